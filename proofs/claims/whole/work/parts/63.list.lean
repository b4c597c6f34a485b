/-! the list of the laws, walked -/
theorem Lf_pre {b : Nat → Bool} {i : Nat} : ∀ m, ∃ R, Lf b (i + m) = Lf b i ++ R := by
  intro m
  induction m with
  | zero => exact ⟨[], (List.append_nil _).symm⟩
  | succ m ih =>
    obtain ⟨R, e⟩ := ih
    by_cases c : b (i + m) = true
    · refine ⟨R ++ [i + m], ?_⟩
      rw [show i + (m + 1) = i + m + 1 by omega, Lf_t c, e, List.append_assoc]
    · refine ⟨R, ?_⟩
      rw [show i + (m + 1) = i + m + 1 by omega, Lf_f c, e]
theorem Lf_A {b : Nat → Bool} {i N : Nat} (hi : i < N) (hb : b i = true) : (Lf b i).length < (Lf b N).length ∧ (Lf b N).getD (Lf b i).length 0 = i := by
  obtain ⟨R, e⟩ := Lf_pre (b := b) (i := i + 1) (N - (i + 1))
  rw [show i + 1 + (N - (i + 1)) = N by omega, Lf_t hb, List.append_assoc] at e
  rw [e, List.length_append, List.length_append]
  refine ⟨by show _ < _ + (1 + _); omega, ?_⟩
  rw [List.getD_eq_getElem?_getD, List.getElem?_append_right (Nat.le_refl _), Nat.sub_self]
  rfl
theorem Lf_B {b : Nat → Bool} : ∀ (N m : Nat), m < (Lf b N).length → (Lf b N).getD m 0 < N ∧ b ((Lf b N).getD m 0) = true ∧ (Lf b ((Lf b N).getD m 0)).length = m := by
  intro N
  induction N with
  | zero => intro m hm; exact absurd hm (by show ¬ m < 0; omega)
  | succ N ih =>
    intro m hm
    by_cases c : b N = true
    · rw [Lf_t c, List.length_append] at hm
      have h1 : [N].length = 1 := rfl
      rw [Lf_t c]
      by_cases d : m < (Lf b N).length
      · have e : (Lf b N ++ [N]).getD m 0 = (Lf b N).getD m 0 := by rw [List.getD_eq_getElem?_getD, List.getD_eq_getElem?_getD, List.getElem?_append_left d]
        rw [e]
        obtain ⟨q1, q2, q3⟩ := ih m d
        exact ⟨by omega, q2, q3⟩
      · obtain rfl : m = (Lf b N).length := by omega
        have e : (Lf b N ++ [N]).getD (Lf b N).length 0 = N := by
          rw [List.getD_eq_getElem?_getD, List.getElem?_append_right (Nat.le_refl _), Nat.sub_self]
          rfl
        rw [e]
        exact ⟨by omega, c, rfl⟩
    · rw [Lf_f c] at hm ⊢
      obtain ⟨q1, q2, q3⟩ := ih m hm
      exact ⟨by omega, q2, q3⟩
/-- the m-th of a list, or NONE -/
def nth (L : List Nat) (m : Nat) : Int32 := if m < L.length then nI (L.getD m 0) else -4
theorem mff {b : Nat → Bool} {v : MX} (hg : ∀ law, law < 14641 → mg_good v law = bI (b law)) {k : Nat} (hk : 20000 ≤ k) {i : Nat} (hi : i ≤ 14641) : fX10_firstFrom k (nI i) v = some (nth (Lf b 14641) (Lf b i).length) := by
  unfold fX10_firstFrom
  have go : ∀ m k' i, i + m = 14641 → m < k' → (ziter (bX10_firstFrom_2 k v) k' (nI i)).bind (fun b2 => if (14641 : Int32) ≤ b2 then some (-4 : Int32) else some b2) = some (nth (Lf b 14641) (Lf b i).length) := by
    have st : ∀ i, i < 14641 → bX10_firstFrom_2 k v (nI i) = if b i = true then some (.inr (nI i)) else some (.inl (nI (i + 1))) := by
      intro i hi
      unfold bX10_firstFrom_2
      rw [if_neg (by rw [show (14641 : Int32) = nI 14641 from rfl, nI_leI (by omega) (by omega)]; omega), zget_n hi (by omega), hg i hi, bI_if, nI_1]
    have ex : bX10_firstFrom_2 k v (nI 14641) = some (.inr (nI 14641)) := rfl
    generalize bX10_firstFrom_2 k v = f at st ex
    intro m
    induction m with
    | zero =>
      intro k' i hi hk'
      obtain ⟨k'', rfl⟩ : ∃ k'', k' = k'' + 1 := ⟨k' - 1, by omega⟩
      obtain rfl : i = 14641 := by omega
      rw [ziter_r ex, zbind_s, if_pos (by decide)]
      unfold nth
      rw [if_neg (by omega)]
    | succ m ih =>
      intro k' i hi hk'
      obtain ⟨k'', rfl⟩ : ∃ k'', k' = k'' + 1 := ⟨k' - 1, by omega⟩
      by_cases c : b i = true
      · have e := st i (by omega)
        rw [if_pos c] at e
        rw [ziter_r e, zbind_s, if_neg (by rw [show (14641 : Int32) = nI 14641 from rfl, nI_leI (by omega) (by omega)]; omega)]
        obtain ⟨q1, q2⟩ := Lf_A (N := 14641) (by omega) c
        unfold nth
        rw [if_pos q1, q2]
      · have e := st i (by omega)
        rw [if_neg c] at e
        rw [ziter_l e, ih k'' (i + 1) (by omega) (by omega), Lf_f c]
  exact go (14641 - i) k i (by omega) (by omega)
theorem mff0 {b : Nat → Bool} {v : MX} (hg : ∀ law, law < 14641 → mg_good v law = bI (b law)) {k : Nat} (hk : 20000 ≤ k) : fX10_firstFrom k (0 : Int32) v = some (nth (Lf b 14641) 0) := mff (i := 0) hg hk (by omega)
theorem mffn {b : Nat → Bool} {v : MX} (hg : ∀ law, law < 14641 → mg_good v law = bI (b law)) {k : Nat} (hk : 20000 ≤ k) {m : Nat} (hm : m < (Lf b 14641).length) : fX10_firstFrom k (nth (Lf b 14641) m + (1 : Int32)) v = some (nth (Lf b 14641) (m + 1)) := by
  obtain ⟨q1, q2, q3⟩ := Lf_B 14641 m hm
  have e : nth (Lf b 14641) m = nI ((Lf b 14641).getD m 0) := if_pos hm
  rw [e, nI_1, mff hg hk (by omega), Lf_t q2, List.length_append, q3]
  rfl
theorem nth_in {b : Nat → Bool} {m : Nat} (hm : m < (Lf b 14641).length) : nth (Lf b 14641) m = nI ((Lf b 14641).getD m 0) ∧ (Lf b 14641).getD m 0 < 14641 ∧ ¬ nth (Lf b 14641) m = -4 := by
  obtain ⟨q1, q2, q3⟩ := Lf_B 14641 m hm
  have e : nth (Lf b 14641) m = nI ((Lf b 14641).getD m 0) := if_pos hm
  refine ⟨e, q1, ?_⟩
  rw [e]
  exact nI_ne_neg (by omega) (by decide)
theorem nth_out {L : List Nat} : nth L L.length = -4 := if_neg (by omega)
theorem mfalls {law p : Nat} (h : law < 14641) (hp : p < 4) {k : Nat} (hk : 20 ≤ k) : fX10_fallsOf k (nI law) (nI p) = some (nI (fg law p)) := by
  unfold fX10_fallsOf
  have st : ∀ L i, L < 14641 → p < i → i < 4 → bX10_fallsOf_4 k (nI p) (nI L, nI i) = some (.inl (nI (L / 11), nI (i - 1))) := by
    intro L i hL h1 h2
    unfold bX10_fallsOf_4
    dsimp only
    obtain ⟨i', rfl⟩ : ∃ i', i = i' + 1 := ⟨i - 1, by omega⟩
    rw [if_neg (by rw [nI_leI (by omega) (by omega)]; omega), zdi_n (by decide), zb_e, show (11 : Int32) = nI 11 from rfl, pk_div (by omega) (by omega) (by omega), pk_m1]
    rfl
  have ex : ∀ L, bX10_fallsOf_4 k (nI p) (nI L, nI p) = some (.inr (nI L)) := by
    intro L
    unfold bX10_fallsOf_4
    dsimp only
    rw [if_pos (by rw [nI_leI (by omega) (by omega)]; omega)]
  have er : ∀ L, L < 14641 → zremI (nI L) (11 : Int32) = nI (L % 11) := fun L hL => pk_rem (a := L) (d := 11) (by omega) (by omega) (by omega)
  have d2 : law / 11 / 11 = law / 121 := by rw [Nat.div_div_eq_div_mul]
  have d3 : law / 121 / 11 = law / 1331 := by rw [Nat.div_div_eq_div_mul]
  obtain ⟨k', rfl⟩ : ∃ k', k = k' + 1 + 1 + 1 + 1 := ⟨k - 4, by omega⟩
  rw [show (3 : Int32) = nI 3 from rfl]
  match p, hp with
  | 0, _ =>
    rw [ziter_l (st _ 3 h (by omega) (by omega)), ziter_l (st _ 2 (by omega) (by omega) (by omega)), ziter_l (st _ 1 (by omega) (by omega) (by omega)), ziter_r (ex _), zbind_s, zdi_n (by decide), er _ (by omega), d2, d3, Nat.mod_eq_of_lt (by omega)]
    rfl
  | 1, _ =>
    rw [ziter_l (st _ 3 h (by omega) (by omega)), ziter_l (st _ 2 (by omega) (by omega) (by omega)), ziter_r (ex _), zbind_s, zdi_n (by decide), er _ (by omega), d2]
    rfl
  | 2, _ =>
    rw [ziter_l (st _ 3 h (by omega) (by omega)), ziter_r (ex _), zbind_s, zdi_n (by decide), er _ (by omega)]
    rfl
  | 3, _ =>
    rw [ziter_r (ex _), zbind_s, zdi_n (by decide), er _ (by omega)]
    rfl
theorem cM_le (g : Nat → Bool) : ∀ m, cM g m ≤ m := by
  intro m
  induction m with
  | zero => exact Nat.le_refl _
  | succ m ih =>
    show cM g m + _ ≤ _
    split <;> omega
theorem cM_pos (g : Nat → Bool) : ∀ m, 0 < cM g m ↔ ∃ i, i < m ∧ g i = true := by
  intro m
  induction m with
  | zero => exact ⟨fun z => absurd z (by show ¬ 0 < 0; omega), fun ⟨i, h, _⟩ => by omega⟩
  | succ m ih =>
    show 0 < cM g m + _ ↔ _
    by_cases c : g m = true
    · rw [if_pos c]
      exact ⟨fun _ => ⟨m, by omega, c⟩, fun _ => by omega⟩
    · rw [if_neg c]
      rw [Nat.add_zero, ih]
      exact ⟨fun ⟨i, h1, h2⟩ => ⟨i, by omega, h2⟩, fun ⟨i, h1, h2⟩ => by
        have : i ≠ m := fun e => c (e ▸ h2)
        exact ⟨i, by omega, h2⟩⟩
