/-! the text: words -/
def wl (i : Nat) : Nat := ([4, 5, 5, 4, 5, 4, 5] : List Nat).getD i 0
def en (i : Nat) : Nat := ([0, 4, 9, 14, 18, 23, 27, 32] : List Nat).getD i 0
def wT (j : Nat) : Int32 := zTextB.getD j 0
def isW (c : Nat → Nat) (b e i : Nat) : Prop := e - b = wl i ∧ ∀ j, j < wl i → nI (c (b + j)) = wT (6 * i + j)
theorem wl_t : ∀ i, i < 7 → wl i ≤ 5 ∧ 1 ≤ wl i ∧ wT (6 * i + wl i) = 32 ∧ (∀ j, j < wl i → ¬ wT (6 * i + j) = 32) ∧ en (i + 1) = en i + wl i ∧ en i + wl i ≤ 32 := by decide +kernel
theorem en_t : ∀ j, j < 8 → ([0, 4, 9, 14, 18, 23, 27, 32] : List Int32).getD j 0 = nI (en j) := by decide +kernel
theorem le_t : ∀ i, i < 7 → ∀ j, j < wl i → ([97, 114, 101, 97, 102, 97, 108, 108, 115, 112, 108, 97, 116, 101, 104, 105, 116, 115, 111, 116, 104, 101, 114, 115, 108, 105, 112, 108, 105, 109, 105, 116] : List Int32).getD (en i + j) 0 = wT (6 * i + j) := by decide +kernel
theorem zchar_n {j : Nat} (h : j < 42) : zchar (nI j) = some (wT j) := by
  unfold zchar
  rw [if_pos (by rw [nI_toInt (by omega)]; omega), nI_clamp (by omega)]
  rfl
theorem xword {n : Nat} {c : Nat → Nat} {u : CX} (h : xTp n c u) {b e i k : Nat} (hbe : b < e) (he : e ≤ n) (hA : ∀ j, b ≤ j → j < e → isA (c j)) (hk : 300 ≤ k) (hi : i < 7) (h1 : xg_kind u = 2) (h2 : xg_start u = nI b) (h3 : xg_tat u = nI e) : (isW c b e i → fX7_isWord k (nI (6 * i)) u = some 1) ∧ (¬ isW c b e i → fX7_isWord k (nI (6 * i)) u = some 0) := by
  obtain ⟨w1, w2, w3, w4, -, -⟩ := wl_t i hi
  have hn := h.1
  unfold fX7_isWord
  rw [zb_e, h1, h2, h3, pk_sub (by omega), if_pos rfl, nI_add]
  have c42 : (42 : Int32) ≤ nI (6 * i + (e - b)) ↔ 42 ≤ 6 * i + (e - b) := nI_leI (a := 42) (by omega) (by omega)
  by_cases q : 42 ≤ 6 * i + (e - b)
  · rw [if_pos (c42.mpr q)]
    exact ⟨fun w => absurd w.1 (by omega), fun _ => rfl⟩
  · rw [if_neg (fun z => q (c42.mp z)), zchar_n (by omega), zbind_s]
    by_cases q2 : wT (6 * i + (e - b)) = 32
    · rw [if_pos q2]
      have stE : ∀ j, j < e - b → bX7_isWord_45 k (nI (6 * i)) (nI (e - b)) u (nI j) = if wT (6 * i + j) = nI (c (b + j)) then some (.inl (nI (j + 1))) else some (.inr (.inl ())) := by
        intro j hj
        have hh := hA (b + j) (by omega) (by omega)
        unfold isA at hh
        unfold bX7_isWord_45
        rw [if_neg (by rw [nI_leI (by omega) (by omega)]; omega), nI_add, zchar_n (by omega), zbind_s, h2, nI_add, zget_n (by omega) (by omega), (h.2.2 (b + j) (by omega)).2, sb_lo _ (by omega), nI_1]
      have exE : bX7_isWord_45 k (nI (6 * i)) (nI (e - b)) u (nI (0 + (e - b))) = some (.inr (.inr ())) := by
        unfold bX7_isWord_45
        rw [Nat.zero_add, if_pos (by rw [nI_leI (by omega) (by omega)]; omega)]
      by_cases hall : ∀ j, j < e - b → nI (c (b + j)) = wT (6 * i + j)
      · have hw : e - b = wl i := by
          rcases Nat.lt_trichotomy (e - b) (wl i) with z | z | z
          · exact absurd q2 (w4 (e - b) z)
          · exact z
          · have hz := hall (wl i) z
            have hh := hA (b + wl i) (by omega) (by omega)
            unfold isA at hh
            rw [w3, show (32 : Int32) = nI 32 from rfl, nI_eq (by omega) (by omega)] at hz
            omega
        have hz := ziter_st (f := bX7_isWord_45 k (nI (6 * i)) (nI (e - b)) u) (fun j => nI j) (.inr ()) (e - b) 0 k (fun j _ hj => by
          have hj : j < e - b := by omega
          show bX7_isWord_45 k (nI (6 * i)) (nI (e - b)) u (nI j) = _
          rw [stE j hj, if_pos (hall j hj).symm]) exE (by omega)
        have hz : ziter (bX7_isWord_45 k (nI (6 * i)) (nI (e - b)) u) k 0 = some (.inr ()) := hz
        rw [hz, zbind_s]
        exact ⟨fun _ => rfl, fun z => absurd ⟨hw, fun j hj => hall j (by omega)⟩ z⟩
      · obtain ⟨r, hr, rfl⟩ := ziter_inv (f := bX7_isWord_45 k (nI (6 * i)) (nI (e - b)) u) (fun j a => a = nI j ∧ ∀ m, m < j → nI (c (b + m)) = wT (6 * i + m)) (fun r => r = .inl ()) (e - b) (by
          rintro j a hj ⟨rfl, hm⟩
          rw [stE j hj]
          by_cases z : wT (6 * i + j) = nI (c (b + j))
          · rw [if_pos z]
            left
            refine ⟨_, rfl, rfl, fun m hm' => ?_⟩
            by_cases e1 : m = j
            · rw [e1]; exact z.symm
            · exact hm m (by omega)
          · rw [if_neg z]
            right
            exact ⟨_, rfl, rfl⟩) (by
          rintro a ⟨rfl, hm⟩
          exact absurd hm hall) (e - b) 0 k (nI 0) (by omega) ⟨rfl, fun m hm => absurd hm (by omega)⟩ (by omega)
        have hr : ziter (bX7_isWord_45 k (nI (6 * i)) (nI (e - b)) u) k 0 = some (.inl ()) := hr
        rw [hr, zbind_s]
        exact ⟨fun w => absurd (fun j hj => w.2 j (by rw [← w.1]; exact hj)) hall, fun _ => rfl⟩
    · rw [if_neg q2]
      exact ⟨fun w => absurd (by rw [w.1]; exact w3) q2, fun _ => rfl⟩
theorem xword_n {u : CX} {a : Int32} {k : Nat} (h1 : ¬ xg_kind u = 2) : fX7_isWord k a u = some 0 := by
  unfold fX7_isWord
  rw [zb_e, if_neg h1]
theorem xline {u : CX} {k : Nat} {q : Nat → Prop} (hq : ∀ i, i < 7 → (q i → fX7_isWord k (nI (6 * i)) u = some 1) ∧ (¬ q i → fX7_isWord k (nI (6 * i)) u = some 0)) (hk : 300 ≤ k) {m : Nat} (hm : m ≤ 7) (h1 : ∀ j, j < m → ¬ q j) (h2 : m < 7 → q m) : fX5_lineNamed k u = some (if m < 7 then nI m else -1) := by
  unfold fX5_lineNamed
  have st : ∀ j, 0 ≤ j → j < 0 + m → bX5_lineNamed_2 k u (nI j) = some (.inl (nI (j + 1))) := by
    intro j _ hj
    unfold bX5_lineNamed_2
    rw [if_neg (by rw [show (7 : Int32) = nI 7 from rfl, nI_leI (by omega) (by omega)]; omega), show (6 : Int32) = nI 6 from rfl, pk_mul, (hq j (by omega)).2 (h1 j (by omega)), zbind_s, if_pos rfl, nI_1]
  by_cases hm7 : m < 7
  · have ex : bX5_lineNamed_2 k u (nI (0 + m)) = some (.inr (.inl (nI m))) := by
      unfold bX5_lineNamed_2
      rw [Nat.zero_add, if_neg (by rw [show (7 : Int32) = nI 7 from rfl, nI_leI (by omega) (by omega)]; omega), show (6 : Int32) = nI 6 from rfl, pk_mul, (hq m hm7).1 (h2 hm7), zbind_s, if_neg (by decide)]
    have hz : ziter (bX5_lineNamed_2 k u) k 0 = some (.inl (nI m)) := ziter_st (f := bX5_lineNamed_2 k u) (fun j => nI j) (.inl (nI m)) m 0 k st ex (by omega)
    rw [hz, zbind_s, if_pos hm7]
    rfl
  · have ex : bX5_lineNamed_2 k u (nI (0 + m)) = some (.inr (.inr ())) := by
      unfold bX5_lineNamed_2
      rw [Nat.zero_add, if_pos (by rw [show (7 : Int32) = nI 7 from rfl, nI_leI (by omega) (by omega)]; omega)]
    have hz : ziter (bX5_lineNamed_2 k u) k 0 = some (.inr ()) := ziter_st (f := bX5_lineNamed_2 k u) (fun j => nI j) (.inr ()) m 0 k st ex (by omega)
    rw [hz, zbind_s, if_neg hm7]
    rfl
theorem mwords {n : Nat} {c : Nat → Nat} {v : MX} (h : mTp n c v) (hC : mConst v) {b e i k : Nat} (hbe : b ≤ e) (he : e ≤ n) (hk : 300 ≤ k) (hi : i < 7) (h2 : mg_place v = nI b) (h3 : mg_spot v = nI e) (hL : e - b = wl i) : (isW c b e i → ziter (bX10_nameHere_51 k (nI i) v) k (1, 0) = some 1) ∧ (¬ isW c b e i → ziter (bX10_nameHere_51 k (nI i) v) k (1, 0) = some 0) := by
  obtain ⟨w1, w2, w3, w4, w5, w6⟩ := wl_t i hi
  have hn := h.1
  have stE : ∀ j, j < e - b → bX10_nameHere_51 k (nI i) v (1, nI j) = if nI (c (b + j)) = wT (6 * i + j) then some (.inl (1, nI (j + 1))) else some (.inl (0, nI (j + 1))) := by
    intro j hj
    unfold bX10_nameHere_51
    dsimp only
    rw [if_neg (by decide), h2, h3, pk_sub hbe, if_neg (by rw [nI_leI (by omega) (by omega)]; omega), nI_add, mbyte h (by omega), zbind_s, zget_n (by omega) (by omega), hC.1 i (by omega), en_t i (by omega), nI_add, zget_n (by omega) (by omega), hC.2.1 (en i + j) (by omega), le_t i hi j (by omega), if_pos (show b + j < n by omega), nI_1]
  have ex0 : ∀ x : Int32, bX10_nameHere_51 k (nI i) v (0, x) = some (.inr 0) := by
    intro x
    unfold bX10_nameHere_51
    dsimp only
    rw [if_pos rfl]
  have ex1 : bX10_nameHere_51 k (nI i) v (1, nI (0 + (e - b))) = some (.inr 1) := by
    unfold bX10_nameHere_51
    dsimp only
    rw [if_neg (by decide), h2, h3, pk_sub hbe, Nat.zero_add, if_pos (by rw [nI_leI (by omega) (by omega)]; omega)]
  by_cases hall : ∀ j, j < e - b → nI (c (b + j)) = wT (6 * i + j)
  · have hz := ziter_st (f := bX10_nameHere_51 k (nI i) v) (fun j => ((1 : Int32), nI j)) 1 (e - b) 0 k (fun j _ hj => by
      have hj : j < e - b := by omega
      show bX10_nameHere_51 k (nI i) v (1, nI j) = _
      rw [stE j hj, if_pos (hall j hj)]) ex1 (by omega)
    exact ⟨fun _ => hz, fun z => absurd ⟨hL, fun j hj => hall j (by omega)⟩ z⟩
  · obtain ⟨r, hr, rfl⟩ := ziter_inv (f := bX10_nameHere_51 k (nI i) v) (fun j a => a.2 = nI j ∧ ((a.1 = 1 ∧ ∀ m, m < j → nI (c (b + m)) = wT (6 * i + m)) ∨ a.1 = 0)) (fun r => r = 0) (e - b) (by
      rintro j ⟨a1, a2⟩ hj ⟨ha2, hm⟩
      have ha2 : a2 = nI j := ha2
      subst ha2
      rcases hm with ⟨ha1, hm⟩ | ha1
      · have ha1 : a1 = 1 := ha1
        subst ha1
        left
        rw [stE j hj]
        by_cases z : nI (c (b + j)) = wT (6 * i + j)
        · rw [if_pos z]
          refine ⟨_, rfl, rfl, Or.inl ⟨rfl, fun m hm' => ?_⟩⟩
          by_cases e1 : m = j
          · rw [e1]; exact z
          · exact hm m (by omega)
        · rw [if_neg z]
          exact ⟨_, rfl, rfl, Or.inr rfl⟩
      · have ha1 : a1 = 0 := ha1
        subst ha1
        right
        exact ⟨_, ex0 _, rfl⟩) (by
      rintro ⟨a1, a2⟩ ⟨ha2, hm⟩
      rcases hm with ⟨ha1, hm⟩ | ha1
      · exact absurd hm hall
      · have ha1 : a1 = 0 := ha1
        subst ha1
        exact ⟨_, ex0 _, rfl⟩) (e - b) 0 k (1, 0) (by omega) ⟨rfl, Or.inl ⟨rfl, fun m hm => absurd hm (by omega)⟩⟩ (by omega)
    exact ⟨fun w => absurd (fun j hj => w.2 j (by rw [← w.1]; exact hj)) hall, fun _ => hr⟩
theorem mword {n : Nat} {c : Nat → Nat} {v : MX} (h : mTp n c v) (hC : mConst v) {b e t i k : Nat} (hbe : b ≤ e) (he : e ≤ n) (ht : t < 6) (hk : 300 ≤ k) (hi : i < 7) (h1 : mg_token v = nI t) (h2 : mg_place v = nI b) (h3 : mg_spot v = nI e) : (t = 1 ∧ isW c b e i → bX10_nameHere_2 k v (nI i) = some (.inr (.inl (nI i)))) ∧ (¬ (t = 1 ∧ isW c b e i) → bX10_nameHere_2 k v (nI i) = some (.inl (nI (i + 1)))) := by
  obtain ⟨w1, w2, w3, w4, w5, w6⟩ := wl_t i hi
  have hn := h.1
  have z0 : ziter (bX10_nameHere_51 k (nI i) v) k (0, 0) = some 0 := by
    obtain ⟨k', rfl⟩ : ∃ k', k = k' + 1 := ⟨k - 1, by omega⟩
    refine ziter_r ?_
    unfold bX10_nameHere_51
    dsimp only
    rw [if_pos rfl]
  have z0b : ∀ x y : Option (Int32 ⊕ (Int32 ⊕ Unit)), (ziter (bX10_nameHere_51 k (nI i) v) k (0, 0)).bind (fun b => if b = 0 then x else y) = x := by
    intro x y
    rw [z0, zbind_s, if_pos rfl]
  unfold bX10_nameHere_2
  rw [if_neg (by rw [show (7 : Int32) = nI 7 from rfl, nI_leI (by omega) (by omega)]; omega), h1, h2, h3, z0b, nI_1]
  by_cases q : t = 1
  · subst q
    rw [if_pos (show nI 1 = (1 : Int32) from rfl), zget_n (by omega) (by omega), zget_n (by omega) (by omega), hC.1 (i + 1) (by omega), hC.1 i (by omega), en_t (i + 1) (by omega), en_t i (by omega), w5, pk_sub hbe, pk_sub (show en i ≤ en i + wl i by omega), show en i + wl i - en i = wl i by omega]
    by_cases hL : e - b = wl i
    · rw [if_pos (by rw [hL])]
      obtain ⟨m1, m2⟩ := mwords h hC hbe he hk hi h2 h3 hL
      constructor
      · intro w
        rw [m1 w.2, zbind_s, if_neg (by decide)]
      · intro w
        rw [m2 (fun z => w ⟨rfl, z⟩), zbind_s, if_pos rfl]
    · rw [if_neg (by rw [nI_eq (by omega) (by omega)]; exact hL)]
      exact ⟨fun w => absurd w.2.1 hL, fun _ => rfl⟩
  · rw [if_neg (by rw [show (1 : Int32) = nI 1 from rfl, nI_eq (by omega) (by omega)]; exact q)]
    exact ⟨fun w => absurd w.1 q, fun _ => rfl⟩
theorem mname {v : MX} {k : Nat} {q : Nat → Prop} (hq : ∀ i, i < 7 → (q i → bX10_nameHere_2 k v (nI i) = some (.inr (.inl (nI i)))) ∧ (¬ q i → bX10_nameHere_2 k v (nI i) = some (.inl (nI (i + 1))))) (hk : 300 ≤ k) {m : Nat} (hm : m ≤ 7) (h1 : ∀ j, j < m → ¬ q j) (h2 : m < 7 → q m) : fX10_nameHere k v = some (if m < 7 then nI m else -4) := by
  unfold fX10_nameHere
  have st : ∀ j, 0 ≤ j → j < 0 + m → bX10_nameHere_2 k v (nI j) = some (.inl (nI (j + 1))) := fun j _ hj => (hq j (by omega)).2 (h1 j (by omega))
  by_cases hm7 : m < 7
  · have ex : bX10_nameHere_2 k v (nI (0 + m)) = some (.inr (.inl (nI m))) := by
      rw [Nat.zero_add]
      exact (hq m hm7).1 (h2 hm7)
    have hz : ziter (bX10_nameHere_2 k v) k 0 = some (.inl (nI m)) := ziter_st (f := bX10_nameHere_2 k v) (fun j => nI j) (.inl (nI m)) m 0 k st ex (by omega)
    rw [hz, zbind_s, if_pos hm7]
    rfl
  · have ex : bX10_nameHere_2 k v (nI (0 + m)) = some (.inr (.inr ())) := by
      unfold bX10_nameHere_2
      rw [Nat.zero_add, if_pos (by rw [show (7 : Int32) = nI 7 from rfl, nI_leI (by omega) (by omega)]; omega)]
    have hz : ziter (bX10_nameHere_2 k v) k 0 = some (.inr ()) := ziter_st (f := bX10_nameHere_2 k v) (fun j => nI j) (.inr ()) m 0 k st ex (by omega)
    rw [hz, zbind_s, if_neg hm7]
    rfl
theorem kX_2 : ∀ t, t < 6 → ¬ t = 1 → ¬ kX t = 2 := by decide
/-- both find the same word -/
theorem two_name {n : Nat} {c : Nat → Nat} {u : CX} {v : MX} (hx : xTp n c u) (hm : mTp n c v) (hC : mConst v) {b e t k : Nat} (hbe : b ≤ e) (he : e ≤ n) (hT : TokK n c b e t) (hk : 300 ≤ k) (x1 : xg_kind u = kX t) (x2 : xg_start u = nI b) (x3 : xg_tat u = nI e) (m1 : mg_token v = nI t) (m2 : mg_place v = nI b) (m3 : mg_spot v = nI e) : (fX5_lineNamed k u = some (-1) ∧ fX10_nameHere k v = some (-4)) ∨ ∃ i, i < 7 ∧ t = 1 ∧ fX5_lineNamed k u = some (nI i) ∧ fX10_nameHere k v = some (nI i) := by
  have ht := (tok_lt hT).1
  obtain ⟨m, -, g2, g3, g4⟩ := ex_end (fun j => ¬ (t = 1 ∧ isW c b e j)) 7 7 0 (by omega)
  have g5 : m < 7 → (t = 1 ∧ isW c b e m) := fun z => Classical.not_not.mp (g4 z)
  have hX := xline (u := u) (k := k) (q := fun j => t = 1 ∧ isW c b e j) (by
    intro i hi
    by_cases q : t = 1
    · subst q
      rcases hT with ⟨z, _⟩ | ⟨-, z1, z2, z3⟩ | ⟨z, _⟩ | ⟨z, _⟩ | ⟨z, _⟩ | ⟨z, _⟩
      · omega
      · obtain ⟨p1, p2⟩ := xword hx z1 he z2 hk hi x1 x2 x3
        exact ⟨fun w => p1 w.2, fun w => p2 (fun z => w ⟨rfl, z⟩)⟩
      · omega
      · omega
      · omega
      · omega
    · exact ⟨fun w => absurd w.1 q, fun _ => xword_n (by rw [x1]; exact kX_2 t ht q)⟩) hk g2 (fun j hj => g3 j (by omega) hj) g5
  have hM := mname (v := v) (k := k) (q := fun j => t = 1 ∧ isW c b e j) (fun i hi => mword hm hC hbe he ht hk hi m1 m2 m3) hk g2 (fun j hj => g3 j (by omega) hj) g5
  by_cases z : m < 7
  · rw [if_pos z] at hX hM
    exact Or.inr ⟨m, z, (g5 z).1, hX, hM⟩
  · rw [if_neg z] at hX hM
    exact Or.inl ⟨hX, hM⟩
