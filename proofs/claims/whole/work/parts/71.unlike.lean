/-! unlike -/
theorem find_s {q : Nat → Bool} : ∀ (r : List Nat) (i : Nat), i < r.length → (∀ j, j < i → ¬ q (r.getD j 0) = true) → q (r.getD i 0) = true → r.find? q = some (r.getD i 0) := by
  intro r
  induction r with
  | nil => intro i hi; exact absurd hi (by show ¬ i < 0; omega)
  | cons a r ih =>
    intro i hi hn hp
    cases i with
    | zero =>
      have e : q a = true := hp
      rw [List.find?_cons_of_pos e]
      rfl
    | succ i =>
      have e : ¬ q a = true := hn 0 (by omega)
      rw [List.find?_cons_of_neg e]
      have hi' : i < r.length := by
        have : (a :: r).length = r.length + 1 := rfl
        omega
      exact ih i hi' (fun j hj => hn (j + 1) (by omega)) hp
theorem find_n {q : Nat → Bool} : ∀ (r : List Nat), (∀ j, j < r.length → ¬ q (r.getD j 0) = true) → r.find? q = none := by
  intro r
  induction r with
  | nil => intro _; rfl
  | cons a r ih =>
    intro hn
    have hl : (a :: r).length = r.length + 1 := rfl
    have e : ¬ q a = true := hn 0 (by omega)
    rw [List.find?_cons_of_neg e]
    exact ih (fun j hj => hn (j + 1) (by omega))
theorem unl_s {P : Nat → Nat} {L : List Nat} {i : Nat} (hi : i < L.length) (h1 : 1 ≤ i) (hn : ∀ j, 1 ≤ j → j < i → bestV P (L.getD j 0) = bestV P (L.getD 0 0)) (hp : ¬ bestV P (L.getD i 0) = bestV P (L.getD 0 0)) : unlV P L = some (L.getD i 0) := by
  cases L with
  | nil => exact absurd hi (by show ¬ i < 0; omega)
  | cons a r =>
    obtain ⟨i', rfl⟩ : ∃ i', i = i' + 1 := ⟨i - 1, by omega⟩
    have hl : (a :: r).length = r.length + 1 := rfl
    exact find_s (q := fun law => decide (bestV P law ≠ bestV P a)) r i' (by omega) (fun j hj z => by
      rw [decide_eq_true_iff] at z
      exact z (hn (j + 1) (by omega) (by omega))) (decide_eq_true hp)
theorem unl_n {P : Nat → Nat} {L : List Nat} (hn : ∀ j, 1 ≤ j → j < L.length → bestV P (L.getD j 0) = bestV P (L.getD 0 0)) : unlV P L = none := by
  cases L with
  | nil => rfl
  | cons a r =>
    have hl : (a :: r).length = r.length + 1 := rfl
    exact find_n (q := fun law => decide (bestV P law ≠ bestV P a)) r (fun j hj z => by
      rw [decide_eq_true_iff] at z
      exact z (hn (j + 1) (by omega) (by omega)))
def unI (o : Option Nat) : Int32 := match o with
  | none => -4
  | some l => nI l
theorem xunl {P : Nat → Nat} {u : CX} (hP : rP P) (hT : xTm P u) (hl : xPl P u) {L : List Nat} (hL : xLs L u) (hlen : L.length ≤ 14641) (hb : ∀ m, m < L.length → L.getD m 0 < 14641) (h0 : 0 < L.length) {k : Nat} (hk : 20000 ≤ k) (hs : xg_unlikeF u = -9) : ∃ f, fX2_unlikeLaw k u = some (unI (unlV P L), xs_unlikeF (xs_stands u f) (unI (unlV P L))) := by
  obtain ⟨bb, lo, hi, hLb, hkp, y0, y1, y2, y3, y4, y5, y6, y7, y8⟩ := hL.2.2.2 h0
  have hT1 : xTm P (xs_unlikeF u (-4)) := hT
  have hl1 : xPl P (xs_unlikeF u (-4)) := hl
  obtain ⟨f0, e0⟩ := xbestFor hP hT1 hl1 (show lo < 14641 by omega) (k := k) (by omega)
  have hne : ∀ {x y : Nat}, x < 16 → y < 16 → (nI x = nI y ↔ x = y) := fun h1 h2 => nI_eq (by omega) (by omega)
  have yl : (Lf bb (lo + 1)).length = 1 := by rw [Lf_t y2, List.length_append, y3]; rfl
  have key : ∃ b, ziter (bX2_unlikeLaw_31 k (nI (bestV P (L.getD 0 0)))) k (nI (lo + 1), xs_stands (xs_unlikeF u (-4)) f0) = some b ∧ ∃ f, b = xs_unlikeF (xs_stands u f) (unI (unlV P L)) := by
    refine ziter_inv (fun i a => ∃ f, a.1 = nI i ∧ 1 ≤ (Lf bb i).length ∧ ((a.2 = xs_unlikeF (xs_stands u f) (-4) ∧ ∀ j, 1 ≤ j → j < (Lf bb i).length → bestV P (L.getD j 0) = bestV P (L.getD 0 0)) ∨ ∃ l, l < 14641 ∧ unlV P L = some l ∧ a.2 = xs_unlikeF (xs_stands u f) (nI l))) _ (hi + 1) ?_ ?_ (hi - lo) (lo + 1) k _ (by omega) ⟨f0, rfl, by omega, Or.inl ⟨rfl, fun j h1 h2 => by omega⟩⟩ (by omega)
    · rintro i ⟨a, b⟩ hi2 ⟨f, h1, h2, h3⟩
      dsimp only at h1 h2 h3
      subst h1
      have hli : i < 14641 := by omega
      rcases h3 with ⟨rfl, q3⟩ | ⟨l, q0, q1, rfl⟩
      · left
        have hT2 : xTm P (xs_unlikeF (xs_stands u f) (-4)) := hT
        have hl2 : xPl P (xs_unlikeF (xs_stands u f) (-4)) := hl
        obtain ⟨f', e'⟩ := xbestFor hP hT2 hl2 hli (k := k) (by omega)
        unfold bX2_unlikeLaw_31
        dsimp only
        rw [show xg_gmost (xs_unlikeF (xs_stands u f) (-4)) = nI hi from y6, if_neg (by rw [nI_ltI (by omega) (by omega)]; omega), if_pos (show xg_unlikeF (xs_unlikeF (xs_stands u f) (-4)) = -4 from rfl), show fX2_isKept (nI i) (xs_unlikeF (xs_stands u f) (-4)) = some (bI (bb i)) from hkp i hli, bI_bind, e', zbind_s]
        dsimp only
        rw [zb_e, nI_1]
        rcases Lf_step (b := bb) hli with ⟨s1, s2, s3, s4⟩ | ⟨s1, s2⟩
        · rw [if_pos s1]
          rw [← hLb] at s2 s3
          by_cases c : bestV P i = bestV P (L.getD 0 0)
          · rw [if_pos ((hne bestV_lt bestV_lt).mpr c)]
            refine ⟨_, rfl, f', rfl, by omega, Or.inl ⟨rfl, ?_⟩⟩
            intro j j1 j2
            by_cases cj : j = (Lf bb i).length
            · rw [cj, s3]; exact c
            · exact q3 j j1 (by omega)
          · rw [if_neg (fun z => c ((hne bestV_lt bestV_lt).mp z))]
            refine ⟨_, rfl, f', rfl, by omega, Or.inr ⟨i, hli, ?_, rfl⟩⟩
            have hu := unl_s (P := P) (L := L) (i := (Lf bb i).length) s2 h2 (fun j j1 j2 => q3 j j1 j2) (by rw [s3]; exact c)
            rw [s3] at hu
            exact hu
        · rw [s1, if_neg (by decide)]
          exact ⟨_, rfl, f, rfl, by omega, Or.inl ⟨rfl, by rw [s2]; exact q3⟩⟩
      · right
        refine ⟨xs_unlikeF (xs_stands u f) (nI l), ?_, f, by rw [q1]; rfl⟩
        unfold bX2_unlikeLaw_31
        dsimp only
        rw [show xg_gmost (xs_unlikeF (xs_stands u f) (nI l)) = nI hi from y6, if_neg (by rw [nI_ltI (by omega) (by omega)]; omega), if_neg (show ¬ xg_unlikeF (xs_unlikeF (xs_stands u f) (nI l)) = -4 from nI_ne_neg (l := l) (by omega) (by decide))]
    · rintro ⟨a, b⟩ ⟨f, h1, h2, h3⟩
      dsimp only at h1 h2 h3
      subst h1
      rcases h3 with ⟨rfl, q3⟩ | ⟨l, q0, q1, rfl⟩
      · refine ⟨xs_unlikeF (xs_stands u f) (-4), ?_, f, by rw [unl_n (fun j j1 j2 => q3 j j1 (by omega))]; rfl⟩
        unfold bX2_unlikeLaw_31
        dsimp only
        rw [show xg_gmost (xs_unlikeF (xs_stands u f) (-4)) = nI hi from y6, if_pos (by rw [nI_ltI (by omega) (by omega)]; omega)]
      · refine ⟨xs_unlikeF (xs_stands u f) (nI l), ?_, f, by rw [q1]; rfl⟩
        unfold bX2_unlikeLaw_31
        dsimp only
        rw [show xg_gmost (xs_unlikeF (xs_stands u f) (nI l)) = nI hi from y6, if_pos (by rw [nI_ltI (by omega) (by omega)]; omega)]
  obtain ⟨b, e, f, rfl⟩ := key
  rw [y7] at e
  unfold fX2_unlikeLaw
  rw [if_pos hs, zb_e, show xg_gleast (xs_unlikeF u (-4)) = nI lo from y5, e0, zbind_s]
  dsimp only
  rw [zb_e, show xg_gleast (xs_stands (xs_unlikeF u (-4)) f0) = nI lo from y5, nI_1, e, zbind_s]
  exact ⟨f, rfl⟩
theorem munl {P : Nat → Nat} {v : MX} (hP : rP P) (hM : mHd P v) {L : List Nat} {k : Nat} (hk : 20000 ≤ k) (hlen : L.length ≤ 14641) (h0 : 0 < L.length) (hn : ∀ m, m < L.length → nth L m = nI (L.getD m 0) ∧ L.getD m 0 < 14641 ∧ ¬ nth L m = -4) (hfn : ∀ m, m < L.length → fX10_firstFrom k (nth L m + (1 : Int32)) v = some (nth L (m + 1))) (a1 a2 : Int32) (h : (Nat → Int32) × Int64 × Int64 × Int64) : ∃ h', ziter (bX10_unlike_48 k a1 a2 (nI (bestV P (L.getD 0 0)))) k (nth L 1, ms_lw v h) = some (unI (unlV P L), ms_lw v h') := by
  have hne : ∀ {x y : Nat}, x < 16 → y < 16 → (nI x = nI y ↔ x = y) := fun h1 h2 => nI_eq (by omega) (by omega)
  have key : ∃ b, ziter (bX10_unlike_48 k a1 a2 (nI (bestV P (L.getD 0 0)))) k (nth L 1, ms_lw v h) = some b ∧ ∃ h', b = (unI (unlV P L), ms_lw v h') := by
    refine ziter_inv (fun i a => ∃ h', a = (nth L (i + 1), ms_lw v h') ∧ ∀ j, 1 ≤ j → j < i + 1 → bestV P (L.getD j 0) = bestV P (L.getD 0 0)) _ (L.length - 1) ?_ ?_ (L.length - 1) 0 k _ (by omega) ⟨h, rfl, fun j h1 h2 => by omega⟩ (by omega)
    · rintro i a hi ⟨h', rfl, q3⟩
      obtain ⟨n1, n2, n3⟩ := hn (i + 1) (by omega)
      have hM' : mHd P (ms_lw v h') := hM
      obtain ⟨g, e⟩ := mbest hP hM' n2 (k := k) (by omega)
      have hfn' := hfn (i + 1) (by omega)
      unfold bX10_unlike_48
      dsimp only
      rw [if_neg n3]
      rw [n1] at hfn' ⊢
      rw [e, zbind_s]
      dsimp only
      rw [show fX10_firstFrom k (nI (L.getD (i + 1) 0) + 1) (ms_lw (ms_lw v h') g) = some (nth L (i + 1 + 1)) from hfn', zbind_s]
      by_cases c : bestV P (L.getD (i + 1) 0) = bestV P (L.getD 0 0)
      · left
        rw [if_pos ((hne bestV_lt bestV_lt).mpr c)]
        refine ⟨_, rfl, g, rfl, ?_⟩
        intro j j1 j2
        by_cases cj : j = i + 1
        · rw [cj]; exact c
        · exact q3 j j1 (by omega)
      · right
        rw [if_neg (fun z => c ((hne bestV_lt bestV_lt).mp z))]
        refine ⟨_, rfl, g, ?_⟩
        rw [unl_s (i := i + 1) (by omega) (by omega) (fun j j1 j2 => q3 j j1 (by omega)) c]
        rfl
    · rintro a ⟨h', rfl, q3⟩
      have e : L.length - 1 + 1 = L.length := by omega
      rw [e] at q3 ⊢
      refine ⟨(nth L L.length, ms_lw v h'), ?_, h', ?_⟩
      · unfold bX10_unlike_48
        dsimp only
        rw [if_pos nth_out]
      · rw [unl_n q3, nth_out]
        rfl
  obtain ⟨b, e, h', rfl⟩ := key
  exact ⟨h', e⟩
theorem sz_d : ∀ a, a < 11 → ∀ b, b < 11 → fX10_size ((nI a - nI b).toInt64) = some (lN (ds a b)) := by decide
/-- the part in which two laws are farthest apart -/
def faP (D : Nat → Nat) : Nat → Nat
  | 0 => 0
  | i + 1 => if D i ≤ D (faP D i) then faP D i else i
theorem faP_lt (D : Nat → Nat) : ∀ i, faP D i ≤ i - 1 := by
  intro i
  induction i with
  | zero => exact Nat.le_refl _
  | succ i ih =>
    show (if _ then _ else _) ≤ _
    split <;> omega
theorem two_fart {l o : Nat} (hl : l < 14641) (ho : o < 14641) {v : MX} (a1 : Int32) {k : Nat} (hk : 20 ≤ k) : ∃ r, fX9_farthestPart k (nI l) (nI o) = some r ∧ ziter (bX10_unlike_94 k a1 (nI l) (nI o) v) k ((0 : Int32), (1 : Int32)) = some r := by
  have hD : ∀ p, ds (fg l p) (fg o p) ≤ 10 := by
    intro p
    have := fg_le (p := p) hl
    have := fg_le (p := p) ho
    unfold ds
    omega
  refine ⟨nI (faP (fun p => ds (fg l p) (fg o p)) 4), ?_, ?_⟩
  · unfold fX9_farthestPart
    have st0 : bX9_farthestPart_7 k (nI l) (nI o) ((0 : Int32), (-1 : Int32), (0 : Int32)) = some (.inl (nI (faP (fun p => ds (fg l p) (fg o p)) 1), nI (ds (fg l 0) (fg o 0)), nI 1)) := by
      unfold bX9_farthestPart_7
      dsimp only
      have e1 : faP (fun p => ds (fg l p) (fg o p)) 1 = 0 := by
        show (if _ then 0 else 0) = 0
        split <;> rfl
      have := fg_le (p := 0) hl
      have := fg_le (p := 0) ho
      have := hD 0
      rw [if_neg (by decide), show (0 : Int32) = nI 0 from rfl, xfig hl (by omega), zbind_s, xfig ho (by omega), zbind_s, zb_e, absI (by omega) (by omega), if_neg (by rw [Int32.le_iff_toInt_le, nI_toInt (by omega), show (-1 : Int32).toInt = -1 from rfl]; omega), e1]
      rfl
    have st : ∀ i, 1 ≤ i → i < 4 → bX9_farthestPart_7 k (nI l) (nI o) (nI (faP (fun p => ds (fg l p) (fg o p)) i), nI (ds (fg l (faP (fun p => ds (fg l p) (fg o p)) i)) (fg o (faP (fun p => ds (fg l p) (fg o p)) i))), nI i) = some (.inl (nI (faP (fun p => ds (fg l p) (fg o p)) (i + 1)), nI (ds (fg l (faP (fun p => ds (fg l p) (fg o p)) (i + 1))) (fg o (faP (fun p => ds (fg l p) (fg o p)) (i + 1)))), nI (i + 1))) := by
      intro i h1 hi
      have := fg_le (p := i) hl
      have := fg_le (p := i) ho
      have := hD i
      have hs : faP (fun p => ds (fg l p) (fg o p)) (i + 1) = if ds (fg l i) (fg o i) ≤ ds (fg l (faP (fun p => ds (fg l p) (fg o p)) i)) (fg o (faP (fun p => ds (fg l p) (fg o p)) i)) then faP (fun p => ds (fg l p) (fg o p)) i else i := rfl
      generalize faP (fun p => ds (fg l p) (fg o p)) i = A at hs
      have := hD A
      unfold bX9_farthestPart_7
      dsimp only
      rw [if_neg (by rw [show (4 : Int32) = nI 4 from rfl, nI_leI (by omega) (by omega)]; omega), xfig hl hi, zbind_s, xfig ho hi, zbind_s, zb_e, absI (by omega) (by omega), nI_1]
      by_cases c : ds (fg l i) (fg o i) ≤ ds (fg l A) (fg o A)
      · rw [if_pos c] at hs
        rw [if_pos (by rw [nI_leI (by omega) (by omega)]; exact c), hs]
      · rw [if_neg c] at hs
        rw [if_neg (by rw [nI_leI (by omega) (by omega)]; exact c), hs]
    have ex : ∀ c d, bX9_farthestPart_7 k (nI l) (nI o) (c, d, nI 4) = some (.inr c) := fun c d => rfl
    have e1 : faP (fun p => ds (fg l p) (fg o p)) 1 = 0 := by
      show (if _ then 0 else 0) = 0
      split <;> rfl
    have st1 := st 1 (by omega) (by omega)
    rw [e1] at st1
    rw [e1] at st0
    generalize bX9_farthestPart_7 k (nI l) (nI o) = f at st0 st st1 ex
    obtain ⟨k', rfl⟩ : ∃ k', k = k' + 1 + 1 + 1 + 1 + 1 := ⟨k - 5, by omega⟩
    rw [ziter_l st0, ziter_l st1, ziter_l (st 2 (by omega) (by omega)), ziter_l (st 3 (by omega) (by omega)), ziter_r (ex _ _), zbind_s]
  · have st : ∀ i, 1 ≤ i → i < 4 → bX10_unlike_94 k a1 (nI l) (nI o) v (nI (faP (fun p => ds (fg l p) (fg o p)) i), nI i) = some (.inl (nI (faP (fun p => ds (fg l p) (fg o p)) (i + 1)), nI (i + 1))) := by
      intro i h1 hi
      have hlt := faP_lt (fun p => ds (fg l p) (fg o p)) i
      have hs : faP (fun p => ds (fg l p) (fg o p)) (i + 1) = if ds (fg l i) (fg o i) ≤ ds (fg l (faP (fun p => ds (fg l p) (fg o p)) i)) (fg o (faP (fun p => ds (fg l p) (fg o p)) i)) then faP (fun p => ds (fg l p) (fg o p)) i else i := rfl
      generalize faP (fun p => ds (fg l p) (fg o p)) i = A at hs hlt
      have := fg_le (p := i) hl
      have := fg_le (p := i) ho
      have := fg_le (p := A) hl
      have := fg_le (p := A) ho
      have := hD i
      have := hD A
      unfold bX10_unlike_94
      dsimp only
      rw [if_neg (by rw [show (4 : Int32) = nI 4 from rfl, nI_leI (by omega) (by omega)]; omega), mfalls hl hi hk, zbind_s, mfalls ho hi hk, zbind_s, sz_d _ (by omega) _ (by omega), zbind_s, mfalls hl (by omega) hk, zbind_s, mfalls ho (by omega) hk, zbind_s, sz_d _ (by omega) _ (by omega), zbind_s, nI_1]
      by_cases c : ds (fg l i) (fg o i) ≤ ds (fg l A) (fg o A)
      · rw [if_pos c] at hs
        rw [if_pos (by rw [pk_lLE (by omega) (by omega)]; exact c), hs]
      · rw [if_neg c] at hs
        rw [if_neg (by rw [pk_lLE (by omega) (by omega)]; exact c), hs]
    have ex : ∀ c, bX10_unlike_94 k a1 (nI l) (nI o) v (c, nI 4) = some (.inr c) := fun c => rfl
    have e1 : faP (fun p => ds (fg l p) (fg o p)) 1 = 0 := by
      show (if _ then 0 else 0) = 0
      split <;> rfl
    have st1 := st 1 (by omega) (by omega)
    rw [e1] at st1
    generalize bX10_unlike_94 k a1 (nI l) (nI o) v = f at st st1 ex
    obtain ⟨k', rfl⟩ : ∃ k', k = k' + 1 + 1 + 1 + 1 + 1 := ⟨k - 5, by omega⟩
    rw [show (((0 : Int32), (1 : Int32)) : Int32 × Int32) = (nI 0, nI 1) from rfl, ziter_l st1, ziter_l (st 2 (by omega) (by omega)), ziter_l (st 3 (by omega) (by omega)), ziter_r (ex _)]
theorem j_unlike {L : List Nat} {u : CX} {v : MX} {k : Nat} (hk : 20000 ≤ k) (hx5 : xg_gleast u = nI (L.getD 0 0)) (h0 : 0 < L.length) (hn : ∀ m, m < L.length → nth L m = nI (L.getD m 0) ∧ L.getD m 0 < 14641 ∧ ¬ nth L m = -4) {o : Option Nat} (ho : ∀ l, o = some l → l < 14641) {j : Nat} (hj : j < 3) (hR : Rel u v) : ∃ r u' v', (if unI o = (-4 : Int32) then some ((-4 : Int32), u) else if nI j = (2 : Int32) then (fX9_farthestPart k (xg_gleast u) (unI o)).bind (fun q6 => some (q6, u)) else if nI j = 0 then some (xg_gleast u, u) else some (unI o, u)) = some (r, u') ∧ jX10_unlike_j78 k (nI j) (nth L 0) (unI o) v = some (r, v') ∧ Rel u' v' := by
  obtain ⟨n1, n2, n3⟩ := hn 0 h0
  unfold jX10_unlike_j78
  cases o with
  | none =>
    rw [if_pos (show unI none = -4 from rfl), if_pos (show unI none = -4 from rfl)]
    exact ⟨_, _, _, rfl, rfl, hR⟩
  | some l =>
    have hl := ho l rfl
    have hne : ¬ unI (some l) = -4 := nI_ne_neg (l := l) (by omega) (by decide)
    obtain ⟨r, r1, r2⟩ := two_fart n2 hl (v := v) (nI j) (k := k) (by omega)
    rw [if_neg hne, if_neg hne, show unI (some l) = nI l from rfl, n1, r2, zbind_s, hx5, r1, zbind_s]
    match j, hj with
    | 0, _ => exact ⟨_, _, _, rfl, rfl, hR⟩
    | 1, _ => exact ⟨_, _, _, rfl, rfl, hR⟩
    | 2, _ => exact ⟨_, _, _, rfl, rfl, hR⟩
theorem s_unlike {u : CX} {v : MX} (h : Rel u v) {k : Nat} (hk : 20000 ≤ k) (a : Int32) : ∃ r u' v', fX9_unlike k a u = some (r, u') ∧ fX10_unlike k a v = some (r, v') ∧ Rel u' v' := by
  have hh := h
  obtain ⟨P, n, T, W, S, F, h⟩ := h
  obtain ⟨u', v', L, hLW, x1, e1, hR, hL, hlen, hn, hf0, hfn, hla⟩ := two_fit h hk
  have hR' : Rel u' v' := ⟨_, _, _, _, _, _, hR⟩
  unfold fX9_unlike fX10_unlike
  rw [rngB, inIf, Int32.toInt_toInt64, show (0 : Int64).toInt = 0 from rfl, show (2 : Int64).toInt = 2 from rfl, show (2 : Int32).toInt = 2 from rfl]
  split
  · rename_i hc
    obtain ⟨j, hj, rfl⟩ := zn_of (a := a) (n := 3) (by omega) (by omega)
    rw [x1, zbind_s, e1, zbind_s, hf0, zbind_s]
    dsimp only
    by_cases c0 : L.length = 0
    · have : nth L 0 = -4 := by
        unfold nth
        rw [if_neg (by omega)]
      rw [c0, if_pos (show nI 0 = 0 from rfl), if_pos this]
      exact ⟨_, _, _, rfl, rfl, hR'⟩
    · rw [if_neg (by rw [show (0 : Int32) = nI 0 from rfl, nI_eq (by omega) (by omega)]; exact c0), if_neg (hn 0 (by omega)).2.2]
      obtain ⟨hP, hH, hE, h4, h5, h6, hT, hl, hM, hx, hm, hEv, hG, hG2, hS⟩ := hR
      obtain ⟨n1, n2, n3⟩ := hn 0 (by omega)
      obtain ⟨g, b1⟩ := mbest hP hM n2 (k := k) (by omega)
      obtain ⟨g', b2⟩ := munl hP hM hk hlen (by omega) hn hfn (nI j) (nth L 0) g
      have hfn0 := hfn 0 (by omega)
      have hbl : fX10_bestOf k (nth L 0) v' = some (nI (bestV P (L.getD 0 0)), ms_lw v' g) := by rw [n1]; exact b1
      rw [hbl, zbind_s]
      dsimp only
      rw [mff_lw, hfn0, zbind_s, b2, zbind_s]
      dsimp only
      have hob : ∀ l, unlV P L = some l → l < 14641 := by
        intro l hl
        have hmem : l ∈ L := by
          cases L with
          | nil => cases hl
          | cons a r => exact List.mem_cons_of_mem _ (List.mem_of_find?_eq_some hl)
        obtain ⟨i, hi, e⟩ := List.getElem_of_mem hmem
        have := (hn i hi).2.1
        rw [List.getD_eq_getElem?_getD, List.getElem?_eq_getElem hi] at this
        rw [← e]
        exact this
      have hgl : xg_gleast u' = nI (L.getD 0 0) := by
        obtain ⟨bb, lo, hi, _, _, _, _, _, _, _, y5, _, y7, _⟩ := hL.2.2.2 (by omega)
        rw [y5, y7]
      rcases hG with ⟨z, _⟩ | ⟨g1, g2, g4, g5⟩
      · rw [hL.1] at z
        exact absurd z (by decide)
      · by_cases c : xg_unlikeF u' = -9
        · obtain ⟨f, m2⟩ := xunl hP hT hl hL hlen (fun m hm => (hn m hm).2.1) (by omega) hk c
          rw [m2, zbind_s]
          dsimp only
          exact j_unlike (u := xs_unlikeF (xs_stands u' f) (unI (unlV P L))) (v := ms_lw v' g') hk hgl (by omega) hn hob hj ⟨P, n, T, W, S, F, hP, hH, hE, h4, h5, h6, hT, hl, hM, hx, hm, hEv, Or.inr ⟨g1, g2, g4, Or.inr (by rw [← hLW]; rfl)⟩, hG2, hS⟩
        · have e : xg_unlikeF u' = unI (unlV P L) := by
            rcases g5 with q | q
            · exact absurd q c
            · rw [← hLW] at q; exact q
          unfold fX2_unlikeLaw
          rw [if_neg c, zbind_s, e]
          dsimp only
          exact j_unlike (u := u') (v := ms_lw v' g') hk hgl (by omega) hn hob hj ⟨P, n, T, W, S, F, hP, hH, hE, h4, h5, h6, hT, hl, hM, hx, hm, hEv, Or.inr ⟨g1, g2, g4, g5⟩, hG2, hS⟩
  · exact ⟨_, _, _, rfl, rfl, hh⟩
