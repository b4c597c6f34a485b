/-! what follows from what is told: the class -/
theorem zcpy_e {f g : Nat → Int32} {n j : Nat} (h : j < n) : zcpy f g n j = f j := by
  show (if 0 ≤ j ∧ j < 0 + n then f (0 + (j - 0)) else g j) = f j
  rw [if_pos (by omega), Nat.zero_add, Nat.sub_zero]
def xsetT (D : Nat → Nat) (u : CX) : CX := xs_Tbottom (xs_Tscale (xs_TallHits (xs_TallAreas u (nI (sA D))) (nI (sH D))) (lN (sc D))) (lN (wh D))
theorem xset {D : Nat → Nat} {u : CX} (hP : rP D) (h1 : ∀ j, j < 12 → xg_Tparts u j = nI (D j)) (h2 : ∀ j, j < 7 → xg_Trules u j = nI (D (12 + j))) {k : Nat} (hk : 20 ≤ k) : fX8_settle k u = some (xsetT D u) := by
  have a0 := (hP.1 0 (by omega)).2
  have a1 := (hP.1 1 (by omega)).2
  have a2 := (hP.1 2 (by omega)).2
  have a3 := (hP.1 3 (by omega)).2
  have b0 : D 12 ≤ 99 := hP.2.2.2.1 0 (by omega)
  have b1 : D 13 ≤ 99 := hP.2.2.2.1 1 (by omega)
  have b2 : D 14 ≤ 99 := hP.2.2.2.1 2 (by omega)
  have b3 : D 15 ≤ 99 := hP.2.2.2.1 3 (by omega)
  have hA : sA D < 2 ^ 31 := by unfold sA; omega
  have hH : sH D < 2 ^ 31 := by unfold sH; omega
  unfold fX8_settle
  rw [zb_e, zb_e]
  have st : ∀ (a h i : Nat), i < 4 → bX8_settle_12 k (nI i, xs_TallHits (xs_TallAreas u (nI a)) (nI h)) = some (.inl (nI (i + 1), xs_TallHits (xs_TallAreas u (nI (a + D i))) (nI (h + D (12 + i))))) := by
    intro a h i hi
    unfold bX8_settle_12
    dsimp only
    rw [if_neg (by rw [show (4 : Int32) = nI 4 from rfl, nI_leI (by omega) (by omega)]; omega), zget_n (by omega) (by omega), zb_e, zget_n (by omega) (by omega), zb_e, show xg_Tparts (xs_TallHits (xs_TallAreas u (nI a)) (nI h)) i = nI (D i) from h1 i (by omega), nI_1]
    show some (Sum.inl (nI (i + 1), xs_TallHits (xs_TallAreas u (nI a + nI (D i))) (nI h + xg_Trules u i))) = _
    rw [h2 i (by omega), nI_add, nI_add]
  have ex : ∀ w, bX8_settle_12 k (nI 4, w) = some (.inr w) := fun w => rfl
  generalize bX8_settle_12 k = f at st ex
  obtain ⟨k', rfl⟩ : ∃ k', k = k' + 1 + 1 + 1 + 1 + 1 := ⟨k - 5, by omega⟩
  rw [show (((0 : Int32), xs_TallHits (xs_TallAreas u 0) 0) : Int32 × CX) = (nI 0, xs_TallHits (xs_TallAreas u (nI 0)) (nI 0)) from rfl, ziter_l (st _ _ 0 (by omega)), ziter_l (st _ _ 1 (by omega)), ziter_l (st _ _ 2 (by omega)), ziter_l (st _ _ 3 (by omega)), ziter_r (ex _), zbind_s, zb_e, zb_e, Nat.zero_add, Nat.zero_add, show D 0 + D 1 + D 2 + D 3 = sA D from rfl, show D 12 + D (12 + 1) + D (12 + 2) + D (12 + 3) = sH D from rfl]
  rw [show xg_TallAreas (xs_TallHits (xs_TallAreas u (nI (sA D))) (nI (sH D))) = nI (sA D) from rfl, nI_l hA, show (10 : Int64) = lN 10 from rfl, lN_mul, show 10 * sA D = sc D from rfl, show xg_TallHits (xs_Tscale (xs_TallHits (xs_TallAreas u (nI (sA D))) (nI (sH D))) (lN (sc D))) = nI (sH D) from rfl, nI_l hH, show xg_Tscale (xs_Tscale (xs_TallHits (xs_TallAreas u (nI (sA D))) (nI (sH D))) (lN (sc D))) = lN (sc D) from rfl, show (1000 : Int64) = lN 1000 from rfl, lN_mul, lN_mul, lN_mul, lN_mul, show sH D * sc D * sc D * sc D * 1000 = wh D by
    unfold wh
    rw [Nat.mul_assoc (sH D * sc D), Nat.mul_assoc (sH D), ← Nat.mul_assoc (sc D)]]
  rfl
theorem xset_T {D : Nat → Nat} {u : CX} (h1 : ∀ j, j < 12 → xg_Tparts u j = nI (D j)) (h2 : ∀ j, j < 7 → xg_Trules u j = nI (D (12 + j))) : xTm D (xsetT D u) := ⟨h1, h2, rfl, rfl, rfl, rfl⟩
theorem xtakeT {D : Nat → Nat} {u : CX} (hP : rP D) (h1 : ∀ j, j < 12 → xg_Dparts u j = nI (D j)) (h2 : ∀ j, j < 7 → xg_Drules u j = nI (D (12 + j))) {k : Nat} (hk : 20 ≤ k) : ∃ tp tr, fX8_take k u = some (xsetT D (xs_Trules (xs_Tparts u tp) tr)) ∧ xTm D (xsetT D (xs_Trules (xs_Tparts u tp) tr)) := by
  have g1 : ∀ j, j < 12 → zcpy (xg_Dparts u) (xg_Tparts u) 12 j = nI (D j) := fun j hj => by rw [zcpy_e hj, h1 j hj]
  have g2 : ∀ j, j < 7 → zcpy (xg_Drules u) (xg_Trules u) 7 j = nI (D (12 + j)) := fun j hj => by rw [zcpy_e hj, h2 j hj]
  refine ⟨zcpy (xg_Dparts u) (xg_Tparts u) 12, zcpy (xg_Drules u) (xg_Trules u) 7, ?_, xset_T g1 g2⟩
  have hs := xset (u := xs_Trules (xs_Tparts u (zcpy (xg_Dparts u) (xg_Tparts u) 12)) (zcpy (xg_Drules u) (xg_Trules u) 7)) hP g1 g2 hk
  unfold fX8_take
  rw [zb_e, zb_e]
  show (fX8_settle k (xs_Trules (xs_Tparts u (zcpy (xg_Dparts u) (xg_Tparts u) 12)) (zcpy (xg_Drules u) (xg_Trules u) 7))).bind _ = _
  rw [hs, zbind_s]
/-- plates -/
theorem xweight {P : Nat → Nat} {u : CX} (hT : xTm P u) {s : Nat} (hs : s < 16) {k : Nat} (hk : 20 ≤ k) : fX4_weightOf k (nI s) u = some (nI (wt P s)) := by
  unfold fX4_weightOf
  have st : ∀ (c i : Nat), i < 4 → bX4_weightOf_4 k (nI s) u (nI c, nI i) = some (.inl (nI (c + bt1 s i * P (8 + i)), nI (i + 1))) := by
    intro c i hi
    have hb := bt_le s i
    unfold bX4_weightOf_4
    dsimp only
    rw [if_neg (by rw [show (4 : Int32) = nI 4 from rfl, nI_leI (by omega) (by omega)]; omega), bt_i s hs i hi]
    by_cases q : bt1 s i = 1
    · rw [q, if_pos (show nI 1 = (1 : Int32) from rfl), show (8 : Int32) = nI 8 from rfl, nI_add, zget_n (by omega) (by omega), hT.1 _ (by omega), zb_e, nI_add, nI_1, Nat.one_mul]
    · rw [show bt1 s i = 0 by omega, if_neg (by decide), zb_e, show (0 : Int32) = nI 0 from rfl, nI_add, nI_1, Nat.zero_mul]
  have ex : ∀ c, bX4_weightOf_4 k (nI s) u (c, nI 4) = some (.inr c) := fun c => rfl
  generalize bX4_weightOf_4 k (nI s) u = f at st ex
  obtain ⟨k', rfl⟩ : ∃ k', k = k' + 1 + 1 + 1 + 1 + 1 := ⟨k - 5, by omega⟩
  rw [show (((0 : Int32), (0 : Int32)) : Int32 × Int32) = (nI 0, nI 0) from rfl, ziter_l (st _ 0 (by omega)), ziter_l (st _ 1 (by omega)), ziter_l (st _ 2 (by omega)), ziter_l (st _ 3 (by omega)), ziter_r (ex _), zbind_s, Nat.zero_add]
  rfl
theorem xfacs {P : Nat → Nat} {u : CX} (hP : rP P) (hT : xTm P u) {s : Nat} (hs : s < 16) : ∃ F, fX4_settleFactors (nI s) (lN (wt P s)) u = some (xs_factors u F) ∧ (∀ j, j < 4 * s → F j = xg_factors u j) ∧ ∀ i, i < 4 → F (4 * s + i) = lN (fac P s i) := by
  have hw := wt_le hP s
  have b0 : P 12 ≤ 99 := hP.2.2.2.1 0 (by omega)
  have b1 : P 13 ≤ 99 := hP.2.2.2.1 1 (by omega)
  have b2 : P 14 ≤ 99 := hP.2.2.2.1 2 (by omega)
  have b3 : P 15 ≤ 99 := hP.2.2.2.1 3 (by omega)
  unfold fX4_settleFactors
  rw [zb_e, zb_e, show (4 : Int32) * nI s = nI (4 * s) from pk_mul 4 s, hT.2.2.2.2.1]
  rw [show (0 : Int32) = nI 0 from rfl, show (1 : Int32) = nI 1 from rfl, show (2 : Int32) = nI 2 from rfl, show (3 : Int32) = nI 3 from rfl, show (100 : Int64) = lN 100 from rfl, lN_sub (by omega), nI_add, nI_add, nI_add]
  rw [zget_n (by omega) (by omega), zix_n (by omega) (by omega), zb_e, zget_n (by omega) (by omega), zget_n (by omega) (by omega), zix_n (by omega) (by omega), zb_e, zget_n (by omega) (by omega), zget_n (by omega) (by omega), zix_n (by omega) (by omega), zb_e, zget_n (by omega) (by omega), zget_n (by omega) (by omega), zix_n (by omega) (by omega), zb_e]
  have r0 : (xg_Trules u 0).toInt64 = lN (P 12) := by rw [hT.2.1 0 (by omega), nI_l (by show P 12 < _; omega)]
  have r1 : (xg_Trules u 1).toInt64 = lN (P 13) := by rw [hT.2.1 1 (by omega), nI_l (by show P 13 < _; omega)]
  have r2 : (xg_Trules u 2).toInt64 = lN (P 14) := by rw [hT.2.1 2 (by omega), nI_l (by show P 14 < _; omega)]
  have r3 : (xg_Trules u 3).toInt64 = lN (P 15) := by rw [hT.2.1 3 (by omega), nI_l (by show P 15 < _; omega)]
  refine ⟨vp_updL (vp_updL (vp_updL (vp_updL (xg_factors u) (4 * s) (lN (fac P s 0))) (4 * s + 1) (lN (fac P s 1))) (4 * s + 2) (lN (fac P s 2))) (4 * s + 3) (lN (fac P s 3)), ?_, fun j hj => ?_, fun i hi => ?_⟩
  · have f0 : (xg_Trules u 0).toInt64 * lN (100 - wt P s) * lN (sc P) * lN (sc P) * lN (sc P) = lN (fac P s 0) := by
      rw [r0, lN_mul, lN_mul, lN_mul, lN_mul, show fac P s 0 = P 12 * (100 - wt P s) * (sc P * sc P * sc P) from rfl, Nat.mul_assoc (P 12 * (100 - wt P s) * sc P), Nat.mul_assoc (P 12 * (100 - wt P s)), ← Nat.mul_assoc (sc P)]
    have f1 : ((xg_Trules u 1).toInt64 * lN (100 - wt P s) + (xg_Trules u 0).toInt64 * lN (wt P s)) * lN (sc P) * lN (sc P) = lN (fac P s 1) := by
      rw [r0, r1, lN_mul, lN_mul, lN_add, lN_mul, lN_mul, show fac P s 1 = (P 13 * (100 - wt P s) + P 12 * wt P s) * (sc P * sc P) from rfl, Nat.mul_assoc (P 13 * (100 - wt P s) + P 12 * wt P s)]
    have f2 : ((xg_Trules u 2).toInt64 * lN (100 - wt P s) + (xg_Trules u 1).toInt64 * lN (wt P s)) * lN (sc P) = lN (fac P s 2) := by
      rw [r1, r2, lN_mul, lN_mul, lN_add, lN_mul]
      rfl
    have f3 : (xg_Trules u 3).toInt64 * lN 100 + (xg_Trules u 2).toInt64 * lN (wt P s) = lN (fac P s 3) := by
      rw [r2, r3, lN_mul, lN_mul, lN_add]
      rfl
    rw [← f0, ← f1, ← f2, ← f3]
    rfl
  · rw [updL_n (by omega), updL_n (by omega), updL_n (by omega), updL_n (by omega)]
  · rcases (show i = 0 ∨ i = 1 ∨ i = 2 ∨ i = 3 by omega) with rfl | rfl | rfl | rfl
    · rw [updL_n (by omega), updL_n (by omega), updL_n (by omega)]
      exact updL_s
    · rw [updL_n (by omega), updL_n (by omega), updL_s]
    · rw [updL_n (by omega), updL_s]
    · rw [updL_s]
theorem xplat {P : Nat → Nat} {u : CX} (hP : rP P) (hT : xTm P u) {k : Nat} (hk : 20 ≤ k) : ∃ L F, fX4_settle k u = some (xs_factors (xs_light u L) F) ∧ xPl P (xs_factors (xs_light u L) F) := by
  unfold fX4_settle
  obtain ⟨b, hb, L, F, rfl, h1, h2⟩ := ziter_inv (f := bX4_settle_2 k) (fun i a => a.1 = nI i ∧ ∃ L F, a.2 = xs_factors (xs_light u L) F ∧ (∀ s, s < i → L s = if okS P s then 1 else 0) ∧ ∀ s j, s < i → j < 4 → F (4 * s + j) = lN (fac P s j)) (fun b => ∃ L F, b = xs_factors (xs_light u L) F ∧ (∀ s, s < 16 → L s = if okS P s then 1 else 0) ∧ ∀ s j, s < 16 → j < 4 → F (4 * s + j) = lN (fac P s j)) 16 (by
    rintro i ⟨y, w⟩ hi ⟨hy, L, F, hw, h1, h2⟩
    have hy : y = nI i := hy
    have hw : w = xs_factors (xs_light u L) F := hw
    subst hy
    subst hw
    left
    have hT2 : xTm P (xs_factors (xs_light u L) F) := hT
    have hwt := wt_le hP i
    have hl18 := hP.2.2.2.2.2.2.2
    have hlight : ∀ z : Int32, z = (if okS P i then 1 else 0) → ∃ a', (fX4_settleFactors (nI i) (nI (wt P i)).toInt64 (xs_light (xs_factors (xs_light u L) F) (upd (xg_light (xs_factors (xs_light u L) F)) i z))).bind (fun q7 => (some (.inl (nI i + 1, q7)) : Option ((Int32 × CX) ⊕ CX))) = some (.inl a') ∧ (a'.1 = nI (i + 1) ∧ ∃ L F, a'.2 = xs_factors (xs_light u L) F ∧ (∀ s, s < i + 1 → L s = if okS P s then 1 else 0) ∧ ∀ s j, s < i + 1 → j < 4 → F (4 * s + j) = lN (fac P s j)) := by
      intro z hz
      have hT3 : xTm P (xs_light (xs_factors (xs_light u L) F) (upd L i z)) := hT
      obtain ⟨F2, e1, e2, e3⟩ := xfacs hP hT3 hi
      rw [nI_l (by omega), show xg_light (xs_factors (xs_light u L) F) = L from rfl, e1, zbind_s, nI_1]
      refine ⟨_, rfl, rfl, upd L i z, F2, rfl, fun s hs => ?_, fun s j hs hj => ?_⟩
      · by_cases e : s = i
        · subst e; rw [upd_s]; exact hz
        · rw [upd_n e]; exact h1 s (by omega)
      · by_cases e : s = i
        · subst e; exact e3 j hj
        · rw [e2 _ (by omega)]
          exact h2 s j (by omega) hj
    unfold bX4_settle_2
    dsimp only
    rw [if_neg (by rw [show (16 : Int32) = nI 16 from rfl, nI_leI (by omega) (by omega)]; omega), xweight hT2 hi hk, zbind_s, show (6 : Int32) = nI 6 from rfl, zget_n (by omega) (by omega), hT2.2.1 6 (by omega), zix_n hi (by omega), zb_e, zix_n hi (by omega), zb_e, vp_nar_b01 0 (Or.inl rfl), vp_nar_b01 1 (Or.inr rfl)]
    by_cases q : wt P i ≤ P 18
    · rw [if_neg (by rw [nI_ltI (by show P 18 < _; omega) (by omega)]; show ¬ P 18 < wt P i; omega)]
      exact hlight 1 (by rw [if_pos (show okS P i = true from decide_eq_true q)])
    · rw [if_pos (by rw [nI_ltI (by show P 18 < _; omega) (by omega)]; show P 18 < wt P i; omega)]
      exact hlight 0 (by rw [if_neg (show ¬ okS P i = true from fun z => q (of_decide_eq_true z))])) (by
    rintro ⟨y, w⟩ ⟨hy, L, F, hw, h1, h2⟩
    have hy : y = nI 16 := hy
    subst hy
    refine ⟨w, ?_, L, F, hw, h1, h2⟩
    unfold bX4_settle_2
    dsimp only
    rw [if_pos (by decide)]) 16 0 k (nI 0, u) rfl ⟨rfl, xg_light u, xg_factors u, rfl, fun s hs => absurd hs (by omega), fun s j hs => absurd hs (by omega)⟩ (by omega)
  have hb : ziter (bX4_settle_2 k) k (0, u) = some (xs_factors (xs_light u L) F) := hb
  exact ⟨L, F, by rw [hb, zbind_s], h1, h2⟩
