theorem zup_e {α : Type} (f : Nat → α) (k : Nat) (x : α) (j : Nat) : zup f k x j = if j = k then x else f j := rfl
theorem addH_0 (C : Nat → Nat) (m d0 d1 d2 d3 : Nat) : addH C m d0 d1 d2 d3 0 = C 0 := by
  unfold addH addS
  simp only [zup_e]
  rw [if_neg (by omega), if_neg (by omega), if_neg (by omega), if_neg (by omega), if_neg (by omega)]
theorem addH_9 (C : Nat → Nat) (m d0 d1 d2 d3 : Nat) (hd : d0 + d1 + d2 + d3 ≤ 3) : addH C m d0 d1 d2 d3 9 = C 9 := by
  unfold addH addS
  simp only [zup_e]
  rw [if_neg (by omega), if_neg (by omega), if_neg (by omega), if_neg (by omega), if_neg (by omega)]
theorem addH_h (C : Nat → Nat) (m d0 d1 d2 d3 : Nat) {j : Nat} (h1 : 1 ≤ j) (h4 : j ≤ 4) : addH C m d0 d1 d2 d3 j = C j + (if j = 1 + (d0 + d1 + d2 + d3) then m else 0) := by
  unfold addH addS
  simp only [zup_e]
  rw [if_neg (by omega), if_neg (by omega), if_neg (by omega), if_neg (by omega)]
  split
  · rename_i e; rw [← e]
  · rfl
theorem addH_5 (C : Nat → Nat) (m d0 d1 d2 d3 : Nat) (hd : d0 + d1 + d2 + d3 ≤ 3) : addH C m d0 d1 d2 d3 5 = C 5 + m * d0 ∧ addH C m d0 d1 d2 d3 6 = C 6 + m * d1 ∧ addH C m d0 d1 d2 d3 7 = C 7 + m * d2 ∧ addH C m d0 d1 d2 d3 8 = C 8 + m * d3 := by
  unfold addH addS
  simp only [zup_e]
  have e : ∀ j, 5 ≤ j → ¬ j = 1 + (d0 + d1 + d2 + d3) := by intro j hj; omega
  simp [e 5 (by omega), e 6 (by omega), e 7 (by omega), e 8 (by omega)]
theorem mul_le3 {m d n : Nat} (hm : m ≤ n) (hd : d ≤ 3) : m * d ≤ 3 * n := by
  have := Nat.mul_le_mul hm hd
  omega
theorem rK_told {K : Nat → Nat} (h : rK K) {nn m d0 d1 d2 d3 : Nat} (hm : m ≤ nn) (hd : d0 + d1 + d2 + d3 ≤ 3) (hn : K 0 + nn ≤ 999) : rK (addH (addS K 0 nn) m d0 d1 d2 d3) := by
  obtain ⟨a, b, c, d⟩ := h
  have e0 : addS K 0 nn 0 = K 0 + nn := zup_s
  have en : ∀ j, j ≠ 0 → addS K 0 nn j = K j := fun j hj => zup_n hj
  obtain ⟨q5, q6, q7, q8⟩ := addH_5 (addS K 0 nn) m d0 d1 d2 d3 hd
  refine ⟨?_, ?_, ?_, ?_⟩
  · rw [addH_0, e0]; omega
  · rw [addH_0, e0, addH_h _ _ _ _ _ _ (by omega) (by omega), addH_h _ _ _ _ _ _ (by omega) (by omega), addH_h _ _ _ _ _ _ (by omega) (by omega), addH_h _ _ _ _ _ _ (by omega) (by omega), en 1 (by omega), en 2 (by omega), en 3 (by omega), en 4 (by omega)]
    split <;> split <;> split <;> split <;> omega
  · intro p hp
    rw [addH_0, e0]
    have := mul_le3 hm (show d0 ≤ 3 by omega)
    have := mul_le3 hm (show d1 ≤ 3 by omega)
    have := mul_le3 hm (show d2 ≤ 3 by omega)
    have := mul_le3 hm (show d3 ≤ 3 by omega)
    have c0 : K 5 ≤ 3 * K 0 := c 0 (by omega)
    have c1 : K 6 ≤ 3 * K 0 := c 1 (by omega)
    have c2 : K 7 ≤ 3 * K 0 := c 2 (by omega)
    have c3 : K 8 ≤ 3 * K 0 := c 3 (by omega)
    match p, hp with
    | 0, _ => show addH _ _ _ _ _ _ 5 ≤ _; rw [q5, en 5 (by omega)]; omega
    | 1, _ => show addH _ _ _ _ _ _ 6 ≤ _; rw [q6, en 6 (by omega)]; omega
    | 2, _ => show addH _ _ _ _ _ _ 7 ≤ _; rw [q7, en 7 (by omega)]; omega
    | 3, _ => show addH _ _ _ _ _ _ 8 ≤ _; rw [q8, en 8 (by omega)]; omega
  · rw [addH_0, addH_9 _ _ _ _ _ _ hd, e0, en 9 (by omega)]; omega
theorem rngC {α : Type} (a lo hi : Int32) (x y : α) : (if a < lo then x else if hi < a then x else y) = if lo.toInt ≤ a.toInt ∧ a.toInt ≤ hi.toInt then y else x := by
  simp only [Int32.lt_iff_toInt_lt]
  split
  · rw [if_neg (by omega)]
  · split
    · rw [if_neg (by omega)]
    · rw [if_pos (by omega)]
theorem xfigs {h : Nat} (hh : h < 256) : (nI h >>> ((6 : Int32) &&& 31)) = nI (dg h 0) ∧ ((nI h >>> ((4 : Int32) &&& 31)) &&& (3 : Int32)) = nI (dg h 1) ∧ ((nI h >>> ((2 : Int32) &&& 31)) &&& (3 : Int32)) = nI (dg h 2) ∧ (nI h &&& (3 : Int32)) = nI (dg h 3) := by
  refine ⟨?_, ?_, ?_, ?_⟩
  · rw [pk_shrN (by omega) _ 6 (by decide)]
    show nI (h / 64) = nI (h / 64 % 4)
    rw [Nat.mod_eq_of_lt (by omega)]
  · rw [pk_shrN (by omega) _ 4 (by decide), pk_andN (by omega) 2 (by decide)]; rfl
  · rw [pk_shrN (by omega) _ 2 (by decide), pk_andN (by omega) 2 (by decide)]; rfl
  · rw [pk_andN (by omega) 2 (by decide)]; rfl
theorem dg_lt (h p : Nat) : dg h p < 4 := by
  unfold dg
  split
  · omega
  · split
    · omega
    · split <;> omega
theorem xare {h : Nat} (hh : h < 256) : fX9_areHoles (nI h) = some (if sD h ≤ 3 then 1 else 0) := by
  obtain ⟨e0, e1, e2, e3⟩ := xfigs hh
  have := dg_lt h 0
  have := dg_lt h 1
  have := dg_lt h 2
  have := dg_lt h 3
  unfold fX9_areHoles
  rw [if_neg (nI_pos (by omega)), if_neg (by rw [show (255 : Int32) = nI 255 from rfl, nI_ltI (by omega) (by omega)]; omega), e0, e1, e2, e3, nI_add, nI_add, nI_add]
  have hl : (3 : Int32) < nI (dg h 0 + dg h 1 + dg h 2 + dg h 3) ↔ ¬ sD h ≤ 3 := by
    rw [show (3 : Int32) = nI 3 from rfl, nI_ltI (by omega) (by omega)]
    unfold sD
    omega
  by_cases c : sD h ≤ 3
  · rw [if_neg (fun q => hl.mp q c), if_pos c]
  · rw [if_pos (hl.mpr c), if_neg c]
theorem xare_no {a : Int32} (h : ¬ (0 ≤ a.toInt ∧ a.toInt ≤ 255)) : fX9_areHoles a = some 0 := by
  unfold fX9_areHoles
  rw [rngA, if_neg (by rw [show (255 : Int32).toInt = 255 from rfl]; exact h)]
/-- an act is over: all but the homes is as it was -/
theorem Rel_act {P : Nat → Nat} {n : Nat} {T : Nat → Nat → Nat} {W S F : Nat → Nat} {u : CX} {v : MX} (h : RelG P n T W S F u v) {lt : Nat} {C : Nat → Nat} (hC : rK C) {g : (Nat → Int32) × (Nat → Nat → Int32) × Int32 × Int32} (hx : xMid n T lt C (xs_hm u g)) {g2 : (Nat → Int32) × (Nat → Int32) × Int32} (hm : mMid n T C (ms_old (ms_kn v (g2.1, g2.2.1, g2.2.2, mg_seed v)) 1)) : Rel (xfor (xs_hm u g)) (ms_old (ms_kn v (g2.1, g2.2.1, g2.2.2, mg_seed v)) 1) := by
  obtain ⟨h1, h2, h3, h4, h5, h6, hT, hl, hM, hx0, hm0, hE, hG, hG2, hS⟩ := h
  refine ⟨P, min n 7 + 1, tpush n T C, W, S, F, h1, rHm_push h2 hC, h3, h4, h5, h6, hT, hl, hM, ?_, ?_, hE, xGr_for _ _ _ _ _ _, mGr_old _ _ _ _ _ _, hS⟩
  · exact xMid_end h2.1 hx
  · exact mMid_end hm
theorem s_told {u : CX} {v : MX} (h : Rel u v) {k : Nat} (hk : 90 ≤ k) (a b c : Int32) : ∃ r u' v', fX9_told k a b c u = some (r, u') ∧ fX10_told k a b c v = some (r, v') ∧ Rel u' v' := by
  have h0 := h
  obtain ⟨P, n, T, W, S, F, hR⟩ := h
  have hR0 := hR
  obtain ⟨h1, h2, h3, h4, h5, h6, hT, hl, hM, hx, hm, hE, hG, hG2, hS⟩ := hR
  unfold fX9_told fX10_told
  rw [rngC, rngA, inIf, inIf, inIf, Int32.toInt_toInt64, Int32.toInt_toInt64, Int32.toInt_toInt64, show (1 : Int64).toInt = 1 from rfl, show (0 : Int64).toInt = 0 from rfl, show (99 : Int64).toInt = 99 from rfl, show (255 : Int64).toInt = 255 from rfl, show (1 : Int32).toInt = 1 from rfl, show (99 : Int32).toInt = 99 from rfl]
  by_cases c1 : 1 ≤ a.toInt ∧ a.toInt ≤ 99
  · rw [if_pos c1, if_pos c1]
    by_cases c2 : 0 ≤ b.toInt ∧ b.toInt ≤ a.toInt
    · rw [if_pos c2, if_pos c2]
      by_cases c3 : 0 ≤ c.toInt ∧ c.toInt ≤ 255
      · rw [if_pos c3]
        obtain ⟨nn, hnn, rfl⟩ := zn_of (a := a) (n := 100) (by omega) (by omega)
        rw [nI_toInt (by omega)] at c1 c2
        obtain ⟨m, hmm, rfl⟩ := zn_of (a := b) (n := nn + 1) (by omega) (by omega)
        obtain ⟨hh, hhh, rfl⟩ := zn_of (a := c) (n := 256) (by omega) (by omega)
        rw [xare hhh, msumOf hhh (by omega), zbind_s, zbind_s, xsort hx, zbind_s, show (0 : Int32) = nI 0 from rfl, zget_n (by omega) (by omega), hm.1 0 (by omega), nI_add]
        have := dg_lt hh 0
        have := dg_lt hh 1
        have := dg_lt hh 2
        have := dg_lt hh 3
        have hsD : sD hh < 13 := by unfold sD; omega
        have hle3 : nI (sD hh) ≤ (3 : Int32) ↔ sD hh ≤ 3 := by
          rw [show (3 : Int32) = nI 3 from rfl, nI_leI (by omega) (by omega)]
        by_cases c4 : sD hh ≤ 3
        · rw [if_pos c4, if_pos (hle3.mpr c4), if_neg (by decide)]
          have hK := h2.2 n (Nat.le_refl _)
          have hle : nI (T n 0 + nn) ≤ (999 : Int32) ↔ T n 0 + nn ≤ 999 := by
            rw [show (999 : Int32) = nI 999 from rfl, nI_leI (by have := hK.1; omega) (by omega)]
          by_cases c5 : T n 0 + nn ≤ 999
          · rw [if_pos (hle.mpr c5), if_pos (hle.mpr c5)]
            obtain ⟨lt, g1, e1, q1⟩ := xbegin h2.1 hx (k := k) (by omega)
            rw [e1, zbind_s]
            obtain ⟨g2, e2, q2⟩ := xadd q1 (s := 0) (by omega) nn
            rw [xs_hm2] at e2 q2
            rw [e2, zbind_s]
            obtain ⟨f0, f1, f2, f3⟩ := xfigs hhh
            rw [f0, f1, f2, f3]
            obtain ⟨g3, e3, q3⟩ := xaddH q2 m (dg hh 0) (dg hh 1) (dg hh 2) (dg hh 3) c4
            rw [xs_hm2] at e3 q3
            rw [e3, zbind_s, xforget, zbind_s]
            obtain ⟨B, e4, q4⟩ := macts h2.1 hm hk
            rw [e4, zbind_s, zget_n (by omega) (by omega), zix_n (by omega) (by omega), zb_e, q4.1 0 (by omega), nI_add]
            obtain ⟨A, e5, q5⟩ := mhome (m := m) hhh c4 (C := addS (T n) 0 nn) (v := ms_known (ms_old (ms_kn v (mg_known v, B, nI (min n 7 + 1), mg_seed v)) 1) (upd (mg_known (ms_old (ms_kn v (mg_known v, B, nI (min n 7 + 1), mg_seed v)) 1)) 0 (nI (T n 0 + nn)))) (by
              intro j hj
              show upd (mg_known v) 0 (nI (T n 0 + nn)) j = nI (zup (T n) 0 (T n 0 + nn) j)
              by_cases e : j = 0
              · subst e; rw [upd_s, zup_s]
              · rw [upd_n e, zup_n e]; exact hm.1 j hj) (k := k) (by omega)
            rw [e5, zbind_s, zget_n (by omega) (by omega)]
            have eS : fX3_sorties (xfor (xs_hm u g3)) = some (nI (addH (addS (T n) 0 nn) m (dg hh 0) (dg hh 1) (dg hh 2) (dg hh 3) 0)) := by
              unfold fX3_sorties
              rw [show (0 : Int32) = nI 0 from rfl, zget_n (by omega) (by omega)]
              exact congrArg some (q3.1 0 (by omega))
            rw [eS, zbind_s]
            refine ⟨_, _, _, rfl, ?_, Rel_act hR0 (C := addH (addS (T n) 0 nn) m (dg hh 0) (dg hh 1) (dg hh 2) (dg hh 3)) (rK_told hK (by omega) c4 c5) q3 (g2 := (A, B, nI (min n 7 + 1))) ⟨q5, rfl, q4.2.2⟩⟩
            show some (A 0, _) = _
            rw [q5 0 (by omega)]
            rfl
          · rw [if_neg (fun q => c5 (hle.mp q)), if_neg (fun q => c5 (hle.mp q))]
            exact ⟨_, _, _, rfl, rfl, h0⟩
        · rw [if_neg c4, if_neg (fun q => c4 (hle3.mp q)), if_pos rfl]
          exact ⟨_, _, _, rfl, rfl, h0⟩
      · rw [if_neg c3, xare_no c3, zbind_s, if_pos rfl]
        exact ⟨_, _, _, rfl, rfl, h0⟩
    · rw [if_neg c2, if_neg c2]
      exact ⟨_, _, _, rfl, rfl, h0⟩
  · rw [if_neg c1, if_neg c1]
    exact ⟨_, _, _, rfl, rfl, h0⟩
