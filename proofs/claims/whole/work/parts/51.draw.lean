theorem z_e1 {α β ρ : Type} (a : α) (f : α → ρ) (g : β → ρ) : zel (.inl a) f g = f a := rfl
theorem z_e2 {α β ρ : Type} (b : β) (f : α → ρ) (g : β → ρ) : zel (.inr b) f g = g b := rfl
theorem zeroL (u0 : CX) (g : (Nat → Int32) × (Nat → Nat → Int32) × Int32 × Int32) (st : Nat → Int32) (s h : Int32) {k : Nat} (hk : 20 ≤ k) : ∃ st', ziter (bX1_fly_51 k h) k ((0 : Int32), Fc u0 g st s) = some (Fc u0 g st' s) ∧ ∀ p, p < 4 → st' p = 0 := by
  obtain ⟨b, hb, st', rfl, h1⟩ := ziter_inv (f := bX1_fly_51 k h) (fun i a => a.1 = nI i ∧ ∃ st' : Nat → Int32, a.2 = Fc u0 g st' s ∧ ∀ j, j < i → st' j = 0) (fun b => ∃ st' : Nat → Int32, b = Fc u0 g st' s ∧ ∀ j, j < 4 → st' j = 0) 4 (by
    rintro i ⟨y, w⟩ hi ⟨rfl, st', rfl, p1⟩
    left
    unfold bX1_fly_51
    dsimp only
    rw [if_neg (by rw [show (4 : Int32) = nI 4 from rfl, nI_leI (by omega) (by omega)]; omega), zix_n hi (by omega), zb_e, nI_1, Fc_struck, Fc_gstruck]
    refine ⟨_, rfl, rfl, upd st' i 0, rfl, fun j hj => ?_⟩
    by_cases e : j = i
    · rw [e, upd_s]
    · rw [upd_n e, p1 j (by omega)]) (by
    rintro ⟨y, w⟩ ⟨rfl, st', rfl, p1⟩
    unfold bX1_fly_51
    exact ⟨_, rfl, st', rfl, p1⟩) 4 0 k (nI 0, Fc u0 g st s) rfl ⟨rfl, st, rfl, fun j hj => absurd hj (by omega)⟩ (by omega)
  exact ⟨st', hb, h1⟩
theorem addS_comm (C : Nat → Nat) : addS (addS C 0 1) 9 1 = addS (addS C 9 1) 0 1 := by
  funext j
  unfold addS
  simp only [zup_e]
  by_cases e0 : j = 0
  · subst e0; simp
  · by_cases e9 : j = 9
    · subst e9; simp
    · simp [e0, e9]
/-- one sortie, class and reference -/
theorem two_fly {P : Nat → Nat} {u0 : CX} {v0 : MX} (hP : rP P) (hT : xTm P u0) (hM : mHd P v0) {n : Nat} {T : Nat → Nat → Nat} {lt : Nat} {C : Nat → Nat} {g : (Nat → Int32) × (Nat → Nat → Int32) × Int32 × Int32} {st : Nat → Int32} {s : Int32} (hx : xMid n T lt C (Fc u0 g st s)) {A B : Nat → Int32} {U : Int32} (hA : ∀ j, j < 10 → A j = nI (C j)) {k : Nat} (hk : 20 ≤ k) :
    ∃ g' st' s', (fX1_fly k (Fc u0 g st s) = some (0, Fc u0 g' st' s') ∧ fX10_sortie k (Fm v0 A B U s) = some (-4, Fm v0 A B U s') ∧ xMid n T lt (addS C 0 1) (Fc u0 g' st' s')) ∨
      (∃ A', fX1_fly k (Fc u0 g st s) = some (0, Fc u0 g' st' s') ∧ fX10_sortie k (Fm v0 A B U s) = some (-4, Fm v0 A' B U s') ∧ (∀ j, j < 10 → A' j = nI (addS C 9 1 j)) ∧ xMid n T lt (addS (addS C 9 1) 0 1) (Fc u0 g' st' s')) ∨
      ∃ D, smD D ≤ 3 ∧ fX1_fly k (Fc u0 g st s) = some (1, Fc u0 g' st' s') ∧ fX10_sortie k (Fm v0 A B U s) = some (nI (encD D), Fm v0 A B U s') ∧ xMid n T lt (addH (addS C 0 1) 1 (D 0) (D 1) (D 2) (D 3)) (Fc u0 g' st' s') := by
  unfold fX1_fly fX10_sortie
  obtain ⟨g1, e1, q1⟩ := xadd hx (s := 0) (by omega) 1
  rw [Fc_hm] at e1 q1
  rw [show (0 : Int32) = nI 0 from rfl, show (1 : Int32) = nI 1 from rfl, e1, zbind_s]
  obtain ⟨s1, r, hr, e3, e4⟩ := two_roll (u := Fc u0 g1 st s) (v := Fm v0 A B U s) rfl (q := 1000) (by omega) (by omega)
  rw [show (1000 : Int32) = nI 1000 from rfl, e3, e4, zbind_s, zbind_s]
  simp only [Fc_seed, Fm_seed]
  rw [show (4 : Int32) = nI 4 from rfl, show (16 : Int32) = nI 16 from rfl, zget_n (n := 7) (j := 4) (by omega) (by omega), zget_n (n := 19) (j := 16) (by omega) (by omega), (Fc_T hT _ _ _).2.1 4 (by omega), Fm_H hM _ _ _ _ 16 (by omega)]
  by_cases c : nI (P 16) ≤ nI r
  · have c' : nI (P (12 + 4)) ≤ nI r := c
    simp only [c, c', if_true]
    obtain ⟨s2, N, hN, e5, e6⟩ := two_pick_r hP (Fc_T hT g1 st s1) (Fm_H hM A B U s1) rfl hk
    rw [e5, zbind_s, show (12 : Int32) = nI 12 from rfl, e6, zbind_s]
    simp only [Fc_seed, Fm_seed]
    obtain ⟨st2, e7, z0⟩ := zeroL u0 g1 st s2 (nI N) hk
    rw [show (0 : Int32) = nI 0 from rfl] at e7
    rw [e7, zbind_s]
    obtain ⟨x, y, e8, e9, hxy⟩ := flyL hP hT hM g1 A B U (N := N) (by omega) st2 s2 z0 hk
    rw [show (0 : Int32) = nI 0 from rfl] at e8 e9
    rw [e8, e9, zbind_s, zbind_s]
    rcases hxy with ⟨st3, s3, rfl, rfl⟩ | ⟨st3, s3, D, rfl, hst, hD, rfl⟩
    · obtain ⟨g2, e10, q2⟩ := xadd (Fc_mid q1 st3 s3) (s := 9) (by omega) 1
      rw [Fc_hm] at e10 q2
      have e10' : fX3_add (9 : Int32) (nI 1) (Fc u0 g1 st3 s3) = some (Fc u0 g2 st3 s3) := e10
      refine ⟨g2, st3, s3, Or.inr (Or.inl ⟨upd A 9 (A 9 + nI 1), ?_, ?_, fun j hj => ?_, by rw [← addS_comm]; exact q2⟩)⟩
      · rw [z_e1, e10', zbind_s]
      · rw [z_e1, show (9 : Int32) = nI 9 from rfl, zget_n (by omega) (by omega), zix_n (by omega) (by omega), zb_e, Fm_gknown, Fm_known]
      · unfold addS
        by_cases e : j = 9
        · subst e; rw [upd_s, zup_s, hA 9 (by omega), nI_add]
        · rw [upd_n e, zup_n e, hA j hj]
    · obtain ⟨g2, e10, q2⟩ := xaddH (Fc_mid q1 st3 s3) 1 (D 0) (D 1) (D 2) (D 3) hD
      rw [Fc_hm] at e10 q2
      refine ⟨g2, st3, s3, Or.inr (Or.inr ⟨D, hD, ?_, rfl, q2⟩)⟩
      rw [z_e2, zget_n (by omega) (by omega), zget_n (by omega) (by omega), show (2 : Int32) = nI 2 from rfl, zget_n (by omega) (by omega), show (3 : Int32) = nI 3 from rfl, zget_n (by omega) (by omega), Fc_gstruck, hst 0 (by omega), hst 1 (by omega), hst 2 (by omega), hst 3 (by omega), e10, zbind_s]
  · have c' : ¬ nI (P (12 + 4)) ≤ nI r := c
    simp only [c, c', if_false]
    exact ⟨g1, st, s1, Or.inl ⟨rfl, rfl, Fc_mid q1 st s1⟩⟩
theorem rK_one {K : Nat → Nat} (h : rK K) (hn : K 0 + 1 ≤ 999) : rK (addS K 0 1) := by
  obtain ⟨a, b, c, d⟩ := h
  have e0 : addS K 0 1 0 = K 0 + 1 := zup_s
  have en : ∀ j, j ≠ 0 → addS K 0 1 j = K j := fun j hj => zup_n hj
  refine ⟨by omega, ?_, fun p hp => ?_, ?_⟩
  · rw [e0, en 1 (by omega), en 2 (by omega), en 3 (by omega), en 4 (by omega)]; omega
  · rw [e0, en _ (by omega)]; have := c p hp; omega
  · rw [e0, en 9 (by omega)]; omega
theorem rK_fell {K : Nat → Nat} (h : rK K) (hn : K 0 + 1 ≤ 999) : rK (addS (addS K 9 1) 0 1) := by
  rw [← addS_comm]
  obtain ⟨a, b, c, d⟩ := rK_one h hn
  have hK := h.2.2.2
  have e9 : addS (addS K 0 1) 9 1 9 = addS K 0 1 9 + 1 := zup_s
  have en : ∀ j, j ≠ 9 → addS (addS K 0 1) 9 1 j = addS K 0 1 j := fun j hj => zup_n hj
  have f9 : addS K 0 1 9 = K 9 := zup_n (by omega)
  have f0 : addS K 0 1 0 = K 0 + 1 := zup_s
  refine ⟨?_, ?_, fun p hp => ?_, ?_⟩
  · rw [en 0 (by omega)]; exact a
  · rw [en 0 (by omega), en 1 (by omega), en 2 (by omega), en 3 (by omega), en 4 (by omega)]; exact b
  · rw [en 0 (by omega), en _ (by omega)]; exact c p hp
  · rw [e9, en 0 (by omega), f9, f0]; omega
theorem addS0_0 (C : Nat → Nat) : addS C 0 1 0 = C 0 + 1 := zup_s
theorem s_draw {u : CX} {v : MX} (h : Rel u v) {k : Nat} (hk : 150 ≤ k) (a : Int32) : ∃ r u' v', fX9_draw k a u = some (r, u') ∧ fX10_draw k a v = some (r, v') ∧ Rel u' v' := by
  have h0 := h
  obtain ⟨P, n, T, W, S, F, hR⟩ := h
  have hR0 := hR
  obtain ⟨h1, h2, h3, h4, h5, h6, hT, hl, hM, hx, hm, hE, hG, hG2, hS⟩ := hR
  have hcl : ∀ {α : Type} (x y : α), (if a < (1 : Int32) then x else if a ≤ (99 : Int32) then y else x) = if 1 ≤ a.toInt ∧ a.toInt ≤ 99 then y else x := by
    intro α x y
    simp only [Int32.lt_iff_toInt_lt, Int32.le_iff_toInt_le, show (1 : Int32).toInt = 1 from rfl, show (99 : Int32).toInt = 99 from rfl]
    split
    · rw [if_neg (by omega)]
    · split
      · rw [if_pos (by omega)]
      · rw [if_neg (by omega)]
  unfold fX9_draw fX10_draw
  rw [hcl, inIf, Int32.toInt_toInt64, show (1 : Int64).toInt = 1 from rfl, show (99 : Int64).toInt = 99 from rfl]
  by_cases c1 : 1 ≤ a.toInt ∧ a.toInt ≤ 99
  · rw [if_pos c1, if_pos c1]
    obtain ⟨nn, hnn, rfl⟩ := zn_of (a := a) (n := 100) (by omega) (by omega)
    rw [xsort hx, zbind_s, show (0 : Int32) = nI 0 from rfl, zget_n (by omega) (by omega), hm.1 0 (by omega), nI_add]
    have hK := h2.2 n (Nat.le_refl _)
    have hle : nI (T n 0 + nn) ≤ (999 : Int32) ↔ T n 0 + nn ≤ 999 := by
      rw [show (999 : Int32) = nI 999 from rfl, nI_leI (by have := hK.1; omega) (by omega)]
    by_cases c5 : T n 0 + nn ≤ 999
    · rw [if_pos (hle.mpr c5), if_pos (hle.mpr c5)]
      obtain ⟨lt, g1, e1, q1⟩ := xbegin h2.1 hx (k := k) (by omega)
      rw [e1, zbind_s]
      obtain ⟨B, e4, q4⟩ := macts h2.1 hm (k := k) (by omega)
      rw [e4, zbind_s]
      have hu1 : xs_hm u g1 = Fc u g1 (xg_struck u) (xg_seed u) := rfl
      have hv1 : ms_old (ms_kn v (mg_known v, B, nI (min n 7 + 1), mg_seed v)) 1 = Fm v (mg_known v) B (nI (min n 7 + 1)) (xg_seed u) := by rw [h6.2.2]; rfl
      rw [hu1] at q1 ⊢
      rw [hv1] at q4 ⊢
      obtain ⟨x, y, ex, ey, hxy⟩ := ziter_two (f := bX9_draw_42 k (nI nn)) (g := bX10_draw_39 k (nI nn)) (fun i a b => ∃ (c : Nat) (g : (Nat → Int32) × (Nat → Nat → Int32) × Int32 × Int32) (st : Nat → Int32) (s : Int32) (A : Nat → Int32) (C : Nat → Nat), a = (nI c, nI i, Fc u g st s) ∧ b = (nI c, nI i, Fm v A B (nI (min n 7 + 1)) s) ∧ xMid n T lt C (Fc u g st s) ∧ (∀ j, j < 10 → A j = nI (C j)) ∧ rK C ∧ C 0 = T n 0 + i) (fun x y => ∃ (c : Nat) (g : (Nat → Int32) × (Nat → Nat → Int32) × Int32 × Int32) (st : Nat → Int32) (s : Int32) (A : Nat → Int32) (C : Nat → Nat), x = (nI c, Fc u g st s) ∧ y = (nI c, Fm v A B (nI (min n 7 + 1)) s) ∧ xMid n T lt C (Fc u g st s) ∧ (∀ j, j < 10 → A j = nI (C j)) ∧ rK C) nn (by
        rintro i a b hi ⟨c, g, st, s, A, C, rfl, rfl, hmid, hA, hC, hC0⟩
        left
        unfold bX9_draw_42 bX10_draw_39
        dsimp only
        have hc : ¬ nI nn ≤ nI i := by rw [nI_leI (by omega) (by omega)]; omega
        rw [if_neg hc, if_neg hc]
        have z1 : (1 : Int32) = nI 1 := rfl
        have z0 : (0 : Int32) = nI 0 := rfl
        obtain ⟨g', st', s', hh⟩ := two_fly (v0 := v) h1 hT hM hmid (A := A) (B := B) (U := nI (min n 7 + 1)) hA (k := k) (by omega)
        rcases hh with ⟨f1, f2, f3⟩ | ⟨A', f1, f2, f3, f4⟩ | ⟨D, hD, f1, f2, f3⟩
        · rw [f1, f2, zbind_s, zbind_s, if_pos rfl]
          dsimp only
          rw [z0, zget_n (by omega) (by omega), zix_n (by omega) (by omega), zb_e, zb_e, if_pos rfl, Fm_gknown, Fm_known, nI_1, nI_add, Nat.add_zero]
          refine ⟨_, _, rfl, rfl, c, g', st', s', upd A 0 (A 0 + 1), addS C 0 1, rfl, rfl, f3, fun j hj => ?_, rK_one hC (by omega), by rw [addS0_0]; omega⟩
          unfold addS
          by_cases e : j = 0
          · subst e; rw [upd_s, zup_s, hA 0 (by omega), nI_1]
          · rw [upd_n e, zup_n e, hA j hj]
        · rw [f1, f2, zbind_s, zbind_s, if_pos rfl]
          dsimp only
          rw [z0, zget_n (by omega) (by omega), zix_n (by omega) (by omega), zb_e, zb_e, if_pos rfl, Fm_gknown, Fm_known, nI_1, nI_add, Nat.add_zero]
          refine ⟨_, _, rfl, rfl, c, g', st', s', upd A' 0 (A' 0 + 1), addS (addS C 9 1) 0 1, rfl, rfl, f4, fun j hj => ?_, rK_fell hC (by omega), by rw [addS0_0]; show zup C 9 _ 0 + 1 = _; rw [zup_n (by omega)]; omega⟩
          show upd A' 0 (A' 0 + 1) j = nI (zup (addS C 9 1) 0 (addS C 9 1 0 + 1) j)
          by_cases e : j = 0
          · subst e; rw [upd_s, zup_s, f3 0 (by omega), nI_1]
          · rw [upd_n e, zup_n e, f3 j hj]
        · obtain ⟨d0, d1, d2, d3, dl, ds⟩ := dg_enc hD
          rw [f1, f2, zbind_s, zbind_s, if_neg (show ¬ (1 : Int32) = 0 by decide)]
          dsimp only
          rw [z0, zget_n (by omega) (by omega), zix_n (by omega) (by omega), zb_e, zb_e, if_neg (nI_ne_neg (by omega) (by decide)), Fm_gknown, Fm_known, nI_1 i]
          obtain ⟨A2, e5, q5⟩ := mhome (m := 1) dl (by rw [ds]; exact hD) (C := addS C 0 1) (v := Fm v (upd A 0 (A 0 + 1)) B (nI (min n 7 + 1)) s') (by
            intro j hj
            rw [Fm_gknown]
            unfold addS
            by_cases e : j = 0
            · subst e; rw [upd_s, zup_s, hA 0 (by omega), nI_1]
            · rw [upd_n e, zup_n e, hA j hj]) (k := k) (by omega)
          rw [d0, d1, d2, d3] at q5
          rw [show (1 : Int32) = nI 1 from rfl] at e5 ⊢
          rw [e5, zbind_s, Fm_known, nI_add]
          have hr := rK_told (nn := 1) (m := 1) (d0 := D 0) (d1 := D 1) (d2 := D 2) (d3 := D 3) hC (by omega) hD (by omega)
          exact ⟨_, _, rfl, rfl, c + 1, g', st', s', A2, addH (addS C 0 1) 1 (D 0) (D 1) (D 2) (D 3), rfl, rfl, f3, q5, hr, by rw [addH_0, addS0_0]; omega⟩) (by
        rintro a b ⟨c, g, st, s, A, C, rfl, rfl, hmid, hA, hC, hC0⟩
        unfold bX9_draw_42 bX10_draw_39
        dsimp only
        have hc : nI nn ≤ nI nn := by rw [nI_leI (by omega) (by omega)]; omega
        rw [if_pos hc, if_pos hc]
        exact ⟨_, _, rfl, rfl, c, g, st, s, A, C, rfl, rfl, hmid, hA, hC⟩) nn 0 k (nI 0, nI 0, Fc u g1 (xg_struck u) (xg_seed u)) (nI 0, nI 0, Fm v (mg_known v) B (nI (min n 7 + 1)) (xg_seed u)) (by omega) ⟨0, g1, xg_struck u, xg_seed u, mg_known v, T n, rfl, rfl, q1, hm.1, hK, rfl⟩ (by omega)
      obtain ⟨c, g, st, s, A, C, rfl, rfl, hmid, hA, hC⟩ := hxy
      rw [ex, ey, zbind_s, zbind_s, xforget, zbind_s]
      refine ⟨_, _, _, rfl, rfl, P, min n 7 + 1, tpush n T C, W, S, F, h1, rHm_push h2 hC, h3, h4, h5, ⟨h6.1, h6.2.1, rfl⟩, hT, hl, hM, ?_, ?_, hE, xGr_for _ _ _ _ _ _, mGr_old _ _ _ _ _ _, hS⟩
      · exact xMid_end h2.1 hmid
      · exact mMid_end (n := n) (T := T) (C := C) ⟨hA, rfl, q4.2.2⟩
    · rw [if_neg (fun q => c5 (hle.mp q)), if_neg (fun q => c5 (hle.mp q))]
      exact ⟨_, _, _, rfl, rfl, h0⟩
  · rw [if_neg c1, if_neg c1]
    exact ⟨_, _, _, rfl, rfl, h0⟩
