theorem addS_at (C : Nat → Nat) (s d j : Nat) : addS C s d j = C j + (if j = s then d else 0) := by
  unfold addS
  rw [zup_e]
  split
  · rename_i e; rw [e]
  · rfl
theorem addH_sh (C : Nat → Nat) {a : Nat} (ha : 1 ≤ a) (d0 d1 d2 d3 : Nat) : addH (addS C 0 a) 1 d0 d1 d2 d3 = addS (addH (addS C 0 1) 1 d0 d1 d2 d3) 0 (a - 1) := by
  funext j
  unfold addH
  simp only [addS_at]
  by_cases e : j = 0
  · subst e; simp; omega
  · simp [e]
theorem addS_0 (C : Nat → Nat) : addS C 0 0 = C := by
  funext j
  rw [addS_at]
  split <;> rfl
theorem xcell_hm {js t : Nat} (u : CX) (g : (Nat → Int32) × (Nat → Nat → Int32) × Int32 × Int32) (h : t < 48) : fX6_cell js (nI t) (xs_hm u g) = some (xg_scells u js t) := xcell (xs_hm u g) h
theorem mcells_F (v : MX) (A B : Nat → Int32) (U s : Int32) : mg_cells (Fm v A B U s) = mg_cells v := rfl
theorem takeL {u : CX} {v : MX} {q wn f0 : Nat} (hq : q < 4) (hcell : ∀ i, i < 48 → xg_scells u q i = mg_cells v (48 * q + i)) (hw : wn ≤ 12) (hf : wn = 0 ∨ f0 + 4 * wn ≤ 48) (hok : ∀ i, i < wn → hOK (fun p => xg_scells u q (f0 + 4 * i + p))) {n : Nat} {T : Nat → Nat → Nat} {lt : Nat} {g : (Nat → Int32) × (Nat → Nat → Int32) × Int32 × Int32} (hx : xMid n T lt (addS (T n) 0 wn) (xs_hm u g)) {A B : Nat → Int32} {U s : Int32} (hA : ∀ j, j < 10 → A j = nI (T n j)) (hK : rK (T n)) (hK0 : T n 0 + wn ≤ 999) (by_ : Int32) {k : Nat} (hk : 100 ≤ k) :
    ∃ g' A' C, ziter (bX9_takeHomes_19 k q (nI f0) (nI wn)) k ((0 : Int32), xs_hm u g) = some (xs_hm u g') ∧ ziter (bX10_read_193 k (nI q) (nI f0) by_ (nI wn)) k ((0 : Int32), Fm v A B U s) = some (Fm v A' B U s) ∧ xMid n T lt C (xs_hm u g') ∧ (∀ j, j < 10 → A' j = nI (C j)) ∧ rK C := by
  obtain ⟨x, y, ex, ey, g', A', C, rfl, rfl, r1, r2, r3⟩ := ziter_two (f := bX9_takeHomes_19 k q (nI f0) (nI wn)) (g := bX10_read_193 k (nI q) (nI f0) by_ (nI wn)) (fun i a b => ∃ (g : (Nat → Int32) × (Nat → Nat → Int32) × Int32 × Int32) (A : Nat → Int32) (C : Nat → Nat), a = (nI i, xs_hm u g) ∧ b = (nI i, Fm v A B U s) ∧ xMid n T lt (addS C 0 (wn - i)) (xs_hm u g) ∧ (∀ j, j < 10 → A j = nI (C j)) ∧ rK C ∧ C 0 = T n 0 + i) (fun x y => ∃ (g : (Nat → Int32) × (Nat → Nat → Int32) × Int32 × Int32) (A : Nat → Int32) (C : Nat → Nat), x = xs_hm u g ∧ y = Fm v A B U s ∧ xMid n T lt C (xs_hm u g) ∧ (∀ j, j < 10 → A j = nI (C j)) ∧ rK C) wn (by
    rintro i a b hi ⟨g, A, C, rfl, rfl, hmid, hA, hC, hC0⟩
    left
    unfold bX9_takeHomes_19 bX10_read_193
    dsimp only
    have hc : ¬ nI wn ≤ nI i := by rw [nI_leI (by omega) (by omega)]; omega
    have hh := hok i hi
    have f48 : f0 + 4 * i + 4 ≤ 48 := by rcases hf with e | e <;> omega
    generalize hcc : (fun p => xg_scells u q (f0 + 4 * i + p)) = c at hh
    have e0 := cd_e (hh.1 0 (by omega))
    have e1 := cd_e (hh.1 1 (by omega))
    have e2 := cd_e (hh.1 2 (by omega))
    have e3 := cd_e (hh.1 3 (by omega))
    have hcp : ∀ p, xg_scells u q (f0 + 4 * i + p) = c p := fun p => by rw [← hcc]
    have hc0 : xg_scells u q (f0 + 4 * i) = c 0 := hcp 0
    rw [if_neg hc, if_neg hc, zb_e, show (4 : Int32) = nI 4 from rfl, pk_mul, nI_add, show (2 : Int32) = nI 2 from rfl, show (3 : Int32) = nI 3 from rfl]
    have eX : (fX6_cell q (nI (f0 + 4 * i)) (xs_hm u g)).bind (fun q7 => (fX6_cell q (nI (f0 + 4 * i) + (1 : Int32)) (xs_hm u g)).bind (fun q9 => (fX6_cell q (nI (f0 + 4 * i) + nI 2) (xs_hm u g)).bind (fun q11 => (fX6_cell q (nI (f0 + 4 * i) + nI 3) (xs_hm u g)).bind (fun q13 => (fX3_addHomes (1 : Int32) q7 q9 q11 q13 (xs_hm u g)).bind (fun q15 => (some (Sum.inl (nI i + 1, q15)) : Option ((Int32 × CX) ⊕ CX))))))) = (fX3_addHomes (nI 1) (nI (cd c 0)) (nI (cd c 1)) (nI (cd c 2)) (nI (cd c 3)) (xs_hm u g)).bind (fun q15 => some (.inl (nI i + 1, q15))) := by
      rw [xcell_hm u g (by omega), zbind_s, nI_1, xcell_hm u g (by omega), zbind_s, nI_add, xcell_hm u g (by omega), zbind_s, nI_add, xcell_hm u g (by omega), zbind_s, hc0, Nat.add_assoc (f0) (4 * i) 1, ← Nat.add_assoc f0 (4 * i) 1, hcp 1, hcp 2, hcp 3, e0.1, e1.1, e2.1, e3.1]
      rfl
    rw [eX]
    obtain ⟨g2, h1, h2⟩ := xaddH hmid 1 (cd c 0) (cd c 1) (cd c 2) (cd c 3) hh.2
    rw [xs_hm2] at h1 h2
    rw [h1, zbind_s, nI_1]
    rw [addH_sh C (by omega)] at h2
    rw [show (0 : Int32) = nI 0 from rfl, zget_n (by omega) (by omega), zix_n (by omega) (by omega), zb_e, Fm_gknown, Fm_known, show (48 : Int32) = nI 48 from rfl, pk_mul, nI_add, nI_add]
    have hcM : hOK (fun p => mg_cells (Fm v (upd A 0 (A 0 + 1)) B U s) (48 * q + f0 + 4 * i + p)) := by
      refine hOK_c (c := c) (fun p hp => ?_) hh
      rw [mcells_F, ← hcp p, hcell _ (by omega)]
      congr 1
      omega
    have hcd : cd (fun p => mg_cells (Fm v (upd A 0 (A 0 + 1)) B U s) (48 * q + f0 + 4 * i + p)) 0 = cd c 0 ∧ cd (fun p => mg_cells (Fm v (upd A 0 (A 0 + 1)) B U s) (48 * q + f0 + 4 * i + p)) 1 = cd c 1 ∧ cd (fun p => mg_cells (Fm v (upd A 0 (A 0 + 1)) B U s) (48 * q + f0 + 4 * i + p)) 2 = cd c 2 ∧ cd (fun p => mg_cells (Fm v (upd A 0 (A 0 + 1)) B U s) (48 * q + f0 + 4 * i + p)) 3 = cd c 3 := by
      have key : ∀ p, p < 4 → mg_cells (Fm v (upd A 0 (A 0 + 1)) B U s) (48 * q + f0 + 4 * i + p) = c p := by
        intro p hp
        rw [mcells_F, ← hcp p, hcell _ (by omega)]
        congr 1
        omega
      unfold cd
      exact ⟨congrArg (fun z : Int32 => z.toInt.toNat) (key 0 (by omega)), congrArg (fun z : Int32 => z.toInt.toNat) (key 1 (by omega)), congrArg (fun z : Int32 => z.toInt.toNat) (key 2 (by omega)), congrArg (fun z : Int32 => z.toInt.toNat) (key 3 (by omega))⟩
    rw [(mhomeAt (Fm v (upd A 0 (A 0 + 1)) B U s) (t := 48 * q + f0 + 4 * i) (by omega) (by omega)).1 hcM, zbind_s]
    obtain ⟨d0, d1, d2, d3, dl, ds⟩ := dg_enc hcM.2
    obtain ⟨A2, e5, q5⟩ := mhome (m := 1) dl (by rw [ds]; exact hcM.2) (C := addS C 0 1) (v := Fm v (upd A 0 (A 0 + 1)) B U s) (by
      intro j hj
      rw [Fm_gknown]
      unfold addS
      by_cases e : j = 0
      · subst e; rw [upd_s, zup_s, hA 0 (by omega), nI_1]
      · rw [upd_n e, zup_n e, hA j hj]) (k := k) (by omega)
    rw [d0, d1, d2, d3, hcd.1, hcd.2.1, hcd.2.2.1, hcd.2.2.2] at q5
    rw [show (1 : Int32) = nI 1 from rfl] at e5 ⊢
    rw [e5, zbind_s, Fm_known]
    refine ⟨_, _, rfl, rfl, g2, A2, addH (addS C 0 1) 1 (cd c 0) (cd c 1) (cd c 2) (cd c 3), rfl, rfl, by rw [show wn - (i + 1) = wn - i - 1 by omega]; exact h2, q5, rK_told (nn := 1) (m := 1) hC (by omega) hh.2 (by omega), by rw [addH_0, addS0_0]; omega⟩) (by
    rintro a b ⟨g, A, C, rfl, rfl, hmid, hA, hC, hC0⟩
    unfold bX9_takeHomes_19 bX10_read_193
    dsimp only
    have hc : nI wn ≤ nI wn := by rw [nI_leI (by omega) (by omega)]; omega
    rw [if_pos hc, if_pos hc]
    rw [Nat.sub_self, addS_0] at hmid
    exact ⟨_, _, rfl, rfl, g, A, C, rfl, rfl, hmid, hA, hC⟩) wn 0 k (nI 0, xs_hm u g) (nI 0, Fm v A B U s) (by omega) ⟨g, A, T n, rfl, rfl, by rw [Nat.sub_zero]; exact hx, hA, hK, rfl⟩ (by omega)
  exact ⟨g', A', C, ex, ey, r1, r2, r3⟩
theorem s_read {u : CX} {v : MX} (h : Rel u v) {k : Nat} (hk : 150 ≤ k) (a b f c : Int32) : ∃ r u' v', fX9_read k a b f c u = some (r, u') ∧ fX10_read k a b f c v = some (r, v') ∧ Rel u' v' := by
  have h0 := h
  obtain ⟨P, n, T, W, S, F, hR⟩ := h
  have hR0 := hR
  obtain ⟨h1, h2, h3, h4, h5, h6, hT, hl, hM, hx, hm, hE, hG, hG2, hS⟩ := hR
  have hcl : ∀ {α : Type} (x y : α), (if c < 0 then x else if c ≤ (12 : Int32) then y else x) = if 0 ≤ c.toInt ∧ c.toInt < 13 then y else x := by
    intro α x y
    rw [rngB, show (12 : Int32).toInt = 12 from rfl]
    split
    · rw [if_pos (by omega)]
    · rw [if_neg (by omega)]
  unfold fX9_read fX10_read
  rw [xhIf, xnIf, hcl, inIfL a 3 4 rfl, inIfL b 2 3 rfl, inIfL c 12 13 rfl]
  by_cases c1 : 0 ≤ a.toInt ∧ a.toInt < 4
  · rw [if_pos c1, if_pos c1]
    by_cases c2 : 0 ≤ b.toInt ∧ b.toInt < 3
    · rw [if_pos c2, if_pos c2]
      by_cases c3 : 0 ≤ c.toInt ∧ c.toInt < 13
      · rw [if_pos c3, if_pos c3]
        obtain ⟨q, hq, rfl⟩ := zn_of (a := a) (n := 4) (by omega) (by omega)
        obtain ⟨l, hl3, rfl⟩ := zn_of (a := b) (n := 3) (by omega) (by omega)
        obtain ⟨nn, hnn, rfl⟩ := zn_of (a := c) (n := 13) (by omega) (by omega)
        have hK := h2.2 n (Nat.le_refl _)
        rw [zix_n hq (by omega)]
        obtain ⟨x, ex, ey, hx9⟩ := readL hq hS (xsort hx) (hm.1 0 (by omega)) hK.1 (f := f) (n := nn) (by omega) hl3 (m := 0) (k := k) (by omega)
        rw [ex, ey, zbind_s, zbind_s]
        rcases x with x | x | ⟨b1, w⟩
        · exact ⟨_, _, _, rfl, rfl, h0⟩
        · exact ⟨_, _, _, rfl, rfl, h0⟩
        · obtain ⟨wn, rfl, w1, w2, w3⟩ := hx9 b1 w rfl
          rw [z_e2, z_e2, z_e2, z_e2]
          dsimp only
          unfold fX9_takeHomes
          obtain ⟨lt, g1, e1, q1⟩ := xbegin h2.1 hx (k := k) (by omega)
          rw [e1, zbind_s]
          obtain ⟨g2, e2, q2⟩ := xadd q1 (s := 0) (by omega) wn
          rw [xs_hm2] at e2 q2
          rw [show (0 : Int32) = nI 0 from rfl, e2, zbind_s]
          obtain ⟨B, e4, q4⟩ := macts h2.1 hm (k := k) (by omega)
          rw [e4, zbind_s]
          have hv1 : ms_old (ms_kn v (mg_known v, B, nI (min n 7 + 1), mg_seed v)) 1 = Fm v (mg_known v) B (nI (min n 7 + 1)) (mg_seed v) := rfl
          rw [hv1] at q4 ⊢
          have fin : ∀ f0, f = nI f0 ∨ wn = 0 → (wn = 0 ∨ f0 + 4 * wn ≤ 48) → (∀ i, i < wn → hOK (fun p => xg_scells u q (f0 + 4 * i + p))) → ∃ g' A' C, ziter (bX9_takeHomes_19 k q f (nI wn)) k (nI 0, xs_hm u g2) = some (xs_hm u g') ∧ ziter (bX10_read_193 k (nI q) f b1 (nI wn)) k (nI 0, Fm v (mg_known v) B (nI (min n 7 + 1)) (mg_seed v)) = some (Fm v A' B (nI (min n 7 + 1)) (mg_seed v)) ∧ xMid n T lt C (xs_hm u g') ∧ (∀ j, j < 10 → A' j = nI (C j)) ∧ rK C := by
            intro f0 hf0 hf1 hf2
            rcases hf0 with rfl | e
            · exact takeL hq (hS q hq).2.2 (by omega) hf1 hf2 q2 hm.1 hK w2 b1 (by omega)
            · subst e
              obtain ⟨k', hk'⟩ : ∃ k', k = k' + 1 := ⟨k - 1, by omega⟩
              rw [addS_0] at q2
              refine ⟨g2, mg_known v, T n, ?_, ?_, q2, hm.1, hK⟩
              · rw [hk']; exact ziter_r rfl
              · rw [hk']; exact ziter_r rfl
          obtain ⟨g', A', C, t1, t2, t3, t4, t5⟩ : ∃ g' A' C, ziter (bX9_takeHomes_19 k q f (nI wn)) k (nI 0, xs_hm u g2) = some (xs_hm u g') ∧ ziter (bX10_read_193 k (nI q) f b1 (nI wn)) k (nI 0, Fm v (mg_known v) B (nI (min n 7 + 1)) (mg_seed v)) = some (Fm v A' B (nI (min n 7 + 1)) (mg_seed v)) ∧ xMid n T lt C (xs_hm u g') ∧ (∀ j, j < 10 → A' j = nI (C j)) ∧ rK C := by
            rcases w3 with e | ⟨f0, x1, x2, x3⟩
            · exact fin 0 (Or.inr e) (Or.inl e) (fun i hi => absurd hi (by omega))
            · exact fin f0 (Or.inl x1) (Or.inr x2) x3
          rw [t1, t2, zbind_s, zbind_s, xforget, zbind_s, zbind_s, zb_e, zb_e]
          refine ⟨_, _, _, rfl, rfl, P, min n 7 + 1, tpush n T C, W, S, F, h1, rHm_push h2 t5, h3, h4, h5, ⟨rfl, h6.2.1, h6.2.2⟩, hT, hl, hM, ?_, ?_, hE, xGr_for _ _ _ _ _ _, mGr_old _ _ _ _ _ _, hS⟩
          · exact xMid_end h2.1 t3
          · exact mMid_end (n := n) (T := T) (C := C) ⟨t4, rfl, q4.2.2⟩
      · rw [if_neg c3, if_neg c3]; exact ⟨_, _, _, rfl, rfl, h0⟩
    · rw [if_neg c2, if_neg c2]; exact ⟨_, _, _, rfl, rfl, h0⟩
  · rw [if_neg c1, if_neg c1]; exact ⟨_, _, _, rfl, rfl, h0⟩
