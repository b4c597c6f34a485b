/-! the simple calls -/
theorem rngA {α : Type} (a m : Int32) (x y : α) : (if a < 0 then x else if m < a then x else y) = if 0 ≤ a.toInt ∧ a.toInt ≤ m.toInt then y else x := by
  simp only [Int32.lt_iff_toInt_lt, show (0 : Int32).toInt = 0 from rfl]
  split
  · rw [if_neg (by omega)]
  · split
    · rw [if_neg (by omega)]
    · rw [if_pos (by omega)]
theorem rngB {α : Type} (a m : Int32) (x y : α) : (if a < 0 then x else if a ≤ m then y else x) = if 0 ≤ a.toInt ∧ a.toInt ≤ m.toInt then y else x := by
  simp only [Int32.lt_iff_toInt_lt, Int32.le_iff_toInt_le, show (0 : Int32).toInt = 0 from rfl]
  split
  · rw [if_neg (by omega)]
  · split
    · rw [if_pos (by omega)]
    · rw [if_neg (by omega)]
theorem inIf {β : Type} (a lo hi : Int64) (x y : Option β) : (fX10_in a lo hi).bind (fun q => if q = 0 then x else y) = if lo.toInt ≤ a.toInt ∧ a.toInt ≤ hi.toInt then y else x := by
  rw [min_, zbind_s]
  split
  · rw [if_neg (by decide)]
  · rw [if_pos rfl]
theorem mpIf {β : Type} (a : Int32) (x y : Option β) : (fX10_isPart a).bind (fun q => if q = 0 then x else y) = if 0 ≤ a.toInt ∧ a.toInt < 4 then y else x := by
  rw [misPart, zbind_s]
  split
  · rw [if_neg (by decide)]
  · rw [if_pos rfl]
theorem mlIf {β : Type} (a : Int32) (x y : Option β) : (fX10_isLaw a).bind (fun q => if q = 0 then x else y) = if 0 ≤ a.toInt ∧ a.toInt < 14641 then y else x := by
  rw [misLaw, zbind_s]
  split
  · rw [if_neg (by decide)]
  · rw [if_pos rfl]
theorem xpIf {β : Type} (a : Int32) (x y : Option β) : (fX9_isPart a).bind (fun q => if q = 0 then x else y) = if 0 ≤ a.toInt ∧ a.toInt < 4 then y else x := by
  rw [xisPart, zbind_s]
  split
  · rw [if_neg (by decide)]
  · rw [if_pos rfl]
theorem xlIf {β : Type} (a : Int32) (x y : Option β) : (fX9_isLaw a).bind (fun q => if q = 0 then x else y) = if 0 ≤ a.toInt ∧ a.toInt < 14641 then y else x := by
  rw [xisLaw, zbind_s]
  split
  · rw [if_neg (by decide)]
  · rw [if_pos rfl]
theorem xhIf {β : Type} (a : Int32) (x y : Option β) : (fX9_isSheet a).bind (fun q => if q = 0 then x else y) = if 0 ≤ a.toInt ∧ a.toInt < 4 then y else x := by
  rw [xisSheet, zbind_s]
  split
  · rw [if_neg (by decide)]
  · rw [if_pos rfl]
theorem xnIf {β : Type} (a : Int32) (x y : Option β) : (fX9_isLane a).bind (fun q => if q = 0 then x else y) = if 0 ≤ a.toInt ∧ a.toInt < 3 then y else x := by
  rw [xisLane, zbind_s]
  split
  · rw [if_neg (by decide)]
  · rw [if_pos rfl]
theorem xsIf {β : Type} (a : Int32) (x y : Option β) : (fX9_isSide a).bind (fun q => if q = 0 then x else y) = if 0 ≤ a.toInt ∧ a.toInt < 2 then y else x := by
  rw [xisSide, zbind_s]
  split
  · rw [if_neg (by decide)]
  · rw [if_pos rfl]
theorem s_seed {u : CX} {v : MX} (h : Rel u v) (a : Int32) : ∃ r u' v', fX9_seed a u = some (r, u') ∧ fX10_seed a v = some (r, v') ∧ Rel u' v' := by
  obtain ⟨P, n, T, W, S, F, h1, h2, h3, h4, h5, h6, h7⟩ := h
  exact ⟨_, _, _, rfl, congrArg (fun r => some (r, ms_seed v a)) h6.2.2.symm, P, n, T, W, S, F, h1, h2, h3, h4, h5, ⟨h6.1, h6.2.1, rfl⟩, h7⟩
theorem s_fault {u : CX} {v : MX} (h : Rel u v) : ∃ r, fX9_fault u = some r ∧ fX10_fault v = some r := by
  obtain ⟨P, n, T, W, S, F, h1, h2, h3, h4, h5, h6, h7⟩ := h
  exact ⟨_, rfl, congrArg some h6.2.1.symm⟩
theorem s_torn {u : CX} {v : MX} (h : Rel u v) : ∃ r, fX9_torn u = some r ∧ fX10_torn v = some r := by
  obtain ⟨P, n, T, W, S, F, h1, h2, h3, h4, h5, h6, h7⟩ := h
  exact ⟨_, rfl, congrArg some h6.1.symm⟩
theorem s_end {u : CX} {v : MX} (h : Rel u v) (a : Int32) : ∃ r u' v', fX9_end a u = some (r, u') ∧ fX10_end a v = some (r, v') ∧ Rel u' v' := by
  have h0 := h
  obtain ⟨P, n, T, W, S, F, h1, h2, h3, ⟨nt, hn, e1, e2, hb⟩, h5⟩ := h
  unfold fX9_end fX10_end
  rw [zb_e, rngB, inIf, Int32.toInt_toInt64, Int32.toInt_toInt64, show (0 : Int64).toInt = 0 from rfl, e1, e2]
  split
  · rename_i hc
    rw [nI_toInt (by omega)] at hc
    obtain ⟨j, hj, rfl⟩ := zn_of (a := a) (n := nt + 1) (by omega) (by omega)
    exact ⟨_, _, _, rfl, rfl, P, n, T, W, S, F, h1, h2, h3, ⟨j, by omega, rfl, rfl, fun i hi => hb i (by omega)⟩, h5⟩
  · exact ⟨_, _, _, rfl, rfl, h0⟩
theorem s_part {u : CX} {v : MX} (h : Rel u v) (a b : Int32) : ∃ r, fX9_part a b u = some r ∧ fX10_part a b v = some r := by
  obtain ⟨P, n, T, W, S, F, h1, h2, h3, h4, h5, h6, hT, hl, hM, h7⟩ := h
  unfold fX9_part fX10_part
  rw [xpIf, mpIf, rngA, inIf, Int32.toInt_toInt64, show (0 : Int64).toInt = 0 from rfl, show (2 : Int64).toInt = 2 from rfl, show (2 : Int32).toInt = 2 from rfl]
  split
  · rename_i hc
    split
    · rename_i hd
      obtain ⟨j, hj, rfl⟩ := zn_of (a := a) (n := 4) (by omega) (by omega)
      obtain ⟨i, hi, rfl⟩ := zn_of (a := b) (n := 3) (by omega) (by omega)
      rw [show (4 : Int32) = nI 4 from rfl, pk_mul, nI_add, zget_n (by omega) (by omega), zget_n (by omega) (by omega), hT.1 _ (by omega), hM _ (by omega)]
      exact ⟨_, rfl, rfl⟩
    · exact ⟨_, rfl, rfl⟩
  · exact ⟨_, rfl, rfl⟩
theorem s_rule {u : CX} {v : MX} (h : Rel u v) (a : Int32) : ∃ r, fX9_rule a u = some r ∧ fX10_rule a v = some r := by
  obtain ⟨P, n, T, W, S, F, h1, h2, h3, h4, h5, h6, hT, hl, hM, h7⟩ := h
  unfold fX9_rule fX10_rule
  rw [rngA, inIf, Int32.toInt_toInt64, show (0 : Int64).toInt = 0 from rfl, show (6 : Int64).toInt = 6 from rfl, show (6 : Int32).toInt = 6 from rfl]
  split
  · rename_i hc
    obtain ⟨j, hj, rfl⟩ := zn_of (a := a) (n := 7) (by omega) (by omega)
    rw [show (12 : Int32) = nI 12 from rfl, nI_add, zget_n (by omega) (by omega), zget_n (by omega) (by omega), hT.2.1 _ (by omega), hM _ (by omega)]
    exact ⟨_, rfl, rfl⟩
  · exact ⟨_, rfl, rfl⟩
/-- forgetting the laws -/
def xfor (u : CX) : CX := xs_unlikeF (xs_safestF (xs_stale u 1) (-9)) (-9)
theorem xforget (u : CX) : fX2_forget u = some (xfor u) := rfl
theorem xGr_for (P K W S F : Nat → Nat) (u : CX) : xGr P K W S F (xfor u) := Or.inl ⟨rfl, rfl, rfl⟩
theorem mGr_old (P K W S F : Nat → Nat) (v : MX) : mGr P K W S F (ms_old v 1) := Or.inl rfl
theorem vp_nar_b01 (x : Int32) (h : x = 0 ∨ x = 1) : vp_nar .boolean x = x := by
  rcases h with rfl | rfl <;> rfl
theorem rE_up {W S F : Nat → Nat} (h : rE W S F) {p w : Nat} (hw : w ≤ 1) : rE (zup W p w) S F := by
  intro q hq
  obtain ⟨a, b, c⟩ := h q hq
  refine ⟨?_, b, c⟩
  by_cases e : q = p
  · subst e; rw [zup_s]; exact hw
  · rw [zup_n e]; exact a
theorem rE_up2 {W S F : Nat → Nat} (h : rE W S F) {p s f : Nat} (hs : s ≤ 20) (hf : f ≤ s) : rE W (zup S p s) (zup F p f) := by
  intro q hq
  obtain ⟨a, b, c⟩ := h q hq
  by_cases e : q = p
  · subst e; rw [zup_s, zup_s]; exact ⟨a, hs, hf⟩
  · rw [zup_n e, zup_n e]; exact ⟨a, b, c⟩
theorem s_wreck {u : CX} {v : MX} (h : Rel u v) (a b : Int32) (hb : b = 0 ∨ b = 1) : ∃ r u' v', fX9_wreck a b u = some (r, u') ∧ fX10_wreck a b v = some (r, v') ∧ Rel u' v' := by
  have h0 := h
  obtain ⟨P, n, T, W, S, F, h1, h2, h3, h4, h5, h6, hT, hl, hM, hx, hm, hE, hG, hG2, h7⟩ := h
  unfold fX9_wreck fX10_wreck
  rw [xpIf, mpIf]
  split
  · rename_i hc
    obtain ⟨p, hp, rfl⟩ := zn_of (a := a) (n := 4) (by omega) (by omega)
    obtain ⟨w, hw, hbw⟩ : ∃ w : Nat, w ≤ 1 ∧ b = nI w := by
      rcases hb with rfl | rfl
      · exact ⟨0, by omega, rfl⟩
      · exact ⟨1, by omega, rfl⟩
    rw [vp_nar_b01 b hb]
    simp only [zget_n hp (show 4 ≤ 2 ^ 31 by omega), zix_n hp (show 4 ≤ 2 ^ 31 by omega), zb_e, (hE p hp).1, (hE p hp).2.1, xforget, zbind_s]
    have hRel : Rel (xfor (xs_wrecks u (upd (xg_wrecks u) p b))) (ms_old (ms_wrecks v (upd (mg_wrecks v) p b)) 1) := by
      refine ⟨P, n, T, zup W p w, S, F, h1, h2, rE_up h3 hw, h4, h5, h6, hT, hl, hM, hx, hm, ?_, xGr_for _ _ _ _ _ _, mGr_old _ _ _ _ _ _, h7⟩
      intro q hq
      obtain ⟨a1, a2, a3⟩ := hE q hq
      refine ⟨?_, ?_, a3⟩
      · show upd (xg_wrecks u) p b q = _
        by_cases e : q = p
        · subst e; rw [upd_s, zup_s, hbw]
        · rw [upd_n e, zup_n e, a1]
      · show upd (mg_wrecks v) p b q = _
        by_cases e : q = p
        · subst e; rw [upd_s, zup_s, hbw]
        · rw [upd_n e, zup_n e, a2]
    split
    · exact ⟨_, _, _, rfl, rfl, hRel⟩
    · exact ⟨_, _, _, rfl, rfl, hRel⟩
  · exact ⟨_, _, _, rfl, rfl, h0⟩
theorem s_ground {u : CX} {v : MX} (h : Rel u v) (a b c : Int32) : ∃ r u' v', fX9_ground a b c u = some (r, u') ∧ fX10_ground a b c v = some (r, v') ∧ Rel u' v' := by
  have h0 := h
  obtain ⟨P, n, T, W, S, F, h1, h2, h3, h4, h5, h6, hT, hl, hM, hx, hm, hE, hG, hG2, h7⟩ := h
  unfold fX9_ground fX10_ground
  rw [xpIf, mpIf, rngA, rngB, inIf, inIf, Int32.toInt_toInt64, Int32.toInt_toInt64, show (0 : Int64).toInt = 0 from rfl, show (20 : Int64).toInt = 20 from rfl, show (20 : Int32).toInt = 20 from rfl]
  split
  · rename_i hc
    split
    · rename_i hd
      split
      · rename_i he
        obtain ⟨p, hp, rfl⟩ := zn_of (a := a) (n := 4) (by omega) (by omega)
        obtain ⟨i, hi, rfl⟩ := zn_of (a := b) (n := 21) (by omega) (by omega)
        rw [nI_toInt (by omega)] at he
        obtain ⟨f, hf, rfl⟩ := zn_of (a := c) (n := i + 1) (by omega) (by omega)
        simp only [zget_n hp (show 4 ≤ 2 ^ 31 by omega), zix_n hp (show 4 ≤ 2 ^ 31 by omega), zb_e, (hE p hp).2.2.1, (hE p hp).2.2.2.1, xforget, zbind_s]
        refine ⟨_, _, _, rfl, rfl, P, n, T, W, zup S p i, zup F p f, h1, h2, rE_up2 h3 (by omega) (by omega), h4, h5, h6, hT, hl, hM, hx, hm, ?_, xGr_for _ _ _ _ _ _, mGr_old _ _ _ _ _ _, h7⟩
        intro q hq
        obtain ⟨a1, a2, a3, a4, a5, a6⟩ := hE q hq
        refine ⟨a1, a2, ?_, ?_, ?_, ?_⟩
        · show upd (xg_shots u) p (nI i) q = _
          by_cases e : q = p
          · subst e; rw [upd_s, zup_s]
          · rw [upd_n e, zup_n e, a3]
        · show upd (mg_shots v) p (nI i) q = _
          by_cases e : q = p
          · subst e; rw [upd_s, zup_s]
          · rw [upd_n e, zup_n e, a4]
        · show upd (xg_downs u) p (nI f) q = _
          by_cases e : q = p
          · subst e; rw [upd_s, zup_s]
          · rw [upd_n e, zup_n e, a5]
        · show upd (mg_shotDown v) p (nI f) q = _
          by_cases e : q = p
          · subst e; rw [upd_s, zup_s]
          · rw [upd_n e, zup_n e, a6]
      · exact ⟨_, _, _, rfl, rfl, h0⟩
    · exact ⟨_, _, _, rfl, rfl, h0⟩
  · exact ⟨_, _, _, rfl, rfl, h0⟩
