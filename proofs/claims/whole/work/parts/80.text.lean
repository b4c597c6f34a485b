/-! the text: its beginning, and the call -/
def D0 (j : Nat) : Nat := ([10, 10, 10, 10, 2, 2, 2, 2, 5, 5, 5, 5, 1, 1, 1, 1, 0, 5, 10] : List Nat).getD j 0
theorem D0_t : ∀ j, j < 19 → ([10, 10, 10, 10, 2, 2, 2, 2, 5, 5, 5, 5, 1, 1, 1, 1, 0, 5, 10] : List Int32).getD j 0 = nI (D0 j) := by decide +kernel
theorem D0_b : rBd D0 := by
  intro q hq
  exact (by decide +kernel : ∀ q, q < 19 → bLo q ≤ D0 q ∧ D0 q ≤ bHi q) q hq
theorem D0_s : 0 < sH D0 := by decide
theorem D0_p : ∀ j, j < 4 → D0 j = 10 ∧ D0 (4 + j) = 2 ∧ D0 (8 + j) = 5 ∧ D0 (12 + j) = 1 := by decide
theorem zlt12 {P : Nat → Prop} (h : ∀ j, j < 4 → P j ∧ P (4 + j) ∧ P (8 + j)) : ∀ j, j < 12 → P j := by
  intro j hj
  rcases Nat.lt_or_ge j 4 with q | q
  · exact (h j q).1
  · rcases Nat.lt_or_ge j 8 with q2 | q2
    · have := (h (j - 4) (by omega)).2.1
      rw [show 4 + (j - 4) = j by omega] at this
      exact this
    · have := (h (j - 8) (by omega)).2.2
      rw [show 8 + (j - 8) = j by omega] at this
      exact this
theorem xuntold {u : CX} {k : Nat} (hk : 20 ≤ k) : ∃ dp dr, fX8_standAsUntold_d k u = some (xs_Drules (xs_Dparts u dp) dr) ∧ (∀ j, j < 12 → dp j = nI (D0 j)) ∧ ∀ j, j < 7 → dr j = nI (D0 (12 + j)) := by
  obtain ⟨b, hb, dp, dr, rfl, h1⟩ := ziter_inv (f := bX8_standAsUntold_d_2 k) (fun i a => a.1 = nI i ∧ ∃ dp dr, a.2 = xs_Drules (xs_Dparts u dp) dr ∧ ∀ j, j < i → dp j = 10 ∧ dp (4 + j) = 2 ∧ dp (8 + j) = 5 ∧ dr j = 1) (fun b => ∃ dp dr, b = xs_Drules (xs_Dparts u dp) dr ∧ ∀ j, j < 4 → dp j = 10 ∧ dp (4 + j) = 2 ∧ dp (8 + j) = 5 ∧ dr j = 1) 4 (by
    rintro i ⟨y, w⟩ hi ⟨hy, dp, dr, hw, h1⟩
    have hy : y = nI i := hy
    have hw : w = xs_Drules (xs_Dparts u dp) dr := hw
    subst hy
    subst hw
    left
    unfold bX8_standAsUntold_d_2
    dsimp only
    rw [if_neg (by rw [show (4 : Int32) = nI 4 from rfl, nI_leI (by omega) (by omega)]; omega), zix_n (by omega) (by omega), zb_e, show (4 : Int32) = nI 4 from rfl, nI_add, zix_n (by omega) (by omega), zb_e, show (8 : Int32) = nI 8 from rfl, nI_add, zix_n (by omega) (by omega), zb_e, zix_n (by omega) (by omega), zb_e, nI_1]
    refine ⟨_, rfl, rfl, upd (upd (upd dp i 10) (4 + i) 2) (8 + i) 5, upd dr i 1, rfl, fun j hj => ?_⟩
    by_cases e : j = i
    · subst e
      refine ⟨?_, ?_, upd_s, upd_s⟩
      · rw [upd_n (by omega), upd_n (by omega), upd_s]
      · rw [upd_n (by omega), upd_s]
    · obtain ⟨g1, g2, g3, g4⟩ := h1 j (by omega)
      refine ⟨?_, ?_, ?_, ?_⟩
      · rw [upd_n (by omega), upd_n (by omega), upd_n (by omega)]; exact g1
      · rw [upd_n (by omega), upd_n (by omega), upd_n (by omega)]; exact g2
      · rw [upd_n (by omega), upd_n (by omega), upd_n (by omega)]; exact g3
      · rw [upd_n e]; exact g4) (by
    rintro ⟨y, w⟩ ⟨hy, dp, dr, hw, h1⟩
    have hy : y = nI 4 := hy
    subst hy
    exact ⟨w, rfl, dp, dr, hw, h1⟩) 4 0 k (nI 0, u) rfl ⟨rfl, xg_Dparts u, xg_Drules u, rfl, fun j hj => absurd hj (by omega)⟩ (by omega)
  have hb : ziter (bX8_standAsUntold_d_2 k) k (0, u) = some (xs_Drules (xs_Dparts u dp) dr) := hb
  unfold fX8_standAsUntold_d
  rw [hb, zbind_s, show (4 : Int32) = nI 4 from rfl, zix_n (by omega) (by omega), zb_e, show zix 7 (5 : Int32) = zix (β := CX) 7 (nI 5) from rfl, zix_n (by omega) (by omega), zb_e, show zix 7 (6 : Int32) = zix (β := CX) 7 (nI 6) from rfl, zix_n (by omega) (by omega), zb_e]
  refine ⟨dp, upd (upd (upd dr 4 0) 5 5) 6 10, rfl, zlt12 (fun j hj => ?_), fun j hj => ?_⟩
  · obtain ⟨g1, g2, g3, g4⟩ := h1 j hj
    obtain ⟨d1, d2, d3, d4⟩ := D0_p j hj
    rw [g1, g2, g3, d1, d2, d3]
    exact ⟨rfl, rfl, rfl⟩
  · rcases Nat.lt_or_ge j 4 with q | q
    · obtain ⟨g1, g2, g3, g4⟩ := h1 j q
      obtain ⟨d1, d2, d3, d4⟩ := D0_p j q
      rw [upd_n (by omega), upd_n (by omega), upd_n (by omega), g4, d4]
      rfl
    · rcases (show j = 4 ∨ j = 5 ∨ j = 6 by omega) with rfl | rfl | rfl
      · rw [upd_n (by omega), upd_n (by omega), upd_s]; rfl
      · rw [upd_n (by omega), upd_s]; rfl
      · rw [upd_s]; rfl
theorem vb0 : vp_nar .boolean (0 : Int32) = 0 := vp_nar_b01 0 (Or.inl rfl)
theorem xbegT {u : CX} {k : Nat} (hk : 20 ≤ k) : ∃ dp dr pt lt, fX5_begin k u = some (rx u 0 0 0 dp dr pt lt 0 0 0) ∧ (∀ j, j < 12 → dp j = nI (D0 j)) ∧ (∀ j, j < 7 → dr j = nI (D0 (12 + j))) ∧ (∀ j, j < 12 → pt j = 0) ∧ ∀ j, j < 7 → lt j = 0 := by
  obtain ⟨dp, dr, h0, h1, h2⟩ := xuntold (u := u) (k := k) hk
  unfold fX5_begin
  rw [h0, zbind_s]
  generalize hw : xs_Drules (xs_Dparts u dp) dr = w
  obtain ⟨b, hb, pt, rfl, h3⟩ := ziter_inv (f := bX5_begin_9 k) (fun i a => a.1 = nI i ∧ ∃ pt, a.2 = xs_partTold w pt ∧ ∀ j, j < i → pt j = 0) (fun b => ∃ pt, b = xs_partTold w pt ∧ ∀ j, j < 12 → pt j = 0) 12 (by
    rintro i ⟨y, z⟩ hi ⟨hy, pt, hz, h3⟩
    have hy : y = nI i := hy
    have hz : z = xs_partTold w pt := hz
    subst hy
    subst hz
    left
    unfold bX5_begin_9
    dsimp only
    rw [if_neg (by rw [show (12 : Int32) = nI 12 from rfl, nI_leI (by omega) (by omega)]; omega), zix_n (by omega) (by omega), zb_e, vb0, nI_1]
    refine ⟨_, rfl, rfl, upd pt i 0, rfl, fun j hj => ?_⟩
    by_cases e : j = i
    · subst e; exact upd_s
    · rw [upd_n e]; exact h3 j (by omega)) (by
    rintro ⟨y, z⟩ ⟨hy, pt, hz, h3⟩
    have hy : y = nI 12 := hy
    subst hy
    exact ⟨z, rfl, pt, hz, h3⟩) 12 0 k (nI 0, w) rfl ⟨rfl, xg_partTold w, rfl, fun j hj => absurd hj (by omega)⟩ (by omega)
  have hb : ziter (bX5_begin_9 k) k (0, w) = some (xs_partTold w pt) := hb
  rw [hb, zbind_s]
  generalize hw2 : xs_partTold w pt = w2
  obtain ⟨b, hb, lt, rfl, h4⟩ := ziter_inv (f := bX5_begin_33 k) (fun i a => a.1 = nI i ∧ ∃ lt, a.2 = xs_lineTold w2 lt ∧ ∀ j, j < i → lt j = 0) (fun b => ∃ lt, b = xs_lineTold w2 lt ∧ ∀ j, j < 7 → lt j = 0) 7 (by
    rintro i ⟨y, z⟩ hi ⟨hy, lt, hz, h3⟩
    have hy : y = nI i := hy
    have hz : z = xs_lineTold w2 lt := hz
    subst hy
    subst hz
    left
    unfold bX5_begin_33
    dsimp only
    rw [if_neg (by rw [show (7 : Int32) = nI 7 from rfl, nI_leI (by omega) (by omega)]; omega), zix_n (by omega) (by omega), zb_e, vb0, nI_1]
    refine ⟨_, rfl, rfl, upd lt i 0, rfl, fun j hj => ?_⟩
    by_cases e : j = i
    · subst e; exact upd_s
    · rw [upd_n e]; exact h3 j (by omega)) (by
    rintro ⟨y, z⟩ ⟨hy, lt, hz, h3⟩
    have hy : y = nI 7 := hy
    subst hy
    exact ⟨z, rfl, lt, hz, h3⟩) 7 0 k (nI 0, w2) rfl ⟨rfl, xg_lineTold w2, rfl, fun j hj => absurd hj (by omega)⟩ (by omega)
  have hb : ziter (bX5_begin_33 k) k (0, w2) = some (xs_lineTold w2 lt) := hb
  rw [hb, zbind_s, zb_e, zb_e, zb_e]
  refine ⟨dp, dr, pt, lt, ?_, h1, h2, h3, h4⟩
  subst hw2
  subst hw
  rfl
theorem mbegin {v : MX} (hC : mConst v) {k : Nat} (hk : 40 ≤ k) (w : MX) (hw : mg_plain w = mg_plain v) : ∃ rd, ziter (bX10_text_19 k 0) k (0, w) = some (ms_reads w rd) ∧ ∀ j, j < 19 → rd j = nI (D0 j) := by
  obtain ⟨b, hb, rd, rfl, h3⟩ := ziter_inv (f := bX10_text_19 k 0) (fun i a => a.1 = nI i ∧ ∃ rd, a.2 = ms_reads w rd ∧ ∀ j, j < i → rd j = nI (D0 j)) (fun b => ∃ rd, b = ms_reads w rd ∧ ∀ j, j < 19 → rd j = nI (D0 j)) 19 (by
    rintro i ⟨y, z⟩ hi ⟨hy, rd, hz, h3⟩
    have hy : y = nI i := hy
    have hz : z = ms_reads w rd := hz
    subst hy
    subst hz
    left
    unfold bX10_text_19
    dsimp only
    rw [if_neg (by rw [show (19 : Int32) = nI 19 from rfl, nI_leI (by omega) (by omega)]; omega), zget_n (by omega) (by omega), zix_n (by omega) (by omega), zb_e, nI_1, show mg_plain (ms_reads w rd) i = nI (D0 i) from by
      show mg_plain w i = _
      rw [hw, hC.2.2 i hi, D0_t i hi]]
    refine ⟨_, rfl, rfl, upd rd i (nI (D0 i)), rfl, fun j hj => ?_⟩
    by_cases e : j = i
    · subst e; exact upd_s
    · rw [upd_n e]; exact h3 j (by omega)) (by
    rintro ⟨y, z⟩ ⟨hy, rd, hz, h3⟩
    have hy : y = nI 19 := hy
    subst hy
    exact ⟨z, rfl, rd, hz, h3⟩) 19 0 k (nI 0, w) rfl ⟨rfl, mg_reads w, rfl, fun j hj => absurd hj (by omega)⟩ (by omega)
  exact ⟨rd, hb, h3⟩
theorem mcopy {D : Nat → Nat} {w : MX} {p : Int32} (hr : ∀ j, j < 19 → mg_reads w j = nI (D j)) {k : Nat} (hk : 40 ≤ k) : ∃ hd, ziter (bX10_text_101 k p) k (0, w) = some (ms_holds w hd) ∧ ∀ j, j < 19 → hd j = nI (D j) := by
  obtain ⟨b, hb, rd, rfl, h3⟩ := ziter_inv (f := bX10_text_101 k p) (fun i a => a.1 = nI i ∧ ∃ rd, a.2 = ms_holds w rd ∧ ∀ j, j < i → rd j = nI (D j)) (fun b => ∃ rd, b = ms_holds w rd ∧ ∀ j, j < 19 → rd j = nI (D j)) 19 (by
    rintro i ⟨y, z⟩ hi ⟨hy, rd, hz, h3⟩
    have hy : y = nI i := hy
    have hz : z = ms_holds w rd := hz
    subst hy
    subst hz
    left
    unfold bX10_text_101
    dsimp only
    rw [if_neg (by rw [show (19 : Int32) = nI 19 from rfl, nI_leI (by omega) (by omega)]; omega), zget_n (by omega) (by omega), zix_n (by omega) (by omega), zb_e, nI_1, show mg_reads (ms_holds w rd) i = nI (D i) from hr i hi]
    refine ⟨_, rfl, rfl, upd rd i (nI (D i)), rfl, fun j hj => ?_⟩
    by_cases e : j = i
    · subst e; exact upd_s
    · rw [upd_n e]; exact h3 j (by omega)) (by
    rintro ⟨y, z⟩ ⟨hy, rd, hz, h3⟩
    have hy : y = nI 19 := hy
    subst hy
    exact ⟨z, rfl, rd, hz, h3⟩) 19 0 k (nI 0, w) rfl ⟨rfl, mg_holds w, rfl, fun j hj => absurd hj (by omega)⟩ (by omega)
  exact ⟨rd, hb, h3⟩
/-- both read the tape -/
theorem two_read {n : Nat} {c : Nat → Nat} {u : CX} {v : MX} (hx : xTp n c u) (hm : mTp n c v) (hC : mConst v) {k : Nat} (hk : 300 ≤ k) : ∃ X' M' r, fX5_readTape k u = some X' ∧ fX10_text k v = jX10_text_j71 k r M' ∧ (RF u v X' M' ∨ ∃ b' e' D' Z' li, li ≤ 200 ∧ r = nI li ∧ rBd D' ∧ 0 < sH D' ∧ RO n c u v b' e' 0 D' Z' li X' M') := by
  obtain ⟨dp, dr, pt, lt, h0, h1, h2, h3, h4⟩   := xbegT (u := u) (k := k) (by omega)
  obtain ⟨rd, g0, g1⟩ := mbegin hC (k := k) (by omega) (ms_toldOnes (ms_spot (ms_wrong v 0) 0) 0) rfl
  have g0 : ziter (bX10_text_19 k 0) k (0, ms_toldOnes (ms_spot (ms_wrong v 0) 0) 0) = some (mx v 0 (mg_wrongAt v) (nI 0) (mg_place v) (mg_token v) (mg_value v) rd 0) := g0
  have hD : Dr D0 (fun _ => false) dp dr pt lt rd 0 := ⟨h1, h2, g1, h3, h4 3 (by omega), fun j hj => h4 (4 + j) (by omega), fun j _ => b_0 j⟩
  unfold fX5_readTape fX10_text
  rw [h0, zbind_s, zb_e, zb_e, zb_e, g0, zbind_s]
  obtain ⟨b', e', t', q1, q2⟩ := two_adv hx hm (e := 0) (by omega) hk
  rcases q2 with ⟨t4, p1, p2⟩ | ⟨p1, p2⟩
  · have p1' := p1 0 0 dp dr pt lt 0 0
    have p1' : fX5_advance k (rx u 0 0 0 dp dr pt lt 0 0 0) = some (rx u (kX t') (nI b') (nI e') dp dr pt lt 0 0 (nI 0)) := p1'
    rw [p1', zbind_s, p2, zbind_s]
    have hR : RO n c u v b' e' t' D0 (fun _ => false) 0 (rx u (kX t') (nI b') (nI e') dp dr pt lt 0 0 (nI 0)) (mx v 0 (mg_wrongAt v) (nI e') (nI b') (nI t') (nI (vlT c b' e' t')) rd 0) := ⟨⟨_, q1⟩, t4, dp, dr, pt, lt, _, _, rd, 0, rfl, rfl, hD⟩
    have hl := (tok_lt q1.2.2.2.2.2).2
    obtain ⟨X', M', r, r1, r2, r3⟩ := two_loop hx hm hC hk 201 0 k b' e' t' D0 (fun _ => false) _ _ (by omega) (by omega) (by
      by_cases z : t' = 0
      · exact Or.inl z
      · have := hl z
        exact Or.inr (by omega)) D0_b D0_s hR (by omega)
    have r1 : ziter (bX5_readTape_10 k) k (0, rx u (kX t') (nI b') (nI e') dp dr pt lt 0 0 (nI 0)) = some X' := r1
    have r2 : ziter (bX10_text_47 k) k (0, mx v 0 (mg_wrongAt v) (nI e') (nI b') (nI t') (nI (vlT c b' e' t')) rd 0) = some (r, M') := r2
    rw [r1, r2, zbind_s, zbind_s]
    exact ⟨_, _, _, rfl, rfl, r3⟩
  · obtain ⟨e2, p1⟩ := p1 0 0 dp dr pt lt 0 0
    have p1 : fX5_advance k (rx u 0 0 0 dp dr pt lt 0 0 0) = some (rx u 0 (nI b') (nI e2) dp dr pt lt (nI 1) (nI b') 0) := p1
    obtain ⟨sp, tk', va', p2⟩ := p2 (mg_wrongAt v) (mg_place v) (mg_token v) (mg_value v) rd 0
    obtain ⟨k', rfl⟩ : ∃ k', k = k' + 1 := ⟨k - 1, by omega⟩
    have sx2 : bX5_readTape_10 (k' + 1) (0, rx u 0 (nI b') (nI e2) dp dr pt lt (nI 1) (nI b') 0) = some (.inr (rx u 0 (nI b') (nI e2) dp dr pt lt (nI 1) (nI b') 0)) := by
      unfold bX5_readTape_10
      dsimp only
      rw [if_neg (show ¬ xg_rfault (rx u 0 (nI b') (nI e2) dp dr pt lt (nI 1) (nI b') 0) = 0 from nI_w (by omega))]
      split <;> rfl
    have sm2 : bX10_text_47 (k' + 1) (0, mx v (nI 1) (nI b') sp (nI b') tk' va' rd 0) = some (.inr (0, mx v (nI 1) (nI b') sp (nI b') tk' va' rd 0)) := by
      unfold bX10_text_47
      dsimp only
      rw [if_neg (show ¬ mg_wrong (mx v (nI 1) (nI b') sp (nI b') tk' va' rd 0) = 0 from nI_w (by omega))]
    rw [p1, zbind_s, p2, zbind_s, ziter_r sx2, ziter_r sm2, zbind_s, zbind_s]
    exact ⟨_, _, _, rfl, rfl, Or.inl (RF_1 1 (by omega) _ _ _ _ _ _ _ _ _ _ _ _ _ _ _ _ _)⟩
theorem tape_0 (u : CX) (v : MX) (h1 : xg_tsize u = 0) (h2 : mg_taped v = 0) : rTape u v := ⟨0, by omega, h1, h2, fun j hj => absurd hj (by omega)⟩
/-- what stands behind a text that is taken -/
def xtx (u : CX) (D : Nat → Nat) (tp tr : Nat → Int32) (kd st at_ : Int32) (dp dr pt lt : Nat → Int32) (pl li : Int32) (L : Nat → Int32) (F : Nat → Int64) : CX :=
  (u.1, (tp, tr, nI (sA D), nI (sH D), lN (sc D), lN (wh D)), (u.2.2.1.1, 0, kd, st, at_), (dp, dr, u.2.2.2.1.2.2), (pt, lt, 0, pl, li), u.2.2.2.2.2.1, u.2.2.2.2.2.2.1, (u.2.2.2.2.2.2.2.1.1, u.2.2.2.2.2.2.2.1.2.1, u.2.2.2.2.2.2.2.1.2.2.1, u.2.2.2.2.2.2.2.1.2.2.2.1, u.2.2.2.2.2.2.2.1.2.2.2.2.1, u.2.2.2.2.2.2.2.1.2.2.2.2.2.1, u.2.2.2.2.2.2.2.1.2.2.2.2.2.2.1, 1, -9, -9), (L, F, u.2.2.2.2.2.2.2.2.1.2.2), u.2.2.2.2.2.2.2.2.2.1, u.2.2.2.2.2.2.2.2.2.2)
theorem xtx_1 (u : CX) (D : Nat → Nat) (tp tr : Nat → Int32) (kd st at_ : Int32) (dp dr pt lt : Nat → Int32) (pl li : Int32) : xsetT D (xs_Trules (xs_Tparts (xs_tsize (rx u kd st at_ dp dr pt lt 0 pl li) 0) tp) tr) = (u.1, (tp, tr, nI (sA D), nI (sH D), lN (sc D), lN (wh D)), (u.2.2.1.1, 0, kd, st, at_), (dp, dr, u.2.2.2.1.2.2), (pt, lt, 0, pl, li), u.2.2.2.2.2) := rfl
theorem xtx_2 (u : CX) (D : Nat → Nat) (tp tr : Nat → Int32) (kd st at_ : Int32) (dp dr pt lt : Nat → Int32) (pl li : Int32) (L : Nat → Int32) (F : Nat → Int64) : xfor (xs_factors (xs_light (u.1, (tp, tr, nI (sA D), nI (sH D), lN (sc D), lN (wh D)), (u.2.2.1.1, 0, kd, st, at_), (dp, dr, u.2.2.2.1.2.2), (pt, lt, 0, pl, li), u.2.2.2.2.2) L) F) = xtx u D tp tr kd st at_ dp dr pt lt pl li L F := rfl
def mtx (v : MX) (wa sp pl tk va : Int32) (hd rd : Nat → Int32) (tO : Int32) : MX :=
  ((v.1.1, 0, 0, 0, wa, sp, pl, tk, va), v.2.1, (hd, rd, tO), v.2.2.2.1, v.2.2.2.2.1, v.2.2.2.2.2.1, (1, v.2.2.2.2.2.2.1.2), v.2.2.2.2.2.2.2)
theorem mtx_1 (v : MX) (wa sp pl tk va : Int32) (hd rd : Nat → Int32) (tO : Int32) : ms_old (ms_holds (ms_fault (ms_taped (mx v 0 wa sp pl tk va rd tO) 0) 0) hd) 1 = mtx v wa sp pl tk va hd rd tO := rfl
theorem s_text {u : CX} {v : MX} (h : Rel u v) {k : Nat} (hk : 300 ≤ k) : ∃ r u' v', fX9_text k u = some (r, u') ∧ fX10_text k v = some (r, v') ∧ Rel u' v' := by
  obtain ⟨P, n, T, W, S, F, h1, h2, h3, h4, h5, h6, hT, hl, hM, hx, hm, hE, hG, hG2, h7⟩ := h
  obtain ⟨nt, ct, tx, tm⟩ := tp_of h4
  obtain ⟨X', M', r, r1, r2, r3⟩ := two_read tx tm h5 hk
  unfold fX9_text
  rw [r1, r2, zbind_s, zb_e]
  unfold jX10_text_j71
  rw [zb_e, zb_e]
  rcases r3 with ⟨kd, st, at_, dp, dr, pt, lt, w, pl, li, sp, plm, tk, va, rd, tO, hw, rfl, rfl⟩ | ⟨b', e', D', Z', li, hli, rfl, hB, hs, ⟨a, hTk⟩, ht, dp, dr, pt, lt, pl, wa, rd, tO, rfl, rfl, hD⟩
  · rw [if_neg (show ¬ xg_rfault (xs_tsize (rx u kd st at_ dp dr pt lt (nI w) pl li) 0) = 0 from nI_w hw), if_neg (show ¬ mg_wrong (ms_fault (ms_taped (mx v (nI w) pl sp plm tk va rd tO) 0) (mg_wrong (ms_taped (mx v (nI w) pl sp plm tk va rd tO) 0))) ≤ 0 from by
      show ¬ nI w ≤ nI 0
      rw [nI_leI (by omega) (by omega)]
      omega)]
    exact ⟨_, _, _, rfl, rfl, P, n, T, W, S, F, h1, h2, h3, tape_0 _ _ rfl rfl, h5, ⟨h6.1, rfl, h6.2.2⟩, hT, hl, hM, hx, hm, hE, hG, hG2, h7⟩
  · have hP : rP D' := rBd_P hB hs
    obtain ⟨tp, tr, e1, e2⟩ := xtakeT (u := xs_tsize (rx u (kX 0) (nI b') (nI e') dp dr pt lt 0 pl (nI li)) 0) (k := k) hP hD.1 hD.2.1 (by omega)
    rw [xtx_1] at e1 e2
    obtain ⟨L, Fa, e3, e4⟩ := xplat (k := k) hP e2 (by omega)
    obtain ⟨hd, e5, e6⟩ := mcopy (D := D') (w := ms_fault (ms_taped (mx v 0 wa (nI e') (nI b') (nI 0) (nI (vlT ct b' e' 0)) rd tO) 0) 0) (p := nI li) hD.2.2.1 (k := k) (by omega)
    rw [if_pos (show xg_rfault (xs_tsize (rx u (kX 0) (nI b') (nI e') dp dr pt lt 0 pl (nI li)) 0) = 0 from rfl), e1, zbind_s, e3, zbind_s, xforget, zbind_s, xtx_2, if_pos (show mg_wrong (ms_fault (ms_taped (mx v 0 wa (nI e') (nI b') (nI 0) (nI (vlT ct b' e' 0)) rd tO) 0) (mg_wrong (ms_taped (mx v 0 wa (nI e') (nI b') (nI 0) (nI (vlT ct b' e' 0)) rd tO) 0))) ≤ 0 from (by decide : (0 : Int32) ≤ 0)), show mg_wrong (ms_taped (mx v 0 wa (nI e') (nI b') (nI 0) (nI (vlT ct b' e' 0)) rd tO) 0) = 0 from rfl, e5, zbind_s, zb_e, mtx_1]
    have t1 : ∀ j, j < 12 → tp j = nI (D' j) := e2.1
    have t2 : ∀ j, j < 7 → tr j = nI (D' (12 + j)) := e2.2.1
    have l1 : ∀ s, s < 16 → L s = if okS D' s then 1 else 0 := e4.1
    have l2 : ∀ s i, s < 16 → i < 4 → Fa (4 * s + i) = lN (fac D' s i) := e4.2
    exact ⟨_, _, _, rfl, rfl, D', n, T, W, S, F, hP, h2, h3, tape_0 _ _ rfl rfl, h5, ⟨h6.1, rfl, h6.2.2⟩, ⟨t1, t2, rfl, rfl, rfl, rfl⟩, ⟨l1, l2⟩, e6, hx, hm, hE, Or.inl ⟨rfl, rfl, rfl⟩, Or.inl rfl, h7⟩
