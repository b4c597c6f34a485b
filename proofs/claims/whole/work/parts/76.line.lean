/-! the text: a line -/
theorem once_f {v : MX} {w : Nat} (a : Int32) (wa sp pl tk va : Int32) (rd : Nat → Int32) (tO : Int32) (hw : 1 ≤ w ∧ w ≤ 4) : fX10_once a (mx v (nI w) wa sp pl tk va rd tO) = some (mx v (nI w) wa sp pl tk va rd (tO ||| ((1 : Int32) <<< (a &&& 31)))) := by
  unfold fX10_once
  rw [if_neg (show ¬ mg_wrong (mx v (nI w) wa sp pl tk va rd tO) = 0 from nI_w hw), zb_e]
  rfl
theorem once_o {v : MX} {j : Nat} (hj : j < 32) (wa sp pl tk va : Int32) (rd : Nat → Int32) (tO : Int32) : (bt tO j = true → fX10_once (nI j) (mx v 0 wa sp pl tk va rd tO) = some (mx v (nI 4) pl sp pl tk va rd (tO ||| ((1 : Int32) <<< (nI j &&& 31))))) ∧ (bt tO j = false → fX10_once (nI j) (mx v 0 wa sp pl tk va rd tO) = some (mx v 0 wa sp pl tk va rd (tO ||| ((1 : Int32) <<< (nI j &&& 31))))) := by
  unfold fX10_once
  rw [if_pos (show mg_wrong (mx v 0 wa sp pl tk va rd tO) = 0 from rfl), show mg_toldOnes (mx v 0 wa sp pl tk va rd tO) = tO from rfl]
  constructor
  · intro h
    rw [if_pos ((on_t hj).mpr h), mfails, zbind_s, zb_e]
    rfl
  · intro h
    rw [if_neg (fun z => by rw [(on_t hj).mp z] at h; cases h), zb_e]
    rfl
theorem j106_f {k : Nat} {v : MX} {w : Nat} (p1 t0 : Int32) (wa sp pl tk va : Int32) (rd : Nat → Int32) (tO : Int32) (hw : 1 ≤ w ∧ w ≤ 4) : jX10_readLine_j106 k p1 t0 (mx v (nI w) wa sp pl tk va rd tO) = some (mx v (nI w) wa sp pl tk va rd (tO ||| ((1 : Int32) <<< (t0 &&& 31)))) := by
  have h127 : ∀ t1 t2, jX10_readLine_j127 k p1 t1 t2 (mx v (nI w) wa sp pl tk va rd (tO ||| ((1 : Int32) <<< (t0 &&& 31)))) = some (mx v (nI w) wa sp pl tk va rd (tO ||| ((1 : Int32) <<< (t0 &&& 31)))) := by
    intro t1 t2
    unfold jX10_readLine_j127
    rw [j139_e, j139_e, mnum_f _ _ _ _ _ _ _ _ _ _ hw, zbind_s, mnum_f _ _ _ _ _ _ _ _ _ _ hw, zbind_s, mnext_f _ _ _ _ _ _ _ hw, zbind_s, mTail_f _ _ _ _ _ _ _ hw]
    split <;> rfl
  unfold jX10_readLine_j106
  rw [once_f _ _ _ _ _ _ _ _ hw, zbind_s, mnext_f _ _ _ _ _ _ _ hw, zbind_s, h127, h127]
  split <;> rfl
theorem j80_f {k : Nat} {v : MX} {w : Nat} (p1 : Int32) (wa sp pl tk va : Int32) (rd : Nat → Int32) (tO : Int32) (hw : 1 ≤ w ∧ w ≤ 4) : ∃ tO', jX10_readLine_j80 k p1 (mx v (nI w) wa sp pl tk va rd tO) = some (mx v (nI w) wa sp pl tk va rd tO') := by
  unfold jX10_readLine_j80
  rw [if_neg (show ¬ mg_wrong (mx v (nI w) wa sp pl tk va rd tO) = 0 from nI_w hw), j106_f _ _ _ _ _ _ _ _ _ hw]
  exact ⟨_, rfl⟩
/-- the bounds of a part's number, as the reference tells them -/
theorem j106_o {k : Nat} {i : Nat} (hi : i < 3) (t0 : Int32) (u u1 : MX) (ho : fX10_once t0 u = some u1) : jX10_readLine_j106 k (nI i) t0 u = (fX10_next k u1).bind (fun q48 => (fX10_number t0 (nI (lsA i)) (nI (msA i)) q48).bind (fun q => (fX10_next k q).bind (fun r => mTail k r))) := by
  unfold jX10_readLine_j106
  rw [ho, zbind_s]
  rcases (show i = 0 ∨ i = 1 ∨ i = 2 by omega) with rfl | rfl | rfl <;> rfl
theorem vbn : vp_nar .boolean (1 : Int32) = 1 := vp_nar_b01 1 (Or.inr rfl)
theorem kX_1 : ∀ t, t < 4 → ¬ t = 1 → ¬ kX t = 2 := by decide
set_option maxHeartbeats 1000000 in
theorem two_pnum {n : Nat} {c : Nat → Nat} {u : CX} {v : MX} (hx : xTp n c u) (hm : mTp n c v) {e k : Nat} (he : e ≤ n) (hk : 300 ≤ k) {D : Nat → Nat} {Z : Nat → Bool} (hB : rBd D) (hs : 0 < sH D) {dp dr pt lt rd : Nat → Int32} {tO : Int32} (hD : Dr D Z dp dr pt lt rd tO) {i s : Nat} (hi : i < 7) (hs12 : s < 12) (hbl : bLo s = lsA i ∧ bHi s = msA i) (kd st pl wa plm tk va : Int32) (li : Nat) : ∃ X' M', ((fX5_advance k (rx u kd st (nI e) dp dr pt lt 0 pl (nI li))).bind (fun q10 => (fX5_seenNumber k (nI i) q10).bind (fun q12 => zix 12 (nI s) (fun j13 => zb (xs_Dparts q12.2 (upd (xg_Dparts q12.2) j13 q12.1)) (fun u14 => (fX5_advance k u14).bind (fun q16 => some q16)))))).bind (fun q => (fX5_readClose k q).bind (fun r => some r)) = some X' ∧ (fX10_next k (mx v 0 wa (nI e) plm tk va rd tO)).bind (fun q48 => (fX10_number (nI s) (nI (lsA i)) (nI (msA i)) q48).bind (fun q => (fX10_next k q).bind (fun r => mTail k r))) = some M' ∧ LnR n c u v e li X' M' := by
  obtain ⟨b', e', t', g1, g2⟩ := two_adv hx hm he hk
  rcases g2 with ⟨t4, p1, p2⟩ | ⟨p1, p2⟩
  · rw [p1, p2, zbind_s, zbind_s]
    have hv := vl_lt g1.2.2.2.2.2
    have hse := xseen hx g1.2.1 g1.2.2.1 g1.2.2.2.2.2 t4 hk hi dp dr pt lt pl (nI li)
    have hnu := mnum (c := c) (v := v) (b := b') (e := e') (t := t') (i := i) (k := k) hv t4 hi (j := s) (by omega) wa rd tO
    by_cases hc : okN c b' e' t' i
    · rw [hse.1 hc, hnu.1 hc, zbind_s, zbind_s, zix_n hs12 (by omega), zb_e]
      dsimp only
      rw [show xs_Dparts (rx u (kX t') (nI b') (nI e') dp dr pt lt 0 pl (nI li)) (upd (xg_Dparts (rx u (kX t') (nI b') (nI e') dp dr pt lt 0 pl (nI li))) s (nI (vlT c b' e' t'))) = rx u (kX t') (nI b') (nI e') (upd dp s (nI (vlT c b' e' t'))) dr pt lt 0 pl (nI li) from rfl]
      have hD' := Dr_part hD (i := s) (x := vlT c b' e' t') hs12
      have hB' : rBd (zup D s (vlT c b' e' t')) := rBd_up hB (by rw [hbl.1]; exact hc.2.1) (by rw [hbl.2]; exact hc.2.2)
      obtain ⟨X', M', r1, r2, r3⟩ := two_ac hx hm (e := e') g1.2.2.1 hk hB' (by rw [sH_up (by omega)]; exact hs) hD' (kX t') (nI b') pl wa (nI b') (nI t') (nI (vlT c b' e' t')) li
      refine ⟨X', M', ?_, r2, ?_⟩
      · rw [← r1]
        generalize fX5_advance k (rx u (kX t') (nI b') (nI e') (upd dp s (nI (vlT c b' e' t'))) dr pt lt 0 pl (nI li)) = y
        cases y <;> rfl
      · rcases r3 with r3 | ⟨b2, e2, t2, D2, Z2, q1, q2⟩
        · exact Or.inl r3
        · have h1 := g1.1
          have h2 := g1.2.1
          exact Or.inr ⟨b2, e2, t2, D2, Z2, by omega, q2⟩
    · obtain ⟨x, hse⟩ := hse.2 hc
      rw [hse, hnu.2 hc, zbind_s, zbind_s, zix_n hs12 (by omega), zb_e]
      dsimp only
      rw [show xs_Dparts (rx u (kX t') (nI b') (nI e') dp dr pt lt (nI (wN t')) (nI b') (nI li)) (upd (xg_Dparts (rx u (kX t') (nI b') (nI e') dp dr pt lt (nI (wN t')) (nI b') (nI li))) s x) = rx u (kX t') (nI b') (nI e') (upd dp s x) dr pt lt (nI (wN t')) (nI b') (nI li) from rfl, xadv_f _ _ _ _ _ _ _ _ _ (wN_in t'), zbind_s, zbind_s, xclose_f _ _ _ _ _ _ _ _ _ (wN_in t'), zbind_s, mnext_f _ _ _ _ _ _ _ (wN_in t'), zbind_s, mTail_f _ _ _ _ _ _ _ (wN_in t')]
      exact ⟨_, _, rfl, rfl, Or.inl (RF_1 (wN t') (wN_in t') _ _ _ _ _ _ _ _ _ _ _ _ _ _ _ _ _)⟩
  · obtain ⟨e2, p1⟩ := p1 kd st dp dr pt lt pl (nI li)
    obtain ⟨sp, tk', va', p2⟩ := p2 wa plm tk va rd tO
    rw [p1, p2, zbind_s, zbind_s, xseen_f _ _ _ _ _ _ _ _ _ (by omega), zbind_s, zix_n hs12 (by omega), zb_e]
    dsimp only
    rw [show xs_Dparts (rx u 0 (nI b') (nI e2) dp dr pt lt (nI 1) (nI b') (nI li)) (upd (xg_Dparts (rx u 0 (nI b') (nI e2) dp dr pt lt (nI 1) (nI b') (nI li))) s 0) = rx u 0 (nI b') (nI e2) (upd dp s 0) dr pt lt (nI 1) (nI b') (nI li) from rfl, xadv_f _ _ _ _ _ _ _ _ _ (by omega), zbind_s, zbind_s, xclose_f _ _ _ _ _ _ _ _ _ (by omega), zbind_s, mnum_f _ _ _ _ _ _ _ _ _ _ (by omega), zbind_s, mnext_f _ _ _ _ _ _ _ (by omega), zbind_s, mTail_f _ _ _ _ _ _ _ (by omega)]
    exact ⟨_, _, rfl, rfl, Or.inl (RF_1 1 (by omega) _ _ _ _ _ _ _ _ _ _ _ _ _ _ _ _ _)⟩
set_option maxHeartbeats 1000000 in
theorem two_rnum {n : Nat} {c : Nat → Nat} {u : CX} {v : MX} (hx : xTp n c u) (hm : mTp n c v) {e k : Nat} (he : e ≤ n) (hk : 300 ≤ k) {D : Nat → Nat} {Z : Nat → Bool} (hB : rBd D) (hs : 0 < sH D) {dp dr pt lt rd : Nat → Int32} {tO : Int32} (hD : Dr D Z dp dr pt lt rd tO) {i : Nat} (hi : i < 7) (h4 : 4 ≤ i) (kd st pl wa plm tk va : Int32) (li : Nat) : ∃ X' M', (fX5_advance k (rx u kd st (nI e) dp dr pt lt 0 pl (nI li))).bind (fun q10 => (fX5_seenNumber k (nI i) q10).bind (fun q12 => zix 7 (nI i) (fun j13 => zb (xs_Drules q12.2 (upd (xg_Drules q12.2) j13 q12.1)) (fun u14 => (fX5_advance k u14).bind (fun q16 => (fX5_readClose k q16).bind (fun r => some r)))))) = some X' ∧ (fX10_next k (mx v 0 wa (nI e) plm tk va rd tO)).bind (fun q48 => (fX10_number (nI (12 + i)) (nI (lsA i)) (nI (msA i)) q48).bind (fun q => (fX10_next k q).bind (fun r => mTail k r))) = some M' ∧ LnR n c u v e li X' M' := by
  have hbl : bLo (12 + i) = lsA i ∧ bHi (12 + i) = msA i := by
    rcases (show i = 4 ∨ i = 5 ∨ i = 6 by omega) with rfl | rfl | rfl <;> exact ⟨rfl, rfl⟩
  obtain ⟨b', e', t', g1, g2⟩ := two_adv hx hm he hk
  rcases g2 with ⟨t4, p1, p2⟩ | ⟨p1, p2⟩
  · rw [p1, p2, zbind_s, zbind_s]
    have hv := vl_lt g1.2.2.2.2.2
    have hse := xseen hx g1.2.1 g1.2.2.1 g1.2.2.2.2.2 t4 hk hi dp dr pt lt pl (nI li)
    have hnu := mnum (c := c) (v := v) (b := b') (e := e') (t := t') (i := i) (k := k) hv t4 hi (j := 12 + i) (by omega) wa rd tO
    by_cases hc : okN c b' e' t' i
    · rw [hse.1 hc, hnu.1 hc, zbind_s, zbind_s, zix_n hi (by omega), zb_e]
      dsimp only
      rw [show xs_Drules (rx u (kX t') (nI b') (nI e') dp dr pt lt 0 pl (nI li)) (upd (xg_Drules (rx u (kX t') (nI b') (nI e') dp dr pt lt 0 pl (nI li))) i (nI (vlT c b' e' t'))) = rx u (kX t') (nI b') (nI e') dp (upd dr i (nI (vlT c b' e' t'))) pt lt 0 pl (nI li) from rfl]
      have hD' := Dr_rule hD (i := i) (x := vlT c b' e' t') hi
      have hB' : rBd (zup D (12 + i) (vlT c b' e' t')) := rBd_up hB (by rw [hbl.1]; exact hc.2.1) (by rw [hbl.2]; exact hc.2.2)
      obtain ⟨X', M', r1, r2, r3⟩ := two_ac hx hm (e := e') g1.2.2.1 hk hB' (by rw [sH_up (by omega)]; exact hs) hD' (kX t') (nI b') pl wa (nI b') (nI t') (nI (vlT c b' e' t')) li
      refine ⟨X', M', r1, r2, ?_⟩
      rcases r3 with r3 | ⟨b2, e2, t2, D2, Z2, q1, q2⟩
      · exact Or.inl r3
      · have h1 := g1.1
        have h2 := g1.2.1
        exact Or.inr ⟨b2, e2, t2, D2, Z2, by omega, q2⟩
    · obtain ⟨x, hse⟩ := hse.2 hc
      rw [hse, hnu.2 hc, zbind_s, zbind_s, zix_n hi (by omega), zb_e]
      dsimp only
      rw [show xs_Drules (rx u (kX t') (nI b') (nI e') dp dr pt lt (nI (wN t')) (nI b') (nI li)) (upd (xg_Drules (rx u (kX t') (nI b') (nI e') dp dr pt lt (nI (wN t')) (nI b') (nI li))) i x) = rx u (kX t') (nI b') (nI e') dp (upd dr i x) pt lt (nI (wN t')) (nI b') (nI li) from rfl, xadv_f _ _ _ _ _ _ _ _ _ (wN_in t'), zbind_s, xclose_f _ _ _ _ _ _ _ _ _ (wN_in t'), zbind_s, mnext_f _ _ _ _ _ _ _ (wN_in t'), zbind_s, mTail_f _ _ _ _ _ _ _ (wN_in t')]
      exact ⟨_, _, rfl, rfl, Or.inl (RF_1 (wN t') (wN_in t') _ _ _ _ _ _ _ _ _ _ _ _ _ _ _ _ _)⟩
  · obtain ⟨e2, p1⟩ := p1 kd st dp dr pt lt pl (nI li)
    obtain ⟨sp, tk', va', p2⟩ := p2 wa plm tk va rd tO
    rw [p1, p2, zbind_s, zbind_s, xseen_f _ _ _ _ _ _ _ _ _ (by omega), zbind_s, zix_n hi (by omega), zb_e]
    dsimp only
    rw [show xs_Drules (rx u 0 (nI b') (nI e2) dp dr pt lt (nI 1) (nI b') (nI li)) (upd (xg_Drules (rx u 0 (nI b') (nI e2) dp dr pt lt (nI 1) (nI b') (nI li))) i 0) = rx u 0 (nI b') (nI e2) dp (upd dr i 0) pt lt (nI 1) (nI b') (nI li) from rfl, xadv_f _ _ _ _ _ _ _ _ _ (by omega), zbind_s, xclose_f _ _ _ _ _ _ _ _ _ (by omega), zbind_s, mnum_f _ _ _ _ _ _ _ _ _ _ (by omega), zbind_s, mnext_f _ _ _ _ _ _ _ (by omega), zbind_s, mTail_f _ _ _ _ _ _ _ (by omega)]
    exact ⟨_, _, rfl, rfl, Or.inl (RF_1 1 (by omega) _ _ _ _ _ _ _ _ _ _ _ _ _ _ _ _ _)⟩
