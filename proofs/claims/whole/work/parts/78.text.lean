/-! the text: a line whole, all lines -/
theorem xj35 {k : Nat} {u : CX} {i : Nat} (hi : i < 7) (kd st at_ : Int32) (dp dr pt lt : Nat → Int32) (pl li : Int32) : jX5_readLine_j35 k (nI i) (rx u kd st at_ dp dr pt lt 0 pl li) = (fX5_advance k (rx u kd st at_ dp dr pt (upd lt i 1) 0 pl li)).bind (fun q6 =>
  if (3 : Int32) ≤ nI i then
    if nI i = (3 : Int32) then
      (fX5_readHits k q6).bind (fun q16 =>
      (fX5_readClose k q16).bind (fun q18 =>
      some q18))
    else
    (fX5_seenNumber k (nI i) q6).bind (fun q8 =>
    zix 7 (nI i) (fun j9 => zb (xs_Drules q8.2 (upd (xg_Drules q8.2) j9 q8.1)) (fun u10 =>
    (fX5_advance k u10).bind (fun q12 =>
    (fX5_readClose k q12).bind (fun q14 =>
    some q14)))))
  else
  (fX5_readPartLine k (nI i) q6).bind (fun q20 =>
  (fX5_readClose k q20).bind (fun q22 =>
  some q22))) := by
  unfold jX5_readLine_j35
  rw [zix_n hi (by omega), zb_e, vbn]
  rfl
theorem nI_34 : ¬ (nI 3 = (-4 : Int32)) := by decide
set_option maxHeartbeats 2000000 in
theorem two_line {n : Nat} {c : Nat → Nat} {u : CX} {v : MX} (hx : xTp n c u) (hm : mTp n c v) (hC : mConst v) {k : Nat} (hk : 300 ≤ k) {b e t li : Nat} {D : Nat → Nat} {Z : Nat → Bool} (hB : rBd D) (hs : 0 < sH D) {X : CX} {M : MX} (hR : RO n c u v b e t D Z li X M) : ∃ X' M', fX5_readLine k X = some X' ∧ fX10_readLine k M = some M' ∧ LnR n c u v e li X' M' := by
  obtain ⟨⟨a, hT⟩, ht, dp, dr, pt, lt, pl, wa, rd, tO, rfl, rfl, hD⟩ := hR
  have he := hT.2.2.1
  have hn := hx.1
  unfold fX5_readLine fX10_readLine
  rcases two_name (u := rx u (kX t) (nI b) (nI e) dp dr pt lt 0 pl (nI li)) (v := mx v 0 wa (nI e) (nI b) (nI t) (nI (vlT c b e t)) rd tO) (k := k) hx hm hC hT.2.1 he hT.2.2.2.2.2 hk rfl rfl rfl rfl rfl rfl with ⟨n1, n2⟩ | ⟨i, hi, t1, n1, n2⟩
  · rw [n1, n2, zbind_s, zbind_s, if_neg (show ¬ (0 : Int32) ≤ -1 by decide), if_pos (show (-4 : Int32) = -4 from rfl), xfail, mfails, zbind_s, zbind_s]
    exact ⟨_, _, rfl, rfl, Or.inl (RF_1 2 (by omega) _ _ _ _ _ _ _ _ _ _ _ _ _ _ _ _ _)⟩
  · have hi4 : ¬ nI i = (-4 : Int32) := by
      intro q
      have := congrArg Int32.toInt q
      rw [nI_toInt (by omega)] at this
      have h44 : (-4 : Int32).toInt = -4 := rfl
      omega
    have hi0 : (0 : Int32) ≤ nI i := (nI_leI (a := 0) (by omega) (by omega)).mpr (by omega)
    have hi3 : nI i < (3 : Int32) ↔ i < 3 := nI_ltI (b := 3) (by omega) (by omega)
    have h3i : (3 : Int32) ≤ nI i ↔ 3 ≤ i := nI_leI (a := 3) (by omega) (by omega)
    rw [n1, n2, zbind_s, zbind_s, if_pos hi0, if_neg hi4]
    rcases Nat.lt_or_ge i 3 with q | q
    · rw [if_pos (hi3.mpr q), if_neg (fun z => absurd (h3i.mp z) (by omega)), xj35 hi]
      simp only [if_neg (fun z => absurd (h3i.mp z) (by omega) : ¬ (3 : Int32) ≤ nI i)]
      exact two_part hx hm he hk hB hs (Dr_line hD q 1) q (kX t) (nI b) pl wa (nI b) (nI t) (nI (vlT c b e t)) li
    · rw [if_neg (fun z => absurd (hi3.mp z) (by omega)), if_pos (h3i.mpr q), zget_n hi (by omega), show xg_lineTold (rx u (kX t) (nI b) (nI e) dp dr pt lt 0 pl (nI li)) = lt from rfl]
      by_cases q3 : i = 3
      · subst q3
        have ho := once_o (v := v) (j := 12) (by omega) wa (nI e) (nI b) (nI t) (nI (vlT c b e t)) rd tO
        have hz := hD.2.2.2.2.2.2 12 (by omega)
        rw [if_pos (show nI 3 = (3 : Int32) from rfl), hD.2.2.2.2.1]
        cases hZ : Z 12 with
        | true =>
          rw [hZ] at hz
          rw [if_neg (show ¬ bI true = 0 by decide), xfail, zbind_s]
          refine ⟨_, mx v (nI 4) (nI b) (nI e) (nI b) (nI t) (nI (vlT c b e t)) rd (tO ||| ((1 : Int32) <<< (nI 12 &&& 31))), rfl, ?_, Or.inl (RF_1 4 (by omega) _ _ _ _ _ _ _ _ _ _ _ _ _ _ _ _ _)⟩
          show (fX10_once (nI 12) (mx v 0 wa (nI e) (nI b) (nI t) (nI (vlT c b e t)) rd tO)).bind (fun q20 => (ziter (bX10_readLine_162 k) k (nI 0, q20)).bind (mEnd k)) = _
          rw [ho.1 hz, zbind_s, mhit_f _ _ _ _ _ _ _ (by omega) 4 0 k (by omega) (by omega), zbind_s, mEnd_f _ _ _ _ _ _ _ (by omega)]
        | false =>
          rw [hZ] at hz
          rw [if_pos (show bI false = 0 from rfl), xj35 hi]
          have hD' := Dr_hits hD
          obtain ⟨k', rfl⟩ : ∃ k', k = k' + 1 := ⟨k - 1, by omega⟩
          have hlp : ∀ M, bX10_readLine_162 (k' + 1) (nI 0, M) = (fX10_next (k' + 1) M).bind (fun q22 => (fX10_number (nI (12 + 0)) 0 99 q22).bind (fun q24 => some (.inl (nI (0 + 1), q24)))) := fun M => rfl
          obtain ⟨b', e', t', g1, g2⟩ := two_adv hx hm (e := e) he hk
          have h1 := g1.1
          have h2 := g1.2.1
          rcases g2 with ⟨t4, p1, p2⟩ | ⟨p1, p2⟩
          · obtain ⟨X', M', r1, r2, r3⟩ := two_hits hx hm hk (zup Z 12 true) e li 3 0 (by omega) (k' + 1) k' e b' e' t' D dp dr pt (upd lt 3 1) rd (tO ||| ((1 : Int32) <<< (nI 12 &&& 31))) pl wa (by omega) (by omega) (by omega) g1 t4 hD' hB
            have hlp2 := hlp (mx v 0 wa (nI e) (nI b) (nI t) (nI (vlT c b e t)) rd (tO ||| ((1 : Int32) <<< (nI 12 &&& 31))))
            rw [p2, zbind_s] at hlp2
            refine ⟨X', M', ?_, ?_, r3⟩
            · rw [p1, zbind_s, if_pos (show (3 : Int32) ≤ nI 3 by decide), if_pos (show nI 3 = (3 : Int32) from rfl), ← r1]
              unfold fX5_readHits
              show ((ziter (bX5_readHits_4 (k' + 1)) (k' + 1) (nI 0, nI 0, _)).bind _).bind _ = (ziter (bX5_readHits_4 (k' + 1)) (k' + 1) (nI 0, nI 0, _)).bind _
              generalize ziter (bX5_readHits_4 (k' + 1)) (k' + 1) (nI 0, nI 0, rx u (kX t') (nI b') (nI e') dp dr pt (upd lt 3 1) 0 pl (nI li)) = y
              cases y <;> rfl
            · show (fX10_once (nI 12) (mx v 0 wa (nI e) (nI b) (nI t) (nI (vlT c b e t)) rd tO)).bind (fun q20 => (ziter (bX10_readLine_162 (k' + 1)) (k' + 1) (nI 0, q20)).bind (mEnd (k' + 1))) = _
              rw [ho.2 hz, zbind_s, ziter_b hlp2, ← r2]
              generalize fX10_number (nI (12 + 0)) 0 99 (mx v 0 wa (nI e') (nI b') (nI t') (nI (vlT c b' e' t')) rd (tO ||| ((1 : Int32) <<< (nI 12 &&& 31)))) = y
              cases y <;> rfl
          · obtain ⟨e2, p1⟩ := p1 (kX t) (nI b) dp dr pt (upd lt 3 1) pl (nI li)
            obtain ⟨sp, tk', va', p2⟩ := p2 wa (nI b) (nI t) (nI (vlT c b e t)) rd (tO ||| ((1 : Int32) <<< (nI 12 &&& 31)))
            have hlp2 := hlp (mx v 0 wa (nI e) (nI b) (nI t) (nI (vlT c b e t)) rd (tO ||| ((1 : Int32) <<< (nI 12 &&& 31))))
            rw [p2, zbind_s, mnum_f _ _ _ _ _ _ _ _ _ _ (by omega), zbind_s] at hlp2
            refine ⟨rx u 0 (nI b') (nI e2) dp dr pt (upd lt 3 1) (nI 1) (nI b') (nI li), mx v (nI 1) (nI b') sp (nI b') tk' va' rd (tO ||| ((1 : Int32) <<< (nI 12 &&& 31))), ?_, ?_, Or.inl (RF_1 1 (by omega) _ _ _ _ _ _ _ _ _ _ _ _ _ _ _ _ _)⟩
            · rw [p1, zbind_s, if_pos (show (3 : Int32) ≤ nI 3 by decide), if_pos (show nI 3 = (3 : Int32) from rfl)]
              unfold fX5_readHits
              have hend : ziter (bX5_readHits_4 (k' + 1)) (k' + 1) (0, 0, rx u 0 (nI b') (nI e2) dp dr pt (upd lt 3 1) (nI 1) (nI b') (nI li)) = some (rx u 0 (nI b') (nI e2) dp dr pt (upd lt 3 1) (nI 1) (nI b') (nI li)) := ziter_r (xhit_end (k := k' + 1) (w := 1) 0 0 0 (nI b') (nI e2) dp dr pt (upd lt 3 1) (nI b') (nI li) (by omega))
              rw [hend, zbind_s, zbind_s, xclose_f _ _ _ _ _ _ _ _ _ (by omega), zbind_s]
            · show (fX10_once (nI 12) (mx v 0 wa (nI e) (nI b) (nI t) (nI (vlT c b e t)) rd tO)).bind (fun q20 => (ziter (bX10_readLine_162 (k' + 1)) (k' + 1) (nI 0, q20)).bind (mEnd (k' + 1))) = _
              rw [ho.2 hz, zbind_s, ziter_l hlp2, mhit_f _ _ _ _ _ _ _ (by omega) 3 (0 + 1) k' (by omega) (by omega), zbind_s, mEnd_f _ _ _ _ _ _ _ (by omega)]
      · obtain ⟨m, rfl⟩ : ∃ m, i = 4 + m := ⟨i - 4, by omega⟩
        have hm3 : m < 3 := by omega
        have hi33 : nI (4 + m) = (3 : Int32) ↔ 4 + m = 3 := nI_eq (b := 3) (by omega) (by omega)
        have h16 : (16 : Int32) + nI (4 + m) - 4 = nI (16 + m) := by
          rw [show (16 : Int32) = nI 16 from rfl, show (4 : Int32) = nI 4 from rfl, nI_add, pk_sub (by omega), show 16 + (4 + m) - 4 = 16 + m by omega]
        have ho := once_o (v := v) (j := 16 + m) (by omega) wa (nI e) (nI b) (nI t) (nI (vlT c b e t)) rd tO
        have hz := hD.2.2.2.2.2.2 (16 + m) (by omega)
        have h286 : ∀ w : MX, (if nI (4 + m) = (4 : Int32) then jX10_readLine_j286 k (nI (16 + m)) 0 999 w else if nI (4 + m) = (5 : Int32) then jX10_readLine_j286 k (nI (16 + m)) 0 99 w else jX10_readLine_j286 k (nI (16 + m)) 0 60 w) = (fX10_number (nI (12 + (4 + m))) (nI (lsA (4 + m))) (nI (msA (4 + m))) w).bind (fun q => (fX10_next k q).bind (fun r => mTail k r)) := by
          intro w
          rcases (show m = 0 ∨ m = 1 ∨ m = 2 by omega) with rfl | rfl | rfl <;> rfl
        rw [if_neg (fun z => q3 (hi33.mp z)), hD.2.2.2.2.2.1 m hm3, h16]
        simp only [h286]
        cases hZ : Z (16 + m) with
        | true =>
          rw [hZ] at hz
          rw [if_neg (show ¬ bI true = 0 by decide), xfail, zbind_s, ho.1 hz, zbind_s, mnext_f _ _ _ _ _ _ _ (by omega), zbind_s, mnum_f _ _ _ _ _ _ _ _ _ _ (by omega), zbind_s, mnext_f _ _ _ _ _ _ _ (by omega), zbind_s, mTail_f _ _ _ _ _ _ _ (by omega)]
          exact ⟨_, _, rfl, rfl, Or.inl (RF_1 4 (by omega) _ _ _ _ _ _ _ _ _ _ _ _ _ _ _ _ _)⟩
        | false =>
          rw [hZ] at hz
          rw [if_pos (show bI false = 0 from rfl), xj35 hi, ho.2 hz, zbind_s]
          simp only [if_neg (fun z => q3 (hi33.mp z) : ¬ nI (4 + m) = (3 : Int32)), if_pos (h3i.mpr q)]
          exact two_rnum hx hm he hk hB hs (Dr_other hD hm3) hi (by omega) (kX t) (nI b) pl wa (nI b) (nI t) (nI (vlT c b e t)) li
/-- all lines -/
theorem kX_0 : ∀ t, t < 4 → (kX t = 1 ↔ t = 0) := by decide
theorem two_loop {n : Nat} {c : Nat → Nat} {u : CX} {v : MX} (hx : xTp n c u) (hm : mTp n c v) (hC : mConst v) {k : Nat} (hk : 300 ≤ k) : ∀ (d i f b e t : Nat) (D : Nat → Nat) (Z : Nat → Bool) (X : CX) (M : MX), i + d = 201 → d < f → (t = 0 ∨ i + 1 ≤ e) → rBd D → 0 < sH D → RO n c u v b e t D Z i X M → i ≤ 200 →
    ∃ X' M' r, ziter (bX5_readTape_10 k) f (nI i, X) = some X' ∧ ziter (bX10_text_47 k) f (nI i, M) = some (r, M') ∧ (RF u v X' M' ∨ ∃ b' e' D' Z' li, li ≤ 200 ∧ r = nI li ∧ rBd D' ∧ 0 < sH D' ∧ RO n c u v b' e' 0 D' Z' li X' M') := by
  intro d
  induction d with
  | zero => intro i f b e t D Z X M h1 h2 h3 hB hs hR h4; omega
  | succ d ih =>
    intro i f b e t D Z X M h1 h2 h3 hB hs hR h4
    have hn := hx.1
    obtain ⟨f', rfl⟩ : ∃ f', f = f' + 1 := ⟨f - 1, by omega⟩
    have hR0 := hR
    obtain ⟨⟨a, hT⟩, ht, dp, dr, pt, lt, pl, wa, rd, tO, rfl, rfl, hD⟩ := hR
    have he := hT.2.2.1
    have hxf : xg_rfault (rx u (kX t) (nI b) (nI e) dp dr pt lt 0 pl (nI i)) = 0 := rfl
    have hmf : mg_wrong (mx v 0 wa (nI e) (nI b) (nI t) (nI (vlT c b e t)) rd tO) = 0 := rfl
    by_cases q : t = 0
    · subst q
      have sx : bX5_readTape_10 k (nI i, rx u (kX 0) (nI b) (nI e) dp dr pt lt 0 pl (nI i)) = some (.inr (rx u (kX 0) (nI b) (nI e) dp dr pt lt 0 pl (nI i))) := by
        unfold bX5_readTape_10
        dsimp only
        rw [if_pos hxf, if_pos (show xg_kind (rx u (kX 0) (nI b) (nI e) dp dr pt lt 0 pl (nI i)) = 1 from rfl)]
        split <;> rfl
      have sm_ : bX10_text_47 k (nI i, mx v 0 wa (nI e) (nI b) (nI 0) (nI (vlT c b e 0)) rd tO) = some (.inr (nI i, mx v 0 wa (nI e) (nI b) (nI 0) (nI (vlT c b e 0)) rd tO)) := by
        unfold bX10_text_47
        dsimp only
        rw [if_pos hmf, if_pos (show mg_token (mx v 0 wa (nI e) (nI b) (nI 0) (nI (vlT c b e 0)) rd tO) = 0 from rfl)]
      rw [ziter_r sx, ziter_r sm_]
      exact ⟨_, _, _, rfl, rfl, Or.inr ⟨b, e, D, Z, i, h4, rfl, hB, hs, hR0⟩⟩
    · have hie : i + 1 ≤ e := by omega
      obtain ⟨X', M', r1, r2, r3⟩ := two_line hx hm hC hk hB hs hR0
      have sx : bX5_readTape_10 k (nI i, rx u (kX t) (nI b) (nI e) dp dr pt lt 0 pl (nI i)) = some (.inl (nI (i + 1), X')) := by
        unfold bX5_readTape_10
        dsimp only
        rw [if_neg (by rw [show (200 : Int32) = nI 200 from rfl, nI_leI (by omega) (by omega)]; omega), if_pos hxf, if_neg (show ¬ xg_kind (rx u (kX t) (nI b) (nI e) dp dr pt lt 0 pl (nI i)) = 1 from fun z => q ((kX_0 t ht).mp z)), r1, zbind_s, nI_1]
      have sm_ : bX10_text_47 k (nI i, mx v 0 wa (nI e) (nI b) (nI t) (nI (vlT c b e t)) rd tO) = some (.inl (nI (i + 1), M')) := by
        unfold bX10_text_47
        dsimp only
        rw [if_pos hmf, if_neg (show ¬ mg_token (mx v 0 wa (nI e) (nI b) (nI t) (nI (vlT c b e t)) rd tO) = 0 from by
          show ¬ nI t = nI 0
          rw [nI_eq (by omega) (by omega)]
          exact q), r2, zbind_s, nI_1]
      rw [ziter_l sx, ziter_l sm_]
      rcases r3 with ⟨kd', st', at', dp', dr', pt', lt', w, pl', li', sp', plm', tk', va', rd', tO', hw, rfl, rfl⟩ | ⟨b', e', t', D', Z', q1, q2, q3, q4⟩
      · obtain ⟨f2, rfl⟩ : ∃ f2, f' = f2 + 1 := ⟨f' - 1, by omega⟩
        have sx2 : bX5_readTape_10 k (nI (i + 1), rx u kd' st' at' dp' dr' pt' lt' (nI w) pl' li') = some (.inr (rx u kd' st' at' dp' dr' pt' lt' (nI w) pl' li')) := by
          unfold bX5_readTape_10
          dsimp only
          rw [if_neg (show ¬ xg_rfault (rx u kd' st' at' dp' dr' pt' lt' (nI w) pl' li') = 0 from nI_w hw)]
          split <;> rfl
        have sm2 : bX10_text_47 k (nI (i + 1), mx v (nI w) pl' sp' plm' tk' va' rd' tO') = some (.inr (nI (i + 1), mx v (nI w) pl' sp' plm' tk' va' rd' tO')) := by
          unfold bX10_text_47
          dsimp only
          rw [if_neg (show ¬ mg_wrong (mx v (nI w) pl' sp' plm' tk' va' rd' tO') = 0 from nI_w hw)]
        rw [ziter_r sx2, ziter_r sm2]
        exact ⟨_, _, _, rfl, rfl, Or.inl (RF_1 w hw _ _ _ _ _ _ _ _ _ _ _ _ _ _ _ _ _)⟩
      · have hT' := q4.1
        obtain ⟨a2, hT'⟩ := hT'
        have hl := (tok_lt hT'.2.2.2.2.2).2
        exact ih (i + 1) f' b' e' t' D' Z' X' M' (by omega) (by omega) (by
          by_cases z : t' = 0
          · exact Or.inl z
          · have := hl z
            exact Or.inr (by omega)) q2 q3 q4 (by omega)
