/-! the text: lines of parts, of hits, of the others -/
theorem xletter {n : Nat} {c : Nat → Nat} {u : CX} (hx : xTp n c u) {b e t : Nat} (hbe : b ≤ e) (he : e ≤ n) (hT : TokK n c b e t) (ht : t < 4) (dp dr pt lt : Nat → Int32) (fa pl li : Int32) : fX7_letter (rx u (kX t) (nI b) (nI e) dp dr pt lt fa pl li) = some (if t = 1 ∧ e - b = 1 then nI (c b - 97) else -1) := by
  have hn := hx.1
  unfold fX7_letter
  by_cases q : t = 1
  · subst q
    rw [if_pos (show xg_kind (rx u (kX 1) (nI b) (nI e) dp dr pt lt fa pl li) = 2 from rfl), show xg_tat (rx u (kX 1) (nI b) (nI e) dp dr pt lt fa pl li) = nI e from rfl, show xg_start (rx u (kX 1) (nI b) (nI e) dp dr pt lt fa pl li) = nI b from rfl, show xg_bytes (rx u (kX 1) (nI b) (nI e) dp dr pt lt fa pl li) = xg_bytes u from rfl, pk_sub hbe]
    have h1 : nI (e - b) = (1 : Int32) ↔ e - b = 1 := nI_eq (b := 1) (by omega) (by omega)
    by_cases q2 : e - b = 1
    · rcases hT with ⟨z, _⟩ | ⟨-, z1, z2, z3⟩ | ⟨z, _⟩ | ⟨z, _⟩ | ⟨z, _⟩ | ⟨z, _⟩
      · omega
      · have hA := z2 b (Nat.le_refl _) z1
        unfold isA at hA
        rw [if_pos (h1.mpr q2), zget_n (by omega) (by omega), (hx.2.2 b (by omega)).2, sb_lo _ (by omega), if_pos ⟨rfl, q2⟩, show (97 : Int32) = nI 97 from rfl, pk_sub (by omega)]
      · omega
      · omega
      · omega
      · omega
    · rw [if_neg (fun z => q2 (h1.mp z)), if_neg (fun z => q2 z.2)]
  · rw [if_neg (show ¬ xg_kind (rx u (kX t) (nI b) (nI e) dp dr pt lt fa pl li) = 2 from kX_1 t ht q), if_neg (fun z => q z.1)]
def mPart (k : Nat) (q2 : Int32) (u : MX) : Option MX :=
  (fX10_next k u).bind (fun q44 =>
  if (mg_wrong q44) = 0 then
    if (mg_token q44) = (1 : Int32) then
      if ((mg_spot q44) - (mg_place q44)) = (1 : Int32) then
        (fX10_byteAt (mg_place q44) q44).bind (fun q66 =>
        (fX10_in (q66.toInt64) (97 : Int64) (100 : Int64)).bind (fun q68 =>
        if q68 = 0 then
          jX10_readLine_j75 k q2 q44
        else
        jX10_readLine_j80 k q2 q44))
      else
      jX10_readLine_j75 k q2 q44
    else
    jX10_readLine_j75 k q2 q44
  else
  jX10_readLine_j80 k q2 q44)
/-- the reference's part -/
theorem mpart_c {n : Nat} {c : Nat → Nat} {v : MX} (hm : mTp n c v) {b e t k : Nat} (hbe : b ≤ e) (he : e ≤ n) (hT : TokK n c b e t) (ht : t < 4) (q2 wa : Int32) (rd : Nat → Int32) (tO va : Int32) (u : MX) (hn : fX10_next k u = some (mx v 0 wa (nI e) (nI b) (nI t) va rd tO)) : mPart k q2 u = if t = 1 ∧ e - b = 1 ∧ c b ≤ 100 then jX10_readLine_j80 k q2 (mx v 0 wa (nI e) (nI b) (nI t) va rd tO) else jX10_readLine_j75 k q2 (mx v 0 wa (nI e) (nI b) (nI t) va rd tO) := by
  have h2 := hm.1
  unfold mPart
  rw [hn, zbind_s, if_pos (show mg_wrong (mx v 0 wa (nI e) (nI b) (nI t) va rd tO) = 0 from rfl), show mg_token (mx v 0 wa (nI e) (nI b) (nI t) va rd tO) = nI t from rfl, show mg_spot (mx v 0 wa (nI e) (nI b) (nI t) va rd tO) = nI e from rfl, show mg_place (mx v 0 wa (nI e) (nI b) (nI t) va rd tO) = nI b from rfl, pk_sub hbe, mbyte (v := mx v 0 wa (nI e) (nI b) (nI t) va rd tO) hm (by omega), zbind_s, inIf]
  have h1 : nI (e - b) = (1 : Int32) ↔ e - b = 1 := nI_eq (b := 1) (by omega) (by omega)
  have h3 : nI t = (1 : Int32) ↔ t = 1 := nI_eq (b := 1) (by omega) (by omega)
  by_cases q : t = 1
  · subst q
    rw [if_pos (h3.mpr rfl)]
    by_cases q3 : e - b = 1
    · rcases hT with ⟨z, _⟩ | ⟨-, z1, z2, z3⟩ | ⟨z, _⟩ | ⟨z, _⟩ | ⟨z, _⟩ | ⟨z, _⟩
      · omega
      · have hA := z2 b (Nat.le_refl _) z1
        unfold isA at hA
        rw [if_pos (h1.mpr q3), mbI hm, if_pos (show b < n by omega)]
        by_cases q4 : c b ≤ 100
        · rw [if_pos (by
            show (97 : Int) ≤ _ ∧ _ ≤ (100 : Int)
            omega), if_pos ⟨rfl, q3, q4⟩]
        · rw [if_neg (by
            show ¬ ((97 : Int) ≤ _ ∧ _ ≤ (100 : Int))
            omega), if_neg (fun z => q4 z.2.2)]
      · omega
      · omega
      · omega
      · omega
    · rw [if_neg (fun z => q3 (h1.mp z)), if_neg (fun z => q3 z.2.1)]
  · rw [if_neg (fun z => q (h3.mp z)), if_neg (fun z => q z.1)]
theorem bl_part : ∀ i, i < 3 → ∀ p, p < 4 → bLo (4 * i + p) = lsA i ∧ bHi (4 * i + p) = msA i := by decide
set_option maxHeartbeats 2000000 in
theorem two_part {n : Nat} {c : Nat → Nat} {u : CX} {v : MX} (hx : xTp n c u) (hm : mTp n c v) {e k : Nat} (he : e ≤ n) (hk : 300 ≤ k) {D : Nat → Nat} {Z : Nat → Bool} (hB : rBd D) (hs : 0 < sH D) {dp dr pt lt rd : Nat → Int32} {tO : Int32} (hD : Dr D Z dp dr pt lt rd tO) {i : Nat} (hi : i < 3) (kd st pl wa plm tk va : Int32) (li : Nat) : ∃ X' M', (fX5_advance k (rx u kd st (nI e) dp dr pt lt 0 pl (nI li))).bind (fun q6 => (fX5_readPartLine k (nI i) q6).bind (fun q => (fX5_readClose k q).bind (fun r => some r))) = some X' ∧ mPart k (nI i) (mx v 0 wa (nI e) plm tk va rd tO) = some M' ∧ LnR n c u v e li X' M' := by
  obtain ⟨b', e', t', g1, g2⟩ := two_adv hx hm he hk
  rcases g2 with ⟨t4, p1, p2⟩ | ⟨p1, p2⟩
  · have hn := hx.1
    have g3 := g1.2.2.1
    rw [p1, zbind_s, mpart_c hm g1.2.1 g1.2.2.1 g1.2.2.2.2.2 t4 _ _ _ _ _ _ (p2 wa plm tk va rd tO)]
    unfold fX5_readPartLine
    rw [if_pos (show xg_rfault (rx u (kX t') (nI b') (nI e') dp dr pt lt 0 pl (nI li)) = 0 from rfl), xletter hx g1.2.1 g1.2.2.1 g1.2.2.2.2.2 t4, zbind_s, xpIf]
    by_cases q : t' = 1 ∧ e' - b' = 1 ∧ c b' ≤ 100
    · obtain ⟨q1, q2, q3⟩ := q
      have hA : isA (c b') := by
        rcases g1.2.2.2.2.2 with ⟨z, _⟩ | ⟨-, z1, z2, z3⟩ | ⟨z, _⟩ | ⟨z, _⟩ | ⟨z, _⟩ | ⟨z, _⟩
        · omega
        · exact z2 b' (Nat.le_refl _) z1
        · omega
        · omega
        · omega
        · omega
      unfold isA at hA
      obtain ⟨p, hp4, hp⟩ : ∃ p, p < 4 ∧ c b' - 97 = p := ⟨c b' - 97, by omega, rfl⟩
      rw [if_pos (show t' = 1 ∧ e' - b' = 1 from ⟨q1, q2⟩), if_pos (show t' = 1 ∧ e' - b' = 1 ∧ c b' ≤ 100 from ⟨q1, q2, q3⟩), hp, if_pos (by rw [nI_toInt (by omega)]; omega), zb_e, show (4 : Int32) = nI 4 from rfl, pk_mul, nI_add, zget_n (by omega) (by omega), show xg_partTold (rx u (kX t') (nI b') (nI e') dp dr pt lt 0 pl (nI li)) = pt from rfl, hD.2.2.2.1 (4 * i + p) (by omega)]
      have hj80 : jX10_readLine_j80 k (nI i) (mx v 0 wa (nI e') (nI b') (nI t') (nI (vlT c b' e' t')) rd tO) = jX10_readLine_j106 k (nI i) (nI (4 * i + p)) (mx v 0 wa (nI e') (nI b') (nI t') (nI (vlT c b' e' t')) rd tO) := by
        unfold jX10_readLine_j80
        rw [if_pos (show mg_wrong (mx v 0 wa (nI e') (nI b') (nI t') (nI (vlT c b' e' t')) rd tO) = 0 from rfl), show mg_place (mx v 0 wa (nI e') (nI b') (nI t') (nI (vlT c b' e' t')) rd tO) = nI b' from rfl, mbyte (v := mx v 0 wa (nI e') (nI b') (nI t') (nI (vlT c b' e' t')) rd tO) hm (by omega), zbind_s, if_pos (show b' < n by omega), show (4 : Int32) = nI 4 from rfl, show (97 : Int32) = nI 97 from rfl, pk_mul, nI_add, pk_sub (by omega), show 4 * i + c b' - 97 = 4 * i + p by omega]
      rw [hj80]
      have ho := once_o (v := v) (j := 4 * i + p) (by omega) wa (nI e') (nI b') (nI t') (nI (vlT c b' e' t')) rd tO
      have hz := hD.2.2.2.2.2.2 (4 * i + p) (by omega)
      cases hZ : Z (4 * i + p) with
      | true =>
        rw [hZ] at hz
        rw [if_neg (show ¬ bI true = 0 by decide), xfail, zbind_s, zbind_s, xclose_f _ _ _ _ _ _ _ _ _ (by omega), zbind_s]
        unfold jX10_readLine_j106
        rw [ho.1 hz, zbind_s]
        have h127 : ∀ t2, jX10_readLine_j127 k (nI i) (nI (4 * i + p)) t2 (mx v (nI 4) (nI b') (nI e') (nI b') (nI t') (nI (vlT c b' e' t')) rd (tO ||| ((1 : Int32) <<< (nI (4 * i + p) &&& 31)))) = some (mx v (nI 4) (nI b') (nI e') (nI b') (nI t') (nI (vlT c b' e' t')) rd (tO ||| ((1 : Int32) <<< (nI (4 * i + p) &&& 31)))) := by
          intro t2
          unfold jX10_readLine_j127
          rw [j139_e, j139_e, mnum_f _ _ _ _ _ _ _ _ _ _ (by omega), zbind_s, mnum_f _ _ _ _ _ _ _ _ _ _ (by omega), zbind_s, mnext_f _ _ _ _ _ _ _ (by omega), zbind_s, mTail_f _ _ _ _ _ _ _ (by omega)]
          split <;> rfl
        rw [mnext_f _ _ _ _ _ _ _ (by omega), zbind_s, h127, h127]
        refine ⟨_, mx v (nI 4) (nI b') (nI e') (nI b') (nI t') (nI (vlT c b' e' t')) rd (tO ||| ((1 : Int32) <<< (nI (4 * i + p) &&& 31))), rfl, ?_, Or.inl (RF_1 4 (by omega) _ _ _ _ _ _ _ _ _ _ _ _ _ _ _ _ _)⟩
        split <;> rfl
      | false =>
        rw [hZ] at hz
        rw [if_pos (show bI false = 0 from rfl), zix_n (by omega) (by omega), zb_e, vbn, show xs_partTold (rx u (kX t') (nI b') (nI e') dp dr pt lt 0 pl (nI li)) (upd pt (4 * i + p) 1) = rx u (kX t') (nI b') (nI e') dp dr (upd pt (4 * i + p) 1) lt 0 pl (nI li) from rfl, j106_o hi _ _ _ (ho.2 hz)]
        have hD' := Dr_told hD (i := 4 * i + p) (by omega)
        obtain ⟨X', M', r1, r2, r3⟩ := two_pnum hx hm (e := e') g1.2.2.1 hk hB hs hD' (i := i) (s := 4 * i + p) (by omega) (by omega) (bl_part i hi p hp4) (kX t') (nI b') pl wa (nI b') (nI t') (nI (vlT c b' e' t')) li
        refine ⟨X', M', r1, r2, ?_⟩
        rcases r3 with r3 | ⟨b2, e2, t2, D2, Z2, y1, y2⟩
        · exact Or.inl r3
        · have h1 := g1.1
          have h2 := g1.2.1
          exact Or.inr ⟨b2, e2, t2, D2, Z2, by omega, y2⟩
    · have hnp : ¬ (0 ≤ (if t' = 1 ∧ e' - b' = 1 then nI (c b' - 97) else (-1 : Int32)).toInt ∧ (if t' = 1 ∧ e' - b' = 1 then nI (c b' - 97) else (-1 : Int32)).toInt < 4) := by
        by_cases q2 : t' = 1 ∧ e' - b' = 1
        · rw [if_pos q2]
          have hA : c b' < 256 := (hx.2.2 b' (by omega)).1
          rw [nI_toInt (by omega)]
          intro z
          exact q ⟨q2.1, q2.2, by omega⟩
        · rw [if_neg q2]
          decide
      rw [if_neg hnp, if_neg q, xfail, zbind_s, zbind_s, show (2 : Int32) = nI 2 from rfl, xclose_f _ _ _ _ _ _ _ _ _ (by omega), zbind_s]
      unfold jX10_readLine_j75
      rw [mfails, zbind_s, show (2 : Int32) = nI 2 from rfl]
      obtain ⟨tO', h80⟩ := j80_f (k := k) (v := v) (w := 2) (nI i) (nI b') (nI e') (nI b') (nI t') (nI (vlT c b' e' t')) rd tO (by omega)
      rw [h80]
      exact ⟨_, _, rfl, rfl, Or.inl (RF_1 2 (by omega) _ _ _ _ _ _ _ _ _ _ _ _ _ _ _ _ _)⟩
  · obtain ⟨e2, p1⟩ := p1 kd st dp dr pt lt pl (nI li)
    obtain ⟨sp, tk', va', p2⟩ := p2 wa plm tk va rd tO
    obtain ⟨tO', h80⟩ := j80_f (k := k) (v := v) (w := 1) (nI i) (nI b') sp (nI b') tk' va' rd tO (by omega)
    unfold mPart
    rw [p1, p2, zbind_s, zbind_s, xpart_f _ _ _ _ _ _ _ _ _ _ (by omega), zbind_s, xclose_f _ _ _ _ _ _ _ _ _ (by omega), zbind_s, if_neg (show ¬ mg_wrong (mx v (nI 1) (nI b') sp (nI b') tk' va' rd tO) = 0 from nI_w (by omega)), h80]
    exact ⟨_, _, rfl, rfl, Or.inl (RF_1 1 (by omega) _ _ _ _ _ _ _ _ _ _ _ _ _ _ _ _ _)⟩
