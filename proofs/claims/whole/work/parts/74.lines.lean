/-! the text: what was told, lines; rows of bits begun as kit/laws/BITS.to-paste has them -/
def bt (x : Int32) (i : Nat) : Bool := x.toBitVec.getLsbD i
theorem b_ext {x y : Int32} (h : ∀ i, i < 32 → bt x i = bt y i) : x = y := Int32.toBitVec_inj.mp (BitVec.eq_of_getLsbD_eq (fun i hi => h i hi))
theorem b_or (x y : Int32) (i : Nat) : bt (x ||| y) i = (bt x i || bt y i) := by unfold bt; rw [Int32.toBitVec_or, BitVec.getLsbD_or]
theorem b_and (x y : Int32) (i : Nat) : bt (x &&& y) i = (bt x i && bt y i) := by unfold bt; rw [Int32.toBitVec_and, BitVec.getLsbD_and]
theorem b_big {x : Int32} {i : Nat} (h : 32 ≤ i) : bt x i = false := BitVec.getLsbD_of_ge _ _ h
theorem b_0 (i : Nat) : bt 0 i = false := BitVec.getLsbD_zero
theorem s_l : ∀ n, n < 32 → ((nI n &&& 31).toBitVec.smod 32).toNat = n := by decide +kernel
theorem b_shl (n : Nat) (hn : n < 32) (x : Int32) {i : Nat} (hi : i < 32) : bt (x <<< (nI n &&& 31)) i = (decide (n ≤ i) && bt x (i - n)) := by
  unfold bt
  rw [Int32.toBitVec_shiftLeft]
  show (x.toBitVec <<< ((nI n &&& 31).toBitVec.smod 32).toNat).getLsbD i = _
  rw [s_l n hn, BitVec.getLsbD_shiftLeft]
  rcases Nat.lt_or_ge i n with h | h
  · simp [h, Nat.not_le.mpr h]
  · simp [hi, h, Nat.not_lt.mpr h]
theorem b_sshr (n : Nat) (hn : n < 32) (x : Int32) {i : Nat} (hi : i < 32) : bt (x >>> (nI n &&& 31)) i = if n + i < 32 then bt x (n + i) else bt x 31 := by
  unfold bt
  rw [Int32.toBitVec_shiftRight]
  show (x.toBitVec.sshiftRight ((nI n &&& 31).toBitVec.smod 32).toNat).getLsbD i = _
  rw [s_l n hn, BitVec.getLsbD_sshiftRight, BitVec.msb_eq_getLsbD_last]
  simp [hi]
theorem b_1 : ∀ i, i < 32 → bt 1 i = decide (i = 0) := by decide +kernel
/-- one of the bits of what was told -/
theorem on_t {x : Int32} {j : Nat} (hj : j < 32) : ((x >>> (nI j &&& 31)) &&& 1) = 1 ↔ bt x j = true := by
  have h0 : bt ((x >>> (nI j &&& 31)) &&& 1) 0 = bt x j := by
    rw [b_and, b_sshr j hj x (by omega), if_pos (by omega), b_1 0 (by omega)]
    simp
  constructor
  · intro h
    rw [← h0, h]
    exact b_1 0 (by omega)
  · intro h
    apply b_ext
    intro i hi
    by_cases e : i = 0
    · rw [e, h0, h, b_1 0 (by omega)]
      rfl
    · rw [b_and, b_1 i hi, decide_eq_false e, Bool.and_false]
theorem on_s {x : Int32} {a j : Nat} (ha : a < 32) (hj : j < 32) : bt (x ||| ((1 : Int32) <<< (nI a &&& 31))) j = (bt x j || decide (j = a)) := by
  rw [b_or, b_shl a ha _ hj]
  congr 1
  by_cases e : a ≤ j
  · rw [b_1 (j - a) (by omega), decide_eq_true e, Bool.true_and]
    by_cases q : j = a
    · rw [decide_eq_true q, decide_eq_true (by omega)]
    · rw [decide_eq_false q, decide_eq_false (by omega)]
  · rw [decide_eq_false e, Bool.false_and, decide_eq_false (by omega)]
/-- bounds of what is told -/
def bLo (q : Nat) : Nat := if q < 4 then 1 else 0
def bHi (q : Nat) : Nat := ([20, 20, 20, 20, 10, 10, 10, 10, 20, 20, 20, 20, 99, 99, 99, 99, 999, 99, 60] : List Nat).getD q 0
def rBd (D : Nat → Nat) : Prop := ∀ q, q < 19 → bLo q ≤ D q ∧ D q ≤ bHi q
theorem rBd_P {D : Nat → Nat} (h : rBd D) (hs : 0 < sH D) : rP D := by
  have h4 : ∀ p, p < 4 → p = 0 ∨ p = 1 ∨ p = 2 ∨ p = 3 := fun p hp => by omega
  refine ⟨fun p hp => ?_, fun p hp => ?_, fun p hp => ?_, fun p hp => ?_, hs, (h 16 (by omega)).2, (h 17 (by omega)).2, (h 18 (by omega)).2⟩
  · rcases h4 p hp with rfl | rfl | rfl | rfl
    · exact h 0 (by omega)
    · exact h 1 (by omega)
    · exact h 2 (by omega)
    · exact h 3 (by omega)
  · rcases h4 p hp with rfl | rfl | rfl | rfl
    · exact (h 4 (by omega)).2
    · exact (h 5 (by omega)).2
    · exact (h 6 (by omega)).2
    · exact (h 7 (by omega)).2
  · rcases h4 p hp with rfl | rfl | rfl | rfl
    · exact (h 8 (by omega)).2
    · exact (h 9 (by omega)).2
    · exact (h 10 (by omega)).2
    · exact (h 11 (by omega)).2
  · rcases h4 p hp with rfl | rfl | rfl | rfl
    · exact (h 12 (by omega)).2
    · exact (h 13 (by omega)).2
    · exact (h 14 (by omega)).2
    · exact (h 15 (by omega)).2
theorem rBd_up {D : Nat → Nat} (h : rBd D) {j x : Nat} (h1 : bLo j ≤ x) (h2 : x ≤ bHi j) : rBd (zup D j x) := by
  intro q hq
  by_cases e : q = j
  · subst e; rw [zup_s]; exact ⟨h1, h2⟩
  · rw [zup_n e]; exact h q hq
theorem sH_up {D : Nat → Nat} {j x : Nat} (h : j < 12 ∨ 16 ≤ j) : sH (zup D j x) = sH D := by
  unfold sH
  rw [zup_n (by omega), zup_n (by omega), zup_n (by omega), zup_n (by omega)]
/-- the draft of both -/
def Dr (D : Nat → Nat) (Z : Nat → Bool) (dp dr pt lt rd : Nat → Int32) (tO : Int32) : Prop :=
  (∀ j, j < 12 → dp j = nI (D j)) ∧ (∀ j, j < 7 → dr j = nI (D (12 + j))) ∧ (∀ j, j < 19 → rd j = nI (D j)) ∧ (∀ j, j < 12 → pt j = bI (Z j)) ∧ lt 3 = bI (Z 12) ∧ (∀ j, j < 3 → lt (4 + j) = bI (Z (16 + j))) ∧ ∀ j, j < 19 → bt tO j = Z j
theorem Dr_rule {D : Nat → Nat} {Z : Nat → Bool} {dp dr pt lt rd : Nat → Int32} {tO : Int32} (h : Dr D Z dp dr pt lt rd tO) {i x : Nat} (hi : i < 7) : Dr (zup D (12 + i) x) Z dp (upd dr i (nI x)) pt lt (upd rd (12 + i) (nI x)) tO := by
  obtain ⟨h1, h2, h3, h4⟩ := h
  refine ⟨fun j hj => ?_, fun j hj => ?_, fun j hj => ?_, h4⟩
  · rw [zup_n (by omega)]; exact h1 j hj
  · by_cases e : j = i
    · subst e; rw [upd_s, zup_s]
    · rw [upd_n e, zup_n (by omega)]; exact h2 j hj
  · by_cases e : j = 12 + i
    · subst e; rw [upd_s, zup_s]
    · rw [upd_n e, zup_n e]; exact h3 j hj
theorem Dr_part {D : Nat → Nat} {Z : Nat → Bool} {dp dr pt lt rd : Nat → Int32} {tO : Int32} (h : Dr D Z dp dr pt lt rd tO) {i x : Nat} (hi : i < 12) : Dr (zup D i x) Z (upd dp i (nI x)) dr pt lt (upd rd i (nI x)) tO := by
  obtain ⟨h1, h2, h3, h4⟩ := h
  refine ⟨fun j hj => ?_, fun j hj => ?_, fun j hj => ?_, h4⟩
  · by_cases e : j = i
    · subst e; rw [upd_s, zup_s]
    · rw [upd_n e, zup_n e]; exact h1 j hj
  · rw [zup_n (by omega)]; exact h2 j hj
  · by_cases e : j = i
    · subst e; rw [upd_s, zup_s]
    · rw [upd_n e, zup_n e]; exact h3 j hj
theorem bt_zup {x : Int32} {Z : Nat → Bool} (h : ∀ j, j < 19 → bt x j = Z j) {a : Nat} (ha : a < 19) : ∀ j, j < 19 → bt (x ||| ((1 : Int32) <<< (nI a &&& 31))) j = zup Z a true j := by
  intro j hj
  rw [on_s (by omega) (by omega), h j hj]
  by_cases e : j = a
  · subst e; rw [zup_s, decide_eq_true rfl, Bool.or_true]
  · rw [zup_n e, decide_eq_false e, Bool.or_false]
theorem bI_t : bI true = 1 := rfl
theorem bI_0 (z : Bool) : bI z = 0 ↔ z = false := by cases z <;> decide
/-- a slot is told -/
theorem Dr_told {D : Nat → Nat} {Z : Nat → Bool} {dp dr pt lt rd : Nat → Int32} {tO : Int32} (h : Dr D Z dp dr pt lt rd tO) {i : Nat} (hi : i < 12) : Dr D (zup Z i true) dp dr (upd pt i 1) lt rd (tO ||| ((1 : Int32) <<< (nI i &&& 31))) := by
  obtain ⟨h1, h2, h3, h4, h5, h6, h7⟩ := h
  refine ⟨h1, h2, h3, fun j hj => ?_, ?_, fun j hj => ?_, bt_zup h7 (by omega)⟩
  · by_cases e : j = i
    · subst e; rw [upd_s, zup_s]; rfl
    · rw [upd_n e, zup_n e]; exact h4 j hj
  · rw [zup_n (by omega)]; exact h5
  · rw [zup_n (by omega)]; exact h6 j hj
/-- a line of parts is begun -/
theorem Dr_line {D : Nat → Nat} {Z : Nat → Bool} {dp dr pt lt rd : Nat → Int32} {tO : Int32} (h : Dr D Z dp dr pt lt rd tO) {i : Nat} (hi : i < 3) (x : Int32) : Dr D Z dp dr pt (upd lt i x) rd tO := by
  obtain ⟨h1, h2, h3, h4, h5, h6, h7⟩ := h
  refine ⟨h1, h2, h3, h4, ?_, fun j hj => ?_, h7⟩
  · rw [upd_n (by omega)]; exact h5
  · rw [upd_n (by omega)]; exact h6 j hj
theorem Dr_hits {D : Nat → Nat} {Z : Nat → Bool} {dp dr pt lt rd : Nat → Int32} {tO : Int32} (h : Dr D Z dp dr pt lt rd tO) : Dr D (zup Z 12 true) dp dr pt (upd lt 3 1) rd (tO ||| ((1 : Int32) <<< (nI 12 &&& 31))) := by
  obtain ⟨h1, h2, h3, h4, h5, h6, h7⟩ := h
  refine ⟨h1, h2, h3, fun j hj => ?_, ?_, fun j hj => ?_, bt_zup h7 (by omega)⟩
  · rw [zup_n (by omega)]; exact h4 j hj
  · rw [upd_s, zup_s]; rfl
  · rw [upd_n (by omega), zup_n (by omega)]; exact h6 j hj
theorem Dr_other {D : Nat → Nat} {Z : Nat → Bool} {dp dr pt lt rd : Nat → Int32} {tO : Int32} (h : Dr D Z dp dr pt lt rd tO) {i : Nat} (hi : i < 3) : Dr D (zup Z (16 + i) true) dp dr pt (upd lt (4 + i) 1) rd (tO ||| ((1 : Int32) <<< (nI (16 + i) &&& 31))) := by
  obtain ⟨h1, h2, h3, h4, h5, h6, h7⟩ := h
  refine ⟨h1, h2, h3, fun j hj => ?_, ?_, fun j hj => ?_, bt_zup h7 (by omega)⟩
  · rw [zup_n (by omega)]; exact h4 j hj
  · rw [upd_n (by omega), zup_n (by omega)]; exact h5
  · by_cases e : j = i
    · subst e; rw [upd_s, zup_s]; rfl
    · rw [upd_n (by omega), zup_n (by omega)]; exact h6 j hj
/-- both go on, both failed alike -/
def RO (n : Nat) (c : Nat → Nat) (u : CX) (v : MX) (b e t : Nat) (D : Nat → Nat) (Z : Nat → Bool) (li : Nat) (X : CX) (M : MX) : Prop :=
  (∃ a, Tok n c a b e t) ∧ t < 4 ∧ ∃ dp dr pt lt pl wa rd tO, X = rx u (kX t) (nI b) (nI e) dp dr pt lt 0 pl (nI li) ∧ M = mx v 0 wa (nI e) (nI b) (nI t) (nI (vlT c b e t)) rd tO ∧ Dr D Z dp dr pt lt rd tO
def RF (u : CX) (v : MX) (X : CX) (M : MX) : Prop := ∃ kd st at_ dp dr pt lt w pl li sp plm tk va rd tO, (1 ≤ w ∧ w ≤ 4) ∧ X = rx u kd st at_ dp dr pt lt (nI w) pl li ∧ M = mx v (nI w) pl sp plm tk va rd tO
theorem RF_1 (w : Nat) (hw : 1 ≤ w ∧ w ≤ 4) (u : CX) (v : MX) (kd st at_ : Int32) (dp dr pt lt : Nat → Int32) (pl li sp plm tk va : Int32) (rd : Nat → Int32) (tO : Int32) : RF u v (rx u kd st at_ dp dr pt lt (nI w) pl li) (mx v (nI w) pl sp plm tk va rd tO) := ⟨kd, st, at_, dp, dr, pt, lt, w, pl, li, sp, plm, tk, va, rd, tO, hw, rfl, rfl⟩
theorem nI_w {w : Nat} (hw : 1 ≤ w ∧ w ≤ 4) : ¬ nI w = 0 := by
  rw [show (0 : Int32) = nI 0 from rfl, nI_eq (by omega) (by omega)]
  omega
theorem two_adv {n : Nat} {c : Nat → Nat} {u : CX} {v : MX} (hx : xTp n c u) (hm : mTp n c v) {e k : Nat} (he : e ≤ n) (hk : 300 ≤ k) : ∃ b' e' t', Tok n c e b' e' t' ∧
    ((t' < 4 ∧ (∀ kd st dp dr pt lt pl li, fX5_advance k (rx u kd st (nI e) dp dr pt lt 0 pl li) = some (rx u (kX t') (nI b') (nI e') dp dr pt lt 0 pl li)) ∧ ∀ wa pl tk va rd tO, fX10_next k (mx v 0 wa (nI e) pl tk va rd tO) = some (mx v 0 wa (nI e') (nI b') (nI t') (nI (vlT c b' e' t')) rd tO)) ∨
    ((∀ kd st dp dr pt lt pl li, ∃ e2, fX5_advance k (rx u kd st (nI e) dp dr pt lt 0 pl li) = some (rx u 0 (nI b') (nI e2) dp dr pt lt (nI 1) (nI b') li)) ∧ ∀ wa pl tk va rd tO, ∃ sp tk' va', fX10_next k (mx v 0 wa (nI e) pl tk va rd tO) = some (mx v (nI 1) (nI b') sp (nI b') tk' va' rd tO))) := by
  obtain ⟨b', e', t', hT⟩ := tok_ex n c he
  refine ⟨b', e', t', hT, ?_⟩
  by_cases q : t' < 4
  · exact Or.inl ⟨q, fun kd st dp dr pt lt pl li => (xadv hx hT hk kd st dp dr pt lt pl li).1 q, fun wa pl tk va rd tO => (mnext hm hT hk wa pl tk va rd tO).1 q⟩
  · exact Or.inr ⟨fun kd st dp dr pt lt pl li => (xadv hx hT hk kd st dp dr pt lt pl li).2 q, fun wa pl tk va rd tO => (mnext hm hT hk wa pl tk va rd tO).2 q⟩
/-- where both have failed nothing moves -/
theorem xadv_f {k : Nat} {u : CX} (kd st at_ : Int32) (dp dr pt lt : Nat → Int32) {w : Nat} (pl li : Int32) (hw : 1 ≤ w ∧ w ≤ 4) : fX5_advance k (rx u kd st at_ dp dr pt lt (nI w) pl li) = some (rx u kd st at_ dp dr pt lt (nI w) pl li) := if_neg (nI_w hw)
theorem xclose_f {k : Nat} {u : CX} (kd st at_ : Int32) (dp dr pt lt : Nat → Int32) {w : Nat} (pl li : Int32) (hw : 1 ≤ w ∧ w ≤ 4) : fX5_readClose k (rx u kd st at_ dp dr pt lt (nI w) pl li) = some (rx u kd st at_ dp dr pt lt (nI w) pl li) := if_neg (nI_w hw)
theorem xpart_f {k : Nat} {u : CX} (i : Int32) (kd st at_ : Int32) (dp dr pt lt : Nat → Int32) {w : Nat} (pl li : Int32) (hw : 1 ≤ w ∧ w ≤ 4) : fX5_readPartLine k i (rx u kd st at_ dp dr pt lt (nI w) pl li) = some (rx u kd st at_ dp dr pt lt (nI w) pl li) := if_neg (nI_w hw)
theorem xseen_f {k : Nat} {u : CX} (i : Int32) (st at_ : Int32) (dp dr pt lt : Nat → Int32) {w : Nat} (pl li : Int32) (hw : 1 ≤ w ∧ w ≤ 4) : fX5_seenNumber k i (rx u 0 st at_ dp dr pt lt (nI w) pl li) = some (0, rx u 0 st at_ dp dr pt lt (nI w) pl li) := by
  unfold fX5_seenNumber
  rw [if_neg (show ¬ xg_kind (rx u 0 st at_ dp dr pt lt (nI w) pl li) = 3 from (by decide : ¬ (0 : Int32) = 3)), xfail_n _ _ _ _ _ _ _ _ _ _ _ (nI_w hw), zbind_s]
theorem mnext_f {k : Nat} {v : MX} {w : Nat} (wa sp pl tk va : Int32) (rd : Nat → Int32) (tO : Int32) (hw : 1 ≤ w ∧ w ≤ 4) : fX10_next k (mx v (nI w) wa sp pl tk va rd tO) = some (mx v (nI w) wa sp pl tk va rd tO) := by
  unfold fX10_next
  rw [if_neg (show ¬ mg_wrong (mx v (nI w) wa sp pl tk va rd tO) ≤ 0 from by
    show ¬ nI w ≤ nI 0
    rw [nI_leI (by omega) (by omega)]
    omega)]
theorem mnum_f {v : MX} {w : Nat} (a l h : Int32) (wa sp pl tk va : Int32) (rd : Nat → Int32) (tO : Int32) (hw : 1 ≤ w ∧ w ≤ 4) : fX10_number a l h (mx v (nI w) wa sp pl tk va rd tO) = some (mx v (nI w) wa sp pl tk va rd tO) := by
  have h0 : ¬ mg_wrong (mx v (nI w) wa sp pl tk va rd tO) = 0 := nI_w hw
  unfold fX10_number jX10_number_j20
  rw [if_neg h0, if_neg h0, if_neg h0]
def mTail (k : Nat) (q : MX) : Option MX :=
  if (mg_wrong q) = 0 then
    if (mg_token q) = (3 : Int32) then
      (fX10_next k q).bind (fun q14 => some q14)
    else
    (fX10_fails (2 : Int32) q).bind (fun q16 => (fX10_next k q16).bind (fun q18 => some q18))
  else
  (fX10_next k q).bind (fun q12 => some q12)
theorem j286_e (k : Nat) (t1 t2 t3 : Int32) (u : MX) : jX10_readLine_j286 k t1 t2 t3 u = (fX10_number t1 t2 t3 u).bind (fun q => (fX10_next k q).bind (fun r => mTail k r)) := rfl
theorem j139_e (k : Nat) (t1 t2 t3 : Int32) (u : MX) : jX10_readLine_j139 k t1 t2 t3 u = (fX10_number t1 t2 t3 u).bind (fun q => (fX10_next k q).bind (fun r => mTail k r)) := rfl
theorem j234_e (k : Nat) (u : MX) : jX10_readLine_j234 k u = (fX10_next k u).bind (fun r => mTail k r) := rfl
theorem mTail_f {k : Nat} {v : MX} {w : Nat} (wa sp pl tk va : Int32) (rd : Nat → Int32) (tO : Int32) (hw : 1 ≤ w ∧ w ≤ 4) : mTail k (mx v (nI w) wa sp pl tk va rd tO) = some (mx v (nI w) wa sp pl tk va rd tO) := by
  unfold mTail
  rw [if_neg (show ¬ mg_wrong (mx v (nI w) wa sp pl tk va rd tO) = 0 from nI_w hw), mnext_f _ _ _ _ _ _ _ hw, zbind_s]
/-- the sign, and what is behind it -/
theorem kX_4 : ∀ t, t < 4 → ¬ t = 3 → ¬ kX t = 4 := by decide
theorem two_close {n : Nat} {c : Nat → Nat} {u : CX} {v : MX} (hx : xTp n c u) (hm : mTp n c v) {b e t k : Nat} (he : e ≤ n) (ht : t < 4) (hk : 300 ≤ k) {D : Nat → Nat} {Z : Nat → Bool} {dp dr pt lt rd : Nat → Int32} {tO : Int32} (hD : Dr D Z dp dr pt lt rd tO) (pl wa va : Int32) (li : Nat) : ∃ X' M', fX5_readClose k (rx u (kX t) (nI b) (nI e) dp dr pt lt 0 pl (nI li)) = some X' ∧ mTail k (mx v 0 wa (nI e) (nI b) (nI t) va rd tO) = some M' ∧ (RF u v X' M' ∨ ∃ b' e' t', e ≤ b' ∧ RO n c u v b' e' t' D Z (li + 1) X' M') := by
  unfold fX5_readClose mTail
  rw [if_pos (show xg_rfault (rx u (kX t) (nI b) (nI e) dp dr pt lt 0 pl (nI li)) = 0 from rfl), if_pos (show mg_wrong (mx v 0 wa (nI e) (nI b) (nI t) va rd tO) = 0 from rfl)]
  by_cases q : t = 3
  · subst q
    rw [if_pos (show xg_kind (rx u (kX 3) (nI b) (nI e) dp dr pt lt 0 pl (nI li)) = 4 from rfl), if_pos (show mg_token (mx v 0 wa (nI e) (nI b) (nI 3) va rd tO) = 3 from rfl), zb_e, show xs_rlines (rx u (kX 3) (nI b) (nI e) dp dr pt lt 0 pl (nI li)) (xg_rlines (rx u (kX 3) (nI b) (nI e) dp dr pt lt 0 pl (nI li)) + 1) = rx u (kX 3) (nI b) (nI e) dp dr pt lt 0 pl (nI li + 1) from rfl, nI_1]
    obtain ⟨b', e', t', g1, g2⟩ := two_adv hx hm he hk
    rcases g2 with ⟨t4, p1, p2⟩ | ⟨p1, p2⟩
    · rw [p1, p2, zbind_s, zbind_s]
      exact ⟨_, _, rfl, rfl, Or.inr ⟨b', e', t', g1.1, ⟨_, g1⟩, t4, dp, dr, pt, lt, pl, wa, rd, tO, rfl, rfl, hD⟩⟩
    · obtain ⟨e2, p1⟩ := p1 (kX 3) (nI b) dp dr pt lt pl (nI (li + 1))
      obtain ⟨sp, tk, va', p2⟩ := p2 wa (nI b) (nI 3) va rd tO
      rw [p1, p2, zbind_s, zbind_s]
      exact ⟨_, _, rfl, rfl, Or.inl (RF_1 1 (by omega) _ _ _ _ _ _ _ _ _ _ _ _ _ _ _ _ _)⟩
  · rw [if_neg (show ¬ xg_kind (rx u (kX t) (nI b) (nI e) dp dr pt lt 0 pl (nI li)) = 4 from kX_4 t ht q), if_neg (show ¬ mg_token (mx v 0 wa (nI e) (nI b) (nI t) va rd tO) = 3 from by
      show ¬ nI t = nI 3
      rw [nI_eq (by omega) (by omega)]
      exact q), xfail, mfails, zbind_s, zbind_s, show (2 : Int32) = nI 2 from rfl, mnext_f _ _ _ _ _ _ _ (by omega), zbind_s]
    exact ⟨_, _, rfl, rfl, Or.inl (RF_1 2 (by omega) _ _ _ _ _ _ _ _ _ _ _ _ _ _ _ _ _)⟩
/-- what a line comes to -/
def LnR (n : Nat) (c : Nat → Nat) (u : CX) (v : MX) (e li : Nat) (X : CX) (M : MX) : Prop := RF u v X M ∨ ∃ b' e' t' D' Z', e ≤ b' ∧ rBd D' ∧ 0 < sH D' ∧ RO n c u v b' e' t' D' Z' (li + 1) X M
theorem two_ac {n : Nat} {c : Nat → Nat} {u : CX} {v : MX} (hx : xTp n c u) (hm : mTp n c v) {e k : Nat} (he : e ≤ n) (hk : 300 ≤ k) {D : Nat → Nat} {Z : Nat → Bool} (hB : rBd D) (hs : 0 < sH D) {dp dr pt lt rd : Nat → Int32} {tO : Int32} (hD : Dr D Z dp dr pt lt rd tO) (kd st pl wa plm tk va : Int32) (li : Nat) : ∃ X' M', (fX5_advance k (rx u kd st (nI e) dp dr pt lt 0 pl (nI li))).bind (fun q => (fX5_readClose k q).bind (fun r => some r)) = some X' ∧ (fX10_next k (mx v 0 wa (nI e) plm tk va rd tO)).bind (fun r => mTail k r) = some M' ∧ LnR n c u v e li X' M' := by
  obtain ⟨b', e', t', g1, g2⟩ := two_adv hx hm he hk
  rcases g2 with ⟨t4, p1, p2⟩ | ⟨p1, p2⟩
  · rw [p1, p2, zbind_s, zbind_s]
    obtain ⟨X', M', r1, r2, r3⟩ := two_close hx hm (b := b') g1.2.2.1 t4 hk hD pl wa (nI (vlT c b' e' t')) li
    rw [r1, r2, zbind_s]
    refine ⟨_, _, rfl, rfl, ?_⟩
    rcases r3 with r3 | ⟨b2, e2, t2, q1, q2⟩
    · exact Or.inl r3
    · exact Or.inr ⟨b2, e2, t2, D, Z, Nat.le_trans g1.1 (Nat.le_trans g1.2.1 q1), hB, hs, q2⟩
  · obtain ⟨e2, p1⟩ := p1 kd st dp dr pt lt pl (nI li)
    obtain ⟨sp, tk', va', p2⟩ := p2 wa plm tk va rd tO
    rw [p1, p2, zbind_s, zbind_s, xclose_f _ _ _ _ _ _ _ _ _ (by omega), mTail_f _ _ _ _ _ _ _ (by omega), zbind_s]
    exact ⟨_, _, rfl, rfl, Or.inl (RF_1 1 (by omega) _ _ _ _ _ _ _ _ _ _ _ _ _ _ _ _ _)⟩
