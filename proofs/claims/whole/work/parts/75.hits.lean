/-! the text: numbers, hits -/
def lsA (i : Nat) : Nat := ([1, 0, 0, 0, 0, 0, 0] : List Nat).getD i 0
def msA (i : Nat) : Nat := ([20, 10, 20, 99, 999, 99, 60] : List Nat).getD i 0
theorem ls_t : ∀ i, i < 7 → zLeast i = nI (lsA i) ∧ zMost i = nI (msA i) ∧ lsA i < 1000 ∧ msA i < 1000 := by decide +kernel
theorem xnumber {n : Nat} {c : Nat → Nat} {u : CX} (h : xTp n c u) {b e k : Nat} (hbe : b ≤ e) (he : e ≤ n) (hr : ∀ j, b ≤ j → j < e → isD (c j)) (hk : 300 ≤ k) (h2 : xg_start u = nI b) (h3 : xg_tat u = nI e) : fX7_number k u = some (nI (num c b (e - b))) := by
  unfold fX7_number
  have hn := h.1
  rw [zb_e, h2]
  have st : ∀ j, 0 ≤ j → j < 0 + (e - b) → bX7_number_7 k u (nI (num c b j), nI (b + j)) = some (.inl (nI (num c b (j + 1)), nI (b + (j + 1)))) := by
    intro j _ hj
    have hd := hr (b + j) (by omega) (by omega)
    unfold isD at hd
    unfold bX7_number_7
    dsimp only
    rw [h3, if_neg (by rw [nI_leI (by omega) (by omega)]; omega), zget_n (by omega) (by omega), (h.2.2 (b + j) (by omega)).2, sb_lo _ (by omega), zb_e, show (10 : Int32) = nI 10 from rfl, show (48 : Int32) = nI 48 from rfl, pk_mul, nI_add, pk_sub (by omega), nI_1, show 10 * num c b j + c (b + j) - 48 = num c b (j + 1) by
      show _ = 10 * num c b j + (c (b + j) - 48)
      omega]
    rfl
  have ex : bX7_number_7 k u (nI (num c b (0 + (e - b))), nI (b + (0 + (e - b)))) = some (.inr (nI (num c b (e - b)))) := by
    rw [Nat.zero_add]
    unfold bX7_number_7
    dsimp only
    rw [h3, if_pos (by rw [nI_leI (by omega) (by omega)]; omega)]
  have hz : ziter (bX7_number_7 k u) k (0, nI b) = some (nI (num c b (e - b))) := ziter_st (f := bX7_number_7 k u) (fun j => (nI (num c b j), nI (b + j))) (nI (num c b (e - b))) (e - b) 0 k st ex (by omega)
  rw [hz, zbind_s]
theorem vl_lt {n b e t : Nat} {c : Nat → Nat} (hT : TokK n c b e t) : vlT c b e t < 1000 := by
  unfold vlT
  by_cases q : t = 2
  · subst q
    rw [if_pos rfl]
    rcases hT with ⟨z, _⟩ | ⟨z, _⟩ | ⟨-, z1, z2, z3, z4⟩ | ⟨z, _⟩ | ⟨z, _⟩ | ⟨z, _⟩
    · omega
    · omega
    · have := num_lt (c := c) (b := b) (e - b) (by omega) (fun j h1 h2 => z3 j h1 (by omega))
      have h10 : (10 : Nat) ^ (e - b) ≤ 10 ^ 3 := Nat.pow_le_pow_right (by omega) (by omega)
      omega
    · omega
    · omega
    · omega
  · rw [if_neg q]; omega
def okN (c : Nat → Nat) (b e t i : Nat) : Prop := t = 2 ∧ lsA i ≤ vlT c b e t ∧ vlT c b e t ≤ msA i
def wN (t : Nat) : Nat := if t = 2 then 3 else 2
theorem wN_in (t : Nat) : 1 ≤ wN t ∧ wN t ≤ 4 := by unfold wN; split <;> omega
theorem kX_3 : ∀ t, t < 4 → ¬ t = 2 → ¬ kX t = 3 := by decide
theorem xseen {n : Nat} {c : Nat → Nat} {u : CX} (hx : xTp n c u) {b e t i k : Nat} (hbe : b ≤ e) (he : e ≤ n) (hT : TokK n c b e t) (ht : t < 4) (hk : 300 ≤ k) (hi : i < 7) (dp dr pt lt : Nat → Int32) (pl li : Int32) : (okN c b e t i → fX5_seenNumber k (nI i) (rx u (kX t) (nI b) (nI e) dp dr pt lt 0 pl li) = some (nI (vlT c b e t), rx u (kX t) (nI b) (nI e) dp dr pt lt 0 pl li)) ∧ (¬ okN c b e t i → ∃ x, fX5_seenNumber k (nI i) (rx u (kX t) (nI b) (nI e) dp dr pt lt 0 pl li) = some (x, rx u (kX t) (nI b) (nI e) dp dr pt lt (nI (wN t)) (nI b) li)) := by
  have hv := vl_lt hT
  obtain ⟨z1, z2, z3, z4⟩ := ls_t i hi
  unfold fX5_seenNumber okN wN
  by_cases q : t = 2
  · subst q
    have hd : ∀ j, b ≤ j → j < e → isD (c j) := by
      rcases hT with ⟨z, _⟩ | ⟨z, _⟩ | ⟨-, y1, y2, y3, y4⟩ | ⟨z, _⟩ | ⟨z, _⟩ | ⟨z, _⟩
      · omega
      · omega
      · exact y3
      · omega
      · omega
      · omega
    have hnum : fX7_number k (rx u (kX 2) (nI b) (nI e) dp dr pt lt 0 pl li) = some (nI (vlT c b e 2)) := xnumber (u := rx u (kX 2) (nI b) (nI e) dp dr pt lt 0 pl li) hx hbe he hd hk rfl rfl
    rw [if_pos (show xg_kind (rx u (kX 2) (nI b) (nI e) dp dr pt lt 0 pl li) = 3 from rfl), hnum, zbind_s, zget_n (by omega) (by omega), zget_n (by omega) (by omega), z1, z2]
    by_cases q1 : vlT c b e 2 < lsA i
    · rw [if_pos (by rw [nI_ltI (by omega) (by omega)]; exact q1), xfail, zbind_s]
      exact ⟨fun w => by omega, fun _ => ⟨_, rfl⟩⟩
    · rw [if_neg (by rw [nI_ltI (by omega) (by omega)]; exact q1)]
      by_cases q2 : vlT c b e 2 ≤ msA i
      · rw [if_pos (by rw [nI_leI (by omega) (by omega)]; exact q2)]
        exact ⟨fun _ => rfl, fun w => absurd ⟨rfl, by omega, q2⟩ w⟩
      · rw [if_neg (by rw [nI_leI (by omega) (by omega)]; exact q2), xfail, zbind_s]
        exact ⟨fun w => by omega, fun _ => ⟨_, rfl⟩⟩
  · rw [if_neg (show ¬ xg_kind (rx u (kX t) (nI b) (nI e) dp dr pt lt 0 pl li) = 3 from kX_3 t ht q), xfail, zbind_s, if_neg q]
    exact ⟨fun w => absurd w.1 q, fun _ => ⟨_, rfl⟩⟩
theorem mnum {c : Nat → Nat} {v : MX} {b e t i k : Nat} (hv : vlT c b e t < 1000) (ht : t < 4) (hi : i < 7) {j : Nat} (hj : j < 19) (wa : Int32) (rd : Nat → Int32) (tO : Int32) : (okN c b e t i → fX10_number (nI j) (nI (lsA i)) (nI (msA i)) (mx v 0 wa (nI e) (nI b) (nI t) (nI (vlT c b e t)) rd tO) = some (mx v 0 wa (nI e) (nI b) (nI t) (nI (vlT c b e t)) (upd rd j (nI (vlT c b e t))) tO)) ∧ (¬ okN c b e t i → fX10_number (nI j) (nI (lsA i)) (nI (msA i)) (mx v 0 wa (nI e) (nI b) (nI t) (nI (vlT c b e t)) rd tO) = some (mx v (nI (wN t)) (nI b) (nI e) (nI b) (nI t) (nI (vlT c b e t)) rd tO)) := by
  obtain ⟨z1, z2, z3, z4⟩ := ls_t i hi
  unfold fX10_number okN wN
  have h0 : mg_wrong (mx v 0 wa (nI e) (nI b) (nI t) (nI (vlT c b e t)) rd tO) = 0 := rfl
  rw [if_pos h0]
  by_cases q : t = 2
  · subst q
    rw [if_pos (show mg_token (mx v 0 wa (nI e) (nI b) (nI 2) (nI (vlT c b e 2)) rd tO) = 2 from rfl)]
    unfold jX10_number_j20
    rw [if_pos h0, inIf, show mg_value (mx v 0 wa (nI e) (nI b) (nI 2) (nI (vlT c b e 2)) rd tO) = nI (vlT c b e 2) from rfl, Int32.toInt_toInt64, Int32.toInt_toInt64, Int32.toInt_toInt64, nI_toInt (by omega), nI_toInt (by omega), nI_toInt (by omega), if_pos h0]
    by_cases q1 : lsA i ≤ vlT c b e 2 ∧ vlT c b e 2 ≤ msA i
    · rw [if_pos (by omega), zix_n hj (by omega), zb_e]
      exact ⟨fun _ => rfl, fun w => absurd ⟨rfl, q1⟩ w⟩
    · rw [if_neg (by omega), mfails, zbind_s, if_neg (show ¬ mg_wrong (mx v 3 (nI b) (nI e) (nI b) (nI 2) (nI (vlT c b e 2)) rd tO) = 0 from (by decide : ¬ (3 : Int32) = 0))]
      exact ⟨fun w => absurd w.2 q1, fun _ => rfl⟩
  · rw [if_neg (show ¬ mg_token (mx v 0 wa (nI e) (nI b) (nI t) (nI (vlT c b e t)) rd tO) = 2 from by
      show ¬ nI t = nI 2
      rw [nI_eq (by omega) (by omega)]
      exact q), mfails, zbind_s, if_neg q]
    unfold jX10_number_j20
    have h2 : ¬ mg_wrong (mx v 2 (nI b) (nI e) (nI b) (nI t) (nI (vlT c b e t)) rd tO) = 0 := (by decide : ¬ (2 : Int32) = 0)
    rw [if_neg h2, if_neg h2]
    exact ⟨fun w => absurd w.1 q, fun _ => rfl⟩
/-- one of the four numbers, the class -/
theorem xhit_end {k : Nat} {u : CX} (y : Int32) (j : Nat) (kd st at_ : Int32) (dp dr pt lt : Nat → Int32) {w : Nat} (pl li : Int32) (hw : 1 ≤ w ∧ w ≤ 4) : bX5_readHits_4 k (y, nI j, rx u kd st at_ dp dr pt lt (nI w) pl li) = some (.inr (rx u kd st at_ dp dr pt lt (nI w) pl li)) := by
  unfold bX5_readHits_4
  dsimp only
  rw [if_neg (show ¬ xg_rfault (rx u kd st at_ dp dr pt lt (nI w) pl li) = 0 from nI_w hw)]
  split <;> rfl
theorem xhit_4 {k : Nat} {u : CX} (y : Int32) (kd st at_ : Int32) (dp dr pt lt : Nat → Int32) (fa pl li : Int32) : bX5_readHits_4 k (y, nI 4, rx u kd st at_ dp dr pt lt fa pl li) = some (.inr (rx u kd st at_ dp dr pt lt fa pl li)) := by
  unfold bX5_readHits_4
  dsimp only
  rw [if_pos (by decide)]
theorem xhit_bad {n : Nat} {c : Nat → Nat} {u : CX} (hx : xTp n c u) {b e t k : Nat} (hbe : b ≤ e) (he : e ≤ n) (hT : TokK n c b e t) (ht : t < 4) (hk : 300 ≤ k) (hc : ¬ okN c b e t 3) {j : Nat} (hj : j < 4) (y : Int32) (dp dr pt lt : Nat → Int32) (pl li : Int32) : ∃ y' dr', bX5_readHits_4 k (y, nI j, rx u (kX t) (nI b) (nI e) dp dr pt lt 0 pl li) = some (.inl (y', nI (j + 1), rx u (kX t) (nI b) (nI e) dp dr' pt lt (nI (wN t)) (nI b) li)) := by
  obtain ⟨x, hs⟩ := (xseen (i := 3) hx hbe he hT ht hk (by omega) dp dr pt lt pl li).2 hc
  have hs : fX5_seenNumber k 3 (rx u (kX t) (nI b) (nI e) dp dr pt lt 0 pl li) = some (x, rx u (kX t) (nI b) (nI e) dp dr pt lt (nI (wN t)) (nI b) li) := hs
  unfold bX5_readHits_4
  dsimp only
  rw [if_neg (by rw [show (3 : Int32) = nI 3 from rfl, nI_ltI (by omega) (by omega)]; omega), if_pos (show xg_rfault (rx u (kX t) (nI b) (nI e) dp dr pt lt 0 pl li) = 0 from rfl), hs, zbind_s, zix_n (by omega) (by omega), zb_e]
  dsimp only
  rw [show xs_Drules (rx u (kX t) (nI b) (nI e) dp dr pt lt (nI (wN t)) (nI b) li) (upd (xg_Drules (rx u (kX t) (nI b) (nI e) dp dr pt lt (nI (wN t)) (nI b) li)) j x) = rx u (kX t) (nI b) (nI e) dp (upd dr j x) pt lt (nI (wN t)) (nI b) li from rfl, zget_n (by omega) (by omega), zb_e, xfail_n _ _ _ _ _ _ _ _ _ _ _ (nI_w (wN_in t)), zbind_s, xadv_f _ _ _ _ _ _ _ _ _ (wN_in t), zbind_s, nI_1]
  refine ⟨y + xg_Drules (rx u (kX t) (nI b) (nI e) dp (upd dr j x) pt lt (nI (wN t)) (nI b) li) j, upd dr j x, ?_⟩
  split
  · split <;> rfl
  · rfl
theorem xhit_ok {n : Nat} {c : Nat → Nat} {u : CX} (hx : xTp n c u) {b e t k : Nat} (hbe : b ≤ e) (he : e ≤ n) (hT : TokK n c b e t) (ht : t < 4) (hk : 300 ≤ k) (hc : okN c b e t 3) {j : Nat} (hj : j < 4) {s : Nat} (hs : s ≤ 1000) (dp dr pt lt : Nat → Int32) (pl li : Int32) : (¬ (j = 3 ∧ s + vlT c b e t = 0) → bX5_readHits_4 k (nI s, nI j, rx u (kX t) (nI b) (nI e) dp dr pt lt 0 pl li) = (fX5_advance k (rx u (kX t) (nI b) (nI e) dp (upd dr j (nI (vlT c b e t))) pt lt 0 pl li)).bind (fun q => some (.inl (nI (s + vlT c b e t), nI (j + 1), q)))) ∧ (j = 3 ∧ s + vlT c b e t = 0 → ∃ dr', bX5_readHits_4 k (nI s, nI j, rx u (kX t) (nI b) (nI e) dp dr pt lt 0 pl li) = some (.inl (nI (s + vlT c b e t), nI (j + 1), rx u (kX t) (nI b) (nI e) dp dr' pt lt (nI 3) (nI b) li))) := by
  have hv := vl_lt hT
  have hs2 : fX5_seenNumber k 3 (rx u (kX t) (nI b) (nI e) dp dr pt lt 0 pl li) = some (nI (vlT c b e t), rx u (kX t) (nI b) (nI e) dp dr pt lt 0 pl li) := (xseen (i := 3) hx hbe he hT ht hk (by omega) dp dr pt lt pl li).1 hc
  generalize vlT c b e t = x at hv hs2 ⊢
  unfold bX5_readHits_4
  dsimp only
  rw [if_neg (by rw [show (3 : Int32) = nI 3 from rfl, nI_ltI (by omega) (by omega)]; omega), if_pos (show xg_rfault (rx u (kX t) (nI b) (nI e) dp dr pt lt 0 pl li) = 0 from rfl), hs2, zbind_s, zix_n (by omega) (by omega), zb_e]
  dsimp only
  rw [show xs_Drules (rx u (kX t) (nI b) (nI e) dp dr pt lt 0 pl li) (upd (xg_Drules (rx u (kX t) (nI b) (nI e) dp dr pt lt 0 pl li)) j (nI x)) = rx u (kX t) (nI b) (nI e) dp (upd dr j (nI x)) pt lt 0 pl li from rfl, zget_n (by omega) (by omega), show xg_Drules (rx u (kX t) (nI b) (nI e) dp (upd dr j (nI x)) pt lt 0 pl li) j = nI x from upd_s, zb_e, nI_add, nI_1]
  by_cases q : j = 3
  · subst q
    rw [if_pos (show nI 3 = (3 : Int32) from rfl)]
    by_cases q2 : s + x = 0
    · rw [if_pos (by rw [q2]; rfl), xfail, zbind_s, show (3 : Int32) = nI 3 from rfl, xadv_f _ _ _ _ _ _ _ _ _ (by omega), zbind_s]
      exact ⟨fun w => absurd ⟨rfl, q2⟩ w, fun _ => ⟨_, rfl⟩⟩
    · rw [if_neg (by rw [show (0 : Int32) = nI 0 from rfl, nI_eq (by omega) (by omega)]; exact q2)]
      exact ⟨fun _ => rfl, fun w => absurd w.2 q2⟩
  · rw [if_neg (by rw [show (3 : Int32) = nI 3 from rfl, nI_eq (by omega) (by omega)]; exact q)]
    exact ⟨fun _ => rfl, fun w => absurd w.1 q⟩
/-- the reference's loop -/
theorem ziter_b {α β γ : Type} {f : α → Option (α ⊕ β)} {k : Nat} {a : α} {x : Option γ} {h : γ → α} (e : f a = x.bind (fun q => some (.inl (h q)))) : ziter f (k + 1) a = x.bind (fun q => ziter f k (h q)) := by
  cases x with
  | none =>
    show (match f a with
      | none => none
      | some (.inl a') => ziter f k a'
      | some (.inr b) => some b) = _
    rw [e]
    rfl
  | some y => exact ziter_l e
theorem mhit_4 {k : Nat} (M : MX) : bX10_readLine_162 k (nI 4, M) = some (.inr M) := by
  unfold bX10_readLine_162
  dsimp only
  rw [if_pos (by decide)]
theorem mhit_f {k : Nat} {v : MX} {w : Nat} (wa sp pl tk va : Int32) (rd : Nat → Int32) (tO : Int32) (hw : 1 ≤ w ∧ w ≤ 4) : ∀ (d j f : Nat), j + d = 4 → d < f → ziter (bX10_readLine_162 k) f (nI j, mx v (nI w) wa sp pl tk va rd tO) = some (mx v (nI w) wa sp pl tk va rd tO) := by
  intro d
  induction d with
  | zero =>
    intro j f hj hf
    obtain ⟨f', rfl⟩ : ∃ f', f = f' + 1 := ⟨f - 1, by omega⟩
    rw [show j = 4 by omega]
    exact ziter_r (mhit_4 _)
  | succ d ih =>
    intro j f hj hf
    obtain ⟨f', rfl⟩ : ∃ f', f = f' + 1 := ⟨f - 1, by omega⟩
    have hs : bX10_readLine_162 k (nI j, mx v (nI w) wa sp pl tk va rd tO) = some (.inl (nI (j + 1), mx v (nI w) wa sp pl tk va rd tO)) := by
      unfold bX10_readLine_162
      dsimp only
      rw [if_neg (by rw [show (4 : Int32) = nI 4 from rfl, nI_leI (by omega) (by omega)]; omega), mnext_f _ _ _ _ _ _ _ hw, zbind_s, mnum_f _ _ _ _ _ _ _ _ _ _ hw, zbind_s, nI_1]
    rw [ziter_l hs]
    exact ih (j + 1) f' (by omega) (by omega)
def mEnd (k : Nat) (b25 : MX) : Option MX :=
  if (mg_wrong b25) = 0 then
    zget 19 (mg_reads b25) (12 : Int32) (fun v37 =>
    zget 19 (mg_reads b25) (13 : Int32) (fun v38 =>
    zget 19 (mg_reads b25) (14 : Int32) (fun v39 =>
    zget 19 (mg_reads b25) (15 : Int32) (fun v40 =>
    if (((v37 + v38) + v39) + v40) = 0 then
      (fX10_fails (3 : Int32) b25).bind (fun q42 =>
      jX10_readLine_j234 k q42)
    else
    jX10_readLine_j234 k b25))))
  else
  jX10_readLine_j234 k b25
theorem mEnd_f {k : Nat} {v : MX} {w : Nat} (wa sp pl tk va : Int32) (rd : Nat → Int32) (tO : Int32) (hw : 1 ≤ w ∧ w ≤ 4) : mEnd k (mx v (nI w) wa sp pl tk va rd tO) = some (mx v (nI w) wa sp pl tk va rd tO) := by
  unfold mEnd
  rw [if_neg (show ¬ mg_wrong (mx v (nI w) wa sp pl tk va rd tO) = 0 from nI_w hw), j234_e, mnext_f _ _ _ _ _ _ _ hw, zbind_s, mTail_f _ _ _ _ _ _ _ hw]
theorem mEnd_o {k : Nat} {v : MX} {D : Nat → Nat} (hB : rBd D) (wa sp pl tk va : Int32) {rd : Nat → Int32} (hr : ∀ j, j < 19 → rd j = nI (D j)) (tO : Int32) : mEnd k (mx v 0 wa sp pl tk va rd tO) = if sH D = 0 then some (mx v (nI 3) pl sp pl tk va rd tO) else (fX10_next k (mx v 0 wa sp pl tk va rd tO)).bind (fun r => mTail k r) := by
  have b0 := (hB 12 (by omega)).2
  have b1 := (hB 13 (by omega)).2
  have b2 := (hB 14 (by omega)).2
  have b3 := (hB 15 (by omega)).2
  have c0 : bHi 12 = 99 := rfl
  have c1 : bHi 13 = 99 := rfl
  have c2 : bHi 14 = 99 := rfl
  have c3 : bHi 15 = 99 := rfl
  unfold mEnd
  rw [if_pos (show mg_wrong (mx v 0 wa sp pl tk va rd tO) = 0 from rfl), show mg_reads (mx v 0 wa sp pl tk va rd tO) = rd from rfl, show (12 : Int32) = nI 12 from rfl, show (13 : Int32) = nI 13 from rfl, show (14 : Int32) = nI 14 from rfl, show (15 : Int32) = nI 15 from rfl, zget_n (by omega) (by omega), zget_n (by omega) (by omega), zget_n (by omega) (by omega), zget_n (by omega) (by omega), hr 12 (by omega), hr 13 (by omega), hr 14 (by omega), hr 15 (by omega), nI_add, nI_add, nI_add, show D 12 + D 13 + D 14 + D 15 = sH D from rfl, j234_e]
  have hsm : sH D < 2 ^ 31 := by unfold sH; omega
  by_cases q : sH D = 0
  · rw [if_pos q, if_pos (by rw [q]; rfl), mfails, zbind_s, show (3 : Int32) = nI 3 from rfl, j234_e, mnext_f _ _ _ _ _ _ _ (by omega), zbind_s, mTail_f _ _ _ _ _ _ _ (by omega)]
  · rw [if_neg q, if_neg (by rw [show (0 : Int32) = nI 0 from rfl, nI_eq hsm (by omega)]; exact q)]
def sm (D : Nat → Nat) : Nat → Nat
  | 0 => 0
  | j + 1 => sm D j + D (12 + j)
theorem sm_up {D : Nat → Nat} {j x : Nat} : ∀ m, m ≤ j → sm (zup D (12 + j) x) m = sm D m := by
  intro m
  induction m with
  | zero => intro _; rfl
  | succ m ih =>
    intro h
    show sm (zup D (12 + j) x) m + zup D (12 + j) x (12 + m) = sm D m + D (12 + m)
    rw [ih (by omega), zup_n (by omega)]
theorem sm_1 {D : Nat → Nat} {j x : Nat} : sm (zup D (12 + j) x) (j + 1) = sm D j + x := by
  show sm (zup D (12 + j) x) j + zup D (12 + j) x (12 + j) = _
  rw [sm_up j (Nat.le_refl _), zup_s]
theorem sm_4 (D : Nat → Nat) : sm D 4 = sH D := by
  show 0 + D 12 + D 13 + D 14 + D 15 = D 12 + D 13 + D 14 + D 15
  omega
theorem sm_le {D : Nat → Nat} (hB : rBd D) {j : Nat} (hj : j < 4) : sm D j ≤ 400 := by
  have b0 := (hB 12 (by omega)).2
  have b1 := (hB 13 (by omega)).2
  have b2 := (hB 14 (by omega)).2
  have c0 : bHi 12 = 99 := rfl
  have c1 : bHi 13 = 99 := rfl
  have c2 : bHi 14 = 99 := rfl
  rcases (show j = 0 ∨ j = 1 ∨ j = 2 ∨ j = 3 by omega) with rfl | rfl | rfl | rfl
  · show 0 ≤ 400; omega
  · show 0 + D 12 ≤ 400; omega
  · show 0 + D 12 + D 13 ≤ 400; omega
  · show 0 + D 12 + D 13 + D 14 ≤ 400; omega
theorem bh_3 : ∀ j, j < 4 → bLo (12 + j) = 0 ∧ bHi (12 + j) = 99 := by decide
set_option maxHeartbeats 2000000 in
theorem two_hits {n : Nat} {c : Nat → Nat} {u : CX} {v : MX} (hx : xTp n c u) (hm : mTp n c v) {k : Nat} (hk : 300 ≤ k) (Z : Nat → Bool) (e0 li : Nat) : ∀ (d j : Nat), j + d = 3 → ∀ (f g a b e t : Nat) (D : Nat → Nat) (dp dr pt lt rd : Nat → Int32) (tO pl wa : Int32), d + 3 ≤ f → d + 3 ≤ g → e0 ≤ e → Tok n c a b e t → t < 4 → Dr D Z dp dr pt lt rd tO → rBd D →
    ∃ X' M', (ziter (bX5_readHits_4 k) f (nI (sm D j), nI j, rx u (kX t) (nI b) (nI e) dp dr pt lt 0 pl (nI li))).bind (fun q => (fX5_readClose k q).bind (fun r => some r)) = some X' ∧ (fX10_number (nI (12 + j)) 0 99 (mx v 0 wa (nI e) (nI b) (nI t) (nI (vlT c b e t)) rd tO)).bind (fun q => (ziter (bX10_readLine_162 k) g (nI (j + 1), q)).bind (mEnd k)) = some M' ∧ LnR n c u v e0 li X' M' := by
  intro d
  induction d with
  | zero =>
    intro j hj f g a b e t D dp dr pt lt rd tO pl wa hf hg h0 hT ht hD hB
    obtain ⟨f', rfl⟩ : ∃ f', f = f' + 1 + 1 := ⟨f - 2, by omega⟩
    obtain ⟨g', rfl⟩ : ∃ g', g = g' + 1 := ⟨g - 1, by omega⟩
    obtain rfl : j = 3 := by omega
    have hv := vl_lt hT.2.2.2.2.2
    have hnu := mnum (c := c) (v := v) (b := b) (e := e) (t := t) (i := 3) (k := k) hv ht (by omega) (j := 12 + 3) (by omega) wa rd tO
    have hnu : (okN c b e t 3 → fX10_number (nI (12 + 3)) 0 99 (mx v 0 wa (nI e) (nI b) (nI t) (nI (vlT c b e t)) rd tO) = _) ∧ (¬ okN c b e t 3 → fX10_number (nI (12 + 3)) 0 99 (mx v 0 wa (nI e) (nI b) (nI t) (nI (vlT c b e t)) rd tO) = _) := hnu
    by_cases hc : okN c b e t 3
    · have hB' : rBd (zup D (12 + 3) (vlT c b e t)) := rBd_up hB (by rw [(bh_3 3 (by omega)).1]; omega) (by rw [(bh_3 3 (by omega)).2]; exact hc.2.2)
      have hD' := Dr_rule hD (i := 3) (x := vlT c b e t) (by omega)
      have hsm : sm D 3 + vlT c b e t = sH (zup D (12 + 3) (vlT c b e t)) := by rw [← sm_4, sm_1]
      have hho := xhit_ok hx hT.2.1 hT.2.2.1 hT.2.2.2.2.2 ht hk hc (j := 3) (by omega) (s := sm D 3) (by have := sm_le hB (j := 3) (by omega); omega) dp dr pt lt pl (nI li)
      rw [hnu.1 hc, zbind_s, ziter_r (mhit_4 _), zbind_s, mEnd_o hB' _ _ _ _ _ hD'.2.2.1 _]
      by_cases q : sH (zup D (12 + 3) (vlT c b e t)) = 0
      · obtain ⟨dr', ho⟩ := hho.2 ⟨rfl, by rw [hsm]; exact q⟩
        rw [ziter_l ho, ziter_r (xhit_end _ _ _ _ _ _ _ _ _ _ _ (by omega)), zbind_s, xclose_f _ _ _ _ _ _ _ _ _ (by omega), zbind_s, if_pos q]
        exact ⟨_, _, rfl, rfl, Or.inl (RF_1 3 (by omega) _ _ _ _ _ _ _ _ _ _ _ _ _ _ _ _ _)⟩
      · have ho := hho.1 (fun z => q (by rw [← hsm]; exact z.2))
        rw [if_neg q]
        obtain ⟨b', e', t', g1, g2⟩ := two_adv hx hm (e := e) hT.2.2.1 hk
        rcases g2 with ⟨t4, p1, p2⟩ | ⟨p1, p2⟩
        · rw [p1, zbind_s] at ho
          rw [ziter_l ho, ziter_r (xhit_4 _ _ _ _ _ _ _ _ _ _ _), zbind_s, p2, zbind_s]
          obtain ⟨X', M', r1, r2, r3⟩ := two_close hx hm (b := b') g1.2.2.1 t4 hk hD' pl wa (nI (vlT c b' e' t')) li
          rw [r1, r2, zbind_s]
          refine ⟨_, _, rfl, rfl, ?_⟩
          rcases r3 with r3 | ⟨b2, e2, t2, q1, q2⟩
          · exact Or.inl r3
          · have h1 := g1.1
            have h2 := g1.2.1
            exact Or.inr ⟨b2, e2, t2, _, Z, by omega, hB', Nat.pos_of_ne_zero q, q2⟩
        · obtain ⟨e2, p1⟩ := p1 (kX t) (nI b) dp (upd dr 3 (nI (vlT c b e t))) pt lt pl (nI li)
          obtain ⟨sp, tk', va', p2⟩ := p2 wa (nI b) (nI t) (nI (vlT c b e t)) (upd rd (12 + 3) (nI (vlT c b e t))) tO
          rw [p1, zbind_s] at ho
          rw [ziter_l ho, ziter_r (xhit_4 _ _ _ _ _ _ _ _ _ _ _), zbind_s, p2, zbind_s, xclose_f _ _ _ _ _ _ _ _ _ (by omega), zbind_s, mTail_f _ _ _ _ _ _ _ (by omega)]
          exact ⟨_, _, rfl, rfl, Or.inl (RF_1 1 (by omega) _ _ _ _ _ _ _ _ _ _ _ _ _ _ _ _ _)⟩
    · obtain ⟨y', dr', ho⟩ := xhit_bad hx hT.2.1 hT.2.2.1 hT.2.2.2.2.2 ht hk hc (j := 3) (by omega) (nI (sm D 3)) dp dr pt lt pl (nI li)
      rw [ziter_l ho, ziter_r (xhit_end _ _ _ _ _ _ _ _ _ _ _ (wN_in t)), zbind_s, xclose_f _ _ _ _ _ _ _ _ _ (wN_in t), zbind_s, hnu.2 hc, zbind_s, ziter_r (mhit_4 _), zbind_s, mEnd_f _ _ _ _ _ _ _ (wN_in t)]
      exact ⟨_, _, rfl, rfl, Or.inl (RF_1 (wN t) (wN_in t) _ _ _ _ _ _ _ _ _ _ _ _ _ _ _ _ _)⟩
  | succ d ih =>
    intro j hj f g a b e t D dp dr pt lt rd tO pl wa hf hg h0 hT ht hD hB
    obtain ⟨f', rfl⟩ : ∃ f', f = f' + 1 + 1 := ⟨f - 2, by omega⟩
    obtain ⟨g', rfl⟩ : ∃ g', g = g' + 1 := ⟨g - 1, by omega⟩
    have hv := vl_lt hT.2.2.2.2.2
    have hnu := mnum (c := c) (v := v) (b := b) (e := e) (t := t) (i := 3) (k := k) hv ht (by omega) (j := 12 + j) (by omega) wa rd tO
    have hnu : (okN c b e t 3 → fX10_number (nI (12 + j)) 0 99 (mx v 0 wa (nI e) (nI b) (nI t) (nI (vlT c b e t)) rd tO) = _) ∧ (¬ okN c b e t 3 → fX10_number (nI (12 + j)) 0 99 (mx v 0 wa (nI e) (nI b) (nI t) (nI (vlT c b e t)) rd tO) = _) := hnu
    by_cases hc : okN c b e t 3
    · have hB' : rBd (zup D (12 + j) (vlT c b e t)) := rBd_up hB (by rw [(bh_3 j (by omega)).1]; omega) (by rw [(bh_3 j (by omega)).2]; exact hc.2.2)
      have hD' := Dr_rule hD (i := j) (x := vlT c b e t) (by omega)
      have hsm : sm D j + vlT c b e t = sm (zup D (12 + j) (vlT c b e t)) (j + 1) := sm_1.symm
      have hho := xhit_ok hx hT.2.1 hT.2.2.1 hT.2.2.2.2.2 ht hk hc (j := j) (by omega) (s := sm D j) (by have := sm_le hB (j := j) (by omega); omega) dp dr pt lt pl (nI li)
      have ho := hho.1 (fun z => by omega)
      have hlp : ∀ M, bX10_readLine_162 k (nI (j + 1), M) = (fX10_next k M).bind (fun q22 => (fX10_number (nI (12 + (j + 1))) 0 99 q22).bind (fun q24 => some (.inl (nI (j + 1 + 1), q24)))) := by
        intro M
        unfold bX10_readLine_162
        dsimp only
        rw [if_neg (by rw [show (4 : Int32) = nI 4 from rfl, nI_leI (by omega) (by omega)]; omega), show (12 : Int32) = nI 12 from rfl, nI_add, nI_1]
      rw [hnu.1 hc, zbind_s]
      obtain ⟨b', e', t', g1, g2⟩ := two_adv hx hm (e := e) hT.2.2.1 hk
      rcases g2 with ⟨t4, p1, p2⟩ | ⟨p1, p2⟩
      · rw [p1, zbind_s, hsm] at ho
        have h1 := g1.1
        have h2 := g1.2.1
        obtain ⟨X', M', r1, r2, r3⟩ := ih (j + 1) (by omega) (f' + 1) g' e b' e' t' _ dp _ pt lt _ tO pl wa (by omega) (by omega) (by omega) g1 t4 hD' hB'
        have hlp2 := hlp (mx v 0 wa (nI e) (nI b) (nI t) (nI (vlT c b e t)) (upd rd (12 + j) (nI (vlT c b e t))) tO)
        rw [p2, zbind_s] at hlp2
        rw [ziter_l ho, r1, ziter_b hlp2]
        refine ⟨_, M', rfl, ?_, r3⟩
        rw [← r2]
        generalize fX10_number (nI (12 + (j + 1))) 0 99 (mx v 0 wa (nI e') (nI b') (nI t') (nI (vlT c b' e' t')) (upd rd (12 + j) (nI (vlT c b e t))) tO) = y
        cases y <;> rfl
      · obtain ⟨e2, p1⟩ := p1 (kX t) (nI b) dp (upd dr j (nI (vlT c b e t))) pt lt pl (nI li)
        obtain ⟨sp, tk', va', p2⟩ := p2 wa (nI b) (nI t) (nI (vlT c b e t)) (upd rd (12 + j) (nI (vlT c b e t))) tO
        rw [p1, zbind_s] at ho
        have hlp2 := hlp (mx v 0 wa (nI e) (nI b) (nI t) (nI (vlT c b e t)) (upd rd (12 + j) (nI (vlT c b e t))) tO)
        rw [p2, zbind_s, mnum_f _ _ _ _ _ _ _ _ _ _ (by omega), zbind_s] at hlp2
        rw [ziter_l ho, ziter_r (xhit_end _ _ _ _ _ _ _ _ _ _ _ (by omega)), zbind_s, xclose_f _ _ _ _ _ _ _ _ _ (by omega), zbind_s, ziter_l hlp2, mhit_f _ _ _ _ _ _ _ (by omega) (4 - (j + 1 + 1)) (j + 1 + 1) g' (by omega) (by omega), zbind_s, mEnd_f _ _ _ _ _ _ _ (by omega)]
        exact ⟨_, _, rfl, rfl, Or.inl (RF_1 1 (by omega) _ _ _ _ _ _ _ _ _ _ _ _ _ _ _ _ _)⟩
    · obtain ⟨y', dr', ho⟩ := xhit_bad hx hT.2.1 hT.2.2.1 hT.2.2.2.2.2 ht hk hc (j := j) (by omega) (nI (sm D j)) dp dr pt lt pl (nI li)
      rw [ziter_l ho, ziter_r (xhit_end _ _ _ _ _ _ _ _ _ _ _ (wN_in t)), zbind_s, xclose_f _ _ _ _ _ _ _ _ _ (wN_in t), zbind_s, hnu.2 hc, zbind_s, mhit_f _ _ _ _ _ _ _ (wN_in t) (4 - (j + 1)) (j + 1) (g' + 1) (by omega) (by omega), zbind_s, mEnd_f _ _ _ _ _ _ _ (wN_in t)]
      exact ⟨_, _, rfl, rfl, Or.inl (RF_1 (wN t) (wN_in t) _ _ _ _ _ _ _ _ _ _ _ _ _ _ _ _ _)⟩
