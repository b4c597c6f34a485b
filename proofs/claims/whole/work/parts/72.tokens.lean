/-! the text: tokens -/
def rx (u : CX) (kd st at_ : Int32) (dp dr pt lt : Nat → Int32) (fa pl li : Int32) : CX :=
  (u.1, u.2.1, (u.2.2.1.1, u.2.2.1.2.1, kd, st, at_), (dp, dr, u.2.2.2.1.2.2), (pt, lt, fa, pl, li), u.2.2.2.2.2)
def mx (v : MX) (wr wa sp pl tk va : Int32) (rd : Nat → Int32) (tO : Int32) : MX :=
  ((v.1.1, v.1.2.1, v.1.2.2.1, wr, wa, sp, pl, tk, va), v.2.1, (v.2.2.1.1, rd, tO), v.2.2.2)
theorem rx_self (u : CX) : rx u (xg_kind u) (xg_start u) (xg_tat u) (xg_Dparts u) (xg_Drules u) (xg_partTold u) (xg_lineTold u) (xg_rfault u) (xg_rplace u) (xg_rlines u) = u := rfl
theorem mx_self (v : MX) : mx v (mg_wrong v) (mg_wrongAt v) (mg_spot v) (mg_place v) (mg_token v) (mg_value v) (mg_reads v) (mg_toldOnes v) = v := rfl
/-- a byte of the tape, as the class has it -/
def sb (c : Nat) : Int32 := (nI c).toInt8.toInt32
set_option maxRecDepth 10000 in
theorem sb_lo : ∀ c, c < 128 → sb c = nI c := by decide +kernel
set_option maxRecDepth 10000 in
theorem sb_hi : ∀ c, c < 256 → 128 ≤ c → (sb c).toInt < 0 := by decide +kernel
theorem sb_eq {c m : Nat} (hc : c < 256) (hm : m < 128) : sb c = nI m ↔ c = m := by
  rcases Nat.lt_or_ge c 128 with h | h
  · rw [sb_lo c h, nI_eq (by omega) (by omega)]
  · constructor
    · intro q
      have := sb_hi c hc h
      rw [q, nI_toInt (by omega)] at this
      omega
    · intro q; omega
theorem sb_lt {c m : Nat} (hc : c < 256) (hm : m < 128) : sb c < nI m ↔ c < m ∨ 128 ≤ c := by
  rcases Nat.lt_or_ge c 128 with h | h
  · rw [sb_lo c h, nI_ltI (by omega) (by omega)]
    omega
  · have := sb_hi c hc h
    rw [Int32.lt_iff_toInt_lt, nI_toInt (by omega)]
    omega
theorem sb_gt {c m : Nat} (hc : c < 256) (hm : m < 128) : nI m < sb c ↔ m < c ∧ c < 128 := by
  rcases Nat.lt_or_ge c 128 with h | h
  · rw [sb_lo c h, nI_ltI (by omega) (by omega)]
    omega
  · have := sb_hi c hc h
    rw [Int32.lt_iff_toInt_lt, nI_toInt (by omega)]
    omega
def xTp (n : Nat) (c : Nat → Nat) (u : CX) : Prop := n ≤ 200 ∧ xg_tsize u = nI n ∧ ∀ j, j < n → c j < 256 ∧ xg_bytes u j = sb (c j)
def mTp (n : Nat) (c : Nat → Nat) (v : MX) : Prop := n ≤ 200 ∧ mg_taped v = nI n ∧ ∀ j, j < n → c j < 256 ∧ mg_tape v j = nI (c j)
theorem tp_of {u : CX} {v : MX} (h : rTape u v) : ∃ n c, xTp n c u ∧ mTp n c v := by
  obtain ⟨n, hn, e1, e2, hb⟩ := h
  have hq : ∀ j, j < n → (mg_tape v j).toNatClampNeg < 256 ∧ mg_tape v j = nI (mg_tape v j).toNatClampNeg ∧ xg_bytes u j = sb (mg_tape v j).toNatClampNeg := by
    intro j hj
    obtain ⟨c, h1, h2, h3⟩ := hb j hj
    have hc : (mg_tape v j).toNatClampNeg = c := by rw [h2, nI_clamp (by omega)]
    rw [hc]
    exact ⟨h1, h2, h3⟩
  exact ⟨n, fun j => (mg_tape v j).toNatClampNeg, ⟨hn, e1, fun j hj => ⟨(hq j hj).1, (hq j hj).2.2⟩⟩, hn, e2, fun j hj => ⟨(hq j hj).1, (hq j hj).2.1⟩⟩
theorem ex_end (q : Nat → Prop) (n : Nat) : ∀ (d a : Nat), a + d = n → ∃ b, a ≤ b ∧ b ≤ n ∧ (∀ j, a ≤ j → j < b → q j) ∧ (b < n → ¬ q b) := by
  intro d
  induction d with
  | zero => intro a h; exact ⟨a, Nat.le_refl _, by omega, fun j h1 h2 => absurd h2 (by omega), fun h1 => absurd h1 (by omega)⟩
  | succ d ih =>
    intro a h
    rcases Classical.em (q a) with hq | hq
    · obtain ⟨b, h1, h2, h3, h4⟩ := ih (a + 1) (by omega)
      refine ⟨b, by omega, h2, fun j j1 j2 => ?_, h4⟩
      by_cases e : j = a
      · rw [e]; exact hq
      · exact h3 j (by omega) j2
    · exact ⟨a, Nat.le_refl _, by omega, fun j h1 h2 => absurd h2 (by omega), fun _ => hq⟩
def isA (x : Nat) : Prop := 97 ≤ x ∧ x ≤ 122
def isD (x : Nat) : Prop := 48 ≤ x ∧ x ≤ 57
/-- a token: from a on, it stands from b to e; 0 the end, 1 a name, 2 a number, 3 the sign, 4 a number too long, 5 none -/
def TokK (n : Nat) (c : Nat → Nat) (b e t : Nat) : Prop :=
  (t = 0 ∧ b = n ∧ e = n) ∨ (t = 1 ∧ b < e ∧ (∀ j, b ≤ j → j < e → isA (c j)) ∧ (e < n → ¬ isA (c e))) ∨
  (t = 2 ∧ b < e ∧ e ≤ b + 3 ∧ (∀ j, b ≤ j → j < e → isD (c j)) ∧ (e < n → ¬ isD (c e))) ∨ (t = 3 ∧ b < n ∧ c b = 59 ∧ e = b + 1) ∨
  (t = 4 ∧ b + 3 < e ∧ (∀ j, b ≤ j → j < e → isD (c j)) ∧ (e < n → ¬ isD (c e))) ∨ (t = 5 ∧ b < n ∧ ¬ isA (c b) ∧ ¬ isD (c b) ∧ c b ≠ 59 ∧ e = b + 1)
def Tok (n : Nat) (c : Nat → Nat) (a b e t : Nat) : Prop := a ≤ b ∧ b ≤ e ∧ e ≤ n ∧ (∀ j, a ≤ j → j < b → c j = 32) ∧ (b < n → c b ≠ 32) ∧ TokK n c b e t
theorem tok_ex (n : Nat) (c : Nat → Nat) {a : Nat} (h : a ≤ n) : ∃ b e t, Tok n c a b e t := by
  obtain ⟨b, h1, h2, h3, h4⟩ := ex_end (fun j => c j = 32) n (n - a) a (by omega)
  by_cases hn : b < n
  · by_cases ha : isA (c b)
    · obtain ⟨e, g1, g2, g3, g4⟩ := ex_end (fun j => isA (c j)) n (n - (b + 1)) (b + 1) (by omega)
      refine ⟨b, e, 1, h1, by omega, g2, h3, h4, Or.inr (Or.inl ⟨rfl, by omega, fun j j1 j2 => ?_, g4⟩)⟩
      by_cases e2 : j = b
      · rw [e2]; exact ha
      · exact g3 j (by omega) j2
    · by_cases hd : isD (c b)
      · obtain ⟨e, g1, g2, g3, g4⟩ := ex_end (fun j => isD (c j)) n (n - (b + 1)) (b + 1) (by omega)
        have g5 : ∀ j, b ≤ j → j < e → isD (c j) := by
          intro j j1 j2
          by_cases e2 : j = b
          · rw [e2]; exact hd
          · exact g3 j (by omega) j2
        by_cases h33 : e ≤ b + 3
        · exact ⟨b, e, 2, h1, by omega, g2, h3, h4, Or.inr (Or.inr (Or.inl ⟨rfl, by omega, h33, g5, g4⟩))⟩
        · exact ⟨b, e, 4, h1, by omega, g2, h3, h4, Or.inr (Or.inr (Or.inr (Or.inr (Or.inl ⟨rfl, by omega, g5, g4⟩))))⟩
      · by_cases h5 : c b = 59
        · exact ⟨b, b + 1, 3, h1, by omega, by omega, h3, h4, Or.inr (Or.inr (Or.inr (Or.inl ⟨rfl, hn, h5, rfl⟩)))⟩
        · exact ⟨b, b + 1, 5, h1, by omega, by omega, h3, h4, Or.inr (Or.inr (Or.inr (Or.inr (Or.inr ⟨rfl, hn, ha, hd, h5, rfl⟩))))⟩
  · exact ⟨b, b, 0, h1, Nat.le_refl _, h2, h3, h4, Or.inl ⟨rfl, by omega, by omega⟩⟩
theorem tok_lt {n b e t : Nat} {c : Nat → Nat} (h : TokK n c b e t) : t < 6 ∧ (t ≠ 0 → b < e) := by
  rcases h with ⟨rfl, h⟩ | ⟨rfl, h⟩ | ⟨rfl, h⟩ | ⟨rfl, h⟩ | ⟨rfl, h⟩ | ⟨rfl, h⟩ <;> omega
/-- the class -/
theorem xfail (w : Int32) (u : CX) (kd st at_ : Int32) (dp dr pt lt : Nat → Int32) (pl li : Int32) : fX5_fail w (rx u kd st at_ dp dr pt lt 0 pl li) = some (rx u kd st at_ dp dr pt lt w st li) := by
  unfold fX5_fail
  rw [if_pos (show xg_rfault (rx u kd st at_ dp dr pt lt 0 pl li) = 0 from rfl), zb_e, zb_e]
  rfl
theorem xfail_n (w : Int32) (u : CX) (kd st at_ : Int32) (dp dr pt lt : Nat → Int32) {fa : Int32} (pl li : Int32) (hf : ¬ fa = 0) : fX5_fail w (rx u kd st at_ dp dr pt lt fa pl li) = some (rx u kd st at_ dp dr pt lt fa pl li) := if_neg hf
theorem mfails (w : Int32) (v : MX) (wa sp pl tk va : Int32) (rd : Nat → Int32) (tO : Int32) : fX10_fails w (mx v 0 wa sp pl tk va rd tO) = some (mx v w pl sp pl tk va rd tO) := by
  unfold fX10_fails
  rw [if_pos (show mg_wrong (mx v 0 wa sp pl tk va rd tO) = 0 from rfl), zb_e, zb_e]
  rfl
theorem mfails_n (w : Int32) (v : MX) {wr : Int32} (wa sp pl tk va : Int32) (rd : Nat → Int32) (tO : Int32) (hw : ¬ wr = 0) : fX10_fails w (mx v wr wa sp pl tk va rd tO) = some (mx v wr wa sp pl tk va rd tO) := if_neg hw
theorem xskips {n : Nat} {c : Nat → Nat} {u : CX} (h : xTp n c u) {a b lo hi k : Nat} (hl : lo < 128) (hh : hi < 128) (hab : a ≤ b) (hb : b ≤ n) (hr : ∀ j, a ≤ j → j < b → lo ≤ c j ∧ c j ≤ hi) (he : b < n → ¬ (lo ≤ c b ∧ c b ≤ hi)) (hk : 300 ≤ k) (hu : xg_tat u = nI a) (hs : xg_start u = nI a) : fX7_skips k (nI lo) (nI hi) u = some (if a < b then 1 else 0, xs_tat u (nI b)) := by
  unfold fX7_skips
  have hn := h.1
  have st : ∀ j, a ≤ j → j < a + (b - a) → bX7_skips_0 k (nI lo) (nI hi) (xs_tat u (nI j)) = some (.inl (xs_tat u (nI (j + 1)))) := by
    intro j h1 h2
    have ht : xTp n c (xs_tat u (nI j)) := h
    obtain ⟨hc, hb'⟩ := ht.2.2 j (by omega)
    have hq := hr j h1 (by omega)
    unfold bX7_skips_0
    rw [show xg_tat (xs_tat u (nI j)) = nI j from rfl, ht.2.1, if_neg (by rw [nI_leI (by omega) (by omega)]; omega), zget_n (by omega) (by omega), hb', if_neg (by rw [sb_lt hc hl]; omega), zget_n (by omega) (by omega), hb', if_neg (by rw [sb_gt hc hh]; omega), zb_e, nI_1]
    rfl
  have ex : bX7_skips_0 k (nI lo) (nI hi) (xs_tat u (nI (a + (b - a)))) = some (.inr (xs_tat u (nI b))) := by
    rw [show a + (b - a) = b by omega]
    have ht : xTp n c (xs_tat u (nI b)) := h
    unfold bX7_skips_0
    rw [show xg_tat (xs_tat u (nI b)) = nI b from rfl, ht.2.1]
    by_cases q : b < n
    · obtain ⟨hc, hb'⟩ := ht.2.2 b q
      have hq := he q
      rw [if_neg (by rw [nI_leI (by omega) (by omega)]; omega), zget_n (by omega) (by omega), hb']
      by_cases q1 : sb (c b) < nI lo
      · rw [if_pos q1]
      · rw [if_neg q1, zget_n (by omega) (by omega), hb', if_pos]
        rw [sb_lt hc hl] at q1
        rw [sb_gt hc hh]
        omega
    · rw [if_pos (by rw [nI_leI (by omega) (by omega)]; omega)]
  have hz := ziter_st (f := bX7_skips_0 k (nI lo) (nI hi)) (fun j => xs_tat u (nI j)) (xs_tat u (nI b)) (b - a) a k st ex (by omega)
  have e0 : xs_tat u (nI a) = u := by rw [← hu]; rfl
  rw [e0] at hz
  rw [hz, zbind_s, show xg_tat (xs_tat u (nI b)) = nI b from rfl, show xg_start (xs_tat u (nI b)) = nI a from hs]
  by_cases q : a < b
  · rw [if_neg (by rw [nI_leI (by omega) (by omega)]; omega), if_pos q]
  · rw [if_pos (by rw [nI_leI (by omega) (by omega)]; omega), if_neg q]
theorem xblank {n : Nat} {c : Nat → Nat} {u : CX} (h : xTp n c u) {a b k : Nat} (hab : a ≤ b) (hb : b ≤ n) (hr : ∀ j, a ≤ j → j < b → c j = 32) (he : b < n → c b ≠ 32) (hk : 300 ≤ k) (hu : xg_tat u = nI a) : ziter (bX7_next_0 k) k u = some (xs_tat u (nI b)) := by
  have hn := h.1
  have st : ∀ j, a ≤ j → j < a + (b - a) → bX7_next_0 k (xs_tat u (nI j)) = some (.inl (xs_tat u (nI (j + 1)))) := by
    intro j h1 h2
    have ht : xTp n c (xs_tat u (nI j)) := h
    unfold bX7_next_0
    rw [show xg_tat (xs_tat u (nI j)) = nI j from rfl, ht.2.1, if_neg (by rw [nI_leI (by omega) (by omega)]; omega), zget_n (by omega) (by omega), (ht.2.2 j (by omega)).2, if_pos (by rw [show (32 : Int32) = nI 32 from rfl, sb_eq (ht.2.2 j (by omega)).1 (by omega)]; exact hr j h1 (by omega)), zb_e, nI_1]
    rfl
  have ex : bX7_next_0 k (xs_tat u (nI (a + (b - a)))) = some (.inr (xs_tat u (nI b))) := by
    rw [show a + (b - a) = b by omega]
    have ht : xTp n c (xs_tat u (nI b)) := h
    unfold bX7_next_0
    rw [show xg_tat (xs_tat u (nI b)) = nI b from rfl, ht.2.1]
    by_cases hb' : b < n
    · rw [if_neg (by rw [nI_leI (by omega) (by omega)]; omega), zget_n (by omega) (by omega), (ht.2.2 b hb').2, if_neg (by rw [show (32 : Int32) = nI 32 from rfl, sb_eq (ht.2.2 b hb').1 (by omega)]; exact he hb')]
    · rw [if_pos (by rw [nI_leI (by omega) (by omega)]; omega)]
  have hz := ziter_st (f := bX7_next_0 k) (fun j => xs_tat u (nI j)) (xs_tat u (nI b)) (b - a) a k st ex (by omega)
  have e0 : xs_tat u (nI a) = u := by rw [← hu]; rfl
  rw [e0] at hz
  exact hz
def kX (t : Nat) : Int32 := ([1, 2, 3, 4, 0, 0] : List Int32).getD t 0
theorem xtokn {n : Nat} {c : Nat → Nat} {u : CX} (h : xTp n c u) {b e t k : Nat} (hb : b ≤ n) (he : e ≤ n) (hT : TokK n c b e t) (hk : 300 ≤ k) (hu : xg_tat u = nI b) : ∃ e', jX7_next_j38 k u = some (xs_kind (xs_tat (xs_start u (nI b)) (nI e')) (kX t)) ∧ (t ≠ 5 → e' = e) := by
  have hn := h.1
  unfold jX7_next_j38
  rw [zb_e, hu]
  have hw1 : xg_tat (xs_start u (nI b)) = nI b := hu
  have hw2 : xTp n c (xs_start u (nI b)) := h
  have hw3 : xg_start (xs_start u (nI b)) = nI b := rfl
  generalize xs_start u (nI b) = w at hw1 hw2 hw3 ⊢
  have e0 : xs_tat w (nI b) = w := by rw [← hw1]; rfl
  rw [hw1, hw2.2.1]
  have ltI : nI b < nI n ↔ b < n := nI_ltI (by omega) (by omega)
  have noA : (b < n → ¬ isA (c b)) → fX7_skips k 97 122 w = some (0, w) := by
    intro hq
    have hs := xskips (lo := 97) (hi := 122) (u := w) (k := k) hw2 (by omega) (by omega) (Nat.le_refl b) hb (fun j j1 j2 => absurd j2 (by omega)) hq hk hw1 hw3
    rw [if_neg (by omega), e0] at hs
    exact hs
  have noD : (b < n → ¬ isD (c b)) → fX7_skips k 48 57 w = some (0, w) := by
    intro hq
    have hs := xskips (lo := 48) (hi := 57) (u := w) (k := k) hw2 (by omega) (by omega) (Nat.le_refl b) hb (fun j j1 j2 => absurd j2 (by omega)) hq hk hw1 hw3
    rw [if_neg (by omega), e0] at hs
    exact hs
  have yesD : b < e → (∀ j, b ≤ j → j < e → isD (c j)) → (e < n → ¬ isD (c e)) → fX7_skips k 48 57 w = some (1, xs_tat w (nI e)) := by
    intro hbe hq1 hq2
    have hs := xskips (lo := 48) (hi := 57) (u := w) (k := k) hw2 (by omega) (by omega) (Nat.le_of_lt hbe) he hq1 hq2 hk hw1 hw3
    rw [if_pos hbe] at hs
    exact hs
  have dA : ∀ x, isD x → ¬ isA x := by
    intro x hx
    unfold isD at hx
    unfold isA
    omega
  rcases hT with ⟨rfl, h1, h2⟩ | ⟨rfl, h1, h2, h3⟩ | ⟨rfl, h1, h2, h3, h4⟩ | ⟨rfl, h1, h2, h3⟩ | ⟨rfl, h1, h3, h4⟩ | ⟨rfl, h1, h2, h3, h4, h5⟩
  · rw [if_neg (by rw [ltI]; omega), zb_e]
    exact ⟨b, by rw [e0]; rfl, fun _ => by omega⟩
  · have hs := xskips (lo := 97) (hi := 122) (u := w) (k := k) hw2 (by omega) (by omega) (Nat.le_of_lt h1) he h2 h3 hk hw1 hw3
    rw [if_pos h1] at hs
    rw [if_pos (by rw [ltI]; omega), show fX7_skips k 97 122 w = some (1, xs_tat w (nI e)) from hs, zbind_s]
    refine ⟨e, ?_, fun _ => rfl⟩
    dsimp only
    try rw [if_neg (show ¬ (1 : Int32) = 0 by decide)]
    rfl
  · have hA := h3 b (Nat.le_refl _) h1
    rw [if_pos (by rw [ltI]; omega), noA (fun _ => dA _ hA), zbind_s]
    refine ⟨e, ?_, fun _ => rfl⟩
    dsimp only
    try rw [if_pos (show (0 : Int32) = 0 from rfl)]
    rw [yesD h1 h3 h4, zbind_s]
    dsimp only
    try rw [if_neg (show ¬ (1 : Int32) = 0 by decide)]
    rw [show xg_tat (xs_tat w (nI e)) = nI e from rfl, show xg_start (xs_tat w (nI e)) = nI b from hw3, pk_sub (by omega), if_neg (by rw [show (3 : Int32) = nI 3 from rfl, nI_ltI (by omega) (by omega)]; omega), zb_e]
    rfl
  · rw [if_pos (by rw [ltI]; omega), noA (fun _ => by unfold isA; omega), zbind_s]
    dsimp only
    try rw [if_pos (show (0 : Int32) = 0 from rfl)]
    rw [noD (fun _ => by unfold isD; omega), zbind_s]
    dsimp only
    try rw [if_pos (show (0 : Int32) = 0 from rfl)]
    rw [hw1, zget_n (by omega) (by omega), (hw2.2.2 b h1).2, if_pos (by rw [show (59 : Int32) = nI 59 from rfl, sb_eq (hw2.2.2 b h1).1 (by omega)]; exact h2), zb_e, zb_e, nI_1]
    exact ⟨b + 1, rfl, fun _ => h3.symm⟩
  · have hA := h3 b (Nat.le_refl _) (by omega)
    rw [if_pos (by rw [ltI]; omega), noA (fun _ => dA _ hA), zbind_s]
    refine ⟨e, ?_, fun _ => rfl⟩
    dsimp only
    try rw [if_pos (show (0 : Int32) = 0 from rfl)]
    rw [yesD (by omega) h3 h4, zbind_s]
    dsimp only
    try rw [if_neg (show ¬ (1 : Int32) = 0 by decide)]
    rw [show xg_tat (xs_tat w (nI e)) = nI e from rfl, show xg_start (xs_tat w (nI e)) = nI b from hw3, pk_sub (by omega), if_pos (by rw [show (3 : Int32) = nI 3 from rfl, nI_ltI (by omega) (by omega)]; omega), zb_e]
    rfl
  · rw [if_pos (by rw [ltI]; omega), noA (fun _ => h2), zbind_s]
    dsimp only
    try rw [if_pos (show (0 : Int32) = 0 from rfl)]
    rw [noD (fun _ => h3), zbind_s]
    dsimp only
    try rw [if_pos (show (0 : Int32) = 0 from rfl)]
    rw [hw1, zget_n (by omega) (by omega), (hw2.2.2 b h1).2, if_neg (by rw [show (59 : Int32) = nI 59 from rfl, sb_eq (hw2.2.2 b h1).1 (by omega)]; exact h4), zb_e]
    exact ⟨b, by rw [e0]; rfl, fun q => absurd rfl q⟩
theorem xnext {n : Nat} {c : Nat → Nat} {u : CX} (h : xTp n c u) {a b e t k : Nat} (hT : Tok n c a b e t) (hk : 300 ≤ k) (hu : xg_tat u = nI a) : ∃ e', fX7_next k u = some (xs_kind (xs_tat (xs_start u (nI b)) (nI e')) (kX t)) ∧ (t ≠ 5 → e' = e) := by
  obtain ⟨h1, h2, h3, h4, h5, h6⟩ := hT
  obtain ⟨e', g1, g2⟩ := xtokn (u := xs_tat u (nI b)) (k := k) h (by omega) h3 h6 hk rfl
  refine ⟨e', ?_, g2⟩
  unfold fX7_next
  rw [xblank h h1 (by omega) h4 h5 hk hu, zbind_s, g1]
  rfl
theorem kX_n : ∀ t, t < 4 → ¬ kX t = 0 := by decide
theorem xadv {n : Nat} {c : Nat → Nat} {u : CX} (h : xTp n c u) {a b e t k : Nat} (hT : Tok n c a b e t) (hk : 300 ≤ k) (kd st : Int32) (dp dr pt lt : Nat → Int32) (pl li : Int32) : (t < 4 → fX5_advance k (rx u kd st (nI a) dp dr pt lt 0 pl li) = some (rx u (kX t) (nI b) (nI e) dp dr pt lt 0 pl li)) ∧ (¬ t < 4 → ∃ e', fX5_advance k (rx u kd st (nI a) dp dr pt lt 0 pl li) = some (rx u 0 (nI b) (nI e') dp dr pt lt 1 (nI b) li)) := by
  obtain ⟨e', g1, g2⟩ := xnext (u := rx u kd st (nI a) dp dr pt lt 0 pl li) (k := k) h hT hk rfl
  unfold fX5_advance
  rw [if_pos (show xg_rfault (rx u kd st (nI a) dp dr pt lt 0 pl li) = 0 from rfl), g1, zbind_s, show xs_kind (xs_tat (xs_start (rx u kd st (nI a) dp dr pt lt 0 pl li) (nI b)) (nI e')) (kX t) = rx u (kX t) (nI b) (nI e') dp dr pt lt 0 pl li from rfl]
  constructor
  · intro ht
    rw [if_neg (show ¬ xg_kind (rx u (kX t) (nI b) (nI e') dp dr pt lt 0 pl li) = 0 from kX_n t ht), g2 (by omega)]
  · intro ht
    have hk0 : kX t = 0 := by
      have := (tok_lt hT.2.2.2.2.2).1
      rcases (show t = 4 ∨ t = 5 by omega) with rfl | rfl <;> rfl
    rw [if_pos (show xg_kind (rx u (kX t) (nI b) (nI e') dp dr pt lt 0 pl li) = 0 from hk0), hk0, xfail, zbind_s]
    exact ⟨e', rfl⟩
/-- the reference -/
theorem mbyte {n : Nat} {c : Nat → Nat} {v : MX} (h : mTp n c v) {j : Nat} (hj : j < 2 ^ 31) : fX10_byteAt (nI j) v = some (if j < n then nI (c j) else -4) := by
  unfold fX10_byteAt
  have hn := h.1
  rw [h.2.1]
  have hle : nI n ≤ nI j ↔ n ≤ j := nI_leI (by omega) hj
  by_cases q : n ≤ j
  · rw [if_pos (hle.mpr q), if_neg (by omega)]
  · rw [if_neg (fun z => q (hle.mp z)), zget_n (by omega) (by omega), (h.2.2 j (by omega)).2, if_pos (by omega)]
theorem mbI {n : Nat} {c : Nat → Nat} {v : MX} (h : mTp n c v) (j : Nat) : (if j < n then nI (c j) else (-4 : Int32)).toInt64.toInt = if j < n then (c j : Int) else -4 := by
  rw [Int32.toInt_toInt64]
  split
  · rw [nI_toInt (by have := (h.2.2 j (by assumption)).1; omega)]
  · rfl
theorem mblank {n : Nat} {c : Nat → Nat} {v : MX} (h : mTp n c v) {a b k : Nat} (hab : a ≤ b) (hb : b ≤ n) (hr : ∀ j, a ≤ j → j < b → c j = 32) (he : b < n → c b ≠ 32) (hk : 300 ≤ k) (wr wa pl tk va : Int32) (rd : Nat → Int32) (tO : Int32) : ziter (bX10_next_8 k) k (mx v wr wa (nI a) pl tk va rd tO) = some (mx v wr wa (nI b) pl tk va rd tO) := by
  have hn := h.1
  have st : ∀ j, a ≤ j → j < a + (b - a) → bX10_next_8 k (mx v wr wa (nI j) pl tk va rd tO) = some (.inl (mx v wr wa (nI (j + 1)) pl tk va rd tO)) := by
    intro j h1 h2
    have ht : mTp n c (mx v wr wa (nI j) pl tk va rd tO) := h
    unfold bX10_next_8
    rw [show mg_spot (mx v wr wa (nI j) pl tk va rd tO) = nI j from rfl, mbyte ht (by omega), zbind_s, if_pos (show j < n by omega), if_pos (by rw [hr j h1 (by omega)]; rfl), zb_e, nI_1]
    rfl
  have ex : bX10_next_8 k (mx v wr wa (nI (a + (b - a))) pl tk va rd tO) = some (.inr (mx v wr wa (nI b) pl tk va rd tO)) := by
    rw [show a + (b - a) = b by omega]
    have ht : mTp n c (mx v wr wa (nI b) pl tk va rd tO) := h
    unfold bX10_next_8
    rw [show mg_spot (mx v wr wa (nI b) pl tk va rd tO) = nI b from rfl, mbyte ht (by omega), zbind_s]
    by_cases hb' : b < n
    · rw [if_pos hb', if_neg (by
        rw [show (32 : Int32) = nI 32 from rfl, nI_eq (by have := (h.2.2 b hb').1; omega) (by omega)]
        exact he hb')]
    · rw [if_neg hb', if_neg (by decide)]
  exact ziter_st (f := bX10_next_8 k) (fun j => mx v wr wa (nI j) pl tk va rd tO) (mx v wr wa (nI b) pl tk va rd tO) (b - a) a k st ex (by omega)
theorem mletters {n : Nat} {c : Nat → Nat} {v : MX} (h : mTp n c v) {a b k : Nat} (hab : a ≤ b) (hb : b ≤ n) (hr : ∀ j, a ≤ j → j < b → isA (c j)) (he : b < n → ¬ isA (c b)) (hk : 300 ≤ k) (wr wa pl tk va : Int32) (rd : Nat → Int32) (tO : Int32) : ziter (bX10_next_84 k) k (mx v wr wa (nI a) pl tk va rd tO) = some (mx v wr wa (nI b) pl tk va rd tO) := by
  have hn := h.1
  have st : ∀ j, a ≤ j → j < a + (b - a) → bX10_next_84 k (mx v wr wa (nI j) pl tk va rd tO) = some (.inl (mx v wr wa (nI (j + 1)) pl tk va rd tO)) := by
    intro j h1 h2
    have ht : mTp n c (mx v wr wa (nI j) pl tk va rd tO) := h
    have hj := hr j h1 (by omega)
    unfold isA at hj
    unfold bX10_next_84
    rw [show mg_spot (mx v wr wa (nI j) pl tk va rd tO) = nI j from rfl, mbyte ht (by omega), zbind_s, inIf, mbI h, if_pos (show j < n by omega), if_pos (by
      show (97 : Int) ≤ _ ∧ _ ≤ (122 : Int)
      omega), zb_e, nI_1]
    rfl
  have ex : bX10_next_84 k (mx v wr wa (nI (a + (b - a))) pl tk va rd tO) = some (.inr (mx v wr wa (nI b) pl tk va rd tO)) := by
    rw [show a + (b - a) = b by omega]
    have ht : mTp n c (mx v wr wa (nI b) pl tk va rd tO) := h
    unfold bX10_next_84
    rw [show mg_spot (mx v wr wa (nI b) pl tk va rd tO) = nI b from rfl, mbyte ht (by omega), zbind_s, inIf, mbI h]
    by_cases hb' : b < n
    · have hq := he hb'
      unfold isA at hq
      rw [if_pos hb', if_neg (by
        show ¬ ((97 : Int) ≤ _ ∧ _ ≤ (122 : Int))
        omega)]
    · rw [if_neg hb', if_neg (by decide)]
  exact ziter_st (f := bX10_next_84 k) (fun j => mx v wr wa (nI j) pl tk va rd tO) (mx v wr wa (nI b) pl tk va rd tO) (b - a) a k st ex (by omega)
/-- a number's worth -/
def num (c : Nat → Nat) (b : Nat) : Nat → Nat
  | 0 => 0
  | m + 1 => 10 * num c b m + (c (b + m) - 48)
theorem num_lt {c : Nat → Nat} {b : Nat} : ∀ m, m ≤ 3 → (∀ j, b ≤ j → j < b + m → isD (c j)) → num c b m < 10 ^ m := by
  intro m
  induction m with
  | zero => intro _ _; exact Nat.zero_lt_one
  | succ m ih =>
    intro h1 h2
    have := ih (by omega) (fun j a b => h2 j a (by omega))
    have hd := h2 (b + m) (by omega) (by omega)
    unfold isD at hd
    show 10 * num c b m + (c (b + m) - 48) < 10 ^ (m + 1)
    rw [Nat.pow_succ]
    omega
theorem mdigits {n : Nat} {c : Nat → Nat} {v : MX} (h : mTp n c v) {b e k : Nat} (hbe : b ≤ e) (he' : e ≤ n) (hr : ∀ j, b ≤ j → j < e → isD (c j)) (he : e < n → ¬ isD (c e)) (hk : 300 ≤ k) (wr wa tk : Int32) (rd : Nat → Int32) (tO : Int32) : ziter (bX10_next_140 k) k (mx v wr wa (nI b) (nI b) tk 0 rd tO) = some (mx v wr wa (nI e) (nI b) tk (nI (num c b (min (e - b) 3))) rd tO) := by
  have hn := h.1
  have st : ∀ j, b ≤ j → j < b + (e - b) → bX10_next_140 k (mx v wr wa (nI j) (nI b) tk (nI (num c b (min (j - b) 3))) rd tO) = some (.inl (mx v wr wa (nI (j + 1)) (nI b) tk (nI (num c b (min (j + 1 - b) 3))) rd tO)) := by
    intro j h1 h2
    have ht : mTp n c (mx v wr wa (nI j) (nI b) tk (nI (num c b (min (j - b) 3))) rd tO) := h
    have hj := hr j h1 (by omega)
    unfold isD at hj
    unfold bX10_next_140
    rw [show mg_spot (mx v wr wa (nI j) (nI b) tk (nI (num c b (min (j - b) 3))) rd tO) = nI j from rfl, show mg_place (mx v wr wa (nI j) (nI b) tk (nI (num c b (min (j - b) 3))) rd tO) = nI b from rfl, show mg_value (mx v wr wa (nI j) (nI b) tk (nI (num c b (min (j - b) 3))) rd tO) = nI (num c b (min (j - b) 3)) from rfl, mbyte ht (by omega), zbind_s, inIf, mbI h, if_pos (show j < n by omega), if_pos (show j < n by omega), if_pos (by
      show (48 : Int) ≤ _ ∧ _ ≤ (57 : Int)
      omega), pk_sub (by omega)]
    by_cases q : 3 ≤ j - b
    · rw [if_pos (by rw [show (3 : Int32) = nI 3 from rfl, nI_leI (by omega) (by omega)]; exact q), zb_e, zb_e, show min (j + 1 - b) 3 = min (j - b) 3 by omega]
      show some (Sum.inl (mx v wr wa (nI j + 1) (nI b) tk (nI (num c b (min (j - b) 3))) rd tO)) = _
      rw [nI_1]
    · rw [if_neg (by rw [show (3 : Int32) = nI 3 from rfl, nI_leI (by omega) (by omega)]; exact q), zbind_s, zb_e, zb_e, show min (j + 1 - b) 3 = (j - b) + 1 by omega, show min (j - b) 3 = j - b by omega]
      show some (Sum.inl (mx v wr wa (nI j + 1) (nI b) tk ((10 : Int32) * nI (num c b (j - b)) + nI (c j) - (48 : Int32)) rd tO)) = _
      rw [nI_1, show (10 : Int32) = nI 10 from rfl, show (48 : Int32) = nI 48 from rfl, pk_mul, nI_add, pk_sub (by omega), show 10 * num c b (j - b) + c j - 48 = num c b (j - b + 1) by
        show _ = 10 * num c b (j - b) + (c (b + (j - b)) - 48)
        rw [show b + (j - b) = j by omega]
        omega]
  have ex : bX10_next_140 k (mx v wr wa (nI (b + (e - b))) (nI b) tk (nI (num c b (min (b + (e - b) - b) 3))) rd tO) = some (.inr (mx v wr wa (nI e) (nI b) tk (nI (num c b (min (e - b) 3))) rd tO)) := by
    rw [show b + (e - b) = e by omega]
    have ht : mTp n c (mx v wr wa (nI e) (nI b) tk (nI (num c b (min (e - b) 3))) rd tO) := h
    unfold bX10_next_140
    rw [show mg_spot (mx v wr wa (nI e) (nI b) tk (nI (num c b (min (e - b) 3))) rd tO) = nI e from rfl, mbyte ht (by omega), zbind_s, inIf, mbI h]
    by_cases hb' : e < n
    · have hq := he hb'
      unfold isD at hq
      rw [if_pos hb', if_neg (by
        show ¬ ((48 : Int) ≤ _ ∧ _ ≤ (57 : Int))
        omega)]
    · rw [if_neg hb', if_neg (by decide)]
  have hz := ziter_st (f := bX10_next_140 k) (fun j => mx v wr wa (nI j) (nI b) tk (nI (num c b (min (j - b) 3))) rd tO) (mx v wr wa (nI e) (nI b) tk (nI (num c b (min (e - b) 3))) rd tO) (e - b) b k st ex (by omega)
  rw [Nat.sub_self] at hz
  exact hz
def vlT (c : Nat → Nat) (b e t : Nat) : Nat := if t = 2 then num c b (e - b) else 0
theorem mnext {n : Nat} {c : Nat → Nat} {v : MX} (h : mTp n c v) {a b e t k : Nat} (hT : Tok n c a b e t) (hk : 300 ≤ k) (wa pl tk va : Int32) (rd : Nat → Int32) (tO : Int32) : (t < 4 → fX10_next k (mx v 0 wa (nI a) pl tk va rd tO) = some (mx v 0 wa (nI e) (nI b) (nI t) (nI (vlT c b e t)) rd tO)) ∧ (¬ t < 4 → ∃ sp tk' va', fX10_next k (mx v 0 wa (nI a) pl tk va rd tO) = some (mx v 1 (nI b) sp (nI b) tk' va' rd tO)) := by
  obtain ⟨h1, h2, h3, h4, h5, h6⟩ := hT
  have hn := h.1
  unfold fX10_next
  rw [if_pos (show mg_wrong (mx v 0 wa (nI a) pl tk va rd tO) ≤ 0 from (by decide : (0 : Int32) ≤ 0)), mblank h h1 (by omega) h4 h5 hk, zbind_s, zb_e, show mg_spot (mx v 0 wa (nI b) pl tk va rd tO) = nI b from rfl, show ms_place (mx v 0 wa (nI b) pl tk va rd tO) (nI b) = mx v 0 wa (nI b) (nI b) tk va rd tO from rfl, show mg_spot (mx v 0 wa (nI b) (nI b) tk va rd tO) = nI b from rfl, mbyte (v := mx v 0 wa (nI b) (nI b) tk va rd tO) h (by omega), zbind_s, zb_e, show ms_value (mx v 0 wa (nI b) (nI b) tk va rd tO) 0 = mx v 0 wa (nI b) (nI b) tk 0 rd tO from rfl]
  by_cases hb' : b < n
  · have hc := (h.2.2 b hb').1
    have h4n : ¬ nI (c b) = -4 := by
      intro q
      have := congrArg Int32.toInt q
      rw [nI_toInt (by omega)] at this
      have h44 : (-4 : Int32).toInt = -4 := rfl
      omega
    rw [if_pos hb', if_neg h4n, inIf, Int32.toInt_toInt64, nI_toInt (by omega)]
    rcases h6 with ⟨rfl, g1, g2⟩ | ⟨rfl, g1, g2, g3⟩ | ⟨rfl, g1, g2, g3, g4⟩ | ⟨rfl, g1, g2, g3⟩ | ⟨rfl, g1, g3, g4⟩ | ⟨rfl, g1, g2, g3, g4, g5⟩
    · omega
    · have hA := g2 b (Nat.le_refl _) g1
      unfold isA at hA
      rw [if_pos (by
        show (97 : Int) ≤ _ ∧ _ ≤ (122 : Int)
        omega), mletters h (by omega) h3 g2 g3 hk, zbind_s, zb_e]
      exact ⟨fun _ => rfl, fun q => absurd (by omega) q⟩
    · have hA := g3 b (Nat.le_refl _) g1
      unfold isD at hA
      rw [if_neg (by
        show ¬ ((97 : Int) ≤ _ ∧ _ ≤ (122 : Int))
        omega), inIf, Int32.toInt_toInt64, nI_toInt (by omega), if_pos (by
        show (48 : Int) ≤ _ ∧ _ ≤ (57 : Int)
        omega), mdigits h (by omega) h3 g3 g4 hk, zbind_s, zb_e]
      refine ⟨fun _ => ?_, fun q => absurd (by omega) q⟩
      rw [show min (e - b) 3 = e - b by omega, show ms_token (mx v 0 wa (nI e) (nI b) tk (nI (num c b (e - b))) rd tO) 2 = mx v 0 wa (nI e) (nI b) 2 (nI (num c b (e - b))) rd tO from rfl, show mg_spot (mx v 0 wa (nI e) (nI b) 2 (nI (num c b (e - b))) rd tO) = nI e from rfl, show mg_place (mx v 0 wa (nI e) (nI b) 2 (nI (num c b (e - b))) rd tO) = nI b from rfl, pk_sub (by omega), if_pos (by rw [show (3 : Int32) = nI 3 from rfl, nI_leI (by omega) (by omega)]; omega)]
      rfl
    · rw [if_neg (by
        show ¬ ((97 : Int) ≤ _ ∧ _ ≤ (122 : Int))
        omega), inIf, Int32.toInt_toInt64, nI_toInt (by omega), if_neg (by
        show ¬ ((48 : Int) ≤ _ ∧ _ ≤ (57 : Int))
        omega), zb_e, zb_e, if_pos (by rw [g2]; rfl)]
      refine ⟨fun _ => ?_, fun q => absurd (by omega) q⟩
      rw [g3, ← nI_1]
      rfl
    · have hA := g3 b (Nat.le_refl _) (by omega)
      unfold isD at hA
      rw [if_neg (by
        show ¬ ((97 : Int) ≤ _ ∧ _ ≤ (122 : Int))
        omega), inIf, Int32.toInt_toInt64, nI_toInt (by omega), if_pos (by
        show (48 : Int) ≤ _ ∧ _ ≤ (57 : Int)
        omega), mdigits h (by omega) h3 g3 g4 hk, zbind_s, zb_e]
      refine ⟨fun q => absurd q (by omega), fun _ => ?_⟩
      generalize num c b (min (e - b) 3) = vv
      rw [show ms_token (mx v 0 wa (nI e) (nI b) tk (nI vv) rd tO) 2 = mx v 0 wa (nI e) (nI b) 2 (nI vv) rd tO from rfl, show mg_spot (mx v 0 wa (nI e) (nI b) 2 (nI vv) rd tO) = nI e from rfl, show mg_place (mx v 0 wa (nI e) (nI b) 2 (nI vv) rd tO) = nI b from rfl, pk_sub (by omega), if_neg (by rw [show (3 : Int32) = nI 3 from rfl, nI_leI (by omega) (by omega)]; omega), mfails, zbind_s]
      exact ⟨_, _, _, rfl⟩
    · unfold isA at g2
      unfold isD at g3
      rw [if_neg (by
        show ¬ ((97 : Int) ≤ _ ∧ _ ≤ (122 : Int))
        omega), inIf, Int32.toInt_toInt64, nI_toInt (by omega), if_neg (by
        show ¬ ((48 : Int) ≤ _ ∧ _ ≤ (57 : Int))
        omega), zb_e, zb_e, if_neg (by rw [show (59 : Int32) = nI 59 from rfl, nI_eq (by omega) (by omega)]; exact g4), show ms_spot (ms_token (mx v 0 wa (nI b) (nI b) tk 0 rd tO) 3) (mg_spot (ms_token (mx v 0 wa (nI b) (nI b) tk 0 rd tO) 3) + 1) = mx v 0 wa (nI b + 1) (nI b) 3 0 rd tO from rfl, mfails, zbind_s]
      exact ⟨fun q => absurd q (by omega), fun _ => ⟨_, _, _, rfl⟩⟩
  · rw [if_neg hb', if_pos rfl, zb_e]
    rcases h6 with ⟨rfl, g1, g2⟩ | ⟨rfl, g1, g2, g3⟩ | ⟨rfl, g1, g2, g3, g4⟩ | ⟨rfl, g1, g2, g3⟩ | ⟨rfl, g1, g3, g4⟩ | ⟨rfl, g1, g2, g3, g4, g5⟩
    · refine ⟨fun _ => ?_, fun q => absurd (by omega) q⟩
      rw [show e = b by omega]
      rfl
    · omega
    · omega
    · omega
    · omega
    · omega
