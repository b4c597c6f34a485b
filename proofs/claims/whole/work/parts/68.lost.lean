theorem xbestFor {P : Nat → Nat} {u : CX} (hP : rP P) (hT : xTm P u) (hl : xPl P u) {law : Nat} (hlaw : law < 14641) {k : Nat} (hk : 20 ≤ k) : ∃ f, fX4_bestFor k (nI law) u = some (nI (bestV P law), xs_stands u f) := by
  obtain ⟨f, e, hf⟩ := xstandAll hP hT hlaw hk
  have hl' : xPl P (xs_stands u f) := hl
  have hsc := (xx_le hP law).2
  unfold fX4_bestFor
  rw [e, zbind_s, xmost_s (X := xS P law) hl' (fun s hs => ⟨hf s hs, by have := xS_le hP law s; omega, by have := hX_n hP s (xS_le hP law s); omega⟩) hk, zbind_s]
  exact ⟨f, rfl⟩
theorem mweight {P : Nat → Nat} {v : MX} (hM : mHd P v) {s : Nat} (hs : s < 16) {k : Nat} (hk : 20 ≤ k) : fX10_weightOf k (nI s) v = some (nI (wt P s)) := by
  unfold fX10_weightOf
  have st : ∀ (c i : Nat), i < 4 → bX10_weightOf_4 k (nI s) v (nI c, nI i) = some (.inl (nI (c + bt1 s i * P (8 + i)), nI (i + 1))) := by
    intro c i hi
    unfold bX10_weightOf_4
    dsimp only
    rw [if_neg (by rw [show (4 : Int32) = nI 4 from rfl, nI_leI (by omega) (by omega)]; omega), show (8 : Int32) = nI 8 from rfl, nI_add, zget_n (by omega) (by omega), hM _ (by omega), zb_e, bt_i s hs i hi, pk_mul, nI_add, nI_1]
  have ex : ∀ c, bX10_weightOf_4 k (nI s) v (c, nI 4) = some (.inr c) := fun c => rfl
  generalize bX10_weightOf_4 k (nI s) v = f at st ex
  obtain ⟨k', rfl⟩ : ∃ k', k = k' + 1 + 1 + 1 + 1 + 1 := ⟨k - 5, by omega⟩
  rw [show (((0 : Int32), (0 : Int32)) : Int32 × Int32) = (nI 0, nI 0) from rfl, ziter_l (st _ 0 (by omega)), ziter_l (st _ 1 (by omega)), ziter_l (st _ 2 (by omega)), ziter_l (st _ 3 (by omega)), ziter_r (ex _), zbind_s, Nat.zero_add]
  rfl
theorem mwithin {P : Nat → Nat} {v : MX} (hP : rP P) (hM : mHd P v) {s : Nat} (hs : s < 16) {k : Nat} (hk : 20 ≤ k) : fX10_isWithin k (nI s) v = some (bI (okS P s)) := by
  have hw := wt_le hP s
  have hli := hP.2.2.2.2.2.2.2
  unfold fX10_isWithin
  rw [inIf, Int32.toInt_toInt64, nI_toInt (by omega), show (0 : Int64).toInt = 0 from rfl, show (15 : Int64).toInt = 15 from rfl, if_pos (by omega), mweight hM hs hk, zbind_s, show (18 : Int32) = nI 18 from rfl, zget_n (by omega) (by omega), hM 18 (by omega)]
  unfold okS
  by_cases c : wt P s ≤ P 18
  · rw [if_neg (by rw [nI_ltI (by omega) (by omega)]; omega), decide_eq_true c]
    rfl
  · rw [if_pos (by rw [nI_ltI (by omega) (by omega)]; omega), decide_eq_false c]
    rfl
def lU (P : Nat → Nat) (s x : Nat) : Nat := 100 * wh P - hX_ P s x * (1000 - P 16)
theorem mlost {P : Nat → Nat} {v : MX} (hP : rP P) (hM : mHd P v) {law s : Nat} (hl : law < 14641) (hs : s < 16) {k : Nat} (hk : 20 ≤ k) : ∃ h, fX10_lostUp k (nI law) (nI s) v = some (lN (lU P s (xS P law s)), ms_lw v h) ∧ mLw P law (ms_lw v h) := by
  obtain ⟨h, e, hL⟩ := mlay hP hM hl hk
  have hM' : mHd P (ms_lw v h) := hM
  have hw := wt_le hP s
  have ho := hP.2.2.2.2.2.1
  have hx := xS_le hP law s
  unfold fX10_lostUp
  rw [e, zbind_s, mweight hM' hs hk, zbind_s]
  have st : ∀ (c i : Nat), i < 4 → bX10_lostUp_17 k (nI s) (nI (wt P s)) (ms_lw v h) (lN c, nI i) = some (.inl (lN (c + P i * (10 - fgS law s i)), nI (i + 1))) := by
    intro c i hi
    have hfl := fg_le (p := i) hl
    have hp20 := (hP.1 i hi).2
    have hm := mul_b hp20 (show 10 - fg law i / 2 ≤ 10 by omega)
    have hm2 := mul_b hp20 (show 10 - fg law i ≤ 10 by omega)
    unfold bX10_lostUp_17
    dsimp only
    rw [if_neg (by rw [show (4 : Int32) = nI 4 from rfl, nI_leI (by omega) (by omega)]; omega), bt_i s hs i hi, zget_n hi (by omega), zget_n hi (by omega), hL.1 i hi, zdi_n (by decide), zb_e, zget_n (by omega) (by omega), zget_n (by omega) (by omega), hM' i (by omega), show (2 : Int32) = nI 2 from rfl, pk_div (by omega) (by omega) (by omega), show (10 : Int32) = nI 10 from rfl, pk_sub (by omega), pk_sub (by omega), pk_mul, pk_mul, nI_l (by omega), nI_l (by omega), zb_e, zb_e, lN_add, lN_add, nI_1]
    have hb := bt_le s i
    by_cases c1 : bt1 s i = 1
    · rw [c1, if_pos (show nI 1 = 1 from rfl), fgS_1 c1]
    · rw [if_neg (by rw [show (1 : Int32) = nI 1 from rfl, nI_eq (by omega) (by omega)]; exact c1), fgS_0 (by omega)]
  have ex : ∀ c, bX10_lostUp_17 k (nI s) (nI (wt P s)) (ms_lw v h) (c, nI 4) = some (.inr c) := fun c => rfl
  have hit1 : ziter (bX10_lostUp_17 k (nI s) (nI (wt P s)) (ms_lw v h)) k ((0 : Int64), (0 : Int32)) = some (lN (xS P law s)) := by
    generalize bX10_lostUp_17 k (nI s) (nI (wt P s)) (ms_lw v h) = f at st ex
    obtain ⟨k', rfl⟩ : ∃ k', k = k' + 1 + 1 + 1 + 1 + 1 := ⟨k - 5, by omega⟩
    rw [show (((0 : Int64), (0 : Int32)) : Int64 × Int32) = (lN 0, nI 0) from rfl, ziter_l (st _ 0 (by omega)), ziter_l (st _ 1 (by omega)), ziter_l (st _ 2 (by omega)), ziter_l (st _ 3 (by omega)), ziter_r (ex _), Nat.zero_add]
    rfl
  rw [hit1, zbind_s]
  generalize hX : xS P law s = x at hx
  have st2 : ∀ (c i : Nat), i < 4 → bX10_lostUp_85 k (nI (wt P s)) (lN x) (ms_lw v h) (lN c, nI i) = some (.inl (lN (c + (P (12 + i) * (if i = 3 then 100 else 100 - wt P s) + (if i = 0 then 0 else P (11 + i) * wt P s)) * x ^ i * sc P ^ (3 - i)), nI (i + 1))) := by
    intro c i hi
    have hb := hP.2.2.2.1 i hi
    have hj : ∀ t, jX10_lostUp_j120_85 k (nI (wt P s)) (lN x) (lN c) (nI i) (lN (P (12 + i))) (lN t) (ms_lw v h) = some (.inl (lN (c + (P (12 + i) * t + (if i = 0 then 0 else P (11 + i) * wt P s)) * x ^ i * sc P ^ (3 - i)), nI (i + 1))) := by
      intro t
      unfold jX10_lostUp_j120_85
      rw [hL.2.2.1, mpower (by omega) hk, show (3 : Int32) = nI 3 from rfl, pk_sub (by omega), mpower (by omega) hk]
      simp only [zbind_s, zb_e, lN_mul, nI_1]
      by_cases c0 : i = 0
      · subst c0
        rw [if_pos (by decide), if_pos rfl, show (0 : Int64) = lN 0 from rfl, lN_add, lN_mul, lN_mul, lN_add]
      · have hb2 : P (11 + i) ≤ 99 := by
          have := hP.2.2.2.1 (i - 1) (by omega)
          rw [show 12 + (i - 1) = 11 + i by omega] at this
          exact this
        rw [if_neg (by rw [show (0 : Int32) = nI 0 from rfl, nI_leI (by omega) (by omega)]; omega), if_neg c0, show (11 : Int32) = nI 11 from rfl, nI_add, zget_n (by omega) (by omega), hM' _ (by omega), nI_l (by omega), nI_l (by omega), lN_mul, lN_add, lN_mul, lN_mul, lN_add]
    unfold bX10_lostUp_85
    dsimp only
    rw [if_neg (by rw [show (4 : Int32) = nI 4 from rfl, nI_leI (by omega) (by omega)]; omega), show (12 : Int32) = nI 12 from rfl, nI_add, zget_n (by omega) (by omega), hM' _ (by omega), nI_l (by omega), nI_l (by omega), show (100 : Int64) = lN 100 from rfl, lN_sub (by omega), hj, hj]
    by_cases c3 : i = 3
    · subst c3
      rw [if_pos (show nI 3 = 3 from rfl), if_pos rfl]
    · rw [if_neg (by rw [show (3 : Int32) = nI 3 from rfl, nI_eq (by omega) (by omega)]; exact c3), if_neg c3]
  have ex2 : ∀ c, bX10_lostUp_85 k (nI (wt P s)) (lN x) (ms_lw v h) (c, nI 4) = some (.inr c) := fun c => rfl
  have hit2 : ziter (bX10_lostUp_85 k (nI (wt P s)) (lN x) (ms_lw v h)) k ((0 : Int64), (0 : Int32)) = some (lN (hX_ P s x)) := by
    generalize bX10_lostUp_85 k (nI (wt P s)) (lN x) (ms_lw v h) = f at st2 ex2
    obtain ⟨k', rfl⟩ : ∃ k', k = k' + 1 + 1 + 1 + 1 + 1 := ⟨k - 5, by omega⟩
    rw [show (((0 : Int64), (0 : Int32)) : Int64 × Int32) = (lN 0, nI 0) from rfl, ziter_l (st2 _ 0 (by omega)), ziter_l (st2 _ 1 (by omega)), ziter_l (st2 _ 2 (by omega)), ziter_l (st2 _ 3 (by omega)), ziter_r (ex2 _)]
    refine congrArg (fun z => some (lN z)) ?_
    unfold hX_ fac
    simp
    grind
  have hle := hX_o hP s hx
  rw [hit2, zbind_s, mwhole hL hk, zbind_s, show (16 : Int32) = nI 16 from rfl, zget_n (by omega) (by omega), hM' 16 (by omega), nI_l (by omega), show (1000 : Int64) = lN 1000 from rfl, lN_sub (by omega), show (100 : Int64) = lN 100 from rfl, lN_mul, lN_mul, lN_sub hle]
  exact ⟨h, rfl, hL⟩
theorem lU_b {P : Nat → Nat} (hP : rP P) (s x : Nat) : lU P s x < 2 ^ 62 := by
  obtain ⟨w1, w2, w3, w4, w5, w6⟩ := wh_b hP
  unfold lU
  omega
theorem lU_lt {P : Nat → Nat} (hP : rP P) {s t x y : Nat} (hx : x ≤ sc P) (hy : y ≤ sc P) : lU P s x < lU P t y ↔ hX_ P t y < hX_ P s x := by
  have h1 := hX_o hP s hx
  have h2 := hX_o hP t hy
  have ho := hP.2.2.2.2.2.1
  unfold lU
  constructor
  · intro h
    refine Nat.lt_of_not_le (fun z => ?_)
    have := Nat.mul_le_mul_right (1000 - P 16) z
    omega
  · intro h
    have := Nat.mul_lt_mul_of_pos_right h (show 0 < 1000 - P 16 by omega)
    omega
theorem mbest {P : Nat → Nat} {v : MX} (hP : rP P) (hM : mHd P v) {law : Nat} (hl : law < 14641) {k : Nat} (hk : 20 ≤ k) : ∃ h, fX10_bestOf k (nI law) v = some (nI (bestV P law), ms_lw v h) := by
  unfold fX10_bestOf
  obtain ⟨h0, e0, _⟩ := mlost hP hM hl (s := 0) (by omega) hk
  rw [show (0 : Int32) = nI 0 from rfl, e0, zbind_s]
  dsimp only
  have key : ∃ b, ziter (bX10_bestOf_12 k (nI law)) k (nI 0, lN (lU P 0 (xS P law 0)), (1 : Int32), ms_lw v h0) = some b ∧ ∃ h, b = (nI (bestV P law), ms_lw v h) := by
    refine ziter_inv (fun i a => ∃ h, a = (nI (amx (okS P) (fun s => hX_ P s (xS P law s)) (i + 1)), lN (lU P (amx (okS P) (fun s => hX_ P s (xS P law s)) (i + 1)) (xS P law (amx (okS P) (fun s => hX_ P s (xS P law s)) (i + 1)))), nI (i + 1), ms_lw v h)) _ 15 ?_ ?_ 15 0 k _ (by omega) ⟨h0, ?_⟩ (by omega)
    · rintro i a hi ⟨h, rfl⟩
      left
      have hM' : mHd P (ms_lw v h) := hM
      have hlt := amx_lt (okS P) (fun s => hX_ P s (xS P law s)) (i + 1)
      unfold bX10_bestOf_12
      dsimp only
      obtain ⟨h1, e1, _⟩ := mlost hP hM' hl (s := i + 1) (by omega) hk
      have hM'' : mHd P (ms_lw (ms_lw v h) h1) := hM
      obtain ⟨h2, e2, _⟩ := mlost hP hM'' hl (s := i + 1) (by omega) hk
      rw [if_neg (by rw [show (16 : Int32) = nI 16 from rfl, nI_leI (by omega) (by omega)]; omega), mwithin hP hM' (by omega) hk, bI_bind, e1, zbind_s]
      dsimp only
      rw [e2, zbind_s, nI_1]
      have hs : amx (okS P) (fun s => hX_ P s (xS P law s)) (i + 1 + 1) = if okS P (i + 1) = true ∧ hX_ P (amx (okS P) (fun s => hX_ P s (xS P law s)) (i + 1)) (xS P law (amx (okS P) (fun s => hX_ P s (xS P law s)) (i + 1))) < hX_ P (i + 1) (xS P law (i + 1)) then i + 1 else amx (okS P) (fun s => hX_ P s (xS P law s)) (i + 1) := rfl
      have hcmp := lU_lt hP (s := i + 1) (t := amx (okS P) (fun s => hX_ P s (xS P law s)) (i + 1)) (xS_le hP law (i + 1)) (xS_le hP law (amx (okS P) (fun s => hX_ P s (xS P law s)) (i + 1)))
      have b1 := lU_b hP (i + 1) (xS P law (i + 1))
      have b2 := lU_b hP (amx (okS P) (fun s => hX_ P s (xS P law s)) (i + 1)) (xS P law (amx (okS P) (fun s => hX_ P s (xS P law s)) (i + 1)))
      by_cases c : okS P (i + 1) = true
      · rw [if_pos c]
        by_cases d : hX_ P (amx (okS P) (fun s => hX_ P s (xS P law s)) (i + 1)) (xS P law (amx (okS P) (fun s => hX_ P s (xS P law s)) (i + 1))) < hX_ P (i + 1) (xS P law (i + 1))
        · rw [if_pos ⟨c, d⟩] at hs
          rw [if_neg (by rw [pk_lLE (by omega) (by omega)]; have := hcmp.mpr d; omega)]
          exact ⟨_, rfl, h2, by rw [hs]; rfl⟩
        · rw [if_neg (fun z => d z.2)] at hs
          rw [if_pos (by rw [pk_lLE (by omega) (by omega)]; have : ¬ _ := fun z => d (hcmp.mp z); omega)]
          exact ⟨_, rfl, h1, by rw [hs]; rfl⟩
      · rw [if_neg c]
        rw [if_neg (fun z => c z.1)] at hs
        exact ⟨_, rfl, h, by rw [hs]⟩
    · rintro a ⟨h, rfl⟩
      exact ⟨_, rfl, h, rfl⟩
    · have e : amx (okS P) (fun s => hX_ P s (xS P law s)) (0 + 1) = 0 := by
        show (if _ then 0 else 0) = 0
        split <;> rfl
      rw [e]
      rfl
  obtain ⟨b, e, h, rfl⟩ := key
  rw [e, zbind_s]
  exact ⟨h, rfl⟩
theorem s_best {u : CX} {v : MX} (h : Rel u v) {k : Nat} (hk : 20 ≤ k) (a : Int32) : ∃ r u' v', fX9_best k a u = some (r, u') ∧ fX10_best k a v = some (r, v') ∧ Rel u' v' := by
  have h0 := h
  obtain ⟨P, n, T, W, S, F, h1, h2, h3, h4, h5, h6, hT, hl, hM, h7⟩ := h
  unfold fX9_best fX10_best
  rw [xlIf, mlIf]
  split
  · rename_i hc
    obtain ⟨l, hl', rfl⟩ := zn_of (a := a) (n := 14641) (by omega) (by omega)
    obtain ⟨f, e1⟩ := xbestFor h1 hT hl hl' hk
    obtain ⟨g, e2⟩ := mbest h1 hM hl' hk
    rw [e1, e2]
    exact ⟨_, _, _, rfl, rfl, P, n, T, W, S, F, h1, h2, h3, h4, h5, h6, hT, hl, hM, h7⟩
  · exact ⟨_, _, _, rfl, rfl, h0⟩
theorem s_lost {u : CX} {v : MX} (h : Rel u v) {k : Nat} (hk : 200 ≤ k) (a b c : Int32) : ∃ r u' v', fX9_lost k a b c u = some (r, u') ∧ fX10_lost k a b c v = some (r, v') ∧ Rel u' v' := by
  have h0 := h
  obtain ⟨P, n, T, W, S, F, h1, h2, h3, h4, h5, h6, hT, hl, hM, h7⟩ := h
  unfold fX9_lost fX10_lost
  rw [xlIf, mlIf]
  split
  · rename_i hc
    obtain ⟨l, hl', rfl⟩ := zn_of (a := a) (n := 14641) (by omega) (by omega)
    by_cases hb : 0 ≤ b.toInt ∧ b.toInt < 16
    · obtain ⟨s, hs, rfl⟩ := zn_of (a := b) (n := 16) (by omega) (by omega)
      have ell : xg_light u s = bI (okS P s) := hl.1 s hs
      rw [if_neg (nI_pos (by omega)), if_neg (by rw [show (16 : Int32) = nI 16 from rfl, nI_leI (by omega) (by omega)]; omega), mwithin h1 hM hs (by omega), bI_bind, zget_n hs (by omega), ell, bI_if, xsIf, inIf, Int32.toInt_toInt64, show (0 : Int64).toInt = 0 from rfl, show (1 : Int64).toInt = 1 from rfl]
      by_cases ho : okS P s = true
      · rw [if_pos ho, if_pos ho]
        by_cases hd : 0 ≤ c.toInt ∧ c.toInt < 2
        · rw [if_pos hd, if_pos (by omega), zb_e]
          obtain ⟨f, e1⟩ := xhomesBy h1 hT hl hl' hs (k := k) (by omega)
          obtain ⟨g, e2, hL⟩ := mlost h1 hM hl' hs (k := k) (by omega)
          have hT' : xTm P (xs_stands u f) := hT
          obtain ⟨w1, w2, w3, w4, w5, w6⟩ := wh_b h1
          have hle := hX_o h1 s (xS_le h1 l s)
          rw [e1, zbind_s, e2, zbind_s]
          dsimp only
          rw [xnot h1 hT', zbind_s, mwhole hL (by omega), zbind_s, hT.2.2.2.2.2, show (100 : Int64) = lN 100 from rfl, lN_mul, lN_mul, lN_sub hle]
          obtain ⟨r, r1, r2⟩ := s_low (a := lU P s (xS P l s)) (b := 100 * wh P) (by have := lU_b h1 s (xS P l s); omega) (by omega) (by omega) c hk
          rw [show 100 * wh P - hX_ P s (xS P l s) * (1000 - P 16) = lU P s (xS P l s) from rfl, r1, r2]
          exact ⟨_, _, _, rfl, rfl, P, n, T, W, S, F, h1, h2, h3, h4, h5, h6, hT, hl, hM, h7⟩
        · rw [if_neg hd, if_neg (by omega)]
          exact ⟨_, _, _, rfl, rfl, h0⟩
      · rw [if_neg ho, if_neg ho]
        refine ⟨-1, u, v, ?_, rfl, h0⟩
        split <;> rfl
    · have hw : fX10_isWithin k b v = some 0 := by
        unfold fX10_isWithin
        rw [inIf, Int32.toInt_toInt64, show (0 : Int64).toInt = 0 from rfl, show (15 : Int64).toInt = 15 from rfl, if_neg (by omega)]
      rw [hw]
      refine ⟨-1, u, v, ?_, rfl, h0⟩
      by_cases q : b < 0
      · rw [if_pos q]
      · rw [if_neg q, if_pos]
        rw [Int32.le_iff_toInt_le, show (16 : Int32).toInt = 16 from rfl]
        rw [Int32.lt_iff_toInt_lt, show (0 : Int32).toInt = 0 from rfl] at q
        omega
  · exact ⟨_, _, _, rfl, rfl, h0⟩
