def ms_lw (v : MX) (h : (Nat → Int32) × Int64 × Int64 × Int64) : MX := (v.1, v.2.1, v.2.2.1, v.2.2.2.1, v.2.2.2.2.1, h, v.2.2.2.2.2.2)
theorem ms_lw2 (v : MX) (h h' : (Nat → Int32) × Int64 × Int64 × Int64) : ms_lw (ms_lw v h) h' = ms_lw v h' := rfl
/-- the law that is laid -/
def mLw (P : Nat → Nat) (law : Nat) (v : MX) : Prop := (∀ p, p < 4 → mg_falls v p = nI (fg law p)) ∧ mg_x v = lN (xx P law) ∧ mg_all v = lN (sc P) ∧ mg_hits v = lN (sH P)
theorem mlay {P : Nat → Nat} {v : MX} (hP : rP P) (hM : mHd P v) {law : Nat} (hl : law < 14641) {k : Nat} (hk : 20 ≤ k) : ∃ h, fX10_layLaw k (nI law) v = some (ms_lw v h) ∧ mLw P law (ms_lw v h) := by
  unfold fX10_layLaw
  simp only [zb_e]
  have b0 : P 12 ≤ 99 := hP.2.2.2.1 0 (by omega)
  have b1 : P 13 ≤ 99 := hP.2.2.2.1 1 (by omega)
  have b2 : P 14 ≤ 99 := hP.2.2.2.1 2 (by omega)
  have b3 : P 15 ≤ 99 := hP.2.2.2.1 3 (by omega)
  have st : ∀ (L p X A : Nat) (fl : Nat → Int32) (h : Int64), L < 14641 → p < 4 → bX10_layLaw_14 k (nI L, nI p, ms_lw v (fl, lN X, lN A, h)) = some (.inl (nI (L / 11), nI p + (-1), ms_lw v (upd fl p (nI (L % 11)), lN (X + P p * (10 - L % 11)), lN (A + 10 * P p), h))) := by
    intro L p X A fl h hL hp
    have hp20 := (hP.1 p hp).2
    have er : zremI (nI L) (11 : Int32) = nI (L % 11) := pk_rem (a := L) (d := 11) (by omega) (by omega) (by omega)
    have ed : nI L / (11 : Int32) = nI (L / 11) := pk_div (a := L) (d := 11) (by omega) (by omega) (by omega)
    unfold bX10_layLaw_14
    dsimp only
    rw [if_neg (nI_pos (by omega)), zdi_n (by decide), zix_n hp (by omega), zb_e, zdi_n (by decide), zb_e, er, ed]
    have eh : mg_holds (ms_falls (ms_lw v (fl, lN X, lN A, h)) (upd (mg_falls (ms_lw v (fl, lN X, lN A, h))) p (nI (L % 11)))) p = nI (P p) := hM p (by omega)
    rw [zget_n (by omega) (by omega), eh, zget_n hp (by omega)]
    have ef : mg_falls (ms_falls (ms_lw v (fl, lN X, lN A, h)) (upd (mg_falls (ms_lw v (fl, lN X, lN A, h))) p (nI (L % 11)))) p = nI (L % 11) := upd_s
    rw [ef, zb_e, zget_n (by omega) (by omega), zb_e, show (10 : Int32) = nI 10 from rfl, pk_sub (by omega), pk_mul, nI_l (by have := mul_b hp20 (show 10 - L % 11 ≤ 10 by omega); omega)]
    have eh2 : mg_holds (ms_x (ms_falls (ms_lw v (fl, lN X, lN A, h)) (upd (mg_falls (ms_lw v (fl, lN X, lN A, h))) p (nI (L % 11)))) (mg_x (ms_falls (ms_lw v (fl, lN X, lN A, h)) (upd (mg_falls (ms_lw v (fl, lN X, lN A, h))) p (nI (L % 11)))) + lN (P p * (10 - L % 11)))) p = nI (P p) := hM p (by omega)
    rw [eh2, nI_l (by omega), show (10 : Int64) = lN 10 from rfl, lN_mul]
    have ex : ∀ (X' A' : Int64), some (Sum.inl (nI (L / 11), nI p + (-1), ms_all (ms_x (ms_falls (ms_lw v (fl, lN X, lN A, h)) (upd (mg_falls (ms_lw v (fl, lN X, lN A, h))) p (nI (L % 11)))) X') A')) = (some (Sum.inl (nI (L / 11), nI p + (-1), ms_lw v (upd fl p (nI (L % 11)), X', A', h))) : Option ((Int32 × Int32 × MX) ⊕ MX)) := fun _ _ => rfl
    rw [ex]
    show some (Sum.inl (nI (L / 11), nI p + (-1), ms_lw v (upd fl p (nI (L % 11)), lN X + lN (P p * (10 - L % 11)), lN A + lN (10 * P p), h))) = _
    rw [lN_add, lN_add]
  have exE : ∀ (L : Int32) (w : MX), bX10_layLaw_14 k (L, nI 0 + (-1), w) = some (.inr w) := by
    intro L w
    unfold bX10_layLaw_14
    rfl
  have hit : ziter (bX10_layLaw_14 k) k (nI law, (3 : Int32), ms_all (ms_x v (0 : Int64)) (0 : Int64)) = some (ms_lw v (upd (upd (upd (upd (mg_falls v) 3 (nI (law % 11))) 2 (nI (law / 11 % 11))) 1 (nI (law / 11 / 11 % 11))) 0 (nI (law / 11 / 11 / 11 % 11)), lN (0 + P 3 * (10 - law % 11) + P 2 * (10 - law / 11 % 11) + P 1 * (10 - law / 11 / 11 % 11) + P 0 * (10 - law / 11 / 11 / 11 % 11)), lN (0 + 10 * P 3 + 10 * P 2 + 10 * P 1 + 10 * P 0), mg_hits v)) := by
    have s0 : (nI law, (3 : Int32), ms_all (ms_x v (0 : Int64)) (0 : Int64)) = (nI law, nI 3, ms_lw v (mg_falls v, lN 0, lN 0, mg_hits v)) := rfl
    rw [s0]
    generalize bX10_layLaw_14 k = f at st exE
    obtain ⟨k', rfl⟩ : ∃ k', k = k' + 1 + 1 + 1 + 1 + 1 := ⟨k - 5, by omega⟩
    have m1 : ∀ p, nI (p + 1) + (-1) = nI p := pk_m1
    rw [ziter_l (st law 3 0 0 _ _ hl (by omega)), m1 2, ziter_l (st _ 2 _ _ _ _ (by omega) (by omega)), m1 1, ziter_l (st _ 1 _ _ _ _ (by omega) (by omega)), m1 0, ziter_l (st _ 0 _ _ _ _ (by omega) (by omega)), ziter_r (exE _ _)]
  rw [hit, zbind_s]
  generalize hfl : upd (upd (upd (upd (mg_falls v) 3 (nI (law % 11))) 2 (nI (law / 11 % 11))) 1 (nI (law / 11 / 11 % 11))) 0 (nI (law / 11 / 11 / 11 % 11)) = fl
  generalize hX : lN (0 + P 3 * (10 - law % 11) + P 2 * (10 - law / 11 % 11) + P 1 * (10 - law / 11 / 11 % 11) + P 0 * (10 - law / 11 / 11 / 11 % 11)) = X
  generalize hA : lN (0 + 10 * P 3 + 10 * P 2 + 10 * P 1 + 10 * P 0) = A
  have eh : ∀ j, j < 19 → mg_holds (ms_lw v (fl, X, A, mg_hits v)) j = nI (P j) := hM
  rw [show (12 : Int32) = nI 12 from rfl, show (13 : Int32) = nI 13 from rfl, show (14 : Int32) = nI 14 from rfl, show (15 : Int32) = nI 15 from rfl, zget_n (by omega) (by omega), zget_n (by omega) (by omega), zget_n (by omega) (by omega), zget_n (by omega) (by omega), eh 12 (by omega), eh 13 (by omega), eh 14 (by omega), eh 15 (by omega), nI_add, nI_add, nI_add, nI_l (by omega)]
  refine ⟨(fl, X, A, lN (P 12 + P 13 + P 14 + P 15)), rfl, ?_, ?_, ?_, rfl⟩
  · intro p hp
    show fl p = _
    rw [← hfl]
    have d2 : law / 11 / 11 = law / 121 := by rw [Nat.div_div_eq_div_mul]
    have d3 : law / 121 / 11 = law / 1331 := by rw [Nat.div_div_eq_div_mul]
    match p, hp with
    | 0, _ =>
      rw [upd_s, d2, d3, Nat.mod_eq_of_lt (by omega)]; rfl
    | 1, _ =>
      rw [upd_n (by omega), upd_s, d2]; rfl
    | 2, _ =>
      rw [upd_n (by omega), upd_n (by omega), upd_s]; rfl
    | 3, _ =>
      rw [upd_n (by omega), upd_n (by omega), upd_n (by omega), upd_s]; rfl
  · show X = _
    rw [← hX]
    have d2 : law / 11 / 11 = law / 121 := by rw [Nat.div_div_eq_div_mul]
    have d3 : law / 121 / 11 = law / 1331 := by rw [Nat.div_div_eq_div_mul]
    have d0 : law / 1331 % 11 = law / 1331 := Nat.mod_eq_of_lt (by omega)
    rw [d2, d3, d0]
    congr 1
    show _ = P 0 * (10 - law / 1331) + P 1 * (10 - law / 121 % 11) + P 2 * (10 - law / 11 % 11) + P 3 * (10 - law % 11)
    omega
  · show A = _
    rw [← hA]
    congr 1
    unfold sc sA
    omega
theorem mpower {a n : Nat} (hn : n ≤ 3) {k : Nat} (hk : 20 ≤ k) : fX10_power k (lN a) (nI n) = some (lN (a ^ n)) := by
  unfold fX10_power
  rw [show (((1 : Int64), (0 : Int32)) : Int64 × Int32) = (fun i => (lN (a ^ i), nI i)) 0 from rfl, ziter_st (fun i => (lN (a ^ i), nI i)) (lN (a ^ n)) n 0 k ?_ ?_ (by omega), zbind_s]
  · intro j _ hj
    unfold bX10_power_5
    dsimp only
    rw [if_neg (by rw [nI_leI (by omega) (by omega)]; omega), zb_e, lN_mul, nI_1, Nat.pow_succ]
  · unfold bX10_power_5
    dsimp only
    rw [Nat.zero_add, if_pos (by rw [nI_leI (by omega) (by omega)]; omega)]
theorem mwhole {P : Nat → Nat} {law : Nat} {v : MX} (hL : mLw P law v) {k : Nat} (hk : 20 ≤ k) : fX10_whole k v = some (lN (wh P)) := by
  unfold fX10_whole
  rw [hL.2.2.1, hL.2.2.2, show (3 : Int32) = nI 3 from rfl, mpower (by omega) hk, zbind_s, lN_mul, show (1000 : Int64) = lN 1000 from rfl, lN_mul]
  refine congrArg (fun z => some (lN z)) ?_
  unfold wh
  grind
theorem mshareUp {P : Nat → Nat} {law : Nat} {v : MX} (hP : rP P) (hM : mHd P v) (hL : mLw P law v) {n : Nat} (hn : n < 4) {k : Nat} (hk : 20 ≤ k) : fX10_shareUp k (nI n) v = some (lN (shU P n (xx P law))) := by
  unfold fX10_shareUp
  have hb := hP.2.2.2.1 n hn
  have ho := hP.2.2.2.2.2.1
  rw [show (12 : Int32) = nI 12 from rfl, nI_add, zget_n (by omega) (by omega), hM _ (by omega), hL.2.1, hL.2.2.1, mpower (by omega) hk, zbind_s, show (3 : Int32) = nI 3 from rfl, pk_sub (by omega), mpower (by omega) hk, zbind_s, show (16 : Int32) = nI 16 from rfl, zget_n (by omega) (by omega), hM _ (by omega), nI_l (by omega), nI_l (by omega), show (1000 : Int64) = lN 1000 from rfl, lN_sub (by omega)]
  simp only [lN_mul]
  congr 2
  unfold shU
  grind
theorem mholesUp {P : Nat → Nat} {law : Nat} {v : MX} (hP : rP P) (hM : mHd P v) (hlaw : law < 14641) (hL : mLw P law v) {p : Nat} (hp : p < 4) {k : Nat} (hk : 20 ≤ k) : fX10_holesUp k (nI p) v = some (lN (hoU P p (fg law p) (xx P law))) := by
  unfold fX10_holesUp
  have ho := hP.2.2.2.2.2.1
  have hp20 := (hP.1 p hp).2
  have hfl := fg_le (p := p) hlaw
  have st : ∀ (c n : Nat), 1 ≤ n → n ≤ 3 → bX10_holesUp_5 k (nI p) v (lN c, nI n) = some (.inl (lN (c + P (12 + n) * n * P p * (10 - fg law p) * (xx P law) ^ (n - 1) * (sc P) ^ (3 - n)), nI (n + 1))) := by
    intro c n h1 h3
    have hb := hP.2.2.2.1 n (by omega)
    unfold bX10_holesUp_5
    dsimp only
    rw [if_neg (by rw [show (3 : Int32) = nI 3 from rfl, nI_ltI (by omega) (by omega)]; omega), show (12 : Int32) = nI 12 from rfl, nI_add, zget_n (by omega) (by omega), hM _ (by omega), zget_n (by omega) (by omega), hM _ (by omega), zget_n hp (by omega), hL.1 p hp, hL.2.1, hL.2.2.1, show (1 : Int32) = nI 1 from rfl, pk_sub h1, mpower (by omega) hk, zbind_s, show (3 : Int32) = nI 3 from rfl, pk_sub h3, mpower (by omega) hk, zbind_s, zb_e, show (10 : Int32) = nI 10 from rfl, pk_sub hfl, nI_l (by omega), nI_l (by omega), nI_l (by omega), nI_l (by omega), nI_add]
    simp only [lN_mul, lN_add]
  have ex : ∀ c : Int64, bX10_holesUp_5 k (nI p) v (c, nI 4) = some (.inr c) := fun c => rfl
  generalize bX10_holesUp_5 k (nI p) v = f at st ex
  obtain ⟨k', rfl⟩ : ∃ k', k = k' + 1 + 1 + 1 + 1 := ⟨k - 4, by omega⟩
  rw [show (((0 : Int64), (1 : Int32)) : Int64 × Int32) = (lN 0, nI 1) from rfl, ziter_l (st 0 1 (by omega) (by omega)), ziter_l (st _ 2 (by omega) (by omega)), ziter_l (st _ 3 (by omega) (by omega)), ziter_r (ex _), zbind_s, show (16 : Int32) = nI 16 from rfl, zget_n (by omega) (by omega), hM _ (by omega), nI_l (by omega), show (1000 : Int64) = lN 1000 from rfl, lN_sub (by omega), lN_mul]
  congr 2
  unfold hoU hoR
  simp
  grind
