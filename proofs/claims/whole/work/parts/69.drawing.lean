/-! drawing, wrong -/
def pc4 (s : Nat) : Nat := bt1 s 0 + bt1 s 1 + bt1 s 2 + bt1 s 3
theorem or_i : ∀ s, s < 16 → ∀ p, p < 4 → nI s ||| nI (2 ^ p) = nI (s ||| 2 ^ p) := by decide
theorem or_n : ∀ s, s < 16 → ∀ p, p < 4 → s ||| 2 ^ p < 16 ∧ (bt1 s p = 0 → pc4 (s ||| 2 ^ p) = pc4 s + 1) := by decide
/-- the part with the most holes by area among those not seen -/
def pkD (P K : Nat → Nat) (s : Nat) : Nat → Option Nat
  | 0 => none
  | p + 1 => if bt1 s p = 0 then (match pkD P K s p with
    | none => some p
    | some q => if K (5 + p) * P q ≤ K (5 + q) * P p then some q else some p) else pkD P K s p
theorem pkD_in (P K : Nat → Nat) (s : Nat) : ∀ i, (pkD P K s i = none → ∀ p, p < i → bt1 s p = 1) ∧ ∀ q, pkD P K s i = some q → q < i ∧ bt1 s q = 0 := by
  intro i
  induction i with
  | zero => exact ⟨fun _ p hp => by omega, fun q hq => absurd hq (by show ¬ none = some q; exact fun z => by cases z)⟩
  | succ i ih =>
    have e : pkD P K s (i + 1) = if bt1 s i = 0 then (match pkD P K s i with
      | none => some i
      | some q => if K (5 + i) * P q ≤ K (5 + q) * P i then some q else some i) else pkD P K s i := rfl
    have hb := bt_le s i
    by_cases c : bt1 s i = 0
    · rw [if_pos c] at e
      cases d : pkD P K s i with
      | none =>
        rw [d] at e
        dsimp only at e
        rw [e]
        exact ⟨fun z => (by cases z), fun q hq => by cases hq; exact ⟨by omega, c⟩⟩
      | some q =>
        rw [d] at e
        dsimp only at e
        have := ih.2 q d
        rw [e]
        split
        · exact ⟨fun z => (by cases z), fun q' hq => by cases hq; exact ⟨by omega, this.2⟩⟩
        · exact ⟨fun z => (by cases z), fun q' hq => by cases hq; exact ⟨by omega, c⟩⟩
    · rw [if_neg c] at e
      rw [e]
      refine ⟨fun z p hp => ?_, fun q hq => ⟨by have := (ih.2 q hq).1; omega, (ih.2 q hq).2⟩⟩
      by_cases h : p = i
      · subst h
        omega
      · exact ih.1 z p (by omega)
theorem pkD_s (P K : Nat → Nat) {s : Nat} (h : pc4 s < 4) : ∃ q, pkD P K s 4 = some q ∧ q < 4 ∧ bt1 s q = 0 := by
  cases d : pkD P K s 4 with
  | none =>
    have := (pkD_in P K s 4).1 d
    have e : pc4 s = bt1 s 0 + bt1 s 1 + bt1 s 2 + bt1 s 3 := rfl
    have a0 := this 0 (by omega)
    have a1 := this 1 (by omega)
    have a2 := this 2 (by omega)
    have a3 := this 3 (by omega)
    omega
  | some q => exact ⟨q, rfl, (pkD_in P K s 4).2 q d⟩
def enc (z : Int32) (c : Option Nat) : Int32 := match c with
  | none => z
  | some q => nI q
theorem xpkD {P : Nat → Nat} {n : Nat} {T : Nat → Nat → Nat} {u : CX} (hP : rP P) (hK : rK (T n)) (hT : xTm P u) (hx : xHm n T u) {s q : Nat} (hs : s < 16) (hq : pkD P (T n) s 4 = some q) (hq4 : q < 4) {k : Nat} (hk : 20 ≤ k) : fX4_mostHoles k (nI s) u = some (nI q) := by
  obtain ⟨k1, k2, k3⟩ := K_b hK
  unfold fX4_mostHoles
  have st : ∀ i, i < 4 → bX4_mostHoles_5 k (nI s) u (enc (-1) (pkD P (T n) s i), nI i) = some (.inl (enc (-1) (pkD P (T n) s (i + 1)), nI (i + 1))) := by
    intro i hi
    have e : pkD P (T n) s (i + 1) = if bt1 s i = 0 then (match pkD P (T n) s i with
      | none => some i
      | some q => if T n (5 + i) * P q ≤ T n (5 + q) * P i then some q else some i) else pkD P (T n) s i := rfl
    have hb := bt_le s i
    unfold bX4_mostHoles_5
    dsimp only
    rw [if_neg (by rw [show (4 : Int32) = nI 4 from rfl, nI_leI (by omega) (by omega)]; omega), bt_i s hs i hi, nI_1]
    by_cases c : bt1 s i = 0
    · rw [if_pos c] at e
      rw [c, if_pos (show nI 0 = 0 from rfl)]
      cases d : pkD P (T n) s i with
      | none =>
        rw [d] at e
        rw [e]
        rfl
      | some q' =>
        rw [d] at e
        dsimp only at e
        obtain ⟨hq', _⟩ := (pkD_in P (T n) s i).2 q' d
        have p1 := mul_b (k3 i hi) (hP.1 q' (by omega)).2
        have p2 := mul_b (k3 q' (by omega)) (hP.1 i hi).2
        show (if nI q' < 0 then _ else _) = _
        rw [if_neg (nI_pos (by omega)), show enc (-1) (some q') = nI q' from rfl, xinP hx hi, zbind_s, zget_n (by omega) (by omega), hT.1 q' (by omega), xinP hx (by omega), zbind_s, zget_n (by omega) (by omega), hT.1 i (by omega), pk_mul, pk_mul, e]
        by_cases f : T n (5 + i) * P q' ≤ T n (5 + q') * P i
        · rw [if_pos (by rw [nI_leI (by omega) (by omega)]; exact f), if_pos f]
          rfl
        · rw [if_neg (by rw [nI_leI (by omega) (by omega)]; exact f), if_neg f]
          rfl
    · rw [if_neg c] at e
      rw [if_neg (by rw [show (0 : Int32) = nI 0 from rfl, nI_eq (by omega) (by omega)]; exact c), e]
  have ex : ∀ c, bX4_mostHoles_5 k (nI s) u (c, nI 4) = some (.inr c) := fun c => rfl
  generalize bX4_mostHoles_5 k (nI s) u = f at st ex
  obtain ⟨k', rfl⟩ : ∃ k', k = k' + 1 + 1 + 1 + 1 + 1 := ⟨k - 5, by omega⟩
  rw [show (((-1 : Int32), (0 : Int32)) : Int32 × Int32) = (enc (-1) (pkD P (T n) s 0), nI 0) from rfl, ziter_l (st 0 (by omega)), ziter_l (st 1 (by omega)), ziter_l (st 2 (by omega)), ziter_l (st 3 (by omega)), ziter_r (ex _), zbind_s, hq]
  show some (zmaxI (nI q) 0) = _
  unfold zmaxI
  rw [if_neg (nI_pos (by omega))]
theorem mpkD {P : Nat → Nat} {n : Nat} {T : Nat → Nat → Nat} {v : MX} (hP : rP P) (hK : rK (T n)) (hM : mHd P v) (hm : mHm n T v) {s q : Nat} (hs : s < 16) (hq : pkD P (T n) s 4 = some q) (a2 a3 : Int32) {k : Nat} (hk : 20 ≤ k) : ziter (bX10_drawing_18 k (nI s) a2 a3 v) k ((-4 : Int32), (0 : Int32)) = some (nI q) := by
  obtain ⟨k1, k2, k3⟩ := K_b hK
  have st : ∀ i, i < 4 → bX10_drawing_18 k (nI s) a2 a3 v (enc (-4) (pkD P (T n) s i), nI i) = some (.inl (enc (-4) (pkD P (T n) s (i + 1)), nI (i + 1))) := by
    intro i hi
    have e : pkD P (T n) s (i + 1) = if bt1 s i = 0 then (match pkD P (T n) s i with
      | none => some i
      | some q => if T n (5 + i) * P q ≤ T n (5 + q) * P i then some q else some i) else pkD P (T n) s i := rfl
    have hb := bt_le s i
    unfold bX10_drawing_18
    dsimp only
    rw [if_neg (by rw [show (4 : Int32) = nI 4 from rfl, nI_leI (by omega) (by omega)]; omega), bt_i s hs i hi, nI_1, if_neg (show ¬ (1 : Int32) = 0 by decide), if_pos (show (0 : Int32) = 0 from rfl)]
    by_cases c : bt1 s i = 0
    · rw [if_pos c] at e
      rw [c, if_pos (show nI 0 = 0 from rfl)]
      cases d : pkD P (T n) s i with
      | none =>
        rw [d] at e
        rw [e]
        rfl
      | some q' =>
        rw [d] at e
        dsimp only at e
        obtain ⟨hq', _⟩ := (pkD_in P (T n) s i).2 q' d
        have p1 := mul_b (k3 i hi) (hP.1 q' (by omega)).2
        have p2 := mul_b (k3 q' (by omega)) (hP.1 i hi).2
        rw [show enc (-4) (some q') = nI q' from rfl, if_neg (nI_ne_neg (l := q') (by omega) (by decide)), show (5 : Int32) = nI 5 from rfl, nI_add, nI_add, zget_n (by omega) (by omega), hm.1 _ (by omega), zget_n (by omega) (by omega), hM q' (by omega), zget_n (by omega) (by omega), hm.1 _ (by omega), zget_n (by omega) (by omega), hM i (by omega), pk_mul, pk_mul, e, if_pos (show nI 0 = 0 from rfl)]
        by_cases f : T n (5 + i) * P q' ≤ T n (5 + q') * P i
        · rw [if_pos (by rw [nI_leI (by omega) (by omega)]; exact f), if_pos f]
          rfl
        · rw [if_neg (by rw [nI_leI (by omega) (by omega)]; exact f), if_neg f]
          rfl
    · rw [if_neg c] at e
      have hz : ¬ nI (bt1 s i) = 0 := by rw [show (0 : Int32) = nI 0 from rfl, nI_eq (by omega) (by omega)]; exact c
      rw [if_neg hz, e]
      cases d : pkD P (T n) s i with
      | none => rfl
      | some q' =>
        obtain ⟨hq', _⟩ := (pkD_in P (T n) s i).2 q' d
        rw [show enc (-4) (some q') = nI q' from rfl, if_neg (nI_ne_neg (l := q') (by omega) (by decide)), show (5 : Int32) = nI 5 from rfl, nI_add, nI_add, zget_n (by omega) (by omega), zget_n (by omega) (by omega), zget_n (by omega) (by omega), zget_n (by omega) (by omega)]
        split <;> rfl
  have ex : ∀ c, bX10_drawing_18 k (nI s) a2 a3 v (c, nI 4) = some (.inr c) := fun c => rfl
  generalize bX10_drawing_18 k (nI s) a2 a3 v = f at st ex
  obtain ⟨k', rfl⟩ : ∃ k', k = k' + 1 + 1 + 1 + 1 + 1 := ⟨k - 5, by omega⟩
  rw [show (((-4 : Int32), (0 : Int32)) : Int32 × Int32) = (enc (-4) (pkD P (T n) s 0), nI 0) from rfl, ziter_l (st 0 (by omega)), ziter_l (st 1 (by omega)), ziter_l (st 2 (by omega)), ziter_l (st 3 (by omega)), ziter_r (ex _), hq]
  rfl
theorem two_drawn {P : Nat → Nat} {n : Nat} {T : Nat → Nat → Nat} {u : CX} {v : MX} (hP : rP P) (hK : rK (T n)) (hT : xTm P u) (hl : xPl P u) (hx : xHm n T u) (hM : mHd P v) (hm : mHm n T v) {k : Nat} (hk : 20 ≤ k) : ∃ r, r < 16 ∧ fX4_drawnFrom k u = some (nI r) ∧ fX10_drawing k v = some (nI r) := by
  have step : ∀ s t i, s < 16 → t < 16 → pc4 s = i → i < 4 → ∃ s' t', s' < 16 ∧ t' < 16 ∧ pc4 s' = i + 1 ∧ bX4_drawnFrom_7 k u (nI s, nI t, nI i) = some (.inl (nI s', nI t', nI (i + 1))) ∧ bX10_drawing_6 k v (nI s, nI t, nI i) = some (.inl (nI s', nI t', nI (i + 1))) := by
    intro s t i hs ht hpc hi
    obtain ⟨q, d1, d2, d3⟩ := pkD_s P (T n) (s := s) (by omega)
    obtain ⟨o1, o2⟩ := or_n s hs q d2
    obtain ⟨o3, _⟩ := or_n t ht q d2
    unfold bX4_drawnFrom_7 bX10_drawing_6
    dsimp only
    have ell : xg_light u (t ||| 2 ^ q) = bI (okS P (t ||| 2 ^ q)) := hl.1 _ o3
    rw [if_neg (by rw [show (4 : Int32) = nI 4 from rfl, nI_leI (by omega) (by omega)]; omega), xpkD hP hK hT hx hs d1 d2 hk, zbind_s, mpkD hP hK hM hm hs d1 _ _ hk, zbind_s, sh_i q d2, or_i s hs q d2, or_i t ht q d2, zb_e, zb_e, zget_n o3 (by omega), ell, bI_if, zb_e, zb_e, mwithin hP hM o3 hk, bI_bind, nI_1]
    by_cases c : okS P (t ||| 2 ^ q) = true
    · rw [if_pos c, if_neg (by rw [show (4 : Int32) = nI 4 from rfl, nI_leI (by omega) (by omega)]; omega)]
      exact ⟨_, _, o1, o3, by rw [o2 d3, hpc], rfl, rfl⟩
    · rw [if_neg c, if_neg (by rw [show (4 : Int32) = nI 4 from rfl, nI_leI (by omega) (by omega)]; omega)]
      exact ⟨_, _, o1, ht, by rw [o2 d3, hpc], rfl, rfl⟩
  have ex : ∀ a b, bX4_drawnFrom_7 k u (a, b, nI 4) = some (.inr b) := fun _ _ => rfl
  have ey : ∀ a b, bX10_drawing_6 k v (a, b, nI 4) = some (.inr b) := fun _ _ => rfl
  unfold fX4_drawnFrom fX10_drawing
  obtain ⟨s1, t1, a1, a2, a3, a4, a5⟩ := step 0 0 0 (by omega) (by omega) rfl (by omega)
  obtain ⟨s2, t2, b1, b2, b3, b4, b5⟩ := step s1 t1 1 a1 a2 a3 (by omega)
  obtain ⟨s3, t3, c1, c2, c3, c4, c5⟩ := step s2 t2 2 b1 b2 b3 (by omega)
  obtain ⟨s4, t4, d1, d2, d3, d4, d5⟩ := step s3 t3 3 c1 c2 c3 (by omega)
  clear step
  generalize bX4_drawnFrom_7 k u = f at *
  generalize bX10_drawing_6 k v = g at *
  obtain ⟨k', rfl⟩ : ∃ k', k = k' + 1 + 1 + 1 + 1 + 1 := ⟨k - 5, by omega⟩
  rw [show (((0 : Int32), (0 : Int32), (0 : Int32)) : Int32 × Int32 × Int32) = (nI 0, nI 0, nI 0) from rfl, ziter_l a4, ziter_l b4, ziter_l c4, ziter_l d4, ziter_r (ex _ _), ziter_l a5, ziter_l b5, ziter_l c5, ziter_l d5, ziter_r (ey _ _)]
  exact ⟨t4, d2, rfl, rfl⟩
theorem s_drawing {u : CX} {v : MX} (h : Rel u v) {k : Nat} (hk : 20 ≤ k) : ∃ r, fX9_drawing k u = some r ∧ fX10_drawing k v = some r := by
  obtain ⟨P, n, T, W, S, F, hP, hH, hE, h4, h5, h6, hT, hl, hM, hx, hm, hEv, hG, hG2, hS⟩ := h
  obtain ⟨r, _, e1, e2⟩ := two_drawn hP (hH.2 n (Nat.le_refl _)) hT hl hx hM hm hk
  unfold fX9_drawing
  rw [e1, e2]
  exact ⟨_, rfl, rfl⟩
theorem bestV_lt {P : Nat → Nat} {law : Nat} : bestV P law < 16 := by
  have := amx_lt (okS P) (fun s => hX_ P s (xS P law s)) 16
  unfold bestV
  omega
theorem ring64 (w a b o : Int64) : (a - b) * o = (w - b * o) - (w - a * o) := by grind
theorem lU_ring {A a b o : Nat} (h1 : b * o ≤ A) (h2 : a * o ≤ A) : (lN a - lN b) * lN o = lN (A - b * o) - lN (A - a * o) := by
  rw [← lN_sub h1, ← lN_sub h2, ← lN_mul b o, ← lN_mul a o]
  exact ring64 _ _ _ _
theorem s_wrong {u : CX} {v : MX} (h : Rel u v) {k : Nat} (hk : 20 ≤ k) (a : Int32) : ∃ r u' v', fX9_wrong k a u = some (r, u') ∧ fX10_wrong k a v = some (r, v') ∧ Rel u' v' := by
  have h0 := h
  obtain ⟨P, n, T, W, S, F, hP, hH, hE, h4, h5, h6, hT, hl, hM, hx, hm, hEv, hG, hG2, hS⟩ := h
  have hK := hH.2 n (Nat.le_refl _)
  unfold fX9_wrong fX10_wrong
  rw [xlIf, mlIf]
  split
  · rename_i hc
    obtain ⟨l, hl', rfl⟩ := zn_of (a := a) (n := 14641) (by omega) (by omega)
    obtain ⟨f1, e1⟩ := xbestFor hP hT hl hl' hk
    obtain ⟨f2, e2⟩ := xhomesBy (u := xs_stands u f1) hP hT hl hl' (bestV_lt (P := P) (law := l)) hk
    obtain ⟨r, hr, e3, g1⟩ := two_drawn (u := xs_stands (xs_stands u f1) f2) (v := v) hP hK hT hl hx hM hm hk
    obtain ⟨f3, e4⟩ := xhomesBy (u := xs_stands (xs_stands u f1) f2) hP hT hl hl' hr hk
    obtain ⟨q1, g2, _⟩ := mlost hP hM hl' hr hk
    obtain ⟨q2, g3⟩ := mbest (v := ms_lw v q1) hP hM hl' hk
    obtain ⟨q3, g4, hL⟩ := mlost (v := ms_lw (ms_lw v q1) q2) hP hM hl' (bestV_lt (P := P) (law := l)) hk
    have hT' : xTm P (xs_stands (xs_stands (xs_stands u f1) f2) f3) := hT
    obtain ⟨w1, w2, w3, w4, w5, w6⟩ := wh_b hP
    have ho := hP.2.2.2.2.2.1
    have hpos : 0 < sH P * (sc P * sc P * sc P) := Nat.mul_pos w3 (Nat.mul_pos (Nat.mul_pos w1 w1) w1)
    have hbd := mul_b w4 (mul_b (mul_b w2 w2) w2)
    have hwe : wh P = sH P * (sc P * sc P * sc P) * 1000 := rfl
    rw [e1, zbind_s, g1, zbind_s, g2, zbind_s]
    dsimp only
    rw [e2, zbind_s, g3, zbind_s]
    dsimp only
    rw [e3, zbind_s, e4, zbind_s, g4, zbind_s]
    dsimp only
    rw [zb_e, zb_e, zdl_n (by decide), zb_e, xnot hP hT', zbind_s, hT'.2.2.2.2.2, hL.2.2.1, hL.2.2.2, show (3 : Int32) = nI 3 from rfl, mpower (by omega) hk, zbind_s, zb_e, show (100 : Int64) = lN 100 from rfl, lN_mul, lN_mul, lN_mul, show (1000 : Int64) = lN 1000 from rfl, pk_lDiv (by omega) (by omega) (by omega)]
    have b1 : 100 * wh P / 1000 = sH P * (sc P * sc P * sc P) * 100 := by omega
    have b2 : sH P * sc P ^ 3 * 100 = sH P * (sc P * sc P * sc P) * 100 := by grind
    rw [b1, b2]
    generalize hB : sH P * (sc P * sc P * sc P) * 100 = B
    have hz : ¬ lN B = 0 := by rw [show (0 : Int64) = lN 0 from rfl, pk_lEQ (by omega) (by omega)]; omega
    have hz2 : (1 : Int64) ≤ lN B := by rw [show (1 : Int64) = lN 1 from rfl, pk_lLE (by omega) (by omega)]; omega
    rw [if_pos hz2, zdl_n hz, zdl_n hz]
    have hring : (lN (hX_ P (bestV P l) (xS P l (bestV P l))) - lN (hX_ P r (xS P l r))) * lN (1000 - P 16) = lN (lU P r (xS P l r)) - lN (lU P (bestV P l) (xS P l (bestV P l))) := by
      exact lU_ring (hX_o hP r (xS_le hP l r)) (hX_o hP (bestV P l) (xS_le hP l (bestV P l)))
    rw [hring]
    exact ⟨_, _, _, rfl, rfl, P, n, T, W, S, F, hP, hH, hE, h4, h5, h6, hT, hl, hM, hx, hm, hEv, hG, hG2, hS⟩
  · exact ⟨_, _, _, rfl, rfl, h0⟩
