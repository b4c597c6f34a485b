def Fc (u : CX) (g : (Nat → Int32) × (Nat → Nat → Int32) × Int32 × Int32) (st : Nat → Int32) (s : Int32) : CX := xs_fl (xs_hm u g) (st, s)
def Fm (v : MX) (A B : Nat → Int32) (U s : Int32) : MX := ms_old (ms_kn v (A, B, U, s)) 1
theorem Fc_seed (u : CX) (g : (Nat → Int32) × (Nat → Nat → Int32) × Int32 × Int32) (st : Nat → Int32) (s s' : Int32) : xs_seed (Fc u g st s) s' = Fc u g st s' := rfl
theorem Fc_gseed (u : CX) (g : (Nat → Int32) × (Nat → Nat → Int32) × Int32 × Int32) (st : Nat → Int32) (s : Int32) : xg_seed (Fc u g st s) = s := rfl
theorem Fc_struck (u : CX) (g : (Nat → Int32) × (Nat → Nat → Int32) × Int32 × Int32) (st st' : Nat → Int32) (s : Int32) : xs_struck (Fc u g st s) st' = Fc u g st' s := rfl
theorem Fc_gstruck (u : CX) (g : (Nat → Int32) × (Nat → Nat → Int32) × Int32 × Int32) (st : Nat → Int32) (s : Int32) : xg_struck (Fc u g st s) = st := rfl
theorem Fc_hm (u : CX) (g g' : (Nat → Int32) × (Nat → Nat → Int32) × Int32 × Int32) (st : Nat → Int32) (s : Int32) : xs_hm (Fc u g st s) g' = Fc u g' st s := rfl
theorem Fc_T {P : Nat → Nat} {u : CX} (h : xTm P u) (g : (Nat → Int32) × (Nat → Nat → Int32) × Int32 × Int32) (st : Nat → Int32) (s : Int32) : xTm P (Fc u g st s) := h
theorem Fc_mid {n : Nat} {T : Nat → Nat → Nat} {lt : Nat} {C : Nat → Nat} {u : CX} {g : (Nat → Int32) × (Nat → Nat → Int32) × Int32 × Int32} {st : Nat → Int32} {s : Int32} (h : xMid n T lt C (Fc u g st s)) (st' : Nat → Int32) (s' : Int32) : xMid n T lt C (Fc u g st' s') := h
theorem Fm_seed (v : MX) (A B : Nat → Int32) (U s s' : Int32) : ms_seed (Fm v A B U s) s' = Fm v A B U s' := rfl
theorem Fm_gseed (v : MX) (A B : Nat → Int32) (U s : Int32) : mg_seed (Fm v A B U s) = s := rfl
theorem Fm_known (v : MX) (A A' B : Nat → Int32) (U s : Int32) : ms_known (Fm v A B U s) A' = Fm v A' B U s := rfl
theorem Fm_gknown (v : MX) (A B : Nat → Int32) (U s : Int32) : mg_known (Fm v A B U s) = A := rfl
theorem Fm_H {P : Nat → Nat} {v : MX} (h : mHd P v) (A B : Nat → Int32) (U s : Int32) : mHd P (Fm v A B U s) := h
def encD (D : Nat → Nat) : Nat := D 0 * 64 + D 1 * 16 + D 2 * 4 + D 3
def smD (D : Nat → Nat) : Nat := D 0 + D 1 + D 2 + D 3
theorem enc_up (D : Nat → Nat) {p : Nat} (hp : p < 4) : encD (zup D p (D p + 1)) = encD D + 4 ^ (3 - p) ∧ smD (zup D p (D p + 1)) = smD D + 1 := by
  unfold encD smD
  simp only [zup_e]
  match p, hp with
  | 0, _ => simp; omega
  | 1, _ => simp; omega
  | 2, _ => simp; omega
  | 3, _ => simp; omega
theorem dg_enc {D : Nat → Nat} (h : smD D ≤ 3) : dg (encD D) 0 = D 0 ∧ dg (encD D) 1 = D 1 ∧ dg (encD D) 2 = D 2 ∧ dg (encD D) 3 = D 3 ∧ encD D < 256 ∧ sD (encD D) = smD D := by
  unfold smD at h
  have e0 : dg (encD D) 0 = D 0 := by show (D 0 * 64 + D 1 * 16 + D 2 * 4 + D 3) / 64 % 4 = D 0; omega
  have e1 : dg (encD D) 1 = D 1 := by show (D 0 * 64 + D 1 * 16 + D 2 * 4 + D 3) / 16 % 4 = D 1; omega
  have e2 : dg (encD D) 2 = D 2 := by show (D 0 * 64 + D 1 * 16 + D 2 * 4 + D 3) / 4 % 4 = D 2; omega
  have e3 : dg (encD D) 3 = D 3 := by show (D 0 * 64 + D 1 * 16 + D 2 * 4 + D 3) % 4 = D 3; omega
  refine ⟨e0, e1, e2, e3, by unfold encD; omega, ?_⟩
  unfold sD smD
  rw [e0, e1, e2, e3]
theorem shl4 : ∀ p, p < 4 → (1 : Int32) <<< (((2 : Int32) * ((3 : Int32) - nI p)) &&& 31) = nI (4 ^ (3 - p)) := by decide
theorem two_roll {u : CX} {v : MX} (hs : mg_seed v = xg_seed u) {q : Nat} (h0 : 1 ≤ q) (hq : q < 2 ^ 31) : ∃ (s1 : Int32) (r : Nat), r < q ∧ fX1_roll (nI q) u = some (nI r, xs_seed u s1) ∧ fX10_drawn (nI q) v = some (nI r, ms_seed v s1) := by
  refine ⟨nxS (xg_seed u), rv (nxS (xg_seed u)) % q, Nat.mod_lt _ h0, xroll u h0 hq, ?_⟩
  rw [mroll v h0 hq, hs]
theorem two_pick_p {P : Nat → Nat} {u : CX} {v : MX} (hP : rP P) (hT : xTm P u) (hM : mHd P v) (hs : mg_seed v = xg_seed u) {k : Nat} (hk : 20 ≤ k) : ∃ (s1 : Int32) (p : Nat), p < 4 ∧ fX1_pick_p k (xg_TallAreas u) u = some (nI p, xs_seed u s1) ∧ fX10_drawOf k (nI 0) v = some (nI p, ms_seed v s1) := by
  refine ⟨nxS (xg_seed u), pkV P (rv (nxS (xg_seed u)) % sA P), pkV_lt _ _, xpick_p hP hT hk, ?_⟩
  have b0 := hP.1 0 (by omega)
  rw [mpick hM (fr := 0) (by omega) (fun i hi => by rw [Nat.zero_add]; have := hP.1 i hi; omega) (by simp only [Nat.zero_add]; omega) hk, hs]
  simp only [Nat.zero_add]
  rfl
theorem two_pick_r {P : Nat → Nat} {u : CX} {v : MX} (hP : rP P) (hT : xTm P u) (hM : mHd P v) (hs : mg_seed v = xg_seed u) {k : Nat} (hk : 20 ≤ k) : ∃ (s1 : Int32) (p : Nat), p < 4 ∧ fX1_pick_r k (xg_TallHits u) u = some (nI p, xs_seed u s1) ∧ fX10_drawOf k (nI 12) v = some (nI p, ms_seed v s1) := by
  refine ⟨nxS (xg_seed u), pkV (fun i => P (12 + i)) (rv (nxS (xg_seed u)) % sH P), pkV_lt _ _, xpick_r hP hT hk, ?_⟩
  rw [mpick hM (fr := 12) (by omega) (fun i hi => hP.2.2.2.1 i hi) hP.2.2.2.2.1 hk, hs]
  rfl
theorem flyL {P : Nat → Nat} {u0 : CX} {v0 : MX} (hP : rP P) (hT : xTm P u0) (hM : mHd P v0) (g : (Nat → Int32) × (Nat → Nat → Int32) × Int32 × Int32) (A B : Nat → Int32) (U : Int32) {N : Nat} (hN : N ≤ 3) (st : Nat → Int32) (s : Int32) (h0 : ∀ p, p < 4 → st p = 0) {k : Nat} (hk : 20 ≤ k) : ∃ x y, ziter (bX1_fly_71 k (nI N)) k ((0 : Int32), Fc u0 g st s) = some x ∧ ziter (bX10_sortie_31 k (nI N)) k ((0 : Int32), (0 : Int32), Fm v0 A B U s) = some y ∧
    ((∃ (st : Nat → Int32) (s : Int32), x = .inl (Fc u0 g st s) ∧ y = .inl (Fm v0 A B U s)) ∨ ∃ (st : Nat → Int32) (s : Int32) (D : Nat → Nat), x = .inr (Fc u0 g st s) ∧ (∀ p, p < 4 → st p = nI (D p)) ∧ smD D ≤ 3 ∧ y = .inr (nI (encD D), Fm v0 A B U s)) := by
  refine ziter_two (f := bX1_fly_71 k (nI N)) (g := bX10_sortie_31 k (nI N)) (fun i a b => ∃ (st : Nat → Int32) (s : Int32) (D : Nat → Nat), a = (nI i, Fc u0 g st s) ∧ (∀ p, p < 4 → st p = nI (D p)) ∧ smD D = i ∧ b = (nI (encD D), nI i, Fm v0 A B U s)) (fun x y => (∃ (st : Nat → Int32) (s : Int32), x = .inl (Fc u0 g st s) ∧ y = .inl (Fm v0 A B U s)) ∨ ∃ (st : Nat → Int32) (s : Int32) (D : Nat → Nat), x = .inr (Fc u0 g st s) ∧ (∀ p, p < 4 → st p = nI (D p)) ∧ smD D ≤ 3 ∧ y = .inr (nI (encD D), Fm v0 A B U s)) N ?_ ?_ N 0 k (nI 0, Fc u0 g st s) (nI 0, nI 0, Fm v0 A B U s) (by omega) ⟨st, s, fun _ => 0, rfl, fun p hp => h0 p hp, rfl, rfl⟩ (by omega)
  · rintro i a b hi ⟨st, s, D, rfl, hst, hD, rfl⟩
    unfold bX1_fly_71 bX10_sortie_31
    dsimp only
    have hc : ¬ nI N ≤ nI i := by rw [nI_leI (by omega) (by omega)]; omega
    have b0 := hP.1 0 (by omega)
    have b1 := hP.1 1 (by omega)
    have b2 := hP.1 2 (by omega)
    have b3 := hP.1 3 (by omega)
    rw [if_neg hc, if_neg hc]
    obtain ⟨s1, p, hp4, e1, e2⟩ := two_pick_p hP (Fc_T hT g st s) (Fm_H hM A B U s) rfl hk
    rw [e1, zbind_s, show (0 : Int32) = nI 0 from rfl, e2, zbind_s]
    simp only [Fc_seed, Fm_seed]
    obtain ⟨s2, r, hr, e3, e4⟩ := two_roll (u := Fc u0 g st s1) (v := Fm v0 A B U s1) rfl (q := 10) (by omega) (by omega)
    rw [show (10 : Int32) = nI 10 from rfl, e3, e4, zbind_s, zbind_s]
    simp only [Fc_seed, Fm_seed]
    rw [show (4 : Int32) = nI 4 from rfl, nI_add, zget_n (n := 12) (j := 4 + p) (by omega) (by omega), zget_n (n := 19) (j := 4 + p) (by omega) (by omega), (Fc_T hT _ _ _).1 _ (by omega), Fm_H hM _ _ _ _ _ (by omega)]
    by_cases c : nI (P (4 + p)) ≤ nI r
    · simp only [c, if_true]
      rw [zget_n hp4 (by omega), zix_n hp4 (by omega), zb_e, zb_e, Fc_gstruck, hst p hp4, Fc_struck, nI_1, nI_1, shl4 p hp4, nI_add]
      obtain ⟨q1, q2⟩ := enc_up D hp4
      refine Or.inl ⟨_, _, rfl, rfl, upd st p (nI (D p + 1)), s2, zup D p (D p + 1), rfl, fun q hq => ?_, by rw [q2, hD], by rw [q1]⟩
      by_cases e : q = p
      · rw [e, upd_s, zup_s]
      · rw [upd_n e, zup_n e, hst q hq]
    · simp only [c, if_false]
      exact Or.inr ⟨_, _, rfl, rfl, Or.inl ⟨_, _, rfl, rfl⟩⟩
  · rintro a b ⟨st, s, D, rfl, hst, hD, rfl⟩
    unfold bX1_fly_71 bX10_sortie_31
    dsimp only
    have hc : nI N ≤ nI N := by rw [nI_leI (by omega) (by omega)]; omega
    rw [if_pos hc, if_pos hc]
    exact ⟨_, _, rfl, rfl, Or.inr ⟨st, s, D, rfl, hst, by omega, rfl⟩⟩
