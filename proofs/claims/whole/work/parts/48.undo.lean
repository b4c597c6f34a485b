/-! undo -/
theorem xtake {n : Nat} {T : Nat → Nat → Nat} {u : CX} (hn : n < 8) (h : xHm (n + 1) T u) {k : Nat} (hk : 20 ≤ k) : ∃ g, fX3_takeBack k u = some (xs_hm u g) ∧ xHm n T (xs_hm u g) := by
  obtain ⟨h1, h2, lt, hlt, h3, h4⟩ := h
  unfold fX3_takeBack
  obtain ⟨b, hb, A, rfl, hA⟩ := ziter_inv (f := bX3_takeBack_2 k) (fun i a => a.1 = nI i ∧ ∃ A : Nat → Int32, a.2 = xs_hm u (A, xg_rows u, xg_latest u, xg_acts u) ∧ (∀ j, j < i → A j = nI (T n j)) ∧ ∀ j, i ≤ j → A j = xg_sums u j) (fun b => ∃ A : Nat → Int32, b = xs_hm u (A, xg_rows u, xg_latest u, xg_acts u) ∧ ∀ j, j < 10 → A j = nI (T n j)) 10 (by
    rintro i ⟨y, w⟩ hi ⟨rfl, A, rfl, p1, p2⟩
    left
    unfold bX3_takeBack_2
    dsimp only
    rw [if_neg (by rw [show (10 : Int32) = nI 10 from rfl, nI_leI (by omega) (by omega)]; omega), zget_n hi (by omega), show xg_latest (xs_hm u (A, xg_rows u, xg_latest u, xg_acts u)) = xg_latest u from rfl, h3, zix_n hlt (by omega), zget_n hi (by omega), zix_n hi (by omega), zb_e, nI_1]
    refine ⟨_, rfl, rfl, upd A i (A i - xg_rows u lt i), ?_, fun j hj => ?_, fun j hj => ?_⟩
    · rfl
    · by_cases e : j = i
      · subst e
        rw [upd_s, p2 j (Nat.le_refl _), h1 j (by omega)]
        have := h4 0 (by omega) j (by omega)
        rw [show (lt + 8 - 0) % 8 = lt by omega] at this
        rw [this]
        exact i_ring2 _ _
      · rw [upd_n e, p1 j (by omega)]
    · rw [upd_n (by omega), p2 j (by omega)]) (by
    rintro ⟨y, w⟩ ⟨rfl, A, rfl, p1, p2⟩
    unfold bX3_takeBack_2
    exact ⟨_, rfl, A, rfl, p1⟩) 10 0 k (nI 0, u) rfl ⟨rfl, xg_sums u, rfl, fun j hj => absurd hj (by omega), fun _ _ => rfl⟩ (by omega)
  rw [show (0 : Int32) = nI 0 from rfl, hb, zbind_s, zdi_n (by decide), zb_e, zb_e]
  have e1 : zremI ((xg_latest (xs_hm u (A, xg_rows u, xg_latest u, xg_acts u)) + (8 : Int32)) - (1 : Int32)) (8 : Int32) = nI ((lt + 7) % 8) := by
    show zremI ((xg_latest u + (8 : Int32)) - (1 : Int32)) (8 : Int32) = _
    rw [h3, show (8 : Int32) = nI 8 from rfl, nI_add, show lt + 8 = (lt + 7) + 1 by omega, nI_pred]
    exact pk_rem (a := lt + 7) (d := 8) (by omega) (by omega) (by omega)
  rw [e1]
  refine ⟨(A, xg_rows u, nI ((lt + 7) % 8), nI n), ?_, hA, rfl, (lt + 7) % 8, by omega, rfl, fun i hi j hj => ?_⟩
  · show some (xs_hm u (A, xg_rows u, nI ((lt + 7) % 8), xg_acts u - 1)) = _
    rw [h2, nI_pred]
  · show xg_rows u (((lt + 7) % 8 + 8 - i) % 8) j = _
    have := h4 (i + 1) (by omega) j hj
    rw [show ((lt + 7) % 8 + 8 - i) % 8 = (lt + 8 - (i + 1)) % 8 by omega, this, show n + 1 - (i + 1) = n - i by omega]
theorem mundo {n : Nat} {T : Nat → Nat → Nat} {v : MX} (hn : n < 8) (h : mHm (n + 1) T v) {k : Nat} (hk : 20 ≤ k) : ∃ A, fX10_undo k v = some (nI n, ms_old (ms_kn v (A, mg_back v, nI n, mg_seed v)) 1) ∧ mHm n T (ms_kn v (A, mg_back v, nI n, mg_seed v)) := by
  obtain ⟨h1, h2, h3⟩ := h
  unfold fX10_undo
  rw [if_neg (by rw [h2, show (0 : Int32) = nI 0 from rfl, nI_eq (by omega) (by omega)]; omega), zb_e, h2, show (1 : Int32) = nI 1 from rfl, pk_sub (by omega), show n + 1 - 1 = n by omega]
  obtain ⟨b, hb, A, rfl, hA⟩ := ziter_inv (f := bX10_undo_22 k) (fun i a => a.1 = nI i ∧ ∃ A : Nat → Int32, a.2 = ms_kn v (A, mg_back v, nI n, mg_seed v) ∧ ∀ j, j < i → A j = nI (T n j)) (fun b => ∃ A : Nat → Int32, b = ms_kn v (A, mg_back v, nI n, mg_seed v) ∧ ∀ j, j < 10 → A j = nI (T n j)) 10 (by
    rintro i ⟨y, w⟩ hi ⟨rfl, A, rfl, p1⟩
    left
    unfold bX10_undo_22
    dsimp only
    rw [if_neg (by rw [show (10 : Int32) = nI 10 from rfl, nI_leI (by omega) (by omega)]; omega), show mg_undos (ms_kn v (A, mg_back v, nI n, mg_seed v)) = nI n from rfl, show (10 : Int32) = nI 10 from rfl, pk_mul, nI_add, zget_n (by omega) (by omega), zix_n hi (by omega), zb_e, nI_1]
    refine ⟨_, rfl, rfl, upd A i (mg_back v (10 * n + i)), rfl, fun j hj => ?_⟩
    by_cases e : j = i
    · subst e
      rw [upd_s, h3 n (by omega) j hi]
    · rw [upd_n e, p1 j (by omega)]) (by
    rintro ⟨y, w⟩ ⟨rfl, A, rfl, p1⟩
    unfold bX10_undo_22
    exact ⟨_, rfl, A, rfl, p1⟩) 10 0 k (nI 0, ms_undos v (nI n)) rfl ⟨rfl, mg_known v, rfl, fun j hj => absurd hj (by omega)⟩ (by omega)
  rw [show (0 : Int32) = nI 0 from rfl, hb, zbind_s, zb_e]
  exact ⟨A, rfl, hA, rfl, fun i hi j hj => h3 i (by omega) j hj⟩
theorem s_undo {u : CX} {v : MX} (h : Rel u v) {k : Nat} (hk : 90 ≤ k) : ∃ r u' v', fX9_undo k u = some (r, u') ∧ fX10_undo k v = some (r, v') ∧ Rel u' v' := by
  have h0 := h
  obtain ⟨P, n, T, W, S, F, h1, h2, h3, h4, h5, h6, hT, hl, hM, hx, hm, hE, hG, hG2, hS⟩ := h
  cases n with
  | zero =>
    unfold fX9_undo fX10_undo
    rw [if_pos (show xg_acts u = 0 from hx.2.1), if_pos (show mg_undos v = 0 from hm.2.1)]
    exact ⟨_, _, _, rfl, rfl, h0⟩
  | succ n =>
    obtain ⟨g, e1, q1⟩ := xtake (by have := h2.1; omega) hx (k := k) (by omega)
    obtain ⟨A, e2, q2⟩ := mundo (by have := h2.1; omega) hm (k := k) (by omega)
    unfold fX9_undo
    rw [if_neg (by rw [hx.2.1, show (0 : Int32) = nI 0 from rfl, nI_eq (by have := h2.1; omega) (by omega)]; omega), e1, zbind_s, xforget, zbind_s, e2]
    refine ⟨_, _, ms_old (ms_kn v (A, mg_back v, nI n, mg_seed v)) 1, rfl, ?_, P, n, T, W, S, F, h1, ⟨by have := h2.1; omega, fun i hi => h2.2 i (by omega)⟩, h3, h4, h5, h6, hT, hl, hM, q1, q2, hE, xGr_for _ _ _ _ _ _, mGr_old _ _ _ _ _ _, hS⟩
    rw [show xg_acts (xfor (xs_hm u g)) = nI n from q1.2.1]
