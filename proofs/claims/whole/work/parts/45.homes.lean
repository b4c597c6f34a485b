/-! acts: told, taken back -/
theorem i_ring1 (a b d : Int32) : (a - b) + d = (a + d) - b := by grind
theorem i_ring2 (a b : Int32) : a - (a - b) = b := by grind
theorem i_ring3 (a : Int32) : a - a = 0 := by grind
/-- the class's homes, all four -/
def xs_hm (u : CX) (h : (Nat → Int32) × (Nat → Nat → Int32) × Int32 × Int32) : CX := (u.1, u.2.1, u.2.2.1, u.2.2.2.1, u.2.2.2.2.1, h, u.2.2.2.2.2.2)
theorem xs_hm2 (u : CX) (h h' : (Nat → Int32) × (Nat → Nat → Int32) × Int32 × Int32) : xs_hm (xs_hm u h) h' = xs_hm u h' := rfl
/-- an act under way: C now, T n at its begin -/
def xMid (n : Nat) (T : Nat → Nat → Nat) (lt : Nat) (C : Nat → Nat) (u : CX) : Prop := (∀ j, j < 10 → xg_sums u j = nI (C j)) ∧ xg_acts u = nI (min n 7 + 1) ∧ lt < 8 ∧ xg_latest u = nI lt ∧ (∀ j, j < 10 → xg_rows u lt j = nI (C j) - nI (T n j)) ∧ ∀ i, i < min n 7 → ∀ j, j < 10 → xg_rows u ((lt + 8 - (i + 1)) % 8) j = nI (T (n - i) j) - nI (T (n - i - 1) j)
def addS (C : Nat → Nat) (s d : Nat) : Nat → Nat := zup C s (C s + d)
def addH (C : Nat → Nat) (m d0 d1 d2 d3 : Nat) : Nat → Nat := addS (addS (addS (addS (addS C (1 + (d0 + d1 + d2 + d3)) m) 5 (m * d0)) 6 (m * d1)) 7 (m * d2)) 8 (m * d3)
/-- the states behind an act that ended with C -/
def tpush (n : Nat) (T : Nat → Nat → Nat) (C : Nat → Nat) : Nat → Nat → Nat := fun i => if i = min n 7 + 1 then C else T (i + (n - min n 7))
theorem xbegin {n : Nat} {T : Nat → Nat → Nat} {u : CX} (hn : n ≤ 8) (h : xHm n T u) {k : Nat} (hk : 20 ≤ k) : ∃ lt h', fX3_beginAct k u = some (xs_hm u h') ∧ xMid n T lt (T n) (xs_hm u h') := by
  obtain ⟨h1, h2, lt, hlt, h3, h4⟩ := h
  unfold fX3_beginAct
  rw [zdi_n (by decide), zb_e, zb_e]
  have e1 : zremI (xg_latest u + (1 : Int32)) (8 : Int32) = nI ((lt + 1) % 8) := by
    rw [h3, nI_1]
    exact pk_rem (a := lt + 1) (d := 8) (by omega) (by omega) (by omega)
  have e2 : zminI (xg_acts u + (1 : Int32)) (8 : Int32) = nI (min n 7 + 1) := by
    rw [h2, nI_1]
    unfold zminI
    by_cases e : n = 8
    · subst e; decide
    · rw [if_neg (by rw [show (8 : Int32) = nI 8 from rfl, nI_ltI (by omega) (by omega)]; omega), show min n 7 = n by omega]
  have e2' : zminI (xg_acts (xs_latest u (zremI (xg_latest u + (1 : Int32)) (8 : Int32))) + (1 : Int32)) (8 : Int32) = nI (min n 7 + 1) := e2
  rw [e2', e1]
  obtain ⟨b, hb, R, rfl, hR1, hR2⟩ := ziter_inv (f := bX3_beginAct_30 k) (fun i a => a.1 = nI i ∧ ∃ R : Nat → Nat → Int32, a.2 = xs_hm u (xg_sums u, R, nI ((lt + 1) % 8), nI (min n 7 + 1)) ∧ (∀ q, q ≠ (lt + 1) % 8 → R q = xg_rows u q) ∧ ∀ j, j < i → R ((lt + 1) % 8) j = 0) (fun b => ∃ R : Nat → Nat → Int32, b = xs_hm u (xg_sums u, R, nI ((lt + 1) % 8), nI (min n 7 + 1)) ∧ (∀ q, q ≠ (lt + 1) % 8 → R q = xg_rows u q) ∧ ∀ j, j < 10 → R ((lt + 1) % 8) j = 0) 10 (by
    rintro i ⟨y, w⟩ hi ⟨rfl, R, rfl, p1, p2⟩
    left
    unfold bX3_beginAct_30
    dsimp only
    rw [if_neg (by rw [show (10 : Int32) = nI 10 from rfl, nI_leI (by omega) (by omega)]; omega), show xg_latest (xs_hm u (xg_sums u, R, nI ((lt + 1) % 8), nI (min n 7 + 1))) = nI ((lt + 1) % 8) from rfl, zix_n (by omega) (by omega), zix_n hi (by omega), zb_e, nI_1]
    refine ⟨_, rfl, rfl, zup R ((lt + 1) % 8) (upd (R ((lt + 1) % 8)) i 0), rfl, fun q hq => ?_, fun j hj => ?_⟩
    · rw [zup_n hq, p1 q hq]
    · rw [zup_s]
      by_cases e : j = i
      · rw [e, upd_s]
      · rw [upd_n e, p2 j (by omega)]) (by
    rintro ⟨y, w⟩ ⟨rfl, R, rfl, p1, p2⟩
    unfold bX3_beginAct_30
    exact ⟨_, rfl, R, rfl, p1, p2⟩) 10 0 k (nI 0, xs_acts (xs_latest u (nI ((lt + 1) % 8))) (nI (min n 7 + 1))) rfl ⟨rfl, xg_rows u, rfl, fun _ _ => rfl, fun j hj => absurd hj (by omega)⟩ (by omega)
  rw [show (0 : Int32) = nI 0 from rfl, hb, zbind_s]
  refine ⟨(lt + 1) % 8, _, rfl, h1, rfl, by omega, rfl, fun j hj => ?_, fun i hi j hj => ?_⟩
  · show R ((lt + 1) % 8) j = _
    rw [hR2 j hj, i_ring3]
  · show R (((lt + 1) % 8 + 8 - (i + 1)) % 8) j = _
    rw [hR1 _ (by omega), ← h4 i (by omega) j hj]
    congr 1
    omega
theorem xadd {n : Nat} {T : Nat → Nat → Nat} {lt : Nat} {C : Nat → Nat} {u : CX} (h : xMid n T lt C u) {s : Nat} (hs : s < 10) (d : Nat) : ∃ h', fX3_add (nI s) (nI d) u = some (xs_hm u h') ∧ xMid n T lt (addS C s d) (xs_hm u h') := by
  obtain ⟨h1, h2, hlt, h3, h4, h5⟩ := h
  unfold fX3_add
  simp only [zget_n hs (show 10 ≤ 2 ^ 31 by omega), zix_n hs (show 10 ≤ 2 ^ 31 by omega), zb_e]
  rw [show xg_latest (xs_sums u (upd (xg_sums u) s (xg_sums u s + nI d))) = xg_latest u from rfl, h3, zix_n hlt (by omega)]
  refine ⟨(upd (xg_sums u) s (xg_sums u s + nI d), zup (xg_rows u) lt (upd (xg_rows u lt) s (xg_rows u lt s + nI d)), xg_latest u, xg_acts u), rfl, ?_, h2, hlt, h3, fun j hj => ?_, fun i hi j hj => ?_⟩
  · intro j hj
    show upd (xg_sums u) s (xg_sums u s + nI d) j = nI (zup C s (C s + d) j)
    by_cases e : j = s
    · subst e; rw [upd_s, zup_s, h1 j hj, nI_add]
    · rw [upd_n e, zup_n e, h1 j hj]
  · show zup (xg_rows u) lt (upd (xg_rows u lt) s (xg_rows u lt s + nI d)) lt j = nI (zup C s (C s + d) j) - _
    rw [zup_s]
    by_cases e : j = s
    · subst e; rw [upd_s, zup_s, h4 j hj, i_ring1, nI_add]
    · rw [upd_n e, zup_n e, h4 j hj]
  · show zup (xg_rows u) lt (upd (xg_rows u lt) s (xg_rows u lt s + nI d)) ((lt + 8 - (i + 1)) % 8) j = _
    rw [zup_n (by omega), h5 i hi j hj]
theorem xaddH {n : Nat} {T : Nat → Nat → Nat} {lt : Nat} {C : Nat → Nat} {u : CX} (h : xMid n T lt C u) (m d0 d1 d2 d3 : Nat) (hd : d0 + d1 + d2 + d3 ≤ 3) : ∃ h', fX3_addHomes (nI m) (nI d0) (nI d1) (nI d2) (nI d3) u = some (xs_hm u h') ∧ xMid n T lt (addH C m d0 d1 d2 d3) (xs_hm u h') := by
  unfold fX3_addHomes
  rw [nI_add, nI_add, nI_add, zb_e, if_neg (nI_pos (by omega)), if_pos (by rw [show (3 : Int32) = nI 3 from rfl, nI_leI (by omega) (by omega)]; omega), show (1 : Int32) = nI 1 from rfl, nI_add, pk_mul, pk_mul, pk_mul, pk_mul]
  obtain ⟨g1, e1, q1⟩ := xadd h (s := 1 + (d0 + d1 + d2 + d3)) (by omega) m
  rw [e1, zbind_s]
  obtain ⟨g2, e2, q2⟩ := xadd q1 (s := 5) (by omega) (m * d0)
  rw [show (5 : Int32) = nI 5 from rfl, e2, zbind_s]
  obtain ⟨g3, e3, q3⟩ := xadd q2 (s := 6) (by omega) (m * d1)
  rw [show (6 : Int32) = nI 6 from rfl, e3, zbind_s]
  obtain ⟨g4, e4, q4⟩ := xadd q3 (s := 7) (by omega) (m * d2)
  rw [show (7 : Int32) = nI 7 from rfl, e4, zbind_s]
  obtain ⟨g5, e5, q5⟩ := xadd q4 (s := 8) (by omega) (m * d3)
  rw [show (8 : Int32) = nI 8 from rfl, e5, zbind_s]
  simp only [xs_hm2] at q5 ⊢
  exact ⟨g5, rfl, q5⟩
theorem xMid_end {n : Nat} {T : Nat → Nat → Nat} {lt : Nat} {C : Nat → Nat} {u : CX} (hn : n ≤ 8) (h : xMid n T lt C u) : xHm (min n 7 + 1) (tpush n T C) u := by
  obtain ⟨h1, h2, hlt, h3, h4, h5⟩ := h
  refine ⟨fun j hj => ?_, h2, lt, hlt, h3, fun i hi j hj => ?_⟩
  · rw [h1 j hj]
    show _ = nI ((if min n 7 + 1 = min n 7 + 1 then C else _) j)
    rw [if_pos rfl]
  · cases i with
    | zero =>
      rw [show (lt + 8 - 0) % 8 = lt by omega, h4 j hj]
      show _ = nI ((if min n 7 + 1 - 0 = min n 7 + 1 then C else _) j) - nI ((if min n 7 + 1 - 0 - 1 = min n 7 + 1 then C else T (min n 7 + 1 - 0 - 1 + (n - min n 7))) j)
      rw [if_pos (by omega), if_neg (by omega), show min n 7 + 1 - 0 - 1 + (n - min n 7) = n by omega]
    | succ i =>
      rw [h5 i (by omega) j hj]
      show _ = nI ((if min n 7 + 1 - (i + 1) = min n 7 + 1 then C else T (min n 7 + 1 - (i + 1) + (n - min n 7))) j) - nI ((if min n 7 + 1 - (i + 1) - 1 = min n 7 + 1 then C else T (min n 7 + 1 - (i + 1) - 1 + (n - min n 7))) j)
      rw [if_neg (by omega), if_neg (by omega), show min n 7 + 1 - (i + 1) + (n - min n 7) = n - i by omega, show min n 7 + 1 - (i + 1) - 1 + (n - min n 7) = n - i - 1 by omega]
theorem rHm_push {n : Nat} {T : Nat → Nat → Nat} {C : Nat → Nat} (h : rHm n T) (hC : rK C) : rHm (min n 7 + 1) (tpush n T C) := by
  refine ⟨by omega, fun i hi => ?_⟩
  unfold tpush
  by_cases e : i = min n 7 + 1
  · simp only [e, if_true]; exact hC
  · simp only [e, if_false]; exact h.2 _ (by have := h.1; omega)
