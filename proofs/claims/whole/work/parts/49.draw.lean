/-! sorties drawn -/
theorem ziter_two {α α' β β' : Type} {f : α → Option (α ⊕ β)} {g : α' → Option (α' ⊕ β')} (R : Nat → α → α' → Prop) (Qb : β → β' → Prop) (N : Nat) (hs : ∀ i a b, i < N → R i a b → (∃ a' b', f a = some (.inl a') ∧ g b = some (.inl b') ∧ R (i + 1) a' b') ∨ ∃ x y, f a = some (.inr x) ∧ g b = some (.inr y) ∧ Qb x y) (hx : ∀ a b, R N a b → ∃ x y, f a = some (.inr x) ∧ g b = some (.inr y) ∧ Qb x y) : ∀ (n i k : Nat) (a : α) (b : α'), i + n = N → R i a b → n < k → ∃ x y, ziter f k a = some x ∧ ziter g k b = some y ∧ Qb x y := by
  intro n
  induction n with
  | zero =>
    intro i k a b hi h hk
    obtain ⟨k', rfl⟩ : ∃ k', k = k' + 1 := ⟨k - 1, by omega⟩
    have hi : i = N := by omega
    subst hi
    obtain ⟨x, y, h1, h2, h3⟩ := hx a b h
    exact ⟨x, y, ziter_r h1, ziter_r h2, h3⟩
  | succ n ih =>
    intro i k a b hi h hk
    obtain ⟨k', rfl⟩ : ∃ k', k = k' + 1 := ⟨k - 1, by omega⟩
    rcases hs i a b (by omega) h with ⟨a', b', h1, h2, h3⟩ | ⟨x, y, h1, h2, h3⟩
    · rw [ziter_l h1, ziter_l h2]
      exact ih (i + 1) k' a' b' (by omega) h3 (by omega)
    · exact ⟨x, y, ziter_r h1, ziter_r h2, h3⟩
def nxS (s : Int32) : Int32 := s * (1103515245 : Int32) + (12345 : Int32)
def rv (s : Int32) : Nat := s.toBitVec.toNat / 65536 % 32768
theorem rvX (s : Int32) : ((s.toUInt32 >>> ((16 : Int32).toUInt32 &&& Int32.toUInt32 31)).toInt32 &&& (32767 : Int32)) = nI (rv s) := by
  rw [pk_and _ 15 (by decide), pk_ushr s 16 16 (by decide)]
  rfl
theorem rvM (s : Int32) : ((s >>> ((16 : Int32) &&& 31)) &&& (32767 : Int32)) = nI (rv s) := by
  rw [pk_and _ 15 (by decide)]
  congr 1
  have e := pk_shr s ((16 : Int32) &&& 31) 16 (by decide)
  have e2 : (s >>> ((16 : Int32) &&& 31)).toInt = (((s >>> ((16 : Int32) &&& 31)).toBitVec.toNat : Nat) : Int).bmod (2 ^ 32) := by
    show (s >>> ((16 : Int32) &&& 31)).toBitVec.toInt = _
    rw [BitVec.toInt_eq_toNat_bmod]
  have e3 : s.toInt = ((s.toBitVec.toNat : Nat) : Int).bmod (2 ^ 32) := by
    show s.toBitVec.toInt = _
    rw [BitVec.toInt_eq_toNat_bmod]
  rw [e2, Int.shiftRight_eq_div_pow, e3] at e
  have h1 := s.toBitVec.isLt
  have h2 := (s >>> ((16 : Int32) &&& 31)).toBitVec.isLt
  unfold rv
  generalize (s >>> ((16 : Int32) &&& 31)).toBitVec.toNat = y at *
  generalize s.toBitVec.toNat = x at *
  simp only [Int.bmod] at e
  omega
theorem rv_lt (s : Int32) : rv s < 32768 := Nat.mod_lt _ (by omega)
def xs_fl (u : CX) (h : (Nat → Int32) × Int32) : CX := (u.1, u.2.1, u.2.2.1, u.2.2.2.1, u.2.2.2.2.1, u.2.2.2.2.2.1, u.2.2.2.2.2.2.1, u.2.2.2.2.2.2.2.1, u.2.2.2.2.2.2.2.2.1, h, u.2.2.2.2.2.2.2.2.2.2)
theorem xroll (u : CX) {q : Nat} (h0 : 1 ≤ q) (hq : q < 2 ^ 31) : fX1_roll (nI q) u = some (nI (rv (nxS (xg_seed u)) % q), xs_seed u (nxS (xg_seed u))) := by
  unfold fX1_roll
  rw [zb_e, if_pos (by rw [show (1 : Int32) = nI 1 from rfl, nI_leI (by omega) (by omega)]; exact h0), zdi_n (by rw [show (0 : Int32) = nI 0 from rfl, nI_eq (by omega) (by omega)]; omega), rvX]
  have := rv_lt (nxS (xg_seed u))
  exact congrArg (fun r => some (r, xs_seed u (nxS (xg_seed u)))) (pk_rem (by show rv (nxS (xg_seed u)) < _; omega) (by omega) hq)
theorem mroll (v : MX) {q : Nat} (h0 : 1 ≤ q) (hq : q < 2 ^ 31) : fX10_drawn (nI q) v = some (nI (rv (nxS (mg_seed v)) % q), ms_seed v (nxS (mg_seed v))) := by
  unfold fX10_drawn
  rw [zb_e, zdi_n (by rw [show (0 : Int32) = nI 0 from rfl, nI_eq (by omega) (by omega)]; omega), rvM]
  have := rv_lt (nxS (mg_seed v))
  exact congrArg (fun r => some (r, ms_seed v (nxS (mg_seed v)))) (pk_rem (by show rv (nxS (mg_seed v)) < _; omega) (by omega) hq)
/-- one of four by their weights -/
def pkV (w : Nat → Nat) (r : Nat) : Nat := if r < w 0 then 0 else if r < w 0 + w 1 then 1 else if r < w 0 + w 1 + w 2 then 2 else 3
theorem pkV_lt (w : Nat → Nat) (r : Nat) : pkV w r < 4 := by
  unfold pkV
  split
  · omega
  · split
    · omega
    · split <;> omega
theorem pick_core {α : Type} {f : Int32 × Int32 → Option ((Int32 × Int32) ⊕ (Int32 ⊕ Unit))} {w : Nat → Nat} {r : Nat} (hr : r < 1073741824) (hw : ∀ i, i < 4 → w i < 1000)
    (hf : ∀ (q i : Nat), q < 1073741824 → i < 3 → f (nI q, nI i) = if q < w i then some (.inr (.inl (nI i))) else some (.inl (nI (q - w i), nI (i + 1)))) (hf3 : ∀ q, f (q, nI 3) = some (.inr (.inr ()))) {k : Nat} (hk : 20 ≤ k) (G : Int32 → α) (G3 : α) (hG : G3 = G 3) : (ziter f k (nI r, (0 : Int32))).bind (fun b => zel b (fun b => some (G b)) (fun _ => some G3)) = some (G (nI (pkV w r))) := by
  obtain ⟨k', rfl⟩ : ∃ k', k = k' + 1 + 1 + 1 + 1 := ⟨k - 4, by omega⟩
  have w0 := hw 0 (by omega)
  have w1 := hw 1 (by omega)
  have w2 := hw 2 (by omega)
  unfold pkV
  rw [show (0 : Int32) = nI 0 from rfl]
  by_cases c0 : r < w 0
  · rw [ziter_r (b := Sum.inl (nI 0)) (by rw [hf r 0 hr (by omega), if_pos c0]), zbind_s, if_pos c0]
    rfl
  rw [ziter_l (a' := (nI (r - w 0), nI 1)) (by rw [hf r 0 hr (by omega), if_neg c0]), if_neg c0]
  by_cases c1 : r < w 0 + w 1
  · rw [ziter_r (b := Sum.inl (nI 1)) (by rw [hf _ 1 (by omega) (by omega), if_pos (by omega)]), zbind_s, if_pos c1]
    rfl
  rw [ziter_l (a' := (nI (r - w 0 - w 1), nI 2)) (by rw [hf _ 1 (by omega) (by omega), if_neg (by omega)]), if_neg c1]
  by_cases c2 : r < w 0 + w 1 + w 2
  · rw [ziter_r (b := Sum.inl (nI 2)) (by rw [hf _ 2 (by omega) (by omega), if_pos (by omega)]), zbind_s, if_pos c2]
    rfl
  rw [ziter_l (a' := (nI (r - w 0 - w 1 - w 2), nI 3)) (by rw [hf _ 2 (by omega) (by omega), if_neg (by omega)]), if_neg c2, ziter_r (b := Sum.inr ()) (hf3 _), zbind_s]
  show some G3 = _
  rw [hG]
  rfl
theorem xTm_seed {P : Nat → Nat} {u : CX} (h : xTm P u) (s : Int32) : xTm P (xs_seed u s) := h
theorem mHd_seed {P : Nat → Nat} {v : MX} (h : mHd P v) (s : Int32) : mHd P (ms_seed v s) := h
theorem xpick_r {P : Nat → Nat} {u : CX} (hP : rP P) (hT : xTm P u) {k : Nat} (hk : 20 ≤ k) : fX1_pick_r k (xg_TallHits u) u = some (nI (pkV (fun i => P (12 + i)) (rv (nxS (xg_seed u)) % sH P)), xs_seed u (nxS (xg_seed u))) := by
  unfold fX1_pick_r
  have b0 : P 12 ≤ 99 := hP.2.2.2.1 0 (by omega)
  have b1 : P 13 ≤ 99 := hP.2.2.2.1 1 (by omega)
  have b2 : P 14 ≤ 99 := hP.2.2.2.1 2 (by omega)
  have b3 : P 15 ≤ 99 := hP.2.2.2.1 3 (by omega)
  have hs := hP.2.2.2.2.1
  have hsl : sH P < 400 := by unfold sH; omega
  rw [hT.2.2.2.1, xroll u hs (by omega), zbind_s]
  generalize nxS (xg_seed u) = s1
  refine pick_core (w := fun i => P (12 + i)) (Nat.lt_trans (Nat.mod_lt _ hs) (by omega)) (fun i hi => by have := hP.2.2.2.1 i hi; omega) ?_ ?_ hk (fun b => (b, xs_seed u s1)) ((3 : Int32), xs_seed u s1) rfl
  · intro q i hq hi
    unfold bX1_pick_r_9
    dsimp only
    rw [if_neg (by rw [show (3 : Int32) = nI 3 from rfl, nI_leI (by omega) (by omega)]; omega), zget_n (by omega) (by omega), zget_n (by omega) (by omega), (xTm_seed hT s1).2.1 i (by omega), zb_e, nI_1]
    have hb := hP.2.2.2.1 i (by omega)
    have hle : nI (P (12 + i)) ≤ nI q ↔ P (12 + i) ≤ q := nI_leI (by omega) (by omega)
    by_cases c : q < P (12 + i)
    · rw [if_pos c, if_neg (fun z => by have := hle.mp z; omega)]
    · rw [if_neg c, if_pos (hle.mpr (by omega)), pk_sub (by omega)]
  · intro q
    unfold bX1_pick_r_9
    rfl
theorem xpick_p {P : Nat → Nat} {u : CX} (hP : rP P) (hT : xTm P u) {k : Nat} (hk : 20 ≤ k) : fX1_pick_p k (xg_TallAreas u) u = some (nI (pkV P (rv (nxS (xg_seed u)) % sA P)), xs_seed u (nxS (xg_seed u))) := by
  unfold fX1_pick_p
  have b0 := hP.1 0 (by omega)
  have b1 := hP.1 1 (by omega)
  have b2 := hP.1 2 (by omega)
  have b3 := hP.1 3 (by omega)
  have hs : 0 < sA P := by unfold sA; omega
  have hsl : sA P < 400 := by unfold sA; omega
  rw [hT.2.2.1, xroll u hs (by omega), zbind_s]
  generalize nxS (xg_seed u) = s1
  refine pick_core (w := P) (Nat.lt_trans (Nat.mod_lt _ hs) (by omega)) (fun i hi => by have := hP.1 i hi; omega) ?_ ?_ hk (fun b => (b, xs_seed u s1)) ((3 : Int32), xs_seed u s1) rfl
  · intro q i hq hi
    unfold bX1_pick_p_9
    dsimp only
    rw [if_neg (by rw [show (3 : Int32) = nI 3 from rfl, nI_leI (by omega) (by omega)]; omega), zget_n (by omega) (by omega), zget_n (by omega) (by omega), (xTm_seed hT s1).1 i (by omega), zb_e, nI_1]
    have hb := hP.1 i (by omega)
    have hle : nI (P i) ≤ nI q ↔ P i ≤ q := nI_leI (by omega) (by omega)
    by_cases c : q < P i
    · rw [if_pos c, if_neg (fun z => by have := hle.mp z; omega)]
    · rw [if_neg c, if_pos (hle.mpr (by omega)), pk_sub (by omega)]
  · intro q
    unfold bX1_pick_p_9
    rfl
theorem mpick {P : Nat → Nat} {v : MX} (hM : mHd P v) {fr : Nat} (hfr : fr ≤ 12) (hw : ∀ i, i < 4 → P (fr + i) ≤ 99) (hs : 0 < P fr + P (fr + 1) + P (fr + 2) + P (fr + 3)) {k : Nat} (hk : 20 ≤ k) : fX10_drawOf k (nI fr) v = some (nI (pkV (fun i => P (fr + i)) (rv (nxS (mg_seed v)) % (P fr + P (fr + 1) + P (fr + 2) + P (fr + 3)))), ms_seed v (nxS (mg_seed v))) := by
  unfold fX10_drawOf
  have b0 := hw 0 (by omega)
  have b1 := hw 1 (by omega)
  have b2 := hw 2 (by omega)
  have b3 := hw 3 (by omega)
  rw [Nat.add_zero] at b0
  rw [show (1 : Int32) = nI 1 from rfl, show (2 : Int32) = nI 2 from rfl, show (3 : Int32) = nI 3 from rfl, nI_add, nI_add, nI_add]
  rw [zget_n (by omega) (by omega), zget_n (by omega) (by omega), zget_n (by omega) (by omega), zget_n (by omega) (by omega), hM _ (by omega), hM _ (by omega), hM _ (by omega), hM _ (by omega), zb_e, nI_add, nI_add, nI_add, mroll v hs (by omega), zbind_s]
  generalize nxS (mg_seed v) = s1
  generalize hr : rv (s1) % (P fr + P (fr + 1) + P (fr + 2) + P (fr + 3)) = r
  have hrl : r < P fr + P (fr + 1) + P (fr + 2) + P (fr + 3) := by rw [← hr]; exact Nat.mod_lt _ hs
  have hf : ∀ (q i : Nat), q < 1073741824 → i < 4 → bX10_drawOf_43 k (nI fr) (ms_seed v s1) (nI q, nI i) = if q < P (fr + i) then some (.inr (nI i)) else some (.inl (nI (q - P (fr + i)), nI (i + 1))) := by
    intro q i hq hi
    unfold bX10_drawOf_43
    dsimp only
    rw [nI_add, zget_n (by omega) (by omega), zget_n (by omega) (by omega), mHd_seed hM s1 _ (by omega), zb_e, nI_1]
    have hb := hw i hi
    have hle : nI q < nI (P (fr + i)) ↔ q < P (fr + i) := nI_ltI (by omega) (by omega)
    by_cases c : q < P (fr + i)
    · rw [if_pos c, if_pos (hle.mpr c)]
    · rw [if_neg c, if_neg (fun z => c (hle.mp z)), pk_sub (by omega)]
  generalize bX10_drawOf_43 k (nI fr) (ms_seed v s1) = f at hf ⊢
  obtain ⟨k', rfl⟩ : ∃ k', k = k' + 1 + 1 + 1 + 1 := ⟨k - 4, by omega⟩
  unfold pkV
  rw [show (0 : Int32) = nI 0 from rfl]
  simp only [Nat.add_zero]
  have hf0 : ∀ q : Nat, q < 1073741824 → f (nI q, nI 0) = if q < P fr then some (.inr (nI 0)) else some (.inl (nI (q - P fr), nI 1)) := fun q hq => hf q 0 hq (by omega)
  by_cases c0 : r < P fr
  · rw [ziter_r (b := nI 0) (by rw [hf0 r (by omega), if_pos c0]), zbind_s, if_pos c0]
  rw [ziter_l (a' := (nI (r - P fr), nI 1)) (by rw [hf0 r (by omega), if_neg c0]), if_neg c0]
  by_cases c1 : r < P fr + P (fr + 1)
  · rw [ziter_r (b := nI 1) (by rw [hf _ 1 (by omega) (by omega), if_pos (by omega)]), zbind_s, if_pos c1]
  rw [ziter_l (a' := (nI (r - P fr - P (fr + 1)), nI 2)) (by rw [hf _ 1 (by omega) (by omega), if_neg (by omega)]), if_neg c1]
  by_cases c2 : r < P fr + P (fr + 1) + P (fr + 2)
  · rw [ziter_r (b := nI 2) (by rw [hf _ 2 (by omega) (by omega), if_pos (by omega)]), zbind_s, if_pos c2]
  rw [ziter_l (a' := (nI (r - P fr - P (fr + 1) - P (fr + 2)), nI 3)) (by rw [hf _ 2 (by omega) (by omega), if_neg (by omega)]), if_neg c2, ziter_r (b := nI 3) (by rw [hf _ 3 (by omega) (by omega), if_pos (by omega)]), zbind_s]
