/-! acts of the reference; told, undo -/
def ms_kn (v : MX) (h : (Nat → Int32) × (Nat → Int32) × Int32 × Int32) : MX := (v.1, v.2.1, v.2.2.1, h, v.2.2.2.2)
theorem ms_kn2 (v : MX) (h h' : (Nat → Int32) × (Nat → Int32) × Int32 × Int32) : ms_kn (ms_kn v h) h' = ms_kn v h' := rfl
def mMid (n : Nat) (T : Nat → Nat → Nat) (C : Nat → Nat) (v : MX) : Prop := (∀ j, j < 10 → mg_known v j = nI (C j)) ∧ mg_undos v = nI (min n 7 + 1) ∧ ∀ i, i ≤ min n 7 → ∀ j, j < 10 → mg_back v (10 * i + j) = nI (T (i + (n - min n 7)) j)
theorem mMid_end {n : Nat} {T : Nat → Nat → Nat} {C : Nat → Nat} {v : MX} (h : mMid n T C v) : mHm (min n 7 + 1) (tpush n T C) v := by
  obtain ⟨h1, h2, h3⟩ := h
  refine ⟨fun j hj => ?_, h2, fun i hi j hj => ?_⟩
  · rw [h1 j hj]
    show _ = nI ((if min n 7 + 1 = min n 7 + 1 then C else _) j)
    rw [if_pos rfl]
  · rw [h3 i (by omega) j hj]
    show _ = nI ((if i = min n 7 + 1 then C else T (i + (n - min n 7))) j)
    rw [if_neg (by omega)]
theorem mactsL2 (v : MX) (q : Nat) (hq : q < 8) (K : Nat → Int32) (B0 : Nat → Int32) (sd : Int32) {k : Nat} (hk : 20 ≤ k) : ∃ B, ziter (bX10_acts_51 k) k ((0 : Int32), ms_kn v (K, B0, nI q, sd)) = some (ms_kn v (K, B, nI q, sd)) ∧ (∀ j, j < 10 * q → B j = B0 j) ∧ ∀ j, j < 10 → B (10 * q + j) = K j := by
  obtain ⟨b, hb, B, rfl, h1, h2⟩ := ziter_inv (f := bX10_acts_51 k) (fun i a => a.1 = nI i ∧ ∃ B : Nat → Int32, a.2 = ms_kn v (K, B, nI q, sd) ∧ (∀ j, j < 10 * q → B j = B0 j) ∧ ∀ j, j < i → B (10 * q + j) = K j) (fun b => ∃ B : Nat → Int32, b = ms_kn v (K, B, nI q, sd) ∧ (∀ j, j < 10 * q → B j = B0 j) ∧ ∀ j, j < 10 → B (10 * q + j) = K j) 10 (by
    rintro i ⟨y, w⟩ hi ⟨rfl, B, rfl, p1, p2⟩
    left
    unfold bX10_acts_51
    dsimp only
    rw [if_neg (by rw [show (10 : Int32) = nI 10 from rfl, nI_leI (by omega) (by omega)]; omega), zget_n hi (by omega), show mg_undos (ms_kn v (K, B, nI q, sd)) = nI q from rfl, show (10 : Int32) = nI 10 from rfl, pk_mul, nI_add, zix_n (by omega) (by omega), zb_e, nI_1]
    refine ⟨_, rfl, rfl, upd B (10 * q + i) (K i), rfl, fun j hj => ?_, fun j hj => ?_⟩
    · rw [upd_n (by omega), p1 j hj]
    · by_cases e : j = i
      · rw [e, upd_s]
      · rw [upd_n (by omega), p2 j (by omega)]) (by
    rintro ⟨y, w⟩ ⟨rfl, B, rfl, p1, p2⟩
    unfold bX10_acts_51
    exact ⟨_, rfl, B, rfl, p1, p2⟩) 10 0 k (nI 0, ms_kn v (K, B0, nI q, sd)) rfl ⟨rfl, B0, rfl, fun _ _ => rfl, fun j hj => absurd hj (by omega)⟩ (by omega)
  exact ⟨B, hb, h1, h2⟩
theorem mactsL1 (v : MX) (K : Nat → Int32) (B0 : Nat → Int32) (q sd : Int32) {k : Nat} (hk : 90 ≤ k) : ∃ B, ziter (bX10_acts_12 k) k ((10 : Int32), ms_kn v (K, B0, q, sd)) = some (ms_kn v (K, B, q, sd)) ∧ ∀ j, j < 70 → B j = B0 (j + 10) := by
  obtain ⟨b, hb, B, rfl, h1⟩ := ziter_inv (f := bX10_acts_12 k) (fun i a => a.1 = nI (10 + i) ∧ ∃ B : Nat → Int32, a.2 = ms_kn v (K, B, q, sd) ∧ (∀ j, j < i → B j = B0 (j + 10)) ∧ ∀ j, i ≤ j → B j = B0 j) (fun b => ∃ B : Nat → Int32, b = ms_kn v (K, B, q, sd) ∧ ∀ j, j < 70 → B j = B0 (j + 10)) 70 (by
    rintro i ⟨y, w⟩ hi ⟨rfl, B, rfl, p1, p2⟩
    left
    unfold bX10_acts_12
    dsimp only
    rw [if_neg (by rw [show (80 : Int32) = nI 80 from rfl, nI_leI (by omega) (by omega)]; omega), zget_n (by omega) (by omega), show (10 : Int32) = nI 10 from rfl, pk_sub (by omega), show 10 + i - 10 = i by omega, zix_n (by omega) (by omega), zb_e, nI_1]
    refine ⟨_, rfl, rfl, upd B i (B (10 + i)), rfl, fun j hj => ?_, fun j hj => ?_⟩
    · by_cases e : j = i
      · rw [e, upd_s, p2 _ (by omega), Nat.add_comm]
      · rw [upd_n e, p1 j (by omega)]
    · rw [upd_n (by omega), p2 j (by omega)]) (by
    rintro ⟨y, w⟩ ⟨rfl, B, rfl, p1, p2⟩
    unfold bX10_acts_12
    exact ⟨_, rfl, B, rfl, p1⟩) 70 0 k (nI 10, ms_kn v (K, B0, q, sd)) rfl ⟨rfl, B0, rfl, fun j hj => absurd hj (by omega), fun _ _ => rfl⟩ (by omega)
  exact ⟨B, hb, h1⟩
theorem macts {n : Nat} {T : Nat → Nat → Nat} {v : MX} (hn : n ≤ 8) (h : mHm n T v) {k : Nat} (hk : 90 ≤ k) : ∃ B, fX10_acts k v = some (ms_old (ms_kn v (mg_known v, B, nI (min n 7 + 1), mg_seed v)) 1) ∧ mMid n T (T n) (ms_old (ms_kn v (mg_known v, B, nI (min n 7 + 1), mg_seed v)) 1) := by
  obtain ⟨h1, h2, h3⟩ := h
  unfold fX10_acts
  by_cases e : n = 8
  · subst e
    rw [if_pos (by rw [h2]; rfl)]
    obtain ⟨B1, e1, p1⟩ := mactsL1 v (mg_known v) (mg_back v) (mg_undos v) (mg_seed v) hk
    have e1' : ziter (bX10_acts_12 k) k ((10 : Int32), v) = some (ms_kn v (mg_known v, B1, mg_undos v, mg_seed v)) := e1
    rw [e1', zbind_s, zb_e]
    have eu : mg_undos (ms_kn v (mg_known v, B1, mg_undos v, mg_seed v)) - (1 : Int32) = nI 7 := by
      show mg_undos v - 1 = nI 7
      rw [h2]; rfl
    rw [eu]
    obtain ⟨B2, e2, p2, p3⟩ := mactsL2 v 7 (by omega) (mg_known v) B1 (mg_seed v) (k := k) (by omega)
    have e2' : ziter (bX10_acts_51 k) k ((0 : Int32), ms_undos (ms_kn v (mg_known v, B1, mg_undos v, mg_seed v)) (nI 7)) = some (ms_kn v (mg_known v, B2, nI 7, mg_seed v)) := e2
    rw [e2', zbind_s, zb_e, zb_e]
    refine ⟨B2, rfl, h1, rfl, fun i hi j hj => ?_⟩
    show B2 (10 * i + j) = nI (T (i + (8 - min 8 7)) j)
    by_cases e : i = 7
    · subst e
      rw [p3 j hj]
      exact h1 j hj
    · rw [p2 _ (by omega), p1 _ (by omega), show 10 * i + j + 10 = 10 * (i + 1) + j by omega, h3 _ (by omega) j hj]
      rfl
  · rw [if_neg (by rw [h2, show (8 : Int32) = nI 8 from rfl, nI_eq (by omega) (by omega)]; exact e)]
    obtain ⟨B2, e2, p2, p3⟩ := mactsL2 v n (by omega) (mg_known v) (mg_back v) (mg_seed v) (k := k) (by omega)
    have e2' : ziter (bX10_acts_51 k) k ((0 : Int32), v) = some (ms_kn v (mg_known v, B2, nI n, mg_seed v)) := by
      rw [← e2, ← h2]; rfl
    rw [e2', zbind_s, zb_e, zb_e]
    have em : min n 7 = n := by omega
    refine ⟨B2, ?_, h1, rfl, fun i hi j hj => ?_⟩
    · show some (ms_old (ms_kn v (mg_known v, B2, nI n + 1, mg_seed v)) 1) = _
      rw [nI_1, em]
    · show B2 (10 * i + j) = nI (T (i + (n - min n 7)) j)
      rw [em, Nat.sub_self, Nat.add_zero]
      by_cases e : i = n
      · subst e
        rw [p3 j hj]
        exact h1 j hj
      · rw [p2 _ (by omega)]
        exact h3 i (by omega) j hj
/-- figures to the base 4 -/
def dg (h p : Nat) : Nat := if p = 0 then h / 64 % 4 else if p = 1 then h / 16 % 4 else if p = 2 then h / 4 % 4 else h % 4
theorem mfig {h p : Nat} (hh : h < 256) (hp : p < 4) : fX10_figure (nI h) (nI p) = some (nI (dg h p)) := by
  unfold fX10_figure
  match p, hp with
  | 0, _ =>
    rw [pk_shrN (by omega) _ 6 (by decide), pk_andN (by omega) 2 (by decide)]; rfl
  | 1, _ =>
    rw [pk_shrN (by omega) _ 4 (by decide), pk_andN (by omega) 2 (by decide)]; rfl
  | 2, _ =>
    rw [pk_shrN (by omega) _ 2 (by decide), pk_andN (by omega) 2 (by decide)]; rfl
  | 3, _ =>
    rw [pk_shrN (by omega) _ 0 (by decide), pk_andN (by omega) 2 (by decide)]
    show some (nI (h / 1 % 4)) = some (nI (h % 4))
    rw [Nat.div_one]
def sD (h : Nat) : Nat := dg h 0 + dg h 1 + dg h 2 + dg h 3
theorem msumOf {h : Nat} (hh : h < 256) {k : Nat} (hk : 20 ≤ k) : fX10_sumOf k (nI h) = some (nI (sD h)) := by
  unfold fX10_sumOf
  obtain ⟨k', rfl⟩ : ∃ k', k = k' + 1 + 1 + 1 + 1 + 1 := ⟨k - 5, by omega⟩
  have st : ∀ (c i : Nat), i < 4 → bX10_sumOf_4 (k' + 1 + 1 + 1 + 1 + 1) (nI h) (nI c, nI i) = some (.inl (nI (c + dg h i), nI (i + 1))) := by
    intro c i hi
    unfold bX10_sumOf_4
    dsimp only
    rw [if_neg (by rw [show (4 : Int32) = nI 4 from rfl, nI_leI (by omega) (by omega)]; omega), mfig hh hi, zbind_s, zb_e, nI_add, nI_1]
  rw [show (((0 : Int32), (0 : Int32)) : Int32 × Int32) = (nI 0, nI 0) from rfl, ziter_l (st 0 0 (by omega)), ziter_l (st _ 1 (by omega)), ziter_l (st _ 2 (by omega)), ziter_l (st _ 3 (by omega)), ziter_r (b := nI (0 + dg h 0 + dg h 1 + dg h 2 + dg h 3)) rfl, zbind_s, Nat.zero_add]
  rfl
theorem mhome {h m : Nat} (hh : h < 256) (hs : sD h ≤ 3) {C : Nat → Nat} {v : MX} (hC : ∀ j, j < 10 → mg_known v j = nI (C j)) {k : Nat} (hk : 20 ≤ k) : ∃ A, fX10_home k (nI m) (nI h) v = some (ms_known v A) ∧ ∀ j, j < 10 → A j = nI (addH C m (dg h 0) (dg h 1) (dg h 2) (dg h 3) j) := by
  unfold fX10_home
  rw [msumOf hh hk, zbind_s, zb_e, show (1 : Int32) = nI 1 from rfl, nI_add, zget_n (by omega) (by omega), zix_n (by omega) (by omega), zb_e]
  have stp : ∀ (A : Nat → Int32) (C : Nat → Nat) (i : Nat), i < 4 → (∀ j, j < 10 → A j = nI (C j)) → ∃ A', bX10_home_17 k (nI m) (nI h) (nI i, ms_known v A) = some (.inl (nI (i + 1), ms_known v A')) ∧ ∀ j, j < 10 → A' j = nI (addS C (5 + i) (m * dg h i) j) := by
    intro A C i hi hA
    unfold bX10_home_17
    dsimp only
    rw [if_neg (by rw [show (4 : Int32) = nI 4 from rfl, nI_leI (by omega) (by omega)]; omega), zb_e, show (5 : Int32) = nI 5 from rfl, nI_add, zget_n (by omega) (by omega), mfig hh hi, zbind_s, zix_n (by omega) (by omega), zb_e, pk_mul, nI_1]
    refine ⟨upd A (5 + i) (A (5 + i) + nI (m * dg h i)), rfl, fun j hj => ?_⟩
    unfold addS
    by_cases e : j = 5 + i
    · subst e; rw [upd_s, zup_s, hA _ hj, nI_add]
    · rw [upd_n e, zup_n e, hA _ hj]
  have h0 : ∀ j, j < 10 → upd (mg_known v) (1 + sD h) (mg_known v (1 + sD h) + nI m) j = nI (addS C (1 + sD h) m j) := by
    intro j hj
    unfold addS
    by_cases e : j = 1 + sD h
    · subst e; rw [upd_s, zup_s, hC _ hj, nI_add]
    · rw [upd_n e, zup_n e, hC _ hj]
  obtain ⟨A1, e1, p1⟩ := stp _ _ 0 (by omega) h0
  obtain ⟨A2, e2, p2⟩ := stp _ _ 1 (by omega) p1
  obtain ⟨A3, e3, p3⟩ := stp _ _ 2 (by omega) p2
  obtain ⟨A4, e4, p4⟩ := stp _ _ 3 (by omega) p3
  have hit : ziter (bX10_home_17 k (nI m) (nI h)) k ((0 : Int32), ms_known v (upd (mg_known v) (1 + sD h) (mg_known v (1 + sD h) + nI m))) = some (ms_known v A4) := by
    obtain ⟨k', hk'⟩ : ∃ k', k = k' + 1 + 1 + 1 + 1 + 1 := ⟨k - 5, by omega⟩
    generalize hf : bX10_home_17 k (nI m) (nI h) = f at *
    rw [hk', show (0 : Int32) = nI 0 from rfl, ziter_l e1, ziter_l e2, ziter_l e3, ziter_l e4]
    refine ziter_r ?_
    rw [← hf]
    rfl
  rw [hit, zbind_s]
  exact ⟨A4, rfl, p4⟩
