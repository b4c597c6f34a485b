/-! what a law gives -/
theorem fg_le {law p : Nat} (h : law < 14641) : fg law p ≤ 10 := by
  unfold fg
  split
  · omega
  · split
    · omega
    · split <;> omega
theorem xfig {law p : Nat} (h : law < 14641) (hp : p < 4) : fX9_figure (nI law) (nI p) = some (nI (fg law p)) := by
  unfold fX9_figure
  have d11 : ∀ a : Nat, a < 2 ^ 31 → zremI (nI a) (11 : Int32) = nI (a % 11) := fun a ha => pk_rem (a := a) (d := 11) ha (by omega) (by omega)
  match p, hp with
  | 0, _ =>
    rw [if_pos (show nI 0 = 0 from rfl), zdi_n (by decide), show (1331 : Int32) = nI 1331 from rfl, pk_div (by omega) (by omega) (by omega)]
    rfl
  | 1, _ =>
    rw [if_neg (by decide), if_pos (show nI 1 = 1 from rfl), zdi_n (by decide), zdi_n (by decide), show (121 : Int32) = nI 121 from rfl, pk_div (by omega) (by omega) (by omega), d11 _ (by omega)]
    rfl
  | 2, _ =>
    rw [if_neg (by decide), if_neg (by decide), if_pos (show nI 2 = 2 from rfl), zdi_n (by decide), zdi_n (by decide), show (11 : Int32) = nI 11 from rfl, pk_div (by omega) (by omega) (by omega), show nI 11 = (11 : Int32) from rfl, d11 _ (by omega)]
    rfl
  | 3, _ =>
    rw [if_neg (by decide), if_neg (by decide), if_neg (by decide), zdi_n (by decide), d11 _ (by omega)]
    rfl
theorem xpartS {P : Nat → Nat} {u : CX} (hT : xTm P u) {p d : Nat} (hp : p < 12) (hd : d ≤ 10) : fX8_partStand (nI p) (nI d) u = some (nI (P p * (10 - d))) := by
  unfold fX8_partStand
  rw [zget_n hp (by omega), hT.1 p hp, show (10 : Int32) = nI 10 from rfl, pk_sub hd, pk_mul]
theorem xstand {P : Nat → Nat} {u : CX} (hT : xTm P u) {law : Nat} (h : law < 14641) {k : Nat} (hk : 20 ≤ k) : fX8_stand k (nI law) u = some (nI (xx P law)) := by
  unfold fX8_stand
  have st : ∀ (c i : Nat), i < 4 → bX8_stand_4 k (nI law) u (nI c, nI i) = some (.inl (nI (c + P i * (10 - fg law i)), nI (i + 1))) := by
    intro c i hi
    unfold bX8_stand_4
    dsimp only
    rw [if_neg (by rw [show (4 : Int32) = nI 4 from rfl, nI_leI (by omega) (by omega)]; omega), xfig h hi, zbind_s, xpartS hT (by omega) (fg_le h), zbind_s, zb_e, nI_add, nI_1]
  have ex : ∀ c : Int32, bX8_stand_4 k (nI law) u (c, nI 4) = some (.inr c) := fun c => rfl
  generalize bX8_stand_4 k (nI law) u = f at st ex
  obtain ⟨k', rfl⟩ : ∃ k', k = k' + 1 + 1 + 1 + 1 + 1 := ⟨k - 5, by omega⟩
  rw [show (((0 : Int32), (0 : Int32)) : Int32 × Int32) = (nI 0, nI 0) from rfl, ziter_l (st 0 0 (by omega)), ziter_l (st _ 1 (by omega)), ziter_l (st _ 2 (by omega)), ziter_l (st _ 3 (by omega)), ziter_r (ex _), zbind_s, Nat.zero_add]
  rfl
theorem mul_b {a b A B : Nat} (h1 : a ≤ A) (h2 : b ≤ B) : a * b ≤ A * B := Nat.mul_le_mul h1 h2
theorem xx_le {P : Nat → Nat} (hP : rP P) (law : Nat) : xx P law ≤ sc P ∧ sc P ≤ 800 := by
  have a0 := (hP.1 0 (by omega)).2
  have a1 := (hP.1 1 (by omega)).2
  have a2 := (hP.1 2 (by omega)).2
  have a3 := (hP.1 3 (by omega)).2
  unfold xx sc sA
  have m0 : P 0 * (10 - fg law 0) ≤ P 0 * 10 := Nat.mul_le_mul_left _ (by omega)
  have m1 : P 1 * (10 - fg law 1) ≤ P 1 * 10 := Nat.mul_le_mul_left _ (by omega)
  have m2 : P 2 * (10 - fg law 2) ≤ P 2 * 10 := Nat.mul_le_mul_left _ (by omega)
  have m3 : P 3 * (10 - fg law 3) ≤ P 3 * 10 := Nat.mul_le_mul_left _ (by omega)
  omega
theorem xnot {P : Nat → Nat} {u : CX} (hP : rP P) (hT : xTm P u) : fX8_notOther u = some (lN (1000 - P 16)) := by
  unfold fX8_notOther
  have := hP.2.2.2.2.2.1
  rw [show (4 : Int32) = nI 4 from rfl, zget_n (by omega) (by omega), hT.2.1 4 (by omega), show (1000 : Int32) = nI 1000 from rfl, pk_sub (by show P 16 ≤ 1000; omega), nI_l (by omega)]
theorem xhomesTop {P : Nat → Nat} {u : CX} (hP : rP P) (hT : xTm P u) {n x : Nat} (hn : n < 4) {k : Nat} (hk : 20 ≤ k) : fX8_homesTop k (nI n) (lN x) u = some (lN (shU P n x)) := by
  unfold fX8_homesTop
  have hb := hP.2.2.2.1 n hn
  have st : ∀ (c i : Nat), i < 3 → bX8_homesTop_17 k (nI n) (lN x) u (lN c, nI i) = some (.inl (lN (c * (if i < n then x else sc P)), nI (i + 1))) := by
    intro c i hi
    unfold bX8_homesTop_17
    dsimp only
    rw [if_neg (by rw [show (3 : Int32) = nI 3 from rfl, nI_leI (by omega) (by omega)]; omega), hT.2.2.2.2.1, nI_1]
    have hle : nI n ≤ nI i ↔ n ≤ i := nI_leI (by omega) (by omega)
    by_cases c : i < n
    · rw [if_neg (fun z => by have := hle.mp z; omega), zb_e, lN_mul, if_pos c]
    · rw [if_pos (hle.mpr (by omega)), zb_e, lN_mul, if_neg c]
  have ex : ∀ c : Int64, bX8_homesTop_17 k (nI n) (lN x) u (c, nI 3) = some (.inr c) := fun c => rfl
  generalize bX8_homesTop_17 k (nI n) (lN x) u = f at st ex
  obtain ⟨k', rfl⟩ : ∃ k', k = k' + 1 + 1 + 1 + 1 := ⟨k - 4, by omega⟩
  rw [zget_n (by omega) (by omega), hT.2.1 n (by omega), xnot hP hT, zbind_s, zb_e, nI_l (by omega), lN_mul, show (0 : Int32) = nI 0 from rfl, ziter_l (st _ 0 (by omega)), ziter_l (st _ 1 (by omega)), ziter_l (st _ 2 (by omega)), ziter_r (ex _), zbind_s]
  congr 2
  unfold shU
  match n, hn with
  | 0, _ => simp; grind
  | 1, _ => simp; grind
  | 2, _ => simp; grind
  | 3, _ => simp; grind
theorem xholeRate {P : Nat → Nat} {u : CX} (hP : rP P) (hT : xTm P u) {x : Nat} : fX8_holeRate (lN x) u = some (lN (hoR P x)) := by
  unfold fX8_holeRate
  have b1 : P 13 ≤ 99 := hP.2.2.2.1 1 (by omega)
  have b2 : P 14 ≤ 99 := hP.2.2.2.1 2 (by omega)
  have b3 : P 15 ≤ 99 := hP.2.2.2.1 3 (by omega)
  have e1 : xg_Trules u 1 = nI (P 13) := hT.2.1 1 (by omega)
  have e2 : xg_Trules u 2 = nI (P 14) := hT.2.1 2 (by omega)
  have e3 : xg_Trules u 3 = nI (P 15) := hT.2.1 3 (by omega)
  rw [show (1 : Int32) = nI 1 from rfl, show (2 : Int32) = nI 2 from rfl, show (3 : Int32) = nI 3 from rfl, zget_n (by omega) (by omega), zget_n (by omega) (by omega), zget_n (by omega) (by omega), xnot hP hT, zbind_s, e1, e2, e3, pk_mul, pk_mul, nI_l (by omega), nI_l (by omega), nI_l (by omega), hT.2.2.2.2.1]
  simp only [lN_mul, lN_add]
  congr 2
  unfold hoR
  grind
