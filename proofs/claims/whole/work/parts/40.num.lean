/-! numbers, places, loops: what the pure descriptions need -/
theorem zn_tI {n : Nat} (h : n < 2 ^ 31) : (nI n).toInt = (n : Int) := nI_toInt h
theorem zn_cl {n : Nat} (h : n < 2 ^ 31) : (nI n).toNatClampNeg = n := nI_clamp h
/-- an int between bounds is a natural number -/
theorem zn_of {a : Int32} {n : Nat} (h : 0 ≤ a.toInt ∧ a.toInt < (n : Int)) (hn : n ≤ 2 ^ 31) : ∃ j : Nat, j < n ∧ a = nI j := by
  refine ⟨a.toInt.toNat, by omega, ?_⟩
  apply Int32.toInt_inj.mp
  rw [nI_toInt (by omega)]
  omega
theorem zget_n {α β : Type} {n j : Nat} {f : Nat → α} {k : α → Option β} (h : j < n) (hn : n ≤ 2 ^ 31) : zget n f (nI j) k = k (f j) := by
  unfold zget
  rw [if_pos (by rw [nI_toInt (by omega)]; omega), nI_clamp (by omega)]
theorem zix_n {β : Type} {n j : Nat} {k : Nat → Option β} (h : j < n) (hn : n ≤ 2 ^ 31) : zix n (nI j) k = k j := by
  unfold zix
  rw [if_pos (by rw [nI_toInt (by omega)]; omega), nI_clamp (by omega)]
theorem zb_e {α β : Type} (x : α) (f : α → β) : zb x f = f x := rfl
theorem zdi_n {β : Type} {y : Int32} {k : Option β} (h : ¬ y = 0) : zdi y k = k := if_neg h
theorem zdl_n {β : Type} {y : Int64} {k : Option β} (h : ¬ y = 0) : zdl y k = k := if_neg h
theorem zbo_0 {β : Type} (k : Option β) : zbo 0 k = k := if_pos (Or.inl rfl)
theorem zbo_1 {β : Type} (k : Option β) : zbo 1 k = k := if_pos (Or.inr rfl)
theorem zbind_s {α β : Type} (a : α) (f : α → Option β) : (some a).bind f = f a := rfl
/-- a loop whose states are known -/
theorem ziter_l {α β : Type} {f : α → Option (α ⊕ β)} {k : Nat} {a a' : α} (h : f a = some (.inl a')) : ziter f (k + 1) a = ziter f k a' := by
  show (match f a with
    | none => none
    | some (.inl a') => ziter f k a'
    | some (.inr b) => some b) = _
  rw [h]
theorem ziter_r {α β : Type} {f : α → Option (α ⊕ β)} {k : Nat} {a : α} {b : β} (h : f a = some (.inr b)) : ziter f (k + 1) a = some b := by
  show (match f a with
    | none => none
    | some (.inl a') => ziter f k a'
    | some (.inr b) => some b) = _
  rw [h]
theorem ziter_st {α β : Type} {f : α → Option (α ⊕ β)} (st : Nat → α) (b : β) : ∀ (n i k : Nat), (∀ j, i ≤ j → j < i + n → f (st j) = some (.inl (st (j + 1)))) → f (st (i + n)) = some (.inr b) → n < k → ziter f k (st i) = some b := by
  intro n
  induction n with
  | zero =>
    intro i k _ h2 hk
    obtain ⟨k', rfl⟩ : ∃ k', k = k' + 1 := ⟨k - 1, by omega⟩
    exact ziter_r h2
  | succ n ih =>
    intro i k h1 h2 hk
    obtain ⟨k', rfl⟩ : ∃ k', k = k' + 1 := ⟨k - 1, by omega⟩
    rw [ziter_l (h1 i (Nat.le_refl _) (by omega))]
    exact ih (i + 1) k' (fun j a b => h1 j (by omega) (by omega)) (by rw [show i + 1 + n = i + (n + 1) by omega]; exact h2) (by omega)
/-- a counted loop by an invariant, with early ends -/
theorem ziter_inv {α β : Type} {f : α → Option (α ⊕ β)} (I : Nat → α → Prop) (Qb : β → Prop) (N : Nat) (hs : ∀ i a, i < N → I i a → (∃ a', f a = some (.inl a') ∧ I (i + 1) a') ∨ ∃ b, f a = some (.inr b) ∧ Qb b) (hx : ∀ a, I N a → ∃ b, f a = some (.inr b) ∧ Qb b) : ∀ (n i k : Nat) (a : α), i + n = N → I i a → n < k → ∃ b, ziter f k a = some b ∧ Qb b := by
  intro n
  induction n with
  | zero =>
    intro i k a hi h hk
    obtain ⟨k', rfl⟩ : ∃ k', k = k' + 1 := ⟨k - 1, by omega⟩
    have hi : i = N := by omega
    subst hi
    obtain ⟨b, h1, h2⟩ := hx a h
    exact ⟨b, ziter_r h1, h2⟩
  | succ n ih =>
    intro i k a hi h hk
    obtain ⟨k', rfl⟩ : ∃ k', k = k' + 1 := ⟨k - 1, by omega⟩
    rcases hs i a (by omega) h with ⟨a', h1, h2⟩ | ⟨b, h1, h2⟩
    · rw [ziter_l h1]
      exact ih (i + 1) k' a' (by omega) h2 (by omega)
    · exact ⟨b, ziter_r h1, h2⟩
theorem zup_s {α : Type} {f : Nat → α} {k : Nat} {x : α} : zup f k x k = x := if_pos rfl
theorem zup_n {α : Type} {f : Nat → α} {k j : Nat} {x : α} (h : j ≠ k) : zup f k x j = f j := if_neg h
theorem upd_s {f : Nat → Int32} {k : Nat} {x : Int32} : upd f k x k = x := if_pos rfl
theorem upd_n {f : Nat → Int32} {k j : Nat} {x : Int32} (h : j ≠ k) : upd f k x j = f j := if_neg h
theorem updL_s {f : Nat → Int64} {k : Nat} {x : Int64} : vp_updL f k x k = x := if_pos rfl
theorem updL_n {f : Nat → Int64} {k j : Nat} {x : Int64} (h : j ≠ k) : vp_updL f k x j = f j := if_neg h
/-- class: tests -/
theorem xisPart (a : Int32) : fX9_isPart a = some (if 0 ≤ a.toInt ∧ a.toInt < 4 then 1 else 0) := by
  unfold fX9_isPart
  simp only [Int32.lt_iff_toInt_lt, Int32.le_iff_toInt_le, show (0 : Int32).toInt = 0 from rfl, show (4 : Int32).toInt = 4 from rfl]
  split
  · rw [if_neg (by omega)]
  · split
    · rw [if_neg (by omega)]
    · rw [if_pos (by omega)]
theorem xisLaw (a : Int32) : fX9_isLaw a = some (if 0 ≤ a.toInt ∧ a.toInt < 14641 then 1 else 0) := by
  unfold fX9_isLaw
  simp only [Int32.lt_iff_toInt_lt, Int32.le_iff_toInt_le, show (0 : Int32).toInt = 0 from rfl, show (14641 : Int32).toInt = 14641 from rfl]
  split
  · rw [if_neg (by omega)]
  · split
    · rw [if_neg (by omega)]
    · rw [if_pos (by omega)]
theorem xisSheet (a : Int32) : fX9_isSheet a = some (if 0 ≤ a.toInt ∧ a.toInt < 4 then 1 else 0) := by
  unfold fX9_isSheet
  simp only [Int32.lt_iff_toInt_lt, Int32.le_iff_toInt_le, show (0 : Int32).toInt = 0 from rfl, show (4 : Int32).toInt = 4 from rfl]
  split
  · rw [if_neg (by omega)]
  · split
    · rw [if_neg (by omega)]
    · rw [if_pos (by omega)]
theorem xisLane (a : Int32) : fX9_isLane a = some (if 0 ≤ a.toInt ∧ a.toInt < 3 then 1 else 0) := by
  unfold fX9_isLane
  simp only [Int32.lt_iff_toInt_lt, Int32.le_iff_toInt_le, show (0 : Int32).toInt = 0 from rfl, show (2 : Int32).toInt = 2 from rfl]
  split
  · rw [if_neg (by omega)]
  · split
    · rw [if_neg (by omega)]
    · rw [if_pos (by omega)]
theorem xisSide (a : Int32) : fX9_isSide a = some (if 0 ≤ a.toInt ∧ a.toInt < 2 then 1 else 0) := by
  unfold fX9_isSide
  simp only [← Int32.toInt_inj, show (0 : Int32).toInt = 0 from rfl, show (1 : Int32).toInt = 1 from rfl]
  split
  · rw [if_pos (by omega)]
  · split
    · rw [if_pos (by omega)]
    · rw [if_neg (by omega)]
/-- reference: tests -/
theorem min_ (a b c : Int64) : fX10_in a b c = some (if b.toInt ≤ a.toInt ∧ a.toInt ≤ c.toInt then 1 else 0) := by
  unfold fX10_in
  simp only [Int64.lt_iff_toInt_lt]
  split
  · rw [if_neg (by omega)]
  · split
    · rw [if_neg (by omega)]
    · rw [if_pos (by omega)]
theorem misPart (a : Int32) : fX10_isPart a = some (if 0 ≤ a.toInt ∧ a.toInt < 4 then 1 else 0) := by
  unfold fX10_isPart
  rw [min_, zbind_s]
  simp only [Int32.toInt_toInt64, show (0 : Int64).toInt = 0 from rfl, show (3 : Int64).toInt = 3 from rfl]
  split
  · rw [zbo_1, if_pos (by omega)]
  · rw [zbo_0, if_neg (by omega)]
theorem misLaw (a : Int32) : fX10_isLaw a = some (if 0 ≤ a.toInt ∧ a.toInt < 14641 then 1 else 0) := by
  unfold fX10_isLaw
  rw [min_, zbind_s]
  simp only [Int32.toInt_toInt64, show (0 : Int64).toInt = 0 from rfl, show (14640 : Int64).toInt = 14640 from rfl]
  split
  · rw [zbo_1, if_pos (by omega)]
  · rw [zbo_0, if_neg (by omega)]
