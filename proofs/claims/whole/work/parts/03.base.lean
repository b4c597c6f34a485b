/-! base: one hypothesis for the world (zIn), one contract form (zCt, zSt), rows that follow a pure description hf -/
/-- a value that is named -/
def zb {α β : Type} (x : α) (f : α → β) : β := f x
/-- a place of a row that is read -/
def zget {α β : Type} (n : Nat) (f : Nat → α) (i : Int32) (k : α → Option β) : Option β := if 0 ≤ i.toInt ∧ i.toInt < (n : Int) then k (f i.toNatClampNeg) else none
/-- a place of a row that is asked for -/
def zix {β : Type} (n : Nat) (i : Int32) (k : Nat → Option β) : Option β := if 0 ≤ i.toInt ∧ i.toInt < (n : Int) then k i.toNatClampNeg else none
/-- a divisor -/
def zdi {β : Type} (y : Int32) (k : Option β) : Option β := if y = 0 then none else k
def zdl {β : Type} (y : Int64) (k : Option β) : Option β := if y = 0 then none else k
/-- a truth -/
def zbo {β : Type} (v : Int32) (k : Option β) : Option β := if v = 0 ∨ v = 1 then k else none
/-- a loop -/
def ziter {α β : Type} (f : α → Option (α ⊕ β)) : Nat → α → Option β
  | 0, _ => none
  | k + 1, a => match f a with
    | none => none
    | some (.inl a') => ziter f k a'
    | some (.inr b) => some b
theorem zloop {α β : Type} {f : α → Option (α ⊕ β)} {Wh : α → Prop} {Wx : β → Prop} (hs : ∀ a x, f a = some x → (∀ a', x = .inl a' → Wh a') → (∀ b, x = .inr b → Wx b) → Wh a) : ∀ (k : Nat) (a : α) (b : β), ziter f k a = some b → Wx b → Wh a := by
  intro k
  induction k with
  | zero => intro a b h; cases h
  | succ k ih =>
    intro a b h hx
    unfold ziter at h
    cases hfa : f a with
    | none => rw [hfa] at h; cases h
    | some x =>
      rw [hfa] at h
      cases x with
      | inl a' => exact hs a _ hfa (fun a2 e2 => by cases e2; exact ih a' b h hx) (fun b2 e2 => by cases e2)
      | inr b' =>
        cases h
        exact hs a _ hfa (fun a2 e2 => by cases e2) (fun b2 e2 => by cases e2; exact hx)
theorem zbind {α β : Type} {x : Option α} {f : α → Option β} {z : β} (h : x.bind f = some z) : ∃ a, x = some a ∧ f a = some z := by
  cases x with
  | none => cases h
  | some a => exact ⟨a, rfl, h⟩
theorem zvp {i : Int32} {n : Nat} (h : 0 ≤ i.toInt ∧ i.toInt < (n : Int)) : vp_in i n := vp_in_iff.mpr h
section ZB
variable {p : Program} {l : Launch} {e : Env} {R : Room} {s : State} {m : MethodId} {args : Array Value} {below : List Frame} {meth : Method} {c : Code} {H : Heap} {locs : List Loc} {cells slots : Nat} {Q : State → Prop}
variable {cc : ByteArray} {pc : Nat} {ls : Array Slot} {rest : List Value} {ρ : Type} {z : ρ}
theorem z_bi {x : Int32} {f : Int32 → Option ρ} (hf : zb x f = some z) (k : ∀ y, f y = some z → W p l e R s m args below meth c H locs cells slots Q (F0 m pc ls (.int y :: rest))) : W p l e R s m args below meth c H locs cells slots Q (F0 m pc ls (.int x :: rest)) := k x hf
theorem z_bl {x : Int64} {f : Int64 → Option ρ} (hf : zb x f = some z) (k : ∀ y, f y = some z → W p l e R s m args below meth c H locs cells slots Q (F0 m pc ls (.long y :: rest))) : W p l e R s m args below meth c H locs cells slots Q (F0 m pc ls (.long x :: rest)) := k x hf
theorem z_idiv (hexec : p.tables.exec = Jvm.exec) (hb : c.code = cc) {x y : Int32} (hdg : decode cc pc = .ok (.idiv, 1)) {E : Option ρ} (hf : zdi y E = some z) (k : E = some z → W p l e R s m args below meth c H locs cells slots Q (F0 m (pc + 1) ls (.int (x / y) :: rest))) : W p l e R s m args below meth c H locs cells slots Q (F0 m pc ls (.int y :: .int x :: rest)) := by
  unfold zdi at hf
  by_cases h : y = 0
  · rw [if_pos h] at hf; cases hf
  · rw [if_neg h] at hf; exact lv_idiv hexec hb hdg h (k hf)
theorem z_ldiv (hexec : p.tables.exec = Jvm.exec) (hb : c.code = cc) {x y : Int64} (hdg : decode cc pc = .ok (.ldiv, 1)) {E : Option ρ} (hf : zdl y E = some z) (k : E = some z → W p l e R s m args below meth c H locs cells slots Q (F0 m (pc + 1) ls (.long (x / y) :: rest))) : W p l e R s m args below meth c H locs cells slots Q (F0 m pc ls (.long y :: .long x :: rest)) := by
  unfold zdl at hf
  by_cases h : y = 0
  · rw [if_pos h] at hf; cases hf
  · rw [if_neg h] at hf; exact lv_ldiv hexec hb hdg h (k hf)

def zremI (x y : Int32) : Int32 := x - x / y * y
def zremL (x y : Int64) : Int64 := x - x / y * y
theorem z_irem (hexec : p.tables.exec = Jvm.exec) (hb : c.code = cc) {x y : Int32} (hdg : decode cc pc = .ok (.irem, 1)) {E : Option ρ} (hf : zdi y E = some z) (k : E = some z → W p l e R s m args below meth c H locs cells slots Q (F0 m (pc + 1) ls (.int (zremI x y) :: rest))) : W p l e R s m args below meth c H locs cells slots Q (F0 m pc ls (.int y :: .int x :: rest)) := by
  unfold zdi at hf
  by_cases h : y = 0
  · rw [if_pos h] at hf; cases hf
  · rw [if_neg h] at hf; exact lv_irem hexec hb hdg h (k hf)
theorem z_lrem (hexec : p.tables.exec = Jvm.exec) (hb : c.code = cc) {x y : Int64} (hdg : decode cc pc = .ok (.lrem, 1)) {E : Option ρ} (hf : zdl y E = some z) (k : E = some z → W p l e R s m args below meth c H locs cells slots Q (F0 m (pc + 1) ls (.long (zremL x y) :: rest))) : W p l e R s m args below meth c H locs cells slots Q (F0 m pc ls (.long y :: .long x :: rest)) := by
  unfold zdl at hf
  by_cases h : y = 0
  · rw [if_pos h] at hf; cases hf
  · rw [if_neg h] at hf; exact lv_lrem hexec hb hdg h (k hf)
theorem z_icmp_lt (hexec : p.tables.exec = Jvm.exec) (hb : c.code = cc) {x y : Int32} {off : Int} {tgt : Nat} (hdg : decode cc pc = .ok (.if_icmp .lt off, 3)) (ht : (pc : Int) + off = (tgt : Int)) {E1 E2 : Option ρ} (hf : (if x < y then E1 else E2) = some z) (k1 : E1 = some z → W p l e R s m args below meth c H locs cells slots Q (F0 m tgt ls rest)) (k2 : E2 = some z → W p l e R s m args below meth c H locs cells slots Q (F0 m (pc + 3) ls rest)) : W p l e R s m args below meth c H locs cells slots Q (F0 m pc ls (.int y :: .int x :: rest)) :=
  lv_icmp_lt hexec hb hdg ht (fun h => k1 (by rw [if_pos h] at hf; exact hf)) (fun h => k2 (by rw [if_neg h] at hf; exact hf))
theorem z_if_lt (hexec : p.tables.exec = Jvm.exec) (hb : c.code = cc) {x : Int32} {off : Int} {tgt : Nat} (hdg : decode cc pc = .ok (.ifCond .lt off, 3)) (ht : (pc : Int) + off = (tgt : Int)) {E1 E2 : Option ρ} (hf : (if x < 0 then E1 else E2) = some z) (k1 : E1 = some z → W p l e R s m args below meth c H locs cells slots Q (F0 m tgt ls rest)) (k2 : E2 = some z → W p l e R s m args below meth c H locs cells slots Q (F0 m (pc + 3) ls rest)) : W p l e R s m args below meth c H locs cells slots Q (F0 m pc ls (.int x :: rest)) :=
  lv_if_lt hexec hb hdg ht (fun h => k1 (by rw [if_pos h] at hf; exact hf)) (fun h => k2 (by rw [if_neg h] at hf; exact hf))
theorem z_icmp_ge (hexec : p.tables.exec = Jvm.exec) (hb : c.code = cc) {x y : Int32} {off : Int} {tgt : Nat} (hdg : decode cc pc = .ok (.if_icmp .ge off, 3)) (ht : (pc : Int) + off = (tgt : Int)) {E1 E2 : Option ρ} (hf : (if y ≤ x then E1 else E2) = some z) (k1 : E1 = some z → W p l e R s m args below meth c H locs cells slots Q (F0 m tgt ls rest)) (k2 : E2 = some z → W p l e R s m args below meth c H locs cells slots Q (F0 m (pc + 3) ls rest)) : W p l e R s m args below meth c H locs cells slots Q (F0 m pc ls (.int y :: .int x :: rest)) :=
  lv_icmp_ge hexec hb hdg ht (fun h => k1 (by rw [if_pos h] at hf; exact hf)) (fun h => k2 (by rw [if_neg h] at hf; exact hf))
theorem z_if_ge (hexec : p.tables.exec = Jvm.exec) (hb : c.code = cc) {x : Int32} {off : Int} {tgt : Nat} (hdg : decode cc pc = .ok (.ifCond .ge off, 3)) (ht : (pc : Int) + off = (tgt : Int)) {E1 E2 : Option ρ} (hf : (if 0 ≤ x then E1 else E2) = some z) (k1 : E1 = some z → W p l e R s m args below meth c H locs cells slots Q (F0 m tgt ls rest)) (k2 : E2 = some z → W p l e R s m args below meth c H locs cells slots Q (F0 m (pc + 3) ls rest)) : W p l e R s m args below meth c H locs cells slots Q (F0 m pc ls (.int x :: rest)) :=
  lv_if_ge hexec hb hdg ht (fun h => k1 (by rw [if_pos h] at hf; exact hf)) (fun h => k2 (by rw [if_neg h] at hf; exact hf))
theorem z_icmp_gt (hexec : p.tables.exec = Jvm.exec) (hb : c.code = cc) {x y : Int32} {off : Int} {tgt : Nat} (hdg : decode cc pc = .ok (.if_icmp .gt off, 3)) (ht : (pc : Int) + off = (tgt : Int)) {E1 E2 : Option ρ} (hf : (if y < x then E1 else E2) = some z) (k1 : E1 = some z → W p l e R s m args below meth c H locs cells slots Q (F0 m tgt ls rest)) (k2 : E2 = some z → W p l e R s m args below meth c H locs cells slots Q (F0 m (pc + 3) ls rest)) : W p l e R s m args below meth c H locs cells slots Q (F0 m pc ls (.int y :: .int x :: rest)) :=
  lv_icmp_gt hexec hb hdg ht (fun h => k1 (by rw [if_pos h] at hf; exact hf)) (fun h => k2 (by rw [if_neg h] at hf; exact hf))
theorem z_if_gt (hexec : p.tables.exec = Jvm.exec) (hb : c.code = cc) {x : Int32} {off : Int} {tgt : Nat} (hdg : decode cc pc = .ok (.ifCond .gt off, 3)) (ht : (pc : Int) + off = (tgt : Int)) {E1 E2 : Option ρ} (hf : (if 0 < x then E1 else E2) = some z) (k1 : E1 = some z → W p l e R s m args below meth c H locs cells slots Q (F0 m tgt ls rest)) (k2 : E2 = some z → W p l e R s m args below meth c H locs cells slots Q (F0 m (pc + 3) ls rest)) : W p l e R s m args below meth c H locs cells slots Q (F0 m pc ls (.int x :: rest)) :=
  lv_if_gt hexec hb hdg ht (fun h => k1 (by rw [if_pos h] at hf; exact hf)) (fun h => k2 (by rw [if_neg h] at hf; exact hf))
theorem z_icmp_le (hexec : p.tables.exec = Jvm.exec) (hb : c.code = cc) {x y : Int32} {off : Int} {tgt : Nat} (hdg : decode cc pc = .ok (.if_icmp .le off, 3)) (ht : (pc : Int) + off = (tgt : Int)) {E1 E2 : Option ρ} (hf : (if x ≤ y then E1 else E2) = some z) (k1 : E1 = some z → W p l e R s m args below meth c H locs cells slots Q (F0 m tgt ls rest)) (k2 : E2 = some z → W p l e R s m args below meth c H locs cells slots Q (F0 m (pc + 3) ls rest)) : W p l e R s m args below meth c H locs cells slots Q (F0 m pc ls (.int y :: .int x :: rest)) :=
  lv_icmp_le hexec hb hdg ht (fun h => k1 (by rw [if_pos h] at hf; exact hf)) (fun h => k2 (by rw [if_neg h] at hf; exact hf))
theorem z_if_le (hexec : p.tables.exec = Jvm.exec) (hb : c.code = cc) {x : Int32} {off : Int} {tgt : Nat} (hdg : decode cc pc = .ok (.ifCond .le off, 3)) (ht : (pc : Int) + off = (tgt : Int)) {E1 E2 : Option ρ} (hf : (if x ≤ 0 then E1 else E2) = some z) (k1 : E1 = some z → W p l e R s m args below meth c H locs cells slots Q (F0 m tgt ls rest)) (k2 : E2 = some z → W p l e R s m args below meth c H locs cells slots Q (F0 m (pc + 3) ls rest)) : W p l e R s m args below meth c H locs cells slots Q (F0 m pc ls (.int x :: rest)) :=
  lv_if_le hexec hb hdg ht (fun h => k1 (by rw [if_pos h] at hf; exact hf)) (fun h => k2 (by rw [if_neg h] at hf; exact hf))
theorem z_icmp_eq (hexec : p.tables.exec = Jvm.exec) (hb : c.code = cc) {x y : Int32} {off : Int} {tgt : Nat} (hdg : decode cc pc = .ok (.if_icmp .eq off, 3)) (ht : (pc : Int) + off = (tgt : Int)) {E1 E2 : Option ρ} (hf : (if x = y then E1 else E2) = some z) (k1 : E1 = some z → W p l e R s m args below meth c H locs cells slots Q (F0 m tgt ls rest)) (k2 : E2 = some z → W p l e R s m args below meth c H locs cells slots Q (F0 m (pc + 3) ls rest)) : W p l e R s m args below meth c H locs cells slots Q (F0 m pc ls (.int y :: .int x :: rest)) :=
  lv_icmp_eq hexec hb hdg ht (fun h => k1 (by rw [if_pos h] at hf; exact hf)) (fun h => k2 (by first | (rw [if_neg h] at hf; exact hf) | (rw [if_pos (Classical.not_not.mp h)] at hf; exact hf)))
theorem z_if_eq (hexec : p.tables.exec = Jvm.exec) (hb : c.code = cc) {x : Int32} {off : Int} {tgt : Nat} (hdg : decode cc pc = .ok (.ifCond .eq off, 3)) (ht : (pc : Int) + off = (tgt : Int)) {E1 E2 : Option ρ} (hf : (if x = 0 then E1 else E2) = some z) (k1 : E1 = some z → W p l e R s m args below meth c H locs cells slots Q (F0 m tgt ls rest)) (k2 : E2 = some z → W p l e R s m args below meth c H locs cells slots Q (F0 m (pc + 3) ls rest)) : W p l e R s m args below meth c H locs cells slots Q (F0 m pc ls (.int x :: rest)) :=
  lv_if_eq hexec hb hdg ht (fun h => k1 (by rw [if_pos h] at hf; exact hf)) (fun h => k2 (by first | (rw [if_neg h] at hf; exact hf) | (rw [if_pos (Classical.not_not.mp h)] at hf; exact hf)))
theorem z_icmp_ne (hexec : p.tables.exec = Jvm.exec) (hb : c.code = cc) {x y : Int32} {off : Int} {tgt : Nat} (hdg : decode cc pc = .ok (.if_icmp .ne off, 3)) (ht : (pc : Int) + off = (tgt : Int)) {E1 E2 : Option ρ} (hf : (if x = y then E2 else E1) = some z) (k1 : E1 = some z → W p l e R s m args below meth c H locs cells slots Q (F0 m tgt ls rest)) (k2 : E2 = some z → W p l e R s m args below meth c H locs cells slots Q (F0 m (pc + 3) ls rest)) : W p l e R s m args below meth c H locs cells slots Q (F0 m pc ls (.int y :: .int x :: rest)) :=
  lv_icmp_ne hexec hb hdg ht (fun h => k1 (by rw [if_neg h] at hf; exact hf)) (fun h => k2 (by first | (rw [if_pos h] at hf; exact hf) | (rw [if_pos (Classical.not_not.mp h)] at hf; exact hf)))
theorem z_if_ne (hexec : p.tables.exec = Jvm.exec) (hb : c.code = cc) {x : Int32} {off : Int} {tgt : Nat} (hdg : decode cc pc = .ok (.ifCond .ne off, 3)) (ht : (pc : Int) + off = (tgt : Int)) {E1 E2 : Option ρ} (hf : (if x = 0 then E2 else E1) = some z) (k1 : E1 = some z → W p l e R s m args below meth c H locs cells slots Q (F0 m tgt ls rest)) (k2 : E2 = some z → W p l e R s m args below meth c H locs cells slots Q (F0 m (pc + 3) ls rest)) : W p l e R s m args below meth c H locs cells slots Q (F0 m pc ls (.int x :: rest)) :=
  lv_if_ne hexec hb hdg ht (fun h => k1 (by rw [if_neg h] at hf; exact hf)) (fun h => k2 (by first | (rw [if_pos h] at hf; exact hf) | (rw [if_pos (Classical.not_not.mp h)] at hf; exact hf)))
theorem z_lc_lt (hexec : p.tables.exec = Jvm.exec) (hb : c.code = cc) {x y : Int64} {off : Int} {tgt : Nat} (hd1 : decode cc pc = .ok (.lcmp, 1)) (hdg : decode cc (pc + 1) = .ok (.ifCond .lt off, 3)) (ht : ((pc + 1 : Nat) : Int) + off = (tgt : Int)) {E1 E2 : Option ρ} (hf : (if x < y then E1 else E2) = some z) (k1 : E1 = some z → W p l e R s m args below meth c H locs cells slots Q (F0 m tgt ls rest)) (k2 : E2 = some z → W p l e R s m args below meth c H locs cells slots Q (F0 m (pc + 1 + 3) ls rest)) : W p l e R s m args below meth c H locs cells slots Q (F0 m pc ls (.long y :: .long x :: rest)) :=
  W.lcmp hexec hb hd1 (lv_if_lt hexec hb hdg ht (fun h => k1 (by rw [if_pos ((lg_cmp_lt x y).mp h)] at hf; exact hf)) (fun h => k2 (by rw [if_neg (fun q => h ((lg_cmp_lt x y).mpr q))] at hf; exact hf)))
theorem z_lc_ge (hexec : p.tables.exec = Jvm.exec) (hb : c.code = cc) {x y : Int64} {off : Int} {tgt : Nat} (hd1 : decode cc pc = .ok (.lcmp, 1)) (hdg : decode cc (pc + 1) = .ok (.ifCond .ge off, 3)) (ht : ((pc + 1 : Nat) : Int) + off = (tgt : Int)) {E1 E2 : Option ρ} (hf : (if y ≤ x then E1 else E2) = some z) (k1 : E1 = some z → W p l e R s m args below meth c H locs cells slots Q (F0 m tgt ls rest)) (k2 : E2 = some z → W p l e R s m args below meth c H locs cells slots Q (F0 m (pc + 1 + 3) ls rest)) : W p l e R s m args below meth c H locs cells slots Q (F0 m pc ls (.long y :: .long x :: rest)) :=
  W.lcmp hexec hb hd1 (lv_if_ge hexec hb hdg ht (fun h => k1 (by rw [if_pos ((lg_cmp_ge x y).mp h)] at hf; exact hf)) (fun h => k2 (by rw [if_neg (fun q => h ((lg_cmp_ge x y).mpr q))] at hf; exact hf)))
theorem z_lc_gt (hexec : p.tables.exec = Jvm.exec) (hb : c.code = cc) {x y : Int64} {off : Int} {tgt : Nat} (hd1 : decode cc pc = .ok (.lcmp, 1)) (hdg : decode cc (pc + 1) = .ok (.ifCond .gt off, 3)) (ht : ((pc + 1 : Nat) : Int) + off = (tgt : Int)) {E1 E2 : Option ρ} (hf : (if y < x then E1 else E2) = some z) (k1 : E1 = some z → W p l e R s m args below meth c H locs cells slots Q (F0 m tgt ls rest)) (k2 : E2 = some z → W p l e R s m args below meth c H locs cells slots Q (F0 m (pc + 1 + 3) ls rest)) : W p l e R s m args below meth c H locs cells slots Q (F0 m pc ls (.long y :: .long x :: rest)) :=
  W.lcmp hexec hb hd1 (lv_if_gt hexec hb hdg ht (fun h => k1 (by rw [if_pos ((lg_cmp_gt x y).mp h)] at hf; exact hf)) (fun h => k2 (by rw [if_neg (fun q => h ((lg_cmp_gt x y).mpr q))] at hf; exact hf)))
theorem z_lc_le (hexec : p.tables.exec = Jvm.exec) (hb : c.code = cc) {x y : Int64} {off : Int} {tgt : Nat} (hd1 : decode cc pc = .ok (.lcmp, 1)) (hdg : decode cc (pc + 1) = .ok (.ifCond .le off, 3)) (ht : ((pc + 1 : Nat) : Int) + off = (tgt : Int)) {E1 E2 : Option ρ} (hf : (if x ≤ y then E1 else E2) = some z) (k1 : E1 = some z → W p l e R s m args below meth c H locs cells slots Q (F0 m tgt ls rest)) (k2 : E2 = some z → W p l e R s m args below meth c H locs cells slots Q (F0 m (pc + 1 + 3) ls rest)) : W p l e R s m args below meth c H locs cells slots Q (F0 m pc ls (.long y :: .long x :: rest)) :=
  W.lcmp hexec hb hd1 (lv_if_le hexec hb hdg ht (fun h => k1 (by rw [if_pos ((lg_cmp_le x y).mp h)] at hf; exact hf)) (fun h => k2 (by rw [if_neg (fun q => h ((lg_cmp_le x y).mpr q))] at hf; exact hf)))
theorem z_lc_eq (hexec : p.tables.exec = Jvm.exec) (hb : c.code = cc) {x y : Int64} {off : Int} {tgt : Nat} (hd1 : decode cc pc = .ok (.lcmp, 1)) (hdg : decode cc (pc + 1) = .ok (.ifCond .eq off, 3)) (ht : ((pc + 1 : Nat) : Int) + off = (tgt : Int)) {E1 E2 : Option ρ} (hf : (if x = y then E1 else E2) = some z) (k1 : E1 = some z → W p l e R s m args below meth c H locs cells slots Q (F0 m tgt ls rest)) (k2 : E2 = some z → W p l e R s m args below meth c H locs cells slots Q (F0 m (pc + 1 + 3) ls rest)) : W p l e R s m args below meth c H locs cells slots Q (F0 m pc ls (.long y :: .long x :: rest)) :=
  W.lcmp hexec hb hd1 (lv_if_eq hexec hb hdg ht (fun h => k1 (by rw [if_pos ((lg_cmp_eq x y).mp h)] at hf; exact hf)) (fun h => k2 (by rw [if_neg (fun q => h ((lg_cmp_eq x y).mpr q))] at hf; exact hf)))
theorem z_lc_ne (hexec : p.tables.exec = Jvm.exec) (hb : c.code = cc) {x y : Int64} {off : Int} {tgt : Nat} (hd1 : decode cc pc = .ok (.lcmp, 1)) (hdg : decode cc (pc + 1) = .ok (.ifCond .ne off, 3)) (ht : ((pc + 1 : Nat) : Int) + off = (tgt : Int)) {E1 E2 : Option ρ} (hf : (if x = y then E2 else E1) = some z) (k1 : E1 = some z → W p l e R s m args below meth c H locs cells slots Q (F0 m tgt ls rest)) (k2 : E2 = some z → W p l e R s m args below meth c H locs cells slots Q (F0 m (pc + 1 + 3) ls rest)) : W p l e R s m args below meth c H locs cells slots Q (F0 m pc ls (.long y :: .long x :: rest)) :=
  W.lcmp hexec hb hd1 (lv_if_ne hexec hb hdg ht (fun h => k1 (by rw [if_neg (fun q => h ((lg_cmp_eq x y).mpr q))] at hf; exact hf)) (fun h => k2 (by first | (rw [if_pos ((lg_cmp_eq x y).mp h)] at hf; exact hf) | (rw [if_pos ((lg_cmp_eq x y).mp (Classical.not_not.mp h))] at hf; exact hf))))
end ZB
/-- nest mates' calls -/
def zNl : List (String × Nat × MethodName × String) := [(RX9, 18, yX7_init, RX9), (RX9, 34, yX3_init, RX9), (RX9, 41, yX0_init, RX9), (RX9, 79, yX6_init, RX9), (RX0, 22, yX9_isNearTrial, RX9), (RX2, 48, yX9_figure, RX9), (RX4, 46, yX9_figure, RX9), (RX5, 99, yX9_isPart, RX9), (RX8, 48, yX9_figure, RX9), (RX2, 84, yX9_isNearTrial, RX9)]
def zLeast (j : Nat) : Int32 := ([1, 0, 0, 0, 0, 0, 0] : List Int32).getD j 0
def zMost (j : Nat) : Int32 := ([20, 10, 20, 99, 999, 99, 60] : List Int32).getD j 0
/-- what the statics hold: addresses 100 LEAST, 101 MOST, 102 the text of words, 103 its bytes -/
def zText : String := "area  falls plate hits  other slip  limit "
def zTextB : List Int32 := [97, 114, 101, 97, 32, 32, 102, 97, 108, 108, 115, 32, 112, 108, 97, 116, 101, 32, 104, 105, 116, 115, 32, 32, 111, 116, 104, 101, 114, 32, 115, 108, 105, 112, 32, 32, 108, 105, 109, 105, 116, 32]
def zR (ad : Nat → Nat) (A : Nat → Prop) (U : State) (H : Heap) : Prop :=
  (va_Z RX5 "LEAST" "[I" (.ref (ad 100)) A U H ∧ va_T .int (ad 100) 7 (fun j => .int (zLeast j)) A U H) ∧ (va_Z RX5 "MOST" "[I" (.ref (ad 101)) A U H ∧ va_T .int (ad 101) 7 (fun j => .int (zMost j)) A U H) ∧
  vk_S 1 [42] [zTextB] (fun _ => ad 102) (fun _ => ad 103) A U H ∧ va_Z "java/lang/String" "COMPACT_STRINGS" "Z" (.int 1) A U H ∧ va_Zq "jdk/internal/util/Preconditions" "SIOOBE_FORMATTER" "Ljava/util/function/BiFunction;" A U H
def zF (ad : Nat → Nat) (A : Nat → Prop) (U : State) : Prop := (∀ q ∈ zNl, va_Nw (.methodLinkNest q.1 q.2.1 q.2.2.1 q.2.2.2) U) ∧ vk_R RX5 69 zText (ad 102) U ∧ zR ad A U U.heap
theorem zR.moved {ad : Nat → Nat} {A : Nat → Prop} {u U : State} {H : Heap} (hvm : u.vm.Alike U.vm) (h : zR ad A u H) : zR ad A U H := by
  obtain ⟨⟨a1, a2⟩, ⟨b1, b2⟩, c1, d1, e1⟩ := h
  exact ⟨⟨a1.moved hvm, a2.moved hvm⟩, ⟨b1.moved hvm, b2.moved hvm⟩, c1.moved hvm, d1.moved hvm, e1.moved hvm⟩
theorem zR.kept {ad : Nat → Nat} {A : Nat → Prop} {U : State} {H H1 : Heap} (h : zR ad A U H) (hq : ∀ a : Nat, a < H.size → ¬ A a → H1[a]? = H[a]?) : zR ad A U H1 := by
  obtain ⟨⟨a1, a2⟩, ⟨b1, b2⟩, c1, d1, e1⟩ := h
  exact ⟨⟨a1.kept hq, a2.kept hq⟩, ⟨b1.kept hq, b2.kept hq⟩, c1.kept hq, d1.kept hq, e1.kept hq⟩
theorem zR.narrow {ad : Nat → Nat} {A B : Nat → Prop} {U : State} {H : Heap} (h : zR ad A U H) (hAB : ∀ q, B q → A q) : zR ad B U H := by
  obtain ⟨⟨a1, a2⟩, ⟨b1, b2⟩, c1, d1, e1⟩ := h
  exact ⟨⟨a1.narrow hAB, a2.narrow hAB⟩, ⟨b1.narrow hAB, b2.narrow hAB⟩, c1.narrow hAB, d1.narrow hAB, e1.narrow hAB⟩
theorem zF.go {ad : Nat → Nat} {A B : Nat → Prop} {s U : State} {H : Heap} {locs : List Loc} (h : zF ad A s) (hS : va_S A s.heap H locs) (hAB : ∀ q, B q → A q) (hU : U.heap = H) (hW : s.WarmedH U.vm) : zF ad B U := by
  obtain ⟨h1, h2, h3⟩ := h
  exact ⟨fun q hq => va_Nw.warmM hW (h1 q hq), h2.warm hW, by rw [hU]; exact ((h3.kept hS.2.1).narrow hAB).moved hW.alike⟩
theorem zF.blind {ad : Nat → Nat} {A : Nat → Prop} {U : State} {g : JFrame} {mk : MethodId} {a : Array Value} (h : zF ad A U) : zF ad A (U.calling g mk a) := by
  obtain ⟨h1, h2, h3⟩ := h
  exact ⟨fun q hq => va_Nw.same rfl (rfl : U.vm = (U.calling g mk a).vm) (h1 q hq), vk_R.same (rfl : (U.calling g mk a).vm = U.vm) h2, zR.moved (u := U) (U := U.calling g mk a) (Vm.Alike.refl U.vm) h3⟩
abbrev zTY (cy : Nat → ClassId) : List (ClassId × FieldType) := [(cy 0, .int), (cy 1, .byte), (cy 2, .long), (cy 3, .boolean), (cy 4, .object RX6), (cy 5, .array .int)]
/-- the world, as it stands in a method that began at s -/
def zIn (D : va_G) (ad : Nat → Nat) (cy : Nat → ClassId) (w : va_W) (A : Nat → Prop) (s : State) (H : Heap) (locs : List Loc) : Prop :=
  va_K D vwCl (zTY cy) s ∧ va_P D vwCl w H ∧ va_D A w ∧ va_S A s.heap H locs ∧ (∀ q, s.heap.size ≤ q → A q) ∧ zF ad A s
def zPre (D : va_G) (ad : Nat → Nat) (cy : Nat → ClassId) (w : va_W) (sz : Nat) : State → Prop := fun U => U.heap.size = sz ∧ va_P D vwCl w U.heap ∧ va_K D vwCl (zTY cy) U ∧ va_D (fun _ => True) w ∧ zF ad (va_A w sz) U
def zQc (D : va_G) (cy : Nat → ClassId) (A : Nat → Prop) (o : Option Value) (w' : va_W) : Array Value → State → Outcome → State → Prop := fun _ st oc t => (oc = .returned o ∧ va_P D vwCl w' t.heap ∧ va_K D vwCl (zTY cy) t ∧ va_D A w') ∧ va_F A st t
/-- a contract: from the world w, with these arguments, o comes back and the world is w' -/
def zCt (l : Launch) (y : MethodName) (ws : List Cond) (rm : Room) (D : va_G) (ad : Nat → Nat) (cy : Nat → ClassId) (av : List Value) (w : va_W) (o : Option Value) (w' : va_W) : Prop :=
  ∀ sz, Met l y ws rm (va_Pc av (zPre D ad cy w sz)) (zQc D cy (va_A w sz) o w') 0 0 (va_A w sz)
/-- a contract of a method that reads and writes no cell -/
def zSt (l : Launch) (y : MethodName) (ws : List Cond) (rm : Room) (av : List Value) (o : Option Value) : Prop :=
  Met l y ws rm (va_Pc av (fun _ => True)) (fun _ st oc t => oc = .returned o ∧ t.heap = st.heap) 0 0 (fun _ => False)
def zFix (p : Program) (m : MethodId) (c : Code) (cc : ByteArray) (nL : Nat) (s : State) (args : Array Value) (Ts : List Cond) (own : String) (meth : Method) (ret : Option FieldType) : Prop :=
  p.tables.exec = Jvm.exec ∧ c.code = cc ∧ c.maxLocals = nL ∧ s.vm.findClass own = some m.cls ∧ (∀ w ∈ Ts, w.before args s = true) ∧ meth.sig.returnType = ret ∧ meth.locks = false
def zMQ (D : va_G) (cy : Nat → ClassId) (below : List Frame) (args : Array Value) (s : State) (A : Nat → Prop) (o : Option Value) (w' : va_W) : State → Prop := MQ below (zQc D cy A o w') args s 0 0 A
def zMS (below : List Frame) (args : Array Value) (s : State) (o : Option Value) : State → Prop := MQ below (fun _ st oc t => oc = .returned o ∧ t.heap = st.heap) args s 0 0 (fun _ => False)
theorem zCt.of {l : Launch} {y : MethodName} {ws ws' : List Cond} {rm : Room} {D : va_G} {ad : Nat → Nat} {cy : Nat → ClassId} {av : List Value} {w w' : va_W} {o : Option Value} {cc : ByteArray} {maxL : Nat} {ret : Option FieldType} {own : String}
    (hy : plainName y.cls = true) (ho : y.cls = own) (hw : ws = Cond.code y cc maxL ret :: ws')
    (body : ∀ (p : Program) (e : Env) (s : State) (m : MethodId) (below : List Frame) (meth : Method) (c : Code) (A : Nat → Prop), zFix p m c cc maxL s av.toArray ws own meth ret → zIn D ad cy w A s s.heap [] →
      W p l e rm s m av.toArray below meth c s.heap [] 0 0 (zMQ D cy below av.toArray s A o w') (entryFrame m av.toArray maxL)) : zCt l y ws rm D ad cy av w o w' := by
  intro sz
  refine Met.ofW (cc := cc) (maxL := maxL) (ret := ret) hy hw ?_
  intro p e s m args below meth c s₁ B hml hv
  obtain ⟨rfl, hsz, hP, hK, hD0, hF⟩ := hv
  subst hsz
  exact body p e s m below meth c (va_A w s.heap.size) ⟨B.exec, B.bytes, hml, by rw [← ho]; exact findClass_of_methodNamed B.named, atoms_spec (ws := ws) B.pre, B.returns, B.notSynchronized⟩ ⟨hK, hP, hD0.self, va_S.rf, fun q h => Or.inr h, hF⟩
theorem zSt.of {l : Launch} {y : MethodName} {ws ws' : List Cond} {rm : Room} {av : List Value} {o : Option Value} {cc : ByteArray} {maxL : Nat} {ret : Option FieldType} {own : String}
    (hy : plainName y.cls = true) (ho : y.cls = own) (hw : ws = Cond.code y cc maxL ret :: ws')
    (body : ∀ (p : Program) (e : Env) (s : State) (m : MethodId) (below : List Frame) (meth : Method) (c : Code), zFix p m c cc maxL s av.toArray ws own meth ret →
      W p l e rm s m av.toArray below meth c s.heap [] 0 0 (zMS below av.toArray s o) (entryFrame m av.toArray maxL)) : zSt l y ws rm av o := by
  refine Met.ofW (cc := cc) (maxL := maxL) (ret := ret) hy hw ?_
  intro p e s m args below meth c s₁ B hml hv
  obtain ⟨rfl, -⟩ := hv
  exact body p e s m below meth c ⟨B.exec, B.bytes, hml, by rw [← ho]; exact findClass_of_methodNamed B.named, atoms_spec (ws := ws) B.pre, B.returns, B.notSynchronized⟩
theorem zPc_blind {D : va_G} {ad : Nat → Nat} {cy : Nat → ClassId} {w : va_W} {sz : Nat} {av : List Value} : FrameBlind (va_Pc av (zPre D ad cy w sz)) := by
  intro a U g mk q
  obtain ⟨q0, q1, qP, qK, qD, qF⟩ := q
  exact ⟨q0, q1, qP, va_K.moved (u := U) (U := U.calling g mk a) (Vm.Alike.refl U.vm) qK, qD, qF.blind⟩
section ZC
variable {p : Program} {l : Launch} {e : Env} {R : Room} {s : State} {m : MethodId} {args : Array Value} {below : List Frame} {meth : Method} {c : Code} {H : Heap} {locs : List Loc} {cells slots : Nat} {Q : State → Prop}
variable {cc bytes : ByteArray} {pc : Nat} {ls : Array Slot} {rest st0 : List Value} {ρ : Type} {z : ρ} {D : va_G} {ad : Nat → Nat} {cy : Nat → ClassId} {A : Nat → Prop} {w w' : va_W} {o : Option Value}
variable {y : MethodName} {ws : List Cond} {rm : Room} {Ts : List Cond} {own C host : String} {index maxL nL n : Nat} {ret : Option FieldType} {b : Nat} {As : List Value}
theorem zIn.free (hI : zIn D ad cy w A s H locs) : ∀ q, va_A w H.size q → A q := by
  obtain ⟨hK, hP, hD, hS, hA, hF⟩ := hI
  intro q hq
  rcases hq with ⟨k, e, h⟩ | h
  · exact hD.2 k _ h
  · exact hA q (Nat.le_trans hS.1 h)
theorem zIn.pre (hI : zIn D ad cy w A s H locs) (av : List Value) : ∀ U : State, U.heap = H → s.WarmedH U.vm → va_Pc av (zPre D ad cy w H.size) av.toArray U := by
  intro U hU hW
  have hfr := hI.free
  obtain ⟨hK, hP, hD, hS, hA, hF⟩ := hI
  exact ⟨rfl, by rw [hU], by rw [hU]; exact hP, va_K.moved hW.alike hK, hD.weaken (fun _ _ _ _ => trivial), hF.go hS hfr hU hW⟩
theorem zIn.back (hI : zIn D ad cy w A s H locs) {st₀ t T' : State} {L : List Loc} (h0 : st₀.heap = H) (hL : ∀ q ∈ L, va_A w H.size q.base) (e1 : T'.heap = t.heap) (hP1 : va_P D vwCl w' t.heap) (hD1 : va_D (va_A w H.size) w') (hFr : va_F (va_A w H.size) st₀ t) : zIn D ad cy w' A s T'.heap (locs ++ L) := by
  have hfr := hI.free
  obtain ⟨hK, hP, hD, hS, hA, hF⟩ := hI
  obtain ⟨hz, hk⟩ := hFr
  rw [h0] at hz hk
  refine ⟨hK, by rw [e1]; exact hP1, hD1.weaken (fun k q hk h => hfr _ h), ⟨Nat.le_trans hS.1 (by rw [e1]; exact hz), fun q h1 h2 => ?_, fun q hq => ?_⟩, hA, hF⟩
  · rw [e1, hk q (Nat.lt_of_lt_of_le h1 hS.1) (fun h => h2 (hfr q h))]
    exact hS.2.1 q h1 h2
  · rcases List.mem_append.mp hq with h | h
    · exact hS.2.2 q h
    · exact hfr _ (hL q h)
theorem zRunW {g : JFrame} (hI : zIn D ad cy w A s H locs) {av : Array Value} (hr : va_Run p l e R s m args below meth c H locs cells slots 0 0 (F0 m pc ls st0) rest (zQc D cy (va_A w H.size) o w' av) (va_A w H.size))
    (kk : ∀ (H1 : Heap) (locs1 : List Loc), zIn D ad cy w' A s H1 locs1 → W p l e R s m args below meth c H1 locs1 cells slots Q (F0 m (pc + 3) ls (o.toList ++ rest))) : W p l e R s m args below meth c H locs cells slots Q (F0 m pc ls st0) := by
  intro T hT X
  obtain ⟨v, st₀, t, T', L, h0, X', hL, e1, e2, ⟨⟨hv, hP1, hK1, hD1⟩, hFr⟩, st⟩ := hr T hT X
  cases hv
  obtain ⟨t2, a1, b1⟩ := kk T'.heap (locs ++ L) (hI.back h0 hL e1 hP1 hD1 hFr) T' rfl X'
  exact ⟨t2, st t2 a1, b1⟩
theorem zcallV {ci q0 : Nat} {fs : List Value} {T : u_T} {N : Nat} (S : CallFix p m c cc nL s args Ts own) (hM : zCt l y ws rm D ad cy (.ref b :: As) w o w') (cw : CallW R s args own C index y bytes maxL ret ws rm 0 0 n) (hI : zIn D ad cy w A s H locs) (hc : vwCl[ci]? = some (C, T, N)) (he : w[q0]? = some (b, .inr (ci, fs)))
    (hn : As.length = n) (hsize : ls.size = nL) (hst : st0 = As.reverse ++ .ref b :: rest) (hW : (rest.map fun v => v.category).sum ≤ 8) (hdg : decode cc pc = .ok (.invokevirtual index, 3)) (hcs : cells ≤ R.cells) (hss : slots ≤ R.slots)
    (kk : ∀ (H1 : Heap) (locs1 : List Loc), zIn D ad cy w' A s H1 locs1 → W p l e R s m args below meth c H1 locs1 cells slots Q (F0 m (pc + 3) ls (o.toList ++ rest))) : W p l e R s m args below meth c H locs cells slots Q (F0 m pc ls st0) := by
  subst hst
  exact zRunW (g := F0 m pc ls []) hI (va_runV (g := F0 m pc ls (As.reverse ++ .ref b :: rest)) S (hM H.size) cw ⟨zPc_blind, va_recv hI.1 hI.2.1 hc he, hI.pre _⟩ rfl hn hsize rfl (lv_room hW) hdg ⟨hcs, hss⟩) kk
theorem zcallSW (S : CallFix p m c cc nL s args Ts own) (hM : zCt l y ws rm D ad cy As w o w') (cw : CallB R s args own index y bytes maxL ret ws rm 0 0 n ∧ (Cond.static y).before args s = true) (hI : zIn D ad cy w A s H locs)
    (hn : As.length = n) (hsize : ls.size = nL) (hst : st0 = As.reverse ++ rest) (hW : (rest.map fun v => v.category).sum ≤ 8) (hdg : decode cc pc = .ok (.invokestatic index, 3)) (hcs : cells ≤ R.cells) (hss : slots ≤ R.slots)
    (kk : ∀ (H1 : Heap) (locs1 : List Loc), zIn D ad cy w' A s H1 locs1 → W p l e R s m args below meth c H1 locs1 cells slots Q (F0 m (pc + 3) ls (o.toList ++ rest))) : W p l e R s m args below meth c H locs cells slots Q (F0 m pc ls st0) := by
  subst hst
  exact zRunW (g := F0 m pc ls []) hI (va_runS (g := F0 m pc ls (As.reverse ++ rest)) S (hM H.size) cw ⟨zPc_blind, hI.pre _⟩ rfl hn hsize rfl (lv_room hW) hdg ⟨hcs, hss⟩) kk
theorem zRunS {a : Array Value} (hr : va_Run p l e R s m args below meth c H locs cells slots 0 0 (F0 m pc ls st0) rest ((fun _ st oc t => oc = .returned o ∧ t.heap = st.heap : Array Value → State → Outcome → State → Prop) a) (fun _ => False))
    (kk : W p l e R s m args below meth c H locs cells slots Q (F0 m (pc + 3) ls (o.toList ++ rest))) : W p l e R s m args below meth c H locs cells slots Q (F0 m pc ls st0) := by
  intro T hT X
  obtain ⟨v, st₀, t, T', L, h0, X', hL, e1, e2, ⟨hv, hh⟩, st⟩ := hr T hT X
  cases hv
  obtain ⟨t2, a1, b1⟩ := kk T' (by rw [e1, hh, h0]) (Stand.forget X' (fun q h => (hL q h).elim))
  exact ⟨t2, st t2 a1, b1⟩
theorem zS_blind {av : List Value} : FrameBlind (va_Pc av (fun _ => True)) := fun _ _ _ _ q => ⟨q.1, trivial⟩
theorem zcallS (S : CallFix p m c cc nL s args Ts own) (hM : zSt l y ws rm As o) (cw : CallB R s args own index y bytes maxL ret ws rm 0 0 n ∧ (Cond.static y).before args s = true)
    (hn : As.length = n) (hsize : ls.size = nL) (hst : st0 = As.reverse ++ rest) (hW : (rest.map fun v => v.category).sum ≤ 8) (hdg : decode cc pc = .ok (.invokestatic index, 3)) (hcs : cells ≤ R.cells) (hss : slots ≤ R.slots)
    (kk : W p l e R s m args below meth c H locs cells slots Q (F0 m (pc + 3) ls (o.toList ++ rest))) : W p l e R s m args below meth c H locs cells slots Q (F0 m pc ls st0) := by
  subst hst
  exact zRunS (a := As.toArray) (va_runS (g := F0 m pc ls (As.reverse ++ rest)) S hM cw ⟨zS_blind, fun _ _ _ => ⟨rfl, trivial⟩⟩ rfl hn hsize rfl (lv_room hW) hdg ⟨hcs, hss⟩) kk
theorem zcallSN (S : CallFix p m c cc nL s args Ts own) (hM : zSt l y ws rm As o) (cw : va_CN R s args own index y host bytes maxL ret ws rm 0 0 n ∧ (Cond.static y).before args s = true ∧ True)
    (hn : As.length = n) (hsize : ls.size = nL) (hst : st0 = As.reverse ++ rest) (hW : (rest.map fun v => v.category).sum ≤ 8) (hdg : decode cc pc = .ok (.invokestatic index, 3)) (hcs : cells ≤ R.cells) (hss : slots ≤ R.slots)
    (kk : W p l e R s m args below meth c H locs cells slots Q (F0 m (pc + 3) ls (o.toList ++ rest))) : W p l e R s m args below meth c H locs cells slots Q (F0 m pc ls st0) := by
  subst hst
  exact zRunS (a := As.toArray) (va_runSN (g := F0 m pc ls (As.reverse ++ rest)) S hM cw ⟨zS_blind, fun _ _ _ => ⟨rfl, trivial⟩⟩ rfl hn hsize rfl (lv_room hW) hdg ⟨hcs, hss⟩) kk
theorem z_get {C : String} {T : u_T} {N ci q0 a : Nat} {fs : List Value} (hexec : p.tables.exec = Jvm.exec) (hb : c.code = cc) (hts : ∀ w ∈ Ts, w.before args s = true) (hin : ∀ w ∈ u_ws C T N, w ∈ Ts) (hown : s.vm.findClass own = some m.cls) (hI : zIn D ad cy w A s H locs) (he : w[q0]? = some (a, .inr (ci, fs))) (hc : vwCl[ci]? = some (C, T, N)) (k : Nat) (hk : k < N) (hlink : Cond.fieldLink own index C (T k).2.1 (T k).2.2.1 ∈ Ts) (hT1 : (T k).1 = C) {v : Value} (hv : fs[k]? = some v) (hdg : decode cc pc = .ok (.getfield index, 3))
    (kk : W p l e R s m args below meth c H locs cells slots Q (F0 m (pc + 3) ls (v :: rest))) : W p l e R s m args below meth c H locs cells slots Q (F0 m pc ls (.ref a :: rest)) :=
  va_get hexec hb hts hin hown hI.1 hI.2.1 q0 he hc k hk (hts _ hlink) (fun x h => by rw [hT1] at h; exact h) hv hdg kk
theorem z_put {σ : Type} {C : String} {T : u_T} {N ci q0 a : Nat} {fs : List Value} {wf : σ → va_W} {u' : σ} {f : σ → Option ρ} (hexec : p.tables.exec = Jvm.exec) (hb : c.code = cc) (hts : ∀ w ∈ Ts, w.before args s = true) (hin : ∀ w ∈ u_ws C T N, w ∈ Ts) (ty0 : Nat → FieldType) (hty : ∀ k, k < N → parseFieldDescriptor (T k).2.2.1 = some (ty0 k)) (hnm : ∀ a, a < N → ∀ b, b < N → a ≠ b → (T a).2.1 ≠ (T b).2.1) (hown : s.vm.findClass own = some m.cls) (hI : zIn D ad cy w A s H locs) (he : w[q0]? = some (a, .inr (ci, fs))) (hc : vwCl[ci]? = some (C, T, N)) (k : Nat) (hk : k < N) (hlink : Cond.fieldLink own index C (T k).2.1 (T k).2.2.1 ∈ Ts) (hT1 : (T k).1 = C) (hfin : (T k).2.2.2 = false) {v : Value} (hn : narrow (ty0 k) v = v) (hfit : fits (ty0 k) v = true) (hl : k < fs.length)
    (hdg : decode cc pc = .ok (.putfield index, 3)) (hset : w.set q0 (a, .inr (ci, fs.set k v)) = wf u') (hf : zb u' f = some z) (kk : ∀ (u : σ) (H1 : Heap) (locs1 : List Loc), zIn D ad cy (wf u) A s H1 locs1 → f u = some z → W p l e R s m args below meth c H1 locs1 cells slots Q (F0 m (pc + 3) ls rest)) : W p l e R s m args below meth c H locs cells slots Q (F0 m pc ls (v :: .ref a :: rest)) := by
  obtain ⟨hK, hP, hD, hS, hA, hF⟩ := hI
  refine va_put hexec hb hts hin ty0 hty hnm hown hK hP hD hS q0 he hc k hk (hts _ hlink) (fun x h => by rw [hT1] at h; exact h) hfin (hty k hk) hn hfit hl hdg (fun H1 locs1 hP hD hS => ?_)
  rw [hset] at hP hD
  exact kk u' H1 locs1 ⟨hK, hP, hD, hS, hA, hF⟩ hf

theorem z_iald {q0 a nn : Nat} {cA : ClassId} {f : Nat → Int32} (hexec : p.tables.exec = Jvm.exec) (hb : c.code = cc) (hI : zIn D ad cy w A s H locs) (ha : w[q0]? = some (a, .inl (cA, nn, .inl f))) (t0 : Nat) (ht : (zTY cy)[t0]? = some (cA, .int)) {i : Int32} {g : Int32 → Option ρ} (hdg : decode cc pc = .ok (.iaload, 1)) (hf : zget nn f i g = some z)
    (kk : ∀ v, g v = some z → W p l e R s m args below meth c H locs cells slots Q (F0 m (pc + 1) ls (.int v :: rest))) : W p l e R s m args below meth c H locs cells slots Q (F0 m pc ls (.int i :: .ref a :: rest)) := by
  unfold zget at hf
  by_cases h : 0 ≤ i.toInt ∧ i.toInt < (nn : Int)
  · rw [if_pos h] at hf
    exact va_iald hexec hb hI.1 hI.2.1 q0 t0 ha ht (zvp h) hdg (kk _ hf)
  · rw [if_neg h] at hf; cases hf
theorem z_bald {q0 a nn : Nat} {cA : ClassId} {f : Nat → Int32} (hexec : p.tables.exec = Jvm.exec) (hb : c.code = cc) (hI : zIn D ad cy w A s H locs) (ha : w[q0]? = some (a, .inl (cA, nn, .inl f))) (t0 : Nat) (ht : (zTY cy)[t0]? = some (cA, .byte)) {i : Int32} {g : Int32 → Option ρ} (hdg : decode cc pc = .ok (.baload, 1)) (hf : zget nn f i g = some z)
    (kk : ∀ v, g v = some z → W p l e R s m args below meth c H locs cells slots Q (F0 m (pc + 1) ls (.int v :: rest))) : W p l e R s m args below meth c H locs cells slots Q (F0 m pc ls (.int i :: .ref a :: rest)) := by
  unfold zget at hf
  by_cases h : 0 ≤ i.toInt ∧ i.toInt < (nn : Int)
  · rw [if_pos h] at hf
    exact va_bald hexec hb hI.1 hI.2.1 q0 t0 ha ht (zvp h) hdg (kk _ hf)
  · rw [if_neg h] at hf; cases hf
theorem z_zald {q0 a nn : Nat} {cA : ClassId} {f : Nat → Int32} (hexec : p.tables.exec = Jvm.exec) (hb : c.code = cc) (hI : zIn D ad cy w A s H locs) (ha : w[q0]? = some (a, .inl (cA, nn, .inl f))) (t0 : Nat) (ht : (zTY cy)[t0]? = some (cA, .boolean)) {i : Int32} {g : Int32 → Option ρ} (hdg : decode cc pc = .ok (.baload, 1)) (hf : zget nn f i g = some z)
    (kk : ∀ v, g v = some z → W p l e R s m args below meth c H locs cells slots Q (F0 m (pc + 1) ls (.int v :: rest))) : W p l e R s m args below meth c H locs cells slots Q (F0 m pc ls (.int i :: .ref a :: rest)) := by
  unfold zget at hf
  by_cases h : 0 ≤ i.toInt ∧ i.toInt < (nn : Int)
  · rw [if_pos h] at hf
    exact va_zald hexec hb hI.1 hI.2.1 q0 t0 ha ht (zvp h) hdg (kk _ hf)
  · rw [if_neg h] at hf; cases hf
theorem z_lald {q0 a nn : Nat} {cA : ClassId} {f : Nat → Int64} (hexec : p.tables.exec = Jvm.exec) (hb : c.code = cc) (hI : zIn D ad cy w A s H locs) (ha : w[q0]? = some (a, .inl (cA, nn, .inr (.inl f)))) (t0 : Nat) (ht : (zTY cy)[t0]? = some (cA, .long)) {i : Int32} {g : Int64 → Option ρ} (hdg : decode cc pc = .ok (.laload, 1)) (hf : zget nn f i g = some z)
    (kk : ∀ v, g v = some z → W p l e R s m args below meth c H locs cells slots Q (F0 m (pc + 1) ls (.long v :: rest))) : W p l e R s m args below meth c H locs cells slots Q (F0 m pc ls (.int i :: .ref a :: rest)) := by
  unfold zget at hf
  by_cases h : 0 ≤ i.toInt ∧ i.toInt < (nn : Int)
  · rw [if_pos h] at hf
    exact va_lald hexec hb hI.1 hI.2.1 q0 t0 ha ht (zvp h) hdg (kk _ hf)
  · rw [if_neg h] at hf; cases hf
theorem z_iast {σ : Type} {q0 a nn : Nat} {cA : ClassId} {f : Nat → Int32} {wf : σ → va_W} {us : Nat → σ} {g : Nat → σ → Option ρ} (hexec : p.tables.exec = Jvm.exec) (hb : c.code = cc) (hI : zIn D ad cy w A s H locs) (ha : w[q0]? = some (a, .inl (cA, nn, .inl f))) (t0 : Nat) (ht : (zTY cy)[t0]? = some (cA, .int)) {i : Int32} {x : Int32} (hdg : decode cc pc = .ok (.iastore, 1)) (hset : ∀ j, w.set q0 (a, .inl (cA, nn, .inl (upd f j x))) = wf (us j)) (hf : zix nn i (fun j => zb (us j) (g j)) = some z)
    (kk : ∀ (j : Nat) (u : σ) (H1 : Heap) (locs1 : List Loc), j < nn → zIn D ad cy (wf u) A s H1 locs1 → g j u = some z → W p l e R s m args below meth c H1 locs1 cells slots Q (F0 m (pc + 1) ls rest)) : W p l e R s m args below meth c H locs cells slots Q (F0 m pc ls (.int x :: .int i :: .ref a :: rest)) := by
  unfold zix at hf
  by_cases h : 0 ≤ i.toInt ∧ i.toInt < (nn : Int)
  · rw [if_pos h] at hf
    obtain ⟨hK, hP, hD, hS, hA, hF⟩ := hI
    refine va_iast hexec hb hK hP hD hS q0 t0 ha ht (zvp h) hdg (fun H1 locs1 hP hD hS => ?_)
    rw [hset] at hP hD
    have hlt : i.toNatClampNeg < nn := Nat.not_le.mp fun q => zvp h (Or.inr q)
    exact kk i.toNatClampNeg (us i.toNatClampNeg) H1 locs1 hlt ⟨hK, hP, hD, hS, hA, hF⟩ hf
  · rw [if_neg h] at hf; cases hf
theorem z_bast {σ : Type} {q0 a nn : Nat} {cA : ClassId} {f : Nat → Int32} {wf : σ → va_W} {us : Nat → σ} {g : Nat → σ → Option ρ} (hexec : p.tables.exec = Jvm.exec) (hb : c.code = cc) (hI : zIn D ad cy w A s H locs) (ha : w[q0]? = some (a, .inl (cA, nn, .inl f))) (t0 : Nat) (ht : (zTY cy)[t0]? = some (cA, .byte)) {i : Int32} {x : Int32} (hdg : decode cc pc = .ok (.bastore, 1)) (hset : ∀ j, w.set q0 (a, .inl (cA, nn, .inl (upd f j (vp_nar .byte x)))) = wf (us j)) (hf : zix nn i (fun j => zb (us j) (g j)) = some z)
    (kk : ∀ (j : Nat) (u : σ) (H1 : Heap) (locs1 : List Loc), j < nn → zIn D ad cy (wf u) A s H1 locs1 → g j u = some z → W p l e R s m args below meth c H1 locs1 cells slots Q (F0 m (pc + 1) ls rest)) : W p l e R s m args below meth c H locs cells slots Q (F0 m pc ls (.int x :: .int i :: .ref a :: rest)) := by
  unfold zix at hf
  by_cases h : 0 ≤ i.toInt ∧ i.toInt < (nn : Int)
  · rw [if_pos h] at hf
    obtain ⟨hK, hP, hD, hS, hA, hF⟩ := hI
    refine va_bast hexec hb hK hP hD hS q0 t0 ha ht (zvp h) hdg (fun H1 locs1 hP hD hS => ?_)
    rw [hset] at hP hD
    have hlt : i.toNatClampNeg < nn := Nat.not_le.mp fun q => zvp h (Or.inr q)
    exact kk i.toNatClampNeg (us i.toNatClampNeg) H1 locs1 hlt ⟨hK, hP, hD, hS, hA, hF⟩ hf
  · rw [if_neg h] at hf; cases hf
theorem z_zast {σ : Type} {q0 a nn : Nat} {cA : ClassId} {f : Nat → Int32} {wf : σ → va_W} {us : Nat → σ} {g : Nat → σ → Option ρ} (hexec : p.tables.exec = Jvm.exec) (hb : c.code = cc) (hI : zIn D ad cy w A s H locs) (ha : w[q0]? = some (a, .inl (cA, nn, .inl f))) (t0 : Nat) (ht : (zTY cy)[t0]? = some (cA, .boolean)) {i : Int32} {x : Int32} (hdg : decode cc pc = .ok (.bastore, 1)) (hset : ∀ j, w.set q0 (a, .inl (cA, nn, .inl (upd f j (vp_nar .boolean x)))) = wf (us j)) (hf : zix nn i (fun j => zb (us j) (g j)) = some z)
    (kk : ∀ (j : Nat) (u : σ) (H1 : Heap) (locs1 : List Loc), j < nn → zIn D ad cy (wf u) A s H1 locs1 → g j u = some z → W p l e R s m args below meth c H1 locs1 cells slots Q (F0 m (pc + 1) ls rest)) : W p l e R s m args below meth c H locs cells slots Q (F0 m pc ls (.int x :: .int i :: .ref a :: rest)) := by
  unfold zix at hf
  by_cases h : 0 ≤ i.toInt ∧ i.toInt < (nn : Int)
  · rw [if_pos h] at hf
    obtain ⟨hK, hP, hD, hS, hA, hF⟩ := hI
    refine va_zast hexec hb hK hP hD hS q0 t0 ha ht (zvp h) hdg (fun H1 locs1 hP hD hS => ?_)
    rw [hset] at hP hD
    have hlt : i.toNatClampNeg < nn := Nat.not_le.mp fun q => zvp h (Or.inr q)
    exact kk i.toNatClampNeg (us i.toNatClampNeg) H1 locs1 hlt ⟨hK, hP, hD, hS, hA, hF⟩ hf
  · rw [if_neg h] at hf; cases hf
theorem z_last {σ : Type} {q0 a nn : Nat} {cA : ClassId} {f : Nat → Int64} {wf : σ → va_W} {us : Nat → σ} {g : Nat → σ → Option ρ} (hexec : p.tables.exec = Jvm.exec) (hb : c.code = cc) (hI : zIn D ad cy w A s H locs) (ha : w[q0]? = some (a, .inl (cA, nn, .inr (.inl f)))) (t0 : Nat) (ht : (zTY cy)[t0]? = some (cA, .long)) {i : Int32} {x : Int64} (hdg : decode cc pc = .ok (.lastore, 1)) (hset : ∀ j, w.set q0 (a, .inl (cA, nn, .inr (.inl (vp_updL f j x)))) = wf (us j)) (hf : zix nn i (fun j => zb (us j) (g j)) = some z)
    (kk : ∀ (j : Nat) (u : σ) (H1 : Heap) (locs1 : List Loc), j < nn → zIn D ad cy (wf u) A s H1 locs1 → g j u = some z → W p l e R s m args below meth c H1 locs1 cells slots Q (F0 m (pc + 1) ls rest)) : W p l e R s m args below meth c H locs cells slots Q (F0 m pc ls (.long x :: .int i :: .ref a :: rest)) := by
  unfold zix at hf
  by_cases h : 0 ≤ i.toInt ∧ i.toInt < (nn : Int)
  · rw [if_pos h] at hf
    obtain ⟨hK, hP, hD, hS, hA, hF⟩ := hI
    refine va_last hexec hb hK hP hD hS q0 t0 ha ht (zvp h) hdg (fun H1 locs1 hP hD hS => ?_)
    rw [hset] at hP hD
    have hlt : i.toNatClampNeg < nn := Nat.not_le.mp fun q => zvp h (Or.inr q)
    exact kk i.toNatClampNeg (us i.toNatClampNeg) H1 locs1 hlt ⟨hK, hP, hD, hS, hA, hF⟩ hf
  · rw [if_neg h] at hf; cases hf
theorem z_aald {q0 a nn : Nat} {cA : ClassId} {f : Nat → Option Nat} {ty : FieldType} (hexec : p.tables.exec = Jvm.exec) (hb : c.code = cc) (hI : zIn D ad cy w A s H locs) (ha : w[q0]? = some (a, .inl (cA, nn, .inr (.inr (.inr (.inr f)))))) (t0 : Nat) (ht : (zTY cy)[t0]? = some (cA, ty)) (hty : ty.isReference = true) {i : Int32} {g : Nat → Option ρ} {F : Nat → Nat} (hF : ∀ j, j < nn → f j = some (F j)) (hdg : decode cc pc = .ok (.aaload, 1)) (hf : zix nn i g = some z)
    (kk : ∀ j, j < nn → g j = some z → W p l e R s m args below meth c H locs cells slots Q (F0 m (pc + 1) ls (.ref (F j) :: rest))) : W p l e R s m args below meth c H locs cells slots Q (F0 m pc ls (.int i :: .ref a :: rest)) := by
  unfold zix at hf
  by_cases h : 0 ≤ i.toInt ∧ i.toInt < (nn : Int)
  · rw [if_pos h] at hf
    have hin := zvp h
    have hlt : i.toNatClampNeg < nn := Nat.not_le.mp fun q => hin (Or.inr q)
    have hcell := hI.2.1 q0 _ ha
    have hcell : H[a]? = some (vp_cell cA (nn, .inr (.inr (.inr (.inr f))))) := hcell
    rw [vp_cell_q] at hcell
    have hA := (hI.1.2 t0 _ ht).1
    refine W.aald hexec hb hcell (ty := ty) (v := .ref (F i.toNatClampNeg)) (hA _ _) hty (by simp [arrV]) (by rw [arrV_size]; exact hin) ?_ rfl rfl hdg (kk _ hlt hf)
    rw [arrV_read _ _ hlt, hF _ hlt]
    rfl
  · rw [if_neg h] at hf; cases hf
theorem z_iret (C0 : zFix p m c cc nL s args Ts own meth (some .int)) (hI : zIn D ad cy w A s H locs) {v : Int32} (hdg : decode cc pc = .ok (.ireturn, 1)) : W p l e R s m args below meth c H locs 0 0 (zMQ D cy below args s A (some (.int v)) w) (F0 m pc ls [.int v]) := by
  obtain ⟨hx, hb, hml, hown, hts, hr, hlk⟩ := C0
  obtain ⟨hK, hP, hD, hS, hA, hF⟩ := hI
  exact W.iret hx hb hr (fun t ht hW => ⟨⟨rfl, by rw [ht]; exact hP, va_K.moved hW.alike hK, hD⟩, hS.F ht⟩) hS.2.2 hdg hlk
theorem z_zret (C0 : zFix p m c cc nL s args Ts own meth (some .boolean)) (hI : zIn D ad cy w A s H locs) {v : Int32} (hn : v = 0 ∨ v = 1) (hdg : decode cc pc = .ok (.ireturn, 1)) : W p l e R s m args below meth c H locs 0 0 (zMQ D cy below args s A (some (.int v)) w) (F0 m pc ls [.int v]) := by
  obtain ⟨hx, hb, hml, hown, hts, hr, hlk⟩ := C0
  obtain ⟨hK, hP, hD, hS, hA, hF⟩ := hI
  exact W.zret hx hb hr (by rcases hn with rfl | rfl <;> rfl) (fun t ht hW => ⟨⟨rfl, by rw [ht]; exact hP, va_K.moved hW.alike hK, hD⟩, hS.F ht⟩) hS.2.2 hdg hlk
theorem z_lret (C0 : zFix p m c cc nL s args Ts own meth (some .long)) (hI : zIn D ad cy w A s H locs) {v : Int64} (hdg : decode cc pc = .ok (.lreturn, 1)) : W p l e R s m args below meth c H locs 0 0 (zMQ D cy below args s A (some (.long v)) w) (F0 m pc ls [.long v]) := by
  obtain ⟨hx, hb, hml, hown, hts, hr, hlk⟩ := C0
  obtain ⟨hK, hP, hD, hS, hA, hF⟩ := hI
  exact W.lret hx hb hr (fun t ht hW => ⟨⟨rfl, by rw [ht]; exact hP, va_K.moved hW.alike hK, hD⟩, hS.F ht⟩) hS.2.2 hdg hlk
theorem z_vret (C0 : zFix p m c cc nL s args Ts own meth none) (hI : zIn D ad cy w A s H locs) (hdg : decode cc pc = .ok (.return_, 1)) : W p l e R s m args below meth c H locs 0 0 (zMQ D cy below args s A none w) (F0 m pc ls []) := by
  obtain ⟨hx, hb, hml, hown, hts, hr, hlk⟩ := C0
  obtain ⟨hK, hP, hD, hS, hA, hF⟩ := hI
  exact W.vret hx hb hr (fun t ht hW => ⟨⟨rfl, by rw [ht]; exact hP, va_K.moved hW.alike hK, hD⟩, hS.F ht⟩) hS.2.2 hdg hlk
theorem z_aret {rt : FieldType} (C0 : zFix p m c cc nL s args Ts own meth (some rt)) (hrt : (∃ n, rt = .object n) ∨ ∃ t, rt = .array t) (hI : zIn D ad cy w A s H locs) {v : Nat} (hdg : decode cc pc = .ok (.areturn, 1)) : W p l e R s m args below meth c H locs 0 0 (zMQ D cy below args s A (some (.ref v)) w) (F0 m pc ls [.ref v]) := by
  obtain ⟨hx, hb, hml, hown, hts, hr, hlk⟩ := C0
  obtain ⟨hK, hP, hD, hS, hA, hF⟩ := hI
  exact W.aret hx hb hr hrt (Or.inr ⟨_, rfl⟩) (fun t ht hW => ⟨⟨rfl, by rw [ht]; exact hP, va_K.moved hW.alike hK, hD⟩, hS.F ht⟩) hS.2.2 hdg hlk
theorem z_siret (C0 : zFix p m c cc nL s args Ts own meth (some .int)) {v : Int32} (hdg : decode cc pc = .ok (.ireturn, 1)) : W p l e R s m args below meth c s.heap [] 0 0 (zMS below args s (some (.int v))) (F0 m pc ls [.int v]) := by
  obtain ⟨hx, hb, hml, hown, hts, hr, hlk⟩ := C0
  exact W.iret hx hb hr (fun t ht hW => ⟨rfl, ht⟩) (fun q h => by cases h) hdg hlk
theorem z_szret (C0 : zFix p m c cc nL s args Ts own meth (some .boolean)) {v : Int32} (hn : v = 0 ∨ v = 1) (hdg : decode cc pc = .ok (.ireturn, 1)) : W p l e R s m args below meth c s.heap [] 0 0 (zMS below args s (some (.int v))) (F0 m pc ls [.int v]) := by
  obtain ⟨hx, hb, hml, hown, hts, hr, hlk⟩ := C0
  exact W.zret hx hb hr (by rcases hn with rfl | rfl <;> rfl) (fun t ht hW => ⟨rfl, ht⟩) (fun q h => by cases h) hdg hlk
theorem z_slret (C0 : zFix p m c cc nL s args Ts own meth (some .long)) {v : Int64} (hdg : decode cc pc = .ok (.lreturn, 1)) : W p l e R s m args below meth c s.heap [] 0 0 (zMS below args s (some (.long v))) (F0 m pc ls [.long v]) := by
  obtain ⟨hx, hb, hml, hown, hts, hr, hlk⟩ := C0
  exact W.lret hx hb hr (fun t ht hW => ⟨rfl, ht⟩) (fun q h => by cases h) hdg hlk
end ZC
theorem zbo_of {β : Type} {v : Int32} {E : Option β} {z : β} (h : zbo v E = some z) : (v = 0 ∨ v = 1) ∧ E = some z := by
  unfold zbo at h
  by_cases q : v = 0 ∨ v = 1
  · rw [if_pos q] at h; exact ⟨q, h⟩
  · rw [if_neg q] at h; cases h
theorem z_entry {m : MethodId} {vs : List Value} {n : Nat} {X : JFrame → Prop} (h : (lg_sl vs).length ≤ n) (k : ∀ ls, lv_has ls n (lv_args 0 vs) → X (F0 m 0 ls [])) : X (entryFrame m vs.toArray n) := by
  have hl := lv_entry vs (n := n) h
  rw [lg_entry_eq]
  exact k _ hl
