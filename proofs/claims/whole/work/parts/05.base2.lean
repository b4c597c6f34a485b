def zel {α β : Type} {γ : Sort _} (x : α ⊕ β) (f : α → γ) (g : β → γ) : γ := match x with
  | .inl a => f a
  | .inr b => g b
theorem z_el1 {α β ρ : Type} {a : α} {f : α → Option ρ} {g : β → Option ρ} {z : ρ} (h : zel (.inl a) f g = some z) : f a = some z := h
theorem z_el2 {α β ρ : Type} {b : β} {f : α → Option ρ} {g : β → Option ρ} {z : ρ} (h : zel (.inr b) f g = some z) : g b = some z := h
theorem z_elP1 {α β : Type} {a : α} {f : α → Prop} {g : β → Prop} (h : zel (.inl a) f g) : f a := h
theorem z_elP2 {α β : Type} {b : β} {f : α → Prop} {g : β → Prop} (h : zel (.inr b) f g) : g b := h
def zminI (x y : Int32) : Int32 := if y < x then y else x
def zmaxI (x y : Int32) : Int32 := if x < y then y else x
def zabsI (x : Int32) : Int32 := if 0 ≤ x then x else 0 - x
def zabsL (x : Int64) : Int64 := if 0 < x then x else -x
def zcpy (f g : Nat → Int32) (n : Nat) : Nat → Int32 := va_cpy f g 0 0 n
/-- the text of words at a place -/
def zchar (i : Int32) : Option Int32 := if 0 ≤ i.toInt ∧ i.toInt < 42 then some (zTextB.getD i.toNatClampNeg 0) else none
section ZD
variable {p : Program} {l : Launch} {e : Env} {R : Room} {s : State} {m : MethodId} {args : Array Value} {below : List Frame} {meth : Method} {c : Code} {H : Heap} {locs : List Loc} {cells slots : Nat} {Q : State → Prop}
variable {cc bytes : ByteArray} {pc : Nat} {ls : Array Slot} {rest st0 : List Value} {ρ : Type} {z : ρ} {D : va_G} {ad : Nat → Nat} {cy : Nat → ClassId} {A : Nat → Prop} {w w' : va_W} {o : Option Value}
variable {y : MethodName} {ws : List Cond} {rm : Room} {Ts : List Cond} {own C host : String} {index maxL nL n : Nat} {ret : Option FieldType} {b : Nat} {As : List Value}
theorem zcallVi {r : Int32} {ci q0 : Nat} {fs : List Value} {T : u_T} {N : Nat} (S : CallFix p m c cc nL s args Ts own) (hM : zCt l y ws rm D ad cy (.ref b :: As) w (some (.int r)) w') (cw : CallW R s args own C index y bytes maxL ret ws rm 0 0 n) (hI : zIn D ad cy w A s H locs) (hc : vwCl[ci]? = some (C, T, N)) (he : w[q0]? = some (b, .inr (ci, fs)))
    (hn : As.length = n) (hsize : ls.size = nL) (hst : st0 = As.reverse ++ .ref b :: rest) (hW : (rest.map fun v => v.category).sum ≤ 8) (hdg : decode cc pc = .ok (.invokevirtual index, 3)) (hcs : cells ≤ R.cells) (hss : slots ≤ R.slots)
    (kk : ∀ (H1 : Heap) (locs1 : List Loc), zIn D ad cy w' A s H1 locs1 → W p l e R s m args below meth c H1 locs1 cells slots Q (F0 m (pc + 3) ls (.int r :: rest))) : W p l e R s m args below meth c H locs cells slots Q (F0 m pc ls st0) := zcallV S hM cw hI hc he hn hsize hst hW hdg hcs hss kk
theorem zcallSWi {r : Int32} (S : CallFix p m c cc nL s args Ts own) (hM : zCt l y ws rm D ad cy As w (some (.int r)) w') (cw : CallB R s args own index y bytes maxL ret ws rm 0 0 n ∧ (Cond.static y).before args s = true) (hI : zIn D ad cy w A s H locs)
    (hn : As.length = n) (hsize : ls.size = nL) (hst : st0 = As.reverse ++ rest) (hW : (rest.map fun v => v.category).sum ≤ 8) (hdg : decode cc pc = .ok (.invokestatic index, 3)) (hcs : cells ≤ R.cells) (hss : slots ≤ R.slots)
    (kk : ∀ (H1 : Heap) (locs1 : List Loc), zIn D ad cy w' A s H1 locs1 → W p l e R s m args below meth c H1 locs1 cells slots Q (F0 m (pc + 3) ls (.int r :: rest))) : W p l e R s m args below meth c H locs cells slots Q (F0 m pc ls st0) := zcallSW S hM cw hI hn hsize hst hW hdg hcs hss kk
theorem zcallSi {r : Int32} (S : CallFix p m c cc nL s args Ts own) (hM : zSt l y ws rm As (some (.int r))) (cw : CallB R s args own index y bytes maxL ret ws rm 0 0 n ∧ (Cond.static y).before args s = true)
    (hn : As.length = n) (hsize : ls.size = nL) (hst : st0 = As.reverse ++ rest) (hW : (rest.map fun v => v.category).sum ≤ 8) (hdg : decode cc pc = .ok (.invokestatic index, 3)) (hcs : cells ≤ R.cells) (hss : slots ≤ R.slots)
    (kk : W p l e R s m args below meth c H locs cells slots Q (F0 m (pc + 3) ls (.int r :: rest))) : W p l e R s m args below meth c H locs cells slots Q (F0 m pc ls st0) := zcallS S hM cw hn hsize hst hW hdg hcs hss kk
theorem zcallSNi {r : Int32} (S : CallFix p m c cc nL s args Ts own) (hM : zSt l y ws rm As (some (.int r))) (cw : va_CN R s args own index y host bytes maxL ret ws rm 0 0 n ∧ (Cond.static y).before args s = true ∧ True)
    (hn : As.length = n) (hsize : ls.size = nL) (hst : st0 = As.reverse ++ rest) (hW : (rest.map fun v => v.category).sum ≤ 8) (hdg : decode cc pc = .ok (.invokestatic index, 3)) (hcs : cells ≤ R.cells) (hss : slots ≤ R.slots)
    (kk : W p l e R s m args below meth c H locs cells slots Q (F0 m (pc + 3) ls (.int r :: rest))) : W p l e R s m args below meth c H locs cells slots Q (F0 m pc ls st0) := zcallSN S hM cw hn hsize hst hW hdg hcs hss kk
theorem zcallVl {r : Int64} {ci q0 : Nat} {fs : List Value} {T : u_T} {N : Nat} (S : CallFix p m c cc nL s args Ts own) (hM : zCt l y ws rm D ad cy (.ref b :: As) w (some (.long r)) w') (cw : CallW R s args own C index y bytes maxL ret ws rm 0 0 n) (hI : zIn D ad cy w A s H locs) (hc : vwCl[ci]? = some (C, T, N)) (he : w[q0]? = some (b, .inr (ci, fs)))
    (hn : As.length = n) (hsize : ls.size = nL) (hst : st0 = As.reverse ++ .ref b :: rest) (hW : (rest.map fun v => v.category).sum ≤ 8) (hdg : decode cc pc = .ok (.invokevirtual index, 3)) (hcs : cells ≤ R.cells) (hss : slots ≤ R.slots)
    (kk : ∀ (H1 : Heap) (locs1 : List Loc), zIn D ad cy w' A s H1 locs1 → W p l e R s m args below meth c H1 locs1 cells slots Q (F0 m (pc + 3) ls (.long r :: rest))) : W p l e R s m args below meth c H locs cells slots Q (F0 m pc ls st0) := zcallV S hM cw hI hc he hn hsize hst hW hdg hcs hss kk
theorem zcallSWl {r : Int64} (S : CallFix p m c cc nL s args Ts own) (hM : zCt l y ws rm D ad cy As w (some (.long r)) w') (cw : CallB R s args own index y bytes maxL ret ws rm 0 0 n ∧ (Cond.static y).before args s = true) (hI : zIn D ad cy w A s H locs)
    (hn : As.length = n) (hsize : ls.size = nL) (hst : st0 = As.reverse ++ rest) (hW : (rest.map fun v => v.category).sum ≤ 8) (hdg : decode cc pc = .ok (.invokestatic index, 3)) (hcs : cells ≤ R.cells) (hss : slots ≤ R.slots)
    (kk : ∀ (H1 : Heap) (locs1 : List Loc), zIn D ad cy w' A s H1 locs1 → W p l e R s m args below meth c H1 locs1 cells slots Q (F0 m (pc + 3) ls (.long r :: rest))) : W p l e R s m args below meth c H locs cells slots Q (F0 m pc ls st0) := zcallSW S hM cw hI hn hsize hst hW hdg hcs hss kk
theorem zcallSl {r : Int64} (S : CallFix p m c cc nL s args Ts own) (hM : zSt l y ws rm As (some (.long r))) (cw : CallB R s args own index y bytes maxL ret ws rm 0 0 n ∧ (Cond.static y).before args s = true)
    (hn : As.length = n) (hsize : ls.size = nL) (hst : st0 = As.reverse ++ rest) (hW : (rest.map fun v => v.category).sum ≤ 8) (hdg : decode cc pc = .ok (.invokestatic index, 3)) (hcs : cells ≤ R.cells) (hss : slots ≤ R.slots)
    (kk : W p l e R s m args below meth c H locs cells slots Q (F0 m (pc + 3) ls (.long r :: rest))) : W p l e R s m args below meth c H locs cells slots Q (F0 m pc ls st0) := zcallS S hM cw hn hsize hst hW hdg hcs hss kk
theorem zcallSNl {r : Int64} (S : CallFix p m c cc nL s args Ts own) (hM : zSt l y ws rm As (some (.long r))) (cw : va_CN R s args own index y host bytes maxL ret ws rm 0 0 n ∧ (Cond.static y).before args s = true ∧ True)
    (hn : As.length = n) (hsize : ls.size = nL) (hst : st0 = As.reverse ++ rest) (hW : (rest.map fun v => v.category).sum ≤ 8) (hdg : decode cc pc = .ok (.invokestatic index, 3)) (hcs : cells ≤ R.cells) (hss : slots ≤ R.slots)
    (kk : W p l e R s m args below meth c H locs cells slots Q (F0 m (pc + 3) ls (.long r :: rest))) : W p l e R s m args below meth c H locs cells slots Q (F0 m pc ls st0) := zcallSN S hM cw hn hsize hst hW hdg hcs hss kk
theorem zcallVv {ci q0 : Nat} {fs : List Value} {T : u_T} {N : Nat} (S : CallFix p m c cc nL s args Ts own) (hM : zCt l y ws rm D ad cy (.ref b :: As) w none w') (cw : CallW R s args own C index y bytes maxL ret ws rm 0 0 n) (hI : zIn D ad cy w A s H locs) (hc : vwCl[ci]? = some (C, T, N)) (he : w[q0]? = some (b, .inr (ci, fs)))
    (hn : As.length = n) (hsize : ls.size = nL) (hst : st0 = As.reverse ++ .ref b :: rest) (hW : (rest.map fun v => v.category).sum ≤ 8) (hdg : decode cc pc = .ok (.invokevirtual index, 3)) (hcs : cells ≤ R.cells) (hss : slots ≤ R.slots)
    (kk : ∀ (H1 : Heap) (locs1 : List Loc), zIn D ad cy w' A s H1 locs1 → W p l e R s m args below meth c H1 locs1 cells slots Q (F0 m (pc + 3) ls (rest))) : W p l e R s m args below meth c H locs cells slots Q (F0 m pc ls st0) := zcallV S hM cw hI hc he hn hsize hst hW hdg hcs hss kk
theorem zcallSWv (S : CallFix p m c cc nL s args Ts own) (hM : zCt l y ws rm D ad cy As w none w') (cw : CallB R s args own index y bytes maxL ret ws rm 0 0 n ∧ (Cond.static y).before args s = true) (hI : zIn D ad cy w A s H locs)
    (hn : As.length = n) (hsize : ls.size = nL) (hst : st0 = As.reverse ++ rest) (hW : (rest.map fun v => v.category).sum ≤ 8) (hdg : decode cc pc = .ok (.invokestatic index, 3)) (hcs : cells ≤ R.cells) (hss : slots ≤ R.slots)
    (kk : ∀ (H1 : Heap) (locs1 : List Loc), zIn D ad cy w' A s H1 locs1 → W p l e R s m args below meth c H1 locs1 cells slots Q (F0 m (pc + 3) ls (rest))) : W p l e R s m args below meth c H locs cells slots Q (F0 m pc ls st0) := zcallSW S hM cw hI hn hsize hst hW hdg hcs hss kk
theorem zcallSv (S : CallFix p m c cc nL s args Ts own) (hM : zSt l y ws rm As none) (cw : CallB R s args own index y bytes maxL ret ws rm 0 0 n ∧ (Cond.static y).before args s = true)
    (hn : As.length = n) (hsize : ls.size = nL) (hst : st0 = As.reverse ++ rest) (hW : (rest.map fun v => v.category).sum ≤ 8) (hdg : decode cc pc = .ok (.invokestatic index, 3)) (hcs : cells ≤ R.cells) (hss : slots ≤ R.slots)
    (kk : W p l e R s m args below meth c H locs cells slots Q (F0 m (pc + 3) ls (rest))) : W p l e R s m args below meth c H locs cells slots Q (F0 m pc ls st0) := zcallS S hM cw hn hsize hst hW hdg hcs hss kk
theorem zcallSNv (S : CallFix p m c cc nL s args Ts own) (hM : zSt l y ws rm As none) (cw : va_CN R s args own index y host bytes maxL ret ws rm 0 0 n ∧ (Cond.static y).before args s = true ∧ True)
    (hn : As.length = n) (hsize : ls.size = nL) (hst : st0 = As.reverse ++ rest) (hW : (rest.map fun v => v.category).sum ≤ 8) (hdg : decode cc pc = .ok (.invokestatic index, 3)) (hcs : cells ≤ R.cells) (hss : slots ≤ R.slots)
    (kk : W p l e R s m args below meth c H locs cells slots Q (F0 m (pc + 3) ls (rest))) : W p l e R s m args below meth c H locs cells slots Q (F0 m pc ls st0) := zcallSN S hM cw hn hsize hst hW hdg hcs hss kk
theorem zcallVr {r : Nat} {ci q0 : Nat} {fs : List Value} {T : u_T} {N : Nat} (S : CallFix p m c cc nL s args Ts own) (hM : zCt l y ws rm D ad cy (.ref b :: As) w (some (.ref r)) w') (cw : CallW R s args own C index y bytes maxL ret ws rm 0 0 n) (hI : zIn D ad cy w A s H locs) (hc : vwCl[ci]? = some (C, T, N)) (he : w[q0]? = some (b, .inr (ci, fs)))
    (hn : As.length = n) (hsize : ls.size = nL) (hst : st0 = As.reverse ++ .ref b :: rest) (hW : (rest.map fun v => v.category).sum ≤ 8) (hdg : decode cc pc = .ok (.invokevirtual index, 3)) (hcs : cells ≤ R.cells) (hss : slots ≤ R.slots)
    (kk : ∀ (H1 : Heap) (locs1 : List Loc), zIn D ad cy w' A s H1 locs1 → W p l e R s m args below meth c H1 locs1 cells slots Q (F0 m (pc + 3) ls (.ref r :: rest))) : W p l e R s m args below meth c H locs cells slots Q (F0 m pc ls st0) := zcallV S hM cw hI hc he hn hsize hst hW hdg hcs hss kk
theorem zcallSWr {r : Nat} (S : CallFix p m c cc nL s args Ts own) (hM : zCt l y ws rm D ad cy As w (some (.ref r)) w') (cw : CallB R s args own index y bytes maxL ret ws rm 0 0 n ∧ (Cond.static y).before args s = true) (hI : zIn D ad cy w A s H locs)
    (hn : As.length = n) (hsize : ls.size = nL) (hst : st0 = As.reverse ++ rest) (hW : (rest.map fun v => v.category).sum ≤ 8) (hdg : decode cc pc = .ok (.invokestatic index, 3)) (hcs : cells ≤ R.cells) (hss : slots ≤ R.slots)
    (kk : ∀ (H1 : Heap) (locs1 : List Loc), zIn D ad cy w' A s H1 locs1 → W p l e R s m args below meth c H1 locs1 cells slots Q (F0 m (pc + 3) ls (.ref r :: rest))) : W p l e R s m args below meth c H locs cells slots Q (F0 m pc ls st0) := zcallSW S hM cw hI hn hsize hst hW hdg hcs hss kk
theorem zcallSr {r : Nat} (S : CallFix p m c cc nL s args Ts own) (hM : zSt l y ws rm As (some (.ref r))) (cw : CallB R s args own index y bytes maxL ret ws rm 0 0 n ∧ (Cond.static y).before args s = true)
    (hn : As.length = n) (hsize : ls.size = nL) (hst : st0 = As.reverse ++ rest) (hW : (rest.map fun v => v.category).sum ≤ 8) (hdg : decode cc pc = .ok (.invokestatic index, 3)) (hcs : cells ≤ R.cells) (hss : slots ≤ R.slots)
    (kk : W p l e R s m args below meth c H locs cells slots Q (F0 m (pc + 3) ls (.ref r :: rest))) : W p l e R s m args below meth c H locs cells slots Q (F0 m pc ls st0) := zcallS S hM cw hn hsize hst hW hdg hcs hss kk
theorem zcallSNr {r : Nat} (S : CallFix p m c cc nL s args Ts own) (hM : zSt l y ws rm As (some (.ref r))) (cw : va_CN R s args own index y host bytes maxL ret ws rm 0 0 n ∧ (Cond.static y).before args s = true ∧ True)
    (hn : As.length = n) (hsize : ls.size = nL) (hst : st0 = As.reverse ++ rest) (hW : (rest.map fun v => v.category).sum ≤ 8) (hdg : decode cc pc = .ok (.invokestatic index, 3)) (hcs : cells ≤ R.cells) (hss : slots ≤ R.slots)
    (kk : W p l e R s m args below meth c H locs cells slots Q (F0 m (pc + 3) ls (.ref r :: rest))) : W p l e R s m args below meth c H locs cells slots Q (F0 m pc ls st0) := zcallSN S hM cw hn hsize hst hW hdg hcs hss kk
theorem z_mmin (hexec : p.tables.exec = Jvm.exec) (hb : c.code = cc) (hml : c.maxLocals = ls.size) (hown : s.vm.findClass own = some m.cls) (hlink : (Cond.methodLink own index Lib.Math.min.name).before args s = true) (hstat : (Cond.static Lib.Math.min.name).before args s = true) (hini : (Cond.initialized "java/lang/Math").before args s = true) (hcode : (Cond.code Lib.Math.min.name Lib.Math.min.code 2 (some .int)).before args s = true)
    (hframes : 1 ≤ R.frames) (hlocals : (rest.map fun v => v.category).sum + 13 ≤ R.locals) (hc : cells ≤ R.cells) (hs : slots ≤ R.slots) {x y : Int32} (hdg : decode cc pc = .ok (.invokestatic index, 3))
    (kk : W p l e R s m args below meth c H locs cells slots Q (F0 m (pc + 3) ls (.int (zminI x y) :: rest))) : W p l e R s m args below meth c H locs cells slots Q (F0 m pc ls (.int y :: .int x :: rest)) := va_mmin hexec hb hml hown hlink hstat hini hcode hframes hlocals hc hs hdg kk
theorem z_mmax (hexec : p.tables.exec = Jvm.exec) (hb : c.code = cc) (hml : c.maxLocals = ls.size) (hown : s.vm.findClass own = some m.cls) (hlink : (Cond.methodLink own index Lib.Math.max.name).before args s = true) (hstat : (Cond.static Lib.Math.max.name).before args s = true) (hini : (Cond.initialized "java/lang/Math").before args s = true) (hcode : (Cond.code Lib.Math.max.name Lib.Math.max.code 2 (some .int)).before args s = true)
    (hframes : 1 ≤ R.frames) (hlocals : (rest.map fun v => v.category).sum + 13 ≤ R.locals) (hc : cells ≤ R.cells) (hs : slots ≤ R.slots) {x y : Int32} (hdg : decode cc pc = .ok (.invokestatic index, 3))
    (kk : W p l e R s m args below meth c H locs cells slots Q (F0 m (pc + 3) ls (.int (zmaxI x y) :: rest))) : W p l e R s m args below meth c H locs cells slots Q (F0 m pc ls (.int y :: .int x :: rest)) := va_mmax hexec hb hml hown hlink hstat hini hcode hframes hlocals hc hs hdg kk
theorem z_mabs (hexec : p.tables.exec = Jvm.exec) (hb : c.code = cc) (hml : c.maxLocals = ls.size) (hown : s.vm.findClass own = some m.cls) (hlink : (Cond.methodLink own index Lib.Math.abs.name).before args s = true) (hstat : (Cond.static Lib.Math.abs.name).before args s = true) (hini : (Cond.initialized "java/lang/Math").before args s = true) (hcode : (Cond.code Lib.Math.abs.name Lib.Math.abs.code 1 (some .int)).before args s = true)
    (hframes : 1 ≤ R.frames) (hlocals : (rest.map fun v => v.category).sum + 13 ≤ R.locals) (hc : cells ≤ R.cells) (hs : slots ≤ R.slots) {x : Int32} (hdg : decode cc pc = .ok (.invokestatic index, 3))
    (kk : W p l e R s m args below meth c H locs cells slots Q (F0 m (pc + 3) ls (.int (zabsI x) :: rest))) : W p l e R s m args below meth c H locs cells slots Q (F0 m pc ls (.int x :: rest)) := va_mabs hexec hb hml hown hlink hstat hini hcode hframes hlocals hc hs hdg kk
theorem z_mabsl (hexec : p.tables.exec = Jvm.exec) (hb : c.code = cc) (hml : c.maxLocals = ls.size) (hown : s.vm.findClass own = some m.cls) (hlink : (Cond.methodLink own index Lib.MathLoose.abs_long.x).before args s = true) (hstat : (Cond.static Lib.MathLoose.abs_long.x).before args s = true) (hini : (Cond.initialized "java/lang/Math").before args s = true) (hcode : (Cond.code Lib.MathLoose.abs_long.x Lib.MathLoose.abs_long.code 2 (some .long)).before args s = true)
    (hframes : 1 ≤ R.frames) (hlocals : (rest.map fun v => v.category).sum + 13 ≤ R.locals) (hc : cells ≤ R.cells) (hs : slots ≤ R.slots) {x : Int64} (hdg : decode cc pc = .ok (.invokestatic index, 3))
    (kk : W p l e R s m args below meth c H locs cells slots Q (F0 m (pc + 3) ls (.long (zabsL x) :: rest))) : W p l e R s m args below meth c H locs cells slots Q (F0 m pc ls (.long x :: rest)) := va_mabs_long hexec hb hml hown hlink hstat hini hcode hframes hlocals hc hs hdg kk
theorem z_swk {kc : Int32} {tgt : Nat} {off dflt lo hi : Int} {offs : Array Int} {len : Nat} {x : Int32} (hexec : p.tables.exec = Jvm.exec) (hb : c.code = cc) (hdg : decode cc pc = .ok (.tableswitch dflt lo hi offs, len)) (ho : offs[(kc.toInt - lo).toNat]? = some off) (h1 : ¬ kc.toInt < lo) (h2 : ¬ hi < kc.toInt) (ht : (pc : Int) + off = (tgt : Int)) {E1 E2 : Option ρ} (hf : (if x = kc then E1 else E2) = some z)
    (k1 : E1 = some z → W p l e R s m args below meth c H locs cells slots Q (F0 m tgt ls rest)) (k2 : ¬ x = kc → E2 = some z → W p l e R s m args below meth c H locs cells slots Q (F0 m pc ls (.int x :: rest))) : W p l e R s m args below meth c H locs cells slots Q (F0 m pc ls (.int x :: rest)) := by
  by_cases h : x = kc
  · rw [if_pos h] at hf
    subst h
    exact lv_tableIn hexec hb hdg h1 h2 ho ht (k1 hf)
  · rw [if_neg h] at hf
    exact k2 h hf
theorem z_copy {σ : Type} {q0 q1 a0 a1 nn : Nat} {f g : Nat → Int32} {nI9 : Int32} {wf : σ → va_W} {u' : σ} {k : σ → Option ρ} (hexec : p.tables.exec = Jvm.exec) (hb : c.code = cc) (hml : c.maxLocals = ls.size) (hown : s.vm.findClass own = some m.cls) (hts : ∀ w ∈ Ts, w.before args s = true) (hlink : Cond.methodLink own index arraycopyName ∈ Ts) (hnat : Cond.native arraycopyName ∈ Ts) (hstat : Cond.static arraycopyName ∈ Ts) (hini : Cond.initialized "java/lang/System" ∈ Ts)
    (hI : zIn D ad cy w A s H locs) (ha0 : w[q0]? = some (a0, .inl (cy 0, nn, .inl f))) (ha1 : w[q1]? = some (a1, .inl (cy 0, nn, .inl g))) (hn : ¬ nI9 < 0 ∧ nI9.toNatClampNeg = nn) (hR : 1 ≤ R.frames ∧ nativeFrameWords "java/lang/System" "arraycopy" 5 + 11 ≤ R.locals) (hdg : decode cc pc = .ok (.invokestatic index, 3)) (hset : w.set q1 (a1, .inl (cy 0, nn, .inl (zcpy f g nn))) = wf u') (hf : zb u' k = some z)
    (kk : ∀ (u : σ) (H1 : Heap) (locs1 : List Loc), zIn D ad cy (wf u) A s H1 locs1 → k u = some z → W p l e R s m args below meth c H1 locs1 cells slots Q (F0 m (pc + 3) ls [])) : W p l e R s m args below meth c H locs cells slots Q (F0 m pc ls [.int nI9, .int 0, .ref a1, .int 0, .ref a0]) := by
  obtain ⟨hK, hP, hD, hS, hA, hF⟩ := hI
  refine va_copyi (rest := []) hexec hb hml hown (hts _ hlink) (hts _ hnat) (hts _ hstat) (hts _ hini) hK hP hD hS q0 q1 0 0 ha0 ha1 rfl rfl rfl (by decide) (by decide) hn.1 (by rw [hn.2]; exact Nat.le_of_eq (Nat.zero_add _)) (by rw [hn.2]; exact Nat.le_of_eq (Nat.zero_add _)) (fun i _ => rfl) hR.1 (by rw [show ((List.map (fun v : Value => v.category) []).sum) = 0 from rfl, Nat.zero_add]; exact hR.2) hdg (fun H1 locs1 hP hD hS => ?_)
  rw [hn.2] at hP hD
  have hP : va_P D vwCl (w.set q1 (a1, .inl (cy 0, nn, .inl (zcpy f g nn)))) H1 := hP
  have hD : va_D A (w.set q1 (a1, .inl (cy 0, nn, .inl (zcpy f g nn)))) := hD
  rw [hset] at hP hD
  exact kk u' H1 locs1 ⟨hK, hP, hD, hS, hA, hF⟩ hf
theorem z_gstLEAST (hexec : p.tables.exec = Jvm.exec) (hb : c.code = cc) (hts : ∀ w ∈ Ts, w.before args s = true) (hown : s.vm.findClass own = some m.cls) (hI : zIn D ad cy w A s H locs) (hlink : Cond.fieldLink own index RX5 "LEAST" "[I" ∈ Ts) (hdg : decode cc pc = .ok (.getstatic index, 3))
    (kk : W p l e R s m args below meth c H locs cells slots Q (F0 m (pc + 3) ls (.ref (ad 100) :: rest))) : W p l e R s m args below meth c H locs cells slots Q (F0 m pc ls rest) := va_gets hexec hb hI.2.2.2.2.2.2.2.1.1 hI.2.2.2.1 hown (hts _ hlink) (fun _ h => h) hdg kk
theorem z_sald100 (hexec : p.tables.exec = Jvm.exec) (hb : c.code = cc) (hI : zIn D ad cy w A s H locs) {i : Int32} {g : Int32 → Option ρ} (hdg : decode cc pc = .ok (.iaload, 1)) (hf : zget 7 zLeast i g = some z)
    (kk : ∀ v, g v = some z → W p l e R s m args below meth c H locs cells slots Q (F0 m (pc + 1) ls (.int v :: rest))) : W p l e R s m args below meth c H locs cells slots Q (F0 m pc ls (.int i :: .ref (ad 100) :: rest)) := by
  unfold zget at hf
  by_cases h : 0 ≤ i.toInt ∧ i.toInt < ((7 : Nat) : Int)
  · rw [if_pos h] at hf
    exact va_ti hexec hb hI.2.2.2.2.2.2.2.1.2 hI.2.2.2.1 (zvp h) rfl hdg (kk _ hf)
  · rw [if_neg h] at hf; cases hf
theorem z_gstMOST (hexec : p.tables.exec = Jvm.exec) (hb : c.code = cc) (hts : ∀ w ∈ Ts, w.before args s = true) (hown : s.vm.findClass own = some m.cls) (hI : zIn D ad cy w A s H locs) (hlink : Cond.fieldLink own index RX5 "MOST" "[I" ∈ Ts) (hdg : decode cc pc = .ok (.getstatic index, 3))
    (kk : W p l e R s m args below meth c H locs cells slots Q (F0 m (pc + 3) ls (.ref (ad 101) :: rest))) : W p l e R s m args below meth c H locs cells slots Q (F0 m pc ls rest) := va_gets hexec hb hI.2.2.2.2.2.2.2.2.1.1 hI.2.2.2.1 hown (hts _ hlink) (fun _ h => h) hdg kk
theorem z_sald101 (hexec : p.tables.exec = Jvm.exec) (hb : c.code = cc) (hI : zIn D ad cy w A s H locs) {i : Int32} {g : Int32 → Option ρ} (hdg : decode cc pc = .ok (.iaload, 1)) (hf : zget 7 zMost i g = some z)
    (kk : ∀ v, g v = some z → W p l e R s m args below meth c H locs cells slots Q (F0 m (pc + 1) ls (.int v :: rest))) : W p l e R s m args below meth c H locs cells slots Q (F0 m pc ls (.int i :: .ref (ad 101) :: rest)) := by
  unfold zget at hf
  by_cases h : 0 ≤ i.toInt ∧ i.toInt < ((7 : Nat) : Int)
  · rw [if_pos h] at hf
    exact va_ti hexec hb hI.2.2.2.2.2.2.2.2.1.2 hI.2.2.2.1 (zvp h) rfl hdg (kk _ hf)
  · rw [if_neg h] at hf; cases hf
end ZD
theorem z_out3 {x : Int32} (n0 : ¬ x = 0) (n1 : ¬ x = 1) (n2 : ¬ x = 2) : x.toInt < 0 ∨ 2 < x.toInt := by
  have h0 := lv_neT (a := 0) n0 (by decide)
  have h1 := lv_neT (a := 1) n1 (by decide)
  have h2 := lv_neT (a := 2) n2 (by decide)
  omega
theorem z_out9 {x : Int32} (n0 : ¬ x = 0) (n1 : ¬ x = 1) (n2 : ¬ x = 2) (n3 : ¬ x = 3) (n4 : ¬ x = 4) (n5 : ¬ x = 5) (n6 : ¬ x = 6) (n7 : ¬ x = 7) (n8 : ¬ x = 8) : x.toInt < 0 ∨ 8 < x.toInt := by
  have h0 := lv_neT (a := 0) n0 (by decide)
  have h1 := lv_neT (a := 1) n1 (by decide)
  have h2 := lv_neT (a := 2) n2 (by decide)
  have h3 := lv_neT (a := 3) n3 (by decide)
  have h4 := lv_neT (a := 4) n4 (by decide)
  have h5 := lv_neT (a := 5) n5 (by decide)
  have h6 := lv_neT (a := 6) n6 (by decide)
  have h7 := lv_neT (a := 7) n7 (by decide)
  have h8 := lv_neT (a := 8) n8 (by decide)
  omega
