/-! making: contracts of constructors, new cells, calls with a frame -/
def zAO (U : State) : Prop := va_AOA .int U ∧ va_AO RX6 U
theorem zAO.moved {u U : State} (hvm : u.vm.Alike U.vm) (h : zAO u) : zAO U := ⟨Jvm.Stand.arrayOver_alikeB hvm h.1, va_AO.moved hvm h.2⟩
def zPreN (D : va_G) (ad : Nat → Nat) (cy : Nat → ClassId) (w : va_W) (sz : Nat) : State → Prop := fun U => zPre D ad cy w sz U ∧ zAO U
def zQn (D : va_G) (cy : Nat → ClassId) (A : Nat → Prop) (post : va_W → Prop) : Array Value → State → Outcome → State → Prop := fun _ st oc t => (oc = .returned none ∧ ∃ w', post w' ∧ va_P D vwCl w' t.heap ∧ va_K D vwCl (zTY cy) t ∧ va_D A w') ∧ va_F A st t
/-- a constructor's contract: from the world w it comes to a world with post, mc cells of ms slots are new -/
def zCtN (l : Launch) (y : MethodName) (ws : List Cond) (rm : Room) (D : va_G) (ad : Nat → Nat) (cy : Nat → ClassId) (av : List Value) (w : va_W) (post : va_W → Prop) (mc ms : Nat) : Prop :=
  ∀ sz, Met l y ws rm (va_Pc av (zPreN D ad cy w sz)) (zQn D cy (va_A w sz) post) mc ms (va_A w sz)
def zMN (D : va_G) (cy : Nat → ClassId) (below : List Frame) (args : Array Value) (s : State) (A : Nat → Prop) (post : va_W → Prop) (mc ms : Nat) : State → Prop := MQ below (zQn D cy A post) args s mc ms A
theorem zCtN.of {l : Launch} {y : MethodName} {ws ws' : List Cond} {rm : Room} {D : va_G} {ad : Nat → Nat} {cy : Nat → ClassId} {av : List Value} {w : va_W} {post : va_W → Prop} {mc ms : Nat} {cc : ByteArray} {maxL : Nat} {ret : Option FieldType} {own : String}
    (hy : plainName y.cls = true) (ho : y.cls = own) (hi : y.name = "<init>") (hw : ws = Cond.code y cc maxL ret :: ws')
    (body : ∀ (p : Program) (e : Env) (s : State) (m : MethodId) (below : List Frame) (meth : Method) (c : Code) (A : Nat → Prop), zFix p m c cc maxL s av.toArray ws own meth ret → meth.name = "<init>" → zAO s → zIn D ad cy w A s s.heap [] →
      W p l e rm s m av.toArray below meth c s.heap [] 0 0 (zMN D cy below av.toArray s A post mc ms) (entryFrame m av.toArray maxL)) : zCtN l y ws rm D ad cy av w post mc ms := by
  intro sz
  refine Met.ofW (cc := cc) (maxL := maxL) (ret := ret) hy hw ?_
  intro p e s m args below meth c s₁ B hml hv
  obtain ⟨rfl, ⟨hsz, hP, hK, hD0, hF⟩, hO⟩ := hv
  subst hsz
  exact body p e s m below meth c (va_A w s.heap.size) ⟨B.exec, B.bytes, hml, by rw [← ho]; exact findClass_of_methodNamed B.named, atoms_spec (ws := ws) B.pre, B.returns, B.notSynchronized⟩ (by rw [← hi]; exact (name_of_methodNamed B.named B.method).1) hO ⟨hK, hP, hD0.self, va_S.rf, fun q h => Or.inr h, hF⟩
theorem zPn_blind {D : va_G} {ad : Nat → Nat} {cy : Nat → ClassId} {w : va_W} {sz : Nat} {av : List Value} : FrameBlind (va_Pc av (zPreN D ad cy w sz)) := by
  intro a U g mk q
  obtain ⟨q0, ⟨q1, qP, qK, qD, qF⟩, qO⟩ := q
  exact ⟨q0, ⟨q1, qP, va_K.moved (u := U) (U := U.calling g mk a) (Vm.Alike.refl U.vm) qK, qD, qF.blind⟩, zAO.moved (u := U) (U := U.calling g mk a) (Vm.Alike.refl U.vm) qO⟩
section ZN
variable {p : Program} {l : Launch} {e : Env} {R : Room} {s : State} {m : MethodId} {args : Array Value} {below : List Frame} {meth : Method} {c : Code} {H : Heap} {locs : List Loc} {cells slots : Nat} {Q : State → Prop}
variable {cc bytes : ByteArray} {pc : Nat} {ls : Array Slot} {rest st0 : List Value} {D : va_G} {ad : Nat → Nat} {cy : Nat → ClassId} {A : Nat → Prop} {w w' wc wr : va_W} {o : Option Value}
variable {y : MethodName} {ws : List Cond} {rm : Room} {Ts : List Cond} {own C host : String} {index maxL nL n mc ms : Nat} {ret : Option FieldType} {b : Nat} {As : List Value} {post : va_W → Prop}
theorem zIn.sub (hI : zIn D ad cy w A s H locs) (isC : List Nat) (hn : va_nd isC = true) (hC : isC.map (fun i => w[i]?) = wc.map some) : zIn D ad cy wc A s H locs := by
  obtain ⟨hK, hP, hD, hS, hA, hF⟩ := hI
  refine ⟨hK, ?_, hD.sub isC hn hC, hS, hA, hF⟩
  refine hP.sub isC ?_
  have h2 : isC.filterMap (fun i => w[i]?) = (isC.map (fun i => w[i]?)).filterMap id := by rw [List.filterMap_map]; rfl
  rw [h2, hC, List.filterMap_map]
  exact List.filterMap_some
theorem zIn.chg {ad' : Nat → Nat} (hI : zIn D ad cy w A s H locs) (h0 : ad' 100 = ad 100) (h1 : ad' 101 = ad 101) (h2 : ad' 102 = ad 102) (h3 : ad' 103 = ad 103) : zIn D ad' cy w A s H locs := by
  obtain ⟨hK, hP, hD, hS, hA, hF⟩ := hI
  refine ⟨hK, hP, hD, hS, hA, ?_⟩
  unfold zF zR at hF ⊢
  rw [h0, h1, h2, h3]
  exact hF
theorem zIn.preN (hI : zIn D ad cy w A s H locs) (hO : zAO s) (av : List Value) : ∀ U : State, U.heap = H → s.WarmedH U.vm → va_Pc av (zPreN D ad cy w H.size) av.toArray U := fun U hU hW => ⟨rfl, (hI.pre av U hU hW).2, zAO.moved hW.alike hO⟩
theorem z_vretN (C0 : zFix p m c cc nL s args Ts own meth none) (hI : zIn D ad cy w A s H locs) (hp : post w) (hdg : decode cc pc = .ok (.return_, 1)) : W p l e R s m args below meth c H locs cells slots (zMN D cy below args s A post cells slots) (F0 m pc ls []) := by
  obtain ⟨hx, hb, hml, hown, hts, hr, hlk⟩ := C0
  obtain ⟨hK, hP, hD, hS, hA, hF⟩ := hI
  exact W.vret hx hb hr (fun t ht hW => ⟨⟨rfl, w, hp, by rw [ht]; exact hP, va_K.moved hW.alike hK, hD⟩, hS.F ht⟩) hS.2.2 hdg hlk
/-- behind a call on some of the cells -/
theorem zIn.join (hI : zIn D ad cy w A s H locs) (isC isR : List Nat) (hC : isC.map (fun i => w[i]?) = wc.map some) (hR : isR.map (fun i => w[i]?) = wr.map some) (hn : va_nd isR = true) (hdis : ∀ i ∈ isR, i ∉ isC) {st₀ t T' : State} {L : List Loc} (h0 : st₀.heap = H) (hL : ∀ q ∈ L, va_A wc H.size q.base) (e1 : T'.heap = t.heap) (hP1 : va_P D vwCl w' t.heap) (hD1 : va_D (va_A wc H.size) w') (hFr : va_F (va_A wc H.size) st₀ t) : zIn D ad cy (wr ++ w') A s T'.heap (locs ++ L) := by
  obtain ⟨hK, hP, hD, hS, hA, hF⟩ := hI
  have hfr := va_free hD hS hA isC hC
  obtain ⟨hz, hk⟩ := hFr
  rw [h0] at hz hk
  obtain ⟨g1, g2⟩ := va_join hP hD isC isR hC hR hn hdis hk hfr hP1 hD1
  refine ⟨hK, by rw [e1]; exact g1, g2, ⟨Nat.le_trans hS.1 (by rw [e1]; exact hz), fun q h1 h2 => ?_, fun q hq => ?_⟩, hA, hF⟩
  · rw [e1, hk q (Nat.lt_of_lt_of_le h1 hS.1) (fun h => h2 (hfr q h))]
    exact hS.2.1 q h1 h2
  · rcases List.mem_append.mp hq with h | h
    · exact hS.2.2 q h
    · exact hfr _ (hL q h)
theorem zRunN (hI : zIn D ad cy w A s H locs) (isC isR : List Nat) (hC : isC.map (fun i => w[i]?) = wc.map some) (hR : isR.map (fun i => w[i]?) = wr.map some) (hn : va_nd isR = true) (hdis : ∀ i ∈ isR, i ∉ isC) {av : Array Value} (hr : va_Run p l e R s m args below meth c H locs cells slots mc ms (F0 m pc ls st0) rest (zQn D cy (va_A wc H.size) post av) (va_A wc H.size))
    (kk : ∀ (w' : va_W) (H1 : Heap) (locs1 : List Loc), post w' → zIn D ad cy (wr ++ w') A s H1 locs1 → W p l e R s m args below meth c H1 locs1 (cells + mc) (slots + ms) Q (F0 m (pc + 3) ls rest)) : W p l e R s m args below meth c H locs cells slots Q (F0 m pc ls st0) := by
  intro T hT X
  obtain ⟨v, st₀, t, T', L, h0, X', hL, e1, e2, ⟨⟨hv, w', hp, hP1, hK1, hD1⟩, hFr⟩, st⟩ := hr T hT X
  cases hv
  obtain ⟨t2, a1, b1⟩ := kk w' T'.heap (locs ++ L) hp (hI.join isC isR hC hR hn hdis h0 hL e1 hP1 hD1 hFr) T' rfl X'
  exact ⟨t2, st t2 a1, b1⟩
theorem z_callI (S : CallFix p m c cc nL s args Ts own) (hM : zCtN l y ws rm D ad cy (.ref b :: As) wc post mc ms) (cw : CallB R s args own index y bytes maxL none ws rm mc ms n ∧ y.name = "<init>" ∧ (Cond.instanceMethod y).before args s = true) (hO : zAO s) (hI : zIn D ad cy w A s H locs) (isC isR : List Nat) (hnc : va_nd isC = true) (hC : isC.map (fun i => w[i]?) = wc.map some) (hR : isR.map (fun i => w[i]?) = wr.map some) (hnr : va_nd isR = true) (hdis : ∀ i ∈ isR, i ∉ isC)
    (hn : As.length = n) (hsize : ls.size = nL) (hst : st0 = As.reverse ++ .ref b :: rest) (hW : (rest.map fun v => v.category).sum ≤ 8) (hdg : decode cc pc = .ok (.invokespecial index, 3)) (hcs : cells + mc ≤ R.cells) (hss : slots + ms ≤ R.slots)
    (kk : ∀ (w' : va_W) (H1 : Heap) (locs1 : List Loc), post w' → zIn D ad cy (wr ++ w') A s H1 locs1 → W p l e R s m args below meth c H1 locs1 (cells + mc) (slots + ms) Q (F0 m (pc + 3) ls rest)) : W p l e R s m args below meth c H locs cells slots Q (F0 m pc ls st0) := by
  subst hst
  exact zRunN hI isC isR hC hR hnr hdis (va_runI (g := F0 m pc ls (As.reverse ++ .ref b :: rest)) S (hM H.size) cw ⟨zPn_blind, (hI.sub isC hnc hC).preN hO _⟩ rfl hn hsize rfl (lv_room hW) hdg ⟨hcs, hss⟩) kk
theorem z_callIN (S : CallFix p m c cc nL s args Ts own) (hM : zCtN l y ws rm D ad cy (.ref b :: As) wc post mc ms) (cw : va_CN R s args own index y host bytes maxL none ws rm mc ms n ∧ y.name = "<init>" ∧ (Cond.instanceMethod y).before args s = true) (hO : zAO s) (hI : zIn D ad cy w A s H locs) (isC isR : List Nat) (hnc : va_nd isC = true) (hC : isC.map (fun i => w[i]?) = wc.map some) (hR : isR.map (fun i => w[i]?) = wr.map some) (hnr : va_nd isR = true) (hdis : ∀ i ∈ isR, i ∉ isC)
    (hn : As.length = n) (hsize : ls.size = nL) (hst : st0 = As.reverse ++ .ref b :: rest) (hW : (rest.map fun v => v.category).sum ≤ 8) (hdg : decode cc pc = .ok (.invokespecial index, 3)) (hcs : cells + mc ≤ R.cells) (hss : slots + ms ≤ R.slots)
    (kk : ∀ (w' : va_W) (H1 : Heap) (locs1 : List Loc), post w' → zIn D ad cy (wr ++ w') A s H1 locs1 → W p l e R s m args below meth c H1 locs1 (cells + mc) (slots + ms) Q (F0 m (pc + 3) ls rest)) : W p l e R s m args below meth c H locs cells slots Q (F0 m pc ls st0) := by
  subst hst
  exact zRunN hI isC isR hC hR hnr hdis (va_runIN (g := F0 m pc ls (As.reverse ++ .ref b :: rest)) S (hM H.size) cw ⟨zPn_blind, (hI.sub isC hnc hC).preN hO _⟩ rfl hn hsize rfl (lv_room hW) hdg ⟨hcs, hss⟩) kk
/-- a call of a method that makes nothing, on some of the cells -/
theorem z_callVf {ad' : Nat → Nat} {ci q0 : Nat} {fs : List Value} {T : u_T} {N : Nat} (S : CallFix p m c cc nL s args Ts own) (hM : zCt l y ws rm D ad' cy (.ref b :: As) wc o w') (cw : CallW R s args own C index y bytes maxL ret ws rm 0 0 n) (hI : zIn D ad' cy w A s H locs) (hc : vwCl[ci]? = some (C, T, N)) (he : wc[q0]? = some (b, .inr (ci, fs))) (isC isR : List Nat) (hnc : va_nd isC = true) (hC : isC.map (fun i => w[i]?) = wc.map some) (hR : isR.map (fun i => w[i]?) = wr.map some) (hnr : va_nd isR = true) (hdis : ∀ i ∈ isR, i ∉ isC)
    (hn : As.length = n) (hsize : ls.size = nL) (hst : st0 = As.reverse ++ .ref b :: rest) (hW : (rest.map fun v => v.category).sum ≤ 8) (hdg : decode cc pc = .ok (.invokevirtual index, 3)) (hcs : cells ≤ R.cells) (hss : slots ≤ R.slots)
    (kk : ∀ (H1 : Heap) (locs1 : List Loc), zIn D ad' cy (wr ++ w') A s H1 locs1 → W p l e R s m args below meth c H1 locs1 cells slots Q (F0 m (pc + 3) ls (o.toList ++ rest))) : W p l e R s m args below meth c H locs cells slots Q (F0 m pc ls st0) := by
  subst hst
  have hI2 := hI.sub isC hnc hC
  have hr := va_runV (g := F0 m pc ls (As.reverse ++ .ref b :: rest)) S (hM H.size) cw ⟨zPc_blind, va_recv hI2.1 hI2.2.1 hc he, hI2.pre _⟩ rfl hn hsize rfl (lv_room hW) hdg ⟨hcs, hss⟩ (H := H) (locs := locs) (below := below) (meth := meth) (e := e)
  intro T hT X
  obtain ⟨v, st₀, t, T', L, h0, X', hL, e1, e2, ⟨⟨hv, hP1, hK1, hD1⟩, hFr⟩, st⟩ := hr T hT X
  cases hv
  obtain ⟨t2, a1, b1⟩ := kk T'.heap (locs ++ L) (hI.join isC isR hC hR hnr hdis h0 hL e1 hP1 hD1 hFr) T' rfl X'
  exact ⟨t2, st t2 a1, b1⟩
/-- a new object, a new row -/
theorem z_new {T : u_T} {N ci : Nat} (hexec : p.tables.exec = Jvm.exec) (hb : c.code = cc) (hts : ∀ w ∈ Ts, w.before args s = true) (hin : ∀ w ∈ u_ws C T N, w ∈ Ts) (ty : Nat → FieldType) (hty : ∀ k, k < N → parseFieldDescriptor (T k).2.2.1 = some (ty k)) (hown : s.vm.findClass own = some m.cls) (hcl : Cond.classLink own index C ∈ Ts) (hinst : Cond.instantiable C N ∈ Ts) (hini : Cond.initialized C ∈ Ts)
    (hI : zIn D ad cy w A s H locs) (hc : vwCl[ci]? = some (C, T, N)) {fs : List Value} (hfs : ∀ j, j < N → defaultValue (ty j) = vp_V fs j) (hcells : cells + 1 ≤ R.cells) (hslots : slots + N ≤ R.slots) (hdg : decode cc pc = .ok (.new index, 3))
    (kk : ∀ (q : Nat) (H1 : Heap), zIn D ad cy (w ++ [(q, .inr (ci, fs))]) A s H1 locs → W p l e R s m args below meth c H1 locs (cells + 1) (slots + N) Q (F0 m (pc + 3) ls (.ref q :: rest))) : W p l e R s m args below meth c H locs cells slots Q (F0 m pc ls rest) := by
  obtain ⟨hK, hP, hD, hS, hA, hF⟩ := hI
  exact va_new hexec hb hts hin ty hty hown (hts _ hcl) (hts _ hinst) (hts _ hini) hK hP hD hS hA hc hfs hcells hslots hdg (fun q H1 hP hD hS => kk q H1 ⟨hK, hP, hD, hS, hA, hF⟩)
theorem zTY_inj {cA : ClassId} {ty : FieldType} (hK : va_K D vwCl (zTY cy ++ [(cA, ty)]) s) {t0 : Nat} {c0 : ClassId} (ht : (zTY cy)[t0]? = some (c0, ty)) : cA = c0 := by
  have h1 := (hK.2 6 (cA, ty) rfl).2
  have ht6 : t0 < 6 := (List.getElem?_eq_some_iff.mp ht).1
  have h2 := (hK.2 t0 (c0, ty) (by rw [List.getElem?_append_left ht6]; exact ht)).2
  cases ty with
  | object C =>
    obtain ⟨_, _, _, _, _, g1⟩ := h1
    obtain ⟨_, _, _, _, _, g2⟩ := h2
    exact Option.some.inj (g1.symm.trans g2)
  | _ => exact Option.some.inj ((show _ = some cA from h1).symm.trans h2)
theorem z_newa {atype : ArrayType} {ty : FieldType} {c0 : ClassId} (hexec : p.tables.exec = Jvm.exec) (hb : c.code = cc) (hts : ∀ w ∈ Ts, w.before args s = true) (harr : Cond.arrayClass ty ∈ Ts) (hty : newarray.typeOf atype = ty) (hI : zIn D ad cy w A s H locs) (t0 : Nat) (ht : (zTY cy)[t0]? = some (c0, ty)) {n : Int32} {N' : Nat} {a0 : vp_A} (ha : ∀ cA : ClassId, vp_cell cA a0 = arrV cA N' (fun _ => defaultValue ty)) (hn : ¬ n < 0) (hN : n.toNatClampNeg = N') (hbytes : N' * componentBytes ty ≤ 536870912) (hcells : cells + 1 ≤ R.cells) (hslots : slots + N' ≤ R.slots) (hdg : decode cc pc = .ok (.newarray atype, 2))
    (kk : ∀ (q : Nat) (H1 : Heap), zIn D ad cy (w ++ [(q, .inl (c0, a0))]) A s H1 locs → W p l e R s m args below meth c H1 locs (cells + 1) (slots + N') Q (F0 m (pc + 2) ls (.ref q :: rest))) : W p l e R s m args below meth c H locs cells slots Q (F0 m pc ls (.int n :: rest)) := by
  obtain ⟨hK, hP, hD, hS, hA, hF⟩ := hI
  subst hty
  refine va_newa hexec hb (hts _ harr) rfl hK hP hD hS hA ha hn hN hbytes hcells hslots hdg (fun q cA H1 hK1 hP hD hS => ?_)
  have e := zTY_inj hK1 ht
  subst e
  exact kk q H1 ⟨hK, hP, hD, hS, hA, hF⟩
/-- a field of a new object is laid -/
theorem z_pF {T : u_T} {N ci a : Nat} {fs : List Value} {w2 : va_W} (hexec : p.tables.exec = Jvm.exec) (hb : c.code = cc) (hts : ∀ w ∈ Ts, w.before args s = true) (hin : ∀ w ∈ u_ws C T N, w ∈ Ts) (ty0 : Nat → FieldType) (hty : ∀ k, k < N → parseFieldDescriptor (T k).2.2.1 = some (ty0 k)) (hnm : ∀ a, a < N → ∀ b, b < N → a ≠ b → (T a).2.1 ≠ (T b).2.1) (hown : s.vm.findClass C = some m.cls) (hin2 : meth.name = "<init>") (hI : zIn D ad cy w A s H locs) (q0 : Nat) (he : w[q0]? = some (a, .inr (ci, fs))) (hc : vwCl[ci]? = some (C, T, N)) (k : Nat) (hk : k < N) (hlink : Cond.fieldLink C index C (T k).2.1 (T k).2.2.1 ∈ Ts) (hT1 : (T k).1 = C) (hfin : (T k).2.2.2 = true) {v : Value} (hn : narrow (ty0 k) v = v) (hfit : fits (ty0 k) v = true) (hl : k < fs.length) (hset : w.set q0 (a, .inr (ci, fs.set k v)) = w2)
    (hdg : decode cc pc = .ok (.putfield index, 3)) (kk : ∀ (H1 : Heap) (locs1 : List Loc), zIn D ad cy w2 A s H1 locs1 → W p l e R s m args below meth c H1 locs1 cells slots Q (F0 m (pc + 3) ls rest)) : W p l e R s m args below meth c H locs cells slots Q (F0 m pc ls (v :: .ref a :: rest)) := by
  obtain ⟨hK, hP, hD, hS, hA, hF⟩ := hI
  refine va_putF hexec hb hts hin ty0 hty hnm hown hK hP hD hS q0 he hc k hk (hts _ hlink) (fun x h => by rw [hT1] at h; exact h) hfin hin2 hT1 (hty k hk) hn hfit hl hdg (fun H1 locs1 hP hD hS => ?_)
  rw [hset] at hP hD
  exact kk H1 locs1 ⟨hK, hP, hD, hS, hA, hF⟩
theorem z_pN {T : u_T} {N ci a : Nat} {fs : List Value} {w2 : va_W} (hexec : p.tables.exec = Jvm.exec) (hb : c.code = cc) (hts : ∀ w ∈ Ts, w.before args s = true) (hin : ∀ w ∈ u_ws C T N, w ∈ Ts) (ty0 : Nat → FieldType) (hty : ∀ k, k < N → parseFieldDescriptor (T k).2.2.1 = some (ty0 k)) (hnm : ∀ a, a < N → ∀ b, b < N → a ≠ b → (T a).2.1 ≠ (T b).2.1) (hown : s.vm.findClass C = some m.cls) (hI : zIn D ad cy w A s H locs) (q0 : Nat) (he : w[q0]? = some (a, .inr (ci, fs))) (hc : vwCl[ci]? = some (C, T, N)) (k : Nat) (hk : k < N) (hlink : Cond.fieldLink C index C (T k).2.1 (T k).2.2.1 ∈ Ts) (hT1 : (T k).1 = C) (hfin : (T k).2.2.2 = false) {v : Value} (hn : narrow (ty0 k) v = v) (hfit : fits (ty0 k) v = true) (hl : k < fs.length) (hset : w.set q0 (a, .inr (ci, fs.set k v)) = w2)
    (hdg : decode cc pc = .ok (.putfield index, 3)) (kk : ∀ (H1 : Heap) (locs1 : List Loc), zIn D ad cy w2 A s H1 locs1 → W p l e R s m args below meth c H1 locs1 cells slots Q (F0 m (pc + 3) ls rest)) : W p l e R s m args below meth c H locs cells slots Q (F0 m pc ls (v :: .ref a :: rest)) := by
  obtain ⟨hK, hP, hD, hS, hA, hF⟩ := hI
  refine va_put hexec hb hts hin ty0 hty hnm hown hK hP hD hS q0 he hc k hk (hts _ hlink) (fun x h => by rw [hT1] at h; exact h) hfin (hty k hk) hn hfit hl hdg (fun H1 locs1 hP hD hS => ?_)
  rw [hset] at hP hD
  exact kk H1 locs1 ⟨hK, hP, hD, hS, hA, hF⟩
/-- a place of the row that came last -/
theorem z_iniL {q nn : Nat} {f : Nat → Int32} (hexec : p.tables.exec = Jvm.exec) (hb : c.code = cc) (hI : zIn D ad cy (w ++ [(q, .inl (cy 0, nn, .inl f))]) A s H locs) {i x : Int32} {j : Nat} (hin : vp_in i nn) (hj : i.toNatClampNeg = j) (hdg : decode cc pc = .ok (.iastore, 1))
    (kk : ∀ (H1 : Heap) (locs1 : List Loc), zIn D ad cy (w ++ [(q, .inl (cy 0, nn, .inl (upd f j x)))]) A s H1 locs1 → W p l e R s m args below meth c H1 locs1 cells slots Q (F0 m (pc + 1) ls rest)) : W p l e R s m args below meth c H locs cells slots Q (F0 m pc ls (.int x :: .int i :: .ref q :: rest)) := by
  obtain ⟨hK, hP, hD, hS, hA, hF⟩ := hI
  subst hj
  refine va_iast hexec hb hK hP hD hS w.length 0 (a := q) (f := f) (by rw [List.getElem?_append_right (Nat.le_refl _), Nat.sub_self]; rfl) rfl hin hdg (fun H1 locs1 hP hD hS => ?_)
  rw [List.set_append_right _ _ (Nat.le_refl _), Nat.sub_self] at hP hD
  exact kk H1 locs1 ⟨hK, hP, hD, hS, hA, hF⟩
end ZN
