/-! the law's cases (printed by wip/gen/lawgen.py) -/
theorem lm_const : Cond.constantLong RL 13 4294967295 ∈ lw_tbl := List.mem_of_getElem? (i := 1318) (by decide +kernel)
section LW
variable {p : Program} {l : Launch} {e : Env} {s : State} {m : MethodId} {below : List Frame} {meth : Method} {c : Code} {H : Heap} {locs : List Loc} {cells slots : Nat} {Q : State → Prop}
variable {pc : Nat} {ls : Array Slot} {rest st0 : List Value} {D : va_G} {ad ad' : Nat → Nat} {cy : Nat → ClassId} {A : Nat → Prop} {b L i : Nat} {xs : Nat → Int32}
def lwB (s : State) (A : Nat → Prop) (b L : Nat) (xs : Nat → Int32) (ad ad' : Nat → Nat) (i cells slots : Nat) : Prop := va_X b L xs s s.heap ∧ b < s.heap.size ∧ ¬ A b ∧ (ad' 100 = ad 100 ∧ ad' 101 = ad 101 ∧ ad' 102 = ad 102 ∧ ad' 103 = ad 103) ∧ i + 5 ≤ L ∧ L ≤ 2560 ∧ cells ≤ 600000 ∧ slots ≤ 7302250
def lwN (p : Program) (l : Launch) (e : Env) (s : State) (m : MethodId) (below : List Frame) (meth : Method) (c : Code) (A : Nat → Prop) (Q : State → Prop) (D : va_G) (ad ad' : Nat → Nat) (cy : Nat → ClassId) (b i cells slots : Nat) : Prop :=
  ∀ (u : CX) (v : MX) (H : Heap) (locs : List Loc) (ls : Array Slot), Rel u v → zIn D ad cy (WX ad cy u ++ WM ad' cy v) A s H locs → lv_has ls 4 [(0, .ref b), (1, .ref (ad 0)), (2, .ref (ad' 0)), (3, .int (nI i))] → W p l e room_1 s m #[Value.ref b] below meth c H locs cells slots Q (F0 m 1148 ls [])
theorem lw_arg {j : Nat} {z : Int} {w : va_W} (B : lwB s A b L xs ad ad' i cells slots) (hI : zIn D ad cy w A s H locs) (hl : lv_has ls 4 [(0, .ref b), (1, .ref (ad 0)), (2, .ref (ad' 0)), (3, .int (nI i))]) (hj : j ≤ 4) (d0 : decode cL_law pc = .ok (.aload_n 0, 1)) (d1 : decode cL_law (pc + 1) = .ok (.iload_n 3, 1)) (d2 : decode cL_law (pc + 1 + 1) = .ok (.iconst z, 1)) (d3 : decode cL_law (pc + 1 + 1 + 1) = .ok (.iadd, 1)) (d4 : decode cL_law (pc + 1 + 1 + 1 + 1) = .ok (.iaload, 1)) (hz : Int32.ofInt z = nI j)
    (kk : W p l e room_1 s m #[Value.ref b] below meth c H locs cells slots Q (F0 m (pc + 5) ls (.int (xs (i + j)) :: rest))) (hx : p.tables.exec = Jvm.exec := by with_reducible assumption) (hb : c.code = cL_law := by with_reducible assumption) : W p l e room_1 s m #[Value.ref b] below meth c H locs cells slots Q (F0 m pc ls rest) := by
  obtain ⟨hX, hbl, hbA, hadj, hi, hL, hcs, hss⟩ := B
  refine lv_aload_n hx hb d0 rfl (lv_at hl 0 rfl) ?_
  refine lv_iload_n hx hb d1 rfl (lv_at hl 3 rfl) ?_
  refine lv_iconst hx hb d2 hz ?_
  refine lv_iadd hx hb d3 ?_
  rw [nI_add]
  refine va_sld hx hb hX hbl hbA hI.2.2.2.1 (vp_in_nI (by omega) (by omega)) d4 ?_
  rw [nI_clamp (by omega)]
  exact kk
theorem lw_lcmp {r : Int64} {off : Int} (hx : p.tables.exec = Jvm.exec) (hb : c.code = cL_law) (d0 : decode cL_law pc = .ok (.lcmp, 1)) (d1 : decode cL_law (pc + 1) = .ok (.ifCond .eq off, 3)) (ht : ((pc + 1 : Nat) : Int) + off = (1148 : Nat))
    (kk : W p l e room_1 s m #[Value.ref b] below meth c H locs cells slots Q (F0 m 1148 ls rest)) : W p l e room_1 s m #[Value.ref b] below meth c H locs cells slots Q (F0 m pc ls (.long r :: .long r :: rest)) :=
  W.lcmp hx hb d0 (lv_if_eq hx hb d1 ht (fun _ => kk) (fun h => absurd ((lg_cmp_eq r r).mpr rfl) h))
theorem wX_C (ad ad' : Nat → Nat) (cy : Nat → ClassId) (u : CX) (v : MX) : (List.range 47).map (fun i => (WX ad cy u ++ WM ad' cy v)[i]?) = (WX ad cy u).map some := rfl
theorem wX_R (ad ad' : Nat → Nat) (cy : Nat → ClassId) (u : CX) (v : MX) : [47, 48, 49, 50, 51, 52, 53, 54, 55, 56, 57, 58, 59, 60, 61, 62, 63].map (fun i => (WX ad cy u ++ WM ad' cy v)[i]?) = (WM ad' cy v).map some := rfl
theorem wX_B (ad ad' : Nat → Nat) (cy : Nat → ClassId) (u : CX) (v : MX) : [17, 18, 19, 20, 21, 22, 23, 24, 25, 26, 27, 28, 29, 30, 31, 32, 33, 34, 35, 36, 37, 38, 39, 40, 41, 42, 43, 44, 45, 46, 47, 48, 49, 50, 51, 52, 53, 54, 55, 56, 57, 58, 59, 60, 61, 62, 63, 0, 1, 2, 3, 4, 5, 6, 7, 8, 9, 10, 11, 12, 13, 14, 15, 16].map (fun i => (WM ad' cy v ++ WX ad cy u)[i]?) = (WX ad cy u ++ WM ad' cy v).map some := rfl
variable {y : MethodName} {ws : List Cond} {rm : Room} {bytes : ByteArray} {index maxL n : Nat} {ret : Option FieldType} {As : List Value} {o : Option Value}
theorem lw_X {u u' : CX} {v : MX} (S : CallFix p m c cL_law 4 s #[Value.ref b] lw_tbl RL) (hM : zCt l y ws rm D ad cy (.ref (ad 0) :: As) (WX ad cy u) o (WX ad cy u')) (cw : CallW room_1 s #[Value.ref b] RL RX9 index y bytes maxL ret ws rm 0 0 n) (B : lwB s A b L xs ad ad' i cells slots) (hI : zIn D ad cy (WX ad cy u ++ WM ad' cy v) A s H locs) (hn : As.length = n) (hsize : ls.size = 4) (hst : st0 = As.reverse ++ .ref (ad 0) :: rest) (hW : (rest.map fun v => v.category).sum ≤ 8) (hdg : decode cL_law pc = .ok (.invokevirtual index, 3))
    (kk : ∀ (H1 : Heap) (locs1 : List Loc), zIn D ad cy (WX ad cy u' ++ WM ad' cy v) A s H1 locs1 → W p l e room_1 s m #[Value.ref b] below meth c H1 locs1 cells slots Q (F0 m (pc + 3) ls (o.toList ++ rest))) : W p l e room_1 s m #[Value.ref b] below meth c H locs cells slots Q (F0 m pc ls st0) :=
  z_callVf (q0 := 0) (wr := WM ad' cy v) S hM cw hI rfl (xl_0 ad cy u) (List.range 47) [47, 48, 49, 50, 51, 52, 53, 54, 55, 56, 57, 58, 59, 60, 61, 62, 63] (by decide) (wX_C ad ad' cy u v) (wX_R ad ad' cy u v) (by decide) (by decide) hn hsize hst hW hdg B.2.2.2.2.2.2.1 B.2.2.2.2.2.2.2 (fun H1 locs1 hI => kk H1 locs1 (hI.sub _ (by decide) (wX_B ad ad' cy u' v)))
theorem lw_M {u : CX} {v v' : MX} (S : CallFix p m c cL_law 4 s #[Value.ref b] lw_tbl RL) (hM : zCt l y ws rm D ad' cy (.ref (ad' 0) :: As) (WM ad' cy v) o (WM ad' cy v')) (cw : CallW room_1 s #[Value.ref b] RL RX10 index y bytes maxL ret ws rm 0 0 n) (B : lwB s A b L xs ad ad' i cells slots) (hI : zIn D ad cy (WX ad cy u ++ WM ad' cy v) A s H locs) (hn : As.length = n) (hsize : ls.size = 4) (hst : st0 = As.reverse ++ .ref (ad' 0) :: rest) (hW : (rest.map fun v => v.category).sum ≤ 8) (hdg : decode cL_law pc = .ok (.invokevirtual index, 3))
    (kk : ∀ (H1 : Heap) (locs1 : List Loc), zIn D ad cy (WX ad cy u ++ WM ad' cy v') A s H1 locs1 → W p l e room_1 s m #[Value.ref b] below meth c H1 locs1 cells slots Q (F0 m (pc + 3) ls (o.toList ++ rest))) : W p l e room_1 s m #[Value.ref b] below meth c H locs cells slots Q (F0 m pc ls st0) := by
  obtain ⟨g0, g1, g2, g3⟩ := B.2.2.2.1
  exact z_callVf (q0 := 0) (wr := WX ad cy u) S hM cw (hI.chg g0 g1 g2 g3) rfl (ml_0 ad' cy v) [47, 48, 49, 50, 51, 52, 53, 54, 55, 56, 57, 58, 59, 60, 61, 62, 63] (List.range 47) (by decide) (wX_R ad ad' cy u v) (wX_C ad ad' cy u v) (by decide) (by decide) hn hsize hst hW hdg B.2.2.2.2.2.2.1 B.2.2.2.2.2.2.2 (fun H1 locs1 hI => kk H1 locs1 (hI.chg g0.symm g1.symm g2.symm g3.symm))
set_option maxHeartbeats 1000000 in
set_option maxRecDepth 100000 in
theorem lw_case0 (S : CallFix p m c cL_law 4 s #[Value.ref b] lw_tbl RL) (B : lwB s A b L xs ad ad' i cells slots) (hN : lwN p l e s m below meth c A Q D ad ad' cy b i cells slots) {u : CX} {v : MX} (hR : Rel u v) (hI : zIn D ad cy (WX ad cy u ++ WM ad' cy v) A s H locs) (hl : lv_has ls 4 [(0, .ref b), (1, .ref (ad 0)), (2, .ref (ad' 0)), (3, .int (nI i))]) : W p l e room_1 s m #[Value.ref b] below meth c H locs cells slots Q (F0 m 180 ls []) := by
  obtain ⟨hx, hb, hml, hown, hts⟩ := id S
  obtain ⟨r, u2, v2, e1, e2, hR2⟩ := s_feed hR (k := 20000) (by omega) (((xs (i + 1)).toInt64 <<< ((32 : Int32).toInt64 &&& 63)) ||| ((xs (i + 2)).toInt64 &&& 4294967295))
  refine lv_aload_n (pc := 180) hx hb dL_law_180 rfl (lv_at hl 1 rfl) ?_
  refine lw_arg (pc := 181) (j := 1) B hI hl (by omega) dL_law_181 dL_law_182 dL_law_183 dL_law_184 dL_law_185 rfl ?_
  refine lv_i2l (pc := 186) hx hb dL_law_186 rfl ?_
  refine lv_bipush (pc := 187) (v := 32) hx hb dL_law_187 (by decide) ?_
  refine lv_lshl (pc := 189) hx hb dL_law_189 rfl ?_
  refine lw_arg (pc := 190) (j := 2) B hI hl (by omega) dL_law_190 dL_law_191 dL_law_192 dL_law_193 dL_law_194 rfl ?_
  refine lv_i2l (pc := 195) hx hb dL_law_195 rfl ?_
  refine lv_ldc2 (pc := 196) hx hb hown (hts (.constantLong RL 13 4294967295) lm_const) dL_law_196 ?_
  refine lv_land (pc := 199) hx hb dL_law_199 ?_
  refine lv_lor (pc := 200) hx hb dL_law_200 ?_
  refine lw_X (pc := 201) (As := [.long (((xs (i + 1)).toInt64 <<< ((32 : Int32).toInt64 &&& 63)) ||| ((xs (i + 2)).toInt64 &&& 4294967295))]) (rest := []) ⟨hx, hb, hml, hown, hts⟩ (kX9_feed l D ad cy 20000 (((xs (i + 1)).toInt64 <<< ((32 : Int32).toInt64 &&& 63)) ||| ((xs (i + 2)).toInt64 &&& 4294967295)) u r u2 e1) (cwV 1 hts gT_X9_feed rfl rfl rfl (by decide +kernel) ⟨Nat.le_of_ble_eq_true rfl, Nat.le_of_ble_eq_true rfl⟩) B hI rfl hl.1 rfl (Nat.le_of_ble_eq_true rfl) dL_law_201 (fun H locs hI => ?_)
  refine lv_aload_n (pc := 204) hx hb dL_law_204 rfl (lv_at hl 2 rfl) ?_
  refine lw_arg (pc := 205) (j := 1) B hI hl (by omega) dL_law_205 dL_law_206 dL_law_207 dL_law_208 dL_law_209 rfl ?_
  refine lv_i2l (pc := 210) hx hb dL_law_210 rfl ?_
  refine lv_bipush (pc := 211) (v := 32) hx hb dL_law_211 (by decide) ?_
  refine lv_lshl (pc := 213) hx hb dL_law_213 rfl ?_
  refine lw_arg (pc := 214) (j := 2) B hI hl (by omega) dL_law_214 dL_law_215 dL_law_216 dL_law_217 dL_law_218 rfl ?_
  refine lv_i2l (pc := 219) hx hb dL_law_219 rfl ?_
  refine lv_ldc2 (pc := 220) hx hb hown (hts (.constantLong RL 13 4294967295) lm_const) dL_law_220 ?_
  refine lv_land (pc := 223) hx hb dL_law_223 ?_
  refine lv_lor (pc := 224) hx hb dL_law_224 ?_
  refine lw_M (pc := 225) (As := [.long (((xs (i + 1)).toInt64 <<< ((32 : Int32).toInt64 &&& 63)) ||| ((xs (i + 2)).toInt64 &&& 4294967295))]) (rest := [.int r]) ⟨hx, hb, hml, hown, hts⟩ (kX10_feed l D ad' cy 20000 (((xs (i + 1)).toInt64 <<< ((32 : Int32).toInt64 &&& 63)) ||| ((xs (i + 2)).toInt64 &&& 4294967295)) v r v2 e2) (cwV 1 hts gT_X10_feed rfl rfl rfl (by decide +kernel) ⟨Nat.le_of_ble_eq_true rfl, Nat.le_of_ble_eq_true rfl⟩) B hI rfl hl.1 rfl (Nat.le_of_ble_eq_true rfl) dL_law_225 (fun H locs hI => ?_)
  refine lv_icmp_eq (pc := 228) (tgt := 1148) hx hb dL_law_228 (by decide) (fun _ => ?_) (fun hq => absurd rfl hq)
  exact hN u2 v2 H locs ls hR2 hI hl
set_option maxHeartbeats 1000000 in
set_option maxRecDepth 100000 in
theorem lw_case1 (S : CallFix p m c cL_law 4 s #[Value.ref b] lw_tbl RL) (B : lwB s A b L xs ad ad' i cells slots) (hN : lwN p l e s m below meth c A Q D ad ad' cy b i cells slots) {u : CX} {v : MX} (hR : Rel u v) (hI : zIn D ad cy (WX ad cy u ++ WM ad' cy v) A s H locs) (hl : lv_has ls 4 [(0, .ref b), (1, .ref (ad 0)), (2, .ref (ad' 0)), (3, .int (nI i))]) : W p l e room_1 s m #[Value.ref b] below meth c H locs cells slots Q (F0 m 233 ls []) := by
  obtain ⟨hx, hb, hml, hown, hts⟩ := id S
  obtain ⟨r, u2, v2, e1, e2, hR2⟩ := s_end hR (xs (i + 1))
  refine lv_aload_n (pc := 233) hx hb dL_law_233 rfl (lv_at hl 1 rfl) ?_
  refine lw_arg (pc := 234) (j := 1) B hI hl (by omega) dL_law_234 dL_law_235 dL_law_236 dL_law_237 dL_law_238 rfl ?_
  refine lw_X (pc := 239) (As := [.int (xs (i + 1))]) (rest := []) ⟨hx, hb, hml, hown, hts⟩ (kX9_end l D ad cy (xs (i + 1)) u r u2 e1) (cwV 1 hts gT_X9_end rfl rfl rfl (by decide +kernel) ⟨Nat.le_of_ble_eq_true rfl, Nat.le_of_ble_eq_true rfl⟩) B hI rfl hl.1 rfl (Nat.le_of_ble_eq_true rfl) dL_law_239 (fun H locs hI => ?_)
  refine lv_aload_n (pc := 242) hx hb dL_law_242 rfl (lv_at hl 2 rfl) ?_
  refine lw_arg (pc := 243) (j := 1) B hI hl (by omega) dL_law_243 dL_law_244 dL_law_245 dL_law_246 dL_law_247 rfl ?_
  refine lw_M (pc := 248) (As := [.int (xs (i + 1))]) (rest := [.int r]) ⟨hx, hb, hml, hown, hts⟩ (kX10_end l D ad' cy (xs (i + 1)) v r v2 e2) (cwV 1 hts gT_X10_end rfl rfl rfl (by decide +kernel) ⟨Nat.le_of_ble_eq_true rfl, Nat.le_of_ble_eq_true rfl⟩) B hI rfl hl.1 rfl (Nat.le_of_ble_eq_true rfl) dL_law_248 (fun H locs hI => ?_)
  refine lv_icmp_eq (pc := 251) (tgt := 1148) hx hb dL_law_251 (by decide) (fun _ => ?_) (fun hq => absurd rfl hq)
  exact hN u2 v2 H locs ls hR2 hI hl
set_option maxHeartbeats 1000000 in
set_option maxRecDepth 100000 in
theorem lw_case2 (S : CallFix p m c cL_law 4 s #[Value.ref b] lw_tbl RL) (B : lwB s A b L xs ad ad' i cells slots) (hN : lwN p l e s m below meth c A Q D ad ad' cy b i cells slots) {u : CX} {v : MX} (hR : Rel u v) (hI : zIn D ad cy (WX ad cy u ++ WM ad' cy v) A s H locs) (hl : lv_has ls 4 [(0, .ref b), (1, .ref (ad 0)), (2, .ref (ad' 0)), (3, .int (nI i))]) : W p l e room_1 s m #[Value.ref b] below meth c H locs cells slots Q (F0 m 256 ls []) := by
  obtain ⟨hx, hb, hml, hown, hts⟩ := id S
  obtain ⟨r, u2, v2, e1, e2, hR2⟩ := s_text hR (k := 20000) (by omega) 
  refine lv_aload_n (pc := 256) hx hb dL_law_256 rfl (lv_at hl 1 rfl) ?_
  refine lw_X (pc := 257) (As := []) (rest := []) ⟨hx, hb, hml, hown, hts⟩ (kX9_text l D ad cy 20000 u r u2 e1) (cwV 0 hts gT_X9_text rfl rfl rfl (by decide +kernel) ⟨Nat.le_of_ble_eq_true rfl, Nat.le_of_ble_eq_true rfl⟩) B hI rfl hl.1 rfl (Nat.le_of_ble_eq_true rfl) dL_law_257 (fun H locs hI => ?_)
  refine lv_aload_n (pc := 260) hx hb dL_law_260 rfl (lv_at hl 2 rfl) ?_
  refine lw_M (pc := 261) (As := []) (rest := [.int r]) ⟨hx, hb, hml, hown, hts⟩ (kX10_text l D ad' cy 20000 v r v2 e2) (cwV 0 hts gT_X10_text rfl rfl rfl (by decide +kernel) ⟨Nat.le_of_ble_eq_true rfl, Nat.le_of_ble_eq_true rfl⟩) B hI rfl hl.1 rfl (Nat.le_of_ble_eq_true rfl) dL_law_261 (fun H locs hI => ?_)
  refine lv_icmp_eq (pc := 264) (tgt := 1148) hx hb dL_law_264 (by decide) (fun _ => ?_) (fun hq => absurd rfl hq)
  exact hN u2 v2 H locs ls hR2 hI hl
set_option maxHeartbeats 1000000 in
set_option maxRecDepth 100000 in
theorem lw_case3 (S : CallFix p m c cL_law 4 s #[Value.ref b] lw_tbl RL) (B : lwB s A b L xs ad ad' i cells slots) (hN : lwN p l e s m below meth c A Q D ad ad' cy b i cells slots) {u : CX} {v : MX} (hR : Rel u v) (hI : zIn D ad cy (WX ad cy u ++ WM ad' cy v) A s H locs) (hl : lv_has ls 4 [(0, .ref b), (1, .ref (ad 0)), (2, .ref (ad' 0)), (3, .int (nI i))]) : W p l e room_1 s m #[Value.ref b] below meth c H locs cells slots Q (F0 m 269 ls []) := by
  obtain ⟨hx, hb, hml, hown, hts⟩ := id S
  obtain ⟨r, e1, e2⟩ := s_fault hR 
  refine lv_aload_n (pc := 269) hx hb dL_law_269 rfl (lv_at hl 1 rfl) ?_
  refine lw_X (pc := 270) (As := []) (rest := []) ⟨hx, hb, hml, hown, hts⟩ (kX9_fault l D ad cy u r e1) (cwV 0 hts gT_X9_fault rfl rfl rfl (by decide +kernel) ⟨Nat.le_of_ble_eq_true rfl, Nat.le_of_ble_eq_true rfl⟩) B hI rfl hl.1 rfl (Nat.le_of_ble_eq_true rfl) dL_law_270 (fun H locs hI => ?_)
  refine lv_aload_n (pc := 273) hx hb dL_law_273 rfl (lv_at hl 2 rfl) ?_
  refine lw_M (pc := 274) (As := []) (rest := [.int r]) ⟨hx, hb, hml, hown, hts⟩ (kX10_fault l D ad' cy v r e2) (cwV 0 hts gT_X10_fault rfl rfl rfl (by decide +kernel) ⟨Nat.le_of_ble_eq_true rfl, Nat.le_of_ble_eq_true rfl⟩) B hI rfl hl.1 rfl (Nat.le_of_ble_eq_true rfl) dL_law_274 (fun H locs hI => ?_)
  refine lv_icmp_eq (pc := 277) (tgt := 1148) hx hb dL_law_277 (by decide) (fun _ => ?_) (fun hq => absurd rfl hq)
  exact hN u v H locs ls hR hI hl
set_option maxHeartbeats 1000000 in
set_option maxRecDepth 100000 in
theorem lw_case4 (S : CallFix p m c cL_law 4 s #[Value.ref b] lw_tbl RL) (B : lwB s A b L xs ad ad' i cells slots) (hN : lwN p l e s m below meth c A Q D ad ad' cy b i cells slots) {u : CX} {v : MX} (hR : Rel u v) (hI : zIn D ad cy (WX ad cy u ++ WM ad' cy v) A s H locs) (hl : lv_has ls 4 [(0, .ref b), (1, .ref (ad 0)), (2, .ref (ad' 0)), (3, .int (nI i))]) : W p l e room_1 s m #[Value.ref b] below meth c H locs cells slots Q (F0 m 282 ls []) := by
  obtain ⟨hx, hb, hml, hown, hts⟩ := id S
  obtain ⟨r, e1, e2⟩ := s_part hR (xs (i + 1)) (xs (i + 2))
  refine lv_aload_n (pc := 282) hx hb dL_law_282 rfl (lv_at hl 1 rfl) ?_
  refine lw_arg (pc := 283) (j := 1) B hI hl (by omega) dL_law_283 dL_law_284 dL_law_285 dL_law_286 dL_law_287 rfl ?_
  refine lw_arg (pc := 288) (j := 2) B hI hl (by omega) dL_law_288 dL_law_289 dL_law_290 dL_law_291 dL_law_292 rfl ?_
  refine lw_X (pc := 293) (As := [.int (xs (i + 1)), .int (xs (i + 2))]) (rest := []) ⟨hx, hb, hml, hown, hts⟩ (kX9_part l D ad cy (xs (i + 1)) (xs (i + 2)) u r e1) (cwV 2 hts gT_X9_part rfl rfl rfl (by decide +kernel) ⟨Nat.le_of_ble_eq_true rfl, Nat.le_of_ble_eq_true rfl⟩) B hI rfl hl.1 rfl (Nat.le_of_ble_eq_true rfl) dL_law_293 (fun H locs hI => ?_)
  refine lv_aload_n (pc := 296) hx hb dL_law_296 rfl (lv_at hl 2 rfl) ?_
  refine lw_arg (pc := 297) (j := 1) B hI hl (by omega) dL_law_297 dL_law_298 dL_law_299 dL_law_300 dL_law_301 rfl ?_
  refine lw_arg (pc := 302) (j := 2) B hI hl (by omega) dL_law_302 dL_law_303 dL_law_304 dL_law_305 dL_law_306 rfl ?_
  refine lw_M (pc := 307) (As := [.int (xs (i + 1)), .int (xs (i + 2))]) (rest := [.int r]) ⟨hx, hb, hml, hown, hts⟩ (kX10_part l D ad' cy (xs (i + 1)) (xs (i + 2)) v r e2) (cwV 2 hts gT_X10_part rfl rfl rfl (by decide +kernel) ⟨Nat.le_of_ble_eq_true rfl, Nat.le_of_ble_eq_true rfl⟩) B hI rfl hl.1 rfl (Nat.le_of_ble_eq_true rfl) dL_law_307 (fun H locs hI => ?_)
  refine lv_icmp_eq (pc := 310) (tgt := 1148) hx hb dL_law_310 (by decide) (fun _ => ?_) (fun hq => absurd rfl hq)
  exact hN u v H locs ls hR hI hl
set_option maxHeartbeats 1000000 in
set_option maxRecDepth 100000 in
theorem lw_case5 (S : CallFix p m c cL_law 4 s #[Value.ref b] lw_tbl RL) (B : lwB s A b L xs ad ad' i cells slots) (hN : lwN p l e s m below meth c A Q D ad ad' cy b i cells slots) {u : CX} {v : MX} (hR : Rel u v) (hI : zIn D ad cy (WX ad cy u ++ WM ad' cy v) A s H locs) (hl : lv_has ls 4 [(0, .ref b), (1, .ref (ad 0)), (2, .ref (ad' 0)), (3, .int (nI i))]) : W p l e room_1 s m #[Value.ref b] below meth c H locs cells slots Q (F0 m 315 ls []) := by
  obtain ⟨hx, hb, hml, hown, hts⟩ := id S
  obtain ⟨r, e1, e2⟩ := s_rule hR (xs (i + 1))
  refine lv_aload_n (pc := 315) hx hb dL_law_315 rfl (lv_at hl 1 rfl) ?_
  refine lw_arg (pc := 316) (j := 1) B hI hl (by omega) dL_law_316 dL_law_317 dL_law_318 dL_law_319 dL_law_320 rfl ?_
  refine lw_X (pc := 321) (As := [.int (xs (i + 1))]) (rest := []) ⟨hx, hb, hml, hown, hts⟩ (kX9_rule l D ad cy (xs (i + 1)) u r e1) (cwV 1 hts gT_X9_rule rfl rfl rfl (by decide +kernel) ⟨Nat.le_of_ble_eq_true rfl, Nat.le_of_ble_eq_true rfl⟩) B hI rfl hl.1 rfl (Nat.le_of_ble_eq_true rfl) dL_law_321 (fun H locs hI => ?_)
  refine lv_aload_n (pc := 324) hx hb dL_law_324 rfl (lv_at hl 2 rfl) ?_
  refine lw_arg (pc := 325) (j := 1) B hI hl (by omega) dL_law_325 dL_law_326 dL_law_327 dL_law_328 dL_law_329 rfl ?_
  refine lw_M (pc := 330) (As := [.int (xs (i + 1))]) (rest := [.int r]) ⟨hx, hb, hml, hown, hts⟩ (kX10_rule l D ad' cy (xs (i + 1)) v r e2) (cwV 1 hts gT_X10_rule rfl rfl rfl (by decide +kernel) ⟨Nat.le_of_ble_eq_true rfl, Nat.le_of_ble_eq_true rfl⟩) B hI rfl hl.1 rfl (Nat.le_of_ble_eq_true rfl) dL_law_330 (fun H locs hI => ?_)
  refine lv_icmp_eq (pc := 333) (tgt := 1148) hx hb dL_law_333 (by decide) (fun _ => ?_) (fun hq => absurd rfl hq)
  exact hN u v H locs ls hR hI hl
set_option maxHeartbeats 1000000 in
set_option maxRecDepth 100000 in
theorem lw_case6 (S : CallFix p m c cL_law 4 s #[Value.ref b] lw_tbl RL) (B : lwB s A b L xs ad ad' i cells slots) (hN : lwN p l e s m below meth c A Q D ad ad' cy b i cells slots) {u : CX} {v : MX} (hR : Rel u v) (hI : zIn D ad cy (WX ad cy u ++ WM ad' cy v) A s H locs) (hl : lv_has ls 4 [(0, .ref b), (1, .ref (ad 0)), (2, .ref (ad' 0)), (3, .int (nI i))]) : W p l e room_1 s m #[Value.ref b] below meth c H locs cells slots Q (F0 m 338 ls []) := by
  obtain ⟨hx, hb, hml, hown, hts⟩ := id S
  obtain ⟨r, u2, v2, e1, e2, hR2⟩ := s_told hR (k := 20000) (by omega) (xs (i + 1)) (xs (i + 2)) (xs (i + 3))
  refine lv_aload_n (pc := 338) hx hb dL_law_338 rfl (lv_at hl 1 rfl) ?_
  refine lw_arg (pc := 339) (j := 1) B hI hl (by omega) dL_law_339 dL_law_340 dL_law_341 dL_law_342 dL_law_343 rfl ?_
  refine lw_arg (pc := 344) (j := 2) B hI hl (by omega) dL_law_344 dL_law_345 dL_law_346 dL_law_347 dL_law_348 rfl ?_
  refine lw_arg (pc := 349) (j := 3) B hI hl (by omega) dL_law_349 dL_law_350 dL_law_351 dL_law_352 dL_law_353 rfl ?_
  refine lw_X (pc := 354) (As := [.int (xs (i + 1)), .int (xs (i + 2)), .int (xs (i + 3))]) (rest := []) ⟨hx, hb, hml, hown, hts⟩ (kX9_told l D ad cy 20000 (xs (i + 1)) (xs (i + 2)) (xs (i + 3)) u r u2 e1) (cwV 3 hts gT_X9_told rfl rfl rfl (by decide +kernel) ⟨Nat.le_of_ble_eq_true rfl, Nat.le_of_ble_eq_true rfl⟩) B hI rfl hl.1 rfl (Nat.le_of_ble_eq_true rfl) dL_law_354 (fun H locs hI => ?_)
  refine lv_aload_n (pc := 357) hx hb dL_law_357 rfl (lv_at hl 2 rfl) ?_
  refine lw_arg (pc := 358) (j := 1) B hI hl (by omega) dL_law_358 dL_law_359 dL_law_360 dL_law_361 dL_law_362 rfl ?_
  refine lw_arg (pc := 363) (j := 2) B hI hl (by omega) dL_law_363 dL_law_364 dL_law_365 dL_law_366 dL_law_367 rfl ?_
  refine lw_arg (pc := 368) (j := 3) B hI hl (by omega) dL_law_368 dL_law_369 dL_law_370 dL_law_371 dL_law_372 rfl ?_
  refine lw_M (pc := 373) (As := [.int (xs (i + 1)), .int (xs (i + 2)), .int (xs (i + 3))]) (rest := [.int r]) ⟨hx, hb, hml, hown, hts⟩ (kX10_told l D ad' cy 20000 (xs (i + 1)) (xs (i + 2)) (xs (i + 3)) v r v2 e2) (cwV 3 hts gT_X10_told rfl rfl rfl (by decide +kernel) ⟨Nat.le_of_ble_eq_true rfl, Nat.le_of_ble_eq_true rfl⟩) B hI rfl hl.1 rfl (Nat.le_of_ble_eq_true rfl) dL_law_373 (fun H locs hI => ?_)
  refine lv_icmp_eq (pc := 376) (tgt := 1148) hx hb dL_law_376 (by decide) (fun _ => ?_) (fun hq => absurd rfl hq)
  exact hN u2 v2 H locs ls hR2 hI hl
set_option maxHeartbeats 1000000 in
set_option maxRecDepth 100000 in
theorem lw_case7 (S : CallFix p m c cL_law 4 s #[Value.ref b] lw_tbl RL) (B : lwB s A b L xs ad ad' i cells slots) (hN : lwN p l e s m below meth c A Q D ad ad' cy b i cells slots) {u : CX} {v : MX} (hR : Rel u v) (hI : zIn D ad cy (WX ad cy u ++ WM ad' cy v) A s H locs) (hl : lv_has ls 4 [(0, .ref b), (1, .ref (ad 0)), (2, .ref (ad' 0)), (3, .int (nI i))]) : W p l e room_1 s m #[Value.ref b] below meth c H locs cells slots Q (F0 m 381 ls []) := by
  obtain ⟨hx, hb, hml, hown, hts⟩ := id S
  obtain ⟨r, u2, v2, e1, e2, hR2⟩ := s_draw hR (k := 20000) (by omega) (xs (i + 1))
  refine lv_aload_n (pc := 381) hx hb dL_law_381 rfl (lv_at hl 1 rfl) ?_
  refine lw_arg (pc := 382) (j := 1) B hI hl (by omega) dL_law_382 dL_law_383 dL_law_384 dL_law_385 dL_law_386 rfl ?_
  refine lw_X (pc := 387) (As := [.int (xs (i + 1))]) (rest := []) ⟨hx, hb, hml, hown, hts⟩ (kX9_draw l D ad cy 20000 (xs (i + 1)) u r u2 e1) (cwV 1 hts gT_X9_draw rfl rfl rfl (by decide +kernel) ⟨Nat.le_of_ble_eq_true rfl, Nat.le_of_ble_eq_true rfl⟩) B hI rfl hl.1 rfl (Nat.le_of_ble_eq_true rfl) dL_law_387 (fun H locs hI => ?_)
  refine lv_aload_n (pc := 390) hx hb dL_law_390 rfl (lv_at hl 2 rfl) ?_
  refine lw_arg (pc := 391) (j := 1) B hI hl (by omega) dL_law_391 dL_law_392 dL_law_393 dL_law_394 dL_law_395 rfl ?_
  refine lw_M (pc := 396) (As := [.int (xs (i + 1))]) (rest := [.int r]) ⟨hx, hb, hml, hown, hts⟩ (kX10_draw l D ad' cy 20000 (xs (i + 1)) v r v2 e2) (cwV 1 hts gT_X10_draw rfl rfl rfl (by decide +kernel) ⟨Nat.le_of_ble_eq_true rfl, Nat.le_of_ble_eq_true rfl⟩) B hI rfl hl.1 rfl (Nat.le_of_ble_eq_true rfl) dL_law_396 (fun H locs hI => ?_)
  refine lv_icmp_eq (pc := 399) (tgt := 1148) hx hb dL_law_399 (by decide) (fun _ => ?_) (fun hq => absurd rfl hq)
  exact hN u2 v2 H locs ls hR2 hI hl
set_option maxHeartbeats 1000000 in
set_option maxRecDepth 100000 in
theorem lw_case8 (S : CallFix p m c cL_law 4 s #[Value.ref b] lw_tbl RL) (B : lwB s A b L xs ad ad' i cells slots) (hN : lwN p l e s m below meth c A Q D ad ad' cy b i cells slots) {u : CX} {v : MX} (hR : Rel u v) (hI : zIn D ad cy (WX ad cy u ++ WM ad' cy v) A s H locs) (hl : lv_has ls 4 [(0, .ref b), (1, .ref (ad 0)), (2, .ref (ad' 0)), (3, .int (nI i))]) : W p l e room_1 s m #[Value.ref b] below meth c H locs cells slots Q (F0 m 404 ls []) := by
  obtain ⟨hx, hb, hml, hown, hts⟩ := id S
  obtain ⟨r, u2, v2, e1, e2, hR2⟩ := s_seed hR (xs (i + 1))
  refine lv_aload_n (pc := 404) hx hb dL_law_404 rfl (lv_at hl 1 rfl) ?_
  refine lw_arg (pc := 405) (j := 1) B hI hl (by omega) dL_law_405 dL_law_406 dL_law_407 dL_law_408 dL_law_409 rfl ?_
  refine lw_X (pc := 410) (As := [.int (xs (i + 1))]) (rest := []) ⟨hx, hb, hml, hown, hts⟩ (kX9_seed l D ad cy (xs (i + 1)) u r u2 e1) (cwV 1 hts gT_X9_seed rfl rfl rfl (by decide +kernel) ⟨Nat.le_of_ble_eq_true rfl, Nat.le_of_ble_eq_true rfl⟩) B hI rfl hl.1 rfl (Nat.le_of_ble_eq_true rfl) dL_law_410 (fun H locs hI => ?_)
  refine lv_aload_n (pc := 413) hx hb dL_law_413 rfl (lv_at hl 2 rfl) ?_
  refine lw_arg (pc := 414) (j := 1) B hI hl (by omega) dL_law_414 dL_law_415 dL_law_416 dL_law_417 dL_law_418 rfl ?_
  refine lw_M (pc := 419) (As := [.int (xs (i + 1))]) (rest := [.int r]) ⟨hx, hb, hml, hown, hts⟩ (kX10_seed l D ad' cy (xs (i + 1)) v r v2 e2) (cwV 1 hts gT_X10_seed rfl rfl rfl (by decide +kernel) ⟨Nat.le_of_ble_eq_true rfl, Nat.le_of_ble_eq_true rfl⟩) B hI rfl hl.1 rfl (Nat.le_of_ble_eq_true rfl) dL_law_419 (fun H locs hI => ?_)
  refine lv_icmp_eq (pc := 422) (tgt := 1148) hx hb dL_law_422 (by decide) (fun _ => ?_) (fun hq => absurd rfl hq)
  exact hN u2 v2 H locs ls hR2 hI hl
set_option maxHeartbeats 1000000 in
set_option maxRecDepth 100000 in
theorem lw_case9 (S : CallFix p m c cL_law 4 s #[Value.ref b] lw_tbl RL) (B : lwB s A b L xs ad ad' i cells slots) (hN : lwN p l e s m below meth c A Q D ad ad' cy b i cells slots) {u : CX} {v : MX} (hR : Rel u v) (hI : zIn D ad cy (WX ad cy u ++ WM ad' cy v) A s H locs) (hl : lv_has ls 4 [(0, .ref b), (1, .ref (ad 0)), (2, .ref (ad' 0)), (3, .int (nI i))]) : W p l e room_1 s m #[Value.ref b] below meth c H locs cells slots Q (F0 m 427 ls []) := by
  obtain ⟨hx, hb, hml, hown, hts⟩ := id S
  obtain ⟨bb, hbb, hb1⟩ : ∃ bb : Int32, (bb = 0 ∨ bb = 1) ∧ bb = (if xs (i + 2) = 0 then 0 else 1) := ⟨_, by split; exact Or.inl rfl; exact Or.inr rfl, rfl⟩
  obtain ⟨r, u2, v2, e1, e2, hR2⟩ := s_wreck hR (xs (i + 1)) bb hbb
  refine lv_aload_n (pc := 427) hx hb dL_law_427 rfl (lv_at hl 1 rfl) ?_
  refine lw_arg (pc := 428) (j := 1) B hI hl (by omega) dL_law_428 dL_law_429 dL_law_430 dL_law_431 dL_law_432 rfl ?_
  refine lw_arg (pc := 433) (j := 2) B hI hl (by omega) dL_law_433 dL_law_434 dL_law_435 dL_law_436 dL_law_437 rfl ?_
  suffices hsf : W p l e room_1 s m #[Value.ref b] below meth c H locs cells slots Q (F0 m 446 ls [.int bb, .int (xs (i + 1)), .ref (ad 0)]) by
    refine lv_if_eq (pc := 438) (tgt := 445) hx hb dL_law_438 (by decide) (fun hq => ?_) (fun hq => ?_)
    · rw [hb1, if_pos hq] at hsf
      refine lv_iconst (pc := 445) (v := 0) hx hb dL_law_445 (by decide) ?_
      exact hsf
    · rw [hb1, if_neg hq] at hsf
      refine lv_iconst (pc := 441) (v := 1) hx hb dL_law_441 (by decide) ?_
      refine lv_goto (pc := 442) (tgt := 446) hx hb dL_law_442 (by decide) ?_
      exact hsf
  refine lw_X (pc := 446) (As := [.int (xs (i + 1)), .int bb]) (rest := []) ⟨hx, hb, hml, hown, hts⟩ (kX9_wreck l D ad cy (xs (i + 1)) bb u r u2 e1) (cwV 2 hts gT_X9_wreck rfl rfl rfl (by decide +kernel) ⟨Nat.le_of_ble_eq_true rfl, Nat.le_of_ble_eq_true rfl⟩) B hI rfl hl.1 rfl (Nat.le_of_ble_eq_true rfl) dL_law_446 (fun H locs hI => ?_)
  refine lv_aload_n (pc := 449) hx hb dL_law_449 rfl (lv_at hl 2 rfl) ?_
  refine lw_arg (pc := 450) (j := 1) B hI hl (by omega) dL_law_450 dL_law_451 dL_law_452 dL_law_453 dL_law_454 rfl ?_
  refine lw_arg (pc := 455) (j := 2) B hI hl (by omega) dL_law_455 dL_law_456 dL_law_457 dL_law_458 dL_law_459 rfl ?_
  suffices hsf : W p l e room_1 s m #[Value.ref b] below meth c H locs cells slots Q (F0 m 468 ls [.int bb, .int (xs (i + 1)), .ref (ad' 0), .int r]) by
    refine lv_if_eq (pc := 460) (tgt := 467) hx hb dL_law_460 (by decide) (fun hq => ?_) (fun hq => ?_)
    · rw [hb1, if_pos hq] at hsf
      refine lv_iconst (pc := 467) (v := 0) hx hb dL_law_467 (by decide) ?_
      exact hsf
    · rw [hb1, if_neg hq] at hsf
      refine lv_iconst (pc := 463) (v := 1) hx hb dL_law_463 (by decide) ?_
      refine lv_goto (pc := 464) (tgt := 468) hx hb dL_law_464 (by decide) ?_
      exact hsf
  refine lw_M (pc := 468) (As := [.int (xs (i + 1)), .int bb]) (rest := [.int r]) ⟨hx, hb, hml, hown, hts⟩ (kX10_wreck l D ad' cy (xs (i + 1)) bb v r v2 e2) (cwV 2 hts gT_X10_wreck rfl rfl rfl (by decide +kernel) ⟨Nat.le_of_ble_eq_true rfl, Nat.le_of_ble_eq_true rfl⟩) B hI rfl hl.1 rfl (Nat.le_of_ble_eq_true rfl) dL_law_468 (fun H locs hI => ?_)
  refine lv_icmp_eq (pc := 471) (tgt := 1148) hx hb dL_law_471 (by decide) (fun _ => ?_) (fun hq => absurd rfl hq)
  exact hN u2 v2 H locs ls hR2 hI hl
set_option maxHeartbeats 1000000 in
set_option maxRecDepth 100000 in
theorem lw_case10 (S : CallFix p m c cL_law 4 s #[Value.ref b] lw_tbl RL) (B : lwB s A b L xs ad ad' i cells slots) (hN : lwN p l e s m below meth c A Q D ad ad' cy b i cells slots) {u : CX} {v : MX} (hR : Rel u v) (hI : zIn D ad cy (WX ad cy u ++ WM ad' cy v) A s H locs) (hl : lv_has ls 4 [(0, .ref b), (1, .ref (ad 0)), (2, .ref (ad' 0)), (3, .int (nI i))]) : W p l e room_1 s m #[Value.ref b] below meth c H locs cells slots Q (F0 m 476 ls []) := by
  obtain ⟨hx, hb, hml, hown, hts⟩ := id S
  obtain ⟨r, u2, v2, e1, e2, hR2⟩ := s_ground hR (xs (i + 1)) (xs (i + 2)) (xs (i + 3))
  refine lv_aload_n (pc := 476) hx hb dL_law_476 rfl (lv_at hl 1 rfl) ?_
  refine lw_arg (pc := 477) (j := 1) B hI hl (by omega) dL_law_477 dL_law_478 dL_law_479 dL_law_480 dL_law_481 rfl ?_
  refine lw_arg (pc := 482) (j := 2) B hI hl (by omega) dL_law_482 dL_law_483 dL_law_484 dL_law_485 dL_law_486 rfl ?_
  refine lw_arg (pc := 487) (j := 3) B hI hl (by omega) dL_law_487 dL_law_488 dL_law_489 dL_law_490 dL_law_491 rfl ?_
  refine lw_X (pc := 492) (As := [.int (xs (i + 1)), .int (xs (i + 2)), .int (xs (i + 3))]) (rest := []) ⟨hx, hb, hml, hown, hts⟩ (kX9_ground l D ad cy (xs (i + 1)) (xs (i + 2)) (xs (i + 3)) u r u2 e1) (cwV 3 hts gT_X9_ground rfl rfl rfl (by decide +kernel) ⟨Nat.le_of_ble_eq_true rfl, Nat.le_of_ble_eq_true rfl⟩) B hI rfl hl.1 rfl (Nat.le_of_ble_eq_true rfl) dL_law_492 (fun H locs hI => ?_)
  refine lv_aload_n (pc := 495) hx hb dL_law_495 rfl (lv_at hl 2 rfl) ?_
  refine lw_arg (pc := 496) (j := 1) B hI hl (by omega) dL_law_496 dL_law_497 dL_law_498 dL_law_499 dL_law_500 rfl ?_
  refine lw_arg (pc := 501) (j := 2) B hI hl (by omega) dL_law_501 dL_law_502 dL_law_503 dL_law_504 dL_law_505 rfl ?_
  refine lw_arg (pc := 506) (j := 3) B hI hl (by omega) dL_law_506 dL_law_507 dL_law_508 dL_law_509 dL_law_510 rfl ?_
  refine lw_M (pc := 511) (As := [.int (xs (i + 1)), .int (xs (i + 2)), .int (xs (i + 3))]) (rest := [.int r]) ⟨hx, hb, hml, hown, hts⟩ (kX10_ground l D ad' cy (xs (i + 1)) (xs (i + 2)) (xs (i + 3)) v r v2 e2) (cwV 3 hts gT_X10_ground rfl rfl rfl (by decide +kernel) ⟨Nat.le_of_ble_eq_true rfl, Nat.le_of_ble_eq_true rfl⟩) B hI rfl hl.1 rfl (Nat.le_of_ble_eq_true rfl) dL_law_511 (fun H locs hI => ?_)
  refine lv_icmp_eq (pc := 514) (tgt := 1148) hx hb dL_law_514 (by decide) (fun _ => ?_) (fun hq => absurd rfl hq)
  exact hN u2 v2 H locs ls hR2 hI hl
set_option maxHeartbeats 1000000 in
set_option maxRecDepth 100000 in
theorem lw_case11 (S : CallFix p m c cL_law 4 s #[Value.ref b] lw_tbl RL) (B : lwB s A b L xs ad ad' i cells slots) (hN : lwN p l e s m below meth c A Q D ad ad' cy b i cells slots) {u : CX} {v : MX} (hR : Rel u v) (hI : zIn D ad cy (WX ad cy u ++ WM ad' cy v) A s H locs) (hl : lv_has ls 4 [(0, .ref b), (1, .ref (ad 0)), (2, .ref (ad' 0)), (3, .int (nI i))]) : W p l e room_1 s m #[Value.ref b] below meth c H locs cells slots Q (F0 m 519 ls []) := by
  obtain ⟨hx, hb, hml, hown, hts⟩ := id S
  obtain ⟨r, e1, e2⟩ := s_known hR (xs (i + 1))
  refine lv_aload_n (pc := 519) hx hb dL_law_519 rfl (lv_at hl 1 rfl) ?_
  refine lw_arg (pc := 520) (j := 1) B hI hl (by omega) dL_law_520 dL_law_521 dL_law_522 dL_law_523 dL_law_524 rfl ?_
  refine lw_X (pc := 525) (As := [.int (xs (i + 1))]) (rest := []) ⟨hx, hb, hml, hown, hts⟩ (kX9_known l D ad cy (xs (i + 1)) u r e1) (cwV 1 hts gT_X9_known rfl rfl rfl (by decide +kernel) ⟨Nat.le_of_ble_eq_true rfl, Nat.le_of_ble_eq_true rfl⟩) B hI rfl hl.1 rfl (Nat.le_of_ble_eq_true rfl) dL_law_525 (fun H locs hI => ?_)
  refine lv_aload_n (pc := 528) hx hb dL_law_528 rfl (lv_at hl 2 rfl) ?_
  refine lw_arg (pc := 529) (j := 1) B hI hl (by omega) dL_law_529 dL_law_530 dL_law_531 dL_law_532 dL_law_533 rfl ?_
  refine lw_M (pc := 534) (As := [.int (xs (i + 1))]) (rest := [.int r]) ⟨hx, hb, hml, hown, hts⟩ (kX10_known l D ad' cy (xs (i + 1)) v r e2) (cwV 1 hts gT_X10_known rfl rfl rfl (by decide +kernel) ⟨Nat.le_of_ble_eq_true rfl, Nat.le_of_ble_eq_true rfl⟩) B hI rfl hl.1 rfl (Nat.le_of_ble_eq_true rfl) dL_law_534 (fun H locs hI => ?_)
  refine lv_icmp_eq (pc := 537) (tgt := 1148) hx hb dL_law_537 (by decide) (fun _ => ?_) (fun hq => absurd rfl hq)
  exact hN u v H locs ls hR hI hl
set_option maxHeartbeats 1000000 in
set_option maxRecDepth 100000 in
theorem lw_case12 (S : CallFix p m c cL_law 4 s #[Value.ref b] lw_tbl RL) (B : lwB s A b L xs ad ad' i cells slots) (hN : lwN p l e s m below meth c A Q D ad ad' cy b i cells slots) {u : CX} {v : MX} (hR : Rel u v) (hI : zIn D ad cy (WX ad cy u ++ WM ad' cy v) A s H locs) (hl : lv_has ls 4 [(0, .ref b), (1, .ref (ad 0)), (2, .ref (ad' 0)), (3, .int (nI i))]) : W p l e room_1 s m #[Value.ref b] below meth c H locs cells slots Q (F0 m 542 ls []) := by
  obtain ⟨hx, hb, hml, hown, hts⟩ := id S
  obtain ⟨r, u2, v2, e1, e2, hR2⟩ := s_undo hR (k := 20000) (by omega) 
  refine lv_aload_n (pc := 542) hx hb dL_law_542 rfl (lv_at hl 1 rfl) ?_
  refine lw_X (pc := 543) (As := []) (rest := []) ⟨hx, hb, hml, hown, hts⟩ (kX9_undo l D ad cy 20000 u r u2 e1) (cwV 0 hts gT_X9_undo rfl rfl rfl (by decide +kernel) ⟨Nat.le_of_ble_eq_true rfl, Nat.le_of_ble_eq_true rfl⟩) B hI rfl hl.1 rfl (Nat.le_of_ble_eq_true rfl) dL_law_543 (fun H locs hI => ?_)
  refine lv_aload_n (pc := 546) hx hb dL_law_546 rfl (lv_at hl 2 rfl) ?_
  refine lw_M (pc := 547) (As := []) (rest := [.int r]) ⟨hx, hb, hml, hown, hts⟩ (kX10_undo l D ad' cy 20000 v r v2 e2) (cwV 0 hts gT_X10_undo rfl rfl rfl (by decide +kernel) ⟨Nat.le_of_ble_eq_true rfl, Nat.le_of_ble_eq_true rfl⟩) B hI rfl hl.1 rfl (Nat.le_of_ble_eq_true rfl) dL_law_547 (fun H locs hI => ?_)
  refine lv_icmp_eq (pc := 550) (tgt := 1148) hx hb dL_law_550 (by decide) (fun _ => ?_) (fun hq => absurd rfl hq)
  exact hN u2 v2 H locs ls hR2 hI hl
set_option maxHeartbeats 1000000 in
set_option maxRecDepth 100000 in
theorem lw_case13 (S : CallFix p m c cL_law 4 s #[Value.ref b] lw_tbl RL) (B : lwB s A b L xs ad ad' i cells slots) (hN : lwN p l e s m below meth c A Q D ad ad' cy b i cells slots) {u : CX} {v : MX} (hR : Rel u v) (hI : zIn D ad cy (WX ad cy u ++ WM ad' cy v) A s H locs) (hl : lv_has ls 4 [(0, .ref b), (1, .ref (ad 0)), (2, .ref (ad' 0)), (3, .int (nI i))]) : W p l e room_1 s m #[Value.ref b] below meth c H locs cells slots Q (F0 m 555 ls []) := by
  obtain ⟨hx, hb, hml, hown, hts⟩ := id S
  obtain ⟨r, v2, e1, e2, hR2⟩ := s_share hR (k := 20000) (by omega) (xs (i + 1)) (xs (i + 2)) (xs (i + 3))
  refine lv_aload_n (pc := 555) hx hb dL_law_555 rfl (lv_at hl 1 rfl) ?_
  refine lw_arg (pc := 556) (j := 1) B hI hl (by omega) dL_law_556 dL_law_557 dL_law_558 dL_law_559 dL_law_560 rfl ?_
  refine lw_arg (pc := 561) (j := 2) B hI hl (by omega) dL_law_561 dL_law_562 dL_law_563 dL_law_564 dL_law_565 rfl ?_
  refine lw_arg (pc := 566) (j := 3) B hI hl (by omega) dL_law_566 dL_law_567 dL_law_568 dL_law_569 dL_law_570 rfl ?_
  refine lw_X (pc := 571) (As := [.int (xs (i + 1)), .int (xs (i + 2)), .int (xs (i + 3))]) (rest := []) ⟨hx, hb, hml, hown, hts⟩ (kX9_share l D ad cy 20000 (xs (i + 1)) (xs (i + 2)) (xs (i + 3)) u r e1) (cwV 3 hts gT_X9_share rfl rfl rfl (by decide +kernel) ⟨Nat.le_of_ble_eq_true rfl, Nat.le_of_ble_eq_true rfl⟩) B hI rfl hl.1 rfl (Nat.le_of_ble_eq_true rfl) dL_law_571 (fun H locs hI => ?_)
  refine lv_aload_n (pc := 574) hx hb dL_law_574 rfl (lv_at hl 2 rfl) ?_
  refine lw_arg (pc := 575) (j := 1) B hI hl (by omega) dL_law_575 dL_law_576 dL_law_577 dL_law_578 dL_law_579 rfl ?_
  refine lw_arg (pc := 580) (j := 2) B hI hl (by omega) dL_law_580 dL_law_581 dL_law_582 dL_law_583 dL_law_584 rfl ?_
  refine lw_arg (pc := 585) (j := 3) B hI hl (by omega) dL_law_585 dL_law_586 dL_law_587 dL_law_588 dL_law_589 rfl ?_
  refine lw_M (pc := 590) (As := [.int (xs (i + 1)), .int (xs (i + 2)), .int (xs (i + 3))]) (rest := [.long r]) ⟨hx, hb, hml, hown, hts⟩ (kX10_share l D ad' cy 20000 (xs (i + 1)) (xs (i + 2)) (xs (i + 3)) v r v2 e2) (cwV 3 hts gT_X10_share rfl rfl rfl (by decide +kernel) ⟨Nat.le_of_ble_eq_true rfl, Nat.le_of_ble_eq_true rfl⟩) B hI rfl hl.1 rfl (Nat.le_of_ble_eq_true rfl) dL_law_590 (fun H locs hI => ?_)
  refine lw_lcmp (pc := 593) hx hb dL_law_593 dL_law_594 (by decide) ?_
  exact hN u v2 H locs ls hR2 hI hl
set_option maxHeartbeats 1000000 in
set_option maxRecDepth 100000 in
theorem lw_case14 (S : CallFix p m c cL_law 4 s #[Value.ref b] lw_tbl RL) (B : lwB s A b L xs ad ad' i cells slots) (hN : lwN p l e s m below meth c A Q D ad ad' cy b i cells slots) {u : CX} {v : MX} (hR : Rel u v) (hI : zIn D ad cy (WX ad cy u ++ WM ad' cy v) A s H locs) (hl : lv_has ls 4 [(0, .ref b), (1, .ref (ad 0)), (2, .ref (ad' 0)), (3, .int (nI i))]) : W p l e room_1 s m #[Value.ref b] below meth c H locs cells slots Q (F0 m 599 ls []) := by
  obtain ⟨hx, hb, hml, hown, hts⟩ := id S
  obtain ⟨r, v2, e1, e2, hR2⟩ := s_holes hR (k := 20000) (by omega) (xs (i + 1)) (xs (i + 2)) (xs (i + 3))
  refine lv_aload_n (pc := 599) hx hb dL_law_599 rfl (lv_at hl 1 rfl) ?_
  refine lw_arg (pc := 600) (j := 1) B hI hl (by omega) dL_law_600 dL_law_601 dL_law_602 dL_law_603 dL_law_604 rfl ?_
  refine lw_arg (pc := 605) (j := 2) B hI hl (by omega) dL_law_605 dL_law_606 dL_law_607 dL_law_608 dL_law_609 rfl ?_
  refine lw_arg (pc := 610) (j := 3) B hI hl (by omega) dL_law_610 dL_law_611 dL_law_612 dL_law_613 dL_law_614 rfl ?_
  refine lw_X (pc := 615) (As := [.int (xs (i + 1)), .int (xs (i + 2)), .int (xs (i + 3))]) (rest := []) ⟨hx, hb, hml, hown, hts⟩ (kX9_holes l D ad cy 20000 (xs (i + 1)) (xs (i + 2)) (xs (i + 3)) u r e1) (cwV 3 hts gT_X9_holes rfl rfl rfl (by decide +kernel) ⟨Nat.le_of_ble_eq_true rfl, Nat.le_of_ble_eq_true rfl⟩) B hI rfl hl.1 rfl (Nat.le_of_ble_eq_true rfl) dL_law_615 (fun H locs hI => ?_)
  refine lv_aload_n (pc := 618) hx hb dL_law_618 rfl (lv_at hl 2 rfl) ?_
  refine lw_arg (pc := 619) (j := 1) B hI hl (by omega) dL_law_619 dL_law_620 dL_law_621 dL_law_622 dL_law_623 rfl ?_
  refine lw_arg (pc := 624) (j := 2) B hI hl (by omega) dL_law_624 dL_law_625 dL_law_626 dL_law_627 dL_law_628 rfl ?_
  refine lw_arg (pc := 629) (j := 3) B hI hl (by omega) dL_law_629 dL_law_630 dL_law_631 dL_law_632 dL_law_633 rfl ?_
  refine lw_M (pc := 634) (As := [.int (xs (i + 1)), .int (xs (i + 2)), .int (xs (i + 3))]) (rest := [.long r]) ⟨hx, hb, hml, hown, hts⟩ (kX10_holes l D ad' cy 20000 (xs (i + 1)) (xs (i + 2)) (xs (i + 3)) v r v2 e2) (cwV 3 hts gT_X10_holes rfl rfl rfl (by decide +kernel) ⟨Nat.le_of_ble_eq_true rfl, Nat.le_of_ble_eq_true rfl⟩) B hI rfl hl.1 rfl (Nat.le_of_ble_eq_true rfl) dL_law_634 (fun H locs hI => ?_)
  refine lw_lcmp (pc := 637) hx hb dL_law_637 dL_law_638 (by decide) ?_
  exact hN u v2 H locs ls hR2 hI hl
set_option maxHeartbeats 1000000 in
set_option maxRecDepth 100000 in
theorem lw_case15 (S : CallFix p m c cL_law 4 s #[Value.ref b] lw_tbl RL) (B : lwB s A b L xs ad ad' i cells slots) (hN : lwN p l e s m below meth c A Q D ad ad' cy b i cells slots) {u : CX} {v : MX} (hR : Rel u v) (hI : zIn D ad cy (WX ad cy u ++ WM ad' cy v) A s H locs) (hl : lv_has ls 4 [(0, .ref b), (1, .ref (ad 0)), (2, .ref (ad' 0)), (3, .int (nI i))]) : W p l e room_1 s m #[Value.ref b] below meth c H locs cells slots Q (F0 m 643 ls []) := by
  obtain ⟨hx, hb, hml, hown, hts⟩ := id S
  obtain ⟨r, v2, e1, e2, hR2⟩ := s_fits hR (k := 20000) (by omega) (xs (i + 1))
  refine lv_aload_n (pc := 643) hx hb dL_law_643 rfl (lv_at hl 1 rfl) ?_
  refine lw_arg (pc := 644) (j := 1) B hI hl (by omega) dL_law_644 dL_law_645 dL_law_646 dL_law_647 dL_law_648 rfl ?_
  refine lw_X (pc := 649) (As := [.int (xs (i + 1))]) (rest := []) ⟨hx, hb, hml, hown, hts⟩ (kX9_fits l D ad cy 20000 (xs (i + 1)) u r e1) (cwV 1 hts gT_X9_fits rfl rfl rfl (by decide +kernel) ⟨Nat.le_of_ble_eq_true rfl, Nat.le_of_ble_eq_true rfl⟩) B hI rfl hl.1 rfl (Nat.le_of_ble_eq_true rfl) dL_law_649 (fun H locs hI => ?_)
  refine lv_aload_n (pc := 652) hx hb dL_law_652 rfl (lv_at hl 2 rfl) ?_
  refine lw_arg (pc := 653) (j := 1) B hI hl (by omega) dL_law_653 dL_law_654 dL_law_655 dL_law_656 dL_law_657 rfl ?_
  refine lw_M (pc := 658) (As := [.int (xs (i + 1))]) (rest := [.int r]) ⟨hx, hb, hml, hown, hts⟩ (kX10_fits l D ad' cy 20000 (xs (i + 1)) v r v2 e2) (cwV 1 hts gT_X10_fits rfl rfl rfl (by decide +kernel) ⟨Nat.le_of_ble_eq_true rfl, Nat.le_of_ble_eq_true rfl⟩) B hI rfl hl.1 rfl (Nat.le_of_ble_eq_true rfl) dL_law_658 (fun H locs hI => ?_)
  refine lv_icmp_eq (pc := 661) (tgt := 1148) hx hb dL_law_661 (by decide) (fun _ => ?_) (fun hq => absurd rfl hq)
  exact hN u v2 H locs ls hR2 hI hl
set_option maxHeartbeats 1000000 in
set_option maxRecDepth 100000 in
theorem lw_case16 (S : CallFix p m c cL_law 4 s #[Value.ref b] lw_tbl RL) (B : lwB s A b L xs ad ad' i cells slots) (hN : lwN p l e s m below meth c A Q D ad ad' cy b i cells slots) {u : CX} {v : MX} (hR : Rel u v) (hI : zIn D ad cy (WX ad cy u ++ WM ad' cy v) A s H locs) (hl : lv_has ls 4 [(0, .ref b), (1, .ref (ad 0)), (2, .ref (ad' 0)), (3, .int (nI i))]) : W p l e room_1 s m #[Value.ref b] below meth c H locs cells slots Q (F0 m 666 ls []) := by
  obtain ⟨hx, hb, hml, hown, hts⟩ := id S
  obtain ⟨r, u2, v2, e1, e2, hR2⟩ := s_laws hR (k := 20000) (by omega) (xs (i + 1))
  refine lv_aload_n (pc := 666) hx hb dL_law_666 rfl (lv_at hl 1 rfl) ?_
  refine lw_arg (pc := 667) (j := 1) B hI hl (by omega) dL_law_667 dL_law_668 dL_law_669 dL_law_670 dL_law_671 rfl ?_
  refine lw_X (pc := 672) (As := [.int (xs (i + 1))]) (rest := []) ⟨hx, hb, hml, hown, hts⟩ (kX9_laws l D ad cy 20000 (xs (i + 1)) u r u2 e1) (cwV 1 hts gT_X9_laws rfl rfl rfl (by decide +kernel) ⟨Nat.le_of_ble_eq_true rfl, Nat.le_of_ble_eq_true rfl⟩) B hI rfl hl.1 rfl (Nat.le_of_ble_eq_true rfl) dL_law_672 (fun H locs hI => ?_)
  refine lv_aload_n (pc := 675) hx hb dL_law_675 rfl (lv_at hl 2 rfl) ?_
  refine lw_arg (pc := 676) (j := 1) B hI hl (by omega) dL_law_676 dL_law_677 dL_law_678 dL_law_679 dL_law_680 rfl ?_
  refine lw_M (pc := 681) (As := [.int (xs (i + 1))]) (rest := [.int r]) ⟨hx, hb, hml, hown, hts⟩ (kX10_laws l D ad' cy 20000 (xs (i + 1)) v r v2 e2) (cwV 1 hts gT_X10_laws rfl rfl rfl (by decide +kernel) ⟨Nat.le_of_ble_eq_true rfl, Nat.le_of_ble_eq_true rfl⟩) B hI rfl hl.1 rfl (Nat.le_of_ble_eq_true rfl) dL_law_681 (fun H locs hI => ?_)
  refine lv_icmp_eq (pc := 684) (tgt := 1148) hx hb dL_law_684 (by decide) (fun _ => ?_) (fun hq => absurd rfl hq)
  exact hN u2 v2 H locs ls hR2 hI hl
set_option maxHeartbeats 1000000 in
set_option maxRecDepth 100000 in
theorem lw_case17 (S : CallFix p m c cL_law 4 s #[Value.ref b] lw_tbl RL) (B : lwB s A b L xs ad ad' i cells slots) (hN : lwN p l e s m below meth c A Q D ad ad' cy b i cells slots) {u : CX} {v : MX} (hR : Rel u v) (hI : zIn D ad cy (WX ad cy u ++ WM ad' cy v) A s H locs) (hl : lv_has ls 4 [(0, .ref b), (1, .ref (ad 0)), (2, .ref (ad' 0)), (3, .int (nI i))]) : W p l e room_1 s m #[Value.ref b] below meth c H locs cells slots Q (F0 m 689 ls []) := by
  obtain ⟨hx, hb, hml, hown, hts⟩ := id S
  obtain ⟨r, u2, v2, e1, e2, hR2⟩ := s_span hR (k := 20000) (by omega) (xs (i + 1)) (xs (i + 2))
  refine lv_aload_n (pc := 689) hx hb dL_law_689 rfl (lv_at hl 1 rfl) ?_
  refine lw_arg (pc := 690) (j := 1) B hI hl (by omega) dL_law_690 dL_law_691 dL_law_692 dL_law_693 dL_law_694 rfl ?_
  refine lw_arg (pc := 695) (j := 2) B hI hl (by omega) dL_law_695 dL_law_696 dL_law_697 dL_law_698 dL_law_699 rfl ?_
  refine lw_X (pc := 700) (As := [.int (xs (i + 1)), .int (xs (i + 2))]) (rest := []) ⟨hx, hb, hml, hown, hts⟩ (kX9_span l D ad cy 20000 (xs (i + 1)) (xs (i + 2)) u r u2 e1) (cwV 2 hts gT_X9_span rfl rfl rfl (by decide +kernel) ⟨Nat.le_of_ble_eq_true rfl, Nat.le_of_ble_eq_true rfl⟩) B hI rfl hl.1 rfl (Nat.le_of_ble_eq_true rfl) dL_law_700 (fun H locs hI => ?_)
  refine lv_aload_n (pc := 703) hx hb dL_law_703 rfl (lv_at hl 2 rfl) ?_
  refine lw_arg (pc := 704) (j := 1) B hI hl (by omega) dL_law_704 dL_law_705 dL_law_706 dL_law_707 dL_law_708 rfl ?_
  refine lw_arg (pc := 709) (j := 2) B hI hl (by omega) dL_law_709 dL_law_710 dL_law_711 dL_law_712 dL_law_713 rfl ?_
  refine lw_M (pc := 714) (As := [.int (xs (i + 1)), .int (xs (i + 2))]) (rest := [.int r]) ⟨hx, hb, hml, hown, hts⟩ (kX10_span l D ad' cy 20000 (xs (i + 1)) (xs (i + 2)) v r v2 e2) (cwV 2 hts gT_X10_span rfl rfl rfl (by decide +kernel) ⟨Nat.le_of_ble_eq_true rfl, Nat.le_of_ble_eq_true rfl⟩) B hI rfl hl.1 rfl (Nat.le_of_ble_eq_true rfl) dL_law_714 (fun H locs hI => ?_)
  refine lv_icmp_eq (pc := 717) (tgt := 1148) hx hb dL_law_717 (by decide) (fun _ => ?_) (fun hq => absurd rfl hq)
  exact hN u2 v2 H locs ls hR2 hI hl
set_option maxHeartbeats 1000000 in
set_option maxRecDepth 100000 in
theorem lw_case18 (S : CallFix p m c cL_law 4 s #[Value.ref b] lw_tbl RL) (B : lwB s A b L xs ad ad' i cells slots) (hN : lwN p l e s m below meth c A Q D ad ad' cy b i cells slots) {u : CX} {v : MX} (hR : Rel u v) (hI : zIn D ad cy (WX ad cy u ++ WM ad' cy v) A s H locs) (hl : lv_has ls 4 [(0, .ref b), (1, .ref (ad 0)), (2, .ref (ad' 0)), (3, .int (nI i))]) : W p l e room_1 s m #[Value.ref b] below meth c H locs cells slots Q (F0 m 722 ls []) := by
  obtain ⟨hx, hb, hml, hown, hts⟩ := id S
  obtain ⟨r, u2, v2, e1, e2, hR2⟩ := s_say hR (k := 20000) (by omega) (xs (i + 1)) (xs (i + 2))
  refine lv_aload_n (pc := 722) hx hb dL_law_722 rfl (lv_at hl 1 rfl) ?_
  refine lw_arg (pc := 723) (j := 1) B hI hl (by omega) dL_law_723 dL_law_724 dL_law_725 dL_law_726 dL_law_727 rfl ?_
  refine lw_arg (pc := 728) (j := 2) B hI hl (by omega) dL_law_728 dL_law_729 dL_law_730 dL_law_731 dL_law_732 rfl ?_
  refine lw_X (pc := 733) (As := [.int (xs (i + 1)), .int (xs (i + 2))]) (rest := []) ⟨hx, hb, hml, hown, hts⟩ (kX9_say l D ad cy 20000 (xs (i + 1)) (xs (i + 2)) u r u2 e1) (cwV 2 hts gT_X9_say rfl rfl rfl (by decide +kernel) ⟨Nat.le_of_ble_eq_true rfl, Nat.le_of_ble_eq_true rfl⟩) B hI rfl hl.1 rfl (Nat.le_of_ble_eq_true rfl) dL_law_733 (fun H locs hI => ?_)
  refine lv_aload_n (pc := 736) hx hb dL_law_736 rfl (lv_at hl 2 rfl) ?_
  refine lw_arg (pc := 737) (j := 1) B hI hl (by omega) dL_law_737 dL_law_738 dL_law_739 dL_law_740 dL_law_741 rfl ?_
  refine lw_arg (pc := 742) (j := 2) B hI hl (by omega) dL_law_742 dL_law_743 dL_law_744 dL_law_745 dL_law_746 rfl ?_
  refine lw_M (pc := 747) (As := [.int (xs (i + 1)), .int (xs (i + 2))]) (rest := [.int r]) ⟨hx, hb, hml, hown, hts⟩ (kX10_say l D ad' cy 20000 (xs (i + 1)) (xs (i + 2)) v r v2 e2) (cwV 2 hts gT_X10_say rfl rfl rfl (by decide +kernel) ⟨Nat.le_of_ble_eq_true rfl, Nat.le_of_ble_eq_true rfl⟩) B hI rfl hl.1 rfl (Nat.le_of_ble_eq_true rfl) dL_law_747 (fun H locs hI => ?_)
  refine lv_icmp_eq (pc := 750) (tgt := 1148) hx hb dL_law_750 (by decide) (fun _ => ?_) (fun hq => absurd rfl hq)
  exact hN u2 v2 H locs ls hR2 hI hl
set_option maxHeartbeats 1000000 in
set_option maxRecDepth 100000 in
theorem lw_case19 (S : CallFix p m c cL_law 4 s #[Value.ref b] lw_tbl RL) (B : lwB s A b L xs ad ad' i cells slots) (hN : lwN p l e s m below meth c A Q D ad ad' cy b i cells slots) {u : CX} {v : MX} (hR : Rel u v) (hI : zIn D ad cy (WX ad cy u ++ WM ad' cy v) A s H locs) (hl : lv_has ls 4 [(0, .ref b), (1, .ref (ad 0)), (2, .ref (ad' 0)), (3, .int (nI i))]) : W p l e room_1 s m #[Value.ref b] below meth c H locs cells slots Q (F0 m 755 ls []) := by
  obtain ⟨hx, hb, hml, hown, hts⟩ := id S
  obtain ⟨r, e1, e2⟩ := s_cost hR (k := 20000) (by omega) 
  refine lv_aload_n (pc := 755) hx hb dL_law_755 rfl (lv_at hl 1 rfl) ?_
  refine lw_X (pc := 756) (As := []) (rest := []) ⟨hx, hb, hml, hown, hts⟩ (kX9_cost l D ad cy 20000 u r e1) (cwV 0 hts gT_X9_cost rfl rfl rfl (by decide +kernel) ⟨Nat.le_of_ble_eq_true rfl, Nat.le_of_ble_eq_true rfl⟩) B hI rfl hl.1 rfl (Nat.le_of_ble_eq_true rfl) dL_law_756 (fun H locs hI => ?_)
  refine lv_aload_n (pc := 759) hx hb dL_law_759 rfl (lv_at hl 2 rfl) ?_
  refine lw_M (pc := 760) (As := []) (rest := [.int r]) ⟨hx, hb, hml, hown, hts⟩ (kX10_cost l D ad' cy 20000 v r e2) (cwV 0 hts gT_X10_cost rfl rfl rfl (by decide +kernel) ⟨Nat.le_of_ble_eq_true rfl, Nat.le_of_ble_eq_true rfl⟩) B hI rfl hl.1 rfl (Nat.le_of_ble_eq_true rfl) dL_law_760 (fun H locs hI => ?_)
  refine lv_icmp_eq (pc := 763) (tgt := 1148) hx hb dL_law_763 (by decide) (fun _ => ?_) (fun hq => absurd rfl hq)
  exact hN u v H locs ls hR hI hl
set_option maxHeartbeats 1000000 in
set_option maxRecDepth 100000 in
theorem lw_case20 (S : CallFix p m c cL_law 4 s #[Value.ref b] lw_tbl RL) (B : lwB s A b L xs ad ad' i cells slots) (hN : lwN p l e s m below meth c A Q D ad ad' cy b i cells slots) {u : CX} {v : MX} (hR : Rel u v) (hI : zIn D ad cy (WX ad cy u ++ WM ad' cy v) A s H locs) (hl : lv_has ls 4 [(0, .ref b), (1, .ref (ad 0)), (2, .ref (ad' 0)), (3, .int (nI i))]) : W p l e room_1 s m #[Value.ref b] below meth c H locs cells slots Q (F0 m 768 ls []) := by
  obtain ⟨hx, hb, hml, hown, hts⟩ := id S
  obtain ⟨r, v2, e1, e2, hR2⟩ := s_near hR (k := 20000) (by omega) (xs (i + 1))
  refine lv_aload_n (pc := 768) hx hb dL_law_768 rfl (lv_at hl 1 rfl) ?_
  refine lw_arg (pc := 769) (j := 1) B hI hl (by omega) dL_law_769 dL_law_770 dL_law_771 dL_law_772 dL_law_773 rfl ?_
  refine lw_X (pc := 774) (As := [.int (xs (i + 1))]) (rest := []) ⟨hx, hb, hml, hown, hts⟩ (kX9_near l D ad cy 20000 (xs (i + 1)) u r e1) (cwV 1 hts gT_X9_near rfl rfl rfl (by decide +kernel) ⟨Nat.le_of_ble_eq_true rfl, Nat.le_of_ble_eq_true rfl⟩) B hI rfl hl.1 rfl (Nat.le_of_ble_eq_true rfl) dL_law_774 (fun H locs hI => ?_)
  refine lv_aload_n (pc := 777) hx hb dL_law_777 rfl (lv_at hl 2 rfl) ?_
  refine lw_arg (pc := 778) (j := 1) B hI hl (by omega) dL_law_778 dL_law_779 dL_law_780 dL_law_781 dL_law_782 rfl ?_
  refine lw_M (pc := 783) (As := [.int (xs (i + 1))]) (rest := [.int r]) ⟨hx, hb, hml, hown, hts⟩ (kX10_near l D ad' cy 20000 (xs (i + 1)) v r v2 e2) (cwV 1 hts gT_X10_near rfl rfl rfl (by decide +kernel) ⟨Nat.le_of_ble_eq_true rfl, Nat.le_of_ble_eq_true rfl⟩) B hI rfl hl.1 rfl (Nat.le_of_ble_eq_true rfl) dL_law_783 (fun H locs hI => ?_)
  refine lv_icmp_eq (pc := 786) (tgt := 1148) hx hb dL_law_786 (by decide) (fun _ => ?_) (fun hq => absurd rfl hq)
  exact hN u v2 H locs ls hR2 hI hl
set_option maxHeartbeats 1000000 in
set_option maxRecDepth 100000 in
theorem lw_case21 (S : CallFix p m c cL_law 4 s #[Value.ref b] lw_tbl RL) (B : lwB s A b L xs ad ad' i cells slots) (hN : lwN p l e s m below meth c A Q D ad ad' cy b i cells slots) {u : CX} {v : MX} (hR : Rel u v) (hI : zIn D ad cy (WX ad cy u ++ WM ad' cy v) A s H locs) (hl : lv_has ls 4 [(0, .ref b), (1, .ref (ad 0)), (2, .ref (ad' 0)), (3, .int (nI i))]) : W p l e room_1 s m #[Value.ref b] below meth c H locs cells slots Q (F0 m 791 ls []) := by
  obtain ⟨hx, hb, hml, hown, hts⟩ := id S
  obtain ⟨r, u2, v2, e1, e2, hR2⟩ := s_lost hR (k := 20000) (by omega) (xs (i + 1)) (xs (i + 2)) (xs (i + 3))
  refine lv_aload_n (pc := 791) hx hb dL_law_791 rfl (lv_at hl 1 rfl) ?_
  refine lw_arg (pc := 792) (j := 1) B hI hl (by omega) dL_law_792 dL_law_793 dL_law_794 dL_law_795 dL_law_796 rfl ?_
  refine lw_arg (pc := 797) (j := 2) B hI hl (by omega) dL_law_797 dL_law_798 dL_law_799 dL_law_800 dL_law_801 rfl ?_
  refine lw_arg (pc := 802) (j := 3) B hI hl (by omega) dL_law_802 dL_law_803 dL_law_804 dL_law_805 dL_law_806 rfl ?_
  refine lw_X (pc := 807) (As := [.int (xs (i + 1)), .int (xs (i + 2)), .int (xs (i + 3))]) (rest := []) ⟨hx, hb, hml, hown, hts⟩ (kX9_lost l D ad cy 20000 (xs (i + 1)) (xs (i + 2)) (xs (i + 3)) u r u2 e1) (cwV 3 hts gT_X9_lost rfl rfl rfl (by decide +kernel) ⟨Nat.le_of_ble_eq_true rfl, Nat.le_of_ble_eq_true rfl⟩) B hI rfl hl.1 rfl (Nat.le_of_ble_eq_true rfl) dL_law_807 (fun H locs hI => ?_)
  refine lv_aload_n (pc := 810) hx hb dL_law_810 rfl (lv_at hl 2 rfl) ?_
  refine lw_arg (pc := 811) (j := 1) B hI hl (by omega) dL_law_811 dL_law_812 dL_law_813 dL_law_814 dL_law_815 rfl ?_
  refine lw_arg (pc := 816) (j := 2) B hI hl (by omega) dL_law_816 dL_law_817 dL_law_818 dL_law_819 dL_law_820 rfl ?_
  refine lw_arg (pc := 821) (j := 3) B hI hl (by omega) dL_law_821 dL_law_822 dL_law_823 dL_law_824 dL_law_825 rfl ?_
  refine lw_M (pc := 826) (As := [.int (xs (i + 1)), .int (xs (i + 2)), .int (xs (i + 3))]) (rest := [.long r]) ⟨hx, hb, hml, hown, hts⟩ (kX10_lost l D ad' cy 20000 (xs (i + 1)) (xs (i + 2)) (xs (i + 3)) v r v2 e2) (cwV 3 hts gT_X10_lost rfl rfl rfl (by decide +kernel) ⟨Nat.le_of_ble_eq_true rfl, Nat.le_of_ble_eq_true rfl⟩) B hI rfl hl.1 rfl (Nat.le_of_ble_eq_true rfl) dL_law_826 (fun H locs hI => ?_)
  refine lw_lcmp (pc := 829) hx hb dL_law_829 dL_law_830 (by decide) ?_
  exact hN u2 v2 H locs ls hR2 hI hl
set_option maxHeartbeats 1000000 in
set_option maxRecDepth 100000 in
theorem lw_case22 (S : CallFix p m c cL_law 4 s #[Value.ref b] lw_tbl RL) (B : lwB s A b L xs ad ad' i cells slots) (hN : lwN p l e s m below meth c A Q D ad ad' cy b i cells slots) {u : CX} {v : MX} (hR : Rel u v) (hI : zIn D ad cy (WX ad cy u ++ WM ad' cy v) A s H locs) (hl : lv_has ls 4 [(0, .ref b), (1, .ref (ad 0)), (2, .ref (ad' 0)), (3, .int (nI i))]) : W p l e room_1 s m #[Value.ref b] below meth c H locs cells slots Q (F0 m 835 ls []) := by
  obtain ⟨hx, hb, hml, hown, hts⟩ := id S
  obtain ⟨r, u2, v2, e1, e2, hR2⟩ := s_best hR (k := 20000) (by omega) (xs (i + 1))
  refine lv_aload_n (pc := 835) hx hb dL_law_835 rfl (lv_at hl 1 rfl) ?_
  refine lw_arg (pc := 836) (j := 1) B hI hl (by omega) dL_law_836 dL_law_837 dL_law_838 dL_law_839 dL_law_840 rfl ?_
  refine lw_X (pc := 841) (As := [.int (xs (i + 1))]) (rest := []) ⟨hx, hb, hml, hown, hts⟩ (kX9_best l D ad cy 20000 (xs (i + 1)) u r u2 e1) (cwV 1 hts gT_X9_best rfl rfl rfl (by decide +kernel) ⟨Nat.le_of_ble_eq_true rfl, Nat.le_of_ble_eq_true rfl⟩) B hI rfl hl.1 rfl (Nat.le_of_ble_eq_true rfl) dL_law_841 (fun H locs hI => ?_)
  refine lv_aload_n (pc := 844) hx hb dL_law_844 rfl (lv_at hl 2 rfl) ?_
  refine lw_arg (pc := 845) (j := 1) B hI hl (by omega) dL_law_845 dL_law_846 dL_law_847 dL_law_848 dL_law_849 rfl ?_
  refine lw_M (pc := 850) (As := [.int (xs (i + 1))]) (rest := [.int r]) ⟨hx, hb, hml, hown, hts⟩ (kX10_best l D ad' cy 20000 (xs (i + 1)) v r v2 e2) (cwV 1 hts gT_X10_best rfl rfl rfl (by decide +kernel) ⟨Nat.le_of_ble_eq_true rfl, Nat.le_of_ble_eq_true rfl⟩) B hI rfl hl.1 rfl (Nat.le_of_ble_eq_true rfl) dL_law_850 (fun H locs hI => ?_)
  refine lv_icmp_eq (pc := 853) (tgt := 1148) hx hb dL_law_853 (by decide) (fun _ => ?_) (fun hq => absurd rfl hq)
  exact hN u2 v2 H locs ls hR2 hI hl
set_option maxHeartbeats 1000000 in
set_option maxRecDepth 100000 in
theorem lw_case23 (S : CallFix p m c cL_law 4 s #[Value.ref b] lw_tbl RL) (B : lwB s A b L xs ad ad' i cells slots) (hN : lwN p l e s m below meth c A Q D ad ad' cy b i cells slots) {u : CX} {v : MX} (hR : Rel u v) (hI : zIn D ad cy (WX ad cy u ++ WM ad' cy v) A s H locs) (hl : lv_has ls 4 [(0, .ref b), (1, .ref (ad 0)), (2, .ref (ad' 0)), (3, .int (nI i))]) : W p l e room_1 s m #[Value.ref b] below meth c H locs cells slots Q (F0 m 858 ls []) := by
  obtain ⟨hx, hb, hml, hown, hts⟩ := id S
  obtain ⟨r, u2, v2, e1, e2, hR2⟩ := s_safest hR (k := 20000) (by omega) 
  refine lv_aload_n (pc := 858) hx hb dL_law_858 rfl (lv_at hl 1 rfl) ?_
  refine lw_X (pc := 859) (As := []) (rest := []) ⟨hx, hb, hml, hown, hts⟩ (kX9_safest l D ad cy 20000 u r u2 e1) (cwV 0 hts gT_X9_safest rfl rfl rfl (by decide +kernel) ⟨Nat.le_of_ble_eq_true rfl, Nat.le_of_ble_eq_true rfl⟩) B hI rfl hl.1 rfl (Nat.le_of_ble_eq_true rfl) dL_law_859 (fun H locs hI => ?_)
  refine lv_aload_n (pc := 862) hx hb dL_law_862 rfl (lv_at hl 2 rfl) ?_
  refine lw_M (pc := 863) (As := []) (rest := [.int r]) ⟨hx, hb, hml, hown, hts⟩ (kX10_safest l D ad' cy 20000 v r v2 e2) (cwV 0 hts gT_X10_safest rfl rfl rfl (by decide +kernel) ⟨Nat.le_of_ble_eq_true rfl, Nat.le_of_ble_eq_true rfl⟩) B hI rfl hl.1 rfl (Nat.le_of_ble_eq_true rfl) dL_law_863 (fun H locs hI => ?_)
  refine lv_icmp_eq (pc := 866) (tgt := 1148) hx hb dL_law_866 (by decide) (fun _ => ?_) (fun hq => absurd rfl hq)
  exact hN u2 v2 H locs ls hR2 hI hl
set_option maxHeartbeats 1000000 in
set_option maxRecDepth 100000 in
theorem lw_case24 (S : CallFix p m c cL_law 4 s #[Value.ref b] lw_tbl RL) (B : lwB s A b L xs ad ad' i cells slots) (hN : lwN p l e s m below meth c A Q D ad ad' cy b i cells slots) {u : CX} {v : MX} (hR : Rel u v) (hI : zIn D ad cy (WX ad cy u ++ WM ad' cy v) A s H locs) (hl : lv_has ls 4 [(0, .ref b), (1, .ref (ad 0)), (2, .ref (ad' 0)), (3, .int (nI i))]) : W p l e room_1 s m #[Value.ref b] below meth c H locs cells slots Q (F0 m 871 ls []) := by
  obtain ⟨hx, hb, hml, hown, hts⟩ := id S
  obtain ⟨r, e1, e2⟩ := s_drawing hR (k := 20000) (by omega) 
  refine lv_aload_n (pc := 871) hx hb dL_law_871 rfl (lv_at hl 1 rfl) ?_
  refine lw_X (pc := 872) (As := []) (rest := []) ⟨hx, hb, hml, hown, hts⟩ (kX9_drawing l D ad cy 20000 u r e1) (cwV 0 hts gT_X9_drawing rfl rfl rfl (by decide +kernel) ⟨Nat.le_of_ble_eq_true rfl, Nat.le_of_ble_eq_true rfl⟩) B hI rfl hl.1 rfl (Nat.le_of_ble_eq_true rfl) dL_law_872 (fun H locs hI => ?_)
  refine lv_aload_n (pc := 875) hx hb dL_law_875 rfl (lv_at hl 2 rfl) ?_
  refine lw_M (pc := 876) (As := []) (rest := [.int r]) ⟨hx, hb, hml, hown, hts⟩ (kX10_drawing l D ad' cy 20000 v r e2) (cwV 0 hts gT_X10_drawing rfl rfl rfl (by decide +kernel) ⟨Nat.le_of_ble_eq_true rfl, Nat.le_of_ble_eq_true rfl⟩) B hI rfl hl.1 rfl (Nat.le_of_ble_eq_true rfl) dL_law_876 (fun H locs hI => ?_)
  refine lv_icmp_eq (pc := 879) (tgt := 1148) hx hb dL_law_879 (by decide) (fun _ => ?_) (fun hq => absurd rfl hq)
  exact hN u v H locs ls hR hI hl
set_option maxHeartbeats 1000000 in
set_option maxRecDepth 100000 in
theorem lw_case25 (S : CallFix p m c cL_law 4 s #[Value.ref b] lw_tbl RL) (B : lwB s A b L xs ad ad' i cells slots) (hN : lwN p l e s m below meth c A Q D ad ad' cy b i cells slots) {u : CX} {v : MX} (hR : Rel u v) (hI : zIn D ad cy (WX ad cy u ++ WM ad' cy v) A s H locs) (hl : lv_has ls 4 [(0, .ref b), (1, .ref (ad 0)), (2, .ref (ad' 0)), (3, .int (nI i))]) : W p l e room_1 s m #[Value.ref b] below meth c H locs cells slots Q (F0 m 884 ls []) := by
  obtain ⟨hx, hb, hml, hown, hts⟩ := id S
  obtain ⟨r, u2, v2, e1, e2, hR2⟩ := s_wrong hR (k := 20000) (by omega) (xs (i + 1))
  refine lv_aload_n (pc := 884) hx hb dL_law_884 rfl (lv_at hl 1 rfl) ?_
  refine lw_arg (pc := 885) (j := 1) B hI hl (by omega) dL_law_885 dL_law_886 dL_law_887 dL_law_888 dL_law_889 rfl ?_
  refine lw_X (pc := 890) (As := [.int (xs (i + 1))]) (rest := []) ⟨hx, hb, hml, hown, hts⟩ (kX9_wrong l D ad cy 20000 (xs (i + 1)) u r u2 e1) (cwV 1 hts gT_X9_wrong rfl rfl rfl (by decide +kernel) ⟨Nat.le_of_ble_eq_true rfl, Nat.le_of_ble_eq_true rfl⟩) B hI rfl hl.1 rfl (Nat.le_of_ble_eq_true rfl) dL_law_890 (fun H locs hI => ?_)
  refine lv_aload_n (pc := 893) hx hb dL_law_893 rfl (lv_at hl 2 rfl) ?_
  refine lw_arg (pc := 894) (j := 1) B hI hl (by omega) dL_law_894 dL_law_895 dL_law_896 dL_law_897 dL_law_898 rfl ?_
  refine lw_M (pc := 899) (As := [.int (xs (i + 1))]) (rest := [.int r]) ⟨hx, hb, hml, hown, hts⟩ (kX10_wrong l D ad' cy 20000 (xs (i + 1)) v r v2 e2) (cwV 1 hts gT_X10_wrong rfl rfl rfl (by decide +kernel) ⟨Nat.le_of_ble_eq_true rfl, Nat.le_of_ble_eq_true rfl⟩) B hI rfl hl.1 rfl (Nat.le_of_ble_eq_true rfl) dL_law_899 (fun H locs hI => ?_)
  refine lv_icmp_eq (pc := 902) (tgt := 1148) hx hb dL_law_902 (by decide) (fun _ => ?_) (fun hq => absurd rfl hq)
  exact hN u2 v2 H locs ls hR2 hI hl
set_option maxHeartbeats 1000000 in
set_option maxRecDepth 100000 in
theorem lw_case26 (S : CallFix p m c cL_law 4 s #[Value.ref b] lw_tbl RL) (B : lwB s A b L xs ad ad' i cells slots) (hN : lwN p l e s m below meth c A Q D ad ad' cy b i cells slots) {u : CX} {v : MX} (hR : Rel u v) (hI : zIn D ad cy (WX ad cy u ++ WM ad' cy v) A s H locs) (hl : lv_has ls 4 [(0, .ref b), (1, .ref (ad 0)), (2, .ref (ad' 0)), (3, .int (nI i))]) : W p l e room_1 s m #[Value.ref b] below meth c H locs cells slots Q (F0 m 907 ls []) := by
  obtain ⟨hx, hb, hml, hown, hts⟩ := id S
  obtain ⟨r, u2, v2, e1, e2, hR2⟩ := s_unlike hR (k := 20000) (by omega) (xs (i + 1))
  refine lv_aload_n (pc := 907) hx hb dL_law_907 rfl (lv_at hl 1 rfl) ?_
  refine lw_arg (pc := 908) (j := 1) B hI hl (by omega) dL_law_908 dL_law_909 dL_law_910 dL_law_911 dL_law_912 rfl ?_
  refine lw_X (pc := 913) (As := [.int (xs (i + 1))]) (rest := []) ⟨hx, hb, hml, hown, hts⟩ (kX9_unlike l D ad cy 20000 (xs (i + 1)) u r u2 e1) (cwV 1 hts gT_X9_unlike rfl rfl rfl (by decide +kernel) ⟨Nat.le_of_ble_eq_true rfl, Nat.le_of_ble_eq_true rfl⟩) B hI rfl hl.1 rfl (Nat.le_of_ble_eq_true rfl) dL_law_913 (fun H locs hI => ?_)
  refine lv_aload_n (pc := 916) hx hb dL_law_916 rfl (lv_at hl 2 rfl) ?_
  refine lw_arg (pc := 917) (j := 1) B hI hl (by omega) dL_law_917 dL_law_918 dL_law_919 dL_law_920 dL_law_921 rfl ?_
  refine lw_M (pc := 922) (As := [.int (xs (i + 1))]) (rest := [.int r]) ⟨hx, hb, hml, hown, hts⟩ (kX10_unlike l D ad' cy 20000 (xs (i + 1)) v r v2 e2) (cwV 1 hts gT_X10_unlike rfl rfl rfl (by decide +kernel) ⟨Nat.le_of_ble_eq_true rfl, Nat.le_of_ble_eq_true rfl⟩) B hI rfl hl.1 rfl (Nat.le_of_ble_eq_true rfl) dL_law_922 (fun H locs hI => ?_)
  refine lv_icmp_eq (pc := 925) (tgt := 1148) hx hb dL_law_925 (by decide) (fun _ => ?_) (fun hq => absurd rfl hq)
  exact hN u2 v2 H locs ls hR2 hI hl
set_option maxHeartbeats 1000000 in
set_option maxRecDepth 100000 in
theorem lw_case27 (S : CallFix p m c cL_law 4 s #[Value.ref b] lw_tbl RL) (B : lwB s A b L xs ad ad' i cells slots) (hN : lwN p l e s m below meth c A Q D ad ad' cy b i cells slots) {u : CX} {v : MX} (hR : Rel u v) (hI : zIn D ad cy (WX ad cy u ++ WM ad' cy v) A s H locs) (hl : lv_has ls 4 [(0, .ref b), (1, .ref (ad 0)), (2, .ref (ad' 0)), (3, .int (nI i))]) : W p l e room_1 s m #[Value.ref b] below meth c H locs cells slots Q (F0 m 930 ls []) := by
  obtain ⟨hx, hb, hml, hown, hts⟩ := id S
  obtain ⟨r, u2, v2, e1, e2, hR2⟩ := s_trial hR (k := 20000) (by omega) (xs (i + 1)) (xs (i + 2)) (xs (i + 3))
  refine lv_aload_n (pc := 930) hx hb dL_law_930 rfl (lv_at hl 1 rfl) ?_
  refine lw_arg (pc := 931) (j := 1) B hI hl (by omega) dL_law_931 dL_law_932 dL_law_933 dL_law_934 dL_law_935 rfl ?_
  refine lw_arg (pc := 936) (j := 2) B hI hl (by omega) dL_law_936 dL_law_937 dL_law_938 dL_law_939 dL_law_940 rfl ?_
  refine lw_arg (pc := 941) (j := 3) B hI hl (by omega) dL_law_941 dL_law_942 dL_law_943 dL_law_944 dL_law_945 rfl ?_
  refine lw_X (pc := 946) (As := [.int (xs (i + 1)), .int (xs (i + 2)), .int (xs (i + 3))]) (rest := []) ⟨hx, hb, hml, hown, hts⟩ (kX9_trial l D ad cy 20000 (xs (i + 1)) (xs (i + 2)) (xs (i + 3)) u r u2 e1) (cwV 3 hts gT_X9_trial rfl rfl rfl (by decide +kernel) ⟨Nat.le_of_ble_eq_true rfl, Nat.le_of_ble_eq_true rfl⟩) B hI rfl hl.1 rfl (Nat.le_of_ble_eq_true rfl) dL_law_946 (fun H locs hI => ?_)
  refine lv_aload_n (pc := 949) hx hb dL_law_949 rfl (lv_at hl 2 rfl) ?_
  refine lw_arg (pc := 950) (j := 1) B hI hl (by omega) dL_law_950 dL_law_951 dL_law_952 dL_law_953 dL_law_954 rfl ?_
  refine lw_arg (pc := 955) (j := 2) B hI hl (by omega) dL_law_955 dL_law_956 dL_law_957 dL_law_958 dL_law_959 rfl ?_
  refine lw_arg (pc := 960) (j := 3) B hI hl (by omega) dL_law_960 dL_law_961 dL_law_962 dL_law_963 dL_law_964 rfl ?_
  refine lw_M (pc := 965) (As := [.int (xs (i + 1)), .int (xs (i + 2)), .int (xs (i + 3))]) (rest := [.int r]) ⟨hx, hb, hml, hown, hts⟩ (kX10_trial l D ad' cy 20000 (xs (i + 1)) (xs (i + 2)) (xs (i + 3)) v r v2 e2) (cwV 3 hts gT_X10_trial rfl rfl rfl (by decide +kernel) ⟨Nat.le_of_ble_eq_true rfl, Nat.le_of_ble_eq_true rfl⟩) B hI rfl hl.1 rfl (Nat.le_of_ble_eq_true rfl) dL_law_965 (fun H locs hI => ?_)
  refine lv_icmp_eq (pc := 968) (tgt := 1148) hx hb dL_law_968 (by decide) (fun _ => ?_) (fun hq => absurd rfl hq)
  exact hN u2 v2 H locs ls hR2 hI hl
set_option maxHeartbeats 1000000 in
set_option maxRecDepth 100000 in
theorem lw_case28 (S : CallFix p m c cL_law 4 s #[Value.ref b] lw_tbl RL) (B : lwB s A b L xs ad ad' i cells slots) (hN : lwN p l e s m below meth c A Q D ad ad' cy b i cells slots) {u : CX} {v : MX} (hR : Rel u v) (hI : zIn D ad cy (WX ad cy u ++ WM ad' cy v) A s H locs) (hl : lv_has ls 4 [(0, .ref b), (1, .ref (ad 0)), (2, .ref (ad' 0)), (3, .int (nI i))]) : W p l e room_1 s m #[Value.ref b] below meth c H locs cells slots Q (F0 m 973 ls []) := by
  obtain ⟨hx, hb, hml, hown, hts⟩ := id S
  obtain ⟨r, u2, v2, e1, e2, hR2⟩ := s_sheet hR (k := 20000) (by omega) (xs (i + 1)) (xs (i + 2)) (xs (i + 3))
  refine lv_aload_n (pc := 973) hx hb dL_law_973 rfl (lv_at hl 1 rfl) ?_
  refine lw_arg (pc := 974) (j := 1) B hI hl (by omega) dL_law_974 dL_law_975 dL_law_976 dL_law_977 dL_law_978 rfl ?_
  refine lw_arg (pc := 979) (j := 2) B hI hl (by omega) dL_law_979 dL_law_980 dL_law_981 dL_law_982 dL_law_983 rfl ?_
  refine lw_arg (pc := 984) (j := 3) B hI hl (by omega) dL_law_984 dL_law_985 dL_law_986 dL_law_987 dL_law_988 rfl ?_
  refine lw_X (pc := 989) (As := [.int (xs (i + 1)), .int (xs (i + 2)), .int (xs (i + 3))]) (rest := []) ⟨hx, hb, hml, hown, hts⟩ (kX9_sheet l D ad cy 20000 (xs (i + 1)) (xs (i + 2)) (xs (i + 3)) u r u2 e1) (cwV 3 hts gT_X9_sheet rfl rfl rfl (by decide +kernel) ⟨Nat.le_of_ble_eq_true rfl, Nat.le_of_ble_eq_true rfl⟩) B hI rfl hl.1 rfl (Nat.le_of_ble_eq_true rfl) dL_law_989 (fun H locs hI => ?_)
  refine lv_aload_n (pc := 992) hx hb dL_law_992 rfl (lv_at hl 2 rfl) ?_
  refine lw_arg (pc := 993) (j := 1) B hI hl (by omega) dL_law_993 dL_law_994 dL_law_995 dL_law_996 dL_law_997 rfl ?_
  refine lw_arg (pc := 998) (j := 2) B hI hl (by omega) dL_law_998 dL_law_999 dL_law_1000 dL_law_1001 dL_law_1002 rfl ?_
  refine lw_arg (pc := 1003) (j := 3) B hI hl (by omega) dL_law_1003 dL_law_1004 dL_law_1005 dL_law_1006 dL_law_1007 rfl ?_
  refine lw_M (pc := 1008) (As := [.int (xs (i + 1)), .int (xs (i + 2)), .int (xs (i + 3))]) (rest := [.int r]) ⟨hx, hb, hml, hown, hts⟩ (kX10_sheet l D ad' cy 20000 (xs (i + 1)) (xs (i + 2)) (xs (i + 3)) v r v2 e2) (cwV 3 hts gT_X10_sheet rfl rfl rfl (by decide +kernel) ⟨Nat.le_of_ble_eq_true rfl, Nat.le_of_ble_eq_true rfl⟩) B hI rfl hl.1 rfl (Nat.le_of_ble_eq_true rfl) dL_law_1008 (fun H locs hI => ?_)
  refine lv_icmp_eq (pc := 1011) (tgt := 1148) hx hb dL_law_1011 (by decide) (fun _ => ?_) (fun hq => absurd rfl hq)
  exact hN u2 v2 H locs ls hR2 hI hl
set_option maxHeartbeats 1000000 in
set_option maxRecDepth 100000 in
theorem lw_case29 (S : CallFix p m c cL_law 4 s #[Value.ref b] lw_tbl RL) (B : lwB s A b L xs ad ad' i cells slots) (hN : lwN p l e s m below meth c A Q D ad ad' cy b i cells slots) {u : CX} {v : MX} (hR : Rel u v) (hI : zIn D ad cy (WX ad cy u ++ WM ad' cy v) A s H locs) (hl : lv_has ls 4 [(0, .ref b), (1, .ref (ad 0)), (2, .ref (ad' 0)), (3, .int (nI i))]) : W p l e room_1 s m #[Value.ref b] below meth c H locs cells slots Q (F0 m 1016 ls []) := by
  obtain ⟨hx, hb, hml, hown, hts⟩ := id S
  obtain ⟨r, u2, v2, e1, e2, hR2⟩ := s_lay hR (xs (i + 1)) (xs (i + 2)) (xs (i + 3))
  refine lv_aload_n (pc := 1016) hx hb dL_law_1016 rfl (lv_at hl 1 rfl) ?_
  refine lw_arg (pc := 1017) (j := 1) B hI hl (by omega) dL_law_1017 dL_law_1018 dL_law_1019 dL_law_1020 dL_law_1021 rfl ?_
  refine lw_arg (pc := 1022) (j := 2) B hI hl (by omega) dL_law_1022 dL_law_1023 dL_law_1024 dL_law_1025 dL_law_1026 rfl ?_
  refine lw_arg (pc := 1027) (j := 3) B hI hl (by omega) dL_law_1027 dL_law_1028 dL_law_1029 dL_law_1030 dL_law_1031 rfl ?_
  refine lw_X (pc := 1032) (As := [.int (xs (i + 1)), .int (xs (i + 2)), .int (xs (i + 3))]) (rest := []) ⟨hx, hb, hml, hown, hts⟩ (kX9_lay l D ad cy (xs (i + 1)) (xs (i + 2)) (xs (i + 3)) u r u2 e1) (cwV 3 hts gT_X9_lay rfl rfl rfl (by decide +kernel) ⟨Nat.le_of_ble_eq_true rfl, Nat.le_of_ble_eq_true rfl⟩) B hI rfl hl.1 rfl (Nat.le_of_ble_eq_true rfl) dL_law_1032 (fun H locs hI => ?_)
  refine lv_aload_n (pc := 1035) hx hb dL_law_1035 rfl (lv_at hl 2 rfl) ?_
  refine lw_arg (pc := 1036) (j := 1) B hI hl (by omega) dL_law_1036 dL_law_1037 dL_law_1038 dL_law_1039 dL_law_1040 rfl ?_
  refine lw_arg (pc := 1041) (j := 2) B hI hl (by omega) dL_law_1041 dL_law_1042 dL_law_1043 dL_law_1044 dL_law_1045 rfl ?_
  refine lw_arg (pc := 1046) (j := 3) B hI hl (by omega) dL_law_1046 dL_law_1047 dL_law_1048 dL_law_1049 dL_law_1050 rfl ?_
  refine lw_M (pc := 1051) (As := [.int (xs (i + 1)), .int (xs (i + 2)), .int (xs (i + 3))]) (rest := [.int r]) ⟨hx, hb, hml, hown, hts⟩ (kX10_lay l D ad' cy (xs (i + 1)) (xs (i + 2)) (xs (i + 3)) v r v2 e2) (cwV 3 hts gT_X10_lay rfl rfl rfl (by decide +kernel) ⟨Nat.le_of_ble_eq_true rfl, Nat.le_of_ble_eq_true rfl⟩) B hI rfl hl.1 rfl (Nat.le_of_ble_eq_true rfl) dL_law_1051 (fun H locs hI => ?_)
  refine lv_icmp_eq (pc := 1054) (tgt := 1148) hx hb dL_law_1054 (by decide) (fun _ => ?_) (fun hq => absurd rfl hq)
  exact hN u2 v2 H locs ls hR2 hI hl
set_option maxHeartbeats 1000000 in
set_option maxRecDepth 100000 in
theorem lw_case30 (S : CallFix p m c cL_law 4 s #[Value.ref b] lw_tbl RL) (B : lwB s A b L xs ad ad' i cells slots) (hN : lwN p l e s m below meth c A Q D ad ad' cy b i cells slots) {u : CX} {v : MX} (hR : Rel u v) (hI : zIn D ad cy (WX ad cy u ++ WM ad' cy v) A s H locs) (hl : lv_has ls 4 [(0, .ref b), (1, .ref (ad 0)), (2, .ref (ad' 0)), (3, .int (nI i))]) : W p l e room_1 s m #[Value.ref b] below meth c H locs cells slots Q (F0 m 1059 ls []) := by
  obtain ⟨hx, hb, hml, hown, hts⟩ := id S
  obtain ⟨r, u2, v2, e1, e2, hR2⟩ := s_read hR (k := 20000) (by omega) (xs (i + 1)) (xs (i + 2)) (xs (i + 3)) (xs (i + 4))
  refine lv_aload_n (pc := 1059) hx hb dL_law_1059 rfl (lv_at hl 1 rfl) ?_
  refine lw_arg (pc := 1060) (j := 1) B hI hl (by omega) dL_law_1060 dL_law_1061 dL_law_1062 dL_law_1063 dL_law_1064 rfl ?_
  refine lw_arg (pc := 1065) (j := 2) B hI hl (by omega) dL_law_1065 dL_law_1066 dL_law_1067 dL_law_1068 dL_law_1069 rfl ?_
  refine lw_arg (pc := 1070) (j := 3) B hI hl (by omega) dL_law_1070 dL_law_1071 dL_law_1072 dL_law_1073 dL_law_1074 rfl ?_
  refine lw_arg (pc := 1075) (j := 4) B hI hl (by omega) dL_law_1075 dL_law_1076 dL_law_1077 dL_law_1078 dL_law_1079 rfl ?_
  refine lw_X (pc := 1080) (As := [.int (xs (i + 1)), .int (xs (i + 2)), .int (xs (i + 3)), .int (xs (i + 4))]) (rest := []) ⟨hx, hb, hml, hown, hts⟩ (kX9_read l D ad cy 20000 (xs (i + 1)) (xs (i + 2)) (xs (i + 3)) (xs (i + 4)) u r u2 e1) (cwV 4 hts gT_X9_read rfl rfl rfl (by decide +kernel) ⟨Nat.le_of_ble_eq_true rfl, Nat.le_of_ble_eq_true rfl⟩) B hI rfl hl.1 rfl (Nat.le_of_ble_eq_true rfl) dL_law_1080 (fun H locs hI => ?_)
  refine lv_aload_n (pc := 1083) hx hb dL_law_1083 rfl (lv_at hl 2 rfl) ?_
  refine lw_arg (pc := 1084) (j := 1) B hI hl (by omega) dL_law_1084 dL_law_1085 dL_law_1086 dL_law_1087 dL_law_1088 rfl ?_
  refine lw_arg (pc := 1089) (j := 2) B hI hl (by omega) dL_law_1089 dL_law_1090 dL_law_1091 dL_law_1092 dL_law_1093 rfl ?_
  refine lw_arg (pc := 1094) (j := 3) B hI hl (by omega) dL_law_1094 dL_law_1095 dL_law_1096 dL_law_1097 dL_law_1098 rfl ?_
  refine lw_arg (pc := 1099) (j := 4) B hI hl (by omega) dL_law_1099 dL_law_1100 dL_law_1101 dL_law_1102 dL_law_1103 rfl ?_
  refine lw_M (pc := 1104) (As := [.int (xs (i + 1)), .int (xs (i + 2)), .int (xs (i + 3)), .int (xs (i + 4))]) (rest := [.int r]) ⟨hx, hb, hml, hown, hts⟩ (kX10_read l D ad' cy 20000 (xs (i + 1)) (xs (i + 2)) (xs (i + 3)) (xs (i + 4)) v r v2 e2) (cwV 4 hts gT_X10_read rfl rfl rfl (by decide +kernel) ⟨Nat.le_of_ble_eq_true rfl, Nat.le_of_ble_eq_true rfl⟩) B hI rfl hl.1 rfl (Nat.le_of_ble_eq_true rfl) dL_law_1104 (fun H locs hI => ?_)
  refine lv_icmp_eq (pc := 1107) (tgt := 1148) hx hb dL_law_1107 (by decide) (fun _ => ?_) (fun hq => absurd rfl hq)
  exact hN u2 v2 H locs ls hR2 hI hl
set_option maxHeartbeats 1000000 in
set_option maxRecDepth 100000 in
theorem lw_case31 (S : CallFix p m c cL_law 4 s #[Value.ref b] lw_tbl RL) (B : lwB s A b L xs ad ad' i cells slots) (hN : lwN p l e s m below meth c A Q D ad ad' cy b i cells slots) {u : CX} {v : MX} (hR : Rel u v) (hI : zIn D ad cy (WX ad cy u ++ WM ad' cy v) A s H locs) (hl : lv_has ls 4 [(0, .ref b), (1, .ref (ad 0)), (2, .ref (ad' 0)), (3, .int (nI i))]) : W p l e room_1 s m #[Value.ref b] below meth c H locs cells slots Q (F0 m 1112 ls []) := by
  obtain ⟨hx, hb, hml, hown, hts⟩ := id S
  obtain ⟨r, e1, e2⟩ := s_torn hR 
  refine lv_aload_n (pc := 1112) hx hb dL_law_1112 rfl (lv_at hl 1 rfl) ?_
  refine lw_X (pc := 1113) (As := []) (rest := []) ⟨hx, hb, hml, hown, hts⟩ (kX9_torn l D ad cy u r e1) (cwV 0 hts gT_X9_torn rfl rfl rfl (by decide +kernel) ⟨Nat.le_of_ble_eq_true rfl, Nat.le_of_ble_eq_true rfl⟩) B hI rfl hl.1 rfl (Nat.le_of_ble_eq_true rfl) dL_law_1113 (fun H locs hI => ?_)
  refine lv_aload_n (pc := 1116) hx hb dL_law_1116 rfl (lv_at hl 2 rfl) ?_
  refine lw_M (pc := 1117) (As := []) (rest := [.int r]) ⟨hx, hb, hml, hown, hts⟩ (kX10_torn l D ad' cy v r e2) (cwV 0 hts gT_X10_torn rfl rfl rfl (by decide +kernel) ⟨Nat.le_of_ble_eq_true rfl, Nat.le_of_ble_eq_true rfl⟩) B hI rfl hl.1 rfl (Nat.le_of_ble_eq_true rfl) dL_law_1117 (fun H locs hI => ?_)
  refine lv_icmp_eq (pc := 1120) (tgt := 1148) hx hb dL_law_1120 (by decide) (fun _ => ?_) (fun hq => absurd rfl hq)
  exact hN u v H locs ls hR hI hl
set_option maxHeartbeats 1000000 in
set_option maxRecDepth 100000 in
theorem lw_case32 (S : CallFix p m c cL_law 4 s #[Value.ref b] lw_tbl RL) (B : lwB s A b L xs ad ad' i cells slots) (hN : lwN p l e s m below meth c A Q D ad ad' cy b i cells slots) {u : CX} {v : MX} (hR : Rel u v) (hI : zIn D ad cy (WX ad cy u ++ WM ad' cy v) A s H locs) (hl : lv_has ls 4 [(0, .ref b), (1, .ref (ad 0)), (2, .ref (ad' 0)), (3, .int (nI i))]) : W p l e room_1 s m #[Value.ref b] below meth c H locs cells slots Q (F0 m 1125 ls []) := by
  obtain ⟨hx, hb, hml, hown, hts⟩ := id S
  obtain ⟨r, e1, e2⟩ := s_count hR (k := 20000) (by omega) (xs (i + 1))
  refine lv_aload_n (pc := 1125) hx hb dL_law_1125 rfl (lv_at hl 1 rfl) ?_
  refine lw_arg (pc := 1126) (j := 1) B hI hl (by omega) dL_law_1126 dL_law_1127 dL_law_1128 dL_law_1129 dL_law_1130 rfl ?_
  refine lw_X (pc := 1131) (As := [.int (xs (i + 1))]) (rest := []) ⟨hx, hb, hml, hown, hts⟩ (kX9_count l D ad cy 20000 (xs (i + 1)) u r e1) (cwV 1 hts gT_X9_count rfl rfl rfl (by decide +kernel) ⟨Nat.le_of_ble_eq_true rfl, Nat.le_of_ble_eq_true rfl⟩) B hI rfl hl.1 rfl (Nat.le_of_ble_eq_true rfl) dL_law_1131 (fun H locs hI => ?_)
  refine lv_aload_n (pc := 1134) hx hb dL_law_1134 rfl (lv_at hl 2 rfl) ?_
  refine lw_arg (pc := 1135) (j := 1) B hI hl (by omega) dL_law_1135 dL_law_1136 dL_law_1137 dL_law_1138 dL_law_1139 rfl ?_
  refine lw_M (pc := 1140) (As := [.int (xs (i + 1))]) (rest := [.int r]) ⟨hx, hb, hml, hown, hts⟩ (kX10_count l D ad' cy 20000 (xs (i + 1)) v r e2) (cwV 1 hts gT_X10_count rfl rfl rfl (by decide +kernel) ⟨Nat.le_of_ble_eq_true rfl, Nat.le_of_ble_eq_true rfl⟩) B hI rfl hl.1 rfl (Nat.le_of_ble_eq_true rfl) dL_law_1140 (fun H locs hI => ?_)
  refine lv_icmp_eq (pc := 1143) (tgt := 1148) hx hb dL_law_1143 (by decide) (fun _ => ?_) (fun hq => absurd rfl hq)
  exact hN u v H locs ls hR hI hl
end LW
