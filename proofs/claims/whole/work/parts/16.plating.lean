theorem iwX4_weightOf_4 : ∀ w ∈ wsX40, w ∈ wsX4_weightOf := by decide +kernel
theorem iwX4_weightOf_8 : ∀ w ∈ wsX80, w ∈ wsX4_weightOf := by decide +kernel
def bX4_weightOf_4 (k : Nat) (p1 : Int32) (u : CX) (a : Int32 × Int32) : Option ((Int32 × Int32) ⊕ (Int32)) :=
  if (4 : Int32) ≤ a.2 then
    some (.inr a.1)
  else
  if ((p1 >>> (a.2 &&& 31)) &&& (1 : Int32)) = (1 : Int32) then
    zget 12 (xg_Tparts u) ((8 : Int32) + a.2) (fun v2 =>
    zb (a.1 + v2) (fun v3 =>
    some (.inl (v3, (a.2 + 1)))))
  else
  zb (a.1 + (0 : Int32)) (fun v1 =>
  some (.inl (v1, (a.2 + 1))))
def fX4_weightOf (k : Nat) (a1 : Int32) (u : CX) : Option (Int32) :=
  (ziter (bX4_weightOf_4 k a1 u) k ((0 : Int32), (0 : Int32))).bind (fun b4 =>
    some b4)
theorem iwX4_settleFactors_4 : ∀ w ∈ wsX40, w ∈ wsX4_settleFactors := by decide +kernel
theorem iwX4_settleFactors_8 : ∀ w ∈ wsX80, w ∈ wsX4_settleFactors := by decide +kernel
def fX4_settleFactors (a1 : Int32) (a2 : Int64) (u : CX) : Option (CX) :=
  zb (xg_Tscale u) (fun v1 =>
  zb ((4 : Int32) * a1) (fun v2 =>
  zget 7 (xg_Trules u) (0 : Int32) (fun v3 =>
  zix 64 v2 (fun j4 => zb (xs_factors u (vp_updL (xg_factors u) j4 (((((v3.toInt64) * ((100 : Int64) - a2)) * v1) * v1) * v1))) (fun u5 =>
  zget 7 (xg_Trules u5) (1 : Int32) (fun v6 =>
  zget 7 (xg_Trules u5) (0 : Int32) (fun v7 =>
  zix 64 (v2 + (1 : Int32)) (fun j8 => zb (xs_factors u5 (vp_updL (xg_factors u5) j8 (((((v6.toInt64) * ((100 : Int64) - a2)) + ((v7.toInt64) * a2)) * v1) * v1))) (fun u9 =>
  zget 7 (xg_Trules u9) (2 : Int32) (fun v10 =>
  zget 7 (xg_Trules u9) (1 : Int32) (fun v11 =>
  zix 64 (v2 + (2 : Int32)) (fun j12 => zb (xs_factors u9 (vp_updL (xg_factors u9) j12 ((((v10.toInt64) * ((100 : Int64) - a2)) + ((v11.toInt64) * a2)) * v1))) (fun u13 =>
  zget 7 (xg_Trules u13) (3 : Int32) (fun v14 =>
  zget 7 (xg_Trules u13) (2 : Int32) (fun v15 =>
  zix 64 (v2 + (3 : Int32)) (fun j16 => zb (xs_factors u13 (vp_updL (xg_factors u13) j16 (((v14.toInt64) * (100 : Int64)) + ((v15.toInt64) * a2)))) (fun u17 =>
  some u17)))))))))))))))))
theorem iwX4_settle_4 : ∀ w ∈ wsX40, w ∈ wsX4_settle := by decide +kernel
theorem iwX4_settle_8 : ∀ w ∈ wsX80, w ∈ wsX4_settle := by decide +kernel
def bX4_settle_2 (k : Nat) (a : Int32 × CX) : Option ((Int32 × CX) ⊕ (CX)) :=
  if (16 : Int32) ≤ a.1 then
    some (.inr a.2)
  else
  (fX4_weightOf k a.1 a.2).bind (fun q2 =>
  zget 7 (xg_Trules a.2) (6 : Int32) (fun v3 =>
  if v3 < q2 then
    zix 16 a.1 (fun j4 => zb (xs_light a.2 (upd (xg_light a.2) j4 (vp_nar .boolean (0 : Int32)))) (fun u5 =>
    (fX4_settleFactors a.1 (q2.toInt64) u5).bind (fun q7 =>
    some (.inl ((a.1 + 1), q7)))))
  else
  zix 16 a.1 (fun j8 => zb (xs_light a.2 (upd (xg_light a.2) j8 (vp_nar .boolean (1 : Int32)))) (fun u9 =>
  (fX4_settleFactors a.1 (q2.toInt64) u9).bind (fun q11 =>
  some (.inl ((a.1 + 1), q11)))))))
def fX4_settle (k : Nat) (u : CX) : Option (CX) :=
  (ziter (bX4_settle_2 k) k ((0 : Int32), u)).bind (fun b12 =>
    some b12)
theorem iwX4_standAll_4 : ∀ w ∈ wsX40, w ∈ wsX4_standAll := by decide +kernel
def bX4_standAll_58 (k : Nat) (p1 : Int32) (p2 : Int32) (p4 : Int32) (p5 : Int32) (a : Int32 × CX) : Option ((Int32 × CX) ⊕ (CX)) :=
  if p5 ≤ a.1 then
    some (.inr a.2)
  else
  zget 16 (xg_stands a.2) a.1 (fun v13 =>
  zix 16 (p5 + a.1) (fun j14 => zb (xs_stands a.2 (upd (xg_stands a.2) j14 (v13 + p4))) (fun u15 =>
  some (.inl ((a.1 + 1), u15)))))
def bX4_standAll_16 (k : Nat) (p1 : Int32) (a : Int32 × CX) : Option ((Int32 × CX) ⊕ (CX)) :=
  if (4 : Int32) ≤ a.1 then
    some (.inr a.2)
  else
  (fX9_figure p1 a.1).bind (fun q6 =>
  zdi (2 : Int32) (
  (fX8_partStand a.1 (q6 / (2 : Int32)) a.2).bind (fun q8 =>
  (fX8_partStand a.1 q6 a.2).bind (fun q10 =>
  zb (q8 - q10) (fun v11 =>
  zb ((1 : Int32) <<< (a.1 &&& 31)) (fun v12 =>
  (ziter (bX4_standAll_58 k p1 a.1 v11 v12) k ((0 : Int32), a.2)).bind (fun b16 =>
    some (.inl ((a.1 + 1), b16)))))))))
def fX4_standAll (k : Nat) (a1 : Int32) (u : CX) : Option (CX) :=
  (fX8_stand k a1 u).bind (fun q2 =>
  zix 16 (0 : Int32) (fun j3 => zb (xs_stands u (upd (xg_stands u) j3 q2)) (fun u4 =>
  (ziter (bX4_standAll_16 k a1) k ((0 : Int32), u4)).bind (fun b18 =>
    some b18))))
theorem iwX4_homesAt_4 : ∀ w ∈ wsX40, w ∈ wsX4_homesAt := by decide +kernel
def fX4_homesAt (a1 : Int32) (a2 : Int64) (u : CX) : Option (Int64) :=
  zb ((4 : Int32) * a1) (fun v1 =>
  zget 64 (xg_factors u) (v1 + (3 : Int32)) (fun v2 =>
  zget 64 (xg_factors u) (v1 + (2 : Int32)) (fun v3 =>
  zget 64 (xg_factors u) (v1 + (1 : Int32)) (fun v4 =>
  zget 64 (xg_factors u) v1 (fun v5 =>
  some ((((((v2 * a2) + v3) * a2) + v4) * a2) + v5))))))
theorem iwX4_homesBy_4 : ∀ w ∈ wsX40, w ∈ wsX4_homesBy := by decide +kernel
def fX4_homesBy (k : Nat) (a1 : Int32) (a2 : Int32) (u : CX) : Option (Int64 × CX) :=
  (fX4_standAll k a1 u).bind (fun q2 =>
  zget 16 (xg_stands q2) a2 (fun v3 =>
  (fX4_homesAt a2 (v3.toInt64) q2).bind (fun q5 =>
  some (q5, q2))))
theorem iwX4_mostHomes_4 : ∀ w ∈ wsX40, w ∈ wsX4_mostHomes := by decide +kernel
def bX4_mostHomes_s_9 (k : Nat) (u : CX) (a : Int32 × Int64 × Int32) : Option ((Int32 × Int64 × Int32) ⊕ (Int32)) :=
  if (16 : Int32) ≤ a.2.2 then
    some (.inr a.1)
  else
  zget 16 (xg_light u) a.2.2 (fun v1 =>
  if v1 = 0 then
    some (.inl (a.1, a.2.1, (a.2.2 + 1)))
  else
  zget 16 (xg_stands u) a.2.2 (fun v2 =>
  (fX4_homesAt a.2.2 (v2.toInt64) u).bind (fun q4 =>
  if q4 ≤ a.2.1 then
    some (.inl (a.1, a.2.1, (a.2.2 + 1)))
  else
  some (.inl (a.2.2, q4, (a.2.2 + 1))))))
def fX4_mostHomes_s (k : Nat) (u : CX) : Option (Int32) :=
  (ziter (bX4_mostHomes_s_9 k u) k ((0 : Int32), (-1 : Int64), (0 : Int32))).bind (fun b5 =>
    some b5)
def bX4_mostHomes_w_9 (k : Nat) (u : CX) (a : Int32 × Int64 × Int32) : Option ((Int32 × Int64 × Int32) ⊕ (Int32)) :=
  if (16 : Int32) ≤ a.2.2 then
    some (.inr a.1)
  else
  zget 16 (xg_light u) a.2.2 (fun v1 =>
  if v1 = 0 then
    some (.inl (a.1, a.2.1, (a.2.2 + 1)))
  else
  zget 16 (xg_worst u) a.2.2 (fun v2 =>
  (fX4_homesAt a.2.2 (v2.toInt64) u).bind (fun q4 =>
  if q4 ≤ a.2.1 then
    some (.inl (a.1, a.2.1, (a.2.2 + 1)))
  else
  some (.inl (a.2.2, q4, (a.2.2 + 1))))))
def fX4_mostHomes_w (k : Nat) (u : CX) : Option (Int32) :=
  (ziter (bX4_mostHomes_w_9 k u) k ((0 : Int32), (-1 : Int64), (0 : Int32))).bind (fun b5 =>
    some b5)
theorem iwX4_bestFor_4 : ∀ w ∈ wsX40, w ∈ wsX4_bestFor := by decide +kernel
def fX4_bestFor (k : Nat) (a1 : Int32) (u : CX) : Option (Int32 × CX) :=
  (fX4_standAll k a1 u).bind (fun q2 =>
  (fX4_mostHomes_s k q2).bind (fun q4 =>
  some (q4, q2)))
theorem iwX4_mostHoles_4 : ∀ w ∈ wsX40, w ∈ wsX4_mostHoles := by decide +kernel
theorem iwX4_mostHoles_8 : ∀ w ∈ wsX80, w ∈ wsX4_mostHoles := by decide +kernel
def bX4_mostHoles_5 (k : Nat) (p2 : Int32) (u : CX) (a : Int32 × Int32) : Option ((Int32 × Int32) ⊕ (Int32)) :=
  if (4 : Int32) ≤ a.2 then
    some (.inr a.1)
  else
  if ((p2 >>> (a.2 &&& 31)) &&& (1 : Int32)) = 0 then
    if a.1 < 0 then
      some (.inl (a.2, (a.2 + 1)))
    else
    (fX3_inPart a.2 u).bind (fun q2 =>
    zget 12 (xg_Tparts u) a.1 (fun v3 =>
    (fX3_inPart a.1 u).bind (fun q5 =>
    zget 12 (xg_Tparts u) a.2 (fun v6 =>
    if (q2 * v3) ≤ (q5 * v6) then
      some (.inl (a.1, (a.2 + 1)))
    else
    some (.inl (a.2, (a.2 + 1)))))))
  else
  some (.inl (a.1, (a.2 + 1)))
def fX4_mostHoles (k : Nat) (a2 : Int32) (u : CX) : Option (Int32) :=
  (ziter (bX4_mostHoles_5 k a2 u) k ((-1 : Int32), (0 : Int32))).bind (fun b7 =>
    some (zmaxI b7 (0 : Int32)))
theorem iwX4_drawnFrom_4 : ∀ w ∈ wsX40, w ∈ wsX4_drawnFrom := by decide +kernel
def bX4_drawnFrom_7 (k : Nat) (u : CX) (a : Int32 × Int32 × Int32) : Option ((Int32 × Int32 × Int32) ⊕ (Int32)) :=
  if (4 : Int32) ≤ a.2.2 then
    some (.inr a.2.1)
  else
  (fX4_mostHoles k a.1 u).bind (fun q2 =>
  zb (a.1 ||| ((1 : Int32) <<< (q2 &&& 31))) (fun v3 =>
  zget 16 (xg_light u) (a.2.1 ||| ((1 : Int32) <<< (q2 &&& 31))) (fun v4 =>
  if v4 = 0 then
    some (.inl (v3, a.2.1, (a.2.2 + 1)))
  else
  zb (a.2.1 ||| ((1 : Int32) <<< (q2 &&& 31))) (fun v5 =>
  some (.inl (v3, v5, (a.2.2 + 1)))))))
def fX4_drawnFrom (k : Nat) (u : CX) : Option (Int32) :=
  (ziter (bX4_drawnFrom_7 k u) k ((0 : Int32), (0 : Int32), (0 : Int32))).bind (fun b6 =>
    some b6)
section
variable {p : Program} {l : Launch} {e : Env} {s : State} {m : MethodId} {args : Array Value} {below : List Frame} {meth : Method} {c : Code} {A : Nat → Prop} {Q : State → Prop} {D : va_G} {ad : Nat → Nat} {cy : Nat → ClassId}
set_option maxHeartbeats 4000000 in
set_option maxRecDepth 100000 in
theorem lX4_weightOf_4 (C0 : zFix p m c cX4_weightOf 4 s args wsX4_weightOf RX4 meth (some .int)) {k : Nat} {p1 : Int32} {u : CX} {a : Int32 × Int32} {b : Int32} (hit : ziter (bX4_weightOf_4 k p1 u) k a = some b) (hx9 : (fun (b : Int32) => ∀ (H : Heap) (locs : List Loc) (ls : Array Slot), zIn D ad cy (WX ad cy u) A s H locs → lv_has ls 4 [(2, .int b)] → W p l e ({ frames := 0, cells := 0, slots := 0, locals := 0 } : Room) s m args below meth c H locs 0 0 Q (F0 m 43 ls [])) b) : (fun (a : Int32 × Int32) => ∀ (H : Heap) (locs : List Loc) (ls : Array Slot), zIn D ad cy (WX ad cy u) A s H locs → lv_has ls 4 [(0, .ref (ad 32)), (1, .int p1), (2, .int a.1), (3, .int a.2)] → W p l e ({ frames := 0, cells := 0, slots := 0, locals := 0 } : Room) s m args below meth c H locs 0 0 Q (F0 m 4 ls [])) a := by
  obtain ⟨hx, hb, hml, hown, hts, hr, hlk⟩ := id C0
  refine zloop (Wh := (fun (a : Int32 × Int32) => ∀ (H : Heap) (locs : List Loc) (ls : Array Slot), zIn D ad cy (WX ad cy u) A s H locs → lv_has ls 4 [(0, .ref (ad 32)), (1, .int p1), (2, .int a.1), (3, .int a.2)] → W p l e ({ frames := 0, cells := 0, slots := 0, locals := 0 } : Room) s m args below meth c H locs 0 0 Q (F0 m 4 ls []))) (Wx := (fun (b : Int32) => ∀ (H : Heap) (locs : List Loc) (ls : Array Slot), zIn D ad cy (WX ad cy u) A s H locs → lv_has ls 4 [(2, .int b)] → W p l e ({ frames := 0, cells := 0, slots := 0, locals := 0 } : Room) s m args below meth c H locs 0 0 Q (F0 m 43 ls []))) ?_ _ a b hit hx9
  intro a x hf hL hX H locs ls hI hl
  unfold bX4_weightOf_4 at hf
  refine lv_iload_n (pc := 4) hx hb dX4_weightOf_4 rfl (lv_at hl 3 rfl) ?_
  refine lv_iconst (pc := 5) (v := 4) hx hb dX4_weightOf_5 (by decide) ?_
  refine z_icmp_ge (pc := 6) (tgt := 43) hx hb dX4_weightOf_6 (by decide) hf (fun hf => ?_) (fun hf => ?_)
  · exact (hX _ (Option.some.inj hf).symm) _ _ _ hI (lv_sub hl [2] rfl)
  refine lv_iload_n (pc := 9) hx hb dX4_weightOf_9 rfl (lv_at hl 2 rfl) ?_
  refine lv_iload_n (pc := 10) hx hb dX4_weightOf_10 rfl (lv_at hl 1 rfl) ?_
  refine lv_iload_n (pc := 11) hx hb dX4_weightOf_11 rfl (lv_at hl 3 rfl) ?_
  refine lv_ishr (pc := 12) hx hb dX4_weightOf_12 ?_
  refine lv_iconst (pc := 13) (v := 1) hx hb dX4_weightOf_13 (by decide) ?_
  refine lv_iand (pc := 14) hx hb dX4_weightOf_14 ?_
  refine lv_iconst (pc := 15) (v := 1) hx hb dX4_weightOf_15 (by decide) ?_
  refine z_icmp_ne (pc := 16) (tgt := 34) hx hb dX4_weightOf_16 (by decide) hf (fun hf => ?_) (fun hf => ?_)
  · refine lv_iconst (pc := 34) (v := 0) hx hb dX4_weightOf_34 (by decide) ?_
    refine lv_iadd (pc := 35) hx hb dX4_weightOf_35 ?_
    refine z_bi hf (fun v1 hf => ?_)
    refine lv_istore_n (pc := 36) (lv' := [(2, .int v1), (0, .ref (ad 32)), (1, .int p1), (3, .int a.2)]) hx hb dX4_weightOf_36 rfl hl (by decide) rfl (fun ls hl => ?_)
    refine lv_iinc (pc := 37) (v := (a.2 + 1)) (lv' := [(3, .int (a.2 + 1)), (2, .int v1), (0, .ref (ad 32)), (1, .int p1)]) hx hb dX4_weightOf_37 hl (k := 3) rfl rfl (by decide) rfl (fun ls hl => ?_)
    refine lv_goto (pc := 40) (tgt := 4) hx hb dX4_weightOf_40 (by decide) ?_
    exact hL _ (Option.some.inj hf).symm _ _ _ hI (lv_sub hl [2, 3, 1, 0] rfl)
  refine lv_aload_n (pc := 19) hx hb dX4_weightOf_19 rfl (lv_at hl 0 rfl) ?_
  refine z_get (pc := 20) (index := 23) hx hb hts iwX4_weightOf_4 hown hI (xl_32 ad cy u) rfl 0 (by decide) (by decide +kernel) rfl rfl dX4_weightOf_20 ?_
  refine z_get (pc := 23) (index := 76) hx hb hts iwX4_weightOf_8 hown hI (xl_1 ad cy u) rfl 0 (by decide) (by decide +kernel) rfl rfl dX4_weightOf_23 ?_
  refine lv_bipush (pc := 26) (v := 8) hx hb dX4_weightOf_26 (by decide) ?_
  refine lv_iload_n (pc := 28) hx hb dX4_weightOf_28 rfl (lv_at hl 3 rfl) ?_
  refine lv_iadd (pc := 29) hx hb dX4_weightOf_29 ?_
  refine z_iald (pc := 30) hx hb hI (xl_2 ad cy u) 0 rfl dX4_weightOf_30 hf (fun v2 hf => ?_)
  refine lv_goto (pc := 31) (tgt := 35) hx hb dX4_weightOf_31 (by decide) ?_
  refine lv_iadd (pc := 35) hx hb dX4_weightOf_35 ?_
  refine z_bi hf (fun v3 hf => ?_)
  refine lv_istore_n (pc := 36) (lv' := [(2, .int v3), (0, .ref (ad 32)), (1, .int p1), (3, .int a.2)]) hx hb dX4_weightOf_36 rfl hl (by decide) rfl (fun ls hl => ?_)
  refine lv_iinc (pc := 37) (v := (a.2 + 1)) (lv' := [(3, .int (a.2 + 1)), (2, .int v3), (0, .ref (ad 32)), (1, .int p1)]) hx hb dX4_weightOf_37 hl (k := 3) rfl rfl (by decide) rfl (fun ls hl => ?_)
  refine lv_goto (pc := 40) (tgt := 4) hx hb dX4_weightOf_40 (by decide) ?_
  exact hL _ (Option.some.inj hf).symm _ _ _ hI (lv_sub hl [2, 3, 1, 0] rfl)
set_option maxHeartbeats 4000000 in
set_option maxRecDepth 100000 in
theorem kX4_weightOf (l : Launch) (D : va_G) (ad : Nat → Nat) (cy : Nat → ClassId) (k : Nat) (a1 : Int32) (u : CX) (r : Int32) (hf : fX4_weightOf k a1 u = some r) : zCt l yX4_weightOf wsX4_weightOf ({ frames := 0, cells := 0, slots := 0, locals := 0 } : Room) D ad cy [.ref (ad 32), .int a1] (WX ad cy u) (some (.int r)) (WX ad cy u) := by
  refine zCt.of (cc := cX4_weightOf) (maxL := 4) (ret := (some .int)) (own := RX4) (by decide) rfl rfl ?_
  intro p e s m below meth c A C0 hI
  obtain ⟨hx, hb, hml, hown, hts, hr, hlk⟩ := id C0
  refine z_entry (Nat.le_of_ble_eq_true rfl) (fun ls hl => ?_)
  have hl : lv_has ls 4 [(0, .ref (ad 32)), (1, .int a1)] := hl
  unfold fX4_weightOf at hf
  refine lv_iconst (pc := 0) (v := 0) hx hb dX4_weightOf_0 (by decide) ?_
  refine lv_istore_n (pc := 1) (lv' := [(2, .int (0 : Int32)), (0, .ref (ad 32)), (1, .int a1)]) hx hb dX4_weightOf_1 rfl hl (by decide) rfl (fun ls hl => ?_)
  refine lv_iconst (pc := 2) (v := 0) hx hb dX4_weightOf_2 (by decide) ?_
  refine lv_istore_n (pc := 3) (lv' := [(3, .int (0 : Int32)), (2, .int (0 : Int32)), (0, .ref (ad 32)), (1, .int a1)]) hx hb dX4_weightOf_3 rfl hl (by decide) rfl (fun ls hl => ?_)
  obtain ⟨b4, hb5, hf⟩ := zbind hf
  refine lX4_weightOf_4 C0 hb5 ?_ _ _ _ hI (lv_sub hl [2, 3, 1, 0] rfl)
  intro H locs ls hI hl
  refine lv_iload_n (pc := 43) hx hb dX4_weightOf_43 rfl (lv_at hl 0 rfl) ?_
  cases hf
  exact z_iret (pc := 44) C0 hI dX4_weightOf_44
set_option maxHeartbeats 4000000 in
set_option maxRecDepth 100000 in
theorem kX4_settleFactors (l : Launch) (D : va_G) (ad : Nat → Nat) (cy : Nat → ClassId) (a1 : Int32) (a2 : Int64) (u : CX) (u' : CX) (hf : fX4_settleFactors a1 a2 u = some u') : zCt l yX4_settleFactors wsX4_settleFactors ({ frames := 0, cells := 0, slots := 0, locals := 0 } : Room) D ad cy [.ref (ad 32), .int a1, .long a2] (WX ad cy u) none (WX ad cy u') := by
  refine zCt.of (cc := cX4_settleFactors) (maxL := 8) (ret := none) (own := RX4) (by decide) rfl rfl ?_
  intro p e s m below meth c A C0 hI
  obtain ⟨hx, hb, hml, hown, hts, hr, hlk⟩ := id C0
  refine z_entry (Nat.le_of_ble_eq_true rfl) (fun ls hl => ?_)
  have hl : lv_has ls 8 [(0, .ref (ad 32)), (1, .int a1), (2, .long a2)] := hl
  unfold fX4_settleFactors at hf
  refine lv_aload_n (pc := 0) hx hb dX4_settleFactors_0 rfl (lv_at hl 0 rfl) ?_
  refine z_get (pc := 1) (index := 23) hx hb hts iwX4_settleFactors_4 hown hI (xl_32 ad cy u) rfl 0 (by decide) (by decide +kernel) rfl rfl dX4_settleFactors_1 ?_
  refine z_get (pc := 4) (index := 84) hx hb hts iwX4_settleFactors_8 hown hI (xl_1 ad cy u) rfl 4 (by decide) (by decide +kernel) rfl rfl dX4_settleFactors_4 ?_
  refine z_bl hf (fun v1 hf => ?_)
  refine lv_lstore (pc := 7) (lv' := [(4, .long v1), (0, .ref (ad 32)), (1, .int a1), (2, .long a2)]) hx hb dX4_settleFactors_7 hl (by decide) rfl (fun ls hl => ?_)
  refine lv_aload_n (pc := 9) hx hb dX4_settleFactors_9 rfl (lv_at hl 1 rfl) ?_
  refine z_get (pc := 10) (index := 23) hx hb hts iwX4_settleFactors_4 hown hI (xl_32 ad cy u) rfl 0 (by decide) (by decide +kernel) rfl rfl dX4_settleFactors_10 ?_
  refine z_get (pc := 13) (index := 34) hx hb hts iwX4_settleFactors_8 hown hI (xl_1 ad cy u) rfl 1 (by decide) (by decide +kernel) rfl rfl dX4_settleFactors_13 ?_
  refine lv_astore (pc := 16) (lv' := [(6, .ref (ad 3)), (4, .long v1), (0, .ref (ad 32)), (1, .int a1), (2, .long a2)]) hx hb dX4_settleFactors_16 hl (by decide) rfl (fun ls hl => ?_)
  refine lv_iconst (pc := 18) (v := 4) hx hb dX4_settleFactors_18 (by decide) ?_
  refine lv_iload_n (pc := 19) hx hb dX4_settleFactors_19 rfl (lv_at hl 3 rfl) ?_
  refine lv_imul (pc := 20) hx hb dX4_settleFactors_20 ?_
  refine z_bi hf (fun v2 hf => ?_)
  refine lv_istore (pc := 21) (lv' := [(7, .int v2), (6, .ref (ad 3)), (4, .long v1), (0, .ref (ad 32)), (1, .int a1), (2, .long a2)]) hx hb dX4_settleFactors_21 hl (by decide) rfl (fun ls hl => ?_)
  refine lv_aload_n (pc := 23) hx hb dX4_settleFactors_23 rfl (lv_at hl 3 rfl) ?_
  refine z_get (pc := 24) (index := 15) hx hb hts iwX4_settleFactors_4 hown hI (xl_32 ad cy u) rfl 2 (by decide) (by decide +kernel) rfl rfl dX4_settleFactors_24 ?_
  refine lv_iload (pc := 27) hx hb dX4_settleFactors_27 (lv_at hl 0 rfl) ?_
  refine lv_aload (pc := 29) hx hb dX4_settleFactors_29 (lv_at hl 1 rfl) ?_
  refine lv_iconst (pc := 31) (v := 0) hx hb dX4_settleFactors_31 (by decide) ?_
  refine z_iald (pc := 32) hx hb hI (xl_3 ad cy u) 0 rfl dX4_settleFactors_32 hf (fun v3 hf => ?_)
  refine lv_i2l (pc := 33) hx hb dX4_settleFactors_33 rfl ?_
  refine lv_ldc2 (pc := 34) (v := 100) hx hb hown (hts (.constantLong RX4 88 (100)) (by decide +kernel)) dX4_settleFactors_34 ?_
  refine lv_lload_n (pc := 37) hx hb dX4_settleFactors_37 rfl (lv_at hl 5 rfl) ?_
  refine lv_lsub (pc := 38) hx hb dX4_settleFactors_38 ?_
  refine lv_lmul (pc := 39) hx hb dX4_settleFactors_39 ?_
  refine lv_lload (pc := 40) hx hb dX4_settleFactors_40 (lv_at hl 2 rfl) ?_
  refine lv_lmul (pc := 42) hx hb dX4_settleFactors_42 ?_
  refine lv_lload (pc := 43) hx hb dX4_settleFactors_43 (lv_at hl 2 rfl) ?_
  refine lv_lmul (pc := 45) hx hb dX4_settleFactors_45 ?_
  refine lv_lload (pc := 46) hx hb dX4_settleFactors_46 (lv_at hl 2 rfl) ?_
  refine lv_lmul (pc := 48) hx hb dX4_settleFactors_48 ?_
  refine z_last (wf := WX ad cy) (pc := 49) hx hb hI (xl_34 ad cy u) 2 rfl dX4_settleFactors_49 (fun j => xw_factors ad cy u (vp_updL (xg_factors u) j (((((v3.toInt64) * ((100 : Int64) - a2)) * v1) * v1) * v1))) hf (fun j4 u5 H locs hj4 hI hf => ?_)
  refine lv_aload_n (pc := 50) hx hb dX4_settleFactors_50 rfl (lv_at hl 3 rfl) ?_
  refine z_get (pc := 51) (index := 15) hx hb hts iwX4_settleFactors_4 hown hI (xl_32 ad cy u5) rfl 2 (by decide) (by decide +kernel) rfl rfl dX4_settleFactors_51 ?_
  refine lv_iload (pc := 54) hx hb dX4_settleFactors_54 (lv_at hl 0 rfl) ?_
  refine lv_iconst (pc := 56) (v := 1) hx hb dX4_settleFactors_56 (by decide) ?_
  refine lv_iadd (pc := 57) hx hb dX4_settleFactors_57 ?_
  refine lv_aload (pc := 58) hx hb dX4_settleFactors_58 (lv_at hl 1 rfl) ?_
  refine lv_iconst (pc := 60) (v := 1) hx hb dX4_settleFactors_60 (by decide) ?_
  refine z_iald (pc := 61) hx hb hI (xl_3 ad cy u5) 0 rfl dX4_settleFactors_61 hf (fun v6 hf => ?_)
  refine lv_i2l (pc := 62) hx hb dX4_settleFactors_62 rfl ?_
  refine lv_ldc2 (pc := 63) (v := 100) hx hb hown (hts (.constantLong RX4 88 (100)) (by decide +kernel)) dX4_settleFactors_63 ?_
  refine lv_lload_n (pc := 66) hx hb dX4_settleFactors_66 rfl (lv_at hl 5 rfl) ?_
  refine lv_lsub (pc := 67) hx hb dX4_settleFactors_67 ?_
  refine lv_lmul (pc := 68) hx hb dX4_settleFactors_68 ?_
  refine lv_aload (pc := 69) hx hb dX4_settleFactors_69 (lv_at hl 1 rfl) ?_
  refine lv_iconst (pc := 71) (v := 0) hx hb dX4_settleFactors_71 (by decide) ?_
  refine z_iald (pc := 72) hx hb hI (xl_3 ad cy u5) 0 rfl dX4_settleFactors_72 hf (fun v7 hf => ?_)
  refine lv_i2l (pc := 73) hx hb dX4_settleFactors_73 rfl ?_
  refine lv_lload_n (pc := 74) hx hb dX4_settleFactors_74 rfl (lv_at hl 5 rfl) ?_
  refine lv_lmul (pc := 75) hx hb dX4_settleFactors_75 ?_
  refine lv_ladd (pc := 76) hx hb dX4_settleFactors_76 ?_
  refine lv_lload (pc := 77) hx hb dX4_settleFactors_77 (lv_at hl 2 rfl) ?_
  refine lv_lmul (pc := 79) hx hb dX4_settleFactors_79 ?_
  refine lv_lload (pc := 80) hx hb dX4_settleFactors_80 (lv_at hl 2 rfl) ?_
  refine lv_lmul (pc := 82) hx hb dX4_settleFactors_82 ?_
  refine z_last (wf := WX ad cy) (pc := 83) hx hb hI (xl_34 ad cy u5) 2 rfl dX4_settleFactors_83 (fun j => xw_factors ad cy u5 (vp_updL (xg_factors u5) j (((((v6.toInt64) * ((100 : Int64) - a2)) + ((v7.toInt64) * a2)) * v1) * v1))) hf (fun j8 u9 H locs hj8 hI hf => ?_)
  refine lv_aload_n (pc := 84) hx hb dX4_settleFactors_84 rfl (lv_at hl 3 rfl) ?_
  refine z_get (pc := 85) (index := 15) hx hb hts iwX4_settleFactors_4 hown hI (xl_32 ad cy u9) rfl 2 (by decide) (by decide +kernel) rfl rfl dX4_settleFactors_85 ?_
  refine lv_iload (pc := 88) hx hb dX4_settleFactors_88 (lv_at hl 0 rfl) ?_
  refine lv_iconst (pc := 90) (v := 2) hx hb dX4_settleFactors_90 (by decide) ?_
  refine lv_iadd (pc := 91) hx hb dX4_settleFactors_91 ?_
  refine lv_aload (pc := 92) hx hb dX4_settleFactors_92 (lv_at hl 1 rfl) ?_
  refine lv_iconst (pc := 94) (v := 2) hx hb dX4_settleFactors_94 (by decide) ?_
  refine z_iald (pc := 95) hx hb hI (xl_3 ad cy u9) 0 rfl dX4_settleFactors_95 hf (fun v10 hf => ?_)
  refine lv_i2l (pc := 96) hx hb dX4_settleFactors_96 rfl ?_
  refine lv_ldc2 (pc := 97) (v := 100) hx hb hown (hts (.constantLong RX4 88 (100)) (by decide +kernel)) dX4_settleFactors_97 ?_
  refine lv_lload_n (pc := 100) hx hb dX4_settleFactors_100 rfl (lv_at hl 5 rfl) ?_
  refine lv_lsub (pc := 101) hx hb dX4_settleFactors_101 ?_
  refine lv_lmul (pc := 102) hx hb dX4_settleFactors_102 ?_
  refine lv_aload (pc := 103) hx hb dX4_settleFactors_103 (lv_at hl 1 rfl) ?_
  refine lv_iconst (pc := 105) (v := 1) hx hb dX4_settleFactors_105 (by decide) ?_
  refine z_iald (pc := 106) hx hb hI (xl_3 ad cy u9) 0 rfl dX4_settleFactors_106 hf (fun v11 hf => ?_)
  refine lv_i2l (pc := 107) hx hb dX4_settleFactors_107 rfl ?_
  refine lv_lload_n (pc := 108) hx hb dX4_settleFactors_108 rfl (lv_at hl 5 rfl) ?_
  refine lv_lmul (pc := 109) hx hb dX4_settleFactors_109 ?_
  refine lv_ladd (pc := 110) hx hb dX4_settleFactors_110 ?_
  refine lv_lload (pc := 111) hx hb dX4_settleFactors_111 (lv_at hl 2 rfl) ?_
  refine lv_lmul (pc := 113) hx hb dX4_settleFactors_113 ?_
  refine z_last (wf := WX ad cy) (pc := 114) hx hb hI (xl_34 ad cy u9) 2 rfl dX4_settleFactors_114 (fun j => xw_factors ad cy u9 (vp_updL (xg_factors u9) j ((((v10.toInt64) * ((100 : Int64) - a2)) + ((v11.toInt64) * a2)) * v1))) hf (fun j12 u13 H locs hj12 hI hf => ?_)
  refine lv_aload_n (pc := 115) hx hb dX4_settleFactors_115 rfl (lv_at hl 3 rfl) ?_
  refine z_get (pc := 116) (index := 15) hx hb hts iwX4_settleFactors_4 hown hI (xl_32 ad cy u13) rfl 2 (by decide) (by decide +kernel) rfl rfl dX4_settleFactors_116 ?_
  refine lv_iload (pc := 119) hx hb dX4_settleFactors_119 (lv_at hl 0 rfl) ?_
  refine lv_iconst (pc := 121) (v := 3) hx hb dX4_settleFactors_121 (by decide) ?_
  refine lv_iadd (pc := 122) hx hb dX4_settleFactors_122 ?_
  refine lv_aload (pc := 123) hx hb dX4_settleFactors_123 (lv_at hl 1 rfl) ?_
  refine lv_iconst (pc := 125) (v := 3) hx hb dX4_settleFactors_125 (by decide) ?_
  refine z_iald (pc := 126) hx hb hI (xl_3 ad cy u13) 0 rfl dX4_settleFactors_126 hf (fun v14 hf => ?_)
  refine lv_i2l (pc := 127) hx hb dX4_settleFactors_127 rfl ?_
  refine lv_ldc2 (pc := 128) (v := 100) hx hb hown (hts (.constantLong RX4 88 (100)) (by decide +kernel)) dX4_settleFactors_128 ?_
  refine lv_lmul (pc := 131) hx hb dX4_settleFactors_131 ?_
  refine lv_aload (pc := 132) hx hb dX4_settleFactors_132 (lv_at hl 1 rfl) ?_
  refine lv_iconst (pc := 134) (v := 2) hx hb dX4_settleFactors_134 (by decide) ?_
  refine z_iald (pc := 135) hx hb hI (xl_3 ad cy u13) 0 rfl dX4_settleFactors_135 hf (fun v15 hf => ?_)
  refine lv_i2l (pc := 136) hx hb dX4_settleFactors_136 rfl ?_
  refine lv_lload_n (pc := 137) hx hb dX4_settleFactors_137 rfl (lv_at hl 5 rfl) ?_
  refine lv_lmul (pc := 138) hx hb dX4_settleFactors_138 ?_
  refine lv_ladd (pc := 139) hx hb dX4_settleFactors_139 ?_
  refine z_last (wf := WX ad cy) (pc := 140) hx hb hI (xl_34 ad cy u13) 2 rfl dX4_settleFactors_140 (fun j => xw_factors ad cy u13 (vp_updL (xg_factors u13) j (((v14.toInt64) * (100 : Int64)) + ((v15.toInt64) * a2)))) hf (fun j16 u17 H locs hj16 hI hf => ?_)
  cases hf
  exact z_vret (pc := 141) C0 hI dX4_settleFactors_141
set_option maxHeartbeats 4000000 in
set_option maxRecDepth 100000 in
theorem lX4_settle_2 (C0 : zFix p m c cX4_settle 3 s args wsX4_settle RX4 meth none) {k : Nat} {a : Int32 × CX} {b : CX} (hit : ziter (bX4_settle_2 k) k a = some b) (hx9 : (fun (b : CX) => ∀ (H : Heap) (locs : List Loc) (ls : Array Slot), zIn D ad cy (WX ad cy b) A s H locs → lv_has ls 3 [] → W p l e ({ frames := 1, cells := 0, slots := 0, locals := 27 } : Room) s m args below meth c H locs 0 0 Q (F0 m 52 ls [])) b) : (fun (a : Int32 × CX) => ∀ (H : Heap) (locs : List Loc) (ls : Array Slot), zIn D ad cy (WX ad cy a.2) A s H locs → lv_has ls 3 [(0, .ref (ad 32)), (1, .int a.1)] → W p l e ({ frames := 1, cells := 0, slots := 0, locals := 27 } : Room) s m args below meth c H locs 0 0 Q (F0 m 2 ls [])) a := by
  obtain ⟨hx, hb, hml, hown, hts, hr, hlk⟩ := id C0
  refine zloop (Wh := (fun (a : Int32 × CX) => ∀ (H : Heap) (locs : List Loc) (ls : Array Slot), zIn D ad cy (WX ad cy a.2) A s H locs → lv_has ls 3 [(0, .ref (ad 32)), (1, .int a.1)] → W p l e ({ frames := 1, cells := 0, slots := 0, locals := 27 } : Room) s m args below meth c H locs 0 0 Q (F0 m 2 ls []))) (Wx := (fun (b : CX) => ∀ (H : Heap) (locs : List Loc) (ls : Array Slot), zIn D ad cy (WX ad cy b) A s H locs → lv_has ls 3 [] → W p l e ({ frames := 1, cells := 0, slots := 0, locals := 27 } : Room) s m args below meth c H locs 0 0 Q (F0 m 52 ls []))) ?_ _ a b hit hx9
  intro a x hf hL hX H locs ls hI hl
  unfold bX4_settle_2 at hf
  refine lv_iload_n (pc := 2) hx hb dX4_settle_2 rfl (lv_at hl 1 rfl) ?_
  refine lv_bipush (pc := 3) (v := 16) hx hb dX4_settle_3 (by decide) ?_
  refine z_icmp_ge (pc := 5) (tgt := 52) hx hb dX4_settle_5 (by decide) hf (fun hf => ?_) (fun hf => ?_)
  · exact (hX _ (Option.some.inj hf).symm) _ _ _ hI (lv_sub hl [] rfl)
  refine lv_aload_n (pc := 8) hx hb dX4_settle_8 rfl (lv_at hl 0 rfl) ?_
  refine lv_iload_n (pc := 9) hx hb dX4_settle_9 rfl (lv_at hl 1 rfl) ?_
  obtain ⟨q2, hc1, hf⟩ := zbind hf
  refine zcallVi (pc := 10) (As := [.int a.1]) (rest := []) ⟨hx, hb, hml, hown, hts⟩ (kX4_weightOf l D ad cy k a.1 a.2 q2 hc1) (cwV 1 hts gX4_settle_X4_weightOf rfl rfl rfl (by decide +kernel) ⟨Nat.le_of_ble_eq_true rfl, Nat.le_of_ble_eq_true rfl⟩) hI rfl (xl_32 ad cy a.2) rfl hl.1 rfl (Nat.le_of_ble_eq_true rfl) dX4_settle_10 (Nat.zero_le _) (Nat.zero_le _) (fun H locs hI => ?_)
  refine lv_istore_n (pc := 13) (lv' := [(2, .int q2), (0, .ref (ad 32)), (1, .int a.1)]) hx hb dX4_settle_13 rfl hl (by decide) rfl (fun ls hl => ?_)
  refine lv_aload_n (pc := 14) hx hb dX4_settle_14 rfl (lv_at hl 1 rfl) ?_
  refine z_get (pc := 15) (index := 9) hx hb hts iwX4_settle_4 hown hI (xl_32 ad cy a.2) rfl 1 (by decide) (by decide +kernel) rfl rfl dX4_settle_15 ?_
  refine lv_iload_n (pc := 18) hx hb dX4_settle_18 rfl (lv_at hl 2 rfl) ?_
  refine lv_iload_n (pc := 19) hx hb dX4_settle_19 rfl (lv_at hl 0 rfl) ?_
  refine lv_aload_n (pc := 20) hx hb dX4_settle_20 rfl (lv_at hl 1 rfl) ?_
  refine z_get (pc := 21) (index := 23) hx hb hts iwX4_settle_4 hown hI (xl_32 ad cy a.2) rfl 0 (by decide) (by decide +kernel) rfl rfl dX4_settle_21 ?_
  refine z_get (pc := 24) (index := 34) hx hb hts iwX4_settle_8 hown hI (xl_1 ad cy a.2) rfl 1 (by decide) (by decide +kernel) rfl rfl dX4_settle_24 ?_
  refine lv_bipush (pc := 27) (v := 6) hx hb dX4_settle_27 (by decide) ?_
  refine z_iald (pc := 29) hx hb hI (xl_3 ad cy a.2) 0 rfl dX4_settle_29 hf (fun v3 hf => ?_)
  refine z_icmp_gt (pc := 30) (tgt := 37) hx hb dX4_settle_30 (by decide) hf (fun hf => ?_) (fun hf => ?_)
  · refine lv_iconst (pc := 37) (v := 0) hx hb dX4_settle_37 (by decide) ?_
    refine z_zast (wf := WX ad cy) (pc := 38) hx hb hI (xl_33 ad cy a.2) 3 rfl dX4_settle_38 (fun j => xw_light ad cy a.2 (upd (xg_light a.2) j (vp_nar .boolean (0 : Int32)))) hf (fun j4 u5 H locs hj4 hI hf => ?_)
    refine lv_aload_n (pc := 39) hx hb dX4_settle_39 rfl (lv_at hl 1 rfl) ?_
    refine lv_iload_n (pc := 40) hx hb dX4_settle_40 rfl (lv_at hl 2 rfl) ?_
    refine lv_iload_n (pc := 41) hx hb dX4_settle_41 rfl (lv_at hl 0 rfl) ?_
    refine lv_i2l (pc := 42) hx hb dX4_settle_42 rfl ?_
    obtain ⟨q7, hc6, hf⟩ := zbind hf
    refine zcallVv (pc := 43) (As := [.int a.1, .long (q2.toInt64)]) (rest := []) ⟨hx, hb, hml, hown, hts⟩ (kX4_settleFactors l D ad cy a.1 (q2.toInt64) u5 q7 hc6) (cwV 2 hts gX4_settle_X4_settleFactors rfl rfl rfl (by decide +kernel) ⟨Nat.le_of_ble_eq_true rfl, Nat.le_of_ble_eq_true rfl⟩) hI rfl (xl_32 ad cy u5) rfl hl.1 rfl (Nat.le_of_ble_eq_true rfl) dX4_settle_43 (Nat.zero_le _) (Nat.zero_le _) (fun H locs hI => ?_)
    refine lv_iinc (pc := 46) (v := (a.1 + 1)) (lv' := [(1, .int (a.1 + 1)), (2, .int q2), (0, .ref (ad 32))]) hx hb dX4_settle_46 hl (k := 2) rfl rfl (by decide) rfl (fun ls hl => ?_)
    refine lv_goto (pc := 49) (tgt := 2) hx hb dX4_settle_49 (by decide) ?_
    exact hL _ (Option.some.inj hf).symm _ _ _ hI (lv_sub hl [2, 0] rfl)
  refine lv_iconst (pc := 33) (v := 1) hx hb dX4_settle_33 (by decide) ?_
  refine lv_goto (pc := 34) (tgt := 38) hx hb dX4_settle_34 (by decide) ?_
  refine z_zast (wf := WX ad cy) (pc := 38) hx hb hI (xl_33 ad cy a.2) 3 rfl dX4_settle_38 (fun j => xw_light ad cy a.2 (upd (xg_light a.2) j (vp_nar .boolean (1 : Int32)))) hf (fun j8 u9 H locs hj8 hI hf => ?_)
  refine lv_aload_n (pc := 39) hx hb dX4_settle_39 rfl (lv_at hl 1 rfl) ?_
  refine lv_iload_n (pc := 40) hx hb dX4_settle_40 rfl (lv_at hl 2 rfl) ?_
  refine lv_iload_n (pc := 41) hx hb dX4_settle_41 rfl (lv_at hl 0 rfl) ?_
  refine lv_i2l (pc := 42) hx hb dX4_settle_42 rfl ?_
  obtain ⟨q11, hc10, hf⟩ := zbind hf
  refine zcallVv (pc := 43) (As := [.int a.1, .long (q2.toInt64)]) (rest := []) ⟨hx, hb, hml, hown, hts⟩ (kX4_settleFactors l D ad cy a.1 (q2.toInt64) u9 q11 hc10) (cwV 2 hts gX4_settle_X4_settleFactors rfl rfl rfl (by decide +kernel) ⟨Nat.le_of_ble_eq_true rfl, Nat.le_of_ble_eq_true rfl⟩) hI rfl (xl_32 ad cy u9) rfl hl.1 rfl (Nat.le_of_ble_eq_true rfl) dX4_settle_43 (Nat.zero_le _) (Nat.zero_le _) (fun H locs hI => ?_)
  refine lv_iinc (pc := 46) (v := (a.1 + 1)) (lv' := [(1, .int (a.1 + 1)), (2, .int q2), (0, .ref (ad 32))]) hx hb dX4_settle_46 hl (k := 2) rfl rfl (by decide) rfl (fun ls hl => ?_)
  refine lv_goto (pc := 49) (tgt := 2) hx hb dX4_settle_49 (by decide) ?_
  exact hL _ (Option.some.inj hf).symm _ _ _ hI (lv_sub hl [2, 0] rfl)
set_option maxHeartbeats 4000000 in
set_option maxRecDepth 100000 in
theorem kX4_settle (l : Launch) (D : va_G) (ad : Nat → Nat) (cy : Nat → ClassId) (k : Nat) (u : CX) (u' : CX) (hf : fX4_settle k u = some u') : zCt l yX4_settle wsX4_settle ({ frames := 1, cells := 0, slots := 0, locals := 27 } : Room) D ad cy [.ref (ad 32)] (WX ad cy u) none (WX ad cy u') := by
  refine zCt.of (cc := cX4_settle) (maxL := 3) (ret := none) (own := RX4) (by decide) rfl rfl ?_
  intro p e s m below meth c A C0 hI
  obtain ⟨hx, hb, hml, hown, hts, hr, hlk⟩ := id C0
  refine z_entry (Nat.le_of_ble_eq_true rfl) (fun ls hl => ?_)
  have hl : lv_has ls 3 [(0, .ref (ad 32))] := hl
  unfold fX4_settle at hf
  refine lv_iconst (pc := 0) (v := 0) hx hb dX4_settle_0 (by decide) ?_
  refine lv_istore_n (pc := 1) (lv' := [(1, .int (0 : Int32)), (0, .ref (ad 32))]) hx hb dX4_settle_1 rfl hl (by decide) rfl (fun ls hl => ?_)
  obtain ⟨b12, hb13, hf⟩ := zbind hf
  refine lX4_settle_2 C0 hb13 ?_ _ _ _ hI (lv_sub hl [1, 0] rfl)
  intro H locs ls hI hl
  cases hf
  exact z_vret (pc := 52) C0 hI dX4_settle_52
set_option maxHeartbeats 4000000 in
set_option maxRecDepth 100000 in
theorem lX4_standAll_58 (C0 : zFix p m c cX4_standAll 7 s args wsX4_standAll RX4 meth none) {k : Nat} {p1 : Int32} {p2 : Int32} {p4 : Int32} {p5 : Int32} {a : Int32 × CX} {b : CX} (hit : ziter (bX4_standAll_58 k p1 p2 p4 p5) k a = some b) (hx9 : (fun (b : CX) => ∀ (H : Heap) (locs : List Loc) (ls : Array Slot), zIn D ad cy (WX ad cy b) A s H locs → lv_has ls 7 [(0, .ref (ad 32)), (1, .int p1), (2, .int p2)] → W p l e ({ frames := 2, cells := 0, slots := 0, locals := 45 } : Room) s m args below meth c H locs 0 0 Q (F0 m 91 ls [])) b) : (fun (a : Int32 × CX) => ∀ (H : Heap) (locs : List Loc) (ls : Array Slot), zIn D ad cy (WX ad cy a.2) A s H locs → lv_has ls 7 [(0, .ref (ad 32)), (1, .int p1), (2, .int p2), (4, .int p4), (5, .int p5), (6, .int a.1)] → W p l e ({ frames := 2, cells := 0, slots := 0, locals := 45 } : Room) s m args below meth c H locs 0 0 Q (F0 m 58 ls [])) a := by
  obtain ⟨hx, hb, hml, hown, hts, hr, hlk⟩ := id C0
  refine zloop (Wh := (fun (a : Int32 × CX) => ∀ (H : Heap) (locs : List Loc) (ls : Array Slot), zIn D ad cy (WX ad cy a.2) A s H locs → lv_has ls 7 [(0, .ref (ad 32)), (1, .int p1), (2, .int p2), (4, .int p4), (5, .int p5), (6, .int a.1)] → W p l e ({ frames := 2, cells := 0, slots := 0, locals := 45 } : Room) s m args below meth c H locs 0 0 Q (F0 m 58 ls []))) (Wx := (fun (b : CX) => ∀ (H : Heap) (locs : List Loc) (ls : Array Slot), zIn D ad cy (WX ad cy b) A s H locs → lv_has ls 7 [(0, .ref (ad 32)), (1, .int p1), (2, .int p2)] → W p l e ({ frames := 2, cells := 0, slots := 0, locals := 45 } : Room) s m args below meth c H locs 0 0 Q (F0 m 91 ls []))) ?_ _ a b hit hx9
  intro a x hf hL hX H locs ls hI hl
  unfold bX4_standAll_58 at hf
  refine lv_iload (pc := 58) hx hb dX4_standAll_58 (lv_at hl 5 rfl) ?_
  refine lv_iload (pc := 60) hx hb dX4_standAll_60 (lv_at hl 4 rfl) ?_
  refine z_icmp_ge (pc := 62) (tgt := 91) hx hb dX4_standAll_62 (by decide) hf (fun hf => ?_) (fun hf => ?_)
  · exact (hX _ (Option.some.inj hf).symm) _ _ _ hI (lv_sub hl [0, 1, 2] rfl)
  refine lv_aload_n (pc := 65) hx hb dX4_standAll_65 rfl (lv_at hl 0 rfl) ?_
  refine z_get (pc := 66) (index := 19) hx hb hts iwX4_standAll_4 hown hI (xl_32 ad cy a.2) rfl 3 (by decide) (by decide +kernel) rfl rfl dX4_standAll_66 ?_
  refine lv_iload (pc := 69) hx hb dX4_standAll_69 (lv_at hl 4 rfl) ?_
  refine lv_iload (pc := 71) hx hb dX4_standAll_71 (lv_at hl 5 rfl) ?_
  refine lv_iadd (pc := 73) hx hb dX4_standAll_73 ?_
  refine lv_aload_n (pc := 74) hx hb dX4_standAll_74 rfl (lv_at hl 0 rfl) ?_
  refine z_get (pc := 75) (index := 19) hx hb hts iwX4_standAll_4 hown hI (xl_32 ad cy a.2) rfl 3 (by decide) (by decide +kernel) rfl rfl dX4_standAll_75 ?_
  refine lv_iload (pc := 78) hx hb dX4_standAll_78 (lv_at hl 5 rfl) ?_
  refine z_iald (pc := 80) hx hb hI (xl_35 ad cy a.2) 0 rfl dX4_standAll_80 hf (fun v13 hf => ?_)
  refine lv_iload (pc := 81) hx hb dX4_standAll_81 (lv_at hl 3 rfl) ?_
  refine lv_iadd (pc := 83) hx hb dX4_standAll_83 ?_
  refine z_iast (wf := WX ad cy) (pc := 84) hx hb hI (xl_35 ad cy a.2) 0 rfl dX4_standAll_84 (fun j => xw_stands ad cy a.2 (upd (xg_stands a.2) j (v13 + p4))) hf (fun j14 u15 H locs hj14 hI hf => ?_)
  refine lv_iinc (pc := 85) (v := (a.1 + 1)) (lv' := [(6, .int (a.1 + 1)), (0, .ref (ad 32)), (1, .int p1), (2, .int p2), (4, .int p4), (5, .int p5)]) hx hb dX4_standAll_85 hl (k := 5) rfl rfl (by decide) rfl (fun ls hl => ?_)
  refine lv_goto (pc := 88) (tgt := 58) hx hb dX4_standAll_88 (by decide) ?_
  exact hL _ (Option.some.inj hf).symm _ _ _ hI (lv_sub hl [1, 2, 3, 4, 5, 0] rfl)
set_option maxHeartbeats 4000000 in
set_option maxRecDepth 100000 in
theorem lX4_standAll_16 (C0 : zFix p m c cX4_standAll 7 s args wsX4_standAll RX4 meth none) {k : Nat} {p1 : Int32} {a : Int32 × CX} {b : CX} (hit : ziter (bX4_standAll_16 k p1) k a = some b) (hx9 : (fun (b : CX) => ∀ (H : Heap) (locs : List Loc) (ls : Array Slot), zIn D ad cy (WX ad cy b) A s H locs → lv_has ls 7 [] → W p l e ({ frames := 2, cells := 0, slots := 0, locals := 45 } : Room) s m args below meth c H locs 0 0 Q (F0 m 97 ls [])) b) : (fun (a : Int32 × CX) => ∀ (H : Heap) (locs : List Loc) (ls : Array Slot), zIn D ad cy (WX ad cy a.2) A s H locs → lv_has ls 7 [(0, .ref (ad 32)), (1, .int p1), (2, .int a.1)] → W p l e ({ frames := 2, cells := 0, slots := 0, locals := 45 } : Room) s m args below meth c H locs 0 0 Q (F0 m 16 ls [])) a := by
  obtain ⟨hx, hb, hml, hown, hts, hr, hlk⟩ := id C0
  refine zloop (Wh := (fun (a : Int32 × CX) => ∀ (H : Heap) (locs : List Loc) (ls : Array Slot), zIn D ad cy (WX ad cy a.2) A s H locs → lv_has ls 7 [(0, .ref (ad 32)), (1, .int p1), (2, .int a.1)] → W p l e ({ frames := 2, cells := 0, slots := 0, locals := 45 } : Room) s m args below meth c H locs 0 0 Q (F0 m 16 ls []))) (Wx := (fun (b : CX) => ∀ (H : Heap) (locs : List Loc) (ls : Array Slot), zIn D ad cy (WX ad cy b) A s H locs → lv_has ls 7 [] → W p l e ({ frames := 2, cells := 0, slots := 0, locals := 45 } : Room) s m args below meth c H locs 0 0 Q (F0 m 97 ls []))) ?_ _ a b hit hx9
  intro a x hf hL hX H locs ls hI hl
  unfold bX4_standAll_16 at hf
  refine lv_iload_n (pc := 16) hx hb dX4_standAll_16 rfl (lv_at hl 2 rfl) ?_
  refine lv_iconst (pc := 17) (v := 4) hx hb dX4_standAll_17 (by decide) ?_
  refine z_icmp_ge (pc := 18) (tgt := 97) hx hb dX4_standAll_18 (by decide) hf (fun hf => ?_) (fun hf => ?_)
  · exact (hX _ (Option.some.inj hf).symm) _ _ _ hI (lv_sub hl [] rfl)
  refine lv_iload_n (pc := 21) hx hb dX4_standAll_21 rfl (lv_at hl 1 rfl) ?_
  refine lv_iload_n (pc := 22) hx hb dX4_standAll_22 rfl (lv_at hl 2 rfl) ?_
  obtain ⟨q6, hc5, hf⟩ := zbind hf
  refine zcallSNi (pc := 23) (As := [.int p1, .int a.1]) (rest := []) ⟨hx, hb, hml, hown, hts⟩ (kX9_figure l p1 a.1 q6 hc5) ⟨va_cnB 2 hts gX4_standAll_X9_figure_n46 rfl rfl rfl (hI.2.2.2.2.2.1 _ (List.mem_of_getElem? (i := 6) rfl)) (hts (.initialized RX9) (by decide +kernel)) (by decide +kernel) ⟨Nat.le_of_ble_eq_true rfl, Nat.le_of_ble_eq_true rfl⟩, hts (.static yX9_figure) (by decide +kernel), trivial⟩ rfl hl.1 rfl (Nat.le_of_ble_eq_true rfl) dX4_standAll_23 (Nat.zero_le _) (Nat.zero_le _) ?_
  refine lv_istore_n (pc := 26) (lv' := [(3, .int q6), (0, .ref (ad 32)), (1, .int p1), (2, .int a.1)]) hx hb dX4_standAll_26 rfl hl (by decide) rfl (fun ls hl => ?_)
  refine lv_aload_n (pc := 27) hx hb dX4_standAll_27 rfl (lv_at hl 1 rfl) ?_
  refine z_get (pc := 28) (index := 23) hx hb hts iwX4_standAll_4 hown hI (xl_32 ad cy a.2) rfl 0 (by decide) (by decide +kernel) rfl rfl dX4_standAll_28 ?_
  refine lv_iload_n (pc := 31) hx hb dX4_standAll_31 rfl (lv_at hl 3 rfl) ?_
  refine lv_iload_n (pc := 32) hx hb dX4_standAll_32 rfl (lv_at hl 0 rfl) ?_
  refine lv_iconst (pc := 33) (v := 2) hx hb dX4_standAll_33 (by decide) ?_
  refine z_idiv (pc := 34) hx hb dX4_standAll_34 hf (fun hf => ?_)
  obtain ⟨q8, hc7, hf⟩ := zbind hf
  refine zcallVi (pc := 35) (As := [.int a.1, .int (q6 / (2 : Int32))]) (rest := []) ⟨hx, hb, hml, hown, hts⟩ (kX8_partStand l D ad cy a.1 (q6 / (2 : Int32)) a.2 q8 hc7) (cwV 2 hts gX4_standAll_X8_partStand rfl rfl rfl (by decide +kernel) ⟨Nat.le_of_ble_eq_true rfl, Nat.le_of_ble_eq_true rfl⟩) hI rfl (xl_1 ad cy a.2) rfl hl.1 rfl (Nat.le_of_ble_eq_true rfl) dX4_standAll_35 (Nat.zero_le _) (Nat.zero_le _) (fun H locs hI => ?_)
  refine lv_aload_n (pc := 38) hx hb dX4_standAll_38 rfl (lv_at hl 1 rfl) ?_
  refine z_get (pc := 39) (index := 23) hx hb hts iwX4_standAll_4 hown hI (xl_32 ad cy a.2) rfl 0 (by decide) (by decide +kernel) rfl rfl dX4_standAll_39 ?_
  refine lv_iload_n (pc := 42) hx hb dX4_standAll_42 rfl (lv_at hl 3 rfl) ?_
  refine lv_iload_n (pc := 43) hx hb dX4_standAll_43 rfl (lv_at hl 0 rfl) ?_
  obtain ⟨q10, hc9, hf⟩ := zbind hf
  refine zcallVi (pc := 44) (As := [.int a.1, .int q6]) (rest := [.int q8]) ⟨hx, hb, hml, hown, hts⟩ (kX8_partStand l D ad cy a.1 q6 a.2 q10 hc9) (cwV 2 hts gX4_standAll_X8_partStand rfl rfl rfl (by decide +kernel) ⟨Nat.le_of_ble_eq_true rfl, Nat.le_of_ble_eq_true rfl⟩) hI rfl (xl_1 ad cy a.2) rfl hl.1 rfl (Nat.le_of_ble_eq_true rfl) dX4_standAll_44 (Nat.zero_le _) (Nat.zero_le _) (fun H locs hI => ?_)
  refine lv_isub (pc := 47) hx hb dX4_standAll_47 ?_
  refine z_bi hf (fun v11 hf => ?_)
  refine lv_istore (pc := 48) (lv' := [(4, .int v11), (3, .int q6), (0, .ref (ad 32)), (1, .int p1), (2, .int a.1)]) hx hb dX4_standAll_48 hl (by decide) rfl (fun ls hl => ?_)
  refine lv_iconst (pc := 50) (v := 1) hx hb dX4_standAll_50 (by decide) ?_
  refine lv_iload_n (pc := 51) hx hb dX4_standAll_51 rfl (lv_at hl 4 rfl) ?_
  refine lv_ishl (pc := 52) hx hb dX4_standAll_52 ?_
  refine z_bi hf (fun v12 hf => ?_)
  refine lv_istore (pc := 53) (lv' := [(5, .int v12), (4, .int v11), (3, .int q6), (0, .ref (ad 32)), (1, .int p1), (2, .int a.1)]) hx hb dX4_standAll_53 hl (by decide) rfl (fun ls hl => ?_)
  refine lv_iconst (pc := 55) (v := 0) hx hb dX4_standAll_55 (by decide) ?_
  refine lv_istore (pc := 56) (lv' := [(6, .int (0 : Int32)), (5, .int v12), (4, .int v11), (3, .int q6), (0, .ref (ad 32)), (1, .int p1), (2, .int a.1)]) hx hb dX4_standAll_56 hl (by decide) rfl (fun ls hl => ?_)
  obtain ⟨b16, hb17, hf⟩ := zbind hf
  refine lX4_standAll_58 C0 hb17 ?_ _ _ _ hI (lv_sub hl [4, 5, 6, 2, 1, 0] rfl)
  intro H locs ls hI hl
  refine lv_iinc (pc := 91) (v := (a.1 + 1)) (lv' := [(2, .int (a.1 + 1)), (0, .ref (ad 32)), (1, .int p1)]) hx hb dX4_standAll_91 hl (k := 2) rfl rfl (by decide) rfl (fun ls hl => ?_)
  refine lv_goto (pc := 94) (tgt := 16) hx hb dX4_standAll_94 (by decide) ?_
  exact hL _ (Option.some.inj hf).symm _ _ _ hI (lv_sub hl [1, 2, 0] rfl)
set_option maxHeartbeats 4000000 in
set_option maxRecDepth 100000 in
theorem kX4_standAll (l : Launch) (D : va_G) (ad : Nat → Nat) (cy : Nat → ClassId) (k : Nat) (a1 : Int32) (u : CX) (u' : CX) (hf : fX4_standAll k a1 u = some u') : zCt l yX4_standAll wsX4_standAll ({ frames := 2, cells := 0, slots := 0, locals := 45 } : Room) D ad cy [.ref (ad 32), .int a1] (WX ad cy u) none (WX ad cy u') := by
  refine zCt.of (cc := cX4_standAll) (maxL := 7) (ret := none) (own := RX4) (by decide) rfl rfl ?_
  intro p e s m below meth c A C0 hI
  obtain ⟨hx, hb, hml, hown, hts, hr, hlk⟩ := id C0
  refine z_entry (Nat.le_of_ble_eq_true rfl) (fun ls hl => ?_)
  have hl : lv_has ls 7 [(0, .ref (ad 32)), (1, .int a1)] := hl
  unfold fX4_standAll at hf
  refine lv_aload_n (pc := 0) hx hb dX4_standAll_0 rfl (lv_at hl 0 rfl) ?_
  refine z_get (pc := 1) (index := 19) hx hb hts iwX4_standAll_4 hown hI (xl_32 ad cy u) rfl 3 (by decide) (by decide +kernel) rfl rfl dX4_standAll_1 ?_
  refine lv_iconst (pc := 4) (v := 0) hx hb dX4_standAll_4 (by decide) ?_
  refine lv_aload_n (pc := 5) hx hb dX4_standAll_5 rfl (lv_at hl 0 rfl) ?_
  refine z_get (pc := 6) (index := 23) hx hb hts iwX4_standAll_4 hown hI (xl_32 ad cy u) rfl 0 (by decide) (by decide +kernel) rfl rfl dX4_standAll_6 ?_
  refine lv_iload_n (pc := 9) hx hb dX4_standAll_9 rfl (lv_at hl 1 rfl) ?_
  obtain ⟨q2, hc1, hf⟩ := zbind hf
  refine zcallVi (pc := 10) (As := [.int a1]) (rest := [.int (0 : Int32), .ref (ad 35)]) ⟨hx, hb, hml, hown, hts⟩ (kX8_stand l D ad cy k a1 u q2 hc1) (cwV 1 hts gX4_standAll_X8_stand rfl rfl rfl (by decide +kernel) ⟨Nat.le_of_ble_eq_true rfl, Nat.le_of_ble_eq_true rfl⟩) hI rfl (xl_1 ad cy u) rfl hl.1 rfl (Nat.le_of_ble_eq_true rfl) dX4_standAll_10 (Nat.zero_le _) (Nat.zero_le _) (fun H locs hI => ?_)
  refine z_iast (wf := WX ad cy) (pc := 13) hx hb hI (xl_35 ad cy u) 0 rfl dX4_standAll_13 (fun j => xw_stands ad cy u (upd (xg_stands u) j q2)) hf (fun j3 u4 H locs hj3 hI hf => ?_)
  refine lv_iconst (pc := 14) (v := 0) hx hb dX4_standAll_14 (by decide) ?_
  refine lv_istore_n (pc := 15) (lv' := [(2, .int (0 : Int32)), (0, .ref (ad 32)), (1, .int a1)]) hx hb dX4_standAll_15 rfl hl (by decide) rfl (fun ls hl => ?_)
  obtain ⟨b18, hb19, hf⟩ := zbind hf
  refine lX4_standAll_16 C0 hb19 ?_ _ _ _ hI (lv_sub hl [1, 2, 0] rfl)
  intro H locs ls hI hl
  cases hf
  exact z_vret (pc := 97) C0 hI dX4_standAll_97
set_option maxHeartbeats 4000000 in
set_option maxRecDepth 100000 in
theorem kX4_homesAt (l : Launch) (D : va_G) (ad : Nat → Nat) (cy : Nat → ClassId) (a1 : Int32) (a2 : Int64) (u : CX) (r : Int64) (hf : fX4_homesAt a1 a2 u = some r) : zCt l yX4_homesAt wsX4_homesAt ({ frames := 0, cells := 0, slots := 0, locals := 0 } : Room) D ad cy [.ref (ad 32), .int a1, .long a2] (WX ad cy u) (some (.long r)) (WX ad cy u) := by
  refine zCt.of (cc := cX4_homesAt) (maxL := 5) (ret := (some .long)) (own := RX4) (by decide) rfl rfl ?_
  intro p e s m below meth c A C0 hI
  obtain ⟨hx, hb, hml, hown, hts, hr, hlk⟩ := id C0
  refine z_entry (Nat.le_of_ble_eq_true rfl) (fun ls hl => ?_)
  have hl : lv_has ls 5 [(0, .ref (ad 32)), (1, .int a1), (2, .long a2)] := hl
  unfold fX4_homesAt at hf
  refine lv_iconst (pc := 0) (v := 4) hx hb dX4_homesAt_0 (by decide) ?_
  refine lv_iload_n (pc := 1) hx hb dX4_homesAt_1 rfl (lv_at hl 1 rfl) ?_
  refine lv_imul (pc := 2) hx hb dX4_homesAt_2 ?_
  refine z_bi hf (fun v1 hf => ?_)
  refine lv_istore (pc := 3) (lv' := [(4, .int v1), (0, .ref (ad 32)), (1, .int a1), (2, .long a2)]) hx hb dX4_homesAt_3 hl (by decide) rfl (fun ls hl => ?_)
  refine lv_aload_n (pc := 5) hx hb dX4_homesAt_5 rfl (lv_at hl 1 rfl) ?_
  refine z_get (pc := 6) (index := 15) hx hb hts iwX4_homesAt_4 hown hI (xl_32 ad cy u) rfl 2 (by decide) (by decide +kernel) rfl rfl dX4_homesAt_6 ?_
  refine lv_iload (pc := 9) hx hb dX4_homesAt_9 (lv_at hl 0 rfl) ?_
  refine lv_iconst (pc := 11) (v := 3) hx hb dX4_homesAt_11 (by decide) ?_
  refine lv_iadd (pc := 12) hx hb dX4_homesAt_12 ?_
  refine z_lald (pc := 13) hx hb hI (xl_34 ad cy u) 2 rfl dX4_homesAt_13 hf (fun v2 hf => ?_)
  refine lv_lload_n (pc := 14) hx hb dX4_homesAt_14 rfl (lv_at hl 3 rfl) ?_
  refine lv_lmul (pc := 15) hx hb dX4_homesAt_15 ?_
  refine lv_aload_n (pc := 16) hx hb dX4_homesAt_16 rfl (lv_at hl 1 rfl) ?_
  refine z_get (pc := 17) (index := 15) hx hb hts iwX4_homesAt_4 hown hI (xl_32 ad cy u) rfl 2 (by decide) (by decide +kernel) rfl rfl dX4_homesAt_17 ?_
  refine lv_iload (pc := 20) hx hb dX4_homesAt_20 (lv_at hl 0 rfl) ?_
  refine lv_iconst (pc := 22) (v := 2) hx hb dX4_homesAt_22 (by decide) ?_
  refine lv_iadd (pc := 23) hx hb dX4_homesAt_23 ?_
  refine z_lald (pc := 24) hx hb hI (xl_34 ad cy u) 2 rfl dX4_homesAt_24 hf (fun v3 hf => ?_)
  refine lv_ladd (pc := 25) hx hb dX4_homesAt_25 ?_
  refine lv_lload_n (pc := 26) hx hb dX4_homesAt_26 rfl (lv_at hl 3 rfl) ?_
  refine lv_lmul (pc := 27) hx hb dX4_homesAt_27 ?_
  refine lv_aload_n (pc := 28) hx hb dX4_homesAt_28 rfl (lv_at hl 1 rfl) ?_
  refine z_get (pc := 29) (index := 15) hx hb hts iwX4_homesAt_4 hown hI (xl_32 ad cy u) rfl 2 (by decide) (by decide +kernel) rfl rfl dX4_homesAt_29 ?_
  refine lv_iload (pc := 32) hx hb dX4_homesAt_32 (lv_at hl 0 rfl) ?_
  refine lv_iconst (pc := 34) (v := 1) hx hb dX4_homesAt_34 (by decide) ?_
  refine lv_iadd (pc := 35) hx hb dX4_homesAt_35 ?_
  refine z_lald (pc := 36) hx hb hI (xl_34 ad cy u) 2 rfl dX4_homesAt_36 hf (fun v4 hf => ?_)
  refine lv_ladd (pc := 37) hx hb dX4_homesAt_37 ?_
  refine lv_lload_n (pc := 38) hx hb dX4_homesAt_38 rfl (lv_at hl 3 rfl) ?_
  refine lv_lmul (pc := 39) hx hb dX4_homesAt_39 ?_
  refine lv_aload_n (pc := 40) hx hb dX4_homesAt_40 rfl (lv_at hl 1 rfl) ?_
  refine z_get (pc := 41) (index := 15) hx hb hts iwX4_homesAt_4 hown hI (xl_32 ad cy u) rfl 2 (by decide) (by decide +kernel) rfl rfl dX4_homesAt_41 ?_
  refine lv_iload (pc := 44) hx hb dX4_homesAt_44 (lv_at hl 0 rfl) ?_
  refine z_lald (pc := 46) hx hb hI (xl_34 ad cy u) 2 rfl dX4_homesAt_46 hf (fun v5 hf => ?_)
  refine lv_ladd (pc := 47) hx hb dX4_homesAt_47 ?_
  cases hf
  exact z_lret (pc := 48) C0 hI dX4_homesAt_48
set_option maxHeartbeats 4000000 in
set_option maxRecDepth 100000 in
theorem kX4_homesBy (l : Launch) (D : va_G) (ad : Nat → Nat) (cy : Nat → ClassId) (k : Nat) (a1 : Int32) (a2 : Int32) (u : CX) (r : Int64) (u' : CX) (hf : fX4_homesBy k a1 a2 u = some (r, u')) : zCt l yX4_homesBy wsX4_homesBy ({ frames := 3, cells := 0, slots := 0, locals := 71 } : Room) D ad cy [.ref (ad 32), .int a1, .int a2] (WX ad cy u) (some (.long r)) (WX ad cy u') := by
  refine zCt.of (cc := cX4_homesBy) (maxL := 3) (ret := (some .long)) (own := RX4) (by decide) rfl rfl ?_
  intro p e s m below meth c A C0 hI
  obtain ⟨hx, hb, hml, hown, hts, hr, hlk⟩ := id C0
  refine z_entry (Nat.le_of_ble_eq_true rfl) (fun ls hl => ?_)
  have hl : lv_has ls 3 [(0, .ref (ad 32)), (1, .int a1), (2, .int a2)] := hl
  unfold fX4_homesBy at hf
  refine lv_aload_n (pc := 0) hx hb dX4_homesBy_0 rfl (lv_at hl 0 rfl) ?_
  refine lv_iload_n (pc := 1) hx hb dX4_homesBy_1 rfl (lv_at hl 1 rfl) ?_
  obtain ⟨q2, hc1, hf⟩ := zbind hf
  refine zcallVv (pc := 2) (As := [.int a1]) (rest := []) ⟨hx, hb, hml, hown, hts⟩ (kX4_standAll l D ad cy k a1 u q2 hc1) (cwV 1 hts gX4_homesBy_X4_standAll rfl rfl rfl (by decide +kernel) ⟨Nat.le_of_ble_eq_true rfl, Nat.le_of_ble_eq_true rfl⟩) hI rfl (xl_32 ad cy u) rfl hl.1 rfl (Nat.le_of_ble_eq_true rfl) dX4_homesBy_2 (Nat.zero_le _) (Nat.zero_le _) (fun H locs hI => ?_)
  refine lv_aload_n (pc := 5) hx hb dX4_homesBy_5 rfl (lv_at hl 0 rfl) ?_
  refine lv_iload_n (pc := 6) hx hb dX4_homesBy_6 rfl (lv_at hl 2 rfl) ?_
  refine lv_aload_n (pc := 7) hx hb dX4_homesBy_7 rfl (lv_at hl 0 rfl) ?_
  refine z_get (pc := 8) (index := 19) hx hb hts iwX4_homesBy_4 hown hI (xl_32 ad cy q2) rfl 3 (by decide) (by decide +kernel) rfl rfl dX4_homesBy_8 ?_
  refine lv_iload_n (pc := 11) hx hb dX4_homesBy_11 rfl (lv_at hl 2 rfl) ?_
  refine z_iald (pc := 12) hx hb hI (xl_35 ad cy q2) 0 rfl dX4_homesBy_12 hf (fun v3 hf => ?_)
  refine lv_i2l (pc := 13) hx hb dX4_homesBy_13 rfl ?_
  obtain ⟨q5, hc4, hf⟩ := zbind hf
  refine zcallVl (pc := 14) (As := [.int a2, .long (v3.toInt64)]) (rest := []) ⟨hx, hb, hml, hown, hts⟩ (kX4_homesAt l D ad cy a2 (v3.toInt64) q2 q5 hc4) (cwV 2 hts gX4_homesBy_X4_homesAt rfl rfl rfl (by decide +kernel) ⟨Nat.le_of_ble_eq_true rfl, Nat.le_of_ble_eq_true rfl⟩) hI rfl (xl_32 ad cy q2) rfl hl.1 rfl (Nat.le_of_ble_eq_true rfl) dX4_homesBy_14 (Nat.zero_le _) (Nat.zero_le _) (fun H locs hI => ?_)
  cases hf
  exact z_lret (pc := 17) C0 hI dX4_homesBy_17
set_option maxHeartbeats 4000000 in
set_option maxRecDepth 100000 in
theorem lX4_mostHomes_s_9 (C0 : zFix p m c cX4_mostHomes 8 s args wsX4_mostHomes RX4 meth (some .int)) {k : Nat} {u : CX} {a : Int32 × Int64 × Int32} {b : Int32} (hit : ziter (bX4_mostHomes_s_9 k u) k a = some b) (hx9 : (fun (b : Int32) => ∀ (H : Heap) (locs : List Loc) (ls : Array Slot), zIn D ad cy (WX ad cy u) A s H locs → lv_has ls 8 [(2, .int b)] → W p l e ({ frames := 1, cells := 0, slots := 0, locals := 24 } : Room) s m args below meth c H locs 0 0 Q (F0 m 58 ls [])) b) : (fun (a : Int32 × Int64 × Int32) => ∀ (H : Heap) (locs : List Loc) (ls : Array Slot), zIn D ad cy (WX ad cy u) A s H locs → lv_has ls 8 [(0, .ref (ad 32)), (1, .ref (ad 35)), (2, .int a.1), (3, .long a.2.1), (5, .int a.2.2)] → W p l e ({ frames := 1, cells := 0, slots := 0, locals := 24 } : Room) s m args below meth c H locs 0 0 Q (F0 m 9 ls [])) a := by
  obtain ⟨hx, hb, hml, hown, hts, hr, hlk⟩ := id C0
  refine zloop (Wh := (fun (a : Int32 × Int64 × Int32) => ∀ (H : Heap) (locs : List Loc) (ls : Array Slot), zIn D ad cy (WX ad cy u) A s H locs → lv_has ls 8 [(0, .ref (ad 32)), (1, .ref (ad 35)), (2, .int a.1), (3, .long a.2.1), (5, .int a.2.2)] → W p l e ({ frames := 1, cells := 0, slots := 0, locals := 24 } : Room) s m args below meth c H locs 0 0 Q (F0 m 9 ls []))) (Wx := (fun (b : Int32) => ∀ (H : Heap) (locs : List Loc) (ls : Array Slot), zIn D ad cy (WX ad cy u) A s H locs → lv_has ls 8 [(2, .int b)] → W p l e ({ frames := 1, cells := 0, slots := 0, locals := 24 } : Room) s m args below meth c H locs 0 0 Q (F0 m 58 ls []))) ?_ _ a b hit hx9
  intro a x hf hL hX H locs ls hI hl
  unfold bX4_mostHomes_s_9 at hf
  refine lv_iload (pc := 9) hx hb dX4_mostHomes_9 (lv_at hl 4 rfl) ?_
  refine lv_bipush (pc := 11) (v := 16) hx hb dX4_mostHomes_11 (by decide) ?_
  refine z_icmp_ge (pc := 13) (tgt := 58) hx hb dX4_mostHomes_13 (by decide) hf (fun hf => ?_) (fun hf => ?_)
  · exact (hX _ (Option.some.inj hf).symm) _ _ _ hI (lv_sub hl [2] rfl)
  refine lv_aload_n (pc := 16) hx hb dX4_mostHomes_16 rfl (lv_at hl 0 rfl) ?_
  refine z_get (pc := 17) (index := 9) hx hb hts iwX4_mostHomes_4 hown hI (xl_32 ad cy u) rfl 1 (by decide) (by decide +kernel) rfl rfl dX4_mostHomes_17 ?_
  refine lv_iload (pc := 20) hx hb dX4_mostHomes_20 (lv_at hl 4 rfl) ?_
  refine z_zald (pc := 22) hx hb hI (xl_33 ad cy u) 3 rfl dX4_mostHomes_22 hf (fun v1 hf => ?_)
  refine z_if_eq (pc := 23) (tgt := 52) hx hb dX4_mostHomes_23 (by decide) hf (fun hf => ?_) (fun hf => ?_)
  · refine lv_iinc (pc := 52) (v := (a.2.2 + 1)) (lv' := [(5, .int (a.2.2 + 1)), (0, .ref (ad 32)), (1, .ref (ad 35)), (2, .int a.1), (3, .long a.2.1)]) hx hb dX4_mostHomes_52 hl (k := 4) rfl rfl (by decide) rfl (fun ls hl => ?_)
    refine lv_goto (pc := 55) (tgt := 9) hx hb dX4_mostHomes_55 (by decide) ?_
    exact hL _ (Option.some.inj hf).symm _ _ _ hI (lv_sub hl [1, 2, 3, 4, 0] rfl)
  refine lv_aload_n (pc := 26) hx hb dX4_mostHomes_26 rfl (lv_at hl 0 rfl) ?_
  refine lv_iload (pc := 27) hx hb dX4_mostHomes_27 (lv_at hl 4 rfl) ?_
  refine lv_aload_n (pc := 29) hx hb dX4_mostHomes_29 rfl (lv_at hl 1 rfl) ?_
  refine lv_iload (pc := 30) hx hb dX4_mostHomes_30 (lv_at hl 4 rfl) ?_
  refine z_iald (pc := 32) hx hb hI (xl_35 ad cy u) 0 rfl dX4_mostHomes_32 hf (fun v2 hf => ?_)
  refine lv_i2l (pc := 33) hx hb dX4_mostHomes_33 rfl ?_
  obtain ⟨q4, hc3, hf⟩ := zbind hf
  refine zcallVl (pc := 34) (As := [.int a.2.2, .long (v2.toInt64)]) (rest := []) ⟨hx, hb, hml, hown, hts⟩ (kX4_homesAt l D ad cy a.2.2 (v2.toInt64) u q4 hc3) (cwV 2 hts gX4_mostHomes_X4_homesAt rfl rfl rfl (by decide +kernel) ⟨Nat.le_of_ble_eq_true rfl, Nat.le_of_ble_eq_true rfl⟩) hI rfl (xl_32 ad cy u) rfl hl.1 rfl (Nat.le_of_ble_eq_true rfl) dX4_mostHomes_34 (Nat.zero_le _) (Nat.zero_le _) (fun H locs hI => ?_)
  refine lv_lstore (pc := 37) (lv' := [(6, .long q4), (0, .ref (ad 32)), (1, .ref (ad 35)), (2, .int a.1), (3, .long a.2.1), (5, .int a.2.2)]) hx hb dX4_mostHomes_37 hl (by decide) rfl (fun ls hl => ?_)
  refine lv_lload (pc := 39) hx hb dX4_mostHomes_39 (lv_at hl 0 rfl) ?_
  refine lv_lload_n (pc := 41) hx hb dX4_mostHomes_41 rfl (lv_at hl 4 rfl) ?_
  refine z_lc_le (pc := 42) (tgt := 52) hx hb dX4_mostHomes_42 dX4_mostHomes_43 (by decide) hf (fun hf => ?_) (fun hf => ?_)
  · refine lv_iinc (pc := 52) (v := (a.2.2 + 1)) (lv' := [(5, .int (a.2.2 + 1)), (6, .long q4), (0, .ref (ad 32)), (1, .ref (ad 35)), (2, .int a.1), (3, .long a.2.1)]) hx hb dX4_mostHomes_52 hl (k := 5) rfl rfl (by decide) rfl (fun ls hl => ?_)
    refine lv_goto (pc := 55) (tgt := 9) hx hb dX4_mostHomes_55 (by decide) ?_
    exact hL _ (Option.some.inj hf).symm _ _ _ hI (lv_sub hl [2, 3, 4, 5, 0] rfl)
  refine lv_lload (pc := 46) hx hb dX4_mostHomes_46 (lv_at hl 0 rfl) ?_
  refine lv_lstore_n (pc := 48) (lv' := [(3, .long q4), (6, .long q4), (0, .ref (ad 32)), (1, .ref (ad 35)), (2, .int a.1), (5, .int a.2.2)]) hx hb dX4_mostHomes_48 rfl hl (by decide) rfl (fun ls hl => ?_)
  refine lv_iload (pc := 49) hx hb dX4_mostHomes_49 (lv_at hl 5 rfl) ?_
  refine lv_istore_n (pc := 51) (lv' := [(2, .int a.2.2), (3, .long q4), (6, .long q4), (0, .ref (ad 32)), (1, .ref (ad 35)), (5, .int a.2.2)]) hx hb dX4_mostHomes_51 rfl hl (by decide) rfl (fun ls hl => ?_)
  refine lv_iinc (pc := 52) (v := (a.2.2 + 1)) (lv' := [(5, .int (a.2.2 + 1)), (2, .int a.2.2), (3, .long q4), (6, .long q4), (0, .ref (ad 32)), (1, .ref (ad 35))]) hx hb dX4_mostHomes_52 hl (k := 5) rfl rfl (by decide) rfl (fun ls hl => ?_)
  refine lv_goto (pc := 55) (tgt := 9) hx hb dX4_mostHomes_55 (by decide) ?_
  exact hL _ (Option.some.inj hf).symm _ _ _ hI (lv_sub hl [4, 5, 1, 2, 0] rfl)
set_option maxHeartbeats 4000000 in
set_option maxRecDepth 100000 in
theorem kX4_mostHomes_s (l : Launch) (D : va_G) (ad : Nat → Nat) (cy : Nat → ClassId) (k : Nat) (u : CX) (r : Int32) (hf : fX4_mostHomes_s k u = some r) : zCt l yX4_mostHomes wsX4_mostHomes ({ frames := 1, cells := 0, slots := 0, locals := 24 } : Room) D ad cy [.ref (ad 32), .ref (ad 35)] (WX ad cy u) (some (.int r)) (WX ad cy u) := by
  refine zCt.of (cc := cX4_mostHomes) (maxL := 8) (ret := (some .int)) (own := RX4) (by decide) rfl rfl ?_
  intro p e s m below meth c A C0 hI
  obtain ⟨hx, hb, hml, hown, hts, hr, hlk⟩ := id C0
  refine z_entry (Nat.le_of_ble_eq_true rfl) (fun ls hl => ?_)
  have hl : lv_has ls 8 [(0, .ref (ad 32)), (1, .ref (ad 35))] := hl
  unfold fX4_mostHomes_s at hf
  refine lv_iconst (pc := 0) (v := 0) hx hb dX4_mostHomes_0 (by decide) ?_
  refine lv_istore_n (pc := 1) (lv' := [(2, .int (0 : Int32)), (0, .ref (ad 32)), (1, .ref (ad 35))]) hx hb dX4_mostHomes_1 rfl hl (by decide) rfl (fun ls hl => ?_)
  refine lv_ldc2 (pc := 2) (v := -1) hx hb hown (hts (.constantLong RX4 65 (-1)) (by decide +kernel)) dX4_mostHomes_2 ?_
  refine lv_lstore_n (pc := 5) (lv' := [(3, .long (-1 : Int64)), (2, .int (0 : Int32)), (0, .ref (ad 32)), (1, .ref (ad 35))]) hx hb dX4_mostHomes_5 rfl hl (by decide) rfl (fun ls hl => ?_)
  refine lv_iconst (pc := 6) (v := 0) hx hb dX4_mostHomes_6 (by decide) ?_
  refine lv_istore (pc := 7) (lv' := [(5, .int (0 : Int32)), (3, .long (-1 : Int64)), (2, .int (0 : Int32)), (0, .ref (ad 32)), (1, .ref (ad 35))]) hx hb dX4_mostHomes_7 hl (by decide) rfl (fun ls hl => ?_)
  obtain ⟨b5, hb6, hf⟩ := zbind hf
  refine lX4_mostHomes_s_9 C0 hb6 ?_ _ _ _ hI (lv_sub hl [3, 4, 2, 1, 0] rfl)
  intro H locs ls hI hl
  refine lv_iload_n (pc := 58) hx hb dX4_mostHomes_58 rfl (lv_at hl 0 rfl) ?_
  cases hf
  exact z_iret (pc := 59) C0 hI dX4_mostHomes_59
set_option maxHeartbeats 4000000 in
set_option maxRecDepth 100000 in
theorem lX4_mostHomes_w_9 (C0 : zFix p m c cX4_mostHomes 8 s args wsX4_mostHomes RX4 meth (some .int)) {k : Nat} {u : CX} {a : Int32 × Int64 × Int32} {b : Int32} (hit : ziter (bX4_mostHomes_w_9 k u) k a = some b) (hx9 : (fun (b : Int32) => ∀ (H : Heap) (locs : List Loc) (ls : Array Slot), zIn D ad cy (WX ad cy u) A s H locs → lv_has ls 8 [(2, .int b)] → W p l e ({ frames := 1, cells := 0, slots := 0, locals := 24 } : Room) s m args below meth c H locs 0 0 Q (F0 m 58 ls [])) b) : (fun (a : Int32 × Int64 × Int32) => ∀ (H : Heap) (locs : List Loc) (ls : Array Slot), zIn D ad cy (WX ad cy u) A s H locs → lv_has ls 8 [(0, .ref (ad 32)), (1, .ref (ad 31)), (2, .int a.1), (3, .long a.2.1), (5, .int a.2.2)] → W p l e ({ frames := 1, cells := 0, slots := 0, locals := 24 } : Room) s m args below meth c H locs 0 0 Q (F0 m 9 ls [])) a := by
  obtain ⟨hx, hb, hml, hown, hts, hr, hlk⟩ := id C0
  refine zloop (Wh := (fun (a : Int32 × Int64 × Int32) => ∀ (H : Heap) (locs : List Loc) (ls : Array Slot), zIn D ad cy (WX ad cy u) A s H locs → lv_has ls 8 [(0, .ref (ad 32)), (1, .ref (ad 31)), (2, .int a.1), (3, .long a.2.1), (5, .int a.2.2)] → W p l e ({ frames := 1, cells := 0, slots := 0, locals := 24 } : Room) s m args below meth c H locs 0 0 Q (F0 m 9 ls []))) (Wx := (fun (b : Int32) => ∀ (H : Heap) (locs : List Loc) (ls : Array Slot), zIn D ad cy (WX ad cy u) A s H locs → lv_has ls 8 [(2, .int b)] → W p l e ({ frames := 1, cells := 0, slots := 0, locals := 24 } : Room) s m args below meth c H locs 0 0 Q (F0 m 58 ls []))) ?_ _ a b hit hx9
  intro a x hf hL hX H locs ls hI hl
  unfold bX4_mostHomes_w_9 at hf
  refine lv_iload (pc := 9) hx hb dX4_mostHomes_9 (lv_at hl 4 rfl) ?_
  refine lv_bipush (pc := 11) (v := 16) hx hb dX4_mostHomes_11 (by decide) ?_
  refine z_icmp_ge (pc := 13) (tgt := 58) hx hb dX4_mostHomes_13 (by decide) hf (fun hf => ?_) (fun hf => ?_)
  · exact (hX _ (Option.some.inj hf).symm) _ _ _ hI (lv_sub hl [2] rfl)
  refine lv_aload_n (pc := 16) hx hb dX4_mostHomes_16 rfl (lv_at hl 0 rfl) ?_
  refine z_get (pc := 17) (index := 9) hx hb hts iwX4_mostHomes_4 hown hI (xl_32 ad cy u) rfl 1 (by decide) (by decide +kernel) rfl rfl dX4_mostHomes_17 ?_
  refine lv_iload (pc := 20) hx hb dX4_mostHomes_20 (lv_at hl 4 rfl) ?_
  refine z_zald (pc := 22) hx hb hI (xl_33 ad cy u) 3 rfl dX4_mostHomes_22 hf (fun v1 hf => ?_)
  refine z_if_eq (pc := 23) (tgt := 52) hx hb dX4_mostHomes_23 (by decide) hf (fun hf => ?_) (fun hf => ?_)
  · refine lv_iinc (pc := 52) (v := (a.2.2 + 1)) (lv' := [(5, .int (a.2.2 + 1)), (0, .ref (ad 32)), (1, .ref (ad 31)), (2, .int a.1), (3, .long a.2.1)]) hx hb dX4_mostHomes_52 hl (k := 4) rfl rfl (by decide) rfl (fun ls hl => ?_)
    refine lv_goto (pc := 55) (tgt := 9) hx hb dX4_mostHomes_55 (by decide) ?_
    exact hL _ (Option.some.inj hf).symm _ _ _ hI (lv_sub hl [1, 2, 3, 4, 0] rfl)
  refine lv_aload_n (pc := 26) hx hb dX4_mostHomes_26 rfl (lv_at hl 0 rfl) ?_
  refine lv_iload (pc := 27) hx hb dX4_mostHomes_27 (lv_at hl 4 rfl) ?_
  refine lv_aload_n (pc := 29) hx hb dX4_mostHomes_29 rfl (lv_at hl 1 rfl) ?_
  refine lv_iload (pc := 30) hx hb dX4_mostHomes_30 (lv_at hl 4 rfl) ?_
  refine z_iald (pc := 32) hx hb hI (xl_31 ad cy u) 0 rfl dX4_mostHomes_32 hf (fun v2 hf => ?_)
  refine lv_i2l (pc := 33) hx hb dX4_mostHomes_33 rfl ?_
  obtain ⟨q4, hc3, hf⟩ := zbind hf
  refine zcallVl (pc := 34) (As := [.int a.2.2, .long (v2.toInt64)]) (rest := []) ⟨hx, hb, hml, hown, hts⟩ (kX4_homesAt l D ad cy a.2.2 (v2.toInt64) u q4 hc3) (cwV 2 hts gX4_mostHomes_X4_homesAt rfl rfl rfl (by decide +kernel) ⟨Nat.le_of_ble_eq_true rfl, Nat.le_of_ble_eq_true rfl⟩) hI rfl (xl_32 ad cy u) rfl hl.1 rfl (Nat.le_of_ble_eq_true rfl) dX4_mostHomes_34 (Nat.zero_le _) (Nat.zero_le _) (fun H locs hI => ?_)
  refine lv_lstore (pc := 37) (lv' := [(6, .long q4), (0, .ref (ad 32)), (1, .ref (ad 31)), (2, .int a.1), (3, .long a.2.1), (5, .int a.2.2)]) hx hb dX4_mostHomes_37 hl (by decide) rfl (fun ls hl => ?_)
  refine lv_lload (pc := 39) hx hb dX4_mostHomes_39 (lv_at hl 0 rfl) ?_
  refine lv_lload_n (pc := 41) hx hb dX4_mostHomes_41 rfl (lv_at hl 4 rfl) ?_
  refine z_lc_le (pc := 42) (tgt := 52) hx hb dX4_mostHomes_42 dX4_mostHomes_43 (by decide) hf (fun hf => ?_) (fun hf => ?_)
  · refine lv_iinc (pc := 52) (v := (a.2.2 + 1)) (lv' := [(5, .int (a.2.2 + 1)), (6, .long q4), (0, .ref (ad 32)), (1, .ref (ad 31)), (2, .int a.1), (3, .long a.2.1)]) hx hb dX4_mostHomes_52 hl (k := 5) rfl rfl (by decide) rfl (fun ls hl => ?_)
    refine lv_goto (pc := 55) (tgt := 9) hx hb dX4_mostHomes_55 (by decide) ?_
    exact hL _ (Option.some.inj hf).symm _ _ _ hI (lv_sub hl [2, 3, 4, 5, 0] rfl)
  refine lv_lload (pc := 46) hx hb dX4_mostHomes_46 (lv_at hl 0 rfl) ?_
  refine lv_lstore_n (pc := 48) (lv' := [(3, .long q4), (6, .long q4), (0, .ref (ad 32)), (1, .ref (ad 31)), (2, .int a.1), (5, .int a.2.2)]) hx hb dX4_mostHomes_48 rfl hl (by decide) rfl (fun ls hl => ?_)
  refine lv_iload (pc := 49) hx hb dX4_mostHomes_49 (lv_at hl 5 rfl) ?_
  refine lv_istore_n (pc := 51) (lv' := [(2, .int a.2.2), (3, .long q4), (6, .long q4), (0, .ref (ad 32)), (1, .ref (ad 31)), (5, .int a.2.2)]) hx hb dX4_mostHomes_51 rfl hl (by decide) rfl (fun ls hl => ?_)
  refine lv_iinc (pc := 52) (v := (a.2.2 + 1)) (lv' := [(5, .int (a.2.2 + 1)), (2, .int a.2.2), (3, .long q4), (6, .long q4), (0, .ref (ad 32)), (1, .ref (ad 31))]) hx hb dX4_mostHomes_52 hl (k := 5) rfl rfl (by decide) rfl (fun ls hl => ?_)
  refine lv_goto (pc := 55) (tgt := 9) hx hb dX4_mostHomes_55 (by decide) ?_
  exact hL _ (Option.some.inj hf).symm _ _ _ hI (lv_sub hl [4, 5, 1, 2, 0] rfl)
set_option maxHeartbeats 4000000 in
set_option maxRecDepth 100000 in
theorem kX4_mostHomes_w (l : Launch) (D : va_G) (ad : Nat → Nat) (cy : Nat → ClassId) (k : Nat) (u : CX) (r : Int32) (hf : fX4_mostHomes_w k u = some r) : zCt l yX4_mostHomes wsX4_mostHomes ({ frames := 1, cells := 0, slots := 0, locals := 24 } : Room) D ad cy [.ref (ad 32), .ref (ad 31)] (WX ad cy u) (some (.int r)) (WX ad cy u) := by
  refine zCt.of (cc := cX4_mostHomes) (maxL := 8) (ret := (some .int)) (own := RX4) (by decide) rfl rfl ?_
  intro p e s m below meth c A C0 hI
  obtain ⟨hx, hb, hml, hown, hts, hr, hlk⟩ := id C0
  refine z_entry (Nat.le_of_ble_eq_true rfl) (fun ls hl => ?_)
  have hl : lv_has ls 8 [(0, .ref (ad 32)), (1, .ref (ad 31))] := hl
  unfold fX4_mostHomes_w at hf
  refine lv_iconst (pc := 0) (v := 0) hx hb dX4_mostHomes_0 (by decide) ?_
  refine lv_istore_n (pc := 1) (lv' := [(2, .int (0 : Int32)), (0, .ref (ad 32)), (1, .ref (ad 31))]) hx hb dX4_mostHomes_1 rfl hl (by decide) rfl (fun ls hl => ?_)
  refine lv_ldc2 (pc := 2) (v := -1) hx hb hown (hts (.constantLong RX4 65 (-1)) (by decide +kernel)) dX4_mostHomes_2 ?_
  refine lv_lstore_n (pc := 5) (lv' := [(3, .long (-1 : Int64)), (2, .int (0 : Int32)), (0, .ref (ad 32)), (1, .ref (ad 31))]) hx hb dX4_mostHomes_5 rfl hl (by decide) rfl (fun ls hl => ?_)
  refine lv_iconst (pc := 6) (v := 0) hx hb dX4_mostHomes_6 (by decide) ?_
  refine lv_istore (pc := 7) (lv' := [(5, .int (0 : Int32)), (3, .long (-1 : Int64)), (2, .int (0 : Int32)), (0, .ref (ad 32)), (1, .ref (ad 31))]) hx hb dX4_mostHomes_7 hl (by decide) rfl (fun ls hl => ?_)
  obtain ⟨b5, hb6, hf⟩ := zbind hf
  refine lX4_mostHomes_w_9 C0 hb6 ?_ _ _ _ hI (lv_sub hl [3, 4, 2, 1, 0] rfl)
  intro H locs ls hI hl
  refine lv_iload_n (pc := 58) hx hb dX4_mostHomes_58 rfl (lv_at hl 0 rfl) ?_
  cases hf
  exact z_iret (pc := 59) C0 hI dX4_mostHomes_59
set_option maxHeartbeats 4000000 in
set_option maxRecDepth 100000 in
theorem kX4_bestFor (l : Launch) (D : va_G) (ad : Nat → Nat) (cy : Nat → ClassId) (k : Nat) (a1 : Int32) (u : CX) (r : Int32) (u' : CX) (hf : fX4_bestFor k a1 u = some (r, u')) : zCt l yX4_bestFor wsX4_bestFor ({ frames := 3, cells := 0, slots := 0, locals := 71 } : Room) D ad cy [.ref (ad 32), .int a1] (WX ad cy u) (some (.int r)) (WX ad cy u') := by
  refine zCt.of (cc := cX4_bestFor) (maxL := 2) (ret := (some .int)) (own := RX4) (by decide) rfl rfl ?_
  intro p e s m below meth c A C0 hI
  obtain ⟨hx, hb, hml, hown, hts, hr, hlk⟩ := id C0
  refine z_entry (Nat.le_of_ble_eq_true rfl) (fun ls hl => ?_)
  have hl : lv_has ls 2 [(0, .ref (ad 32)), (1, .int a1)] := hl
  unfold fX4_bestFor at hf
  refine lv_aload_n (pc := 0) hx hb dX4_bestFor_0 rfl (lv_at hl 0 rfl) ?_
  refine lv_iload_n (pc := 1) hx hb dX4_bestFor_1 rfl (lv_at hl 1 rfl) ?_
  obtain ⟨q2, hc1, hf⟩ := zbind hf
  refine zcallVv (pc := 2) (As := [.int a1]) (rest := []) ⟨hx, hb, hml, hown, hts⟩ (kX4_standAll l D ad cy k a1 u q2 hc1) (cwV 1 hts gX4_bestFor_X4_standAll rfl rfl rfl (by decide +kernel) ⟨Nat.le_of_ble_eq_true rfl, Nat.le_of_ble_eq_true rfl⟩) hI rfl (xl_32 ad cy u) rfl hl.1 rfl (Nat.le_of_ble_eq_true rfl) dX4_bestFor_2 (Nat.zero_le _) (Nat.zero_le _) (fun H locs hI => ?_)
  refine lv_aload_n (pc := 5) hx hb dX4_bestFor_5 rfl (lv_at hl 0 rfl) ?_
  refine lv_aload_n (pc := 6) hx hb dX4_bestFor_6 rfl (lv_at hl 0 rfl) ?_
  refine z_get (pc := 7) (index := 19) hx hb hts iwX4_bestFor_4 hown hI (xl_32 ad cy q2) rfl 3 (by decide) (by decide +kernel) rfl rfl dX4_bestFor_7 ?_
  obtain ⟨q4, hc3, hf⟩ := zbind hf
  refine zcallVi (pc := 10) (As := [.ref (ad 35)]) (rest := []) ⟨hx, hb, hml, hown, hts⟩ (kX4_mostHomes_s l D ad cy k q2 q4 hc3) (cwV 1 hts gX4_bestFor_X4_mostHomes rfl rfl rfl (by decide +kernel) ⟨Nat.le_of_ble_eq_true rfl, Nat.le_of_ble_eq_true rfl⟩) hI rfl (xl_32 ad cy q2) rfl hl.1 rfl (Nat.le_of_ble_eq_true rfl) dX4_bestFor_10 (Nat.zero_le _) (Nat.zero_le _) (fun H locs hI => ?_)
  cases hf
  exact z_iret (pc := 13) C0 hI dX4_bestFor_13
set_option maxHeartbeats 4000000 in
set_option maxRecDepth 100000 in
theorem lX4_mostHoles_5 (C0 : zFix p m c cX4_mostHoles 5 s args wsX4_mostHoles RX4 meth (some .int)) {k : Nat} {p2 : Int32} {u : CX} {a : Int32 × Int32} {b : Int32} (hit : ziter (bX4_mostHoles_5 k p2 u) k a = some b) (hx9 : (fun (b : Int32) => ∀ (H : Heap) (locs : List Loc) (ls : Array Slot), zIn D ad cy (WX ad cy u) A s H locs → lv_has ls 5 [(3, .int b)] → W p l e ({ frames := 1, cells := 0, slots := 0, locals := 21 } : Room) s m args below meth c H locs 0 0 Q (F0 m 68 ls [])) b) : (fun (a : Int32 × Int32) => ∀ (H : Heap) (locs : List Loc) (ls : Array Slot), zIn D ad cy (WX ad cy u) A s H locs → lv_has ls 5 [(0, .ref (ad 32)), (1, .ref (ad 12)), (2, .int p2), (3, .int a.1), (4, .int a.2)] → W p l e ({ frames := 1, cells := 0, slots := 0, locals := 21 } : Room) s m args below meth c H locs 0 0 Q (F0 m 5 ls [])) a := by
  obtain ⟨hx, hb, hml, hown, hts, hr, hlk⟩ := id C0
  refine zloop (Wh := (fun (a : Int32 × Int32) => ∀ (H : Heap) (locs : List Loc) (ls : Array Slot), zIn D ad cy (WX ad cy u) A s H locs → lv_has ls 5 [(0, .ref (ad 32)), (1, .ref (ad 12)), (2, .int p2), (3, .int a.1), (4, .int a.2)] → W p l e ({ frames := 1, cells := 0, slots := 0, locals := 21 } : Room) s m args below meth c H locs 0 0 Q (F0 m 5 ls []))) (Wx := (fun (b : Int32) => ∀ (H : Heap) (locs : List Loc) (ls : Array Slot), zIn D ad cy (WX ad cy u) A s H locs → lv_has ls 5 [(3, .int b)] → W p l e ({ frames := 1, cells := 0, slots := 0, locals := 21 } : Room) s m args below meth c H locs 0 0 Q (F0 m 68 ls []))) ?_ _ a b hit hx9
  intro a x hf hL hX H locs ls hI hl
  unfold bX4_mostHoles_5 at hf
  refine lv_iload (pc := 5) hx hb dX4_mostHoles_5 (lv_at hl 4 rfl) ?_
  refine lv_iconst (pc := 7) (v := 4) hx hb dX4_mostHoles_7 (by decide) ?_
  refine z_icmp_ge (pc := 8) (tgt := 68) hx hb dX4_mostHoles_8 (by decide) hf (fun hf => ?_) (fun hf => ?_)
  · exact (hX _ (Option.some.inj hf).symm) _ _ _ hI (lv_sub hl [3] rfl)
  refine lv_iload_n (pc := 11) hx hb dX4_mostHoles_11 rfl (lv_at hl 2 rfl) ?_
  refine lv_iload (pc := 12) hx hb dX4_mostHoles_12 (lv_at hl 4 rfl) ?_
  refine lv_ishr (pc := 14) hx hb dX4_mostHoles_14 ?_
  refine lv_iconst (pc := 15) (v := 1) hx hb dX4_mostHoles_15 (by decide) ?_
  refine lv_iand (pc := 16) hx hb dX4_mostHoles_16 ?_
  refine z_if_ne (pc := 17) (tgt := 62) hx hb dX4_mostHoles_17 (by decide) hf (fun hf => ?_) (fun hf => ?_)
  · refine lv_iinc (pc := 62) (v := (a.2 + 1)) (lv' := [(4, .int (a.2 + 1)), (0, .ref (ad 32)), (1, .ref (ad 12)), (2, .int p2), (3, .int a.1)]) hx hb dX4_mostHoles_62 hl (k := 4) rfl rfl (by decide) rfl (fun ls hl => ?_)
    refine lv_goto (pc := 65) (tgt := 5) hx hb dX4_mostHoles_65 (by decide) ?_
    exact hL _ (Option.some.inj hf).symm _ _ _ hI (lv_sub hl [1, 2, 3, 4, 0] rfl)
  refine lv_iload_n (pc := 20) hx hb dX4_mostHoles_20 rfl (lv_at hl 3 rfl) ?_
  refine z_if_lt (pc := 21) (tgt := 59) hx hb dX4_mostHoles_21 (by decide) hf (fun hf => ?_) (fun hf => ?_)
  · refine lv_iload (pc := 59) hx hb dX4_mostHoles_59 (lv_at hl 4 rfl) ?_
    refine lv_istore_n (pc := 61) (lv' := [(3, .int a.2), (0, .ref (ad 32)), (1, .ref (ad 12)), (2, .int p2), (4, .int a.2)]) hx hb dX4_mostHoles_61 rfl hl (by decide) rfl (fun ls hl => ?_)
    refine lv_iinc (pc := 62) (v := (a.2 + 1)) (lv' := [(4, .int (a.2 + 1)), (3, .int a.2), (0, .ref (ad 32)), (1, .ref (ad 12)), (2, .int p2)]) hx hb dX4_mostHoles_62 hl (k := 4) rfl rfl (by decide) rfl (fun ls hl => ?_)
    refine lv_goto (pc := 65) (tgt := 5) hx hb dX4_mostHoles_65 (by decide) ?_
    exact hL _ (Option.some.inj hf).symm _ _ _ hI (lv_sub hl [2, 3, 4, 1, 0] rfl)
  refine lv_aload_n (pc := 24) hx hb dX4_mostHoles_24 rfl (lv_at hl 1 rfl) ?_
  refine lv_iload (pc := 25) hx hb dX4_mostHoles_25 (lv_at hl 4 rfl) ?_
  obtain ⟨q2, hc1, hf⟩ := zbind hf
  refine zcallVi (pc := 27) (As := [.int a.2]) (rest := []) ⟨hx, hb, hml, hown, hts⟩ (kX3_inPart l D ad cy a.2 u q2 hc1) (cwV 1 hts gX4_mostHoles_X3_inPart rfl rfl rfl (by decide +kernel) ⟨Nat.le_of_ble_eq_true rfl, Nat.le_of_ble_eq_true rfl⟩) hI rfl (xl_12 ad cy u) rfl hl.1 rfl (Nat.le_of_ble_eq_true rfl) dX4_mostHoles_27 (Nat.zero_le _) (Nat.zero_le _) (fun H locs hI => ?_)
  refine lv_aload_n (pc := 30) hx hb dX4_mostHoles_30 rfl (lv_at hl 0 rfl) ?_
  refine z_get (pc := 31) (index := 23) hx hb hts iwX4_mostHoles_4 hown hI (xl_32 ad cy u) rfl 0 (by decide) (by decide +kernel) rfl rfl dX4_mostHoles_31 ?_
  refine z_get (pc := 34) (index := 76) hx hb hts iwX4_mostHoles_8 hown hI (xl_1 ad cy u) rfl 0 (by decide) (by decide +kernel) rfl rfl dX4_mostHoles_34 ?_
  refine lv_iload_n (pc := 37) hx hb dX4_mostHoles_37 rfl (lv_at hl 3 rfl) ?_
  refine z_iald (pc := 38) hx hb hI (xl_2 ad cy u) 0 rfl dX4_mostHoles_38 hf (fun v3 hf => ?_)
  refine lv_imul (pc := 39) hx hb dX4_mostHoles_39 ?_
  refine lv_aload_n (pc := 40) hx hb dX4_mostHoles_40 rfl (lv_at hl 1 rfl) ?_
  refine lv_iload_n (pc := 41) hx hb dX4_mostHoles_41 rfl (lv_at hl 3 rfl) ?_
  obtain ⟨q5, hc4, hf⟩ := zbind hf
  refine zcallVi (pc := 42) (As := [.int a.1]) (rest := [.int (q2 * v3)]) ⟨hx, hb, hml, hown, hts⟩ (kX3_inPart l D ad cy a.1 u q5 hc4) (cwV 1 hts gX4_mostHoles_X3_inPart rfl rfl rfl (by decide +kernel) ⟨Nat.le_of_ble_eq_true rfl, Nat.le_of_ble_eq_true rfl⟩) hI rfl (xl_12 ad cy u) rfl hl.1 rfl (Nat.le_of_ble_eq_true rfl) dX4_mostHoles_42 (Nat.zero_le _) (Nat.zero_le _) (fun H locs hI => ?_)
  refine lv_aload_n (pc := 45) hx hb dX4_mostHoles_45 rfl (lv_at hl 0 rfl) ?_
  refine z_get (pc := 46) (index := 23) hx hb hts iwX4_mostHoles_4 hown hI (xl_32 ad cy u) rfl 0 (by decide) (by decide +kernel) rfl rfl dX4_mostHoles_46 ?_
  refine z_get (pc := 49) (index := 76) hx hb hts iwX4_mostHoles_8 hown hI (xl_1 ad cy u) rfl 0 (by decide) (by decide +kernel) rfl rfl dX4_mostHoles_49 ?_
  refine lv_iload (pc := 52) hx hb dX4_mostHoles_52 (lv_at hl 4 rfl) ?_
  refine z_iald (pc := 54) hx hb hI (xl_2 ad cy u) 0 rfl dX4_mostHoles_54 hf (fun v6 hf => ?_)
  refine lv_imul (pc := 55) hx hb dX4_mostHoles_55 ?_
  refine z_icmp_le (pc := 56) (tgt := 62) hx hb dX4_mostHoles_56 (by decide) hf (fun hf => ?_) (fun hf => ?_)
  · refine lv_iinc (pc := 62) (v := (a.2 + 1)) (lv' := [(4, .int (a.2 + 1)), (0, .ref (ad 32)), (1, .ref (ad 12)), (2, .int p2), (3, .int a.1)]) hx hb dX4_mostHoles_62 hl (k := 4) rfl rfl (by decide) rfl (fun ls hl => ?_)
    refine lv_goto (pc := 65) (tgt := 5) hx hb dX4_mostHoles_65 (by decide) ?_
    exact hL _ (Option.some.inj hf).symm _ _ _ hI (lv_sub hl [1, 2, 3, 4, 0] rfl)
  refine lv_iload (pc := 59) hx hb dX4_mostHoles_59 (lv_at hl 4 rfl) ?_
  refine lv_istore_n (pc := 61) (lv' := [(3, .int a.2), (0, .ref (ad 32)), (1, .ref (ad 12)), (2, .int p2), (4, .int a.2)]) hx hb dX4_mostHoles_61 rfl hl (by decide) rfl (fun ls hl => ?_)
  refine lv_iinc (pc := 62) (v := (a.2 + 1)) (lv' := [(4, .int (a.2 + 1)), (3, .int a.2), (0, .ref (ad 32)), (1, .ref (ad 12)), (2, .int p2)]) hx hb dX4_mostHoles_62 hl (k := 4) rfl rfl (by decide) rfl (fun ls hl => ?_)
  refine lv_goto (pc := 65) (tgt := 5) hx hb dX4_mostHoles_65 (by decide) ?_
  exact hL _ (Option.some.inj hf).symm _ _ _ hI (lv_sub hl [2, 3, 4, 1, 0] rfl)
set_option maxHeartbeats 4000000 in
set_option maxRecDepth 100000 in
theorem kX4_mostHoles (l : Launch) (D : va_G) (ad : Nat → Nat) (cy : Nat → ClassId) (k : Nat) (a2 : Int32) (u : CX) (r : Int32) (hf : fX4_mostHoles k a2 u = some r) : zCt l yX4_mostHoles wsX4_mostHoles ({ frames := 1, cells := 0, slots := 0, locals := 21 } : Room) D ad cy [.ref (ad 32), .ref (ad 12), .int a2] (WX ad cy u) (some (.int r)) (WX ad cy u) := by
  refine zCt.of (cc := cX4_mostHoles) (maxL := 5) (ret := (some .int)) (own := RX4) (by decide) rfl rfl ?_
  intro p e s m below meth c A C0 hI
  obtain ⟨hx, hb, hml, hown, hts, hr, hlk⟩ := id C0
  refine z_entry (Nat.le_of_ble_eq_true rfl) (fun ls hl => ?_)
  have hl : lv_has ls 5 [(0, .ref (ad 32)), (1, .ref (ad 12)), (2, .int a2)] := hl
  unfold fX4_mostHoles at hf
  refine lv_iconst (pc := 0) (v := -1) hx hb dX4_mostHoles_0 (by decide) ?_
  refine lv_istore_n (pc := 1) (lv' := [(3, .int (-1 : Int32)), (0, .ref (ad 32)), (1, .ref (ad 12)), (2, .int a2)]) hx hb dX4_mostHoles_1 rfl hl (by decide) rfl (fun ls hl => ?_)
  refine lv_iconst (pc := 2) (v := 0) hx hb dX4_mostHoles_2 (by decide) ?_
  refine lv_istore (pc := 3) (lv' := [(4, .int (0 : Int32)), (3, .int (-1 : Int32)), (0, .ref (ad 32)), (1, .ref (ad 12)), (2, .int a2)]) hx hb dX4_mostHoles_3 hl (by decide) rfl (fun ls hl => ?_)
  obtain ⟨b7, hb8, hf⟩ := zbind hf
  refine lX4_mostHoles_5 C0 hb8 ?_ _ _ _ hI (lv_sub hl [2, 3, 4, 1, 0] rfl)
  intro H locs ls hI hl
  refine lv_iload_n (pc := 68) hx hb dX4_mostHoles_68 rfl (lv_at hl 0 rfl) ?_
  refine lv_iconst (pc := 69) (v := 0) hx hb dX4_mostHoles_69 (by decide) ?_
  refine z_mmax (pc := 70) hx hb (hml.trans hl.1.symm) hown (hts (.methodLink RX4 79 Lib.Math.max.name) (by decide +kernel)) (hts (.static Lib.Math.max.name) (by decide +kernel)) (hts (.initialized "java/lang/Math") (by decide +kernel)) (hts (.code Lib.Math.max.name Lib.Math.max.code 2 (some .int)) (by decide +kernel)) (Nat.le_of_ble_eq_true rfl) (Nat.le_of_ble_eq_true rfl) (Nat.zero_le _) (Nat.zero_le _) dX4_mostHoles_70 ?_
  cases hf
  exact z_iret (pc := 73) C0 hI dX4_mostHoles_73
set_option maxHeartbeats 4000000 in
set_option maxRecDepth 100000 in
theorem lX4_drawnFrom_7 (C0 : zFix p m c cX4_drawnFrom 6 s args wsX4_drawnFrom RX4 meth (some .int)) {k : Nat} {u : CX} {a : Int32 × Int32 × Int32} {b : Int32} (hit : ziter (bX4_drawnFrom_7 k u) k a = some b) (hx9 : (fun (b : Int32) => ∀ (H : Heap) (locs : List Loc) (ls : Array Slot), zIn D ad cy (WX ad cy u) A s H locs → lv_has ls 6 [(3, .int b)] → W p l e ({ frames := 2, cells := 0, slots := 0, locals := 45 } : Room) s m args below meth c H locs 0 0 Q (F0 m 55 ls [])) b) : (fun (a : Int32 × Int32 × Int32) => ∀ (H : Heap) (locs : List Loc) (ls : Array Slot), zIn D ad cy (WX ad cy u) A s H locs → lv_has ls 6 [(0, .ref (ad 32)), (1, .ref (ad 12)), (2, .int a.1), (3, .int a.2.1), (4, .int a.2.2)] → W p l e ({ frames := 2, cells := 0, slots := 0, locals := 45 } : Room) s m args below meth c H locs 0 0 Q (F0 m 7 ls [])) a := by
  obtain ⟨hx, hb, hml, hown, hts, hr, hlk⟩ := id C0
  refine zloop (Wh := (fun (a : Int32 × Int32 × Int32) => ∀ (H : Heap) (locs : List Loc) (ls : Array Slot), zIn D ad cy (WX ad cy u) A s H locs → lv_has ls 6 [(0, .ref (ad 32)), (1, .ref (ad 12)), (2, .int a.1), (3, .int a.2.1), (4, .int a.2.2)] → W p l e ({ frames := 2, cells := 0, slots := 0, locals := 45 } : Room) s m args below meth c H locs 0 0 Q (F0 m 7 ls []))) (Wx := (fun (b : Int32) => ∀ (H : Heap) (locs : List Loc) (ls : Array Slot), zIn D ad cy (WX ad cy u) A s H locs → lv_has ls 6 [(3, .int b)] → W p l e ({ frames := 2, cells := 0, slots := 0, locals := 45 } : Room) s m args below meth c H locs 0 0 Q (F0 m 55 ls []))) ?_ _ a b hit hx9
  intro a x hf hL hX H locs ls hI hl
  unfold bX4_drawnFrom_7 at hf
  refine lv_iload (pc := 7) hx hb dX4_drawnFrom_7 (lv_at hl 4 rfl) ?_
  refine lv_iconst (pc := 9) (v := 4) hx hb dX4_drawnFrom_9 (by decide) ?_
  refine z_icmp_ge (pc := 10) (tgt := 55) hx hb dX4_drawnFrom_10 (by decide) hf (fun hf => ?_) (fun hf => ?_)
  · exact (hX _ (Option.some.inj hf).symm) _ _ _ hI (lv_sub hl [3] rfl)
  refine lv_aload_n (pc := 13) hx hb dX4_drawnFrom_13 rfl (lv_at hl 0 rfl) ?_
  refine lv_aload_n (pc := 14) hx hb dX4_drawnFrom_14 rfl (lv_at hl 1 rfl) ?_
  refine lv_iload_n (pc := 15) hx hb dX4_drawnFrom_15 rfl (lv_at hl 2 rfl) ?_
  obtain ⟨q2, hc1, hf⟩ := zbind hf
  refine zcallVi (pc := 16) (As := [.ref (ad 12), .int a.1]) (rest := []) ⟨hx, hb, hml, hown, hts⟩ (kX4_mostHoles l D ad cy k a.1 u q2 hc1) (cwV 2 hts gX4_drawnFrom_X4_mostHoles rfl rfl rfl (by decide +kernel) ⟨Nat.le_of_ble_eq_true rfl, Nat.le_of_ble_eq_true rfl⟩) hI rfl (xl_32 ad cy u) rfl hl.1 rfl (Nat.le_of_ble_eq_true rfl) dX4_drawnFrom_16 (Nat.zero_le _) (Nat.zero_le _) (fun H locs hI => ?_)
  refine lv_istore (pc := 19) (lv' := [(5, .int q2), (0, .ref (ad 32)), (1, .ref (ad 12)), (2, .int a.1), (3, .int a.2.1), (4, .int a.2.2)]) hx hb dX4_drawnFrom_19 hl (by decide) rfl (fun ls hl => ?_)
  refine lv_iload_n (pc := 21) hx hb dX4_drawnFrom_21 rfl (lv_at hl 3 rfl) ?_
  refine lv_iconst (pc := 22) (v := 1) hx hb dX4_drawnFrom_22 (by decide) ?_
  refine lv_iload (pc := 23) hx hb dX4_drawnFrom_23 (lv_at hl 0 rfl) ?_
  refine lv_ishl (pc := 25) hx hb dX4_drawnFrom_25 ?_
  refine lv_ior (pc := 26) hx hb dX4_drawnFrom_26 ?_
  refine z_bi hf (fun v3 hf => ?_)
  refine lv_istore_n (pc := 27) (lv' := [(2, .int v3), (5, .int q2), (0, .ref (ad 32)), (1, .ref (ad 12)), (3, .int a.2.1), (4, .int a.2.2)]) hx hb dX4_drawnFrom_27 rfl hl (by decide) rfl (fun ls hl => ?_)
  refine lv_aload_n (pc := 28) hx hb dX4_drawnFrom_28 rfl (lv_at hl 2 rfl) ?_
  refine z_get (pc := 29) (index := 9) hx hb hts iwX4_drawnFrom_4 hown hI (xl_32 ad cy u) rfl 1 (by decide) (by decide +kernel) rfl rfl dX4_drawnFrom_29 ?_
  refine lv_iload_n (pc := 32) hx hb dX4_drawnFrom_32 rfl (lv_at hl 4 rfl) ?_
  refine lv_iconst (pc := 33) (v := 1) hx hb dX4_drawnFrom_33 (by decide) ?_
  refine lv_iload (pc := 34) hx hb dX4_drawnFrom_34 (lv_at hl 1 rfl) ?_
  refine lv_ishl (pc := 36) hx hb dX4_drawnFrom_36 ?_
  refine lv_ior (pc := 37) hx hb dX4_drawnFrom_37 ?_
  refine z_zald (pc := 38) hx hb hI (xl_33 ad cy u) 3 rfl dX4_drawnFrom_38 hf (fun v4 hf => ?_)
  refine z_if_eq (pc := 39) (tgt := 49) hx hb dX4_drawnFrom_39 (by decide) hf (fun hf => ?_) (fun hf => ?_)
  · refine lv_iinc (pc := 49) (v := (a.2.2 + 1)) (lv' := [(4, .int (a.2.2 + 1)), (2, .int v3), (5, .int q2), (0, .ref (ad 32)), (1, .ref (ad 12)), (3, .int a.2.1)]) hx hb dX4_drawnFrom_49 hl (k := 5) rfl rfl (by decide) rfl (fun ls hl => ?_)
    refine lv_goto (pc := 52) (tgt := 7) hx hb dX4_drawnFrom_52 (by decide) ?_
    exact hL _ (Option.some.inj hf).symm _ _ _ hI (lv_sub hl [3, 4, 1, 5, 0] rfl)
  refine lv_iload_n (pc := 42) hx hb dX4_drawnFrom_42 rfl (lv_at hl 4 rfl) ?_
  refine lv_iconst (pc := 43) (v := 1) hx hb dX4_drawnFrom_43 (by decide) ?_
  refine lv_iload (pc := 44) hx hb dX4_drawnFrom_44 (lv_at hl 1 rfl) ?_
  refine lv_ishl (pc := 46) hx hb dX4_drawnFrom_46 ?_
  refine lv_ior (pc := 47) hx hb dX4_drawnFrom_47 ?_
  refine z_bi hf (fun v5 hf => ?_)
  refine lv_istore_n (pc := 48) (lv' := [(3, .int v5), (2, .int v3), (5, .int q2), (0, .ref (ad 32)), (1, .ref (ad 12)), (4, .int a.2.2)]) hx hb dX4_drawnFrom_48 rfl hl (by decide) rfl (fun ls hl => ?_)
  refine lv_iinc (pc := 49) (v := (a.2.2 + 1)) (lv' := [(4, .int (a.2.2 + 1)), (3, .int v5), (2, .int v3), (5, .int q2), (0, .ref (ad 32)), (1, .ref (ad 12))]) hx hb dX4_drawnFrom_49 hl (k := 5) rfl rfl (by decide) rfl (fun ls hl => ?_)
  refine lv_goto (pc := 52) (tgt := 7) hx hb dX4_drawnFrom_52 (by decide) ?_
  exact hL _ (Option.some.inj hf).symm _ _ _ hI (lv_sub hl [4, 5, 2, 1, 0] rfl)
set_option maxHeartbeats 4000000 in
set_option maxRecDepth 100000 in
theorem kX4_drawnFrom (l : Launch) (D : va_G) (ad : Nat → Nat) (cy : Nat → ClassId) (k : Nat) (u : CX) (r : Int32) (hf : fX4_drawnFrom k u = some r) : zCt l yX4_drawnFrom wsX4_drawnFrom ({ frames := 2, cells := 0, slots := 0, locals := 45 } : Room) D ad cy [.ref (ad 32), .ref (ad 12)] (WX ad cy u) (some (.int r)) (WX ad cy u) := by
  refine zCt.of (cc := cX4_drawnFrom) (maxL := 6) (ret := (some .int)) (own := RX4) (by decide) rfl rfl ?_
  intro p e s m below meth c A C0 hI
  obtain ⟨hx, hb, hml, hown, hts, hr, hlk⟩ := id C0
  refine z_entry (Nat.le_of_ble_eq_true rfl) (fun ls hl => ?_)
  have hl : lv_has ls 6 [(0, .ref (ad 32)), (1, .ref (ad 12))] := hl
  unfold fX4_drawnFrom at hf
  refine lv_iconst (pc := 0) (v := 0) hx hb dX4_drawnFrom_0 (by decide) ?_
  refine lv_istore_n (pc := 1) (lv' := [(2, .int (0 : Int32)), (0, .ref (ad 32)), (1, .ref (ad 12))]) hx hb dX4_drawnFrom_1 rfl hl (by decide) rfl (fun ls hl => ?_)
  refine lv_iconst (pc := 2) (v := 0) hx hb dX4_drawnFrom_2 (by decide) ?_
  refine lv_istore_n (pc := 3) (lv' := [(3, .int (0 : Int32)), (2, .int (0 : Int32)), (0, .ref (ad 32)), (1, .ref (ad 12))]) hx hb dX4_drawnFrom_3 rfl hl (by decide) rfl (fun ls hl => ?_)
  refine lv_iconst (pc := 4) (v := 0) hx hb dX4_drawnFrom_4 (by decide) ?_
  refine lv_istore (pc := 5) (lv' := [(4, .int (0 : Int32)), (3, .int (0 : Int32)), (2, .int (0 : Int32)), (0, .ref (ad 32)), (1, .ref (ad 12))]) hx hb dX4_drawnFrom_5 hl (by decide) rfl (fun ls hl => ?_)
  obtain ⟨b6, hb7, hf⟩ := zbind hf
  refine lX4_drawnFrom_7 C0 hb7 ?_ _ _ _ hI (lv_sub hl [3, 4, 2, 1, 0] rfl)
  intro H locs ls hI hl
  refine lv_iload_n (pc := 55) hx hb dX4_drawnFrom_55 rfl (lv_at hl 0 rfl) ?_
  cases hf
  exact z_iret (pc := 56) C0 hI dX4_drawnFrom_56
end
