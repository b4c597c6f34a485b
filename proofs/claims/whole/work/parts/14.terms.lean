theorem iwX8_standAsUntold_8 : ∀ w ∈ wsX80, w ∈ wsX8_standAsUntold := by decide +kernel
def bX8_standAsUntold_2 (k : Nat) (a : Int32 × CX) : Option ((Int32 × CX) ⊕ (CX)) :=
  if (4 : Int32) ≤ a.1 then
    some (.inr a.2)
  else
  zix 12 a.1 (fun j1 => zb (xs_Tparts a.2 (upd (xg_Tparts a.2) j1 (10 : Int32))) (fun u2 =>
  zix 12 ((4 : Int32) + a.1) (fun j3 => zb (xs_Tparts u2 (upd (xg_Tparts u2) j3 (2 : Int32))) (fun u4 =>
  zix 12 ((8 : Int32) + a.1) (fun j5 => zb (xs_Tparts u4 (upd (xg_Tparts u4) j5 (5 : Int32))) (fun u6 =>
  zix 7 a.1 (fun j7 => zb (xs_Trules u6 (upd (xg_Trules u6) j7 (1 : Int32))) (fun u8 =>
  some (.inl ((a.1 + 1), u8))))))))))
def fX8_standAsUntold (k : Nat) (u : CX) : Option (CX) :=
  (ziter (bX8_standAsUntold_2 k) k ((0 : Int32), u)).bind (fun b9 =>
    zix 7 (4 : Int32) (fun j11 => zb (xs_Trules b9 (upd (xg_Trules b9) j11 (0 : Int32))) (fun u12 =>
    zix 7 (5 : Int32) (fun j13 => zb (xs_Trules u12 (upd (xg_Trules u12) j13 (5 : Int32))) (fun u14 =>
    zix 7 (6 : Int32) (fun j15 => zb (xs_Trules u14 (upd (xg_Trules u14) j15 (10 : Int32))) (fun u16 =>
    some u16)))))))
def bX8_standAsUntold_d_2 (k : Nat) (a : Int32 × CX) : Option ((Int32 × CX) ⊕ (CX)) :=
  if (4 : Int32) ≤ a.1 then
    some (.inr a.2)
  else
  zix 12 a.1 (fun j1 => zb (xs_Dparts a.2 (upd (xg_Dparts a.2) j1 (10 : Int32))) (fun u2 =>
  zix 12 ((4 : Int32) + a.1) (fun j3 => zb (xs_Dparts u2 (upd (xg_Dparts u2) j3 (2 : Int32))) (fun u4 =>
  zix 12 ((8 : Int32) + a.1) (fun j5 => zb (xs_Dparts u4 (upd (xg_Dparts u4) j5 (5 : Int32))) (fun u6 =>
  zix 7 a.1 (fun j7 => zb (xs_Drules u6 (upd (xg_Drules u6) j7 (1 : Int32))) (fun u8 =>
  some (.inl ((a.1 + 1), u8))))))))))
def fX8_standAsUntold_d (k : Nat) (u : CX) : Option (CX) :=
  (ziter (bX8_standAsUntold_d_2 k) k ((0 : Int32), u)).bind (fun b9 =>
    zix 7 (4 : Int32) (fun j11 => zb (xs_Drules b9 (upd (xg_Drules b9) j11 (0 : Int32))) (fun u12 =>
    zix 7 (5 : Int32) (fun j13 => zb (xs_Drules u12 (upd (xg_Drules u12) j13 (5 : Int32))) (fun u14 =>
    zix 7 (6 : Int32) (fun j15 => zb (xs_Drules u14 (upd (xg_Drules u14) j15 (10 : Int32))) (fun u16 =>
    some u16)))))))
theorem iwX8_settle_8 : ∀ w ∈ wsX80, w ∈ wsX8_settle := by decide +kernel
def bX8_settle_12 (k : Nat) (a : Int32 × CX) : Option ((Int32 × CX) ⊕ (CX)) :=
  if (4 : Int32) ≤ a.1 then
    some (.inr a.2)
  else
  zget 12 (xg_Tparts a.2) a.1 (fun v3 =>
  zb (xs_TallAreas a.2 ((xg_TallAreas a.2) + v3)) (fun u4 =>
  zget 7 (xg_Trules u4) a.1 (fun v5 =>
  zb (xs_TallHits u4 ((xg_TallHits u4) + v5)) (fun u6 =>
  some (.inl ((a.1 + 1), u6))))))
def fX8_settle (k : Nat) (u : CX) : Option (CX) :=
  zb (xs_TallAreas u (0 : Int32)) (fun u1 =>
  zb (xs_TallHits u1 (0 : Int32)) (fun u2 =>
  (ziter (bX8_settle_12 k) k ((0 : Int32), u2)).bind (fun b7 =>
    zb (xs_Tscale b7 ((10 : Int64) * ((xg_TallAreas b7).toInt64))) (fun u9 =>
    zb (xs_Tbottom u9 ((((((xg_TallHits u9).toInt64) * (xg_Tscale u9)) * (xg_Tscale u9)) * (xg_Tscale u9)) * (1000 : Int64))) (fun u10 =>
    some u10)))))
theorem iwX8_take_8 : ∀ w ∈ wsX80, w ∈ wsX8_take := by decide +kernel
def fX8_take (k : Nat) (u : CX) : Option (CX) :=
  zb (xs_Tparts u (zcpy (xg_Dparts u) (xg_Tparts u) 12)) (fun u1 =>
  zb (xs_Trules u1 (zcpy (xg_Drules u1) (xg_Trules u1) 7)) (fun u2 =>
  (fX8_settle k u2).bind (fun q4 =>
  some q4)))
theorem iwX8_notOther_8 : ∀ w ∈ wsX80, w ∈ wsX8_notOther := by decide +kernel
def fX8_notOther (u : CX) : Option (Int64) :=
  zget 7 (xg_Trules u) (4 : Int32) (fun v1 =>
  some (((1000 : Int32) - v1).toInt64))
theorem iwX8_partStand_8 : ∀ w ∈ wsX80, w ∈ wsX8_partStand := by decide +kernel
def fX8_partStand (a1 : Int32) (a2 : Int32) (u : CX) : Option (Int32) :=
  zget 12 (xg_Tparts u) a1 (fun v1 =>
  some (v1 * ((10 : Int32) - a2)))
def bX8_stand_4 (k : Nat) (p1 : Int32) (u : CX) (a : Int32 × Int32) : Option ((Int32 × Int32) ⊕ (Int32)) :=
  if (4 : Int32) ≤ a.2 then
    some (.inr a.1)
  else
  (fX9_figure p1 a.2).bind (fun q2 =>
  (fX8_partStand a.2 q2 u).bind (fun q4 =>
  zb (a.1 + q4) (fun v5 =>
  some (.inl (v5, (a.2 + 1))))))
def fX8_stand (k : Nat) (a1 : Int32) (u : CX) : Option (Int32) :=
  (ziter (bX8_stand_4 k a1 u) k ((0 : Int32), (0 : Int32))).bind (fun b6 =>
    some b6)
theorem iwX8_homesTop_8 : ∀ w ∈ wsX80, w ∈ wsX8_homesTop := by decide +kernel
def bX8_homesTop_17 (k : Nat) (p1 : Int32) (p2 : Int64) (u : CX) (a : Int64 × Int32) : Option ((Int64 × Int32) ⊕ (Int64)) :=
  if (3 : Int32) ≤ a.2 then
    some (.inr a.1)
  else
  if p1 ≤ a.2 then
    zb (a.1 * (xg_Tscale u)) (fun v5 =>
    some (.inl (v5, (a.2 + 1))))
  else
  zb (a.1 * p2) (fun v6 =>
  some (.inl (v6, (a.2 + 1))))
def fX8_homesTop (k : Nat) (a1 : Int32) (a2 : Int64) (u : CX) : Option (Int64) :=
  zget 7 (xg_Trules u) a1 (fun v1 =>
  (fX8_notOther u).bind (fun q3 =>
  zb ((v1.toInt64) * q3) (fun v4 =>
  (ziter (bX8_homesTop_17 k a1 a2 u) k (v4, (0 : Int32))).bind (fun b7 =>
    some b7))))
theorem iwX8_holeRate_8 : ∀ w ∈ wsX80, w ∈ wsX8_holeRate := by decide +kernel
def fX8_holeRate (a1 : Int64) (u : CX) : Option (Int64) :=
  zget 7 (xg_Trules u) (1 : Int32) (fun v1 =>
  zget 7 (xg_Trules u) (2 : Int32) (fun v2 =>
  zget 7 (xg_Trules u) (3 : Int32) (fun v3 =>
  (fX8_notOther u).bind (fun q5 =>
  some ((((((v1.toInt64) * (xg_Tscale u)) * (xg_Tscale u)) + (((((2 : Int32) * v2).toInt64) * a1) * (xg_Tscale u))) + (((((3 : Int32) * v3).toInt64) * a1) * a1)) * q5)))))
section
variable {p : Program} {l : Launch} {e : Env} {s : State} {m : MethodId} {args : Array Value} {below : List Frame} {meth : Method} {c : Code} {A : Nat → Prop} {Q : State → Prop} {D : va_G} {ad : Nat → Nat} {cy : Nat → ClassId}
set_option maxHeartbeats 4000000 in
set_option maxRecDepth 100000 in
theorem lX8_standAsUntold_2 (C0 : zFix p m c cX8_standAsUntold 2 s args wsX8_standAsUntold RX8 meth none) {k : Nat} {a : Int32 × CX} {b : CX} (hit : ziter (bX8_standAsUntold_2 k) k a = some b) (hx9 : (fun (b : CX) => ∀ (H : Heap) (locs : List Loc) (ls : Array Slot), zIn D ad cy (WX ad cy b) A s H locs → lv_has ls 2 [(0, .ref (ad 1))] → W p l e ({ frames := 0, cells := 0, slots := 0, locals := 0 } : Room) s m args below meth c H locs 0 0 Q (F0 m 47 ls [])) b) : (fun (a : Int32 × CX) => ∀ (H : Heap) (locs : List Loc) (ls : Array Slot), zIn D ad cy (WX ad cy a.2) A s H locs → lv_has ls 2 [(0, .ref (ad 1)), (1, .int a.1)] → W p l e ({ frames := 0, cells := 0, slots := 0, locals := 0 } : Room) s m args below meth c H locs 0 0 Q (F0 m 2 ls [])) a := by
  obtain ⟨hx, hb, hml, hown, hts, hr, hlk⟩ := id C0
  refine zloop (Wh := (fun (a : Int32 × CX) => ∀ (H : Heap) (locs : List Loc) (ls : Array Slot), zIn D ad cy (WX ad cy a.2) A s H locs → lv_has ls 2 [(0, .ref (ad 1)), (1, .int a.1)] → W p l e ({ frames := 0, cells := 0, slots := 0, locals := 0 } : Room) s m args below meth c H locs 0 0 Q (F0 m 2 ls []))) (Wx := (fun (b : CX) => ∀ (H : Heap) (locs : List Loc) (ls : Array Slot), zIn D ad cy (WX ad cy b) A s H locs → lv_has ls 2 [(0, .ref (ad 1))] → W p l e ({ frames := 0, cells := 0, slots := 0, locals := 0 } : Room) s m args below meth c H locs 0 0 Q (F0 m 47 ls []))) ?_ _ a b hit hx9
  intro a x hf hL hX H locs ls hI hl
  unfold bX8_standAsUntold_2 at hf
  refine lv_iload_n (pc := 2) hx hb dX8_standAsUntold_2 rfl (lv_at hl 1 rfl) ?_
  refine lv_iconst (pc := 3) (v := 4) hx hb dX8_standAsUntold_3 (by decide) ?_
  refine z_icmp_ge (pc := 4) (tgt := 47) hx hb dX8_standAsUntold_4 (by decide) hf (fun hf => ?_) (fun hf => ?_)
  · exact (hX _ (Option.some.inj hf).symm) _ _ _ hI (lv_sub hl [0] rfl)
  refine lv_aload_n (pc := 7) hx hb dX8_standAsUntold_7 rfl (lv_at hl 0 rfl) ?_
  refine z_get (pc := 8) (index := 9) hx hb hts iwX8_standAsUntold_8 hown hI (xl_1 ad cy a.2) rfl 0 (by decide) (by decide +kernel) rfl rfl dX8_standAsUntold_8 ?_
  refine lv_iload_n (pc := 11) hx hb dX8_standAsUntold_11 rfl (lv_at hl 1 rfl) ?_
  refine lv_bipush (pc := 12) (v := 10) hx hb dX8_standAsUntold_12 (by decide) ?_
  refine z_iast (wf := WX ad cy) (pc := 14) hx hb hI (xl_2 ad cy a.2) 0 rfl dX8_standAsUntold_14 (fun j => xw_Tparts ad cy a.2 (upd (xg_Tparts a.2) j (10 : Int32))) hf (fun j1 u2 H locs hj1 hI hf => ?_)
  refine lv_aload_n (pc := 15) hx hb dX8_standAsUntold_15 rfl (lv_at hl 0 rfl) ?_
  refine z_get (pc := 16) (index := 9) hx hb hts iwX8_standAsUntold_8 hown hI (xl_1 ad cy u2) rfl 0 (by decide) (by decide +kernel) rfl rfl dX8_standAsUntold_16 ?_
  refine lv_iconst (pc := 19) (v := 4) hx hb dX8_standAsUntold_19 (by decide) ?_
  refine lv_iload_n (pc := 20) hx hb dX8_standAsUntold_20 rfl (lv_at hl 1 rfl) ?_
  refine lv_iadd (pc := 21) hx hb dX8_standAsUntold_21 ?_
  refine lv_iconst (pc := 22) (v := 2) hx hb dX8_standAsUntold_22 (by decide) ?_
  refine z_iast (wf := WX ad cy) (pc := 23) hx hb hI (xl_2 ad cy u2) 0 rfl dX8_standAsUntold_23 (fun j => xw_Tparts ad cy u2 (upd (xg_Tparts u2) j (2 : Int32))) hf (fun j3 u4 H locs hj3 hI hf => ?_)
  refine lv_aload_n (pc := 24) hx hb dX8_standAsUntold_24 rfl (lv_at hl 0 rfl) ?_
  refine z_get (pc := 25) (index := 9) hx hb hts iwX8_standAsUntold_8 hown hI (xl_1 ad cy u4) rfl 0 (by decide) (by decide +kernel) rfl rfl dX8_standAsUntold_25 ?_
  refine lv_bipush (pc := 28) (v := 8) hx hb dX8_standAsUntold_28 (by decide) ?_
  refine lv_iload_n (pc := 30) hx hb dX8_standAsUntold_30 rfl (lv_at hl 1 rfl) ?_
  refine lv_iadd (pc := 31) hx hb dX8_standAsUntold_31 ?_
  refine lv_iconst (pc := 32) (v := 5) hx hb dX8_standAsUntold_32 (by decide) ?_
  refine z_iast (wf := WX ad cy) (pc := 33) hx hb hI (xl_2 ad cy u4) 0 rfl dX8_standAsUntold_33 (fun j => xw_Tparts ad cy u4 (upd (xg_Tparts u4) j (5 : Int32))) hf (fun j5 u6 H locs hj5 hI hf => ?_)
  refine lv_aload_n (pc := 34) hx hb dX8_standAsUntold_34 rfl (lv_at hl 0 rfl) ?_
  refine z_get (pc := 35) (index := 15) hx hb hts iwX8_standAsUntold_8 hown hI (xl_1 ad cy u6) rfl 1 (by decide) (by decide +kernel) rfl rfl dX8_standAsUntold_35 ?_
  refine lv_iload_n (pc := 38) hx hb dX8_standAsUntold_38 rfl (lv_at hl 1 rfl) ?_
  refine lv_iconst (pc := 39) (v := 1) hx hb dX8_standAsUntold_39 (by decide) ?_
  refine z_iast (wf := WX ad cy) (pc := 40) hx hb hI (xl_3 ad cy u6) 0 rfl dX8_standAsUntold_40 (fun j => xw_Trules ad cy u6 (upd (xg_Trules u6) j (1 : Int32))) hf (fun j7 u8 H locs hj7 hI hf => ?_)
  refine lv_iinc (pc := 41) (v := (a.1 + 1)) (lv' := [(1, .int (a.1 + 1)), (0, .ref (ad 1))]) hx hb dX8_standAsUntold_41 hl (k := 1) rfl rfl (by decide) rfl (fun ls hl => ?_)
  refine lv_goto (pc := 44) (tgt := 2) hx hb dX8_standAsUntold_44 (by decide) ?_
  exact hL _ (Option.some.inj hf).symm _ _ _ hI (lv_sub hl [1, 0] rfl)
set_option maxHeartbeats 4000000 in
set_option maxRecDepth 100000 in
theorem kX8_standAsUntold (l : Launch) (D : va_G) (ad : Nat → Nat) (cy : Nat → ClassId) (k : Nat) (u : CX) (u' : CX) (hf : fX8_standAsUntold k u = some u') : zCt l yX8_standAsUntold wsX8_standAsUntold ({ frames := 0, cells := 0, slots := 0, locals := 0 } : Room) D ad cy [.ref (ad 1)] (WX ad cy u) none (WX ad cy u') := by
  refine zCt.of (cc := cX8_standAsUntold) (maxL := 2) (ret := none) (own := RX8) (by decide) rfl rfl ?_
  intro p e s m below meth c A C0 hI
  obtain ⟨hx, hb, hml, hown, hts, hr, hlk⟩ := id C0
  refine z_entry (Nat.le_of_ble_eq_true rfl) (fun ls hl => ?_)
  have hl : lv_has ls 2 [(0, .ref (ad 1))] := hl
  unfold fX8_standAsUntold at hf
  refine lv_iconst (pc := 0) (v := 0) hx hb dX8_standAsUntold_0 (by decide) ?_
  refine lv_istore_n (pc := 1) (lv' := [(1, .int (0 : Int32)), (0, .ref (ad 1))]) hx hb dX8_standAsUntold_1 rfl hl (by decide) rfl (fun ls hl => ?_)
  obtain ⟨b9, hb10, hf⟩ := zbind hf
  refine lX8_standAsUntold_2 C0 hb10 ?_ _ _ _ hI (lv_sub hl [1, 0] rfl)
  intro H locs ls hI hl
  refine lv_aload_n (pc := 47) hx hb dX8_standAsUntold_47 rfl (lv_at hl 0 rfl) ?_
  refine z_get (pc := 48) (index := 15) hx hb hts iwX8_standAsUntold_8 hown hI (xl_1 ad cy b9) rfl 1 (by decide) (by decide +kernel) rfl rfl dX8_standAsUntold_48 ?_
  refine lv_iconst (pc := 51) (v := 4) hx hb dX8_standAsUntold_51 (by decide) ?_
  refine lv_iconst (pc := 52) (v := 0) hx hb dX8_standAsUntold_52 (by decide) ?_
  refine z_iast (wf := WX ad cy) (pc := 53) hx hb hI (xl_3 ad cy b9) 0 rfl dX8_standAsUntold_53 (fun j => xw_Trules ad cy b9 (upd (xg_Trules b9) j (0 : Int32))) hf (fun j11 u12 H locs hj11 hI hf => ?_)
  refine lv_aload_n (pc := 54) hx hb dX8_standAsUntold_54 rfl (lv_at hl 0 rfl) ?_
  refine z_get (pc := 55) (index := 15) hx hb hts iwX8_standAsUntold_8 hown hI (xl_1 ad cy u12) rfl 1 (by decide) (by decide +kernel) rfl rfl dX8_standAsUntold_55 ?_
  refine lv_iconst (pc := 58) (v := 5) hx hb dX8_standAsUntold_58 (by decide) ?_
  refine lv_iconst (pc := 59) (v := 5) hx hb dX8_standAsUntold_59 (by decide) ?_
  refine z_iast (wf := WX ad cy) (pc := 60) hx hb hI (xl_3 ad cy u12) 0 rfl dX8_standAsUntold_60 (fun j => xw_Trules ad cy u12 (upd (xg_Trules u12) j (5 : Int32))) hf (fun j13 u14 H locs hj13 hI hf => ?_)
  refine lv_aload_n (pc := 61) hx hb dX8_standAsUntold_61 rfl (lv_at hl 0 rfl) ?_
  refine z_get (pc := 62) (index := 15) hx hb hts iwX8_standAsUntold_8 hown hI (xl_1 ad cy u14) rfl 1 (by decide) (by decide +kernel) rfl rfl dX8_standAsUntold_62 ?_
  refine lv_bipush (pc := 65) (v := 6) hx hb dX8_standAsUntold_65 (by decide) ?_
  refine lv_bipush (pc := 67) (v := 10) hx hb dX8_standAsUntold_67 (by decide) ?_
  refine z_iast (wf := WX ad cy) (pc := 69) hx hb hI (xl_3 ad cy u14) 0 rfl dX8_standAsUntold_69 (fun j => xw_Trules ad cy u14 (upd (xg_Trules u14) j (10 : Int32))) hf (fun j15 u16 H locs hj15 hI hf => ?_)
  cases hf
  exact z_vret (pc := 70) C0 hI dX8_standAsUntold_70
set_option maxHeartbeats 4000000 in
set_option maxRecDepth 100000 in
theorem lX8_standAsUntold_d_2 (C0 : zFix p m c cX8_standAsUntold 2 s args wsX8_standAsUntold RX8 meth none) {k : Nat} {a : Int32 × CX} {b : CX} (hit : ziter (bX8_standAsUntold_d_2 k) k a = some b) (hx9 : (fun (b : CX) => ∀ (H : Heap) (locs : List Loc) (ls : Array Slot), zIn D ad cy (WX ad cy b) A s H locs → lv_has ls 2 [(0, .ref (ad 7))] → W p l e ({ frames := 0, cells := 0, slots := 0, locals := 0 } : Room) s m args below meth c H locs 0 0 Q (F0 m 47 ls [])) b) : (fun (a : Int32 × CX) => ∀ (H : Heap) (locs : List Loc) (ls : Array Slot), zIn D ad cy (WX ad cy a.2) A s H locs → lv_has ls 2 [(0, .ref (ad 7)), (1, .int a.1)] → W p l e ({ frames := 0, cells := 0, slots := 0, locals := 0 } : Room) s m args below meth c H locs 0 0 Q (F0 m 2 ls [])) a := by
  obtain ⟨hx, hb, hml, hown, hts, hr, hlk⟩ := id C0
  refine zloop (Wh := (fun (a : Int32 × CX) => ∀ (H : Heap) (locs : List Loc) (ls : Array Slot), zIn D ad cy (WX ad cy a.2) A s H locs → lv_has ls 2 [(0, .ref (ad 7)), (1, .int a.1)] → W p l e ({ frames := 0, cells := 0, slots := 0, locals := 0 } : Room) s m args below meth c H locs 0 0 Q (F0 m 2 ls []))) (Wx := (fun (b : CX) => ∀ (H : Heap) (locs : List Loc) (ls : Array Slot), zIn D ad cy (WX ad cy b) A s H locs → lv_has ls 2 [(0, .ref (ad 7))] → W p l e ({ frames := 0, cells := 0, slots := 0, locals := 0 } : Room) s m args below meth c H locs 0 0 Q (F0 m 47 ls []))) ?_ _ a b hit hx9
  intro a x hf hL hX H locs ls hI hl
  unfold bX8_standAsUntold_d_2 at hf
  refine lv_iload_n (pc := 2) hx hb dX8_standAsUntold_2 rfl (lv_at hl 1 rfl) ?_
  refine lv_iconst (pc := 3) (v := 4) hx hb dX8_standAsUntold_3 (by decide) ?_
  refine z_icmp_ge (pc := 4) (tgt := 47) hx hb dX8_standAsUntold_4 (by decide) hf (fun hf => ?_) (fun hf => ?_)
  · exact (hX _ (Option.some.inj hf).symm) _ _ _ hI (lv_sub hl [0] rfl)
  refine lv_aload_n (pc := 7) hx hb dX8_standAsUntold_7 rfl (lv_at hl 0 rfl) ?_
  refine z_get (pc := 8) (index := 9) hx hb hts iwX8_standAsUntold_8 hown hI (xl_7 ad cy a.2) rfl 0 (by decide) (by decide +kernel) rfl rfl dX8_standAsUntold_8 ?_
  refine lv_iload_n (pc := 11) hx hb dX8_standAsUntold_11 rfl (lv_at hl 1 rfl) ?_
  refine lv_bipush (pc := 12) (v := 10) hx hb dX8_standAsUntold_12 (by decide) ?_
  refine z_iast (wf := WX ad cy) (pc := 14) hx hb hI (xl_8 ad cy a.2) 0 rfl dX8_standAsUntold_14 (fun j => xw_Dparts ad cy a.2 (upd (xg_Dparts a.2) j (10 : Int32))) hf (fun j1 u2 H locs hj1 hI hf => ?_)
  refine lv_aload_n (pc := 15) hx hb dX8_standAsUntold_15 rfl (lv_at hl 0 rfl) ?_
  refine z_get (pc := 16) (index := 9) hx hb hts iwX8_standAsUntold_8 hown hI (xl_7 ad cy u2) rfl 0 (by decide) (by decide +kernel) rfl rfl dX8_standAsUntold_16 ?_
  refine lv_iconst (pc := 19) (v := 4) hx hb dX8_standAsUntold_19 (by decide) ?_
  refine lv_iload_n (pc := 20) hx hb dX8_standAsUntold_20 rfl (lv_at hl 1 rfl) ?_
  refine lv_iadd (pc := 21) hx hb dX8_standAsUntold_21 ?_
  refine lv_iconst (pc := 22) (v := 2) hx hb dX8_standAsUntold_22 (by decide) ?_
  refine z_iast (wf := WX ad cy) (pc := 23) hx hb hI (xl_8 ad cy u2) 0 rfl dX8_standAsUntold_23 (fun j => xw_Dparts ad cy u2 (upd (xg_Dparts u2) j (2 : Int32))) hf (fun j3 u4 H locs hj3 hI hf => ?_)
  refine lv_aload_n (pc := 24) hx hb dX8_standAsUntold_24 rfl (lv_at hl 0 rfl) ?_
  refine z_get (pc := 25) (index := 9) hx hb hts iwX8_standAsUntold_8 hown hI (xl_7 ad cy u4) rfl 0 (by decide) (by decide +kernel) rfl rfl dX8_standAsUntold_25 ?_
  refine lv_bipush (pc := 28) (v := 8) hx hb dX8_standAsUntold_28 (by decide) ?_
  refine lv_iload_n (pc := 30) hx hb dX8_standAsUntold_30 rfl (lv_at hl 1 rfl) ?_
  refine lv_iadd (pc := 31) hx hb dX8_standAsUntold_31 ?_
  refine lv_iconst (pc := 32) (v := 5) hx hb dX8_standAsUntold_32 (by decide) ?_
  refine z_iast (wf := WX ad cy) (pc := 33) hx hb hI (xl_8 ad cy u4) 0 rfl dX8_standAsUntold_33 (fun j => xw_Dparts ad cy u4 (upd (xg_Dparts u4) j (5 : Int32))) hf (fun j5 u6 H locs hj5 hI hf => ?_)
  refine lv_aload_n (pc := 34) hx hb dX8_standAsUntold_34 rfl (lv_at hl 0 rfl) ?_
  refine z_get (pc := 35) (index := 15) hx hb hts iwX8_standAsUntold_8 hown hI (xl_7 ad cy u6) rfl 1 (by decide) (by decide +kernel) rfl rfl dX8_standAsUntold_35 ?_
  refine lv_iload_n (pc := 38) hx hb dX8_standAsUntold_38 rfl (lv_at hl 1 rfl) ?_
  refine lv_iconst (pc := 39) (v := 1) hx hb dX8_standAsUntold_39 (by decide) ?_
  refine z_iast (wf := WX ad cy) (pc := 40) hx hb hI (xl_9 ad cy u6) 0 rfl dX8_standAsUntold_40 (fun j => xw_Drules ad cy u6 (upd (xg_Drules u6) j (1 : Int32))) hf (fun j7 u8 H locs hj7 hI hf => ?_)
  refine lv_iinc (pc := 41) (v := (a.1 + 1)) (lv' := [(1, .int (a.1 + 1)), (0, .ref (ad 7))]) hx hb dX8_standAsUntold_41 hl (k := 1) rfl rfl (by decide) rfl (fun ls hl => ?_)
  refine lv_goto (pc := 44) (tgt := 2) hx hb dX8_standAsUntold_44 (by decide) ?_
  exact hL _ (Option.some.inj hf).symm _ _ _ hI (lv_sub hl [1, 0] rfl)
set_option maxHeartbeats 4000000 in
set_option maxRecDepth 100000 in
theorem kX8_standAsUntold_d (l : Launch) (D : va_G) (ad : Nat → Nat) (cy : Nat → ClassId) (k : Nat) (u : CX) (u' : CX) (hf : fX8_standAsUntold_d k u = some u') : zCt l yX8_standAsUntold wsX8_standAsUntold ({ frames := 0, cells := 0, slots := 0, locals := 0 } : Room) D ad cy [.ref (ad 7)] (WX ad cy u) none (WX ad cy u') := by
  refine zCt.of (cc := cX8_standAsUntold) (maxL := 2) (ret := none) (own := RX8) (by decide) rfl rfl ?_
  intro p e s m below meth c A C0 hI
  obtain ⟨hx, hb, hml, hown, hts, hr, hlk⟩ := id C0
  refine z_entry (Nat.le_of_ble_eq_true rfl) (fun ls hl => ?_)
  have hl : lv_has ls 2 [(0, .ref (ad 7))] := hl
  unfold fX8_standAsUntold_d at hf
  refine lv_iconst (pc := 0) (v := 0) hx hb dX8_standAsUntold_0 (by decide) ?_
  refine lv_istore_n (pc := 1) (lv' := [(1, .int (0 : Int32)), (0, .ref (ad 7))]) hx hb dX8_standAsUntold_1 rfl hl (by decide) rfl (fun ls hl => ?_)
  obtain ⟨b9, hb10, hf⟩ := zbind hf
  refine lX8_standAsUntold_d_2 C0 hb10 ?_ _ _ _ hI (lv_sub hl [1, 0] rfl)
  intro H locs ls hI hl
  refine lv_aload_n (pc := 47) hx hb dX8_standAsUntold_47 rfl (lv_at hl 0 rfl) ?_
  refine z_get (pc := 48) (index := 15) hx hb hts iwX8_standAsUntold_8 hown hI (xl_7 ad cy b9) rfl 1 (by decide) (by decide +kernel) rfl rfl dX8_standAsUntold_48 ?_
  refine lv_iconst (pc := 51) (v := 4) hx hb dX8_standAsUntold_51 (by decide) ?_
  refine lv_iconst (pc := 52) (v := 0) hx hb dX8_standAsUntold_52 (by decide) ?_
  refine z_iast (wf := WX ad cy) (pc := 53) hx hb hI (xl_9 ad cy b9) 0 rfl dX8_standAsUntold_53 (fun j => xw_Drules ad cy b9 (upd (xg_Drules b9) j (0 : Int32))) hf (fun j11 u12 H locs hj11 hI hf => ?_)
  refine lv_aload_n (pc := 54) hx hb dX8_standAsUntold_54 rfl (lv_at hl 0 rfl) ?_
  refine z_get (pc := 55) (index := 15) hx hb hts iwX8_standAsUntold_8 hown hI (xl_7 ad cy u12) rfl 1 (by decide) (by decide +kernel) rfl rfl dX8_standAsUntold_55 ?_
  refine lv_iconst (pc := 58) (v := 5) hx hb dX8_standAsUntold_58 (by decide) ?_
  refine lv_iconst (pc := 59) (v := 5) hx hb dX8_standAsUntold_59 (by decide) ?_
  refine z_iast (wf := WX ad cy) (pc := 60) hx hb hI (xl_9 ad cy u12) 0 rfl dX8_standAsUntold_60 (fun j => xw_Drules ad cy u12 (upd (xg_Drules u12) j (5 : Int32))) hf (fun j13 u14 H locs hj13 hI hf => ?_)
  refine lv_aload_n (pc := 61) hx hb dX8_standAsUntold_61 rfl (lv_at hl 0 rfl) ?_
  refine z_get (pc := 62) (index := 15) hx hb hts iwX8_standAsUntold_8 hown hI (xl_7 ad cy u14) rfl 1 (by decide) (by decide +kernel) rfl rfl dX8_standAsUntold_62 ?_
  refine lv_bipush (pc := 65) (v := 6) hx hb dX8_standAsUntold_65 (by decide) ?_
  refine lv_bipush (pc := 67) (v := 10) hx hb dX8_standAsUntold_67 (by decide) ?_
  refine z_iast (wf := WX ad cy) (pc := 69) hx hb hI (xl_9 ad cy u14) 0 rfl dX8_standAsUntold_69 (fun j => xw_Drules ad cy u14 (upd (xg_Drules u14) j (10 : Int32))) hf (fun j15 u16 H locs hj15 hI hf => ?_)
  cases hf
  exact z_vret (pc := 70) C0 hI dX8_standAsUntold_70
set_option maxHeartbeats 4000000 in
set_option maxRecDepth 100000 in
theorem lX8_settle_12 (C0 : zFix p m c cX8_settle 2 s args wsX8_settle RX8 meth none) {k : Nat} {a : Int32 × CX} {b : CX} (hit : ziter (bX8_settle_12 k) k a = some b) (hx9 : (fun (b : CX) => ∀ (H : Heap) (locs : List Loc) (ls : Array Slot), zIn D ad cy (WX ad cy b) A s H locs → lv_has ls 2 [(0, .ref (ad 1))] → W p l e ({ frames := 0, cells := 0, slots := 0, locals := 0 } : Room) s m args below meth c H locs 0 0 Q (F0 m 53 ls [])) b) : (fun (a : Int32 × CX) => ∀ (H : Heap) (locs : List Loc) (ls : Array Slot), zIn D ad cy (WX ad cy a.2) A s H locs → lv_has ls 2 [(0, .ref (ad 1)), (1, .int a.1)] → W p l e ({ frames := 0, cells := 0, slots := 0, locals := 0 } : Room) s m args below meth c H locs 0 0 Q (F0 m 12 ls [])) a := by
  obtain ⟨hx, hb, hml, hown, hts, hr, hlk⟩ := id C0
  refine zloop (Wh := (fun (a : Int32 × CX) => ∀ (H : Heap) (locs : List Loc) (ls : Array Slot), zIn D ad cy (WX ad cy a.2) A s H locs → lv_has ls 2 [(0, .ref (ad 1)), (1, .int a.1)] → W p l e ({ frames := 0, cells := 0, slots := 0, locals := 0 } : Room) s m args below meth c H locs 0 0 Q (F0 m 12 ls []))) (Wx := (fun (b : CX) => ∀ (H : Heap) (locs : List Loc) (ls : Array Slot), zIn D ad cy (WX ad cy b) A s H locs → lv_has ls 2 [(0, .ref (ad 1))] → W p l e ({ frames := 0, cells := 0, slots := 0, locals := 0 } : Room) s m args below meth c H locs 0 0 Q (F0 m 53 ls []))) ?_ _ a b hit hx9
  intro a x hf hL hX H locs ls hI hl
  unfold bX8_settle_12 at hf
  refine lv_iload_n (pc := 12) hx hb dX8_settle_12 rfl (lv_at hl 1 rfl) ?_
  refine lv_iconst (pc := 13) (v := 4) hx hb dX8_settle_13 (by decide) ?_
  refine z_icmp_ge (pc := 14) (tgt := 53) hx hb dX8_settle_14 (by decide) hf (fun hf => ?_) (fun hf => ?_)
  · exact (hX _ (Option.some.inj hf).symm) _ _ _ hI (lv_sub hl [0] rfl)
  refine lv_aload_n (pc := 17) hx hb dX8_settle_17 rfl (lv_at hl 0 rfl) ?_
  refine lv_dup (pc := 18) hx hb dX8_settle_18 rfl ?_
  refine z_get (pc := 19) (index := 30) hx hb hts iwX8_settle_8 hown hI (xl_1 ad cy a.2) rfl 2 (by decide) (by decide +kernel) rfl rfl dX8_settle_19 ?_
  refine lv_aload_n (pc := 22) hx hb dX8_settle_22 rfl (lv_at hl 0 rfl) ?_
  refine z_get (pc := 23) (index := 9) hx hb hts iwX8_settle_8 hown hI (xl_1 ad cy a.2) rfl 0 (by decide) (by decide +kernel) rfl rfl dX8_settle_23 ?_
  refine lv_iload_n (pc := 26) hx hb dX8_settle_26 rfl (lv_at hl 1 rfl) ?_
  refine z_iald (pc := 27) hx hb hI (xl_2 ad cy a.2) 0 rfl dX8_settle_27 hf (fun v3 hf => ?_)
  refine lv_iadd (pc := 28) hx hb dX8_settle_28 ?_
  refine z_put (wf := WX ad cy) (pc := 29) (index := 30) hx hb hts iwX8_settle_8 tyX8 tyX8_ok nmX8 hown hI (xl_1 ad cy a.2) rfl 2 (by decide) (by decide +kernel) rfl rfl rfl rfl (Nat.le_of_ble_eq_true rfl) dX8_settle_29 (xw_TallAreas ad cy a.2 ((xg_TallAreas a.2) + v3)) hf (fun u4 H locs hI hf => ?_)
  refine lv_aload_n (pc := 32) hx hb dX8_settle_32 rfl (lv_at hl 0 rfl) ?_
  refine lv_dup (pc := 33) hx hb dX8_settle_33 rfl ?_
  refine z_get (pc := 34) (index := 34) hx hb hts iwX8_settle_8 hown hI (xl_1 ad cy u4) rfl 3 (by decide) (by decide +kernel) rfl rfl dX8_settle_34 ?_
  refine lv_aload_n (pc := 37) hx hb dX8_settle_37 rfl (lv_at hl 0 rfl) ?_
  refine z_get (pc := 38) (index := 15) hx hb hts iwX8_settle_8 hown hI (xl_1 ad cy u4) rfl 1 (by decide) (by decide +kernel) rfl rfl dX8_settle_38 ?_
  refine lv_iload_n (pc := 41) hx hb dX8_settle_41 rfl (lv_at hl 1 rfl) ?_
  refine z_iald (pc := 42) hx hb hI (xl_3 ad cy u4) 0 rfl dX8_settle_42 hf (fun v5 hf => ?_)
  refine lv_iadd (pc := 43) hx hb dX8_settle_43 ?_
  refine z_put (wf := WX ad cy) (pc := 44) (index := 34) hx hb hts iwX8_settle_8 tyX8 tyX8_ok nmX8 hown hI (xl_1 ad cy u4) rfl 3 (by decide) (by decide +kernel) rfl rfl rfl rfl (Nat.le_of_ble_eq_true rfl) dX8_settle_44 (xw_TallHits ad cy u4 ((xg_TallHits u4) + v5)) hf (fun u6 H locs hI hf => ?_)
  refine lv_iinc (pc := 47) (v := (a.1 + 1)) (lv' := [(1, .int (a.1 + 1)), (0, .ref (ad 1))]) hx hb dX8_settle_47 hl (k := 1) rfl rfl (by decide) rfl (fun ls hl => ?_)
  refine lv_goto (pc := 50) (tgt := 12) hx hb dX8_settle_50 (by decide) ?_
  exact hL _ (Option.some.inj hf).symm _ _ _ hI (lv_sub hl [1, 0] rfl)
set_option maxHeartbeats 4000000 in
set_option maxRecDepth 100000 in
theorem kX8_settle (l : Launch) (D : va_G) (ad : Nat → Nat) (cy : Nat → ClassId) (k : Nat) (u : CX) (u' : CX) (hf : fX8_settle k u = some u') : zCt l yX8_settle wsX8_settle ({ frames := 0, cells := 0, slots := 0, locals := 0 } : Room) D ad cy [.ref (ad 1)] (WX ad cy u) none (WX ad cy u') := by
  refine zCt.of (cc := cX8_settle) (maxL := 2) (ret := none) (own := RX8) (by decide) rfl rfl ?_
  intro p e s m below meth c A C0 hI
  obtain ⟨hx, hb, hml, hown, hts, hr, hlk⟩ := id C0
  refine z_entry (Nat.le_of_ble_eq_true rfl) (fun ls hl => ?_)
  have hl : lv_has ls 2 [(0, .ref (ad 1))] := hl
  unfold fX8_settle at hf
  refine lv_aload_n (pc := 0) hx hb dX8_settle_0 rfl (lv_at hl 0 rfl) ?_
  refine lv_iconst (pc := 1) (v := 0) hx hb dX8_settle_1 (by decide) ?_
  refine z_put (wf := WX ad cy) (pc := 2) (index := 30) hx hb hts iwX8_settle_8 tyX8 tyX8_ok nmX8 hown hI (xl_1 ad cy u) rfl 2 (by decide) (by decide +kernel) rfl rfl rfl rfl (Nat.le_of_ble_eq_true rfl) dX8_settle_2 (xw_TallAreas ad cy u (0 : Int32)) hf (fun u1 H locs hI hf => ?_)
  refine lv_aload_n (pc := 5) hx hb dX8_settle_5 rfl (lv_at hl 0 rfl) ?_
  refine lv_iconst (pc := 6) (v := 0) hx hb dX8_settle_6 (by decide) ?_
  refine z_put (wf := WX ad cy) (pc := 7) (index := 34) hx hb hts iwX8_settle_8 tyX8 tyX8_ok nmX8 hown hI (xl_1 ad cy u1) rfl 3 (by decide) (by decide +kernel) rfl rfl rfl rfl (Nat.le_of_ble_eq_true rfl) dX8_settle_7 (xw_TallHits ad cy u1 (0 : Int32)) hf (fun u2 H locs hI hf => ?_)
  refine lv_iconst (pc := 10) (v := 0) hx hb dX8_settle_10 (by decide) ?_
  refine lv_istore_n (pc := 11) (lv' := [(1, .int (0 : Int32)), (0, .ref (ad 1))]) hx hb dX8_settle_11 rfl hl (by decide) rfl (fun ls hl => ?_)
  obtain ⟨b7, hb8, hf⟩ := zbind hf
  refine lX8_settle_12 C0 hb8 ?_ _ _ _ hI (lv_sub hl [1, 0] rfl)
  intro H locs ls hI hl
  refine lv_aload_n (pc := 53) hx hb dX8_settle_53 rfl (lv_at hl 0 rfl) ?_
  refine lv_ldc2 (pc := 54) (v := 10) hx hb hown (hts (.constantLong RX8 37 (10)) (by decide +kernel)) dX8_settle_54 ?_
  refine lv_aload_n (pc := 57) hx hb dX8_settle_57 rfl (lv_at hl 0 rfl) ?_
  refine z_get (pc := 58) (index := 30) hx hb hts iwX8_settle_8 hown hI (xl_1 ad cy b7) rfl 2 (by decide) (by decide +kernel) rfl rfl dX8_settle_58 ?_
  refine lv_i2l (pc := 61) hx hb dX8_settle_61 rfl ?_
  refine lv_lmul (pc := 62) hx hb dX8_settle_62 ?_
  refine z_put (wf := WX ad cy) (pc := 63) (index := 39) hx hb hts iwX8_settle_8 tyX8 tyX8_ok nmX8 hown hI (xl_1 ad cy b7) rfl 4 (by decide) (by decide +kernel) rfl rfl rfl rfl (Nat.le_of_ble_eq_true rfl) dX8_settle_63 (xw_Tscale ad cy b7 ((10 : Int64) * ((xg_TallAreas b7).toInt64))) hf (fun u9 H locs hI hf => ?_)
  refine lv_aload_n (pc := 66) hx hb dX8_settle_66 rfl (lv_at hl 0 rfl) ?_
  refine lv_aload_n (pc := 67) hx hb dX8_settle_67 rfl (lv_at hl 0 rfl) ?_
  refine z_get (pc := 68) (index := 34) hx hb hts iwX8_settle_8 hown hI (xl_1 ad cy u9) rfl 3 (by decide) (by decide +kernel) rfl rfl dX8_settle_68 ?_
  refine lv_i2l (pc := 71) hx hb dX8_settle_71 rfl ?_
  refine lv_aload_n (pc := 72) hx hb dX8_settle_72 rfl (lv_at hl 0 rfl) ?_
  refine z_get (pc := 73) (index := 39) hx hb hts iwX8_settle_8 hown hI (xl_1 ad cy u9) rfl 4 (by decide) (by decide +kernel) rfl rfl dX8_settle_73 ?_
  refine lv_lmul (pc := 76) hx hb dX8_settle_76 ?_
  refine lv_aload_n (pc := 77) hx hb dX8_settle_77 rfl (lv_at hl 0 rfl) ?_
  refine z_get (pc := 78) (index := 39) hx hb hts iwX8_settle_8 hown hI (xl_1 ad cy u9) rfl 4 (by decide) (by decide +kernel) rfl rfl dX8_settle_78 ?_
  refine lv_lmul (pc := 81) hx hb dX8_settle_81 ?_
  refine lv_aload_n (pc := 82) hx hb dX8_settle_82 rfl (lv_at hl 0 rfl) ?_
  refine z_get (pc := 83) (index := 39) hx hb hts iwX8_settle_8 hown hI (xl_1 ad cy u9) rfl 4 (by decide) (by decide +kernel) rfl rfl dX8_settle_83 ?_
  refine lv_lmul (pc := 86) hx hb dX8_settle_86 ?_
  refine lv_ldc2 (pc := 87) (v := 1000) hx hb hown (hts (.constantLong RX8 43 (1000)) (by decide +kernel)) dX8_settle_87 ?_
  refine lv_lmul (pc := 90) hx hb dX8_settle_90 ?_
  refine z_put (wf := WX ad cy) (pc := 91) (index := 45) hx hb hts iwX8_settle_8 tyX8 tyX8_ok nmX8 hown hI (xl_1 ad cy u9) rfl 5 (by decide) (by decide +kernel) rfl rfl rfl rfl (Nat.le_of_ble_eq_true rfl) dX8_settle_91 (xw_Tbottom ad cy u9 ((((((xg_TallHits u9).toInt64) * (xg_Tscale u9)) * (xg_Tscale u9)) * (xg_Tscale u9)) * (1000 : Int64))) hf (fun u10 H locs hI hf => ?_)
  cases hf
  exact z_vret (pc := 94) C0 hI dX8_settle_94
set_option maxHeartbeats 4000000 in
set_option maxRecDepth 100000 in
theorem kX8_take (l : Launch) (D : va_G) (ad : Nat → Nat) (cy : Nat → ClassId) (k : Nat) (u : CX) (u' : CX) (hf : fX8_take k u = some u') : zCt l yX8_take wsX8_take ({ frames := 1, cells := 0, slots := 0, locals := 21 } : Room) D ad cy [.ref (ad 1), .ref (ad 7)] (WX ad cy u) none (WX ad cy u') := by
  refine zCt.of (cc := cX8_take) (maxL := 2) (ret := none) (own := RX8) (by decide) rfl rfl ?_
  intro p e s m below meth c A C0 hI
  obtain ⟨hx, hb, hml, hown, hts, hr, hlk⟩ := id C0
  refine z_entry (Nat.le_of_ble_eq_true rfl) (fun ls hl => ?_)
  have hl : lv_has ls 2 [(0, .ref (ad 1)), (1, .ref (ad 7))] := hl
  unfold fX8_take at hf
  refine lv_aload_n (pc := 0) hx hb dX8_take_0 rfl (lv_at hl 1 rfl) ?_
  refine z_get (pc := 1) (index := 9) hx hb hts iwX8_take_8 hown hI (xl_7 ad cy u) rfl 0 (by decide) (by decide +kernel) rfl rfl dX8_take_1 ?_
  refine lv_iconst (pc := 4) (v := 0) hx hb dX8_take_4 (by decide) ?_
  refine lv_aload_n (pc := 5) hx hb dX8_take_5 rfl (lv_at hl 0 rfl) ?_
  refine z_get (pc := 6) (index := 9) hx hb hts iwX8_take_8 hown hI (xl_1 ad cy u) rfl 0 (by decide) (by decide +kernel) rfl rfl dX8_take_6 ?_
  refine lv_iconst (pc := 9) (v := 0) hx hb dX8_take_9 (by decide) ?_
  refine lv_aload_n (pc := 10) hx hb dX8_take_10 rfl (lv_at hl 0 rfl) ?_
  refine z_get (pc := 11) (index := 9) hx hb hts iwX8_take_8 hown hI (xl_1 ad cy u) rfl 0 (by decide) (by decide +kernel) rfl rfl dX8_take_11 ?_
  refine va_alen (pc := 14) hx hb hI.1 hI.2.1 2 0 (xl_2 ad cy u) rfl (v := 12) rfl dX8_take_14 ?_
  refine z_copy (wf := WX ad cy) (pc := 15) (index := 24) hx hb (hml.trans hl.1.symm) hown hts (by decide +kernel) (by decide +kernel) (by decide +kernel) (by decide +kernel) hI (xl_8 ad cy u) (xl_2 ad cy u) (by decide) (by decide) dX8_take_15 (xw_Tparts ad cy u (zcpy (xg_Dparts u) (xg_Tparts u) 12)) hf (fun u1 H locs hI hf => ?_)
  refine lv_aload_n (pc := 18) hx hb dX8_take_18 rfl (lv_at hl 1 rfl) ?_
  refine z_get (pc := 19) (index := 15) hx hb hts iwX8_take_8 hown hI (xl_7 ad cy u1) rfl 1 (by decide) (by decide +kernel) rfl rfl dX8_take_19 ?_
  refine lv_iconst (pc := 22) (v := 0) hx hb dX8_take_22 (by decide) ?_
  refine lv_aload_n (pc := 23) hx hb dX8_take_23 rfl (lv_at hl 0 rfl) ?_
  refine z_get (pc := 24) (index := 15) hx hb hts iwX8_take_8 hown hI (xl_1 ad cy u1) rfl 1 (by decide) (by decide +kernel) rfl rfl dX8_take_24 ?_
  refine lv_iconst (pc := 27) (v := 0) hx hb dX8_take_27 (by decide) ?_
  refine lv_aload_n (pc := 28) hx hb dX8_take_28 rfl (lv_at hl 0 rfl) ?_
  refine z_get (pc := 29) (index := 15) hx hb hts iwX8_take_8 hown hI (xl_1 ad cy u1) rfl 1 (by decide) (by decide +kernel) rfl rfl dX8_take_29 ?_
  refine va_alen (pc := 32) hx hb hI.1 hI.2.1 3 0 (xl_3 ad cy u1) rfl (v := 7) rfl dX8_take_32 ?_
  refine z_copy (wf := WX ad cy) (pc := 33) (index := 24) hx hb (hml.trans hl.1.symm) hown hts (by decide +kernel) (by decide +kernel) (by decide +kernel) (by decide +kernel) hI (xl_9 ad cy u1) (xl_3 ad cy u1) (by decide) (by decide) dX8_take_33 (xw_Trules ad cy u1 (zcpy (xg_Drules u1) (xg_Trules u1) 7)) hf (fun u2 H locs hI hf => ?_)
  refine lv_aload_n (pc := 36) hx hb dX8_take_36 rfl (lv_at hl 0 rfl) ?_
  obtain ⟨q4, hc3, hf⟩ := zbind hf
  refine zcallVv (pc := 37) (As := []) (rest := []) ⟨hx, hb, hml, hown, hts⟩ (kX8_settle l D ad cy k u2 q4 hc3) (cwV 0 hts gX8_take_X8_settle rfl rfl rfl (by decide +kernel) ⟨Nat.le_of_ble_eq_true rfl, Nat.le_of_ble_eq_true rfl⟩) hI rfl (xl_1 ad cy u2) rfl hl.1 rfl (Nat.le_of_ble_eq_true rfl) dX8_take_37 (Nat.zero_le _) (Nat.zero_le _) (fun H locs hI => ?_)
  cases hf
  exact z_vret (pc := 40) C0 hI dX8_take_40
set_option maxHeartbeats 4000000 in
set_option maxRecDepth 100000 in
theorem kX8_notOther (l : Launch) (D : va_G) (ad : Nat → Nat) (cy : Nat → ClassId) (u : CX) (r : Int64) (hf : fX8_notOther u = some r) : zCt l yX8_notOther wsX8_notOther ({ frames := 0, cells := 0, slots := 0, locals := 0 } : Room) D ad cy [.ref (ad 1)] (WX ad cy u) (some (.long r)) (WX ad cy u) := by
  refine zCt.of (cc := cX8_notOther) (maxL := 1) (ret := (some .long)) (own := RX8) (by decide) rfl rfl ?_
  intro p e s m below meth c A C0 hI
  obtain ⟨hx, hb, hml, hown, hts, hr, hlk⟩ := id C0
  refine z_entry (Nat.le_of_ble_eq_true rfl) (fun ls hl => ?_)
  have hl : lv_has ls 1 [(0, .ref (ad 1))] := hl
  unfold fX8_notOther at hf
  refine lv_sipush (pc := 0) (v := 1000) hx hb dX8_notOther_0 (by decide) ?_
  refine lv_aload_n (pc := 3) hx hb dX8_notOther_3 rfl (lv_at hl 0 rfl) ?_
  refine z_get (pc := 4) (index := 15) hx hb hts iwX8_notOther_8 hown hI (xl_1 ad cy u) rfl 1 (by decide) (by decide +kernel) rfl rfl dX8_notOther_4 ?_
  refine lv_iconst (pc := 7) (v := 4) hx hb dX8_notOther_7 (by decide) ?_
  refine z_iald (pc := 8) hx hb hI (xl_3 ad cy u) 0 rfl dX8_notOther_8 hf (fun v1 hf => ?_)
  refine lv_isub (pc := 9) hx hb dX8_notOther_9 ?_
  refine lv_i2l (pc := 10) hx hb dX8_notOther_10 rfl ?_
  cases hf
  exact z_lret (pc := 11) C0 hI dX8_notOther_11
set_option maxHeartbeats 4000000 in
set_option maxRecDepth 100000 in
theorem kX8_partStand (l : Launch) (D : va_G) (ad : Nat → Nat) (cy : Nat → ClassId) (a1 : Int32) (a2 : Int32) (u : CX) (r : Int32) (hf : fX8_partStand a1 a2 u = some r) : zCt l yX8_partStand wsX8_partStand ({ frames := 0, cells := 0, slots := 0, locals := 0 } : Room) D ad cy [.ref (ad 1), .int a1, .int a2] (WX ad cy u) (some (.int r)) (WX ad cy u) := by
  refine zCt.of (cc := cX8_partStand) (maxL := 3) (ret := (some .int)) (own := RX8) (by decide) rfl rfl ?_
  intro p e s m below meth c A C0 hI
  obtain ⟨hx, hb, hml, hown, hts, hr, hlk⟩ := id C0
  refine z_entry (Nat.le_of_ble_eq_true rfl) (fun ls hl => ?_)
  have hl : lv_has ls 3 [(0, .ref (ad 1)), (1, .int a1), (2, .int a2)] := hl
  unfold fX8_partStand at hf
  refine lv_aload_n (pc := 0) hx hb dX8_partStand_0 rfl (lv_at hl 0 rfl) ?_
  refine z_get (pc := 1) (index := 9) hx hb hts iwX8_partStand_8 hown hI (xl_1 ad cy u) rfl 0 (by decide) (by decide +kernel) rfl rfl dX8_partStand_1 ?_
  refine lv_iload_n (pc := 4) hx hb dX8_partStand_4 rfl (lv_at hl 1 rfl) ?_
  refine z_iald (pc := 5) hx hb hI (xl_2 ad cy u) 0 rfl dX8_partStand_5 hf (fun v1 hf => ?_)
  refine lv_bipush (pc := 6) (v := 10) hx hb dX8_partStand_6 (by decide) ?_
  refine lv_iload_n (pc := 8) hx hb dX8_partStand_8 rfl (lv_at hl 2 rfl) ?_
  refine lv_isub (pc := 9) hx hb dX8_partStand_9 ?_
  refine lv_imul (pc := 10) hx hb dX8_partStand_10 ?_
  cases hf
  exact z_iret (pc := 11) C0 hI dX8_partStand_11
set_option maxHeartbeats 4000000 in
set_option maxRecDepth 100000 in
theorem lX8_stand_4 (C0 : zFix p m c cX8_stand 4 s args wsX8_stand RX8 meth (some .int)) {k : Nat} {p1 : Int32} {u : CX} {a : Int32 × Int32} {b : Int32} (hit : ziter (bX8_stand_4 k p1 u) k a = some b) (hx9 : (fun (b : Int32) => ∀ (H : Heap) (locs : List Loc) (ls : Array Slot), zIn D ad cy (WX ad cy u) A s H locs → lv_has ls 4 [(2, .int b)] → W p l e ({ frames := 1, cells := 0, slots := 0, locals := 22 } : Room) s m args below meth c H locs 0 0 Q (F0 m 28 ls [])) b) : (fun (a : Int32 × Int32) => ∀ (H : Heap) (locs : List Loc) (ls : Array Slot), zIn D ad cy (WX ad cy u) A s H locs → lv_has ls 4 [(0, .ref (ad 1)), (1, .int p1), (2, .int a.1), (3, .int a.2)] → W p l e ({ frames := 1, cells := 0, slots := 0, locals := 22 } : Room) s m args below meth c H locs 0 0 Q (F0 m 4 ls [])) a := by
  obtain ⟨hx, hb, hml, hown, hts, hr, hlk⟩ := id C0
  refine zloop (Wh := (fun (a : Int32 × Int32) => ∀ (H : Heap) (locs : List Loc) (ls : Array Slot), zIn D ad cy (WX ad cy u) A s H locs → lv_has ls 4 [(0, .ref (ad 1)), (1, .int p1), (2, .int a.1), (3, .int a.2)] → W p l e ({ frames := 1, cells := 0, slots := 0, locals := 22 } : Room) s m args below meth c H locs 0 0 Q (F0 m 4 ls []))) (Wx := (fun (b : Int32) => ∀ (H : Heap) (locs : List Loc) (ls : Array Slot), zIn D ad cy (WX ad cy u) A s H locs → lv_has ls 4 [(2, .int b)] → W p l e ({ frames := 1, cells := 0, slots := 0, locals := 22 } : Room) s m args below meth c H locs 0 0 Q (F0 m 28 ls []))) ?_ _ a b hit hx9
  intro a x hf hL hX H locs ls hI hl
  unfold bX8_stand_4 at hf
  refine lv_iload_n (pc := 4) hx hb dX8_stand_4 rfl (lv_at hl 3 rfl) ?_
  refine lv_iconst (pc := 5) (v := 4) hx hb dX8_stand_5 (by decide) ?_
  refine z_icmp_ge (pc := 6) (tgt := 28) hx hb dX8_stand_6 (by decide) hf (fun hf => ?_) (fun hf => ?_)
  · exact (hX _ (Option.some.inj hf).symm) _ _ _ hI (lv_sub hl [2] rfl)
  refine lv_iload_n (pc := 9) hx hb dX8_stand_9 rfl (lv_at hl 2 rfl) ?_
  refine lv_aload_n (pc := 10) hx hb dX8_stand_10 rfl (lv_at hl 0 rfl) ?_
  refine lv_iload_n (pc := 11) hx hb dX8_stand_11 rfl (lv_at hl 3 rfl) ?_
  refine lv_iload_n (pc := 12) hx hb dX8_stand_12 rfl (lv_at hl 1 rfl) ?_
  refine lv_iload_n (pc := 13) hx hb dX8_stand_13 rfl (lv_at hl 3 rfl) ?_
  obtain ⟨q2, hc1, hf⟩ := zbind hf
  refine zcallSNi (pc := 14) (As := [.int p1, .int a.2]) (rest := [.int a.2, .ref (ad 1), .int a.1]) ⟨hx, hb, hml, hown, hts⟩ (kX9_figure l p1 a.2 q2 hc1) ⟨va_cnB 2 hts gX8_stand_X9_figure_n48 rfl rfl rfl (hI.2.2.2.2.2.1 _ (List.mem_of_getElem? (i := 8) rfl)) (hts (.initialized RX9) (by decide +kernel)) (by decide +kernel) ⟨Nat.le_of_ble_eq_true rfl, Nat.le_of_ble_eq_true rfl⟩, hts (.static yX9_figure) (by decide +kernel), trivial⟩ rfl hl.1 rfl (Nat.le_of_ble_eq_true rfl) dX8_stand_14 (Nat.zero_le _) (Nat.zero_le _) ?_
  obtain ⟨q4, hc3, hf⟩ := zbind hf
  refine zcallVi (pc := 17) (As := [.int a.2, .int q2]) (rest := [.int a.1]) ⟨hx, hb, hml, hown, hts⟩ (kX8_partStand l D ad cy a.2 q2 u q4 hc3) (cwV 2 hts gX8_stand_X8_partStand rfl rfl rfl (by decide +kernel) ⟨Nat.le_of_ble_eq_true rfl, Nat.le_of_ble_eq_true rfl⟩) hI rfl (xl_1 ad cy u) rfl hl.1 rfl (Nat.le_of_ble_eq_true rfl) dX8_stand_17 (Nat.zero_le _) (Nat.zero_le _) (fun H locs hI => ?_)
  refine lv_iadd (pc := 20) hx hb dX8_stand_20 ?_
  refine z_bi hf (fun v5 hf => ?_)
  refine lv_istore_n (pc := 21) (lv' := [(2, .int v5), (0, .ref (ad 1)), (1, .int p1), (3, .int a.2)]) hx hb dX8_stand_21 rfl hl (by decide) rfl (fun ls hl => ?_)
  refine lv_iinc (pc := 22) (v := (a.2 + 1)) (lv' := [(3, .int (a.2 + 1)), (2, .int v5), (0, .ref (ad 1)), (1, .int p1)]) hx hb dX8_stand_22 hl (k := 3) rfl rfl (by decide) rfl (fun ls hl => ?_)
  refine lv_goto (pc := 25) (tgt := 4) hx hb dX8_stand_25 (by decide) ?_
  exact hL _ (Option.some.inj hf).symm _ _ _ hI (lv_sub hl [2, 3, 1, 0] rfl)
set_option maxHeartbeats 4000000 in
set_option maxRecDepth 100000 in
theorem kX8_stand (l : Launch) (D : va_G) (ad : Nat → Nat) (cy : Nat → ClassId) (k : Nat) (a1 : Int32) (u : CX) (r : Int32) (hf : fX8_stand k a1 u = some r) : zCt l yX8_stand wsX8_stand ({ frames := 1, cells := 0, slots := 0, locals := 22 } : Room) D ad cy [.ref (ad 1), .int a1] (WX ad cy u) (some (.int r)) (WX ad cy u) := by
  refine zCt.of (cc := cX8_stand) (maxL := 4) (ret := (some .int)) (own := RX8) (by decide) rfl rfl ?_
  intro p e s m below meth c A C0 hI
  obtain ⟨hx, hb, hml, hown, hts, hr, hlk⟩ := id C0
  refine z_entry (Nat.le_of_ble_eq_true rfl) (fun ls hl => ?_)
  have hl : lv_has ls 4 [(0, .ref (ad 1)), (1, .int a1)] := hl
  unfold fX8_stand at hf
  refine lv_iconst (pc := 0) (v := 0) hx hb dX8_stand_0 (by decide) ?_
  refine lv_istore_n (pc := 1) (lv' := [(2, .int (0 : Int32)), (0, .ref (ad 1)), (1, .int a1)]) hx hb dX8_stand_1 rfl hl (by decide) rfl (fun ls hl => ?_)
  refine lv_iconst (pc := 2) (v := 0) hx hb dX8_stand_2 (by decide) ?_
  refine lv_istore_n (pc := 3) (lv' := [(3, .int (0 : Int32)), (2, .int (0 : Int32)), (0, .ref (ad 1)), (1, .int a1)]) hx hb dX8_stand_3 rfl hl (by decide) rfl (fun ls hl => ?_)
  obtain ⟨b6, hb7, hf⟩ := zbind hf
  refine lX8_stand_4 C0 hb7 ?_ _ _ _ hI (lv_sub hl [2, 3, 1, 0] rfl)
  intro H locs ls hI hl
  refine lv_iload_n (pc := 28) hx hb dX8_stand_28 rfl (lv_at hl 0 rfl) ?_
  cases hf
  exact z_iret (pc := 29) C0 hI dX8_stand_29
set_option maxHeartbeats 4000000 in
set_option maxRecDepth 100000 in
theorem lX8_homesTop_17 (C0 : zFix p m c cX8_homesTop 7 s args wsX8_homesTop RX8 meth (some .long)) {k : Nat} {p1 : Int32} {p2 : Int64} {u : CX} {a : Int64 × Int32} {b : Int64} (hit : ziter (bX8_homesTop_17 k p1 p2 u) k a = some b) (hx9 : (fun (b : Int64) => ∀ (H : Heap) (locs : List Loc) (ls : Array Slot), zIn D ad cy (WX ad cy u) A s H locs → lv_has ls 7 [(4, .long b)] → W p l e ({ frames := 1, cells := 0, slots := 0, locals := 20 } : Room) s m args below meth c H locs 0 0 Q (F0 m 48 ls [])) b) : (fun (a : Int64 × Int32) => ∀ (H : Heap) (locs : List Loc) (ls : Array Slot), zIn D ad cy (WX ad cy u) A s H locs → lv_has ls 7 [(0, .ref (ad 1)), (1, .int p1), (2, .long p2), (4, .long a.1), (6, .int a.2)] → W p l e ({ frames := 1, cells := 0, slots := 0, locals := 20 } : Room) s m args below meth c H locs 0 0 Q (F0 m 17 ls [])) a := by
  obtain ⟨hx, hb, hml, hown, hts, hr, hlk⟩ := id C0
  refine zloop (Wh := (fun (a : Int64 × Int32) => ∀ (H : Heap) (locs : List Loc) (ls : Array Slot), zIn D ad cy (WX ad cy u) A s H locs → lv_has ls 7 [(0, .ref (ad 1)), (1, .int p1), (2, .long p2), (4, .long a.1), (6, .int a.2)] → W p l e ({ frames := 1, cells := 0, slots := 0, locals := 20 } : Room) s m args below meth c H locs 0 0 Q (F0 m 17 ls []))) (Wx := (fun (b : Int64) => ∀ (H : Heap) (locs : List Loc) (ls : Array Slot), zIn D ad cy (WX ad cy u) A s H locs → lv_has ls 7 [(4, .long b)] → W p l e ({ frames := 1, cells := 0, slots := 0, locals := 20 } : Room) s m args below meth c H locs 0 0 Q (F0 m 48 ls []))) ?_ _ a b hit hx9
  intro a x hf hL hX H locs ls hI hl
  unfold bX8_homesTop_17 at hf
  refine lv_iload (pc := 17) hx hb dX8_homesTop_17 (lv_at hl 4 rfl) ?_
  refine lv_iconst (pc := 19) (v := 3) hx hb dX8_homesTop_19 (by decide) ?_
  refine z_icmp_ge (pc := 20) (tgt := 48) hx hb dX8_homesTop_20 (by decide) hf (fun hf => ?_) (fun hf => ?_)
  · exact (hX _ (Option.some.inj hf).symm) _ _ _ hI (lv_sub hl [3] rfl)
  refine lv_lload (pc := 23) hx hb dX8_homesTop_23 (lv_at hl 3 rfl) ?_
  refine lv_iload (pc := 25) hx hb dX8_homesTop_25 (lv_at hl 4 rfl) ?_
  refine lv_iload_n (pc := 27) hx hb dX8_homesTop_27 rfl (lv_at hl 1 rfl) ?_
  refine z_icmp_ge (pc := 28) (tgt := 35) hx hb dX8_homesTop_28 (by decide) hf (fun hf => ?_) (fun hf => ?_)
  · refine lv_aload_n (pc := 35) hx hb dX8_homesTop_35 rfl (lv_at hl 0 rfl) ?_
    refine z_get (pc := 36) (index := 39) hx hb hts iwX8_homesTop_8 hown hI (xl_1 ad cy u) rfl 4 (by decide) (by decide +kernel) rfl rfl dX8_homesTop_36 ?_
    refine lv_lmul (pc := 39) hx hb dX8_homesTop_39 ?_
    refine z_bl hf (fun v5 hf => ?_)
    refine lv_lstore (pc := 40) (lv' := [(4, .long v5), (0, .ref (ad 1)), (1, .int p1), (2, .long p2), (6, .int a.2)]) hx hb dX8_homesTop_40 hl (by decide) rfl (fun ls hl => ?_)
    refine lv_iinc (pc := 42) (v := (a.2 + 1)) (lv' := [(6, .int (a.2 + 1)), (4, .long v5), (0, .ref (ad 1)), (1, .int p1), (2, .long p2)]) hx hb dX8_homesTop_42 hl (k := 4) rfl rfl (by decide) rfl (fun ls hl => ?_)
    refine lv_goto (pc := 45) (tgt := 17) hx hb dX8_homesTop_45 (by decide) ?_
    exact hL _ (Option.some.inj hf).symm _ _ _ hI (lv_sub hl [2, 3, 4, 1, 0] rfl)
  refine lv_lload_n (pc := 31) hx hb dX8_homesTop_31 rfl (lv_at hl 2 rfl) ?_
  refine lv_goto (pc := 32) (tgt := 39) hx hb dX8_homesTop_32 (by decide) ?_
  refine lv_lmul (pc := 39) hx hb dX8_homesTop_39 ?_
  refine z_bl hf (fun v6 hf => ?_)
  refine lv_lstore (pc := 40) (lv' := [(4, .long v6), (0, .ref (ad 1)), (1, .int p1), (2, .long p2), (6, .int a.2)]) hx hb dX8_homesTop_40 hl (by decide) rfl (fun ls hl => ?_)
  refine lv_iinc (pc := 42) (v := (a.2 + 1)) (lv' := [(6, .int (a.2 + 1)), (4, .long v6), (0, .ref (ad 1)), (1, .int p1), (2, .long p2)]) hx hb dX8_homesTop_42 hl (k := 4) rfl rfl (by decide) rfl (fun ls hl => ?_)
  refine lv_goto (pc := 45) (tgt := 17) hx hb dX8_homesTop_45 (by decide) ?_
  exact hL _ (Option.some.inj hf).symm _ _ _ hI (lv_sub hl [2, 3, 4, 1, 0] rfl)
set_option maxHeartbeats 4000000 in
set_option maxRecDepth 100000 in
theorem kX8_homesTop (l : Launch) (D : va_G) (ad : Nat → Nat) (cy : Nat → ClassId) (k : Nat) (a1 : Int32) (a2 : Int64) (u : CX) (r : Int64) (hf : fX8_homesTop k a1 a2 u = some r) : zCt l yX8_homesTop wsX8_homesTop ({ frames := 1, cells := 0, slots := 0, locals := 20 } : Room) D ad cy [.ref (ad 1), .int a1, .long a2] (WX ad cy u) (some (.long r)) (WX ad cy u) := by
  refine zCt.of (cc := cX8_homesTop) (maxL := 7) (ret := (some .long)) (own := RX8) (by decide) rfl rfl ?_
  intro p e s m below meth c A C0 hI
  obtain ⟨hx, hb, hml, hown, hts, hr, hlk⟩ := id C0
  refine z_entry (Nat.le_of_ble_eq_true rfl) (fun ls hl => ?_)
  have hl : lv_has ls 7 [(0, .ref (ad 1)), (1, .int a1), (2, .long a2)] := hl
  unfold fX8_homesTop at hf
  refine lv_aload_n (pc := 0) hx hb dX8_homesTop_0 rfl (lv_at hl 0 rfl) ?_
  refine z_get (pc := 1) (index := 15) hx hb hts iwX8_homesTop_8 hown hI (xl_1 ad cy u) rfl 1 (by decide) (by decide +kernel) rfl rfl dX8_homesTop_1 ?_
  refine lv_iload_n (pc := 4) hx hb dX8_homesTop_4 rfl (lv_at hl 1 rfl) ?_
  refine z_iald (pc := 5) hx hb hI (xl_3 ad cy u) 0 rfl dX8_homesTop_5 hf (fun v1 hf => ?_)
  refine lv_i2l (pc := 6) hx hb dX8_homesTop_6 rfl ?_
  refine lv_aload_n (pc := 7) hx hb dX8_homesTop_7 rfl (lv_at hl 0 rfl) ?_
  obtain ⟨q3, hc2, hf⟩ := zbind hf
  refine zcallVl (pc := 8) (As := []) (rest := [.long (v1.toInt64)]) ⟨hx, hb, hml, hown, hts⟩ (kX8_notOther l D ad cy u q3 hc2) (cwV 0 hts gX8_homesTop_X8_notOther rfl rfl rfl (by decide +kernel) ⟨Nat.le_of_ble_eq_true rfl, Nat.le_of_ble_eq_true rfl⟩) hI rfl (xl_1 ad cy u) rfl hl.1 rfl (Nat.le_of_ble_eq_true rfl) dX8_homesTop_8 (Nat.zero_le _) (Nat.zero_le _) (fun H locs hI => ?_)
  refine lv_lmul (pc := 11) hx hb dX8_homesTop_11 ?_
  refine z_bl hf (fun v4 hf => ?_)
  refine lv_lstore (pc := 12) (lv' := [(4, .long v4), (0, .ref (ad 1)), (1, .int a1), (2, .long a2)]) hx hb dX8_homesTop_12 hl (by decide) rfl (fun ls hl => ?_)
  refine lv_iconst (pc := 14) (v := 0) hx hb dX8_homesTop_14 (by decide) ?_
  refine lv_istore (pc := 15) (lv' := [(6, .int (0 : Int32)), (4, .long v4), (0, .ref (ad 1)), (1, .int a1), (2, .long a2)]) hx hb dX8_homesTop_15 hl (by decide) rfl (fun ls hl => ?_)
  obtain ⟨b7, hb8, hf⟩ := zbind hf
  refine lX8_homesTop_17 C0 hb8 ?_ _ _ _ hI (lv_sub hl [2, 3, 4, 1, 0] rfl)
  intro H locs ls hI hl
  refine lv_lload (pc := 48) hx hb dX8_homesTop_48 (lv_at hl 0 rfl) ?_
  cases hf
  exact z_lret (pc := 50) C0 hI dX8_homesTop_50
set_option maxHeartbeats 4000000 in
set_option maxRecDepth 100000 in
theorem kX8_holeRate (l : Launch) (D : va_G) (ad : Nat → Nat) (cy : Nat → ClassId) (a1 : Int64) (u : CX) (r : Int64) (hf : fX8_holeRate a1 u = some r) : zCt l yX8_holeRate wsX8_holeRate ({ frames := 1, cells := 0, slots := 0, locals := 20 } : Room) D ad cy [.ref (ad 1), .long a1] (WX ad cy u) (some (.long r)) (WX ad cy u) := by
  refine zCt.of (cc := cX8_holeRate) (maxL := 3) (ret := (some .long)) (own := RX8) (by decide) rfl rfl ?_
  intro p e s m below meth c A C0 hI
  obtain ⟨hx, hb, hml, hown, hts, hr, hlk⟩ := id C0
  refine z_entry (Nat.le_of_ble_eq_true rfl) (fun ls hl => ?_)
  have hl : lv_has ls 3 [(0, .ref (ad 1)), (1, .long a1)] := hl
  unfold fX8_holeRate at hf
  refine lv_aload_n (pc := 0) hx hb dX8_holeRate_0 rfl (lv_at hl 0 rfl) ?_
  refine z_get (pc := 1) (index := 15) hx hb hts iwX8_holeRate_8 hown hI (xl_1 ad cy u) rfl 1 (by decide) (by decide +kernel) rfl rfl dX8_holeRate_1 ?_
  refine lv_iconst (pc := 4) (v := 1) hx hb dX8_holeRate_4 (by decide) ?_
  refine z_iald (pc := 5) hx hb hI (xl_3 ad cy u) 0 rfl dX8_holeRate_5 hf (fun v1 hf => ?_)
  refine lv_i2l (pc := 6) hx hb dX8_holeRate_6 rfl ?_
  refine lv_aload_n (pc := 7) hx hb dX8_holeRate_7 rfl (lv_at hl 0 rfl) ?_
  refine z_get (pc := 8) (index := 39) hx hb hts iwX8_holeRate_8 hown hI (xl_1 ad cy u) rfl 4 (by decide) (by decide +kernel) rfl rfl dX8_holeRate_8 ?_
  refine lv_lmul (pc := 11) hx hb dX8_holeRate_11 ?_
  refine lv_aload_n (pc := 12) hx hb dX8_holeRate_12 rfl (lv_at hl 0 rfl) ?_
  refine z_get (pc := 13) (index := 39) hx hb hts iwX8_holeRate_8 hown hI (xl_1 ad cy u) rfl 4 (by decide) (by decide +kernel) rfl rfl dX8_holeRate_13 ?_
  refine lv_lmul (pc := 16) hx hb dX8_holeRate_16 ?_
  refine lv_iconst (pc := 17) (v := 2) hx hb dX8_holeRate_17 (by decide) ?_
  refine lv_aload_n (pc := 18) hx hb dX8_holeRate_18 rfl (lv_at hl 0 rfl) ?_
  refine z_get (pc := 19) (index := 15) hx hb hts iwX8_holeRate_8 hown hI (xl_1 ad cy u) rfl 1 (by decide) (by decide +kernel) rfl rfl dX8_holeRate_19 ?_
  refine lv_iconst (pc := 22) (v := 2) hx hb dX8_holeRate_22 (by decide) ?_
  refine z_iald (pc := 23) hx hb hI (xl_3 ad cy u) 0 rfl dX8_holeRate_23 hf (fun v2 hf => ?_)
  refine lv_imul (pc := 24) hx hb dX8_holeRate_24 ?_
  refine lv_i2l (pc := 25) hx hb dX8_holeRate_25 rfl ?_
  refine lv_lload_n (pc := 26) hx hb dX8_holeRate_26 rfl (lv_at hl 1 rfl) ?_
  refine lv_lmul (pc := 27) hx hb dX8_holeRate_27 ?_
  refine lv_aload_n (pc := 28) hx hb dX8_holeRate_28 rfl (lv_at hl 0 rfl) ?_
  refine z_get (pc := 29) (index := 39) hx hb hts iwX8_holeRate_8 hown hI (xl_1 ad cy u) rfl 4 (by decide) (by decide +kernel) rfl rfl dX8_holeRate_29 ?_
  refine lv_lmul (pc := 32) hx hb dX8_holeRate_32 ?_
  refine lv_ladd (pc := 33) hx hb dX8_holeRate_33 ?_
  refine lv_iconst (pc := 34) (v := 3) hx hb dX8_holeRate_34 (by decide) ?_
  refine lv_aload_n (pc := 35) hx hb dX8_holeRate_35 rfl (lv_at hl 0 rfl) ?_
  refine z_get (pc := 36) (index := 15) hx hb hts iwX8_holeRate_8 hown hI (xl_1 ad cy u) rfl 1 (by decide) (by decide +kernel) rfl rfl dX8_holeRate_36 ?_
  refine lv_iconst (pc := 39) (v := 3) hx hb dX8_holeRate_39 (by decide) ?_
  refine z_iald (pc := 40) hx hb hI (xl_3 ad cy u) 0 rfl dX8_holeRate_40 hf (fun v3 hf => ?_)
  refine lv_imul (pc := 41) hx hb dX8_holeRate_41 ?_
  refine lv_i2l (pc := 42) hx hb dX8_holeRate_42 rfl ?_
  refine lv_lload_n (pc := 43) hx hb dX8_holeRate_43 rfl (lv_at hl 1 rfl) ?_
  refine lv_lmul (pc := 44) hx hb dX8_holeRate_44 ?_
  refine lv_lload_n (pc := 45) hx hb dX8_holeRate_45 rfl (lv_at hl 1 rfl) ?_
  refine lv_lmul (pc := 46) hx hb dX8_holeRate_46 ?_
  refine lv_ladd (pc := 47) hx hb dX8_holeRate_47 ?_
  refine lv_aload_n (pc := 48) hx hb dX8_holeRate_48 rfl (lv_at hl 0 rfl) ?_
  obtain ⟨q5, hc4, hf⟩ := zbind hf
  refine zcallVl (pc := 49) (As := []) (rest := [.long (((((v1.toInt64) * (xg_Tscale u)) * (xg_Tscale u)) + (((((2 : Int32) * v2).toInt64) * a1) * (xg_Tscale u))) + (((((3 : Int32) * v3).toInt64) * a1) * a1))]) ⟨hx, hb, hml, hown, hts⟩ (kX8_notOther l D ad cy u q5 hc4) (cwV 0 hts gX8_holeRate_X8_notOther rfl rfl rfl (by decide +kernel) ⟨Nat.le_of_ble_eq_true rfl, Nat.le_of_ble_eq_true rfl⟩) hI rfl (xl_1 ad cy u) rfl hl.1 rfl (Nat.le_of_ble_eq_true rfl) dX8_holeRate_49 (Nat.zero_le _) (Nat.zero_le _) (fun H locs hI => ?_)
  refine lv_lmul (pc := 52) hx hb dX8_holeRate_52 ?_
  cases hf
  exact z_lret (pc := 53) C0 hI dX8_holeRate_53
end
