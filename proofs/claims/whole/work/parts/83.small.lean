/-! Terms and Plating alone: contracts on worlds that hold only their own cells (printed by wip/gen/small.py) -/
def WT (ad : Nat → Nat) (cy : Nat → ClassId) (u : CX) : va_W := [(ad 1, .inr (8, [.ref (ad 2), .ref (ad 3), .int (xg_TallAreas u), .int (xg_TallHits u), .long (xg_Tscale u), .long (xg_Tbottom u)])), (ad 2, .inl (cy 0, 12, .inl (xg_Tparts u))), (ad 3, .inl (cy 0, 7, .inl (xg_Trules u)))]
theorem tl_1 (ad : Nat → Nat) (cy : Nat → ClassId) (u : CX) : (WT ad cy u)[0]? = some (ad 1, .inr (8, [.ref (ad 2), .ref (ad 3), .int (xg_TallAreas u), .int (xg_TallHits u), .long (xg_Tscale u), .long (xg_Tbottom u)])) := rfl
theorem tw_TallAreas (ad : Nat → Nat) (cy : Nat → ClassId) (u : CX) (v : Int32) : (WT ad cy u).set 0 (ad 1, .inr (8, [.ref (ad 2), .ref (ad 3), .int (xg_TallAreas u), .int (xg_TallHits u), .long (xg_Tscale u), .long (xg_Tbottom u)].set 2 (.int v))) = WT ad cy (xs_TallAreas u v) := rfl
theorem tw_TallHits (ad : Nat → Nat) (cy : Nat → ClassId) (u : CX) (v : Int32) : (WT ad cy u).set 0 (ad 1, .inr (8, [.ref (ad 2), .ref (ad 3), .int (xg_TallAreas u), .int (xg_TallHits u), .long (xg_Tscale u), .long (xg_Tbottom u)].set 3 (.int v))) = WT ad cy (xs_TallHits u v) := rfl
theorem tw_Tscale (ad : Nat → Nat) (cy : Nat → ClassId) (u : CX) (v : Int64) : (WT ad cy u).set 0 (ad 1, .inr (8, [.ref (ad 2), .ref (ad 3), .int (xg_TallAreas u), .int (xg_TallHits u), .long (xg_Tscale u), .long (xg_Tbottom u)].set 4 (.long v))) = WT ad cy (xs_Tscale u v) := rfl
theorem tw_Tbottom (ad : Nat → Nat) (cy : Nat → ClassId) (u : CX) (v : Int64) : (WT ad cy u).set 0 (ad 1, .inr (8, [.ref (ad 2), .ref (ad 3), .int (xg_TallAreas u), .int (xg_TallHits u), .long (xg_Tscale u), .long (xg_Tbottom u)].set 5 (.long v))) = WT ad cy (xs_Tbottom u v) := rfl
theorem tl_2 (ad : Nat → Nat) (cy : Nat → ClassId) (u : CX) : (WT ad cy u)[1]? = some (ad 2, .inl (cy 0, 12, .inl (xg_Tparts u))) := rfl
theorem tw_Tparts (ad : Nat → Nat) (cy : Nat → ClassId) (u : CX) (v : Nat → Int32) : (WT ad cy u).set 1 (ad 2, .inl (cy 0, 12, .inl v)) = WT ad cy (xs_Tparts u v) := rfl
theorem tl_3 (ad : Nat → Nat) (cy : Nat → ClassId) (u : CX) : (WT ad cy u)[2]? = some (ad 3, .inl (cy 0, 7, .inl (xg_Trules u))) := rfl
theorem tw_Trules (ad : Nat → Nat) (cy : Nat → ClassId) (u : CX) (v : Nat → Int32) : (WT ad cy u).set 2 (ad 3, .inl (cy 0, 7, .inl v)) = WT ad cy (xs_Trules u v) := rfl
def WQ (ad : Nat → Nat) (cy : Nat → ClassId) (u : CX) : va_W := [(ad 32, .inr (4, [.ref (ad 1), .ref (ad 33), .ref (ad 34), .ref (ad 35)])), (ad 33, .inl (cy 3, 16, .inl (xg_light u))), (ad 34, .inl (cy 2, 64, .inr (.inl (xg_factors u)))), (ad 35, .inl (cy 0, 16, .inl (xg_stands u))), (ad 1, .inr (8, [.ref (ad 2), .ref (ad 3), .int (xg_TallAreas u), .int (xg_TallHits u), .long (xg_Tscale u), .long (xg_Tbottom u)])), (ad 2, .inl (cy 0, 12, .inl (xg_Tparts u))), (ad 3, .inl (cy 0, 7, .inl (xg_Trules u)))]
theorem ql_32 (ad : Nat → Nat) (cy : Nat → ClassId) (u : CX) : (WQ ad cy u)[0]? = some (ad 32, .inr (4, [.ref (ad 1), .ref (ad 33), .ref (ad 34), .ref (ad 35)])) := rfl
theorem ql_33 (ad : Nat → Nat) (cy : Nat → ClassId) (u : CX) : (WQ ad cy u)[1]? = some (ad 33, .inl (cy 3, 16, .inl (xg_light u))) := rfl
theorem qw_light (ad : Nat → Nat) (cy : Nat → ClassId) (u : CX) (v : Nat → Int32) : (WQ ad cy u).set 1 (ad 33, .inl (cy 3, 16, .inl v)) = WQ ad cy (xs_light u v) := rfl
theorem ql_34 (ad : Nat → Nat) (cy : Nat → ClassId) (u : CX) : (WQ ad cy u)[2]? = some (ad 34, .inl (cy 2, 64, .inr (.inl (xg_factors u)))) := rfl
theorem qw_factors (ad : Nat → Nat) (cy : Nat → ClassId) (u : CX) (v : Nat → Int64) : (WQ ad cy u).set 2 (ad 34, .inl (cy 2, 64, .inr (.inl v))) = WQ ad cy (xs_factors u v) := rfl
theorem ql_35 (ad : Nat → Nat) (cy : Nat → ClassId) (u : CX) : (WQ ad cy u)[3]? = some (ad 35, .inl (cy 0, 16, .inl (xg_stands u))) := rfl
theorem qw_stands (ad : Nat → Nat) (cy : Nat → ClassId) (u : CX) (v : Nat → Int32) : (WQ ad cy u).set 3 (ad 35, .inl (cy 0, 16, .inl v)) = WQ ad cy (xs_stands u v) := rfl
theorem ql_1 (ad : Nat → Nat) (cy : Nat → ClassId) (u : CX) : (WQ ad cy u)[4]? = some (ad 1, .inr (8, [.ref (ad 2), .ref (ad 3), .int (xg_TallAreas u), .int (xg_TallHits u), .long (xg_Tscale u), .long (xg_Tbottom u)])) := rfl
theorem qw_TallAreas (ad : Nat → Nat) (cy : Nat → ClassId) (u : CX) (v : Int32) : (WQ ad cy u).set 4 (ad 1, .inr (8, [.ref (ad 2), .ref (ad 3), .int (xg_TallAreas u), .int (xg_TallHits u), .long (xg_Tscale u), .long (xg_Tbottom u)].set 2 (.int v))) = WQ ad cy (xs_TallAreas u v) := rfl
theorem qw_TallHits (ad : Nat → Nat) (cy : Nat → ClassId) (u : CX) (v : Int32) : (WQ ad cy u).set 4 (ad 1, .inr (8, [.ref (ad 2), .ref (ad 3), .int (xg_TallAreas u), .int (xg_TallHits u), .long (xg_Tscale u), .long (xg_Tbottom u)].set 3 (.int v))) = WQ ad cy (xs_TallHits u v) := rfl
theorem qw_Tscale (ad : Nat → Nat) (cy : Nat → ClassId) (u : CX) (v : Int64) : (WQ ad cy u).set 4 (ad 1, .inr (8, [.ref (ad 2), .ref (ad 3), .int (xg_TallAreas u), .int (xg_TallHits u), .long (xg_Tscale u), .long (xg_Tbottom u)].set 4 (.long v))) = WQ ad cy (xs_Tscale u v) := rfl
theorem qw_Tbottom (ad : Nat → Nat) (cy : Nat → ClassId) (u : CX) (v : Int64) : (WQ ad cy u).set 4 (ad 1, .inr (8, [.ref (ad 2), .ref (ad 3), .int (xg_TallAreas u), .int (xg_TallHits u), .long (xg_Tscale u), .long (xg_Tbottom u)].set 5 (.long v))) = WQ ad cy (xs_Tbottom u v) := rfl
theorem ql_2 (ad : Nat → Nat) (cy : Nat → ClassId) (u : CX) : (WQ ad cy u)[5]? = some (ad 2, .inl (cy 0, 12, .inl (xg_Tparts u))) := rfl
theorem qw_Tparts (ad : Nat → Nat) (cy : Nat → ClassId) (u : CX) (v : Nat → Int32) : (WQ ad cy u).set 5 (ad 2, .inl (cy 0, 12, .inl v)) = WQ ad cy (xs_Tparts u v) := rfl
theorem ql_3 (ad : Nat → Nat) (cy : Nat → ClassId) (u : CX) : (WQ ad cy u)[6]? = some (ad 3, .inl (cy 0, 7, .inl (xg_Trules u))) := rfl
theorem qw_Trules (ad : Nat → Nat) (cy : Nat → ClassId) (u : CX) (v : Nat → Int32) : (WQ ad cy u).set 6 (ad 3, .inl (cy 0, 7, .inl v)) = WQ ad cy (xs_Trules u v) := rfl
section
variable {p : Program} {l : Launch} {e : Env} {s : State} {m : MethodId} {args : Array Value} {below : List Frame} {meth : Method} {c : Code} {A : Nat → Prop} {Q : State → Prop} {D : va_G} {ad : Nat → Nat} {cy : Nat → ClassId}
set_option maxHeartbeats 4000000 in
set_option maxRecDepth 100000 in
theorem lX8_standAsUntold_t_2 (C0 : zFix p m c cX8_standAsUntold 2 s args wsX8_standAsUntold RX8 meth none) {k : Nat} {a : Int32 × CX} {b : CX} (hit : ziter (bX8_standAsUntold_2 k) k a = some b) (hx9 : (fun (b : CX) => ∀ (H : Heap) (locs : List Loc) (ls : Array Slot), zIn D ad cy (WT ad cy b) A s H locs → lv_has ls 2 [(0, .ref (ad 1))] → W p l e ({ frames := 0, cells := 0, slots := 0, locals := 0 } : Room) s m args below meth c H locs 0 0 Q (F0 m 47 ls [])) b) : (fun (a : Int32 × CX) => ∀ (H : Heap) (locs : List Loc) (ls : Array Slot), zIn D ad cy (WT ad cy a.2) A s H locs → lv_has ls 2 [(0, .ref (ad 1)), (1, .int a.1)] → W p l e ({ frames := 0, cells := 0, slots := 0, locals := 0 } : Room) s m args below meth c H locs 0 0 Q (F0 m 2 ls [])) a := by
  obtain ⟨hx, hb, hml, hown, hts, hr, hlk⟩ := id C0
  refine zloop (Wh := (fun (a : Int32 × CX) => ∀ (H : Heap) (locs : List Loc) (ls : Array Slot), zIn D ad cy (WT ad cy a.2) A s H locs → lv_has ls 2 [(0, .ref (ad 1)), (1, .int a.1)] → W p l e ({ frames := 0, cells := 0, slots := 0, locals := 0 } : Room) s m args below meth c H locs 0 0 Q (F0 m 2 ls []))) (Wx := (fun (b : CX) => ∀ (H : Heap) (locs : List Loc) (ls : Array Slot), zIn D ad cy (WT ad cy b) A s H locs → lv_has ls 2 [(0, .ref (ad 1))] → W p l e ({ frames := 0, cells := 0, slots := 0, locals := 0 } : Room) s m args below meth c H locs 0 0 Q (F0 m 47 ls []))) ?_ _ a b hit hx9
  intro a x hf hL hX H locs ls hI hl
  unfold bX8_standAsUntold_2 at hf
  refine lv_iload_n (pc := 2) hx hb dX8_standAsUntold_2 rfl (lv_at hl 1 rfl) ?_
  refine lv_iconst (pc := 3) (v := 4) hx hb dX8_standAsUntold_3 (by decide) ?_
  refine z_icmp_ge (pc := 4) (tgt := 47) hx hb dX8_standAsUntold_4 (by decide) hf (fun hf => ?_) (fun hf => ?_)
  · exact (hX _ (Option.some.inj hf).symm) _ _ _ hI (lv_sub hl [0] rfl)
  refine lv_aload_n (pc := 7) hx hb dX8_standAsUntold_7 rfl (lv_at hl 0 rfl) ?_
  refine z_get (pc := 8) (index := 9) hx hb hts iwX8_standAsUntold_8 hown hI (tl_1 ad cy a.2) rfl 0 (by decide) (by decide +kernel) rfl rfl dX8_standAsUntold_8 ?_
  refine lv_iload_n (pc := 11) hx hb dX8_standAsUntold_11 rfl (lv_at hl 1 rfl) ?_
  refine lv_bipush (pc := 12) (v := 10) hx hb dX8_standAsUntold_12 (by decide) ?_
  refine z_iast (wf := WT ad cy) (pc := 14) hx hb hI (tl_2 ad cy a.2) 0 rfl dX8_standAsUntold_14 (fun j => tw_Tparts ad cy a.2 (upd (xg_Tparts a.2) j (10 : Int32))) hf (fun j1 u2 H locs hj1 hI hf => ?_)
  refine lv_aload_n (pc := 15) hx hb dX8_standAsUntold_15 rfl (lv_at hl 0 rfl) ?_
  refine z_get (pc := 16) (index := 9) hx hb hts iwX8_standAsUntold_8 hown hI (tl_1 ad cy u2) rfl 0 (by decide) (by decide +kernel) rfl rfl dX8_standAsUntold_16 ?_
  refine lv_iconst (pc := 19) (v := 4) hx hb dX8_standAsUntold_19 (by decide) ?_
  refine lv_iload_n (pc := 20) hx hb dX8_standAsUntold_20 rfl (lv_at hl 1 rfl) ?_
  refine lv_iadd (pc := 21) hx hb dX8_standAsUntold_21 ?_
  refine lv_iconst (pc := 22) (v := 2) hx hb dX8_standAsUntold_22 (by decide) ?_
  refine z_iast (wf := WT ad cy) (pc := 23) hx hb hI (tl_2 ad cy u2) 0 rfl dX8_standAsUntold_23 (fun j => tw_Tparts ad cy u2 (upd (xg_Tparts u2) j (2 : Int32))) hf (fun j3 u4 H locs hj3 hI hf => ?_)
  refine lv_aload_n (pc := 24) hx hb dX8_standAsUntold_24 rfl (lv_at hl 0 rfl) ?_
  refine z_get (pc := 25) (index := 9) hx hb hts iwX8_standAsUntold_8 hown hI (tl_1 ad cy u4) rfl 0 (by decide) (by decide +kernel) rfl rfl dX8_standAsUntold_25 ?_
  refine lv_bipush (pc := 28) (v := 8) hx hb dX8_standAsUntold_28 (by decide) ?_
  refine lv_iload_n (pc := 30) hx hb dX8_standAsUntold_30 rfl (lv_at hl 1 rfl) ?_
  refine lv_iadd (pc := 31) hx hb dX8_standAsUntold_31 ?_
  refine lv_iconst (pc := 32) (v := 5) hx hb dX8_standAsUntold_32 (by decide) ?_
  refine z_iast (wf := WT ad cy) (pc := 33) hx hb hI (tl_2 ad cy u4) 0 rfl dX8_standAsUntold_33 (fun j => tw_Tparts ad cy u4 (upd (xg_Tparts u4) j (5 : Int32))) hf (fun j5 u6 H locs hj5 hI hf => ?_)
  refine lv_aload_n (pc := 34) hx hb dX8_standAsUntold_34 rfl (lv_at hl 0 rfl) ?_
  refine z_get (pc := 35) (index := 15) hx hb hts iwX8_standAsUntold_8 hown hI (tl_1 ad cy u6) rfl 1 (by decide) (by decide +kernel) rfl rfl dX8_standAsUntold_35 ?_
  refine lv_iload_n (pc := 38) hx hb dX8_standAsUntold_38 rfl (lv_at hl 1 rfl) ?_
  refine lv_iconst (pc := 39) (v := 1) hx hb dX8_standAsUntold_39 (by decide) ?_
  refine z_iast (wf := WT ad cy) (pc := 40) hx hb hI (tl_3 ad cy u6) 0 rfl dX8_standAsUntold_40 (fun j => tw_Trules ad cy u6 (upd (xg_Trules u6) j (1 : Int32))) hf (fun j7 u8 H locs hj7 hI hf => ?_)
  refine lv_iinc (pc := 41) (v := (a.1 + 1)) (lv' := [(1, .int (a.1 + 1)), (0, .ref (ad 1))]) hx hb dX8_standAsUntold_41 hl (k := 1) rfl rfl (by decide) rfl (fun ls hl => ?_)
  refine lv_goto (pc := 44) (tgt := 2) hx hb dX8_standAsUntold_44 (by decide) ?_
  exact hL _ (Option.some.inj hf).symm _ _ _ hI (lv_sub hl [1, 0] rfl)
set_option maxHeartbeats 4000000 in
set_option maxRecDepth 100000 in
theorem kX8_standAsUntold_t (l : Launch) (D : va_G) (ad : Nat → Nat) (cy : Nat → ClassId) (k : Nat) (u : CX) (u' : CX) (hf : fX8_standAsUntold k u = some u') : zCt l yX8_standAsUntold wsX8_standAsUntold ({ frames := 0, cells := 0, slots := 0, locals := 0 } : Room) D ad cy [.ref (ad 1)] (WT ad cy u) none (WT ad cy u') := by
  refine zCt.of (cc := cX8_standAsUntold) (maxL := 2) (ret := none) (own := RX8) (by decide) rfl rfl ?_
  intro p e s m below meth c A C0 hI
  obtain ⟨hx, hb, hml, hown, hts, hr, hlk⟩ := id C0
  refine z_entry (Nat.le_of_ble_eq_true rfl) (fun ls hl => ?_)
  have hl : lv_has ls 2 [(0, .ref (ad 1))] := hl
  unfold fX8_standAsUntold at hf
  refine lv_iconst (pc := 0) (v := 0) hx hb dX8_standAsUntold_0 (by decide) ?_
  refine lv_istore_n (pc := 1) (lv' := [(1, .int (0 : Int32)), (0, .ref (ad 1))]) hx hb dX8_standAsUntold_1 rfl hl (by decide) rfl (fun ls hl => ?_)
  obtain ⟨b9, hb10, hf⟩ := zbind hf
  refine lX8_standAsUntold_t_2 C0 hb10 ?_ _ _ _ hI (lv_sub hl [1, 0] rfl)
  intro H locs ls hI hl
  refine lv_aload_n (pc := 47) hx hb dX8_standAsUntold_47 rfl (lv_at hl 0 rfl) ?_
  refine z_get (pc := 48) (index := 15) hx hb hts iwX8_standAsUntold_8 hown hI (tl_1 ad cy b9) rfl 1 (by decide) (by decide +kernel) rfl rfl dX8_standAsUntold_48 ?_
  refine lv_iconst (pc := 51) (v := 4) hx hb dX8_standAsUntold_51 (by decide) ?_
  refine lv_iconst (pc := 52) (v := 0) hx hb dX8_standAsUntold_52 (by decide) ?_
  refine z_iast (wf := WT ad cy) (pc := 53) hx hb hI (tl_3 ad cy b9) 0 rfl dX8_standAsUntold_53 (fun j => tw_Trules ad cy b9 (upd (xg_Trules b9) j (0 : Int32))) hf (fun j11 u12 H locs hj11 hI hf => ?_)
  refine lv_aload_n (pc := 54) hx hb dX8_standAsUntold_54 rfl (lv_at hl 0 rfl) ?_
  refine z_get (pc := 55) (index := 15) hx hb hts iwX8_standAsUntold_8 hown hI (tl_1 ad cy u12) rfl 1 (by decide) (by decide +kernel) rfl rfl dX8_standAsUntold_55 ?_
  refine lv_iconst (pc := 58) (v := 5) hx hb dX8_standAsUntold_58 (by decide) ?_
  refine lv_iconst (pc := 59) (v := 5) hx hb dX8_standAsUntold_59 (by decide) ?_
  refine z_iast (wf := WT ad cy) (pc := 60) hx hb hI (tl_3 ad cy u12) 0 rfl dX8_standAsUntold_60 (fun j => tw_Trules ad cy u12 (upd (xg_Trules u12) j (5 : Int32))) hf (fun j13 u14 H locs hj13 hI hf => ?_)
  refine lv_aload_n (pc := 61) hx hb dX8_standAsUntold_61 rfl (lv_at hl 0 rfl) ?_
  refine z_get (pc := 62) (index := 15) hx hb hts iwX8_standAsUntold_8 hown hI (tl_1 ad cy u14) rfl 1 (by decide) (by decide +kernel) rfl rfl dX8_standAsUntold_62 ?_
  refine lv_bipush (pc := 65) (v := 6) hx hb dX8_standAsUntold_65 (by decide) ?_
  refine lv_bipush (pc := 67) (v := 10) hx hb dX8_standAsUntold_67 (by decide) ?_
  refine z_iast (wf := WT ad cy) (pc := 69) hx hb hI (tl_3 ad cy u14) 0 rfl dX8_standAsUntold_69 (fun j => tw_Trules ad cy u14 (upd (xg_Trules u14) j (10 : Int32))) hf (fun j15 u16 H locs hj15 hI hf => ?_)
  cases hf
  exact z_vret (pc := 70) C0 hI dX8_standAsUntold_70
set_option maxHeartbeats 4000000 in
set_option maxRecDepth 100000 in
theorem lX8_settle_t_12 (C0 : zFix p m c cX8_settle 2 s args wsX8_settle RX8 meth none) {k : Nat} {a : Int32 × CX} {b : CX} (hit : ziter (bX8_settle_12 k) k a = some b) (hx9 : (fun (b : CX) => ∀ (H : Heap) (locs : List Loc) (ls : Array Slot), zIn D ad cy (WT ad cy b) A s H locs → lv_has ls 2 [(0, .ref (ad 1))] → W p l e ({ frames := 0, cells := 0, slots := 0, locals := 0 } : Room) s m args below meth c H locs 0 0 Q (F0 m 53 ls [])) b) : (fun (a : Int32 × CX) => ∀ (H : Heap) (locs : List Loc) (ls : Array Slot), zIn D ad cy (WT ad cy a.2) A s H locs → lv_has ls 2 [(0, .ref (ad 1)), (1, .int a.1)] → W p l e ({ frames := 0, cells := 0, slots := 0, locals := 0 } : Room) s m args below meth c H locs 0 0 Q (F0 m 12 ls [])) a := by
  obtain ⟨hx, hb, hml, hown, hts, hr, hlk⟩ := id C0
  refine zloop (Wh := (fun (a : Int32 × CX) => ∀ (H : Heap) (locs : List Loc) (ls : Array Slot), zIn D ad cy (WT ad cy a.2) A s H locs → lv_has ls 2 [(0, .ref (ad 1)), (1, .int a.1)] → W p l e ({ frames := 0, cells := 0, slots := 0, locals := 0 } : Room) s m args below meth c H locs 0 0 Q (F0 m 12 ls []))) (Wx := (fun (b : CX) => ∀ (H : Heap) (locs : List Loc) (ls : Array Slot), zIn D ad cy (WT ad cy b) A s H locs → lv_has ls 2 [(0, .ref (ad 1))] → W p l e ({ frames := 0, cells := 0, slots := 0, locals := 0 } : Room) s m args below meth c H locs 0 0 Q (F0 m 53 ls []))) ?_ _ a b hit hx9
  intro a x hf hL hX H locs ls hI hl
  unfold bX8_settle_12 at hf
  refine lv_iload_n (pc := 12) hx hb dX8_settle_12 rfl (lv_at hl 1 rfl) ?_
  refine lv_iconst (pc := 13) (v := 4) hx hb dX8_settle_13 (by decide) ?_
  refine z_icmp_ge (pc := 14) (tgt := 53) hx hb dX8_settle_14 (by decide) hf (fun hf => ?_) (fun hf => ?_)
  · exact (hX _ (Option.some.inj hf).symm) _ _ _ hI (lv_sub hl [0] rfl)
  refine lv_aload_n (pc := 17) hx hb dX8_settle_17 rfl (lv_at hl 0 rfl) ?_
  refine lv_dup (pc := 18) hx hb dX8_settle_18 rfl ?_
  refine z_get (pc := 19) (index := 30) hx hb hts iwX8_settle_8 hown hI (tl_1 ad cy a.2) rfl 2 (by decide) (by decide +kernel) rfl rfl dX8_settle_19 ?_
  refine lv_aload_n (pc := 22) hx hb dX8_settle_22 rfl (lv_at hl 0 rfl) ?_
  refine z_get (pc := 23) (index := 9) hx hb hts iwX8_settle_8 hown hI (tl_1 ad cy a.2) rfl 0 (by decide) (by decide +kernel) rfl rfl dX8_settle_23 ?_
  refine lv_iload_n (pc := 26) hx hb dX8_settle_26 rfl (lv_at hl 1 rfl) ?_
  refine z_iald (pc := 27) hx hb hI (tl_2 ad cy a.2) 0 rfl dX8_settle_27 hf (fun v3 hf => ?_)
  refine lv_iadd (pc := 28) hx hb dX8_settle_28 ?_
  refine z_put (wf := WT ad cy) (pc := 29) (index := 30) hx hb hts iwX8_settle_8 tyX8 tyX8_ok nmX8 hown hI (tl_1 ad cy a.2) rfl 2 (by decide) (by decide +kernel) rfl rfl rfl rfl (Nat.le_of_ble_eq_true rfl) dX8_settle_29 (tw_TallAreas ad cy a.2 ((xg_TallAreas a.2) + v3)) hf (fun u4 H locs hI hf => ?_)
  refine lv_aload_n (pc := 32) hx hb dX8_settle_32 rfl (lv_at hl 0 rfl) ?_
  refine lv_dup (pc := 33) hx hb dX8_settle_33 rfl ?_
  refine z_get (pc := 34) (index := 34) hx hb hts iwX8_settle_8 hown hI (tl_1 ad cy u4) rfl 3 (by decide) (by decide +kernel) rfl rfl dX8_settle_34 ?_
  refine lv_aload_n (pc := 37) hx hb dX8_settle_37 rfl (lv_at hl 0 rfl) ?_
  refine z_get (pc := 38) (index := 15) hx hb hts iwX8_settle_8 hown hI (tl_1 ad cy u4) rfl 1 (by decide) (by decide +kernel) rfl rfl dX8_settle_38 ?_
  refine lv_iload_n (pc := 41) hx hb dX8_settle_41 rfl (lv_at hl 1 rfl) ?_
  refine z_iald (pc := 42) hx hb hI (tl_3 ad cy u4) 0 rfl dX8_settle_42 hf (fun v5 hf => ?_)
  refine lv_iadd (pc := 43) hx hb dX8_settle_43 ?_
  refine z_put (wf := WT ad cy) (pc := 44) (index := 34) hx hb hts iwX8_settle_8 tyX8 tyX8_ok nmX8 hown hI (tl_1 ad cy u4) rfl 3 (by decide) (by decide +kernel) rfl rfl rfl rfl (Nat.le_of_ble_eq_true rfl) dX8_settle_44 (tw_TallHits ad cy u4 ((xg_TallHits u4) + v5)) hf (fun u6 H locs hI hf => ?_)
  refine lv_iinc (pc := 47) (v := (a.1 + 1)) (lv' := [(1, .int (a.1 + 1)), (0, .ref (ad 1))]) hx hb dX8_settle_47 hl (k := 1) rfl rfl (by decide) rfl (fun ls hl => ?_)
  refine lv_goto (pc := 50) (tgt := 12) hx hb dX8_settle_50 (by decide) ?_
  exact hL _ (Option.some.inj hf).symm _ _ _ hI (lv_sub hl [1, 0] rfl)
set_option maxHeartbeats 4000000 in
set_option maxRecDepth 100000 in
theorem kX8_settle_t (l : Launch) (D : va_G) (ad : Nat → Nat) (cy : Nat → ClassId) (k : Nat) (u : CX) (u' : CX) (hf : fX8_settle k u = some u') : zCt l yX8_settle wsX8_settle ({ frames := 0, cells := 0, slots := 0, locals := 0 } : Room) D ad cy [.ref (ad 1)] (WT ad cy u) none (WT ad cy u') := by
  refine zCt.of (cc := cX8_settle) (maxL := 2) (ret := none) (own := RX8) (by decide) rfl rfl ?_
  intro p e s m below meth c A C0 hI
  obtain ⟨hx, hb, hml, hown, hts, hr, hlk⟩ := id C0
  refine z_entry (Nat.le_of_ble_eq_true rfl) (fun ls hl => ?_)
  have hl : lv_has ls 2 [(0, .ref (ad 1))] := hl
  unfold fX8_settle at hf
  refine lv_aload_n (pc := 0) hx hb dX8_settle_0 rfl (lv_at hl 0 rfl) ?_
  refine lv_iconst (pc := 1) (v := 0) hx hb dX8_settle_1 (by decide) ?_
  refine z_put (wf := WT ad cy) (pc := 2) (index := 30) hx hb hts iwX8_settle_8 tyX8 tyX8_ok nmX8 hown hI (tl_1 ad cy u) rfl 2 (by decide) (by decide +kernel) rfl rfl rfl rfl (Nat.le_of_ble_eq_true rfl) dX8_settle_2 (tw_TallAreas ad cy u (0 : Int32)) hf (fun u1 H locs hI hf => ?_)
  refine lv_aload_n (pc := 5) hx hb dX8_settle_5 rfl (lv_at hl 0 rfl) ?_
  refine lv_iconst (pc := 6) (v := 0) hx hb dX8_settle_6 (by decide) ?_
  refine z_put (wf := WT ad cy) (pc := 7) (index := 34) hx hb hts iwX8_settle_8 tyX8 tyX8_ok nmX8 hown hI (tl_1 ad cy u1) rfl 3 (by decide) (by decide +kernel) rfl rfl rfl rfl (Nat.le_of_ble_eq_true rfl) dX8_settle_7 (tw_TallHits ad cy u1 (0 : Int32)) hf (fun u2 H locs hI hf => ?_)
  refine lv_iconst (pc := 10) (v := 0) hx hb dX8_settle_10 (by decide) ?_
  refine lv_istore_n (pc := 11) (lv' := [(1, .int (0 : Int32)), (0, .ref (ad 1))]) hx hb dX8_settle_11 rfl hl (by decide) rfl (fun ls hl => ?_)
  obtain ⟨b7, hb8, hf⟩ := zbind hf
  refine lX8_settle_t_12 C0 hb8 ?_ _ _ _ hI (lv_sub hl [1, 0] rfl)
  intro H locs ls hI hl
  refine lv_aload_n (pc := 53) hx hb dX8_settle_53 rfl (lv_at hl 0 rfl) ?_
  refine lv_ldc2 (pc := 54) (v := 10) hx hb hown (hts (.constantLong RX8 37 (10)) (by decide +kernel)) dX8_settle_54 ?_
  refine lv_aload_n (pc := 57) hx hb dX8_settle_57 rfl (lv_at hl 0 rfl) ?_
  refine z_get (pc := 58) (index := 30) hx hb hts iwX8_settle_8 hown hI (tl_1 ad cy b7) rfl 2 (by decide) (by decide +kernel) rfl rfl dX8_settle_58 ?_
  refine lv_i2l (pc := 61) hx hb dX8_settle_61 rfl ?_
  refine lv_lmul (pc := 62) hx hb dX8_settle_62 ?_
  refine z_put (wf := WT ad cy) (pc := 63) (index := 39) hx hb hts iwX8_settle_8 tyX8 tyX8_ok nmX8 hown hI (tl_1 ad cy b7) rfl 4 (by decide) (by decide +kernel) rfl rfl rfl rfl (Nat.le_of_ble_eq_true rfl) dX8_settle_63 (tw_Tscale ad cy b7 ((10 : Int64) * ((xg_TallAreas b7).toInt64))) hf (fun u9 H locs hI hf => ?_)
  refine lv_aload_n (pc := 66) hx hb dX8_settle_66 rfl (lv_at hl 0 rfl) ?_
  refine lv_aload_n (pc := 67) hx hb dX8_settle_67 rfl (lv_at hl 0 rfl) ?_
  refine z_get (pc := 68) (index := 34) hx hb hts iwX8_settle_8 hown hI (tl_1 ad cy u9) rfl 3 (by decide) (by decide +kernel) rfl rfl dX8_settle_68 ?_
  refine lv_i2l (pc := 71) hx hb dX8_settle_71 rfl ?_
  refine lv_aload_n (pc := 72) hx hb dX8_settle_72 rfl (lv_at hl 0 rfl) ?_
  refine z_get (pc := 73) (index := 39) hx hb hts iwX8_settle_8 hown hI (tl_1 ad cy u9) rfl 4 (by decide) (by decide +kernel) rfl rfl dX8_settle_73 ?_
  refine lv_lmul (pc := 76) hx hb dX8_settle_76 ?_
  refine lv_aload_n (pc := 77) hx hb dX8_settle_77 rfl (lv_at hl 0 rfl) ?_
  refine z_get (pc := 78) (index := 39) hx hb hts iwX8_settle_8 hown hI (tl_1 ad cy u9) rfl 4 (by decide) (by decide +kernel) rfl rfl dX8_settle_78 ?_
  refine lv_lmul (pc := 81) hx hb dX8_settle_81 ?_
  refine lv_aload_n (pc := 82) hx hb dX8_settle_82 rfl (lv_at hl 0 rfl) ?_
  refine z_get (pc := 83) (index := 39) hx hb hts iwX8_settle_8 hown hI (tl_1 ad cy u9) rfl 4 (by decide) (by decide +kernel) rfl rfl dX8_settle_83 ?_
  refine lv_lmul (pc := 86) hx hb dX8_settle_86 ?_
  refine lv_ldc2 (pc := 87) (v := 1000) hx hb hown (hts (.constantLong RX8 43 (1000)) (by decide +kernel)) dX8_settle_87 ?_
  refine lv_lmul (pc := 90) hx hb dX8_settle_90 ?_
  refine z_put (wf := WT ad cy) (pc := 91) (index := 45) hx hb hts iwX8_settle_8 tyX8 tyX8_ok nmX8 hown hI (tl_1 ad cy u9) rfl 5 (by decide) (by decide +kernel) rfl rfl rfl rfl (Nat.le_of_ble_eq_true rfl) dX8_settle_91 (tw_Tbottom ad cy u9 ((((((xg_TallHits u9).toInt64) * (xg_Tscale u9)) * (xg_Tscale u9)) * (xg_Tscale u9)) * (1000 : Int64))) hf (fun u10 H locs hI hf => ?_)
  cases hf
  exact z_vret (pc := 94) C0 hI dX8_settle_94
set_option maxHeartbeats 4000000 in
set_option maxRecDepth 100000 in
theorem lX4_weightOf_t_4 (C0 : zFix p m c cX4_weightOf 4 s args wsX4_weightOf RX4 meth (some .int)) {k : Nat} {p1 : Int32} {u : CX} {a : Int32 × Int32} {b : Int32} (hit : ziter (bX4_weightOf_4 k p1 u) k a = some b) (hx9 : (fun (b : Int32) => ∀ (H : Heap) (locs : List Loc) (ls : Array Slot), zIn D ad cy (WQ ad cy u) A s H locs → lv_has ls 4 [(2, .int b)] → W p l e ({ frames := 0, cells := 0, slots := 0, locals := 0 } : Room) s m args below meth c H locs 0 0 Q (F0 m 43 ls [])) b) : (fun (a : Int32 × Int32) => ∀ (H : Heap) (locs : List Loc) (ls : Array Slot), zIn D ad cy (WQ ad cy u) A s H locs → lv_has ls 4 [(0, .ref (ad 32)), (1, .int p1), (2, .int a.1), (3, .int a.2)] → W p l e ({ frames := 0, cells := 0, slots := 0, locals := 0 } : Room) s m args below meth c H locs 0 0 Q (F0 m 4 ls [])) a := by
  obtain ⟨hx, hb, hml, hown, hts, hr, hlk⟩ := id C0
  refine zloop (Wh := (fun (a : Int32 × Int32) => ∀ (H : Heap) (locs : List Loc) (ls : Array Slot), zIn D ad cy (WQ ad cy u) A s H locs → lv_has ls 4 [(0, .ref (ad 32)), (1, .int p1), (2, .int a.1), (3, .int a.2)] → W p l e ({ frames := 0, cells := 0, slots := 0, locals := 0 } : Room) s m args below meth c H locs 0 0 Q (F0 m 4 ls []))) (Wx := (fun (b : Int32) => ∀ (H : Heap) (locs : List Loc) (ls : Array Slot), zIn D ad cy (WQ ad cy u) A s H locs → lv_has ls 4 [(2, .int b)] → W p l e ({ frames := 0, cells := 0, slots := 0, locals := 0 } : Room) s m args below meth c H locs 0 0 Q (F0 m 43 ls []))) ?_ _ a b hit hx9
  intro a x hf hL hX H locs ls hI hl
  unfold bX4_weightOf_4 at hf
  refine lv_iload_n (pc := 4) hx hb dX4_weightOf_4 rfl (lv_at hl 3 rfl) ?_
  refine lv_iconst (pc := 5) (v := 4) hx hb dX4_weightOf_5 (by decide) ?_
  refine z_icmp_ge (pc := 6) (tgt := 43) hx hb dX4_weightOf_6 (by decide) hf (fun hf => ?_) (fun hf => ?_)
  · exact (hX _ (Option.some.inj hf).symm) _ _ _ hI (lv_sub hl [2] rfl)
  refine lv_iload_n (pc := 9) hx hb dX4_weightOf_9 rfl (lv_at hl 2 rfl) ?_
  refine lv_iload_n (pc := 10) hx hb dX4_weightOf_10 rfl (lv_at hl 1 rfl) ?_
  refine lv_iload_n (pc := 11) hx hb dX4_weightOf_11 rfl (lv_at hl 3 rfl) ?_
  refine lv_ishr (pc := 12) hx hb dX4_weightOf_12 ?_
  refine lv_iconst (pc := 13) (v := 1) hx hb dX4_weightOf_13 (by decide) ?_
  refine lv_iand (pc := 14) hx hb dX4_weightOf_14 ?_
  refine lv_iconst (pc := 15) (v := 1) hx hb dX4_weightOf_15 (by decide) ?_
  refine z_icmp_ne (pc := 16) (tgt := 34) hx hb dX4_weightOf_16 (by decide) hf (fun hf => ?_) (fun hf => ?_)
  · refine lv_iconst (pc := 34) (v := 0) hx hb dX4_weightOf_34 (by decide) ?_
    refine lv_iadd (pc := 35) hx hb dX4_weightOf_35 ?_
    refine z_bi hf (fun v1 hf => ?_)
    refine lv_istore_n (pc := 36) (lv' := [(2, .int v1), (0, .ref (ad 32)), (1, .int p1), (3, .int a.2)]) hx hb dX4_weightOf_36 rfl hl (by decide) rfl (fun ls hl => ?_)
    refine lv_iinc (pc := 37) (v := (a.2 + 1)) (lv' := [(3, .int (a.2 + 1)), (2, .int v1), (0, .ref (ad 32)), (1, .int p1)]) hx hb dX4_weightOf_37 hl (k := 3) rfl rfl (by decide) rfl (fun ls hl => ?_)
    refine lv_goto (pc := 40) (tgt := 4) hx hb dX4_weightOf_40 (by decide) ?_
    exact hL _ (Option.some.inj hf).symm _ _ _ hI (lv_sub hl [2, 3, 1, 0] rfl)
  refine lv_aload_n (pc := 19) hx hb dX4_weightOf_19 rfl (lv_at hl 0 rfl) ?_
  refine z_get (pc := 20) (index := 23) hx hb hts iwX4_weightOf_4 hown hI (ql_32 ad cy u) rfl 0 (by decide) (by decide +kernel) rfl rfl dX4_weightOf_20 ?_
  refine z_get (pc := 23) (index := 76) hx hb hts iwX4_weightOf_8 hown hI (ql_1 ad cy u) rfl 0 (by decide) (by decide +kernel) rfl rfl dX4_weightOf_23 ?_
  refine lv_bipush (pc := 26) (v := 8) hx hb dX4_weightOf_26 (by decide) ?_
  refine lv_iload_n (pc := 28) hx hb dX4_weightOf_28 rfl (lv_at hl 3 rfl) ?_
  refine lv_iadd (pc := 29) hx hb dX4_weightOf_29 ?_
  refine z_iald (pc := 30) hx hb hI (ql_2 ad cy u) 0 rfl dX4_weightOf_30 hf (fun v2 hf => ?_)
  refine lv_goto (pc := 31) (tgt := 35) hx hb dX4_weightOf_31 (by decide) ?_
  refine lv_iadd (pc := 35) hx hb dX4_weightOf_35 ?_
  refine z_bi hf (fun v3 hf => ?_)
  refine lv_istore_n (pc := 36) (lv' := [(2, .int v3), (0, .ref (ad 32)), (1, .int p1), (3, .int a.2)]) hx hb dX4_weightOf_36 rfl hl (by decide) rfl (fun ls hl => ?_)
  refine lv_iinc (pc := 37) (v := (a.2 + 1)) (lv' := [(3, .int (a.2 + 1)), (2, .int v3), (0, .ref (ad 32)), (1, .int p1)]) hx hb dX4_weightOf_37 hl (k := 3) rfl rfl (by decide) rfl (fun ls hl => ?_)
  refine lv_goto (pc := 40) (tgt := 4) hx hb dX4_weightOf_40 (by decide) ?_
  exact hL _ (Option.some.inj hf).symm _ _ _ hI (lv_sub hl [2, 3, 1, 0] rfl)
set_option maxHeartbeats 4000000 in
set_option maxRecDepth 100000 in
theorem kX4_weightOf_t (l : Launch) (D : va_G) (ad : Nat → Nat) (cy : Nat → ClassId) (k : Nat) (a1 : Int32) (u : CX) (r : Int32) (hf : fX4_weightOf k a1 u = some r) : zCt l yX4_weightOf wsX4_weightOf ({ frames := 0, cells := 0, slots := 0, locals := 0 } : Room) D ad cy [.ref (ad 32), .int a1] (WQ ad cy u) (some (.int r)) (WQ ad cy u) := by
  refine zCt.of (cc := cX4_weightOf) (maxL := 4) (ret := (some .int)) (own := RX4) (by decide) rfl rfl ?_
  intro p e s m below meth c A C0 hI
  obtain ⟨hx, hb, hml, hown, hts, hr, hlk⟩ := id C0
  refine z_entry (Nat.le_of_ble_eq_true rfl) (fun ls hl => ?_)
  have hl : lv_has ls 4 [(0, .ref (ad 32)), (1, .int a1)] := hl
  unfold fX4_weightOf at hf
  refine lv_iconst (pc := 0) (v := 0) hx hb dX4_weightOf_0 (by decide) ?_
  refine lv_istore_n (pc := 1) (lv' := [(2, .int (0 : Int32)), (0, .ref (ad 32)), (1, .int a1)]) hx hb dX4_weightOf_1 rfl hl (by decide) rfl (fun ls hl => ?_)
  refine lv_iconst (pc := 2) (v := 0) hx hb dX4_weightOf_2 (by decide) ?_
  refine lv_istore_n (pc := 3) (lv' := [(3, .int (0 : Int32)), (2, .int (0 : Int32)), (0, .ref (ad 32)), (1, .int a1)]) hx hb dX4_weightOf_3 rfl hl (by decide) rfl (fun ls hl => ?_)
  obtain ⟨b4, hb5, hf⟩ := zbind hf
  refine lX4_weightOf_t_4 C0 hb5 ?_ _ _ _ hI (lv_sub hl [2, 3, 1, 0] rfl)
  intro H locs ls hI hl
  refine lv_iload_n (pc := 43) hx hb dX4_weightOf_43 rfl (lv_at hl 0 rfl) ?_
  cases hf
  exact z_iret (pc := 44) C0 hI dX4_weightOf_44
set_option maxHeartbeats 4000000 in
set_option maxRecDepth 100000 in
theorem kX4_settleFactors_t (l : Launch) (D : va_G) (ad : Nat → Nat) (cy : Nat → ClassId) (a1 : Int32) (a2 : Int64) (u : CX) (u' : CX) (hf : fX4_settleFactors a1 a2 u = some u') : zCt l yX4_settleFactors wsX4_settleFactors ({ frames := 0, cells := 0, slots := 0, locals := 0 } : Room) D ad cy [.ref (ad 32), .int a1, .long a2] (WQ ad cy u) none (WQ ad cy u') := by
  refine zCt.of (cc := cX4_settleFactors) (maxL := 8) (ret := none) (own := RX4) (by decide) rfl rfl ?_
  intro p e s m below meth c A C0 hI
  obtain ⟨hx, hb, hml, hown, hts, hr, hlk⟩ := id C0
  refine z_entry (Nat.le_of_ble_eq_true rfl) (fun ls hl => ?_)
  have hl : lv_has ls 8 [(0, .ref (ad 32)), (1, .int a1), (2, .long a2)] := hl
  unfold fX4_settleFactors at hf
  refine lv_aload_n (pc := 0) hx hb dX4_settleFactors_0 rfl (lv_at hl 0 rfl) ?_
  refine z_get (pc := 1) (index := 23) hx hb hts iwX4_settleFactors_4 hown hI (ql_32 ad cy u) rfl 0 (by decide) (by decide +kernel) rfl rfl dX4_settleFactors_1 ?_
  refine z_get (pc := 4) (index := 84) hx hb hts iwX4_settleFactors_8 hown hI (ql_1 ad cy u) rfl 4 (by decide) (by decide +kernel) rfl rfl dX4_settleFactors_4 ?_
  refine z_bl hf (fun v1 hf => ?_)
  refine lv_lstore (pc := 7) (lv' := [(4, .long v1), (0, .ref (ad 32)), (1, .int a1), (2, .long a2)]) hx hb dX4_settleFactors_7 hl (by decide) rfl (fun ls hl => ?_)
  refine lv_aload_n (pc := 9) hx hb dX4_settleFactors_9 rfl (lv_at hl 1 rfl) ?_
  refine z_get (pc := 10) (index := 23) hx hb hts iwX4_settleFactors_4 hown hI (ql_32 ad cy u) rfl 0 (by decide) (by decide +kernel) rfl rfl dX4_settleFactors_10 ?_
  refine z_get (pc := 13) (index := 34) hx hb hts iwX4_settleFactors_8 hown hI (ql_1 ad cy u) rfl 1 (by decide) (by decide +kernel) rfl rfl dX4_settleFactors_13 ?_
  refine lv_astore (pc := 16) (lv' := [(6, .ref (ad 3)), (4, .long v1), (0, .ref (ad 32)), (1, .int a1), (2, .long a2)]) hx hb dX4_settleFactors_16 hl (by decide) rfl (fun ls hl => ?_)
  refine lv_iconst (pc := 18) (v := 4) hx hb dX4_settleFactors_18 (by decide) ?_
  refine lv_iload_n (pc := 19) hx hb dX4_settleFactors_19 rfl (lv_at hl 3 rfl) ?_
  refine lv_imul (pc := 20) hx hb dX4_settleFactors_20 ?_
  refine z_bi hf (fun v2 hf => ?_)
  refine lv_istore (pc := 21) (lv' := [(7, .int v2), (6, .ref (ad 3)), (4, .long v1), (0, .ref (ad 32)), (1, .int a1), (2, .long a2)]) hx hb dX4_settleFactors_21 hl (by decide) rfl (fun ls hl => ?_)
  refine lv_aload_n (pc := 23) hx hb dX4_settleFactors_23 rfl (lv_at hl 3 rfl) ?_
  refine z_get (pc := 24) (index := 15) hx hb hts iwX4_settleFactors_4 hown hI (ql_32 ad cy u) rfl 2 (by decide) (by decide +kernel) rfl rfl dX4_settleFactors_24 ?_
  refine lv_iload (pc := 27) hx hb dX4_settleFactors_27 (lv_at hl 0 rfl) ?_
  refine lv_aload (pc := 29) hx hb dX4_settleFactors_29 (lv_at hl 1 rfl) ?_
  refine lv_iconst (pc := 31) (v := 0) hx hb dX4_settleFactors_31 (by decide) ?_
  refine z_iald (pc := 32) hx hb hI (ql_3 ad cy u) 0 rfl dX4_settleFactors_32 hf (fun v3 hf => ?_)
  refine lv_i2l (pc := 33) hx hb dX4_settleFactors_33 rfl ?_
  refine lv_ldc2 (pc := 34) (v := 100) hx hb hown (hts (.constantLong RX4 88 (100)) (by decide +kernel)) dX4_settleFactors_34 ?_
  refine lv_lload_n (pc := 37) hx hb dX4_settleFactors_37 rfl (lv_at hl 5 rfl) ?_
  refine lv_lsub (pc := 38) hx hb dX4_settleFactors_38 ?_
  refine lv_lmul (pc := 39) hx hb dX4_settleFactors_39 ?_
  refine lv_lload (pc := 40) hx hb dX4_settleFactors_40 (lv_at hl 2 rfl) ?_
  refine lv_lmul (pc := 42) hx hb dX4_settleFactors_42 ?_
  refine lv_lload (pc := 43) hx hb dX4_settleFactors_43 (lv_at hl 2 rfl) ?_
  refine lv_lmul (pc := 45) hx hb dX4_settleFactors_45 ?_
  refine lv_lload (pc := 46) hx hb dX4_settleFactors_46 (lv_at hl 2 rfl) ?_
  refine lv_lmul (pc := 48) hx hb dX4_settleFactors_48 ?_
  refine z_last (wf := WQ ad cy) (pc := 49) hx hb hI (ql_34 ad cy u) 2 rfl dX4_settleFactors_49 (fun j => qw_factors ad cy u (vp_updL (xg_factors u) j (((((v3.toInt64) * ((100 : Int64) - a2)) * v1) * v1) * v1))) hf (fun j4 u5 H locs hj4 hI hf => ?_)
  refine lv_aload_n (pc := 50) hx hb dX4_settleFactors_50 rfl (lv_at hl 3 rfl) ?_
  refine z_get (pc := 51) (index := 15) hx hb hts iwX4_settleFactors_4 hown hI (ql_32 ad cy u5) rfl 2 (by decide) (by decide +kernel) rfl rfl dX4_settleFactors_51 ?_
  refine lv_iload (pc := 54) hx hb dX4_settleFactors_54 (lv_at hl 0 rfl) ?_
  refine lv_iconst (pc := 56) (v := 1) hx hb dX4_settleFactors_56 (by decide) ?_
  refine lv_iadd (pc := 57) hx hb dX4_settleFactors_57 ?_
  refine lv_aload (pc := 58) hx hb dX4_settleFactors_58 (lv_at hl 1 rfl) ?_
  refine lv_iconst (pc := 60) (v := 1) hx hb dX4_settleFactors_60 (by decide) ?_
  refine z_iald (pc := 61) hx hb hI (ql_3 ad cy u5) 0 rfl dX4_settleFactors_61 hf (fun v6 hf => ?_)
  refine lv_i2l (pc := 62) hx hb dX4_settleFactors_62 rfl ?_
  refine lv_ldc2 (pc := 63) (v := 100) hx hb hown (hts (.constantLong RX4 88 (100)) (by decide +kernel)) dX4_settleFactors_63 ?_
  refine lv_lload_n (pc := 66) hx hb dX4_settleFactors_66 rfl (lv_at hl 5 rfl) ?_
  refine lv_lsub (pc := 67) hx hb dX4_settleFactors_67 ?_
  refine lv_lmul (pc := 68) hx hb dX4_settleFactors_68 ?_
  refine lv_aload (pc := 69) hx hb dX4_settleFactors_69 (lv_at hl 1 rfl) ?_
  refine lv_iconst (pc := 71) (v := 0) hx hb dX4_settleFactors_71 (by decide) ?_
  refine z_iald (pc := 72) hx hb hI (ql_3 ad cy u5) 0 rfl dX4_settleFactors_72 hf (fun v7 hf => ?_)
  refine lv_i2l (pc := 73) hx hb dX4_settleFactors_73 rfl ?_
  refine lv_lload_n (pc := 74) hx hb dX4_settleFactors_74 rfl (lv_at hl 5 rfl) ?_
  refine lv_lmul (pc := 75) hx hb dX4_settleFactors_75 ?_
  refine lv_ladd (pc := 76) hx hb dX4_settleFactors_76 ?_
  refine lv_lload (pc := 77) hx hb dX4_settleFactors_77 (lv_at hl 2 rfl) ?_
  refine lv_lmul (pc := 79) hx hb dX4_settleFactors_79 ?_
  refine lv_lload (pc := 80) hx hb dX4_settleFactors_80 (lv_at hl 2 rfl) ?_
  refine lv_lmul (pc := 82) hx hb dX4_settleFactors_82 ?_
  refine z_last (wf := WQ ad cy) (pc := 83) hx hb hI (ql_34 ad cy u5) 2 rfl dX4_settleFactors_83 (fun j => qw_factors ad cy u5 (vp_updL (xg_factors u5) j (((((v6.toInt64) * ((100 : Int64) - a2)) + ((v7.toInt64) * a2)) * v1) * v1))) hf (fun j8 u9 H locs hj8 hI hf => ?_)
  refine lv_aload_n (pc := 84) hx hb dX4_settleFactors_84 rfl (lv_at hl 3 rfl) ?_
  refine z_get (pc := 85) (index := 15) hx hb hts iwX4_settleFactors_4 hown hI (ql_32 ad cy u9) rfl 2 (by decide) (by decide +kernel) rfl rfl dX4_settleFactors_85 ?_
  refine lv_iload (pc := 88) hx hb dX4_settleFactors_88 (lv_at hl 0 rfl) ?_
  refine lv_iconst (pc := 90) (v := 2) hx hb dX4_settleFactors_90 (by decide) ?_
  refine lv_iadd (pc := 91) hx hb dX4_settleFactors_91 ?_
  refine lv_aload (pc := 92) hx hb dX4_settleFactors_92 (lv_at hl 1 rfl) ?_
  refine lv_iconst (pc := 94) (v := 2) hx hb dX4_settleFactors_94 (by decide) ?_
  refine z_iald (pc := 95) hx hb hI (ql_3 ad cy u9) 0 rfl dX4_settleFactors_95 hf (fun v10 hf => ?_)
  refine lv_i2l (pc := 96) hx hb dX4_settleFactors_96 rfl ?_
  refine lv_ldc2 (pc := 97) (v := 100) hx hb hown (hts (.constantLong RX4 88 (100)) (by decide +kernel)) dX4_settleFactors_97 ?_
  refine lv_lload_n (pc := 100) hx hb dX4_settleFactors_100 rfl (lv_at hl 5 rfl) ?_
  refine lv_lsub (pc := 101) hx hb dX4_settleFactors_101 ?_
  refine lv_lmul (pc := 102) hx hb dX4_settleFactors_102 ?_
  refine lv_aload (pc := 103) hx hb dX4_settleFactors_103 (lv_at hl 1 rfl) ?_
  refine lv_iconst (pc := 105) (v := 1) hx hb dX4_settleFactors_105 (by decide) ?_
  refine z_iald (pc := 106) hx hb hI (ql_3 ad cy u9) 0 rfl dX4_settleFactors_106 hf (fun v11 hf => ?_)
  refine lv_i2l (pc := 107) hx hb dX4_settleFactors_107 rfl ?_
  refine lv_lload_n (pc := 108) hx hb dX4_settleFactors_108 rfl (lv_at hl 5 rfl) ?_
  refine lv_lmul (pc := 109) hx hb dX4_settleFactors_109 ?_
  refine lv_ladd (pc := 110) hx hb dX4_settleFactors_110 ?_
  refine lv_lload (pc := 111) hx hb dX4_settleFactors_111 (lv_at hl 2 rfl) ?_
  refine lv_lmul (pc := 113) hx hb dX4_settleFactors_113 ?_
  refine z_last (wf := WQ ad cy) (pc := 114) hx hb hI (ql_34 ad cy u9) 2 rfl dX4_settleFactors_114 (fun j => qw_factors ad cy u9 (vp_updL (xg_factors u9) j ((((v10.toInt64) * ((100 : Int64) - a2)) + ((v11.toInt64) * a2)) * v1))) hf (fun j12 u13 H locs hj12 hI hf => ?_)
  refine lv_aload_n (pc := 115) hx hb dX4_settleFactors_115 rfl (lv_at hl 3 rfl) ?_
  refine z_get (pc := 116) (index := 15) hx hb hts iwX4_settleFactors_4 hown hI (ql_32 ad cy u13) rfl 2 (by decide) (by decide +kernel) rfl rfl dX4_settleFactors_116 ?_
  refine lv_iload (pc := 119) hx hb dX4_settleFactors_119 (lv_at hl 0 rfl) ?_
  refine lv_iconst (pc := 121) (v := 3) hx hb dX4_settleFactors_121 (by decide) ?_
  refine lv_iadd (pc := 122) hx hb dX4_settleFactors_122 ?_
  refine lv_aload (pc := 123) hx hb dX4_settleFactors_123 (lv_at hl 1 rfl) ?_
  refine lv_iconst (pc := 125) (v := 3) hx hb dX4_settleFactors_125 (by decide) ?_
  refine z_iald (pc := 126) hx hb hI (ql_3 ad cy u13) 0 rfl dX4_settleFactors_126 hf (fun v14 hf => ?_)
  refine lv_i2l (pc := 127) hx hb dX4_settleFactors_127 rfl ?_
  refine lv_ldc2 (pc := 128) (v := 100) hx hb hown (hts (.constantLong RX4 88 (100)) (by decide +kernel)) dX4_settleFactors_128 ?_
  refine lv_lmul (pc := 131) hx hb dX4_settleFactors_131 ?_
  refine lv_aload (pc := 132) hx hb dX4_settleFactors_132 (lv_at hl 1 rfl) ?_
  refine lv_iconst (pc := 134) (v := 2) hx hb dX4_settleFactors_134 (by decide) ?_
  refine z_iald (pc := 135) hx hb hI (ql_3 ad cy u13) 0 rfl dX4_settleFactors_135 hf (fun v15 hf => ?_)
  refine lv_i2l (pc := 136) hx hb dX4_settleFactors_136 rfl ?_
  refine lv_lload_n (pc := 137) hx hb dX4_settleFactors_137 rfl (lv_at hl 5 rfl) ?_
  refine lv_lmul (pc := 138) hx hb dX4_settleFactors_138 ?_
  refine lv_ladd (pc := 139) hx hb dX4_settleFactors_139 ?_
  refine z_last (wf := WQ ad cy) (pc := 140) hx hb hI (ql_34 ad cy u13) 2 rfl dX4_settleFactors_140 (fun j => qw_factors ad cy u13 (vp_updL (xg_factors u13) j (((v14.toInt64) * (100 : Int64)) + ((v15.toInt64) * a2)))) hf (fun j16 u17 H locs hj16 hI hf => ?_)
  cases hf
  exact z_vret (pc := 141) C0 hI dX4_settleFactors_141
set_option maxHeartbeats 4000000 in
set_option maxRecDepth 100000 in
theorem lX4_settle_t_2 (C0 : zFix p m c cX4_settle 3 s args wsX4_settle RX4 meth none) {k : Nat} {a : Int32 × CX} {b : CX} (hit : ziter (bX4_settle_2 k) k a = some b) (hx9 : (fun (b : CX) => ∀ (H : Heap) (locs : List Loc) (ls : Array Slot), zIn D ad cy (WQ ad cy b) A s H locs → lv_has ls 3 [] → W p l e ({ frames := 1, cells := 0, slots := 0, locals := 27 } : Room) s m args below meth c H locs 0 0 Q (F0 m 52 ls [])) b) : (fun (a : Int32 × CX) => ∀ (H : Heap) (locs : List Loc) (ls : Array Slot), zIn D ad cy (WQ ad cy a.2) A s H locs → lv_has ls 3 [(0, .ref (ad 32)), (1, .int a.1)] → W p l e ({ frames := 1, cells := 0, slots := 0, locals := 27 } : Room) s m args below meth c H locs 0 0 Q (F0 m 2 ls [])) a := by
  obtain ⟨hx, hb, hml, hown, hts, hr, hlk⟩ := id C0
  refine zloop (Wh := (fun (a : Int32 × CX) => ∀ (H : Heap) (locs : List Loc) (ls : Array Slot), zIn D ad cy (WQ ad cy a.2) A s H locs → lv_has ls 3 [(0, .ref (ad 32)), (1, .int a.1)] → W p l e ({ frames := 1, cells := 0, slots := 0, locals := 27 } : Room) s m args below meth c H locs 0 0 Q (F0 m 2 ls []))) (Wx := (fun (b : CX) => ∀ (H : Heap) (locs : List Loc) (ls : Array Slot), zIn D ad cy (WQ ad cy b) A s H locs → lv_has ls 3 [] → W p l e ({ frames := 1, cells := 0, slots := 0, locals := 27 } : Room) s m args below meth c H locs 0 0 Q (F0 m 52 ls []))) ?_ _ a b hit hx9
  intro a x hf hL hX H locs ls hI hl
  unfold bX4_settle_2 at hf
  refine lv_iload_n (pc := 2) hx hb dX4_settle_2 rfl (lv_at hl 1 rfl) ?_
  refine lv_bipush (pc := 3) (v := 16) hx hb dX4_settle_3 (by decide) ?_
  refine z_icmp_ge (pc := 5) (tgt := 52) hx hb dX4_settle_5 (by decide) hf (fun hf => ?_) (fun hf => ?_)
  · exact (hX _ (Option.some.inj hf).symm) _ _ _ hI (lv_sub hl [] rfl)
  refine lv_aload_n (pc := 8) hx hb dX4_settle_8 rfl (lv_at hl 0 rfl) ?_
  refine lv_iload_n (pc := 9) hx hb dX4_settle_9 rfl (lv_at hl 1 rfl) ?_
  obtain ⟨q2, hc1, hf⟩ := zbind hf
  refine zcallVi (pc := 10) (As := [.int a.1]) (rest := []) ⟨hx, hb, hml, hown, hts⟩ (kX4_weightOf_t l D ad cy k a.1 a.2 q2 hc1) (cwV 1 hts gX4_settle_X4_weightOf rfl rfl rfl (by decide +kernel) ⟨Nat.le_of_ble_eq_true rfl, Nat.le_of_ble_eq_true rfl⟩) hI rfl (ql_32 ad cy a.2) rfl hl.1 rfl (Nat.le_of_ble_eq_true rfl) dX4_settle_10 (Nat.zero_le _) (Nat.zero_le _) (fun H locs hI => ?_)
  refine lv_istore_n (pc := 13) (lv' := [(2, .int q2), (0, .ref (ad 32)), (1, .int a.1)]) hx hb dX4_settle_13 rfl hl (by decide) rfl (fun ls hl => ?_)
  refine lv_aload_n (pc := 14) hx hb dX4_settle_14 rfl (lv_at hl 1 rfl) ?_
  refine z_get (pc := 15) (index := 9) hx hb hts iwX4_settle_4 hown hI (ql_32 ad cy a.2) rfl 1 (by decide) (by decide +kernel) rfl rfl dX4_settle_15 ?_
  refine lv_iload_n (pc := 18) hx hb dX4_settle_18 rfl (lv_at hl 2 rfl) ?_
  refine lv_iload_n (pc := 19) hx hb dX4_settle_19 rfl (lv_at hl 0 rfl) ?_
  refine lv_aload_n (pc := 20) hx hb dX4_settle_20 rfl (lv_at hl 1 rfl) ?_
  refine z_get (pc := 21) (index := 23) hx hb hts iwX4_settle_4 hown hI (ql_32 ad cy a.2) rfl 0 (by decide) (by decide +kernel) rfl rfl dX4_settle_21 ?_
  refine z_get (pc := 24) (index := 34) hx hb hts iwX4_settle_8 hown hI (ql_1 ad cy a.2) rfl 1 (by decide) (by decide +kernel) rfl rfl dX4_settle_24 ?_
  refine lv_bipush (pc := 27) (v := 6) hx hb dX4_settle_27 (by decide) ?_
  refine z_iald (pc := 29) hx hb hI (ql_3 ad cy a.2) 0 rfl dX4_settle_29 hf (fun v3 hf => ?_)
  refine z_icmp_gt (pc := 30) (tgt := 37) hx hb dX4_settle_30 (by decide) hf (fun hf => ?_) (fun hf => ?_)
  · refine lv_iconst (pc := 37) (v := 0) hx hb dX4_settle_37 (by decide) ?_
    refine z_zast (wf := WQ ad cy) (pc := 38) hx hb hI (ql_33 ad cy a.2) 3 rfl dX4_settle_38 (fun j => qw_light ad cy a.2 (upd (xg_light a.2) j (vp_nar .boolean (0 : Int32)))) hf (fun j4 u5 H locs hj4 hI hf => ?_)
    refine lv_aload_n (pc := 39) hx hb dX4_settle_39 rfl (lv_at hl 1 rfl) ?_
    refine lv_iload_n (pc := 40) hx hb dX4_settle_40 rfl (lv_at hl 2 rfl) ?_
    refine lv_iload_n (pc := 41) hx hb dX4_settle_41 rfl (lv_at hl 0 rfl) ?_
    refine lv_i2l (pc := 42) hx hb dX4_settle_42 rfl ?_
    obtain ⟨q7, hc6, hf⟩ := zbind hf
    refine zcallVv (pc := 43) (As := [.int a.1, .long (q2.toInt64)]) (rest := []) ⟨hx, hb, hml, hown, hts⟩ (kX4_settleFactors_t l D ad cy a.1 (q2.toInt64) u5 q7 hc6) (cwV 2 hts gX4_settle_X4_settleFactors rfl rfl rfl (by decide +kernel) ⟨Nat.le_of_ble_eq_true rfl, Nat.le_of_ble_eq_true rfl⟩) hI rfl (ql_32 ad cy u5) rfl hl.1 rfl (Nat.le_of_ble_eq_true rfl) dX4_settle_43 (Nat.zero_le _) (Nat.zero_le _) (fun H locs hI => ?_)
    refine lv_iinc (pc := 46) (v := (a.1 + 1)) (lv' := [(1, .int (a.1 + 1)), (2, .int q2), (0, .ref (ad 32))]) hx hb dX4_settle_46 hl (k := 2) rfl rfl (by decide) rfl (fun ls hl => ?_)
    refine lv_goto (pc := 49) (tgt := 2) hx hb dX4_settle_49 (by decide) ?_
    exact hL _ (Option.some.inj hf).symm _ _ _ hI (lv_sub hl [2, 0] rfl)
  refine lv_iconst (pc := 33) (v := 1) hx hb dX4_settle_33 (by decide) ?_
  refine lv_goto (pc := 34) (tgt := 38) hx hb dX4_settle_34 (by decide) ?_
  refine z_zast (wf := WQ ad cy) (pc := 38) hx hb hI (ql_33 ad cy a.2) 3 rfl dX4_settle_38 (fun j => qw_light ad cy a.2 (upd (xg_light a.2) j (vp_nar .boolean (1 : Int32)))) hf (fun j8 u9 H locs hj8 hI hf => ?_)
  refine lv_aload_n (pc := 39) hx hb dX4_settle_39 rfl (lv_at hl 1 rfl) ?_
  refine lv_iload_n (pc := 40) hx hb dX4_settle_40 rfl (lv_at hl 2 rfl) ?_
  refine lv_iload_n (pc := 41) hx hb dX4_settle_41 rfl (lv_at hl 0 rfl) ?_
  refine lv_i2l (pc := 42) hx hb dX4_settle_42 rfl ?_
  obtain ⟨q11, hc10, hf⟩ := zbind hf
  refine zcallVv (pc := 43) (As := [.int a.1, .long (q2.toInt64)]) (rest := []) ⟨hx, hb, hml, hown, hts⟩ (kX4_settleFactors_t l D ad cy a.1 (q2.toInt64) u9 q11 hc10) (cwV 2 hts gX4_settle_X4_settleFactors rfl rfl rfl (by decide +kernel) ⟨Nat.le_of_ble_eq_true rfl, Nat.le_of_ble_eq_true rfl⟩) hI rfl (ql_32 ad cy u9) rfl hl.1 rfl (Nat.le_of_ble_eq_true rfl) dX4_settle_43 (Nat.zero_le _) (Nat.zero_le _) (fun H locs hI => ?_)
  refine lv_iinc (pc := 46) (v := (a.1 + 1)) (lv' := [(1, .int (a.1 + 1)), (2, .int q2), (0, .ref (ad 32))]) hx hb dX4_settle_46 hl (k := 2) rfl rfl (by decide) rfl (fun ls hl => ?_)
  refine lv_goto (pc := 49) (tgt := 2) hx hb dX4_settle_49 (by decide) ?_
  exact hL _ (Option.some.inj hf).symm _ _ _ hI (lv_sub hl [2, 0] rfl)
set_option maxHeartbeats 4000000 in
set_option maxRecDepth 100000 in
theorem kX4_settle_t (l : Launch) (D : va_G) (ad : Nat → Nat) (cy : Nat → ClassId) (k : Nat) (u : CX) (u' : CX) (hf : fX4_settle k u = some u') : zCt l yX4_settle wsX4_settle ({ frames := 1, cells := 0, slots := 0, locals := 27 } : Room) D ad cy [.ref (ad 32)] (WQ ad cy u) none (WQ ad cy u') := by
  refine zCt.of (cc := cX4_settle) (maxL := 3) (ret := none) (own := RX4) (by decide) rfl rfl ?_
  intro p e s m below meth c A C0 hI
  obtain ⟨hx, hb, hml, hown, hts, hr, hlk⟩ := id C0
  refine z_entry (Nat.le_of_ble_eq_true rfl) (fun ls hl => ?_)
  have hl : lv_has ls 3 [(0, .ref (ad 32))] := hl
  unfold fX4_settle at hf
  refine lv_iconst (pc := 0) (v := 0) hx hb dX4_settle_0 (by decide) ?_
  refine lv_istore_n (pc := 1) (lv' := [(1, .int (0 : Int32)), (0, .ref (ad 32))]) hx hb dX4_settle_1 rfl hl (by decide) rfl (fun ls hl => ?_)
  obtain ⟨b12, hb13, hf⟩ := zbind hf
  refine lX4_settle_t_2 C0 hb13 ?_ _ _ _ hI (lv_sub hl [1, 0] rfl)
  intro H locs ls hI hl
  cases hf
  exact z_vret (pc := 52) C0 hI dX4_settle_52
end
