theorem iwX1_roll_1 : ∀ w ∈ wsX10, w ∈ wsX1_roll := by decide +kernel
def fX1_roll (a1 : Int32) (u : CX) : Option (Int32 × CX) :=
  zb (xs_seed u (((xg_seed u) * (1103515245 : Int32)) + (12345 : Int32))) (fun u1 =>
  if (1 : Int32) ≤ a1 then
    zdi a1 (
    some ((zremI (((xg_seed u1).toUInt32 >>> ((16 : Int32).toUInt32 &&& Int32.toUInt32 31)).toInt32 &&& (32767 : Int32)) a1), u1))
  else
  some ((0 : Int32), u1))
def bX1_pick_r_9 (k : Nat) (u : CX) (a : Int32 × Int32) : Option ((Int32 × Int32) ⊕ ((Int32) ⊕ (Unit))) :=
  if (3 : Int32) ≤ a.2 then
    some (.inr (.inr ()))
  else
  zget 7 (xg_Trules u) a.2 (fun v3 =>
  if v3 ≤ a.1 then
    zget 7 (xg_Trules u) a.2 (fun v4 =>
    zb (a.1 - v4) (fun v5 =>
    some (.inl (v5, (a.2 + 1)))))
  else
  some (.inr (.inl a.2)))
def fX1_pick_r (k : Nat) (a2 : Int32) (u : CX) : Option (Int32 × CX) :=
  (fX1_roll a2 u).bind (fun q2 =>
  (ziter (bX1_pick_r_9 k q2.2) k (q2.1, (0 : Int32))).bind
    (fun b6 => zel b6
     (fun b6 =>
        some (b6, q2.2))
      (fun b6 =>
        some ((3 : Int32), q2.2))))
def bX1_pick_p_9 (k : Nat) (u : CX) (a : Int32 × Int32) : Option ((Int32 × Int32) ⊕ ((Int32) ⊕ (Unit))) :=
  if (3 : Int32) ≤ a.2 then
    some (.inr (.inr ()))
  else
  zget 12 (xg_Tparts u) a.2 (fun v3 =>
  if v3 ≤ a.1 then
    zget 12 (xg_Tparts u) a.2 (fun v4 =>
    zb (a.1 - v4) (fun v5 =>
    some (.inl (v5, (a.2 + 1)))))
  else
  some (.inr (.inl a.2)))
def fX1_pick_p (k : Nat) (a2 : Int32) (u : CX) : Option (Int32 × CX) :=
  (fX1_roll a2 u).bind (fun q2 =>
  (ziter (bX1_pick_p_9 k q2.2) k (q2.1, (0 : Int32))).bind
    (fun b6 => zel b6
     (fun b6 =>
        some (b6, q2.2))
      (fun b6 =>
        some ((3 : Int32), q2.2))))
theorem iwX1_fly_1 : ∀ w ∈ wsX10, w ∈ wsX1_fly := by decide +kernel
theorem iwX1_fly_8 : ∀ w ∈ wsX80, w ∈ wsX1_fly := by decide +kernel
def bX1_fly_51 (k : Nat) (p1 : Int32) (a : Int32 × CX) : Option ((Int32 × CX) ⊕ (CX)) :=
  if (4 : Int32) ≤ a.1 then
    some (.inr a.2)
  else
  zix 4 a.1 (fun j8 => zb (xs_struck a.2 (upd (xg_struck a.2) j8 (0 : Int32))) (fun u9 =>
  some (.inl ((a.1 + 1), u9))))
def bX1_fly_71 (k : Nat) (p1 : Int32) (a : Int32 × CX) : Option ((Int32 × CX) ⊕ ((CX) ⊕ (CX))) :=
  if p1 ≤ a.1 then
    some (.inr (.inr a.2))
  else
  (fX1_pick_p k (xg_TallAreas a.2) a.2).bind (fun q13 =>
  (fX1_roll (10 : Int32) q13.2).bind (fun q15 =>
  zget 12 (xg_Tparts q15.2) ((4 : Int32) + q13.1) (fun v16 =>
  if v16 ≤ q15.1 then
    zget 4 (xg_struck q15.2) q13.1 (fun v17 =>
    zix 4 q13.1 (fun j18 => zb (xs_struck q15.2 (upd (xg_struck q15.2) j18 (v17 + (1 : Int32)))) (fun u19 =>
    some (.inl ((a.1 + 1), u19)))))
  else
  some (.inr (.inl q15.2)))))
def fX1_fly (k : Nat) (u : CX) : Option (Int32 × CX) :=
  (fX3_add (0 : Int32) (1 : Int32) u).bind (fun q2 =>
  (fX1_roll (1000 : Int32) q2).bind (fun q4 =>
  zget 7 (xg_Trules q4.2) (4 : Int32) (fun v5 =>
  if v5 ≤ q4.1 then
    (fX1_pick_r k (xg_TallHits q4.2) q4.2).bind (fun q7 =>
    (ziter (bX1_fly_51 k q7.1) k ((0 : Int32), q7.2)).bind (fun b10 =>
      (ziter (bX1_fly_71 k q7.1) k ((0 : Int32), b10)).bind
        (fun b20 => zel b20
         (fun b20 =>
            (fX3_add (9 : Int32) (1 : Int32) b20).bind (fun q23 =>
            some ((0 : Int32), q23)))
          (fun b20 =>
            zget 4 (xg_struck b20) (0 : Int32) (fun v24 =>
            zget 4 (xg_struck b20) (1 : Int32) (fun v25 =>
            zget 4 (xg_struck b20) (2 : Int32) (fun v26 =>
            zget 4 (xg_struck b20) (3 : Int32) (fun v27 =>
            (fX3_addHomes (1 : Int32) v24 v25 v26 v27 b20).bind (fun q29 =>
            some ((1 : Int32), q29))))))))))
  else
  some ((0 : Int32), q4.2))))
section
variable {p : Program} {l : Launch} {e : Env} {s : State} {m : MethodId} {args : Array Value} {below : List Frame} {meth : Method} {c : Code} {A : Nat → Prop} {Q : State → Prop} {D : va_G} {ad : Nat → Nat} {cy : Nat → ClassId}
set_option maxHeartbeats 4000000 in
set_option maxRecDepth 100000 in
theorem kX1_roll (l : Launch) (D : va_G) (ad : Nat → Nat) (cy : Nat → ClassId) (a1 : Int32) (u : CX) (r : Int32) (u' : CX) (hf : fX1_roll a1 u = some (r, u')) : zCt l yX1_roll wsX1_roll ({ frames := 0, cells := 0, slots := 0, locals := 0 } : Room) D ad cy [.ref (ad 36), .int a1] (WX ad cy u) (some (.int r)) (WX ad cy u') := by
  refine zCt.of (cc := cX1_roll) (maxL := 2) (ret := (some .int)) (own := RX1) (by decide) rfl rfl ?_
  intro p e s m below meth c A C0 hI
  obtain ⟨hx, hb, hml, hown, hts, hr, hlk⟩ := id C0
  refine z_entry (Nat.le_of_ble_eq_true rfl) (fun ls hl => ?_)
  have hl : lv_has ls 2 [(0, .ref (ad 36)), (1, .int a1)] := hl
  unfold fX1_roll at hf
  refine lv_aload_n (pc := 0) hx hb dX1_roll_0 rfl (lv_at hl 0 rfl) ?_
  refine lv_aload_n (pc := 1) hx hb dX1_roll_1 rfl (lv_at hl 0 rfl) ?_
  refine z_get (pc := 2) (index := 56) hx hb hts iwX1_roll_1 hown hI (xl_36 ad cy u) rfl 3 (by decide) (by decide +kernel) rfl rfl dX1_roll_2 ?_
  refine lv_ldc (pc := 5) (v := 1103515245) hx hb hown (hts (.constant RX1 59 (1103515245)) (by decide +kernel)) dX1_roll_5 ?_
  refine lv_imul (pc := 7) hx hb dX1_roll_7 ?_
  refine lv_sipush (pc := 8) (v := 12345) hx hb dX1_roll_8 (by decide) ?_
  refine lv_iadd (pc := 11) hx hb dX1_roll_11 ?_
  refine z_put (wf := WX ad cy) (pc := 12) (index := 56) hx hb hts iwX1_roll_1 tyX1 tyX1_ok nmX1 hown hI (xl_36 ad cy u) rfl 3 (by decide) (by decide +kernel) rfl rfl rfl rfl (Nat.le_of_ble_eq_true rfl) dX1_roll_12 (xw_seed ad cy u (((xg_seed u) * (1103515245 : Int32)) + (12345 : Int32))) hf (fun u1 H locs hI hf => ?_)
  refine lv_iload_n (pc := 15) hx hb dX1_roll_15 rfl (lv_at hl 1 rfl) ?_
  refine lv_iconst (pc := 16) (v := 1) hx hb dX1_roll_16 (by decide) ?_
  refine z_icmp_ge (pc := 17) (tgt := 24) hx hb dX1_roll_17 (by decide) hf (fun hf => ?_) (fun hf => ?_)
  · refine lv_aload_n (pc := 24) hx hb dX1_roll_24 rfl (lv_at hl 0 rfl) ?_
    refine z_get (pc := 25) (index := 56) hx hb hts iwX1_roll_1 hown hI (xl_36 ad cy u1) rfl 3 (by decide) (by decide +kernel) rfl rfl dX1_roll_25 ?_
    refine lv_bipush (pc := 28) (v := 16) hx hb dX1_roll_28 (by decide) ?_
    refine lv_iushr (pc := 30) hx hb dX1_roll_30 rfl ?_
    refine lv_sipush (pc := 31) (v := 32767) hx hb dX1_roll_31 (by decide) ?_
    refine lv_iand (pc := 34) hx hb dX1_roll_34 ?_
    refine lv_iload_n (pc := 35) hx hb dX1_roll_35 rfl (lv_at hl 1 rfl) ?_
    refine z_irem (pc := 36) hx hb dX1_roll_36 hf (fun hf => ?_)
    cases hf
    exact z_iret (pc := 37) C0 hI dX1_roll_37
  refine lv_iconst (pc := 20) (v := 0) hx hb dX1_roll_20 (by decide) ?_
  refine lv_goto (pc := 21) (tgt := 37) hx hb dX1_roll_21 (by decide) ?_
  cases hf
  exact z_iret (pc := 37) C0 hI dX1_roll_37
set_option maxHeartbeats 4000000 in
set_option maxRecDepth 100000 in
theorem lX1_pick_r_9 (C0 : zFix p m c cX1_pick 5 s args wsX1_pick RX1 meth (some .int)) {k : Nat} {u : CX} {a : Int32 × Int32} {b : (Int32) ⊕ (Unit)} (hit : ziter (bX1_pick_r_9 k u) k a = some b) (hx9 : (fun (b : (Int32) ⊕ (Unit)) => zel b (fun b => ∀ (H : Heap) (locs : List Loc) (ls : Array Slot), zIn D ad cy (WX ad cy u) A s H locs → lv_has ls 5 [(4, .int b)] → W p l e ({ frames := 1, cells := 0, slots := 0, locals := 21 } : Room) s m args below meth c H locs 0 0 Q (F0 m 23 ls [])) (fun b => ∀ (H : Heap) (locs : List Loc) (ls : Array Slot), zIn D ad cy (WX ad cy u) A s H locs → lv_has ls 5 [] → W p l e ({ frames := 1, cells := 0, slots := 0, locals := 21 } : Room) s m args below meth c H locs 0 0 Q (F0 m 39 ls []))) b) : (fun (a : Int32 × Int32) => ∀ (H : Heap) (locs : List Loc) (ls : Array Slot), zIn D ad cy (WX ad cy u) A s H locs → lv_has ls 5 [(1, .ref (ad 3)), (3, .int a.1), (4, .int a.2)] → W p l e ({ frames := 1, cells := 0, slots := 0, locals := 21 } : Room) s m args below meth c H locs 0 0 Q (F0 m 9 ls [])) a := by
  obtain ⟨hx, hb, hml, hown, hts, hr, hlk⟩ := id C0
  refine zloop (Wh := (fun (a : Int32 × Int32) => ∀ (H : Heap) (locs : List Loc) (ls : Array Slot), zIn D ad cy (WX ad cy u) A s H locs → lv_has ls 5 [(1, .ref (ad 3)), (3, .int a.1), (4, .int a.2)] → W p l e ({ frames := 1, cells := 0, slots := 0, locals := 21 } : Room) s m args below meth c H locs 0 0 Q (F0 m 9 ls []))) (Wx := (fun (b : (Int32) ⊕ (Unit)) => zel b (fun b => ∀ (H : Heap) (locs : List Loc) (ls : Array Slot), zIn D ad cy (WX ad cy u) A s H locs → lv_has ls 5 [(4, .int b)] → W p l e ({ frames := 1, cells := 0, slots := 0, locals := 21 } : Room) s m args below meth c H locs 0 0 Q (F0 m 23 ls [])) (fun b => ∀ (H : Heap) (locs : List Loc) (ls : Array Slot), zIn D ad cy (WX ad cy u) A s H locs → lv_has ls 5 [] → W p l e ({ frames := 1, cells := 0, slots := 0, locals := 21 } : Room) s m args below meth c H locs 0 0 Q (F0 m 39 ls [])))) ?_ _ a b hit hx9
  intro a x hf hL hX H locs ls hI hl
  unfold bX1_pick_r_9 at hf
  refine lv_iload (pc := 9) hx hb dX1_pick_9 (lv_at hl 2 rfl) ?_
  refine lv_iconst (pc := 11) (v := 3) hx hb dX1_pick_11 (by decide) ?_
  refine z_icmp_ge (pc := 12) (tgt := 39) hx hb dX1_pick_12 (by decide) hf (fun hf => ?_) (fun hf => ?_)
  · exact (z_elP2 (hX _ (Option.some.inj hf).symm)) _ _ _ hI (lv_sub hl [] rfl)
  refine lv_iload_n (pc := 15) hx hb dX1_pick_15 rfl (lv_at hl 1 rfl) ?_
  refine lv_aload_n (pc := 16) hx hb dX1_pick_16 rfl (lv_at hl 0 rfl) ?_
  refine lv_iload (pc := 17) hx hb dX1_pick_17 (lv_at hl 2 rfl) ?_
  refine z_iald (pc := 19) hx hb hI (xl_3 ad cy u) 0 rfl dX1_pick_19 hf (fun v3 hf => ?_)
  refine z_icmp_ge (pc := 20) (tgt := 26) hx hb dX1_pick_20 (by decide) hf (fun hf => ?_) (fun hf => ?_)
  · refine lv_iload_n (pc := 26) hx hb dX1_pick_26 rfl (lv_at hl 1 rfl) ?_
    refine lv_aload_n (pc := 27) hx hb dX1_pick_27 rfl (lv_at hl 0 rfl) ?_
    refine lv_iload (pc := 28) hx hb dX1_pick_28 (lv_at hl 2 rfl) ?_
    refine z_iald (pc := 30) hx hb hI (xl_3 ad cy u) 0 rfl dX1_pick_30 hf (fun v4 hf => ?_)
    refine lv_isub (pc := 31) hx hb dX1_pick_31 ?_
    refine z_bi hf (fun v5 hf => ?_)
    refine lv_istore_n (pc := 32) (lv' := [(3, .int v5), (1, .ref (ad 3)), (4, .int a.2)]) hx hb dX1_pick_32 rfl hl (by decide) rfl (fun ls hl => ?_)
    refine lv_iinc (pc := 33) (v := (a.2 + 1)) (lv' := [(4, .int (a.2 + 1)), (3, .int v5), (1, .ref (ad 3))]) hx hb dX1_pick_33 hl (k := 2) rfl rfl (by decide) rfl (fun ls hl => ?_)
    refine lv_goto (pc := 36) (tgt := 9) hx hb dX1_pick_36 (by decide) ?_
    exact hL _ (Option.some.inj hf).symm _ _ _ hI (lv_sub hl [2, 1, 0] rfl)
  exact (z_elP1 (hX _ (Option.some.inj hf).symm)) _ _ _ hI (lv_sub hl [2] rfl)
set_option maxHeartbeats 4000000 in
set_option maxRecDepth 100000 in
theorem kX1_pick_r (l : Launch) (D : va_G) (ad : Nat → Nat) (cy : Nat → ClassId) (k : Nat) (a2 : Int32) (u : CX) (r : Int32) (u' : CX) (hf : fX1_pick_r k a2 u = some (r, u')) : zCt l yX1_pick wsX1_pick ({ frames := 1, cells := 0, slots := 0, locals := 21 } : Room) D ad cy [.ref (ad 36), .ref (ad 3), .int a2] (WX ad cy u) (some (.int r)) (WX ad cy u') := by
  refine zCt.of (cc := cX1_pick) (maxL := 5) (ret := (some .int)) (own := RX1) (by decide) rfl rfl ?_
  intro p e s m below meth c A C0 hI
  obtain ⟨hx, hb, hml, hown, hts, hr, hlk⟩ := id C0
  refine z_entry (Nat.le_of_ble_eq_true rfl) (fun ls hl => ?_)
  have hl : lv_has ls 5 [(0, .ref (ad 36)), (1, .ref (ad 3)), (2, .int a2)] := hl
  unfold fX1_pick_r at hf
  refine lv_aload_n (pc := 0) hx hb dX1_pick_0 rfl (lv_at hl 0 rfl) ?_
  refine lv_iload_n (pc := 1) hx hb dX1_pick_1 rfl (lv_at hl 2 rfl) ?_
  obtain ⟨q2, hc1, hf⟩ := zbind hf
  refine zcallVi (pc := 2) (As := [.int a2]) (rest := []) ⟨hx, hb, hml, hown, hts⟩ (kX1_roll l D ad cy a2 u q2.1 q2.2 hc1) (cwV 1 hts gX1_pick_X1_roll rfl rfl rfl (by decide +kernel) ⟨Nat.le_of_ble_eq_true rfl, Nat.le_of_ble_eq_true rfl⟩) hI rfl (xl_36 ad cy u) rfl hl.1 rfl (Nat.le_of_ble_eq_true rfl) dX1_pick_2 (Nat.zero_le _) (Nat.zero_le _) (fun H locs hI => ?_)
  refine lv_istore_n (pc := 5) (lv' := [(3, .int q2.1), (0, .ref (ad 36)), (1, .ref (ad 3)), (2, .int a2)]) hx hb dX1_pick_5 rfl hl (by decide) rfl (fun ls hl => ?_)
  refine lv_iconst (pc := 6) (v := 0) hx hb dX1_pick_6 (by decide) ?_
  refine lv_istore (pc := 7) (lv' := [(4, .int (0 : Int32)), (3, .int q2.1), (0, .ref (ad 36)), (1, .ref (ad 3)), (2, .int a2)]) hx hb dX1_pick_7 hl (by decide) rfl (fun ls hl => ?_)
  obtain ⟨b6, hb7, hf⟩ := zbind hf
  rcases b6 with b6 | b6
  · have hf := z_el1 hf
    refine lX1_pick_r_9 C0 hb7 ?_ _ _ _ hI (lv_sub hl [3, 1, 0] rfl)
    intro H locs ls hI hl
    refine lv_iload (pc := 23) hx hb dX1_pick_23 (lv_at hl 0 rfl) ?_
    cases hf
    exact z_iret (pc := 25) C0 hI dX1_pick_25
  have hf := z_el2 hf
  refine lX1_pick_r_9 C0 hb7 ?_ _ _ _ hI (lv_sub hl [3, 1, 0] rfl)
  intro H locs ls hI hl
  refine lv_iconst (pc := 39) (v := 3) hx hb dX1_pick_39 (by decide) ?_
  cases hf
  exact z_iret (pc := 40) C0 hI dX1_pick_40
set_option maxHeartbeats 4000000 in
set_option maxRecDepth 100000 in
theorem lX1_pick_p_9 (C0 : zFix p m c cX1_pick 5 s args wsX1_pick RX1 meth (some .int)) {k : Nat} {u : CX} {a : Int32 × Int32} {b : (Int32) ⊕ (Unit)} (hit : ziter (bX1_pick_p_9 k u) k a = some b) (hx9 : (fun (b : (Int32) ⊕ (Unit)) => zel b (fun b => ∀ (H : Heap) (locs : List Loc) (ls : Array Slot), zIn D ad cy (WX ad cy u) A s H locs → lv_has ls 5 [(4, .int b)] → W p l e ({ frames := 1, cells := 0, slots := 0, locals := 21 } : Room) s m args below meth c H locs 0 0 Q (F0 m 23 ls [])) (fun b => ∀ (H : Heap) (locs : List Loc) (ls : Array Slot), zIn D ad cy (WX ad cy u) A s H locs → lv_has ls 5 [] → W p l e ({ frames := 1, cells := 0, slots := 0, locals := 21 } : Room) s m args below meth c H locs 0 0 Q (F0 m 39 ls []))) b) : (fun (a : Int32 × Int32) => ∀ (H : Heap) (locs : List Loc) (ls : Array Slot), zIn D ad cy (WX ad cy u) A s H locs → lv_has ls 5 [(1, .ref (ad 2)), (3, .int a.1), (4, .int a.2)] → W p l e ({ frames := 1, cells := 0, slots := 0, locals := 21 } : Room) s m args below meth c H locs 0 0 Q (F0 m 9 ls [])) a := by
  obtain ⟨hx, hb, hml, hown, hts, hr, hlk⟩ := id C0
  refine zloop (Wh := (fun (a : Int32 × Int32) => ∀ (H : Heap) (locs : List Loc) (ls : Array Slot), zIn D ad cy (WX ad cy u) A s H locs → lv_has ls 5 [(1, .ref (ad 2)), (3, .int a.1), (4, .int a.2)] → W p l e ({ frames := 1, cells := 0, slots := 0, locals := 21 } : Room) s m args below meth c H locs 0 0 Q (F0 m 9 ls []))) (Wx := (fun (b : (Int32) ⊕ (Unit)) => zel b (fun b => ∀ (H : Heap) (locs : List Loc) (ls : Array Slot), zIn D ad cy (WX ad cy u) A s H locs → lv_has ls 5 [(4, .int b)] → W p l e ({ frames := 1, cells := 0, slots := 0, locals := 21 } : Room) s m args below meth c H locs 0 0 Q (F0 m 23 ls [])) (fun b => ∀ (H : Heap) (locs : List Loc) (ls : Array Slot), zIn D ad cy (WX ad cy u) A s H locs → lv_has ls 5 [] → W p l e ({ frames := 1, cells := 0, slots := 0, locals := 21 } : Room) s m args below meth c H locs 0 0 Q (F0 m 39 ls [])))) ?_ _ a b hit hx9
  intro a x hf hL hX H locs ls hI hl
  unfold bX1_pick_p_9 at hf
  refine lv_iload (pc := 9) hx hb dX1_pick_9 (lv_at hl 2 rfl) ?_
  refine lv_iconst (pc := 11) (v := 3) hx hb dX1_pick_11 (by decide) ?_
  refine z_icmp_ge (pc := 12) (tgt := 39) hx hb dX1_pick_12 (by decide) hf (fun hf => ?_) (fun hf => ?_)
  · exact (z_elP2 (hX _ (Option.some.inj hf).symm)) _ _ _ hI (lv_sub hl [] rfl)
  refine lv_iload_n (pc := 15) hx hb dX1_pick_15 rfl (lv_at hl 1 rfl) ?_
  refine lv_aload_n (pc := 16) hx hb dX1_pick_16 rfl (lv_at hl 0 rfl) ?_
  refine lv_iload (pc := 17) hx hb dX1_pick_17 (lv_at hl 2 rfl) ?_
  refine z_iald (pc := 19) hx hb hI (xl_2 ad cy u) 0 rfl dX1_pick_19 hf (fun v3 hf => ?_)
  refine z_icmp_ge (pc := 20) (tgt := 26) hx hb dX1_pick_20 (by decide) hf (fun hf => ?_) (fun hf => ?_)
  · refine lv_iload_n (pc := 26) hx hb dX1_pick_26 rfl (lv_at hl 1 rfl) ?_
    refine lv_aload_n (pc := 27) hx hb dX1_pick_27 rfl (lv_at hl 0 rfl) ?_
    refine lv_iload (pc := 28) hx hb dX1_pick_28 (lv_at hl 2 rfl) ?_
    refine z_iald (pc := 30) hx hb hI (xl_2 ad cy u) 0 rfl dX1_pick_30 hf (fun v4 hf => ?_)
    refine lv_isub (pc := 31) hx hb dX1_pick_31 ?_
    refine z_bi hf (fun v5 hf => ?_)
    refine lv_istore_n (pc := 32) (lv' := [(3, .int v5), (1, .ref (ad 2)), (4, .int a.2)]) hx hb dX1_pick_32 rfl hl (by decide) rfl (fun ls hl => ?_)
    refine lv_iinc (pc := 33) (v := (a.2 + 1)) (lv' := [(4, .int (a.2 + 1)), (3, .int v5), (1, .ref (ad 2))]) hx hb dX1_pick_33 hl (k := 2) rfl rfl (by decide) rfl (fun ls hl => ?_)
    refine lv_goto (pc := 36) (tgt := 9) hx hb dX1_pick_36 (by decide) ?_
    exact hL _ (Option.some.inj hf).symm _ _ _ hI (lv_sub hl [2, 1, 0] rfl)
  exact (z_elP1 (hX _ (Option.some.inj hf).symm)) _ _ _ hI (lv_sub hl [2] rfl)
set_option maxHeartbeats 4000000 in
set_option maxRecDepth 100000 in
theorem kX1_pick_p (l : Launch) (D : va_G) (ad : Nat → Nat) (cy : Nat → ClassId) (k : Nat) (a2 : Int32) (u : CX) (r : Int32) (u' : CX) (hf : fX1_pick_p k a2 u = some (r, u')) : zCt l yX1_pick wsX1_pick ({ frames := 1, cells := 0, slots := 0, locals := 21 } : Room) D ad cy [.ref (ad 36), .ref (ad 2), .int a2] (WX ad cy u) (some (.int r)) (WX ad cy u') := by
  refine zCt.of (cc := cX1_pick) (maxL := 5) (ret := (some .int)) (own := RX1) (by decide) rfl rfl ?_
  intro p e s m below meth c A C0 hI
  obtain ⟨hx, hb, hml, hown, hts, hr, hlk⟩ := id C0
  refine z_entry (Nat.le_of_ble_eq_true rfl) (fun ls hl => ?_)
  have hl : lv_has ls 5 [(0, .ref (ad 36)), (1, .ref (ad 2)), (2, .int a2)] := hl
  unfold fX1_pick_p at hf
  refine lv_aload_n (pc := 0) hx hb dX1_pick_0 rfl (lv_at hl 0 rfl) ?_
  refine lv_iload_n (pc := 1) hx hb dX1_pick_1 rfl (lv_at hl 2 rfl) ?_
  obtain ⟨q2, hc1, hf⟩ := zbind hf
  refine zcallVi (pc := 2) (As := [.int a2]) (rest := []) ⟨hx, hb, hml, hown, hts⟩ (kX1_roll l D ad cy a2 u q2.1 q2.2 hc1) (cwV 1 hts gX1_pick_X1_roll rfl rfl rfl (by decide +kernel) ⟨Nat.le_of_ble_eq_true rfl, Nat.le_of_ble_eq_true rfl⟩) hI rfl (xl_36 ad cy u) rfl hl.1 rfl (Nat.le_of_ble_eq_true rfl) dX1_pick_2 (Nat.zero_le _) (Nat.zero_le _) (fun H locs hI => ?_)
  refine lv_istore_n (pc := 5) (lv' := [(3, .int q2.1), (0, .ref (ad 36)), (1, .ref (ad 2)), (2, .int a2)]) hx hb dX1_pick_5 rfl hl (by decide) rfl (fun ls hl => ?_)
  refine lv_iconst (pc := 6) (v := 0) hx hb dX1_pick_6 (by decide) ?_
  refine lv_istore (pc := 7) (lv' := [(4, .int (0 : Int32)), (3, .int q2.1), (0, .ref (ad 36)), (1, .ref (ad 2)), (2, .int a2)]) hx hb dX1_pick_7 hl (by decide) rfl (fun ls hl => ?_)
  obtain ⟨b6, hb7, hf⟩ := zbind hf
  rcases b6 with b6 | b6
  · have hf := z_el1 hf
    refine lX1_pick_p_9 C0 hb7 ?_ _ _ _ hI (lv_sub hl [3, 1, 0] rfl)
    intro H locs ls hI hl
    refine lv_iload (pc := 23) hx hb dX1_pick_23 (lv_at hl 0 rfl) ?_
    cases hf
    exact z_iret (pc := 25) C0 hI dX1_pick_25
  have hf := z_el2 hf
  refine lX1_pick_p_9 C0 hb7 ?_ _ _ _ hI (lv_sub hl [3, 1, 0] rfl)
  intro H locs ls hI hl
  refine lv_iconst (pc := 39) (v := 3) hx hb dX1_pick_39 (by decide) ?_
  cases hf
  exact z_iret (pc := 40) C0 hI dX1_pick_40
set_option maxHeartbeats 4000000 in
set_option maxRecDepth 100000 in
theorem lX1_fly_51 (C0 : zFix p m c cX1_fly 4 s args wsX1_fly RX1 meth (some .boolean)) {k : Nat} {p1 : Int32} {a : Int32 × CX} {b : CX} (hit : ziter (bX1_fly_51 k p1) k a = some b) (hx9 : (fun (b : CX) => ∀ (H : Heap) (locs : List Loc) (ls : Array Slot), zIn D ad cy (WX ad cy b) A s H locs → lv_has ls 4 [(0, .ref (ad 36)), (1, .int p1)] → W p l e ({ frames := 2, cells := 0, slots := 0, locals := 48 } : Room) s m args below meth c H locs 0 0 Q (F0 m 69 ls [])) b) : (fun (a : Int32 × CX) => ∀ (H : Heap) (locs : List Loc) (ls : Array Slot), zIn D ad cy (WX ad cy a.2) A s H locs → lv_has ls 4 [(0, .ref (ad 36)), (1, .int p1), (2, .int a.1)] → W p l e ({ frames := 2, cells := 0, slots := 0, locals := 48 } : Room) s m args below meth c H locs 0 0 Q (F0 m 51 ls [])) a := by
  obtain ⟨hx, hb, hml, hown, hts, hr, hlk⟩ := id C0
  refine zloop (Wh := (fun (a : Int32 × CX) => ∀ (H : Heap) (locs : List Loc) (ls : Array Slot), zIn D ad cy (WX ad cy a.2) A s H locs → lv_has ls 4 [(0, .ref (ad 36)), (1, .int p1), (2, .int a.1)] → W p l e ({ frames := 2, cells := 0, slots := 0, locals := 48 } : Room) s m args below meth c H locs 0 0 Q (F0 m 51 ls []))) (Wx := (fun (b : CX) => ∀ (H : Heap) (locs : List Loc) (ls : Array Slot), zIn D ad cy (WX ad cy b) A s H locs → lv_has ls 4 [(0, .ref (ad 36)), (1, .int p1)] → W p l e ({ frames := 2, cells := 0, slots := 0, locals := 48 } : Room) s m args below meth c H locs 0 0 Q (F0 m 69 ls []))) ?_ _ a b hit hx9
  intro a x hf hL hX H locs ls hI hl
  unfold bX1_fly_51 at hf
  refine lv_iload_n (pc := 51) hx hb dX1_fly_51 rfl (lv_at hl 2 rfl) ?_
  refine lv_iconst (pc := 52) (v := 4) hx hb dX1_fly_52 (by decide) ?_
  refine z_icmp_ge (pc := 53) (tgt := 69) hx hb dX1_fly_53 (by decide) hf (fun hf => ?_) (fun hf => ?_)
  · exact (hX _ (Option.some.inj hf).symm) _ _ _ hI (lv_sub hl [0, 1] rfl)
  refine lv_aload_n (pc := 56) hx hb dX1_fly_56 rfl (lv_at hl 0 rfl) ?_
  refine z_get (pc := 57) (index := 9) hx hb hts iwX1_fly_1 hown hI (xl_36 ad cy a.2) rfl 2 (by decide) (by decide +kernel) rfl rfl dX1_fly_57 ?_
  refine lv_iload_n (pc := 60) hx hb dX1_fly_60 rfl (lv_at hl 2 rfl) ?_
  refine lv_iconst (pc := 61) (v := 0) hx hb dX1_fly_61 (by decide) ?_
  refine z_iast (wf := WX ad cy) (pc := 62) hx hb hI (xl_37 ad cy a.2) 0 rfl dX1_fly_62 (fun j => xw_struck ad cy a.2 (upd (xg_struck a.2) j (0 : Int32))) hf (fun j8 u9 H locs hj8 hI hf => ?_)
  refine lv_iinc (pc := 63) (v := (a.1 + 1)) (lv' := [(2, .int (a.1 + 1)), (0, .ref (ad 36)), (1, .int p1)]) hx hb dX1_fly_63 hl (k := 2) rfl rfl (by decide) rfl (fun ls hl => ?_)
  refine lv_goto (pc := 66) (tgt := 51) hx hb dX1_fly_66 (by decide) ?_
  exact hL _ (Option.some.inj hf).symm _ _ _ hI (lv_sub hl [1, 2, 0] rfl)
set_option maxHeartbeats 4000000 in
set_option maxRecDepth 100000 in
theorem lX1_fly_71 (C0 : zFix p m c cX1_fly 4 s args wsX1_fly RX1 meth (some .boolean)) {k : Nat} {p1 : Int32} {a : Int32 × CX} {b : (CX) ⊕ (CX)} (hit : ziter (bX1_fly_71 k p1) k a = some b) (hx9 : (fun (b : (CX) ⊕ (CX)) => zel b (fun b => ∀ (H : Heap) (locs : List Loc) (ls : Array Slot), zIn D ad cy (WX ad cy b) A s H locs → lv_has ls 4 [(0, .ref (ad 36))] → W p l e ({ frames := 2, cells := 0, slots := 0, locals := 48 } : Room) s m args below meth c H locs 0 0 Q (F0 m 115 ls [])) (fun b => ∀ (H : Heap) (locs : List Loc) (ls : Array Slot), zIn D ad cy (WX ad cy b) A s H locs → lv_has ls 4 [(0, .ref (ad 36))] → W p l e ({ frames := 2, cells := 0, slots := 0, locals := 48 } : Room) s m args below meth c H locs 0 0 Q (F0 m 143 ls []))) b) : (fun (a : Int32 × CX) => ∀ (H : Heap) (locs : List Loc) (ls : Array Slot), zIn D ad cy (WX ad cy a.2) A s H locs → lv_has ls 4 [(0, .ref (ad 36)), (1, .int p1), (2, .int a.1)] → W p l e ({ frames := 2, cells := 0, slots := 0, locals := 48 } : Room) s m args below meth c H locs 0 0 Q (F0 m 71 ls [])) a := by
  obtain ⟨hx, hb, hml, hown, hts, hr, hlk⟩ := id C0
  refine zloop (Wh := (fun (a : Int32 × CX) => ∀ (H : Heap) (locs : List Loc) (ls : Array Slot), zIn D ad cy (WX ad cy a.2) A s H locs → lv_has ls 4 [(0, .ref (ad 36)), (1, .int p1), (2, .int a.1)] → W p l e ({ frames := 2, cells := 0, slots := 0, locals := 48 } : Room) s m args below meth c H locs 0 0 Q (F0 m 71 ls []))) (Wx := (fun (b : (CX) ⊕ (CX)) => zel b (fun b => ∀ (H : Heap) (locs : List Loc) (ls : Array Slot), zIn D ad cy (WX ad cy b) A s H locs → lv_has ls 4 [(0, .ref (ad 36))] → W p l e ({ frames := 2, cells := 0, slots := 0, locals := 48 } : Room) s m args below meth c H locs 0 0 Q (F0 m 115 ls [])) (fun b => ∀ (H : Heap) (locs : List Loc) (ls : Array Slot), zIn D ad cy (WX ad cy b) A s H locs → lv_has ls 4 [(0, .ref (ad 36))] → W p l e ({ frames := 2, cells := 0, slots := 0, locals := 48 } : Room) s m args below meth c H locs 0 0 Q (F0 m 143 ls [])))) ?_ _ a b hit hx9
  intro a x hf hL hX H locs ls hI hl
  unfold bX1_fly_71 at hf
  refine lv_iload_n (pc := 71) hx hb dX1_fly_71 rfl (lv_at hl 2 rfl) ?_
  refine lv_iload_n (pc := 72) hx hb dX1_fly_72 rfl (lv_at hl 1 rfl) ?_
  refine z_icmp_ge (pc := 73) (tgt := 143) hx hb dX1_fly_73 (by decide) hf (fun hf => ?_) (fun hf => ?_)
  · exact (z_elP2 (hX _ (Option.some.inj hf).symm)) _ _ _ hI (lv_sub hl [0] rfl)
  refine lv_aload_n (pc := 76) hx hb dX1_fly_76 rfl (lv_at hl 0 rfl) ?_
  refine lv_aload_n (pc := 77) hx hb dX1_fly_77 rfl (lv_at hl 0 rfl) ?_
  refine z_get (pc := 78) (index := 15) hx hb hts iwX1_fly_1 hown hI (xl_36 ad cy a.2) rfl 0 (by decide) (by decide +kernel) rfl rfl dX1_fly_78 ?_
  refine z_get (pc := 81) (index := 46) hx hb hts iwX1_fly_8 hown hI (xl_1 ad cy a.2) rfl 0 (by decide) (by decide +kernel) rfl rfl dX1_fly_81 ?_
  refine lv_aload_n (pc := 84) hx hb dX1_fly_84 rfl (lv_at hl 0 rfl) ?_
  refine z_get (pc := 85) (index := 15) hx hb hts iwX1_fly_1 hown hI (xl_36 ad cy a.2) rfl 0 (by decide) (by decide +kernel) rfl rfl dX1_fly_85 ?_
  refine z_get (pc := 88) (index := 49) hx hb hts iwX1_fly_8 hown hI (xl_1 ad cy a.2) rfl 2 (by decide) (by decide +kernel) rfl rfl dX1_fly_88 ?_
  obtain ⟨q13, hc12, hf⟩ := zbind hf
  refine zcallVi (pc := 91) (As := [.ref (ad 2), .int (xg_TallAreas a.2)]) (rest := []) ⟨hx, hb, hml, hown, hts⟩ (kX1_pick_p l D ad cy k (xg_TallAreas a.2) a.2 q13.1 q13.2 hc12) (cwV 2 hts gX1_fly_X1_pick rfl rfl rfl (by decide +kernel) ⟨Nat.le_of_ble_eq_true rfl, Nat.le_of_ble_eq_true rfl⟩) hI rfl (xl_36 ad cy a.2) rfl hl.1 rfl (Nat.le_of_ble_eq_true rfl) dX1_fly_91 (Nat.zero_le _) (Nat.zero_le _) (fun H locs hI => ?_)
  refine lv_istore_n (pc := 94) (lv' := [(3, .int q13.1), (0, .ref (ad 36)), (1, .int p1), (2, .int a.1)]) hx hb dX1_fly_94 rfl hl (by decide) rfl (fun ls hl => ?_)
  refine lv_aload_n (pc := 95) hx hb dX1_fly_95 rfl (lv_at hl 1 rfl) ?_
  refine lv_bipush (pc := 96) (v := 10) hx hb dX1_fly_96 (by decide) ?_
  obtain ⟨q15, hc14, hf⟩ := zbind hf
  refine zcallVi (pc := 98) (As := [.int (10 : Int32)]) (rest := []) ⟨hx, hb, hml, hown, hts⟩ (kX1_roll l D ad cy (10 : Int32) q13.2 q15.1 q15.2 hc14) (cwV 1 hts gX1_fly_X1_roll rfl rfl rfl (by decide +kernel) ⟨Nat.le_of_ble_eq_true rfl, Nat.le_of_ble_eq_true rfl⟩) hI rfl (xl_36 ad cy q13.2) rfl hl.1 rfl (Nat.le_of_ble_eq_true rfl) dX1_fly_98 (Nat.zero_le _) (Nat.zero_le _) (fun H locs hI => ?_)
  refine lv_aload_n (pc := 101) hx hb dX1_fly_101 rfl (lv_at hl 1 rfl) ?_
  refine z_get (pc := 102) (index := 15) hx hb hts iwX1_fly_1 hown hI (xl_36 ad cy q15.2) rfl 0 (by decide) (by decide +kernel) rfl rfl dX1_fly_102 ?_
  refine z_get (pc := 105) (index := 46) hx hb hts iwX1_fly_8 hown hI (xl_1 ad cy q15.2) rfl 0 (by decide) (by decide +kernel) rfl rfl dX1_fly_105 ?_
  refine lv_iconst (pc := 108) (v := 4) hx hb dX1_fly_108 (by decide) ?_
  refine lv_iload_n (pc := 109) hx hb dX1_fly_109 rfl (lv_at hl 0 rfl) ?_
  refine lv_iadd (pc := 110) hx hb dX1_fly_110 ?_
  refine z_iald (pc := 111) hx hb hI (xl_2 ad cy q15.2) 0 rfl dX1_fly_111 hf (fun v16 hf => ?_)
  refine z_icmp_ge (pc := 112) (tgt := 127) hx hb dX1_fly_112 (by decide) hf (fun hf => ?_) (fun hf => ?_)
  · refine lv_aload_n (pc := 127) hx hb dX1_fly_127 rfl (lv_at hl 1 rfl) ?_
    refine z_get (pc := 128) (index := 9) hx hb hts iwX1_fly_1 hown hI (xl_36 ad cy q15.2) rfl 2 (by decide) (by decide +kernel) rfl rfl dX1_fly_128 ?_
    refine lv_iload_n (pc := 131) hx hb dX1_fly_131 rfl (lv_at hl 0 rfl) ?_
    refine lv_dup2_11 (pc := 132) hx hb dX1_fly_132 rfl rfl ?_
    refine z_iald (pc := 133) hx hb hI (xl_37 ad cy q15.2) 0 rfl dX1_fly_133 hf (fun v17 hf => ?_)
    refine lv_iconst (pc := 134) (v := 1) hx hb dX1_fly_134 (by decide) ?_
    refine lv_iadd (pc := 135) hx hb dX1_fly_135 ?_
    refine z_iast (wf := WX ad cy) (pc := 136) hx hb hI (xl_37 ad cy q15.2) 0 rfl dX1_fly_136 (fun j => xw_struck ad cy q15.2 (upd (xg_struck q15.2) j (v17 + (1 : Int32)))) hf (fun j18 u19 H locs hj18 hI hf => ?_)
    refine lv_iinc (pc := 137) (v := (a.1 + 1)) (lv' := [(2, .int (a.1 + 1)), (3, .int q13.1), (0, .ref (ad 36)), (1, .int p1)]) hx hb dX1_fly_137 hl (k := 3) rfl rfl (by decide) rfl (fun ls hl => ?_)
    refine lv_goto (pc := 140) (tgt := 71) hx hb dX1_fly_140 (by decide) ?_
    exact hL _ (Option.some.inj hf).symm _ _ _ hI (lv_sub hl [2, 3, 0] rfl)
  exact (z_elP1 (hX _ (Option.some.inj hf).symm)) _ _ _ hI (lv_sub hl [1] rfl)
set_option maxHeartbeats 4000000 in
set_option maxRecDepth 100000 in
theorem kX1_fly (l : Launch) (D : va_G) (ad : Nat → Nat) (cy : Nat → ClassId) (k : Nat) (u : CX) (r : Int32) (u' : CX) (hf : fX1_fly k u = some (r, u')) : zCt l yX1_fly wsX1_fly ({ frames := 2, cells := 0, slots := 0, locals := 48 } : Room) D ad cy [.ref (ad 36)] (WX ad cy u) (some (.int r)) (WX ad cy u') := by
  refine zCt.of (cc := cX1_fly) (maxL := 4) (ret := (some .boolean)) (own := RX1) (by decide) rfl rfl ?_
  intro p e s m below meth c A C0 hI
  obtain ⟨hx, hb, hml, hown, hts, hr, hlk⟩ := id C0
  refine z_entry (Nat.le_of_ble_eq_true rfl) (fun ls hl => ?_)
  have hl : lv_has ls 4 [(0, .ref (ad 36))] := hl
  unfold fX1_fly at hf
  refine lv_aload_n (pc := 0) hx hb dX1_fly_0 rfl (lv_at hl 0 rfl) ?_
  refine z_get (pc := 1) (index := 19) hx hb hts iwX1_fly_1 hown hI (xl_36 ad cy u) rfl 1 (by decide) (by decide +kernel) rfl rfl dX1_fly_1 ?_
  refine lv_iconst (pc := 4) (v := 0) hx hb dX1_fly_4 (by decide) ?_
  refine lv_iconst (pc := 5) (v := 1) hx hb dX1_fly_5 (by decide) ?_
  obtain ⟨q2, hc1, hf⟩ := zbind hf
  refine zcallVv (pc := 6) (As := [.int (0 : Int32), .int (1 : Int32)]) (rest := []) ⟨hx, hb, hml, hown, hts⟩ (kX3_add l D ad cy (0 : Int32) (1 : Int32) u q2 hc1) (cwV 2 hts gX1_fly_X3_add rfl rfl rfl (by decide +kernel) ⟨Nat.le_of_ble_eq_true rfl, Nat.le_of_ble_eq_true rfl⟩) hI rfl (xl_12 ad cy u) rfl hl.1 rfl (Nat.le_of_ble_eq_true rfl) dX1_fly_6 (Nat.zero_le _) (Nat.zero_le _) (fun H locs hI => ?_)
  refine lv_aload_n (pc := 9) hx hb dX1_fly_9 rfl (lv_at hl 0 rfl) ?_
  refine lv_sipush (pc := 10) (v := 1000) hx hb dX1_fly_10 (by decide) ?_
  obtain ⟨q4, hc3, hf⟩ := zbind hf
  refine zcallVi (pc := 13) (As := [.int (1000 : Int32)]) (rest := []) ⟨hx, hb, hml, hown, hts⟩ (kX1_roll l D ad cy (1000 : Int32) q2 q4.1 q4.2 hc3) (cwV 1 hts gX1_fly_X1_roll rfl rfl rfl (by decide +kernel) ⟨Nat.le_of_ble_eq_true rfl, Nat.le_of_ble_eq_true rfl⟩) hI rfl (xl_36 ad cy q2) rfl hl.1 rfl (Nat.le_of_ble_eq_true rfl) dX1_fly_13 (Nat.zero_le _) (Nat.zero_le _) (fun H locs hI => ?_)
  refine lv_aload_n (pc := 16) hx hb dX1_fly_16 rfl (lv_at hl 0 rfl) ?_
  refine z_get (pc := 17) (index := 15) hx hb hts iwX1_fly_1 hown hI (xl_36 ad cy q4.2) rfl 0 (by decide) (by decide +kernel) rfl rfl dX1_fly_17 ?_
  refine z_get (pc := 20) (index := 33) hx hb hts iwX1_fly_8 hown hI (xl_1 ad cy q4.2) rfl 1 (by decide) (by decide +kernel) rfl rfl dX1_fly_20 ?_
  refine lv_iconst (pc := 23) (v := 4) hx hb dX1_fly_23 (by decide) ?_
  refine z_iald (pc := 24) hx hb hI (xl_3 ad cy q4.2) 0 rfl dX1_fly_24 hf (fun v5 hf => ?_)
  refine z_icmp_ge (pc := 25) (tgt := 30) hx hb dX1_fly_25 (by decide) hf (fun hf => ?_) (fun hf => ?_)
  · refine lv_aload_n (pc := 30) hx hb dX1_fly_30 rfl (lv_at hl 0 rfl) ?_
    refine lv_aload_n (pc := 31) hx hb dX1_fly_31 rfl (lv_at hl 0 rfl) ?_
    refine z_get (pc := 32) (index := 15) hx hb hts iwX1_fly_1 hown hI (xl_36 ad cy q4.2) rfl 0 (by decide) (by decide +kernel) rfl rfl dX1_fly_32 ?_
    refine z_get (pc := 35) (index := 33) hx hb hts iwX1_fly_8 hown hI (xl_1 ad cy q4.2) rfl 1 (by decide) (by decide +kernel) rfl rfl dX1_fly_35 ?_
    refine lv_aload_n (pc := 38) hx hb dX1_fly_38 rfl (lv_at hl 0 rfl) ?_
    refine z_get (pc := 39) (index := 15) hx hb hts iwX1_fly_1 hown hI (xl_36 ad cy q4.2) rfl 0 (by decide) (by decide +kernel) rfl rfl dX1_fly_39 ?_
    refine z_get (pc := 42) (index := 38) hx hb hts iwX1_fly_8 hown hI (xl_1 ad cy q4.2) rfl 3 (by decide) (by decide +kernel) rfl rfl dX1_fly_42 ?_
    obtain ⟨q7, hc6, hf⟩ := zbind hf
    refine zcallVi (pc := 45) (As := [.ref (ad 3), .int (xg_TallHits q4.2)]) (rest := []) ⟨hx, hb, hml, hown, hts⟩ (kX1_pick_r l D ad cy k (xg_TallHits q4.2) q4.2 q7.1 q7.2 hc6) (cwV 2 hts gX1_fly_X1_pick rfl rfl rfl (by decide +kernel) ⟨Nat.le_of_ble_eq_true rfl, Nat.le_of_ble_eq_true rfl⟩) hI rfl (xl_36 ad cy q4.2) rfl hl.1 rfl (Nat.le_of_ble_eq_true rfl) dX1_fly_45 (Nat.zero_le _) (Nat.zero_le _) (fun H locs hI => ?_)
    refine lv_istore_n (pc := 48) (lv' := [(1, .int q7.1), (0, .ref (ad 36))]) hx hb dX1_fly_48 rfl hl (by decide) rfl (fun ls hl => ?_)
    refine lv_iconst (pc := 49) (v := 0) hx hb dX1_fly_49 (by decide) ?_
    refine lv_istore_n (pc := 50) (lv' := [(2, .int (0 : Int32)), (1, .int q7.1), (0, .ref (ad 36))]) hx hb dX1_fly_50 rfl hl (by decide) rfl (fun ls hl => ?_)
    obtain ⟨b10, hb11, hf⟩ := zbind hf
    refine lX1_fly_51 C0 hb11 ?_ _ _ _ hI (lv_sub hl [2, 1, 0] rfl)
    intro H locs ls hI hl
    refine lv_iconst (pc := 69) (v := 0) hx hb dX1_fly_69 (by decide) ?_
    refine lv_istore_n (pc := 70) (lv' := [(2, .int (0 : Int32)), (0, .ref (ad 36)), (1, .int q7.1)]) hx hb dX1_fly_70 rfl hl (by decide) rfl (fun ls hl => ?_)
    obtain ⟨b20, hb21, hf⟩ := zbind hf
    rcases b20 with b20 | b20
    · have hf := z_el1 hf
      refine lX1_fly_71 C0 hb21 ?_ _ _ _ hI (lv_sub hl [1, 2, 0] rfl)
      intro H locs ls hI hl
      refine lv_aload_n (pc := 115) hx hb dX1_fly_115 rfl (lv_at hl 0 rfl) ?_
      refine z_get (pc := 116) (index := 19) hx hb hts iwX1_fly_1 hown hI (xl_36 ad cy b20) rfl 1 (by decide) (by decide +kernel) rfl rfl dX1_fly_116 ?_
      refine lv_bipush (pc := 119) (v := 9) hx hb dX1_fly_119 (by decide) ?_
      refine lv_iconst (pc := 121) (v := 1) hx hb dX1_fly_121 (by decide) ?_
      obtain ⟨q23, hc22, hf⟩ := zbind hf
      refine zcallVv (pc := 122) (As := [.int (9 : Int32), .int (1 : Int32)]) (rest := []) ⟨hx, hb, hml, hown, hts⟩ (kX3_add l D ad cy (9 : Int32) (1 : Int32) b20 q23 hc22) (cwV 2 hts gX1_fly_X3_add rfl rfl rfl (by decide +kernel) ⟨Nat.le_of_ble_eq_true rfl, Nat.le_of_ble_eq_true rfl⟩) hI rfl (xl_12 ad cy b20) rfl hl.1 rfl (Nat.le_of_ble_eq_true rfl) dX1_fly_122 (Nat.zero_le _) (Nat.zero_le _) (fun H locs hI => ?_)
      refine lv_iconst (pc := 125) (v := 0) hx hb dX1_fly_125 (by decide) ?_
      cases hf
      exact z_zret (pc := 126) C0 hI (Or.inl rfl) dX1_fly_126
    have hf := z_el2 hf
    refine lX1_fly_71 C0 hb21 ?_ _ _ _ hI (lv_sub hl [1, 2, 0] rfl)
    intro H locs ls hI hl
    refine lv_aload_n (pc := 143) hx hb dX1_fly_143 rfl (lv_at hl 0 rfl) ?_
    refine z_get (pc := 144) (index := 19) hx hb hts iwX1_fly_1 hown hI (xl_36 ad cy b20) rfl 1 (by decide) (by decide +kernel) rfl rfl dX1_fly_144 ?_
    refine lv_iconst (pc := 147) (v := 1) hx hb dX1_fly_147 (by decide) ?_
    refine lv_aload_n (pc := 148) hx hb dX1_fly_148 rfl (lv_at hl 0 rfl) ?_
    refine z_get (pc := 149) (index := 9) hx hb hts iwX1_fly_1 hown hI (xl_36 ad cy b20) rfl 2 (by decide) (by decide +kernel) rfl rfl dX1_fly_149 ?_
    refine lv_iconst (pc := 152) (v := 0) hx hb dX1_fly_152 (by decide) ?_
    refine z_iald (pc := 153) hx hb hI (xl_37 ad cy b20) 0 rfl dX1_fly_153 hf (fun v24 hf => ?_)
    refine lv_aload_n (pc := 154) hx hb dX1_fly_154 rfl (lv_at hl 0 rfl) ?_
    refine z_get (pc := 155) (index := 9) hx hb hts iwX1_fly_1 hown hI (xl_36 ad cy b20) rfl 2 (by decide) (by decide +kernel) rfl rfl dX1_fly_155 ?_
    refine lv_iconst (pc := 158) (v := 1) hx hb dX1_fly_158 (by decide) ?_
    refine z_iald (pc := 159) hx hb hI (xl_37 ad cy b20) 0 rfl dX1_fly_159 hf (fun v25 hf => ?_)
    refine lv_aload_n (pc := 160) hx hb dX1_fly_160 rfl (lv_at hl 0 rfl) ?_
    refine z_get (pc := 161) (index := 9) hx hb hts iwX1_fly_1 hown hI (xl_36 ad cy b20) rfl 2 (by decide) (by decide +kernel) rfl rfl dX1_fly_161 ?_
    refine lv_iconst (pc := 164) (v := 2) hx hb dX1_fly_164 (by decide) ?_
    refine z_iald (pc := 165) hx hb hI (xl_37 ad cy b20) 0 rfl dX1_fly_165 hf (fun v26 hf => ?_)
    refine lv_aload_n (pc := 166) hx hb dX1_fly_166 rfl (lv_at hl 0 rfl) ?_
    refine z_get (pc := 167) (index := 9) hx hb hts iwX1_fly_1 hown hI (xl_36 ad cy b20) rfl 2 (by decide) (by decide +kernel) rfl rfl dX1_fly_167 ?_
    refine lv_iconst (pc := 170) (v := 3) hx hb dX1_fly_170 (by decide) ?_
    refine z_iald (pc := 171) hx hb hI (xl_37 ad cy b20) 0 rfl dX1_fly_171 hf (fun v27 hf => ?_)
    obtain ⟨q29, hc28, hf⟩ := zbind hf
    refine zcallVv (pc := 172) (As := [.int (1 : Int32), .int v24, .int v25, .int v26, .int v27]) (rest := []) ⟨hx, hb, hml, hown, hts⟩ (kX3_addHomes l D ad cy (1 : Int32) v24 v25 v26 v27 b20 q29 hc28) (cwV 5 hts gX1_fly_X3_addHomes rfl rfl rfl (by decide +kernel) ⟨Nat.le_of_ble_eq_true rfl, Nat.le_of_ble_eq_true rfl⟩) hI rfl (xl_12 ad cy b20) rfl hl.1 rfl (Nat.le_of_ble_eq_true rfl) dX1_fly_172 (Nat.zero_le _) (Nat.zero_le _) (fun H locs hI => ?_)
    refine lv_iconst (pc := 175) (v := 1) hx hb dX1_fly_175 (by decide) ?_
    cases hf
    exact z_zret (pc := 176) C0 hI (Or.inr rfl) dX1_fly_176
  refine lv_iconst (pc := 28) (v := 0) hx hb dX1_fly_28 (by decide) ?_
  cases hf
  exact z_zret (pc := 29) C0 hI (Or.inl rfl) dX1_fly_29
end
