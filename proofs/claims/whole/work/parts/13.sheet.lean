theorem iwX6_renew_6 : ∀ w ∈ wsX60, w ∈ wsX6_renew := by decide +kernel
def bX6_renew_12 (k : Nat) (js : Nat) (a : Int32 × CX) : Option ((Int32 × CX) ⊕ (CX)) :=
  if (48 : Int32) ≤ a.1 then
    some (.inr a.2)
  else
  zix 48 a.1 (fun j3 => zb (xs_scells a.2 (zup (xg_scells a.2) js (upd (xg_scells a.2 js) j3 (0 : Int32)))) (fun u4 =>
  some (.inl ((a.1 + 1), u4))))
def fX6_renew (k : Nat) (js : Nat) (a1 : Int32) (a2 : Int32) (u : CX) : Option (CX) :=
  zb (xs_slane u (zup (xg_slane u) js a1)) (fun u1 =>
  zb (xs_ssize u1 (zup (xg_ssize u1) js a2)) (fun u2 =>
  (ziter (bX6_renew_12 k js) k ((0 : Int32), u2)).bind (fun b5 =>
    some b5)))
theorem iwX6_faultAt_6 : ∀ w ∈ wsX60, w ∈ wsX6_faultAt := by decide +kernel
def fX6_faultAt (js : Nat) (a1 : Int32) (a2 : Int32) (u : CX) : Option (Int32) :=
  if (xg_slane u js) = (-1 : Int32) then
    some (1 : Int32)
  else
  if (xg_slane u js) = a1 then
    if a2 < 0 then
      some (2 : Int32)
    else
    if a2 < (xg_ssize u js) then
      some (0 : Int32)
    else
    some (2 : Int32)
  else
  some (3 : Int32)
def bX6_faultOfHome_5 (k : Nat) (js : Nat) (p1 : Int32) (p2 : Int32) (u : CX) (a : Int32 × Int32) : Option ((Int32 × Int32) ⊕ (Int32)) :=
  if (4 : Int32) ≤ a.2 then
    some (.inr a.1)
  else
  if a.1 = 0 then
    (fX6_faultAt js p1 (p2 + a.2) u).bind (fun q2 =>
    some (.inl (q2, (a.2 + 1))))
  else
  some (.inr a.1)
def fX6_faultOfHome (k : Nat) (js : Nat) (a1 : Int32) (a2 : Int32) (u : CX) : Option (Int32) :=
  (ziter (bX6_faultOfHome_5 k js a1 a2 u) k ((0 : Int32), (0 : Int32))).bind (fun b3 =>
    some b3)
theorem iwX6_cell_6 : ∀ w ∈ wsX60, w ∈ wsX6_cell := by decide +kernel
def fX6_cell (js : Nat) (a1 : Int32) (u : CX) : Option (Int32) :=
  if a1 < 0 then
    some (0 : Int32)
  else
  if a1 < (48 : Int32) then
    zget 48 (xg_scells u js) a1 (fun v1 =>
    some v1)
  else
  some (0 : Int32)
def bX6_isHome_4 (k : Nat) (js : Nat) (p1 : Int32) (u : CX) (a : Int32 × Int32) : Option ((Int32 × Int32) ⊕ ((Unit) ⊕ (Int32))) :=
  if (4 : Int32) ≤ a.2 then
    some (.inr (.inr a.1))
  else
  (fX6_cell js (p1 + a.2) u).bind (fun q2 =>
  if q2 < 0 then
    some (.inr (.inl ()))
  else
  if q2 ≤ (3 : Int32) then
    zb (a.1 + q2) (fun v3 =>
    some (.inl (v3, (a.2 + 1))))
  else
  some (.inr (.inl ())))
def fX6_isHome (k : Nat) (js : Nat) (a1 : Int32) (u : CX) : Option (Int32) :=
  (ziter (bX6_isHome_4 k js a1 u) k ((0 : Int32), (0 : Int32))).bind
    (fun b4 => zel b4
     (fun b4 =>
        some (0 : Int32))
      (fun b4 =>
        if (3 : Int32) < b4 then
          some (0 : Int32)
        else
        some (1 : Int32)))
theorem iwX6_put_6 : ∀ w ∈ wsX60, w ∈ wsX6_put := by decide +kernel
def fX6_put (js : Nat) (a1 : Int32) (a2 : Int32) (u : CX) : Option (CX) :=
  if a1 < 0 then
    some u
  else
  if a1 < (48 : Int32) then
    if (xg_slane u js) = 0 then
      zix 48 a1 (fun j5 => zb (xs_scells u (zup (xg_scells u) js (upd (xg_scells u js) j5 (a2.toInt8.toInt32)))) (fun u6 =>
      some u6))
    else
    if (xg_slane u js) = (1 : Int32) then
      zix 48 a1 (fun j3 => zb (xs_scells u (zup (xg_scells u) js (upd (xg_scells u js) j3 (a2.toInt16.toInt32)))) (fun u4 =>
      some u4))
    else
    zix 48 a1 (fun j1 => zb (xs_scells u (zup (xg_scells u) js (upd (xg_scells u js) j1 a2))) (fun u2 =>
    some u2))
  else
  some u
section
variable {p : Program} {l : Launch} {e : Env} {s : State} {m : MethodId} {args : Array Value} {below : List Frame} {meth : Method} {c : Code} {A : Nat → Prop} {Q : State → Prop} {D : va_G} {ad : Nat → Nat} {cy : Nat → ClassId}
set_option maxHeartbeats 4000000 in
set_option maxRecDepth 100000 in
theorem lX6_renew_12 (C0 : zFix p m c cX6_renew 4 s args wsX6_renew RX6 meth none) {k : Nat} {js : Nat} (hjs : js < 4) {a : Int32 × CX} {b : CX} (hit : ziter (bX6_renew_12 k js) k a = some b) (hx9 : (fun (b : CX) => ∀ (H : Heap) (locs : List Loc) (ls : Array Slot), zIn D ad cy (WX ad cy b) A s H locs → lv_has ls 4 [] → W p l e ({ frames := 0, cells := 0, slots := 0, locals := 0 } : Room) s m args below meth c H locs 0 0 Q (F0 m 31 ls [])) b) : (fun (a : Int32 × CX) => ∀ (H : Heap) (locs : List Loc) (ls : Array Slot), zIn D ad cy (WX ad cy a.2) A s H locs → lv_has ls 4 [(0, .ref (ad (39 + 2 * js))), (3, .int a.1)] → W p l e ({ frames := 0, cells := 0, slots := 0, locals := 0 } : Room) s m args below meth c H locs 0 0 Q (F0 m 12 ls [])) a := by
  obtain ⟨hx, hb, hml, hown, hts, hr, hlk⟩ := id C0
  refine zloop (Wh := (fun (a : Int32 × CX) => ∀ (H : Heap) (locs : List Loc) (ls : Array Slot), zIn D ad cy (WX ad cy a.2) A s H locs → lv_has ls 4 [(0, .ref (ad (39 + 2 * js))), (3, .int a.1)] → W p l e ({ frames := 0, cells := 0, slots := 0, locals := 0 } : Room) s m args below meth c H locs 0 0 Q (F0 m 12 ls []))) (Wx := (fun (b : CX) => ∀ (H : Heap) (locs : List Loc) (ls : Array Slot), zIn D ad cy (WX ad cy b) A s H locs → lv_has ls 4 [] → W p l e ({ frames := 0, cells := 0, slots := 0, locals := 0 } : Room) s m args below meth c H locs 0 0 Q (F0 m 31 ls []))) ?_ _ a b hit hx9
  intro a x hf hL hX H locs ls hI hl
  unfold bX6_renew_12 at hf
  refine lv_iload_n (pc := 12) hx hb dX6_renew_12 rfl (lv_at hl 1 rfl) ?_
  refine lv_bipush (pc := 13) (v := 48) hx hb dX6_renew_13 (by decide) ?_
  refine z_icmp_ge (pc := 15) (tgt := 31) hx hb dX6_renew_15 (by decide) hf (fun hf => ?_) (fun hf => ?_)
  · exact (hX _ (Option.some.inj hf).symm) _ _ _ hI (lv_sub hl [] rfl)
  refine lv_aload_n (pc := 18) hx hb dX6_renew_18 rfl (lv_at hl 0 rfl) ?_
  refine z_get (pc := 19) (index := 11) hx hb hts iwX6_renew_6 hown hI (xl_sheet ad cy a.2 hjs) rfl 0 (by decide) (by decide +kernel) rfl rfl dX6_renew_19 ?_
  refine lv_iload_n (pc := 22) hx hb dX6_renew_22 rfl (lv_at hl 1 rfl) ?_
  refine lv_iconst (pc := 23) (v := 0) hx hb dX6_renew_23 (by decide) ?_
  refine z_iast (wf := WX ad cy) (pc := 24) hx hb hI (xl_scell ad cy a.2 hjs) 0 rfl dX6_renew_24 (fun j => xw_scell ad cy a.2 hjs (upd (xg_scells a.2 js) j (0 : Int32))) hf (fun j3 u4 H locs hj3 hI hf => ?_)
  refine lv_iinc (pc := 25) (v := (a.1 + 1)) (lv' := [(3, .int (a.1 + 1)), (0, .ref (ad (39 + 2 * js)))]) hx hb dX6_renew_25 hl (k := 1) rfl rfl (by decide) rfl (fun ls hl => ?_)
  refine lv_goto (pc := 28) (tgt := 12) hx hb dX6_renew_28 (by decide) ?_
  exact hL _ (Option.some.inj hf).symm _ _ _ hI (lv_sub hl [1, 0] rfl)
set_option maxHeartbeats 4000000 in
set_option maxRecDepth 100000 in
theorem kX6_renew (l : Launch) (D : va_G) (ad : Nat → Nat) (cy : Nat → ClassId) (k : Nat) (js : Nat) (hjs : js < 4) (a1 : Int32) (a2 : Int32) (u : CX) (u' : CX) (hf : fX6_renew k js a1 a2 u = some u') : zCt l yX6_renew wsX6_renew ({ frames := 0, cells := 0, slots := 0, locals := 0 } : Room) D ad cy [.ref (ad (39 + 2 * js)), .int a1, .int a2] (WX ad cy u) none (WX ad cy u') := by
  refine zCt.of (cc := cX6_renew) (maxL := 4) (ret := none) (own := RX6) (by decide) rfl rfl ?_
  intro p e s m below meth c A C0 hI
  obtain ⟨hx, hb, hml, hown, hts, hr, hlk⟩ := id C0
  refine z_entry (Nat.le_of_ble_eq_true rfl) (fun ls hl => ?_)
  have hl : lv_has ls 4 [(0, .ref (ad (39 + 2 * js))), (1, .int a1), (2, .int a2)] := hl
  unfold fX6_renew at hf
  refine lv_aload_n (pc := 0) hx hb dX6_renew_0 rfl (lv_at hl 0 rfl) ?_
  refine lv_iload_n (pc := 1) hx hb dX6_renew_1 rfl (lv_at hl 1 rfl) ?_
  refine z_put (wf := WX ad cy) (pc := 2) (index := 15) hx hb hts iwX6_renew_6 tyX6 tyX6_ok nmX6 hown hI (xl_sheet ad cy u hjs) rfl 1 (by decide) (by decide +kernel) rfl rfl rfl rfl (Nat.le_of_ble_eq_true rfl) dX6_renew_2 (xw_slane ad cy u hjs a1) hf (fun u1 H locs hI hf => ?_)
  refine lv_aload_n (pc := 5) hx hb dX6_renew_5 rfl (lv_at hl 0 rfl) ?_
  refine lv_iload_n (pc := 6) hx hb dX6_renew_6 rfl (lv_at hl 2 rfl) ?_
  refine z_put (wf := WX ad cy) (pc := 7) (index := 19) hx hb hts iwX6_renew_6 tyX6 tyX6_ok nmX6 hown hI (xl_sheet ad cy u1 hjs) rfl 2 (by decide) (by decide +kernel) rfl rfl rfl rfl (Nat.le_of_ble_eq_true rfl) dX6_renew_7 (xw_ssize ad cy u1 hjs a2) hf (fun u2 H locs hI hf => ?_)
  refine lv_iconst (pc := 10) (v := 0) hx hb dX6_renew_10 (by decide) ?_
  refine lv_istore_n (pc := 11) (lv' := [(3, .int (0 : Int32)), (0, .ref (ad (39 + 2 * js))), (1, .int a1), (2, .int a2)]) hx hb dX6_renew_11 rfl hl (by decide) rfl (fun ls hl => ?_)
  obtain ⟨b5, hb6, hf⟩ := zbind hf
  refine lX6_renew_12 C0 hjs hb6 ?_ _ _ _ hI (lv_sub hl [1, 0] rfl)
  intro H locs ls hI hl
  cases hf
  exact z_vret (pc := 31) C0 hI dX6_renew_31
set_option maxHeartbeats 4000000 in
set_option maxRecDepth 100000 in
theorem kX6_faultAt (l : Launch) (D : va_G) (ad : Nat → Nat) (cy : Nat → ClassId) (js : Nat) (hjs : js < 4) (a1 : Int32) (a2 : Int32) (u : CX) (r : Int32) (hf : fX6_faultAt js a1 a2 u = some r) : zCt l yX6_faultAt wsX6_faultAt ({ frames := 0, cells := 0, slots := 0, locals := 0 } : Room) D ad cy [.ref (ad (39 + 2 * js)), .int a1, .int a2] (WX ad cy u) (some (.int r)) (WX ad cy u) := by
  refine zCt.of (cc := cX6_faultAt) (maxL := 3) (ret := (some .int)) (own := RX6) (by decide) rfl rfl ?_
  intro p e s m below meth c A C0 hI
  obtain ⟨hx, hb, hml, hown, hts, hr, hlk⟩ := id C0
  refine z_entry (Nat.le_of_ble_eq_true rfl) (fun ls hl => ?_)
  have hl : lv_has ls 3 [(0, .ref (ad (39 + 2 * js))), (1, .int a1), (2, .int a2)] := hl
  unfold fX6_faultAt at hf
  refine lv_aload_n (pc := 0) hx hb dX6_faultAt_0 rfl (lv_at hl 0 rfl) ?_
  refine z_get (pc := 1) (index := 15) hx hb hts iwX6_faultAt_6 hown hI (xl_sheet ad cy u hjs) rfl 1 (by decide) (by decide +kernel) rfl rfl dX6_faultAt_1 ?_
  refine lv_iconst (pc := 4) (v := -1) hx hb dX6_faultAt_4 (by decide) ?_
  refine z_icmp_ne (pc := 5) (tgt := 10) hx hb dX6_faultAt_5 (by decide) hf (fun hf => ?_) (fun hf => ?_)
  · refine lv_aload_n (pc := 10) hx hb dX6_faultAt_10 rfl (lv_at hl 0 rfl) ?_
    refine z_get (pc := 11) (index := 15) hx hb hts iwX6_faultAt_6 hown hI (xl_sheet ad cy u hjs) rfl 1 (by decide) (by decide +kernel) rfl rfl dX6_faultAt_11 ?_
    refine lv_iload_n (pc := 14) hx hb dX6_faultAt_14 rfl (lv_at hl 1 rfl) ?_
    refine z_icmp_eq (pc := 15) (tgt := 20) hx hb dX6_faultAt_15 (by decide) hf (fun hf => ?_) (fun hf => ?_)
    · refine lv_iload_n (pc := 20) hx hb dX6_faultAt_20 rfl (lv_at hl 2 rfl) ?_
      refine z_if_lt (pc := 21) (tgt := 32) hx hb dX6_faultAt_21 (by decide) hf (fun hf => ?_) (fun hf => ?_)
      · refine lv_iconst (pc := 32) (v := 2) hx hb dX6_faultAt_32 (by decide) ?_
        refine lv_goto (pc := 33) (tgt := 37) hx hb dX6_faultAt_33 (by decide) ?_
        cases hf
        exact z_iret (pc := 37) C0 hI dX6_faultAt_37
      refine lv_iload_n (pc := 24) hx hb dX6_faultAt_24 rfl (lv_at hl 2 rfl) ?_
      refine lv_aload_n (pc := 25) hx hb dX6_faultAt_25 rfl (lv_at hl 0 rfl) ?_
      refine z_get (pc := 26) (index := 19) hx hb hts iwX6_faultAt_6 hown hI (xl_sheet ad cy u hjs) rfl 2 (by decide) (by decide +kernel) rfl rfl dX6_faultAt_26 ?_
      refine z_icmp_lt (pc := 29) (tgt := 36) hx hb dX6_faultAt_29 (by decide) hf (fun hf => ?_) (fun hf => ?_)
      · refine lv_iconst (pc := 36) (v := 0) hx hb dX6_faultAt_36 (by decide) ?_
        cases hf
        exact z_iret (pc := 37) C0 hI dX6_faultAt_37
      refine lv_iconst (pc := 32) (v := 2) hx hb dX6_faultAt_32 (by decide) ?_
      refine lv_goto (pc := 33) (tgt := 37) hx hb dX6_faultAt_33 (by decide) ?_
      cases hf
      exact z_iret (pc := 37) C0 hI dX6_faultAt_37
    refine lv_iconst (pc := 18) (v := 3) hx hb dX6_faultAt_18 (by decide) ?_
    cases hf
    exact z_iret (pc := 19) C0 hI dX6_faultAt_19
  refine lv_iconst (pc := 8) (v := 1) hx hb dX6_faultAt_8 (by decide) ?_
  cases hf
  exact z_iret (pc := 9) C0 hI dX6_faultAt_9
set_option maxHeartbeats 4000000 in
set_option maxRecDepth 100000 in
theorem lX6_faultOfHome_5 (C0 : zFix p m c cX6_faultOfHome 5 s args wsX6_faultOfHome RX6 meth (some .int)) {k : Nat} {js : Nat} {p1 : Int32} {p2 : Int32} {u : CX} (hjs : js < 4) {a : Int32 × Int32} {b : Int32} (hit : ziter (bX6_faultOfHome_5 k js p1 p2 u) k a = some b) (hx9 : (fun (b : Int32) => ∀ (H : Heap) (locs : List Loc) (ls : Array Slot), zIn D ad cy (WX ad cy u) A s H locs → lv_has ls 5 [(3, .int b)] → W p l e ({ frames := 1, cells := 0, slots := 0, locals := 22 } : Room) s m args below meth c H locs 0 0 Q (F0 m 31 ls [])) b) : (fun (a : Int32 × Int32) => ∀ (H : Heap) (locs : List Loc) (ls : Array Slot), zIn D ad cy (WX ad cy u) A s H locs → lv_has ls 5 [(0, .ref (ad (39 + 2 * js))), (1, .int p1), (2, .int p2), (3, .int a.1), (4, .int a.2)] → W p l e ({ frames := 1, cells := 0, slots := 0, locals := 22 } : Room) s m args below meth c H locs 0 0 Q (F0 m 5 ls [])) a := by
  obtain ⟨hx, hb, hml, hown, hts, hr, hlk⟩ := id C0
  refine zloop (Wh := (fun (a : Int32 × Int32) => ∀ (H : Heap) (locs : List Loc) (ls : Array Slot), zIn D ad cy (WX ad cy u) A s H locs → lv_has ls 5 [(0, .ref (ad (39 + 2 * js))), (1, .int p1), (2, .int p2), (3, .int a.1), (4, .int a.2)] → W p l e ({ frames := 1, cells := 0, slots := 0, locals := 22 } : Room) s m args below meth c H locs 0 0 Q (F0 m 5 ls []))) (Wx := (fun (b : Int32) => ∀ (H : Heap) (locs : List Loc) (ls : Array Slot), zIn D ad cy (WX ad cy u) A s H locs → lv_has ls 5 [(3, .int b)] → W p l e ({ frames := 1, cells := 0, slots := 0, locals := 22 } : Room) s m args below meth c H locs 0 0 Q (F0 m 31 ls []))) ?_ _ a b hit hx9
  intro a x hf hL hX H locs ls hI hl
  unfold bX6_faultOfHome_5 at hf
  refine lv_iload (pc := 5) hx hb dX6_faultOfHome_5 (lv_at hl 4 rfl) ?_
  refine lv_iconst (pc := 7) (v := 4) hx hb dX6_faultOfHome_7 (by decide) ?_
  refine z_icmp_ge (pc := 8) (tgt := 31) hx hb dX6_faultOfHome_8 (by decide) hf (fun hf => ?_) (fun hf => ?_)
  · exact (hX _ (Option.some.inj hf).symm) _ _ _ hI (lv_sub hl [3] rfl)
  refine lv_iload_n (pc := 11) hx hb dX6_faultOfHome_11 rfl (lv_at hl 3 rfl) ?_
  refine z_if_ne (pc := 12) (tgt := 31) hx hb dX6_faultOfHome_12 (by decide) hf (fun hf => ?_) (fun hf => ?_)
  · exact (hX _ (Option.some.inj hf).symm) _ _ _ hI (lv_sub hl [3] rfl)
  refine lv_aload_n (pc := 15) hx hb dX6_faultOfHome_15 rfl (lv_at hl 0 rfl) ?_
  refine lv_iload_n (pc := 16) hx hb dX6_faultOfHome_16 rfl (lv_at hl 1 rfl) ?_
  refine lv_iload_n (pc := 17) hx hb dX6_faultOfHome_17 rfl (lv_at hl 2 rfl) ?_
  refine lv_iload (pc := 18) hx hb dX6_faultOfHome_18 (lv_at hl 4 rfl) ?_
  refine lv_iadd (pc := 20) hx hb dX6_faultOfHome_20 ?_
  obtain ⟨q2, hc1, hf⟩ := zbind hf
  refine zcallVi (pc := 21) (As := [.int p1, .int (p2 + a.2)]) (rest := []) ⟨hx, hb, hml, hown, hts⟩ (kX6_faultAt l D ad cy js hjs p1 (p2 + a.2) u q2 hc1) (cwV 2 hts gX6_faultOfHome_X6_faultAt rfl rfl rfl (by decide +kernel) ⟨Nat.le_of_ble_eq_true rfl, Nat.le_of_ble_eq_true rfl⟩) hI rfl (xl_sheet ad cy u hjs) rfl hl.1 rfl (Nat.le_of_ble_eq_true rfl) dX6_faultOfHome_21 (Nat.zero_le _) (Nat.zero_le _) (fun H locs hI => ?_)
  refine lv_istore_n (pc := 24) (lv' := [(3, .int q2), (0, .ref (ad (39 + 2 * js))), (1, .int p1), (2, .int p2), (4, .int a.2)]) hx hb dX6_faultOfHome_24 rfl hl (by decide) rfl (fun ls hl => ?_)
  refine lv_iinc (pc := 25) (v := (a.2 + 1)) (lv' := [(4, .int (a.2 + 1)), (3, .int q2), (0, .ref (ad (39 + 2 * js))), (1, .int p1), (2, .int p2)]) hx hb dX6_faultOfHome_25 hl (k := 4) rfl rfl (by decide) rfl (fun ls hl => ?_)
  refine lv_goto (pc := 28) (tgt := 5) hx hb dX6_faultOfHome_28 (by decide) ?_
  exact hL _ (Option.some.inj hf).symm _ _ _ hI (lv_sub hl [2, 3, 4, 1, 0] rfl)
set_option maxHeartbeats 4000000 in
set_option maxRecDepth 100000 in
theorem kX6_faultOfHome (l : Launch) (D : va_G) (ad : Nat → Nat) (cy : Nat → ClassId) (k : Nat) (js : Nat) (hjs : js < 4) (a1 : Int32) (a2 : Int32) (u : CX) (r : Int32) (hf : fX6_faultOfHome k js a1 a2 u = some r) : zCt l yX6_faultOfHome wsX6_faultOfHome ({ frames := 1, cells := 0, slots := 0, locals := 22 } : Room) D ad cy [.ref (ad (39 + 2 * js)), .int a1, .int a2] (WX ad cy u) (some (.int r)) (WX ad cy u) := by
  refine zCt.of (cc := cX6_faultOfHome) (maxL := 5) (ret := (some .int)) (own := RX6) (by decide) rfl rfl ?_
  intro p e s m below meth c A C0 hI
  obtain ⟨hx, hb, hml, hown, hts, hr, hlk⟩ := id C0
  refine z_entry (Nat.le_of_ble_eq_true rfl) (fun ls hl => ?_)
  have hl : lv_has ls 5 [(0, .ref (ad (39 + 2 * js))), (1, .int a1), (2, .int a2)] := hl
  unfold fX6_faultOfHome at hf
  refine lv_iconst (pc := 0) (v := 0) hx hb dX6_faultOfHome_0 (by decide) ?_
  refine lv_istore_n (pc := 1) (lv' := [(3, .int (0 : Int32)), (0, .ref (ad (39 + 2 * js))), (1, .int a1), (2, .int a2)]) hx hb dX6_faultOfHome_1 rfl hl (by decide) rfl (fun ls hl => ?_)
  refine lv_iconst (pc := 2) (v := 0) hx hb dX6_faultOfHome_2 (by decide) ?_
  refine lv_istore (pc := 3) (lv' := [(4, .int (0 : Int32)), (3, .int (0 : Int32)), (0, .ref (ad (39 + 2 * js))), (1, .int a1), (2, .int a2)]) hx hb dX6_faultOfHome_3 hl (by decide) rfl (fun ls hl => ?_)
  obtain ⟨b3, hb4, hf⟩ := zbind hf
  refine lX6_faultOfHome_5 C0 hjs hb4 ?_ _ _ _ hI (lv_sub hl [2, 3, 4, 1, 0] rfl)
  intro H locs ls hI hl
  refine lv_iload_n (pc := 31) hx hb dX6_faultOfHome_31 rfl (lv_at hl 0 rfl) ?_
  cases hf
  exact z_iret (pc := 32) C0 hI dX6_faultOfHome_32
set_option maxHeartbeats 4000000 in
set_option maxRecDepth 100000 in
theorem kX6_cell (l : Launch) (D : va_G) (ad : Nat → Nat) (cy : Nat → ClassId) (js : Nat) (hjs : js < 4) (a1 : Int32) (u : CX) (r : Int32) (hf : fX6_cell js a1 u = some r) : zCt l yX6_cell wsX6_cell ({ frames := 0, cells := 0, slots := 0, locals := 0 } : Room) D ad cy [.ref (ad (39 + 2 * js)), .int a1] (WX ad cy u) (some (.int r)) (WX ad cy u) := by
  refine zCt.of (cc := cX6_cell) (maxL := 2) (ret := (some .int)) (own := RX6) (by decide) rfl rfl ?_
  intro p e s m below meth c A C0 hI
  obtain ⟨hx, hb, hml, hown, hts, hr, hlk⟩ := id C0
  refine z_entry (Nat.le_of_ble_eq_true rfl) (fun ls hl => ?_)
  have hl : lv_has ls 2 [(0, .ref (ad (39 + 2 * js))), (1, .int a1)] := hl
  unfold fX6_cell at hf
  refine lv_iload_n (pc := 0) hx hb dX6_cell_0 rfl (lv_at hl 1 rfl) ?_
  refine z_if_lt (pc := 1) (tgt := 10) hx hb dX6_cell_1 (by decide) hf (fun hf => ?_) (fun hf => ?_)
  · refine lv_iconst (pc := 10) (v := 0) hx hb dX6_cell_10 (by decide) ?_
    refine lv_goto (pc := 11) (tgt := 20) hx hb dX6_cell_11 (by decide) ?_
    cases hf
    exact z_iret (pc := 20) C0 hI dX6_cell_20
  refine lv_iload_n (pc := 4) hx hb dX6_cell_4 rfl (lv_at hl 1 rfl) ?_
  refine lv_bipush (pc := 5) (v := 48) hx hb dX6_cell_5 (by decide) ?_
  refine z_icmp_lt (pc := 7) (tgt := 14) hx hb dX6_cell_7 (by decide) hf (fun hf => ?_) (fun hf => ?_)
  · refine lv_aload_n (pc := 14) hx hb dX6_cell_14 rfl (lv_at hl 0 rfl) ?_
    refine z_get (pc := 15) (index := 11) hx hb hts iwX6_cell_6 hown hI (xl_sheet ad cy u hjs) rfl 0 (by decide) (by decide +kernel) rfl rfl dX6_cell_15 ?_
    refine lv_iload_n (pc := 18) hx hb dX6_cell_18 rfl (lv_at hl 1 rfl) ?_
    refine z_iald (pc := 19) hx hb hI (xl_scell ad cy u hjs) 0 rfl dX6_cell_19 hf (fun v1 hf => ?_)
    cases hf
    exact z_iret (pc := 20) C0 hI dX6_cell_20
  refine lv_iconst (pc := 10) (v := 0) hx hb dX6_cell_10 (by decide) ?_
  refine lv_goto (pc := 11) (tgt := 20) hx hb dX6_cell_11 (by decide) ?_
  cases hf
  exact z_iret (pc := 20) C0 hI dX6_cell_20
set_option maxHeartbeats 4000000 in
set_option maxRecDepth 100000 in
theorem lX6_isHome_4 (C0 : zFix p m c cX6_isHome 5 s args wsX6_isHome RX6 meth (some .boolean)) {k : Nat} {js : Nat} {p1 : Int32} {u : CX} (hjs : js < 4) {a : Int32 × Int32} {b : (Unit) ⊕ (Int32)} (hit : ziter (bX6_isHome_4 k js p1 u) k a = some b) (hx9 : (fun (b : (Unit) ⊕ (Int32)) => zel b (fun b => ∀ (H : Heap) (locs : List Loc) (ls : Array Slot), zIn D ad cy (WX ad cy u) A s H locs → lv_has ls 5 [] → W p l e ({ frames := 1, cells := 0, slots := 0, locals := 21 } : Room) s m args below meth c H locs 0 0 Q (F0 m 29 ls [])) (fun b => ∀ (H : Heap) (locs : List Loc) (ls : Array Slot), zIn D ad cy (WX ad cy u) A s H locs → lv_has ls 5 [(2, .int b)] → W p l e ({ frames := 1, cells := 0, slots := 0, locals := 21 } : Room) s m args below meth c H locs 0 0 Q (F0 m 42 ls []))) b) : (fun (a : Int32 × Int32) => ∀ (H : Heap) (locs : List Loc) (ls : Array Slot), zIn D ad cy (WX ad cy u) A s H locs → lv_has ls 5 [(0, .ref (ad (39 + 2 * js))), (1, .int p1), (2, .int a.1), (3, .int a.2)] → W p l e ({ frames := 1, cells := 0, slots := 0, locals := 21 } : Room) s m args below meth c H locs 0 0 Q (F0 m 4 ls [])) a := by
  obtain ⟨hx, hb, hml, hown, hts, hr, hlk⟩ := id C0
  refine zloop (Wh := (fun (a : Int32 × Int32) => ∀ (H : Heap) (locs : List Loc) (ls : Array Slot), zIn D ad cy (WX ad cy u) A s H locs → lv_has ls 5 [(0, .ref (ad (39 + 2 * js))), (1, .int p1), (2, .int a.1), (3, .int a.2)] → W p l e ({ frames := 1, cells := 0, slots := 0, locals := 21 } : Room) s m args below meth c H locs 0 0 Q (F0 m 4 ls []))) (Wx := (fun (b : (Unit) ⊕ (Int32)) => zel b (fun b => ∀ (H : Heap) (locs : List Loc) (ls : Array Slot), zIn D ad cy (WX ad cy u) A s H locs → lv_has ls 5 [] → W p l e ({ frames := 1, cells := 0, slots := 0, locals := 21 } : Room) s m args below meth c H locs 0 0 Q (F0 m 29 ls [])) (fun b => ∀ (H : Heap) (locs : List Loc) (ls : Array Slot), zIn D ad cy (WX ad cy u) A s H locs → lv_has ls 5 [(2, .int b)] → W p l e ({ frames := 1, cells := 0, slots := 0, locals := 21 } : Room) s m args below meth c H locs 0 0 Q (F0 m 42 ls [])))) ?_ _ a b hit hx9
  intro a x hf hL hX H locs ls hI hl
  unfold bX6_isHome_4 at hf
  refine lv_iload_n (pc := 4) hx hb dX6_isHome_4 rfl (lv_at hl 3 rfl) ?_
  refine lv_iconst (pc := 5) (v := 4) hx hb dX6_isHome_5 (by decide) ?_
  refine z_icmp_ge (pc := 6) (tgt := 42) hx hb dX6_isHome_6 (by decide) hf (fun hf => ?_) (fun hf => ?_)
  · exact (z_elP2 (hX _ (Option.some.inj hf).symm)) _ _ _ hI (lv_sub hl [2] rfl)
  refine lv_aload_n (pc := 9) hx hb dX6_isHome_9 rfl (lv_at hl 0 rfl) ?_
  refine lv_iload_n (pc := 10) hx hb dX6_isHome_10 rfl (lv_at hl 1 rfl) ?_
  refine lv_iload_n (pc := 11) hx hb dX6_isHome_11 rfl (lv_at hl 3 rfl) ?_
  refine lv_iadd (pc := 12) hx hb dX6_isHome_12 ?_
  obtain ⟨q2, hc1, hf⟩ := zbind hf
  refine zcallVi (pc := 13) (As := [.int (p1 + a.2)]) (rest := []) ⟨hx, hb, hml, hown, hts⟩ (kX6_cell l D ad cy js hjs (p1 + a.2) u q2 hc1) (cwV 1 hts gX6_isHome_X6_cell rfl rfl rfl (by decide +kernel) ⟨Nat.le_of_ble_eq_true rfl, Nat.le_of_ble_eq_true rfl⟩) hI rfl (xl_sheet ad cy u hjs) rfl hl.1 rfl (Nat.le_of_ble_eq_true rfl) dX6_isHome_13 (Nat.zero_le _) (Nat.zero_le _) (fun H locs hI => ?_)
  refine lv_istore (pc := 16) (lv' := [(4, .int q2), (0, .ref (ad (39 + 2 * js))), (1, .int p1), (2, .int a.1), (3, .int a.2)]) hx hb dX6_isHome_16 hl (by decide) rfl (fun ls hl => ?_)
  refine lv_iload (pc := 18) hx hb dX6_isHome_18 (lv_at hl 0 rfl) ?_
  refine z_if_lt (pc := 20) (tgt := 29) hx hb dX6_isHome_20 (by decide) hf (fun hf => ?_) (fun hf => ?_)
  · exact (z_elP1 (hX _ (Option.some.inj hf).symm)) _ _ _ hI (lv_sub hl [] rfl)
  refine lv_iload (pc := 23) hx hb dX6_isHome_23 (lv_at hl 0 rfl) ?_
  refine lv_iconst (pc := 25) (v := 3) hx hb dX6_isHome_25 (by decide) ?_
  refine z_icmp_le (pc := 26) (tgt := 31) hx hb dX6_isHome_26 (by decide) hf (fun hf => ?_) (fun hf => ?_)
  · refine lv_iload_n (pc := 31) hx hb dX6_isHome_31 rfl (lv_at hl 3 rfl) ?_
    refine lv_iload (pc := 32) hx hb dX6_isHome_32 (lv_at hl 0 rfl) ?_
    refine lv_iadd (pc := 34) hx hb dX6_isHome_34 ?_
    refine z_bi hf (fun v3 hf => ?_)
    refine lv_istore_n (pc := 35) (lv' := [(2, .int v3), (4, .int q2), (0, .ref (ad (39 + 2 * js))), (1, .int p1), (3, .int a.2)]) hx hb dX6_isHome_35 rfl hl (by decide) rfl (fun ls hl => ?_)
    refine lv_iinc (pc := 36) (v := (a.2 + 1)) (lv' := [(3, .int (a.2 + 1)), (2, .int v3), (4, .int q2), (0, .ref (ad (39 + 2 * js))), (1, .int p1)]) hx hb dX6_isHome_36 hl (k := 4) rfl rfl (by decide) rfl (fun ls hl => ?_)
    refine lv_goto (pc := 39) (tgt := 4) hx hb dX6_isHome_39 (by decide) ?_
    exact hL _ (Option.some.inj hf).symm _ _ _ hI (lv_sub hl [3, 4, 1, 0] rfl)
  exact (z_elP1 (hX _ (Option.some.inj hf).symm)) _ _ _ hI (lv_sub hl [] rfl)
set_option maxHeartbeats 4000000 in
set_option maxRecDepth 100000 in
theorem kX6_isHome (l : Launch) (D : va_G) (ad : Nat → Nat) (cy : Nat → ClassId) (k : Nat) (js : Nat) (hjs : js < 4) (a1 : Int32) (u : CX) (r : Int32) (hf : fX6_isHome k js a1 u = some r) : zCt l yX6_isHome wsX6_isHome ({ frames := 1, cells := 0, slots := 0, locals := 21 } : Room) D ad cy [.ref (ad (39 + 2 * js)), .int a1] (WX ad cy u) (some (.int r)) (WX ad cy u) := by
  refine zCt.of (cc := cX6_isHome) (maxL := 5) (ret := (some .boolean)) (own := RX6) (by decide) rfl rfl ?_
  intro p e s m below meth c A C0 hI
  obtain ⟨hx, hb, hml, hown, hts, hr, hlk⟩ := id C0
  refine z_entry (Nat.le_of_ble_eq_true rfl) (fun ls hl => ?_)
  have hl : lv_has ls 5 [(0, .ref (ad (39 + 2 * js))), (1, .int a1)] := hl
  unfold fX6_isHome at hf
  refine lv_iconst (pc := 0) (v := 0) hx hb dX6_isHome_0 (by decide) ?_
  refine lv_istore_n (pc := 1) (lv' := [(2, .int (0 : Int32)), (0, .ref (ad (39 + 2 * js))), (1, .int a1)]) hx hb dX6_isHome_1 rfl hl (by decide) rfl (fun ls hl => ?_)
  refine lv_iconst (pc := 2) (v := 0) hx hb dX6_isHome_2 (by decide) ?_
  refine lv_istore_n (pc := 3) (lv' := [(3, .int (0 : Int32)), (2, .int (0 : Int32)), (0, .ref (ad (39 + 2 * js))), (1, .int a1)]) hx hb dX6_isHome_3 rfl hl (by decide) rfl (fun ls hl => ?_)
  obtain ⟨b4, hb5, hf⟩ := zbind hf
  rcases b4 with b4 | b4
  · have hf := z_el1 hf
    refine lX6_isHome_4 C0 hjs hb5 ?_ _ _ _ hI (lv_sub hl [2, 3, 1, 0] rfl)
    intro H locs ls hI hl
    refine lv_iconst (pc := 29) (v := 0) hx hb dX6_isHome_29 (by decide) ?_
    cases hf
    exact z_zret (pc := 30) C0 hI (Or.inl rfl) dX6_isHome_30
  have hf := z_el2 hf
  refine lX6_isHome_4 C0 hjs hb5 ?_ _ _ _ hI (lv_sub hl [2, 3, 1, 0] rfl)
  intro H locs ls hI hl
  refine lv_iload_n (pc := 42) hx hb dX6_isHome_42 rfl (lv_at hl 0 rfl) ?_
  refine lv_iconst (pc := 43) (v := 3) hx hb dX6_isHome_43 (by decide) ?_
  refine z_icmp_gt (pc := 44) (tgt := 51) hx hb dX6_isHome_44 (by decide) hf (fun hf => ?_) (fun hf => ?_)
  · refine lv_iconst (pc := 51) (v := 0) hx hb dX6_isHome_51 (by decide) ?_
    cases hf
    exact z_zret (pc := 52) C0 hI (Or.inl rfl) dX6_isHome_52
  refine lv_iconst (pc := 47) (v := 1) hx hb dX6_isHome_47 (by decide) ?_
  refine lv_goto (pc := 48) (tgt := 52) hx hb dX6_isHome_48 (by decide) ?_
  cases hf
  exact z_zret (pc := 52) C0 hI (Or.inr rfl) dX6_isHome_52
set_option maxHeartbeats 4000000 in
set_option maxRecDepth 100000 in
theorem kX6_put (l : Launch) (D : va_G) (ad : Nat → Nat) (cy : Nat → ClassId) (js : Nat) (hjs : js < 4) (a1 : Int32) (a2 : Int32) (u : CX) (u' : CX) (hf : fX6_put js a1 a2 u = some u') : zCt l yX6_put wsX6_put ({ frames := 0, cells := 0, slots := 0, locals := 0 } : Room) D ad cy [.ref (ad (39 + 2 * js)), .int a1, .int a2] (WX ad cy u) none (WX ad cy u') := by
  refine zCt.of (cc := cX6_put) (maxL := 3) (ret := none) (own := RX6) (by decide) rfl rfl ?_
  intro p e s m below meth c A C0 hI
  obtain ⟨hx, hb, hml, hown, hts, hr, hlk⟩ := id C0
  refine z_entry (Nat.le_of_ble_eq_true rfl) (fun ls hl => ?_)
  have hl : lv_has ls 3 [(0, .ref (ad (39 + 2 * js))), (1, .int a1), (2, .int a2)] := hl
  unfold fX6_put at hf
  refine lv_iload_n (pc := 0) hx hb dX6_put_0 rfl (lv_at hl 1 rfl) ?_
  refine z_if_lt (pc := 1) (tgt := 10) hx hb dX6_put_1 (by decide) hf (fun hf => ?_) (fun hf => ?_)
  · cases hf
    exact z_vret (pc := 10) C0 hI dX6_put_10
  refine lv_iload_n (pc := 4) hx hb dX6_put_4 rfl (lv_at hl 1 rfl) ?_
  refine lv_bipush (pc := 5) (v := 48) hx hb dX6_put_5 (by decide) ?_
  refine z_icmp_lt (pc := 7) (tgt := 11) hx hb dX6_put_7 (by decide) hf (fun hf => ?_) (fun hf => ?_)
  · refine lv_aload_n (pc := 11) hx hb dX6_put_11 rfl (lv_at hl 0 rfl) ?_
    refine z_get (pc := 12) (index := 11) hx hb hts iwX6_put_6 hown hI (xl_sheet ad cy u hjs) rfl 0 (by decide) (by decide +kernel) rfl rfl dX6_put_12 ?_
    refine lv_iload_n (pc := 15) hx hb dX6_put_15 rfl (lv_at hl 1 rfl) ?_
    refine lv_aload_n (pc := 16) hx hb dX6_put_16 rfl (lv_at hl 0 rfl) ?_
    refine z_get (pc := 17) (index := 15) hx hb hts iwX6_put_6 hown hI (xl_sheet ad cy u hjs) rfl 1 (by decide) (by decide +kernel) rfl rfl dX6_put_17 ?_
    refine z_if_ne (pc := 20) (tgt := 28) hx hb dX6_put_20 (by decide) hf (fun hf => ?_) (fun hf => ?_)
    · refine lv_aload_n (pc := 28) hx hb dX6_put_28 rfl (lv_at hl 0 rfl) ?_
      refine z_get (pc := 29) (index := 15) hx hb hts iwX6_put_6 hown hI (xl_sheet ad cy u hjs) rfl 1 (by decide) (by decide +kernel) rfl rfl dX6_put_29 ?_
      refine lv_iconst (pc := 32) (v := 1) hx hb dX6_put_32 (by decide) ?_
      refine z_icmp_ne (pc := 33) (tgt := 41) hx hb dX6_put_33 (by decide) hf (fun hf => ?_) (fun hf => ?_)
      · refine lv_iload_n (pc := 41) hx hb dX6_put_41 rfl (lv_at hl 2 rfl) ?_
        refine z_iast (wf := WX ad cy) (pc := 42) hx hb hI (xl_scell ad cy u hjs) 0 rfl dX6_put_42 (fun j => xw_scell ad cy u hjs (upd (xg_scells u js) j a2)) hf (fun j1 u2 H locs hj1 hI hf => ?_)
        cases hf
        exact z_vret (pc := 43) C0 hI dX6_put_43
      refine lv_iload_n (pc := 36) hx hb dX6_put_36 rfl (lv_at hl 2 rfl) ?_
      refine lv_i2s (pc := 37) hx hb dX6_put_37 rfl ?_
      refine lv_goto (pc := 38) (tgt := 42) hx hb dX6_put_38 (by decide) ?_
      refine z_iast (wf := WX ad cy) (pc := 42) hx hb hI (xl_scell ad cy u hjs) 0 rfl dX6_put_42 (fun j => xw_scell ad cy u hjs (upd (xg_scells u js) j (a2.toInt16.toInt32))) hf (fun j3 u4 H locs hj3 hI hf => ?_)
      cases hf
      exact z_vret (pc := 43) C0 hI dX6_put_43
    refine lv_iload_n (pc := 23) hx hb dX6_put_23 rfl (lv_at hl 2 rfl) ?_
    refine lv_i2b (pc := 24) hx hb dX6_put_24 rfl ?_
    refine lv_goto (pc := 25) (tgt := 42) hx hb dX6_put_25 (by decide) ?_
    refine z_iast (wf := WX ad cy) (pc := 42) hx hb hI (xl_scell ad cy u hjs) 0 rfl dX6_put_42 (fun j => xw_scell ad cy u hjs (upd (xg_scells u js) j (a2.toInt8.toInt32))) hf (fun j5 u6 H locs hj5 hI hf => ?_)
    cases hf
    exact z_vret (pc := 43) C0 hI dX6_put_43
  cases hf
  exact z_vret (pc := 10) C0 hI dX6_put_10
end
