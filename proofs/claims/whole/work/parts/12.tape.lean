theorem iwX7_skips_7 : ∀ w ∈ wsX70, w ∈ wsX7_skips := by decide +kernel
def bX7_skips_0 (k : Nat) (p1 : Int32) (p2 : Int32) (a : CX) : Option ((CX) ⊕ (CX)) :=
  if (xg_tsize a) ≤ (xg_tat a) then
    some (.inr a)
  else
  zget 200 (xg_bytes a) (xg_tat a) (fun v1 =>
  if v1 < p1 then
    some (.inr a)
  else
  zget 200 (xg_bytes a) (xg_tat a) (fun v2 =>
  if p2 < v2 then
    some (.inr a)
  else
  zb (xs_tat a ((xg_tat a) + (1 : Int32))) (fun u3 =>
  some (.inl u3))))
def fX7_skips (k : Nat) (a1 : Int32) (a2 : Int32) (u : CX) : Option (Int32 × CX) :=
  (ziter (bX7_skips_0 k a1 a2) k u).bind (fun b4 =>
    if (xg_tat b4) ≤ (xg_start b4) then
      some ((0 : Int32), b4)
    else
    some ((1 : Int32), b4))
theorem iwX7_put_7 : ∀ w ∈ wsX70, w ∈ wsX7_put := by decide +kernel
def bX7_put_17 (k : Nat) (p1 : Int64) (a : Int32 × CX) : Option ((Int32 × CX) ⊕ (CX)) :=
  if (8 : Int32) ≤ a.1 then
    some (.inr a.2)
  else
  zix 200 ((xg_tsize a.2) + a.1) (fun j1 => zb (xs_bytes a.2 (upd (xg_bytes a.2) j1 (vp_nar .byte (((p1 >>> (((56 : Int32) - ((8 : Int32) * a.1)).toInt64 &&& 63)).toInt32).toInt8.toInt32)))) (fun u2 =>
  some (.inl ((a.1 + 1), u2))))
def fX7_put (k : Nat) (a1 : Int64) (u : CX) : Option (Int32 × CX) :=
  if ((xg_tsize u) + (8 : Int32)) ≤ (200 : Int32) then
    (ziter (bX7_put_17 k a1) k ((0 : Int32), u)).bind (fun b3 =>
      zb (xs_tsize b3 ((xg_tsize b3) + (8 : Int32))) (fun u5 =>
      some ((1 : Int32), u5)))
  else
  some ((0 : Int32), u)
theorem iwX7_rewind_7 : ∀ w ∈ wsX70, w ∈ wsX7_rewind := by decide +kernel
def fX7_rewind (u : CX) : Option (CX) :=
  zb (xs_tat u (0 : Int32)) (fun u1 =>
  zb (xs_start u1 (0 : Int32)) (fun u2 =>
  zb (xs_kind u2 (0 : Int32)) (fun u3 =>
  some u3)))
theorem iwX7_next_7 : ∀ w ∈ wsX70, w ∈ wsX7_next := by decide +kernel
def bX7_next_0 (k : Nat) (a : CX) : Option ((CX) ⊕ (CX)) :=
  if (xg_tsize a) ≤ (xg_tat a) then
    some (.inr a)
  else
  zget 200 (xg_bytes a) (xg_tat a) (fun v1 =>
  if v1 = (32 : Int32) then
    zb (xs_tat a ((xg_tat a) + (1 : Int32))) (fun u2 =>
    some (.inl u2))
  else
  some (.inr a))
def jX7_next_j38 (k : Nat) (u : CX) : Option (CX) :=
  zb (xs_start u (xg_tat u)) (fun u5 =>
  if (xg_tat u5) < (xg_tsize u5) then
    (fX7_skips k (97 : Int32) (122 : Int32) u5).bind (fun q7 =>
    if q7.1 = 0 then
      (fX7_skips k (48 : Int32) (57 : Int32) q7.2).bind (fun q9 =>
      if q9.1 = 0 then
        zget 200 (xg_bytes q9.2) (xg_tat q9.2) (fun v10 =>
        if v10 = (59 : Int32) then
          zb (xs_tat q9.2 ((xg_tat q9.2) + (1 : Int32))) (fun u12 =>
          zb (xs_kind u12 (4 : Int32)) (fun u13 =>
          some u13))
        else
        zb (xs_kind q9.2 (0 : Int32)) (fun u11 =>
        some u11))
      else
      if (3 : Int32) < ((xg_tat q9.2) - (xg_start q9.2)) then
        zb (xs_kind q9.2 (0 : Int32)) (fun u14 =>
        some u14)
      else
      zb (xs_kind q9.2 (3 : Int32)) (fun u15 =>
      some u15))
    else
    zb (xs_kind q7.2 (2 : Int32)) (fun u16 =>
    some u16))
  else
  zb (xs_kind u5 (1 : Int32)) (fun u17 =>
  some u17))
def fX7_next (k : Nat) (u : CX) : Option (CX) :=
  (ziter (bX7_next_0 k) k u).bind (fun b3 =>
    jX7_next_j38 k b3)
theorem iwX7_number_7 : ∀ w ∈ wsX70, w ∈ wsX7_number := by decide +kernel
def bX7_number_7 (k : Nat) (u : CX) (a : Int32 × Int32) : Option ((Int32 × Int32) ⊕ (Int32)) :=
  if (xg_tat u) ≤ a.2 then
    some (.inr a.1)
  else
  zget 200 (xg_bytes u) a.2 (fun v2 =>
  zb ((((10 : Int32) * a.1) + v2) - (48 : Int32)) (fun v3 =>
  some (.inl (v3, (a.2 + 1)))))
def fX7_number (k : Nat) (u : CX) : Option (Int32) :=
  zb (xg_start u) (fun v1 =>
  (ziter (bX7_number_7 k u) k ((0 : Int32), v1)).bind (fun b4 =>
    some b4))
theorem iwX7_letter_7 : ∀ w ∈ wsX70, w ∈ wsX7_letter := by decide +kernel
def fX7_letter (u : CX) : Option (Int32) :=
  if (xg_kind u) = (2 : Int32) then
    if ((xg_tat u) - (xg_start u)) = (1 : Int32) then
      zget 200 (xg_bytes u) (xg_start u) (fun v1 =>
      some (v1 - (97 : Int32)))
    else
    some (-1 : Int32)
  else
  some (-1 : Int32)
section
variable {p : Program} {l : Launch} {e : Env} {s : State} {m : MethodId} {args : Array Value} {below : List Frame} {meth : Method} {c : Code} {A : Nat → Prop} {Q : State → Prop} {D : va_G} {ad : Nat → Nat} {cy : Nat → ClassId}
set_option maxHeartbeats 4000000 in
set_option maxRecDepth 100000 in
theorem lX7_skips_0 (C0 : zFix p m c cX7_skips 3 s args wsX7_skips RX7 meth (some .boolean)) {k : Nat} {p1 : Int32} {p2 : Int32} {a : CX} {b : CX} (hit : ziter (bX7_skips_0 k p1 p2) k a = some b) (hx9 : (fun (b : CX) => ∀ (H : Heap) (locs : List Loc) (ls : Array Slot), zIn D ad cy (WX ad cy b) A s H locs → lv_has ls 3 [(0, .ref (ad 4))] → W p l e ({ frames := 0, cells := 0, slots := 0, locals := 0 } : Room) s m args below meth c H locs 0 0 Q (F0 m 50 ls [])) b) : (fun (a : CX) => ∀ (H : Heap) (locs : List Loc) (ls : Array Slot), zIn D ad cy (WX ad cy a) A s H locs → lv_has ls 3 [(0, .ref (ad 4)), (1, .int p1), (2, .int p2)] → W p l e ({ frames := 0, cells := 0, slots := 0, locals := 0 } : Room) s m args below meth c H locs 0 0 Q (F0 m 0 ls [])) a := by
  obtain ⟨hx, hb, hml, hown, hts, hr, hlk⟩ := id C0
  refine zloop (Wh := (fun (a : CX) => ∀ (H : Heap) (locs : List Loc) (ls : Array Slot), zIn D ad cy (WX ad cy a) A s H locs → lv_has ls 3 [(0, .ref (ad 4)), (1, .int p1), (2, .int p2)] → W p l e ({ frames := 0, cells := 0, slots := 0, locals := 0 } : Room) s m args below meth c H locs 0 0 Q (F0 m 0 ls []))) (Wx := (fun (b : CX) => ∀ (H : Heap) (locs : List Loc) (ls : Array Slot), zIn D ad cy (WX ad cy b) A s H locs → lv_has ls 3 [(0, .ref (ad 4))] → W p l e ({ frames := 0, cells := 0, slots := 0, locals := 0 } : Room) s m args below meth c H locs 0 0 Q (F0 m 50 ls []))) ?_ _ a b hit hx9
  intro a x hf hL hX H locs ls hI hl
  unfold bX7_skips_0 at hf
  refine lv_aload_n (pc := 0) hx hb dX7_skips_0 rfl (lv_at hl 0 rfl) ?_
  refine z_get (pc := 1) (index := 17) hx hb hts iwX7_skips_7 hown hI (xl_4 ad cy a) rfl 4 (by decide) (by decide +kernel) rfl rfl dX7_skips_1 ?_
  refine lv_aload_n (pc := 4) hx hb dX7_skips_4 rfl (lv_at hl 0 rfl) ?_
  refine z_get (pc := 5) (index := 13) hx hb hts iwX7_skips_7 hown hI (xl_4 ad cy a) rfl 1 (by decide) (by decide +kernel) rfl rfl dX7_skips_5 ?_
  refine z_icmp_ge (pc := 8) (tgt := 50) hx hb dX7_skips_8 (by decide) hf (fun hf => ?_) (fun hf => ?_)
  · exact (hX _ (Option.some.inj hf).symm) _ _ _ hI (lv_sub hl [0] rfl)
  refine lv_aload_n (pc := 11) hx hb dX7_skips_11 rfl (lv_at hl 0 rfl) ?_
  refine z_get (pc := 12) (index := 9) hx hb hts iwX7_skips_7 hown hI (xl_4 ad cy a) rfl 0 (by decide) (by decide +kernel) rfl rfl dX7_skips_12 ?_
  refine lv_aload_n (pc := 15) hx hb dX7_skips_15 rfl (lv_at hl 0 rfl) ?_
  refine z_get (pc := 16) (index := 17) hx hb hts iwX7_skips_7 hown hI (xl_4 ad cy a) rfl 4 (by decide) (by decide +kernel) rfl rfl dX7_skips_16 ?_
  refine z_bald (pc := 19) hx hb hI (xl_5 ad cy a) 1 rfl dX7_skips_19 hf (fun v1 hf => ?_)
  refine lv_iload_n (pc := 20) hx hb dX7_skips_20 rfl (lv_at hl 1 rfl) ?_
  refine z_icmp_lt (pc := 21) (tgt := 50) hx hb dX7_skips_21 (by decide) hf (fun hf => ?_) (fun hf => ?_)
  · exact (hX _ (Option.some.inj hf).symm) _ _ _ hI (lv_sub hl [0] rfl)
  refine lv_aload_n (pc := 24) hx hb dX7_skips_24 rfl (lv_at hl 0 rfl) ?_
  refine z_get (pc := 25) (index := 9) hx hb hts iwX7_skips_7 hown hI (xl_4 ad cy a) rfl 0 (by decide) (by decide +kernel) rfl rfl dX7_skips_25 ?_
  refine lv_aload_n (pc := 28) hx hb dX7_skips_28 rfl (lv_at hl 0 rfl) ?_
  refine z_get (pc := 29) (index := 17) hx hb hts iwX7_skips_7 hown hI (xl_4 ad cy a) rfl 4 (by decide) (by decide +kernel) rfl rfl dX7_skips_29 ?_
  refine z_bald (pc := 32) hx hb hI (xl_5 ad cy a) 1 rfl dX7_skips_32 hf (fun v2 hf => ?_)
  refine lv_iload_n (pc := 33) hx hb dX7_skips_33 rfl (lv_at hl 2 rfl) ?_
  refine z_icmp_gt (pc := 34) (tgt := 50) hx hb dX7_skips_34 (by decide) hf (fun hf => ?_) (fun hf => ?_)
  · exact (hX _ (Option.some.inj hf).symm) _ _ _ hI (lv_sub hl [0] rfl)
  refine lv_aload_n (pc := 37) hx hb dX7_skips_37 rfl (lv_at hl 0 rfl) ?_
  refine lv_dup (pc := 38) hx hb dX7_skips_38 rfl ?_
  refine z_get (pc := 39) (index := 17) hx hb hts iwX7_skips_7 hown hI (xl_4 ad cy a) rfl 4 (by decide) (by decide +kernel) rfl rfl dX7_skips_39 ?_
  refine lv_iconst (pc := 42) (v := 1) hx hb dX7_skips_42 (by decide) ?_
  refine lv_iadd (pc := 43) hx hb dX7_skips_43 ?_
  refine z_put (wf := WX ad cy) (pc := 44) (index := 17) hx hb hts iwX7_skips_7 tyX7 tyX7_ok nmX7 hown hI (xl_4 ad cy a) rfl 4 (by decide) (by decide +kernel) rfl rfl rfl rfl (Nat.le_of_ble_eq_true rfl) dX7_skips_44 (xw_tat ad cy a ((xg_tat a) + (1 : Int32))) hf (fun u3 H locs hI hf => ?_)
  refine lv_goto (pc := 47) (tgt := 0) hx hb dX7_skips_47 (by decide) ?_
  exact hL _ (Option.some.inj hf).symm _ _ _ hI (lv_sub hl [0, 1, 2] rfl)
set_option maxHeartbeats 4000000 in
set_option maxRecDepth 100000 in
theorem kX7_skips (l : Launch) (D : va_G) (ad : Nat → Nat) (cy : Nat → ClassId) (k : Nat) (a1 : Int32) (a2 : Int32) (u : CX) (r : Int32) (u' : CX) (hf : fX7_skips k a1 a2 u = some (r, u')) : zCt l yX7_skips wsX7_skips ({ frames := 0, cells := 0, slots := 0, locals := 0 } : Room) D ad cy [.ref (ad 4), .int a1, .int a2] (WX ad cy u) (some (.int r)) (WX ad cy u') := by
  refine zCt.of (cc := cX7_skips) (maxL := 3) (ret := (some .boolean)) (own := RX7) (by decide) rfl rfl ?_
  intro p e s m below meth c A C0 hI
  obtain ⟨hx, hb, hml, hown, hts, hr, hlk⟩ := id C0
  refine z_entry (Nat.le_of_ble_eq_true rfl) (fun ls hl => ?_)
  have hl : lv_has ls 3 [(0, .ref (ad 4)), (1, .int a1), (2, .int a2)] := hl
  unfold fX7_skips at hf
  obtain ⟨b4, hb5, hf⟩ := zbind hf
  refine lX7_skips_0 C0 hb5 ?_ _ _ _ hI (lv_sub hl [0, 1, 2] rfl)
  intro H locs ls hI hl
  refine lv_aload_n (pc := 50) hx hb dX7_skips_50 rfl (lv_at hl 0 rfl) ?_
  refine z_get (pc := 51) (index := 17) hx hb hts iwX7_skips_7 hown hI (xl_4 ad cy b4) rfl 4 (by decide) (by decide +kernel) rfl rfl dX7_skips_51 ?_
  refine lv_aload_n (pc := 54) hx hb dX7_skips_54 rfl (lv_at hl 0 rfl) ?_
  refine z_get (pc := 55) (index := 20) hx hb hts iwX7_skips_7 hown hI (xl_4 ad cy b4) rfl 3 (by decide) (by decide +kernel) rfl rfl dX7_skips_55 ?_
  refine z_icmp_le (pc := 58) (tgt := 65) hx hb dX7_skips_58 (by decide) hf (fun hf => ?_) (fun hf => ?_)
  · refine lv_iconst (pc := 65) (v := 0) hx hb dX7_skips_65 (by decide) ?_
    cases hf
    exact z_zret (pc := 66) C0 hI (Or.inl rfl) dX7_skips_66
  refine lv_iconst (pc := 61) (v := 1) hx hb dX7_skips_61 (by decide) ?_
  refine lv_goto (pc := 62) (tgt := 66) hx hb dX7_skips_62 (by decide) ?_
  cases hf
  exact z_zret (pc := 66) C0 hI (Or.inr rfl) dX7_skips_66
set_option maxHeartbeats 4000000 in
set_option maxRecDepth 100000 in
theorem lX7_put_17 (C0 : zFix p m c cX7_put 4 s args wsX7_put RX7 meth (some .boolean)) {k : Nat} {p1 : Int64} {a : Int32 × CX} {b : CX} (hit : ziter (bX7_put_17 k p1) k a = some b) (hx9 : (fun (b : CX) => ∀ (H : Heap) (locs : List Loc) (ls : Array Slot), zIn D ad cy (WX ad cy b) A s H locs → lv_has ls 4 [(0, .ref (ad 4))] → W p l e ({ frames := 0, cells := 0, slots := 0, locals := 0 } : Room) s m args below meth c H locs 0 0 Q (F0 m 51 ls [])) b) : (fun (a : Int32 × CX) => ∀ (H : Heap) (locs : List Loc) (ls : Array Slot), zIn D ad cy (WX ad cy a.2) A s H locs → lv_has ls 4 [(0, .ref (ad 4)), (1, .long p1), (3, .int a.1)] → W p l e ({ frames := 0, cells := 0, slots := 0, locals := 0 } : Room) s m args below meth c H locs 0 0 Q (F0 m 17 ls [])) a := by
  obtain ⟨hx, hb, hml, hown, hts, hr, hlk⟩ := id C0
  refine zloop (Wh := (fun (a : Int32 × CX) => ∀ (H : Heap) (locs : List Loc) (ls : Array Slot), zIn D ad cy (WX ad cy a.2) A s H locs → lv_has ls 4 [(0, .ref (ad 4)), (1, .long p1), (3, .int a.1)] → W p l e ({ frames := 0, cells := 0, slots := 0, locals := 0 } : Room) s m args below meth c H locs 0 0 Q (F0 m 17 ls []))) (Wx := (fun (b : CX) => ∀ (H : Heap) (locs : List Loc) (ls : Array Slot), zIn D ad cy (WX ad cy b) A s H locs → lv_has ls 4 [(0, .ref (ad 4))] → W p l e ({ frames := 0, cells := 0, slots := 0, locals := 0 } : Room) s m args below meth c H locs 0 0 Q (F0 m 51 ls []))) ?_ _ a b hit hx9
  intro a x hf hL hX H locs ls hI hl
  unfold bX7_put_17 at hf
  refine lv_iload_n (pc := 17) hx hb dX7_put_17 rfl (lv_at hl 2 rfl) ?_
  refine lv_bipush (pc := 18) (v := 8) hx hb dX7_put_18 (by decide) ?_
  refine z_icmp_ge (pc := 20) (tgt := 51) hx hb dX7_put_20 (by decide) hf (fun hf => ?_) (fun hf => ?_)
  · exact (hX _ (Option.some.inj hf).symm) _ _ _ hI (lv_sub hl [0] rfl)
  refine lv_aload_n (pc := 23) hx hb dX7_put_23 rfl (lv_at hl 0 rfl) ?_
  refine z_get (pc := 24) (index := 9) hx hb hts iwX7_put_7 hown hI (xl_4 ad cy a.2) rfl 0 (by decide) (by decide +kernel) rfl rfl dX7_put_24 ?_
  refine lv_aload_n (pc := 27) hx hb dX7_put_27 rfl (lv_at hl 0 rfl) ?_
  refine z_get (pc := 28) (index := 13) hx hb hts iwX7_put_7 hown hI (xl_4 ad cy a.2) rfl 1 (by decide) (by decide +kernel) rfl rfl dX7_put_28 ?_
  refine lv_iload_n (pc := 31) hx hb dX7_put_31 rfl (lv_at hl 2 rfl) ?_
  refine lv_iadd (pc := 32) hx hb dX7_put_32 ?_
  refine lv_lload_n (pc := 33) hx hb dX7_put_33 rfl (lv_at hl 1 rfl) ?_
  refine lv_bipush (pc := 34) (v := 56) hx hb dX7_put_34 (by decide) ?_
  refine lv_bipush (pc := 36) (v := 8) hx hb dX7_put_36 (by decide) ?_
  refine lv_iload_n (pc := 38) hx hb dX7_put_38 rfl (lv_at hl 2 rfl) ?_
  refine lv_imul (pc := 39) hx hb dX7_put_39 ?_
  refine lv_isub (pc := 40) hx hb dX7_put_40 ?_
  refine lv_lshr (pc := 41) hx hb dX7_put_41 rfl ?_
  refine lv_l2i (pc := 42) hx hb dX7_put_42 rfl ?_
  refine lv_i2b (pc := 43) hx hb dX7_put_43 rfl ?_
  refine z_bast (wf := WX ad cy) (pc := 44) hx hb hI (xl_5 ad cy a.2) 1 rfl dX7_put_44 (fun j => xw_bytes ad cy a.2 (upd (xg_bytes a.2) j (vp_nar .byte (((p1 >>> (((56 : Int32) - ((8 : Int32) * a.1)).toInt64 &&& 63)).toInt32).toInt8.toInt32)))) hf (fun j1 u2 H locs hj1 hI hf => ?_)
  refine lv_iinc (pc := 45) (v := (a.1 + 1)) (lv' := [(3, .int (a.1 + 1)), (0, .ref (ad 4)), (1, .long p1)]) hx hb dX7_put_45 hl (k := 2) rfl rfl (by decide) rfl (fun ls hl => ?_)
  refine lv_goto (pc := 48) (tgt := 17) hx hb dX7_put_48 (by decide) ?_
  exact hL _ (Option.some.inj hf).symm _ _ _ hI (lv_sub hl [1, 2, 0] rfl)
set_option maxHeartbeats 4000000 in
set_option maxRecDepth 100000 in
theorem kX7_put (l : Launch) (D : va_G) (ad : Nat → Nat) (cy : Nat → ClassId) (k : Nat) (a1 : Int64) (u : CX) (r : Int32) (u' : CX) (hf : fX7_put k a1 u = some (r, u')) : zCt l yX7_put wsX7_put ({ frames := 0, cells := 0, slots := 0, locals := 0 } : Room) D ad cy [.ref (ad 4), .long a1] (WX ad cy u) (some (.int r)) (WX ad cy u') := by
  refine zCt.of (cc := cX7_put) (maxL := 4) (ret := (some .boolean)) (own := RX7) (by decide) rfl rfl ?_
  intro p e s m below meth c A C0 hI
  obtain ⟨hx, hb, hml, hown, hts, hr, hlk⟩ := id C0
  refine z_entry (Nat.le_of_ble_eq_true rfl) (fun ls hl => ?_)
  have hl : lv_has ls 4 [(0, .ref (ad 4)), (1, .long a1)] := hl
  unfold fX7_put at hf
  refine lv_aload_n (pc := 0) hx hb dX7_put_0 rfl (lv_at hl 0 rfl) ?_
  refine z_get (pc := 1) (index := 13) hx hb hts iwX7_put_7 hown hI (xl_4 ad cy u) rfl 1 (by decide) (by decide +kernel) rfl rfl dX7_put_1 ?_
  refine lv_bipush (pc := 4) (v := 8) hx hb dX7_put_4 (by decide) ?_
  refine lv_iadd (pc := 6) hx hb dX7_put_6 ?_
  refine lv_sipush (pc := 7) (v := 200) hx hb dX7_put_7 (by decide) ?_
  refine z_icmp_le (pc := 10) (tgt := 15) hx hb dX7_put_10 (by decide) hf (fun hf => ?_) (fun hf => ?_)
  · refine lv_iconst (pc := 15) (v := 0) hx hb dX7_put_15 (by decide) ?_
    refine lv_istore_n (pc := 16) (lv' := [(3, .int (0 : Int32)), (0, .ref (ad 4)), (1, .long a1)]) hx hb dX7_put_16 rfl hl (by decide) rfl (fun ls hl => ?_)
    obtain ⟨b3, hb4, hf⟩ := zbind hf
    refine lX7_put_17 C0 hb4 ?_ _ _ _ hI (lv_sub hl [1, 2, 0] rfl)
    intro H locs ls hI hl
    refine lv_aload_n (pc := 51) hx hb dX7_put_51 rfl (lv_at hl 0 rfl) ?_
    refine lv_dup (pc := 52) hx hb dX7_put_52 rfl ?_
    refine z_get (pc := 53) (index := 13) hx hb hts iwX7_put_7 hown hI (xl_4 ad cy b3) rfl 1 (by decide) (by decide +kernel) rfl rfl dX7_put_53 ?_
    refine lv_bipush (pc := 56) (v := 8) hx hb dX7_put_56 (by decide) ?_
    refine lv_iadd (pc := 58) hx hb dX7_put_58 ?_
    refine z_put (wf := WX ad cy) (pc := 59) (index := 13) hx hb hts iwX7_put_7 tyX7 tyX7_ok nmX7 hown hI (xl_4 ad cy b3) rfl 1 (by decide) (by decide +kernel) rfl rfl rfl rfl (Nat.le_of_ble_eq_true rfl) dX7_put_59 (xw_tsize ad cy b3 ((xg_tsize b3) + (8 : Int32))) hf (fun u5 H locs hI hf => ?_)
    refine lv_iconst (pc := 62) (v := 1) hx hb dX7_put_62 (by decide) ?_
    cases hf
    exact z_zret (pc := 63) C0 hI (Or.inr rfl) dX7_put_63
  refine lv_iconst (pc := 13) (v := 0) hx hb dX7_put_13 (by decide) ?_
  cases hf
  exact z_zret (pc := 14) C0 hI (Or.inl rfl) dX7_put_14
set_option maxHeartbeats 4000000 in
set_option maxRecDepth 100000 in
theorem kX7_rewind (l : Launch) (D : va_G) (ad : Nat → Nat) (cy : Nat → ClassId) (u : CX) (u' : CX) (hf : fX7_rewind u = some u') : zCt l yX7_rewind wsX7_rewind ({ frames := 0, cells := 0, slots := 0, locals := 0 } : Room) D ad cy [.ref (ad 4)] (WX ad cy u) none (WX ad cy u') := by
  refine zCt.of (cc := cX7_rewind) (maxL := 1) (ret := none) (own := RX7) (by decide) rfl rfl ?_
  intro p e s m below meth c A C0 hI
  obtain ⟨hx, hb, hml, hown, hts, hr, hlk⟩ := id C0
  refine z_entry (Nat.le_of_ble_eq_true rfl) (fun ls hl => ?_)
  have hl : lv_has ls 1 [(0, .ref (ad 4))] := hl
  unfold fX7_rewind at hf
  refine lv_aload_n (pc := 0) hx hb dX7_rewind_0 rfl (lv_at hl 0 rfl) ?_
  refine lv_iconst (pc := 1) (v := 0) hx hb dX7_rewind_1 (by decide) ?_
  refine z_put (wf := WX ad cy) (pc := 2) (index := 17) hx hb hts iwX7_rewind_7 tyX7 tyX7_ok nmX7 hown hI (xl_4 ad cy u) rfl 4 (by decide) (by decide +kernel) rfl rfl rfl rfl (Nat.le_of_ble_eq_true rfl) dX7_rewind_2 (xw_tat ad cy u (0 : Int32)) hf (fun u1 H locs hI hf => ?_)
  refine lv_aload_n (pc := 5) hx hb dX7_rewind_5 rfl (lv_at hl 0 rfl) ?_
  refine lv_iconst (pc := 6) (v := 0) hx hb dX7_rewind_6 (by decide) ?_
  refine z_put (wf := WX ad cy) (pc := 7) (index := 20) hx hb hts iwX7_rewind_7 tyX7 tyX7_ok nmX7 hown hI (xl_4 ad cy u1) rfl 3 (by decide) (by decide +kernel) rfl rfl rfl rfl (Nat.le_of_ble_eq_true rfl) dX7_rewind_7 (xw_start ad cy u1 (0 : Int32)) hf (fun u2 H locs hI hf => ?_)
  refine lv_aload_n (pc := 10) hx hb dX7_rewind_10 rfl (lv_at hl 0 rfl) ?_
  refine lv_iconst (pc := 11) (v := 0) hx hb dX7_rewind_11 (by decide) ?_
  refine z_put (wf := WX ad cy) (pc := 12) (index := 23) hx hb hts iwX7_rewind_7 tyX7 tyX7_ok nmX7 hown hI (xl_4 ad cy u2) rfl 2 (by decide) (by decide +kernel) rfl rfl rfl rfl (Nat.le_of_ble_eq_true rfl) dX7_rewind_12 (xw_kind ad cy u2 (0 : Int32)) hf (fun u3 H locs hI hf => ?_)
  cases hf
  exact z_vret (pc := 15) C0 hI dX7_rewind_15
set_option maxHeartbeats 4000000 in
set_option maxRecDepth 100000 in
theorem lX7_next_0 (C0 : zFix p m c cX7_next 1 s args wsX7_next RX7 meth none) {k : Nat} {a : CX} {b : CX} (hit : ziter (bX7_next_0 k) k a = some b) (hx9 : (fun (b : CX) => ∀ (H : Heap) (locs : List Loc) (ls : Array Slot), zIn D ad cy (WX ad cy b) A s H locs → lv_has ls 1 [(0, .ref (ad 4))] → W p l e ({ frames := 1, cells := 0, slots := 0, locals := 22 } : Room) s m args below meth c H locs 0 0 Q (F0 m 38 ls [])) b) : (fun (a : CX) => ∀ (H : Heap) (locs : List Loc) (ls : Array Slot), zIn D ad cy (WX ad cy a) A s H locs → lv_has ls 1 [(0, .ref (ad 4))] → W p l e ({ frames := 1, cells := 0, slots := 0, locals := 22 } : Room) s m args below meth c H locs 0 0 Q (F0 m 0 ls [])) a := by
  obtain ⟨hx, hb, hml, hown, hts, hr, hlk⟩ := id C0
  refine zloop (Wh := (fun (a : CX) => ∀ (H : Heap) (locs : List Loc) (ls : Array Slot), zIn D ad cy (WX ad cy a) A s H locs → lv_has ls 1 [(0, .ref (ad 4))] → W p l e ({ frames := 1, cells := 0, slots := 0, locals := 22 } : Room) s m args below meth c H locs 0 0 Q (F0 m 0 ls []))) (Wx := (fun (b : CX) => ∀ (H : Heap) (locs : List Loc) (ls : Array Slot), zIn D ad cy (WX ad cy b) A s H locs → lv_has ls 1 [(0, .ref (ad 4))] → W p l e ({ frames := 1, cells := 0, slots := 0, locals := 22 } : Room) s m args below meth c H locs 0 0 Q (F0 m 38 ls []))) ?_ _ a b hit hx9
  intro a x hf hL hX H locs ls hI hl
  unfold bX7_next_0 at hf
  refine lv_aload_n (pc := 0) hx hb dX7_next_0 rfl (lv_at hl 0 rfl) ?_
  refine z_get (pc := 1) (index := 17) hx hb hts iwX7_next_7 hown hI (xl_4 ad cy a) rfl 4 (by decide) (by decide +kernel) rfl rfl dX7_next_1 ?_
  refine lv_aload_n (pc := 4) hx hb dX7_next_4 rfl (lv_at hl 0 rfl) ?_
  refine z_get (pc := 5) (index := 13) hx hb hts iwX7_next_7 hown hI (xl_4 ad cy a) rfl 1 (by decide) (by decide +kernel) rfl rfl dX7_next_5 ?_
  refine z_icmp_ge (pc := 8) (tgt := 38) hx hb dX7_next_8 (by decide) hf (fun hf => ?_) (fun hf => ?_)
  · exact (hX _ (Option.some.inj hf).symm) _ _ _ hI (lv_sub hl [0] rfl)
  refine lv_aload_n (pc := 11) hx hb dX7_next_11 rfl (lv_at hl 0 rfl) ?_
  refine z_get (pc := 12) (index := 9) hx hb hts iwX7_next_7 hown hI (xl_4 ad cy a) rfl 0 (by decide) (by decide +kernel) rfl rfl dX7_next_12 ?_
  refine lv_aload_n (pc := 15) hx hb dX7_next_15 rfl (lv_at hl 0 rfl) ?_
  refine z_get (pc := 16) (index := 17) hx hb hts iwX7_next_7 hown hI (xl_4 ad cy a) rfl 4 (by decide) (by decide +kernel) rfl rfl dX7_next_16 ?_
  refine z_bald (pc := 19) hx hb hI (xl_5 ad cy a) 1 rfl dX7_next_19 hf (fun v1 hf => ?_)
  refine lv_bipush (pc := 20) (v := 32) hx hb dX7_next_20 (by decide) ?_
  refine z_icmp_ne (pc := 22) (tgt := 38) hx hb dX7_next_22 (by decide) hf (fun hf => ?_) (fun hf => ?_)
  · exact (hX _ (Option.some.inj hf).symm) _ _ _ hI (lv_sub hl [0] rfl)
  refine lv_aload_n (pc := 25) hx hb dX7_next_25 rfl (lv_at hl 0 rfl) ?_
  refine lv_dup (pc := 26) hx hb dX7_next_26 rfl ?_
  refine z_get (pc := 27) (index := 17) hx hb hts iwX7_next_7 hown hI (xl_4 ad cy a) rfl 4 (by decide) (by decide +kernel) rfl rfl dX7_next_27 ?_
  refine lv_iconst (pc := 30) (v := 1) hx hb dX7_next_30 (by decide) ?_
  refine lv_iadd (pc := 31) hx hb dX7_next_31 ?_
  refine z_put (wf := WX ad cy) (pc := 32) (index := 17) hx hb hts iwX7_next_7 tyX7 tyX7_ok nmX7 hown hI (xl_4 ad cy a) rfl 4 (by decide) (by decide +kernel) rfl rfl rfl rfl (Nat.le_of_ble_eq_true rfl) dX7_next_32 (xw_tat ad cy a ((xg_tat a) + (1 : Int32))) hf (fun u2 H locs hI hf => ?_)
  refine lv_goto (pc := 35) (tgt := 0) hx hb dX7_next_35 (by decide) ?_
  exact hL _ (Option.some.inj hf).symm _ _ _ hI (lv_sub hl [0] rfl)
set_option maxHeartbeats 4000000 in
set_option maxRecDepth 100000 in
theorem qX7_next_j38 (C0 : zFix p m c cX7_next 1 s args wsX7_next RX7 meth none) {k : Nat} {u : CX} {u' : CX} (hf : jX7_next_j38 k u = some u') {H : Heap} {locs : List Loc} {ls : Array Slot} (hI : zIn D ad cy (WX ad cy u) A s H locs) (hl : lv_has ls 1 [(0, .ref (ad 4))]) : W p l e ({ frames := 1, cells := 0, slots := 0, locals := 22 } : Room) s m args below meth c H locs 0 0 (zMQ D cy below args s A none (WX ad cy u')) (F0 m 38 ls []) := by
  obtain ⟨hx, hb, hml, hown, hts, hr, hlk⟩ := id C0
  unfold jX7_next_j38 at hf
  refine lv_aload_n (pc := 38) hx hb dX7_next_38 rfl (lv_at hl 0 rfl) ?_
  refine lv_aload_n (pc := 39) hx hb dX7_next_39 rfl (lv_at hl 0 rfl) ?_
  refine z_get (pc := 40) (index := 17) hx hb hts iwX7_next_7 hown hI (xl_4 ad cy u) rfl 4 (by decide) (by decide +kernel) rfl rfl dX7_next_40 ?_
  refine z_put (wf := WX ad cy) (pc := 43) (index := 20) hx hb hts iwX7_next_7 tyX7 tyX7_ok nmX7 hown hI (xl_4 ad cy u) rfl 3 (by decide) (by decide +kernel) rfl rfl rfl rfl (Nat.le_of_ble_eq_true rfl) dX7_next_43 (xw_start ad cy u (xg_tat u)) hf (fun u5 H locs hI hf => ?_)
  refine lv_aload_n (pc := 46) hx hb dX7_next_46 rfl (lv_at hl 0 rfl) ?_
  refine z_get (pc := 47) (index := 17) hx hb hts iwX7_next_7 hown hI (xl_4 ad cy u5) rfl 4 (by decide) (by decide +kernel) rfl rfl dX7_next_47 ?_
  refine lv_aload_n (pc := 50) hx hb dX7_next_50 rfl (lv_at hl 0 rfl) ?_
  refine z_get (pc := 51) (index := 13) hx hb hts iwX7_next_7 hown hI (xl_4 ad cy u5) rfl 1 (by decide) (by decide +kernel) rfl rfl dX7_next_51 ?_
  refine z_icmp_lt (pc := 54) (tgt := 65) hx hb dX7_next_54 (by decide) hf (fun hf => ?_) (fun hf => ?_)
  · refine lv_aload_n (pc := 65) hx hb dX7_next_65 rfl (lv_at hl 0 rfl) ?_
    refine lv_bipush (pc := 66) (v := 97) hx hb dX7_next_66 (by decide) ?_
    refine lv_bipush (pc := 68) (v := 122) hx hb dX7_next_68 (by decide) ?_
    obtain ⟨q7, hc6, hf⟩ := zbind hf
    refine zcallVi (pc := 70) (As := [.int (97 : Int32), .int (122 : Int32)]) (rest := []) ⟨hx, hb, hml, hown, hts⟩ (kX7_skips l D ad cy k (97 : Int32) (122 : Int32) u5 q7.1 q7.2 hc6) (cwV 2 hts gX7_next_X7_skips rfl rfl rfl (by decide +kernel) ⟨Nat.le_of_ble_eq_true rfl, Nat.le_of_ble_eq_true rfl⟩) hI rfl (xl_4 ad cy u5) rfl hl.1 rfl (Nat.le_of_ble_eq_true rfl) dX7_next_70 (Nat.zero_le _) (Nat.zero_le _) (fun H locs hI => ?_)
    refine z_if_eq (pc := 73) (tgt := 84) hx hb dX7_next_73 (by decide) hf (fun hf => ?_) (fun hf => ?_)
    · refine lv_aload_n (pc := 84) hx hb dX7_next_84 rfl (lv_at hl 0 rfl) ?_
      refine lv_bipush (pc := 85) (v := 48) hx hb dX7_next_85 (by decide) ?_
      refine lv_bipush (pc := 87) (v := 57) hx hb dX7_next_87 (by decide) ?_
      obtain ⟨q9, hc8, hf⟩ := zbind hf
      refine zcallVi (pc := 89) (As := [.int (48 : Int32), .int (57 : Int32)]) (rest := []) ⟨hx, hb, hml, hown, hts⟩ (kX7_skips l D ad cy k (48 : Int32) (57 : Int32) q7.2 q9.1 q9.2 hc8) (cwV 2 hts gX7_next_X7_skips rfl rfl rfl (by decide +kernel) ⟨Nat.le_of_ble_eq_true rfl, Nat.le_of_ble_eq_true rfl⟩) hI rfl (xl_4 ad cy q7.2) rfl hl.1 rfl (Nat.le_of_ble_eq_true rfl) dX7_next_89 (Nat.zero_le _) (Nat.zero_le _) (fun H locs hI => ?_)
      refine z_if_eq (pc := 92) (tgt := 120) hx hb dX7_next_92 (by decide) hf (fun hf => ?_) (fun hf => ?_)
      · refine lv_aload_n (pc := 120) hx hb dX7_next_120 rfl (lv_at hl 0 rfl) ?_
        refine z_get (pc := 121) (index := 9) hx hb hts iwX7_next_7 hown hI (xl_4 ad cy q9.2) rfl 0 (by decide) (by decide +kernel) rfl rfl dX7_next_121 ?_
        refine lv_aload_n (pc := 124) hx hb dX7_next_124 rfl (lv_at hl 0 rfl) ?_
        refine z_get (pc := 125) (index := 17) hx hb hts iwX7_next_7 hown hI (xl_4 ad cy q9.2) rfl 4 (by decide) (by decide +kernel) rfl rfl dX7_next_125 ?_
        refine z_bald (pc := 128) hx hb hI (xl_5 ad cy q9.2) 1 rfl dX7_next_128 hf (fun v10 hf => ?_)
        refine lv_bipush (pc := 129) (v := 59) hx hb dX7_next_129 (by decide) ?_
        refine z_icmp_ne (pc := 131) (tgt := 152) hx hb dX7_next_131 (by decide) hf (fun hf => ?_) (fun hf => ?_)
        · refine lv_aload_n (pc := 152) hx hb dX7_next_152 rfl (lv_at hl 0 rfl) ?_
          refine lv_iconst (pc := 153) (v := 0) hx hb dX7_next_153 (by decide) ?_
          refine z_put (wf := WX ad cy) (pc := 154) (index := 23) hx hb hts iwX7_next_7 tyX7 tyX7_ok nmX7 hown hI (xl_4 ad cy q9.2) rfl 2 (by decide) (by decide +kernel) rfl rfl rfl rfl (Nat.le_of_ble_eq_true rfl) dX7_next_154 (xw_kind ad cy q9.2 (0 : Int32)) hf (fun u11 H locs hI hf => ?_)
          cases hf
          exact z_vret (pc := 157) C0 hI dX7_next_157
        refine lv_aload_n (pc := 134) hx hb dX7_next_134 rfl (lv_at hl 0 rfl) ?_
        refine lv_dup (pc := 135) hx hb dX7_next_135 rfl ?_
        refine z_get (pc := 136) (index := 17) hx hb hts iwX7_next_7 hown hI (xl_4 ad cy q9.2) rfl 4 (by decide) (by decide +kernel) rfl rfl dX7_next_136 ?_
        refine lv_iconst (pc := 139) (v := 1) hx hb dX7_next_139 (by decide) ?_
        refine lv_iadd (pc := 140) hx hb dX7_next_140 ?_
        refine z_put (wf := WX ad cy) (pc := 141) (index := 17) hx hb hts iwX7_next_7 tyX7 tyX7_ok nmX7 hown hI (xl_4 ad cy q9.2) rfl 4 (by decide) (by decide +kernel) rfl rfl rfl rfl (Nat.le_of_ble_eq_true rfl) dX7_next_141 (xw_tat ad cy q9.2 ((xg_tat q9.2) + (1 : Int32))) hf (fun u12 H locs hI hf => ?_)
        refine lv_aload_n (pc := 144) hx hb dX7_next_144 rfl (lv_at hl 0 rfl) ?_
        refine lv_iconst (pc := 145) (v := 4) hx hb dX7_next_145 (by decide) ?_
        refine z_put (wf := WX ad cy) (pc := 146) (index := 23) hx hb hts iwX7_next_7 tyX7 tyX7_ok nmX7 hown hI (xl_4 ad cy u12) rfl 2 (by decide) (by decide +kernel) rfl rfl rfl rfl (Nat.le_of_ble_eq_true rfl) dX7_next_146 (xw_kind ad cy u12 (4 : Int32)) hf (fun u13 H locs hI hf => ?_)
        refine lv_goto (pc := 149) (tgt := 157) hx hb dX7_next_149 (by decide) ?_
        cases hf
        exact z_vret (pc := 157) C0 hI dX7_next_157
      refine lv_aload_n (pc := 95) hx hb dX7_next_95 rfl (lv_at hl 0 rfl) ?_
      refine lv_aload_n (pc := 96) hx hb dX7_next_96 rfl (lv_at hl 0 rfl) ?_
      refine z_get (pc := 97) (index := 17) hx hb hts iwX7_next_7 hown hI (xl_4 ad cy q9.2) rfl 4 (by decide) (by decide +kernel) rfl rfl dX7_next_97 ?_
      refine lv_aload_n (pc := 100) hx hb dX7_next_100 rfl (lv_at hl 0 rfl) ?_
      refine z_get (pc := 101) (index := 20) hx hb hts iwX7_next_7 hown hI (xl_4 ad cy q9.2) rfl 3 (by decide) (by decide +kernel) rfl rfl dX7_next_101 ?_
      refine lv_isub (pc := 104) hx hb dX7_next_104 ?_
      refine lv_iconst (pc := 105) (v := 3) hx hb dX7_next_105 (by decide) ?_
      refine z_icmp_gt (pc := 106) (tgt := 113) hx hb dX7_next_106 (by decide) hf (fun hf => ?_) (fun hf => ?_)
      · refine lv_iconst (pc := 113) (v := 0) hx hb dX7_next_113 (by decide) ?_
        refine z_put (wf := WX ad cy) (pc := 114) (index := 23) hx hb hts iwX7_next_7 tyX7 tyX7_ok nmX7 hown hI (xl_4 ad cy q9.2) rfl 2 (by decide) (by decide +kernel) rfl rfl rfl rfl (Nat.le_of_ble_eq_true rfl) dX7_next_114 (xw_kind ad cy q9.2 (0 : Int32)) hf (fun u14 H locs hI hf => ?_)
        refine lv_goto (pc := 117) (tgt := 157) hx hb dX7_next_117 (by decide) ?_
        cases hf
        exact z_vret (pc := 157) C0 hI dX7_next_157
      refine lv_iconst (pc := 109) (v := 3) hx hb dX7_next_109 (by decide) ?_
      refine lv_goto (pc := 110) (tgt := 114) hx hb dX7_next_110 (by decide) ?_
      refine z_put (wf := WX ad cy) (pc := 114) (index := 23) hx hb hts iwX7_next_7 tyX7 tyX7_ok nmX7 hown hI (xl_4 ad cy q9.2) rfl 2 (by decide) (by decide +kernel) rfl rfl rfl rfl (Nat.le_of_ble_eq_true rfl) dX7_next_114 (xw_kind ad cy q9.2 (3 : Int32)) hf (fun u15 H locs hI hf => ?_)
      refine lv_goto (pc := 117) (tgt := 157) hx hb dX7_next_117 (by decide) ?_
      cases hf
      exact z_vret (pc := 157) C0 hI dX7_next_157
    refine lv_aload_n (pc := 76) hx hb dX7_next_76 rfl (lv_at hl 0 rfl) ?_
    refine lv_iconst (pc := 77) (v := 2) hx hb dX7_next_77 (by decide) ?_
    refine z_put (wf := WX ad cy) (pc := 78) (index := 23) hx hb hts iwX7_next_7 tyX7 tyX7_ok nmX7 hown hI (xl_4 ad cy q7.2) rfl 2 (by decide) (by decide +kernel) rfl rfl rfl rfl (Nat.le_of_ble_eq_true rfl) dX7_next_78 (xw_kind ad cy q7.2 (2 : Int32)) hf (fun u16 H locs hI hf => ?_)
    refine lv_goto (pc := 81) (tgt := 157) hx hb dX7_next_81 (by decide) ?_
    cases hf
    exact z_vret (pc := 157) C0 hI dX7_next_157
  refine lv_aload_n (pc := 57) hx hb dX7_next_57 rfl (lv_at hl 0 rfl) ?_
  refine lv_iconst (pc := 58) (v := 1) hx hb dX7_next_58 (by decide) ?_
  refine z_put (wf := WX ad cy) (pc := 59) (index := 23) hx hb hts iwX7_next_7 tyX7 tyX7_ok nmX7 hown hI (xl_4 ad cy u5) rfl 2 (by decide) (by decide +kernel) rfl rfl rfl rfl (Nat.le_of_ble_eq_true rfl) dX7_next_59 (xw_kind ad cy u5 (1 : Int32)) hf (fun u17 H locs hI hf => ?_)
  refine lv_goto (pc := 62) (tgt := 157) hx hb dX7_next_62 (by decide) ?_
  cases hf
  exact z_vret (pc := 157) C0 hI dX7_next_157
set_option maxHeartbeats 4000000 in
set_option maxRecDepth 100000 in
theorem kX7_next (l : Launch) (D : va_G) (ad : Nat → Nat) (cy : Nat → ClassId) (k : Nat) (u : CX) (u' : CX) (hf : fX7_next k u = some u') : zCt l yX7_next wsX7_next ({ frames := 1, cells := 0, slots := 0, locals := 22 } : Room) D ad cy [.ref (ad 4)] (WX ad cy u) none (WX ad cy u') := by
  refine zCt.of (cc := cX7_next) (maxL := 1) (ret := none) (own := RX7) (by decide) rfl rfl ?_
  intro p e s m below meth c A C0 hI
  obtain ⟨hx, hb, hml, hown, hts, hr, hlk⟩ := id C0
  refine z_entry (Nat.le_of_ble_eq_true rfl) (fun ls hl => ?_)
  have hl : lv_has ls 1 [(0, .ref (ad 4))] := hl
  unfold fX7_next at hf
  obtain ⟨b3, hb4, hf⟩ := zbind hf
  refine lX7_next_0 C0 hb4 ?_ _ _ _ hI (lv_sub hl [0] rfl)
  intro H locs ls hI hl
  exact qX7_next_j38 C0 hf hI (lv_sub hl [0] rfl)
set_option maxHeartbeats 4000000 in
set_option maxRecDepth 100000 in
theorem lX7_number_7 (C0 : zFix p m c cX7_number 3 s args wsX7_number RX7 meth (some .int)) {k : Nat} {u : CX} {a : Int32 × Int32} {b : Int32} (hit : ziter (bX7_number_7 k u) k a = some b) (hx9 : (fun (b : Int32) => ∀ (H : Heap) (locs : List Loc) (ls : Array Slot), zIn D ad cy (WX ad cy u) A s H locs → lv_has ls 3 [(1, .int b)] → W p l e ({ frames := 0, cells := 0, slots := 0, locals := 0 } : Room) s m args below meth c H locs 0 0 Q (F0 m 36 ls [])) b) : (fun (a : Int32 × Int32) => ∀ (H : Heap) (locs : List Loc) (ls : Array Slot), zIn D ad cy (WX ad cy u) A s H locs → lv_has ls 3 [(0, .ref (ad 4)), (1, .int a.1), (2, .int a.2)] → W p l e ({ frames := 0, cells := 0, slots := 0, locals := 0 } : Room) s m args below meth c H locs 0 0 Q (F0 m 7 ls [])) a := by
  obtain ⟨hx, hb, hml, hown, hts, hr, hlk⟩ := id C0
  refine zloop (Wh := (fun (a : Int32 × Int32) => ∀ (H : Heap) (locs : List Loc) (ls : Array Slot), zIn D ad cy (WX ad cy u) A s H locs → lv_has ls 3 [(0, .ref (ad 4)), (1, .int a.1), (2, .int a.2)] → W p l e ({ frames := 0, cells := 0, slots := 0, locals := 0 } : Room) s m args below meth c H locs 0 0 Q (F0 m 7 ls []))) (Wx := (fun (b : Int32) => ∀ (H : Heap) (locs : List Loc) (ls : Array Slot), zIn D ad cy (WX ad cy u) A s H locs → lv_has ls 3 [(1, .int b)] → W p l e ({ frames := 0, cells := 0, slots := 0, locals := 0 } : Room) s m args below meth c H locs 0 0 Q (F0 m 36 ls []))) ?_ _ a b hit hx9
  intro a x hf hL hX H locs ls hI hl
  unfold bX7_number_7 at hf
  refine lv_iload_n (pc := 7) hx hb dX7_number_7 rfl (lv_at hl 2 rfl) ?_
  refine lv_aload_n (pc := 8) hx hb dX7_number_8 rfl (lv_at hl 0 rfl) ?_
  refine z_get (pc := 9) (index := 17) hx hb hts iwX7_number_7 hown hI (xl_4 ad cy u) rfl 4 (by decide) (by decide +kernel) rfl rfl dX7_number_9 ?_
  refine z_icmp_ge (pc := 12) (tgt := 36) hx hb dX7_number_12 (by decide) hf (fun hf => ?_) (fun hf => ?_)
  · exact (hX _ (Option.some.inj hf).symm) _ _ _ hI (lv_sub hl [1] rfl)
  refine lv_bipush (pc := 15) (v := 10) hx hb dX7_number_15 (by decide) ?_
  refine lv_iload_n (pc := 17) hx hb dX7_number_17 rfl (lv_at hl 1 rfl) ?_
  refine lv_imul (pc := 18) hx hb dX7_number_18 ?_
  refine lv_aload_n (pc := 19) hx hb dX7_number_19 rfl (lv_at hl 0 rfl) ?_
  refine z_get (pc := 20) (index := 9) hx hb hts iwX7_number_7 hown hI (xl_4 ad cy u) rfl 0 (by decide) (by decide +kernel) rfl rfl dX7_number_20 ?_
  refine lv_iload_n (pc := 23) hx hb dX7_number_23 rfl (lv_at hl 2 rfl) ?_
  refine z_bald (pc := 24) hx hb hI (xl_5 ad cy u) 1 rfl dX7_number_24 hf (fun v2 hf => ?_)
  refine lv_iadd (pc := 25) hx hb dX7_number_25 ?_
  refine lv_bipush (pc := 26) (v := 48) hx hb dX7_number_26 (by decide) ?_
  refine lv_isub (pc := 28) hx hb dX7_number_28 ?_
  refine z_bi hf (fun v3 hf => ?_)
  refine lv_istore_n (pc := 29) (lv' := [(1, .int v3), (0, .ref (ad 4)), (2, .int a.2)]) hx hb dX7_number_29 rfl hl (by decide) rfl (fun ls hl => ?_)
  refine lv_iinc (pc := 30) (v := (a.2 + 1)) (lv' := [(2, .int (a.2 + 1)), (1, .int v3), (0, .ref (ad 4))]) hx hb dX7_number_30 hl (k := 2) rfl rfl (by decide) rfl (fun ls hl => ?_)
  refine lv_goto (pc := 33) (tgt := 7) hx hb dX7_number_33 (by decide) ?_
  exact hL _ (Option.some.inj hf).symm _ _ _ hI (lv_sub hl [2, 1, 0] rfl)
set_option maxHeartbeats 4000000 in
set_option maxRecDepth 100000 in
theorem kX7_number (l : Launch) (D : va_G) (ad : Nat → Nat) (cy : Nat → ClassId) (k : Nat) (u : CX) (r : Int32) (hf : fX7_number k u = some r) : zCt l yX7_number wsX7_number ({ frames := 0, cells := 0, slots := 0, locals := 0 } : Room) D ad cy [.ref (ad 4)] (WX ad cy u) (some (.int r)) (WX ad cy u) := by
  refine zCt.of (cc := cX7_number) (maxL := 3) (ret := (some .int)) (own := RX7) (by decide) rfl rfl ?_
  intro p e s m below meth c A C0 hI
  obtain ⟨hx, hb, hml, hown, hts, hr, hlk⟩ := id C0
  refine z_entry (Nat.le_of_ble_eq_true rfl) (fun ls hl => ?_)
  have hl : lv_has ls 3 [(0, .ref (ad 4))] := hl
  unfold fX7_number at hf
  refine lv_iconst (pc := 0) (v := 0) hx hb dX7_number_0 (by decide) ?_
  refine lv_istore_n (pc := 1) (lv' := [(1, .int (0 : Int32)), (0, .ref (ad 4))]) hx hb dX7_number_1 rfl hl (by decide) rfl (fun ls hl => ?_)
  refine lv_aload_n (pc := 2) hx hb dX7_number_2 rfl (lv_at hl 1 rfl) ?_
  refine z_get (pc := 3) (index := 20) hx hb hts iwX7_number_7 hown hI (xl_4 ad cy u) rfl 3 (by decide) (by decide +kernel) rfl rfl dX7_number_3 ?_
  refine z_bi hf (fun v1 hf => ?_)
  refine lv_istore_n (pc := 6) (lv' := [(2, .int v1), (1, .int (0 : Int32)), (0, .ref (ad 4))]) hx hb dX7_number_6 rfl hl (by decide) rfl (fun ls hl => ?_)
  obtain ⟨b4, hb5, hf⟩ := zbind hf
  refine lX7_number_7 C0 hb5 ?_ _ _ _ hI (lv_sub hl [2, 1, 0] rfl)
  intro H locs ls hI hl
  refine lv_iload_n (pc := 36) hx hb dX7_number_36 rfl (lv_at hl 0 rfl) ?_
  cases hf
  exact z_iret (pc := 37) C0 hI dX7_number_37
set_option maxHeartbeats 4000000 in
set_option maxRecDepth 100000 in
theorem kX7_letter (l : Launch) (D : va_G) (ad : Nat → Nat) (cy : Nat → ClassId) (u : CX) (r : Int32) (hf : fX7_letter u = some r) : zCt l yX7_letter wsX7_letter ({ frames := 0, cells := 0, slots := 0, locals := 0 } : Room) D ad cy [.ref (ad 4)] (WX ad cy u) (some (.int r)) (WX ad cy u) := by
  refine zCt.of (cc := cX7_letter) (maxL := 1) (ret := (some .int)) (own := RX7) (by decide) rfl rfl ?_
  intro p e s m below meth c A C0 hI
  obtain ⟨hx, hb, hml, hown, hts, hr, hlk⟩ := id C0
  refine z_entry (Nat.le_of_ble_eq_true rfl) (fun ls hl => ?_)
  have hl : lv_has ls 1 [(0, .ref (ad 4))] := hl
  unfold fX7_letter at hf
  refine lv_aload_n (pc := 0) hx hb dX7_letter_0 rfl (lv_at hl 0 rfl) ?_
  refine z_get (pc := 1) (index := 23) hx hb hts iwX7_letter_7 hown hI (xl_4 ad cy u) rfl 2 (by decide) (by decide +kernel) rfl rfl dX7_letter_1 ?_
  refine lv_iconst (pc := 4) (v := 2) hx hb dX7_letter_4 (by decide) ?_
  refine z_icmp_ne (pc := 5) (tgt := 36) hx hb dX7_letter_5 (by decide) hf (fun hf => ?_) (fun hf => ?_)
  · refine lv_iconst (pc := 36) (v := -1) hx hb dX7_letter_36 (by decide) ?_
    cases hf
    exact z_iret (pc := 37) C0 hI dX7_letter_37
  refine lv_aload_n (pc := 8) hx hb dX7_letter_8 rfl (lv_at hl 0 rfl) ?_
  refine z_get (pc := 9) (index := 17) hx hb hts iwX7_letter_7 hown hI (xl_4 ad cy u) rfl 4 (by decide) (by decide +kernel) rfl rfl dX7_letter_9 ?_
  refine lv_aload_n (pc := 12) hx hb dX7_letter_12 rfl (lv_at hl 0 rfl) ?_
  refine z_get (pc := 13) (index := 20) hx hb hts iwX7_letter_7 hown hI (xl_4 ad cy u) rfl 3 (by decide) (by decide +kernel) rfl rfl dX7_letter_13 ?_
  refine lv_isub (pc := 16) hx hb dX7_letter_16 ?_
  refine lv_iconst (pc := 17) (v := 1) hx hb dX7_letter_17 (by decide) ?_
  refine z_icmp_ne (pc := 18) (tgt := 36) hx hb dX7_letter_18 (by decide) hf (fun hf => ?_) (fun hf => ?_)
  · refine lv_iconst (pc := 36) (v := -1) hx hb dX7_letter_36 (by decide) ?_
    cases hf
    exact z_iret (pc := 37) C0 hI dX7_letter_37
  refine lv_aload_n (pc := 21) hx hb dX7_letter_21 rfl (lv_at hl 0 rfl) ?_
  refine z_get (pc := 22) (index := 9) hx hb hts iwX7_letter_7 hown hI (xl_4 ad cy u) rfl 0 (by decide) (by decide +kernel) rfl rfl dX7_letter_22 ?_
  refine lv_aload_n (pc := 25) hx hb dX7_letter_25 rfl (lv_at hl 0 rfl) ?_
  refine z_get (pc := 26) (index := 20) hx hb hts iwX7_letter_7 hown hI (xl_4 ad cy u) rfl 3 (by decide) (by decide +kernel) rfl rfl dX7_letter_26 ?_
  refine z_bald (pc := 29) hx hb hI (xl_5 ad cy u) 1 rfl dX7_letter_29 hf (fun v1 hf => ?_)
  refine lv_bipush (pc := 30) (v := 97) hx hb dX7_letter_30 (by decide) ?_
  refine lv_isub (pc := 32) hx hb dX7_letter_32 ?_
  refine lv_goto (pc := 33) (tgt := 37) hx hb dX7_letter_33 (by decide) ?_
  cases hf
  exact z_iret (pc := 37) C0 hI dX7_letter_37
end
