theorem iwX10_sheet_10 : ∀ w ∈ wsX100, w ∈ wsX10_sheet := by decide +kernel
def bX10_sheet_56 (k : Nat) (p1 : Int32) (a : Int32 × MX) : Option ((Int32 × MX) ⊕ (MX)) :=
  if (48 : Int32) ≤ a.1 then
    some (.inr a.2)
  else
  zix 192 (((48 : Int32) * p1) + a.1) (fun j9 => zb (ms_cells a.2 (upd (mg_cells a.2) j9 (0 : Int32))) (fun u10 =>
  some (.inl ((a.1 + 1), u10))))
def fX10_sheet (k : Nat) (a1 : Int32) (a2 : Int32) (a3 : Int32) (u : MX) : Option (Int32 × MX) :=
  (fX10_in (a1.toInt64) (0 : Int64) (3 : Int64)).bind (fun q2 =>
  if q2 = 0 then
    some ((-1 : Int32), u)
  else
  (fX10_in (a2.toInt64) (0 : Int64) (2 : Int64)).bind (fun q4 =>
  if q4 = 0 then
    some ((-1 : Int32), u)
  else
  if a3 ≤ (48 : Int32) then
    if 0 ≤ a3 then
      zix 4 a1 (fun j5 => zb (ms_lanes u (upd (mg_lanes u) j5 a2)) (fun u6 =>
      zix 4 a1 (fun j7 => zb (ms_lengths u6 (upd (mg_lengths u6) j7 a3)) (fun u8 =>
      (ziter (bX10_sheet_56 k a1) k ((0 : Int32), u8)).bind (fun b11 =>
        some ((1 : Int32), b11))))))
    else
    some ((-14 : Int32), u)
  else
  some ((-1 : Int32), u)))
theorem iwX10_lay_10 : ∀ w ∈ wsX100, w ∈ wsX10_lay := by decide +kernel
def fX10_lay (a1 : Int32) (a2 : Int32) (a3 : Int32) (u : MX) : Option (Int32 × MX) :=
  (fX10_in (a1.toInt64) (0 : Int64) (3 : Int64)).bind (fun q2 =>
  if q2 = 0 then
    some ((-1 : Int32), u)
  else
  zget 4 (mg_lanes u) a1 (fun v3 =>
  if v3 = (-4 : Int32) then
    some ((-11 : Int32), u)
  else
  zget 4 (mg_lengths u) a1 (fun v4 =>
  (fX10_in (a2.toInt64) (0 : Int64) ((v4 - (1 : Int32)).toInt64)).bind (fun q6 =>
  if q6 = 0 then
    some ((-12 : Int32), u)
  else
  zget 4 (mg_lanes u) a1 (fun v7 =>
  if v7 = 0 then
    zix 192 (((48 : Int32) * a1) + a2) (fun j13 => zb (ms_cells u (upd (mg_cells u) j13 ((a3 <<< ((24 : Int32) &&& 31)) >>> ((24 : Int32) &&& 31)))) (fun u14 =>
    some ((1 : Int32), u14)))
  else
  zget 4 (mg_lanes u) a1 (fun v8 =>
  if v8 = (1 : Int32) then
    zix 192 (((48 : Int32) * a1) + a2) (fun j11 => zb (ms_cells u (upd (mg_cells u) j11 ((a3 <<< ((16 : Int32) &&& 31)) >>> ((16 : Int32) &&& 31)))) (fun u12 =>
    some ((1 : Int32), u12)))
  else
  zix 192 (((48 : Int32) * a1) + a2) (fun j9 => zb (ms_cells u (upd (mg_cells u) j9 a3)) (fun u10 =>
  some ((1 : Int32), u10)))))))))
theorem iwX10_homeAt_10 : ∀ w ∈ wsX100, w ∈ wsX10_homeAt := by decide +kernel
def bX10_homeAt_7 (k : Nat) (p1 : Int32) (u : MX) (a : Int32 × Int32 × Int32) : Option ((Int32 × Int32 × Int32) ⊕ ((Unit) ⊕ (Int32 × Int32))) :=
  if (4 : Int32) ≤ a.2.2 then
    some (.inr (.inr (a.1, a.2.1)))
  else
  zget 192 (mg_cells u) (p1 + a.2.2) (fun v1 =>
  (fX10_in (v1.toInt64) (0 : Int64) (3 : Int64)).bind (fun q3 =>
  if q3 = 0 then
    some (.inr (.inl ()))
  else
  zget 192 (mg_cells u) (p1 + a.2.2) (fun v4 =>
  zb (((4 : Int32) * a.1) + v4) (fun v5 =>
  zget 192 (mg_cells u) (p1 + a.2.2) (fun v6 =>
  zb (a.2.1 + v6) (fun v7 =>
  some (.inl (v5, v7, (a.2.2 + 1)))))))))
def fX10_homeAt (k : Nat) (a1 : Int32) (u : MX) : Option (Int32) :=
  (ziter (bX10_homeAt_7 k a1 u) k ((0 : Int32), (0 : Int32), (0 : Int32))).bind
    (fun b8 => zel b8
     (fun b8 =>
        some (-4 : Int32))
      (fun b8 =>
        if b8.2 ≤ (3 : Int32) then
          some b8.1
        else
        some (-4 : Int32)))
theorem iwX10_read_10 : ∀ w ∈ wsX100, w ∈ wsX10_read := by decide +kernel
def jX10_read_j118_48 (k : Nat) (p1 : Int32) (p2 : Int32) (p3 : Int32) (p4 : Int32) (p6 : Int32) (p7 : Int32) (t0 : Int32) (u : MX) : Option ((Int32 × Int32 × Int32) ⊕ ((Int32) ⊕ (Unit) ⊕ (Int32 × Int32))) :=
  if t0 = 0 then
    zdi (4 : Int32) (
    if (zremI p7 (4 : Int32)) = (3 : Int32) then
      (fX10_homeAt k (((((48 : Int32) * p1) + p3) + p7) - (3 : Int32)) u).bind (fun q13 =>
      if q13 = (-4 : Int32) then
        some (.inr (.inl p6))
      else
      zget 10 (mg_known u) (0 : Int32) (fun v14 =>
      if (v14 + (p6 + 1)) ≤ (999 : Int32) then
        some (.inl (t0, (p6 + 1), (p7 + 1)))
      else
      some (.inr (.inr (.inl ())))))
    else
    some (.inl (t0, p6, (p7 + 1))))
  else
  some (.inl (t0, p6, (p7 + 1)))
def bX10_read_48 (k : Nat) (p1 : Int32) (p2 : Int32) (p3 : Int32) (p4 : Int32) (u : MX) (a : Int32 × Int32 × Int32) : Option ((Int32 × Int32 × Int32) ⊕ ((Int32) ⊕ (Unit) ⊕ (Int32 × Int32))) :=
  if ((4 : Int32) * p4) ≤ a.2.2 then
    some (.inr (.inr (.inr (a.1, a.2.1))))
  else
  if a.1 = 0 then
    zget 4 (mg_lanes u) p1 (fun v7 =>
    if v7 = (-4 : Int32) then
      jX10_read_j118_48 k p1 p2 p3 p4 a.2.1 a.2.2 (1 : Int32) u
    else
    zget 4 (mg_lanes u) p1 (fun v8 =>
    if v8 = p2 then
      zget 4 (mg_lengths u) p1 (fun v9 =>
      (fX10_in ((p3.toInt64) + (a.2.2.toInt64)) (0 : Int64) ((v9 - (1 : Int32)).toInt64)).bind (fun q11 =>
      if q11 = 0 then
        jX10_read_j118_48 k p1 p2 p3 p4 a.2.1 a.2.2 (2 : Int32) u
      else
      jX10_read_j118_48 k p1 p2 p3 p4 a.2.1 a.2.2 (0 : Int32) u))
    else
    jX10_read_j118_48 k p1 p2 p3 p4 a.2.1 a.2.2 (3 : Int32) u))
  else
  some (.inr (.inr (.inr (a.1, a.2.1))))
def bX10_read_193 (k : Nat) (p1 : Int32) (p3 : Int32) (p5 : Int32) (p6 : Int32) (a : Int32 × MX) : Option ((Int32 × MX) ⊕ (MX)) :=
  if p6 ≤ a.1 then
    some (.inr a.2)
  else
  zget 10 (mg_known a.2) (0 : Int32) (fun v19 =>
  zix 10 (0 : Int32) (fun j20 => zb (ms_known a.2 (upd (mg_known a.2) j20 (v19 + (1 : Int32)))) (fun u21 =>
  (fX10_homeAt k ((((48 : Int32) * p1) + p3) + ((4 : Int32) * a.1)) u21).bind (fun q23 =>
  (fX10_home k (1 : Int32) q23 u21).bind (fun q25 =>
  some (.inl ((a.1 + 1), q25)))))))
def fX10_read (k : Nat) (a1 : Int32) (a2 : Int32) (a3 : Int32) (a4 : Int32) (u : MX) : Option (Int32 × MX) :=
  (fX10_in (a1.toInt64) (0 : Int64) (3 : Int64)).bind (fun q2 =>
  if q2 = 0 then
    some ((-1 : Int32), u)
  else
  (fX10_in (a2.toInt64) (0 : Int64) (2 : Int64)).bind (fun q4 =>
  if q4 = 0 then
    some ((-1 : Int32), u)
  else
  (fX10_in (a4.toInt64) (0 : Int64) (12 : Int64)).bind (fun q6 =>
  if q6 = 0 then
    some ((-1 : Int32), u)
  else
  (ziter (bX10_read_48 k a1 a2 a3 a4 u) k ((0 : Int32), (0 : Int32), (0 : Int32))).bind
    (fun b15 => zel b15
     (fun b15 =>
        some (((-20 : Int32) - b15), u))
      (fun b15 => zel b15
       (fun b15 =>
          some ((-3 : Int32), u))
        (fun b15 =>
          (fX10_acts k u).bind (fun q18 =>
          (ziter (bX10_read_193 k a1 a3 b15.1 b15.2) k ((0 : Int32), q18)).bind (fun b26 =>
            zb (ms_torn b26 b15.1) (fun u28 =>
            some (b15.2, u28))))))))))
theorem iwX10_torn_10 : ∀ w ∈ wsX100, w ∈ wsX10_torn := by decide +kernel
def fX10_torn (u : MX) : Option (Int32) :=
  some (mg_torn u)
theorem iwX10_count_10 : ∀ w ∈ wsX100, w ∈ wsX10_count := by decide +kernel
def bX10_count_7 (k : Nat) (p1 : Int32) (u : MX) (a : Int32 × Int32 × Int32) : Option ((Int32 × Int32 × Int32) ⊕ (Int32 × Int32)) :=
  if (4 : Int32) ≤ a.2.2 then
    some (.inr (a.1, a.2.1))
  else
  zget 4 (mg_wrecks u) a.2.2 (fun v1 =>
  if v1 = 0 then
    zb (a.1 + (0 : Int32)) (fun v2 =>
    zget 4 (mg_shots u) a.2.2 (fun v3 =>
    if v3 ≤ 0 then
      zb (a.2.1 + (0 : Int32)) (fun v4 =>
      some (.inl (v2, v4, (a.2.2 + 1))))
    else
    zb (a.2.1 + (1 : Int32)) (fun v5 =>
    some (.inl (v2, v5, (a.2.2 + 1))))))
  else
  zb (a.1 + (1 : Int32)) (fun v6 =>
  zget 4 (mg_shots u) a.2.2 (fun v7 =>
  if v7 ≤ 0 then
    zb (a.2.1 + (0 : Int32)) (fun v8 =>
    some (.inl (v6, v8, (a.2.2 + 1))))
  else
  zb (a.2.1 + (1 : Int32)) (fun v9 =>
  some (.inl (v6, v9, (a.2.2 + 1)))))))
def fX10_count (k : Nat) (a1 : Int32) (u : MX) : Option (Int32) :=
  (ziter (bX10_count_7 k a1 u) k ((0 : Int32), (0 : Int32), (0 : Int32))).bind (fun b10 =>
    if a1 = 0 then
      zget 10 (mg_known u) (0 : Int32) (fun v17 =>
      some v17)
    else
    if a1 = 1 then
      (fX10_homes u).bind (fun q16 =>
      some q16)
    else
    if a1 = 2 then
      some b10.1
    else
    if a1 = 3 then
      some b10.2
    else
    if a1 = 4 then
      some (mg_undos u)
    else
    if a1 = 5 then
      some (mg_seed u)
    else
    if a1 = 6 then
      some (mg_taped u)
    else
    if a1 = 7 then
      zget 4 (mg_lanes u) (0 : Int32) (fun v13 =>
      if v13 = (-4 : Int32) then
        some (-4 : Int32)
      else
      zget 4 (mg_lengths u) (0 : Int32) (fun v14 =>
      some v14))
    else
    if a1 = 8 then
      zget 10 (mg_known u) (9 : Int32) (fun v12 =>
      some v12)
    else
    some (-1 : Int32))
section
variable {p : Program} {l : Launch} {e : Env} {s : State} {m : MethodId} {args : Array Value} {below : List Frame} {meth : Method} {c : Code} {A : Nat → Prop} {Q : State → Prop} {D : va_G} {ad : Nat → Nat} {cy : Nat → ClassId}
set_option maxHeartbeats 4000000 in
set_option maxRecDepth 100000 in
theorem lX10_sheet_56 (C0 : zFix p m c cX10_sheet 5 s args wsX10_sheet RX10 meth (some .int)) {k : Nat} {p1 : Int32} {a : Int32 × MX} {b : MX} (hit : ziter (bX10_sheet_56 k p1) k a = some b) (hx9 : (fun (b : MX) => ∀ (H : Heap) (locs : List Loc) (ls : Array Slot), zIn D ad cy (WM ad cy b) A s H locs → lv_has ls 5 [] → W p l e ({ frames := 1, cells := 0, slots := 0, locals := 25 } : Room) s m args below meth c H locs 0 0 Q (F0 m 82 ls [])) b) : (fun (a : Int32 × MX) => ∀ (H : Heap) (locs : List Loc) (ls : Array Slot), zIn D ad cy (WM ad cy a.2) A s H locs → lv_has ls 5 [(0, .ref (ad 0)), (1, .int p1), (4, .int a.1)] → W p l e ({ frames := 1, cells := 0, slots := 0, locals := 25 } : Room) s m args below meth c H locs 0 0 Q (F0 m 56 ls [])) a := by
  obtain ⟨hx, hb, hml, hown, hts, hr, hlk⟩ := id C0
  refine zloop (Wh := (fun (a : Int32 × MX) => ∀ (H : Heap) (locs : List Loc) (ls : Array Slot), zIn D ad cy (WM ad cy a.2) A s H locs → lv_has ls 5 [(0, .ref (ad 0)), (1, .int p1), (4, .int a.1)] → W p l e ({ frames := 1, cells := 0, slots := 0, locals := 25 } : Room) s m args below meth c H locs 0 0 Q (F0 m 56 ls []))) (Wx := (fun (b : MX) => ∀ (H : Heap) (locs : List Loc) (ls : Array Slot), zIn D ad cy (WM ad cy b) A s H locs → lv_has ls 5 [] → W p l e ({ frames := 1, cells := 0, slots := 0, locals := 25 } : Room) s m args below meth c H locs 0 0 Q (F0 m 82 ls []))) ?_ _ a b hit hx9
  intro a x hf hL hX H locs ls hI hl
  unfold bX10_sheet_56 at hf
  refine lv_iload (pc := 56) hx hb dX10_sheet_56 (lv_at hl 2 rfl) ?_
  refine lv_bipush (pc := 58) (v := 48) hx hb dX10_sheet_58 (by decide) ?_
  refine z_icmp_ge (pc := 60) (tgt := 82) hx hb dX10_sheet_60 (by decide) hf (fun hf => ?_) (fun hf => ?_)
  · exact (hX _ (Option.some.inj hf).symm) _ _ _ hI (lv_sub hl [] rfl)
  refine lv_aload_n (pc := 63) hx hb dX10_sheet_63 rfl (lv_at hl 0 rfl) ?_
  refine z_get (pc := 64) (index := 60) hx hb hts iwX10_sheet_10 hown hI (ml_0 ad cy a.2) rfl 30 (by decide) (by decide +kernel) rfl rfl dX10_sheet_64 ?_
  refine lv_bipush (pc := 67) (v := 48) hx hb dX10_sheet_67 (by decide) ?_
  refine lv_iload_n (pc := 69) hx hb dX10_sheet_69 rfl (lv_at hl 1 rfl) ?_
  refine lv_imul (pc := 70) hx hb dX10_sheet_70 ?_
  refine lv_iload (pc := 71) hx hb dX10_sheet_71 (lv_at hl 2 rfl) ?_
  refine lv_iadd (pc := 73) hx hb dX10_sheet_73 ?_
  refine lv_iconst (pc := 74) (v := 0) hx hb dX10_sheet_74 (by decide) ?_
  refine z_iast (wf := WM ad cy) (pc := 75) hx hb hI (ml_16 ad cy a.2) 0 rfl dX10_sheet_75 (fun j => mw_cells ad cy a.2 (upd (mg_cells a.2) j (0 : Int32))) hf (fun j9 u10 H locs hj9 hI hf => ?_)
  refine lv_iinc (pc := 76) (v := (a.1 + 1)) (lv' := [(4, .int (a.1 + 1)), (0, .ref (ad 0)), (1, .int p1)]) hx hb dX10_sheet_76 hl (k := 2) rfl rfl (by decide) rfl (fun ls hl => ?_)
  refine lv_goto (pc := 79) (tgt := 56) hx hb dX10_sheet_79 (by decide) ?_
  exact hL _ (Option.some.inj hf).symm _ _ _ hI (lv_sub hl [1, 2, 0] rfl)
set_option maxHeartbeats 4000000 in
set_option maxRecDepth 100000 in
theorem kX10_sheet (l : Launch) (D : va_G) (ad : Nat → Nat) (cy : Nat → ClassId) (k : Nat) (a1 : Int32) (a2 : Int32) (a3 : Int32) (u : MX) (r : Int32) (u' : MX) (hf : fX10_sheet k a1 a2 a3 u = some (r, u')) : zCt l yX10_sheet wsX10_sheet ({ frames := 1, cells := 0, slots := 0, locals := 25 } : Room) D ad cy [.ref (ad 0), .int a1, .int a2, .int a3] (WM ad cy u) (some (.int r)) (WM ad cy u') := by
  refine zCt.of (cc := cX10_sheet) (maxL := 5) (ret := (some .int)) (own := RX10) (by decide) rfl rfl ?_
  intro p e s m below meth c A C0 hI
  obtain ⟨hx, hb, hml, hown, hts, hr, hlk⟩ := id C0
  refine z_entry (Nat.le_of_ble_eq_true rfl) (fun ls hl => ?_)
  have hl : lv_has ls 5 [(0, .ref (ad 0)), (1, .int a1), (2, .int a2), (3, .int a3)] := hl
  unfold fX10_sheet at hf
  refine lv_iload_n (pc := 0) hx hb dX10_sheet_0 rfl (lv_at hl 1 rfl) ?_
  refine lv_i2l (pc := 1) hx hb dX10_sheet_1 rfl ?_
  refine lv_lconst (pc := 2) (v := 0) hx hb dX10_sheet_2 (by decide) ?_
  refine lv_ldc2 (pc := 3) (v := 3) hx hb hown (hts (.constantLong RX10 130 (3)) (by decide +kernel)) dX10_sheet_3 ?_
  obtain ⟨q2, hc1, hf⟩ := zbind hf
  refine zcallSi (pc := 6) (As := [.long (a1.toInt64), .long (0 : Int64), .long (3 : Int64)]) (rest := []) ⟨hx, hb, hml, hown, hts⟩ (kX10_in l (a1.toInt64) (0 : Int64) (3 : Int64) q2 hc1) (va_cwS 3 hts gX10_sheet_X10_in rfl rfl rfl (by decide +kernel) ⟨Nat.le_of_ble_eq_true rfl, Nat.le_of_ble_eq_true rfl⟩) rfl hl.1 rfl (Nat.le_of_ble_eq_true rfl) dX10_sheet_6 (Nat.zero_le _) (Nat.zero_le _) ?_
  refine z_if_eq (pc := 9) (tgt := 30) hx hb dX10_sheet_9 (by decide) hf (fun hf => ?_) (fun hf => ?_)
  · refine lv_iconst (pc := 30) (v := -1) hx hb dX10_sheet_30 (by decide) ?_
    obtain ⟨rfl, rfl⟩ := zpair hf
    exact z_iret (pc := 31) C0 hI dX10_sheet_31
  refine lv_iload_n (pc := 12) hx hb dX10_sheet_12 rfl (lv_at hl 2 rfl) ?_
  refine lv_i2l (pc := 13) hx hb dX10_sheet_13 rfl ?_
  refine lv_lconst (pc := 14) (v := 0) hx hb dX10_sheet_14 (by decide) ?_
  refine lv_ldc2 (pc := 15) (v := 2) hx hb hown (hts (.constantLong RX10 136 (2)) (by decide +kernel)) dX10_sheet_15 ?_
  obtain ⟨q4, hc3, hf⟩ := zbind hf
  refine zcallSi (pc := 18) (As := [.long (a2.toInt64), .long (0 : Int64), .long (2 : Int64)]) (rest := []) ⟨hx, hb, hml, hown, hts⟩ (kX10_in l (a2.toInt64) (0 : Int64) (2 : Int64) q4 hc3) (va_cwS 3 hts gX10_sheet_X10_in rfl rfl rfl (by decide +kernel) ⟨Nat.le_of_ble_eq_true rfl, Nat.le_of_ble_eq_true rfl⟩) rfl hl.1 rfl (Nat.le_of_ble_eq_true rfl) dX10_sheet_18 (Nat.zero_le _) (Nat.zero_le _) ?_
  refine z_if_eq (pc := 21) (tgt := 30) hx hb dX10_sheet_21 (by decide) hf (fun hf => ?_) (fun hf => ?_)
  · refine lv_iconst (pc := 30) (v := -1) hx hb dX10_sheet_30 (by decide) ?_
    obtain ⟨rfl, rfl⟩ := zpair hf
    exact z_iret (pc := 31) C0 hI dX10_sheet_31
  refine lv_iload_n (pc := 24) hx hb dX10_sheet_24 rfl (lv_at hl 3 rfl) ?_
  refine lv_bipush (pc := 25) (v := 48) hx hb dX10_sheet_25 (by decide) ?_
  refine z_icmp_le (pc := 27) (tgt := 32) hx hb dX10_sheet_27 (by decide) hf (fun hf => ?_) (fun hf => ?_)
  · refine lv_iload_n (pc := 32) hx hb dX10_sheet_32 rfl (lv_at hl 3 rfl) ?_
    refine z_if_ge (pc := 33) (tgt := 39) hx hb dX10_sheet_33 (by decide) hf (fun hf => ?_) (fun hf => ?_)
    · refine lv_aload_n (pc := 39) hx hb dX10_sheet_39 rfl (lv_at hl 0 rfl) ?_
      refine z_get (pc := 40) (index := 54) hx hb hts iwX10_sheet_10 hown hI (ml_0 ad cy u) rfl 28 (by decide) (by decide +kernel) rfl rfl dX10_sheet_40 ?_
      refine lv_iload_n (pc := 43) hx hb dX10_sheet_43 rfl (lv_at hl 1 rfl) ?_
      refine lv_iload_n (pc := 44) hx hb dX10_sheet_44 rfl (lv_at hl 2 rfl) ?_
      refine z_iast (wf := WM ad cy) (pc := 45) hx hb hI (ml_14 ad cy u) 0 rfl dX10_sheet_45 (fun j => mw_lanes ad cy u (upd (mg_lanes u) j a2)) hf (fun j5 u6 H locs hj5 hI hf => ?_)
      refine lv_aload_n (pc := 46) hx hb dX10_sheet_46 rfl (lv_at hl 0 rfl) ?_
      refine z_get (pc := 47) (index := 57) hx hb hts iwX10_sheet_10 hown hI (ml_0 ad cy u6) rfl 29 (by decide) (by decide +kernel) rfl rfl dX10_sheet_47 ?_
      refine lv_iload_n (pc := 50) hx hb dX10_sheet_50 rfl (lv_at hl 1 rfl) ?_
      refine lv_iload_n (pc := 51) hx hb dX10_sheet_51 rfl (lv_at hl 3 rfl) ?_
      refine z_iast (wf := WM ad cy) (pc := 52) hx hb hI (ml_15 ad cy u6) 0 rfl dX10_sheet_52 (fun j => mw_lengths ad cy u6 (upd (mg_lengths u6) j a3)) hf (fun j7 u8 H locs hj7 hI hf => ?_)
      refine lv_iconst (pc := 53) (v := 0) hx hb dX10_sheet_53 (by decide) ?_
      refine lv_istore (pc := 54) (lv' := [(4, .int (0 : Int32)), (0, .ref (ad 0)), (1, .int a1), (2, .int a2), (3, .int a3)]) hx hb dX10_sheet_54 hl (by decide) rfl (fun ls hl => ?_)
      obtain ⟨b11, hb12, hf⟩ := zbind hf
      refine lX10_sheet_56 C0 hb12 ?_ _ _ _ hI (lv_sub hl [1, 2, 0] rfl)
      intro H locs ls hI hl
      refine lv_iconst (pc := 82) (v := 1) hx hb dX10_sheet_82 (by decide) ?_
      obtain ⟨rfl, rfl⟩ := zpair hf
      exact z_iret (pc := 83) C0 hI dX10_sheet_83
    refine lv_bipush (pc := 36) (v := -14) hx hb dX10_sheet_36 (by decide) ?_
    obtain ⟨rfl, rfl⟩ := zpair hf
    exact z_iret (pc := 38) C0 hI dX10_sheet_38
  refine lv_iconst (pc := 30) (v := -1) hx hb dX10_sheet_30 (by decide) ?_
  obtain ⟨rfl, rfl⟩ := zpair hf
  exact z_iret (pc := 31) C0 hI dX10_sheet_31
set_option maxHeartbeats 4000000 in
set_option maxRecDepth 100000 in
theorem kX10_lay (l : Launch) (D : va_G) (ad : Nat → Nat) (cy : Nat → ClassId) (a1 : Int32) (a2 : Int32) (a3 : Int32) (u : MX) (r : Int32) (u' : MX) (hf : fX10_lay a1 a2 a3 u = some (r, u')) : zCt l yX10_lay wsX10_lay ({ frames := 1, cells := 0, slots := 0, locals := 25 } : Room) D ad cy [.ref (ad 0), .int a1, .int a2, .int a3] (WM ad cy u) (some (.int r)) (WM ad cy u') := by
  refine zCt.of (cc := cX10_lay) (maxL := 4) (ret := (some .int)) (own := RX10) (by decide) rfl rfl ?_
  intro p e s m below meth c A C0 hI
  obtain ⟨hx, hb, hml, hown, hts, hr, hlk⟩ := id C0
  refine z_entry (Nat.le_of_ble_eq_true rfl) (fun ls hl => ?_)
  have hl : lv_has ls 4 [(0, .ref (ad 0)), (1, .int a1), (2, .int a2), (3, .int a3)] := hl
  unfold fX10_lay at hf
  refine lv_iload_n (pc := 0) hx hb dX10_lay_0 rfl (lv_at hl 1 rfl) ?_
  refine lv_i2l (pc := 1) hx hb dX10_lay_1 rfl ?_
  refine lv_lconst (pc := 2) (v := 0) hx hb dX10_lay_2 (by decide) ?_
  refine lv_ldc2 (pc := 3) (v := 3) hx hb hown (hts (.constantLong RX10 130 (3)) (by decide +kernel)) dX10_lay_3 ?_
  obtain ⟨q2, hc1, hf⟩ := zbind hf
  refine zcallSi (pc := 6) (As := [.long (a1.toInt64), .long (0 : Int64), .long (3 : Int64)]) (rest := []) ⟨hx, hb, hml, hown, hts⟩ (kX10_in l (a1.toInt64) (0 : Int64) (3 : Int64) q2 hc1) (va_cwS 3 hts gX10_lay_X10_in rfl rfl rfl (by decide +kernel) ⟨Nat.le_of_ble_eq_true rfl, Nat.le_of_ble_eq_true rfl⟩) rfl hl.1 rfl (Nat.le_of_ble_eq_true rfl) dX10_lay_6 (Nat.zero_le _) (Nat.zero_le _) ?_
  refine z_if_ne (pc := 9) (tgt := 14) hx hb dX10_lay_9 (by decide) hf (fun hf => ?_) (fun hf => ?_)
  · refine lv_aload_n (pc := 14) hx hb dX10_lay_14 rfl (lv_at hl 0 rfl) ?_
    refine z_get (pc := 15) (index := 54) hx hb hts iwX10_lay_10 hown hI (ml_0 ad cy u) rfl 28 (by decide) (by decide +kernel) rfl rfl dX10_lay_15 ?_
    refine lv_iload_n (pc := 18) hx hb dX10_lay_18 rfl (lv_at hl 1 rfl) ?_
    refine z_iald (pc := 19) hx hb hI (ml_14 ad cy u) 0 rfl dX10_lay_19 hf (fun v3 hf => ?_)
    refine lv_bipush (pc := 20) (v := -4) hx hb dX10_lay_20 (by decide) ?_
    refine z_icmp_ne (pc := 22) (tgt := 28) hx hb dX10_lay_22 (by decide) hf (fun hf => ?_) (fun hf => ?_)
    · refine lv_iload_n (pc := 28) hx hb dX10_lay_28 rfl (lv_at hl 2 rfl) ?_
      refine lv_i2l (pc := 29) hx hb dX10_lay_29 rfl ?_
      refine lv_lconst (pc := 30) (v := 0) hx hb dX10_lay_30 (by decide) ?_
      refine lv_aload_n (pc := 31) hx hb dX10_lay_31 rfl (lv_at hl 0 rfl) ?_
      refine z_get (pc := 32) (index := 57) hx hb hts iwX10_lay_10 hown hI (ml_0 ad cy u) rfl 29 (by decide) (by decide +kernel) rfl rfl dX10_lay_32 ?_
      refine lv_iload_n (pc := 35) hx hb dX10_lay_35 rfl (lv_at hl 1 rfl) ?_
      refine z_iald (pc := 36) hx hb hI (ml_15 ad cy u) 0 rfl dX10_lay_36 hf (fun v4 hf => ?_)
      refine lv_iconst (pc := 37) (v := 1) hx hb dX10_lay_37 (by decide) ?_
      refine lv_isub (pc := 38) hx hb dX10_lay_38 ?_
      refine lv_i2l (pc := 39) hx hb dX10_lay_39 rfl ?_
      obtain ⟨q6, hc5, hf⟩ := zbind hf
      refine zcallSi (pc := 40) (As := [.long (a2.toInt64), .long (0 : Int64), .long ((v4 - (1 : Int32)).toInt64)]) (rest := []) ⟨hx, hb, hml, hown, hts⟩ (kX10_in l (a2.toInt64) (0 : Int64) ((v4 - (1 : Int32)).toInt64) q6 hc5) (va_cwS 3 hts gX10_lay_X10_in rfl rfl rfl (by decide +kernel) ⟨Nat.le_of_ble_eq_true rfl, Nat.le_of_ble_eq_true rfl⟩) rfl hl.1 rfl (Nat.le_of_ble_eq_true rfl) dX10_lay_40 (Nat.zero_le _) (Nat.zero_le _) ?_
      refine z_if_ne (pc := 43) (tgt := 49) hx hb dX10_lay_43 (by decide) hf (fun hf => ?_) (fun hf => ?_)
      · refine lv_aload_n (pc := 49) hx hb dX10_lay_49 rfl (lv_at hl 0 rfl) ?_
        refine z_get (pc := 50) (index := 60) hx hb hts iwX10_lay_10 hown hI (ml_0 ad cy u) rfl 30 (by decide) (by decide +kernel) rfl rfl dX10_lay_50 ?_
        refine lv_bipush (pc := 53) (v := 48) hx hb dX10_lay_53 (by decide) ?_
        refine lv_iload_n (pc := 55) hx hb dX10_lay_55 rfl (lv_at hl 1 rfl) ?_
        refine lv_imul (pc := 56) hx hb dX10_lay_56 ?_
        refine lv_iload_n (pc := 57) hx hb dX10_lay_57 rfl (lv_at hl 2 rfl) ?_
        refine lv_iadd (pc := 58) hx hb dX10_lay_58 ?_
        refine lv_aload_n (pc := 59) hx hb dX10_lay_59 rfl (lv_at hl 0 rfl) ?_
        refine z_get (pc := 60) (index := 54) hx hb hts iwX10_lay_10 hown hI (ml_0 ad cy u) rfl 28 (by decide) (by decide +kernel) rfl rfl dX10_lay_60 ?_
        refine lv_iload_n (pc := 63) hx hb dX10_lay_63 rfl (lv_at hl 1 rfl) ?_
        refine z_iald (pc := 64) hx hb hI (ml_14 ad cy u) 0 rfl dX10_lay_64 hf (fun v7 hf => ?_)
        refine z_if_ne (pc := 65) (tgt := 78) hx hb dX10_lay_65 (by decide) hf (fun hf => ?_) (fun hf => ?_)
        · refine lv_aload_n (pc := 78) hx hb dX10_lay_78 rfl (lv_at hl 0 rfl) ?_
          refine z_get (pc := 79) (index := 54) hx hb hts iwX10_lay_10 hown hI (ml_0 ad cy u) rfl 28 (by decide) (by decide +kernel) rfl rfl dX10_lay_79 ?_
          refine lv_iload_n (pc := 82) hx hb dX10_lay_82 rfl (lv_at hl 1 rfl) ?_
          refine z_iald (pc := 83) hx hb hI (ml_14 ad cy u) 0 rfl dX10_lay_83 hf (fun v8 hf => ?_)
          refine lv_iconst (pc := 84) (v := 1) hx hb dX10_lay_84 (by decide) ?_
          refine z_icmp_ne (pc := 85) (tgt := 98) hx hb dX10_lay_85 (by decide) hf (fun hf => ?_) (fun hf => ?_)
          · refine lv_iload_n (pc := 98) hx hb dX10_lay_98 rfl (lv_at hl 3 rfl) ?_
            refine z_iast (wf := WM ad cy) (pc := 99) hx hb hI (ml_16 ad cy u) 0 rfl dX10_lay_99 (fun j => mw_cells ad cy u (upd (mg_cells u) j a3)) hf (fun j9 u10 H locs hj9 hI hf => ?_)
            refine lv_iconst (pc := 100) (v := 1) hx hb dX10_lay_100 (by decide) ?_
            obtain ⟨rfl, rfl⟩ := zpair hf
            exact z_iret (pc := 101) C0 hI dX10_lay_101
          refine lv_iload_n (pc := 88) hx hb dX10_lay_88 rfl (lv_at hl 3 rfl) ?_
          refine lv_bipush (pc := 89) (v := 16) hx hb dX10_lay_89 (by decide) ?_
          refine lv_ishl (pc := 91) hx hb dX10_lay_91 ?_
          refine lv_bipush (pc := 92) (v := 16) hx hb dX10_lay_92 (by decide) ?_
          refine lv_ishr (pc := 94) hx hb dX10_lay_94 ?_
          refine lv_goto (pc := 95) (tgt := 99) hx hb dX10_lay_95 (by decide) ?_
          refine z_iast (wf := WM ad cy) (pc := 99) hx hb hI (ml_16 ad cy u) 0 rfl dX10_lay_99 (fun j => mw_cells ad cy u (upd (mg_cells u) j ((a3 <<< ((16 : Int32) &&& 31)) >>> ((16 : Int32) &&& 31)))) hf (fun j11 u12 H locs hj11 hI hf => ?_)
          refine lv_iconst (pc := 100) (v := 1) hx hb dX10_lay_100 (by decide) ?_
          obtain ⟨rfl, rfl⟩ := zpair hf
          exact z_iret (pc := 101) C0 hI dX10_lay_101
        refine lv_iload_n (pc := 68) hx hb dX10_lay_68 rfl (lv_at hl 3 rfl) ?_
        refine lv_bipush (pc := 69) (v := 24) hx hb dX10_lay_69 (by decide) ?_
        refine lv_ishl (pc := 71) hx hb dX10_lay_71 ?_
        refine lv_bipush (pc := 72) (v := 24) hx hb dX10_lay_72 (by decide) ?_
        refine lv_ishr (pc := 74) hx hb dX10_lay_74 ?_
        refine lv_goto (pc := 75) (tgt := 99) hx hb dX10_lay_75 (by decide) ?_
        refine z_iast (wf := WM ad cy) (pc := 99) hx hb hI (ml_16 ad cy u) 0 rfl dX10_lay_99 (fun j => mw_cells ad cy u (upd (mg_cells u) j ((a3 <<< ((24 : Int32) &&& 31)) >>> ((24 : Int32) &&& 31)))) hf (fun j13 u14 H locs hj13 hI hf => ?_)
        refine lv_iconst (pc := 100) (v := 1) hx hb dX10_lay_100 (by decide) ?_
        obtain ⟨rfl, rfl⟩ := zpair hf
        exact z_iret (pc := 101) C0 hI dX10_lay_101
      refine lv_bipush (pc := 46) (v := -12) hx hb dX10_lay_46 (by decide) ?_
      obtain ⟨rfl, rfl⟩ := zpair hf
      exact z_iret (pc := 48) C0 hI dX10_lay_48
    refine lv_bipush (pc := 25) (v := -11) hx hb dX10_lay_25 (by decide) ?_
    obtain ⟨rfl, rfl⟩ := zpair hf
    exact z_iret (pc := 27) C0 hI dX10_lay_27
  refine lv_iconst (pc := 12) (v := -1) hx hb dX10_lay_12 (by decide) ?_
  obtain ⟨rfl, rfl⟩ := zpair hf
  exact z_iret (pc := 13) C0 hI dX10_lay_13
set_option maxHeartbeats 4000000 in
set_option maxRecDepth 100000 in
theorem lX10_homeAt_7 (C0 : zFix p m c cX10_homeAt 5 s args wsX10_homeAt RX10 meth (some .int)) {k : Nat} {p1 : Int32} {u : MX} {a : Int32 × Int32 × Int32} {b : (Unit) ⊕ (Int32 × Int32)} (hit : ziter (bX10_homeAt_7 k p1 u) k a = some b) (hx9 : (fun (b : (Unit) ⊕ (Int32 × Int32)) => zel b (fun b => ∀ (H : Heap) (locs : List Loc) (ls : Array Slot), zIn D ad cy (WM ad cy u) A s H locs → lv_has ls 5 [] → W p l e ({ frames := 1, cells := 0, slots := 0, locals := 25 } : Room) s m args below meth c H locs 0 0 Q (F0 m 33 ls [])) (fun b => ∀ (H : Heap) (locs : List Loc) (ls : Array Slot), zIn D ad cy (WM ad cy u) A s H locs → lv_has ls 5 [(2, .int b.1), (3, .int b.2)] → W p l e ({ frames := 1, cells := 0, slots := 0, locals := 25 } : Room) s m args below meth c H locs 0 0 Q (F0 m 68 ls []))) b) : (fun (a : Int32 × Int32 × Int32) => ∀ (H : Heap) (locs : List Loc) (ls : Array Slot), zIn D ad cy (WM ad cy u) A s H locs → lv_has ls 5 [(0, .ref (ad 0)), (1, .int p1), (2, .int a.1), (3, .int a.2.1), (4, .int a.2.2)] → W p l e ({ frames := 1, cells := 0, slots := 0, locals := 25 } : Room) s m args below meth c H locs 0 0 Q (F0 m 7 ls [])) a := by
  obtain ⟨hx, hb, hml, hown, hts, hr, hlk⟩ := id C0
  refine zloop (Wh := (fun (a : Int32 × Int32 × Int32) => ∀ (H : Heap) (locs : List Loc) (ls : Array Slot), zIn D ad cy (WM ad cy u) A s H locs → lv_has ls 5 [(0, .ref (ad 0)), (1, .int p1), (2, .int a.1), (3, .int a.2.1), (4, .int a.2.2)] → W p l e ({ frames := 1, cells := 0, slots := 0, locals := 25 } : Room) s m args below meth c H locs 0 0 Q (F0 m 7 ls []))) (Wx := (fun (b : (Unit) ⊕ (Int32 × Int32)) => zel b (fun b => ∀ (H : Heap) (locs : List Loc) (ls : Array Slot), zIn D ad cy (WM ad cy u) A s H locs → lv_has ls 5 [] → W p l e ({ frames := 1, cells := 0, slots := 0, locals := 25 } : Room) s m args below meth c H locs 0 0 Q (F0 m 33 ls [])) (fun b => ∀ (H : Heap) (locs : List Loc) (ls : Array Slot), zIn D ad cy (WM ad cy u) A s H locs → lv_has ls 5 [(2, .int b.1), (3, .int b.2)] → W p l e ({ frames := 1, cells := 0, slots := 0, locals := 25 } : Room) s m args below meth c H locs 0 0 Q (F0 m 68 ls [])))) ?_ _ a b hit hx9
  intro a x hf hL hX H locs ls hI hl
  unfold bX10_homeAt_7 at hf
  refine lv_iload (pc := 7) hx hb dX10_homeAt_7 (lv_at hl 4 rfl) ?_
  refine lv_iconst (pc := 9) (v := 4) hx hb dX10_homeAt_9 (by decide) ?_
  refine z_icmp_ge (pc := 10) (tgt := 68) hx hb dX10_homeAt_10 (by decide) hf (fun hf => ?_) (fun hf => ?_)
  · exact (z_elP2 (hX _ (Option.some.inj hf).symm)) _ _ _ hI (lv_sub hl [2, 3] rfl)
  refine lv_aload_n (pc := 13) hx hb dX10_homeAt_13 rfl (lv_at hl 0 rfl) ?_
  refine z_get (pc := 14) (index := 60) hx hb hts iwX10_homeAt_10 hown hI (ml_0 ad cy u) rfl 30 (by decide) (by decide +kernel) rfl rfl dX10_homeAt_14 ?_
  refine lv_iload_n (pc := 17) hx hb dX10_homeAt_17 rfl (lv_at hl 1 rfl) ?_
  refine lv_iload (pc := 18) hx hb dX10_homeAt_18 (lv_at hl 4 rfl) ?_
  refine lv_iadd (pc := 20) hx hb dX10_homeAt_20 ?_
  refine z_iald (pc := 21) hx hb hI (ml_16 ad cy u) 0 rfl dX10_homeAt_21 hf (fun v1 hf => ?_)
  refine lv_i2l (pc := 22) hx hb dX10_homeAt_22 rfl ?_
  refine lv_lconst (pc := 23) (v := 0) hx hb dX10_homeAt_23 (by decide) ?_
  refine lv_ldc2 (pc := 24) (v := 3) hx hb hown (hts (.constantLong RX10 130 (3)) (by decide +kernel)) dX10_homeAt_24 ?_
  obtain ⟨q3, hc2, hf⟩ := zbind hf
  refine zcallSi (pc := 27) (As := [.long (v1.toInt64), .long (0 : Int64), .long (3 : Int64)]) (rest := []) ⟨hx, hb, hml, hown, hts⟩ (kX10_in l (v1.toInt64) (0 : Int64) (3 : Int64) q3 hc2) (va_cwS 3 hts gX10_homeAt_X10_in rfl rfl rfl (by decide +kernel) ⟨Nat.le_of_ble_eq_true rfl, Nat.le_of_ble_eq_true rfl⟩) rfl hl.1 rfl (Nat.le_of_ble_eq_true rfl) dX10_homeAt_27 (Nat.zero_le _) (Nat.zero_le _) ?_
  refine z_if_ne (pc := 30) (tgt := 36) hx hb dX10_homeAt_30 (by decide) hf (fun hf => ?_) (fun hf => ?_)
  · refine lv_iconst (pc := 36) (v := 4) hx hb dX10_homeAt_36 (by decide) ?_
    refine lv_iload_n (pc := 37) hx hb dX10_homeAt_37 rfl (lv_at hl 2 rfl) ?_
    refine lv_imul (pc := 38) hx hb dX10_homeAt_38 ?_
    refine lv_aload_n (pc := 39) hx hb dX10_homeAt_39 rfl (lv_at hl 0 rfl) ?_
    refine z_get (pc := 40) (index := 60) hx hb hts iwX10_homeAt_10 hown hI (ml_0 ad cy u) rfl 30 (by decide) (by decide +kernel) rfl rfl dX10_homeAt_40 ?_
    refine lv_iload_n (pc := 43) hx hb dX10_homeAt_43 rfl (lv_at hl 1 rfl) ?_
    refine lv_iload (pc := 44) hx hb dX10_homeAt_44 (lv_at hl 4 rfl) ?_
    refine lv_iadd (pc := 46) hx hb dX10_homeAt_46 ?_
    refine z_iald (pc := 47) hx hb hI (ml_16 ad cy u) 0 rfl dX10_homeAt_47 hf (fun v4 hf => ?_)
    refine lv_iadd (pc := 48) hx hb dX10_homeAt_48 ?_
    refine z_bi hf (fun v5 hf => ?_)
    refine lv_istore_n (pc := 49) (lv' := [(2, .int v5), (0, .ref (ad 0)), (1, .int p1), (3, .int a.2.1), (4, .int a.2.2)]) hx hb dX10_homeAt_49 rfl hl (by decide) rfl (fun ls hl => ?_)
    refine lv_iload_n (pc := 50) hx hb dX10_homeAt_50 rfl (lv_at hl 3 rfl) ?_
    refine lv_aload_n (pc := 51) hx hb dX10_homeAt_51 rfl (lv_at hl 1 rfl) ?_
    refine z_get (pc := 52) (index := 60) hx hb hts iwX10_homeAt_10 hown hI (ml_0 ad cy u) rfl 30 (by decide) (by decide +kernel) rfl rfl dX10_homeAt_52 ?_
    refine lv_iload_n (pc := 55) hx hb dX10_homeAt_55 rfl (lv_at hl 2 rfl) ?_
    refine lv_iload (pc := 56) hx hb dX10_homeAt_56 (lv_at hl 4 rfl) ?_
    refine lv_iadd (pc := 58) hx hb dX10_homeAt_58 ?_
    refine z_iald (pc := 59) hx hb hI (ml_16 ad cy u) 0 rfl dX10_homeAt_59 hf (fun v6 hf => ?_)
    refine lv_iadd (pc := 60) hx hb dX10_homeAt_60 ?_
    refine z_bi hf (fun v7 hf => ?_)
    refine lv_istore_n (pc := 61) (lv' := [(3, .int v7), (2, .int v5), (0, .ref (ad 0)), (1, .int p1), (4, .int a.2.2)]) hx hb dX10_homeAt_61 rfl hl (by decide) rfl (fun ls hl => ?_)
    refine lv_iinc (pc := 62) (v := (a.2.2 + 1)) (lv' := [(4, .int (a.2.2 + 1)), (3, .int v7), (2, .int v5), (0, .ref (ad 0)), (1, .int p1)]) hx hb dX10_homeAt_62 hl (k := 4) rfl rfl (by decide) rfl (fun ls hl => ?_)
    refine lv_goto (pc := 65) (tgt := 7) hx hb dX10_homeAt_65 (by decide) ?_
    exact hL _ (Option.some.inj hf).symm _ _ _ hI (lv_sub hl [3, 4, 2, 1, 0] rfl)
  exact (z_elP1 (hX _ (Option.some.inj hf).symm)) _ _ _ hI (lv_sub hl [] rfl)
set_option maxHeartbeats 4000000 in
set_option maxRecDepth 100000 in
theorem kX10_homeAt (l : Launch) (D : va_G) (ad : Nat → Nat) (cy : Nat → ClassId) (k : Nat) (a1 : Int32) (u : MX) (r : Int32) (hf : fX10_homeAt k a1 u = some r) : zCt l yX10_homeAt wsX10_homeAt ({ frames := 1, cells := 0, slots := 0, locals := 25 } : Room) D ad cy [.ref (ad 0), .int a1] (WM ad cy u) (some (.int r)) (WM ad cy u) := by
  refine zCt.of (cc := cX10_homeAt) (maxL := 5) (ret := (some .int)) (own := RX10) (by decide) rfl rfl ?_
  intro p e s m below meth c A C0 hI
  obtain ⟨hx, hb, hml, hown, hts, hr, hlk⟩ := id C0
  refine z_entry (Nat.le_of_ble_eq_true rfl) (fun ls hl => ?_)
  have hl : lv_has ls 5 [(0, .ref (ad 0)), (1, .int a1)] := hl
  unfold fX10_homeAt at hf
  refine lv_iconst (pc := 0) (v := 0) hx hb dX10_homeAt_0 (by decide) ?_
  refine lv_istore_n (pc := 1) (lv' := [(2, .int (0 : Int32)), (0, .ref (ad 0)), (1, .int a1)]) hx hb dX10_homeAt_1 rfl hl (by decide) rfl (fun ls hl => ?_)
  refine lv_iconst (pc := 2) (v := 0) hx hb dX10_homeAt_2 (by decide) ?_
  refine lv_istore_n (pc := 3) (lv' := [(3, .int (0 : Int32)), (2, .int (0 : Int32)), (0, .ref (ad 0)), (1, .int a1)]) hx hb dX10_homeAt_3 rfl hl (by decide) rfl (fun ls hl => ?_)
  refine lv_iconst (pc := 4) (v := 0) hx hb dX10_homeAt_4 (by decide) ?_
  refine lv_istore (pc := 5) (lv' := [(4, .int (0 : Int32)), (3, .int (0 : Int32)), (2, .int (0 : Int32)), (0, .ref (ad 0)), (1, .int a1)]) hx hb dX10_homeAt_5 hl (by decide) rfl (fun ls hl => ?_)
  obtain ⟨b8, hb9, hf⟩ := zbind hf
  rcases b8 with b8 | b8
  · have hf := z_el1 hf
    refine lX10_homeAt_7 C0 hb9 ?_ _ _ _ hI (lv_sub hl [3, 4, 2, 1, 0] rfl)
    intro H locs ls hI hl
    refine lv_bipush (pc := 33) (v := -4) hx hb dX10_homeAt_33 (by decide) ?_
    obtain rfl := zone hf
    exact z_iret (pc := 35) C0 hI dX10_homeAt_35
  have hf := z_el2 hf
  refine lX10_homeAt_7 C0 hb9 ?_ _ _ _ hI (lv_sub hl [3, 4, 2, 1, 0] rfl)
  intro H locs ls hI hl
  refine lv_iload_n (pc := 68) hx hb dX10_homeAt_68 rfl (lv_at hl 1 rfl) ?_
  refine lv_iconst (pc := 69) (v := 3) hx hb dX10_homeAt_69 (by decide) ?_
  refine z_icmp_le (pc := 70) (tgt := 78) hx hb dX10_homeAt_70 (by decide) hf (fun hf => ?_) (fun hf => ?_)
  · refine lv_iload_n (pc := 78) hx hb dX10_homeAt_78 rfl (lv_at hl 0 rfl) ?_
    obtain rfl := zone hf
    exact z_iret (pc := 79) C0 hI dX10_homeAt_79
  refine lv_bipush (pc := 73) (v := -4) hx hb dX10_homeAt_73 (by decide) ?_
  refine lv_goto (pc := 75) (tgt := 79) hx hb dX10_homeAt_75 (by decide) ?_
  obtain rfl := zone hf
  exact z_iret (pc := 79) C0 hI dX10_homeAt_79
set_option maxHeartbeats 4000000 in
set_option maxRecDepth 100000 in
theorem qX10_read_j118_48 (C0 : zFix p m c cX10_read 8 s args wsX10_read RX10 meth (some .int)) {k : Nat} {p1 : Int32} {p2 : Int32} {p3 : Int32} {p4 : Int32} {p6 : Int32} {p7 : Int32} {t0 : Int32} {u : MX}  {x : (Int32 × Int32 × Int32) ⊕ ((Int32) ⊕ (Unit) ⊕ (Int32 × Int32))} (hf : jX10_read_j118_48 k p1 p2 p3 p4 p6 p7 t0 u = some x) (hL : ∀ a', x = .inl a' → (fun (a : Int32 × Int32 × Int32) => ∀ (H : Heap) (locs : List Loc) (ls : Array Slot), zIn D ad cy (WM ad cy u) A s H locs → lv_has ls 8 [(0, .ref (ad 0)), (1, .int p1), (2, .int p2), (3, .int p3), (4, .int p4), (5, .int a.1), (6, .int a.2.1), (7, .int a.2.2)] → W p l e ({ frames := 3, cells := 0, slots := 0, locals := 66 } : Room) s m args below meth c H locs 0 0 Q (F0 m 48 ls [])) a') (hX : ∀ b', x = .inr b' → (fun (b : (Int32) ⊕ (Unit) ⊕ (Int32 × Int32)) => zel b (fun b => ∀ (H : Heap) (locs : List Loc) (ls : Array Slot), zIn D ad cy (WM ad cy u) A s H locs → lv_has ls 8 [(6, .int b)] → W p l e ({ frames := 3, cells := 0, slots := 0, locals := 66 } : Room) s m args below meth c H locs 0 0 Q (F0 m 153 ls [])) (fun b => zel b (fun b => ∀ (H : Heap) (locs : List Loc) (ls : Array Slot), zIn D ad cy (WM ad cy u) A s H locs → lv_has ls 8 [] → W p l e ({ frames := 3, cells := 0, slots := 0, locals := 66 } : Room) s m args below meth c H locs 0 0 Q (F0 m 177 ls [])) (fun b => ∀ (H : Heap) (locs : List Loc) (ls : Array Slot), zIn D ad cy (WM ad cy u) A s H locs → lv_has ls 8 [(0, .ref (ad 0)), (1, .int p1), (3, .int p3), (5, .int b.1), (6, .int b.2)] → W p l e ({ frames := 3, cells := 0, slots := 0, locals := 66 } : Room) s m args below meth c H locs 0 0 Q (F0 m 186 ls [])))) b') {H : Heap} {locs : List Loc} {ls : Array Slot} (hI : zIn D ad cy (WM ad cy u) A s H locs) (hl : lv_has ls 8 [(0, .ref (ad 0)), (1, .int p1), (2, .int p2), (3, .int p3), (4, .int p4), (6, .int p6), (7, .int p7)]) : W p l e ({ frames := 3, cells := 0, slots := 0, locals := 66 } : Room) s m args below meth c H locs 0 0 Q (F0 m 118 ls [.int t0]) := by
  obtain ⟨hx, hb, hml, hown, hts, hr, hlk⟩ := id C0
  unfold jX10_read_j118_48 at hf
  refine lv_istore (pc := 118) (lv' := [(5, .int t0), (0, .ref (ad 0)), (1, .int p1), (2, .int p2), (3, .int p3), (4, .int p4), (6, .int p6), (7, .int p7)]) hx hb dX10_read_118 hl (by decide) rfl (fun ls hl => ?_)
  refine lv_iload (pc := 120) hx hb dX10_read_120 (lv_at hl 0 rfl) ?_
  refine z_if_ne (pc := 122) (tgt := 180) hx hb dX10_read_122 (by decide) hf (fun hf => ?_) (fun hf => ?_)
  · refine lv_iinc (pc := 180) (v := (p7 + 1)) (lv' := [(7, .int (p7 + 1)), (5, .int t0), (0, .ref (ad 0)), (1, .int p1), (2, .int p2), (3, .int p3), (4, .int p4), (6, .int p6)]) hx hb dX10_read_180 hl (k := 7) rfl rfl (by decide) rfl (fun ls hl => ?_)
    refine lv_goto (pc := 183) (tgt := 48) hx hb dX10_read_183 (by decide) ?_
    exact hL _ (Option.some.inj hf).symm _ _ _ hI (lv_sub hl [2, 3, 4, 5, 6, 1, 7, 0] rfl)
  refine lv_iload (pc := 125) hx hb dX10_read_125 (lv_at hl 7 rfl) ?_
  refine lv_iconst (pc := 127) (v := 4) hx hb dX10_read_127 (by decide) ?_
  refine z_irem (pc := 128) hx hb dX10_read_128 hf (fun hf => ?_)
  refine lv_iconst (pc := 129) (v := 3) hx hb dX10_read_129 (by decide) ?_
  refine z_icmp_ne (pc := 130) (tgt := 180) hx hb dX10_read_130 (by decide) hf (fun hf => ?_) (fun hf => ?_)
  · refine lv_iinc (pc := 180) (v := (p7 + 1)) (lv' := [(7, .int (p7 + 1)), (5, .int t0), (0, .ref (ad 0)), (1, .int p1), (2, .int p2), (3, .int p3), (4, .int p4), (6, .int p6)]) hx hb dX10_read_180 hl (k := 7) rfl rfl (by decide) rfl (fun ls hl => ?_)
    refine lv_goto (pc := 183) (tgt := 48) hx hb dX10_read_183 (by decide) ?_
    exact hL _ (Option.some.inj hf).symm _ _ _ hI (lv_sub hl [2, 3, 4, 5, 6, 1, 7, 0] rfl)
  refine lv_aload_n (pc := 133) hx hb dX10_read_133 rfl (lv_at hl 1 rfl) ?_
  refine lv_bipush (pc := 134) (v := 48) hx hb dX10_read_134 (by decide) ?_
  refine lv_iload_n (pc := 136) hx hb dX10_read_136 rfl (lv_at hl 2 rfl) ?_
  refine lv_imul (pc := 137) hx hb dX10_read_137 ?_
  refine lv_iload_n (pc := 138) hx hb dX10_read_138 rfl (lv_at hl 4 rfl) ?_
  refine lv_iadd (pc := 139) hx hb dX10_read_139 ?_
  refine lv_iload (pc := 140) hx hb dX10_read_140 (lv_at hl 7 rfl) ?_
  refine lv_iadd (pc := 142) hx hb dX10_read_142 ?_
  refine lv_iconst (pc := 143) (v := 3) hx hb dX10_read_143 (by decide) ?_
  refine lv_isub (pc := 144) hx hb dX10_read_144 ?_
  obtain ⟨q13, hc12, hf⟩ := zbind hf
  refine zcallVi (pc := 145) (As := [.int (((((48 : Int32) * p1) + p3) + p7) - (3 : Int32))]) (rest := []) ⟨hx, hb, hml, hown, hts⟩ (kX10_homeAt l D ad cy k (((((48 : Int32) * p1) + p3) + p7) - (3 : Int32)) u q13 hc12) (cwV 1 hts gX10_read_X10_homeAt rfl rfl rfl (by decide +kernel) ⟨Nat.le_of_ble_eq_true rfl, Nat.le_of_ble_eq_true rfl⟩) hI rfl (ml_0 ad cy u) rfl hl.1 rfl (Nat.le_of_ble_eq_true rfl) dX10_read_145 (Nat.zero_le _) (Nat.zero_le _) (fun H locs hI => ?_)
  refine lv_bipush (pc := 148) (v := -4) hx hb dX10_read_148 (by decide) ?_
  refine z_icmp_ne (pc := 150) (tgt := 159) hx hb dX10_read_150 (by decide) hf (fun hf => ?_) (fun hf => ?_)
  · refine lv_iinc (pc := 159) (v := (p6 + 1)) (lv' := [(6, .int (p6 + 1)), (5, .int t0), (0, .ref (ad 0)), (1, .int p1), (2, .int p2), (3, .int p3), (4, .int p4), (7, .int p7)]) hx hb dX10_read_159 hl (k := 6) rfl rfl (by decide) rfl (fun ls hl => ?_)
    refine lv_aload_n (pc := 162) hx hb dX10_read_162 rfl (lv_at hl 2 rfl) ?_
    refine z_get (pc := 163) (index := 28) hx hb hts iwX10_read_10 hown hI (ml_0 ad cy u) rfl 15 (by decide) (by decide +kernel) rfl rfl dX10_read_163 ?_
    refine lv_iconst (pc := 166) (v := 0) hx hb dX10_read_166 (by decide) ?_
    refine z_iald (pc := 167) hx hb hI (ml_7 ad cy u) 0 rfl dX10_read_167 hf (fun v14 hf => ?_)
    refine lv_iload (pc := 168) hx hb dX10_read_168 (lv_at hl 0 rfl) ?_
    refine lv_iadd (pc := 170) hx hb dX10_read_170 ?_
    refine lv_sipush (pc := 171) (v := 999) hx hb dX10_read_171 (by decide) ?_
    refine z_icmp_le (pc := 174) (tgt := 180) hx hb dX10_read_174 (by decide) hf (fun hf => ?_) (fun hf => ?_)
    · refine lv_iinc (pc := 180) (v := (p7 + 1)) (lv' := [(7, .int (p7 + 1)), (6, .int (p6 + 1)), (5, .int t0), (0, .ref (ad 0)), (1, .int p1), (2, .int p2), (3, .int p3), (4, .int p4)]) hx hb dX10_read_180 hl (k := 7) rfl rfl (by decide) rfl (fun ls hl => ?_)
      refine lv_goto (pc := 183) (tgt := 48) hx hb dX10_read_183 (by decide) ?_
      exact hL _ (Option.some.inj hf).symm _ _ _ hI (lv_sub hl [3, 4, 5, 6, 7, 2, 1, 0] rfl)
    have h9 := hX _ (Option.some.inj hf).symm
    have h9 := z_elP2 h9
    have h9 := z_elP1 h9
    exact h9 _ _ _ hI (lv_sub hl [] rfl)
  have h9 := hX _ (Option.some.inj hf).symm
  have h9 := z_elP1 h9
  exact h9 _ _ _ hI (lv_sub hl [6] rfl)
set_option maxHeartbeats 4000000 in
set_option maxRecDepth 100000 in
theorem lX10_read_48 (C0 : zFix p m c cX10_read 8 s args wsX10_read RX10 meth (some .int)) {k : Nat} {p1 : Int32} {p2 : Int32} {p3 : Int32} {p4 : Int32} {u : MX} {a : Int32 × Int32 × Int32} {b : (Int32) ⊕ (Unit) ⊕ (Int32 × Int32)} (hit : ziter (bX10_read_48 k p1 p2 p3 p4 u) k a = some b) (hx9 : (fun (b : (Int32) ⊕ (Unit) ⊕ (Int32 × Int32)) => zel b (fun b => ∀ (H : Heap) (locs : List Loc) (ls : Array Slot), zIn D ad cy (WM ad cy u) A s H locs → lv_has ls 8 [(6, .int b)] → W p l e ({ frames := 3, cells := 0, slots := 0, locals := 66 } : Room) s m args below meth c H locs 0 0 Q (F0 m 153 ls [])) (fun b => zel b (fun b => ∀ (H : Heap) (locs : List Loc) (ls : Array Slot), zIn D ad cy (WM ad cy u) A s H locs → lv_has ls 8 [] → W p l e ({ frames := 3, cells := 0, slots := 0, locals := 66 } : Room) s m args below meth c H locs 0 0 Q (F0 m 177 ls [])) (fun b => ∀ (H : Heap) (locs : List Loc) (ls : Array Slot), zIn D ad cy (WM ad cy u) A s H locs → lv_has ls 8 [(0, .ref (ad 0)), (1, .int p1), (3, .int p3), (5, .int b.1), (6, .int b.2)] → W p l e ({ frames := 3, cells := 0, slots := 0, locals := 66 } : Room) s m args below meth c H locs 0 0 Q (F0 m 186 ls [])))) b) : (fun (a : Int32 × Int32 × Int32) => ∀ (H : Heap) (locs : List Loc) (ls : Array Slot), zIn D ad cy (WM ad cy u) A s H locs → lv_has ls 8 [(0, .ref (ad 0)), (1, .int p1), (2, .int p2), (3, .int p3), (4, .int p4), (5, .int a.1), (6, .int a.2.1), (7, .int a.2.2)] → W p l e ({ frames := 3, cells := 0, slots := 0, locals := 66 } : Room) s m args below meth c H locs 0 0 Q (F0 m 48 ls [])) a := by
  obtain ⟨hx, hb, hml, hown, hts, hr, hlk⟩ := id C0
  refine zloop (Wh := (fun (a : Int32 × Int32 × Int32) => ∀ (H : Heap) (locs : List Loc) (ls : Array Slot), zIn D ad cy (WM ad cy u) A s H locs → lv_has ls 8 [(0, .ref (ad 0)), (1, .int p1), (2, .int p2), (3, .int p3), (4, .int p4), (5, .int a.1), (6, .int a.2.1), (7, .int a.2.2)] → W p l e ({ frames := 3, cells := 0, slots := 0, locals := 66 } : Room) s m args below meth c H locs 0 0 Q (F0 m 48 ls []))) (Wx := (fun (b : (Int32) ⊕ (Unit) ⊕ (Int32 × Int32)) => zel b (fun b => ∀ (H : Heap) (locs : List Loc) (ls : Array Slot), zIn D ad cy (WM ad cy u) A s H locs → lv_has ls 8 [(6, .int b)] → W p l e ({ frames := 3, cells := 0, slots := 0, locals := 66 } : Room) s m args below meth c H locs 0 0 Q (F0 m 153 ls [])) (fun b => zel b (fun b => ∀ (H : Heap) (locs : List Loc) (ls : Array Slot), zIn D ad cy (WM ad cy u) A s H locs → lv_has ls 8 [] → W p l e ({ frames := 3, cells := 0, slots := 0, locals := 66 } : Room) s m args below meth c H locs 0 0 Q (F0 m 177 ls [])) (fun b => ∀ (H : Heap) (locs : List Loc) (ls : Array Slot), zIn D ad cy (WM ad cy u) A s H locs → lv_has ls 8 [(0, .ref (ad 0)), (1, .int p1), (3, .int p3), (5, .int b.1), (6, .int b.2)] → W p l e ({ frames := 3, cells := 0, slots := 0, locals := 66 } : Room) s m args below meth c H locs 0 0 Q (F0 m 186 ls []))))) ?_ _ a b hit hx9
  intro a x hf hL hX H locs ls hI hl
  unfold bX10_read_48 at hf
  refine lv_iload (pc := 48) hx hb dX10_read_48 (lv_at hl 7 rfl) ?_
  refine lv_iconst (pc := 50) (v := 4) hx hb dX10_read_50 (by decide) ?_
  refine lv_iload (pc := 51) hx hb dX10_read_51 (lv_at hl 4 rfl) ?_
  refine lv_imul (pc := 53) hx hb dX10_read_53 ?_
  refine z_icmp_ge (pc := 54) (tgt := 186) hx hb dX10_read_54 (by decide) hf (fun hf => ?_) (fun hf => ?_)
  · have h9 := hX _ (Option.some.inj hf).symm
    have h9 := z_elP2 h9
    have h9 := z_elP2 h9
    exact h9 _ _ _ hI (lv_sub hl [0, 1, 3, 5, 6] rfl)
  refine lv_iload (pc := 57) hx hb dX10_read_57 (lv_at hl 5 rfl) ?_
  refine z_if_ne (pc := 59) (tgt := 186) hx hb dX10_read_59 (by decide) hf (fun hf => ?_) (fun hf => ?_)
  · have h9 := hX _ (Option.some.inj hf).symm
    have h9 := z_elP2 h9
    have h9 := z_elP2 h9
    exact h9 _ _ _ hI (lv_sub hl [0, 1, 3, 5, 6] rfl)
  refine lv_aload_n (pc := 62) hx hb dX10_read_62 rfl (lv_at hl 0 rfl) ?_
  refine z_get (pc := 63) (index := 54) hx hb hts iwX10_read_10 hown hI (ml_0 ad cy u) rfl 28 (by decide) (by decide +kernel) rfl rfl dX10_read_63 ?_
  refine lv_iload_n (pc := 66) hx hb dX10_read_66 rfl (lv_at hl 1 rfl) ?_
  refine z_iald (pc := 67) hx hb hI (ml_14 ad cy u) 0 rfl dX10_read_67 hf (fun v7 hf => ?_)
  refine lv_bipush (pc := 68) (v := -4) hx hb dX10_read_68 (by decide) ?_
  refine z_icmp_ne (pc := 70) (tgt := 77) hx hb dX10_read_70 (by decide) hf (fun hf => ?_) (fun hf => ?_)
  · refine lv_aload_n (pc := 77) hx hb dX10_read_77 rfl (lv_at hl 0 rfl) ?_
    refine z_get (pc := 78) (index := 54) hx hb hts iwX10_read_10 hown hI (ml_0 ad cy u) rfl 28 (by decide) (by decide +kernel) rfl rfl dX10_read_78 ?_
    refine lv_iload_n (pc := 81) hx hb dX10_read_81 rfl (lv_at hl 1 rfl) ?_
    refine z_iald (pc := 82) hx hb hI (ml_14 ad cy u) 0 rfl dX10_read_82 hf (fun v8 hf => ?_)
    refine lv_iload_n (pc := 83) hx hb dX10_read_83 rfl (lv_at hl 2 rfl) ?_
    refine z_icmp_eq (pc := 84) (tgt := 91) hx hb dX10_read_84 (by decide) hf (fun hf => ?_) (fun hf => ?_)
    · refine lv_iload_n (pc := 91) hx hb dX10_read_91 rfl (lv_at hl 3 rfl) ?_
      refine lv_i2l (pc := 92) hx hb dX10_read_92 rfl ?_
      refine lv_iload (pc := 93) hx hb dX10_read_93 (lv_at hl 7 rfl) ?_
      refine lv_i2l (pc := 95) hx hb dX10_read_95 rfl ?_
      refine lv_ladd (pc := 96) hx hb dX10_read_96 ?_
      refine lv_lconst (pc := 97) (v := 0) hx hb dX10_read_97 (by decide) ?_
      refine lv_aload_n (pc := 98) hx hb dX10_read_98 rfl (lv_at hl 0 rfl) ?_
      refine z_get (pc := 99) (index := 57) hx hb hts iwX10_read_10 hown hI (ml_0 ad cy u) rfl 29 (by decide) (by decide +kernel) rfl rfl dX10_read_99 ?_
      refine lv_iload_n (pc := 102) hx hb dX10_read_102 rfl (lv_at hl 1 rfl) ?_
      refine z_iald (pc := 103) hx hb hI (ml_15 ad cy u) 0 rfl dX10_read_103 hf (fun v9 hf => ?_)
      refine lv_iconst (pc := 104) (v := 1) hx hb dX10_read_104 (by decide) ?_
      refine lv_isub (pc := 105) hx hb dX10_read_105 ?_
      refine lv_i2l (pc := 106) hx hb dX10_read_106 rfl ?_
      obtain ⟨q11, hc10, hf⟩ := zbind hf
      refine zcallSi (pc := 107) (As := [.long ((p3.toInt64) + (a.2.2.toInt64)), .long (0 : Int64), .long ((v9 - (1 : Int32)).toInt64)]) (rest := []) ⟨hx, hb, hml, hown, hts⟩ (kX10_in l ((p3.toInt64) + (a.2.2.toInt64)) (0 : Int64) ((v9 - (1 : Int32)).toInt64) q11 hc10) (va_cwS 3 hts gX10_read_X10_in rfl rfl rfl (by decide +kernel) ⟨Nat.le_of_ble_eq_true rfl, Nat.le_of_ble_eq_true rfl⟩) rfl hl.1 rfl (Nat.le_of_ble_eq_true rfl) dX10_read_107 (Nat.zero_le _) (Nat.zero_le _) ?_
      refine z_if_ne (pc := 110) (tgt := 117) hx hb dX10_read_110 (by decide) hf (fun hf => ?_) (fun hf => ?_)
      · refine lv_iconst (pc := 117) (v := 0) hx hb dX10_read_117 (by decide) ?_
        exact qX10_read_j118_48 C0 hf hL hX hI (lv_sub hl [0, 1, 2, 3, 4, 6, 7] rfl)
      refine lv_iconst (pc := 113) (v := 2) hx hb dX10_read_113 (by decide) ?_
      refine lv_goto (pc := 114) (tgt := 118) hx hb dX10_read_114 (by decide) ?_
      exact qX10_read_j118_48 C0 hf hL hX hI (lv_sub hl [0, 1, 2, 3, 4, 6, 7] rfl)
    refine lv_iconst (pc := 87) (v := 3) hx hb dX10_read_87 (by decide) ?_
    refine lv_goto (pc := 88) (tgt := 118) hx hb dX10_read_88 (by decide) ?_
    exact qX10_read_j118_48 C0 hf hL hX hI (lv_sub hl [0, 1, 2, 3, 4, 6, 7] rfl)
  refine lv_iconst (pc := 73) (v := 1) hx hb dX10_read_73 (by decide) ?_
  refine lv_goto (pc := 74) (tgt := 118) hx hb dX10_read_74 (by decide) ?_
  exact qX10_read_j118_48 C0 hf hL hX hI (lv_sub hl [0, 1, 2, 3, 4, 6, 7] rfl)
set_option maxHeartbeats 4000000 in
set_option maxRecDepth 100000 in
theorem lX10_read_193 (C0 : zFix p m c cX10_read 8 s args wsX10_read RX10 meth (some .int)) {k : Nat} {p1 : Int32} {p3 : Int32} {p5 : Int32} {p6 : Int32} {a : Int32 × MX} {b : MX} (hit : ziter (bX10_read_193 k p1 p3 p5 p6) k a = some b) (hx9 : (fun (b : MX) => ∀ (H : Heap) (locs : List Loc) (ls : Array Slot), zIn D ad cy (WM ad cy b) A s H locs → lv_has ls 8 [(0, .ref (ad 0)), (5, .int p5), (6, .int p6)] → W p l e ({ frames := 3, cells := 0, slots := 0, locals := 66 } : Room) s m args below meth c H locs 0 0 Q (F0 m 236 ls [])) b) : (fun (a : Int32 × MX) => ∀ (H : Heap) (locs : List Loc) (ls : Array Slot), zIn D ad cy (WM ad cy a.2) A s H locs → lv_has ls 8 [(0, .ref (ad 0)), (1, .int p1), (3, .int p3), (5, .int p5), (6, .int p6), (7, .int a.1)] → W p l e ({ frames := 3, cells := 0, slots := 0, locals := 66 } : Room) s m args below meth c H locs 0 0 Q (F0 m 193 ls [])) a := by
  obtain ⟨hx, hb, hml, hown, hts, hr, hlk⟩ := id C0
  refine zloop (Wh := (fun (a : Int32 × MX) => ∀ (H : Heap) (locs : List Loc) (ls : Array Slot), zIn D ad cy (WM ad cy a.2) A s H locs → lv_has ls 8 [(0, .ref (ad 0)), (1, .int p1), (3, .int p3), (5, .int p5), (6, .int p6), (7, .int a.1)] → W p l e ({ frames := 3, cells := 0, slots := 0, locals := 66 } : Room) s m args below meth c H locs 0 0 Q (F0 m 193 ls []))) (Wx := (fun (b : MX) => ∀ (H : Heap) (locs : List Loc) (ls : Array Slot), zIn D ad cy (WM ad cy b) A s H locs → lv_has ls 8 [(0, .ref (ad 0)), (5, .int p5), (6, .int p6)] → W p l e ({ frames := 3, cells := 0, slots := 0, locals := 66 } : Room) s m args below meth c H locs 0 0 Q (F0 m 236 ls []))) ?_ _ a b hit hx9
  intro a x hf hL hX H locs ls hI hl
  unfold bX10_read_193 at hf
  refine lv_iload (pc := 193) hx hb dX10_read_193 (lv_at hl 5 rfl) ?_
  refine lv_iload (pc := 195) hx hb dX10_read_195 (lv_at hl 4 rfl) ?_
  refine z_icmp_ge (pc := 197) (tgt := 236) hx hb dX10_read_197 (by decide) hf (fun hf => ?_) (fun hf => ?_)
  · exact (hX _ (Option.some.inj hf).symm) _ _ _ hI (lv_sub hl [0, 3, 4] rfl)
  refine lv_aload_n (pc := 200) hx hb dX10_read_200 rfl (lv_at hl 0 rfl) ?_
  refine z_get (pc := 201) (index := 28) hx hb hts iwX10_read_10 hown hI (ml_0 ad cy a.2) rfl 15 (by decide) (by decide +kernel) rfl rfl dX10_read_201 ?_
  refine lv_iconst (pc := 204) (v := 0) hx hb dX10_read_204 (by decide) ?_
  refine lv_dup2_11 (pc := 205) hx hb dX10_read_205 rfl rfl ?_
  refine z_iald (pc := 206) hx hb hI (ml_7 ad cy a.2) 0 rfl dX10_read_206 hf (fun v19 hf => ?_)
  refine lv_iconst (pc := 207) (v := 1) hx hb dX10_read_207 (by decide) ?_
  refine lv_iadd (pc := 208) hx hb dX10_read_208 ?_
  refine z_iast (wf := WM ad cy) (pc := 209) hx hb hI (ml_7 ad cy a.2) 0 rfl dX10_read_209 (fun j => mw_known ad cy a.2 (upd (mg_known a.2) j (v19 + (1 : Int32)))) hf (fun j20 u21 H locs hj20 hI hf => ?_)
  refine lv_aload_n (pc := 210) hx hb dX10_read_210 rfl (lv_at hl 0 rfl) ?_
  refine lv_iconst (pc := 211) (v := 1) hx hb dX10_read_211 (by decide) ?_
  refine lv_aload_n (pc := 212) hx hb dX10_read_212 rfl (lv_at hl 0 rfl) ?_
  refine lv_bipush (pc := 213) (v := 48) hx hb dX10_read_213 (by decide) ?_
  refine lv_iload_n (pc := 215) hx hb dX10_read_215 rfl (lv_at hl 1 rfl) ?_
  refine lv_imul (pc := 216) hx hb dX10_read_216 ?_
  refine lv_iload_n (pc := 217) hx hb dX10_read_217 rfl (lv_at hl 2 rfl) ?_
  refine lv_iadd (pc := 218) hx hb dX10_read_218 ?_
  refine lv_iconst (pc := 219) (v := 4) hx hb dX10_read_219 (by decide) ?_
  refine lv_iload (pc := 220) hx hb dX10_read_220 (lv_at hl 5 rfl) ?_
  refine lv_imul (pc := 222) hx hb dX10_read_222 ?_
  refine lv_iadd (pc := 223) hx hb dX10_read_223 ?_
  obtain ⟨q23, hc22, hf⟩ := zbind hf
  refine zcallVi (pc := 224) (As := [.int ((((48 : Int32) * p1) + p3) + ((4 : Int32) * a.1))]) (rest := [.int (1 : Int32), .ref (ad 0)]) ⟨hx, hb, hml, hown, hts⟩ (kX10_homeAt l D ad cy k ((((48 : Int32) * p1) + p3) + ((4 : Int32) * a.1)) u21 q23 hc22) (cwV 1 hts gX10_read_X10_homeAt rfl rfl rfl (by decide +kernel) ⟨Nat.le_of_ble_eq_true rfl, Nat.le_of_ble_eq_true rfl⟩) hI rfl (ml_0 ad cy u21) rfl hl.1 rfl (Nat.le_of_ble_eq_true rfl) dX10_read_224 (Nat.zero_le _) (Nat.zero_le _) (fun H locs hI => ?_)
  obtain ⟨q25, hc24, hf⟩ := zbind hf
  refine zcallVv (pc := 227) (As := [.int (1 : Int32), .int q23]) (rest := []) ⟨hx, hb, hml, hown, hts⟩ (kX10_home l D ad cy k (1 : Int32) q23 u21 q25 hc24) (cwV 2 hts gX10_read_X10_home rfl rfl rfl (by decide +kernel) ⟨Nat.le_of_ble_eq_true rfl, Nat.le_of_ble_eq_true rfl⟩) hI rfl (ml_0 ad cy u21) rfl hl.1 rfl (Nat.le_of_ble_eq_true rfl) dX10_read_227 (Nat.zero_le _) (Nat.zero_le _) (fun H locs hI => ?_)
  refine lv_iinc (pc := 230) (v := (a.1 + 1)) (lv' := [(7, .int (a.1 + 1)), (0, .ref (ad 0)), (1, .int p1), (3, .int p3), (5, .int p5), (6, .int p6)]) hx hb dX10_read_230 hl (k := 5) rfl rfl (by decide) rfl (fun ls hl => ?_)
  refine lv_goto (pc := 233) (tgt := 193) hx hb dX10_read_233 (by decide) ?_
  exact hL _ (Option.some.inj hf).symm _ _ _ hI (lv_sub hl [1, 2, 3, 4, 5, 0] rfl)
set_option maxHeartbeats 4000000 in
set_option maxRecDepth 100000 in
theorem kX10_read (l : Launch) (D : va_G) (ad : Nat → Nat) (cy : Nat → ClassId) (k : Nat) (a1 : Int32) (a2 : Int32) (a3 : Int32) (a4 : Int32) (u : MX) (r : Int32) (u' : MX) (hf : fX10_read k a1 a2 a3 a4 u = some (r, u')) : zCt l yX10_read wsX10_read ({ frames := 3, cells := 0, slots := 0, locals := 66 } : Room) D ad cy [.ref (ad 0), .int a1, .int a2, .int a3, .int a4] (WM ad cy u) (some (.int r)) (WM ad cy u') := by
  refine zCt.of (cc := cX10_read) (maxL := 8) (ret := (some .int)) (own := RX10) (by decide) rfl rfl ?_
  intro p e s m below meth c A C0 hI
  obtain ⟨hx, hb, hml, hown, hts, hr, hlk⟩ := id C0
  refine z_entry (Nat.le_of_ble_eq_true rfl) (fun ls hl => ?_)
  have hl : lv_has ls 8 [(0, .ref (ad 0)), (1, .int a1), (2, .int a2), (3, .int a3), (4, .int a4)] := hl
  unfold fX10_read at hf
  refine lv_iload_n (pc := 0) hx hb dX10_read_0 rfl (lv_at hl 1 rfl) ?_
  refine lv_i2l (pc := 1) hx hb dX10_read_1 rfl ?_
  refine lv_lconst (pc := 2) (v := 0) hx hb dX10_read_2 (by decide) ?_
  refine lv_ldc2 (pc := 3) (v := 3) hx hb hown (hts (.constantLong RX10 130 (3)) (by decide +kernel)) dX10_read_3 ?_
  obtain ⟨q2, hc1, hf⟩ := zbind hf
  refine zcallSi (pc := 6) (As := [.long (a1.toInt64), .long (0 : Int64), .long (3 : Int64)]) (rest := []) ⟨hx, hb, hml, hown, hts⟩ (kX10_in l (a1.toInt64) (0 : Int64) (3 : Int64) q2 hc1) (va_cwS 3 hts gX10_read_X10_in rfl rfl rfl (by decide +kernel) ⟨Nat.le_of_ble_eq_true rfl, Nat.le_of_ble_eq_true rfl⟩) rfl hl.1 rfl (Nat.le_of_ble_eq_true rfl) dX10_read_6 (Nat.zero_le _) (Nat.zero_le _) ?_
  refine z_if_eq (pc := 9) (tgt := 37) hx hb dX10_read_9 (by decide) hf (fun hf => ?_) (fun hf => ?_)
  · refine lv_iconst (pc := 37) (v := -1) hx hb dX10_read_37 (by decide) ?_
    obtain ⟨rfl, rfl⟩ := zpair hf
    exact z_iret (pc := 38) C0 hI dX10_read_38
  refine lv_iload_n (pc := 12) hx hb dX10_read_12 rfl (lv_at hl 2 rfl) ?_
  refine lv_i2l (pc := 13) hx hb dX10_read_13 rfl ?_
  refine lv_lconst (pc := 14) (v := 0) hx hb dX10_read_14 (by decide) ?_
  refine lv_ldc2 (pc := 15) (v := 2) hx hb hown (hts (.constantLong RX10 136 (2)) (by decide +kernel)) dX10_read_15 ?_
  obtain ⟨q4, hc3, hf⟩ := zbind hf
  refine zcallSi (pc := 18) (As := [.long (a2.toInt64), .long (0 : Int64), .long (2 : Int64)]) (rest := []) ⟨hx, hb, hml, hown, hts⟩ (kX10_in l (a2.toInt64) (0 : Int64) (2 : Int64) q4 hc3) (va_cwS 3 hts gX10_read_X10_in rfl rfl rfl (by decide +kernel) ⟨Nat.le_of_ble_eq_true rfl, Nat.le_of_ble_eq_true rfl⟩) rfl hl.1 rfl (Nat.le_of_ble_eq_true rfl) dX10_read_18 (Nat.zero_le _) (Nat.zero_le _) ?_
  refine z_if_eq (pc := 21) (tgt := 37) hx hb dX10_read_21 (by decide) hf (fun hf => ?_) (fun hf => ?_)
  · refine lv_iconst (pc := 37) (v := -1) hx hb dX10_read_37 (by decide) ?_
    obtain ⟨rfl, rfl⟩ := zpair hf
    exact z_iret (pc := 38) C0 hI dX10_read_38
  refine lv_iload (pc := 24) hx hb dX10_read_24 (lv_at hl 4 rfl) ?_
  refine lv_i2l (pc := 26) hx hb dX10_read_26 rfl ?_
  refine lv_lconst (pc := 27) (v := 0) hx hb dX10_read_27 (by decide) ?_
  refine lv_ldc2 (pc := 28) (v := 12) hx hb hown (hts (.constantLong RX10 270 (12)) (by decide +kernel)) dX10_read_28 ?_
  obtain ⟨q6, hc5, hf⟩ := zbind hf
  refine zcallSi (pc := 31) (As := [.long (a4.toInt64), .long (0 : Int64), .long (12 : Int64)]) (rest := []) ⟨hx, hb, hml, hown, hts⟩ (kX10_in l (a4.toInt64) (0 : Int64) (12 : Int64) q6 hc5) (va_cwS 3 hts gX10_read_X10_in rfl rfl rfl (by decide +kernel) ⟨Nat.le_of_ble_eq_true rfl, Nat.le_of_ble_eq_true rfl⟩) rfl hl.1 rfl (Nat.le_of_ble_eq_true rfl) dX10_read_31 (Nat.zero_le _) (Nat.zero_le _) ?_
  refine z_if_ne (pc := 34) (tgt := 39) hx hb dX10_read_34 (by decide) hf (fun hf => ?_) (fun hf => ?_)
  · refine lv_iconst (pc := 39) (v := 0) hx hb dX10_read_39 (by decide) ?_
    refine lv_istore (pc := 40) (lv' := [(5, .int (0 : Int32)), (0, .ref (ad 0)), (1, .int a1), (2, .int a2), (3, .int a3), (4, .int a4)]) hx hb dX10_read_40 hl (by decide) rfl (fun ls hl => ?_)
    refine lv_iconst (pc := 42) (v := 0) hx hb dX10_read_42 (by decide) ?_
    refine lv_istore (pc := 43) (lv' := [(6, .int (0 : Int32)), (5, .int (0 : Int32)), (0, .ref (ad 0)), (1, .int a1), (2, .int a2), (3, .int a3), (4, .int a4)]) hx hb dX10_read_43 hl (by decide) rfl (fun ls hl => ?_)
    refine lv_iconst (pc := 45) (v := 0) hx hb dX10_read_45 (by decide) ?_
    refine lv_istore (pc := 46) (lv' := [(7, .int (0 : Int32)), (6, .int (0 : Int32)), (5, .int (0 : Int32)), (0, .ref (ad 0)), (1, .int a1), (2, .int a2), (3, .int a3), (4, .int a4)]) hx hb dX10_read_46 hl (by decide) rfl (fun ls hl => ?_)
    obtain ⟨b15, hb16, hf⟩ := zbind hf
    rcases b15 with b15 | b15
    · have hf := z_el1 hf
      refine lX10_read_48 C0 hb16 ?_ _ _ _ hI (lv_sub hl [3, 4, 5, 6, 7, 2, 1, 0] rfl)
      intro H locs ls hI hl
      refine lv_bipush (pc := 153) (v := -20) hx hb dX10_read_153 (by decide) ?_
      refine lv_iload (pc := 155) hx hb dX10_read_155 (lv_at hl 0 rfl) ?_
      refine lv_isub (pc := 157) hx hb dX10_read_157 ?_
      obtain ⟨rfl, rfl⟩ := zpair hf
      exact z_iret (pc := 158) C0 hI dX10_read_158
    have hf := z_el2 hf
    rcases b15 with b15 | b15
    · have hf := z_el1 hf
      refine lX10_read_48 C0 hb16 ?_ _ _ _ hI (lv_sub hl [3, 4, 5, 6, 7, 2, 1, 0] rfl)
      intro H locs ls hI hl
      refine lv_bipush (pc := 177) (v := -3) hx hb dX10_read_177 (by decide) ?_
      obtain ⟨rfl, rfl⟩ := zpair hf
      exact z_iret (pc := 179) C0 hI dX10_read_179
    have hf := z_el2 hf
    refine lX10_read_48 C0 hb16 ?_ _ _ _ hI (lv_sub hl [3, 4, 5, 6, 7, 2, 1, 0] rfl)
    intro H locs ls hI hl
    refine lv_aload_n (pc := 186) hx hb dX10_read_186 rfl (lv_at hl 0 rfl) ?_
    obtain ⟨q18, hc17, hf⟩ := zbind hf
    refine zcallVv (pc := 187) (As := []) (rest := []) ⟨hx, hb, hml, hown, hts⟩ (kX10_acts l D ad cy k u q18 hc17) (cwV 0 hts gX10_read_X10_acts rfl rfl rfl (by decide +kernel) ⟨Nat.le_of_ble_eq_true rfl, Nat.le_of_ble_eq_true rfl⟩) hI rfl (ml_0 ad cy u) rfl hl.1 rfl (Nat.le_of_ble_eq_true rfl) dX10_read_187 (Nat.zero_le _) (Nat.zero_le _) (fun H locs hI => ?_)
    refine lv_iconst (pc := 190) (v := 0) hx hb dX10_read_190 (by decide) ?_
    refine lv_istore (pc := 191) (lv' := [(7, .int (0 : Int32)), (0, .ref (ad 0)), (1, .int a1), (3, .int a3), (5, .int b15.1), (6, .int b15.2)]) hx hb dX10_read_191 hl (by decide) rfl (fun ls hl => ?_)
    obtain ⟨b26, hb27, hf⟩ := zbind hf
    refine lX10_read_193 C0 hb27 ?_ _ _ _ hI (lv_sub hl [1, 2, 3, 4, 5, 0] rfl)
    intro H locs ls hI hl
    refine lv_aload_n (pc := 236) hx hb dX10_read_236 rfl (lv_at hl 0 rfl) ?_
    refine lv_iload (pc := 237) hx hb dX10_read_237 (lv_at hl 1 rfl) ?_
    refine z_put (wf := WM ad cy) (pc := 239) (index := 275) hx hb hts iwX10_read_10 tyX10 tyX10_ok nmX10 hown hI (ml_0 ad cy b26) rfl 31 (by decide) (by decide +kernel) rfl rfl rfl rfl (Nat.le_of_ble_eq_true rfl) dX10_read_239 (mw_torn ad cy b26 b15.1) hf (fun u28 H locs hI hf => ?_)
    refine lv_iload (pc := 242) hx hb dX10_read_242 (lv_at hl 2 rfl) ?_
    obtain ⟨rfl, rfl⟩ := zpair hf
    exact z_iret (pc := 244) C0 hI dX10_read_244
  refine lv_iconst (pc := 37) (v := -1) hx hb dX10_read_37 (by decide) ?_
  obtain ⟨rfl, rfl⟩ := zpair hf
  exact z_iret (pc := 38) C0 hI dX10_read_38
set_option maxHeartbeats 4000000 in
set_option maxRecDepth 100000 in
theorem kX10_torn (l : Launch) (D : va_G) (ad : Nat → Nat) (cy : Nat → ClassId) (u : MX) (r : Int32) (hf : fX10_torn u = some r) : zCt l yX10_torn wsX10_torn ({ frames := 0, cells := 0, slots := 0, locals := 0 } : Room) D ad cy [.ref (ad 0)] (WM ad cy u) (some (.int r)) (WM ad cy u) := by
  refine zCt.of (cc := cX10_torn) (maxL := 1) (ret := (some .int)) (own := RX10) (by decide) rfl rfl ?_
  intro p e s m below meth c A C0 hI
  obtain ⟨hx, hb, hml, hown, hts, hr, hlk⟩ := id C0
  refine z_entry (Nat.le_of_ble_eq_true rfl) (fun ls hl => ?_)
  have hl : lv_has ls 1 [(0, .ref (ad 0))] := hl
  unfold fX10_torn at hf
  refine lv_aload_n (pc := 0) hx hb dX10_torn_0 rfl (lv_at hl 0 rfl) ?_
  refine z_get (pc := 1) (index := 275) hx hb hts iwX10_torn_10 hown hI (ml_0 ad cy u) rfl 31 (by decide) (by decide +kernel) rfl rfl dX10_torn_1 ?_
  obtain rfl := zone hf
  exact z_iret (pc := 4) C0 hI dX10_torn_4
set_option maxHeartbeats 4000000 in
set_option maxRecDepth 100000 in
theorem lX10_count_7 (C0 : zFix p m c cX10_count 5 s args wsX10_count RX10 meth (some .int)) {k : Nat} {p1 : Int32} {u : MX} {a : Int32 × Int32 × Int32} {b : Int32 × Int32} (hit : ziter (bX10_count_7 k p1 u) k a = some b) (hx9 : (fun (b : Int32 × Int32) => ∀ (H : Heap) (locs : List Loc) (ls : Array Slot), zIn D ad cy (WM ad cy u) A s H locs → lv_has ls 5 [(0, .ref (ad 0)), (1, .int p1), (2, .int b.1), (3, .int b.2)] → W p l e ({ frames := 1, cells := 0, slots := 0, locals := 20 } : Room) s m args below meth c H locs 0 0 Q (F0 m 55 ls [])) b) : (fun (a : Int32 × Int32 × Int32) => ∀ (H : Heap) (locs : List Loc) (ls : Array Slot), zIn D ad cy (WM ad cy u) A s H locs → lv_has ls 5 [(0, .ref (ad 0)), (1, .int p1), (2, .int a.1), (3, .int a.2.1), (4, .int a.2.2)] → W p l e ({ frames := 1, cells := 0, slots := 0, locals := 20 } : Room) s m args below meth c H locs 0 0 Q (F0 m 7 ls [])) a := by
  obtain ⟨hx, hb, hml, hown, hts, hr, hlk⟩ := id C0
  refine zloop (Wh := (fun (a : Int32 × Int32 × Int32) => ∀ (H : Heap) (locs : List Loc) (ls : Array Slot), zIn D ad cy (WM ad cy u) A s H locs → lv_has ls 5 [(0, .ref (ad 0)), (1, .int p1), (2, .int a.1), (3, .int a.2.1), (4, .int a.2.2)] → W p l e ({ frames := 1, cells := 0, slots := 0, locals := 20 } : Room) s m args below meth c H locs 0 0 Q (F0 m 7 ls []))) (Wx := (fun (b : Int32 × Int32) => ∀ (H : Heap) (locs : List Loc) (ls : Array Slot), zIn D ad cy (WM ad cy u) A s H locs → lv_has ls 5 [(0, .ref (ad 0)), (1, .int p1), (2, .int b.1), (3, .int b.2)] → W p l e ({ frames := 1, cells := 0, slots := 0, locals := 20 } : Room) s m args below meth c H locs 0 0 Q (F0 m 55 ls []))) ?_ _ a b hit hx9
  intro a x hf hL hX H locs ls hI hl
  unfold bX10_count_7 at hf
  refine lv_iload (pc := 7) hx hb dX10_count_7 (lv_at hl 4 rfl) ?_
  refine lv_iconst (pc := 9) (v := 4) hx hb dX10_count_9 (by decide) ?_
  refine z_icmp_ge (pc := 10) (tgt := 55) hx hb dX10_count_10 (by decide) hf (fun hf => ?_) (fun hf => ?_)
  · exact (hX _ (Option.some.inj hf).symm) _ _ _ hI (lv_sub hl [0, 1, 2, 3] rfl)
  refine lv_iload_n (pc := 13) hx hb dX10_count_13 rfl (lv_at hl 2 rfl) ?_
  refine lv_aload_n (pc := 14) hx hb dX10_count_14 rfl (lv_at hl 0 rfl) ?_
  refine z_get (pc := 15) (index := 34) hx hb hts iwX10_count_10 hown hI (ml_0 ad cy u) rfl 19 (by decide) (by decide +kernel) rfl rfl dX10_count_15 ?_
  refine lv_iload (pc := 18) hx hb dX10_count_18 (lv_at hl 4 rfl) ?_
  refine z_zald (pc := 20) hx hb hI (ml_9 ad cy u) 3 rfl dX10_count_20 hf (fun v1 hf => ?_)
  refine z_if_eq (pc := 21) (tgt := 28) hx hb dX10_count_21 (by decide) hf (fun hf => ?_) (fun hf => ?_)
  · refine lv_iconst (pc := 28) (v := 0) hx hb dX10_count_28 (by decide) ?_
    refine lv_iadd (pc := 29) hx hb dX10_count_29 ?_
    refine z_bi hf (fun v2 hf => ?_)
    refine lv_istore_n (pc := 30) (lv' := [(2, .int v2), (0, .ref (ad 0)), (1, .int p1), (3, .int a.2.1), (4, .int a.2.2)]) hx hb dX10_count_30 rfl hl (by decide) rfl (fun ls hl => ?_)
    refine lv_iload_n (pc := 31) hx hb dX10_count_31 rfl (lv_at hl 3 rfl) ?_
    refine lv_aload_n (pc := 32) hx hb dX10_count_32 rfl (lv_at hl 1 rfl) ?_
    refine z_get (pc := 33) (index := 38) hx hb hts iwX10_count_10 hown hI (ml_0 ad cy u) rfl 20 (by decide) (by decide +kernel) rfl rfl dX10_count_33 ?_
    refine lv_iload (pc := 36) hx hb dX10_count_36 (lv_at hl 4 rfl) ?_
    refine z_iald (pc := 38) hx hb hI (ml_10 ad cy u) 0 rfl dX10_count_38 hf (fun v3 hf => ?_)
    refine z_if_le (pc := 39) (tgt := 46) hx hb dX10_count_39 (by decide) hf (fun hf => ?_) (fun hf => ?_)
    · refine lv_iconst (pc := 46) (v := 0) hx hb dX10_count_46 (by decide) ?_
      refine lv_iadd (pc := 47) hx hb dX10_count_47 ?_
      refine z_bi hf (fun v4 hf => ?_)
      refine lv_istore_n (pc := 48) (lv' := [(3, .int v4), (2, .int v2), (0, .ref (ad 0)), (1, .int p1), (4, .int a.2.2)]) hx hb dX10_count_48 rfl hl (by decide) rfl (fun ls hl => ?_)
      refine lv_iinc (pc := 49) (v := (a.2.2 + 1)) (lv' := [(4, .int (a.2.2 + 1)), (3, .int v4), (2, .int v2), (0, .ref (ad 0)), (1, .int p1)]) hx hb dX10_count_49 hl (k := 4) rfl rfl (by decide) rfl (fun ls hl => ?_)
      refine lv_goto (pc := 52) (tgt := 7) hx hb dX10_count_52 (by decide) ?_
      exact hL _ (Option.some.inj hf).symm _ _ _ hI (lv_sub hl [3, 4, 2, 1, 0] rfl)
    refine lv_iconst (pc := 42) (v := 1) hx hb dX10_count_42 (by decide) ?_
    refine lv_goto (pc := 43) (tgt := 47) hx hb dX10_count_43 (by decide) ?_
    refine lv_iadd (pc := 47) hx hb dX10_count_47 ?_
    refine z_bi hf (fun v5 hf => ?_)
    refine lv_istore_n (pc := 48) (lv' := [(3, .int v5), (2, .int v2), (0, .ref (ad 0)), (1, .int p1), (4, .int a.2.2)]) hx hb dX10_count_48 rfl hl (by decide) rfl (fun ls hl => ?_)
    refine lv_iinc (pc := 49) (v := (a.2.2 + 1)) (lv' := [(4, .int (a.2.2 + 1)), (3, .int v5), (2, .int v2), (0, .ref (ad 0)), (1, .int p1)]) hx hb dX10_count_49 hl (k := 4) rfl rfl (by decide) rfl (fun ls hl => ?_)
    refine lv_goto (pc := 52) (tgt := 7) hx hb dX10_count_52 (by decide) ?_
    exact hL _ (Option.some.inj hf).symm _ _ _ hI (lv_sub hl [3, 4, 2, 1, 0] rfl)
  refine lv_iconst (pc := 24) (v := 1) hx hb dX10_count_24 (by decide) ?_
  refine lv_goto (pc := 25) (tgt := 29) hx hb dX10_count_25 (by decide) ?_
  refine lv_iadd (pc := 29) hx hb dX10_count_29 ?_
  refine z_bi hf (fun v6 hf => ?_)
  refine lv_istore_n (pc := 30) (lv' := [(2, .int v6), (0, .ref (ad 0)), (1, .int p1), (3, .int a.2.1), (4, .int a.2.2)]) hx hb dX10_count_30 rfl hl (by decide) rfl (fun ls hl => ?_)
  refine lv_iload_n (pc := 31) hx hb dX10_count_31 rfl (lv_at hl 3 rfl) ?_
  refine lv_aload_n (pc := 32) hx hb dX10_count_32 rfl (lv_at hl 1 rfl) ?_
  refine z_get (pc := 33) (index := 38) hx hb hts iwX10_count_10 hown hI (ml_0 ad cy u) rfl 20 (by decide) (by decide +kernel) rfl rfl dX10_count_33 ?_
  refine lv_iload (pc := 36) hx hb dX10_count_36 (lv_at hl 4 rfl) ?_
  refine z_iald (pc := 38) hx hb hI (ml_10 ad cy u) 0 rfl dX10_count_38 hf (fun v7 hf => ?_)
  refine z_if_le (pc := 39) (tgt := 46) hx hb dX10_count_39 (by decide) hf (fun hf => ?_) (fun hf => ?_)
  · refine lv_iconst (pc := 46) (v := 0) hx hb dX10_count_46 (by decide) ?_
    refine lv_iadd (pc := 47) hx hb dX10_count_47 ?_
    refine z_bi hf (fun v8 hf => ?_)
    refine lv_istore_n (pc := 48) (lv' := [(3, .int v8), (2, .int v6), (0, .ref (ad 0)), (1, .int p1), (4, .int a.2.2)]) hx hb dX10_count_48 rfl hl (by decide) rfl (fun ls hl => ?_)
    refine lv_iinc (pc := 49) (v := (a.2.2 + 1)) (lv' := [(4, .int (a.2.2 + 1)), (3, .int v8), (2, .int v6), (0, .ref (ad 0)), (1, .int p1)]) hx hb dX10_count_49 hl (k := 4) rfl rfl (by decide) rfl (fun ls hl => ?_)
    refine lv_goto (pc := 52) (tgt := 7) hx hb dX10_count_52 (by decide) ?_
    exact hL _ (Option.some.inj hf).symm _ _ _ hI (lv_sub hl [3, 4, 2, 1, 0] rfl)
  refine lv_iconst (pc := 42) (v := 1) hx hb dX10_count_42 (by decide) ?_
  refine lv_goto (pc := 43) (tgt := 47) hx hb dX10_count_43 (by decide) ?_
  refine lv_iadd (pc := 47) hx hb dX10_count_47 ?_
  refine z_bi hf (fun v9 hf => ?_)
  refine lv_istore_n (pc := 48) (lv' := [(3, .int v9), (2, .int v6), (0, .ref (ad 0)), (1, .int p1), (4, .int a.2.2)]) hx hb dX10_count_48 rfl hl (by decide) rfl (fun ls hl => ?_)
  refine lv_iinc (pc := 49) (v := (a.2.2 + 1)) (lv' := [(4, .int (a.2.2 + 1)), (3, .int v9), (2, .int v6), (0, .ref (ad 0)), (1, .int p1)]) hx hb dX10_count_49 hl (k := 4) rfl rfl (by decide) rfl (fun ls hl => ?_)
  refine lv_goto (pc := 52) (tgt := 7) hx hb dX10_count_52 (by decide) ?_
  exact hL _ (Option.some.inj hf).symm _ _ _ hI (lv_sub hl [3, 4, 2, 1, 0] rfl)
set_option maxHeartbeats 4000000 in
set_option maxRecDepth 100000 in
theorem kX10_count (l : Launch) (D : va_G) (ad : Nat → Nat) (cy : Nat → ClassId) (k : Nat) (a1 : Int32) (u : MX) (r : Int32) (hf : fX10_count k a1 u = some r) : zCt l yX10_count wsX10_count ({ frames := 1, cells := 0, slots := 0, locals := 20 } : Room) D ad cy [.ref (ad 0), .int a1] (WM ad cy u) (some (.int r)) (WM ad cy u) := by
  refine zCt.of (cc := cX10_count) (maxL := 5) (ret := (some .int)) (own := RX10) (by decide) rfl rfl ?_
  intro p e s m below meth c A C0 hI
  obtain ⟨hx, hb, hml, hown, hts, hr, hlk⟩ := id C0
  refine z_entry (Nat.le_of_ble_eq_true rfl) (fun ls hl => ?_)
  have hl : lv_has ls 5 [(0, .ref (ad 0)), (1, .int a1)] := hl
  unfold fX10_count at hf
  refine lv_iconst (pc := 0) (v := 0) hx hb dX10_count_0 (by decide) ?_
  refine lv_istore_n (pc := 1) (lv' := [(2, .int (0 : Int32)), (0, .ref (ad 0)), (1, .int a1)]) hx hb dX10_count_1 rfl hl (by decide) rfl (fun ls hl => ?_)
  refine lv_iconst (pc := 2) (v := 0) hx hb dX10_count_2 (by decide) ?_
  refine lv_istore_n (pc := 3) (lv' := [(3, .int (0 : Int32)), (2, .int (0 : Int32)), (0, .ref (ad 0)), (1, .int a1)]) hx hb dX10_count_3 rfl hl (by decide) rfl (fun ls hl => ?_)
  refine lv_iconst (pc := 4) (v := 0) hx hb dX10_count_4 (by decide) ?_
  refine lv_istore (pc := 5) (lv' := [(4, .int (0 : Int32)), (3, .int (0 : Int32)), (2, .int (0 : Int32)), (0, .ref (ad 0)), (1, .int a1)]) hx hb dX10_count_5 hl (by decide) rfl (fun ls hl => ?_)
  obtain ⟨b10, hb11, hf⟩ := zbind hf
  refine lX10_count_7 C0 hb11 ?_ _ _ _ hI (lv_sub hl [3, 4, 2, 1, 0] rfl)
  intro H locs ls hI hl
  refine lv_iload_n (pc := 55) hx hb dX10_count_55 rfl (lv_at hl 1 rfl) ?_
  refine z_swk (pc := 56) (kc := 0) (tgt := 108) hx hb dX10_count_56 rfl (by decide) (by decide) (by decide) hf (fun hf => ?_) (fun n0 hf => ?_)
  · refine lv_aload_n (pc := 108) hx hb dX10_count_108 rfl (lv_at hl 0 rfl) ?_
    refine z_get (pc := 109) (index := 28) hx hb hts iwX10_count_10 hown hI (ml_0 ad cy u) rfl 15 (by decide) (by decide +kernel) rfl rfl dX10_count_109 ?_
    refine lv_iconst (pc := 112) (v := 0) hx hb dX10_count_112 (by decide) ?_
    refine z_iald (pc := 113) hx hb hI (ml_7 ad cy u) 0 rfl dX10_count_113 hf (fun v17 hf => ?_)
    obtain rfl := zone hf
    exact z_iret (pc := 114) C0 hI dX10_count_114
  refine z_swk (pc := 56) (kc := 1) (tgt := 115) hx hb dX10_count_56 rfl (by decide) (by decide) (by decide) hf (fun hf => ?_) (fun n1 hf => ?_)
  · refine lv_aload_n (pc := 115) hx hb dX10_count_115 rfl (lv_at hl 0 rfl) ?_
    obtain ⟨q16, hc15, hf⟩ := zbind hf
    refine zcallVi (pc := 116) (As := []) (rest := []) ⟨hx, hb, hml, hown, hts⟩ (kX10_homes l D ad cy u q16 hc15) (cwV 0 hts gX10_count_X10_homes rfl rfl rfl (by decide +kernel) ⟨Nat.le_of_ble_eq_true rfl, Nat.le_of_ble_eq_true rfl⟩) hI rfl (ml_0 ad cy u) rfl hl.1 rfl (Nat.le_of_ble_eq_true rfl) dX10_count_116 (Nat.zero_le _) (Nat.zero_le _) (fun H locs hI => ?_)
    obtain rfl := zone hf
    exact z_iret (pc := 119) C0 hI dX10_count_119
  refine z_swk (pc := 56) (kc := 2) (tgt := 120) hx hb dX10_count_56 rfl (by decide) (by decide) (by decide) hf (fun hf => ?_) (fun n2 hf => ?_)
  · refine lv_iload_n (pc := 120) hx hb dX10_count_120 rfl (lv_at hl 2 rfl) ?_
    obtain rfl := zone hf
    exact z_iret (pc := 121) C0 hI dX10_count_121
  refine z_swk (pc := 56) (kc := 3) (tgt := 122) hx hb dX10_count_56 rfl (by decide) (by decide) (by decide) hf (fun hf => ?_) (fun n3 hf => ?_)
  · refine lv_iload_n (pc := 122) hx hb dX10_count_122 rfl (lv_at hl 3 rfl) ?_
    obtain rfl := zone hf
    exact z_iret (pc := 123) C0 hI dX10_count_123
  refine z_swk (pc := 56) (kc := 4) (tgt := 124) hx hb dX10_count_56 rfl (by decide) (by decide) (by decide) hf (fun hf => ?_) (fun n4 hf => ?_)
  · refine lv_aload_n (pc := 124) hx hb dX10_count_124 rfl (lv_at hl 0 rfl) ?_
    refine z_get (pc := 125) (index := 140) hx hb hts iwX10_count_10 hown hI (ml_0 ad cy u) rfl 17 (by decide) (by decide +kernel) rfl rfl dX10_count_125 ?_
    obtain rfl := zone hf
    exact z_iret (pc := 128) C0 hI dX10_count_128
  refine z_swk (pc := 56) (kc := 5) (tgt := 129) hx hb dX10_count_56 rfl (by decide) (by decide) (by decide) hf (fun hf => ?_) (fun n5 hf => ?_)
  · refine lv_aload_n (pc := 129) hx hb dX10_count_129 rfl (lv_at hl 0 rfl) ?_
    refine z_get (pc := 130) (index := 161) hx hb hts iwX10_count_10 hown hI (ml_0 ad cy u) rfl 18 (by decide) (by decide +kernel) rfl rfl dX10_count_130 ?_
    obtain rfl := zone hf
    exact z_iret (pc := 133) C0 hI dX10_count_133
  refine z_swk (pc := 56) (kc := 6) (tgt := 134) hx hb dX10_count_56 rfl (by decide) (by decide) (by decide) hf (fun hf => ?_) (fun n6 hf => ?_)
  · refine lv_aload_n (pc := 134) hx hb dX10_count_134 rfl (lv_at hl 0 rfl) ?_
    refine z_get (pc := 135) (index := 63) hx hb hts iwX10_count_10 hown hI (ml_0 ad cy u) rfl 1 (by decide) (by decide +kernel) rfl rfl dX10_count_135 ?_
    obtain rfl := zone hf
    exact z_iret (pc := 138) C0 hI dX10_count_138
  refine z_swk (pc := 56) (kc := 7) (tgt := 139) hx hb dX10_count_56 rfl (by decide) (by decide) (by decide) hf (fun hf => ?_) (fun n7 hf => ?_)
  · refine lv_aload_n (pc := 139) hx hb dX10_count_139 rfl (lv_at hl 0 rfl) ?_
    refine z_get (pc := 140) (index := 54) hx hb hts iwX10_count_10 hown hI (ml_0 ad cy u) rfl 28 (by decide) (by decide +kernel) rfl rfl dX10_count_140 ?_
    refine lv_iconst (pc := 143) (v := 0) hx hb dX10_count_143 (by decide) ?_
    refine z_iald (pc := 144) hx hb hI (ml_14 ad cy u) 0 rfl dX10_count_144 hf (fun v13 hf => ?_)
    refine lv_bipush (pc := 145) (v := -4) hx hb dX10_count_145 (by decide) ?_
    refine z_icmp_ne (pc := 147) (tgt := 155) hx hb dX10_count_147 (by decide) hf (fun hf => ?_) (fun hf => ?_)
    · refine lv_aload_n (pc := 155) hx hb dX10_count_155 rfl (lv_at hl 0 rfl) ?_
      refine z_get (pc := 156) (index := 57) hx hb hts iwX10_count_10 hown hI (ml_0 ad cy u) rfl 29 (by decide) (by decide +kernel) rfl rfl dX10_count_156 ?_
      refine lv_iconst (pc := 159) (v := 0) hx hb dX10_count_159 (by decide) ?_
      refine z_iald (pc := 160) hx hb hI (ml_15 ad cy u) 0 rfl dX10_count_160 hf (fun v14 hf => ?_)
      obtain rfl := zone hf
      exact z_iret (pc := 161) C0 hI dX10_count_161
    refine lv_bipush (pc := 150) (v := -4) hx hb dX10_count_150 (by decide) ?_
    refine lv_goto (pc := 152) (tgt := 161) hx hb dX10_count_152 (by decide) ?_
    obtain rfl := zone hf
    exact z_iret (pc := 161) C0 hI dX10_count_161
  refine z_swk (pc := 56) (kc := 8) (tgt := 162) hx hb dX10_count_56 rfl (by decide) (by decide) (by decide) hf (fun hf => ?_) (fun n8 hf => ?_)
  · refine lv_aload_n (pc := 162) hx hb dX10_count_162 rfl (lv_at hl 0 rfl) ?_
    refine z_get (pc := 163) (index := 28) hx hb hts iwX10_count_10 hown hI (ml_0 ad cy u) rfl 15 (by decide) (by decide +kernel) rfl rfl dX10_count_163 ?_
    refine lv_bipush (pc := 166) (v := 9) hx hb dX10_count_166 (by decide) ?_
    refine z_iald (pc := 168) hx hb hI (ml_7 ad cy u) 0 rfl dX10_count_168 hf (fun v12 hf => ?_)
    obtain rfl := zone hf
    exact z_iret (pc := 169) C0 hI dX10_count_169
  refine lv_tableOut (pc := 56) (tgt := 170) hx hb dX10_count_56 (z_out9 n0 n1 n2 n3 n4 n5 n6 n7 n8) (by decide) ?_
  refine lv_iconst (pc := 170) (v := -1) hx hb dX10_count_170 (by decide) ?_
  obtain rfl := zone hf
  exact z_iret (pc := 171) C0 hI dX10_count_171
end
