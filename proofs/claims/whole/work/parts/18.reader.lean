theorem iwX7_isWord_7 : ∀ w ∈ wsX70, w ∈ wsX7_isWord := by decide +kernel
def bX7_isWord_45 (k : Nat) (p2 : Int32) (p3 : Int32) (u : CX) (a : Int32) : Option ((Int32) ⊕ ((Unit) ⊕ (Unit))) :=
  if p3 ≤ a then
    some (.inr (.inr ()))
  else
  (zchar (p2 + a)).bind (fun v4 =>
  zget 200 (xg_bytes u) ((xg_start u) + a) (fun v6 =>
  if v4 = v6 then
    some (.inl (a + 1))
  else
  some (.inr (.inl ()))))
def fX7_isWord (k : Nat) (a2 : Int32) (u : CX) : Option (Int32) :=
  zb ((xg_tat u) - (xg_start u)) (fun v1 =>
  if (xg_kind u) = (2 : Int32) then
    if (42 : Int32) ≤ (a2 + v1) then
      some (0 : Int32)
    else
    (zchar (a2 + v1)).bind (fun v2 =>
    if v2 = (32 : Int32) then
      (ziter (bX7_isWord_45 k a2 v1 u) k (0 : Int32)).bind
        (fun b7 => zel b7
         (fun b7 =>
            some (0 : Int32))
          (fun b7 =>
            some (1 : Int32)))
    else
    some (0 : Int32))
  else
  some (0 : Int32))
theorem iwX5_fail_5 : ∀ w ∈ wsX50, w ∈ wsX5_fail := by decide +kernel
theorem iwX5_fail_7 : ∀ w ∈ wsX70, w ∈ wsX5_fail := by decide +kernel
def fX5_fail (a1 : Int32) (u : CX) : Option (CX) :=
  if (xg_rfault u) = 0 then
    zb (xs_rfault u a1) (fun u1 =>
    zb (xs_rplace u1 (xg_start u1)) (fun u2 =>
    some u2))
  else
  some u
theorem iwX5_advance_5 : ∀ w ∈ wsX50, w ∈ wsX5_advance := by decide +kernel
theorem iwX5_advance_7 : ∀ w ∈ wsX70, w ∈ wsX5_advance := by decide +kernel
def fX5_advance (k : Nat) (u : CX) : Option (CX) :=
  if (xg_rfault u) = 0 then
    (fX7_next k u).bind (fun q2 =>
    if (xg_kind q2) = 0 then
      (fX5_fail (1 : Int32) q2).bind (fun q4 =>
      some q4)
    else
    some q2)
  else
  some u
theorem iwX5_begin_5 : ∀ w ∈ wsX50, w ∈ wsX5_begin := by decide +kernel
def bX5_begin_9 (k : Nat) (a : Int32 × CX) : Option ((Int32 × CX) ⊕ (CX)) :=
  if (12 : Int32) ≤ a.1 then
    some (.inr a.2)
  else
  zix 12 a.1 (fun j3 => zb (xs_partTold a.2 (upd (xg_partTold a.2) j3 (vp_nar .boolean (0 : Int32)))) (fun u4 =>
  some (.inl ((a.1 + 1), u4))))
def bX5_begin_33 (k : Nat) (a : Int32 × CX) : Option ((Int32 × CX) ⊕ (CX)) :=
  if (7 : Int32) ≤ a.1 then
    some (.inr a.2)
  else
  zix 7 a.1 (fun j7 => zb (xs_lineTold a.2 (upd (xg_lineTold a.2) j7 (vp_nar .boolean (0 : Int32)))) (fun u8 =>
  some (.inl ((a.1 + 1), u8))))
def fX5_begin (k : Nat) (u : CX) : Option (CX) :=
  (fX8_standAsUntold_d k u).bind (fun q2 =>
  (ziter (bX5_begin_9 k) k ((0 : Int32), q2)).bind (fun b5 =>
    (ziter (bX5_begin_33 k) k ((0 : Int32), b5)).bind (fun b9 =>
      zb (xs_rfault b9 (0 : Int32)) (fun u11 =>
      zb (xs_rplace u11 (0 : Int32)) (fun u12 =>
      zb (xs_rlines u12 (0 : Int32)) (fun u13 =>
      (fX7_rewind u13).bind (fun q15 =>
      some q15)))))))
theorem iwX5_lineNamed_5 : ∀ w ∈ wsX50, w ∈ wsX5_lineNamed := by decide +kernel
def bX5_lineNamed_2 (k : Nat) (u : CX) (a : Int32) : Option ((Int32) ⊕ ((Int32) ⊕ (Unit))) :=
  if (7 : Int32) ≤ a then
    some (.inr (.inr ()))
  else
  (fX7_isWord k ((6 : Int32) * a) u).bind (fun q2 =>
  if q2 = 0 then
    some (.inl (a + 1))
  else
  some (.inr (.inl a)))
def fX5_lineNamed (k : Nat) (u : CX) : Option (Int32) :=
  (ziter (bX5_lineNamed_2 k u) k (0 : Int32)).bind
    (fun b3 => zel b3
     (fun b3 =>
        some b3)
      (fun b3 =>
        some (-1 : Int32)))
theorem iwX5_seenNumber_5 : ∀ w ∈ wsX50, w ∈ wsX5_seenNumber := by decide +kernel
theorem iwX5_seenNumber_7 : ∀ w ∈ wsX70, w ∈ wsX5_seenNumber := by decide +kernel
def fX5_seenNumber (k : Nat) (a1 : Int32) (u : CX) : Option (Int32 × CX) :=
  if (xg_kind u) = (3 : Int32) then
    (fX7_number k u).bind (fun q2 =>
    zget 7 zLeast a1 (fun v3 =>
    if q2 < v3 then
      (fX5_fail (3 : Int32) u).bind (fun q5 =>
      some (q2, q5))
    else
    zget 7 zMost a1 (fun v6 =>
    if q2 ≤ v6 then
      some (q2, u)
    else
    (fX5_fail (3 : Int32) u).bind (fun q8 =>
    some (q2, q8)))))
  else
  (fX5_fail (2 : Int32) u).bind (fun q10 =>
  some ((0 : Int32), q10))
theorem iwX5_readClose_5 : ∀ w ∈ wsX50, w ∈ wsX5_readClose := by decide +kernel
theorem iwX5_readClose_7 : ∀ w ∈ wsX70, w ∈ wsX5_readClose := by decide +kernel
def fX5_readClose (k : Nat) (u : CX) : Option (CX) :=
  if (xg_rfault u) = 0 then
    if (xg_kind u) = (4 : Int32) then
      zb (xs_rlines u ((xg_rlines u) + (1 : Int32))) (fun u1 =>
      (fX5_advance k u1).bind (fun q3 =>
      some q3))
    else
    (fX5_fail (2 : Int32) u).bind (fun q5 =>
    some q5)
  else
  some u
theorem iwX5_readHits_5 : ∀ w ∈ wsX50, w ∈ wsX5_readHits := by decide +kernel
theorem iwX5_readHits_8 : ∀ w ∈ wsX80, w ∈ wsX5_readHits := by decide +kernel
def bX5_readHits_4 (k : Nat) (a : Int32 × Int32 × CX) : Option ((Int32 × Int32 × CX) ⊕ (CX)) :=
  if (3 : Int32) < a.2.1 then
    some (.inr a.2.2)
  else
  if (xg_rfault a.2.2) = 0 then
    (fX5_seenNumber k (3 : Int32) a.2.2).bind (fun q2 =>
    zix 7 a.2.1 (fun j3 => zb (xs_Drules q2.2 (upd (xg_Drules q2.2) j3 q2.1)) (fun u4 =>
    zget 7 (xg_Drules u4) a.2.1 (fun v5 =>
    zb (a.1 + v5) (fun v6 =>
    if a.2.1 = (3 : Int32) then
      if v6 = 0 then
        (fX5_fail (3 : Int32) u4).bind (fun q12 =>
        (fX5_advance k q12).bind (fun q14 =>
        some (.inl (v6, (a.2.1 + 1), q14))))
      else
      (fX5_advance k u4).bind (fun q10 =>
      some (.inl (v6, (a.2.1 + 1), q10)))
    else
    (fX5_advance k u4).bind (fun q8 =>
    some (.inl (v6, (a.2.1 + 1), q8))))))))
  else
  some (.inr a.2.2)
def fX5_readHits (k : Nat) (u : CX) : Option (CX) :=
  (ziter (bX5_readHits_4 k) k ((0 : Int32), (0 : Int32), u)).bind (fun b15 =>
    some b15)
theorem iwX5_readPartLine_5 : ∀ w ∈ wsX50, w ∈ wsX5_readPartLine := by decide +kernel
theorem iwX5_readPartLine_8 : ∀ w ∈ wsX80, w ∈ wsX5_readPartLine := by decide +kernel
def fX5_readPartLine (k : Nat) (a1 : Int32) (u : CX) : Option (CX) :=
  if (xg_rfault u) = 0 then
    (fX7_letter u).bind (fun q2 =>
    (fX9_isPart q2).bind (fun q4 =>
    if q4 = 0 then
      (fX5_fail (2 : Int32) u).bind (fun q20 =>
      some q20)
    else
    zb (((4 : Int32) * a1) + q2) (fun v5 =>
    zget 12 (xg_partTold u) v5 (fun v6 =>
    if v6 = 0 then
      zix 12 v5 (fun j7 => zb (xs_partTold u (upd (xg_partTold u) j7 (vp_nar .boolean (1 : Int32)))) (fun u8 =>
      (fX5_advance k u8).bind (fun q10 =>
      (fX5_seenNumber k a1 q10).bind (fun q12 =>
      zix 12 v5 (fun j13 => zb (xs_Dparts q12.2 (upd (xg_Dparts q12.2) j13 q12.1)) (fun u14 =>
      (fX5_advance k u14).bind (fun q16 =>
      some q16)))))))
    else
    (fX5_fail (4 : Int32) u).bind (fun q18 =>
    some q18)))))
  else
  some u
theorem iwX5_readLine_5 : ∀ w ∈ wsX50, w ∈ wsX5_readLine := by decide +kernel
theorem iwX5_readLine_8 : ∀ w ∈ wsX80, w ∈ wsX5_readLine := by decide +kernel
def jX5_readLine_j35 (k : Nat) (p1 : Int32) (u : CX) : Option (CX) :=
  zix 7 p1 (fun j3 => zb (xs_lineTold u (upd (xg_lineTold u) j3 (vp_nar .boolean (1 : Int32)))) (fun u4 =>
  (fX5_advance k u4).bind (fun q6 =>
  if (3 : Int32) ≤ p1 then
    if p1 = (3 : Int32) then
      (fX5_readHits k q6).bind (fun q16 =>
      (fX5_readClose k q16).bind (fun q18 =>
      some q18))
    else
    (fX5_seenNumber k p1 q6).bind (fun q8 =>
    zix 7 p1 (fun j9 => zb (xs_Drules q8.2 (upd (xg_Drules q8.2) j9 q8.1)) (fun u10 =>
    (fX5_advance k u10).bind (fun q12 =>
    (fX5_readClose k q12).bind (fun q14 =>
    some q14)))))
  else
  (fX5_readPartLine k p1 q6).bind (fun q20 =>
  (fX5_readClose k q20).bind (fun q22 =>
  some q22)))))
def fX5_readLine (k : Nat) (u : CX) : Option (CX) :=
  (fX5_lineNamed k u).bind (fun q2 =>
  if 0 ≤ q2 then
    if q2 < (3 : Int32) then
      jX5_readLine_j35 k q2 u
    else
    zget 7 (xg_lineTold u) q2 (fun v23 =>
    if v23 = 0 then
      jX5_readLine_j35 k q2 u
    else
    (fX5_fail (4 : Int32) u).bind (fun q25 =>
    some q25))
  else
  (fX5_fail (2 : Int32) u).bind (fun q27 =>
  some q27))
theorem iwX5_readTape_5 : ∀ w ∈ wsX50, w ∈ wsX5_readTape := by decide +kernel
theorem iwX5_readTape_7 : ∀ w ∈ wsX70, w ∈ wsX5_readTape := by decide +kernel
def bX5_readTape_10 (k : Nat) (a : Int32 × CX) : Option ((Int32 × CX) ⊕ (CX)) :=
  if (200 : Int32) ≤ a.1 then
    some (.inr a.2)
  else
  if (xg_rfault a.2) = 0 then
    if (xg_kind a.2) = (1 : Int32) then
      some (.inr a.2)
    else
    (fX5_readLine k a.2).bind (fun q6 =>
    some (.inl ((a.1 + 1), q6)))
  else
  some (.inr a.2)
def fX5_readTape (k : Nat) (u : CX) : Option (CX) :=
  (fX5_begin k u).bind (fun q2 =>
  (fX5_advance k q2).bind (fun q4 =>
  (ziter (bX5_readTape_10 k) k ((0 : Int32), q4)).bind (fun b7 =>
    some b7)))
section
variable {p : Program} {l : Launch} {e : Env} {s : State} {m : MethodId} {args : Array Value} {below : List Frame} {meth : Method} {c : Code} {A : Nat → Prop} {Q : State → Prop} {D : va_G} {ad : Nat → Nat} {cy : Nat → ClassId}
set_option maxHeartbeats 4000000 in
set_option maxRecDepth 100000 in
theorem lX7_isWord_45 (C0 : zFix p m c cX7_isWord 5 s args wsX7_isWord RX7 meth (some .boolean)) {k : Nat} {p2 : Int32} {p3 : Int32} {u : CX} {a : Int32} {b : (Unit) ⊕ (Unit)} (hit : ziter (bX7_isWord_45 k p2 p3 u) k a = some b) (hx9 : (fun (b : (Unit) ⊕ (Unit)) => zel b (fun b => ∀ (H : Heap) (locs : List Loc) (ls : Array Slot), zIn D ad cy (WX ad cy u) A s H locs → lv_has ls 5 [] → W p l e ({ frames := 4, cells := 0, slots := 0, locals := 85 } : Room) s m args below meth c H locs 0 0 Q (F0 m 74 ls [])) (fun b => ∀ (H : Heap) (locs : List Loc) (ls : Array Slot), zIn D ad cy (WX ad cy u) A s H locs → lv_has ls 5 [] → W p l e ({ frames := 4, cells := 0, slots := 0, locals := 85 } : Room) s m args below meth c H locs 0 0 Q (F0 m 82 ls []))) b) : (fun (a : Int32) => ∀ (H : Heap) (locs : List Loc) (ls : Array Slot), zIn D ad cy (WX ad cy u) A s H locs → lv_has ls 5 [(0, .ref (ad 4)), (1, .ref (ad 102)), (2, .int p2), (3, .int p3), (4, .int a)] → W p l e ({ frames := 4, cells := 0, slots := 0, locals := 85 } : Room) s m args below meth c H locs 0 0 Q (F0 m 45 ls [])) a := by
  obtain ⟨hx, hb, hml, hown, hts, hr, hlk⟩ := id C0
  refine zloop (Wh := (fun (a : Int32) => ∀ (H : Heap) (locs : List Loc) (ls : Array Slot), zIn D ad cy (WX ad cy u) A s H locs → lv_has ls 5 [(0, .ref (ad 4)), (1, .ref (ad 102)), (2, .int p2), (3, .int p3), (4, .int a)] → W p l e ({ frames := 4, cells := 0, slots := 0, locals := 85 } : Room) s m args below meth c H locs 0 0 Q (F0 m 45 ls []))) (Wx := (fun (b : (Unit) ⊕ (Unit)) => zel b (fun b => ∀ (H : Heap) (locs : List Loc) (ls : Array Slot), zIn D ad cy (WX ad cy u) A s H locs → lv_has ls 5 [] → W p l e ({ frames := 4, cells := 0, slots := 0, locals := 85 } : Room) s m args below meth c H locs 0 0 Q (F0 m 74 ls [])) (fun b => ∀ (H : Heap) (locs : List Loc) (ls : Array Slot), zIn D ad cy (WX ad cy u) A s H locs → lv_has ls 5 [] → W p l e ({ frames := 4, cells := 0, slots := 0, locals := 85 } : Room) s m args below meth c H locs 0 0 Q (F0 m 82 ls [])))) ?_ _ a b hit hx9
  intro a x hf hL hX H locs ls hI hl
  unfold bX7_isWord_45 at hf
  refine lv_iload (pc := 45) hx hb dX7_isWord_45 (lv_at hl 4 rfl) ?_
  refine lv_iload_n (pc := 47) hx hb dX7_isWord_47 rfl (lv_at hl 3 rfl) ?_
  refine z_icmp_ge (pc := 48) (tgt := 82) hx hb dX7_isWord_48 (by decide) hf (fun hf => ?_) (fun hf => ?_)
  · exact (z_elP2 (hX _ (Option.some.inj hf).symm)) _ _ _ hI (lv_sub hl [] rfl)
  refine lv_aload_n (pc := 51) hx hb dX7_isWord_51 rfl (lv_at hl 1 rfl) ?_
  refine lv_iload_n (pc := 52) hx hb dX7_isWord_52 rfl (lv_at hl 2 rfl) ?_
  refine lv_iload (pc := 53) hx hb dX7_isWord_53 (lv_at hl 4 rfl) ?_
  refine lv_iadd (pc := 55) hx hb dX7_isWord_55 ?_
  obtain ⟨v4, hc5, hf⟩ := zbind hf
  refine zcallVstr (pc := 56) (As := [.int (p2 + a)]) (rest := []) ⟨hx, hb, hml, hown, hts⟩ (kJ0_charAt l D ad cy (WX ad cy u) hc5) (cwV 1 hts gX7_isWord_J0_charAt_5068e rfl rfl rfl (by decide +kernel) ⟨Nat.le_of_ble_eq_true rfl, Nat.le_of_ble_eq_true rfl⟩) hI rfl hl.1 rfl (Nat.le_of_ble_eq_true rfl) dX7_isWord_56 (Nat.zero_le _) (Nat.zero_le _) (fun H locs hI => ?_)
  refine lv_aload_n (pc := 59) hx hb dX7_isWord_59 rfl (lv_at hl 0 rfl) ?_
  refine z_get (pc := 60) (index := 9) hx hb hts iwX7_isWord_7 hown hI (xl_4 ad cy u) rfl 0 (by decide) (by decide +kernel) rfl rfl dX7_isWord_60 ?_
  refine lv_aload_n (pc := 63) hx hb dX7_isWord_63 rfl (lv_at hl 0 rfl) ?_
  refine z_get (pc := 64) (index := 20) hx hb hts iwX7_isWord_7 hown hI (xl_4 ad cy u) rfl 3 (by decide) (by decide +kernel) rfl rfl dX7_isWord_64 ?_
  refine lv_iload (pc := 67) hx hb dX7_isWord_67 (lv_at hl 4 rfl) ?_
  refine lv_iadd (pc := 69) hx hb dX7_isWord_69 ?_
  refine z_bald (pc := 70) hx hb hI (xl_5 ad cy u) 1 rfl dX7_isWord_70 hf (fun v6 hf => ?_)
  refine z_icmp_eq (pc := 71) (tgt := 76) hx hb dX7_isWord_71 (by decide) hf (fun hf => ?_) (fun hf => ?_)
  · refine lv_iinc (pc := 76) (v := (a + 1)) (lv' := [(4, .int (a + 1)), (0, .ref (ad 4)), (1, .ref (ad 102)), (2, .int p2), (3, .int p3)]) hx hb dX7_isWord_76 hl (k := 4) rfl rfl (by decide) rfl (fun ls hl => ?_)
    refine lv_goto (pc := 79) (tgt := 45) hx hb dX7_isWord_79 (by decide) ?_
    exact hL _ (Option.some.inj hf).symm _ _ _ hI (lv_sub hl [1, 2, 3, 4, 0] rfl)
  exact (z_elP1 (hX _ (Option.some.inj hf).symm)) _ _ _ hI (lv_sub hl [] rfl)
set_option maxHeartbeats 4000000 in
set_option maxRecDepth 100000 in
theorem kX7_isWord (l : Launch) (D : va_G) (ad : Nat → Nat) (cy : Nat → ClassId) (k : Nat) (a2 : Int32) (u : CX) (r : Int32) (hf : fX7_isWord k a2 u = some r) : zCt l yX7_isWord wsX7_isWord ({ frames := 4, cells := 0, slots := 0, locals := 85 } : Room) D ad cy [.ref (ad 4), .ref (ad 102), .int a2] (WX ad cy u) (some (.int r)) (WX ad cy u) := by
  refine zCt.of (cc := cX7_isWord) (maxL := 5) (ret := (some .boolean)) (own := RX7) (by decide) rfl rfl ?_
  intro p e s m below meth c A C0 hI
  obtain ⟨hx, hb, hml, hown, hts, hr, hlk⟩ := id C0
  refine z_entry (Nat.le_of_ble_eq_true rfl) (fun ls hl => ?_)
  have hl : lv_has ls 5 [(0, .ref (ad 4)), (1, .ref (ad 102)), (2, .int a2)] := hl
  unfold fX7_isWord at hf
  refine lv_aload_n (pc := 0) hx hb dX7_isWord_0 rfl (lv_at hl 0 rfl) ?_
  refine z_get (pc := 1) (index := 17) hx hb hts iwX7_isWord_7 hown hI (xl_4 ad cy u) rfl 4 (by decide) (by decide +kernel) rfl rfl dX7_isWord_1 ?_
  refine lv_aload_n (pc := 4) hx hb dX7_isWord_4 rfl (lv_at hl 0 rfl) ?_
  refine z_get (pc := 5) (index := 20) hx hb hts iwX7_isWord_7 hown hI (xl_4 ad cy u) rfl 3 (by decide) (by decide +kernel) rfl rfl dX7_isWord_5 ?_
  refine lv_isub (pc := 8) hx hb dX7_isWord_8 ?_
  refine z_bi hf (fun v1 hf => ?_)
  refine lv_istore_n (pc := 9) (lv' := [(3, .int v1), (0, .ref (ad 4)), (1, .ref (ad 102)), (2, .int a2)]) hx hb dX7_isWord_9 rfl hl (by decide) rfl (fun ls hl => ?_)
  refine lv_aload_n (pc := 10) hx hb dX7_isWord_10 rfl (lv_at hl 1 rfl) ?_
  refine z_get (pc := 11) (index := 23) hx hb hts iwX7_isWord_7 hown hI (xl_4 ad cy u) rfl 2 (by decide) (by decide +kernel) rfl rfl dX7_isWord_11 ?_
  refine lv_iconst (pc := 14) (v := 2) hx hb dX7_isWord_14 (by decide) ?_
  refine z_icmp_ne (pc := 15) (tgt := 40) hx hb dX7_isWord_15 (by decide) hf (fun hf => ?_) (fun hf => ?_)
  · refine lv_iconst (pc := 40) (v := 0) hx hb dX7_isWord_40 (by decide) ?_
    cases hf
    exact z_zret (pc := 41) C0 hI (Or.inl rfl) dX7_isWord_41
  refine lv_iload_n (pc := 18) hx hb dX7_isWord_18 rfl (lv_at hl 3 rfl) ?_
  refine lv_iload_n (pc := 19) hx hb dX7_isWord_19 rfl (lv_at hl 0 rfl) ?_
  refine lv_iadd (pc := 20) hx hb dX7_isWord_20 ?_
  refine lv_aload_n (pc := 21) hx hb dX7_isWord_21 rfl (lv_at hl 2 rfl) ?_
  refine zcallVstr (pc := 22) (As := []) (rest := [.int (a2 + v1)]) ⟨hx, hb, hml, hown, hts⟩ (kJ0_length l D ad cy (WX ad cy u)) (cwV 0 hts gX7_isWord_J0_length_8abf5 rfl rfl rfl (by decide +kernel) ⟨Nat.le_of_ble_eq_true rfl, Nat.le_of_ble_eq_true rfl⟩) hI rfl hl.1 rfl (Nat.le_of_ble_eq_true rfl) dX7_isWord_22 (Nat.zero_le _) (Nat.zero_le _) (fun H locs hI => ?_)
  refine z_icmp_ge (pc := 25) (tgt := 40) hx hb dX7_isWord_25 (by decide) hf (fun hf => ?_) (fun hf => ?_)
  · refine lv_iconst (pc := 40) (v := 0) hx hb dX7_isWord_40 (by decide) ?_
    cases hf
    exact z_zret (pc := 41) C0 hI (Or.inl rfl) dX7_isWord_41
  refine lv_aload_n (pc := 28) hx hb dX7_isWord_28 rfl (lv_at hl 2 rfl) ?_
  refine lv_iload_n (pc := 29) hx hb dX7_isWord_29 rfl (lv_at hl 3 rfl) ?_
  refine lv_iload_n (pc := 30) hx hb dX7_isWord_30 rfl (lv_at hl 0 rfl) ?_
  refine lv_iadd (pc := 31) hx hb dX7_isWord_31 ?_
  obtain ⟨v2, hc3, hf⟩ := zbind hf
  refine zcallVstr (pc := 32) (As := [.int (a2 + v1)]) (rest := []) ⟨hx, hb, hml, hown, hts⟩ (kJ0_charAt l D ad cy (WX ad cy u) hc3) (cwV 1 hts gX7_isWord_J0_charAt_5068e rfl rfl rfl (by decide +kernel) ⟨Nat.le_of_ble_eq_true rfl, Nat.le_of_ble_eq_true rfl⟩) hI rfl hl.1 rfl (Nat.le_of_ble_eq_true rfl) dX7_isWord_32 (Nat.zero_le _) (Nat.zero_le _) (fun H locs hI => ?_)
  refine lv_bipush (pc := 35) (v := 32) hx hb dX7_isWord_35 (by decide) ?_
  refine z_icmp_eq (pc := 37) (tgt := 42) hx hb dX7_isWord_37 (by decide) hf (fun hf => ?_) (fun hf => ?_)
  · refine lv_iconst (pc := 42) (v := 0) hx hb dX7_isWord_42 (by decide) ?_
    refine lv_istore (pc := 43) (lv' := [(4, .int (0 : Int32)), (3, .int v1), (0, .ref (ad 4)), (1, .ref (ad 102)), (2, .int a2)]) hx hb dX7_isWord_43 hl (by decide) rfl (fun ls hl => ?_)
    obtain ⟨b7, hb8, hf⟩ := zbind hf
    rcases b7 with b7 | b7
    · have hf := z_el1 hf
      refine lX7_isWord_45 C0 hb8 ?_ _ _ _ hI (lv_sub hl [2, 3, 4, 1, 0] rfl)
      intro H locs ls hI hl
      refine lv_iconst (pc := 74) (v := 0) hx hb dX7_isWord_74 (by decide) ?_
      cases hf
      exact z_zret (pc := 75) C0 hI (Or.inl rfl) dX7_isWord_75
    have hf := z_el2 hf
    refine lX7_isWord_45 C0 hb8 ?_ _ _ _ hI (lv_sub hl [2, 3, 4, 1, 0] rfl)
    intro H locs ls hI hl
    refine lv_iconst (pc := 82) (v := 1) hx hb dX7_isWord_82 (by decide) ?_
    cases hf
    exact z_zret (pc := 83) C0 hI (Or.inr rfl) dX7_isWord_83
  refine lv_iconst (pc := 40) (v := 0) hx hb dX7_isWord_40 (by decide) ?_
  cases hf
  exact z_zret (pc := 41) C0 hI (Or.inl rfl) dX7_isWord_41
set_option maxHeartbeats 4000000 in
set_option maxRecDepth 100000 in
theorem kX5_fail (l : Launch) (D : va_G) (ad : Nat → Nat) (cy : Nat → ClassId) (a1 : Int32) (u : CX) (u' : CX) (hf : fX5_fail a1 u = some u') : zCt l yX5_fail wsX5_fail ({ frames := 0, cells := 0, slots := 0, locals := 0 } : Room) D ad cy [.ref (ad 6), .int a1] (WX ad cy u) none (WX ad cy u') := by
  refine zCt.of (cc := cX5_fail) (maxL := 2) (ret := none) (own := RX5) (by decide) rfl rfl ?_
  intro p e s m below meth c A C0 hI
  obtain ⟨hx, hb, hml, hown, hts, hr, hlk⟩ := id C0
  refine z_entry (Nat.le_of_ble_eq_true rfl) (fun ls hl => ?_)
  have hl : lv_has ls 2 [(0, .ref (ad 6)), (1, .int a1)] := hl
  unfold fX5_fail at hf
  refine lv_aload_n (pc := 0) hx hb dX5_fail_0 rfl (lv_at hl 0 rfl) ?_
  refine z_get (pc := 1) (index := 37) hx hb hts iwX5_fail_5 hown hI (xl_6 ad cy u) rfl 4 (by decide) (by decide +kernel) rfl rfl dX5_fail_1 ?_
  refine z_if_ne (pc := 4) (tgt := 23) hx hb dX5_fail_4 (by decide) hf (fun hf => ?_) (fun hf => ?_)
  · cases hf
    exact z_vret (pc := 23) C0 hI dX5_fail_23
  refine lv_aload_n (pc := 7) hx hb dX5_fail_7 rfl (lv_at hl 0 rfl) ?_
  refine lv_iload_n (pc := 8) hx hb dX5_fail_8 rfl (lv_at hl 1 rfl) ?_
  refine z_put (wf := WX ad cy) (pc := 9) (index := 37) hx hb hts iwX5_fail_5 tyX5 tyX5_ok nmX5 hown hI (xl_6 ad cy u) rfl 4 (by decide) (by decide +kernel) rfl rfl rfl rfl (Nat.le_of_ble_eq_true rfl) dX5_fail_9 (xw_rfault ad cy u a1) hf (fun u1 H locs hI hf => ?_)
  refine lv_aload_n (pc := 12) hx hb dX5_fail_12 rfl (lv_at hl 0 rfl) ?_
  refine lv_aload_n (pc := 13) hx hb dX5_fail_13 rfl (lv_at hl 0 rfl) ?_
  refine z_get (pc := 14) (index := 25) hx hb hts iwX5_fail_5 hown hI (xl_6 ad cy u1) rfl 0 (by decide) (by decide +kernel) rfl rfl dX5_fail_14 ?_
  refine z_get (pc := 17) (index := 59) hx hb hts iwX5_fail_7 hown hI (xl_4 ad cy u1) rfl 3 (by decide) (by decide +kernel) rfl rfl dX5_fail_17 ?_
  refine z_put (wf := WX ad cy) (pc := 20) (index := 50) hx hb hts iwX5_fail_5 tyX5 tyX5_ok nmX5 hown hI (xl_6 ad cy u1) rfl 5 (by decide) (by decide +kernel) rfl rfl rfl rfl (Nat.le_of_ble_eq_true rfl) dX5_fail_20 (xw_rplace ad cy u1 (xg_start u1)) hf (fun u2 H locs hI hf => ?_)
  cases hf
  exact z_vret (pc := 23) C0 hI dX5_fail_23
set_option maxHeartbeats 4000000 in
set_option maxRecDepth 100000 in
theorem kX5_advance (l : Launch) (D : va_G) (ad : Nat → Nat) (cy : Nat → ClassId) (k : Nat) (u : CX) (u' : CX) (hf : fX5_advance k u = some u') : zCt l yX5_advance wsX5_advance ({ frames := 2, cells := 0, slots := 0, locals := 42 } : Room) D ad cy [.ref (ad 6)] (WX ad cy u) none (WX ad cy u') := by
  refine zCt.of (cc := cX5_advance) (maxL := 1) (ret := none) (own := RX5) (by decide) rfl rfl ?_
  intro p e s m below meth c A C0 hI
  obtain ⟨hx, hb, hml, hown, hts, hr, hlk⟩ := id C0
  refine z_entry (Nat.le_of_ble_eq_true rfl) (fun ls hl => ?_)
  have hl : lv_has ls 1 [(0, .ref (ad 6))] := hl
  unfold fX5_advance at hf
  refine lv_aload_n (pc := 0) hx hb dX5_advance_0 rfl (lv_at hl 0 rfl) ?_
  refine z_get (pc := 1) (index := 37) hx hb hts iwX5_advance_5 hown hI (xl_6 ad cy u) rfl 4 (by decide) (by decide +kernel) rfl rfl dX5_advance_1 ?_
  refine z_if_eq (pc := 4) (tgt := 8) hx hb dX5_advance_4 (by decide) hf (fun hf => ?_) (fun hf => ?_)
  · refine lv_aload_n (pc := 8) hx hb dX5_advance_8 rfl (lv_at hl 0 rfl) ?_
    refine z_get (pc := 9) (index := 25) hx hb hts iwX5_advance_5 hown hI (xl_6 ad cy u) rfl 0 (by decide) (by decide +kernel) rfl rfl dX5_advance_9 ?_
    obtain ⟨q2, hc1, hf⟩ := zbind hf
    refine zcallVv (pc := 12) (As := []) (rest := []) ⟨hx, hb, hml, hown, hts⟩ (kX7_next l D ad cy k u q2 hc1) (cwV 0 hts gX5_advance_X7_next rfl rfl rfl (by decide +kernel) ⟨Nat.le_of_ble_eq_true rfl, Nat.le_of_ble_eq_true rfl⟩) hI rfl (xl_4 ad cy u) rfl hl.1 rfl (Nat.le_of_ble_eq_true rfl) dX5_advance_12 (Nat.zero_le _) (Nat.zero_le _) (fun H locs hI => ?_)
    refine lv_aload_n (pc := 15) hx hb dX5_advance_15 rfl (lv_at hl 0 rfl) ?_
    refine z_get (pc := 16) (index := 25) hx hb hts iwX5_advance_5 hown hI (xl_6 ad cy q2) rfl 0 (by decide) (by decide +kernel) rfl rfl dX5_advance_16 ?_
    refine z_get (pc := 19) (index := 41) hx hb hts iwX5_advance_7 hown hI (xl_4 ad cy q2) rfl 2 (by decide) (by decide +kernel) rfl rfl dX5_advance_19 ?_
    refine z_if_ne (pc := 22) (tgt := 30) hx hb dX5_advance_22 (by decide) hf (fun hf => ?_) (fun hf => ?_)
    · cases hf
      exact z_vret (pc := 30) C0 hI dX5_advance_30
    refine lv_aload_n (pc := 25) hx hb dX5_advance_25 rfl (lv_at hl 0 rfl) ?_
    refine lv_iconst (pc := 26) (v := 1) hx hb dX5_advance_26 (by decide) ?_
    obtain ⟨q4, hc3, hf⟩ := zbind hf
    refine zcallVv (pc := 27) (As := [.int (1 : Int32)]) (rest := []) ⟨hx, hb, hml, hown, hts⟩ (kX5_fail l D ad cy (1 : Int32) q2 q4 hc3) (cwV 1 hts gX5_advance_X5_fail rfl rfl rfl (by decide +kernel) ⟨Nat.le_of_ble_eq_true rfl, Nat.le_of_ble_eq_true rfl⟩) hI rfl (xl_6 ad cy q2) rfl hl.1 rfl (Nat.le_of_ble_eq_true rfl) dX5_advance_27 (Nat.zero_le _) (Nat.zero_le _) (fun H locs hI => ?_)
    cases hf
    exact z_vret (pc := 30) C0 hI dX5_advance_30
  cases hf
  exact z_vret (pc := 7) C0 hI dX5_advance_7
set_option maxHeartbeats 4000000 in
set_option maxRecDepth 100000 in
theorem lX5_begin_9 (C0 : zFix p m c cX5_begin 2 s args wsX5_begin RX5 meth none) {k : Nat} {a : Int32 × CX} {b : CX} (hit : ziter (bX5_begin_9 k) k a = some b) (hx9 : (fun (b : CX) => ∀ (H : Heap) (locs : List Loc) (ls : Array Slot), zIn D ad cy (WX ad cy b) A s H locs → lv_has ls 2 [(0, .ref (ad 6))] → W p l e ({ frames := 1, cells := 0, slots := 0, locals := 21 } : Room) s m args below meth c H locs 0 0 Q (F0 m 31 ls [])) b) : (fun (a : Int32 × CX) => ∀ (H : Heap) (locs : List Loc) (ls : Array Slot), zIn D ad cy (WX ad cy a.2) A s H locs → lv_has ls 2 [(0, .ref (ad 6)), (1, .int a.1)] → W p l e ({ frames := 1, cells := 0, slots := 0, locals := 21 } : Room) s m args below meth c H locs 0 0 Q (F0 m 9 ls [])) a := by
  obtain ⟨hx, hb, hml, hown, hts, hr, hlk⟩ := id C0
  refine zloop (Wh := (fun (a : Int32 × CX) => ∀ (H : Heap) (locs : List Loc) (ls : Array Slot), zIn D ad cy (WX ad cy a.2) A s H locs → lv_has ls 2 [(0, .ref (ad 6)), (1, .int a.1)] → W p l e ({ frames := 1, cells := 0, slots := 0, locals := 21 } : Room) s m args below meth c H locs 0 0 Q (F0 m 9 ls []))) (Wx := (fun (b : CX) => ∀ (H : Heap) (locs : List Loc) (ls : Array Slot), zIn D ad cy (WX ad cy b) A s H locs → lv_has ls 2 [(0, .ref (ad 6))] → W p l e ({ frames := 1, cells := 0, slots := 0, locals := 21 } : Room) s m args below meth c H locs 0 0 Q (F0 m 31 ls []))) ?_ _ a b hit hx9
  intro a x hf hL hX H locs ls hI hl
  unfold bX5_begin_9 at hf
  refine lv_iload_n (pc := 9) hx hb dX5_begin_9 rfl (lv_at hl 1 rfl) ?_
  refine lv_aload_n (pc := 10) hx hb dX5_begin_10 rfl (lv_at hl 0 rfl) ?_
  refine z_get (pc := 11) (index := 18) hx hb hts iwX5_begin_5 hown hI (xl_6 ad cy a.2) rfl 2 (by decide) (by decide +kernel) rfl rfl dX5_begin_11 ?_
  refine va_alen (pc := 14) hx hb hI.1 hI.2.1 10 3 (xl_10 ad cy a.2) rfl (v := 12) rfl dX5_begin_14 ?_
  refine z_icmp_ge (pc := 15) (tgt := 31) hx hb dX5_begin_15 (by decide) hf (fun hf => ?_) (fun hf => ?_)
  · exact (hX _ (Option.some.inj hf).symm) _ _ _ hI (lv_sub hl [0] rfl)
  refine lv_aload_n (pc := 18) hx hb dX5_begin_18 rfl (lv_at hl 0 rfl) ?_
  refine z_get (pc := 19) (index := 18) hx hb hts iwX5_begin_5 hown hI (xl_6 ad cy a.2) rfl 2 (by decide) (by decide +kernel) rfl rfl dX5_begin_19 ?_
  refine lv_iload_n (pc := 22) hx hb dX5_begin_22 rfl (lv_at hl 1 rfl) ?_
  refine lv_iconst (pc := 23) (v := 0) hx hb dX5_begin_23 (by decide) ?_
  refine z_zast (wf := WX ad cy) (pc := 24) hx hb hI (xl_10 ad cy a.2) 3 rfl dX5_begin_24 (fun j => xw_partTold ad cy a.2 (upd (xg_partTold a.2) j (vp_nar .boolean (0 : Int32)))) hf (fun j3 u4 H locs hj3 hI hf => ?_)
  refine lv_iinc (pc := 25) (v := (a.1 + 1)) (lv' := [(1, .int (a.1 + 1)), (0, .ref (ad 6))]) hx hb dX5_begin_25 hl (k := 1) rfl rfl (by decide) rfl (fun ls hl => ?_)
  refine lv_goto (pc := 28) (tgt := 9) hx hb dX5_begin_28 (by decide) ?_
  exact hL _ (Option.some.inj hf).symm _ _ _ hI (lv_sub hl [1, 0] rfl)
set_option maxHeartbeats 4000000 in
set_option maxRecDepth 100000 in
theorem lX5_begin_33 (C0 : zFix p m c cX5_begin 2 s args wsX5_begin RX5 meth none) {k : Nat} {a : Int32 × CX} {b : CX} (hit : ziter (bX5_begin_33 k) k a = some b) (hx9 : (fun (b : CX) => ∀ (H : Heap) (locs : List Loc) (ls : Array Slot), zIn D ad cy (WX ad cy b) A s H locs → lv_has ls 2 [(0, .ref (ad 6))] → W p l e ({ frames := 1, cells := 0, slots := 0, locals := 21 } : Room) s m args below meth c H locs 0 0 Q (F0 m 52 ls [])) b) : (fun (a : Int32 × CX) => ∀ (H : Heap) (locs : List Loc) (ls : Array Slot), zIn D ad cy (WX ad cy a.2) A s H locs → lv_has ls 2 [(0, .ref (ad 6)), (1, .int a.1)] → W p l e ({ frames := 1, cells := 0, slots := 0, locals := 21 } : Room) s m args below meth c H locs 0 0 Q (F0 m 33 ls [])) a := by
  obtain ⟨hx, hb, hml, hown, hts, hr, hlk⟩ := id C0
  refine zloop (Wh := (fun (a : Int32 × CX) => ∀ (H : Heap) (locs : List Loc) (ls : Array Slot), zIn D ad cy (WX ad cy a.2) A s H locs → lv_has ls 2 [(0, .ref (ad 6)), (1, .int a.1)] → W p l e ({ frames := 1, cells := 0, slots := 0, locals := 21 } : Room) s m args below meth c H locs 0 0 Q (F0 m 33 ls []))) (Wx := (fun (b : CX) => ∀ (H : Heap) (locs : List Loc) (ls : Array Slot), zIn D ad cy (WX ad cy b) A s H locs → lv_has ls 2 [(0, .ref (ad 6))] → W p l e ({ frames := 1, cells := 0, slots := 0, locals := 21 } : Room) s m args below meth c H locs 0 0 Q (F0 m 52 ls []))) ?_ _ a b hit hx9
  intro a x hf hL hX H locs ls hI hl
  unfold bX5_begin_33 at hf
  refine lv_iload_n (pc := 33) hx hb dX5_begin_33 rfl (lv_at hl 1 rfl) ?_
  refine lv_bipush (pc := 34) (v := 7) hx hb dX5_begin_34 (by decide) ?_
  refine z_icmp_ge (pc := 36) (tgt := 52) hx hb dX5_begin_36 (by decide) hf (fun hf => ?_) (fun hf => ?_)
  · exact (hX _ (Option.some.inj hf).symm) _ _ _ hI (lv_sub hl [0] rfl)
  refine lv_aload_n (pc := 39) hx hb dX5_begin_39 rfl (lv_at hl 0 rfl) ?_
  refine z_get (pc := 40) (index := 22) hx hb hts iwX5_begin_5 hown hI (xl_6 ad cy a.2) rfl 3 (by decide) (by decide +kernel) rfl rfl dX5_begin_40 ?_
  refine lv_iload_n (pc := 43) hx hb dX5_begin_43 rfl (lv_at hl 1 rfl) ?_
  refine lv_iconst (pc := 44) (v := 0) hx hb dX5_begin_44 (by decide) ?_
  refine z_zast (wf := WX ad cy) (pc := 45) hx hb hI (xl_11 ad cy a.2) 3 rfl dX5_begin_45 (fun j => xw_lineTold ad cy a.2 (upd (xg_lineTold a.2) j (vp_nar .boolean (0 : Int32)))) hf (fun j7 u8 H locs hj7 hI hf => ?_)
  refine lv_iinc (pc := 46) (v := (a.1 + 1)) (lv' := [(1, .int (a.1 + 1)), (0, .ref (ad 6))]) hx hb dX5_begin_46 hl (k := 1) rfl rfl (by decide) rfl (fun ls hl => ?_)
  refine lv_goto (pc := 49) (tgt := 33) hx hb dX5_begin_49 (by decide) ?_
  exact hL _ (Option.some.inj hf).symm _ _ _ hI (lv_sub hl [1, 0] rfl)
set_option maxHeartbeats 4000000 in
set_option maxRecDepth 100000 in
theorem kX5_begin (l : Launch) (D : va_G) (ad : Nat → Nat) (cy : Nat → ClassId) (k : Nat) (u : CX) (u' : CX) (hf : fX5_begin k u = some u') : zCt l yX5_begin wsX5_begin ({ frames := 1, cells := 0, slots := 0, locals := 21 } : Room) D ad cy [.ref (ad 6)] (WX ad cy u) none (WX ad cy u') := by
  refine zCt.of (cc := cX5_begin) (maxL := 2) (ret := none) (own := RX5) (by decide) rfl rfl ?_
  intro p e s m below meth c A C0 hI
  obtain ⟨hx, hb, hml, hown, hts, hr, hlk⟩ := id C0
  refine z_entry (Nat.le_of_ble_eq_true rfl) (fun ls hl => ?_)
  have hl : lv_has ls 2 [(0, .ref (ad 6))] := hl
  unfold fX5_begin at hf
  refine lv_aload_n (pc := 0) hx hb dX5_begin_0 rfl (lv_at hl 0 rfl) ?_
  refine z_get (pc := 1) (index := 12) hx hb hts iwX5_begin_5 hown hI (xl_6 ad cy u) rfl 1 (by decide) (by decide +kernel) rfl rfl dX5_begin_1 ?_
  obtain ⟨q2, hc1, hf⟩ := zbind hf
  refine zcallVv (pc := 4) (As := []) (rest := []) ⟨hx, hb, hml, hown, hts⟩ (kX8_standAsUntold_d l D ad cy k u q2 hc1) (cwV 0 hts gX5_begin_X8_standAsUntold rfl rfl rfl (by decide +kernel) ⟨Nat.le_of_ble_eq_true rfl, Nat.le_of_ble_eq_true rfl⟩) hI rfl (xl_7 ad cy u) rfl hl.1 rfl (Nat.le_of_ble_eq_true rfl) dX5_begin_4 (Nat.zero_le _) (Nat.zero_le _) (fun H locs hI => ?_)
  refine lv_iconst (pc := 7) (v := 0) hx hb dX5_begin_7 (by decide) ?_
  refine lv_istore_n (pc := 8) (lv' := [(1, .int (0 : Int32)), (0, .ref (ad 6))]) hx hb dX5_begin_8 rfl hl (by decide) rfl (fun ls hl => ?_)
  obtain ⟨b5, hb6, hf⟩ := zbind hf
  refine lX5_begin_9 C0 hb6 ?_ _ _ _ hI (lv_sub hl [1, 0] rfl)
  intro H locs ls hI hl
  refine lv_iconst (pc := 31) (v := 0) hx hb dX5_begin_31 (by decide) ?_
  refine lv_istore_n (pc := 32) (lv' := [(1, .int (0 : Int32)), (0, .ref (ad 6))]) hx hb dX5_begin_32 rfl hl (by decide) rfl (fun ls hl => ?_)
  obtain ⟨b9, hb10, hf⟩ := zbind hf
  refine lX5_begin_33 C0 hb10 ?_ _ _ _ hI (lv_sub hl [1, 0] rfl)
  intro H locs ls hI hl
  refine lv_aload_n (pc := 52) hx hb dX5_begin_52 rfl (lv_at hl 0 rfl) ?_
  refine lv_iconst (pc := 53) (v := 0) hx hb dX5_begin_53 (by decide) ?_
  refine z_put (wf := WX ad cy) (pc := 54) (index := 37) hx hb hts iwX5_begin_5 tyX5 tyX5_ok nmX5 hown hI (xl_6 ad cy b9) rfl 4 (by decide) (by decide +kernel) rfl rfl rfl rfl (Nat.le_of_ble_eq_true rfl) dX5_begin_54 (xw_rfault ad cy b9 (0 : Int32)) hf (fun u11 H locs hI hf => ?_)
  refine lv_aload_n (pc := 57) hx hb dX5_begin_57 rfl (lv_at hl 0 rfl) ?_
  refine lv_iconst (pc := 58) (v := 0) hx hb dX5_begin_58 (by decide) ?_
  refine z_put (wf := WX ad cy) (pc := 59) (index := 50) hx hb hts iwX5_begin_5 tyX5 tyX5_ok nmX5 hown hI (xl_6 ad cy u11) rfl 5 (by decide) (by decide +kernel) rfl rfl rfl rfl (Nat.le_of_ble_eq_true rfl) dX5_begin_59 (xw_rplace ad cy u11 (0 : Int32)) hf (fun u12 H locs hI hf => ?_)
  refine lv_aload_n (pc := 62) hx hb dX5_begin_62 rfl (lv_at hl 0 rfl) ?_
  refine lv_iconst (pc := 63) (v := 0) hx hb dX5_begin_63 (by decide) ?_
  refine z_put (wf := WX ad cy) (pc := 64) (index := 53) hx hb hts iwX5_begin_5 tyX5 tyX5_ok nmX5 hown hI (xl_6 ad cy u12) rfl 6 (by decide) (by decide +kernel) rfl rfl rfl rfl (Nat.le_of_ble_eq_true rfl) dX5_begin_64 (xw_rlines ad cy u12 (0 : Int32)) hf (fun u13 H locs hI hf => ?_)
  refine lv_aload_n (pc := 67) hx hb dX5_begin_67 rfl (lv_at hl 0 rfl) ?_
  refine z_get (pc := 68) (index := 25) hx hb hts iwX5_begin_5 hown hI (xl_6 ad cy u13) rfl 0 (by decide) (by decide +kernel) rfl rfl dX5_begin_68 ?_
  obtain ⟨q15, hc14, hf⟩ := zbind hf
  refine zcallVv (pc := 71) (As := []) (rest := []) ⟨hx, hb, hml, hown, hts⟩ (kX7_rewind l D ad cy u13 q15 hc14) (cwV 0 hts gX5_begin_X7_rewind rfl rfl rfl (by decide +kernel) ⟨Nat.le_of_ble_eq_true rfl, Nat.le_of_ble_eq_true rfl⟩) hI rfl (xl_4 ad cy u13) rfl hl.1 rfl (Nat.le_of_ble_eq_true rfl) dX5_begin_71 (Nat.zero_le _) (Nat.zero_le _) (fun H locs hI => ?_)
  cases hf
  exact z_vret (pc := 74) C0 hI dX5_begin_74
set_option maxHeartbeats 4000000 in
set_option maxRecDepth 100000 in
theorem lX5_lineNamed_2 (C0 : zFix p m c cX5_lineNamed 2 s args wsX5_lineNamed RX5 meth (some .int)) {k : Nat} {u : CX} {a : Int32} {b : (Int32) ⊕ (Unit)} (hit : ziter (bX5_lineNamed_2 k u) k a = some b) (hx9 : (fun (b : (Int32) ⊕ (Unit)) => zel b (fun b => ∀ (H : Heap) (locs : List Loc) (ls : Array Slot), zIn D ad cy (WX ad cy u) A s H locs → lv_has ls 2 [(1, .int b)] → W p l e ({ frames := 5, cells := 0, slots := 0, locals := 109 } : Room) s m args below meth c H locs 0 0 Q (F0 m 24 ls [])) (fun b => ∀ (H : Heap) (locs : List Loc) (ls : Array Slot), zIn D ad cy (WX ad cy u) A s H locs → lv_has ls 2 [] → W p l e ({ frames := 5, cells := 0, slots := 0, locals := 109 } : Room) s m args below meth c H locs 0 0 Q (F0 m 32 ls []))) b) : (fun (a : Int32) => ∀ (H : Heap) (locs : List Loc) (ls : Array Slot), zIn D ad cy (WX ad cy u) A s H locs → lv_has ls 2 [(0, .ref (ad 6)), (1, .int a)] → W p l e ({ frames := 5, cells := 0, slots := 0, locals := 109 } : Room) s m args below meth c H locs 0 0 Q (F0 m 2 ls [])) a := by
  obtain ⟨hx, hb, hml, hown, hts, hr, hlk⟩ := id C0
  refine zloop (Wh := (fun (a : Int32) => ∀ (H : Heap) (locs : List Loc) (ls : Array Slot), zIn D ad cy (WX ad cy u) A s H locs → lv_has ls 2 [(0, .ref (ad 6)), (1, .int a)] → W p l e ({ frames := 5, cells := 0, slots := 0, locals := 109 } : Room) s m args below meth c H locs 0 0 Q (F0 m 2 ls []))) (Wx := (fun (b : (Int32) ⊕ (Unit)) => zel b (fun b => ∀ (H : Heap) (locs : List Loc) (ls : Array Slot), zIn D ad cy (WX ad cy u) A s H locs → lv_has ls 2 [(1, .int b)] → W p l e ({ frames := 5, cells := 0, slots := 0, locals := 109 } : Room) s m args below meth c H locs 0 0 Q (F0 m 24 ls [])) (fun b => ∀ (H : Heap) (locs : List Loc) (ls : Array Slot), zIn D ad cy (WX ad cy u) A s H locs → lv_has ls 2 [] → W p l e ({ frames := 5, cells := 0, slots := 0, locals := 109 } : Room) s m args below meth c H locs 0 0 Q (F0 m 32 ls [])))) ?_ _ a b hit hx9
  intro a x hf hL hX H locs ls hI hl
  unfold bX5_lineNamed_2 at hf
  refine lv_iload_n (pc := 2) hx hb dX5_lineNamed_2 rfl (lv_at hl 1 rfl) ?_
  refine lv_bipush (pc := 3) (v := 7) hx hb dX5_lineNamed_3 (by decide) ?_
  refine z_icmp_ge (pc := 5) (tgt := 32) hx hb dX5_lineNamed_5 (by decide) hf (fun hf => ?_) (fun hf => ?_)
  · exact (z_elP2 (hX _ (Option.some.inj hf).symm)) _ _ _ hI (lv_sub hl [] rfl)
  refine lv_aload_n (pc := 8) hx hb dX5_lineNamed_8 rfl (lv_at hl 0 rfl) ?_
  refine z_get (pc := 9) (index := 25) hx hb hts iwX5_lineNamed_5 hown hI (xl_6 ad cy u) rfl 0 (by decide) (by decide +kernel) rfl rfl dX5_lineNamed_9 ?_
  refine va_ldcS (pc := 12) hx hb hown hI.2.2.2.2.2.2.1 dX5_lineNamed_12 ?_
  refine lv_bipush (pc := 14) (v := 6) hx hb dX5_lineNamed_14 (by decide) ?_
  refine lv_iload_n (pc := 16) hx hb dX5_lineNamed_16 rfl (lv_at hl 1 rfl) ?_
  refine lv_imul (pc := 17) hx hb dX5_lineNamed_17 ?_
  obtain ⟨q2, hc1, hf⟩ := zbind hf
  refine zcallVi (pc := 18) (As := [.ref (ad 102), .int ((6 : Int32) * a)]) (rest := []) ⟨hx, hb, hml, hown, hts⟩ (kX7_isWord l D ad cy k ((6 : Int32) * a) u q2 hc1) (cwV 2 hts gX5_lineNamed_X7_isWord rfl rfl rfl (by decide +kernel) ⟨Nat.le_of_ble_eq_true rfl, Nat.le_of_ble_eq_true rfl⟩) hI rfl (xl_4 ad cy u) rfl hl.1 rfl (Nat.le_of_ble_eq_true rfl) dX5_lineNamed_18 (Nat.zero_le _) (Nat.zero_le _) (fun H locs hI => ?_)
  refine z_if_eq (pc := 21) (tgt := 26) hx hb dX5_lineNamed_21 (by decide) hf (fun hf => ?_) (fun hf => ?_)
  · refine lv_iinc (pc := 26) (v := (a + 1)) (lv' := [(1, .int (a + 1)), (0, .ref (ad 6))]) hx hb dX5_lineNamed_26 hl (k := 1) rfl rfl (by decide) rfl (fun ls hl => ?_)
    refine lv_goto (pc := 29) (tgt := 2) hx hb dX5_lineNamed_29 (by decide) ?_
    exact hL _ (Option.some.inj hf).symm _ _ _ hI (lv_sub hl [1, 0] rfl)
  exact (z_elP1 (hX _ (Option.some.inj hf).symm)) _ _ _ hI (lv_sub hl [1] rfl)
set_option maxHeartbeats 4000000 in
set_option maxRecDepth 100000 in
theorem kX5_lineNamed (l : Launch) (D : va_G) (ad : Nat → Nat) (cy : Nat → ClassId) (k : Nat) (u : CX) (r : Int32) (hf : fX5_lineNamed k u = some r) : zCt l yX5_lineNamed wsX5_lineNamed ({ frames := 5, cells := 0, slots := 0, locals := 109 } : Room) D ad cy [.ref (ad 6)] (WX ad cy u) (some (.int r)) (WX ad cy u) := by
  refine zCt.of (cc := cX5_lineNamed) (maxL := 2) (ret := (some .int)) (own := RX5) (by decide) rfl rfl ?_
  intro p e s m below meth c A C0 hI
  obtain ⟨hx, hb, hml, hown, hts, hr, hlk⟩ := id C0
  refine z_entry (Nat.le_of_ble_eq_true rfl) (fun ls hl => ?_)
  have hl : lv_has ls 2 [(0, .ref (ad 6))] := hl
  unfold fX5_lineNamed at hf
  refine lv_iconst (pc := 0) (v := 0) hx hb dX5_lineNamed_0 (by decide) ?_
  refine lv_istore_n (pc := 1) (lv' := [(1, .int (0 : Int32)), (0, .ref (ad 6))]) hx hb dX5_lineNamed_1 rfl hl (by decide) rfl (fun ls hl => ?_)
  obtain ⟨b3, hb4, hf⟩ := zbind hf
  rcases b3 with b3 | b3
  · have hf := z_el1 hf
    refine lX5_lineNamed_2 C0 hb4 ?_ _ _ _ hI (lv_sub hl [1, 0] rfl)
    intro H locs ls hI hl
    refine lv_iload_n (pc := 24) hx hb dX5_lineNamed_24 rfl (lv_at hl 0 rfl) ?_
    cases hf
    exact z_iret (pc := 25) C0 hI dX5_lineNamed_25
  have hf := z_el2 hf
  refine lX5_lineNamed_2 C0 hb4 ?_ _ _ _ hI (lv_sub hl [1, 0] rfl)
  intro H locs ls hI hl
  refine lv_iconst (pc := 32) (v := -1) hx hb dX5_lineNamed_32 (by decide) ?_
  cases hf
  exact z_iret (pc := 33) C0 hI dX5_lineNamed_33
set_option maxHeartbeats 4000000 in
set_option maxRecDepth 100000 in
theorem kX5_seenNumber (l : Launch) (D : va_G) (ad : Nat → Nat) (cy : Nat → ClassId) (k : Nat) (a1 : Int32) (u : CX) (r : Int32) (u' : CX) (hf : fX5_seenNumber k a1 u = some (r, u')) : zCt l yX5_seenNumber wsX5_seenNumber ({ frames := 1, cells := 0, slots := 0, locals := 22 } : Room) D ad cy [.ref (ad 6), .int a1] (WX ad cy u) (some (.int r)) (WX ad cy u') := by
  refine zCt.of (cc := cX5_seenNumber) (maxL := 3) (ret := (some .int)) (own := RX5) (by decide) rfl rfl ?_
  intro p e s m below meth c A C0 hI
  obtain ⟨hx, hb, hml, hown, hts, hr, hlk⟩ := id C0
  refine z_entry (Nat.le_of_ble_eq_true rfl) (fun ls hl => ?_)
  have hl : lv_has ls 3 [(0, .ref (ad 6)), (1, .int a1)] := hl
  unfold fX5_seenNumber at hf
  refine lv_aload_n (pc := 0) hx hb dX5_seenNumber_0 rfl (lv_at hl 0 rfl) ?_
  refine z_get (pc := 1) (index := 25) hx hb hts iwX5_seenNumber_5 hown hI (xl_6 ad cy u) rfl 0 (by decide) (by decide +kernel) rfl rfl dX5_seenNumber_1 ?_
  refine z_get (pc := 4) (index := 41) hx hb hts iwX5_seenNumber_7 hown hI (xl_4 ad cy u) rfl 2 (by decide) (by decide +kernel) rfl rfl dX5_seenNumber_4 ?_
  refine lv_iconst (pc := 7) (v := 3) hx hb dX5_seenNumber_7 (by decide) ?_
  refine z_icmp_eq (pc := 8) (tgt := 18) hx hb dX5_seenNumber_8 (by decide) hf (fun hf => ?_) (fun hf => ?_)
  · refine lv_aload_n (pc := 18) hx hb dX5_seenNumber_18 rfl (lv_at hl 0 rfl) ?_
    refine z_get (pc := 19) (index := 25) hx hb hts iwX5_seenNumber_5 hown hI (xl_6 ad cy u) rfl 0 (by decide) (by decide +kernel) rfl rfl dX5_seenNumber_19 ?_
    obtain ⟨q2, hc1, hf⟩ := zbind hf
    refine zcallVi (pc := 22) (As := []) (rest := []) ⟨hx, hb, hml, hown, hts⟩ (kX7_number l D ad cy k u q2 hc1) (cwV 0 hts gX5_seenNumber_X7_number rfl rfl rfl (by decide +kernel) ⟨Nat.le_of_ble_eq_true rfl, Nat.le_of_ble_eq_true rfl⟩) hI rfl (xl_4 ad cy u) rfl hl.1 rfl (Nat.le_of_ble_eq_true rfl) dX5_seenNumber_22 (Nat.zero_le _) (Nat.zero_le _) (fun H locs hI => ?_)
    refine lv_istore_n (pc := 25) (lv' := [(2, .int q2), (0, .ref (ad 6)), (1, .int a1)]) hx hb dX5_seenNumber_25 rfl hl (by decide) rfl (fun ls hl => ?_)
    refine lv_iload_n (pc := 26) hx hb dX5_seenNumber_26 rfl (lv_at hl 0 rfl) ?_
    refine z_gstLEAST (pc := 27) (index := 109) hx hb hts hown hI (by decide +kernel) dX5_seenNumber_27 ?_
    refine lv_iload_n (pc := 30) hx hb dX5_seenNumber_30 rfl (lv_at hl 2 rfl) ?_
    refine z_sald100 (pc := 31) hx hb hI dX5_seenNumber_31 hf (fun v3 hf => ?_)
    refine z_icmp_lt (pc := 32) (tgt := 44) hx hb dX5_seenNumber_32 (by decide) hf (fun hf => ?_) (fun hf => ?_)
    · refine lv_aload_n (pc := 44) hx hb dX5_seenNumber_44 rfl (lv_at hl 1 rfl) ?_
      refine lv_iconst (pc := 45) (v := 3) hx hb dX5_seenNumber_45 (by decide) ?_
      obtain ⟨q5, hc4, hf⟩ := zbind hf
      refine zcallVv (pc := 46) (As := [.int (3 : Int32)]) (rest := []) ⟨hx, hb, hml, hown, hts⟩ (kX5_fail l D ad cy (3 : Int32) u q5 hc4) (cwV 1 hts gX5_seenNumber_X5_fail rfl rfl rfl (by decide +kernel) ⟨Nat.le_of_ble_eq_true rfl, Nat.le_of_ble_eq_true rfl⟩) hI rfl (xl_6 ad cy u) rfl hl.1 rfl (Nat.le_of_ble_eq_true rfl) dX5_seenNumber_46 (Nat.zero_le _) (Nat.zero_le _) (fun H locs hI => ?_)
      refine lv_iload_n (pc := 49) hx hb dX5_seenNumber_49 rfl (lv_at hl 0 rfl) ?_
      cases hf
      exact z_iret (pc := 50) C0 hI dX5_seenNumber_50
    refine lv_iload_n (pc := 35) hx hb dX5_seenNumber_35 rfl (lv_at hl 0 rfl) ?_
    refine z_gstMOST (pc := 36) (index := 112) hx hb hts hown hI (by decide +kernel) dX5_seenNumber_36 ?_
    refine lv_iload_n (pc := 39) hx hb dX5_seenNumber_39 rfl (lv_at hl 2 rfl) ?_
    refine z_sald101 (pc := 40) hx hb hI dX5_seenNumber_40 hf (fun v6 hf => ?_)
    refine z_icmp_le (pc := 41) (tgt := 49) hx hb dX5_seenNumber_41 (by decide) hf (fun hf => ?_) (fun hf => ?_)
    · refine lv_iload_n (pc := 49) hx hb dX5_seenNumber_49 rfl (lv_at hl 0 rfl) ?_
      cases hf
      exact z_iret (pc := 50) C0 hI dX5_seenNumber_50
    refine lv_aload_n (pc := 44) hx hb dX5_seenNumber_44 rfl (lv_at hl 1 rfl) ?_
    refine lv_iconst (pc := 45) (v := 3) hx hb dX5_seenNumber_45 (by decide) ?_
    obtain ⟨q8, hc7, hf⟩ := zbind hf
    refine zcallVv (pc := 46) (As := [.int (3 : Int32)]) (rest := []) ⟨hx, hb, hml, hown, hts⟩ (kX5_fail l D ad cy (3 : Int32) u q8 hc7) (cwV 1 hts gX5_seenNumber_X5_fail rfl rfl rfl (by decide +kernel) ⟨Nat.le_of_ble_eq_true rfl, Nat.le_of_ble_eq_true rfl⟩) hI rfl (xl_6 ad cy u) rfl hl.1 rfl (Nat.le_of_ble_eq_true rfl) dX5_seenNumber_46 (Nat.zero_le _) (Nat.zero_le _) (fun H locs hI => ?_)
    refine lv_iload_n (pc := 49) hx hb dX5_seenNumber_49 rfl (lv_at hl 0 rfl) ?_
    cases hf
    exact z_iret (pc := 50) C0 hI dX5_seenNumber_50
  refine lv_aload_n (pc := 11) hx hb dX5_seenNumber_11 rfl (lv_at hl 0 rfl) ?_
  refine lv_iconst (pc := 12) (v := 2) hx hb dX5_seenNumber_12 (by decide) ?_
  obtain ⟨q10, hc9, hf⟩ := zbind hf
  refine zcallVv (pc := 13) (As := [.int (2 : Int32)]) (rest := []) ⟨hx, hb, hml, hown, hts⟩ (kX5_fail l D ad cy (2 : Int32) u q10 hc9) (cwV 1 hts gX5_seenNumber_X5_fail rfl rfl rfl (by decide +kernel) ⟨Nat.le_of_ble_eq_true rfl, Nat.le_of_ble_eq_true rfl⟩) hI rfl (xl_6 ad cy u) rfl hl.1 rfl (Nat.le_of_ble_eq_true rfl) dX5_seenNumber_13 (Nat.zero_le _) (Nat.zero_le _) (fun H locs hI => ?_)
  refine lv_iconst (pc := 16) (v := 0) hx hb dX5_seenNumber_16 (by decide) ?_
  cases hf
  exact z_iret (pc := 17) C0 hI dX5_seenNumber_17
set_option maxHeartbeats 4000000 in
set_option maxRecDepth 100000 in
theorem kX5_readClose (l : Launch) (D : va_G) (ad : Nat → Nat) (cy : Nat → ClassId) (k : Nat) (u : CX) (u' : CX) (hf : fX5_readClose k u = some u') : zCt l yX5_readClose wsX5_readClose ({ frames := 3, cells := 0, slots := 0, locals := 62 } : Room) D ad cy [.ref (ad 6)] (WX ad cy u) none (WX ad cy u') := by
  refine zCt.of (cc := cX5_readClose) (maxL := 1) (ret := none) (own := RX5) (by decide) rfl rfl ?_
  intro p e s m below meth c A C0 hI
  obtain ⟨hx, hb, hml, hown, hts, hr, hlk⟩ := id C0
  refine z_entry (Nat.le_of_ble_eq_true rfl) (fun ls hl => ?_)
  have hl : lv_has ls 1 [(0, .ref (ad 6))] := hl
  unfold fX5_readClose at hf
  refine lv_aload_n (pc := 0) hx hb dX5_readClose_0 rfl (lv_at hl 0 rfl) ?_
  refine z_get (pc := 1) (index := 37) hx hb hts iwX5_readClose_5 hown hI (xl_6 ad cy u) rfl 4 (by decide) (by decide +kernel) rfl rfl dX5_readClose_1 ?_
  refine z_if_eq (pc := 4) (tgt := 8) hx hb dX5_readClose_4 (by decide) hf (fun hf => ?_) (fun hf => ?_)
  · refine lv_aload_n (pc := 8) hx hb dX5_readClose_8 rfl (lv_at hl 0 rfl) ?_
    refine z_get (pc := 9) (index := 25) hx hb hts iwX5_readClose_5 hown hI (xl_6 ad cy u) rfl 0 (by decide) (by decide +kernel) rfl rfl dX5_readClose_9 ?_
    refine z_get (pc := 12) (index := 41) hx hb hts iwX5_readClose_7 hown hI (xl_4 ad cy u) rfl 2 (by decide) (by decide +kernel) rfl rfl dX5_readClose_12 ?_
    refine lv_iconst (pc := 15) (v := 4) hx hb dX5_readClose_15 (by decide) ?_
    refine z_icmp_eq (pc := 16) (tgt := 25) hx hb dX5_readClose_16 (by decide) hf (fun hf => ?_) (fun hf => ?_)
    · refine lv_aload_n (pc := 25) hx hb dX5_readClose_25 rfl (lv_at hl 0 rfl) ?_
      refine lv_dup (pc := 26) hx hb dX5_readClose_26 rfl ?_
      refine z_get (pc := 27) (index := 53) hx hb hts iwX5_readClose_5 hown hI (xl_6 ad cy u) rfl 6 (by decide) (by decide +kernel) rfl rfl dX5_readClose_27 ?_
      refine lv_iconst (pc := 30) (v := 1) hx hb dX5_readClose_30 (by decide) ?_
      refine lv_iadd (pc := 31) hx hb dX5_readClose_31 ?_
      refine z_put (wf := WX ad cy) (pc := 32) (index := 53) hx hb hts iwX5_readClose_5 tyX5 tyX5_ok nmX5 hown hI (xl_6 ad cy u) rfl 6 (by decide) (by decide +kernel) rfl rfl rfl rfl (Nat.le_of_ble_eq_true rfl) dX5_readClose_32 (xw_rlines ad cy u ((xg_rlines u) + (1 : Int32))) hf (fun u1 H locs hI hf => ?_)
      refine lv_aload_n (pc := 35) hx hb dX5_readClose_35 rfl (lv_at hl 0 rfl) ?_
      obtain ⟨q3, hc2, hf⟩ := zbind hf
      refine zcallVv (pc := 36) (As := []) (rest := []) ⟨hx, hb, hml, hown, hts⟩ (kX5_advance l D ad cy k u1 q3 hc2) (cwV 0 hts gX5_readClose_X5_advance rfl rfl rfl (by decide +kernel) ⟨Nat.le_of_ble_eq_true rfl, Nat.le_of_ble_eq_true rfl⟩) hI rfl (xl_6 ad cy u1) rfl hl.1 rfl (Nat.le_of_ble_eq_true rfl) dX5_readClose_36 (Nat.zero_le _) (Nat.zero_le _) (fun H locs hI => ?_)
      cases hf
      exact z_vret (pc := 39) C0 hI dX5_readClose_39
    refine lv_aload_n (pc := 19) hx hb dX5_readClose_19 rfl (lv_at hl 0 rfl) ?_
    refine lv_iconst (pc := 20) (v := 2) hx hb dX5_readClose_20 (by decide) ?_
    obtain ⟨q5, hc4, hf⟩ := zbind hf
    refine zcallVv (pc := 21) (As := [.int (2 : Int32)]) (rest := []) ⟨hx, hb, hml, hown, hts⟩ (kX5_fail l D ad cy (2 : Int32) u q5 hc4) (cwV 1 hts gX5_readClose_X5_fail rfl rfl rfl (by decide +kernel) ⟨Nat.le_of_ble_eq_true rfl, Nat.le_of_ble_eq_true rfl⟩) hI rfl (xl_6 ad cy u) rfl hl.1 rfl (Nat.le_of_ble_eq_true rfl) dX5_readClose_21 (Nat.zero_le _) (Nat.zero_le _) (fun H locs hI => ?_)
    cases hf
    exact z_vret (pc := 24) C0 hI dX5_readClose_24
  cases hf
  exact z_vret (pc := 7) C0 hI dX5_readClose_7
set_option maxHeartbeats 4000000 in
set_option maxRecDepth 100000 in
theorem lX5_readHits_4 (C0 : zFix p m c cX5_readHits 3 s args wsX5_readHits RX5 meth none) {k : Nat} {a : Int32 × Int32 × CX} {b : CX} (hit : ziter (bX5_readHits_4 k) k a = some b) (hx9 : (fun (b : CX) => ∀ (H : Heap) (locs : List Loc) (ls : Array Slot), zIn D ad cy (WX ad cy b) A s H locs → lv_has ls 3 [] → W p l e ({ frames := 3, cells := 0, slots := 0, locals := 62 } : Room) s m args below meth c H locs 0 0 Q (F0 m 66 ls [])) b) : (fun (a : Int32 × Int32 × CX) => ∀ (H : Heap) (locs : List Loc) (ls : Array Slot), zIn D ad cy (WX ad cy a.2.2) A s H locs → lv_has ls 3 [(0, .ref (ad 6)), (1, .int a.1), (2, .int a.2.1)] → W p l e ({ frames := 3, cells := 0, slots := 0, locals := 62 } : Room) s m args below meth c H locs 0 0 Q (F0 m 4 ls [])) a := by
  obtain ⟨hx, hb, hml, hown, hts, hr, hlk⟩ := id C0
  refine zloop (Wh := (fun (a : Int32 × Int32 × CX) => ∀ (H : Heap) (locs : List Loc) (ls : Array Slot), zIn D ad cy (WX ad cy a.2.2) A s H locs → lv_has ls 3 [(0, .ref (ad 6)), (1, .int a.1), (2, .int a.2.1)] → W p l e ({ frames := 3, cells := 0, slots := 0, locals := 62 } : Room) s m args below meth c H locs 0 0 Q (F0 m 4 ls []))) (Wx := (fun (b : CX) => ∀ (H : Heap) (locs : List Loc) (ls : Array Slot), zIn D ad cy (WX ad cy b) A s H locs → lv_has ls 3 [] → W p l e ({ frames := 3, cells := 0, slots := 0, locals := 62 } : Room) s m args below meth c H locs 0 0 Q (F0 m 66 ls []))) ?_ _ a b hit hx9
  intro a x hf hL hX H locs ls hI hl
  unfold bX5_readHits_4 at hf
  refine lv_iload_n (pc := 4) hx hb dX5_readHits_4 rfl (lv_at hl 2 rfl) ?_
  refine lv_iconst (pc := 5) (v := 3) hx hb dX5_readHits_5 (by decide) ?_
  refine z_icmp_gt (pc := 6) (tgt := 66) hx hb dX5_readHits_6 (by decide) hf (fun hf => ?_) (fun hf => ?_)
  · exact (hX _ (Option.some.inj hf).symm) _ _ _ hI (lv_sub hl [] rfl)
  refine lv_aload_n (pc := 9) hx hb dX5_readHits_9 rfl (lv_at hl 0 rfl) ?_
  refine z_get (pc := 10) (index := 37) hx hb hts iwX5_readHits_5 hown hI (xl_6 ad cy a.2.2) rfl 4 (by decide) (by decide +kernel) rfl rfl dX5_readHits_10 ?_
  refine z_if_ne (pc := 13) (tgt := 66) hx hb dX5_readHits_13 (by decide) hf (fun hf => ?_) (fun hf => ?_)
  · exact (hX _ (Option.some.inj hf).symm) _ _ _ hI (lv_sub hl [] rfl)
  refine lv_aload_n (pc := 16) hx hb dX5_readHits_16 rfl (lv_at hl 0 rfl) ?_
  refine z_get (pc := 17) (index := 12) hx hb hts iwX5_readHits_5 hown hI (xl_6 ad cy a.2.2) rfl 1 (by decide) (by decide +kernel) rfl rfl dX5_readHits_17 ?_
  refine z_get (pc := 20) (index := 85) hx hb hts iwX5_readHits_8 hown hI (xl_7 ad cy a.2.2) rfl 1 (by decide) (by decide +kernel) rfl rfl dX5_readHits_20 ?_
  refine lv_iload_n (pc := 23) hx hb dX5_readHits_23 rfl (lv_at hl 2 rfl) ?_
  refine lv_aload_n (pc := 24) hx hb dX5_readHits_24 rfl (lv_at hl 0 rfl) ?_
  refine lv_iconst (pc := 25) (v := 3) hx hb dX5_readHits_25 (by decide) ?_
  obtain ⟨q2, hc1, hf⟩ := zbind hf
  refine zcallVi (pc := 26) (As := [.int (3 : Int32)]) (rest := [.int a.2.1, .ref (ad 9)]) ⟨hx, hb, hml, hown, hts⟩ (kX5_seenNumber l D ad cy k (3 : Int32) a.2.2 q2.1 q2.2 hc1) (cwV 1 hts gX5_readHits_X5_seenNumber rfl rfl rfl (by decide +kernel) ⟨Nat.le_of_ble_eq_true rfl, Nat.le_of_ble_eq_true rfl⟩) hI rfl (xl_6 ad cy a.2.2) rfl hl.1 rfl (Nat.le_of_ble_eq_true rfl) dX5_readHits_26 (Nat.zero_le _) (Nat.zero_le _) (fun H locs hI => ?_)
  refine z_iast (wf := WX ad cy) (pc := 29) hx hb hI (xl_9 ad cy q2.2) 0 rfl dX5_readHits_29 (fun j => xw_Drules ad cy q2.2 (upd (xg_Drules q2.2) j q2.1)) hf (fun j3 u4 H locs hj3 hI hf => ?_)
  refine lv_iload_n (pc := 30) hx hb dX5_readHits_30 rfl (lv_at hl 1 rfl) ?_
  refine lv_aload_n (pc := 31) hx hb dX5_readHits_31 rfl (lv_at hl 0 rfl) ?_
  refine z_get (pc := 32) (index := 12) hx hb hts iwX5_readHits_5 hown hI (xl_6 ad cy u4) rfl 1 (by decide) (by decide +kernel) rfl rfl dX5_readHits_32 ?_
  refine z_get (pc := 35) (index := 85) hx hb hts iwX5_readHits_8 hown hI (xl_7 ad cy u4) rfl 1 (by decide) (by decide +kernel) rfl rfl dX5_readHits_35 ?_
  refine lv_iload_n (pc := 38) hx hb dX5_readHits_38 rfl (lv_at hl 2 rfl) ?_
  refine z_iald (pc := 39) hx hb hI (xl_9 ad cy u4) 0 rfl dX5_readHits_39 hf (fun v5 hf => ?_)
  refine lv_iadd (pc := 40) hx hb dX5_readHits_40 ?_
  refine z_bi hf (fun v6 hf => ?_)
  refine lv_istore_n (pc := 41) (lv' := [(1, .int v6), (0, .ref (ad 6)), (2, .int a.2.1)]) hx hb dX5_readHits_41 rfl hl (by decide) rfl (fun ls hl => ?_)
  refine lv_iload_n (pc := 42) hx hb dX5_readHits_42 rfl (lv_at hl 2 rfl) ?_
  refine lv_iconst (pc := 43) (v := 3) hx hb dX5_readHits_43 (by decide) ?_
  refine z_icmp_ne (pc := 44) (tgt := 56) hx hb dX5_readHits_44 (by decide) hf (fun hf => ?_) (fun hf => ?_)
  · refine lv_aload_n (pc := 56) hx hb dX5_readHits_56 rfl (lv_at hl 1 rfl) ?_
    obtain ⟨q8, hc7, hf⟩ := zbind hf
    refine zcallVv (pc := 57) (As := []) (rest := []) ⟨hx, hb, hml, hown, hts⟩ (kX5_advance l D ad cy k u4 q8 hc7) (cwV 0 hts gX5_readHits_X5_advance rfl rfl rfl (by decide +kernel) ⟨Nat.le_of_ble_eq_true rfl, Nat.le_of_ble_eq_true rfl⟩) hI rfl (xl_6 ad cy u4) rfl hl.1 rfl (Nat.le_of_ble_eq_true rfl) dX5_readHits_57 (Nat.zero_le _) (Nat.zero_le _) (fun H locs hI => ?_)
    refine lv_iinc (pc := 60) (v := (a.2.1 + 1)) (lv' := [(2, .int (a.2.1 + 1)), (1, .int v6), (0, .ref (ad 6))]) hx hb dX5_readHits_60 hl (k := 2) rfl rfl (by decide) rfl (fun ls hl => ?_)
    refine lv_goto (pc := 63) (tgt := 4) hx hb dX5_readHits_63 (by decide) ?_
    exact hL _ (Option.some.inj hf).symm _ _ _ hI (lv_sub hl [2, 1, 0] rfl)
  refine lv_iload_n (pc := 47) hx hb dX5_readHits_47 rfl (lv_at hl 0 rfl) ?_
  refine z_if_ne (pc := 48) (tgt := 56) hx hb dX5_readHits_48 (by decide) hf (fun hf => ?_) (fun hf => ?_)
  · refine lv_aload_n (pc := 56) hx hb dX5_readHits_56 rfl (lv_at hl 1 rfl) ?_
    obtain ⟨q10, hc9, hf⟩ := zbind hf
    refine zcallVv (pc := 57) (As := []) (rest := []) ⟨hx, hb, hml, hown, hts⟩ (kX5_advance l D ad cy k u4 q10 hc9) (cwV 0 hts gX5_readHits_X5_advance rfl rfl rfl (by decide +kernel) ⟨Nat.le_of_ble_eq_true rfl, Nat.le_of_ble_eq_true rfl⟩) hI rfl (xl_6 ad cy u4) rfl hl.1 rfl (Nat.le_of_ble_eq_true rfl) dX5_readHits_57 (Nat.zero_le _) (Nat.zero_le _) (fun H locs hI => ?_)
    refine lv_iinc (pc := 60) (v := (a.2.1 + 1)) (lv' := [(2, .int (a.2.1 + 1)), (1, .int v6), (0, .ref (ad 6))]) hx hb dX5_readHits_60 hl (k := 2) rfl rfl (by decide) rfl (fun ls hl => ?_)
    refine lv_goto (pc := 63) (tgt := 4) hx hb dX5_readHits_63 (by decide) ?_
    exact hL _ (Option.some.inj hf).symm _ _ _ hI (lv_sub hl [2, 1, 0] rfl)
  refine lv_aload_n (pc := 51) hx hb dX5_readHits_51 rfl (lv_at hl 1 rfl) ?_
  refine lv_iconst (pc := 52) (v := 3) hx hb dX5_readHits_52 (by decide) ?_
  obtain ⟨q12, hc11, hf⟩ := zbind hf
  refine zcallVv (pc := 53) (As := [.int (3 : Int32)]) (rest := []) ⟨hx, hb, hml, hown, hts⟩ (kX5_fail l D ad cy (3 : Int32) u4 q12 hc11) (cwV 1 hts gX5_readHits_X5_fail rfl rfl rfl (by decide +kernel) ⟨Nat.le_of_ble_eq_true rfl, Nat.le_of_ble_eq_true rfl⟩) hI rfl (xl_6 ad cy u4) rfl hl.1 rfl (Nat.le_of_ble_eq_true rfl) dX5_readHits_53 (Nat.zero_le _) (Nat.zero_le _) (fun H locs hI => ?_)
  refine lv_aload_n (pc := 56) hx hb dX5_readHits_56 rfl (lv_at hl 1 rfl) ?_
  obtain ⟨q14, hc13, hf⟩ := zbind hf
  refine zcallVv (pc := 57) (As := []) (rest := []) ⟨hx, hb, hml, hown, hts⟩ (kX5_advance l D ad cy k q12 q14 hc13) (cwV 0 hts gX5_readHits_X5_advance rfl rfl rfl (by decide +kernel) ⟨Nat.le_of_ble_eq_true rfl, Nat.le_of_ble_eq_true rfl⟩) hI rfl (xl_6 ad cy q12) rfl hl.1 rfl (Nat.le_of_ble_eq_true rfl) dX5_readHits_57 (Nat.zero_le _) (Nat.zero_le _) (fun H locs hI => ?_)
  refine lv_iinc (pc := 60) (v := (a.2.1 + 1)) (lv' := [(2, .int (a.2.1 + 1)), (1, .int v6), (0, .ref (ad 6))]) hx hb dX5_readHits_60 hl (k := 2) rfl rfl (by decide) rfl (fun ls hl => ?_)
  refine lv_goto (pc := 63) (tgt := 4) hx hb dX5_readHits_63 (by decide) ?_
  exact hL _ (Option.some.inj hf).symm _ _ _ hI (lv_sub hl [2, 1, 0] rfl)
set_option maxHeartbeats 4000000 in
set_option maxRecDepth 100000 in
theorem kX5_readHits (l : Launch) (D : va_G) (ad : Nat → Nat) (cy : Nat → ClassId) (k : Nat) (u : CX) (u' : CX) (hf : fX5_readHits k u = some u') : zCt l yX5_readHits wsX5_readHits ({ frames := 3, cells := 0, slots := 0, locals := 62 } : Room) D ad cy [.ref (ad 6)] (WX ad cy u) none (WX ad cy u') := by
  refine zCt.of (cc := cX5_readHits) (maxL := 3) (ret := none) (own := RX5) (by decide) rfl rfl ?_
  intro p e s m below meth c A C0 hI
  obtain ⟨hx, hb, hml, hown, hts, hr, hlk⟩ := id C0
  refine z_entry (Nat.le_of_ble_eq_true rfl) (fun ls hl => ?_)
  have hl : lv_has ls 3 [(0, .ref (ad 6))] := hl
  unfold fX5_readHits at hf
  refine lv_iconst (pc := 0) (v := 0) hx hb dX5_readHits_0 (by decide) ?_
  refine lv_istore_n (pc := 1) (lv' := [(1, .int (0 : Int32)), (0, .ref (ad 6))]) hx hb dX5_readHits_1 rfl hl (by decide) rfl (fun ls hl => ?_)
  refine lv_iconst (pc := 2) (v := 0) hx hb dX5_readHits_2 (by decide) ?_
  refine lv_istore_n (pc := 3) (lv' := [(2, .int (0 : Int32)), (1, .int (0 : Int32)), (0, .ref (ad 6))]) hx hb dX5_readHits_3 rfl hl (by decide) rfl (fun ls hl => ?_)
  obtain ⟨b15, hb16, hf⟩ := zbind hf
  refine lX5_readHits_4 C0 hb16 ?_ _ _ _ hI (lv_sub hl [2, 1, 0] rfl)
  intro H locs ls hI hl
  cases hf
  exact z_vret (pc := 66) C0 hI dX5_readHits_66
set_option maxHeartbeats 4000000 in
set_option maxRecDepth 100000 in
theorem kX5_readPartLine (l : Launch) (D : va_G) (ad : Nat → Nat) (cy : Nat → ClassId) (k : Nat) (a1 : Int32) (u : CX) (u' : CX) (hf : fX5_readPartLine k a1 u = some u') : zCt l yX5_readPartLine wsX5_readPartLine ({ frames := 3, cells := 0, slots := 0, locals := 62 } : Room) D ad cy [.ref (ad 6), .int a1] (WX ad cy u) none (WX ad cy u') := by
  refine zCt.of (cc := cX5_readPartLine) (maxL := 4) (ret := none) (own := RX5) (by decide) rfl rfl ?_
  intro p e s m below meth c A C0 hI
  obtain ⟨hx, hb, hml, hown, hts, hr, hlk⟩ := id C0
  refine z_entry (Nat.le_of_ble_eq_true rfl) (fun ls hl => ?_)
  have hl : lv_has ls 4 [(0, .ref (ad 6)), (1, .int a1)] := hl
  unfold fX5_readPartLine at hf
  refine lv_aload_n (pc := 0) hx hb dX5_readPartLine_0 rfl (lv_at hl 0 rfl) ?_
  refine z_get (pc := 1) (index := 37) hx hb hts iwX5_readPartLine_5 hown hI (xl_6 ad cy u) rfl 4 (by decide) (by decide +kernel) rfl rfl dX5_readPartLine_1 ?_
  refine z_if_eq (pc := 4) (tgt := 8) hx hb dX5_readPartLine_4 (by decide) hf (fun hf => ?_) (fun hf => ?_)
  · refine lv_aload_n (pc := 8) hx hb dX5_readPartLine_8 rfl (lv_at hl 0 rfl) ?_
    refine z_get (pc := 9) (index := 25) hx hb hts iwX5_readPartLine_5 hown hI (xl_6 ad cy u) rfl 0 (by decide) (by decide +kernel) rfl rfl dX5_readPartLine_9 ?_
    obtain ⟨q2, hc1, hf⟩ := zbind hf
    refine zcallVi (pc := 12) (As := []) (rest := []) ⟨hx, hb, hml, hown, hts⟩ (kX7_letter l D ad cy u q2 hc1) (cwV 0 hts gX5_readPartLine_X7_letter rfl rfl rfl (by decide +kernel) ⟨Nat.le_of_ble_eq_true rfl, Nat.le_of_ble_eq_true rfl⟩) hI rfl (xl_4 ad cy u) rfl hl.1 rfl (Nat.le_of_ble_eq_true rfl) dX5_readPartLine_12 (Nat.zero_le _) (Nat.zero_le _) (fun H locs hI => ?_)
    refine lv_istore_n (pc := 15) (lv' := [(2, .int q2), (0, .ref (ad 6)), (1, .int a1)]) hx hb dX5_readPartLine_15 rfl hl (by decide) rfl (fun ls hl => ?_)
    refine lv_iload_n (pc := 16) hx hb dX5_readPartLine_16 rfl (lv_at hl 0 rfl) ?_
    obtain ⟨q4, hc3, hf⟩ := zbind hf
    refine zcallSNi (pc := 17) (As := [.int q2]) (rest := []) ⟨hx, hb, hml, hown, hts⟩ (kX9_isPart l q2 q4 hc3) ⟨va_cnB 1 hts gX5_readPartLine_X9_isPart_n99 rfl rfl rfl (hI.2.2.2.2.2.1 _ (List.mem_of_getElem? (i := 7) rfl)) (hts (.initialized RX9) (by decide +kernel)) (by decide +kernel) ⟨Nat.le_of_ble_eq_true rfl, Nat.le_of_ble_eq_true rfl⟩, hts (.static yX9_isPart) (by decide +kernel), trivial⟩ rfl hl.1 rfl (Nat.le_of_ble_eq_true rfl) dX5_readPartLine_17 (Nat.zero_le _) (Nat.zero_le _) ?_
    refine z_if_ne (pc := 20) (tgt := 29) hx hb dX5_readPartLine_20 (by decide) hf (fun hf => ?_) (fun hf => ?_)
    · refine lv_iconst (pc := 29) (v := 4) hx hb dX5_readPartLine_29 (by decide) ?_
      refine lv_iload_n (pc := 30) hx hb dX5_readPartLine_30 rfl (lv_at hl 2 rfl) ?_
      refine lv_imul (pc := 31) hx hb dX5_readPartLine_31 ?_
      refine lv_iload_n (pc := 32) hx hb dX5_readPartLine_32 rfl (lv_at hl 0 rfl) ?_
      refine lv_iadd (pc := 33) hx hb dX5_readPartLine_33 ?_
      refine z_bi hf (fun v5 hf => ?_)
      refine lv_istore_n (pc := 34) (lv' := [(3, .int v5), (2, .int q2), (0, .ref (ad 6)), (1, .int a1)]) hx hb dX5_readPartLine_34 rfl hl (by decide) rfl (fun ls hl => ?_)
      refine lv_aload_n (pc := 35) hx hb dX5_readPartLine_35 rfl (lv_at hl 2 rfl) ?_
      refine z_get (pc := 36) (index := 18) hx hb hts iwX5_readPartLine_5 hown hI (xl_6 ad cy u) rfl 2 (by decide) (by decide +kernel) rfl rfl dX5_readPartLine_36 ?_
      refine lv_iload_n (pc := 39) hx hb dX5_readPartLine_39 rfl (lv_at hl 0 rfl) ?_
      refine z_zald (pc := 40) hx hb hI (xl_10 ad cy u) 3 rfl dX5_readPartLine_40 hf (fun v6 hf => ?_)
      refine z_if_eq (pc := 41) (tgt := 50) hx hb dX5_readPartLine_41 (by decide) hf (fun hf => ?_) (fun hf => ?_)
      · refine lv_aload_n (pc := 50) hx hb dX5_readPartLine_50 rfl (lv_at hl 2 rfl) ?_
        refine z_get (pc := 51) (index := 18) hx hb hts iwX5_readPartLine_5 hown hI (xl_6 ad cy u) rfl 2 (by decide) (by decide +kernel) rfl rfl dX5_readPartLine_51 ?_
        refine lv_iload_n (pc := 54) hx hb dX5_readPartLine_54 rfl (lv_at hl 0 rfl) ?_
        refine lv_iconst (pc := 55) (v := 1) hx hb dX5_readPartLine_55 (by decide) ?_
        refine z_zast (wf := WX ad cy) (pc := 56) hx hb hI (xl_10 ad cy u) 3 rfl dX5_readPartLine_56 (fun j => xw_partTold ad cy u (upd (xg_partTold u) j (vp_nar .boolean (1 : Int32)))) hf (fun j7 u8 H locs hj7 hI hf => ?_)
        refine lv_aload_n (pc := 57) hx hb dX5_readPartLine_57 rfl (lv_at hl 2 rfl) ?_
        obtain ⟨q10, hc9, hf⟩ := zbind hf
        refine zcallVv (pc := 58) (As := []) (rest := []) ⟨hx, hb, hml, hown, hts⟩ (kX5_advance l D ad cy k u8 q10 hc9) (cwV 0 hts gX5_readPartLine_X5_advance rfl rfl rfl (by decide +kernel) ⟨Nat.le_of_ble_eq_true rfl, Nat.le_of_ble_eq_true rfl⟩) hI rfl (xl_6 ad cy u8) rfl hl.1 rfl (Nat.le_of_ble_eq_true rfl) dX5_readPartLine_58 (Nat.zero_le _) (Nat.zero_le _) (fun H locs hI => ?_)
        refine lv_aload_n (pc := 61) hx hb dX5_readPartLine_61 rfl (lv_at hl 2 rfl) ?_
        refine z_get (pc := 62) (index := 12) hx hb hts iwX5_readPartLine_5 hown hI (xl_6 ad cy q10) rfl 1 (by decide) (by decide +kernel) rfl rfl dX5_readPartLine_62 ?_
        refine z_get (pc := 65) (index := 103) hx hb hts iwX5_readPartLine_8 hown hI (xl_7 ad cy q10) rfl 0 (by decide) (by decide +kernel) rfl rfl dX5_readPartLine_65 ?_
        refine lv_iload_n (pc := 68) hx hb dX5_readPartLine_68 rfl (lv_at hl 0 rfl) ?_
        refine lv_aload_n (pc := 69) hx hb dX5_readPartLine_69 rfl (lv_at hl 2 rfl) ?_
        refine lv_iload_n (pc := 70) hx hb dX5_readPartLine_70 rfl (lv_at hl 3 rfl) ?_
        obtain ⟨q12, hc11, hf⟩ := zbind hf
        refine zcallVi (pc := 71) (As := [.int a1]) (rest := [.int v5, .ref (ad 8)]) ⟨hx, hb, hml, hown, hts⟩ (kX5_seenNumber l D ad cy k a1 q10 q12.1 q12.2 hc11) (cwV 1 hts gX5_readPartLine_X5_seenNumber rfl rfl rfl (by decide +kernel) ⟨Nat.le_of_ble_eq_true rfl, Nat.le_of_ble_eq_true rfl⟩) hI rfl (xl_6 ad cy q10) rfl hl.1 rfl (Nat.le_of_ble_eq_true rfl) dX5_readPartLine_71 (Nat.zero_le _) (Nat.zero_le _) (fun H locs hI => ?_)
        refine z_iast (wf := WX ad cy) (pc := 74) hx hb hI (xl_8 ad cy q12.2) 0 rfl dX5_readPartLine_74 (fun j => xw_Dparts ad cy q12.2 (upd (xg_Dparts q12.2) j q12.1)) hf (fun j13 u14 H locs hj13 hI hf => ?_)
        refine lv_aload_n (pc := 75) hx hb dX5_readPartLine_75 rfl (lv_at hl 2 rfl) ?_
        obtain ⟨q16, hc15, hf⟩ := zbind hf
        refine zcallVv (pc := 76) (As := []) (rest := []) ⟨hx, hb, hml, hown, hts⟩ (kX5_advance l D ad cy k u14 q16 hc15) (cwV 0 hts gX5_readPartLine_X5_advance rfl rfl rfl (by decide +kernel) ⟨Nat.le_of_ble_eq_true rfl, Nat.le_of_ble_eq_true rfl⟩) hI rfl (xl_6 ad cy u14) rfl hl.1 rfl (Nat.le_of_ble_eq_true rfl) dX5_readPartLine_76 (Nat.zero_le _) (Nat.zero_le _) (fun H locs hI => ?_)
        cases hf
        exact z_vret (pc := 79) C0 hI dX5_readPartLine_79
      refine lv_aload_n (pc := 44) hx hb dX5_readPartLine_44 rfl (lv_at hl 2 rfl) ?_
      refine lv_iconst (pc := 45) (v := 4) hx hb dX5_readPartLine_45 (by decide) ?_
      obtain ⟨q18, hc17, hf⟩ := zbind hf
      refine zcallVv (pc := 46) (As := [.int (4 : Int32)]) (rest := []) ⟨hx, hb, hml, hown, hts⟩ (kX5_fail l D ad cy (4 : Int32) u q18 hc17) (cwV 1 hts gX5_readPartLine_X5_fail rfl rfl rfl (by decide +kernel) ⟨Nat.le_of_ble_eq_true rfl, Nat.le_of_ble_eq_true rfl⟩) hI rfl (xl_6 ad cy u) rfl hl.1 rfl (Nat.le_of_ble_eq_true rfl) dX5_readPartLine_46 (Nat.zero_le _) (Nat.zero_le _) (fun H locs hI => ?_)
      cases hf
      exact z_vret (pc := 49) C0 hI dX5_readPartLine_49
    refine lv_aload_n (pc := 23) hx hb dX5_readPartLine_23 rfl (lv_at hl 1 rfl) ?_
    refine lv_iconst (pc := 24) (v := 2) hx hb dX5_readPartLine_24 (by decide) ?_
    obtain ⟨q20, hc19, hf⟩ := zbind hf
    refine zcallVv (pc := 25) (As := [.int (2 : Int32)]) (rest := []) ⟨hx, hb, hml, hown, hts⟩ (kX5_fail l D ad cy (2 : Int32) u q20 hc19) (cwV 1 hts gX5_readPartLine_X5_fail rfl rfl rfl (by decide +kernel) ⟨Nat.le_of_ble_eq_true rfl, Nat.le_of_ble_eq_true rfl⟩) hI rfl (xl_6 ad cy u) rfl hl.1 rfl (Nat.le_of_ble_eq_true rfl) dX5_readPartLine_25 (Nat.zero_le _) (Nat.zero_le _) (fun H locs hI => ?_)
    cases hf
    exact z_vret (pc := 28) C0 hI dX5_readPartLine_28
  cases hf
  exact z_vret (pc := 7) C0 hI dX5_readPartLine_7
set_option maxHeartbeats 4000000 in
set_option maxRecDepth 100000 in
theorem qX5_readLine_j35 (C0 : zFix p m c cX5_readLine 2 s args wsX5_readLine RX5 meth none) {k : Nat} {p1 : Int32} {u : CX} {u' : CX} (hf : jX5_readLine_j35 k p1 u = some u') {H : Heap} {locs : List Loc} {ls : Array Slot} (hI : zIn D ad cy (WX ad cy u) A s H locs) (hl : lv_has ls 2 [(0, .ref (ad 6)), (1, .int p1)]) : W p l e ({ frames := 6, cells := 0, slots := 0, locals := 130 } : Room) s m args below meth c H locs 0 0 (zMQ D cy below args s A none (WX ad cy u')) (F0 m 35 ls []) := by
  obtain ⟨hx, hb, hml, hown, hts, hr, hlk⟩ := id C0
  unfold jX5_readLine_j35 at hf
  refine lv_aload_n (pc := 35) hx hb dX5_readLine_35 rfl (lv_at hl 0 rfl) ?_
  refine z_get (pc := 36) (index := 22) hx hb hts iwX5_readLine_5 hown hI (xl_6 ad cy u) rfl 3 (by decide) (by decide +kernel) rfl rfl dX5_readLine_36 ?_
  refine lv_iload_n (pc := 39) hx hb dX5_readLine_39 rfl (lv_at hl 1 rfl) ?_
  refine lv_iconst (pc := 40) (v := 1) hx hb dX5_readLine_40 (by decide) ?_
  refine z_zast (wf := WX ad cy) (pc := 41) hx hb hI (xl_11 ad cy u) 3 rfl dX5_readLine_41 (fun j => xw_lineTold ad cy u (upd (xg_lineTold u) j (vp_nar .boolean (1 : Int32)))) hf (fun j3 u4 H locs hj3 hI hf => ?_)
  refine lv_aload_n (pc := 42) hx hb dX5_readLine_42 rfl (lv_at hl 0 rfl) ?_
  obtain ⟨q6, hc5, hf⟩ := zbind hf
  refine zcallVv (pc := 43) (As := []) (rest := []) ⟨hx, hb, hml, hown, hts⟩ (kX5_advance l D ad cy k u4 q6 hc5) (cwV 0 hts gX5_readLine_X5_advance rfl rfl rfl (by decide +kernel) ⟨Nat.le_of_ble_eq_true rfl, Nat.le_of_ble_eq_true rfl⟩) hI rfl (xl_6 ad cy u4) rfl hl.1 rfl (Nat.le_of_ble_eq_true rfl) dX5_readLine_43 (Nat.zero_le _) (Nat.zero_le _) (fun H locs hI => ?_)
  refine lv_iload_n (pc := 46) hx hb dX5_readLine_46 rfl (lv_at hl 1 rfl) ?_
  refine lv_iconst (pc := 47) (v := 3) hx hb dX5_readLine_47 (by decide) ?_
  refine z_icmp_ge (pc := 48) (tgt := 59) hx hb dX5_readLine_48 (by decide) hf (fun hf => ?_) (fun hf => ?_)
  · refine lv_iload_n (pc := 59) hx hb dX5_readLine_59 rfl (lv_at hl 1 rfl) ?_
    refine lv_iconst (pc := 60) (v := 3) hx hb dX5_readLine_60 (by decide) ?_
    refine z_icmp_ne (pc := 61) (tgt := 71) hx hb dX5_readLine_61 (by decide) hf (fun hf => ?_) (fun hf => ?_)
    · refine lv_aload_n (pc := 71) hx hb dX5_readLine_71 rfl (lv_at hl 0 rfl) ?_
      refine z_get (pc := 72) (index := 12) hx hb hts iwX5_readLine_5 hown hI (xl_6 ad cy q6) rfl 1 (by decide) (by decide +kernel) rfl rfl dX5_readLine_72 ?_
      refine z_get (pc := 75) (index := 85) hx hb hts iwX5_readLine_8 hown hI (xl_7 ad cy q6) rfl 1 (by decide) (by decide +kernel) rfl rfl dX5_readLine_75 ?_
      refine lv_iload_n (pc := 78) hx hb dX5_readLine_78 rfl (lv_at hl 1 rfl) ?_
      refine lv_aload_n (pc := 79) hx hb dX5_readLine_79 rfl (lv_at hl 0 rfl) ?_
      refine lv_iload_n (pc := 80) hx hb dX5_readLine_80 rfl (lv_at hl 1 rfl) ?_
      obtain ⟨q8, hc7, hf⟩ := zbind hf
      refine zcallVi (pc := 81) (As := [.int p1]) (rest := [.int p1, .ref (ad 9)]) ⟨hx, hb, hml, hown, hts⟩ (kX5_seenNumber l D ad cy k p1 q6 q8.1 q8.2 hc7) (cwV 1 hts gX5_readLine_X5_seenNumber rfl rfl rfl (by decide +kernel) ⟨Nat.le_of_ble_eq_true rfl, Nat.le_of_ble_eq_true rfl⟩) hI rfl (xl_6 ad cy q6) rfl hl.1 rfl (Nat.le_of_ble_eq_true rfl) dX5_readLine_81 (Nat.zero_le _) (Nat.zero_le _) (fun H locs hI => ?_)
      refine z_iast (wf := WX ad cy) (pc := 84) hx hb hI (xl_9 ad cy q8.2) 0 rfl dX5_readLine_84 (fun j => xw_Drules ad cy q8.2 (upd (xg_Drules q8.2) j q8.1)) hf (fun j9 u10 H locs hj9 hI hf => ?_)
      refine lv_aload_n (pc := 85) hx hb dX5_readLine_85 rfl (lv_at hl 0 rfl) ?_
      obtain ⟨q12, hc11, hf⟩ := zbind hf
      refine zcallVv (pc := 86) (As := []) (rest := []) ⟨hx, hb, hml, hown, hts⟩ (kX5_advance l D ad cy k u10 q12 hc11) (cwV 0 hts gX5_readLine_X5_advance rfl rfl rfl (by decide +kernel) ⟨Nat.le_of_ble_eq_true rfl, Nat.le_of_ble_eq_true rfl⟩) hI rfl (xl_6 ad cy u10) rfl hl.1 rfl (Nat.le_of_ble_eq_true rfl) dX5_readLine_86 (Nat.zero_le _) (Nat.zero_le _) (fun H locs hI => ?_)
      refine lv_aload_n (pc := 89) hx hb dX5_readLine_89 rfl (lv_at hl 0 rfl) ?_
      obtain ⟨q14, hc13, hf⟩ := zbind hf
      refine zcallVv (pc := 90) (As := []) (rest := []) ⟨hx, hb, hml, hown, hts⟩ (kX5_readClose l D ad cy k q12 q14 hc13) (cwV 0 hts gX5_readLine_X5_readClose rfl rfl rfl (by decide +kernel) ⟨Nat.le_of_ble_eq_true rfl, Nat.le_of_ble_eq_true rfl⟩) hI rfl (xl_6 ad cy q12) rfl hl.1 rfl (Nat.le_of_ble_eq_true rfl) dX5_readLine_90 (Nat.zero_le _) (Nat.zero_le _) (fun H locs hI => ?_)
      cases hf
      exact z_vret (pc := 93) C0 hI dX5_readLine_93
    refine lv_aload_n (pc := 64) hx hb dX5_readLine_64 rfl (lv_at hl 0 rfl) ?_
    obtain ⟨q16, hc15, hf⟩ := zbind hf
    refine zcallVv (pc := 65) (As := []) (rest := []) ⟨hx, hb, hml, hown, hts⟩ (kX5_readHits l D ad cy k q6 q16 hc15) (cwV 0 hts gX5_readLine_X5_readHits rfl rfl rfl (by decide +kernel) ⟨Nat.le_of_ble_eq_true rfl, Nat.le_of_ble_eq_true rfl⟩) hI rfl (xl_6 ad cy q6) rfl hl.1 rfl (Nat.le_of_ble_eq_true rfl) dX5_readLine_65 (Nat.zero_le _) (Nat.zero_le _) (fun H locs hI => ?_)
    refine lv_goto (pc := 68) (tgt := 89) hx hb dX5_readLine_68 (by decide) ?_
    refine lv_aload_n (pc := 89) hx hb dX5_readLine_89 rfl (lv_at hl 0 rfl) ?_
    obtain ⟨q18, hc17, hf⟩ := zbind hf
    refine zcallVv (pc := 90) (As := []) (rest := []) ⟨hx, hb, hml, hown, hts⟩ (kX5_readClose l D ad cy k q16 q18 hc17) (cwV 0 hts gX5_readLine_X5_readClose rfl rfl rfl (by decide +kernel) ⟨Nat.le_of_ble_eq_true rfl, Nat.le_of_ble_eq_true rfl⟩) hI rfl (xl_6 ad cy q16) rfl hl.1 rfl (Nat.le_of_ble_eq_true rfl) dX5_readLine_90 (Nat.zero_le _) (Nat.zero_le _) (fun H locs hI => ?_)
    cases hf
    exact z_vret (pc := 93) C0 hI dX5_readLine_93
  refine lv_aload_n (pc := 51) hx hb dX5_readLine_51 rfl (lv_at hl 0 rfl) ?_
  refine lv_iload_n (pc := 52) hx hb dX5_readLine_52 rfl (lv_at hl 1 rfl) ?_
  obtain ⟨q20, hc19, hf⟩ := zbind hf
  refine zcallVv (pc := 53) (As := [.int p1]) (rest := []) ⟨hx, hb, hml, hown, hts⟩ (kX5_readPartLine l D ad cy k p1 q6 q20 hc19) (cwV 1 hts gX5_readLine_X5_readPartLine rfl rfl rfl (by decide +kernel) ⟨Nat.le_of_ble_eq_true rfl, Nat.le_of_ble_eq_true rfl⟩) hI rfl (xl_6 ad cy q6) rfl hl.1 rfl (Nat.le_of_ble_eq_true rfl) dX5_readLine_53 (Nat.zero_le _) (Nat.zero_le _) (fun H locs hI => ?_)
  refine lv_goto (pc := 56) (tgt := 89) hx hb dX5_readLine_56 (by decide) ?_
  refine lv_aload_n (pc := 89) hx hb dX5_readLine_89 rfl (lv_at hl 0 rfl) ?_
  obtain ⟨q22, hc21, hf⟩ := zbind hf
  refine zcallVv (pc := 90) (As := []) (rest := []) ⟨hx, hb, hml, hown, hts⟩ (kX5_readClose l D ad cy k q20 q22 hc21) (cwV 0 hts gX5_readLine_X5_readClose rfl rfl rfl (by decide +kernel) ⟨Nat.le_of_ble_eq_true rfl, Nat.le_of_ble_eq_true rfl⟩) hI rfl (xl_6 ad cy q20) rfl hl.1 rfl (Nat.le_of_ble_eq_true rfl) dX5_readLine_90 (Nat.zero_le _) (Nat.zero_le _) (fun H locs hI => ?_)
  cases hf
  exact z_vret (pc := 93) C0 hI dX5_readLine_93
set_option maxHeartbeats 4000000 in
set_option maxRecDepth 100000 in
theorem kX5_readLine (l : Launch) (D : va_G) (ad : Nat → Nat) (cy : Nat → ClassId) (k : Nat) (u : CX) (u' : CX) (hf : fX5_readLine k u = some u') : zCt l yX5_readLine wsX5_readLine ({ frames := 6, cells := 0, slots := 0, locals := 130 } : Room) D ad cy [.ref (ad 6)] (WX ad cy u) none (WX ad cy u') := by
  refine zCt.of (cc := cX5_readLine) (maxL := 2) (ret := none) (own := RX5) (by decide) rfl rfl ?_
  intro p e s m below meth c A C0 hI
  obtain ⟨hx, hb, hml, hown, hts, hr, hlk⟩ := id C0
  refine z_entry (Nat.le_of_ble_eq_true rfl) (fun ls hl => ?_)
  have hl : lv_has ls 2 [(0, .ref (ad 6))] := hl
  unfold fX5_readLine at hf
  refine lv_aload_n (pc := 0) hx hb dX5_readLine_0 rfl (lv_at hl 0 rfl) ?_
  obtain ⟨q2, hc1, hf⟩ := zbind hf
  refine zcallVi (pc := 1) (As := []) (rest := []) ⟨hx, hb, hml, hown, hts⟩ (kX5_lineNamed l D ad cy k u q2 hc1) (cwV 0 hts gX5_readLine_X5_lineNamed rfl rfl rfl (by decide +kernel) ⟨Nat.le_of_ble_eq_true rfl, Nat.le_of_ble_eq_true rfl⟩) hI rfl (xl_6 ad cy u) rfl hl.1 rfl (Nat.le_of_ble_eq_true rfl) dX5_readLine_1 (Nat.zero_le _) (Nat.zero_le _) (fun H locs hI => ?_)
  refine lv_istore_n (pc := 4) (lv' := [(1, .int q2), (0, .ref (ad 6))]) hx hb dX5_readLine_4 rfl hl (by decide) rfl (fun ls hl => ?_)
  refine lv_iload_n (pc := 5) hx hb dX5_readLine_5 rfl (lv_at hl 0 rfl) ?_
  refine z_if_ge (pc := 6) (tgt := 15) hx hb dX5_readLine_6 (by decide) hf (fun hf => ?_) (fun hf => ?_)
  · refine lv_iload_n (pc := 15) hx hb dX5_readLine_15 rfl (lv_at hl 0 rfl) ?_
    refine lv_iconst (pc := 16) (v := 3) hx hb dX5_readLine_16 (by decide) ?_
    refine z_icmp_lt (pc := 17) (tgt := 35) hx hb dX5_readLine_17 (by decide) hf (fun hf => ?_) (fun hf => ?_)
    · exact qX5_readLine_j35 C0 hf hI (lv_sub hl [1, 0] rfl)
    refine lv_aload_n (pc := 20) hx hb dX5_readLine_20 rfl (lv_at hl 1 rfl) ?_
    refine z_get (pc := 21) (index := 22) hx hb hts iwX5_readLine_5 hown hI (xl_6 ad cy u) rfl 3 (by decide) (by decide +kernel) rfl rfl dX5_readLine_21 ?_
    refine lv_iload_n (pc := 24) hx hb dX5_readLine_24 rfl (lv_at hl 0 rfl) ?_
    refine z_zald (pc := 25) hx hb hI (xl_11 ad cy u) 3 rfl dX5_readLine_25 hf (fun v23 hf => ?_)
    refine z_if_eq (pc := 26) (tgt := 35) hx hb dX5_readLine_26 (by decide) hf (fun hf => ?_) (fun hf => ?_)
    · exact qX5_readLine_j35 C0 hf hI (lv_sub hl [1, 0] rfl)
    refine lv_aload_n (pc := 29) hx hb dX5_readLine_29 rfl (lv_at hl 1 rfl) ?_
    refine lv_iconst (pc := 30) (v := 4) hx hb dX5_readLine_30 (by decide) ?_
    obtain ⟨q25, hc24, hf⟩ := zbind hf
    refine zcallVv (pc := 31) (As := [.int (4 : Int32)]) (rest := []) ⟨hx, hb, hml, hown, hts⟩ (kX5_fail l D ad cy (4 : Int32) u q25 hc24) (cwV 1 hts gX5_readLine_X5_fail rfl rfl rfl (by decide +kernel) ⟨Nat.le_of_ble_eq_true rfl, Nat.le_of_ble_eq_true rfl⟩) hI rfl (xl_6 ad cy u) rfl hl.1 rfl (Nat.le_of_ble_eq_true rfl) dX5_readLine_31 (Nat.zero_le _) (Nat.zero_le _) (fun H locs hI => ?_)
    cases hf
    exact z_vret (pc := 34) C0 hI dX5_readLine_34
  refine lv_aload_n (pc := 9) hx hb dX5_readLine_9 rfl (lv_at hl 1 rfl) ?_
  refine lv_iconst (pc := 10) (v := 2) hx hb dX5_readLine_10 (by decide) ?_
  obtain ⟨q27, hc26, hf⟩ := zbind hf
  refine zcallVv (pc := 11) (As := [.int (2 : Int32)]) (rest := []) ⟨hx, hb, hml, hown, hts⟩ (kX5_fail l D ad cy (2 : Int32) u q27 hc26) (cwV 1 hts gX5_readLine_X5_fail rfl rfl rfl (by decide +kernel) ⟨Nat.le_of_ble_eq_true rfl, Nat.le_of_ble_eq_true rfl⟩) hI rfl (xl_6 ad cy u) rfl hl.1 rfl (Nat.le_of_ble_eq_true rfl) dX5_readLine_11 (Nat.zero_le _) (Nat.zero_le _) (fun H locs hI => ?_)
  cases hf
  exact z_vret (pc := 14) C0 hI dX5_readLine_14
set_option maxHeartbeats 4000000 in
set_option maxRecDepth 100000 in
theorem lX5_readTape_10 (C0 : zFix p m c cX5_readTape 2 s args wsX5_readTape RX5 meth none) {k : Nat} {a : Int32 × CX} {b : CX} (hit : ziter (bX5_readTape_10 k) k a = some b) (hx9 : (fun (b : CX) => ∀ (H : Heap) (locs : List Loc) (ls : Array Slot), zIn D ad cy (WX ad cy b) A s H locs → lv_has ls 2 [] → W p l e ({ frames := 7, cells := 0, slots := 0, locals := 151 } : Room) s m args below meth c H locs 0 0 Q (F0 m 45 ls [])) b) : (fun (a : Int32 × CX) => ∀ (H : Heap) (locs : List Loc) (ls : Array Slot), zIn D ad cy (WX ad cy a.2) A s H locs → lv_has ls 2 [(0, .ref (ad 6)), (1, .int a.1)] → W p l e ({ frames := 7, cells := 0, slots := 0, locals := 151 } : Room) s m args below meth c H locs 0 0 Q (F0 m 10 ls [])) a := by
  obtain ⟨hx, hb, hml, hown, hts, hr, hlk⟩ := id C0
  refine zloop (Wh := (fun (a : Int32 × CX) => ∀ (H : Heap) (locs : List Loc) (ls : Array Slot), zIn D ad cy (WX ad cy a.2) A s H locs → lv_has ls 2 [(0, .ref (ad 6)), (1, .int a.1)] → W p l e ({ frames := 7, cells := 0, slots := 0, locals := 151 } : Room) s m args below meth c H locs 0 0 Q (F0 m 10 ls []))) (Wx := (fun (b : CX) => ∀ (H : Heap) (locs : List Loc) (ls : Array Slot), zIn D ad cy (WX ad cy b) A s H locs → lv_has ls 2 [] → W p l e ({ frames := 7, cells := 0, slots := 0, locals := 151 } : Room) s m args below meth c H locs 0 0 Q (F0 m 45 ls []))) ?_ _ a b hit hx9
  intro a x hf hL hX H locs ls hI hl
  unfold bX5_readTape_10 at hf
  refine lv_iload_n (pc := 10) hx hb dX5_readTape_10 rfl (lv_at hl 1 rfl) ?_
  refine lv_sipush (pc := 11) (v := 200) hx hb dX5_readTape_11 (by decide) ?_
  refine z_icmp_ge (pc := 14) (tgt := 45) hx hb dX5_readTape_14 (by decide) hf (fun hf => ?_) (fun hf => ?_)
  · exact (hX _ (Option.some.inj hf).symm) _ _ _ hI (lv_sub hl [] rfl)
  refine lv_aload_n (pc := 17) hx hb dX5_readTape_17 rfl (lv_at hl 0 rfl) ?_
  refine z_get (pc := 18) (index := 37) hx hb hts iwX5_readTape_5 hown hI (xl_6 ad cy a.2) rfl 4 (by decide) (by decide +kernel) rfl rfl dX5_readTape_18 ?_
  refine z_if_ne (pc := 21) (tgt := 45) hx hb dX5_readTape_21 (by decide) hf (fun hf => ?_) (fun hf => ?_)
  · exact (hX _ (Option.some.inj hf).symm) _ _ _ hI (lv_sub hl [] rfl)
  refine lv_aload_n (pc := 24) hx hb dX5_readTape_24 rfl (lv_at hl 0 rfl) ?_
  refine z_get (pc := 25) (index := 25) hx hb hts iwX5_readTape_5 hown hI (xl_6 ad cy a.2) rfl 0 (by decide) (by decide +kernel) rfl rfl dX5_readTape_25 ?_
  refine z_get (pc := 28) (index := 41) hx hb hts iwX5_readTape_7 hown hI (xl_4 ad cy a.2) rfl 2 (by decide) (by decide +kernel) rfl rfl dX5_readTape_28 ?_
  refine lv_iconst (pc := 31) (v := 1) hx hb dX5_readTape_31 (by decide) ?_
  refine z_icmp_eq (pc := 32) (tgt := 45) hx hb dX5_readTape_32 (by decide) hf (fun hf => ?_) (fun hf => ?_)
  · exact (hX _ (Option.some.inj hf).symm) _ _ _ hI (lv_sub hl [] rfl)
  refine lv_aload_n (pc := 35) hx hb dX5_readTape_35 rfl (lv_at hl 0 rfl) ?_
  obtain ⟨q6, hc5, hf⟩ := zbind hf
  refine zcallVv (pc := 36) (As := []) (rest := []) ⟨hx, hb, hml, hown, hts⟩ (kX5_readLine l D ad cy k a.2 q6 hc5) (cwV 0 hts gX5_readTape_X5_readLine rfl rfl rfl (by decide +kernel) ⟨Nat.le_of_ble_eq_true rfl, Nat.le_of_ble_eq_true rfl⟩) hI rfl (xl_6 ad cy a.2) rfl hl.1 rfl (Nat.le_of_ble_eq_true rfl) dX5_readTape_36 (Nat.zero_le _) (Nat.zero_le _) (fun H locs hI => ?_)
  refine lv_iinc (pc := 39) (v := (a.1 + 1)) (lv' := [(1, .int (a.1 + 1)), (0, .ref (ad 6))]) hx hb dX5_readTape_39 hl (k := 1) rfl rfl (by decide) rfl (fun ls hl => ?_)
  refine lv_goto (pc := 42) (tgt := 10) hx hb dX5_readTape_42 (by decide) ?_
  exact hL _ (Option.some.inj hf).symm _ _ _ hI (lv_sub hl [1, 0] rfl)
set_option maxHeartbeats 4000000 in
set_option maxRecDepth 100000 in
theorem kX5_readTape (l : Launch) (D : va_G) (ad : Nat → Nat) (cy : Nat → ClassId) (k : Nat) (u : CX) (u' : CX) (hf : fX5_readTape k u = some u') : zCt l yX5_readTape wsX5_readTape ({ frames := 7, cells := 0, slots := 0, locals := 151 } : Room) D ad cy [.ref (ad 6)] (WX ad cy u) none (WX ad cy u') := by
  refine zCt.of (cc := cX5_readTape) (maxL := 2) (ret := none) (own := RX5) (by decide) rfl rfl ?_
  intro p e s m below meth c A C0 hI
  obtain ⟨hx, hb, hml, hown, hts, hr, hlk⟩ := id C0
  refine z_entry (Nat.le_of_ble_eq_true rfl) (fun ls hl => ?_)
  have hl : lv_has ls 2 [(0, .ref (ad 6))] := hl
  unfold fX5_readTape at hf
  refine lv_aload_n (pc := 0) hx hb dX5_readTape_0 rfl (lv_at hl 0 rfl) ?_
  obtain ⟨q2, hc1, hf⟩ := zbind hf
  refine zcallVv (pc := 1) (As := []) (rest := []) ⟨hx, hb, hml, hown, hts⟩ (kX5_begin l D ad cy k u q2 hc1) (cwV 0 hts gX5_readTape_X5_begin rfl rfl rfl (by decide +kernel) ⟨Nat.le_of_ble_eq_true rfl, Nat.le_of_ble_eq_true rfl⟩) hI rfl (xl_6 ad cy u) rfl hl.1 rfl (Nat.le_of_ble_eq_true rfl) dX5_readTape_1 (Nat.zero_le _) (Nat.zero_le _) (fun H locs hI => ?_)
  refine lv_aload_n (pc := 4) hx hb dX5_readTape_4 rfl (lv_at hl 0 rfl) ?_
  obtain ⟨q4, hc3, hf⟩ := zbind hf
  refine zcallVv (pc := 5) (As := []) (rest := []) ⟨hx, hb, hml, hown, hts⟩ (kX5_advance l D ad cy k q2 q4 hc3) (cwV 0 hts gX5_readTape_X5_advance rfl rfl rfl (by decide +kernel) ⟨Nat.le_of_ble_eq_true rfl, Nat.le_of_ble_eq_true rfl⟩) hI rfl (xl_6 ad cy q2) rfl hl.1 rfl (Nat.le_of_ble_eq_true rfl) dX5_readTape_5 (Nat.zero_le _) (Nat.zero_le _) (fun H locs hI => ?_)
  refine lv_iconst (pc := 8) (v := 0) hx hb dX5_readTape_8 (by decide) ?_
  refine lv_istore_n (pc := 9) (lv' := [(1, .int (0 : Int32)), (0, .ref (ad 6))]) hx hb dX5_readTape_9 rfl hl (by decide) rfl (fun ls hl => ?_)
  obtain ⟨b7, hb8, hf⟩ := zbind hf
  refine lX5_readTape_10 C0 hb8 ?_ _ _ _ hI (lv_sub hl [1, 0] rfl)
  intro H locs ls hI hl
  cases hf
  exact z_vret (pc := 45) C0 hI dX5_readTape_45
end
