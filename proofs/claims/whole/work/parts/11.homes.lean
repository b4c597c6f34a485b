theorem iwX0_allows_0 : ∀ w ∈ wsX00, w ∈ wsX0_allows := by decide +kernel
def fX0_allows (a1 : Int32) (a2 : Int32) (u : CX) : Option (Int32) :=
  if 0 < a2 then
    zget 4 (xg_shots u) a1 (fun v1 =>
    zget 4 (xg_downs u) a1 (fun v2 =>
    (fX9_isNearTrial v1 v2 a2).bind (fun q4 =>
    if q4 = 0 then
      some (0 : Int32)
    else
    some (1 : Int32))))
  else
  zget 4 (xg_wrecks u) a1 (fun v5 =>
  if v5 = 0 then
    zget 4 (xg_shots u) a1 (fun v6 =>
    zget 4 (xg_downs u) a1 (fun v7 =>
    (fX9_isNearTrial v6 v7 a2).bind (fun q9 =>
    if q9 = 0 then
      some (0 : Int32)
    else
    some (1 : Int32))))
  else
  some (0 : Int32))
theorem iwX0_allWrecks_0 : ∀ w ∈ wsX00, w ∈ wsX0_allWrecks := by decide +kernel
def bX0_allWrecks_4 (k : Nat) (u : CX) (a : Int32 × Int32) : Option ((Int32 × Int32) ⊕ (Int32)) :=
  if (4 : Int32) ≤ a.2 then
    some (.inr a.1)
  else
  zget 4 (xg_wrecks u) a.2 (fun v1 =>
  if v1 = 0 then
    zb (a.1 + (0 : Int32)) (fun v2 =>
    some (.inl (v2, (a.2 + 1))))
  else
  zb (a.1 + (1 : Int32)) (fun v3 =>
  some (.inl (v3, (a.2 + 1)))))
def fX0_allWrecks (k : Nat) (u : CX) : Option (Int32) :=
  (ziter (bX0_allWrecks_4 k u) k ((0 : Int32), (0 : Int32))).bind (fun b4 =>
    some b4)
theorem iwX0_allTried_0 : ∀ w ∈ wsX00, w ∈ wsX0_allTried := by decide +kernel
def bX0_allTried_4 (k : Nat) (u : CX) (a : Int32 × Int32) : Option ((Int32 × Int32) ⊕ (Int32)) :=
  if (4 : Int32) ≤ a.2 then
    some (.inr a.1)
  else
  zget 4 (xg_shots u) a.2 (fun v1 =>
  if v1 ≤ 0 then
    zb (a.1 + (0 : Int32)) (fun v2 =>
    some (.inl (v2, (a.2 + 1))))
  else
  zb (a.1 + (1 : Int32)) (fun v3 =>
  some (.inl (v3, (a.2 + 1)))))
def fX0_allTried (k : Nat) (u : CX) : Option (Int32) :=
  (ziter (bX0_allTried_4 k u) k ((0 : Int32), (0 : Int32))).bind (fun b4 =>
    some b4)
theorem iwX3_sorties_3 : ∀ w ∈ wsX30, w ∈ wsX3_sorties := by decide +kernel
def fX3_sorties (u : CX) : Option (Int32) :=
  zget 10 (xg_sums u) (0 : Int32) (fun v1 =>
  some v1)
theorem iwX3_withHoles_3 : ∀ w ∈ wsX30, w ∈ wsX3_withHoles := by decide +kernel
def fX3_withHoles (a1 : Int32) (u : CX) : Option (Int32) :=
  zget 10 (xg_sums u) ((1 : Int32) + a1) (fun v1 =>
  some v1)
def fX3_allHomes (u : CX) : Option (Int32) :=
  (fX3_withHoles (0 : Int32) u).bind (fun q2 =>
  (fX3_withHoles (1 : Int32) u).bind (fun q4 =>
  (fX3_withHoles (2 : Int32) u).bind (fun q6 =>
  (fX3_withHoles (3 : Int32) u).bind (fun q8 =>
  some (((q2 + q4) + q6) + q8)))))
theorem iwX3_inPart_3 : ∀ w ∈ wsX30, w ∈ wsX3_inPart := by decide +kernel
def fX3_inPart (a1 : Int32) (u : CX) : Option (Int32) :=
  zget 10 (xg_sums u) ((5 : Int32) + a1) (fun v1 =>
  some v1)
theorem iwX3_beginAct_3 : ∀ w ∈ wsX30, w ∈ wsX3_beginAct := by decide +kernel
def bX3_beginAct_30 (k : Nat) (a : Int32 × CX) : Option ((Int32 × CX) ⊕ (CX)) :=
  if (10 : Int32) ≤ a.1 then
    some (.inr a.2)
  else
  zix 8 (xg_latest a.2) (fun j3 =>
  zix 10 a.1 (fun j4 => zb (xs_rows a.2 (zup (xg_rows a.2) j3 (upd (xg_rows a.2 j3) j4 (0 : Int32)))) (fun u5 =>
  some (.inl ((a.1 + 1), u5)))))
def fX3_beginAct (k : Nat) (u : CX) : Option (CX) :=
  zdi (8 : Int32) (
  zb (xs_latest u (zremI ((xg_latest u) + (1 : Int32)) (8 : Int32))) (fun u1 =>
  zb (xs_acts u1 (zminI ((xg_acts u1) + (1 : Int32)) (8 : Int32))) (fun u2 =>
  (ziter (bX3_beginAct_30 k) k ((0 : Int32), u2)).bind (fun b6 =>
    some b6))))
theorem iwX3_add_3 : ∀ w ∈ wsX30, w ∈ wsX3_add := by decide +kernel
def fX3_add (a1 : Int32) (a2 : Int32) (u : CX) : Option (CX) :=
  zget 10 (xg_sums u) a1 (fun v1 =>
  zix 10 a1 (fun j2 => zb (xs_sums u (upd (xg_sums u) j2 (v1 + a2))) (fun u3 =>
  zix 8 (xg_latest u3) (fun j4 =>
  zget 10 (xg_rows u3 j4) a1 (fun v5 =>
  zix 10 a1 (fun j6 => zb (xs_rows u3 (zup (xg_rows u3) j4 (upd (xg_rows u3 j4) j6 (v5 + a2)))) (fun u7 =>
  some u7)))))))
def fX3_addHomes (a1 : Int32) (a2 : Int32) (a3 : Int32) (a4 : Int32) (a5 : Int32) (u : CX) : Option (CX) :=
  zb (((a2 + a3) + a4) + a5) (fun v1 =>
  if v1 < 0 then
    some u
  else
  if v1 ≤ (3 : Int32) then
    (fX3_add ((1 : Int32) + v1) a1 u).bind (fun q3 =>
    (fX3_add (5 : Int32) (a1 * a2) q3).bind (fun q5 =>
    (fX3_add (6 : Int32) (a1 * a3) q5).bind (fun q7 =>
    (fX3_add (7 : Int32) (a1 * a4) q7).bind (fun q9 =>
    (fX3_add (8 : Int32) (a1 * a5) q9).bind (fun q11 =>
    some q11)))))
  else
  some u)
theorem iwX3_takeBack_3 : ∀ w ∈ wsX30, w ∈ wsX3_takeBack := by decide +kernel
def bX3_takeBack_2 (k : Nat) (a : Int32 × CX) : Option ((Int32 × CX) ⊕ (CX)) :=
  if (10 : Int32) ≤ a.1 then
    some (.inr a.2)
  else
  zget 10 (xg_sums a.2) a.1 (fun v1 =>
  zix 8 (xg_latest a.2) (fun j2 =>
  zget 10 (xg_rows a.2 j2) a.1 (fun v3 =>
  zix 10 a.1 (fun j4 => zb (xs_sums a.2 (upd (xg_sums a.2) j4 (v1 - v3))) (fun u5 =>
  some (.inl ((a.1 + 1), u5)))))))
def fX3_takeBack (k : Nat) (u : CX) : Option (CX) :=
  (ziter (bX3_takeBack_2 k) k ((0 : Int32), u)).bind (fun b6 =>
    zdi (8 : Int32) (
    zb (xs_latest b6 (zremI (((xg_latest b6) + (8 : Int32)) - (1 : Int32)) (8 : Int32))) (fun u8 =>
    zb (xs_acts u8 ((xg_acts u8) - (1 : Int32))) (fun u9 =>
    some u9))))
section
variable {p : Program} {l : Launch} {e : Env} {s : State} {m : MethodId} {args : Array Value} {below : List Frame} {meth : Method} {c : Code} {A : Nat → Prop} {Q : State → Prop} {D : va_G} {ad : Nat → Nat} {cy : Nat → ClassId}
set_option maxHeartbeats 4000000 in
set_option maxRecDepth 100000 in
theorem kX0_allows (l : Launch) (D : va_G) (ad : Nat → Nat) (cy : Nat → ClassId) (a1 : Int32) (a2 : Int32) (u : CX) (r : Int32) (hf : fX0_allows a1 a2 u = some r) : zCt l yX0_allows wsX0_allows ({ frames := 2, cells := 0, slots := 0, locals := 43 } : Room) D ad cy [.ref (ad 23), .int a1, .int a2] (WX ad cy u) (some (.int r)) (WX ad cy u) := by
  refine zCt.of (cc := cX0_allows) (maxL := 3) (ret := (some .boolean)) (own := RX0) (by decide) rfl rfl ?_
  intro p e s m below meth c A C0 hI
  obtain ⟨hx, hb, hml, hown, hts, hr, hlk⟩ := id C0
  refine z_entry (Nat.le_of_ble_eq_true rfl) (fun ls hl => ?_)
  have hl : lv_has ls 3 [(0, .ref (ad 23)), (1, .int a1), (2, .int a2)] := hl
  unfold fX0_allows at hf
  refine lv_iload_n (pc := 0) hx hb dX0_allows_0 rfl (lv_at hl 2 rfl) ?_
  refine z_if_gt (pc := 1) (tgt := 13) hx hb dX0_allows_1 (by decide) hf (fun hf => ?_) (fun hf => ?_)
  · refine lv_aload_n (pc := 13) hx hb dX0_allows_13 rfl (lv_at hl 0 rfl) ?_
    refine z_get (pc := 14) (index := 15) hx hb hts iwX0_allows_0 hown hI (xl_23 ad cy u) rfl 1 (by decide) (by decide +kernel) rfl rfl dX0_allows_14 ?_
    refine lv_iload_n (pc := 17) hx hb dX0_allows_17 rfl (lv_at hl 1 rfl) ?_
    refine z_iald (pc := 18) hx hb hI (xl_25 ad cy u) 0 rfl dX0_allows_18 hf (fun v1 hf => ?_)
    refine lv_aload_n (pc := 19) hx hb dX0_allows_19 rfl (lv_at hl 0 rfl) ?_
    refine z_get (pc := 20) (index := 19) hx hb hts iwX0_allows_0 hown hI (xl_23 ad cy u) rfl 2 (by decide) (by decide +kernel) rfl rfl dX0_allows_20 ?_
    refine lv_iload_n (pc := 23) hx hb dX0_allows_23 rfl (lv_at hl 1 rfl) ?_
    refine z_iald (pc := 24) hx hb hI (xl_26 ad cy u) 0 rfl dX0_allows_24 hf (fun v2 hf => ?_)
    refine lv_iload_n (pc := 25) hx hb dX0_allows_25 rfl (lv_at hl 2 rfl) ?_
    obtain ⟨q4, hc3, hf⟩ := zbind hf
    refine zcallSNi (pc := 26) (As := [.int v1, .int v2, .int a2]) (rest := []) ⟨hx, hb, hml, hown, hts⟩ (kX9_isNearTrial l v1 v2 a2 q4 hc3) ⟨va_cnB 3 hts gX0_allows_X9_isNearTrial_n22 rfl rfl rfl (hI.2.2.2.2.2.1 _ (List.mem_of_getElem? (i := 4) rfl)) (hts (.initialized RX9) (by decide +kernel)) (by decide +kernel) ⟨Nat.le_of_ble_eq_true rfl, Nat.le_of_ble_eq_true rfl⟩, hts (.static yX9_isNearTrial) (by decide +kernel), trivial⟩ rfl hl.1 rfl (Nat.le_of_ble_eq_true rfl) dX0_allows_26 (Nat.zero_le _) (Nat.zero_le _) ?_
    refine z_if_eq (pc := 29) (tgt := 36) hx hb dX0_allows_29 (by decide) hf (fun hf => ?_) (fun hf => ?_)
    · refine lv_iconst (pc := 36) (v := 0) hx hb dX0_allows_36 (by decide) ?_
      cases hf
      exact z_zret (pc := 37) C0 hI (Or.inl rfl) dX0_allows_37
    refine lv_iconst (pc := 32) (v := 1) hx hb dX0_allows_32 (by decide) ?_
    refine lv_goto (pc := 33) (tgt := 37) hx hb dX0_allows_33 (by decide) ?_
    cases hf
    exact z_zret (pc := 37) C0 hI (Or.inr rfl) dX0_allows_37
  refine lv_aload_n (pc := 4) hx hb dX0_allows_4 rfl (lv_at hl 0 rfl) ?_
  refine z_get (pc := 5) (index := 9) hx hb hts iwX0_allows_0 hown hI (xl_23 ad cy u) rfl 0 (by decide) (by decide +kernel) rfl rfl dX0_allows_5 ?_
  refine lv_iload_n (pc := 8) hx hb dX0_allows_8 rfl (lv_at hl 1 rfl) ?_
  refine z_zald (pc := 9) hx hb hI (xl_24 ad cy u) 3 rfl dX0_allows_9 hf (fun v5 hf => ?_)
  refine z_if_ne (pc := 10) (tgt := 36) hx hb dX0_allows_10 (by decide) hf (fun hf => ?_) (fun hf => ?_)
  · refine lv_iconst (pc := 36) (v := 0) hx hb dX0_allows_36 (by decide) ?_
    cases hf
    exact z_zret (pc := 37) C0 hI (Or.inl rfl) dX0_allows_37
  refine lv_aload_n (pc := 13) hx hb dX0_allows_13 rfl (lv_at hl 0 rfl) ?_
  refine z_get (pc := 14) (index := 15) hx hb hts iwX0_allows_0 hown hI (xl_23 ad cy u) rfl 1 (by decide) (by decide +kernel) rfl rfl dX0_allows_14 ?_
  refine lv_iload_n (pc := 17) hx hb dX0_allows_17 rfl (lv_at hl 1 rfl) ?_
  refine z_iald (pc := 18) hx hb hI (xl_25 ad cy u) 0 rfl dX0_allows_18 hf (fun v6 hf => ?_)
  refine lv_aload_n (pc := 19) hx hb dX0_allows_19 rfl (lv_at hl 0 rfl) ?_
  refine z_get (pc := 20) (index := 19) hx hb hts iwX0_allows_0 hown hI (xl_23 ad cy u) rfl 2 (by decide) (by decide +kernel) rfl rfl dX0_allows_20 ?_
  refine lv_iload_n (pc := 23) hx hb dX0_allows_23 rfl (lv_at hl 1 rfl) ?_
  refine z_iald (pc := 24) hx hb hI (xl_26 ad cy u) 0 rfl dX0_allows_24 hf (fun v7 hf => ?_)
  refine lv_iload_n (pc := 25) hx hb dX0_allows_25 rfl (lv_at hl 2 rfl) ?_
  obtain ⟨q9, hc8, hf⟩ := zbind hf
  refine zcallSNi (pc := 26) (As := [.int v6, .int v7, .int a2]) (rest := []) ⟨hx, hb, hml, hown, hts⟩ (kX9_isNearTrial l v6 v7 a2 q9 hc8) ⟨va_cnB 3 hts gX0_allows_X9_isNearTrial_n22 rfl rfl rfl (hI.2.2.2.2.2.1 _ (List.mem_of_getElem? (i := 4) rfl)) (hts (.initialized RX9) (by decide +kernel)) (by decide +kernel) ⟨Nat.le_of_ble_eq_true rfl, Nat.le_of_ble_eq_true rfl⟩, hts (.static yX9_isNearTrial) (by decide +kernel), trivial⟩ rfl hl.1 rfl (Nat.le_of_ble_eq_true rfl) dX0_allows_26 (Nat.zero_le _) (Nat.zero_le _) ?_
  refine z_if_eq (pc := 29) (tgt := 36) hx hb dX0_allows_29 (by decide) hf (fun hf => ?_) (fun hf => ?_)
  · refine lv_iconst (pc := 36) (v := 0) hx hb dX0_allows_36 (by decide) ?_
    cases hf
    exact z_zret (pc := 37) C0 hI (Or.inl rfl) dX0_allows_37
  refine lv_iconst (pc := 32) (v := 1) hx hb dX0_allows_32 (by decide) ?_
  refine lv_goto (pc := 33) (tgt := 37) hx hb dX0_allows_33 (by decide) ?_
  cases hf
  exact z_zret (pc := 37) C0 hI (Or.inr rfl) dX0_allows_37
set_option maxHeartbeats 4000000 in
set_option maxRecDepth 100000 in
theorem lX0_allWrecks_4 (C0 : zFix p m c cX0_allWrecks 3 s args wsX0_allWrecks RX0 meth (some .int)) {k : Nat} {u : CX} {a : Int32 × Int32} {b : Int32} (hit : ziter (bX0_allWrecks_4 k u) k a = some b) (hx9 : (fun (b : Int32) => ∀ (H : Heap) (locs : List Loc) (ls : Array Slot), zIn D ad cy (WX ad cy u) A s H locs → lv_has ls 3 [(1, .int b)] → W p l e ({ frames := 0, cells := 0, slots := 0, locals := 0 } : Room) s m args below meth c H locs 0 0 Q (F0 m 32 ls [])) b) : (fun (a : Int32 × Int32) => ∀ (H : Heap) (locs : List Loc) (ls : Array Slot), zIn D ad cy (WX ad cy u) A s H locs → lv_has ls 3 [(0, .ref (ad 23)), (1, .int a.1), (2, .int a.2)] → W p l e ({ frames := 0, cells := 0, slots := 0, locals := 0 } : Room) s m args below meth c H locs 0 0 Q (F0 m 4 ls [])) a := by
  obtain ⟨hx, hb, hml, hown, hts, hr, hlk⟩ := id C0
  refine zloop (Wh := (fun (a : Int32 × Int32) => ∀ (H : Heap) (locs : List Loc) (ls : Array Slot), zIn D ad cy (WX ad cy u) A s H locs → lv_has ls 3 [(0, .ref (ad 23)), (1, .int a.1), (2, .int a.2)] → W p l e ({ frames := 0, cells := 0, slots := 0, locals := 0 } : Room) s m args below meth c H locs 0 0 Q (F0 m 4 ls []))) (Wx := (fun (b : Int32) => ∀ (H : Heap) (locs : List Loc) (ls : Array Slot), zIn D ad cy (WX ad cy u) A s H locs → lv_has ls 3 [(1, .int b)] → W p l e ({ frames := 0, cells := 0, slots := 0, locals := 0 } : Room) s m args below meth c H locs 0 0 Q (F0 m 32 ls []))) ?_ _ a b hit hx9
  intro a x hf hL hX H locs ls hI hl
  unfold bX0_allWrecks_4 at hf
  refine lv_iload_n (pc := 4) hx hb dX0_allWrecks_4 rfl (lv_at hl 2 rfl) ?_
  refine lv_iconst (pc := 5) (v := 4) hx hb dX0_allWrecks_5 (by decide) ?_
  refine z_icmp_ge (pc := 6) (tgt := 32) hx hb dX0_allWrecks_6 (by decide) hf (fun hf => ?_) (fun hf => ?_)
  · exact (hX _ (Option.some.inj hf).symm) _ _ _ hI (lv_sub hl [1] rfl)
  refine lv_iload_n (pc := 9) hx hb dX0_allWrecks_9 rfl (lv_at hl 1 rfl) ?_
  refine lv_aload_n (pc := 10) hx hb dX0_allWrecks_10 rfl (lv_at hl 0 rfl) ?_
  refine z_get (pc := 11) (index := 9) hx hb hts iwX0_allWrecks_0 hown hI (xl_23 ad cy u) rfl 0 (by decide) (by decide +kernel) rfl rfl dX0_allWrecks_11 ?_
  refine lv_iload_n (pc := 14) hx hb dX0_allWrecks_14 rfl (lv_at hl 2 rfl) ?_
  refine z_zald (pc := 15) hx hb hI (xl_24 ad cy u) 3 rfl dX0_allWrecks_15 hf (fun v1 hf => ?_)
  refine z_if_eq (pc := 16) (tgt := 23) hx hb dX0_allWrecks_16 (by decide) hf (fun hf => ?_) (fun hf => ?_)
  · refine lv_iconst (pc := 23) (v := 0) hx hb dX0_allWrecks_23 (by decide) ?_
    refine lv_iadd (pc := 24) hx hb dX0_allWrecks_24 ?_
    refine z_bi hf (fun v2 hf => ?_)
    refine lv_istore_n (pc := 25) (lv' := [(1, .int v2), (0, .ref (ad 23)), (2, .int a.2)]) hx hb dX0_allWrecks_25 rfl hl (by decide) rfl (fun ls hl => ?_)
    refine lv_iinc (pc := 26) (v := (a.2 + 1)) (lv' := [(2, .int (a.2 + 1)), (1, .int v2), (0, .ref (ad 23))]) hx hb dX0_allWrecks_26 hl (k := 2) rfl rfl (by decide) rfl (fun ls hl => ?_)
    refine lv_goto (pc := 29) (tgt := 4) hx hb dX0_allWrecks_29 (by decide) ?_
    exact hL _ (Option.some.inj hf).symm _ _ _ hI (lv_sub hl [2, 1, 0] rfl)
  refine lv_iconst (pc := 19) (v := 1) hx hb dX0_allWrecks_19 (by decide) ?_
  refine lv_goto (pc := 20) (tgt := 24) hx hb dX0_allWrecks_20 (by decide) ?_
  refine lv_iadd (pc := 24) hx hb dX0_allWrecks_24 ?_
  refine z_bi hf (fun v3 hf => ?_)
  refine lv_istore_n (pc := 25) (lv' := [(1, .int v3), (0, .ref (ad 23)), (2, .int a.2)]) hx hb dX0_allWrecks_25 rfl hl (by decide) rfl (fun ls hl => ?_)
  refine lv_iinc (pc := 26) (v := (a.2 + 1)) (lv' := [(2, .int (a.2 + 1)), (1, .int v3), (0, .ref (ad 23))]) hx hb dX0_allWrecks_26 hl (k := 2) rfl rfl (by decide) rfl (fun ls hl => ?_)
  refine lv_goto (pc := 29) (tgt := 4) hx hb dX0_allWrecks_29 (by decide) ?_
  exact hL _ (Option.some.inj hf).symm _ _ _ hI (lv_sub hl [2, 1, 0] rfl)
set_option maxHeartbeats 4000000 in
set_option maxRecDepth 100000 in
theorem kX0_allWrecks (l : Launch) (D : va_G) (ad : Nat → Nat) (cy : Nat → ClassId) (k : Nat) (u : CX) (r : Int32) (hf : fX0_allWrecks k u = some r) : zCt l yX0_allWrecks wsX0_allWrecks ({ frames := 0, cells := 0, slots := 0, locals := 0 } : Room) D ad cy [.ref (ad 23)] (WX ad cy u) (some (.int r)) (WX ad cy u) := by
  refine zCt.of (cc := cX0_allWrecks) (maxL := 3) (ret := (some .int)) (own := RX0) (by decide) rfl rfl ?_
  intro p e s m below meth c A C0 hI
  obtain ⟨hx, hb, hml, hown, hts, hr, hlk⟩ := id C0
  refine z_entry (Nat.le_of_ble_eq_true rfl) (fun ls hl => ?_)
  have hl : lv_has ls 3 [(0, .ref (ad 23))] := hl
  unfold fX0_allWrecks at hf
  refine lv_iconst (pc := 0) (v := 0) hx hb dX0_allWrecks_0 (by decide) ?_
  refine lv_istore_n (pc := 1) (lv' := [(1, .int (0 : Int32)), (0, .ref (ad 23))]) hx hb dX0_allWrecks_1 rfl hl (by decide) rfl (fun ls hl => ?_)
  refine lv_iconst (pc := 2) (v := 0) hx hb dX0_allWrecks_2 (by decide) ?_
  refine lv_istore_n (pc := 3) (lv' := [(2, .int (0 : Int32)), (1, .int (0 : Int32)), (0, .ref (ad 23))]) hx hb dX0_allWrecks_3 rfl hl (by decide) rfl (fun ls hl => ?_)
  obtain ⟨b4, hb5, hf⟩ := zbind hf
  refine lX0_allWrecks_4 C0 hb5 ?_ _ _ _ hI (lv_sub hl [2, 1, 0] rfl)
  intro H locs ls hI hl
  refine lv_iload_n (pc := 32) hx hb dX0_allWrecks_32 rfl (lv_at hl 0 rfl) ?_
  cases hf
  exact z_iret (pc := 33) C0 hI dX0_allWrecks_33
set_option maxHeartbeats 4000000 in
set_option maxRecDepth 100000 in
theorem lX0_allTried_4 (C0 : zFix p m c cX0_allTried 3 s args wsX0_allTried RX0 meth (some .int)) {k : Nat} {u : CX} {a : Int32 × Int32} {b : Int32} (hit : ziter (bX0_allTried_4 k u) k a = some b) (hx9 : (fun (b : Int32) => ∀ (H : Heap) (locs : List Loc) (ls : Array Slot), zIn D ad cy (WX ad cy u) A s H locs → lv_has ls 3 [(1, .int b)] → W p l e ({ frames := 0, cells := 0, slots := 0, locals := 0 } : Room) s m args below meth c H locs 0 0 Q (F0 m 32 ls [])) b) : (fun (a : Int32 × Int32) => ∀ (H : Heap) (locs : List Loc) (ls : Array Slot), zIn D ad cy (WX ad cy u) A s H locs → lv_has ls 3 [(0, .ref (ad 23)), (1, .int a.1), (2, .int a.2)] → W p l e ({ frames := 0, cells := 0, slots := 0, locals := 0 } : Room) s m args below meth c H locs 0 0 Q (F0 m 4 ls [])) a := by
  obtain ⟨hx, hb, hml, hown, hts, hr, hlk⟩ := id C0
  refine zloop (Wh := (fun (a : Int32 × Int32) => ∀ (H : Heap) (locs : List Loc) (ls : Array Slot), zIn D ad cy (WX ad cy u) A s H locs → lv_has ls 3 [(0, .ref (ad 23)), (1, .int a.1), (2, .int a.2)] → W p l e ({ frames := 0, cells := 0, slots := 0, locals := 0 } : Room) s m args below meth c H locs 0 0 Q (F0 m 4 ls []))) (Wx := (fun (b : Int32) => ∀ (H : Heap) (locs : List Loc) (ls : Array Slot), zIn D ad cy (WX ad cy u) A s H locs → lv_has ls 3 [(1, .int b)] → W p l e ({ frames := 0, cells := 0, slots := 0, locals := 0 } : Room) s m args below meth c H locs 0 0 Q (F0 m 32 ls []))) ?_ _ a b hit hx9
  intro a x hf hL hX H locs ls hI hl
  unfold bX0_allTried_4 at hf
  refine lv_iload_n (pc := 4) hx hb dX0_allTried_4 rfl (lv_at hl 2 rfl) ?_
  refine lv_iconst (pc := 5) (v := 4) hx hb dX0_allTried_5 (by decide) ?_
  refine z_icmp_ge (pc := 6) (tgt := 32) hx hb dX0_allTried_6 (by decide) hf (fun hf => ?_) (fun hf => ?_)
  · exact (hX _ (Option.some.inj hf).symm) _ _ _ hI (lv_sub hl [1] rfl)
  refine lv_iload_n (pc := 9) hx hb dX0_allTried_9 rfl (lv_at hl 1 rfl) ?_
  refine lv_aload_n (pc := 10) hx hb dX0_allTried_10 rfl (lv_at hl 0 rfl) ?_
  refine z_get (pc := 11) (index := 15) hx hb hts iwX0_allTried_0 hown hI (xl_23 ad cy u) rfl 1 (by decide) (by decide +kernel) rfl rfl dX0_allTried_11 ?_
  refine lv_iload_n (pc := 14) hx hb dX0_allTried_14 rfl (lv_at hl 2 rfl) ?_
  refine z_iald (pc := 15) hx hb hI (xl_25 ad cy u) 0 rfl dX0_allTried_15 hf (fun v1 hf => ?_)
  refine z_if_le (pc := 16) (tgt := 23) hx hb dX0_allTried_16 (by decide) hf (fun hf => ?_) (fun hf => ?_)
  · refine lv_iconst (pc := 23) (v := 0) hx hb dX0_allTried_23 (by decide) ?_
    refine lv_iadd (pc := 24) hx hb dX0_allTried_24 ?_
    refine z_bi hf (fun v2 hf => ?_)
    refine lv_istore_n (pc := 25) (lv' := [(1, .int v2), (0, .ref (ad 23)), (2, .int a.2)]) hx hb dX0_allTried_25 rfl hl (by decide) rfl (fun ls hl => ?_)
    refine lv_iinc (pc := 26) (v := (a.2 + 1)) (lv' := [(2, .int (a.2 + 1)), (1, .int v2), (0, .ref (ad 23))]) hx hb dX0_allTried_26 hl (k := 2) rfl rfl (by decide) rfl (fun ls hl => ?_)
    refine lv_goto (pc := 29) (tgt := 4) hx hb dX0_allTried_29 (by decide) ?_
    exact hL _ (Option.some.inj hf).symm _ _ _ hI (lv_sub hl [2, 1, 0] rfl)
  refine lv_iconst (pc := 19) (v := 1) hx hb dX0_allTried_19 (by decide) ?_
  refine lv_goto (pc := 20) (tgt := 24) hx hb dX0_allTried_20 (by decide) ?_
  refine lv_iadd (pc := 24) hx hb dX0_allTried_24 ?_
  refine z_bi hf (fun v3 hf => ?_)
  refine lv_istore_n (pc := 25) (lv' := [(1, .int v3), (0, .ref (ad 23)), (2, .int a.2)]) hx hb dX0_allTried_25 rfl hl (by decide) rfl (fun ls hl => ?_)
  refine lv_iinc (pc := 26) (v := (a.2 + 1)) (lv' := [(2, .int (a.2 + 1)), (1, .int v3), (0, .ref (ad 23))]) hx hb dX0_allTried_26 hl (k := 2) rfl rfl (by decide) rfl (fun ls hl => ?_)
  refine lv_goto (pc := 29) (tgt := 4) hx hb dX0_allTried_29 (by decide) ?_
  exact hL _ (Option.some.inj hf).symm _ _ _ hI (lv_sub hl [2, 1, 0] rfl)
set_option maxHeartbeats 4000000 in
set_option maxRecDepth 100000 in
theorem kX0_allTried (l : Launch) (D : va_G) (ad : Nat → Nat) (cy : Nat → ClassId) (k : Nat) (u : CX) (r : Int32) (hf : fX0_allTried k u = some r) : zCt l yX0_allTried wsX0_allTried ({ frames := 0, cells := 0, slots := 0, locals := 0 } : Room) D ad cy [.ref (ad 23)] (WX ad cy u) (some (.int r)) (WX ad cy u) := by
  refine zCt.of (cc := cX0_allTried) (maxL := 3) (ret := (some .int)) (own := RX0) (by decide) rfl rfl ?_
  intro p e s m below meth c A C0 hI
  obtain ⟨hx, hb, hml, hown, hts, hr, hlk⟩ := id C0
  refine z_entry (Nat.le_of_ble_eq_true rfl) (fun ls hl => ?_)
  have hl : lv_has ls 3 [(0, .ref (ad 23))] := hl
  unfold fX0_allTried at hf
  refine lv_iconst (pc := 0) (v := 0) hx hb dX0_allTried_0 (by decide) ?_
  refine lv_istore_n (pc := 1) (lv' := [(1, .int (0 : Int32)), (0, .ref (ad 23))]) hx hb dX0_allTried_1 rfl hl (by decide) rfl (fun ls hl => ?_)
  refine lv_iconst (pc := 2) (v := 0) hx hb dX0_allTried_2 (by decide) ?_
  refine lv_istore_n (pc := 3) (lv' := [(2, .int (0 : Int32)), (1, .int (0 : Int32)), (0, .ref (ad 23))]) hx hb dX0_allTried_3 rfl hl (by decide) rfl (fun ls hl => ?_)
  obtain ⟨b4, hb5, hf⟩ := zbind hf
  refine lX0_allTried_4 C0 hb5 ?_ _ _ _ hI (lv_sub hl [2, 1, 0] rfl)
  intro H locs ls hI hl
  refine lv_iload_n (pc := 32) hx hb dX0_allTried_32 rfl (lv_at hl 0 rfl) ?_
  cases hf
  exact z_iret (pc := 33) C0 hI dX0_allTried_33
set_option maxHeartbeats 4000000 in
set_option maxRecDepth 100000 in
theorem kX3_sorties (l : Launch) (D : va_G) (ad : Nat → Nat) (cy : Nat → ClassId) (u : CX) (r : Int32) (hf : fX3_sorties u = some r) : zCt l yX3_sorties wsX3_sorties ({ frames := 0, cells := 0, slots := 0, locals := 0 } : Room) D ad cy [.ref (ad 12)] (WX ad cy u) (some (.int r)) (WX ad cy u) := by
  refine zCt.of (cc := cX3_sorties) (maxL := 1) (ret := (some .int)) (own := RX3) (by decide) rfl rfl ?_
  intro p e s m below meth c A C0 hI
  obtain ⟨hx, hb, hml, hown, hts, hr, hlk⟩ := id C0
  refine z_entry (Nat.le_of_ble_eq_true rfl) (fun ls hl => ?_)
  have hl : lv_has ls 1 [(0, .ref (ad 12))] := hl
  unfold fX3_sorties at hf
  refine lv_aload_n (pc := 0) hx hb dX3_sorties_0 rfl (lv_at hl 0 rfl) ?_
  refine z_get (pc := 1) (index := 9) hx hb hts iwX3_sorties_3 hown hI (xl_12 ad cy u) rfl 0 (by decide) (by decide +kernel) rfl rfl dX3_sorties_1 ?_
  refine lv_iconst (pc := 4) (v := 0) hx hb dX3_sorties_4 (by decide) ?_
  refine z_iald (pc := 5) hx hb hI (xl_13 ad cy u) 0 rfl dX3_sorties_5 hf (fun v1 hf => ?_)
  cases hf
  exact z_iret (pc := 6) C0 hI dX3_sorties_6
set_option maxHeartbeats 4000000 in
set_option maxRecDepth 100000 in
theorem kX3_withHoles (l : Launch) (D : va_G) (ad : Nat → Nat) (cy : Nat → ClassId) (a1 : Int32) (u : CX) (r : Int32) (hf : fX3_withHoles a1 u = some r) : zCt l yX3_withHoles wsX3_withHoles ({ frames := 0, cells := 0, slots := 0, locals := 0 } : Room) D ad cy [.ref (ad 12), .int a1] (WX ad cy u) (some (.int r)) (WX ad cy u) := by
  refine zCt.of (cc := cX3_withHoles) (maxL := 2) (ret := (some .int)) (own := RX3) (by decide) rfl rfl ?_
  intro p e s m below meth c A C0 hI
  obtain ⟨hx, hb, hml, hown, hts, hr, hlk⟩ := id C0
  refine z_entry (Nat.le_of_ble_eq_true rfl) (fun ls hl => ?_)
  have hl : lv_has ls 2 [(0, .ref (ad 12)), (1, .int a1)] := hl
  unfold fX3_withHoles at hf
  refine lv_aload_n (pc := 0) hx hb dX3_withHoles_0 rfl (lv_at hl 0 rfl) ?_
  refine z_get (pc := 1) (index := 9) hx hb hts iwX3_withHoles_3 hown hI (xl_12 ad cy u) rfl 0 (by decide) (by decide +kernel) rfl rfl dX3_withHoles_1 ?_
  refine lv_iconst (pc := 4) (v := 1) hx hb dX3_withHoles_4 (by decide) ?_
  refine lv_iload_n (pc := 5) hx hb dX3_withHoles_5 rfl (lv_at hl 1 rfl) ?_
  refine lv_iadd (pc := 6) hx hb dX3_withHoles_6 ?_
  refine z_iald (pc := 7) hx hb hI (xl_13 ad cy u) 0 rfl dX3_withHoles_7 hf (fun v1 hf => ?_)
  cases hf
  exact z_iret (pc := 8) C0 hI dX3_withHoles_8
set_option maxHeartbeats 4000000 in
set_option maxRecDepth 100000 in
theorem kX3_allHomes (l : Launch) (D : va_G) (ad : Nat → Nat) (cy : Nat → ClassId) (u : CX) (r : Int32) (hf : fX3_allHomes u = some r) : zCt l yX3_allHomes wsX3_allHomes ({ frames := 1, cells := 0, slots := 0, locals := 21 } : Room) D ad cy [.ref (ad 12)] (WX ad cy u) (some (.int r)) (WX ad cy u) := by
  refine zCt.of (cc := cX3_allHomes) (maxL := 1) (ret := (some .int)) (own := RX3) (by decide) rfl rfl ?_
  intro p e s m below meth c A C0 hI
  obtain ⟨hx, hb, hml, hown, hts, hr, hlk⟩ := id C0
  refine z_entry (Nat.le_of_ble_eq_true rfl) (fun ls hl => ?_)
  have hl : lv_has ls 1 [(0, .ref (ad 12))] := hl
  unfold fX3_allHomes at hf
  refine lv_aload_n (pc := 0) hx hb dX3_allHomes_0 rfl (lv_at hl 0 rfl) ?_
  refine lv_iconst (pc := 1) (v := 0) hx hb dX3_allHomes_1 (by decide) ?_
  obtain ⟨q2, hc1, hf⟩ := zbind hf
  refine zcallVi (pc := 2) (As := [.int (0 : Int32)]) (rest := []) ⟨hx, hb, hml, hown, hts⟩ (kX3_withHoles l D ad cy (0 : Int32) u q2 hc1) (cwV 1 hts gX3_allHomes_X3_withHoles rfl rfl rfl (by decide +kernel) ⟨Nat.le_of_ble_eq_true rfl, Nat.le_of_ble_eq_true rfl⟩) hI rfl (xl_12 ad cy u) rfl hl.1 rfl (Nat.le_of_ble_eq_true rfl) dX3_allHomes_2 (Nat.zero_le _) (Nat.zero_le _) (fun H locs hI => ?_)
  refine lv_aload_n (pc := 5) hx hb dX3_allHomes_5 rfl (lv_at hl 0 rfl) ?_
  refine lv_iconst (pc := 6) (v := 1) hx hb dX3_allHomes_6 (by decide) ?_
  obtain ⟨q4, hc3, hf⟩ := zbind hf
  refine zcallVi (pc := 7) (As := [.int (1 : Int32)]) (rest := [.int q2]) ⟨hx, hb, hml, hown, hts⟩ (kX3_withHoles l D ad cy (1 : Int32) u q4 hc3) (cwV 1 hts gX3_allHomes_X3_withHoles rfl rfl rfl (by decide +kernel) ⟨Nat.le_of_ble_eq_true rfl, Nat.le_of_ble_eq_true rfl⟩) hI rfl (xl_12 ad cy u) rfl hl.1 rfl (Nat.le_of_ble_eq_true rfl) dX3_allHomes_7 (Nat.zero_le _) (Nat.zero_le _) (fun H locs hI => ?_)
  refine lv_iadd (pc := 10) hx hb dX3_allHomes_10 ?_
  refine lv_aload_n (pc := 11) hx hb dX3_allHomes_11 rfl (lv_at hl 0 rfl) ?_
  refine lv_iconst (pc := 12) (v := 2) hx hb dX3_allHomes_12 (by decide) ?_
  obtain ⟨q6, hc5, hf⟩ := zbind hf
  refine zcallVi (pc := 13) (As := [.int (2 : Int32)]) (rest := [.int (q2 + q4)]) ⟨hx, hb, hml, hown, hts⟩ (kX3_withHoles l D ad cy (2 : Int32) u q6 hc5) (cwV 1 hts gX3_allHomes_X3_withHoles rfl rfl rfl (by decide +kernel) ⟨Nat.le_of_ble_eq_true rfl, Nat.le_of_ble_eq_true rfl⟩) hI rfl (xl_12 ad cy u) rfl hl.1 rfl (Nat.le_of_ble_eq_true rfl) dX3_allHomes_13 (Nat.zero_le _) (Nat.zero_le _) (fun H locs hI => ?_)
  refine lv_iadd (pc := 16) hx hb dX3_allHomes_16 ?_
  refine lv_aload_n (pc := 17) hx hb dX3_allHomes_17 rfl (lv_at hl 0 rfl) ?_
  refine lv_iconst (pc := 18) (v := 3) hx hb dX3_allHomes_18 (by decide) ?_
  obtain ⟨q8, hc7, hf⟩ := zbind hf
  refine zcallVi (pc := 19) (As := [.int (3 : Int32)]) (rest := [.int ((q2 + q4) + q6)]) ⟨hx, hb, hml, hown, hts⟩ (kX3_withHoles l D ad cy (3 : Int32) u q8 hc7) (cwV 1 hts gX3_allHomes_X3_withHoles rfl rfl rfl (by decide +kernel) ⟨Nat.le_of_ble_eq_true rfl, Nat.le_of_ble_eq_true rfl⟩) hI rfl (xl_12 ad cy u) rfl hl.1 rfl (Nat.le_of_ble_eq_true rfl) dX3_allHomes_19 (Nat.zero_le _) (Nat.zero_le _) (fun H locs hI => ?_)
  refine lv_iadd (pc := 22) hx hb dX3_allHomes_22 ?_
  cases hf
  exact z_iret (pc := 23) C0 hI dX3_allHomes_23
set_option maxHeartbeats 4000000 in
set_option maxRecDepth 100000 in
theorem kX3_inPart (l : Launch) (D : va_G) (ad : Nat → Nat) (cy : Nat → ClassId) (a1 : Int32) (u : CX) (r : Int32) (hf : fX3_inPart a1 u = some r) : zCt l yX3_inPart wsX3_inPart ({ frames := 0, cells := 0, slots := 0, locals := 0 } : Room) D ad cy [.ref (ad 12), .int a1] (WX ad cy u) (some (.int r)) (WX ad cy u) := by
  refine zCt.of (cc := cX3_inPart) (maxL := 2) (ret := (some .int)) (own := RX3) (by decide) rfl rfl ?_
  intro p e s m below meth c A C0 hI
  obtain ⟨hx, hb, hml, hown, hts, hr, hlk⟩ := id C0
  refine z_entry (Nat.le_of_ble_eq_true rfl) (fun ls hl => ?_)
  have hl : lv_has ls 2 [(0, .ref (ad 12)), (1, .int a1)] := hl
  unfold fX3_inPart at hf
  refine lv_aload_n (pc := 0) hx hb dX3_inPart_0 rfl (lv_at hl 0 rfl) ?_
  refine z_get (pc := 1) (index := 9) hx hb hts iwX3_inPart_3 hown hI (xl_12 ad cy u) rfl 0 (by decide) (by decide +kernel) rfl rfl dX3_inPart_1 ?_
  refine lv_iconst (pc := 4) (v := 5) hx hb dX3_inPart_4 (by decide) ?_
  refine lv_iload_n (pc := 5) hx hb dX3_inPart_5 rfl (lv_at hl 1 rfl) ?_
  refine lv_iadd (pc := 6) hx hb dX3_inPart_6 ?_
  refine z_iald (pc := 7) hx hb hI (xl_13 ad cy u) 0 rfl dX3_inPart_7 hf (fun v1 hf => ?_)
  cases hf
  exact z_iret (pc := 8) C0 hI dX3_inPart_8
set_option maxHeartbeats 4000000 in
set_option maxRecDepth 100000 in
theorem lX3_beginAct_30 (C0 : zFix p m c cX3_beginAct 2 s args wsX3_beginAct RX3 meth none) {k : Nat} {a : Int32 × CX} {b : CX} (hit : ziter (bX3_beginAct_30 k) k a = some b) (hx9 : (fun (b : CX) => ∀ (H : Heap) (locs : List Loc) (ls : Array Slot), zIn D ad cy (WX ad cy b) A s H locs → lv_has ls 2 [] → W p l e ({ frames := 1, cells := 0, slots := 0, locals := 21 } : Room) s m args below meth c H locs 0 0 Q (F0 m 54 ls [])) b) : (fun (a : Int32 × CX) => ∀ (H : Heap) (locs : List Loc) (ls : Array Slot), zIn D ad cy (WX ad cy a.2) A s H locs → lv_has ls 2 [(0, .ref (ad 12)), (1, .int a.1)] → W p l e ({ frames := 1, cells := 0, slots := 0, locals := 21 } : Room) s m args below meth c H locs 0 0 Q (F0 m 30 ls [])) a := by
  obtain ⟨hx, hb, hml, hown, hts, hr, hlk⟩ := id C0
  refine zloop (Wh := (fun (a : Int32 × CX) => ∀ (H : Heap) (locs : List Loc) (ls : Array Slot), zIn D ad cy (WX ad cy a.2) A s H locs → lv_has ls 2 [(0, .ref (ad 12)), (1, .int a.1)] → W p l e ({ frames := 1, cells := 0, slots := 0, locals := 21 } : Room) s m args below meth c H locs 0 0 Q (F0 m 30 ls []))) (Wx := (fun (b : CX) => ∀ (H : Heap) (locs : List Loc) (ls : Array Slot), zIn D ad cy (WX ad cy b) A s H locs → lv_has ls 2 [] → W p l e ({ frames := 1, cells := 0, slots := 0, locals := 21 } : Room) s m args below meth c H locs 0 0 Q (F0 m 54 ls []))) ?_ _ a b hit hx9
  intro a x hf hL hX H locs ls hI hl
  unfold bX3_beginAct_30 at hf
  refine lv_iload_n (pc := 30) hx hb dX3_beginAct_30 rfl (lv_at hl 1 rfl) ?_
  refine lv_bipush (pc := 31) (v := 10) hx hb dX3_beginAct_31 (by decide) ?_
  refine z_icmp_ge (pc := 33) (tgt := 54) hx hb dX3_beginAct_33 (by decide) hf (fun hf => ?_) (fun hf => ?_)
  · exact (hX _ (Option.some.inj hf).symm) _ _ _ hI (lv_sub hl [] rfl)
  refine lv_aload_n (pc := 36) hx hb dX3_beginAct_36 rfl (lv_at hl 0 rfl) ?_
  refine z_get (pc := 37) (index := 15) hx hb hts iwX3_beginAct_3 hown hI (xl_12 ad cy a.2) rfl 1 (by decide) (by decide +kernel) rfl rfl dX3_beginAct_37 ?_
  refine lv_aload_n (pc := 40) hx hb dX3_beginAct_40 rfl (lv_at hl 0 rfl) ?_
  refine z_get (pc := 41) (index := 22) hx hb hts iwX3_beginAct_3 hown hI (xl_12 ad cy a.2) rfl 2 (by decide) (by decide +kernel) rfl rfl dX3_beginAct_41 ?_
  refine z_aald (pc := 44) hx hb hI (xl_14 ad cy a.2) 5 rfl rfl (F := fun j => ad (15 + j)) (fun _ _ => rfl) dX3_beginAct_44 hf (fun j3 hj3 hf => ?_)
  refine lv_iload_n (pc := 45) hx hb dX3_beginAct_45 rfl (lv_at hl 1 rfl) ?_
  refine lv_iconst (pc := 46) (v := 0) hx hb dX3_beginAct_46 (by decide) ?_
  refine z_iast (wf := WX ad cy) (pc := 47) hx hb hI (xl_row ad cy a.2 hj3) 0 rfl dX3_beginAct_47 (fun j => xw_row ad cy a.2 hj3 (upd (xg_rows a.2 j3) j (0 : Int32))) hf (fun j4 u5 H locs hj4 hI hf => ?_)
  refine lv_iinc (pc := 48) (v := (a.1 + 1)) (lv' := [(1, .int (a.1 + 1)), (0, .ref (ad 12))]) hx hb dX3_beginAct_48 hl (k := 1) rfl rfl (by decide) rfl (fun ls hl => ?_)
  refine lv_goto (pc := 51) (tgt := 30) hx hb dX3_beginAct_51 (by decide) ?_
  exact hL _ (Option.some.inj hf).symm _ _ _ hI (lv_sub hl [1, 0] rfl)
set_option maxHeartbeats 4000000 in
set_option maxRecDepth 100000 in
theorem kX3_beginAct (l : Launch) (D : va_G) (ad : Nat → Nat) (cy : Nat → ClassId) (k : Nat) (u : CX) (u' : CX) (hf : fX3_beginAct k u = some u') : zCt l yX3_beginAct wsX3_beginAct ({ frames := 1, cells := 0, slots := 0, locals := 21 } : Room) D ad cy [.ref (ad 12)] (WX ad cy u) none (WX ad cy u') := by
  refine zCt.of (cc := cX3_beginAct) (maxL := 2) (ret := none) (own := RX3) (by decide) rfl rfl ?_
  intro p e s m below meth c A C0 hI
  obtain ⟨hx, hb, hml, hown, hts, hr, hlk⟩ := id C0
  refine z_entry (Nat.le_of_ble_eq_true rfl) (fun ls hl => ?_)
  have hl : lv_has ls 2 [(0, .ref (ad 12))] := hl
  unfold fX3_beginAct at hf
  refine lv_aload_n (pc := 0) hx hb dX3_beginAct_0 rfl (lv_at hl 0 rfl) ?_
  refine lv_aload_n (pc := 1) hx hb dX3_beginAct_1 rfl (lv_at hl 0 rfl) ?_
  refine z_get (pc := 2) (index := 22) hx hb hts iwX3_beginAct_3 hown hI (xl_12 ad cy u) rfl 2 (by decide) (by decide +kernel) rfl rfl dX3_beginAct_2 ?_
  refine lv_iconst (pc := 5) (v := 1) hx hb dX3_beginAct_5 (by decide) ?_
  refine lv_iadd (pc := 6) hx hb dX3_beginAct_6 ?_
  refine lv_bipush (pc := 7) (v := 8) hx hb dX3_beginAct_7 (by decide) ?_
  refine z_irem (pc := 9) hx hb dX3_beginAct_9 hf (fun hf => ?_)
  refine z_put (wf := WX ad cy) (pc := 10) (index := 22) hx hb hts iwX3_beginAct_3 tyX3 tyX3_ok nmX3 hown hI (xl_12 ad cy u) rfl 2 (by decide) (by decide +kernel) rfl rfl rfl rfl (Nat.le_of_ble_eq_true rfl) dX3_beginAct_10 (xw_latest ad cy u (zremI ((xg_latest u) + (1 : Int32)) (8 : Int32))) hf (fun u1 H locs hI hf => ?_)
  refine lv_aload_n (pc := 13) hx hb dX3_beginAct_13 rfl (lv_at hl 0 rfl) ?_
  refine lv_aload_n (pc := 14) hx hb dX3_beginAct_14 rfl (lv_at hl 0 rfl) ?_
  refine z_get (pc := 15) (index := 26) hx hb hts iwX3_beginAct_3 hown hI (xl_12 ad cy u1) rfl 3 (by decide) (by decide +kernel) rfl rfl dX3_beginAct_15 ?_
  refine lv_iconst (pc := 18) (v := 1) hx hb dX3_beginAct_18 (by decide) ?_
  refine lv_iadd (pc := 19) hx hb dX3_beginAct_19 ?_
  refine lv_bipush (pc := 20) (v := 8) hx hb dX3_beginAct_20 (by decide) ?_
  refine z_mmin (pc := 22) hx hb (hml.trans hl.1.symm) hown (hts (.methodLink RX3 29 Lib.Math.min.name) (by decide +kernel)) (hts (.static Lib.Math.min.name) (by decide +kernel)) (hts (.initialized "java/lang/Math") (by decide +kernel)) (hts (.code Lib.Math.min.name Lib.Math.min.code 2 (some .int)) (by decide +kernel)) (Nat.le_of_ble_eq_true rfl) (Nat.le_of_ble_eq_true rfl) (Nat.zero_le _) (Nat.zero_le _) dX3_beginAct_22 ?_
  refine z_put (wf := WX ad cy) (pc := 25) (index := 26) hx hb hts iwX3_beginAct_3 tyX3 tyX3_ok nmX3 hown hI (xl_12 ad cy u1) rfl 3 (by decide) (by decide +kernel) rfl rfl rfl rfl (Nat.le_of_ble_eq_true rfl) dX3_beginAct_25 (xw_acts ad cy u1 (zminI ((xg_acts u1) + (1 : Int32)) (8 : Int32))) hf (fun u2 H locs hI hf => ?_)
  refine lv_iconst (pc := 28) (v := 0) hx hb dX3_beginAct_28 (by decide) ?_
  refine lv_istore_n (pc := 29) (lv' := [(1, .int (0 : Int32)), (0, .ref (ad 12))]) hx hb dX3_beginAct_29 rfl hl (by decide) rfl (fun ls hl => ?_)
  obtain ⟨b6, hb7, hf⟩ := zbind hf
  refine lX3_beginAct_30 C0 hb7 ?_ _ _ _ hI (lv_sub hl [1, 0] rfl)
  intro H locs ls hI hl
  cases hf
  exact z_vret (pc := 54) C0 hI dX3_beginAct_54
set_option maxHeartbeats 4000000 in
set_option maxRecDepth 100000 in
theorem kX3_add (l : Launch) (D : va_G) (ad : Nat → Nat) (cy : Nat → ClassId) (a1 : Int32) (a2 : Int32) (u : CX) (u' : CX) (hf : fX3_add a1 a2 u = some u') : zCt l yX3_add wsX3_add ({ frames := 0, cells := 0, slots := 0, locals := 0 } : Room) D ad cy [.ref (ad 12), .int a1, .int a2] (WX ad cy u) none (WX ad cy u') := by
  refine zCt.of (cc := cX3_add) (maxL := 3) (ret := none) (own := RX3) (by decide) rfl rfl ?_
  intro p e s m below meth c A C0 hI
  obtain ⟨hx, hb, hml, hown, hts, hr, hlk⟩ := id C0
  refine z_entry (Nat.le_of_ble_eq_true rfl) (fun ls hl => ?_)
  have hl : lv_has ls 3 [(0, .ref (ad 12)), (1, .int a1), (2, .int a2)] := hl
  unfold fX3_add at hf
  refine lv_aload_n (pc := 0) hx hb dX3_add_0 rfl (lv_at hl 0 rfl) ?_
  refine z_get (pc := 1) (index := 9) hx hb hts iwX3_add_3 hown hI (xl_12 ad cy u) rfl 0 (by decide) (by decide +kernel) rfl rfl dX3_add_1 ?_
  refine lv_iload_n (pc := 4) hx hb dX3_add_4 rfl (lv_at hl 1 rfl) ?_
  refine lv_dup2_11 (pc := 5) hx hb dX3_add_5 rfl rfl ?_
  refine z_iald (pc := 6) hx hb hI (xl_13 ad cy u) 0 rfl dX3_add_6 hf (fun v1 hf => ?_)
  refine lv_iload_n (pc := 7) hx hb dX3_add_7 rfl (lv_at hl 2 rfl) ?_
  refine lv_iadd (pc := 8) hx hb dX3_add_8 ?_
  refine z_iast (wf := WX ad cy) (pc := 9) hx hb hI (xl_13 ad cy u) 0 rfl dX3_add_9 (fun j => xw_sums ad cy u (upd (xg_sums u) j (v1 + a2))) hf (fun j2 u3 H locs hj2 hI hf => ?_)
  refine lv_aload_n (pc := 10) hx hb dX3_add_10 rfl (lv_at hl 0 rfl) ?_
  refine z_get (pc := 11) (index := 15) hx hb hts iwX3_add_3 hown hI (xl_12 ad cy u3) rfl 1 (by decide) (by decide +kernel) rfl rfl dX3_add_11 ?_
  refine lv_aload_n (pc := 14) hx hb dX3_add_14 rfl (lv_at hl 0 rfl) ?_
  refine z_get (pc := 15) (index := 22) hx hb hts iwX3_add_3 hown hI (xl_12 ad cy u3) rfl 2 (by decide) (by decide +kernel) rfl rfl dX3_add_15 ?_
  refine z_aald (pc := 18) hx hb hI (xl_14 ad cy u3) 5 rfl rfl (F := fun j => ad (15 + j)) (fun _ _ => rfl) dX3_add_18 hf (fun j4 hj4 hf => ?_)
  refine lv_iload_n (pc := 19) hx hb dX3_add_19 rfl (lv_at hl 1 rfl) ?_
  refine lv_dup2_11 (pc := 20) hx hb dX3_add_20 rfl rfl ?_
  refine z_iald (pc := 21) hx hb hI (xl_row ad cy u3 hj4) 0 rfl dX3_add_21 hf (fun v5 hf => ?_)
  refine lv_iload_n (pc := 22) hx hb dX3_add_22 rfl (lv_at hl 2 rfl) ?_
  refine lv_iadd (pc := 23) hx hb dX3_add_23 ?_
  refine z_iast (wf := WX ad cy) (pc := 24) hx hb hI (xl_row ad cy u3 hj4) 0 rfl dX3_add_24 (fun j => xw_row ad cy u3 hj4 (upd (xg_rows u3 j4) j (v5 + a2))) hf (fun j6 u7 H locs hj6 hI hf => ?_)
  cases hf
  exact z_vret (pc := 25) C0 hI dX3_add_25
set_option maxHeartbeats 4000000 in
set_option maxRecDepth 100000 in
theorem kX3_addHomes (l : Launch) (D : va_G) (ad : Nat → Nat) (cy : Nat → ClassId) (a1 : Int32) (a2 : Int32) (a3 : Int32) (a4 : Int32) (a5 : Int32) (u : CX) (u' : CX) (hf : fX3_addHomes a1 a2 a3 a4 a5 u = some u') : zCt l yX3_addHomes wsX3_addHomes ({ frames := 1, cells := 0, slots := 0, locals := 22 } : Room) D ad cy [.ref (ad 12), .int a1, .int a2, .int a3, .int a4, .int a5] (WX ad cy u) none (WX ad cy u') := by
  refine zCt.of (cc := cX3_addHomes) (maxL := 7) (ret := none) (own := RX3) (by decide) rfl rfl ?_
  intro p e s m below meth c A C0 hI
  obtain ⟨hx, hb, hml, hown, hts, hr, hlk⟩ := id C0
  refine z_entry (Nat.le_of_ble_eq_true rfl) (fun ls hl => ?_)
  have hl : lv_has ls 7 [(0, .ref (ad 12)), (1, .int a1), (2, .int a2), (3, .int a3), (4, .int a4), (5, .int a5)] := hl
  unfold fX3_addHomes at hf
  refine lv_iload_n (pc := 0) hx hb dX3_addHomes_0 rfl (lv_at hl 2 rfl) ?_
  refine lv_iload_n (pc := 1) hx hb dX3_addHomes_1 rfl (lv_at hl 3 rfl) ?_
  refine lv_iadd (pc := 2) hx hb dX3_addHomes_2 ?_
  refine lv_iload (pc := 3) hx hb dX3_addHomes_3 (lv_at hl 4 rfl) ?_
  refine lv_iadd (pc := 5) hx hb dX3_addHomes_5 ?_
  refine lv_iload (pc := 6) hx hb dX3_addHomes_6 (lv_at hl 5 rfl) ?_
  refine lv_iadd (pc := 8) hx hb dX3_addHomes_8 ?_
  refine z_bi hf (fun v1 hf => ?_)
  refine lv_istore (pc := 9) (lv' := [(6, .int v1), (0, .ref (ad 12)), (1, .int a1), (2, .int a2), (3, .int a3), (4, .int a4), (5, .int a5)]) hx hb dX3_addHomes_9 hl (by decide) rfl (fun ls hl => ?_)
  refine lv_iload (pc := 11) hx hb dX3_addHomes_11 (lv_at hl 0 rfl) ?_
  refine z_if_lt (pc := 13) (tgt := 22) hx hb dX3_addHomes_13 (by decide) hf (fun hf => ?_) (fun hf => ?_)
  · cases hf
    exact z_vret (pc := 22) C0 hI dX3_addHomes_22
  refine lv_iload (pc := 16) hx hb dX3_addHomes_16 (lv_at hl 0 rfl) ?_
  refine lv_iconst (pc := 18) (v := 3) hx hb dX3_addHomes_18 (by decide) ?_
  refine z_icmp_le (pc := 19) (tgt := 23) hx hb dX3_addHomes_19 (by decide) hf (fun hf => ?_) (fun hf => ?_)
  · refine lv_aload_n (pc := 23) hx hb dX3_addHomes_23 rfl (lv_at hl 1 rfl) ?_
    refine lv_iconst (pc := 24) (v := 1) hx hb dX3_addHomes_24 (by decide) ?_
    refine lv_iload (pc := 25) hx hb dX3_addHomes_25 (lv_at hl 0 rfl) ?_
    refine lv_iadd (pc := 27) hx hb dX3_addHomes_27 ?_
    refine lv_iload_n (pc := 28) hx hb dX3_addHomes_28 rfl (lv_at hl 2 rfl) ?_
    obtain ⟨q3, hc2, hf⟩ := zbind hf
    refine zcallVv (pc := 29) (As := [.int ((1 : Int32) + v1), .int a1]) (rest := []) ⟨hx, hb, hml, hown, hts⟩ (kX3_add l D ad cy ((1 : Int32) + v1) a1 u q3 hc2) (cwV 2 hts gX3_addHomes_X3_add rfl rfl rfl (by decide +kernel) ⟨Nat.le_of_ble_eq_true rfl, Nat.le_of_ble_eq_true rfl⟩) hI rfl (xl_12 ad cy u) rfl hl.1 rfl (Nat.le_of_ble_eq_true rfl) dX3_addHomes_29 (Nat.zero_le _) (Nat.zero_le _) (fun H locs hI => ?_)
    refine lv_aload_n (pc := 32) hx hb dX3_addHomes_32 rfl (lv_at hl 1 rfl) ?_
    refine lv_iconst (pc := 33) (v := 5) hx hb dX3_addHomes_33 (by decide) ?_
    refine lv_iload_n (pc := 34) hx hb dX3_addHomes_34 rfl (lv_at hl 2 rfl) ?_
    refine lv_iload_n (pc := 35) hx hb dX3_addHomes_35 rfl (lv_at hl 3 rfl) ?_
    refine lv_imul (pc := 36) hx hb dX3_addHomes_36 ?_
    obtain ⟨q5, hc4, hf⟩ := zbind hf
    refine zcallVv (pc := 37) (As := [.int (5 : Int32), .int (a1 * a2)]) (rest := []) ⟨hx, hb, hml, hown, hts⟩ (kX3_add l D ad cy (5 : Int32) (a1 * a2) q3 q5 hc4) (cwV 2 hts gX3_addHomes_X3_add rfl rfl rfl (by decide +kernel) ⟨Nat.le_of_ble_eq_true rfl, Nat.le_of_ble_eq_true rfl⟩) hI rfl (xl_12 ad cy q3) rfl hl.1 rfl (Nat.le_of_ble_eq_true rfl) dX3_addHomes_37 (Nat.zero_le _) (Nat.zero_le _) (fun H locs hI => ?_)
    refine lv_aload_n (pc := 40) hx hb dX3_addHomes_40 rfl (lv_at hl 1 rfl) ?_
    refine lv_bipush (pc := 41) (v := 6) hx hb dX3_addHomes_41 (by decide) ?_
    refine lv_iload_n (pc := 43) hx hb dX3_addHomes_43 rfl (lv_at hl 2 rfl) ?_
    refine lv_iload_n (pc := 44) hx hb dX3_addHomes_44 rfl (lv_at hl 4 rfl) ?_
    refine lv_imul (pc := 45) hx hb dX3_addHomes_45 ?_
    obtain ⟨q7, hc6, hf⟩ := zbind hf
    refine zcallVv (pc := 46) (As := [.int (6 : Int32), .int (a1 * a3)]) (rest := []) ⟨hx, hb, hml, hown, hts⟩ (kX3_add l D ad cy (6 : Int32) (a1 * a3) q5 q7 hc6) (cwV 2 hts gX3_addHomes_X3_add rfl rfl rfl (by decide +kernel) ⟨Nat.le_of_ble_eq_true rfl, Nat.le_of_ble_eq_true rfl⟩) hI rfl (xl_12 ad cy q5) rfl hl.1 rfl (Nat.le_of_ble_eq_true rfl) dX3_addHomes_46 (Nat.zero_le _) (Nat.zero_le _) (fun H locs hI => ?_)
    refine lv_aload_n (pc := 49) hx hb dX3_addHomes_49 rfl (lv_at hl 1 rfl) ?_
    refine lv_bipush (pc := 50) (v := 7) hx hb dX3_addHomes_50 (by decide) ?_
    refine lv_iload_n (pc := 52) hx hb dX3_addHomes_52 rfl (lv_at hl 2 rfl) ?_
    refine lv_iload (pc := 53) hx hb dX3_addHomes_53 (lv_at hl 5 rfl) ?_
    refine lv_imul (pc := 55) hx hb dX3_addHomes_55 ?_
    obtain ⟨q9, hc8, hf⟩ := zbind hf
    refine zcallVv (pc := 56) (As := [.int (7 : Int32), .int (a1 * a4)]) (rest := []) ⟨hx, hb, hml, hown, hts⟩ (kX3_add l D ad cy (7 : Int32) (a1 * a4) q7 q9 hc8) (cwV 2 hts gX3_addHomes_X3_add rfl rfl rfl (by decide +kernel) ⟨Nat.le_of_ble_eq_true rfl, Nat.le_of_ble_eq_true rfl⟩) hI rfl (xl_12 ad cy q7) rfl hl.1 rfl (Nat.le_of_ble_eq_true rfl) dX3_addHomes_56 (Nat.zero_le _) (Nat.zero_le _) (fun H locs hI => ?_)
    refine lv_aload_n (pc := 59) hx hb dX3_addHomes_59 rfl (lv_at hl 1 rfl) ?_
    refine lv_bipush (pc := 60) (v := 8) hx hb dX3_addHomes_60 (by decide) ?_
    refine lv_iload_n (pc := 62) hx hb dX3_addHomes_62 rfl (lv_at hl 2 rfl) ?_
    refine lv_iload (pc := 63) hx hb dX3_addHomes_63 (lv_at hl 6 rfl) ?_
    refine lv_imul (pc := 65) hx hb dX3_addHomes_65 ?_
    obtain ⟨q11, hc10, hf⟩ := zbind hf
    refine zcallVv (pc := 66) (As := [.int (8 : Int32), .int (a1 * a5)]) (rest := []) ⟨hx, hb, hml, hown, hts⟩ (kX3_add l D ad cy (8 : Int32) (a1 * a5) q9 q11 hc10) (cwV 2 hts gX3_addHomes_X3_add rfl rfl rfl (by decide +kernel) ⟨Nat.le_of_ble_eq_true rfl, Nat.le_of_ble_eq_true rfl⟩) hI rfl (xl_12 ad cy q9) rfl hl.1 rfl (Nat.le_of_ble_eq_true rfl) dX3_addHomes_66 (Nat.zero_le _) (Nat.zero_le _) (fun H locs hI => ?_)
    cases hf
    exact z_vret (pc := 69) C0 hI dX3_addHomes_69
  cases hf
  exact z_vret (pc := 22) C0 hI dX3_addHomes_22
set_option maxHeartbeats 4000000 in
set_option maxRecDepth 100000 in
theorem lX3_takeBack_2 (C0 : zFix p m c cX3_takeBack 2 s args wsX3_takeBack RX3 meth none) {k : Nat} {a : Int32 × CX} {b : CX} (hit : ziter (bX3_takeBack_2 k) k a = some b) (hx9 : (fun (b : CX) => ∀ (H : Heap) (locs : List Loc) (ls : Array Slot), zIn D ad cy (WX ad cy b) A s H locs → lv_has ls 2 [(0, .ref (ad 12))] → W p l e ({ frames := 0, cells := 0, slots := 0, locals := 0 } : Room) s m args below meth c H locs 0 0 Q (F0 m 34 ls [])) b) : (fun (a : Int32 × CX) => ∀ (H : Heap) (locs : List Loc) (ls : Array Slot), zIn D ad cy (WX ad cy a.2) A s H locs → lv_has ls 2 [(0, .ref (ad 12)), (1, .int a.1)] → W p l e ({ frames := 0, cells := 0, slots := 0, locals := 0 } : Room) s m args below meth c H locs 0 0 Q (F0 m 2 ls [])) a := by
  obtain ⟨hx, hb, hml, hown, hts, hr, hlk⟩ := id C0
  refine zloop (Wh := (fun (a : Int32 × CX) => ∀ (H : Heap) (locs : List Loc) (ls : Array Slot), zIn D ad cy (WX ad cy a.2) A s H locs → lv_has ls 2 [(0, .ref (ad 12)), (1, .int a.1)] → W p l e ({ frames := 0, cells := 0, slots := 0, locals := 0 } : Room) s m args below meth c H locs 0 0 Q (F0 m 2 ls []))) (Wx := (fun (b : CX) => ∀ (H : Heap) (locs : List Loc) (ls : Array Slot), zIn D ad cy (WX ad cy b) A s H locs → lv_has ls 2 [(0, .ref (ad 12))] → W p l e ({ frames := 0, cells := 0, slots := 0, locals := 0 } : Room) s m args below meth c H locs 0 0 Q (F0 m 34 ls []))) ?_ _ a b hit hx9
  intro a x hf hL hX H locs ls hI hl
  unfold bX3_takeBack_2 at hf
  refine lv_iload_n (pc := 2) hx hb dX3_takeBack_2 rfl (lv_at hl 1 rfl) ?_
  refine lv_bipush (pc := 3) (v := 10) hx hb dX3_takeBack_3 (by decide) ?_
  refine z_icmp_ge (pc := 5) (tgt := 34) hx hb dX3_takeBack_5 (by decide) hf (fun hf => ?_) (fun hf => ?_)
  · exact (hX _ (Option.some.inj hf).symm) _ _ _ hI (lv_sub hl [0] rfl)
  refine lv_aload_n (pc := 8) hx hb dX3_takeBack_8 rfl (lv_at hl 0 rfl) ?_
  refine z_get (pc := 9) (index := 9) hx hb hts iwX3_takeBack_3 hown hI (xl_12 ad cy a.2) rfl 0 (by decide) (by decide +kernel) rfl rfl dX3_takeBack_9 ?_
  refine lv_iload_n (pc := 12) hx hb dX3_takeBack_12 rfl (lv_at hl 1 rfl) ?_
  refine lv_dup2_11 (pc := 13) hx hb dX3_takeBack_13 rfl rfl ?_
  refine z_iald (pc := 14) hx hb hI (xl_13 ad cy a.2) 0 rfl dX3_takeBack_14 hf (fun v1 hf => ?_)
  refine lv_aload_n (pc := 15) hx hb dX3_takeBack_15 rfl (lv_at hl 0 rfl) ?_
  refine z_get (pc := 16) (index := 15) hx hb hts iwX3_takeBack_3 hown hI (xl_12 ad cy a.2) rfl 1 (by decide) (by decide +kernel) rfl rfl dX3_takeBack_16 ?_
  refine lv_aload_n (pc := 19) hx hb dX3_takeBack_19 rfl (lv_at hl 0 rfl) ?_
  refine z_get (pc := 20) (index := 22) hx hb hts iwX3_takeBack_3 hown hI (xl_12 ad cy a.2) rfl 2 (by decide) (by decide +kernel) rfl rfl dX3_takeBack_20 ?_
  refine z_aald (pc := 23) hx hb hI (xl_14 ad cy a.2) 5 rfl rfl (F := fun j => ad (15 + j)) (fun _ _ => rfl) dX3_takeBack_23 hf (fun j2 hj2 hf => ?_)
  refine lv_iload_n (pc := 24) hx hb dX3_takeBack_24 rfl (lv_at hl 1 rfl) ?_
  refine z_iald (pc := 25) hx hb hI (xl_row ad cy a.2 hj2) 0 rfl dX3_takeBack_25 hf (fun v3 hf => ?_)
  refine lv_isub (pc := 26) hx hb dX3_takeBack_26 ?_
  refine z_iast (wf := WX ad cy) (pc := 27) hx hb hI (xl_13 ad cy a.2) 0 rfl dX3_takeBack_27 (fun j => xw_sums ad cy a.2 (upd (xg_sums a.2) j (v1 - v3))) hf (fun j4 u5 H locs hj4 hI hf => ?_)
  refine lv_iinc (pc := 28) (v := (a.1 + 1)) (lv' := [(1, .int (a.1 + 1)), (0, .ref (ad 12))]) hx hb dX3_takeBack_28 hl (k := 1) rfl rfl (by decide) rfl (fun ls hl => ?_)
  refine lv_goto (pc := 31) (tgt := 2) hx hb dX3_takeBack_31 (by decide) ?_
  exact hL _ (Option.some.inj hf).symm _ _ _ hI (lv_sub hl [1, 0] rfl)
set_option maxHeartbeats 4000000 in
set_option maxRecDepth 100000 in
theorem kX3_takeBack (l : Launch) (D : va_G) (ad : Nat → Nat) (cy : Nat → ClassId) (k : Nat) (u : CX) (u' : CX) (hf : fX3_takeBack k u = some u') : zCt l yX3_takeBack wsX3_takeBack ({ frames := 0, cells := 0, slots := 0, locals := 0 } : Room) D ad cy [.ref (ad 12)] (WX ad cy u) none (WX ad cy u') := by
  refine zCt.of (cc := cX3_takeBack) (maxL := 2) (ret := none) (own := RX3) (by decide) rfl rfl ?_
  intro p e s m below meth c A C0 hI
  obtain ⟨hx, hb, hml, hown, hts, hr, hlk⟩ := id C0
  refine z_entry (Nat.le_of_ble_eq_true rfl) (fun ls hl => ?_)
  have hl : lv_has ls 2 [(0, .ref (ad 12))] := hl
  unfold fX3_takeBack at hf
  refine lv_iconst (pc := 0) (v := 0) hx hb dX3_takeBack_0 (by decide) ?_
  refine lv_istore_n (pc := 1) (lv' := [(1, .int (0 : Int32)), (0, .ref (ad 12))]) hx hb dX3_takeBack_1 rfl hl (by decide) rfl (fun ls hl => ?_)
  obtain ⟨b6, hb7, hf⟩ := zbind hf
  refine lX3_takeBack_2 C0 hb7 ?_ _ _ _ hI (lv_sub hl [1, 0] rfl)
  intro H locs ls hI hl
  refine lv_aload_n (pc := 34) hx hb dX3_takeBack_34 rfl (lv_at hl 0 rfl) ?_
  refine lv_aload_n (pc := 35) hx hb dX3_takeBack_35 rfl (lv_at hl 0 rfl) ?_
  refine z_get (pc := 36) (index := 22) hx hb hts iwX3_takeBack_3 hown hI (xl_12 ad cy b6) rfl 2 (by decide) (by decide +kernel) rfl rfl dX3_takeBack_36 ?_
  refine lv_bipush (pc := 39) (v := 8) hx hb dX3_takeBack_39 (by decide) ?_
  refine lv_iadd (pc := 41) hx hb dX3_takeBack_41 ?_
  refine lv_iconst (pc := 42) (v := 1) hx hb dX3_takeBack_42 (by decide) ?_
  refine lv_isub (pc := 43) hx hb dX3_takeBack_43 ?_
  refine lv_bipush (pc := 44) (v := 8) hx hb dX3_takeBack_44 (by decide) ?_
  refine z_irem (pc := 46) hx hb dX3_takeBack_46 hf (fun hf => ?_)
  refine z_put (wf := WX ad cy) (pc := 47) (index := 22) hx hb hts iwX3_takeBack_3 tyX3 tyX3_ok nmX3 hown hI (xl_12 ad cy b6) rfl 2 (by decide) (by decide +kernel) rfl rfl rfl rfl (Nat.le_of_ble_eq_true rfl) dX3_takeBack_47 (xw_latest ad cy b6 (zremI (((xg_latest b6) + (8 : Int32)) - (1 : Int32)) (8 : Int32))) hf (fun u8 H locs hI hf => ?_)
  refine lv_aload_n (pc := 50) hx hb dX3_takeBack_50 rfl (lv_at hl 0 rfl) ?_
  refine lv_dup (pc := 51) hx hb dX3_takeBack_51 rfl ?_
  refine z_get (pc := 52) (index := 26) hx hb hts iwX3_takeBack_3 hown hI (xl_12 ad cy u8) rfl 3 (by decide) (by decide +kernel) rfl rfl dX3_takeBack_52 ?_
  refine lv_iconst (pc := 55) (v := 1) hx hb dX3_takeBack_55 (by decide) ?_
  refine lv_isub (pc := 56) hx hb dX3_takeBack_56 ?_
  refine z_put (wf := WX ad cy) (pc := 57) (index := 26) hx hb hts iwX3_takeBack_3 tyX3 tyX3_ok nmX3 hown hI (xl_12 ad cy u8) rfl 3 (by decide) (by decide +kernel) rfl rfl rfl rfl (Nat.le_of_ble_eq_true rfl) dX3_takeBack_57 (xw_acts ad cy u8 ((xg_acts u8) - (1 : Int32))) hf (fun u9 H locs hI hf => ?_)
  cases hf
  exact z_vret (pc := 60) C0 hI dX3_takeBack_60
end
