def fX10_isPart (a1 : Int32) : Option (Int32) :=
  (fX10_in (a1.toInt64) (0 : Int64) (3 : Int64)).bind (fun q2 =>
  zbo q2 (some q2))
theorem iwX10_part_10 : ∀ w ∈ wsX100, w ∈ wsX10_part := by decide +kernel
def fX10_part (a1 : Int32) (a2 : Int32) (u : MX) : Option (Int32) :=
  (fX10_isPart a1).bind (fun q2 =>
  if q2 = 0 then
    some (-1 : Int32)
  else
  (fX10_in (a2.toInt64) (0 : Int64) (2 : Int64)).bind (fun q4 =>
  if q4 = 0 then
    some (-1 : Int32)
  else
  zget 19 (mg_holds u) (((4 : Int32) * a2) + a1) (fun v5 =>
  some v5)))
theorem iwX10_rule_10 : ∀ w ∈ wsX100, w ∈ wsX10_rule := by decide +kernel
def fX10_rule (a1 : Int32) (u : MX) : Option (Int32) :=
  (fX10_in (a1.toInt64) (0 : Int64) (6 : Int64)).bind (fun q2 =>
  if q2 = 0 then
    some (-1 : Int32)
  else
  zget 19 (mg_holds u) ((12 : Int32) + a1) (fun v3 =>
  some v3))
theorem iwX10_acts_10 : ∀ w ∈ wsX100, w ∈ wsX10_acts := by decide +kernel
def bX10_acts_51 (k : Nat) (a : Int32 × MX) : Option ((Int32 × MX) ⊕ (MX)) :=
  if (10 : Int32) ≤ a.1 then
    some (.inr a.2)
  else
  zget 10 (mg_known a.2) a.1 (fun v1 =>
  zix 80 (((10 : Int32) * (mg_undos a.2)) + a.1) (fun j2 => zb (ms_back a.2 (upd (mg_back a.2) j2 v1)) (fun u3 =>
  some (.inl ((a.1 + 1), u3)))))
def bX10_acts_12 (k : Nat) (a : Int32 × MX) : Option ((Int32 × MX) ⊕ (MX)) :=
  if (80 : Int32) ≤ a.1 then
    some (.inr a.2)
  else
  zget 80 (mg_back a.2) a.1 (fun v8 =>
  zix 80 (a.1 - (10 : Int32)) (fun j9 => zb (ms_back a.2 (upd (mg_back a.2) j9 v8)) (fun u10 =>
  some (.inl ((a.1 + 1), u10)))))
def fX10_acts (k : Nat) (u : MX) : Option (MX) :=
  if (mg_undos u) = (8 : Int32) then
    (ziter (bX10_acts_12 k) k ((10 : Int32), u)).bind (fun b11 =>
      zb (ms_undos b11 ((mg_undos b11) - (1 : Int32))) (fun u13 =>
      (ziter (bX10_acts_51 k) k ((0 : Int32), u13)).bind (fun b14 =>
        zb (ms_undos b14 ((mg_undos b14) + (1 : Int32))) (fun u16 =>
        zb (ms_old u16 (1 : Int32)) (fun u17 =>
        some u17)))))
  else
  (ziter (bX10_acts_51 k) k ((0 : Int32), u)).bind (fun b4 =>
    zb (ms_undos b4 ((mg_undos b4) + (1 : Int32))) (fun u6 =>
    zb (ms_old u6 (1 : Int32)) (fun u7 =>
    some u7)))
def fX10_figure (a1 : Int32) (a2 : Int32) : Option (Int32) :=
  some ((a1 >>> (((2 : Int32) * ((3 : Int32) - a2)) &&& 31)) &&& (3 : Int32))
def bX10_sumOf_4 (k : Nat) (p0 : Int32) (a : Int32 × Int32) : Option ((Int32 × Int32) ⊕ (Int32)) :=
  if (4 : Int32) ≤ a.2 then
    some (.inr a.1)
  else
  (fX10_figure p0 a.2).bind (fun q2 =>
  zb (a.1 + q2) (fun v3 =>
  some (.inl (v3, (a.2 + 1)))))
def fX10_sumOf (k : Nat) (a1 : Int32) : Option (Int32) :=
  (ziter (bX10_sumOf_4 k a1) k ((0 : Int32), (0 : Int32))).bind (fun b4 =>
    some b4)
theorem iwX10_home_10 : ∀ w ∈ wsX100, w ∈ wsX10_home := by decide +kernel
def bX10_home_17 (k : Nat) (p1 : Int32) (p2 : Int32) (a : Int32 × MX) : Option ((Int32 × MX) ⊕ (MX)) :=
  if (4 : Int32) ≤ a.1 then
    some (.inr a.2)
  else
  zb ((5 : Int32) + a.1) (fun v7 =>
  zget 10 (mg_known a.2) v7 (fun v8 =>
  (fX10_figure p2 a.1).bind (fun q10 =>
  zix 10 v7 (fun j11 => zb (ms_known a.2 (upd (mg_known a.2) j11 (v8 + (p1 * q10)))) (fun u12 =>
  some (.inl ((a.1 + 1), u12)))))))
def fX10_home (k : Nat) (a1 : Int32) (a2 : Int32) (u : MX) : Option (MX) :=
  (fX10_sumOf k a2).bind (fun q2 =>
  zb ((1 : Int32) + q2) (fun v3 =>
  zget 10 (mg_known u) v3 (fun v4 =>
  zix 10 v3 (fun j5 => zb (ms_known u (upd (mg_known u) j5 (v4 + a1))) (fun u6 =>
  (ziter (bX10_home_17 k a1 a2) k ((0 : Int32), u6)).bind (fun b13 =>
    some b13))))))
theorem iwX10_told_10 : ∀ w ∈ wsX100, w ∈ wsX10_told := by decide +kernel
def fX10_told (k : Nat) (a1 : Int32) (a2 : Int32) (a3 : Int32) (u : MX) : Option (Int32 × MX) :=
  (fX10_in (a1.toInt64) (1 : Int64) (99 : Int64)).bind (fun q2 =>
  if q2 = 0 then
    some ((-1 : Int32), u)
  else
  (fX10_in (a2.toInt64) (0 : Int64) (a1.toInt64)).bind (fun q4 =>
  if q4 = 0 then
    some ((-1 : Int32), u)
  else
  (fX10_in (a3.toInt64) (0 : Int64) (255 : Int64)).bind (fun q6 =>
  if q6 = 0 then
    some ((-1 : Int32), u)
  else
  (fX10_sumOf k a3).bind (fun q8 =>
  if q8 ≤ (3 : Int32) then
    zget 10 (mg_known u) (0 : Int32) (fun v9 =>
    if (v9 + a1) ≤ (999 : Int32) then
      (fX10_acts k u).bind (fun q11 =>
      zget 10 (mg_known q11) (0 : Int32) (fun v12 =>
      zix 10 (0 : Int32) (fun j13 => zb (ms_known q11 (upd (mg_known q11) j13 (v12 + a1))) (fun u14 =>
      (fX10_home k a2 a3 u14).bind (fun q16 =>
      zget 10 (mg_known q16) (0 : Int32) (fun v17 =>
      some (v17, q16)))))))
    else
    some ((-3 : Int32), u))
  else
  some ((-1 : Int32), u)))))
theorem iwX10_drawn_10 : ∀ w ∈ wsX100, w ∈ wsX10_drawn := by decide +kernel
def fX10_drawn (a1 : Int32) (u : MX) : Option (Int32 × MX) :=
  zb (ms_seed u (((mg_seed u) * (1103515245 : Int32)) + (12345 : Int32))) (fun u1 =>
  zdi a1 (
  some ((zremI (((mg_seed u1) >>> ((16 : Int32) &&& 31)) &&& (32767 : Int32)) a1), u1)))
theorem iwX10_drawOf_10 : ∀ w ∈ wsX100, w ∈ wsX10_drawOf := by decide +kernel
def bX10_drawOf_43 (k : Nat) (p1 : Int32) (u : MX) (a : Int32 × Int32) : Option ((Int32 × Int32) ⊕ (Int32)) :=
  zget 19 (mg_holds u) (p1 + a.2) (fun v8 =>
  if a.1 < v8 then
    some (.inr a.2)
  else
  zget 19 (mg_holds u) (p1 + a.2) (fun v9 =>
  zb (a.1 - v9) (fun v10 =>
  some (.inl (v10, (a.2 + 1))))))
def fX10_drawOf (k : Nat) (a1 : Int32) (u : MX) : Option (Int32 × MX) :=
  zget 19 (mg_holds u) a1 (fun v1 =>
  zget 19 (mg_holds u) (a1 + (1 : Int32)) (fun v2 =>
  zget 19 (mg_holds u) (a1 + (2 : Int32)) (fun v3 =>
  zget 19 (mg_holds u) (a1 + (3 : Int32)) (fun v4 =>
  zb (((v1 + v2) + v3) + v4) (fun v5 =>
  (fX10_drawn v5 u).bind (fun q7 =>
  (ziter (bX10_drawOf_43 k a1 q7.2) k (q7.1, (0 : Int32))).bind (fun b11 =>
    some (b11, q7.2))))))))
theorem iwX10_sortie_10 : ∀ w ∈ wsX100, w ∈ wsX10_sortie := by decide +kernel
def bX10_sortie_31 (k : Nat) (p1 : Int32) (a : Int32 × Int32 × MX) : Option ((Int32 × Int32 × MX) ⊕ ((MX) ⊕ (Int32 × MX))) :=
  if p1 ≤ a.2.1 then
    some (.inr (.inr (a.1, a.2.2)))
  else
  (fX10_drawOf k (0 : Int32) a.2.2).bind (fun q7 =>
  (fX10_drawn (10 : Int32) q7.2).bind (fun q9 =>
  zget 19 (mg_holds q9.2) ((4 : Int32) + q7.1) (fun v10 =>
  if v10 ≤ q9.1 then
    zb (a.1 + ((1 : Int32) <<< (((2 : Int32) * ((3 : Int32) - q7.1)) &&& 31))) (fun v11 =>
    some (.inl (v11, (a.2.1 + 1), q9.2)))
  else
  some (.inr (.inl q9.2)))))
def fX10_sortie (k : Nat) (u : MX) : Option (Int32 × MX) :=
  (fX10_drawn (1000 : Int32) u).bind (fun q2 =>
  zget 19 (mg_holds q2.2) (16 : Int32) (fun v3 =>
  if v3 ≤ q2.1 then
    (fX10_drawOf k (12 : Int32) q2.2).bind (fun q5 =>
    (ziter (bX10_sortie_31 k q5.1) k ((0 : Int32), (0 : Int32), q5.2)).bind
      (fun b12 => zel b12
       (fun b12 =>
          zget 10 (mg_known b12) (9 : Int32) (fun v14 =>
          zix 10 (9 : Int32) (fun j15 => zb (ms_known b12 (upd (mg_known b12) j15 (v14 + (1 : Int32)))) (fun u16 =>
          some ((-4 : Int32), u16)))))
        (fun b12 =>
          some (b12.1, b12.2))))
  else
  some ((-4 : Int32), q2.2)))
theorem iwX10_draw_10 : ∀ w ∈ wsX100, w ∈ wsX10_draw := by decide +kernel
def bX10_draw_39 (k : Nat) (p1 : Int32) (a : Int32 × Int32 × MX) : Option ((Int32 × Int32 × MX) ⊕ (Int32 × MX)) :=
  if p1 ≤ a.2.1 then
    some (.inr (a.1, a.2.2))
  else
  (fX10_sortie k a.2.2).bind (fun q7 =>
  zget 10 (mg_known q7.2) (0 : Int32) (fun v8 =>
  zix 10 (0 : Int32) (fun j9 => zb (ms_known q7.2 (upd (mg_known q7.2) j9 (v8 + (1 : Int32)))) (fun u10 =>
  if q7.1 = (-4 : Int32) then
    some (.inl (a.1, (a.2.1 + 1), u10))
  else
  (fX10_home k (1 : Int32) q7.1 u10).bind (fun q12 =>
  some (.inl ((a.1 + 1), (a.2.1 + 1), q12)))))))
def fX10_draw (k : Nat) (a1 : Int32) (u : MX) : Option (Int32 × MX) :=
  (fX10_in (a1.toInt64) (1 : Int64) (99 : Int64)).bind (fun q2 =>
  if q2 = 0 then
    some ((-1 : Int32), u)
  else
  zget 10 (mg_known u) (0 : Int32) (fun v3 =>
  if (v3 + a1) ≤ (999 : Int32) then
    (fX10_acts k u).bind (fun q5 =>
    (ziter (bX10_draw_39 k a1) k ((0 : Int32), (0 : Int32), q5)).bind (fun b13 =>
      some (b13.1, b13.2)))
  else
  some ((-3 : Int32), u)))
theorem iwX10_seed_10 : ∀ w ∈ wsX100, w ∈ wsX10_seed := by decide +kernel
def fX10_seed (a1 : Int32) (u : MX) : Option (Int32 × MX) :=
  zb (mg_seed u) (fun v1 =>
  zb (ms_seed u a1) (fun u2 =>
  some (v1, u2)))
theorem iwX10_wreck_10 : ∀ w ∈ wsX100, w ∈ wsX10_wreck := by decide +kernel
def fX10_wreck (a1 : Int32) (a2 : Int32) (u : MX) : Option (Int32 × MX) :=
  (fX10_isPart a1).bind (fun q2 =>
  if q2 = 0 then
    some ((-1 : Int32), u)
  else
  zget 4 (mg_wrecks u) a1 (fun v3 =>
  if v3 = 0 then
    zix 4 a1 (fun j4 => zb (ms_wrecks u (upd (mg_wrecks u) j4 (vp_nar .boolean a2))) (fun u5 =>
    zb (ms_old u5 (1 : Int32)) (fun u6 =>
    some ((0 : Int32), u6))))
  else
  zix 4 a1 (fun j7 => zb (ms_wrecks u (upd (mg_wrecks u) j7 (vp_nar .boolean a2))) (fun u8 =>
  zb (ms_old u8 (1 : Int32)) (fun u9 =>
  some ((1 : Int32), u9))))))
theorem iwX10_ground_10 : ∀ w ∈ wsX100, w ∈ wsX10_ground := by decide +kernel
def fX10_ground (a1 : Int32) (a2 : Int32) (a3 : Int32) (u : MX) : Option (Int32 × MX) :=
  (fX10_isPart a1).bind (fun q2 =>
  if q2 = 0 then
    some ((-1 : Int32), u)
  else
  (fX10_in (a2.toInt64) (0 : Int64) (20 : Int64)).bind (fun q4 =>
  if q4 = 0 then
    some ((-1 : Int32), u)
  else
  (fX10_in (a3.toInt64) (0 : Int64) (a2.toInt64)).bind (fun q6 =>
  if q6 = 0 then
    some ((-1 : Int32), u)
  else
  zget 4 (mg_shots u) a1 (fun v7 =>
  zix 4 a1 (fun j8 => zb (ms_shots u (upd (mg_shots u) j8 a2)) (fun u9 =>
  zix 4 a1 (fun j10 => zb (ms_shotDown u9 (upd (mg_shotDown u9) j10 a3)) (fun u11 =>
  zb (ms_old u11 (1 : Int32)) (fun u12 =>
  some (v7, u12))))))))))
theorem iwX10_homes_10 : ∀ w ∈ wsX100, w ∈ wsX10_homes := by decide +kernel
def fX10_homes (u : MX) : Option (Int32) :=
  zget 10 (mg_known u) (1 : Int32) (fun v1 =>
  zget 10 (mg_known u) (2 : Int32) (fun v2 =>
  zget 10 (mg_known u) (3 : Int32) (fun v3 =>
  zget 10 (mg_known u) (4 : Int32) (fun v4 =>
  some (((v1 + v2) + v3) + v4)))))
theorem iwX10_known_10 : ∀ w ∈ wsX100, w ∈ wsX10_known := by decide +kernel
def fX10_known (a1 : Int32) (u : MX) : Option (Int32) :=
  (fX10_in (a1.toInt64) (0 : Int64) (8 : Int64)).bind (fun q2 =>
  if q2 = 0 then
    if a1 = (9 : Int32) then
      zget 10 (mg_known u) (0 : Int32) (fun v3 =>
      (fX10_homes u).bind (fun q5 =>
      some (v3 - q5)))
    else
    some (-1 : Int32)
  else
  zget 10 (mg_known u) a1 (fun v6 =>
  some v6))
theorem iwX10_undo_10 : ∀ w ∈ wsX100, w ∈ wsX10_undo := by decide +kernel
def bX10_undo_22 (k : Nat) (a : Int32 × MX) : Option ((Int32 × MX) ⊕ (MX)) :=
  if (10 : Int32) ≤ a.1 then
    some (.inr a.2)
  else
  zget 80 (mg_back a.2) (((10 : Int32) * (mg_undos a.2)) + a.1) (fun v2 =>
  zix 10 a.1 (fun j3 => zb (ms_known a.2 (upd (mg_known a.2) j3 v2)) (fun u4 =>
  some (.inl ((a.1 + 1), u4)))))
def fX10_undo (k : Nat) (u : MX) : Option (Int32 × MX) :=
  if (mg_undos u) = 0 then
    some ((-4 : Int32), u)
  else
  zb (ms_undos u ((mg_undos u) - (1 : Int32))) (fun u1 =>
  (ziter (bX10_undo_22 k) k ((0 : Int32), u1)).bind (fun b5 =>
    zb (ms_old b5 (1 : Int32)) (fun u7 =>
    some ((mg_undos u7), u7))))
section
variable {p : Program} {l : Launch} {e : Env} {s : State} {m : MethodId} {args : Array Value} {below : List Frame} {meth : Method} {c : Code} {A : Nat → Prop} {Q : State → Prop} {D : va_G} {ad : Nat → Nat} {cy : Nat → ClassId}
set_option maxHeartbeats 4000000 in
set_option maxRecDepth 100000 in
theorem kX10_isPart (l : Launch) (a1 : Int32) (r : Int32) (hf : fX10_isPart a1 = some r) : zSt l yX10_isPart wsX10_isPart ({ frames := 1, cells := 0, slots := 0, locals := 25 } : Room) [.int a1] (some (.int r)) := by
  refine zSt.of (cc := cX10_isPart) (maxL := 1) (ret := (some .boolean)) (own := RX10) (by decide) rfl rfl ?_
  intro p e s m below meth c C0
  obtain ⟨hx, hb, hml, hown, hts, hr, hlk⟩ := id C0
  refine z_entry (Nat.le_of_ble_eq_true rfl) (fun ls hl => ?_)
  have hl : lv_has ls 1 [(0, .int a1)] := hl
  unfold fX10_isPart at hf
  refine lv_iload_n (pc := 0) hx hb dX10_isPart_0 rfl (lv_at hl 0 rfl) ?_
  refine lv_i2l (pc := 1) hx hb dX10_isPart_1 rfl ?_
  refine lv_lconst (pc := 2) (v := 0) hx hb dX10_isPart_2 (by decide) ?_
  refine lv_ldc2 (pc := 3) (v := 3) hx hb hown (hts (.constantLong RX10 130 (3)) (by decide +kernel)) dX10_isPart_3 ?_
  obtain ⟨q2, hc1, hf⟩ := zbind hf
  refine zcallSi (pc := 6) (As := [.long (a1.toInt64), .long (0 : Int64), .long (3 : Int64)]) (rest := []) ⟨hx, hb, hml, hown, hts⟩ (kX10_in l (a1.toInt64) (0 : Int64) (3 : Int64) q2 hc1) (va_cwS 3 hts gX10_isPart_X10_in rfl rfl rfl (by decide +kernel) ⟨Nat.le_of_ble_eq_true rfl, Nat.le_of_ble_eq_true rfl⟩) rfl hl.1 rfl (Nat.le_of_ble_eq_true rfl) dX10_isPart_6 (Nat.zero_le _) (Nat.zero_le _) ?_
  obtain ⟨hz, hf⟩ := zbo_of hf
  obtain rfl := zone hf
  exact z_szret (pc := 9) C0 hz dX10_isPart_9
set_option maxHeartbeats 4000000 in
set_option maxRecDepth 100000 in
theorem kX10_part (l : Launch) (D : va_G) (ad : Nat → Nat) (cy : Nat → ClassId) (a1 : Int32) (a2 : Int32) (u : MX) (r : Int32) (hf : fX10_part a1 a2 u = some r) : zCt l yX10_part wsX10_part ({ frames := 2, cells := 0, slots := 0, locals := 45 } : Room) D ad cy [.ref (ad 0), .int a1, .int a2] (WM ad cy u) (some (.int r)) (WM ad cy u) := by
  refine zCt.of (cc := cX10_part) (maxL := 3) (ret := (some .int)) (own := RX10) (by decide) rfl rfl ?_
  intro p e s m below meth c A C0 hI
  obtain ⟨hx, hb, hml, hown, hts, hr, hlk⟩ := id C0
  refine z_entry (Nat.le_of_ble_eq_true rfl) (fun ls hl => ?_)
  have hl : lv_has ls 3 [(0, .ref (ad 0)), (1, .int a1), (2, .int a2)] := hl
  unfold fX10_part at hf
  refine lv_iload_n (pc := 0) hx hb dX10_part_0 rfl (lv_at hl 1 rfl) ?_
  obtain ⟨q2, hc1, hf⟩ := zbind hf
  refine zcallSi (pc := 1) (As := [.int a1]) (rest := []) ⟨hx, hb, hml, hown, hts⟩ (kX10_isPart l a1 q2 hc1) (va_cwS 1 hts gX10_part_X10_isPart rfl rfl rfl (by decide +kernel) ⟨Nat.le_of_ble_eq_true rfl, Nat.le_of_ble_eq_true rfl⟩) rfl hl.1 rfl (Nat.le_of_ble_eq_true rfl) dX10_part_1 (Nat.zero_le _) (Nat.zero_le _) ?_
  refine z_if_eq (pc := 4) (tgt := 32) hx hb dX10_part_4 (by decide) hf (fun hf => ?_) (fun hf => ?_)
  · refine lv_iconst (pc := 32) (v := -1) hx hb dX10_part_32 (by decide) ?_
    obtain rfl := zone hf
    exact z_iret (pc := 33) C0 hI dX10_part_33
  refine lv_iload_n (pc := 7) hx hb dX10_part_7 rfl (lv_at hl 2 rfl) ?_
  refine lv_i2l (pc := 8) hx hb dX10_part_8 rfl ?_
  refine lv_lconst (pc := 9) (v := 0) hx hb dX10_part_9 (by decide) ?_
  refine lv_ldc2 (pc := 10) (v := 2) hx hb hown (hts (.constantLong RX10 136 (2)) (by decide +kernel)) dX10_part_10 ?_
  obtain ⟨q4, hc3, hf⟩ := zbind hf
  refine zcallSi (pc := 13) (As := [.long (a2.toInt64), .long (0 : Int64), .long (2 : Int64)]) (rest := []) ⟨hx, hb, hml, hown, hts⟩ (kX10_in l (a2.toInt64) (0 : Int64) (2 : Int64) q4 hc3) (va_cwS 3 hts gX10_part_X10_in rfl rfl rfl (by decide +kernel) ⟨Nat.le_of_ble_eq_true rfl, Nat.le_of_ble_eq_true rfl⟩) rfl hl.1 rfl (Nat.le_of_ble_eq_true rfl) dX10_part_13 (Nat.zero_le _) (Nat.zero_le _) ?_
  refine z_if_eq (pc := 16) (tgt := 32) hx hb dX10_part_16 (by decide) hf (fun hf => ?_) (fun hf => ?_)
  · refine lv_iconst (pc := 32) (v := -1) hx hb dX10_part_32 (by decide) ?_
    obtain rfl := zone hf
    exact z_iret (pc := 33) C0 hI dX10_part_33
  refine lv_aload_n (pc := 19) hx hb dX10_part_19 rfl (lv_at hl 0 rfl) ?_
  refine z_get (pc := 20) (index := 22) hx hb hts iwX10_part_10 hown hI (ml_0 ad cy u) rfl 12 (by decide) (by decide +kernel) rfl rfl dX10_part_20 ?_
  refine lv_iconst (pc := 23) (v := 4) hx hb dX10_part_23 (by decide) ?_
  refine lv_iload_n (pc := 24) hx hb dX10_part_24 rfl (lv_at hl 2 rfl) ?_
  refine lv_imul (pc := 25) hx hb dX10_part_25 ?_
  refine lv_iload_n (pc := 26) hx hb dX10_part_26 rfl (lv_at hl 1 rfl) ?_
  refine lv_iadd (pc := 27) hx hb dX10_part_27 ?_
  refine z_iald (pc := 28) hx hb hI (ml_5 ad cy u) 0 rfl dX10_part_28 hf (fun v5 hf => ?_)
  refine lv_goto (pc := 29) (tgt := 33) hx hb dX10_part_29 (by decide) ?_
  obtain rfl := zone hf
  exact z_iret (pc := 33) C0 hI dX10_part_33
set_option maxHeartbeats 4000000 in
set_option maxRecDepth 100000 in
theorem kX10_rule (l : Launch) (D : va_G) (ad : Nat → Nat) (cy : Nat → ClassId) (a1 : Int32) (u : MX) (r : Int32) (hf : fX10_rule a1 u = some r) : zCt l yX10_rule wsX10_rule ({ frames := 1, cells := 0, slots := 0, locals := 25 } : Room) D ad cy [.ref (ad 0), .int a1] (WM ad cy u) (some (.int r)) (WM ad cy u) := by
  refine zCt.of (cc := cX10_rule) (maxL := 2) (ret := (some .int)) (own := RX10) (by decide) rfl rfl ?_
  intro p e s m below meth c A C0 hI
  obtain ⟨hx, hb, hml, hown, hts, hr, hlk⟩ := id C0
  refine z_entry (Nat.le_of_ble_eq_true rfl) (fun ls hl => ?_)
  have hl : lv_has ls 2 [(0, .ref (ad 0)), (1, .int a1)] := hl
  unfold fX10_rule at hf
  refine lv_iload_n (pc := 0) hx hb dX10_rule_0 rfl (lv_at hl 1 rfl) ?_
  refine lv_i2l (pc := 1) hx hb dX10_rule_1 rfl ?_
  refine lv_lconst (pc := 2) (v := 0) hx hb dX10_rule_2 (by decide) ?_
  refine lv_ldc2 (pc := 3) (v := 6) hx hb hown (hts (.constantLong RX10 138 (6)) (by decide +kernel)) dX10_rule_3 ?_
  obtain ⟨q2, hc1, hf⟩ := zbind hf
  refine zcallSi (pc := 6) (As := [.long (a1.toInt64), .long (0 : Int64), .long (6 : Int64)]) (rest := []) ⟨hx, hb, hml, hown, hts⟩ (kX10_in l (a1.toInt64) (0 : Int64) (6 : Int64) q2 hc1) (va_cwS 3 hts gX10_rule_X10_in rfl rfl rfl (by decide +kernel) ⟨Nat.le_of_ble_eq_true rfl, Nat.le_of_ble_eq_true rfl⟩) rfl hl.1 rfl (Nat.le_of_ble_eq_true rfl) dX10_rule_6 (Nat.zero_le _) (Nat.zero_le _) ?_
  refine z_if_eq (pc := 9) (tgt := 24) hx hb dX10_rule_9 (by decide) hf (fun hf => ?_) (fun hf => ?_)
  · refine lv_iconst (pc := 24) (v := -1) hx hb dX10_rule_24 (by decide) ?_
    obtain rfl := zone hf
    exact z_iret (pc := 25) C0 hI dX10_rule_25
  refine lv_aload_n (pc := 12) hx hb dX10_rule_12 rfl (lv_at hl 0 rfl) ?_
  refine z_get (pc := 13) (index := 22) hx hb hts iwX10_rule_10 hown hI (ml_0 ad cy u) rfl 12 (by decide) (by decide +kernel) rfl rfl dX10_rule_13 ?_
  refine lv_bipush (pc := 16) (v := 12) hx hb dX10_rule_16 (by decide) ?_
  refine lv_iload_n (pc := 18) hx hb dX10_rule_18 rfl (lv_at hl 1 rfl) ?_
  refine lv_iadd (pc := 19) hx hb dX10_rule_19 ?_
  refine z_iald (pc := 20) hx hb hI (ml_5 ad cy u) 0 rfl dX10_rule_20 hf (fun v3 hf => ?_)
  refine lv_goto (pc := 21) (tgt := 25) hx hb dX10_rule_21 (by decide) ?_
  obtain rfl := zone hf
  exact z_iret (pc := 25) C0 hI dX10_rule_25
set_option maxHeartbeats 4000000 in
set_option maxRecDepth 100000 in
theorem lX10_acts_51 (C0 : zFix p m c cX10_acts 2 s args wsX10_acts RX10 meth none) {k : Nat} {a : Int32 × MX} {b : MX} (hit : ziter (bX10_acts_51 k) k a = some b) (hx9 : (fun (b : MX) => ∀ (H : Heap) (locs : List Loc) (ls : Array Slot), zIn D ad cy (WM ad cy b) A s H locs → lv_has ls 2 [(0, .ref (ad 0))] → W p l e ({ frames := 0, cells := 0, slots := 0, locals := 0 } : Room) s m args below meth c H locs 0 0 Q (F0 m 83 ls [])) b) : (fun (a : Int32 × MX) => ∀ (H : Heap) (locs : List Loc) (ls : Array Slot), zIn D ad cy (WM ad cy a.2) A s H locs → lv_has ls 2 [(0, .ref (ad 0)), (1, .int a.1)] → W p l e ({ frames := 0, cells := 0, slots := 0, locals := 0 } : Room) s m args below meth c H locs 0 0 Q (F0 m 51 ls [])) a := by
  obtain ⟨hx, hb, hml, hown, hts, hr, hlk⟩ := id C0
  refine zloop (Wh := (fun (a : Int32 × MX) => ∀ (H : Heap) (locs : List Loc) (ls : Array Slot), zIn D ad cy (WM ad cy a.2) A s H locs → lv_has ls 2 [(0, .ref (ad 0)), (1, .int a.1)] → W p l e ({ frames := 0, cells := 0, slots := 0, locals := 0 } : Room) s m args below meth c H locs 0 0 Q (F0 m 51 ls []))) (Wx := (fun (b : MX) => ∀ (H : Heap) (locs : List Loc) (ls : Array Slot), zIn D ad cy (WM ad cy b) A s H locs → lv_has ls 2 [(0, .ref (ad 0))] → W p l e ({ frames := 0, cells := 0, slots := 0, locals := 0 } : Room) s m args below meth c H locs 0 0 Q (F0 m 83 ls []))) ?_ _ a b hit hx9
  intro a x hf hL hX H locs ls hI hl
  unfold bX10_acts_51 at hf
  refine lv_iload_n (pc := 51) hx hb dX10_acts_51 rfl (lv_at hl 1 rfl) ?_
  refine lv_bipush (pc := 52) (v := 10) hx hb dX10_acts_52 (by decide) ?_
  refine z_icmp_ge (pc := 54) (tgt := 83) hx hb dX10_acts_54 (by decide) hf (fun hf => ?_) (fun hf => ?_)
  · exact (hX _ (Option.some.inj hf).symm) _ _ _ hI (lv_sub hl [0] rfl)
  refine lv_aload_n (pc := 57) hx hb dX10_acts_57 rfl (lv_at hl 0 rfl) ?_
  refine z_get (pc := 58) (index := 31) hx hb hts iwX10_acts_10 hown hI (ml_0 ad cy a.2) rfl 16 (by decide) (by decide +kernel) rfl rfl dX10_acts_58 ?_
  refine lv_bipush (pc := 61) (v := 10) hx hb dX10_acts_61 (by decide) ?_
  refine lv_aload_n (pc := 63) hx hb dX10_acts_63 rfl (lv_at hl 0 rfl) ?_
  refine z_get (pc := 64) (index := 140) hx hb hts iwX10_acts_10 hown hI (ml_0 ad cy a.2) rfl 17 (by decide) (by decide +kernel) rfl rfl dX10_acts_64 ?_
  refine lv_imul (pc := 67) hx hb dX10_acts_67 ?_
  refine lv_iload_n (pc := 68) hx hb dX10_acts_68 rfl (lv_at hl 1 rfl) ?_
  refine lv_iadd (pc := 69) hx hb dX10_acts_69 ?_
  refine lv_aload_n (pc := 70) hx hb dX10_acts_70 rfl (lv_at hl 0 rfl) ?_
  refine z_get (pc := 71) (index := 28) hx hb hts iwX10_acts_10 hown hI (ml_0 ad cy a.2) rfl 15 (by decide) (by decide +kernel) rfl rfl dX10_acts_71 ?_
  refine lv_iload_n (pc := 74) hx hb dX10_acts_74 rfl (lv_at hl 1 rfl) ?_
  refine z_iald (pc := 75) hx hb hI (ml_7 ad cy a.2) 0 rfl dX10_acts_75 hf (fun v1 hf => ?_)
  refine z_iast (wf := WM ad cy) (pc := 76) hx hb hI (ml_8 ad cy a.2) 0 rfl dX10_acts_76 (fun j => mw_back ad cy a.2 (upd (mg_back a.2) j v1)) hf (fun j2 u3 H locs hj2 hI hf => ?_)
  refine lv_iinc (pc := 77) (v := (a.1 + 1)) (lv' := [(1, .int (a.1 + 1)), (0, .ref (ad 0))]) hx hb dX10_acts_77 hl (k := 1) rfl rfl (by decide) rfl (fun ls hl => ?_)
  refine lv_goto (pc := 80) (tgt := 51) hx hb dX10_acts_80 (by decide) ?_
  exact hL _ (Option.some.inj hf).symm _ _ _ hI (lv_sub hl [1, 0] rfl)
set_option maxHeartbeats 4000000 in
set_option maxRecDepth 100000 in
theorem lX10_acts_12 (C0 : zFix p m c cX10_acts 2 s args wsX10_acts RX10 meth none) {k : Nat} {a : Int32 × MX} {b : MX} (hit : ziter (bX10_acts_12 k) k a = some b) (hx9 : (fun (b : MX) => ∀ (H : Heap) (locs : List Loc) (ls : Array Slot), zIn D ad cy (WM ad cy b) A s H locs → lv_has ls 2 [(0, .ref (ad 0))] → W p l e ({ frames := 0, cells := 0, slots := 0, locals := 0 } : Room) s m args below meth c H locs 0 0 Q (F0 m 39 ls [])) b) : (fun (a : Int32 × MX) => ∀ (H : Heap) (locs : List Loc) (ls : Array Slot), zIn D ad cy (WM ad cy a.2) A s H locs → lv_has ls 2 [(0, .ref (ad 0)), (1, .int a.1)] → W p l e ({ frames := 0, cells := 0, slots := 0, locals := 0 } : Room) s m args below meth c H locs 0 0 Q (F0 m 12 ls [])) a := by
  obtain ⟨hx, hb, hml, hown, hts, hr, hlk⟩ := id C0
  refine zloop (Wh := (fun (a : Int32 × MX) => ∀ (H : Heap) (locs : List Loc) (ls : Array Slot), zIn D ad cy (WM ad cy a.2) A s H locs → lv_has ls 2 [(0, .ref (ad 0)), (1, .int a.1)] → W p l e ({ frames := 0, cells := 0, slots := 0, locals := 0 } : Room) s m args below meth c H locs 0 0 Q (F0 m 12 ls []))) (Wx := (fun (b : MX) => ∀ (H : Heap) (locs : List Loc) (ls : Array Slot), zIn D ad cy (WM ad cy b) A s H locs → lv_has ls 2 [(0, .ref (ad 0))] → W p l e ({ frames := 0, cells := 0, slots := 0, locals := 0 } : Room) s m args below meth c H locs 0 0 Q (F0 m 39 ls []))) ?_ _ a b hit hx9
  intro a x hf hL hX H locs ls hI hl
  unfold bX10_acts_12 at hf
  refine lv_iload_n (pc := 12) hx hb dX10_acts_12 rfl (lv_at hl 1 rfl) ?_
  refine lv_bipush (pc := 13) (v := 80) hx hb dX10_acts_13 (by decide) ?_
  refine z_icmp_ge (pc := 15) (tgt := 39) hx hb dX10_acts_15 (by decide) hf (fun hf => ?_) (fun hf => ?_)
  · exact (hX _ (Option.some.inj hf).symm) _ _ _ hI (lv_sub hl [0] rfl)
  refine lv_aload_n (pc := 18) hx hb dX10_acts_18 rfl (lv_at hl 0 rfl) ?_
  refine z_get (pc := 19) (index := 31) hx hb hts iwX10_acts_10 hown hI (ml_0 ad cy a.2) rfl 16 (by decide) (by decide +kernel) rfl rfl dX10_acts_19 ?_
  refine lv_iload_n (pc := 22) hx hb dX10_acts_22 rfl (lv_at hl 1 rfl) ?_
  refine lv_bipush (pc := 23) (v := 10) hx hb dX10_acts_23 (by decide) ?_
  refine lv_isub (pc := 25) hx hb dX10_acts_25 ?_
  refine lv_aload_n (pc := 26) hx hb dX10_acts_26 rfl (lv_at hl 0 rfl) ?_
  refine z_get (pc := 27) (index := 31) hx hb hts iwX10_acts_10 hown hI (ml_0 ad cy a.2) rfl 16 (by decide) (by decide +kernel) rfl rfl dX10_acts_27 ?_
  refine lv_iload_n (pc := 30) hx hb dX10_acts_30 rfl (lv_at hl 1 rfl) ?_
  refine z_iald (pc := 31) hx hb hI (ml_8 ad cy a.2) 0 rfl dX10_acts_31 hf (fun v8 hf => ?_)
  refine z_iast (wf := WM ad cy) (pc := 32) hx hb hI (ml_8 ad cy a.2) 0 rfl dX10_acts_32 (fun j => mw_back ad cy a.2 (upd (mg_back a.2) j v8)) hf (fun j9 u10 H locs hj9 hI hf => ?_)
  refine lv_iinc (pc := 33) (v := (a.1 + 1)) (lv' := [(1, .int (a.1 + 1)), (0, .ref (ad 0))]) hx hb dX10_acts_33 hl (k := 1) rfl rfl (by decide) rfl (fun ls hl => ?_)
  refine lv_goto (pc := 36) (tgt := 12) hx hb dX10_acts_36 (by decide) ?_
  exact hL _ (Option.some.inj hf).symm _ _ _ hI (lv_sub hl [1, 0] rfl)
set_option maxHeartbeats 4000000 in
set_option maxRecDepth 100000 in
theorem kX10_acts (l : Launch) (D : va_G) (ad : Nat → Nat) (cy : Nat → ClassId) (k : Nat) (u : MX) (u' : MX) (hf : fX10_acts k u = some u') : zCt l yX10_acts wsX10_acts ({ frames := 0, cells := 0, slots := 0, locals := 0 } : Room) D ad cy [.ref (ad 0)] (WM ad cy u) none (WM ad cy u') := by
  refine zCt.of (cc := cX10_acts) (maxL := 2) (ret := none) (own := RX10) (by decide) rfl rfl ?_
  intro p e s m below meth c A C0 hI
  obtain ⟨hx, hb, hml, hown, hts, hr, hlk⟩ := id C0
  refine z_entry (Nat.le_of_ble_eq_true rfl) (fun ls hl => ?_)
  have hl : lv_has ls 2 [(0, .ref (ad 0))] := hl
  unfold fX10_acts at hf
  refine lv_aload_n (pc := 0) hx hb dX10_acts_0 rfl (lv_at hl 0 rfl) ?_
  refine z_get (pc := 1) (index := 140) hx hb hts iwX10_acts_10 hown hI (ml_0 ad cy u) rfl 17 (by decide) (by decide +kernel) rfl rfl dX10_acts_1 ?_
  refine lv_bipush (pc := 4) (v := 8) hx hb dX10_acts_4 (by decide) ?_
  refine z_icmp_ne (pc := 6) (tgt := 49) hx hb dX10_acts_6 (by decide) hf (fun hf => ?_) (fun hf => ?_)
  · refine lv_iconst (pc := 49) (v := 0) hx hb dX10_acts_49 (by decide) ?_
    refine lv_istore_n (pc := 50) (lv' := [(1, .int (0 : Int32)), (0, .ref (ad 0))]) hx hb dX10_acts_50 rfl hl (by decide) rfl (fun ls hl => ?_)
    obtain ⟨b4, hb5, hf⟩ := zbind hf
    refine lX10_acts_51 C0 hb5 ?_ _ _ _ hI (lv_sub hl [1, 0] rfl)
    intro H locs ls hI hl
    refine lv_aload_n (pc := 83) hx hb dX10_acts_83 rfl (lv_at hl 0 rfl) ?_
    refine lv_dup (pc := 84) hx hb dX10_acts_84 rfl ?_
    refine z_get (pc := 85) (index := 140) hx hb hts iwX10_acts_10 hown hI (ml_0 ad cy b4) rfl 17 (by decide) (by decide +kernel) rfl rfl dX10_acts_85 ?_
    refine lv_iconst (pc := 88) (v := 1) hx hb dX10_acts_88 (by decide) ?_
    refine lv_iadd (pc := 89) hx hb dX10_acts_89 ?_
    refine z_put (wf := WM ad cy) (pc := 90) (index := 140) hx hb hts iwX10_acts_10 tyX10 tyX10_ok nmX10 hown hI (ml_0 ad cy b4) rfl 17 (by decide) (by decide +kernel) rfl rfl rfl rfl (Nat.le_of_ble_eq_true rfl) dX10_acts_90 (mw_undos ad cy b4 ((mg_undos b4) + (1 : Int32))) hf (fun u6 H locs hI hf => ?_)
    refine lv_aload_n (pc := 93) hx hb dX10_acts_93 rfl (lv_at hl 0 rfl) ?_
    refine lv_iconst (pc := 94) (v := 1) hx hb dX10_acts_94 (by decide) ?_
    refine z_put (wf := WM ad cy) (pc := 95) (index := 47) hx hb hts iwX10_acts_10 tyX10 tyX10_ok nmX10 hown hI (ml_0 ad cy u6) rfl 26 (by decide) (by decide +kernel) rfl rfl rfl rfl (Nat.le_of_ble_eq_true rfl) dX10_acts_95 (mw_old ad cy u6 (1 : Int32)) hf (fun u7 H locs hI hf => ?_)
    obtain rfl := zone hf
    exact z_vret (pc := 98) C0 hI dX10_acts_98
  refine lv_bipush (pc := 9) (v := 10) hx hb dX10_acts_9 (by decide) ?_
  refine lv_istore_n (pc := 11) (lv' := [(1, .int (10 : Int32)), (0, .ref (ad 0))]) hx hb dX10_acts_11 rfl hl (by decide) rfl (fun ls hl => ?_)
  obtain ⟨b11, hb12, hf⟩ := zbind hf
  refine lX10_acts_12 C0 hb12 ?_ _ _ _ hI (lv_sub hl [1, 0] rfl)
  intro H locs ls hI hl
  refine lv_aload_n (pc := 39) hx hb dX10_acts_39 rfl (lv_at hl 0 rfl) ?_
  refine lv_dup (pc := 40) hx hb dX10_acts_40 rfl ?_
  refine z_get (pc := 41) (index := 140) hx hb hts iwX10_acts_10 hown hI (ml_0 ad cy b11) rfl 17 (by decide) (by decide +kernel) rfl rfl dX10_acts_41 ?_
  refine lv_iconst (pc := 44) (v := 1) hx hb dX10_acts_44 (by decide) ?_
  refine lv_isub (pc := 45) hx hb dX10_acts_45 ?_
  refine z_put (wf := WM ad cy) (pc := 46) (index := 140) hx hb hts iwX10_acts_10 tyX10 tyX10_ok nmX10 hown hI (ml_0 ad cy b11) rfl 17 (by decide) (by decide +kernel) rfl rfl rfl rfl (Nat.le_of_ble_eq_true rfl) dX10_acts_46 (mw_undos ad cy b11 ((mg_undos b11) - (1 : Int32))) hf (fun u13 H locs hI hf => ?_)
  refine lv_iconst (pc := 49) (v := 0) hx hb dX10_acts_49 (by decide) ?_
  refine lv_istore_n (pc := 50) (lv' := [(1, .int (0 : Int32)), (0, .ref (ad 0))]) hx hb dX10_acts_50 rfl hl (by decide) rfl (fun ls hl => ?_)
  obtain ⟨b14, hb15, hf⟩ := zbind hf
  refine lX10_acts_51 C0 hb15 ?_ _ _ _ hI (lv_sub hl [1, 0] rfl)
  intro H locs ls hI hl
  refine lv_aload_n (pc := 83) hx hb dX10_acts_83 rfl (lv_at hl 0 rfl) ?_
  refine lv_dup (pc := 84) hx hb dX10_acts_84 rfl ?_
  refine z_get (pc := 85) (index := 140) hx hb hts iwX10_acts_10 hown hI (ml_0 ad cy b14) rfl 17 (by decide) (by decide +kernel) rfl rfl dX10_acts_85 ?_
  refine lv_iconst (pc := 88) (v := 1) hx hb dX10_acts_88 (by decide) ?_
  refine lv_iadd (pc := 89) hx hb dX10_acts_89 ?_
  refine z_put (wf := WM ad cy) (pc := 90) (index := 140) hx hb hts iwX10_acts_10 tyX10 tyX10_ok nmX10 hown hI (ml_0 ad cy b14) rfl 17 (by decide) (by decide +kernel) rfl rfl rfl rfl (Nat.le_of_ble_eq_true rfl) dX10_acts_90 (mw_undos ad cy b14 ((mg_undos b14) + (1 : Int32))) hf (fun u16 H locs hI hf => ?_)
  refine lv_aload_n (pc := 93) hx hb dX10_acts_93 rfl (lv_at hl 0 rfl) ?_
  refine lv_iconst (pc := 94) (v := 1) hx hb dX10_acts_94 (by decide) ?_
  refine z_put (wf := WM ad cy) (pc := 95) (index := 47) hx hb hts iwX10_acts_10 tyX10 tyX10_ok nmX10 hown hI (ml_0 ad cy u16) rfl 26 (by decide) (by decide +kernel) rfl rfl rfl rfl (Nat.le_of_ble_eq_true rfl) dX10_acts_95 (mw_old ad cy u16 (1 : Int32)) hf (fun u17 H locs hI hf => ?_)
  obtain rfl := zone hf
  exact z_vret (pc := 98) C0 hI dX10_acts_98
set_option maxHeartbeats 4000000 in
set_option maxRecDepth 100000 in
theorem kX10_figure (l : Launch) (a1 : Int32) (a2 : Int32) (r : Int32) (hf : fX10_figure a1 a2 = some r) : zSt l yX10_figure wsX10_figure ({ frames := 0, cells := 0, slots := 0, locals := 0 } : Room) [.int a1, .int a2] (some (.int r)) := by
  refine zSt.of (cc := cX10_figure) (maxL := 2) (ret := (some .int)) (own := RX10) (by decide) rfl rfl ?_
  intro p e s m below meth c C0
  obtain ⟨hx, hb, hml, hown, hts, hr, hlk⟩ := id C0
  refine z_entry (Nat.le_of_ble_eq_true rfl) (fun ls hl => ?_)
  have hl : lv_has ls 2 [(0, .int a1), (1, .int a2)] := hl
  unfold fX10_figure at hf
  refine lv_iload_n (pc := 0) hx hb dX10_figure_0 rfl (lv_at hl 0 rfl) ?_
  refine lv_iconst (pc := 1) (v := 2) hx hb dX10_figure_1 (by decide) ?_
  refine lv_iconst (pc := 2) (v := 3) hx hb dX10_figure_2 (by decide) ?_
  refine lv_iload_n (pc := 3) hx hb dX10_figure_3 rfl (lv_at hl 1 rfl) ?_
  refine lv_isub (pc := 4) hx hb dX10_figure_4 ?_
  refine lv_imul (pc := 5) hx hb dX10_figure_5 ?_
  refine lv_ishr (pc := 6) hx hb dX10_figure_6 ?_
  refine lv_iconst (pc := 7) (v := 3) hx hb dX10_figure_7 (by decide) ?_
  refine lv_iand (pc := 8) hx hb dX10_figure_8 ?_
  obtain rfl := zone hf
  exact z_siret (pc := 9) C0 dX10_figure_9
set_option maxHeartbeats 4000000 in
set_option maxRecDepth 100000 in
theorem lX10_sumOf_4 (C0 : zFix p m c cX10_sumOf 3 s args wsX10_sumOf RX10 meth (some .int)) {k : Nat} {p0 : Int32} {a : Int32 × Int32} {b : Int32} (hit : ziter (bX10_sumOf_4 k p0) k a = some b) (hx9 : (fun (b : Int32) => ∀ (ls : Array Slot), lv_has ls 3 [(1, .int b)] → W p l e ({ frames := 1, cells := 0, slots := 0, locals := 21 } : Room) s m args below meth c s.heap [] 0 0 Q (F0 m 23 ls [])) b) : (fun (a : Int32 × Int32) => ∀ (ls : Array Slot), lv_has ls 3 [(0, .int p0), (1, .int a.1), (2, .int a.2)] → W p l e ({ frames := 1, cells := 0, slots := 0, locals := 21 } : Room) s m args below meth c s.heap [] 0 0 Q (F0 m 4 ls [])) a := by
  obtain ⟨hx, hb, hml, hown, hts, hr, hlk⟩ := id C0
  refine zloop (Wh := (fun (a : Int32 × Int32) => ∀ (ls : Array Slot), lv_has ls 3 [(0, .int p0), (1, .int a.1), (2, .int a.2)] → W p l e ({ frames := 1, cells := 0, slots := 0, locals := 21 } : Room) s m args below meth c s.heap [] 0 0 Q (F0 m 4 ls []))) (Wx := (fun (b : Int32) => ∀ (ls : Array Slot), lv_has ls 3 [(1, .int b)] → W p l e ({ frames := 1, cells := 0, slots := 0, locals := 21 } : Room) s m args below meth c s.heap [] 0 0 Q (F0 m 23 ls []))) ?_ _ a b hit hx9
  intro a x hf hL hX ls hl
  unfold bX10_sumOf_4 at hf
  refine lv_iload_n (pc := 4) hx hb dX10_sumOf_4 rfl (lv_at hl 2 rfl) ?_
  refine lv_iconst (pc := 5) (v := 4) hx hb dX10_sumOf_5 (by decide) ?_
  refine z_icmp_ge (pc := 6) (tgt := 23) hx hb dX10_sumOf_6 (by decide) hf (fun hf => ?_) (fun hf => ?_)
  · exact (hX _ (Option.some.inj hf).symm) _ (lv_sub hl [1] rfl)
  refine lv_iload_n (pc := 9) hx hb dX10_sumOf_9 rfl (lv_at hl 1 rfl) ?_
  refine lv_iload_n (pc := 10) hx hb dX10_sumOf_10 rfl (lv_at hl 0 rfl) ?_
  refine lv_iload_n (pc := 11) hx hb dX10_sumOf_11 rfl (lv_at hl 2 rfl) ?_
  obtain ⟨q2, hc1, hf⟩ := zbind hf
  refine zcallSi (pc := 12) (As := [.int p0, .int a.2]) (rest := [.int a.1]) ⟨hx, hb, hml, hown, hts⟩ (kX10_figure l p0 a.2 q2 hc1) (va_cwS 2 hts gX10_sumOf_X10_figure rfl rfl rfl (by decide +kernel) ⟨Nat.le_of_ble_eq_true rfl, Nat.le_of_ble_eq_true rfl⟩) rfl hl.1 rfl (Nat.le_of_ble_eq_true rfl) dX10_sumOf_12 (Nat.zero_le _) (Nat.zero_le _) ?_
  refine lv_iadd (pc := 15) hx hb dX10_sumOf_15 ?_
  refine z_bi hf (fun v3 hf => ?_)
  refine lv_istore_n (pc := 16) (lv' := [(1, .int v3), (0, .int p0), (2, .int a.2)]) hx hb dX10_sumOf_16 rfl hl (by decide) rfl (fun ls hl => ?_)
  refine lv_iinc (pc := 17) (v := (a.2 + 1)) (lv' := [(2, .int (a.2 + 1)), (1, .int v3), (0, .int p0)]) hx hb dX10_sumOf_17 hl (k := 2) rfl rfl (by decide) rfl (fun ls hl => ?_)
  refine lv_goto (pc := 20) (tgt := 4) hx hb dX10_sumOf_20 (by decide) ?_
  exact hL _ (Option.some.inj hf).symm _ (lv_sub hl [2, 1, 0] rfl)
set_option maxHeartbeats 4000000 in
set_option maxRecDepth 100000 in
theorem kX10_sumOf (l : Launch) (k : Nat) (a1 : Int32) (r : Int32) (hf : fX10_sumOf k a1 = some r) : zSt l yX10_sumOf wsX10_sumOf ({ frames := 1, cells := 0, slots := 0, locals := 21 } : Room) [.int a1] (some (.int r)) := by
  refine zSt.of (cc := cX10_sumOf) (maxL := 3) (ret := (some .int)) (own := RX10) (by decide) rfl rfl ?_
  intro p e s m below meth c C0
  obtain ⟨hx, hb, hml, hown, hts, hr, hlk⟩ := id C0
  refine z_entry (Nat.le_of_ble_eq_true rfl) (fun ls hl => ?_)
  have hl : lv_has ls 3 [(0, .int a1)] := hl
  unfold fX10_sumOf at hf
  refine lv_iconst (pc := 0) (v := 0) hx hb dX10_sumOf_0 (by decide) ?_
  refine lv_istore_n (pc := 1) (lv' := [(1, .int (0 : Int32)), (0, .int a1)]) hx hb dX10_sumOf_1 rfl hl (by decide) rfl (fun ls hl => ?_)
  refine lv_iconst (pc := 2) (v := 0) hx hb dX10_sumOf_2 (by decide) ?_
  refine lv_istore_n (pc := 3) (lv' := [(2, .int (0 : Int32)), (1, .int (0 : Int32)), (0, .int a1)]) hx hb dX10_sumOf_3 rfl hl (by decide) rfl (fun ls hl => ?_)
  obtain ⟨b4, hb5, hf⟩ := zbind hf
  refine lX10_sumOf_4 C0 hb5 ?_ _ (lv_sub hl [2, 1, 0] rfl)
  intro ls hl
  refine lv_iload_n (pc := 23) hx hb dX10_sumOf_23 rfl (lv_at hl 0 rfl) ?_
  obtain rfl := zone hf
  exact z_siret (pc := 24) C0 dX10_sumOf_24
set_option maxHeartbeats 4000000 in
set_option maxRecDepth 100000 in
theorem lX10_home_17 (C0 : zFix p m c cX10_home 4 s args wsX10_home RX10 meth none) {k : Nat} {p1 : Int32} {p2 : Int32} {a : Int32 × MX} {b : MX} (hit : ziter (bX10_home_17 k p1 p2) k a = some b) (hx9 : (fun (b : MX) => ∀ (H : Heap) (locs : List Loc) (ls : Array Slot), zIn D ad cy (WM ad cy b) A s H locs → lv_has ls 4 [] → W p l e ({ frames := 2, cells := 0, slots := 0, locals := 43 } : Room) s m args below meth c H locs 0 0 Q (F0 m 46 ls [])) b) : (fun (a : Int32 × MX) => ∀ (H : Heap) (locs : List Loc) (ls : Array Slot), zIn D ad cy (WM ad cy a.2) A s H locs → lv_has ls 4 [(0, .ref (ad 0)), (1, .int p1), (2, .int p2), (3, .int a.1)] → W p l e ({ frames := 2, cells := 0, slots := 0, locals := 43 } : Room) s m args below meth c H locs 0 0 Q (F0 m 17 ls [])) a := by
  obtain ⟨hx, hb, hml, hown, hts, hr, hlk⟩ := id C0
  refine zloop (Wh := (fun (a : Int32 × MX) => ∀ (H : Heap) (locs : List Loc) (ls : Array Slot), zIn D ad cy (WM ad cy a.2) A s H locs → lv_has ls 4 [(0, .ref (ad 0)), (1, .int p1), (2, .int p2), (3, .int a.1)] → W p l e ({ frames := 2, cells := 0, slots := 0, locals := 43 } : Room) s m args below meth c H locs 0 0 Q (F0 m 17 ls []))) (Wx := (fun (b : MX) => ∀ (H : Heap) (locs : List Loc) (ls : Array Slot), zIn D ad cy (WM ad cy b) A s H locs → lv_has ls 4 [] → W p l e ({ frames := 2, cells := 0, slots := 0, locals := 43 } : Room) s m args below meth c H locs 0 0 Q (F0 m 46 ls []))) ?_ _ a b hit hx9
  intro a x hf hL hX H locs ls hI hl
  unfold bX10_home_17 at hf
  refine lv_iload_n (pc := 17) hx hb dX10_home_17 rfl (lv_at hl 3 rfl) ?_
  refine lv_iconst (pc := 18) (v := 4) hx hb dX10_home_18 (by decide) ?_
  refine z_icmp_ge (pc := 19) (tgt := 46) hx hb dX10_home_19 (by decide) hf (fun hf => ?_) (fun hf => ?_)
  · exact (hX _ (Option.some.inj hf).symm) _ _ _ hI (lv_sub hl [] rfl)
  refine lv_aload_n (pc := 22) hx hb dX10_home_22 rfl (lv_at hl 0 rfl) ?_
  refine z_get (pc := 23) (index := 28) hx hb hts iwX10_home_10 hown hI (ml_0 ad cy a.2) rfl 15 (by decide) (by decide +kernel) rfl rfl dX10_home_23 ?_
  refine lv_iconst (pc := 26) (v := 5) hx hb dX10_home_26 (by decide) ?_
  refine lv_iload_n (pc := 27) hx hb dX10_home_27 rfl (lv_at hl 3 rfl) ?_
  refine lv_iadd (pc := 28) hx hb dX10_home_28 ?_
  refine z_bi hf (fun v7 hf => ?_)
  refine lv_dup2_11 (pc := 29) hx hb dX10_home_29 rfl rfl ?_
  refine z_iald (pc := 30) hx hb hI (ml_7 ad cy a.2) 0 rfl dX10_home_30 hf (fun v8 hf => ?_)
  refine lv_iload_n (pc := 31) hx hb dX10_home_31 rfl (lv_at hl 1 rfl) ?_
  refine lv_iload_n (pc := 32) hx hb dX10_home_32 rfl (lv_at hl 2 rfl) ?_
  refine lv_iload_n (pc := 33) hx hb dX10_home_33 rfl (lv_at hl 3 rfl) ?_
  obtain ⟨q10, hc9, hf⟩ := zbind hf
  refine zcallSi (pc := 34) (As := [.int p2, .int a.1]) (rest := [.int p1, .int v8, .int v7, .ref (ad 7)]) ⟨hx, hb, hml, hown, hts⟩ (kX10_figure l p2 a.1 q10 hc9) (va_cwS 2 hts gX10_home_X10_figure rfl rfl rfl (by decide +kernel) ⟨Nat.le_of_ble_eq_true rfl, Nat.le_of_ble_eq_true rfl⟩) rfl hl.1 rfl (Nat.le_of_ble_eq_true rfl) dX10_home_34 (Nat.zero_le _) (Nat.zero_le _) ?_
  refine lv_imul (pc := 37) hx hb dX10_home_37 ?_
  refine lv_iadd (pc := 38) hx hb dX10_home_38 ?_
  refine z_iast (wf := WM ad cy) (pc := 39) hx hb hI (ml_7 ad cy a.2) 0 rfl dX10_home_39 (fun j => mw_known ad cy a.2 (upd (mg_known a.2) j (v8 + (p1 * q10)))) hf (fun j11 u12 H locs hj11 hI hf => ?_)
  refine lv_iinc (pc := 40) (v := (a.1 + 1)) (lv' := [(3, .int (a.1 + 1)), (0, .ref (ad 0)), (1, .int p1), (2, .int p2)]) hx hb dX10_home_40 hl (k := 3) rfl rfl (by decide) rfl (fun ls hl => ?_)
  refine lv_goto (pc := 43) (tgt := 17) hx hb dX10_home_43 (by decide) ?_
  exact hL _ (Option.some.inj hf).symm _ _ _ hI (lv_sub hl [1, 2, 3, 0] rfl)
set_option maxHeartbeats 4000000 in
set_option maxRecDepth 100000 in
theorem kX10_home (l : Launch) (D : va_G) (ad : Nat → Nat) (cy : Nat → ClassId) (k : Nat) (a1 : Int32) (a2 : Int32) (u : MX) (u' : MX) (hf : fX10_home k a1 a2 u = some u') : zCt l yX10_home wsX10_home ({ frames := 2, cells := 0, slots := 0, locals := 43 } : Room) D ad cy [.ref (ad 0), .int a1, .int a2] (WM ad cy u) none (WM ad cy u') := by
  refine zCt.of (cc := cX10_home) (maxL := 4) (ret := none) (own := RX10) (by decide) rfl rfl ?_
  intro p e s m below meth c A C0 hI
  obtain ⟨hx, hb, hml, hown, hts, hr, hlk⟩ := id C0
  refine z_entry (Nat.le_of_ble_eq_true rfl) (fun ls hl => ?_)
  have hl : lv_has ls 4 [(0, .ref (ad 0)), (1, .int a1), (2, .int a2)] := hl
  unfold fX10_home at hf
  refine lv_aload_n (pc := 0) hx hb dX10_home_0 rfl (lv_at hl 0 rfl) ?_
  refine z_get (pc := 1) (index := 28) hx hb hts iwX10_home_10 hown hI (ml_0 ad cy u) rfl 15 (by decide) (by decide +kernel) rfl rfl dX10_home_1 ?_
  refine lv_iconst (pc := 4) (v := 1) hx hb dX10_home_4 (by decide) ?_
  refine lv_iload_n (pc := 5) hx hb dX10_home_5 rfl (lv_at hl 2 rfl) ?_
  obtain ⟨q2, hc1, hf⟩ := zbind hf
  refine zcallSi (pc := 6) (As := [.int a2]) (rest := [.int (1 : Int32), .ref (ad 7)]) ⟨hx, hb, hml, hown, hts⟩ (kX10_sumOf l k a2 q2 hc1) (va_cwS 1 hts gX10_home_X10_sumOf rfl rfl rfl (by decide +kernel) ⟨Nat.le_of_ble_eq_true rfl, Nat.le_of_ble_eq_true rfl⟩) rfl hl.1 rfl (Nat.le_of_ble_eq_true rfl) dX10_home_6 (Nat.zero_le _) (Nat.zero_le _) ?_
  refine lv_iadd (pc := 9) hx hb dX10_home_9 ?_
  refine z_bi hf (fun v3 hf => ?_)
  refine lv_dup2_11 (pc := 10) hx hb dX10_home_10 rfl rfl ?_
  refine z_iald (pc := 11) hx hb hI (ml_7 ad cy u) 0 rfl dX10_home_11 hf (fun v4 hf => ?_)
  refine lv_iload_n (pc := 12) hx hb dX10_home_12 rfl (lv_at hl 1 rfl) ?_
  refine lv_iadd (pc := 13) hx hb dX10_home_13 ?_
  refine z_iast (wf := WM ad cy) (pc := 14) hx hb hI (ml_7 ad cy u) 0 rfl dX10_home_14 (fun j => mw_known ad cy u (upd (mg_known u) j (v4 + a1))) hf (fun j5 u6 H locs hj5 hI hf => ?_)
  refine lv_iconst (pc := 15) (v := 0) hx hb dX10_home_15 (by decide) ?_
  refine lv_istore_n (pc := 16) (lv' := [(3, .int (0 : Int32)), (0, .ref (ad 0)), (1, .int a1), (2, .int a2)]) hx hb dX10_home_16 rfl hl (by decide) rfl (fun ls hl => ?_)
  obtain ⟨b13, hb14, hf⟩ := zbind hf
  refine lX10_home_17 C0 hb14 ?_ _ _ _ hI (lv_sub hl [1, 2, 3, 0] rfl)
  intro H locs ls hI hl
  obtain rfl := zone hf
  exact z_vret (pc := 46) C0 hI dX10_home_46
set_option maxHeartbeats 4000000 in
set_option maxRecDepth 100000 in
theorem kX10_told (l : Launch) (D : va_G) (ad : Nat → Nat) (cy : Nat → ClassId) (k : Nat) (a1 : Int32) (a2 : Int32) (a3 : Int32) (u : MX) (r : Int32) (u' : MX) (hf : fX10_told k a1 a2 a3 u = some (r, u')) : zCt l yX10_told wsX10_told ({ frames := 3, cells := 0, slots := 0, locals := 66 } : Room) D ad cy [.ref (ad 0), .int a1, .int a2, .int a3] (WM ad cy u) (some (.int r)) (WM ad cy u') := by
  refine zCt.of (cc := cX10_told) (maxL := 4) (ret := (some .int)) (own := RX10) (by decide) rfl rfl ?_
  intro p e s m below meth c A C0 hI
  obtain ⟨hx, hb, hml, hown, hts, hr, hlk⟩ := id C0
  refine z_entry (Nat.le_of_ble_eq_true rfl) (fun ls hl => ?_)
  have hl : lv_has ls 4 [(0, .ref (ad 0)), (1, .int a1), (2, .int a2), (3, .int a3)] := hl
  unfold fX10_told at hf
  refine lv_iload_n (pc := 0) hx hb dX10_told_0 rfl (lv_at hl 1 rfl) ?_
  refine lv_i2l (pc := 1) hx hb dX10_told_1 rfl ?_
  refine lv_lconst (pc := 2) (v := 1) hx hb dX10_told_2 (by decide) ?_
  refine lv_ldc2 (pc := 3) (v := 99) hx hb hown (hts (.constantLong RX10 150 (99)) (by decide +kernel)) dX10_told_3 ?_
  obtain ⟨q2, hc1, hf⟩ := zbind hf
  refine zcallSi (pc := 6) (As := [.long (a1.toInt64), .long (1 : Int64), .long (99 : Int64)]) (rest := []) ⟨hx, hb, hml, hown, hts⟩ (kX10_in l (a1.toInt64) (1 : Int64) (99 : Int64) q2 hc1) (va_cwS 3 hts gX10_told_X10_in rfl rfl rfl (by decide +kernel) ⟨Nat.le_of_ble_eq_true rfl, Nat.le_of_ble_eq_true rfl⟩) rfl hl.1 rfl (Nat.le_of_ble_eq_true rfl) dX10_told_6 (Nat.zero_le _) (Nat.zero_le _) ?_
  refine z_if_eq (pc := 9) (tgt := 43) hx hb dX10_told_9 (by decide) hf (fun hf => ?_) (fun hf => ?_)
  · refine lv_iconst (pc := 43) (v := -1) hx hb dX10_told_43 (by decide) ?_
    obtain ⟨rfl, rfl⟩ := zpair hf
    exact z_iret (pc := 44) C0 hI dX10_told_44
  refine lv_iload_n (pc := 12) hx hb dX10_told_12 rfl (lv_at hl 2 rfl) ?_
  refine lv_i2l (pc := 13) hx hb dX10_told_13 rfl ?_
  refine lv_lconst (pc := 14) (v := 0) hx hb dX10_told_14 (by decide) ?_
  refine lv_iload_n (pc := 15) hx hb dX10_told_15 rfl (lv_at hl 1 rfl) ?_
  refine lv_i2l (pc := 16) hx hb dX10_told_16 rfl ?_
  obtain ⟨q4, hc3, hf⟩ := zbind hf
  refine zcallSi (pc := 17) (As := [.long (a2.toInt64), .long (0 : Int64), .long (a1.toInt64)]) (rest := []) ⟨hx, hb, hml, hown, hts⟩ (kX10_in l (a2.toInt64) (0 : Int64) (a1.toInt64) q4 hc3) (va_cwS 3 hts gX10_told_X10_in rfl rfl rfl (by decide +kernel) ⟨Nat.le_of_ble_eq_true rfl, Nat.le_of_ble_eq_true rfl⟩) rfl hl.1 rfl (Nat.le_of_ble_eq_true rfl) dX10_told_17 (Nat.zero_le _) (Nat.zero_le _) ?_
  refine z_if_eq (pc := 20) (tgt := 43) hx hb dX10_told_20 (by decide) hf (fun hf => ?_) (fun hf => ?_)
  · refine lv_iconst (pc := 43) (v := -1) hx hb dX10_told_43 (by decide) ?_
    obtain ⟨rfl, rfl⟩ := zpair hf
    exact z_iret (pc := 44) C0 hI dX10_told_44
  refine lv_iload_n (pc := 23) hx hb dX10_told_23 rfl (lv_at hl 3 rfl) ?_
  refine lv_i2l (pc := 24) hx hb dX10_told_24 rfl ?_
  refine lv_lconst (pc := 25) (v := 0) hx hb dX10_told_25 (by decide) ?_
  refine lv_ldc2 (pc := 26) (v := 255) hx hb hown (hts (.constantLong RX10 152 (255)) (by decide +kernel)) dX10_told_26 ?_
  obtain ⟨q6, hc5, hf⟩ := zbind hf
  refine zcallSi (pc := 29) (As := [.long (a3.toInt64), .long (0 : Int64), .long (255 : Int64)]) (rest := []) ⟨hx, hb, hml, hown, hts⟩ (kX10_in l (a3.toInt64) (0 : Int64) (255 : Int64) q6 hc5) (va_cwS 3 hts gX10_told_X10_in rfl rfl rfl (by decide +kernel) ⟨Nat.le_of_ble_eq_true rfl, Nat.le_of_ble_eq_true rfl⟩) rfl hl.1 rfl (Nat.le_of_ble_eq_true rfl) dX10_told_29 (Nat.zero_le _) (Nat.zero_le _) ?_
  refine z_if_eq (pc := 32) (tgt := 43) hx hb dX10_told_32 (by decide) hf (fun hf => ?_) (fun hf => ?_)
  · refine lv_iconst (pc := 43) (v := -1) hx hb dX10_told_43 (by decide) ?_
    obtain ⟨rfl, rfl⟩ := zpair hf
    exact z_iret (pc := 44) C0 hI dX10_told_44
  refine lv_iload_n (pc := 35) hx hb dX10_told_35 rfl (lv_at hl 3 rfl) ?_
  obtain ⟨q8, hc7, hf⟩ := zbind hf
  refine zcallSi (pc := 36) (As := [.int a3]) (rest := []) ⟨hx, hb, hml, hown, hts⟩ (kX10_sumOf l k a3 q8 hc7) (va_cwS 1 hts gX10_told_X10_sumOf rfl rfl rfl (by decide +kernel) ⟨Nat.le_of_ble_eq_true rfl, Nat.le_of_ble_eq_true rfl⟩) rfl hl.1 rfl (Nat.le_of_ble_eq_true rfl) dX10_told_36 (Nat.zero_le _) (Nat.zero_le _) ?_
  refine lv_iconst (pc := 39) (v := 3) hx hb dX10_told_39 (by decide) ?_
  refine z_icmp_le (pc := 40) (tgt := 45) hx hb dX10_told_40 (by decide) hf (fun hf => ?_) (fun hf => ?_)
  · refine lv_aload_n (pc := 45) hx hb dX10_told_45 rfl (lv_at hl 0 rfl) ?_
    refine z_get (pc := 46) (index := 28) hx hb hts iwX10_told_10 hown hI (ml_0 ad cy u) rfl 15 (by decide) (by decide +kernel) rfl rfl dX10_told_46 ?_
    refine lv_iconst (pc := 49) (v := 0) hx hb dX10_told_49 (by decide) ?_
    refine z_iald (pc := 50) hx hb hI (ml_7 ad cy u) 0 rfl dX10_told_50 hf (fun v9 hf => ?_)
    refine lv_iload_n (pc := 51) hx hb dX10_told_51 rfl (lv_at hl 1 rfl) ?_
    refine lv_iadd (pc := 52) hx hb dX10_told_52 ?_
    refine lv_sipush (pc := 53) (v := 999) hx hb dX10_told_53 (by decide) ?_
    refine z_icmp_le (pc := 56) (tgt := 62) hx hb dX10_told_56 (by decide) hf (fun hf => ?_) (fun hf => ?_)
    · refine lv_aload_n (pc := 62) hx hb dX10_told_62 rfl (lv_at hl 0 rfl) ?_
      obtain ⟨q11, hc10, hf⟩ := zbind hf
      refine zcallVv (pc := 63) (As := []) (rest := []) ⟨hx, hb, hml, hown, hts⟩ (kX10_acts l D ad cy k u q11 hc10) (cwV 0 hts gX10_told_X10_acts rfl rfl rfl (by decide +kernel) ⟨Nat.le_of_ble_eq_true rfl, Nat.le_of_ble_eq_true rfl⟩) hI rfl (ml_0 ad cy u) rfl hl.1 rfl (Nat.le_of_ble_eq_true rfl) dX10_told_63 (Nat.zero_le _) (Nat.zero_le _) (fun H locs hI => ?_)
      refine lv_aload_n (pc := 66) hx hb dX10_told_66 rfl (lv_at hl 0 rfl) ?_
      refine z_get (pc := 67) (index := 28) hx hb hts iwX10_told_10 hown hI (ml_0 ad cy q11) rfl 15 (by decide) (by decide +kernel) rfl rfl dX10_told_67 ?_
      refine lv_iconst (pc := 70) (v := 0) hx hb dX10_told_70 (by decide) ?_
      refine lv_dup2_11 (pc := 71) hx hb dX10_told_71 rfl rfl ?_
      refine z_iald (pc := 72) hx hb hI (ml_7 ad cy q11) 0 rfl dX10_told_72 hf (fun v12 hf => ?_)
      refine lv_iload_n (pc := 73) hx hb dX10_told_73 rfl (lv_at hl 1 rfl) ?_
      refine lv_iadd (pc := 74) hx hb dX10_told_74 ?_
      refine z_iast (wf := WM ad cy) (pc := 75) hx hb hI (ml_7 ad cy q11) 0 rfl dX10_told_75 (fun j => mw_known ad cy q11 (upd (mg_known q11) j (v12 + a1))) hf (fun j13 u14 H locs hj13 hI hf => ?_)
      refine lv_aload_n (pc := 76) hx hb dX10_told_76 rfl (lv_at hl 0 rfl) ?_
      refine lv_iload_n (pc := 77) hx hb dX10_told_77 rfl (lv_at hl 2 rfl) ?_
      refine lv_iload_n (pc := 78) hx hb dX10_told_78 rfl (lv_at hl 3 rfl) ?_
      obtain ⟨q16, hc15, hf⟩ := zbind hf
      refine zcallVv (pc := 79) (As := [.int a2, .int a3]) (rest := []) ⟨hx, hb, hml, hown, hts⟩ (kX10_home l D ad cy k a2 a3 u14 q16 hc15) (cwV 2 hts gX10_told_X10_home rfl rfl rfl (by decide +kernel) ⟨Nat.le_of_ble_eq_true rfl, Nat.le_of_ble_eq_true rfl⟩) hI rfl (ml_0 ad cy u14) rfl hl.1 rfl (Nat.le_of_ble_eq_true rfl) dX10_told_79 (Nat.zero_le _) (Nat.zero_le _) (fun H locs hI => ?_)
      refine lv_aload_n (pc := 82) hx hb dX10_told_82 rfl (lv_at hl 0 rfl) ?_
      refine z_get (pc := 83) (index := 28) hx hb hts iwX10_told_10 hown hI (ml_0 ad cy q16) rfl 15 (by decide) (by decide +kernel) rfl rfl dX10_told_83 ?_
      refine lv_iconst (pc := 86) (v := 0) hx hb dX10_told_86 (by decide) ?_
      refine z_iald (pc := 87) hx hb hI (ml_7 ad cy q16) 0 rfl dX10_told_87 hf (fun v17 hf => ?_)
      obtain ⟨rfl, rfl⟩ := zpair hf
      exact z_iret (pc := 88) C0 hI dX10_told_88
    refine lv_bipush (pc := 59) (v := -3) hx hb dX10_told_59 (by decide) ?_
    obtain ⟨rfl, rfl⟩ := zpair hf
    exact z_iret (pc := 61) C0 hI dX10_told_61
  refine lv_iconst (pc := 43) (v := -1) hx hb dX10_told_43 (by decide) ?_
  obtain ⟨rfl, rfl⟩ := zpair hf
  exact z_iret (pc := 44) C0 hI dX10_told_44
set_option maxHeartbeats 4000000 in
set_option maxRecDepth 100000 in
theorem kX10_drawn (l : Launch) (D : va_G) (ad : Nat → Nat) (cy : Nat → ClassId) (a1 : Int32) (u : MX) (r : Int32) (u' : MX) (hf : fX10_drawn a1 u = some (r, u')) : zCt l yX10_drawn wsX10_drawn ({ frames := 0, cells := 0, slots := 0, locals := 0 } : Room) D ad cy [.ref (ad 0), .int a1] (WM ad cy u) (some (.int r)) (WM ad cy u') := by
  refine zCt.of (cc := cX10_drawn) (maxL := 2) (ret := (some .int)) (own := RX10) (by decide) rfl rfl ?_
  intro p e s m below meth c A C0 hI
  obtain ⟨hx, hb, hml, hown, hts, hr, hlk⟩ := id C0
  refine z_entry (Nat.le_of_ble_eq_true rfl) (fun ls hl => ?_)
  have hl : lv_has ls 2 [(0, .ref (ad 0)), (1, .int a1)] := hl
  unfold fX10_drawn at hf
  refine lv_aload_n (pc := 0) hx hb dX10_drawn_0 rfl (lv_at hl 0 rfl) ?_
  refine lv_aload_n (pc := 1) hx hb dX10_drawn_1 rfl (lv_at hl 0 rfl) ?_
  refine z_get (pc := 2) (index := 161) hx hb hts iwX10_drawn_10 hown hI (ml_0 ad cy u) rfl 18 (by decide) (by decide +kernel) rfl rfl dX10_drawn_2 ?_
  refine lv_ldc (pc := 5) (v := 1103515245) hx hb hown (hts (.constant RX10 164 (1103515245)) (by decide +kernel)) dX10_drawn_5 ?_
  refine lv_imul (pc := 7) hx hb dX10_drawn_7 ?_
  refine lv_sipush (pc := 8) (v := 12345) hx hb dX10_drawn_8 (by decide) ?_
  refine lv_iadd (pc := 11) hx hb dX10_drawn_11 ?_
  refine z_put (wf := WM ad cy) (pc := 12) (index := 161) hx hb hts iwX10_drawn_10 tyX10 tyX10_ok nmX10 hown hI (ml_0 ad cy u) rfl 18 (by decide) (by decide +kernel) rfl rfl rfl rfl (Nat.le_of_ble_eq_true rfl) dX10_drawn_12 (mw_seed ad cy u (((mg_seed u) * (1103515245 : Int32)) + (12345 : Int32))) hf (fun u1 H locs hI hf => ?_)
  refine lv_aload_n (pc := 15) hx hb dX10_drawn_15 rfl (lv_at hl 0 rfl) ?_
  refine z_get (pc := 16) (index := 161) hx hb hts iwX10_drawn_10 hown hI (ml_0 ad cy u1) rfl 18 (by decide) (by decide +kernel) rfl rfl dX10_drawn_16 ?_
  refine lv_bipush (pc := 19) (v := 16) hx hb dX10_drawn_19 (by decide) ?_
  refine lv_ishr (pc := 21) hx hb dX10_drawn_21 ?_
  refine lv_sipush (pc := 22) (v := 32767) hx hb dX10_drawn_22 (by decide) ?_
  refine lv_iand (pc := 25) hx hb dX10_drawn_25 ?_
  refine lv_iload_n (pc := 26) hx hb dX10_drawn_26 rfl (lv_at hl 1 rfl) ?_
  refine z_irem (pc := 27) hx hb dX10_drawn_27 hf (fun hf => ?_)
  obtain ⟨rfl, rfl⟩ := zpair hf
  exact z_iret (pc := 28) C0 hI dX10_drawn_28
set_option maxHeartbeats 4000000 in
set_option maxRecDepth 100000 in
theorem lX10_drawOf_43 (C0 : zFix p m c cX10_drawOf 5 s args wsX10_drawOf RX10 meth (some .int)) {k : Nat} {p1 : Int32} {u : MX} {a : Int32 × Int32} {b : Int32} (hit : ziter (bX10_drawOf_43 k p1 u) k a = some b) (hx9 : (fun (b : Int32) => ∀ (H : Heap) (locs : List Loc) (ls : Array Slot), zIn D ad cy (WM ad cy u) A s H locs → lv_has ls 5 [(4, .int b)] → W p l e ({ frames := 1, cells := 0, slots := 0, locals := 21 } : Room) s m args below meth c H locs 0 0 Q (F0 m 74 ls [])) b) : (fun (a : Int32 × Int32) => ∀ (H : Heap) (locs : List Loc) (ls : Array Slot), zIn D ad cy (WM ad cy u) A s H locs → lv_has ls 5 [(0, .ref (ad 0)), (1, .int p1), (3, .int a.1), (4, .int a.2)] → W p l e ({ frames := 1, cells := 0, slots := 0, locals := 21 } : Room) s m args below meth c H locs 0 0 Q (F0 m 43 ls [])) a := by
  obtain ⟨hx, hb, hml, hown, hts, hr, hlk⟩ := id C0
  refine zloop (Wh := (fun (a : Int32 × Int32) => ∀ (H : Heap) (locs : List Loc) (ls : Array Slot), zIn D ad cy (WM ad cy u) A s H locs → lv_has ls 5 [(0, .ref (ad 0)), (1, .int p1), (3, .int a.1), (4, .int a.2)] → W p l e ({ frames := 1, cells := 0, slots := 0, locals := 21 } : Room) s m args below meth c H locs 0 0 Q (F0 m 43 ls []))) (Wx := (fun (b : Int32) => ∀ (H : Heap) (locs : List Loc) (ls : Array Slot), zIn D ad cy (WM ad cy u) A s H locs → lv_has ls 5 [(4, .int b)] → W p l e ({ frames := 1, cells := 0, slots := 0, locals := 21 } : Room) s m args below meth c H locs 0 0 Q (F0 m 74 ls []))) ?_ _ a b hit hx9
  intro a x hf hL hX H locs ls hI hl
  unfold bX10_drawOf_43 at hf
  refine lv_iload_n (pc := 43) hx hb dX10_drawOf_43 rfl (lv_at hl 2 rfl) ?_
  refine lv_aload_n (pc := 44) hx hb dX10_drawOf_44 rfl (lv_at hl 0 rfl) ?_
  refine z_get (pc := 45) (index := 22) hx hb hts iwX10_drawOf_10 hown hI (ml_0 ad cy u) rfl 12 (by decide) (by decide +kernel) rfl rfl dX10_drawOf_45 ?_
  refine lv_iload_n (pc := 48) hx hb dX10_drawOf_48 rfl (lv_at hl 1 rfl) ?_
  refine lv_iload (pc := 49) hx hb dX10_drawOf_49 (lv_at hl 3 rfl) ?_
  refine lv_iadd (pc := 51) hx hb dX10_drawOf_51 ?_
  refine z_iald (pc := 52) hx hb hI (ml_5 ad cy u) 0 rfl dX10_drawOf_52 hf (fun v8 hf => ?_)
  refine z_icmp_lt (pc := 53) (tgt := 74) hx hb dX10_drawOf_53 (by decide) hf (fun hf => ?_) (fun hf => ?_)
  · exact (hX _ (Option.some.inj hf).symm) _ _ _ hI (lv_sub hl [3] rfl)
  refine lv_iload_n (pc := 56) hx hb dX10_drawOf_56 rfl (lv_at hl 2 rfl) ?_
  refine lv_aload_n (pc := 57) hx hb dX10_drawOf_57 rfl (lv_at hl 0 rfl) ?_
  refine z_get (pc := 58) (index := 22) hx hb hts iwX10_drawOf_10 hown hI (ml_0 ad cy u) rfl 12 (by decide) (by decide +kernel) rfl rfl dX10_drawOf_58 ?_
  refine lv_iload_n (pc := 61) hx hb dX10_drawOf_61 rfl (lv_at hl 1 rfl) ?_
  refine lv_iload (pc := 62) hx hb dX10_drawOf_62 (lv_at hl 3 rfl) ?_
  refine lv_iadd (pc := 64) hx hb dX10_drawOf_64 ?_
  refine z_iald (pc := 65) hx hb hI (ml_5 ad cy u) 0 rfl dX10_drawOf_65 hf (fun v9 hf => ?_)
  refine lv_isub (pc := 66) hx hb dX10_drawOf_66 ?_
  refine z_bi hf (fun v10 hf => ?_)
  refine lv_istore_n (pc := 67) (lv' := [(3, .int v10), (0, .ref (ad 0)), (1, .int p1), (4, .int a.2)]) hx hb dX10_drawOf_67 rfl hl (by decide) rfl (fun ls hl => ?_)
  refine lv_iinc (pc := 68) (v := (a.2 + 1)) (lv' := [(4, .int (a.2 + 1)), (3, .int v10), (0, .ref (ad 0)), (1, .int p1)]) hx hb dX10_drawOf_68 hl (k := 3) rfl rfl (by decide) rfl (fun ls hl => ?_)
  refine lv_goto (pc := 71) (tgt := 43) hx hb dX10_drawOf_71 (by decide) ?_
  exact hL _ (Option.some.inj hf).symm _ _ _ hI (lv_sub hl [2, 3, 1, 0] rfl)
set_option maxHeartbeats 4000000 in
set_option maxRecDepth 100000 in
theorem kX10_drawOf (l : Launch) (D : va_G) (ad : Nat → Nat) (cy : Nat → ClassId) (k : Nat) (a1 : Int32) (u : MX) (r : Int32) (u' : MX) (hf : fX10_drawOf k a1 u = some (r, u')) : zCt l yX10_drawOf wsX10_drawOf ({ frames := 1, cells := 0, slots := 0, locals := 21 } : Room) D ad cy [.ref (ad 0), .int a1] (WM ad cy u) (some (.int r)) (WM ad cy u') := by
  refine zCt.of (cc := cX10_drawOf) (maxL := 5) (ret := (some .int)) (own := RX10) (by decide) rfl rfl ?_
  intro p e s m below meth c A C0 hI
  obtain ⟨hx, hb, hml, hown, hts, hr, hlk⟩ := id C0
  refine z_entry (Nat.le_of_ble_eq_true rfl) (fun ls hl => ?_)
  have hl : lv_has ls 5 [(0, .ref (ad 0)), (1, .int a1)] := hl
  unfold fX10_drawOf at hf
  refine lv_aload_n (pc := 0) hx hb dX10_drawOf_0 rfl (lv_at hl 0 rfl) ?_
  refine z_get (pc := 1) (index := 22) hx hb hts iwX10_drawOf_10 hown hI (ml_0 ad cy u) rfl 12 (by decide) (by decide +kernel) rfl rfl dX10_drawOf_1 ?_
  refine lv_iload_n (pc := 4) hx hb dX10_drawOf_4 rfl (lv_at hl 1 rfl) ?_
  refine z_iald (pc := 5) hx hb hI (ml_5 ad cy u) 0 rfl dX10_drawOf_5 hf (fun v1 hf => ?_)
  refine lv_aload_n (pc := 6) hx hb dX10_drawOf_6 rfl (lv_at hl 0 rfl) ?_
  refine z_get (pc := 7) (index := 22) hx hb hts iwX10_drawOf_10 hown hI (ml_0 ad cy u) rfl 12 (by decide) (by decide +kernel) rfl rfl dX10_drawOf_7 ?_
  refine lv_iload_n (pc := 10) hx hb dX10_drawOf_10 rfl (lv_at hl 1 rfl) ?_
  refine lv_iconst (pc := 11) (v := 1) hx hb dX10_drawOf_11 (by decide) ?_
  refine lv_iadd (pc := 12) hx hb dX10_drawOf_12 ?_
  refine z_iald (pc := 13) hx hb hI (ml_5 ad cy u) 0 rfl dX10_drawOf_13 hf (fun v2 hf => ?_)
  refine lv_iadd (pc := 14) hx hb dX10_drawOf_14 ?_
  refine lv_aload_n (pc := 15) hx hb dX10_drawOf_15 rfl (lv_at hl 0 rfl) ?_
  refine z_get (pc := 16) (index := 22) hx hb hts iwX10_drawOf_10 hown hI (ml_0 ad cy u) rfl 12 (by decide) (by decide +kernel) rfl rfl dX10_drawOf_16 ?_
  refine lv_iload_n (pc := 19) hx hb dX10_drawOf_19 rfl (lv_at hl 1 rfl) ?_
  refine lv_iconst (pc := 20) (v := 2) hx hb dX10_drawOf_20 (by decide) ?_
  refine lv_iadd (pc := 21) hx hb dX10_drawOf_21 ?_
  refine z_iald (pc := 22) hx hb hI (ml_5 ad cy u) 0 rfl dX10_drawOf_22 hf (fun v3 hf => ?_)
  refine lv_iadd (pc := 23) hx hb dX10_drawOf_23 ?_
  refine lv_aload_n (pc := 24) hx hb dX10_drawOf_24 rfl (lv_at hl 0 rfl) ?_
  refine z_get (pc := 25) (index := 22) hx hb hts iwX10_drawOf_10 hown hI (ml_0 ad cy u) rfl 12 (by decide) (by decide +kernel) rfl rfl dX10_drawOf_25 ?_
  refine lv_iload_n (pc := 28) hx hb dX10_drawOf_28 rfl (lv_at hl 1 rfl) ?_
  refine lv_iconst (pc := 29) (v := 3) hx hb dX10_drawOf_29 (by decide) ?_
  refine lv_iadd (pc := 30) hx hb dX10_drawOf_30 ?_
  refine z_iald (pc := 31) hx hb hI (ml_5 ad cy u) 0 rfl dX10_drawOf_31 hf (fun v4 hf => ?_)
  refine lv_iadd (pc := 32) hx hb dX10_drawOf_32 ?_
  refine z_bi hf (fun v5 hf => ?_)
  refine lv_istore_n (pc := 33) (lv' := [(2, .int v5), (0, .ref (ad 0)), (1, .int a1)]) hx hb dX10_drawOf_33 rfl hl (by decide) rfl (fun ls hl => ?_)
  refine lv_aload_n (pc := 34) hx hb dX10_drawOf_34 rfl (lv_at hl 1 rfl) ?_
  refine lv_iload_n (pc := 35) hx hb dX10_drawOf_35 rfl (lv_at hl 0 rfl) ?_
  obtain ⟨q7, hc6, hf⟩ := zbind hf
  refine zcallVi (pc := 36) (As := [.int v5]) (rest := []) ⟨hx, hb, hml, hown, hts⟩ (kX10_drawn l D ad cy v5 u q7.1 q7.2 hc6) (cwV 1 hts gX10_drawOf_X10_drawn rfl rfl rfl (by decide +kernel) ⟨Nat.le_of_ble_eq_true rfl, Nat.le_of_ble_eq_true rfl⟩) hI rfl (ml_0 ad cy u) rfl hl.1 rfl (Nat.le_of_ble_eq_true rfl) dX10_drawOf_36 (Nat.zero_le _) (Nat.zero_le _) (fun H locs hI => ?_)
  refine lv_istore_n (pc := 39) (lv' := [(3, .int q7.1), (2, .int v5), (0, .ref (ad 0)), (1, .int a1)]) hx hb dX10_drawOf_39 rfl hl (by decide) rfl (fun ls hl => ?_)
  refine lv_iconst (pc := 40) (v := 0) hx hb dX10_drawOf_40 (by decide) ?_
  refine lv_istore (pc := 41) (lv' := [(4, .int (0 : Int32)), (3, .int q7.1), (2, .int v5), (0, .ref (ad 0)), (1, .int a1)]) hx hb dX10_drawOf_41 hl (by decide) rfl (fun ls hl => ?_)
  obtain ⟨b11, hb12, hf⟩ := zbind hf
  refine lX10_drawOf_43 C0 hb12 ?_ _ _ _ hI (lv_sub hl [3, 4, 1, 0] rfl)
  intro H locs ls hI hl
  refine lv_iload (pc := 74) hx hb dX10_drawOf_74 (lv_at hl 0 rfl) ?_
  obtain ⟨rfl, rfl⟩ := zpair hf
  exact z_iret (pc := 76) C0 hI dX10_drawOf_76
set_option maxHeartbeats 4000000 in
set_option maxRecDepth 100000 in
theorem lX10_sortie_31 (C0 : zFix p m c cX10_sortie 5 s args wsX10_sortie RX10 meth (some .int)) {k : Nat} {p1 : Int32} {a : Int32 × Int32 × MX} {b : (MX) ⊕ (Int32 × MX)} (hit : ziter (bX10_sortie_31 k p1) k a = some b) (hx9 : (fun (b : (MX) ⊕ (Int32 × MX)) => zel b (fun b => ∀ (H : Heap) (locs : List Loc) (ls : Array Slot), zIn D ad cy (WM ad cy b) A s H locs → lv_has ls 5 [(0, .ref (ad 0))] → W p l e ({ frames := 2, cells := 0, slots := 0, locals := 45 } : Room) s m args below meth c H locs 0 0 Q (F0 m 61 ls [])) (fun b => ∀ (H : Heap) (locs : List Loc) (ls : Array Slot), zIn D ad cy (WM ad cy b.2) A s H locs → lv_has ls 5 [(2, .int b.1)] → W p l e ({ frames := 2, cells := 0, slots := 0, locals := 45 } : Room) s m args below meth c H locs 0 0 Q (F0 m 92 ls []))) b) : (fun (a : Int32 × Int32 × MX) => ∀ (H : Heap) (locs : List Loc) (ls : Array Slot), zIn D ad cy (WM ad cy a.2.2) A s H locs → lv_has ls 5 [(0, .ref (ad 0)), (1, .int p1), (2, .int a.1), (3, .int a.2.1)] → W p l e ({ frames := 2, cells := 0, slots := 0, locals := 45 } : Room) s m args below meth c H locs 0 0 Q (F0 m 31 ls [])) a := by
  obtain ⟨hx, hb, hml, hown, hts, hr, hlk⟩ := id C0
  refine zloop (Wh := (fun (a : Int32 × Int32 × MX) => ∀ (H : Heap) (locs : List Loc) (ls : Array Slot), zIn D ad cy (WM ad cy a.2.2) A s H locs → lv_has ls 5 [(0, .ref (ad 0)), (1, .int p1), (2, .int a.1), (3, .int a.2.1)] → W p l e ({ frames := 2, cells := 0, slots := 0, locals := 45 } : Room) s m args below meth c H locs 0 0 Q (F0 m 31 ls []))) (Wx := (fun (b : (MX) ⊕ (Int32 × MX)) => zel b (fun b => ∀ (H : Heap) (locs : List Loc) (ls : Array Slot), zIn D ad cy (WM ad cy b) A s H locs → lv_has ls 5 [(0, .ref (ad 0))] → W p l e ({ frames := 2, cells := 0, slots := 0, locals := 45 } : Room) s m args below meth c H locs 0 0 Q (F0 m 61 ls [])) (fun b => ∀ (H : Heap) (locs : List Loc) (ls : Array Slot), zIn D ad cy (WM ad cy b.2) A s H locs → lv_has ls 5 [(2, .int b.1)] → W p l e ({ frames := 2, cells := 0, slots := 0, locals := 45 } : Room) s m args below meth c H locs 0 0 Q (F0 m 92 ls [])))) ?_ _ a b hit hx9
  intro a x hf hL hX H locs ls hI hl
  unfold bX10_sortie_31 at hf
  refine lv_iload_n (pc := 31) hx hb dX10_sortie_31 rfl (lv_at hl 3 rfl) ?_
  refine lv_iload_n (pc := 32) hx hb dX10_sortie_32 rfl (lv_at hl 1 rfl) ?_
  refine z_icmp_ge (pc := 33) (tgt := 92) hx hb dX10_sortie_33 (by decide) hf (fun hf => ?_) (fun hf => ?_)
  · exact (z_elP2 (hX _ (Option.some.inj hf).symm)) _ _ _ hI (lv_sub hl [2] rfl)
  refine lv_aload_n (pc := 36) hx hb dX10_sortie_36 rfl (lv_at hl 0 rfl) ?_
  refine lv_iconst (pc := 37) (v := 0) hx hb dX10_sortie_37 (by decide) ?_
  obtain ⟨q7, hc6, hf⟩ := zbind hf
  refine zcallVi (pc := 38) (As := [.int (0 : Int32)]) (rest := []) ⟨hx, hb, hml, hown, hts⟩ (kX10_drawOf l D ad cy k (0 : Int32) a.2.2 q7.1 q7.2 hc6) (cwV 1 hts gX10_sortie_X10_drawOf rfl rfl rfl (by decide +kernel) ⟨Nat.le_of_ble_eq_true rfl, Nat.le_of_ble_eq_true rfl⟩) hI rfl (ml_0 ad cy a.2.2) rfl hl.1 rfl (Nat.le_of_ble_eq_true rfl) dX10_sortie_38 (Nat.zero_le _) (Nat.zero_le _) (fun H locs hI => ?_)
  refine lv_istore (pc := 41) (lv' := [(4, .int q7.1), (0, .ref (ad 0)), (1, .int p1), (2, .int a.1), (3, .int a.2.1)]) hx hb dX10_sortie_41 hl (by decide) rfl (fun ls hl => ?_)
  refine lv_aload_n (pc := 43) hx hb dX10_sortie_43 rfl (lv_at hl 1 rfl) ?_
  refine lv_bipush (pc := 44) (v := 10) hx hb dX10_sortie_44 (by decide) ?_
  obtain ⟨q9, hc8, hf⟩ := zbind hf
  refine zcallVi (pc := 46) (As := [.int (10 : Int32)]) (rest := []) ⟨hx, hb, hml, hown, hts⟩ (kX10_drawn l D ad cy (10 : Int32) q7.2 q9.1 q9.2 hc8) (cwV 1 hts gX10_sortie_X10_drawn rfl rfl rfl (by decide +kernel) ⟨Nat.le_of_ble_eq_true rfl, Nat.le_of_ble_eq_true rfl⟩) hI rfl (ml_0 ad cy q7.2) rfl hl.1 rfl (Nat.le_of_ble_eq_true rfl) dX10_sortie_46 (Nat.zero_le _) (Nat.zero_le _) (fun H locs hI => ?_)
  refine lv_aload_n (pc := 49) hx hb dX10_sortie_49 rfl (lv_at hl 1 rfl) ?_
  refine z_get (pc := 50) (index := 22) hx hb hts iwX10_sortie_10 hown hI (ml_0 ad cy q9.2) rfl 12 (by decide) (by decide +kernel) rfl rfl dX10_sortie_50 ?_
  refine lv_iconst (pc := 53) (v := 4) hx hb dX10_sortie_53 (by decide) ?_
  refine lv_iload (pc := 54) hx hb dX10_sortie_54 (lv_at hl 0 rfl) ?_
  refine lv_iadd (pc := 56) hx hb dX10_sortie_56 ?_
  refine z_iald (pc := 57) hx hb hI (ml_5 ad cy q9.2) 0 rfl dX10_sortie_57 hf (fun v10 hf => ?_)
  refine z_icmp_ge (pc := 58) (tgt := 75) hx hb dX10_sortie_58 (by decide) hf (fun hf => ?_) (fun hf => ?_)
  · refine lv_iload_n (pc := 75) hx hb dX10_sortie_75 rfl (lv_at hl 3 rfl) ?_
    refine lv_iconst (pc := 76) (v := 1) hx hb dX10_sortie_76 (by decide) ?_
    refine lv_iconst (pc := 77) (v := 2) hx hb dX10_sortie_77 (by decide) ?_
    refine lv_iconst (pc := 78) (v := 3) hx hb dX10_sortie_78 (by decide) ?_
    refine lv_iload (pc := 79) hx hb dX10_sortie_79 (lv_at hl 0 rfl) ?_
    refine lv_isub (pc := 81) hx hb dX10_sortie_81 ?_
    refine lv_imul (pc := 82) hx hb dX10_sortie_82 ?_
    refine lv_ishl (pc := 83) hx hb dX10_sortie_83 ?_
    refine lv_iadd (pc := 84) hx hb dX10_sortie_84 ?_
    refine z_bi hf (fun v11 hf => ?_)
    refine lv_istore_n (pc := 85) (lv' := [(2, .int v11), (4, .int q7.1), (0, .ref (ad 0)), (1, .int p1), (3, .int a.2.1)]) hx hb dX10_sortie_85 rfl hl (by decide) rfl (fun ls hl => ?_)
    refine lv_iinc (pc := 86) (v := (a.2.1 + 1)) (lv' := [(3, .int (a.2.1 + 1)), (2, .int v11), (4, .int q7.1), (0, .ref (ad 0)), (1, .int p1)]) hx hb dX10_sortie_86 hl (k := 4) rfl rfl (by decide) rfl (fun ls hl => ?_)
    refine lv_goto (pc := 89) (tgt := 31) hx hb dX10_sortie_89 (by decide) ?_
    exact hL _ (Option.some.inj hf).symm _ _ _ hI (lv_sub hl [3, 4, 1, 0] rfl)
  exact (z_elP1 (hX _ (Option.some.inj hf).symm)) _ _ _ hI (lv_sub hl [1] rfl)
set_option maxHeartbeats 4000000 in
set_option maxRecDepth 100000 in
theorem kX10_sortie (l : Launch) (D : va_G) (ad : Nat → Nat) (cy : Nat → ClassId) (k : Nat) (u : MX) (r : Int32) (u' : MX) (hf : fX10_sortie k u = some (r, u')) : zCt l yX10_sortie wsX10_sortie ({ frames := 2, cells := 0, slots := 0, locals := 45 } : Room) D ad cy [.ref (ad 0)] (WM ad cy u) (some (.int r)) (WM ad cy u') := by
  refine zCt.of (cc := cX10_sortie) (maxL := 5) (ret := (some .int)) (own := RX10) (by decide) rfl rfl ?_
  intro p e s m below meth c A C0 hI
  obtain ⟨hx, hb, hml, hown, hts, hr, hlk⟩ := id C0
  refine z_entry (Nat.le_of_ble_eq_true rfl) (fun ls hl => ?_)
  have hl : lv_has ls 5 [(0, .ref (ad 0))] := hl
  unfold fX10_sortie at hf
  refine lv_aload_n (pc := 0) hx hb dX10_sortie_0 rfl (lv_at hl 0 rfl) ?_
  refine lv_sipush (pc := 1) (v := 1000) hx hb dX10_sortie_1 (by decide) ?_
  obtain ⟨q2, hc1, hf⟩ := zbind hf
  refine zcallVi (pc := 4) (As := [.int (1000 : Int32)]) (rest := []) ⟨hx, hb, hml, hown, hts⟩ (kX10_drawn l D ad cy (1000 : Int32) u q2.1 q2.2 hc1) (cwV 1 hts gX10_sortie_X10_drawn rfl rfl rfl (by decide +kernel) ⟨Nat.le_of_ble_eq_true rfl, Nat.le_of_ble_eq_true rfl⟩) hI rfl (ml_0 ad cy u) rfl hl.1 rfl (Nat.le_of_ble_eq_true rfl) dX10_sortie_4 (Nat.zero_le _) (Nat.zero_le _) (fun H locs hI => ?_)
  refine lv_aload_n (pc := 7) hx hb dX10_sortie_7 rfl (lv_at hl 0 rfl) ?_
  refine z_get (pc := 8) (index := 22) hx hb hts iwX10_sortie_10 hown hI (ml_0 ad cy q2.2) rfl 12 (by decide) (by decide +kernel) rfl rfl dX10_sortie_8 ?_
  refine lv_bipush (pc := 11) (v := 16) hx hb dX10_sortie_11 (by decide) ?_
  refine z_iald (pc := 13) hx hb hI (ml_5 ad cy q2.2) 0 rfl dX10_sortie_13 hf (fun v3 hf => ?_)
  refine z_icmp_ge (pc := 14) (tgt := 20) hx hb dX10_sortie_14 (by decide) hf (fun hf => ?_) (fun hf => ?_)
  · refine lv_aload_n (pc := 20) hx hb dX10_sortie_20 rfl (lv_at hl 0 rfl) ?_
    refine lv_bipush (pc := 21) (v := 12) hx hb dX10_sortie_21 (by decide) ?_
    obtain ⟨q5, hc4, hf⟩ := zbind hf
    refine zcallVi (pc := 23) (As := [.int (12 : Int32)]) (rest := []) ⟨hx, hb, hml, hown, hts⟩ (kX10_drawOf l D ad cy k (12 : Int32) q2.2 q5.1 q5.2 hc4) (cwV 1 hts gX10_sortie_X10_drawOf rfl rfl rfl (by decide +kernel) ⟨Nat.le_of_ble_eq_true rfl, Nat.le_of_ble_eq_true rfl⟩) hI rfl (ml_0 ad cy q2.2) rfl hl.1 rfl (Nat.le_of_ble_eq_true rfl) dX10_sortie_23 (Nat.zero_le _) (Nat.zero_le _) (fun H locs hI => ?_)
    refine lv_istore_n (pc := 26) (lv' := [(1, .int q5.1), (0, .ref (ad 0))]) hx hb dX10_sortie_26 rfl hl (by decide) rfl (fun ls hl => ?_)
    refine lv_iconst (pc := 27) (v := 0) hx hb dX10_sortie_27 (by decide) ?_
    refine lv_istore_n (pc := 28) (lv' := [(2, .int (0 : Int32)), (1, .int q5.1), (0, .ref (ad 0))]) hx hb dX10_sortie_28 rfl hl (by decide) rfl (fun ls hl => ?_)
    refine lv_iconst (pc := 29) (v := 0) hx hb dX10_sortie_29 (by decide) ?_
    refine lv_istore_n (pc := 30) (lv' := [(3, .int (0 : Int32)), (2, .int (0 : Int32)), (1, .int q5.1), (0, .ref (ad 0))]) hx hb dX10_sortie_30 rfl hl (by decide) rfl (fun ls hl => ?_)
    obtain ⟨b12, hb13, hf⟩ := zbind hf
    rcases b12 with b12 | b12
    · have hf := z_el1 hf
      refine lX10_sortie_31 C0 hb13 ?_ _ _ _ hI (lv_sub hl [3, 2, 1, 0] rfl)
      intro H locs ls hI hl
      refine lv_aload_n (pc := 61) hx hb dX10_sortie_61 rfl (lv_at hl 0 rfl) ?_
      refine z_get (pc := 62) (index := 28) hx hb hts iwX10_sortie_10 hown hI (ml_0 ad cy b12) rfl 15 (by decide) (by decide +kernel) rfl rfl dX10_sortie_62 ?_
      refine lv_bipush (pc := 65) (v := 9) hx hb dX10_sortie_65 (by decide) ?_
      refine lv_dup2_11 (pc := 67) hx hb dX10_sortie_67 rfl rfl ?_
      refine z_iald (pc := 68) hx hb hI (ml_7 ad cy b12) 0 rfl dX10_sortie_68 hf (fun v14 hf => ?_)
      refine lv_iconst (pc := 69) (v := 1) hx hb dX10_sortie_69 (by decide) ?_
      refine lv_iadd (pc := 70) hx hb dX10_sortie_70 ?_
      refine z_iast (wf := WM ad cy) (pc := 71) hx hb hI (ml_7 ad cy b12) 0 rfl dX10_sortie_71 (fun j => mw_known ad cy b12 (upd (mg_known b12) j (v14 + (1 : Int32)))) hf (fun j15 u16 H locs hj15 hI hf => ?_)
      refine lv_bipush (pc := 72) (v := -4) hx hb dX10_sortie_72 (by decide) ?_
      obtain ⟨rfl, rfl⟩ := zpair hf
      exact z_iret (pc := 74) C0 hI dX10_sortie_74
    have hf := z_el2 hf
    refine lX10_sortie_31 C0 hb13 ?_ _ _ _ hI (lv_sub hl [3, 2, 1, 0] rfl)
    intro H locs ls hI hl
    refine lv_iload_n (pc := 92) hx hb dX10_sortie_92 rfl (lv_at hl 0 rfl) ?_
    obtain ⟨rfl, rfl⟩ := zpair hf
    exact z_iret (pc := 93) C0 hI dX10_sortie_93
  refine lv_bipush (pc := 17) (v := -4) hx hb dX10_sortie_17 (by decide) ?_
  obtain ⟨rfl, rfl⟩ := zpair hf
  exact z_iret (pc := 19) C0 hI dX10_sortie_19
set_option maxHeartbeats 4000000 in
set_option maxRecDepth 100000 in
theorem lX10_draw_39 (C0 : zFix p m c cX10_draw 5 s args wsX10_draw RX10 meth (some .int)) {k : Nat} {p1 : Int32} {a : Int32 × Int32 × MX} {b : Int32 × MX} (hit : ziter (bX10_draw_39 k p1) k a = some b) (hx9 : (fun (b : Int32 × MX) => ∀ (H : Heap) (locs : List Loc) (ls : Array Slot), zIn D ad cy (WM ad cy b.2) A s H locs → lv_has ls 5 [(2, .int b.1)] → W p l e ({ frames := 3, cells := 0, slots := 0, locals := 69 } : Room) s m args below meth c H locs 0 0 Q (F0 m 83 ls [])) b) : (fun (a : Int32 × Int32 × MX) => ∀ (H : Heap) (locs : List Loc) (ls : Array Slot), zIn D ad cy (WM ad cy a.2.2) A s H locs → lv_has ls 5 [(0, .ref (ad 0)), (1, .int p1), (2, .int a.1), (3, .int a.2.1)] → W p l e ({ frames := 3, cells := 0, slots := 0, locals := 69 } : Room) s m args below meth c H locs 0 0 Q (F0 m 39 ls [])) a := by
  obtain ⟨hx, hb, hml, hown, hts, hr, hlk⟩ := id C0
  refine zloop (Wh := (fun (a : Int32 × Int32 × MX) => ∀ (H : Heap) (locs : List Loc) (ls : Array Slot), zIn D ad cy (WM ad cy a.2.2) A s H locs → lv_has ls 5 [(0, .ref (ad 0)), (1, .int p1), (2, .int a.1), (3, .int a.2.1)] → W p l e ({ frames := 3, cells := 0, slots := 0, locals := 69 } : Room) s m args below meth c H locs 0 0 Q (F0 m 39 ls []))) (Wx := (fun (b : Int32 × MX) => ∀ (H : Heap) (locs : List Loc) (ls : Array Slot), zIn D ad cy (WM ad cy b.2) A s H locs → lv_has ls 5 [(2, .int b.1)] → W p l e ({ frames := 3, cells := 0, slots := 0, locals := 69 } : Room) s m args below meth c H locs 0 0 Q (F0 m 83 ls []))) ?_ _ a b hit hx9
  intro a x hf hL hX H locs ls hI hl
  unfold bX10_draw_39 at hf
  refine lv_iload_n (pc := 39) hx hb dX10_draw_39 rfl (lv_at hl 3 rfl) ?_
  refine lv_iload_n (pc := 40) hx hb dX10_draw_40 rfl (lv_at hl 1 rfl) ?_
  refine z_icmp_ge (pc := 41) (tgt := 83) hx hb dX10_draw_41 (by decide) hf (fun hf => ?_) (fun hf => ?_)
  · exact (hX _ (Option.some.inj hf).symm) _ _ _ hI (lv_sub hl [2] rfl)
  refine lv_aload_n (pc := 44) hx hb dX10_draw_44 rfl (lv_at hl 0 rfl) ?_
  obtain ⟨q7, hc6, hf⟩ := zbind hf
  refine zcallVi (pc := 45) (As := []) (rest := []) ⟨hx, hb, hml, hown, hts⟩ (kX10_sortie l D ad cy k a.2.2 q7.1 q7.2 hc6) (cwV 0 hts gX10_draw_X10_sortie rfl rfl rfl (by decide +kernel) ⟨Nat.le_of_ble_eq_true rfl, Nat.le_of_ble_eq_true rfl⟩) hI rfl (ml_0 ad cy a.2.2) rfl hl.1 rfl (Nat.le_of_ble_eq_true rfl) dX10_draw_45 (Nat.zero_le _) (Nat.zero_le _) (fun H locs hI => ?_)
  refine lv_istore (pc := 48) (lv' := [(4, .int q7.1), (0, .ref (ad 0)), (1, .int p1), (2, .int a.1), (3, .int a.2.1)]) hx hb dX10_draw_48 hl (by decide) rfl (fun ls hl => ?_)
  refine lv_aload_n (pc := 50) hx hb dX10_draw_50 rfl (lv_at hl 1 rfl) ?_
  refine z_get (pc := 51) (index := 28) hx hb hts iwX10_draw_10 hown hI (ml_0 ad cy q7.2) rfl 15 (by decide) (by decide +kernel) rfl rfl dX10_draw_51 ?_
  refine lv_iconst (pc := 54) (v := 0) hx hb dX10_draw_54 (by decide) ?_
  refine lv_dup2_11 (pc := 55) hx hb dX10_draw_55 rfl rfl ?_
  refine z_iald (pc := 56) hx hb hI (ml_7 ad cy q7.2) 0 rfl dX10_draw_56 hf (fun v8 hf => ?_)
  refine lv_iconst (pc := 57) (v := 1) hx hb dX10_draw_57 (by decide) ?_
  refine lv_iadd (pc := 58) hx hb dX10_draw_58 ?_
  refine z_iast (wf := WM ad cy) (pc := 59) hx hb hI (ml_7 ad cy q7.2) 0 rfl dX10_draw_59 (fun j => mw_known ad cy q7.2 (upd (mg_known q7.2) j (v8 + (1 : Int32)))) hf (fun j9 u10 H locs hj9 hI hf => ?_)
  refine lv_iload (pc := 60) hx hb dX10_draw_60 (lv_at hl 0 rfl) ?_
  refine lv_bipush (pc := 62) (v := -4) hx hb dX10_draw_62 (by decide) ?_
  refine z_icmp_eq (pc := 64) (tgt := 77) hx hb dX10_draw_64 (by decide) hf (fun hf => ?_) (fun hf => ?_)
  · refine lv_iinc (pc := 77) (v := (a.2.1 + 1)) (lv' := [(3, .int (a.2.1 + 1)), (4, .int q7.1), (0, .ref (ad 0)), (1, .int p1), (2, .int a.1)]) hx hb dX10_draw_77 hl (k := 4) rfl rfl (by decide) rfl (fun ls hl => ?_)
    refine lv_goto (pc := 80) (tgt := 39) hx hb dX10_draw_80 (by decide) ?_
    exact hL _ (Option.some.inj hf).symm _ _ _ hI (lv_sub hl [2, 3, 4, 0] rfl)
  refine lv_aload_n (pc := 67) hx hb dX10_draw_67 rfl (lv_at hl 1 rfl) ?_
  refine lv_iconst (pc := 68) (v := 1) hx hb dX10_draw_68 (by decide) ?_
  refine lv_iload (pc := 69) hx hb dX10_draw_69 (lv_at hl 0 rfl) ?_
  obtain ⟨q12, hc11, hf⟩ := zbind hf
  refine zcallVv (pc := 71) (As := [.int (1 : Int32), .int q7.1]) (rest := []) ⟨hx, hb, hml, hown, hts⟩ (kX10_home l D ad cy k (1 : Int32) q7.1 u10 q12 hc11) (cwV 2 hts gX10_draw_X10_home rfl rfl rfl (by decide +kernel) ⟨Nat.le_of_ble_eq_true rfl, Nat.le_of_ble_eq_true rfl⟩) hI rfl (ml_0 ad cy u10) rfl hl.1 rfl (Nat.le_of_ble_eq_true rfl) dX10_draw_71 (Nat.zero_le _) (Nat.zero_le _) (fun H locs hI => ?_)
  refine lv_iinc (pc := 74) (v := (a.1 + 1)) (lv' := [(2, .int (a.1 + 1)), (4, .int q7.1), (0, .ref (ad 0)), (1, .int p1), (3, .int a.2.1)]) hx hb dX10_draw_74 hl (k := 3) rfl rfl (by decide) rfl (fun ls hl => ?_)
  refine lv_iinc (pc := 77) (v := (a.2.1 + 1)) (lv' := [(3, .int (a.2.1 + 1)), (2, .int (a.1 + 1)), (4, .int q7.1), (0, .ref (ad 0)), (1, .int p1)]) hx hb dX10_draw_77 hl (k := 4) rfl rfl (by decide) rfl (fun ls hl => ?_)
  refine lv_goto (pc := 80) (tgt := 39) hx hb dX10_draw_80 (by decide) ?_
  exact hL _ (Option.some.inj hf).symm _ _ _ hI (lv_sub hl [3, 4, 1, 0] rfl)
set_option maxHeartbeats 4000000 in
set_option maxRecDepth 100000 in
theorem kX10_draw (l : Launch) (D : va_G) (ad : Nat → Nat) (cy : Nat → ClassId) (k : Nat) (a1 : Int32) (u : MX) (r : Int32) (u' : MX) (hf : fX10_draw k a1 u = some (r, u')) : zCt l yX10_draw wsX10_draw ({ frames := 3, cells := 0, slots := 0, locals := 69 } : Room) D ad cy [.ref (ad 0), .int a1] (WM ad cy u) (some (.int r)) (WM ad cy u') := by
  refine zCt.of (cc := cX10_draw) (maxL := 5) (ret := (some .int)) (own := RX10) (by decide) rfl rfl ?_
  intro p e s m below meth c A C0 hI
  obtain ⟨hx, hb, hml, hown, hts, hr, hlk⟩ := id C0
  refine z_entry (Nat.le_of_ble_eq_true rfl) (fun ls hl => ?_)
  have hl : lv_has ls 5 [(0, .ref (ad 0)), (1, .int a1)] := hl
  unfold fX10_draw at hf
  refine lv_iload_n (pc := 0) hx hb dX10_draw_0 rfl (lv_at hl 1 rfl) ?_
  refine lv_i2l (pc := 1) hx hb dX10_draw_1 rfl ?_
  refine lv_lconst (pc := 2) (v := 1) hx hb dX10_draw_2 (by decide) ?_
  refine lv_ldc2 (pc := 3) (v := 99) hx hb hown (hts (.constantLong RX10 150 (99)) (by decide +kernel)) dX10_draw_3 ?_
  obtain ⟨q2, hc1, hf⟩ := zbind hf
  refine zcallSi (pc := 6) (As := [.long (a1.toInt64), .long (1 : Int64), .long (99 : Int64)]) (rest := []) ⟨hx, hb, hml, hown, hts⟩ (kX10_in l (a1.toInt64) (1 : Int64) (99 : Int64) q2 hc1) (va_cwS 3 hts gX10_draw_X10_in rfl rfl rfl (by decide +kernel) ⟨Nat.le_of_ble_eq_true rfl, Nat.le_of_ble_eq_true rfl⟩) rfl hl.1 rfl (Nat.le_of_ble_eq_true rfl) dX10_draw_6 (Nat.zero_le _) (Nat.zero_le _) ?_
  refine z_if_ne (pc := 9) (tgt := 14) hx hb dX10_draw_9 (by decide) hf (fun hf => ?_) (fun hf => ?_)
  · refine lv_aload_n (pc := 14) hx hb dX10_draw_14 rfl (lv_at hl 0 rfl) ?_
    refine z_get (pc := 15) (index := 28) hx hb hts iwX10_draw_10 hown hI (ml_0 ad cy u) rfl 15 (by decide) (by decide +kernel) rfl rfl dX10_draw_15 ?_
    refine lv_iconst (pc := 18) (v := 0) hx hb dX10_draw_18 (by decide) ?_
    refine z_iald (pc := 19) hx hb hI (ml_7 ad cy u) 0 rfl dX10_draw_19 hf (fun v3 hf => ?_)
    refine lv_iload_n (pc := 20) hx hb dX10_draw_20 rfl (lv_at hl 1 rfl) ?_
    refine lv_iadd (pc := 21) hx hb dX10_draw_21 ?_
    refine lv_sipush (pc := 22) (v := 999) hx hb dX10_draw_22 (by decide) ?_
    refine z_icmp_le (pc := 25) (tgt := 31) hx hb dX10_draw_25 (by decide) hf (fun hf => ?_) (fun hf => ?_)
    · refine lv_aload_n (pc := 31) hx hb dX10_draw_31 rfl (lv_at hl 0 rfl) ?_
      obtain ⟨q5, hc4, hf⟩ := zbind hf
      refine zcallVv (pc := 32) (As := []) (rest := []) ⟨hx, hb, hml, hown, hts⟩ (kX10_acts l D ad cy k u q5 hc4) (cwV 0 hts gX10_draw_X10_acts rfl rfl rfl (by decide +kernel) ⟨Nat.le_of_ble_eq_true rfl, Nat.le_of_ble_eq_true rfl⟩) hI rfl (ml_0 ad cy u) rfl hl.1 rfl (Nat.le_of_ble_eq_true rfl) dX10_draw_32 (Nat.zero_le _) (Nat.zero_le _) (fun H locs hI => ?_)
      refine lv_iconst (pc := 35) (v := 0) hx hb dX10_draw_35 (by decide) ?_
      refine lv_istore_n (pc := 36) (lv' := [(2, .int (0 : Int32)), (0, .ref (ad 0)), (1, .int a1)]) hx hb dX10_draw_36 rfl hl (by decide) rfl (fun ls hl => ?_)
      refine lv_iconst (pc := 37) (v := 0) hx hb dX10_draw_37 (by decide) ?_
      refine lv_istore_n (pc := 38) (lv' := [(3, .int (0 : Int32)), (2, .int (0 : Int32)), (0, .ref (ad 0)), (1, .int a1)]) hx hb dX10_draw_38 rfl hl (by decide) rfl (fun ls hl => ?_)
      obtain ⟨b13, hb14, hf⟩ := zbind hf
      refine lX10_draw_39 C0 hb14 ?_ _ _ _ hI (lv_sub hl [2, 3, 1, 0] rfl)
      intro H locs ls hI hl
      refine lv_iload_n (pc := 83) hx hb dX10_draw_83 rfl (lv_at hl 0 rfl) ?_
      obtain ⟨rfl, rfl⟩ := zpair hf
      exact z_iret (pc := 84) C0 hI dX10_draw_84
    refine lv_bipush (pc := 28) (v := -3) hx hb dX10_draw_28 (by decide) ?_
    obtain ⟨rfl, rfl⟩ := zpair hf
    exact z_iret (pc := 30) C0 hI dX10_draw_30
  refine lv_iconst (pc := 12) (v := -1) hx hb dX10_draw_12 (by decide) ?_
  obtain ⟨rfl, rfl⟩ := zpair hf
  exact z_iret (pc := 13) C0 hI dX10_draw_13
set_option maxHeartbeats 4000000 in
set_option maxRecDepth 100000 in
theorem kX10_seed (l : Launch) (D : va_G) (ad : Nat → Nat) (cy : Nat → ClassId) (a1 : Int32) (u : MX) (r : Int32) (u' : MX) (hf : fX10_seed a1 u = some (r, u')) : zCt l yX10_seed wsX10_seed ({ frames := 0, cells := 0, slots := 0, locals := 0 } : Room) D ad cy [.ref (ad 0), .int a1] (WM ad cy u) (some (.int r)) (WM ad cy u') := by
  refine zCt.of (cc := cX10_seed) (maxL := 3) (ret := (some .int)) (own := RX10) (by decide) rfl rfl ?_
  intro p e s m below meth c A C0 hI
  obtain ⟨hx, hb, hml, hown, hts, hr, hlk⟩ := id C0
  refine z_entry (Nat.le_of_ble_eq_true rfl) (fun ls hl => ?_)
  have hl : lv_has ls 3 [(0, .ref (ad 0)), (1, .int a1)] := hl
  unfold fX10_seed at hf
  refine lv_aload_n (pc := 0) hx hb dX10_seed_0 rfl (lv_at hl 0 rfl) ?_
  refine z_get (pc := 1) (index := 161) hx hb hts iwX10_seed_10 hown hI (ml_0 ad cy u) rfl 18 (by decide) (by decide +kernel) rfl rfl dX10_seed_1 ?_
  refine z_bi hf (fun v1 hf => ?_)
  refine lv_istore_n (pc := 4) (lv' := [(2, .int v1), (0, .ref (ad 0)), (1, .int a1)]) hx hb dX10_seed_4 rfl hl (by decide) rfl (fun ls hl => ?_)
  refine lv_aload_n (pc := 5) hx hb dX10_seed_5 rfl (lv_at hl 1 rfl) ?_
  refine lv_iload_n (pc := 6) hx hb dX10_seed_6 rfl (lv_at hl 2 rfl) ?_
  refine z_put (wf := WM ad cy) (pc := 7) (index := 161) hx hb hts iwX10_seed_10 tyX10 tyX10_ok nmX10 hown hI (ml_0 ad cy u) rfl 18 (by decide) (by decide +kernel) rfl rfl rfl rfl (Nat.le_of_ble_eq_true rfl) dX10_seed_7 (mw_seed ad cy u a1) hf (fun u2 H locs hI hf => ?_)
  refine lv_iload_n (pc := 10) hx hb dX10_seed_10 rfl (lv_at hl 0 rfl) ?_
  obtain ⟨rfl, rfl⟩ := zpair hf
  exact z_iret (pc := 11) C0 hI dX10_seed_11
set_option maxHeartbeats 4000000 in
set_option maxRecDepth 100000 in
theorem kX10_wreck (l : Launch) (D : va_G) (ad : Nat → Nat) (cy : Nat → ClassId) (a1 : Int32) (a2 : Int32) (u : MX) (r : Int32) (u' : MX) (hf : fX10_wreck a1 a2 u = some (r, u')) : zCt l yX10_wreck wsX10_wreck ({ frames := 2, cells := 0, slots := 0, locals := 45 } : Room) D ad cy [.ref (ad 0), .int a1, .int a2] (WM ad cy u) (some (.int r)) (WM ad cy u') := by
  refine zCt.of (cc := cX10_wreck) (maxL := 4) (ret := (some .int)) (own := RX10) (by decide) rfl rfl ?_
  intro p e s m below meth c A C0 hI
  obtain ⟨hx, hb, hml, hown, hts, hr, hlk⟩ := id C0
  refine z_entry (Nat.le_of_ble_eq_true rfl) (fun ls hl => ?_)
  have hl : lv_has ls 4 [(0, .ref (ad 0)), (1, .int a1), (2, .int a2)] := hl
  unfold fX10_wreck at hf
  refine lv_iload_n (pc := 0) hx hb dX10_wreck_0 rfl (lv_at hl 1 rfl) ?_
  obtain ⟨q2, hc1, hf⟩ := zbind hf
  refine zcallSi (pc := 1) (As := [.int a1]) (rest := []) ⟨hx, hb, hml, hown, hts⟩ (kX10_isPart l a1 q2 hc1) (va_cwS 1 hts gX10_wreck_X10_isPart rfl rfl rfl (by decide +kernel) ⟨Nat.le_of_ble_eq_true rfl, Nat.le_of_ble_eq_true rfl⟩) rfl hl.1 rfl (Nat.le_of_ble_eq_true rfl) dX10_wreck_1 (Nat.zero_le _) (Nat.zero_le _) ?_
  refine z_if_ne (pc := 4) (tgt := 9) hx hb dX10_wreck_4 (by decide) hf (fun hf => ?_) (fun hf => ?_)
  · refine lv_aload_n (pc := 9) hx hb dX10_wreck_9 rfl (lv_at hl 0 rfl) ?_
    refine z_get (pc := 10) (index := 34) hx hb hts iwX10_wreck_10 hown hI (ml_0 ad cy u) rfl 19 (by decide) (by decide +kernel) rfl rfl dX10_wreck_10 ?_
    refine lv_iload_n (pc := 13) hx hb dX10_wreck_13 rfl (lv_at hl 1 rfl) ?_
    refine z_zald (pc := 14) hx hb hI (ml_9 ad cy u) 3 rfl dX10_wreck_14 hf (fun v3 hf => ?_)
    refine z_if_eq (pc := 15) (tgt := 22) hx hb dX10_wreck_15 (by decide) hf (fun hf => ?_) (fun hf => ?_)
    · refine lv_iconst (pc := 22) (v := 0) hx hb dX10_wreck_22 (by decide) ?_
      refine lv_istore_n (pc := 23) (lv' := [(3, .int (0 : Int32)), (0, .ref (ad 0)), (1, .int a1), (2, .int a2)]) hx hb dX10_wreck_23 rfl hl (by decide) rfl (fun ls hl => ?_)
      refine lv_aload_n (pc := 24) hx hb dX10_wreck_24 rfl (lv_at hl 1 rfl) ?_
      refine z_get (pc := 25) (index := 34) hx hb hts iwX10_wreck_10 hown hI (ml_0 ad cy u) rfl 19 (by decide) (by decide +kernel) rfl rfl dX10_wreck_25 ?_
      refine lv_iload_n (pc := 28) hx hb dX10_wreck_28 rfl (lv_at hl 2 rfl) ?_
      refine lv_iload_n (pc := 29) hx hb dX10_wreck_29 rfl (lv_at hl 3 rfl) ?_
      refine z_zast (wf := WM ad cy) (pc := 30) hx hb hI (ml_9 ad cy u) 3 rfl dX10_wreck_30 (fun j => mw_wrecks ad cy u (upd (mg_wrecks u) j (vp_nar .boolean a2))) hf (fun j4 u5 H locs hj4 hI hf => ?_)
      refine lv_aload_n (pc := 31) hx hb dX10_wreck_31 rfl (lv_at hl 1 rfl) ?_
      refine lv_iconst (pc := 32) (v := 1) hx hb dX10_wreck_32 (by decide) ?_
      refine z_put (wf := WM ad cy) (pc := 33) (index := 47) hx hb hts iwX10_wreck_10 tyX10 tyX10_ok nmX10 hown hI (ml_0 ad cy u5) rfl 26 (by decide) (by decide +kernel) rfl rfl rfl rfl (Nat.le_of_ble_eq_true rfl) dX10_wreck_33 (mw_old ad cy u5 (1 : Int32)) hf (fun u6 H locs hI hf => ?_)
      refine lv_iload_n (pc := 36) hx hb dX10_wreck_36 rfl (lv_at hl 0 rfl) ?_
      obtain ⟨rfl, rfl⟩ := zpair hf
      exact z_iret (pc := 37) C0 hI dX10_wreck_37
    refine lv_iconst (pc := 18) (v := 1) hx hb dX10_wreck_18 (by decide) ?_
    refine lv_goto (pc := 19) (tgt := 23) hx hb dX10_wreck_19 (by decide) ?_
    refine lv_istore_n (pc := 23) (lv' := [(3, .int (1 : Int32)), (0, .ref (ad 0)), (1, .int a1), (2, .int a2)]) hx hb dX10_wreck_23 rfl hl (by decide) rfl (fun ls hl => ?_)
    refine lv_aload_n (pc := 24) hx hb dX10_wreck_24 rfl (lv_at hl 1 rfl) ?_
    refine z_get (pc := 25) (index := 34) hx hb hts iwX10_wreck_10 hown hI (ml_0 ad cy u) rfl 19 (by decide) (by decide +kernel) rfl rfl dX10_wreck_25 ?_
    refine lv_iload_n (pc := 28) hx hb dX10_wreck_28 rfl (lv_at hl 2 rfl) ?_
    refine lv_iload_n (pc := 29) hx hb dX10_wreck_29 rfl (lv_at hl 3 rfl) ?_
    refine z_zast (wf := WM ad cy) (pc := 30) hx hb hI (ml_9 ad cy u) 3 rfl dX10_wreck_30 (fun j => mw_wrecks ad cy u (upd (mg_wrecks u) j (vp_nar .boolean a2))) hf (fun j7 u8 H locs hj7 hI hf => ?_)
    refine lv_aload_n (pc := 31) hx hb dX10_wreck_31 rfl (lv_at hl 1 rfl) ?_
    refine lv_iconst (pc := 32) (v := 1) hx hb dX10_wreck_32 (by decide) ?_
    refine z_put (wf := WM ad cy) (pc := 33) (index := 47) hx hb hts iwX10_wreck_10 tyX10 tyX10_ok nmX10 hown hI (ml_0 ad cy u8) rfl 26 (by decide) (by decide +kernel) rfl rfl rfl rfl (Nat.le_of_ble_eq_true rfl) dX10_wreck_33 (mw_old ad cy u8 (1 : Int32)) hf (fun u9 H locs hI hf => ?_)
    refine lv_iload_n (pc := 36) hx hb dX10_wreck_36 rfl (lv_at hl 0 rfl) ?_
    obtain ⟨rfl, rfl⟩ := zpair hf
    exact z_iret (pc := 37) C0 hI dX10_wreck_37
  refine lv_iconst (pc := 7) (v := -1) hx hb dX10_wreck_7 (by decide) ?_
  obtain ⟨rfl, rfl⟩ := zpair hf
  exact z_iret (pc := 8) C0 hI dX10_wreck_8
set_option maxHeartbeats 4000000 in
set_option maxRecDepth 100000 in
theorem kX10_ground (l : Launch) (D : va_G) (ad : Nat → Nat) (cy : Nat → ClassId) (a1 : Int32) (a2 : Int32) (a3 : Int32) (u : MX) (r : Int32) (u' : MX) (hf : fX10_ground a1 a2 a3 u = some (r, u')) : zCt l yX10_ground wsX10_ground ({ frames := 2, cells := 0, slots := 0, locals := 45 } : Room) D ad cy [.ref (ad 0), .int a1, .int a2, .int a3] (WM ad cy u) (some (.int r)) (WM ad cy u') := by
  refine zCt.of (cc := cX10_ground) (maxL := 5) (ret := (some .int)) (own := RX10) (by decide) rfl rfl ?_
  intro p e s m below meth c A C0 hI
  obtain ⟨hx, hb, hml, hown, hts, hr, hlk⟩ := id C0
  refine z_entry (Nat.le_of_ble_eq_true rfl) (fun ls hl => ?_)
  have hl : lv_has ls 5 [(0, .ref (ad 0)), (1, .int a1), (2, .int a2), (3, .int a3)] := hl
  unfold fX10_ground at hf
  refine lv_iload_n (pc := 0) hx hb dX10_ground_0 rfl (lv_at hl 1 rfl) ?_
  obtain ⟨q2, hc1, hf⟩ := zbind hf
  refine zcallSi (pc := 1) (As := [.int a1]) (rest := []) ⟨hx, hb, hml, hown, hts⟩ (kX10_isPart l a1 q2 hc1) (va_cwS 1 hts gX10_ground_X10_isPart rfl rfl rfl (by decide +kernel) ⟨Nat.le_of_ble_eq_true rfl, Nat.le_of_ble_eq_true rfl⟩) rfl hl.1 rfl (Nat.le_of_ble_eq_true rfl) dX10_ground_1 (Nat.zero_le _) (Nat.zero_le _) ?_
  refine z_if_eq (pc := 4) (tgt := 30) hx hb dX10_ground_4 (by decide) hf (fun hf => ?_) (fun hf => ?_)
  · refine lv_iconst (pc := 30) (v := -1) hx hb dX10_ground_30 (by decide) ?_
    obtain ⟨rfl, rfl⟩ := zpair hf
    exact z_iret (pc := 31) C0 hI dX10_ground_31
  refine lv_iload_n (pc := 7) hx hb dX10_ground_7 rfl (lv_at hl 2 rfl) ?_
  refine lv_i2l (pc := 8) hx hb dX10_ground_8 rfl ?_
  refine lv_lconst (pc := 9) (v := 0) hx hb dX10_ground_9 (by decide) ?_
  refine lv_ldc2 (pc := 10) (v := 20) hx hb hown (hts (.constantLong RX10 174 (20)) (by decide +kernel)) dX10_ground_10 ?_
  obtain ⟨q4, hc3, hf⟩ := zbind hf
  refine zcallSi (pc := 13) (As := [.long (a2.toInt64), .long (0 : Int64), .long (20 : Int64)]) (rest := []) ⟨hx, hb, hml, hown, hts⟩ (kX10_in l (a2.toInt64) (0 : Int64) (20 : Int64) q4 hc3) (va_cwS 3 hts gX10_ground_X10_in rfl rfl rfl (by decide +kernel) ⟨Nat.le_of_ble_eq_true rfl, Nat.le_of_ble_eq_true rfl⟩) rfl hl.1 rfl (Nat.le_of_ble_eq_true rfl) dX10_ground_13 (Nat.zero_le _) (Nat.zero_le _) ?_
  refine z_if_eq (pc := 16) (tgt := 30) hx hb dX10_ground_16 (by decide) hf (fun hf => ?_) (fun hf => ?_)
  · refine lv_iconst (pc := 30) (v := -1) hx hb dX10_ground_30 (by decide) ?_
    obtain ⟨rfl, rfl⟩ := zpair hf
    exact z_iret (pc := 31) C0 hI dX10_ground_31
  refine lv_iload_n (pc := 19) hx hb dX10_ground_19 rfl (lv_at hl 3 rfl) ?_
  refine lv_i2l (pc := 20) hx hb dX10_ground_20 rfl ?_
  refine lv_lconst (pc := 21) (v := 0) hx hb dX10_ground_21 (by decide) ?_
  refine lv_iload_n (pc := 22) hx hb dX10_ground_22 rfl (lv_at hl 2 rfl) ?_
  refine lv_i2l (pc := 23) hx hb dX10_ground_23 rfl ?_
  obtain ⟨q6, hc5, hf⟩ := zbind hf
  refine zcallSi (pc := 24) (As := [.long (a3.toInt64), .long (0 : Int64), .long (a2.toInt64)]) (rest := []) ⟨hx, hb, hml, hown, hts⟩ (kX10_in l (a3.toInt64) (0 : Int64) (a2.toInt64) q6 hc5) (va_cwS 3 hts gX10_ground_X10_in rfl rfl rfl (by decide +kernel) ⟨Nat.le_of_ble_eq_true rfl, Nat.le_of_ble_eq_true rfl⟩) rfl hl.1 rfl (Nat.le_of_ble_eq_true rfl) dX10_ground_24 (Nat.zero_le _) (Nat.zero_le _) ?_
  refine z_if_ne (pc := 27) (tgt := 32) hx hb dX10_ground_27 (by decide) hf (fun hf => ?_) (fun hf => ?_)
  · refine lv_aload_n (pc := 32) hx hb dX10_ground_32 rfl (lv_at hl 0 rfl) ?_
    refine z_get (pc := 33) (index := 38) hx hb hts iwX10_ground_10 hown hI (ml_0 ad cy u) rfl 20 (by decide) (by decide +kernel) rfl rfl dX10_ground_33 ?_
    refine lv_iload_n (pc := 36) hx hb dX10_ground_36 rfl (lv_at hl 1 rfl) ?_
    refine z_iald (pc := 37) hx hb hI (ml_10 ad cy u) 0 rfl dX10_ground_37 hf (fun v7 hf => ?_)
    refine lv_istore (pc := 38) (lv' := [(4, .int v7), (0, .ref (ad 0)), (1, .int a1), (2, .int a2), (3, .int a3)]) hx hb dX10_ground_38 hl (by decide) rfl (fun ls hl => ?_)
    refine lv_aload_n (pc := 40) hx hb dX10_ground_40 rfl (lv_at hl 1 rfl) ?_
    refine z_get (pc := 41) (index := 38) hx hb hts iwX10_ground_10 hown hI (ml_0 ad cy u) rfl 20 (by decide) (by decide +kernel) rfl rfl dX10_ground_41 ?_
    refine lv_iload_n (pc := 44) hx hb dX10_ground_44 rfl (lv_at hl 2 rfl) ?_
    refine lv_iload_n (pc := 45) hx hb dX10_ground_45 rfl (lv_at hl 3 rfl) ?_
    refine z_iast (wf := WM ad cy) (pc := 46) hx hb hI (ml_10 ad cy u) 0 rfl dX10_ground_46 (fun j => mw_shots ad cy u (upd (mg_shots u) j a2)) hf (fun j8 u9 H locs hj8 hI hf => ?_)
    refine lv_aload_n (pc := 47) hx hb dX10_ground_47 rfl (lv_at hl 1 rfl) ?_
    refine z_get (pc := 48) (index := 41) hx hb hts iwX10_ground_10 hown hI (ml_0 ad cy u9) rfl 21 (by decide) (by decide +kernel) rfl rfl dX10_ground_48 ?_
    refine lv_iload_n (pc := 51) hx hb dX10_ground_51 rfl (lv_at hl 2 rfl) ?_
    refine lv_iload_n (pc := 52) hx hb dX10_ground_52 rfl (lv_at hl 4 rfl) ?_
    refine z_iast (wf := WM ad cy) (pc := 53) hx hb hI (ml_11 ad cy u9) 0 rfl dX10_ground_53 (fun j => mw_shotDown ad cy u9 (upd (mg_shotDown u9) j a3)) hf (fun j10 u11 H locs hj10 hI hf => ?_)
    refine lv_aload_n (pc := 54) hx hb dX10_ground_54 rfl (lv_at hl 1 rfl) ?_
    refine lv_iconst (pc := 55) (v := 1) hx hb dX10_ground_55 (by decide) ?_
    refine z_put (wf := WM ad cy) (pc := 56) (index := 47) hx hb hts iwX10_ground_10 tyX10 tyX10_ok nmX10 hown hI (ml_0 ad cy u11) rfl 26 (by decide) (by decide +kernel) rfl rfl rfl rfl (Nat.le_of_ble_eq_true rfl) dX10_ground_56 (mw_old ad cy u11 (1 : Int32)) hf (fun u12 H locs hI hf => ?_)
    refine lv_iload (pc := 59) hx hb dX10_ground_59 (lv_at hl 0 rfl) ?_
    obtain ⟨rfl, rfl⟩ := zpair hf
    exact z_iret (pc := 61) C0 hI dX10_ground_61
  refine lv_iconst (pc := 30) (v := -1) hx hb dX10_ground_30 (by decide) ?_
  obtain ⟨rfl, rfl⟩ := zpair hf
  exact z_iret (pc := 31) C0 hI dX10_ground_31
set_option maxHeartbeats 4000000 in
set_option maxRecDepth 100000 in
theorem kX10_homes (l : Launch) (D : va_G) (ad : Nat → Nat) (cy : Nat → ClassId) (u : MX) (r : Int32) (hf : fX10_homes u = some r) : zCt l yX10_homes wsX10_homes ({ frames := 0, cells := 0, slots := 0, locals := 0 } : Room) D ad cy [.ref (ad 0)] (WM ad cy u) (some (.int r)) (WM ad cy u) := by
  refine zCt.of (cc := cX10_homes) (maxL := 1) (ret := (some .int)) (own := RX10) (by decide) rfl rfl ?_
  intro p e s m below meth c A C0 hI
  obtain ⟨hx, hb, hml, hown, hts, hr, hlk⟩ := id C0
  refine z_entry (Nat.le_of_ble_eq_true rfl) (fun ls hl => ?_)
  have hl : lv_has ls 1 [(0, .ref (ad 0))] := hl
  unfold fX10_homes at hf
  refine lv_aload_n (pc := 0) hx hb dX10_homes_0 rfl (lv_at hl 0 rfl) ?_
  refine z_get (pc := 1) (index := 28) hx hb hts iwX10_homes_10 hown hI (ml_0 ad cy u) rfl 15 (by decide) (by decide +kernel) rfl rfl dX10_homes_1 ?_
  refine lv_iconst (pc := 4) (v := 1) hx hb dX10_homes_4 (by decide) ?_
  refine z_iald (pc := 5) hx hb hI (ml_7 ad cy u) 0 rfl dX10_homes_5 hf (fun v1 hf => ?_)
  refine lv_aload_n (pc := 6) hx hb dX10_homes_6 rfl (lv_at hl 0 rfl) ?_
  refine z_get (pc := 7) (index := 28) hx hb hts iwX10_homes_10 hown hI (ml_0 ad cy u) rfl 15 (by decide) (by decide +kernel) rfl rfl dX10_homes_7 ?_
  refine lv_iconst (pc := 10) (v := 2) hx hb dX10_homes_10 (by decide) ?_
  refine z_iald (pc := 11) hx hb hI (ml_7 ad cy u) 0 rfl dX10_homes_11 hf (fun v2 hf => ?_)
  refine lv_iadd (pc := 12) hx hb dX10_homes_12 ?_
  refine lv_aload_n (pc := 13) hx hb dX10_homes_13 rfl (lv_at hl 0 rfl) ?_
  refine z_get (pc := 14) (index := 28) hx hb hts iwX10_homes_10 hown hI (ml_0 ad cy u) rfl 15 (by decide) (by decide +kernel) rfl rfl dX10_homes_14 ?_
  refine lv_iconst (pc := 17) (v := 3) hx hb dX10_homes_17 (by decide) ?_
  refine z_iald (pc := 18) hx hb hI (ml_7 ad cy u) 0 rfl dX10_homes_18 hf (fun v3 hf => ?_)
  refine lv_iadd (pc := 19) hx hb dX10_homes_19 ?_
  refine lv_aload_n (pc := 20) hx hb dX10_homes_20 rfl (lv_at hl 0 rfl) ?_
  refine z_get (pc := 21) (index := 28) hx hb hts iwX10_homes_10 hown hI (ml_0 ad cy u) rfl 15 (by decide) (by decide +kernel) rfl rfl dX10_homes_21 ?_
  refine lv_iconst (pc := 24) (v := 4) hx hb dX10_homes_24 (by decide) ?_
  refine z_iald (pc := 25) hx hb hI (ml_7 ad cy u) 0 rfl dX10_homes_25 hf (fun v4 hf => ?_)
  refine lv_iadd (pc := 26) hx hb dX10_homes_26 ?_
  obtain rfl := zone hf
  exact z_iret (pc := 27) C0 hI dX10_homes_27
set_option maxHeartbeats 4000000 in
set_option maxRecDepth 100000 in
theorem kX10_known (l : Launch) (D : va_G) (ad : Nat → Nat) (cy : Nat → ClassId) (a1 : Int32) (u : MX) (r : Int32) (hf : fX10_known a1 u = some r) : zCt l yX10_known wsX10_known ({ frames := 1, cells := 0, slots := 0, locals := 25 } : Room) D ad cy [.ref (ad 0), .int a1] (WM ad cy u) (some (.int r)) (WM ad cy u) := by
  refine zCt.of (cc := cX10_known) (maxL := 2) (ret := (some .int)) (own := RX10) (by decide) rfl rfl ?_
  intro p e s m below meth c A C0 hI
  obtain ⟨hx, hb, hml, hown, hts, hr, hlk⟩ := id C0
  refine z_entry (Nat.le_of_ble_eq_true rfl) (fun ls hl => ?_)
  have hl : lv_has ls 2 [(0, .ref (ad 0)), (1, .int a1)] := hl
  unfold fX10_known at hf
  refine lv_iload_n (pc := 0) hx hb dX10_known_0 rfl (lv_at hl 1 rfl) ?_
  refine lv_i2l (pc := 1) hx hb dX10_known_1 rfl ?_
  refine lv_lconst (pc := 2) (v := 0) hx hb dX10_known_2 (by decide) ?_
  refine lv_ldc2 (pc := 3) (v := 8) hx hb hown (hts (.constantLong RX10 176 (8)) (by decide +kernel)) dX10_known_3 ?_
  obtain ⟨q2, hc1, hf⟩ := zbind hf
  refine zcallSi (pc := 6) (As := [.long (a1.toInt64), .long (0 : Int64), .long (8 : Int64)]) (rest := []) ⟨hx, hb, hml, hown, hts⟩ (kX10_in l (a1.toInt64) (0 : Int64) (8 : Int64) q2 hc1) (va_cwS 3 hts gX10_known_X10_in rfl rfl rfl (by decide +kernel) ⟨Nat.le_of_ble_eq_true rfl, Nat.le_of_ble_eq_true rfl⟩) rfl hl.1 rfl (Nat.le_of_ble_eq_true rfl) dX10_known_6 (Nat.zero_le _) (Nat.zero_le _) ?_
  refine z_if_eq (pc := 9) (tgt := 21) hx hb dX10_known_9 (by decide) hf (fun hf => ?_) (fun hf => ?_)
  · refine lv_iload_n (pc := 21) hx hb dX10_known_21 rfl (lv_at hl 1 rfl) ?_
    refine lv_bipush (pc := 22) (v := 9) hx hb dX10_known_22 (by decide) ?_
    refine z_icmp_ne (pc := 24) (tgt := 41) hx hb dX10_known_24 (by decide) hf (fun hf => ?_) (fun hf => ?_)
    · refine lv_iconst (pc := 41) (v := -1) hx hb dX10_known_41 (by decide) ?_
      obtain rfl := zone hf
      exact z_iret (pc := 42) C0 hI dX10_known_42
    refine lv_aload_n (pc := 27) hx hb dX10_known_27 rfl (lv_at hl 0 rfl) ?_
    refine z_get (pc := 28) (index := 28) hx hb hts iwX10_known_10 hown hI (ml_0 ad cy u) rfl 15 (by decide) (by decide +kernel) rfl rfl dX10_known_28 ?_
    refine lv_iconst (pc := 31) (v := 0) hx hb dX10_known_31 (by decide) ?_
    refine z_iald (pc := 32) hx hb hI (ml_7 ad cy u) 0 rfl dX10_known_32 hf (fun v3 hf => ?_)
    refine lv_aload_n (pc := 33) hx hb dX10_known_33 rfl (lv_at hl 0 rfl) ?_
    obtain ⟨q5, hc4, hf⟩ := zbind hf
    refine zcallVi (pc := 34) (As := []) (rest := [.int v3]) ⟨hx, hb, hml, hown, hts⟩ (kX10_homes l D ad cy u q5 hc4) (cwV 0 hts gX10_known_X10_homes rfl rfl rfl (by decide +kernel) ⟨Nat.le_of_ble_eq_true rfl, Nat.le_of_ble_eq_true rfl⟩) hI rfl (ml_0 ad cy u) rfl hl.1 rfl (Nat.le_of_ble_eq_true rfl) dX10_known_34 (Nat.zero_le _) (Nat.zero_le _) (fun H locs hI => ?_)
    refine lv_isub (pc := 37) hx hb dX10_known_37 ?_
    refine lv_goto (pc := 38) (tgt := 42) hx hb dX10_known_38 (by decide) ?_
    obtain rfl := zone hf
    exact z_iret (pc := 42) C0 hI dX10_known_42
  refine lv_aload_n (pc := 12) hx hb dX10_known_12 rfl (lv_at hl 0 rfl) ?_
  refine z_get (pc := 13) (index := 28) hx hb hts iwX10_known_10 hown hI (ml_0 ad cy u) rfl 15 (by decide) (by decide +kernel) rfl rfl dX10_known_13 ?_
  refine lv_iload_n (pc := 16) hx hb dX10_known_16 rfl (lv_at hl 1 rfl) ?_
  refine z_iald (pc := 17) hx hb hI (ml_7 ad cy u) 0 rfl dX10_known_17 hf (fun v6 hf => ?_)
  refine lv_goto (pc := 18) (tgt := 42) hx hb dX10_known_18 (by decide) ?_
  obtain rfl := zone hf
  exact z_iret (pc := 42) C0 hI dX10_known_42
set_option maxHeartbeats 4000000 in
set_option maxRecDepth 100000 in
theorem lX10_undo_22 (C0 : zFix p m c cX10_undo 2 s args wsX10_undo RX10 meth (some .int)) {k : Nat} {a : Int32 × MX} {b : MX} (hit : ziter (bX10_undo_22 k) k a = some b) (hx9 : (fun (b : MX) => ∀ (H : Heap) (locs : List Loc) (ls : Array Slot), zIn D ad cy (WM ad cy b) A s H locs → lv_has ls 2 [(0, .ref (ad 0))] → W p l e ({ frames := 0, cells := 0, slots := 0, locals := 0 } : Room) s m args below meth c H locs 0 0 Q (F0 m 54 ls [])) b) : (fun (a : Int32 × MX) => ∀ (H : Heap) (locs : List Loc) (ls : Array Slot), zIn D ad cy (WM ad cy a.2) A s H locs → lv_has ls 2 [(0, .ref (ad 0)), (1, .int a.1)] → W p l e ({ frames := 0, cells := 0, slots := 0, locals := 0 } : Room) s m args below meth c H locs 0 0 Q (F0 m 22 ls [])) a := by
  obtain ⟨hx, hb, hml, hown, hts, hr, hlk⟩ := id C0
  refine zloop (Wh := (fun (a : Int32 × MX) => ∀ (H : Heap) (locs : List Loc) (ls : Array Slot), zIn D ad cy (WM ad cy a.2) A s H locs → lv_has ls 2 [(0, .ref (ad 0)), (1, .int a.1)] → W p l e ({ frames := 0, cells := 0, slots := 0, locals := 0 } : Room) s m args below meth c H locs 0 0 Q (F0 m 22 ls []))) (Wx := (fun (b : MX) => ∀ (H : Heap) (locs : List Loc) (ls : Array Slot), zIn D ad cy (WM ad cy b) A s H locs → lv_has ls 2 [(0, .ref (ad 0))] → W p l e ({ frames := 0, cells := 0, slots := 0, locals := 0 } : Room) s m args below meth c H locs 0 0 Q (F0 m 54 ls []))) ?_ _ a b hit hx9
  intro a x hf hL hX H locs ls hI hl
  unfold bX10_undo_22 at hf
  refine lv_iload_n (pc := 22) hx hb dX10_undo_22 rfl (lv_at hl 1 rfl) ?_
  refine lv_bipush (pc := 23) (v := 10) hx hb dX10_undo_23 (by decide) ?_
  refine z_icmp_ge (pc := 25) (tgt := 54) hx hb dX10_undo_25 (by decide) hf (fun hf => ?_) (fun hf => ?_)
  · exact (hX _ (Option.some.inj hf).symm) _ _ _ hI (lv_sub hl [0] rfl)
  refine lv_aload_n (pc := 28) hx hb dX10_undo_28 rfl (lv_at hl 0 rfl) ?_
  refine z_get (pc := 29) (index := 28) hx hb hts iwX10_undo_10 hown hI (ml_0 ad cy a.2) rfl 15 (by decide) (by decide +kernel) rfl rfl dX10_undo_29 ?_
  refine lv_iload_n (pc := 32) hx hb dX10_undo_32 rfl (lv_at hl 1 rfl) ?_
  refine lv_aload_n (pc := 33) hx hb dX10_undo_33 rfl (lv_at hl 0 rfl) ?_
  refine z_get (pc := 34) (index := 31) hx hb hts iwX10_undo_10 hown hI (ml_0 ad cy a.2) rfl 16 (by decide) (by decide +kernel) rfl rfl dX10_undo_34 ?_
  refine lv_bipush (pc := 37) (v := 10) hx hb dX10_undo_37 (by decide) ?_
  refine lv_aload_n (pc := 39) hx hb dX10_undo_39 rfl (lv_at hl 0 rfl) ?_
  refine z_get (pc := 40) (index := 140) hx hb hts iwX10_undo_10 hown hI (ml_0 ad cy a.2) rfl 17 (by decide) (by decide +kernel) rfl rfl dX10_undo_40 ?_
  refine lv_imul (pc := 43) hx hb dX10_undo_43 ?_
  refine lv_iload_n (pc := 44) hx hb dX10_undo_44 rfl (lv_at hl 1 rfl) ?_
  refine lv_iadd (pc := 45) hx hb dX10_undo_45 ?_
  refine z_iald (pc := 46) hx hb hI (ml_8 ad cy a.2) 0 rfl dX10_undo_46 hf (fun v2 hf => ?_)
  refine z_iast (wf := WM ad cy) (pc := 47) hx hb hI (ml_7 ad cy a.2) 0 rfl dX10_undo_47 (fun j => mw_known ad cy a.2 (upd (mg_known a.2) j v2)) hf (fun j3 u4 H locs hj3 hI hf => ?_)
  refine lv_iinc (pc := 48) (v := (a.1 + 1)) (lv' := [(1, .int (a.1 + 1)), (0, .ref (ad 0))]) hx hb dX10_undo_48 hl (k := 1) rfl rfl (by decide) rfl (fun ls hl => ?_)
  refine lv_goto (pc := 51) (tgt := 22) hx hb dX10_undo_51 (by decide) ?_
  exact hL _ (Option.some.inj hf).symm _ _ _ hI (lv_sub hl [1, 0] rfl)
set_option maxHeartbeats 4000000 in
set_option maxRecDepth 100000 in
theorem kX10_undo (l : Launch) (D : va_G) (ad : Nat → Nat) (cy : Nat → ClassId) (k : Nat) (u : MX) (r : Int32) (u' : MX) (hf : fX10_undo k u = some (r, u')) : zCt l yX10_undo wsX10_undo ({ frames := 0, cells := 0, slots := 0, locals := 0 } : Room) D ad cy [.ref (ad 0)] (WM ad cy u) (some (.int r)) (WM ad cy u') := by
  refine zCt.of (cc := cX10_undo) (maxL := 2) (ret := (some .int)) (own := RX10) (by decide) rfl rfl ?_
  intro p e s m below meth c A C0 hI
  obtain ⟨hx, hb, hml, hown, hts, hr, hlk⟩ := id C0
  refine z_entry (Nat.le_of_ble_eq_true rfl) (fun ls hl => ?_)
  have hl : lv_has ls 2 [(0, .ref (ad 0))] := hl
  unfold fX10_undo at hf
  refine lv_aload_n (pc := 0) hx hb dX10_undo_0 rfl (lv_at hl 0 rfl) ?_
  refine z_get (pc := 1) (index := 140) hx hb hts iwX10_undo_10 hown hI (ml_0 ad cy u) rfl 17 (by decide) (by decide +kernel) rfl rfl dX10_undo_1 ?_
  refine z_if_ne (pc := 4) (tgt := 10) hx hb dX10_undo_4 (by decide) hf (fun hf => ?_) (fun hf => ?_)
  · refine lv_aload_n (pc := 10) hx hb dX10_undo_10 rfl (lv_at hl 0 rfl) ?_
    refine lv_dup (pc := 11) hx hb dX10_undo_11 rfl ?_
    refine z_get (pc := 12) (index := 140) hx hb hts iwX10_undo_10 hown hI (ml_0 ad cy u) rfl 17 (by decide) (by decide +kernel) rfl rfl dX10_undo_12 ?_
    refine lv_iconst (pc := 15) (v := 1) hx hb dX10_undo_15 (by decide) ?_
    refine lv_isub (pc := 16) hx hb dX10_undo_16 ?_
    refine z_put (wf := WM ad cy) (pc := 17) (index := 140) hx hb hts iwX10_undo_10 tyX10 tyX10_ok nmX10 hown hI (ml_0 ad cy u) rfl 17 (by decide) (by decide +kernel) rfl rfl rfl rfl (Nat.le_of_ble_eq_true rfl) dX10_undo_17 (mw_undos ad cy u ((mg_undos u) - (1 : Int32))) hf (fun u1 H locs hI hf => ?_)
    refine lv_iconst (pc := 20) (v := 0) hx hb dX10_undo_20 (by decide) ?_
    refine lv_istore_n (pc := 21) (lv' := [(1, .int (0 : Int32)), (0, .ref (ad 0))]) hx hb dX10_undo_21 rfl hl (by decide) rfl (fun ls hl => ?_)
    obtain ⟨b5, hb6, hf⟩ := zbind hf
    refine lX10_undo_22 C0 hb6 ?_ _ _ _ hI (lv_sub hl [1, 0] rfl)
    intro H locs ls hI hl
    refine lv_aload_n (pc := 54) hx hb dX10_undo_54 rfl (lv_at hl 0 rfl) ?_
    refine lv_iconst (pc := 55) (v := 1) hx hb dX10_undo_55 (by decide) ?_
    refine z_put (wf := WM ad cy) (pc := 56) (index := 47) hx hb hts iwX10_undo_10 tyX10 tyX10_ok nmX10 hown hI (ml_0 ad cy b5) rfl 26 (by decide) (by decide +kernel) rfl rfl rfl rfl (Nat.le_of_ble_eq_true rfl) dX10_undo_56 (mw_old ad cy b5 (1 : Int32)) hf (fun u7 H locs hI hf => ?_)
    refine lv_aload_n (pc := 59) hx hb dX10_undo_59 rfl (lv_at hl 0 rfl) ?_
    refine z_get (pc := 60) (index := 140) hx hb hts iwX10_undo_10 hown hI (ml_0 ad cy u7) rfl 17 (by decide) (by decide +kernel) rfl rfl dX10_undo_60 ?_
    obtain ⟨rfl, rfl⟩ := zpair hf
    exact z_iret (pc := 63) C0 hI dX10_undo_63
  refine lv_bipush (pc := 7) (v := -4) hx hb dX10_undo_7 (by decide) ?_
  obtain ⟨rfl, rfl⟩ := zpair hf
  exact z_iret (pc := 9) C0 hI dX10_undo_9
end
