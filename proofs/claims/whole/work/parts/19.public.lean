theorem zpair {α β : Type} {a r : α} {b u : β} (h : some (a, b) = some (r, u)) : r = a ∧ u = b := by
  have h2 := Option.some.inj h
  exact ⟨(congrArg Prod.fst h2).symm, (congrArg Prod.snd h2).symm⟩
theorem zone {α : Type} {a r : α} (h : some a = some r) : r = a := (Option.some.inj h).symm
theorem iwX9_takeHomes_9 : ∀ w ∈ wsX90, w ∈ wsX9_takeHomes := by decide +kernel
def bX9_takeHomes_19 (k : Nat) (js : Nat) (p2 : Int32) (p3 : Int32) (a : Int32 × CX) : Option ((Int32 × CX) ⊕ (CX)) :=
  if p3 ≤ a.1 then
    some (.inr a.2)
  else
  zb (p2 + ((4 : Int32) * a.1)) (fun v5 =>
  (fX6_cell js v5 a.2).bind (fun q7 =>
  (fX6_cell js (v5 + (1 : Int32)) a.2).bind (fun q9 =>
  (fX6_cell js (v5 + (2 : Int32)) a.2).bind (fun q11 =>
  (fX6_cell js (v5 + (3 : Int32)) a.2).bind (fun q13 =>
  (fX3_addHomes (1 : Int32) q7 q9 q11 q13 a.2).bind (fun q15 =>
  some (.inl ((a.1 + 1), q15))))))))
def fX9_takeHomes (k : Nat) (js : Nat) (a2 : Int32) (a3 : Int32) (u : CX) : Option (CX) :=
  (fX3_beginAct k u).bind (fun q2 =>
  (fX3_add (0 : Int32) a3 q2).bind (fun q4 =>
  (ziter (bX9_takeHomes_19 k js a2 a3) k ((0 : Int32), q4)).bind (fun b16 =>
    (fX2_forget b16).bind (fun q19 =>
    some q19))))
theorem iwX9_feed_9 : ∀ w ∈ wsX90, w ∈ wsX9_feed := by decide +kernel
theorem iwX9_feed_7 : ∀ w ∈ wsX70, w ∈ wsX9_feed := by decide +kernel
def fX9_feed (k : Nat) (a1 : Int64) (u : CX) : Option (Int32 × CX) :=
  (fX7_put k a1 u).bind (fun q2 =>
  if q2.1 = 0 then
    some ((-3 : Int32), q2.2)
  else
  some ((xg_tsize q2.2), q2.2))
theorem iwX9_end_9 : ∀ w ∈ wsX90, w ∈ wsX9_end := by decide +kernel
theorem iwX9_end_7 : ∀ w ∈ wsX70, w ∈ wsX9_end := by decide +kernel
def fX9_end (a1 : Int32) (u : CX) : Option (Int32 × CX) :=
  zb (xg_tsize u) (fun v1 =>
  if a1 < 0 then
    some ((-1 : Int32), u)
  else
  if a1 ≤ v1 then
    zb (xs_tsize u a1) (fun u2 =>
    some (v1, u2))
  else
  some ((-1 : Int32), u))
theorem iwX9_text_9 : ∀ w ∈ wsX90, w ∈ wsX9_text := by decide +kernel
theorem iwX9_text_7 : ∀ w ∈ wsX70, w ∈ wsX9_text := by decide +kernel
theorem iwX9_text_5 : ∀ w ∈ wsX50, w ∈ wsX9_text := by decide +kernel
def fX9_text (k : Nat) (u : CX) : Option (Int32 × CX) :=
  (fX5_readTape k u).bind (fun q2 =>
  zb (xs_tsize q2 (0 : Int32)) (fun u3 =>
  if (xg_rfault u3) = 0 then
    (fX8_take k u3).bind (fun q5 =>
    (fX4_settle k q5).bind (fun q7 =>
    (fX2_forget q7).bind (fun q9 =>
    some ((xg_rlines q9), q9))))
  else
  some (((-10 : Int32) - (xg_rplace u3)), u3)))
theorem iwX9_fault_9 : ∀ w ∈ wsX90, w ∈ wsX9_fault := by decide +kernel
theorem iwX9_fault_5 : ∀ w ∈ wsX50, w ∈ wsX9_fault := by decide +kernel
def fX9_fault (u : CX) : Option (Int32) :=
  some (xg_rfault u)
theorem iwX9_part_9 : ∀ w ∈ wsX90, w ∈ wsX9_part := by decide +kernel
theorem iwX9_part_8 : ∀ w ∈ wsX80, w ∈ wsX9_part := by decide +kernel
def fX9_part (a1 : Int32) (a2 : Int32) (u : CX) : Option (Int32) :=
  (fX9_isPart a1).bind (fun q2 =>
  if q2 = 0 then
    some (-1 : Int32)
  else
  if a2 < 0 then
    some (-1 : Int32)
  else
  if (2 : Int32) < a2 then
    some (-1 : Int32)
  else
  zget 12 (xg_Tparts u) (((4 : Int32) * a2) + a1) (fun v3 =>
  some v3))
theorem iwX9_rule_9 : ∀ w ∈ wsX90, w ∈ wsX9_rule := by decide +kernel
theorem iwX9_rule_8 : ∀ w ∈ wsX80, w ∈ wsX9_rule := by decide +kernel
def fX9_rule (a1 : Int32) (u : CX) : Option (Int32) :=
  if a1 < 0 then
    some (-1 : Int32)
  else
  if (6 : Int32) < a1 then
    some (-1 : Int32)
  else
  zget 7 (xg_Trules u) a1 (fun v1 =>
  some v1)
theorem iwX9_told_9 : ∀ w ∈ wsX90, w ∈ wsX9_told := by decide +kernel
def fX9_told (k : Nat) (a1 : Int32) (a2 : Int32) (a3 : Int32) (u : CX) : Option (Int32 × CX) :=
  if a1 < (1 : Int32) then
    some ((-1 : Int32), u)
  else
  if (99 : Int32) < a1 then
    some ((-1 : Int32), u)
  else
  if a2 < 0 then
    some ((-1 : Int32), u)
  else
  if a1 < a2 then
    some ((-1 : Int32), u)
  else
  (fX9_areHoles a3).bind (fun q2 =>
  if q2 = 0 then
    some ((-1 : Int32), u)
  else
  (fX3_sorties u).bind (fun q4 =>
  if (q4 + a1) ≤ (999 : Int32) then
    (fX3_beginAct k u).bind (fun q6 =>
    (fX3_add (0 : Int32) a1 q6).bind (fun q8 =>
    (fX3_addHomes a2 (a3 >>> ((6 : Int32) &&& 31)) ((a3 >>> ((4 : Int32) &&& 31)) &&& (3 : Int32)) ((a3 >>> ((2 : Int32) &&& 31)) &&& (3 : Int32)) (a3 &&& (3 : Int32)) q8).bind (fun q10 =>
    (fX2_forget q10).bind (fun q12 =>
    (fX3_sorties q12).bind (fun q14 =>
    some (q14, q12))))))
  else
  some ((-3 : Int32), u)))
theorem iwX9_draw_9 : ∀ w ∈ wsX90, w ∈ wsX9_draw := by decide +kernel
def bX9_draw_42 (k : Nat) (p1 : Int32) (a : Int32 × Int32 × CX) : Option ((Int32 × Int32 × CX) ⊕ (Int32 × CX)) :=
  if p1 ≤ a.2.1 then
    some (.inr (a.1, a.2.2))
  else
  (fX1_fly k a.2.2).bind (fun q6 =>
  if q6.1 = 0 then
    zb (a.1 + (0 : Int32)) (fun v7 =>
    some (.inl (v7, (a.2.1 + 1), q6.2)))
  else
  zb (a.1 + (1 : Int32)) (fun v8 =>
  some (.inl (v8, (a.2.1 + 1), q6.2))))
def fX9_draw (k : Nat) (a1 : Int32) (u : CX) : Option (Int32 × CX) :=
  if a1 < (1 : Int32) then
    some ((-1 : Int32), u)
  else
  if a1 ≤ (99 : Int32) then
    (fX3_sorties u).bind (fun q2 =>
    if (q2 + a1) ≤ (999 : Int32) then
      (fX3_beginAct k u).bind (fun q4 =>
      (ziter (bX9_draw_42 k a1) k ((0 : Int32), (0 : Int32), q4)).bind (fun b9 =>
        (fX2_forget b9.2).bind (fun q12 =>
        some (b9.1, q12))))
    else
    some ((-3 : Int32), u))
  else
  some ((-1 : Int32), u)
theorem iwX9_seed_9 : ∀ w ∈ wsX90, w ∈ wsX9_seed := by decide +kernel
theorem iwX9_seed_1 : ∀ w ∈ wsX10, w ∈ wsX9_seed := by decide +kernel
def fX9_seed (a1 : Int32) (u : CX) : Option (Int32 × CX) :=
  zb (xg_seed u) (fun v1 =>
  zb (xs_seed u a1) (fun u2 =>
  some (v1, u2)))
theorem iwX9_wreck_9 : ∀ w ∈ wsX90, w ∈ wsX9_wreck := by decide +kernel
theorem iwX9_wreck_0 : ∀ w ∈ wsX00, w ∈ wsX9_wreck := by decide +kernel
def fX9_wreck (a1 : Int32) (a2 : Int32) (u : CX) : Option (Int32 × CX) :=
  (fX9_isPart a1).bind (fun q2 =>
  if q2 = 0 then
    some ((-1 : Int32), u)
  else
  zget 4 (xg_wrecks u) a1 (fun v3 =>
  if v3 = 0 then
    zix 4 a1 (fun j4 => zb (xs_wrecks u (upd (xg_wrecks u) j4 (vp_nar .boolean a2))) (fun u5 =>
    (fX2_forget u5).bind (fun q7 =>
    some ((0 : Int32), q7))))
  else
  zix 4 a1 (fun j8 => zb (xs_wrecks u (upd (xg_wrecks u) j8 (vp_nar .boolean a2))) (fun u9 =>
  (fX2_forget u9).bind (fun q11 =>
  some ((1 : Int32), q11))))))
theorem iwX9_ground_9 : ∀ w ∈ wsX90, w ∈ wsX9_ground := by decide +kernel
theorem iwX9_ground_0 : ∀ w ∈ wsX00, w ∈ wsX9_ground := by decide +kernel
def fX9_ground (a1 : Int32) (a2 : Int32) (a3 : Int32) (u : CX) : Option (Int32 × CX) :=
  (fX9_isPart a1).bind (fun q2 =>
  if q2 = 0 then
    some ((-1 : Int32), u)
  else
  if a2 < 0 then
    some ((-1 : Int32), u)
  else
  if (20 : Int32) < a2 then
    some ((-1 : Int32), u)
  else
  if a3 < 0 then
    some ((-1 : Int32), u)
  else
  if a3 ≤ a2 then
    zget 4 (xg_shots u) a1 (fun v3 =>
    zix 4 a1 (fun j4 => zb (xs_shots u (upd (xg_shots u) j4 a2)) (fun u5 =>
    zix 4 a1 (fun j6 => zb (xs_downs u5 (upd (xg_downs u5) j6 a3)) (fun u7 =>
    (fX2_forget u7).bind (fun q9 =>
    some (v3, q9)))))))
  else
  some ((-1 : Int32), u))
theorem iwX9_known_9 : ∀ w ∈ wsX90, w ∈ wsX9_known := by decide +kernel
theorem iwX9_known_3 : ∀ w ∈ wsX30, w ∈ wsX9_known := by decide +kernel
def fX9_known (a1 : Int32) (u : CX) : Option (Int32) :=
  if a1 < 0 then
    some (-1 : Int32)
  else
  if a1 ≤ (9 : Int32) then
    if a1 = (9 : Int32) then
      (fX3_sorties u).bind (fun q3 =>
      (fX3_allHomes u).bind (fun q5 =>
      some (q3 - q5)))
    else
    zget 10 (xg_sums u) a1 (fun v1 =>
    some v1)
  else
  some (-1 : Int32)
theorem iwX9_undo_9 : ∀ w ∈ wsX90, w ∈ wsX9_undo := by decide +kernel
theorem iwX9_undo_3 : ∀ w ∈ wsX30, w ∈ wsX9_undo := by decide +kernel
def fX9_undo (k : Nat) (u : CX) : Option (Int32 × CX) :=
  if (xg_acts u) = 0 then
    some ((-4 : Int32), u)
  else
  (fX3_takeBack k u).bind (fun q2 =>
  (fX2_forget q2).bind (fun q4 =>
  some ((xg_acts q4), q4)))
theorem iwX9_share_9 : ∀ w ∈ wsX90, w ∈ wsX9_share := by decide +kernel
theorem iwX9_share_8 : ∀ w ∈ wsX80, w ∈ wsX9_share := by decide +kernel
def fX9_share (k : Nat) (a1 : Int32) (a2 : Int32) (a3 : Int32) (u : CX) : Option (Int64) :=
  (fX9_isLaw a1).bind (fun q2 =>
  if q2 = 0 then
    some (-1 : Int64)
  else
  if a2 < 0 then
    some (-1 : Int64)
  else
  if (3 : Int32) < a2 then
    some (-1 : Int64)
  else
  (fX9_isSide a3).bind (fun q4 =>
  if q4 = 0 then
    some (-1 : Int64)
  else
  (fX8_stand k a1 u).bind (fun q6 =>
  (fX8_homesTop k a2 (q6.toInt64) u).bind (fun q8 =>
  (fX9_lowest k q8 (xg_Tbottom u) a3).bind (fun q10 =>
  some q10)))))
theorem iwX9_holes_9 : ∀ w ∈ wsX90, w ∈ wsX9_holes := by decide +kernel
theorem iwX9_holes_8 : ∀ w ∈ wsX80, w ∈ wsX9_holes := by decide +kernel
def fX9_holes (k : Nat) (a1 : Int32) (a2 : Int32) (a3 : Int32) (u : CX) : Option (Int64) :=
  (fX9_isLaw a1).bind (fun q2 =>
  if q2 = 0 then
    some (-1 : Int64)
  else
  (fX9_isPart a2).bind (fun q4 =>
  if q4 = 0 then
    some (-1 : Int64)
  else
  (fX9_isSide a3).bind (fun q6 =>
  if q6 = 0 then
    some (-1 : Int64)
  else
  (fX9_figure a1 a2).bind (fun q8 =>
  (fX8_partStand a2 q8 u).bind (fun q10 =>
  (fX8_stand k a1 u).bind (fun q12 =>
  (fX8_holeRate (q12.toInt64) u).bind (fun q14 =>
  zb ((q10.toInt64) * q14) (fun v15 =>
  (fX9_lowest k v15 (xg_Tbottom u) a3).bind (fun q17 =>
  some q17)))))))))
theorem iwX9_fits_9 : ∀ w ∈ wsX90, w ∈ wsX9_fits := by decide +kernel
theorem iwX9_fits_8 : ∀ w ∈ wsX80, w ∈ wsX9_fits := by decide +kernel
def fX9_fits (k : Nat) (a1 : Int32) (u : CX) : Option (Int32) :=
  (fX9_isLaw a1).bind (fun q2 =>
  if q2 = 0 then
    some (-1 : Int32)
  else
  zget 7 (xg_Trules u) (5 : Int32) (fun v3 =>
  (fX2_lawFits k a1 v3 u).bind (fun q5 =>
  if q5 = 0 then
    some (0 : Int32)
  else
  some (1 : Int32))))
theorem iwX9_laws_9 : ∀ w ∈ wsX90, w ∈ wsX9_laws := by decide +kernel
theorem iwX9_laws_2 : ∀ w ∈ wsX20, w ∈ wsX9_laws := by decide +kernel
def fX9_laws (k : Nat) (a1 : Int32) (u : CX) : Option (Int32 × CX) :=
  if a1 < 0 then
    some ((-1 : Int32), u)
  else
  if a1 ≤ (2 : Int32) then
    (fX2_fitting k u).bind (fun q2 =>
    if a1 = 0 then
      some (q2.1, q2.2)
    else
    if q2.1 = 0 then
      some ((-4 : Int32), q2.2)
    else
    if a1 = (1 : Int32) then
      some ((xg_gleast q2.2), q2.2)
    else
    some ((xg_gmost q2.2), q2.2))
  else
  some ((-1 : Int32), u)
theorem iwX9_span_9 : ∀ w ∈ wsX90, w ∈ wsX9_span := by decide +kernel
def bX9_span_38 (k : Nat) (p1 : Int32) (p2 : Int32) (u : CX) (a : Int32 × Int32 × Int32) : Option ((Int32 × Int32 × Int32) ⊕ (Int32 × Int32)) :=
  if (10 : Int32) < a.2.2 then
    some (.inr (a.1, a.2.1))
  else
  (fX2_withFalls p1 a.2.2 u).bind (fun q8 =>
  if q8 ≤ 0 then
    some (.inl (a.1, a.2.1, (a.2.2 + 1)))
  else
  zb (zminI a.1 a.2.2) (fun v9 =>
  some (.inl (v9, a.2.2, (a.2.2 + 1)))))
def fX9_span (k : Nat) (a1 : Int32) (a2 : Int32) (u : CX) : Option (Int32 × CX) :=
  (fX9_isPart a1).bind (fun q2 =>
  if q2 = 0 then
    some ((-1 : Int32), u)
  else
  (fX9_isSide a2).bind (fun q4 =>
  if q4 = 0 then
    some ((-1 : Int32), u)
  else
  (fX2_fitting k u).bind (fun q6 =>
  if q6.1 = 0 then
    some ((-4 : Int32), q6.2)
  else
  (ziter (bX9_span_38 k a1 a2 q6.2) k ((10 : Int32), (0 : Int32), (0 : Int32))).bind (fun b10 =>
    if a2 = 0 then
      some (b10.1, q6.2)
    else
    some (b10.2, q6.2)))))
theorem iwX9_say_9 : ∀ w ∈ wsX90, w ∈ wsX9_say := by decide +kernel
def fX9_say (k : Nat) (a1 : Int32) (a2 : Int32) (u : CX) : Option (Int32 × CX) :=
  (fX9_isPart a1).bind (fun q2 =>
  if q2 = 0 then
    some ((-1 : Int32), u)
  else
  (fX9_isPart a2).bind (fun q4 =>
  if q4 = 0 then
    some ((-1 : Int32), u)
  else
  if a1 = a2 then
    some ((-1 : Int32), u)
  else
  (fX2_fitting k u).bind (fun q6 =>
  if q6.1 = 0 then
    some ((-4 : Int32), q6.2)
  else
  (fX2_oftenerIn k a1 a2 q6.2).bind (fun q8 =>
  if q8 = q6.1 then
    some ((1 : Int32), q6.2)
  else
  if q8 = 0 then
    some ((2 : Int32), q6.2)
  else
  some ((0 : Int32), q6.2)))))
theorem iwX9_cost_9 : ∀ w ∈ wsX90, w ∈ wsX9_cost := by decide +kernel
def bX9_cost_53 (k : Nat) (p1 : Int64) (p3 : Int64) (p5 : Int64) (p7 : Int64) (u : CX) (a : Int64) : Option ((Int64) ⊕ ((Int64) ⊕ (Unit))) :=
  if (100 : Int64) < a then
    some (.inr (.inr ()))
  else
  if (((p1 * a) * a) * a) < ((100 : Int64) * (((100 : Int64) * (((100 : Int64) * p7) + (p5 * a))) + ((p3 * a) * a))) then
    zb (a + (1 : Int64)) (fun v15 =>
    some (.inl v15))
  else
  some (.inr (.inl a))
def fX9_cost (k : Nat) (u : CX) : Option (Int32) :=
  (fX3_sorties u).bind (fun q2 =>
  (fX3_withHoles (0 : Int32) u).bind (fun q4 =>
  zb ((q2 - q4).toInt64) (fun v5 =>
  (fX3_withHoles (1 : Int32) u).bind (fun q7 =>
  zb (q7.toInt64) (fun v8 =>
  (fX3_withHoles (2 : Int32) u).bind (fun q10 =>
  zb (q10.toInt64) (fun v11 =>
  (fX3_withHoles (3 : Int32) u).bind (fun q13 =>
  zb (q13.toInt64) (fun v14 =>
  (ziter (bX9_cost_53 k v5 v8 v11 v14 u) k (1 : Int64)).bind
    (fun b16 => zel b16
     (fun b16 =>
        some (b16.toInt32))
      (fun b16 =>
        some (-4 : Int32))))))))))))
theorem iwX9_near_9 : ∀ w ∈ wsX90, w ∈ wsX9_near := by decide +kernel
def bX9_near_11 (k : Nat) (p1 : Int32) (u : CX) (a : Int32) : Option ((Int32) ⊕ ((Int32) ⊕ (Unit))) :=
  if (99 : Int32) < a then
    some (.inr (.inr ()))
  else
  (fX2_lawFits k p1 a u).bind (fun q4 =>
  if q4 = 0 then
    some (.inl (a + 1))
  else
  some (.inr (.inl a)))
def fX9_near (k : Nat) (a1 : Int32) (u : CX) : Option (Int32) :=
  (fX9_isLaw a1).bind (fun q2 =>
  if q2 = 0 then
    some (-1 : Int32)
  else
  (ziter (bX9_near_11 k a1 u) k (0 : Int32)).bind
    (fun b5 => zel b5
     (fun b5 =>
        some b5)
      (fun b5 =>
        some (-4 : Int32))))
theorem iwX9_lost_9 : ∀ w ∈ wsX90, w ∈ wsX9_lost := by decide +kernel
theorem iwX9_lost_4 : ∀ w ∈ wsX40, w ∈ wsX9_lost := by decide +kernel
theorem iwX9_lost_8 : ∀ w ∈ wsX80, w ∈ wsX9_lost := by decide +kernel
def fX9_lost (k : Nat) (a1 : Int32) (a2 : Int32) (a3 : Int32) (u : CX) : Option (Int64 × CX) :=
  (fX9_isLaw a1).bind (fun q2 =>
  if q2 = 0 then
    some ((-1 : Int64), u)
  else
  if a2 < 0 then
    some ((-1 : Int64), u)
  else
  if (16 : Int32) ≤ a2 then
    some ((-1 : Int64), u)
  else
  (fX9_isSide a3).bind (fun q4 =>
  if q4 = 0 then
    some ((-1 : Int64), u)
  else
  zget 16 (xg_light u) a2 (fun v5 =>
  if v5 = 0 then
    some ((-1 : Int64), u)
  else
  zb ((100 : Int64) * (xg_Tbottom u)) (fun v6 =>
  (fX4_homesBy k a1 a2 u).bind (fun q8 =>
  (fX8_notOther q8.2).bind (fun q10 =>
  (fX9_lowest k (v6 - (q8.1 * q10)) v6 a3).bind (fun q12 =>
  some (q12, q8.2))))))))
theorem iwX9_best_9 : ∀ w ∈ wsX90, w ∈ wsX9_best := by decide +kernel
def fX9_best (k : Nat) (a1 : Int32) (u : CX) : Option (Int32 × CX) :=
  (fX9_isLaw a1).bind (fun q2 =>
  if q2 = 0 then
    some ((-1 : Int32), u)
  else
  (fX4_bestFor k a1 u).bind (fun q4 =>
  some (q4.1, q4.2)))
theorem iwX9_safest_9 : ∀ w ∈ wsX90, w ∈ wsX9_safest := by decide +kernel
def fX9_safest (k : Nat) (u : CX) : Option (Int32 × CX) :=
  (fX2_fitting k u).bind (fun q2 =>
  if q2.1 = 0 then
    some ((-4 : Int32), q2.2)
  else
  (fX2_safestPlates k q2.2).bind (fun q4 =>
  some (q4.1, q4.2)))
theorem iwX9_drawing_9 : ∀ w ∈ wsX90, w ∈ wsX9_drawing := by decide +kernel
def fX9_drawing (k : Nat) (u : CX) : Option (Int32) :=
  (fX4_drawnFrom k u).bind (fun q2 =>
  some q2)
theorem iwX9_wrong_9 : ∀ w ∈ wsX90, w ∈ wsX9_wrong := by decide +kernel
theorem iwX9_wrong_8 : ∀ w ∈ wsX80, w ∈ wsX9_wrong := by decide +kernel
def fX9_wrong (k : Nat) (a1 : Int32) (u : CX) : Option (Int32 × CX) :=
  (fX9_isLaw a1).bind (fun q2 =>
  if q2 = 0 then
    some ((-1 : Int32), u)
  else
  (fX4_bestFor k a1 u).bind (fun q4 =>
  (fX4_homesBy k a1 q4.1 q4.2).bind (fun q6 =>
  (fX4_drawnFrom k q6.2).bind (fun q8 =>
  (fX4_homesBy k a1 q8 q6.2).bind (fun q10 =>
  zb (q6.1 - q10.1) (fun v11 =>
  zdl (1000 : Int64) (
  zb (((100 : Int64) * (xg_Tbottom q10.2)) / (1000 : Int64)) (fun v12 =>
  if (1 : Int64) ≤ v12 then
    (fX8_notOther q10.2).bind (fun q14 =>
    zdl v12 (
    some ((((((v11 * q14) + v12) - (1 : Int64)) / v12).toInt32), q10.2)))
  else
  some ((0 : Int32), q10.2)))))))))
theorem iwX9_unlike_9 : ∀ w ∈ wsX90, w ∈ wsX9_unlike := by decide +kernel
theorem iwX9_unlike_2 : ∀ w ∈ wsX20, w ∈ wsX9_unlike := by decide +kernel
def fX9_unlike (k : Nat) (a1 : Int32) (u : CX) : Option (Int32 × CX) :=
  if a1 < 0 then
    some ((-1 : Int32), u)
  else
  if a1 ≤ (2 : Int32) then
    (fX2_fitting k u).bind (fun q2 =>
    if q2.1 = 0 then
      some ((-4 : Int32), q2.2)
    else
    (fX2_unlikeLaw k q2.2).bind (fun q4 =>
    if q4.1 = (-4 : Int32) then
      some ((-4 : Int32), q4.2)
    else
    if a1 = (2 : Int32) then
      (fX9_farthestPart k (xg_gleast q4.2) q4.1).bind (fun q6 =>
      some (q6, q4.2))
    else
    if a1 = 0 then
      some ((xg_gleast q4.2), q4.2)
    else
    some (q4.1, q4.2)))
  else
  some ((-1 : Int32), u)
theorem iwX9_trial_9 : ∀ w ∈ wsX90, w ∈ wsX9_trial := by decide +kernel
def bX9_trial_80 (k : Nat) (p1 : Int32) (p2 : Int32) (p3 : Int32) (u : CX) (a : Int32 × Int32 × Int32) : Option ((Int32 × Int32 × Int32) ⊕ (Int32 × Int32)) :=
  if p2 < a.2.2 then
    some (.inr (a.1, a.2.1))
  else
  (fX2_leftBy k p1 p2 a.2.2 u).bind (fun q6 =>
  zb (zmaxI a.1 q6) (fun v7 =>
  if q6 ≤ 0 then
    zb (a.2.1 + (0 : Int32)) (fun v8 =>
    some (.inl (v7, v8, (a.2.2 + 1))))
  else
  zb (a.2.1 + (1 : Int32)) (fun v9 =>
  some (.inl (v7, v9, (a.2.2 + 1))))))
def jX9_trial_j41 (k : Nat) (p1 : Int32) (p2 : Int32) (p3 : Int32) (u : CX) : Option (Int32 × CX) :=
  (fX2_fitting k u).bind (fun q4 =>
  if q4.1 = 0 then
    some ((-4 : Int32), q4.2)
  else
  if (20 : Int32) < p3 then
    (ziter (bX9_trial_80 k p1 p2 p3 q4.2) k ((0 : Int32), (0 : Int32), (0 : Int32))).bind (fun b10 =>
      if p3 = (21 : Int32) then
        some (b10.1, q4.2)
      else
      some (b10.2, q4.2))
  else
  (fX2_leftBy k p1 p2 p3 q4.2).bind (fun q13 =>
  some (q13, q4.2)))
def fX9_trial (k : Nat) (a1 : Int32) (a2 : Int32) (a3 : Int32) (u : CX) : Option (Int32 × CX) :=
  (fX9_isPart a1).bind (fun q2 =>
  if q2 = 0 then
    some ((-1 : Int32), u)
  else
  if a2 < (1 : Int32) then
    some ((-1 : Int32), u)
  else
  if (20 : Int32) < a2 then
    some ((-1 : Int32), u)
  else
  if a3 < 0 then
    some ((-1 : Int32), u)
  else
  if (22 : Int32) < a3 then
    some ((-1 : Int32), u)
  else
  if (20 : Int32) < a3 then
    jX9_trial_j41 k a1 a2 a3 u
  else
  if a3 ≤ a2 then
    jX9_trial_j41 k a1 a2 a3 u
  else
  some ((-1 : Int32), u))
theorem iwX9_sheet_9 : ∀ w ∈ wsX90, w ∈ wsX9_sheet := by decide +kernel
def fX9_sheet (k : Nat) (a1 : Int32) (a2 : Int32) (a3 : Int32) (u : CX) : Option (Int32 × CX) :=
  (fX9_isSheet a1).bind (fun q2 =>
  if q2 = 0 then
    some ((-1 : Int32), u)
  else
  (fX9_isLane a2).bind (fun q4 =>
  if q4 = 0 then
    some ((-1 : Int32), u)
  else
  if a3 ≤ (48 : Int32) then
    if 0 ≤ a3 then
      zix 4 a1 (fun j5 =>
      (fX6_renew k j5 a2 a3 u).bind (fun q7 =>
      some ((1 : Int32), q7)))
    else
    some ((-14 : Int32), u)
  else
  some ((-1 : Int32), u)))
theorem iwX9_lay_9 : ∀ w ∈ wsX90, w ∈ wsX9_lay := by decide +kernel
theorem iwX9_lay_6 : ∀ w ∈ wsX60, w ∈ wsX9_lay := by decide +kernel
def fX9_lay (a1 : Int32) (a2 : Int32) (a3 : Int32) (u : CX) : Option (Int32 × CX) :=
  (fX9_isSheet a1).bind (fun q2 =>
  if q2 = 0 then
    some ((-1 : Int32), u)
  else
  zix 4 a1 (fun j3 =>
  (fX6_faultAt j3 (xg_slane u j3) a2 u).bind (fun q5 =>
  if q5 = 0 then
    (fX6_put j3 a2 a3 u).bind (fun q7 =>
    some ((1 : Int32), q7))
  else
  some (((-10 : Int32) - q5), u))))
theorem iwX9_read_9 : ∀ w ∈ wsX90, w ∈ wsX9_read := by decide +kernel
def bX9_read_45 (k : Nat) (js : Nat) (p2 : Int32) (p3 : Int32) (p4 : Int32) (u : CX) (a : Int32 × Int32 × Int32) : Option ((Int32 × Int32 × Int32) ⊕ ((Int32) ⊕ (Unit) ⊕ (Int32 × Int32))) :=
  if p4 ≤ a.2.2 then
    some (.inr (.inr (.inr (a.1, a.2.1))))
  else
  if a.1 = 0 then
    (fX6_faultOfHome k js p2 (p3 + ((4 : Int32) * a.2.2)) u).bind (fun q7 =>
    if q7 = 0 then
      (fX6_isHome k js (p3 + ((4 : Int32) * a.2.2)) u).bind (fun q9 =>
      if q9 = 0 then
        some (.inr (.inl a.2.2))
      else
      (fX3_sorties u).bind (fun q11 =>
      if ((q11 + a.2.2) + (1 : Int32)) ≤ (999 : Int32) then
        some (.inl (q7, (a.2.1 + 1), (a.2.2 + 1)))
      else
      some (.inr (.inr (.inl ())))))
    else
    some (.inl (q7, a.2.1, (a.2.2 + 1))))
  else
  some (.inr (.inr (.inr (a.1, a.2.1))))
def fX9_read (k : Nat) (a1 : Int32) (a2 : Int32) (a3 : Int32) (a4 : Int32) (u : CX) : Option (Int32 × CX) :=
  (fX9_isSheet a1).bind (fun q2 =>
  if q2 = 0 then
    some ((-1 : Int32), u)
  else
  (fX9_isLane a2).bind (fun q4 =>
  if q4 = 0 then
    some ((-1 : Int32), u)
  else
  if a4 < 0 then
    some ((-1 : Int32), u)
  else
  if a4 ≤ (12 : Int32) then
    zix 4 a1 (fun j5 =>
    (ziter (bX9_read_45 k j5 a2 a3 a4 u) k ((0 : Int32), (0 : Int32), (0 : Int32))).bind
      (fun b12 => zel b12
       (fun b12 =>
          some (((-20 : Int32) - b12), u))
        (fun b12 => zel b12
         (fun b12 =>
            some ((-3 : Int32), u))
          (fun b12 =>
            (fX9_takeHomes k j5 a3 b12.2 u).bind (fun q15 =>
            zb (xs_torn q15 b12.1) (fun u16 =>
            some (b12.2, u16)))))))
  else
  some ((-1 : Int32), u)))
theorem iwX9_torn_9 : ∀ w ∈ wsX90, w ∈ wsX9_torn := by decide +kernel
def fX9_torn (u : CX) : Option (Int32) :=
  some (xg_torn u)
theorem iwX9_count_9 : ∀ w ∈ wsX90, w ∈ wsX9_count := by decide +kernel
theorem iwX9_count_3 : ∀ w ∈ wsX30, w ∈ wsX9_count := by decide +kernel
theorem iwX9_count_6 : ∀ w ∈ wsX60, w ∈ wsX9_count := by decide +kernel
theorem iwX9_count_7 : ∀ w ∈ wsX70, w ∈ wsX9_count := by decide +kernel
theorem iwX9_count_1 : ∀ w ∈ wsX10, w ∈ wsX9_count := by decide +kernel
def fX9_count (k : Nat) (a1 : Int32) (u : CX) : Option (Int32) :=
  if a1 = 0 then
    (fX3_sorties u).bind (fun q11 =>
    some q11)
  else
  if a1 = 1 then
    (fX3_allHomes u).bind (fun q9 =>
    some q9)
  else
  if a1 = 2 then
    (fX0_allWrecks k u).bind (fun q7 =>
    some q7)
  else
  if a1 = 3 then
    (fX0_allTried k u).bind (fun q5 =>
    some q5)
  else
  if a1 = 4 then
    some (xg_acts u)
  else
  if a1 = 5 then
    some (xg_seed u)
  else
  if a1 = 6 then
    some (xg_tsize u)
  else
  if a1 = 7 then
    zix 4 (0 : Int32) (fun j2 =>
    if (xg_slane u j2) = (-1 : Int32) then
      some (-4 : Int32)
    else
    zix 4 (0 : Int32) (fun j3 =>
    some (xg_ssize u j3)))
  else
  if a1 = 8 then
    zget 10 (xg_sums u) (9 : Int32) (fun v1 =>
    some v1)
  else
  some (-1 : Int32)
section
variable {p : Program} {l : Launch} {e : Env} {s : State} {m : MethodId} {args : Array Value} {below : List Frame} {meth : Method} {c : Code} {A : Nat → Prop} {Q : State → Prop} {D : va_G} {ad : Nat → Nat} {cy : Nat → ClassId}
set_option maxHeartbeats 4000000 in
set_option maxRecDepth 100000 in
theorem lX9_takeHomes_19 (C0 : zFix p m c cX9_takeHomes 6 s args wsX9_takeHomes RX9 meth none) {k : Nat} {js : Nat} {p2 : Int32} {p3 : Int32} (hjs : js < 4) {a : Int32 × CX} {b : CX} (hit : ziter (bX9_takeHomes_19 k js p2 p3) k a = some b) (hx9 : (fun (b : CX) => ∀ (H : Heap) (locs : List Loc) (ls : Array Slot), zIn D ad cy (WX ad cy b) A s H locs → lv_has ls 6 [(0, .ref (ad 0))] → W p l e ({ frames := 2, cells := 0, slots := 0, locals := 48 } : Room) s m args below meth c H locs 0 0 Q (F0 m 77 ls [])) b) : (fun (a : Int32 × CX) => ∀ (H : Heap) (locs : List Loc) (ls : Array Slot), zIn D ad cy (WX ad cy a.2) A s H locs → lv_has ls 6 [(0, .ref (ad 0)), (1, .ref (ad (39 + 2 * js))), (2, .int p2), (3, .int p3), (4, .int a.1)] → W p l e ({ frames := 2, cells := 0, slots := 0, locals := 48 } : Room) s m args below meth c H locs 0 0 Q (F0 m 19 ls [])) a := by
  obtain ⟨hx, hb, hml, hown, hts, hr, hlk⟩ := id C0
  refine zloop (Wh := (fun (a : Int32 × CX) => ∀ (H : Heap) (locs : List Loc) (ls : Array Slot), zIn D ad cy (WX ad cy a.2) A s H locs → lv_has ls 6 [(0, .ref (ad 0)), (1, .ref (ad (39 + 2 * js))), (2, .int p2), (3, .int p3), (4, .int a.1)] → W p l e ({ frames := 2, cells := 0, slots := 0, locals := 48 } : Room) s m args below meth c H locs 0 0 Q (F0 m 19 ls []))) (Wx := (fun (b : CX) => ∀ (H : Heap) (locs : List Loc) (ls : Array Slot), zIn D ad cy (WX ad cy b) A s H locs → lv_has ls 6 [(0, .ref (ad 0))] → W p l e ({ frames := 2, cells := 0, slots := 0, locals := 48 } : Room) s m args below meth c H locs 0 0 Q (F0 m 77 ls []))) ?_ _ a b hit hx9
  intro a x hf hL hX H locs ls hI hl
  unfold bX9_takeHomes_19 at hf
  refine lv_iload (pc := 19) hx hb dX9_takeHomes_19 (lv_at hl 4 rfl) ?_
  refine lv_iload_n (pc := 21) hx hb dX9_takeHomes_21 rfl (lv_at hl 3 rfl) ?_
  refine z_icmp_ge (pc := 22) (tgt := 77) hx hb dX9_takeHomes_22 (by decide) hf (fun hf => ?_) (fun hf => ?_)
  · exact (hX _ (Option.some.inj hf).symm) _ _ _ hI (lv_sub hl [0] rfl)
  refine lv_iload_n (pc := 25) hx hb dX9_takeHomes_25 rfl (lv_at hl 2 rfl) ?_
  refine lv_iconst (pc := 26) (v := 4) hx hb dX9_takeHomes_26 (by decide) ?_
  refine lv_iload (pc := 27) hx hb dX9_takeHomes_27 (lv_at hl 4 rfl) ?_
  refine lv_imul (pc := 29) hx hb dX9_takeHomes_29 ?_
  refine lv_iadd (pc := 30) hx hb dX9_takeHomes_30 ?_
  refine z_bi hf (fun v5 hf => ?_)
  refine lv_istore (pc := 31) (lv' := [(5, .int v5), (0, .ref (ad 0)), (1, .ref (ad (39 + 2 * js))), (2, .int p2), (3, .int p3), (4, .int a.1)]) hx hb dX9_takeHomes_31 hl (by decide) rfl (fun ls hl => ?_)
  refine lv_aload_n (pc := 33) hx hb dX9_takeHomes_33 rfl (lv_at hl 1 rfl) ?_
  refine z_get (pc := 34) (index := 35) hx hb hts iwX9_takeHomes_9 hown hI (xl_0 ad cy a.2) rfl 3 (by decide) (by decide +kernel) rfl rfl dX9_takeHomes_34 ?_
  refine lv_iconst (pc := 37) (v := 1) hx hb dX9_takeHomes_37 (by decide) ?_
  refine lv_aload_n (pc := 38) hx hb dX9_takeHomes_38 rfl (lv_at hl 2 rfl) ?_
  refine lv_iload (pc := 39) hx hb dX9_takeHomes_39 (lv_at hl 0 rfl) ?_
  obtain ⟨q7, hc6, hf⟩ := zbind hf
  refine zcallVi (pc := 41) (As := [.int v5]) (rest := [.int (1 : Int32), .ref (ad 12)]) ⟨hx, hb, hml, hown, hts⟩ (kX6_cell l D ad cy js hjs v5 a.2 q7 hc6) (cwV 1 hts gX9_takeHomes_X6_cell rfl rfl rfl (by decide +kernel) ⟨Nat.le_of_ble_eq_true rfl, Nat.le_of_ble_eq_true rfl⟩) hI rfl (xl_sheet ad cy a.2 hjs) rfl hl.1 rfl (Nat.le_of_ble_eq_true rfl) dX9_takeHomes_41 (Nat.zero_le _) (Nat.zero_le _) (fun H locs hI => ?_)
  refine lv_aload_n (pc := 44) hx hb dX9_takeHomes_44 rfl (lv_at hl 2 rfl) ?_
  refine lv_iload (pc := 45) hx hb dX9_takeHomes_45 (lv_at hl 0 rfl) ?_
  refine lv_iconst (pc := 47) (v := 1) hx hb dX9_takeHomes_47 (by decide) ?_
  refine lv_iadd (pc := 48) hx hb dX9_takeHomes_48 ?_
  obtain ⟨q9, hc8, hf⟩ := zbind hf
  refine zcallVi (pc := 49) (As := [.int (v5 + (1 : Int32))]) (rest := [.int q7, .int (1 : Int32), .ref (ad 12)]) ⟨hx, hb, hml, hown, hts⟩ (kX6_cell l D ad cy js hjs (v5 + (1 : Int32)) a.2 q9 hc8) (cwV 1 hts gX9_takeHomes_X6_cell rfl rfl rfl (by decide +kernel) ⟨Nat.le_of_ble_eq_true rfl, Nat.le_of_ble_eq_true rfl⟩) hI rfl (xl_sheet ad cy a.2 hjs) rfl hl.1 rfl (Nat.le_of_ble_eq_true rfl) dX9_takeHomes_49 (Nat.zero_le _) (Nat.zero_le _) (fun H locs hI => ?_)
  refine lv_aload_n (pc := 52) hx hb dX9_takeHomes_52 rfl (lv_at hl 2 rfl) ?_
  refine lv_iload (pc := 53) hx hb dX9_takeHomes_53 (lv_at hl 0 rfl) ?_
  refine lv_iconst (pc := 55) (v := 2) hx hb dX9_takeHomes_55 (by decide) ?_
  refine lv_iadd (pc := 56) hx hb dX9_takeHomes_56 ?_
  obtain ⟨q11, hc10, hf⟩ := zbind hf
  refine zcallVi (pc := 57) (As := [.int (v5 + (2 : Int32))]) (rest := [.int q9, .int q7, .int (1 : Int32), .ref (ad 12)]) ⟨hx, hb, hml, hown, hts⟩ (kX6_cell l D ad cy js hjs (v5 + (2 : Int32)) a.2 q11 hc10) (cwV 1 hts gX9_takeHomes_X6_cell rfl rfl rfl (by decide +kernel) ⟨Nat.le_of_ble_eq_true rfl, Nat.le_of_ble_eq_true rfl⟩) hI rfl (xl_sheet ad cy a.2 hjs) rfl hl.1 rfl (Nat.le_of_ble_eq_true rfl) dX9_takeHomes_57 (Nat.zero_le _) (Nat.zero_le _) (fun H locs hI => ?_)
  refine lv_aload_n (pc := 60) hx hb dX9_takeHomes_60 rfl (lv_at hl 2 rfl) ?_
  refine lv_iload (pc := 61) hx hb dX9_takeHomes_61 (lv_at hl 0 rfl) ?_
  refine lv_iconst (pc := 63) (v := 3) hx hb dX9_takeHomes_63 (by decide) ?_
  refine lv_iadd (pc := 64) hx hb dX9_takeHomes_64 ?_
  obtain ⟨q13, hc12, hf⟩ := zbind hf
  refine zcallVi (pc := 65) (As := [.int (v5 + (3 : Int32))]) (rest := [.int q11, .int q9, .int q7, .int (1 : Int32), .ref (ad 12)]) ⟨hx, hb, hml, hown, hts⟩ (kX6_cell l D ad cy js hjs (v5 + (3 : Int32)) a.2 q13 hc12) (cwV 1 hts gX9_takeHomes_X6_cell rfl rfl rfl (by decide +kernel) ⟨Nat.le_of_ble_eq_true rfl, Nat.le_of_ble_eq_true rfl⟩) hI rfl (xl_sheet ad cy a.2 hjs) rfl hl.1 rfl (Nat.le_of_ble_eq_true rfl) dX9_takeHomes_65 (Nat.zero_le _) (Nat.zero_le _) (fun H locs hI => ?_)
  obtain ⟨q15, hc14, hf⟩ := zbind hf
  refine zcallVv (pc := 68) (As := [.int (1 : Int32), .int q7, .int q9, .int q11, .int q13]) (rest := []) ⟨hx, hb, hml, hown, hts⟩ (kX3_addHomes l D ad cy (1 : Int32) q7 q9 q11 q13 a.2 q15 hc14) (cwV 5 hts gX9_takeHomes_X3_addHomes rfl rfl rfl (by decide +kernel) ⟨Nat.le_of_ble_eq_true rfl, Nat.le_of_ble_eq_true rfl⟩) hI rfl (xl_12 ad cy a.2) rfl hl.1 rfl (Nat.le_of_ble_eq_true rfl) dX9_takeHomes_68 (Nat.zero_le _) (Nat.zero_le _) (fun H locs hI => ?_)
  refine lv_iinc (pc := 71) (v := (a.1 + 1)) (lv' := [(4, .int (a.1 + 1)), (5, .int v5), (0, .ref (ad 0)), (1, .ref (ad (39 + 2 * js))), (2, .int p2), (3, .int p3)]) hx hb dX9_takeHomes_71 hl (k := 5) rfl rfl (by decide) rfl (fun ls hl => ?_)
  refine lv_goto (pc := 74) (tgt := 19) hx hb dX9_takeHomes_74 (by decide) ?_
  exact hL _ (Option.some.inj hf).symm _ _ _ hI (lv_sub hl [2, 3, 4, 5, 0] rfl)
set_option maxHeartbeats 4000000 in
set_option maxRecDepth 100000 in
theorem kX9_takeHomes (l : Launch) (D : va_G) (ad : Nat → Nat) (cy : Nat → ClassId) (k : Nat) (js : Nat) (hjs : js < 4) (a2 : Int32) (a3 : Int32) (u : CX) (u' : CX) (hf : fX9_takeHomes k js a2 a3 u = some u') : zCt l yX9_takeHomes wsX9_takeHomes ({ frames := 2, cells := 0, slots := 0, locals := 48 } : Room) D ad cy [.ref (ad 0), .ref (ad (39 + 2 * js)), .int a2, .int a3] (WX ad cy u) none (WX ad cy u') := by
  refine zCt.of (cc := cX9_takeHomes) (maxL := 6) (ret := none) (own := RX9) (by decide) rfl rfl ?_
  intro p e s m below meth c A C0 hI
  obtain ⟨hx, hb, hml, hown, hts, hr, hlk⟩ := id C0
  refine z_entry (Nat.le_of_ble_eq_true rfl) (fun ls hl => ?_)
  have hl : lv_has ls 6 [(0, .ref (ad 0)), (1, .ref (ad (39 + 2 * js))), (2, .int a2), (3, .int a3)] := hl
  unfold fX9_takeHomes at hf
  refine lv_aload_n (pc := 0) hx hb dX9_takeHomes_0 rfl (lv_at hl 0 rfl) ?_
  refine z_get (pc := 1) (index := 35) hx hb hts iwX9_takeHomes_9 hown hI (xl_0 ad cy u) rfl 3 (by decide) (by decide +kernel) rfl rfl dX9_takeHomes_1 ?_
  obtain ⟨q2, hc1, hf⟩ := zbind hf
  refine zcallVv (pc := 4) (As := []) (rest := []) ⟨hx, hb, hml, hown, hts⟩ (kX3_beginAct l D ad cy k u q2 hc1) (cwV 0 hts gX9_takeHomes_X3_beginAct rfl rfl rfl (by decide +kernel) ⟨Nat.le_of_ble_eq_true rfl, Nat.le_of_ble_eq_true rfl⟩) hI rfl (xl_12 ad cy u) rfl hl.1 rfl (Nat.le_of_ble_eq_true rfl) dX9_takeHomes_4 (Nat.zero_le _) (Nat.zero_le _) (fun H locs hI => ?_)
  refine lv_aload_n (pc := 7) hx hb dX9_takeHomes_7 rfl (lv_at hl 0 rfl) ?_
  refine z_get (pc := 8) (index := 35) hx hb hts iwX9_takeHomes_9 hown hI (xl_0 ad cy q2) rfl 3 (by decide) (by decide +kernel) rfl rfl dX9_takeHomes_8 ?_
  refine lv_iconst (pc := 11) (v := 0) hx hb dX9_takeHomes_11 (by decide) ?_
  refine lv_iload_n (pc := 12) hx hb dX9_takeHomes_12 rfl (lv_at hl 3 rfl) ?_
  obtain ⟨q4, hc3, hf⟩ := zbind hf
  refine zcallVv (pc := 13) (As := [.int (0 : Int32), .int a3]) (rest := []) ⟨hx, hb, hml, hown, hts⟩ (kX3_add l D ad cy (0 : Int32) a3 q2 q4 hc3) (cwV 2 hts gX9_takeHomes_X3_add rfl rfl rfl (by decide +kernel) ⟨Nat.le_of_ble_eq_true rfl, Nat.le_of_ble_eq_true rfl⟩) hI rfl (xl_12 ad cy q2) rfl hl.1 rfl (Nat.le_of_ble_eq_true rfl) dX9_takeHomes_13 (Nat.zero_le _) (Nat.zero_le _) (fun H locs hI => ?_)
  refine lv_iconst (pc := 16) (v := 0) hx hb dX9_takeHomes_16 (by decide) ?_
  refine lv_istore (pc := 17) (lv' := [(4, .int (0 : Int32)), (0, .ref (ad 0)), (1, .ref (ad (39 + 2 * js))), (2, .int a2), (3, .int a3)]) hx hb dX9_takeHomes_17 hl (by decide) rfl (fun ls hl => ?_)
  obtain ⟨b16, hb17, hf⟩ := zbind hf
  refine lX9_takeHomes_19 C0 hjs hb17 ?_ _ _ _ hI (lv_sub hl [1, 2, 3, 4, 0] rfl)
  intro H locs ls hI hl
  refine lv_aload_n (pc := 77) hx hb dX9_takeHomes_77 rfl (lv_at hl 0 rfl) ?_
  refine z_get (pc := 78) (index := 51) hx hb hts iwX9_takeHomes_9 hown hI (xl_0 ad cy b16) rfl 5 (by decide) (by decide +kernel) rfl rfl dX9_takeHomes_78 ?_
  obtain ⟨q19, hc18, hf⟩ := zbind hf
  refine zcallVv (pc := 81) (As := []) (rest := []) ⟨hx, hb, hml, hown, hts⟩ (kX2_forget l D ad cy b16 q19 hc18) (cwV 0 hts gX9_takeHomes_X2_forget rfl rfl rfl (by decide +kernel) ⟨Nat.le_of_ble_eq_true rfl, Nat.le_of_ble_eq_true rfl⟩) hI rfl (xl_27 ad cy b16) rfl hl.1 rfl (Nat.le_of_ble_eq_true rfl) dX9_takeHomes_81 (Nat.zero_le _) (Nat.zero_le _) (fun H locs hI => ?_)
  obtain rfl := zone hf
  exact z_vret (pc := 84) C0 hI dX9_takeHomes_84
set_option maxHeartbeats 4000000 in
set_option maxRecDepth 100000 in
theorem kX9_feed (l : Launch) (D : va_G) (ad : Nat → Nat) (cy : Nat → ClassId) (k : Nat) (a1 : Int64) (u : CX) (r : Int32) (u' : CX) (hf : fX9_feed k a1 u = some (r, u')) : zCt l yX9_feed wsX9_feed ({ frames := 1, cells := 0, slots := 0, locals := 23 } : Room) D ad cy [.ref (ad 0), .long a1] (WX ad cy u) (some (.int r)) (WX ad cy u') := by
  refine zCt.of (cc := cX9_feed) (maxL := 3) (ret := (some .int)) (own := RX9) (by decide) rfl rfl ?_
  intro p e s m below meth c A C0 hI
  obtain ⟨hx, hb, hml, hown, hts, hr, hlk⟩ := id C0
  refine z_entry (Nat.le_of_ble_eq_true rfl) (fun ls hl => ?_)
  have hl : lv_has ls 3 [(0, .ref (ad 0)), (1, .long a1)] := hl
  unfold fX9_feed at hf
  refine lv_aload_n (pc := 0) hx hb dX9_feed_0 rfl (lv_at hl 0 rfl) ?_
  refine z_get (pc := 1) (index := 19) hx hb hts iwX9_feed_9 hown hI (xl_0 ad cy u) rfl 1 (by decide) (by decide +kernel) rfl rfl dX9_feed_1 ?_
  refine lv_lload_n (pc := 4) hx hb dX9_feed_4 rfl (lv_at hl 1 rfl) ?_
  obtain ⟨q2, hc1, hf⟩ := zbind hf
  refine zcallVi (pc := 5) (As := [.long a1]) (rest := []) ⟨hx, hb, hml, hown, hts⟩ (kX7_put l D ad cy k a1 u q2.1 q2.2 hc1) (cwV 1 hts gX9_feed_X7_put rfl rfl rfl (by decide +kernel) ⟨Nat.le_of_ble_eq_true rfl, Nat.le_of_ble_eq_true rfl⟩) hI rfl (xl_4 ad cy u) rfl hl.1 rfl (Nat.le_of_ble_eq_true rfl) dX9_feed_5 (Nat.zero_le _) (Nat.zero_le _) (fun H locs hI => ?_)
  refine z_if_eq (pc := 8) (tgt := 21) hx hb dX9_feed_8 (by decide) hf (fun hf => ?_) (fun hf => ?_)
  · refine lv_bipush (pc := 21) (v := -3) hx hb dX9_feed_21 (by decide) ?_
    obtain ⟨rfl, rfl⟩ := zpair hf
    exact z_iret (pc := 23) C0 hI dX9_feed_23
  refine lv_aload_n (pc := 11) hx hb dX9_feed_11 rfl (lv_at hl 0 rfl) ?_
  refine z_get (pc := 12) (index := 19) hx hb hts iwX9_feed_9 hown hI (xl_0 ad cy q2.2) rfl 1 (by decide) (by decide +kernel) rfl rfl dX9_feed_12 ?_
  refine z_get (pc := 15) (index := 88) hx hb hts iwX9_feed_7 hown hI (xl_4 ad cy q2.2) rfl 1 (by decide) (by decide +kernel) rfl rfl dX9_feed_15 ?_
  refine lv_goto (pc := 18) (tgt := 23) hx hb dX9_feed_18 (by decide) ?_
  obtain ⟨rfl, rfl⟩ := zpair hf
  exact z_iret (pc := 23) C0 hI dX9_feed_23
set_option maxHeartbeats 4000000 in
set_option maxRecDepth 100000 in
theorem kX9_end (l : Launch) (D : va_G) (ad : Nat → Nat) (cy : Nat → ClassId) (a1 : Int32) (u : CX) (r : Int32) (u' : CX) (hf : fX9_end a1 u = some (r, u')) : zCt l yX9_end wsX9_end ({ frames := 0, cells := 0, slots := 0, locals := 0 } : Room) D ad cy [.ref (ad 0), .int a1] (WX ad cy u) (some (.int r)) (WX ad cy u') := by
  refine zCt.of (cc := cX9_end) (maxL := 3) (ret := (some .int)) (own := RX9) (by decide) rfl rfl ?_
  intro p e s m below meth c A C0 hI
  obtain ⟨hx, hb, hml, hown, hts, hr, hlk⟩ := id C0
  refine z_entry (Nat.le_of_ble_eq_true rfl) (fun ls hl => ?_)
  have hl : lv_has ls 3 [(0, .ref (ad 0)), (1, .int a1)] := hl
  unfold fX9_end at hf
  refine lv_aload_n (pc := 0) hx hb dX9_end_0 rfl (lv_at hl 0 rfl) ?_
  refine z_get (pc := 1) (index := 19) hx hb hts iwX9_end_9 hown hI (xl_0 ad cy u) rfl 1 (by decide) (by decide +kernel) rfl rfl dX9_end_1 ?_
  refine z_get (pc := 4) (index := 88) hx hb hts iwX9_end_7 hown hI (xl_4 ad cy u) rfl 1 (by decide) (by decide +kernel) rfl rfl dX9_end_4 ?_
  refine z_bi hf (fun v1 hf => ?_)
  refine lv_istore_n (pc := 7) (lv' := [(2, .int v1), (0, .ref (ad 0)), (1, .int a1)]) hx hb dX9_end_7 rfl hl (by decide) rfl (fun ls hl => ?_)
  refine lv_iload_n (pc := 8) hx hb dX9_end_8 rfl (lv_at hl 2 rfl) ?_
  refine z_if_lt (pc := 9) (tgt := 17) hx hb dX9_end_9 (by decide) hf (fun hf => ?_) (fun hf => ?_)
  · refine lv_iconst (pc := 17) (v := -1) hx hb dX9_end_17 (by decide) ?_
    obtain ⟨rfl, rfl⟩ := zpair hf
    exact z_iret (pc := 18) C0 hI dX9_end_18
  refine lv_iload_n (pc := 12) hx hb dX9_end_12 rfl (lv_at hl 2 rfl) ?_
  refine lv_iload_n (pc := 13) hx hb dX9_end_13 rfl (lv_at hl 0 rfl) ?_
  refine z_icmp_le (pc := 14) (tgt := 19) hx hb dX9_end_14 (by decide) hf (fun hf => ?_) (fun hf => ?_)
  · refine lv_aload_n (pc := 19) hx hb dX9_end_19 rfl (lv_at hl 1 rfl) ?_
    refine z_get (pc := 20) (index := 19) hx hb hts iwX9_end_9 hown hI (xl_0 ad cy u) rfl 1 (by decide) (by decide +kernel) rfl rfl dX9_end_20 ?_
    refine lv_iload_n (pc := 23) hx hb dX9_end_23 rfl (lv_at hl 2 rfl) ?_
    refine z_put (wf := WX ad cy) (pc := 24) (index := 88) hx hb hts iwX9_end_7 tyX7 tyX7_ok nmX7 hown hI (xl_4 ad cy u) rfl 1 (by decide) (by decide +kernel) rfl rfl rfl rfl (Nat.le_of_ble_eq_true rfl) dX9_end_24 (xw_tsize ad cy u a1) hf (fun u2 H locs hI hf => ?_)
    refine lv_iload_n (pc := 27) hx hb dX9_end_27 rfl (lv_at hl 0 rfl) ?_
    obtain ⟨rfl, rfl⟩ := zpair hf
    exact z_iret (pc := 28) C0 hI dX9_end_28
  refine lv_iconst (pc := 17) (v := -1) hx hb dX9_end_17 (by decide) ?_
  obtain ⟨rfl, rfl⟩ := zpair hf
  exact z_iret (pc := 18) C0 hI dX9_end_18
set_option maxHeartbeats 4000000 in
set_option maxRecDepth 100000 in
theorem kX9_text (l : Launch) (D : va_G) (ad : Nat → Nat) (cy : Nat → ClassId) (k : Nat) (u : CX) (r : Int32) (u' : CX) (hf : fX9_text k u = some (r, u')) : zCt l yX9_text wsX9_text ({ frames := 8, cells := 0, slots := 0, locals := 172 } : Room) D ad cy [.ref (ad 0)] (WX ad cy u) (some (.int r)) (WX ad cy u') := by
  refine zCt.of (cc := cX9_text) (maxL := 1) (ret := (some .int)) (own := RX9) (by decide) rfl rfl ?_
  intro p e s m below meth c A C0 hI
  obtain ⟨hx, hb, hml, hown, hts, hr, hlk⟩ := id C0
  refine z_entry (Nat.le_of_ble_eq_true rfl) (fun ls hl => ?_)
  have hl : lv_has ls 1 [(0, .ref (ad 0))] := hl
  unfold fX9_text at hf
  refine lv_aload_n (pc := 0) hx hb dX9_text_0 rfl (lv_at hl 0 rfl) ?_
  refine z_get (pc := 1) (index := 28) hx hb hts iwX9_text_9 hown hI (xl_0 ad cy u) rfl 2 (by decide) (by decide +kernel) rfl rfl dX9_text_1 ?_
  obtain ⟨q2, hc1, hf⟩ := zbind hf
  refine zcallVv (pc := 4) (As := []) (rest := []) ⟨hx, hb, hml, hown, hts⟩ (kX5_readTape l D ad cy k u q2 hc1) (cwV 0 hts gX9_text_X5_readTape rfl rfl rfl (by decide +kernel) ⟨Nat.le_of_ble_eq_true rfl, Nat.le_of_ble_eq_true rfl⟩) hI rfl (xl_6 ad cy u) rfl hl.1 rfl (Nat.le_of_ble_eq_true rfl) dX9_text_4 (Nat.zero_le _) (Nat.zero_le _) (fun H locs hI => ?_)
  refine lv_aload_n (pc := 7) hx hb dX9_text_7 rfl (lv_at hl 0 rfl) ?_
  refine z_get (pc := 8) (index := 19) hx hb hts iwX9_text_9 hown hI (xl_0 ad cy q2) rfl 1 (by decide) (by decide +kernel) rfl rfl dX9_text_8 ?_
  refine lv_iconst (pc := 11) (v := 0) hx hb dX9_text_11 (by decide) ?_
  refine z_put (wf := WX ad cy) (pc := 12) (index := 88) hx hb hts iwX9_text_7 tyX7 tyX7_ok nmX7 hown hI (xl_4 ad cy q2) rfl 1 (by decide) (by decide +kernel) rfl rfl rfl rfl (Nat.le_of_ble_eq_true rfl) dX9_text_12 (xw_tsize ad cy q2 (0 : Int32)) hf (fun u3 H locs hI hf => ?_)
  refine lv_aload_n (pc := 15) hx hb dX9_text_15 rfl (lv_at hl 0 rfl) ?_
  refine z_get (pc := 16) (index := 28) hx hb hts iwX9_text_9 hown hI (xl_0 ad cy u3) rfl 2 (by decide) (by decide +kernel) rfl rfl dX9_text_16 ?_
  refine z_get (pc := 19) (index := 94) hx hb hts iwX9_text_5 hown hI (xl_6 ad cy u3) rfl 4 (by decide) (by decide +kernel) rfl rfl dX9_text_19 ?_
  refine z_if_eq (pc := 22) (tgt := 36) hx hb dX9_text_22 (by decide) hf (fun hf => ?_) (fun hf => ?_)
  · refine lv_aload_n (pc := 36) hx hb dX9_text_36 rfl (lv_at hl 0 rfl) ?_
    refine z_get (pc := 37) (index := 10) hx hb hts iwX9_text_9 hown hI (xl_0 ad cy u3) rfl 0 (by decide) (by decide +kernel) rfl rfl dX9_text_37 ?_
    refine lv_aload_n (pc := 40) hx hb dX9_text_40 rfl (lv_at hl 0 rfl) ?_
    refine z_get (pc := 41) (index := 28) hx hb hts iwX9_text_9 hown hI (xl_0 ad cy u3) rfl 2 (by decide) (by decide +kernel) rfl rfl dX9_text_41 ?_
    refine z_get (pc := 44) (index := 100) hx hb hts iwX9_text_5 hown hI (xl_6 ad cy u3) rfl 1 (by decide) (by decide +kernel) rfl rfl dX9_text_44 ?_
    obtain ⟨q5, hc4, hf⟩ := zbind hf
    refine zcallVv (pc := 47) (As := [.ref (ad 7)]) (rest := []) ⟨hx, hb, hml, hown, hts⟩ (kX8_take l D ad cy k u3 q5 hc4) (cwV 1 hts gX9_text_X8_take rfl rfl rfl (by decide +kernel) ⟨Nat.le_of_ble_eq_true rfl, Nat.le_of_ble_eq_true rfl⟩) hI rfl (xl_1 ad cy u3) rfl hl.1 rfl (Nat.le_of_ble_eq_true rfl) dX9_text_47 (Nat.zero_le _) (Nat.zero_le _) (fun H locs hI => ?_)
    refine lv_aload_n (pc := 50) hx hb dX9_text_50 rfl (lv_at hl 0 rfl) ?_
    refine z_get (pc := 51) (index := 60) hx hb hts iwX9_text_9 hown hI (xl_0 ad cy q5) rfl 6 (by decide) (by decide +kernel) rfl rfl dX9_text_51 ?_
    obtain ⟨q7, hc6, hf⟩ := zbind hf
    refine zcallVv (pc := 54) (As := []) (rest := []) ⟨hx, hb, hml, hown, hts⟩ (kX4_settle l D ad cy k q5 q7 hc6) (cwV 0 hts gX9_text_X4_settle rfl rfl rfl (by decide +kernel) ⟨Nat.le_of_ble_eq_true rfl, Nat.le_of_ble_eq_true rfl⟩) hI rfl (xl_32 ad cy q5) rfl hl.1 rfl (Nat.le_of_ble_eq_true rfl) dX9_text_54 (Nat.zero_le _) (Nat.zero_le _) (fun H locs hI => ?_)
    refine lv_aload_n (pc := 57) hx hb dX9_text_57 rfl (lv_at hl 0 rfl) ?_
    refine z_get (pc := 58) (index := 51) hx hb hts iwX9_text_9 hown hI (xl_0 ad cy q7) rfl 5 (by decide) (by decide +kernel) rfl rfl dX9_text_58 ?_
    obtain ⟨q9, hc8, hf⟩ := zbind hf
    refine zcallVv (pc := 61) (As := []) (rest := []) ⟨hx, hb, hml, hown, hts⟩ (kX2_forget l D ad cy q7 q9 hc8) (cwV 0 hts gX9_text_X2_forget rfl rfl rfl (by decide +kernel) ⟨Nat.le_of_ble_eq_true rfl, Nat.le_of_ble_eq_true rfl⟩) hI rfl (xl_27 ad cy q7) rfl hl.1 rfl (Nat.le_of_ble_eq_true rfl) dX9_text_61 (Nat.zero_le _) (Nat.zero_le _) (fun H locs hI => ?_)
    refine lv_aload_n (pc := 64) hx hb dX9_text_64 rfl (lv_at hl 0 rfl) ?_
    refine z_get (pc := 65) (index := 28) hx hb hts iwX9_text_9 hown hI (xl_0 ad cy q9) rfl 2 (by decide) (by decide +kernel) rfl rfl dX9_text_65 ?_
    refine z_get (pc := 68) (index := 112) hx hb hts iwX9_text_5 hown hI (xl_6 ad cy q9) rfl 6 (by decide) (by decide +kernel) rfl rfl dX9_text_68 ?_
    obtain ⟨rfl, rfl⟩ := zpair hf
    exact z_iret (pc := 71) C0 hI dX9_text_71
  refine lv_bipush (pc := 25) (v := -10) hx hb dX9_text_25 (by decide) ?_
  refine lv_aload_n (pc := 27) hx hb dX9_text_27 rfl (lv_at hl 0 rfl) ?_
  refine z_get (pc := 28) (index := 28) hx hb hts iwX9_text_9 hown hI (xl_0 ad cy u3) rfl 2 (by decide) (by decide +kernel) rfl rfl dX9_text_28 ?_
  refine z_get (pc := 31) (index := 97) hx hb hts iwX9_text_5 hown hI (xl_6 ad cy u3) rfl 5 (by decide) (by decide +kernel) rfl rfl dX9_text_31 ?_
  refine lv_isub (pc := 34) hx hb dX9_text_34 ?_
  obtain ⟨rfl, rfl⟩ := zpair hf
  exact z_iret (pc := 35) C0 hI dX9_text_35
set_option maxHeartbeats 4000000 in
set_option maxRecDepth 100000 in
theorem kX9_fault (l : Launch) (D : va_G) (ad : Nat → Nat) (cy : Nat → ClassId) (u : CX) (r : Int32) (hf : fX9_fault u = some r) : zCt l yX9_fault wsX9_fault ({ frames := 0, cells := 0, slots := 0, locals := 0 } : Room) D ad cy [.ref (ad 0)] (WX ad cy u) (some (.int r)) (WX ad cy u) := by
  refine zCt.of (cc := cX9_fault) (maxL := 1) (ret := (some .int)) (own := RX9) (by decide) rfl rfl ?_
  intro p e s m below meth c A C0 hI
  obtain ⟨hx, hb, hml, hown, hts, hr, hlk⟩ := id C0
  refine z_entry (Nat.le_of_ble_eq_true rfl) (fun ls hl => ?_)
  have hl : lv_has ls 1 [(0, .ref (ad 0))] := hl
  unfold fX9_fault at hf
  refine lv_aload_n (pc := 0) hx hb dX9_fault_0 rfl (lv_at hl 0 rfl) ?_
  refine z_get (pc := 1) (index := 28) hx hb hts iwX9_fault_9 hown hI (xl_0 ad cy u) rfl 2 (by decide) (by decide +kernel) rfl rfl dX9_fault_1 ?_
  refine z_get (pc := 4) (index := 94) hx hb hts iwX9_fault_5 hown hI (xl_6 ad cy u) rfl 4 (by decide) (by decide +kernel) rfl rfl dX9_fault_4 ?_
  obtain rfl := zone hf
  exact z_iret (pc := 7) C0 hI dX9_fault_7
set_option maxHeartbeats 4000000 in
set_option maxRecDepth 100000 in
theorem kX9_part (l : Launch) (D : va_G) (ad : Nat → Nat) (cy : Nat → ClassId) (a1 : Int32) (a2 : Int32) (u : CX) (r : Int32) (hf : fX9_part a1 a2 u = some r) : zCt l yX9_part wsX9_part ({ frames := 1, cells := 0, slots := 0, locals := 20 } : Room) D ad cy [.ref (ad 0), .int a1, .int a2] (WX ad cy u) (some (.int r)) (WX ad cy u) := by
  refine zCt.of (cc := cX9_part) (maxL := 3) (ret := (some .int)) (own := RX9) (by decide) rfl rfl ?_
  intro p e s m below meth c A C0 hI
  obtain ⟨hx, hb, hml, hown, hts, hr, hlk⟩ := id C0
  refine z_entry (Nat.le_of_ble_eq_true rfl) (fun ls hl => ?_)
  have hl : lv_has ls 3 [(0, .ref (ad 0)), (1, .int a1), (2, .int a2)] := hl
  unfold fX9_part at hf
  refine lv_iload_n (pc := 0) hx hb dX9_part_0 rfl (lv_at hl 1 rfl) ?_
  obtain ⟨q2, hc1, hf⟩ := zbind hf
  refine zcallSi (pc := 1) (As := [.int a1]) (rest := []) ⟨hx, hb, hml, hown, hts⟩ (kX9_isPart l a1 q2 hc1) (va_cwS 1 hts gX9_part_X9_isPart rfl rfl rfl (by decide +kernel) ⟨Nat.le_of_ble_eq_true rfl, Nat.le_of_ble_eq_true rfl⟩) rfl hl.1 rfl (Nat.le_of_ble_eq_true rfl) dX9_part_1 (Nat.zero_le _) (Nat.zero_le _) ?_
  refine z_if_eq (pc := 4) (tgt := 32) hx hb dX9_part_4 (by decide) hf (fun hf => ?_) (fun hf => ?_)
  · refine lv_iconst (pc := 32) (v := -1) hx hb dX9_part_32 (by decide) ?_
    obtain rfl := zone hf
    exact z_iret (pc := 33) C0 hI dX9_part_33
  refine lv_iload_n (pc := 7) hx hb dX9_part_7 rfl (lv_at hl 2 rfl) ?_
  refine z_if_lt (pc := 8) (tgt := 32) hx hb dX9_part_8 (by decide) hf (fun hf => ?_) (fun hf => ?_)
  · refine lv_iconst (pc := 32) (v := -1) hx hb dX9_part_32 (by decide) ?_
    obtain rfl := zone hf
    exact z_iret (pc := 33) C0 hI dX9_part_33
  refine lv_iload_n (pc := 11) hx hb dX9_part_11 rfl (lv_at hl 2 rfl) ?_
  refine lv_iconst (pc := 12) (v := 2) hx hb dX9_part_12 (by decide) ?_
  refine z_icmp_gt (pc := 13) (tgt := 32) hx hb dX9_part_13 (by decide) hf (fun hf => ?_) (fun hf => ?_)
  · refine lv_iconst (pc := 32) (v := -1) hx hb dX9_part_32 (by decide) ?_
    obtain rfl := zone hf
    exact z_iret (pc := 33) C0 hI dX9_part_33
  refine lv_aload_n (pc := 16) hx hb dX9_part_16 rfl (lv_at hl 0 rfl) ?_
  refine z_get (pc := 17) (index := 10) hx hb hts iwX9_part_9 hown hI (xl_0 ad cy u) rfl 0 (by decide) (by decide +kernel) rfl rfl dX9_part_17 ?_
  refine z_get (pc := 20) (index := 119) hx hb hts iwX9_part_8 hown hI (xl_1 ad cy u) rfl 0 (by decide) (by decide +kernel) rfl rfl dX9_part_20 ?_
  refine lv_iconst (pc := 23) (v := 4) hx hb dX9_part_23 (by decide) ?_
  refine lv_iload_n (pc := 24) hx hb dX9_part_24 rfl (lv_at hl 2 rfl) ?_
  refine lv_imul (pc := 25) hx hb dX9_part_25 ?_
  refine lv_iload_n (pc := 26) hx hb dX9_part_26 rfl (lv_at hl 1 rfl) ?_
  refine lv_iadd (pc := 27) hx hb dX9_part_27 ?_
  refine z_iald (pc := 28) hx hb hI (xl_2 ad cy u) 0 rfl dX9_part_28 hf (fun v3 hf => ?_)
  refine lv_goto (pc := 29) (tgt := 33) hx hb dX9_part_29 (by decide) ?_
  obtain rfl := zone hf
  exact z_iret (pc := 33) C0 hI dX9_part_33
set_option maxHeartbeats 4000000 in
set_option maxRecDepth 100000 in
theorem kX9_rule (l : Launch) (D : va_G) (ad : Nat → Nat) (cy : Nat → ClassId) (a1 : Int32) (u : CX) (r : Int32) (hf : fX9_rule a1 u = some r) : zCt l yX9_rule wsX9_rule ({ frames := 0, cells := 0, slots := 0, locals := 0 } : Room) D ad cy [.ref (ad 0), .int a1] (WX ad cy u) (some (.int r)) (WX ad cy u) := by
  refine zCt.of (cc := cX9_rule) (maxL := 2) (ret := (some .int)) (own := RX9) (by decide) rfl rfl ?_
  intro p e s m below meth c A C0 hI
  obtain ⟨hx, hb, hml, hown, hts, hr, hlk⟩ := id C0
  refine z_entry (Nat.le_of_ble_eq_true rfl) (fun ls hl => ?_)
  have hl : lv_has ls 2 [(0, .ref (ad 0)), (1, .int a1)] := hl
  unfold fX9_rule at hf
  refine lv_iload_n (pc := 0) hx hb dX9_rule_0 rfl (lv_at hl 1 rfl) ?_
  refine z_if_lt (pc := 1) (tgt := 22) hx hb dX9_rule_1 (by decide) hf (fun hf => ?_) (fun hf => ?_)
  · refine lv_iconst (pc := 22) (v := -1) hx hb dX9_rule_22 (by decide) ?_
    obtain rfl := zone hf
    exact z_iret (pc := 23) C0 hI dX9_rule_23
  refine lv_iload_n (pc := 4) hx hb dX9_rule_4 rfl (lv_at hl 1 rfl) ?_
  refine lv_bipush (pc := 5) (v := 6) hx hb dX9_rule_5 (by decide) ?_
  refine z_icmp_gt (pc := 7) (tgt := 22) hx hb dX9_rule_7 (by decide) hf (fun hf => ?_) (fun hf => ?_)
  · refine lv_iconst (pc := 22) (v := -1) hx hb dX9_rule_22 (by decide) ?_
    obtain rfl := zone hf
    exact z_iret (pc := 23) C0 hI dX9_rule_23
  refine lv_aload_n (pc := 10) hx hb dX9_rule_10 rfl (lv_at hl 0 rfl) ?_
  refine z_get (pc := 11) (index := 10) hx hb hts iwX9_rule_9 hown hI (xl_0 ad cy u) rfl 0 (by decide) (by decide +kernel) rfl rfl dX9_rule_11 ?_
  refine z_get (pc := 14) (index := 123) hx hb hts iwX9_rule_8 hown hI (xl_1 ad cy u) rfl 1 (by decide) (by decide +kernel) rfl rfl dX9_rule_14 ?_
  refine lv_iload_n (pc := 17) hx hb dX9_rule_17 rfl (lv_at hl 1 rfl) ?_
  refine z_iald (pc := 18) hx hb hI (xl_3 ad cy u) 0 rfl dX9_rule_18 hf (fun v1 hf => ?_)
  refine lv_goto (pc := 19) (tgt := 23) hx hb dX9_rule_19 (by decide) ?_
  obtain rfl := zone hf
  exact z_iret (pc := 23) C0 hI dX9_rule_23
set_option maxHeartbeats 4000000 in
set_option maxRecDepth 100000 in
theorem kX9_told (l : Launch) (D : va_G) (ad : Nat → Nat) (cy : Nat → ClassId) (k : Nat) (a1 : Int32) (a2 : Int32) (a3 : Int32) (u : CX) (r : Int32) (u' : CX) (hf : fX9_told k a1 a2 a3 u = some (r, u')) : zCt l yX9_told wsX9_told ({ frames := 2, cells := 0, slots := 0, locals := 48 } : Room) D ad cy [.ref (ad 0), .int a1, .int a2, .int a3] (WX ad cy u) (some (.int r)) (WX ad cy u') := by
  refine zCt.of (cc := cX9_told) (maxL := 4) (ret := (some .int)) (own := RX9) (by decide) rfl rfl ?_
  intro p e s m below meth c A C0 hI
  obtain ⟨hx, hb, hml, hown, hts, hr, hlk⟩ := id C0
  refine z_entry (Nat.le_of_ble_eq_true rfl) (fun ls hl => ?_)
  have hl : lv_has ls 4 [(0, .ref (ad 0)), (1, .int a1), (2, .int a2), (3, .int a3)] := hl
  unfold fX9_told at hf
  refine lv_iload_n (pc := 0) hx hb dX9_told_0 rfl (lv_at hl 1 rfl) ?_
  refine lv_iconst (pc := 1) (v := 1) hx hb dX9_told_1 (by decide) ?_
  refine z_icmp_lt (pc := 2) (tgt := 27) hx hb dX9_told_2 (by decide) hf (fun hf => ?_) (fun hf => ?_)
  · refine lv_iconst (pc := 27) (v := -1) hx hb dX9_told_27 (by decide) ?_
    obtain ⟨rfl, rfl⟩ := zpair hf
    exact z_iret (pc := 28) C0 hI dX9_told_28
  refine lv_iload_n (pc := 5) hx hb dX9_told_5 rfl (lv_at hl 1 rfl) ?_
  refine lv_bipush (pc := 6) (v := 99) hx hb dX9_told_6 (by decide) ?_
  refine z_icmp_gt (pc := 8) (tgt := 27) hx hb dX9_told_8 (by decide) hf (fun hf => ?_) (fun hf => ?_)
  · refine lv_iconst (pc := 27) (v := -1) hx hb dX9_told_27 (by decide) ?_
    obtain ⟨rfl, rfl⟩ := zpair hf
    exact z_iret (pc := 28) C0 hI dX9_told_28
  refine lv_iload_n (pc := 11) hx hb dX9_told_11 rfl (lv_at hl 2 rfl) ?_
  refine z_if_lt (pc := 12) (tgt := 27) hx hb dX9_told_12 (by decide) hf (fun hf => ?_) (fun hf => ?_)
  · refine lv_iconst (pc := 27) (v := -1) hx hb dX9_told_27 (by decide) ?_
    obtain ⟨rfl, rfl⟩ := zpair hf
    exact z_iret (pc := 28) C0 hI dX9_told_28
  refine lv_iload_n (pc := 15) hx hb dX9_told_15 rfl (lv_at hl 2 rfl) ?_
  refine lv_iload_n (pc := 16) hx hb dX9_told_16 rfl (lv_at hl 1 rfl) ?_
  refine z_icmp_gt (pc := 17) (tgt := 27) hx hb dX9_told_17 (by decide) hf (fun hf => ?_) (fun hf => ?_)
  · refine lv_iconst (pc := 27) (v := -1) hx hb dX9_told_27 (by decide) ?_
    obtain ⟨rfl, rfl⟩ := zpair hf
    exact z_iret (pc := 28) C0 hI dX9_told_28
  refine lv_iload_n (pc := 20) hx hb dX9_told_20 rfl (lv_at hl 3 rfl) ?_
  obtain ⟨q2, hc1, hf⟩ := zbind hf
  refine zcallSi (pc := 21) (As := [.int a3]) (rest := []) ⟨hx, hb, hml, hown, hts⟩ (kX9_areHoles l a3 q2 hc1) (va_cwS 1 hts gX9_told_X9_areHoles rfl rfl rfl (by decide +kernel) ⟨Nat.le_of_ble_eq_true rfl, Nat.le_of_ble_eq_true rfl⟩) rfl hl.1 rfl (Nat.le_of_ble_eq_true rfl) dX9_told_21 (Nat.zero_le _) (Nat.zero_le _) ?_
  refine z_if_ne (pc := 24) (tgt := 29) hx hb dX9_told_24 (by decide) hf (fun hf => ?_) (fun hf => ?_)
  · refine lv_aload_n (pc := 29) hx hb dX9_told_29 rfl (lv_at hl 0 rfl) ?_
    refine z_get (pc := 30) (index := 35) hx hb hts iwX9_told_9 hown hI (xl_0 ad cy u) rfl 3 (by decide) (by decide +kernel) rfl rfl dX9_told_30 ?_
    obtain ⟨q4, hc3, hf⟩ := zbind hf
    refine zcallVi (pc := 33) (As := []) (rest := []) ⟨hx, hb, hml, hown, hts⟩ (kX3_sorties l D ad cy u q4 hc3) (cwV 0 hts gX9_told_X3_sorties rfl rfl rfl (by decide +kernel) ⟨Nat.le_of_ble_eq_true rfl, Nat.le_of_ble_eq_true rfl⟩) hI rfl (xl_12 ad cy u) rfl hl.1 rfl (Nat.le_of_ble_eq_true rfl) dX9_told_33 (Nat.zero_le _) (Nat.zero_le _) (fun H locs hI => ?_)
    refine lv_iload_n (pc := 36) hx hb dX9_told_36 rfl (lv_at hl 1 rfl) ?_
    refine lv_iadd (pc := 37) hx hb dX9_told_37 ?_
    refine lv_sipush (pc := 38) (v := 999) hx hb dX9_told_38 (by decide) ?_
    refine z_icmp_le (pc := 41) (tgt := 47) hx hb dX9_told_41 (by decide) hf (fun hf => ?_) (fun hf => ?_)
    · refine lv_aload_n (pc := 47) hx hb dX9_told_47 rfl (lv_at hl 0 rfl) ?_
      refine z_get (pc := 48) (index := 35) hx hb hts iwX9_told_9 hown hI (xl_0 ad cy u) rfl 3 (by decide) (by decide +kernel) rfl rfl dX9_told_48 ?_
      obtain ⟨q6, hc5, hf⟩ := zbind hf
      refine zcallVv (pc := 51) (As := []) (rest := []) ⟨hx, hb, hml, hown, hts⟩ (kX3_beginAct l D ad cy k u q6 hc5) (cwV 0 hts gX9_told_X3_beginAct rfl rfl rfl (by decide +kernel) ⟨Nat.le_of_ble_eq_true rfl, Nat.le_of_ble_eq_true rfl⟩) hI rfl (xl_12 ad cy u) rfl hl.1 rfl (Nat.le_of_ble_eq_true rfl) dX9_told_51 (Nat.zero_le _) (Nat.zero_le _) (fun H locs hI => ?_)
      refine lv_aload_n (pc := 54) hx hb dX9_told_54 rfl (lv_at hl 0 rfl) ?_
      refine z_get (pc := 55) (index := 35) hx hb hts iwX9_told_9 hown hI (xl_0 ad cy q6) rfl 3 (by decide) (by decide +kernel) rfl rfl dX9_told_55 ?_
      refine lv_iconst (pc := 58) (v := 0) hx hb dX9_told_58 (by decide) ?_
      refine lv_iload_n (pc := 59) hx hb dX9_told_59 rfl (lv_at hl 1 rfl) ?_
      obtain ⟨q8, hc7, hf⟩ := zbind hf
      refine zcallVv (pc := 60) (As := [.int (0 : Int32), .int a1]) (rest := []) ⟨hx, hb, hml, hown, hts⟩ (kX3_add l D ad cy (0 : Int32) a1 q6 q8 hc7) (cwV 2 hts gX9_told_X3_add rfl rfl rfl (by decide +kernel) ⟨Nat.le_of_ble_eq_true rfl, Nat.le_of_ble_eq_true rfl⟩) hI rfl (xl_12 ad cy q6) rfl hl.1 rfl (Nat.le_of_ble_eq_true rfl) dX9_told_60 (Nat.zero_le _) (Nat.zero_le _) (fun H locs hI => ?_)
      refine lv_aload_n (pc := 63) hx hb dX9_told_63 rfl (lv_at hl 0 rfl) ?_
      refine z_get (pc := 64) (index := 35) hx hb hts iwX9_told_9 hown hI (xl_0 ad cy q8) rfl 3 (by decide) (by decide +kernel) rfl rfl dX9_told_64 ?_
      refine lv_iload_n (pc := 67) hx hb dX9_told_67 rfl (lv_at hl 2 rfl) ?_
      refine lv_iload_n (pc := 68) hx hb dX9_told_68 rfl (lv_at hl 3 rfl) ?_
      refine lv_bipush (pc := 69) (v := 6) hx hb dX9_told_69 (by decide) ?_
      refine lv_ishr (pc := 71) hx hb dX9_told_71 ?_
      refine lv_iload_n (pc := 72) hx hb dX9_told_72 rfl (lv_at hl 3 rfl) ?_
      refine lv_iconst (pc := 73) (v := 4) hx hb dX9_told_73 (by decide) ?_
      refine lv_ishr (pc := 74) hx hb dX9_told_74 ?_
      refine lv_iconst (pc := 75) (v := 3) hx hb dX9_told_75 (by decide) ?_
      refine lv_iand (pc := 76) hx hb dX9_told_76 ?_
      refine lv_iload_n (pc := 77) hx hb dX9_told_77 rfl (lv_at hl 3 rfl) ?_
      refine lv_iconst (pc := 78) (v := 2) hx hb dX9_told_78 (by decide) ?_
      refine lv_ishr (pc := 79) hx hb dX9_told_79 ?_
      refine lv_iconst (pc := 80) (v := 3) hx hb dX9_told_80 (by decide) ?_
      refine lv_iand (pc := 81) hx hb dX9_told_81 ?_
      refine lv_iload_n (pc := 82) hx hb dX9_told_82 rfl (lv_at hl 3 rfl) ?_
      refine lv_iconst (pc := 83) (v := 3) hx hb dX9_told_83 (by decide) ?_
      refine lv_iand (pc := 84) hx hb dX9_told_84 ?_
      obtain ⟨q10, hc9, hf⟩ := zbind hf
      refine zcallVv (pc := 85) (As := [.int a2, .int (a3 >>> ((6 : Int32) &&& 31)), .int ((a3 >>> ((4 : Int32) &&& 31)) &&& (3 : Int32)), .int ((a3 >>> ((2 : Int32) &&& 31)) &&& (3 : Int32)), .int (a3 &&& (3 : Int32))]) (rest := []) ⟨hx, hb, hml, hown, hts⟩ (kX3_addHomes l D ad cy a2 (a3 >>> ((6 : Int32) &&& 31)) ((a3 >>> ((4 : Int32) &&& 31)) &&& (3 : Int32)) ((a3 >>> ((2 : Int32) &&& 31)) &&& (3 : Int32)) (a3 &&& (3 : Int32)) q8 q10 hc9) (cwV 5 hts gX9_told_X3_addHomes rfl rfl rfl (by decide +kernel) ⟨Nat.le_of_ble_eq_true rfl, Nat.le_of_ble_eq_true rfl⟩) hI rfl (xl_12 ad cy q8) rfl hl.1 rfl (Nat.le_of_ble_eq_true rfl) dX9_told_85 (Nat.zero_le _) (Nat.zero_le _) (fun H locs hI => ?_)
      refine lv_aload_n (pc := 88) hx hb dX9_told_88 rfl (lv_at hl 0 rfl) ?_
      refine z_get (pc := 89) (index := 51) hx hb hts iwX9_told_9 hown hI (xl_0 ad cy q10) rfl 5 (by decide) (by decide +kernel) rfl rfl dX9_told_89 ?_
      obtain ⟨q12, hc11, hf⟩ := zbind hf
      refine zcallVv (pc := 92) (As := []) (rest := []) ⟨hx, hb, hml, hown, hts⟩ (kX2_forget l D ad cy q10 q12 hc11) (cwV 0 hts gX9_told_X2_forget rfl rfl rfl (by decide +kernel) ⟨Nat.le_of_ble_eq_true rfl, Nat.le_of_ble_eq_true rfl⟩) hI rfl (xl_27 ad cy q10) rfl hl.1 rfl (Nat.le_of_ble_eq_true rfl) dX9_told_92 (Nat.zero_le _) (Nat.zero_le _) (fun H locs hI => ?_)
      refine lv_aload_n (pc := 95) hx hb dX9_told_95 rfl (lv_at hl 0 rfl) ?_
      refine z_get (pc := 96) (index := 35) hx hb hts iwX9_told_9 hown hI (xl_0 ad cy q12) rfl 3 (by decide) (by decide +kernel) rfl rfl dX9_told_96 ?_
      obtain ⟨q14, hc13, hf⟩ := zbind hf
      refine zcallVi (pc := 99) (As := []) (rest := []) ⟨hx, hb, hml, hown, hts⟩ (kX3_sorties l D ad cy q12 q14 hc13) (cwV 0 hts gX9_told_X3_sorties rfl rfl rfl (by decide +kernel) ⟨Nat.le_of_ble_eq_true rfl, Nat.le_of_ble_eq_true rfl⟩) hI rfl (xl_12 ad cy q12) rfl hl.1 rfl (Nat.le_of_ble_eq_true rfl) dX9_told_99 (Nat.zero_le _) (Nat.zero_le _) (fun H locs hI => ?_)
      obtain ⟨rfl, rfl⟩ := zpair hf
      exact z_iret (pc := 102) C0 hI dX9_told_102
    refine lv_bipush (pc := 44) (v := -3) hx hb dX9_told_44 (by decide) ?_
    obtain ⟨rfl, rfl⟩ := zpair hf
    exact z_iret (pc := 46) C0 hI dX9_told_46
  refine lv_iconst (pc := 27) (v := -1) hx hb dX9_told_27 (by decide) ?_
  obtain ⟨rfl, rfl⟩ := zpair hf
  exact z_iret (pc := 28) C0 hI dX9_told_28
set_option maxHeartbeats 4000000 in
set_option maxRecDepth 100000 in
theorem lX9_draw_42 (C0 : zFix p m c cX9_draw 4 s args wsX9_draw RX9 meth (some .int)) {k : Nat} {p1 : Int32} {a : Int32 × Int32 × CX} {b : Int32 × CX} (hit : ziter (bX9_draw_42 k p1) k a = some b) (hx9 : (fun (b : Int32 × CX) => ∀ (H : Heap) (locs : List Loc) (ls : Array Slot), zIn D ad cy (WX ad cy b.2) A s H locs → lv_has ls 4 [(0, .ref (ad 0)), (2, .int b.1)] → W p l e ({ frames := 3, cells := 0, slots := 0, locals := 71 } : Room) s m args below meth c H locs 0 0 Q (F0 m 71 ls [])) b) : (fun (a : Int32 × Int32 × CX) => ∀ (H : Heap) (locs : List Loc) (ls : Array Slot), zIn D ad cy (WX ad cy a.2.2) A s H locs → lv_has ls 4 [(0, .ref (ad 0)), (1, .int p1), (2, .int a.1), (3, .int a.2.1)] → W p l e ({ frames := 3, cells := 0, slots := 0, locals := 71 } : Room) s m args below meth c H locs 0 0 Q (F0 m 42 ls [])) a := by
  obtain ⟨hx, hb, hml, hown, hts, hr, hlk⟩ := id C0
  refine zloop (Wh := (fun (a : Int32 × Int32 × CX) => ∀ (H : Heap) (locs : List Loc) (ls : Array Slot), zIn D ad cy (WX ad cy a.2.2) A s H locs → lv_has ls 4 [(0, .ref (ad 0)), (1, .int p1), (2, .int a.1), (3, .int a.2.1)] → W p l e ({ frames := 3, cells := 0, slots := 0, locals := 71 } : Room) s m args below meth c H locs 0 0 Q (F0 m 42 ls []))) (Wx := (fun (b : Int32 × CX) => ∀ (H : Heap) (locs : List Loc) (ls : Array Slot), zIn D ad cy (WX ad cy b.2) A s H locs → lv_has ls 4 [(0, .ref (ad 0)), (2, .int b.1)] → W p l e ({ frames := 3, cells := 0, slots := 0, locals := 71 } : Room) s m args below meth c H locs 0 0 Q (F0 m 71 ls []))) ?_ _ a b hit hx9
  intro a x hf hL hX H locs ls hI hl
  unfold bX9_draw_42 at hf
  refine lv_iload_n (pc := 42) hx hb dX9_draw_42 rfl (lv_at hl 3 rfl) ?_
  refine lv_iload_n (pc := 43) hx hb dX9_draw_43 rfl (lv_at hl 1 rfl) ?_
  refine z_icmp_ge (pc := 44) (tgt := 71) hx hb dX9_draw_44 (by decide) hf (fun hf => ?_) (fun hf => ?_)
  · exact (hX _ (Option.some.inj hf).symm) _ _ _ hI (lv_sub hl [0, 2] rfl)
  refine lv_iload_n (pc := 47) hx hb dX9_draw_47 rfl (lv_at hl 2 rfl) ?_
  refine lv_aload_n (pc := 48) hx hb dX9_draw_48 rfl (lv_at hl 0 rfl) ?_
  refine z_get (pc := 49) (index := 69) hx hb hts iwX9_draw_9 hown hI (xl_0 ad cy a.2.2) rfl 7 (by decide) (by decide +kernel) rfl rfl dX9_draw_49 ?_
  obtain ⟨q6, hc5, hf⟩ := zbind hf
  refine zcallVi (pc := 52) (As := []) (rest := [.int a.1]) ⟨hx, hb, hml, hown, hts⟩ (kX1_fly l D ad cy k a.2.2 q6.1 q6.2 hc5) (cwV 0 hts gX9_draw_X1_fly rfl rfl rfl (by decide +kernel) ⟨Nat.le_of_ble_eq_true rfl, Nat.le_of_ble_eq_true rfl⟩) hI rfl (xl_36 ad cy a.2.2) rfl hl.1 rfl (Nat.le_of_ble_eq_true rfl) dX9_draw_52 (Nat.zero_le _) (Nat.zero_le _) (fun H locs hI => ?_)
  refine z_if_eq (pc := 55) (tgt := 62) hx hb dX9_draw_55 (by decide) hf (fun hf => ?_) (fun hf => ?_)
  · refine lv_iconst (pc := 62) (v := 0) hx hb dX9_draw_62 (by decide) ?_
    refine lv_iadd (pc := 63) hx hb dX9_draw_63 ?_
    refine z_bi hf (fun v7 hf => ?_)
    refine lv_istore_n (pc := 64) (lv' := [(2, .int v7), (0, .ref (ad 0)), (1, .int p1), (3, .int a.2.1)]) hx hb dX9_draw_64 rfl hl (by decide) rfl (fun ls hl => ?_)
    refine lv_iinc (pc := 65) (v := (a.2.1 + 1)) (lv' := [(3, .int (a.2.1 + 1)), (2, .int v7), (0, .ref (ad 0)), (1, .int p1)]) hx hb dX9_draw_65 hl (k := 3) rfl rfl (by decide) rfl (fun ls hl => ?_)
    refine lv_goto (pc := 68) (tgt := 42) hx hb dX9_draw_68 (by decide) ?_
    exact hL _ (Option.some.inj hf).symm _ _ _ hI (lv_sub hl [2, 3, 1, 0] rfl)
  refine lv_iconst (pc := 58) (v := 1) hx hb dX9_draw_58 (by decide) ?_
  refine lv_goto (pc := 59) (tgt := 63) hx hb dX9_draw_59 (by decide) ?_
  refine lv_iadd (pc := 63) hx hb dX9_draw_63 ?_
  refine z_bi hf (fun v8 hf => ?_)
  refine lv_istore_n (pc := 64) (lv' := [(2, .int v8), (0, .ref (ad 0)), (1, .int p1), (3, .int a.2.1)]) hx hb dX9_draw_64 rfl hl (by decide) rfl (fun ls hl => ?_)
  refine lv_iinc (pc := 65) (v := (a.2.1 + 1)) (lv' := [(3, .int (a.2.1 + 1)), (2, .int v8), (0, .ref (ad 0)), (1, .int p1)]) hx hb dX9_draw_65 hl (k := 3) rfl rfl (by decide) rfl (fun ls hl => ?_)
  refine lv_goto (pc := 68) (tgt := 42) hx hb dX9_draw_68 (by decide) ?_
  exact hL _ (Option.some.inj hf).symm _ _ _ hI (lv_sub hl [2, 3, 1, 0] rfl)
set_option maxHeartbeats 4000000 in
set_option maxRecDepth 100000 in
theorem kX9_draw (l : Launch) (D : va_G) (ad : Nat → Nat) (cy : Nat → ClassId) (k : Nat) (a1 : Int32) (u : CX) (r : Int32) (u' : CX) (hf : fX9_draw k a1 u = some (r, u')) : zCt l yX9_draw wsX9_draw ({ frames := 3, cells := 0, slots := 0, locals := 71 } : Room) D ad cy [.ref (ad 0), .int a1] (WX ad cy u) (some (.int r)) (WX ad cy u') := by
  refine zCt.of (cc := cX9_draw) (maxL := 4) (ret := (some .int)) (own := RX9) (by decide) rfl rfl ?_
  intro p e s m below meth c A C0 hI
  obtain ⟨hx, hb, hml, hown, hts, hr, hlk⟩ := id C0
  refine z_entry (Nat.le_of_ble_eq_true rfl) (fun ls hl => ?_)
  have hl : lv_has ls 4 [(0, .ref (ad 0)), (1, .int a1)] := hl
  unfold fX9_draw at hf
  refine lv_iload_n (pc := 0) hx hb dX9_draw_0 rfl (lv_at hl 1 rfl) ?_
  refine lv_iconst (pc := 1) (v := 1) hx hb dX9_draw_1 (by decide) ?_
  refine z_icmp_lt (pc := 2) (tgt := 11) hx hb dX9_draw_2 (by decide) hf (fun hf => ?_) (fun hf => ?_)
  · refine lv_iconst (pc := 11) (v := -1) hx hb dX9_draw_11 (by decide) ?_
    obtain ⟨rfl, rfl⟩ := zpair hf
    exact z_iret (pc := 12) C0 hI dX9_draw_12
  refine lv_iload_n (pc := 5) hx hb dX9_draw_5 rfl (lv_at hl 1 rfl) ?_
  refine lv_bipush (pc := 6) (v := 99) hx hb dX9_draw_6 (by decide) ?_
  refine z_icmp_le (pc := 8) (tgt := 13) hx hb dX9_draw_8 (by decide) hf (fun hf => ?_) (fun hf => ?_)
  · refine lv_aload_n (pc := 13) hx hb dX9_draw_13 rfl (lv_at hl 0 rfl) ?_
    refine z_get (pc := 14) (index := 35) hx hb hts iwX9_draw_9 hown hI (xl_0 ad cy u) rfl 3 (by decide) (by decide +kernel) rfl rfl dX9_draw_14 ?_
    obtain ⟨q2, hc1, hf⟩ := zbind hf
    refine zcallVi (pc := 17) (As := []) (rest := []) ⟨hx, hb, hml, hown, hts⟩ (kX3_sorties l D ad cy u q2 hc1) (cwV 0 hts gX9_draw_X3_sorties rfl rfl rfl (by decide +kernel) ⟨Nat.le_of_ble_eq_true rfl, Nat.le_of_ble_eq_true rfl⟩) hI rfl (xl_12 ad cy u) rfl hl.1 rfl (Nat.le_of_ble_eq_true rfl) dX9_draw_17 (Nat.zero_le _) (Nat.zero_le _) (fun H locs hI => ?_)
    refine lv_iload_n (pc := 20) hx hb dX9_draw_20 rfl (lv_at hl 1 rfl) ?_
    refine lv_iadd (pc := 21) hx hb dX9_draw_21 ?_
    refine lv_sipush (pc := 22) (v := 999) hx hb dX9_draw_22 (by decide) ?_
    refine z_icmp_le (pc := 25) (tgt := 31) hx hb dX9_draw_25 (by decide) hf (fun hf => ?_) (fun hf => ?_)
    · refine lv_aload_n (pc := 31) hx hb dX9_draw_31 rfl (lv_at hl 0 rfl) ?_
      refine z_get (pc := 32) (index := 35) hx hb hts iwX9_draw_9 hown hI (xl_0 ad cy u) rfl 3 (by decide) (by decide +kernel) rfl rfl dX9_draw_32 ?_
      obtain ⟨q4, hc3, hf⟩ := zbind hf
      refine zcallVv (pc := 35) (As := []) (rest := []) ⟨hx, hb, hml, hown, hts⟩ (kX3_beginAct l D ad cy k u q4 hc3) (cwV 0 hts gX9_draw_X3_beginAct rfl rfl rfl (by decide +kernel) ⟨Nat.le_of_ble_eq_true rfl, Nat.le_of_ble_eq_true rfl⟩) hI rfl (xl_12 ad cy u) rfl hl.1 rfl (Nat.le_of_ble_eq_true rfl) dX9_draw_35 (Nat.zero_le _) (Nat.zero_le _) (fun H locs hI => ?_)
      refine lv_iconst (pc := 38) (v := 0) hx hb dX9_draw_38 (by decide) ?_
      refine lv_istore_n (pc := 39) (lv' := [(2, .int (0 : Int32)), (0, .ref (ad 0)), (1, .int a1)]) hx hb dX9_draw_39 rfl hl (by decide) rfl (fun ls hl => ?_)
      refine lv_iconst (pc := 40) (v := 0) hx hb dX9_draw_40 (by decide) ?_
      refine lv_istore_n (pc := 41) (lv' := [(3, .int (0 : Int32)), (2, .int (0 : Int32)), (0, .ref (ad 0)), (1, .int a1)]) hx hb dX9_draw_41 rfl hl (by decide) rfl (fun ls hl => ?_)
      obtain ⟨b9, hb10, hf⟩ := zbind hf
      refine lX9_draw_42 C0 hb10 ?_ _ _ _ hI (lv_sub hl [2, 3, 1, 0] rfl)
      intro H locs ls hI hl
      refine lv_aload_n (pc := 71) hx hb dX9_draw_71 rfl (lv_at hl 0 rfl) ?_
      refine z_get (pc := 72) (index := 51) hx hb hts iwX9_draw_9 hown hI (xl_0 ad cy b9.2) rfl 5 (by decide) (by decide +kernel) rfl rfl dX9_draw_72 ?_
      obtain ⟨q12, hc11, hf⟩ := zbind hf
      refine zcallVv (pc := 75) (As := []) (rest := []) ⟨hx, hb, hml, hown, hts⟩ (kX2_forget l D ad cy b9.2 q12 hc11) (cwV 0 hts gX9_draw_X2_forget rfl rfl rfl (by decide +kernel) ⟨Nat.le_of_ble_eq_true rfl, Nat.le_of_ble_eq_true rfl⟩) hI rfl (xl_27 ad cy b9.2) rfl hl.1 rfl (Nat.le_of_ble_eq_true rfl) dX9_draw_75 (Nat.zero_le _) (Nat.zero_le _) (fun H locs hI => ?_)
      refine lv_iload_n (pc := 78) hx hb dX9_draw_78 rfl (lv_at hl 1 rfl) ?_
      obtain ⟨rfl, rfl⟩ := zpair hf
      exact z_iret (pc := 79) C0 hI dX9_draw_79
    refine lv_bipush (pc := 28) (v := -3) hx hb dX9_draw_28 (by decide) ?_
    obtain ⟨rfl, rfl⟩ := zpair hf
    exact z_iret (pc := 30) C0 hI dX9_draw_30
  refine lv_iconst (pc := 11) (v := -1) hx hb dX9_draw_11 (by decide) ?_
  obtain ⟨rfl, rfl⟩ := zpair hf
  exact z_iret (pc := 12) C0 hI dX9_draw_12
set_option maxHeartbeats 4000000 in
set_option maxRecDepth 100000 in
theorem kX9_seed (l : Launch) (D : va_G) (ad : Nat → Nat) (cy : Nat → ClassId) (a1 : Int32) (u : CX) (r : Int32) (u' : CX) (hf : fX9_seed a1 u = some (r, u')) : zCt l yX9_seed wsX9_seed ({ frames := 0, cells := 0, slots := 0, locals := 0 } : Room) D ad cy [.ref (ad 0), .int a1] (WX ad cy u) (some (.int r)) (WX ad cy u') := by
  refine zCt.of (cc := cX9_seed) (maxL := 3) (ret := (some .int)) (own := RX9) (by decide) rfl rfl ?_
  intro p e s m below meth c A C0 hI
  obtain ⟨hx, hb, hml, hown, hts, hr, hlk⟩ := id C0
  refine z_entry (Nat.le_of_ble_eq_true rfl) (fun ls hl => ?_)
  have hl : lv_has ls 3 [(0, .ref (ad 0)), (1, .int a1)] := hl
  unfold fX9_seed at hf
  refine lv_aload_n (pc := 0) hx hb dX9_seed_0 rfl (lv_at hl 0 rfl) ?_
  refine z_get (pc := 1) (index := 69) hx hb hts iwX9_seed_9 hown hI (xl_0 ad cy u) rfl 7 (by decide) (by decide +kernel) rfl rfl dX9_seed_1 ?_
  refine z_get (pc := 4) (index := 148) hx hb hts iwX9_seed_1 hown hI (xl_36 ad cy u) rfl 3 (by decide) (by decide +kernel) rfl rfl dX9_seed_4 ?_
  refine z_bi hf (fun v1 hf => ?_)
  refine lv_istore_n (pc := 7) (lv' := [(2, .int v1), (0, .ref (ad 0)), (1, .int a1)]) hx hb dX9_seed_7 rfl hl (by decide) rfl (fun ls hl => ?_)
  refine lv_aload_n (pc := 8) hx hb dX9_seed_8 rfl (lv_at hl 1 rfl) ?_
  refine z_get (pc := 9) (index := 69) hx hb hts iwX9_seed_9 hown hI (xl_0 ad cy u) rfl 7 (by decide) (by decide +kernel) rfl rfl dX9_seed_9 ?_
  refine lv_iload_n (pc := 12) hx hb dX9_seed_12 rfl (lv_at hl 2 rfl) ?_
  refine z_put (wf := WX ad cy) (pc := 13) (index := 148) hx hb hts iwX9_seed_1 tyX1 tyX1_ok nmX1 hown hI (xl_36 ad cy u) rfl 3 (by decide) (by decide +kernel) rfl rfl rfl rfl (Nat.le_of_ble_eq_true rfl) dX9_seed_13 (xw_seed ad cy u a1) hf (fun u2 H locs hI hf => ?_)
  refine lv_iload_n (pc := 16) hx hb dX9_seed_16 rfl (lv_at hl 0 rfl) ?_
  obtain ⟨rfl, rfl⟩ := zpair hf
  exact z_iret (pc := 17) C0 hI dX9_seed_17
set_option maxHeartbeats 4000000 in
set_option maxRecDepth 100000 in
theorem kX9_wreck (l : Launch) (D : va_G) (ad : Nat → Nat) (cy : Nat → ClassId) (a1 : Int32) (a2 : Int32) (u : CX) (r : Int32) (u' : CX) (hf : fX9_wreck a1 a2 u = some (r, u')) : zCt l yX9_wreck wsX9_wreck ({ frames := 1, cells := 0, slots := 0, locals := 20 } : Room) D ad cy [.ref (ad 0), .int a1, .int a2] (WX ad cy u) (some (.int r)) (WX ad cy u') := by
  refine zCt.of (cc := cX9_wreck) (maxL := 4) (ret := (some .int)) (own := RX9) (by decide) rfl rfl ?_
  intro p e s m below meth c A C0 hI
  obtain ⟨hx, hb, hml, hown, hts, hr, hlk⟩ := id C0
  refine z_entry (Nat.le_of_ble_eq_true rfl) (fun ls hl => ?_)
  have hl : lv_has ls 4 [(0, .ref (ad 0)), (1, .int a1), (2, .int a2)] := hl
  unfold fX9_wreck at hf
  refine lv_iload_n (pc := 0) hx hb dX9_wreck_0 rfl (lv_at hl 1 rfl) ?_
  obtain ⟨q2, hc1, hf⟩ := zbind hf
  refine zcallSi (pc := 1) (As := [.int a1]) (rest := []) ⟨hx, hb, hml, hown, hts⟩ (kX9_isPart l a1 q2 hc1) (va_cwS 1 hts gX9_wreck_X9_isPart rfl rfl rfl (by decide +kernel) ⟨Nat.le_of_ble_eq_true rfl, Nat.le_of_ble_eq_true rfl⟩) rfl hl.1 rfl (Nat.le_of_ble_eq_true rfl) dX9_wreck_1 (Nat.zero_le _) (Nat.zero_le _) ?_
  refine z_if_ne (pc := 4) (tgt := 9) hx hb dX9_wreck_4 (by decide) hf (fun hf => ?_) (fun hf => ?_)
  · refine lv_aload_n (pc := 9) hx hb dX9_wreck_9 rfl (lv_at hl 0 rfl) ?_
    refine z_get (pc := 10) (index := 42) hx hb hts iwX9_wreck_9 hown hI (xl_0 ad cy u) rfl 4 (by decide) (by decide +kernel) rfl rfl dX9_wreck_10 ?_
    refine z_get (pc := 13) (index := 151) hx hb hts iwX9_wreck_0 hown hI (xl_23 ad cy u) rfl 0 (by decide) (by decide +kernel) rfl rfl dX9_wreck_13 ?_
    refine lv_iload_n (pc := 16) hx hb dX9_wreck_16 rfl (lv_at hl 1 rfl) ?_
    refine z_zald (pc := 17) hx hb hI (xl_24 ad cy u) 3 rfl dX9_wreck_17 hf (fun v3 hf => ?_)
    refine z_if_eq (pc := 18) (tgt := 25) hx hb dX9_wreck_18 (by decide) hf (fun hf => ?_) (fun hf => ?_)
    · refine lv_iconst (pc := 25) (v := 0) hx hb dX9_wreck_25 (by decide) ?_
      refine lv_istore_n (pc := 26) (lv' := [(3, .int (0 : Int32)), (0, .ref (ad 0)), (1, .int a1), (2, .int a2)]) hx hb dX9_wreck_26 rfl hl (by decide) rfl (fun ls hl => ?_)
      refine lv_aload_n (pc := 27) hx hb dX9_wreck_27 rfl (lv_at hl 1 rfl) ?_
      refine z_get (pc := 28) (index := 42) hx hb hts iwX9_wreck_9 hown hI (xl_0 ad cy u) rfl 4 (by decide) (by decide +kernel) rfl rfl dX9_wreck_28 ?_
      refine z_get (pc := 31) (index := 151) hx hb hts iwX9_wreck_0 hown hI (xl_23 ad cy u) rfl 0 (by decide) (by decide +kernel) rfl rfl dX9_wreck_31 ?_
      refine lv_iload_n (pc := 34) hx hb dX9_wreck_34 rfl (lv_at hl 2 rfl) ?_
      refine lv_iload_n (pc := 35) hx hb dX9_wreck_35 rfl (lv_at hl 3 rfl) ?_
      refine z_zast (wf := WX ad cy) (pc := 36) hx hb hI (xl_24 ad cy u) 3 rfl dX9_wreck_36 (fun j => xw_wrecks ad cy u (upd (xg_wrecks u) j (vp_nar .boolean a2))) hf (fun j4 u5 H locs hj4 hI hf => ?_)
      refine lv_aload_n (pc := 37) hx hb dX9_wreck_37 rfl (lv_at hl 1 rfl) ?_
      refine z_get (pc := 38) (index := 51) hx hb hts iwX9_wreck_9 hown hI (xl_0 ad cy u5) rfl 5 (by decide) (by decide +kernel) rfl rfl dX9_wreck_38 ?_
      obtain ⟨q7, hc6, hf⟩ := zbind hf
      refine zcallVv (pc := 41) (As := []) (rest := []) ⟨hx, hb, hml, hown, hts⟩ (kX2_forget l D ad cy u5 q7 hc6) (cwV 0 hts gX9_wreck_X2_forget rfl rfl rfl (by decide +kernel) ⟨Nat.le_of_ble_eq_true rfl, Nat.le_of_ble_eq_true rfl⟩) hI rfl (xl_27 ad cy u5) rfl hl.1 rfl (Nat.le_of_ble_eq_true rfl) dX9_wreck_41 (Nat.zero_le _) (Nat.zero_le _) (fun H locs hI => ?_)
      refine lv_iload_n (pc := 44) hx hb dX9_wreck_44 rfl (lv_at hl 0 rfl) ?_
      obtain ⟨rfl, rfl⟩ := zpair hf
      exact z_iret (pc := 45) C0 hI dX9_wreck_45
    refine lv_iconst (pc := 21) (v := 1) hx hb dX9_wreck_21 (by decide) ?_
    refine lv_goto (pc := 22) (tgt := 26) hx hb dX9_wreck_22 (by decide) ?_
    refine lv_istore_n (pc := 26) (lv' := [(3, .int (1 : Int32)), (0, .ref (ad 0)), (1, .int a1), (2, .int a2)]) hx hb dX9_wreck_26 rfl hl (by decide) rfl (fun ls hl => ?_)
    refine lv_aload_n (pc := 27) hx hb dX9_wreck_27 rfl (lv_at hl 1 rfl) ?_
    refine z_get (pc := 28) (index := 42) hx hb hts iwX9_wreck_9 hown hI (xl_0 ad cy u) rfl 4 (by decide) (by decide +kernel) rfl rfl dX9_wreck_28 ?_
    refine z_get (pc := 31) (index := 151) hx hb hts iwX9_wreck_0 hown hI (xl_23 ad cy u) rfl 0 (by decide) (by decide +kernel) rfl rfl dX9_wreck_31 ?_
    refine lv_iload_n (pc := 34) hx hb dX9_wreck_34 rfl (lv_at hl 2 rfl) ?_
    refine lv_iload_n (pc := 35) hx hb dX9_wreck_35 rfl (lv_at hl 3 rfl) ?_
    refine z_zast (wf := WX ad cy) (pc := 36) hx hb hI (xl_24 ad cy u) 3 rfl dX9_wreck_36 (fun j => xw_wrecks ad cy u (upd (xg_wrecks u) j (vp_nar .boolean a2))) hf (fun j8 u9 H locs hj8 hI hf => ?_)
    refine lv_aload_n (pc := 37) hx hb dX9_wreck_37 rfl (lv_at hl 1 rfl) ?_
    refine z_get (pc := 38) (index := 51) hx hb hts iwX9_wreck_9 hown hI (xl_0 ad cy u9) rfl 5 (by decide) (by decide +kernel) rfl rfl dX9_wreck_38 ?_
    obtain ⟨q11, hc10, hf⟩ := zbind hf
    refine zcallVv (pc := 41) (As := []) (rest := []) ⟨hx, hb, hml, hown, hts⟩ (kX2_forget l D ad cy u9 q11 hc10) (cwV 0 hts gX9_wreck_X2_forget rfl rfl rfl (by decide +kernel) ⟨Nat.le_of_ble_eq_true rfl, Nat.le_of_ble_eq_true rfl⟩) hI rfl (xl_27 ad cy u9) rfl hl.1 rfl (Nat.le_of_ble_eq_true rfl) dX9_wreck_41 (Nat.zero_le _) (Nat.zero_le _) (fun H locs hI => ?_)
    refine lv_iload_n (pc := 44) hx hb dX9_wreck_44 rfl (lv_at hl 0 rfl) ?_
    obtain ⟨rfl, rfl⟩ := zpair hf
    exact z_iret (pc := 45) C0 hI dX9_wreck_45
  refine lv_iconst (pc := 7) (v := -1) hx hb dX9_wreck_7 (by decide) ?_
  obtain ⟨rfl, rfl⟩ := zpair hf
  exact z_iret (pc := 8) C0 hI dX9_wreck_8
set_option maxHeartbeats 4000000 in
set_option maxRecDepth 100000 in
theorem kX9_ground (l : Launch) (D : va_G) (ad : Nat → Nat) (cy : Nat → ClassId) (a1 : Int32) (a2 : Int32) (a3 : Int32) (u : CX) (r : Int32) (u' : CX) (hf : fX9_ground a1 a2 a3 u = some (r, u')) : zCt l yX9_ground wsX9_ground ({ frames := 1, cells := 0, slots := 0, locals := 20 } : Room) D ad cy [.ref (ad 0), .int a1, .int a2, .int a3] (WX ad cy u) (some (.int r)) (WX ad cy u') := by
  refine zCt.of (cc := cX9_ground) (maxL := 5) (ret := (some .int)) (own := RX9) (by decide) rfl rfl ?_
  intro p e s m below meth c A C0 hI
  obtain ⟨hx, hb, hml, hown, hts, hr, hlk⟩ := id C0
  refine z_entry (Nat.le_of_ble_eq_true rfl) (fun ls hl => ?_)
  have hl : lv_has ls 5 [(0, .ref (ad 0)), (1, .int a1), (2, .int a2), (3, .int a3)] := hl
  unfold fX9_ground at hf
  refine lv_iload_n (pc := 0) hx hb dX9_ground_0 rfl (lv_at hl 1 rfl) ?_
  obtain ⟨q2, hc1, hf⟩ := zbind hf
  refine zcallSi (pc := 1) (As := [.int a1]) (rest := []) ⟨hx, hb, hml, hown, hts⟩ (kX9_isPart l a1 q2 hc1) (va_cwS 1 hts gX9_ground_X9_isPart rfl rfl rfl (by decide +kernel) ⟨Nat.le_of_ble_eq_true rfl, Nat.le_of_ble_eq_true rfl⟩) rfl hl.1 rfl (Nat.le_of_ble_eq_true rfl) dX9_ground_1 (Nat.zero_le _) (Nat.zero_le _) ?_
  refine z_if_eq (pc := 4) (tgt := 26) hx hb dX9_ground_4 (by decide) hf (fun hf => ?_) (fun hf => ?_)
  · refine lv_iconst (pc := 26) (v := -1) hx hb dX9_ground_26 (by decide) ?_
    obtain ⟨rfl, rfl⟩ := zpair hf
    exact z_iret (pc := 27) C0 hI dX9_ground_27
  refine lv_iload_n (pc := 7) hx hb dX9_ground_7 rfl (lv_at hl 2 rfl) ?_
  refine z_if_lt (pc := 8) (tgt := 26) hx hb dX9_ground_8 (by decide) hf (fun hf => ?_) (fun hf => ?_)
  · refine lv_iconst (pc := 26) (v := -1) hx hb dX9_ground_26 (by decide) ?_
    obtain ⟨rfl, rfl⟩ := zpair hf
    exact z_iret (pc := 27) C0 hI dX9_ground_27
  refine lv_iload_n (pc := 11) hx hb dX9_ground_11 rfl (lv_at hl 2 rfl) ?_
  refine lv_bipush (pc := 12) (v := 20) hx hb dX9_ground_12 (by decide) ?_
  refine z_icmp_gt (pc := 14) (tgt := 26) hx hb dX9_ground_14 (by decide) hf (fun hf => ?_) (fun hf => ?_)
  · refine lv_iconst (pc := 26) (v := -1) hx hb dX9_ground_26 (by decide) ?_
    obtain ⟨rfl, rfl⟩ := zpair hf
    exact z_iret (pc := 27) C0 hI dX9_ground_27
  refine lv_iload_n (pc := 17) hx hb dX9_ground_17 rfl (lv_at hl 3 rfl) ?_
  refine z_if_lt (pc := 18) (tgt := 26) hx hb dX9_ground_18 (by decide) hf (fun hf => ?_) (fun hf => ?_)
  · refine lv_iconst (pc := 26) (v := -1) hx hb dX9_ground_26 (by decide) ?_
    obtain ⟨rfl, rfl⟩ := zpair hf
    exact z_iret (pc := 27) C0 hI dX9_ground_27
  refine lv_iload_n (pc := 21) hx hb dX9_ground_21 rfl (lv_at hl 3 rfl) ?_
  refine lv_iload_n (pc := 22) hx hb dX9_ground_22 rfl (lv_at hl 2 rfl) ?_
  refine z_icmp_le (pc := 23) (tgt := 28) hx hb dX9_ground_23 (by decide) hf (fun hf => ?_) (fun hf => ?_)
  · refine lv_aload_n (pc := 28) hx hb dX9_ground_28 rfl (lv_at hl 0 rfl) ?_
    refine z_get (pc := 29) (index := 42) hx hb hts iwX9_ground_9 hown hI (xl_0 ad cy u) rfl 4 (by decide) (by decide +kernel) rfl rfl dX9_ground_29 ?_
    refine z_get (pc := 32) (index := 155) hx hb hts iwX9_ground_0 hown hI (xl_23 ad cy u) rfl 1 (by decide) (by decide +kernel) rfl rfl dX9_ground_32 ?_
    refine lv_iload_n (pc := 35) hx hb dX9_ground_35 rfl (lv_at hl 1 rfl) ?_
    refine z_iald (pc := 36) hx hb hI (xl_25 ad cy u) 0 rfl dX9_ground_36 hf (fun v3 hf => ?_)
    refine lv_istore (pc := 37) (lv' := [(4, .int v3), (0, .ref (ad 0)), (1, .int a1), (2, .int a2), (3, .int a3)]) hx hb dX9_ground_37 hl (by decide) rfl (fun ls hl => ?_)
    refine lv_aload_n (pc := 39) hx hb dX9_ground_39 rfl (lv_at hl 1 rfl) ?_
    refine z_get (pc := 40) (index := 42) hx hb hts iwX9_ground_9 hown hI (xl_0 ad cy u) rfl 4 (by decide) (by decide +kernel) rfl rfl dX9_ground_40 ?_
    refine z_get (pc := 43) (index := 155) hx hb hts iwX9_ground_0 hown hI (xl_23 ad cy u) rfl 1 (by decide) (by decide +kernel) rfl rfl dX9_ground_43 ?_
    refine lv_iload_n (pc := 46) hx hb dX9_ground_46 rfl (lv_at hl 2 rfl) ?_
    refine lv_iload_n (pc := 47) hx hb dX9_ground_47 rfl (lv_at hl 3 rfl) ?_
    refine z_iast (wf := WX ad cy) (pc := 48) hx hb hI (xl_25 ad cy u) 0 rfl dX9_ground_48 (fun j => xw_shots ad cy u (upd (xg_shots u) j a2)) hf (fun j4 u5 H locs hj4 hI hf => ?_)
    refine lv_aload_n (pc := 49) hx hb dX9_ground_49 rfl (lv_at hl 1 rfl) ?_
    refine z_get (pc := 50) (index := 42) hx hb hts iwX9_ground_9 hown hI (xl_0 ad cy u5) rfl 4 (by decide) (by decide +kernel) rfl rfl dX9_ground_50 ?_
    refine z_get (pc := 53) (index := 158) hx hb hts iwX9_ground_0 hown hI (xl_23 ad cy u5) rfl 2 (by decide) (by decide +kernel) rfl rfl dX9_ground_53 ?_
    refine lv_iload_n (pc := 56) hx hb dX9_ground_56 rfl (lv_at hl 2 rfl) ?_
    refine lv_iload_n (pc := 57) hx hb dX9_ground_57 rfl (lv_at hl 4 rfl) ?_
    refine z_iast (wf := WX ad cy) (pc := 58) hx hb hI (xl_26 ad cy u5) 0 rfl dX9_ground_58 (fun j => xw_downs ad cy u5 (upd (xg_downs u5) j a3)) hf (fun j6 u7 H locs hj6 hI hf => ?_)
    refine lv_aload_n (pc := 59) hx hb dX9_ground_59 rfl (lv_at hl 1 rfl) ?_
    refine z_get (pc := 60) (index := 51) hx hb hts iwX9_ground_9 hown hI (xl_0 ad cy u7) rfl 5 (by decide) (by decide +kernel) rfl rfl dX9_ground_60 ?_
    obtain ⟨q9, hc8, hf⟩ := zbind hf
    refine zcallVv (pc := 63) (As := []) (rest := []) ⟨hx, hb, hml, hown, hts⟩ (kX2_forget l D ad cy u7 q9 hc8) (cwV 0 hts gX9_ground_X2_forget rfl rfl rfl (by decide +kernel) ⟨Nat.le_of_ble_eq_true rfl, Nat.le_of_ble_eq_true rfl⟩) hI rfl (xl_27 ad cy u7) rfl hl.1 rfl (Nat.le_of_ble_eq_true rfl) dX9_ground_63 (Nat.zero_le _) (Nat.zero_le _) (fun H locs hI => ?_)
    refine lv_iload (pc := 66) hx hb dX9_ground_66 (lv_at hl 0 rfl) ?_
    obtain ⟨rfl, rfl⟩ := zpair hf
    exact z_iret (pc := 68) C0 hI dX9_ground_68
  refine lv_iconst (pc := 26) (v := -1) hx hb dX9_ground_26 (by decide) ?_
  obtain ⟨rfl, rfl⟩ := zpair hf
  exact z_iret (pc := 27) C0 hI dX9_ground_27
set_option maxHeartbeats 4000000 in
set_option maxRecDepth 100000 in
theorem kX9_known (l : Launch) (D : va_G) (ad : Nat → Nat) (cy : Nat → ClassId) (a1 : Int32) (u : CX) (r : Int32) (hf : fX9_known a1 u = some r) : zCt l yX9_known wsX9_known ({ frames := 2, cells := 0, slots := 0, locals := 41 } : Room) D ad cy [.ref (ad 0), .int a1] (WX ad cy u) (some (.int r)) (WX ad cy u) := by
  refine zCt.of (cc := cX9_known) (maxL := 2) (ret := (some .int)) (own := RX9) (by decide) rfl rfl ?_
  intro p e s m below meth c A C0 hI
  obtain ⟨hx, hb, hml, hown, hts, hr, hlk⟩ := id C0
  refine z_entry (Nat.le_of_ble_eq_true rfl) (fun ls hl => ?_)
  have hl : lv_has ls 2 [(0, .ref (ad 0)), (1, .int a1)] := hl
  unfold fX9_known at hf
  refine lv_iload_n (pc := 0) hx hb dX9_known_0 rfl (lv_at hl 1 rfl) ?_
  refine z_if_lt (pc := 1) (tgt := 10) hx hb dX9_known_1 (by decide) hf (fun hf => ?_) (fun hf => ?_)
  · refine lv_iconst (pc := 10) (v := -1) hx hb dX9_known_10 (by decide) ?_
    obtain rfl := zone hf
    exact z_iret (pc := 11) C0 hI dX9_known_11
  refine lv_iload_n (pc := 4) hx hb dX9_known_4 rfl (lv_at hl 1 rfl) ?_
  refine lv_bipush (pc := 5) (v := 9) hx hb dX9_known_5 (by decide) ?_
  refine z_icmp_le (pc := 7) (tgt := 12) hx hb dX9_known_7 (by decide) hf (fun hf => ?_) (fun hf => ?_)
  · refine lv_iload_n (pc := 12) hx hb dX9_known_12 rfl (lv_at hl 1 rfl) ?_
    refine lv_bipush (pc := 13) (v := 9) hx hb dX9_known_13 (by decide) ?_
    refine z_icmp_ne (pc := 15) (tgt := 36) hx hb dX9_known_15 (by decide) hf (fun hf => ?_) (fun hf => ?_)
    · refine lv_aload_n (pc := 36) hx hb dX9_known_36 rfl (lv_at hl 0 rfl) ?_
      refine z_get (pc := 37) (index := 35) hx hb hts iwX9_known_9 hown hI (xl_0 ad cy u) rfl 3 (by decide) (by decide +kernel) rfl rfl dX9_known_37 ?_
      refine z_get (pc := 40) (index := 164) hx hb hts iwX9_known_3 hown hI (xl_12 ad cy u) rfl 0 (by decide) (by decide +kernel) rfl rfl dX9_known_40 ?_
      refine lv_iload_n (pc := 43) hx hb dX9_known_43 rfl (lv_at hl 1 rfl) ?_
      refine z_iald (pc := 44) hx hb hI (xl_13 ad cy u) 0 rfl dX9_known_44 hf (fun v1 hf => ?_)
      obtain rfl := zone hf
      exact z_iret (pc := 45) C0 hI dX9_known_45
    refine lv_aload_n (pc := 18) hx hb dX9_known_18 rfl (lv_at hl 0 rfl) ?_
    refine z_get (pc := 19) (index := 35) hx hb hts iwX9_known_9 hown hI (xl_0 ad cy u) rfl 3 (by decide) (by decide +kernel) rfl rfl dX9_known_19 ?_
    obtain ⟨q3, hc2, hf⟩ := zbind hf
    refine zcallVi (pc := 22) (As := []) (rest := []) ⟨hx, hb, hml, hown, hts⟩ (kX3_sorties l D ad cy u q3 hc2) (cwV 0 hts gX9_known_X3_sorties rfl rfl rfl (by decide +kernel) ⟨Nat.le_of_ble_eq_true rfl, Nat.le_of_ble_eq_true rfl⟩) hI rfl (xl_12 ad cy u) rfl hl.1 rfl (Nat.le_of_ble_eq_true rfl) dX9_known_22 (Nat.zero_le _) (Nat.zero_le _) (fun H locs hI => ?_)
    refine lv_aload_n (pc := 25) hx hb dX9_known_25 rfl (lv_at hl 0 rfl) ?_
    refine z_get (pc := 26) (index := 35) hx hb hts iwX9_known_9 hown hI (xl_0 ad cy u) rfl 3 (by decide) (by decide +kernel) rfl rfl dX9_known_26 ?_
    obtain ⟨q5, hc4, hf⟩ := zbind hf
    refine zcallVi (pc := 29) (As := []) (rest := [.int q3]) ⟨hx, hb, hml, hown, hts⟩ (kX3_allHomes l D ad cy u q5 hc4) (cwV 0 hts gX9_known_X3_allHomes rfl rfl rfl (by decide +kernel) ⟨Nat.le_of_ble_eq_true rfl, Nat.le_of_ble_eq_true rfl⟩) hI rfl (xl_12 ad cy u) rfl hl.1 rfl (Nat.le_of_ble_eq_true rfl) dX9_known_29 (Nat.zero_le _) (Nat.zero_le _) (fun H locs hI => ?_)
    refine lv_isub (pc := 32) hx hb dX9_known_32 ?_
    refine lv_goto (pc := 33) (tgt := 45) hx hb dX9_known_33 (by decide) ?_
    obtain rfl := zone hf
    exact z_iret (pc := 45) C0 hI dX9_known_45
  refine lv_iconst (pc := 10) (v := -1) hx hb dX9_known_10 (by decide) ?_
  obtain rfl := zone hf
  exact z_iret (pc := 11) C0 hI dX9_known_11
set_option maxHeartbeats 4000000 in
set_option maxRecDepth 100000 in
theorem kX9_undo (l : Launch) (D : va_G) (ad : Nat → Nat) (cy : Nat → ClassId) (k : Nat) (u : CX) (r : Int32) (u' : CX) (hf : fX9_undo k u = some (r, u')) : zCt l yX9_undo wsX9_undo ({ frames := 1, cells := 0, slots := 0, locals := 21 } : Room) D ad cy [.ref (ad 0)] (WX ad cy u) (some (.int r)) (WX ad cy u') := by
  refine zCt.of (cc := cX9_undo) (maxL := 1) (ret := (some .int)) (own := RX9) (by decide) rfl rfl ?_
  intro p e s m below meth c A C0 hI
  obtain ⟨hx, hb, hml, hown, hts, hr, hlk⟩ := id C0
  refine z_entry (Nat.le_of_ble_eq_true rfl) (fun ls hl => ?_)
  have hl : lv_has ls 1 [(0, .ref (ad 0))] := hl
  unfold fX9_undo at hf
  refine lv_aload_n (pc := 0) hx hb dX9_undo_0 rfl (lv_at hl 0 rfl) ?_
  refine z_get (pc := 1) (index := 35) hx hb hts iwX9_undo_9 hown hI (xl_0 ad cy u) rfl 3 (by decide) (by decide +kernel) rfl rfl dX9_undo_1 ?_
  refine z_get (pc := 4) (index := 167) hx hb hts iwX9_undo_3 hown hI (xl_12 ad cy u) rfl 3 (by decide) (by decide +kernel) rfl rfl dX9_undo_4 ?_
  refine z_if_ne (pc := 7) (tgt := 13) hx hb dX9_undo_7 (by decide) hf (fun hf => ?_) (fun hf => ?_)
  · refine lv_aload_n (pc := 13) hx hb dX9_undo_13 rfl (lv_at hl 0 rfl) ?_
    refine z_get (pc := 14) (index := 35) hx hb hts iwX9_undo_9 hown hI (xl_0 ad cy u) rfl 3 (by decide) (by decide +kernel) rfl rfl dX9_undo_14 ?_
    obtain ⟨q2, hc1, hf⟩ := zbind hf
    refine zcallVv (pc := 17) (As := []) (rest := []) ⟨hx, hb, hml, hown, hts⟩ (kX3_takeBack l D ad cy k u q2 hc1) (cwV 0 hts gX9_undo_X3_takeBack rfl rfl rfl (by decide +kernel) ⟨Nat.le_of_ble_eq_true rfl, Nat.le_of_ble_eq_true rfl⟩) hI rfl (xl_12 ad cy u) rfl hl.1 rfl (Nat.le_of_ble_eq_true rfl) dX9_undo_17 (Nat.zero_le _) (Nat.zero_le _) (fun H locs hI => ?_)
    refine lv_aload_n (pc := 20) hx hb dX9_undo_20 rfl (lv_at hl 0 rfl) ?_
    refine z_get (pc := 21) (index := 51) hx hb hts iwX9_undo_9 hown hI (xl_0 ad cy q2) rfl 5 (by decide) (by decide +kernel) rfl rfl dX9_undo_21 ?_
    obtain ⟨q4, hc3, hf⟩ := zbind hf
    refine zcallVv (pc := 24) (As := []) (rest := []) ⟨hx, hb, hml, hown, hts⟩ (kX2_forget l D ad cy q2 q4 hc3) (cwV 0 hts gX9_undo_X2_forget rfl rfl rfl (by decide +kernel) ⟨Nat.le_of_ble_eq_true rfl, Nat.le_of_ble_eq_true rfl⟩) hI rfl (xl_27 ad cy q2) rfl hl.1 rfl (Nat.le_of_ble_eq_true rfl) dX9_undo_24 (Nat.zero_le _) (Nat.zero_le _) (fun H locs hI => ?_)
    refine lv_aload_n (pc := 27) hx hb dX9_undo_27 rfl (lv_at hl 0 rfl) ?_
    refine z_get (pc := 28) (index := 35) hx hb hts iwX9_undo_9 hown hI (xl_0 ad cy q4) rfl 3 (by decide) (by decide +kernel) rfl rfl dX9_undo_28 ?_
    refine z_get (pc := 31) (index := 167) hx hb hts iwX9_undo_3 hown hI (xl_12 ad cy q4) rfl 3 (by decide) (by decide +kernel) rfl rfl dX9_undo_31 ?_
    obtain ⟨rfl, rfl⟩ := zpair hf
    exact z_iret (pc := 34) C0 hI dX9_undo_34
  refine lv_bipush (pc := 10) (v := -4) hx hb dX9_undo_10 (by decide) ?_
  obtain ⟨rfl, rfl⟩ := zpair hf
  exact z_iret (pc := 12) C0 hI dX9_undo_12
set_option maxHeartbeats 4000000 in
set_option maxRecDepth 100000 in
theorem kX9_share (l : Launch) (D : va_G) (ad : Nat → Nat) (cy : Nat → ClassId) (k : Nat) (a1 : Int32) (a2 : Int32) (a3 : Int32) (u : CX) (r : Int64) (hf : fX9_share k a1 a2 a3 u = some r) : zCt l yX9_share wsX9_share ({ frames := 2, cells := 0, slots := 0, locals := 52 } : Room) D ad cy [.ref (ad 0), .int a1, .int a2, .int a3] (WX ad cy u) (some (.long r)) (WX ad cy u) := by
  refine zCt.of (cc := cX9_share) (maxL := 4) (ret := (some .long)) (own := RX9) (by decide) rfl rfl ?_
  intro p e s m below meth c A C0 hI
  obtain ⟨hx, hb, hml, hown, hts, hr, hlk⟩ := id C0
  refine z_entry (Nat.le_of_ble_eq_true rfl) (fun ls hl => ?_)
  have hl : lv_has ls 4 [(0, .ref (ad 0)), (1, .int a1), (2, .int a2), (3, .int a3)] := hl
  unfold fX9_share at hf
  refine lv_iload_n (pc := 0) hx hb dX9_share_0 rfl (lv_at hl 1 rfl) ?_
  obtain ⟨q2, hc1, hf⟩ := zbind hf
  refine zcallSi (pc := 1) (As := [.int a1]) (rest := []) ⟨hx, hb, hml, hown, hts⟩ (kX9_isLaw l a1 q2 hc1) (va_cwS 1 hts gX9_share_X9_isLaw rfl rfl rfl (by decide +kernel) ⟨Nat.le_of_ble_eq_true rfl, Nat.le_of_ble_eq_true rfl⟩) rfl hl.1 rfl (Nat.le_of_ble_eq_true rfl) dX9_share_1 (Nat.zero_le _) (Nat.zero_le _) ?_
  refine z_if_eq (pc := 4) (tgt := 23) hx hb dX9_share_4 (by decide) hf (fun hf => ?_) (fun hf => ?_)
  · refine lv_ldc2 (pc := 23) (v := -1) hx hb hown (hts (.constantLong RX9 179 (-1)) (by decide +kernel)) dX9_share_23 ?_
    obtain rfl := zone hf
    exact z_lret (pc := 26) C0 hI dX9_share_26
  refine lv_iload_n (pc := 7) hx hb dX9_share_7 rfl (lv_at hl 2 rfl) ?_
  refine z_if_lt (pc := 8) (tgt := 23) hx hb dX9_share_8 (by decide) hf (fun hf => ?_) (fun hf => ?_)
  · refine lv_ldc2 (pc := 23) (v := -1) hx hb hown (hts (.constantLong RX9 179 (-1)) (by decide +kernel)) dX9_share_23 ?_
    obtain rfl := zone hf
    exact z_lret (pc := 26) C0 hI dX9_share_26
  refine lv_iload_n (pc := 11) hx hb dX9_share_11 rfl (lv_at hl 2 rfl) ?_
  refine lv_iconst (pc := 12) (v := 3) hx hb dX9_share_12 (by decide) ?_
  refine z_icmp_gt (pc := 13) (tgt := 23) hx hb dX9_share_13 (by decide) hf (fun hf => ?_) (fun hf => ?_)
  · refine lv_ldc2 (pc := 23) (v := -1) hx hb hown (hts (.constantLong RX9 179 (-1)) (by decide +kernel)) dX9_share_23 ?_
    obtain rfl := zone hf
    exact z_lret (pc := 26) C0 hI dX9_share_26
  refine lv_iload_n (pc := 16) hx hb dX9_share_16 rfl (lv_at hl 3 rfl) ?_
  obtain ⟨q4, hc3, hf⟩ := zbind hf
  refine zcallSi (pc := 17) (As := [.int a3]) (rest := []) ⟨hx, hb, hml, hown, hts⟩ (kX9_isSide l a3 q4 hc3) (va_cwS 1 hts gX9_share_X9_isSide rfl rfl rfl (by decide +kernel) ⟨Nat.le_of_ble_eq_true rfl, Nat.le_of_ble_eq_true rfl⟩) rfl hl.1 rfl (Nat.le_of_ble_eq_true rfl) dX9_share_17 (Nat.zero_le _) (Nat.zero_le _) ?_
  refine z_if_ne (pc := 20) (tgt := 27) hx hb dX9_share_20 (by decide) hf (fun hf => ?_) (fun hf => ?_)
  · refine lv_aload_n (pc := 27) hx hb dX9_share_27 rfl (lv_at hl 0 rfl) ?_
    refine z_get (pc := 28) (index := 10) hx hb hts iwX9_share_9 hown hI (xl_0 ad cy u) rfl 0 (by decide) (by decide +kernel) rfl rfl dX9_share_28 ?_
    refine lv_iload_n (pc := 31) hx hb dX9_share_31 rfl (lv_at hl 2 rfl) ?_
    refine lv_aload_n (pc := 32) hx hb dX9_share_32 rfl (lv_at hl 0 rfl) ?_
    refine z_get (pc := 33) (index := 10) hx hb hts iwX9_share_9 hown hI (xl_0 ad cy u) rfl 0 (by decide) (by decide +kernel) rfl rfl dX9_share_33 ?_
    refine lv_iload_n (pc := 36) hx hb dX9_share_36 rfl (lv_at hl 1 rfl) ?_
    obtain ⟨q6, hc5, hf⟩ := zbind hf
    refine zcallVi (pc := 37) (As := [.int a1]) (rest := [.int a2, .ref (ad 1)]) ⟨hx, hb, hml, hown, hts⟩ (kX8_stand l D ad cy k a1 u q6 hc5) (cwV 1 hts gX9_share_X8_stand rfl rfl rfl (by decide +kernel) ⟨Nat.le_of_ble_eq_true rfl, Nat.le_of_ble_eq_true rfl⟩) hI rfl (xl_1 ad cy u) rfl hl.1 rfl (Nat.le_of_ble_eq_true rfl) dX9_share_37 (Nat.zero_le _) (Nat.zero_le _) (fun H locs hI => ?_)
    refine lv_i2l (pc := 40) hx hb dX9_share_40 rfl ?_
    obtain ⟨q8, hc7, hf⟩ := zbind hf
    refine zcallVl (pc := 41) (As := [.int a2, .long (q6.toInt64)]) (rest := []) ⟨hx, hb, hml, hown, hts⟩ (kX8_homesTop l D ad cy k a2 (q6.toInt64) u q8 hc7) (cwV 2 hts gX9_share_X8_homesTop rfl rfl rfl (by decide +kernel) ⟨Nat.le_of_ble_eq_true rfl, Nat.le_of_ble_eq_true rfl⟩) hI rfl (xl_1 ad cy u) rfl hl.1 rfl (Nat.le_of_ble_eq_true rfl) dX9_share_41 (Nat.zero_le _) (Nat.zero_le _) (fun H locs hI => ?_)
    refine lv_aload_n (pc := 44) hx hb dX9_share_44 rfl (lv_at hl 0 rfl) ?_
    refine z_get (pc := 45) (index := 10) hx hb hts iwX9_share_9 hown hI (xl_0 ad cy u) rfl 0 (by decide) (by decide +kernel) rfl rfl dX9_share_45 ?_
    refine z_get (pc := 48) (index := 189) hx hb hts iwX9_share_8 hown hI (xl_1 ad cy u) rfl 5 (by decide) (by decide +kernel) rfl rfl dX9_share_48 ?_
    refine lv_iload_n (pc := 51) hx hb dX9_share_51 rfl (lv_at hl 3 rfl) ?_
    obtain ⟨q10, hc9, hf⟩ := zbind hf
    refine zcallSl (pc := 52) (As := [.long q8, .long (xg_Tbottom u), .int a3]) (rest := []) ⟨hx, hb, hml, hown, hts⟩ (kX9_lowest l k q8 (xg_Tbottom u) a3 q10 hc9) (va_cwS 3 hts gX9_share_X9_lowest rfl rfl rfl (by decide +kernel) ⟨Nat.le_of_ble_eq_true rfl, Nat.le_of_ble_eq_true rfl⟩) rfl hl.1 rfl (Nat.le_of_ble_eq_true rfl) dX9_share_52 (Nat.zero_le _) (Nat.zero_le _) ?_
    obtain rfl := zone hf
    exact z_lret (pc := 55) C0 hI dX9_share_55
  refine lv_ldc2 (pc := 23) (v := -1) hx hb hown (hts (.constantLong RX9 179 (-1)) (by decide +kernel)) dX9_share_23 ?_
  obtain rfl := zone hf
  exact z_lret (pc := 26) C0 hI dX9_share_26
set_option maxHeartbeats 4000000 in
set_option maxRecDepth 100000 in
theorem kX9_holes (l : Launch) (D : va_G) (ad : Nat → Nat) (cy : Nat → ClassId) (k : Nat) (a1 : Int32) (a2 : Int32) (a3 : Int32) (u : CX) (r : Int64) (hf : fX9_holes k a1 a2 a3 u = some r) : zCt l yX9_holes wsX9_holes ({ frames := 2, cells := 0, slots := 0, locals := 52 } : Room) D ad cy [.ref (ad 0), .int a1, .int a2, .int a3] (WX ad cy u) (some (.long r)) (WX ad cy u) := by
  refine zCt.of (cc := cX9_holes) (maxL := 6) (ret := (some .long)) (own := RX9) (by decide) rfl rfl ?_
  intro p e s m below meth c A C0 hI
  obtain ⟨hx, hb, hml, hown, hts, hr, hlk⟩ := id C0
  refine z_entry (Nat.le_of_ble_eq_true rfl) (fun ls hl => ?_)
  have hl : lv_has ls 6 [(0, .ref (ad 0)), (1, .int a1), (2, .int a2), (3, .int a3)] := hl
  unfold fX9_holes at hf
  refine lv_iload_n (pc := 0) hx hb dX9_holes_0 rfl (lv_at hl 1 rfl) ?_
  obtain ⟨q2, hc1, hf⟩ := zbind hf
  refine zcallSi (pc := 1) (As := [.int a1]) (rest := []) ⟨hx, hb, hml, hown, hts⟩ (kX9_isLaw l a1 q2 hc1) (va_cwS 1 hts gX9_holes_X9_isLaw rfl rfl rfl (by decide +kernel) ⟨Nat.le_of_ble_eq_true rfl, Nat.le_of_ble_eq_true rfl⟩) rfl hl.1 rfl (Nat.le_of_ble_eq_true rfl) dX9_holes_1 (Nat.zero_le _) (Nat.zero_le _) ?_
  refine z_if_eq (pc := 4) (tgt := 21) hx hb dX9_holes_4 (by decide) hf (fun hf => ?_) (fun hf => ?_)
  · refine lv_ldc2 (pc := 21) (v := -1) hx hb hown (hts (.constantLong RX9 179 (-1)) (by decide +kernel)) dX9_holes_21 ?_
    obtain rfl := zone hf
    exact z_lret (pc := 24) C0 hI dX9_holes_24
  refine lv_iload_n (pc := 7) hx hb dX9_holes_7 rfl (lv_at hl 2 rfl) ?_
  obtain ⟨q4, hc3, hf⟩ := zbind hf
  refine zcallSi (pc := 8) (As := [.int a2]) (rest := []) ⟨hx, hb, hml, hown, hts⟩ (kX9_isPart l a2 q4 hc3) (va_cwS 1 hts gX9_holes_X9_isPart rfl rfl rfl (by decide +kernel) ⟨Nat.le_of_ble_eq_true rfl, Nat.le_of_ble_eq_true rfl⟩) rfl hl.1 rfl (Nat.le_of_ble_eq_true rfl) dX9_holes_8 (Nat.zero_le _) (Nat.zero_le _) ?_
  refine z_if_eq (pc := 11) (tgt := 21) hx hb dX9_holes_11 (by decide) hf (fun hf => ?_) (fun hf => ?_)
  · refine lv_ldc2 (pc := 21) (v := -1) hx hb hown (hts (.constantLong RX9 179 (-1)) (by decide +kernel)) dX9_holes_21 ?_
    obtain rfl := zone hf
    exact z_lret (pc := 24) C0 hI dX9_holes_24
  refine lv_iload_n (pc := 14) hx hb dX9_holes_14 rfl (lv_at hl 3 rfl) ?_
  obtain ⟨q6, hc5, hf⟩ := zbind hf
  refine zcallSi (pc := 15) (As := [.int a3]) (rest := []) ⟨hx, hb, hml, hown, hts⟩ (kX9_isSide l a3 q6 hc5) (va_cwS 1 hts gX9_holes_X9_isSide rfl rfl rfl (by decide +kernel) ⟨Nat.le_of_ble_eq_true rfl, Nat.le_of_ble_eq_true rfl⟩) rfl hl.1 rfl (Nat.le_of_ble_eq_true rfl) dX9_holes_15 (Nat.zero_le _) (Nat.zero_le _) ?_
  refine z_if_ne (pc := 18) (tgt := 25) hx hb dX9_holes_18 (by decide) hf (fun hf => ?_) (fun hf => ?_)
  · refine lv_aload_n (pc := 25) hx hb dX9_holes_25 rfl (lv_at hl 0 rfl) ?_
    refine z_get (pc := 26) (index := 10) hx hb hts iwX9_holes_9 hown hI (xl_0 ad cy u) rfl 0 (by decide) (by decide +kernel) rfl rfl dX9_holes_26 ?_
    refine lv_iload_n (pc := 29) hx hb dX9_holes_29 rfl (lv_at hl 2 rfl) ?_
    refine lv_iload_n (pc := 30) hx hb dX9_holes_30 rfl (lv_at hl 1 rfl) ?_
    refine lv_iload_n (pc := 31) hx hb dX9_holes_31 rfl (lv_at hl 2 rfl) ?_
    obtain ⟨q8, hc7, hf⟩ := zbind hf
    refine zcallSi (pc := 32) (As := [.int a1, .int a2]) (rest := [.int a2, .ref (ad 1)]) ⟨hx, hb, hml, hown, hts⟩ (kX9_figure l a1 a2 q8 hc7) (va_cwS 2 hts gX9_holes_X9_figure rfl rfl rfl (by decide +kernel) ⟨Nat.le_of_ble_eq_true rfl, Nat.le_of_ble_eq_true rfl⟩) rfl hl.1 rfl (Nat.le_of_ble_eq_true rfl) dX9_holes_32 (Nat.zero_le _) (Nat.zero_le _) ?_
    obtain ⟨q10, hc9, hf⟩ := zbind hf
    refine zcallVi (pc := 35) (As := [.int a2, .int q8]) (rest := []) ⟨hx, hb, hml, hown, hts⟩ (kX8_partStand l D ad cy a2 q8 u q10 hc9) (cwV 2 hts gX9_holes_X8_partStand rfl rfl rfl (by decide +kernel) ⟨Nat.le_of_ble_eq_true rfl, Nat.le_of_ble_eq_true rfl⟩) hI rfl (xl_1 ad cy u) rfl hl.1 rfl (Nat.le_of_ble_eq_true rfl) dX9_holes_35 (Nat.zero_le _) (Nat.zero_le _) (fun H locs hI => ?_)
    refine lv_i2l (pc := 38) hx hb dX9_holes_38 rfl ?_
    refine lv_aload_n (pc := 39) hx hb dX9_holes_39 rfl (lv_at hl 0 rfl) ?_
    refine z_get (pc := 40) (index := 10) hx hb hts iwX9_holes_9 hown hI (xl_0 ad cy u) rfl 0 (by decide) (by decide +kernel) rfl rfl dX9_holes_40 ?_
    refine lv_aload_n (pc := 43) hx hb dX9_holes_43 rfl (lv_at hl 0 rfl) ?_
    refine z_get (pc := 44) (index := 10) hx hb hts iwX9_holes_9 hown hI (xl_0 ad cy u) rfl 0 (by decide) (by decide +kernel) rfl rfl dX9_holes_44 ?_
    refine lv_iload_n (pc := 47) hx hb dX9_holes_47 rfl (lv_at hl 1 rfl) ?_
    obtain ⟨q12, hc11, hf⟩ := zbind hf
    refine zcallVi (pc := 48) (As := [.int a1]) (rest := [.ref (ad 1), .long (q10.toInt64)]) ⟨hx, hb, hml, hown, hts⟩ (kX8_stand l D ad cy k a1 u q12 hc11) (cwV 1 hts gX9_holes_X8_stand rfl rfl rfl (by decide +kernel) ⟨Nat.le_of_ble_eq_true rfl, Nat.le_of_ble_eq_true rfl⟩) hI rfl (xl_1 ad cy u) rfl hl.1 rfl (Nat.le_of_ble_eq_true rfl) dX9_holes_48 (Nat.zero_le _) (Nat.zero_le _) (fun H locs hI => ?_)
    refine lv_i2l (pc := 51) hx hb dX9_holes_51 rfl ?_
    obtain ⟨q14, hc13, hf⟩ := zbind hf
    refine zcallVl (pc := 52) (As := [.long (q12.toInt64)]) (rest := [.long (q10.toInt64)]) ⟨hx, hb, hml, hown, hts⟩ (kX8_holeRate l D ad cy (q12.toInt64) u q14 hc13) (cwV 1 hts gX9_holes_X8_holeRate rfl rfl rfl (by decide +kernel) ⟨Nat.le_of_ble_eq_true rfl, Nat.le_of_ble_eq_true rfl⟩) hI rfl (xl_1 ad cy u) rfl hl.1 rfl (Nat.le_of_ble_eq_true rfl) dX9_holes_52 (Nat.zero_le _) (Nat.zero_le _) (fun H locs hI => ?_)
    refine lv_lmul (pc := 55) hx hb dX9_holes_55 ?_
    refine z_bl hf (fun v15 hf => ?_)
    refine lv_lstore (pc := 56) (lv' := [(4, .long v15), (0, .ref (ad 0)), (1, .int a1), (2, .int a2), (3, .int a3)]) hx hb dX9_holes_56 hl (by decide) rfl (fun ls hl => ?_)
    refine lv_lload (pc := 58) hx hb dX9_holes_58 (lv_at hl 0 rfl) ?_
    refine lv_aload_n (pc := 60) hx hb dX9_holes_60 rfl (lv_at hl 1 rfl) ?_
    refine z_get (pc := 61) (index := 10) hx hb hts iwX9_holes_9 hown hI (xl_0 ad cy u) rfl 0 (by decide) (by decide +kernel) rfl rfl dX9_holes_61 ?_
    refine z_get (pc := 64) (index := 189) hx hb hts iwX9_holes_8 hown hI (xl_1 ad cy u) rfl 5 (by decide) (by decide +kernel) rfl rfl dX9_holes_64 ?_
    refine lv_iload_n (pc := 67) hx hb dX9_holes_67 rfl (lv_at hl 4 rfl) ?_
    obtain ⟨q17, hc16, hf⟩ := zbind hf
    refine zcallSl (pc := 68) (As := [.long v15, .long (xg_Tbottom u), .int a3]) (rest := []) ⟨hx, hb, hml, hown, hts⟩ (kX9_lowest l k v15 (xg_Tbottom u) a3 q17 hc16) (va_cwS 3 hts gX9_holes_X9_lowest rfl rfl rfl (by decide +kernel) ⟨Nat.le_of_ble_eq_true rfl, Nat.le_of_ble_eq_true rfl⟩) rfl hl.1 rfl (Nat.le_of_ble_eq_true rfl) dX9_holes_68 (Nat.zero_le _) (Nat.zero_le _) ?_
    obtain rfl := zone hf
    exact z_lret (pc := 71) C0 hI dX9_holes_71
  refine lv_ldc2 (pc := 21) (v := -1) hx hb hown (hts (.constantLong RX9 179 (-1)) (by decide +kernel)) dX9_holes_21 ?_
  obtain rfl := zone hf
  exact z_lret (pc := 24) C0 hI dX9_holes_24
set_option maxHeartbeats 4000000 in
set_option maxRecDepth 100000 in
theorem kX9_fits (l : Launch) (D : va_G) (ad : Nat → Nat) (cy : Nat → ClassId) (k : Nat) (a1 : Int32) (u : CX) (r : Int32) (hf : fX9_fits k a1 u = some r) : zCt l yX9_fits wsX9_fits ({ frames := 4, cells := 0, slots := 0, locals := 97 } : Room) D ad cy [.ref (ad 0), .int a1] (WX ad cy u) (some (.int r)) (WX ad cy u) := by
  refine zCt.of (cc := cX9_fits) (maxL := 2) (ret := (some .int)) (own := RX9) (by decide) rfl rfl ?_
  intro p e s m below meth c A C0 hI
  obtain ⟨hx, hb, hml, hown, hts, hr, hlk⟩ := id C0
  refine z_entry (Nat.le_of_ble_eq_true rfl) (fun ls hl => ?_)
  have hl : lv_has ls 2 [(0, .ref (ad 0)), (1, .int a1)] := hl
  unfold fX9_fits at hf
  refine lv_iload_n (pc := 0) hx hb dX9_fits_0 rfl (lv_at hl 1 rfl) ?_
  obtain ⟨q2, hc1, hf⟩ := zbind hf
  refine zcallSi (pc := 1) (As := [.int a1]) (rest := []) ⟨hx, hb, hml, hown, hts⟩ (kX9_isLaw l a1 q2 hc1) (va_cwS 1 hts gX9_fits_X9_isLaw rfl rfl rfl (by decide +kernel) ⟨Nat.le_of_ble_eq_true rfl, Nat.le_of_ble_eq_true rfl⟩) rfl hl.1 rfl (Nat.le_of_ble_eq_true rfl) dX9_fits_1 (Nat.zero_le _) (Nat.zero_le _) ?_
  refine z_if_ne (pc := 4) (tgt := 9) hx hb dX9_fits_4 (by decide) hf (fun hf => ?_) (fun hf => ?_)
  · refine lv_aload_n (pc := 9) hx hb dX9_fits_9 rfl (lv_at hl 0 rfl) ?_
    refine z_get (pc := 10) (index := 51) hx hb hts iwX9_fits_9 hown hI (xl_0 ad cy u) rfl 5 (by decide) (by decide +kernel) rfl rfl dX9_fits_10 ?_
    refine lv_iload_n (pc := 13) hx hb dX9_fits_13 rfl (lv_at hl 1 rfl) ?_
    refine lv_aload_n (pc := 14) hx hb dX9_fits_14 rfl (lv_at hl 0 rfl) ?_
    refine z_get (pc := 15) (index := 10) hx hb hts iwX9_fits_9 hown hI (xl_0 ad cy u) rfl 0 (by decide) (by decide +kernel) rfl rfl dX9_fits_15 ?_
    refine z_get (pc := 18) (index := 123) hx hb hts iwX9_fits_8 hown hI (xl_1 ad cy u) rfl 1 (by decide) (by decide +kernel) rfl rfl dX9_fits_18 ?_
    refine lv_iconst (pc := 21) (v := 5) hx hb dX9_fits_21 (by decide) ?_
    refine z_iald (pc := 22) hx hb hI (xl_3 ad cy u) 0 rfl dX9_fits_22 hf (fun v3 hf => ?_)
    obtain ⟨q5, hc4, hf⟩ := zbind hf
    refine zcallVi (pc := 23) (As := [.int a1, .int v3]) (rest := []) ⟨hx, hb, hml, hown, hts⟩ (kX2_lawFits l D ad cy k a1 v3 u q5 hc4) (cwV 2 hts gX9_fits_X2_lawFits rfl rfl rfl (by decide +kernel) ⟨Nat.le_of_ble_eq_true rfl, Nat.le_of_ble_eq_true rfl⟩) hI rfl (xl_27 ad cy u) rfl hl.1 rfl (Nat.le_of_ble_eq_true rfl) dX9_fits_23 (Nat.zero_le _) (Nat.zero_le _) (fun H locs hI => ?_)
    refine z_if_eq (pc := 26) (tgt := 33) hx hb dX9_fits_26 (by decide) hf (fun hf => ?_) (fun hf => ?_)
    · refine lv_iconst (pc := 33) (v := 0) hx hb dX9_fits_33 (by decide) ?_
      obtain rfl := zone hf
      exact z_iret (pc := 34) C0 hI dX9_fits_34
    refine lv_iconst (pc := 29) (v := 1) hx hb dX9_fits_29 (by decide) ?_
    refine lv_goto (pc := 30) (tgt := 34) hx hb dX9_fits_30 (by decide) ?_
    obtain rfl := zone hf
    exact z_iret (pc := 34) C0 hI dX9_fits_34
  refine lv_iconst (pc := 7) (v := -1) hx hb dX9_fits_7 (by decide) ?_
  obtain rfl := zone hf
  exact z_iret (pc := 8) C0 hI dX9_fits_8
set_option maxHeartbeats 4000000 in
set_option maxRecDepth 100000 in
theorem kX9_laws (l : Launch) (D : va_G) (ad : Nat → Nat) (cy : Nat → ClassId) (k : Nat) (a1 : Int32) (u : CX) (r : Int32) (u' : CX) (hf : fX9_laws k a1 u = some (r, u')) : zCt l yX9_laws wsX9_laws ({ frames := 6, cells := 0, slots := 0, locals := 144 } : Room) D ad cy [.ref (ad 0), .int a1] (WX ad cy u) (some (.int r)) (WX ad cy u') := by
  refine zCt.of (cc := cX9_laws) (maxL := 3) (ret := (some .int)) (own := RX9) (by decide) rfl rfl ?_
  intro p e s m below meth c A C0 hI
  obtain ⟨hx, hb, hml, hown, hts, hr, hlk⟩ := id C0
  refine z_entry (Nat.le_of_ble_eq_true rfl) (fun ls hl => ?_)
  have hl : lv_has ls 3 [(0, .ref (ad 0)), (1, .int a1)] := hl
  unfold fX9_laws at hf
  refine lv_iload_n (pc := 0) hx hb dX9_laws_0 rfl (lv_at hl 1 rfl) ?_
  refine z_if_lt (pc := 1) (tgt := 9) hx hb dX9_laws_1 (by decide) hf (fun hf => ?_) (fun hf => ?_)
  · refine lv_iconst (pc := 9) (v := -1) hx hb dX9_laws_9 (by decide) ?_
    obtain ⟨rfl, rfl⟩ := zpair hf
    exact z_iret (pc := 10) C0 hI dX9_laws_10
  refine lv_iload_n (pc := 4) hx hb dX9_laws_4 rfl (lv_at hl 1 rfl) ?_
  refine lv_iconst (pc := 5) (v := 2) hx hb dX9_laws_5 (by decide) ?_
  refine z_icmp_le (pc := 6) (tgt := 11) hx hb dX9_laws_6 (by decide) hf (fun hf => ?_) (fun hf => ?_)
  · refine lv_aload_n (pc := 11) hx hb dX9_laws_11 rfl (lv_at hl 0 rfl) ?_
    refine z_get (pc := 12) (index := 51) hx hb hts iwX9_laws_9 hown hI (xl_0 ad cy u) rfl 5 (by decide) (by decide +kernel) rfl rfl dX9_laws_12 ?_
    obtain ⟨q2, hc1, hf⟩ := zbind hf
    refine zcallVi (pc := 15) (As := []) (rest := []) ⟨hx, hb, hml, hown, hts⟩ (kX2_fitting l D ad cy k u q2.1 q2.2 hc1) (cwV 0 hts gX9_laws_X2_fitting rfl rfl rfl (by decide +kernel) ⟨Nat.le_of_ble_eq_true rfl, Nat.le_of_ble_eq_true rfl⟩) hI rfl (xl_27 ad cy u) rfl hl.1 rfl (Nat.le_of_ble_eq_true rfl) dX9_laws_15 (Nat.zero_le _) (Nat.zero_le _) (fun H locs hI => ?_)
    refine lv_istore_n (pc := 18) (lv' := [(2, .int q2.1), (0, .ref (ad 0)), (1, .int a1)]) hx hb dX9_laws_18 rfl hl (by decide) rfl (fun ls hl => ?_)
    refine lv_iload_n (pc := 19) hx hb dX9_laws_19 rfl (lv_at hl 2 rfl) ?_
    refine z_if_ne (pc := 20) (tgt := 25) hx hb dX9_laws_20 (by decide) hf (fun hf => ?_) (fun hf => ?_)
    · refine lv_iload_n (pc := 25) hx hb dX9_laws_25 rfl (lv_at hl 0 rfl) ?_
      refine z_if_ne (pc := 26) (tgt := 32) hx hb dX9_laws_26 (by decide) hf (fun hf => ?_) (fun hf => ?_)
      · refine lv_iload_n (pc := 32) hx hb dX9_laws_32 rfl (lv_at hl 2 rfl) ?_
        refine lv_iconst (pc := 33) (v := 1) hx hb dX9_laws_33 (by decide) ?_
        refine z_icmp_ne (pc := 34) (tgt := 47) hx hb dX9_laws_34 (by decide) hf (fun hf => ?_) (fun hf => ?_)
        · refine lv_aload_n (pc := 47) hx hb dX9_laws_47 rfl (lv_at hl 1 rfl) ?_
          refine z_get (pc := 48) (index := 51) hx hb hts iwX9_laws_9 hown hI (xl_0 ad cy q2.2) rfl 5 (by decide) (by decide +kernel) rfl rfl dX9_laws_48 ?_
          refine z_get (pc := 51) (index := 218) hx hb hts iwX9_laws_2 hown hI (xl_27 ad cy q2.2) rfl 9 (by decide) (by decide +kernel) rfl rfl dX9_laws_51 ?_
          obtain ⟨rfl, rfl⟩ := zpair hf
          exact z_iret (pc := 54) C0 hI dX9_laws_54
        refine lv_aload_n (pc := 37) hx hb dX9_laws_37 rfl (lv_at hl 1 rfl) ?_
        refine z_get (pc := 38) (index := 51) hx hb hts iwX9_laws_9 hown hI (xl_0 ad cy q2.2) rfl 5 (by decide) (by decide +kernel) rfl rfl dX9_laws_38 ?_
        refine z_get (pc := 41) (index := 215) hx hb hts iwX9_laws_2 hown hI (xl_27 ad cy q2.2) rfl 8 (by decide) (by decide +kernel) rfl rfl dX9_laws_41 ?_
        refine lv_goto (pc := 44) (tgt := 54) hx hb dX9_laws_44 (by decide) ?_
        obtain ⟨rfl, rfl⟩ := zpair hf
        exact z_iret (pc := 54) C0 hI dX9_laws_54
      refine lv_bipush (pc := 29) (v := -4) hx hb dX9_laws_29 (by decide) ?_
      obtain ⟨rfl, rfl⟩ := zpair hf
      exact z_iret (pc := 31) C0 hI dX9_laws_31
    refine lv_iload_n (pc := 23) hx hb dX9_laws_23 rfl (lv_at hl 0 rfl) ?_
    obtain ⟨rfl, rfl⟩ := zpair hf
    exact z_iret (pc := 24) C0 hI dX9_laws_24
  refine lv_iconst (pc := 9) (v := -1) hx hb dX9_laws_9 (by decide) ?_
  obtain ⟨rfl, rfl⟩ := zpair hf
  exact z_iret (pc := 10) C0 hI dX9_laws_10
set_option maxHeartbeats 4000000 in
set_option maxRecDepth 100000 in
theorem lX9_span_38 (C0 : zFix p m c cX9_span 6 s args wsX9_span RX9 meth (some .int)) {k : Nat} {p1 : Int32} {p2 : Int32} {u : CX} {a : Int32 × Int32 × Int32} {b : Int32 × Int32} (hit : ziter (bX9_span_38 k p1 p2 u) k a = some b) (hx9 : (fun (b : Int32 × Int32) => ∀ (H : Heap) (locs : List Loc) (ls : Array Slot), zIn D ad cy (WX ad cy u) A s H locs → lv_has ls 6 [(2, .int p2), (3, .int b.1), (4, .int b.2)] → W p l e ({ frames := 6, cells := 0, slots := 0, locals := 144 } : Room) s m args below meth c H locs 0 0 Q (F0 m 75 ls [])) b) : (fun (a : Int32 × Int32 × Int32) => ∀ (H : Heap) (locs : List Loc) (ls : Array Slot), zIn D ad cy (WX ad cy u) A s H locs → lv_has ls 6 [(0, .ref (ad 0)), (1, .int p1), (2, .int p2), (3, .int a.1), (4, .int a.2.1), (5, .int a.2.2)] → W p l e ({ frames := 6, cells := 0, slots := 0, locals := 144 } : Room) s m args below meth c H locs 0 0 Q (F0 m 38 ls [])) a := by
  obtain ⟨hx, hb, hml, hown, hts, hr, hlk⟩ := id C0
  refine zloop (Wh := (fun (a : Int32 × Int32 × Int32) => ∀ (H : Heap) (locs : List Loc) (ls : Array Slot), zIn D ad cy (WX ad cy u) A s H locs → lv_has ls 6 [(0, .ref (ad 0)), (1, .int p1), (2, .int p2), (3, .int a.1), (4, .int a.2.1), (5, .int a.2.2)] → W p l e ({ frames := 6, cells := 0, slots := 0, locals := 144 } : Room) s m args below meth c H locs 0 0 Q (F0 m 38 ls []))) (Wx := (fun (b : Int32 × Int32) => ∀ (H : Heap) (locs : List Loc) (ls : Array Slot), zIn D ad cy (WX ad cy u) A s H locs → lv_has ls 6 [(2, .int p2), (3, .int b.1), (4, .int b.2)] → W p l e ({ frames := 6, cells := 0, slots := 0, locals := 144 } : Room) s m args below meth c H locs 0 0 Q (F0 m 75 ls []))) ?_ _ a b hit hx9
  intro a x hf hL hX H locs ls hI hl
  unfold bX9_span_38 at hf
  refine lv_iload (pc := 38) hx hb dX9_span_38 (lv_at hl 5 rfl) ?_
  refine lv_bipush (pc := 40) (v := 10) hx hb dX9_span_40 (by decide) ?_
  refine z_icmp_gt (pc := 42) (tgt := 75) hx hb dX9_span_42 (by decide) hf (fun hf => ?_) (fun hf => ?_)
  · exact (hX _ (Option.some.inj hf).symm) _ _ _ hI (lv_sub hl [2, 3, 4] rfl)
  refine lv_aload_n (pc := 45) hx hb dX9_span_45 rfl (lv_at hl 0 rfl) ?_
  refine z_get (pc := 46) (index := 51) hx hb hts iwX9_span_9 hown hI (xl_0 ad cy u) rfl 5 (by decide) (by decide +kernel) rfl rfl dX9_span_46 ?_
  refine lv_iload_n (pc := 49) hx hb dX9_span_49 rfl (lv_at hl 1 rfl) ?_
  refine lv_iload (pc := 50) hx hb dX9_span_50 (lv_at hl 5 rfl) ?_
  obtain ⟨q8, hc7, hf⟩ := zbind hf
  refine zcallVi (pc := 52) (As := [.int p1, .int a.2.2]) (rest := []) ⟨hx, hb, hml, hown, hts⟩ (kX2_withFalls l D ad cy p1 a.2.2 u q8 hc7) (cwV 2 hts gX9_span_X2_withFalls rfl rfl rfl (by decide +kernel) ⟨Nat.le_of_ble_eq_true rfl, Nat.le_of_ble_eq_true rfl⟩) hI rfl (xl_27 ad cy u) rfl hl.1 rfl (Nat.le_of_ble_eq_true rfl) dX9_span_52 (Nat.zero_le _) (Nat.zero_le _) (fun H locs hI => ?_)
  refine z_if_le (pc := 55) (tgt := 69) hx hb dX9_span_55 (by decide) hf (fun hf => ?_) (fun hf => ?_)
  · refine lv_iinc (pc := 69) (v := (a.2.2 + 1)) (lv' := [(5, .int (a.2.2 + 1)), (0, .ref (ad 0)), (1, .int p1), (2, .int p2), (3, .int a.1), (4, .int a.2.1)]) hx hb dX9_span_69 hl (k := 5) rfl rfl (by decide) rfl (fun ls hl => ?_)
    refine lv_goto (pc := 72) (tgt := 38) hx hb dX9_span_72 (by decide) ?_
    exact hL _ (Option.some.inj hf).symm _ _ _ hI (lv_sub hl [1, 2, 3, 4, 5, 0] rfl)
  refine lv_iload_n (pc := 58) hx hb dX9_span_58 rfl (lv_at hl 3 rfl) ?_
  refine lv_iload (pc := 59) hx hb dX9_span_59 (lv_at hl 5 rfl) ?_
  refine z_mmin (pc := 61) hx hb (hml.trans hl.1.symm) hown (hts (.methodLink RX9 224 Lib.Math.min.name) (by decide +kernel)) (hts (.static Lib.Math.min.name) (by decide +kernel)) (hts (.initialized "java/lang/Math") (by decide +kernel)) (hts (.code Lib.Math.min.name Lib.Math.min.code 2 (some .int)) (by decide +kernel)) (Nat.le_of_ble_eq_true rfl) (Nat.le_of_ble_eq_true rfl) (Nat.zero_le _) (Nat.zero_le _) dX9_span_61 ?_
  refine z_bi hf (fun v9 hf => ?_)
  refine lv_istore_n (pc := 64) (lv' := [(3, .int v9), (0, .ref (ad 0)), (1, .int p1), (2, .int p2), (4, .int a.2.1), (5, .int a.2.2)]) hx hb dX9_span_64 rfl hl (by decide) rfl (fun ls hl => ?_)
  refine lv_iload (pc := 65) hx hb dX9_span_65 (lv_at hl 5 rfl) ?_
  refine lv_istore (pc := 67) (lv' := [(4, .int a.2.2), (3, .int v9), (0, .ref (ad 0)), (1, .int p1), (2, .int p2), (5, .int a.2.2)]) hx hb dX9_span_67 hl (by decide) rfl (fun ls hl => ?_)
  refine lv_iinc (pc := 69) (v := (a.2.2 + 1)) (lv' := [(5, .int (a.2.2 + 1)), (4, .int a.2.2), (3, .int v9), (0, .ref (ad 0)), (1, .int p1), (2, .int p2)]) hx hb dX9_span_69 hl (k := 5) rfl rfl (by decide) rfl (fun ls hl => ?_)
  refine lv_goto (pc := 72) (tgt := 38) hx hb dX9_span_72 (by decide) ?_
  exact hL _ (Option.some.inj hf).symm _ _ _ hI (lv_sub hl [3, 4, 5, 2, 1, 0] rfl)
set_option maxHeartbeats 4000000 in
set_option maxRecDepth 100000 in
theorem kX9_span (l : Launch) (D : va_G) (ad : Nat → Nat) (cy : Nat → ClassId) (k : Nat) (a1 : Int32) (a2 : Int32) (u : CX) (r : Int32) (u' : CX) (hf : fX9_span k a1 a2 u = some (r, u')) : zCt l yX9_span wsX9_span ({ frames := 6, cells := 0, slots := 0, locals := 144 } : Room) D ad cy [.ref (ad 0), .int a1, .int a2] (WX ad cy u) (some (.int r)) (WX ad cy u') := by
  refine zCt.of (cc := cX9_span) (maxL := 6) (ret := (some .int)) (own := RX9) (by decide) rfl rfl ?_
  intro p e s m below meth c A C0 hI
  obtain ⟨hx, hb, hml, hown, hts, hr, hlk⟩ := id C0
  refine z_entry (Nat.le_of_ble_eq_true rfl) (fun ls hl => ?_)
  have hl : lv_has ls 6 [(0, .ref (ad 0)), (1, .int a1), (2, .int a2)] := hl
  unfold fX9_span at hf
  refine lv_iload_n (pc := 0) hx hb dX9_span_0 rfl (lv_at hl 1 rfl) ?_
  obtain ⟨q2, hc1, hf⟩ := zbind hf
  refine zcallSi (pc := 1) (As := [.int a1]) (rest := []) ⟨hx, hb, hml, hown, hts⟩ (kX9_isPart l a1 q2 hc1) (va_cwS 1 hts gX9_span_X9_isPart rfl rfl rfl (by decide +kernel) ⟨Nat.le_of_ble_eq_true rfl, Nat.le_of_ble_eq_true rfl⟩) rfl hl.1 rfl (Nat.le_of_ble_eq_true rfl) dX9_span_1 (Nat.zero_le _) (Nat.zero_le _) ?_
  refine z_if_eq (pc := 4) (tgt := 14) hx hb dX9_span_4 (by decide) hf (fun hf => ?_) (fun hf => ?_)
  · refine lv_iconst (pc := 14) (v := -1) hx hb dX9_span_14 (by decide) ?_
    obtain ⟨rfl, rfl⟩ := zpair hf
    exact z_iret (pc := 15) C0 hI dX9_span_15
  refine lv_iload_n (pc := 7) hx hb dX9_span_7 rfl (lv_at hl 2 rfl) ?_
  obtain ⟨q4, hc3, hf⟩ := zbind hf
  refine zcallSi (pc := 8) (As := [.int a2]) (rest := []) ⟨hx, hb, hml, hown, hts⟩ (kX9_isSide l a2 q4 hc3) (va_cwS 1 hts gX9_span_X9_isSide rfl rfl rfl (by decide +kernel) ⟨Nat.le_of_ble_eq_true rfl, Nat.le_of_ble_eq_true rfl⟩) rfl hl.1 rfl (Nat.le_of_ble_eq_true rfl) dX9_span_8 (Nat.zero_le _) (Nat.zero_le _) ?_
  refine z_if_ne (pc := 11) (tgt := 16) hx hb dX9_span_11 (by decide) hf (fun hf => ?_) (fun hf => ?_)
  · refine lv_aload_n (pc := 16) hx hb dX9_span_16 rfl (lv_at hl 0 rfl) ?_
    refine z_get (pc := 17) (index := 51) hx hb hts iwX9_span_9 hown hI (xl_0 ad cy u) rfl 5 (by decide) (by decide +kernel) rfl rfl dX9_span_17 ?_
    obtain ⟨q6, hc5, hf⟩ := zbind hf
    refine zcallVi (pc := 20) (As := []) (rest := []) ⟨hx, hb, hml, hown, hts⟩ (kX2_fitting l D ad cy k u q6.1 q6.2 hc5) (cwV 0 hts gX9_span_X2_fitting rfl rfl rfl (by decide +kernel) ⟨Nat.le_of_ble_eq_true rfl, Nat.le_of_ble_eq_true rfl⟩) hI rfl (xl_27 ad cy u) rfl hl.1 rfl (Nat.le_of_ble_eq_true rfl) dX9_span_20 (Nat.zero_le _) (Nat.zero_le _) (fun H locs hI => ?_)
    refine z_if_ne (pc := 23) (tgt := 29) hx hb dX9_span_23 (by decide) hf (fun hf => ?_) (fun hf => ?_)
    · refine lv_bipush (pc := 29) (v := 10) hx hb dX9_span_29 (by decide) ?_
      refine lv_istore_n (pc := 31) (lv' := [(3, .int (10 : Int32)), (0, .ref (ad 0)), (1, .int a1), (2, .int a2)]) hx hb dX9_span_31 rfl hl (by decide) rfl (fun ls hl => ?_)
      refine lv_iconst (pc := 32) (v := 0) hx hb dX9_span_32 (by decide) ?_
      refine lv_istore (pc := 33) (lv' := [(4, .int (0 : Int32)), (3, .int (10 : Int32)), (0, .ref (ad 0)), (1, .int a1), (2, .int a2)]) hx hb dX9_span_33 hl (by decide) rfl (fun ls hl => ?_)
      refine lv_iconst (pc := 35) (v := 0) hx hb dX9_span_35 (by decide) ?_
      refine lv_istore (pc := 36) (lv' := [(5, .int (0 : Int32)), (4, .int (0 : Int32)), (3, .int (10 : Int32)), (0, .ref (ad 0)), (1, .int a1), (2, .int a2)]) hx hb dX9_span_36 hl (by decide) rfl (fun ls hl => ?_)
      obtain ⟨b10, hb11, hf⟩ := zbind hf
      refine lX9_span_38 C0 hb11 ?_ _ _ _ hI (lv_sub hl [3, 4, 5, 2, 1, 0] rfl)
      intro H locs ls hI hl
      refine lv_iload_n (pc := 75) hx hb dX9_span_75 rfl (lv_at hl 0 rfl) ?_
      refine z_if_ne (pc := 76) (tgt := 83) hx hb dX9_span_76 (by decide) hf (fun hf => ?_) (fun hf => ?_)
      · refine lv_iload (pc := 83) hx hb dX9_span_83 (lv_at hl 2 rfl) ?_
        obtain ⟨rfl, rfl⟩ := zpair hf
        exact z_iret (pc := 85) C0 hI dX9_span_85
      refine lv_iload_n (pc := 79) hx hb dX9_span_79 rfl (lv_at hl 1 rfl) ?_
      refine lv_goto (pc := 80) (tgt := 85) hx hb dX9_span_80 (by decide) ?_
      obtain ⟨rfl, rfl⟩ := zpair hf
      exact z_iret (pc := 85) C0 hI dX9_span_85
    refine lv_bipush (pc := 26) (v := -4) hx hb dX9_span_26 (by decide) ?_
    obtain ⟨rfl, rfl⟩ := zpair hf
    exact z_iret (pc := 28) C0 hI dX9_span_28
  refine lv_iconst (pc := 14) (v := -1) hx hb dX9_span_14 (by decide) ?_
  obtain ⟨rfl, rfl⟩ := zpair hf
  exact z_iret (pc := 15) C0 hI dX9_span_15
set_option maxHeartbeats 4000000 in
set_option maxRecDepth 100000 in
theorem kX9_say (l : Launch) (D : va_G) (ad : Nat → Nat) (cy : Nat → ClassId) (k : Nat) (a1 : Int32) (a2 : Int32) (u : CX) (r : Int32) (u' : CX) (hf : fX9_say k a1 a2 u = some (r, u')) : zCt l yX9_say wsX9_say ({ frames := 6, cells := 0, slots := 0, locals := 144 } : Room) D ad cy [.ref (ad 0), .int a1, .int a2] (WX ad cy u) (some (.int r)) (WX ad cy u') := by
  refine zCt.of (cc := cX9_say) (maxL := 5) (ret := (some .int)) (own := RX9) (by decide) rfl rfl ?_
  intro p e s m below meth c A C0 hI
  obtain ⟨hx, hb, hml, hown, hts, hr, hlk⟩ := id C0
  refine z_entry (Nat.le_of_ble_eq_true rfl) (fun ls hl => ?_)
  have hl : lv_has ls 5 [(0, .ref (ad 0)), (1, .int a1), (2, .int a2)] := hl
  unfold fX9_say at hf
  refine lv_iload_n (pc := 0) hx hb dX9_say_0 rfl (lv_at hl 1 rfl) ?_
  obtain ⟨q2, hc1, hf⟩ := zbind hf
  refine zcallSi (pc := 1) (As := [.int a1]) (rest := []) ⟨hx, hb, hml, hown, hts⟩ (kX9_isPart l a1 q2 hc1) (va_cwS 1 hts gX9_say_X9_isPart rfl rfl rfl (by decide +kernel) ⟨Nat.le_of_ble_eq_true rfl, Nat.le_of_ble_eq_true rfl⟩) rfl hl.1 rfl (Nat.le_of_ble_eq_true rfl) dX9_say_1 (Nat.zero_le _) (Nat.zero_le _) ?_
  refine z_if_eq (pc := 4) (tgt := 19) hx hb dX9_say_4 (by decide) hf (fun hf => ?_) (fun hf => ?_)
  · refine lv_iconst (pc := 19) (v := -1) hx hb dX9_say_19 (by decide) ?_
    obtain ⟨rfl, rfl⟩ := zpair hf
    exact z_iret (pc := 20) C0 hI dX9_say_20
  refine lv_iload_n (pc := 7) hx hb dX9_say_7 rfl (lv_at hl 2 rfl) ?_
  obtain ⟨q4, hc3, hf⟩ := zbind hf
  refine zcallSi (pc := 8) (As := [.int a2]) (rest := []) ⟨hx, hb, hml, hown, hts⟩ (kX9_isPart l a2 q4 hc3) (va_cwS 1 hts gX9_say_X9_isPart rfl rfl rfl (by decide +kernel) ⟨Nat.le_of_ble_eq_true rfl, Nat.le_of_ble_eq_true rfl⟩) rfl hl.1 rfl (Nat.le_of_ble_eq_true rfl) dX9_say_8 (Nat.zero_le _) (Nat.zero_le _) ?_
  refine z_if_eq (pc := 11) (tgt := 19) hx hb dX9_say_11 (by decide) hf (fun hf => ?_) (fun hf => ?_)
  · refine lv_iconst (pc := 19) (v := -1) hx hb dX9_say_19 (by decide) ?_
    obtain ⟨rfl, rfl⟩ := zpair hf
    exact z_iret (pc := 20) C0 hI dX9_say_20
  refine lv_iload_n (pc := 14) hx hb dX9_say_14 rfl (lv_at hl 1 rfl) ?_
  refine lv_iload_n (pc := 15) hx hb dX9_say_15 rfl (lv_at hl 2 rfl) ?_
  refine z_icmp_ne (pc := 16) (tgt := 21) hx hb dX9_say_16 (by decide) hf (fun hf => ?_) (fun hf => ?_)
  · refine lv_aload_n (pc := 21) hx hb dX9_say_21 rfl (lv_at hl 0 rfl) ?_
    refine z_get (pc := 22) (index := 51) hx hb hts iwX9_say_9 hown hI (xl_0 ad cy u) rfl 5 (by decide) (by decide +kernel) rfl rfl dX9_say_22 ?_
    obtain ⟨q6, hc5, hf⟩ := zbind hf
    refine zcallVi (pc := 25) (As := []) (rest := []) ⟨hx, hb, hml, hown, hts⟩ (kX2_fitting l D ad cy k u q6.1 q6.2 hc5) (cwV 0 hts gX9_say_X2_fitting rfl rfl rfl (by decide +kernel) ⟨Nat.le_of_ble_eq_true rfl, Nat.le_of_ble_eq_true rfl⟩) hI rfl (xl_27 ad cy u) rfl hl.1 rfl (Nat.le_of_ble_eq_true rfl) dX9_say_25 (Nat.zero_le _) (Nat.zero_le _) (fun H locs hI => ?_)
    refine lv_istore_n (pc := 28) (lv' := [(3, .int q6.1), (0, .ref (ad 0)), (1, .int a1), (2, .int a2)]) hx hb dX9_say_28 rfl hl (by decide) rfl (fun ls hl => ?_)
    refine lv_iload_n (pc := 29) hx hb dX9_say_29 rfl (lv_at hl 0 rfl) ?_
    refine z_if_ne (pc := 30) (tgt := 36) hx hb dX9_say_30 (by decide) hf (fun hf => ?_) (fun hf => ?_)
    · refine lv_aload_n (pc := 36) hx hb dX9_say_36 rfl (lv_at hl 1 rfl) ?_
      refine z_get (pc := 37) (index := 51) hx hb hts iwX9_say_9 hown hI (xl_0 ad cy q6.2) rfl 5 (by decide) (by decide +kernel) rfl rfl dX9_say_37 ?_
      refine lv_iload_n (pc := 40) hx hb dX9_say_40 rfl (lv_at hl 2 rfl) ?_
      refine lv_iload_n (pc := 41) hx hb dX9_say_41 rfl (lv_at hl 3 rfl) ?_
      obtain ⟨q8, hc7, hf⟩ := zbind hf
      refine zcallVi (pc := 42) (As := [.int a1, .int a2]) (rest := []) ⟨hx, hb, hml, hown, hts⟩ (kX2_oftenerIn l D ad cy k a1 a2 q6.2 q8 hc7) (cwV 2 hts gX9_say_X2_oftenerIn rfl rfl rfl (by decide +kernel) ⟨Nat.le_of_ble_eq_true rfl, Nat.le_of_ble_eq_true rfl⟩) hI rfl (xl_27 ad cy q6.2) rfl hl.1 rfl (Nat.le_of_ble_eq_true rfl) dX9_say_42 (Nat.zero_le _) (Nat.zero_le _) (fun H locs hI => ?_)
      refine lv_istore (pc := 45) (lv' := [(4, .int q8), (3, .int q6.1), (0, .ref (ad 0)), (1, .int a1), (2, .int a2)]) hx hb dX9_say_45 hl (by decide) rfl (fun ls hl => ?_)
      refine lv_iload (pc := 47) hx hb dX9_say_47 (lv_at hl 0 rfl) ?_
      refine lv_iload_n (pc := 49) hx hb dX9_say_49 rfl (lv_at hl 1 rfl) ?_
      refine z_icmp_ne (pc := 50) (tgt := 55) hx hb dX9_say_50 (by decide) hf (fun hf => ?_) (fun hf => ?_)
      · refine lv_iload (pc := 55) hx hb dX9_say_55 (lv_at hl 0 rfl) ?_
        refine z_if_ne (pc := 57) (tgt := 64) hx hb dX9_say_57 (by decide) hf (fun hf => ?_) (fun hf => ?_)
        · refine lv_iconst (pc := 64) (v := 0) hx hb dX9_say_64 (by decide) ?_
          obtain ⟨rfl, rfl⟩ := zpair hf
          exact z_iret (pc := 65) C0 hI dX9_say_65
        refine lv_iconst (pc := 60) (v := 2) hx hb dX9_say_60 (by decide) ?_
        refine lv_goto (pc := 61) (tgt := 65) hx hb dX9_say_61 (by decide) ?_
        obtain ⟨rfl, rfl⟩ := zpair hf
        exact z_iret (pc := 65) C0 hI dX9_say_65
      refine lv_iconst (pc := 53) (v := 1) hx hb dX9_say_53 (by decide) ?_
      obtain ⟨rfl, rfl⟩ := zpair hf
      exact z_iret (pc := 54) C0 hI dX9_say_54
    refine lv_bipush (pc := 33) (v := -4) hx hb dX9_say_33 (by decide) ?_
    obtain ⟨rfl, rfl⟩ := zpair hf
    exact z_iret (pc := 35) C0 hI dX9_say_35
  refine lv_iconst (pc := 19) (v := -1) hx hb dX9_say_19 (by decide) ?_
  obtain ⟨rfl, rfl⟩ := zpair hf
  exact z_iret (pc := 20) C0 hI dX9_say_20
set_option maxHeartbeats 4000000 in
set_option maxRecDepth 100000 in
theorem lX9_cost_53 (C0 : zFix p m c cX9_cost 11 s args wsX9_cost RX9 meth (some .int)) {k : Nat} {p1 : Int64} {p3 : Int64} {p5 : Int64} {p7 : Int64} {u : CX} {a : Int64} {b : (Int64) ⊕ (Unit)} (hit : ziter (bX9_cost_53 k p1 p3 p5 p7 u) k a = some b) (hx9 : (fun (b : (Int64) ⊕ (Unit)) => zel b (fun b => ∀ (H : Heap) (locs : List Loc) (ls : Array Slot), zIn D ad cy (WX ad cy u) A s H locs → lv_has ls 11 [(9, .long b)] → W p l e ({ frames := 1, cells := 0, slots := 0, locals := 21 } : Room) s m args below meth c H locs 0 0 Q (F0 m 104 ls [])) (fun b => ∀ (H : Heap) (locs : List Loc) (ls : Array Slot), zIn D ad cy (WX ad cy u) A s H locs → lv_has ls 11 [] → W p l e ({ frames := 1, cells := 0, slots := 0, locals := 21 } : Room) s m args below meth c H locs 0 0 Q (F0 m 117 ls []))) b) : (fun (a : Int64) => ∀ (H : Heap) (locs : List Loc) (ls : Array Slot), zIn D ad cy (WX ad cy u) A s H locs → lv_has ls 11 [(1, .long p1), (3, .long p3), (5, .long p5), (7, .long p7), (9, .long a)] → W p l e ({ frames := 1, cells := 0, slots := 0, locals := 21 } : Room) s m args below meth c H locs 0 0 Q (F0 m 53 ls [])) a := by
  obtain ⟨hx, hb, hml, hown, hts, hr, hlk⟩ := id C0
  refine zloop (Wh := (fun (a : Int64) => ∀ (H : Heap) (locs : List Loc) (ls : Array Slot), zIn D ad cy (WX ad cy u) A s H locs → lv_has ls 11 [(1, .long p1), (3, .long p3), (5, .long p5), (7, .long p7), (9, .long a)] → W p l e ({ frames := 1, cells := 0, slots := 0, locals := 21 } : Room) s m args below meth c H locs 0 0 Q (F0 m 53 ls []))) (Wx := (fun (b : (Int64) ⊕ (Unit)) => zel b (fun b => ∀ (H : Heap) (locs : List Loc) (ls : Array Slot), zIn D ad cy (WX ad cy u) A s H locs → lv_has ls 11 [(9, .long b)] → W p l e ({ frames := 1, cells := 0, slots := 0, locals := 21 } : Room) s m args below meth c H locs 0 0 Q (F0 m 104 ls [])) (fun b => ∀ (H : Heap) (locs : List Loc) (ls : Array Slot), zIn D ad cy (WX ad cy u) A s H locs → lv_has ls 11 [] → W p l e ({ frames := 1, cells := 0, slots := 0, locals := 21 } : Room) s m args below meth c H locs 0 0 Q (F0 m 117 ls [])))) ?_ _ a b hit hx9
  intro a x hf hL hX H locs ls hI hl
  unfold bX9_cost_53 at hf
  refine lv_lload (pc := 53) hx hb dX9_cost_53 (lv_at hl 4 rfl) ?_
  refine lv_ldc2 (pc := 55) (v := 100) hx hb hown (hts (.constantLong RX9 235 (100)) (by decide +kernel)) dX9_cost_55 ?_
  refine z_lc_gt (pc := 58) (tgt := 117) hx hb dX9_cost_58 dX9_cost_59 (by decide) hf (fun hf => ?_) (fun hf => ?_)
  · exact (z_elP2 (hX _ (Option.some.inj hf).symm)) _ _ _ hI (lv_sub hl [] rfl)
  refine lv_ldc2 (pc := 62) (v := 100) hx hb hown (hts (.constantLong RX9 235 (100)) (by decide +kernel)) dX9_cost_62 ?_
  refine lv_ldc2 (pc := 65) (v := 100) hx hb hown (hts (.constantLong RX9 235 (100)) (by decide +kernel)) dX9_cost_65 ?_
  refine lv_ldc2 (pc := 68) (v := 100) hx hb hown (hts (.constantLong RX9 235 (100)) (by decide +kernel)) dX9_cost_68 ?_
  refine lv_lload (pc := 71) hx hb dX9_cost_71 (lv_at hl 3 rfl) ?_
  refine lv_lmul (pc := 73) hx hb dX9_cost_73 ?_
  refine lv_lload (pc := 74) hx hb dX9_cost_74 (lv_at hl 2 rfl) ?_
  refine lv_lload (pc := 76) hx hb dX9_cost_76 (lv_at hl 4 rfl) ?_
  refine lv_lmul (pc := 78) hx hb dX9_cost_78 ?_
  refine lv_ladd (pc := 79) hx hb dX9_cost_79 ?_
  refine lv_lmul (pc := 80) hx hb dX9_cost_80 ?_
  refine lv_lload_n (pc := 81) hx hb dX9_cost_81 rfl (lv_at hl 1 rfl) ?_
  refine lv_lload (pc := 82) hx hb dX9_cost_82 (lv_at hl 4 rfl) ?_
  refine lv_lmul (pc := 84) hx hb dX9_cost_84 ?_
  refine lv_lload (pc := 85) hx hb dX9_cost_85 (lv_at hl 4 rfl) ?_
  refine lv_lmul (pc := 87) hx hb dX9_cost_87 ?_
  refine lv_ladd (pc := 88) hx hb dX9_cost_88 ?_
  refine lv_lmul (pc := 89) hx hb dX9_cost_89 ?_
  refine lv_lload_n (pc := 90) hx hb dX9_cost_90 rfl (lv_at hl 0 rfl) ?_
  refine lv_lload (pc := 91) hx hb dX9_cost_91 (lv_at hl 4 rfl) ?_
  refine lv_lmul (pc := 93) hx hb dX9_cost_93 ?_
  refine lv_lload (pc := 94) hx hb dX9_cost_94 (lv_at hl 4 rfl) ?_
  refine lv_lmul (pc := 96) hx hb dX9_cost_96 ?_
  refine lv_lload (pc := 97) hx hb dX9_cost_97 (lv_at hl 4 rfl) ?_
  refine lv_lmul (pc := 99) hx hb dX9_cost_99 ?_
  refine z_lc_gt (pc := 100) (tgt := 108) hx hb dX9_cost_100 dX9_cost_101 (by decide) hf (fun hf => ?_) (fun hf => ?_)
  · refine lv_lload (pc := 108) hx hb dX9_cost_108 (lv_at hl 4 rfl) ?_
    refine lv_lconst (pc := 110) (v := 1) hx hb dX9_cost_110 (by decide) ?_
    refine lv_ladd (pc := 111) hx hb dX9_cost_111 ?_
    refine z_bl hf (fun v15 hf => ?_)
    refine lv_lstore (pc := 112) (lv' := [(9, .long v15), (1, .long p1), (3, .long p3), (5, .long p5), (7, .long p7)]) hx hb dX9_cost_112 hl (by decide) rfl (fun ls hl => ?_)
    refine lv_goto (pc := 114) (tgt := 53) hx hb dX9_cost_114 (by decide) ?_
    exact hL _ (Option.some.inj hf).symm _ _ _ hI (lv_sub hl [1, 2, 3, 4, 0] rfl)
  exact (z_elP1 (hX _ (Option.some.inj hf).symm)) _ _ _ hI (lv_sub hl [4] rfl)
set_option maxHeartbeats 4000000 in
set_option maxRecDepth 100000 in
theorem kX9_cost (l : Launch) (D : va_G) (ad : Nat → Nat) (cy : Nat → ClassId) (k : Nat) (u : CX) (r : Int32) (hf : fX9_cost k u = some r) : zCt l yX9_cost wsX9_cost ({ frames := 1, cells := 0, slots := 0, locals := 21 } : Room) D ad cy [.ref (ad 0)] (WX ad cy u) (some (.int r)) (WX ad cy u) := by
  refine zCt.of (cc := cX9_cost) (maxL := 11) (ret := (some .int)) (own := RX9) (by decide) rfl rfl ?_
  intro p e s m below meth c A C0 hI
  obtain ⟨hx, hb, hml, hown, hts, hr, hlk⟩ := id C0
  refine z_entry (Nat.le_of_ble_eq_true rfl) (fun ls hl => ?_)
  have hl : lv_has ls 11 [(0, .ref (ad 0))] := hl
  unfold fX9_cost at hf
  refine lv_aload_n (pc := 0) hx hb dX9_cost_0 rfl (lv_at hl 0 rfl) ?_
  refine z_get (pc := 1) (index := 35) hx hb hts iwX9_cost_9 hown hI (xl_0 ad cy u) rfl 3 (by decide) (by decide +kernel) rfl rfl dX9_cost_1 ?_
  obtain ⟨q2, hc1, hf⟩ := zbind hf
  refine zcallVi (pc := 4) (As := []) (rest := []) ⟨hx, hb, hml, hown, hts⟩ (kX3_sorties l D ad cy u q2 hc1) (cwV 0 hts gX9_cost_X3_sorties rfl rfl rfl (by decide +kernel) ⟨Nat.le_of_ble_eq_true rfl, Nat.le_of_ble_eq_true rfl⟩) hI rfl (xl_12 ad cy u) rfl hl.1 rfl (Nat.le_of_ble_eq_true rfl) dX9_cost_4 (Nat.zero_le _) (Nat.zero_le _) (fun H locs hI => ?_)
  refine lv_aload_n (pc := 7) hx hb dX9_cost_7 rfl (lv_at hl 0 rfl) ?_
  refine z_get (pc := 8) (index := 35) hx hb hts iwX9_cost_9 hown hI (xl_0 ad cy u) rfl 3 (by decide) (by decide +kernel) rfl rfl dX9_cost_8 ?_
  refine lv_iconst (pc := 11) (v := 0) hx hb dX9_cost_11 (by decide) ?_
  obtain ⟨q4, hc3, hf⟩ := zbind hf
  refine zcallVi (pc := 12) (As := [.int (0 : Int32)]) (rest := [.int q2]) ⟨hx, hb, hml, hown, hts⟩ (kX3_withHoles l D ad cy (0 : Int32) u q4 hc3) (cwV 1 hts gX9_cost_X3_withHoles rfl rfl rfl (by decide +kernel) ⟨Nat.le_of_ble_eq_true rfl, Nat.le_of_ble_eq_true rfl⟩) hI rfl (xl_12 ad cy u) rfl hl.1 rfl (Nat.le_of_ble_eq_true rfl) dX9_cost_12 (Nat.zero_le _) (Nat.zero_le _) (fun H locs hI => ?_)
  refine lv_isub (pc := 15) hx hb dX9_cost_15 ?_
  refine lv_i2l (pc := 16) hx hb dX9_cost_16 rfl ?_
  refine z_bl hf (fun v5 hf => ?_)
  refine lv_lstore_n (pc := 17) (lv' := [(1, .long v5), (0, .ref (ad 0))]) hx hb dX9_cost_17 rfl hl (by decide) rfl (fun ls hl => ?_)
  refine lv_aload_n (pc := 18) hx hb dX9_cost_18 rfl (lv_at hl 1 rfl) ?_
  refine z_get (pc := 19) (index := 35) hx hb hts iwX9_cost_9 hown hI (xl_0 ad cy u) rfl 3 (by decide) (by decide +kernel) rfl rfl dX9_cost_19 ?_
  refine lv_iconst (pc := 22) (v := 1) hx hb dX9_cost_22 (by decide) ?_
  obtain ⟨q7, hc6, hf⟩ := zbind hf
  refine zcallVi (pc := 23) (As := [.int (1 : Int32)]) (rest := []) ⟨hx, hb, hml, hown, hts⟩ (kX3_withHoles l D ad cy (1 : Int32) u q7 hc6) (cwV 1 hts gX9_cost_X3_withHoles rfl rfl rfl (by decide +kernel) ⟨Nat.le_of_ble_eq_true rfl, Nat.le_of_ble_eq_true rfl⟩) hI rfl (xl_12 ad cy u) rfl hl.1 rfl (Nat.le_of_ble_eq_true rfl) dX9_cost_23 (Nat.zero_le _) (Nat.zero_le _) (fun H locs hI => ?_)
  refine lv_i2l (pc := 26) hx hb dX9_cost_26 rfl ?_
  refine z_bl hf (fun v8 hf => ?_)
  refine lv_lstore_n (pc := 27) (lv' := [(3, .long v8), (1, .long v5), (0, .ref (ad 0))]) hx hb dX9_cost_27 rfl hl (by decide) rfl (fun ls hl => ?_)
  refine lv_aload_n (pc := 28) hx hb dX9_cost_28 rfl (lv_at hl 2 rfl) ?_
  refine z_get (pc := 29) (index := 35) hx hb hts iwX9_cost_9 hown hI (xl_0 ad cy u) rfl 3 (by decide) (by decide +kernel) rfl rfl dX9_cost_29 ?_
  refine lv_iconst (pc := 32) (v := 2) hx hb dX9_cost_32 (by decide) ?_
  obtain ⟨q10, hc9, hf⟩ := zbind hf
  refine zcallVi (pc := 33) (As := [.int (2 : Int32)]) (rest := []) ⟨hx, hb, hml, hown, hts⟩ (kX3_withHoles l D ad cy (2 : Int32) u q10 hc9) (cwV 1 hts gX9_cost_X3_withHoles rfl rfl rfl (by decide +kernel) ⟨Nat.le_of_ble_eq_true rfl, Nat.le_of_ble_eq_true rfl⟩) hI rfl (xl_12 ad cy u) rfl hl.1 rfl (Nat.le_of_ble_eq_true rfl) dX9_cost_33 (Nat.zero_le _) (Nat.zero_le _) (fun H locs hI => ?_)
  refine lv_i2l (pc := 36) hx hb dX9_cost_36 rfl ?_
  refine z_bl hf (fun v11 hf => ?_)
  refine lv_lstore (pc := 37) (lv' := [(5, .long v11), (3, .long v8), (1, .long v5), (0, .ref (ad 0))]) hx hb dX9_cost_37 hl (by decide) rfl (fun ls hl => ?_)
  refine lv_aload_n (pc := 39) hx hb dX9_cost_39 rfl (lv_at hl 3 rfl) ?_
  refine z_get (pc := 40) (index := 35) hx hb hts iwX9_cost_9 hown hI (xl_0 ad cy u) rfl 3 (by decide) (by decide +kernel) rfl rfl dX9_cost_40 ?_
  refine lv_iconst (pc := 43) (v := 3) hx hb dX9_cost_43 (by decide) ?_
  obtain ⟨q13, hc12, hf⟩ := zbind hf
  refine zcallVi (pc := 44) (As := [.int (3 : Int32)]) (rest := []) ⟨hx, hb, hml, hown, hts⟩ (kX3_withHoles l D ad cy (3 : Int32) u q13 hc12) (cwV 1 hts gX9_cost_X3_withHoles rfl rfl rfl (by decide +kernel) ⟨Nat.le_of_ble_eq_true rfl, Nat.le_of_ble_eq_true rfl⟩) hI rfl (xl_12 ad cy u) rfl hl.1 rfl (Nat.le_of_ble_eq_true rfl) dX9_cost_44 (Nat.zero_le _) (Nat.zero_le _) (fun H locs hI => ?_)
  refine lv_i2l (pc := 47) hx hb dX9_cost_47 rfl ?_
  refine z_bl hf (fun v14 hf => ?_)
  refine lv_lstore (pc := 48) (lv' := [(7, .long v14), (5, .long v11), (3, .long v8), (1, .long v5), (0, .ref (ad 0))]) hx hb dX9_cost_48 hl (by decide) rfl (fun ls hl => ?_)
  refine lv_lconst (pc := 50) (v := 1) hx hb dX9_cost_50 (by decide) ?_
  refine lv_lstore (pc := 51) (lv' := [(9, .long (1 : Int64)), (7, .long v14), (5, .long v11), (3, .long v8), (1, .long v5), (0, .ref (ad 0))]) hx hb dX9_cost_51 hl (by decide) rfl (fun ls hl => ?_)
  obtain ⟨b16, hb17, hf⟩ := zbind hf
  rcases b16 with b16 | b16
  · have hf := z_el1 hf
    refine lX9_cost_53 C0 hb17 ?_ _ _ _ hI (lv_sub hl [4, 3, 2, 1, 0] rfl)
    intro H locs ls hI hl
    refine lv_lload (pc := 104) hx hb dX9_cost_104 (lv_at hl 0 rfl) ?_
    refine lv_l2i (pc := 106) hx hb dX9_cost_106 rfl ?_
    obtain rfl := zone hf
    exact z_iret (pc := 107) C0 hI dX9_cost_107
  have hf := z_el2 hf
  refine lX9_cost_53 C0 hb17 ?_ _ _ _ hI (lv_sub hl [4, 3, 2, 1, 0] rfl)
  intro H locs ls hI hl
  refine lv_bipush (pc := 117) (v := -4) hx hb dX9_cost_117 (by decide) ?_
  obtain rfl := zone hf
  exact z_iret (pc := 119) C0 hI dX9_cost_119
set_option maxHeartbeats 4000000 in
set_option maxRecDepth 100000 in
theorem lX9_near_11 (C0 : zFix p m c cX9_near 3 s args wsX9_near RX9 meth (some .int)) {k : Nat} {p1 : Int32} {u : CX} {a : Int32} {b : (Int32) ⊕ (Unit)} (hit : ziter (bX9_near_11 k p1 u) k a = some b) (hx9 : (fun (b : (Int32) ⊕ (Unit)) => zel b (fun b => ∀ (H : Heap) (locs : List Loc) (ls : Array Slot), zIn D ad cy (WX ad cy u) A s H locs → lv_has ls 3 [(2, .int b)] → W p l e ({ frames := 4, cells := 0, slots := 0, locals := 97 } : Room) s m args below meth c H locs 0 0 Q (F0 m 29 ls [])) (fun b => ∀ (H : Heap) (locs : List Loc) (ls : Array Slot), zIn D ad cy (WX ad cy u) A s H locs → lv_has ls 3 [] → W p l e ({ frames := 4, cells := 0, slots := 0, locals := 97 } : Room) s m args below meth c H locs 0 0 Q (F0 m 37 ls []))) b) : (fun (a : Int32) => ∀ (H : Heap) (locs : List Loc) (ls : Array Slot), zIn D ad cy (WX ad cy u) A s H locs → lv_has ls 3 [(0, .ref (ad 0)), (1, .int p1), (2, .int a)] → W p l e ({ frames := 4, cells := 0, slots := 0, locals := 97 } : Room) s m args below meth c H locs 0 0 Q (F0 m 11 ls [])) a := by
  obtain ⟨hx, hb, hml, hown, hts, hr, hlk⟩ := id C0
  refine zloop (Wh := (fun (a : Int32) => ∀ (H : Heap) (locs : List Loc) (ls : Array Slot), zIn D ad cy (WX ad cy u) A s H locs → lv_has ls 3 [(0, .ref (ad 0)), (1, .int p1), (2, .int a)] → W p l e ({ frames := 4, cells := 0, slots := 0, locals := 97 } : Room) s m args below meth c H locs 0 0 Q (F0 m 11 ls []))) (Wx := (fun (b : (Int32) ⊕ (Unit)) => zel b (fun b => ∀ (H : Heap) (locs : List Loc) (ls : Array Slot), zIn D ad cy (WX ad cy u) A s H locs → lv_has ls 3 [(2, .int b)] → W p l e ({ frames := 4, cells := 0, slots := 0, locals := 97 } : Room) s m args below meth c H locs 0 0 Q (F0 m 29 ls [])) (fun b => ∀ (H : Heap) (locs : List Loc) (ls : Array Slot), zIn D ad cy (WX ad cy u) A s H locs → lv_has ls 3 [] → W p l e ({ frames := 4, cells := 0, slots := 0, locals := 97 } : Room) s m args below meth c H locs 0 0 Q (F0 m 37 ls [])))) ?_ _ a b hit hx9
  intro a x hf hL hX H locs ls hI hl
  unfold bX9_near_11 at hf
  refine lv_iload_n (pc := 11) hx hb dX9_near_11 rfl (lv_at hl 2 rfl) ?_
  refine lv_bipush (pc := 12) (v := 99) hx hb dX9_near_12 (by decide) ?_
  refine z_icmp_gt (pc := 14) (tgt := 37) hx hb dX9_near_14 (by decide) hf (fun hf => ?_) (fun hf => ?_)
  · exact (z_elP2 (hX _ (Option.some.inj hf).symm)) _ _ _ hI (lv_sub hl [] rfl)
  refine lv_aload_n (pc := 17) hx hb dX9_near_17 rfl (lv_at hl 0 rfl) ?_
  refine z_get (pc := 18) (index := 51) hx hb hts iwX9_near_9 hown hI (xl_0 ad cy u) rfl 5 (by decide) (by decide +kernel) rfl rfl dX9_near_18 ?_
  refine lv_iload_n (pc := 21) hx hb dX9_near_21 rfl (lv_at hl 1 rfl) ?_
  refine lv_iload_n (pc := 22) hx hb dX9_near_22 rfl (lv_at hl 2 rfl) ?_
  obtain ⟨q4, hc3, hf⟩ := zbind hf
  refine zcallVi (pc := 23) (As := [.int p1, .int a]) (rest := []) ⟨hx, hb, hml, hown, hts⟩ (kX2_lawFits l D ad cy k p1 a u q4 hc3) (cwV 2 hts gX9_near_X2_lawFits rfl rfl rfl (by decide +kernel) ⟨Nat.le_of_ble_eq_true rfl, Nat.le_of_ble_eq_true rfl⟩) hI rfl (xl_27 ad cy u) rfl hl.1 rfl (Nat.le_of_ble_eq_true rfl) dX9_near_23 (Nat.zero_le _) (Nat.zero_le _) (fun H locs hI => ?_)
  refine z_if_eq (pc := 26) (tgt := 31) hx hb dX9_near_26 (by decide) hf (fun hf => ?_) (fun hf => ?_)
  · refine lv_iinc (pc := 31) (v := (a + 1)) (lv' := [(2, .int (a + 1)), (0, .ref (ad 0)), (1, .int p1)]) hx hb dX9_near_31 hl (k := 2) rfl rfl (by decide) rfl (fun ls hl => ?_)
    refine lv_goto (pc := 34) (tgt := 11) hx hb dX9_near_34 (by decide) ?_
    exact hL _ (Option.some.inj hf).symm _ _ _ hI (lv_sub hl [1, 2, 0] rfl)
  exact (z_elP1 (hX _ (Option.some.inj hf).symm)) _ _ _ hI (lv_sub hl [2] rfl)
set_option maxHeartbeats 4000000 in
set_option maxRecDepth 100000 in
theorem kX9_near (l : Launch) (D : va_G) (ad : Nat → Nat) (cy : Nat → ClassId) (k : Nat) (a1 : Int32) (u : CX) (r : Int32) (hf : fX9_near k a1 u = some r) : zCt l yX9_near wsX9_near ({ frames := 4, cells := 0, slots := 0, locals := 97 } : Room) D ad cy [.ref (ad 0), .int a1] (WX ad cy u) (some (.int r)) (WX ad cy u) := by
  refine zCt.of (cc := cX9_near) (maxL := 3) (ret := (some .int)) (own := RX9) (by decide) rfl rfl ?_
  intro p e s m below meth c A C0 hI
  obtain ⟨hx, hb, hml, hown, hts, hr, hlk⟩ := id C0
  refine z_entry (Nat.le_of_ble_eq_true rfl) (fun ls hl => ?_)
  have hl : lv_has ls 3 [(0, .ref (ad 0)), (1, .int a1)] := hl
  unfold fX9_near at hf
  refine lv_iload_n (pc := 0) hx hb dX9_near_0 rfl (lv_at hl 1 rfl) ?_
  obtain ⟨q2, hc1, hf⟩ := zbind hf
  refine zcallSi (pc := 1) (As := [.int a1]) (rest := []) ⟨hx, hb, hml, hown, hts⟩ (kX9_isLaw l a1 q2 hc1) (va_cwS 1 hts gX9_near_X9_isLaw rfl rfl rfl (by decide +kernel) ⟨Nat.le_of_ble_eq_true rfl, Nat.le_of_ble_eq_true rfl⟩) rfl hl.1 rfl (Nat.le_of_ble_eq_true rfl) dX9_near_1 (Nat.zero_le _) (Nat.zero_le _) ?_
  refine z_if_ne (pc := 4) (tgt := 9) hx hb dX9_near_4 (by decide) hf (fun hf => ?_) (fun hf => ?_)
  · refine lv_iconst (pc := 9) (v := 0) hx hb dX9_near_9 (by decide) ?_
    refine lv_istore_n (pc := 10) (lv' := [(2, .int (0 : Int32)), (0, .ref (ad 0)), (1, .int a1)]) hx hb dX9_near_10 rfl hl (by decide) rfl (fun ls hl => ?_)
    obtain ⟨b5, hb6, hf⟩ := zbind hf
    rcases b5 with b5 | b5
    · have hf := z_el1 hf
      refine lX9_near_11 C0 hb6 ?_ _ _ _ hI (lv_sub hl [1, 2, 0] rfl)
      intro H locs ls hI hl
      refine lv_iload_n (pc := 29) hx hb dX9_near_29 rfl (lv_at hl 0 rfl) ?_
      obtain rfl := zone hf
      exact z_iret (pc := 30) C0 hI dX9_near_30
    have hf := z_el2 hf
    refine lX9_near_11 C0 hb6 ?_ _ _ _ hI (lv_sub hl [1, 2, 0] rfl)
    intro H locs ls hI hl
    refine lv_bipush (pc := 37) (v := -4) hx hb dX9_near_37 (by decide) ?_
    obtain rfl := zone hf
    exact z_iret (pc := 39) C0 hI dX9_near_39
  refine lv_iconst (pc := 7) (v := -1) hx hb dX9_near_7 (by decide) ?_
  obtain rfl := zone hf
  exact z_iret (pc := 8) C0 hI dX9_near_8
set_option maxHeartbeats 4000000 in
set_option maxRecDepth 100000 in
theorem kX9_lost (l : Launch) (D : va_G) (ad : Nat → Nat) (cy : Nat → ClassId) (k : Nat) (a1 : Int32) (a2 : Int32) (a3 : Int32) (u : CX) (r : Int64) (u' : CX) (hf : fX9_lost k a1 a2 a3 u = some (r, u')) : zCt l yX9_lost wsX9_lost ({ frames := 4, cells := 0, slots := 0, locals := 93 } : Room) D ad cy [.ref (ad 0), .int a1, .int a2, .int a3] (WX ad cy u) (some (.long r)) (WX ad cy u') := by
  refine zCt.of (cc := cX9_lost) (maxL := 6) (ret := (some .long)) (own := RX9) (by decide) rfl rfl ?_
  intro p e s m below meth c A C0 hI
  obtain ⟨hx, hb, hml, hown, hts, hr, hlk⟩ := id C0
  refine z_entry (Nat.le_of_ble_eq_true rfl) (fun ls hl => ?_)
  have hl : lv_has ls 6 [(0, .ref (ad 0)), (1, .int a1), (2, .int a2), (3, .int a3)] := hl
  unfold fX9_lost at hf
  refine lv_iload_n (pc := 0) hx hb dX9_lost_0 rfl (lv_at hl 1 rfl) ?_
  obtain ⟨q2, hc1, hf⟩ := zbind hf
  refine zcallSi (pc := 1) (As := [.int a1]) (rest := []) ⟨hx, hb, hml, hown, hts⟩ (kX9_isLaw l a1 q2 hc1) (va_cwS 1 hts gX9_lost_X9_isLaw rfl rfl rfl (by decide +kernel) ⟨Nat.le_of_ble_eq_true rfl, Nat.le_of_ble_eq_true rfl⟩) rfl hl.1 rfl (Nat.le_of_ble_eq_true rfl) dX9_lost_1 (Nat.zero_le _) (Nat.zero_le _) ?_
  refine z_if_eq (pc := 4) (tgt := 36) hx hb dX9_lost_4 (by decide) hf (fun hf => ?_) (fun hf => ?_)
  · refine lv_ldc2 (pc := 36) (v := -1) hx hb hown (hts (.constantLong RX9 179 (-1)) (by decide +kernel)) dX9_lost_36 ?_
    obtain ⟨rfl, rfl⟩ := zpair hf
    exact z_lret (pc := 39) C0 hI dX9_lost_39
  refine lv_iload_n (pc := 7) hx hb dX9_lost_7 rfl (lv_at hl 2 rfl) ?_
  refine z_if_lt (pc := 8) (tgt := 36) hx hb dX9_lost_8 (by decide) hf (fun hf => ?_) (fun hf => ?_)
  · refine lv_ldc2 (pc := 36) (v := -1) hx hb hown (hts (.constantLong RX9 179 (-1)) (by decide +kernel)) dX9_lost_36 ?_
    obtain ⟨rfl, rfl⟩ := zpair hf
    exact z_lret (pc := 39) C0 hI dX9_lost_39
  refine lv_iload_n (pc := 11) hx hb dX9_lost_11 rfl (lv_at hl 2 rfl) ?_
  refine lv_bipush (pc := 12) (v := 16) hx hb dX9_lost_12 (by decide) ?_
  refine z_icmp_ge (pc := 14) (tgt := 36) hx hb dX9_lost_14 (by decide) hf (fun hf => ?_) (fun hf => ?_)
  · refine lv_ldc2 (pc := 36) (v := -1) hx hb hown (hts (.constantLong RX9 179 (-1)) (by decide +kernel)) dX9_lost_36 ?_
    obtain ⟨rfl, rfl⟩ := zpair hf
    exact z_lret (pc := 39) C0 hI dX9_lost_39
  refine lv_iload_n (pc := 17) hx hb dX9_lost_17 rfl (lv_at hl 3 rfl) ?_
  obtain ⟨q4, hc3, hf⟩ := zbind hf
  refine zcallSi (pc := 18) (As := [.int a3]) (rest := []) ⟨hx, hb, hml, hown, hts⟩ (kX9_isSide l a3 q4 hc3) (va_cwS 1 hts gX9_lost_X9_isSide rfl rfl rfl (by decide +kernel) ⟨Nat.le_of_ble_eq_true rfl, Nat.le_of_ble_eq_true rfl⟩) rfl hl.1 rfl (Nat.le_of_ble_eq_true rfl) dX9_lost_18 (Nat.zero_le _) (Nat.zero_le _) ?_
  refine z_if_eq (pc := 21) (tgt := 36) hx hb dX9_lost_21 (by decide) hf (fun hf => ?_) (fun hf => ?_)
  · refine lv_ldc2 (pc := 36) (v := -1) hx hb hown (hts (.constantLong RX9 179 (-1)) (by decide +kernel)) dX9_lost_36 ?_
    obtain ⟨rfl, rfl⟩ := zpair hf
    exact z_lret (pc := 39) C0 hI dX9_lost_39
  refine lv_aload_n (pc := 24) hx hb dX9_lost_24 rfl (lv_at hl 0 rfl) ?_
  refine z_get (pc := 25) (index := 60) hx hb hts iwX9_lost_9 hown hI (xl_0 ad cy u) rfl 6 (by decide) (by decide +kernel) rfl rfl dX9_lost_25 ?_
  refine z_get (pc := 28) (index := 237) hx hb hts iwX9_lost_4 hown hI (xl_32 ad cy u) rfl 1 (by decide) (by decide +kernel) rfl rfl dX9_lost_28 ?_
  refine lv_iload_n (pc := 31) hx hb dX9_lost_31 rfl (lv_at hl 2 rfl) ?_
  refine z_zald (pc := 32) hx hb hI (xl_33 ad cy u) 3 rfl dX9_lost_32 hf (fun v5 hf => ?_)
  refine z_if_ne (pc := 33) (tgt := 40) hx hb dX9_lost_33 (by decide) hf (fun hf => ?_) (fun hf => ?_)
  · refine lv_ldc2 (pc := 40) (v := 100) hx hb hown (hts (.constantLong RX9 235 (100)) (by decide +kernel)) dX9_lost_40 ?_
    refine lv_aload_n (pc := 43) hx hb dX9_lost_43 rfl (lv_at hl 0 rfl) ?_
    refine z_get (pc := 44) (index := 10) hx hb hts iwX9_lost_9 hown hI (xl_0 ad cy u) rfl 0 (by decide) (by decide +kernel) rfl rfl dX9_lost_44 ?_
    refine z_get (pc := 47) (index := 189) hx hb hts iwX9_lost_8 hown hI (xl_1 ad cy u) rfl 5 (by decide) (by decide +kernel) rfl rfl dX9_lost_47 ?_
    refine lv_lmul (pc := 50) hx hb dX9_lost_50 ?_
    refine z_bl hf (fun v6 hf => ?_)
    refine lv_lstore (pc := 51) (lv' := [(4, .long v6), (0, .ref (ad 0)), (1, .int a1), (2, .int a2), (3, .int a3)]) hx hb dX9_lost_51 hl (by decide) rfl (fun ls hl => ?_)
    refine lv_lload (pc := 53) hx hb dX9_lost_53 (lv_at hl 0 rfl) ?_
    refine lv_aload_n (pc := 55) hx hb dX9_lost_55 rfl (lv_at hl 1 rfl) ?_
    refine z_get (pc := 56) (index := 60) hx hb hts iwX9_lost_9 hown hI (xl_0 ad cy u) rfl 6 (by decide) (by decide +kernel) rfl rfl dX9_lost_56 ?_
    refine lv_iload_n (pc := 59) hx hb dX9_lost_59 rfl (lv_at hl 2 rfl) ?_
    refine lv_iload_n (pc := 60) hx hb dX9_lost_60 rfl (lv_at hl 3 rfl) ?_
    obtain ⟨q8, hc7, hf⟩ := zbind hf
    refine zcallVl (pc := 61) (As := [.int a1, .int a2]) (rest := [.long v6]) ⟨hx, hb, hml, hown, hts⟩ (kX4_homesBy l D ad cy k a1 a2 u q8.1 q8.2 hc7) (cwV 2 hts gX9_lost_X4_homesBy rfl rfl rfl (by decide +kernel) ⟨Nat.le_of_ble_eq_true rfl, Nat.le_of_ble_eq_true rfl⟩) hI rfl (xl_32 ad cy u) rfl hl.1 rfl (Nat.le_of_ble_eq_true rfl) dX9_lost_61 (Nat.zero_le _) (Nat.zero_le _) (fun H locs hI => ?_)
    refine lv_aload_n (pc := 64) hx hb dX9_lost_64 rfl (lv_at hl 1 rfl) ?_
    refine z_get (pc := 65) (index := 10) hx hb hts iwX9_lost_9 hown hI (xl_0 ad cy q8.2) rfl 0 (by decide) (by decide +kernel) rfl rfl dX9_lost_65 ?_
    obtain ⟨q10, hc9, hf⟩ := zbind hf
    refine zcallVl (pc := 68) (As := []) (rest := [.long q8.1, .long v6]) ⟨hx, hb, hml, hown, hts⟩ (kX8_notOther l D ad cy q8.2 q10 hc9) (cwV 0 hts gX9_lost_X8_notOther rfl rfl rfl (by decide +kernel) ⟨Nat.le_of_ble_eq_true rfl, Nat.le_of_ble_eq_true rfl⟩) hI rfl (xl_1 ad cy q8.2) rfl hl.1 rfl (Nat.le_of_ble_eq_true rfl) dX9_lost_68 (Nat.zero_le _) (Nat.zero_le _) (fun H locs hI => ?_)
    refine lv_lmul (pc := 71) hx hb dX9_lost_71 ?_
    refine lv_lsub (pc := 72) hx hb dX9_lost_72 ?_
    refine lv_lload (pc := 73) hx hb dX9_lost_73 (lv_at hl 0 rfl) ?_
    refine lv_iload_n (pc := 75) hx hb dX9_lost_75 rfl (lv_at hl 4 rfl) ?_
    obtain ⟨q12, hc11, hf⟩ := zbind hf
    refine zcallSl (pc := 76) (As := [.long (v6 - (q8.1 * q10)), .long v6, .int a3]) (rest := []) ⟨hx, hb, hml, hown, hts⟩ (kX9_lowest l k (v6 - (q8.1 * q10)) v6 a3 q12 hc11) (va_cwS 3 hts gX9_lost_X9_lowest rfl rfl rfl (by decide +kernel) ⟨Nat.le_of_ble_eq_true rfl, Nat.le_of_ble_eq_true rfl⟩) rfl hl.1 rfl (Nat.le_of_ble_eq_true rfl) dX9_lost_76 (Nat.zero_le _) (Nat.zero_le _) ?_
    obtain ⟨rfl, rfl⟩ := zpair hf
    exact z_lret (pc := 79) C0 hI dX9_lost_79
  refine lv_ldc2 (pc := 36) (v := -1) hx hb hown (hts (.constantLong RX9 179 (-1)) (by decide +kernel)) dX9_lost_36 ?_
  obtain ⟨rfl, rfl⟩ := zpair hf
  exact z_lret (pc := 39) C0 hI dX9_lost_39
set_option maxHeartbeats 4000000 in
set_option maxRecDepth 100000 in
theorem kX9_best (l : Launch) (D : va_G) (ad : Nat → Nat) (cy : Nat → ClassId) (k : Nat) (a1 : Int32) (u : CX) (r : Int32) (u' : CX) (hf : fX9_best k a1 u = some (r, u')) : zCt l yX9_best wsX9_best ({ frames := 4, cells := 0, slots := 0, locals := 92 } : Room) D ad cy [.ref (ad 0), .int a1] (WX ad cy u) (some (.int r)) (WX ad cy u') := by
  refine zCt.of (cc := cX9_best) (maxL := 2) (ret := (some .int)) (own := RX9) (by decide) rfl rfl ?_
  intro p e s m below meth c A C0 hI
  obtain ⟨hx, hb, hml, hown, hts, hr, hlk⟩ := id C0
  refine z_entry (Nat.le_of_ble_eq_true rfl) (fun ls hl => ?_)
  have hl : lv_has ls 2 [(0, .ref (ad 0)), (1, .int a1)] := hl
  unfold fX9_best at hf
  refine lv_iload_n (pc := 0) hx hb dX9_best_0 rfl (lv_at hl 1 rfl) ?_
  obtain ⟨q2, hc1, hf⟩ := zbind hf
  refine zcallSi (pc := 1) (As := [.int a1]) (rest := []) ⟨hx, hb, hml, hown, hts⟩ (kX9_isLaw l a1 q2 hc1) (va_cwS 1 hts gX9_best_X9_isLaw rfl rfl rfl (by decide +kernel) ⟨Nat.le_of_ble_eq_true rfl, Nat.le_of_ble_eq_true rfl⟩) rfl hl.1 rfl (Nat.le_of_ble_eq_true rfl) dX9_best_1 (Nat.zero_le _) (Nat.zero_le _) ?_
  refine z_if_eq (pc := 4) (tgt := 18) hx hb dX9_best_4 (by decide) hf (fun hf => ?_) (fun hf => ?_)
  · refine lv_iconst (pc := 18) (v := -1) hx hb dX9_best_18 (by decide) ?_
    obtain ⟨rfl, rfl⟩ := zpair hf
    exact z_iret (pc := 19) C0 hI dX9_best_19
  refine lv_aload_n (pc := 7) hx hb dX9_best_7 rfl (lv_at hl 0 rfl) ?_
  refine z_get (pc := 8) (index := 60) hx hb hts iwX9_best_9 hown hI (xl_0 ad cy u) rfl 6 (by decide) (by decide +kernel) rfl rfl dX9_best_8 ?_
  refine lv_iload_n (pc := 11) hx hb dX9_best_11 rfl (lv_at hl 1 rfl) ?_
  obtain ⟨q4, hc3, hf⟩ := zbind hf
  refine zcallVi (pc := 12) (As := [.int a1]) (rest := []) ⟨hx, hb, hml, hown, hts⟩ (kX4_bestFor l D ad cy k a1 u q4.1 q4.2 hc3) (cwV 1 hts gX9_best_X4_bestFor rfl rfl rfl (by decide +kernel) ⟨Nat.le_of_ble_eq_true rfl, Nat.le_of_ble_eq_true rfl⟩) hI rfl (xl_32 ad cy u) rfl hl.1 rfl (Nat.le_of_ble_eq_true rfl) dX9_best_12 (Nat.zero_le _) (Nat.zero_le _) (fun H locs hI => ?_)
  refine lv_goto (pc := 15) (tgt := 19) hx hb dX9_best_15 (by decide) ?_
  obtain ⟨rfl, rfl⟩ := zpair hf
  exact z_iret (pc := 19) C0 hI dX9_best_19
set_option maxHeartbeats 4000000 in
set_option maxRecDepth 100000 in
theorem kX9_safest (l : Launch) (D : va_G) (ad : Nat → Nat) (cy : Nat → ClassId) (k : Nat) (u : CX) (r : Int32) (u' : CX) (hf : fX9_safest k u = some (r, u')) : zCt l yX9_safest wsX9_safest ({ frames := 6, cells := 0, slots := 0, locals := 144 } : Room) D ad cy [.ref (ad 0)] (WX ad cy u) (some (.int r)) (WX ad cy u') := by
  refine zCt.of (cc := cX9_safest) (maxL := 1) (ret := (some .int)) (own := RX9) (by decide) rfl rfl ?_
  intro p e s m below meth c A C0 hI
  obtain ⟨hx, hb, hml, hown, hts, hr, hlk⟩ := id C0
  refine z_entry (Nat.le_of_ble_eq_true rfl) (fun ls hl => ?_)
  have hl : lv_has ls 1 [(0, .ref (ad 0))] := hl
  unfold fX9_safest at hf
  refine lv_aload_n (pc := 0) hx hb dX9_safest_0 rfl (lv_at hl 0 rfl) ?_
  refine z_get (pc := 1) (index := 51) hx hb hts iwX9_safest_9 hown hI (xl_0 ad cy u) rfl 5 (by decide) (by decide +kernel) rfl rfl dX9_safest_1 ?_
  obtain ⟨q2, hc1, hf⟩ := zbind hf
  refine zcallVi (pc := 4) (As := []) (rest := []) ⟨hx, hb, hml, hown, hts⟩ (kX2_fitting l D ad cy k u q2.1 q2.2 hc1) (cwV 0 hts gX9_safest_X2_fitting rfl rfl rfl (by decide +kernel) ⟨Nat.le_of_ble_eq_true rfl, Nat.le_of_ble_eq_true rfl⟩) hI rfl (xl_27 ad cy u) rfl hl.1 rfl (Nat.le_of_ble_eq_true rfl) dX9_safest_4 (Nat.zero_le _) (Nat.zero_le _) (fun H locs hI => ?_)
  refine z_if_ne (pc := 7) (tgt := 15) hx hb dX9_safest_7 (by decide) hf (fun hf => ?_) (fun hf => ?_)
  · refine lv_aload_n (pc := 15) hx hb dX9_safest_15 rfl (lv_at hl 0 rfl) ?_
    refine z_get (pc := 16) (index := 51) hx hb hts iwX9_safest_9 hown hI (xl_0 ad cy q2.2) rfl 5 (by decide) (by decide +kernel) rfl rfl dX9_safest_16 ?_
    refine lv_aload_n (pc := 19) hx hb dX9_safest_19 rfl (lv_at hl 0 rfl) ?_
    refine z_get (pc := 20) (index := 60) hx hb hts iwX9_safest_9 hown hI (xl_0 ad cy q2.2) rfl 6 (by decide) (by decide +kernel) rfl rfl dX9_safest_20 ?_
    obtain ⟨q4, hc3, hf⟩ := zbind hf
    refine zcallVi (pc := 23) (As := [.ref (ad 32)]) (rest := []) ⟨hx, hb, hml, hown, hts⟩ (kX2_safestPlates l D ad cy k q2.2 q4.1 q4.2 hc3) (cwV 1 hts gX9_safest_X2_safestPlates rfl rfl rfl (by decide +kernel) ⟨Nat.le_of_ble_eq_true rfl, Nat.le_of_ble_eq_true rfl⟩) hI rfl (xl_27 ad cy q2.2) rfl hl.1 rfl (Nat.le_of_ble_eq_true rfl) dX9_safest_23 (Nat.zero_le _) (Nat.zero_le _) (fun H locs hI => ?_)
    obtain ⟨rfl, rfl⟩ := zpair hf
    exact z_iret (pc := 26) C0 hI dX9_safest_26
  refine lv_bipush (pc := 10) (v := -4) hx hb dX9_safest_10 (by decide) ?_
  refine lv_goto (pc := 12) (tgt := 26) hx hb dX9_safest_12 (by decide) ?_
  obtain ⟨rfl, rfl⟩ := zpair hf
  exact z_iret (pc := 26) C0 hI dX9_safest_26
set_option maxHeartbeats 4000000 in
set_option maxRecDepth 100000 in
theorem kX9_drawing (l : Launch) (D : va_G) (ad : Nat → Nat) (cy : Nat → ClassId) (k : Nat) (u : CX) (r : Int32) (hf : fX9_drawing k u = some r) : zCt l yX9_drawing wsX9_drawing ({ frames := 3, cells := 0, slots := 0, locals := 70 } : Room) D ad cy [.ref (ad 0)] (WX ad cy u) (some (.int r)) (WX ad cy u) := by
  refine zCt.of (cc := cX9_drawing) (maxL := 1) (ret := (some .int)) (own := RX9) (by decide) rfl rfl ?_
  intro p e s m below meth c A C0 hI
  obtain ⟨hx, hb, hml, hown, hts, hr, hlk⟩ := id C0
  refine z_entry (Nat.le_of_ble_eq_true rfl) (fun ls hl => ?_)
  have hl : lv_has ls 1 [(0, .ref (ad 0))] := hl
  unfold fX9_drawing at hf
  refine lv_aload_n (pc := 0) hx hb dX9_drawing_0 rfl (lv_at hl 0 rfl) ?_
  refine z_get (pc := 1) (index := 60) hx hb hts iwX9_drawing_9 hown hI (xl_0 ad cy u) rfl 6 (by decide) (by decide +kernel) rfl rfl dX9_drawing_1 ?_
  refine lv_aload_n (pc := 4) hx hb dX9_drawing_4 rfl (lv_at hl 0 rfl) ?_
  refine z_get (pc := 5) (index := 35) hx hb hts iwX9_drawing_9 hown hI (xl_0 ad cy u) rfl 3 (by decide) (by decide +kernel) rfl rfl dX9_drawing_5 ?_
  obtain ⟨q2, hc1, hf⟩ := zbind hf
  refine zcallVi (pc := 8) (As := [.ref (ad 12)]) (rest := []) ⟨hx, hb, hml, hown, hts⟩ (kX4_drawnFrom l D ad cy k u q2 hc1) (cwV 1 hts gX9_drawing_X4_drawnFrom rfl rfl rfl (by decide +kernel) ⟨Nat.le_of_ble_eq_true rfl, Nat.le_of_ble_eq_true rfl⟩) hI rfl (xl_32 ad cy u) rfl hl.1 rfl (Nat.le_of_ble_eq_true rfl) dX9_drawing_8 (Nat.zero_le _) (Nat.zero_le _) (fun H locs hI => ?_)
  obtain rfl := zone hf
  exact z_iret (pc := 11) C0 hI dX9_drawing_11
set_option maxHeartbeats 4000000 in
set_option maxRecDepth 100000 in
theorem kX9_wrong (l : Launch) (D : va_G) (ad : Nat → Nat) (cy : Nat → ClassId) (k : Nat) (a1 : Int32) (u : CX) (r : Int32) (u' : CX) (hf : fX9_wrong k a1 u = some (r, u')) : zCt l yX9_wrong wsX9_wrong ({ frames := 4, cells := 0, slots := 0, locals := 93 } : Room) D ad cy [.ref (ad 0), .int a1] (WX ad cy u) (some (.int r)) (WX ad cy u') := by
  refine zCt.of (cc := cX9_wrong) (maxL := 6) (ret := (some .int)) (own := RX9) (by decide) rfl rfl ?_
  intro p e s m below meth c A C0 hI
  obtain ⟨hx, hb, hml, hown, hts, hr, hlk⟩ := id C0
  refine z_entry (Nat.le_of_ble_eq_true rfl) (fun ls hl => ?_)
  have hl : lv_has ls 6 [(0, .ref (ad 0)), (1, .int a1)] := hl
  unfold fX9_wrong at hf
  refine lv_iload_n (pc := 0) hx hb dX9_wrong_0 rfl (lv_at hl 1 rfl) ?_
  obtain ⟨q2, hc1, hf⟩ := zbind hf
  refine zcallSi (pc := 1) (As := [.int a1]) (rest := []) ⟨hx, hb, hml, hown, hts⟩ (kX9_isLaw l a1 q2 hc1) (va_cwS 1 hts gX9_wrong_X9_isLaw rfl rfl rfl (by decide +kernel) ⟨Nat.le_of_ble_eq_true rfl, Nat.le_of_ble_eq_true rfl⟩) rfl hl.1 rfl (Nat.le_of_ble_eq_true rfl) dX9_wrong_1 (Nat.zero_le _) (Nat.zero_le _) ?_
  refine z_if_ne (pc := 4) (tgt := 9) hx hb dX9_wrong_4 (by decide) hf (fun hf => ?_) (fun hf => ?_)
  · refine lv_aload_n (pc := 9) hx hb dX9_wrong_9 rfl (lv_at hl 0 rfl) ?_
    refine z_get (pc := 10) (index := 60) hx hb hts iwX9_wrong_9 hown hI (xl_0 ad cy u) rfl 6 (by decide) (by decide +kernel) rfl rfl dX9_wrong_10 ?_
    refine lv_iload_n (pc := 13) hx hb dX9_wrong_13 rfl (lv_at hl 1 rfl) ?_
    refine lv_aload_n (pc := 14) hx hb dX9_wrong_14 rfl (lv_at hl 0 rfl) ?_
    refine z_get (pc := 15) (index := 60) hx hb hts iwX9_wrong_9 hown hI (xl_0 ad cy u) rfl 6 (by decide) (by decide +kernel) rfl rfl dX9_wrong_15 ?_
    refine lv_iload_n (pc := 18) hx hb dX9_wrong_18 rfl (lv_at hl 1 rfl) ?_
    obtain ⟨q4, hc3, hf⟩ := zbind hf
    refine zcallVi (pc := 19) (As := [.int a1]) (rest := [.int a1, .ref (ad 32)]) ⟨hx, hb, hml, hown, hts⟩ (kX4_bestFor l D ad cy k a1 u q4.1 q4.2 hc3) (cwV 1 hts gX9_wrong_X4_bestFor rfl rfl rfl (by decide +kernel) ⟨Nat.le_of_ble_eq_true rfl, Nat.le_of_ble_eq_true rfl⟩) hI rfl (xl_32 ad cy u) rfl hl.1 rfl (Nat.le_of_ble_eq_true rfl) dX9_wrong_19 (Nat.zero_le _) (Nat.zero_le _) (fun H locs hI => ?_)
    obtain ⟨q6, hc5, hf⟩ := zbind hf
    refine zcallVl (pc := 22) (As := [.int a1, .int q4.1]) (rest := []) ⟨hx, hb, hml, hown, hts⟩ (kX4_homesBy l D ad cy k a1 q4.1 q4.2 q6.1 q6.2 hc5) (cwV 2 hts gX9_wrong_X4_homesBy rfl rfl rfl (by decide +kernel) ⟨Nat.le_of_ble_eq_true rfl, Nat.le_of_ble_eq_true rfl⟩) hI rfl (xl_32 ad cy q4.2) rfl hl.1 rfl (Nat.le_of_ble_eq_true rfl) dX9_wrong_22 (Nat.zero_le _) (Nat.zero_le _) (fun H locs hI => ?_)
    refine lv_aload_n (pc := 25) hx hb dX9_wrong_25 rfl (lv_at hl 0 rfl) ?_
    refine z_get (pc := 26) (index := 60) hx hb hts iwX9_wrong_9 hown hI (xl_0 ad cy q6.2) rfl 6 (by decide) (by decide +kernel) rfl rfl dX9_wrong_26 ?_
    refine lv_iload_n (pc := 29) hx hb dX9_wrong_29 rfl (lv_at hl 1 rfl) ?_
    refine lv_aload_n (pc := 30) hx hb dX9_wrong_30 rfl (lv_at hl 0 rfl) ?_
    refine z_get (pc := 31) (index := 60) hx hb hts iwX9_wrong_9 hown hI (xl_0 ad cy q6.2) rfl 6 (by decide) (by decide +kernel) rfl rfl dX9_wrong_31 ?_
    refine lv_aload_n (pc := 34) hx hb dX9_wrong_34 rfl (lv_at hl 0 rfl) ?_
    refine z_get (pc := 35) (index := 35) hx hb hts iwX9_wrong_9 hown hI (xl_0 ad cy q6.2) rfl 3 (by decide) (by decide +kernel) rfl rfl dX9_wrong_35 ?_
    obtain ⟨q8, hc7, hf⟩ := zbind hf
    refine zcallVi (pc := 38) (As := [.ref (ad 12)]) (rest := [.int a1, .ref (ad 32), .long q6.1]) ⟨hx, hb, hml, hown, hts⟩ (kX4_drawnFrom l D ad cy k q6.2 q8 hc7) (cwV 1 hts gX9_wrong_X4_drawnFrom rfl rfl rfl (by decide +kernel) ⟨Nat.le_of_ble_eq_true rfl, Nat.le_of_ble_eq_true rfl⟩) hI rfl (xl_32 ad cy q6.2) rfl hl.1 rfl (Nat.le_of_ble_eq_true rfl) dX9_wrong_38 (Nat.zero_le _) (Nat.zero_le _) (fun H locs hI => ?_)
    obtain ⟨q10, hc9, hf⟩ := zbind hf
    refine zcallVl (pc := 41) (As := [.int a1, .int q8]) (rest := [.long q6.1]) ⟨hx, hb, hml, hown, hts⟩ (kX4_homesBy l D ad cy k a1 q8 q6.2 q10.1 q10.2 hc9) (cwV 2 hts gX9_wrong_X4_homesBy rfl rfl rfl (by decide +kernel) ⟨Nat.le_of_ble_eq_true rfl, Nat.le_of_ble_eq_true rfl⟩) hI rfl (xl_32 ad cy q6.2) rfl hl.1 rfl (Nat.le_of_ble_eq_true rfl) dX9_wrong_41 (Nat.zero_le _) (Nat.zero_le _) (fun H locs hI => ?_)
    refine lv_lsub (pc := 44) hx hb dX9_wrong_44 ?_
    refine z_bl hf (fun v11 hf => ?_)
    refine lv_lstore_n (pc := 45) (lv' := [(2, .long v11), (0, .ref (ad 0)), (1, .int a1)]) hx hb dX9_wrong_45 rfl hl (by decide) rfl (fun ls hl => ?_)
    refine lv_ldc2 (pc := 46) (v := 100) hx hb hown (hts (.constantLong RX9 235 (100)) (by decide +kernel)) dX9_wrong_46 ?_
    refine lv_aload_n (pc := 49) hx hb dX9_wrong_49 rfl (lv_at hl 1 rfl) ?_
    refine z_get (pc := 50) (index := 10) hx hb hts iwX9_wrong_9 hown hI (xl_0 ad cy q10.2) rfl 0 (by decide) (by decide +kernel) rfl rfl dX9_wrong_50 ?_
    refine z_get (pc := 53) (index := 189) hx hb hts iwX9_wrong_8 hown hI (xl_1 ad cy q10.2) rfl 5 (by decide) (by decide +kernel) rfl rfl dX9_wrong_53 ?_
    refine lv_lmul (pc := 56) hx hb dX9_wrong_56 ?_
    refine lv_ldc2 (pc := 57) (v := 1000) hx hb hown (hts (.constantLong RX9 259 (1000)) (by decide +kernel)) dX9_wrong_57 ?_
    refine z_ldiv (pc := 60) hx hb dX9_wrong_60 hf (fun hf => ?_)
    refine z_bl hf (fun v12 hf => ?_)
    refine lv_lstore (pc := 61) (lv' := [(4, .long v12), (2, .long v11), (0, .ref (ad 0)), (1, .int a1)]) hx hb dX9_wrong_61 hl (by decide) rfl (fun ls hl => ?_)
    refine lv_lload (pc := 63) hx hb dX9_wrong_63 (lv_at hl 0 rfl) ?_
    refine lv_lconst (pc := 65) (v := 1) hx hb dX9_wrong_65 (by decide) ?_
    refine z_lc_ge (pc := 66) (tgt := 74) hx hb dX9_wrong_66 dX9_wrong_67 (by decide) hf (fun hf => ?_) (fun hf => ?_)
    · refine lv_lload_n (pc := 74) hx hb dX9_wrong_74 rfl (lv_at hl 1 rfl) ?_
      refine lv_aload_n (pc := 75) hx hb dX9_wrong_75 rfl (lv_at hl 2 rfl) ?_
      refine z_get (pc := 76) (index := 10) hx hb hts iwX9_wrong_9 hown hI (xl_0 ad cy q10.2) rfl 0 (by decide) (by decide +kernel) rfl rfl dX9_wrong_76 ?_
      obtain ⟨q14, hc13, hf⟩ := zbind hf
      refine zcallVl (pc := 79) (As := []) (rest := [.long v11]) ⟨hx, hb, hml, hown, hts⟩ (kX8_notOther l D ad cy q10.2 q14 hc13) (cwV 0 hts gX9_wrong_X8_notOther rfl rfl rfl (by decide +kernel) ⟨Nat.le_of_ble_eq_true rfl, Nat.le_of_ble_eq_true rfl⟩) hI rfl (xl_1 ad cy q10.2) rfl hl.1 rfl (Nat.le_of_ble_eq_true rfl) dX9_wrong_79 (Nat.zero_le _) (Nat.zero_le _) (fun H locs hI => ?_)
      refine lv_lmul (pc := 82) hx hb dX9_wrong_82 ?_
      refine lv_lload (pc := 83) hx hb dX9_wrong_83 (lv_at hl 0 rfl) ?_
      refine lv_ladd (pc := 85) hx hb dX9_wrong_85 ?_
      refine lv_lconst (pc := 86) (v := 1) hx hb dX9_wrong_86 (by decide) ?_
      refine lv_lsub (pc := 87) hx hb dX9_wrong_87 ?_
      refine lv_lload (pc := 88) hx hb dX9_wrong_88 (lv_at hl 0 rfl) ?_
      refine z_ldiv (pc := 90) hx hb dX9_wrong_90 hf (fun hf => ?_)
      refine lv_l2i (pc := 91) hx hb dX9_wrong_91 rfl ?_
      obtain ⟨rfl, rfl⟩ := zpair hf
      exact z_iret (pc := 92) C0 hI dX9_wrong_92
    refine lv_iconst (pc := 70) (v := 0) hx hb dX9_wrong_70 (by decide) ?_
    refine lv_goto (pc := 71) (tgt := 92) hx hb dX9_wrong_71 (by decide) ?_
    obtain ⟨rfl, rfl⟩ := zpair hf
    exact z_iret (pc := 92) C0 hI dX9_wrong_92
  refine lv_iconst (pc := 7) (v := -1) hx hb dX9_wrong_7 (by decide) ?_
  obtain ⟨rfl, rfl⟩ := zpair hf
  exact z_iret (pc := 8) C0 hI dX9_wrong_8
set_option maxHeartbeats 4000000 in
set_option maxRecDepth 100000 in
theorem kX9_unlike (l : Launch) (D : va_G) (ad : Nat → Nat) (cy : Nat → ClassId) (k : Nat) (a1 : Int32) (u : CX) (r : Int32) (u' : CX) (hf : fX9_unlike k a1 u = some (r, u')) : zCt l yX9_unlike wsX9_unlike ({ frames := 6, cells := 0, slots := 0, locals := 144 } : Room) D ad cy [.ref (ad 0), .int a1] (WX ad cy u) (some (.int r)) (WX ad cy u') := by
  refine zCt.of (cc := cX9_unlike) (maxL := 3) (ret := (some .int)) (own := RX9) (by decide) rfl rfl ?_
  intro p e s m below meth c A C0 hI
  obtain ⟨hx, hb, hml, hown, hts, hr, hlk⟩ := id C0
  refine z_entry (Nat.le_of_ble_eq_true rfl) (fun ls hl => ?_)
  have hl : lv_has ls 3 [(0, .ref (ad 0)), (1, .int a1)] := hl
  unfold fX9_unlike at hf
  refine lv_iload_n (pc := 0) hx hb dX9_unlike_0 rfl (lv_at hl 1 rfl) ?_
  refine z_if_lt (pc := 1) (tgt := 9) hx hb dX9_unlike_1 (by decide) hf (fun hf => ?_) (fun hf => ?_)
  · refine lv_iconst (pc := 9) (v := -1) hx hb dX9_unlike_9 (by decide) ?_
    obtain ⟨rfl, rfl⟩ := zpair hf
    exact z_iret (pc := 10) C0 hI dX9_unlike_10
  refine lv_iload_n (pc := 4) hx hb dX9_unlike_4 rfl (lv_at hl 1 rfl) ?_
  refine lv_iconst (pc := 5) (v := 2) hx hb dX9_unlike_5 (by decide) ?_
  refine z_icmp_le (pc := 6) (tgt := 11) hx hb dX9_unlike_6 (by decide) hf (fun hf => ?_) (fun hf => ?_)
  · refine lv_aload_n (pc := 11) hx hb dX9_unlike_11 rfl (lv_at hl 0 rfl) ?_
    refine z_get (pc := 12) (index := 51) hx hb hts iwX9_unlike_9 hown hI (xl_0 ad cy u) rfl 5 (by decide) (by decide +kernel) rfl rfl dX9_unlike_12 ?_
    obtain ⟨q2, hc1, hf⟩ := zbind hf
    refine zcallVi (pc := 15) (As := []) (rest := []) ⟨hx, hb, hml, hown, hts⟩ (kX2_fitting l D ad cy k u q2.1 q2.2 hc1) (cwV 0 hts gX9_unlike_X2_fitting rfl rfl rfl (by decide +kernel) ⟨Nat.le_of_ble_eq_true rfl, Nat.le_of_ble_eq_true rfl⟩) hI rfl (xl_27 ad cy u) rfl hl.1 rfl (Nat.le_of_ble_eq_true rfl) dX9_unlike_15 (Nat.zero_le _) (Nat.zero_le _) (fun H locs hI => ?_)
    refine z_if_ne (pc := 18) (tgt := 24) hx hb dX9_unlike_18 (by decide) hf (fun hf => ?_) (fun hf => ?_)
    · refine lv_aload_n (pc := 24) hx hb dX9_unlike_24 rfl (lv_at hl 0 rfl) ?_
      refine z_get (pc := 25) (index := 51) hx hb hts iwX9_unlike_9 hown hI (xl_0 ad cy q2.2) rfl 5 (by decide) (by decide +kernel) rfl rfl dX9_unlike_25 ?_
      refine lv_aload_n (pc := 28) hx hb dX9_unlike_28 rfl (lv_at hl 0 rfl) ?_
      refine z_get (pc := 29) (index := 60) hx hb hts iwX9_unlike_9 hown hI (xl_0 ad cy q2.2) rfl 6 (by decide) (by decide +kernel) rfl rfl dX9_unlike_29 ?_
      obtain ⟨q4, hc3, hf⟩ := zbind hf
      refine zcallVi (pc := 32) (As := [.ref (ad 32)]) (rest := []) ⟨hx, hb, hml, hown, hts⟩ (kX2_unlikeLaw l D ad cy k q2.2 q4.1 q4.2 hc3) (cwV 1 hts gX9_unlike_X2_unlikeLaw rfl rfl rfl (by decide +kernel) ⟨Nat.le_of_ble_eq_true rfl, Nat.le_of_ble_eq_true rfl⟩) hI rfl (xl_27 ad cy q2.2) rfl hl.1 rfl (Nat.le_of_ble_eq_true rfl) dX9_unlike_32 (Nat.zero_le _) (Nat.zero_le _) (fun H locs hI => ?_)
      refine lv_istore_n (pc := 35) (lv' := [(2, .int q4.1), (0, .ref (ad 0)), (1, .int a1)]) hx hb dX9_unlike_35 rfl hl (by decide) rfl (fun ls hl => ?_)
      refine lv_iload_n (pc := 36) hx hb dX9_unlike_36 rfl (lv_at hl 0 rfl) ?_
      refine lv_bipush (pc := 37) (v := -4) hx hb dX9_unlike_37 (by decide) ?_
      refine z_icmp_ne (pc := 39) (tgt := 45) hx hb dX9_unlike_39 (by decide) hf (fun hf => ?_) (fun hf => ?_)
      · refine lv_iload_n (pc := 45) hx hb dX9_unlike_45 rfl (lv_at hl 2 rfl) ?_
        refine lv_iconst (pc := 46) (v := 2) hx hb dX9_unlike_46 (by decide) ?_
        refine z_icmp_ne (pc := 47) (tgt := 62) hx hb dX9_unlike_47 (by decide) hf (fun hf => ?_) (fun hf => ?_)
        · refine lv_iload_n (pc := 62) hx hb dX9_unlike_62 rfl (lv_at hl 2 rfl) ?_
          refine z_if_ne (pc := 63) (tgt := 76) hx hb dX9_unlike_63 (by decide) hf (fun hf => ?_) (fun hf => ?_)
          · refine lv_iload_n (pc := 76) hx hb dX9_unlike_76 rfl (lv_at hl 0 rfl) ?_
            obtain ⟨rfl, rfl⟩ := zpair hf
            exact z_iret (pc := 77) C0 hI dX9_unlike_77
          refine lv_aload_n (pc := 66) hx hb dX9_unlike_66 rfl (lv_at hl 1 rfl) ?_
          refine z_get (pc := 67) (index := 51) hx hb hts iwX9_unlike_9 hown hI (xl_0 ad cy q4.2) rfl 5 (by decide) (by decide +kernel) rfl rfl dX9_unlike_67 ?_
          refine z_get (pc := 70) (index := 215) hx hb hts iwX9_unlike_2 hown hI (xl_27 ad cy q4.2) rfl 8 (by decide) (by decide +kernel) rfl rfl dX9_unlike_70 ?_
          refine lv_goto (pc := 73) (tgt := 77) hx hb dX9_unlike_73 (by decide) ?_
          obtain ⟨rfl, rfl⟩ := zpair hf
          exact z_iret (pc := 77) C0 hI dX9_unlike_77
        refine lv_aload_n (pc := 50) hx hb dX9_unlike_50 rfl (lv_at hl 1 rfl) ?_
        refine z_get (pc := 51) (index := 51) hx hb hts iwX9_unlike_9 hown hI (xl_0 ad cy q4.2) rfl 5 (by decide) (by decide +kernel) rfl rfl dX9_unlike_51 ?_
        refine z_get (pc := 54) (index := 215) hx hb hts iwX9_unlike_2 hown hI (xl_27 ad cy q4.2) rfl 8 (by decide) (by decide +kernel) rfl rfl dX9_unlike_54 ?_
        refine lv_iload_n (pc := 57) hx hb dX9_unlike_57 rfl (lv_at hl 0 rfl) ?_
        obtain ⟨q6, hc5, hf⟩ := zbind hf
        refine zcallSi (pc := 58) (As := [.int (xg_gleast q4.2), .int q4.1]) (rest := []) ⟨hx, hb, hml, hown, hts⟩ (kX9_farthestPart l k (xg_gleast q4.2) q4.1 q6 hc5) (va_cwS 2 hts gX9_unlike_X9_farthestPart rfl rfl rfl (by decide +kernel) ⟨Nat.le_of_ble_eq_true rfl, Nat.le_of_ble_eq_true rfl⟩) rfl hl.1 rfl (Nat.le_of_ble_eq_true rfl) dX9_unlike_58 (Nat.zero_le _) (Nat.zero_le _) ?_
        obtain ⟨rfl, rfl⟩ := zpair hf
        exact z_iret (pc := 61) C0 hI dX9_unlike_61
      refine lv_bipush (pc := 42) (v := -4) hx hb dX9_unlike_42 (by decide) ?_
      obtain ⟨rfl, rfl⟩ := zpair hf
      exact z_iret (pc := 44) C0 hI dX9_unlike_44
    refine lv_bipush (pc := 21) (v := -4) hx hb dX9_unlike_21 (by decide) ?_
    obtain ⟨rfl, rfl⟩ := zpair hf
    exact z_iret (pc := 23) C0 hI dX9_unlike_23
  refine lv_iconst (pc := 9) (v := -1) hx hb dX9_unlike_9 (by decide) ?_
  obtain ⟨rfl, rfl⟩ := zpair hf
  exact z_iret (pc := 10) C0 hI dX9_unlike_10
set_option maxHeartbeats 4000000 in
set_option maxRecDepth 100000 in
theorem lX9_trial_80 (C0 : zFix p m c cX9_trial 8 s args wsX9_trial RX9 meth (some .int)) {k : Nat} {p1 : Int32} {p2 : Int32} {p3 : Int32} {u : CX} {a : Int32 × Int32 × Int32} {b : Int32 × Int32} (hit : ziter (bX9_trial_80 k p1 p2 p3 u) k a = some b) (hx9 : (fun (b : Int32 × Int32) => ∀ (H : Heap) (locs : List Loc) (ls : Array Slot), zIn D ad cy (WX ad cy u) A s H locs → lv_has ls 8 [(3, .int p3), (4, .int b.1), (5, .int b.2)] → W p l e ({ frames := 6, cells := 0, slots := 0, locals := 144 } : Room) s m args below meth c H locs 0 0 Q (F0 m 129 ls [])) b) : (fun (a : Int32 × Int32 × Int32) => ∀ (H : Heap) (locs : List Loc) (ls : Array Slot), zIn D ad cy (WX ad cy u) A s H locs → lv_has ls 8 [(0, .ref (ad 0)), (1, .int p1), (2, .int p2), (3, .int p3), (4, .int a.1), (5, .int a.2.1), (6, .int a.2.2)] → W p l e ({ frames := 6, cells := 0, slots := 0, locals := 144 } : Room) s m args below meth c H locs 0 0 Q (F0 m 80 ls [])) a := by
  obtain ⟨hx, hb, hml, hown, hts, hr, hlk⟩ := id C0
  refine zloop (Wh := (fun (a : Int32 × Int32 × Int32) => ∀ (H : Heap) (locs : List Loc) (ls : Array Slot), zIn D ad cy (WX ad cy u) A s H locs → lv_has ls 8 [(0, .ref (ad 0)), (1, .int p1), (2, .int p2), (3, .int p3), (4, .int a.1), (5, .int a.2.1), (6, .int a.2.2)] → W p l e ({ frames := 6, cells := 0, slots := 0, locals := 144 } : Room) s m args below meth c H locs 0 0 Q (F0 m 80 ls []))) (Wx := (fun (b : Int32 × Int32) => ∀ (H : Heap) (locs : List Loc) (ls : Array Slot), zIn D ad cy (WX ad cy u) A s H locs → lv_has ls 8 [(3, .int p3), (4, .int b.1), (5, .int b.2)] → W p l e ({ frames := 6, cells := 0, slots := 0, locals := 144 } : Room) s m args below meth c H locs 0 0 Q (F0 m 129 ls []))) ?_ _ a b hit hx9
  intro a x hf hL hX H locs ls hI hl
  unfold bX9_trial_80 at hf
  refine lv_iload (pc := 80) hx hb dX9_trial_80 (lv_at hl 6 rfl) ?_
  refine lv_iload_n (pc := 82) hx hb dX9_trial_82 rfl (lv_at hl 2 rfl) ?_
  refine z_icmp_gt (pc := 83) (tgt := 129) hx hb dX9_trial_83 (by decide) hf (fun hf => ?_) (fun hf => ?_)
  · exact (hX _ (Option.some.inj hf).symm) _ _ _ hI (lv_sub hl [3, 4, 5] rfl)
  refine lv_aload_n (pc := 86) hx hb dX9_trial_86 rfl (lv_at hl 0 rfl) ?_
  refine z_get (pc := 87) (index := 51) hx hb hts iwX9_trial_9 hown hI (xl_0 ad cy u) rfl 5 (by decide) (by decide +kernel) rfl rfl dX9_trial_87 ?_
  refine lv_iload_n (pc := 90) hx hb dX9_trial_90 rfl (lv_at hl 1 rfl) ?_
  refine lv_iload_n (pc := 91) hx hb dX9_trial_91 rfl (lv_at hl 2 rfl) ?_
  refine lv_iload (pc := 92) hx hb dX9_trial_92 (lv_at hl 6 rfl) ?_
  obtain ⟨q6, hc5, hf⟩ := zbind hf
  refine zcallVi (pc := 94) (As := [.int p1, .int p2, .int a.2.2]) (rest := []) ⟨hx, hb, hml, hown, hts⟩ (kX2_leftBy l D ad cy k p1 p2 a.2.2 u q6 hc5) (cwV 3 hts gX9_trial_X2_leftBy rfl rfl rfl (by decide +kernel) ⟨Nat.le_of_ble_eq_true rfl, Nat.le_of_ble_eq_true rfl⟩) hI rfl (xl_27 ad cy u) rfl hl.1 rfl (Nat.le_of_ble_eq_true rfl) dX9_trial_94 (Nat.zero_le _) (Nat.zero_le _) (fun H locs hI => ?_)
  refine lv_istore (pc := 97) (lv' := [(7, .int q6), (0, .ref (ad 0)), (1, .int p1), (2, .int p2), (3, .int p3), (4, .int a.1), (5, .int a.2.1), (6, .int a.2.2)]) hx hb dX9_trial_97 hl (by decide) rfl (fun ls hl => ?_)
  refine lv_iload (pc := 99) hx hb dX9_trial_99 (lv_at hl 5 rfl) ?_
  refine lv_iload (pc := 101) hx hb dX9_trial_101 (lv_at hl 0 rfl) ?_
  refine z_mmax (pc := 103) hx hb (hml.trans hl.1.symm) hown (hts (.methodLink RX9 271 Lib.Math.max.name) (by decide +kernel)) (hts (.static Lib.Math.max.name) (by decide +kernel)) (hts (.initialized "java/lang/Math") (by decide +kernel)) (hts (.code Lib.Math.max.name Lib.Math.max.code 2 (some .int)) (by decide +kernel)) (Nat.le_of_ble_eq_true rfl) (Nat.le_of_ble_eq_true rfl) (Nat.zero_le _) (Nat.zero_le _) dX9_trial_103 ?_
  refine z_bi hf (fun v7 hf => ?_)
  refine lv_istore (pc := 106) (lv' := [(4, .int v7), (7, .int q6), (0, .ref (ad 0)), (1, .int p1), (2, .int p2), (3, .int p3), (5, .int a.2.1), (6, .int a.2.2)]) hx hb dX9_trial_106 hl (by decide) rfl (fun ls hl => ?_)
  refine lv_iload (pc := 108) hx hb dX9_trial_108 (lv_at hl 6 rfl) ?_
  refine lv_iload (pc := 110) hx hb dX9_trial_110 (lv_at hl 1 rfl) ?_
  refine z_if_le (pc := 112) (tgt := 119) hx hb dX9_trial_112 (by decide) hf (fun hf => ?_) (fun hf => ?_)
  · refine lv_iconst (pc := 119) (v := 0) hx hb dX9_trial_119 (by decide) ?_
    refine lv_iadd (pc := 120) hx hb dX9_trial_120 ?_
    refine z_bi hf (fun v8 hf => ?_)
    refine lv_istore (pc := 121) (lv' := [(5, .int v8), (4, .int v7), (7, .int q6), (0, .ref (ad 0)), (1, .int p1), (2, .int p2), (3, .int p3), (6, .int a.2.2)]) hx hb dX9_trial_121 hl (by decide) rfl (fun ls hl => ?_)
    refine lv_iinc (pc := 123) (v := (a.2.2 + 1)) (lv' := [(6, .int (a.2.2 + 1)), (5, .int v8), (4, .int v7), (7, .int q6), (0, .ref (ad 0)), (1, .int p1), (2, .int p2), (3, .int p3)]) hx hb dX9_trial_123 hl (k := 7) rfl rfl (by decide) rfl (fun ls hl => ?_)
    refine lv_goto (pc := 126) (tgt := 80) hx hb dX9_trial_126 (by decide) ?_
    exact hL _ (Option.some.inj hf).symm _ _ _ hI (lv_sub hl [4, 5, 6, 7, 2, 1, 0] rfl)
  refine lv_iconst (pc := 115) (v := 1) hx hb dX9_trial_115 (by decide) ?_
  refine lv_goto (pc := 116) (tgt := 120) hx hb dX9_trial_116 (by decide) ?_
  refine lv_iadd (pc := 120) hx hb dX9_trial_120 ?_
  refine z_bi hf (fun v9 hf => ?_)
  refine lv_istore (pc := 121) (lv' := [(5, .int v9), (4, .int v7), (7, .int q6), (0, .ref (ad 0)), (1, .int p1), (2, .int p2), (3, .int p3), (6, .int a.2.2)]) hx hb dX9_trial_121 hl (by decide) rfl (fun ls hl => ?_)
  refine lv_iinc (pc := 123) (v := (a.2.2 + 1)) (lv' := [(6, .int (a.2.2 + 1)), (5, .int v9), (4, .int v7), (7, .int q6), (0, .ref (ad 0)), (1, .int p1), (2, .int p2), (3, .int p3)]) hx hb dX9_trial_123 hl (k := 7) rfl rfl (by decide) rfl (fun ls hl => ?_)
  refine lv_goto (pc := 126) (tgt := 80) hx hb dX9_trial_126 (by decide) ?_
  exact hL _ (Option.some.inj hf).symm _ _ _ hI (lv_sub hl [4, 5, 6, 7, 2, 1, 0] rfl)
set_option maxHeartbeats 4000000 in
set_option maxRecDepth 100000 in
theorem qX9_trial_j41 (C0 : zFix p m c cX9_trial 8 s args wsX9_trial RX9 meth (some .int)) {k : Nat} {p1 : Int32} {p2 : Int32} {p3 : Int32} {u : CX} {r : Int32} {u' : CX} (hf : jX9_trial_j41 k p1 p2 p3 u = some (r, u')) {H : Heap} {locs : List Loc} {ls : Array Slot} (hI : zIn D ad cy (WX ad cy u) A s H locs) (hl : lv_has ls 8 [(0, .ref (ad 0)), (1, .int p1), (2, .int p2), (3, .int p3)]) : W p l e ({ frames := 6, cells := 0, slots := 0, locals := 144 } : Room) s m args below meth c H locs 0 0 (zMQ D cy below args s A (some (.int r)) (WX ad cy u')) (F0 m 41 ls []) := by
  obtain ⟨hx, hb, hml, hown, hts, hr, hlk⟩ := id C0
  unfold jX9_trial_j41 at hf
  refine lv_aload_n (pc := 41) hx hb dX9_trial_41 rfl (lv_at hl 0 rfl) ?_
  refine z_get (pc := 42) (index := 51) hx hb hts iwX9_trial_9 hown hI (xl_0 ad cy u) rfl 5 (by decide) (by decide +kernel) rfl rfl dX9_trial_42 ?_
  obtain ⟨q4, hc3, hf⟩ := zbind hf
  refine zcallVi (pc := 45) (As := []) (rest := []) ⟨hx, hb, hml, hown, hts⟩ (kX2_fitting l D ad cy k u q4.1 q4.2 hc3) (cwV 0 hts gX9_trial_X2_fitting rfl rfl rfl (by decide +kernel) ⟨Nat.le_of_ble_eq_true rfl, Nat.le_of_ble_eq_true rfl⟩) hI rfl (xl_27 ad cy u) rfl hl.1 rfl (Nat.le_of_ble_eq_true rfl) dX9_trial_45 (Nat.zero_le _) (Nat.zero_le _) (fun H locs hI => ?_)
  refine z_if_ne (pc := 48) (tgt := 54) hx hb dX9_trial_48 (by decide) hf (fun hf => ?_) (fun hf => ?_)
  · refine lv_iload_n (pc := 54) hx hb dX9_trial_54 rfl (lv_at hl 3 rfl) ?_
    refine lv_bipush (pc := 55) (v := 20) hx hb dX9_trial_55 (by decide) ?_
    refine z_icmp_gt (pc := 57) (tgt := 71) hx hb dX9_trial_57 (by decide) hf (fun hf => ?_) (fun hf => ?_)
    · refine lv_iconst (pc := 71) (v := 0) hx hb dX9_trial_71 (by decide) ?_
      refine lv_istore (pc := 72) (lv' := [(4, .int (0 : Int32)), (0, .ref (ad 0)), (1, .int p1), (2, .int p2), (3, .int p3)]) hx hb dX9_trial_72 hl (by decide) rfl (fun ls hl => ?_)
      refine lv_iconst (pc := 74) (v := 0) hx hb dX9_trial_74 (by decide) ?_
      refine lv_istore (pc := 75) (lv' := [(5, .int (0 : Int32)), (4, .int (0 : Int32)), (0, .ref (ad 0)), (1, .int p1), (2, .int p2), (3, .int p3)]) hx hb dX9_trial_75 hl (by decide) rfl (fun ls hl => ?_)
      refine lv_iconst (pc := 77) (v := 0) hx hb dX9_trial_77 (by decide) ?_
      refine lv_istore (pc := 78) (lv' := [(6, .int (0 : Int32)), (5, .int (0 : Int32)), (4, .int (0 : Int32)), (0, .ref (ad 0)), (1, .int p1), (2, .int p2), (3, .int p3)]) hx hb dX9_trial_78 hl (by decide) rfl (fun ls hl => ?_)
      obtain ⟨b10, hb11, hf⟩ := zbind hf
      refine lX9_trial_80 C0 hb11 ?_ _ _ _ hI (lv_sub hl [3, 4, 5, 6, 2, 1, 0] rfl)
      intro H locs ls hI hl
      refine lv_iload_n (pc := 129) hx hb dX9_trial_129 rfl (lv_at hl 0 rfl) ?_
      refine lv_bipush (pc := 130) (v := 21) hx hb dX9_trial_130 (by decide) ?_
      refine z_icmp_ne (pc := 132) (tgt := 140) hx hb dX9_trial_132 (by decide) hf (fun hf => ?_) (fun hf => ?_)
      · refine lv_iload (pc := 140) hx hb dX9_trial_140 (lv_at hl 2 rfl) ?_
        obtain ⟨rfl, rfl⟩ := zpair hf
        exact z_iret (pc := 142) C0 hI dX9_trial_142
      refine lv_iload (pc := 135) hx hb dX9_trial_135 (lv_at hl 1 rfl) ?_
      refine lv_goto (pc := 137) (tgt := 142) hx hb dX9_trial_137 (by decide) ?_
      obtain ⟨rfl, rfl⟩ := zpair hf
      exact z_iret (pc := 142) C0 hI dX9_trial_142
    refine lv_aload_n (pc := 60) hx hb dX9_trial_60 rfl (lv_at hl 0 rfl) ?_
    refine z_get (pc := 61) (index := 51) hx hb hts iwX9_trial_9 hown hI (xl_0 ad cy q4.2) rfl 5 (by decide) (by decide +kernel) rfl rfl dX9_trial_61 ?_
    refine lv_iload_n (pc := 64) hx hb dX9_trial_64 rfl (lv_at hl 1 rfl) ?_
    refine lv_iload_n (pc := 65) hx hb dX9_trial_65 rfl (lv_at hl 2 rfl) ?_
    refine lv_iload_n (pc := 66) hx hb dX9_trial_66 rfl (lv_at hl 3 rfl) ?_
    obtain ⟨q13, hc12, hf⟩ := zbind hf
    refine zcallVi (pc := 67) (As := [.int p1, .int p2, .int p3]) (rest := []) ⟨hx, hb, hml, hown, hts⟩ (kX2_leftBy l D ad cy k p1 p2 p3 q4.2 q13 hc12) (cwV 3 hts gX9_trial_X2_leftBy rfl rfl rfl (by decide +kernel) ⟨Nat.le_of_ble_eq_true rfl, Nat.le_of_ble_eq_true rfl⟩) hI rfl (xl_27 ad cy q4.2) rfl hl.1 rfl (Nat.le_of_ble_eq_true rfl) dX9_trial_67 (Nat.zero_le _) (Nat.zero_le _) (fun H locs hI => ?_)
    obtain ⟨rfl, rfl⟩ := zpair hf
    exact z_iret (pc := 70) C0 hI dX9_trial_70
  refine lv_bipush (pc := 51) (v := -4) hx hb dX9_trial_51 (by decide) ?_
  obtain ⟨rfl, rfl⟩ := zpair hf
  exact z_iret (pc := 53) C0 hI dX9_trial_53
set_option maxHeartbeats 4000000 in
set_option maxRecDepth 100000 in
theorem kX9_trial (l : Launch) (D : va_G) (ad : Nat → Nat) (cy : Nat → ClassId) (k : Nat) (a1 : Int32) (a2 : Int32) (a3 : Int32) (u : CX) (r : Int32) (u' : CX) (hf : fX9_trial k a1 a2 a3 u = some (r, u')) : zCt l yX9_trial wsX9_trial ({ frames := 6, cells := 0, slots := 0, locals := 144 } : Room) D ad cy [.ref (ad 0), .int a1, .int a2, .int a3] (WX ad cy u) (some (.int r)) (WX ad cy u') := by
  refine zCt.of (cc := cX9_trial) (maxL := 8) (ret := (some .int)) (own := RX9) (by decide) rfl rfl ?_
  intro p e s m below meth c A C0 hI
  obtain ⟨hx, hb, hml, hown, hts, hr, hlk⟩ := id C0
  refine z_entry (Nat.le_of_ble_eq_true rfl) (fun ls hl => ?_)
  have hl : lv_has ls 8 [(0, .ref (ad 0)), (1, .int a1), (2, .int a2), (3, .int a3)] := hl
  unfold fX9_trial at hf
  refine lv_iload_n (pc := 0) hx hb dX9_trial_0 rfl (lv_at hl 1 rfl) ?_
  obtain ⟨q2, hc1, hf⟩ := zbind hf
  refine zcallSi (pc := 1) (As := [.int a1]) (rest := []) ⟨hx, hb, hml, hown, hts⟩ (kX9_isPart l a1 q2 hc1) (va_cwS 1 hts gX9_trial_X9_isPart rfl rfl rfl (by decide +kernel) ⟨Nat.le_of_ble_eq_true rfl, Nat.le_of_ble_eq_true rfl⟩) rfl hl.1 rfl (Nat.le_of_ble_eq_true rfl) dX9_trial_1 (Nat.zero_le _) (Nat.zero_le _) ?_
  refine z_if_eq (pc := 4) (tgt := 39) hx hb dX9_trial_4 (by decide) hf (fun hf => ?_) (fun hf => ?_)
  · refine lv_iconst (pc := 39) (v := -1) hx hb dX9_trial_39 (by decide) ?_
    obtain ⟨rfl, rfl⟩ := zpair hf
    exact z_iret (pc := 40) C0 hI dX9_trial_40
  refine lv_iload_n (pc := 7) hx hb dX9_trial_7 rfl (lv_at hl 2 rfl) ?_
  refine lv_iconst (pc := 8) (v := 1) hx hb dX9_trial_8 (by decide) ?_
  refine z_icmp_lt (pc := 9) (tgt := 39) hx hb dX9_trial_9 (by decide) hf (fun hf => ?_) (fun hf => ?_)
  · refine lv_iconst (pc := 39) (v := -1) hx hb dX9_trial_39 (by decide) ?_
    obtain ⟨rfl, rfl⟩ := zpair hf
    exact z_iret (pc := 40) C0 hI dX9_trial_40
  refine lv_iload_n (pc := 12) hx hb dX9_trial_12 rfl (lv_at hl 2 rfl) ?_
  refine lv_bipush (pc := 13) (v := 20) hx hb dX9_trial_13 (by decide) ?_
  refine z_icmp_gt (pc := 15) (tgt := 39) hx hb dX9_trial_15 (by decide) hf (fun hf => ?_) (fun hf => ?_)
  · refine lv_iconst (pc := 39) (v := -1) hx hb dX9_trial_39 (by decide) ?_
    obtain ⟨rfl, rfl⟩ := zpair hf
    exact z_iret (pc := 40) C0 hI dX9_trial_40
  refine lv_iload_n (pc := 18) hx hb dX9_trial_18 rfl (lv_at hl 3 rfl) ?_
  refine z_if_lt (pc := 19) (tgt := 39) hx hb dX9_trial_19 (by decide) hf (fun hf => ?_) (fun hf => ?_)
  · refine lv_iconst (pc := 39) (v := -1) hx hb dX9_trial_39 (by decide) ?_
    obtain ⟨rfl, rfl⟩ := zpair hf
    exact z_iret (pc := 40) C0 hI dX9_trial_40
  refine lv_iload_n (pc := 22) hx hb dX9_trial_22 rfl (lv_at hl 3 rfl) ?_
  refine lv_bipush (pc := 23) (v := 22) hx hb dX9_trial_23 (by decide) ?_
  refine z_icmp_gt (pc := 25) (tgt := 39) hx hb dX9_trial_25 (by decide) hf (fun hf => ?_) (fun hf => ?_)
  · refine lv_iconst (pc := 39) (v := -1) hx hb dX9_trial_39 (by decide) ?_
    obtain ⟨rfl, rfl⟩ := zpair hf
    exact z_iret (pc := 40) C0 hI dX9_trial_40
  refine lv_iload_n (pc := 28) hx hb dX9_trial_28 rfl (lv_at hl 3 rfl) ?_
  refine lv_bipush (pc := 29) (v := 20) hx hb dX9_trial_29 (by decide) ?_
  refine z_icmp_gt (pc := 31) (tgt := 41) hx hb dX9_trial_31 (by decide) hf (fun hf => ?_) (fun hf => ?_)
  · exact qX9_trial_j41 C0 hf hI (lv_sub hl [0, 1, 2, 3] rfl)
  refine lv_iload_n (pc := 34) hx hb dX9_trial_34 rfl (lv_at hl 3 rfl) ?_
  refine lv_iload_n (pc := 35) hx hb dX9_trial_35 rfl (lv_at hl 2 rfl) ?_
  refine z_icmp_le (pc := 36) (tgt := 41) hx hb dX9_trial_36 (by decide) hf (fun hf => ?_) (fun hf => ?_)
  · exact qX9_trial_j41 C0 hf hI (lv_sub hl [0, 1, 2, 3] rfl)
  refine lv_iconst (pc := 39) (v := -1) hx hb dX9_trial_39 (by decide) ?_
  obtain ⟨rfl, rfl⟩ := zpair hf
  exact z_iret (pc := 40) C0 hI dX9_trial_40
set_option maxHeartbeats 4000000 in
set_option maxRecDepth 100000 in
theorem kX9_sheet (l : Launch) (D : va_G) (ad : Nat → Nat) (cy : Nat → ClassId) (k : Nat) (a1 : Int32) (a2 : Int32) (a3 : Int32) (u : CX) (r : Int32) (u' : CX) (hf : fX9_sheet k a1 a2 a3 u = some (r, u')) : zCt l yX9_sheet wsX9_sheet ({ frames := 1, cells := 0, slots := 0, locals := 23 } : Room) D ad cy [.ref (ad 0), .int a1, .int a2, .int a3] (WX ad cy u) (some (.int r)) (WX ad cy u') := by
  refine zCt.of (cc := cX9_sheet) (maxL := 4) (ret := (some .int)) (own := RX9) (by decide) rfl rfl ?_
  intro p e s m below meth c A C0 hI
  obtain ⟨hx, hb, hml, hown, hts, hr, hlk⟩ := id C0
  refine z_entry (Nat.le_of_ble_eq_true rfl) (fun ls hl => ?_)
  have hl : lv_has ls 4 [(0, .ref (ad 0)), (1, .int a1), (2, .int a2), (3, .int a3)] := hl
  unfold fX9_sheet at hf
  refine lv_iload_n (pc := 0) hx hb dX9_sheet_0 rfl (lv_at hl 1 rfl) ?_
  obtain ⟨q2, hc1, hf⟩ := zbind hf
  refine zcallSi (pc := 1) (As := [.int a1]) (rest := []) ⟨hx, hb, hml, hown, hts⟩ (kX9_isSheet l a1 q2 hc1) (va_cwS 1 hts gX9_sheet_X9_isSheet rfl rfl rfl (by decide +kernel) ⟨Nat.le_of_ble_eq_true rfl, Nat.le_of_ble_eq_true rfl⟩) rfl hl.1 rfl (Nat.le_of_ble_eq_true rfl) dX9_sheet_1 (Nat.zero_le _) (Nat.zero_le _) ?_
  refine z_if_eq (pc := 4) (tgt := 20) hx hb dX9_sheet_4 (by decide) hf (fun hf => ?_) (fun hf => ?_)
  · refine lv_iconst (pc := 20) (v := -1) hx hb dX9_sheet_20 (by decide) ?_
    obtain ⟨rfl, rfl⟩ := zpair hf
    exact z_iret (pc := 21) C0 hI dX9_sheet_21
  refine lv_iload_n (pc := 7) hx hb dX9_sheet_7 rfl (lv_at hl 2 rfl) ?_
  obtain ⟨q4, hc3, hf⟩ := zbind hf
  refine zcallSi (pc := 8) (As := [.int a2]) (rest := []) ⟨hx, hb, hml, hown, hts⟩ (kX9_isLane l a2 q4 hc3) (va_cwS 1 hts gX9_sheet_X9_isLane rfl rfl rfl (by decide +kernel) ⟨Nat.le_of_ble_eq_true rfl, Nat.le_of_ble_eq_true rfl⟩) rfl hl.1 rfl (Nat.le_of_ble_eq_true rfl) dX9_sheet_8 (Nat.zero_le _) (Nat.zero_le _) ?_
  refine z_if_eq (pc := 11) (tgt := 20) hx hb dX9_sheet_11 (by decide) hf (fun hf => ?_) (fun hf => ?_)
  · refine lv_iconst (pc := 20) (v := -1) hx hb dX9_sheet_20 (by decide) ?_
    obtain ⟨rfl, rfl⟩ := zpair hf
    exact z_iret (pc := 21) C0 hI dX9_sheet_21
  refine lv_iload_n (pc := 14) hx hb dX9_sheet_14 rfl (lv_at hl 3 rfl) ?_
  refine lv_bipush (pc := 15) (v := 48) hx hb dX9_sheet_15 (by decide) ?_
  refine z_icmp_le (pc := 17) (tgt := 22) hx hb dX9_sheet_17 (by decide) hf (fun hf => ?_) (fun hf => ?_)
  · refine lv_iload_n (pc := 22) hx hb dX9_sheet_22 rfl (lv_at hl 3 rfl) ?_
    refine z_if_ge (pc := 23) (tgt := 29) hx hb dX9_sheet_23 (by decide) hf (fun hf => ?_) (fun hf => ?_)
    · refine lv_aload_n (pc := 29) hx hb dX9_sheet_29 rfl (lv_at hl 0 rfl) ?_
      refine z_get (pc := 30) (index := 75) hx hb hts iwX9_sheet_9 hown hI (xl_0 ad cy u) rfl 8 (by decide) (by decide +kernel) rfl rfl dX9_sheet_30 ?_
      refine lv_iload_n (pc := 33) hx hb dX9_sheet_33 rfl (lv_at hl 1 rfl) ?_
      refine z_aald (pc := 34) hx hb hI (xl_38 ad cy u) 4 rfl rfl (F := fun j => ad (39 + 2 * j)) (fun _ _ => rfl) dX9_sheet_34 hf (fun j5 hj5 hf => ?_)
      refine lv_iload_n (pc := 35) hx hb dX9_sheet_35 rfl (lv_at hl 2 rfl) ?_
      refine lv_iload_n (pc := 36) hx hb dX9_sheet_36 rfl (lv_at hl 3 rfl) ?_
      obtain ⟨q7, hc6, hf⟩ := zbind hf
      refine zcallVv (pc := 37) (As := [.int a2, .int a3]) (rest := []) ⟨hx, hb, hml, hown, hts⟩ (kX6_renew l D ad cy k j5 hj5 a2 a3 u q7 hc6) (cwV 2 hts gX9_sheet_X6_renew rfl rfl rfl (by decide +kernel) ⟨Nat.le_of_ble_eq_true rfl, Nat.le_of_ble_eq_true rfl⟩) hI rfl (xl_sheet ad cy u hj5) rfl hl.1 rfl (Nat.le_of_ble_eq_true rfl) dX9_sheet_37 (Nat.zero_le _) (Nat.zero_le _) (fun H locs hI => ?_)
      refine lv_iconst (pc := 40) (v := 1) hx hb dX9_sheet_40 (by decide) ?_
      obtain ⟨rfl, rfl⟩ := zpair hf
      exact z_iret (pc := 41) C0 hI dX9_sheet_41
    refine lv_bipush (pc := 26) (v := -14) hx hb dX9_sheet_26 (by decide) ?_
    obtain ⟨rfl, rfl⟩ := zpair hf
    exact z_iret (pc := 28) C0 hI dX9_sheet_28
  refine lv_iconst (pc := 20) (v := -1) hx hb dX9_sheet_20 (by decide) ?_
  obtain ⟨rfl, rfl⟩ := zpair hf
  exact z_iret (pc := 21) C0 hI dX9_sheet_21
set_option maxHeartbeats 4000000 in
set_option maxRecDepth 100000 in
theorem kX9_lay (l : Launch) (D : va_G) (ad : Nat → Nat) (cy : Nat → ClassId) (a1 : Int32) (a2 : Int32) (a3 : Int32) (u : CX) (r : Int32) (u' : CX) (hf : fX9_lay a1 a2 a3 u = some (r, u')) : zCt l yX9_lay wsX9_lay ({ frames := 1, cells := 0, slots := 0, locals := 22 } : Room) D ad cy [.ref (ad 0), .int a1, .int a2, .int a3] (WX ad cy u) (some (.int r)) (WX ad cy u') := by
  refine zCt.of (cc := cX9_lay) (maxL := 6) (ret := (some .int)) (own := RX9) (by decide) rfl rfl ?_
  intro p e s m below meth c A C0 hI
  obtain ⟨hx, hb, hml, hown, hts, hr, hlk⟩ := id C0
  refine z_entry (Nat.le_of_ble_eq_true rfl) (fun ls hl => ?_)
  have hl : lv_has ls 6 [(0, .ref (ad 0)), (1, .int a1), (2, .int a2), (3, .int a3)] := hl
  unfold fX9_lay at hf
  refine lv_iload_n (pc := 0) hx hb dX9_lay_0 rfl (lv_at hl 1 rfl) ?_
  obtain ⟨q2, hc1, hf⟩ := zbind hf
  refine zcallSi (pc := 1) (As := [.int a1]) (rest := []) ⟨hx, hb, hml, hown, hts⟩ (kX9_isSheet l a1 q2 hc1) (va_cwS 1 hts gX9_lay_X9_isSheet rfl rfl rfl (by decide +kernel) ⟨Nat.le_of_ble_eq_true rfl, Nat.le_of_ble_eq_true rfl⟩) rfl hl.1 rfl (Nat.le_of_ble_eq_true rfl) dX9_lay_1 (Nat.zero_le _) (Nat.zero_le _) ?_
  refine z_if_ne (pc := 4) (tgt := 9) hx hb dX9_lay_4 (by decide) hf (fun hf => ?_) (fun hf => ?_)
  · refine lv_aload_n (pc := 9) hx hb dX9_lay_9 rfl (lv_at hl 0 rfl) ?_
    refine z_get (pc := 10) (index := 75) hx hb hts iwX9_lay_9 hown hI (xl_0 ad cy u) rfl 8 (by decide) (by decide +kernel) rfl rfl dX9_lay_10 ?_
    refine lv_iload_n (pc := 13) hx hb dX9_lay_13 rfl (lv_at hl 1 rfl) ?_
    refine z_aald (pc := 14) hx hb hI (xl_38 ad cy u) 4 rfl rfl (F := fun j => ad (39 + 2 * j)) (fun _ _ => rfl) dX9_lay_14 hf (fun j3 hj3 hf => ?_)
    refine lv_astore (pc := 15) (lv' := [(4, .ref (ad (39 + 2 * j3))), (0, .ref (ad 0)), (1, .int a1), (2, .int a2), (3, .int a3)]) hx hb dX9_lay_15 hl (by decide) rfl (fun ls hl => ?_)
    refine lv_aload (pc := 17) hx hb dX9_lay_17 (lv_at hl 0 rfl) ?_
    refine lv_aload (pc := 19) hx hb dX9_lay_19 (lv_at hl 0 rfl) ?_
    refine z_get (pc := 21) (index := 283) hx hb hts iwX9_lay_6 hown hI (xl_sheet ad cy u hj3) rfl 1 (by decide) (by decide +kernel) rfl rfl dX9_lay_21 ?_
    refine lv_iload_n (pc := 24) hx hb dX9_lay_24 rfl (lv_at hl 3 rfl) ?_
    obtain ⟨q5, hc4, hf⟩ := zbind hf
    refine zcallVi (pc := 25) (As := [.int (xg_slane u j3), .int a2]) (rest := []) ⟨hx, hb, hml, hown, hts⟩ (kX6_faultAt l D ad cy j3 hj3 (xg_slane u j3) a2 u q5 hc4) (cwV 2 hts gX9_lay_X6_faultAt rfl rfl rfl (by decide +kernel) ⟨Nat.le_of_ble_eq_true rfl, Nat.le_of_ble_eq_true rfl⟩) hI rfl (xl_sheet ad cy u hj3) rfl hl.1 rfl (Nat.le_of_ble_eq_true rfl) dX9_lay_25 (Nat.zero_le _) (Nat.zero_le _) (fun H locs hI => ?_)
    refine lv_istore (pc := 28) (lv' := [(5, .int q5), (4, .ref (ad (39 + 2 * j3))), (0, .ref (ad 0)), (1, .int a1), (2, .int a2), (3, .int a3)]) hx hb dX9_lay_28 hl (by decide) rfl (fun ls hl => ?_)
    refine lv_iload (pc := 30) hx hb dX9_lay_30 (lv_at hl 0 rfl) ?_
    refine z_if_eq (pc := 32) (tgt := 41) hx hb dX9_lay_32 (by decide) hf (fun hf => ?_) (fun hf => ?_)
    · refine lv_aload (pc := 41) hx hb dX9_lay_41 (lv_at hl 1 rfl) ?_
      refine lv_iload_n (pc := 43) hx hb dX9_lay_43 rfl (lv_at hl 4 rfl) ?_
      refine lv_iload_n (pc := 44) hx hb dX9_lay_44 rfl (lv_at hl 5 rfl) ?_
      obtain ⟨q7, hc6, hf⟩ := zbind hf
      refine zcallVv (pc := 45) (As := [.int a2, .int a3]) (rest := []) ⟨hx, hb, hml, hown, hts⟩ (kX6_put l D ad cy j3 hj3 a2 a3 u q7 hc6) (cwV 2 hts gX9_lay_X6_put rfl rfl rfl (by decide +kernel) ⟨Nat.le_of_ble_eq_true rfl, Nat.le_of_ble_eq_true rfl⟩) hI rfl (xl_sheet ad cy u hj3) rfl hl.1 rfl (Nat.le_of_ble_eq_true rfl) dX9_lay_45 (Nat.zero_le _) (Nat.zero_le _) (fun H locs hI => ?_)
      refine lv_iconst (pc := 48) (v := 1) hx hb dX9_lay_48 (by decide) ?_
      obtain ⟨rfl, rfl⟩ := zpair hf
      exact z_iret (pc := 49) C0 hI dX9_lay_49
    refine lv_bipush (pc := 35) (v := -10) hx hb dX9_lay_35 (by decide) ?_
    refine lv_iload (pc := 37) hx hb dX9_lay_37 (lv_at hl 0 rfl) ?_
    refine lv_isub (pc := 39) hx hb dX9_lay_39 ?_
    obtain ⟨rfl, rfl⟩ := zpair hf
    exact z_iret (pc := 40) C0 hI dX9_lay_40
  refine lv_iconst (pc := 7) (v := -1) hx hb dX9_lay_7 (by decide) ?_
  obtain ⟨rfl, rfl⟩ := zpair hf
  exact z_iret (pc := 8) C0 hI dX9_lay_8
set_option maxHeartbeats 4000000 in
set_option maxRecDepth 100000 in
theorem lX9_read_45 (C0 : zFix p m c cX9_read 9 s args wsX9_read RX9 meth (some .int)) {k : Nat} {js : Nat} {p2 : Int32} {p3 : Int32} {p4 : Int32} {u : CX} (hjs : js < 4) {a : Int32 × Int32 × Int32} {b : (Int32) ⊕ (Unit) ⊕ (Int32 × Int32)} (hit : ziter (bX9_read_45 k js p2 p3 p4 u) k a = some b) (hx9 : (fun (b : (Int32) ⊕ (Unit) ⊕ (Int32 × Int32)) => zel b (fun b => ∀ (H : Heap) (locs : List Loc) (ls : Array Slot), zIn D ad cy (WX ad cy u) A s H locs → lv_has ls 9 [(8, .int b)] → W p l e ({ frames := 3, cells := 0, slots := 0, locals := 73 } : Room) s m args below meth c H locs 0 0 Q (F0 m 90 ls [])) (fun b => zel b (fun b => ∀ (H : Heap) (locs : List Loc) (ls : Array Slot), zIn D ad cy (WX ad cy u) A s H locs → lv_has ls 9 [] → W p l e ({ frames := 3, cells := 0, slots := 0, locals := 73 } : Room) s m args below meth c H locs 0 0 Q (F0 m 114 ls [])) (fun b => ∀ (H : Heap) (locs : List Loc) (ls : Array Slot), zIn D ad cy (WX ad cy u) A s H locs → lv_has ls 9 [(0, .ref (ad 0)), (3, .int p3), (5, .ref (ad (39 + 2 * js))), (6, .int b.1), (7, .int b.2)] → W p l e ({ frames := 3, cells := 0, slots := 0, locals := 73 } : Room) s m args below meth c H locs 0 0 Q (F0 m 126 ls [])))) b) : (fun (a : Int32 × Int32 × Int32) => ∀ (H : Heap) (locs : List Loc) (ls : Array Slot), zIn D ad cy (WX ad cy u) A s H locs → lv_has ls 9 [(0, .ref (ad 0)), (2, .int p2), (3, .int p3), (4, .int p4), (5, .ref (ad (39 + 2 * js))), (6, .int a.1), (7, .int a.2.1), (8, .int a.2.2)] → W p l e ({ frames := 3, cells := 0, slots := 0, locals := 73 } : Room) s m args below meth c H locs 0 0 Q (F0 m 45 ls [])) a := by
  obtain ⟨hx, hb, hml, hown, hts, hr, hlk⟩ := id C0
  refine zloop (Wh := (fun (a : Int32 × Int32 × Int32) => ∀ (H : Heap) (locs : List Loc) (ls : Array Slot), zIn D ad cy (WX ad cy u) A s H locs → lv_has ls 9 [(0, .ref (ad 0)), (2, .int p2), (3, .int p3), (4, .int p4), (5, .ref (ad (39 + 2 * js))), (6, .int a.1), (7, .int a.2.1), (8, .int a.2.2)] → W p l e ({ frames := 3, cells := 0, slots := 0, locals := 73 } : Room) s m args below meth c H locs 0 0 Q (F0 m 45 ls []))) (Wx := (fun (b : (Int32) ⊕ (Unit) ⊕ (Int32 × Int32)) => zel b (fun b => ∀ (H : Heap) (locs : List Loc) (ls : Array Slot), zIn D ad cy (WX ad cy u) A s H locs → lv_has ls 9 [(8, .int b)] → W p l e ({ frames := 3, cells := 0, slots := 0, locals := 73 } : Room) s m args below meth c H locs 0 0 Q (F0 m 90 ls [])) (fun b => zel b (fun b => ∀ (H : Heap) (locs : List Loc) (ls : Array Slot), zIn D ad cy (WX ad cy u) A s H locs → lv_has ls 9 [] → W p l e ({ frames := 3, cells := 0, slots := 0, locals := 73 } : Room) s m args below meth c H locs 0 0 Q (F0 m 114 ls [])) (fun b => ∀ (H : Heap) (locs : List Loc) (ls : Array Slot), zIn D ad cy (WX ad cy u) A s H locs → lv_has ls 9 [(0, .ref (ad 0)), (3, .int p3), (5, .ref (ad (39 + 2 * js))), (6, .int b.1), (7, .int b.2)] → W p l e ({ frames := 3, cells := 0, slots := 0, locals := 73 } : Room) s m args below meth c H locs 0 0 Q (F0 m 126 ls []))))) ?_ _ a b hit hx9
  intro a x hf hL hX H locs ls hI hl
  unfold bX9_read_45 at hf
  refine lv_iload (pc := 45) hx hb dX9_read_45 (lv_at hl 7 rfl) ?_
  refine lv_iload (pc := 47) hx hb dX9_read_47 (lv_at hl 3 rfl) ?_
  refine z_icmp_ge (pc := 49) (tgt := 126) hx hb dX9_read_49 (by decide) hf (fun hf => ?_) (fun hf => ?_)
  · have h9 := hX _ (Option.some.inj hf).symm
    have h9 := z_elP2 h9
    have h9 := z_elP2 h9
    exact h9 _ _ _ hI (lv_sub hl [0, 2, 4, 5, 6] rfl)
  refine lv_iload (pc := 52) hx hb dX9_read_52 (lv_at hl 5 rfl) ?_
  refine z_if_ne (pc := 54) (tgt := 126) hx hb dX9_read_54 (by decide) hf (fun hf => ?_) (fun hf => ?_)
  · have h9 := hX _ (Option.some.inj hf).symm
    have h9 := z_elP2 h9
    have h9 := z_elP2 h9
    exact h9 _ _ _ hI (lv_sub hl [0, 2, 4, 5, 6] rfl)
  refine lv_aload (pc := 57) hx hb dX9_read_57 (lv_at hl 4 rfl) ?_
  refine lv_iload_n (pc := 59) hx hb dX9_read_59 rfl (lv_at hl 1 rfl) ?_
  refine lv_iload_n (pc := 60) hx hb dX9_read_60 rfl (lv_at hl 2 rfl) ?_
  refine lv_iconst (pc := 61) (v := 4) hx hb dX9_read_61 (by decide) ?_
  refine lv_iload (pc := 62) hx hb dX9_read_62 (lv_at hl 7 rfl) ?_
  refine lv_imul (pc := 64) hx hb dX9_read_64 ?_
  refine lv_iadd (pc := 65) hx hb dX9_read_65 ?_
  obtain ⟨q7, hc6, hf⟩ := zbind hf
  refine zcallVi (pc := 66) (As := [.int p2, .int (p3 + ((4 : Int32) * a.2.2))]) (rest := []) ⟨hx, hb, hml, hown, hts⟩ (kX6_faultOfHome l D ad cy k js hjs p2 (p3 + ((4 : Int32) * a.2.2)) u q7 hc6) (cwV 2 hts gX9_read_X6_faultOfHome rfl rfl rfl (by decide +kernel) ⟨Nat.le_of_ble_eq_true rfl, Nat.le_of_ble_eq_true rfl⟩) hI rfl (xl_sheet ad cy u hjs) rfl hl.1 rfl (Nat.le_of_ble_eq_true rfl) dX9_read_66 (Nat.zero_le _) (Nat.zero_le _) (fun H locs hI => ?_)
  refine lv_istore (pc := 69) (lv' := [(6, .int q7), (0, .ref (ad 0)), (2, .int p2), (3, .int p3), (4, .int p4), (5, .ref (ad (39 + 2 * js))), (7, .int a.2.1), (8, .int a.2.2)]) hx hb dX9_read_69 hl (by decide) rfl (fun ls hl => ?_)
  refine lv_iload (pc := 71) hx hb dX9_read_71 (lv_at hl 0 rfl) ?_
  refine z_if_ne (pc := 73) (tgt := 120) hx hb dX9_read_73 (by decide) hf (fun hf => ?_) (fun hf => ?_)
  · refine lv_iinc (pc := 120) (v := (a.2.2 + 1)) (lv' := [(8, .int (a.2.2 + 1)), (6, .int q7), (0, .ref (ad 0)), (2, .int p2), (3, .int p3), (4, .int p4), (5, .ref (ad (39 + 2 * js))), (7, .int a.2.1)]) hx hb dX9_read_120 hl (k := 7) rfl rfl (by decide) rfl (fun ls hl => ?_)
    refine lv_goto (pc := 123) (tgt := 45) hx hb dX9_read_123 (by decide) ?_
    exact hL _ (Option.some.inj hf).symm _ _ _ hI (lv_sub hl [2, 3, 4, 5, 6, 1, 7, 0] rfl)
  refine lv_aload (pc := 76) hx hb dX9_read_76 (lv_at hl 5 rfl) ?_
  refine lv_iload_n (pc := 78) hx hb dX9_read_78 rfl (lv_at hl 3 rfl) ?_
  refine lv_iconst (pc := 79) (v := 4) hx hb dX9_read_79 (by decide) ?_
  refine lv_iload (pc := 80) hx hb dX9_read_80 (lv_at hl 7 rfl) ?_
  refine lv_imul (pc := 82) hx hb dX9_read_82 ?_
  refine lv_iadd (pc := 83) hx hb dX9_read_83 ?_
  obtain ⟨q9, hc8, hf⟩ := zbind hf
  refine zcallVi (pc := 84) (As := [.int (p3 + ((4 : Int32) * a.2.2))]) (rest := []) ⟨hx, hb, hml, hown, hts⟩ (kX6_isHome l D ad cy k js hjs (p3 + ((4 : Int32) * a.2.2)) u q9 hc8) (cwV 1 hts gX9_read_X6_isHome rfl rfl rfl (by decide +kernel) ⟨Nat.le_of_ble_eq_true rfl, Nat.le_of_ble_eq_true rfl⟩) hI rfl (xl_sheet ad cy u hjs) rfl hl.1 rfl (Nat.le_of_ble_eq_true rfl) dX9_read_84 (Nat.zero_le _) (Nat.zero_le _) (fun H locs hI => ?_)
  refine z_if_ne (pc := 87) (tgt := 96) hx hb dX9_read_87 (by decide) hf (fun hf => ?_) (fun hf => ?_)
  · refine lv_aload_n (pc := 96) hx hb dX9_read_96 rfl (lv_at hl 1 rfl) ?_
    refine z_get (pc := 97) (index := 35) hx hb hts iwX9_read_9 hown hI (xl_0 ad cy u) rfl 3 (by decide) (by decide +kernel) rfl rfl dX9_read_97 ?_
    obtain ⟨q11, hc10, hf⟩ := zbind hf
    refine zcallVi (pc := 100) (As := []) (rest := []) ⟨hx, hb, hml, hown, hts⟩ (kX3_sorties l D ad cy u q11 hc10) (cwV 0 hts gX9_read_X3_sorties rfl rfl rfl (by decide +kernel) ⟨Nat.le_of_ble_eq_true rfl, Nat.le_of_ble_eq_true rfl⟩) hI rfl (xl_12 ad cy u) rfl hl.1 rfl (Nat.le_of_ble_eq_true rfl) dX9_read_100 (Nat.zero_le _) (Nat.zero_le _) (fun H locs hI => ?_)
    refine lv_iload (pc := 103) hx hb dX9_read_103 (lv_at hl 7 rfl) ?_
    refine lv_iadd (pc := 105) hx hb dX9_read_105 ?_
    refine lv_iconst (pc := 106) (v := 1) hx hb dX9_read_106 (by decide) ?_
    refine lv_iadd (pc := 107) hx hb dX9_read_107 ?_
    refine lv_sipush (pc := 108) (v := 999) hx hb dX9_read_108 (by decide) ?_
    refine z_icmp_le (pc := 111) (tgt := 117) hx hb dX9_read_111 (by decide) hf (fun hf => ?_) (fun hf => ?_)
    · refine lv_iinc (pc := 117) (v := (a.2.1 + 1)) (lv' := [(7, .int (a.2.1 + 1)), (6, .int q7), (0, .ref (ad 0)), (2, .int p2), (3, .int p3), (4, .int p4), (5, .ref (ad (39 + 2 * js))), (8, .int a.2.2)]) hx hb dX9_read_117 hl (k := 6) rfl rfl (by decide) rfl (fun ls hl => ?_)
      refine lv_iinc (pc := 120) (v := (a.2.2 + 1)) (lv' := [(8, .int (a.2.2 + 1)), (7, .int (a.2.1 + 1)), (6, .int q7), (0, .ref (ad 0)), (2, .int p2), (3, .int p3), (4, .int p4), (5, .ref (ad (39 + 2 * js)))]) hx hb dX9_read_120 hl (k := 7) rfl rfl (by decide) rfl (fun ls hl => ?_)
      refine lv_goto (pc := 123) (tgt := 45) hx hb dX9_read_123 (by decide) ?_
      exact hL _ (Option.some.inj hf).symm _ _ _ hI (lv_sub hl [3, 4, 5, 6, 7, 2, 1, 0] rfl)
    have h9 := hX _ (Option.some.inj hf).symm
    have h9 := z_elP2 h9
    have h9 := z_elP1 h9
    exact h9 _ _ _ hI (lv_sub hl [] rfl)
  have h9 := hX _ (Option.some.inj hf).symm
  have h9 := z_elP1 h9
  exact h9 _ _ _ hI (lv_sub hl [7] rfl)
set_option maxHeartbeats 4000000 in
set_option maxRecDepth 100000 in
theorem kX9_read (l : Launch) (D : va_G) (ad : Nat → Nat) (cy : Nat → ClassId) (k : Nat) (a1 : Int32) (a2 : Int32) (a3 : Int32) (a4 : Int32) (u : CX) (r : Int32) (u' : CX) (hf : fX9_read k a1 a2 a3 a4 u = some (r, u')) : zCt l yX9_read wsX9_read ({ frames := 3, cells := 0, slots := 0, locals := 73 } : Room) D ad cy [.ref (ad 0), .int a1, .int a2, .int a3, .int a4] (WX ad cy u) (some (.int r)) (WX ad cy u') := by
  refine zCt.of (cc := cX9_read) (maxL := 9) (ret := (some .int)) (own := RX9) (by decide) rfl rfl ?_
  intro p e s m below meth c A C0 hI
  obtain ⟨hx, hb, hml, hown, hts, hr, hlk⟩ := id C0
  refine z_entry (Nat.le_of_ble_eq_true rfl) (fun ls hl => ?_)
  have hl : lv_has ls 9 [(0, .ref (ad 0)), (1, .int a1), (2, .int a2), (3, .int a3), (4, .int a4)] := hl
  unfold fX9_read at hf
  refine lv_iload_n (pc := 0) hx hb dX9_read_0 rfl (lv_at hl 1 rfl) ?_
  obtain ⟨q2, hc1, hf⟩ := zbind hf
  refine zcallSi (pc := 1) (As := [.int a1]) (rest := []) ⟨hx, hb, hml, hown, hts⟩ (kX9_isSheet l a1 q2 hc1) (va_cwS 1 hts gX9_read_X9_isSheet rfl rfl rfl (by decide +kernel) ⟨Nat.le_of_ble_eq_true rfl, Nat.le_of_ble_eq_true rfl⟩) rfl hl.1 rfl (Nat.le_of_ble_eq_true rfl) dX9_read_1 (Nat.zero_le _) (Nat.zero_le _) ?_
  refine z_if_eq (pc := 4) (tgt := 26) hx hb dX9_read_4 (by decide) hf (fun hf => ?_) (fun hf => ?_)
  · refine lv_iconst (pc := 26) (v := -1) hx hb dX9_read_26 (by decide) ?_
    obtain ⟨rfl, rfl⟩ := zpair hf
    exact z_iret (pc := 27) C0 hI dX9_read_27
  refine lv_iload_n (pc := 7) hx hb dX9_read_7 rfl (lv_at hl 2 rfl) ?_
  obtain ⟨q4, hc3, hf⟩ := zbind hf
  refine zcallSi (pc := 8) (As := [.int a2]) (rest := []) ⟨hx, hb, hml, hown, hts⟩ (kX9_isLane l a2 q4 hc3) (va_cwS 1 hts gX9_read_X9_isLane rfl rfl rfl (by decide +kernel) ⟨Nat.le_of_ble_eq_true rfl, Nat.le_of_ble_eq_true rfl⟩) rfl hl.1 rfl (Nat.le_of_ble_eq_true rfl) dX9_read_8 (Nat.zero_le _) (Nat.zero_le _) ?_
  refine z_if_eq (pc := 11) (tgt := 26) hx hb dX9_read_11 (by decide) hf (fun hf => ?_) (fun hf => ?_)
  · refine lv_iconst (pc := 26) (v := -1) hx hb dX9_read_26 (by decide) ?_
    obtain ⟨rfl, rfl⟩ := zpair hf
    exact z_iret (pc := 27) C0 hI dX9_read_27
  refine lv_iload (pc := 14) hx hb dX9_read_14 (lv_at hl 4 rfl) ?_
  refine z_if_lt (pc := 16) (tgt := 26) hx hb dX9_read_16 (by decide) hf (fun hf => ?_) (fun hf => ?_)
  · refine lv_iconst (pc := 26) (v := -1) hx hb dX9_read_26 (by decide) ?_
    obtain ⟨rfl, rfl⟩ := zpair hf
    exact z_iret (pc := 27) C0 hI dX9_read_27
  refine lv_iload (pc := 19) hx hb dX9_read_19 (lv_at hl 4 rfl) ?_
  refine lv_bipush (pc := 21) (v := 12) hx hb dX9_read_21 (by decide) ?_
  refine z_icmp_le (pc := 23) (tgt := 28) hx hb dX9_read_23 (by decide) hf (fun hf => ?_) (fun hf => ?_)
  · refine lv_aload_n (pc := 28) hx hb dX9_read_28 rfl (lv_at hl 0 rfl) ?_
    refine z_get (pc := 29) (index := 75) hx hb hts iwX9_read_9 hown hI (xl_0 ad cy u) rfl 8 (by decide) (by decide +kernel) rfl rfl dX9_read_29 ?_
    refine lv_iload_n (pc := 32) hx hb dX9_read_32 rfl (lv_at hl 1 rfl) ?_
    refine z_aald (pc := 33) hx hb hI (xl_38 ad cy u) 4 rfl rfl (F := fun j => ad (39 + 2 * j)) (fun _ _ => rfl) dX9_read_33 hf (fun j5 hj5 hf => ?_)
    refine lv_astore (pc := 34) (lv' := [(5, .ref (ad (39 + 2 * j5))), (0, .ref (ad 0)), (1, .int a1), (2, .int a2), (3, .int a3), (4, .int a4)]) hx hb dX9_read_34 hl (by decide) rfl (fun ls hl => ?_)
    refine lv_iconst (pc := 36) (v := 0) hx hb dX9_read_36 (by decide) ?_
    refine lv_istore (pc := 37) (lv' := [(6, .int (0 : Int32)), (5, .ref (ad (39 + 2 * j5))), (0, .ref (ad 0)), (1, .int a1), (2, .int a2), (3, .int a3), (4, .int a4)]) hx hb dX9_read_37 hl (by decide) rfl (fun ls hl => ?_)
    refine lv_iconst (pc := 39) (v := 0) hx hb dX9_read_39 (by decide) ?_
    refine lv_istore (pc := 40) (lv' := [(7, .int (0 : Int32)), (6, .int (0 : Int32)), (5, .ref (ad (39 + 2 * j5))), (0, .ref (ad 0)), (1, .int a1), (2, .int a2), (3, .int a3), (4, .int a4)]) hx hb dX9_read_40 hl (by decide) rfl (fun ls hl => ?_)
    refine lv_iconst (pc := 42) (v := 0) hx hb dX9_read_42 (by decide) ?_
    refine lv_istore (pc := 43) (lv' := [(8, .int (0 : Int32)), (7, .int (0 : Int32)), (6, .int (0 : Int32)), (5, .ref (ad (39 + 2 * j5))), (0, .ref (ad 0)), (1, .int a1), (2, .int a2), (3, .int a3), (4, .int a4)]) hx hb dX9_read_43 hl (by decide) rfl (fun ls hl => ?_)
    obtain ⟨b12, hb13, hf⟩ := zbind hf
    rcases b12 with b12 | b12
    · have hf := z_el1 hf
      refine lX9_read_45 C0 hj5 hb13 ?_ _ _ _ hI (lv_sub hl [4, 6, 7, 8, 3, 2, 1, 0] rfl)
      intro H locs ls hI hl
      refine lv_bipush (pc := 90) (v := -20) hx hb dX9_read_90 (by decide) ?_
      refine lv_iload (pc := 92) hx hb dX9_read_92 (lv_at hl 0 rfl) ?_
      refine lv_isub (pc := 94) hx hb dX9_read_94 ?_
      obtain ⟨rfl, rfl⟩ := zpair hf
      exact z_iret (pc := 95) C0 hI dX9_read_95
    have hf := z_el2 hf
    rcases b12 with b12 | b12
    · have hf := z_el1 hf
      refine lX9_read_45 C0 hj5 hb13 ?_ _ _ _ hI (lv_sub hl [4, 6, 7, 8, 3, 2, 1, 0] rfl)
      intro H locs ls hI hl
      refine lv_bipush (pc := 114) (v := -3) hx hb dX9_read_114 (by decide) ?_
      obtain ⟨rfl, rfl⟩ := zpair hf
      exact z_iret (pc := 116) C0 hI dX9_read_116
    have hf := z_el2 hf
    refine lX9_read_45 C0 hj5 hb13 ?_ _ _ _ hI (lv_sub hl [4, 6, 7, 8, 3, 2, 1, 0] rfl)
    intro H locs ls hI hl
    refine lv_aload_n (pc := 126) hx hb dX9_read_126 rfl (lv_at hl 0 rfl) ?_
    refine lv_aload (pc := 127) hx hb dX9_read_127 (lv_at hl 2 rfl) ?_
    refine lv_iload_n (pc := 129) hx hb dX9_read_129 rfl (lv_at hl 1 rfl) ?_
    refine lv_iload (pc := 130) hx hb dX9_read_130 (lv_at hl 4 rfl) ?_
    obtain ⟨q15, hc14, hf⟩ := zbind hf
    refine zcallVv (pc := 132) (As := [.ref (ad (39 + 2 * j5)), .int a3, .int b12.2]) (rest := []) ⟨hx, hb, hml, hown, hts⟩ (kX9_takeHomes l D ad cy k j5 hj5 a3 b12.2 u q15 hc14) (cwV 3 hts gX9_read_X9_takeHomes rfl rfl rfl (by decide +kernel) ⟨Nat.le_of_ble_eq_true rfl, Nat.le_of_ble_eq_true rfl⟩) hI rfl (xl_0 ad cy u) rfl hl.1 rfl (Nat.le_of_ble_eq_true rfl) dX9_read_132 (Nat.zero_le _) (Nat.zero_le _) (fun H locs hI => ?_)
    refine lv_aload_n (pc := 135) hx hb dX9_read_135 rfl (lv_at hl 0 rfl) ?_
    refine lv_iload (pc := 136) hx hb dX9_read_136 (lv_at hl 3 rfl) ?_
    refine z_put (wf := WX ad cy) (pc := 138) (index := 80) hx hb hts iwX9_read_9 tyX9 tyX9_ok nmX9 hown hI (xl_0 ad cy q15) rfl 9 (by decide) (by decide +kernel) rfl rfl rfl rfl (Nat.le_of_ble_eq_true rfl) dX9_read_138 (xw_torn ad cy q15 b12.1) hf (fun u16 H locs hI hf => ?_)
    refine lv_iload (pc := 141) hx hb dX9_read_141 (lv_at hl 4 rfl) ?_
    obtain ⟨rfl, rfl⟩ := zpair hf
    exact z_iret (pc := 143) C0 hI dX9_read_143
  refine lv_iconst (pc := 26) (v := -1) hx hb dX9_read_26 (by decide) ?_
  obtain ⟨rfl, rfl⟩ := zpair hf
  exact z_iret (pc := 27) C0 hI dX9_read_27
set_option maxHeartbeats 4000000 in
set_option maxRecDepth 100000 in
theorem kX9_torn (l : Launch) (D : va_G) (ad : Nat → Nat) (cy : Nat → ClassId) (u : CX) (r : Int32) (hf : fX9_torn u = some r) : zCt l yX9_torn wsX9_torn ({ frames := 0, cells := 0, slots := 0, locals := 0 } : Room) D ad cy [.ref (ad 0)] (WX ad cy u) (some (.int r)) (WX ad cy u) := by
  refine zCt.of (cc := cX9_torn) (maxL := 1) (ret := (some .int)) (own := RX9) (by decide) rfl rfl ?_
  intro p e s m below meth c A C0 hI
  obtain ⟨hx, hb, hml, hown, hts, hr, hlk⟩ := id C0
  refine z_entry (Nat.le_of_ble_eq_true rfl) (fun ls hl => ?_)
  have hl : lv_has ls 1 [(0, .ref (ad 0))] := hl
  unfold fX9_torn at hf
  refine lv_aload_n (pc := 0) hx hb dX9_torn_0 rfl (lv_at hl 0 rfl) ?_
  refine z_get (pc := 1) (index := 80) hx hb hts iwX9_torn_9 hown hI (xl_0 ad cy u) rfl 9 (by decide) (by decide +kernel) rfl rfl dX9_torn_1 ?_
  obtain rfl := zone hf
  exact z_iret (pc := 4) C0 hI dX9_torn_4
set_option maxHeartbeats 4000000 in
set_option maxRecDepth 100000 in
theorem kX9_count (l : Launch) (D : va_G) (ad : Nat → Nat) (cy : Nat → ClassId) (k : Nat) (a1 : Int32) (u : CX) (r : Int32) (hf : fX9_count k a1 u = some r) : zCt l yX9_count wsX9_count ({ frames := 2, cells := 0, slots := 0, locals := 41 } : Room) D ad cy [.ref (ad 0), .int a1] (WX ad cy u) (some (.int r)) (WX ad cy u) := by
  refine zCt.of (cc := cX9_count) (maxL := 2) (ret := (some .int)) (own := RX9) (by decide) rfl rfl ?_
  intro p e s m below meth c A C0 hI
  obtain ⟨hx, hb, hml, hown, hts, hr, hlk⟩ := id C0
  refine z_entry (Nat.le_of_ble_eq_true rfl) (fun ls hl => ?_)
  have hl : lv_has ls 2 [(0, .ref (ad 0)), (1, .int a1)] := hl
  unfold fX9_count at hf
  refine lv_iload_n (pc := 0) hx hb dX9_count_0 rfl (lv_at hl 1 rfl) ?_
  refine z_swk (pc := 1) (kc := 0) (tgt := 52) hx hb dX9_count_1 rfl (by decide) (by decide) (by decide) hf (fun hf => ?_) (fun n0 hf => ?_)
  · refine lv_aload_n (pc := 52) hx hb dX9_count_52 rfl (lv_at hl 0 rfl) ?_
    refine z_get (pc := 53) (index := 35) hx hb hts iwX9_count_9 hown hI (xl_0 ad cy u) rfl 3 (by decide) (by decide +kernel) rfl rfl dX9_count_53 ?_
    obtain ⟨q11, hc10, hf⟩ := zbind hf
    refine zcallVi (pc := 56) (As := []) (rest := []) ⟨hx, hb, hml, hown, hts⟩ (kX3_sorties l D ad cy u q11 hc10) (cwV 0 hts gX9_count_X3_sorties rfl rfl rfl (by decide +kernel) ⟨Nat.le_of_ble_eq_true rfl, Nat.le_of_ble_eq_true rfl⟩) hI rfl (xl_12 ad cy u) rfl hl.1 rfl (Nat.le_of_ble_eq_true rfl) dX9_count_56 (Nat.zero_le _) (Nat.zero_le _) (fun H locs hI => ?_)
    obtain rfl := zone hf
    exact z_iret (pc := 59) C0 hI dX9_count_59
  refine z_swk (pc := 1) (kc := 1) (tgt := 60) hx hb dX9_count_1 rfl (by decide) (by decide) (by decide) hf (fun hf => ?_) (fun n1 hf => ?_)
  · refine lv_aload_n (pc := 60) hx hb dX9_count_60 rfl (lv_at hl 0 rfl) ?_
    refine z_get (pc := 61) (index := 35) hx hb hts iwX9_count_9 hown hI (xl_0 ad cy u) rfl 3 (by decide) (by decide +kernel) rfl rfl dX9_count_61 ?_
    obtain ⟨q9, hc8, hf⟩ := zbind hf
    refine zcallVi (pc := 64) (As := []) (rest := []) ⟨hx, hb, hml, hown, hts⟩ (kX3_allHomes l D ad cy u q9 hc8) (cwV 0 hts gX9_count_X3_allHomes rfl rfl rfl (by decide +kernel) ⟨Nat.le_of_ble_eq_true rfl, Nat.le_of_ble_eq_true rfl⟩) hI rfl (xl_12 ad cy u) rfl hl.1 rfl (Nat.le_of_ble_eq_true rfl) dX9_count_64 (Nat.zero_le _) (Nat.zero_le _) (fun H locs hI => ?_)
    obtain rfl := zone hf
    exact z_iret (pc := 67) C0 hI dX9_count_67
  refine z_swk (pc := 1) (kc := 2) (tgt := 68) hx hb dX9_count_1 rfl (by decide) (by decide) (by decide) hf (fun hf => ?_) (fun n2 hf => ?_)
  · refine lv_aload_n (pc := 68) hx hb dX9_count_68 rfl (lv_at hl 0 rfl) ?_
    refine z_get (pc := 69) (index := 42) hx hb hts iwX9_count_9 hown hI (xl_0 ad cy u) rfl 4 (by decide) (by decide +kernel) rfl rfl dX9_count_69 ?_
    obtain ⟨q7, hc6, hf⟩ := zbind hf
    refine zcallVi (pc := 72) (As := []) (rest := []) ⟨hx, hb, hml, hown, hts⟩ (kX0_allWrecks l D ad cy k u q7 hc6) (cwV 0 hts gX9_count_X0_allWrecks rfl rfl rfl (by decide +kernel) ⟨Nat.le_of_ble_eq_true rfl, Nat.le_of_ble_eq_true rfl⟩) hI rfl (xl_23 ad cy u) rfl hl.1 rfl (Nat.le_of_ble_eq_true rfl) dX9_count_72 (Nat.zero_le _) (Nat.zero_le _) (fun H locs hI => ?_)
    obtain rfl := zone hf
    exact z_iret (pc := 75) C0 hI dX9_count_75
  refine z_swk (pc := 1) (kc := 3) (tgt := 76) hx hb dX9_count_1 rfl (by decide) (by decide) (by decide) hf (fun hf => ?_) (fun n3 hf => ?_)
  · refine lv_aload_n (pc := 76) hx hb dX9_count_76 rfl (lv_at hl 0 rfl) ?_
    refine z_get (pc := 77) (index := 42) hx hb hts iwX9_count_9 hown hI (xl_0 ad cy u) rfl 4 (by decide) (by decide +kernel) rfl rfl dX9_count_77 ?_
    obtain ⟨q5, hc4, hf⟩ := zbind hf
    refine zcallVi (pc := 80) (As := []) (rest := []) ⟨hx, hb, hml, hown, hts⟩ (kX0_allTried l D ad cy k u q5 hc4) (cwV 0 hts gX9_count_X0_allTried rfl rfl rfl (by decide +kernel) ⟨Nat.le_of_ble_eq_true rfl, Nat.le_of_ble_eq_true rfl⟩) hI rfl (xl_23 ad cy u) rfl hl.1 rfl (Nat.le_of_ble_eq_true rfl) dX9_count_80 (Nat.zero_le _) (Nat.zero_le _) (fun H locs hI => ?_)
    obtain rfl := zone hf
    exact z_iret (pc := 83) C0 hI dX9_count_83
  refine z_swk (pc := 1) (kc := 4) (tgt := 84) hx hb dX9_count_1 rfl (by decide) (by decide) (by decide) hf (fun hf => ?_) (fun n4 hf => ?_)
  · refine lv_aload_n (pc := 84) hx hb dX9_count_84 rfl (lv_at hl 0 rfl) ?_
    refine z_get (pc := 85) (index := 35) hx hb hts iwX9_count_9 hown hI (xl_0 ad cy u) rfl 3 (by decide) (by decide +kernel) rfl rfl dX9_count_85 ?_
    refine z_get (pc := 88) (index := 167) hx hb hts iwX9_count_3 hown hI (xl_12 ad cy u) rfl 3 (by decide) (by decide +kernel) rfl rfl dX9_count_88 ?_
    obtain rfl := zone hf
    exact z_iret (pc := 91) C0 hI dX9_count_91
  refine z_swk (pc := 1) (kc := 5) (tgt := 92) hx hb dX9_count_1 rfl (by decide) (by decide) (by decide) hf (fun hf => ?_) (fun n5 hf => ?_)
  · refine lv_aload_n (pc := 92) hx hb dX9_count_92 rfl (lv_at hl 0 rfl) ?_
    refine z_get (pc := 93) (index := 69) hx hb hts iwX9_count_9 hown hI (xl_0 ad cy u) rfl 7 (by decide) (by decide +kernel) rfl rfl dX9_count_93 ?_
    refine z_get (pc := 96) (index := 148) hx hb hts iwX9_count_1 hown hI (xl_36 ad cy u) rfl 3 (by decide) (by decide +kernel) rfl rfl dX9_count_96 ?_
    obtain rfl := zone hf
    exact z_iret (pc := 99) C0 hI dX9_count_99
  refine z_swk (pc := 1) (kc := 6) (tgt := 100) hx hb dX9_count_1 rfl (by decide) (by decide) (by decide) hf (fun hf => ?_) (fun n6 hf => ?_)
  · refine lv_aload_n (pc := 100) hx hb dX9_count_100 rfl (lv_at hl 0 rfl) ?_
    refine z_get (pc := 101) (index := 19) hx hb hts iwX9_count_9 hown hI (xl_0 ad cy u) rfl 1 (by decide) (by decide +kernel) rfl rfl dX9_count_101 ?_
    refine z_get (pc := 104) (index := 88) hx hb hts iwX9_count_7 hown hI (xl_4 ad cy u) rfl 1 (by decide) (by decide +kernel) rfl rfl dX9_count_104 ?_
    obtain rfl := zone hf
    exact z_iret (pc := 107) C0 hI dX9_count_107
  refine z_swk (pc := 1) (kc := 7) (tgt := 108) hx hb dX9_count_1 rfl (by decide) (by decide) (by decide) hf (fun hf => ?_) (fun n7 hf => ?_)
  · refine lv_aload_n (pc := 108) hx hb dX9_count_108 rfl (lv_at hl 0 rfl) ?_
    refine z_get (pc := 109) (index := 75) hx hb hts iwX9_count_9 hown hI (xl_0 ad cy u) rfl 8 (by decide) (by decide +kernel) rfl rfl dX9_count_109 ?_
    refine lv_iconst (pc := 112) (v := 0) hx hb dX9_count_112 (by decide) ?_
    refine z_aald (pc := 113) hx hb hI (xl_38 ad cy u) 4 rfl rfl (F := fun j => ad (39 + 2 * j)) (fun _ _ => rfl) dX9_count_113 hf (fun j2 hj2 hf => ?_)
    refine z_get (pc := 114) (index := 283) hx hb hts iwX9_count_6 hown hI (xl_sheet ad cy u hj2) rfl 1 (by decide) (by decide +kernel) rfl rfl dX9_count_114 ?_
    refine lv_iconst (pc := 117) (v := -1) hx hb dX9_count_117 (by decide) ?_
    refine z_icmp_ne (pc := 118) (tgt := 126) hx hb dX9_count_118 (by decide) hf (fun hf => ?_) (fun hf => ?_)
    · refine lv_aload_n (pc := 126) hx hb dX9_count_126 rfl (lv_at hl 0 rfl) ?_
      refine z_get (pc := 127) (index := 75) hx hb hts iwX9_count_9 hown hI (xl_0 ad cy u) rfl 8 (by decide) (by decide +kernel) rfl rfl dX9_count_127 ?_
      refine lv_iconst (pc := 130) (v := 0) hx hb dX9_count_130 (by decide) ?_
      refine z_aald (pc := 131) hx hb hI (xl_38 ad cy u) 4 rfl rfl (F := fun j => ad (39 + 2 * j)) (fun _ _ => rfl) dX9_count_131 hf (fun j3 hj3 hf => ?_)
      refine z_get (pc := 132) (index := 307) hx hb hts iwX9_count_6 hown hI (xl_sheet ad cy u hj3) rfl 2 (by decide) (by decide +kernel) rfl rfl dX9_count_132 ?_
      obtain rfl := zone hf
      exact z_iret (pc := 135) C0 hI dX9_count_135
    refine lv_bipush (pc := 121) (v := -4) hx hb dX9_count_121 (by decide) ?_
    refine lv_goto (pc := 123) (tgt := 135) hx hb dX9_count_123 (by decide) ?_
    obtain rfl := zone hf
    exact z_iret (pc := 135) C0 hI dX9_count_135
  refine z_swk (pc := 1) (kc := 8) (tgt := 136) hx hb dX9_count_1 rfl (by decide) (by decide) (by decide) hf (fun hf => ?_) (fun n8 hf => ?_)
  · refine lv_aload_n (pc := 136) hx hb dX9_count_136 rfl (lv_at hl 0 rfl) ?_
    refine z_get (pc := 137) (index := 35) hx hb hts iwX9_count_9 hown hI (xl_0 ad cy u) rfl 3 (by decide) (by decide +kernel) rfl rfl dX9_count_137 ?_
    refine z_get (pc := 140) (index := 164) hx hb hts iwX9_count_3 hown hI (xl_12 ad cy u) rfl 0 (by decide) (by decide +kernel) rfl rfl dX9_count_140 ?_
    refine lv_bipush (pc := 143) (v := 9) hx hb dX9_count_143 (by decide) ?_
    refine z_iald (pc := 145) hx hb hI (xl_13 ad cy u) 0 rfl dX9_count_145 hf (fun v1 hf => ?_)
    obtain rfl := zone hf
    exact z_iret (pc := 146) C0 hI dX9_count_146
  refine lv_tableOut (pc := 1) (tgt := 147) hx hb dX9_count_1 (z_out9 n0 n1 n2 n3 n4 n5 n6 n7 n8) (by decide) ?_
  refine lv_iconst (pc := 147) (v := -1) hx hb dX9_count_147 (by decide) ?_
  obtain rfl := zone hf
  exact z_iret (pc := 148) C0 hI dX9_count_148
end
