theorem iwX10_weightOf_10 : ∀ w ∈ wsX100, w ∈ wsX10_weightOf := by decide +kernel
def bX10_weightOf_4 (k : Nat) (p1 : Int32) (u : MX) (a : Int32 × Int32) : Option ((Int32 × Int32) ⊕ (Int32)) :=
  if (4 : Int32) ≤ a.2 then
    some (.inr a.1)
  else
  zget 19 (mg_holds u) ((8 : Int32) + a.2) (fun v1 =>
  zb (a.1 + (((p1 >>> (a.2 &&& 31)) &&& (1 : Int32)) * v1)) (fun v2 =>
  some (.inl (v2, (a.2 + 1)))))
def fX10_weightOf (k : Nat) (a1 : Int32) (u : MX) : Option (Int32) :=
  (ziter (bX10_weightOf_4 k a1 u) k ((0 : Int32), (0 : Int32))).bind (fun b3 =>
    some b3)
theorem iwX10_isWithin_10 : ∀ w ∈ wsX100, w ∈ wsX10_isWithin := by decide +kernel
def fX10_isWithin (k : Nat) (a1 : Int32) (u : MX) : Option (Int32) :=
  (fX10_in (a1.toInt64) (0 : Int64) (15 : Int64)).bind (fun q2 =>
  if q2 = 0 then
    some (0 : Int32)
  else
  (fX10_weightOf k a1 u).bind (fun q4 =>
  zget 19 (mg_holds u) (18 : Int32) (fun v5 =>
  if v5 < q4 then
    some (0 : Int32)
  else
  some (1 : Int32))))
theorem iwX10_lostUp_10 : ∀ w ∈ wsX100, w ∈ wsX10_lostUp := by decide +kernel
def bX10_lostUp_17 (k : Nat) (p2 : Int32) (p3 : Int32) (u : MX) (a : Int64 × Int32) : Option ((Int64 × Int32) ⊕ (Int64)) :=
  if (4 : Int32) ≤ a.2 then
    some (.inr a.1)
  else
  if ((p2 >>> (a.2 &&& 31)) &&& (1 : Int32)) = (1 : Int32) then
    zget 4 (mg_falls u) a.2 (fun v8 =>
    zdi (2 : Int32) (
    zb (v8 / (2 : Int32)) (fun v9 =>
    zget 19 (mg_holds u) a.2 (fun v10 =>
    zb (a.1 + ((v10 * ((10 : Int32) - v9)).toInt64)) (fun v11 =>
    some (.inl (v11, (a.2 + 1))))))))
  else
  zget 4 (mg_falls u) a.2 (fun v5 =>
  zget 19 (mg_holds u) a.2 (fun v6 =>
  zb (a.1 + ((v6 * ((10 : Int32) - v5)).toInt64)) (fun v7 =>
  some (.inl (v7, (a.2 + 1))))))
def jX10_lostUp_j120_85 (k : Nat) (p3 : Int32) (p4 : Int64) (p6 : Int64) (p8 : Int32) (t0 : Int64) (t1 : Int64) (u : MX) : Option ((Int64 × Int32) ⊕ (Int64)) :=
  if p8 ≤ 0 then
    zb ((t0 * t1) + (0 : Int64)) (fun v15 =>
    (fX10_power k p4 p8).bind (fun q17 =>
    (fX10_power k (mg_all u) ((3 : Int32) - p8)).bind (fun q19 =>
    zb (p6 + ((v15 * q17) * q19)) (fun v20 =>
    some (.inl (v20, (p8 + 1)))))))
  else
  zget 19 (mg_holds u) ((11 : Int32) + p8) (fun v21 =>
  zb ((t0 * t1) + ((v21.toInt64) * (p3.toInt64))) (fun v22 =>
  (fX10_power k p4 p8).bind (fun q24 =>
  (fX10_power k (mg_all u) ((3 : Int32) - p8)).bind (fun q26 =>
  zb (p6 + ((v22 * q24) * q26)) (fun v27 =>
  some (.inl (v27, (p8 + 1))))))))
def bX10_lostUp_85 (k : Nat) (p3 : Int32) (p4 : Int64) (u : MX) (a : Int64 × Int32) : Option ((Int64 × Int32) ⊕ (Int64)) :=
  if (4 : Int32) ≤ a.2 then
    some (.inr a.1)
  else
  zget 19 (mg_holds u) ((12 : Int32) + a.2) (fun v14 =>
  if a.2 = (3 : Int32) then
    jX10_lostUp_j120_85 k p3 p4 a.1 a.2 (v14.toInt64) (100 : Int64) u
  else
  jX10_lostUp_j120_85 k p3 p4 a.1 a.2 (v14.toInt64) ((100 : Int64) - (p3.toInt64)) u)
def fX10_lostUp (k : Nat) (a1 : Int32) (a2 : Int32) (u : MX) : Option (Int64 × MX) :=
  (fX10_layLaw k a1 u).bind (fun q2 =>
  (fX10_weightOf k a2 q2).bind (fun q4 =>
  (ziter (bX10_lostUp_17 k a2 q4 q2) k ((0 : Int64), (0 : Int32))).bind (fun b12 =>
    (ziter (bX10_lostUp_85 k q4 b12 q2) k ((0 : Int64), (0 : Int32))).bind (fun b28 =>
      (fX10_whole k q2).bind (fun q31 =>
      zget 19 (mg_holds q2) (16 : Int32) (fun v32 =>
      some ((((100 : Int64) * q31) - (b28 * ((1000 : Int64) - (v32.toInt64)))), q2)))))))
def fX10_lost (k : Nat) (a1 : Int32) (a2 : Int32) (a3 : Int32) (u : MX) : Option (Int64 × MX) :=
  (fX10_isLaw a1).bind (fun q2 =>
  if q2 = 0 then
    some ((-1 : Int64), u)
  else
  (fX10_isWithin k a2 u).bind (fun q4 =>
  if q4 = 0 then
    some ((-1 : Int64), u)
  else
  (fX10_in (a3.toInt64) (0 : Int64) (1 : Int64)).bind (fun q6 =>
  if q6 = 0 then
    some ((-1 : Int64), u)
  else
  (fX10_lostUp k a1 a2 u).bind (fun q8 =>
  (fX10_whole k q8.2).bind (fun q10 =>
  (fX10_lowest k q8.1 ((100 : Int64) * q10) a3).bind (fun q12 =>
  some (q12, q8.2)))))))
def bX10_bestOf_12 (k : Nat) (p1 : Int32) (a : Int32 × Int64 × Int32 × MX) : Option ((Int32 × Int64 × Int32 × MX) ⊕ (Int32 × MX)) :=
  if (16 : Int32) ≤ a.2.2.1 then
    some (.inr (a.1, a.2.2.2))
  else
  (fX10_isWithin k a.2.2.1 a.2.2.2).bind (fun q4 =>
  if q4 = 0 then
    some (.inl (a.1, a.2.1, (a.2.2.1 + 1), a.2.2.2))
  else
  (fX10_lostUp k p1 a.2.2.1 a.2.2.2).bind (fun q6 =>
  if a.2.1 ≤ q6.1 then
    some (.inl (a.1, a.2.1, (a.2.2.1 + 1), q6.2))
  else
  (fX10_lostUp k p1 a.2.2.1 q6.2).bind (fun q8 =>
  some (.inl (a.2.2.1, q8.1, (a.2.2.1 + 1), q8.2)))))
def fX10_bestOf (k : Nat) (a1 : Int32) (u : MX) : Option (Int32 × MX) :=
  (fX10_lostUp k a1 (0 : Int32) u).bind (fun q2 =>
  (ziter (bX10_bestOf_12 k a1) k ((0 : Int32), q2.1, (1 : Int32), q2.2)).bind (fun b9 =>
    some (b9.1, b9.2)))
def fX10_best (k : Nat) (a1 : Int32) (u : MX) : Option (Int32 × MX) :=
  (fX10_isLaw a1).bind (fun q2 =>
  if q2 = 0 then
    some ((-1 : Int32), u)
  else
  (fX10_bestOf k a1 u).bind (fun q4 =>
  some (q4.1, q4.2)))
def bX10_safest_53 (k : Nat) (p1 : Int32) (p2 : Int64) (p4 : Int32) (a : Int64 × Int32 × MX) : Option ((Int64 × Int32 × MX) ⊕ (Int64 × MX)) :=
  if a.2.1 = (-4 : Int32) then
    some (.inr (a.1, a.2.2))
  else
  (fX10_lostUp k a.2.1 p4 a.2.2).bind (fun q10 =>
  if q10.1 ≤ a.1 then
    (fX10_firstFrom k (a.2.1 + (1 : Int32)) q10.2).bind (fun q12 =>
    some (.inl (a.1, q12, q10.2)))
  else
  (fX10_firstFrom k (a.2.1 + (1 : Int32)) q10.2).bind (fun q14 =>
  some (.inl (q10.1, q14, q10.2))))
def bX10_safest_25 (k : Nat) (a : Int32 × Int64 × Int32 × MX) : Option ((Int32 × Int64 × Int32 × MX) ⊕ (Int32 × MX)) :=
  if (16 : Int32) ≤ a.2.2.1 then
    some (.inr (a.1, a.2.2.2))
  else
  (fX10_isWithin k a.2.2.1 a.2.2.2).bind (fun q6 =>
  if q6 = 0 then
    some (.inl (a.1, a.2.1, (a.2.2.1 + 1), a.2.2.2))
  else
  (fX10_firstFrom k (0 : Int32) a.2.2.2).bind (fun q8 =>
  (ziter (bX10_safest_53 k a.1 a.2.1 a.2.2.1) k ((-1 : Int64), q8, a.2.2.2)).bind (fun b15 =>
    if a.1 = (-4 : Int32) then
      some (.inl (a.2.2.1, b15.1, (a.2.2.1 + 1), b15.2))
    else
    if a.2.1 ≤ b15.1 then
      some (.inl (a.1, a.2.1, (a.2.2.1 + 1), b15.2))
    else
    some (.inl (a.2.2.1, b15.1, (a.2.2.1 + 1), b15.2)))))
def fX10_safest (k : Nat) (u : MX) : Option (Int32 × MX) :=
  (fX10_layGood k u).bind (fun q2 =>
  (fX10_firstFrom k (0 : Int32) q2).bind (fun q4 =>
  if q4 = (-4 : Int32) then
    some ((-4 : Int32), q2)
  else
  (ziter (bX10_safest_25 k) k ((-4 : Int32), (0 : Int64), (0 : Int32), q2)).bind (fun b17 =>
    some (b17.1, b17.2))))
theorem iwX10_drawing_10 : ∀ w ∈ wsX100, w ∈ wsX10_drawing := by decide +kernel
def bX10_drawing_18 (k : Nat) (p1 : Int32) (p2 : Int32) (p3 : Int32) (u : MX) (a : Int32 × Int32) : Option ((Int32 × Int32) ⊕ (Int32)) :=
  if (4 : Int32) ≤ a.2 then
    some (.inr a.1)
  else
  if a.1 = (-4 : Int32) then
    if ((p1 >>> (a.2 &&& 31)) &&& (1 : Int32)) = 0 then
      if (1 : Int32) = 0 then
        some (.inl (a.1, (a.2 + 1)))
      else
      some (.inl (a.2, (a.2 + 1)))
    else
    some (.inl (a.1, (a.2 + 1)))
  else
  zget 10 (mg_known u) ((5 : Int32) + a.2) (fun v1 =>
  zget 19 (mg_holds u) a.1 (fun v2 =>
  zget 10 (mg_known u) ((5 : Int32) + a.1) (fun v3 =>
  zget 19 (mg_holds u) a.2 (fun v4 =>
  if (v1 * v2) ≤ (v3 * v4) then
    if ((p1 >>> (a.2 &&& 31)) &&& (1 : Int32)) = 0 then
      if (0 : Int32) = 0 then
        some (.inl (a.1, (a.2 + 1)))
      else
      some (.inl (a.2, (a.2 + 1)))
    else
    some (.inl (a.1, (a.2 + 1)))
  else
  if ((p1 >>> (a.2 &&& 31)) &&& (1 : Int32)) = 0 then
    if (1 : Int32) = 0 then
      some (.inl (a.1, (a.2 + 1)))
    else
    some (.inl (a.2, (a.2 + 1)))
  else
  some (.inl (a.1, (a.2 + 1)))))))
def bX10_drawing_6 (k : Nat) (u : MX) (a : Int32 × Int32 × Int32) : Option ((Int32 × Int32 × Int32) ⊕ (Int32)) :=
  if (4 : Int32) ≤ a.2.2 then
    some (.inr a.2.1)
  else
  (ziter (bX10_drawing_18 k a.1 a.2.1 a.2.2 u) k ((-4 : Int32), (0 : Int32))).bind (fun b5 =>
    zb (a.1 ||| ((1 : Int32) <<< (b5 &&& 31))) (fun v7 =>
    (fX10_isWithin k (a.2.1 ||| ((1 : Int32) <<< (b5 &&& 31))) u).bind (fun q9 =>
    if q9 = 0 then
      some (.inl (v7, a.2.1, (a.2.2 + 1)))
    else
    zb (a.2.1 ||| ((1 : Int32) <<< (b5 &&& 31))) (fun v10 =>
    some (.inl (v7, v10, (a.2.2 + 1)))))))
def fX10_drawing (k : Nat) (u : MX) : Option (Int32) :=
  (ziter (bX10_drawing_6 k u) k ((0 : Int32), (0 : Int32), (0 : Int32))).bind (fun b11 =>
    some b11)
theorem iwX10_wrong_10 : ∀ w ∈ wsX100, w ∈ wsX10_wrong := by decide +kernel
def fX10_wrong (k : Nat) (a1 : Int32) (u : MX) : Option (Int32 × MX) :=
  (fX10_isLaw a1).bind (fun q2 =>
  if q2 = 0 then
    some ((-1 : Int32), u)
  else
  (fX10_drawing k u).bind (fun q4 =>
  (fX10_lostUp k a1 q4 u).bind (fun q6 =>
  (fX10_bestOf k a1 q6.2).bind (fun q8 =>
  (fX10_lostUp k a1 q8.1 q8.2).bind (fun q10 =>
  zb (q6.1 - q10.1) (fun v11 =>
  (fX10_power k (mg_all q10.2) (3 : Int32)).bind (fun q13 =>
  zb (((mg_hits q10.2) * q13) * (100 : Int64)) (fun v14 =>
  zdl v14 (
  some (((((v11 + v14) - (1 : Int64)) / v14).toInt32), q10.2))))))))))
def bX10_unlike_48 (k : Nat) (p1 : Int32) (p2 : Int32) (p3 : Int32) (a : Int32 × MX) : Option ((Int32 × MX) ⊕ (Int32 × MX)) :=
  if a.1 = (-4 : Int32) then
    some (.inr (a.1, a.2))
  else
  (fX10_bestOf k a.1 a.2).bind (fun q12 =>
  if q12.1 = p3 then
    (fX10_firstFrom k (a.1 + (1 : Int32)) q12.2).bind (fun q14 =>
    some (.inl (q14, q12.2)))
  else
  some (.inr (a.1, q12.2)))
def bX10_unlike_94 (k : Nat) (p1 : Int32) (p2 : Int32) (p4 : Int32) (u : MX) (a : Int32 × Int32) : Option ((Int32 × Int32) ⊕ (Int32)) :=
  if (4 : Int32) ≤ a.2 then
    some (.inr a.1)
  else
  (fX10_fallsOf k p2 a.2).bind (fun q18 =>
  (fX10_fallsOf k p4 a.2).bind (fun q20 =>
  (fX10_size ((q18 - q20).toInt64)).bind (fun q22 =>
  (fX10_fallsOf k p2 a.1).bind (fun q24 =>
  (fX10_fallsOf k p4 a.1).bind (fun q26 =>
  (fX10_size ((q24 - q26).toInt64)).bind (fun q28 =>
  if q22 ≤ q28 then
    some (.inl (a.1, (a.2 + 1)))
  else
  some (.inl (a.2, (a.2 + 1)))))))))
def jX10_unlike_j78 (k : Nat) (p1 : Int32) (p2 : Int32) (p4 : Int32) (u : MX) : Option (Int32 × MX) :=
  if p4 = (-4 : Int32) then
    some ((-4 : Int32), u)
  else
  (ziter (bX10_unlike_94 k p1 p2 p4 u) k ((0 : Int32), (1 : Int32))).bind (fun b29 =>
    if p1 = 0 then
      some (p2, u)
    else
    if p1 = (1 : Int32) then
      some (p4, u)
    else
    some (b29, u))
def fX10_unlike (k : Nat) (a1 : Int32) (u : MX) : Option (Int32 × MX) :=
  (fX10_in (a1.toInt64) (0 : Int64) (2 : Int64)).bind (fun q2 =>
  if q2 = 0 then
    some ((-1 : Int32), u)
  else
  (fX10_layGood k u).bind (fun q4 =>
  (fX10_firstFrom k (0 : Int32) q4).bind (fun q6 =>
  if q6 = (-4 : Int32) then
    some ((-4 : Int32), q4)
  else
  (fX10_bestOf k q6 q4).bind (fun q8 =>
  (fX10_firstFrom k (q6 + (1 : Int32)) q8.2).bind (fun q10 =>
  (ziter (bX10_unlike_48 k a1 q6 q8.1) k (q10, q8.2)).bind (fun b15 =>
    jX10_unlike_j78 k a1 q6 b15.1 b15.2))))))
def bX10_trial_91 (k : Nat) (p1 : Int32) (p2 : Int32) (p3 : Int32) (p4 : Int32) (p5 : Int32) (p6 : Int32) (p7 : Int32) (u : MX) (a : Int32 × Int32) : Option ((Int32 × Int32) ⊕ (Int32)) :=
  if a.2 = (-4 : Int32) then
    some (.inr a.1)
  else
  (fX10_fallsOf k a.2 p1).bind (fun q14 =>
  (fX10_size (((10 : Int64) * (p7.toInt64)) - ((p2 * q14).toInt64))).bind (fun q16 =>
  if (10 : Int64) < q16 then
    zb (a.1 + (0 : Int32)) (fun v17 =>
    (fX10_firstFrom k (a.2 + (1 : Int32)) u).bind (fun q19 =>
    some (.inl (v17, q19))))
  else
  zb (a.1 + (1 : Int32)) (fun v20 =>
  (fX10_firstFrom k (a.2 + (1 : Int32)) u).bind (fun q22 =>
  some (.inl (v20, q22))))))
def jX10_trial_j162_75 (k : Nat) (p1 : Int32) (p2 : Int32) (p3 : Int32) (p5 : Int32) (p6 : Int32) (p7 : Int32) (p8 : Int32) (t0 : Int32) (u : MX) : Option ((Int32 × Int32 × Int32 × Int32) ⊕ (Int32 × Int32 × Int32)) :=
  if p8 ≤ 0 then
    zb (p5 + (0 : Int32)) (fun v25 =>
    if p7 = p3 then
      some (.inl (t0, v25, p8, (p7 + 1)))
    else
    some (.inl (t0, v25, p6, (p7 + 1))))
  else
  zb (p5 + (1 : Int32)) (fun v26 =>
  if p7 = p3 then
    some (.inl (t0, v26, p8, (p7 + 1)))
  else
  some (.inl (t0, v26, p6, (p7 + 1))))
def bX10_trial_75 (k : Nat) (p1 : Int32) (p2 : Int32) (p3 : Int32) (u : MX) (a : Int32 × Int32 × Int32 × Int32) : Option ((Int32 × Int32 × Int32 × Int32) ⊕ (Int32 × Int32 × Int32)) :=
  if p2 < a.2.2.2 then
    some (.inr (a.1, a.2.1, a.2.2.1))
  else
  (fX10_firstFrom k (0 : Int32) u).bind (fun q12 =>
  (ziter (bX10_trial_91 k p1 p2 p3 a.1 a.2.1 a.2.2.1 a.2.2.2 u) k ((0 : Int32), q12)).bind (fun b23 =>
    if b23 ≤ a.1 then
      jX10_trial_j162_75 k p1 p2 p3 a.2.1 a.2.2.1 a.2.2.2 b23 a.1 u
    else
    jX10_trial_j162_75 k p1 p2 p3 a.2.1 a.2.2.1 a.2.2.2 b23 b23 u))
def jX10_trial_j46 (k : Nat) (p1 : Int32) (p2 : Int32) (p3 : Int32) (u : MX) : Option (Int32 × MX) :=
  (fX10_layGood k u).bind (fun q8 =>
  (fX10_firstFrom k (0 : Int32) q8).bind (fun q10 =>
  if q10 = (-4 : Int32) then
    some ((-4 : Int32), q8)
  else
  (ziter (bX10_trial_75 k p1 p2 p3 q8) k ((0 : Int32), (0 : Int32), (0 : Int32), (0 : Int32))).bind (fun b27 =>
    if p3 = (21 : Int32) then
      some (b27.1, q8)
    else
    if p3 = (22 : Int32) then
      some (b27.2.1, q8)
    else
    some (b27.2.2, q8))))
def fX10_trial (k : Nat) (a1 : Int32) (a2 : Int32) (a3 : Int32) (u : MX) : Option (Int32 × MX) :=
  (fX10_isPart a1).bind (fun q2 =>
  if q2 = 0 then
    some ((-1 : Int32), u)
  else
  (fX10_in (a2.toInt64) (1 : Int64) (20 : Int64)).bind (fun q4 =>
  if q4 = 0 then
    some ((-1 : Int32), u)
  else
  (fX10_in (a3.toInt64) (0 : Int64) (a2.toInt64)).bind (fun q6 =>
  if q6 = 0 then
    (fX10_in (a3.toInt64) (21 : Int64) (22 : Int64)).bind (fun q30 =>
    if q30 = 0 then
      some ((-1 : Int32), u)
    else
    jX10_trial_j46 k a1 a2 a3 u)
  else
  jX10_trial_j46 k a1 a2 a3 u)))
section
variable {p : Program} {l : Launch} {e : Env} {s : State} {m : MethodId} {args : Array Value} {below : List Frame} {meth : Method} {c : Code} {A : Nat → Prop} {Q : State → Prop} {D : va_G} {ad : Nat → Nat} {cy : Nat → ClassId}
set_option maxHeartbeats 4000000 in
set_option maxRecDepth 100000 in
theorem lX10_weightOf_4 (C0 : zFix p m c cX10_weightOf 4 s args wsX10_weightOf RX10 meth (some .int)) {k : Nat} {p1 : Int32} {u : MX} {a : Int32 × Int32} {b : Int32} (hit : ziter (bX10_weightOf_4 k p1 u) k a = some b) (hx9 : (fun (b : Int32) => ∀ (H : Heap) (locs : List Loc) (ls : Array Slot), zIn D ad cy (WM ad cy u) A s H locs → lv_has ls 4 [(2, .int b)] → W p l e ({ frames := 0, cells := 0, slots := 0, locals := 0 } : Room) s m args below meth c H locs 0 0 Q (F0 m 33 ls [])) b) : (fun (a : Int32 × Int32) => ∀ (H : Heap) (locs : List Loc) (ls : Array Slot), zIn D ad cy (WM ad cy u) A s H locs → lv_has ls 4 [(0, .ref (ad 0)), (1, .int p1), (2, .int a.1), (3, .int a.2)] → W p l e ({ frames := 0, cells := 0, slots := 0, locals := 0 } : Room) s m args below meth c H locs 0 0 Q (F0 m 4 ls [])) a := by
  obtain ⟨hx, hb, hml, hown, hts, hr, hlk⟩ := id C0
  refine zloop (Wh := (fun (a : Int32 × Int32) => ∀ (H : Heap) (locs : List Loc) (ls : Array Slot), zIn D ad cy (WM ad cy u) A s H locs → lv_has ls 4 [(0, .ref (ad 0)), (1, .int p1), (2, .int a.1), (3, .int a.2)] → W p l e ({ frames := 0, cells := 0, slots := 0, locals := 0 } : Room) s m args below meth c H locs 0 0 Q (F0 m 4 ls []))) (Wx := (fun (b : Int32) => ∀ (H : Heap) (locs : List Loc) (ls : Array Slot), zIn D ad cy (WM ad cy u) A s H locs → lv_has ls 4 [(2, .int b)] → W p l e ({ frames := 0, cells := 0, slots := 0, locals := 0 } : Room) s m args below meth c H locs 0 0 Q (F0 m 33 ls []))) ?_ _ a b hit hx9
  intro a x hf hL hX H locs ls hI hl
  unfold bX10_weightOf_4 at hf
  refine lv_iload_n (pc := 4) hx hb dX10_weightOf_4 rfl (lv_at hl 3 rfl) ?_
  refine lv_iconst (pc := 5) (v := 4) hx hb dX10_weightOf_5 (by decide) ?_
  refine z_icmp_ge (pc := 6) (tgt := 33) hx hb dX10_weightOf_6 (by decide) hf (fun hf => ?_) (fun hf => ?_)
  · exact (hX _ (Option.some.inj hf).symm) _ _ _ hI (lv_sub hl [2] rfl)
  refine lv_iload_n (pc := 9) hx hb dX10_weightOf_9 rfl (lv_at hl 2 rfl) ?_
  refine lv_iload_n (pc := 10) hx hb dX10_weightOf_10 rfl (lv_at hl 1 rfl) ?_
  refine lv_iload_n (pc := 11) hx hb dX10_weightOf_11 rfl (lv_at hl 3 rfl) ?_
  refine lv_ishr (pc := 12) hx hb dX10_weightOf_12 ?_
  refine lv_iconst (pc := 13) (v := 1) hx hb dX10_weightOf_13 (by decide) ?_
  refine lv_iand (pc := 14) hx hb dX10_weightOf_14 ?_
  refine lv_aload_n (pc := 15) hx hb dX10_weightOf_15 rfl (lv_at hl 0 rfl) ?_
  refine z_get (pc := 16) (index := 22) hx hb hts iwX10_weightOf_10 hown hI (ml_0 ad cy u) rfl 12 (by decide) (by decide +kernel) rfl rfl dX10_weightOf_16 ?_
  refine lv_bipush (pc := 19) (v := 8) hx hb dX10_weightOf_19 (by decide) ?_
  refine lv_iload_n (pc := 21) hx hb dX10_weightOf_21 rfl (lv_at hl 3 rfl) ?_
  refine lv_iadd (pc := 22) hx hb dX10_weightOf_22 ?_
  refine z_iald (pc := 23) hx hb hI (ml_5 ad cy u) 0 rfl dX10_weightOf_23 hf (fun v1 hf => ?_)
  refine lv_imul (pc := 24) hx hb dX10_weightOf_24 ?_
  refine lv_iadd (pc := 25) hx hb dX10_weightOf_25 ?_
  refine z_bi hf (fun v2 hf => ?_)
  refine lv_istore_n (pc := 26) (lv' := [(2, .int v2), (0, .ref (ad 0)), (1, .int p1), (3, .int a.2)]) hx hb dX10_weightOf_26 rfl hl (by decide) rfl (fun ls hl => ?_)
  refine lv_iinc (pc := 27) (v := (a.2 + 1)) (lv' := [(3, .int (a.2 + 1)), (2, .int v2), (0, .ref (ad 0)), (1, .int p1)]) hx hb dX10_weightOf_27 hl (k := 3) rfl rfl (by decide) rfl (fun ls hl => ?_)
  refine lv_goto (pc := 30) (tgt := 4) hx hb dX10_weightOf_30 (by decide) ?_
  exact hL _ (Option.some.inj hf).symm _ _ _ hI (lv_sub hl [2, 3, 1, 0] rfl)
set_option maxHeartbeats 4000000 in
set_option maxRecDepth 100000 in
theorem kX10_weightOf (l : Launch) (D : va_G) (ad : Nat → Nat) (cy : Nat → ClassId) (k : Nat) (a1 : Int32) (u : MX) (r : Int32) (hf : fX10_weightOf k a1 u = some r) : zCt l yX10_weightOf wsX10_weightOf ({ frames := 0, cells := 0, slots := 0, locals := 0 } : Room) D ad cy [.ref (ad 0), .int a1] (WM ad cy u) (some (.int r)) (WM ad cy u) := by
  refine zCt.of (cc := cX10_weightOf) (maxL := 4) (ret := (some .int)) (own := RX10) (by decide) rfl rfl ?_
  intro p e s m below meth c A C0 hI
  obtain ⟨hx, hb, hml, hown, hts, hr, hlk⟩ := id C0
  refine z_entry (Nat.le_of_ble_eq_true rfl) (fun ls hl => ?_)
  have hl : lv_has ls 4 [(0, .ref (ad 0)), (1, .int a1)] := hl
  unfold fX10_weightOf at hf
  refine lv_iconst (pc := 0) (v := 0) hx hb dX10_weightOf_0 (by decide) ?_
  refine lv_istore_n (pc := 1) (lv' := [(2, .int (0 : Int32)), (0, .ref (ad 0)), (1, .int a1)]) hx hb dX10_weightOf_1 rfl hl (by decide) rfl (fun ls hl => ?_)
  refine lv_iconst (pc := 2) (v := 0) hx hb dX10_weightOf_2 (by decide) ?_
  refine lv_istore_n (pc := 3) (lv' := [(3, .int (0 : Int32)), (2, .int (0 : Int32)), (0, .ref (ad 0)), (1, .int a1)]) hx hb dX10_weightOf_3 rfl hl (by decide) rfl (fun ls hl => ?_)
  obtain ⟨b3, hb4, hf⟩ := zbind hf
  refine lX10_weightOf_4 C0 hb4 ?_ _ _ _ hI (lv_sub hl [2, 3, 1, 0] rfl)
  intro H locs ls hI hl
  refine lv_iload_n (pc := 33) hx hb dX10_weightOf_33 rfl (lv_at hl 0 rfl) ?_
  obtain rfl := zone hf
  exact z_iret (pc := 34) C0 hI dX10_weightOf_34
set_option maxHeartbeats 4000000 in
set_option maxRecDepth 100000 in
theorem kX10_isWithin (l : Launch) (D : va_G) (ad : Nat → Nat) (cy : Nat → ClassId) (k : Nat) (a1 : Int32) (u : MX) (r : Int32) (hf : fX10_isWithin k a1 u = some r) : zCt l yX10_isWithin wsX10_isWithin ({ frames := 1, cells := 0, slots := 0, locals := 25 } : Room) D ad cy [.ref (ad 0), .int a1] (WM ad cy u) (some (.int r)) (WM ad cy u) := by
  refine zCt.of (cc := cX10_isWithin) (maxL := 2) (ret := (some .boolean)) (own := RX10) (by decide) rfl rfl ?_
  intro p e s m below meth c A C0 hI
  obtain ⟨hx, hb, hml, hown, hts, hr, hlk⟩ := id C0
  refine z_entry (Nat.le_of_ble_eq_true rfl) (fun ls hl => ?_)
  have hl : lv_has ls 2 [(0, .ref (ad 0)), (1, .int a1)] := hl
  unfold fX10_isWithin at hf
  refine lv_iload_n (pc := 0) hx hb dX10_isWithin_0 rfl (lv_at hl 1 rfl) ?_
  refine lv_i2l (pc := 1) hx hb dX10_isWithin_1 rfl ?_
  refine lv_lconst (pc := 2) (v := 0) hx hb dX10_isWithin_2 (by decide) ?_
  refine lv_ldc2 (pc := 3) (v := 15) hx hb hown (hts (.constantLong RX10 248 (15)) (by decide +kernel)) dX10_isWithin_3 ?_
  obtain ⟨q2, hc1, hf⟩ := zbind hf
  refine zcallSi (pc := 6) (As := [.long (a1.toInt64), .long (0 : Int64), .long (15 : Int64)]) (rest := []) ⟨hx, hb, hml, hown, hts⟩ (kX10_in l (a1.toInt64) (0 : Int64) (15 : Int64) q2 hc1) (va_cwS 3 hts gX10_isWithin_X10_in rfl rfl rfl (by decide +kernel) ⟨Nat.le_of_ble_eq_true rfl, Nat.le_of_ble_eq_true rfl⟩) rfl hl.1 rfl (Nat.le_of_ble_eq_true rfl) dX10_isWithin_6 (Nat.zero_le _) (Nat.zero_le _) ?_
  refine z_if_eq (pc := 9) (tgt := 31) hx hb dX10_isWithin_9 (by decide) hf (fun hf => ?_) (fun hf => ?_)
  · refine lv_iconst (pc := 31) (v := 0) hx hb dX10_isWithin_31 (by decide) ?_
    obtain rfl := zone hf
    exact z_zret (pc := 32) C0 hI (Or.inl rfl) dX10_isWithin_32
  refine lv_aload_n (pc := 12) hx hb dX10_isWithin_12 rfl (lv_at hl 0 rfl) ?_
  refine lv_iload_n (pc := 13) hx hb dX10_isWithin_13 rfl (lv_at hl 1 rfl) ?_
  obtain ⟨q4, hc3, hf⟩ := zbind hf
  refine zcallVi (pc := 14) (As := [.int a1]) (rest := []) ⟨hx, hb, hml, hown, hts⟩ (kX10_weightOf l D ad cy k a1 u q4 hc3) (cwV 1 hts gX10_isWithin_X10_weightOf rfl rfl rfl (by decide +kernel) ⟨Nat.le_of_ble_eq_true rfl, Nat.le_of_ble_eq_true rfl⟩) hI rfl (ml_0 ad cy u) rfl hl.1 rfl (Nat.le_of_ble_eq_true rfl) dX10_isWithin_14 (Nat.zero_le _) (Nat.zero_le _) (fun H locs hI => ?_)
  refine lv_aload_n (pc := 17) hx hb dX10_isWithin_17 rfl (lv_at hl 0 rfl) ?_
  refine z_get (pc := 18) (index := 22) hx hb hts iwX10_isWithin_10 hown hI (ml_0 ad cy u) rfl 12 (by decide) (by decide +kernel) rfl rfl dX10_isWithin_18 ?_
  refine lv_bipush (pc := 21) (v := 18) hx hb dX10_isWithin_21 (by decide) ?_
  refine z_iald (pc := 23) hx hb hI (ml_5 ad cy u) 0 rfl dX10_isWithin_23 hf (fun v5 hf => ?_)
  refine z_icmp_gt (pc := 24) (tgt := 31) hx hb dX10_isWithin_24 (by decide) hf (fun hf => ?_) (fun hf => ?_)
  · refine lv_iconst (pc := 31) (v := 0) hx hb dX10_isWithin_31 (by decide) ?_
    obtain rfl := zone hf
    exact z_zret (pc := 32) C0 hI (Or.inl rfl) dX10_isWithin_32
  refine lv_iconst (pc := 27) (v := 1) hx hb dX10_isWithin_27 (by decide) ?_
  refine lv_goto (pc := 28) (tgt := 32) hx hb dX10_isWithin_28 (by decide) ?_
  obtain rfl := zone hf
  exact z_zret (pc := 32) C0 hI (Or.inr rfl) dX10_isWithin_32
set_option maxHeartbeats 4000000 in
set_option maxRecDepth 100000 in
theorem lX10_lostUp_17 (C0 : zFix p m c cX10_lostUp 11 s args wsX10_lostUp RX10 meth (some .long)) {k : Nat} {p2 : Int32} {p3 : Int32} {u : MX} {a : Int64 × Int32} {b : Int64} (hit : ziter (bX10_lostUp_17 k p2 p3 u) k a = some b) (hx9 : (fun (b : Int64) => ∀ (H : Heap) (locs : List Loc) (ls : Array Slot), zIn D ad cy (WM ad cy u) A s H locs → lv_has ls 11 [(0, .ref (ad 0)), (3, .int p3), (4, .long b)] → W p l e ({ frames := 2, cells := 0, slots := 0, locals := 45 } : Room) s m args below meth c H locs 0 0 Q (F0 m 79 ls [])) b) : (fun (a : Int64 × Int32) => ∀ (H : Heap) (locs : List Loc) (ls : Array Slot), zIn D ad cy (WM ad cy u) A s H locs → lv_has ls 11 [(0, .ref (ad 0)), (2, .int p2), (3, .int p3), (4, .long a.1), (6, .int a.2)] → W p l e ({ frames := 2, cells := 0, slots := 0, locals := 45 } : Room) s m args below meth c H locs 0 0 Q (F0 m 17 ls [])) a := by
  obtain ⟨hx, hb, hml, hown, hts, hr, hlk⟩ := id C0
  refine zloop (Wh := (fun (a : Int64 × Int32) => ∀ (H : Heap) (locs : List Loc) (ls : Array Slot), zIn D ad cy (WM ad cy u) A s H locs → lv_has ls 11 [(0, .ref (ad 0)), (2, .int p2), (3, .int p3), (4, .long a.1), (6, .int a.2)] → W p l e ({ frames := 2, cells := 0, slots := 0, locals := 45 } : Room) s m args below meth c H locs 0 0 Q (F0 m 17 ls []))) (Wx := (fun (b : Int64) => ∀ (H : Heap) (locs : List Loc) (ls : Array Slot), zIn D ad cy (WM ad cy u) A s H locs → lv_has ls 11 [(0, .ref (ad 0)), (3, .int p3), (4, .long b)] → W p l e ({ frames := 2, cells := 0, slots := 0, locals := 45 } : Room) s m args below meth c H locs 0 0 Q (F0 m 79 ls []))) ?_ _ a b hit hx9
  intro a x hf hL hX H locs ls hI hl
  unfold bX10_lostUp_17 at hf
  refine lv_iload (pc := 17) hx hb dX10_lostUp_17 (lv_at hl 4 rfl) ?_
  refine lv_iconst (pc := 19) (v := 4) hx hb dX10_lostUp_19 (by decide) ?_
  refine z_icmp_ge (pc := 20) (tgt := 79) hx hb dX10_lostUp_20 (by decide) hf (fun hf => ?_) (fun hf => ?_)
  · exact (hX _ (Option.some.inj hf).symm) _ _ _ hI (lv_sub hl [0, 2, 3] rfl)
  refine lv_iload_n (pc := 23) hx hb dX10_lostUp_23 rfl (lv_at hl 1 rfl) ?_
  refine lv_iload (pc := 24) hx hb dX10_lostUp_24 (lv_at hl 4 rfl) ?_
  refine lv_ishr (pc := 26) hx hb dX10_lostUp_26 ?_
  refine lv_iconst (pc := 27) (v := 1) hx hb dX10_lostUp_27 (by decide) ?_
  refine lv_iand (pc := 28) hx hb dX10_lostUp_28 ?_
  refine lv_iconst (pc := 29) (v := 1) hx hb dX10_lostUp_29 (by decide) ?_
  refine z_icmp_ne (pc := 30) (tgt := 45) hx hb dX10_lostUp_30 (by decide) hf (fun hf => ?_) (fun hf => ?_)
  · refine lv_aload_n (pc := 45) hx hb dX10_lostUp_45 rfl (lv_at hl 0 rfl) ?_
    refine z_get (pc := 46) (index := 44) hx hb hts iwX10_lostUp_10 hown hI (ml_0 ad cy u) rfl 22 (by decide) (by decide +kernel) rfl rfl dX10_lostUp_46 ?_
    refine lv_iload (pc := 49) hx hb dX10_lostUp_49 (lv_at hl 4 rfl) ?_
    refine z_iald (pc := 51) hx hb hI (ml_12 ad cy u) 0 rfl dX10_lostUp_51 hf (fun v5 hf => ?_)
    refine lv_istore (pc := 52) (lv' := [(7, .int v5), (0, .ref (ad 0)), (2, .int p2), (3, .int p3), (4, .long a.1), (6, .int a.2)]) hx hb dX10_lostUp_52 hl (by decide) rfl (fun ls hl => ?_)
    refine lv_lload (pc := 54) hx hb dX10_lostUp_54 (lv_at hl 4 rfl) ?_
    refine lv_aload_n (pc := 56) hx hb dX10_lostUp_56 rfl (lv_at hl 1 rfl) ?_
    refine z_get (pc := 57) (index := 22) hx hb hts iwX10_lostUp_10 hown hI (ml_0 ad cy u) rfl 12 (by decide) (by decide +kernel) rfl rfl dX10_lostUp_57 ?_
    refine lv_iload (pc := 60) hx hb dX10_lostUp_60 (lv_at hl 5 rfl) ?_
    refine z_iald (pc := 62) hx hb hI (ml_5 ad cy u) 0 rfl dX10_lostUp_62 hf (fun v6 hf => ?_)
    refine lv_bipush (pc := 63) (v := 10) hx hb dX10_lostUp_63 (by decide) ?_
    refine lv_iload (pc := 65) hx hb dX10_lostUp_65 (lv_at hl 0 rfl) ?_
    refine lv_isub (pc := 67) hx hb dX10_lostUp_67 ?_
    refine lv_imul (pc := 68) hx hb dX10_lostUp_68 ?_
    refine lv_i2l (pc := 69) hx hb dX10_lostUp_69 rfl ?_
    refine lv_ladd (pc := 70) hx hb dX10_lostUp_70 ?_
    refine z_bl hf (fun v7 hf => ?_)
    refine lv_lstore (pc := 71) (lv' := [(4, .long v7), (7, .int v5), (0, .ref (ad 0)), (2, .int p2), (3, .int p3), (6, .int a.2)]) hx hb dX10_lostUp_71 hl (by decide) rfl (fun ls hl => ?_)
    refine lv_iinc (pc := 73) (v := (a.2 + 1)) (lv' := [(6, .int (a.2 + 1)), (4, .long v7), (7, .int v5), (0, .ref (ad 0)), (2, .int p2), (3, .int p3)]) hx hb dX10_lostUp_73 hl (k := 5) rfl rfl (by decide) rfl (fun ls hl => ?_)
    refine lv_goto (pc := 76) (tgt := 17) hx hb dX10_lostUp_76 (by decide) ?_
    exact hL _ (Option.some.inj hf).symm _ _ _ hI (lv_sub hl [3, 4, 5, 1, 0] rfl)
  refine lv_aload_n (pc := 33) hx hb dX10_lostUp_33 rfl (lv_at hl 0 rfl) ?_
  refine z_get (pc := 34) (index := 44) hx hb hts iwX10_lostUp_10 hown hI (ml_0 ad cy u) rfl 22 (by decide) (by decide +kernel) rfl rfl dX10_lostUp_34 ?_
  refine lv_iload (pc := 37) hx hb dX10_lostUp_37 (lv_at hl 4 rfl) ?_
  refine z_iald (pc := 39) hx hb hI (ml_12 ad cy u) 0 rfl dX10_lostUp_39 hf (fun v8 hf => ?_)
  refine lv_iconst (pc := 40) (v := 2) hx hb dX10_lostUp_40 (by decide) ?_
  refine z_idiv (pc := 41) hx hb dX10_lostUp_41 hf (fun hf => ?_)
  refine lv_goto (pc := 42) (tgt := 52) hx hb dX10_lostUp_42 (by decide) ?_
  refine z_bi hf (fun v9 hf => ?_)
  refine lv_istore (pc := 52) (lv' := [(7, .int v9), (0, .ref (ad 0)), (2, .int p2), (3, .int p3), (4, .long a.1), (6, .int a.2)]) hx hb dX10_lostUp_52 hl (by decide) rfl (fun ls hl => ?_)
  refine lv_lload (pc := 54) hx hb dX10_lostUp_54 (lv_at hl 4 rfl) ?_
  refine lv_aload_n (pc := 56) hx hb dX10_lostUp_56 rfl (lv_at hl 1 rfl) ?_
  refine z_get (pc := 57) (index := 22) hx hb hts iwX10_lostUp_10 hown hI (ml_0 ad cy u) rfl 12 (by decide) (by decide +kernel) rfl rfl dX10_lostUp_57 ?_
  refine lv_iload (pc := 60) hx hb dX10_lostUp_60 (lv_at hl 5 rfl) ?_
  refine z_iald (pc := 62) hx hb hI (ml_5 ad cy u) 0 rfl dX10_lostUp_62 hf (fun v10 hf => ?_)
  refine lv_bipush (pc := 63) (v := 10) hx hb dX10_lostUp_63 (by decide) ?_
  refine lv_iload (pc := 65) hx hb dX10_lostUp_65 (lv_at hl 0 rfl) ?_
  refine lv_isub (pc := 67) hx hb dX10_lostUp_67 ?_
  refine lv_imul (pc := 68) hx hb dX10_lostUp_68 ?_
  refine lv_i2l (pc := 69) hx hb dX10_lostUp_69 rfl ?_
  refine lv_ladd (pc := 70) hx hb dX10_lostUp_70 ?_
  refine z_bl hf (fun v11 hf => ?_)
  refine lv_lstore (pc := 71) (lv' := [(4, .long v11), (7, .int v9), (0, .ref (ad 0)), (2, .int p2), (3, .int p3), (6, .int a.2)]) hx hb dX10_lostUp_71 hl (by decide) rfl (fun ls hl => ?_)
  refine lv_iinc (pc := 73) (v := (a.2 + 1)) (lv' := [(6, .int (a.2 + 1)), (4, .long v11), (7, .int v9), (0, .ref (ad 0)), (2, .int p2), (3, .int p3)]) hx hb dX10_lostUp_73 hl (k := 5) rfl rfl (by decide) rfl (fun ls hl => ?_)
  refine lv_goto (pc := 76) (tgt := 17) hx hb dX10_lostUp_76 (by decide) ?_
  exact hL _ (Option.some.inj hf).symm _ _ _ hI (lv_sub hl [3, 4, 5, 1, 0] rfl)
set_option maxHeartbeats 4000000 in
set_option maxRecDepth 100000 in
theorem qX10_lostUp_j120_85 (C0 : zFix p m c cX10_lostUp 11 s args wsX10_lostUp RX10 meth (some .long)) {k : Nat} {p3 : Int32} {p4 : Int64} {p6 : Int64} {p8 : Int32} {t0 : Int64} {t1 : Int64} {u : MX}  {x : (Int64 × Int32) ⊕ (Int64)} (hf : jX10_lostUp_j120_85 k p3 p4 p6 p8 t0 t1 u = some x) (hL : ∀ a', x = .inl a' → (fun (a : Int64 × Int32) => ∀ (H : Heap) (locs : List Loc) (ls : Array Slot), zIn D ad cy (WM ad cy u) A s H locs → lv_has ls 11 [(0, .ref (ad 0)), (3, .int p3), (4, .long p4), (6, .long a.1), (8, .int a.2)] → W p l e ({ frames := 2, cells := 0, slots := 0, locals := 45 } : Room) s m args below meth c H locs 0 0 Q (F0 m 85 ls [])) a') (hX : ∀ b', x = .inr b' → (fun (b : Int64) => ∀ (H : Heap) (locs : List Loc) (ls : Array Slot), zIn D ad cy (WM ad cy u) A s H locs → lv_has ls 11 [(0, .ref (ad 0)), (6, .long b)] → W p l e ({ frames := 2, cells := 0, slots := 0, locals := 45 } : Room) s m args below meth c H locs 0 0 Q (F0 m 180 ls [])) b') {H : Heap} {locs : List Loc} {ls : Array Slot} (hI : zIn D ad cy (WM ad cy u) A s H locs) (hl : lv_has ls 11 [(0, .ref (ad 0)), (3, .int p3), (4, .long p4), (6, .long p6), (8, .int p8)]) : W p l e ({ frames := 2, cells := 0, slots := 0, locals := 45 } : Room) s m args below meth c H locs 0 0 Q (F0 m 120 ls [.long t1, .long t0]) := by
  obtain ⟨hx, hb, hml, hown, hts, hr, hlk⟩ := id C0
  unfold jX10_lostUp_j120_85 at hf
  refine lv_lmul (pc := 120) hx hb dX10_lostUp_120 ?_
  refine lv_iload (pc := 121) hx hb dX10_lostUp_121 (lv_at hl 4 rfl) ?_
  refine z_if_le (pc := 123) (tgt := 143) hx hb dX10_lostUp_123 (by decide) hf (fun hf => ?_) (fun hf => ?_)
  · refine lv_lconst (pc := 143) (v := 0) hx hb dX10_lostUp_143 (by decide) ?_
    refine lv_ladd (pc := 144) hx hb dX10_lostUp_144 ?_
    refine z_bl hf (fun v15 hf => ?_)
    refine lv_lstore (pc := 145) (lv' := [(9, .long v15), (0, .ref (ad 0)), (3, .int p3), (4, .long p4), (6, .long p6), (8, .int p8)]) hx hb dX10_lostUp_145 hl (by decide) rfl (fun ls hl => ?_)
    refine lv_lload (pc := 147) hx hb dX10_lostUp_147 (lv_at hl 4 rfl) ?_
    refine lv_lload (pc := 149) hx hb dX10_lostUp_149 (lv_at hl 0 rfl) ?_
    refine lv_lload (pc := 151) hx hb dX10_lostUp_151 (lv_at hl 3 rfl) ?_
    refine lv_iload (pc := 153) hx hb dX10_lostUp_153 (lv_at hl 5 rfl) ?_
    obtain ⟨q17, hc16, hf⟩ := zbind hf
    refine zcallSl (pc := 155) (As := [.long p4, .int p8]) (rest := [.long v15, .long p6]) ⟨hx, hb, hml, hown, hts⟩ (kX10_power l k p4 p8 q17 hc16) (va_cwS 2 hts gX10_lostUp_X10_power rfl rfl rfl (by decide +kernel) ⟨Nat.le_of_ble_eq_true rfl, Nat.le_of_ble_eq_true rfl⟩) rfl hl.1 rfl (Nat.le_of_ble_eq_true rfl) dX10_lostUp_155 (Nat.zero_le _) (Nat.zero_le _) ?_
    refine lv_lmul (pc := 158) hx hb dX10_lostUp_158 ?_
    refine lv_aload_n (pc := 159) hx hb dX10_lostUp_159 rfl (lv_at hl 1 rfl) ?_
    refine z_get (pc := 160) (index := 187) hx hb hts iwX10_lostUp_10 hown hI (ml_0 ad cy u) rfl 24 (by decide) (by decide +kernel) rfl rfl dX10_lostUp_160 ?_
    refine lv_iconst (pc := 163) (v := 3) hx hb dX10_lostUp_163 (by decide) ?_
    refine lv_iload (pc := 164) hx hb dX10_lostUp_164 (lv_at hl 5 rfl) ?_
    refine lv_isub (pc := 166) hx hb dX10_lostUp_166 ?_
    obtain ⟨q19, hc18, hf⟩ := zbind hf
    refine zcallSl (pc := 167) (As := [.long (mg_all u), .int ((3 : Int32) - p8)]) (rest := [.long (v15 * q17), .long p6]) ⟨hx, hb, hml, hown, hts⟩ (kX10_power l k (mg_all u) ((3 : Int32) - p8) q19 hc18) (va_cwS 2 hts gX10_lostUp_X10_power rfl rfl rfl (by decide +kernel) ⟨Nat.le_of_ble_eq_true rfl, Nat.le_of_ble_eq_true rfl⟩) rfl hl.1 rfl (Nat.le_of_ble_eq_true rfl) dX10_lostUp_167 (Nat.zero_le _) (Nat.zero_le _) ?_
    refine lv_lmul (pc := 170) hx hb dX10_lostUp_170 ?_
    refine lv_ladd (pc := 171) hx hb dX10_lostUp_171 ?_
    refine z_bl hf (fun v20 hf => ?_)
    refine lv_lstore (pc := 172) (lv' := [(6, .long v20), (9, .long v15), (0, .ref (ad 0)), (3, .int p3), (4, .long p4), (8, .int p8)]) hx hb dX10_lostUp_172 hl (by decide) rfl (fun ls hl => ?_)
    refine lv_iinc (pc := 174) (v := (p8 + 1)) (lv' := [(8, .int (p8 + 1)), (6, .long v20), (9, .long v15), (0, .ref (ad 0)), (3, .int p3), (4, .long p4)]) hx hb dX10_lostUp_174 hl (k := 5) rfl rfl (by decide) rfl (fun ls hl => ?_)
    refine lv_goto (pc := 177) (tgt := 85) hx hb dX10_lostUp_177 (by decide) ?_
    exact hL _ (Option.some.inj hf).symm _ _ _ hI (lv_sub hl [3, 4, 5, 1, 0] rfl)
  refine lv_aload_n (pc := 126) hx hb dX10_lostUp_126 rfl (lv_at hl 0 rfl) ?_
  refine z_get (pc := 127) (index := 22) hx hb hts iwX10_lostUp_10 hown hI (ml_0 ad cy u) rfl 12 (by decide) (by decide +kernel) rfl rfl dX10_lostUp_127 ?_
  refine lv_bipush (pc := 130) (v := 11) hx hb dX10_lostUp_130 (by decide) ?_
  refine lv_iload (pc := 132) hx hb dX10_lostUp_132 (lv_at hl 4 rfl) ?_
  refine lv_iadd (pc := 134) hx hb dX10_lostUp_134 ?_
  refine z_iald (pc := 135) hx hb hI (ml_5 ad cy u) 0 rfl dX10_lostUp_135 hf (fun v21 hf => ?_)
  refine lv_i2l (pc := 136) hx hb dX10_lostUp_136 rfl ?_
  refine lv_iload_n (pc := 137) hx hb dX10_lostUp_137 rfl (lv_at hl 1 rfl) ?_
  refine lv_i2l (pc := 138) hx hb dX10_lostUp_138 rfl ?_
  refine lv_lmul (pc := 139) hx hb dX10_lostUp_139 ?_
  refine lv_goto (pc := 140) (tgt := 144) hx hb dX10_lostUp_140 (by decide) ?_
  refine lv_ladd (pc := 144) hx hb dX10_lostUp_144 ?_
  refine z_bl hf (fun v22 hf => ?_)
  refine lv_lstore (pc := 145) (lv' := [(9, .long v22), (0, .ref (ad 0)), (3, .int p3), (4, .long p4), (6, .long p6), (8, .int p8)]) hx hb dX10_lostUp_145 hl (by decide) rfl (fun ls hl => ?_)
  refine lv_lload (pc := 147) hx hb dX10_lostUp_147 (lv_at hl 4 rfl) ?_
  refine lv_lload (pc := 149) hx hb dX10_lostUp_149 (lv_at hl 0 rfl) ?_
  refine lv_lload (pc := 151) hx hb dX10_lostUp_151 (lv_at hl 3 rfl) ?_
  refine lv_iload (pc := 153) hx hb dX10_lostUp_153 (lv_at hl 5 rfl) ?_
  obtain ⟨q24, hc23, hf⟩ := zbind hf
  refine zcallSl (pc := 155) (As := [.long p4, .int p8]) (rest := [.long v22, .long p6]) ⟨hx, hb, hml, hown, hts⟩ (kX10_power l k p4 p8 q24 hc23) (va_cwS 2 hts gX10_lostUp_X10_power rfl rfl rfl (by decide +kernel) ⟨Nat.le_of_ble_eq_true rfl, Nat.le_of_ble_eq_true rfl⟩) rfl hl.1 rfl (Nat.le_of_ble_eq_true rfl) dX10_lostUp_155 (Nat.zero_le _) (Nat.zero_le _) ?_
  refine lv_lmul (pc := 158) hx hb dX10_lostUp_158 ?_
  refine lv_aload_n (pc := 159) hx hb dX10_lostUp_159 rfl (lv_at hl 1 rfl) ?_
  refine z_get (pc := 160) (index := 187) hx hb hts iwX10_lostUp_10 hown hI (ml_0 ad cy u) rfl 24 (by decide) (by decide +kernel) rfl rfl dX10_lostUp_160 ?_
  refine lv_iconst (pc := 163) (v := 3) hx hb dX10_lostUp_163 (by decide) ?_
  refine lv_iload (pc := 164) hx hb dX10_lostUp_164 (lv_at hl 5 rfl) ?_
  refine lv_isub (pc := 166) hx hb dX10_lostUp_166 ?_
  obtain ⟨q26, hc25, hf⟩ := zbind hf
  refine zcallSl (pc := 167) (As := [.long (mg_all u), .int ((3 : Int32) - p8)]) (rest := [.long (v22 * q24), .long p6]) ⟨hx, hb, hml, hown, hts⟩ (kX10_power l k (mg_all u) ((3 : Int32) - p8) q26 hc25) (va_cwS 2 hts gX10_lostUp_X10_power rfl rfl rfl (by decide +kernel) ⟨Nat.le_of_ble_eq_true rfl, Nat.le_of_ble_eq_true rfl⟩) rfl hl.1 rfl (Nat.le_of_ble_eq_true rfl) dX10_lostUp_167 (Nat.zero_le _) (Nat.zero_le _) ?_
  refine lv_lmul (pc := 170) hx hb dX10_lostUp_170 ?_
  refine lv_ladd (pc := 171) hx hb dX10_lostUp_171 ?_
  refine z_bl hf (fun v27 hf => ?_)
  refine lv_lstore (pc := 172) (lv' := [(6, .long v27), (9, .long v22), (0, .ref (ad 0)), (3, .int p3), (4, .long p4), (8, .int p8)]) hx hb dX10_lostUp_172 hl (by decide) rfl (fun ls hl => ?_)
  refine lv_iinc (pc := 174) (v := (p8 + 1)) (lv' := [(8, .int (p8 + 1)), (6, .long v27), (9, .long v22), (0, .ref (ad 0)), (3, .int p3), (4, .long p4)]) hx hb dX10_lostUp_174 hl (k := 5) rfl rfl (by decide) rfl (fun ls hl => ?_)
  refine lv_goto (pc := 177) (tgt := 85) hx hb dX10_lostUp_177 (by decide) ?_
  exact hL _ (Option.some.inj hf).symm _ _ _ hI (lv_sub hl [3, 4, 5, 1, 0] rfl)
set_option maxHeartbeats 4000000 in
set_option maxRecDepth 100000 in
theorem lX10_lostUp_85 (C0 : zFix p m c cX10_lostUp 11 s args wsX10_lostUp RX10 meth (some .long)) {k : Nat} {p3 : Int32} {p4 : Int64} {u : MX} {a : Int64 × Int32} {b : Int64} (hit : ziter (bX10_lostUp_85 k p3 p4 u) k a = some b) (hx9 : (fun (b : Int64) => ∀ (H : Heap) (locs : List Loc) (ls : Array Slot), zIn D ad cy (WM ad cy u) A s H locs → lv_has ls 11 [(0, .ref (ad 0)), (6, .long b)] → W p l e ({ frames := 2, cells := 0, slots := 0, locals := 45 } : Room) s m args below meth c H locs 0 0 Q (F0 m 180 ls [])) b) : (fun (a : Int64 × Int32) => ∀ (H : Heap) (locs : List Loc) (ls : Array Slot), zIn D ad cy (WM ad cy u) A s H locs → lv_has ls 11 [(0, .ref (ad 0)), (3, .int p3), (4, .long p4), (6, .long a.1), (8, .int a.2)] → W p l e ({ frames := 2, cells := 0, slots := 0, locals := 45 } : Room) s m args below meth c H locs 0 0 Q (F0 m 85 ls [])) a := by
  obtain ⟨hx, hb, hml, hown, hts, hr, hlk⟩ := id C0
  refine zloop (Wh := (fun (a : Int64 × Int32) => ∀ (H : Heap) (locs : List Loc) (ls : Array Slot), zIn D ad cy (WM ad cy u) A s H locs → lv_has ls 11 [(0, .ref (ad 0)), (3, .int p3), (4, .long p4), (6, .long a.1), (8, .int a.2)] → W p l e ({ frames := 2, cells := 0, slots := 0, locals := 45 } : Room) s m args below meth c H locs 0 0 Q (F0 m 85 ls []))) (Wx := (fun (b : Int64) => ∀ (H : Heap) (locs : List Loc) (ls : Array Slot), zIn D ad cy (WM ad cy u) A s H locs → lv_has ls 11 [(0, .ref (ad 0)), (6, .long b)] → W p l e ({ frames := 2, cells := 0, slots := 0, locals := 45 } : Room) s m args below meth c H locs 0 0 Q (F0 m 180 ls []))) ?_ _ a b hit hx9
  intro a x hf hL hX H locs ls hI hl
  unfold bX10_lostUp_85 at hf
  refine lv_iload (pc := 85) hx hb dX10_lostUp_85 (lv_at hl 4 rfl) ?_
  refine lv_iconst (pc := 87) (v := 4) hx hb dX10_lostUp_87 (by decide) ?_
  refine z_icmp_ge (pc := 88) (tgt := 180) hx hb dX10_lostUp_88 (by decide) hf (fun hf => ?_) (fun hf => ?_)
  · exact (hX _ (Option.some.inj hf).symm) _ _ _ hI (lv_sub hl [0, 3] rfl)
  refine lv_aload_n (pc := 91) hx hb dX10_lostUp_91 rfl (lv_at hl 0 rfl) ?_
  refine z_get (pc := 92) (index := 22) hx hb hts iwX10_lostUp_10 hown hI (ml_0 ad cy u) rfl 12 (by decide) (by decide +kernel) rfl rfl dX10_lostUp_92 ?_
  refine lv_bipush (pc := 95) (v := 12) hx hb dX10_lostUp_95 (by decide) ?_
  refine lv_iload (pc := 97) hx hb dX10_lostUp_97 (lv_at hl 4 rfl) ?_
  refine lv_iadd (pc := 99) hx hb dX10_lostUp_99 ?_
  refine z_iald (pc := 100) hx hb hI (ml_5 ad cy u) 0 rfl dX10_lostUp_100 hf (fun v14 hf => ?_)
  refine lv_i2l (pc := 101) hx hb dX10_lostUp_101 rfl ?_
  refine lv_iload (pc := 102) hx hb dX10_lostUp_102 (lv_at hl 4 rfl) ?_
  refine lv_iconst (pc := 104) (v := 3) hx hb dX10_lostUp_104 (by decide) ?_
  refine z_icmp_ne (pc := 105) (tgt := 114) hx hb dX10_lostUp_105 (by decide) hf (fun hf => ?_) (fun hf => ?_)
  · refine lv_ldc2 (pc := 114) (v := 100) hx hb hown (hts (.constantLong RX10 115 (100)) (by decide +kernel)) dX10_lostUp_114 ?_
    refine lv_iload_n (pc := 117) hx hb dX10_lostUp_117 rfl (lv_at hl 1 rfl) ?_
    refine lv_i2l (pc := 118) hx hb dX10_lostUp_118 rfl ?_
    refine lv_lsub (pc := 119) hx hb dX10_lostUp_119 ?_
    exact qX10_lostUp_j120_85 C0 hf hL hX hI (lv_sub hl [0, 1, 2, 3, 4] rfl)
  refine lv_ldc2 (pc := 108) (v := 100) hx hb hown (hts (.constantLong RX10 115 (100)) (by decide +kernel)) dX10_lostUp_108 ?_
  refine lv_goto (pc := 111) (tgt := 120) hx hb dX10_lostUp_111 (by decide) ?_
  exact qX10_lostUp_j120_85 C0 hf hL hX hI (lv_sub hl [0, 1, 2, 3, 4] rfl)
set_option maxHeartbeats 4000000 in
set_option maxRecDepth 100000 in
theorem kX10_lostUp (l : Launch) (D : va_G) (ad : Nat → Nat) (cy : Nat → ClassId) (k : Nat) (a1 : Int32) (a2 : Int32) (u : MX) (r : Int64) (u' : MX) (hf : fX10_lostUp k a1 a2 u = some (r, u')) : zCt l yX10_lostUp wsX10_lostUp ({ frames := 2, cells := 0, slots := 0, locals := 45 } : Room) D ad cy [.ref (ad 0), .int a1, .int a2] (WM ad cy u) (some (.long r)) (WM ad cy u') := by
  refine zCt.of (cc := cX10_lostUp) (maxL := 11) (ret := (some .long)) (own := RX10) (by decide) rfl rfl ?_
  intro p e s m below meth c A C0 hI
  obtain ⟨hx, hb, hml, hown, hts, hr, hlk⟩ := id C0
  refine z_entry (Nat.le_of_ble_eq_true rfl) (fun ls hl => ?_)
  have hl : lv_has ls 11 [(0, .ref (ad 0)), (1, .int a1), (2, .int a2)] := hl
  unfold fX10_lostUp at hf
  refine lv_aload_n (pc := 0) hx hb dX10_lostUp_0 rfl (lv_at hl 0 rfl) ?_
  refine lv_iload_n (pc := 1) hx hb dX10_lostUp_1 rfl (lv_at hl 1 rfl) ?_
  obtain ⟨q2, hc1, hf⟩ := zbind hf
  refine zcallVv (pc := 2) (As := [.int a1]) (rest := []) ⟨hx, hb, hml, hown, hts⟩ (kX10_layLaw l D ad cy k a1 u q2 hc1) (cwV 1 hts gX10_lostUp_X10_layLaw rfl rfl rfl (by decide +kernel) ⟨Nat.le_of_ble_eq_true rfl, Nat.le_of_ble_eq_true rfl⟩) hI rfl (ml_0 ad cy u) rfl hl.1 rfl (Nat.le_of_ble_eq_true rfl) dX10_lostUp_2 (Nat.zero_le _) (Nat.zero_le _) (fun H locs hI => ?_)
  refine lv_aload_n (pc := 5) hx hb dX10_lostUp_5 rfl (lv_at hl 0 rfl) ?_
  refine lv_iload_n (pc := 6) hx hb dX10_lostUp_6 rfl (lv_at hl 2 rfl) ?_
  obtain ⟨q4, hc3, hf⟩ := zbind hf
  refine zcallVi (pc := 7) (As := [.int a2]) (rest := []) ⟨hx, hb, hml, hown, hts⟩ (kX10_weightOf l D ad cy k a2 q2 q4 hc3) (cwV 1 hts gX10_lostUp_X10_weightOf rfl rfl rfl (by decide +kernel) ⟨Nat.le_of_ble_eq_true rfl, Nat.le_of_ble_eq_true rfl⟩) hI rfl (ml_0 ad cy q2) rfl hl.1 rfl (Nat.le_of_ble_eq_true rfl) dX10_lostUp_7 (Nat.zero_le _) (Nat.zero_le _) (fun H locs hI => ?_)
  refine lv_istore_n (pc := 10) (lv' := [(3, .int q4), (0, .ref (ad 0)), (1, .int a1), (2, .int a2)]) hx hb dX10_lostUp_10 rfl hl (by decide) rfl (fun ls hl => ?_)
  refine lv_lconst (pc := 11) (v := 0) hx hb dX10_lostUp_11 (by decide) ?_
  refine lv_lstore (pc := 12) (lv' := [(4, .long (0 : Int64)), (3, .int q4), (0, .ref (ad 0)), (1, .int a1), (2, .int a2)]) hx hb dX10_lostUp_12 hl (by decide) rfl (fun ls hl => ?_)
  refine lv_iconst (pc := 14) (v := 0) hx hb dX10_lostUp_14 (by decide) ?_
  refine lv_istore (pc := 15) (lv' := [(6, .int (0 : Int32)), (4, .long (0 : Int64)), (3, .int q4), (0, .ref (ad 0)), (1, .int a1), (2, .int a2)]) hx hb dX10_lostUp_15 hl (by decide) rfl (fun ls hl => ?_)
  obtain ⟨b12, hb13, hf⟩ := zbind hf
  refine lX10_lostUp_17 C0 hb13 ?_ _ _ _ hI (lv_sub hl [3, 5, 2, 1, 0] rfl)
  intro H locs ls hI hl
  refine lv_lconst (pc := 79) (v := 0) hx hb dX10_lostUp_79 (by decide) ?_
  refine lv_lstore (pc := 80) (lv' := [(6, .long (0 : Int64)), (0, .ref (ad 0)), (3, .int q4), (4, .long b12)]) hx hb dX10_lostUp_80 hl (by decide) rfl (fun ls hl => ?_)
  refine lv_iconst (pc := 82) (v := 0) hx hb dX10_lostUp_82 (by decide) ?_
  refine lv_istore (pc := 83) (lv' := [(8, .int (0 : Int32)), (6, .long (0 : Int64)), (0, .ref (ad 0)), (3, .int q4), (4, .long b12)]) hx hb dX10_lostUp_83 hl (by decide) rfl (fun ls hl => ?_)
  obtain ⟨b28, hb29, hf⟩ := zbind hf
  refine lX10_lostUp_85 C0 hb29 ?_ _ _ _ hI (lv_sub hl [2, 3, 4, 1, 0] rfl)
  intro H locs ls hI hl
  refine lv_ldc2 (pc := 180) (v := 100) hx hb hown (hts (.constantLong RX10 115 (100)) (by decide +kernel)) dX10_lostUp_180 ?_
  refine lv_aload_n (pc := 183) hx hb dX10_lostUp_183 rfl (lv_at hl 0 rfl) ?_
  obtain ⟨q31, hc30, hf⟩ := zbind hf
  refine zcallVl (pc := 184) (As := []) (rest := [.long (100 : Int64)]) ⟨hx, hb, hml, hown, hts⟩ (kX10_whole l D ad cy k q2 q31 hc30) (cwV 0 hts gX10_lostUp_X10_whole rfl rfl rfl (by decide +kernel) ⟨Nat.le_of_ble_eq_true rfl, Nat.le_of_ble_eq_true rfl⟩) hI rfl (ml_0 ad cy q2) rfl hl.1 rfl (Nat.le_of_ble_eq_true rfl) dX10_lostUp_184 (Nat.zero_le _) (Nat.zero_le _) (fun H locs hI => ?_)
  refine lv_lmul (pc := 187) hx hb dX10_lostUp_187 ?_
  refine lv_lload (pc := 188) hx hb dX10_lostUp_188 (lv_at hl 1 rfl) ?_
  refine lv_ldc2 (pc := 190) (v := 1000) hx hb hown (hts (.constantLong RX10 199 (1000)) (by decide +kernel)) dX10_lostUp_190 ?_
  refine lv_aload_n (pc := 193) hx hb dX10_lostUp_193 rfl (lv_at hl 0 rfl) ?_
  refine z_get (pc := 194) (index := 22) hx hb hts iwX10_lostUp_10 hown hI (ml_0 ad cy q2) rfl 12 (by decide) (by decide +kernel) rfl rfl dX10_lostUp_194 ?_
  refine lv_bipush (pc := 197) (v := 16) hx hb dX10_lostUp_197 (by decide) ?_
  refine z_iald (pc := 199) hx hb hI (ml_5 ad cy q2) 0 rfl dX10_lostUp_199 hf (fun v32 hf => ?_)
  refine lv_i2l (pc := 200) hx hb dX10_lostUp_200 rfl ?_
  refine lv_lsub (pc := 201) hx hb dX10_lostUp_201 ?_
  refine lv_lmul (pc := 202) hx hb dX10_lostUp_202 ?_
  refine lv_lsub (pc := 203) hx hb dX10_lostUp_203 ?_
  obtain ⟨rfl, rfl⟩ := zpair hf
  exact z_lret (pc := 204) C0 hI dX10_lostUp_204
set_option maxHeartbeats 4000000 in
set_option maxRecDepth 100000 in
theorem kX10_lost (l : Launch) (D : va_G) (ad : Nat → Nat) (cy : Nat → ClassId) (k : Nat) (a1 : Int32) (a2 : Int32) (a3 : Int32) (u : MX) (r : Int64) (u' : MX) (hf : fX10_lost k a1 a2 a3 u = some (r, u')) : zCt l yX10_lost wsX10_lost ({ frames := 3, cells := 0, slots := 0, locals := 75 } : Room) D ad cy [.ref (ad 0), .int a1, .int a2, .int a3] (WM ad cy u) (some (.long r)) (WM ad cy u') := by
  refine zCt.of (cc := cX10_lost) (maxL := 6) (ret := (some .long)) (own := RX10) (by decide) rfl rfl ?_
  intro p e s m below meth c A C0 hI
  obtain ⟨hx, hb, hml, hown, hts, hr, hlk⟩ := id C0
  refine z_entry (Nat.le_of_ble_eq_true rfl) (fun ls hl => ?_)
  have hl : lv_has ls 6 [(0, .ref (ad 0)), (1, .int a1), (2, .int a2), (3, .int a3)] := hl
  unfold fX10_lost at hf
  refine lv_iload_n (pc := 0) hx hb dX10_lost_0 rfl (lv_at hl 1 rfl) ?_
  obtain ⟨q2, hc1, hf⟩ := zbind hf
  refine zcallSi (pc := 1) (As := [.int a1]) (rest := []) ⟨hx, hb, hml, hown, hts⟩ (kX10_isLaw l a1 q2 hc1) (va_cwS 1 hts gX10_lost_X10_isLaw rfl rfl rfl (by decide +kernel) ⟨Nat.le_of_ble_eq_true rfl, Nat.le_of_ble_eq_true rfl⟩) rfl hl.1 rfl (Nat.le_of_ble_eq_true rfl) dX10_lost_1 (Nat.zero_le _) (Nat.zero_le _) ?_
  refine z_if_eq (pc := 4) (tgt := 25) hx hb dX10_lost_4 (by decide) hf (fun hf => ?_) (fun hf => ?_)
  · refine lv_ldc2 (pc := 25) (v := -1) hx hb hown (hts (.constantLong RX10 204 (-1)) (by decide +kernel)) dX10_lost_25 ?_
    obtain ⟨rfl, rfl⟩ := zpair hf
    exact z_lret (pc := 28) C0 hI dX10_lost_28
  refine lv_aload_n (pc := 7) hx hb dX10_lost_7 rfl (lv_at hl 0 rfl) ?_
  refine lv_iload_n (pc := 8) hx hb dX10_lost_8 rfl (lv_at hl 2 rfl) ?_
  obtain ⟨q4, hc3, hf⟩ := zbind hf
  refine zcallVi (pc := 9) (As := [.int a2]) (rest := []) ⟨hx, hb, hml, hown, hts⟩ (kX10_isWithin l D ad cy k a2 u q4 hc3) (cwV 1 hts gX10_lost_X10_isWithin rfl rfl rfl (by decide +kernel) ⟨Nat.le_of_ble_eq_true rfl, Nat.le_of_ble_eq_true rfl⟩) hI rfl (ml_0 ad cy u) rfl hl.1 rfl (Nat.le_of_ble_eq_true rfl) dX10_lost_9 (Nat.zero_le _) (Nat.zero_le _) (fun H locs hI => ?_)
  refine z_if_eq (pc := 12) (tgt := 25) hx hb dX10_lost_12 (by decide) hf (fun hf => ?_) (fun hf => ?_)
  · refine lv_ldc2 (pc := 25) (v := -1) hx hb hown (hts (.constantLong RX10 204 (-1)) (by decide +kernel)) dX10_lost_25 ?_
    obtain ⟨rfl, rfl⟩ := zpair hf
    exact z_lret (pc := 28) C0 hI dX10_lost_28
  refine lv_iload_n (pc := 15) hx hb dX10_lost_15 rfl (lv_at hl 3 rfl) ?_
  refine lv_i2l (pc := 16) hx hb dX10_lost_16 rfl ?_
  refine lv_lconst (pc := 17) (v := 0) hx hb dX10_lost_17 (by decide) ?_
  refine lv_lconst (pc := 18) (v := 1) hx hb dX10_lost_18 (by decide) ?_
  obtain ⟨q6, hc5, hf⟩ := zbind hf
  refine zcallSi (pc := 19) (As := [.long (a3.toInt64), .long (0 : Int64), .long (1 : Int64)]) (rest := []) ⟨hx, hb, hml, hown, hts⟩ (kX10_in l (a3.toInt64) (0 : Int64) (1 : Int64) q6 hc5) (va_cwS 3 hts gX10_lost_X10_in rfl rfl rfl (by decide +kernel) ⟨Nat.le_of_ble_eq_true rfl, Nat.le_of_ble_eq_true rfl⟩) rfl hl.1 rfl (Nat.le_of_ble_eq_true rfl) dX10_lost_19 (Nat.zero_le _) (Nat.zero_le _) ?_
  refine z_if_ne (pc := 22) (tgt := 29) hx hb dX10_lost_22 (by decide) hf (fun hf => ?_) (fun hf => ?_)
  · refine lv_aload_n (pc := 29) hx hb dX10_lost_29 rfl (lv_at hl 0 rfl) ?_
    refine lv_iload_n (pc := 30) hx hb dX10_lost_30 rfl (lv_at hl 1 rfl) ?_
    refine lv_iload_n (pc := 31) hx hb dX10_lost_31 rfl (lv_at hl 2 rfl) ?_
    obtain ⟨q8, hc7, hf⟩ := zbind hf
    refine zcallVl (pc := 32) (As := [.int a1, .int a2]) (rest := []) ⟨hx, hb, hml, hown, hts⟩ (kX10_lostUp l D ad cy k a1 a2 u q8.1 q8.2 hc7) (cwV 2 hts gX10_lost_X10_lostUp rfl rfl rfl (by decide +kernel) ⟨Nat.le_of_ble_eq_true rfl, Nat.le_of_ble_eq_true rfl⟩) hI rfl (ml_0 ad cy u) rfl hl.1 rfl (Nat.le_of_ble_eq_true rfl) dX10_lost_32 (Nat.zero_le _) (Nat.zero_le _) (fun H locs hI => ?_)
    refine lv_lstore (pc := 35) (lv' := [(4, .long q8.1), (0, .ref (ad 0)), (1, .int a1), (2, .int a2), (3, .int a3)]) hx hb dX10_lost_35 hl (by decide) rfl (fun ls hl => ?_)
    refine lv_lload (pc := 37) hx hb dX10_lost_37 (lv_at hl 0 rfl) ?_
    refine lv_ldc2 (pc := 39) (v := 100) hx hb hown (hts (.constantLong RX10 115 (100)) (by decide +kernel)) dX10_lost_39 ?_
    refine lv_aload_n (pc := 42) hx hb dX10_lost_42 rfl (lv_at hl 1 rfl) ?_
    obtain ⟨q10, hc9, hf⟩ := zbind hf
    refine zcallVl (pc := 43) (As := []) (rest := [.long (100 : Int64), .long q8.1]) ⟨hx, hb, hml, hown, hts⟩ (kX10_whole l D ad cy k q8.2 q10 hc9) (cwV 0 hts gX10_lost_X10_whole rfl rfl rfl (by decide +kernel) ⟨Nat.le_of_ble_eq_true rfl, Nat.le_of_ble_eq_true rfl⟩) hI rfl (ml_0 ad cy q8.2) rfl hl.1 rfl (Nat.le_of_ble_eq_true rfl) dX10_lost_43 (Nat.zero_le _) (Nat.zero_le _) (fun H locs hI => ?_)
    refine lv_lmul (pc := 46) hx hb dX10_lost_46 ?_
    refine lv_iload_n (pc := 47) hx hb dX10_lost_47 rfl (lv_at hl 4 rfl) ?_
    obtain ⟨q12, hc11, hf⟩ := zbind hf
    refine zcallSl (pc := 48) (As := [.long q8.1, .long ((100 : Int64) * q10), .int a3]) (rest := []) ⟨hx, hb, hml, hown, hts⟩ (kX10_lowest l k q8.1 ((100 : Int64) * q10) a3 q12 hc11) (va_cwS 3 hts gX10_lost_X10_lowest rfl rfl rfl (by decide +kernel) ⟨Nat.le_of_ble_eq_true rfl, Nat.le_of_ble_eq_true rfl⟩) rfl hl.1 rfl (Nat.le_of_ble_eq_true rfl) dX10_lost_48 (Nat.zero_le _) (Nat.zero_le _) ?_
    obtain ⟨rfl, rfl⟩ := zpair hf
    exact z_lret (pc := 51) C0 hI dX10_lost_51
  refine lv_ldc2 (pc := 25) (v := -1) hx hb hown (hts (.constantLong RX10 204 (-1)) (by decide +kernel)) dX10_lost_25 ?_
  obtain ⟨rfl, rfl⟩ := zpair hf
  exact z_lret (pc := 28) C0 hI dX10_lost_28
set_option maxHeartbeats 4000000 in
set_option maxRecDepth 100000 in
theorem lX10_bestOf_12 (C0 : zFix p m c cX10_bestOf 6 s args wsX10_bestOf RX10 meth (some .int)) {k : Nat} {p1 : Int32} {a : Int32 × Int64 × Int32 × MX} {b : Int32 × MX} (hit : ziter (bX10_bestOf_12 k p1) k a = some b) (hx9 : (fun (b : Int32 × MX) => ∀ (H : Heap) (locs : List Loc) (ls : Array Slot), zIn D ad cy (WM ad cy b.2) A s H locs → lv_has ls 6 [(2, .int b.1)] → W p l e ({ frames := 3, cells := 0, slots := 0, locals := 75 } : Room) s m args below meth c H locs 0 0 Q (F0 m 57 ls [])) b) : (fun (a : Int32 × Int64 × Int32 × MX) => ∀ (H : Heap) (locs : List Loc) (ls : Array Slot), zIn D ad cy (WM ad cy a.2.2.2) A s H locs → lv_has ls 6 [(0, .ref (ad 0)), (1, .int p1), (2, .int a.1), (3, .long a.2.1), (5, .int a.2.2.1)] → W p l e ({ frames := 3, cells := 0, slots := 0, locals := 75 } : Room) s m args below meth c H locs 0 0 Q (F0 m 12 ls [])) a := by
  obtain ⟨hx, hb, hml, hown, hts, hr, hlk⟩ := id C0
  refine zloop (Wh := (fun (a : Int32 × Int64 × Int32 × MX) => ∀ (H : Heap) (locs : List Loc) (ls : Array Slot), zIn D ad cy (WM ad cy a.2.2.2) A s H locs → lv_has ls 6 [(0, .ref (ad 0)), (1, .int p1), (2, .int a.1), (3, .long a.2.1), (5, .int a.2.2.1)] → W p l e ({ frames := 3, cells := 0, slots := 0, locals := 75 } : Room) s m args below meth c H locs 0 0 Q (F0 m 12 ls []))) (Wx := (fun (b : Int32 × MX) => ∀ (H : Heap) (locs : List Loc) (ls : Array Slot), zIn D ad cy (WM ad cy b.2) A s H locs → lv_has ls 6 [(2, .int b.1)] → W p l e ({ frames := 3, cells := 0, slots := 0, locals := 75 } : Room) s m args below meth c H locs 0 0 Q (F0 m 57 ls []))) ?_ _ a b hit hx9
  intro a x hf hL hX H locs ls hI hl
  unfold bX10_bestOf_12 at hf
  refine lv_iload (pc := 12) hx hb dX10_bestOf_12 (lv_at hl 4 rfl) ?_
  refine lv_bipush (pc := 14) (v := 16) hx hb dX10_bestOf_14 (by decide) ?_
  refine z_icmp_ge (pc := 16) (tgt := 57) hx hb dX10_bestOf_16 (by decide) hf (fun hf => ?_) (fun hf => ?_)
  · exact (hX _ (Option.some.inj hf).symm) _ _ _ hI (lv_sub hl [2] rfl)
  refine lv_aload_n (pc := 19) hx hb dX10_bestOf_19 rfl (lv_at hl 0 rfl) ?_
  refine lv_iload (pc := 20) hx hb dX10_bestOf_20 (lv_at hl 4 rfl) ?_
  obtain ⟨q4, hc3, hf⟩ := zbind hf
  refine zcallVi (pc := 22) (As := [.int a.2.2.1]) (rest := []) ⟨hx, hb, hml, hown, hts⟩ (kX10_isWithin l D ad cy k a.2.2.1 a.2.2.2 q4 hc3) (cwV 1 hts gX10_bestOf_X10_isWithin rfl rfl rfl (by decide +kernel) ⟨Nat.le_of_ble_eq_true rfl, Nat.le_of_ble_eq_true rfl⟩) hI rfl (ml_0 ad cy a.2.2.2) rfl hl.1 rfl (Nat.le_of_ble_eq_true rfl) dX10_bestOf_22 (Nat.zero_le _) (Nat.zero_le _) (fun H locs hI => ?_)
  refine z_if_eq (pc := 25) (tgt := 51) hx hb dX10_bestOf_25 (by decide) hf (fun hf => ?_) (fun hf => ?_)
  · refine lv_iinc (pc := 51) (v := (a.2.2.1 + 1)) (lv' := [(5, .int (a.2.2.1 + 1)), (0, .ref (ad 0)), (1, .int p1), (2, .int a.1), (3, .long a.2.1)]) hx hb dX10_bestOf_51 hl (k := 4) rfl rfl (by decide) rfl (fun ls hl => ?_)
    refine lv_goto (pc := 54) (tgt := 12) hx hb dX10_bestOf_54 (by decide) ?_
    exact hL _ (Option.some.inj hf).symm _ _ _ hI (lv_sub hl [1, 2, 3, 4, 0] rfl)
  refine lv_aload_n (pc := 28) hx hb dX10_bestOf_28 rfl (lv_at hl 0 rfl) ?_
  refine lv_iload_n (pc := 29) hx hb dX10_bestOf_29 rfl (lv_at hl 1 rfl) ?_
  refine lv_iload (pc := 30) hx hb dX10_bestOf_30 (lv_at hl 4 rfl) ?_
  obtain ⟨q6, hc5, hf⟩ := zbind hf
  refine zcallVl (pc := 32) (As := [.int p1, .int a.2.2.1]) (rest := []) ⟨hx, hb, hml, hown, hts⟩ (kX10_lostUp l D ad cy k p1 a.2.2.1 a.2.2.2 q6.1 q6.2 hc5) (cwV 2 hts gX10_bestOf_X10_lostUp rfl rfl rfl (by decide +kernel) ⟨Nat.le_of_ble_eq_true rfl, Nat.le_of_ble_eq_true rfl⟩) hI rfl (ml_0 ad cy a.2.2.2) rfl hl.1 rfl (Nat.le_of_ble_eq_true rfl) dX10_bestOf_32 (Nat.zero_le _) (Nat.zero_le _) (fun H locs hI => ?_)
  refine lv_lload_n (pc := 35) hx hb dX10_bestOf_35 rfl (lv_at hl 3 rfl) ?_
  refine z_lc_ge (pc := 36) (tgt := 51) hx hb dX10_bestOf_36 dX10_bestOf_37 (by decide) hf (fun hf => ?_) (fun hf => ?_)
  · refine lv_iinc (pc := 51) (v := (a.2.2.1 + 1)) (lv' := [(5, .int (a.2.2.1 + 1)), (0, .ref (ad 0)), (1, .int p1), (2, .int a.1), (3, .long a.2.1)]) hx hb dX10_bestOf_51 hl (k := 4) rfl rfl (by decide) rfl (fun ls hl => ?_)
    refine lv_goto (pc := 54) (tgt := 12) hx hb dX10_bestOf_54 (by decide) ?_
    exact hL _ (Option.some.inj hf).symm _ _ _ hI (lv_sub hl [1, 2, 3, 4, 0] rfl)
  refine lv_aload_n (pc := 40) hx hb dX10_bestOf_40 rfl (lv_at hl 0 rfl) ?_
  refine lv_iload_n (pc := 41) hx hb dX10_bestOf_41 rfl (lv_at hl 1 rfl) ?_
  refine lv_iload (pc := 42) hx hb dX10_bestOf_42 (lv_at hl 4 rfl) ?_
  obtain ⟨q8, hc7, hf⟩ := zbind hf
  refine zcallVl (pc := 44) (As := [.int p1, .int a.2.2.1]) (rest := []) ⟨hx, hb, hml, hown, hts⟩ (kX10_lostUp l D ad cy k p1 a.2.2.1 q6.2 q8.1 q8.2 hc7) (cwV 2 hts gX10_bestOf_X10_lostUp rfl rfl rfl (by decide +kernel) ⟨Nat.le_of_ble_eq_true rfl, Nat.le_of_ble_eq_true rfl⟩) hI rfl (ml_0 ad cy q6.2) rfl hl.1 rfl (Nat.le_of_ble_eq_true rfl) dX10_bestOf_44 (Nat.zero_le _) (Nat.zero_le _) (fun H locs hI => ?_)
  refine lv_lstore_n (pc := 47) (lv' := [(3, .long q8.1), (0, .ref (ad 0)), (1, .int p1), (2, .int a.1), (5, .int a.2.2.1)]) hx hb dX10_bestOf_47 rfl hl (by decide) rfl (fun ls hl => ?_)
  refine lv_iload (pc := 48) hx hb dX10_bestOf_48 (lv_at hl 4 rfl) ?_
  refine lv_istore_n (pc := 50) (lv' := [(2, .int a.2.2.1), (3, .long q8.1), (0, .ref (ad 0)), (1, .int p1), (5, .int a.2.2.1)]) hx hb dX10_bestOf_50 rfl hl (by decide) rfl (fun ls hl => ?_)
  refine lv_iinc (pc := 51) (v := (a.2.2.1 + 1)) (lv' := [(5, .int (a.2.2.1 + 1)), (2, .int a.2.2.1), (3, .long q8.1), (0, .ref (ad 0)), (1, .int p1)]) hx hb dX10_bestOf_51 hl (k := 4) rfl rfl (by decide) rfl (fun ls hl => ?_)
  refine lv_goto (pc := 54) (tgt := 12) hx hb dX10_bestOf_54 (by decide) ?_
  exact hL _ (Option.some.inj hf).symm _ _ _ hI (lv_sub hl [3, 4, 1, 2, 0] rfl)
set_option maxHeartbeats 4000000 in
set_option maxRecDepth 100000 in
theorem kX10_bestOf (l : Launch) (D : va_G) (ad : Nat → Nat) (cy : Nat → ClassId) (k : Nat) (a1 : Int32) (u : MX) (r : Int32) (u' : MX) (hf : fX10_bestOf k a1 u = some (r, u')) : zCt l yX10_bestOf wsX10_bestOf ({ frames := 3, cells := 0, slots := 0, locals := 75 } : Room) D ad cy [.ref (ad 0), .int a1] (WM ad cy u) (some (.int r)) (WM ad cy u') := by
  refine zCt.of (cc := cX10_bestOf) (maxL := 6) (ret := (some .int)) (own := RX10) (by decide) rfl rfl ?_
  intro p e s m below meth c A C0 hI
  obtain ⟨hx, hb, hml, hown, hts, hr, hlk⟩ := id C0
  refine z_entry (Nat.le_of_ble_eq_true rfl) (fun ls hl => ?_)
  have hl : lv_has ls 6 [(0, .ref (ad 0)), (1, .int a1)] := hl
  unfold fX10_bestOf at hf
  refine lv_iconst (pc := 0) (v := 0) hx hb dX10_bestOf_0 (by decide) ?_
  refine lv_istore_n (pc := 1) (lv' := [(2, .int (0 : Int32)), (0, .ref (ad 0)), (1, .int a1)]) hx hb dX10_bestOf_1 rfl hl (by decide) rfl (fun ls hl => ?_)
  refine lv_aload_n (pc := 2) hx hb dX10_bestOf_2 rfl (lv_at hl 1 rfl) ?_
  refine lv_iload_n (pc := 3) hx hb dX10_bestOf_3 rfl (lv_at hl 2 rfl) ?_
  refine lv_iconst (pc := 4) (v := 0) hx hb dX10_bestOf_4 (by decide) ?_
  obtain ⟨q2, hc1, hf⟩ := zbind hf
  refine zcallVl (pc := 5) (As := [.int a1, .int (0 : Int32)]) (rest := []) ⟨hx, hb, hml, hown, hts⟩ (kX10_lostUp l D ad cy k a1 (0 : Int32) u q2.1 q2.2 hc1) (cwV 2 hts gX10_bestOf_X10_lostUp rfl rfl rfl (by decide +kernel) ⟨Nat.le_of_ble_eq_true rfl, Nat.le_of_ble_eq_true rfl⟩) hI rfl (ml_0 ad cy u) rfl hl.1 rfl (Nat.le_of_ble_eq_true rfl) dX10_bestOf_5 (Nat.zero_le _) (Nat.zero_le _) (fun H locs hI => ?_)
  refine lv_lstore_n (pc := 8) (lv' := [(3, .long q2.1), (2, .int (0 : Int32)), (0, .ref (ad 0)), (1, .int a1)]) hx hb dX10_bestOf_8 rfl hl (by decide) rfl (fun ls hl => ?_)
  refine lv_iconst (pc := 9) (v := 1) hx hb dX10_bestOf_9 (by decide) ?_
  refine lv_istore (pc := 10) (lv' := [(5, .int (1 : Int32)), (3, .long q2.1), (2, .int (0 : Int32)), (0, .ref (ad 0)), (1, .int a1)]) hx hb dX10_bestOf_10 hl (by decide) rfl (fun ls hl => ?_)
  obtain ⟨b9, hb10, hf⟩ := zbind hf
  refine lX10_bestOf_12 C0 hb10 ?_ _ _ _ hI (lv_sub hl [3, 4, 2, 1, 0] rfl)
  intro H locs ls hI hl
  refine lv_iload_n (pc := 57) hx hb dX10_bestOf_57 rfl (lv_at hl 0 rfl) ?_
  obtain ⟨rfl, rfl⟩ := zpair hf
  exact z_iret (pc := 58) C0 hI dX10_bestOf_58
set_option maxHeartbeats 4000000 in
set_option maxRecDepth 100000 in
theorem kX10_best (l : Launch) (D : va_G) (ad : Nat → Nat) (cy : Nat → ClassId) (k : Nat) (a1 : Int32) (u : MX) (r : Int32) (u' : MX) (hf : fX10_best k a1 u = some (r, u')) : zCt l yX10_best wsX10_best ({ frames := 4, cells := 0, slots := 0, locals := 100 } : Room) D ad cy [.ref (ad 0), .int a1] (WM ad cy u) (some (.int r)) (WM ad cy u') := by
  refine zCt.of (cc := cX10_best) (maxL := 2) (ret := (some .int)) (own := RX10) (by decide) rfl rfl ?_
  intro p e s m below meth c A C0 hI
  obtain ⟨hx, hb, hml, hown, hts, hr, hlk⟩ := id C0
  refine z_entry (Nat.le_of_ble_eq_true rfl) (fun ls hl => ?_)
  have hl : lv_has ls 2 [(0, .ref (ad 0)), (1, .int a1)] := hl
  unfold fX10_best at hf
  refine lv_iload_n (pc := 0) hx hb dX10_best_0 rfl (lv_at hl 1 rfl) ?_
  obtain ⟨q2, hc1, hf⟩ := zbind hf
  refine zcallSi (pc := 1) (As := [.int a1]) (rest := []) ⟨hx, hb, hml, hown, hts⟩ (kX10_isLaw l a1 q2 hc1) (va_cwS 1 hts gX10_best_X10_isLaw rfl rfl rfl (by decide +kernel) ⟨Nat.le_of_ble_eq_true rfl, Nat.le_of_ble_eq_true rfl⟩) rfl hl.1 rfl (Nat.le_of_ble_eq_true rfl) dX10_best_1 (Nat.zero_le _) (Nat.zero_le _) ?_
  refine z_if_eq (pc := 4) (tgt := 15) hx hb dX10_best_4 (by decide) hf (fun hf => ?_) (fun hf => ?_)
  · refine lv_iconst (pc := 15) (v := -1) hx hb dX10_best_15 (by decide) ?_
    obtain ⟨rfl, rfl⟩ := zpair hf
    exact z_iret (pc := 16) C0 hI dX10_best_16
  refine lv_aload_n (pc := 7) hx hb dX10_best_7 rfl (lv_at hl 0 rfl) ?_
  refine lv_iload_n (pc := 8) hx hb dX10_best_8 rfl (lv_at hl 1 rfl) ?_
  obtain ⟨q4, hc3, hf⟩ := zbind hf
  refine zcallVi (pc := 9) (As := [.int a1]) (rest := []) ⟨hx, hb, hml, hown, hts⟩ (kX10_bestOf l D ad cy k a1 u q4.1 q4.2 hc3) (cwV 1 hts gX10_best_X10_bestOf rfl rfl rfl (by decide +kernel) ⟨Nat.le_of_ble_eq_true rfl, Nat.le_of_ble_eq_true rfl⟩) hI rfl (ml_0 ad cy u) rfl hl.1 rfl (Nat.le_of_ble_eq_true rfl) dX10_best_9 (Nat.zero_le _) (Nat.zero_le _) (fun H locs hI => ?_)
  refine lv_goto (pc := 12) (tgt := 16) hx hb dX10_best_12 (by decide) ?_
  obtain ⟨rfl, rfl⟩ := zpair hf
  exact z_iret (pc := 16) C0 hI dX10_best_16
set_option maxHeartbeats 4000000 in
set_option maxRecDepth 100000 in
theorem lX10_safest_53 (C0 : zFix p m c cX10_safest 10 s args wsX10_safest RX10 meth (some .int)) {k : Nat} {p1 : Int32} {p2 : Int64} {p4 : Int32} {a : Int64 × Int32 × MX} {b : Int64 × MX} (hit : ziter (bX10_safest_53 k p1 p2 p4) k a = some b) (hx9 : (fun (b : Int64 × MX) => ∀ (H : Heap) (locs : List Loc) (ls : Array Slot), zIn D ad cy (WM ad cy b.2) A s H locs → lv_has ls 10 [(0, .ref (ad 0)), (1, .int p1), (2, .long p2), (4, .int p4), (5, .long b.1)] → W p l e ({ frames := 4, cells := 0, slots := 0, locals := 95 } : Room) s m args below meth c H locs 0 0 Q (F0 m 100 ls [])) b) : (fun (a : Int64 × Int32 × MX) => ∀ (H : Heap) (locs : List Loc) (ls : Array Slot), zIn D ad cy (WM ad cy a.2.2) A s H locs → lv_has ls 10 [(0, .ref (ad 0)), (1, .int p1), (2, .long p2), (4, .int p4), (5, .long a.1), (7, .int a.2.1)] → W p l e ({ frames := 4, cells := 0, slots := 0, locals := 95 } : Room) s m args below meth c H locs 0 0 Q (F0 m 53 ls [])) a := by
  obtain ⟨hx, hb, hml, hown, hts, hr, hlk⟩ := id C0
  refine zloop (Wh := (fun (a : Int64 × Int32 × MX) => ∀ (H : Heap) (locs : List Loc) (ls : Array Slot), zIn D ad cy (WM ad cy a.2.2) A s H locs → lv_has ls 10 [(0, .ref (ad 0)), (1, .int p1), (2, .long p2), (4, .int p4), (5, .long a.1), (7, .int a.2.1)] → W p l e ({ frames := 4, cells := 0, slots := 0, locals := 95 } : Room) s m args below meth c H locs 0 0 Q (F0 m 53 ls []))) (Wx := (fun (b : Int64 × MX) => ∀ (H : Heap) (locs : List Loc) (ls : Array Slot), zIn D ad cy (WM ad cy b.2) A s H locs → lv_has ls 10 [(0, .ref (ad 0)), (1, .int p1), (2, .long p2), (4, .int p4), (5, .long b.1)] → W p l e ({ frames := 4, cells := 0, slots := 0, locals := 95 } : Room) s m args below meth c H locs 0 0 Q (F0 m 100 ls []))) ?_ _ a b hit hx9
  intro a x hf hL hX H locs ls hI hl
  unfold bX10_safest_53 at hf
  refine lv_iload (pc := 53) hx hb dX10_safest_53 (lv_at hl 5 rfl) ?_
  refine lv_bipush (pc := 55) (v := -4) hx hb dX10_safest_55 (by decide) ?_
  refine z_icmp_eq (pc := 57) (tgt := 100) hx hb dX10_safest_57 (by decide) hf (fun hf => ?_) (fun hf => ?_)
  · exact (hX _ (Option.some.inj hf).symm) _ _ _ hI (lv_sub hl [0, 1, 2, 3, 4] rfl)
  refine lv_aload_n (pc := 60) hx hb dX10_safest_60 rfl (lv_at hl 0 rfl) ?_
  refine lv_iload (pc := 61) hx hb dX10_safest_61 (lv_at hl 5 rfl) ?_
  refine lv_iload (pc := 63) hx hb dX10_safest_63 (lv_at hl 3 rfl) ?_
  obtain ⟨q10, hc9, hf⟩ := zbind hf
  refine zcallVl (pc := 65) (As := [.int a.2.1, .int p4]) (rest := []) ⟨hx, hb, hml, hown, hts⟩ (kX10_lostUp l D ad cy k a.2.1 p4 a.2.2 q10.1 q10.2 hc9) (cwV 2 hts gX10_safest_X10_lostUp rfl rfl rfl (by decide +kernel) ⟨Nat.le_of_ble_eq_true rfl, Nat.le_of_ble_eq_true rfl⟩) hI rfl (ml_0 ad cy a.2.2) rfl hl.1 rfl (Nat.le_of_ble_eq_true rfl) dX10_safest_65 (Nat.zero_le _) (Nat.zero_le _) (fun H locs hI => ?_)
  refine lv_lstore (pc := 68) (lv' := [(8, .long q10.1), (0, .ref (ad 0)), (1, .int p1), (2, .long p2), (4, .int p4), (5, .long a.1), (7, .int a.2.1)]) hx hb dX10_safest_68 hl (by decide) rfl (fun ls hl => ?_)
  refine lv_lload (pc := 70) hx hb dX10_safest_70 (lv_at hl 0 rfl) ?_
  refine lv_lload (pc := 72) hx hb dX10_safest_72 (lv_at hl 5 rfl) ?_
  refine z_lc_le (pc := 74) (tgt := 83) hx hb dX10_safest_74 dX10_safest_75 (by decide) hf (fun hf => ?_) (fun hf => ?_)
  · refine lv_lload (pc := 83) hx hb dX10_safest_83 (lv_at hl 5 rfl) ?_
    refine lv_lstore (pc := 85) (lv' := [(5, .long a.1), (8, .long q10.1), (0, .ref (ad 0)), (1, .int p1), (2, .long p2), (4, .int p4), (7, .int a.2.1)]) hx hb dX10_safest_85 hl (by decide) rfl (fun ls hl => ?_)
    refine lv_aload_n (pc := 87) hx hb dX10_safest_87 rfl (lv_at hl 2 rfl) ?_
    refine lv_iload (pc := 88) hx hb dX10_safest_88 (lv_at hl 6 rfl) ?_
    refine lv_iconst (pc := 90) (v := 1) hx hb dX10_safest_90 (by decide) ?_
    refine lv_iadd (pc := 91) hx hb dX10_safest_91 ?_
    obtain ⟨q12, hc11, hf⟩ := zbind hf
    refine zcallVi (pc := 92) (As := [.int (a.2.1 + (1 : Int32))]) (rest := []) ⟨hx, hb, hml, hown, hts⟩ (kX10_firstFrom l D ad cy k (a.2.1 + (1 : Int32)) q10.2 q12 hc11) (cwV 1 hts gX10_safest_X10_firstFrom rfl rfl rfl (by decide +kernel) ⟨Nat.le_of_ble_eq_true rfl, Nat.le_of_ble_eq_true rfl⟩) hI rfl (ml_0 ad cy q10.2) rfl hl.1 rfl (Nat.le_of_ble_eq_true rfl) dX10_safest_92 (Nat.zero_le _) (Nat.zero_le _) (fun H locs hI => ?_)
    refine lv_istore (pc := 95) (lv' := [(7, .int q12), (5, .long a.1), (8, .long q10.1), (0, .ref (ad 0)), (1, .int p1), (2, .long p2), (4, .int p4)]) hx hb dX10_safest_95 hl (by decide) rfl (fun ls hl => ?_)
    refine lv_goto (pc := 97) (tgt := 53) hx hb dX10_safest_97 (by decide) ?_
    exact hL _ (Option.some.inj hf).symm _ _ _ hI (lv_sub hl [3, 4, 5, 6, 1, 0] rfl)
  refine lv_lload (pc := 78) hx hb dX10_safest_78 (lv_at hl 0 rfl) ?_
  refine lv_goto (pc := 80) (tgt := 85) hx hb dX10_safest_80 (by decide) ?_
  refine lv_lstore (pc := 85) (lv' := [(5, .long q10.1), (8, .long q10.1), (0, .ref (ad 0)), (1, .int p1), (2, .long p2), (4, .int p4), (7, .int a.2.1)]) hx hb dX10_safest_85 hl (by decide) rfl (fun ls hl => ?_)
  refine lv_aload_n (pc := 87) hx hb dX10_safest_87 rfl (lv_at hl 2 rfl) ?_
  refine lv_iload (pc := 88) hx hb dX10_safest_88 (lv_at hl 6 rfl) ?_
  refine lv_iconst (pc := 90) (v := 1) hx hb dX10_safest_90 (by decide) ?_
  refine lv_iadd (pc := 91) hx hb dX10_safest_91 ?_
  obtain ⟨q14, hc13, hf⟩ := zbind hf
  refine zcallVi (pc := 92) (As := [.int (a.2.1 + (1 : Int32))]) (rest := []) ⟨hx, hb, hml, hown, hts⟩ (kX10_firstFrom l D ad cy k (a.2.1 + (1 : Int32)) q10.2 q14 hc13) (cwV 1 hts gX10_safest_X10_firstFrom rfl rfl rfl (by decide +kernel) ⟨Nat.le_of_ble_eq_true rfl, Nat.le_of_ble_eq_true rfl⟩) hI rfl (ml_0 ad cy q10.2) rfl hl.1 rfl (Nat.le_of_ble_eq_true rfl) dX10_safest_92 (Nat.zero_le _) (Nat.zero_le _) (fun H locs hI => ?_)
  refine lv_istore (pc := 95) (lv' := [(7, .int q14), (5, .long q10.1), (8, .long q10.1), (0, .ref (ad 0)), (1, .int p1), (2, .long p2), (4, .int p4)]) hx hb dX10_safest_95 hl (by decide) rfl (fun ls hl => ?_)
  refine lv_goto (pc := 97) (tgt := 53) hx hb dX10_safest_97 (by decide) ?_
  exact hL _ (Option.some.inj hf).symm _ _ _ hI (lv_sub hl [3, 4, 5, 6, 1, 0] rfl)
set_option maxHeartbeats 4000000 in
set_option maxRecDepth 100000 in
theorem lX10_safest_25 (C0 : zFix p m c cX10_safest 10 s args wsX10_safest RX10 meth (some .int)) {k : Nat} {a : Int32 × Int64 × Int32 × MX} {b : Int32 × MX} (hit : ziter (bX10_safest_25 k) k a = some b) (hx9 : (fun (b : Int32 × MX) => ∀ (H : Heap) (locs : List Loc) (ls : Array Slot), zIn D ad cy (WM ad cy b.2) A s H locs → lv_has ls 10 [(1, .int b.1)] → W p l e ({ frames := 4, cells := 0, slots := 0, locals := 95 } : Room) s m args below meth c H locs 0 0 Q (F0 m 125 ls [])) b) : (fun (a : Int32 × Int64 × Int32 × MX) => ∀ (H : Heap) (locs : List Loc) (ls : Array Slot), zIn D ad cy (WM ad cy a.2.2.2) A s H locs → lv_has ls 10 [(0, .ref (ad 0)), (1, .int a.1), (2, .long a.2.1), (4, .int a.2.2.1)] → W p l e ({ frames := 4, cells := 0, slots := 0, locals := 95 } : Room) s m args below meth c H locs 0 0 Q (F0 m 25 ls [])) a := by
  obtain ⟨hx, hb, hml, hown, hts, hr, hlk⟩ := id C0
  refine zloop (Wh := (fun (a : Int32 × Int64 × Int32 × MX) => ∀ (H : Heap) (locs : List Loc) (ls : Array Slot), zIn D ad cy (WM ad cy a.2.2.2) A s H locs → lv_has ls 10 [(0, .ref (ad 0)), (1, .int a.1), (2, .long a.2.1), (4, .int a.2.2.1)] → W p l e ({ frames := 4, cells := 0, slots := 0, locals := 95 } : Room) s m args below meth c H locs 0 0 Q (F0 m 25 ls []))) (Wx := (fun (b : Int32 × MX) => ∀ (H : Heap) (locs : List Loc) (ls : Array Slot), zIn D ad cy (WM ad cy b.2) A s H locs → lv_has ls 10 [(1, .int b.1)] → W p l e ({ frames := 4, cells := 0, slots := 0, locals := 95 } : Room) s m args below meth c H locs 0 0 Q (F0 m 125 ls []))) ?_ _ a b hit hx9
  intro a x hf hL hX H locs ls hI hl
  unfold bX10_safest_25 at hf
  refine lv_iload (pc := 25) hx hb dX10_safest_25 (lv_at hl 3 rfl) ?_
  refine lv_bipush (pc := 27) (v := 16) hx hb dX10_safest_27 (by decide) ?_
  refine z_icmp_ge (pc := 29) (tgt := 125) hx hb dX10_safest_29 (by decide) hf (fun hf => ?_) (fun hf => ?_)
  · exact (hX _ (Option.some.inj hf).symm) _ _ _ hI (lv_sub hl [1] rfl)
  refine lv_aload_n (pc := 32) hx hb dX10_safest_32 rfl (lv_at hl 0 rfl) ?_
  refine lv_iload (pc := 33) hx hb dX10_safest_33 (lv_at hl 3 rfl) ?_
  obtain ⟨q6, hc5, hf⟩ := zbind hf
  refine zcallVi (pc := 35) (As := [.int a.2.2.1]) (rest := []) ⟨hx, hb, hml, hown, hts⟩ (kX10_isWithin l D ad cy k a.2.2.1 a.2.2.2 q6 hc5) (cwV 1 hts gX10_safest_X10_isWithin rfl rfl rfl (by decide +kernel) ⟨Nat.le_of_ble_eq_true rfl, Nat.le_of_ble_eq_true rfl⟩) hI rfl (ml_0 ad cy a.2.2.2) rfl hl.1 rfl (Nat.le_of_ble_eq_true rfl) dX10_safest_35 (Nat.zero_le _) (Nat.zero_le _) (fun H locs hI => ?_)
  refine z_if_eq (pc := 38) (tgt := 119) hx hb dX10_safest_38 (by decide) hf (fun hf => ?_) (fun hf => ?_)
  · refine lv_iinc (pc := 119) (v := (a.2.2.1 + 1)) (lv' := [(4, .int (a.2.2.1 + 1)), (0, .ref (ad 0)), (1, .int a.1), (2, .long a.2.1)]) hx hb dX10_safest_119 hl (k := 3) rfl rfl (by decide) rfl (fun ls hl => ?_)
    refine lv_goto (pc := 122) (tgt := 25) hx hb dX10_safest_122 (by decide) ?_
    exact hL _ (Option.some.inj hf).symm _ _ _ hI (lv_sub hl [1, 2, 3, 0] rfl)
  refine lv_ldc2 (pc := 41) (v := -1) hx hb hown (hts (.constantLong RX10 204 (-1)) (by decide +kernel)) dX10_safest_41 ?_
  refine lv_lstore (pc := 44) (lv' := [(5, .long (-1 : Int64)), (0, .ref (ad 0)), (1, .int a.1), (2, .long a.2.1), (4, .int a.2.2.1)]) hx hb dX10_safest_44 hl (by decide) rfl (fun ls hl => ?_)
  refine lv_aload_n (pc := 46) hx hb dX10_safest_46 rfl (lv_at hl 1 rfl) ?_
  refine lv_iconst (pc := 47) (v := 0) hx hb dX10_safest_47 (by decide) ?_
  obtain ⟨q8, hc7, hf⟩ := zbind hf
  refine zcallVi (pc := 48) (As := [.int (0 : Int32)]) (rest := []) ⟨hx, hb, hml, hown, hts⟩ (kX10_firstFrom l D ad cy k (0 : Int32) a.2.2.2 q8 hc7) (cwV 1 hts gX10_safest_X10_firstFrom rfl rfl rfl (by decide +kernel) ⟨Nat.le_of_ble_eq_true rfl, Nat.le_of_ble_eq_true rfl⟩) hI rfl (ml_0 ad cy a.2.2.2) rfl hl.1 rfl (Nat.le_of_ble_eq_true rfl) dX10_safest_48 (Nat.zero_le _) (Nat.zero_le _) (fun H locs hI => ?_)
  refine lv_istore (pc := 51) (lv' := [(7, .int q8), (5, .long (-1 : Int64)), (0, .ref (ad 0)), (1, .int a.1), (2, .long a.2.1), (4, .int a.2.2.1)]) hx hb dX10_safest_51 hl (by decide) rfl (fun ls hl => ?_)
  obtain ⟨b15, hb16, hf⟩ := zbind hf
  refine lX10_safest_53 C0 hb16 ?_ _ _ _ hI (lv_sub hl [2, 3, 4, 5, 1, 0] rfl)
  intro H locs ls hI hl
  refine lv_iload_n (pc := 100) hx hb dX10_safest_100 rfl (lv_at hl 1 rfl) ?_
  refine lv_bipush (pc := 101) (v := -4) hx hb dX10_safest_101 (by decide) ?_
  refine z_icmp_eq (pc := 103) (tgt := 113) hx hb dX10_safest_103 (by decide) hf (fun hf => ?_) (fun hf => ?_)
  · refine lv_lload (pc := 113) hx hb dX10_safest_113 (lv_at hl 4 rfl) ?_
    refine lv_lstore_n (pc := 115) (lv' := [(2, .long b15.1), (0, .ref (ad 0)), (1, .int a.1), (4, .int a.2.2.1), (5, .long b15.1)]) hx hb dX10_safest_115 rfl hl (by decide) rfl (fun ls hl => ?_)
    refine lv_iload (pc := 116) hx hb dX10_safest_116 (lv_at hl 3 rfl) ?_
    refine lv_istore_n (pc := 118) (lv' := [(1, .int a.2.2.1), (2, .long b15.1), (0, .ref (ad 0)), (4, .int a.2.2.1), (5, .long b15.1)]) hx hb dX10_safest_118 rfl hl (by decide) rfl (fun ls hl => ?_)
    refine lv_iinc (pc := 119) (v := (a.2.2.1 + 1)) (lv' := [(4, .int (a.2.2.1 + 1)), (1, .int a.2.2.1), (2, .long b15.1), (0, .ref (ad 0)), (5, .long b15.1)]) hx hb dX10_safest_119 hl (k := 3) rfl rfl (by decide) rfl (fun ls hl => ?_)
    refine lv_goto (pc := 122) (tgt := 25) hx hb dX10_safest_122 (by decide) ?_
    exact hL _ (Option.some.inj hf).symm _ _ _ hI (lv_sub hl [3, 1, 2, 0] rfl)
  refine lv_lload (pc := 106) hx hb dX10_safest_106 (lv_at hl 4 rfl) ?_
  refine lv_lload_n (pc := 108) hx hb dX10_safest_108 rfl (lv_at hl 2 rfl) ?_
  refine z_lc_ge (pc := 109) (tgt := 119) hx hb dX10_safest_109 dX10_safest_110 (by decide) hf (fun hf => ?_) (fun hf => ?_)
  · refine lv_iinc (pc := 119) (v := (a.2.2.1 + 1)) (lv' := [(4, .int (a.2.2.1 + 1)), (0, .ref (ad 0)), (1, .int a.1), (2, .long a.2.1), (5, .long b15.1)]) hx hb dX10_safest_119 hl (k := 3) rfl rfl (by decide) rfl (fun ls hl => ?_)
    refine lv_goto (pc := 122) (tgt := 25) hx hb dX10_safest_122 (by decide) ?_
    exact hL _ (Option.some.inj hf).symm _ _ _ hI (lv_sub hl [1, 2, 3, 0] rfl)
  refine lv_lload (pc := 113) hx hb dX10_safest_113 (lv_at hl 4 rfl) ?_
  refine lv_lstore_n (pc := 115) (lv' := [(2, .long b15.1), (0, .ref (ad 0)), (1, .int a.1), (4, .int a.2.2.1), (5, .long b15.1)]) hx hb dX10_safest_115 rfl hl (by decide) rfl (fun ls hl => ?_)
  refine lv_iload (pc := 116) hx hb dX10_safest_116 (lv_at hl 3 rfl) ?_
  refine lv_istore_n (pc := 118) (lv' := [(1, .int a.2.2.1), (2, .long b15.1), (0, .ref (ad 0)), (4, .int a.2.2.1), (5, .long b15.1)]) hx hb dX10_safest_118 rfl hl (by decide) rfl (fun ls hl => ?_)
  refine lv_iinc (pc := 119) (v := (a.2.2.1 + 1)) (lv' := [(4, .int (a.2.2.1 + 1)), (1, .int a.2.2.1), (2, .long b15.1), (0, .ref (ad 0)), (5, .long b15.1)]) hx hb dX10_safest_119 hl (k := 3) rfl rfl (by decide) rfl (fun ls hl => ?_)
  refine lv_goto (pc := 122) (tgt := 25) hx hb dX10_safest_122 (by decide) ?_
  exact hL _ (Option.some.inj hf).symm _ _ _ hI (lv_sub hl [3, 1, 2, 0] rfl)
set_option maxHeartbeats 4000000 in
set_option maxRecDepth 100000 in
theorem kX10_safest (l : Launch) (D : va_G) (ad : Nat → Nat) (cy : Nat → ClassId) (k : Nat) (u : MX) (r : Int32) (u' : MX) (hf : fX10_safest k u = some (r, u')) : zCt l yX10_safest wsX10_safest ({ frames := 4, cells := 0, slots := 0, locals := 95 } : Room) D ad cy [.ref (ad 0)] (WM ad cy u) (some (.int r)) (WM ad cy u') := by
  refine zCt.of (cc := cX10_safest) (maxL := 10) (ret := (some .int)) (own := RX10) (by decide) rfl rfl ?_
  intro p e s m below meth c A C0 hI
  obtain ⟨hx, hb, hml, hown, hts, hr, hlk⟩ := id C0
  refine z_entry (Nat.le_of_ble_eq_true rfl) (fun ls hl => ?_)
  have hl : lv_has ls 10 [(0, .ref (ad 0))] := hl
  unfold fX10_safest at hf
  refine lv_aload_n (pc := 0) hx hb dX10_safest_0 rfl (lv_at hl 0 rfl) ?_
  obtain ⟨q2, hc1, hf⟩ := zbind hf
  refine zcallVv (pc := 1) (As := []) (rest := []) ⟨hx, hb, hml, hown, hts⟩ (kX10_layGood l D ad cy k u q2 hc1) (cwV 0 hts gX10_safest_X10_layGood rfl rfl rfl (by decide +kernel) ⟨Nat.le_of_ble_eq_true rfl, Nat.le_of_ble_eq_true rfl⟩) hI rfl (ml_0 ad cy u) rfl hl.1 rfl (Nat.le_of_ble_eq_true rfl) dX10_safest_1 (Nat.zero_le _) (Nat.zero_le _) (fun H locs hI => ?_)
  refine lv_aload_n (pc := 4) hx hb dX10_safest_4 rfl (lv_at hl 0 rfl) ?_
  refine lv_iconst (pc := 5) (v := 0) hx hb dX10_safest_5 (by decide) ?_
  obtain ⟨q4, hc3, hf⟩ := zbind hf
  refine zcallVi (pc := 6) (As := [.int (0 : Int32)]) (rest := []) ⟨hx, hb, hml, hown, hts⟩ (kX10_firstFrom l D ad cy k (0 : Int32) q2 q4 hc3) (cwV 1 hts gX10_safest_X10_firstFrom rfl rfl rfl (by decide +kernel) ⟨Nat.le_of_ble_eq_true rfl, Nat.le_of_ble_eq_true rfl⟩) hI rfl (ml_0 ad cy q2) rfl hl.1 rfl (Nat.le_of_ble_eq_true rfl) dX10_safest_6 (Nat.zero_le _) (Nat.zero_le _) (fun H locs hI => ?_)
  refine lv_bipush (pc := 9) (v := -4) hx hb dX10_safest_9 (by decide) ?_
  refine z_icmp_ne (pc := 11) (tgt := 17) hx hb dX10_safest_11 (by decide) hf (fun hf => ?_) (fun hf => ?_)
  · refine lv_bipush (pc := 17) (v := -4) hx hb dX10_safest_17 (by decide) ?_
    refine lv_istore_n (pc := 19) (lv' := [(1, .int (-4 : Int32)), (0, .ref (ad 0))]) hx hb dX10_safest_19 rfl hl (by decide) rfl (fun ls hl => ?_)
    refine lv_lconst (pc := 20) (v := 0) hx hb dX10_safest_20 (by decide) ?_
    refine lv_lstore_n (pc := 21) (lv' := [(2, .long (0 : Int64)), (1, .int (-4 : Int32)), (0, .ref (ad 0))]) hx hb dX10_safest_21 rfl hl (by decide) rfl (fun ls hl => ?_)
    refine lv_iconst (pc := 22) (v := 0) hx hb dX10_safest_22 (by decide) ?_
    refine lv_istore (pc := 23) (lv' := [(4, .int (0 : Int32)), (2, .long (0 : Int64)), (1, .int (-4 : Int32)), (0, .ref (ad 0))]) hx hb dX10_safest_23 hl (by decide) rfl (fun ls hl => ?_)
    obtain ⟨b17, hb18, hf⟩ := zbind hf
    refine lX10_safest_25 C0 hb18 ?_ _ _ _ hI (lv_sub hl [3, 2, 1, 0] rfl)
    intro H locs ls hI hl
    refine lv_iload_n (pc := 125) hx hb dX10_safest_125 rfl (lv_at hl 0 rfl) ?_
    obtain ⟨rfl, rfl⟩ := zpair hf
    exact z_iret (pc := 126) C0 hI dX10_safest_126
  refine lv_bipush (pc := 14) (v := -4) hx hb dX10_safest_14 (by decide) ?_
  obtain ⟨rfl, rfl⟩ := zpair hf
  exact z_iret (pc := 16) C0 hI dX10_safest_16
set_option maxHeartbeats 4000000 in
set_option maxRecDepth 100000 in
theorem lX10_drawing_18 (C0 : zFix p m c cX10_drawing 7 s args wsX10_drawing RX10 meth (some .int)) {k : Nat} {p1 : Int32} {p2 : Int32} {p3 : Int32} {u : MX} {a : Int32 × Int32} {b : Int32} (hit : ziter (bX10_drawing_18 k p1 p2 p3 u) k a = some b) (hx9 : (fun (b : Int32) => ∀ (H : Heap) (locs : List Loc) (ls : Array Slot), zIn D ad cy (WM ad cy u) A s H locs → lv_has ls 7 [(0, .ref (ad 0)), (1, .int p1), (2, .int p2), (3, .int p3), (4, .int b)] → W p l e ({ frames := 2, cells := 0, slots := 0, locals := 46 } : Room) s m args below meth c H locs 0 0 Q (F0 m 104 ls [])) b) : (fun (a : Int32 × Int32) => ∀ (H : Heap) (locs : List Loc) (ls : Array Slot), zIn D ad cy (WM ad cy u) A s H locs → lv_has ls 7 [(0, .ref (ad 0)), (1, .int p1), (2, .int p2), (3, .int p3), (4, .int a.1), (5, .int a.2)] → W p l e ({ frames := 2, cells := 0, slots := 0, locals := 46 } : Room) s m args below meth c H locs 0 0 Q (F0 m 18 ls [])) a := by
  obtain ⟨hx, hb, hml, hown, hts, hr, hlk⟩ := id C0
  refine zloop (Wh := (fun (a : Int32 × Int32) => ∀ (H : Heap) (locs : List Loc) (ls : Array Slot), zIn D ad cy (WM ad cy u) A s H locs → lv_has ls 7 [(0, .ref (ad 0)), (1, .int p1), (2, .int p2), (3, .int p3), (4, .int a.1), (5, .int a.2)] → W p l e ({ frames := 2, cells := 0, slots := 0, locals := 46 } : Room) s m args below meth c H locs 0 0 Q (F0 m 18 ls []))) (Wx := (fun (b : Int32) => ∀ (H : Heap) (locs : List Loc) (ls : Array Slot), zIn D ad cy (WM ad cy u) A s H locs → lv_has ls 7 [(0, .ref (ad 0)), (1, .int p1), (2, .int p2), (3, .int p3), (4, .int b)] → W p l e ({ frames := 2, cells := 0, slots := 0, locals := 46 } : Room) s m args below meth c H locs 0 0 Q (F0 m 104 ls []))) ?_ _ a b hit hx9
  intro a x hf hL hX H locs ls hI hl
  unfold bX10_drawing_18 at hf
  refine lv_iload (pc := 18) hx hb dX10_drawing_18 (lv_at hl 5 rfl) ?_
  refine lv_iconst (pc := 20) (v := 4) hx hb dX10_drawing_20 (by decide) ?_
  refine z_icmp_ge (pc := 21) (tgt := 104) hx hb dX10_drawing_21 (by decide) hf (fun hf => ?_) (fun hf => ?_)
  · exact (hX _ (Option.some.inj hf).symm) _ _ _ hI (lv_sub hl [0, 1, 2, 3, 4] rfl)
  refine lv_iload (pc := 24) hx hb dX10_drawing_24 (lv_at hl 4 rfl) ?_
  refine lv_bipush (pc := 26) (v := -4) hx hb dX10_drawing_26 (by decide) ?_
  refine z_icmp_eq (pc := 28) (tgt := 68) hx hb dX10_drawing_28 (by decide) hf (fun hf => ?_) (fun hf => ?_)
  · refine lv_iconst (pc := 68) (v := 1) hx hb dX10_drawing_68 (by decide) ?_
    refine lv_goto (pc := 69) (tgt := 73) hx hb dX10_drawing_69 (by decide) ?_
    refine lv_istore (pc := 73) (lv' := [(6, .int (1 : Int32)), (0, .ref (ad 0)), (1, .int p1), (2, .int p2), (3, .int p3), (4, .int a.1), (5, .int a.2)]) hx hb dX10_drawing_73 hl (by decide) rfl (fun ls hl => ?_)
    refine lv_iload_n (pc := 75) hx hb dX10_drawing_75 rfl (lv_at hl 2 rfl) ?_
    refine lv_iload (pc := 76) hx hb dX10_drawing_76 (lv_at hl 6 rfl) ?_
    refine lv_ishr (pc := 78) hx hb dX10_drawing_78 ?_
    refine lv_iconst (pc := 79) (v := 1) hx hb dX10_drawing_79 (by decide) ?_
    refine lv_iand (pc := 80) hx hb dX10_drawing_80 ?_
    refine z_if_ne (pc := 81) (tgt := 94) hx hb dX10_drawing_81 (by decide) hf (fun hf => ?_) (fun hf => ?_)
    · refine lv_iload (pc := 94) hx hb dX10_drawing_94 (lv_at hl 5 rfl) ?_
      refine lv_istore (pc := 96) (lv' := [(4, .int a.1), (6, .int (1 : Int32)), (0, .ref (ad 0)), (1, .int p1), (2, .int p2), (3, .int p3), (5, .int a.2)]) hx hb dX10_drawing_96 hl (by decide) rfl (fun ls hl => ?_)
      refine lv_iinc (pc := 98) (v := (a.2 + 1)) (lv' := [(5, .int (a.2 + 1)), (4, .int a.1), (6, .int (1 : Int32)), (0, .ref (ad 0)), (1, .int p1), (2, .int p2), (3, .int p3)]) hx hb dX10_drawing_98 hl (k := 6) rfl rfl (by decide) rfl (fun ls hl => ?_)
      refine lv_goto (pc := 101) (tgt := 18) hx hb dX10_drawing_101 (by decide) ?_
      exact hL _ (Option.some.inj hf).symm _ _ _ hI (lv_sub hl [3, 4, 5, 6, 1, 0] rfl)
    refine lv_iload (pc := 84) hx hb dX10_drawing_84 (lv_at hl 0 rfl) ?_
    refine z_if_eq (pc := 86) (tgt := 94) hx hb dX10_drawing_86 (by decide) hf (fun hf => ?_) (fun hf => ?_)
    · refine lv_iload (pc := 94) hx hb dX10_drawing_94 (lv_at hl 5 rfl) ?_
      refine lv_istore (pc := 96) (lv' := [(4, .int a.1), (6, .int (1 : Int32)), (0, .ref (ad 0)), (1, .int p1), (2, .int p2), (3, .int p3), (5, .int a.2)]) hx hb dX10_drawing_96 hl (by decide) rfl (fun ls hl => ?_)
      refine lv_iinc (pc := 98) (v := (a.2 + 1)) (lv' := [(5, .int (a.2 + 1)), (4, .int a.1), (6, .int (1 : Int32)), (0, .ref (ad 0)), (1, .int p1), (2, .int p2), (3, .int p3)]) hx hb dX10_drawing_98 hl (k := 6) rfl rfl (by decide) rfl (fun ls hl => ?_)
      refine lv_goto (pc := 101) (tgt := 18) hx hb dX10_drawing_101 (by decide) ?_
      exact hL _ (Option.some.inj hf).symm _ _ _ hI (lv_sub hl [3, 4, 5, 6, 1, 0] rfl)
    refine lv_iload (pc := 89) hx hb dX10_drawing_89 (lv_at hl 6 rfl) ?_
    refine lv_goto (pc := 91) (tgt := 96) hx hb dX10_drawing_91 (by decide) ?_
    refine lv_istore (pc := 96) (lv' := [(4, .int a.2), (6, .int (1 : Int32)), (0, .ref (ad 0)), (1, .int p1), (2, .int p2), (3, .int p3), (5, .int a.2)]) hx hb dX10_drawing_96 hl (by decide) rfl (fun ls hl => ?_)
    refine lv_iinc (pc := 98) (v := (a.2 + 1)) (lv' := [(5, .int (a.2 + 1)), (4, .int a.2), (6, .int (1 : Int32)), (0, .ref (ad 0)), (1, .int p1), (2, .int p2), (3, .int p3)]) hx hb dX10_drawing_98 hl (k := 6) rfl rfl (by decide) rfl (fun ls hl => ?_)
    refine lv_goto (pc := 101) (tgt := 18) hx hb dX10_drawing_101 (by decide) ?_
    exact hL _ (Option.some.inj hf).symm _ _ _ hI (lv_sub hl [3, 4, 5, 6, 1, 0] rfl)
  refine lv_aload_n (pc := 31) hx hb dX10_drawing_31 rfl (lv_at hl 0 rfl) ?_
  refine z_get (pc := 32) (index := 28) hx hb hts iwX10_drawing_10 hown hI (ml_0 ad cy u) rfl 15 (by decide) (by decide +kernel) rfl rfl dX10_drawing_32 ?_
  refine lv_iconst (pc := 35) (v := 5) hx hb dX10_drawing_35 (by decide) ?_
  refine lv_iload (pc := 36) hx hb dX10_drawing_36 (lv_at hl 5 rfl) ?_
  refine lv_iadd (pc := 38) hx hb dX10_drawing_38 ?_
  refine z_iald (pc := 39) hx hb hI (ml_7 ad cy u) 0 rfl dX10_drawing_39 hf (fun v1 hf => ?_)
  refine lv_aload_n (pc := 40) hx hb dX10_drawing_40 rfl (lv_at hl 0 rfl) ?_
  refine z_get (pc := 41) (index := 22) hx hb hts iwX10_drawing_10 hown hI (ml_0 ad cy u) rfl 12 (by decide) (by decide +kernel) rfl rfl dX10_drawing_41 ?_
  refine lv_iload (pc := 44) hx hb dX10_drawing_44 (lv_at hl 4 rfl) ?_
  refine z_iald (pc := 46) hx hb hI (ml_5 ad cy u) 0 rfl dX10_drawing_46 hf (fun v2 hf => ?_)
  refine lv_imul (pc := 47) hx hb dX10_drawing_47 ?_
  refine lv_aload_n (pc := 48) hx hb dX10_drawing_48 rfl (lv_at hl 0 rfl) ?_
  refine z_get (pc := 49) (index := 28) hx hb hts iwX10_drawing_10 hown hI (ml_0 ad cy u) rfl 15 (by decide) (by decide +kernel) rfl rfl dX10_drawing_49 ?_
  refine lv_iconst (pc := 52) (v := 5) hx hb dX10_drawing_52 (by decide) ?_
  refine lv_iload (pc := 53) hx hb dX10_drawing_53 (lv_at hl 4 rfl) ?_
  refine lv_iadd (pc := 55) hx hb dX10_drawing_55 ?_
  refine z_iald (pc := 56) hx hb hI (ml_7 ad cy u) 0 rfl dX10_drawing_56 hf (fun v3 hf => ?_)
  refine lv_aload_n (pc := 57) hx hb dX10_drawing_57 rfl (lv_at hl 0 rfl) ?_
  refine z_get (pc := 58) (index := 22) hx hb hts iwX10_drawing_10 hown hI (ml_0 ad cy u) rfl 12 (by decide) (by decide +kernel) rfl rfl dX10_drawing_58 ?_
  refine lv_iload (pc := 61) hx hb dX10_drawing_61 (lv_at hl 5 rfl) ?_
  refine z_iald (pc := 63) hx hb hI (ml_5 ad cy u) 0 rfl dX10_drawing_63 hf (fun v4 hf => ?_)
  refine lv_imul (pc := 64) hx hb dX10_drawing_64 ?_
  refine z_icmp_le (pc := 65) (tgt := 72) hx hb dX10_drawing_65 (by decide) hf (fun hf => ?_) (fun hf => ?_)
  · refine lv_iconst (pc := 72) (v := 0) hx hb dX10_drawing_72 (by decide) ?_
    refine lv_istore (pc := 73) (lv' := [(6, .int (0 : Int32)), (0, .ref (ad 0)), (1, .int p1), (2, .int p2), (3, .int p3), (4, .int a.1), (5, .int a.2)]) hx hb dX10_drawing_73 hl (by decide) rfl (fun ls hl => ?_)
    refine lv_iload_n (pc := 75) hx hb dX10_drawing_75 rfl (lv_at hl 2 rfl) ?_
    refine lv_iload (pc := 76) hx hb dX10_drawing_76 (lv_at hl 6 rfl) ?_
    refine lv_ishr (pc := 78) hx hb dX10_drawing_78 ?_
    refine lv_iconst (pc := 79) (v := 1) hx hb dX10_drawing_79 (by decide) ?_
    refine lv_iand (pc := 80) hx hb dX10_drawing_80 ?_
    refine z_if_ne (pc := 81) (tgt := 94) hx hb dX10_drawing_81 (by decide) hf (fun hf => ?_) (fun hf => ?_)
    · refine lv_iload (pc := 94) hx hb dX10_drawing_94 (lv_at hl 5 rfl) ?_
      refine lv_istore (pc := 96) (lv' := [(4, .int a.1), (6, .int (0 : Int32)), (0, .ref (ad 0)), (1, .int p1), (2, .int p2), (3, .int p3), (5, .int a.2)]) hx hb dX10_drawing_96 hl (by decide) rfl (fun ls hl => ?_)
      refine lv_iinc (pc := 98) (v := (a.2 + 1)) (lv' := [(5, .int (a.2 + 1)), (4, .int a.1), (6, .int (0 : Int32)), (0, .ref (ad 0)), (1, .int p1), (2, .int p2), (3, .int p3)]) hx hb dX10_drawing_98 hl (k := 6) rfl rfl (by decide) rfl (fun ls hl => ?_)
      refine lv_goto (pc := 101) (tgt := 18) hx hb dX10_drawing_101 (by decide) ?_
      exact hL _ (Option.some.inj hf).symm _ _ _ hI (lv_sub hl [3, 4, 5, 6, 1, 0] rfl)
    refine lv_iload (pc := 84) hx hb dX10_drawing_84 (lv_at hl 0 rfl) ?_
    refine z_if_eq (pc := 86) (tgt := 94) hx hb dX10_drawing_86 (by decide) hf (fun hf => ?_) (fun hf => ?_)
    · refine lv_iload (pc := 94) hx hb dX10_drawing_94 (lv_at hl 5 rfl) ?_
      refine lv_istore (pc := 96) (lv' := [(4, .int a.1), (6, .int (0 : Int32)), (0, .ref (ad 0)), (1, .int p1), (2, .int p2), (3, .int p3), (5, .int a.2)]) hx hb dX10_drawing_96 hl (by decide) rfl (fun ls hl => ?_)
      refine lv_iinc (pc := 98) (v := (a.2 + 1)) (lv' := [(5, .int (a.2 + 1)), (4, .int a.1), (6, .int (0 : Int32)), (0, .ref (ad 0)), (1, .int p1), (2, .int p2), (3, .int p3)]) hx hb dX10_drawing_98 hl (k := 6) rfl rfl (by decide) rfl (fun ls hl => ?_)
      refine lv_goto (pc := 101) (tgt := 18) hx hb dX10_drawing_101 (by decide) ?_
      exact hL _ (Option.some.inj hf).symm _ _ _ hI (lv_sub hl [3, 4, 5, 6, 1, 0] rfl)
    refine lv_iload (pc := 89) hx hb dX10_drawing_89 (lv_at hl 6 rfl) ?_
    refine lv_goto (pc := 91) (tgt := 96) hx hb dX10_drawing_91 (by decide) ?_
    refine lv_istore (pc := 96) (lv' := [(4, .int a.2), (6, .int (0 : Int32)), (0, .ref (ad 0)), (1, .int p1), (2, .int p2), (3, .int p3), (5, .int a.2)]) hx hb dX10_drawing_96 hl (by decide) rfl (fun ls hl => ?_)
    refine lv_iinc (pc := 98) (v := (a.2 + 1)) (lv' := [(5, .int (a.2 + 1)), (4, .int a.2), (6, .int (0 : Int32)), (0, .ref (ad 0)), (1, .int p1), (2, .int p2), (3, .int p3)]) hx hb dX10_drawing_98 hl (k := 6) rfl rfl (by decide) rfl (fun ls hl => ?_)
    refine lv_goto (pc := 101) (tgt := 18) hx hb dX10_drawing_101 (by decide) ?_
    exact hL _ (Option.some.inj hf).symm _ _ _ hI (lv_sub hl [3, 4, 5, 6, 1, 0] rfl)
  refine lv_iconst (pc := 68) (v := 1) hx hb dX10_drawing_68 (by decide) ?_
  refine lv_goto (pc := 69) (tgt := 73) hx hb dX10_drawing_69 (by decide) ?_
  refine lv_istore (pc := 73) (lv' := [(6, .int (1 : Int32)), (0, .ref (ad 0)), (1, .int p1), (2, .int p2), (3, .int p3), (4, .int a.1), (5, .int a.2)]) hx hb dX10_drawing_73 hl (by decide) rfl (fun ls hl => ?_)
  refine lv_iload_n (pc := 75) hx hb dX10_drawing_75 rfl (lv_at hl 2 rfl) ?_
  refine lv_iload (pc := 76) hx hb dX10_drawing_76 (lv_at hl 6 rfl) ?_
  refine lv_ishr (pc := 78) hx hb dX10_drawing_78 ?_
  refine lv_iconst (pc := 79) (v := 1) hx hb dX10_drawing_79 (by decide) ?_
  refine lv_iand (pc := 80) hx hb dX10_drawing_80 ?_
  refine z_if_ne (pc := 81) (tgt := 94) hx hb dX10_drawing_81 (by decide) hf (fun hf => ?_) (fun hf => ?_)
  · refine lv_iload (pc := 94) hx hb dX10_drawing_94 (lv_at hl 5 rfl) ?_
    refine lv_istore (pc := 96) (lv' := [(4, .int a.1), (6, .int (1 : Int32)), (0, .ref (ad 0)), (1, .int p1), (2, .int p2), (3, .int p3), (5, .int a.2)]) hx hb dX10_drawing_96 hl (by decide) rfl (fun ls hl => ?_)
    refine lv_iinc (pc := 98) (v := (a.2 + 1)) (lv' := [(5, .int (a.2 + 1)), (4, .int a.1), (6, .int (1 : Int32)), (0, .ref (ad 0)), (1, .int p1), (2, .int p2), (3, .int p3)]) hx hb dX10_drawing_98 hl (k := 6) rfl rfl (by decide) rfl (fun ls hl => ?_)
    refine lv_goto (pc := 101) (tgt := 18) hx hb dX10_drawing_101 (by decide) ?_
    exact hL _ (Option.some.inj hf).symm _ _ _ hI (lv_sub hl [3, 4, 5, 6, 1, 0] rfl)
  refine lv_iload (pc := 84) hx hb dX10_drawing_84 (lv_at hl 0 rfl) ?_
  refine z_if_eq (pc := 86) (tgt := 94) hx hb dX10_drawing_86 (by decide) hf (fun hf => ?_) (fun hf => ?_)
  · refine lv_iload (pc := 94) hx hb dX10_drawing_94 (lv_at hl 5 rfl) ?_
    refine lv_istore (pc := 96) (lv' := [(4, .int a.1), (6, .int (1 : Int32)), (0, .ref (ad 0)), (1, .int p1), (2, .int p2), (3, .int p3), (5, .int a.2)]) hx hb dX10_drawing_96 hl (by decide) rfl (fun ls hl => ?_)
    refine lv_iinc (pc := 98) (v := (a.2 + 1)) (lv' := [(5, .int (a.2 + 1)), (4, .int a.1), (6, .int (1 : Int32)), (0, .ref (ad 0)), (1, .int p1), (2, .int p2), (3, .int p3)]) hx hb dX10_drawing_98 hl (k := 6) rfl rfl (by decide) rfl (fun ls hl => ?_)
    refine lv_goto (pc := 101) (tgt := 18) hx hb dX10_drawing_101 (by decide) ?_
    exact hL _ (Option.some.inj hf).symm _ _ _ hI (lv_sub hl [3, 4, 5, 6, 1, 0] rfl)
  refine lv_iload (pc := 89) hx hb dX10_drawing_89 (lv_at hl 6 rfl) ?_
  refine lv_goto (pc := 91) (tgt := 96) hx hb dX10_drawing_91 (by decide) ?_
  refine lv_istore (pc := 96) (lv' := [(4, .int a.2), (6, .int (1 : Int32)), (0, .ref (ad 0)), (1, .int p1), (2, .int p2), (3, .int p3), (5, .int a.2)]) hx hb dX10_drawing_96 hl (by decide) rfl (fun ls hl => ?_)
  refine lv_iinc (pc := 98) (v := (a.2 + 1)) (lv' := [(5, .int (a.2 + 1)), (4, .int a.2), (6, .int (1 : Int32)), (0, .ref (ad 0)), (1, .int p1), (2, .int p2), (3, .int p3)]) hx hb dX10_drawing_98 hl (k := 6) rfl rfl (by decide) rfl (fun ls hl => ?_)
  refine lv_goto (pc := 101) (tgt := 18) hx hb dX10_drawing_101 (by decide) ?_
  exact hL _ (Option.some.inj hf).symm _ _ _ hI (lv_sub hl [3, 4, 5, 6, 1, 0] rfl)
set_option maxHeartbeats 4000000 in
set_option maxRecDepth 100000 in
theorem lX10_drawing_6 (C0 : zFix p m c cX10_drawing 7 s args wsX10_drawing RX10 meth (some .int)) {k : Nat} {u : MX} {a : Int32 × Int32 × Int32} {b : Int32} (hit : ziter (bX10_drawing_6 k u) k a = some b) (hx9 : (fun (b : Int32) => ∀ (H : Heap) (locs : List Loc) (ls : Array Slot), zIn D ad cy (WM ad cy u) A s H locs → lv_has ls 7 [(2, .int b)] → W p l e ({ frames := 2, cells := 0, slots := 0, locals := 46 } : Room) s m args below meth c H locs 0 0 Q (F0 m 141 ls [])) b) : (fun (a : Int32 × Int32 × Int32) => ∀ (H : Heap) (locs : List Loc) (ls : Array Slot), zIn D ad cy (WM ad cy u) A s H locs → lv_has ls 7 [(0, .ref (ad 0)), (1, .int a.1), (2, .int a.2.1), (3, .int a.2.2)] → W p l e ({ frames := 2, cells := 0, slots := 0, locals := 46 } : Room) s m args below meth c H locs 0 0 Q (F0 m 6 ls [])) a := by
  obtain ⟨hx, hb, hml, hown, hts, hr, hlk⟩ := id C0
  refine zloop (Wh := (fun (a : Int32 × Int32 × Int32) => ∀ (H : Heap) (locs : List Loc) (ls : Array Slot), zIn D ad cy (WM ad cy u) A s H locs → lv_has ls 7 [(0, .ref (ad 0)), (1, .int a.1), (2, .int a.2.1), (3, .int a.2.2)] → W p l e ({ frames := 2, cells := 0, slots := 0, locals := 46 } : Room) s m args below meth c H locs 0 0 Q (F0 m 6 ls []))) (Wx := (fun (b : Int32) => ∀ (H : Heap) (locs : List Loc) (ls : Array Slot), zIn D ad cy (WM ad cy u) A s H locs → lv_has ls 7 [(2, .int b)] → W p l e ({ frames := 2, cells := 0, slots := 0, locals := 46 } : Room) s m args below meth c H locs 0 0 Q (F0 m 141 ls []))) ?_ _ a b hit hx9
  intro a x hf hL hX H locs ls hI hl
  unfold bX10_drawing_6 at hf
  refine lv_iload_n (pc := 6) hx hb dX10_drawing_6 rfl (lv_at hl 3 rfl) ?_
  refine lv_iconst (pc := 7) (v := 4) hx hb dX10_drawing_7 (by decide) ?_
  refine z_icmp_ge (pc := 8) (tgt := 141) hx hb dX10_drawing_8 (by decide) hf (fun hf => ?_) (fun hf => ?_)
  · exact (hX _ (Option.some.inj hf).symm) _ _ _ hI (lv_sub hl [2] rfl)
  refine lv_bipush (pc := 11) (v := -4) hx hb dX10_drawing_11 (by decide) ?_
  refine lv_istore (pc := 13) (lv' := [(4, .int (-4 : Int32)), (0, .ref (ad 0)), (1, .int a.1), (2, .int a.2.1), (3, .int a.2.2)]) hx hb dX10_drawing_13 hl (by decide) rfl (fun ls hl => ?_)
  refine lv_iconst (pc := 15) (v := 0) hx hb dX10_drawing_15 (by decide) ?_
  refine lv_istore (pc := 16) (lv' := [(5, .int (0 : Int32)), (4, .int (-4 : Int32)), (0, .ref (ad 0)), (1, .int a.1), (2, .int a.2.1), (3, .int a.2.2)]) hx hb dX10_drawing_16 hl (by decide) rfl (fun ls hl => ?_)
  obtain ⟨b5, hb6, hf⟩ := zbind hf
  refine lX10_drawing_18 C0 hb6 ?_ _ _ _ hI (lv_sub hl [2, 3, 4, 5, 1, 0] rfl)
  intro H locs ls hI hl
  refine lv_iload_n (pc := 104) hx hb dX10_drawing_104 rfl (lv_at hl 1 rfl) ?_
  refine lv_iconst (pc := 105) (v := 1) hx hb dX10_drawing_105 (by decide) ?_
  refine lv_iload (pc := 106) hx hb dX10_drawing_106 (lv_at hl 4 rfl) ?_
  refine lv_ishl (pc := 108) hx hb dX10_drawing_108 ?_
  refine lv_ior (pc := 109) hx hb dX10_drawing_109 ?_
  refine z_bi hf (fun v7 hf => ?_)
  refine lv_istore_n (pc := 110) (lv' := [(1, .int v7), (0, .ref (ad 0)), (2, .int a.2.1), (3, .int a.2.2), (4, .int b5)]) hx hb dX10_drawing_110 rfl hl (by decide) rfl (fun ls hl => ?_)
  refine lv_aload_n (pc := 111) hx hb dX10_drawing_111 rfl (lv_at hl 1 rfl) ?_
  refine lv_iload_n (pc := 112) hx hb dX10_drawing_112 rfl (lv_at hl 2 rfl) ?_
  refine lv_iconst (pc := 113) (v := 1) hx hb dX10_drawing_113 (by decide) ?_
  refine lv_iload (pc := 114) hx hb dX10_drawing_114 (lv_at hl 4 rfl) ?_
  refine lv_ishl (pc := 116) hx hb dX10_drawing_116 ?_
  refine lv_ior (pc := 117) hx hb dX10_drawing_117 ?_
  obtain ⟨q9, hc8, hf⟩ := zbind hf
  refine zcallVi (pc := 118) (As := [.int (a.2.1 ||| ((1 : Int32) <<< (b5 &&& 31)))]) (rest := []) ⟨hx, hb, hml, hown, hts⟩ (kX10_isWithin l D ad cy k (a.2.1 ||| ((1 : Int32) <<< (b5 &&& 31))) u q9 hc8) (cwV 1 hts gX10_drawing_X10_isWithin rfl rfl rfl (by decide +kernel) ⟨Nat.le_of_ble_eq_true rfl, Nat.le_of_ble_eq_true rfl⟩) hI rfl (ml_0 ad cy u) rfl hl.1 rfl (Nat.le_of_ble_eq_true rfl) dX10_drawing_118 (Nat.zero_le _) (Nat.zero_le _) (fun H locs hI => ?_)
  refine z_if_eq (pc := 121) (tgt := 133) hx hb dX10_drawing_121 (by decide) hf (fun hf => ?_) (fun hf => ?_)
  · refine lv_iload_n (pc := 133) hx hb dX10_drawing_133 rfl (lv_at hl 2 rfl) ?_
    refine lv_istore_n (pc := 134) (lv' := [(2, .int a.2.1), (1, .int v7), (0, .ref (ad 0)), (3, .int a.2.2), (4, .int b5)]) hx hb dX10_drawing_134 rfl hl (by decide) rfl (fun ls hl => ?_)
    refine lv_iinc (pc := 135) (v := (a.2.2 + 1)) (lv' := [(3, .int (a.2.2 + 1)), (2, .int a.2.1), (1, .int v7), (0, .ref (ad 0)), (4, .int b5)]) hx hb dX10_drawing_135 hl (k := 3) rfl rfl (by decide) rfl (fun ls hl => ?_)
    refine lv_goto (pc := 138) (tgt := 6) hx hb dX10_drawing_138 (by decide) ?_
    exact hL _ (Option.some.inj hf).symm _ _ _ hI (lv_sub hl [3, 2, 1, 0] rfl)
  refine lv_iload_n (pc := 124) hx hb dX10_drawing_124 rfl (lv_at hl 2 rfl) ?_
  refine lv_iconst (pc := 125) (v := 1) hx hb dX10_drawing_125 (by decide) ?_
  refine lv_iload (pc := 126) hx hb dX10_drawing_126 (lv_at hl 4 rfl) ?_
  refine lv_ishl (pc := 128) hx hb dX10_drawing_128 ?_
  refine lv_ior (pc := 129) hx hb dX10_drawing_129 ?_
  refine lv_goto (pc := 130) (tgt := 134) hx hb dX10_drawing_130 (by decide) ?_
  refine z_bi hf (fun v10 hf => ?_)
  refine lv_istore_n (pc := 134) (lv' := [(2, .int v10), (1, .int v7), (0, .ref (ad 0)), (3, .int a.2.2), (4, .int b5)]) hx hb dX10_drawing_134 rfl hl (by decide) rfl (fun ls hl => ?_)
  refine lv_iinc (pc := 135) (v := (a.2.2 + 1)) (lv' := [(3, .int (a.2.2 + 1)), (2, .int v10), (1, .int v7), (0, .ref (ad 0)), (4, .int b5)]) hx hb dX10_drawing_135 hl (k := 3) rfl rfl (by decide) rfl (fun ls hl => ?_)
  refine lv_goto (pc := 138) (tgt := 6) hx hb dX10_drawing_138 (by decide) ?_
  exact hL _ (Option.some.inj hf).symm _ _ _ hI (lv_sub hl [3, 2, 1, 0] rfl)
set_option maxHeartbeats 4000000 in
set_option maxRecDepth 100000 in
theorem kX10_drawing (l : Launch) (D : va_G) (ad : Nat → Nat) (cy : Nat → ClassId) (k : Nat) (u : MX) (r : Int32) (hf : fX10_drawing k u = some r) : zCt l yX10_drawing wsX10_drawing ({ frames := 2, cells := 0, slots := 0, locals := 46 } : Room) D ad cy [.ref (ad 0)] (WM ad cy u) (some (.int r)) (WM ad cy u) := by
  refine zCt.of (cc := cX10_drawing) (maxL := 7) (ret := (some .int)) (own := RX10) (by decide) rfl rfl ?_
  intro p e s m below meth c A C0 hI
  obtain ⟨hx, hb, hml, hown, hts, hr, hlk⟩ := id C0
  refine z_entry (Nat.le_of_ble_eq_true rfl) (fun ls hl => ?_)
  have hl : lv_has ls 7 [(0, .ref (ad 0))] := hl
  unfold fX10_drawing at hf
  refine lv_iconst (pc := 0) (v := 0) hx hb dX10_drawing_0 (by decide) ?_
  refine lv_istore_n (pc := 1) (lv' := [(1, .int (0 : Int32)), (0, .ref (ad 0))]) hx hb dX10_drawing_1 rfl hl (by decide) rfl (fun ls hl => ?_)
  refine lv_iconst (pc := 2) (v := 0) hx hb dX10_drawing_2 (by decide) ?_
  refine lv_istore_n (pc := 3) (lv' := [(2, .int (0 : Int32)), (1, .int (0 : Int32)), (0, .ref (ad 0))]) hx hb dX10_drawing_3 rfl hl (by decide) rfl (fun ls hl => ?_)
  refine lv_iconst (pc := 4) (v := 0) hx hb dX10_drawing_4 (by decide) ?_
  refine lv_istore_n (pc := 5) (lv' := [(3, .int (0 : Int32)), (2, .int (0 : Int32)), (1, .int (0 : Int32)), (0, .ref (ad 0))]) hx hb dX10_drawing_5 rfl hl (by decide) rfl (fun ls hl => ?_)
  obtain ⟨b11, hb12, hf⟩ := zbind hf
  refine lX10_drawing_6 C0 hb12 ?_ _ _ _ hI (lv_sub hl [3, 2, 1, 0] rfl)
  intro H locs ls hI hl
  refine lv_iload_n (pc := 141) hx hb dX10_drawing_141 rfl (lv_at hl 0 rfl) ?_
  obtain rfl := zone hf
  exact z_iret (pc := 142) C0 hI dX10_drawing_142
set_option maxHeartbeats 4000000 in
set_option maxRecDepth 100000 in
theorem kX10_wrong (l : Launch) (D : va_G) (ad : Nat → Nat) (cy : Nat → ClassId) (k : Nat) (a1 : Int32) (u : MX) (r : Int32) (u' : MX) (hf : fX10_wrong k a1 u = some (r, u')) : zCt l yX10_wrong wsX10_wrong ({ frames := 4, cells := 0, slots := 0, locals := 100 } : Room) D ad cy [.ref (ad 0), .int a1] (WM ad cy u) (some (.int r)) (WM ad cy u') := by
  refine zCt.of (cc := cX10_wrong) (maxL := 6) (ret := (some .int)) (own := RX10) (by decide) rfl rfl ?_
  intro p e s m below meth c A C0 hI
  obtain ⟨hx, hb, hml, hown, hts, hr, hlk⟩ := id C0
  refine z_entry (Nat.le_of_ble_eq_true rfl) (fun ls hl => ?_)
  have hl : lv_has ls 6 [(0, .ref (ad 0)), (1, .int a1)] := hl
  unfold fX10_wrong at hf
  refine lv_iload_n (pc := 0) hx hb dX10_wrong_0 rfl (lv_at hl 1 rfl) ?_
  obtain ⟨q2, hc1, hf⟩ := zbind hf
  refine zcallSi (pc := 1) (As := [.int a1]) (rest := []) ⟨hx, hb, hml, hown, hts⟩ (kX10_isLaw l a1 q2 hc1) (va_cwS 1 hts gX10_wrong_X10_isLaw rfl rfl rfl (by decide +kernel) ⟨Nat.le_of_ble_eq_true rfl, Nat.le_of_ble_eq_true rfl⟩) rfl hl.1 rfl (Nat.le_of_ble_eq_true rfl) dX10_wrong_1 (Nat.zero_le _) (Nat.zero_le _) ?_
  refine z_if_ne (pc := 4) (tgt := 9) hx hb dX10_wrong_4 (by decide) hf (fun hf => ?_) (fun hf => ?_)
  · refine lv_aload_n (pc := 9) hx hb dX10_wrong_9 rfl (lv_at hl 0 rfl) ?_
    refine lv_iload_n (pc := 10) hx hb dX10_wrong_10 rfl (lv_at hl 1 rfl) ?_
    refine lv_aload_n (pc := 11) hx hb dX10_wrong_11 rfl (lv_at hl 0 rfl) ?_
    obtain ⟨q4, hc3, hf⟩ := zbind hf
    refine zcallVi (pc := 12) (As := []) (rest := [.int a1, .ref (ad 0)]) ⟨hx, hb, hml, hown, hts⟩ (kX10_drawing l D ad cy k u q4 hc3) (cwV 0 hts gX10_wrong_X10_drawing rfl rfl rfl (by decide +kernel) ⟨Nat.le_of_ble_eq_true rfl, Nat.le_of_ble_eq_true rfl⟩) hI rfl (ml_0 ad cy u) rfl hl.1 rfl (Nat.le_of_ble_eq_true rfl) dX10_wrong_12 (Nat.zero_le _) (Nat.zero_le _) (fun H locs hI => ?_)
    obtain ⟨q6, hc5, hf⟩ := zbind hf
    refine zcallVl (pc := 15) (As := [.int a1, .int q4]) (rest := []) ⟨hx, hb, hml, hown, hts⟩ (kX10_lostUp l D ad cy k a1 q4 u q6.1 q6.2 hc5) (cwV 2 hts gX10_wrong_X10_lostUp rfl rfl rfl (by decide +kernel) ⟨Nat.le_of_ble_eq_true rfl, Nat.le_of_ble_eq_true rfl⟩) hI rfl (ml_0 ad cy u) rfl hl.1 rfl (Nat.le_of_ble_eq_true rfl) dX10_wrong_15 (Nat.zero_le _) (Nat.zero_le _) (fun H locs hI => ?_)
    refine lv_aload_n (pc := 18) hx hb dX10_wrong_18 rfl (lv_at hl 0 rfl) ?_
    refine lv_iload_n (pc := 19) hx hb dX10_wrong_19 rfl (lv_at hl 1 rfl) ?_
    refine lv_aload_n (pc := 20) hx hb dX10_wrong_20 rfl (lv_at hl 0 rfl) ?_
    refine lv_iload_n (pc := 21) hx hb dX10_wrong_21 rfl (lv_at hl 1 rfl) ?_
    obtain ⟨q8, hc7, hf⟩ := zbind hf
    refine zcallVi (pc := 22) (As := [.int a1]) (rest := [.int a1, .ref (ad 0), .long q6.1]) ⟨hx, hb, hml, hown, hts⟩ (kX10_bestOf l D ad cy k a1 q6.2 q8.1 q8.2 hc7) (cwV 1 hts gX10_wrong_X10_bestOf rfl rfl rfl (by decide +kernel) ⟨Nat.le_of_ble_eq_true rfl, Nat.le_of_ble_eq_true rfl⟩) hI rfl (ml_0 ad cy q6.2) rfl hl.1 rfl (Nat.le_of_ble_eq_true rfl) dX10_wrong_22 (Nat.zero_le _) (Nat.zero_le _) (fun H locs hI => ?_)
    obtain ⟨q10, hc9, hf⟩ := zbind hf
    refine zcallVl (pc := 25) (As := [.int a1, .int q8.1]) (rest := [.long q6.1]) ⟨hx, hb, hml, hown, hts⟩ (kX10_lostUp l D ad cy k a1 q8.1 q8.2 q10.1 q10.2 hc9) (cwV 2 hts gX10_wrong_X10_lostUp rfl rfl rfl (by decide +kernel) ⟨Nat.le_of_ble_eq_true rfl, Nat.le_of_ble_eq_true rfl⟩) hI rfl (ml_0 ad cy q8.2) rfl hl.1 rfl (Nat.le_of_ble_eq_true rfl) dX10_wrong_25 (Nat.zero_le _) (Nat.zero_le _) (fun H locs hI => ?_)
    refine lv_lsub (pc := 28) hx hb dX10_wrong_28 ?_
    refine z_bl hf (fun v11 hf => ?_)
    refine lv_lstore_n (pc := 29) (lv' := [(2, .long v11), (0, .ref (ad 0)), (1, .int a1)]) hx hb dX10_wrong_29 rfl hl (by decide) rfl (fun ls hl => ?_)
    refine lv_aload_n (pc := 30) hx hb dX10_wrong_30 rfl (lv_at hl 1 rfl) ?_
    refine z_get (pc := 31) (index := 192) hx hb hts iwX10_wrong_10 hown hI (ml_0 ad cy q10.2) rfl 25 (by decide) (by decide +kernel) rfl rfl dX10_wrong_31 ?_
    refine lv_aload_n (pc := 34) hx hb dX10_wrong_34 rfl (lv_at hl 1 rfl) ?_
    refine z_get (pc := 35) (index := 187) hx hb hts iwX10_wrong_10 hown hI (ml_0 ad cy q10.2) rfl 24 (by decide) (by decide +kernel) rfl rfl dX10_wrong_35 ?_
    refine lv_iconst (pc := 38) (v := 3) hx hb dX10_wrong_38 (by decide) ?_
    obtain ⟨q13, hc12, hf⟩ := zbind hf
    refine zcallSl (pc := 39) (As := [.long (mg_all q10.2), .int (3 : Int32)]) (rest := [.long (mg_hits q10.2)]) ⟨hx, hb, hml, hown, hts⟩ (kX10_power l k (mg_all q10.2) (3 : Int32) q13 hc12) (va_cwS 2 hts gX10_wrong_X10_power rfl rfl rfl (by decide +kernel) ⟨Nat.le_of_ble_eq_true rfl, Nat.le_of_ble_eq_true rfl⟩) rfl hl.1 rfl (Nat.le_of_ble_eq_true rfl) dX10_wrong_39 (Nat.zero_le _) (Nat.zero_le _) ?_
    refine lv_lmul (pc := 42) hx hb dX10_wrong_42 ?_
    refine lv_ldc2 (pc := 43) (v := 100) hx hb hown (hts (.constantLong RX10 115 (100)) (by decide +kernel)) dX10_wrong_43 ?_
    refine lv_lmul (pc := 46) hx hb dX10_wrong_46 ?_
    refine z_bl hf (fun v14 hf => ?_)
    refine lv_lstore (pc := 47) (lv' := [(4, .long v14), (2, .long v11), (0, .ref (ad 0)), (1, .int a1)]) hx hb dX10_wrong_47 hl (by decide) rfl (fun ls hl => ?_)
    refine lv_lload_n (pc := 49) hx hb dX10_wrong_49 rfl (lv_at hl 1 rfl) ?_
    refine lv_lload (pc := 50) hx hb dX10_wrong_50 (lv_at hl 0 rfl) ?_
    refine lv_ladd (pc := 52) hx hb dX10_wrong_52 ?_
    refine lv_lconst (pc := 53) (v := 1) hx hb dX10_wrong_53 (by decide) ?_
    refine lv_lsub (pc := 54) hx hb dX10_wrong_54 ?_
    refine lv_lload (pc := 55) hx hb dX10_wrong_55 (lv_at hl 0 rfl) ?_
    refine z_ldiv (pc := 57) hx hb dX10_wrong_57 hf (fun hf => ?_)
    refine lv_l2i (pc := 58) hx hb dX10_wrong_58 rfl ?_
    obtain ⟨rfl, rfl⟩ := zpair hf
    exact z_iret (pc := 59) C0 hI dX10_wrong_59
  refine lv_iconst (pc := 7) (v := -1) hx hb dX10_wrong_7 (by decide) ?_
  obtain ⟨rfl, rfl⟩ := zpair hf
  exact z_iret (pc := 8) C0 hI dX10_wrong_8
set_option maxHeartbeats 4000000 in
set_option maxRecDepth 100000 in
theorem lX10_unlike_48 (C0 : zFix p m c cX10_unlike 9 s args wsX10_unlike RX10 meth (some .int)) {k : Nat} {p1 : Int32} {p2 : Int32} {p3 : Int32} {a : Int32 × MX} {b : Int32 × MX} (hit : ziter (bX10_unlike_48 k p1 p2 p3) k a = some b) (hx9 : (fun (b : Int32 × MX) => ∀ (H : Heap) (locs : List Loc) (ls : Array Slot), zIn D ad cy (WM ad cy b.2) A s H locs → lv_has ls 9 [(1, .int p1), (2, .int p2), (4, .int b.1)] → W p l e ({ frames := 4, cells := 0, slots := 0, locals := 100 } : Room) s m args below meth c H locs 0 0 Q (F0 m 78 ls [])) b) : (fun (a : Int32 × MX) => ∀ (H : Heap) (locs : List Loc) (ls : Array Slot), zIn D ad cy (WM ad cy a.2) A s H locs → lv_has ls 9 [(0, .ref (ad 0)), (1, .int p1), (2, .int p2), (3, .int p3), (4, .int a.1)] → W p l e ({ frames := 4, cells := 0, slots := 0, locals := 100 } : Room) s m args below meth c H locs 0 0 Q (F0 m 48 ls [])) a := by
  obtain ⟨hx, hb, hml, hown, hts, hr, hlk⟩ := id C0
  refine zloop (Wh := (fun (a : Int32 × MX) => ∀ (H : Heap) (locs : List Loc) (ls : Array Slot), zIn D ad cy (WM ad cy a.2) A s H locs → lv_has ls 9 [(0, .ref (ad 0)), (1, .int p1), (2, .int p2), (3, .int p3), (4, .int a.1)] → W p l e ({ frames := 4, cells := 0, slots := 0, locals := 100 } : Room) s m args below meth c H locs 0 0 Q (F0 m 48 ls []))) (Wx := (fun (b : Int32 × MX) => ∀ (H : Heap) (locs : List Loc) (ls : Array Slot), zIn D ad cy (WM ad cy b.2) A s H locs → lv_has ls 9 [(1, .int p1), (2, .int p2), (4, .int b.1)] → W p l e ({ frames := 4, cells := 0, slots := 0, locals := 100 } : Room) s m args below meth c H locs 0 0 Q (F0 m 78 ls []))) ?_ _ a b hit hx9
  intro a x hf hL hX H locs ls hI hl
  unfold bX10_unlike_48 at hf
  refine lv_iload (pc := 48) hx hb dX10_unlike_48 (lv_at hl 4 rfl) ?_
  refine lv_bipush (pc := 50) (v := -4) hx hb dX10_unlike_50 (by decide) ?_
  refine z_icmp_eq (pc := 52) (tgt := 78) hx hb dX10_unlike_52 (by decide) hf (fun hf => ?_) (fun hf => ?_)
  · exact (hX _ (Option.some.inj hf).symm) _ _ _ hI (lv_sub hl [1, 2, 4] rfl)
  refine lv_aload_n (pc := 55) hx hb dX10_unlike_55 rfl (lv_at hl 0 rfl) ?_
  refine lv_iload (pc := 56) hx hb dX10_unlike_56 (lv_at hl 4 rfl) ?_
  obtain ⟨q12, hc11, hf⟩ := zbind hf
  refine zcallVi (pc := 58) (As := [.int a.1]) (rest := []) ⟨hx, hb, hml, hown, hts⟩ (kX10_bestOf l D ad cy k a.1 a.2 q12.1 q12.2 hc11) (cwV 1 hts gX10_unlike_X10_bestOf rfl rfl rfl (by decide +kernel) ⟨Nat.le_of_ble_eq_true rfl, Nat.le_of_ble_eq_true rfl⟩) hI rfl (ml_0 ad cy a.2) rfl hl.1 rfl (Nat.le_of_ble_eq_true rfl) dX10_unlike_58 (Nat.zero_le _) (Nat.zero_le _) (fun H locs hI => ?_)
  refine lv_iload_n (pc := 61) hx hb dX10_unlike_61 rfl (lv_at hl 3 rfl) ?_
  refine z_icmp_ne (pc := 62) (tgt := 78) hx hb dX10_unlike_62 (by decide) hf (fun hf => ?_) (fun hf => ?_)
  · exact (hX _ (Option.some.inj hf).symm) _ _ _ hI (lv_sub hl [1, 2, 4] rfl)
  refine lv_aload_n (pc := 65) hx hb dX10_unlike_65 rfl (lv_at hl 0 rfl) ?_
  refine lv_iload (pc := 66) hx hb dX10_unlike_66 (lv_at hl 4 rfl) ?_
  refine lv_iconst (pc := 68) (v := 1) hx hb dX10_unlike_68 (by decide) ?_
  refine lv_iadd (pc := 69) hx hb dX10_unlike_69 ?_
  obtain ⟨q14, hc13, hf⟩ := zbind hf
  refine zcallVi (pc := 70) (As := [.int (a.1 + (1 : Int32))]) (rest := []) ⟨hx, hb, hml, hown, hts⟩ (kX10_firstFrom l D ad cy k (a.1 + (1 : Int32)) q12.2 q14 hc13) (cwV 1 hts gX10_unlike_X10_firstFrom rfl rfl rfl (by decide +kernel) ⟨Nat.le_of_ble_eq_true rfl, Nat.le_of_ble_eq_true rfl⟩) hI rfl (ml_0 ad cy q12.2) rfl hl.1 rfl (Nat.le_of_ble_eq_true rfl) dX10_unlike_70 (Nat.zero_le _) (Nat.zero_le _) (fun H locs hI => ?_)
  refine lv_istore (pc := 73) (lv' := [(4, .int q14), (0, .ref (ad 0)), (1, .int p1), (2, .int p2), (3, .int p3)]) hx hb dX10_unlike_73 hl (by decide) rfl (fun ls hl => ?_)
  refine lv_goto (pc := 75) (tgt := 48) hx hb dX10_unlike_75 (by decide) ?_
  exact hL _ (Option.some.inj hf).symm _ _ _ hI (lv_sub hl [1, 2, 3, 4, 0] rfl)
set_option maxHeartbeats 4000000 in
set_option maxRecDepth 100000 in
theorem lX10_unlike_94 (C0 : zFix p m c cX10_unlike 9 s args wsX10_unlike RX10 meth (some .int)) {k : Nat} {p1 : Int32} {p2 : Int32} {p4 : Int32} {u : MX} {a : Int32 × Int32} {b : Int32} (hit : ziter (bX10_unlike_94 k p1 p2 p4 u) k a = some b) (hx9 : (fun (b : Int32) => ∀ (H : Heap) (locs : List Loc) (ls : Array Slot), zIn D ad cy (WM ad cy u) A s H locs → lv_has ls 9 [(1, .int p1), (2, .int p2), (4, .int p4), (5, .int b)] → W p l e ({ frames := 4, cells := 0, slots := 0, locals := 100 } : Room) s m args below meth c H locs 0 0 Q (F0 m 159 ls [])) b) : (fun (a : Int32 × Int32) => ∀ (H : Heap) (locs : List Loc) (ls : Array Slot), zIn D ad cy (WM ad cy u) A s H locs → lv_has ls 9 [(1, .int p1), (2, .int p2), (4, .int p4), (5, .int a.1), (6, .int a.2)] → W p l e ({ frames := 4, cells := 0, slots := 0, locals := 100 } : Room) s m args below meth c H locs 0 0 Q (F0 m 94 ls [])) a := by
  obtain ⟨hx, hb, hml, hown, hts, hr, hlk⟩ := id C0
  refine zloop (Wh := (fun (a : Int32 × Int32) => ∀ (H : Heap) (locs : List Loc) (ls : Array Slot), zIn D ad cy (WM ad cy u) A s H locs → lv_has ls 9 [(1, .int p1), (2, .int p2), (4, .int p4), (5, .int a.1), (6, .int a.2)] → W p l e ({ frames := 4, cells := 0, slots := 0, locals := 100 } : Room) s m args below meth c H locs 0 0 Q (F0 m 94 ls []))) (Wx := (fun (b : Int32) => ∀ (H : Heap) (locs : List Loc) (ls : Array Slot), zIn D ad cy (WM ad cy u) A s H locs → lv_has ls 9 [(1, .int p1), (2, .int p2), (4, .int p4), (5, .int b)] → W p l e ({ frames := 4, cells := 0, slots := 0, locals := 100 } : Room) s m args below meth c H locs 0 0 Q (F0 m 159 ls []))) ?_ _ a b hit hx9
  intro a x hf hL hX H locs ls hI hl
  unfold bX10_unlike_94 at hf
  refine lv_iload (pc := 94) hx hb dX10_unlike_94 (lv_at hl 4 rfl) ?_
  refine lv_iconst (pc := 96) (v := 4) hx hb dX10_unlike_96 (by decide) ?_
  refine z_icmp_ge (pc := 97) (tgt := 159) hx hb dX10_unlike_97 (by decide) hf (fun hf => ?_) (fun hf => ?_)
  · exact (hX _ (Option.some.inj hf).symm) _ _ _ hI (lv_sub hl [0, 1, 2, 3] rfl)
  refine lv_iload_n (pc := 100) hx hb dX10_unlike_100 rfl (lv_at hl 1 rfl) ?_
  refine lv_iload (pc := 101) hx hb dX10_unlike_101 (lv_at hl 4 rfl) ?_
  obtain ⟨q18, hc17, hf⟩ := zbind hf
  refine zcallSi (pc := 103) (As := [.int p2, .int a.2]) (rest := []) ⟨hx, hb, hml, hown, hts⟩ (kX10_fallsOf l k p2 a.2 q18 hc17) (va_cwS 2 hts gX10_unlike_X10_fallsOf rfl rfl rfl (by decide +kernel) ⟨Nat.le_of_ble_eq_true rfl, Nat.le_of_ble_eq_true rfl⟩) rfl hl.1 rfl (Nat.le_of_ble_eq_true rfl) dX10_unlike_103 (Nat.zero_le _) (Nat.zero_le _) ?_
  refine lv_iload (pc := 106) hx hb dX10_unlike_106 (lv_at hl 2 rfl) ?_
  refine lv_iload (pc := 108) hx hb dX10_unlike_108 (lv_at hl 4 rfl) ?_
  obtain ⟨q20, hc19, hf⟩ := zbind hf
  refine zcallSi (pc := 110) (As := [.int p4, .int a.2]) (rest := [.int q18]) ⟨hx, hb, hml, hown, hts⟩ (kX10_fallsOf l k p4 a.2 q20 hc19) (va_cwS 2 hts gX10_unlike_X10_fallsOf rfl rfl rfl (by decide +kernel) ⟨Nat.le_of_ble_eq_true rfl, Nat.le_of_ble_eq_true rfl⟩) rfl hl.1 rfl (Nat.le_of_ble_eq_true rfl) dX10_unlike_110 (Nat.zero_le _) (Nat.zero_le _) ?_
  refine lv_isub (pc := 113) hx hb dX10_unlike_113 ?_
  refine lv_i2l (pc := 114) hx hb dX10_unlike_114 rfl ?_
  obtain ⟨q22, hc21, hf⟩ := zbind hf
  refine zcallSl (pc := 115) (As := [.long ((q18 - q20).toInt64)]) (rest := []) ⟨hx, hb, hml, hown, hts⟩ (kX10_size l ((q18 - q20).toInt64) q22 hc21) (va_cwS 1 hts gX10_unlike_X10_size rfl rfl rfl (by decide +kernel) ⟨Nat.le_of_ble_eq_true rfl, Nat.le_of_ble_eq_true rfl⟩) rfl hl.1 rfl (Nat.le_of_ble_eq_true rfl) dX10_unlike_115 (Nat.zero_le _) (Nat.zero_le _) ?_
  refine lv_lstore (pc := 118) (lv' := [(7, .long q22), (1, .int p1), (2, .int p2), (4, .int p4), (5, .int a.1), (6, .int a.2)]) hx hb dX10_unlike_118 hl (by decide) rfl (fun ls hl => ?_)
  refine lv_lload (pc := 120) hx hb dX10_unlike_120 (lv_at hl 0 rfl) ?_
  refine lv_iload_n (pc := 122) hx hb dX10_unlike_122 rfl (lv_at hl 2 rfl) ?_
  refine lv_iload (pc := 123) hx hb dX10_unlike_123 (lv_at hl 4 rfl) ?_
  obtain ⟨q24, hc23, hf⟩ := zbind hf
  refine zcallSi (pc := 125) (As := [.int p2, .int a.1]) (rest := [.long q22]) ⟨hx, hb, hml, hown, hts⟩ (kX10_fallsOf l k p2 a.1 q24 hc23) (va_cwS 2 hts gX10_unlike_X10_fallsOf rfl rfl rfl (by decide +kernel) ⟨Nat.le_of_ble_eq_true rfl, Nat.le_of_ble_eq_true rfl⟩) rfl hl.1 rfl (Nat.le_of_ble_eq_true rfl) dX10_unlike_125 (Nat.zero_le _) (Nat.zero_le _) ?_
  refine lv_iload (pc := 128) hx hb dX10_unlike_128 (lv_at hl 3 rfl) ?_
  refine lv_iload (pc := 130) hx hb dX10_unlike_130 (lv_at hl 4 rfl) ?_
  obtain ⟨q26, hc25, hf⟩ := zbind hf
  refine zcallSi (pc := 132) (As := [.int p4, .int a.1]) (rest := [.int q24, .long q22]) ⟨hx, hb, hml, hown, hts⟩ (kX10_fallsOf l k p4 a.1 q26 hc25) (va_cwS 2 hts gX10_unlike_X10_fallsOf rfl rfl rfl (by decide +kernel) ⟨Nat.le_of_ble_eq_true rfl, Nat.le_of_ble_eq_true rfl⟩) rfl hl.1 rfl (Nat.le_of_ble_eq_true rfl) dX10_unlike_132 (Nat.zero_le _) (Nat.zero_le _) ?_
  refine lv_isub (pc := 135) hx hb dX10_unlike_135 ?_
  refine lv_i2l (pc := 136) hx hb dX10_unlike_136 rfl ?_
  obtain ⟨q28, hc27, hf⟩ := zbind hf
  refine zcallSl (pc := 137) (As := [.long ((q24 - q26).toInt64)]) (rest := [.long q22]) ⟨hx, hb, hml, hown, hts⟩ (kX10_size l ((q24 - q26).toInt64) q28 hc27) (va_cwS 1 hts gX10_unlike_X10_size rfl rfl rfl (by decide +kernel) ⟨Nat.le_of_ble_eq_true rfl, Nat.le_of_ble_eq_true rfl⟩) rfl hl.1 rfl (Nat.le_of_ble_eq_true rfl) dX10_unlike_137 (Nat.zero_le _) (Nat.zero_le _) ?_
  refine z_lc_le (pc := 140) (tgt := 149) hx hb dX10_unlike_140 dX10_unlike_141 (by decide) hf (fun hf => ?_) (fun hf => ?_)
  · refine lv_iload (pc := 149) hx hb dX10_unlike_149 (lv_at hl 4 rfl) ?_
    refine lv_istore (pc := 151) (lv' := [(5, .int a.1), (7, .long q22), (1, .int p1), (2, .int p2), (4, .int p4), (6, .int a.2)]) hx hb dX10_unlike_151 hl (by decide) rfl (fun ls hl => ?_)
    refine lv_iinc (pc := 153) (v := (a.2 + 1)) (lv' := [(6, .int (a.2 + 1)), (5, .int a.1), (7, .long q22), (1, .int p1), (2, .int p2), (4, .int p4)]) hx hb dX10_unlike_153 hl (k := 5) rfl rfl (by decide) rfl (fun ls hl => ?_)
    refine lv_goto (pc := 156) (tgt := 94) hx hb dX10_unlike_156 (by decide) ?_
    exact hL _ (Option.some.inj hf).symm _ _ _ hI (lv_sub hl [3, 4, 5, 1, 0] rfl)
  refine lv_iload (pc := 144) hx hb dX10_unlike_144 (lv_at hl 5 rfl) ?_
  refine lv_goto (pc := 146) (tgt := 151) hx hb dX10_unlike_146 (by decide) ?_
  refine lv_istore (pc := 151) (lv' := [(5, .int a.2), (7, .long q22), (1, .int p1), (2, .int p2), (4, .int p4), (6, .int a.2)]) hx hb dX10_unlike_151 hl (by decide) rfl (fun ls hl => ?_)
  refine lv_iinc (pc := 153) (v := (a.2 + 1)) (lv' := [(6, .int (a.2 + 1)), (5, .int a.2), (7, .long q22), (1, .int p1), (2, .int p2), (4, .int p4)]) hx hb dX10_unlike_153 hl (k := 5) rfl rfl (by decide) rfl (fun ls hl => ?_)
  refine lv_goto (pc := 156) (tgt := 94) hx hb dX10_unlike_156 (by decide) ?_
  exact hL _ (Option.some.inj hf).symm _ _ _ hI (lv_sub hl [3, 4, 5, 1, 0] rfl)
set_option maxHeartbeats 4000000 in
set_option maxRecDepth 100000 in
theorem qX10_unlike_j78 (C0 : zFix p m c cX10_unlike 9 s args wsX10_unlike RX10 meth (some .int)) {k : Nat} {p1 : Int32} {p2 : Int32} {p4 : Int32} {u : MX} {r : Int32} {u' : MX} (hf : jX10_unlike_j78 k p1 p2 p4 u = some (r, u')) {H : Heap} {locs : List Loc} {ls : Array Slot} (hI : zIn D ad cy (WM ad cy u) A s H locs) (hl : lv_has ls 9 [(1, .int p1), (2, .int p2), (4, .int p4)]) : W p l e ({ frames := 4, cells := 0, slots := 0, locals := 100 } : Room) s m args below meth c H locs 0 0 (zMQ D cy below args s A (some (.int r)) (WM ad cy u')) (F0 m 78 ls []) := by
  obtain ⟨hx, hb, hml, hown, hts, hr, hlk⟩ := id C0
  unfold jX10_unlike_j78 at hf
  refine lv_iload (pc := 78) hx hb dX10_unlike_78 (lv_at hl 2 rfl) ?_
  refine lv_bipush (pc := 80) (v := -4) hx hb dX10_unlike_80 (by decide) ?_
  refine z_icmp_ne (pc := 82) (tgt := 88) hx hb dX10_unlike_82 (by decide) hf (fun hf => ?_) (fun hf => ?_)
  · refine lv_iconst (pc := 88) (v := 0) hx hb dX10_unlike_88 (by decide) ?_
    refine lv_istore (pc := 89) (lv' := [(5, .int (0 : Int32)), (1, .int p1), (2, .int p2), (4, .int p4)]) hx hb dX10_unlike_89 hl (by decide) rfl (fun ls hl => ?_)
    refine lv_iconst (pc := 91) (v := 1) hx hb dX10_unlike_91 (by decide) ?_
    refine lv_istore (pc := 92) (lv' := [(6, .int (1 : Int32)), (5, .int (0 : Int32)), (1, .int p1), (2, .int p2), (4, .int p4)]) hx hb dX10_unlike_92 hl (by decide) rfl (fun ls hl => ?_)
    obtain ⟨b29, hb30, hf⟩ := zbind hf
    refine lX10_unlike_94 C0 hb30 ?_ _ _ _ hI (lv_sub hl [2, 3, 4, 1, 0] rfl)
    intro H locs ls hI hl
    refine lv_iload_n (pc := 159) hx hb dX10_unlike_159 rfl (lv_at hl 0 rfl) ?_
    refine z_if_ne (pc := 160) (tgt := 167) hx hb dX10_unlike_160 (by decide) hf (fun hf => ?_) (fun hf => ?_)
    · refine lv_iload_n (pc := 167) hx hb dX10_unlike_167 rfl (lv_at hl 0 rfl) ?_
      refine lv_iconst (pc := 168) (v := 1) hx hb dX10_unlike_168 (by decide) ?_
      refine z_icmp_ne (pc := 169) (tgt := 177) hx hb dX10_unlike_169 (by decide) hf (fun hf => ?_) (fun hf => ?_)
      · refine lv_iload (pc := 177) hx hb dX10_unlike_177 (lv_at hl 3 rfl) ?_
        obtain ⟨rfl, rfl⟩ := zpair hf
        exact z_iret (pc := 179) C0 hI dX10_unlike_179
      refine lv_iload (pc := 172) hx hb dX10_unlike_172 (lv_at hl 2 rfl) ?_
      refine lv_goto (pc := 174) (tgt := 179) hx hb dX10_unlike_174 (by decide) ?_
      obtain ⟨rfl, rfl⟩ := zpair hf
      exact z_iret (pc := 179) C0 hI dX10_unlike_179
    refine lv_iload_n (pc := 163) hx hb dX10_unlike_163 rfl (lv_at hl 1 rfl) ?_
    refine lv_goto (pc := 164) (tgt := 179) hx hb dX10_unlike_164 (by decide) ?_
    obtain ⟨rfl, rfl⟩ := zpair hf
    exact z_iret (pc := 179) C0 hI dX10_unlike_179
  refine lv_bipush (pc := 85) (v := -4) hx hb dX10_unlike_85 (by decide) ?_
  obtain ⟨rfl, rfl⟩ := zpair hf
  exact z_iret (pc := 87) C0 hI dX10_unlike_87
set_option maxHeartbeats 4000000 in
set_option maxRecDepth 100000 in
theorem kX10_unlike (l : Launch) (D : va_G) (ad : Nat → Nat) (cy : Nat → ClassId) (k : Nat) (a1 : Int32) (u : MX) (r : Int32) (u' : MX) (hf : fX10_unlike k a1 u = some (r, u')) : zCt l yX10_unlike wsX10_unlike ({ frames := 4, cells := 0, slots := 0, locals := 100 } : Room) D ad cy [.ref (ad 0), .int a1] (WM ad cy u) (some (.int r)) (WM ad cy u') := by
  refine zCt.of (cc := cX10_unlike) (maxL := 9) (ret := (some .int)) (own := RX10) (by decide) rfl rfl ?_
  intro p e s m below meth c A C0 hI
  obtain ⟨hx, hb, hml, hown, hts, hr, hlk⟩ := id C0
  refine z_entry (Nat.le_of_ble_eq_true rfl) (fun ls hl => ?_)
  have hl : lv_has ls 9 [(0, .ref (ad 0)), (1, .int a1)] := hl
  unfold fX10_unlike at hf
  refine lv_iload_n (pc := 0) hx hb dX10_unlike_0 rfl (lv_at hl 1 rfl) ?_
  refine lv_i2l (pc := 1) hx hb dX10_unlike_1 rfl ?_
  refine lv_lconst (pc := 2) (v := 0) hx hb dX10_unlike_2 (by decide) ?_
  refine lv_ldc2 (pc := 3) (v := 2) hx hb hown (hts (.constantLong RX10 136 (2)) (by decide +kernel)) dX10_unlike_3 ?_
  obtain ⟨q2, hc1, hf⟩ := zbind hf
  refine zcallSi (pc := 6) (As := [.long (a1.toInt64), .long (0 : Int64), .long (2 : Int64)]) (rest := []) ⟨hx, hb, hml, hown, hts⟩ (kX10_in l (a1.toInt64) (0 : Int64) (2 : Int64) q2 hc1) (va_cwS 3 hts gX10_unlike_X10_in rfl rfl rfl (by decide +kernel) ⟨Nat.le_of_ble_eq_true rfl, Nat.le_of_ble_eq_true rfl⟩) rfl hl.1 rfl (Nat.le_of_ble_eq_true rfl) dX10_unlike_6 (Nat.zero_le _) (Nat.zero_le _) ?_
  refine z_if_ne (pc := 9) (tgt := 14) hx hb dX10_unlike_9 (by decide) hf (fun hf => ?_) (fun hf => ?_)
  · refine lv_aload_n (pc := 14) hx hb dX10_unlike_14 rfl (lv_at hl 0 rfl) ?_
    obtain ⟨q4, hc3, hf⟩ := zbind hf
    refine zcallVv (pc := 15) (As := []) (rest := []) ⟨hx, hb, hml, hown, hts⟩ (kX10_layGood l D ad cy k u q4 hc3) (cwV 0 hts gX10_unlike_X10_layGood rfl rfl rfl (by decide +kernel) ⟨Nat.le_of_ble_eq_true rfl, Nat.le_of_ble_eq_true rfl⟩) hI rfl (ml_0 ad cy u) rfl hl.1 rfl (Nat.le_of_ble_eq_true rfl) dX10_unlike_15 (Nat.zero_le _) (Nat.zero_le _) (fun H locs hI => ?_)
    refine lv_aload_n (pc := 18) hx hb dX10_unlike_18 rfl (lv_at hl 0 rfl) ?_
    refine lv_iconst (pc := 19) (v := 0) hx hb dX10_unlike_19 (by decide) ?_
    obtain ⟨q6, hc5, hf⟩ := zbind hf
    refine zcallVi (pc := 20) (As := [.int (0 : Int32)]) (rest := []) ⟨hx, hb, hml, hown, hts⟩ (kX10_firstFrom l D ad cy k (0 : Int32) q4 q6 hc5) (cwV 1 hts gX10_unlike_X10_firstFrom rfl rfl rfl (by decide +kernel) ⟨Nat.le_of_ble_eq_true rfl, Nat.le_of_ble_eq_true rfl⟩) hI rfl (ml_0 ad cy q4) rfl hl.1 rfl (Nat.le_of_ble_eq_true rfl) dX10_unlike_20 (Nat.zero_le _) (Nat.zero_le _) (fun H locs hI => ?_)
    refine lv_istore_n (pc := 23) (lv' := [(2, .int q6), (0, .ref (ad 0)), (1, .int a1)]) hx hb dX10_unlike_23 rfl hl (by decide) rfl (fun ls hl => ?_)
    refine lv_iload_n (pc := 24) hx hb dX10_unlike_24 rfl (lv_at hl 0 rfl) ?_
    refine lv_bipush (pc := 25) (v := -4) hx hb dX10_unlike_25 (by decide) ?_
    refine z_icmp_ne (pc := 27) (tgt := 33) hx hb dX10_unlike_27 (by decide) hf (fun hf => ?_) (fun hf => ?_)
    · refine lv_aload_n (pc := 33) hx hb dX10_unlike_33 rfl (lv_at hl 1 rfl) ?_
      refine lv_iload_n (pc := 34) hx hb dX10_unlike_34 rfl (lv_at hl 0 rfl) ?_
      obtain ⟨q8, hc7, hf⟩ := zbind hf
      refine zcallVi (pc := 35) (As := [.int q6]) (rest := []) ⟨hx, hb, hml, hown, hts⟩ (kX10_bestOf l D ad cy k q6 q4 q8.1 q8.2 hc7) (cwV 1 hts gX10_unlike_X10_bestOf rfl rfl rfl (by decide +kernel) ⟨Nat.le_of_ble_eq_true rfl, Nat.le_of_ble_eq_true rfl⟩) hI rfl (ml_0 ad cy q4) rfl hl.1 rfl (Nat.le_of_ble_eq_true rfl) dX10_unlike_35 (Nat.zero_le _) (Nat.zero_le _) (fun H locs hI => ?_)
      refine lv_istore_n (pc := 38) (lv' := [(3, .int q8.1), (2, .int q6), (0, .ref (ad 0)), (1, .int a1)]) hx hb dX10_unlike_38 rfl hl (by decide) rfl (fun ls hl => ?_)
      refine lv_aload_n (pc := 39) hx hb dX10_unlike_39 rfl (lv_at hl 2 rfl) ?_
      refine lv_iload_n (pc := 40) hx hb dX10_unlike_40 rfl (lv_at hl 1 rfl) ?_
      refine lv_iconst (pc := 41) (v := 1) hx hb dX10_unlike_41 (by decide) ?_
      refine lv_iadd (pc := 42) hx hb dX10_unlike_42 ?_
      obtain ⟨q10, hc9, hf⟩ := zbind hf
      refine zcallVi (pc := 43) (As := [.int (q6 + (1 : Int32))]) (rest := []) ⟨hx, hb, hml, hown, hts⟩ (kX10_firstFrom l D ad cy k (q6 + (1 : Int32)) q8.2 q10 hc9) (cwV 1 hts gX10_unlike_X10_firstFrom rfl rfl rfl (by decide +kernel) ⟨Nat.le_of_ble_eq_true rfl, Nat.le_of_ble_eq_true rfl⟩) hI rfl (ml_0 ad cy q8.2) rfl hl.1 rfl (Nat.le_of_ble_eq_true rfl) dX10_unlike_43 (Nat.zero_le _) (Nat.zero_le _) (fun H locs hI => ?_)
      refine lv_istore (pc := 46) (lv' := [(4, .int q10), (3, .int q8.1), (2, .int q6), (0, .ref (ad 0)), (1, .int a1)]) hx hb dX10_unlike_46 hl (by decide) rfl (fun ls hl => ?_)
      obtain ⟨b15, hb16, hf⟩ := zbind hf
      refine lX10_unlike_48 C0 hb16 ?_ _ _ _ hI (lv_sub hl [3, 4, 2, 1, 0] rfl)
      intro H locs ls hI hl
      exact qX10_unlike_j78 C0 hf hI (lv_sub hl [0, 1, 2] rfl)
    refine lv_bipush (pc := 30) (v := -4) hx hb dX10_unlike_30 (by decide) ?_
    obtain ⟨rfl, rfl⟩ := zpair hf
    exact z_iret (pc := 32) C0 hI dX10_unlike_32
  refine lv_iconst (pc := 12) (v := -1) hx hb dX10_unlike_12 (by decide) ?_
  obtain ⟨rfl, rfl⟩ := zpair hf
  exact z_iret (pc := 13) C0 hI dX10_unlike_13
set_option maxHeartbeats 4000000 in
set_option maxRecDepth 100000 in
theorem lX10_trial_91 (C0 : zFix p m c cX10_trial 10 s args wsX10_trial RX10 meth (some .int)) {k : Nat} {p1 : Int32} {p2 : Int32} {p3 : Int32} {p4 : Int32} {p5 : Int32} {p6 : Int32} {p7 : Int32} {u : MX} {a : Int32 × Int32} {b : Int32} (hit : ziter (bX10_trial_91 k p1 p2 p3 p4 p5 p6 p7 u) k a = some b) (hx9 : (fun (b : Int32) => ∀ (H : Heap) (locs : List Loc) (ls : Array Slot), zIn D ad cy (WM ad cy u) A s H locs → lv_has ls 10 [(0, .ref (ad 0)), (1, .int p1), (2, .int p2), (3, .int p3), (4, .int p4), (5, .int p5), (6, .int p6), (7, .int p7), (8, .int b)] → W p l e ({ frames := 4, cells := 0, slots := 0, locals := 95 } : Room) s m args below meth c H locs 0 0 Q (F0 m 148 ls [])) b) : (fun (a : Int32 × Int32) => ∀ (H : Heap) (locs : List Loc) (ls : Array Slot), zIn D ad cy (WM ad cy u) A s H locs → lv_has ls 10 [(0, .ref (ad 0)), (1, .int p1), (2, .int p2), (3, .int p3), (4, .int p4), (5, .int p5), (6, .int p6), (7, .int p7), (8, .int a.1), (9, .int a.2)] → W p l e ({ frames := 4, cells := 0, slots := 0, locals := 95 } : Room) s m args below meth c H locs 0 0 Q (F0 m 91 ls [])) a := by
  obtain ⟨hx, hb, hml, hown, hts, hr, hlk⟩ := id C0
  refine zloop (Wh := (fun (a : Int32 × Int32) => ∀ (H : Heap) (locs : List Loc) (ls : Array Slot), zIn D ad cy (WM ad cy u) A s H locs → lv_has ls 10 [(0, .ref (ad 0)), (1, .int p1), (2, .int p2), (3, .int p3), (4, .int p4), (5, .int p5), (6, .int p6), (7, .int p7), (8, .int a.1), (9, .int a.2)] → W p l e ({ frames := 4, cells := 0, slots := 0, locals := 95 } : Room) s m args below meth c H locs 0 0 Q (F0 m 91 ls []))) (Wx := (fun (b : Int32) => ∀ (H : Heap) (locs : List Loc) (ls : Array Slot), zIn D ad cy (WM ad cy u) A s H locs → lv_has ls 10 [(0, .ref (ad 0)), (1, .int p1), (2, .int p2), (3, .int p3), (4, .int p4), (5, .int p5), (6, .int p6), (7, .int p7), (8, .int b)] → W p l e ({ frames := 4, cells := 0, slots := 0, locals := 95 } : Room) s m args below meth c H locs 0 0 Q (F0 m 148 ls []))) ?_ _ a b hit hx9
  intro a x hf hL hX H locs ls hI hl
  unfold bX10_trial_91 at hf
  refine lv_iload (pc := 91) hx hb dX10_trial_91 (lv_at hl 9 rfl) ?_
  refine lv_bipush (pc := 93) (v := -4) hx hb dX10_trial_93 (by decide) ?_
  refine z_icmp_eq (pc := 95) (tgt := 148) hx hb dX10_trial_95 (by decide) hf (fun hf => ?_) (fun hf => ?_)
  · exact (hX _ (Option.some.inj hf).symm) _ _ _ hI (lv_sub hl [0, 1, 2, 3, 4, 5, 6, 7, 8] rfl)
  refine lv_iload (pc := 98) hx hb dX10_trial_98 (lv_at hl 8 rfl) ?_
  refine lv_ldc2 (pc := 100) (v := 10) hx hb hown (hts (.constantLong RX10 190 (10)) (by decide +kernel)) dX10_trial_100 ?_
  refine lv_iload (pc := 103) hx hb dX10_trial_103 (lv_at hl 7 rfl) ?_
  refine lv_i2l (pc := 105) hx hb dX10_trial_105 rfl ?_
  refine lv_lmul (pc := 106) hx hb dX10_trial_106 ?_
  refine lv_iload_n (pc := 107) hx hb dX10_trial_107 rfl (lv_at hl 2 rfl) ?_
  refine lv_iload (pc := 108) hx hb dX10_trial_108 (lv_at hl 9 rfl) ?_
  refine lv_iload_n (pc := 110) hx hb dX10_trial_110 rfl (lv_at hl 1 rfl) ?_
  obtain ⟨q14, hc13, hf⟩ := zbind hf
  refine zcallSi (pc := 111) (As := [.int a.2, .int p1]) (rest := [.int p2, .long ((10 : Int64) * (p7.toInt64)), .int a.1]) ⟨hx, hb, hml, hown, hts⟩ (kX10_fallsOf l k a.2 p1 q14 hc13) (va_cwS 2 hts gX10_trial_X10_fallsOf rfl rfl rfl (by decide +kernel) ⟨Nat.le_of_ble_eq_true rfl, Nat.le_of_ble_eq_true rfl⟩) rfl hl.1 rfl (Nat.le_of_ble_eq_true rfl) dX10_trial_111 (Nat.zero_le _) (Nat.zero_le _) ?_
  refine lv_imul (pc := 114) hx hb dX10_trial_114 ?_
  refine lv_i2l (pc := 115) hx hb dX10_trial_115 rfl ?_
  refine lv_lsub (pc := 116) hx hb dX10_trial_116 ?_
  obtain ⟨q16, hc15, hf⟩ := zbind hf
  refine zcallSl (pc := 117) (As := [.long (((10 : Int64) * (p7.toInt64)) - ((p2 * q14).toInt64))]) (rest := [.int a.1]) ⟨hx, hb, hml, hown, hts⟩ (kX10_size l (((10 : Int64) * (p7.toInt64)) - ((p2 * q14).toInt64)) q16 hc15) (va_cwS 1 hts gX10_trial_X10_size rfl rfl rfl (by decide +kernel) ⟨Nat.le_of_ble_eq_true rfl, Nat.le_of_ble_eq_true rfl⟩) rfl hl.1 rfl (Nat.le_of_ble_eq_true rfl) dX10_trial_117 (Nat.zero_le _) (Nat.zero_le _) ?_
  refine lv_ldc2 (pc := 120) (v := 10) hx hb hown (hts (.constantLong RX10 190 (10)) (by decide +kernel)) dX10_trial_120 ?_
  refine z_lc_gt (pc := 123) (tgt := 131) hx hb dX10_trial_123 dX10_trial_124 (by decide) hf (fun hf => ?_) (fun hf => ?_)
  · refine lv_iconst (pc := 131) (v := 0) hx hb dX10_trial_131 (by decide) ?_
    refine lv_iadd (pc := 132) hx hb dX10_trial_132 ?_
    refine z_bi hf (fun v17 hf => ?_)
    refine lv_istore (pc := 133) (lv' := [(8, .int v17), (0, .ref (ad 0)), (1, .int p1), (2, .int p2), (3, .int p3), (4, .int p4), (5, .int p5), (6, .int p6), (7, .int p7), (9, .int a.2)]) hx hb dX10_trial_133 hl (by decide) rfl (fun ls hl => ?_)
    refine lv_aload_n (pc := 135) hx hb dX10_trial_135 rfl (lv_at hl 1 rfl) ?_
    refine lv_iload (pc := 136) hx hb dX10_trial_136 (lv_at hl 9 rfl) ?_
    refine lv_iconst (pc := 138) (v := 1) hx hb dX10_trial_138 (by decide) ?_
    refine lv_iadd (pc := 139) hx hb dX10_trial_139 ?_
    obtain ⟨q19, hc18, hf⟩ := zbind hf
    refine zcallVi (pc := 140) (As := [.int (a.2 + (1 : Int32))]) (rest := []) ⟨hx, hb, hml, hown, hts⟩ (kX10_firstFrom l D ad cy k (a.2 + (1 : Int32)) u q19 hc18) (cwV 1 hts gX10_trial_X10_firstFrom rfl rfl rfl (by decide +kernel) ⟨Nat.le_of_ble_eq_true rfl, Nat.le_of_ble_eq_true rfl⟩) hI rfl (ml_0 ad cy u) rfl hl.1 rfl (Nat.le_of_ble_eq_true rfl) dX10_trial_140 (Nat.zero_le _) (Nat.zero_le _) (fun H locs hI => ?_)
    refine lv_istore (pc := 143) (lv' := [(9, .int q19), (8, .int v17), (0, .ref (ad 0)), (1, .int p1), (2, .int p2), (3, .int p3), (4, .int p4), (5, .int p5), (6, .int p6), (7, .int p7)]) hx hb dX10_trial_143 hl (by decide) rfl (fun ls hl => ?_)
    refine lv_goto (pc := 145) (tgt := 91) hx hb dX10_trial_145 (by decide) ?_
    exact hL _ (Option.some.inj hf).symm _ _ _ hI (lv_sub hl [2, 3, 4, 5, 6, 7, 8, 9, 1, 0] rfl)
  refine lv_iconst (pc := 127) (v := 1) hx hb dX10_trial_127 (by decide) ?_
  refine lv_goto (pc := 128) (tgt := 132) hx hb dX10_trial_128 (by decide) ?_
  refine lv_iadd (pc := 132) hx hb dX10_trial_132 ?_
  refine z_bi hf (fun v20 hf => ?_)
  refine lv_istore (pc := 133) (lv' := [(8, .int v20), (0, .ref (ad 0)), (1, .int p1), (2, .int p2), (3, .int p3), (4, .int p4), (5, .int p5), (6, .int p6), (7, .int p7), (9, .int a.2)]) hx hb dX10_trial_133 hl (by decide) rfl (fun ls hl => ?_)
  refine lv_aload_n (pc := 135) hx hb dX10_trial_135 rfl (lv_at hl 1 rfl) ?_
  refine lv_iload (pc := 136) hx hb dX10_trial_136 (lv_at hl 9 rfl) ?_
  refine lv_iconst (pc := 138) (v := 1) hx hb dX10_trial_138 (by decide) ?_
  refine lv_iadd (pc := 139) hx hb dX10_trial_139 ?_
  obtain ⟨q22, hc21, hf⟩ := zbind hf
  refine zcallVi (pc := 140) (As := [.int (a.2 + (1 : Int32))]) (rest := []) ⟨hx, hb, hml, hown, hts⟩ (kX10_firstFrom l D ad cy k (a.2 + (1 : Int32)) u q22 hc21) (cwV 1 hts gX10_trial_X10_firstFrom rfl rfl rfl (by decide +kernel) ⟨Nat.le_of_ble_eq_true rfl, Nat.le_of_ble_eq_true rfl⟩) hI rfl (ml_0 ad cy u) rfl hl.1 rfl (Nat.le_of_ble_eq_true rfl) dX10_trial_140 (Nat.zero_le _) (Nat.zero_le _) (fun H locs hI => ?_)
  refine lv_istore (pc := 143) (lv' := [(9, .int q22), (8, .int v20), (0, .ref (ad 0)), (1, .int p1), (2, .int p2), (3, .int p3), (4, .int p4), (5, .int p5), (6, .int p6), (7, .int p7)]) hx hb dX10_trial_143 hl (by decide) rfl (fun ls hl => ?_)
  refine lv_goto (pc := 145) (tgt := 91) hx hb dX10_trial_145 (by decide) ?_
  exact hL _ (Option.some.inj hf).symm _ _ _ hI (lv_sub hl [2, 3, 4, 5, 6, 7, 8, 9, 1, 0] rfl)
set_option maxHeartbeats 4000000 in
set_option maxRecDepth 100000 in
theorem qX10_trial_j162_75 (C0 : zFix p m c cX10_trial 10 s args wsX10_trial RX10 meth (some .int)) {k : Nat} {p1 : Int32} {p2 : Int32} {p3 : Int32} {p5 : Int32} {p6 : Int32} {p7 : Int32} {p8 : Int32} {t0 : Int32} {u : MX}  {x : (Int32 × Int32 × Int32 × Int32) ⊕ (Int32 × Int32 × Int32)} (hf : jX10_trial_j162_75 k p1 p2 p3 p5 p6 p7 p8 t0 u = some x) (hL : ∀ a', x = .inl a' → (fun (a : Int32 × Int32 × Int32 × Int32) => ∀ (H : Heap) (locs : List Loc) (ls : Array Slot), zIn D ad cy (WM ad cy u) A s H locs → lv_has ls 10 [(0, .ref (ad 0)), (1, .int p1), (2, .int p2), (3, .int p3), (4, .int a.1), (5, .int a.2.1), (6, .int a.2.2.1), (7, .int a.2.2.2)] → W p l e ({ frames := 4, cells := 0, slots := 0, locals := 95 } : Room) s m args below meth c H locs 0 0 Q (F0 m 75 ls [])) a') (hX : ∀ b', x = .inr b' → (fun (b : Int32 × Int32 × Int32) => ∀ (H : Heap) (locs : List Loc) (ls : Array Slot), zIn D ad cy (WM ad cy u) A s H locs → lv_has ls 10 [(3, .int p3), (4, .int b.1), (5, .int b.2.1), (6, .int b.2.2)] → W p l e ({ frames := 4, cells := 0, slots := 0, locals := 95 } : Room) s m args below meth c H locs 0 0 Q (F0 m 200 ls [])) b') {H : Heap} {locs : List Loc} {ls : Array Slot} (hI : zIn D ad cy (WM ad cy u) A s H locs) (hl : lv_has ls 10 [(0, .ref (ad 0)), (1, .int p1), (2, .int p2), (3, .int p3), (5, .int p5), (6, .int p6), (7, .int p7), (8, .int p8)]) : W p l e ({ frames := 4, cells := 0, slots := 0, locals := 95 } : Room) s m args below meth c H locs 0 0 Q (F0 m 162 ls [.int t0]) := by
  obtain ⟨hx, hb, hml, hown, hts, hr, hlk⟩ := id C0
  unfold jX10_trial_j162_75 at hf
  refine lv_istore (pc := 162) (lv' := [(4, .int t0), (0, .ref (ad 0)), (1, .int p1), (2, .int p2), (3, .int p3), (5, .int p5), (6, .int p6), (7, .int p7), (8, .int p8)]) hx hb dX10_trial_162 hl (by decide) rfl (fun ls hl => ?_)
  refine lv_iload (pc := 164) hx hb dX10_trial_164 (lv_at hl 5 rfl) ?_
  refine lv_iload (pc := 166) hx hb dX10_trial_166 (lv_at hl 8 rfl) ?_
  refine z_if_le (pc := 168) (tgt := 175) hx hb dX10_trial_168 (by decide) hf (fun hf => ?_) (fun hf => ?_)
  · refine lv_iconst (pc := 175) (v := 0) hx hb dX10_trial_175 (by decide) ?_
    refine lv_iadd (pc := 176) hx hb dX10_trial_176 ?_
    refine z_bi hf (fun v25 hf => ?_)
    refine lv_istore (pc := 177) (lv' := [(5, .int v25), (4, .int t0), (0, .ref (ad 0)), (1, .int p1), (2, .int p2), (3, .int p3), (6, .int p6), (7, .int p7), (8, .int p8)]) hx hb dX10_trial_177 hl (by decide) rfl (fun ls hl => ?_)
    refine lv_iload (pc := 179) hx hb dX10_trial_179 (lv_at hl 7 rfl) ?_
    refine lv_iload_n (pc := 181) hx hb dX10_trial_181 rfl (lv_at hl 5 rfl) ?_
    refine z_icmp_ne (pc := 182) (tgt := 190) hx hb dX10_trial_182 (by decide) hf (fun hf => ?_) (fun hf => ?_)
    · refine lv_iload (pc := 190) hx hb dX10_trial_190 (lv_at hl 6 rfl) ?_
      refine lv_istore (pc := 192) (lv' := [(6, .int p6), (5, .int v25), (4, .int t0), (0, .ref (ad 0)), (1, .int p1), (2, .int p2), (3, .int p3), (7, .int p7), (8, .int p8)]) hx hb dX10_trial_192 hl (by decide) rfl (fun ls hl => ?_)
      refine lv_iinc (pc := 194) (v := (p7 + 1)) (lv' := [(7, .int (p7 + 1)), (6, .int p6), (5, .int v25), (4, .int t0), (0, .ref (ad 0)), (1, .int p1), (2, .int p2), (3, .int p3), (8, .int p8)]) hx hb dX10_trial_194 hl (k := 7) rfl rfl (by decide) rfl (fun ls hl => ?_)
      refine lv_goto (pc := 197) (tgt := 75) hx hb dX10_trial_197 (by decide) ?_
      exact hL _ (Option.some.inj hf).symm _ _ _ hI (lv_sub hl [4, 5, 6, 7, 3, 2, 1, 0] rfl)
    refine lv_iload (pc := 185) hx hb dX10_trial_185 (lv_at hl 8 rfl) ?_
    refine lv_goto (pc := 187) (tgt := 192) hx hb dX10_trial_187 (by decide) ?_
    refine lv_istore (pc := 192) (lv' := [(6, .int p8), (5, .int v25), (4, .int t0), (0, .ref (ad 0)), (1, .int p1), (2, .int p2), (3, .int p3), (7, .int p7), (8, .int p8)]) hx hb dX10_trial_192 hl (by decide) rfl (fun ls hl => ?_)
    refine lv_iinc (pc := 194) (v := (p7 + 1)) (lv' := [(7, .int (p7 + 1)), (6, .int p8), (5, .int v25), (4, .int t0), (0, .ref (ad 0)), (1, .int p1), (2, .int p2), (3, .int p3), (8, .int p8)]) hx hb dX10_trial_194 hl (k := 7) rfl rfl (by decide) rfl (fun ls hl => ?_)
    refine lv_goto (pc := 197) (tgt := 75) hx hb dX10_trial_197 (by decide) ?_
    exact hL _ (Option.some.inj hf).symm _ _ _ hI (lv_sub hl [4, 5, 6, 7, 3, 2, 1, 0] rfl)
  refine lv_iconst (pc := 171) (v := 1) hx hb dX10_trial_171 (by decide) ?_
  refine lv_goto (pc := 172) (tgt := 176) hx hb dX10_trial_172 (by decide) ?_
  refine lv_iadd (pc := 176) hx hb dX10_trial_176 ?_
  refine z_bi hf (fun v26 hf => ?_)
  refine lv_istore (pc := 177) (lv' := [(5, .int v26), (4, .int t0), (0, .ref (ad 0)), (1, .int p1), (2, .int p2), (3, .int p3), (6, .int p6), (7, .int p7), (8, .int p8)]) hx hb dX10_trial_177 hl (by decide) rfl (fun ls hl => ?_)
  refine lv_iload (pc := 179) hx hb dX10_trial_179 (lv_at hl 7 rfl) ?_
  refine lv_iload_n (pc := 181) hx hb dX10_trial_181 rfl (lv_at hl 5 rfl) ?_
  refine z_icmp_ne (pc := 182) (tgt := 190) hx hb dX10_trial_182 (by decide) hf (fun hf => ?_) (fun hf => ?_)
  · refine lv_iload (pc := 190) hx hb dX10_trial_190 (lv_at hl 6 rfl) ?_
    refine lv_istore (pc := 192) (lv' := [(6, .int p6), (5, .int v26), (4, .int t0), (0, .ref (ad 0)), (1, .int p1), (2, .int p2), (3, .int p3), (7, .int p7), (8, .int p8)]) hx hb dX10_trial_192 hl (by decide) rfl (fun ls hl => ?_)
    refine lv_iinc (pc := 194) (v := (p7 + 1)) (lv' := [(7, .int (p7 + 1)), (6, .int p6), (5, .int v26), (4, .int t0), (0, .ref (ad 0)), (1, .int p1), (2, .int p2), (3, .int p3), (8, .int p8)]) hx hb dX10_trial_194 hl (k := 7) rfl rfl (by decide) rfl (fun ls hl => ?_)
    refine lv_goto (pc := 197) (tgt := 75) hx hb dX10_trial_197 (by decide) ?_
    exact hL _ (Option.some.inj hf).symm _ _ _ hI (lv_sub hl [4, 5, 6, 7, 3, 2, 1, 0] rfl)
  refine lv_iload (pc := 185) hx hb dX10_trial_185 (lv_at hl 8 rfl) ?_
  refine lv_goto (pc := 187) (tgt := 192) hx hb dX10_trial_187 (by decide) ?_
  refine lv_istore (pc := 192) (lv' := [(6, .int p8), (5, .int v26), (4, .int t0), (0, .ref (ad 0)), (1, .int p1), (2, .int p2), (3, .int p3), (7, .int p7), (8, .int p8)]) hx hb dX10_trial_192 hl (by decide) rfl (fun ls hl => ?_)
  refine lv_iinc (pc := 194) (v := (p7 + 1)) (lv' := [(7, .int (p7 + 1)), (6, .int p8), (5, .int v26), (4, .int t0), (0, .ref (ad 0)), (1, .int p1), (2, .int p2), (3, .int p3), (8, .int p8)]) hx hb dX10_trial_194 hl (k := 7) rfl rfl (by decide) rfl (fun ls hl => ?_)
  refine lv_goto (pc := 197) (tgt := 75) hx hb dX10_trial_197 (by decide) ?_
  exact hL _ (Option.some.inj hf).symm _ _ _ hI (lv_sub hl [4, 5, 6, 7, 3, 2, 1, 0] rfl)
set_option maxHeartbeats 4000000 in
set_option maxRecDepth 100000 in
theorem lX10_trial_75 (C0 : zFix p m c cX10_trial 10 s args wsX10_trial RX10 meth (some .int)) {k : Nat} {p1 : Int32} {p2 : Int32} {p3 : Int32} {u : MX} {a : Int32 × Int32 × Int32 × Int32} {b : Int32 × Int32 × Int32} (hit : ziter (bX10_trial_75 k p1 p2 p3 u) k a = some b) (hx9 : (fun (b : Int32 × Int32 × Int32) => ∀ (H : Heap) (locs : List Loc) (ls : Array Slot), zIn D ad cy (WM ad cy u) A s H locs → lv_has ls 10 [(3, .int p3), (4, .int b.1), (5, .int b.2.1), (6, .int b.2.2)] → W p l e ({ frames := 4, cells := 0, slots := 0, locals := 95 } : Room) s m args below meth c H locs 0 0 Q (F0 m 200 ls [])) b) : (fun (a : Int32 × Int32 × Int32 × Int32) => ∀ (H : Heap) (locs : List Loc) (ls : Array Slot), zIn D ad cy (WM ad cy u) A s H locs → lv_has ls 10 [(0, .ref (ad 0)), (1, .int p1), (2, .int p2), (3, .int p3), (4, .int a.1), (5, .int a.2.1), (6, .int a.2.2.1), (7, .int a.2.2.2)] → W p l e ({ frames := 4, cells := 0, slots := 0, locals := 95 } : Room) s m args below meth c H locs 0 0 Q (F0 m 75 ls [])) a := by
  obtain ⟨hx, hb, hml, hown, hts, hr, hlk⟩ := id C0
  refine zloop (Wh := (fun (a : Int32 × Int32 × Int32 × Int32) => ∀ (H : Heap) (locs : List Loc) (ls : Array Slot), zIn D ad cy (WM ad cy u) A s H locs → lv_has ls 10 [(0, .ref (ad 0)), (1, .int p1), (2, .int p2), (3, .int p3), (4, .int a.1), (5, .int a.2.1), (6, .int a.2.2.1), (7, .int a.2.2.2)] → W p l e ({ frames := 4, cells := 0, slots := 0, locals := 95 } : Room) s m args below meth c H locs 0 0 Q (F0 m 75 ls []))) (Wx := (fun (b : Int32 × Int32 × Int32) => ∀ (H : Heap) (locs : List Loc) (ls : Array Slot), zIn D ad cy (WM ad cy u) A s H locs → lv_has ls 10 [(3, .int p3), (4, .int b.1), (5, .int b.2.1), (6, .int b.2.2)] → W p l e ({ frames := 4, cells := 0, slots := 0, locals := 95 } : Room) s m args below meth c H locs 0 0 Q (F0 m 200 ls []))) ?_ _ a b hit hx9
  intro a x hf hL hX H locs ls hI hl
  unfold bX10_trial_75 at hf
  refine lv_iload (pc := 75) hx hb dX10_trial_75 (lv_at hl 7 rfl) ?_
  refine lv_iload_n (pc := 77) hx hb dX10_trial_77 rfl (lv_at hl 2 rfl) ?_
  refine z_icmp_gt (pc := 78) (tgt := 200) hx hb dX10_trial_78 (by decide) hf (fun hf => ?_) (fun hf => ?_)
  · exact (hX _ (Option.some.inj hf).symm) _ _ _ hI (lv_sub hl [3, 4, 5, 6] rfl)
  refine lv_iconst (pc := 81) (v := 0) hx hb dX10_trial_81 (by decide) ?_
  refine lv_istore (pc := 82) (lv' := [(8, .int (0 : Int32)), (0, .ref (ad 0)), (1, .int p1), (2, .int p2), (3, .int p3), (4, .int a.1), (5, .int a.2.1), (6, .int a.2.2.1), (7, .int a.2.2.2)]) hx hb dX10_trial_82 hl (by decide) rfl (fun ls hl => ?_)
  refine lv_aload_n (pc := 84) hx hb dX10_trial_84 rfl (lv_at hl 1 rfl) ?_
  refine lv_iconst (pc := 85) (v := 0) hx hb dX10_trial_85 (by decide) ?_
  obtain ⟨q12, hc11, hf⟩ := zbind hf
  refine zcallVi (pc := 86) (As := [.int (0 : Int32)]) (rest := []) ⟨hx, hb, hml, hown, hts⟩ (kX10_firstFrom l D ad cy k (0 : Int32) u q12 hc11) (cwV 1 hts gX10_trial_X10_firstFrom rfl rfl rfl (by decide +kernel) ⟨Nat.le_of_ble_eq_true rfl, Nat.le_of_ble_eq_true rfl⟩) hI rfl (ml_0 ad cy u) rfl hl.1 rfl (Nat.le_of_ble_eq_true rfl) dX10_trial_86 (Nat.zero_le _) (Nat.zero_le _) (fun H locs hI => ?_)
  refine lv_istore (pc := 89) (lv' := [(9, .int q12), (8, .int (0 : Int32)), (0, .ref (ad 0)), (1, .int p1), (2, .int p2), (3, .int p3), (4, .int a.1), (5, .int a.2.1), (6, .int a.2.2.1), (7, .int a.2.2.2)]) hx hb dX10_trial_89 hl (by decide) rfl (fun ls hl => ?_)
  obtain ⟨b23, hb24, hf⟩ := zbind hf
  refine lX10_trial_91 C0 hb24 ?_ _ _ _ hI (lv_sub hl [2, 3, 4, 5, 6, 7, 8, 9, 1, 0] rfl)
  intro H locs ls hI hl
  refine lv_iload (pc := 148) hx hb dX10_trial_148 (lv_at hl 8 rfl) ?_
  refine lv_iload (pc := 150) hx hb dX10_trial_150 (lv_at hl 4 rfl) ?_
  refine z_icmp_le (pc := 152) (tgt := 160) hx hb dX10_trial_152 (by decide) hf (fun hf => ?_) (fun hf => ?_)
  · refine lv_iload (pc := 160) hx hb dX10_trial_160 (lv_at hl 4 rfl) ?_
    exact qX10_trial_j162_75 C0 hf hL hX hI (lv_sub hl [0, 1, 2, 3, 5, 6, 7, 8] rfl)
  refine lv_iload (pc := 155) hx hb dX10_trial_155 (lv_at hl 8 rfl) ?_
  refine lv_goto (pc := 157) (tgt := 162) hx hb dX10_trial_157 (by decide) ?_
  exact qX10_trial_j162_75 C0 hf hL hX hI (lv_sub hl [0, 1, 2, 3, 5, 6, 7, 8] rfl)
set_option maxHeartbeats 4000000 in
set_option maxRecDepth 100000 in
theorem qX10_trial_j46 (C0 : zFix p m c cX10_trial 10 s args wsX10_trial RX10 meth (some .int)) {k : Nat} {p1 : Int32} {p2 : Int32} {p3 : Int32} {u : MX} {r : Int32} {u' : MX} (hf : jX10_trial_j46 k p1 p2 p3 u = some (r, u')) {H : Heap} {locs : List Loc} {ls : Array Slot} (hI : zIn D ad cy (WM ad cy u) A s H locs) (hl : lv_has ls 10 [(0, .ref (ad 0)), (1, .int p1), (2, .int p2), (3, .int p3)]) : W p l e ({ frames := 4, cells := 0, slots := 0, locals := 95 } : Room) s m args below meth c H locs 0 0 (zMQ D cy below args s A (some (.int r)) (WM ad cy u')) (F0 m 46 ls []) := by
  obtain ⟨hx, hb, hml, hown, hts, hr, hlk⟩ := id C0
  unfold jX10_trial_j46 at hf
  refine lv_aload_n (pc := 46) hx hb dX10_trial_46 rfl (lv_at hl 0 rfl) ?_
  obtain ⟨q8, hc7, hf⟩ := zbind hf
  refine zcallVv (pc := 47) (As := []) (rest := []) ⟨hx, hb, hml, hown, hts⟩ (kX10_layGood l D ad cy k u q8 hc7) (cwV 0 hts gX10_trial_X10_layGood rfl rfl rfl (by decide +kernel) ⟨Nat.le_of_ble_eq_true rfl, Nat.le_of_ble_eq_true rfl⟩) hI rfl (ml_0 ad cy u) rfl hl.1 rfl (Nat.le_of_ble_eq_true rfl) dX10_trial_47 (Nat.zero_le _) (Nat.zero_le _) (fun H locs hI => ?_)
  refine lv_aload_n (pc := 50) hx hb dX10_trial_50 rfl (lv_at hl 0 rfl) ?_
  refine lv_iconst (pc := 51) (v := 0) hx hb dX10_trial_51 (by decide) ?_
  obtain ⟨q10, hc9, hf⟩ := zbind hf
  refine zcallVi (pc := 52) (As := [.int (0 : Int32)]) (rest := []) ⟨hx, hb, hml, hown, hts⟩ (kX10_firstFrom l D ad cy k (0 : Int32) q8 q10 hc9) (cwV 1 hts gX10_trial_X10_firstFrom rfl rfl rfl (by decide +kernel) ⟨Nat.le_of_ble_eq_true rfl, Nat.le_of_ble_eq_true rfl⟩) hI rfl (ml_0 ad cy q8) rfl hl.1 rfl (Nat.le_of_ble_eq_true rfl) dX10_trial_52 (Nat.zero_le _) (Nat.zero_le _) (fun H locs hI => ?_)
  refine lv_bipush (pc := 55) (v := -4) hx hb dX10_trial_55 (by decide) ?_
  refine z_icmp_ne (pc := 57) (tgt := 63) hx hb dX10_trial_57 (by decide) hf (fun hf => ?_) (fun hf => ?_)
  · refine lv_iconst (pc := 63) (v := 0) hx hb dX10_trial_63 (by decide) ?_
    refine lv_istore (pc := 64) (lv' := [(4, .int (0 : Int32)), (0, .ref (ad 0)), (1, .int p1), (2, .int p2), (3, .int p3)]) hx hb dX10_trial_64 hl (by decide) rfl (fun ls hl => ?_)
    refine lv_iconst (pc := 66) (v := 0) hx hb dX10_trial_66 (by decide) ?_
    refine lv_istore (pc := 67) (lv' := [(5, .int (0 : Int32)), (4, .int (0 : Int32)), (0, .ref (ad 0)), (1, .int p1), (2, .int p2), (3, .int p3)]) hx hb dX10_trial_67 hl (by decide) rfl (fun ls hl => ?_)
    refine lv_iconst (pc := 69) (v := 0) hx hb dX10_trial_69 (by decide) ?_
    refine lv_istore (pc := 70) (lv' := [(6, .int (0 : Int32)), (5, .int (0 : Int32)), (4, .int (0 : Int32)), (0, .ref (ad 0)), (1, .int p1), (2, .int p2), (3, .int p3)]) hx hb dX10_trial_70 hl (by decide) rfl (fun ls hl => ?_)
    refine lv_iconst (pc := 72) (v := 0) hx hb dX10_trial_72 (by decide) ?_
    refine lv_istore (pc := 73) (lv' := [(7, .int (0 : Int32)), (6, .int (0 : Int32)), (5, .int (0 : Int32)), (4, .int (0 : Int32)), (0, .ref (ad 0)), (1, .int p1), (2, .int p2), (3, .int p3)]) hx hb dX10_trial_73 hl (by decide) rfl (fun ls hl => ?_)
    obtain ⟨b27, hb28, hf⟩ := zbind hf
    refine lX10_trial_75 C0 hb28 ?_ _ _ _ hI (lv_sub hl [4, 5, 6, 7, 3, 2, 1, 0] rfl)
    intro H locs ls hI hl
    refine lv_iload_n (pc := 200) hx hb dX10_trial_200 rfl (lv_at hl 0 rfl) ?_
    refine lv_bipush (pc := 201) (v := 21) hx hb dX10_trial_201 (by decide) ?_
    refine z_icmp_ne (pc := 203) (tgt := 211) hx hb dX10_trial_203 (by decide) hf (fun hf => ?_) (fun hf => ?_)
    · refine lv_iload_n (pc := 211) hx hb dX10_trial_211 rfl (lv_at hl 0 rfl) ?_
      refine lv_bipush (pc := 212) (v := 22) hx hb dX10_trial_212 (by decide) ?_
      refine z_icmp_ne (pc := 214) (tgt := 222) hx hb dX10_trial_214 (by decide) hf (fun hf => ?_) (fun hf => ?_)
      · refine lv_iload (pc := 222) hx hb dX10_trial_222 (lv_at hl 3 rfl) ?_
        obtain ⟨rfl, rfl⟩ := zpair hf
        exact z_iret (pc := 224) C0 hI dX10_trial_224
      refine lv_iload (pc := 217) hx hb dX10_trial_217 (lv_at hl 2 rfl) ?_
      refine lv_goto (pc := 219) (tgt := 224) hx hb dX10_trial_219 (by decide) ?_
      obtain ⟨rfl, rfl⟩ := zpair hf
      exact z_iret (pc := 224) C0 hI dX10_trial_224
    refine lv_iload (pc := 206) hx hb dX10_trial_206 (lv_at hl 1 rfl) ?_
    refine lv_goto (pc := 208) (tgt := 224) hx hb dX10_trial_208 (by decide) ?_
    obtain ⟨rfl, rfl⟩ := zpair hf
    exact z_iret (pc := 224) C0 hI dX10_trial_224
  refine lv_bipush (pc := 60) (v := -4) hx hb dX10_trial_60 (by decide) ?_
  obtain ⟨rfl, rfl⟩ := zpair hf
  exact z_iret (pc := 62) C0 hI dX10_trial_62
set_option maxHeartbeats 4000000 in
set_option maxRecDepth 100000 in
theorem kX10_trial (l : Launch) (D : va_G) (ad : Nat → Nat) (cy : Nat → ClassId) (k : Nat) (a1 : Int32) (a2 : Int32) (a3 : Int32) (u : MX) (r : Int32) (u' : MX) (hf : fX10_trial k a1 a2 a3 u = some (r, u')) : zCt l yX10_trial wsX10_trial ({ frames := 4, cells := 0, slots := 0, locals := 95 } : Room) D ad cy [.ref (ad 0), .int a1, .int a2, .int a3] (WM ad cy u) (some (.int r)) (WM ad cy u') := by
  refine zCt.of (cc := cX10_trial) (maxL := 10) (ret := (some .int)) (own := RX10) (by decide) rfl rfl ?_
  intro p e s m below meth c A C0 hI
  obtain ⟨hx, hb, hml, hown, hts, hr, hlk⟩ := id C0
  refine z_entry (Nat.le_of_ble_eq_true rfl) (fun ls hl => ?_)
  have hl : lv_has ls 10 [(0, .ref (ad 0)), (1, .int a1), (2, .int a2), (3, .int a3)] := hl
  unfold fX10_trial at hf
  refine lv_iload_n (pc := 0) hx hb dX10_trial_0 rfl (lv_at hl 1 rfl) ?_
  obtain ⟨q2, hc1, hf⟩ := zbind hf
  refine zcallSi (pc := 1) (As := [.int a1]) (rest := []) ⟨hx, hb, hml, hown, hts⟩ (kX10_isPart l a1 q2 hc1) (va_cwS 1 hts gX10_trial_X10_isPart rfl rfl rfl (by decide +kernel) ⟨Nat.le_of_ble_eq_true rfl, Nat.le_of_ble_eq_true rfl⟩) rfl hl.1 rfl (Nat.le_of_ble_eq_true rfl) dX10_trial_1 (Nat.zero_le _) (Nat.zero_le _) ?_
  refine z_if_eq (pc := 4) (tgt := 44) hx hb dX10_trial_4 (by decide) hf (fun hf => ?_) (fun hf => ?_)
  · refine lv_iconst (pc := 44) (v := -1) hx hb dX10_trial_44 (by decide) ?_
    obtain ⟨rfl, rfl⟩ := zpair hf
    exact z_iret (pc := 45) C0 hI dX10_trial_45
  refine lv_iload_n (pc := 7) hx hb dX10_trial_7 rfl (lv_at hl 2 rfl) ?_
  refine lv_i2l (pc := 8) hx hb dX10_trial_8 rfl ?_
  refine lv_lconst (pc := 9) (v := 1) hx hb dX10_trial_9 (by decide) ?_
  refine lv_ldc2 (pc := 10) (v := 20) hx hb hown (hts (.constantLong RX10 174 (20)) (by decide +kernel)) dX10_trial_10 ?_
  obtain ⟨q4, hc3, hf⟩ := zbind hf
  refine zcallSi (pc := 13) (As := [.long (a2.toInt64), .long (1 : Int64), .long (20 : Int64)]) (rest := []) ⟨hx, hb, hml, hown, hts⟩ (kX10_in l (a2.toInt64) (1 : Int64) (20 : Int64) q4 hc3) (va_cwS 3 hts gX10_trial_X10_in rfl rfl rfl (by decide +kernel) ⟨Nat.le_of_ble_eq_true rfl, Nat.le_of_ble_eq_true rfl⟩) rfl hl.1 rfl (Nat.le_of_ble_eq_true rfl) dX10_trial_13 (Nat.zero_le _) (Nat.zero_le _) ?_
  refine z_if_eq (pc := 16) (tgt := 44) hx hb dX10_trial_16 (by decide) hf (fun hf => ?_) (fun hf => ?_)
  · refine lv_iconst (pc := 44) (v := -1) hx hb dX10_trial_44 (by decide) ?_
    obtain ⟨rfl, rfl⟩ := zpair hf
    exact z_iret (pc := 45) C0 hI dX10_trial_45
  refine lv_iload_n (pc := 19) hx hb dX10_trial_19 rfl (lv_at hl 3 rfl) ?_
  refine lv_i2l (pc := 20) hx hb dX10_trial_20 rfl ?_
  refine lv_lconst (pc := 21) (v := 0) hx hb dX10_trial_21 (by decide) ?_
  refine lv_iload_n (pc := 22) hx hb dX10_trial_22 rfl (lv_at hl 2 rfl) ?_
  refine lv_i2l (pc := 23) hx hb dX10_trial_23 rfl ?_
  obtain ⟨q6, hc5, hf⟩ := zbind hf
  refine zcallSi (pc := 24) (As := [.long (a3.toInt64), .long (0 : Int64), .long (a2.toInt64)]) (rest := []) ⟨hx, hb, hml, hown, hts⟩ (kX10_in l (a3.toInt64) (0 : Int64) (a2.toInt64) q6 hc5) (va_cwS 3 hts gX10_trial_X10_in rfl rfl rfl (by decide +kernel) ⟨Nat.le_of_ble_eq_true rfl, Nat.le_of_ble_eq_true rfl⟩) rfl hl.1 rfl (Nat.le_of_ble_eq_true rfl) dX10_trial_24 (Nat.zero_le _) (Nat.zero_le _) ?_
  refine z_if_ne (pc := 27) (tgt := 46) hx hb dX10_trial_27 (by decide) hf (fun hf => ?_) (fun hf => ?_)
  · exact qX10_trial_j46 C0 hf hI (lv_sub hl [0, 1, 2, 3] rfl)
  refine lv_iload_n (pc := 30) hx hb dX10_trial_30 rfl (lv_at hl 3 rfl) ?_
  refine lv_i2l (pc := 31) hx hb dX10_trial_31 rfl ?_
  refine lv_ldc2 (pc := 32) (v := 21) hx hb hown (hts (.constantLong RX10 266 (21)) (by decide +kernel)) dX10_trial_32 ?_
  refine lv_ldc2 (pc := 35) (v := 22) hx hb hown (hts (.constantLong RX10 268 (22)) (by decide +kernel)) dX10_trial_35 ?_
  obtain ⟨q30, hc29, hf⟩ := zbind hf
  refine zcallSi (pc := 38) (As := [.long (a3.toInt64), .long (21 : Int64), .long (22 : Int64)]) (rest := []) ⟨hx, hb, hml, hown, hts⟩ (kX10_in l (a3.toInt64) (21 : Int64) (22 : Int64) q30 hc29) (va_cwS 3 hts gX10_trial_X10_in rfl rfl rfl (by decide +kernel) ⟨Nat.le_of_ble_eq_true rfl, Nat.le_of_ble_eq_true rfl⟩) rfl hl.1 rfl (Nat.le_of_ble_eq_true rfl) dX10_trial_38 (Nat.zero_le _) (Nat.zero_le _) ?_
  refine z_if_ne (pc := 41) (tgt := 46) hx hb dX10_trial_41 (by decide) hf (fun hf => ?_) (fun hf => ?_)
  · exact qX10_trial_j46 C0 hf hI (lv_sub hl [0, 1, 2, 3] rfl)
  refine lv_iconst (pc := 44) (v := -1) hx hb dX10_trial_44 (by decide) ?_
  obtain ⟨rfl, rfl⟩ := zpair hf
  exact z_iret (pc := 45) C0 hI dX10_trial_45
end
