def fX10_isLaw (a1 : Int32) : Option (Int32) :=
  (fX10_in (a1.toInt64) (0 : Int64) (14640 : Int64)).bind (fun q2 =>
  zbo q2 (some q2))
theorem iwX10_layLaw_10 : ∀ w ∈ wsX100, w ∈ wsX10_layLaw := by decide +kernel
def bX10_layLaw_14 (k : Nat) (a : Int32 × Int32 × MX) : Option ((Int32 × Int32 × MX) ⊕ (MX)) :=
  if a.2.1 < 0 then
    some (.inr a.2.2)
  else
  zdi (11 : Int32) (
  zix 4 a.2.1 (fun j3 => zb (ms_falls a.2.2 (upd (mg_falls a.2.2) j3 (zremI a.1 (11 : Int32)))) (fun u4 =>
  zdi (11 : Int32) (
  zb (a.1 / (11 : Int32)) (fun v5 =>
  zget 19 (mg_holds u4) a.2.1 (fun v6 =>
  zget 4 (mg_falls u4) a.2.1 (fun v7 =>
  zb (ms_x u4 ((mg_x u4) + ((v6 * ((10 : Int32) - v7)).toInt64))) (fun u8 =>
  zget 19 (mg_holds u8) a.2.1 (fun v9 =>
  zb (ms_all u8 ((mg_all u8) + ((10 : Int64) * (v9.toInt64)))) (fun u10 =>
  some (.inl (v5, (a.2.1 + (-1)), u10))))))))))))
def fX10_layLaw (k : Nat) (a1 : Int32) (u : MX) : Option (MX) :=
  zb (ms_x u (0 : Int64)) (fun u1 =>
  zb (ms_all u1 (0 : Int64)) (fun u2 =>
  (ziter (bX10_layLaw_14 k) k (a1, (3 : Int32), u2)).bind (fun b11 =>
    zget 19 (mg_holds b11) (12 : Int32) (fun v13 =>
    zget 19 (mg_holds b11) (13 : Int32) (fun v14 =>
    zget 19 (mg_holds b11) (14 : Int32) (fun v15 =>
    zget 19 (mg_holds b11) (15 : Int32) (fun v16 =>
    zb (ms_hits b11 ((((v13 + v14) + v15) + v16).toInt64)) (fun u17 =>
    some u17))))))))
def bX10_power_5 (k : Nat) (p0 : Int64) (p2 : Int32) (a : Int64 × Int32) : Option ((Int64 × Int32) ⊕ (Int64)) :=
  if p2 ≤ a.2 then
    some (.inr a.1)
  else
  zb (a.1 * p0) (fun v1 =>
  some (.inl (v1, (a.2 + 1))))
def fX10_power (k : Nat) (a1 : Int64) (a2 : Int32) : Option (Int64) :=
  (ziter (bX10_power_5 k a1 a2) k ((1 : Int64), (0 : Int32))).bind (fun b2 =>
    some b2)
theorem iwX10_whole_10 : ∀ w ∈ wsX100, w ∈ wsX10_whole := by decide +kernel
def fX10_whole (k : Nat) (u : MX) : Option (Int64) :=
  (fX10_power k (mg_all u) (3 : Int32)).bind (fun q2 =>
  some (((mg_hits u) * q2) * (1000 : Int64)))
theorem iwX10_shareUp_10 : ∀ w ∈ wsX100, w ∈ wsX10_shareUp := by decide +kernel
def fX10_shareUp (k : Nat) (a1 : Int32) (u : MX) : Option (Int64) :=
  zget 19 (mg_holds u) ((12 : Int32) + a1) (fun v1 =>
  (fX10_power k (mg_x u) a1).bind (fun q3 =>
  (fX10_power k (mg_all u) ((3 : Int32) - a1)).bind (fun q5 =>
  zget 19 (mg_holds u) (16 : Int32) (fun v6 =>
  some ((((v1.toInt64) * q3) * q5) * ((1000 : Int64) - (v6.toInt64)))))))
theorem iwX10_holesUp_10 : ∀ w ∈ wsX100, w ∈ wsX10_holesUp := by decide +kernel
def bX10_holesUp_5 (k : Nat) (p1 : Int32) (u : MX) (a : Int64 × Int32) : Option ((Int64 × Int32) ⊕ (Int64)) :=
  if (3 : Int32) < a.2 then
    some (.inr a.1)
  else
  zget 19 (mg_holds u) ((12 : Int32) + a.2) (fun v1 =>
  zget 19 (mg_holds u) p1 (fun v2 =>
  zget 4 (mg_falls u) p1 (fun v3 =>
  (fX10_power k (mg_x u) (a.2 - (1 : Int32))).bind (fun q5 =>
  (fX10_power k (mg_all u) ((3 : Int32) - a.2)).bind (fun q7 =>
  zb (a.1 + ((((((v1.toInt64) * (a.2.toInt64)) * (v2.toInt64)) * (((10 : Int32) - v3).toInt64)) * q5) * q7)) (fun v8 =>
  some (.inl (v8, (a.2 + 1)))))))))
def fX10_holesUp (k : Nat) (a1 : Int32) (u : MX) : Option (Int64) :=
  (ziter (bX10_holesUp_5 k a1 u) k ((0 : Int64), (1 : Int32))).bind (fun b9 =>
    zget 19 (mg_holds u) (16 : Int32) (fun v11 =>
    some (b9 * ((1000 : Int64) - (v11.toInt64)))))
def bX10_lowest_6 (k : Nat) (p0 : Int64) (p2 : Int64) (p4 : Int32) (a : Int64 × Int64) : Option ((Int64 × Int64) ⊕ (Int64)) :=
  if a.2 = (0 : Int64) then
    some (.inr a.1)
  else
  zdl a.2 (
  zb (zremL a.1 a.2) (fun v1 =>
  some (.inl (a.2, v1))))
def fX10_lowest (k : Nat) (a1 : Int64) (a2 : Int64) (a3 : Int32) : Option (Int64) :=
  (ziter (bX10_lowest_6 k a1 a2 a3) k (a1, a2)).bind (fun b2 =>
    if a3 = 0 then
      zdl b2 (
      some (a1 / b2))
    else
    zdl b2 (
    some (a2 / b2)))
def fX10_share (k : Nat) (a1 : Int32) (a2 : Int32) (a3 : Int32) (u : MX) : Option (Int64 × MX) :=
  (fX10_isLaw a1).bind (fun q2 =>
  if q2 = 0 then
    some ((-1 : Int64), u)
  else
  (fX10_in (a2.toInt64) (0 : Int64) (3 : Int64)).bind (fun q4 =>
  if q4 = 0 then
    some ((-1 : Int64), u)
  else
  (fX10_in (a3.toInt64) (0 : Int64) (1 : Int64)).bind (fun q6 =>
  if q6 = 0 then
    some ((-1 : Int64), u)
  else
  (fX10_layLaw k a1 u).bind (fun q8 =>
  (fX10_shareUp k a2 q8).bind (fun q10 =>
  (fX10_whole k q8).bind (fun q12 =>
  (fX10_lowest k q10 q12 a3).bind (fun q14 =>
  some (q14, q8))))))))
def fX10_holes (k : Nat) (a1 : Int32) (a2 : Int32) (a3 : Int32) (u : MX) : Option (Int64 × MX) :=
  (fX10_isLaw a1).bind (fun q2 =>
  if q2 = 0 then
    some ((-1 : Int64), u)
  else
  (fX10_isPart a2).bind (fun q4 =>
  if q4 = 0 then
    some ((-1 : Int64), u)
  else
  (fX10_in (a3.toInt64) (0 : Int64) (1 : Int64)).bind (fun q6 =>
  if q6 = 0 then
    some ((-1 : Int64), u)
  else
  (fX10_layLaw k a1 u).bind (fun q8 =>
  (fX10_holesUp k a2 q8).bind (fun q10 =>
  (fX10_whole k q8).bind (fun q12 =>
  (fX10_lowest k q10 q12 a3).bind (fun q14 =>
  some (q14, q8))))))))
def fX10_size (a1 : Int64) : Option (Int64) :=
  if (0 : Int64) ≤ a1 then
    some a1
  else
  some (-a1)
theorem iwX10_farthest_10 : ∀ w ∈ wsX100, w ∈ wsX10_farthest := by decide +kernel
def bX10_farthest_4 (k : Nat) (u : MX) (a : Int64 × Int32) : Option ((Int64 × Int32) ⊕ (Int64)) :=
  if (4 : Int32) ≤ a.2 then
    some (.inr a.1)
  else
  zget 10 (mg_known u) (0 : Int32) (fun v1 =>
  (fX10_shareUp k a.2 u).bind (fun q3 =>
  zget 10 (mg_known u) ((1 : Int32) + a.2) (fun v4 =>
  (fX10_whole k u).bind (fun q6 =>
  (fX10_size (((v1.toInt64) * q3) - ((v4.toInt64) * q6))).bind (fun q8 =>
  if q8 ≤ a.1 then
    some (.inl (a.1, (a.2 + 1)))
  else
  some (.inl (q8, (a.2 + 1))))))))
def bX10_farthest_64 (k : Nat) (u : MX) (a : Int64 × Int32) : Option ((Int64 × Int32) ⊕ (Int64)) :=
  if (4 : Int32) ≤ a.2 then
    some (.inr a.1)
  else
  zget 10 (mg_known u) (0 : Int32) (fun v11 =>
  (fX10_holesUp k a.2 u).bind (fun q13 =>
  zget 10 (mg_known u) ((5 : Int32) + a.2) (fun v14 =>
  (fX10_whole k u).bind (fun q16 =>
  (fX10_size (((v11.toInt64) * q13) - ((v14.toInt64) * q16))).bind (fun q18 =>
  if q18 ≤ a.1 then
    some (.inl (a.1, (a.2 + 1)))
  else
  some (.inl (q18, (a.2 + 1))))))))
def fX10_farthest (k : Nat) (u : MX) : Option (Int64) :=
  (ziter (bX10_farthest_4 k u) k ((0 : Int64), (0 : Int32))).bind (fun b9 =>
    (ziter (bX10_farthest_64 k u) k (b9, (0 : Int32))).bind (fun b19 =>
      some b19))
theorem iwX10_isNear_10 : ∀ w ∈ wsX100, w ∈ wsX10_isNear := by decide +kernel
def fX10_isNear (a1 : Int32) (a2 : Int32) (a3 : Int32) (u : MX) : Option (Int32) :=
  zget 4 (mg_falls u) a1 (fun v1 =>
  (fX10_size (((10 : Int64) * (a3.toInt64)) - ((a2 * v1).toInt64))).bind (fun q3 =>
  if (10 : Int64) < q3 then
    some (0 : Int32)
  else
  some (1 : Int32)))
theorem iwX10_isSeen_10 : ∀ w ∈ wsX100, w ∈ wsX10_isSeen := by decide +kernel
def jX10_isSeen_j31_4 (k : Nat) (p2 : Int32) (u : MX) : Option ((Int32 × Int32) ⊕ (Int32)) :=
  zget 4 (mg_shots u) p2 (fun v2 =>
  if v2 = 0 then
    some (.inl ((1 : Int32), (p2 + 1)))
  else
  zget 4 (mg_shots u) p2 (fun v3 =>
  zget 4 (mg_shotDown u) p2 (fun v4 =>
  (fX10_isNear p2 v3 v4 u).bind (fun q6 =>
  if q6 = 0 then
    some (.inl ((0 : Int32), (p2 + 1)))
  else
  some (.inl ((1 : Int32), (p2 + 1)))))))
def bX10_isSeen_4 (k : Nat) (u : MX) (a : Int32 × Int32) : Option ((Int32 × Int32) ⊕ (Int32)) :=
  if (4 : Int32) ≤ a.2 then
    some (.inr a.1)
  else
  if a.1 = 0 then
    some (.inl ((0 : Int32), (a.2 + 1)))
  else
  zget 4 (mg_wrecks u) a.2 (fun v1 =>
  if v1 = 0 then
    jX10_isSeen_j31_4 k a.2 u
  else
  zget 4 (mg_falls u) a.2 (fun v7 =>
  if v7 ≤ 0 then
    some (.inl ((0 : Int32), (a.2 + 1)))
  else
  jX10_isSeen_j31_4 k a.2 u))
def fX10_isSeen (k : Nat) (u : MX) : Option (Int32) :=
  (ziter (bX10_isSeen_4 k u) k ((1 : Int32), (0 : Int32))).bind (fun b8 =>
    zbo b8 (some b8))
theorem iwX10_layGood_10 : ∀ w ∈ wsX100, w ∈ wsX10_layGood := by decide +kernel
def bX10_layGood_10 (k : Nat) (a : Int32 × MX) : Option ((Int32 × MX) ⊕ (MX)) :=
  if (14641 : Int32) ≤ a.1 then
    some (.inr a.2)
  else
  (fX10_layLaw k a.1 a.2).bind (fun q2 =>
  (fX10_isSeen k q2).bind (fun q4 =>
  if q4 = 0 then
    zix 14641 a.1 (fun j5 => zb (ms_good q2 (upd (mg_good q2) j5 (vp_nar .boolean (0 : Int32)))) (fun u6 =>
    some (.inl ((a.1 + 1), u6))))
  else
  (fX10_farthest k q2).bind (fun q8 =>
  zget 19 (mg_holds q2) (17 : Int32) (fun v9 =>
  (fX10_whole k q2).bind (fun q11 =>
  if ((v9.toInt64) * q11) < q8 then
    zix 14641 a.1 (fun j12 => zb (ms_good q2 (upd (mg_good q2) j12 (vp_nar .boolean (0 : Int32)))) (fun u13 =>
    some (.inl ((a.1 + 1), u13))))
  else
  zix 14641 a.1 (fun j14 => zb (ms_good q2 (upd (mg_good q2) j14 (vp_nar .boolean (1 : Int32)))) (fun u15 =>
  some (.inl ((a.1 + 1), u15)))))))))
def fX10_layGood (k : Nat) (u : MX) : Option (MX) :=
  if (mg_old u) = 0 then
    some u
  else
  (ziter (bX10_layGood_10 k) k ((0 : Int32), u)).bind (fun b16 =>
    zb (ms_old b16 (0 : Int32)) (fun u18 =>
    some u18))
theorem iwX10_fits_10 : ∀ w ∈ wsX100, w ∈ wsX10_fits := by decide +kernel
def fX10_fits (k : Nat) (a1 : Int32) (u : MX) : Option (Int32 × MX) :=
  (fX10_isLaw a1).bind (fun q2 =>
  if q2 = 0 then
    some ((-1 : Int32), u)
  else
  (fX10_layGood k u).bind (fun q4 =>
  zget 14641 (mg_good q4) a1 (fun v5 =>
  if v5 = 0 then
    some ((0 : Int32), q4)
  else
  some ((1 : Int32), q4))))
theorem iwX10_firstFrom_10 : ∀ w ∈ wsX100, w ∈ wsX10_firstFrom := by decide +kernel
def bX10_firstFrom_2 (k : Nat) (u : MX) (a : Int32) : Option ((Int32) ⊕ (Int32)) :=
  if (14641 : Int32) ≤ a then
    some (.inr a)
  else
  zget 14641 (mg_good u) a (fun v1 =>
  if v1 = 0 then
    some (.inl (a + 1))
  else
  some (.inr a))
def fX10_firstFrom (k : Nat) (a1 : Int32) (u : MX) : Option (Int32) :=
  (ziter (bX10_firstFrom_2 k u) k a1).bind (fun b2 =>
    if (14641 : Int32) ≤ b2 then
      some (-4 : Int32)
    else
    some b2)
theorem iwX10_laws_10 : ∀ w ∈ wsX100, w ∈ wsX10_laws := by decide +kernel
def bX10_laws_26 (k : Nat) (p1 : Int32) (u : MX) (a : Int32 × Int32 × Int32) : Option ((Int32 × Int32 × Int32) ⊕ (Int32 × Int32)) :=
  if (14641 : Int32) ≤ a.2.2 then
    some (.inr (a.1, a.2.1))
  else
  zget 14641 (mg_good u) a.2.2 (fun v5 =>
  if v5 = 0 then
    zb (a.1 + (0 : Int32)) (fun v6 =>
    zget 14641 (mg_good u) a.2.2 (fun v7 =>
    if v7 = 0 then
      some (.inl (v6, a.2.1, (a.2.2 + 1)))
    else
    some (.inl (v6, a.2.2, (a.2.2 + 1)))))
  else
  zb (a.1 + (1 : Int32)) (fun v8 =>
  zget 14641 (mg_good u) a.2.2 (fun v9 =>
  if v9 = 0 then
    some (.inl (v8, a.2.1, (a.2.2 + 1)))
  else
  some (.inl (v8, a.2.2, (a.2.2 + 1))))))
def fX10_laws (k : Nat) (a1 : Int32) (u : MX) : Option (Int32 × MX) :=
  (fX10_in (a1.toInt64) (0 : Int64) (2 : Int64)).bind (fun q2 =>
  if q2 = 0 then
    some ((-1 : Int32), u)
  else
  (fX10_layGood k u).bind (fun q4 =>
  (ziter (bX10_laws_26 k a1 q4) k ((0 : Int32), (-4 : Int32), (0 : Int32))).bind (fun b10 =>
    if a1 = 0 then
      some (b10.1, q4)
    else
    if a1 = (1 : Int32) then
      (fX10_firstFrom k (0 : Int32) q4).bind (fun q13 =>
      some (q13, q4))
    else
    some (b10.2, q4))))
def bX10_fallsOf_4 (k : Nat) (p1 : Int32) (a : Int32 × Int32) : Option ((Int32 × Int32) ⊕ (Int32)) :=
  if a.2 ≤ p1 then
    some (.inr a.1)
  else
  zdi (11 : Int32) (
  zb (a.1 / (11 : Int32)) (fun v1 =>
  some (.inl (v1, (a.2 + (-1))))))
def fX10_fallsOf (k : Nat) (a1 : Int32) (a2 : Int32) : Option (Int32) :=
  (ziter (bX10_fallsOf_4 k a2) k (a1, (3 : Int32))).bind (fun b2 =>
    zdi (11 : Int32) (
    some (zremI b2 (11 : Int32))))
def bX10_span_37 (k : Nat) (p1 : Int32) (p2 : Int32) (u : MX) (a : Int32 × Int32 × Int32) : Option ((Int32 × Int32 × Int32) ⊕ (Int32 × Int32)) :=
  if a.2.2 = (-4 : Int32) then
    some (.inr (a.1, a.2.1))
  else
  (fX10_fallsOf k a.2.2 p1).bind (fun q10 =>
  if a.1 ≤ q10 then
    if q10 ≤ a.2.1 then
      (fX10_firstFrom k (a.2.2 + (1 : Int32)) u).bind (fun q12 =>
      some (.inl (a.1, a.2.1, q12)))
    else
    (fX10_firstFrom k (a.2.2 + (1 : Int32)) u).bind (fun q14 =>
    some (.inl (a.1, q10, q14)))
  else
  if q10 ≤ a.2.1 then
    (fX10_firstFrom k (a.2.2 + (1 : Int32)) u).bind (fun q16 =>
    some (.inl (q10, a.2.1, q16)))
  else
  (fX10_firstFrom k (a.2.2 + (1 : Int32)) u).bind (fun q18 =>
  some (.inl (q10, q10, q18))))
def fX10_span (k : Nat) (a1 : Int32) (a2 : Int32) (u : MX) : Option (Int32 × MX) :=
  (fX10_isPart a1).bind (fun q2 =>
  if q2 = 0 then
    some ((-1 : Int32), u)
  else
  (fX10_in (a2.toInt64) (0 : Int64) (1 : Int64)).bind (fun q4 =>
  if q4 = 0 then
    some ((-1 : Int32), u)
  else
  (fX10_layGood k u).bind (fun q6 =>
  (fX10_firstFrom k (0 : Int32) q6).bind (fun q8 =>
  (ziter (bX10_span_37 k a1 a2 q6) k ((100 : Int32), (-4 : Int32), q8)).bind (fun b19 =>
    if b19.2 = (-4 : Int32) then
      some ((-4 : Int32), q6)
    else
    if a2 = 0 then
      some (b19.1, q6)
    else
    some (b19.2, q6))))))
def bX10_say_37 (k : Nat) (p1 : Int32) (p2 : Int32) (u : MX) (a : Int32 × Int32 × Int32) : Option ((Int32 × Int32 × Int32) ⊕ (Int32 × Int32)) :=
  if a.2.2 = (-4 : Int32) then
    some (.inr (a.1, a.2.1))
  else
  (fX10_fallsOf k a.2.2 p1).bind (fun q10 =>
  (fX10_fallsOf k a.2.2 p2).bind (fun q12 =>
  if q10 ≤ q12 then
    zb (a.1 + (0 : Int32)) (fun v13 =>
    (fX10_firstFrom k (a.2.2 + (1 : Int32)) u).bind (fun q15 =>
    some (.inl (v13, (a.2.1 + 1), q15))))
  else
  zb (a.1 + (1 : Int32)) (fun v16 =>
  (fX10_firstFrom k (a.2.2 + (1 : Int32)) u).bind (fun q18 =>
  some (.inl (v16, (a.2.1 + 1), q18))))))
def fX10_say (k : Nat) (a1 : Int32) (a2 : Int32) (u : MX) : Option (Int32 × MX) :=
  (fX10_isPart a1).bind (fun q2 =>
  if q2 = 0 then
    some ((-1 : Int32), u)
  else
  (fX10_isPart a2).bind (fun q4 =>
  if q4 = 0 then
    some ((-1 : Int32), u)
  else
  if a1 = a2 then
    some ((-1 : Int32), u)
  else
  (fX10_layGood k u).bind (fun q6 =>
  (fX10_firstFrom k (0 : Int32) q6).bind (fun q8 =>
  (ziter (bX10_say_37 k a1 a2 q6) k ((0 : Int32), (0 : Int32), q8)).bind (fun b19 =>
    if b19.2 = 0 then
      some ((-4 : Int32), q6)
    else
    if b19.1 = b19.2 then
      some ((1 : Int32), q6)
    else
    if b19.1 = 0 then
      some ((2 : Int32), q6)
    else
    some ((0 : Int32), q6))))))
theorem iwX10_cost_10 : ∀ w ∈ wsX100, w ∈ wsX10_cost := by decide +kernel
def bX10_cost_13 (k : Nat) (p1 : Int32) (u : MX) (a : Int64 × Int32) : Option ((Int64 × Int32) ⊕ (Int64)) :=
  if (3 : Int32) < a.2 then
    some (.inr a.1)
  else
  zget 10 (mg_known u) ((1 : Int32) + a.2) (fun v1 =>
  (fX10_power k (100 : Int64) a.2).bind (fun q3 =>
  (fX10_power k (p1.toInt64) ((3 : Int32) - a.2)).bind (fun q5 =>
  zb (a.1 + (((v1.toInt64) * q3) * q5)) (fun v6 =>
  some (.inl (v6, (a.2 + 1)))))))
def bX10_cost_2 (k : Nat) (u : MX) (a : Int32) : Option ((Int32) ⊕ ((Int32) ⊕ (Unit))) :=
  if (100 : Int32) < a then
    some (.inr (.inr ()))
  else
  (ziter (bX10_cost_13 k a u) k ((0 : Int64), (1 : Int32))).bind (fun b7 =>
    zget 10 (mg_known u) (0 : Int32) (fun v9 =>
    zget 10 (mg_known u) (1 : Int32) (fun v10 =>
    (fX10_power k (a.toInt64) (3 : Int32)).bind (fun q12 =>
    if (((v9 - v10).toInt64) * q12) < b7 then
      some (.inl (a + 1))
    else
    some (.inr (.inl a))))))
def fX10_cost (k : Nat) (u : MX) : Option (Int32) :=
  (ziter (bX10_cost_2 k u) k (1 : Int32)).bind
    (fun b13 => zel b13
     (fun b13 =>
        some b13)
      (fun b13 =>
        some (-4 : Int32)))
def fX10_near (k : Nat) (a1 : Int32) (u : MX) : Option (Int32 × MX) :=
  (fX10_isLaw a1).bind (fun q2 =>
  if q2 = 0 then
    some ((-1 : Int32), u)
  else
  (fX10_layLaw k a1 u).bind (fun q4 =>
  (fX10_farthest k q4).bind (fun q6 =>
  (fX10_whole k q4).bind (fun q8 =>
  (fX10_whole k q4).bind (fun q10 =>
  zdl q10 (
  zb (((q6 + q8) - (1 : Int64)) / q10) (fun v11 =>
  (fX10_isSeen k q4).bind (fun q13 =>
  if q13 = 0 then
    some ((-4 : Int32), q4)
  else
  if (99 : Int64) < v11 then
    some ((-4 : Int32), q4)
  else
  some ((v11.toInt32), q4)))))))))
section
variable {p : Program} {l : Launch} {e : Env} {s : State} {m : MethodId} {args : Array Value} {below : List Frame} {meth : Method} {c : Code} {A : Nat → Prop} {Q : State → Prop} {D : va_G} {ad : Nat → Nat} {cy : Nat → ClassId}
set_option maxHeartbeats 4000000 in
set_option maxRecDepth 100000 in
theorem kX10_isLaw (l : Launch) (a1 : Int32) (r : Int32) (hf : fX10_isLaw a1 = some r) : zSt l yX10_isLaw wsX10_isLaw ({ frames := 1, cells := 0, slots := 0, locals := 25 } : Room) [.int a1] (some (.int r)) := by
  refine zSt.of (cc := cX10_isLaw) (maxL := 1) (ret := (some .boolean)) (own := RX10) (by decide) rfl rfl ?_
  intro p e s m below meth c C0
  obtain ⟨hx, hb, hml, hown, hts, hr, hlk⟩ := id C0
  refine z_entry (Nat.le_of_ble_eq_true rfl) (fun ls hl => ?_)
  have hl : lv_has ls 1 [(0, .int a1)] := hl
  unfold fX10_isLaw at hf
  refine lv_iload_n (pc := 0) hx hb dX10_isLaw_0 rfl (lv_at hl 0 rfl) ?_
  refine lv_i2l (pc := 1) hx hb dX10_isLaw_1 rfl ?_
  refine lv_lconst (pc := 2) (v := 0) hx hb dX10_isLaw_2 (by decide) ?_
  refine lv_ldc2 (pc := 3) (v := 14640) hx hb hown (hts (.constantLong RX10 181 (14640)) (by decide +kernel)) dX10_isLaw_3 ?_
  obtain ⟨q2, hc1, hf⟩ := zbind hf
  refine zcallSi (pc := 6) (As := [.long (a1.toInt64), .long (0 : Int64), .long (14640 : Int64)]) (rest := []) ⟨hx, hb, hml, hown, hts⟩ (kX10_in l (a1.toInt64) (0 : Int64) (14640 : Int64) q2 hc1) (va_cwS 3 hts gX10_isLaw_X10_in rfl rfl rfl (by decide +kernel) ⟨Nat.le_of_ble_eq_true rfl, Nat.le_of_ble_eq_true rfl⟩) rfl hl.1 rfl (Nat.le_of_ble_eq_true rfl) dX10_isLaw_6 (Nat.zero_le _) (Nat.zero_le _) ?_
  obtain ⟨hz, hf⟩ := zbo_of hf
  obtain rfl := zone hf
  exact z_szret (pc := 9) C0 hz dX10_isLaw_9
set_option maxHeartbeats 4000000 in
set_option maxRecDepth 100000 in
theorem lX10_layLaw_14 (C0 : zFix p m c cX10_layLaw 4 s args wsX10_layLaw RX10 meth none) {k : Nat} {a : Int32 × Int32 × MX} {b : MX} (hit : ziter (bX10_layLaw_14 k) k a = some b) (hx9 : (fun (b : MX) => ∀ (H : Heap) (locs : List Loc) (ls : Array Slot), zIn D ad cy (WM ad cy b) A s H locs → lv_has ls 4 [(0, .ref (ad 0))] → W p l e ({ frames := 0, cells := 0, slots := 0, locals := 0 } : Room) s m args below meth c H locs 0 0 Q (F0 m 85 ls [])) b) : (fun (a : Int32 × Int32 × MX) => ∀ (H : Heap) (locs : List Loc) (ls : Array Slot), zIn D ad cy (WM ad cy a.2.2) A s H locs → lv_has ls 4 [(0, .ref (ad 0)), (2, .int a.1), (3, .int a.2.1)] → W p l e ({ frames := 0, cells := 0, slots := 0, locals := 0 } : Room) s m args below meth c H locs 0 0 Q (F0 m 14 ls [])) a := by
  obtain ⟨hx, hb, hml, hown, hts, hr, hlk⟩ := id C0
  refine zloop (Wh := (fun (a : Int32 × Int32 × MX) => ∀ (H : Heap) (locs : List Loc) (ls : Array Slot), zIn D ad cy (WM ad cy a.2.2) A s H locs → lv_has ls 4 [(0, .ref (ad 0)), (2, .int a.1), (3, .int a.2.1)] → W p l e ({ frames := 0, cells := 0, slots := 0, locals := 0 } : Room) s m args below meth c H locs 0 0 Q (F0 m 14 ls []))) (Wx := (fun (b : MX) => ∀ (H : Heap) (locs : List Loc) (ls : Array Slot), zIn D ad cy (WM ad cy b) A s H locs → lv_has ls 4 [(0, .ref (ad 0))] → W p l e ({ frames := 0, cells := 0, slots := 0, locals := 0 } : Room) s m args below meth c H locs 0 0 Q (F0 m 85 ls []))) ?_ _ a b hit hx9
  intro a x hf hL hX H locs ls hI hl
  unfold bX10_layLaw_14 at hf
  refine lv_iload_n (pc := 14) hx hb dX10_layLaw_14 rfl (lv_at hl 2 rfl) ?_
  refine z_if_lt (pc := 15) (tgt := 85) hx hb dX10_layLaw_15 (by decide) hf (fun hf => ?_) (fun hf => ?_)
  · exact (hX _ (Option.some.inj hf).symm) _ _ _ hI (lv_sub hl [0] rfl)
  refine lv_aload_n (pc := 18) hx hb dX10_layLaw_18 rfl (lv_at hl 0 rfl) ?_
  refine z_get (pc := 19) (index := 44) hx hb hts iwX10_layLaw_10 hown hI (ml_0 ad cy a.2.2) rfl 22 (by decide) (by decide +kernel) rfl rfl dX10_layLaw_19 ?_
  refine lv_iload_n (pc := 22) hx hb dX10_layLaw_22 rfl (lv_at hl 2 rfl) ?_
  refine lv_iload_n (pc := 23) hx hb dX10_layLaw_23 rfl (lv_at hl 1 rfl) ?_
  refine lv_bipush (pc := 24) (v := 11) hx hb dX10_layLaw_24 (by decide) ?_
  refine z_irem (pc := 26) hx hb dX10_layLaw_26 hf (fun hf => ?_)
  refine z_iast (wf := WM ad cy) (pc := 27) hx hb hI (ml_12 ad cy a.2.2) 0 rfl dX10_layLaw_27 (fun j => mw_falls ad cy a.2.2 (upd (mg_falls a.2.2) j (zremI a.1 (11 : Int32)))) hf (fun j3 u4 H locs hj3 hI hf => ?_)
  refine lv_iload_n (pc := 28) hx hb dX10_layLaw_28 rfl (lv_at hl 1 rfl) ?_
  refine lv_bipush (pc := 29) (v := 11) hx hb dX10_layLaw_29 (by decide) ?_
  refine z_idiv (pc := 31) hx hb dX10_layLaw_31 hf (fun hf => ?_)
  refine z_bi hf (fun v5 hf => ?_)
  refine lv_istore_n (pc := 32) (lv' := [(2, .int v5), (0, .ref (ad 0)), (3, .int a.2.1)]) hx hb dX10_layLaw_32 rfl hl (by decide) rfl (fun ls hl => ?_)
  refine lv_aload_n (pc := 33) hx hb dX10_layLaw_33 rfl (lv_at hl 1 rfl) ?_
  refine lv_dup (pc := 34) hx hb dX10_layLaw_34 rfl ?_
  refine z_get (pc := 35) (index := 183) hx hb hts iwX10_layLaw_10 hown hI (ml_0 ad cy u4) rfl 23 (by decide) (by decide +kernel) rfl rfl dX10_layLaw_35 ?_
  refine lv_aload_n (pc := 38) hx hb dX10_layLaw_38 rfl (lv_at hl 1 rfl) ?_
  refine z_get (pc := 39) (index := 22) hx hb hts iwX10_layLaw_10 hown hI (ml_0 ad cy u4) rfl 12 (by decide) (by decide +kernel) rfl rfl dX10_layLaw_39 ?_
  refine lv_iload_n (pc := 42) hx hb dX10_layLaw_42 rfl (lv_at hl 2 rfl) ?_
  refine z_iald (pc := 43) hx hb hI (ml_5 ad cy u4) 0 rfl dX10_layLaw_43 hf (fun v6 hf => ?_)
  refine lv_bipush (pc := 44) (v := 10) hx hb dX10_layLaw_44 (by decide) ?_
  refine lv_aload_n (pc := 46) hx hb dX10_layLaw_46 rfl (lv_at hl 1 rfl) ?_
  refine z_get (pc := 47) (index := 44) hx hb hts iwX10_layLaw_10 hown hI (ml_0 ad cy u4) rfl 22 (by decide) (by decide +kernel) rfl rfl dX10_layLaw_47 ?_
  refine lv_iload_n (pc := 50) hx hb dX10_layLaw_50 rfl (lv_at hl 2 rfl) ?_
  refine z_iald (pc := 51) hx hb hI (ml_12 ad cy u4) 0 rfl dX10_layLaw_51 hf (fun v7 hf => ?_)
  refine lv_isub (pc := 52) hx hb dX10_layLaw_52 ?_
  refine lv_imul (pc := 53) hx hb dX10_layLaw_53 ?_
  refine lv_i2l (pc := 54) hx hb dX10_layLaw_54 rfl ?_
  refine lv_ladd (pc := 55) hx hb dX10_layLaw_55 ?_
  refine z_put (wf := WM ad cy) (pc := 56) (index := 183) hx hb hts iwX10_layLaw_10 tyX10 tyX10_ok nmX10 hown hI (ml_0 ad cy u4) rfl 23 (by decide) (by decide +kernel) rfl rfl rfl rfl (Nat.le_of_ble_eq_true rfl) dX10_layLaw_56 (mw_x ad cy u4 ((mg_x u4) + ((v6 * ((10 : Int32) - v7)).toInt64))) hf (fun u8 H locs hI hf => ?_)
  refine lv_aload_n (pc := 59) hx hb dX10_layLaw_59 rfl (lv_at hl 1 rfl) ?_
  refine lv_dup (pc := 60) hx hb dX10_layLaw_60 rfl ?_
  refine z_get (pc := 61) (index := 187) hx hb hts iwX10_layLaw_10 hown hI (ml_0 ad cy u8) rfl 24 (by decide) (by decide +kernel) rfl rfl dX10_layLaw_61 ?_
  refine lv_ldc2 (pc := 64) (v := 10) hx hb hown (hts (.constantLong RX10 190 (10)) (by decide +kernel)) dX10_layLaw_64 ?_
  refine lv_aload_n (pc := 67) hx hb dX10_layLaw_67 rfl (lv_at hl 1 rfl) ?_
  refine z_get (pc := 68) (index := 22) hx hb hts iwX10_layLaw_10 hown hI (ml_0 ad cy u8) rfl 12 (by decide) (by decide +kernel) rfl rfl dX10_layLaw_68 ?_
  refine lv_iload_n (pc := 71) hx hb dX10_layLaw_71 rfl (lv_at hl 2 rfl) ?_
  refine z_iald (pc := 72) hx hb hI (ml_5 ad cy u8) 0 rfl dX10_layLaw_72 hf (fun v9 hf => ?_)
  refine lv_i2l (pc := 73) hx hb dX10_layLaw_73 rfl ?_
  refine lv_lmul (pc := 74) hx hb dX10_layLaw_74 ?_
  refine lv_ladd (pc := 75) hx hb dX10_layLaw_75 ?_
  refine z_put (wf := WM ad cy) (pc := 76) (index := 187) hx hb hts iwX10_layLaw_10 tyX10 tyX10_ok nmX10 hown hI (ml_0 ad cy u8) rfl 24 (by decide) (by decide +kernel) rfl rfl rfl rfl (Nat.le_of_ble_eq_true rfl) dX10_layLaw_76 (mw_all ad cy u8 ((mg_all u8) + ((10 : Int64) * (v9.toInt64)))) hf (fun u10 H locs hI hf => ?_)
  refine lv_iinc (pc := 79) (v := (a.2.1 + (-1))) (lv' := [(3, .int (a.2.1 + (-1))), (2, .int v5), (0, .ref (ad 0))]) hx hb dX10_layLaw_79 hl (k := 2) rfl rfl (by decide) rfl (fun ls hl => ?_)
  refine lv_goto (pc := 82) (tgt := 14) hx hb dX10_layLaw_82 (by decide) ?_
  exact hL _ (Option.some.inj hf).symm _ _ _ hI (lv_sub hl [2, 1, 0] rfl)
set_option maxHeartbeats 4000000 in
set_option maxRecDepth 100000 in
theorem kX10_layLaw (l : Launch) (D : va_G) (ad : Nat → Nat) (cy : Nat → ClassId) (k : Nat) (a1 : Int32) (u : MX) (u' : MX) (hf : fX10_layLaw k a1 u = some u') : zCt l yX10_layLaw wsX10_layLaw ({ frames := 0, cells := 0, slots := 0, locals := 0 } : Room) D ad cy [.ref (ad 0), .int a1] (WM ad cy u) none (WM ad cy u') := by
  refine zCt.of (cc := cX10_layLaw) (maxL := 4) (ret := none) (own := RX10) (by decide) rfl rfl ?_
  intro p e s m below meth c A C0 hI
  obtain ⟨hx, hb, hml, hown, hts, hr, hlk⟩ := id C0
  refine z_entry (Nat.le_of_ble_eq_true rfl) (fun ls hl => ?_)
  have hl : lv_has ls 4 [(0, .ref (ad 0)), (1, .int a1)] := hl
  unfold fX10_layLaw at hf
  refine lv_iload_n (pc := 0) hx hb dX10_layLaw_0 rfl (lv_at hl 1 rfl) ?_
  refine lv_istore_n (pc := 1) (lv' := [(2, .int a1), (0, .ref (ad 0)), (1, .int a1)]) hx hb dX10_layLaw_1 rfl hl (by decide) rfl (fun ls hl => ?_)
  refine lv_aload_n (pc := 2) hx hb dX10_layLaw_2 rfl (lv_at hl 1 rfl) ?_
  refine lv_lconst (pc := 3) (v := 0) hx hb dX10_layLaw_3 (by decide) ?_
  refine z_put (wf := WM ad cy) (pc := 4) (index := 183) hx hb hts iwX10_layLaw_10 tyX10 tyX10_ok nmX10 hown hI (ml_0 ad cy u) rfl 23 (by decide) (by decide +kernel) rfl rfl rfl rfl (Nat.le_of_ble_eq_true rfl) dX10_layLaw_4 (mw_x ad cy u (0 : Int64)) hf (fun u1 H locs hI hf => ?_)
  refine lv_aload_n (pc := 7) hx hb dX10_layLaw_7 rfl (lv_at hl 1 rfl) ?_
  refine lv_lconst (pc := 8) (v := 0) hx hb dX10_layLaw_8 (by decide) ?_
  refine z_put (wf := WM ad cy) (pc := 9) (index := 187) hx hb hts iwX10_layLaw_10 tyX10 tyX10_ok nmX10 hown hI (ml_0 ad cy u1) rfl 24 (by decide) (by decide +kernel) rfl rfl rfl rfl (Nat.le_of_ble_eq_true rfl) dX10_layLaw_9 (mw_all ad cy u1 (0 : Int64)) hf (fun u2 H locs hI hf => ?_)
  refine lv_iconst (pc := 12) (v := 3) hx hb dX10_layLaw_12 (by decide) ?_
  refine lv_istore_n (pc := 13) (lv' := [(3, .int (3 : Int32)), (2, .int a1), (0, .ref (ad 0)), (1, .int a1)]) hx hb dX10_layLaw_13 rfl hl (by decide) rfl (fun ls hl => ?_)
  obtain ⟨b11, hb12, hf⟩ := zbind hf
  refine lX10_layLaw_14 C0 hb12 ?_ _ _ _ hI (lv_sub hl [2, 1, 0] rfl)
  intro H locs ls hI hl
  refine lv_aload_n (pc := 85) hx hb dX10_layLaw_85 rfl (lv_at hl 0 rfl) ?_
  refine lv_aload_n (pc := 86) hx hb dX10_layLaw_86 rfl (lv_at hl 0 rfl) ?_
  refine z_get (pc := 87) (index := 22) hx hb hts iwX10_layLaw_10 hown hI (ml_0 ad cy b11) rfl 12 (by decide) (by decide +kernel) rfl rfl dX10_layLaw_87 ?_
  refine lv_bipush (pc := 90) (v := 12) hx hb dX10_layLaw_90 (by decide) ?_
  refine z_iald (pc := 92) hx hb hI (ml_5 ad cy b11) 0 rfl dX10_layLaw_92 hf (fun v13 hf => ?_)
  refine lv_aload_n (pc := 93) hx hb dX10_layLaw_93 rfl (lv_at hl 0 rfl) ?_
  refine z_get (pc := 94) (index := 22) hx hb hts iwX10_layLaw_10 hown hI (ml_0 ad cy b11) rfl 12 (by decide) (by decide +kernel) rfl rfl dX10_layLaw_94 ?_
  refine lv_bipush (pc := 97) (v := 13) hx hb dX10_layLaw_97 (by decide) ?_
  refine z_iald (pc := 99) hx hb hI (ml_5 ad cy b11) 0 rfl dX10_layLaw_99 hf (fun v14 hf => ?_)
  refine lv_iadd (pc := 100) hx hb dX10_layLaw_100 ?_
  refine lv_aload_n (pc := 101) hx hb dX10_layLaw_101 rfl (lv_at hl 0 rfl) ?_
  refine z_get (pc := 102) (index := 22) hx hb hts iwX10_layLaw_10 hown hI (ml_0 ad cy b11) rfl 12 (by decide) (by decide +kernel) rfl rfl dX10_layLaw_102 ?_
  refine lv_bipush (pc := 105) (v := 14) hx hb dX10_layLaw_105 (by decide) ?_
  refine z_iald (pc := 107) hx hb hI (ml_5 ad cy b11) 0 rfl dX10_layLaw_107 hf (fun v15 hf => ?_)
  refine lv_iadd (pc := 108) hx hb dX10_layLaw_108 ?_
  refine lv_aload_n (pc := 109) hx hb dX10_layLaw_109 rfl (lv_at hl 0 rfl) ?_
  refine z_get (pc := 110) (index := 22) hx hb hts iwX10_layLaw_10 hown hI (ml_0 ad cy b11) rfl 12 (by decide) (by decide +kernel) rfl rfl dX10_layLaw_110 ?_
  refine lv_bipush (pc := 113) (v := 15) hx hb dX10_layLaw_113 (by decide) ?_
  refine z_iald (pc := 115) hx hb hI (ml_5 ad cy b11) 0 rfl dX10_layLaw_115 hf (fun v16 hf => ?_)
  refine lv_iadd (pc := 116) hx hb dX10_layLaw_116 ?_
  refine lv_i2l (pc := 117) hx hb dX10_layLaw_117 rfl ?_
  refine z_put (wf := WM ad cy) (pc := 118) (index := 192) hx hb hts iwX10_layLaw_10 tyX10 tyX10_ok nmX10 hown hI (ml_0 ad cy b11) rfl 25 (by decide) (by decide +kernel) rfl rfl rfl rfl (Nat.le_of_ble_eq_true rfl) dX10_layLaw_118 (mw_hits ad cy b11 ((((v13 + v14) + v15) + v16).toInt64)) hf (fun u17 H locs hI hf => ?_)
  obtain rfl := zone hf
  exact z_vret (pc := 121) C0 hI dX10_layLaw_121
set_option maxHeartbeats 4000000 in
set_option maxRecDepth 100000 in
theorem lX10_power_5 (C0 : zFix p m c cX10_power 6 s args wsX10_power RX10 meth (some .long)) {k : Nat} {p0 : Int64} {p2 : Int32} {a : Int64 × Int32} {b : Int64} (hit : ziter (bX10_power_5 k p0 p2) k a = some b) (hx9 : (fun (b : Int64) => ∀ (ls : Array Slot), lv_has ls 6 [(3, .long b)] → W p l e ({ frames := 0, cells := 0, slots := 0, locals := 0 } : Room) s m args below meth c s.heap [] 0 0 Q (F0 m 21 ls [])) b) : (fun (a : Int64 × Int32) => ∀ (ls : Array Slot), lv_has ls 6 [(0, .long p0), (2, .int p2), (3, .long a.1), (5, .int a.2)] → W p l e ({ frames := 0, cells := 0, slots := 0, locals := 0 } : Room) s m args below meth c s.heap [] 0 0 Q (F0 m 5 ls [])) a := by
  obtain ⟨hx, hb, hml, hown, hts, hr, hlk⟩ := id C0
  refine zloop (Wh := (fun (a : Int64 × Int32) => ∀ (ls : Array Slot), lv_has ls 6 [(0, .long p0), (2, .int p2), (3, .long a.1), (5, .int a.2)] → W p l e ({ frames := 0, cells := 0, slots := 0, locals := 0 } : Room) s m args below meth c s.heap [] 0 0 Q (F0 m 5 ls []))) (Wx := (fun (b : Int64) => ∀ (ls : Array Slot), lv_has ls 6 [(3, .long b)] → W p l e ({ frames := 0, cells := 0, slots := 0, locals := 0 } : Room) s m args below meth c s.heap [] 0 0 Q (F0 m 21 ls []))) ?_ _ a b hit hx9
  intro a x hf hL hX ls hl
  unfold bX10_power_5 at hf
  refine lv_iload (pc := 5) hx hb dX10_power_5 (lv_at hl 3 rfl) ?_
  refine lv_iload_n (pc := 7) hx hb dX10_power_7 rfl (lv_at hl 1 rfl) ?_
  refine z_icmp_ge (pc := 8) (tgt := 21) hx hb dX10_power_8 (by decide) hf (fun hf => ?_) (fun hf => ?_)
  · exact (hX _ (Option.some.inj hf).symm) _ (lv_sub hl [2] rfl)
  refine lv_lload_n (pc := 11) hx hb dX10_power_11 rfl (lv_at hl 2 rfl) ?_
  refine lv_lload_n (pc := 12) hx hb dX10_power_12 rfl (lv_at hl 0 rfl) ?_
  refine lv_lmul (pc := 13) hx hb dX10_power_13 ?_
  refine z_bl hf (fun v1 hf => ?_)
  refine lv_lstore_n (pc := 14) (lv' := [(3, .long v1), (0, .long p0), (2, .int p2), (5, .int a.2)]) hx hb dX10_power_14 rfl hl (by decide) rfl (fun ls hl => ?_)
  refine lv_iinc (pc := 15) (v := (a.2 + 1)) (lv' := [(5, .int (a.2 + 1)), (3, .long v1), (0, .long p0), (2, .int p2)]) hx hb dX10_power_15 hl (k := 3) rfl rfl (by decide) rfl (fun ls hl => ?_)
  refine lv_goto (pc := 18) (tgt := 5) hx hb dX10_power_18 (by decide) ?_
  exact hL _ (Option.some.inj hf).symm _ (lv_sub hl [2, 3, 1, 0] rfl)
set_option maxHeartbeats 4000000 in
set_option maxRecDepth 100000 in
theorem kX10_power (l : Launch) (k : Nat) (a1 : Int64) (a2 : Int32) (r : Int64) (hf : fX10_power k a1 a2 = some r) : zSt l yX10_power wsX10_power ({ frames := 0, cells := 0, slots := 0, locals := 0 } : Room) [.long a1, .int a2] (some (.long r)) := by
  refine zSt.of (cc := cX10_power) (maxL := 6) (ret := (some .long)) (own := RX10) (by decide) rfl rfl ?_
  intro p e s m below meth c C0
  obtain ⟨hx, hb, hml, hown, hts, hr, hlk⟩ := id C0
  refine z_entry (Nat.le_of_ble_eq_true rfl) (fun ls hl => ?_)
  have hl : lv_has ls 6 [(0, .long a1), (2, .int a2)] := hl
  unfold fX10_power at hf
  refine lv_lconst (pc := 0) (v := 1) hx hb dX10_power_0 (by decide) ?_
  refine lv_lstore_n (pc := 1) (lv' := [(3, .long (1 : Int64)), (0, .long a1), (2, .int a2)]) hx hb dX10_power_1 rfl hl (by decide) rfl (fun ls hl => ?_)
  refine lv_iconst (pc := 2) (v := 0) hx hb dX10_power_2 (by decide) ?_
  refine lv_istore (pc := 3) (lv' := [(5, .int (0 : Int32)), (3, .long (1 : Int64)), (0, .long a1), (2, .int a2)]) hx hb dX10_power_3 hl (by decide) rfl (fun ls hl => ?_)
  obtain ⟨b2, hb3, hf⟩ := zbind hf
  refine lX10_power_5 C0 hb3 ?_ _ (lv_sub hl [2, 3, 1, 0] rfl)
  intro ls hl
  refine lv_lload_n (pc := 21) hx hb dX10_power_21 rfl (lv_at hl 0 rfl) ?_
  obtain rfl := zone hf
  exact z_slret (pc := 22) C0 dX10_power_22
set_option maxHeartbeats 4000000 in
set_option maxRecDepth 100000 in
theorem kX10_whole (l : Launch) (D : va_G) (ad : Nat → Nat) (cy : Nat → ClassId) (k : Nat) (u : MX) (r : Int64) (hf : fX10_whole k u = some r) : zCt l yX10_whole wsX10_whole ({ frames := 1, cells := 0, slots := 0, locals := 25 } : Room) D ad cy [.ref (ad 0)] (WM ad cy u) (some (.long r)) (WM ad cy u) := by
  refine zCt.of (cc := cX10_whole) (maxL := 1) (ret := (some .long)) (own := RX10) (by decide) rfl rfl ?_
  intro p e s m below meth c A C0 hI
  obtain ⟨hx, hb, hml, hown, hts, hr, hlk⟩ := id C0
  refine z_entry (Nat.le_of_ble_eq_true rfl) (fun ls hl => ?_)
  have hl : lv_has ls 1 [(0, .ref (ad 0))] := hl
  unfold fX10_whole at hf
  refine lv_aload_n (pc := 0) hx hb dX10_whole_0 rfl (lv_at hl 0 rfl) ?_
  refine z_get (pc := 1) (index := 192) hx hb hts iwX10_whole_10 hown hI (ml_0 ad cy u) rfl 25 (by decide) (by decide +kernel) rfl rfl dX10_whole_1 ?_
  refine lv_aload_n (pc := 4) hx hb dX10_whole_4 rfl (lv_at hl 0 rfl) ?_
  refine z_get (pc := 5) (index := 187) hx hb hts iwX10_whole_10 hown hI (ml_0 ad cy u) rfl 24 (by decide) (by decide +kernel) rfl rfl dX10_whole_5 ?_
  refine lv_iconst (pc := 8) (v := 3) hx hb dX10_whole_8 (by decide) ?_
  obtain ⟨q2, hc1, hf⟩ := zbind hf
  refine zcallSl (pc := 9) (As := [.long (mg_all u), .int (3 : Int32)]) (rest := [.long (mg_hits u)]) ⟨hx, hb, hml, hown, hts⟩ (kX10_power l k (mg_all u) (3 : Int32) q2 hc1) (va_cwS 2 hts gX10_whole_X10_power rfl rfl rfl (by decide +kernel) ⟨Nat.le_of_ble_eq_true rfl, Nat.le_of_ble_eq_true rfl⟩) rfl hl.1 rfl (Nat.le_of_ble_eq_true rfl) dX10_whole_9 (Nat.zero_le _) (Nat.zero_le _) ?_
  refine lv_lmul (pc := 12) hx hb dX10_whole_12 ?_
  refine lv_ldc2 (pc := 13) (v := 1000) hx hb hown (hts (.constantLong RX10 199 (1000)) (by decide +kernel)) dX10_whole_13 ?_
  refine lv_lmul (pc := 16) hx hb dX10_whole_16 ?_
  obtain rfl := zone hf
  exact z_lret (pc := 17) C0 hI dX10_whole_17
set_option maxHeartbeats 4000000 in
set_option maxRecDepth 100000 in
theorem kX10_shareUp (l : Launch) (D : va_G) (ad : Nat → Nat) (cy : Nat → ClassId) (k : Nat) (a1 : Int32) (u : MX) (r : Int64) (hf : fX10_shareUp k a1 u = some r) : zCt l yX10_shareUp wsX10_shareUp ({ frames := 1, cells := 0, slots := 0, locals := 25 } : Room) D ad cy [.ref (ad 0), .int a1] (WM ad cy u) (some (.long r)) (WM ad cy u) := by
  refine zCt.of (cc := cX10_shareUp) (maxL := 2) (ret := (some .long)) (own := RX10) (by decide) rfl rfl ?_
  intro p e s m below meth c A C0 hI
  obtain ⟨hx, hb, hml, hown, hts, hr, hlk⟩ := id C0
  refine z_entry (Nat.le_of_ble_eq_true rfl) (fun ls hl => ?_)
  have hl : lv_has ls 2 [(0, .ref (ad 0)), (1, .int a1)] := hl
  unfold fX10_shareUp at hf
  refine lv_aload_n (pc := 0) hx hb dX10_shareUp_0 rfl (lv_at hl 0 rfl) ?_
  refine z_get (pc := 1) (index := 22) hx hb hts iwX10_shareUp_10 hown hI (ml_0 ad cy u) rfl 12 (by decide) (by decide +kernel) rfl rfl dX10_shareUp_1 ?_
  refine lv_bipush (pc := 4) (v := 12) hx hb dX10_shareUp_4 (by decide) ?_
  refine lv_iload_n (pc := 6) hx hb dX10_shareUp_6 rfl (lv_at hl 1 rfl) ?_
  refine lv_iadd (pc := 7) hx hb dX10_shareUp_7 ?_
  refine z_iald (pc := 8) hx hb hI (ml_5 ad cy u) 0 rfl dX10_shareUp_8 hf (fun v1 hf => ?_)
  refine lv_i2l (pc := 9) hx hb dX10_shareUp_9 rfl ?_
  refine lv_aload_n (pc := 10) hx hb dX10_shareUp_10 rfl (lv_at hl 0 rfl) ?_
  refine z_get (pc := 11) (index := 183) hx hb hts iwX10_shareUp_10 hown hI (ml_0 ad cy u) rfl 23 (by decide) (by decide +kernel) rfl rfl dX10_shareUp_11 ?_
  refine lv_iload_n (pc := 14) hx hb dX10_shareUp_14 rfl (lv_at hl 1 rfl) ?_
  obtain ⟨q3, hc2, hf⟩ := zbind hf
  refine zcallSl (pc := 15) (As := [.long (mg_x u), .int a1]) (rest := [.long (v1.toInt64)]) ⟨hx, hb, hml, hown, hts⟩ (kX10_power l k (mg_x u) a1 q3 hc2) (va_cwS 2 hts gX10_shareUp_X10_power rfl rfl rfl (by decide +kernel) ⟨Nat.le_of_ble_eq_true rfl, Nat.le_of_ble_eq_true rfl⟩) rfl hl.1 rfl (Nat.le_of_ble_eq_true rfl) dX10_shareUp_15 (Nat.zero_le _) (Nat.zero_le _) ?_
  refine lv_lmul (pc := 18) hx hb dX10_shareUp_18 ?_
  refine lv_aload_n (pc := 19) hx hb dX10_shareUp_19 rfl (lv_at hl 0 rfl) ?_
  refine z_get (pc := 20) (index := 187) hx hb hts iwX10_shareUp_10 hown hI (ml_0 ad cy u) rfl 24 (by decide) (by decide +kernel) rfl rfl dX10_shareUp_20 ?_
  refine lv_iconst (pc := 23) (v := 3) hx hb dX10_shareUp_23 (by decide) ?_
  refine lv_iload_n (pc := 24) hx hb dX10_shareUp_24 rfl (lv_at hl 1 rfl) ?_
  refine lv_isub (pc := 25) hx hb dX10_shareUp_25 ?_
  obtain ⟨q5, hc4, hf⟩ := zbind hf
  refine zcallSl (pc := 26) (As := [.long (mg_all u), .int ((3 : Int32) - a1)]) (rest := [.long ((v1.toInt64) * q3)]) ⟨hx, hb, hml, hown, hts⟩ (kX10_power l k (mg_all u) ((3 : Int32) - a1) q5 hc4) (va_cwS 2 hts gX10_shareUp_X10_power rfl rfl rfl (by decide +kernel) ⟨Nat.le_of_ble_eq_true rfl, Nat.le_of_ble_eq_true rfl⟩) rfl hl.1 rfl (Nat.le_of_ble_eq_true rfl) dX10_shareUp_26 (Nat.zero_le _) (Nat.zero_le _) ?_
  refine lv_lmul (pc := 29) hx hb dX10_shareUp_29 ?_
  refine lv_ldc2 (pc := 30) (v := 1000) hx hb hown (hts (.constantLong RX10 199 (1000)) (by decide +kernel)) dX10_shareUp_30 ?_
  refine lv_aload_n (pc := 33) hx hb dX10_shareUp_33 rfl (lv_at hl 0 rfl) ?_
  refine z_get (pc := 34) (index := 22) hx hb hts iwX10_shareUp_10 hown hI (ml_0 ad cy u) rfl 12 (by decide) (by decide +kernel) rfl rfl dX10_shareUp_34 ?_
  refine lv_bipush (pc := 37) (v := 16) hx hb dX10_shareUp_37 (by decide) ?_
  refine z_iald (pc := 39) hx hb hI (ml_5 ad cy u) 0 rfl dX10_shareUp_39 hf (fun v6 hf => ?_)
  refine lv_i2l (pc := 40) hx hb dX10_shareUp_40 rfl ?_
  refine lv_lsub (pc := 41) hx hb dX10_shareUp_41 ?_
  refine lv_lmul (pc := 42) hx hb dX10_shareUp_42 ?_
  obtain rfl := zone hf
  exact z_lret (pc := 43) C0 hI dX10_shareUp_43
set_option maxHeartbeats 4000000 in
set_option maxRecDepth 100000 in
theorem lX10_holesUp_5 (C0 : zFix p m c cX10_holesUp 5 s args wsX10_holesUp RX10 meth (some .long)) {k : Nat} {p1 : Int32} {u : MX} {a : Int64 × Int32} {b : Int64} (hit : ziter (bX10_holesUp_5 k p1 u) k a = some b) (hx9 : (fun (b : Int64) => ∀ (H : Heap) (locs : List Loc) (ls : Array Slot), zIn D ad cy (WM ad cy u) A s H locs → lv_has ls 5 [(0, .ref (ad 0)), (2, .long b)] → W p l e ({ frames := 1, cells := 0, slots := 0, locals := 25 } : Room) s m args below meth c H locs 0 0 Q (F0 m 78 ls [])) b) : (fun (a : Int64 × Int32) => ∀ (H : Heap) (locs : List Loc) (ls : Array Slot), zIn D ad cy (WM ad cy u) A s H locs → lv_has ls 5 [(0, .ref (ad 0)), (1, .int p1), (2, .long a.1), (4, .int a.2)] → W p l e ({ frames := 1, cells := 0, slots := 0, locals := 25 } : Room) s m args below meth c H locs 0 0 Q (F0 m 5 ls [])) a := by
  obtain ⟨hx, hb, hml, hown, hts, hr, hlk⟩ := id C0
  refine zloop (Wh := (fun (a : Int64 × Int32) => ∀ (H : Heap) (locs : List Loc) (ls : Array Slot), zIn D ad cy (WM ad cy u) A s H locs → lv_has ls 5 [(0, .ref (ad 0)), (1, .int p1), (2, .long a.1), (4, .int a.2)] → W p l e ({ frames := 1, cells := 0, slots := 0, locals := 25 } : Room) s m args below meth c H locs 0 0 Q (F0 m 5 ls []))) (Wx := (fun (b : Int64) => ∀ (H : Heap) (locs : List Loc) (ls : Array Slot), zIn D ad cy (WM ad cy u) A s H locs → lv_has ls 5 [(0, .ref (ad 0)), (2, .long b)] → W p l e ({ frames := 1, cells := 0, slots := 0, locals := 25 } : Room) s m args below meth c H locs 0 0 Q (F0 m 78 ls []))) ?_ _ a b hit hx9
  intro a x hf hL hX H locs ls hI hl
  unfold bX10_holesUp_5 at hf
  refine lv_iload (pc := 5) hx hb dX10_holesUp_5 (lv_at hl 3 rfl) ?_
  refine lv_iconst (pc := 7) (v := 3) hx hb dX10_holesUp_7 (by decide) ?_
  refine z_icmp_gt (pc := 8) (tgt := 78) hx hb dX10_holesUp_8 (by decide) hf (fun hf => ?_) (fun hf => ?_)
  · exact (hX _ (Option.some.inj hf).symm) _ _ _ hI (lv_sub hl [0, 2] rfl)
  refine lv_lload_n (pc := 11) hx hb dX10_holesUp_11 rfl (lv_at hl 2 rfl) ?_
  refine lv_aload_n (pc := 12) hx hb dX10_holesUp_12 rfl (lv_at hl 0 rfl) ?_
  refine z_get (pc := 13) (index := 22) hx hb hts iwX10_holesUp_10 hown hI (ml_0 ad cy u) rfl 12 (by decide) (by decide +kernel) rfl rfl dX10_holesUp_13 ?_
  refine lv_bipush (pc := 16) (v := 12) hx hb dX10_holesUp_16 (by decide) ?_
  refine lv_iload (pc := 18) hx hb dX10_holesUp_18 (lv_at hl 3 rfl) ?_
  refine lv_iadd (pc := 20) hx hb dX10_holesUp_20 ?_
  refine z_iald (pc := 21) hx hb hI (ml_5 ad cy u) 0 rfl dX10_holesUp_21 hf (fun v1 hf => ?_)
  refine lv_i2l (pc := 22) hx hb dX10_holesUp_22 rfl ?_
  refine lv_iload (pc := 23) hx hb dX10_holesUp_23 (lv_at hl 3 rfl) ?_
  refine lv_i2l (pc := 25) hx hb dX10_holesUp_25 rfl ?_
  refine lv_lmul (pc := 26) hx hb dX10_holesUp_26 ?_
  refine lv_aload_n (pc := 27) hx hb dX10_holesUp_27 rfl (lv_at hl 0 rfl) ?_
  refine z_get (pc := 28) (index := 22) hx hb hts iwX10_holesUp_10 hown hI (ml_0 ad cy u) rfl 12 (by decide) (by decide +kernel) rfl rfl dX10_holesUp_28 ?_
  refine lv_iload_n (pc := 31) hx hb dX10_holesUp_31 rfl (lv_at hl 1 rfl) ?_
  refine z_iald (pc := 32) hx hb hI (ml_5 ad cy u) 0 rfl dX10_holesUp_32 hf (fun v2 hf => ?_)
  refine lv_i2l (pc := 33) hx hb dX10_holesUp_33 rfl ?_
  refine lv_lmul (pc := 34) hx hb dX10_holesUp_34 ?_
  refine lv_bipush (pc := 35) (v := 10) hx hb dX10_holesUp_35 (by decide) ?_
  refine lv_aload_n (pc := 37) hx hb dX10_holesUp_37 rfl (lv_at hl 0 rfl) ?_
  refine z_get (pc := 38) (index := 44) hx hb hts iwX10_holesUp_10 hown hI (ml_0 ad cy u) rfl 22 (by decide) (by decide +kernel) rfl rfl dX10_holesUp_38 ?_
  refine lv_iload_n (pc := 41) hx hb dX10_holesUp_41 rfl (lv_at hl 1 rfl) ?_
  refine z_iald (pc := 42) hx hb hI (ml_12 ad cy u) 0 rfl dX10_holesUp_42 hf (fun v3 hf => ?_)
  refine lv_isub (pc := 43) hx hb dX10_holesUp_43 ?_
  refine lv_i2l (pc := 44) hx hb dX10_holesUp_44 rfl ?_
  refine lv_lmul (pc := 45) hx hb dX10_holesUp_45 ?_
  refine lv_aload_n (pc := 46) hx hb dX10_holesUp_46 rfl (lv_at hl 0 rfl) ?_
  refine z_get (pc := 47) (index := 183) hx hb hts iwX10_holesUp_10 hown hI (ml_0 ad cy u) rfl 23 (by decide) (by decide +kernel) rfl rfl dX10_holesUp_47 ?_
  refine lv_iload (pc := 50) hx hb dX10_holesUp_50 (lv_at hl 3 rfl) ?_
  refine lv_iconst (pc := 52) (v := 1) hx hb dX10_holesUp_52 (by decide) ?_
  refine lv_isub (pc := 53) hx hb dX10_holesUp_53 ?_
  obtain ⟨q5, hc4, hf⟩ := zbind hf
  refine zcallSl (pc := 54) (As := [.long (mg_x u), .int (a.2 - (1 : Int32))]) (rest := [.long ((((v1.toInt64) * (a.2.toInt64)) * (v2.toInt64)) * (((10 : Int32) - v3).toInt64)), .long a.1]) ⟨hx, hb, hml, hown, hts⟩ (kX10_power l k (mg_x u) (a.2 - (1 : Int32)) q5 hc4) (va_cwS 2 hts gX10_holesUp_X10_power rfl rfl rfl (by decide +kernel) ⟨Nat.le_of_ble_eq_true rfl, Nat.le_of_ble_eq_true rfl⟩) rfl hl.1 rfl (Nat.le_of_ble_eq_true rfl) dX10_holesUp_54 (Nat.zero_le _) (Nat.zero_le _) ?_
  refine lv_lmul (pc := 57) hx hb dX10_holesUp_57 ?_
  refine lv_aload_n (pc := 58) hx hb dX10_holesUp_58 rfl (lv_at hl 0 rfl) ?_
  refine z_get (pc := 59) (index := 187) hx hb hts iwX10_holesUp_10 hown hI (ml_0 ad cy u) rfl 24 (by decide) (by decide +kernel) rfl rfl dX10_holesUp_59 ?_
  refine lv_iconst (pc := 62) (v := 3) hx hb dX10_holesUp_62 (by decide) ?_
  refine lv_iload (pc := 63) hx hb dX10_holesUp_63 (lv_at hl 3 rfl) ?_
  refine lv_isub (pc := 65) hx hb dX10_holesUp_65 ?_
  obtain ⟨q7, hc6, hf⟩ := zbind hf
  refine zcallSl (pc := 66) (As := [.long (mg_all u), .int ((3 : Int32) - a.2)]) (rest := [.long (((((v1.toInt64) * (a.2.toInt64)) * (v2.toInt64)) * (((10 : Int32) - v3).toInt64)) * q5), .long a.1]) ⟨hx, hb, hml, hown, hts⟩ (kX10_power l k (mg_all u) ((3 : Int32) - a.2) q7 hc6) (va_cwS 2 hts gX10_holesUp_X10_power rfl rfl rfl (by decide +kernel) ⟨Nat.le_of_ble_eq_true rfl, Nat.le_of_ble_eq_true rfl⟩) rfl hl.1 rfl (Nat.le_of_ble_eq_true rfl) dX10_holesUp_66 (Nat.zero_le _) (Nat.zero_le _) ?_
  refine lv_lmul (pc := 69) hx hb dX10_holesUp_69 ?_
  refine lv_ladd (pc := 70) hx hb dX10_holesUp_70 ?_
  refine z_bl hf (fun v8 hf => ?_)
  refine lv_lstore_n (pc := 71) (lv' := [(2, .long v8), (0, .ref (ad 0)), (1, .int p1), (4, .int a.2)]) hx hb dX10_holesUp_71 rfl hl (by decide) rfl (fun ls hl => ?_)
  refine lv_iinc (pc := 72) (v := (a.2 + 1)) (lv' := [(4, .int (a.2 + 1)), (2, .long v8), (0, .ref (ad 0)), (1, .int p1)]) hx hb dX10_holesUp_72 hl (k := 3) rfl rfl (by decide) rfl (fun ls hl => ?_)
  refine lv_goto (pc := 75) (tgt := 5) hx hb dX10_holesUp_75 (by decide) ?_
  exact hL _ (Option.some.inj hf).symm _ _ _ hI (lv_sub hl [2, 3, 1, 0] rfl)
set_option maxHeartbeats 4000000 in
set_option maxRecDepth 100000 in
theorem kX10_holesUp (l : Launch) (D : va_G) (ad : Nat → Nat) (cy : Nat → ClassId) (k : Nat) (a1 : Int32) (u : MX) (r : Int64) (hf : fX10_holesUp k a1 u = some r) : zCt l yX10_holesUp wsX10_holesUp ({ frames := 1, cells := 0, slots := 0, locals := 25 } : Room) D ad cy [.ref (ad 0), .int a1] (WM ad cy u) (some (.long r)) (WM ad cy u) := by
  refine zCt.of (cc := cX10_holesUp) (maxL := 5) (ret := (some .long)) (own := RX10) (by decide) rfl rfl ?_
  intro p e s m below meth c A C0 hI
  obtain ⟨hx, hb, hml, hown, hts, hr, hlk⟩ := id C0
  refine z_entry (Nat.le_of_ble_eq_true rfl) (fun ls hl => ?_)
  have hl : lv_has ls 5 [(0, .ref (ad 0)), (1, .int a1)] := hl
  unfold fX10_holesUp at hf
  refine lv_lconst (pc := 0) (v := 0) hx hb dX10_holesUp_0 (by decide) ?_
  refine lv_lstore_n (pc := 1) (lv' := [(2, .long (0 : Int64)), (0, .ref (ad 0)), (1, .int a1)]) hx hb dX10_holesUp_1 rfl hl (by decide) rfl (fun ls hl => ?_)
  refine lv_iconst (pc := 2) (v := 1) hx hb dX10_holesUp_2 (by decide) ?_
  refine lv_istore (pc := 3) (lv' := [(4, .int (1 : Int32)), (2, .long (0 : Int64)), (0, .ref (ad 0)), (1, .int a1)]) hx hb dX10_holesUp_3 hl (by decide) rfl (fun ls hl => ?_)
  obtain ⟨b9, hb10, hf⟩ := zbind hf
  refine lX10_holesUp_5 C0 hb10 ?_ _ _ _ hI (lv_sub hl [2, 3, 1, 0] rfl)
  intro H locs ls hI hl
  refine lv_lload_n (pc := 78) hx hb dX10_holesUp_78 rfl (lv_at hl 1 rfl) ?_
  refine lv_ldc2 (pc := 79) (v := 1000) hx hb hown (hts (.constantLong RX10 199 (1000)) (by decide +kernel)) dX10_holesUp_79 ?_
  refine lv_aload_n (pc := 82) hx hb dX10_holesUp_82 rfl (lv_at hl 0 rfl) ?_
  refine z_get (pc := 83) (index := 22) hx hb hts iwX10_holesUp_10 hown hI (ml_0 ad cy u) rfl 12 (by decide) (by decide +kernel) rfl rfl dX10_holesUp_83 ?_
  refine lv_bipush (pc := 86) (v := 16) hx hb dX10_holesUp_86 (by decide) ?_
  refine z_iald (pc := 88) hx hb hI (ml_5 ad cy u) 0 rfl dX10_holesUp_88 hf (fun v11 hf => ?_)
  refine lv_i2l (pc := 89) hx hb dX10_holesUp_89 rfl ?_
  refine lv_lsub (pc := 90) hx hb dX10_holesUp_90 ?_
  refine lv_lmul (pc := 91) hx hb dX10_holesUp_91 ?_
  obtain rfl := zone hf
  exact z_lret (pc := 92) C0 hI dX10_holesUp_92
set_option maxHeartbeats 4000000 in
set_option maxRecDepth 100000 in
theorem lX10_lowest_6 (C0 : zFix p m c cX10_lowest 11 s args wsX10_lowest RX10 meth (some .long)) {k : Nat} {p0 : Int64} {p2 : Int64} {p4 : Int32} {a : Int64 × Int64} {b : Int64} (hit : ziter (bX10_lowest_6 k p0 p2 p4) k a = some b) (hx9 : (fun (b : Int64) => ∀ (ls : Array Slot), lv_has ls 11 [(0, .long p0), (2, .long p2), (4, .int p4), (5, .long b)] → W p l e ({ frames := 0, cells := 0, slots := 0, locals := 0 } : Room) s m args below meth c s.heap [] 0 0 Q (F0 m 31 ls [])) b) : (fun (a : Int64 × Int64) => ∀ (ls : Array Slot), lv_has ls 11 [(0, .long p0), (2, .long p2), (4, .int p4), (5, .long a.1), (7, .long a.2)] → W p l e ({ frames := 0, cells := 0, slots := 0, locals := 0 } : Room) s m args below meth c s.heap [] 0 0 Q (F0 m 6 ls [])) a := by
  obtain ⟨hx, hb, hml, hown, hts, hr, hlk⟩ := id C0
  refine zloop (Wh := (fun (a : Int64 × Int64) => ∀ (ls : Array Slot), lv_has ls 11 [(0, .long p0), (2, .long p2), (4, .int p4), (5, .long a.1), (7, .long a.2)] → W p l e ({ frames := 0, cells := 0, slots := 0, locals := 0 } : Room) s m args below meth c s.heap [] 0 0 Q (F0 m 6 ls []))) (Wx := (fun (b : Int64) => ∀ (ls : Array Slot), lv_has ls 11 [(0, .long p0), (2, .long p2), (4, .int p4), (5, .long b)] → W p l e ({ frames := 0, cells := 0, slots := 0, locals := 0 } : Room) s m args below meth c s.heap [] 0 0 Q (F0 m 31 ls []))) ?_ _ a b hit hx9
  intro a x hf hL hX ls hl
  unfold bX10_lowest_6 at hf
  refine lv_lload (pc := 6) hx hb dX10_lowest_6 (lv_at hl 4 rfl) ?_
  refine lv_lconst (pc := 8) (v := 0) hx hb dX10_lowest_8 (by decide) ?_
  refine z_lc_eq (pc := 9) (tgt := 31) hx hb dX10_lowest_9 dX10_lowest_10 (by decide) hf (fun hf => ?_) (fun hf => ?_)
  · exact (hX _ (Option.some.inj hf).symm) _ (lv_sub hl [0, 1, 2, 3] rfl)
  refine lv_lload (pc := 13) hx hb dX10_lowest_13 (lv_at hl 3 rfl) ?_
  refine lv_lload (pc := 15) hx hb dX10_lowest_15 (lv_at hl 4 rfl) ?_
  refine z_lrem (pc := 17) hx hb dX10_lowest_17 hf (fun hf => ?_)
  refine z_bl hf (fun v1 hf => ?_)
  refine lv_lstore (pc := 18) (lv' := [(9, .long v1), (0, .long p0), (2, .long p2), (4, .int p4), (5, .long a.1), (7, .long a.2)]) hx hb dX10_lowest_18 hl (by decide) rfl (fun ls hl => ?_)
  refine lv_lload (pc := 20) hx hb dX10_lowest_20 (lv_at hl 5 rfl) ?_
  refine lv_lstore (pc := 22) (lv' := [(5, .long a.2), (9, .long v1), (0, .long p0), (2, .long p2), (4, .int p4), (7, .long a.2)]) hx hb dX10_lowest_22 hl (by decide) rfl (fun ls hl => ?_)
  refine lv_lload (pc := 24) hx hb dX10_lowest_24 (lv_at hl 1 rfl) ?_
  refine lv_lstore (pc := 26) (lv' := [(7, .long v1), (5, .long a.2), (9, .long v1), (0, .long p0), (2, .long p2), (4, .int p4)]) hx hb dX10_lowest_26 hl (by decide) rfl (fun ls hl => ?_)
  refine lv_goto (pc := 28) (tgt := 6) hx hb dX10_lowest_28 (by decide) ?_
  exact hL _ (Option.some.inj hf).symm _ (lv_sub hl [3, 4, 5, 1, 0] rfl)
set_option maxHeartbeats 4000000 in
set_option maxRecDepth 100000 in
theorem kX10_lowest (l : Launch) (k : Nat) (a1 : Int64) (a2 : Int64) (a3 : Int32) (r : Int64) (hf : fX10_lowest k a1 a2 a3 = some r) : zSt l yX10_lowest wsX10_lowest ({ frames := 0, cells := 0, slots := 0, locals := 0 } : Room) [.long a1, .long a2, .int a3] (some (.long r)) := by
  refine zSt.of (cc := cX10_lowest) (maxL := 11) (ret := (some .long)) (own := RX10) (by decide) rfl rfl ?_
  intro p e s m below meth c C0
  obtain ⟨hx, hb, hml, hown, hts, hr, hlk⟩ := id C0
  refine z_entry (Nat.le_of_ble_eq_true rfl) (fun ls hl => ?_)
  have hl : lv_has ls 11 [(0, .long a1), (2, .long a2), (4, .int a3)] := hl
  unfold fX10_lowest at hf
  refine lv_lload_n (pc := 0) hx hb dX10_lowest_0 rfl (lv_at hl 0 rfl) ?_
  refine lv_lstore (pc := 1) (lv' := [(5, .long a1), (0, .long a1), (2, .long a2), (4, .int a3)]) hx hb dX10_lowest_1 hl (by decide) rfl (fun ls hl => ?_)
  refine lv_lload_n (pc := 3) hx hb dX10_lowest_3 rfl (lv_at hl 2 rfl) ?_
  refine lv_lstore (pc := 4) (lv' := [(7, .long a2), (5, .long a1), (0, .long a1), (2, .long a2), (4, .int a3)]) hx hb dX10_lowest_4 hl (by decide) rfl (fun ls hl => ?_)
  obtain ⟨b2, hb3, hf⟩ := zbind hf
  refine lX10_lowest_6 C0 hb3 ?_ _ (lv_sub hl [2, 3, 4, 1, 0] rfl)
  intro ls hl
  refine lv_iload (pc := 31) hx hb dX10_lowest_31 (lv_at hl 2 rfl) ?_
  refine z_if_ne (pc := 33) (tgt := 40) hx hb dX10_lowest_33 (by decide) hf (fun hf => ?_) (fun hf => ?_)
  · refine lv_lload_n (pc := 40) hx hb dX10_lowest_40 rfl (lv_at hl 1 rfl) ?_
    refine lv_lload (pc := 41) hx hb dX10_lowest_41 (lv_at hl 3 rfl) ?_
    refine z_ldiv (pc := 43) hx hb dX10_lowest_43 hf (fun hf => ?_)
    obtain rfl := zone hf
    exact z_slret (pc := 44) C0 dX10_lowest_44
  refine lv_lload_n (pc := 36) hx hb dX10_lowest_36 rfl (lv_at hl 0 rfl) ?_
  refine lv_goto (pc := 37) (tgt := 41) hx hb dX10_lowest_37 (by decide) ?_
  refine lv_lload (pc := 41) hx hb dX10_lowest_41 (lv_at hl 3 rfl) ?_
  refine z_ldiv (pc := 43) hx hb dX10_lowest_43 hf (fun hf => ?_)
  obtain rfl := zone hf
  exact z_slret (pc := 44) C0 dX10_lowest_44
set_option maxHeartbeats 4000000 in
set_option maxRecDepth 100000 in
theorem kX10_share (l : Launch) (D : va_G) (ad : Nat → Nat) (cy : Nat → ClassId) (k : Nat) (a1 : Int32) (a2 : Int32) (a3 : Int32) (u : MX) (r : Int64) (u' : MX) (hf : fX10_share k a1 a2 a3 u = some (r, u')) : zCt l yX10_share wsX10_share ({ frames := 2, cells := 0, slots := 0, locals := 46 } : Room) D ad cy [.ref (ad 0), .int a1, .int a2, .int a3] (WM ad cy u) (some (.long r)) (WM ad cy u') := by
  refine zCt.of (cc := cX10_share) (maxL := 4) (ret := (some .long)) (own := RX10) (by decide) rfl rfl ?_
  intro p e s m below meth c A C0 hI
  obtain ⟨hx, hb, hml, hown, hts, hr, hlk⟩ := id C0
  refine z_entry (Nat.le_of_ble_eq_true rfl) (fun ls hl => ?_)
  have hl : lv_has ls 4 [(0, .ref (ad 0)), (1, .int a1), (2, .int a2), (3, .int a3)] := hl
  unfold fX10_share at hf
  refine lv_iload_n (pc := 0) hx hb dX10_share_0 rfl (lv_at hl 1 rfl) ?_
  obtain ⟨q2, hc1, hf⟩ := zbind hf
  refine zcallSi (pc := 1) (As := [.int a1]) (rest := []) ⟨hx, hb, hml, hown, hts⟩ (kX10_isLaw l a1 q2 hc1) (va_cwS 1 hts gX10_share_X10_isLaw rfl rfl rfl (by decide +kernel) ⟨Nat.le_of_ble_eq_true rfl, Nat.le_of_ble_eq_true rfl⟩) rfl hl.1 rfl (Nat.le_of_ble_eq_true rfl) dX10_share_1 (Nat.zero_le _) (Nat.zero_le _) ?_
  refine z_if_eq (pc := 4) (tgt := 29) hx hb dX10_share_4 (by decide) hf (fun hf => ?_) (fun hf => ?_)
  · refine lv_ldc2 (pc := 29) (v := -1) hx hb hown (hts (.constantLong RX10 204 (-1)) (by decide +kernel)) dX10_share_29 ?_
    obtain ⟨rfl, rfl⟩ := zpair hf
    exact z_lret (pc := 32) C0 hI dX10_share_32
  refine lv_iload_n (pc := 7) hx hb dX10_share_7 rfl (lv_at hl 2 rfl) ?_
  refine lv_i2l (pc := 8) hx hb dX10_share_8 rfl ?_
  refine lv_lconst (pc := 9) (v := 0) hx hb dX10_share_9 (by decide) ?_
  refine lv_ldc2 (pc := 10) (v := 3) hx hb hown (hts (.constantLong RX10 130 (3)) (by decide +kernel)) dX10_share_10 ?_
  obtain ⟨q4, hc3, hf⟩ := zbind hf
  refine zcallSi (pc := 13) (As := [.long (a2.toInt64), .long (0 : Int64), .long (3 : Int64)]) (rest := []) ⟨hx, hb, hml, hown, hts⟩ (kX10_in l (a2.toInt64) (0 : Int64) (3 : Int64) q4 hc3) (va_cwS 3 hts gX10_share_X10_in rfl rfl rfl (by decide +kernel) ⟨Nat.le_of_ble_eq_true rfl, Nat.le_of_ble_eq_true rfl⟩) rfl hl.1 rfl (Nat.le_of_ble_eq_true rfl) dX10_share_13 (Nat.zero_le _) (Nat.zero_le _) ?_
  refine z_if_eq (pc := 16) (tgt := 29) hx hb dX10_share_16 (by decide) hf (fun hf => ?_) (fun hf => ?_)
  · refine lv_ldc2 (pc := 29) (v := -1) hx hb hown (hts (.constantLong RX10 204 (-1)) (by decide +kernel)) dX10_share_29 ?_
    obtain ⟨rfl, rfl⟩ := zpair hf
    exact z_lret (pc := 32) C0 hI dX10_share_32
  refine lv_iload_n (pc := 19) hx hb dX10_share_19 rfl (lv_at hl 3 rfl) ?_
  refine lv_i2l (pc := 20) hx hb dX10_share_20 rfl ?_
  refine lv_lconst (pc := 21) (v := 0) hx hb dX10_share_21 (by decide) ?_
  refine lv_lconst (pc := 22) (v := 1) hx hb dX10_share_22 (by decide) ?_
  obtain ⟨q6, hc5, hf⟩ := zbind hf
  refine zcallSi (pc := 23) (As := [.long (a3.toInt64), .long (0 : Int64), .long (1 : Int64)]) (rest := []) ⟨hx, hb, hml, hown, hts⟩ (kX10_in l (a3.toInt64) (0 : Int64) (1 : Int64) q6 hc5) (va_cwS 3 hts gX10_share_X10_in rfl rfl rfl (by decide +kernel) ⟨Nat.le_of_ble_eq_true rfl, Nat.le_of_ble_eq_true rfl⟩) rfl hl.1 rfl (Nat.le_of_ble_eq_true rfl) dX10_share_23 (Nat.zero_le _) (Nat.zero_le _) ?_
  refine z_if_ne (pc := 26) (tgt := 33) hx hb dX10_share_26 (by decide) hf (fun hf => ?_) (fun hf => ?_)
  · refine lv_aload_n (pc := 33) hx hb dX10_share_33 rfl (lv_at hl 0 rfl) ?_
    refine lv_iload_n (pc := 34) hx hb dX10_share_34 rfl (lv_at hl 1 rfl) ?_
    obtain ⟨q8, hc7, hf⟩ := zbind hf
    refine zcallVv (pc := 35) (As := [.int a1]) (rest := []) ⟨hx, hb, hml, hown, hts⟩ (kX10_layLaw l D ad cy k a1 u q8 hc7) (cwV 1 hts gX10_share_X10_layLaw rfl rfl rfl (by decide +kernel) ⟨Nat.le_of_ble_eq_true rfl, Nat.le_of_ble_eq_true rfl⟩) hI rfl (ml_0 ad cy u) rfl hl.1 rfl (Nat.le_of_ble_eq_true rfl) dX10_share_35 (Nat.zero_le _) (Nat.zero_le _) (fun H locs hI => ?_)
    refine lv_aload_n (pc := 38) hx hb dX10_share_38 rfl (lv_at hl 0 rfl) ?_
    refine lv_iload_n (pc := 39) hx hb dX10_share_39 rfl (lv_at hl 2 rfl) ?_
    obtain ⟨q10, hc9, hf⟩ := zbind hf
    refine zcallVl (pc := 40) (As := [.int a2]) (rest := []) ⟨hx, hb, hml, hown, hts⟩ (kX10_shareUp l D ad cy k a2 q8 q10 hc9) (cwV 1 hts gX10_share_X10_shareUp rfl rfl rfl (by decide +kernel) ⟨Nat.le_of_ble_eq_true rfl, Nat.le_of_ble_eq_true rfl⟩) hI rfl (ml_0 ad cy q8) rfl hl.1 rfl (Nat.le_of_ble_eq_true rfl) dX10_share_40 (Nat.zero_le _) (Nat.zero_le _) (fun H locs hI => ?_)
    refine lv_aload_n (pc := 43) hx hb dX10_share_43 rfl (lv_at hl 0 rfl) ?_
    obtain ⟨q12, hc11, hf⟩ := zbind hf
    refine zcallVl (pc := 44) (As := []) (rest := [.long q10]) ⟨hx, hb, hml, hown, hts⟩ (kX10_whole l D ad cy k q8 q12 hc11) (cwV 0 hts gX10_share_X10_whole rfl rfl rfl (by decide +kernel) ⟨Nat.le_of_ble_eq_true rfl, Nat.le_of_ble_eq_true rfl⟩) hI rfl (ml_0 ad cy q8) rfl hl.1 rfl (Nat.le_of_ble_eq_true rfl) dX10_share_44 (Nat.zero_le _) (Nat.zero_le _) (fun H locs hI => ?_)
    refine lv_iload_n (pc := 47) hx hb dX10_share_47 rfl (lv_at hl 3 rfl) ?_
    obtain ⟨q14, hc13, hf⟩ := zbind hf
    refine zcallSl (pc := 48) (As := [.long q10, .long q12, .int a3]) (rest := []) ⟨hx, hb, hml, hown, hts⟩ (kX10_lowest l k q10 q12 a3 q14 hc13) (va_cwS 3 hts gX10_share_X10_lowest rfl rfl rfl (by decide +kernel) ⟨Nat.le_of_ble_eq_true rfl, Nat.le_of_ble_eq_true rfl⟩) rfl hl.1 rfl (Nat.le_of_ble_eq_true rfl) dX10_share_48 (Nat.zero_le _) (Nat.zero_le _) ?_
    obtain ⟨rfl, rfl⟩ := zpair hf
    exact z_lret (pc := 51) C0 hI dX10_share_51
  refine lv_ldc2 (pc := 29) (v := -1) hx hb hown (hts (.constantLong RX10 204 (-1)) (by decide +kernel)) dX10_share_29 ?_
  obtain ⟨rfl, rfl⟩ := zpair hf
  exact z_lret (pc := 32) C0 hI dX10_share_32
set_option maxHeartbeats 4000000 in
set_option maxRecDepth 100000 in
theorem kX10_holes (l : Launch) (D : va_G) (ad : Nat → Nat) (cy : Nat → ClassId) (k : Nat) (a1 : Int32) (a2 : Int32) (a3 : Int32) (u : MX) (r : Int64) (u' : MX) (hf : fX10_holes k a1 a2 a3 u = some (r, u')) : zCt l yX10_holes wsX10_holes ({ frames := 2, cells := 0, slots := 0, locals := 49 } : Room) D ad cy [.ref (ad 0), .int a1, .int a2, .int a3] (WM ad cy u) (some (.long r)) (WM ad cy u') := by
  refine zCt.of (cc := cX10_holes) (maxL := 4) (ret := (some .long)) (own := RX10) (by decide) rfl rfl ?_
  intro p e s m below meth c A C0 hI
  obtain ⟨hx, hb, hml, hown, hts, hr, hlk⟩ := id C0
  refine z_entry (Nat.le_of_ble_eq_true rfl) (fun ls hl => ?_)
  have hl : lv_has ls 4 [(0, .ref (ad 0)), (1, .int a1), (2, .int a2), (3, .int a3)] := hl
  unfold fX10_holes at hf
  refine lv_iload_n (pc := 0) hx hb dX10_holes_0 rfl (lv_at hl 1 rfl) ?_
  obtain ⟨q2, hc1, hf⟩ := zbind hf
  refine zcallSi (pc := 1) (As := [.int a1]) (rest := []) ⟨hx, hb, hml, hown, hts⟩ (kX10_isLaw l a1 q2 hc1) (va_cwS 1 hts gX10_holes_X10_isLaw rfl rfl rfl (by decide +kernel) ⟨Nat.le_of_ble_eq_true rfl, Nat.le_of_ble_eq_true rfl⟩) rfl hl.1 rfl (Nat.le_of_ble_eq_true rfl) dX10_holes_1 (Nat.zero_le _) (Nat.zero_le _) ?_
  refine z_if_eq (pc := 4) (tgt := 24) hx hb dX10_holes_4 (by decide) hf (fun hf => ?_) (fun hf => ?_)
  · refine lv_ldc2 (pc := 24) (v := -1) hx hb hown (hts (.constantLong RX10 204 (-1)) (by decide +kernel)) dX10_holes_24 ?_
    obtain ⟨rfl, rfl⟩ := zpair hf
    exact z_lret (pc := 27) C0 hI dX10_holes_27
  refine lv_iload_n (pc := 7) hx hb dX10_holes_7 rfl (lv_at hl 2 rfl) ?_
  obtain ⟨q4, hc3, hf⟩ := zbind hf
  refine zcallSi (pc := 8) (As := [.int a2]) (rest := []) ⟨hx, hb, hml, hown, hts⟩ (kX10_isPart l a2 q4 hc3) (va_cwS 1 hts gX10_holes_X10_isPart rfl rfl rfl (by decide +kernel) ⟨Nat.le_of_ble_eq_true rfl, Nat.le_of_ble_eq_true rfl⟩) rfl hl.1 rfl (Nat.le_of_ble_eq_true rfl) dX10_holes_8 (Nat.zero_le _) (Nat.zero_le _) ?_
  refine z_if_eq (pc := 11) (tgt := 24) hx hb dX10_holes_11 (by decide) hf (fun hf => ?_) (fun hf => ?_)
  · refine lv_ldc2 (pc := 24) (v := -1) hx hb hown (hts (.constantLong RX10 204 (-1)) (by decide +kernel)) dX10_holes_24 ?_
    obtain ⟨rfl, rfl⟩ := zpair hf
    exact z_lret (pc := 27) C0 hI dX10_holes_27
  refine lv_iload_n (pc := 14) hx hb dX10_holes_14 rfl (lv_at hl 3 rfl) ?_
  refine lv_i2l (pc := 15) hx hb dX10_holes_15 rfl ?_
  refine lv_lconst (pc := 16) (v := 0) hx hb dX10_holes_16 (by decide) ?_
  refine lv_lconst (pc := 17) (v := 1) hx hb dX10_holes_17 (by decide) ?_
  obtain ⟨q6, hc5, hf⟩ := zbind hf
  refine zcallSi (pc := 18) (As := [.long (a3.toInt64), .long (0 : Int64), .long (1 : Int64)]) (rest := []) ⟨hx, hb, hml, hown, hts⟩ (kX10_in l (a3.toInt64) (0 : Int64) (1 : Int64) q6 hc5) (va_cwS 3 hts gX10_holes_X10_in rfl rfl rfl (by decide +kernel) ⟨Nat.le_of_ble_eq_true rfl, Nat.le_of_ble_eq_true rfl⟩) rfl hl.1 rfl (Nat.le_of_ble_eq_true rfl) dX10_holes_18 (Nat.zero_le _) (Nat.zero_le _) ?_
  refine z_if_ne (pc := 21) (tgt := 28) hx hb dX10_holes_21 (by decide) hf (fun hf => ?_) (fun hf => ?_)
  · refine lv_aload_n (pc := 28) hx hb dX10_holes_28 rfl (lv_at hl 0 rfl) ?_
    refine lv_iload_n (pc := 29) hx hb dX10_holes_29 rfl (lv_at hl 1 rfl) ?_
    obtain ⟨q8, hc7, hf⟩ := zbind hf
    refine zcallVv (pc := 30) (As := [.int a1]) (rest := []) ⟨hx, hb, hml, hown, hts⟩ (kX10_layLaw l D ad cy k a1 u q8 hc7) (cwV 1 hts gX10_holes_X10_layLaw rfl rfl rfl (by decide +kernel) ⟨Nat.le_of_ble_eq_true rfl, Nat.le_of_ble_eq_true rfl⟩) hI rfl (ml_0 ad cy u) rfl hl.1 rfl (Nat.le_of_ble_eq_true rfl) dX10_holes_30 (Nat.zero_le _) (Nat.zero_le _) (fun H locs hI => ?_)
    refine lv_aload_n (pc := 33) hx hb dX10_holes_33 rfl (lv_at hl 0 rfl) ?_
    refine lv_iload_n (pc := 34) hx hb dX10_holes_34 rfl (lv_at hl 2 rfl) ?_
    obtain ⟨q10, hc9, hf⟩ := zbind hf
    refine zcallVl (pc := 35) (As := [.int a2]) (rest := []) ⟨hx, hb, hml, hown, hts⟩ (kX10_holesUp l D ad cy k a2 q8 q10 hc9) (cwV 1 hts gX10_holes_X10_holesUp rfl rfl rfl (by decide +kernel) ⟨Nat.le_of_ble_eq_true rfl, Nat.le_of_ble_eq_true rfl⟩) hI rfl (ml_0 ad cy q8) rfl hl.1 rfl (Nat.le_of_ble_eq_true rfl) dX10_holes_35 (Nat.zero_le _) (Nat.zero_le _) (fun H locs hI => ?_)
    refine lv_aload_n (pc := 38) hx hb dX10_holes_38 rfl (lv_at hl 0 rfl) ?_
    obtain ⟨q12, hc11, hf⟩ := zbind hf
    refine zcallVl (pc := 39) (As := []) (rest := [.long q10]) ⟨hx, hb, hml, hown, hts⟩ (kX10_whole l D ad cy k q8 q12 hc11) (cwV 0 hts gX10_holes_X10_whole rfl rfl rfl (by decide +kernel) ⟨Nat.le_of_ble_eq_true rfl, Nat.le_of_ble_eq_true rfl⟩) hI rfl (ml_0 ad cy q8) rfl hl.1 rfl (Nat.le_of_ble_eq_true rfl) dX10_holes_39 (Nat.zero_le _) (Nat.zero_le _) (fun H locs hI => ?_)
    refine lv_iload_n (pc := 42) hx hb dX10_holes_42 rfl (lv_at hl 3 rfl) ?_
    obtain ⟨q14, hc13, hf⟩ := zbind hf
    refine zcallSl (pc := 43) (As := [.long q10, .long q12, .int a3]) (rest := []) ⟨hx, hb, hml, hown, hts⟩ (kX10_lowest l k q10 q12 a3 q14 hc13) (va_cwS 3 hts gX10_holes_X10_lowest rfl rfl rfl (by decide +kernel) ⟨Nat.le_of_ble_eq_true rfl, Nat.le_of_ble_eq_true rfl⟩) rfl hl.1 rfl (Nat.le_of_ble_eq_true rfl) dX10_holes_43 (Nat.zero_le _) (Nat.zero_le _) ?_
    obtain ⟨rfl, rfl⟩ := zpair hf
    exact z_lret (pc := 46) C0 hI dX10_holes_46
  refine lv_ldc2 (pc := 24) (v := -1) hx hb hown (hts (.constantLong RX10 204 (-1)) (by decide +kernel)) dX10_holes_24 ?_
  obtain ⟨rfl, rfl⟩ := zpair hf
  exact z_lret (pc := 27) C0 hI dX10_holes_27
set_option maxHeartbeats 4000000 in
set_option maxRecDepth 100000 in
theorem kX10_size (l : Launch) (a1 : Int64) (r : Int64) (hf : fX10_size a1 = some r) : zSt l yX10_size wsX10_size ({ frames := 0, cells := 0, slots := 0, locals := 0 } : Room) [.long a1] (some (.long r)) := by
  refine zSt.of (cc := cX10_size) (maxL := 2) (ret := (some .long)) (own := RX10) (by decide) rfl rfl ?_
  intro p e s m below meth c C0
  obtain ⟨hx, hb, hml, hown, hts, hr, hlk⟩ := id C0
  refine z_entry (Nat.le_of_ble_eq_true rfl) (fun ls hl => ?_)
  have hl : lv_has ls 2 [(0, .long a1)] := hl
  unfold fX10_size at hf
  refine lv_lload_n (pc := 0) hx hb dX10_size_0 rfl (lv_at hl 0 rfl) ?_
  refine lv_lconst (pc := 1) (v := 0) hx hb dX10_size_1 (by decide) ?_
  refine z_lc_ge (pc := 2) (tgt := 11) hx hb dX10_size_2 dX10_size_3 (by decide) hf (fun hf => ?_) (fun hf => ?_)
  · refine lv_lload_n (pc := 11) hx hb dX10_size_11 rfl (lv_at hl 0 rfl) ?_
    obtain rfl := zone hf
    exact z_slret (pc := 12) C0 dX10_size_12
  refine lv_lload_n (pc := 6) hx hb dX10_size_6 rfl (lv_at hl 0 rfl) ?_
  refine lv_lneg (pc := 7) hx hb dX10_size_7 ?_
  refine lv_goto (pc := 8) (tgt := 12) hx hb dX10_size_8 (by decide) ?_
  obtain rfl := zone hf
  exact z_slret (pc := 12) C0 dX10_size_12
set_option maxHeartbeats 4000000 in
set_option maxRecDepth 100000 in
theorem lX10_farthest_4 (C0 : zFix p m c cX10_farthest 6 s args wsX10_farthest RX10 meth (some .long)) {k : Nat} {u : MX} {a : Int64 × Int32} {b : Int64} (hit : ziter (bX10_farthest_4 k u) k a = some b) (hx9 : (fun (b : Int64) => ∀ (H : Heap) (locs : List Loc) (ls : Array Slot), zIn D ad cy (WM ad cy u) A s H locs → lv_has ls 6 [(0, .ref (ad 0)), (1, .long b)] → W p l e ({ frames := 2, cells := 0, slots := 0, locals := 49 } : Room) s m args below meth c H locs 0 0 Q (F0 m 62 ls [])) b) : (fun (a : Int64 × Int32) => ∀ (H : Heap) (locs : List Loc) (ls : Array Slot), zIn D ad cy (WM ad cy u) A s H locs → lv_has ls 6 [(0, .ref (ad 0)), (1, .long a.1), (3, .int a.2)] → W p l e ({ frames := 2, cells := 0, slots := 0, locals := 49 } : Room) s m args below meth c H locs 0 0 Q (F0 m 4 ls [])) a := by
  obtain ⟨hx, hb, hml, hown, hts, hr, hlk⟩ := id C0
  refine zloop (Wh := (fun (a : Int64 × Int32) => ∀ (H : Heap) (locs : List Loc) (ls : Array Slot), zIn D ad cy (WM ad cy u) A s H locs → lv_has ls 6 [(0, .ref (ad 0)), (1, .long a.1), (3, .int a.2)] → W p l e ({ frames := 2, cells := 0, slots := 0, locals := 49 } : Room) s m args below meth c H locs 0 0 Q (F0 m 4 ls []))) (Wx := (fun (b : Int64) => ∀ (H : Heap) (locs : List Loc) (ls : Array Slot), zIn D ad cy (WM ad cy u) A s H locs → lv_has ls 6 [(0, .ref (ad 0)), (1, .long b)] → W p l e ({ frames := 2, cells := 0, slots := 0, locals := 49 } : Room) s m args below meth c H locs 0 0 Q (F0 m 62 ls []))) ?_ _ a b hit hx9
  intro a x hf hL hX H locs ls hI hl
  unfold bX10_farthest_4 at hf
  refine lv_iload_n (pc := 4) hx hb dX10_farthest_4 rfl (lv_at hl 2 rfl) ?_
  refine lv_iconst (pc := 5) (v := 4) hx hb dX10_farthest_5 (by decide) ?_
  refine z_icmp_ge (pc := 6) (tgt := 62) hx hb dX10_farthest_6 (by decide) hf (fun hf => ?_) (fun hf => ?_)
  · exact (hX _ (Option.some.inj hf).symm) _ _ _ hI (lv_sub hl [0, 1] rfl)
  refine lv_aload_n (pc := 9) hx hb dX10_farthest_9 rfl (lv_at hl 0 rfl) ?_
  refine z_get (pc := 10) (index := 28) hx hb hts iwX10_farthest_10 hown hI (ml_0 ad cy u) rfl 15 (by decide) (by decide +kernel) rfl rfl dX10_farthest_10 ?_
  refine lv_iconst (pc := 13) (v := 0) hx hb dX10_farthest_13 (by decide) ?_
  refine z_iald (pc := 14) hx hb hI (ml_7 ad cy u) 0 rfl dX10_farthest_14 hf (fun v1 hf => ?_)
  refine lv_i2l (pc := 15) hx hb dX10_farthest_15 rfl ?_
  refine lv_aload_n (pc := 16) hx hb dX10_farthest_16 rfl (lv_at hl 0 rfl) ?_
  refine lv_iload_n (pc := 17) hx hb dX10_farthest_17 rfl (lv_at hl 2 rfl) ?_
  obtain ⟨q3, hc2, hf⟩ := zbind hf
  refine zcallVl (pc := 18) (As := [.int a.2]) (rest := [.long (v1.toInt64)]) ⟨hx, hb, hml, hown, hts⟩ (kX10_shareUp l D ad cy k a.2 u q3 hc2) (cwV 1 hts gX10_farthest_X10_shareUp rfl rfl rfl (by decide +kernel) ⟨Nat.le_of_ble_eq_true rfl, Nat.le_of_ble_eq_true rfl⟩) hI rfl (ml_0 ad cy u) rfl hl.1 rfl (Nat.le_of_ble_eq_true rfl) dX10_farthest_18 (Nat.zero_le _) (Nat.zero_le _) (fun H locs hI => ?_)
  refine lv_lmul (pc := 21) hx hb dX10_farthest_21 ?_
  refine lv_aload_n (pc := 22) hx hb dX10_farthest_22 rfl (lv_at hl 0 rfl) ?_
  refine z_get (pc := 23) (index := 28) hx hb hts iwX10_farthest_10 hown hI (ml_0 ad cy u) rfl 15 (by decide) (by decide +kernel) rfl rfl dX10_farthest_23 ?_
  refine lv_iconst (pc := 26) (v := 1) hx hb dX10_farthest_26 (by decide) ?_
  refine lv_iload_n (pc := 27) hx hb dX10_farthest_27 rfl (lv_at hl 2 rfl) ?_
  refine lv_iadd (pc := 28) hx hb dX10_farthest_28 ?_
  refine z_iald (pc := 29) hx hb hI (ml_7 ad cy u) 0 rfl dX10_farthest_29 hf (fun v4 hf => ?_)
  refine lv_i2l (pc := 30) hx hb dX10_farthest_30 rfl ?_
  refine lv_aload_n (pc := 31) hx hb dX10_farthest_31 rfl (lv_at hl 0 rfl) ?_
  obtain ⟨q6, hc5, hf⟩ := zbind hf
  refine zcallVl (pc := 32) (As := []) (rest := [.long (v4.toInt64), .long ((v1.toInt64) * q3)]) ⟨hx, hb, hml, hown, hts⟩ (kX10_whole l D ad cy k u q6 hc5) (cwV 0 hts gX10_farthest_X10_whole rfl rfl rfl (by decide +kernel) ⟨Nat.le_of_ble_eq_true rfl, Nat.le_of_ble_eq_true rfl⟩) hI rfl (ml_0 ad cy u) rfl hl.1 rfl (Nat.le_of_ble_eq_true rfl) dX10_farthest_32 (Nat.zero_le _) (Nat.zero_le _) (fun H locs hI => ?_)
  refine lv_lmul (pc := 35) hx hb dX10_farthest_35 ?_
  refine lv_lsub (pc := 36) hx hb dX10_farthest_36 ?_
  obtain ⟨q8, hc7, hf⟩ := zbind hf
  refine zcallSl (pc := 37) (As := [.long (((v1.toInt64) * q3) - ((v4.toInt64) * q6))]) (rest := []) ⟨hx, hb, hml, hown, hts⟩ (kX10_size l (((v1.toInt64) * q3) - ((v4.toInt64) * q6)) q8 hc7) (va_cwS 1 hts gX10_farthest_X10_size rfl rfl rfl (by decide +kernel) ⟨Nat.le_of_ble_eq_true rfl, Nat.le_of_ble_eq_true rfl⟩) rfl hl.1 rfl (Nat.le_of_ble_eq_true rfl) dX10_farthest_37 (Nat.zero_le _) (Nat.zero_le _) ?_
  refine lv_lstore (pc := 40) (lv' := [(4, .long q8), (0, .ref (ad 0)), (1, .long a.1), (3, .int a.2)]) hx hb dX10_farthest_40 hl (by decide) rfl (fun ls hl => ?_)
  refine lv_lload (pc := 42) hx hb dX10_farthest_42 (lv_at hl 0 rfl) ?_
  refine lv_lload_n (pc := 44) hx hb dX10_farthest_44 rfl (lv_at hl 2 rfl) ?_
  refine z_lc_le (pc := 45) (tgt := 54) hx hb dX10_farthest_45 dX10_farthest_46 (by decide) hf (fun hf => ?_) (fun hf => ?_)
  · refine lv_lload_n (pc := 54) hx hb dX10_farthest_54 rfl (lv_at hl 2 rfl) ?_
    refine lv_lstore_n (pc := 55) (lv' := [(1, .long a.1), (4, .long q8), (0, .ref (ad 0)), (3, .int a.2)]) hx hb dX10_farthest_55 rfl hl (by decide) rfl (fun ls hl => ?_)
    refine lv_iinc (pc := 56) (v := (a.2 + 1)) (lv' := [(3, .int (a.2 + 1)), (1, .long a.1), (4, .long q8), (0, .ref (ad 0))]) hx hb dX10_farthest_56 hl (k := 3) rfl rfl (by decide) rfl (fun ls hl => ?_)
    refine lv_goto (pc := 59) (tgt := 4) hx hb dX10_farthest_59 (by decide) ?_
    exact hL _ (Option.some.inj hf).symm _ _ _ hI (lv_sub hl [3, 1, 0] rfl)
  refine lv_lload (pc := 49) hx hb dX10_farthest_49 (lv_at hl 0 rfl) ?_
  refine lv_goto (pc := 51) (tgt := 55) hx hb dX10_farthest_51 (by decide) ?_
  refine lv_lstore_n (pc := 55) (lv' := [(1, .long q8), (4, .long q8), (0, .ref (ad 0)), (3, .int a.2)]) hx hb dX10_farthest_55 rfl hl (by decide) rfl (fun ls hl => ?_)
  refine lv_iinc (pc := 56) (v := (a.2 + 1)) (lv' := [(3, .int (a.2 + 1)), (1, .long q8), (4, .long q8), (0, .ref (ad 0))]) hx hb dX10_farthest_56 hl (k := 3) rfl rfl (by decide) rfl (fun ls hl => ?_)
  refine lv_goto (pc := 59) (tgt := 4) hx hb dX10_farthest_59 (by decide) ?_
  exact hL _ (Option.some.inj hf).symm _ _ _ hI (lv_sub hl [3, 1, 0] rfl)
set_option maxHeartbeats 4000000 in
set_option maxRecDepth 100000 in
theorem lX10_farthest_64 (C0 : zFix p m c cX10_farthest 6 s args wsX10_farthest RX10 meth (some .long)) {k : Nat} {u : MX} {a : Int64 × Int32} {b : Int64} (hit : ziter (bX10_farthest_64 k u) k a = some b) (hx9 : (fun (b : Int64) => ∀ (H : Heap) (locs : List Loc) (ls : Array Slot), zIn D ad cy (WM ad cy u) A s H locs → lv_has ls 6 [(1, .long b)] → W p l e ({ frames := 2, cells := 0, slots := 0, locals := 49 } : Room) s m args below meth c H locs 0 0 Q (F0 m 122 ls [])) b) : (fun (a : Int64 × Int32) => ∀ (H : Heap) (locs : List Loc) (ls : Array Slot), zIn D ad cy (WM ad cy u) A s H locs → lv_has ls 6 [(0, .ref (ad 0)), (1, .long a.1), (3, .int a.2)] → W p l e ({ frames := 2, cells := 0, slots := 0, locals := 49 } : Room) s m args below meth c H locs 0 0 Q (F0 m 64 ls [])) a := by
  obtain ⟨hx, hb, hml, hown, hts, hr, hlk⟩ := id C0
  refine zloop (Wh := (fun (a : Int64 × Int32) => ∀ (H : Heap) (locs : List Loc) (ls : Array Slot), zIn D ad cy (WM ad cy u) A s H locs → lv_has ls 6 [(0, .ref (ad 0)), (1, .long a.1), (3, .int a.2)] → W p l e ({ frames := 2, cells := 0, slots := 0, locals := 49 } : Room) s m args below meth c H locs 0 0 Q (F0 m 64 ls []))) (Wx := (fun (b : Int64) => ∀ (H : Heap) (locs : List Loc) (ls : Array Slot), zIn D ad cy (WM ad cy u) A s H locs → lv_has ls 6 [(1, .long b)] → W p l e ({ frames := 2, cells := 0, slots := 0, locals := 49 } : Room) s m args below meth c H locs 0 0 Q (F0 m 122 ls []))) ?_ _ a b hit hx9
  intro a x hf hL hX H locs ls hI hl
  unfold bX10_farthest_64 at hf
  refine lv_iload_n (pc := 64) hx hb dX10_farthest_64 rfl (lv_at hl 2 rfl) ?_
  refine lv_iconst (pc := 65) (v := 4) hx hb dX10_farthest_65 (by decide) ?_
  refine z_icmp_ge (pc := 66) (tgt := 122) hx hb dX10_farthest_66 (by decide) hf (fun hf => ?_) (fun hf => ?_)
  · exact (hX _ (Option.some.inj hf).symm) _ _ _ hI (lv_sub hl [1] rfl)
  refine lv_aload_n (pc := 69) hx hb dX10_farthest_69 rfl (lv_at hl 0 rfl) ?_
  refine z_get (pc := 70) (index := 28) hx hb hts iwX10_farthest_10 hown hI (ml_0 ad cy u) rfl 15 (by decide) (by decide +kernel) rfl rfl dX10_farthest_70 ?_
  refine lv_iconst (pc := 73) (v := 0) hx hb dX10_farthest_73 (by decide) ?_
  refine z_iald (pc := 74) hx hb hI (ml_7 ad cy u) 0 rfl dX10_farthest_74 hf (fun v11 hf => ?_)
  refine lv_i2l (pc := 75) hx hb dX10_farthest_75 rfl ?_
  refine lv_aload_n (pc := 76) hx hb dX10_farthest_76 rfl (lv_at hl 0 rfl) ?_
  refine lv_iload_n (pc := 77) hx hb dX10_farthest_77 rfl (lv_at hl 2 rfl) ?_
  obtain ⟨q13, hc12, hf⟩ := zbind hf
  refine zcallVl (pc := 78) (As := [.int a.2]) (rest := [.long (v11.toInt64)]) ⟨hx, hb, hml, hown, hts⟩ (kX10_holesUp l D ad cy k a.2 u q13 hc12) (cwV 1 hts gX10_farthest_X10_holesUp rfl rfl rfl (by decide +kernel) ⟨Nat.le_of_ble_eq_true rfl, Nat.le_of_ble_eq_true rfl⟩) hI rfl (ml_0 ad cy u) rfl hl.1 rfl (Nat.le_of_ble_eq_true rfl) dX10_farthest_78 (Nat.zero_le _) (Nat.zero_le _) (fun H locs hI => ?_)
  refine lv_lmul (pc := 81) hx hb dX10_farthest_81 ?_
  refine lv_aload_n (pc := 82) hx hb dX10_farthest_82 rfl (lv_at hl 0 rfl) ?_
  refine z_get (pc := 83) (index := 28) hx hb hts iwX10_farthest_10 hown hI (ml_0 ad cy u) rfl 15 (by decide) (by decide +kernel) rfl rfl dX10_farthest_83 ?_
  refine lv_iconst (pc := 86) (v := 5) hx hb dX10_farthest_86 (by decide) ?_
  refine lv_iload_n (pc := 87) hx hb dX10_farthest_87 rfl (lv_at hl 2 rfl) ?_
  refine lv_iadd (pc := 88) hx hb dX10_farthest_88 ?_
  refine z_iald (pc := 89) hx hb hI (ml_7 ad cy u) 0 rfl dX10_farthest_89 hf (fun v14 hf => ?_)
  refine lv_i2l (pc := 90) hx hb dX10_farthest_90 rfl ?_
  refine lv_aload_n (pc := 91) hx hb dX10_farthest_91 rfl (lv_at hl 0 rfl) ?_
  obtain ⟨q16, hc15, hf⟩ := zbind hf
  refine zcallVl (pc := 92) (As := []) (rest := [.long (v14.toInt64), .long ((v11.toInt64) * q13)]) ⟨hx, hb, hml, hown, hts⟩ (kX10_whole l D ad cy k u q16 hc15) (cwV 0 hts gX10_farthest_X10_whole rfl rfl rfl (by decide +kernel) ⟨Nat.le_of_ble_eq_true rfl, Nat.le_of_ble_eq_true rfl⟩) hI rfl (ml_0 ad cy u) rfl hl.1 rfl (Nat.le_of_ble_eq_true rfl) dX10_farthest_92 (Nat.zero_le _) (Nat.zero_le _) (fun H locs hI => ?_)
  refine lv_lmul (pc := 95) hx hb dX10_farthest_95 ?_
  refine lv_lsub (pc := 96) hx hb dX10_farthest_96 ?_
  obtain ⟨q18, hc17, hf⟩ := zbind hf
  refine zcallSl (pc := 97) (As := [.long (((v11.toInt64) * q13) - ((v14.toInt64) * q16))]) (rest := []) ⟨hx, hb, hml, hown, hts⟩ (kX10_size l (((v11.toInt64) * q13) - ((v14.toInt64) * q16)) q18 hc17) (va_cwS 1 hts gX10_farthest_X10_size rfl rfl rfl (by decide +kernel) ⟨Nat.le_of_ble_eq_true rfl, Nat.le_of_ble_eq_true rfl⟩) rfl hl.1 rfl (Nat.le_of_ble_eq_true rfl) dX10_farthest_97 (Nat.zero_le _) (Nat.zero_le _) ?_
  refine lv_lstore (pc := 100) (lv' := [(4, .long q18), (0, .ref (ad 0)), (1, .long a.1), (3, .int a.2)]) hx hb dX10_farthest_100 hl (by decide) rfl (fun ls hl => ?_)
  refine lv_lload (pc := 102) hx hb dX10_farthest_102 (lv_at hl 0 rfl) ?_
  refine lv_lload_n (pc := 104) hx hb dX10_farthest_104 rfl (lv_at hl 2 rfl) ?_
  refine z_lc_le (pc := 105) (tgt := 114) hx hb dX10_farthest_105 dX10_farthest_106 (by decide) hf (fun hf => ?_) (fun hf => ?_)
  · refine lv_lload_n (pc := 114) hx hb dX10_farthest_114 rfl (lv_at hl 2 rfl) ?_
    refine lv_lstore_n (pc := 115) (lv' := [(1, .long a.1), (4, .long q18), (0, .ref (ad 0)), (3, .int a.2)]) hx hb dX10_farthest_115 rfl hl (by decide) rfl (fun ls hl => ?_)
    refine lv_iinc (pc := 116) (v := (a.2 + 1)) (lv' := [(3, .int (a.2 + 1)), (1, .long a.1), (4, .long q18), (0, .ref (ad 0))]) hx hb dX10_farthest_116 hl (k := 3) rfl rfl (by decide) rfl (fun ls hl => ?_)
    refine lv_goto (pc := 119) (tgt := 64) hx hb dX10_farthest_119 (by decide) ?_
    exact hL _ (Option.some.inj hf).symm _ _ _ hI (lv_sub hl [3, 1, 0] rfl)
  refine lv_lload (pc := 109) hx hb dX10_farthest_109 (lv_at hl 0 rfl) ?_
  refine lv_goto (pc := 111) (tgt := 115) hx hb dX10_farthest_111 (by decide) ?_
  refine lv_lstore_n (pc := 115) (lv' := [(1, .long q18), (4, .long q18), (0, .ref (ad 0)), (3, .int a.2)]) hx hb dX10_farthest_115 rfl hl (by decide) rfl (fun ls hl => ?_)
  refine lv_iinc (pc := 116) (v := (a.2 + 1)) (lv' := [(3, .int (a.2 + 1)), (1, .long q18), (4, .long q18), (0, .ref (ad 0))]) hx hb dX10_farthest_116 hl (k := 3) rfl rfl (by decide) rfl (fun ls hl => ?_)
  refine lv_goto (pc := 119) (tgt := 64) hx hb dX10_farthest_119 (by decide) ?_
  exact hL _ (Option.some.inj hf).symm _ _ _ hI (lv_sub hl [3, 1, 0] rfl)
set_option maxHeartbeats 4000000 in
set_option maxRecDepth 100000 in
theorem kX10_farthest (l : Launch) (D : va_G) (ad : Nat → Nat) (cy : Nat → ClassId) (k : Nat) (u : MX) (r : Int64) (hf : fX10_farthest k u = some r) : zCt l yX10_farthest wsX10_farthest ({ frames := 2, cells := 0, slots := 0, locals := 49 } : Room) D ad cy [.ref (ad 0)] (WM ad cy u) (some (.long r)) (WM ad cy u) := by
  refine zCt.of (cc := cX10_farthest) (maxL := 6) (ret := (some .long)) (own := RX10) (by decide) rfl rfl ?_
  intro p e s m below meth c A C0 hI
  obtain ⟨hx, hb, hml, hown, hts, hr, hlk⟩ := id C0
  refine z_entry (Nat.le_of_ble_eq_true rfl) (fun ls hl => ?_)
  have hl : lv_has ls 6 [(0, .ref (ad 0))] := hl
  unfold fX10_farthest at hf
  refine lv_lconst (pc := 0) (v := 0) hx hb dX10_farthest_0 (by decide) ?_
  refine lv_lstore_n (pc := 1) (lv' := [(1, .long (0 : Int64)), (0, .ref (ad 0))]) hx hb dX10_farthest_1 rfl hl (by decide) rfl (fun ls hl => ?_)
  refine lv_iconst (pc := 2) (v := 0) hx hb dX10_farthest_2 (by decide) ?_
  refine lv_istore_n (pc := 3) (lv' := [(3, .int (0 : Int32)), (1, .long (0 : Int64)), (0, .ref (ad 0))]) hx hb dX10_farthest_3 rfl hl (by decide) rfl (fun ls hl => ?_)
  obtain ⟨b9, hb10, hf⟩ := zbind hf
  refine lX10_farthest_4 C0 hb10 ?_ _ _ _ hI (lv_sub hl [2, 1, 0] rfl)
  intro H locs ls hI hl
  refine lv_iconst (pc := 62) (v := 0) hx hb dX10_farthest_62 (by decide) ?_
  refine lv_istore_n (pc := 63) (lv' := [(3, .int (0 : Int32)), (0, .ref (ad 0)), (1, .long b9)]) hx hb dX10_farthest_63 rfl hl (by decide) rfl (fun ls hl => ?_)
  obtain ⟨b19, hb20, hf⟩ := zbind hf
  refine lX10_farthest_64 C0 hb20 ?_ _ _ _ hI (lv_sub hl [1, 2, 0] rfl)
  intro H locs ls hI hl
  refine lv_lload_n (pc := 122) hx hb dX10_farthest_122 rfl (lv_at hl 0 rfl) ?_
  obtain rfl := zone hf
  exact z_lret (pc := 123) C0 hI dX10_farthest_123
set_option maxHeartbeats 4000000 in
set_option maxRecDepth 100000 in
theorem kX10_isNear (l : Launch) (D : va_G) (ad : Nat → Nat) (cy : Nat → ClassId) (a1 : Int32) (a2 : Int32) (a3 : Int32) (u : MX) (r : Int32) (hf : fX10_isNear a1 a2 a3 u = some r) : zCt l yX10_isNear wsX10_isNear ({ frames := 1, cells := 0, slots := 0, locals := 21 } : Room) D ad cy [.ref (ad 0), .int a1, .int a2, .int a3] (WM ad cy u) (some (.int r)) (WM ad cy u) := by
  refine zCt.of (cc := cX10_isNear) (maxL := 4) (ret := (some .boolean)) (own := RX10) (by decide) rfl rfl ?_
  intro p e s m below meth c A C0 hI
  obtain ⟨hx, hb, hml, hown, hts, hr, hlk⟩ := id C0
  refine z_entry (Nat.le_of_ble_eq_true rfl) (fun ls hl => ?_)
  have hl : lv_has ls 4 [(0, .ref (ad 0)), (1, .int a1), (2, .int a2), (3, .int a3)] := hl
  unfold fX10_isNear at hf
  refine lv_ldc2 (pc := 0) (v := 10) hx hb hown (hts (.constantLong RX10 190 (10)) (by decide +kernel)) dX10_isNear_0 ?_
  refine lv_iload_n (pc := 3) hx hb dX10_isNear_3 rfl (lv_at hl 3 rfl) ?_
  refine lv_i2l (pc := 4) hx hb dX10_isNear_4 rfl ?_
  refine lv_lmul (pc := 5) hx hb dX10_isNear_5 ?_
  refine lv_iload_n (pc := 6) hx hb dX10_isNear_6 rfl (lv_at hl 2 rfl) ?_
  refine lv_aload_n (pc := 7) hx hb dX10_isNear_7 rfl (lv_at hl 0 rfl) ?_
  refine z_get (pc := 8) (index := 44) hx hb hts iwX10_isNear_10 hown hI (ml_0 ad cy u) rfl 22 (by decide) (by decide +kernel) rfl rfl dX10_isNear_8 ?_
  refine lv_iload_n (pc := 11) hx hb dX10_isNear_11 rfl (lv_at hl 1 rfl) ?_
  refine z_iald (pc := 12) hx hb hI (ml_12 ad cy u) 0 rfl dX10_isNear_12 hf (fun v1 hf => ?_)
  refine lv_imul (pc := 13) hx hb dX10_isNear_13 ?_
  refine lv_i2l (pc := 14) hx hb dX10_isNear_14 rfl ?_
  refine lv_lsub (pc := 15) hx hb dX10_isNear_15 ?_
  obtain ⟨q3, hc2, hf⟩ := zbind hf
  refine zcallSl (pc := 16) (As := [.long (((10 : Int64) * (a3.toInt64)) - ((a2 * v1).toInt64))]) (rest := []) ⟨hx, hb, hml, hown, hts⟩ (kX10_size l (((10 : Int64) * (a3.toInt64)) - ((a2 * v1).toInt64)) q3 hc2) (va_cwS 1 hts gX10_isNear_X10_size rfl rfl rfl (by decide +kernel) ⟨Nat.le_of_ble_eq_true rfl, Nat.le_of_ble_eq_true rfl⟩) rfl hl.1 rfl (Nat.le_of_ble_eq_true rfl) dX10_isNear_16 (Nat.zero_le _) (Nat.zero_le _) ?_
  refine lv_ldc2 (pc := 19) (v := 10) hx hb hown (hts (.constantLong RX10 190 (10)) (by decide +kernel)) dX10_isNear_19 ?_
  refine z_lc_gt (pc := 22) (tgt := 30) hx hb dX10_isNear_22 dX10_isNear_23 (by decide) hf (fun hf => ?_) (fun hf => ?_)
  · refine lv_iconst (pc := 30) (v := 0) hx hb dX10_isNear_30 (by decide) ?_
    obtain rfl := zone hf
    exact z_zret (pc := 31) C0 hI (Or.inl rfl) dX10_isNear_31
  refine lv_iconst (pc := 26) (v := 1) hx hb dX10_isNear_26 (by decide) ?_
  refine lv_goto (pc := 27) (tgt := 31) hx hb dX10_isNear_27 (by decide) ?_
  obtain rfl := zone hf
  exact z_zret (pc := 31) C0 hI (Or.inr rfl) dX10_isNear_31
set_option maxHeartbeats 4000000 in
set_option maxRecDepth 100000 in
theorem qX10_isSeen_j31_4 (C0 : zFix p m c cX10_isSeen 3 s args wsX10_isSeen RX10 meth (some .boolean)) {k : Nat} {p2 : Int32} {u : MX}  {x : (Int32 × Int32) ⊕ (Int32)} (hf : jX10_isSeen_j31_4 k p2 u = some x) (hL : ∀ a', x = .inl a' → (fun (a : Int32 × Int32) => ∀ (H : Heap) (locs : List Loc) (ls : Array Slot), zIn D ad cy (WM ad cy u) A s H locs → lv_has ls 3 [(0, .ref (ad 0)), (1, .int a.1), (2, .int a.2)] → W p l e ({ frames := 2, cells := 0, slots := 0, locals := 44 } : Room) s m args below meth c H locs 0 0 Q (F0 m 4 ls [])) a') (hX : ∀ b', x = .inr b' → (fun (b : Int32) => ∀ (H : Heap) (locs : List Loc) (ls : Array Slot), zIn D ad cy (WM ad cy u) A s H locs → lv_has ls 3 [(1, .int b)] → W p l e ({ frames := 2, cells := 0, slots := 0, locals := 44 } : Room) s m args below meth c H locs 0 0 Q (F0 m 72 ls [])) b') {H : Heap} {locs : List Loc} {ls : Array Slot} (hI : zIn D ad cy (WM ad cy u) A s H locs) (hl : lv_has ls 3 [(0, .ref (ad 0)), (2, .int p2)]) : W p l e ({ frames := 2, cells := 0, slots := 0, locals := 44 } : Room) s m args below meth c H locs 0 0 Q (F0 m 31 ls []) := by
  obtain ⟨hx, hb, hml, hown, hts, hr, hlk⟩ := id C0
  unfold jX10_isSeen_j31_4 at hf
  refine lv_aload_n (pc := 31) hx hb dX10_isSeen_31 rfl (lv_at hl 0 rfl) ?_
  refine z_get (pc := 32) (index := 38) hx hb hts iwX10_isSeen_10 hown hI (ml_0 ad cy u) rfl 20 (by decide) (by decide +kernel) rfl rfl dX10_isSeen_32 ?_
  refine lv_iload_n (pc := 35) hx hb dX10_isSeen_35 rfl (lv_at hl 1 rfl) ?_
  refine z_iald (pc := 36) hx hb hI (ml_10 ad cy u) 0 rfl dX10_isSeen_36 hf (fun v2 hf => ?_)
  refine z_if_eq (pc := 37) (tgt := 60) hx hb dX10_isSeen_37 (by decide) hf (fun hf => ?_) (fun hf => ?_)
  · refine lv_iconst (pc := 60) (v := 1) hx hb dX10_isSeen_60 (by decide) ?_
    refine lv_goto (pc := 61) (tgt := 65) hx hb dX10_isSeen_61 (by decide) ?_
    refine lv_istore_n (pc := 65) (lv' := [(1, .int (1 : Int32)), (0, .ref (ad 0)), (2, .int p2)]) hx hb dX10_isSeen_65 rfl hl (by decide) rfl (fun ls hl => ?_)
    refine lv_iinc (pc := 66) (v := (p2 + 1)) (lv' := [(2, .int (p2 + 1)), (1, .int (1 : Int32)), (0, .ref (ad 0))]) hx hb dX10_isSeen_66 hl (k := 2) rfl rfl (by decide) rfl (fun ls hl => ?_)
    refine lv_goto (pc := 69) (tgt := 4) hx hb dX10_isSeen_69 (by decide) ?_
    exact hL _ (Option.some.inj hf).symm _ _ _ hI (lv_sub hl [2, 1, 0] rfl)
  refine lv_aload_n (pc := 40) hx hb dX10_isSeen_40 rfl (lv_at hl 0 rfl) ?_
  refine lv_iload_n (pc := 41) hx hb dX10_isSeen_41 rfl (lv_at hl 1 rfl) ?_
  refine lv_aload_n (pc := 42) hx hb dX10_isSeen_42 rfl (lv_at hl 0 rfl) ?_
  refine z_get (pc := 43) (index := 38) hx hb hts iwX10_isSeen_10 hown hI (ml_0 ad cy u) rfl 20 (by decide) (by decide +kernel) rfl rfl dX10_isSeen_43 ?_
  refine lv_iload_n (pc := 46) hx hb dX10_isSeen_46 rfl (lv_at hl 1 rfl) ?_
  refine z_iald (pc := 47) hx hb hI (ml_10 ad cy u) 0 rfl dX10_isSeen_47 hf (fun v3 hf => ?_)
  refine lv_aload_n (pc := 48) hx hb dX10_isSeen_48 rfl (lv_at hl 0 rfl) ?_
  refine z_get (pc := 49) (index := 41) hx hb hts iwX10_isSeen_10 hown hI (ml_0 ad cy u) rfl 21 (by decide) (by decide +kernel) rfl rfl dX10_isSeen_49 ?_
  refine lv_iload_n (pc := 52) hx hb dX10_isSeen_52 rfl (lv_at hl 1 rfl) ?_
  refine z_iald (pc := 53) hx hb hI (ml_11 ad cy u) 0 rfl dX10_isSeen_53 hf (fun v4 hf => ?_)
  obtain ⟨q6, hc5, hf⟩ := zbind hf
  refine zcallVi (pc := 54) (As := [.int p2, .int v3, .int v4]) (rest := []) ⟨hx, hb, hml, hown, hts⟩ (kX10_isNear l D ad cy p2 v3 v4 u q6 hc5) (cwV 3 hts gX10_isSeen_X10_isNear rfl rfl rfl (by decide +kernel) ⟨Nat.le_of_ble_eq_true rfl, Nat.le_of_ble_eq_true rfl⟩) hI rfl (ml_0 ad cy u) rfl hl.1 rfl (Nat.le_of_ble_eq_true rfl) dX10_isSeen_54 (Nat.zero_le _) (Nat.zero_le _) (fun H locs hI => ?_)
  refine z_if_eq (pc := 57) (tgt := 64) hx hb dX10_isSeen_57 (by decide) hf (fun hf => ?_) (fun hf => ?_)
  · refine lv_iconst (pc := 64) (v := 0) hx hb dX10_isSeen_64 (by decide) ?_
    refine lv_istore_n (pc := 65) (lv' := [(1, .int (0 : Int32)), (0, .ref (ad 0)), (2, .int p2)]) hx hb dX10_isSeen_65 rfl hl (by decide) rfl (fun ls hl => ?_)
    refine lv_iinc (pc := 66) (v := (p2 + 1)) (lv' := [(2, .int (p2 + 1)), (1, .int (0 : Int32)), (0, .ref (ad 0))]) hx hb dX10_isSeen_66 hl (k := 2) rfl rfl (by decide) rfl (fun ls hl => ?_)
    refine lv_goto (pc := 69) (tgt := 4) hx hb dX10_isSeen_69 (by decide) ?_
    exact hL _ (Option.some.inj hf).symm _ _ _ hI (lv_sub hl [2, 1, 0] rfl)
  refine lv_iconst (pc := 60) (v := 1) hx hb dX10_isSeen_60 (by decide) ?_
  refine lv_goto (pc := 61) (tgt := 65) hx hb dX10_isSeen_61 (by decide) ?_
  refine lv_istore_n (pc := 65) (lv' := [(1, .int (1 : Int32)), (0, .ref (ad 0)), (2, .int p2)]) hx hb dX10_isSeen_65 rfl hl (by decide) rfl (fun ls hl => ?_)
  refine lv_iinc (pc := 66) (v := (p2 + 1)) (lv' := [(2, .int (p2 + 1)), (1, .int (1 : Int32)), (0, .ref (ad 0))]) hx hb dX10_isSeen_66 hl (k := 2) rfl rfl (by decide) rfl (fun ls hl => ?_)
  refine lv_goto (pc := 69) (tgt := 4) hx hb dX10_isSeen_69 (by decide) ?_
  exact hL _ (Option.some.inj hf).symm _ _ _ hI (lv_sub hl [2, 1, 0] rfl)
set_option maxHeartbeats 4000000 in
set_option maxRecDepth 100000 in
theorem lX10_isSeen_4 (C0 : zFix p m c cX10_isSeen 3 s args wsX10_isSeen RX10 meth (some .boolean)) {k : Nat} {u : MX} {a : Int32 × Int32} {b : Int32} (hit : ziter (bX10_isSeen_4 k u) k a = some b) (hx9 : (fun (b : Int32) => ∀ (H : Heap) (locs : List Loc) (ls : Array Slot), zIn D ad cy (WM ad cy u) A s H locs → lv_has ls 3 [(1, .int b)] → W p l e ({ frames := 2, cells := 0, slots := 0, locals := 44 } : Room) s m args below meth c H locs 0 0 Q (F0 m 72 ls [])) b) : (fun (a : Int32 × Int32) => ∀ (H : Heap) (locs : List Loc) (ls : Array Slot), zIn D ad cy (WM ad cy u) A s H locs → lv_has ls 3 [(0, .ref (ad 0)), (1, .int a.1), (2, .int a.2)] → W p l e ({ frames := 2, cells := 0, slots := 0, locals := 44 } : Room) s m args below meth c H locs 0 0 Q (F0 m 4 ls [])) a := by
  obtain ⟨hx, hb, hml, hown, hts, hr, hlk⟩ := id C0
  refine zloop (Wh := (fun (a : Int32 × Int32) => ∀ (H : Heap) (locs : List Loc) (ls : Array Slot), zIn D ad cy (WM ad cy u) A s H locs → lv_has ls 3 [(0, .ref (ad 0)), (1, .int a.1), (2, .int a.2)] → W p l e ({ frames := 2, cells := 0, slots := 0, locals := 44 } : Room) s m args below meth c H locs 0 0 Q (F0 m 4 ls []))) (Wx := (fun (b : Int32) => ∀ (H : Heap) (locs : List Loc) (ls : Array Slot), zIn D ad cy (WM ad cy u) A s H locs → lv_has ls 3 [(1, .int b)] → W p l e ({ frames := 2, cells := 0, slots := 0, locals := 44 } : Room) s m args below meth c H locs 0 0 Q (F0 m 72 ls []))) ?_ _ a b hit hx9
  intro a x hf hL hX H locs ls hI hl
  unfold bX10_isSeen_4 at hf
  refine lv_iload_n (pc := 4) hx hb dX10_isSeen_4 rfl (lv_at hl 2 rfl) ?_
  refine lv_iconst (pc := 5) (v := 4) hx hb dX10_isSeen_5 (by decide) ?_
  refine z_icmp_ge (pc := 6) (tgt := 72) hx hb dX10_isSeen_6 (by decide) hf (fun hf => ?_) (fun hf => ?_)
  · exact (hX _ (Option.some.inj hf).symm) _ _ _ hI (lv_sub hl [1] rfl)
  refine lv_iload_n (pc := 9) hx hb dX10_isSeen_9 rfl (lv_at hl 1 rfl) ?_
  refine z_if_eq (pc := 10) (tgt := 64) hx hb dX10_isSeen_10 (by decide) hf (fun hf => ?_) (fun hf => ?_)
  · refine lv_iconst (pc := 64) (v := 0) hx hb dX10_isSeen_64 (by decide) ?_
    refine lv_istore_n (pc := 65) (lv' := [(1, .int (0 : Int32)), (0, .ref (ad 0)), (2, .int a.2)]) hx hb dX10_isSeen_65 rfl hl (by decide) rfl (fun ls hl => ?_)
    refine lv_iinc (pc := 66) (v := (a.2 + 1)) (lv' := [(2, .int (a.2 + 1)), (1, .int (0 : Int32)), (0, .ref (ad 0))]) hx hb dX10_isSeen_66 hl (k := 2) rfl rfl (by decide) rfl (fun ls hl => ?_)
    refine lv_goto (pc := 69) (tgt := 4) hx hb dX10_isSeen_69 (by decide) ?_
    exact hL _ (Option.some.inj hf).symm _ _ _ hI (lv_sub hl [2, 1, 0] rfl)
  refine lv_aload_n (pc := 13) hx hb dX10_isSeen_13 rfl (lv_at hl 0 rfl) ?_
  refine z_get (pc := 14) (index := 34) hx hb hts iwX10_isSeen_10 hown hI (ml_0 ad cy u) rfl 19 (by decide) (by decide +kernel) rfl rfl dX10_isSeen_14 ?_
  refine lv_iload_n (pc := 17) hx hb dX10_isSeen_17 rfl (lv_at hl 2 rfl) ?_
  refine z_zald (pc := 18) hx hb hI (ml_9 ad cy u) 3 rfl dX10_isSeen_18 hf (fun v1 hf => ?_)
  refine z_if_eq (pc := 19) (tgt := 31) hx hb dX10_isSeen_19 (by decide) hf (fun hf => ?_) (fun hf => ?_)
  · exact qX10_isSeen_j31_4 C0 hf hL hX hI (lv_sub hl [0, 2] rfl)
  refine lv_aload_n (pc := 22) hx hb dX10_isSeen_22 rfl (lv_at hl 0 rfl) ?_
  refine z_get (pc := 23) (index := 44) hx hb hts iwX10_isSeen_10 hown hI (ml_0 ad cy u) rfl 22 (by decide) (by decide +kernel) rfl rfl dX10_isSeen_23 ?_
  refine lv_iload_n (pc := 26) hx hb dX10_isSeen_26 rfl (lv_at hl 2 rfl) ?_
  refine z_iald (pc := 27) hx hb hI (ml_12 ad cy u) 0 rfl dX10_isSeen_27 hf (fun v7 hf => ?_)
  refine z_if_le (pc := 28) (tgt := 64) hx hb dX10_isSeen_28 (by decide) hf (fun hf => ?_) (fun hf => ?_)
  · refine lv_iconst (pc := 64) (v := 0) hx hb dX10_isSeen_64 (by decide) ?_
    refine lv_istore_n (pc := 65) (lv' := [(1, .int (0 : Int32)), (0, .ref (ad 0)), (2, .int a.2)]) hx hb dX10_isSeen_65 rfl hl (by decide) rfl (fun ls hl => ?_)
    refine lv_iinc (pc := 66) (v := (a.2 + 1)) (lv' := [(2, .int (a.2 + 1)), (1, .int (0 : Int32)), (0, .ref (ad 0))]) hx hb dX10_isSeen_66 hl (k := 2) rfl rfl (by decide) rfl (fun ls hl => ?_)
    refine lv_goto (pc := 69) (tgt := 4) hx hb dX10_isSeen_69 (by decide) ?_
    exact hL _ (Option.some.inj hf).symm _ _ _ hI (lv_sub hl [2, 1, 0] rfl)
  exact qX10_isSeen_j31_4 C0 hf hL hX hI (lv_sub hl [0, 2] rfl)
set_option maxHeartbeats 4000000 in
set_option maxRecDepth 100000 in
theorem kX10_isSeen (l : Launch) (D : va_G) (ad : Nat → Nat) (cy : Nat → ClassId) (k : Nat) (u : MX) (r : Int32) (hf : fX10_isSeen k u = some r) : zCt l yX10_isSeen wsX10_isSeen ({ frames := 2, cells := 0, slots := 0, locals := 44 } : Room) D ad cy [.ref (ad 0)] (WM ad cy u) (some (.int r)) (WM ad cy u) := by
  refine zCt.of (cc := cX10_isSeen) (maxL := 3) (ret := (some .boolean)) (own := RX10) (by decide) rfl rfl ?_
  intro p e s m below meth c A C0 hI
  obtain ⟨hx, hb, hml, hown, hts, hr, hlk⟩ := id C0
  refine z_entry (Nat.le_of_ble_eq_true rfl) (fun ls hl => ?_)
  have hl : lv_has ls 3 [(0, .ref (ad 0))] := hl
  unfold fX10_isSeen at hf
  refine lv_iconst (pc := 0) (v := 1) hx hb dX10_isSeen_0 (by decide) ?_
  refine lv_istore_n (pc := 1) (lv' := [(1, .int (1 : Int32)), (0, .ref (ad 0))]) hx hb dX10_isSeen_1 rfl hl (by decide) rfl (fun ls hl => ?_)
  refine lv_iconst (pc := 2) (v := 0) hx hb dX10_isSeen_2 (by decide) ?_
  refine lv_istore_n (pc := 3) (lv' := [(2, .int (0 : Int32)), (1, .int (1 : Int32)), (0, .ref (ad 0))]) hx hb dX10_isSeen_3 rfl hl (by decide) rfl (fun ls hl => ?_)
  obtain ⟨b8, hb9, hf⟩ := zbind hf
  refine lX10_isSeen_4 C0 hb9 ?_ _ _ _ hI (lv_sub hl [2, 1, 0] rfl)
  intro H locs ls hI hl
  refine lv_iload_n (pc := 72) hx hb dX10_isSeen_72 rfl (lv_at hl 0 rfl) ?_
  obtain ⟨hz, hf⟩ := zbo_of hf
  obtain rfl := zone hf
  exact z_zret (pc := 73) C0 hI hz dX10_isSeen_73
set_option maxHeartbeats 4000000 in
set_option maxRecDepth 100000 in
theorem lX10_layGood_10 (C0 : zFix p m c cX10_layGood 2 s args wsX10_layGood RX10 meth none) {k : Nat} {a : Int32 × MX} {b : MX} (hit : ziter (bX10_layGood_10 k) k a = some b) (hx9 : (fun (b : MX) => ∀ (H : Heap) (locs : List Loc) (ls : Array Slot), zIn D ad cy (WM ad cy b) A s H locs → lv_has ls 2 [(0, .ref (ad 0))] → W p l e ({ frames := 3, cells := 0, slots := 0, locals := 74 } : Room) s m args below meth c H locs 0 0 Q (F0 m 67 ls [])) b) : (fun (a : Int32 × MX) => ∀ (H : Heap) (locs : List Loc) (ls : Array Slot), zIn D ad cy (WM ad cy a.2) A s H locs → lv_has ls 2 [(0, .ref (ad 0)), (1, .int a.1)] → W p l e ({ frames := 3, cells := 0, slots := 0, locals := 74 } : Room) s m args below meth c H locs 0 0 Q (F0 m 10 ls [])) a := by
  obtain ⟨hx, hb, hml, hown, hts, hr, hlk⟩ := id C0
  refine zloop (Wh := (fun (a : Int32 × MX) => ∀ (H : Heap) (locs : List Loc) (ls : Array Slot), zIn D ad cy (WM ad cy a.2) A s H locs → lv_has ls 2 [(0, .ref (ad 0)), (1, .int a.1)] → W p l e ({ frames := 3, cells := 0, slots := 0, locals := 74 } : Room) s m args below meth c H locs 0 0 Q (F0 m 10 ls []))) (Wx := (fun (b : MX) => ∀ (H : Heap) (locs : List Loc) (ls : Array Slot), zIn D ad cy (WM ad cy b) A s H locs → lv_has ls 2 [(0, .ref (ad 0))] → W p l e ({ frames := 3, cells := 0, slots := 0, locals := 74 } : Room) s m args below meth c H locs 0 0 Q (F0 m 67 ls []))) ?_ _ a b hit hx9
  intro a x hf hL hX H locs ls hI hl
  unfold bX10_layGood_10 at hf
  refine lv_iload_n (pc := 10) hx hb dX10_layGood_10 rfl (lv_at hl 1 rfl) ?_
  refine lv_sipush (pc := 11) (v := 14641) hx hb dX10_layGood_11 (by decide) ?_
  refine z_icmp_ge (pc := 14) (tgt := 67) hx hb dX10_layGood_14 (by decide) hf (fun hf => ?_) (fun hf => ?_)
  · exact (hX _ (Option.some.inj hf).symm) _ _ _ hI (lv_sub hl [0] rfl)
  refine lv_aload_n (pc := 17) hx hb dX10_layGood_17 rfl (lv_at hl 0 rfl) ?_
  refine lv_iload_n (pc := 18) hx hb dX10_layGood_18 rfl (lv_at hl 1 rfl) ?_
  obtain ⟨q2, hc1, hf⟩ := zbind hf
  refine zcallVv (pc := 19) (As := [.int a.1]) (rest := []) ⟨hx, hb, hml, hown, hts⟩ (kX10_layLaw l D ad cy k a.1 a.2 q2 hc1) (cwV 1 hts gX10_layGood_X10_layLaw rfl rfl rfl (by decide +kernel) ⟨Nat.le_of_ble_eq_true rfl, Nat.le_of_ble_eq_true rfl⟩) hI rfl (ml_0 ad cy a.2) rfl hl.1 rfl (Nat.le_of_ble_eq_true rfl) dX10_layGood_19 (Nat.zero_le _) (Nat.zero_le _) (fun H locs hI => ?_)
  refine lv_aload_n (pc := 22) hx hb dX10_layGood_22 rfl (lv_at hl 0 rfl) ?_
  refine z_get (pc := 23) (index := 51) hx hb hts iwX10_layGood_10 hown hI (ml_0 ad cy q2) rfl 27 (by decide) (by decide +kernel) rfl rfl dX10_layGood_23 ?_
  refine lv_iload_n (pc := 26) hx hb dX10_layGood_26 rfl (lv_at hl 1 rfl) ?_
  refine lv_aload_n (pc := 27) hx hb dX10_layGood_27 rfl (lv_at hl 0 rfl) ?_
  obtain ⟨q4, hc3, hf⟩ := zbind hf
  refine zcallVi (pc := 28) (As := []) (rest := [.int a.1, .ref (ad 13)]) ⟨hx, hb, hml, hown, hts⟩ (kX10_isSeen l D ad cy k q2 q4 hc3) (cwV 0 hts gX10_layGood_X10_isSeen rfl rfl rfl (by decide +kernel) ⟨Nat.le_of_ble_eq_true rfl, Nat.le_of_ble_eq_true rfl⟩) hI rfl (ml_0 ad cy q2) rfl hl.1 rfl (Nat.le_of_ble_eq_true rfl) dX10_layGood_28 (Nat.zero_le _) (Nat.zero_le _) (fun H locs hI => ?_)
  refine z_if_eq (pc := 31) (tgt := 59) hx hb dX10_layGood_31 (by decide) hf (fun hf => ?_) (fun hf => ?_)
  · refine lv_iconst (pc := 59) (v := 0) hx hb dX10_layGood_59 (by decide) ?_
    refine z_zast (wf := WM ad cy) (pc := 60) hx hb hI (ml_13 ad cy q2) 3 rfl dX10_layGood_60 (fun j => mw_good ad cy q2 (upd (mg_good q2) j (vp_nar .boolean (0 : Int32)))) hf (fun j5 u6 H locs hj5 hI hf => ?_)
    refine lv_iinc (pc := 61) (v := (a.1 + 1)) (lv' := [(1, .int (a.1 + 1)), (0, .ref (ad 0))]) hx hb dX10_layGood_61 hl (k := 1) rfl rfl (by decide) rfl (fun ls hl => ?_)
    refine lv_goto (pc := 64) (tgt := 10) hx hb dX10_layGood_64 (by decide) ?_
    exact hL _ (Option.some.inj hf).symm _ _ _ hI (lv_sub hl [1, 0] rfl)
  refine lv_aload_n (pc := 34) hx hb dX10_layGood_34 rfl (lv_at hl 0 rfl) ?_
  obtain ⟨q8, hc7, hf⟩ := zbind hf
  refine zcallVl (pc := 35) (As := []) (rest := [.int a.1, .ref (ad 13)]) ⟨hx, hb, hml, hown, hts⟩ (kX10_farthest l D ad cy k q2 q8 hc7) (cwV 0 hts gX10_layGood_X10_farthest rfl rfl rfl (by decide +kernel) ⟨Nat.le_of_ble_eq_true rfl, Nat.le_of_ble_eq_true rfl⟩) hI rfl (ml_0 ad cy q2) rfl hl.1 rfl (Nat.le_of_ble_eq_true rfl) dX10_layGood_35 (Nat.zero_le _) (Nat.zero_le _) (fun H locs hI => ?_)
  refine lv_aload_n (pc := 38) hx hb dX10_layGood_38 rfl (lv_at hl 0 rfl) ?_
  refine z_get (pc := 39) (index := 22) hx hb hts iwX10_layGood_10 hown hI (ml_0 ad cy q2) rfl 12 (by decide) (by decide +kernel) rfl rfl dX10_layGood_39 ?_
  refine lv_bipush (pc := 42) (v := 17) hx hb dX10_layGood_42 (by decide) ?_
  refine z_iald (pc := 44) hx hb hI (ml_5 ad cy q2) 0 rfl dX10_layGood_44 hf (fun v9 hf => ?_)
  refine lv_i2l (pc := 45) hx hb dX10_layGood_45 rfl ?_
  refine lv_aload_n (pc := 46) hx hb dX10_layGood_46 rfl (lv_at hl 0 rfl) ?_
  obtain ⟨q11, hc10, hf⟩ := zbind hf
  refine zcallVl (pc := 47) (As := []) (rest := [.long (v9.toInt64), .long q8, .int a.1, .ref (ad 13)]) ⟨hx, hb, hml, hown, hts⟩ (kX10_whole l D ad cy k q2 q11 hc10) (cwV 0 hts gX10_layGood_X10_whole rfl rfl rfl (by decide +kernel) ⟨Nat.le_of_ble_eq_true rfl, Nat.le_of_ble_eq_true rfl⟩) hI rfl (ml_0 ad cy q2) rfl hl.1 rfl (Nat.le_of_ble_eq_true rfl) dX10_layGood_47 (Nat.zero_le _) (Nat.zero_le _) (fun H locs hI => ?_)
  refine lv_lmul (pc := 50) hx hb dX10_layGood_50 ?_
  refine z_lc_gt (pc := 51) (tgt := 59) hx hb dX10_layGood_51 dX10_layGood_52 (by decide) hf (fun hf => ?_) (fun hf => ?_)
  · refine lv_iconst (pc := 59) (v := 0) hx hb dX10_layGood_59 (by decide) ?_
    refine z_zast (wf := WM ad cy) (pc := 60) hx hb hI (ml_13 ad cy q2) 3 rfl dX10_layGood_60 (fun j => mw_good ad cy q2 (upd (mg_good q2) j (vp_nar .boolean (0 : Int32)))) hf (fun j12 u13 H locs hj12 hI hf => ?_)
    refine lv_iinc (pc := 61) (v := (a.1 + 1)) (lv' := [(1, .int (a.1 + 1)), (0, .ref (ad 0))]) hx hb dX10_layGood_61 hl (k := 1) rfl rfl (by decide) rfl (fun ls hl => ?_)
    refine lv_goto (pc := 64) (tgt := 10) hx hb dX10_layGood_64 (by decide) ?_
    exact hL _ (Option.some.inj hf).symm _ _ _ hI (lv_sub hl [1, 0] rfl)
  refine lv_iconst (pc := 55) (v := 1) hx hb dX10_layGood_55 (by decide) ?_
  refine lv_goto (pc := 56) (tgt := 60) hx hb dX10_layGood_56 (by decide) ?_
  refine z_zast (wf := WM ad cy) (pc := 60) hx hb hI (ml_13 ad cy q2) 3 rfl dX10_layGood_60 (fun j => mw_good ad cy q2 (upd (mg_good q2) j (vp_nar .boolean (1 : Int32)))) hf (fun j14 u15 H locs hj14 hI hf => ?_)
  refine lv_iinc (pc := 61) (v := (a.1 + 1)) (lv' := [(1, .int (a.1 + 1)), (0, .ref (ad 0))]) hx hb dX10_layGood_61 hl (k := 1) rfl rfl (by decide) rfl (fun ls hl => ?_)
  refine lv_goto (pc := 64) (tgt := 10) hx hb dX10_layGood_64 (by decide) ?_
  exact hL _ (Option.some.inj hf).symm _ _ _ hI (lv_sub hl [1, 0] rfl)
set_option maxHeartbeats 4000000 in
set_option maxRecDepth 100000 in
theorem kX10_layGood (l : Launch) (D : va_G) (ad : Nat → Nat) (cy : Nat → ClassId) (k : Nat) (u : MX) (u' : MX) (hf : fX10_layGood k u = some u') : zCt l yX10_layGood wsX10_layGood ({ frames := 3, cells := 0, slots := 0, locals := 74 } : Room) D ad cy [.ref (ad 0)] (WM ad cy u) none (WM ad cy u') := by
  refine zCt.of (cc := cX10_layGood) (maxL := 2) (ret := none) (own := RX10) (by decide) rfl rfl ?_
  intro p e s m below meth c A C0 hI
  obtain ⟨hx, hb, hml, hown, hts, hr, hlk⟩ := id C0
  refine z_entry (Nat.le_of_ble_eq_true rfl) (fun ls hl => ?_)
  have hl : lv_has ls 2 [(0, .ref (ad 0))] := hl
  unfold fX10_layGood at hf
  refine lv_aload_n (pc := 0) hx hb dX10_layGood_0 rfl (lv_at hl 0 rfl) ?_
  refine z_get (pc := 1) (index := 47) hx hb hts iwX10_layGood_10 hown hI (ml_0 ad cy u) rfl 26 (by decide) (by decide +kernel) rfl rfl dX10_layGood_1 ?_
  refine z_if_ne (pc := 4) (tgt := 8) hx hb dX10_layGood_4 (by decide) hf (fun hf => ?_) (fun hf => ?_)
  · refine lv_iconst (pc := 8) (v := 0) hx hb dX10_layGood_8 (by decide) ?_
    refine lv_istore_n (pc := 9) (lv' := [(1, .int (0 : Int32)), (0, .ref (ad 0))]) hx hb dX10_layGood_9 rfl hl (by decide) rfl (fun ls hl => ?_)
    obtain ⟨b16, hb17, hf⟩ := zbind hf
    refine lX10_layGood_10 C0 hb17 ?_ _ _ _ hI (lv_sub hl [1, 0] rfl)
    intro H locs ls hI hl
    refine lv_aload_n (pc := 67) hx hb dX10_layGood_67 rfl (lv_at hl 0 rfl) ?_
    refine lv_iconst (pc := 68) (v := 0) hx hb dX10_layGood_68 (by decide) ?_
    refine z_put (wf := WM ad cy) (pc := 69) (index := 47) hx hb hts iwX10_layGood_10 tyX10 tyX10_ok nmX10 hown hI (ml_0 ad cy b16) rfl 26 (by decide) (by decide +kernel) rfl rfl rfl rfl (Nat.le_of_ble_eq_true rfl) dX10_layGood_69 (mw_old ad cy b16 (0 : Int32)) hf (fun u18 H locs hI hf => ?_)
    obtain rfl := zone hf
    exact z_vret (pc := 72) C0 hI dX10_layGood_72
  obtain rfl := zone hf
  exact z_vret (pc := 7) C0 hI dX10_layGood_7
set_option maxHeartbeats 4000000 in
set_option maxRecDepth 100000 in
theorem kX10_fits (l : Launch) (D : va_G) (ad : Nat → Nat) (cy : Nat → ClassId) (k : Nat) (a1 : Int32) (u : MX) (r : Int32) (u' : MX) (hf : fX10_fits k a1 u = some (r, u')) : zCt l yX10_fits wsX10_fits ({ frames := 4, cells := 0, slots := 0, locals := 95 } : Room) D ad cy [.ref (ad 0), .int a1] (WM ad cy u) (some (.int r)) (WM ad cy u') := by
  refine zCt.of (cc := cX10_fits) (maxL := 2) (ret := (some .int)) (own := RX10) (by decide) rfl rfl ?_
  intro p e s m below meth c A C0 hI
  obtain ⟨hx, hb, hml, hown, hts, hr, hlk⟩ := id C0
  refine z_entry (Nat.le_of_ble_eq_true rfl) (fun ls hl => ?_)
  have hl : lv_has ls 2 [(0, .ref (ad 0)), (1, .int a1)] := hl
  unfold fX10_fits at hf
  refine lv_iload_n (pc := 0) hx hb dX10_fits_0 rfl (lv_at hl 1 rfl) ?_
  obtain ⟨q2, hc1, hf⟩ := zbind hf
  refine zcallSi (pc := 1) (As := [.int a1]) (rest := []) ⟨hx, hb, hml, hown, hts⟩ (kX10_isLaw l a1 q2 hc1) (va_cwS 1 hts gX10_fits_X10_isLaw rfl rfl rfl (by decide +kernel) ⟨Nat.le_of_ble_eq_true rfl, Nat.le_of_ble_eq_true rfl⟩) rfl hl.1 rfl (Nat.le_of_ble_eq_true rfl) dX10_fits_1 (Nat.zero_le _) (Nat.zero_le _) ?_
  refine z_if_ne (pc := 4) (tgt := 9) hx hb dX10_fits_4 (by decide) hf (fun hf => ?_) (fun hf => ?_)
  · refine lv_aload_n (pc := 9) hx hb dX10_fits_9 rfl (lv_at hl 0 rfl) ?_
    obtain ⟨q4, hc3, hf⟩ := zbind hf
    refine zcallVv (pc := 10) (As := []) (rest := []) ⟨hx, hb, hml, hown, hts⟩ (kX10_layGood l D ad cy k u q4 hc3) (cwV 0 hts gX10_fits_X10_layGood rfl rfl rfl (by decide +kernel) ⟨Nat.le_of_ble_eq_true rfl, Nat.le_of_ble_eq_true rfl⟩) hI rfl (ml_0 ad cy u) rfl hl.1 rfl (Nat.le_of_ble_eq_true rfl) dX10_fits_10 (Nat.zero_le _) (Nat.zero_le _) (fun H locs hI => ?_)
    refine lv_aload_n (pc := 13) hx hb dX10_fits_13 rfl (lv_at hl 0 rfl) ?_
    refine z_get (pc := 14) (index := 51) hx hb hts iwX10_fits_10 hown hI (ml_0 ad cy q4) rfl 27 (by decide) (by decide +kernel) rfl rfl dX10_fits_14 ?_
    refine lv_iload_n (pc := 17) hx hb dX10_fits_17 rfl (lv_at hl 1 rfl) ?_
    refine z_zald (pc := 18) hx hb hI (ml_13 ad cy q4) 3 rfl dX10_fits_18 hf (fun v5 hf => ?_)
    refine z_if_eq (pc := 19) (tgt := 26) hx hb dX10_fits_19 (by decide) hf (fun hf => ?_) (fun hf => ?_)
    · refine lv_iconst (pc := 26) (v := 0) hx hb dX10_fits_26 (by decide) ?_
      obtain ⟨rfl, rfl⟩ := zpair hf
      exact z_iret (pc := 27) C0 hI dX10_fits_27
    refine lv_iconst (pc := 22) (v := 1) hx hb dX10_fits_22 (by decide) ?_
    refine lv_goto (pc := 23) (tgt := 27) hx hb dX10_fits_23 (by decide) ?_
    obtain ⟨rfl, rfl⟩ := zpair hf
    exact z_iret (pc := 27) C0 hI dX10_fits_27
  refine lv_iconst (pc := 7) (v := -1) hx hb dX10_fits_7 (by decide) ?_
  obtain ⟨rfl, rfl⟩ := zpair hf
  exact z_iret (pc := 8) C0 hI dX10_fits_8
set_option maxHeartbeats 4000000 in
set_option maxRecDepth 100000 in
theorem lX10_firstFrom_2 (C0 : zFix p m c cX10_firstFrom 3 s args wsX10_firstFrom RX10 meth (some .int)) {k : Nat} {u : MX} {a : Int32} {b : Int32} (hit : ziter (bX10_firstFrom_2 k u) k a = some b) (hx9 : (fun (b : Int32) => ∀ (H : Heap) (locs : List Loc) (ls : Array Slot), zIn D ad cy (WM ad cy u) A s H locs → lv_has ls 3 [(2, .int b)] → W p l e ({ frames := 0, cells := 0, slots := 0, locals := 0 } : Room) s m args below meth c H locs 0 0 Q (F0 m 24 ls [])) b) : (fun (a : Int32) => ∀ (H : Heap) (locs : List Loc) (ls : Array Slot), zIn D ad cy (WM ad cy u) A s H locs → lv_has ls 3 [(0, .ref (ad 0)), (2, .int a)] → W p l e ({ frames := 0, cells := 0, slots := 0, locals := 0 } : Room) s m args below meth c H locs 0 0 Q (F0 m 2 ls [])) a := by
  obtain ⟨hx, hb, hml, hown, hts, hr, hlk⟩ := id C0
  refine zloop (Wh := (fun (a : Int32) => ∀ (H : Heap) (locs : List Loc) (ls : Array Slot), zIn D ad cy (WM ad cy u) A s H locs → lv_has ls 3 [(0, .ref (ad 0)), (2, .int a)] → W p l e ({ frames := 0, cells := 0, slots := 0, locals := 0 } : Room) s m args below meth c H locs 0 0 Q (F0 m 2 ls []))) (Wx := (fun (b : Int32) => ∀ (H : Heap) (locs : List Loc) (ls : Array Slot), zIn D ad cy (WM ad cy u) A s H locs → lv_has ls 3 [(2, .int b)] → W p l e ({ frames := 0, cells := 0, slots := 0, locals := 0 } : Room) s m args below meth c H locs 0 0 Q (F0 m 24 ls []))) ?_ _ a b hit hx9
  intro a x hf hL hX H locs ls hI hl
  unfold bX10_firstFrom_2 at hf
  refine lv_iload_n (pc := 2) hx hb dX10_firstFrom_2 rfl (lv_at hl 1 rfl) ?_
  refine lv_sipush (pc := 3) (v := 14641) hx hb dX10_firstFrom_3 (by decide) ?_
  refine z_icmp_ge (pc := 6) (tgt := 24) hx hb dX10_firstFrom_6 (by decide) hf (fun hf => ?_) (fun hf => ?_)
  · exact (hX _ (Option.some.inj hf).symm) _ _ _ hI (lv_sub hl [1] rfl)
  refine lv_aload_n (pc := 9) hx hb dX10_firstFrom_9 rfl (lv_at hl 0 rfl) ?_
  refine z_get (pc := 10) (index := 51) hx hb hts iwX10_firstFrom_10 hown hI (ml_0 ad cy u) rfl 27 (by decide) (by decide +kernel) rfl rfl dX10_firstFrom_10 ?_
  refine lv_iload_n (pc := 13) hx hb dX10_firstFrom_13 rfl (lv_at hl 1 rfl) ?_
  refine z_zald (pc := 14) hx hb hI (ml_13 ad cy u) 3 rfl dX10_firstFrom_14 hf (fun v1 hf => ?_)
  refine z_if_ne (pc := 15) (tgt := 24) hx hb dX10_firstFrom_15 (by decide) hf (fun hf => ?_) (fun hf => ?_)
  · exact (hX _ (Option.some.inj hf).symm) _ _ _ hI (lv_sub hl [1] rfl)
  refine lv_iinc (pc := 18) (v := (a + 1)) (lv' := [(2, .int (a + 1)), (0, .ref (ad 0))]) hx hb dX10_firstFrom_18 hl (k := 1) rfl rfl (by decide) rfl (fun ls hl => ?_)
  refine lv_goto (pc := 21) (tgt := 2) hx hb dX10_firstFrom_21 (by decide) ?_
  exact hL _ (Option.some.inj hf).symm _ _ _ hI (lv_sub hl [1, 0] rfl)
set_option maxHeartbeats 4000000 in
set_option maxRecDepth 100000 in
theorem kX10_firstFrom (l : Launch) (D : va_G) (ad : Nat → Nat) (cy : Nat → ClassId) (k : Nat) (a1 : Int32) (u : MX) (r : Int32) (hf : fX10_firstFrom k a1 u = some r) : zCt l yX10_firstFrom wsX10_firstFrom ({ frames := 0, cells := 0, slots := 0, locals := 0 } : Room) D ad cy [.ref (ad 0), .int a1] (WM ad cy u) (some (.int r)) (WM ad cy u) := by
  refine zCt.of (cc := cX10_firstFrom) (maxL := 3) (ret := (some .int)) (own := RX10) (by decide) rfl rfl ?_
  intro p e s m below meth c A C0 hI
  obtain ⟨hx, hb, hml, hown, hts, hr, hlk⟩ := id C0
  refine z_entry (Nat.le_of_ble_eq_true rfl) (fun ls hl => ?_)
  have hl : lv_has ls 3 [(0, .ref (ad 0)), (1, .int a1)] := hl
  unfold fX10_firstFrom at hf
  refine lv_iload_n (pc := 0) hx hb dX10_firstFrom_0 rfl (lv_at hl 1 rfl) ?_
  refine lv_istore_n (pc := 1) (lv' := [(2, .int a1), (0, .ref (ad 0)), (1, .int a1)]) hx hb dX10_firstFrom_1 rfl hl (by decide) rfl (fun ls hl => ?_)
  obtain ⟨b2, hb3, hf⟩ := zbind hf
  refine lX10_firstFrom_2 C0 hb3 ?_ _ _ _ hI (lv_sub hl [1, 0] rfl)
  intro H locs ls hI hl
  refine lv_iload_n (pc := 24) hx hb dX10_firstFrom_24 rfl (lv_at hl 0 rfl) ?_
  refine lv_sipush (pc := 25) (v := 14641) hx hb dX10_firstFrom_25 (by decide) ?_
  refine z_icmp_ge (pc := 28) (tgt := 35) hx hb dX10_firstFrom_28 (by decide) hf (fun hf => ?_) (fun hf => ?_)
  · refine lv_bipush (pc := 35) (v := -4) hx hb dX10_firstFrom_35 (by decide) ?_
    obtain rfl := zone hf
    exact z_iret (pc := 37) C0 hI dX10_firstFrom_37
  refine lv_iload_n (pc := 31) hx hb dX10_firstFrom_31 rfl (lv_at hl 0 rfl) ?_
  refine lv_goto (pc := 32) (tgt := 37) hx hb dX10_firstFrom_32 (by decide) ?_
  obtain rfl := zone hf
  exact z_iret (pc := 37) C0 hI dX10_firstFrom_37
set_option maxHeartbeats 4000000 in
set_option maxRecDepth 100000 in
theorem lX10_laws_26 (C0 : zFix p m c cX10_laws 5 s args wsX10_laws RX10 meth (some .int)) {k : Nat} {p1 : Int32} {u : MX} {a : Int32 × Int32 × Int32} {b : Int32 × Int32} (hit : ziter (bX10_laws_26 k p1 u) k a = some b) (hx9 : (fun (b : Int32 × Int32) => ∀ (H : Heap) (locs : List Loc) (ls : Array Slot), zIn D ad cy (WM ad cy u) A s H locs → lv_has ls 5 [(0, .ref (ad 0)), (1, .int p1), (2, .int b.1), (3, .int b.2)] → W p l e ({ frames := 4, cells := 0, slots := 0, locals := 95 } : Room) s m args below meth c H locs 0 0 Q (F0 m 75 ls [])) b) : (fun (a : Int32 × Int32 × Int32) => ∀ (H : Heap) (locs : List Loc) (ls : Array Slot), zIn D ad cy (WM ad cy u) A s H locs → lv_has ls 5 [(0, .ref (ad 0)), (1, .int p1), (2, .int a.1), (3, .int a.2.1), (4, .int a.2.2)] → W p l e ({ frames := 4, cells := 0, slots := 0, locals := 95 } : Room) s m args below meth c H locs 0 0 Q (F0 m 26 ls [])) a := by
  obtain ⟨hx, hb, hml, hown, hts, hr, hlk⟩ := id C0
  refine zloop (Wh := (fun (a : Int32 × Int32 × Int32) => ∀ (H : Heap) (locs : List Loc) (ls : Array Slot), zIn D ad cy (WM ad cy u) A s H locs → lv_has ls 5 [(0, .ref (ad 0)), (1, .int p1), (2, .int a.1), (3, .int a.2.1), (4, .int a.2.2)] → W p l e ({ frames := 4, cells := 0, slots := 0, locals := 95 } : Room) s m args below meth c H locs 0 0 Q (F0 m 26 ls []))) (Wx := (fun (b : Int32 × Int32) => ∀ (H : Heap) (locs : List Loc) (ls : Array Slot), zIn D ad cy (WM ad cy u) A s H locs → lv_has ls 5 [(0, .ref (ad 0)), (1, .int p1), (2, .int b.1), (3, .int b.2)] → W p l e ({ frames := 4, cells := 0, slots := 0, locals := 95 } : Room) s m args below meth c H locs 0 0 Q (F0 m 75 ls []))) ?_ _ a b hit hx9
  intro a x hf hL hX H locs ls hI hl
  unfold bX10_laws_26 at hf
  refine lv_iload (pc := 26) hx hb dX10_laws_26 (lv_at hl 4 rfl) ?_
  refine lv_sipush (pc := 28) (v := 14641) hx hb dX10_laws_28 (by decide) ?_
  refine z_icmp_ge (pc := 31) (tgt := 75) hx hb dX10_laws_31 (by decide) hf (fun hf => ?_) (fun hf => ?_)
  · exact (hX _ (Option.some.inj hf).symm) _ _ _ hI (lv_sub hl [0, 1, 2, 3] rfl)
  refine lv_iload_n (pc := 34) hx hb dX10_laws_34 rfl (lv_at hl 2 rfl) ?_
  refine lv_aload_n (pc := 35) hx hb dX10_laws_35 rfl (lv_at hl 0 rfl) ?_
  refine z_get (pc := 36) (index := 51) hx hb hts iwX10_laws_10 hown hI (ml_0 ad cy u) rfl 27 (by decide) (by decide +kernel) rfl rfl dX10_laws_36 ?_
  refine lv_iload (pc := 39) hx hb dX10_laws_39 (lv_at hl 4 rfl) ?_
  refine z_zald (pc := 41) hx hb hI (ml_13 ad cy u) 3 rfl dX10_laws_41 hf (fun v5 hf => ?_)
  refine z_if_eq (pc := 42) (tgt := 49) hx hb dX10_laws_42 (by decide) hf (fun hf => ?_) (fun hf => ?_)
  · refine lv_iconst (pc := 49) (v := 0) hx hb dX10_laws_49 (by decide) ?_
    refine lv_iadd (pc := 50) hx hb dX10_laws_50 ?_
    refine z_bi hf (fun v6 hf => ?_)
    refine lv_istore_n (pc := 51) (lv' := [(2, .int v6), (0, .ref (ad 0)), (1, .int p1), (3, .int a.2.1), (4, .int a.2.2)]) hx hb dX10_laws_51 rfl hl (by decide) rfl (fun ls hl => ?_)
    refine lv_aload_n (pc := 52) hx hb dX10_laws_52 rfl (lv_at hl 1 rfl) ?_
    refine z_get (pc := 53) (index := 51) hx hb hts iwX10_laws_10 hown hI (ml_0 ad cy u) rfl 27 (by decide) (by decide +kernel) rfl rfl dX10_laws_53 ?_
    refine lv_iload (pc := 56) hx hb dX10_laws_56 (lv_at hl 4 rfl) ?_
    refine z_zald (pc := 58) hx hb hI (ml_13 ad cy u) 3 rfl dX10_laws_58 hf (fun v7 hf => ?_)
    refine z_if_eq (pc := 59) (tgt := 67) hx hb dX10_laws_59 (by decide) hf (fun hf => ?_) (fun hf => ?_)
    · refine lv_iload_n (pc := 67) hx hb dX10_laws_67 rfl (lv_at hl 3 rfl) ?_
      refine lv_istore_n (pc := 68) (lv' := [(3, .int a.2.1), (2, .int v6), (0, .ref (ad 0)), (1, .int p1), (4, .int a.2.2)]) hx hb dX10_laws_68 rfl hl (by decide) rfl (fun ls hl => ?_)
      refine lv_iinc (pc := 69) (v := (a.2.2 + 1)) (lv' := [(4, .int (a.2.2 + 1)), (3, .int a.2.1), (2, .int v6), (0, .ref (ad 0)), (1, .int p1)]) hx hb dX10_laws_69 hl (k := 4) rfl rfl (by decide) rfl (fun ls hl => ?_)
      refine lv_goto (pc := 72) (tgt := 26) hx hb dX10_laws_72 (by decide) ?_
      exact hL _ (Option.some.inj hf).symm _ _ _ hI (lv_sub hl [3, 4, 2, 1, 0] rfl)
    refine lv_iload (pc := 62) hx hb dX10_laws_62 (lv_at hl 4 rfl) ?_
    refine lv_goto (pc := 64) (tgt := 68) hx hb dX10_laws_64 (by decide) ?_
    refine lv_istore_n (pc := 68) (lv' := [(3, .int a.2.2), (2, .int v6), (0, .ref (ad 0)), (1, .int p1), (4, .int a.2.2)]) hx hb dX10_laws_68 rfl hl (by decide) rfl (fun ls hl => ?_)
    refine lv_iinc (pc := 69) (v := (a.2.2 + 1)) (lv' := [(4, .int (a.2.2 + 1)), (3, .int a.2.2), (2, .int v6), (0, .ref (ad 0)), (1, .int p1)]) hx hb dX10_laws_69 hl (k := 4) rfl rfl (by decide) rfl (fun ls hl => ?_)
    refine lv_goto (pc := 72) (tgt := 26) hx hb dX10_laws_72 (by decide) ?_
    exact hL _ (Option.some.inj hf).symm _ _ _ hI (lv_sub hl [3, 4, 2, 1, 0] rfl)
  refine lv_iconst (pc := 45) (v := 1) hx hb dX10_laws_45 (by decide) ?_
  refine lv_goto (pc := 46) (tgt := 50) hx hb dX10_laws_46 (by decide) ?_
  refine lv_iadd (pc := 50) hx hb dX10_laws_50 ?_
  refine z_bi hf (fun v8 hf => ?_)
  refine lv_istore_n (pc := 51) (lv' := [(2, .int v8), (0, .ref (ad 0)), (1, .int p1), (3, .int a.2.1), (4, .int a.2.2)]) hx hb dX10_laws_51 rfl hl (by decide) rfl (fun ls hl => ?_)
  refine lv_aload_n (pc := 52) hx hb dX10_laws_52 rfl (lv_at hl 1 rfl) ?_
  refine z_get (pc := 53) (index := 51) hx hb hts iwX10_laws_10 hown hI (ml_0 ad cy u) rfl 27 (by decide) (by decide +kernel) rfl rfl dX10_laws_53 ?_
  refine lv_iload (pc := 56) hx hb dX10_laws_56 (lv_at hl 4 rfl) ?_
  refine z_zald (pc := 58) hx hb hI (ml_13 ad cy u) 3 rfl dX10_laws_58 hf (fun v9 hf => ?_)
  refine z_if_eq (pc := 59) (tgt := 67) hx hb dX10_laws_59 (by decide) hf (fun hf => ?_) (fun hf => ?_)
  · refine lv_iload_n (pc := 67) hx hb dX10_laws_67 rfl (lv_at hl 3 rfl) ?_
    refine lv_istore_n (pc := 68) (lv' := [(3, .int a.2.1), (2, .int v8), (0, .ref (ad 0)), (1, .int p1), (4, .int a.2.2)]) hx hb dX10_laws_68 rfl hl (by decide) rfl (fun ls hl => ?_)
    refine lv_iinc (pc := 69) (v := (a.2.2 + 1)) (lv' := [(4, .int (a.2.2 + 1)), (3, .int a.2.1), (2, .int v8), (0, .ref (ad 0)), (1, .int p1)]) hx hb dX10_laws_69 hl (k := 4) rfl rfl (by decide) rfl (fun ls hl => ?_)
    refine lv_goto (pc := 72) (tgt := 26) hx hb dX10_laws_72 (by decide) ?_
    exact hL _ (Option.some.inj hf).symm _ _ _ hI (lv_sub hl [3, 4, 2, 1, 0] rfl)
  refine lv_iload (pc := 62) hx hb dX10_laws_62 (lv_at hl 4 rfl) ?_
  refine lv_goto (pc := 64) (tgt := 68) hx hb dX10_laws_64 (by decide) ?_
  refine lv_istore_n (pc := 68) (lv' := [(3, .int a.2.2), (2, .int v8), (0, .ref (ad 0)), (1, .int p1), (4, .int a.2.2)]) hx hb dX10_laws_68 rfl hl (by decide) rfl (fun ls hl => ?_)
  refine lv_iinc (pc := 69) (v := (a.2.2 + 1)) (lv' := [(4, .int (a.2.2 + 1)), (3, .int a.2.2), (2, .int v8), (0, .ref (ad 0)), (1, .int p1)]) hx hb dX10_laws_69 hl (k := 4) rfl rfl (by decide) rfl (fun ls hl => ?_)
  refine lv_goto (pc := 72) (tgt := 26) hx hb dX10_laws_72 (by decide) ?_
  exact hL _ (Option.some.inj hf).symm _ _ _ hI (lv_sub hl [3, 4, 2, 1, 0] rfl)
set_option maxHeartbeats 4000000 in
set_option maxRecDepth 100000 in
theorem kX10_laws (l : Launch) (D : va_G) (ad : Nat → Nat) (cy : Nat → ClassId) (k : Nat) (a1 : Int32) (u : MX) (r : Int32) (u' : MX) (hf : fX10_laws k a1 u = some (r, u')) : zCt l yX10_laws wsX10_laws ({ frames := 4, cells := 0, slots := 0, locals := 95 } : Room) D ad cy [.ref (ad 0), .int a1] (WM ad cy u) (some (.int r)) (WM ad cy u') := by
  refine zCt.of (cc := cX10_laws) (maxL := 5) (ret := (some .int)) (own := RX10) (by decide) rfl rfl ?_
  intro p e s m below meth c A C0 hI
  obtain ⟨hx, hb, hml, hown, hts, hr, hlk⟩ := id C0
  refine z_entry (Nat.le_of_ble_eq_true rfl) (fun ls hl => ?_)
  have hl : lv_has ls 5 [(0, .ref (ad 0)), (1, .int a1)] := hl
  unfold fX10_laws at hf
  refine lv_iload_n (pc := 0) hx hb dX10_laws_0 rfl (lv_at hl 1 rfl) ?_
  refine lv_i2l (pc := 1) hx hb dX10_laws_1 rfl ?_
  refine lv_lconst (pc := 2) (v := 0) hx hb dX10_laws_2 (by decide) ?_
  refine lv_ldc2 (pc := 3) (v := 2) hx hb hown (hts (.constantLong RX10 136 (2)) (by decide +kernel)) dX10_laws_3 ?_
  obtain ⟨q2, hc1, hf⟩ := zbind hf
  refine zcallSi (pc := 6) (As := [.long (a1.toInt64), .long (0 : Int64), .long (2 : Int64)]) (rest := []) ⟨hx, hb, hml, hown, hts⟩ (kX10_in l (a1.toInt64) (0 : Int64) (2 : Int64) q2 hc1) (va_cwS 3 hts gX10_laws_X10_in rfl rfl rfl (by decide +kernel) ⟨Nat.le_of_ble_eq_true rfl, Nat.le_of_ble_eq_true rfl⟩) rfl hl.1 rfl (Nat.le_of_ble_eq_true rfl) dX10_laws_6 (Nat.zero_le _) (Nat.zero_le _) ?_
  refine z_if_ne (pc := 9) (tgt := 14) hx hb dX10_laws_9 (by decide) hf (fun hf => ?_) (fun hf => ?_)
  · refine lv_aload_n (pc := 14) hx hb dX10_laws_14 rfl (lv_at hl 0 rfl) ?_
    obtain ⟨q4, hc3, hf⟩ := zbind hf
    refine zcallVv (pc := 15) (As := []) (rest := []) ⟨hx, hb, hml, hown, hts⟩ (kX10_layGood l D ad cy k u q4 hc3) (cwV 0 hts gX10_laws_X10_layGood rfl rfl rfl (by decide +kernel) ⟨Nat.le_of_ble_eq_true rfl, Nat.le_of_ble_eq_true rfl⟩) hI rfl (ml_0 ad cy u) rfl hl.1 rfl (Nat.le_of_ble_eq_true rfl) dX10_laws_15 (Nat.zero_le _) (Nat.zero_le _) (fun H locs hI => ?_)
    refine lv_iconst (pc := 18) (v := 0) hx hb dX10_laws_18 (by decide) ?_
    refine lv_istore_n (pc := 19) (lv' := [(2, .int (0 : Int32)), (0, .ref (ad 0)), (1, .int a1)]) hx hb dX10_laws_19 rfl hl (by decide) rfl (fun ls hl => ?_)
    refine lv_bipush (pc := 20) (v := -4) hx hb dX10_laws_20 (by decide) ?_
    refine lv_istore_n (pc := 22) (lv' := [(3, .int (-4 : Int32)), (2, .int (0 : Int32)), (0, .ref (ad 0)), (1, .int a1)]) hx hb dX10_laws_22 rfl hl (by decide) rfl (fun ls hl => ?_)
    refine lv_iconst (pc := 23) (v := 0) hx hb dX10_laws_23 (by decide) ?_
    refine lv_istore (pc := 24) (lv' := [(4, .int (0 : Int32)), (3, .int (-4 : Int32)), (2, .int (0 : Int32)), (0, .ref (ad 0)), (1, .int a1)]) hx hb dX10_laws_24 hl (by decide) rfl (fun ls hl => ?_)
    obtain ⟨b10, hb11, hf⟩ := zbind hf
    refine lX10_laws_26 C0 hb11 ?_ _ _ _ hI (lv_sub hl [3, 4, 2, 1, 0] rfl)
    intro H locs ls hI hl
    refine lv_iload_n (pc := 75) hx hb dX10_laws_75 rfl (lv_at hl 1 rfl) ?_
    refine z_if_ne (pc := 76) (tgt := 83) hx hb dX10_laws_76 (by decide) hf (fun hf => ?_) (fun hf => ?_)
    · refine lv_iload_n (pc := 83) hx hb dX10_laws_83 rfl (lv_at hl 1 rfl) ?_
      refine lv_iconst (pc := 84) (v := 1) hx hb dX10_laws_84 (by decide) ?_
      refine z_icmp_ne (pc := 85) (tgt := 96) hx hb dX10_laws_85 (by decide) hf (fun hf => ?_) (fun hf => ?_)
      · refine lv_iload_n (pc := 96) hx hb dX10_laws_96 rfl (lv_at hl 3 rfl) ?_
        obtain ⟨rfl, rfl⟩ := zpair hf
        exact z_iret (pc := 97) C0 hI dX10_laws_97
      refine lv_aload_n (pc := 88) hx hb dX10_laws_88 rfl (lv_at hl 0 rfl) ?_
      refine lv_iconst (pc := 89) (v := 0) hx hb dX10_laws_89 (by decide) ?_
      obtain ⟨q13, hc12, hf⟩ := zbind hf
      refine zcallVi (pc := 90) (As := [.int (0 : Int32)]) (rest := []) ⟨hx, hb, hml, hown, hts⟩ (kX10_firstFrom l D ad cy k (0 : Int32) q4 q13 hc12) (cwV 1 hts gX10_laws_X10_firstFrom rfl rfl rfl (by decide +kernel) ⟨Nat.le_of_ble_eq_true rfl, Nat.le_of_ble_eq_true rfl⟩) hI rfl (ml_0 ad cy q4) rfl hl.1 rfl (Nat.le_of_ble_eq_true rfl) dX10_laws_90 (Nat.zero_le _) (Nat.zero_le _) (fun H locs hI => ?_)
      refine lv_goto (pc := 93) (tgt := 97) hx hb dX10_laws_93 (by decide) ?_
      obtain ⟨rfl, rfl⟩ := zpair hf
      exact z_iret (pc := 97) C0 hI dX10_laws_97
    refine lv_iload_n (pc := 79) hx hb dX10_laws_79 rfl (lv_at hl 2 rfl) ?_
    refine lv_goto (pc := 80) (tgt := 97) hx hb dX10_laws_80 (by decide) ?_
    obtain ⟨rfl, rfl⟩ := zpair hf
    exact z_iret (pc := 97) C0 hI dX10_laws_97
  refine lv_iconst (pc := 12) (v := -1) hx hb dX10_laws_12 (by decide) ?_
  obtain ⟨rfl, rfl⟩ := zpair hf
  exact z_iret (pc := 13) C0 hI dX10_laws_13
set_option maxHeartbeats 4000000 in
set_option maxRecDepth 100000 in
theorem lX10_fallsOf_4 (C0 : zFix p m c cX10_fallsOf 4 s args wsX10_fallsOf RX10 meth (some .int)) {k : Nat} {p1 : Int32} {a : Int32 × Int32} {b : Int32} (hit : ziter (bX10_fallsOf_4 k p1) k a = some b) (hx9 : (fun (b : Int32) => ∀ (ls : Array Slot), lv_has ls 4 [(2, .int b)] → W p l e ({ frames := 0, cells := 0, slots := 0, locals := 0 } : Room) s m args below meth c s.heap [] 0 0 Q (F0 m 20 ls [])) b) : (fun (a : Int32 × Int32) => ∀ (ls : Array Slot), lv_has ls 4 [(1, .int p1), (2, .int a.1), (3, .int a.2)] → W p l e ({ frames := 0, cells := 0, slots := 0, locals := 0 } : Room) s m args below meth c s.heap [] 0 0 Q (F0 m 4 ls [])) a := by
  obtain ⟨hx, hb, hml, hown, hts, hr, hlk⟩ := id C0
  refine zloop (Wh := (fun (a : Int32 × Int32) => ∀ (ls : Array Slot), lv_has ls 4 [(1, .int p1), (2, .int a.1), (3, .int a.2)] → W p l e ({ frames := 0, cells := 0, slots := 0, locals := 0 } : Room) s m args below meth c s.heap [] 0 0 Q (F0 m 4 ls []))) (Wx := (fun (b : Int32) => ∀ (ls : Array Slot), lv_has ls 4 [(2, .int b)] → W p l e ({ frames := 0, cells := 0, slots := 0, locals := 0 } : Room) s m args below meth c s.heap [] 0 0 Q (F0 m 20 ls []))) ?_ _ a b hit hx9
  intro a x hf hL hX ls hl
  unfold bX10_fallsOf_4 at hf
  refine lv_iload_n (pc := 4) hx hb dX10_fallsOf_4 rfl (lv_at hl 2 rfl) ?_
  refine lv_iload_n (pc := 5) hx hb dX10_fallsOf_5 rfl (lv_at hl 0 rfl) ?_
  refine z_icmp_le (pc := 6) (tgt := 20) hx hb dX10_fallsOf_6 (by decide) hf (fun hf => ?_) (fun hf => ?_)
  · exact (hX _ (Option.some.inj hf).symm) _ (lv_sub hl [1] rfl)
  refine lv_iload_n (pc := 9) hx hb dX10_fallsOf_9 rfl (lv_at hl 1 rfl) ?_
  refine lv_bipush (pc := 10) (v := 11) hx hb dX10_fallsOf_10 (by decide) ?_
  refine z_idiv (pc := 12) hx hb dX10_fallsOf_12 hf (fun hf => ?_)
  refine z_bi hf (fun v1 hf => ?_)
  refine lv_istore_n (pc := 13) (lv' := [(2, .int v1), (1, .int p1), (3, .int a.2)]) hx hb dX10_fallsOf_13 rfl hl (by decide) rfl (fun ls hl => ?_)
  refine lv_iinc (pc := 14) (v := (a.2 + (-1))) (lv' := [(3, .int (a.2 + (-1))), (2, .int v1), (1, .int p1)]) hx hb dX10_fallsOf_14 hl (k := 2) rfl rfl (by decide) rfl (fun ls hl => ?_)
  refine lv_goto (pc := 17) (tgt := 4) hx hb dX10_fallsOf_17 (by decide) ?_
  exact hL _ (Option.some.inj hf).symm _ (lv_sub hl [2, 1, 0] rfl)
set_option maxHeartbeats 4000000 in
set_option maxRecDepth 100000 in
theorem kX10_fallsOf (l : Launch) (k : Nat) (a1 : Int32) (a2 : Int32) (r : Int32) (hf : fX10_fallsOf k a1 a2 = some r) : zSt l yX10_fallsOf wsX10_fallsOf ({ frames := 0, cells := 0, slots := 0, locals := 0 } : Room) [.int a1, .int a2] (some (.int r)) := by
  refine zSt.of (cc := cX10_fallsOf) (maxL := 4) (ret := (some .int)) (own := RX10) (by decide) rfl rfl ?_
  intro p e s m below meth c C0
  obtain ⟨hx, hb, hml, hown, hts, hr, hlk⟩ := id C0
  refine z_entry (Nat.le_of_ble_eq_true rfl) (fun ls hl => ?_)
  have hl : lv_has ls 4 [(0, .int a1), (1, .int a2)] := hl
  unfold fX10_fallsOf at hf
  refine lv_iload_n (pc := 0) hx hb dX10_fallsOf_0 rfl (lv_at hl 0 rfl) ?_
  refine lv_istore_n (pc := 1) (lv' := [(2, .int a1), (0, .int a1), (1, .int a2)]) hx hb dX10_fallsOf_1 rfl hl (by decide) rfl (fun ls hl => ?_)
  refine lv_iconst (pc := 2) (v := 3) hx hb dX10_fallsOf_2 (by decide) ?_
  refine lv_istore_n (pc := 3) (lv' := [(3, .int (3 : Int32)), (2, .int a1), (0, .int a1), (1, .int a2)]) hx hb dX10_fallsOf_3 rfl hl (by decide) rfl (fun ls hl => ?_)
  obtain ⟨b2, hb3, hf⟩ := zbind hf
  refine lX10_fallsOf_4 C0 hb3 ?_ _ (lv_sub hl [3, 1, 0] rfl)
  intro ls hl
  refine lv_iload_n (pc := 20) hx hb dX10_fallsOf_20 rfl (lv_at hl 0 rfl) ?_
  refine lv_bipush (pc := 21) (v := 11) hx hb dX10_fallsOf_21 (by decide) ?_
  refine z_irem (pc := 23) hx hb dX10_fallsOf_23 hf (fun hf => ?_)
  obtain rfl := zone hf
  exact z_siret (pc := 24) C0 dX10_fallsOf_24
set_option maxHeartbeats 4000000 in
set_option maxRecDepth 100000 in
theorem lX10_span_37 (C0 : zFix p m c cX10_span 7 s args wsX10_span RX10 meth (some .int)) {k : Nat} {p1 : Int32} {p2 : Int32} {u : MX} {a : Int32 × Int32 × Int32} {b : Int32 × Int32} (hit : ziter (bX10_span_37 k p1 p2 u) k a = some b) (hx9 : (fun (b : Int32 × Int32) => ∀ (H : Heap) (locs : List Loc) (ls : Array Slot), zIn D ad cy (WM ad cy u) A s H locs → lv_has ls 7 [(2, .int p2), (3, .int b.1), (4, .int b.2)] → W p l e ({ frames := 4, cells := 0, slots := 0, locals := 95 } : Room) s m args below meth c H locs 0 0 Q (F0 m 94 ls [])) b) : (fun (a : Int32 × Int32 × Int32) => ∀ (H : Heap) (locs : List Loc) (ls : Array Slot), zIn D ad cy (WM ad cy u) A s H locs → lv_has ls 7 [(0, .ref (ad 0)), (1, .int p1), (2, .int p2), (3, .int a.1), (4, .int a.2.1), (5, .int a.2.2)] → W p l e ({ frames := 4, cells := 0, slots := 0, locals := 95 } : Room) s m args below meth c H locs 0 0 Q (F0 m 37 ls [])) a := by
  obtain ⟨hx, hb, hml, hown, hts, hr, hlk⟩ := id C0
  refine zloop (Wh := (fun (a : Int32 × Int32 × Int32) => ∀ (H : Heap) (locs : List Loc) (ls : Array Slot), zIn D ad cy (WM ad cy u) A s H locs → lv_has ls 7 [(0, .ref (ad 0)), (1, .int p1), (2, .int p2), (3, .int a.1), (4, .int a.2.1), (5, .int a.2.2)] → W p l e ({ frames := 4, cells := 0, slots := 0, locals := 95 } : Room) s m args below meth c H locs 0 0 Q (F0 m 37 ls []))) (Wx := (fun (b : Int32 × Int32) => ∀ (H : Heap) (locs : List Loc) (ls : Array Slot), zIn D ad cy (WM ad cy u) A s H locs → lv_has ls 7 [(2, .int p2), (3, .int b.1), (4, .int b.2)] → W p l e ({ frames := 4, cells := 0, slots := 0, locals := 95 } : Room) s m args below meth c H locs 0 0 Q (F0 m 94 ls []))) ?_ _ a b hit hx9
  intro a x hf hL hX H locs ls hI hl
  unfold bX10_span_37 at hf
  refine lv_iload (pc := 37) hx hb dX10_span_37 (lv_at hl 5 rfl) ?_
  refine lv_bipush (pc := 39) (v := -4) hx hb dX10_span_39 (by decide) ?_
  refine z_icmp_eq (pc := 41) (tgt := 94) hx hb dX10_span_41 (by decide) hf (fun hf => ?_) (fun hf => ?_)
  · exact (hX _ (Option.some.inj hf).symm) _ _ _ hI (lv_sub hl [2, 3, 4] rfl)
  refine lv_iload (pc := 44) hx hb dX10_span_44 (lv_at hl 5 rfl) ?_
  refine lv_iload_n (pc := 46) hx hb dX10_span_46 rfl (lv_at hl 1 rfl) ?_
  obtain ⟨q10, hc9, hf⟩ := zbind hf
  refine zcallSi (pc := 47) (As := [.int a.2.2, .int p1]) (rest := []) ⟨hx, hb, hml, hown, hts⟩ (kX10_fallsOf l k a.2.2 p1 q10 hc9) (va_cwS 2 hts gX10_span_X10_fallsOf rfl rfl rfl (by decide +kernel) ⟨Nat.le_of_ble_eq_true rfl, Nat.le_of_ble_eq_true rfl⟩) rfl hl.1 rfl (Nat.le_of_ble_eq_true rfl) dX10_span_47 (Nat.zero_le _) (Nat.zero_le _) ?_
  refine lv_istore (pc := 50) (lv' := [(6, .int q10), (0, .ref (ad 0)), (1, .int p1), (2, .int p2), (3, .int a.1), (4, .int a.2.1), (5, .int a.2.2)]) hx hb dX10_span_50 hl (by decide) rfl (fun ls hl => ?_)
  refine lv_iload (pc := 52) hx hb dX10_span_52 (lv_at hl 0 rfl) ?_
  refine lv_iload_n (pc := 54) hx hb dX10_span_54 rfl (lv_at hl 4 rfl) ?_
  refine z_icmp_ge (pc := 55) (tgt := 63) hx hb dX10_span_55 (by decide) hf (fun hf => ?_) (fun hf => ?_)
  · refine lv_iload_n (pc := 63) hx hb dX10_span_63 rfl (lv_at hl 4 rfl) ?_
    refine lv_istore_n (pc := 64) (lv' := [(3, .int a.1), (6, .int q10), (0, .ref (ad 0)), (1, .int p1), (2, .int p2), (4, .int a.2.1), (5, .int a.2.2)]) hx hb dX10_span_64 rfl hl (by decide) rfl (fun ls hl => ?_)
    refine lv_iload (pc := 65) hx hb dX10_span_65 (lv_at hl 1 rfl) ?_
    refine lv_iload (pc := 67) hx hb dX10_span_67 (lv_at hl 5 rfl) ?_
    refine z_icmp_le (pc := 69) (tgt := 77) hx hb dX10_span_69 (by decide) hf (fun hf => ?_) (fun hf => ?_)
    · refine lv_iload (pc := 77) hx hb dX10_span_77 (lv_at hl 5 rfl) ?_
      refine lv_istore (pc := 79) (lv' := [(4, .int a.2.1), (3, .int a.1), (6, .int q10), (0, .ref (ad 0)), (1, .int p1), (2, .int p2), (5, .int a.2.2)]) hx hb dX10_span_79 hl (by decide) rfl (fun ls hl => ?_)
      refine lv_aload_n (pc := 81) hx hb dX10_span_81 rfl (lv_at hl 3 rfl) ?_
      refine lv_iload (pc := 82) hx hb dX10_span_82 (lv_at hl 6 rfl) ?_
      refine lv_iconst (pc := 84) (v := 1) hx hb dX10_span_84 (by decide) ?_
      refine lv_iadd (pc := 85) hx hb dX10_span_85 ?_
      obtain ⟨q12, hc11, hf⟩ := zbind hf
      refine zcallVi (pc := 86) (As := [.int (a.2.2 + (1 : Int32))]) (rest := []) ⟨hx, hb, hml, hown, hts⟩ (kX10_firstFrom l D ad cy k (a.2.2 + (1 : Int32)) u q12 hc11) (cwV 1 hts gX10_span_X10_firstFrom rfl rfl rfl (by decide +kernel) ⟨Nat.le_of_ble_eq_true rfl, Nat.le_of_ble_eq_true rfl⟩) hI rfl (ml_0 ad cy u) rfl hl.1 rfl (Nat.le_of_ble_eq_true rfl) dX10_span_86 (Nat.zero_le _) (Nat.zero_le _) (fun H locs hI => ?_)
      refine lv_istore (pc := 89) (lv' := [(5, .int q12), (4, .int a.2.1), (3, .int a.1), (6, .int q10), (0, .ref (ad 0)), (1, .int p1), (2, .int p2)]) hx hb dX10_span_89 hl (by decide) rfl (fun ls hl => ?_)
      refine lv_goto (pc := 91) (tgt := 37) hx hb dX10_span_91 (by decide) ?_
      exact hL _ (Option.some.inj hf).symm _ _ _ hI (lv_sub hl [4, 5, 6, 2, 1, 0] rfl)
    refine lv_iload (pc := 72) hx hb dX10_span_72 (lv_at hl 1 rfl) ?_
    refine lv_goto (pc := 74) (tgt := 79) hx hb dX10_span_74 (by decide) ?_
    refine lv_istore (pc := 79) (lv' := [(4, .int q10), (3, .int a.1), (6, .int q10), (0, .ref (ad 0)), (1, .int p1), (2, .int p2), (5, .int a.2.2)]) hx hb dX10_span_79 hl (by decide) rfl (fun ls hl => ?_)
    refine lv_aload_n (pc := 81) hx hb dX10_span_81 rfl (lv_at hl 3 rfl) ?_
    refine lv_iload (pc := 82) hx hb dX10_span_82 (lv_at hl 6 rfl) ?_
    refine lv_iconst (pc := 84) (v := 1) hx hb dX10_span_84 (by decide) ?_
    refine lv_iadd (pc := 85) hx hb dX10_span_85 ?_
    obtain ⟨q14, hc13, hf⟩ := zbind hf
    refine zcallVi (pc := 86) (As := [.int (a.2.2 + (1 : Int32))]) (rest := []) ⟨hx, hb, hml, hown, hts⟩ (kX10_firstFrom l D ad cy k (a.2.2 + (1 : Int32)) u q14 hc13) (cwV 1 hts gX10_span_X10_firstFrom rfl rfl rfl (by decide +kernel) ⟨Nat.le_of_ble_eq_true rfl, Nat.le_of_ble_eq_true rfl⟩) hI rfl (ml_0 ad cy u) rfl hl.1 rfl (Nat.le_of_ble_eq_true rfl) dX10_span_86 (Nat.zero_le _) (Nat.zero_le _) (fun H locs hI => ?_)
    refine lv_istore (pc := 89) (lv' := [(5, .int q14), (4, .int q10), (3, .int a.1), (6, .int q10), (0, .ref (ad 0)), (1, .int p1), (2, .int p2)]) hx hb dX10_span_89 hl (by decide) rfl (fun ls hl => ?_)
    refine lv_goto (pc := 91) (tgt := 37) hx hb dX10_span_91 (by decide) ?_
    exact hL _ (Option.some.inj hf).symm _ _ _ hI (lv_sub hl [4, 5, 6, 2, 1, 0] rfl)
  refine lv_iload (pc := 58) hx hb dX10_span_58 (lv_at hl 0 rfl) ?_
  refine lv_goto (pc := 60) (tgt := 64) hx hb dX10_span_60 (by decide) ?_
  refine lv_istore_n (pc := 64) (lv' := [(3, .int q10), (6, .int q10), (0, .ref (ad 0)), (1, .int p1), (2, .int p2), (4, .int a.2.1), (5, .int a.2.2)]) hx hb dX10_span_64 rfl hl (by decide) rfl (fun ls hl => ?_)
  refine lv_iload (pc := 65) hx hb dX10_span_65 (lv_at hl 1 rfl) ?_
  refine lv_iload (pc := 67) hx hb dX10_span_67 (lv_at hl 5 rfl) ?_
  refine z_icmp_le (pc := 69) (tgt := 77) hx hb dX10_span_69 (by decide) hf (fun hf => ?_) (fun hf => ?_)
  · refine lv_iload (pc := 77) hx hb dX10_span_77 (lv_at hl 5 rfl) ?_
    refine lv_istore (pc := 79) (lv' := [(4, .int a.2.1), (3, .int q10), (6, .int q10), (0, .ref (ad 0)), (1, .int p1), (2, .int p2), (5, .int a.2.2)]) hx hb dX10_span_79 hl (by decide) rfl (fun ls hl => ?_)
    refine lv_aload_n (pc := 81) hx hb dX10_span_81 rfl (lv_at hl 3 rfl) ?_
    refine lv_iload (pc := 82) hx hb dX10_span_82 (lv_at hl 6 rfl) ?_
    refine lv_iconst (pc := 84) (v := 1) hx hb dX10_span_84 (by decide) ?_
    refine lv_iadd (pc := 85) hx hb dX10_span_85 ?_
    obtain ⟨q16, hc15, hf⟩ := zbind hf
    refine zcallVi (pc := 86) (As := [.int (a.2.2 + (1 : Int32))]) (rest := []) ⟨hx, hb, hml, hown, hts⟩ (kX10_firstFrom l D ad cy k (a.2.2 + (1 : Int32)) u q16 hc15) (cwV 1 hts gX10_span_X10_firstFrom rfl rfl rfl (by decide +kernel) ⟨Nat.le_of_ble_eq_true rfl, Nat.le_of_ble_eq_true rfl⟩) hI rfl (ml_0 ad cy u) rfl hl.1 rfl (Nat.le_of_ble_eq_true rfl) dX10_span_86 (Nat.zero_le _) (Nat.zero_le _) (fun H locs hI => ?_)
    refine lv_istore (pc := 89) (lv' := [(5, .int q16), (4, .int a.2.1), (3, .int q10), (6, .int q10), (0, .ref (ad 0)), (1, .int p1), (2, .int p2)]) hx hb dX10_span_89 hl (by decide) rfl (fun ls hl => ?_)
    refine lv_goto (pc := 91) (tgt := 37) hx hb dX10_span_91 (by decide) ?_
    exact hL _ (Option.some.inj hf).symm _ _ _ hI (lv_sub hl [4, 5, 6, 2, 1, 0] rfl)
  refine lv_iload (pc := 72) hx hb dX10_span_72 (lv_at hl 1 rfl) ?_
  refine lv_goto (pc := 74) (tgt := 79) hx hb dX10_span_74 (by decide) ?_
  refine lv_istore (pc := 79) (lv' := [(4, .int q10), (3, .int q10), (6, .int q10), (0, .ref (ad 0)), (1, .int p1), (2, .int p2), (5, .int a.2.2)]) hx hb dX10_span_79 hl (by decide) rfl (fun ls hl => ?_)
  refine lv_aload_n (pc := 81) hx hb dX10_span_81 rfl (lv_at hl 3 rfl) ?_
  refine lv_iload (pc := 82) hx hb dX10_span_82 (lv_at hl 6 rfl) ?_
  refine lv_iconst (pc := 84) (v := 1) hx hb dX10_span_84 (by decide) ?_
  refine lv_iadd (pc := 85) hx hb dX10_span_85 ?_
  obtain ⟨q18, hc17, hf⟩ := zbind hf
  refine zcallVi (pc := 86) (As := [.int (a.2.2 + (1 : Int32))]) (rest := []) ⟨hx, hb, hml, hown, hts⟩ (kX10_firstFrom l D ad cy k (a.2.2 + (1 : Int32)) u q18 hc17) (cwV 1 hts gX10_span_X10_firstFrom rfl rfl rfl (by decide +kernel) ⟨Nat.le_of_ble_eq_true rfl, Nat.le_of_ble_eq_true rfl⟩) hI rfl (ml_0 ad cy u) rfl hl.1 rfl (Nat.le_of_ble_eq_true rfl) dX10_span_86 (Nat.zero_le _) (Nat.zero_le _) (fun H locs hI => ?_)
  refine lv_istore (pc := 89) (lv' := [(5, .int q18), (4, .int q10), (3, .int q10), (6, .int q10), (0, .ref (ad 0)), (1, .int p1), (2, .int p2)]) hx hb dX10_span_89 hl (by decide) rfl (fun ls hl => ?_)
  refine lv_goto (pc := 91) (tgt := 37) hx hb dX10_span_91 (by decide) ?_
  exact hL _ (Option.some.inj hf).symm _ _ _ hI (lv_sub hl [4, 5, 6, 2, 1, 0] rfl)
set_option maxHeartbeats 4000000 in
set_option maxRecDepth 100000 in
theorem kX10_span (l : Launch) (D : va_G) (ad : Nat → Nat) (cy : Nat → ClassId) (k : Nat) (a1 : Int32) (a2 : Int32) (u : MX) (r : Int32) (u' : MX) (hf : fX10_span k a1 a2 u = some (r, u')) : zCt l yX10_span wsX10_span ({ frames := 4, cells := 0, slots := 0, locals := 95 } : Room) D ad cy [.ref (ad 0), .int a1, .int a2] (WM ad cy u) (some (.int r)) (WM ad cy u') := by
  refine zCt.of (cc := cX10_span) (maxL := 7) (ret := (some .int)) (own := RX10) (by decide) rfl rfl ?_
  intro p e s m below meth c A C0 hI
  obtain ⟨hx, hb, hml, hown, hts, hr, hlk⟩ := id C0
  refine z_entry (Nat.le_of_ble_eq_true rfl) (fun ls hl => ?_)
  have hl : lv_has ls 7 [(0, .ref (ad 0)), (1, .int a1), (2, .int a2)] := hl
  unfold fX10_span at hf
  refine lv_iload_n (pc := 0) hx hb dX10_span_0 rfl (lv_at hl 1 rfl) ?_
  obtain ⟨q2, hc1, hf⟩ := zbind hf
  refine zcallSi (pc := 1) (As := [.int a1]) (rest := []) ⟨hx, hb, hml, hown, hts⟩ (kX10_isPart l a1 q2 hc1) (va_cwS 1 hts gX10_span_X10_isPart rfl rfl rfl (by decide +kernel) ⟨Nat.le_of_ble_eq_true rfl, Nat.le_of_ble_eq_true rfl⟩) rfl hl.1 rfl (Nat.le_of_ble_eq_true rfl) dX10_span_1 (Nat.zero_le _) (Nat.zero_le _) ?_
  refine z_if_eq (pc := 4) (tgt := 17) hx hb dX10_span_4 (by decide) hf (fun hf => ?_) (fun hf => ?_)
  · refine lv_iconst (pc := 17) (v := -1) hx hb dX10_span_17 (by decide) ?_
    obtain ⟨rfl, rfl⟩ := zpair hf
    exact z_iret (pc := 18) C0 hI dX10_span_18
  refine lv_iload_n (pc := 7) hx hb dX10_span_7 rfl (lv_at hl 2 rfl) ?_
  refine lv_i2l (pc := 8) hx hb dX10_span_8 rfl ?_
  refine lv_lconst (pc := 9) (v := 0) hx hb dX10_span_9 (by decide) ?_
  refine lv_lconst (pc := 10) (v := 1) hx hb dX10_span_10 (by decide) ?_
  obtain ⟨q4, hc3, hf⟩ := zbind hf
  refine zcallSi (pc := 11) (As := [.long (a2.toInt64), .long (0 : Int64), .long (1 : Int64)]) (rest := []) ⟨hx, hb, hml, hown, hts⟩ (kX10_in l (a2.toInt64) (0 : Int64) (1 : Int64) q4 hc3) (va_cwS 3 hts gX10_span_X10_in rfl rfl rfl (by decide +kernel) ⟨Nat.le_of_ble_eq_true rfl, Nat.le_of_ble_eq_true rfl⟩) rfl hl.1 rfl (Nat.le_of_ble_eq_true rfl) dX10_span_11 (Nat.zero_le _) (Nat.zero_le _) ?_
  refine z_if_ne (pc := 14) (tgt := 19) hx hb dX10_span_14 (by decide) hf (fun hf => ?_) (fun hf => ?_)
  · refine lv_aload_n (pc := 19) hx hb dX10_span_19 rfl (lv_at hl 0 rfl) ?_
    obtain ⟨q6, hc5, hf⟩ := zbind hf
    refine zcallVv (pc := 20) (As := []) (rest := []) ⟨hx, hb, hml, hown, hts⟩ (kX10_layGood l D ad cy k u q6 hc5) (cwV 0 hts gX10_span_X10_layGood rfl rfl rfl (by decide +kernel) ⟨Nat.le_of_ble_eq_true rfl, Nat.le_of_ble_eq_true rfl⟩) hI rfl (ml_0 ad cy u) rfl hl.1 rfl (Nat.le_of_ble_eq_true rfl) dX10_span_20 (Nat.zero_le _) (Nat.zero_le _) (fun H locs hI => ?_)
    refine lv_bipush (pc := 23) (v := 100) hx hb dX10_span_23 (by decide) ?_
    refine lv_istore_n (pc := 25) (lv' := [(3, .int (100 : Int32)), (0, .ref (ad 0)), (1, .int a1), (2, .int a2)]) hx hb dX10_span_25 rfl hl (by decide) rfl (fun ls hl => ?_)
    refine lv_bipush (pc := 26) (v := -4) hx hb dX10_span_26 (by decide) ?_
    refine lv_istore (pc := 28) (lv' := [(4, .int (-4 : Int32)), (3, .int (100 : Int32)), (0, .ref (ad 0)), (1, .int a1), (2, .int a2)]) hx hb dX10_span_28 hl (by decide) rfl (fun ls hl => ?_)
    refine lv_aload_n (pc := 30) hx hb dX10_span_30 rfl (lv_at hl 2 rfl) ?_
    refine lv_iconst (pc := 31) (v := 0) hx hb dX10_span_31 (by decide) ?_
    obtain ⟨q8, hc7, hf⟩ := zbind hf
    refine zcallVi (pc := 32) (As := [.int (0 : Int32)]) (rest := []) ⟨hx, hb, hml, hown, hts⟩ (kX10_firstFrom l D ad cy k (0 : Int32) q6 q8 hc7) (cwV 1 hts gX10_span_X10_firstFrom rfl rfl rfl (by decide +kernel) ⟨Nat.le_of_ble_eq_true rfl, Nat.le_of_ble_eq_true rfl⟩) hI rfl (ml_0 ad cy q6) rfl hl.1 rfl (Nat.le_of_ble_eq_true rfl) dX10_span_32 (Nat.zero_le _) (Nat.zero_le _) (fun H locs hI => ?_)
    refine lv_istore (pc := 35) (lv' := [(5, .int q8), (4, .int (-4 : Int32)), (3, .int (100 : Int32)), (0, .ref (ad 0)), (1, .int a1), (2, .int a2)]) hx hb dX10_span_35 hl (by decide) rfl (fun ls hl => ?_)
    obtain ⟨b19, hb20, hf⟩ := zbind hf
    refine lX10_span_37 C0 hb20 ?_ _ _ _ hI (lv_sub hl [3, 4, 5, 2, 1, 0] rfl)
    intro H locs ls hI hl
    refine lv_iload (pc := 94) hx hb dX10_span_94 (lv_at hl 2 rfl) ?_
    refine lv_bipush (pc := 96) (v := -4) hx hb dX10_span_96 (by decide) ?_
    refine z_icmp_ne (pc := 98) (tgt := 106) hx hb dX10_span_98 (by decide) hf (fun hf => ?_) (fun hf => ?_)
    · refine lv_iload_n (pc := 106) hx hb dX10_span_106 rfl (lv_at hl 0 rfl) ?_
      refine z_if_ne (pc := 107) (tgt := 114) hx hb dX10_span_107 (by decide) hf (fun hf => ?_) (fun hf => ?_)
      · refine lv_iload (pc := 114) hx hb dX10_span_114 (lv_at hl 2 rfl) ?_
        obtain ⟨rfl, rfl⟩ := zpair hf
        exact z_iret (pc := 116) C0 hI dX10_span_116
      refine lv_iload_n (pc := 110) hx hb dX10_span_110 rfl (lv_at hl 1 rfl) ?_
      refine lv_goto (pc := 111) (tgt := 116) hx hb dX10_span_111 (by decide) ?_
      obtain ⟨rfl, rfl⟩ := zpair hf
      exact z_iret (pc := 116) C0 hI dX10_span_116
    refine lv_bipush (pc := 101) (v := -4) hx hb dX10_span_101 (by decide) ?_
    refine lv_goto (pc := 103) (tgt := 116) hx hb dX10_span_103 (by decide) ?_
    obtain ⟨rfl, rfl⟩ := zpair hf
    exact z_iret (pc := 116) C0 hI dX10_span_116
  refine lv_iconst (pc := 17) (v := -1) hx hb dX10_span_17 (by decide) ?_
  obtain ⟨rfl, rfl⟩ := zpair hf
  exact z_iret (pc := 18) C0 hI dX10_span_18
set_option maxHeartbeats 4000000 in
set_option maxRecDepth 100000 in
theorem lX10_say_37 (C0 : zFix p m c cX10_say 6 s args wsX10_say RX10 meth (some .int)) {k : Nat} {p1 : Int32} {p2 : Int32} {u : MX} {a : Int32 × Int32 × Int32} {b : Int32 × Int32} (hit : ziter (bX10_say_37 k p1 p2 u) k a = some b) (hx9 : (fun (b : Int32 × Int32) => ∀ (H : Heap) (locs : List Loc) (ls : Array Slot), zIn D ad cy (WM ad cy u) A s H locs → lv_has ls 6 [(3, .int b.1), (4, .int b.2)] → W p l e ({ frames := 4, cells := 0, slots := 0, locals := 95 } : Room) s m args below meth c H locs 0 0 Q (F0 m 83 ls [])) b) : (fun (a : Int32 × Int32 × Int32) => ∀ (H : Heap) (locs : List Loc) (ls : Array Slot), zIn D ad cy (WM ad cy u) A s H locs → lv_has ls 6 [(0, .ref (ad 0)), (1, .int p1), (2, .int p2), (3, .int a.1), (4, .int a.2.1), (5, .int a.2.2)] → W p l e ({ frames := 4, cells := 0, slots := 0, locals := 95 } : Room) s m args below meth c H locs 0 0 Q (F0 m 37 ls [])) a := by
  obtain ⟨hx, hb, hml, hown, hts, hr, hlk⟩ := id C0
  refine zloop (Wh := (fun (a : Int32 × Int32 × Int32) => ∀ (H : Heap) (locs : List Loc) (ls : Array Slot), zIn D ad cy (WM ad cy u) A s H locs → lv_has ls 6 [(0, .ref (ad 0)), (1, .int p1), (2, .int p2), (3, .int a.1), (4, .int a.2.1), (5, .int a.2.2)] → W p l e ({ frames := 4, cells := 0, slots := 0, locals := 95 } : Room) s m args below meth c H locs 0 0 Q (F0 m 37 ls []))) (Wx := (fun (b : Int32 × Int32) => ∀ (H : Heap) (locs : List Loc) (ls : Array Slot), zIn D ad cy (WM ad cy u) A s H locs → lv_has ls 6 [(3, .int b.1), (4, .int b.2)] → W p l e ({ frames := 4, cells := 0, slots := 0, locals := 95 } : Room) s m args below meth c H locs 0 0 Q (F0 m 83 ls []))) ?_ _ a b hit hx9
  intro a x hf hL hX H locs ls hI hl
  unfold bX10_say_37 at hf
  refine lv_iload (pc := 37) hx hb dX10_say_37 (lv_at hl 5 rfl) ?_
  refine lv_bipush (pc := 39) (v := -4) hx hb dX10_say_39 (by decide) ?_
  refine z_icmp_eq (pc := 41) (tgt := 83) hx hb dX10_say_41 (by decide) hf (fun hf => ?_) (fun hf => ?_)
  · exact (hX _ (Option.some.inj hf).symm) _ _ _ hI (lv_sub hl [3, 4] rfl)
  refine lv_iinc (pc := 44) (v := (a.2.1 + 1)) (lv' := [(4, .int (a.2.1 + 1)), (0, .ref (ad 0)), (1, .int p1), (2, .int p2), (3, .int a.1), (5, .int a.2.2)]) hx hb dX10_say_44 hl (k := 4) rfl rfl (by decide) rfl (fun ls hl => ?_)
  refine lv_iload_n (pc := 47) hx hb dX10_say_47 rfl (lv_at hl 4 rfl) ?_
  refine lv_iload (pc := 48) hx hb dX10_say_48 (lv_at hl 5 rfl) ?_
  refine lv_iload_n (pc := 50) hx hb dX10_say_50 rfl (lv_at hl 2 rfl) ?_
  obtain ⟨q10, hc9, hf⟩ := zbind hf
  refine zcallSi (pc := 51) (As := [.int a.2.2, .int p1]) (rest := [.int a.1]) ⟨hx, hb, hml, hown, hts⟩ (kX10_fallsOf l k a.2.2 p1 q10 hc9) (va_cwS 2 hts gX10_say_X10_fallsOf rfl rfl rfl (by decide +kernel) ⟨Nat.le_of_ble_eq_true rfl, Nat.le_of_ble_eq_true rfl⟩) rfl hl.1 rfl (Nat.le_of_ble_eq_true rfl) dX10_say_51 (Nat.zero_le _) (Nat.zero_le _) ?_
  refine lv_iload (pc := 54) hx hb dX10_say_54 (lv_at hl 5 rfl) ?_
  refine lv_iload_n (pc := 56) hx hb dX10_say_56 rfl (lv_at hl 3 rfl) ?_
  obtain ⟨q12, hc11, hf⟩ := zbind hf
  refine zcallSi (pc := 57) (As := [.int a.2.2, .int p2]) (rest := [.int q10, .int a.1]) ⟨hx, hb, hml, hown, hts⟩ (kX10_fallsOf l k a.2.2 p2 q12 hc11) (va_cwS 2 hts gX10_say_X10_fallsOf rfl rfl rfl (by decide +kernel) ⟨Nat.le_of_ble_eq_true rfl, Nat.le_of_ble_eq_true rfl⟩) rfl hl.1 rfl (Nat.le_of_ble_eq_true rfl) dX10_say_57 (Nat.zero_le _) (Nat.zero_le _) ?_
  refine z_icmp_le (pc := 60) (tgt := 67) hx hb dX10_say_60 (by decide) hf (fun hf => ?_) (fun hf => ?_)
  · refine lv_iconst (pc := 67) (v := 0) hx hb dX10_say_67 (by decide) ?_
    refine lv_iadd (pc := 68) hx hb dX10_say_68 ?_
    refine z_bi hf (fun v13 hf => ?_)
    refine lv_istore_n (pc := 69) (lv' := [(3, .int v13), (4, .int (a.2.1 + 1)), (0, .ref (ad 0)), (1, .int p1), (2, .int p2), (5, .int a.2.2)]) hx hb dX10_say_69 rfl hl (by decide) rfl (fun ls hl => ?_)
    refine lv_aload_n (pc := 70) hx hb dX10_say_70 rfl (lv_at hl 2 rfl) ?_
    refine lv_iload (pc := 71) hx hb dX10_say_71 (lv_at hl 5 rfl) ?_
    refine lv_iconst (pc := 73) (v := 1) hx hb dX10_say_73 (by decide) ?_
    refine lv_iadd (pc := 74) hx hb dX10_say_74 ?_
    obtain ⟨q15, hc14, hf⟩ := zbind hf
    refine zcallVi (pc := 75) (As := [.int (a.2.2 + (1 : Int32))]) (rest := []) ⟨hx, hb, hml, hown, hts⟩ (kX10_firstFrom l D ad cy k (a.2.2 + (1 : Int32)) u q15 hc14) (cwV 1 hts gX10_say_X10_firstFrom rfl rfl rfl (by decide +kernel) ⟨Nat.le_of_ble_eq_true rfl, Nat.le_of_ble_eq_true rfl⟩) hI rfl (ml_0 ad cy u) rfl hl.1 rfl (Nat.le_of_ble_eq_true rfl) dX10_say_75 (Nat.zero_le _) (Nat.zero_le _) (fun H locs hI => ?_)
    refine lv_istore (pc := 78) (lv' := [(5, .int q15), (3, .int v13), (4, .int (a.2.1 + 1)), (0, .ref (ad 0)), (1, .int p1), (2, .int p2)]) hx hb dX10_say_78 hl (by decide) rfl (fun ls hl => ?_)
    refine lv_goto (pc := 80) (tgt := 37) hx hb dX10_say_80 (by decide) ?_
    exact hL _ (Option.some.inj hf).symm _ _ _ hI (lv_sub hl [3, 4, 5, 1, 2, 0] rfl)
  refine lv_iconst (pc := 63) (v := 1) hx hb dX10_say_63 (by decide) ?_
  refine lv_goto (pc := 64) (tgt := 68) hx hb dX10_say_64 (by decide) ?_
  refine lv_iadd (pc := 68) hx hb dX10_say_68 ?_
  refine z_bi hf (fun v16 hf => ?_)
  refine lv_istore_n (pc := 69) (lv' := [(3, .int v16), (4, .int (a.2.1 + 1)), (0, .ref (ad 0)), (1, .int p1), (2, .int p2), (5, .int a.2.2)]) hx hb dX10_say_69 rfl hl (by decide) rfl (fun ls hl => ?_)
  refine lv_aload_n (pc := 70) hx hb dX10_say_70 rfl (lv_at hl 2 rfl) ?_
  refine lv_iload (pc := 71) hx hb dX10_say_71 (lv_at hl 5 rfl) ?_
  refine lv_iconst (pc := 73) (v := 1) hx hb dX10_say_73 (by decide) ?_
  refine lv_iadd (pc := 74) hx hb dX10_say_74 ?_
  obtain ⟨q18, hc17, hf⟩ := zbind hf
  refine zcallVi (pc := 75) (As := [.int (a.2.2 + (1 : Int32))]) (rest := []) ⟨hx, hb, hml, hown, hts⟩ (kX10_firstFrom l D ad cy k (a.2.2 + (1 : Int32)) u q18 hc17) (cwV 1 hts gX10_say_X10_firstFrom rfl rfl rfl (by decide +kernel) ⟨Nat.le_of_ble_eq_true rfl, Nat.le_of_ble_eq_true rfl⟩) hI rfl (ml_0 ad cy u) rfl hl.1 rfl (Nat.le_of_ble_eq_true rfl) dX10_say_75 (Nat.zero_le _) (Nat.zero_le _) (fun H locs hI => ?_)
  refine lv_istore (pc := 78) (lv' := [(5, .int q18), (3, .int v16), (4, .int (a.2.1 + 1)), (0, .ref (ad 0)), (1, .int p1), (2, .int p2)]) hx hb dX10_say_78 hl (by decide) rfl (fun ls hl => ?_)
  refine lv_goto (pc := 80) (tgt := 37) hx hb dX10_say_80 (by decide) ?_
  exact hL _ (Option.some.inj hf).symm _ _ _ hI (lv_sub hl [3, 4, 5, 1, 2, 0] rfl)
set_option maxHeartbeats 4000000 in
set_option maxRecDepth 100000 in
theorem kX10_say (l : Launch) (D : va_G) (ad : Nat → Nat) (cy : Nat → ClassId) (k : Nat) (a1 : Int32) (a2 : Int32) (u : MX) (r : Int32) (u' : MX) (hf : fX10_say k a1 a2 u = some (r, u')) : zCt l yX10_say wsX10_say ({ frames := 4, cells := 0, slots := 0, locals := 95 } : Room) D ad cy [.ref (ad 0), .int a1, .int a2] (WM ad cy u) (some (.int r)) (WM ad cy u') := by
  refine zCt.of (cc := cX10_say) (maxL := 6) (ret := (some .int)) (own := RX10) (by decide) rfl rfl ?_
  intro p e s m below meth c A C0 hI
  obtain ⟨hx, hb, hml, hown, hts, hr, hlk⟩ := id C0
  refine z_entry (Nat.le_of_ble_eq_true rfl) (fun ls hl => ?_)
  have hl : lv_has ls 6 [(0, .ref (ad 0)), (1, .int a1), (2, .int a2)] := hl
  unfold fX10_say at hf
  refine lv_iload_n (pc := 0) hx hb dX10_say_0 rfl (lv_at hl 1 rfl) ?_
  obtain ⟨q2, hc1, hf⟩ := zbind hf
  refine zcallSi (pc := 1) (As := [.int a1]) (rest := []) ⟨hx, hb, hml, hown, hts⟩ (kX10_isPart l a1 q2 hc1) (va_cwS 1 hts gX10_say_X10_isPart rfl rfl rfl (by decide +kernel) ⟨Nat.le_of_ble_eq_true rfl, Nat.le_of_ble_eq_true rfl⟩) rfl hl.1 rfl (Nat.le_of_ble_eq_true rfl) dX10_say_1 (Nat.zero_le _) (Nat.zero_le _) ?_
  refine z_if_eq (pc := 4) (tgt := 19) hx hb dX10_say_4 (by decide) hf (fun hf => ?_) (fun hf => ?_)
  · refine lv_iconst (pc := 19) (v := -1) hx hb dX10_say_19 (by decide) ?_
    obtain ⟨rfl, rfl⟩ := zpair hf
    exact z_iret (pc := 20) C0 hI dX10_say_20
  refine lv_iload_n (pc := 7) hx hb dX10_say_7 rfl (lv_at hl 2 rfl) ?_
  obtain ⟨q4, hc3, hf⟩ := zbind hf
  refine zcallSi (pc := 8) (As := [.int a2]) (rest := []) ⟨hx, hb, hml, hown, hts⟩ (kX10_isPart l a2 q4 hc3) (va_cwS 1 hts gX10_say_X10_isPart rfl rfl rfl (by decide +kernel) ⟨Nat.le_of_ble_eq_true rfl, Nat.le_of_ble_eq_true rfl⟩) rfl hl.1 rfl (Nat.le_of_ble_eq_true rfl) dX10_say_8 (Nat.zero_le _) (Nat.zero_le _) ?_
  refine z_if_eq (pc := 11) (tgt := 19) hx hb dX10_say_11 (by decide) hf (fun hf => ?_) (fun hf => ?_)
  · refine lv_iconst (pc := 19) (v := -1) hx hb dX10_say_19 (by decide) ?_
    obtain ⟨rfl, rfl⟩ := zpair hf
    exact z_iret (pc := 20) C0 hI dX10_say_20
  refine lv_iload_n (pc := 14) hx hb dX10_say_14 rfl (lv_at hl 1 rfl) ?_
  refine lv_iload_n (pc := 15) hx hb dX10_say_15 rfl (lv_at hl 2 rfl) ?_
  refine z_icmp_ne (pc := 16) (tgt := 21) hx hb dX10_say_16 (by decide) hf (fun hf => ?_) (fun hf => ?_)
  · refine lv_aload_n (pc := 21) hx hb dX10_say_21 rfl (lv_at hl 0 rfl) ?_
    obtain ⟨q6, hc5, hf⟩ := zbind hf
    refine zcallVv (pc := 22) (As := []) (rest := []) ⟨hx, hb, hml, hown, hts⟩ (kX10_layGood l D ad cy k u q6 hc5) (cwV 0 hts gX10_say_X10_layGood rfl rfl rfl (by decide +kernel) ⟨Nat.le_of_ble_eq_true rfl, Nat.le_of_ble_eq_true rfl⟩) hI rfl (ml_0 ad cy u) rfl hl.1 rfl (Nat.le_of_ble_eq_true rfl) dX10_say_22 (Nat.zero_le _) (Nat.zero_le _) (fun H locs hI => ?_)
    refine lv_iconst (pc := 25) (v := 0) hx hb dX10_say_25 (by decide) ?_
    refine lv_istore_n (pc := 26) (lv' := [(3, .int (0 : Int32)), (0, .ref (ad 0)), (1, .int a1), (2, .int a2)]) hx hb dX10_say_26 rfl hl (by decide) rfl (fun ls hl => ?_)
    refine lv_iconst (pc := 27) (v := 0) hx hb dX10_say_27 (by decide) ?_
    refine lv_istore (pc := 28) (lv' := [(4, .int (0 : Int32)), (3, .int (0 : Int32)), (0, .ref (ad 0)), (1, .int a1), (2, .int a2)]) hx hb dX10_say_28 hl (by decide) rfl (fun ls hl => ?_)
    refine lv_aload_n (pc := 30) hx hb dX10_say_30 rfl (lv_at hl 2 rfl) ?_
    refine lv_iconst (pc := 31) (v := 0) hx hb dX10_say_31 (by decide) ?_
    obtain ⟨q8, hc7, hf⟩ := zbind hf
    refine zcallVi (pc := 32) (As := [.int (0 : Int32)]) (rest := []) ⟨hx, hb, hml, hown, hts⟩ (kX10_firstFrom l D ad cy k (0 : Int32) q6 q8 hc7) (cwV 1 hts gX10_say_X10_firstFrom rfl rfl rfl (by decide +kernel) ⟨Nat.le_of_ble_eq_true rfl, Nat.le_of_ble_eq_true rfl⟩) hI rfl (ml_0 ad cy q6) rfl hl.1 rfl (Nat.le_of_ble_eq_true rfl) dX10_say_32 (Nat.zero_le _) (Nat.zero_le _) (fun H locs hI => ?_)
    refine lv_istore (pc := 35) (lv' := [(5, .int q8), (4, .int (0 : Int32)), (3, .int (0 : Int32)), (0, .ref (ad 0)), (1, .int a1), (2, .int a2)]) hx hb dX10_say_35 hl (by decide) rfl (fun ls hl => ?_)
    obtain ⟨b19, hb20, hf⟩ := zbind hf
    refine lX10_say_37 C0 hb20 ?_ _ _ _ hI (lv_sub hl [3, 4, 5, 2, 1, 0] rfl)
    intro H locs ls hI hl
    refine lv_iload (pc := 83) hx hb dX10_say_83 (lv_at hl 1 rfl) ?_
    refine z_if_ne (pc := 85) (tgt := 93) hx hb dX10_say_85 (by decide) hf (fun hf => ?_) (fun hf => ?_)
    · refine lv_iload_n (pc := 93) hx hb dX10_say_93 rfl (lv_at hl 0 rfl) ?_
      refine lv_iload (pc := 94) hx hb dX10_say_94 (lv_at hl 1 rfl) ?_
      refine z_icmp_ne (pc := 96) (tgt := 103) hx hb dX10_say_96 (by decide) hf (fun hf => ?_) (fun hf => ?_)
      · refine lv_iload_n (pc := 103) hx hb dX10_say_103 rfl (lv_at hl 0 rfl) ?_
        refine z_if_ne (pc := 104) (tgt := 111) hx hb dX10_say_104 (by decide) hf (fun hf => ?_) (fun hf => ?_)
        · refine lv_iconst (pc := 111) (v := 0) hx hb dX10_say_111 (by decide) ?_
          obtain ⟨rfl, rfl⟩ := zpair hf
          exact z_iret (pc := 112) C0 hI dX10_say_112
        refine lv_iconst (pc := 107) (v := 2) hx hb dX10_say_107 (by decide) ?_
        refine lv_goto (pc := 108) (tgt := 112) hx hb dX10_say_108 (by decide) ?_
        obtain ⟨rfl, rfl⟩ := zpair hf
        exact z_iret (pc := 112) C0 hI dX10_say_112
      refine lv_iconst (pc := 99) (v := 1) hx hb dX10_say_99 (by decide) ?_
      refine lv_goto (pc := 100) (tgt := 112) hx hb dX10_say_100 (by decide) ?_
      obtain ⟨rfl, rfl⟩ := zpair hf
      exact z_iret (pc := 112) C0 hI dX10_say_112
    refine lv_bipush (pc := 88) (v := -4) hx hb dX10_say_88 (by decide) ?_
    refine lv_goto (pc := 90) (tgt := 112) hx hb dX10_say_90 (by decide) ?_
    obtain ⟨rfl, rfl⟩ := zpair hf
    exact z_iret (pc := 112) C0 hI dX10_say_112
  refine lv_iconst (pc := 19) (v := -1) hx hb dX10_say_19 (by decide) ?_
  obtain ⟨rfl, rfl⟩ := zpair hf
  exact z_iret (pc := 20) C0 hI dX10_say_20
set_option maxHeartbeats 4000000 in
set_option maxRecDepth 100000 in
theorem lX10_cost_13 (C0 : zFix p m c cX10_cost 5 s args wsX10_cost RX10 meth (some .int)) {k : Nat} {p1 : Int32} {u : MX} {a : Int64 × Int32} {b : Int64} (hit : ziter (bX10_cost_13 k p1 u) k a = some b) (hx9 : (fun (b : Int64) => ∀ (H : Heap) (locs : List Loc) (ls : Array Slot), zIn D ad cy (WM ad cy u) A s H locs → lv_has ls 5 [(0, .ref (ad 0)), (1, .int p1), (2, .long b)] → W p l e ({ frames := 1, cells := 0, slots := 0, locals := 25 } : Room) s m args below meth c H locs 0 0 Q (F0 m 57 ls [])) b) : (fun (a : Int64 × Int32) => ∀ (H : Heap) (locs : List Loc) (ls : Array Slot), zIn D ad cy (WM ad cy u) A s H locs → lv_has ls 5 [(0, .ref (ad 0)), (1, .int p1), (2, .long a.1), (4, .int a.2)] → W p l e ({ frames := 1, cells := 0, slots := 0, locals := 25 } : Room) s m args below meth c H locs 0 0 Q (F0 m 13 ls [])) a := by
  obtain ⟨hx, hb, hml, hown, hts, hr, hlk⟩ := id C0
  refine zloop (Wh := (fun (a : Int64 × Int32) => ∀ (H : Heap) (locs : List Loc) (ls : Array Slot), zIn D ad cy (WM ad cy u) A s H locs → lv_has ls 5 [(0, .ref (ad 0)), (1, .int p1), (2, .long a.1), (4, .int a.2)] → W p l e ({ frames := 1, cells := 0, slots := 0, locals := 25 } : Room) s m args below meth c H locs 0 0 Q (F0 m 13 ls []))) (Wx := (fun (b : Int64) => ∀ (H : Heap) (locs : List Loc) (ls : Array Slot), zIn D ad cy (WM ad cy u) A s H locs → lv_has ls 5 [(0, .ref (ad 0)), (1, .int p1), (2, .long b)] → W p l e ({ frames := 1, cells := 0, slots := 0, locals := 25 } : Room) s m args below meth c H locs 0 0 Q (F0 m 57 ls []))) ?_ _ a b hit hx9
  intro a x hf hL hX H locs ls hI hl
  unfold bX10_cost_13 at hf
  refine lv_iload (pc := 13) hx hb dX10_cost_13 (lv_at hl 3 rfl) ?_
  refine lv_iconst (pc := 15) (v := 3) hx hb dX10_cost_15 (by decide) ?_
  refine z_icmp_gt (pc := 16) (tgt := 57) hx hb dX10_cost_16 (by decide) hf (fun hf => ?_) (fun hf => ?_)
  · exact (hX _ (Option.some.inj hf).symm) _ _ _ hI (lv_sub hl [0, 1, 2] rfl)
  refine lv_lload_n (pc := 19) hx hb dX10_cost_19 rfl (lv_at hl 2 rfl) ?_
  refine lv_aload_n (pc := 20) hx hb dX10_cost_20 rfl (lv_at hl 0 rfl) ?_
  refine z_get (pc := 21) (index := 28) hx hb hts iwX10_cost_10 hown hI (ml_0 ad cy u) rfl 15 (by decide) (by decide +kernel) rfl rfl dX10_cost_21 ?_
  refine lv_iconst (pc := 24) (v := 1) hx hb dX10_cost_24 (by decide) ?_
  refine lv_iload (pc := 25) hx hb dX10_cost_25 (lv_at hl 3 rfl) ?_
  refine lv_iadd (pc := 27) hx hb dX10_cost_27 ?_
  refine z_iald (pc := 28) hx hb hI (ml_7 ad cy u) 0 rfl dX10_cost_28 hf (fun v1 hf => ?_)
  refine lv_i2l (pc := 29) hx hb dX10_cost_29 rfl ?_
  refine lv_ldc2 (pc := 30) (v := 100) hx hb hown (hts (.constantLong RX10 115 (100)) (by decide +kernel)) dX10_cost_30 ?_
  refine lv_iload (pc := 33) hx hb dX10_cost_33 (lv_at hl 3 rfl) ?_
  obtain ⟨q3, hc2, hf⟩ := zbind hf
  refine zcallSl (pc := 35) (As := [.long (100 : Int64), .int a.2]) (rest := [.long (v1.toInt64), .long a.1]) ⟨hx, hb, hml, hown, hts⟩ (kX10_power l k (100 : Int64) a.2 q3 hc2) (va_cwS 2 hts gX10_cost_X10_power rfl rfl rfl (by decide +kernel) ⟨Nat.le_of_ble_eq_true rfl, Nat.le_of_ble_eq_true rfl⟩) rfl hl.1 rfl (Nat.le_of_ble_eq_true rfl) dX10_cost_35 (Nat.zero_le _) (Nat.zero_le _) ?_
  refine lv_lmul (pc := 38) hx hb dX10_cost_38 ?_
  refine lv_iload_n (pc := 39) hx hb dX10_cost_39 rfl (lv_at hl 1 rfl) ?_
  refine lv_i2l (pc := 40) hx hb dX10_cost_40 rfl ?_
  refine lv_iconst (pc := 41) (v := 3) hx hb dX10_cost_41 (by decide) ?_
  refine lv_iload (pc := 42) hx hb dX10_cost_42 (lv_at hl 3 rfl) ?_
  refine lv_isub (pc := 44) hx hb dX10_cost_44 ?_
  obtain ⟨q5, hc4, hf⟩ := zbind hf
  refine zcallSl (pc := 45) (As := [.long (p1.toInt64), .int ((3 : Int32) - a.2)]) (rest := [.long ((v1.toInt64) * q3), .long a.1]) ⟨hx, hb, hml, hown, hts⟩ (kX10_power l k (p1.toInt64) ((3 : Int32) - a.2) q5 hc4) (va_cwS 2 hts gX10_cost_X10_power rfl rfl rfl (by decide +kernel) ⟨Nat.le_of_ble_eq_true rfl, Nat.le_of_ble_eq_true rfl⟩) rfl hl.1 rfl (Nat.le_of_ble_eq_true rfl) dX10_cost_45 (Nat.zero_le _) (Nat.zero_le _) ?_
  refine lv_lmul (pc := 48) hx hb dX10_cost_48 ?_
  refine lv_ladd (pc := 49) hx hb dX10_cost_49 ?_
  refine z_bl hf (fun v6 hf => ?_)
  refine lv_lstore_n (pc := 50) (lv' := [(2, .long v6), (0, .ref (ad 0)), (1, .int p1), (4, .int a.2)]) hx hb dX10_cost_50 rfl hl (by decide) rfl (fun ls hl => ?_)
  refine lv_iinc (pc := 51) (v := (a.2 + 1)) (lv' := [(4, .int (a.2 + 1)), (2, .long v6), (0, .ref (ad 0)), (1, .int p1)]) hx hb dX10_cost_51 hl (k := 3) rfl rfl (by decide) rfl (fun ls hl => ?_)
  refine lv_goto (pc := 54) (tgt := 13) hx hb dX10_cost_54 (by decide) ?_
  exact hL _ (Option.some.inj hf).symm _ _ _ hI (lv_sub hl [2, 3, 1, 0] rfl)
set_option maxHeartbeats 4000000 in
set_option maxRecDepth 100000 in
theorem lX10_cost_2 (C0 : zFix p m c cX10_cost 5 s args wsX10_cost RX10 meth (some .int)) {k : Nat} {u : MX} {a : Int32} {b : (Int32) ⊕ (Unit)} (hit : ziter (bX10_cost_2 k u) k a = some b) (hx9 : (fun (b : (Int32) ⊕ (Unit)) => zel b (fun b => ∀ (H : Heap) (locs : List Loc) (ls : Array Slot), zIn D ad cy (WM ad cy u) A s H locs → lv_has ls 5 [(1, .int b)] → W p l e ({ frames := 1, cells := 0, slots := 0, locals := 25 } : Room) s m args below meth c H locs 0 0 Q (F0 m 83 ls [])) (fun b => ∀ (H : Heap) (locs : List Loc) (ls : Array Slot), zIn D ad cy (WM ad cy u) A s H locs → lv_has ls 5 [] → W p l e ({ frames := 1, cells := 0, slots := 0, locals := 25 } : Room) s m args below meth c H locs 0 0 Q (F0 m 91 ls []))) b) : (fun (a : Int32) => ∀ (H : Heap) (locs : List Loc) (ls : Array Slot), zIn D ad cy (WM ad cy u) A s H locs → lv_has ls 5 [(0, .ref (ad 0)), (1, .int a)] → W p l e ({ frames := 1, cells := 0, slots := 0, locals := 25 } : Room) s m args below meth c H locs 0 0 Q (F0 m 2 ls [])) a := by
  obtain ⟨hx, hb, hml, hown, hts, hr, hlk⟩ := id C0
  refine zloop (Wh := (fun (a : Int32) => ∀ (H : Heap) (locs : List Loc) (ls : Array Slot), zIn D ad cy (WM ad cy u) A s H locs → lv_has ls 5 [(0, .ref (ad 0)), (1, .int a)] → W p l e ({ frames := 1, cells := 0, slots := 0, locals := 25 } : Room) s m args below meth c H locs 0 0 Q (F0 m 2 ls []))) (Wx := (fun (b : (Int32) ⊕ (Unit)) => zel b (fun b => ∀ (H : Heap) (locs : List Loc) (ls : Array Slot), zIn D ad cy (WM ad cy u) A s H locs → lv_has ls 5 [(1, .int b)] → W p l e ({ frames := 1, cells := 0, slots := 0, locals := 25 } : Room) s m args below meth c H locs 0 0 Q (F0 m 83 ls [])) (fun b => ∀ (H : Heap) (locs : List Loc) (ls : Array Slot), zIn D ad cy (WM ad cy u) A s H locs → lv_has ls 5 [] → W p l e ({ frames := 1, cells := 0, slots := 0, locals := 25 } : Room) s m args below meth c H locs 0 0 Q (F0 m 91 ls [])))) ?_ _ a b hit hx9
  intro a x hf hL hX H locs ls hI hl
  unfold bX10_cost_2 at hf
  refine lv_iload_n (pc := 2) hx hb dX10_cost_2 rfl (lv_at hl 1 rfl) ?_
  refine lv_bipush (pc := 3) (v := 100) hx hb dX10_cost_3 (by decide) ?_
  refine z_icmp_gt (pc := 5) (tgt := 91) hx hb dX10_cost_5 (by decide) hf (fun hf => ?_) (fun hf => ?_)
  · exact (z_elP2 (hX _ (Option.some.inj hf).symm)) _ _ _ hI (lv_sub hl [] rfl)
  refine lv_lconst (pc := 8) (v := 0) hx hb dX10_cost_8 (by decide) ?_
  refine lv_lstore_n (pc := 9) (lv' := [(2, .long (0 : Int64)), (0, .ref (ad 0)), (1, .int a)]) hx hb dX10_cost_9 rfl hl (by decide) rfl (fun ls hl => ?_)
  refine lv_iconst (pc := 10) (v := 1) hx hb dX10_cost_10 (by decide) ?_
  refine lv_istore (pc := 11) (lv' := [(4, .int (1 : Int32)), (2, .long (0 : Int64)), (0, .ref (ad 0)), (1, .int a)]) hx hb dX10_cost_11 hl (by decide) rfl (fun ls hl => ?_)
  obtain ⟨b7, hb8, hf⟩ := zbind hf
  refine lX10_cost_13 C0 hb8 ?_ _ _ _ hI (lv_sub hl [2, 3, 1, 0] rfl)
  intro H locs ls hI hl
  refine lv_lload_n (pc := 57) hx hb dX10_cost_57 rfl (lv_at hl 2 rfl) ?_
  refine lv_aload_n (pc := 58) hx hb dX10_cost_58 rfl (lv_at hl 0 rfl) ?_
  refine z_get (pc := 59) (index := 28) hx hb hts iwX10_cost_10 hown hI (ml_0 ad cy u) rfl 15 (by decide) (by decide +kernel) rfl rfl dX10_cost_59 ?_
  refine lv_iconst (pc := 62) (v := 0) hx hb dX10_cost_62 (by decide) ?_
  refine z_iald (pc := 63) hx hb hI (ml_7 ad cy u) 0 rfl dX10_cost_63 hf (fun v9 hf => ?_)
  refine lv_aload_n (pc := 64) hx hb dX10_cost_64 rfl (lv_at hl 0 rfl) ?_
  refine z_get (pc := 65) (index := 28) hx hb hts iwX10_cost_10 hown hI (ml_0 ad cy u) rfl 15 (by decide) (by decide +kernel) rfl rfl dX10_cost_65 ?_
  refine lv_iconst (pc := 68) (v := 1) hx hb dX10_cost_68 (by decide) ?_
  refine z_iald (pc := 69) hx hb hI (ml_7 ad cy u) 0 rfl dX10_cost_69 hf (fun v10 hf => ?_)
  refine lv_isub (pc := 70) hx hb dX10_cost_70 ?_
  refine lv_i2l (pc := 71) hx hb dX10_cost_71 rfl ?_
  refine lv_iload_n (pc := 72) hx hb dX10_cost_72 rfl (lv_at hl 1 rfl) ?_
  refine lv_i2l (pc := 73) hx hb dX10_cost_73 rfl ?_
  refine lv_iconst (pc := 74) (v := 3) hx hb dX10_cost_74 (by decide) ?_
  obtain ⟨q12, hc11, hf⟩ := zbind hf
  refine zcallSl (pc := 75) (As := [.long (a.toInt64), .int (3 : Int32)]) (rest := [.long ((v9 - v10).toInt64), .long b7]) ⟨hx, hb, hml, hown, hts⟩ (kX10_power l k (a.toInt64) (3 : Int32) q12 hc11) (va_cwS 2 hts gX10_cost_X10_power rfl rfl rfl (by decide +kernel) ⟨Nat.le_of_ble_eq_true rfl, Nat.le_of_ble_eq_true rfl⟩) rfl hl.1 rfl (Nat.le_of_ble_eq_true rfl) dX10_cost_75 (Nat.zero_le _) (Nat.zero_le _) ?_
  refine lv_lmul (pc := 78) hx hb dX10_cost_78 ?_
  refine z_lc_gt (pc := 79) (tgt := 85) hx hb dX10_cost_79 dX10_cost_80 (by decide) hf (fun hf => ?_) (fun hf => ?_)
  · refine lv_iinc (pc := 85) (v := (a + 1)) (lv' := [(1, .int (a + 1)), (0, .ref (ad 0)), (2, .long b7)]) hx hb dX10_cost_85 hl (k := 1) rfl rfl (by decide) rfl (fun ls hl => ?_)
    refine lv_goto (pc := 88) (tgt := 2) hx hb dX10_cost_88 (by decide) ?_
    exact hL _ (Option.some.inj hf).symm _ _ _ hI (lv_sub hl [1, 0] rfl)
  exact (z_elP1 (hX _ (Option.some.inj hf).symm)) _ _ _ hI (lv_sub hl [1] rfl)
set_option maxHeartbeats 4000000 in
set_option maxRecDepth 100000 in
theorem kX10_cost (l : Launch) (D : va_G) (ad : Nat → Nat) (cy : Nat → ClassId) (k : Nat) (u : MX) (r : Int32) (hf : fX10_cost k u = some r) : zCt l yX10_cost wsX10_cost ({ frames := 1, cells := 0, slots := 0, locals := 25 } : Room) D ad cy [.ref (ad 0)] (WM ad cy u) (some (.int r)) (WM ad cy u) := by
  refine zCt.of (cc := cX10_cost) (maxL := 5) (ret := (some .int)) (own := RX10) (by decide) rfl rfl ?_
  intro p e s m below meth c A C0 hI
  obtain ⟨hx, hb, hml, hown, hts, hr, hlk⟩ := id C0
  refine z_entry (Nat.le_of_ble_eq_true rfl) (fun ls hl => ?_)
  have hl : lv_has ls 5 [(0, .ref (ad 0))] := hl
  unfold fX10_cost at hf
  refine lv_iconst (pc := 0) (v := 1) hx hb dX10_cost_0 (by decide) ?_
  refine lv_istore_n (pc := 1) (lv' := [(1, .int (1 : Int32)), (0, .ref (ad 0))]) hx hb dX10_cost_1 rfl hl (by decide) rfl (fun ls hl => ?_)
  obtain ⟨b13, hb14, hf⟩ := zbind hf
  rcases b13 with b13 | b13
  · have hf := z_el1 hf
    refine lX10_cost_2 C0 hb14 ?_ _ _ _ hI (lv_sub hl [1, 0] rfl)
    intro H locs ls hI hl
    refine lv_iload_n (pc := 83) hx hb dX10_cost_83 rfl (lv_at hl 0 rfl) ?_
    obtain rfl := zone hf
    exact z_iret (pc := 84) C0 hI dX10_cost_84
  have hf := z_el2 hf
  refine lX10_cost_2 C0 hb14 ?_ _ _ _ hI (lv_sub hl [1, 0] rfl)
  intro H locs ls hI hl
  refine lv_bipush (pc := 91) (v := -4) hx hb dX10_cost_91 (by decide) ?_
  obtain rfl := zone hf
  exact z_iret (pc := 93) C0 hI dX10_cost_93
set_option maxHeartbeats 4000000 in
set_option maxRecDepth 100000 in
theorem kX10_near (l : Launch) (D : va_G) (ad : Nat → Nat) (cy : Nat → ClassId) (k : Nat) (a1 : Int32) (u : MX) (r : Int32) (u' : MX) (hf : fX10_near k a1 u = some (r, u')) : zCt l yX10_near wsX10_near ({ frames := 3, cells := 0, slots := 0, locals := 74 } : Room) D ad cy [.ref (ad 0), .int a1] (WM ad cy u) (some (.int r)) (WM ad cy u') := by
  refine zCt.of (cc := cX10_near) (maxL := 4) (ret := (some .int)) (own := RX10) (by decide) rfl rfl ?_
  intro p e s m below meth c A C0 hI
  obtain ⟨hx, hb, hml, hown, hts, hr, hlk⟩ := id C0
  refine z_entry (Nat.le_of_ble_eq_true rfl) (fun ls hl => ?_)
  have hl : lv_has ls 4 [(0, .ref (ad 0)), (1, .int a1)] := hl
  unfold fX10_near at hf
  refine lv_iload_n (pc := 0) hx hb dX10_near_0 rfl (lv_at hl 1 rfl) ?_
  obtain ⟨q2, hc1, hf⟩ := zbind hf
  refine zcallSi (pc := 1) (As := [.int a1]) (rest := []) ⟨hx, hb, hml, hown, hts⟩ (kX10_isLaw l a1 q2 hc1) (va_cwS 1 hts gX10_near_X10_isLaw rfl rfl rfl (by decide +kernel) ⟨Nat.le_of_ble_eq_true rfl, Nat.le_of_ble_eq_true rfl⟩) rfl hl.1 rfl (Nat.le_of_ble_eq_true rfl) dX10_near_1 (Nat.zero_le _) (Nat.zero_le _) ?_
  refine z_if_ne (pc := 4) (tgt := 9) hx hb dX10_near_4 (by decide) hf (fun hf => ?_) (fun hf => ?_)
  · refine lv_aload_n (pc := 9) hx hb dX10_near_9 rfl (lv_at hl 0 rfl) ?_
    refine lv_iload_n (pc := 10) hx hb dX10_near_10 rfl (lv_at hl 1 rfl) ?_
    obtain ⟨q4, hc3, hf⟩ := zbind hf
    refine zcallVv (pc := 11) (As := [.int a1]) (rest := []) ⟨hx, hb, hml, hown, hts⟩ (kX10_layLaw l D ad cy k a1 u q4 hc3) (cwV 1 hts gX10_near_X10_layLaw rfl rfl rfl (by decide +kernel) ⟨Nat.le_of_ble_eq_true rfl, Nat.le_of_ble_eq_true rfl⟩) hI rfl (ml_0 ad cy u) rfl hl.1 rfl (Nat.le_of_ble_eq_true rfl) dX10_near_11 (Nat.zero_le _) (Nat.zero_le _) (fun H locs hI => ?_)
    refine lv_aload_n (pc := 14) hx hb dX10_near_14 rfl (lv_at hl 0 rfl) ?_
    obtain ⟨q6, hc5, hf⟩ := zbind hf
    refine zcallVl (pc := 15) (As := []) (rest := []) ⟨hx, hb, hml, hown, hts⟩ (kX10_farthest l D ad cy k q4 q6 hc5) (cwV 0 hts gX10_near_X10_farthest rfl rfl rfl (by decide +kernel) ⟨Nat.le_of_ble_eq_true rfl, Nat.le_of_ble_eq_true rfl⟩) hI rfl (ml_0 ad cy q4) rfl hl.1 rfl (Nat.le_of_ble_eq_true rfl) dX10_near_15 (Nat.zero_le _) (Nat.zero_le _) (fun H locs hI => ?_)
    refine lv_aload_n (pc := 18) hx hb dX10_near_18 rfl (lv_at hl 0 rfl) ?_
    obtain ⟨q8, hc7, hf⟩ := zbind hf
    refine zcallVl (pc := 19) (As := []) (rest := [.long q6]) ⟨hx, hb, hml, hown, hts⟩ (kX10_whole l D ad cy k q4 q8 hc7) (cwV 0 hts gX10_near_X10_whole rfl rfl rfl (by decide +kernel) ⟨Nat.le_of_ble_eq_true rfl, Nat.le_of_ble_eq_true rfl⟩) hI rfl (ml_0 ad cy q4) rfl hl.1 rfl (Nat.le_of_ble_eq_true rfl) dX10_near_19 (Nat.zero_le _) (Nat.zero_le _) (fun H locs hI => ?_)
    refine lv_ladd (pc := 22) hx hb dX10_near_22 ?_
    refine lv_lconst (pc := 23) (v := 1) hx hb dX10_near_23 (by decide) ?_
    refine lv_lsub (pc := 24) hx hb dX10_near_24 ?_
    refine lv_aload_n (pc := 25) hx hb dX10_near_25 rfl (lv_at hl 0 rfl) ?_
    obtain ⟨q10, hc9, hf⟩ := zbind hf
    refine zcallVl (pc := 26) (As := []) (rest := [.long ((q6 + q8) - (1 : Int64))]) ⟨hx, hb, hml, hown, hts⟩ (kX10_whole l D ad cy k q4 q10 hc9) (cwV 0 hts gX10_near_X10_whole rfl rfl rfl (by decide +kernel) ⟨Nat.le_of_ble_eq_true rfl, Nat.le_of_ble_eq_true rfl⟩) hI rfl (ml_0 ad cy q4) rfl hl.1 rfl (Nat.le_of_ble_eq_true rfl) dX10_near_26 (Nat.zero_le _) (Nat.zero_le _) (fun H locs hI => ?_)
    refine z_ldiv (pc := 29) hx hb dX10_near_29 hf (fun hf => ?_)
    refine z_bl hf (fun v11 hf => ?_)
    refine lv_lstore_n (pc := 30) (lv' := [(2, .long v11), (0, .ref (ad 0)), (1, .int a1)]) hx hb dX10_near_30 rfl hl (by decide) rfl (fun ls hl => ?_)
    refine lv_aload_n (pc := 31) hx hb dX10_near_31 rfl (lv_at hl 1 rfl) ?_
    obtain ⟨q13, hc12, hf⟩ := zbind hf
    refine zcallVi (pc := 32) (As := []) (rest := []) ⟨hx, hb, hml, hown, hts⟩ (kX10_isSeen l D ad cy k q4 q13 hc12) (cwV 0 hts gX10_near_X10_isSeen rfl rfl rfl (by decide +kernel) ⟨Nat.le_of_ble_eq_true rfl, Nat.le_of_ble_eq_true rfl⟩) hI rfl (ml_0 ad cy q4) rfl hl.1 rfl (Nat.le_of_ble_eq_true rfl) dX10_near_32 (Nat.zero_le _) (Nat.zero_le _) (fun H locs hI => ?_)
    refine z_if_eq (pc := 35) (tgt := 51) hx hb dX10_near_35 (by decide) hf (fun hf => ?_) (fun hf => ?_)
    · refine lv_bipush (pc := 51) (v := -4) hx hb dX10_near_51 (by decide) ?_
      obtain ⟨rfl, rfl⟩ := zpair hf
      exact z_iret (pc := 53) C0 hI dX10_near_53
    refine lv_lload_n (pc := 38) hx hb dX10_near_38 rfl (lv_at hl 0 rfl) ?_
    refine lv_ldc2 (pc := 39) (v := 99) hx hb hown (hts (.constantLong RX10 150 (99)) (by decide +kernel)) dX10_near_39 ?_
    refine z_lc_gt (pc := 42) (tgt := 51) hx hb dX10_near_42 dX10_near_43 (by decide) hf (fun hf => ?_) (fun hf => ?_)
    · refine lv_bipush (pc := 51) (v := -4) hx hb dX10_near_51 (by decide) ?_
      obtain ⟨rfl, rfl⟩ := zpair hf
      exact z_iret (pc := 53) C0 hI dX10_near_53
    refine lv_lload_n (pc := 46) hx hb dX10_near_46 rfl (lv_at hl 0 rfl) ?_
    refine lv_l2i (pc := 47) hx hb dX10_near_47 rfl ?_
    refine lv_goto (pc := 48) (tgt := 53) hx hb dX10_near_48 (by decide) ?_
    obtain ⟨rfl, rfl⟩ := zpair hf
    exact z_iret (pc := 53) C0 hI dX10_near_53
  refine lv_iconst (pc := 7) (v := -1) hx hb dX10_near_7 (by decide) ?_
  obtain ⟨rfl, rfl⟩ := zpair hf
  exact z_iret (pc := 8) C0 hI dX10_near_8
end
