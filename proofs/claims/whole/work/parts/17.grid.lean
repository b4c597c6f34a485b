theorem iwX2_forget_2 : ∀ w ∈ wsX20, w ∈ wsX2_forget := by decide +kernel
def fX2_forget (u : CX) : Option (CX) :=
  zb (xs_stale u (1 : Int32)) (fun u1 =>
  zb (xs_safestF u1 (-9 : Int32)) (fun u2 =>
  zb (xs_unlikeF u2 (-9 : Int32)) (fun u3 =>
  some u3)))
theorem iwX2_homesAreNear_2 : ∀ w ∈ wsX20, w ∈ wsX2_homesAreNear := by decide +kernel
theorem iwX2_homesAreNear_8 : ∀ w ∈ wsX80, w ∈ wsX2_homesAreNear := by decide +kernel
def bX2_homesAreNear_2 (k : Nat) (p1 : Int32) (p2 : Int32) (u : CX) (a : Int32) : Option ((Int32) ⊕ ((Unit) ⊕ (Unit))) :=
  if (3 : Int32) < a then
    some (.inr (.inr ()))
  else
  (fX3_sorties u).bind (fun q2 =>
  (fX8_homesTop k a (p1.toInt64) u).bind (fun q4 =>
  zb ((q2.toInt64) * q4) (fun v5 =>
  (fX3_withHoles a u).bind (fun q7 =>
  if (zabsL (v5 - ((q7.toInt64) * (xg_Tbottom u)))) ≤ ((p2.toInt64) * (xg_Tbottom u)) then
    some (.inl (a + 1))
  else
  some (.inr (.inl ()))))))
def fX2_homesAreNear (k : Nat) (a1 : Int32) (a2 : Int32) (u : CX) : Option (Int32) :=
  (ziter (bX2_homesAreNear_2 k a1 a2 u) k (0 : Int32)).bind
    (fun b8 => zel b8
     (fun b8 =>
        some (0 : Int32))
      (fun b8 =>
        some (1 : Int32)))
theorem iwX2_holesAreNear_2 : ∀ w ∈ wsX20, w ∈ wsX2_holesAreNear := by decide +kernel
theorem iwX2_holesAreNear_8 : ∀ w ∈ wsX80, w ∈ wsX2_holesAreNear := by decide +kernel
def fX2_holesAreNear (a1 : Int32) (a2 : Int32) (a3 : Int64) (a4 : Int32) (u : CX) : Option (Int32) :=
  (fX3_sorties u).bind (fun q2 =>
  (fX8_partStand a1 a2 u).bind (fun q4 =>
  zb ((q2.toInt64) * ((q4.toInt64) * a3)) (fun v5 =>
  (fX3_inPart a1 u).bind (fun q7 =>
  if ((a4.toInt64) * (xg_Tbottom u)) < (zabsL (v5 - ((q7.toInt64) * (xg_Tbottom u)))) then
    some (0 : Int32)
  else
  some (1 : Int32)))))
theorem iwX2_lawFits_2 : ∀ w ∈ wsX20, w ∈ wsX2_lawFits := by decide +kernel
def bX2_lawFits_2 (k : Nat) (p1 : Int32) (p2 : Int32) (u : CX) (a : Int32) : Option ((Int32) ⊕ ((Unit) ⊕ (Unit))) :=
  if (4 : Int32) ≤ a then
    some (.inr (.inr ()))
  else
  (fX9_figure p1 a).bind (fun q2 =>
  (fX0_allows a q2 u).bind (fun q4 =>
  if q4 = 0 then
    some (.inr (.inl ()))
  else
  some (.inl (a + 1))))
def bX2_lawFits_65 (k : Nat) (p1 : Int32) (p2 : Int32) (p4 : Int64) (u : CX) (a : Int32) : Option ((Int32) ⊕ ((Unit) ⊕ (Unit))) :=
  if (4 : Int32) ≤ a then
    some (.inr (.inr ()))
  else
  (fX9_figure p1 a).bind (fun q14 =>
  (fX2_holesAreNear a q14 p4 p2 u).bind (fun q16 =>
  if q16 = 0 then
    some (.inr (.inl ()))
  else
  some (.inl (a + 1))))
def fX2_lawFits (k : Nat) (a1 : Int32) (a2 : Int32) (u : CX) : Option (Int32) :=
  (ziter (bX2_lawFits_2 k a1 a2 u) k (0 : Int32)).bind
    (fun b5 => zel b5
     (fun b5 =>
        some (0 : Int32))
      (fun b5 =>
        (fX8_stand k a1 u).bind (fun q8 =>
        (fX2_homesAreNear k q8 a2 u).bind (fun q10 =>
        if q10 = 0 then
          some (0 : Int32)
        else
        (fX8_holeRate (q8.toInt64) u).bind (fun q12 =>
        (ziter (bX2_lawFits_65 k a1 a2 q12 u) k (0 : Int32)).bind
          (fun b17 => zel b17
           (fun b17 =>
              some (0 : Int32))
            (fun b17 =>
              some (1 : Int32))))))))
theorem iwX2_settleStands_2 : ∀ w ∈ wsX20, w ∈ wsX2_settleStands := by decide +kernel
theorem iwX2_settleStands_8 : ∀ w ∈ wsX80, w ∈ wsX2_settleStands := by decide +kernel
def bX2_settleStands_12 (k : Nat) (p1 : Int32) (a : Int32 × CX) : Option ((Int32 × CX) ⊕ (CX)) :=
  if (800 : Int32) < a.1 then
    some (.inr a.2)
  else
  if (xg_Tscale a.2) < (a.1.toInt64) then
    some (.inr a.2)
  else
  (fX2_homesAreNear k a.1 p1 a.2).bind (fun q3 =>
  if q3 = 0 then
    zix 801 a.1 (fun j4 => zb (xs_rates a.2 (vp_updL (xg_rates a.2) j4 (-1 : Int64))) (fun u5 =>
    some (.inl ((a.1 + 1), u5))))
  else
  (fX8_holeRate (a.1.toInt64) a.2).bind (fun q7 =>
  zix 801 a.1 (fun j8 => zb (xs_rates a.2 (vp_updL (xg_rates a.2) j8 q7)) (fun u9 =>
  some (.inl ((a.1 + 1), u9))))))
def fX2_settleStands (k : Nat) (u : CX) : Option (CX) :=
  zget 7 (xg_Trules u) (5 : Int32) (fun v1 =>
  (ziter (bX2_settleStands_12 k v1) k ((0 : Int32), u)).bind (fun b10 =>
    some b10))
theorem iwX2_allHolesAreNear_2 : ∀ w ∈ wsX20, w ∈ wsX2_allHolesAreNear := by decide +kernel
theorem iwX2_allHolesAreNear_8 : ∀ w ∈ wsX80, w ∈ wsX2_allHolesAreNear := by decide +kernel
def fX2_allHolesAreNear (a1 : Int32) (a2 : Int32) (a3 : Int32) (a4 : Int32) (a5 : Int64) (u : CX) : Option (Int32) :=
  zget 7 (xg_Trules u) (5 : Int32) (fun v1 =>
  (fX2_holesAreNear (0 : Int32) a1 a5 v1 u).bind (fun q3 =>
  if q3 = 0 then
    some (0 : Int32)
  else
  (fX2_holesAreNear (1 : Int32) a2 a5 v1 u).bind (fun q5 =>
  if q5 = 0 then
    some (0 : Int32)
  else
  (fX2_holesAreNear (2 : Int32) a3 a5 v1 u).bind (fun q7 =>
  if q7 = 0 then
    some (0 : Int32)
  else
  (fX2_holesAreNear (3 : Int32) a4 a5 v1 u).bind (fun q9 =>
  if q9 = 0 then
    some (0 : Int32)
  else
  some (1 : Int32))))))
theorem iwX2_keepNone_2 : ∀ w ∈ wsX20, w ∈ wsX2_keepNone := by decide +kernel
def bX2_keepNone_2 (k : Nat) (a : Int32 × CX) : Option ((Int32 × CX) ⊕ (CX)) :=
  if (1331 : Int32) ≤ a.1 then
    some (.inr a.2)
  else
  zix 1331 a.1 (fun j1 => zb (xs_bits a.2 (upd (xg_bits a.2) j1 (0 : Int32))) (fun u2 =>
  some (.inl ((a.1 + 1), u2))))
def bX2_keepNone_24 (k : Nat) (a : Int32 × CX) : Option ((Int32 × CX) ⊕ (CX)) :=
  if (44 : Int32) ≤ a.1 then
    some (.inr a.2)
  else
  zix 44 a.1 (fun j5 => zb (xs_tally a.2 (upd (xg_tally a.2) j5 (0 : Int32))) (fun u6 =>
  some (.inl ((a.1 + 1), u6))))
def fX2_keepNone (k : Nat) (u : CX) : Option (CX) :=
  (ziter (bX2_keepNone_2 k) k ((0 : Int32), u)).bind (fun b3 =>
    (ziter (bX2_keepNone_24 k) k ((0 : Int32), b3)).bind (fun b7 =>
      zb (xs_gsize b7 (0 : Int32)) (fun u9 =>
      zb (xs_gleast u9 (0 : Int32)) (fun u10 =>
      zb (xs_gmost u10 (-1 : Int32)) (fun u11 =>
      some u11)))))
theorem iwX2_keep_2 : ∀ w ∈ wsX20, w ∈ wsX2_keep := by decide +kernel
def fX2_keep (a1 : Int32) (a2 : Int32) (a3 : Int32) (a4 : Int32) (u : CX) : Option (CX) :=
  zb ((((a1 * (11 : Int32)) + a2) * (11 : Int32)) + a3) (fun v1 =>
  zb ((v1 * (11 : Int32)) + a4) (fun v2 =>
  zget 1331 (xg_bits u) v1 (fun v3 =>
  zix 1331 v1 (fun j4 => zb (xs_bits u (upd (xg_bits u) j4 (v3 ||| ((1 : Int32) <<< (a4 &&& 31))))) (fun u5 =>
  zget 44 (xg_tally u5) a1 (fun v6 =>
  zix 44 a1 (fun j7 => zb (xs_tally u5 (upd (xg_tally u5) j7 (v6 + (1 : Int32)))) (fun u8 =>
  zb ((11 : Int32) + a2) (fun v9 =>
  zget 44 (xg_tally u8) v9 (fun v10 =>
  zix 44 v9 (fun j11 => zb (xs_tally u8 (upd (xg_tally u8) j11 (v10 + (1 : Int32)))) (fun u12 =>
  zb ((22 : Int32) + a3) (fun v13 =>
  zget 44 (xg_tally u12) v13 (fun v14 =>
  zix 44 v13 (fun j15 => zb (xs_tally u12 (upd (xg_tally u12) j15 (v14 + (1 : Int32)))) (fun u16 =>
  zb ((33 : Int32) + a4) (fun v17 =>
  zget 44 (xg_tally u16) v17 (fun v18 =>
  zix 44 v17 (fun j19 => zb (xs_tally u16 (upd (xg_tally u16) j19 (v18 + (1 : Int32)))) (fun u20 =>
  if (xg_gsize u20) = 0 then
    zb (xs_gleast u20 v2) (fun u24 =>
    zb (xs_gmost u24 v2) (fun u25 =>
    zb (xs_gsize u25 ((xg_gsize u25) + (1 : Int32))) (fun u26 =>
    some u26)))
  else
  zb (xs_gleast u20 (xg_gleast u20)) (fun u21 =>
  zb (xs_gmost u21 v2) (fun u22 =>
  zb (xs_gsize u22 ((xg_gsize u22) + (1 : Int32))) (fun u23 =>
  some u23)))))))))))))))))))))))
theorem iwX2_isKept_2 : ∀ w ∈ wsX20, w ∈ wsX2_isKept := by decide +kernel
def fX2_isKept (a1 : Int32) (u : CX) : Option (Int32) :=
  if a1 < 0 then
    some (0 : Int32)
  else
  if (14641 : Int32) ≤ a1 then
    some (0 : Int32)
  else
  zdi (11 : Int32) (
  zget 1331 (xg_bits u) (a1 / (11 : Int32)) (fun v1 =>
  zdi (11 : Int32) (
  if ((v1 >>> ((zremI a1 (11 : Int32)) &&& 31)) &&& (1 : Int32)) = (1 : Int32) then
    some (1 : Int32)
  else
  some (0 : Int32))))
theorem iwX2_gatherWith_2 : ∀ w ∈ wsX20, w ∈ wsX2_gatherWith := by decide +kernel
def bX2_gatherWith_49 (k : Nat) (p1 : Int32) (p2 : Int32) (p3 : Int32) (p4 : Int32) (a : Int32 × CX) : Option ((Int32 × CX) ⊕ (CX)) :=
  if (10 : Int32) < a.1 then
    some (.inr a.2)
  else
  (fX8_partStand (2 : Int32) p4 a.2).bind (fun q9 =>
  (fX8_partStand (3 : Int32) a.1 a.2).bind (fun q11 =>
  zb ((p3 + q9) + q11) (fun v12 =>
  if v12 < 0 then
    some (.inl ((a.1 + 1), a.2))
  else
  if (800 : Int32) < v12 then
    some (.inl ((a.1 + 1), a.2))
  else
  zget 801 (xg_rates a.2) v12 (fun v13 =>
  if v13 = (-1 : Int64) then
    some (.inl ((a.1 + 1), a.2))
  else
  (fX0_allows (3 : Int32) a.1 a.2).bind (fun q15 =>
  if q15 = 0 then
    some (.inl ((a.1 + 1), a.2))
  else
  zget 801 (xg_rates a.2) v12 (fun v16 =>
  (fX2_allHolesAreNear p1 p2 p4 a.1 v16 a.2).bind (fun q18 =>
  if q18 = 0 then
    some (.inl ((a.1 + 1), a.2))
  else
  (fX2_keep p1 p2 p4 a.1 a.2).bind (fun q20 =>
  some (.inl ((a.1 + 1), q20))))))))))
def bX2_gatherWith_23 (k : Nat) (p1 : Int32) (p2 : Int32) (p3 : Int32) (a : Int32 × CX) : Option ((Int32 × CX) ⊕ (CX)) :=
  if (10 : Int32) < a.1 then
    some (.inr a.2)
  else
  (fX0_allows (2 : Int32) a.1 a.2).bind (fun q7 =>
  if q7 = 0 then
    some (.inl ((a.1 + 1), a.2))
  else
  (ziter (bX2_gatherWith_49 k p1 p2 p3 a.1) k ((0 : Int32), a.2)).bind (fun b21 =>
    some (.inl ((a.1 + 1), b21))))
def fX2_gatherWith (k : Nat) (a1 : Int32) (a2 : Int32) (u : CX) : Option (CX) :=
  (fX8_partStand (0 : Int32) a1 u).bind (fun q2 =>
  (fX8_partStand (1 : Int32) a2 u).bind (fun q4 =>
  zb (q2 + q4) (fun v5 =>
  (ziter (bX2_gatherWith_23 k a1 a2 v5) k ((0 : Int32), u)).bind (fun b23 =>
    some b23))))
theorem iwX2_gather_2 : ∀ w ∈ wsX20, w ∈ wsX2_gather := by decide +kernel
def bX2_gather_14 (k : Nat) (p1 : Int32) (a : Int32 × CX) : Option ((Int32 × CX) ⊕ (CX)) :=
  if (10 : Int32) < a.1 then
    some (.inr a.2)
  else
  (fX0_allows (0 : Int32) p1 a.2).bind (fun q4 =>
  if q4 = 0 then
    some (.inl ((a.1 + 1), a.2))
  else
  (fX0_allows (1 : Int32) a.1 a.2).bind (fun q6 =>
  if q6 = 0 then
    some (.inl ((a.1 + 1), a.2))
  else
  (fX2_gatherWith k p1 a.1 a.2).bind (fun q8 =>
  some (.inl ((a.1 + 1), q8)))))
def bX2_gather_6 (k : Nat) (a : Int32 × CX) : Option ((Int32 × CX) ⊕ (CX)) :=
  if (10 : Int32) < a.1 then
    some (.inr a.2)
  else
  (ziter (bX2_gather_14 k a.1) k ((0 : Int32), a.2)).bind (fun b9 =>
    some (.inl ((a.1 + 1), b9)))
def fX2_gather (k : Nat) (u : CX) : Option (CX) :=
  (fX2_keepNone k u).bind (fun q2 =>
  (ziter (bX2_gather_6 k) k ((0 : Int32), q2)).bind (fun b11 =>
    some b11))
theorem iwX2_fitting_2 : ∀ w ∈ wsX20, w ∈ wsX2_fitting := by decide +kernel
def fX2_fitting (k : Nat) (u : CX) : Option (Int32 × CX) :=
  if (xg_stale u) = 0 then
    some ((xg_gsize u), u)
  else
  (fX2_settleStands k u).bind (fun q2 =>
  (fX2_gather k q2).bind (fun q4 =>
  zb (xs_stale q4 (0 : Int32)) (fun u5 =>
  some ((xg_gsize u5), u5))))
theorem iwX2_withFalls_2 : ∀ w ∈ wsX20, w ∈ wsX2_withFalls := by decide +kernel
def fX2_withFalls (a1 : Int32) (a2 : Int32) (u : CX) : Option (Int32) :=
  zget 44 (xg_tally u) (((11 : Int32) * a1) + a2) (fun v1 =>
  some v1)
def bX2_leftBy_6 (k : Nat) (p1 : Int32) (p2 : Int32) (p3 : Int32) (u : CX) (a : Int32 × Int32) : Option ((Int32 × Int32) ⊕ (Int32)) :=
  if (10 : Int32) < a.2 then
    some (.inr a.1)
  else
  (fX9_isNearTrial p2 p3 a.2).bind (fun q2 =>
  if q2 = 0 then
    zb (a.1 + (0 : Int32)) (fun v3 =>
    some (.inl (v3, (a.2 + 1))))
  else
  (fX2_withFalls p1 a.2 u).bind (fun q5 =>
  zb (a.1 + q5) (fun v6 =>
  some (.inl (v6, (a.2 + 1))))))
def fX2_leftBy (k : Nat) (a1 : Int32) (a2 : Int32) (a3 : Int32) (u : CX) : Option (Int32) :=
  (ziter (bX2_leftBy_6 k a1 a2 a3 u) k ((0 : Int32), (0 : Int32))).bind (fun b7 =>
    some b7)
theorem iwX2_oftenerIn_2 : ∀ w ∈ wsX20, w ∈ wsX2_oftenerIn := by decide +kernel
def bX2_oftenerIn_8 (k : Nat) (p1 : Int32) (p2 : Int32) (u : CX) (a : Int32 × Int32) : Option ((Int32 × Int32) ⊕ (Int32)) :=
  if (xg_gmost u) < a.2 then
    some (.inr a.1)
  else
  (fX2_isKept a.2 u).bind (fun q3 =>
  if q3 = 0 then
    zb (a.1 + (0 : Int32)) (fun v4 =>
    some (.inl (v4, (a.2 + 1))))
  else
  (fX9_figure a.2 p1).bind (fun q6 =>
  (fX9_figure a.2 p2).bind (fun q8 =>
  if q6 ≤ q8 then
    zb (a.1 + (0 : Int32)) (fun v9 =>
    some (.inl (v9, (a.2 + 1))))
  else
  zb (a.1 + (1 : Int32)) (fun v10 =>
  some (.inl (v10, (a.2 + 1)))))))
def fX2_oftenerIn (k : Nat) (a1 : Int32) (a2 : Int32) (u : CX) : Option (Int32) :=
  zb (xg_gleast u) (fun v1 =>
  (ziter (bX2_oftenerIn_8 k a1 a2 u) k ((0 : Int32), v1)).bind (fun b11 =>
    some b11))
theorem iwX2_safestPlates_2 : ∀ w ∈ wsX20, w ∈ wsX2_safestPlates := by decide +kernel
theorem iwX2_safestPlates_4 : ∀ w ∈ wsX40, w ∈ wsX2_safestPlates := by decide +kernel
def bX2_safestPlates_11 (k : Nat) (a : Int32 × CX) : Option ((Int32 × CX) ⊕ (CX)) :=
  if (16 : Int32) ≤ a.1 then
    some (.inr a.2)
  else
  zix 16 a.1 (fun j1 => zb (xs_worst a.2 (upd (xg_worst a.2) j1 (800 : Int32))) (fun u2 =>
  some (.inl ((a.1 + 1), u2))))
def bX2_safestPlates_60 (k : Nat) (p2 : Int32) (a : Int32 × CX) : Option ((Int32 × CX) ⊕ (CX)) :=
  if (16 : Int32) ≤ a.1 then
    some (.inr a.2)
  else
  zget 16 (xg_worst a.2) a.1 (fun v10 =>
  zget 16 (xg_stands a.2) a.1 (fun v11 =>
  zix 16 a.1 (fun j12 => zb (xs_worst a.2 (upd (xg_worst a.2) j12 (zminI v10 v11))) (fun u13 =>
  some (.inl ((a.1 + 1), u13))))))
def bX2_safestPlates_37 (k : Nat) (a : Int32 × CX) : Option ((Int32 × CX) ⊕ (CX)) :=
  if (xg_gmost a.2) < a.1 then
    some (.inr a.2)
  else
  (fX2_isKept a.1 a.2).bind (fun q7 =>
  if q7 = 0 then
    some (.inl ((a.1 + 1), a.2))
  else
  (fX4_standAll k a.1 a.2).bind (fun q9 =>
  (ziter (bX2_safestPlates_60 k a.1) k ((0 : Int32), q9)).bind (fun b14 =>
    some (.inl ((a.1 + 1), b14)))))
def fX2_safestPlates (k : Nat) (u : CX) : Option (Int32 × CX) :=
  if (xg_safestF u) = (-9 : Int32) then
    (ziter (bX2_safestPlates_11 k) k ((0 : Int32), u)).bind (fun b3 =>
      zb (xg_gleast b3) (fun v5 =>
      (ziter (bX2_safestPlates_37 k) k (v5, b3)).bind (fun b16 =>
        (fX4_mostHomes_w k b16).bind (fun q19 =>
        zb (xs_safestF b16 q19) (fun u20 =>
        some ((xg_safestF u20), u20))))))
  else
  some ((xg_safestF u), u)
theorem iwX2_unlikeLaw_2 : ∀ w ∈ wsX20, w ∈ wsX2_unlikeLaw := by decide +kernel
def bX2_unlikeLaw_31 (k : Nat) (p2 : Int32) (a : Int32 × CX) : Option ((Int32 × CX) ⊕ (CX)) :=
  if (xg_gmost a.2) < a.1 then
    some (.inr a.2)
  else
  if (xg_unlikeF a.2) = (-4 : Int32) then
    (fX2_isKept a.1 a.2).bind (fun q6 =>
    if q6 = 0 then
      some (.inl ((a.1 + 1), a.2))
    else
    (fX4_bestFor k a.1 a.2).bind (fun q8 =>
    if q8.1 = p2 then
      some (.inl ((a.1 + 1), q8.2))
    else
    zb (xs_unlikeF q8.2 a.1) (fun u9 =>
    some (.inl ((a.1 + 1), u9)))))
  else
  some (.inr a.2)
def fX2_unlikeLaw (k : Nat) (u : CX) : Option (Int32 × CX) :=
  if (xg_unlikeF u) = (-9 : Int32) then
    zb (xs_unlikeF u (-4 : Int32)) (fun u1 =>
    (fX4_bestFor k (xg_gleast u1) u1).bind (fun q3 =>
    zb ((xg_gleast q3.2) + (1 : Int32)) (fun v4 =>
    (ziter (bX2_unlikeLaw_31 k q3.1) k (v4, q3.2)).bind (fun b10 =>
      some ((xg_unlikeF b10), b10)))))
  else
  some ((xg_unlikeF u), u)
section
variable {p : Program} {l : Launch} {e : Env} {s : State} {m : MethodId} {args : Array Value} {below : List Frame} {meth : Method} {c : Code} {A : Nat → Prop} {Q : State → Prop} {D : va_G} {ad : Nat → Nat} {cy : Nat → ClassId}
set_option maxHeartbeats 4000000 in
set_option maxRecDepth 100000 in
theorem kX2_forget (l : Launch) (D : va_G) (ad : Nat → Nat) (cy : Nat → ClassId) (u : CX) (u' : CX) (hf : fX2_forget u = some u') : zCt l yX2_forget wsX2_forget ({ frames := 0, cells := 0, slots := 0, locals := 0 } : Room) D ad cy [.ref (ad 27)] (WX ad cy u) none (WX ad cy u') := by
  refine zCt.of (cc := cX2_forget) (maxL := 1) (ret := none) (own := RX2) (by decide) rfl rfl ?_
  intro p e s m below meth c A C0 hI
  obtain ⟨hx, hb, hml, hown, hts, hr, hlk⟩ := id C0
  refine z_entry (Nat.le_of_ble_eq_true rfl) (fun ls hl => ?_)
  have hl : lv_has ls 1 [(0, .ref (ad 27))] := hl
  unfold fX2_forget at hf
  refine lv_aload_n (pc := 0) hx hb dX2_forget_0 rfl (lv_at hl 0 rfl) ?_
  refine lv_iconst (pc := 1) (v := 1) hx hb dX2_forget_1 (by decide) ?_
  refine z_put (wf := WX ad cy) (pc := 2) (index := 25) hx hb hts iwX2_forget_2 tyX2 tyX2_ok nmX2 hown hI (xl_27 ad cy u) rfl 10 (by decide) (by decide +kernel) rfl rfl rfl rfl (Nat.le_of_ble_eq_true rfl) dX2_forget_2 (xw_stale ad cy u (1 : Int32)) hf (fun u1 H locs hI hf => ?_)
  refine lv_aload_n (pc := 5) hx hb dX2_forget_5 rfl (lv_at hl 0 rfl) ?_
  refine lv_bipush (pc := 6) (v := -9) hx hb dX2_forget_6 (by decide) ?_
  refine z_put (wf := WX ad cy) (pc := 8) (index := 29) hx hb hts iwX2_forget_2 tyX2 tyX2_ok nmX2 hown hI (xl_27 ad cy u1) rfl 11 (by decide) (by decide +kernel) rfl rfl rfl rfl (Nat.le_of_ble_eq_true rfl) dX2_forget_8 (xw_safestF ad cy u1 (-9 : Int32)) hf (fun u2 H locs hI hf => ?_)
  refine lv_aload_n (pc := 11) hx hb dX2_forget_11 rfl (lv_at hl 0 rfl) ?_
  refine lv_bipush (pc := 12) (v := -9) hx hb dX2_forget_12 (by decide) ?_
  refine z_put (wf := WX ad cy) (pc := 14) (index := 33) hx hb hts iwX2_forget_2 tyX2 tyX2_ok nmX2 hown hI (xl_27 ad cy u2) rfl 12 (by decide) (by decide +kernel) rfl rfl rfl rfl (Nat.le_of_ble_eq_true rfl) dX2_forget_14 (xw_unlikeF ad cy u2 (-9 : Int32)) hf (fun u3 H locs hI hf => ?_)
  cases hf
  exact z_vret (pc := 17) C0 hI dX2_forget_17
set_option maxHeartbeats 4000000 in
set_option maxRecDepth 100000 in
theorem lX2_homesAreNear_2 (C0 : zFix p m c cX2_homesAreNear 6 s args wsX2_homesAreNear RX2 meth (some .boolean)) {k : Nat} {p1 : Int32} {p2 : Int32} {u : CX} {a : Int32} {b : (Unit) ⊕ (Unit)} (hit : ziter (bX2_homesAreNear_2 k p1 p2 u) k a = some b) (hx9 : (fun (b : (Unit) ⊕ (Unit)) => zel b (fun b => ∀ (H : Heap) (locs : List Loc) (ls : Array Slot), zIn D ad cy (WX ad cy u) A s H locs → lv_has ls 6 [] → W p l e ({ frames := 2, cells := 0, slots := 0, locals := 46 } : Room) s m args below meth c H locs 0 0 Q (F0 m 65 ls [])) (fun b => ∀ (H : Heap) (locs : List Loc) (ls : Array Slot), zIn D ad cy (WX ad cy u) A s H locs → lv_has ls 6 [] → W p l e ({ frames := 2, cells := 0, slots := 0, locals := 46 } : Room) s m args below meth c H locs 0 0 Q (F0 m 73 ls []))) b) : (fun (a : Int32) => ∀ (H : Heap) (locs : List Loc) (ls : Array Slot), zIn D ad cy (WX ad cy u) A s H locs → lv_has ls 6 [(0, .ref (ad 27)), (1, .int p1), (2, .int p2), (3, .int a)] → W p l e ({ frames := 2, cells := 0, slots := 0, locals := 46 } : Room) s m args below meth c H locs 0 0 Q (F0 m 2 ls [])) a := by
  obtain ⟨hx, hb, hml, hown, hts, hr, hlk⟩ := id C0
  refine zloop (Wh := (fun (a : Int32) => ∀ (H : Heap) (locs : List Loc) (ls : Array Slot), zIn D ad cy (WX ad cy u) A s H locs → lv_has ls 6 [(0, .ref (ad 27)), (1, .int p1), (2, .int p2), (3, .int a)] → W p l e ({ frames := 2, cells := 0, slots := 0, locals := 46 } : Room) s m args below meth c H locs 0 0 Q (F0 m 2 ls []))) (Wx := (fun (b : (Unit) ⊕ (Unit)) => zel b (fun b => ∀ (H : Heap) (locs : List Loc) (ls : Array Slot), zIn D ad cy (WX ad cy u) A s H locs → lv_has ls 6 [] → W p l e ({ frames := 2, cells := 0, slots := 0, locals := 46 } : Room) s m args below meth c H locs 0 0 Q (F0 m 65 ls [])) (fun b => ∀ (H : Heap) (locs : List Loc) (ls : Array Slot), zIn D ad cy (WX ad cy u) A s H locs → lv_has ls 6 [] → W p l e ({ frames := 2, cells := 0, slots := 0, locals := 46 } : Room) s m args below meth c H locs 0 0 Q (F0 m 73 ls [])))) ?_ _ a b hit hx9
  intro a x hf hL hX H locs ls hI hl
  unfold bX2_homesAreNear_2 at hf
  refine lv_iload_n (pc := 2) hx hb dX2_homesAreNear_2 rfl (lv_at hl 3 rfl) ?_
  refine lv_iconst (pc := 3) (v := 3) hx hb dX2_homesAreNear_3 (by decide) ?_
  refine z_icmp_gt (pc := 4) (tgt := 73) hx hb dX2_homesAreNear_4 (by decide) hf (fun hf => ?_) (fun hf => ?_)
  · exact (z_elP2 (hX _ (Option.some.inj hf).symm)) _ _ _ hI (lv_sub hl [] rfl)
  refine lv_aload_n (pc := 7) hx hb dX2_homesAreNear_7 rfl (lv_at hl 0 rfl) ?_
  refine z_get (pc := 8) (index := 40) hx hb hts iwX2_homesAreNear_2 hown hI (xl_27 ad cy u) rfl 1 (by decide) (by decide +kernel) rfl rfl dX2_homesAreNear_8 ?_
  obtain ⟨q2, hc1, hf⟩ := zbind hf
  refine zcallVi (pc := 11) (As := []) (rest := []) ⟨hx, hb, hml, hown, hts⟩ (kX3_sorties l D ad cy u q2 hc1) (cwV 0 hts gX2_homesAreNear_X3_sorties rfl rfl rfl (by decide +kernel) ⟨Nat.le_of_ble_eq_true rfl, Nat.le_of_ble_eq_true rfl⟩) hI rfl (xl_12 ad cy u) rfl hl.1 rfl (Nat.le_of_ble_eq_true rfl) dX2_homesAreNear_11 (Nat.zero_le _) (Nat.zero_le _) (fun H locs hI => ?_)
  refine lv_i2l (pc := 14) hx hb dX2_homesAreNear_14 rfl ?_
  refine lv_aload_n (pc := 15) hx hb dX2_homesAreNear_15 rfl (lv_at hl 0 rfl) ?_
  refine z_get (pc := 16) (index := 36) hx hb hts iwX2_homesAreNear_2 hown hI (xl_27 ad cy u) rfl 0 (by decide) (by decide +kernel) rfl rfl dX2_homesAreNear_16 ?_
  refine lv_iload_n (pc := 19) hx hb dX2_homesAreNear_19 rfl (lv_at hl 3 rfl) ?_
  refine lv_iload_n (pc := 20) hx hb dX2_homesAreNear_20 rfl (lv_at hl 1 rfl) ?_
  refine lv_i2l (pc := 21) hx hb dX2_homesAreNear_21 rfl ?_
  obtain ⟨q4, hc3, hf⟩ := zbind hf
  refine zcallVl (pc := 22) (As := [.int a, .long (p1.toInt64)]) (rest := [.long (q2.toInt64)]) ⟨hx, hb, hml, hown, hts⟩ (kX8_homesTop l D ad cy k a (p1.toInt64) u q4 hc3) (cwV 2 hts gX2_homesAreNear_X8_homesTop rfl rfl rfl (by decide +kernel) ⟨Nat.le_of_ble_eq_true rfl, Nat.le_of_ble_eq_true rfl⟩) hI rfl (xl_1 ad cy u) rfl hl.1 rfl (Nat.le_of_ble_eq_true rfl) dX2_homesAreNear_22 (Nat.zero_le _) (Nat.zero_le _) (fun H locs hI => ?_)
  refine lv_lmul (pc := 25) hx hb dX2_homesAreNear_25 ?_
  refine z_bl hf (fun v5 hf => ?_)
  refine lv_lstore (pc := 26) (lv' := [(4, .long v5), (0, .ref (ad 27)), (1, .int p1), (2, .int p2), (3, .int a)]) hx hb dX2_homesAreNear_26 hl (by decide) rfl (fun ls hl => ?_)
  refine lv_lload (pc := 28) hx hb dX2_homesAreNear_28 (lv_at hl 0 rfl) ?_
  refine lv_aload_n (pc := 30) hx hb dX2_homesAreNear_30 rfl (lv_at hl 1 rfl) ?_
  refine z_get (pc := 31) (index := 40) hx hb hts iwX2_homesAreNear_2 hown hI (xl_27 ad cy u) rfl 1 (by decide) (by decide +kernel) rfl rfl dX2_homesAreNear_31 ?_
  refine lv_iload_n (pc := 34) hx hb dX2_homesAreNear_34 rfl (lv_at hl 4 rfl) ?_
  obtain ⟨q7, hc6, hf⟩ := zbind hf
  refine zcallVi (pc := 35) (As := [.int a]) (rest := [.long v5]) ⟨hx, hb, hml, hown, hts⟩ (kX3_withHoles l D ad cy a u q7 hc6) (cwV 1 hts gX2_homesAreNear_X3_withHoles rfl rfl rfl (by decide +kernel) ⟨Nat.le_of_ble_eq_true rfl, Nat.le_of_ble_eq_true rfl⟩) hI rfl (xl_12 ad cy u) rfl hl.1 rfl (Nat.le_of_ble_eq_true rfl) dX2_homesAreNear_35 (Nat.zero_le _) (Nat.zero_le _) (fun H locs hI => ?_)
  refine lv_i2l (pc := 38) hx hb dX2_homesAreNear_38 rfl ?_
  refine lv_aload_n (pc := 39) hx hb dX2_homesAreNear_39 rfl (lv_at hl 1 rfl) ?_
  refine z_get (pc := 40) (index := 36) hx hb hts iwX2_homesAreNear_2 hown hI (xl_27 ad cy u) rfl 0 (by decide) (by decide +kernel) rfl rfl dX2_homesAreNear_40 ?_
  refine z_get (pc := 43) (index := 135) hx hb hts iwX2_homesAreNear_8 hown hI (xl_1 ad cy u) rfl 5 (by decide) (by decide +kernel) rfl rfl dX2_homesAreNear_43 ?_
  refine lv_lmul (pc := 46) hx hb dX2_homesAreNear_46 ?_
  refine lv_lsub (pc := 47) hx hb dX2_homesAreNear_47 ?_
  refine z_mabsl (pc := 48) hx hb (hml.trans hl.1.symm) hown (hts (.methodLink RX2 139 Lib.MathLoose.abs_long.x) (by decide +kernel)) (hts (.static Lib.MathLoose.abs_long.x) (by decide +kernel)) (hts (.initialized "java/lang/Math") (by decide +kernel)) (hts (.code Lib.MathLoose.abs_long.x Lib.MathLoose.abs_long.code 2 (some .long)) (by decide +kernel)) (Nat.le_of_ble_eq_true rfl) (Nat.le_of_ble_eq_true rfl) (Nat.zero_le _) (Nat.zero_le _) dX2_homesAreNear_48 ?_
  refine lv_iload_n (pc := 51) hx hb dX2_homesAreNear_51 rfl (lv_at hl 3 rfl) ?_
  refine lv_i2l (pc := 52) hx hb dX2_homesAreNear_52 rfl ?_
  refine lv_aload_n (pc := 53) hx hb dX2_homesAreNear_53 rfl (lv_at hl 1 rfl) ?_
  refine z_get (pc := 54) (index := 36) hx hb hts iwX2_homesAreNear_2 hown hI (xl_27 ad cy u) rfl 0 (by decide) (by decide +kernel) rfl rfl dX2_homesAreNear_54 ?_
  refine z_get (pc := 57) (index := 135) hx hb hts iwX2_homesAreNear_8 hown hI (xl_1 ad cy u) rfl 5 (by decide) (by decide +kernel) rfl rfl dX2_homesAreNear_57 ?_
  refine lv_lmul (pc := 60) hx hb dX2_homesAreNear_60 ?_
  refine z_lc_le (pc := 61) (tgt := 67) hx hb dX2_homesAreNear_61 dX2_homesAreNear_62 (by decide) hf (fun hf => ?_) (fun hf => ?_)
  · refine lv_iinc (pc := 67) (v := (a + 1)) (lv' := [(3, .int (a + 1)), (4, .long v5), (0, .ref (ad 27)), (1, .int p1), (2, .int p2)]) hx hb dX2_homesAreNear_67 hl (k := 4) rfl rfl (by decide) rfl (fun ls hl => ?_)
    refine lv_goto (pc := 70) (tgt := 2) hx hb dX2_homesAreNear_70 (by decide) ?_
    exact hL _ (Option.some.inj hf).symm _ _ _ hI (lv_sub hl [2, 3, 4, 0] rfl)
  exact (z_elP1 (hX _ (Option.some.inj hf).symm)) _ _ _ hI (lv_sub hl [] rfl)
set_option maxHeartbeats 4000000 in
set_option maxRecDepth 100000 in
theorem kX2_homesAreNear (l : Launch) (D : va_G) (ad : Nat → Nat) (cy : Nat → ClassId) (k : Nat) (a1 : Int32) (a2 : Int32) (u : CX) (r : Int32) (hf : fX2_homesAreNear k a1 a2 u = some r) : zCt l yX2_homesAreNear wsX2_homesAreNear ({ frames := 2, cells := 0, slots := 0, locals := 46 } : Room) D ad cy [.ref (ad 27), .int a1, .int a2] (WX ad cy u) (some (.int r)) (WX ad cy u) := by
  refine zCt.of (cc := cX2_homesAreNear) (maxL := 6) (ret := (some .boolean)) (own := RX2) (by decide) rfl rfl ?_
  intro p e s m below meth c A C0 hI
  obtain ⟨hx, hb, hml, hown, hts, hr, hlk⟩ := id C0
  refine z_entry (Nat.le_of_ble_eq_true rfl) (fun ls hl => ?_)
  have hl : lv_has ls 6 [(0, .ref (ad 27)), (1, .int a1), (2, .int a2)] := hl
  unfold fX2_homesAreNear at hf
  refine lv_iconst (pc := 0) (v := 0) hx hb dX2_homesAreNear_0 (by decide) ?_
  refine lv_istore_n (pc := 1) (lv' := [(3, .int (0 : Int32)), (0, .ref (ad 27)), (1, .int a1), (2, .int a2)]) hx hb dX2_homesAreNear_1 rfl hl (by decide) rfl (fun ls hl => ?_)
  obtain ⟨b8, hb9, hf⟩ := zbind hf
  rcases b8 with b8 | b8
  · have hf := z_el1 hf
    refine lX2_homesAreNear_2 C0 hb9 ?_ _ _ _ hI (lv_sub hl [1, 2, 3, 0] rfl)
    intro H locs ls hI hl
    refine lv_iconst (pc := 65) (v := 0) hx hb dX2_homesAreNear_65 (by decide) ?_
    cases hf
    exact z_zret (pc := 66) C0 hI (Or.inl rfl) dX2_homesAreNear_66
  have hf := z_el2 hf
  refine lX2_homesAreNear_2 C0 hb9 ?_ _ _ _ hI (lv_sub hl [1, 2, 3, 0] rfl)
  intro H locs ls hI hl
  refine lv_iconst (pc := 73) (v := 1) hx hb dX2_homesAreNear_73 (by decide) ?_
  cases hf
  exact z_zret (pc := 74) C0 hI (Or.inr rfl) dX2_homesAreNear_74
set_option maxHeartbeats 4000000 in
set_option maxRecDepth 100000 in
theorem kX2_holesAreNear (l : Launch) (D : va_G) (ad : Nat → Nat) (cy : Nat → ClassId) (a1 : Int32) (a2 : Int32) (a3 : Int64) (a4 : Int32) (u : CX) (r : Int32) (hf : fX2_holesAreNear a1 a2 a3 a4 u = some r) : zCt l yX2_holesAreNear wsX2_holesAreNear ({ frames := 1, cells := 0, slots := 0, locals := 22 } : Room) D ad cy [.ref (ad 27), .int a1, .int a2, .long a3, .int a4] (WX ad cy u) (some (.int r)) (WX ad cy u) := by
  refine zCt.of (cc := cX2_holesAreNear) (maxL := 8) (ret := (some .boolean)) (own := RX2) (by decide) rfl rfl ?_
  intro p e s m below meth c A C0 hI
  obtain ⟨hx, hb, hml, hown, hts, hr, hlk⟩ := id C0
  refine z_entry (Nat.le_of_ble_eq_true rfl) (fun ls hl => ?_)
  have hl : lv_has ls 8 [(0, .ref (ad 27)), (1, .int a1), (2, .int a2), (3, .long a3), (5, .int a4)] := hl
  unfold fX2_holesAreNear at hf
  refine lv_aload_n (pc := 0) hx hb dX2_holesAreNear_0 rfl (lv_at hl 0 rfl) ?_
  refine z_get (pc := 1) (index := 40) hx hb hts iwX2_holesAreNear_2 hown hI (xl_27 ad cy u) rfl 1 (by decide) (by decide +kernel) rfl rfl dX2_holesAreNear_1 ?_
  obtain ⟨q2, hc1, hf⟩ := zbind hf
  refine zcallVi (pc := 4) (As := []) (rest := []) ⟨hx, hb, hml, hown, hts⟩ (kX3_sorties l D ad cy u q2 hc1) (cwV 0 hts gX2_holesAreNear_X3_sorties rfl rfl rfl (by decide +kernel) ⟨Nat.le_of_ble_eq_true rfl, Nat.le_of_ble_eq_true rfl⟩) hI rfl (xl_12 ad cy u) rfl hl.1 rfl (Nat.le_of_ble_eq_true rfl) dX2_holesAreNear_4 (Nat.zero_le _) (Nat.zero_le _) (fun H locs hI => ?_)
  refine lv_i2l (pc := 7) hx hb dX2_holesAreNear_7 rfl ?_
  refine lv_aload_n (pc := 8) hx hb dX2_holesAreNear_8 rfl (lv_at hl 0 rfl) ?_
  refine z_get (pc := 9) (index := 36) hx hb hts iwX2_holesAreNear_2 hown hI (xl_27 ad cy u) rfl 0 (by decide) (by decide +kernel) rfl rfl dX2_holesAreNear_9 ?_
  refine lv_iload_n (pc := 12) hx hb dX2_holesAreNear_12 rfl (lv_at hl 1 rfl) ?_
  refine lv_iload_n (pc := 13) hx hb dX2_holesAreNear_13 rfl (lv_at hl 2 rfl) ?_
  obtain ⟨q4, hc3, hf⟩ := zbind hf
  refine zcallVi (pc := 14) (As := [.int a1, .int a2]) (rest := [.long (q2.toInt64)]) ⟨hx, hb, hml, hown, hts⟩ (kX8_partStand l D ad cy a1 a2 u q4 hc3) (cwV 2 hts gX2_holesAreNear_X8_partStand rfl rfl rfl (by decide +kernel) ⟨Nat.le_of_ble_eq_true rfl, Nat.le_of_ble_eq_true rfl⟩) hI rfl (xl_1 ad cy u) rfl hl.1 rfl (Nat.le_of_ble_eq_true rfl) dX2_holesAreNear_14 (Nat.zero_le _) (Nat.zero_le _) (fun H locs hI => ?_)
  refine lv_i2l (pc := 17) hx hb dX2_holesAreNear_17 rfl ?_
  refine lv_lload_n (pc := 18) hx hb dX2_holesAreNear_18 rfl (lv_at hl 3 rfl) ?_
  refine lv_lmul (pc := 19) hx hb dX2_holesAreNear_19 ?_
  refine lv_lmul (pc := 20) hx hb dX2_holesAreNear_20 ?_
  refine z_bl hf (fun v5 hf => ?_)
  refine lv_lstore (pc := 21) (lv' := [(6, .long v5), (0, .ref (ad 27)), (1, .int a1), (2, .int a2), (3, .long a3), (5, .int a4)]) hx hb dX2_holesAreNear_21 hl (by decide) rfl (fun ls hl => ?_)
  refine lv_lload (pc := 23) hx hb dX2_holesAreNear_23 (lv_at hl 0 rfl) ?_
  refine lv_aload_n (pc := 25) hx hb dX2_holesAreNear_25 rfl (lv_at hl 1 rfl) ?_
  refine z_get (pc := 26) (index := 40) hx hb hts iwX2_holesAreNear_2 hown hI (xl_27 ad cy u) rfl 1 (by decide) (by decide +kernel) rfl rfl dX2_holesAreNear_26 ?_
  refine lv_iload_n (pc := 29) hx hb dX2_holesAreNear_29 rfl (lv_at hl 2 rfl) ?_
  obtain ⟨q7, hc6, hf⟩ := zbind hf
  refine zcallVi (pc := 30) (As := [.int a1]) (rest := [.long v5]) ⟨hx, hb, hml, hown, hts⟩ (kX3_inPart l D ad cy a1 u q7 hc6) (cwV 1 hts gX2_holesAreNear_X3_inPart rfl rfl rfl (by decide +kernel) ⟨Nat.le_of_ble_eq_true rfl, Nat.le_of_ble_eq_true rfl⟩) hI rfl (xl_12 ad cy u) rfl hl.1 rfl (Nat.le_of_ble_eq_true rfl) dX2_holesAreNear_30 (Nat.zero_le _) (Nat.zero_le _) (fun H locs hI => ?_)
  refine lv_i2l (pc := 33) hx hb dX2_holesAreNear_33 rfl ?_
  refine lv_aload_n (pc := 34) hx hb dX2_holesAreNear_34 rfl (lv_at hl 1 rfl) ?_
  refine z_get (pc := 35) (index := 36) hx hb hts iwX2_holesAreNear_2 hown hI (xl_27 ad cy u) rfl 0 (by decide) (by decide +kernel) rfl rfl dX2_holesAreNear_35 ?_
  refine z_get (pc := 38) (index := 135) hx hb hts iwX2_holesAreNear_8 hown hI (xl_1 ad cy u) rfl 5 (by decide) (by decide +kernel) rfl rfl dX2_holesAreNear_38 ?_
  refine lv_lmul (pc := 41) hx hb dX2_holesAreNear_41 ?_
  refine lv_lsub (pc := 42) hx hb dX2_holesAreNear_42 ?_
  refine z_mabsl (pc := 43) hx hb (hml.trans hl.1.symm) hown (hts (.methodLink RX2 139 Lib.MathLoose.abs_long.x) (by decide +kernel)) (hts (.static Lib.MathLoose.abs_long.x) (by decide +kernel)) (hts (.initialized "java/lang/Math") (by decide +kernel)) (hts (.code Lib.MathLoose.abs_long.x Lib.MathLoose.abs_long.code 2 (some .long)) (by decide +kernel)) (Nat.le_of_ble_eq_true rfl) (Nat.le_of_ble_eq_true rfl) (Nat.zero_le _) (Nat.zero_le _) dX2_holesAreNear_43 ?_
  refine lv_iload (pc := 46) hx hb dX2_holesAreNear_46 (lv_at hl 5 rfl) ?_
  refine lv_i2l (pc := 48) hx hb dX2_holesAreNear_48 rfl ?_
  refine lv_aload_n (pc := 49) hx hb dX2_holesAreNear_49 rfl (lv_at hl 1 rfl) ?_
  refine z_get (pc := 50) (index := 36) hx hb hts iwX2_holesAreNear_2 hown hI (xl_27 ad cy u) rfl 0 (by decide) (by decide +kernel) rfl rfl dX2_holesAreNear_50 ?_
  refine z_get (pc := 53) (index := 135) hx hb hts iwX2_holesAreNear_8 hown hI (xl_1 ad cy u) rfl 5 (by decide) (by decide +kernel) rfl rfl dX2_holesAreNear_53 ?_
  refine lv_lmul (pc := 56) hx hb dX2_holesAreNear_56 ?_
  refine z_lc_gt (pc := 57) (tgt := 65) hx hb dX2_holesAreNear_57 dX2_holesAreNear_58 (by decide) hf (fun hf => ?_) (fun hf => ?_)
  · refine lv_iconst (pc := 65) (v := 0) hx hb dX2_holesAreNear_65 (by decide) ?_
    cases hf
    exact z_zret (pc := 66) C0 hI (Or.inl rfl) dX2_holesAreNear_66
  refine lv_iconst (pc := 61) (v := 1) hx hb dX2_holesAreNear_61 (by decide) ?_
  refine lv_goto (pc := 62) (tgt := 66) hx hb dX2_holesAreNear_62 (by decide) ?_
  cases hf
  exact z_zret (pc := 66) C0 hI (Or.inr rfl) dX2_holesAreNear_66
set_option maxHeartbeats 4000000 in
set_option maxRecDepth 100000 in
theorem lX2_lawFits_2 (C0 : zFix p m c cX2_lawFits 7 s args wsX2_lawFits RX2 meth (some .boolean)) {k : Nat} {p1 : Int32} {p2 : Int32} {u : CX} {a : Int32} {b : (Unit) ⊕ (Unit)} (hit : ziter (bX2_lawFits_2 k p1 p2 u) k a = some b) (hx9 : (fun (b : (Unit) ⊕ (Unit)) => zel b (fun b => ∀ (H : Heap) (locs : List Loc) (ls : Array Slot), zIn D ad cy (WX ad cy u) A s H locs → lv_has ls 7 [] → W p l e ({ frames := 3, cells := 0, slots := 0, locals := 71 } : Room) s m args below meth c H locs 0 0 Q (F0 m 23 ls [])) (fun b => ∀ (H : Heap) (locs : List Loc) (ls : Array Slot), zIn D ad cy (WX ad cy u) A s H locs → lv_has ls 7 [(0, .ref (ad 27)), (1, .int p1), (2, .int p2)] → W p l e ({ frames := 3, cells := 0, slots := 0, locals := 71 } : Room) s m args below meth c H locs 0 0 Q (F0 m 31 ls []))) b) : (fun (a : Int32) => ∀ (H : Heap) (locs : List Loc) (ls : Array Slot), zIn D ad cy (WX ad cy u) A s H locs → lv_has ls 7 [(0, .ref (ad 27)), (1, .int p1), (2, .int p2), (3, .int a)] → W p l e ({ frames := 3, cells := 0, slots := 0, locals := 71 } : Room) s m args below meth c H locs 0 0 Q (F0 m 2 ls [])) a := by
  obtain ⟨hx, hb, hml, hown, hts, hr, hlk⟩ := id C0
  refine zloop (Wh := (fun (a : Int32) => ∀ (H : Heap) (locs : List Loc) (ls : Array Slot), zIn D ad cy (WX ad cy u) A s H locs → lv_has ls 7 [(0, .ref (ad 27)), (1, .int p1), (2, .int p2), (3, .int a)] → W p l e ({ frames := 3, cells := 0, slots := 0, locals := 71 } : Room) s m args below meth c H locs 0 0 Q (F0 m 2 ls []))) (Wx := (fun (b : (Unit) ⊕ (Unit)) => zel b (fun b => ∀ (H : Heap) (locs : List Loc) (ls : Array Slot), zIn D ad cy (WX ad cy u) A s H locs → lv_has ls 7 [] → W p l e ({ frames := 3, cells := 0, slots := 0, locals := 71 } : Room) s m args below meth c H locs 0 0 Q (F0 m 23 ls [])) (fun b => ∀ (H : Heap) (locs : List Loc) (ls : Array Slot), zIn D ad cy (WX ad cy u) A s H locs → lv_has ls 7 [(0, .ref (ad 27)), (1, .int p1), (2, .int p2)] → W p l e ({ frames := 3, cells := 0, slots := 0, locals := 71 } : Room) s m args below meth c H locs 0 0 Q (F0 m 31 ls [])))) ?_ _ a b hit hx9
  intro a x hf hL hX H locs ls hI hl
  unfold bX2_lawFits_2 at hf
  refine lv_iload_n (pc := 2) hx hb dX2_lawFits_2 rfl (lv_at hl 3 rfl) ?_
  refine lv_iconst (pc := 3) (v := 4) hx hb dX2_lawFits_3 (by decide) ?_
  refine z_icmp_ge (pc := 4) (tgt := 31) hx hb dX2_lawFits_4 (by decide) hf (fun hf => ?_) (fun hf => ?_)
  · exact (z_elP2 (hX _ (Option.some.inj hf).symm)) _ _ _ hI (lv_sub hl [0, 1, 2] rfl)
  refine lv_aload_n (pc := 7) hx hb dX2_lawFits_7 rfl (lv_at hl 0 rfl) ?_
  refine z_get (pc := 8) (index := 44) hx hb hts iwX2_lawFits_2 hown hI (xl_27 ad cy u) rfl 2 (by decide) (by decide +kernel) rfl rfl dX2_lawFits_8 ?_
  refine lv_iload_n (pc := 11) hx hb dX2_lawFits_11 rfl (lv_at hl 3 rfl) ?_
  refine lv_iload_n (pc := 12) hx hb dX2_lawFits_12 rfl (lv_at hl 1 rfl) ?_
  refine lv_iload_n (pc := 13) hx hb dX2_lawFits_13 rfl (lv_at hl 3 rfl) ?_
  obtain ⟨q2, hc1, hf⟩ := zbind hf
  refine zcallSNi (pc := 14) (As := [.int p1, .int a]) (rest := [.int a, .ref (ad 23)]) ⟨hx, hb, hml, hown, hts⟩ (kX9_figure l p1 a q2 hc1) ⟨va_cnB 2 hts gX2_lawFits_X9_figure_n48 rfl rfl rfl (hI.2.2.2.2.2.1 _ (List.mem_of_getElem? (i := 5) rfl)) (hts (.initialized RX9) (by decide +kernel)) (by decide +kernel) ⟨Nat.le_of_ble_eq_true rfl, Nat.le_of_ble_eq_true rfl⟩, hts (.static yX9_figure) (by decide +kernel), trivial⟩ rfl hl.1 rfl (Nat.le_of_ble_eq_true rfl) dX2_lawFits_14 (Nat.zero_le _) (Nat.zero_le _) ?_
  obtain ⟨q4, hc3, hf⟩ := zbind hf
  refine zcallVi (pc := 17) (As := [.int a, .int q2]) (rest := []) ⟨hx, hb, hml, hown, hts⟩ (kX0_allows l D ad cy a q2 u q4 hc3) (cwV 2 hts gX2_lawFits_X0_allows rfl rfl rfl (by decide +kernel) ⟨Nat.le_of_ble_eq_true rfl, Nat.le_of_ble_eq_true rfl⟩) hI rfl (xl_23 ad cy u) rfl hl.1 rfl (Nat.le_of_ble_eq_true rfl) dX2_lawFits_17 (Nat.zero_le _) (Nat.zero_le _) (fun H locs hI => ?_)
  refine z_if_ne (pc := 20) (tgt := 25) hx hb dX2_lawFits_20 (by decide) hf (fun hf => ?_) (fun hf => ?_)
  · refine lv_iinc (pc := 25) (v := (a + 1)) (lv' := [(3, .int (a + 1)), (0, .ref (ad 27)), (1, .int p1), (2, .int p2)]) hx hb dX2_lawFits_25 hl (k := 3) rfl rfl (by decide) rfl (fun ls hl => ?_)
    refine lv_goto (pc := 28) (tgt := 2) hx hb dX2_lawFits_28 (by decide) ?_
    exact hL _ (Option.some.inj hf).symm _ _ _ hI (lv_sub hl [1, 2, 3, 0] rfl)
  exact (z_elP1 (hX _ (Option.some.inj hf).symm)) _ _ _ hI (lv_sub hl [] rfl)
set_option maxHeartbeats 4000000 in
set_option maxRecDepth 100000 in
theorem lX2_lawFits_65 (C0 : zFix p m c cX2_lawFits 7 s args wsX2_lawFits RX2 meth (some .boolean)) {k : Nat} {p1 : Int32} {p2 : Int32} {p4 : Int64} {u : CX} {a : Int32} {b : (Unit) ⊕ (Unit)} (hit : ziter (bX2_lawFits_65 k p1 p2 p4 u) k a = some b) (hx9 : (fun (b : (Unit) ⊕ (Unit)) => zel b (fun b => ∀ (H : Heap) (locs : List Loc) (ls : Array Slot), zIn D ad cy (WX ad cy u) A s H locs → lv_has ls 7 [] → W p l e ({ frames := 3, cells := 0, slots := 0, locals := 71 } : Room) s m args below meth c H locs 0 0 Q (F0 m 89 ls [])) (fun b => ∀ (H : Heap) (locs : List Loc) (ls : Array Slot), zIn D ad cy (WX ad cy u) A s H locs → lv_has ls 7 [] → W p l e ({ frames := 3, cells := 0, slots := 0, locals := 71 } : Room) s m args below meth c H locs 0 0 Q (F0 m 97 ls []))) b) : (fun (a : Int32) => ∀ (H : Heap) (locs : List Loc) (ls : Array Slot), zIn D ad cy (WX ad cy u) A s H locs → lv_has ls 7 [(0, .ref (ad 27)), (1, .int p1), (2, .int p2), (4, .long p4), (6, .int a)] → W p l e ({ frames := 3, cells := 0, slots := 0, locals := 71 } : Room) s m args below meth c H locs 0 0 Q (F0 m 65 ls [])) a := by
  obtain ⟨hx, hb, hml, hown, hts, hr, hlk⟩ := id C0
  refine zloop (Wh := (fun (a : Int32) => ∀ (H : Heap) (locs : List Loc) (ls : Array Slot), zIn D ad cy (WX ad cy u) A s H locs → lv_has ls 7 [(0, .ref (ad 27)), (1, .int p1), (2, .int p2), (4, .long p4), (6, .int a)] → W p l e ({ frames := 3, cells := 0, slots := 0, locals := 71 } : Room) s m args below meth c H locs 0 0 Q (F0 m 65 ls []))) (Wx := (fun (b : (Unit) ⊕ (Unit)) => zel b (fun b => ∀ (H : Heap) (locs : List Loc) (ls : Array Slot), zIn D ad cy (WX ad cy u) A s H locs → lv_has ls 7 [] → W p l e ({ frames := 3, cells := 0, slots := 0, locals := 71 } : Room) s m args below meth c H locs 0 0 Q (F0 m 89 ls [])) (fun b => ∀ (H : Heap) (locs : List Loc) (ls : Array Slot), zIn D ad cy (WX ad cy u) A s H locs → lv_has ls 7 [] → W p l e ({ frames := 3, cells := 0, slots := 0, locals := 71 } : Room) s m args below meth c H locs 0 0 Q (F0 m 97 ls [])))) ?_ _ a b hit hx9
  intro a x hf hL hX H locs ls hI hl
  unfold bX2_lawFits_65 at hf
  refine lv_iload (pc := 65) hx hb dX2_lawFits_65 (lv_at hl 4 rfl) ?_
  refine lv_iconst (pc := 67) (v := 4) hx hb dX2_lawFits_67 (by decide) ?_
  refine z_icmp_ge (pc := 68) (tgt := 97) hx hb dX2_lawFits_68 (by decide) hf (fun hf => ?_) (fun hf => ?_)
  · exact (z_elP2 (hX _ (Option.some.inj hf).symm)) _ _ _ hI (lv_sub hl [] rfl)
  refine lv_aload_n (pc := 71) hx hb dX2_lawFits_71 rfl (lv_at hl 0 rfl) ?_
  refine lv_iload (pc := 72) hx hb dX2_lawFits_72 (lv_at hl 4 rfl) ?_
  refine lv_iload_n (pc := 74) hx hb dX2_lawFits_74 rfl (lv_at hl 1 rfl) ?_
  refine lv_iload (pc := 75) hx hb dX2_lawFits_75 (lv_at hl 4 rfl) ?_
  obtain ⟨q14, hc13, hf⟩ := zbind hf
  refine zcallSNi (pc := 77) (As := [.int p1, .int a]) (rest := [.int a, .ref (ad 27)]) ⟨hx, hb, hml, hown, hts⟩ (kX9_figure l p1 a q14 hc13) ⟨va_cnB 2 hts gX2_lawFits_X9_figure_n48 rfl rfl rfl (hI.2.2.2.2.2.1 _ (List.mem_of_getElem? (i := 5) rfl)) (hts (.initialized RX9) (by decide +kernel)) (by decide +kernel) ⟨Nat.le_of_ble_eq_true rfl, Nat.le_of_ble_eq_true rfl⟩, hts (.static yX9_figure) (by decide +kernel), trivial⟩ rfl hl.1 rfl (Nat.le_of_ble_eq_true rfl) dX2_lawFits_77 (Nat.zero_le _) (Nat.zero_le _) ?_
  refine lv_lload (pc := 80) hx hb dX2_lawFits_80 (lv_at hl 3 rfl) ?_
  refine lv_iload_n (pc := 82) hx hb dX2_lawFits_82 rfl (lv_at hl 2 rfl) ?_
  obtain ⟨q16, hc15, hf⟩ := zbind hf
  refine zcallVi (pc := 83) (As := [.int a, .int q14, .long p4, .int p2]) (rest := []) ⟨hx, hb, hml, hown, hts⟩ (kX2_holesAreNear l D ad cy a q14 p4 p2 u q16 hc15) (cwV 4 hts gX2_lawFits_X2_holesAreNear rfl rfl rfl (by decide +kernel) ⟨Nat.le_of_ble_eq_true rfl, Nat.le_of_ble_eq_true rfl⟩) hI rfl (xl_27 ad cy u) rfl hl.1 rfl (Nat.le_of_ble_eq_true rfl) dX2_lawFits_83 (Nat.zero_le _) (Nat.zero_le _) (fun H locs hI => ?_)
  refine z_if_ne (pc := 86) (tgt := 91) hx hb dX2_lawFits_86 (by decide) hf (fun hf => ?_) (fun hf => ?_)
  · refine lv_iinc (pc := 91) (v := (a + 1)) (lv' := [(6, .int (a + 1)), (0, .ref (ad 27)), (1, .int p1), (2, .int p2), (4, .long p4)]) hx hb dX2_lawFits_91 hl (k := 4) rfl rfl (by decide) rfl (fun ls hl => ?_)
    refine lv_goto (pc := 94) (tgt := 65) hx hb dX2_lawFits_94 (by decide) ?_
    exact hL _ (Option.some.inj hf).symm _ _ _ hI (lv_sub hl [1, 2, 3, 4, 0] rfl)
  exact (z_elP1 (hX _ (Option.some.inj hf).symm)) _ _ _ hI (lv_sub hl [] rfl)
set_option maxHeartbeats 4000000 in
set_option maxRecDepth 100000 in
theorem kX2_lawFits (l : Launch) (D : va_G) (ad : Nat → Nat) (cy : Nat → ClassId) (k : Nat) (a1 : Int32) (a2 : Int32) (u : CX) (r : Int32) (hf : fX2_lawFits k a1 a2 u = some r) : zCt l yX2_lawFits wsX2_lawFits ({ frames := 3, cells := 0, slots := 0, locals := 71 } : Room) D ad cy [.ref (ad 27), .int a1, .int a2] (WX ad cy u) (some (.int r)) (WX ad cy u) := by
  refine zCt.of (cc := cX2_lawFits) (maxL := 7) (ret := (some .boolean)) (own := RX2) (by decide) rfl rfl ?_
  intro p e s m below meth c A C0 hI
  obtain ⟨hx, hb, hml, hown, hts, hr, hlk⟩ := id C0
  refine z_entry (Nat.le_of_ble_eq_true rfl) (fun ls hl => ?_)
  have hl : lv_has ls 7 [(0, .ref (ad 27)), (1, .int a1), (2, .int a2)] := hl
  unfold fX2_lawFits at hf
  refine lv_iconst (pc := 0) (v := 0) hx hb dX2_lawFits_0 (by decide) ?_
  refine lv_istore_n (pc := 1) (lv' := [(3, .int (0 : Int32)), (0, .ref (ad 27)), (1, .int a1), (2, .int a2)]) hx hb dX2_lawFits_1 rfl hl (by decide) rfl (fun ls hl => ?_)
  obtain ⟨b5, hb6, hf⟩ := zbind hf
  rcases b5 with b5 | b5
  · have hf := z_el1 hf
    refine lX2_lawFits_2 C0 hb6 ?_ _ _ _ hI (lv_sub hl [1, 2, 3, 0] rfl)
    intro H locs ls hI hl
    refine lv_iconst (pc := 23) (v := 0) hx hb dX2_lawFits_23 (by decide) ?_
    cases hf
    exact z_zret (pc := 24) C0 hI (Or.inl rfl) dX2_lawFits_24
  have hf := z_el2 hf
  refine lX2_lawFits_2 C0 hb6 ?_ _ _ _ hI (lv_sub hl [1, 2, 3, 0] rfl)
  intro H locs ls hI hl
  refine lv_aload_n (pc := 31) hx hb dX2_lawFits_31 rfl (lv_at hl 0 rfl) ?_
  refine z_get (pc := 32) (index := 36) hx hb hts iwX2_lawFits_2 hown hI (xl_27 ad cy u) rfl 0 (by decide) (by decide +kernel) rfl rfl dX2_lawFits_32 ?_
  refine lv_iload_n (pc := 35) hx hb dX2_lawFits_35 rfl (lv_at hl 1 rfl) ?_
  obtain ⟨q8, hc7, hf⟩ := zbind hf
  refine zcallVi (pc := 36) (As := [.int a1]) (rest := []) ⟨hx, hb, hml, hown, hts⟩ (kX8_stand l D ad cy k a1 u q8 hc7) (cwV 1 hts gX2_lawFits_X8_stand rfl rfl rfl (by decide +kernel) ⟨Nat.le_of_ble_eq_true rfl, Nat.le_of_ble_eq_true rfl⟩) hI rfl (xl_1 ad cy u) rfl hl.1 rfl (Nat.le_of_ble_eq_true rfl) dX2_lawFits_36 (Nat.zero_le _) (Nat.zero_le _) (fun H locs hI => ?_)
  refine lv_istore_n (pc := 39) (lv' := [(3, .int q8), (0, .ref (ad 27)), (1, .int a1), (2, .int a2)]) hx hb dX2_lawFits_39 rfl hl (by decide) rfl (fun ls hl => ?_)
  refine lv_aload_n (pc := 40) hx hb dX2_lawFits_40 rfl (lv_at hl 1 rfl) ?_
  refine lv_iload_n (pc := 41) hx hb dX2_lawFits_41 rfl (lv_at hl 0 rfl) ?_
  refine lv_iload_n (pc := 42) hx hb dX2_lawFits_42 rfl (lv_at hl 3 rfl) ?_
  obtain ⟨q10, hc9, hf⟩ := zbind hf
  refine zcallVi (pc := 43) (As := [.int q8, .int a2]) (rest := []) ⟨hx, hb, hml, hown, hts⟩ (kX2_homesAreNear l D ad cy k q8 a2 u q10 hc9) (cwV 2 hts gX2_lawFits_X2_homesAreNear rfl rfl rfl (by decide +kernel) ⟨Nat.le_of_ble_eq_true rfl, Nat.le_of_ble_eq_true rfl⟩) hI rfl (xl_27 ad cy u) rfl hl.1 rfl (Nat.le_of_ble_eq_true rfl) dX2_lawFits_43 (Nat.zero_le _) (Nat.zero_le _) (fun H locs hI => ?_)
  refine z_if_ne (pc := 46) (tgt := 51) hx hb dX2_lawFits_46 (by decide) hf (fun hf => ?_) (fun hf => ?_)
  · refine lv_aload_n (pc := 51) hx hb dX2_lawFits_51 rfl (lv_at hl 1 rfl) ?_
    refine z_get (pc := 52) (index := 36) hx hb hts iwX2_lawFits_2 hown hI (xl_27 ad cy u) rfl 0 (by decide) (by decide +kernel) rfl rfl dX2_lawFits_52 ?_
    refine lv_iload_n (pc := 55) hx hb dX2_lawFits_55 rfl (lv_at hl 0 rfl) ?_
    refine lv_i2l (pc := 56) hx hb dX2_lawFits_56 rfl ?_
    obtain ⟨q12, hc11, hf⟩ := zbind hf
    refine zcallVl (pc := 57) (As := [.long (q8.toInt64)]) (rest := []) ⟨hx, hb, hml, hown, hts⟩ (kX8_holeRate l D ad cy (q8.toInt64) u q12 hc11) (cwV 1 hts gX2_lawFits_X8_holeRate rfl rfl rfl (by decide +kernel) ⟨Nat.le_of_ble_eq_true rfl, Nat.le_of_ble_eq_true rfl⟩) hI rfl (xl_1 ad cy u) rfl hl.1 rfl (Nat.le_of_ble_eq_true rfl) dX2_lawFits_57 (Nat.zero_le _) (Nat.zero_le _) (fun H locs hI => ?_)
    refine lv_lstore (pc := 60) (lv' := [(4, .long q12), (3, .int q8), (0, .ref (ad 27)), (1, .int a1), (2, .int a2)]) hx hb dX2_lawFits_60 hl (by decide) rfl (fun ls hl => ?_)
    refine lv_iconst (pc := 62) (v := 0) hx hb dX2_lawFits_62 (by decide) ?_
    refine lv_istore (pc := 63) (lv' := [(6, .int (0 : Int32)), (4, .long q12), (3, .int q8), (0, .ref (ad 27)), (1, .int a1), (2, .int a2)]) hx hb dX2_lawFits_63 hl (by decide) rfl (fun ls hl => ?_)
    obtain ⟨b17, hb18, hf⟩ := zbind hf
    rcases b17 with b17 | b17
    · have hf := z_el1 hf
      refine lX2_lawFits_65 C0 hb18 ?_ _ _ _ hI (lv_sub hl [3, 4, 5, 1, 0] rfl)
      intro H locs ls hI hl
      refine lv_iconst (pc := 89) (v := 0) hx hb dX2_lawFits_89 (by decide) ?_
      cases hf
      exact z_zret (pc := 90) C0 hI (Or.inl rfl) dX2_lawFits_90
    have hf := z_el2 hf
    refine lX2_lawFits_65 C0 hb18 ?_ _ _ _ hI (lv_sub hl [3, 4, 5, 1, 0] rfl)
    intro H locs ls hI hl
    refine lv_iconst (pc := 97) (v := 1) hx hb dX2_lawFits_97 (by decide) ?_
    cases hf
    exact z_zret (pc := 98) C0 hI (Or.inr rfl) dX2_lawFits_98
  refine lv_iconst (pc := 49) (v := 0) hx hb dX2_lawFits_49 (by decide) ?_
  cases hf
  exact z_zret (pc := 50) C0 hI (Or.inl rfl) dX2_lawFits_50
set_option maxHeartbeats 4000000 in
set_option maxRecDepth 100000 in
theorem lX2_settleStands_12 (C0 : zFix p m c cX2_settleStands 3 s args wsX2_settleStands RX2 meth none) {k : Nat} {p1 : Int32} {a : Int32 × CX} {b : CX} (hit : ziter (bX2_settleStands_12 k p1) k a = some b) (hx9 : (fun (b : CX) => ∀ (H : Heap) (locs : List Loc) (ls : Array Slot), zIn D ad cy (WX ad cy b) A s H locs → lv_has ls 3 [] → W p l e ({ frames := 3, cells := 0, slots := 0, locals := 71 } : Room) s m args below meth c H locs 0 0 Q (F0 m 68 ls [])) b) : (fun (a : Int32 × CX) => ∀ (H : Heap) (locs : List Loc) (ls : Array Slot), zIn D ad cy (WX ad cy a.2) A s H locs → lv_has ls 3 [(0, .ref (ad 27)), (1, .int p1), (2, .int a.1)] → W p l e ({ frames := 3, cells := 0, slots := 0, locals := 71 } : Room) s m args below meth c H locs 0 0 Q (F0 m 12 ls [])) a := by
  obtain ⟨hx, hb, hml, hown, hts, hr, hlk⟩ := id C0
  refine zloop (Wh := (fun (a : Int32 × CX) => ∀ (H : Heap) (locs : List Loc) (ls : Array Slot), zIn D ad cy (WX ad cy a.2) A s H locs → lv_has ls 3 [(0, .ref (ad 27)), (1, .int p1), (2, .int a.1)] → W p l e ({ frames := 3, cells := 0, slots := 0, locals := 71 } : Room) s m args below meth c H locs 0 0 Q (F0 m 12 ls []))) (Wx := (fun (b : CX) => ∀ (H : Heap) (locs : List Loc) (ls : Array Slot), zIn D ad cy (WX ad cy b) A s H locs → lv_has ls 3 [] → W p l e ({ frames := 3, cells := 0, slots := 0, locals := 71 } : Room) s m args below meth c H locs 0 0 Q (F0 m 68 ls []))) ?_ _ a b hit hx9
  intro a x hf hL hX H locs ls hI hl
  unfold bX2_settleStands_12 at hf
  refine lv_iload_n (pc := 12) hx hb dX2_settleStands_12 rfl (lv_at hl 2 rfl) ?_
  refine lv_sipush (pc := 13) (v := 800) hx hb dX2_settleStands_13 (by decide) ?_
  refine z_icmp_gt (pc := 16) (tgt := 68) hx hb dX2_settleStands_16 (by decide) hf (fun hf => ?_) (fun hf => ?_)
  · exact (hX _ (Option.some.inj hf).symm) _ _ _ hI (lv_sub hl [] rfl)
  refine lv_iload_n (pc := 19) hx hb dX2_settleStands_19 rfl (lv_at hl 2 rfl) ?_
  refine lv_i2l (pc := 20) hx hb dX2_settleStands_20 rfl ?_
  refine lv_aload_n (pc := 21) hx hb dX2_settleStands_21 rfl (lv_at hl 0 rfl) ?_
  refine z_get (pc := 22) (index := 36) hx hb hts iwX2_settleStands_2 hown hI (xl_27 ad cy a.2) rfl 0 (by decide) (by decide +kernel) rfl rfl dX2_settleStands_22 ?_
  refine z_get (pc := 25) (index := 151) hx hb hts iwX2_settleStands_8 hown hI (xl_1 ad cy a.2) rfl 4 (by decide) (by decide +kernel) rfl rfl dX2_settleStands_25 ?_
  refine z_lc_gt (pc := 28) (tgt := 68) hx hb dX2_settleStands_28 dX2_settleStands_29 (by decide) hf (fun hf => ?_) (fun hf => ?_)
  · exact (hX _ (Option.some.inj hf).symm) _ _ _ hI (lv_sub hl [] rfl)
  refine lv_aload_n (pc := 32) hx hb dX2_settleStands_32 rfl (lv_at hl 0 rfl) ?_
  refine z_get (pc := 33) (index := 15) hx hb hts iwX2_settleStands_2 hown hI (xl_27 ad cy a.2) rfl 4 (by decide) (by decide +kernel) rfl rfl dX2_settleStands_33 ?_
  refine lv_iload_n (pc := 36) hx hb dX2_settleStands_36 rfl (lv_at hl 2 rfl) ?_
  refine lv_aload_n (pc := 37) hx hb dX2_settleStands_37 rfl (lv_at hl 0 rfl) ?_
  refine lv_iload_n (pc := 38) hx hb dX2_settleStands_38 rfl (lv_at hl 2 rfl) ?_
  refine lv_iload_n (pc := 39) hx hb dX2_settleStands_39 rfl (lv_at hl 1 rfl) ?_
  obtain ⟨q3, hc2, hf⟩ := zbind hf
  refine zcallVi (pc := 40) (As := [.int a.1, .int p1]) (rest := [.int a.1, .ref (ad 29)]) ⟨hx, hb, hml, hown, hts⟩ (kX2_homesAreNear l D ad cy k a.1 p1 a.2 q3 hc2) (cwV 2 hts gX2_settleStands_X2_homesAreNear rfl rfl rfl (by decide +kernel) ⟨Nat.le_of_ble_eq_true rfl, Nat.le_of_ble_eq_true rfl⟩) hI rfl (xl_27 ad cy a.2) rfl hl.1 rfl (Nat.le_of_ble_eq_true rfl) dX2_settleStands_40 (Nat.zero_le _) (Nat.zero_le _) (fun H locs hI => ?_)
  refine z_if_eq (pc := 43) (tgt := 58) hx hb dX2_settleStands_43 (by decide) hf (fun hf => ?_) (fun hf => ?_)
  · refine lv_ldc2 (pc := 58) (v := -1) hx hb hown (hts (.constantLong RX2 154 (-1)) (by decide +kernel)) dX2_settleStands_58 ?_
    refine z_last (wf := WX ad cy) (pc := 61) hx hb hI (xl_29 ad cy a.2) 2 rfl dX2_settleStands_61 (fun j => xw_rates ad cy a.2 (vp_updL (xg_rates a.2) j (-1 : Int64))) hf (fun j4 u5 H locs hj4 hI hf => ?_)
    refine lv_iinc (pc := 62) (v := (a.1 + 1)) (lv' := [(2, .int (a.1 + 1)), (0, .ref (ad 27)), (1, .int p1)]) hx hb dX2_settleStands_62 hl (k := 2) rfl rfl (by decide) rfl (fun ls hl => ?_)
    refine lv_goto (pc := 65) (tgt := 12) hx hb dX2_settleStands_65 (by decide) ?_
    exact hL _ (Option.some.inj hf).symm _ _ _ hI (lv_sub hl [1, 2, 0] rfl)
  refine lv_aload_n (pc := 46) hx hb dX2_settleStands_46 rfl (lv_at hl 0 rfl) ?_
  refine z_get (pc := 47) (index := 36) hx hb hts iwX2_settleStands_2 hown hI (xl_27 ad cy a.2) rfl 0 (by decide) (by decide +kernel) rfl rfl dX2_settleStands_47 ?_
  refine lv_iload_n (pc := 50) hx hb dX2_settleStands_50 rfl (lv_at hl 2 rfl) ?_
  refine lv_i2l (pc := 51) hx hb dX2_settleStands_51 rfl ?_
  obtain ⟨q7, hc6, hf⟩ := zbind hf
  refine zcallVl (pc := 52) (As := [.long (a.1.toInt64)]) (rest := [.int a.1, .ref (ad 29)]) ⟨hx, hb, hml, hown, hts⟩ (kX8_holeRate l D ad cy (a.1.toInt64) a.2 q7 hc6) (cwV 1 hts gX2_settleStands_X8_holeRate rfl rfl rfl (by decide +kernel) ⟨Nat.le_of_ble_eq_true rfl, Nat.le_of_ble_eq_true rfl⟩) hI rfl (xl_1 ad cy a.2) rfl hl.1 rfl (Nat.le_of_ble_eq_true rfl) dX2_settleStands_52 (Nat.zero_le _) (Nat.zero_le _) (fun H locs hI => ?_)
  refine lv_goto (pc := 55) (tgt := 61) hx hb dX2_settleStands_55 (by decide) ?_
  refine z_last (wf := WX ad cy) (pc := 61) hx hb hI (xl_29 ad cy a.2) 2 rfl dX2_settleStands_61 (fun j => xw_rates ad cy a.2 (vp_updL (xg_rates a.2) j q7)) hf (fun j8 u9 H locs hj8 hI hf => ?_)
  refine lv_iinc (pc := 62) (v := (a.1 + 1)) (lv' := [(2, .int (a.1 + 1)), (0, .ref (ad 27)), (1, .int p1)]) hx hb dX2_settleStands_62 hl (k := 2) rfl rfl (by decide) rfl (fun ls hl => ?_)
  refine lv_goto (pc := 65) (tgt := 12) hx hb dX2_settleStands_65 (by decide) ?_
  exact hL _ (Option.some.inj hf).symm _ _ _ hI (lv_sub hl [1, 2, 0] rfl)
set_option maxHeartbeats 4000000 in
set_option maxRecDepth 100000 in
theorem kX2_settleStands (l : Launch) (D : va_G) (ad : Nat → Nat) (cy : Nat → ClassId) (k : Nat) (u : CX) (u' : CX) (hf : fX2_settleStands k u = some u') : zCt l yX2_settleStands wsX2_settleStands ({ frames := 3, cells := 0, slots := 0, locals := 71 } : Room) D ad cy [.ref (ad 27)] (WX ad cy u) none (WX ad cy u') := by
  refine zCt.of (cc := cX2_settleStands) (maxL := 3) (ret := none) (own := RX2) (by decide) rfl rfl ?_
  intro p e s m below meth c A C0 hI
  obtain ⟨hx, hb, hml, hown, hts, hr, hlk⟩ := id C0
  refine z_entry (Nat.le_of_ble_eq_true rfl) (fun ls hl => ?_)
  have hl : lv_has ls 3 [(0, .ref (ad 27))] := hl
  unfold fX2_settleStands at hf
  refine lv_aload_n (pc := 0) hx hb dX2_settleStands_0 rfl (lv_at hl 0 rfl) ?_
  refine z_get (pc := 1) (index := 36) hx hb hts iwX2_settleStands_2 hown hI (xl_27 ad cy u) rfl 0 (by decide) (by decide +kernel) rfl rfl dX2_settleStands_1 ?_
  refine z_get (pc := 4) (index := 148) hx hb hts iwX2_settleStands_8 hown hI (xl_1 ad cy u) rfl 1 (by decide) (by decide +kernel) rfl rfl dX2_settleStands_4 ?_
  refine lv_iconst (pc := 7) (v := 5) hx hb dX2_settleStands_7 (by decide) ?_
  refine z_iald (pc := 8) hx hb hI (xl_3 ad cy u) 0 rfl dX2_settleStands_8 hf (fun v1 hf => ?_)
  refine lv_istore_n (pc := 9) (lv' := [(1, .int v1), (0, .ref (ad 27))]) hx hb dX2_settleStands_9 rfl hl (by decide) rfl (fun ls hl => ?_)
  refine lv_iconst (pc := 10) (v := 0) hx hb dX2_settleStands_10 (by decide) ?_
  refine lv_istore_n (pc := 11) (lv' := [(2, .int (0 : Int32)), (1, .int v1), (0, .ref (ad 27))]) hx hb dX2_settleStands_11 rfl hl (by decide) rfl (fun ls hl => ?_)
  obtain ⟨b10, hb11, hf⟩ := zbind hf
  refine lX2_settleStands_12 C0 hb11 ?_ _ _ _ hI (lv_sub hl [2, 1, 0] rfl)
  intro H locs ls hI hl
  cases hf
  exact z_vret (pc := 68) C0 hI dX2_settleStands_68
set_option maxHeartbeats 4000000 in
set_option maxRecDepth 100000 in
theorem kX2_allHolesAreNear (l : Launch) (D : va_G) (ad : Nat → Nat) (cy : Nat → ClassId) (a1 : Int32) (a2 : Int32) (a3 : Int32) (a4 : Int32) (a5 : Int64) (u : CX) (r : Int32) (hf : fX2_allHolesAreNear a1 a2 a3 a4 a5 u = some r) : zCt l yX2_allHolesAreNear wsX2_allHolesAreNear ({ frames := 2, cells := 0, slots := 0, locals := 49 } : Room) D ad cy [.ref (ad 27), .int a1, .int a2, .int a3, .int a4, .long a5] (WX ad cy u) (some (.int r)) (WX ad cy u) := by
  refine zCt.of (cc := cX2_allHolesAreNear) (maxL := 8) (ret := (some .boolean)) (own := RX2) (by decide) rfl rfl ?_
  intro p e s m below meth c A C0 hI
  obtain ⟨hx, hb, hml, hown, hts, hr, hlk⟩ := id C0
  refine z_entry (Nat.le_of_ble_eq_true rfl) (fun ls hl => ?_)
  have hl : lv_has ls 8 [(0, .ref (ad 27)), (1, .int a1), (2, .int a2), (3, .int a3), (4, .int a4), (5, .long a5)] := hl
  unfold fX2_allHolesAreNear at hf
  refine lv_aload_n (pc := 0) hx hb dX2_allHolesAreNear_0 rfl (lv_at hl 0 rfl) ?_
  refine z_get (pc := 1) (index := 36) hx hb hts iwX2_allHolesAreNear_2 hown hI (xl_27 ad cy u) rfl 0 (by decide) (by decide +kernel) rfl rfl dX2_allHolesAreNear_1 ?_
  refine z_get (pc := 4) (index := 148) hx hb hts iwX2_allHolesAreNear_8 hown hI (xl_1 ad cy u) rfl 1 (by decide) (by decide +kernel) rfl rfl dX2_allHolesAreNear_4 ?_
  refine lv_iconst (pc := 7) (v := 5) hx hb dX2_allHolesAreNear_7 (by decide) ?_
  refine z_iald (pc := 8) hx hb hI (xl_3 ad cy u) 0 rfl dX2_allHolesAreNear_8 hf (fun v1 hf => ?_)
  refine lv_istore (pc := 9) (lv' := [(7, .int v1), (0, .ref (ad 27)), (1, .int a1), (2, .int a2), (3, .int a3), (4, .int a4), (5, .long a5)]) hx hb dX2_allHolesAreNear_9 hl (by decide) rfl (fun ls hl => ?_)
  refine lv_aload_n (pc := 11) hx hb dX2_allHolesAreNear_11 rfl (lv_at hl 1 rfl) ?_
  refine lv_iconst (pc := 12) (v := 0) hx hb dX2_allHolesAreNear_12 (by decide) ?_
  refine lv_iload_n (pc := 13) hx hb dX2_allHolesAreNear_13 rfl (lv_at hl 2 rfl) ?_
  refine lv_lload (pc := 14) hx hb dX2_allHolesAreNear_14 (lv_at hl 6 rfl) ?_
  refine lv_iload (pc := 16) hx hb dX2_allHolesAreNear_16 (lv_at hl 0 rfl) ?_
  obtain ⟨q3, hc2, hf⟩ := zbind hf
  refine zcallVi (pc := 18) (As := [.int (0 : Int32), .int a1, .long a5, .int v1]) (rest := []) ⟨hx, hb, hml, hown, hts⟩ (kX2_holesAreNear l D ad cy (0 : Int32) a1 a5 v1 u q3 hc2) (cwV 4 hts gX2_allHolesAreNear_X2_holesAreNear rfl rfl rfl (by decide +kernel) ⟨Nat.le_of_ble_eq_true rfl, Nat.le_of_ble_eq_true rfl⟩) hI rfl (xl_27 ad cy u) rfl hl.1 rfl (Nat.le_of_ble_eq_true rfl) dX2_allHolesAreNear_18 (Nat.zero_le _) (Nat.zero_le _) (fun H locs hI => ?_)
  refine z_if_eq (pc := 21) (tgt := 68) hx hb dX2_allHolesAreNear_21 (by decide) hf (fun hf => ?_) (fun hf => ?_)
  · refine lv_iconst (pc := 68) (v := 0) hx hb dX2_allHolesAreNear_68 (by decide) ?_
    cases hf
    exact z_zret (pc := 69) C0 hI (Or.inl rfl) dX2_allHolesAreNear_69
  refine lv_aload_n (pc := 24) hx hb dX2_allHolesAreNear_24 rfl (lv_at hl 1 rfl) ?_
  refine lv_iconst (pc := 25) (v := 1) hx hb dX2_allHolesAreNear_25 (by decide) ?_
  refine lv_iload_n (pc := 26) hx hb dX2_allHolesAreNear_26 rfl (lv_at hl 3 rfl) ?_
  refine lv_lload (pc := 27) hx hb dX2_allHolesAreNear_27 (lv_at hl 6 rfl) ?_
  refine lv_iload (pc := 29) hx hb dX2_allHolesAreNear_29 (lv_at hl 0 rfl) ?_
  obtain ⟨q5, hc4, hf⟩ := zbind hf
  refine zcallVi (pc := 31) (As := [.int (1 : Int32), .int a2, .long a5, .int v1]) (rest := []) ⟨hx, hb, hml, hown, hts⟩ (kX2_holesAreNear l D ad cy (1 : Int32) a2 a5 v1 u q5 hc4) (cwV 4 hts gX2_allHolesAreNear_X2_holesAreNear rfl rfl rfl (by decide +kernel) ⟨Nat.le_of_ble_eq_true rfl, Nat.le_of_ble_eq_true rfl⟩) hI rfl (xl_27 ad cy u) rfl hl.1 rfl (Nat.le_of_ble_eq_true rfl) dX2_allHolesAreNear_31 (Nat.zero_le _) (Nat.zero_le _) (fun H locs hI => ?_)
  refine z_if_eq (pc := 34) (tgt := 68) hx hb dX2_allHolesAreNear_34 (by decide) hf (fun hf => ?_) (fun hf => ?_)
  · refine lv_iconst (pc := 68) (v := 0) hx hb dX2_allHolesAreNear_68 (by decide) ?_
    cases hf
    exact z_zret (pc := 69) C0 hI (Or.inl rfl) dX2_allHolesAreNear_69
  refine lv_aload_n (pc := 37) hx hb dX2_allHolesAreNear_37 rfl (lv_at hl 1 rfl) ?_
  refine lv_iconst (pc := 38) (v := 2) hx hb dX2_allHolesAreNear_38 (by decide) ?_
  refine lv_iload_n (pc := 39) hx hb dX2_allHolesAreNear_39 rfl (lv_at hl 4 rfl) ?_
  refine lv_lload (pc := 40) hx hb dX2_allHolesAreNear_40 (lv_at hl 6 rfl) ?_
  refine lv_iload (pc := 42) hx hb dX2_allHolesAreNear_42 (lv_at hl 0 rfl) ?_
  obtain ⟨q7, hc6, hf⟩ := zbind hf
  refine zcallVi (pc := 44) (As := [.int (2 : Int32), .int a3, .long a5, .int v1]) (rest := []) ⟨hx, hb, hml, hown, hts⟩ (kX2_holesAreNear l D ad cy (2 : Int32) a3 a5 v1 u q7 hc6) (cwV 4 hts gX2_allHolesAreNear_X2_holesAreNear rfl rfl rfl (by decide +kernel) ⟨Nat.le_of_ble_eq_true rfl, Nat.le_of_ble_eq_true rfl⟩) hI rfl (xl_27 ad cy u) rfl hl.1 rfl (Nat.le_of_ble_eq_true rfl) dX2_allHolesAreNear_44 (Nat.zero_le _) (Nat.zero_le _) (fun H locs hI => ?_)
  refine z_if_eq (pc := 47) (tgt := 68) hx hb dX2_allHolesAreNear_47 (by decide) hf (fun hf => ?_) (fun hf => ?_)
  · refine lv_iconst (pc := 68) (v := 0) hx hb dX2_allHolesAreNear_68 (by decide) ?_
    cases hf
    exact z_zret (pc := 69) C0 hI (Or.inl rfl) dX2_allHolesAreNear_69
  refine lv_aload_n (pc := 50) hx hb dX2_allHolesAreNear_50 rfl (lv_at hl 1 rfl) ?_
  refine lv_iconst (pc := 51) (v := 3) hx hb dX2_allHolesAreNear_51 (by decide) ?_
  refine lv_iload (pc := 52) hx hb dX2_allHolesAreNear_52 (lv_at hl 5 rfl) ?_
  refine lv_lload (pc := 54) hx hb dX2_allHolesAreNear_54 (lv_at hl 6 rfl) ?_
  refine lv_iload (pc := 56) hx hb dX2_allHolesAreNear_56 (lv_at hl 0 rfl) ?_
  obtain ⟨q9, hc8, hf⟩ := zbind hf
  refine zcallVi (pc := 58) (As := [.int (3 : Int32), .int a4, .long a5, .int v1]) (rest := []) ⟨hx, hb, hml, hown, hts⟩ (kX2_holesAreNear l D ad cy (3 : Int32) a4 a5 v1 u q9 hc8) (cwV 4 hts gX2_allHolesAreNear_X2_holesAreNear rfl rfl rfl (by decide +kernel) ⟨Nat.le_of_ble_eq_true rfl, Nat.le_of_ble_eq_true rfl⟩) hI rfl (xl_27 ad cy u) rfl hl.1 rfl (Nat.le_of_ble_eq_true rfl) dX2_allHolesAreNear_58 (Nat.zero_le _) (Nat.zero_le _) (fun H locs hI => ?_)
  refine z_if_eq (pc := 61) (tgt := 68) hx hb dX2_allHolesAreNear_61 (by decide) hf (fun hf => ?_) (fun hf => ?_)
  · refine lv_iconst (pc := 68) (v := 0) hx hb dX2_allHolesAreNear_68 (by decide) ?_
    cases hf
    exact z_zret (pc := 69) C0 hI (Or.inl rfl) dX2_allHolesAreNear_69
  refine lv_iconst (pc := 64) (v := 1) hx hb dX2_allHolesAreNear_64 (by decide) ?_
  refine lv_goto (pc := 65) (tgt := 69) hx hb dX2_allHolesAreNear_65 (by decide) ?_
  cases hf
  exact z_zret (pc := 69) C0 hI (Or.inr rfl) dX2_allHolesAreNear_69
set_option maxHeartbeats 4000000 in
set_option maxRecDepth 100000 in
theorem lX2_keepNone_2 (C0 : zFix p m c cX2_keepNone 2 s args wsX2_keepNone RX2 meth none) {k : Nat} {a : Int32 × CX} {b : CX} (hit : ziter (bX2_keepNone_2 k) k a = some b) (hx9 : (fun (b : CX) => ∀ (H : Heap) (locs : List Loc) (ls : Array Slot), zIn D ad cy (WX ad cy b) A s H locs → lv_has ls 2 [(0, .ref (ad 27))] → W p l e ({ frames := 0, cells := 0, slots := 0, locals := 0 } : Room) s m args below meth c H locs 0 0 Q (F0 m 22 ls [])) b) : (fun (a : Int32 × CX) => ∀ (H : Heap) (locs : List Loc) (ls : Array Slot), zIn D ad cy (WX ad cy a.2) A s H locs → lv_has ls 2 [(0, .ref (ad 27)), (1, .int a.1)] → W p l e ({ frames := 0, cells := 0, slots := 0, locals := 0 } : Room) s m args below meth c H locs 0 0 Q (F0 m 2 ls [])) a := by
  obtain ⟨hx, hb, hml, hown, hts, hr, hlk⟩ := id C0
  refine zloop (Wh := (fun (a : Int32 × CX) => ∀ (H : Heap) (locs : List Loc) (ls : Array Slot), zIn D ad cy (WX ad cy a.2) A s H locs → lv_has ls 2 [(0, .ref (ad 27)), (1, .int a.1)] → W p l e ({ frames := 0, cells := 0, slots := 0, locals := 0 } : Room) s m args below meth c H locs 0 0 Q (F0 m 2 ls []))) (Wx := (fun (b : CX) => ∀ (H : Heap) (locs : List Loc) (ls : Array Slot), zIn D ad cy (WX ad cy b) A s H locs → lv_has ls 2 [(0, .ref (ad 27))] → W p l e ({ frames := 0, cells := 0, slots := 0, locals := 0 } : Room) s m args below meth c H locs 0 0 Q (F0 m 22 ls []))) ?_ _ a b hit hx9
  intro a x hf hL hX H locs ls hI hl
  unfold bX2_keepNone_2 at hf
  refine lv_iload_n (pc := 2) hx hb dX2_keepNone_2 rfl (lv_at hl 1 rfl) ?_
  refine lv_sipush (pc := 3) (v := 1331) hx hb dX2_keepNone_3 (by decide) ?_
  refine z_icmp_ge (pc := 6) (tgt := 22) hx hb dX2_keepNone_6 (by decide) hf (fun hf => ?_) (fun hf => ?_)
  · exact (hX _ (Option.some.inj hf).symm) _ _ _ hI (lv_sub hl [0] rfl)
  refine lv_aload_n (pc := 9) hx hb dX2_keepNone_9 rfl (lv_at hl 0 rfl) ?_
  refine z_get (pc := 10) (index := 11) hx hb hts iwX2_keepNone_2 hown hI (xl_27 ad cy a.2) rfl 3 (by decide) (by decide +kernel) rfl rfl dX2_keepNone_10 ?_
  refine lv_iload_n (pc := 13) hx hb dX2_keepNone_13 rfl (lv_at hl 1 rfl) ?_
  refine lv_iconst (pc := 14) (v := 0) hx hb dX2_keepNone_14 (by decide) ?_
  refine z_iast (wf := WX ad cy) (pc := 15) hx hb hI (xl_28 ad cy a.2) 0 rfl dX2_keepNone_15 (fun j => xw_bits ad cy a.2 (upd (xg_bits a.2) j (0 : Int32))) hf (fun j1 u2 H locs hj1 hI hf => ?_)
  refine lv_iinc (pc := 16) (v := (a.1 + 1)) (lv' := [(1, .int (a.1 + 1)), (0, .ref (ad 27))]) hx hb dX2_keepNone_16 hl (k := 1) rfl rfl (by decide) rfl (fun ls hl => ?_)
  refine lv_goto (pc := 19) (tgt := 2) hx hb dX2_keepNone_19 (by decide) ?_
  exact hL _ (Option.some.inj hf).symm _ _ _ hI (lv_sub hl [1, 0] rfl)
set_option maxHeartbeats 4000000 in
set_option maxRecDepth 100000 in
theorem lX2_keepNone_24 (C0 : zFix p m c cX2_keepNone 2 s args wsX2_keepNone RX2 meth none) {k : Nat} {a : Int32 × CX} {b : CX} (hit : ziter (bX2_keepNone_24 k) k a = some b) (hx9 : (fun (b : CX) => ∀ (H : Heap) (locs : List Loc) (ls : Array Slot), zIn D ad cy (WX ad cy b) A s H locs → lv_has ls 2 [(0, .ref (ad 27))] → W p l e ({ frames := 0, cells := 0, slots := 0, locals := 0 } : Room) s m args below meth c H locs 0 0 Q (F0 m 43 ls [])) b) : (fun (a : Int32 × CX) => ∀ (H : Heap) (locs : List Loc) (ls : Array Slot), zIn D ad cy (WX ad cy a.2) A s H locs → lv_has ls 2 [(0, .ref (ad 27)), (1, .int a.1)] → W p l e ({ frames := 0, cells := 0, slots := 0, locals := 0 } : Room) s m args below meth c H locs 0 0 Q (F0 m 24 ls [])) a := by
  obtain ⟨hx, hb, hml, hown, hts, hr, hlk⟩ := id C0
  refine zloop (Wh := (fun (a : Int32 × CX) => ∀ (H : Heap) (locs : List Loc) (ls : Array Slot), zIn D ad cy (WX ad cy a.2) A s H locs → lv_has ls 2 [(0, .ref (ad 27)), (1, .int a.1)] → W p l e ({ frames := 0, cells := 0, slots := 0, locals := 0 } : Room) s m args below meth c H locs 0 0 Q (F0 m 24 ls []))) (Wx := (fun (b : CX) => ∀ (H : Heap) (locs : List Loc) (ls : Array Slot), zIn D ad cy (WX ad cy b) A s H locs → lv_has ls 2 [(0, .ref (ad 27))] → W p l e ({ frames := 0, cells := 0, slots := 0, locals := 0 } : Room) s m args below meth c H locs 0 0 Q (F0 m 43 ls []))) ?_ _ a b hit hx9
  intro a x hf hL hX H locs ls hI hl
  unfold bX2_keepNone_24 at hf
  refine lv_iload_n (pc := 24) hx hb dX2_keepNone_24 rfl (lv_at hl 1 rfl) ?_
  refine lv_bipush (pc := 25) (v := 44) hx hb dX2_keepNone_25 (by decide) ?_
  refine z_icmp_ge (pc := 27) (tgt := 43) hx hb dX2_keepNone_27 (by decide) hf (fun hf => ?_) (fun hf => ?_)
  · exact (hX _ (Option.some.inj hf).symm) _ _ _ hI (lv_sub hl [0] rfl)
  refine lv_aload_n (pc := 30) hx hb dX2_keepNone_30 rfl (lv_at hl 0 rfl) ?_
  refine z_get (pc := 31) (index := 19) hx hb hts iwX2_keepNone_2 hown hI (xl_27 ad cy a.2) rfl 5 (by decide) (by decide +kernel) rfl rfl dX2_keepNone_31 ?_
  refine lv_iload_n (pc := 34) hx hb dX2_keepNone_34 rfl (lv_at hl 1 rfl) ?_
  refine lv_iconst (pc := 35) (v := 0) hx hb dX2_keepNone_35 (by decide) ?_
  refine z_iast (wf := WX ad cy) (pc := 36) hx hb hI (xl_30 ad cy a.2) 0 rfl dX2_keepNone_36 (fun j => xw_tally ad cy a.2 (upd (xg_tally a.2) j (0 : Int32))) hf (fun j5 u6 H locs hj5 hI hf => ?_)
  refine lv_iinc (pc := 37) (v := (a.1 + 1)) (lv' := [(1, .int (a.1 + 1)), (0, .ref (ad 27))]) hx hb dX2_keepNone_37 hl (k := 1) rfl rfl (by decide) rfl (fun ls hl => ?_)
  refine lv_goto (pc := 40) (tgt := 24) hx hb dX2_keepNone_40 (by decide) ?_
  exact hL _ (Option.some.inj hf).symm _ _ _ hI (lv_sub hl [1, 0] rfl)
set_option maxHeartbeats 4000000 in
set_option maxRecDepth 100000 in
theorem kX2_keepNone (l : Launch) (D : va_G) (ad : Nat → Nat) (cy : Nat → ClassId) (k : Nat) (u : CX) (u' : CX) (hf : fX2_keepNone k u = some u') : zCt l yX2_keepNone wsX2_keepNone ({ frames := 0, cells := 0, slots := 0, locals := 0 } : Room) D ad cy [.ref (ad 27)] (WX ad cy u) none (WX ad cy u') := by
  refine zCt.of (cc := cX2_keepNone) (maxL := 2) (ret := none) (own := RX2) (by decide) rfl rfl ?_
  intro p e s m below meth c A C0 hI
  obtain ⟨hx, hb, hml, hown, hts, hr, hlk⟩ := id C0
  refine z_entry (Nat.le_of_ble_eq_true rfl) (fun ls hl => ?_)
  have hl : lv_has ls 2 [(0, .ref (ad 27))] := hl
  unfold fX2_keepNone at hf
  refine lv_iconst (pc := 0) (v := 0) hx hb dX2_keepNone_0 (by decide) ?_
  refine lv_istore_n (pc := 1) (lv' := [(1, .int (0 : Int32)), (0, .ref (ad 27))]) hx hb dX2_keepNone_1 rfl hl (by decide) rfl (fun ls hl => ?_)
  obtain ⟨b3, hb4, hf⟩ := zbind hf
  refine lX2_keepNone_2 C0 hb4 ?_ _ _ _ hI (lv_sub hl [1, 0] rfl)
  intro H locs ls hI hl
  refine lv_iconst (pc := 22) (v := 0) hx hb dX2_keepNone_22 (by decide) ?_
  refine lv_istore_n (pc := 23) (lv' := [(1, .int (0 : Int32)), (0, .ref (ad 27))]) hx hb dX2_keepNone_23 rfl hl (by decide) rfl (fun ls hl => ?_)
  obtain ⟨b7, hb8, hf⟩ := zbind hf
  refine lX2_keepNone_24 C0 hb8 ?_ _ _ _ hI (lv_sub hl [1, 0] rfl)
  intro H locs ls hI hl
  refine lv_aload_n (pc := 43) hx hb dX2_keepNone_43 rfl (lv_at hl 0 rfl) ?_
  refine lv_iconst (pc := 44) (v := 0) hx hb dX2_keepNone_44 (by decide) ?_
  refine z_put (wf := WX ad cy) (pc := 45) (index := 81) hx hb hts iwX2_keepNone_2 tyX2 tyX2_ok nmX2 hown hI (xl_27 ad cy b7) rfl 7 (by decide) (by decide +kernel) rfl rfl rfl rfl (Nat.le_of_ble_eq_true rfl) dX2_keepNone_45 (xw_gsize ad cy b7 (0 : Int32)) hf (fun u9 H locs hI hf => ?_)
  refine lv_aload_n (pc := 48) hx hb dX2_keepNone_48 rfl (lv_at hl 0 rfl) ?_
  refine lv_iconst (pc := 49) (v := 0) hx hb dX2_keepNone_49 (by decide) ?_
  refine z_put (wf := WX ad cy) (pc := 50) (index := 91) hx hb hts iwX2_keepNone_2 tyX2 tyX2_ok nmX2 hown hI (xl_27 ad cy u9) rfl 8 (by decide) (by decide +kernel) rfl rfl rfl rfl (Nat.le_of_ble_eq_true rfl) dX2_keepNone_50 (xw_gleast ad cy u9 (0 : Int32)) hf (fun u10 H locs hI hf => ?_)
  refine lv_aload_n (pc := 53) hx hb dX2_keepNone_53 rfl (lv_at hl 0 rfl) ?_
  refine lv_iconst (pc := 54) (v := -1) hx hb dX2_keepNone_54 (by decide) ?_
  refine z_put (wf := WX ad cy) (pc := 55) (index := 94) hx hb hts iwX2_keepNone_2 tyX2 tyX2_ok nmX2 hown hI (xl_27 ad cy u10) rfl 9 (by decide) (by decide +kernel) rfl rfl rfl rfl (Nat.le_of_ble_eq_true rfl) dX2_keepNone_55 (xw_gmost ad cy u10 (-1 : Int32)) hf (fun u11 H locs hI hf => ?_)
  cases hf
  exact z_vret (pc := 58) C0 hI dX2_keepNone_58
set_option maxHeartbeats 4000000 in
set_option maxRecDepth 100000 in
theorem kX2_keep (l : Launch) (D : va_G) (ad : Nat → Nat) (cy : Nat → ClassId) (a1 : Int32) (a2 : Int32) (a3 : Int32) (a4 : Int32) (u : CX) (u' : CX) (hf : fX2_keep a1 a2 a3 a4 u = some u') : zCt l yX2_keep wsX2_keep ({ frames := 0, cells := 0, slots := 0, locals := 0 } : Room) D ad cy [.ref (ad 27), .int a1, .int a2, .int a3, .int a4] (WX ad cy u) none (WX ad cy u') := by
  refine zCt.of (cc := cX2_keep) (maxL := 7) (ret := none) (own := RX2) (by decide) rfl rfl ?_
  intro p e s m below meth c A C0 hI
  obtain ⟨hx, hb, hml, hown, hts, hr, hlk⟩ := id C0
  refine z_entry (Nat.le_of_ble_eq_true rfl) (fun ls hl => ?_)
  have hl : lv_has ls 7 [(0, .ref (ad 27)), (1, .int a1), (2, .int a2), (3, .int a3), (4, .int a4)] := hl
  unfold fX2_keep at hf
  refine lv_iload_n (pc := 0) hx hb dX2_keep_0 rfl (lv_at hl 1 rfl) ?_
  refine lv_bipush (pc := 1) (v := 11) hx hb dX2_keep_1 (by decide) ?_
  refine lv_imul (pc := 3) hx hb dX2_keep_3 ?_
  refine lv_iload_n (pc := 4) hx hb dX2_keep_4 rfl (lv_at hl 2 rfl) ?_
  refine lv_iadd (pc := 5) hx hb dX2_keep_5 ?_
  refine lv_bipush (pc := 6) (v := 11) hx hb dX2_keep_6 (by decide) ?_
  refine lv_imul (pc := 8) hx hb dX2_keep_8 ?_
  refine lv_iload_n (pc := 9) hx hb dX2_keep_9 rfl (lv_at hl 3 rfl) ?_
  refine lv_iadd (pc := 10) hx hb dX2_keep_10 ?_
  refine z_bi hf (fun v1 hf => ?_)
  refine lv_istore (pc := 11) (lv' := [(5, .int v1), (0, .ref (ad 27)), (1, .int a1), (2, .int a2), (3, .int a3), (4, .int a4)]) hx hb dX2_keep_11 hl (by decide) rfl (fun ls hl => ?_)
  refine lv_iload (pc := 13) hx hb dX2_keep_13 (lv_at hl 0 rfl) ?_
  refine lv_bipush (pc := 15) (v := 11) hx hb dX2_keep_15 (by decide) ?_
  refine lv_imul (pc := 17) hx hb dX2_keep_17 ?_
  refine lv_iload (pc := 18) hx hb dX2_keep_18 (lv_at hl 5 rfl) ?_
  refine lv_iadd (pc := 20) hx hb dX2_keep_20 ?_
  refine z_bi hf (fun v2 hf => ?_)
  refine lv_istore (pc := 21) (lv' := [(6, .int v2), (5, .int v1), (0, .ref (ad 27)), (1, .int a1), (2, .int a2), (3, .int a3), (4, .int a4)]) hx hb dX2_keep_21 hl (by decide) rfl (fun ls hl => ?_)
  refine lv_aload_n (pc := 23) hx hb dX2_keep_23 rfl (lv_at hl 2 rfl) ?_
  refine z_get (pc := 24) (index := 11) hx hb hts iwX2_keep_2 hown hI (xl_27 ad cy u) rfl 3 (by decide) (by decide +kernel) rfl rfl dX2_keep_24 ?_
  refine lv_iload (pc := 27) hx hb dX2_keep_27 (lv_at hl 1 rfl) ?_
  refine lv_dup2_11 (pc := 29) hx hb dX2_keep_29 rfl rfl ?_
  refine z_iald (pc := 30) hx hb hI (xl_28 ad cy u) 0 rfl dX2_keep_30 hf (fun v3 hf => ?_)
  refine lv_iconst (pc := 31) (v := 1) hx hb dX2_keep_31 (by decide) ?_
  refine lv_iload (pc := 32) hx hb dX2_keep_32 (lv_at hl 6 rfl) ?_
  refine lv_ishl (pc := 34) hx hb dX2_keep_34 ?_
  refine lv_ior (pc := 35) hx hb dX2_keep_35 ?_
  refine z_iast (wf := WX ad cy) (pc := 36) hx hb hI (xl_28 ad cy u) 0 rfl dX2_keep_36 (fun j => xw_bits ad cy u (upd (xg_bits u) j (v3 ||| ((1 : Int32) <<< (a4 &&& 31))))) hf (fun j4 u5 H locs hj4 hI hf => ?_)
  refine lv_aload_n (pc := 37) hx hb dX2_keep_37 rfl (lv_at hl 2 rfl) ?_
  refine z_get (pc := 38) (index := 19) hx hb hts iwX2_keep_2 hown hI (xl_27 ad cy u5) rfl 5 (by decide) (by decide +kernel) rfl rfl dX2_keep_38 ?_
  refine lv_iload_n (pc := 41) hx hb dX2_keep_41 rfl (lv_at hl 3 rfl) ?_
  refine lv_dup2_11 (pc := 42) hx hb dX2_keep_42 rfl rfl ?_
  refine z_iald (pc := 43) hx hb hI (xl_30 ad cy u5) 0 rfl dX2_keep_43 hf (fun v6 hf => ?_)
  refine lv_iconst (pc := 44) (v := 1) hx hb dX2_keep_44 (by decide) ?_
  refine lv_iadd (pc := 45) hx hb dX2_keep_45 ?_
  refine z_iast (wf := WX ad cy) (pc := 46) hx hb hI (xl_30 ad cy u5) 0 rfl dX2_keep_46 (fun j => xw_tally ad cy u5 (upd (xg_tally u5) j (v6 + (1 : Int32)))) hf (fun j7 u8 H locs hj7 hI hf => ?_)
  refine lv_aload_n (pc := 47) hx hb dX2_keep_47 rfl (lv_at hl 2 rfl) ?_
  refine z_get (pc := 48) (index := 19) hx hb hts iwX2_keep_2 hown hI (xl_27 ad cy u8) rfl 5 (by decide) (by decide +kernel) rfl rfl dX2_keep_48 ?_
  refine lv_bipush (pc := 51) (v := 11) hx hb dX2_keep_51 (by decide) ?_
  refine lv_iload_n (pc := 53) hx hb dX2_keep_53 rfl (lv_at hl 4 rfl) ?_
  refine lv_iadd (pc := 54) hx hb dX2_keep_54 ?_
  refine z_bi hf (fun v9 hf => ?_)
  refine lv_dup2_11 (pc := 55) hx hb dX2_keep_55 rfl rfl ?_
  refine z_iald (pc := 56) hx hb hI (xl_30 ad cy u8) 0 rfl dX2_keep_56 hf (fun v10 hf => ?_)
  refine lv_iconst (pc := 57) (v := 1) hx hb dX2_keep_57 (by decide) ?_
  refine lv_iadd (pc := 58) hx hb dX2_keep_58 ?_
  refine z_iast (wf := WX ad cy) (pc := 59) hx hb hI (xl_30 ad cy u8) 0 rfl dX2_keep_59 (fun j => xw_tally ad cy u8 (upd (xg_tally u8) j (v10 + (1 : Int32)))) hf (fun j11 u12 H locs hj11 hI hf => ?_)
  refine lv_aload_n (pc := 60) hx hb dX2_keep_60 rfl (lv_at hl 2 rfl) ?_
  refine z_get (pc := 61) (index := 19) hx hb hts iwX2_keep_2 hown hI (xl_27 ad cy u12) rfl 5 (by decide) (by decide +kernel) rfl rfl dX2_keep_61 ?_
  refine lv_bipush (pc := 64) (v := 22) hx hb dX2_keep_64 (by decide) ?_
  refine lv_iload_n (pc := 66) hx hb dX2_keep_66 rfl (lv_at hl 5 rfl) ?_
  refine lv_iadd (pc := 67) hx hb dX2_keep_67 ?_
  refine z_bi hf (fun v13 hf => ?_)
  refine lv_dup2_11 (pc := 68) hx hb dX2_keep_68 rfl rfl ?_
  refine z_iald (pc := 69) hx hb hI (xl_30 ad cy u12) 0 rfl dX2_keep_69 hf (fun v14 hf => ?_)
  refine lv_iconst (pc := 70) (v := 1) hx hb dX2_keep_70 (by decide) ?_
  refine lv_iadd (pc := 71) hx hb dX2_keep_71 ?_
  refine z_iast (wf := WX ad cy) (pc := 72) hx hb hI (xl_30 ad cy u12) 0 rfl dX2_keep_72 (fun j => xw_tally ad cy u12 (upd (xg_tally u12) j (v14 + (1 : Int32)))) hf (fun j15 u16 H locs hj15 hI hf => ?_)
  refine lv_aload_n (pc := 73) hx hb dX2_keep_73 rfl (lv_at hl 2 rfl) ?_
  refine z_get (pc := 74) (index := 19) hx hb hts iwX2_keep_2 hown hI (xl_27 ad cy u16) rfl 5 (by decide) (by decide +kernel) rfl rfl dX2_keep_74 ?_
  refine lv_bipush (pc := 77) (v := 33) hx hb dX2_keep_77 (by decide) ?_
  refine lv_iload (pc := 79) hx hb dX2_keep_79 (lv_at hl 6 rfl) ?_
  refine lv_iadd (pc := 81) hx hb dX2_keep_81 ?_
  refine z_bi hf (fun v17 hf => ?_)
  refine lv_dup2_11 (pc := 82) hx hb dX2_keep_82 rfl rfl ?_
  refine z_iald (pc := 83) hx hb hI (xl_30 ad cy u16) 0 rfl dX2_keep_83 hf (fun v18 hf => ?_)
  refine lv_iconst (pc := 84) (v := 1) hx hb dX2_keep_84 (by decide) ?_
  refine lv_iadd (pc := 85) hx hb dX2_keep_85 ?_
  refine z_iast (wf := WX ad cy) (pc := 86) hx hb hI (xl_30 ad cy u16) 0 rfl dX2_keep_86 (fun j => xw_tally ad cy u16 (upd (xg_tally u16) j (v18 + (1 : Int32)))) hf (fun j19 u20 H locs hj19 hI hf => ?_)
  refine lv_aload_n (pc := 87) hx hb dX2_keep_87 rfl (lv_at hl 2 rfl) ?_
  refine lv_aload_n (pc := 88) hx hb dX2_keep_88 rfl (lv_at hl 2 rfl) ?_
  refine z_get (pc := 89) (index := 81) hx hb hts iwX2_keep_2 hown hI (xl_27 ad cy u20) rfl 7 (by decide) (by decide +kernel) rfl rfl dX2_keep_89 ?_
  refine z_if_ne (pc := 92) (tgt := 100) hx hb dX2_keep_92 (by decide) hf (fun hf => ?_) (fun hf => ?_)
  · refine lv_aload_n (pc := 100) hx hb dX2_keep_100 rfl (lv_at hl 2 rfl) ?_
    refine z_get (pc := 101) (index := 91) hx hb hts iwX2_keep_2 hown hI (xl_27 ad cy u20) rfl 8 (by decide) (by decide +kernel) rfl rfl dX2_keep_101 ?_
    refine z_put (wf := WX ad cy) (pc := 104) (index := 91) hx hb hts iwX2_keep_2 tyX2 tyX2_ok nmX2 hown hI (xl_27 ad cy u20) rfl 8 (by decide) (by decide +kernel) rfl rfl rfl rfl (Nat.le_of_ble_eq_true rfl) dX2_keep_104 (xw_gleast ad cy u20 (xg_gleast u20)) hf (fun u21 H locs hI hf => ?_)
    refine lv_aload_n (pc := 107) hx hb dX2_keep_107 rfl (lv_at hl 2 rfl) ?_
    refine lv_iload (pc := 108) hx hb dX2_keep_108 (lv_at hl 0 rfl) ?_
    refine z_put (wf := WX ad cy) (pc := 110) (index := 94) hx hb hts iwX2_keep_2 tyX2 tyX2_ok nmX2 hown hI (xl_27 ad cy u21) rfl 9 (by decide) (by decide +kernel) rfl rfl rfl rfl (Nat.le_of_ble_eq_true rfl) dX2_keep_110 (xw_gmost ad cy u21 v2) hf (fun u22 H locs hI hf => ?_)
    refine lv_aload_n (pc := 113) hx hb dX2_keep_113 rfl (lv_at hl 2 rfl) ?_
    refine lv_dup (pc := 114) hx hb dX2_keep_114 rfl ?_
    refine z_get (pc := 115) (index := 81) hx hb hts iwX2_keep_2 hown hI (xl_27 ad cy u22) rfl 7 (by decide) (by decide +kernel) rfl rfl dX2_keep_115 ?_
    refine lv_iconst (pc := 118) (v := 1) hx hb dX2_keep_118 (by decide) ?_
    refine lv_iadd (pc := 119) hx hb dX2_keep_119 ?_
    refine z_put (wf := WX ad cy) (pc := 120) (index := 81) hx hb hts iwX2_keep_2 tyX2 tyX2_ok nmX2 hown hI (xl_27 ad cy u22) rfl 7 (by decide) (by decide +kernel) rfl rfl rfl rfl (Nat.le_of_ble_eq_true rfl) dX2_keep_120 (xw_gsize ad cy u22 ((xg_gsize u22) + (1 : Int32))) hf (fun u23 H locs hI hf => ?_)
    cases hf
    exact z_vret (pc := 123) C0 hI dX2_keep_123
  refine lv_iload (pc := 95) hx hb dX2_keep_95 (lv_at hl 0 rfl) ?_
  refine lv_goto (pc := 97) (tgt := 104) hx hb dX2_keep_97 (by decide) ?_
  refine z_put (wf := WX ad cy) (pc := 104) (index := 91) hx hb hts iwX2_keep_2 tyX2 tyX2_ok nmX2 hown hI (xl_27 ad cy u20) rfl 8 (by decide) (by decide +kernel) rfl rfl rfl rfl (Nat.le_of_ble_eq_true rfl) dX2_keep_104 (xw_gleast ad cy u20 v2) hf (fun u24 H locs hI hf => ?_)
  refine lv_aload_n (pc := 107) hx hb dX2_keep_107 rfl (lv_at hl 2 rfl) ?_
  refine lv_iload (pc := 108) hx hb dX2_keep_108 (lv_at hl 0 rfl) ?_
  refine z_put (wf := WX ad cy) (pc := 110) (index := 94) hx hb hts iwX2_keep_2 tyX2 tyX2_ok nmX2 hown hI (xl_27 ad cy u24) rfl 9 (by decide) (by decide +kernel) rfl rfl rfl rfl (Nat.le_of_ble_eq_true rfl) dX2_keep_110 (xw_gmost ad cy u24 v2) hf (fun u25 H locs hI hf => ?_)
  refine lv_aload_n (pc := 113) hx hb dX2_keep_113 rfl (lv_at hl 2 rfl) ?_
  refine lv_dup (pc := 114) hx hb dX2_keep_114 rfl ?_
  refine z_get (pc := 115) (index := 81) hx hb hts iwX2_keep_2 hown hI (xl_27 ad cy u25) rfl 7 (by decide) (by decide +kernel) rfl rfl dX2_keep_115 ?_
  refine lv_iconst (pc := 118) (v := 1) hx hb dX2_keep_118 (by decide) ?_
  refine lv_iadd (pc := 119) hx hb dX2_keep_119 ?_
  refine z_put (wf := WX ad cy) (pc := 120) (index := 81) hx hb hts iwX2_keep_2 tyX2 tyX2_ok nmX2 hown hI (xl_27 ad cy u25) rfl 7 (by decide) (by decide +kernel) rfl rfl rfl rfl (Nat.le_of_ble_eq_true rfl) dX2_keep_120 (xw_gsize ad cy u25 ((xg_gsize u25) + (1 : Int32))) hf (fun u26 H locs hI hf => ?_)
  cases hf
  exact z_vret (pc := 123) C0 hI dX2_keep_123
set_option maxHeartbeats 4000000 in
set_option maxRecDepth 100000 in
theorem kX2_isKept (l : Launch) (D : va_G) (ad : Nat → Nat) (cy : Nat → ClassId) (a1 : Int32) (u : CX) (r : Int32) (hf : fX2_isKept a1 u = some r) : zCt l yX2_isKept wsX2_isKept ({ frames := 0, cells := 0, slots := 0, locals := 0 } : Room) D ad cy [.ref (ad 27), .int a1] (WX ad cy u) (some (.int r)) (WX ad cy u) := by
  refine zCt.of (cc := cX2_isKept) (maxL := 2) (ret := (some .boolean)) (own := RX2) (by decide) rfl rfl ?_
  intro p e s m below meth c A C0 hI
  obtain ⟨hx, hb, hml, hown, hts, hr, hlk⟩ := id C0
  refine z_entry (Nat.le_of_ble_eq_true rfl) (fun ls hl => ?_)
  have hl : lv_has ls 2 [(0, .ref (ad 27)), (1, .int a1)] := hl
  unfold fX2_isKept at hf
  refine lv_iload_n (pc := 0) hx hb dX2_isKept_0 rfl (lv_at hl 1 rfl) ?_
  refine z_if_lt (pc := 1) (tgt := 35) hx hb dX2_isKept_1 (by decide) hf (fun hf => ?_) (fun hf => ?_)
  · refine lv_iconst (pc := 35) (v := 0) hx hb dX2_isKept_35 (by decide) ?_
    cases hf
    exact z_zret (pc := 36) C0 hI (Or.inl rfl) dX2_isKept_36
  refine lv_iload_n (pc := 4) hx hb dX2_isKept_4 rfl (lv_at hl 1 rfl) ?_
  refine lv_sipush (pc := 5) (v := 14641) hx hb dX2_isKept_5 (by decide) ?_
  refine z_icmp_ge (pc := 8) (tgt := 35) hx hb dX2_isKept_8 (by decide) hf (fun hf => ?_) (fun hf => ?_)
  · refine lv_iconst (pc := 35) (v := 0) hx hb dX2_isKept_35 (by decide) ?_
    cases hf
    exact z_zret (pc := 36) C0 hI (Or.inl rfl) dX2_isKept_36
  refine lv_aload_n (pc := 11) hx hb dX2_isKept_11 rfl (lv_at hl 0 rfl) ?_
  refine z_get (pc := 12) (index := 11) hx hb hts iwX2_isKept_2 hown hI (xl_27 ad cy u) rfl 3 (by decide) (by decide +kernel) rfl rfl dX2_isKept_12 ?_
  refine lv_iload_n (pc := 15) hx hb dX2_isKept_15 rfl (lv_at hl 1 rfl) ?_
  refine lv_bipush (pc := 16) (v := 11) hx hb dX2_isKept_16 (by decide) ?_
  refine z_idiv (pc := 18) hx hb dX2_isKept_18 hf (fun hf => ?_)
  refine z_iald (pc := 19) hx hb hI (xl_28 ad cy u) 0 rfl dX2_isKept_19 hf (fun v1 hf => ?_)
  refine lv_iload_n (pc := 20) hx hb dX2_isKept_20 rfl (lv_at hl 1 rfl) ?_
  refine lv_bipush (pc := 21) (v := 11) hx hb dX2_isKept_21 (by decide) ?_
  refine z_irem (pc := 23) hx hb dX2_isKept_23 hf (fun hf => ?_)
  refine lv_ishr (pc := 24) hx hb dX2_isKept_24 ?_
  refine lv_iconst (pc := 25) (v := 1) hx hb dX2_isKept_25 (by decide) ?_
  refine lv_iand (pc := 26) hx hb dX2_isKept_26 ?_
  refine lv_iconst (pc := 27) (v := 1) hx hb dX2_isKept_27 (by decide) ?_
  refine z_icmp_ne (pc := 28) (tgt := 35) hx hb dX2_isKept_28 (by decide) hf (fun hf => ?_) (fun hf => ?_)
  · refine lv_iconst (pc := 35) (v := 0) hx hb dX2_isKept_35 (by decide) ?_
    cases hf
    exact z_zret (pc := 36) C0 hI (Or.inl rfl) dX2_isKept_36
  refine lv_iconst (pc := 31) (v := 1) hx hb dX2_isKept_31 (by decide) ?_
  refine lv_goto (pc := 32) (tgt := 36) hx hb dX2_isKept_32 (by decide) ?_
  cases hf
  exact z_zret (pc := 36) C0 hI (Or.inr rfl) dX2_isKept_36
set_option maxHeartbeats 4000000 in
set_option maxRecDepth 100000 in
theorem lX2_gatherWith_49 (C0 : zFix p m c cX2_gatherWith 7 s args wsX2_gatherWith RX2 meth none) {k : Nat} {p1 : Int32} {p2 : Int32} {p3 : Int32} {p4 : Int32} {a : Int32 × CX} {b : CX} (hit : ziter (bX2_gatherWith_49 k p1 p2 p3 p4) k a = some b) (hx9 : (fun (b : CX) => ∀ (H : Heap) (locs : List Loc) (ls : Array Slot), zIn D ad cy (WX ad cy b) A s H locs → lv_has ls 7 [(0, .ref (ad 27)), (1, .int p1), (2, .int p2), (3, .int p3), (4, .int p4)] → W p l e ({ frames := 3, cells := 0, slots := 0, locals := 76 } : Room) s m args below meth c H locs 0 0 Q (F0 m 157 ls [])) b) : (fun (a : Int32 × CX) => ∀ (H : Heap) (locs : List Loc) (ls : Array Slot), zIn D ad cy (WX ad cy a.2) A s H locs → lv_has ls 7 [(0, .ref (ad 27)), (1, .int p1), (2, .int p2), (3, .int p3), (4, .int p4), (5, .int a.1)] → W p l e ({ frames := 3, cells := 0, slots := 0, locals := 76 } : Room) s m args below meth c H locs 0 0 Q (F0 m 49 ls [])) a := by
  obtain ⟨hx, hb, hml, hown, hts, hr, hlk⟩ := id C0
  refine zloop (Wh := (fun (a : Int32 × CX) => ∀ (H : Heap) (locs : List Loc) (ls : Array Slot), zIn D ad cy (WX ad cy a.2) A s H locs → lv_has ls 7 [(0, .ref (ad 27)), (1, .int p1), (2, .int p2), (3, .int p3), (4, .int p4), (5, .int a.1)] → W p l e ({ frames := 3, cells := 0, slots := 0, locals := 76 } : Room) s m args below meth c H locs 0 0 Q (F0 m 49 ls []))) (Wx := (fun (b : CX) => ∀ (H : Heap) (locs : List Loc) (ls : Array Slot), zIn D ad cy (WX ad cy b) A s H locs → lv_has ls 7 [(0, .ref (ad 27)), (1, .int p1), (2, .int p2), (3, .int p3), (4, .int p4)] → W p l e ({ frames := 3, cells := 0, slots := 0, locals := 76 } : Room) s m args below meth c H locs 0 0 Q (F0 m 157 ls []))) ?_ _ a b hit hx9
  intro a x hf hL hX H locs ls hI hl
  unfold bX2_gatherWith_49 at hf
  refine lv_iload (pc := 49) hx hb dX2_gatherWith_49 (lv_at hl 5 rfl) ?_
  refine lv_bipush (pc := 51) (v := 10) hx hb dX2_gatherWith_51 (by decide) ?_
  refine z_icmp_gt (pc := 53) (tgt := 157) hx hb dX2_gatherWith_53 (by decide) hf (fun hf => ?_) (fun hf => ?_)
  · exact (hX _ (Option.some.inj hf).symm) _ _ _ hI (lv_sub hl [0, 1, 2, 3, 4] rfl)
  refine lv_iload_n (pc := 56) hx hb dX2_gatherWith_56 rfl (lv_at hl 3 rfl) ?_
  refine lv_aload_n (pc := 57) hx hb dX2_gatherWith_57 rfl (lv_at hl 0 rfl) ?_
  refine z_get (pc := 58) (index := 36) hx hb hts iwX2_gatherWith_2 hown hI (xl_27 ad cy a.2) rfl 0 (by decide) (by decide +kernel) rfl rfl dX2_gatherWith_58 ?_
  refine lv_iconst (pc := 61) (v := 2) hx hb dX2_gatherWith_61 (by decide) ?_
  refine lv_iload (pc := 62) hx hb dX2_gatherWith_62 (lv_at hl 4 rfl) ?_
  obtain ⟨q9, hc8, hf⟩ := zbind hf
  refine zcallVi (pc := 64) (As := [.int (2 : Int32), .int p4]) (rest := [.int p3]) ⟨hx, hb, hml, hown, hts⟩ (kX8_partStand l D ad cy (2 : Int32) p4 a.2 q9 hc8) (cwV 2 hts gX2_gatherWith_X8_partStand rfl rfl rfl (by decide +kernel) ⟨Nat.le_of_ble_eq_true rfl, Nat.le_of_ble_eq_true rfl⟩) hI rfl (xl_1 ad cy a.2) rfl hl.1 rfl (Nat.le_of_ble_eq_true rfl) dX2_gatherWith_64 (Nat.zero_le _) (Nat.zero_le _) (fun H locs hI => ?_)
  refine lv_iadd (pc := 67) hx hb dX2_gatherWith_67 ?_
  refine lv_aload_n (pc := 68) hx hb dX2_gatherWith_68 rfl (lv_at hl 0 rfl) ?_
  refine z_get (pc := 69) (index := 36) hx hb hts iwX2_gatherWith_2 hown hI (xl_27 ad cy a.2) rfl 0 (by decide) (by decide +kernel) rfl rfl dX2_gatherWith_69 ?_
  refine lv_iconst (pc := 72) (v := 3) hx hb dX2_gatherWith_72 (by decide) ?_
  refine lv_iload (pc := 73) hx hb dX2_gatherWith_73 (lv_at hl 5 rfl) ?_
  obtain ⟨q11, hc10, hf⟩ := zbind hf
  refine zcallVi (pc := 75) (As := [.int (3 : Int32), .int a.1]) (rest := [.int (p3 + q9)]) ⟨hx, hb, hml, hown, hts⟩ (kX8_partStand l D ad cy (3 : Int32) a.1 a.2 q11 hc10) (cwV 2 hts gX2_gatherWith_X8_partStand rfl rfl rfl (by decide +kernel) ⟨Nat.le_of_ble_eq_true rfl, Nat.le_of_ble_eq_true rfl⟩) hI rfl (xl_1 ad cy a.2) rfl hl.1 rfl (Nat.le_of_ble_eq_true rfl) dX2_gatherWith_75 (Nat.zero_le _) (Nat.zero_le _) (fun H locs hI => ?_)
  refine lv_iadd (pc := 78) hx hb dX2_gatherWith_78 ?_
  refine z_bi hf (fun v12 hf => ?_)
  refine lv_istore (pc := 79) (lv' := [(6, .int v12), (0, .ref (ad 27)), (1, .int p1), (2, .int p2), (3, .int p3), (4, .int p4), (5, .int a.1)]) hx hb dX2_gatherWith_79 hl (by decide) rfl (fun ls hl => ?_)
  refine lv_iload (pc := 81) hx hb dX2_gatherWith_81 (lv_at hl 0 rfl) ?_
  refine z_if_lt (pc := 83) (tgt := 151) hx hb dX2_gatherWith_83 (by decide) hf (fun hf => ?_) (fun hf => ?_)
  · refine lv_iinc (pc := 151) (v := (a.1 + 1)) (lv' := [(5, .int (a.1 + 1)), (6, .int v12), (0, .ref (ad 27)), (1, .int p1), (2, .int p2), (3, .int p3), (4, .int p4)]) hx hb dX2_gatherWith_151 hl (k := 6) rfl rfl (by decide) rfl (fun ls hl => ?_)
    refine lv_goto (pc := 154) (tgt := 49) hx hb dX2_gatherWith_154 (by decide) ?_
    exact hL _ (Option.some.inj hf).symm _ _ _ hI (lv_sub hl [2, 3, 4, 5, 6, 0] rfl)
  refine lv_iload (pc := 86) hx hb dX2_gatherWith_86 (lv_at hl 0 rfl) ?_
  refine lv_sipush (pc := 88) (v := 800) hx hb dX2_gatherWith_88 (by decide) ?_
  refine z_icmp_gt (pc := 91) (tgt := 151) hx hb dX2_gatherWith_91 (by decide) hf (fun hf => ?_) (fun hf => ?_)
  · refine lv_iinc (pc := 151) (v := (a.1 + 1)) (lv' := [(5, .int (a.1 + 1)), (6, .int v12), (0, .ref (ad 27)), (1, .int p1), (2, .int p2), (3, .int p3), (4, .int p4)]) hx hb dX2_gatherWith_151 hl (k := 6) rfl rfl (by decide) rfl (fun ls hl => ?_)
    refine lv_goto (pc := 154) (tgt := 49) hx hb dX2_gatherWith_154 (by decide) ?_
    exact hL _ (Option.some.inj hf).symm _ _ _ hI (lv_sub hl [2, 3, 4, 5, 6, 0] rfl)
  refine lv_aload_n (pc := 94) hx hb dX2_gatherWith_94 rfl (lv_at hl 1 rfl) ?_
  refine z_get (pc := 95) (index := 15) hx hb hts iwX2_gatherWith_2 hown hI (xl_27 ad cy a.2) rfl 4 (by decide) (by decide +kernel) rfl rfl dX2_gatherWith_95 ?_
  refine lv_iload (pc := 98) hx hb dX2_gatherWith_98 (lv_at hl 0 rfl) ?_
  refine z_lald (pc := 100) hx hb hI (xl_29 ad cy a.2) 2 rfl dX2_gatherWith_100 hf (fun v13 hf => ?_)
  refine lv_ldc2 (pc := 101) (v := -1) hx hb hown (hts (.constantLong RX2 154 (-1)) (by decide +kernel)) dX2_gatherWith_101 ?_
  refine z_lc_eq (pc := 104) (tgt := 151) hx hb dX2_gatherWith_104 dX2_gatherWith_105 (by decide) hf (fun hf => ?_) (fun hf => ?_)
  · refine lv_iinc (pc := 151) (v := (a.1 + 1)) (lv' := [(5, .int (a.1 + 1)), (6, .int v12), (0, .ref (ad 27)), (1, .int p1), (2, .int p2), (3, .int p3), (4, .int p4)]) hx hb dX2_gatherWith_151 hl (k := 6) rfl rfl (by decide) rfl (fun ls hl => ?_)
    refine lv_goto (pc := 154) (tgt := 49) hx hb dX2_gatherWith_154 (by decide) ?_
    exact hL _ (Option.some.inj hf).symm _ _ _ hI (lv_sub hl [2, 3, 4, 5, 6, 0] rfl)
  refine lv_aload_n (pc := 108) hx hb dX2_gatherWith_108 rfl (lv_at hl 1 rfl) ?_
  refine z_get (pc := 109) (index := 44) hx hb hts iwX2_gatherWith_2 hown hI (xl_27 ad cy a.2) rfl 2 (by decide) (by decide +kernel) rfl rfl dX2_gatherWith_109 ?_
  refine lv_iconst (pc := 112) (v := 3) hx hb dX2_gatherWith_112 (by decide) ?_
  refine lv_iload (pc := 113) hx hb dX2_gatherWith_113 (lv_at hl 6 rfl) ?_
  obtain ⟨q15, hc14, hf⟩ := zbind hf
  refine zcallVi (pc := 115) (As := [.int (3 : Int32), .int a.1]) (rest := []) ⟨hx, hb, hml, hown, hts⟩ (kX0_allows l D ad cy (3 : Int32) a.1 a.2 q15 hc14) (cwV 2 hts gX2_gatherWith_X0_allows rfl rfl rfl (by decide +kernel) ⟨Nat.le_of_ble_eq_true rfl, Nat.le_of_ble_eq_true rfl⟩) hI rfl (xl_23 ad cy a.2) rfl hl.1 rfl (Nat.le_of_ble_eq_true rfl) dX2_gatherWith_115 (Nat.zero_le _) (Nat.zero_le _) (fun H locs hI => ?_)
  refine z_if_eq (pc := 118) (tgt := 151) hx hb dX2_gatherWith_118 (by decide) hf (fun hf => ?_) (fun hf => ?_)
  · refine lv_iinc (pc := 151) (v := (a.1 + 1)) (lv' := [(5, .int (a.1 + 1)), (6, .int v12), (0, .ref (ad 27)), (1, .int p1), (2, .int p2), (3, .int p3), (4, .int p4)]) hx hb dX2_gatherWith_151 hl (k := 6) rfl rfl (by decide) rfl (fun ls hl => ?_)
    refine lv_goto (pc := 154) (tgt := 49) hx hb dX2_gatherWith_154 (by decide) ?_
    exact hL _ (Option.some.inj hf).symm _ _ _ hI (lv_sub hl [2, 3, 4, 5, 6, 0] rfl)
  refine lv_aload_n (pc := 121) hx hb dX2_gatherWith_121 rfl (lv_at hl 1 rfl) ?_
  refine lv_iload_n (pc := 122) hx hb dX2_gatherWith_122 rfl (lv_at hl 2 rfl) ?_
  refine lv_iload_n (pc := 123) hx hb dX2_gatherWith_123 rfl (lv_at hl 3 rfl) ?_
  refine lv_iload (pc := 124) hx hb dX2_gatherWith_124 (lv_at hl 5 rfl) ?_
  refine lv_iload (pc := 126) hx hb dX2_gatherWith_126 (lv_at hl 6 rfl) ?_
  refine lv_aload_n (pc := 128) hx hb dX2_gatherWith_128 rfl (lv_at hl 1 rfl) ?_
  refine z_get (pc := 129) (index := 15) hx hb hts iwX2_gatherWith_2 hown hI (xl_27 ad cy a.2) rfl 4 (by decide) (by decide +kernel) rfl rfl dX2_gatherWith_129 ?_
  refine lv_iload (pc := 132) hx hb dX2_gatherWith_132 (lv_at hl 0 rfl) ?_
  refine z_lald (pc := 134) hx hb hI (xl_29 ad cy a.2) 2 rfl dX2_gatherWith_134 hf (fun v16 hf => ?_)
  obtain ⟨q18, hc17, hf⟩ := zbind hf
  refine zcallVi (pc := 135) (As := [.int p1, .int p2, .int p4, .int a.1, .long v16]) (rest := []) ⟨hx, hb, hml, hown, hts⟩ (kX2_allHolesAreNear l D ad cy p1 p2 p4 a.1 v16 a.2 q18 hc17) (cwV 5 hts gX2_gatherWith_X2_allHolesAreNear rfl rfl rfl (by decide +kernel) ⟨Nat.le_of_ble_eq_true rfl, Nat.le_of_ble_eq_true rfl⟩) hI rfl (xl_27 ad cy a.2) rfl hl.1 rfl (Nat.le_of_ble_eq_true rfl) dX2_gatherWith_135 (Nat.zero_le _) (Nat.zero_le _) (fun H locs hI => ?_)
  refine z_if_eq (pc := 138) (tgt := 151) hx hb dX2_gatherWith_138 (by decide) hf (fun hf => ?_) (fun hf => ?_)
  · refine lv_iinc (pc := 151) (v := (a.1 + 1)) (lv' := [(5, .int (a.1 + 1)), (6, .int v12), (0, .ref (ad 27)), (1, .int p1), (2, .int p2), (3, .int p3), (4, .int p4)]) hx hb dX2_gatherWith_151 hl (k := 6) rfl rfl (by decide) rfl (fun ls hl => ?_)
    refine lv_goto (pc := 154) (tgt := 49) hx hb dX2_gatherWith_154 (by decide) ?_
    exact hL _ (Option.some.inj hf).symm _ _ _ hI (lv_sub hl [2, 3, 4, 5, 6, 0] rfl)
  refine lv_aload_n (pc := 141) hx hb dX2_gatherWith_141 rfl (lv_at hl 1 rfl) ?_
  refine lv_iload_n (pc := 142) hx hb dX2_gatherWith_142 rfl (lv_at hl 2 rfl) ?_
  refine lv_iload_n (pc := 143) hx hb dX2_gatherWith_143 rfl (lv_at hl 3 rfl) ?_
  refine lv_iload (pc := 144) hx hb dX2_gatherWith_144 (lv_at hl 5 rfl) ?_
  refine lv_iload (pc := 146) hx hb dX2_gatherWith_146 (lv_at hl 6 rfl) ?_
  obtain ⟨q20, hc19, hf⟩ := zbind hf
  refine zcallVv (pc := 148) (As := [.int p1, .int p2, .int p4, .int a.1]) (rest := []) ⟨hx, hb, hml, hown, hts⟩ (kX2_keep l D ad cy p1 p2 p4 a.1 a.2 q20 hc19) (cwV 4 hts gX2_gatherWith_X2_keep rfl rfl rfl (by decide +kernel) ⟨Nat.le_of_ble_eq_true rfl, Nat.le_of_ble_eq_true rfl⟩) hI rfl (xl_27 ad cy a.2) rfl hl.1 rfl (Nat.le_of_ble_eq_true rfl) dX2_gatherWith_148 (Nat.zero_le _) (Nat.zero_le _) (fun H locs hI => ?_)
  refine lv_iinc (pc := 151) (v := (a.1 + 1)) (lv' := [(5, .int (a.1 + 1)), (6, .int v12), (0, .ref (ad 27)), (1, .int p1), (2, .int p2), (3, .int p3), (4, .int p4)]) hx hb dX2_gatherWith_151 hl (k := 6) rfl rfl (by decide) rfl (fun ls hl => ?_)
  refine lv_goto (pc := 154) (tgt := 49) hx hb dX2_gatherWith_154 (by decide) ?_
  exact hL _ (Option.some.inj hf).symm _ _ _ hI (lv_sub hl [2, 3, 4, 5, 6, 0] rfl)
set_option maxHeartbeats 4000000 in
set_option maxRecDepth 100000 in
theorem lX2_gatherWith_23 (C0 : zFix p m c cX2_gatherWith 7 s args wsX2_gatherWith RX2 meth none) {k : Nat} {p1 : Int32} {p2 : Int32} {p3 : Int32} {a : Int32 × CX} {b : CX} (hit : ziter (bX2_gatherWith_23 k p1 p2 p3) k a = some b) (hx9 : (fun (b : CX) => ∀ (H : Heap) (locs : List Loc) (ls : Array Slot), zIn D ad cy (WX ad cy b) A s H locs → lv_has ls 7 [] → W p l e ({ frames := 3, cells := 0, slots := 0, locals := 76 } : Room) s m args below meth c H locs 0 0 Q (F0 m 163 ls [])) b) : (fun (a : Int32 × CX) => ∀ (H : Heap) (locs : List Loc) (ls : Array Slot), zIn D ad cy (WX ad cy a.2) A s H locs → lv_has ls 7 [(0, .ref (ad 27)), (1, .int p1), (2, .int p2), (3, .int p3), (4, .int a.1)] → W p l e ({ frames := 3, cells := 0, slots := 0, locals := 76 } : Room) s m args below meth c H locs 0 0 Q (F0 m 23 ls [])) a := by
  obtain ⟨hx, hb, hml, hown, hts, hr, hlk⟩ := id C0
  refine zloop (Wh := (fun (a : Int32 × CX) => ∀ (H : Heap) (locs : List Loc) (ls : Array Slot), zIn D ad cy (WX ad cy a.2) A s H locs → lv_has ls 7 [(0, .ref (ad 27)), (1, .int p1), (2, .int p2), (3, .int p3), (4, .int a.1)] → W p l e ({ frames := 3, cells := 0, slots := 0, locals := 76 } : Room) s m args below meth c H locs 0 0 Q (F0 m 23 ls []))) (Wx := (fun (b : CX) => ∀ (H : Heap) (locs : List Loc) (ls : Array Slot), zIn D ad cy (WX ad cy b) A s H locs → lv_has ls 7 [] → W p l e ({ frames := 3, cells := 0, slots := 0, locals := 76 } : Room) s m args below meth c H locs 0 0 Q (F0 m 163 ls []))) ?_ _ a b hit hx9
  intro a x hf hL hX H locs ls hI hl
  unfold bX2_gatherWith_23 at hf
  refine lv_iload (pc := 23) hx hb dX2_gatherWith_23 (lv_at hl 4 rfl) ?_
  refine lv_bipush (pc := 25) (v := 10) hx hb dX2_gatherWith_25 (by decide) ?_
  refine z_icmp_gt (pc := 27) (tgt := 163) hx hb dX2_gatherWith_27 (by decide) hf (fun hf => ?_) (fun hf => ?_)
  · exact (hX _ (Option.some.inj hf).symm) _ _ _ hI (lv_sub hl [] rfl)
  refine lv_aload_n (pc := 30) hx hb dX2_gatherWith_30 rfl (lv_at hl 0 rfl) ?_
  refine z_get (pc := 31) (index := 44) hx hb hts iwX2_gatherWith_2 hown hI (xl_27 ad cy a.2) rfl 2 (by decide) (by decide +kernel) rfl rfl dX2_gatherWith_31 ?_
  refine lv_iconst (pc := 34) (v := 2) hx hb dX2_gatherWith_34 (by decide) ?_
  refine lv_iload (pc := 35) hx hb dX2_gatherWith_35 (lv_at hl 4 rfl) ?_
  obtain ⟨q7, hc6, hf⟩ := zbind hf
  refine zcallVi (pc := 37) (As := [.int (2 : Int32), .int a.1]) (rest := []) ⟨hx, hb, hml, hown, hts⟩ (kX0_allows l D ad cy (2 : Int32) a.1 a.2 q7 hc6) (cwV 2 hts gX2_gatherWith_X0_allows rfl rfl rfl (by decide +kernel) ⟨Nat.le_of_ble_eq_true rfl, Nat.le_of_ble_eq_true rfl⟩) hI rfl (xl_23 ad cy a.2) rfl hl.1 rfl (Nat.le_of_ble_eq_true rfl) dX2_gatherWith_37 (Nat.zero_le _) (Nat.zero_le _) (fun H locs hI => ?_)
  refine z_if_ne (pc := 40) (tgt := 46) hx hb dX2_gatherWith_40 (by decide) hf (fun hf => ?_) (fun hf => ?_)
  · refine lv_iconst (pc := 46) (v := 0) hx hb dX2_gatherWith_46 (by decide) ?_
    refine lv_istore (pc := 47) (lv' := [(5, .int (0 : Int32)), (0, .ref (ad 27)), (1, .int p1), (2, .int p2), (3, .int p3), (4, .int a.1)]) hx hb dX2_gatherWith_47 hl (by decide) rfl (fun ls hl => ?_)
    obtain ⟨b21, hb22, hf⟩ := zbind hf
    refine lX2_gatherWith_49 C0 hb22 ?_ _ _ _ hI (lv_sub hl [1, 2, 3, 4, 5, 0] rfl)
    intro H locs ls hI hl
    refine lv_iinc (pc := 157) (v := (a.1 + 1)) (lv' := [(4, .int (a.1 + 1)), (0, .ref (ad 27)), (1, .int p1), (2, .int p2), (3, .int p3)]) hx hb dX2_gatherWith_157 hl (k := 4) rfl rfl (by decide) rfl (fun ls hl => ?_)
    refine lv_goto (pc := 160) (tgt := 23) hx hb dX2_gatherWith_160 (by decide) ?_
    exact hL _ (Option.some.inj hf).symm _ _ _ hI (lv_sub hl [1, 2, 3, 4, 0] rfl)
  refine lv_goto (pc := 43) (tgt := 157) hx hb dX2_gatherWith_43 (by decide) ?_
  refine lv_iinc (pc := 157) (v := (a.1 + 1)) (lv' := [(4, .int (a.1 + 1)), (0, .ref (ad 27)), (1, .int p1), (2, .int p2), (3, .int p3)]) hx hb dX2_gatherWith_157 hl (k := 4) rfl rfl (by decide) rfl (fun ls hl => ?_)
  refine lv_goto (pc := 160) (tgt := 23) hx hb dX2_gatherWith_160 (by decide) ?_
  exact hL _ (Option.some.inj hf).symm _ _ _ hI (lv_sub hl [1, 2, 3, 4, 0] rfl)
set_option maxHeartbeats 4000000 in
set_option maxRecDepth 100000 in
theorem kX2_gatherWith (l : Launch) (D : va_G) (ad : Nat → Nat) (cy : Nat → ClassId) (k : Nat) (a1 : Int32) (a2 : Int32) (u : CX) (u' : CX) (hf : fX2_gatherWith k a1 a2 u = some u') : zCt l yX2_gatherWith wsX2_gatherWith ({ frames := 3, cells := 0, slots := 0, locals := 76 } : Room) D ad cy [.ref (ad 27), .int a1, .int a2] (WX ad cy u) none (WX ad cy u') := by
  refine zCt.of (cc := cX2_gatherWith) (maxL := 7) (ret := none) (own := RX2) (by decide) rfl rfl ?_
  intro p e s m below meth c A C0 hI
  obtain ⟨hx, hb, hml, hown, hts, hr, hlk⟩ := id C0
  refine z_entry (Nat.le_of_ble_eq_true rfl) (fun ls hl => ?_)
  have hl : lv_has ls 7 [(0, .ref (ad 27)), (1, .int a1), (2, .int a2)] := hl
  unfold fX2_gatherWith at hf
  refine lv_aload_n (pc := 0) hx hb dX2_gatherWith_0 rfl (lv_at hl 0 rfl) ?_
  refine z_get (pc := 1) (index := 36) hx hb hts iwX2_gatherWith_2 hown hI (xl_27 ad cy u) rfl 0 (by decide) (by decide +kernel) rfl rfl dX2_gatherWith_1 ?_
  refine lv_iconst (pc := 4) (v := 0) hx hb dX2_gatherWith_4 (by decide) ?_
  refine lv_iload_n (pc := 5) hx hb dX2_gatherWith_5 rfl (lv_at hl 1 rfl) ?_
  obtain ⟨q2, hc1, hf⟩ := zbind hf
  refine zcallVi (pc := 6) (As := [.int (0 : Int32), .int a1]) (rest := []) ⟨hx, hb, hml, hown, hts⟩ (kX8_partStand l D ad cy (0 : Int32) a1 u q2 hc1) (cwV 2 hts gX2_gatherWith_X8_partStand rfl rfl rfl (by decide +kernel) ⟨Nat.le_of_ble_eq_true rfl, Nat.le_of_ble_eq_true rfl⟩) hI rfl (xl_1 ad cy u) rfl hl.1 rfl (Nat.le_of_ble_eq_true rfl) dX2_gatherWith_6 (Nat.zero_le _) (Nat.zero_le _) (fun H locs hI => ?_)
  refine lv_aload_n (pc := 9) hx hb dX2_gatherWith_9 rfl (lv_at hl 0 rfl) ?_
  refine z_get (pc := 10) (index := 36) hx hb hts iwX2_gatherWith_2 hown hI (xl_27 ad cy u) rfl 0 (by decide) (by decide +kernel) rfl rfl dX2_gatherWith_10 ?_
  refine lv_iconst (pc := 13) (v := 1) hx hb dX2_gatherWith_13 (by decide) ?_
  refine lv_iload_n (pc := 14) hx hb dX2_gatherWith_14 rfl (lv_at hl 2 rfl) ?_
  obtain ⟨q4, hc3, hf⟩ := zbind hf
  refine zcallVi (pc := 15) (As := [.int (1 : Int32), .int a2]) (rest := [.int q2]) ⟨hx, hb, hml, hown, hts⟩ (kX8_partStand l D ad cy (1 : Int32) a2 u q4 hc3) (cwV 2 hts gX2_gatherWith_X8_partStand rfl rfl rfl (by decide +kernel) ⟨Nat.le_of_ble_eq_true rfl, Nat.le_of_ble_eq_true rfl⟩) hI rfl (xl_1 ad cy u) rfl hl.1 rfl (Nat.le_of_ble_eq_true rfl) dX2_gatherWith_15 (Nat.zero_le _) (Nat.zero_le _) (fun H locs hI => ?_)
  refine lv_iadd (pc := 18) hx hb dX2_gatherWith_18 ?_
  refine z_bi hf (fun v5 hf => ?_)
  refine lv_istore_n (pc := 19) (lv' := [(3, .int v5), (0, .ref (ad 27)), (1, .int a1), (2, .int a2)]) hx hb dX2_gatherWith_19 rfl hl (by decide) rfl (fun ls hl => ?_)
  refine lv_iconst (pc := 20) (v := 0) hx hb dX2_gatherWith_20 (by decide) ?_
  refine lv_istore (pc := 21) (lv' := [(4, .int (0 : Int32)), (3, .int v5), (0, .ref (ad 27)), (1, .int a1), (2, .int a2)]) hx hb dX2_gatherWith_21 hl (by decide) rfl (fun ls hl => ?_)
  obtain ⟨b23, hb24, hf⟩ := zbind hf
  refine lX2_gatherWith_23 C0 hb24 ?_ _ _ _ hI (lv_sub hl [2, 3, 4, 1, 0] rfl)
  intro H locs ls hI hl
  cases hf
  exact z_vret (pc := 163) C0 hI dX2_gatherWith_163
set_option maxHeartbeats 4000000 in
set_option maxRecDepth 100000 in
theorem lX2_gather_14 (C0 : zFix p m c cX2_gather 3 s args wsX2_gather RX2 meth none) {k : Nat} {p1 : Int32} {a : Int32 × CX} {b : CX} (hit : ziter (bX2_gather_14 k p1) k a = some b) (hx9 : (fun (b : CX) => ∀ (H : Heap) (locs : List Loc) (ls : Array Slot), zIn D ad cy (WX ad cy b) A s H locs → lv_has ls 3 [(0, .ref (ad 27)), (1, .int p1)] → W p l e ({ frames := 4, cells := 0, slots := 0, locals := 102 } : Room) s m args below meth c H locs 0 0 Q (F0 m 56 ls [])) b) : (fun (a : Int32 × CX) => ∀ (H : Heap) (locs : List Loc) (ls : Array Slot), zIn D ad cy (WX ad cy a.2) A s H locs → lv_has ls 3 [(0, .ref (ad 27)), (1, .int p1), (2, .int a.1)] → W p l e ({ frames := 4, cells := 0, slots := 0, locals := 102 } : Room) s m args below meth c H locs 0 0 Q (F0 m 14 ls [])) a := by
  obtain ⟨hx, hb, hml, hown, hts, hr, hlk⟩ := id C0
  refine zloop (Wh := (fun (a : Int32 × CX) => ∀ (H : Heap) (locs : List Loc) (ls : Array Slot), zIn D ad cy (WX ad cy a.2) A s H locs → lv_has ls 3 [(0, .ref (ad 27)), (1, .int p1), (2, .int a.1)] → W p l e ({ frames := 4, cells := 0, slots := 0, locals := 102 } : Room) s m args below meth c H locs 0 0 Q (F0 m 14 ls []))) (Wx := (fun (b : CX) => ∀ (H : Heap) (locs : List Loc) (ls : Array Slot), zIn D ad cy (WX ad cy b) A s H locs → lv_has ls 3 [(0, .ref (ad 27)), (1, .int p1)] → W p l e ({ frames := 4, cells := 0, slots := 0, locals := 102 } : Room) s m args below meth c H locs 0 0 Q (F0 m 56 ls []))) ?_ _ a b hit hx9
  intro a x hf hL hX H locs ls hI hl
  unfold bX2_gather_14 at hf
  refine lv_iload_n (pc := 14) hx hb dX2_gather_14 rfl (lv_at hl 2 rfl) ?_
  refine lv_bipush (pc := 15) (v := 10) hx hb dX2_gather_15 (by decide) ?_
  refine z_icmp_gt (pc := 17) (tgt := 56) hx hb dX2_gather_17 (by decide) hf (fun hf => ?_) (fun hf => ?_)
  · exact (hX _ (Option.some.inj hf).symm) _ _ _ hI (lv_sub hl [0, 1] rfl)
  refine lv_aload_n (pc := 20) hx hb dX2_gather_20 rfl (lv_at hl 0 rfl) ?_
  refine z_get (pc := 21) (index := 44) hx hb hts iwX2_gather_2 hown hI (xl_27 ad cy a.2) rfl 2 (by decide) (by decide +kernel) rfl rfl dX2_gather_21 ?_
  refine lv_iconst (pc := 24) (v := 0) hx hb dX2_gather_24 (by decide) ?_
  refine lv_iload_n (pc := 25) hx hb dX2_gather_25 rfl (lv_at hl 1 rfl) ?_
  obtain ⟨q4, hc3, hf⟩ := zbind hf
  refine zcallVi (pc := 26) (As := [.int (0 : Int32), .int p1]) (rest := []) ⟨hx, hb, hml, hown, hts⟩ (kX0_allows l D ad cy (0 : Int32) p1 a.2 q4 hc3) (cwV 2 hts gX2_gather_X0_allows rfl rfl rfl (by decide +kernel) ⟨Nat.le_of_ble_eq_true rfl, Nat.le_of_ble_eq_true rfl⟩) hI rfl (xl_23 ad cy a.2) rfl hl.1 rfl (Nat.le_of_ble_eq_true rfl) dX2_gather_26 (Nat.zero_le _) (Nat.zero_le _) (fun H locs hI => ?_)
  refine z_if_eq (pc := 29) (tgt := 50) hx hb dX2_gather_29 (by decide) hf (fun hf => ?_) (fun hf => ?_)
  · refine lv_iinc (pc := 50) (v := (a.1 + 1)) (lv' := [(2, .int (a.1 + 1)), (0, .ref (ad 27)), (1, .int p1)]) hx hb dX2_gather_50 hl (k := 2) rfl rfl (by decide) rfl (fun ls hl => ?_)
    refine lv_goto (pc := 53) (tgt := 14) hx hb dX2_gather_53 (by decide) ?_
    exact hL _ (Option.some.inj hf).symm _ _ _ hI (lv_sub hl [1, 2, 0] rfl)
  refine lv_aload_n (pc := 32) hx hb dX2_gather_32 rfl (lv_at hl 0 rfl) ?_
  refine z_get (pc := 33) (index := 44) hx hb hts iwX2_gather_2 hown hI (xl_27 ad cy a.2) rfl 2 (by decide) (by decide +kernel) rfl rfl dX2_gather_33 ?_
  refine lv_iconst (pc := 36) (v := 1) hx hb dX2_gather_36 (by decide) ?_
  refine lv_iload_n (pc := 37) hx hb dX2_gather_37 rfl (lv_at hl 2 rfl) ?_
  obtain ⟨q6, hc5, hf⟩ := zbind hf
  refine zcallVi (pc := 38) (As := [.int (1 : Int32), .int a.1]) (rest := []) ⟨hx, hb, hml, hown, hts⟩ (kX0_allows l D ad cy (1 : Int32) a.1 a.2 q6 hc5) (cwV 2 hts gX2_gather_X0_allows rfl rfl rfl (by decide +kernel) ⟨Nat.le_of_ble_eq_true rfl, Nat.le_of_ble_eq_true rfl⟩) hI rfl (xl_23 ad cy a.2) rfl hl.1 rfl (Nat.le_of_ble_eq_true rfl) dX2_gather_38 (Nat.zero_le _) (Nat.zero_le _) (fun H locs hI => ?_)
  refine z_if_eq (pc := 41) (tgt := 50) hx hb dX2_gather_41 (by decide) hf (fun hf => ?_) (fun hf => ?_)
  · refine lv_iinc (pc := 50) (v := (a.1 + 1)) (lv' := [(2, .int (a.1 + 1)), (0, .ref (ad 27)), (1, .int p1)]) hx hb dX2_gather_50 hl (k := 2) rfl rfl (by decide) rfl (fun ls hl => ?_)
    refine lv_goto (pc := 53) (tgt := 14) hx hb dX2_gather_53 (by decide) ?_
    exact hL _ (Option.some.inj hf).symm _ _ _ hI (lv_sub hl [1, 2, 0] rfl)
  refine lv_aload_n (pc := 44) hx hb dX2_gather_44 rfl (lv_at hl 0 rfl) ?_
  refine lv_iload_n (pc := 45) hx hb dX2_gather_45 rfl (lv_at hl 1 rfl) ?_
  refine lv_iload_n (pc := 46) hx hb dX2_gather_46 rfl (lv_at hl 2 rfl) ?_
  obtain ⟨q8, hc7, hf⟩ := zbind hf
  refine zcallVv (pc := 47) (As := [.int p1, .int a.1]) (rest := []) ⟨hx, hb, hml, hown, hts⟩ (kX2_gatherWith l D ad cy k p1 a.1 a.2 q8 hc7) (cwV 2 hts gX2_gather_X2_gatherWith rfl rfl rfl (by decide +kernel) ⟨Nat.le_of_ble_eq_true rfl, Nat.le_of_ble_eq_true rfl⟩) hI rfl (xl_27 ad cy a.2) rfl hl.1 rfl (Nat.le_of_ble_eq_true rfl) dX2_gather_47 (Nat.zero_le _) (Nat.zero_le _) (fun H locs hI => ?_)
  refine lv_iinc (pc := 50) (v := (a.1 + 1)) (lv' := [(2, .int (a.1 + 1)), (0, .ref (ad 27)), (1, .int p1)]) hx hb dX2_gather_50 hl (k := 2) rfl rfl (by decide) rfl (fun ls hl => ?_)
  refine lv_goto (pc := 53) (tgt := 14) hx hb dX2_gather_53 (by decide) ?_
  exact hL _ (Option.some.inj hf).symm _ _ _ hI (lv_sub hl [1, 2, 0] rfl)
set_option maxHeartbeats 4000000 in
set_option maxRecDepth 100000 in
theorem lX2_gather_6 (C0 : zFix p m c cX2_gather 3 s args wsX2_gather RX2 meth none) {k : Nat} {a : Int32 × CX} {b : CX} (hit : ziter (bX2_gather_6 k) k a = some b) (hx9 : (fun (b : CX) => ∀ (H : Heap) (locs : List Loc) (ls : Array Slot), zIn D ad cy (WX ad cy b) A s H locs → lv_has ls 3 [] → W p l e ({ frames := 4, cells := 0, slots := 0, locals := 102 } : Room) s m args below meth c H locs 0 0 Q (F0 m 62 ls [])) b) : (fun (a : Int32 × CX) => ∀ (H : Heap) (locs : List Loc) (ls : Array Slot), zIn D ad cy (WX ad cy a.2) A s H locs → lv_has ls 3 [(0, .ref (ad 27)), (1, .int a.1)] → W p l e ({ frames := 4, cells := 0, slots := 0, locals := 102 } : Room) s m args below meth c H locs 0 0 Q (F0 m 6 ls [])) a := by
  obtain ⟨hx, hb, hml, hown, hts, hr, hlk⟩ := id C0
  refine zloop (Wh := (fun (a : Int32 × CX) => ∀ (H : Heap) (locs : List Loc) (ls : Array Slot), zIn D ad cy (WX ad cy a.2) A s H locs → lv_has ls 3 [(0, .ref (ad 27)), (1, .int a.1)] → W p l e ({ frames := 4, cells := 0, slots := 0, locals := 102 } : Room) s m args below meth c H locs 0 0 Q (F0 m 6 ls []))) (Wx := (fun (b : CX) => ∀ (H : Heap) (locs : List Loc) (ls : Array Slot), zIn D ad cy (WX ad cy b) A s H locs → lv_has ls 3 [] → W p l e ({ frames := 4, cells := 0, slots := 0, locals := 102 } : Room) s m args below meth c H locs 0 0 Q (F0 m 62 ls []))) ?_ _ a b hit hx9
  intro a x hf hL hX H locs ls hI hl
  unfold bX2_gather_6 at hf
  refine lv_iload_n (pc := 6) hx hb dX2_gather_6 rfl (lv_at hl 1 rfl) ?_
  refine lv_bipush (pc := 7) (v := 10) hx hb dX2_gather_7 (by decide) ?_
  refine z_icmp_gt (pc := 9) (tgt := 62) hx hb dX2_gather_9 (by decide) hf (fun hf => ?_) (fun hf => ?_)
  · exact (hX _ (Option.some.inj hf).symm) _ _ _ hI (lv_sub hl [] rfl)
  refine lv_iconst (pc := 12) (v := 0) hx hb dX2_gather_12 (by decide) ?_
  refine lv_istore_n (pc := 13) (lv' := [(2, .int (0 : Int32)), (0, .ref (ad 27)), (1, .int a.1)]) hx hb dX2_gather_13 rfl hl (by decide) rfl (fun ls hl => ?_)
  obtain ⟨b9, hb10, hf⟩ := zbind hf
  refine lX2_gather_14 C0 hb10 ?_ _ _ _ hI (lv_sub hl [1, 2, 0] rfl)
  intro H locs ls hI hl
  refine lv_iinc (pc := 56) (v := (a.1 + 1)) (lv' := [(1, .int (a.1 + 1)), (0, .ref (ad 27))]) hx hb dX2_gather_56 hl (k := 1) rfl rfl (by decide) rfl (fun ls hl => ?_)
  refine lv_goto (pc := 59) (tgt := 6) hx hb dX2_gather_59 (by decide) ?_
  exact hL _ (Option.some.inj hf).symm _ _ _ hI (lv_sub hl [1, 0] rfl)
set_option maxHeartbeats 4000000 in
set_option maxRecDepth 100000 in
theorem kX2_gather (l : Launch) (D : va_G) (ad : Nat → Nat) (cy : Nat → ClassId) (k : Nat) (u : CX) (u' : CX) (hf : fX2_gather k u = some u') : zCt l yX2_gather wsX2_gather ({ frames := 4, cells := 0, slots := 0, locals := 102 } : Room) D ad cy [.ref (ad 27)] (WX ad cy u) none (WX ad cy u') := by
  refine zCt.of (cc := cX2_gather) (maxL := 3) (ret := none) (own := RX2) (by decide) rfl rfl ?_
  intro p e s m below meth c A C0 hI
  obtain ⟨hx, hb, hml, hown, hts, hr, hlk⟩ := id C0
  refine z_entry (Nat.le_of_ble_eq_true rfl) (fun ls hl => ?_)
  have hl : lv_has ls 3 [(0, .ref (ad 27))] := hl
  unfold fX2_gather at hf
  refine lv_aload_n (pc := 0) hx hb dX2_gather_0 rfl (lv_at hl 0 rfl) ?_
  obtain ⟨q2, hc1, hf⟩ := zbind hf
  refine zcallVv (pc := 1) (As := []) (rest := []) ⟨hx, hb, hml, hown, hts⟩ (kX2_keepNone l D ad cy k u q2 hc1) (cwV 0 hts gX2_gather_X2_keepNone rfl rfl rfl (by decide +kernel) ⟨Nat.le_of_ble_eq_true rfl, Nat.le_of_ble_eq_true rfl⟩) hI rfl (xl_27 ad cy u) rfl hl.1 rfl (Nat.le_of_ble_eq_true rfl) dX2_gather_1 (Nat.zero_le _) (Nat.zero_le _) (fun H locs hI => ?_)
  refine lv_iconst (pc := 4) (v := 0) hx hb dX2_gather_4 (by decide) ?_
  refine lv_istore_n (pc := 5) (lv' := [(1, .int (0 : Int32)), (0, .ref (ad 27))]) hx hb dX2_gather_5 rfl hl (by decide) rfl (fun ls hl => ?_)
  obtain ⟨b11, hb12, hf⟩ := zbind hf
  refine lX2_gather_6 C0 hb12 ?_ _ _ _ hI (lv_sub hl [1, 0] rfl)
  intro H locs ls hI hl
  cases hf
  exact z_vret (pc := 62) C0 hI dX2_gather_62
set_option maxHeartbeats 4000000 in
set_option maxRecDepth 100000 in
theorem kX2_fitting (l : Launch) (D : va_G) (ad : Nat → Nat) (cy : Nat → ClassId) (k : Nat) (u : CX) (r : Int32) (u' : CX) (hf : fX2_fitting k u = some (r, u')) : zCt l yX2_fitting wsX2_fitting ({ frames := 5, cells := 0, slots := 0, locals := 124 } : Room) D ad cy [.ref (ad 27)] (WX ad cy u) (some (.int r)) (WX ad cy u') := by
  refine zCt.of (cc := cX2_fitting) (maxL := 1) (ret := (some .int)) (own := RX2) (by decide) rfl rfl ?_
  intro p e s m below meth c A C0 hI
  obtain ⟨hx, hb, hml, hown, hts, hr, hlk⟩ := id C0
  refine z_entry (Nat.le_of_ble_eq_true rfl) (fun ls hl => ?_)
  have hl : lv_has ls 1 [(0, .ref (ad 27))] := hl
  unfold fX2_fitting at hf
  refine lv_aload_n (pc := 0) hx hb dX2_fitting_0 rfl (lv_at hl 0 rfl) ?_
  refine z_get (pc := 1) (index := 25) hx hb hts iwX2_fitting_2 hown hI (xl_27 ad cy u) rfl 10 (by decide) (by decide +kernel) rfl rfl dX2_fitting_1 ?_
  refine z_if_eq (pc := 4) (tgt := 20) hx hb dX2_fitting_4 (by decide) hf (fun hf => ?_) (fun hf => ?_)
  · refine lv_aload_n (pc := 20) hx hb dX2_fitting_20 rfl (lv_at hl 0 rfl) ?_
    refine z_get (pc := 21) (index := 81) hx hb hts iwX2_fitting_2 hown hI (xl_27 ad cy u) rfl 7 (by decide) (by decide +kernel) rfl rfl dX2_fitting_21 ?_
    cases hf
    exact z_iret (pc := 24) C0 hI dX2_fitting_24
  refine lv_aload_n (pc := 7) hx hb dX2_fitting_7 rfl (lv_at hl 0 rfl) ?_
  obtain ⟨q2, hc1, hf⟩ := zbind hf
  refine zcallVv (pc := 8) (As := []) (rest := []) ⟨hx, hb, hml, hown, hts⟩ (kX2_settleStands l D ad cy k u q2 hc1) (cwV 0 hts gX2_fitting_X2_settleStands rfl rfl rfl (by decide +kernel) ⟨Nat.le_of_ble_eq_true rfl, Nat.le_of_ble_eq_true rfl⟩) hI rfl (xl_27 ad cy u) rfl hl.1 rfl (Nat.le_of_ble_eq_true rfl) dX2_fitting_8 (Nat.zero_le _) (Nat.zero_le _) (fun H locs hI => ?_)
  refine lv_aload_n (pc := 11) hx hb dX2_fitting_11 rfl (lv_at hl 0 rfl) ?_
  obtain ⟨q4, hc3, hf⟩ := zbind hf
  refine zcallVv (pc := 12) (As := []) (rest := []) ⟨hx, hb, hml, hown, hts⟩ (kX2_gather l D ad cy k q2 q4 hc3) (cwV 0 hts gX2_fitting_X2_gather rfl rfl rfl (by decide +kernel) ⟨Nat.le_of_ble_eq_true rfl, Nat.le_of_ble_eq_true rfl⟩) hI rfl (xl_27 ad cy q2) rfl hl.1 rfl (Nat.le_of_ble_eq_true rfl) dX2_fitting_12 (Nat.zero_le _) (Nat.zero_le _) (fun H locs hI => ?_)
  refine lv_aload_n (pc := 15) hx hb dX2_fitting_15 rfl (lv_at hl 0 rfl) ?_
  refine lv_iconst (pc := 16) (v := 0) hx hb dX2_fitting_16 (by decide) ?_
  refine z_put (wf := WX ad cy) (pc := 17) (index := 25) hx hb hts iwX2_fitting_2 tyX2 tyX2_ok nmX2 hown hI (xl_27 ad cy q4) rfl 10 (by decide) (by decide +kernel) rfl rfl rfl rfl (Nat.le_of_ble_eq_true rfl) dX2_fitting_17 (xw_stale ad cy q4 (0 : Int32)) hf (fun u5 H locs hI hf => ?_)
  refine lv_aload_n (pc := 20) hx hb dX2_fitting_20 rfl (lv_at hl 0 rfl) ?_
  refine z_get (pc := 21) (index := 81) hx hb hts iwX2_fitting_2 hown hI (xl_27 ad cy u5) rfl 7 (by decide) (by decide +kernel) rfl rfl dX2_fitting_21 ?_
  cases hf
  exact z_iret (pc := 24) C0 hI dX2_fitting_24
set_option maxHeartbeats 4000000 in
set_option maxRecDepth 100000 in
theorem kX2_withFalls (l : Launch) (D : va_G) (ad : Nat → Nat) (cy : Nat → ClassId) (a1 : Int32) (a2 : Int32) (u : CX) (r : Int32) (hf : fX2_withFalls a1 a2 u = some r) : zCt l yX2_withFalls wsX2_withFalls ({ frames := 0, cells := 0, slots := 0, locals := 0 } : Room) D ad cy [.ref (ad 27), .int a1, .int a2] (WX ad cy u) (some (.int r)) (WX ad cy u) := by
  refine zCt.of (cc := cX2_withFalls) (maxL := 3) (ret := (some .int)) (own := RX2) (by decide) rfl rfl ?_
  intro p e s m below meth c A C0 hI
  obtain ⟨hx, hb, hml, hown, hts, hr, hlk⟩ := id C0
  refine z_entry (Nat.le_of_ble_eq_true rfl) (fun ls hl => ?_)
  have hl : lv_has ls 3 [(0, .ref (ad 27)), (1, .int a1), (2, .int a2)] := hl
  unfold fX2_withFalls at hf
  refine lv_aload_n (pc := 0) hx hb dX2_withFalls_0 rfl (lv_at hl 0 rfl) ?_
  refine z_get (pc := 1) (index := 19) hx hb hts iwX2_withFalls_2 hown hI (xl_27 ad cy u) rfl 5 (by decide) (by decide +kernel) rfl rfl dX2_withFalls_1 ?_
  refine lv_bipush (pc := 4) (v := 11) hx hb dX2_withFalls_4 (by decide) ?_
  refine lv_iload_n (pc := 6) hx hb dX2_withFalls_6 rfl (lv_at hl 1 rfl) ?_
  refine lv_imul (pc := 7) hx hb dX2_withFalls_7 ?_
  refine lv_iload_n (pc := 8) hx hb dX2_withFalls_8 rfl (lv_at hl 2 rfl) ?_
  refine lv_iadd (pc := 9) hx hb dX2_withFalls_9 ?_
  refine z_iald (pc := 10) hx hb hI (xl_30 ad cy u) 0 rfl dX2_withFalls_10 hf (fun v1 hf => ?_)
  cases hf
  exact z_iret (pc := 11) C0 hI dX2_withFalls_11
set_option maxHeartbeats 4000000 in
set_option maxRecDepth 100000 in
theorem lX2_leftBy_6 (C0 : zFix p m c cX2_leftBy 6 s args wsX2_leftBy RX2 meth (some .int)) {k : Nat} {p1 : Int32} {p2 : Int32} {p3 : Int32} {u : CX} {a : Int32 × Int32} {b : Int32} (hit : ziter (bX2_leftBy_6 k p1 p2 p3 u) k a = some b) (hx9 : (fun (b : Int32) => ∀ (H : Heap) (locs : List Loc) (ls : Array Slot), zIn D ad cy (WX ad cy u) A s H locs → lv_has ls 6 [(4, .int b)] → W p l e ({ frames := 2, cells := 0, slots := 0, locals := 43 } : Room) s m args below meth c H locs 0 0 Q (F0 m 45 ls [])) b) : (fun (a : Int32 × Int32) => ∀ (H : Heap) (locs : List Loc) (ls : Array Slot), zIn D ad cy (WX ad cy u) A s H locs → lv_has ls 6 [(0, .ref (ad 27)), (1, .int p1), (2, .int p2), (3, .int p3), (4, .int a.1), (5, .int a.2)] → W p l e ({ frames := 2, cells := 0, slots := 0, locals := 43 } : Room) s m args below meth c H locs 0 0 Q (F0 m 6 ls [])) a := by
  obtain ⟨hx, hb, hml, hown, hts, hr, hlk⟩ := id C0
  refine zloop (Wh := (fun (a : Int32 × Int32) => ∀ (H : Heap) (locs : List Loc) (ls : Array Slot), zIn D ad cy (WX ad cy u) A s H locs → lv_has ls 6 [(0, .ref (ad 27)), (1, .int p1), (2, .int p2), (3, .int p3), (4, .int a.1), (5, .int a.2)] → W p l e ({ frames := 2, cells := 0, slots := 0, locals := 43 } : Room) s m args below meth c H locs 0 0 Q (F0 m 6 ls []))) (Wx := (fun (b : Int32) => ∀ (H : Heap) (locs : List Loc) (ls : Array Slot), zIn D ad cy (WX ad cy u) A s H locs → lv_has ls 6 [(4, .int b)] → W p l e ({ frames := 2, cells := 0, slots := 0, locals := 43 } : Room) s m args below meth c H locs 0 0 Q (F0 m 45 ls []))) ?_ _ a b hit hx9
  intro a x hf hL hX H locs ls hI hl
  unfold bX2_leftBy_6 at hf
  refine lv_iload (pc := 6) hx hb dX2_leftBy_6 (lv_at hl 5 rfl) ?_
  refine lv_bipush (pc := 8) (v := 10) hx hb dX2_leftBy_8 (by decide) ?_
  refine z_icmp_gt (pc := 10) (tgt := 45) hx hb dX2_leftBy_10 (by decide) hf (fun hf => ?_) (fun hf => ?_)
  · exact (hX _ (Option.some.inj hf).symm) _ _ _ hI (lv_sub hl [4] rfl)
  refine lv_iload (pc := 13) hx hb dX2_leftBy_13 (lv_at hl 4 rfl) ?_
  refine lv_iload_n (pc := 15) hx hb dX2_leftBy_15 rfl (lv_at hl 2 rfl) ?_
  refine lv_iload_n (pc := 16) hx hb dX2_leftBy_16 rfl (lv_at hl 3 rfl) ?_
  refine lv_iload (pc := 17) hx hb dX2_leftBy_17 (lv_at hl 5 rfl) ?_
  obtain ⟨q2, hc1, hf⟩ := zbind hf
  refine zcallSNi (pc := 19) (As := [.int p2, .int p3, .int a.2]) (rest := [.int a.1]) ⟨hx, hb, hml, hown, hts⟩ (kX9_isNearTrial l p2 p3 a.2 q2 hc1) ⟨va_cnB 3 hts gX2_leftBy_X9_isNearTrial_n84 rfl rfl rfl (hI.2.2.2.2.2.1 _ (List.mem_of_getElem? (i := 9) rfl)) (hts (.initialized RX9) (by decide +kernel)) (by decide +kernel) ⟨Nat.le_of_ble_eq_true rfl, Nat.le_of_ble_eq_true rfl⟩, hts (.static yX9_isNearTrial) (by decide +kernel), trivial⟩ rfl hl.1 rfl (Nat.le_of_ble_eq_true rfl) dX2_leftBy_19 (Nat.zero_le _) (Nat.zero_le _) ?_
  refine z_if_eq (pc := 22) (tgt := 35) hx hb dX2_leftBy_22 (by decide) hf (fun hf => ?_) (fun hf => ?_)
  · refine lv_iconst (pc := 35) (v := 0) hx hb dX2_leftBy_35 (by decide) ?_
    refine lv_iadd (pc := 36) hx hb dX2_leftBy_36 ?_
    refine z_bi hf (fun v3 hf => ?_)
    refine lv_istore (pc := 37) (lv' := [(4, .int v3), (0, .ref (ad 27)), (1, .int p1), (2, .int p2), (3, .int p3), (5, .int a.2)]) hx hb dX2_leftBy_37 hl (by decide) rfl (fun ls hl => ?_)
    refine lv_iinc (pc := 39) (v := (a.2 + 1)) (lv' := [(5, .int (a.2 + 1)), (4, .int v3), (0, .ref (ad 27)), (1, .int p1), (2, .int p2), (3, .int p3)]) hx hb dX2_leftBy_39 hl (k := 5) rfl rfl (by decide) rfl (fun ls hl => ?_)
    refine lv_goto (pc := 42) (tgt := 6) hx hb dX2_leftBy_42 (by decide) ?_
    exact hL _ (Option.some.inj hf).symm _ _ _ hI (lv_sub hl [2, 3, 4, 5, 1, 0] rfl)
  refine lv_aload_n (pc := 25) hx hb dX2_leftBy_25 rfl (lv_at hl 0 rfl) ?_
  refine lv_iload_n (pc := 26) hx hb dX2_leftBy_26 rfl (lv_at hl 1 rfl) ?_
  refine lv_iload (pc := 27) hx hb dX2_leftBy_27 (lv_at hl 5 rfl) ?_
  obtain ⟨q5, hc4, hf⟩ := zbind hf
  refine zcallVi (pc := 29) (As := [.int p1, .int a.2]) (rest := [.int a.1]) ⟨hx, hb, hml, hown, hts⟩ (kX2_withFalls l D ad cy p1 a.2 u q5 hc4) (cwV 2 hts gX2_leftBy_X2_withFalls rfl rfl rfl (by decide +kernel) ⟨Nat.le_of_ble_eq_true rfl, Nat.le_of_ble_eq_true rfl⟩) hI rfl (xl_27 ad cy u) rfl hl.1 rfl (Nat.le_of_ble_eq_true rfl) dX2_leftBy_29 (Nat.zero_le _) (Nat.zero_le _) (fun H locs hI => ?_)
  refine lv_goto (pc := 32) (tgt := 36) hx hb dX2_leftBy_32 (by decide) ?_
  refine lv_iadd (pc := 36) hx hb dX2_leftBy_36 ?_
  refine z_bi hf (fun v6 hf => ?_)
  refine lv_istore (pc := 37) (lv' := [(4, .int v6), (0, .ref (ad 27)), (1, .int p1), (2, .int p2), (3, .int p3), (5, .int a.2)]) hx hb dX2_leftBy_37 hl (by decide) rfl (fun ls hl => ?_)
  refine lv_iinc (pc := 39) (v := (a.2 + 1)) (lv' := [(5, .int (a.2 + 1)), (4, .int v6), (0, .ref (ad 27)), (1, .int p1), (2, .int p2), (3, .int p3)]) hx hb dX2_leftBy_39 hl (k := 5) rfl rfl (by decide) rfl (fun ls hl => ?_)
  refine lv_goto (pc := 42) (tgt := 6) hx hb dX2_leftBy_42 (by decide) ?_
  exact hL _ (Option.some.inj hf).symm _ _ _ hI (lv_sub hl [2, 3, 4, 5, 1, 0] rfl)
set_option maxHeartbeats 4000000 in
set_option maxRecDepth 100000 in
theorem kX2_leftBy (l : Launch) (D : va_G) (ad : Nat → Nat) (cy : Nat → ClassId) (k : Nat) (a1 : Int32) (a2 : Int32) (a3 : Int32) (u : CX) (r : Int32) (hf : fX2_leftBy k a1 a2 a3 u = some r) : zCt l yX2_leftBy wsX2_leftBy ({ frames := 2, cells := 0, slots := 0, locals := 43 } : Room) D ad cy [.ref (ad 27), .int a1, .int a2, .int a3] (WX ad cy u) (some (.int r)) (WX ad cy u) := by
  refine zCt.of (cc := cX2_leftBy) (maxL := 6) (ret := (some .int)) (own := RX2) (by decide) rfl rfl ?_
  intro p e s m below meth c A C0 hI
  obtain ⟨hx, hb, hml, hown, hts, hr, hlk⟩ := id C0
  refine z_entry (Nat.le_of_ble_eq_true rfl) (fun ls hl => ?_)
  have hl : lv_has ls 6 [(0, .ref (ad 27)), (1, .int a1), (2, .int a2), (3, .int a3)] := hl
  unfold fX2_leftBy at hf
  refine lv_iconst (pc := 0) (v := 0) hx hb dX2_leftBy_0 (by decide) ?_
  refine lv_istore (pc := 1) (lv' := [(4, .int (0 : Int32)), (0, .ref (ad 27)), (1, .int a1), (2, .int a2), (3, .int a3)]) hx hb dX2_leftBy_1 hl (by decide) rfl (fun ls hl => ?_)
  refine lv_iconst (pc := 3) (v := 0) hx hb dX2_leftBy_3 (by decide) ?_
  refine lv_istore (pc := 4) (lv' := [(5, .int (0 : Int32)), (4, .int (0 : Int32)), (0, .ref (ad 27)), (1, .int a1), (2, .int a2), (3, .int a3)]) hx hb dX2_leftBy_4 hl (by decide) rfl (fun ls hl => ?_)
  obtain ⟨b7, hb8, hf⟩ := zbind hf
  refine lX2_leftBy_6 C0 hb8 ?_ _ _ _ hI (lv_sub hl [2, 3, 4, 5, 1, 0] rfl)
  intro H locs ls hI hl
  refine lv_iload (pc := 45) hx hb dX2_leftBy_45 (lv_at hl 0 rfl) ?_
  cases hf
  exact z_iret (pc := 47) C0 hI dX2_leftBy_47
set_option maxHeartbeats 4000000 in
set_option maxRecDepth 100000 in
theorem lX2_oftenerIn_8 (C0 : zFix p m c cX2_oftenerIn 5 s args wsX2_oftenerIn RX2 meth (some .int)) {k : Nat} {p1 : Int32} {p2 : Int32} {u : CX} {a : Int32 × Int32} {b : Int32} (hit : ziter (bX2_oftenerIn_8 k p1 p2 u) k a = some b) (hx9 : (fun (b : Int32) => ∀ (H : Heap) (locs : List Loc) (ls : Array Slot), zIn D ad cy (WX ad cy u) A s H locs → lv_has ls 5 [(3, .int b)] → W p l e ({ frames := 1, cells := 0, slots := 0, locals := 21 } : Room) s m args below meth c H locs 0 0 Q (F0 m 55 ls [])) b) : (fun (a : Int32 × Int32) => ∀ (H : Heap) (locs : List Loc) (ls : Array Slot), zIn D ad cy (WX ad cy u) A s H locs → lv_has ls 5 [(0, .ref (ad 27)), (1, .int p1), (2, .int p2), (3, .int a.1), (4, .int a.2)] → W p l e ({ frames := 1, cells := 0, slots := 0, locals := 21 } : Room) s m args below meth c H locs 0 0 Q (F0 m 8 ls [])) a := by
  obtain ⟨hx, hb, hml, hown, hts, hr, hlk⟩ := id C0
  refine zloop (Wh := (fun (a : Int32 × Int32) => ∀ (H : Heap) (locs : List Loc) (ls : Array Slot), zIn D ad cy (WX ad cy u) A s H locs → lv_has ls 5 [(0, .ref (ad 27)), (1, .int p1), (2, .int p2), (3, .int a.1), (4, .int a.2)] → W p l e ({ frames := 1, cells := 0, slots := 0, locals := 21 } : Room) s m args below meth c H locs 0 0 Q (F0 m 8 ls []))) (Wx := (fun (b : Int32) => ∀ (H : Heap) (locs : List Loc) (ls : Array Slot), zIn D ad cy (WX ad cy u) A s H locs → lv_has ls 5 [(3, .int b)] → W p l e ({ frames := 1, cells := 0, slots := 0, locals := 21 } : Room) s m args below meth c H locs 0 0 Q (F0 m 55 ls []))) ?_ _ a b hit hx9
  intro a x hf hL hX H locs ls hI hl
  unfold bX2_oftenerIn_8 at hf
  refine lv_iload (pc := 8) hx hb dX2_oftenerIn_8 (lv_at hl 4 rfl) ?_
  refine lv_aload_n (pc := 10) hx hb dX2_oftenerIn_10 rfl (lv_at hl 0 rfl) ?_
  refine z_get (pc := 11) (index := 94) hx hb hts iwX2_oftenerIn_2 hown hI (xl_27 ad cy u) rfl 9 (by decide) (by decide +kernel) rfl rfl dX2_oftenerIn_11 ?_
  refine z_icmp_gt (pc := 14) (tgt := 55) hx hb dX2_oftenerIn_14 (by decide) hf (fun hf => ?_) (fun hf => ?_)
  · exact (hX _ (Option.some.inj hf).symm) _ _ _ hI (lv_sub hl [3] rfl)
  refine lv_iload_n (pc := 17) hx hb dX2_oftenerIn_17 rfl (lv_at hl 3 rfl) ?_
  refine lv_aload_n (pc := 18) hx hb dX2_oftenerIn_18 rfl (lv_at hl 0 rfl) ?_
  refine lv_iload (pc := 19) hx hb dX2_oftenerIn_19 (lv_at hl 4 rfl) ?_
  obtain ⟨q3, hc2, hf⟩ := zbind hf
  refine zcallVi (pc := 21) (As := [.int a.2]) (rest := [.int a.1]) ⟨hx, hb, hml, hown, hts⟩ (kX2_isKept l D ad cy a.2 u q3 hc2) (cwV 1 hts gX2_oftenerIn_X2_isKept rfl rfl rfl (by decide +kernel) ⟨Nat.le_of_ble_eq_true rfl, Nat.le_of_ble_eq_true rfl⟩) hI rfl (xl_27 ad cy u) rfl hl.1 rfl (Nat.le_of_ble_eq_true rfl) dX2_oftenerIn_21 (Nat.zero_le _) (Nat.zero_le _) (fun H locs hI => ?_)
  refine z_if_eq (pc := 24) (tgt := 46) hx hb dX2_oftenerIn_24 (by decide) hf (fun hf => ?_) (fun hf => ?_)
  · refine lv_iconst (pc := 46) (v := 0) hx hb dX2_oftenerIn_46 (by decide) ?_
    refine lv_iadd (pc := 47) hx hb dX2_oftenerIn_47 ?_
    refine z_bi hf (fun v4 hf => ?_)
    refine lv_istore_n (pc := 48) (lv' := [(3, .int v4), (0, .ref (ad 27)), (1, .int p1), (2, .int p2), (4, .int a.2)]) hx hb dX2_oftenerIn_48 rfl hl (by decide) rfl (fun ls hl => ?_)
    refine lv_iinc (pc := 49) (v := (a.2 + 1)) (lv' := [(4, .int (a.2 + 1)), (3, .int v4), (0, .ref (ad 27)), (1, .int p1), (2, .int p2)]) hx hb dX2_oftenerIn_49 hl (k := 4) rfl rfl (by decide) rfl (fun ls hl => ?_)
    refine lv_goto (pc := 52) (tgt := 8) hx hb dX2_oftenerIn_52 (by decide) ?_
    exact hL _ (Option.some.inj hf).symm _ _ _ hI (lv_sub hl [2, 3, 4, 1, 0] rfl)
  refine lv_iload (pc := 27) hx hb dX2_oftenerIn_27 (lv_at hl 4 rfl) ?_
  refine lv_iload_n (pc := 29) hx hb dX2_oftenerIn_29 rfl (lv_at hl 1 rfl) ?_
  obtain ⟨q6, hc5, hf⟩ := zbind hf
  refine zcallSNi (pc := 30) (As := [.int a.2, .int p1]) (rest := [.int a.1]) ⟨hx, hb, hml, hown, hts⟩ (kX9_figure l a.2 p1 q6 hc5) ⟨va_cnB 2 hts gX2_oftenerIn_X9_figure_n48 rfl rfl rfl (hI.2.2.2.2.2.1 _ (List.mem_of_getElem? (i := 5) rfl)) (hts (.initialized RX9) (by decide +kernel)) (by decide +kernel) ⟨Nat.le_of_ble_eq_true rfl, Nat.le_of_ble_eq_true rfl⟩, hts (.static yX9_figure) (by decide +kernel), trivial⟩ rfl hl.1 rfl (Nat.le_of_ble_eq_true rfl) dX2_oftenerIn_30 (Nat.zero_le _) (Nat.zero_le _) ?_
  refine lv_iload (pc := 33) hx hb dX2_oftenerIn_33 (lv_at hl 4 rfl) ?_
  refine lv_iload_n (pc := 35) hx hb dX2_oftenerIn_35 rfl (lv_at hl 2 rfl) ?_
  obtain ⟨q8, hc7, hf⟩ := zbind hf
  refine zcallSNi (pc := 36) (As := [.int a.2, .int p2]) (rest := [.int q6, .int a.1]) ⟨hx, hb, hml, hown, hts⟩ (kX9_figure l a.2 p2 q8 hc7) ⟨va_cnB 2 hts gX2_oftenerIn_X9_figure_n48 rfl rfl rfl (hI.2.2.2.2.2.1 _ (List.mem_of_getElem? (i := 5) rfl)) (hts (.initialized RX9) (by decide +kernel)) (by decide +kernel) ⟨Nat.le_of_ble_eq_true rfl, Nat.le_of_ble_eq_true rfl⟩, hts (.static yX9_figure) (by decide +kernel), trivial⟩ rfl hl.1 rfl (Nat.le_of_ble_eq_true rfl) dX2_oftenerIn_36 (Nat.zero_le _) (Nat.zero_le _) ?_
  refine z_icmp_le (pc := 39) (tgt := 46) hx hb dX2_oftenerIn_39 (by decide) hf (fun hf => ?_) (fun hf => ?_)
  · refine lv_iconst (pc := 46) (v := 0) hx hb dX2_oftenerIn_46 (by decide) ?_
    refine lv_iadd (pc := 47) hx hb dX2_oftenerIn_47 ?_
    refine z_bi hf (fun v9 hf => ?_)
    refine lv_istore_n (pc := 48) (lv' := [(3, .int v9), (0, .ref (ad 27)), (1, .int p1), (2, .int p2), (4, .int a.2)]) hx hb dX2_oftenerIn_48 rfl hl (by decide) rfl (fun ls hl => ?_)
    refine lv_iinc (pc := 49) (v := (a.2 + 1)) (lv' := [(4, .int (a.2 + 1)), (3, .int v9), (0, .ref (ad 27)), (1, .int p1), (2, .int p2)]) hx hb dX2_oftenerIn_49 hl (k := 4) rfl rfl (by decide) rfl (fun ls hl => ?_)
    refine lv_goto (pc := 52) (tgt := 8) hx hb dX2_oftenerIn_52 (by decide) ?_
    exact hL _ (Option.some.inj hf).symm _ _ _ hI (lv_sub hl [2, 3, 4, 1, 0] rfl)
  refine lv_iconst (pc := 42) (v := 1) hx hb dX2_oftenerIn_42 (by decide) ?_
  refine lv_goto (pc := 43) (tgt := 47) hx hb dX2_oftenerIn_43 (by decide) ?_
  refine lv_iadd (pc := 47) hx hb dX2_oftenerIn_47 ?_
  refine z_bi hf (fun v10 hf => ?_)
  refine lv_istore_n (pc := 48) (lv' := [(3, .int v10), (0, .ref (ad 27)), (1, .int p1), (2, .int p2), (4, .int a.2)]) hx hb dX2_oftenerIn_48 rfl hl (by decide) rfl (fun ls hl => ?_)
  refine lv_iinc (pc := 49) (v := (a.2 + 1)) (lv' := [(4, .int (a.2 + 1)), (3, .int v10), (0, .ref (ad 27)), (1, .int p1), (2, .int p2)]) hx hb dX2_oftenerIn_49 hl (k := 4) rfl rfl (by decide) rfl (fun ls hl => ?_)
  refine lv_goto (pc := 52) (tgt := 8) hx hb dX2_oftenerIn_52 (by decide) ?_
  exact hL _ (Option.some.inj hf).symm _ _ _ hI (lv_sub hl [2, 3, 4, 1, 0] rfl)
set_option maxHeartbeats 4000000 in
set_option maxRecDepth 100000 in
theorem kX2_oftenerIn (l : Launch) (D : va_G) (ad : Nat → Nat) (cy : Nat → ClassId) (k : Nat) (a1 : Int32) (a2 : Int32) (u : CX) (r : Int32) (hf : fX2_oftenerIn k a1 a2 u = some r) : zCt l yX2_oftenerIn wsX2_oftenerIn ({ frames := 1, cells := 0, slots := 0, locals := 21 } : Room) D ad cy [.ref (ad 27), .int a1, .int a2] (WX ad cy u) (some (.int r)) (WX ad cy u) := by
  refine zCt.of (cc := cX2_oftenerIn) (maxL := 5) (ret := (some .int)) (own := RX2) (by decide) rfl rfl ?_
  intro p e s m below meth c A C0 hI
  obtain ⟨hx, hb, hml, hown, hts, hr, hlk⟩ := id C0
  refine z_entry (Nat.le_of_ble_eq_true rfl) (fun ls hl => ?_)
  have hl : lv_has ls 5 [(0, .ref (ad 27)), (1, .int a1), (2, .int a2)] := hl
  unfold fX2_oftenerIn at hf
  refine lv_iconst (pc := 0) (v := 0) hx hb dX2_oftenerIn_0 (by decide) ?_
  refine lv_istore_n (pc := 1) (lv' := [(3, .int (0 : Int32)), (0, .ref (ad 27)), (1, .int a1), (2, .int a2)]) hx hb dX2_oftenerIn_1 rfl hl (by decide) rfl (fun ls hl => ?_)
  refine lv_aload_n (pc := 2) hx hb dX2_oftenerIn_2 rfl (lv_at hl 1 rfl) ?_
  refine z_get (pc := 3) (index := 91) hx hb hts iwX2_oftenerIn_2 hown hI (xl_27 ad cy u) rfl 8 (by decide) (by decide +kernel) rfl rfl dX2_oftenerIn_3 ?_
  refine z_bi hf (fun v1 hf => ?_)
  refine lv_istore (pc := 6) (lv' := [(4, .int v1), (3, .int (0 : Int32)), (0, .ref (ad 27)), (1, .int a1), (2, .int a2)]) hx hb dX2_oftenerIn_6 hl (by decide) rfl (fun ls hl => ?_)
  obtain ⟨b11, hb12, hf⟩ := zbind hf
  refine lX2_oftenerIn_8 C0 hb12 ?_ _ _ _ hI (lv_sub hl [2, 3, 4, 1, 0] rfl)
  intro H locs ls hI hl
  refine lv_iload_n (pc := 55) hx hb dX2_oftenerIn_55 rfl (lv_at hl 0 rfl) ?_
  cases hf
  exact z_iret (pc := 56) C0 hI dX2_oftenerIn_56
set_option maxHeartbeats 4000000 in
set_option maxRecDepth 100000 in
theorem lX2_safestPlates_11 (C0 : zFix p m c cX2_safestPlates 4 s args wsX2_safestPlates RX2 meth (some .int)) {k : Nat} {a : Int32 × CX} {b : CX} (hit : ziter (bX2_safestPlates_11 k) k a = some b) (hx9 : (fun (b : CX) => ∀ (H : Heap) (locs : List Loc) (ls : Array Slot), zIn D ad cy (WX ad cy b) A s H locs → lv_has ls 4 [(0, .ref (ad 27)), (1, .ref (ad 32))] → W p l e ({ frames := 3, cells := 0, slots := 0, locals := 71 } : Room) s m args below meth c H locs 0 0 Q (F0 m 32 ls [])) b) : (fun (a : Int32 × CX) => ∀ (H : Heap) (locs : List Loc) (ls : Array Slot), zIn D ad cy (WX ad cy a.2) A s H locs → lv_has ls 4 [(0, .ref (ad 27)), (1, .ref (ad 32)), (2, .int a.1)] → W p l e ({ frames := 3, cells := 0, slots := 0, locals := 71 } : Room) s m args below meth c H locs 0 0 Q (F0 m 11 ls [])) a := by
  obtain ⟨hx, hb, hml, hown, hts, hr, hlk⟩ := id C0
  refine zloop (Wh := (fun (a : Int32 × CX) => ∀ (H : Heap) (locs : List Loc) (ls : Array Slot), zIn D ad cy (WX ad cy a.2) A s H locs → lv_has ls 4 [(0, .ref (ad 27)), (1, .ref (ad 32)), (2, .int a.1)] → W p l e ({ frames := 3, cells := 0, slots := 0, locals := 71 } : Room) s m args below meth c H locs 0 0 Q (F0 m 11 ls []))) (Wx := (fun (b : CX) => ∀ (H : Heap) (locs : List Loc) (ls : Array Slot), zIn D ad cy (WX ad cy b) A s H locs → lv_has ls 4 [(0, .ref (ad 27)), (1, .ref (ad 32))] → W p l e ({ frames := 3, cells := 0, slots := 0, locals := 71 } : Room) s m args below meth c H locs 0 0 Q (F0 m 32 ls []))) ?_ _ a b hit hx9
  intro a x hf hL hX H locs ls hI hl
  unfold bX2_safestPlates_11 at hf
  refine lv_iload_n (pc := 11) hx hb dX2_safestPlates_11 rfl (lv_at hl 2 rfl) ?_
  refine lv_bipush (pc := 12) (v := 16) hx hb dX2_safestPlates_12 (by decide) ?_
  refine z_icmp_ge (pc := 14) (tgt := 32) hx hb dX2_safestPlates_14 (by decide) hf (fun hf => ?_) (fun hf => ?_)
  · exact (hX _ (Option.some.inj hf).symm) _ _ _ hI (lv_sub hl [0, 1] rfl)
  refine lv_aload_n (pc := 17) hx hb dX2_safestPlates_17 rfl (lv_at hl 0 rfl) ?_
  refine z_get (pc := 18) (index := 22) hx hb hts iwX2_safestPlates_2 hown hI (xl_27 ad cy a.2) rfl 6 (by decide) (by decide +kernel) rfl rfl dX2_safestPlates_18 ?_
  refine lv_iload_n (pc := 21) hx hb dX2_safestPlates_21 rfl (lv_at hl 2 rfl) ?_
  refine lv_sipush (pc := 22) (v := 800) hx hb dX2_safestPlates_22 (by decide) ?_
  refine z_iast (wf := WX ad cy) (pc := 25) hx hb hI (xl_31 ad cy a.2) 0 rfl dX2_safestPlates_25 (fun j => xw_worst ad cy a.2 (upd (xg_worst a.2) j (800 : Int32))) hf (fun j1 u2 H locs hj1 hI hf => ?_)
  refine lv_iinc (pc := 26) (v := (a.1 + 1)) (lv' := [(2, .int (a.1 + 1)), (0, .ref (ad 27)), (1, .ref (ad 32))]) hx hb dX2_safestPlates_26 hl (k := 2) rfl rfl (by decide) rfl (fun ls hl => ?_)
  refine lv_goto (pc := 29) (tgt := 11) hx hb dX2_safestPlates_29 (by decide) ?_
  exact hL _ (Option.some.inj hf).symm _ _ _ hI (lv_sub hl [1, 2, 0] rfl)
set_option maxHeartbeats 4000000 in
set_option maxRecDepth 100000 in
theorem lX2_safestPlates_60 (C0 : zFix p m c cX2_safestPlates 4 s args wsX2_safestPlates RX2 meth (some .int)) {k : Nat} {p2 : Int32} {a : Int32 × CX} {b : CX} (hit : ziter (bX2_safestPlates_60 k p2) k a = some b) (hx9 : (fun (b : CX) => ∀ (H : Heap) (locs : List Loc) (ls : Array Slot), zIn D ad cy (WX ad cy b) A s H locs → lv_has ls 4 [(0, .ref (ad 27)), (1, .ref (ad 32)), (2, .int p2)] → W p l e ({ frames := 3, cells := 0, slots := 0, locals := 71 } : Room) s m args below meth c H locs 0 0 Q (F0 m 93 ls [])) b) : (fun (a : Int32 × CX) => ∀ (H : Heap) (locs : List Loc) (ls : Array Slot), zIn D ad cy (WX ad cy a.2) A s H locs → lv_has ls 4 [(0, .ref (ad 27)), (1, .ref (ad 32)), (2, .int p2), (3, .int a.1)] → W p l e ({ frames := 3, cells := 0, slots := 0, locals := 71 } : Room) s m args below meth c H locs 0 0 Q (F0 m 60 ls [])) a := by
  obtain ⟨hx, hb, hml, hown, hts, hr, hlk⟩ := id C0
  refine zloop (Wh := (fun (a : Int32 × CX) => ∀ (H : Heap) (locs : List Loc) (ls : Array Slot), zIn D ad cy (WX ad cy a.2) A s H locs → lv_has ls 4 [(0, .ref (ad 27)), (1, .ref (ad 32)), (2, .int p2), (3, .int a.1)] → W p l e ({ frames := 3, cells := 0, slots := 0, locals := 71 } : Room) s m args below meth c H locs 0 0 Q (F0 m 60 ls []))) (Wx := (fun (b : CX) => ∀ (H : Heap) (locs : List Loc) (ls : Array Slot), zIn D ad cy (WX ad cy b) A s H locs → lv_has ls 4 [(0, .ref (ad 27)), (1, .ref (ad 32)), (2, .int p2)] → W p l e ({ frames := 3, cells := 0, slots := 0, locals := 71 } : Room) s m args below meth c H locs 0 0 Q (F0 m 93 ls []))) ?_ _ a b hit hx9
  intro a x hf hL hX H locs ls hI hl
  unfold bX2_safestPlates_60 at hf
  refine lv_iload_n (pc := 60) hx hb dX2_safestPlates_60 rfl (lv_at hl 3 rfl) ?_
  refine lv_bipush (pc := 61) (v := 16) hx hb dX2_safestPlates_61 (by decide) ?_
  refine z_icmp_ge (pc := 63) (tgt := 93) hx hb dX2_safestPlates_63 (by decide) hf (fun hf => ?_) (fun hf => ?_)
  · exact (hX _ (Option.some.inj hf).symm) _ _ _ hI (lv_sub hl [0, 1, 2] rfl)
  refine lv_aload_n (pc := 66) hx hb dX2_safestPlates_66 rfl (lv_at hl 0 rfl) ?_
  refine z_get (pc := 67) (index := 22) hx hb hts iwX2_safestPlates_2 hown hI (xl_27 ad cy a.2) rfl 6 (by decide) (by decide +kernel) rfl rfl dX2_safestPlates_67 ?_
  refine lv_iload_n (pc := 70) hx hb dX2_safestPlates_70 rfl (lv_at hl 3 rfl) ?_
  refine lv_aload_n (pc := 71) hx hb dX2_safestPlates_71 rfl (lv_at hl 0 rfl) ?_
  refine z_get (pc := 72) (index := 22) hx hb hts iwX2_safestPlates_2 hown hI (xl_27 ad cy a.2) rfl 6 (by decide) (by decide +kernel) rfl rfl dX2_safestPlates_72 ?_
  refine lv_iload_n (pc := 75) hx hb dX2_safestPlates_75 rfl (lv_at hl 3 rfl) ?_
  refine z_iald (pc := 76) hx hb hI (xl_31 ad cy a.2) 0 rfl dX2_safestPlates_76 hf (fun v10 hf => ?_)
  refine lv_aload_n (pc := 77) hx hb dX2_safestPlates_77 rfl (lv_at hl 1 rfl) ?_
  refine z_get (pc := 78) (index := 107) hx hb hts iwX2_safestPlates_4 hown hI (xl_32 ad cy a.2) rfl 3 (by decide) (by decide +kernel) rfl rfl dX2_safestPlates_78 ?_
  refine lv_iload_n (pc := 81) hx hb dX2_safestPlates_81 rfl (lv_at hl 3 rfl) ?_
  refine z_iald (pc := 82) hx hb hI (xl_35 ad cy a.2) 0 rfl dX2_safestPlates_82 hf (fun v11 hf => ?_)
  refine z_mmin (pc := 83) hx hb (hml.trans hl.1.symm) hown (hts (.methodLink RX2 110 Lib.Math.min.name) (by decide +kernel)) (hts (.static Lib.Math.min.name) (by decide +kernel)) (hts (.initialized "java/lang/Math") (by decide +kernel)) (hts (.code Lib.Math.min.name Lib.Math.min.code 2 (some .int)) (by decide +kernel)) (Nat.le_of_ble_eq_true rfl) (Nat.le_of_ble_eq_true rfl) (Nat.zero_le _) (Nat.zero_le _) dX2_safestPlates_83 ?_
  refine z_iast (wf := WX ad cy) (pc := 86) hx hb hI (xl_31 ad cy a.2) 0 rfl dX2_safestPlates_86 (fun j => xw_worst ad cy a.2 (upd (xg_worst a.2) j (zminI v10 v11))) hf (fun j12 u13 H locs hj12 hI hf => ?_)
  refine lv_iinc (pc := 87) (v := (a.1 + 1)) (lv' := [(3, .int (a.1 + 1)), (0, .ref (ad 27)), (1, .ref (ad 32)), (2, .int p2)]) hx hb dX2_safestPlates_87 hl (k := 3) rfl rfl (by decide) rfl (fun ls hl => ?_)
  refine lv_goto (pc := 90) (tgt := 60) hx hb dX2_safestPlates_90 (by decide) ?_
  exact hL _ (Option.some.inj hf).symm _ _ _ hI (lv_sub hl [1, 2, 3, 0] rfl)
set_option maxHeartbeats 4000000 in
set_option maxRecDepth 100000 in
theorem lX2_safestPlates_37 (C0 : zFix p m c cX2_safestPlates 4 s args wsX2_safestPlates RX2 meth (some .int)) {k : Nat} {a : Int32 × CX} {b : CX} (hit : ziter (bX2_safestPlates_37 k) k a = some b) (hx9 : (fun (b : CX) => ∀ (H : Heap) (locs : List Loc) (ls : Array Slot), zIn D ad cy (WX ad cy b) A s H locs → lv_has ls 4 [(0, .ref (ad 27)), (1, .ref (ad 32))] → W p l e ({ frames := 3, cells := 0, slots := 0, locals := 71 } : Room) s m args below meth c H locs 0 0 Q (F0 m 99 ls [])) b) : (fun (a : Int32 × CX) => ∀ (H : Heap) (locs : List Loc) (ls : Array Slot), zIn D ad cy (WX ad cy a.2) A s H locs → lv_has ls 4 [(0, .ref (ad 27)), (1, .ref (ad 32)), (2, .int a.1)] → W p l e ({ frames := 3, cells := 0, slots := 0, locals := 71 } : Room) s m args below meth c H locs 0 0 Q (F0 m 37 ls [])) a := by
  obtain ⟨hx, hb, hml, hown, hts, hr, hlk⟩ := id C0
  refine zloop (Wh := (fun (a : Int32 × CX) => ∀ (H : Heap) (locs : List Loc) (ls : Array Slot), zIn D ad cy (WX ad cy a.2) A s H locs → lv_has ls 4 [(0, .ref (ad 27)), (1, .ref (ad 32)), (2, .int a.1)] → W p l e ({ frames := 3, cells := 0, slots := 0, locals := 71 } : Room) s m args below meth c H locs 0 0 Q (F0 m 37 ls []))) (Wx := (fun (b : CX) => ∀ (H : Heap) (locs : List Loc) (ls : Array Slot), zIn D ad cy (WX ad cy b) A s H locs → lv_has ls 4 [(0, .ref (ad 27)), (1, .ref (ad 32))] → W p l e ({ frames := 3, cells := 0, slots := 0, locals := 71 } : Room) s m args below meth c H locs 0 0 Q (F0 m 99 ls []))) ?_ _ a b hit hx9
  intro a x hf hL hX H locs ls hI hl
  unfold bX2_safestPlates_37 at hf
  refine lv_iload_n (pc := 37) hx hb dX2_safestPlates_37 rfl (lv_at hl 2 rfl) ?_
  refine lv_aload_n (pc := 38) hx hb dX2_safestPlates_38 rfl (lv_at hl 0 rfl) ?_
  refine z_get (pc := 39) (index := 94) hx hb hts iwX2_safestPlates_2 hown hI (xl_27 ad cy a.2) rfl 9 (by decide) (by decide +kernel) rfl rfl dX2_safestPlates_39 ?_
  refine z_icmp_gt (pc := 42) (tgt := 99) hx hb dX2_safestPlates_42 (by decide) hf (fun hf => ?_) (fun hf => ?_)
  · exact (hX _ (Option.some.inj hf).symm) _ _ _ hI (lv_sub hl [0, 1] rfl)
  refine lv_aload_n (pc := 45) hx hb dX2_safestPlates_45 rfl (lv_at hl 0 rfl) ?_
  refine lv_iload_n (pc := 46) hx hb dX2_safestPlates_46 rfl (lv_at hl 2 rfl) ?_
  obtain ⟨q7, hc6, hf⟩ := zbind hf
  refine zcallVi (pc := 47) (As := [.int a.1]) (rest := []) ⟨hx, hb, hml, hown, hts⟩ (kX2_isKept l D ad cy a.1 a.2 q7 hc6) (cwV 1 hts gX2_safestPlates_X2_isKept rfl rfl rfl (by decide +kernel) ⟨Nat.le_of_ble_eq_true rfl, Nat.le_of_ble_eq_true rfl⟩) hI rfl (xl_27 ad cy a.2) rfl hl.1 rfl (Nat.le_of_ble_eq_true rfl) dX2_safestPlates_47 (Nat.zero_le _) (Nat.zero_le _) (fun H locs hI => ?_)
  refine z_if_eq (pc := 50) (tgt := 93) hx hb dX2_safestPlates_50 (by decide) hf (fun hf => ?_) (fun hf => ?_)
  · refine lv_iinc (pc := 93) (v := (a.1 + 1)) (lv' := [(2, .int (a.1 + 1)), (0, .ref (ad 27)), (1, .ref (ad 32))]) hx hb dX2_safestPlates_93 hl (k := 2) rfl rfl (by decide) rfl (fun ls hl => ?_)
    refine lv_goto (pc := 96) (tgt := 37) hx hb dX2_safestPlates_96 (by decide) ?_
    exact hL _ (Option.some.inj hf).symm _ _ _ hI (lv_sub hl [1, 2, 0] rfl)
  refine lv_aload_n (pc := 53) hx hb dX2_safestPlates_53 rfl (lv_at hl 1 rfl) ?_
  refine lv_iload_n (pc := 54) hx hb dX2_safestPlates_54 rfl (lv_at hl 2 rfl) ?_
  obtain ⟨q9, hc8, hf⟩ := zbind hf
  refine zcallVv (pc := 55) (As := [.int a.1]) (rest := []) ⟨hx, hb, hml, hown, hts⟩ (kX4_standAll l D ad cy k a.1 a.2 q9 hc8) (cwV 1 hts gX2_safestPlates_X4_standAll rfl rfl rfl (by decide +kernel) ⟨Nat.le_of_ble_eq_true rfl, Nat.le_of_ble_eq_true rfl⟩) hI rfl (xl_32 ad cy a.2) rfl hl.1 rfl (Nat.le_of_ble_eq_true rfl) dX2_safestPlates_55 (Nat.zero_le _) (Nat.zero_le _) (fun H locs hI => ?_)
  refine lv_iconst (pc := 58) (v := 0) hx hb dX2_safestPlates_58 (by decide) ?_
  refine lv_istore_n (pc := 59) (lv' := [(3, .int (0 : Int32)), (0, .ref (ad 27)), (1, .ref (ad 32)), (2, .int a.1)]) hx hb dX2_safestPlates_59 rfl hl (by decide) rfl (fun ls hl => ?_)
  obtain ⟨b14, hb15, hf⟩ := zbind hf
  refine lX2_safestPlates_60 C0 hb15 ?_ _ _ _ hI (lv_sub hl [1, 2, 3, 0] rfl)
  intro H locs ls hI hl
  refine lv_iinc (pc := 93) (v := (a.1 + 1)) (lv' := [(2, .int (a.1 + 1)), (0, .ref (ad 27)), (1, .ref (ad 32))]) hx hb dX2_safestPlates_93 hl (k := 2) rfl rfl (by decide) rfl (fun ls hl => ?_)
  refine lv_goto (pc := 96) (tgt := 37) hx hb dX2_safestPlates_96 (by decide) ?_
  exact hL _ (Option.some.inj hf).symm _ _ _ hI (lv_sub hl [1, 2, 0] rfl)
set_option maxHeartbeats 4000000 in
set_option maxRecDepth 100000 in
theorem kX2_safestPlates (l : Launch) (D : va_G) (ad : Nat → Nat) (cy : Nat → ClassId) (k : Nat) (u : CX) (r : Int32) (u' : CX) (hf : fX2_safestPlates k u = some (r, u')) : zCt l yX2_safestPlates wsX2_safestPlates ({ frames := 3, cells := 0, slots := 0, locals := 71 } : Room) D ad cy [.ref (ad 27), .ref (ad 32)] (WX ad cy u) (some (.int r)) (WX ad cy u') := by
  refine zCt.of (cc := cX2_safestPlates) (maxL := 4) (ret := (some .int)) (own := RX2) (by decide) rfl rfl ?_
  intro p e s m below meth c A C0 hI
  obtain ⟨hx, hb, hml, hown, hts, hr, hlk⟩ := id C0
  refine z_entry (Nat.le_of_ble_eq_true rfl) (fun ls hl => ?_)
  have hl : lv_has ls 4 [(0, .ref (ad 27)), (1, .ref (ad 32))] := hl
  unfold fX2_safestPlates at hf
  refine lv_aload_n (pc := 0) hx hb dX2_safestPlates_0 rfl (lv_at hl 0 rfl) ?_
  refine z_get (pc := 1) (index := 29) hx hb hts iwX2_safestPlates_2 hown hI (xl_27 ad cy u) rfl 11 (by decide) (by decide +kernel) rfl rfl dX2_safestPlates_1 ?_
  refine lv_bipush (pc := 4) (v := -9) hx hb dX2_safestPlates_4 (by decide) ?_
  refine z_icmp_ne (pc := 6) (tgt := 111) hx hb dX2_safestPlates_6 (by decide) hf (fun hf => ?_) (fun hf => ?_)
  · refine lv_aload_n (pc := 111) hx hb dX2_safestPlates_111 rfl (lv_at hl 0 rfl) ?_
    refine z_get (pc := 112) (index := 29) hx hb hts iwX2_safestPlates_2 hown hI (xl_27 ad cy u) rfl 11 (by decide) (by decide +kernel) rfl rfl dX2_safestPlates_112 ?_
    cases hf
    exact z_iret (pc := 115) C0 hI dX2_safestPlates_115
  refine lv_iconst (pc := 9) (v := 0) hx hb dX2_safestPlates_9 (by decide) ?_
  refine lv_istore_n (pc := 10) (lv' := [(2, .int (0 : Int32)), (0, .ref (ad 27)), (1, .ref (ad 32))]) hx hb dX2_safestPlates_10 rfl hl (by decide) rfl (fun ls hl => ?_)
  obtain ⟨b3, hb4, hf⟩ := zbind hf
  refine lX2_safestPlates_11 C0 hb4 ?_ _ _ _ hI (lv_sub hl [1, 2, 0] rfl)
  intro H locs ls hI hl
  refine lv_aload_n (pc := 32) hx hb dX2_safestPlates_32 rfl (lv_at hl 0 rfl) ?_
  refine z_get (pc := 33) (index := 91) hx hb hts iwX2_safestPlates_2 hown hI (xl_27 ad cy b3) rfl 8 (by decide) (by decide +kernel) rfl rfl dX2_safestPlates_33 ?_
  refine z_bi hf (fun v5 hf => ?_)
  refine lv_istore_n (pc := 36) (lv' := [(2, .int v5), (0, .ref (ad 27)), (1, .ref (ad 32))]) hx hb dX2_safestPlates_36 rfl hl (by decide) rfl (fun ls hl => ?_)
  obtain ⟨b16, hb17, hf⟩ := zbind hf
  refine lX2_safestPlates_37 C0 hb17 ?_ _ _ _ hI (lv_sub hl [1, 2, 0] rfl)
  intro H locs ls hI hl
  refine lv_aload_n (pc := 99) hx hb dX2_safestPlates_99 rfl (lv_at hl 0 rfl) ?_
  refine lv_aload_n (pc := 100) hx hb dX2_safestPlates_100 rfl (lv_at hl 1 rfl) ?_
  refine lv_aload_n (pc := 101) hx hb dX2_safestPlates_101 rfl (lv_at hl 0 rfl) ?_
  refine z_get (pc := 102) (index := 22) hx hb hts iwX2_safestPlates_2 hown hI (xl_27 ad cy b16) rfl 6 (by decide) (by decide +kernel) rfl rfl dX2_safestPlates_102 ?_
  obtain ⟨q19, hc18, hf⟩ := zbind hf
  refine zcallVi (pc := 105) (As := [.ref (ad 31)]) (rest := [.ref (ad 27)]) ⟨hx, hb, hml, hown, hts⟩ (kX4_mostHomes_w l D ad cy k b16 q19 hc18) (cwV 1 hts gX2_safestPlates_X4_mostHomes rfl rfl rfl (by decide +kernel) ⟨Nat.le_of_ble_eq_true rfl, Nat.le_of_ble_eq_true rfl⟩) hI rfl (xl_32 ad cy b16) rfl hl.1 rfl (Nat.le_of_ble_eq_true rfl) dX2_safestPlates_105 (Nat.zero_le _) (Nat.zero_le _) (fun H locs hI => ?_)
  refine z_put (wf := WX ad cy) (pc := 108) (index := 29) hx hb hts iwX2_safestPlates_2 tyX2 tyX2_ok nmX2 hown hI (xl_27 ad cy b16) rfl 11 (by decide) (by decide +kernel) rfl rfl rfl rfl (Nat.le_of_ble_eq_true rfl) dX2_safestPlates_108 (xw_safestF ad cy b16 q19) hf (fun u20 H locs hI hf => ?_)
  refine lv_aload_n (pc := 111) hx hb dX2_safestPlates_111 rfl (lv_at hl 0 rfl) ?_
  refine z_get (pc := 112) (index := 29) hx hb hts iwX2_safestPlates_2 hown hI (xl_27 ad cy u20) rfl 11 (by decide) (by decide +kernel) rfl rfl dX2_safestPlates_112 ?_
  cases hf
  exact z_iret (pc := 115) C0 hI dX2_safestPlates_115
set_option maxHeartbeats 4000000 in
set_option maxRecDepth 100000 in
theorem lX2_unlikeLaw_31 (C0 : zFix p m c cX2_unlikeLaw 4 s args wsX2_unlikeLaw RX2 meth (some .int)) {k : Nat} {p2 : Int32} {a : Int32 × CX} {b : CX} (hit : ziter (bX2_unlikeLaw_31 k p2) k a = some b) (hx9 : (fun (b : CX) => ∀ (H : Heap) (locs : List Loc) (ls : Array Slot), zIn D ad cy (WX ad cy b) A s H locs → lv_has ls 4 [(0, .ref (ad 27))] → W p l e ({ frames := 4, cells := 0, slots := 0, locals := 92 } : Room) s m args below meth c H locs 0 0 Q (F0 m 76 ls [])) b) : (fun (a : Int32 × CX) => ∀ (H : Heap) (locs : List Loc) (ls : Array Slot), zIn D ad cy (WX ad cy a.2) A s H locs → lv_has ls 4 [(0, .ref (ad 27)), (1, .ref (ad 32)), (2, .int p2), (3, .int a.1)] → W p l e ({ frames := 4, cells := 0, slots := 0, locals := 92 } : Room) s m args below meth c H locs 0 0 Q (F0 m 31 ls [])) a := by
  obtain ⟨hx, hb, hml, hown, hts, hr, hlk⟩ := id C0
  refine zloop (Wh := (fun (a : Int32 × CX) => ∀ (H : Heap) (locs : List Loc) (ls : Array Slot), zIn D ad cy (WX ad cy a.2) A s H locs → lv_has ls 4 [(0, .ref (ad 27)), (1, .ref (ad 32)), (2, .int p2), (3, .int a.1)] → W p l e ({ frames := 4, cells := 0, slots := 0, locals := 92 } : Room) s m args below meth c H locs 0 0 Q (F0 m 31 ls []))) (Wx := (fun (b : CX) => ∀ (H : Heap) (locs : List Loc) (ls : Array Slot), zIn D ad cy (WX ad cy b) A s H locs → lv_has ls 4 [(0, .ref (ad 27))] → W p l e ({ frames := 4, cells := 0, slots := 0, locals := 92 } : Room) s m args below meth c H locs 0 0 Q (F0 m 76 ls []))) ?_ _ a b hit hx9
  intro a x hf hL hX H locs ls hI hl
  unfold bX2_unlikeLaw_31 at hf
  refine lv_iload_n (pc := 31) hx hb dX2_unlikeLaw_31 rfl (lv_at hl 3 rfl) ?_
  refine lv_aload_n (pc := 32) hx hb dX2_unlikeLaw_32 rfl (lv_at hl 0 rfl) ?_
  refine z_get (pc := 33) (index := 94) hx hb hts iwX2_unlikeLaw_2 hown hI (xl_27 ad cy a.2) rfl 9 (by decide) (by decide +kernel) rfl rfl dX2_unlikeLaw_33 ?_
  refine z_icmp_gt (pc := 36) (tgt := 76) hx hb dX2_unlikeLaw_36 (by decide) hf (fun hf => ?_) (fun hf => ?_)
  · exact (hX _ (Option.some.inj hf).symm) _ _ _ hI (lv_sub hl [0] rfl)
  refine lv_aload_n (pc := 39) hx hb dX2_unlikeLaw_39 rfl (lv_at hl 0 rfl) ?_
  refine z_get (pc := 40) (index := 33) hx hb hts iwX2_unlikeLaw_2 hown hI (xl_27 ad cy a.2) rfl 12 (by decide) (by decide +kernel) rfl rfl dX2_unlikeLaw_40 ?_
  refine lv_bipush (pc := 43) (v := -4) hx hb dX2_unlikeLaw_43 (by decide) ?_
  refine z_icmp_ne (pc := 45) (tgt := 76) hx hb dX2_unlikeLaw_45 (by decide) hf (fun hf => ?_) (fun hf => ?_)
  · exact (hX _ (Option.some.inj hf).symm) _ _ _ hI (lv_sub hl [0] rfl)
  refine lv_aload_n (pc := 48) hx hb dX2_unlikeLaw_48 rfl (lv_at hl 0 rfl) ?_
  refine lv_iload_n (pc := 49) hx hb dX2_unlikeLaw_49 rfl (lv_at hl 3 rfl) ?_
  obtain ⟨q6, hc5, hf⟩ := zbind hf
  refine zcallVi (pc := 50) (As := [.int a.1]) (rest := []) ⟨hx, hb, hml, hown, hts⟩ (kX2_isKept l D ad cy a.1 a.2 q6 hc5) (cwV 1 hts gX2_unlikeLaw_X2_isKept rfl rfl rfl (by decide +kernel) ⟨Nat.le_of_ble_eq_true rfl, Nat.le_of_ble_eq_true rfl⟩) hI rfl (xl_27 ad cy a.2) rfl hl.1 rfl (Nat.le_of_ble_eq_true rfl) dX2_unlikeLaw_50 (Nat.zero_le _) (Nat.zero_le _) (fun H locs hI => ?_)
  refine z_if_eq (pc := 53) (tgt := 70) hx hb dX2_unlikeLaw_53 (by decide) hf (fun hf => ?_) (fun hf => ?_)
  · refine lv_iinc (pc := 70) (v := (a.1 + 1)) (lv' := [(3, .int (a.1 + 1)), (0, .ref (ad 27)), (1, .ref (ad 32)), (2, .int p2)]) hx hb dX2_unlikeLaw_70 hl (k := 3) rfl rfl (by decide) rfl (fun ls hl => ?_)
    refine lv_goto (pc := 73) (tgt := 31) hx hb dX2_unlikeLaw_73 (by decide) ?_
    exact hL _ (Option.some.inj hf).symm _ _ _ hI (lv_sub hl [1, 2, 3, 0] rfl)
  refine lv_aload_n (pc := 56) hx hb dX2_unlikeLaw_56 rfl (lv_at hl 1 rfl) ?_
  refine lv_iload_n (pc := 57) hx hb dX2_unlikeLaw_57 rfl (lv_at hl 3 rfl) ?_
  obtain ⟨q8, hc7, hf⟩ := zbind hf
  refine zcallVi (pc := 58) (As := [.int a.1]) (rest := []) ⟨hx, hb, hml, hown, hts⟩ (kX4_bestFor l D ad cy k a.1 a.2 q8.1 q8.2 hc7) (cwV 1 hts gX2_unlikeLaw_X4_bestFor rfl rfl rfl (by decide +kernel) ⟨Nat.le_of_ble_eq_true rfl, Nat.le_of_ble_eq_true rfl⟩) hI rfl (xl_32 ad cy a.2) rfl hl.1 rfl (Nat.le_of_ble_eq_true rfl) dX2_unlikeLaw_58 (Nat.zero_le _) (Nat.zero_le _) (fun H locs hI => ?_)
  refine lv_iload_n (pc := 61) hx hb dX2_unlikeLaw_61 rfl (lv_at hl 2 rfl) ?_
  refine z_icmp_eq (pc := 62) (tgt := 70) hx hb dX2_unlikeLaw_62 (by decide) hf (fun hf => ?_) (fun hf => ?_)
  · refine lv_iinc (pc := 70) (v := (a.1 + 1)) (lv' := [(3, .int (a.1 + 1)), (0, .ref (ad 27)), (1, .ref (ad 32)), (2, .int p2)]) hx hb dX2_unlikeLaw_70 hl (k := 3) rfl rfl (by decide) rfl (fun ls hl => ?_)
    refine lv_goto (pc := 73) (tgt := 31) hx hb dX2_unlikeLaw_73 (by decide) ?_
    exact hL _ (Option.some.inj hf).symm _ _ _ hI (lv_sub hl [1, 2, 3, 0] rfl)
  refine lv_aload_n (pc := 65) hx hb dX2_unlikeLaw_65 rfl (lv_at hl 0 rfl) ?_
  refine lv_iload_n (pc := 66) hx hb dX2_unlikeLaw_66 rfl (lv_at hl 3 rfl) ?_
  refine z_put (wf := WX ad cy) (pc := 67) (index := 33) hx hb hts iwX2_unlikeLaw_2 tyX2 tyX2_ok nmX2 hown hI (xl_27 ad cy q8.2) rfl 12 (by decide) (by decide +kernel) rfl rfl rfl rfl (Nat.le_of_ble_eq_true rfl) dX2_unlikeLaw_67 (xw_unlikeF ad cy q8.2 a.1) hf (fun u9 H locs hI hf => ?_)
  refine lv_iinc (pc := 70) (v := (a.1 + 1)) (lv' := [(3, .int (a.1 + 1)), (0, .ref (ad 27)), (1, .ref (ad 32)), (2, .int p2)]) hx hb dX2_unlikeLaw_70 hl (k := 3) rfl rfl (by decide) rfl (fun ls hl => ?_)
  refine lv_goto (pc := 73) (tgt := 31) hx hb dX2_unlikeLaw_73 (by decide) ?_
  exact hL _ (Option.some.inj hf).symm _ _ _ hI (lv_sub hl [1, 2, 3, 0] rfl)
set_option maxHeartbeats 4000000 in
set_option maxRecDepth 100000 in
theorem kX2_unlikeLaw (l : Launch) (D : va_G) (ad : Nat → Nat) (cy : Nat → ClassId) (k : Nat) (u : CX) (r : Int32) (u' : CX) (hf : fX2_unlikeLaw k u = some (r, u')) : zCt l yX2_unlikeLaw wsX2_unlikeLaw ({ frames := 4, cells := 0, slots := 0, locals := 92 } : Room) D ad cy [.ref (ad 27), .ref (ad 32)] (WX ad cy u) (some (.int r)) (WX ad cy u') := by
  refine zCt.of (cc := cX2_unlikeLaw) (maxL := 4) (ret := (some .int)) (own := RX2) (by decide) rfl rfl ?_
  intro p e s m below meth c A C0 hI
  obtain ⟨hx, hb, hml, hown, hts, hr, hlk⟩ := id C0
  refine z_entry (Nat.le_of_ble_eq_true rfl) (fun ls hl => ?_)
  have hl : lv_has ls 4 [(0, .ref (ad 27)), (1, .ref (ad 32))] := hl
  unfold fX2_unlikeLaw at hf
  refine lv_aload_n (pc := 0) hx hb dX2_unlikeLaw_0 rfl (lv_at hl 0 rfl) ?_
  refine z_get (pc := 1) (index := 33) hx hb hts iwX2_unlikeLaw_2 hown hI (xl_27 ad cy u) rfl 12 (by decide) (by decide +kernel) rfl rfl dX2_unlikeLaw_1 ?_
  refine lv_bipush (pc := 4) (v := -9) hx hb dX2_unlikeLaw_4 (by decide) ?_
  refine z_icmp_ne (pc := 6) (tgt := 76) hx hb dX2_unlikeLaw_6 (by decide) hf (fun hf => ?_) (fun hf => ?_)
  · refine lv_aload_n (pc := 76) hx hb dX2_unlikeLaw_76 rfl (lv_at hl 0 rfl) ?_
    refine z_get (pc := 77) (index := 33) hx hb hts iwX2_unlikeLaw_2 hown hI (xl_27 ad cy u) rfl 12 (by decide) (by decide +kernel) rfl rfl dX2_unlikeLaw_77 ?_
    cases hf
    exact z_iret (pc := 80) C0 hI dX2_unlikeLaw_80
  refine lv_aload_n (pc := 9) hx hb dX2_unlikeLaw_9 rfl (lv_at hl 0 rfl) ?_
  refine lv_bipush (pc := 10) (v := -4) hx hb dX2_unlikeLaw_10 (by decide) ?_
  refine z_put (wf := WX ad cy) (pc := 12) (index := 33) hx hb hts iwX2_unlikeLaw_2 tyX2 tyX2_ok nmX2 hown hI (xl_27 ad cy u) rfl 12 (by decide) (by decide +kernel) rfl rfl rfl rfl (Nat.le_of_ble_eq_true rfl) dX2_unlikeLaw_12 (xw_unlikeF ad cy u (-4 : Int32)) hf (fun u1 H locs hI hf => ?_)
  refine lv_aload_n (pc := 15) hx hb dX2_unlikeLaw_15 rfl (lv_at hl 1 rfl) ?_
  refine lv_aload_n (pc := 16) hx hb dX2_unlikeLaw_16 rfl (lv_at hl 0 rfl) ?_
  refine z_get (pc := 17) (index := 91) hx hb hts iwX2_unlikeLaw_2 hown hI (xl_27 ad cy u1) rfl 8 (by decide) (by decide +kernel) rfl rfl dX2_unlikeLaw_17 ?_
  obtain ⟨q3, hc2, hf⟩ := zbind hf
  refine zcallVi (pc := 20) (As := [.int (xg_gleast u1)]) (rest := []) ⟨hx, hb, hml, hown, hts⟩ (kX4_bestFor l D ad cy k (xg_gleast u1) u1 q3.1 q3.2 hc2) (cwV 1 hts gX2_unlikeLaw_X4_bestFor rfl rfl rfl (by decide +kernel) ⟨Nat.le_of_ble_eq_true rfl, Nat.le_of_ble_eq_true rfl⟩) hI rfl (xl_32 ad cy u1) rfl hl.1 rfl (Nat.le_of_ble_eq_true rfl) dX2_unlikeLaw_20 (Nat.zero_le _) (Nat.zero_le _) (fun H locs hI => ?_)
  refine lv_istore_n (pc := 23) (lv' := [(2, .int q3.1), (0, .ref (ad 27)), (1, .ref (ad 32))]) hx hb dX2_unlikeLaw_23 rfl hl (by decide) rfl (fun ls hl => ?_)
  refine lv_aload_n (pc := 24) hx hb dX2_unlikeLaw_24 rfl (lv_at hl 1 rfl) ?_
  refine z_get (pc := 25) (index := 91) hx hb hts iwX2_unlikeLaw_2 hown hI (xl_27 ad cy q3.2) rfl 8 (by decide) (by decide +kernel) rfl rfl dX2_unlikeLaw_25 ?_
  refine lv_iconst (pc := 28) (v := 1) hx hb dX2_unlikeLaw_28 (by decide) ?_
  refine lv_iadd (pc := 29) hx hb dX2_unlikeLaw_29 ?_
  refine z_bi hf (fun v4 hf => ?_)
  refine lv_istore_n (pc := 30) (lv' := [(3, .int v4), (2, .int q3.1), (0, .ref (ad 27)), (1, .ref (ad 32))]) hx hb dX2_unlikeLaw_30 rfl hl (by decide) rfl (fun ls hl => ?_)
  obtain ⟨b10, hb11, hf⟩ := zbind hf
  refine lX2_unlikeLaw_31 C0 hb11 ?_ _ _ _ hI (lv_sub hl [2, 3, 1, 0] rfl)
  intro H locs ls hI hl
  refine lv_aload_n (pc := 76) hx hb dX2_unlikeLaw_76 rfl (lv_at hl 0 rfl) ?_
  refine z_get (pc := 77) (index := 33) hx hb hts iwX2_unlikeLaw_2 hown hI (xl_27 ad cy b10) rfl 12 (by decide) (by decide +kernel) rfl rfl dX2_unlikeLaw_77 ?_
  cases hf
  exact z_iret (pc := 80) C0 hI dX2_unlikeLaw_80
end
