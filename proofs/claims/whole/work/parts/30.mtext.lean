def fX10_in (a1 : Int64) (a2 : Int64) (a3 : Int64) : Option (Int32) :=
  if a1 < a2 then
    some (0 : Int32)
  else
  if a3 < a1 then
    some (0 : Int32)
  else
  some (1 : Int32)
theorem iwX10_byteAt_10 : ∀ w ∈ wsX100, w ∈ wsX10_byteAt := by decide +kernel
def fX10_byteAt (a1 : Int32) (u : MX) : Option (Int32) :=
  if (mg_taped u) ≤ a1 then
    some (-4 : Int32)
  else
  zget 200 (mg_tape u) a1 (fun v1 =>
  some v1)
theorem iwX10_fails_10 : ∀ w ∈ wsX100, w ∈ wsX10_fails := by decide +kernel
def fX10_fails (a1 : Int32) (u : MX) : Option (MX) :=
  if (mg_wrong u) = 0 then
    zb (ms_wrong u a1) (fun u1 =>
    zb (ms_wrongAt u1 (mg_place u1)) (fun u2 =>
    some u2))
  else
  some u
theorem iwX10_next_10 : ∀ w ∈ wsX100, w ∈ wsX10_next := by decide +kernel
def bX10_next_8 (k : Nat) (a : MX) : Option ((MX) ⊕ (MX)) :=
  (fX10_byteAt (mg_spot a) a).bind (fun q2 =>
  if q2 = (32 : Int32) then
    zb (ms_spot a ((mg_spot a) + (1 : Int32))) (fun u3 =>
    some (.inl u3))
  else
  some (.inr a))
def bX10_next_140 (k : Nat) (a : MX) : Option ((MX) ⊕ (MX)) :=
  (fX10_byteAt (mg_spot a) a).bind (fun q19 =>
  (fX10_in (q19.toInt64) (48 : Int64) (57 : Int64)).bind (fun q21 =>
  if q21 = 0 then
    some (.inr a)
  else
  if (3 : Int32) ≤ ((mg_spot a) - (mg_place a)) then
    zb (ms_value a (mg_value a)) (fun u22 =>
    zb (ms_spot u22 ((mg_spot u22) + (1 : Int32))) (fun u23 =>
    some (.inl u23)))
  else
  (fX10_byteAt (mg_spot a) a).bind (fun q25 =>
  zb (ms_value a ((((10 : Int32) * (mg_value a)) + q25) - (48 : Int32))) (fun u26 =>
  zb (ms_spot u26 ((mg_spot u26) + (1 : Int32))) (fun u27 =>
  some (.inl u27))))))
def bX10_next_84 (k : Nat) (a : MX) : Option ((MX) ⊕ (MX)) :=
  (fX10_byteAt (mg_spot a) a).bind (fun q34 =>
  (fX10_in (q34.toInt64) (97 : Int64) (122 : Int64)).bind (fun q36 =>
  if q36 = 0 then
    some (.inr a)
  else
  zb (ms_spot a ((mg_spot a) + (1 : Int32))) (fun u37 =>
  some (.inl u37))))
def fX10_next (k : Nat) (u : MX) : Option (MX) :=
  if (mg_wrong u) ≤ 0 then
    (ziter (bX10_next_8 k) k u).bind (fun b4 =>
      zb (ms_place b4 (mg_spot b4)) (fun u6 =>
      (fX10_byteAt (mg_spot u6) u6).bind (fun q8 =>
      zb (ms_value u6 (0 : Int32)) (fun u9 =>
      if q8 = (-4 : Int32) then
        zb (ms_token u9 (0 : Int32)) (fun u41 =>
        some u41)
      else
      (fX10_in (q8.toInt64) (97 : Int64) (122 : Int64)).bind (fun q11 =>
      if q11 = 0 then
        (fX10_in (q8.toInt64) (48 : Int64) (57 : Int64)).bind (fun q13 =>
        if q13 = 0 then
          zb (ms_token u9 (3 : Int32)) (fun u14 =>
          zb (ms_spot u14 ((mg_spot u14) + (1 : Int32))) (fun u15 =>
          if q8 = (59 : Int32) then
            some u15
          else
          (fX10_fails (1 : Int32) u15).bind (fun q17 =>
          some q17)))
        else
        (ziter (bX10_next_140 k) k u9).bind (fun b28 =>
          zb (ms_token b28 (2 : Int32)) (fun u30 =>
          if ((mg_spot u30) - (mg_place u30)) ≤ (3 : Int32) then
            some u30
          else
          (fX10_fails (1 : Int32) u30).bind (fun q32 =>
          some q32))))
      else
      (ziter (bX10_next_84 k) k u9).bind (fun b38 =>
        zb (ms_token b38 (1 : Int32)) (fun u40 =>
        some u40)))))))
  else
  some u
theorem iwX10_nameHere_10 : ∀ w ∈ wsX100, w ∈ wsX10_nameHere := by decide +kernel
def bX10_nameHere_51 (k : Nat) (p1 : Int32) (u : MX) (a : Int32 × Int32) : Option ((Int32 × Int32) ⊕ (Int32)) :=
  if a.1 = 0 then
    some (.inr a.1)
  else
  if ((mg_spot u) - (mg_place u)) ≤ a.2 then
    some (.inr a.1)
  else
  (fX10_byteAt ((mg_place u) + a.2) u).bind (fun q2 =>
  zget 8 (mg_ends u) p1 (fun v3 =>
  zget 32 (mg_letters u) (v3 + a.2) (fun v4 =>
  if q2 = v4 then
    some (.inl ((1 : Int32), (a.2 + 1)))
  else
  some (.inl ((0 : Int32), (a.2 + 1))))))
def bX10_nameHere_2 (k : Nat) (u : MX) (a : Int32) : Option ((Int32) ⊕ ((Int32) ⊕ (Unit))) :=
  if (7 : Int32) ≤ a then
    some (.inr (.inr ()))
  else
  if (mg_token u) = (1 : Int32) then
    zget 8 (mg_ends u) (a + (1 : Int32)) (fun v7 =>
    zget 8 (mg_ends u) a (fun v8 =>
    if ((mg_spot u) - (mg_place u)) = (v7 - v8) then
      (ziter (bX10_nameHere_51 k a u) k ((1 : Int32), (0 : Int32))).bind (fun b11 =>
        if b11 = 0 then
          some (.inl (a + 1))
        else
        some (.inr (.inl a)))
    else
    (ziter (bX10_nameHere_51 k a u) k ((0 : Int32), (0 : Int32))).bind (fun b9 =>
      if b9 = 0 then
        some (.inl (a + 1))
      else
      some (.inr (.inl a)))))
  else
  (ziter (bX10_nameHere_51 k a u) k ((0 : Int32), (0 : Int32))).bind (fun b5 =>
    if b5 = 0 then
      some (.inl (a + 1))
    else
    some (.inr (.inl a)))
def fX10_nameHere (k : Nat) (u : MX) : Option (Int32) :=
  (ziter (bX10_nameHere_2 k u) k (0 : Int32)).bind
    (fun b13 => zel b13
     (fun b13 =>
        some b13)
      (fun b13 =>
        some (-4 : Int32)))
theorem iwX10_number_10 : ∀ w ∈ wsX100, w ∈ wsX10_number := by decide +kernel
def jX10_number_j20 (p1 : Int32) (p2 : Int32) (p3 : Int32) (u : MX) : Option (MX) :=
  if (mg_wrong u) = 0 then
    (fX10_in ((mg_value u).toInt64) (p2.toInt64) (p3.toInt64)).bind (fun q4 =>
    if q4 = 0 then
      (fX10_fails (3 : Int32) u).bind (fun q8 =>
      if (mg_wrong q8) = 0 then
        zix 19 p1 (fun j9 => zb (ms_reads q8 (upd (mg_reads q8) j9 (mg_value q8))) (fun u10 =>
        some u10))
      else
      some q8)
    else
    if (mg_wrong u) = 0 then
      zix 19 p1 (fun j5 => zb (ms_reads u (upd (mg_reads u) j5 (mg_value u))) (fun u6 =>
      some u6))
    else
    some u)
  else
  if (mg_wrong u) = 0 then
    zix 19 p1 (fun j1 => zb (ms_reads u (upd (mg_reads u) j1 (mg_value u))) (fun u2 =>
    some u2))
  else
  some u
def fX10_number (a1 : Int32) (a2 : Int32) (a3 : Int32) (u : MX) : Option (MX) :=
  if (mg_wrong u) = 0 then
    if (mg_token u) = (2 : Int32) then
      jX10_number_j20 a1 a2 a3 u
    else
    (fX10_fails (2 : Int32) u).bind (fun q12 =>
    jX10_number_j20 a1 a2 a3 q12)
  else
  jX10_number_j20 a1 a2 a3 u
theorem iwX10_once_10 : ∀ w ∈ wsX100, w ∈ wsX10_once := by decide +kernel
def fX10_once (a1 : Int32) (u : MX) : Option (MX) :=
  if (mg_wrong u) = 0 then
    if (((mg_toldOnes u) >>> (a1 &&& 31)) &&& (1 : Int32)) = (1 : Int32) then
      (fX10_fails (4 : Int32) u).bind (fun q4 =>
      zb (ms_toldOnes q4 ((mg_toldOnes q4) ||| ((1 : Int32) <<< (a1 &&& 31)))) (fun u5 =>
      some u5))
    else
    zb (ms_toldOnes u ((mg_toldOnes u) ||| ((1 : Int32) <<< (a1 &&& 31)))) (fun u2 =>
    some u2)
  else
  zb (ms_toldOnes u ((mg_toldOnes u) ||| ((1 : Int32) <<< (a1 &&& 31)))) (fun u1 =>
  some u1)
theorem iwX10_readLine_10 : ∀ w ∈ wsX100, w ∈ wsX10_readLine := by decide +kernel
def jX10_readLine_j286 (k : Nat) (t1 : Int32) (t2 : Int32) (t3 : Int32) (u : MX) : Option (MX) :=
  (fX10_number t1 t2 t3 u).bind (fun q8 =>
  (fX10_next k q8).bind (fun q10 =>
  if (mg_wrong q10) = 0 then
    if (mg_token q10) = (3 : Int32) then
      (fX10_next k q10).bind (fun q14 =>
      some q14)
    else
    (fX10_fails (2 : Int32) q10).bind (fun q16 =>
    (fX10_next k q16).bind (fun q18 =>
    some q18))
  else
  (fX10_next k q10).bind (fun q12 =>
  some q12)))
def bX10_readLine_162 (k : Nat) (a : Int32 × MX) : Option ((Int32 × MX) ⊕ (MX)) :=
  if (4 : Int32) ≤ a.1 then
    some (.inr a.2)
  else
  (fX10_next k a.2).bind (fun q22 =>
  (fX10_number ((12 : Int32) + a.1) (0 : Int32) (99 : Int32) q22).bind (fun q24 =>
  some (.inl ((a.1 + 1), q24))))
def jX10_readLine_j234 (k : Nat) (u : MX) : Option (MX) :=
  (fX10_next k u).bind (fun q28 =>
  if (mg_wrong q28) = 0 then
    if (mg_token q28) = (3 : Int32) then
      (fX10_next k q28).bind (fun q32 =>
      some q32)
    else
    (fX10_fails (2 : Int32) q28).bind (fun q34 =>
    (fX10_next k q34).bind (fun q36 =>
    some q36))
  else
  (fX10_next k q28).bind (fun q30 =>
  some q30))
def jX10_readLine_j139 (k : Nat) (t1 : Int32) (t2 : Int32) (t3 : Int32) (u : MX) : Option (MX) :=
  (fX10_number t1 t2 t3 u).bind (fun q50 =>
  (fX10_next k q50).bind (fun q52 =>
  if (mg_wrong q52) = 0 then
    if (mg_token q52) = (3 : Int32) then
      (fX10_next k q52).bind (fun q56 =>
      some q56)
    else
    (fX10_fails (2 : Int32) q52).bind (fun q58 =>
    (fX10_next k q58).bind (fun q60 =>
    some q60))
  else
  (fX10_next k q52).bind (fun q54 =>
  some q54)))
def jX10_readLine_j127 (k : Nat) (p1 : Int32) (t1 : Int32) (t2 : Int32) (u : MX) : Option (MX) :=
  if p1 = (1 : Int32) then
    jX10_readLine_j139 k t1 t2 (10 : Int32) u
  else
  jX10_readLine_j139 k t1 t2 (20 : Int32) u
def jX10_readLine_j106 (k : Nat) (p1 : Int32) (t0 : Int32) (u : MX) : Option (MX) :=
  (fX10_once t0 u).bind (fun q46 =>
  (fX10_next k q46).bind (fun q48 =>
  if p1 = 0 then
    jX10_readLine_j127 k p1 t0 (1 : Int32) q48
  else
  jX10_readLine_j127 k p1 t0 (0 : Int32) q48))
def jX10_readLine_j80 (k : Nat) (p1 : Int32) (u : MX) : Option (MX) :=
  if (mg_wrong u) = 0 then
    (fX10_byteAt (mg_place u) u).bind (fun q62 =>
    jX10_readLine_j106 k p1 ((((4 : Int32) * p1) + q62) - (97 : Int32)) u)
  else
  jX10_readLine_j106 k p1 (0 : Int32) u
def jX10_readLine_j75 (k : Nat) (p1 : Int32) (u : MX) : Option (MX) :=
  (fX10_fails (2 : Int32) u).bind (fun q64 =>
  jX10_readLine_j80 k p1 q64)
def fX10_readLine (k : Nat) (u : MX) : Option (MX) :=
  (fX10_nameHere k u).bind (fun q2 =>
  if q2 = (-4 : Int32) then
    (fX10_fails (2 : Int32) u).bind (fun q70 =>
    some q70)
  else
  if (3 : Int32) ≤ q2 then
    if q2 = (3 : Int32) then
      (fX10_once (12 : Int32) u).bind (fun q20 =>
      (ziter (bX10_readLine_162 k) k ((0 : Int32), q20)).bind (fun b25 =>
        if (mg_wrong b25) = 0 then
          zget 19 (mg_reads b25) (12 : Int32) (fun v37 =>
          zget 19 (mg_reads b25) (13 : Int32) (fun v38 =>
          zget 19 (mg_reads b25) (14 : Int32) (fun v39 =>
          zget 19 (mg_reads b25) (15 : Int32) (fun v40 =>
          if (((v37 + v38) + v39) + v40) = 0 then
            (fX10_fails (3 : Int32) b25).bind (fun q42 =>
            jX10_readLine_j234 k q42)
          else
          jX10_readLine_j234 k b25))))
        else
        jX10_readLine_j234 k b25))
    else
    (fX10_once (((16 : Int32) + q2) - (4 : Int32)) u).bind (fun q4 =>
    (fX10_next k q4).bind (fun q6 =>
    if q2 = (4 : Int32) then
      jX10_readLine_j286 k (((16 : Int32) + q2) - (4 : Int32)) (0 : Int32) (999 : Int32) q6
    else
    if q2 = (5 : Int32) then
      jX10_readLine_j286 k (((16 : Int32) + q2) - (4 : Int32)) (0 : Int32) (99 : Int32) q6
    else
    jX10_readLine_j286 k (((16 : Int32) + q2) - (4 : Int32)) (0 : Int32) (60 : Int32) q6))
  else
  (fX10_next k u).bind (fun q44 =>
  if (mg_wrong q44) = 0 then
    if (mg_token q44) = (1 : Int32) then
      if ((mg_spot q44) - (mg_place q44)) = (1 : Int32) then
        (fX10_byteAt (mg_place q44) q44).bind (fun q66 =>
        (fX10_in (q66.toInt64) (97 : Int64) (100 : Int64)).bind (fun q68 =>
        if q68 = 0 then
          jX10_readLine_j75 k q2 q44
        else
        jX10_readLine_j80 k q2 q44))
      else
      jX10_readLine_j75 k q2 q44
    else
    jX10_readLine_j75 k q2 q44
  else
  jX10_readLine_j80 k q2 q44))
theorem iwX10_text_10 : ∀ w ∈ wsX100, w ∈ wsX10_text := by decide +kernel
def bX10_text_19 (k : Nat) (p1 : Int32) (a : Int32 × MX) : Option ((Int32 × MX) ⊕ (MX)) :=
  if (19 : Int32) ≤ a.1 then
    some (.inr a.2)
  else
  zget 19 (mg_plain a.2) a.1 (fun v4 =>
  zix 19 a.1 (fun j5 => zb (ms_reads a.2 (upd (mg_reads a.2) j5 v4)) (fun u6 =>
  some (.inl ((a.1 + 1), u6)))))
def bX10_text_47 (k : Nat) (a : Int32 × MX) : Option ((Int32 × MX) ⊕ (Int32 × MX)) :=
  if (mg_wrong a.2) = 0 then
    if (mg_token a.2) = 0 then
      some (.inr (a.1, a.2))
    else
    (fX10_readLine k a.2).bind (fun q12 =>
    some (.inl ((a.1 + 1), q12)))
  else
  some (.inr (a.1, a.2))
def bX10_text_101 (k : Nat) (p1 : Int32) (a : Int32 × MX) : Option ((Int32 × MX) ⊕ (MX)) :=
  if (19 : Int32) ≤ a.1 then
    some (.inr a.2)
  else
  zget 19 (mg_reads a.2) a.1 (fun v17 =>
  zix 19 a.1 (fun j18 => zb (ms_holds a.2 (upd (mg_holds a.2) j18 v17)) (fun u19 =>
  some (.inl ((a.1 + 1), u19)))))
def jX10_text_j71 (k : Nat) (p1 : Int32) (u : MX) : Option (Int32 × MX) :=
  zb (ms_taped u (0 : Int32)) (fun u15 =>
  zb (ms_fault u15 (mg_wrong u15)) (fun u16 =>
  if (mg_wrong u16) ≤ 0 then
    (ziter (bX10_text_101 k p1) k ((0 : Int32), u16)).bind (fun b20 =>
      zb (ms_old b20 (1 : Int32)) (fun u22 =>
      some (p1, u22)))
  else
  some (((-10 : Int32) - (mg_wrongAt u16)), u16)))
def fX10_text (k : Nat) (u : MX) : Option (Int32 × MX) :=
  zb (ms_wrong u (0 : Int32)) (fun u1 =>
  zb (ms_spot u1 (0 : Int32)) (fun u2 =>
  zb (ms_toldOnes u2 (0 : Int32)) (fun u3 =>
  (ziter (bX10_text_19 k (0 : Int32)) k ((0 : Int32), u3)).bind (fun b7 =>
    (fX10_next k b7).bind (fun q10 =>
    (ziter (bX10_text_47 k) k ((0 : Int32), q10)).bind (fun b13 =>
      jX10_text_j71 k b13.1 b13.2))))))
theorem iwX10_feed_10 : ∀ w ∈ wsX100, w ∈ wsX10_feed := by decide +kernel
def bX10_feed_19 (k : Nat) (p1 : Int64) (a : Int32 × MX) : Option ((Int32 × MX) ⊕ (MX)) :=
  if a.1 < 0 then
    some (.inr a.2)
  else
  zix 200 (mg_taped a.2) (fun j1 => zb (ms_tape a.2 (upd (mg_tape a.2) j1 (((p1 >>> (a.1.toInt64 &&& 63)).toInt32) &&& (255 : Int32)))) (fun u2 =>
  zb (ms_taped u2 ((mg_taped u2) + (1 : Int32))) (fun u3 =>
  some (.inl ((a.1 + (-8)), u3)))))
def fX10_feed (k : Nat) (a1 : Int64) (u : MX) : Option (Int32 × MX) :=
  if ((mg_taped u) + (8 : Int32)) ≤ (200 : Int32) then
    (ziter (bX10_feed_19 k a1) k ((56 : Int32), u)).bind (fun b4 =>
      some ((mg_taped b4), b4))
  else
  some ((-3 : Int32), u)
theorem iwX10_end_10 : ∀ w ∈ wsX100, w ∈ wsX10_end := by decide +kernel
def fX10_end (a1 : Int32) (u : MX) : Option (Int32 × MX) :=
  (fX10_in (a1.toInt64) (0 : Int64) ((mg_taped u).toInt64)).bind (fun q2 =>
  if q2 = 0 then
    some ((-1 : Int32), u)
  else
  zb (mg_taped u) (fun v3 =>
  zb (ms_taped u a1) (fun u4 =>
  some (v3, u4))))
theorem iwX10_fault_10 : ∀ w ∈ wsX100, w ∈ wsX10_fault := by decide +kernel
def fX10_fault (u : MX) : Option (Int32) :=
  some (mg_fault u)
section
variable {p : Program} {l : Launch} {e : Env} {s : State} {m : MethodId} {args : Array Value} {below : List Frame} {meth : Method} {c : Code} {A : Nat → Prop} {Q : State → Prop} {D : va_G} {ad : Nat → Nat} {cy : Nat → ClassId}
set_option maxHeartbeats 4000000 in
set_option maxRecDepth 100000 in
theorem kX10_in (l : Launch) (a1 : Int64) (a2 : Int64) (a3 : Int64) (r : Int32) (hf : fX10_in a1 a2 a3 = some r) : zSt l yX10_in wsX10_in ({ frames := 0, cells := 0, slots := 0, locals := 0 } : Room) [.long a1, .long a2, .long a3] (some (.int r)) := by
  refine zSt.of (cc := cX10_in) (maxL := 6) (ret := (some .boolean)) (own := RX10) (by decide) rfl rfl ?_
  intro p e s m below meth c C0
  obtain ⟨hx, hb, hml, hown, hts, hr, hlk⟩ := id C0
  refine z_entry (Nat.le_of_ble_eq_true rfl) (fun ls hl => ?_)
  have hl : lv_has ls 6 [(0, .long a1), (2, .long a2), (4, .long a3)] := hl
  unfold fX10_in at hf
  refine lv_lload_n (pc := 0) hx hb dX10_in_0 rfl (lv_at hl 0 rfl) ?_
  refine lv_lload_n (pc := 1) hx hb dX10_in_1 rfl (lv_at hl 1 rfl) ?_
  refine z_lc_lt (pc := 2) (tgt := 17) hx hb dX10_in_2 dX10_in_3 (by decide) hf (fun hf => ?_) (fun hf => ?_)
  · refine lv_iconst (pc := 17) (v := 0) hx hb dX10_in_17 (by decide) ?_
    obtain rfl := zone hf
    exact z_szret (pc := 18) C0 (Or.inl rfl) dX10_in_18
  refine lv_lload_n (pc := 6) hx hb dX10_in_6 rfl (lv_at hl 0 rfl) ?_
  refine lv_lload (pc := 7) hx hb dX10_in_7 (lv_at hl 2 rfl) ?_
  refine z_lc_gt (pc := 9) (tgt := 17) hx hb dX10_in_9 dX10_in_10 (by decide) hf (fun hf => ?_) (fun hf => ?_)
  · refine lv_iconst (pc := 17) (v := 0) hx hb dX10_in_17 (by decide) ?_
    obtain rfl := zone hf
    exact z_szret (pc := 18) C0 (Or.inl rfl) dX10_in_18
  refine lv_iconst (pc := 13) (v := 1) hx hb dX10_in_13 (by decide) ?_
  refine lv_goto (pc := 14) (tgt := 18) hx hb dX10_in_14 (by decide) ?_
  obtain rfl := zone hf
  exact z_szret (pc := 18) C0 (Or.inr rfl) dX10_in_18
set_option maxHeartbeats 4000000 in
set_option maxRecDepth 100000 in
theorem kX10_byteAt (l : Launch) (D : va_G) (ad : Nat → Nat) (cy : Nat → ClassId) (a1 : Int32) (u : MX) (r : Int32) (hf : fX10_byteAt a1 u = some r) : zCt l yX10_byteAt wsX10_byteAt ({ frames := 0, cells := 0, slots := 0, locals := 0 } : Room) D ad cy [.ref (ad 0), .int a1] (WM ad cy u) (some (.int r)) (WM ad cy u) := by
  refine zCt.of (cc := cX10_byteAt) (maxL := 2) (ret := (some .int)) (own := RX10) (by decide) rfl rfl ?_
  intro p e s m below meth c A C0 hI
  obtain ⟨hx, hb, hml, hown, hts, hr, hlk⟩ := id C0
  refine z_entry (Nat.le_of_ble_eq_true rfl) (fun ls hl => ?_)
  have hl : lv_has ls 2 [(0, .ref (ad 0)), (1, .int a1)] := hl
  unfold fX10_byteAt at hf
  refine lv_iload_n (pc := 0) hx hb dX10_byteAt_0 rfl (lv_at hl 1 rfl) ?_
  refine lv_aload_n (pc := 1) hx hb dX10_byteAt_1 rfl (lv_at hl 0 rfl) ?_
  refine z_get (pc := 2) (index := 63) hx hb hts iwX10_byteAt_10 hown hI (ml_0 ad cy u) rfl 1 (by decide) (by decide +kernel) rfl rfl dX10_byteAt_2 ?_
  refine z_icmp_ge (pc := 5) (tgt := 17) hx hb dX10_byteAt_5 (by decide) hf (fun hf => ?_) (fun hf => ?_)
  · refine lv_bipush (pc := 17) (v := -4) hx hb dX10_byteAt_17 (by decide) ?_
    obtain rfl := zone hf
    exact z_iret (pc := 19) C0 hI dX10_byteAt_19
  refine lv_aload_n (pc := 8) hx hb dX10_byteAt_8 rfl (lv_at hl 0 rfl) ?_
  refine z_get (pc := 9) (index := 7) hx hb hts iwX10_byteAt_10 hown hI (ml_0 ad cy u) rfl 0 (by decide) (by decide +kernel) rfl rfl dX10_byteAt_9 ?_
  refine lv_iload_n (pc := 12) hx hb dX10_byteAt_12 rfl (lv_at hl 1 rfl) ?_
  refine z_iald (pc := 13) hx hb hI (ml_1 ad cy u) 0 rfl dX10_byteAt_13 hf (fun v1 hf => ?_)
  refine lv_goto (pc := 14) (tgt := 19) hx hb dX10_byteAt_14 (by decide) ?_
  obtain rfl := zone hf
  exact z_iret (pc := 19) C0 hI dX10_byteAt_19
set_option maxHeartbeats 4000000 in
set_option maxRecDepth 100000 in
theorem kX10_fails (l : Launch) (D : va_G) (ad : Nat → Nat) (cy : Nat → ClassId) (a1 : Int32) (u : MX) (u' : MX) (hf : fX10_fails a1 u = some u') : zCt l yX10_fails wsX10_fails ({ frames := 0, cells := 0, slots := 0, locals := 0 } : Room) D ad cy [.ref (ad 0), .int a1] (WM ad cy u) none (WM ad cy u') := by
  refine zCt.of (cc := cX10_fails) (maxL := 2) (ret := none) (own := RX10) (by decide) rfl rfl ?_
  intro p e s m below meth c A C0 hI
  obtain ⟨hx, hb, hml, hown, hts, hr, hlk⟩ := id C0
  refine z_entry (Nat.le_of_ble_eq_true rfl) (fun ls hl => ?_)
  have hl : lv_has ls 2 [(0, .ref (ad 0)), (1, .int a1)] := hl
  unfold fX10_fails at hf
  refine lv_aload_n (pc := 0) hx hb dX10_fails_0 rfl (lv_at hl 0 rfl) ?_
  refine z_get (pc := 1) (index := 71) hx hb hts iwX10_fails_10 hown hI (ml_0 ad cy u) rfl 3 (by decide) (by decide +kernel) rfl rfl dX10_fails_1 ?_
  refine z_if_ne (pc := 4) (tgt := 20) hx hb dX10_fails_4 (by decide) hf (fun hf => ?_) (fun hf => ?_)
  · obtain rfl := zone hf
    exact z_vret (pc := 20) C0 hI dX10_fails_20
  refine lv_aload_n (pc := 7) hx hb dX10_fails_7 rfl (lv_at hl 0 rfl) ?_
  refine lv_iload_n (pc := 8) hx hb dX10_fails_8 rfl (lv_at hl 1 rfl) ?_
  refine z_put (wf := WM ad cy) (pc := 9) (index := 71) hx hb hts iwX10_fails_10 tyX10 tyX10_ok nmX10 hown hI (ml_0 ad cy u) rfl 3 (by decide) (by decide +kernel) rfl rfl rfl rfl (Nat.le_of_ble_eq_true rfl) dX10_fails_9 (mw_wrong ad cy u a1) hf (fun u1 H locs hI hf => ?_)
  refine lv_aload_n (pc := 12) hx hb dX10_fails_12 rfl (lv_at hl 0 rfl) ?_
  refine lv_aload_n (pc := 13) hx hb dX10_fails_13 rfl (lv_at hl 0 rfl) ?_
  refine z_get (pc := 14) (index := 74) hx hb hts iwX10_fails_10 hown hI (ml_0 ad cy u1) rfl 6 (by decide) (by decide +kernel) rfl rfl dX10_fails_14 ?_
  refine z_put (wf := WM ad cy) (pc := 17) (index := 77) hx hb hts iwX10_fails_10 tyX10 tyX10_ok nmX10 hown hI (ml_0 ad cy u1) rfl 4 (by decide) (by decide +kernel) rfl rfl rfl rfl (Nat.le_of_ble_eq_true rfl) dX10_fails_17 (mw_wrongAt ad cy u1 (mg_place u1)) hf (fun u2 H locs hI hf => ?_)
  obtain rfl := zone hf
  exact z_vret (pc := 20) C0 hI dX10_fails_20
set_option maxHeartbeats 4000000 in
set_option maxRecDepth 100000 in
theorem lX10_next_8 (C0 : zFix p m c cX10_next 2 s args wsX10_next RX10 meth none) {k : Nat} {a : MX} {b : MX} (hit : ziter (bX10_next_8 k) k a = some b) (hx9 : (fun (b : MX) => ∀ (H : Heap) (locs : List Loc) (ls : Array Slot), zIn D ad cy (WM ad cy b) A s H locs → lv_has ls 2 [(0, .ref (ad 0))] → W p l e ({ frames := 1, cells := 0, slots := 0, locals := 25 } : Room) s m args below meth c H locs 0 0 Q (F0 m 34 ls [])) b) : (fun (a : MX) => ∀ (H : Heap) (locs : List Loc) (ls : Array Slot), zIn D ad cy (WM ad cy a) A s H locs → lv_has ls 2 [(0, .ref (ad 0))] → W p l e ({ frames := 1, cells := 0, slots := 0, locals := 25 } : Room) s m args below meth c H locs 0 0 Q (F0 m 8 ls [])) a := by
  obtain ⟨hx, hb, hml, hown, hts, hr, hlk⟩ := id C0
  refine zloop (Wh := (fun (a : MX) => ∀ (H : Heap) (locs : List Loc) (ls : Array Slot), zIn D ad cy (WM ad cy a) A s H locs → lv_has ls 2 [(0, .ref (ad 0))] → W p l e ({ frames := 1, cells := 0, slots := 0, locals := 25 } : Room) s m args below meth c H locs 0 0 Q (F0 m 8 ls []))) (Wx := (fun (b : MX) => ∀ (H : Heap) (locs : List Loc) (ls : Array Slot), zIn D ad cy (WM ad cy b) A s H locs → lv_has ls 2 [(0, .ref (ad 0))] → W p l e ({ frames := 1, cells := 0, slots := 0, locals := 25 } : Room) s m args below meth c H locs 0 0 Q (F0 m 34 ls []))) ?_ _ a b hit hx9
  intro a x hf hL hX H locs ls hI hl
  unfold bX10_next_8 at hf
  refine lv_aload_n (pc := 8) hx hb dX10_next_8 rfl (lv_at hl 0 rfl) ?_
  refine lv_aload_n (pc := 9) hx hb dX10_next_9 rfl (lv_at hl 0 rfl) ?_
  refine z_get (pc := 10) (index := 80) hx hb hts iwX10_next_10 hown hI (ml_0 ad cy a) rfl 5 (by decide) (by decide +kernel) rfl rfl dX10_next_10 ?_
  obtain ⟨q2, hc1, hf⟩ := zbind hf
  refine zcallVi (pc := 13) (As := [.int (mg_spot a)]) (rest := []) ⟨hx, hb, hml, hown, hts⟩ (kX10_byteAt l D ad cy (mg_spot a) a q2 hc1) (cwV 1 hts gX10_next_X10_byteAt rfl rfl rfl (by decide +kernel) ⟨Nat.le_of_ble_eq_true rfl, Nat.le_of_ble_eq_true rfl⟩) hI rfl (ml_0 ad cy a) rfl hl.1 rfl (Nat.le_of_ble_eq_true rfl) dX10_next_13 (Nat.zero_le _) (Nat.zero_le _) (fun H locs hI => ?_)
  refine lv_bipush (pc := 16) (v := 32) hx hb dX10_next_16 (by decide) ?_
  refine z_icmp_ne (pc := 18) (tgt := 34) hx hb dX10_next_18 (by decide) hf (fun hf => ?_) (fun hf => ?_)
  · exact (hX _ (Option.some.inj hf).symm) _ _ _ hI (lv_sub hl [0] rfl)
  refine lv_aload_n (pc := 21) hx hb dX10_next_21 rfl (lv_at hl 0 rfl) ?_
  refine lv_dup (pc := 22) hx hb dX10_next_22 rfl ?_
  refine z_get (pc := 23) (index := 80) hx hb hts iwX10_next_10 hown hI (ml_0 ad cy a) rfl 5 (by decide) (by decide +kernel) rfl rfl dX10_next_23 ?_
  refine lv_iconst (pc := 26) (v := 1) hx hb dX10_next_26 (by decide) ?_
  refine lv_iadd (pc := 27) hx hb dX10_next_27 ?_
  refine z_put (wf := WM ad cy) (pc := 28) (index := 80) hx hb hts iwX10_next_10 tyX10 tyX10_ok nmX10 hown hI (ml_0 ad cy a) rfl 5 (by decide) (by decide +kernel) rfl rfl rfl rfl (Nat.le_of_ble_eq_true rfl) dX10_next_28 (mw_spot ad cy a ((mg_spot a) + (1 : Int32))) hf (fun u3 H locs hI hf => ?_)
  refine lv_goto (pc := 31) (tgt := 8) hx hb dX10_next_31 (by decide) ?_
  exact hL _ (Option.some.inj hf).symm _ _ _ hI (lv_sub hl [0] rfl)
set_option maxHeartbeats 4000000 in
set_option maxRecDepth 100000 in
theorem lX10_next_140 (C0 : zFix p m c cX10_next 2 s args wsX10_next RX10 meth none) {k : Nat} {a : MX} {b : MX} (hit : ziter (bX10_next_140 k) k a = some b) (hx9 : (fun (b : MX) => ∀ (H : Heap) (locs : List Loc) (ls : Array Slot), zIn D ad cy (WM ad cy b) A s H locs → lv_has ls 2 [(0, .ref (ad 0))] → W p l e ({ frames := 1, cells := 0, slots := 0, locals := 25 } : Room) s m args below meth c H locs 0 0 Q (F0 m 217 ls [])) b) : (fun (a : MX) => ∀ (H : Heap) (locs : List Loc) (ls : Array Slot), zIn D ad cy (WM ad cy a) A s H locs → lv_has ls 2 [(0, .ref (ad 0))] → W p l e ({ frames := 1, cells := 0, slots := 0, locals := 25 } : Room) s m args below meth c H locs 0 0 Q (F0 m 140 ls [])) a := by
  obtain ⟨hx, hb, hml, hown, hts, hr, hlk⟩ := id C0
  refine zloop (Wh := (fun (a : MX) => ∀ (H : Heap) (locs : List Loc) (ls : Array Slot), zIn D ad cy (WM ad cy a) A s H locs → lv_has ls 2 [(0, .ref (ad 0))] → W p l e ({ frames := 1, cells := 0, slots := 0, locals := 25 } : Room) s m args below meth c H locs 0 0 Q (F0 m 140 ls []))) (Wx := (fun (b : MX) => ∀ (H : Heap) (locs : List Loc) (ls : Array Slot), zIn D ad cy (WM ad cy b) A s H locs → lv_has ls 2 [(0, .ref (ad 0))] → W p l e ({ frames := 1, cells := 0, slots := 0, locals := 25 } : Room) s m args below meth c H locs 0 0 Q (F0 m 217 ls []))) ?_ _ a b hit hx9
  intro a x hf hL hX H locs ls hI hl
  unfold bX10_next_140 at hf
  refine lv_aload_n (pc := 140) hx hb dX10_next_140 rfl (lv_at hl 0 rfl) ?_
  refine lv_aload_n (pc := 141) hx hb dX10_next_141 rfl (lv_at hl 0 rfl) ?_
  refine z_get (pc := 142) (index := 80) hx hb hts iwX10_next_10 hown hI (ml_0 ad cy a) rfl 5 (by decide) (by decide +kernel) rfl rfl dX10_next_142 ?_
  obtain ⟨q19, hc18, hf⟩ := zbind hf
  refine zcallVi (pc := 145) (As := [.int (mg_spot a)]) (rest := []) ⟨hx, hb, hml, hown, hts⟩ (kX10_byteAt l D ad cy (mg_spot a) a q19 hc18) (cwV 1 hts gX10_next_X10_byteAt rfl rfl rfl (by decide +kernel) ⟨Nat.le_of_ble_eq_true rfl, Nat.le_of_ble_eq_true rfl⟩) hI rfl (ml_0 ad cy a) rfl hl.1 rfl (Nat.le_of_ble_eq_true rfl) dX10_next_145 (Nat.zero_le _) (Nat.zero_le _) (fun H locs hI => ?_)
  refine lv_i2l (pc := 148) hx hb dX10_next_148 rfl ?_
  refine lv_ldc2 (pc := 149) (v := 48) hx hb hown (hts (.constantLong RX10 97 (48)) (by decide +kernel)) dX10_next_149 ?_
  refine lv_ldc2 (pc := 152) (v := 57) hx hb hown (hts (.constantLong RX10 99 (57)) (by decide +kernel)) dX10_next_152 ?_
  obtain ⟨q21, hc20, hf⟩ := zbind hf
  refine zcallSi (pc := 155) (As := [.long (q19.toInt64), .long (48 : Int64), .long (57 : Int64)]) (rest := []) ⟨hx, hb, hml, hown, hts⟩ (kX10_in l (q19.toInt64) (48 : Int64) (57 : Int64) q21 hc20) (va_cwS 3 hts gX10_next_X10_in rfl rfl rfl (by decide +kernel) ⟨Nat.le_of_ble_eq_true rfl, Nat.le_of_ble_eq_true rfl⟩) rfl hl.1 rfl (Nat.le_of_ble_eq_true rfl) dX10_next_155 (Nat.zero_le _) (Nat.zero_le _) ?_
  refine z_if_eq (pc := 158) (tgt := 217) hx hb dX10_next_158 (by decide) hf (fun hf => ?_) (fun hf => ?_)
  · exact (hX _ (Option.some.inj hf).symm) _ _ _ hI (lv_sub hl [0] rfl)
  refine lv_aload_n (pc := 161) hx hb dX10_next_161 rfl (lv_at hl 0 rfl) ?_
  refine lv_aload_n (pc := 162) hx hb dX10_next_162 rfl (lv_at hl 0 rfl) ?_
  refine z_get (pc := 163) (index := 80) hx hb hts iwX10_next_10 hown hI (ml_0 ad cy a) rfl 5 (by decide) (by decide +kernel) rfl rfl dX10_next_163 ?_
  refine lv_aload_n (pc := 166) hx hb dX10_next_166 rfl (lv_at hl 0 rfl) ?_
  refine z_get (pc := 167) (index := 74) hx hb hts iwX10_next_10 hown hI (ml_0 ad cy a) rfl 6 (by decide) (by decide +kernel) rfl rfl dX10_next_167 ?_
  refine lv_isub (pc := 170) hx hb dX10_next_170 ?_
  refine lv_iconst (pc := 171) (v := 3) hx hb dX10_next_171 (by decide) ?_
  refine z_icmp_ge (pc := 172) (tgt := 197) hx hb dX10_next_172 (by decide) hf (fun hf => ?_) (fun hf => ?_)
  · refine lv_aload_n (pc := 197) hx hb dX10_next_197 rfl (lv_at hl 0 rfl) ?_
    refine z_get (pc := 198) (index := 87) hx hb hts iwX10_next_10 hown hI (ml_0 ad cy a) rfl 8 (by decide) (by decide +kernel) rfl rfl dX10_next_198 ?_
    refine z_put (wf := WM ad cy) (pc := 201) (index := 87) hx hb hts iwX10_next_10 tyX10 tyX10_ok nmX10 hown hI (ml_0 ad cy a) rfl 8 (by decide) (by decide +kernel) rfl rfl rfl rfl (Nat.le_of_ble_eq_true rfl) dX10_next_201 (mw_value ad cy a (mg_value a)) hf (fun u22 H locs hI hf => ?_)
    refine lv_aload_n (pc := 204) hx hb dX10_next_204 rfl (lv_at hl 0 rfl) ?_
    refine lv_dup (pc := 205) hx hb dX10_next_205 rfl ?_
    refine z_get (pc := 206) (index := 80) hx hb hts iwX10_next_10 hown hI (ml_0 ad cy u22) rfl 5 (by decide) (by decide +kernel) rfl rfl dX10_next_206 ?_
    refine lv_iconst (pc := 209) (v := 1) hx hb dX10_next_209 (by decide) ?_
    refine lv_iadd (pc := 210) hx hb dX10_next_210 ?_
    refine z_put (wf := WM ad cy) (pc := 211) (index := 80) hx hb hts iwX10_next_10 tyX10 tyX10_ok nmX10 hown hI (ml_0 ad cy u22) rfl 5 (by decide) (by decide +kernel) rfl rfl rfl rfl (Nat.le_of_ble_eq_true rfl) dX10_next_211 (mw_spot ad cy u22 ((mg_spot u22) + (1 : Int32))) hf (fun u23 H locs hI hf => ?_)
    refine lv_goto (pc := 214) (tgt := 140) hx hb dX10_next_214 (by decide) ?_
    exact hL _ (Option.some.inj hf).symm _ _ _ hI (lv_sub hl [0] rfl)
  refine lv_bipush (pc := 175) (v := 10) hx hb dX10_next_175 (by decide) ?_
  refine lv_aload_n (pc := 177) hx hb dX10_next_177 rfl (lv_at hl 0 rfl) ?_
  refine z_get (pc := 178) (index := 87) hx hb hts iwX10_next_10 hown hI (ml_0 ad cy a) rfl 8 (by decide) (by decide +kernel) rfl rfl dX10_next_178 ?_
  refine lv_imul (pc := 181) hx hb dX10_next_181 ?_
  refine lv_aload_n (pc := 182) hx hb dX10_next_182 rfl (lv_at hl 0 rfl) ?_
  refine lv_aload_n (pc := 183) hx hb dX10_next_183 rfl (lv_at hl 0 rfl) ?_
  refine z_get (pc := 184) (index := 80) hx hb hts iwX10_next_10 hown hI (ml_0 ad cy a) rfl 5 (by decide) (by decide +kernel) rfl rfl dX10_next_184 ?_
  obtain ⟨q25, hc24, hf⟩ := zbind hf
  refine zcallVi (pc := 187) (As := [.int (mg_spot a)]) (rest := [.int ((10 : Int32) * (mg_value a)), .ref (ad 0)]) ⟨hx, hb, hml, hown, hts⟩ (kX10_byteAt l D ad cy (mg_spot a) a q25 hc24) (cwV 1 hts gX10_next_X10_byteAt rfl rfl rfl (by decide +kernel) ⟨Nat.le_of_ble_eq_true rfl, Nat.le_of_ble_eq_true rfl⟩) hI rfl (ml_0 ad cy a) rfl hl.1 rfl (Nat.le_of_ble_eq_true rfl) dX10_next_187 (Nat.zero_le _) (Nat.zero_le _) (fun H locs hI => ?_)
  refine lv_iadd (pc := 190) hx hb dX10_next_190 ?_
  refine lv_bipush (pc := 191) (v := 48) hx hb dX10_next_191 (by decide) ?_
  refine lv_isub (pc := 193) hx hb dX10_next_193 ?_
  refine lv_goto (pc := 194) (tgt := 201) hx hb dX10_next_194 (by decide) ?_
  refine z_put (wf := WM ad cy) (pc := 201) (index := 87) hx hb hts iwX10_next_10 tyX10 tyX10_ok nmX10 hown hI (ml_0 ad cy a) rfl 8 (by decide) (by decide +kernel) rfl rfl rfl rfl (Nat.le_of_ble_eq_true rfl) dX10_next_201 (mw_value ad cy a ((((10 : Int32) * (mg_value a)) + q25) - (48 : Int32))) hf (fun u26 H locs hI hf => ?_)
  refine lv_aload_n (pc := 204) hx hb dX10_next_204 rfl (lv_at hl 0 rfl) ?_
  refine lv_dup (pc := 205) hx hb dX10_next_205 rfl ?_
  refine z_get (pc := 206) (index := 80) hx hb hts iwX10_next_10 hown hI (ml_0 ad cy u26) rfl 5 (by decide) (by decide +kernel) rfl rfl dX10_next_206 ?_
  refine lv_iconst (pc := 209) (v := 1) hx hb dX10_next_209 (by decide) ?_
  refine lv_iadd (pc := 210) hx hb dX10_next_210 ?_
  refine z_put (wf := WM ad cy) (pc := 211) (index := 80) hx hb hts iwX10_next_10 tyX10 tyX10_ok nmX10 hown hI (ml_0 ad cy u26) rfl 5 (by decide) (by decide +kernel) rfl rfl rfl rfl (Nat.le_of_ble_eq_true rfl) dX10_next_211 (mw_spot ad cy u26 ((mg_spot u26) + (1 : Int32))) hf (fun u27 H locs hI hf => ?_)
  refine lv_goto (pc := 214) (tgt := 140) hx hb dX10_next_214 (by decide) ?_
  exact hL _ (Option.some.inj hf).symm _ _ _ hI (lv_sub hl [0] rfl)
set_option maxHeartbeats 4000000 in
set_option maxRecDepth 100000 in
theorem lX10_next_84 (C0 : zFix p m c cX10_next 2 s args wsX10_next RX10 meth none) {k : Nat} {a : MX} {b : MX} (hit : ziter (bX10_next_84 k) k a = some b) (hx9 : (fun (b : MX) => ∀ (H : Heap) (locs : List Loc) (ls : Array Slot), zIn D ad cy (WM ad cy b) A s H locs → lv_has ls 2 [(0, .ref (ad 0))] → W p l e ({ frames := 1, cells := 0, slots := 0, locals := 25 } : Room) s m args below meth c H locs 0 0 Q (F0 m 118 ls [])) b) : (fun (a : MX) => ∀ (H : Heap) (locs : List Loc) (ls : Array Slot), zIn D ad cy (WM ad cy a) A s H locs → lv_has ls 2 [(0, .ref (ad 0))] → W p l e ({ frames := 1, cells := 0, slots := 0, locals := 25 } : Room) s m args below meth c H locs 0 0 Q (F0 m 84 ls [])) a := by
  obtain ⟨hx, hb, hml, hown, hts, hr, hlk⟩ := id C0
  refine zloop (Wh := (fun (a : MX) => ∀ (H : Heap) (locs : List Loc) (ls : Array Slot), zIn D ad cy (WM ad cy a) A s H locs → lv_has ls 2 [(0, .ref (ad 0))] → W p l e ({ frames := 1, cells := 0, slots := 0, locals := 25 } : Room) s m args below meth c H locs 0 0 Q (F0 m 84 ls []))) (Wx := (fun (b : MX) => ∀ (H : Heap) (locs : List Loc) (ls : Array Slot), zIn D ad cy (WM ad cy b) A s H locs → lv_has ls 2 [(0, .ref (ad 0))] → W p l e ({ frames := 1, cells := 0, slots := 0, locals := 25 } : Room) s m args below meth c H locs 0 0 Q (F0 m 118 ls []))) ?_ _ a b hit hx9
  intro a x hf hL hX H locs ls hI hl
  unfold bX10_next_84 at hf
  refine lv_aload_n (pc := 84) hx hb dX10_next_84 rfl (lv_at hl 0 rfl) ?_
  refine lv_aload_n (pc := 85) hx hb dX10_next_85 rfl (lv_at hl 0 rfl) ?_
  refine z_get (pc := 86) (index := 80) hx hb hts iwX10_next_10 hown hI (ml_0 ad cy a) rfl 5 (by decide) (by decide +kernel) rfl rfl dX10_next_86 ?_
  obtain ⟨q34, hc33, hf⟩ := zbind hf
  refine zcallVi (pc := 89) (As := [.int (mg_spot a)]) (rest := []) ⟨hx, hb, hml, hown, hts⟩ (kX10_byteAt l D ad cy (mg_spot a) a q34 hc33) (cwV 1 hts gX10_next_X10_byteAt rfl rfl rfl (by decide +kernel) ⟨Nat.le_of_ble_eq_true rfl, Nat.le_of_ble_eq_true rfl⟩) hI rfl (ml_0 ad cy a) rfl hl.1 rfl (Nat.le_of_ble_eq_true rfl) dX10_next_89 (Nat.zero_le _) (Nat.zero_le _) (fun H locs hI => ?_)
  refine lv_i2l (pc := 92) hx hb dX10_next_92 rfl ?_
  refine lv_ldc2 (pc := 93) (v := 97) hx hb hown (hts (.constantLong RX10 93 (97)) (by decide +kernel)) dX10_next_93 ?_
  refine lv_ldc2 (pc := 96) (v := 122) hx hb hown (hts (.constantLong RX10 95 (122)) (by decide +kernel)) dX10_next_96 ?_
  obtain ⟨q36, hc35, hf⟩ := zbind hf
  refine zcallSi (pc := 99) (As := [.long (q34.toInt64), .long (97 : Int64), .long (122 : Int64)]) (rest := []) ⟨hx, hb, hml, hown, hts⟩ (kX10_in l (q34.toInt64) (97 : Int64) (122 : Int64) q36 hc35) (va_cwS 3 hts gX10_next_X10_in rfl rfl rfl (by decide +kernel) ⟨Nat.le_of_ble_eq_true rfl, Nat.le_of_ble_eq_true rfl⟩) rfl hl.1 rfl (Nat.le_of_ble_eq_true rfl) dX10_next_99 (Nat.zero_le _) (Nat.zero_le _) ?_
  refine z_if_eq (pc := 102) (tgt := 118) hx hb dX10_next_102 (by decide) hf (fun hf => ?_) (fun hf => ?_)
  · exact (hX _ (Option.some.inj hf).symm) _ _ _ hI (lv_sub hl [0] rfl)
  refine lv_aload_n (pc := 105) hx hb dX10_next_105 rfl (lv_at hl 0 rfl) ?_
  refine lv_dup (pc := 106) hx hb dX10_next_106 rfl ?_
  refine z_get (pc := 107) (index := 80) hx hb hts iwX10_next_10 hown hI (ml_0 ad cy a) rfl 5 (by decide) (by decide +kernel) rfl rfl dX10_next_107 ?_
  refine lv_iconst (pc := 110) (v := 1) hx hb dX10_next_110 (by decide) ?_
  refine lv_iadd (pc := 111) hx hb dX10_next_111 ?_
  refine z_put (wf := WM ad cy) (pc := 112) (index := 80) hx hb hts iwX10_next_10 tyX10 tyX10_ok nmX10 hown hI (ml_0 ad cy a) rfl 5 (by decide) (by decide +kernel) rfl rfl rfl rfl (Nat.le_of_ble_eq_true rfl) dX10_next_112 (mw_spot ad cy a ((mg_spot a) + (1 : Int32))) hf (fun u37 H locs hI hf => ?_)
  refine lv_goto (pc := 115) (tgt := 84) hx hb dX10_next_115 (by decide) ?_
  exact hL _ (Option.some.inj hf).symm _ _ _ hI (lv_sub hl [0] rfl)
set_option maxHeartbeats 4000000 in
set_option maxRecDepth 100000 in
theorem kX10_next (l : Launch) (D : va_G) (ad : Nat → Nat) (cy : Nat → ClassId) (k : Nat) (u : MX) (u' : MX) (hf : fX10_next k u = some u') : zCt l yX10_next wsX10_next ({ frames := 1, cells := 0, slots := 0, locals := 25 } : Room) D ad cy [.ref (ad 0)] (WM ad cy u) none (WM ad cy u') := by
  refine zCt.of (cc := cX10_next) (maxL := 2) (ret := none) (own := RX10) (by decide) rfl rfl ?_
  intro p e s m below meth c A C0 hI
  obtain ⟨hx, hb, hml, hown, hts, hr, hlk⟩ := id C0
  refine z_entry (Nat.le_of_ble_eq_true rfl) (fun ls hl => ?_)
  have hl : lv_has ls 2 [(0, .ref (ad 0))] := hl
  unfold fX10_next at hf
  refine lv_aload_n (pc := 0) hx hb dX10_next_0 rfl (lv_at hl 0 rfl) ?_
  refine z_get (pc := 1) (index := 71) hx hb hts iwX10_next_10 hown hI (ml_0 ad cy u) rfl 3 (by decide) (by decide +kernel) rfl rfl dX10_next_1 ?_
  refine z_if_le (pc := 4) (tgt := 8) hx hb dX10_next_4 (by decide) hf (fun hf => ?_) (fun hf => ?_)
  · obtain ⟨b4, hb5, hf⟩ := zbind hf
    refine lX10_next_8 C0 hb5 ?_ _ _ _ hI (lv_sub hl [0] rfl)
    intro H locs ls hI hl
    refine lv_aload_n (pc := 34) hx hb dX10_next_34 rfl (lv_at hl 0 rfl) ?_
    refine lv_aload_n (pc := 35) hx hb dX10_next_35 rfl (lv_at hl 0 rfl) ?_
    refine z_get (pc := 36) (index := 80) hx hb hts iwX10_next_10 hown hI (ml_0 ad cy b4) rfl 5 (by decide) (by decide +kernel) rfl rfl dX10_next_36 ?_
    refine z_put (wf := WM ad cy) (pc := 39) (index := 74) hx hb hts iwX10_next_10 tyX10 tyX10_ok nmX10 hown hI (ml_0 ad cy b4) rfl 6 (by decide) (by decide +kernel) rfl rfl rfl rfl (Nat.le_of_ble_eq_true rfl) dX10_next_39 (mw_place ad cy b4 (mg_spot b4)) hf (fun u6 H locs hI hf => ?_)
    refine lv_aload_n (pc := 42) hx hb dX10_next_42 rfl (lv_at hl 0 rfl) ?_
    refine lv_aload_n (pc := 43) hx hb dX10_next_43 rfl (lv_at hl 0 rfl) ?_
    refine z_get (pc := 44) (index := 80) hx hb hts iwX10_next_10 hown hI (ml_0 ad cy u6) rfl 5 (by decide) (by decide +kernel) rfl rfl dX10_next_44 ?_
    obtain ⟨q8, hc7, hf⟩ := zbind hf
    refine zcallVi (pc := 47) (As := [.int (mg_spot u6)]) (rest := []) ⟨hx, hb, hml, hown, hts⟩ (kX10_byteAt l D ad cy (mg_spot u6) u6 q8 hc7) (cwV 1 hts gX10_next_X10_byteAt rfl rfl rfl (by decide +kernel) ⟨Nat.le_of_ble_eq_true rfl, Nat.le_of_ble_eq_true rfl⟩) hI rfl (ml_0 ad cy u6) rfl hl.1 rfl (Nat.le_of_ble_eq_true rfl) dX10_next_47 (Nat.zero_le _) (Nat.zero_le _) (fun H locs hI => ?_)
    refine lv_istore_n (pc := 50) (lv' := [(1, .int q8), (0, .ref (ad 0))]) hx hb dX10_next_50 rfl hl (by decide) rfl (fun ls hl => ?_)
    refine lv_aload_n (pc := 51) hx hb dX10_next_51 rfl (lv_at hl 1 rfl) ?_
    refine lv_iconst (pc := 52) (v := 0) hx hb dX10_next_52 (by decide) ?_
    refine z_put (wf := WM ad cy) (pc := 53) (index := 87) hx hb hts iwX10_next_10 tyX10 tyX10_ok nmX10 hown hI (ml_0 ad cy u6) rfl 8 (by decide) (by decide +kernel) rfl rfl rfl rfl (Nat.le_of_ble_eq_true rfl) dX10_next_53 (mw_value ad cy u6 (0 : Int32)) hf (fun u9 H locs hI hf => ?_)
    refine lv_iload_n (pc := 56) hx hb dX10_next_56 rfl (lv_at hl 0 rfl) ?_
    refine lv_bipush (pc := 57) (v := -4) hx hb dX10_next_57 (by decide) ?_
    refine z_icmp_ne (pc := 59) (tgt := 70) hx hb dX10_next_59 (by decide) hf (fun hf => ?_) (fun hf => ?_)
    · refine lv_iload_n (pc := 70) hx hb dX10_next_70 rfl (lv_at hl 0 rfl) ?_
      refine lv_i2l (pc := 71) hx hb dX10_next_71 rfl ?_
      refine lv_ldc2 (pc := 72) (v := 97) hx hb hown (hts (.constantLong RX10 93 (97)) (by decide +kernel)) dX10_next_72 ?_
      refine lv_ldc2 (pc := 75) (v := 122) hx hb hown (hts (.constantLong RX10 95 (122)) (by decide +kernel)) dX10_next_75 ?_
      obtain ⟨q11, hc10, hf⟩ := zbind hf
      refine zcallSi (pc := 78) (As := [.long (q8.toInt64), .long (97 : Int64), .long (122 : Int64)]) (rest := []) ⟨hx, hb, hml, hown, hts⟩ (kX10_in l (q8.toInt64) (97 : Int64) (122 : Int64) q11 hc10) (va_cwS 3 hts gX10_next_X10_in rfl rfl rfl (by decide +kernel) ⟨Nat.le_of_ble_eq_true rfl, Nat.le_of_ble_eq_true rfl⟩) rfl hl.1 rfl (Nat.le_of_ble_eq_true rfl) dX10_next_78 (Nat.zero_le _) (Nat.zero_le _) ?_
      refine z_if_eq (pc := 81) (tgt := 126) hx hb dX10_next_81 (by decide) hf (fun hf => ?_) (fun hf => ?_)
      · refine lv_iload_n (pc := 126) hx hb dX10_next_126 rfl (lv_at hl 0 rfl) ?_
        refine lv_i2l (pc := 127) hx hb dX10_next_127 rfl ?_
        refine lv_ldc2 (pc := 128) (v := 48) hx hb hown (hts (.constantLong RX10 97 (48)) (by decide +kernel)) dX10_next_128 ?_
        refine lv_ldc2 (pc := 131) (v := 57) hx hb hown (hts (.constantLong RX10 99 (57)) (by decide +kernel)) dX10_next_131 ?_
        obtain ⟨q13, hc12, hf⟩ := zbind hf
        refine zcallSi (pc := 134) (As := [.long (q8.toInt64), .long (48 : Int64), .long (57 : Int64)]) (rest := []) ⟨hx, hb, hml, hown, hts⟩ (kX10_in l (q8.toInt64) (48 : Int64) (57 : Int64) q13 hc12) (va_cwS 3 hts gX10_next_X10_in rfl rfl rfl (by decide +kernel) ⟨Nat.le_of_ble_eq_true rfl, Nat.le_of_ble_eq_true rfl⟩) rfl hl.1 rfl (Nat.le_of_ble_eq_true rfl) dX10_next_134 (Nat.zero_le _) (Nat.zero_le _) ?_
        refine z_if_eq (pc := 137) (tgt := 243) hx hb dX10_next_137 (by decide) hf (fun hf => ?_) (fun hf => ?_)
        · refine lv_aload_n (pc := 243) hx hb dX10_next_243 rfl (lv_at hl 1 rfl) ?_
          refine lv_iconst (pc := 244) (v := 3) hx hb dX10_next_244 (by decide) ?_
          refine z_put (wf := WM ad cy) (pc := 245) (index := 90) hx hb hts iwX10_next_10 tyX10 tyX10_ok nmX10 hown hI (ml_0 ad cy u9) rfl 7 (by decide) (by decide +kernel) rfl rfl rfl rfl (Nat.le_of_ble_eq_true rfl) dX10_next_245 (mw_token ad cy u9 (3 : Int32)) hf (fun u14 H locs hI hf => ?_)
          refine lv_aload_n (pc := 248) hx hb dX10_next_248 rfl (lv_at hl 1 rfl) ?_
          refine lv_dup (pc := 249) hx hb dX10_next_249 rfl ?_
          refine z_get (pc := 250) (index := 80) hx hb hts iwX10_next_10 hown hI (ml_0 ad cy u14) rfl 5 (by decide) (by decide +kernel) rfl rfl dX10_next_250 ?_
          refine lv_iconst (pc := 253) (v := 1) hx hb dX10_next_253 (by decide) ?_
          refine lv_iadd (pc := 254) hx hb dX10_next_254 ?_
          refine z_put (wf := WM ad cy) (pc := 255) (index := 80) hx hb hts iwX10_next_10 tyX10 tyX10_ok nmX10 hown hI (ml_0 ad cy u14) rfl 5 (by decide) (by decide +kernel) rfl rfl rfl rfl (Nat.le_of_ble_eq_true rfl) dX10_next_255 (mw_spot ad cy u14 ((mg_spot u14) + (1 : Int32))) hf (fun u15 H locs hI hf => ?_)
          refine lv_iload_n (pc := 258) hx hb dX10_next_258 rfl (lv_at hl 0 rfl) ?_
          refine lv_bipush (pc := 259) (v := 59) hx hb dX10_next_259 (by decide) ?_
          refine z_icmp_eq (pc := 261) (tgt := 269) hx hb dX10_next_261 (by decide) hf (fun hf => ?_) (fun hf => ?_)
          · obtain rfl := zone hf
            exact z_vret (pc := 269) C0 hI dX10_next_269
          refine lv_aload_n (pc := 264) hx hb dX10_next_264 rfl (lv_at hl 1 rfl) ?_
          refine lv_iconst (pc := 265) (v := 1) hx hb dX10_next_265 (by decide) ?_
          obtain ⟨q17, hc16, hf⟩ := zbind hf
          refine zcallVv (pc := 266) (As := [.int (1 : Int32)]) (rest := []) ⟨hx, hb, hml, hown, hts⟩ (kX10_fails l D ad cy (1 : Int32) u15 q17 hc16) (cwV 1 hts gX10_next_X10_fails rfl rfl rfl (by decide +kernel) ⟨Nat.le_of_ble_eq_true rfl, Nat.le_of_ble_eq_true rfl⟩) hI rfl (ml_0 ad cy u15) rfl hl.1 rfl (Nat.le_of_ble_eq_true rfl) dX10_next_266 (Nat.zero_le _) (Nat.zero_le _) (fun H locs hI => ?_)
          obtain rfl := zone hf
          exact z_vret (pc := 269) C0 hI dX10_next_269
        obtain ⟨b28, hb29, hf⟩ := zbind hf
        refine lX10_next_140 C0 hb29 ?_ _ _ _ hI (lv_sub hl [1] rfl)
        intro H locs ls hI hl
        refine lv_aload_n (pc := 217) hx hb dX10_next_217 rfl (lv_at hl 0 rfl) ?_
        refine lv_iconst (pc := 218) (v := 2) hx hb dX10_next_218 (by decide) ?_
        refine z_put (wf := WM ad cy) (pc := 219) (index := 90) hx hb hts iwX10_next_10 tyX10 tyX10_ok nmX10 hown hI (ml_0 ad cy b28) rfl 7 (by decide) (by decide +kernel) rfl rfl rfl rfl (Nat.le_of_ble_eq_true rfl) dX10_next_219 (mw_token ad cy b28 (2 : Int32)) hf (fun u30 H locs hI hf => ?_)
        refine lv_aload_n (pc := 222) hx hb dX10_next_222 rfl (lv_at hl 0 rfl) ?_
        refine z_get (pc := 223) (index := 80) hx hb hts iwX10_next_10 hown hI (ml_0 ad cy u30) rfl 5 (by decide) (by decide +kernel) rfl rfl dX10_next_223 ?_
        refine lv_aload_n (pc := 226) hx hb dX10_next_226 rfl (lv_at hl 0 rfl) ?_
        refine z_get (pc := 227) (index := 74) hx hb hts iwX10_next_10 hown hI (ml_0 ad cy u30) rfl 6 (by decide) (by decide +kernel) rfl rfl dX10_next_227 ?_
        refine lv_isub (pc := 230) hx hb dX10_next_230 ?_
        refine lv_iconst (pc := 231) (v := 3) hx hb dX10_next_231 (by decide) ?_
        refine z_icmp_le (pc := 232) (tgt := 269) hx hb dX10_next_232 (by decide) hf (fun hf => ?_) (fun hf => ?_)
        · obtain rfl := zone hf
          exact z_vret (pc := 269) C0 hI dX10_next_269
        refine lv_aload_n (pc := 235) hx hb dX10_next_235 rfl (lv_at hl 0 rfl) ?_
        refine lv_iconst (pc := 236) (v := 1) hx hb dX10_next_236 (by decide) ?_
        obtain ⟨q32, hc31, hf⟩ := zbind hf
        refine zcallVv (pc := 237) (As := [.int (1 : Int32)]) (rest := []) ⟨hx, hb, hml, hown, hts⟩ (kX10_fails l D ad cy (1 : Int32) u30 q32 hc31) (cwV 1 hts gX10_next_X10_fails rfl rfl rfl (by decide +kernel) ⟨Nat.le_of_ble_eq_true rfl, Nat.le_of_ble_eq_true rfl⟩) hI rfl (ml_0 ad cy u30) rfl hl.1 rfl (Nat.le_of_ble_eq_true rfl) dX10_next_237 (Nat.zero_le _) (Nat.zero_le _) (fun H locs hI => ?_)
        refine lv_goto (pc := 240) (tgt := 269) hx hb dX10_next_240 (by decide) ?_
        obtain rfl := zone hf
        exact z_vret (pc := 269) C0 hI dX10_next_269
      obtain ⟨b38, hb39, hf⟩ := zbind hf
      refine lX10_next_84 C0 hb39 ?_ _ _ _ hI (lv_sub hl [1] rfl)
      intro H locs ls hI hl
      refine lv_aload_n (pc := 118) hx hb dX10_next_118 rfl (lv_at hl 0 rfl) ?_
      refine lv_iconst (pc := 119) (v := 1) hx hb dX10_next_119 (by decide) ?_
      refine z_put (wf := WM ad cy) (pc := 120) (index := 90) hx hb hts iwX10_next_10 tyX10 tyX10_ok nmX10 hown hI (ml_0 ad cy b38) rfl 7 (by decide) (by decide +kernel) rfl rfl rfl rfl (Nat.le_of_ble_eq_true rfl) dX10_next_120 (mw_token ad cy b38 (1 : Int32)) hf (fun u40 H locs hI hf => ?_)
      refine lv_goto (pc := 123) (tgt := 269) hx hb dX10_next_123 (by decide) ?_
      obtain rfl := zone hf
      exact z_vret (pc := 269) C0 hI dX10_next_269
    refine lv_aload_n (pc := 62) hx hb dX10_next_62 rfl (lv_at hl 1 rfl) ?_
    refine lv_iconst (pc := 63) (v := 0) hx hb dX10_next_63 (by decide) ?_
    refine z_put (wf := WM ad cy) (pc := 64) (index := 90) hx hb hts iwX10_next_10 tyX10 tyX10_ok nmX10 hown hI (ml_0 ad cy u9) rfl 7 (by decide) (by decide +kernel) rfl rfl rfl rfl (Nat.le_of_ble_eq_true rfl) dX10_next_64 (mw_token ad cy u9 (0 : Int32)) hf (fun u41 H locs hI hf => ?_)
    refine lv_goto (pc := 67) (tgt := 269) hx hb dX10_next_67 (by decide) ?_
    obtain rfl := zone hf
    exact z_vret (pc := 269) C0 hI dX10_next_269
  obtain rfl := zone hf
  exact z_vret (pc := 7) C0 hI dX10_next_7
set_option maxHeartbeats 4000000 in
set_option maxRecDepth 100000 in
theorem lX10_nameHere_51 (C0 : zFix p m c cX10_nameHere 4 s args wsX10_nameHere RX10 meth (some .int)) {k : Nat} {p1 : Int32} {u : MX} {a : Int32 × Int32} {b : Int32} (hit : ziter (bX10_nameHere_51 k p1 u) k a = some b) (hx9 : (fun (b : Int32) => ∀ (H : Heap) (locs : List Loc) (ls : Array Slot), zIn D ad cy (WM ad cy u) A s H locs → lv_has ls 4 [(0, .ref (ad 0)), (1, .int p1), (2, .int b)] → W p l e ({ frames := 1, cells := 0, slots := 0, locals := 21 } : Room) s m args below meth c H locs 0 0 Q (F0 m 106 ls [])) b) : (fun (a : Int32 × Int32) => ∀ (H : Heap) (locs : List Loc) (ls : Array Slot), zIn D ad cy (WM ad cy u) A s H locs → lv_has ls 4 [(0, .ref (ad 0)), (1, .int p1), (2, .int a.1), (3, .int a.2)] → W p l e ({ frames := 1, cells := 0, slots := 0, locals := 21 } : Room) s m args below meth c H locs 0 0 Q (F0 m 51 ls [])) a := by
  obtain ⟨hx, hb, hml, hown, hts, hr, hlk⟩ := id C0
  refine zloop (Wh := (fun (a : Int32 × Int32) => ∀ (H : Heap) (locs : List Loc) (ls : Array Slot), zIn D ad cy (WM ad cy u) A s H locs → lv_has ls 4 [(0, .ref (ad 0)), (1, .int p1), (2, .int a.1), (3, .int a.2)] → W p l e ({ frames := 1, cells := 0, slots := 0, locals := 21 } : Room) s m args below meth c H locs 0 0 Q (F0 m 51 ls []))) (Wx := (fun (b : Int32) => ∀ (H : Heap) (locs : List Loc) (ls : Array Slot), zIn D ad cy (WM ad cy u) A s H locs → lv_has ls 4 [(0, .ref (ad 0)), (1, .int p1), (2, .int b)] → W p l e ({ frames := 1, cells := 0, slots := 0, locals := 21 } : Room) s m args below meth c H locs 0 0 Q (F0 m 106 ls []))) ?_ _ a b hit hx9
  intro a x hf hL hX H locs ls hI hl
  unfold bX10_nameHere_51 at hf
  refine lv_iload_n (pc := 51) hx hb dX10_nameHere_51 rfl (lv_at hl 2 rfl) ?_
  refine z_if_eq (pc := 52) (tgt := 106) hx hb dX10_nameHere_52 (by decide) hf (fun hf => ?_) (fun hf => ?_)
  · exact (hX _ (Option.some.inj hf).symm) _ _ _ hI (lv_sub hl [0, 1, 2] rfl)
  refine lv_iload_n (pc := 55) hx hb dX10_nameHere_55 rfl (lv_at hl 3 rfl) ?_
  refine lv_aload_n (pc := 56) hx hb dX10_nameHere_56 rfl (lv_at hl 0 rfl) ?_
  refine z_get (pc := 57) (index := 80) hx hb hts iwX10_nameHere_10 hown hI (ml_0 ad cy u) rfl 5 (by decide) (by decide +kernel) rfl rfl dX10_nameHere_57 ?_
  refine lv_aload_n (pc := 60) hx hb dX10_nameHere_60 rfl (lv_at hl 0 rfl) ?_
  refine z_get (pc := 61) (index := 74) hx hb hts iwX10_nameHere_10 hown hI (ml_0 ad cy u) rfl 6 (by decide) (by decide +kernel) rfl rfl dX10_nameHere_61 ?_
  refine lv_isub (pc := 64) hx hb dX10_nameHere_64 ?_
  refine z_icmp_ge (pc := 65) (tgt := 106) hx hb dX10_nameHere_65 (by decide) hf (fun hf => ?_) (fun hf => ?_)
  · exact (hX _ (Option.some.inj hf).symm) _ _ _ hI (lv_sub hl [0, 1, 2] rfl)
  refine lv_aload_n (pc := 68) hx hb dX10_nameHere_68 rfl (lv_at hl 0 rfl) ?_
  refine lv_aload_n (pc := 69) hx hb dX10_nameHere_69 rfl (lv_at hl 0 rfl) ?_
  refine z_get (pc := 70) (index := 74) hx hb hts iwX10_nameHere_10 hown hI (ml_0 ad cy u) rfl 6 (by decide) (by decide +kernel) rfl rfl dX10_nameHere_70 ?_
  refine lv_iload_n (pc := 73) hx hb dX10_nameHere_73 rfl (lv_at hl 3 rfl) ?_
  refine lv_iadd (pc := 74) hx hb dX10_nameHere_74 ?_
  obtain ⟨q2, hc1, hf⟩ := zbind hf
  refine zcallVi (pc := 75) (As := [.int ((mg_place u) + a.2)]) (rest := []) ⟨hx, hb, hml, hown, hts⟩ (kX10_byteAt l D ad cy ((mg_place u) + a.2) u q2 hc1) (cwV 1 hts gX10_nameHere_X10_byteAt rfl rfl rfl (by decide +kernel) ⟨Nat.le_of_ble_eq_true rfl, Nat.le_of_ble_eq_true rfl⟩) hI rfl (ml_0 ad cy u) rfl hl.1 rfl (Nat.le_of_ble_eq_true rfl) dX10_nameHere_75 (Nat.zero_le _) (Nat.zero_le _) (fun H locs hI => ?_)
  refine lv_aload_n (pc := 78) hx hb dX10_nameHere_78 rfl (lv_at hl 0 rfl) ?_
  refine z_get (pc := 79) (index := 16) hx hb hts iwX10_nameHere_10 hown hI (ml_0 ad cy u) rfl 10 (by decide) (by decide +kernel) rfl rfl dX10_nameHere_79 ?_
  refine lv_aload_n (pc := 82) hx hb dX10_nameHere_82 rfl (lv_at hl 0 rfl) ?_
  refine z_get (pc := 83) (index := 13) hx hb hts iwX10_nameHere_10 hown hI (ml_0 ad cy u) rfl 9 (by decide) (by decide +kernel) rfl rfl dX10_nameHere_83 ?_
  refine lv_iload_n (pc := 86) hx hb dX10_nameHere_86 rfl (lv_at hl 1 rfl) ?_
  refine z_iald (pc := 87) hx hb hI (ml_2 ad cy u) 0 rfl dX10_nameHere_87 hf (fun v3 hf => ?_)
  refine lv_iload_n (pc := 88) hx hb dX10_nameHere_88 rfl (lv_at hl 3 rfl) ?_
  refine lv_iadd (pc := 89) hx hb dX10_nameHere_89 ?_
  refine z_iald (pc := 90) hx hb hI (ml_3 ad cy u) 0 rfl dX10_nameHere_90 hf (fun v4 hf => ?_)
  refine z_icmp_ne (pc := 91) (tgt := 98) hx hb dX10_nameHere_91 (by decide) hf (fun hf => ?_) (fun hf => ?_)
  · refine lv_iconst (pc := 98) (v := 0) hx hb dX10_nameHere_98 (by decide) ?_
    refine lv_istore_n (pc := 99) (lv' := [(2, .int (0 : Int32)), (0, .ref (ad 0)), (1, .int p1), (3, .int a.2)]) hx hb dX10_nameHere_99 rfl hl (by decide) rfl (fun ls hl => ?_)
    refine lv_iinc (pc := 100) (v := (a.2 + 1)) (lv' := [(3, .int (a.2 + 1)), (2, .int (0 : Int32)), (0, .ref (ad 0)), (1, .int p1)]) hx hb dX10_nameHere_100 hl (k := 3) rfl rfl (by decide) rfl (fun ls hl => ?_)
    refine lv_goto (pc := 103) (tgt := 51) hx hb dX10_nameHere_103 (by decide) ?_
    exact hL _ (Option.some.inj hf).symm _ _ _ hI (lv_sub hl [2, 3, 1, 0] rfl)
  refine lv_iconst (pc := 94) (v := 1) hx hb dX10_nameHere_94 (by decide) ?_
  refine lv_goto (pc := 95) (tgt := 99) hx hb dX10_nameHere_95 (by decide) ?_
  refine lv_istore_n (pc := 99) (lv' := [(2, .int (1 : Int32)), (0, .ref (ad 0)), (1, .int p1), (3, .int a.2)]) hx hb dX10_nameHere_99 rfl hl (by decide) rfl (fun ls hl => ?_)
  refine lv_iinc (pc := 100) (v := (a.2 + 1)) (lv' := [(3, .int (a.2 + 1)), (2, .int (1 : Int32)), (0, .ref (ad 0)), (1, .int p1)]) hx hb dX10_nameHere_100 hl (k := 3) rfl rfl (by decide) rfl (fun ls hl => ?_)
  refine lv_goto (pc := 103) (tgt := 51) hx hb dX10_nameHere_103 (by decide) ?_
  exact hL _ (Option.some.inj hf).symm _ _ _ hI (lv_sub hl [2, 3, 1, 0] rfl)
set_option maxHeartbeats 4000000 in
set_option maxRecDepth 100000 in
theorem lX10_nameHere_2 (C0 : zFix p m c cX10_nameHere 4 s args wsX10_nameHere RX10 meth (some .int)) {k : Nat} {u : MX} {a : Int32} {b : (Int32) ⊕ (Unit)} (hit : ziter (bX10_nameHere_2 k u) k a = some b) (hx9 : (fun (b : (Int32) ⊕ (Unit)) => zel b (fun b => ∀ (H : Heap) (locs : List Loc) (ls : Array Slot), zIn D ad cy (WM ad cy u) A s H locs → lv_has ls 4 [(1, .int b)] → W p l e ({ frames := 1, cells := 0, slots := 0, locals := 21 } : Room) s m args below meth c H locs 0 0 Q (F0 m 110 ls [])) (fun b => ∀ (H : Heap) (locs : List Loc) (ls : Array Slot), zIn D ad cy (WM ad cy u) A s H locs → lv_has ls 4 [] → W p l e ({ frames := 1, cells := 0, slots := 0, locals := 21 } : Room) s m args below meth c H locs 0 0 Q (F0 m 118 ls []))) b) : (fun (a : Int32) => ∀ (H : Heap) (locs : List Loc) (ls : Array Slot), zIn D ad cy (WM ad cy u) A s H locs → lv_has ls 4 [(0, .ref (ad 0)), (1, .int a)] → W p l e ({ frames := 1, cells := 0, slots := 0, locals := 21 } : Room) s m args below meth c H locs 0 0 Q (F0 m 2 ls [])) a := by
  obtain ⟨hx, hb, hml, hown, hts, hr, hlk⟩ := id C0
  refine zloop (Wh := (fun (a : Int32) => ∀ (H : Heap) (locs : List Loc) (ls : Array Slot), zIn D ad cy (WM ad cy u) A s H locs → lv_has ls 4 [(0, .ref (ad 0)), (1, .int a)] → W p l e ({ frames := 1, cells := 0, slots := 0, locals := 21 } : Room) s m args below meth c H locs 0 0 Q (F0 m 2 ls []))) (Wx := (fun (b : (Int32) ⊕ (Unit)) => zel b (fun b => ∀ (H : Heap) (locs : List Loc) (ls : Array Slot), zIn D ad cy (WM ad cy u) A s H locs → lv_has ls 4 [(1, .int b)] → W p l e ({ frames := 1, cells := 0, slots := 0, locals := 21 } : Room) s m args below meth c H locs 0 0 Q (F0 m 110 ls [])) (fun b => ∀ (H : Heap) (locs : List Loc) (ls : Array Slot), zIn D ad cy (WM ad cy u) A s H locs → lv_has ls 4 [] → W p l e ({ frames := 1, cells := 0, slots := 0, locals := 21 } : Room) s m args below meth c H locs 0 0 Q (F0 m 118 ls [])))) ?_ _ a b hit hx9
  intro a x hf hL hX H locs ls hI hl
  unfold bX10_nameHere_2 at hf
  refine lv_iload_n (pc := 2) hx hb dX10_nameHere_2 rfl (lv_at hl 1 rfl) ?_
  refine lv_bipush (pc := 3) (v := 7) hx hb dX10_nameHere_3 (by decide) ?_
  refine z_icmp_ge (pc := 5) (tgt := 118) hx hb dX10_nameHere_5 (by decide) hf (fun hf => ?_) (fun hf => ?_)
  · exact (z_elP2 (hX _ (Option.some.inj hf).symm)) _ _ _ hI (lv_sub hl [] rfl)
  refine lv_aload_n (pc := 8) hx hb dX10_nameHere_8 rfl (lv_at hl 0 rfl) ?_
  refine z_get (pc := 9) (index := 90) hx hb hts iwX10_nameHere_10 hown hI (ml_0 ad cy u) rfl 7 (by decide) (by decide +kernel) rfl rfl dX10_nameHere_9 ?_
  refine lv_iconst (pc := 12) (v := 1) hx hb dX10_nameHere_12 (by decide) ?_
  refine z_icmp_ne (pc := 13) (tgt := 47) hx hb dX10_nameHere_13 (by decide) hf (fun hf => ?_) (fun hf => ?_)
  · refine lv_iconst (pc := 47) (v := 0) hx hb dX10_nameHere_47 (by decide) ?_
    refine lv_istore_n (pc := 48) (lv' := [(2, .int (0 : Int32)), (0, .ref (ad 0)), (1, .int a)]) hx hb dX10_nameHere_48 rfl hl (by decide) rfl (fun ls hl => ?_)
    refine lv_iconst (pc := 49) (v := 0) hx hb dX10_nameHere_49 (by decide) ?_
    refine lv_istore_n (pc := 50) (lv' := [(3, .int (0 : Int32)), (2, .int (0 : Int32)), (0, .ref (ad 0)), (1, .int a)]) hx hb dX10_nameHere_50 rfl hl (by decide) rfl (fun ls hl => ?_)
    obtain ⟨b5, hb6, hf⟩ := zbind hf
    refine lX10_nameHere_51 C0 hb6 ?_ _ _ _ hI (lv_sub hl [2, 3, 1, 0] rfl)
    intro H locs ls hI hl
    refine lv_iload_n (pc := 106) hx hb dX10_nameHere_106 rfl (lv_at hl 2 rfl) ?_
    refine z_if_eq (pc := 107) (tgt := 112) hx hb dX10_nameHere_107 (by decide) hf (fun hf => ?_) (fun hf => ?_)
    · refine lv_iinc (pc := 112) (v := (a + 1)) (lv' := [(1, .int (a + 1)), (0, .ref (ad 0)), (2, .int b5)]) hx hb dX10_nameHere_112 hl (k := 1) rfl rfl (by decide) rfl (fun ls hl => ?_)
      refine lv_goto (pc := 115) (tgt := 2) hx hb dX10_nameHere_115 (by decide) ?_
      exact hL _ (Option.some.inj hf).symm _ _ _ hI (lv_sub hl [1, 0] rfl)
    exact (z_elP1 (hX _ (Option.some.inj hf).symm)) _ _ _ hI (lv_sub hl [1] rfl)
  refine lv_aload_n (pc := 16) hx hb dX10_nameHere_16 rfl (lv_at hl 0 rfl) ?_
  refine z_get (pc := 17) (index := 80) hx hb hts iwX10_nameHere_10 hown hI (ml_0 ad cy u) rfl 5 (by decide) (by decide +kernel) rfl rfl dX10_nameHere_17 ?_
  refine lv_aload_n (pc := 20) hx hb dX10_nameHere_20 rfl (lv_at hl 0 rfl) ?_
  refine z_get (pc := 21) (index := 74) hx hb hts iwX10_nameHere_10 hown hI (ml_0 ad cy u) rfl 6 (by decide) (by decide +kernel) rfl rfl dX10_nameHere_21 ?_
  refine lv_isub (pc := 24) hx hb dX10_nameHere_24 ?_
  refine lv_aload_n (pc := 25) hx hb dX10_nameHere_25 rfl (lv_at hl 0 rfl) ?_
  refine z_get (pc := 26) (index := 13) hx hb hts iwX10_nameHere_10 hown hI (ml_0 ad cy u) rfl 9 (by decide) (by decide +kernel) rfl rfl dX10_nameHere_26 ?_
  refine lv_iload_n (pc := 29) hx hb dX10_nameHere_29 rfl (lv_at hl 1 rfl) ?_
  refine lv_iconst (pc := 30) (v := 1) hx hb dX10_nameHere_30 (by decide) ?_
  refine lv_iadd (pc := 31) hx hb dX10_nameHere_31 ?_
  refine z_iald (pc := 32) hx hb hI (ml_2 ad cy u) 0 rfl dX10_nameHere_32 hf (fun v7 hf => ?_)
  refine lv_aload_n (pc := 33) hx hb dX10_nameHere_33 rfl (lv_at hl 0 rfl) ?_
  refine z_get (pc := 34) (index := 13) hx hb hts iwX10_nameHere_10 hown hI (ml_0 ad cy u) rfl 9 (by decide) (by decide +kernel) rfl rfl dX10_nameHere_34 ?_
  refine lv_iload_n (pc := 37) hx hb dX10_nameHere_37 rfl (lv_at hl 1 rfl) ?_
  refine z_iald (pc := 38) hx hb hI (ml_2 ad cy u) 0 rfl dX10_nameHere_38 hf (fun v8 hf => ?_)
  refine lv_isub (pc := 39) hx hb dX10_nameHere_39 ?_
  refine z_icmp_ne (pc := 40) (tgt := 47) hx hb dX10_nameHere_40 (by decide) hf (fun hf => ?_) (fun hf => ?_)
  · refine lv_iconst (pc := 47) (v := 0) hx hb dX10_nameHere_47 (by decide) ?_
    refine lv_istore_n (pc := 48) (lv' := [(2, .int (0 : Int32)), (0, .ref (ad 0)), (1, .int a)]) hx hb dX10_nameHere_48 rfl hl (by decide) rfl (fun ls hl => ?_)
    refine lv_iconst (pc := 49) (v := 0) hx hb dX10_nameHere_49 (by decide) ?_
    refine lv_istore_n (pc := 50) (lv' := [(3, .int (0 : Int32)), (2, .int (0 : Int32)), (0, .ref (ad 0)), (1, .int a)]) hx hb dX10_nameHere_50 rfl hl (by decide) rfl (fun ls hl => ?_)
    obtain ⟨b9, hb10, hf⟩ := zbind hf
    refine lX10_nameHere_51 C0 hb10 ?_ _ _ _ hI (lv_sub hl [2, 3, 1, 0] rfl)
    intro H locs ls hI hl
    refine lv_iload_n (pc := 106) hx hb dX10_nameHere_106 rfl (lv_at hl 2 rfl) ?_
    refine z_if_eq (pc := 107) (tgt := 112) hx hb dX10_nameHere_107 (by decide) hf (fun hf => ?_) (fun hf => ?_)
    · refine lv_iinc (pc := 112) (v := (a + 1)) (lv' := [(1, .int (a + 1)), (0, .ref (ad 0)), (2, .int b9)]) hx hb dX10_nameHere_112 hl (k := 1) rfl rfl (by decide) rfl (fun ls hl => ?_)
      refine lv_goto (pc := 115) (tgt := 2) hx hb dX10_nameHere_115 (by decide) ?_
      exact hL _ (Option.some.inj hf).symm _ _ _ hI (lv_sub hl [1, 0] rfl)
    exact (z_elP1 (hX _ (Option.some.inj hf).symm)) _ _ _ hI (lv_sub hl [1] rfl)
  refine lv_iconst (pc := 43) (v := 1) hx hb dX10_nameHere_43 (by decide) ?_
  refine lv_goto (pc := 44) (tgt := 48) hx hb dX10_nameHere_44 (by decide) ?_
  refine lv_istore_n (pc := 48) (lv' := [(2, .int (1 : Int32)), (0, .ref (ad 0)), (1, .int a)]) hx hb dX10_nameHere_48 rfl hl (by decide) rfl (fun ls hl => ?_)
  refine lv_iconst (pc := 49) (v := 0) hx hb dX10_nameHere_49 (by decide) ?_
  refine lv_istore_n (pc := 50) (lv' := [(3, .int (0 : Int32)), (2, .int (1 : Int32)), (0, .ref (ad 0)), (1, .int a)]) hx hb dX10_nameHere_50 rfl hl (by decide) rfl (fun ls hl => ?_)
  obtain ⟨b11, hb12, hf⟩ := zbind hf
  refine lX10_nameHere_51 C0 hb12 ?_ _ _ _ hI (lv_sub hl [2, 3, 1, 0] rfl)
  intro H locs ls hI hl
  refine lv_iload_n (pc := 106) hx hb dX10_nameHere_106 rfl (lv_at hl 2 rfl) ?_
  refine z_if_eq (pc := 107) (tgt := 112) hx hb dX10_nameHere_107 (by decide) hf (fun hf => ?_) (fun hf => ?_)
  · refine lv_iinc (pc := 112) (v := (a + 1)) (lv' := [(1, .int (a + 1)), (0, .ref (ad 0)), (2, .int b11)]) hx hb dX10_nameHere_112 hl (k := 1) rfl rfl (by decide) rfl (fun ls hl => ?_)
    refine lv_goto (pc := 115) (tgt := 2) hx hb dX10_nameHere_115 (by decide) ?_
    exact hL _ (Option.some.inj hf).symm _ _ _ hI (lv_sub hl [1, 0] rfl)
  exact (z_elP1 (hX _ (Option.some.inj hf).symm)) _ _ _ hI (lv_sub hl [1] rfl)
set_option maxHeartbeats 4000000 in
set_option maxRecDepth 100000 in
theorem kX10_nameHere (l : Launch) (D : va_G) (ad : Nat → Nat) (cy : Nat → ClassId) (k : Nat) (u : MX) (r : Int32) (hf : fX10_nameHere k u = some r) : zCt l yX10_nameHere wsX10_nameHere ({ frames := 1, cells := 0, slots := 0, locals := 21 } : Room) D ad cy [.ref (ad 0)] (WM ad cy u) (some (.int r)) (WM ad cy u) := by
  refine zCt.of (cc := cX10_nameHere) (maxL := 4) (ret := (some .int)) (own := RX10) (by decide) rfl rfl ?_
  intro p e s m below meth c A C0 hI
  obtain ⟨hx, hb, hml, hown, hts, hr, hlk⟩ := id C0
  refine z_entry (Nat.le_of_ble_eq_true rfl) (fun ls hl => ?_)
  have hl : lv_has ls 4 [(0, .ref (ad 0))] := hl
  unfold fX10_nameHere at hf
  refine lv_iconst (pc := 0) (v := 0) hx hb dX10_nameHere_0 (by decide) ?_
  refine lv_istore_n (pc := 1) (lv' := [(1, .int (0 : Int32)), (0, .ref (ad 0))]) hx hb dX10_nameHere_1 rfl hl (by decide) rfl (fun ls hl => ?_)
  obtain ⟨b13, hb14, hf⟩ := zbind hf
  rcases b13 with b13 | b13
  · have hf := z_el1 hf
    refine lX10_nameHere_2 C0 hb14 ?_ _ _ _ hI (lv_sub hl [1, 0] rfl)
    intro H locs ls hI hl
    refine lv_iload_n (pc := 110) hx hb dX10_nameHere_110 rfl (lv_at hl 0 rfl) ?_
    obtain rfl := zone hf
    exact z_iret (pc := 111) C0 hI dX10_nameHere_111
  have hf := z_el2 hf
  refine lX10_nameHere_2 C0 hb14 ?_ _ _ _ hI (lv_sub hl [1, 0] rfl)
  intro H locs ls hI hl
  refine lv_bipush (pc := 118) (v := -4) hx hb dX10_nameHere_118 (by decide) ?_
  obtain rfl := zone hf
  exact z_iret (pc := 120) C0 hI dX10_nameHere_120
set_option maxHeartbeats 4000000 in
set_option maxRecDepth 100000 in
theorem qX10_number_j20 (C0 : zFix p m c cX10_number 4 s args wsX10_number RX10 meth none) {p1 : Int32} {p2 : Int32} {p3 : Int32} {u : MX} {u' : MX} (hf : jX10_number_j20 p1 p2 p3 u = some u') {H : Heap} {locs : List Loc} {ls : Array Slot} (hI : zIn D ad cy (WM ad cy u) A s H locs) (hl : lv_has ls 4 [(0, .ref (ad 0)), (1, .int p1), (2, .int p2), (3, .int p3)]) : W p l e ({ frames := 1, cells := 0, slots := 0, locals := 25 } : Room) s m args below meth c H locs 0 0 (zMQ D cy below args s A none (WM ad cy u')) (F0 m 20 ls []) := by
  obtain ⟨hx, hb, hml, hown, hts, hr, hlk⟩ := id C0
  unfold jX10_number_j20 at hf
  refine lv_aload_n (pc := 20) hx hb dX10_number_20 rfl (lv_at hl 0 rfl) ?_
  refine z_get (pc := 21) (index := 71) hx hb hts iwX10_number_10 hown hI (ml_0 ad cy u) rfl 3 (by decide) (by decide +kernel) rfl rfl dX10_number_21 ?_
  refine z_if_ne (pc := 24) (tgt := 47) hx hb dX10_number_24 (by decide) hf (fun hf => ?_) (fun hf => ?_)
  · refine lv_aload_n (pc := 47) hx hb dX10_number_47 rfl (lv_at hl 0 rfl) ?_
    refine z_get (pc := 48) (index := 71) hx hb hts iwX10_number_10 hown hI (ml_0 ad cy u) rfl 3 (by decide) (by decide +kernel) rfl rfl dX10_number_48 ?_
    refine z_if_ne (pc := 51) (tgt := 64) hx hb dX10_number_51 (by decide) hf (fun hf => ?_) (fun hf => ?_)
    · obtain rfl := zone hf
      exact z_vret (pc := 64) C0 hI dX10_number_64
    refine lv_aload_n (pc := 54) hx hb dX10_number_54 rfl (lv_at hl 0 rfl) ?_
    refine z_get (pc := 55) (index := 25) hx hb hts iwX10_number_10 hown hI (ml_0 ad cy u) rfl 13 (by decide) (by decide +kernel) rfl rfl dX10_number_55 ?_
    refine lv_iload_n (pc := 58) hx hb dX10_number_58 rfl (lv_at hl 1 rfl) ?_
    refine lv_aload_n (pc := 59) hx hb dX10_number_59 rfl (lv_at hl 0 rfl) ?_
    refine z_get (pc := 60) (index := 87) hx hb hts iwX10_number_10 hown hI (ml_0 ad cy u) rfl 8 (by decide) (by decide +kernel) rfl rfl dX10_number_60 ?_
    refine z_iast (wf := WM ad cy) (pc := 63) hx hb hI (ml_6 ad cy u) 0 rfl dX10_number_63 (fun j => mw_reads ad cy u (upd (mg_reads u) j (mg_value u))) hf (fun j1 u2 H locs hj1 hI hf => ?_)
    obtain rfl := zone hf
    exact z_vret (pc := 64) C0 hI dX10_number_64
  refine lv_aload_n (pc := 27) hx hb dX10_number_27 rfl (lv_at hl 0 rfl) ?_
  refine z_get (pc := 28) (index := 87) hx hb hts iwX10_number_10 hown hI (ml_0 ad cy u) rfl 8 (by decide) (by decide +kernel) rfl rfl dX10_number_28 ?_
  refine lv_i2l (pc := 31) hx hb dX10_number_31 rfl ?_
  refine lv_iload_n (pc := 32) hx hb dX10_number_32 rfl (lv_at hl 2 rfl) ?_
  refine lv_i2l (pc := 33) hx hb dX10_number_33 rfl ?_
  refine lv_iload_n (pc := 34) hx hb dX10_number_34 rfl (lv_at hl 3 rfl) ?_
  refine lv_i2l (pc := 35) hx hb dX10_number_35 rfl ?_
  obtain ⟨q4, hc3, hf⟩ := zbind hf
  refine zcallSi (pc := 36) (As := [.long ((mg_value u).toInt64), .long (p2.toInt64), .long (p3.toInt64)]) (rest := []) ⟨hx, hb, hml, hown, hts⟩ (kX10_in l ((mg_value u).toInt64) (p2.toInt64) (p3.toInt64) q4 hc3) (va_cwS 3 hts gX10_number_X10_in rfl rfl rfl (by decide +kernel) ⟨Nat.le_of_ble_eq_true rfl, Nat.le_of_ble_eq_true rfl⟩) rfl hl.1 rfl (Nat.le_of_ble_eq_true rfl) dX10_number_36 (Nat.zero_le _) (Nat.zero_le _) ?_
  refine z_if_ne (pc := 39) (tgt := 47) hx hb dX10_number_39 (by decide) hf (fun hf => ?_) (fun hf => ?_)
  · refine lv_aload_n (pc := 47) hx hb dX10_number_47 rfl (lv_at hl 0 rfl) ?_
    refine z_get (pc := 48) (index := 71) hx hb hts iwX10_number_10 hown hI (ml_0 ad cy u) rfl 3 (by decide) (by decide +kernel) rfl rfl dX10_number_48 ?_
    refine z_if_ne (pc := 51) (tgt := 64) hx hb dX10_number_51 (by decide) hf (fun hf => ?_) (fun hf => ?_)
    · obtain rfl := zone hf
      exact z_vret (pc := 64) C0 hI dX10_number_64
    refine lv_aload_n (pc := 54) hx hb dX10_number_54 rfl (lv_at hl 0 rfl) ?_
    refine z_get (pc := 55) (index := 25) hx hb hts iwX10_number_10 hown hI (ml_0 ad cy u) rfl 13 (by decide) (by decide +kernel) rfl rfl dX10_number_55 ?_
    refine lv_iload_n (pc := 58) hx hb dX10_number_58 rfl (lv_at hl 1 rfl) ?_
    refine lv_aload_n (pc := 59) hx hb dX10_number_59 rfl (lv_at hl 0 rfl) ?_
    refine z_get (pc := 60) (index := 87) hx hb hts iwX10_number_10 hown hI (ml_0 ad cy u) rfl 8 (by decide) (by decide +kernel) rfl rfl dX10_number_60 ?_
    refine z_iast (wf := WM ad cy) (pc := 63) hx hb hI (ml_6 ad cy u) 0 rfl dX10_number_63 (fun j => mw_reads ad cy u (upd (mg_reads u) j (mg_value u))) hf (fun j5 u6 H locs hj5 hI hf => ?_)
    obtain rfl := zone hf
    exact z_vret (pc := 64) C0 hI dX10_number_64
  refine lv_aload_n (pc := 42) hx hb dX10_number_42 rfl (lv_at hl 0 rfl) ?_
  refine lv_iconst (pc := 43) (v := 3) hx hb dX10_number_43 (by decide) ?_
  obtain ⟨q8, hc7, hf⟩ := zbind hf
  refine zcallVv (pc := 44) (As := [.int (3 : Int32)]) (rest := []) ⟨hx, hb, hml, hown, hts⟩ (kX10_fails l D ad cy (3 : Int32) u q8 hc7) (cwV 1 hts gX10_number_X10_fails rfl rfl rfl (by decide +kernel) ⟨Nat.le_of_ble_eq_true rfl, Nat.le_of_ble_eq_true rfl⟩) hI rfl (ml_0 ad cy u) rfl hl.1 rfl (Nat.le_of_ble_eq_true rfl) dX10_number_44 (Nat.zero_le _) (Nat.zero_le _) (fun H locs hI => ?_)
  refine lv_aload_n (pc := 47) hx hb dX10_number_47 rfl (lv_at hl 0 rfl) ?_
  refine z_get (pc := 48) (index := 71) hx hb hts iwX10_number_10 hown hI (ml_0 ad cy q8) rfl 3 (by decide) (by decide +kernel) rfl rfl dX10_number_48 ?_
  refine z_if_ne (pc := 51) (tgt := 64) hx hb dX10_number_51 (by decide) hf (fun hf => ?_) (fun hf => ?_)
  · obtain rfl := zone hf
    exact z_vret (pc := 64) C0 hI dX10_number_64
  refine lv_aload_n (pc := 54) hx hb dX10_number_54 rfl (lv_at hl 0 rfl) ?_
  refine z_get (pc := 55) (index := 25) hx hb hts iwX10_number_10 hown hI (ml_0 ad cy q8) rfl 13 (by decide) (by decide +kernel) rfl rfl dX10_number_55 ?_
  refine lv_iload_n (pc := 58) hx hb dX10_number_58 rfl (lv_at hl 1 rfl) ?_
  refine lv_aload_n (pc := 59) hx hb dX10_number_59 rfl (lv_at hl 0 rfl) ?_
  refine z_get (pc := 60) (index := 87) hx hb hts iwX10_number_10 hown hI (ml_0 ad cy q8) rfl 8 (by decide) (by decide +kernel) rfl rfl dX10_number_60 ?_
  refine z_iast (wf := WM ad cy) (pc := 63) hx hb hI (ml_6 ad cy q8) 0 rfl dX10_number_63 (fun j => mw_reads ad cy q8 (upd (mg_reads q8) j (mg_value q8))) hf (fun j9 u10 H locs hj9 hI hf => ?_)
  obtain rfl := zone hf
  exact z_vret (pc := 64) C0 hI dX10_number_64
set_option maxHeartbeats 4000000 in
set_option maxRecDepth 100000 in
theorem kX10_number (l : Launch) (D : va_G) (ad : Nat → Nat) (cy : Nat → ClassId) (a1 : Int32) (a2 : Int32) (a3 : Int32) (u : MX) (u' : MX) (hf : fX10_number a1 a2 a3 u = some u') : zCt l yX10_number wsX10_number ({ frames := 1, cells := 0, slots := 0, locals := 25 } : Room) D ad cy [.ref (ad 0), .int a1, .int a2, .int a3] (WM ad cy u) none (WM ad cy u') := by
  refine zCt.of (cc := cX10_number) (maxL := 4) (ret := none) (own := RX10) (by decide) rfl rfl ?_
  intro p e s m below meth c A C0 hI
  obtain ⟨hx, hb, hml, hown, hts, hr, hlk⟩ := id C0
  refine z_entry (Nat.le_of_ble_eq_true rfl) (fun ls hl => ?_)
  have hl : lv_has ls 4 [(0, .ref (ad 0)), (1, .int a1), (2, .int a2), (3, .int a3)] := hl
  unfold fX10_number at hf
  refine lv_aload_n (pc := 0) hx hb dX10_number_0 rfl (lv_at hl 0 rfl) ?_
  refine z_get (pc := 1) (index := 71) hx hb hts iwX10_number_10 hown hI (ml_0 ad cy u) rfl 3 (by decide) (by decide +kernel) rfl rfl dX10_number_1 ?_
  refine z_if_ne (pc := 4) (tgt := 20) hx hb dX10_number_4 (by decide) hf (fun hf => ?_) (fun hf => ?_)
  · exact qX10_number_j20 C0 hf hI (lv_sub hl [0, 1, 2, 3] rfl)
  refine lv_aload_n (pc := 7) hx hb dX10_number_7 rfl (lv_at hl 0 rfl) ?_
  refine z_get (pc := 8) (index := 90) hx hb hts iwX10_number_10 hown hI (ml_0 ad cy u) rfl 7 (by decide) (by decide +kernel) rfl rfl dX10_number_8 ?_
  refine lv_iconst (pc := 11) (v := 2) hx hb dX10_number_11 (by decide) ?_
  refine z_icmp_eq (pc := 12) (tgt := 20) hx hb dX10_number_12 (by decide) hf (fun hf => ?_) (fun hf => ?_)
  · exact qX10_number_j20 C0 hf hI (lv_sub hl [0, 1, 2, 3] rfl)
  refine lv_aload_n (pc := 15) hx hb dX10_number_15 rfl (lv_at hl 0 rfl) ?_
  refine lv_iconst (pc := 16) (v := 2) hx hb dX10_number_16 (by decide) ?_
  obtain ⟨q12, hc11, hf⟩ := zbind hf
  refine zcallVv (pc := 17) (As := [.int (2 : Int32)]) (rest := []) ⟨hx, hb, hml, hown, hts⟩ (kX10_fails l D ad cy (2 : Int32) u q12 hc11) (cwV 1 hts gX10_number_X10_fails rfl rfl rfl (by decide +kernel) ⟨Nat.le_of_ble_eq_true rfl, Nat.le_of_ble_eq_true rfl⟩) hI rfl (ml_0 ad cy u) rfl hl.1 rfl (Nat.le_of_ble_eq_true rfl) dX10_number_17 (Nat.zero_le _) (Nat.zero_le _) (fun H locs hI => ?_)
  exact qX10_number_j20 C0 hf hI (lv_sub hl [0, 1, 2, 3] rfl)
set_option maxHeartbeats 4000000 in
set_option maxRecDepth 100000 in
theorem kX10_once (l : Launch) (D : va_G) (ad : Nat → Nat) (cy : Nat → ClassId) (a1 : Int32) (u : MX) (u' : MX) (hf : fX10_once a1 u = some u') : zCt l yX10_once wsX10_once ({ frames := 1, cells := 0, slots := 0, locals := 21 } : Room) D ad cy [.ref (ad 0), .int a1] (WM ad cy u) none (WM ad cy u') := by
  refine zCt.of (cc := cX10_once) (maxL := 2) (ret := none) (own := RX10) (by decide) rfl rfl ?_
  intro p e s m below meth c A C0 hI
  obtain ⟨hx, hb, hml, hown, hts, hr, hlk⟩ := id C0
  refine z_entry (Nat.le_of_ble_eq_true rfl) (fun ls hl => ?_)
  have hl : lv_has ls 2 [(0, .ref (ad 0)), (1, .int a1)] := hl
  unfold fX10_once at hf
  refine lv_aload_n (pc := 0) hx hb dX10_once_0 rfl (lv_at hl 0 rfl) ?_
  refine z_get (pc := 1) (index := 71) hx hb hts iwX10_once_10 hown hI (ml_0 ad cy u) rfl 3 (by decide) (by decide +kernel) rfl rfl dX10_once_1 ?_
  refine z_if_ne (pc := 4) (tgt := 24) hx hb dX10_once_4 (by decide) hf (fun hf => ?_) (fun hf => ?_)
  · refine lv_aload_n (pc := 24) hx hb dX10_once_24 rfl (lv_at hl 0 rfl) ?_
    refine lv_dup (pc := 25) hx hb dX10_once_25 rfl ?_
    refine z_get (pc := 26) (index := 105) hx hb hts iwX10_once_10 hown hI (ml_0 ad cy u) rfl 14 (by decide) (by decide +kernel) rfl rfl dX10_once_26 ?_
    refine lv_iconst (pc := 29) (v := 1) hx hb dX10_once_29 (by decide) ?_
    refine lv_iload_n (pc := 30) hx hb dX10_once_30 rfl (lv_at hl 1 rfl) ?_
    refine lv_ishl (pc := 31) hx hb dX10_once_31 ?_
    refine lv_ior (pc := 32) hx hb dX10_once_32 ?_
    refine z_put (wf := WM ad cy) (pc := 33) (index := 105) hx hb hts iwX10_once_10 tyX10 tyX10_ok nmX10 hown hI (ml_0 ad cy u) rfl 14 (by decide) (by decide +kernel) rfl rfl rfl rfl (Nat.le_of_ble_eq_true rfl) dX10_once_33 (mw_toldOnes ad cy u ((mg_toldOnes u) ||| ((1 : Int32) <<< (a1 &&& 31)))) hf (fun u1 H locs hI hf => ?_)
    obtain rfl := zone hf
    exact z_vret (pc := 36) C0 hI dX10_once_36
  refine lv_aload_n (pc := 7) hx hb dX10_once_7 rfl (lv_at hl 0 rfl) ?_
  refine z_get (pc := 8) (index := 105) hx hb hts iwX10_once_10 hown hI (ml_0 ad cy u) rfl 14 (by decide) (by decide +kernel) rfl rfl dX10_once_8 ?_
  refine lv_iload_n (pc := 11) hx hb dX10_once_11 rfl (lv_at hl 1 rfl) ?_
  refine lv_ishr (pc := 12) hx hb dX10_once_12 ?_
  refine lv_iconst (pc := 13) (v := 1) hx hb dX10_once_13 (by decide) ?_
  refine lv_iand (pc := 14) hx hb dX10_once_14 ?_
  refine lv_iconst (pc := 15) (v := 1) hx hb dX10_once_15 (by decide) ?_
  refine z_icmp_ne (pc := 16) (tgt := 24) hx hb dX10_once_16 (by decide) hf (fun hf => ?_) (fun hf => ?_)
  · refine lv_aload_n (pc := 24) hx hb dX10_once_24 rfl (lv_at hl 0 rfl) ?_
    refine lv_dup (pc := 25) hx hb dX10_once_25 rfl ?_
    refine z_get (pc := 26) (index := 105) hx hb hts iwX10_once_10 hown hI (ml_0 ad cy u) rfl 14 (by decide) (by decide +kernel) rfl rfl dX10_once_26 ?_
    refine lv_iconst (pc := 29) (v := 1) hx hb dX10_once_29 (by decide) ?_
    refine lv_iload_n (pc := 30) hx hb dX10_once_30 rfl (lv_at hl 1 rfl) ?_
    refine lv_ishl (pc := 31) hx hb dX10_once_31 ?_
    refine lv_ior (pc := 32) hx hb dX10_once_32 ?_
    refine z_put (wf := WM ad cy) (pc := 33) (index := 105) hx hb hts iwX10_once_10 tyX10 tyX10_ok nmX10 hown hI (ml_0 ad cy u) rfl 14 (by decide) (by decide +kernel) rfl rfl rfl rfl (Nat.le_of_ble_eq_true rfl) dX10_once_33 (mw_toldOnes ad cy u ((mg_toldOnes u) ||| ((1 : Int32) <<< (a1 &&& 31)))) hf (fun u2 H locs hI hf => ?_)
    obtain rfl := zone hf
    exact z_vret (pc := 36) C0 hI dX10_once_36
  refine lv_aload_n (pc := 19) hx hb dX10_once_19 rfl (lv_at hl 0 rfl) ?_
  refine lv_iconst (pc := 20) (v := 4) hx hb dX10_once_20 (by decide) ?_
  obtain ⟨q4, hc3, hf⟩ := zbind hf
  refine zcallVv (pc := 21) (As := [.int (4 : Int32)]) (rest := []) ⟨hx, hb, hml, hown, hts⟩ (kX10_fails l D ad cy (4 : Int32) u q4 hc3) (cwV 1 hts gX10_once_X10_fails rfl rfl rfl (by decide +kernel) ⟨Nat.le_of_ble_eq_true rfl, Nat.le_of_ble_eq_true rfl⟩) hI rfl (ml_0 ad cy u) rfl hl.1 rfl (Nat.le_of_ble_eq_true rfl) dX10_once_21 (Nat.zero_le _) (Nat.zero_le _) (fun H locs hI => ?_)
  refine lv_aload_n (pc := 24) hx hb dX10_once_24 rfl (lv_at hl 0 rfl) ?_
  refine lv_dup (pc := 25) hx hb dX10_once_25 rfl ?_
  refine z_get (pc := 26) (index := 105) hx hb hts iwX10_once_10 hown hI (ml_0 ad cy q4) rfl 14 (by decide) (by decide +kernel) rfl rfl dX10_once_26 ?_
  refine lv_iconst (pc := 29) (v := 1) hx hb dX10_once_29 (by decide) ?_
  refine lv_iload_n (pc := 30) hx hb dX10_once_30 rfl (lv_at hl 1 rfl) ?_
  refine lv_ishl (pc := 31) hx hb dX10_once_31 ?_
  refine lv_ior (pc := 32) hx hb dX10_once_32 ?_
  refine z_put (wf := WM ad cy) (pc := 33) (index := 105) hx hb hts iwX10_once_10 tyX10 tyX10_ok nmX10 hown hI (ml_0 ad cy q4) rfl 14 (by decide) (by decide +kernel) rfl rfl rfl rfl (Nat.le_of_ble_eq_true rfl) dX10_once_33 (mw_toldOnes ad cy q4 ((mg_toldOnes q4) ||| ((1 : Int32) <<< (a1 &&& 31)))) hf (fun u5 H locs hI hf => ?_)
  obtain rfl := zone hf
  exact z_vret (pc := 36) C0 hI dX10_once_36
set_option maxHeartbeats 4000000 in
set_option maxRecDepth 100000 in
theorem qX10_readLine_j286 (C0 : zFix p m c cX10_readLine 3 s args wsX10_readLine RX10 meth none) {k : Nat} {t1 : Int32} {t2 : Int32} {t3 : Int32} {u : MX} {u' : MX} (hf : jX10_readLine_j286 k t1 t2 t3 u = some u') {H : Heap} {locs : List Loc} {ls : Array Slot} (hI : zIn D ad cy (WM ad cy u) A s H locs) (hl : lv_has ls 3 [(0, .ref (ad 0))]) : W p l e ({ frames := 2, cells := 0, slots := 0, locals := 48 } : Room) s m args below meth c H locs 0 0 (zMQ D cy below args s A none (WM ad cy u')) (F0 m 286 ls [.int t3, .int t2, .int t1, .ref (ad 0)]) := by
  obtain ⟨hx, hb, hml, hown, hts, hr, hlk⟩ := id C0
  unfold jX10_readLine_j286 at hf
  obtain ⟨q8, hc7, hf⟩ := zbind hf
  refine zcallVv (pc := 286) (As := [.int t1, .int t2, .int t3]) (rest := []) ⟨hx, hb, hml, hown, hts⟩ (kX10_number l D ad cy t1 t2 t3 u q8 hc7) (cwV 3 hts gX10_readLine_X10_number rfl rfl rfl (by decide +kernel) ⟨Nat.le_of_ble_eq_true rfl, Nat.le_of_ble_eq_true rfl⟩) hI rfl (ml_0 ad cy u) rfl hl.1 rfl (Nat.le_of_ble_eq_true rfl) dX10_readLine_286 (Nat.zero_le _) (Nat.zero_le _) (fun H locs hI => ?_)
  refine lv_aload_n (pc := 289) hx hb dX10_readLine_289 rfl (lv_at hl 0 rfl) ?_
  obtain ⟨q10, hc9, hf⟩ := zbind hf
  refine zcallVv (pc := 290) (As := []) (rest := []) ⟨hx, hb, hml, hown, hts⟩ (kX10_next l D ad cy k q8 q10 hc9) (cwV 0 hts gX10_readLine_X10_next rfl rfl rfl (by decide +kernel) ⟨Nat.le_of_ble_eq_true rfl, Nat.le_of_ble_eq_true rfl⟩) hI rfl (ml_0 ad cy q8) rfl hl.1 rfl (Nat.le_of_ble_eq_true rfl) dX10_readLine_290 (Nat.zero_le _) (Nat.zero_le _) (fun H locs hI => ?_)
  refine lv_aload_n (pc := 293) hx hb dX10_readLine_293 rfl (lv_at hl 0 rfl) ?_
  refine z_get (pc := 294) (index := 71) hx hb hts iwX10_readLine_10 hown hI (ml_0 ad cy q10) rfl 3 (by decide) (by decide +kernel) rfl rfl dX10_readLine_294 ?_
  refine z_if_ne (pc := 297) (tgt := 313) hx hb dX10_readLine_297 (by decide) hf (fun hf => ?_) (fun hf => ?_)
  · refine lv_aload_n (pc := 313) hx hb dX10_readLine_313 rfl (lv_at hl 0 rfl) ?_
    obtain ⟨q12, hc11, hf⟩ := zbind hf
    refine zcallVv (pc := 314) (As := []) (rest := []) ⟨hx, hb, hml, hown, hts⟩ (kX10_next l D ad cy k q10 q12 hc11) (cwV 0 hts gX10_readLine_X10_next rfl rfl rfl (by decide +kernel) ⟨Nat.le_of_ble_eq_true rfl, Nat.le_of_ble_eq_true rfl⟩) hI rfl (ml_0 ad cy q10) rfl hl.1 rfl (Nat.le_of_ble_eq_true rfl) dX10_readLine_314 (Nat.zero_le _) (Nat.zero_le _) (fun H locs hI => ?_)
    obtain rfl := zone hf
    exact z_vret (pc := 317) C0 hI dX10_readLine_317
  refine lv_aload_n (pc := 300) hx hb dX10_readLine_300 rfl (lv_at hl 0 rfl) ?_
  refine z_get (pc := 301) (index := 90) hx hb hts iwX10_readLine_10 hown hI (ml_0 ad cy q10) rfl 7 (by decide) (by decide +kernel) rfl rfl dX10_readLine_301 ?_
  refine lv_iconst (pc := 304) (v := 3) hx hb dX10_readLine_304 (by decide) ?_
  refine z_icmp_eq (pc := 305) (tgt := 313) hx hb dX10_readLine_305 (by decide) hf (fun hf => ?_) (fun hf => ?_)
  · refine lv_aload_n (pc := 313) hx hb dX10_readLine_313 rfl (lv_at hl 0 rfl) ?_
    obtain ⟨q14, hc13, hf⟩ := zbind hf
    refine zcallVv (pc := 314) (As := []) (rest := []) ⟨hx, hb, hml, hown, hts⟩ (kX10_next l D ad cy k q10 q14 hc13) (cwV 0 hts gX10_readLine_X10_next rfl rfl rfl (by decide +kernel) ⟨Nat.le_of_ble_eq_true rfl, Nat.le_of_ble_eq_true rfl⟩) hI rfl (ml_0 ad cy q10) rfl hl.1 rfl (Nat.le_of_ble_eq_true rfl) dX10_readLine_314 (Nat.zero_le _) (Nat.zero_le _) (fun H locs hI => ?_)
    obtain rfl := zone hf
    exact z_vret (pc := 317) C0 hI dX10_readLine_317
  refine lv_aload_n (pc := 308) hx hb dX10_readLine_308 rfl (lv_at hl 0 rfl) ?_
  refine lv_iconst (pc := 309) (v := 2) hx hb dX10_readLine_309 (by decide) ?_
  obtain ⟨q16, hc15, hf⟩ := zbind hf
  refine zcallVv (pc := 310) (As := [.int (2 : Int32)]) (rest := []) ⟨hx, hb, hml, hown, hts⟩ (kX10_fails l D ad cy (2 : Int32) q10 q16 hc15) (cwV 1 hts gX10_readLine_X10_fails rfl rfl rfl (by decide +kernel) ⟨Nat.le_of_ble_eq_true rfl, Nat.le_of_ble_eq_true rfl⟩) hI rfl (ml_0 ad cy q10) rfl hl.1 rfl (Nat.le_of_ble_eq_true rfl) dX10_readLine_310 (Nat.zero_le _) (Nat.zero_le _) (fun H locs hI => ?_)
  refine lv_aload_n (pc := 313) hx hb dX10_readLine_313 rfl (lv_at hl 0 rfl) ?_
  obtain ⟨q18, hc17, hf⟩ := zbind hf
  refine zcallVv (pc := 314) (As := []) (rest := []) ⟨hx, hb, hml, hown, hts⟩ (kX10_next l D ad cy k q16 q18 hc17) (cwV 0 hts gX10_readLine_X10_next rfl rfl rfl (by decide +kernel) ⟨Nat.le_of_ble_eq_true rfl, Nat.le_of_ble_eq_true rfl⟩) hI rfl (ml_0 ad cy q16) rfl hl.1 rfl (Nat.le_of_ble_eq_true rfl) dX10_readLine_314 (Nat.zero_le _) (Nat.zero_le _) (fun H locs hI => ?_)
  obtain rfl := zone hf
  exact z_vret (pc := 317) C0 hI dX10_readLine_317
set_option maxHeartbeats 4000000 in
set_option maxRecDepth 100000 in
theorem lX10_readLine_162 (C0 : zFix p m c cX10_readLine 3 s args wsX10_readLine RX10 meth none) {k : Nat} {a : Int32 × MX} {b : MX} (hit : ziter (bX10_readLine_162 k) k a = some b) (hx9 : (fun (b : MX) => ∀ (H : Heap) (locs : List Loc) (ls : Array Slot), zIn D ad cy (WM ad cy b) A s H locs → lv_has ls 3 [(0, .ref (ad 0))] → W p l e ({ frames := 2, cells := 0, slots := 0, locals := 48 } : Room) s m args below meth c H locs 0 0 Q (F0 m 188 ls [])) b) : (fun (a : Int32 × MX) => ∀ (H : Heap) (locs : List Loc) (ls : Array Slot), zIn D ad cy (WM ad cy a.2) A s H locs → lv_has ls 3 [(0, .ref (ad 0)), (2, .int a.1)] → W p l e ({ frames := 2, cells := 0, slots := 0, locals := 48 } : Room) s m args below meth c H locs 0 0 Q (F0 m 162 ls [])) a := by
  obtain ⟨hx, hb, hml, hown, hts, hr, hlk⟩ := id C0
  refine zloop (Wh := (fun (a : Int32 × MX) => ∀ (H : Heap) (locs : List Loc) (ls : Array Slot), zIn D ad cy (WM ad cy a.2) A s H locs → lv_has ls 3 [(0, .ref (ad 0)), (2, .int a.1)] → W p l e ({ frames := 2, cells := 0, slots := 0, locals := 48 } : Room) s m args below meth c H locs 0 0 Q (F0 m 162 ls []))) (Wx := (fun (b : MX) => ∀ (H : Heap) (locs : List Loc) (ls : Array Slot), zIn D ad cy (WM ad cy b) A s H locs → lv_has ls 3 [(0, .ref (ad 0))] → W p l e ({ frames := 2, cells := 0, slots := 0, locals := 48 } : Room) s m args below meth c H locs 0 0 Q (F0 m 188 ls []))) ?_ _ a b hit hx9
  intro a x hf hL hX H locs ls hI hl
  unfold bX10_readLine_162 at hf
  refine lv_iload_n (pc := 162) hx hb dX10_readLine_162 rfl (lv_at hl 1 rfl) ?_
  refine lv_iconst (pc := 163) (v := 4) hx hb dX10_readLine_163 (by decide) ?_
  refine z_icmp_ge (pc := 164) (tgt := 188) hx hb dX10_readLine_164 (by decide) hf (fun hf => ?_) (fun hf => ?_)
  · exact (hX _ (Option.some.inj hf).symm) _ _ _ hI (lv_sub hl [0] rfl)
  refine lv_aload_n (pc := 167) hx hb dX10_readLine_167 rfl (lv_at hl 0 rfl) ?_
  obtain ⟨q22, hc21, hf⟩ := zbind hf
  refine zcallVv (pc := 168) (As := []) (rest := []) ⟨hx, hb, hml, hown, hts⟩ (kX10_next l D ad cy k a.2 q22 hc21) (cwV 0 hts gX10_readLine_X10_next rfl rfl rfl (by decide +kernel) ⟨Nat.le_of_ble_eq_true rfl, Nat.le_of_ble_eq_true rfl⟩) hI rfl (ml_0 ad cy a.2) rfl hl.1 rfl (Nat.le_of_ble_eq_true rfl) dX10_readLine_168 (Nat.zero_le _) (Nat.zero_le _) (fun H locs hI => ?_)
  refine lv_aload_n (pc := 171) hx hb dX10_readLine_171 rfl (lv_at hl 0 rfl) ?_
  refine lv_bipush (pc := 172) (v := 12) hx hb dX10_readLine_172 (by decide) ?_
  refine lv_iload_n (pc := 174) hx hb dX10_readLine_174 rfl (lv_at hl 1 rfl) ?_
  refine lv_iadd (pc := 175) hx hb dX10_readLine_175 ?_
  refine lv_iconst (pc := 176) (v := 0) hx hb dX10_readLine_176 (by decide) ?_
  refine lv_bipush (pc := 177) (v := 99) hx hb dX10_readLine_177 (by decide) ?_
  obtain ⟨q24, hc23, hf⟩ := zbind hf
  refine zcallVv (pc := 179) (As := [.int ((12 : Int32) + a.1), .int (0 : Int32), .int (99 : Int32)]) (rest := []) ⟨hx, hb, hml, hown, hts⟩ (kX10_number l D ad cy ((12 : Int32) + a.1) (0 : Int32) (99 : Int32) q22 q24 hc23) (cwV 3 hts gX10_readLine_X10_number rfl rfl rfl (by decide +kernel) ⟨Nat.le_of_ble_eq_true rfl, Nat.le_of_ble_eq_true rfl⟩) hI rfl (ml_0 ad cy q22) rfl hl.1 rfl (Nat.le_of_ble_eq_true rfl) dX10_readLine_179 (Nat.zero_le _) (Nat.zero_le _) (fun H locs hI => ?_)
  refine lv_iinc (pc := 182) (v := (a.1 + 1)) (lv' := [(2, .int (a.1 + 1)), (0, .ref (ad 0))]) hx hb dX10_readLine_182 hl (k := 1) rfl rfl (by decide) rfl (fun ls hl => ?_)
  refine lv_goto (pc := 185) (tgt := 162) hx hb dX10_readLine_185 (by decide) ?_
  exact hL _ (Option.some.inj hf).symm _ _ _ hI (lv_sub hl [1, 0] rfl)
set_option maxHeartbeats 4000000 in
set_option maxRecDepth 100000 in
theorem qX10_readLine_j234 (C0 : zFix p m c cX10_readLine 3 s args wsX10_readLine RX10 meth none) {k : Nat} {u : MX} {u' : MX} (hf : jX10_readLine_j234 k u = some u') {H : Heap} {locs : List Loc} {ls : Array Slot} (hI : zIn D ad cy (WM ad cy u) A s H locs) (hl : lv_has ls 3 [(0, .ref (ad 0))]) : W p l e ({ frames := 2, cells := 0, slots := 0, locals := 48 } : Room) s m args below meth c H locs 0 0 (zMQ D cy below args s A none (WM ad cy u')) (F0 m 234 ls []) := by
  obtain ⟨hx, hb, hml, hown, hts, hr, hlk⟩ := id C0
  unfold jX10_readLine_j234 at hf
  refine lv_aload_n (pc := 234) hx hb dX10_readLine_234 rfl (lv_at hl 0 rfl) ?_
  obtain ⟨q28, hc27, hf⟩ := zbind hf
  refine zcallVv (pc := 235) (As := []) (rest := []) ⟨hx, hb, hml, hown, hts⟩ (kX10_next l D ad cy k u q28 hc27) (cwV 0 hts gX10_readLine_X10_next rfl rfl rfl (by decide +kernel) ⟨Nat.le_of_ble_eq_true rfl, Nat.le_of_ble_eq_true rfl⟩) hI rfl (ml_0 ad cy u) rfl hl.1 rfl (Nat.le_of_ble_eq_true rfl) dX10_readLine_235 (Nat.zero_le _) (Nat.zero_le _) (fun H locs hI => ?_)
  refine lv_goto (pc := 238) (tgt := 293) hx hb dX10_readLine_238 (by decide) ?_
  refine lv_aload_n (pc := 293) hx hb dX10_readLine_293 rfl (lv_at hl 0 rfl) ?_
  refine z_get (pc := 294) (index := 71) hx hb hts iwX10_readLine_10 hown hI (ml_0 ad cy q28) rfl 3 (by decide) (by decide +kernel) rfl rfl dX10_readLine_294 ?_
  refine z_if_ne (pc := 297) (tgt := 313) hx hb dX10_readLine_297 (by decide) hf (fun hf => ?_) (fun hf => ?_)
  · refine lv_aload_n (pc := 313) hx hb dX10_readLine_313 rfl (lv_at hl 0 rfl) ?_
    obtain ⟨q30, hc29, hf⟩ := zbind hf
    refine zcallVv (pc := 314) (As := []) (rest := []) ⟨hx, hb, hml, hown, hts⟩ (kX10_next l D ad cy k q28 q30 hc29) (cwV 0 hts gX10_readLine_X10_next rfl rfl rfl (by decide +kernel) ⟨Nat.le_of_ble_eq_true rfl, Nat.le_of_ble_eq_true rfl⟩) hI rfl (ml_0 ad cy q28) rfl hl.1 rfl (Nat.le_of_ble_eq_true rfl) dX10_readLine_314 (Nat.zero_le _) (Nat.zero_le _) (fun H locs hI => ?_)
    obtain rfl := zone hf
    exact z_vret (pc := 317) C0 hI dX10_readLine_317
  refine lv_aload_n (pc := 300) hx hb dX10_readLine_300 rfl (lv_at hl 0 rfl) ?_
  refine z_get (pc := 301) (index := 90) hx hb hts iwX10_readLine_10 hown hI (ml_0 ad cy q28) rfl 7 (by decide) (by decide +kernel) rfl rfl dX10_readLine_301 ?_
  refine lv_iconst (pc := 304) (v := 3) hx hb dX10_readLine_304 (by decide) ?_
  refine z_icmp_eq (pc := 305) (tgt := 313) hx hb dX10_readLine_305 (by decide) hf (fun hf => ?_) (fun hf => ?_)
  · refine lv_aload_n (pc := 313) hx hb dX10_readLine_313 rfl (lv_at hl 0 rfl) ?_
    obtain ⟨q32, hc31, hf⟩ := zbind hf
    refine zcallVv (pc := 314) (As := []) (rest := []) ⟨hx, hb, hml, hown, hts⟩ (kX10_next l D ad cy k q28 q32 hc31) (cwV 0 hts gX10_readLine_X10_next rfl rfl rfl (by decide +kernel) ⟨Nat.le_of_ble_eq_true rfl, Nat.le_of_ble_eq_true rfl⟩) hI rfl (ml_0 ad cy q28) rfl hl.1 rfl (Nat.le_of_ble_eq_true rfl) dX10_readLine_314 (Nat.zero_le _) (Nat.zero_le _) (fun H locs hI => ?_)
    obtain rfl := zone hf
    exact z_vret (pc := 317) C0 hI dX10_readLine_317
  refine lv_aload_n (pc := 308) hx hb dX10_readLine_308 rfl (lv_at hl 0 rfl) ?_
  refine lv_iconst (pc := 309) (v := 2) hx hb dX10_readLine_309 (by decide) ?_
  obtain ⟨q34, hc33, hf⟩ := zbind hf
  refine zcallVv (pc := 310) (As := [.int (2 : Int32)]) (rest := []) ⟨hx, hb, hml, hown, hts⟩ (kX10_fails l D ad cy (2 : Int32) q28 q34 hc33) (cwV 1 hts gX10_readLine_X10_fails rfl rfl rfl (by decide +kernel) ⟨Nat.le_of_ble_eq_true rfl, Nat.le_of_ble_eq_true rfl⟩) hI rfl (ml_0 ad cy q28) rfl hl.1 rfl (Nat.le_of_ble_eq_true rfl) dX10_readLine_310 (Nat.zero_le _) (Nat.zero_le _) (fun H locs hI => ?_)
  refine lv_aload_n (pc := 313) hx hb dX10_readLine_313 rfl (lv_at hl 0 rfl) ?_
  obtain ⟨q36, hc35, hf⟩ := zbind hf
  refine zcallVv (pc := 314) (As := []) (rest := []) ⟨hx, hb, hml, hown, hts⟩ (kX10_next l D ad cy k q34 q36 hc35) (cwV 0 hts gX10_readLine_X10_next rfl rfl rfl (by decide +kernel) ⟨Nat.le_of_ble_eq_true rfl, Nat.le_of_ble_eq_true rfl⟩) hI rfl (ml_0 ad cy q34) rfl hl.1 rfl (Nat.le_of_ble_eq_true rfl) dX10_readLine_314 (Nat.zero_le _) (Nat.zero_le _) (fun H locs hI => ?_)
  obtain rfl := zone hf
  exact z_vret (pc := 317) C0 hI dX10_readLine_317
set_option maxHeartbeats 4000000 in
set_option maxRecDepth 100000 in
theorem qX10_readLine_j139 (C0 : zFix p m c cX10_readLine 3 s args wsX10_readLine RX10 meth none) {k : Nat} {t1 : Int32} {t2 : Int32} {t3 : Int32} {u : MX} {u' : MX} (hf : jX10_readLine_j139 k t1 t2 t3 u = some u') {H : Heap} {locs : List Loc} {ls : Array Slot} (hI : zIn D ad cy (WM ad cy u) A s H locs) (hl : lv_has ls 3 [(0, .ref (ad 0))]) : W p l e ({ frames := 2, cells := 0, slots := 0, locals := 48 } : Room) s m args below meth c H locs 0 0 (zMQ D cy below args s A none (WM ad cy u')) (F0 m 139 ls [.int t3, .int t2, .int t1, .ref (ad 0)]) := by
  obtain ⟨hx, hb, hml, hown, hts, hr, hlk⟩ := id C0
  unfold jX10_readLine_j139 at hf
  obtain ⟨q50, hc49, hf⟩ := zbind hf
  refine zcallVv (pc := 139) (As := [.int t1, .int t2, .int t3]) (rest := []) ⟨hx, hb, hml, hown, hts⟩ (kX10_number l D ad cy t1 t2 t3 u q50 hc49) (cwV 3 hts gX10_readLine_X10_number rfl rfl rfl (by decide +kernel) ⟨Nat.le_of_ble_eq_true rfl, Nat.le_of_ble_eq_true rfl⟩) hI rfl (ml_0 ad cy u) rfl hl.1 rfl (Nat.le_of_ble_eq_true rfl) dX10_readLine_139 (Nat.zero_le _) (Nat.zero_le _) (fun H locs hI => ?_)
  refine lv_aload_n (pc := 142) hx hb dX10_readLine_142 rfl (lv_at hl 0 rfl) ?_
  obtain ⟨q52, hc51, hf⟩ := zbind hf
  refine zcallVv (pc := 143) (As := []) (rest := []) ⟨hx, hb, hml, hown, hts⟩ (kX10_next l D ad cy k q50 q52 hc51) (cwV 0 hts gX10_readLine_X10_next rfl rfl rfl (by decide +kernel) ⟨Nat.le_of_ble_eq_true rfl, Nat.le_of_ble_eq_true rfl⟩) hI rfl (ml_0 ad cy q50) rfl hl.1 rfl (Nat.le_of_ble_eq_true rfl) dX10_readLine_143 (Nat.zero_le _) (Nat.zero_le _) (fun H locs hI => ?_)
  refine lv_goto (pc := 146) (tgt := 293) hx hb dX10_readLine_146 (by decide) ?_
  refine lv_aload_n (pc := 293) hx hb dX10_readLine_293 rfl (lv_at hl 0 rfl) ?_
  refine z_get (pc := 294) (index := 71) hx hb hts iwX10_readLine_10 hown hI (ml_0 ad cy q52) rfl 3 (by decide) (by decide +kernel) rfl rfl dX10_readLine_294 ?_
  refine z_if_ne (pc := 297) (tgt := 313) hx hb dX10_readLine_297 (by decide) hf (fun hf => ?_) (fun hf => ?_)
  · refine lv_aload_n (pc := 313) hx hb dX10_readLine_313 rfl (lv_at hl 0 rfl) ?_
    obtain ⟨q54, hc53, hf⟩ := zbind hf
    refine zcallVv (pc := 314) (As := []) (rest := []) ⟨hx, hb, hml, hown, hts⟩ (kX10_next l D ad cy k q52 q54 hc53) (cwV 0 hts gX10_readLine_X10_next rfl rfl rfl (by decide +kernel) ⟨Nat.le_of_ble_eq_true rfl, Nat.le_of_ble_eq_true rfl⟩) hI rfl (ml_0 ad cy q52) rfl hl.1 rfl (Nat.le_of_ble_eq_true rfl) dX10_readLine_314 (Nat.zero_le _) (Nat.zero_le _) (fun H locs hI => ?_)
    obtain rfl := zone hf
    exact z_vret (pc := 317) C0 hI dX10_readLine_317
  refine lv_aload_n (pc := 300) hx hb dX10_readLine_300 rfl (lv_at hl 0 rfl) ?_
  refine z_get (pc := 301) (index := 90) hx hb hts iwX10_readLine_10 hown hI (ml_0 ad cy q52) rfl 7 (by decide) (by decide +kernel) rfl rfl dX10_readLine_301 ?_
  refine lv_iconst (pc := 304) (v := 3) hx hb dX10_readLine_304 (by decide) ?_
  refine z_icmp_eq (pc := 305) (tgt := 313) hx hb dX10_readLine_305 (by decide) hf (fun hf => ?_) (fun hf => ?_)
  · refine lv_aload_n (pc := 313) hx hb dX10_readLine_313 rfl (lv_at hl 0 rfl) ?_
    obtain ⟨q56, hc55, hf⟩ := zbind hf
    refine zcallVv (pc := 314) (As := []) (rest := []) ⟨hx, hb, hml, hown, hts⟩ (kX10_next l D ad cy k q52 q56 hc55) (cwV 0 hts gX10_readLine_X10_next rfl rfl rfl (by decide +kernel) ⟨Nat.le_of_ble_eq_true rfl, Nat.le_of_ble_eq_true rfl⟩) hI rfl (ml_0 ad cy q52) rfl hl.1 rfl (Nat.le_of_ble_eq_true rfl) dX10_readLine_314 (Nat.zero_le _) (Nat.zero_le _) (fun H locs hI => ?_)
    obtain rfl := zone hf
    exact z_vret (pc := 317) C0 hI dX10_readLine_317
  refine lv_aload_n (pc := 308) hx hb dX10_readLine_308 rfl (lv_at hl 0 rfl) ?_
  refine lv_iconst (pc := 309) (v := 2) hx hb dX10_readLine_309 (by decide) ?_
  obtain ⟨q58, hc57, hf⟩ := zbind hf
  refine zcallVv (pc := 310) (As := [.int (2 : Int32)]) (rest := []) ⟨hx, hb, hml, hown, hts⟩ (kX10_fails l D ad cy (2 : Int32) q52 q58 hc57) (cwV 1 hts gX10_readLine_X10_fails rfl rfl rfl (by decide +kernel) ⟨Nat.le_of_ble_eq_true rfl, Nat.le_of_ble_eq_true rfl⟩) hI rfl (ml_0 ad cy q52) rfl hl.1 rfl (Nat.le_of_ble_eq_true rfl) dX10_readLine_310 (Nat.zero_le _) (Nat.zero_le _) (fun H locs hI => ?_)
  refine lv_aload_n (pc := 313) hx hb dX10_readLine_313 rfl (lv_at hl 0 rfl) ?_
  obtain ⟨q60, hc59, hf⟩ := zbind hf
  refine zcallVv (pc := 314) (As := []) (rest := []) ⟨hx, hb, hml, hown, hts⟩ (kX10_next l D ad cy k q58 q60 hc59) (cwV 0 hts gX10_readLine_X10_next rfl rfl rfl (by decide +kernel) ⟨Nat.le_of_ble_eq_true rfl, Nat.le_of_ble_eq_true rfl⟩) hI rfl (ml_0 ad cy q58) rfl hl.1 rfl (Nat.le_of_ble_eq_true rfl) dX10_readLine_314 (Nat.zero_le _) (Nat.zero_le _) (fun H locs hI => ?_)
  obtain rfl := zone hf
  exact z_vret (pc := 317) C0 hI dX10_readLine_317
set_option maxHeartbeats 4000000 in
set_option maxRecDepth 100000 in
theorem qX10_readLine_j127 (C0 : zFix p m c cX10_readLine 3 s args wsX10_readLine RX10 meth none) {k : Nat} {p1 : Int32} {t1 : Int32} {t2 : Int32} {u : MX} {u' : MX} (hf : jX10_readLine_j127 k p1 t1 t2 u = some u') {H : Heap} {locs : List Loc} {ls : Array Slot} (hI : zIn D ad cy (WM ad cy u) A s H locs) (hl : lv_has ls 3 [(0, .ref (ad 0)), (1, .int p1)]) : W p l e ({ frames := 2, cells := 0, slots := 0, locals := 48 } : Room) s m args below meth c H locs 0 0 (zMQ D cy below args s A none (WM ad cy u')) (F0 m 127 ls [.int t2, .int t1, .ref (ad 0)]) := by
  obtain ⟨hx, hb, hml, hown, hts, hr, hlk⟩ := id C0
  unfold jX10_readLine_j127 at hf
  refine lv_iload_n (pc := 127) hx hb dX10_readLine_127 rfl (lv_at hl 1 rfl) ?_
  refine lv_iconst (pc := 128) (v := 1) hx hb dX10_readLine_128 (by decide) ?_
  refine z_icmp_ne (pc := 129) (tgt := 137) hx hb dX10_readLine_129 (by decide) hf (fun hf => ?_) (fun hf => ?_)
  · refine lv_bipush (pc := 137) (v := 20) hx hb dX10_readLine_137 (by decide) ?_
    exact qX10_readLine_j139 C0 hf hI (lv_sub hl [0] rfl)
  refine lv_bipush (pc := 132) (v := 10) hx hb dX10_readLine_132 (by decide) ?_
  refine lv_goto (pc := 134) (tgt := 139) hx hb dX10_readLine_134 (by decide) ?_
  exact qX10_readLine_j139 C0 hf hI (lv_sub hl [0] rfl)
set_option maxHeartbeats 4000000 in
set_option maxRecDepth 100000 in
theorem qX10_readLine_j106 (C0 : zFix p m c cX10_readLine 3 s args wsX10_readLine RX10 meth none) {k : Nat} {p1 : Int32} {t0 : Int32} {u : MX} {u' : MX} (hf : jX10_readLine_j106 k p1 t0 u = some u') {H : Heap} {locs : List Loc} {ls : Array Slot} (hI : zIn D ad cy (WM ad cy u) A s H locs) (hl : lv_has ls 3 [(0, .ref (ad 0)), (1, .int p1)]) : W p l e ({ frames := 2, cells := 0, slots := 0, locals := 48 } : Room) s m args below meth c H locs 0 0 (zMQ D cy below args s A none (WM ad cy u')) (F0 m 106 ls [.int t0]) := by
  obtain ⟨hx, hb, hml, hown, hts, hr, hlk⟩ := id C0
  unfold jX10_readLine_j106 at hf
  refine lv_istore_n (pc := 106) (lv' := [(2, .int t0), (0, .ref (ad 0)), (1, .int p1)]) hx hb dX10_readLine_106 rfl hl (by decide) rfl (fun ls hl => ?_)
  refine lv_aload_n (pc := 107) hx hb dX10_readLine_107 rfl (lv_at hl 1 rfl) ?_
  refine lv_iload_n (pc := 108) hx hb dX10_readLine_108 rfl (lv_at hl 0 rfl) ?_
  obtain ⟨q46, hc45, hf⟩ := zbind hf
  refine zcallVv (pc := 109) (As := [.int t0]) (rest := []) ⟨hx, hb, hml, hown, hts⟩ (kX10_once l D ad cy t0 u q46 hc45) (cwV 1 hts gX10_readLine_X10_once rfl rfl rfl (by decide +kernel) ⟨Nat.le_of_ble_eq_true rfl, Nat.le_of_ble_eq_true rfl⟩) hI rfl (ml_0 ad cy u) rfl hl.1 rfl (Nat.le_of_ble_eq_true rfl) dX10_readLine_109 (Nat.zero_le _) (Nat.zero_le _) (fun H locs hI => ?_)
  refine lv_aload_n (pc := 112) hx hb dX10_readLine_112 rfl (lv_at hl 1 rfl) ?_
  obtain ⟨q48, hc47, hf⟩ := zbind hf
  refine zcallVv (pc := 113) (As := []) (rest := []) ⟨hx, hb, hml, hown, hts⟩ (kX10_next l D ad cy k q46 q48 hc47) (cwV 0 hts gX10_readLine_X10_next rfl rfl rfl (by decide +kernel) ⟨Nat.le_of_ble_eq_true rfl, Nat.le_of_ble_eq_true rfl⟩) hI rfl (ml_0 ad cy q46) rfl hl.1 rfl (Nat.le_of_ble_eq_true rfl) dX10_readLine_113 (Nat.zero_le _) (Nat.zero_le _) (fun H locs hI => ?_)
  refine lv_aload_n (pc := 116) hx hb dX10_readLine_116 rfl (lv_at hl 1 rfl) ?_
  refine lv_iload_n (pc := 117) hx hb dX10_readLine_117 rfl (lv_at hl 0 rfl) ?_
  refine lv_iload_n (pc := 118) hx hb dX10_readLine_118 rfl (lv_at hl 2 rfl) ?_
  refine z_if_ne (pc := 119) (tgt := 126) hx hb dX10_readLine_119 (by decide) hf (fun hf => ?_) (fun hf => ?_)
  · refine lv_iconst (pc := 126) (v := 0) hx hb dX10_readLine_126 (by decide) ?_
    exact qX10_readLine_j127 C0 hf hI (lv_sub hl [1, 2] rfl)
  refine lv_iconst (pc := 122) (v := 1) hx hb dX10_readLine_122 (by decide) ?_
  refine lv_goto (pc := 123) (tgt := 127) hx hb dX10_readLine_123 (by decide) ?_
  exact qX10_readLine_j127 C0 hf hI (lv_sub hl [1, 2] rfl)
set_option maxHeartbeats 4000000 in
set_option maxRecDepth 100000 in
theorem qX10_readLine_j80 (C0 : zFix p m c cX10_readLine 3 s args wsX10_readLine RX10 meth none) {k : Nat} {p1 : Int32} {u : MX} {u' : MX} (hf : jX10_readLine_j80 k p1 u = some u') {H : Heap} {locs : List Loc} {ls : Array Slot} (hI : zIn D ad cy (WM ad cy u) A s H locs) (hl : lv_has ls 3 [(0, .ref (ad 0)), (1, .int p1)]) : W p l e ({ frames := 2, cells := 0, slots := 0, locals := 48 } : Room) s m args below meth c H locs 0 0 (zMQ D cy below args s A none (WM ad cy u')) (F0 m 80 ls []) := by
  obtain ⟨hx, hb, hml, hown, hts, hr, hlk⟩ := id C0
  unfold jX10_readLine_j80 at hf
  refine lv_aload_n (pc := 80) hx hb dX10_readLine_80 rfl (lv_at hl 0 rfl) ?_
  refine z_get (pc := 81) (index := 71) hx hb hts iwX10_readLine_10 hown hI (ml_0 ad cy u) rfl 3 (by decide) (by decide +kernel) rfl rfl dX10_readLine_81 ?_
  refine z_if_ne (pc := 84) (tgt := 105) hx hb dX10_readLine_84 (by decide) hf (fun hf => ?_) (fun hf => ?_)
  · refine lv_iconst (pc := 105) (v := 0) hx hb dX10_readLine_105 (by decide) ?_
    exact qX10_readLine_j106 C0 hf hI (lv_sub hl [0, 1] rfl)
  refine lv_iconst (pc := 87) (v := 4) hx hb dX10_readLine_87 (by decide) ?_
  refine lv_iload_n (pc := 88) hx hb dX10_readLine_88 rfl (lv_at hl 1 rfl) ?_
  refine lv_imul (pc := 89) hx hb dX10_readLine_89 ?_
  refine lv_aload_n (pc := 90) hx hb dX10_readLine_90 rfl (lv_at hl 0 rfl) ?_
  refine lv_aload_n (pc := 91) hx hb dX10_readLine_91 rfl (lv_at hl 0 rfl) ?_
  refine z_get (pc := 92) (index := 74) hx hb hts iwX10_readLine_10 hown hI (ml_0 ad cy u) rfl 6 (by decide) (by decide +kernel) rfl rfl dX10_readLine_92 ?_
  obtain ⟨q62, hc61, hf⟩ := zbind hf
  refine zcallVi (pc := 95) (As := [.int (mg_place u)]) (rest := [.int ((4 : Int32) * p1)]) ⟨hx, hb, hml, hown, hts⟩ (kX10_byteAt l D ad cy (mg_place u) u q62 hc61) (cwV 1 hts gX10_readLine_X10_byteAt rfl rfl rfl (by decide +kernel) ⟨Nat.le_of_ble_eq_true rfl, Nat.le_of_ble_eq_true rfl⟩) hI rfl (ml_0 ad cy u) rfl hl.1 rfl (Nat.le_of_ble_eq_true rfl) dX10_readLine_95 (Nat.zero_le _) (Nat.zero_le _) (fun H locs hI => ?_)
  refine lv_iadd (pc := 98) hx hb dX10_readLine_98 ?_
  refine lv_bipush (pc := 99) (v := 97) hx hb dX10_readLine_99 (by decide) ?_
  refine lv_isub (pc := 101) hx hb dX10_readLine_101 ?_
  refine lv_goto (pc := 102) (tgt := 106) hx hb dX10_readLine_102 (by decide) ?_
  exact qX10_readLine_j106 C0 hf hI (lv_sub hl [0, 1] rfl)
set_option maxHeartbeats 4000000 in
set_option maxRecDepth 100000 in
theorem qX10_readLine_j75 (C0 : zFix p m c cX10_readLine 3 s args wsX10_readLine RX10 meth none) {k : Nat} {p1 : Int32} {u : MX} {u' : MX} (hf : jX10_readLine_j75 k p1 u = some u') {H : Heap} {locs : List Loc} {ls : Array Slot} (hI : zIn D ad cy (WM ad cy u) A s H locs) (hl : lv_has ls 3 [(0, .ref (ad 0)), (1, .int p1)]) : W p l e ({ frames := 2, cells := 0, slots := 0, locals := 48 } : Room) s m args below meth c H locs 0 0 (zMQ D cy below args s A none (WM ad cy u')) (F0 m 75 ls []) := by
  obtain ⟨hx, hb, hml, hown, hts, hr, hlk⟩ := id C0
  unfold jX10_readLine_j75 at hf
  refine lv_aload_n (pc := 75) hx hb dX10_readLine_75 rfl (lv_at hl 0 rfl) ?_
  refine lv_iconst (pc := 76) (v := 2) hx hb dX10_readLine_76 (by decide) ?_
  obtain ⟨q64, hc63, hf⟩ := zbind hf
  refine zcallVv (pc := 77) (As := [.int (2 : Int32)]) (rest := []) ⟨hx, hb, hml, hown, hts⟩ (kX10_fails l D ad cy (2 : Int32) u q64 hc63) (cwV 1 hts gX10_readLine_X10_fails rfl rfl rfl (by decide +kernel) ⟨Nat.le_of_ble_eq_true rfl, Nat.le_of_ble_eq_true rfl⟩) hI rfl (ml_0 ad cy u) rfl hl.1 rfl (Nat.le_of_ble_eq_true rfl) dX10_readLine_77 (Nat.zero_le _) (Nat.zero_le _) (fun H locs hI => ?_)
  exact qX10_readLine_j80 C0 hf hI (lv_sub hl [0, 1] rfl)
set_option maxHeartbeats 4000000 in
set_option maxRecDepth 100000 in
theorem kX10_readLine (l : Launch) (D : va_G) (ad : Nat → Nat) (cy : Nat → ClassId) (k : Nat) (u : MX) (u' : MX) (hf : fX10_readLine k u = some u') : zCt l yX10_readLine wsX10_readLine ({ frames := 2, cells := 0, slots := 0, locals := 48 } : Room) D ad cy [.ref (ad 0)] (WM ad cy u) none (WM ad cy u') := by
  refine zCt.of (cc := cX10_readLine) (maxL := 3) (ret := none) (own := RX10) (by decide) rfl rfl ?_
  intro p e s m below meth c A C0 hI
  obtain ⟨hx, hb, hml, hown, hts, hr, hlk⟩ := id C0
  refine z_entry (Nat.le_of_ble_eq_true rfl) (fun ls hl => ?_)
  have hl : lv_has ls 3 [(0, .ref (ad 0))] := hl
  unfold fX10_readLine at hf
  refine lv_aload_n (pc := 0) hx hb dX10_readLine_0 rfl (lv_at hl 0 rfl) ?_
  obtain ⟨q2, hc1, hf⟩ := zbind hf
  refine zcallVi (pc := 1) (As := []) (rest := []) ⟨hx, hb, hml, hown, hts⟩ (kX10_nameHere l D ad cy k u q2 hc1) (cwV 0 hts gX10_readLine_X10_nameHere rfl rfl rfl (by decide +kernel) ⟨Nat.le_of_ble_eq_true rfl, Nat.le_of_ble_eq_true rfl⟩) hI rfl (ml_0 ad cy u) rfl hl.1 rfl (Nat.le_of_ble_eq_true rfl) dX10_readLine_1 (Nat.zero_le _) (Nat.zero_le _) (fun H locs hI => ?_)
  refine lv_istore_n (pc := 4) (lv' := [(1, .int q2), (0, .ref (ad 0))]) hx hb dX10_readLine_4 rfl hl (by decide) rfl (fun ls hl => ?_)
  refine lv_iload_n (pc := 5) hx hb dX10_readLine_5 rfl (lv_at hl 0 rfl) ?_
  refine lv_bipush (pc := 6) (v := -4) hx hb dX10_readLine_6 (by decide) ?_
  refine z_icmp_ne (pc := 8) (tgt := 17) hx hb dX10_readLine_8 (by decide) hf (fun hf => ?_) (fun hf => ?_)
  · refine lv_iload_n (pc := 17) hx hb dX10_readLine_17 rfl (lv_at hl 0 rfl) ?_
    refine lv_iconst (pc := 18) (v := 3) hx hb dX10_readLine_18 (by decide) ?_
    refine z_icmp_ge (pc := 19) (tgt := 149) hx hb dX10_readLine_19 (by decide) hf (fun hf => ?_) (fun hf => ?_)
    · refine lv_iload_n (pc := 149) hx hb dX10_readLine_149 rfl (lv_at hl 0 rfl) ?_
      refine lv_iconst (pc := 150) (v := 3) hx hb dX10_readLine_150 (by decide) ?_
      refine z_icmp_ne (pc := 151) (tgt := 241) hx hb dX10_readLine_151 (by decide) hf (fun hf => ?_) (fun hf => ?_)
      · refine lv_aload_n (pc := 241) hx hb dX10_readLine_241 rfl (lv_at hl 1 rfl) ?_
        refine lv_bipush (pc := 242) (v := 16) hx hb dX10_readLine_242 (by decide) ?_
        refine lv_iload_n (pc := 244) hx hb dX10_readLine_244 rfl (lv_at hl 0 rfl) ?_
        refine lv_iadd (pc := 245) hx hb dX10_readLine_245 ?_
        refine lv_iconst (pc := 246) (v := 4) hx hb dX10_readLine_246 (by decide) ?_
        refine lv_isub (pc := 247) hx hb dX10_readLine_247 ?_
        obtain ⟨q4, hc3, hf⟩ := zbind hf
        refine zcallVv (pc := 248) (As := [.int (((16 : Int32) + q2) - (4 : Int32))]) (rest := []) ⟨hx, hb, hml, hown, hts⟩ (kX10_once l D ad cy (((16 : Int32) + q2) - (4 : Int32)) u q4 hc3) (cwV 1 hts gX10_readLine_X10_once rfl rfl rfl (by decide +kernel) ⟨Nat.le_of_ble_eq_true rfl, Nat.le_of_ble_eq_true rfl⟩) hI rfl (ml_0 ad cy u) rfl hl.1 rfl (Nat.le_of_ble_eq_true rfl) dX10_readLine_248 (Nat.zero_le _) (Nat.zero_le _) (fun H locs hI => ?_)
        refine lv_aload_n (pc := 251) hx hb dX10_readLine_251 rfl (lv_at hl 1 rfl) ?_
        obtain ⟨q6, hc5, hf⟩ := zbind hf
        refine zcallVv (pc := 252) (As := []) (rest := []) ⟨hx, hb, hml, hown, hts⟩ (kX10_next l D ad cy k q4 q6 hc5) (cwV 0 hts gX10_readLine_X10_next rfl rfl rfl (by decide +kernel) ⟨Nat.le_of_ble_eq_true rfl, Nat.le_of_ble_eq_true rfl⟩) hI rfl (ml_0 ad cy q4) rfl hl.1 rfl (Nat.le_of_ble_eq_true rfl) dX10_readLine_252 (Nat.zero_le _) (Nat.zero_le _) (fun H locs hI => ?_)
        refine lv_aload_n (pc := 255) hx hb dX10_readLine_255 rfl (lv_at hl 1 rfl) ?_
        refine lv_bipush (pc := 256) (v := 16) hx hb dX10_readLine_256 (by decide) ?_
        refine lv_iload_n (pc := 258) hx hb dX10_readLine_258 rfl (lv_at hl 0 rfl) ?_
        refine lv_iadd (pc := 259) hx hb dX10_readLine_259 ?_
        refine lv_iconst (pc := 260) (v := 4) hx hb dX10_readLine_260 (by decide) ?_
        refine lv_isub (pc := 261) hx hb dX10_readLine_261 ?_
        refine lv_iconst (pc := 262) (v := 0) hx hb dX10_readLine_262 (by decide) ?_
        refine lv_iload_n (pc := 263) hx hb dX10_readLine_263 rfl (lv_at hl 0 rfl) ?_
        refine lv_iconst (pc := 264) (v := 4) hx hb dX10_readLine_264 (by decide) ?_
        refine z_icmp_ne (pc := 265) (tgt := 274) hx hb dX10_readLine_265 (by decide) hf (fun hf => ?_) (fun hf => ?_)
        · refine lv_iload_n (pc := 274) hx hb dX10_readLine_274 rfl (lv_at hl 0 rfl) ?_
          refine lv_iconst (pc := 275) (v := 5) hx hb dX10_readLine_275 (by decide) ?_
          refine z_icmp_ne (pc := 276) (tgt := 284) hx hb dX10_readLine_276 (by decide) hf (fun hf => ?_) (fun hf => ?_)
          · refine lv_bipush (pc := 284) (v := 60) hx hb dX10_readLine_284 (by decide) ?_
            exact qX10_readLine_j286 C0 hf hI (lv_sub hl [1] rfl)
          refine lv_bipush (pc := 279) (v := 99) hx hb dX10_readLine_279 (by decide) ?_
          refine lv_goto (pc := 281) (tgt := 286) hx hb dX10_readLine_281 (by decide) ?_
          exact qX10_readLine_j286 C0 hf hI (lv_sub hl [1] rfl)
        refine lv_sipush (pc := 268) (v := 999) hx hb dX10_readLine_268 (by decide) ?_
        refine lv_goto (pc := 271) (tgt := 286) hx hb dX10_readLine_271 (by decide) ?_
        exact qX10_readLine_j286 C0 hf hI (lv_sub hl [1] rfl)
      refine lv_aload_n (pc := 154) hx hb dX10_readLine_154 rfl (lv_at hl 1 rfl) ?_
      refine lv_bipush (pc := 155) (v := 12) hx hb dX10_readLine_155 (by decide) ?_
      obtain ⟨q20, hc19, hf⟩ := zbind hf
      refine zcallVv (pc := 157) (As := [.int (12 : Int32)]) (rest := []) ⟨hx, hb, hml, hown, hts⟩ (kX10_once l D ad cy (12 : Int32) u q20 hc19) (cwV 1 hts gX10_readLine_X10_once rfl rfl rfl (by decide +kernel) ⟨Nat.le_of_ble_eq_true rfl, Nat.le_of_ble_eq_true rfl⟩) hI rfl (ml_0 ad cy u) rfl hl.1 rfl (Nat.le_of_ble_eq_true rfl) dX10_readLine_157 (Nat.zero_le _) (Nat.zero_le _) (fun H locs hI => ?_)
      refine lv_iconst (pc := 160) (v := 0) hx hb dX10_readLine_160 (by decide) ?_
      refine lv_istore_n (pc := 161) (lv' := [(2, .int (0 : Int32)), (1, .int q2), (0, .ref (ad 0))]) hx hb dX10_readLine_161 rfl hl (by decide) rfl (fun ls hl => ?_)
      obtain ⟨b25, hb26, hf⟩ := zbind hf
      refine lX10_readLine_162 C0 hb26 ?_ _ _ _ hI (lv_sub hl [2, 0] rfl)
      intro H locs ls hI hl
      refine lv_aload_n (pc := 188) hx hb dX10_readLine_188 rfl (lv_at hl 0 rfl) ?_
      refine z_get (pc := 189) (index := 71) hx hb hts iwX10_readLine_10 hown hI (ml_0 ad cy b25) rfl 3 (by decide) (by decide +kernel) rfl rfl dX10_readLine_189 ?_
      refine z_if_ne (pc := 192) (tgt := 234) hx hb dX10_readLine_192 (by decide) hf (fun hf => ?_) (fun hf => ?_)
      · exact qX10_readLine_j234 C0 hf hI (lv_sub hl [0] rfl)
      refine lv_aload_n (pc := 195) hx hb dX10_readLine_195 rfl (lv_at hl 0 rfl) ?_
      refine z_get (pc := 196) (index := 25) hx hb hts iwX10_readLine_10 hown hI (ml_0 ad cy b25) rfl 13 (by decide) (by decide +kernel) rfl rfl dX10_readLine_196 ?_
      refine lv_bipush (pc := 199) (v := 12) hx hb dX10_readLine_199 (by decide) ?_
      refine z_iald (pc := 201) hx hb hI (ml_6 ad cy b25) 0 rfl dX10_readLine_201 hf (fun v37 hf => ?_)
      refine lv_aload_n (pc := 202) hx hb dX10_readLine_202 rfl (lv_at hl 0 rfl) ?_
      refine z_get (pc := 203) (index := 25) hx hb hts iwX10_readLine_10 hown hI (ml_0 ad cy b25) rfl 13 (by decide) (by decide +kernel) rfl rfl dX10_readLine_203 ?_
      refine lv_bipush (pc := 206) (v := 13) hx hb dX10_readLine_206 (by decide) ?_
      refine z_iald (pc := 208) hx hb hI (ml_6 ad cy b25) 0 rfl dX10_readLine_208 hf (fun v38 hf => ?_)
      refine lv_iadd (pc := 209) hx hb dX10_readLine_209 ?_
      refine lv_aload_n (pc := 210) hx hb dX10_readLine_210 rfl (lv_at hl 0 rfl) ?_
      refine z_get (pc := 211) (index := 25) hx hb hts iwX10_readLine_10 hown hI (ml_0 ad cy b25) rfl 13 (by decide) (by decide +kernel) rfl rfl dX10_readLine_211 ?_
      refine lv_bipush (pc := 214) (v := 14) hx hb dX10_readLine_214 (by decide) ?_
      refine z_iald (pc := 216) hx hb hI (ml_6 ad cy b25) 0 rfl dX10_readLine_216 hf (fun v39 hf => ?_)
      refine lv_iadd (pc := 217) hx hb dX10_readLine_217 ?_
      refine lv_aload_n (pc := 218) hx hb dX10_readLine_218 rfl (lv_at hl 0 rfl) ?_
      refine z_get (pc := 219) (index := 25) hx hb hts iwX10_readLine_10 hown hI (ml_0 ad cy b25) rfl 13 (by decide) (by decide +kernel) rfl rfl dX10_readLine_219 ?_
      refine lv_bipush (pc := 222) (v := 15) hx hb dX10_readLine_222 (by decide) ?_
      refine z_iald (pc := 224) hx hb hI (ml_6 ad cy b25) 0 rfl dX10_readLine_224 hf (fun v40 hf => ?_)
      refine lv_iadd (pc := 225) hx hb dX10_readLine_225 ?_
      refine z_if_ne (pc := 226) (tgt := 234) hx hb dX10_readLine_226 (by decide) hf (fun hf => ?_) (fun hf => ?_)
      · exact qX10_readLine_j234 C0 hf hI (lv_sub hl [0] rfl)
      refine lv_aload_n (pc := 229) hx hb dX10_readLine_229 rfl (lv_at hl 0 rfl) ?_
      refine lv_iconst (pc := 230) (v := 3) hx hb dX10_readLine_230 (by decide) ?_
      obtain ⟨q42, hc41, hf⟩ := zbind hf
      refine zcallVv (pc := 231) (As := [.int (3 : Int32)]) (rest := []) ⟨hx, hb, hml, hown, hts⟩ (kX10_fails l D ad cy (3 : Int32) b25 q42 hc41) (cwV 1 hts gX10_readLine_X10_fails rfl rfl rfl (by decide +kernel) ⟨Nat.le_of_ble_eq_true rfl, Nat.le_of_ble_eq_true rfl⟩) hI rfl (ml_0 ad cy b25) rfl hl.1 rfl (Nat.le_of_ble_eq_true rfl) dX10_readLine_231 (Nat.zero_le _) (Nat.zero_le _) (fun H locs hI => ?_)
      exact qX10_readLine_j234 C0 hf hI (lv_sub hl [0] rfl)
    refine lv_aload_n (pc := 22) hx hb dX10_readLine_22 rfl (lv_at hl 1 rfl) ?_
    obtain ⟨q44, hc43, hf⟩ := zbind hf
    refine zcallVv (pc := 23) (As := []) (rest := []) ⟨hx, hb, hml, hown, hts⟩ (kX10_next l D ad cy k u q44 hc43) (cwV 0 hts gX10_readLine_X10_next rfl rfl rfl (by decide +kernel) ⟨Nat.le_of_ble_eq_true rfl, Nat.le_of_ble_eq_true rfl⟩) hI rfl (ml_0 ad cy u) rfl hl.1 rfl (Nat.le_of_ble_eq_true rfl) dX10_readLine_23 (Nat.zero_le _) (Nat.zero_le _) (fun H locs hI => ?_)
    refine lv_aload_n (pc := 26) hx hb dX10_readLine_26 rfl (lv_at hl 1 rfl) ?_
    refine z_get (pc := 27) (index := 71) hx hb hts iwX10_readLine_10 hown hI (ml_0 ad cy q44) rfl 3 (by decide) (by decide +kernel) rfl rfl dX10_readLine_27 ?_
    refine z_if_ne (pc := 30) (tgt := 80) hx hb dX10_readLine_30 (by decide) hf (fun hf => ?_) (fun hf => ?_)
    · exact qX10_readLine_j80 C0 hf hI (lv_sub hl [1, 0] rfl)
    refine lv_aload_n (pc := 33) hx hb dX10_readLine_33 rfl (lv_at hl 1 rfl) ?_
    refine z_get (pc := 34) (index := 90) hx hb hts iwX10_readLine_10 hown hI (ml_0 ad cy q44) rfl 7 (by decide) (by decide +kernel) rfl rfl dX10_readLine_34 ?_
    refine lv_iconst (pc := 37) (v := 1) hx hb dX10_readLine_37 (by decide) ?_
    refine z_icmp_ne (pc := 38) (tgt := 75) hx hb dX10_readLine_38 (by decide) hf (fun hf => ?_) (fun hf => ?_)
    · exact qX10_readLine_j75 C0 hf hI (lv_sub hl [1, 0] rfl)
    refine lv_aload_n (pc := 41) hx hb dX10_readLine_41 rfl (lv_at hl 1 rfl) ?_
    refine z_get (pc := 42) (index := 80) hx hb hts iwX10_readLine_10 hown hI (ml_0 ad cy q44) rfl 5 (by decide) (by decide +kernel) rfl rfl dX10_readLine_42 ?_
    refine lv_aload_n (pc := 45) hx hb dX10_readLine_45 rfl (lv_at hl 1 rfl) ?_
    refine z_get (pc := 46) (index := 74) hx hb hts iwX10_readLine_10 hown hI (ml_0 ad cy q44) rfl 6 (by decide) (by decide +kernel) rfl rfl dX10_readLine_46 ?_
    refine lv_isub (pc := 49) hx hb dX10_readLine_49 ?_
    refine lv_iconst (pc := 50) (v := 1) hx hb dX10_readLine_50 (by decide) ?_
    refine z_icmp_ne (pc := 51) (tgt := 75) hx hb dX10_readLine_51 (by decide) hf (fun hf => ?_) (fun hf => ?_)
    · exact qX10_readLine_j75 C0 hf hI (lv_sub hl [1, 0] rfl)
    refine lv_aload_n (pc := 54) hx hb dX10_readLine_54 rfl (lv_at hl 1 rfl) ?_
    refine lv_aload_n (pc := 55) hx hb dX10_readLine_55 rfl (lv_at hl 1 rfl) ?_
    refine z_get (pc := 56) (index := 74) hx hb hts iwX10_readLine_10 hown hI (ml_0 ad cy q44) rfl 6 (by decide) (by decide +kernel) rfl rfl dX10_readLine_56 ?_
    obtain ⟨q66, hc65, hf⟩ := zbind hf
    refine zcallVi (pc := 59) (As := [.int (mg_place q44)]) (rest := []) ⟨hx, hb, hml, hown, hts⟩ (kX10_byteAt l D ad cy (mg_place q44) q44 q66 hc65) (cwV 1 hts gX10_readLine_X10_byteAt rfl rfl rfl (by decide +kernel) ⟨Nat.le_of_ble_eq_true rfl, Nat.le_of_ble_eq_true rfl⟩) hI rfl (ml_0 ad cy q44) rfl hl.1 rfl (Nat.le_of_ble_eq_true rfl) dX10_readLine_59 (Nat.zero_le _) (Nat.zero_le _) (fun H locs hI => ?_)
    refine lv_i2l (pc := 62) hx hb dX10_readLine_62 rfl ?_
    refine lv_ldc2 (pc := 63) (v := 97) hx hb hown (hts (.constantLong RX10 93 (97)) (by decide +kernel)) dX10_readLine_63 ?_
    refine lv_ldc2 (pc := 66) (v := 100) hx hb hown (hts (.constantLong RX10 115 (100)) (by decide +kernel)) dX10_readLine_66 ?_
    obtain ⟨q68, hc67, hf⟩ := zbind hf
    refine zcallSi (pc := 69) (As := [.long (q66.toInt64), .long (97 : Int64), .long (100 : Int64)]) (rest := []) ⟨hx, hb, hml, hown, hts⟩ (kX10_in l (q66.toInt64) (97 : Int64) (100 : Int64) q68 hc67) (va_cwS 3 hts gX10_readLine_X10_in rfl rfl rfl (by decide +kernel) ⟨Nat.le_of_ble_eq_true rfl, Nat.le_of_ble_eq_true rfl⟩) rfl hl.1 rfl (Nat.le_of_ble_eq_true rfl) dX10_readLine_69 (Nat.zero_le _) (Nat.zero_le _) ?_
    refine z_if_ne (pc := 72) (tgt := 80) hx hb dX10_readLine_72 (by decide) hf (fun hf => ?_) (fun hf => ?_)
    · exact qX10_readLine_j80 C0 hf hI (lv_sub hl [1, 0] rfl)
    exact qX10_readLine_j75 C0 hf hI (lv_sub hl [1, 0] rfl)
  refine lv_aload_n (pc := 11) hx hb dX10_readLine_11 rfl (lv_at hl 1 rfl) ?_
  refine lv_iconst (pc := 12) (v := 2) hx hb dX10_readLine_12 (by decide) ?_
  obtain ⟨q70, hc69, hf⟩ := zbind hf
  refine zcallVv (pc := 13) (As := [.int (2 : Int32)]) (rest := []) ⟨hx, hb, hml, hown, hts⟩ (kX10_fails l D ad cy (2 : Int32) u q70 hc69) (cwV 1 hts gX10_readLine_X10_fails rfl rfl rfl (by decide +kernel) ⟨Nat.le_of_ble_eq_true rfl, Nat.le_of_ble_eq_true rfl⟩) hI rfl (ml_0 ad cy u) rfl hl.1 rfl (Nat.le_of_ble_eq_true rfl) dX10_readLine_13 (Nat.zero_le _) (Nat.zero_le _) (fun H locs hI => ?_)
  obtain rfl := zone hf
  exact z_vret (pc := 16) C0 hI dX10_readLine_16
set_option maxHeartbeats 4000000 in
set_option maxRecDepth 100000 in
theorem lX10_text_19 (C0 : zFix p m c cX10_text 3 s args wsX10_text RX10 meth (some .int)) {k : Nat} {p1 : Int32} {a : Int32 × MX} {b : MX} (hit : ziter (bX10_text_19 k p1) k a = some b) (hx9 : (fun (b : MX) => ∀ (H : Heap) (locs : List Loc) (ls : Array Slot), zIn D ad cy (WM ad cy b) A s H locs → lv_has ls 3 [(0, .ref (ad 0)), (1, .int p1)] → W p l e ({ frames := 3, cells := 0, slots := 0, locals := 70 } : Room) s m args below meth c H locs 0 0 Q (F0 m 43 ls [])) b) : (fun (a : Int32 × MX) => ∀ (H : Heap) (locs : List Loc) (ls : Array Slot), zIn D ad cy (WM ad cy a.2) A s H locs → lv_has ls 3 [(0, .ref (ad 0)), (1, .int p1), (2, .int a.1)] → W p l e ({ frames := 3, cells := 0, slots := 0, locals := 70 } : Room) s m args below meth c H locs 0 0 Q (F0 m 19 ls [])) a := by
  obtain ⟨hx, hb, hml, hown, hts, hr, hlk⟩ := id C0
  refine zloop (Wh := (fun (a : Int32 × MX) => ∀ (H : Heap) (locs : List Loc) (ls : Array Slot), zIn D ad cy (WM ad cy a.2) A s H locs → lv_has ls 3 [(0, .ref (ad 0)), (1, .int p1), (2, .int a.1)] → W p l e ({ frames := 3, cells := 0, slots := 0, locals := 70 } : Room) s m args below meth c H locs 0 0 Q (F0 m 19 ls []))) (Wx := (fun (b : MX) => ∀ (H : Heap) (locs : List Loc) (ls : Array Slot), zIn D ad cy (WM ad cy b) A s H locs → lv_has ls 3 [(0, .ref (ad 0)), (1, .int p1)] → W p l e ({ frames := 3, cells := 0, slots := 0, locals := 70 } : Room) s m args below meth c H locs 0 0 Q (F0 m 43 ls []))) ?_ _ a b hit hx9
  intro a x hf hL hX H locs ls hI hl
  unfold bX10_text_19 at hf
  refine lv_iload_n (pc := 19) hx hb dX10_text_19 rfl (lv_at hl 2 rfl) ?_
  refine lv_bipush (pc := 20) (v := 19) hx hb dX10_text_20 (by decide) ?_
  refine z_icmp_ge (pc := 22) (tgt := 43) hx hb dX10_text_22 (by decide) hf (fun hf => ?_) (fun hf => ?_)
  · exact (hX _ (Option.some.inj hf).symm) _ _ _ hI (lv_sub hl [0, 1] rfl)
  refine lv_aload_n (pc := 25) hx hb dX10_text_25 rfl (lv_at hl 0 rfl) ?_
  refine z_get (pc := 26) (index := 25) hx hb hts iwX10_text_10 hown hI (ml_0 ad cy a.2) rfl 13 (by decide) (by decide +kernel) rfl rfl dX10_text_26 ?_
  refine lv_iload_n (pc := 29) hx hb dX10_text_29 rfl (lv_at hl 2 rfl) ?_
  refine lv_aload_n (pc := 30) hx hb dX10_text_30 rfl (lv_at hl 0 rfl) ?_
  refine z_get (pc := 31) (index := 19) hx hb hts iwX10_text_10 hown hI (ml_0 ad cy a.2) rfl 11 (by decide) (by decide +kernel) rfl rfl dX10_text_31 ?_
  refine lv_iload_n (pc := 34) hx hb dX10_text_34 rfl (lv_at hl 2 rfl) ?_
  refine z_iald (pc := 35) hx hb hI (ml_4 ad cy a.2) 0 rfl dX10_text_35 hf (fun v4 hf => ?_)
  refine z_iast (wf := WM ad cy) (pc := 36) hx hb hI (ml_6 ad cy a.2) 0 rfl dX10_text_36 (fun j => mw_reads ad cy a.2 (upd (mg_reads a.2) j v4)) hf (fun j5 u6 H locs hj5 hI hf => ?_)
  refine lv_iinc (pc := 37) (v := (a.1 + 1)) (lv' := [(2, .int (a.1 + 1)), (0, .ref (ad 0)), (1, .int p1)]) hx hb dX10_text_37 hl (k := 2) rfl rfl (by decide) rfl (fun ls hl => ?_)
  refine lv_goto (pc := 40) (tgt := 19) hx hb dX10_text_40 (by decide) ?_
  exact hL _ (Option.some.inj hf).symm _ _ _ hI (lv_sub hl [1, 2, 0] rfl)
set_option maxHeartbeats 4000000 in
set_option maxRecDepth 100000 in
theorem lX10_text_47 (C0 : zFix p m c cX10_text 3 s args wsX10_text RX10 meth (some .int)) {k : Nat} {a : Int32 × MX} {b : Int32 × MX} (hit : ziter (bX10_text_47 k) k a = some b) (hx9 : (fun (b : Int32 × MX) => ∀ (H : Heap) (locs : List Loc) (ls : Array Slot), zIn D ad cy (WM ad cy b.2) A s H locs → lv_has ls 3 [(0, .ref (ad 0)), (1, .int b.1)] → W p l e ({ frames := 3, cells := 0, slots := 0, locals := 70 } : Room) s m args below meth c H locs 0 0 Q (F0 m 71 ls [])) b) : (fun (a : Int32 × MX) => ∀ (H : Heap) (locs : List Loc) (ls : Array Slot), zIn D ad cy (WM ad cy a.2) A s H locs → lv_has ls 3 [(0, .ref (ad 0)), (1, .int a.1)] → W p l e ({ frames := 3, cells := 0, slots := 0, locals := 70 } : Room) s m args below meth c H locs 0 0 Q (F0 m 47 ls [])) a := by
  obtain ⟨hx, hb, hml, hown, hts, hr, hlk⟩ := id C0
  refine zloop (Wh := (fun (a : Int32 × MX) => ∀ (H : Heap) (locs : List Loc) (ls : Array Slot), zIn D ad cy (WM ad cy a.2) A s H locs → lv_has ls 3 [(0, .ref (ad 0)), (1, .int a.1)] → W p l e ({ frames := 3, cells := 0, slots := 0, locals := 70 } : Room) s m args below meth c H locs 0 0 Q (F0 m 47 ls []))) (Wx := (fun (b : Int32 × MX) => ∀ (H : Heap) (locs : List Loc) (ls : Array Slot), zIn D ad cy (WM ad cy b.2) A s H locs → lv_has ls 3 [(0, .ref (ad 0)), (1, .int b.1)] → W p l e ({ frames := 3, cells := 0, slots := 0, locals := 70 } : Room) s m args below meth c H locs 0 0 Q (F0 m 71 ls []))) ?_ _ a b hit hx9
  intro a x hf hL hX H locs ls hI hl
  unfold bX10_text_47 at hf
  refine lv_aload_n (pc := 47) hx hb dX10_text_47 rfl (lv_at hl 0 rfl) ?_
  refine z_get (pc := 48) (index := 71) hx hb hts iwX10_text_10 hown hI (ml_0 ad cy a.2) rfl 3 (by decide) (by decide +kernel) rfl rfl dX10_text_48 ?_
  refine z_if_ne (pc := 51) (tgt := 71) hx hb dX10_text_51 (by decide) hf (fun hf => ?_) (fun hf => ?_)
  · exact (hX _ (Option.some.inj hf).symm) _ _ _ hI (lv_sub hl [0, 1] rfl)
  refine lv_aload_n (pc := 54) hx hb dX10_text_54 rfl (lv_at hl 0 rfl) ?_
  refine z_get (pc := 55) (index := 90) hx hb hts iwX10_text_10 hown hI (ml_0 ad cy a.2) rfl 7 (by decide) (by decide +kernel) rfl rfl dX10_text_55 ?_
  refine z_if_eq (pc := 58) (tgt := 71) hx hb dX10_text_58 (by decide) hf (fun hf => ?_) (fun hf => ?_)
  · exact (hX _ (Option.some.inj hf).symm) _ _ _ hI (lv_sub hl [0, 1] rfl)
  refine lv_aload_n (pc := 61) hx hb dX10_text_61 rfl (lv_at hl 0 rfl) ?_
  obtain ⟨q12, hc11, hf⟩ := zbind hf
  refine zcallVv (pc := 62) (As := []) (rest := []) ⟨hx, hb, hml, hown, hts⟩ (kX10_readLine l D ad cy k a.2 q12 hc11) (cwV 0 hts gX10_text_X10_readLine rfl rfl rfl (by decide +kernel) ⟨Nat.le_of_ble_eq_true rfl, Nat.le_of_ble_eq_true rfl⟩) hI rfl (ml_0 ad cy a.2) rfl hl.1 rfl (Nat.le_of_ble_eq_true rfl) dX10_text_62 (Nat.zero_le _) (Nat.zero_le _) (fun H locs hI => ?_)
  refine lv_iinc (pc := 65) (v := (a.1 + 1)) (lv' := [(1, .int (a.1 + 1)), (0, .ref (ad 0))]) hx hb dX10_text_65 hl (k := 1) rfl rfl (by decide) rfl (fun ls hl => ?_)
  refine lv_goto (pc := 68) (tgt := 47) hx hb dX10_text_68 (by decide) ?_
  exact hL _ (Option.some.inj hf).symm _ _ _ hI (lv_sub hl [1, 0] rfl)
set_option maxHeartbeats 4000000 in
set_option maxRecDepth 100000 in
theorem lX10_text_101 (C0 : zFix p m c cX10_text 3 s args wsX10_text RX10 meth (some .int)) {k : Nat} {p1 : Int32} {a : Int32 × MX} {b : MX} (hit : ziter (bX10_text_101 k p1) k a = some b) (hx9 : (fun (b : MX) => ∀ (H : Heap) (locs : List Loc) (ls : Array Slot), zIn D ad cy (WM ad cy b) A s H locs → lv_has ls 3 [(0, .ref (ad 0)), (1, .int p1)] → W p l e ({ frames := 3, cells := 0, slots := 0, locals := 70 } : Room) s m args below meth c H locs 0 0 Q (F0 m 125 ls [])) b) : (fun (a : Int32 × MX) => ∀ (H : Heap) (locs : List Loc) (ls : Array Slot), zIn D ad cy (WM ad cy a.2) A s H locs → lv_has ls 3 [(0, .ref (ad 0)), (1, .int p1), (2, .int a.1)] → W p l e ({ frames := 3, cells := 0, slots := 0, locals := 70 } : Room) s m args below meth c H locs 0 0 Q (F0 m 101 ls [])) a := by
  obtain ⟨hx, hb, hml, hown, hts, hr, hlk⟩ := id C0
  refine zloop (Wh := (fun (a : Int32 × MX) => ∀ (H : Heap) (locs : List Loc) (ls : Array Slot), zIn D ad cy (WM ad cy a.2) A s H locs → lv_has ls 3 [(0, .ref (ad 0)), (1, .int p1), (2, .int a.1)] → W p l e ({ frames := 3, cells := 0, slots := 0, locals := 70 } : Room) s m args below meth c H locs 0 0 Q (F0 m 101 ls []))) (Wx := (fun (b : MX) => ∀ (H : Heap) (locs : List Loc) (ls : Array Slot), zIn D ad cy (WM ad cy b) A s H locs → lv_has ls 3 [(0, .ref (ad 0)), (1, .int p1)] → W p l e ({ frames := 3, cells := 0, slots := 0, locals := 70 } : Room) s m args below meth c H locs 0 0 Q (F0 m 125 ls []))) ?_ _ a b hit hx9
  intro a x hf hL hX H locs ls hI hl
  unfold bX10_text_101 at hf
  refine lv_iload_n (pc := 101) hx hb dX10_text_101 rfl (lv_at hl 2 rfl) ?_
  refine lv_bipush (pc := 102) (v := 19) hx hb dX10_text_102 (by decide) ?_
  refine z_icmp_ge (pc := 104) (tgt := 125) hx hb dX10_text_104 (by decide) hf (fun hf => ?_) (fun hf => ?_)
  · exact (hX _ (Option.some.inj hf).symm) _ _ _ hI (lv_sub hl [0, 1] rfl)
  refine lv_aload_n (pc := 107) hx hb dX10_text_107 rfl (lv_at hl 0 rfl) ?_
  refine z_get (pc := 108) (index := 22) hx hb hts iwX10_text_10 hown hI (ml_0 ad cy a.2) rfl 12 (by decide) (by decide +kernel) rfl rfl dX10_text_108 ?_
  refine lv_iload_n (pc := 111) hx hb dX10_text_111 rfl (lv_at hl 2 rfl) ?_
  refine lv_aload_n (pc := 112) hx hb dX10_text_112 rfl (lv_at hl 0 rfl) ?_
  refine z_get (pc := 113) (index := 25) hx hb hts iwX10_text_10 hown hI (ml_0 ad cy a.2) rfl 13 (by decide) (by decide +kernel) rfl rfl dX10_text_113 ?_
  refine lv_iload_n (pc := 116) hx hb dX10_text_116 rfl (lv_at hl 2 rfl) ?_
  refine z_iald (pc := 117) hx hb hI (ml_6 ad cy a.2) 0 rfl dX10_text_117 hf (fun v17 hf => ?_)
  refine z_iast (wf := WM ad cy) (pc := 118) hx hb hI (ml_5 ad cy a.2) 0 rfl dX10_text_118 (fun j => mw_holds ad cy a.2 (upd (mg_holds a.2) j v17)) hf (fun j18 u19 H locs hj18 hI hf => ?_)
  refine lv_iinc (pc := 119) (v := (a.1 + 1)) (lv' := [(2, .int (a.1 + 1)), (0, .ref (ad 0)), (1, .int p1)]) hx hb dX10_text_119 hl (k := 2) rfl rfl (by decide) rfl (fun ls hl => ?_)
  refine lv_goto (pc := 122) (tgt := 101) hx hb dX10_text_122 (by decide) ?_
  exact hL _ (Option.some.inj hf).symm _ _ _ hI (lv_sub hl [1, 2, 0] rfl)
set_option maxHeartbeats 4000000 in
set_option maxRecDepth 100000 in
theorem qX10_text_j71 (C0 : zFix p m c cX10_text 3 s args wsX10_text RX10 meth (some .int)) {k : Nat} {p1 : Int32} {u : MX} {r : Int32} {u' : MX} (hf : jX10_text_j71 k p1 u = some (r, u')) {H : Heap} {locs : List Loc} {ls : Array Slot} (hI : zIn D ad cy (WM ad cy u) A s H locs) (hl : lv_has ls 3 [(0, .ref (ad 0)), (1, .int p1)]) : W p l e ({ frames := 3, cells := 0, slots := 0, locals := 70 } : Room) s m args below meth c H locs 0 0 (zMQ D cy below args s A (some (.int r)) (WM ad cy u')) (F0 m 71 ls []) := by
  obtain ⟨hx, hb, hml, hown, hts, hr, hlk⟩ := id C0
  unfold jX10_text_j71 at hf
  refine lv_aload_n (pc := 71) hx hb dX10_text_71 rfl (lv_at hl 0 rfl) ?_
  refine lv_iconst (pc := 72) (v := 0) hx hb dX10_text_72 (by decide) ?_
  refine z_put (wf := WM ad cy) (pc := 73) (index := 63) hx hb hts iwX10_text_10 tyX10 tyX10_ok nmX10 hown hI (ml_0 ad cy u) rfl 1 (by decide) (by decide +kernel) rfl rfl rfl rfl (Nat.le_of_ble_eq_true rfl) dX10_text_73 (mw_taped ad cy u (0 : Int32)) hf (fun u15 H locs hI hf => ?_)
  refine lv_aload_n (pc := 76) hx hb dX10_text_76 rfl (lv_at hl 0 rfl) ?_
  refine lv_aload_n (pc := 77) hx hb dX10_text_77 rfl (lv_at hl 0 rfl) ?_
  refine z_get (pc := 78) (index := 71) hx hb hts iwX10_text_10 hown hI (ml_0 ad cy u15) rfl 3 (by decide) (by decide +kernel) rfl rfl dX10_text_78 ?_
  refine z_put (wf := WM ad cy) (pc := 81) (index := 127) hx hb hts iwX10_text_10 tyX10 tyX10_ok nmX10 hown hI (ml_0 ad cy u15) rfl 2 (by decide) (by decide +kernel) rfl rfl rfl rfl (Nat.le_of_ble_eq_true rfl) dX10_text_81 (mw_fault ad cy u15 (mg_wrong u15)) hf (fun u16 H locs hI hf => ?_)
  refine lv_aload_n (pc := 84) hx hb dX10_text_84 rfl (lv_at hl 0 rfl) ?_
  refine z_get (pc := 85) (index := 71) hx hb hts iwX10_text_10 hown hI (ml_0 ad cy u16) rfl 3 (by decide) (by decide +kernel) rfl rfl dX10_text_85 ?_
  refine z_if_le (pc := 88) (tgt := 99) hx hb dX10_text_88 (by decide) hf (fun hf => ?_) (fun hf => ?_)
  · refine lv_iconst (pc := 99) (v := 0) hx hb dX10_text_99 (by decide) ?_
    refine lv_istore_n (pc := 100) (lv' := [(2, .int (0 : Int32)), (0, .ref (ad 0)), (1, .int p1)]) hx hb dX10_text_100 rfl hl (by decide) rfl (fun ls hl => ?_)
    obtain ⟨b20, hb21, hf⟩ := zbind hf
    refine lX10_text_101 C0 hb21 ?_ _ _ _ hI (lv_sub hl [1, 2, 0] rfl)
    intro H locs ls hI hl
    refine lv_aload_n (pc := 125) hx hb dX10_text_125 rfl (lv_at hl 0 rfl) ?_
    refine lv_iconst (pc := 126) (v := 1) hx hb dX10_text_126 (by decide) ?_
    refine z_put (wf := WM ad cy) (pc := 127) (index := 47) hx hb hts iwX10_text_10 tyX10 tyX10_ok nmX10 hown hI (ml_0 ad cy b20) rfl 26 (by decide) (by decide +kernel) rfl rfl rfl rfl (Nat.le_of_ble_eq_true rfl) dX10_text_127 (mw_old ad cy b20 (1 : Int32)) hf (fun u22 H locs hI hf => ?_)
    refine lv_iload_n (pc := 130) hx hb dX10_text_130 rfl (lv_at hl 1 rfl) ?_
    obtain ⟨rfl, rfl⟩ := zpair hf
    exact z_iret (pc := 131) C0 hI dX10_text_131
  refine lv_bipush (pc := 91) (v := -10) hx hb dX10_text_91 (by decide) ?_
  refine lv_aload_n (pc := 93) hx hb dX10_text_93 rfl (lv_at hl 0 rfl) ?_
  refine z_get (pc := 94) (index := 77) hx hb hts iwX10_text_10 hown hI (ml_0 ad cy u16) rfl 4 (by decide) (by decide +kernel) rfl rfl dX10_text_94 ?_
  refine lv_isub (pc := 97) hx hb dX10_text_97 ?_
  obtain ⟨rfl, rfl⟩ := zpair hf
  exact z_iret (pc := 98) C0 hI dX10_text_98
set_option maxHeartbeats 4000000 in
set_option maxRecDepth 100000 in
theorem kX10_text (l : Launch) (D : va_G) (ad : Nat → Nat) (cy : Nat → ClassId) (k : Nat) (u : MX) (r : Int32) (u' : MX) (hf : fX10_text k u = some (r, u')) : zCt l yX10_text wsX10_text ({ frames := 3, cells := 0, slots := 0, locals := 70 } : Room) D ad cy [.ref (ad 0)] (WM ad cy u) (some (.int r)) (WM ad cy u') := by
  refine zCt.of (cc := cX10_text) (maxL := 3) (ret := (some .int)) (own := RX10) (by decide) rfl rfl ?_
  intro p e s m below meth c A C0 hI
  obtain ⟨hx, hb, hml, hown, hts, hr, hlk⟩ := id C0
  refine z_entry (Nat.le_of_ble_eq_true rfl) (fun ls hl => ?_)
  have hl : lv_has ls 3 [(0, .ref (ad 0))] := hl
  unfold fX10_text at hf
  refine lv_aload_n (pc := 0) hx hb dX10_text_0 rfl (lv_at hl 0 rfl) ?_
  refine lv_iconst (pc := 1) (v := 0) hx hb dX10_text_1 (by decide) ?_
  refine z_put (wf := WM ad cy) (pc := 2) (index := 71) hx hb hts iwX10_text_10 tyX10 tyX10_ok nmX10 hown hI (ml_0 ad cy u) rfl 3 (by decide) (by decide +kernel) rfl rfl rfl rfl (Nat.le_of_ble_eq_true rfl) dX10_text_2 (mw_wrong ad cy u (0 : Int32)) hf (fun u1 H locs hI hf => ?_)
  refine lv_aload_n (pc := 5) hx hb dX10_text_5 rfl (lv_at hl 0 rfl) ?_
  refine lv_iconst (pc := 6) (v := 0) hx hb dX10_text_6 (by decide) ?_
  refine z_put (wf := WM ad cy) (pc := 7) (index := 80) hx hb hts iwX10_text_10 tyX10 tyX10_ok nmX10 hown hI (ml_0 ad cy u1) rfl 5 (by decide) (by decide +kernel) rfl rfl rfl rfl (Nat.le_of_ble_eq_true rfl) dX10_text_7 (mw_spot ad cy u1 (0 : Int32)) hf (fun u2 H locs hI hf => ?_)
  refine lv_aload_n (pc := 10) hx hb dX10_text_10 rfl (lv_at hl 0 rfl) ?_
  refine lv_iconst (pc := 11) (v := 0) hx hb dX10_text_11 (by decide) ?_
  refine z_put (wf := WM ad cy) (pc := 12) (index := 105) hx hb hts iwX10_text_10 tyX10 tyX10_ok nmX10 hown hI (ml_0 ad cy u2) rfl 14 (by decide) (by decide +kernel) rfl rfl rfl rfl (Nat.le_of_ble_eq_true rfl) dX10_text_12 (mw_toldOnes ad cy u2 (0 : Int32)) hf (fun u3 H locs hI hf => ?_)
  refine lv_iconst (pc := 15) (v := 0) hx hb dX10_text_15 (by decide) ?_
  refine lv_istore_n (pc := 16) (lv' := [(1, .int (0 : Int32)), (0, .ref (ad 0))]) hx hb dX10_text_16 rfl hl (by decide) rfl (fun ls hl => ?_)
  refine lv_iconst (pc := 17) (v := 0) hx hb dX10_text_17 (by decide) ?_
  refine lv_istore_n (pc := 18) (lv' := [(2, .int (0 : Int32)), (1, .int (0 : Int32)), (0, .ref (ad 0))]) hx hb dX10_text_18 rfl hl (by decide) rfl (fun ls hl => ?_)
  obtain ⟨b7, hb8, hf⟩ := zbind hf
  refine lX10_text_19 C0 hb8 ?_ _ _ _ hI (lv_sub hl [2, 1, 0] rfl)
  intro H locs ls hI hl
  refine lv_aload_n (pc := 43) hx hb dX10_text_43 rfl (lv_at hl 0 rfl) ?_
  obtain ⟨q10, hc9, hf⟩ := zbind hf
  refine zcallVv (pc := 44) (As := []) (rest := []) ⟨hx, hb, hml, hown, hts⟩ (kX10_next l D ad cy k b7 q10 hc9) (cwV 0 hts gX10_text_X10_next rfl rfl rfl (by decide +kernel) ⟨Nat.le_of_ble_eq_true rfl, Nat.le_of_ble_eq_true rfl⟩) hI rfl (ml_0 ad cy b7) rfl hl.1 rfl (Nat.le_of_ble_eq_true rfl) dX10_text_44 (Nat.zero_le _) (Nat.zero_le _) (fun H locs hI => ?_)
  obtain ⟨b13, hb14, hf⟩ := zbind hf
  refine lX10_text_47 C0 hb14 ?_ _ _ _ hI (lv_sub hl [0, 1] rfl)
  intro H locs ls hI hl
  exact qX10_text_j71 C0 hf hI (lv_sub hl [0, 1] rfl)
set_option maxHeartbeats 4000000 in
set_option maxRecDepth 100000 in
theorem lX10_feed_19 (C0 : zFix p m c cX10_feed 4 s args wsX10_feed RX10 meth (some .int)) {k : Nat} {p1 : Int64} {a : Int32 × MX} {b : MX} (hit : ziter (bX10_feed_19 k p1) k a = some b) (hx9 : (fun (b : MX) => ∀ (H : Heap) (locs : List Loc) (ls : Array Slot), zIn D ad cy (WM ad cy b) A s H locs → lv_has ls 4 [(0, .ref (ad 0))] → W p l e ({ frames := 0, cells := 0, slots := 0, locals := 0 } : Room) s m args below meth c H locs 0 0 Q (F0 m 56 ls [])) b) : (fun (a : Int32 × MX) => ∀ (H : Heap) (locs : List Loc) (ls : Array Slot), zIn D ad cy (WM ad cy a.2) A s H locs → lv_has ls 4 [(0, .ref (ad 0)), (1, .long p1), (3, .int a.1)] → W p l e ({ frames := 0, cells := 0, slots := 0, locals := 0 } : Room) s m args below meth c H locs 0 0 Q (F0 m 19 ls [])) a := by
  obtain ⟨hx, hb, hml, hown, hts, hr, hlk⟩ := id C0
  refine zloop (Wh := (fun (a : Int32 × MX) => ∀ (H : Heap) (locs : List Loc) (ls : Array Slot), zIn D ad cy (WM ad cy a.2) A s H locs → lv_has ls 4 [(0, .ref (ad 0)), (1, .long p1), (3, .int a.1)] → W p l e ({ frames := 0, cells := 0, slots := 0, locals := 0 } : Room) s m args below meth c H locs 0 0 Q (F0 m 19 ls []))) (Wx := (fun (b : MX) => ∀ (H : Heap) (locs : List Loc) (ls : Array Slot), zIn D ad cy (WM ad cy b) A s H locs → lv_has ls 4 [(0, .ref (ad 0))] → W p l e ({ frames := 0, cells := 0, slots := 0, locals := 0 } : Room) s m args below meth c H locs 0 0 Q (F0 m 56 ls []))) ?_ _ a b hit hx9
  intro a x hf hL hX H locs ls hI hl
  unfold bX10_feed_19 at hf
  refine lv_iload_n (pc := 19) hx hb dX10_feed_19 rfl (lv_at hl 2 rfl) ?_
  refine z_if_lt (pc := 20) (tgt := 56) hx hb dX10_feed_20 (by decide) hf (fun hf => ?_) (fun hf => ?_)
  · exact (hX _ (Option.some.inj hf).symm) _ _ _ hI (lv_sub hl [0] rfl)
  refine lv_aload_n (pc := 23) hx hb dX10_feed_23 rfl (lv_at hl 0 rfl) ?_
  refine z_get (pc := 24) (index := 7) hx hb hts iwX10_feed_10 hown hI (ml_0 ad cy a.2) rfl 0 (by decide) (by decide +kernel) rfl rfl dX10_feed_24 ?_
  refine lv_aload_n (pc := 27) hx hb dX10_feed_27 rfl (lv_at hl 0 rfl) ?_
  refine z_get (pc := 28) (index := 63) hx hb hts iwX10_feed_10 hown hI (ml_0 ad cy a.2) rfl 1 (by decide) (by decide +kernel) rfl rfl dX10_feed_28 ?_
  refine lv_lload_n (pc := 31) hx hb dX10_feed_31 rfl (lv_at hl 1 rfl) ?_
  refine lv_iload_n (pc := 32) hx hb dX10_feed_32 rfl (lv_at hl 2 rfl) ?_
  refine lv_lshr (pc := 33) hx hb dX10_feed_33 rfl ?_
  refine lv_l2i (pc := 34) hx hb dX10_feed_34 rfl ?_
  refine lv_sipush (pc := 35) (v := 255) hx hb dX10_feed_35 (by decide) ?_
  refine lv_iand (pc := 38) hx hb dX10_feed_38 ?_
  refine z_iast (wf := WM ad cy) (pc := 39) hx hb hI (ml_1 ad cy a.2) 0 rfl dX10_feed_39 (fun j => mw_tape ad cy a.2 (upd (mg_tape a.2) j (((p1 >>> (a.1.toInt64 &&& 63)).toInt32) &&& (255 : Int32)))) hf (fun j1 u2 H locs hj1 hI hf => ?_)
  refine lv_aload_n (pc := 40) hx hb dX10_feed_40 rfl (lv_at hl 0 rfl) ?_
  refine lv_dup (pc := 41) hx hb dX10_feed_41 rfl ?_
  refine z_get (pc := 42) (index := 63) hx hb hts iwX10_feed_10 hown hI (ml_0 ad cy u2) rfl 1 (by decide) (by decide +kernel) rfl rfl dX10_feed_42 ?_
  refine lv_iconst (pc := 45) (v := 1) hx hb dX10_feed_45 (by decide) ?_
  refine lv_iadd (pc := 46) hx hb dX10_feed_46 ?_
  refine z_put (wf := WM ad cy) (pc := 47) (index := 63) hx hb hts iwX10_feed_10 tyX10 tyX10_ok nmX10 hown hI (ml_0 ad cy u2) rfl 1 (by decide) (by decide +kernel) rfl rfl rfl rfl (Nat.le_of_ble_eq_true rfl) dX10_feed_47 (mw_taped ad cy u2 ((mg_taped u2) + (1 : Int32))) hf (fun u3 H locs hI hf => ?_)
  refine lv_iinc (pc := 50) (v := (a.1 + (-8))) (lv' := [(3, .int (a.1 + (-8))), (0, .ref (ad 0)), (1, .long p1)]) hx hb dX10_feed_50 hl (k := 2) rfl rfl (by decide) rfl (fun ls hl => ?_)
  refine lv_goto (pc := 53) (tgt := 19) hx hb dX10_feed_53 (by decide) ?_
  exact hL _ (Option.some.inj hf).symm _ _ _ hI (lv_sub hl [1, 2, 0] rfl)
set_option maxHeartbeats 4000000 in
set_option maxRecDepth 100000 in
theorem kX10_feed (l : Launch) (D : va_G) (ad : Nat → Nat) (cy : Nat → ClassId) (k : Nat) (a1 : Int64) (u : MX) (r : Int32) (u' : MX) (hf : fX10_feed k a1 u = some (r, u')) : zCt l yX10_feed wsX10_feed ({ frames := 0, cells := 0, slots := 0, locals := 0 } : Room) D ad cy [.ref (ad 0), .long a1] (WM ad cy u) (some (.int r)) (WM ad cy u') := by
  refine zCt.of (cc := cX10_feed) (maxL := 4) (ret := (some .int)) (own := RX10) (by decide) rfl rfl ?_
  intro p e s m below meth c A C0 hI
  obtain ⟨hx, hb, hml, hown, hts, hr, hlk⟩ := id C0
  refine z_entry (Nat.le_of_ble_eq_true rfl) (fun ls hl => ?_)
  have hl : lv_has ls 4 [(0, .ref (ad 0)), (1, .long a1)] := hl
  unfold fX10_feed at hf
  refine lv_aload_n (pc := 0) hx hb dX10_feed_0 rfl (lv_at hl 0 rfl) ?_
  refine z_get (pc := 1) (index := 63) hx hb hts iwX10_feed_10 hown hI (ml_0 ad cy u) rfl 1 (by decide) (by decide +kernel) rfl rfl dX10_feed_1 ?_
  refine lv_bipush (pc := 4) (v := 8) hx hb dX10_feed_4 (by decide) ?_
  refine lv_iadd (pc := 6) hx hb dX10_feed_6 ?_
  refine lv_sipush (pc := 7) (v := 200) hx hb dX10_feed_7 (by decide) ?_
  refine z_icmp_le (pc := 10) (tgt := 16) hx hb dX10_feed_10 (by decide) hf (fun hf => ?_) (fun hf => ?_)
  · refine lv_bipush (pc := 16) (v := 56) hx hb dX10_feed_16 (by decide) ?_
    refine lv_istore_n (pc := 18) (lv' := [(3, .int (56 : Int32)), (0, .ref (ad 0)), (1, .long a1)]) hx hb dX10_feed_18 rfl hl (by decide) rfl (fun ls hl => ?_)
    obtain ⟨b4, hb5, hf⟩ := zbind hf
    refine lX10_feed_19 C0 hb5 ?_ _ _ _ hI (lv_sub hl [1, 2, 0] rfl)
    intro H locs ls hI hl
    refine lv_aload_n (pc := 56) hx hb dX10_feed_56 rfl (lv_at hl 0 rfl) ?_
    refine z_get (pc := 57) (index := 63) hx hb hts iwX10_feed_10 hown hI (ml_0 ad cy b4) rfl 1 (by decide) (by decide +kernel) rfl rfl dX10_feed_57 ?_
    obtain ⟨rfl, rfl⟩ := zpair hf
    exact z_iret (pc := 60) C0 hI dX10_feed_60
  refine lv_bipush (pc := 13) (v := -3) hx hb dX10_feed_13 (by decide) ?_
  obtain ⟨rfl, rfl⟩ := zpair hf
  exact z_iret (pc := 15) C0 hI dX10_feed_15
set_option maxHeartbeats 4000000 in
set_option maxRecDepth 100000 in
theorem kX10_end (l : Launch) (D : va_G) (ad : Nat → Nat) (cy : Nat → ClassId) (a1 : Int32) (u : MX) (r : Int32) (u' : MX) (hf : fX10_end a1 u = some (r, u')) : zCt l yX10_end wsX10_end ({ frames := 1, cells := 0, slots := 0, locals := 25 } : Room) D ad cy [.ref (ad 0), .int a1] (WM ad cy u) (some (.int r)) (WM ad cy u') := by
  refine zCt.of (cc := cX10_end) (maxL := 3) (ret := (some .int)) (own := RX10) (by decide) rfl rfl ?_
  intro p e s m below meth c A C0 hI
  obtain ⟨hx, hb, hml, hown, hts, hr, hlk⟩ := id C0
  refine z_entry (Nat.le_of_ble_eq_true rfl) (fun ls hl => ?_)
  have hl : lv_has ls 3 [(0, .ref (ad 0)), (1, .int a1)] := hl
  unfold fX10_end at hf
  refine lv_iload_n (pc := 0) hx hb dX10_end_0 rfl (lv_at hl 1 rfl) ?_
  refine lv_i2l (pc := 1) hx hb dX10_end_1 rfl ?_
  refine lv_lconst (pc := 2) (v := 0) hx hb dX10_end_2 (by decide) ?_
  refine lv_aload_n (pc := 3) hx hb dX10_end_3 rfl (lv_at hl 0 rfl) ?_
  refine z_get (pc := 4) (index := 63) hx hb hts iwX10_end_10 hown hI (ml_0 ad cy u) rfl 1 (by decide) (by decide +kernel) rfl rfl dX10_end_4 ?_
  refine lv_i2l (pc := 7) hx hb dX10_end_7 rfl ?_
  obtain ⟨q2, hc1, hf⟩ := zbind hf
  refine zcallSi (pc := 8) (As := [.long (a1.toInt64), .long (0 : Int64), .long ((mg_taped u).toInt64)]) (rest := []) ⟨hx, hb, hml, hown, hts⟩ (kX10_in l (a1.toInt64) (0 : Int64) ((mg_taped u).toInt64) q2 hc1) (va_cwS 3 hts gX10_end_X10_in rfl rfl rfl (by decide +kernel) ⟨Nat.le_of_ble_eq_true rfl, Nat.le_of_ble_eq_true rfl⟩) rfl hl.1 rfl (Nat.le_of_ble_eq_true rfl) dX10_end_8 (Nat.zero_le _) (Nat.zero_le _) ?_
  refine z_if_ne (pc := 11) (tgt := 16) hx hb dX10_end_11 (by decide) hf (fun hf => ?_) (fun hf => ?_)
  · refine lv_aload_n (pc := 16) hx hb dX10_end_16 rfl (lv_at hl 0 rfl) ?_
    refine z_get (pc := 17) (index := 63) hx hb hts iwX10_end_10 hown hI (ml_0 ad cy u) rfl 1 (by decide) (by decide +kernel) rfl rfl dX10_end_17 ?_
    refine z_bi hf (fun v3 hf => ?_)
    refine lv_istore_n (pc := 20) (lv' := [(2, .int v3), (0, .ref (ad 0)), (1, .int a1)]) hx hb dX10_end_20 rfl hl (by decide) rfl (fun ls hl => ?_)
    refine lv_aload_n (pc := 21) hx hb dX10_end_21 rfl (lv_at hl 1 rfl) ?_
    refine lv_iload_n (pc := 22) hx hb dX10_end_22 rfl (lv_at hl 2 rfl) ?_
    refine z_put (wf := WM ad cy) (pc := 23) (index := 63) hx hb hts iwX10_end_10 tyX10 tyX10_ok nmX10 hown hI (ml_0 ad cy u) rfl 1 (by decide) (by decide +kernel) rfl rfl rfl rfl (Nat.le_of_ble_eq_true rfl) dX10_end_23 (mw_taped ad cy u a1) hf (fun u4 H locs hI hf => ?_)
    refine lv_iload_n (pc := 26) hx hb dX10_end_26 rfl (lv_at hl 0 rfl) ?_
    obtain ⟨rfl, rfl⟩ := zpair hf
    exact z_iret (pc := 27) C0 hI dX10_end_27
  refine lv_iconst (pc := 14) (v := -1) hx hb dX10_end_14 (by decide) ?_
  obtain ⟨rfl, rfl⟩ := zpair hf
  exact z_iret (pc := 15) C0 hI dX10_end_15
set_option maxHeartbeats 4000000 in
set_option maxRecDepth 100000 in
theorem kX10_fault (l : Launch) (D : va_G) (ad : Nat → Nat) (cy : Nat → ClassId) (u : MX) (r : Int32) (hf : fX10_fault u = some r) : zCt l yX10_fault wsX10_fault ({ frames := 0, cells := 0, slots := 0, locals := 0 } : Room) D ad cy [.ref (ad 0)] (WM ad cy u) (some (.int r)) (WM ad cy u) := by
  refine zCt.of (cc := cX10_fault) (maxL := 1) (ret := (some .int)) (own := RX10) (by decide) rfl rfl ?_
  intro p e s m below meth c A C0 hI
  obtain ⟨hx, hb, hml, hown, hts, hr, hlk⟩ := id C0
  refine z_entry (Nat.le_of_ble_eq_true rfl) (fun ls hl => ?_)
  have hl : lv_has ls 1 [(0, .ref (ad 0))] := hl
  unfold fX10_fault at hf
  refine lv_aload_n (pc := 0) hx hb dX10_fault_0 rfl (lv_at hl 0 rfl) ?_
  refine z_get (pc := 1) (index := 127) hx hb hts iwX10_fault_10 hown hI (ml_0 ad cy u) rfl 2 (by decide) (by decide +kernel) rfl rfl dX10_fault_1 ?_
  obtain rfl := zone hf
  exact z_iret (pc := 4) C0 hI dX10_fault_4
end
