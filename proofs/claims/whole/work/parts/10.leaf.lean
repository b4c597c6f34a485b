def fX9_isPart (a1 : Int32) : Option (Int32) :=
  if a1 < 0 then
    some (0 : Int32)
  else
  if (4 : Int32) ≤ a1 then
    some (0 : Int32)
  else
  some (1 : Int32)
def fX9_isLaw (a1 : Int32) : Option (Int32) :=
  if a1 < 0 then
    some (0 : Int32)
  else
  if (14641 : Int32) ≤ a1 then
    some (0 : Int32)
  else
  some (1 : Int32)
def fX9_isSide (a1 : Int32) : Option (Int32) :=
  if a1 = 0 then
    some (1 : Int32)
  else
  if a1 = (1 : Int32) then
    some (1 : Int32)
  else
  some (0 : Int32)
def fX9_isSheet (a1 : Int32) : Option (Int32) :=
  if a1 < 0 then
    some (0 : Int32)
  else
  if (4 : Int32) ≤ a1 then
    some (0 : Int32)
  else
  some (1 : Int32)
def fX9_isLane (a1 : Int32) : Option (Int32) :=
  if a1 < 0 then
    some (0 : Int32)
  else
  if (2 : Int32) < a1 then
    some (0 : Int32)
  else
  some (1 : Int32)
def fX9_areHoles (a1 : Int32) : Option (Int32) :=
  if a1 < 0 then
    some (0 : Int32)
  else
  if (255 : Int32) < a1 then
    some (0 : Int32)
  else
  if (3 : Int32) < ((((a1 >>> ((6 : Int32) &&& 31)) + ((a1 >>> ((4 : Int32) &&& 31)) &&& (3 : Int32))) + ((a1 >>> ((2 : Int32) &&& 31)) &&& (3 : Int32))) + (a1 &&& (3 : Int32))) then
    some (0 : Int32)
  else
  some (1 : Int32)
def fX9_figure (a1 : Int32) (a2 : Int32) : Option (Int32) :=
  if a2 = 0 then
    zdi (1331 : Int32) (
    some (a1 / (1331 : Int32)))
  else
  if a2 = 1 then
    zdi (121 : Int32) (
    zdi (11 : Int32) (
    some (zremI (a1 / (121 : Int32)) (11 : Int32))))
  else
  if a2 = 2 then
    zdi (11 : Int32) (
    zdi (11 : Int32) (
    some (zremI (a1 / (11 : Int32)) (11 : Int32))))
  else
  zdi (11 : Int32) (
  some (zremI a1 (11 : Int32)))
def fX9_isNearTrial (a1 : Int32) (a2 : Int32) (a3 : Int32) : Option (Int32) :=
  if (10 : Int32) < (zabsI (((10 : Int32) * a2) - (a1 * a3))) then
    some (0 : Int32)
  else
  some (1 : Int32)
def bX9_farthestPart_7 (k : Nat) (p0 : Int32) (p1 : Int32) (a : Int32 × Int32 × Int32) : Option ((Int32 × Int32 × Int32) ⊕ (Int32)) :=
  if (4 : Int32) ≤ a.2.2 then
    some (.inr a.1)
  else
  (fX9_figure p0 a.2.2).bind (fun q2 =>
  (fX9_figure p1 a.2.2).bind (fun q4 =>
  zb (zabsI (q2 - q4)) (fun v5 =>
  if v5 ≤ a.2.1 then
    some (.inl (a.1, a.2.1, (a.2.2 + 1)))
  else
  some (.inl (a.2.2, v5, (a.2.2 + 1))))))
def fX9_farthestPart (k : Nat) (a1 : Int32) (a2 : Int32) : Option (Int32) :=
  (ziter (bX9_farthestPart_7 k a1 a2) k ((0 : Int32), (-1 : Int32), (0 : Int32))).bind (fun b6 =>
    some b6)
def bX9_lowest_15 (k : Nat) (p0 : Int64) (p2 : Int64) (p4 : Int32) (a : Int64 × Int64 × Int32) : Option ((Int64 × Int64 × Int32) ⊕ (Int64)) :=
  if (200 : Int32) ≤ a.2.2 then
    some (.inr a.1)
  else
  if a.2.1 = (0 : Int64) then
    some (.inr a.1)
  else
  zdl a.2.1 (
  zb (zremL a.1 a.2.1) (fun v3 =>
  some (.inl (a.2.1, v3, (a.2.2 + 1)))))
def fX9_lowest (k : Nat) (a1 : Int64) (a2 : Int64) (a3 : Int32) : Option (Int64) :=
  zb (zabsL a1) (fun v1 =>
  zb (zabsL a2) (fun v2 =>
  (ziter (bX9_lowest_15 k a1 a2 a3) k (v1, v2, (0 : Int32))).bind (fun b4 =>
    if b4 = (0 : Int64) then
      if a3 = 0 then
        some (0 : Int64)
      else
      some (1 : Int64)
    else
    if a3 = 0 then
      zdl b4 (
      some (a1 / b4))
    else
    zdl b4 (
    some (a2 / b4)))))
section
variable {p : Program} {l : Launch} {e : Env} {s : State} {m : MethodId} {args : Array Value} {below : List Frame} {meth : Method} {c : Code} {A : Nat → Prop} {Q : State → Prop} {D : va_G} {ad : Nat → Nat} {cy : Nat → ClassId}
set_option maxHeartbeats 4000000 in
set_option maxRecDepth 100000 in
theorem kX9_isPart (l : Launch) (a1 : Int32) (r : Int32) (hf : fX9_isPart a1 = some r) : zSt l yX9_isPart wsX9_isPart ({ frames := 0, cells := 0, slots := 0, locals := 0 } : Room) [.int a1] (some (.int r)) := by
  refine zSt.of (cc := cX9_isPart) (maxL := 1) (ret := (some .boolean)) (own := RX9) (by decide) rfl rfl ?_
  intro p e s m below meth c C0
  obtain ⟨hx, hb, hml, hown, hts, hr, hlk⟩ := id C0
  refine z_entry (Nat.le_of_ble_eq_true rfl) (fun ls hl => ?_)
  have hl : lv_has ls 1 [(0, .int a1)] := hl
  unfold fX9_isPart at hf
  refine lv_iload_n (pc := 0) hx hb dX9_isPart_0 rfl (lv_at hl 0 rfl) ?_
  refine z_if_lt (pc := 1) (tgt := 13) hx hb dX9_isPart_1 (by decide) hf (fun hf => ?_) (fun hf => ?_)
  · refine lv_iconst (pc := 13) (v := 0) hx hb dX9_isPart_13 (by decide) ?_
    cases hf
    exact z_szret (pc := 14) C0 (Or.inl rfl) dX9_isPart_14
  refine lv_iload_n (pc := 4) hx hb dX9_isPart_4 rfl (lv_at hl 0 rfl) ?_
  refine lv_iconst (pc := 5) (v := 4) hx hb dX9_isPart_5 (by decide) ?_
  refine z_icmp_ge (pc := 6) (tgt := 13) hx hb dX9_isPart_6 (by decide) hf (fun hf => ?_) (fun hf => ?_)
  · refine lv_iconst (pc := 13) (v := 0) hx hb dX9_isPart_13 (by decide) ?_
    cases hf
    exact z_szret (pc := 14) C0 (Or.inl rfl) dX9_isPart_14
  refine lv_iconst (pc := 9) (v := 1) hx hb dX9_isPart_9 (by decide) ?_
  refine lv_goto (pc := 10) (tgt := 14) hx hb dX9_isPart_10 (by decide) ?_
  cases hf
  exact z_szret (pc := 14) C0 (Or.inr rfl) dX9_isPart_14
set_option maxHeartbeats 4000000 in
set_option maxRecDepth 100000 in
theorem kX9_isLaw (l : Launch) (a1 : Int32) (r : Int32) (hf : fX9_isLaw a1 = some r) : zSt l yX9_isLaw wsX9_isLaw ({ frames := 0, cells := 0, slots := 0, locals := 0 } : Room) [.int a1] (some (.int r)) := by
  refine zSt.of (cc := cX9_isLaw) (maxL := 1) (ret := (some .boolean)) (own := RX9) (by decide) rfl rfl ?_
  intro p e s m below meth c C0
  obtain ⟨hx, hb, hml, hown, hts, hr, hlk⟩ := id C0
  refine z_entry (Nat.le_of_ble_eq_true rfl) (fun ls hl => ?_)
  have hl : lv_has ls 1 [(0, .int a1)] := hl
  unfold fX9_isLaw at hf
  refine lv_iload_n (pc := 0) hx hb dX9_isLaw_0 rfl (lv_at hl 0 rfl) ?_
  refine z_if_lt (pc := 1) (tgt := 15) hx hb dX9_isLaw_1 (by decide) hf (fun hf => ?_) (fun hf => ?_)
  · refine lv_iconst (pc := 15) (v := 0) hx hb dX9_isLaw_15 (by decide) ?_
    cases hf
    exact z_szret (pc := 16) C0 (Or.inl rfl) dX9_isLaw_16
  refine lv_iload_n (pc := 4) hx hb dX9_isLaw_4 rfl (lv_at hl 0 rfl) ?_
  refine lv_sipush (pc := 5) (v := 14641) hx hb dX9_isLaw_5 (by decide) ?_
  refine z_icmp_ge (pc := 8) (tgt := 15) hx hb dX9_isLaw_8 (by decide) hf (fun hf => ?_) (fun hf => ?_)
  · refine lv_iconst (pc := 15) (v := 0) hx hb dX9_isLaw_15 (by decide) ?_
    cases hf
    exact z_szret (pc := 16) C0 (Or.inl rfl) dX9_isLaw_16
  refine lv_iconst (pc := 11) (v := 1) hx hb dX9_isLaw_11 (by decide) ?_
  refine lv_goto (pc := 12) (tgt := 16) hx hb dX9_isLaw_12 (by decide) ?_
  cases hf
  exact z_szret (pc := 16) C0 (Or.inr rfl) dX9_isLaw_16
set_option maxHeartbeats 4000000 in
set_option maxRecDepth 100000 in
theorem kX9_isSide (l : Launch) (a1 : Int32) (r : Int32) (hf : fX9_isSide a1 = some r) : zSt l yX9_isSide wsX9_isSide ({ frames := 0, cells := 0, slots := 0, locals := 0 } : Room) [.int a1] (some (.int r)) := by
  refine zSt.of (cc := cX9_isSide) (maxL := 1) (ret := (some .boolean)) (own := RX9) (by decide) rfl rfl ?_
  intro p e s m below meth c C0
  obtain ⟨hx, hb, hml, hown, hts, hr, hlk⟩ := id C0
  refine z_entry (Nat.le_of_ble_eq_true rfl) (fun ls hl => ?_)
  have hl : lv_has ls 1 [(0, .int a1)] := hl
  unfold fX9_isSide at hf
  refine lv_iload_n (pc := 0) hx hb dX9_isSide_0 rfl (lv_at hl 0 rfl) ?_
  refine z_if_eq (pc := 1) (tgt := 9) hx hb dX9_isSide_1 (by decide) hf (fun hf => ?_) (fun hf => ?_)
  · refine lv_iconst (pc := 9) (v := 1) hx hb dX9_isSide_9 (by decide) ?_
    refine lv_goto (pc := 10) (tgt := 14) hx hb dX9_isSide_10 (by decide) ?_
    cases hf
    exact z_szret (pc := 14) C0 (Or.inr rfl) dX9_isSide_14
  refine lv_iload_n (pc := 4) hx hb dX9_isSide_4 rfl (lv_at hl 0 rfl) ?_
  refine lv_iconst (pc := 5) (v := 1) hx hb dX9_isSide_5 (by decide) ?_
  refine z_icmp_ne (pc := 6) (tgt := 13) hx hb dX9_isSide_6 (by decide) hf (fun hf => ?_) (fun hf => ?_)
  · refine lv_iconst (pc := 13) (v := 0) hx hb dX9_isSide_13 (by decide) ?_
    cases hf
    exact z_szret (pc := 14) C0 (Or.inl rfl) dX9_isSide_14
  refine lv_iconst (pc := 9) (v := 1) hx hb dX9_isSide_9 (by decide) ?_
  refine lv_goto (pc := 10) (tgt := 14) hx hb dX9_isSide_10 (by decide) ?_
  cases hf
  exact z_szret (pc := 14) C0 (Or.inr rfl) dX9_isSide_14
set_option maxHeartbeats 4000000 in
set_option maxRecDepth 100000 in
theorem kX9_isSheet (l : Launch) (a1 : Int32) (r : Int32) (hf : fX9_isSheet a1 = some r) : zSt l yX9_isSheet wsX9_isSheet ({ frames := 0, cells := 0, slots := 0, locals := 0 } : Room) [.int a1] (some (.int r)) := by
  refine zSt.of (cc := cX9_isSheet) (maxL := 1) (ret := (some .boolean)) (own := RX9) (by decide) rfl rfl ?_
  intro p e s m below meth c C0
  obtain ⟨hx, hb, hml, hown, hts, hr, hlk⟩ := id C0
  refine z_entry (Nat.le_of_ble_eq_true rfl) (fun ls hl => ?_)
  have hl : lv_has ls 1 [(0, .int a1)] := hl
  unfold fX9_isSheet at hf
  refine lv_iload_n (pc := 0) hx hb dX9_isSheet_0 rfl (lv_at hl 0 rfl) ?_
  refine z_if_lt (pc := 1) (tgt := 13) hx hb dX9_isSheet_1 (by decide) hf (fun hf => ?_) (fun hf => ?_)
  · refine lv_iconst (pc := 13) (v := 0) hx hb dX9_isSheet_13 (by decide) ?_
    cases hf
    exact z_szret (pc := 14) C0 (Or.inl rfl) dX9_isSheet_14
  refine lv_iload_n (pc := 4) hx hb dX9_isSheet_4 rfl (lv_at hl 0 rfl) ?_
  refine lv_iconst (pc := 5) (v := 4) hx hb dX9_isSheet_5 (by decide) ?_
  refine z_icmp_ge (pc := 6) (tgt := 13) hx hb dX9_isSheet_6 (by decide) hf (fun hf => ?_) (fun hf => ?_)
  · refine lv_iconst (pc := 13) (v := 0) hx hb dX9_isSheet_13 (by decide) ?_
    cases hf
    exact z_szret (pc := 14) C0 (Or.inl rfl) dX9_isSheet_14
  refine lv_iconst (pc := 9) (v := 1) hx hb dX9_isSheet_9 (by decide) ?_
  refine lv_goto (pc := 10) (tgt := 14) hx hb dX9_isSheet_10 (by decide) ?_
  cases hf
  exact z_szret (pc := 14) C0 (Or.inr rfl) dX9_isSheet_14
set_option maxHeartbeats 4000000 in
set_option maxRecDepth 100000 in
theorem kX9_isLane (l : Launch) (a1 : Int32) (r : Int32) (hf : fX9_isLane a1 = some r) : zSt l yX9_isLane wsX9_isLane ({ frames := 0, cells := 0, slots := 0, locals := 0 } : Room) [.int a1] (some (.int r)) := by
  refine zSt.of (cc := cX9_isLane) (maxL := 1) (ret := (some .boolean)) (own := RX9) (by decide) rfl rfl ?_
  intro p e s m below meth c C0
  obtain ⟨hx, hb, hml, hown, hts, hr, hlk⟩ := id C0
  refine z_entry (Nat.le_of_ble_eq_true rfl) (fun ls hl => ?_)
  have hl : lv_has ls 1 [(0, .int a1)] := hl
  unfold fX9_isLane at hf
  refine lv_iload_n (pc := 0) hx hb dX9_isLane_0 rfl (lv_at hl 0 rfl) ?_
  refine z_if_lt (pc := 1) (tgt := 13) hx hb dX9_isLane_1 (by decide) hf (fun hf => ?_) (fun hf => ?_)
  · refine lv_iconst (pc := 13) (v := 0) hx hb dX9_isLane_13 (by decide) ?_
    cases hf
    exact z_szret (pc := 14) C0 (Or.inl rfl) dX9_isLane_14
  refine lv_iload_n (pc := 4) hx hb dX9_isLane_4 rfl (lv_at hl 0 rfl) ?_
  refine lv_iconst (pc := 5) (v := 2) hx hb dX9_isLane_5 (by decide) ?_
  refine z_icmp_gt (pc := 6) (tgt := 13) hx hb dX9_isLane_6 (by decide) hf (fun hf => ?_) (fun hf => ?_)
  · refine lv_iconst (pc := 13) (v := 0) hx hb dX9_isLane_13 (by decide) ?_
    cases hf
    exact z_szret (pc := 14) C0 (Or.inl rfl) dX9_isLane_14
  refine lv_iconst (pc := 9) (v := 1) hx hb dX9_isLane_9 (by decide) ?_
  refine lv_goto (pc := 10) (tgt := 14) hx hb dX9_isLane_10 (by decide) ?_
  cases hf
  exact z_szret (pc := 14) C0 (Or.inr rfl) dX9_isLane_14
set_option maxHeartbeats 4000000 in
set_option maxRecDepth 100000 in
theorem kX9_areHoles (l : Launch) (a1 : Int32) (r : Int32) (hf : fX9_areHoles a1 = some r) : zSt l yX9_areHoles wsX9_areHoles ({ frames := 0, cells := 0, slots := 0, locals := 0 } : Room) [.int a1] (some (.int r)) := by
  refine zSt.of (cc := cX9_areHoles) (maxL := 1) (ret := (some .boolean)) (own := RX9) (by decide) rfl rfl ?_
  intro p e s m below meth c C0
  obtain ⟨hx, hb, hml, hown, hts, hr, hlk⟩ := id C0
  refine z_entry (Nat.le_of_ble_eq_true rfl) (fun ls hl => ?_)
  have hl : lv_has ls 1 [(0, .int a1)] := hl
  unfold fX9_areHoles at hf
  refine lv_iload_n (pc := 0) hx hb dX9_areHoles_0 rfl (lv_at hl 0 rfl) ?_
  refine z_if_lt (pc := 1) (tgt := 39) hx hb dX9_areHoles_1 (by decide) hf (fun hf => ?_) (fun hf => ?_)
  · refine lv_iconst (pc := 39) (v := 0) hx hb dX9_areHoles_39 (by decide) ?_
    cases hf
    exact z_szret (pc := 40) C0 (Or.inl rfl) dX9_areHoles_40
  refine lv_iload_n (pc := 4) hx hb dX9_areHoles_4 rfl (lv_at hl 0 rfl) ?_
  refine lv_sipush (pc := 5) (v := 255) hx hb dX9_areHoles_5 (by decide) ?_
  refine z_icmp_gt (pc := 8) (tgt := 39) hx hb dX9_areHoles_8 (by decide) hf (fun hf => ?_) (fun hf => ?_)
  · refine lv_iconst (pc := 39) (v := 0) hx hb dX9_areHoles_39 (by decide) ?_
    cases hf
    exact z_szret (pc := 40) C0 (Or.inl rfl) dX9_areHoles_40
  refine lv_iload_n (pc := 11) hx hb dX9_areHoles_11 rfl (lv_at hl 0 rfl) ?_
  refine lv_bipush (pc := 12) (v := 6) hx hb dX9_areHoles_12 (by decide) ?_
  refine lv_ishr (pc := 14) hx hb dX9_areHoles_14 ?_
  refine lv_iload_n (pc := 15) hx hb dX9_areHoles_15 rfl (lv_at hl 0 rfl) ?_
  refine lv_iconst (pc := 16) (v := 4) hx hb dX9_areHoles_16 (by decide) ?_
  refine lv_ishr (pc := 17) hx hb dX9_areHoles_17 ?_
  refine lv_iconst (pc := 18) (v := 3) hx hb dX9_areHoles_18 (by decide) ?_
  refine lv_iand (pc := 19) hx hb dX9_areHoles_19 ?_
  refine lv_iadd (pc := 20) hx hb dX9_areHoles_20 ?_
  refine lv_iload_n (pc := 21) hx hb dX9_areHoles_21 rfl (lv_at hl 0 rfl) ?_
  refine lv_iconst (pc := 22) (v := 2) hx hb dX9_areHoles_22 (by decide) ?_
  refine lv_ishr (pc := 23) hx hb dX9_areHoles_23 ?_
  refine lv_iconst (pc := 24) (v := 3) hx hb dX9_areHoles_24 (by decide) ?_
  refine lv_iand (pc := 25) hx hb dX9_areHoles_25 ?_
  refine lv_iadd (pc := 26) hx hb dX9_areHoles_26 ?_
  refine lv_iload_n (pc := 27) hx hb dX9_areHoles_27 rfl (lv_at hl 0 rfl) ?_
  refine lv_iconst (pc := 28) (v := 3) hx hb dX9_areHoles_28 (by decide) ?_
  refine lv_iand (pc := 29) hx hb dX9_areHoles_29 ?_
  refine lv_iadd (pc := 30) hx hb dX9_areHoles_30 ?_
  refine lv_iconst (pc := 31) (v := 3) hx hb dX9_areHoles_31 (by decide) ?_
  refine z_icmp_gt (pc := 32) (tgt := 39) hx hb dX9_areHoles_32 (by decide) hf (fun hf => ?_) (fun hf => ?_)
  · refine lv_iconst (pc := 39) (v := 0) hx hb dX9_areHoles_39 (by decide) ?_
    cases hf
    exact z_szret (pc := 40) C0 (Or.inl rfl) dX9_areHoles_40
  refine lv_iconst (pc := 35) (v := 1) hx hb dX9_areHoles_35 (by decide) ?_
  refine lv_goto (pc := 36) (tgt := 40) hx hb dX9_areHoles_36 (by decide) ?_
  cases hf
  exact z_szret (pc := 40) C0 (Or.inr rfl) dX9_areHoles_40
set_option maxHeartbeats 4000000 in
set_option maxRecDepth 100000 in
theorem kX9_figure (l : Launch) (a1 : Int32) (a2 : Int32) (r : Int32) (hf : fX9_figure a1 a2 = some r) : zSt l yX9_figure wsX9_figure ({ frames := 0, cells := 0, slots := 0, locals := 0 } : Room) [.int a1, .int a2] (some (.int r)) := by
  refine zSt.of (cc := cX9_figure) (maxL := 2) (ret := (some .int)) (own := RX9) (by decide) rfl rfl ?_
  intro p e s m below meth c C0
  obtain ⟨hx, hb, hml, hown, hts, hr, hlk⟩ := id C0
  refine z_entry (Nat.le_of_ble_eq_true rfl) (fun ls hl => ?_)
  have hl : lv_has ls 2 [(0, .int a1), (1, .int a2)] := hl
  unfold fX9_figure at hf
  refine lv_iload_n (pc := 0) hx hb dX9_figure_0 rfl (lv_at hl 1 rfl) ?_
  refine z_swk (pc := 1) (kc := 0) (tgt := 28) hx hb dX9_figure_1 rfl (by decide) (by decide) (by decide) hf (fun hf => ?_) (fun n0 hf => ?_)
  · refine lv_iload_n (pc := 28) hx hb dX9_figure_28 rfl (lv_at hl 0 rfl) ?_
    refine lv_sipush (pc := 29) (v := 1331) hx hb dX9_figure_29 (by decide) ?_
    refine z_idiv (pc := 32) hx hb dX9_figure_32 hf (fun hf => ?_)
    cases hf
    exact z_siret (pc := 33) C0 dX9_figure_33
  refine z_swk (pc := 1) (kc := 1) (tgt := 34) hx hb dX9_figure_1 rfl (by decide) (by decide) (by decide) hf (fun hf => ?_) (fun n1 hf => ?_)
  · refine lv_iload_n (pc := 34) hx hb dX9_figure_34 rfl (lv_at hl 0 rfl) ?_
    refine lv_bipush (pc := 35) (v := 121) hx hb dX9_figure_35 (by decide) ?_
    refine z_idiv (pc := 37) hx hb dX9_figure_37 hf (fun hf => ?_)
    refine lv_bipush (pc := 38) (v := 11) hx hb dX9_figure_38 (by decide) ?_
    refine z_irem (pc := 40) hx hb dX9_figure_40 hf (fun hf => ?_)
    cases hf
    exact z_siret (pc := 41) C0 dX9_figure_41
  refine z_swk (pc := 1) (kc := 2) (tgt := 42) hx hb dX9_figure_1 rfl (by decide) (by decide) (by decide) hf (fun hf => ?_) (fun n2 hf => ?_)
  · refine lv_iload_n (pc := 42) hx hb dX9_figure_42 rfl (lv_at hl 0 rfl) ?_
    refine lv_bipush (pc := 43) (v := 11) hx hb dX9_figure_43 (by decide) ?_
    refine z_idiv (pc := 45) hx hb dX9_figure_45 hf (fun hf => ?_)
    refine lv_bipush (pc := 46) (v := 11) hx hb dX9_figure_46 (by decide) ?_
    refine z_irem (pc := 48) hx hb dX9_figure_48 hf (fun hf => ?_)
    cases hf
    exact z_siret (pc := 49) C0 dX9_figure_49
  refine lv_tableOut (pc := 1) (tgt := 50) hx hb dX9_figure_1 (z_out3 n0 n1 n2) (by decide) ?_
  refine lv_iload_n (pc := 50) hx hb dX9_figure_50 rfl (lv_at hl 0 rfl) ?_
  refine lv_bipush (pc := 51) (v := 11) hx hb dX9_figure_51 (by decide) ?_
  refine z_irem (pc := 53) hx hb dX9_figure_53 hf (fun hf => ?_)
  cases hf
  exact z_siret (pc := 54) C0 dX9_figure_54
set_option maxHeartbeats 4000000 in
set_option maxRecDepth 100000 in
theorem kX9_isNearTrial (l : Launch) (a1 : Int32) (a2 : Int32) (a3 : Int32) (r : Int32) (hf : fX9_isNearTrial a1 a2 a3 = some r) : zSt l yX9_isNearTrial wsX9_isNearTrial ({ frames := 1, cells := 0, slots := 0, locals := 21 } : Room) [.int a1, .int a2, .int a3] (some (.int r)) := by
  refine zSt.of (cc := cX9_isNearTrial) (maxL := 3) (ret := (some .boolean)) (own := RX9) (by decide) rfl rfl ?_
  intro p e s m below meth c C0
  obtain ⟨hx, hb, hml, hown, hts, hr, hlk⟩ := id C0
  refine z_entry (Nat.le_of_ble_eq_true rfl) (fun ls hl => ?_)
  have hl : lv_has ls 3 [(0, .int a1), (1, .int a2), (2, .int a3)] := hl
  unfold fX9_isNearTrial at hf
  refine lv_bipush (pc := 0) (v := 10) hx hb dX9_isNearTrial_0 (by decide) ?_
  refine lv_iload_n (pc := 2) hx hb dX9_isNearTrial_2 rfl (lv_at hl 1 rfl) ?_
  refine lv_imul (pc := 3) hx hb dX9_isNearTrial_3 ?_
  refine lv_iload_n (pc := 4) hx hb dX9_isNearTrial_4 rfl (lv_at hl 0 rfl) ?_
  refine lv_iload_n (pc := 5) hx hb dX9_isNearTrial_5 rfl (lv_at hl 2 rfl) ?_
  refine lv_imul (pc := 6) hx hb dX9_isNearTrial_6 ?_
  refine lv_isub (pc := 7) hx hb dX9_isNearTrial_7 ?_
  refine z_mabs (pc := 8) hx hb (hml.trans hl.1.symm) hown (hts (.methodLink RX9 308 Lib.Math.abs.name) (by decide +kernel)) (hts (.static Lib.Math.abs.name) (by decide +kernel)) (hts (.initialized "java/lang/Math") (by decide +kernel)) (hts (.code Lib.Math.abs.name Lib.Math.abs.code 1 (some .int)) (by decide +kernel)) (Nat.le_of_ble_eq_true rfl) (Nat.le_of_ble_eq_true rfl) (Nat.zero_le _) (Nat.zero_le _) dX9_isNearTrial_8 ?_
  refine lv_bipush (pc := 11) (v := 10) hx hb dX9_isNearTrial_11 (by decide) ?_
  refine z_icmp_gt (pc := 13) (tgt := 20) hx hb dX9_isNearTrial_13 (by decide) hf (fun hf => ?_) (fun hf => ?_)
  · refine lv_iconst (pc := 20) (v := 0) hx hb dX9_isNearTrial_20 (by decide) ?_
    cases hf
    exact z_szret (pc := 21) C0 (Or.inl rfl) dX9_isNearTrial_21
  refine lv_iconst (pc := 16) (v := 1) hx hb dX9_isNearTrial_16 (by decide) ?_
  refine lv_goto (pc := 17) (tgt := 21) hx hb dX9_isNearTrial_17 (by decide) ?_
  cases hf
  exact z_szret (pc := 21) C0 (Or.inr rfl) dX9_isNearTrial_21
set_option maxHeartbeats 4000000 in
set_option maxRecDepth 100000 in
theorem lX9_farthestPart_7 (C0 : zFix p m c cX9_farthestPart 6 s args wsX9_farthestPart RX9 meth (some .int)) {k : Nat} {p0 : Int32} {p1 : Int32} {a : Int32 × Int32 × Int32} {b : Int32} (hit : ziter (bX9_farthestPart_7 k p0 p1) k a = some b) (hx9 : (fun (b : Int32) => ∀ (ls : Array Slot), lv_has ls 6 [(2, .int b)] → W p l e ({ frames := 1, cells := 0, slots := 0, locals := 21 } : Room) s m args below meth c s.heap [] 0 0 Q (F0 m 49 ls [])) b) : (fun (a : Int32 × Int32 × Int32) => ∀ (ls : Array Slot), lv_has ls 6 [(0, .int p0), (1, .int p1), (2, .int a.1), (3, .int a.2.1), (4, .int a.2.2)] → W p l e ({ frames := 1, cells := 0, slots := 0, locals := 21 } : Room) s m args below meth c s.heap [] 0 0 Q (F0 m 7 ls [])) a := by
  obtain ⟨hx, hb, hml, hown, hts, hr, hlk⟩ := id C0
  refine zloop (Wh := (fun (a : Int32 × Int32 × Int32) => ∀ (ls : Array Slot), lv_has ls 6 [(0, .int p0), (1, .int p1), (2, .int a.1), (3, .int a.2.1), (4, .int a.2.2)] → W p l e ({ frames := 1, cells := 0, slots := 0, locals := 21 } : Room) s m args below meth c s.heap [] 0 0 Q (F0 m 7 ls []))) (Wx := (fun (b : Int32) => ∀ (ls : Array Slot), lv_has ls 6 [(2, .int b)] → W p l e ({ frames := 1, cells := 0, slots := 0, locals := 21 } : Room) s m args below meth c s.heap [] 0 0 Q (F0 m 49 ls []))) ?_ _ a b hit hx9
  intro a x hf hL hX ls hl
  unfold bX9_farthestPart_7 at hf
  refine lv_iload (pc := 7) hx hb dX9_farthestPart_7 (lv_at hl 4 rfl) ?_
  refine lv_iconst (pc := 9) (v := 4) hx hb dX9_farthestPart_9 (by decide) ?_
  refine z_icmp_ge (pc := 10) (tgt := 49) hx hb dX9_farthestPart_10 (by decide) hf (fun hf => ?_) (fun hf => ?_)
  · exact (hX _ (Option.some.inj hf).symm) _ (lv_sub hl [2] rfl)
  refine lv_iload_n (pc := 13) hx hb dX9_farthestPart_13 rfl (lv_at hl 0 rfl) ?_
  refine lv_iload (pc := 14) hx hb dX9_farthestPart_14 (lv_at hl 4 rfl) ?_
  obtain ⟨q2, hc1, hf⟩ := zbind hf
  refine zcallSi (pc := 16) (As := [.int p0, .int a.2.2]) (rest := []) ⟨hx, hb, hml, hown, hts⟩ (kX9_figure l p0 a.2.2 q2 hc1) (va_cwS 2 hts gX9_farthestPart_X9_figure rfl rfl rfl (by decide +kernel) ⟨Nat.le_of_ble_eq_true rfl, Nat.le_of_ble_eq_true rfl⟩) rfl hl.1 rfl (Nat.le_of_ble_eq_true rfl) dX9_farthestPart_16 (Nat.zero_le _) (Nat.zero_le _) ?_
  refine lv_iload_n (pc := 19) hx hb dX9_farthestPart_19 rfl (lv_at hl 1 rfl) ?_
  refine lv_iload (pc := 20) hx hb dX9_farthestPart_20 (lv_at hl 4 rfl) ?_
  obtain ⟨q4, hc3, hf⟩ := zbind hf
  refine zcallSi (pc := 22) (As := [.int p1, .int a.2.2]) (rest := [.int q2]) ⟨hx, hb, hml, hown, hts⟩ (kX9_figure l p1 a.2.2 q4 hc3) (va_cwS 2 hts gX9_farthestPart_X9_figure rfl rfl rfl (by decide +kernel) ⟨Nat.le_of_ble_eq_true rfl, Nat.le_of_ble_eq_true rfl⟩) rfl hl.1 rfl (Nat.le_of_ble_eq_true rfl) dX9_farthestPart_22 (Nat.zero_le _) (Nat.zero_le _) ?_
  refine lv_isub (pc := 25) hx hb dX9_farthestPart_25 ?_
  refine z_mabs (pc := 26) hx hb (hml.trans hl.1.symm) hown (hts (.methodLink RX9 308 Lib.Math.abs.name) (by decide +kernel)) (hts (.static Lib.Math.abs.name) (by decide +kernel)) (hts (.initialized "java/lang/Math") (by decide +kernel)) (hts (.code Lib.Math.abs.name Lib.Math.abs.code 1 (some .int)) (by decide +kernel)) (Nat.le_of_ble_eq_true rfl) (Nat.le_of_ble_eq_true rfl) (Nat.zero_le _) (Nat.zero_le _) dX9_farthestPart_26 ?_
  refine z_bi hf (fun v5 hf => ?_)
  refine lv_istore (pc := 29) (lv' := [(5, .int v5), (0, .int p0), (1, .int p1), (2, .int a.1), (3, .int a.2.1), (4, .int a.2.2)]) hx hb dX9_farthestPart_29 hl (by decide) rfl (fun ls hl => ?_)
  refine lv_iload (pc := 31) hx hb dX9_farthestPart_31 (lv_at hl 0 rfl) ?_
  refine lv_iload_n (pc := 33) hx hb dX9_farthestPart_33 rfl (lv_at hl 4 rfl) ?_
  refine z_icmp_le (pc := 34) (tgt := 43) hx hb dX9_farthestPart_34 (by decide) hf (fun hf => ?_) (fun hf => ?_)
  · refine lv_iinc (pc := 43) (v := (a.2.2 + 1)) (lv' := [(4, .int (a.2.2 + 1)), (5, .int v5), (0, .int p0), (1, .int p1), (2, .int a.1), (3, .int a.2.1)]) hx hb dX9_farthestPart_43 hl (k := 5) rfl rfl (by decide) rfl (fun ls hl => ?_)
    refine lv_goto (pc := 46) (tgt := 7) hx hb dX9_farthestPart_46 (by decide) ?_
    exact hL _ (Option.some.inj hf).symm _ (lv_sub hl [2, 3, 4, 5, 0] rfl)
  refine lv_iload (pc := 37) hx hb dX9_farthestPart_37 (lv_at hl 0 rfl) ?_
  refine lv_istore_n (pc := 39) (lv' := [(3, .int v5), (5, .int v5), (0, .int p0), (1, .int p1), (2, .int a.1), (4, .int a.2.2)]) hx hb dX9_farthestPart_39 rfl hl (by decide) rfl (fun ls hl => ?_)
  refine lv_iload (pc := 40) hx hb dX9_farthestPart_40 (lv_at hl 5 rfl) ?_
  refine lv_istore_n (pc := 42) (lv' := [(2, .int a.2.2), (3, .int v5), (5, .int v5), (0, .int p0), (1, .int p1), (4, .int a.2.2)]) hx hb dX9_farthestPart_42 rfl hl (by decide) rfl (fun ls hl => ?_)
  refine lv_iinc (pc := 43) (v := (a.2.2 + 1)) (lv' := [(4, .int (a.2.2 + 1)), (2, .int a.2.2), (3, .int v5), (5, .int v5), (0, .int p0), (1, .int p1)]) hx hb dX9_farthestPart_43 hl (k := 5) rfl rfl (by decide) rfl (fun ls hl => ?_)
  refine lv_goto (pc := 46) (tgt := 7) hx hb dX9_farthestPart_46 (by decide) ?_
  exact hL _ (Option.some.inj hf).symm _ (lv_sub hl [4, 5, 1, 2, 0] rfl)
set_option maxHeartbeats 4000000 in
set_option maxRecDepth 100000 in
theorem kX9_farthestPart (l : Launch) (k : Nat) (a1 : Int32) (a2 : Int32) (r : Int32) (hf : fX9_farthestPart k a1 a2 = some r) : zSt l yX9_farthestPart wsX9_farthestPart ({ frames := 1, cells := 0, slots := 0, locals := 21 } : Room) [.int a1, .int a2] (some (.int r)) := by
  refine zSt.of (cc := cX9_farthestPart) (maxL := 6) (ret := (some .int)) (own := RX9) (by decide) rfl rfl ?_
  intro p e s m below meth c C0
  obtain ⟨hx, hb, hml, hown, hts, hr, hlk⟩ := id C0
  refine z_entry (Nat.le_of_ble_eq_true rfl) (fun ls hl => ?_)
  have hl : lv_has ls 6 [(0, .int a1), (1, .int a2)] := hl
  unfold fX9_farthestPart at hf
  refine lv_iconst (pc := 0) (v := 0) hx hb dX9_farthestPart_0 (by decide) ?_
  refine lv_istore_n (pc := 1) (lv' := [(2, .int (0 : Int32)), (0, .int a1), (1, .int a2)]) hx hb dX9_farthestPart_1 rfl hl (by decide) rfl (fun ls hl => ?_)
  refine lv_iconst (pc := 2) (v := -1) hx hb dX9_farthestPart_2 (by decide) ?_
  refine lv_istore_n (pc := 3) (lv' := [(3, .int (-1 : Int32)), (2, .int (0 : Int32)), (0, .int a1), (1, .int a2)]) hx hb dX9_farthestPart_3 rfl hl (by decide) rfl (fun ls hl => ?_)
  refine lv_iconst (pc := 4) (v := 0) hx hb dX9_farthestPart_4 (by decide) ?_
  refine lv_istore (pc := 5) (lv' := [(4, .int (0 : Int32)), (3, .int (-1 : Int32)), (2, .int (0 : Int32)), (0, .int a1), (1, .int a2)]) hx hb dX9_farthestPart_5 hl (by decide) rfl (fun ls hl => ?_)
  obtain ⟨b6, hb7, hf⟩ := zbind hf
  refine lX9_farthestPart_7 C0 hb7 ?_ _ (lv_sub hl [3, 4, 2, 1, 0] rfl)
  intro ls hl
  refine lv_iload_n (pc := 49) hx hb dX9_farthestPart_49 rfl (lv_at hl 0 rfl) ?_
  cases hf
  exact z_siret (pc := 50) C0 dX9_farthestPart_50
set_option maxHeartbeats 4000000 in
set_option maxRecDepth 100000 in
theorem lX9_lowest_15 (C0 : zFix p m c cX9_lowest 12 s args wsX9_lowest RX9 meth (some .long)) {k : Nat} {p0 : Int64} {p2 : Int64} {p4 : Int32} {a : Int64 × Int64 × Int32} {b : Int64} (hit : ziter (bX9_lowest_15 k p0 p2 p4) k a = some b) (hx9 : (fun (b : Int64) => ∀ (ls : Array Slot), lv_has ls 12 [(0, .long p0), (2, .long p2), (4, .int p4), (5, .long b)] → W p l e ({ frames := 1, cells := 0, slots := 0, locals := 21 } : Room) s m args below meth c s.heap [] 0 0 Q (F0 m 51 ls [])) b) : (fun (a : Int64 × Int64 × Int32) => ∀ (ls : Array Slot), lv_has ls 12 [(0, .long p0), (2, .long p2), (4, .int p4), (5, .long a.1), (7, .long a.2.1), (9, .int a.2.2)] → W p l e ({ frames := 1, cells := 0, slots := 0, locals := 21 } : Room) s m args below meth c s.heap [] 0 0 Q (F0 m 15 ls [])) a := by
  obtain ⟨hx, hb, hml, hown, hts, hr, hlk⟩ := id C0
  refine zloop (Wh := (fun (a : Int64 × Int64 × Int32) => ∀ (ls : Array Slot), lv_has ls 12 [(0, .long p0), (2, .long p2), (4, .int p4), (5, .long a.1), (7, .long a.2.1), (9, .int a.2.2)] → W p l e ({ frames := 1, cells := 0, slots := 0, locals := 21 } : Room) s m args below meth c s.heap [] 0 0 Q (F0 m 15 ls []))) (Wx := (fun (b : Int64) => ∀ (ls : Array Slot), lv_has ls 12 [(0, .long p0), (2, .long p2), (4, .int p4), (5, .long b)] → W p l e ({ frames := 1, cells := 0, slots := 0, locals := 21 } : Room) s m args below meth c s.heap [] 0 0 Q (F0 m 51 ls []))) ?_ _ a b hit hx9
  intro a x hf hL hX ls hl
  unfold bX9_lowest_15 at hf
  refine lv_iload (pc := 15) hx hb dX9_lowest_15 (lv_at hl 5 rfl) ?_
  refine lv_sipush (pc := 17) (v := 200) hx hb dX9_lowest_17 (by decide) ?_
  refine z_icmp_ge (pc := 20) (tgt := 51) hx hb dX9_lowest_20 (by decide) hf (fun hf => ?_) (fun hf => ?_)
  · exact (hX _ (Option.some.inj hf).symm) _ (lv_sub hl [0, 1, 2, 3] rfl)
  refine lv_lload (pc := 23) hx hb dX9_lowest_23 (lv_at hl 4 rfl) ?_
  refine lv_lconst (pc := 25) (v := 0) hx hb dX9_lowest_25 (by decide) ?_
  refine z_lc_eq (pc := 26) (tgt := 51) hx hb dX9_lowest_26 dX9_lowest_27 (by decide) hf (fun hf => ?_) (fun hf => ?_)
  · exact (hX _ (Option.some.inj hf).symm) _ (lv_sub hl [0, 1, 2, 3] rfl)
  refine lv_lload (pc := 30) hx hb dX9_lowest_30 (lv_at hl 3 rfl) ?_
  refine lv_lload (pc := 32) hx hb dX9_lowest_32 (lv_at hl 4 rfl) ?_
  refine z_lrem (pc := 34) hx hb dX9_lowest_34 hf (fun hf => ?_)
  refine z_bl hf (fun v3 hf => ?_)
  refine lv_lstore (pc := 35) (lv' := [(10, .long v3), (0, .long p0), (2, .long p2), (4, .int p4), (5, .long a.1), (7, .long a.2.1), (9, .int a.2.2)]) hx hb dX9_lowest_35 hl (by decide) rfl (fun ls hl => ?_)
  refine lv_lload (pc := 37) hx hb dX9_lowest_37 (lv_at hl 5 rfl) ?_
  refine lv_lstore (pc := 39) (lv' := [(5, .long a.2.1), (10, .long v3), (0, .long p0), (2, .long p2), (4, .int p4), (7, .long a.2.1), (9, .int a.2.2)]) hx hb dX9_lowest_39 hl (by decide) rfl (fun ls hl => ?_)
  refine lv_lload (pc := 41) hx hb dX9_lowest_41 (lv_at hl 1 rfl) ?_
  refine lv_lstore (pc := 43) (lv' := [(7, .long v3), (5, .long a.2.1), (10, .long v3), (0, .long p0), (2, .long p2), (4, .int p4), (9, .int a.2.2)]) hx hb dX9_lowest_43 hl (by decide) rfl (fun ls hl => ?_)
  refine lv_iinc (pc := 45) (v := (a.2.2 + 1)) (lv' := [(9, .int (a.2.2 + 1)), (7, .long v3), (5, .long a.2.1), (10, .long v3), (0, .long p0), (2, .long p2), (4, .int p4)]) hx hb dX9_lowest_45 hl (k := 6) rfl rfl (by decide) rfl (fun ls hl => ?_)
  refine lv_goto (pc := 48) (tgt := 15) hx hb dX9_lowest_48 (by decide) ?_
  exact hL _ (Option.some.inj hf).symm _ (lv_sub hl [4, 5, 6, 2, 1, 0] rfl)
set_option maxHeartbeats 4000000 in
set_option maxRecDepth 100000 in
theorem kX9_lowest (l : Launch) (k : Nat) (a1 : Int64) (a2 : Int64) (a3 : Int32) (r : Int64) (hf : fX9_lowest k a1 a2 a3 = some r) : zSt l yX9_lowest wsX9_lowest ({ frames := 1, cells := 0, slots := 0, locals := 21 } : Room) [.long a1, .long a2, .int a3] (some (.long r)) := by
  refine zSt.of (cc := cX9_lowest) (maxL := 12) (ret := (some .long)) (own := RX9) (by decide) rfl rfl ?_
  intro p e s m below meth c C0
  obtain ⟨hx, hb, hml, hown, hts, hr, hlk⟩ := id C0
  refine z_entry (Nat.le_of_ble_eq_true rfl) (fun ls hl => ?_)
  have hl : lv_has ls 12 [(0, .long a1), (2, .long a2), (4, .int a3)] := hl
  unfold fX9_lowest at hf
  refine lv_lload_n (pc := 0) hx hb dX9_lowest_0 rfl (lv_at hl 0 rfl) ?_
  refine z_mabsl (pc := 1) hx hb (hml.trans hl.1.symm) hown (hts (.methodLink RX9 311 Lib.MathLoose.abs_long.x) (by decide +kernel)) (hts (.static Lib.MathLoose.abs_long.x) (by decide +kernel)) (hts (.initialized "java/lang/Math") (by decide +kernel)) (hts (.code Lib.MathLoose.abs_long.x Lib.MathLoose.abs_long.code 2 (some .long)) (by decide +kernel)) (Nat.le_of_ble_eq_true rfl) (Nat.le_of_ble_eq_true rfl) (Nat.zero_le _) (Nat.zero_le _) dX9_lowest_1 ?_
  refine z_bl hf (fun v1 hf => ?_)
  refine lv_lstore (pc := 4) (lv' := [(5, .long v1), (0, .long a1), (2, .long a2), (4, .int a3)]) hx hb dX9_lowest_4 hl (by decide) rfl (fun ls hl => ?_)
  refine lv_lload_n (pc := 6) hx hb dX9_lowest_6 rfl (lv_at hl 2 rfl) ?_
  refine z_mabsl (pc := 7) hx hb (hml.trans hl.1.symm) hown (hts (.methodLink RX9 311 Lib.MathLoose.abs_long.x) (by decide +kernel)) (hts (.static Lib.MathLoose.abs_long.x) (by decide +kernel)) (hts (.initialized "java/lang/Math") (by decide +kernel)) (hts (.code Lib.MathLoose.abs_long.x Lib.MathLoose.abs_long.code 2 (some .long)) (by decide +kernel)) (Nat.le_of_ble_eq_true rfl) (Nat.le_of_ble_eq_true rfl) (Nat.zero_le _) (Nat.zero_le _) dX9_lowest_7 ?_
  refine z_bl hf (fun v2 hf => ?_)
  refine lv_lstore (pc := 10) (lv' := [(7, .long v2), (5, .long v1), (0, .long a1), (2, .long a2), (4, .int a3)]) hx hb dX9_lowest_10 hl (by decide) rfl (fun ls hl => ?_)
  refine lv_iconst (pc := 12) (v := 0) hx hb dX9_lowest_12 (by decide) ?_
  refine lv_istore (pc := 13) (lv' := [(9, .int (0 : Int32)), (7, .long v2), (5, .long v1), (0, .long a1), (2, .long a2), (4, .int a3)]) hx hb dX9_lowest_13 hl (by decide) rfl (fun ls hl => ?_)
  obtain ⟨b4, hb5, hf⟩ := zbind hf
  refine lX9_lowest_15 C0 hb5 ?_ _ (lv_sub hl [3, 4, 5, 2, 1, 0] rfl)
  intro ls hl
  refine lv_lload (pc := 51) hx hb dX9_lowest_51 (lv_at hl 3 rfl) ?_
  refine lv_lconst (pc := 53) (v := 0) hx hb dX9_lowest_53 (by decide) ?_
  refine z_lc_ne (pc := 54) (tgt := 69) hx hb dX9_lowest_54 dX9_lowest_55 (by decide) hf (fun hf => ?_) (fun hf => ?_)
  · refine lv_iload (pc := 69) hx hb dX9_lowest_69 (lv_at hl 2 rfl) ?_
    refine z_if_ne (pc := 71) (tgt := 81) hx hb dX9_lowest_71 (by decide) hf (fun hf => ?_) (fun hf => ?_)
    · refine lv_lload_n (pc := 81) hx hb dX9_lowest_81 rfl (lv_at hl 1 rfl) ?_
      refine lv_lload (pc := 82) hx hb dX9_lowest_82 (lv_at hl 3 rfl) ?_
      refine z_ldiv (pc := 84) hx hb dX9_lowest_84 hf (fun hf => ?_)
      cases hf
      exact z_slret (pc := 85) C0 dX9_lowest_85
    refine lv_lload_n (pc := 74) hx hb dX9_lowest_74 rfl (lv_at hl 0 rfl) ?_
    refine lv_lload (pc := 75) hx hb dX9_lowest_75 (lv_at hl 3 rfl) ?_
    refine z_ldiv (pc := 77) hx hb dX9_lowest_77 hf (fun hf => ?_)
    refine lv_goto (pc := 78) (tgt := 85) hx hb dX9_lowest_78 (by decide) ?_
    cases hf
    exact z_slret (pc := 85) C0 dX9_lowest_85
  refine lv_iload (pc := 58) hx hb dX9_lowest_58 (lv_at hl 2 rfl) ?_
  refine z_if_ne (pc := 60) (tgt := 67) hx hb dX9_lowest_60 (by decide) hf (fun hf => ?_) (fun hf => ?_)
  · refine lv_lconst (pc := 67) (v := 1) hx hb dX9_lowest_67 (by decide) ?_
    cases hf
    exact z_slret (pc := 68) C0 dX9_lowest_68
  refine lv_lconst (pc := 63) (v := 0) hx hb dX9_lowest_63 (by decide) ?_
  refine lv_goto (pc := 64) (tgt := 68) hx hb dX9_lowest_64 (by decide) ?_
  cases hf
  exact z_slret (pc := 68) C0 dX9_lowest_68
end
