/-! constructors of the class's parts (printed by wip/gen/ctor.py) -/
def uZ : CX := (0, (fun _ => 0, fun _ => 0, 0, 0, 0, 0), (fun _ => 0, 0, 0, 0, 0), (fun _ => 0, fun _ => 0, 0, 0, 0, 0), (fun _ => 0, fun _ => 0, 0, 0, 0), (fun _ => 0, fun _ _ => 0, 0, 0), (fun _ => 0, fun _ => 0, fun _ => 0), (fun _ => 0, fun _ => 0, fun _ => 0, fun _ => 0, 0, 0, 0, 0, 0, 0), (fun _ => 0, fun _ => 0, fun _ => 0), (fun _ => 0, 0), (fun _ _ => 0, fun _ => 0, fun _ => 0))
def zad3 (ad : Nat → Nat) (h q1 q2 : Nat) : Nat → Nat := fun i => if i = 1 then h else if i = 2 then q1 else if i = 3 then q2 else ad i
def zad7 (ad : Nat → Nat) (h a b c t t1 t2 : Nat) : Nat → Nat := fun i => if i = 32 then h else if i = 33 then a else if i = 34 then b else if i = 35 then c else if i = 1 then t else if i = 2 then t1 else if i = 3 then t2 else ad i
theorem xuntoldT {u : CX} {k : Nat} (hk : 20 ≤ k) : ∃ dp dr, fX8_standAsUntold k u = some (xs_Trules (xs_Tparts u dp) dr) ∧ (∀ j, j < 12 → dp j = nI (D0 j)) ∧ ∀ j, j < 7 → dr j = nI (D0 (12 + j)) := by
  obtain ⟨b, hb, dp, dr, rfl, h1⟩ := ziter_inv (f := bX8_standAsUntold_2 k) (fun i a => a.1 = nI i ∧ ∃ dp dr, a.2 = xs_Trules (xs_Tparts u dp) dr ∧ ∀ j, j < i → dp j = 10 ∧ dp (4 + j) = 2 ∧ dp (8 + j) = 5 ∧ dr j = 1) (fun b => ∃ dp dr, b = xs_Trules (xs_Tparts u dp) dr ∧ ∀ j, j < 4 → dp j = 10 ∧ dp (4 + j) = 2 ∧ dp (8 + j) = 5 ∧ dr j = 1) 4 (by
    rintro i ⟨y, w⟩ hi ⟨hy, dp, dr, hw, h1⟩
    have hy : y = nI i := hy
    have hw : w = xs_Trules (xs_Tparts u dp) dr := hw
    subst hy
    subst hw
    left
    unfold bX8_standAsUntold_2
    dsimp only
    rw [if_neg (by rw [show (4 : Int32) = nI 4 from rfl, nI_leI (by omega) (by omega)]; omega), zix_n (by omega) (by omega), zb_e, show (4 : Int32) = nI 4 from rfl, nI_add, zix_n (by omega) (by omega), zb_e, show (8 : Int32) = nI 8 from rfl, nI_add, zix_n (by omega) (by omega), zb_e, zix_n (by omega) (by omega), zb_e, nI_1]
    refine ⟨_, rfl, rfl, upd (upd (upd dp i 10) (4 + i) 2) (8 + i) 5, upd dr i 1, rfl, fun j hj => ?_⟩
    by_cases e : j = i
    · subst e
      refine ⟨?_, ?_, upd_s, upd_s⟩
      · rw [upd_n (by omega), upd_n (by omega), upd_s]
      · rw [upd_n (by omega), upd_s]
    · obtain ⟨g1, g2, g3, g4⟩ := h1 j (by omega)
      refine ⟨?_, ?_, ?_, ?_⟩
      · rw [upd_n (by omega), upd_n (by omega), upd_n (by omega)]; exact g1
      · rw [upd_n (by omega), upd_n (by omega), upd_n (by omega)]; exact g2
      · rw [upd_n (by omega), upd_n (by omega), upd_n (by omega)]; exact g3
      · rw [upd_n e]; exact g4) (by
    rintro ⟨y, w⟩ ⟨hy, dp, dr, hw, h1⟩
    have hy : y = nI 4 := hy
    subst hy
    exact ⟨w, rfl, dp, dr, hw, h1⟩) 4 0 k (nI 0, u) rfl ⟨rfl, xg_Tparts u, xg_Trules u, rfl, fun j hj => absurd hj (by omega)⟩ (by omega)
  have hb : ziter (bX8_standAsUntold_2 k) k (0, u) = some (xs_Trules (xs_Tparts u dp) dr) := hb
  unfold fX8_standAsUntold
  rw [hb, zbind_s, show (4 : Int32) = nI 4 from rfl, zix_n (by omega) (by omega), zb_e, show zix 7 (5 : Int32) = zix (β := CX) 7 (nI 5) from rfl, zix_n (by omega) (by omega), zb_e, show zix 7 (6 : Int32) = zix (β := CX) 7 (nI 6) from rfl, zix_n (by omega) (by omega), zb_e]
  refine ⟨dp, upd (upd (upd dr 4 0) 5 5) 6 10, rfl, zlt12 (fun j hj => ?_), fun j hj => ?_⟩
  · obtain ⟨g1, g2, g3, g4⟩ := h1 j hj
    obtain ⟨d1, d2, d3, d4⟩ := D0_p j hj
    rw [g1, g2, g3, d1, d2, d3]
    exact ⟨rfl, rfl, rfl⟩
  · rcases Nat.lt_or_ge j 4 with q | q
    · obtain ⟨g1, g2, g3, g4⟩ := h1 j q
      obtain ⟨d1, d2, d3, d4⟩ := D0_p j q
      rw [upd_n (by omega), upd_n (by omega), upd_n (by omega), g4, d4]
      rfl
    · rcases (show j = 4 ∨ j = 5 ∨ j = 6 by omega) with rfl | rfl | rfl
      · rw [upd_n (by omega), upd_n (by omega), upd_s]; rfl
      · rw [upd_n (by omega), upd_s]; rfl
      · rw [upd_s]; rfl
section ZM
variable {p : Program} {l : Launch} {e : Env} {R : Room} {s : State} {m : MethodId} {args : Array Value} {below : List Frame} {meth : Method} {c : Code} {H : Heap} {locs : List Loc} {cells slots : Nat} {Q : State → Prop}
variable {cc : ByteArray} {pc : Nat} {ls : Array Slot} {rest : List Value} {D : va_G} {ad : Nat → Nat} {cy : Nat → ClassId} {A : Nat → Prop} {w : va_W} {own : String} {index : Nat}
/-- eight rows of ten ints -/
theorem z_mna (hexec : p.tables.exec = Jvm.exec) (hb : c.code = cc) (hown : s.vm.findClass own = some m.cls) (hcl : (Cond.classLink own index "[[I").before args s = true) (hO : va_AOA .int s) (harr : (Cond.arrayClass .int).before args s = true) (hI : zIn D ad cy w A s H locs) (hcells : cells + (1 + 8) ≤ R.cells) (hslots : slots + (8 + 8 * 10) ≤ R.slots) (hdg : decode cc pc = .ok (.multianewarray index 2, 4))
    (kk : ∀ (q : Nat) (r : Nat → Nat) (H1 : Heap), zIn D ad cy (w ++ [(q, .inl (cy 5, 8, .inr (.inr (.inr (.inr (fun i => if i < 8 then some (r i) else none)))))), (r 0, .inl (cy 0, 10, .inl (fun _ => 0))), (r 1, .inl (cy 0, 10, .inl (fun _ => 0))), (r 2, .inl (cy 0, 10, .inl (fun _ => 0))), (r 3, .inl (cy 0, 10, .inl (fun _ => 0))), (r 4, .inl (cy 0, 10, .inl (fun _ => 0))), (r 5, .inl (cy 0, 10, .inl (fun _ => 0))), (r 6, .inl (cy 0, 10, .inl (fun _ => 0))), (r 7, .inl (cy 0, 10, .inl (fun _ => 0)))]) A s H1 locs → W p l e R s m args below meth c H1 locs (cells + 1 + 8) (slots + 8 + 8 * 10) Q (F0 m (pc + 4) ls (.ref q :: rest))) : W p l e R s m args below meth c H locs cells slots Q (F0 m pc ls (.int 10 :: .int 8 :: rest)) := by
  obtain ⟨hK, hP, hD, hS, hA, hF⟩ := hI
  have hc0 : s.vm.findClass (FieldType.array .int).toString = some (cy 0) := (hK.2 0 _ rfl).2
  refine va_mna (X := w) (L := []) (f := fun _ => .inr (0, [])) (z := (10, .inl (fun _ => 0))) (ty := .int) (N' := 8) (K' := 10) hexec hb hown hcl hO harr hc0 hK (by rw [show va_pl [] (fun _ => (.inr (0, []) : va_E)) = [] from rfl, List.append_nil]; exact hP) (by rw [show va_pl [] (fun _ => (.inr (0, []) : va_E)) = [] from rfl, List.append_nil]; exact hD) hS hA (by decide) (by decide) rfl rfl (by decide) (by decide) (by decide) rfl rfl hcells hslots (fun _ => rfl) hdg (fun q r cA H1 hr hnl hK1 hP hD hS => ?_)
  have e := zTY_inj hK1 (t0 := 5) rfl
  subst e
  have hv : ∀ j, j < 8 → vr_up (fun _ => (.inr (0, []) : va_E)) ((List.range 8).map r) (.inl (cy 0, 10, .inl (fun _ => 0))) (r j) = .inl (cy 0, 10, .inl (fun _ => 0)) := fun j hj => vr_up_in (List.mem_map.mpr ⟨j, List.mem_range.mpr hj, rfl⟩)
  have hl : va_pl (([] : List Nat) ++ (List.range 8).map r) (vr_up (fun _ => (.inr (0, []) : va_E)) ((List.range 8).map r) (.inl (cy 0, 10, .inl (fun _ => 0)))) = [(r 0, .inl (cy 0, 10, .inl (fun _ => 0))), (r 1, .inl (cy 0, 10, .inl (fun _ => 0))), (r 2, .inl (cy 0, 10, .inl (fun _ => 0))), (r 3, .inl (cy 0, 10, .inl (fun _ => 0))), (r 4, .inl (cy 0, 10, .inl (fun _ => 0))), (r 5, .inl (cy 0, 10, .inl (fun _ => 0))), (r 6, .inl (cy 0, 10, .inl (fun _ => 0))), (r 7, .inl (cy 0, 10, .inl (fun _ => 0)))] := by
    show [(r 0, vr_up _ _ _ (r 0)), (r 1, vr_up _ _ _ (r 1)), (r 2, vr_up _ _ _ (r 2)), (r 3, vr_up _ _ _ (r 3)), (r 4, vr_up _ _ _ (r 4)), (r 5, vr_up _ _ _ (r 5)), (r 6, vr_up _ _ _ (r 6)), (r 7, vr_up _ _ _ (r 7))] = _
    rw [hv 0 (by omega), hv 1 (by omega), hv 2 (by omega), hv 3 (by omega), hv 4 (by omega), hv 5 (by omega), hv 6 (by omega), hv 7 (by omega)]
  rw [hl, List.append_assoc] at hP hD
  exact kk q r H1 ⟨hK, hP, hD, hS, hA, hF⟩
end ZM
theorem dfX0 : ∀ j, j < 3 → defaultValue (tyX0 j) = vp_V [.null, .null, .null] j := by
  intro j hj
  match j, hj with
  | 0, _ => rfl
  | 1, _ => rfl
  | 2, _ => rfl
  | n + 3, h => exact absurd h (by omega)
theorem dfX1 : ∀ j, j < 4 → defaultValue (tyX1 j) = vp_V [.null, .null, .null, .int 0] j := by
  intro j hj
  match j, hj with
  | 0, _ => rfl
  | 1, _ => rfl
  | 2, _ => rfl
  | 3, _ => rfl
  | n + 4, h => exact absurd h (by omega)
theorem dfX2 : ∀ j, j < 13 → defaultValue (tyX2 j) = vp_V [.null, .null, .null, .null, .null, .null, .null, .int 0, .int 0, .int 0, .int 0, .int 0, .int 0] j := by
  intro j hj
  match j, hj with
  | 0, _ => rfl
  | 1, _ => rfl
  | 2, _ => rfl
  | 3, _ => rfl
  | 4, _ => rfl
  | 5, _ => rfl
  | 6, _ => rfl
  | 7, _ => rfl
  | 8, _ => rfl
  | 9, _ => rfl
  | 10, _ => rfl
  | 11, _ => rfl
  | 12, _ => rfl
  | n + 13, h => exact absurd h (by omega)
theorem dfX3 : ∀ j, j < 4 → defaultValue (tyX3 j) = vp_V [.null, .null, .int 0, .int 0] j := by
  intro j hj
  match j, hj with
  | 0, _ => rfl
  | 1, _ => rfl
  | 2, _ => rfl
  | 3, _ => rfl
  | n + 4, h => exact absurd h (by omega)
theorem dfX4 : ∀ j, j < 4 → defaultValue (tyX4 j) = vp_V [.null, .null, .null, .null] j := by
  intro j hj
  match j, hj with
  | 0, _ => rfl
  | 1, _ => rfl
  | 2, _ => rfl
  | 3, _ => rfl
  | n + 4, h => exact absurd h (by omega)
theorem dfX5 : ∀ j, j < 7 → defaultValue (tyX5 j) = vp_V [.null, .null, .null, .null, .int 0, .int 0, .int 0] j := by
  intro j hj
  match j, hj with
  | 0, _ => rfl
  | 1, _ => rfl
  | 2, _ => rfl
  | 3, _ => rfl
  | 4, _ => rfl
  | 5, _ => rfl
  | 6, _ => rfl
  | n + 7, h => exact absurd h (by omega)
theorem dfX6 : ∀ j, j < 3 → defaultValue (tyX6 j) = vp_V [.null, .int 0, .int 0] j := by
  intro j hj
  match j, hj with
  | 0, _ => rfl
  | 1, _ => rfl
  | 2, _ => rfl
  | n + 3, h => exact absurd h (by omega)
theorem dfX7 : ∀ j, j < 5 → defaultValue (tyX7 j) = vp_V [.null, .int 0, .int 0, .int 0, .int 0] j := by
  intro j hj
  match j, hj with
  | 0, _ => rfl
  | 1, _ => rfl
  | 2, _ => rfl
  | 3, _ => rfl
  | 4, _ => rfl
  | n + 5, h => exact absurd h (by omega)
theorem dfX8 : ∀ j, j < 6 → defaultValue (tyX8 j) = vp_V [.null, .null, .int 0, .int 0, .long 0, .long 0] j := by
  intro j hj
  match j, hj with
  | 0, _ => rfl
  | 1, _ => rfl
  | 2, _ => rfl
  | 3, _ => rfl
  | 4, _ => rfl
  | 5, _ => rfl
  | n + 6, h => exact absurd h (by omega)
theorem dfX9 : ∀ j, j < 10 → defaultValue (tyX9 j) = vp_V [.null, .null, .null, .null, .null, .null, .null, .null, .null, .int 0] j := by
  intro j hj
  match j, hj with
  | 0, _ => rfl
  | 1, _ => rfl
  | 2, _ => rfl
  | 3, _ => rfl
  | 4, _ => rfl
  | 5, _ => rfl
  | 6, _ => rfl
  | 7, _ => rfl
  | 8, _ => rfl
  | 9, _ => rfl
  | n + 10, h => exact absurd h (by omega)
theorem dfX10 : ∀ j, j < 32 → defaultValue (tyX10 j) = vp_V [.null, .int 0, .int 0, .int 0, .int 0, .int 0, .int 0, .int 0, .int 0, .null, .null, .null, .null, .null, .int 0, .null, .null, .int 0, .int 0, .null, .null, .null, .null, .long 0, .long 0, .long 0, .int 0, .null, .null, .null, .null, .int 0] j := by
  intro j hj
  match j, hj with
  | 0, _ => rfl
  | 1, _ => rfl
  | 2, _ => rfl
  | 3, _ => rfl
  | 4, _ => rfl
  | 5, _ => rfl
  | 6, _ => rfl
  | 7, _ => rfl
  | 8, _ => rfl
  | 9, _ => rfl
  | 10, _ => rfl
  | 11, _ => rfl
  | 12, _ => rfl
  | 13, _ => rfl
  | 14, _ => rfl
  | 15, _ => rfl
  | 16, _ => rfl
  | 17, _ => rfl
  | 18, _ => rfl
  | 19, _ => rfl
  | 20, _ => rfl
  | 21, _ => rfl
  | 22, _ => rfl
  | 23, _ => rfl
  | 24, _ => rfl
  | 25, _ => rfl
  | 26, _ => rfl
  | 27, _ => rfl
  | 28, _ => rfl
  | 29, _ => rfl
  | 30, _ => rfl
  | 31, _ => rfl
  | n + 32, h => exact absurd h (by omega)
theorem iwcX7_X7 : ∀ w ∈ wsX70, w ∈ wsX7_init := by decide +kernel
set_option maxHeartbeats 4000000 in
set_option maxRecDepth 100000 in
theorem nX7_init (l : Launch) (D : va_G) (ad : Nat → Nat) (cy : Nat → ClassId) (h : Nat) : zCtN l yX7_init wsX7_init ({ frames := 1, cells := 1, slots := 200, locals := 12 } : Room) D ad cy [.ref h] [(h, .inr (7, [.null, .int 0, .int 0, .int 0, .int 0]))] (fun w' => ∃ q1 : Nat, w' = [(h, .inr (7, [.ref q1, .int 0, .int 0, .int 0, .int 0])), (q1, .inl (cy 1, 200, .inl (fun _ => 0)))]) 1 200 := by
  refine zCtN.of (cc := cX7_init) (maxL := 1) (ret := none) (own := RX7) (by decide) rfl rfl rfl ?_
  intro p e s m below meth c A C0 hin hO hI
  obtain ⟨hx, hb, hml, hown, hts, hr, hlk⟩ := id C0
  refine z_entry (Nat.le_of_ble_eq_true rfl) (fun ls hl => ?_)
  have hl : lv_has ls 1 [(0, .ref h)] := hl
  refine lv_aload_n (pc := 0) hx hb dX7_init_0 rfl (lv_at hl 0 rfl) ?_
  refine W.objInit (g := F0 m 1 ls [.ref h]) hx hb hown (hts (.methodLink RX7 1 objectInit) (by decide +kernel)) (hts (.instanceMethod objectInit) (by decide +kernel)) (hts _ (List.mem_of_getElem? (i := 3) rfl)) rfl (by rw [hml]; exact hl.1) rfl dX7_init_1 (Nat.le_of_ble_eq_true rfl) (Nat.le_of_ble_eq_true rfl) ?_
  refine lv_aload_n (pc := 4) hx hb dX7_init_4 rfl (lv_at hl 0 rfl) ?_
  refine lv_sipush (pc := 5) (v := 200) hx hb dX7_init_5 (by decide) ?_
  refine z_newa (pc := 8) (a0 := (200, .inl (fun _ => 0))) hx hb hts (by decide +kernel) rfl hI 1 rfl (fun _ => rfl) (by decide) rfl (by decide) (Nat.le_of_ble_eq_true rfl) (Nat.le_of_ble_eq_true rfl) dX7_init_8 (fun q1 H hI => ?_)
  have hI : zIn D ad cy [(h, .inr (7, [.null, .int 0, .int 0, .int 0, .int 0])), (q1, .inl (cy 1, 200, .inl (fun _ => 0)))] A s _ _ := hI
  refine z_pF (pc := 10) (index := 9) (w2 := [(h, .inr (7, [.ref q1, .int 0, .int 0, .int 0, .int 0])), (q1, .inl (cy 1, 200, .inl (fun _ => 0)))]) hx hb hts iwcX7_X7 tyX7 tyX7_ok nmX7 hown hin hI 0 rfl rfl 0 (by decide) (by decide +kernel) rfl rfl rfl rfl (Nat.le_of_ble_eq_true rfl) rfl dX7_init_10 (fun H locs hI => ?_)
  exact z_vretN C0 hI ⟨q1, rfl⟩ dX7_init_13

theorem iwcX0_X0 : ∀ w ∈ wsX00, w ∈ wsX0_init := by decide +kernel
set_option maxHeartbeats 4000000 in
set_option maxRecDepth 100000 in
theorem nX0_init (l : Launch) (D : va_G) (ad : Nat → Nat) (cy : Nat → ClassId) (h : Nat) : zCtN l yX0_init wsX0_init ({ frames := 1, cells := 3, slots := 12, locals := 12 } : Room) D ad cy [.ref h] [(h, .inr (0, [.null, .null, .null]))] (fun w' => ∃ q1 q2 q3 : Nat, w' = [(h, .inr (0, [.ref q1, .ref q2, .ref q3])), (q1, .inl (cy 3, 4, .inl (fun _ => 0))), (q2, .inl (cy 0, 4, .inl (fun _ => 0))), (q3, .inl (cy 0, 4, .inl (fun _ => 0)))]) 3 12 := by
  refine zCtN.of (cc := cX0_init) (maxL := 1) (ret := none) (own := RX0) (by decide) rfl rfl rfl ?_
  intro p e s m below meth c A C0 hin hO hI
  obtain ⟨hx, hb, hml, hown, hts, hr, hlk⟩ := id C0
  refine z_entry (Nat.le_of_ble_eq_true rfl) (fun ls hl => ?_)
  have hl : lv_has ls 1 [(0, .ref h)] := hl
  refine lv_aload_n (pc := 0) hx hb dX0_init_0 rfl (lv_at hl 0 rfl) ?_
  refine W.objInit (g := F0 m 1 ls [.ref h]) hx hb hown (hts (.methodLink RX0 3 objectInit) (by decide +kernel)) (hts (.instanceMethod objectInit) (by decide +kernel)) (hts _ (List.mem_of_getElem? (i := 3) rfl)) rfl (by rw [hml]; exact hl.1) rfl dX0_init_1 (Nat.le_of_ble_eq_true rfl) (Nat.le_of_ble_eq_true rfl) ?_
  refine lv_aload_n (pc := 4) hx hb dX0_init_4 rfl (lv_at hl 0 rfl) ?_
  refine lv_iconst (pc := 5) (v := 4) hx hb dX0_init_5 (by decide) ?_
  refine z_newa (pc := 6) (a0 := (4, .inl (fun _ => 0))) hx hb hts (by decide +kernel) rfl hI 3 rfl (fun _ => rfl) (by decide) rfl (by decide) (Nat.le_of_ble_eq_true rfl) (Nat.le_of_ble_eq_true rfl) dX0_init_6 (fun q1 H hI => ?_)
  have hI : zIn D ad cy [(h, .inr (0, [.null, .null, .null])), (q1, .inl (cy 3, 4, .inl (fun _ => 0)))] A s _ _ := hI
  refine z_pF (pc := 8) (index := 9) (w2 := [(h, .inr (0, [.ref q1, .null, .null])), (q1, .inl (cy 3, 4, .inl (fun _ => 0)))]) hx hb hts iwcX0_X0 tyX0 tyX0_ok nmX0 hown hin hI 0 rfl rfl 0 (by decide) (by decide +kernel) rfl rfl rfl rfl (Nat.le_of_ble_eq_true rfl) rfl dX0_init_8 (fun H locs hI => ?_)
  refine lv_aload_n (pc := 11) hx hb dX0_init_11 rfl (lv_at hl 0 rfl) ?_
  refine lv_iconst (pc := 12) (v := 4) hx hb dX0_init_12 (by decide) ?_
  refine z_newa (pc := 13) (a0 := (4, .inl (fun _ => 0))) hx hb hts (by decide +kernel) rfl hI 0 rfl (fun _ => rfl) (by decide) rfl (by decide) (Nat.le_of_ble_eq_true rfl) (Nat.le_of_ble_eq_true rfl) dX0_init_13 (fun q2 H hI => ?_)
  have hI : zIn D ad cy [(h, .inr (0, [.ref q1, .null, .null])), (q1, .inl (cy 3, 4, .inl (fun _ => 0))), (q2, .inl (cy 0, 4, .inl (fun _ => 0)))] A s _ _ := hI
  refine z_pF (pc := 15) (index := 15) (w2 := [(h, .inr (0, [.ref q1, .ref q2, .null])), (q1, .inl (cy 3, 4, .inl (fun _ => 0))), (q2, .inl (cy 0, 4, .inl (fun _ => 0)))]) hx hb hts iwcX0_X0 tyX0 tyX0_ok nmX0 hown hin hI 0 rfl rfl 1 (by decide) (by decide +kernel) rfl rfl rfl rfl (Nat.le_of_ble_eq_true rfl) rfl dX0_init_15 (fun H locs hI => ?_)
  refine lv_aload_n (pc := 18) hx hb dX0_init_18 rfl (lv_at hl 0 rfl) ?_
  refine lv_iconst (pc := 19) (v := 4) hx hb dX0_init_19 (by decide) ?_
  refine z_newa (pc := 20) (a0 := (4, .inl (fun _ => 0))) hx hb hts (by decide +kernel) rfl hI 0 rfl (fun _ => rfl) (by decide) rfl (by decide) (Nat.le_of_ble_eq_true rfl) (Nat.le_of_ble_eq_true rfl) dX0_init_20 (fun q3 H hI => ?_)
  have hI : zIn D ad cy [(h, .inr (0, [.ref q1, .ref q2, .null])), (q1, .inl (cy 3, 4, .inl (fun _ => 0))), (q2, .inl (cy 0, 4, .inl (fun _ => 0))), (q3, .inl (cy 0, 4, .inl (fun _ => 0)))] A s _ _ := hI
  refine z_pF (pc := 22) (index := 19) (w2 := [(h, .inr (0, [.ref q1, .ref q2, .ref q3])), (q1, .inl (cy 3, 4, .inl (fun _ => 0))), (q2, .inl (cy 0, 4, .inl (fun _ => 0))), (q3, .inl (cy 0, 4, .inl (fun _ => 0)))]) hx hb hts iwcX0_X0 tyX0 tyX0_ok nmX0 hown hin hI 0 rfl rfl 2 (by decide) (by decide +kernel) rfl rfl rfl rfl (Nat.le_of_ble_eq_true rfl) rfl dX0_init_22 (fun H locs hI => ?_)
  exact z_vretN C0 hI ⟨q1, q2, q3, rfl⟩ dX0_init_25

theorem iwcX6_X6 : ∀ w ∈ wsX60, w ∈ wsX6_init := by decide +kernel
set_option maxHeartbeats 4000000 in
set_option maxRecDepth 100000 in
theorem nX6_init (l : Launch) (D : va_G) (ad : Nat → Nat) (cy : Nat → ClassId) (h : Nat) : zCtN l yX6_init wsX6_init ({ frames := 1, cells := 1, slots := 48, locals := 12 } : Room) D ad cy [.ref h] [(h, .inr (6, [.null, .int 0, .int 0]))] (fun w' => ∃ q1 : Nat, w' = [(h, .inr (6, [.ref q1, .int (-1), .int 0])), (q1, .inl (cy 0, 48, .inl (fun _ => 0)))]) 1 48 := by
  refine zCtN.of (cc := cX6_init) (maxL := 1) (ret := none) (own := RX6) (by decide) rfl rfl rfl ?_
  intro p e s m below meth c A C0 hin hO hI
  obtain ⟨hx, hb, hml, hown, hts, hr, hlk⟩ := id C0
  refine z_entry (Nat.le_of_ble_eq_true rfl) (fun ls hl => ?_)
  have hl : lv_has ls 1 [(0, .ref h)] := hl
  refine lv_aload_n (pc := 0) hx hb dX6_init_0 rfl (lv_at hl 0 rfl) ?_
  refine W.objInit (g := F0 m 1 ls [.ref h]) hx hb hown (hts (.methodLink RX6 3 objectInit) (by decide +kernel)) (hts (.instanceMethod objectInit) (by decide +kernel)) (hts _ (List.mem_of_getElem? (i := 3) rfl)) rfl (by rw [hml]; exact hl.1) rfl dX6_init_1 (Nat.le_of_ble_eq_true rfl) (Nat.le_of_ble_eq_true rfl) ?_
  refine lv_aload_n (pc := 4) hx hb dX6_init_4 rfl (lv_at hl 0 rfl) ?_
  refine lv_bipush (pc := 5) (v := 48) hx hb dX6_init_5 (by decide) ?_
  refine z_newa (pc := 7) (a0 := (48, .inl (fun _ => 0))) hx hb hts (by decide +kernel) rfl hI 0 rfl (fun _ => rfl) (by decide) rfl (by decide) (Nat.le_of_ble_eq_true rfl) (Nat.le_of_ble_eq_true rfl) dX6_init_7 (fun q1 H hI => ?_)
  have hI : zIn D ad cy [(h, .inr (6, [.null, .int 0, .int 0])), (q1, .inl (cy 0, 48, .inl (fun _ => 0)))] A s _ _ := hI
  refine z_pF (pc := 9) (index := 11) (w2 := [(h, .inr (6, [.ref q1, .int 0, .int 0])), (q1, .inl (cy 0, 48, .inl (fun _ => 0)))]) hx hb hts iwcX6_X6 tyX6 tyX6_ok nmX6 hown hin hI 0 rfl rfl 0 (by decide) (by decide +kernel) rfl rfl rfl rfl (Nat.le_of_ble_eq_true rfl) rfl dX6_init_9 (fun H locs hI => ?_)
  refine lv_aload_n (pc := 12) hx hb dX6_init_12 rfl (lv_at hl 0 rfl) ?_
  refine lv_iconst (pc := 13) (v := -1) hx hb dX6_init_13 (by decide) ?_
  refine z_pN (pc := 14) (index := 15) (w2 := [(h, .inr (6, [.ref q1, .int (-1), .int 0])), (q1, .inl (cy 0, 48, .inl (fun _ => 0)))]) hx hb hts iwcX6_X6 tyX6 tyX6_ok nmX6 hown hI 0 rfl rfl 1 (by decide) (by decide +kernel) rfl rfl rfl rfl (Nat.le_of_ble_eq_true rfl) rfl dX6_init_14 (fun H locs hI => ?_)
  exact z_vretN C0 hI ⟨q1, rfl⟩ dX6_init_17

theorem iwcX2_X2 : ∀ w ∈ wsX20, w ∈ wsX2_init := by decide +kernel
set_option maxHeartbeats 4000000 in
set_option maxRecDepth 100000 in
theorem nX2_init (l : Launch) (D : va_G) (ad : Nat → Nat) (cy : Nat → ClassId) (h t hm ev : Nat) : zCtN l yX2_init wsX2_init ({ frames := 1, cells := 4, slots := 2192, locals := 12 } : Room) D ad cy [.ref h, .ref t, .ref hm, .ref ev] [(h, .inr (2, [.null, .null, .null, .null, .null, .null, .null, .int 0, .int 0, .int 0, .int 0, .int 0, .int 0]))] (fun w' => ∃ q1 q2 q3 q4 : Nat, w' = [(h, .inr (2, [.ref t, .ref hm, .ref ev, .ref q1, .ref q2, .ref q3, .ref q4, .int 0, .int 0, .int 0, .int (1), .int (-9), .int (-9)])), (q1, .inl (cy 0, 1331, .inl (fun _ => 0))), (q2, .inl (cy 2, 801, .inr (.inl (fun _ => 0)))), (q3, .inl (cy 0, 44, .inl (fun _ => 0))), (q4, .inl (cy 0, 16, .inl (fun _ => 0)))]) 4 2192 := by
  refine zCtN.of (cc := cX2_init) (maxL := 4) (ret := none) (own := RX2) (by decide) rfl rfl rfl ?_
  intro p e s m below meth c A C0 hin hO hI
  obtain ⟨hx, hb, hml, hown, hts, hr, hlk⟩ := id C0
  refine z_entry (Nat.le_of_ble_eq_true rfl) (fun ls hl => ?_)
  have hl : lv_has ls 4 [(0, .ref h), (1, .ref t), (2, .ref hm), (3, .ref ev)] := hl
  refine lv_aload_n (pc := 0) hx hb dX2_init_0 rfl (lv_at hl 0 rfl) ?_
  refine W.objInit (g := F0 m 1 ls [.ref h]) hx hb hown (hts (.methodLink RX2 5 objectInit) (by decide +kernel)) (hts (.instanceMethod objectInit) (by decide +kernel)) (hts _ (List.mem_of_getElem? (i := 3) rfl)) rfl (by rw [hml]; exact hl.1) rfl dX2_init_1 (Nat.le_of_ble_eq_true rfl) (Nat.le_of_ble_eq_true rfl) ?_
  refine lv_aload_n (pc := 4) hx hb dX2_init_4 rfl (lv_at hl 0 rfl) ?_
  refine lv_sipush (pc := 5) (v := 1331) hx hb dX2_init_5 (by decide) ?_
  refine z_newa (pc := 8) (a0 := (1331, .inl (fun _ => 0))) hx hb hts (by decide +kernel) rfl hI 0 rfl (fun _ => rfl) (by decide) rfl (by decide) (Nat.le_of_ble_eq_true rfl) (Nat.le_of_ble_eq_true rfl) dX2_init_8 (fun q1 H hI => ?_)
  have hI : zIn D ad cy [(h, .inr (2, [.null, .null, .null, .null, .null, .null, .null, .int 0, .int 0, .int 0, .int 0, .int 0, .int 0])), (q1, .inl (cy 0, 1331, .inl (fun _ => 0)))] A s _ _ := hI
  refine z_pF (pc := 10) (index := 11) (w2 := [(h, .inr (2, [.null, .null, .null, .ref q1, .null, .null, .null, .int 0, .int 0, .int 0, .int 0, .int 0, .int 0])), (q1, .inl (cy 0, 1331, .inl (fun _ => 0)))]) hx hb hts iwcX2_X2 tyX2 tyX2_ok nmX2 hown hin hI 0 rfl rfl 3 (by decide) (by decide +kernel) rfl rfl rfl rfl (Nat.le_of_ble_eq_true rfl) rfl dX2_init_10 (fun H locs hI => ?_)
  refine lv_aload_n (pc := 13) hx hb dX2_init_13 rfl (lv_at hl 0 rfl) ?_
  refine lv_sipush (pc := 14) (v := 801) hx hb dX2_init_14 (by decide) ?_
  refine z_newa (pc := 17) (a0 := (801, .inr (.inl (fun _ => 0)))) hx hb hts (by decide +kernel) rfl hI 2 rfl (fun _ => rfl) (by decide) rfl (by decide) (Nat.le_of_ble_eq_true rfl) (Nat.le_of_ble_eq_true rfl) dX2_init_17 (fun q2 H hI => ?_)
  have hI : zIn D ad cy [(h, .inr (2, [.null, .null, .null, .ref q1, .null, .null, .null, .int 0, .int 0, .int 0, .int 0, .int 0, .int 0])), (q1, .inl (cy 0, 1331, .inl (fun _ => 0))), (q2, .inl (cy 2, 801, .inr (.inl (fun _ => 0))))] A s _ _ := hI
  refine z_pF (pc := 19) (index := 15) (w2 := [(h, .inr (2, [.null, .null, .null, .ref q1, .ref q2, .null, .null, .int 0, .int 0, .int 0, .int 0, .int 0, .int 0])), (q1, .inl (cy 0, 1331, .inl (fun _ => 0))), (q2, .inl (cy 2, 801, .inr (.inl (fun _ => 0))))]) hx hb hts iwcX2_X2 tyX2 tyX2_ok nmX2 hown hin hI 0 rfl rfl 4 (by decide) (by decide +kernel) rfl rfl rfl rfl (Nat.le_of_ble_eq_true rfl) rfl dX2_init_19 (fun H locs hI => ?_)
  refine lv_aload_n (pc := 22) hx hb dX2_init_22 rfl (lv_at hl 0 rfl) ?_
  refine lv_bipush (pc := 23) (v := 44) hx hb dX2_init_23 (by decide) ?_
  refine z_newa (pc := 25) (a0 := (44, .inl (fun _ => 0))) hx hb hts (by decide +kernel) rfl hI 0 rfl (fun _ => rfl) (by decide) rfl (by decide) (Nat.le_of_ble_eq_true rfl) (Nat.le_of_ble_eq_true rfl) dX2_init_25 (fun q3 H hI => ?_)
  have hI : zIn D ad cy [(h, .inr (2, [.null, .null, .null, .ref q1, .ref q2, .null, .null, .int 0, .int 0, .int 0, .int 0, .int 0, .int 0])), (q1, .inl (cy 0, 1331, .inl (fun _ => 0))), (q2, .inl (cy 2, 801, .inr (.inl (fun _ => 0)))), (q3, .inl (cy 0, 44, .inl (fun _ => 0)))] A s _ _ := hI
  refine z_pF (pc := 27) (index := 19) (w2 := [(h, .inr (2, [.null, .null, .null, .ref q1, .ref q2, .ref q3, .null, .int 0, .int 0, .int 0, .int 0, .int 0, .int 0])), (q1, .inl (cy 0, 1331, .inl (fun _ => 0))), (q2, .inl (cy 2, 801, .inr (.inl (fun _ => 0)))), (q3, .inl (cy 0, 44, .inl (fun _ => 0)))]) hx hb hts iwcX2_X2 tyX2 tyX2_ok nmX2 hown hin hI 0 rfl rfl 5 (by decide) (by decide +kernel) rfl rfl rfl rfl (Nat.le_of_ble_eq_true rfl) rfl dX2_init_27 (fun H locs hI => ?_)
  refine lv_aload_n (pc := 30) hx hb dX2_init_30 rfl (lv_at hl 0 rfl) ?_
  refine lv_bipush (pc := 31) (v := 16) hx hb dX2_init_31 (by decide) ?_
  refine z_newa (pc := 33) (a0 := (16, .inl (fun _ => 0))) hx hb hts (by decide +kernel) rfl hI 0 rfl (fun _ => rfl) (by decide) rfl (by decide) (Nat.le_of_ble_eq_true rfl) (Nat.le_of_ble_eq_true rfl) dX2_init_33 (fun q4 H hI => ?_)
  have hI : zIn D ad cy [(h, .inr (2, [.null, .null, .null, .ref q1, .ref q2, .ref q3, .null, .int 0, .int 0, .int 0, .int 0, .int 0, .int 0])), (q1, .inl (cy 0, 1331, .inl (fun _ => 0))), (q2, .inl (cy 2, 801, .inr (.inl (fun _ => 0)))), (q3, .inl (cy 0, 44, .inl (fun _ => 0))), (q4, .inl (cy 0, 16, .inl (fun _ => 0)))] A s _ _ := hI
  refine z_pF (pc := 35) (index := 22) (w2 := [(h, .inr (2, [.null, .null, .null, .ref q1, .ref q2, .ref q3, .ref q4, .int 0, .int 0, .int 0, .int 0, .int 0, .int 0])), (q1, .inl (cy 0, 1331, .inl (fun _ => 0))), (q2, .inl (cy 2, 801, .inr (.inl (fun _ => 0)))), (q3, .inl (cy 0, 44, .inl (fun _ => 0))), (q4, .inl (cy 0, 16, .inl (fun _ => 0)))]) hx hb hts iwcX2_X2 tyX2 tyX2_ok nmX2 hown hin hI 0 rfl rfl 6 (by decide) (by decide +kernel) rfl rfl rfl rfl (Nat.le_of_ble_eq_true rfl) rfl dX2_init_35 (fun H locs hI => ?_)
  refine lv_aload_n (pc := 38) hx hb dX2_init_38 rfl (lv_at hl 0 rfl) ?_
  refine lv_iconst (pc := 39) (v := 1) hx hb dX2_init_39 (by decide) ?_
  refine z_pN (pc := 40) (index := 25) (w2 := [(h, .inr (2, [.null, .null, .null, .ref q1, .ref q2, .ref q3, .ref q4, .int 0, .int 0, .int 0, .int (1), .int 0, .int 0])), (q1, .inl (cy 0, 1331, .inl (fun _ => 0))), (q2, .inl (cy 2, 801, .inr (.inl (fun _ => 0)))), (q3, .inl (cy 0, 44, .inl (fun _ => 0))), (q4, .inl (cy 0, 16, .inl (fun _ => 0)))]) hx hb hts iwcX2_X2 tyX2 tyX2_ok nmX2 hown hI 0 rfl rfl 10 (by decide) (by decide +kernel) rfl rfl rfl rfl (Nat.le_of_ble_eq_true rfl) rfl dX2_init_40 (fun H locs hI => ?_)
  refine lv_aload_n (pc := 43) hx hb dX2_init_43 rfl (lv_at hl 0 rfl) ?_
  refine lv_bipush (pc := 44) (v := -9) hx hb dX2_init_44 (by decide) ?_
  refine z_pN (pc := 46) (index := 29) (w2 := [(h, .inr (2, [.null, .null, .null, .ref q1, .ref q2, .ref q3, .ref q4, .int 0, .int 0, .int 0, .int (1), .int (-9), .int 0])), (q1, .inl (cy 0, 1331, .inl (fun _ => 0))), (q2, .inl (cy 2, 801, .inr (.inl (fun _ => 0)))), (q3, .inl (cy 0, 44, .inl (fun _ => 0))), (q4, .inl (cy 0, 16, .inl (fun _ => 0)))]) hx hb hts iwcX2_X2 tyX2 tyX2_ok nmX2 hown hI 0 rfl rfl 11 (by decide) (by decide +kernel) rfl rfl rfl rfl (Nat.le_of_ble_eq_true rfl) rfl dX2_init_46 (fun H locs hI => ?_)
  refine lv_aload_n (pc := 49) hx hb dX2_init_49 rfl (lv_at hl 0 rfl) ?_
  refine lv_bipush (pc := 50) (v := -9) hx hb dX2_init_50 (by decide) ?_
  refine z_pN (pc := 52) (index := 33) (w2 := [(h, .inr (2, [.null, .null, .null, .ref q1, .ref q2, .ref q3, .ref q4, .int 0, .int 0, .int 0, .int (1), .int (-9), .int (-9)])), (q1, .inl (cy 0, 1331, .inl (fun _ => 0))), (q2, .inl (cy 2, 801, .inr (.inl (fun _ => 0)))), (q3, .inl (cy 0, 44, .inl (fun _ => 0))), (q4, .inl (cy 0, 16, .inl (fun _ => 0)))]) hx hb hts iwcX2_X2 tyX2 tyX2_ok nmX2 hown hI 0 rfl rfl 12 (by decide) (by decide +kernel) rfl rfl rfl rfl (Nat.le_of_ble_eq_true rfl) rfl dX2_init_52 (fun H locs hI => ?_)
  refine lv_aload_n (pc := 55) hx hb dX2_init_55 rfl (lv_at hl 0 rfl) ?_
  refine lv_aload_n (pc := 56) hx hb dX2_init_56 rfl (lv_at hl 1 rfl) ?_
  refine z_pF (pc := 57) (index := 36) (w2 := [(h, .inr (2, [.ref t, .null, .null, .ref q1, .ref q2, .ref q3, .ref q4, .int 0, .int 0, .int 0, .int (1), .int (-9), .int (-9)])), (q1, .inl (cy 0, 1331, .inl (fun _ => 0))), (q2, .inl (cy 2, 801, .inr (.inl (fun _ => 0)))), (q3, .inl (cy 0, 44, .inl (fun _ => 0))), (q4, .inl (cy 0, 16, .inl (fun _ => 0)))]) hx hb hts iwcX2_X2 tyX2 tyX2_ok nmX2 hown hin hI 0 rfl rfl 0 (by decide) (by decide +kernel) rfl rfl rfl rfl (Nat.le_of_ble_eq_true rfl) rfl dX2_init_57 (fun H locs hI => ?_)
  refine lv_aload_n (pc := 60) hx hb dX2_init_60 rfl (lv_at hl 0 rfl) ?_
  refine lv_aload_n (pc := 61) hx hb dX2_init_61 rfl (lv_at hl 2 rfl) ?_
  refine z_pF (pc := 62) (index := 40) (w2 := [(h, .inr (2, [.ref t, .ref hm, .null, .ref q1, .ref q2, .ref q3, .ref q4, .int 0, .int 0, .int 0, .int (1), .int (-9), .int (-9)])), (q1, .inl (cy 0, 1331, .inl (fun _ => 0))), (q2, .inl (cy 2, 801, .inr (.inl (fun _ => 0)))), (q3, .inl (cy 0, 44, .inl (fun _ => 0))), (q4, .inl (cy 0, 16, .inl (fun _ => 0)))]) hx hb hts iwcX2_X2 tyX2 tyX2_ok nmX2 hown hin hI 0 rfl rfl 1 (by decide) (by decide +kernel) rfl rfl rfl rfl (Nat.le_of_ble_eq_true rfl) rfl dX2_init_62 (fun H locs hI => ?_)
  refine lv_aload_n (pc := 65) hx hb dX2_init_65 rfl (lv_at hl 0 rfl) ?_
  refine lv_aload_n (pc := 66) hx hb dX2_init_66 rfl (lv_at hl 3 rfl) ?_
  refine z_pF (pc := 67) (index := 44) (w2 := [(h, .inr (2, [.ref t, .ref hm, .ref ev, .ref q1, .ref q2, .ref q3, .ref q4, .int 0, .int 0, .int 0, .int (1), .int (-9), .int (-9)])), (q1, .inl (cy 0, 1331, .inl (fun _ => 0))), (q2, .inl (cy 2, 801, .inr (.inl (fun _ => 0)))), (q3, .inl (cy 0, 44, .inl (fun _ => 0))), (q4, .inl (cy 0, 16, .inl (fun _ => 0)))]) hx hb hts iwcX2_X2 tyX2 tyX2_ok nmX2 hown hin hI 0 rfl rfl 2 (by decide) (by decide +kernel) rfl rfl rfl rfl (Nat.le_of_ble_eq_true rfl) rfl dX2_init_67 (fun H locs hI => ?_)
  exact z_vretN C0 hI ⟨q1, q2, q3, q4, rfl⟩ dX2_init_70

theorem iwcX1_X1 : ∀ w ∈ wsX10, w ∈ wsX1_init := by decide +kernel
set_option maxHeartbeats 4000000 in
set_option maxRecDepth 100000 in
theorem nX1_init (l : Launch) (D : va_G) (ad : Nat → Nat) (cy : Nat → ClassId) (h t hm : Nat) : zCtN l yX1_init wsX1_init ({ frames := 1, cells := 1, slots := 4, locals := 12 } : Room) D ad cy [.ref h, .ref t, .ref hm] [(h, .inr (1, [.null, .null, .null, .int 0]))] (fun w' => ∃ q1 : Nat, w' = [(h, .inr (1, [.ref t, .ref hm, .ref q1, .int 0])), (q1, .inl (cy 0, 4, .inl (fun _ => 0)))]) 1 4 := by
  refine zCtN.of (cc := cX1_init) (maxL := 3) (ret := none) (own := RX1) (by decide) rfl rfl rfl ?_
  intro p e s m below meth c A C0 hin hO hI
  obtain ⟨hx, hb, hml, hown, hts, hr, hlk⟩ := id C0
  refine z_entry (Nat.le_of_ble_eq_true rfl) (fun ls hl => ?_)
  have hl : lv_has ls 3 [(0, .ref h), (1, .ref t), (2, .ref hm)] := hl
  refine lv_aload_n (pc := 0) hx hb dX1_init_0 rfl (lv_at hl 0 rfl) ?_
  refine W.objInit (g := F0 m 1 ls [.ref h]) hx hb hown (hts (.methodLink RX1 3 objectInit) (by decide +kernel)) (hts (.instanceMethod objectInit) (by decide +kernel)) (hts _ (List.mem_of_getElem? (i := 3) rfl)) rfl (by rw [hml]; exact hl.1) rfl dX1_init_1 (Nat.le_of_ble_eq_true rfl) (Nat.le_of_ble_eq_true rfl) ?_
  refine lv_aload_n (pc := 4) hx hb dX1_init_4 rfl (lv_at hl 0 rfl) ?_
  refine lv_iconst (pc := 5) (v := 4) hx hb dX1_init_5 (by decide) ?_
  refine z_newa (pc := 6) (a0 := (4, .inl (fun _ => 0))) hx hb hts (by decide +kernel) rfl hI 0 rfl (fun _ => rfl) (by decide) rfl (by decide) (Nat.le_of_ble_eq_true rfl) (Nat.le_of_ble_eq_true rfl) dX1_init_6 (fun q1 H hI => ?_)
  have hI : zIn D ad cy [(h, .inr (1, [.null, .null, .null, .int 0])), (q1, .inl (cy 0, 4, .inl (fun _ => 0)))] A s _ _ := hI
  refine z_pF (pc := 8) (index := 9) (w2 := [(h, .inr (1, [.null, .null, .ref q1, .int 0])), (q1, .inl (cy 0, 4, .inl (fun _ => 0)))]) hx hb hts iwcX1_X1 tyX1 tyX1_ok nmX1 hown hin hI 0 rfl rfl 2 (by decide) (by decide +kernel) rfl rfl rfl rfl (Nat.le_of_ble_eq_true rfl) rfl dX1_init_8 (fun H locs hI => ?_)
  refine lv_aload_n (pc := 11) hx hb dX1_init_11 rfl (lv_at hl 0 rfl) ?_
  refine lv_aload_n (pc := 12) hx hb dX1_init_12 rfl (lv_at hl 1 rfl) ?_
  refine z_pF (pc := 13) (index := 15) (w2 := [(h, .inr (1, [.ref t, .null, .ref q1, .int 0])), (q1, .inl (cy 0, 4, .inl (fun _ => 0)))]) hx hb hts iwcX1_X1 tyX1 tyX1_ok nmX1 hown hin hI 0 rfl rfl 0 (by decide) (by decide +kernel) rfl rfl rfl rfl (Nat.le_of_ble_eq_true rfl) rfl dX1_init_13 (fun H locs hI => ?_)
  refine lv_aload_n (pc := 16) hx hb dX1_init_16 rfl (lv_at hl 0 rfl) ?_
  refine lv_aload_n (pc := 17) hx hb dX1_init_17 rfl (lv_at hl 2 rfl) ?_
  refine z_pF (pc := 18) (index := 19) (w2 := [(h, .inr (1, [.ref t, .ref hm, .ref q1, .int 0])), (q1, .inl (cy 0, 4, .inl (fun _ => 0)))]) hx hb hts iwcX1_X1 tyX1 tyX1_ok nmX1 hown hin hI 0 rfl rfl 1 (by decide) (by decide +kernel) rfl rfl rfl rfl (Nat.le_of_ble_eq_true rfl) rfl dX1_init_18 (fun H locs hI => ?_)
  exact z_vretN C0 hI ⟨q1, rfl⟩ dX1_init_21

theorem iwcX8_X8 : ∀ w ∈ wsX80, w ∈ wsX8_init := by decide +kernel
set_option maxHeartbeats 4000000 in
set_option maxRecDepth 100000 in
theorem nX8_init (l : Launch) (D : va_G) (ad : Nat → Nat) (cy : Nat → ClassId) (h : Nat) : zCtN l yX8_init wsX8_init ({ frames := 1, cells := 2, slots := 19, locals := 21 } : Room) D ad cy [.ref h] [(h, .inr (8, [.null, .null, .int 0, .int 0, .long 0, .long 0]))] (fun w' => ∃ (q1 q2 : Nat) (tp tr : Nat → Int32), (∀ j, j < 12 → tp j = nI (D0 j)) ∧ (∀ j, j < 7 → tr j = nI (D0 (12 + j))) ∧ w' = [(h, .inr (8, [.ref q1, .ref q2, .int (nI (sA D0)), .int (nI (sH D0)), .long (lN (sc D0)), .long (lN (wh D0))])), (q1, .inl (cy 0, 12, .inl tp)), (q2, .inl (cy 0, 7, .inl tr))]) 2 19 := by
  refine zCtN.of (cc := cX8_init) (maxL := 1) (ret := none) (own := RX8) (by decide) rfl rfl rfl ?_
  intro p e s m below meth c A C0 hin hO hI
  obtain ⟨hx, hb, hml, hown, hts, hr, hlk⟩ := id C0
  refine z_entry (Nat.le_of_ble_eq_true rfl) (fun ls hl => ?_)
  have hl : lv_has ls 1 [(0, .ref h)] := hl
  refine lv_aload_n (pc := 0) hx hb dX8_init_0 rfl (lv_at hl 0 rfl) ?_
  refine W.objInit (g := F0 m 1 ls [.ref h]) hx hb hown (hts (.methodLink RX8 3 objectInit) (by decide +kernel)) (hts (.instanceMethod objectInit) (by decide +kernel)) (hts _ (List.mem_of_getElem? (i := 3) rfl)) rfl (by rw [hml]; exact hl.1) rfl dX8_init_1 (Nat.le_of_ble_eq_true rfl) (Nat.le_of_ble_eq_true rfl) ?_
  refine lv_aload_n (pc := 4) hx hb dX8_init_4 rfl (lv_at hl 0 rfl) ?_
  refine lv_bipush (pc := 5) (v := 12) hx hb dX8_init_5 (by decide) ?_
  refine z_newa (pc := 7) (a0 := (12, .inl (fun _ => 0))) hx hb hts (by decide +kernel) rfl hI 0 rfl (fun _ => rfl) (by decide) rfl (by decide) (Nat.le_of_ble_eq_true rfl) (Nat.le_of_ble_eq_true rfl) dX8_init_7 (fun q1 H hI => ?_)
  have hI : zIn D ad cy [(h, .inr (8, [.null, .null, .int 0, .int 0, .long 0, .long 0])), (q1, .inl (cy 0, 12, .inl (fun _ => 0)))] A s _ _ := hI
  refine z_pF (pc := 9) (index := 9) (w2 := [(h, .inr (8, [.ref q1, .null, .int 0, .int 0, .long 0, .long 0])), (q1, .inl (cy 0, 12, .inl (fun _ => 0)))]) hx hb hts iwcX8_X8 tyX8 tyX8_ok nmX8 hown hin hI 0 rfl rfl 0 (by decide) (by decide +kernel) rfl rfl rfl rfl (Nat.le_of_ble_eq_true rfl) rfl dX8_init_9 (fun H locs hI => ?_)
  refine lv_aload_n (pc := 12) hx hb dX8_init_12 rfl (lv_at hl 0 rfl) ?_
  refine lv_bipush (pc := 13) (v := 7) hx hb dX8_init_13 (by decide) ?_
  refine z_newa (pc := 15) (a0 := (7, .inl (fun _ => 0))) hx hb hts (by decide +kernel) rfl hI 0 rfl (fun _ => rfl) (by decide) rfl (by decide) (Nat.le_of_ble_eq_true rfl) (Nat.le_of_ble_eq_true rfl) dX8_init_15 (fun q2 H hI => ?_)
  have hI : zIn D ad cy [(h, .inr (8, [.ref q1, .null, .int 0, .int 0, .long 0, .long 0])), (q1, .inl (cy 0, 12, .inl (fun _ => 0))), (q2, .inl (cy 0, 7, .inl (fun _ => 0)))] A s _ _ := hI
  refine z_pF (pc := 17) (index := 15) (w2 := [(h, .inr (8, [.ref q1, .ref q2, .int 0, .int 0, .long 0, .long 0])), (q1, .inl (cy 0, 12, .inl (fun _ => 0))), (q2, .inl (cy 0, 7, .inl (fun _ => 0)))]) hx hb hts iwcX8_X8 tyX8 tyX8_ok nmX8 hown hin hI 0 rfl rfl 1 (by decide) (by decide +kernel) rfl rfl rfl rfl (Nat.le_of_ble_eq_true rfl) rfl dX8_init_17 (fun H locs hI => ?_)
  obtain ⟨tp, tr, e1, e2, e3⟩ := xuntoldT (u := uZ) (k := 20) (by omega)
  have e4 := xset (u := xs_Trules (xs_Tparts uZ tp) tr) (k := 20) (rBd_P D0_b D0_s) e2 e3 (by omega)
  have hI : zIn D (zad3 ad h q1 q2) cy (WT (zad3 ad h q1 q2) cy uZ) A s _ _ := hI.chg rfl rfl rfl rfl
  refine lv_aload_n (pc := 20) hx hb dX8_init_20 rfl (lv_at hl 0 rfl) ?_
  refine z_callVf (pc := 21) (ad' := (zad3 ad h q1 q2)) (As := []) (rest := []) (wr := []) ⟨hx, hb, hml, hown, hts⟩ (kX8_standAsUntold_t l D (zad3 ad h q1 q2) cy 20 uZ (xs_Trules (xs_Tparts uZ tp) tr) e1) (cwV 0 hts gX8_init_X8_standAsUntold rfl rfl rfl (by decide +kernel) ⟨Nat.le_of_ble_eq_true rfl, Nat.le_of_ble_eq_true rfl⟩) hI rfl (tl_1 (zad3 ad h q1 q2) cy uZ) [0, 1, 2] [] (by decide) rfl rfl (by decide) (by decide) rfl hl.1 rfl (Nat.le_of_ble_eq_true rfl) dX8_init_21 (Nat.le_of_ble_eq_true rfl) (Nat.le_of_ble_eq_true rfl) (fun H locs hI => ?_)
  have hI : zIn D (zad3 ad h q1 q2) cy (WT (zad3 ad h q1 q2) cy (xs_Trules (xs_Tparts uZ tp) tr)) A s _ _ := hI
  refine lv_aload_n (pc := 24) hx hb dX8_init_24 rfl (lv_at hl 0 rfl) ?_
  refine z_callVf (pc := 25) (ad' := (zad3 ad h q1 q2)) (As := []) (rest := []) (wr := []) ⟨hx, hb, hml, hown, hts⟩ (kX8_settle_t l D (zad3 ad h q1 q2) cy 20 (xs_Trules (xs_Tparts uZ tp) tr) (xsetT D0 (xs_Trules (xs_Tparts uZ tp) tr)) e4) (cwV 0 hts gX8_init_X8_settle rfl rfl rfl (by decide +kernel) ⟨Nat.le_of_ble_eq_true rfl, Nat.le_of_ble_eq_true rfl⟩) hI rfl (tl_1 (zad3 ad h q1 q2) cy (xs_Trules (xs_Tparts uZ tp) tr)) [0, 1, 2] [] (by decide) rfl rfl (by decide) (by decide) rfl hl.1 rfl (Nat.le_of_ble_eq_true rfl) dX8_init_25 (Nat.le_of_ble_eq_true rfl) (Nat.le_of_ble_eq_true rfl) (fun H locs hI => ?_)
  have hI : zIn D (zad3 ad h q1 q2) cy (WT (zad3 ad h q1 q2) cy (xsetT D0 (xs_Trules (xs_Tparts uZ tp) tr))) A s _ _ := hI
  have hI : zIn D ad cy [(h, .inr (8, [.ref q1, .ref q2, .int (nI (sA D0)), .int (nI (sH D0)), .long (lN (sc D0)), .long (lN (wh D0))])), (q1, .inl (cy 0, 12, .inl tp)), (q2, .inl (cy 0, 7, .inl tr))] A s _ _ := hI.chg rfl rfl rfl rfl
  exact z_vretN C0 hI ⟨q1, q2, tp, tr, e2, e3, rfl⟩ dX8_init_28

theorem iwcX5_X8 : ∀ w ∈ wsX80, w ∈ wsX5_init := by decide +kernel
theorem iwcX5_X5 : ∀ w ∈ wsX50, w ∈ wsX5_init := by decide +kernel
set_option maxHeartbeats 4000000 in
set_option maxRecDepth 100000 in
theorem nX5_init (l : Launch) (D : va_G) (ad : Nat → Nat) (cy : Nat → ClassId) (h t : Nat) : zCtN l yX5_init wsX5_init ({ frames := 2, cells := 5, slots := 44, locals := 41 } : Room) D ad cy [.ref h, .ref t] [(h, .inr (5, [.null, .null, .null, .null, .int 0, .int 0, .int 0]))] (fun w' => ∃ (q1 q2 q3 q8 q9 : Nat) (tp4 tr5 : Nat → Int32), (∀ j, j < 12 → tp4 j = nI (D0 j)) ∧ (∀ j, j < 7 → tr5 j = nI (D0 (12 + j))) ∧ w' = [(h, .inr (5, [.ref t, .ref q1, .ref q8, .ref q9, .int 0, .int 0, .int 0])), (q1, .inr (8, [.ref q2, .ref q3, .int (nI (sA D0)), .int (nI (sH D0)), .long (lN (sc D0)), .long (lN (wh D0))])), (q2, .inl (cy 0, 12, .inl tp4)), (q3, .inl (cy 0, 7, .inl tr5)), (q8, .inl (cy 3, 12, .inl (fun _ => 0))), (q9, .inl (cy 3, 7, .inl (fun _ => 0)))]) 5 44 := by
  refine zCtN.of (cc := cX5_init) (maxL := 2) (ret := none) (own := RX5) (by decide) rfl rfl rfl ?_
  intro p e s m below meth c A C0 hin hO hI
  obtain ⟨hx, hb, hml, hown, hts, hr, hlk⟩ := id C0
  refine z_entry (Nat.le_of_ble_eq_true rfl) (fun ls hl => ?_)
  have hl : lv_has ls 2 [(0, .ref h), (1, .ref t)] := hl
  refine lv_aload_n (pc := 0) hx hb dX5_init_0 rfl (lv_at hl 0 rfl) ?_
  refine W.objInit (g := F0 m 1 ls [.ref h]) hx hb hown (hts (.methodLink RX5 3 objectInit) (by decide +kernel)) (hts (.instanceMethod objectInit) (by decide +kernel)) (hts _ (List.mem_of_getElem? (i := 3) rfl)) rfl (by rw [hml]; exact hl.1) rfl dX5_init_1 (Nat.le_of_ble_eq_true rfl) (Nat.le_of_ble_eq_true rfl) ?_
  refine lv_aload_n (pc := 4) hx hb dX5_init_4 rfl (lv_at hl 0 rfl) ?_
  refine z_new (pc := 5) (index := 9) (ci := 8) (fs := [.null, .null, .int 0, .int 0, .long 0, .long 0]) hx hb hts iwcX5_X8 tyX8 tyX8_ok hown (by decide +kernel) (by decide +kernel) (by decide +kernel) hI rfl dfX8 (Nat.le_of_ble_eq_true rfl) (Nat.le_of_ble_eq_true rfl) dX5_init_5 (fun q1 H hI => ?_)
  have hI : zIn D ad cy [(h, .inr (5, [.null, .null, .null, .null, .int 0, .int 0, .int 0])), (q1, .inr (8, [.null, .null, .int 0, .int 0, .long 0, .long 0]))] A s _ _ := hI
  refine lv_dup (pc := 8) hx hb dX5_init_8 rfl ?_
  refine z_callI (pc := 9) (As := []) (rest := [.ref q1, .ref h]) (wr := [(h, .inr (5, [.null, .null, .null, .null, .int 0, .int 0, .int 0]))]) ⟨hx, hb, hml, hown, hts⟩ (nX8_init l D ad cy q1) (cwI 0 hts gX5_init_X8_init rfl rfl rfl (hts (.initialized RX8) (by decide +kernel)) (hts (.methodLink RX5 11 yX8_init) (by decide +kernel)) (hts (.instanceMethod yX8_init) (by decide +kernel)) rfl (by decide +kernel) ⟨Nat.le_of_ble_eq_true rfl, Nat.le_of_ble_eq_true rfl⟩) hO hI [1] [0] (by decide) rfl rfl (by decide) (by decide) rfl hl.1 rfl (Nat.le_of_ble_eq_true rfl) dX5_init_9 (Nat.le_of_ble_eq_true rfl) (Nat.le_of_ble_eq_true rfl) (fun w2 H locs hp hI => ?_)
  obtain ⟨q2, q3, tp4, tr5, ht6, ht7, rfl⟩ := hp
  have hI : zIn D ad cy [(h, .inr (5, [.null, .null, .null, .null, .int 0, .int 0, .int 0])), (q1, .inr (8, [.ref q2, .ref q3, .int (nI (sA D0)), .int (nI (sH D0)), .long (lN (sc D0)), .long (lN (wh D0))])), (q2, .inl (cy 0, 12, .inl tp4)), (q3, .inl (cy 0, 7, .inl tr5))] A s _ _ := hI
  refine z_pF (pc := 12) (index := 12) (w2 := [(h, .inr (5, [.null, .ref q1, .null, .null, .int 0, .int 0, .int 0])), (q1, .inr (8, [.ref q2, .ref q3, .int (nI (sA D0)), .int (nI (sH D0)), .long (lN (sc D0)), .long (lN (wh D0))])), (q2, .inl (cy 0, 12, .inl tp4)), (q3, .inl (cy 0, 7, .inl tr5))]) hx hb hts iwcX5_X5 tyX5 tyX5_ok nmX5 hown hin hI 0 rfl rfl 1 (by decide) (by decide +kernel) rfl rfl rfl rfl (Nat.le_of_ble_eq_true rfl) rfl dX5_init_12 (fun H locs hI => ?_)
  refine lv_aload_n (pc := 15) hx hb dX5_init_15 rfl (lv_at hl 0 rfl) ?_
  refine lv_bipush (pc := 16) (v := 12) hx hb dX5_init_16 (by decide) ?_
  refine z_newa (pc := 18) (a0 := (12, .inl (fun _ => 0))) hx hb hts (by decide +kernel) rfl hI 3 rfl (fun _ => rfl) (by decide) rfl (by decide) (Nat.le_of_ble_eq_true rfl) (Nat.le_of_ble_eq_true rfl) dX5_init_18 (fun q8 H hI => ?_)
  have hI : zIn D ad cy [(h, .inr (5, [.null, .ref q1, .null, .null, .int 0, .int 0, .int 0])), (q1, .inr (8, [.ref q2, .ref q3, .int (nI (sA D0)), .int (nI (sH D0)), .long (lN (sc D0)), .long (lN (wh D0))])), (q2, .inl (cy 0, 12, .inl tp4)), (q3, .inl (cy 0, 7, .inl tr5)), (q8, .inl (cy 3, 12, .inl (fun _ => 0)))] A s _ _ := hI
  refine z_pF (pc := 20) (index := 18) (w2 := [(h, .inr (5, [.null, .ref q1, .ref q8, .null, .int 0, .int 0, .int 0])), (q1, .inr (8, [.ref q2, .ref q3, .int (nI (sA D0)), .int (nI (sH D0)), .long (lN (sc D0)), .long (lN (wh D0))])), (q2, .inl (cy 0, 12, .inl tp4)), (q3, .inl (cy 0, 7, .inl tr5)), (q8, .inl (cy 3, 12, .inl (fun _ => 0)))]) hx hb hts iwcX5_X5 tyX5 tyX5_ok nmX5 hown hin hI 0 rfl rfl 2 (by decide) (by decide +kernel) rfl rfl rfl rfl (Nat.le_of_ble_eq_true rfl) rfl dX5_init_20 (fun H locs hI => ?_)
  refine lv_aload_n (pc := 23) hx hb dX5_init_23 rfl (lv_at hl 0 rfl) ?_
  refine lv_bipush (pc := 24) (v := 7) hx hb dX5_init_24 (by decide) ?_
  refine z_newa (pc := 26) (a0 := (7, .inl (fun _ => 0))) hx hb hts (by decide +kernel) rfl hI 3 rfl (fun _ => rfl) (by decide) rfl (by decide) (Nat.le_of_ble_eq_true rfl) (Nat.le_of_ble_eq_true rfl) dX5_init_26 (fun q9 H hI => ?_)
  have hI : zIn D ad cy [(h, .inr (5, [.null, .ref q1, .ref q8, .null, .int 0, .int 0, .int 0])), (q1, .inr (8, [.ref q2, .ref q3, .int (nI (sA D0)), .int (nI (sH D0)), .long (lN (sc D0)), .long (lN (wh D0))])), (q2, .inl (cy 0, 12, .inl tp4)), (q3, .inl (cy 0, 7, .inl tr5)), (q8, .inl (cy 3, 12, .inl (fun _ => 0))), (q9, .inl (cy 3, 7, .inl (fun _ => 0)))] A s _ _ := hI
  refine z_pF (pc := 28) (index := 22) (w2 := [(h, .inr (5, [.null, .ref q1, .ref q8, .ref q9, .int 0, .int 0, .int 0])), (q1, .inr (8, [.ref q2, .ref q3, .int (nI (sA D0)), .int (nI (sH D0)), .long (lN (sc D0)), .long (lN (wh D0))])), (q2, .inl (cy 0, 12, .inl tp4)), (q3, .inl (cy 0, 7, .inl tr5)), (q8, .inl (cy 3, 12, .inl (fun _ => 0))), (q9, .inl (cy 3, 7, .inl (fun _ => 0)))]) hx hb hts iwcX5_X5 tyX5 tyX5_ok nmX5 hown hin hI 0 rfl rfl 3 (by decide) (by decide +kernel) rfl rfl rfl rfl (Nat.le_of_ble_eq_true rfl) rfl dX5_init_28 (fun H locs hI => ?_)
  refine lv_aload_n (pc := 31) hx hb dX5_init_31 rfl (lv_at hl 0 rfl) ?_
  refine lv_aload_n (pc := 32) hx hb dX5_init_32 rfl (lv_at hl 1 rfl) ?_
  refine z_pF (pc := 33) (index := 25) (w2 := [(h, .inr (5, [.ref t, .ref q1, .ref q8, .ref q9, .int 0, .int 0, .int 0])), (q1, .inr (8, [.ref q2, .ref q3, .int (nI (sA D0)), .int (nI (sH D0)), .long (lN (sc D0)), .long (lN (wh D0))])), (q2, .inl (cy 0, 12, .inl tp4)), (q3, .inl (cy 0, 7, .inl tr5)), (q8, .inl (cy 3, 12, .inl (fun _ => 0))), (q9, .inl (cy 3, 7, .inl (fun _ => 0)))]) hx hb hts iwcX5_X5 tyX5 tyX5_ok nmX5 hown hin hI 0 rfl rfl 0 (by decide) (by decide +kernel) rfl rfl rfl rfl (Nat.le_of_ble_eq_true rfl) rfl dX5_init_33 (fun H locs hI => ?_)
  exact z_vretN C0 hI ⟨q1, q2, q3, q8, q9, tp4, tr5, ht6, ht7, rfl⟩ dX5_init_36

theorem iwcX4_X4 : ∀ w ∈ wsX40, w ∈ wsX4_init := by decide +kernel
set_option maxHeartbeats 4000000 in
set_option maxRecDepth 100000 in
theorem nX4_init (l : Launch) (D : va_G) (ad : Nat → Nat) (cy : Nat → ClassId) (h t t1 t2 : Nat) (tp tr : Nat → Int32) (ht1 : ∀ j, j < 12 → tp j = nI (D0 j)) (ht2 : ∀ j, j < 7 → tr j = nI (D0 (12 + j))) : zCtN l yX4_init wsX4_init ({ frames := 2, cells := 3, slots := 96, locals := 49 } : Room) D ad cy [.ref h, .ref t] [(h, .inr (4, [.null, .null, .null, .null])), (t, .inr (8, [.ref t1, .ref t2, .int (nI (sA D0)), .int (nI (sH D0)), .long (lN (sc D0)), .long (lN (wh D0))])), (t1, .inl (cy 0, 12, .inl tp)), (t2, .inl (cy 0, 7, .inl tr))] (fun w' => ∃ (q1 q2 q3 : Nat) (Lg : Nat → Int32) (Fc : Nat → Int64), (∀ s, s < 16 → Lg s = if okS D0 s then 1 else 0) ∧ (∀ s i, s < 16 → i < 4 → Fc (4 * s + i) = lN (fac D0 s i)) ∧ w' = [(h, .inr (4, [.ref t, .ref q1, .ref q2, .ref q3])), (q1, .inl (cy 3, 16, .inl Lg)), (q2, .inl (cy 2, 64, .inr (.inl Fc))), (q3, .inl (cy 0, 16, .inl (fun _ => 0))), (t, .inr (8, [.ref t1, .ref t2, .int (nI (sA D0)), .int (nI (sH D0)), .long (lN (sc D0)), .long (lN (wh D0))])), (t1, .inl (cy 0, 12, .inl tp)), (t2, .inl (cy 0, 7, .inl tr))]) 3 96 := by
  refine zCtN.of (cc := cX4_init) (maxL := 2) (ret := none) (own := RX4) (by decide) rfl rfl rfl ?_
  intro p e s m below meth c A C0 hin hO hI
  obtain ⟨hx, hb, hml, hown, hts, hr, hlk⟩ := id C0
  refine z_entry (Nat.le_of_ble_eq_true rfl) (fun ls hl => ?_)
  have hl : lv_has ls 2 [(0, .ref h), (1, .ref t)] := hl
  refine lv_aload_n (pc := 0) hx hb dX4_init_0 rfl (lv_at hl 0 rfl) ?_
  refine W.objInit (g := F0 m 1 ls [.ref h]) hx hb hown (hts (.methodLink RX4 3 objectInit) (by decide +kernel)) (hts (.instanceMethod objectInit) (by decide +kernel)) (hts _ (List.mem_of_getElem? (i := 3) rfl)) rfl (by rw [hml]; exact hl.1) rfl dX4_init_1 (Nat.le_of_ble_eq_true rfl) (Nat.le_of_ble_eq_true rfl) ?_
  refine lv_aload_n (pc := 4) hx hb dX4_init_4 rfl (lv_at hl 0 rfl) ?_
  refine lv_bipush (pc := 5) (v := 16) hx hb dX4_init_5 (by decide) ?_
  refine z_newa (pc := 7) (a0 := (16, .inl (fun _ => 0))) hx hb hts (by decide +kernel) rfl hI 3 rfl (fun _ => rfl) (by decide) rfl (by decide) (Nat.le_of_ble_eq_true rfl) (Nat.le_of_ble_eq_true rfl) dX4_init_7 (fun q1 H hI => ?_)
  have hI : zIn D ad cy [(h, .inr (4, [.null, .null, .null, .null])), (t, .inr (8, [.ref t1, .ref t2, .int (nI (sA D0)), .int (nI (sH D0)), .long (lN (sc D0)), .long (lN (wh D0))])), (t1, .inl (cy 0, 12, .inl tp)), (t2, .inl (cy 0, 7, .inl tr)), (q1, .inl (cy 3, 16, .inl (fun _ => 0)))] A s _ _ := hI
  refine z_pF (pc := 9) (index := 9) (w2 := [(h, .inr (4, [.null, .ref q1, .null, .null])), (t, .inr (8, [.ref t1, .ref t2, .int (nI (sA D0)), .int (nI (sH D0)), .long (lN (sc D0)), .long (lN (wh D0))])), (t1, .inl (cy 0, 12, .inl tp)), (t2, .inl (cy 0, 7, .inl tr)), (q1, .inl (cy 3, 16, .inl (fun _ => 0)))]) hx hb hts iwcX4_X4 tyX4 tyX4_ok nmX4 hown hin hI 0 rfl rfl 1 (by decide) (by decide +kernel) rfl rfl rfl rfl (Nat.le_of_ble_eq_true rfl) rfl dX4_init_9 (fun H locs hI => ?_)
  refine lv_aload_n (pc := 12) hx hb dX4_init_12 rfl (lv_at hl 0 rfl) ?_
  refine lv_bipush (pc := 13) (v := 64) hx hb dX4_init_13 (by decide) ?_
  refine z_newa (pc := 15) (a0 := (64, .inr (.inl (fun _ => 0)))) hx hb hts (by decide +kernel) rfl hI 2 rfl (fun _ => rfl) (by decide) rfl (by decide) (Nat.le_of_ble_eq_true rfl) (Nat.le_of_ble_eq_true rfl) dX4_init_15 (fun q2 H hI => ?_)
  have hI : zIn D ad cy [(h, .inr (4, [.null, .ref q1, .null, .null])), (t, .inr (8, [.ref t1, .ref t2, .int (nI (sA D0)), .int (nI (sH D0)), .long (lN (sc D0)), .long (lN (wh D0))])), (t1, .inl (cy 0, 12, .inl tp)), (t2, .inl (cy 0, 7, .inl tr)), (q1, .inl (cy 3, 16, .inl (fun _ => 0))), (q2, .inl (cy 2, 64, .inr (.inl (fun _ => 0))))] A s _ _ := hI
  refine z_pF (pc := 17) (index := 15) (w2 := [(h, .inr (4, [.null, .ref q1, .ref q2, .null])), (t, .inr (8, [.ref t1, .ref t2, .int (nI (sA D0)), .int (nI (sH D0)), .long (lN (sc D0)), .long (lN (wh D0))])), (t1, .inl (cy 0, 12, .inl tp)), (t2, .inl (cy 0, 7, .inl tr)), (q1, .inl (cy 3, 16, .inl (fun _ => 0))), (q2, .inl (cy 2, 64, .inr (.inl (fun _ => 0))))]) hx hb hts iwcX4_X4 tyX4 tyX4_ok nmX4 hown hin hI 0 rfl rfl 2 (by decide) (by decide +kernel) rfl rfl rfl rfl (Nat.le_of_ble_eq_true rfl) rfl dX4_init_17 (fun H locs hI => ?_)
  refine lv_aload_n (pc := 20) hx hb dX4_init_20 rfl (lv_at hl 0 rfl) ?_
  refine lv_bipush (pc := 21) (v := 16) hx hb dX4_init_21 (by decide) ?_
  refine z_newa (pc := 23) (a0 := (16, .inl (fun _ => 0))) hx hb hts (by decide +kernel) rfl hI 0 rfl (fun _ => rfl) (by decide) rfl (by decide) (Nat.le_of_ble_eq_true rfl) (Nat.le_of_ble_eq_true rfl) dX4_init_23 (fun q3 H hI => ?_)
  have hI : zIn D ad cy [(h, .inr (4, [.null, .ref q1, .ref q2, .null])), (t, .inr (8, [.ref t1, .ref t2, .int (nI (sA D0)), .int (nI (sH D0)), .long (lN (sc D0)), .long (lN (wh D0))])), (t1, .inl (cy 0, 12, .inl tp)), (t2, .inl (cy 0, 7, .inl tr)), (q1, .inl (cy 3, 16, .inl (fun _ => 0))), (q2, .inl (cy 2, 64, .inr (.inl (fun _ => 0)))), (q3, .inl (cy 0, 16, .inl (fun _ => 0)))] A s _ _ := hI
  refine z_pF (pc := 25) (index := 19) (w2 := [(h, .inr (4, [.null, .ref q1, .ref q2, .ref q3])), (t, .inr (8, [.ref t1, .ref t2, .int (nI (sA D0)), .int (nI (sH D0)), .long (lN (sc D0)), .long (lN (wh D0))])), (t1, .inl (cy 0, 12, .inl tp)), (t2, .inl (cy 0, 7, .inl tr)), (q1, .inl (cy 3, 16, .inl (fun _ => 0))), (q2, .inl (cy 2, 64, .inr (.inl (fun _ => 0)))), (q3, .inl (cy 0, 16, .inl (fun _ => 0)))]) hx hb hts iwcX4_X4 tyX4 tyX4_ok nmX4 hown hin hI 0 rfl rfl 3 (by decide) (by decide +kernel) rfl rfl rfl rfl (Nat.le_of_ble_eq_true rfl) rfl dX4_init_25 (fun H locs hI => ?_)
  refine lv_aload_n (pc := 28) hx hb dX4_init_28 rfl (lv_at hl 0 rfl) ?_
  refine lv_aload_n (pc := 29) hx hb dX4_init_29 rfl (lv_at hl 1 rfl) ?_
  refine z_pF (pc := 30) (index := 23) (w2 := [(h, .inr (4, [.ref t, .ref q1, .ref q2, .ref q3])), (t, .inr (8, [.ref t1, .ref t2, .int (nI (sA D0)), .int (nI (sH D0)), .long (lN (sc D0)), .long (lN (wh D0))])), (t1, .inl (cy 0, 12, .inl tp)), (t2, .inl (cy 0, 7, .inl tr)), (q1, .inl (cy 3, 16, .inl (fun _ => 0))), (q2, .inl (cy 2, 64, .inr (.inl (fun _ => 0)))), (q3, .inl (cy 0, 16, .inl (fun _ => 0)))]) hx hb hts iwcX4_X4 tyX4 tyX4_ok nmX4 hown hin hI 0 rfl rfl 0 (by decide) (by decide +kernel) rfl rfl rfl rfl (Nat.le_of_ble_eq_true rfl) rfl dX4_init_30 (fun H locs hI => ?_)
  obtain ⟨Lg, Fc, e1, e2⟩ := xplat (u := (xsetT D0 (xs_Trules (xs_Tparts uZ tp) tr))) (k := 20) (rBd_P D0_b D0_s) (xset_T ht1 ht2) (by omega)
  have hI : zIn D (zad7 ad h q1 q2 q3 t t1 t2) cy (WQ (zad7 ad h q1 q2 q3 t t1 t2) cy (xsetT D0 (xs_Trules (xs_Tparts uZ tp) tr))) A s _ _ := (hI.sub [0, 4, 5, 6, 1, 2, 3] (by decide) rfl).chg rfl rfl rfl rfl
  refine lv_aload_n (pc := 33) hx hb dX4_init_33 rfl (lv_at hl 0 rfl) ?_
  refine z_callVf (pc := 34) (ad' := (zad7 ad h q1 q2 q3 t t1 t2)) (As := []) (rest := []) (wr := []) ⟨hx, hb, hml, hown, hts⟩ (kX4_settle_t l D (zad7 ad h q1 q2 q3 t t1 t2) cy 20 (xsetT D0 (xs_Trules (xs_Tparts uZ tp) tr)) (xs_factors (xs_light (xsetT D0 (xs_Trules (xs_Tparts uZ tp) tr)) Lg) Fc) e1) (cwV 0 hts gX4_init_X4_settle rfl rfl rfl (by decide +kernel) ⟨Nat.le_of_ble_eq_true rfl, Nat.le_of_ble_eq_true rfl⟩) hI rfl (ql_32 (zad7 ad h q1 q2 q3 t t1 t2) cy (xsetT D0 (xs_Trules (xs_Tparts uZ tp) tr))) [0, 1, 2, 3, 4, 5, 6] [] (by decide) rfl rfl (by decide) (by decide) rfl hl.1 rfl (Nat.le_of_ble_eq_true rfl) dX4_init_34 (Nat.le_of_ble_eq_true rfl) (Nat.le_of_ble_eq_true rfl) (fun H locs hI => ?_)
  have hI : zIn D ad cy [(h, .inr (4, [.ref t, .ref q1, .ref q2, .ref q3])), (q1, .inl (cy 3, 16, .inl Lg)), (q2, .inl (cy 2, 64, .inr (.inl Fc))), (q3, .inl (cy 0, 16, .inl (fun _ => 0))), (t, .inr (8, [.ref t1, .ref t2, .int (nI (sA D0)), .int (nI (sH D0)), .long (lN (sc D0)), .long (lN (wh D0))])), (t1, .inl (cy 0, 12, .inl tp)), (t2, .inl (cy 0, 7, .inl tr))] A s _ _ := hI.chg rfl rfl rfl rfl
  exact z_vretN C0 hI ⟨q1, q2, q3, Lg, Fc, e2.1, e2.2, rfl⟩ dX4_init_37

theorem iwcX3_X3 : ∀ w ∈ wsX30, w ∈ wsX3_init := by decide +kernel
set_option maxHeartbeats 4000000 in
set_option maxRecDepth 100000 in
theorem nX3_init (l : Launch) (D : va_G) (ad : Nat → Nat) (cy : Nat → ClassId) (h : Nat) : zCtN l yX3_init wsX3_init ({ frames := 1, cells := 10, slots := 98, locals := 12 } : Room) D ad cy [.ref h] [(h, .inr (3, [.null, .null, .int 0, .int 0]))] (fun w' => ∃ (q1 q : Nat) (r : Nat → Nat), w' = [(h, .inr (3, [.ref q1, .ref q, .int 0, .int 0])), (q1, .inl (cy 0, 10, .inl (fun _ => 0))), (q, .inl (cy 5, 8, .inr (.inr (.inr (.inr (fun i => if i < 8 then some (r i) else none)))))), ((r 0), .inl (cy 0, 10, .inl (fun _ => 0))), ((r 1), .inl (cy 0, 10, .inl (fun _ => 0))), ((r 2), .inl (cy 0, 10, .inl (fun _ => 0))), ((r 3), .inl (cy 0, 10, .inl (fun _ => 0))), ((r 4), .inl (cy 0, 10, .inl (fun _ => 0))), ((r 5), .inl (cy 0, 10, .inl (fun _ => 0))), ((r 6), .inl (cy 0, 10, .inl (fun _ => 0))), ((r 7), .inl (cy 0, 10, .inl (fun _ => 0)))]) 10 98 := by
  refine zCtN.of (cc := cX3_init) (maxL := 1) (ret := none) (own := RX3) (by decide) rfl rfl rfl ?_
  intro p e s m below meth c A C0 hin hO hI
  obtain ⟨hx, hb, hml, hown, hts, hr, hlk⟩ := id C0
  refine z_entry (Nat.le_of_ble_eq_true rfl) (fun ls hl => ?_)
  have hl : lv_has ls 1 [(0, .ref h)] := hl
  refine lv_aload_n (pc := 0) hx hb dX3_init_0 rfl (lv_at hl 0 rfl) ?_
  refine W.objInit (g := F0 m 1 ls [.ref h]) hx hb hown (hts (.methodLink RX3 1 objectInit) (by decide +kernel)) (hts (.instanceMethod objectInit) (by decide +kernel)) (hts _ (List.mem_of_getElem? (i := 3) rfl)) rfl (by rw [hml]; exact hl.1) rfl dX3_init_1 (Nat.le_of_ble_eq_true rfl) (Nat.le_of_ble_eq_true rfl) ?_
  refine lv_aload_n (pc := 4) hx hb dX3_init_4 rfl (lv_at hl 0 rfl) ?_
  refine lv_bipush (pc := 5) (v := 10) hx hb dX3_init_5 (by decide) ?_
  refine z_newa (pc := 7) (a0 := (10, .inl (fun _ => 0))) hx hb hts (by decide +kernel) rfl hI 0 rfl (fun _ => rfl) (by decide) rfl (by decide) (Nat.le_of_ble_eq_true rfl) (Nat.le_of_ble_eq_true rfl) dX3_init_7 (fun q1 H hI => ?_)
  have hI : zIn D ad cy [(h, .inr (3, [.null, .null, .int 0, .int 0])), (q1, .inl (cy 0, 10, .inl (fun _ => 0)))] A s _ _ := hI
  refine z_pF (pc := 9) (index := 9) (w2 := [(h, .inr (3, [.ref q1, .null, .int 0, .int 0])), (q1, .inl (cy 0, 10, .inl (fun _ => 0)))]) hx hb hts iwcX3_X3 tyX3 tyX3_ok nmX3 hown hin hI 0 rfl rfl 0 (by decide) (by decide +kernel) rfl rfl rfl rfl (Nat.le_of_ble_eq_true rfl) rfl dX3_init_9 (fun H locs hI => ?_)
  refine lv_aload_n (pc := 12) hx hb dX3_init_12 rfl (lv_at hl 0 rfl) ?_
  refine lv_bipush (pc := 13) (v := 8) hx hb dX3_init_13 (by decide) ?_
  refine lv_bipush (pc := 15) (v := 10) hx hb dX3_init_15 (by decide) ?_
  refine z_mna (pc := 17) (index := 13) hx hb hown (hts _ (by decide +kernel)) hO.1 (hts (.arrayClass .int) (by decide +kernel)) hI (Nat.le_of_ble_eq_true rfl) (Nat.le_of_ble_eq_true rfl) dX3_init_17 (fun q r H hI => ?_)
  have hI : zIn D ad cy [(h, .inr (3, [.ref q1, .null, .int 0, .int 0])), (q1, .inl (cy 0, 10, .inl (fun _ => 0))), (q, .inl (cy 5, 8, .inr (.inr (.inr (.inr (fun i => if i < 8 then some (r i) else none)))))), ((r 0), .inl (cy 0, 10, .inl (fun _ => 0))), ((r 1), .inl (cy 0, 10, .inl (fun _ => 0))), ((r 2), .inl (cy 0, 10, .inl (fun _ => 0))), ((r 3), .inl (cy 0, 10, .inl (fun _ => 0))), ((r 4), .inl (cy 0, 10, .inl (fun _ => 0))), ((r 5), .inl (cy 0, 10, .inl (fun _ => 0))), ((r 6), .inl (cy 0, 10, .inl (fun _ => 0))), ((r 7), .inl (cy 0, 10, .inl (fun _ => 0)))] A s _ _ := hI
  refine z_pF (pc := 21) (index := 15) (w2 := [(h, .inr (3, [.ref q1, .ref q, .int 0, .int 0])), (q1, .inl (cy 0, 10, .inl (fun _ => 0))), (q, .inl (cy 5, 8, .inr (.inr (.inr (.inr (fun i => if i < 8 then some (r i) else none)))))), ((r 0), .inl (cy 0, 10, .inl (fun _ => 0))), ((r 1), .inl (cy 0, 10, .inl (fun _ => 0))), ((r 2), .inl (cy 0, 10, .inl (fun _ => 0))), ((r 3), .inl (cy 0, 10, .inl (fun _ => 0))), ((r 4), .inl (cy 0, 10, .inl (fun _ => 0))), ((r 5), .inl (cy 0, 10, .inl (fun _ => 0))), ((r 6), .inl (cy 0, 10, .inl (fun _ => 0))), ((r 7), .inl (cy 0, 10, .inl (fun _ => 0)))]) hx hb hts iwcX3_X3 tyX3 tyX3_ok nmX3 hown hin hI 0 rfl rfl 1 (by decide) (by decide +kernel) rfl rfl rfl rfl (Nat.le_of_ble_eq_true rfl) rfl dX3_init_21 (fun H locs hI => ?_)
  exact z_vretN C0 hI ⟨q1, q, r, rfl⟩ dX3_init_24

