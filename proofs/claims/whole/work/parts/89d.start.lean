/-! from the law's entry -/
set_option maxHeartbeats 4000000 in
set_option maxRecDepth 100000 in
theorem whole_start {p : Program} {e : Env} {s : State} {m : MethodId} {below : List Frame} {meth : Method} {c : Code} (l : Launch) {b L : Nat} {xs : Nat → Int32} (hL : L ≤ 2560) (C0 : lw_At p s m meth c b L xs) : W p l e room_1 s m #[Value.ref b] below meth c s.heap [] 0 0 (lw_Z below #[Value.ref b] s) (entryFrame m ([Value.ref b] : List Value).toArray 4) := by
  obtain ⟨hx, hb, hr, hml, hown, hts, hX, hbl, hlocks, hgv⟩ := id C0
  have hb : c.code = cL_law := hb
  have hown : s.vm.findClass RL = some m.cls := hown
  obtain ⟨D, cy, hK⟩ := vK_start hts
  obtain ⟨ad, hF⟩ := zF_start (A := fun q : Nat => s.heap.size ≤ q) hts hgv (fun a h => Nat.not_le.mpr h)
  have hO := zAO_start hts
  have hI : zIn D ad cy [] (fun q : Nat => s.heap.size ≤ q) s s.heap [] := ⟨hK, fun k q h => by simp at h, ⟨fun i j p q h => by simp at h, fun k q h => by simp at h⟩, va_S.rf, fun _ h => h, hF⟩
  refine z_entry (vs := [Value.ref b]) (Nat.le_of_ble_eq_true rfl) (fun ls hl => ?_)
  have hl : lv_has ls 4 [(0, .ref b)] := hl
  refine z_new (pc := 0) (index := 7) (ci := 9) (fs := [.null, .null, .null, .null, .null, .null, .null, .null, .null, .int 0]) hx hb hts inX9 tyX9 tyX9_ok hown (by decide +kernel) (by decide +kernel) (by decide +kernel) hI rfl dfX9 (Nat.le_of_ble_eq_true rfl) (Nat.le_of_ble_eq_true rfl) dL_law_0 (fun q H hI => ?_)
  refine lv_dup (pc := 3) hx hb dL_law_3 rfl ?_
  refine z_callI (pc := 4) (As := []) (rest := [.ref q]) (wr := []) ⟨hx, hb, hml, hown, hts⟩ (nX9_init l D ad cy q) (cwI 0 hts gT_X9_init rfl rfl rfl (hts (.initialized RX9) (by decide +kernel)) (hts (.methodLink RL 9 yX9_init) (by decide +kernel)) (hts (.instanceMethod yX9_init) (by decide +kernel)) rfl (by decide +kernel) ⟨Nat.le_of_ble_eq_true rfl, Nat.le_of_ble_eq_true rfl⟩) hO hI [0] [] (by decide) rfl rfl (by decide) (by decide) rfl hl.1 rfl (Nat.le_of_ble_eq_true rfl) dL_law_4 (Nat.le_of_ble_eq_true rfl) (Nat.le_of_ble_eq_true rfl) (fun w2 H locs hp hI => ?_)
  obtain ⟨ax, u, h0, h1, h2, h3, h4, hxi, rfl⟩ := hp
  have hI : zIn D ad cy (WX ax cy u) (fun q : Nat => s.heap.size ≤ q) s H locs := hI
  refine lv_astore_n (pc := 7) (lv' := [(1, .ref q), (0, .ref b)]) hx hb dL_law_7 rfl hl (by decide) rfl (fun ls hl => ?_)
  refine z_new (pc := 8) (index := 10) (ci := 10) (fs := [.null, .int 0, .int 0, .int 0, .int 0, .int 0, .int 0, .int 0, .int 0, .null, .null, .null, .null, .null, .int 0, .null, .null, .int 0, .int 0, .null, .null, .null, .null, .long 0, .long 0, .long 0, .int 0, .null, .null, .null, .null, .int 0]) hx hb hts inX10 tyX10 tyX10_ok hown (by decide +kernel) (by decide +kernel) (by decide +kernel) hI rfl dfX10 (Nat.le_of_ble_eq_true rfl) (Nat.le_of_ble_eq_true rfl) dL_law_8 (fun qm H hI => ?_)
  refine lv_dup (pc := 11) hx hb dL_law_11 rfl ?_
  refine z_callI (pc := 12) (As := []) (rest := [.ref qm]) (wr := WX ax cy u) ⟨hx, hb, hml, hown, hts⟩ (nX10_init l D ad cy qm) (cwI 0 hts gT_X10_init rfl rfl rfl (hts (.initialized RX10) (by decide +kernel)) (hts (.methodLink RL 12 yX10_init) (by decide +kernel)) (hts (.instanceMethod yX10_init) (by decide +kernel)) rfl (by decide +kernel) ⟨Nat.le_of_ble_eq_true rfl, Nat.le_of_ble_eq_true rfl⟩) hO hI [47] (List.range 47) (by decide) rfl rfl (by decide) (by decide) rfl hl.1 rfl (Nat.le_of_ble_eq_true rfl) dL_law_12 (Nat.le_of_ble_eq_true rfl) (Nat.le_of_ble_eq_true rfl) (fun w2 H locs hp hI => ?_)
  obtain ⟨am, g0, g1, g2, g3, g4, rfl⟩ := hp
  refine lv_astore_n (pc := 15) (lv' := [(2, .ref qm), (1, .ref q), (0, .ref b)]) hx hb dL_law_15 rfl hl (by decide) rfl (fun ls hl => ?_)
  refine lv_iconst (pc := 16) (v := 0) hx hb dL_law_16 (by decide) ?_
  refine lv_istore_n (pc := 17) (lv' := [(3, .int 0), (2, .ref qm), (1, .ref q), (0, .ref b)]) hx hb dL_law_17 rfl hl (by decide) rfl (fun ls hl => ?_)
  rw [← h0, ← g0] at hl
  exact lw_loop hL C0 (ad := ax) (ad' := am) ⟨by rw [g1, h1], by rw [g2, h2], by rw [g3, h3], by rw [g4, h4]⟩ (Nat.le_of_ble_eq_true rfl) (Nat.le_of_ble_eq_true rfl) (L + 1) 0 u mZ H locs ls (by omega) (by omega) (rel_ini hxi) (hI.chg h1 h2 h3 h4) (lv_sub hl [3, 2, 1, 0] rfl)
