/-! the text of words: String.length, String.charAt -/
section ZS
variable {p : Program} {l : Launch} {e : Env} {R : Room} {s : State} {m : MethodId} {args : Array Value} {below : List Frame} {meth : Method} {c : Code} {H : Heap} {locs : List Loc} {cells slots : Nat} {Q : State → Prop}
variable {cc bytes : ByteArray} {pc : Nat} {ls : Array Slot} {rest st0 : List Value} {ρ : Type} {z : ρ} {D : va_G} {ad : Nat → Nat} {cy : Nat → ClassId} {A : Nat → Prop} {w w' : va_W} {o : Option Value}
variable {y : MethodName} {ws : List Cond} {rm : Room} {Ts : List Cond} {own C host : String} {index maxL nL n : Nat} {ret : Option FieldType} {b : Nat} {As : List Value}
theorem z_nret {ty : FieldType} (C0 : zFix p m c cc nL s args Ts own meth (some ty)) (hI : zIn D ad cy w A s H locs) {v : Int32} (hn : narrow ty (.int v) = .int v) (hdg : decode cc pc = .ok (.ireturn, 1)) : W p l e R s m args below meth c H locs 0 0 (zMQ D cy below args s A (some (.int v)) w) (F0 m pc ls [.int v]) := by
  obtain ⟨hx, hb, hml, hown, hts, hr, hlk⟩ := C0
  obtain ⟨hK, hP, hD, hS, hA, hF⟩ := hI
  exact W.zret hx hb hr hn (fun t ht hW => ⟨⟨rfl, by rw [ht]; exact hP, va_K.moved hW.alike hK, hD⟩, hS.F ht⟩) hS.2.2 hdg hlk
theorem zcallVstr {r : Int32} (S : CallFix p m c cc nL s args Ts own) (hM : zCt l y ws rm D ad cy (.ref (ad 102) :: As) w (some (.int r)) w') (cw : CallW R s args own RJ0 index y bytes maxL ret ws rm 0 0 n) (hI : zIn D ad cy w A s H locs)
    (hn : As.length = n) (hsize : ls.size = nL) (hst : st0 = As.reverse ++ .ref (ad 102) :: rest) (hW : (rest.map fun v => v.category).sum ≤ 8) (hdg : decode cc pc = .ok (.invokevirtual index, 3)) (hcs : cells ≤ R.cells) (hss : slots ≤ R.slots)
    (kk : ∀ (H1 : Heap) (locs1 : List Loc), zIn D ad cy w' A s H1 locs1 → W p l e R s m args below meth c H1 locs1 cells slots Q (F0 m (pc + 3) ls (.int r :: rest))) : W p l e R s m args below meth c H locs cells slots Q (F0 m pc ls st0) := by
  subst hst
  exact zRunW (g := F0 m pc ls []) hI (va_runV (g := F0 m pc ls (As.reverse ++ .ref (ad 102) :: rest)) S (hM H.size) cw ⟨zPc_blind, vk_recv (i := 0) hI.2.2.2.2.2.2.2.2.2.1 (by decide) hI.2.2.2.1, hI.pre _⟩ rfl hn hsize rfl (lv_room hW) hdg ⟨hcs, hss⟩) kk
end ZS
set_option maxHeartbeats 4000000 in
theorem kJ3_checkIndex (l : Launch) (i n : Int32) (fv : Value) (hv : fv = .null ∨ ∃ t, fv = .ref t) (h1 : ¬ i < 0) (h2 : i < n) : zSt l yJ3_checkIndex_8e157 wsJ3_checkIndex_8e157 ({ frames := 0, cells := 0, slots := 0, locals := 0 } : Room) [.int i, .int n, fv] (some (.int i)) := by
  refine zSt.of (cc := cJ3_checkIndex_8e157) (maxL := 3) (ret := (some .int)) (own := RJ3) (by decide) rfl rfl ?_
  intro p e s m below meth c C0
  obtain ⟨hx, hb, hml, hown, hts, hr, hlk⟩ := id C0
  refine z_entry (by rcases hv with rfl | ⟨t, rfl⟩ <;> exact Nat.le_of_ble_eq_true rfl) (fun ls hl => ?_)
  have hl : lv_has ls 3 [(0, .int i), (1, .int n), (2, fv)] := hl
  refine lv_iload_n (pc := 0) hx hb dJ3_checkIndex_8e157_0 rfl (lv_at hl 0 rfl) ?_
  refine lv_if_lt (pc := 1) (tgt := 9) hx hb dJ3_checkIndex_8e157_1 (by decide) (fun h => absurd h h1) (fun _ => ?_)
  refine lv_iload_n (pc := 4) hx hb dJ3_checkIndex_8e157_4 rfl (lv_at hl 0 rfl) ?_
  refine lv_iload_n (pc := 5) hx hb dJ3_checkIndex_8e157_5 rfl (lv_at hl 1 rfl) ?_
  refine lv_icmp_lt (pc := 6) (tgt := 16) hx hb dJ3_checkIndex_8e157_6 (by decide) (fun _ => ?_) (fun h => absurd h2 h)
  refine lv_iload_n (pc := 16) hx hb dJ3_checkIndex_8e157_16 rfl (lv_at hl 0 rfl) ?_
  exact z_siret (pc := 17) C0 dJ3_checkIndex_8e157_17
set_option maxHeartbeats 4000000 in
theorem kJ0_checkIndex (l : Launch) (D : va_G) (ad : Nat → Nat) (cy : Nat → ClassId) (w : va_W) (i n : Int32) (h1 : ¬ i < 0) (h2 : i < n) : zCt l yJ0_checkIndex_df160 wsJ0_checkIndex_df160 ({ frames := 1, cells := 0, slots := 0, locals := 22 } : Room) D ad cy [.int i, .int n] w none w := by
  refine zCt.of (cc := cJ0_checkIndex_df160) (maxL := 2) (ret := none) (own := RJ0) (by decide) rfl rfl ?_
  intro p e s m below meth c A C0 hI
  obtain ⟨hx, hb, hml, hown, hts, hr, hlk⟩ := id C0
  refine z_entry (Nat.le_of_ble_eq_true rfl) (fun ls hl => ?_)
  have hl : lv_has ls 2 [(0, .int i), (1, .int n)] := hl
  refine lv_iload_n (pc := 0) hx hb dJ0_checkIndex_df160_0 rfl (lv_at hl 0 rfl) ?_
  refine lv_iload_n (pc := 1) hx hb dJ0_checkIndex_df160_1 rfl (lv_at hl 1 rfl) ?_
  have hZ := hI.2.2.2.2.2.2.2.2.2.2.2
  have hend : ∀ fv : Value, (fv = .null ∨ ∃ t, fv = .ref t) → W p l e ({ frames := 1, cells := 0, slots := 0, locals := 22 } : Room) s m [Value.int i, Value.int n].toArray below meth c s.heap [] 0 0 (zMQ D cy below [Value.int i, Value.int n].toArray s A none w) (F0 m 5 ls [fv, .int n, .int i]) := by
    intro fv hfv
    refine zcallSi (pc := 5) (As := [.int i, .int n, fv]) (rest := []) ⟨hx, hb, hml, hown, hts⟩ (kJ3_checkIndex l i n fv hfv h1 h2) (va_cwS 3 hts gJ0_checkIndex_df160_J3_checkIndex_8e157 rfl rfl rfl (by decide +kernel) ⟨Nat.le_of_ble_eq_true rfl, Nat.le_of_ble_eq_true rfl⟩) rfl hl.1 rfl (Nat.le_of_ble_eq_true rfl) dJ0_checkIndex_df160_5 (Nat.zero_le _) (Nat.zero_le _) ?_
    refine lv_pop (pc := 8) hx hb dJ0_checkIndex_df160_8 rfl ?_
    exact z_vret (pc := 9) C0 hI dJ0_checkIndex_df160_9
  rcases hZ with hZ | ⟨t, hZ⟩
  · exact va_gets (pc := 2) (index := 1053) hx hb hZ hI.2.2.2.1 hown (hts (.fieldLink RJ0 1053 "jdk/internal/util/Preconditions" "SIOOBE_FORMATTER" "Ljava/util/function/BiFunction;") (by decide +kernel)) (fun _ h => h) dJ0_checkIndex_df160_2 (hend .null (Or.inl rfl))
  · exact va_gets (pc := 2) (index := 1053) hx hb hZ hI.2.2.2.1 hown (hts (.fieldLink RJ0 1053 "jdk/internal/util/Preconditions" "SIOOBE_FORMATTER" "Ljava/util/function/BiFunction;") (by decide +kernel)) (fun _ h => h) dJ0_checkIndex_df160_2 (hend (.ref t) (Or.inr ⟨t, rfl⟩))
theorem zTextB_char : ∀ j : Nat, j < 42 → (((zTextB.getD j 0) &&& 255).toUInt32 % 65536).toInt32 = zTextB.getD j 0 := by decide +kernel
set_option maxHeartbeats 4000000 in
theorem kJ1_charAt (l : Launch) (D : va_G) (ad : Nat → Nat) (cy : Nat → ClassId) (w : va_W) {i r : Int32} (hf : zchar i = some r) : zCt l yJ1_charAt_3b067 wsJ1_charAt_3b067 ({ frames := 2, cells := 0, slots := 0, locals := 43 } : Room) D ad cy [.ref (ad 103), .int i] w (some (.int r)) w := by
  refine zCt.of (cc := cJ1_charAt_3b067) (maxL := 2) (ret := (some .char)) (own := RJ1) (by decide) rfl rfl ?_
  intro p e s m below meth c A C0 hI
  obtain ⟨hx, hb, hml, hown, hts, hr, hlk⟩ := id C0
  refine z_entry (Nat.le_of_ble_eq_true rfl) (fun ls hl => ?_)
  have hl : lv_has ls 2 [(0, .ref (ad 103)), (1, .int i)] := hl
  unfold zchar at hf
  by_cases hi : 0 ≤ i.toInt ∧ i.toInt < 42
  · rw [if_pos hi] at hf
    cases hf
    have hin : vp_in i 42 := zvp hi
    have h1 : ¬ i < 0 := fun h => hin (Or.inl h)
    have hlt : i.toNatClampNeg < 42 := Nat.not_le.mp fun q => hin (Or.inr q)
    have h2 : i < 42 := by
      rw [Int32.lt_iff_toInt_lt]
      exact hi.2
    have hE := (hI.2.2.2.2.2.2.2.2.2.1).1 0 (by decide)
    refine lv_iload_n (pc := 0) hx hb dJ1_charAt_3b067_0 rfl (lv_at hl 1 rfl) ?_
    refine lv_aload_n (pc := 1) hx hb dJ1_charAt_3b067_1 rfl (lv_at hl 0 rfl) ?_
    refine va_tlen (pc := 2) hx hb hE.2.2.2 hI.2.2.2.1 (v := 42) (by decide) dJ1_charAt_3b067_2 ?_
    refine zcallSWv (pc := 3) (As := [.int i, .int 42]) (rest := []) ⟨hx, hb, hml, hown, hts⟩ (kJ0_checkIndex l D ad cy w i 42 h1 h2) (va_cwS 2 hts gJ1_charAt_3b067_J0_checkIndex_df160 rfl rfl rfl (by decide +kernel) ⟨Nat.le_of_ble_eq_true rfl, Nat.le_of_ble_eq_true rfl⟩) hI rfl hl.1 rfl (Nat.le_of_ble_eq_true rfl) dJ1_charAt_3b067_3 (Nat.zero_le _) (Nat.zero_le _) (fun H locs hI => ?_)
    refine lv_aload_n (pc := 6) hx hb dJ1_charAt_3b067_6 rfl (lv_at hl 0 rfl) ?_
    refine lv_iload_n (pc := 7) hx hb dJ1_charAt_3b067_7 rfl (lv_at hl 1 rfl) ?_
    refine va_tb (pc := 8) hx hb hE.2.2.2 hI.2.2.2.1 hin (v := .int (zTextB.getD i.toNatClampNeg 0)) rfl dJ1_charAt_3b067_8 ?_
    refine lv_sipush (pc := 9) (v := 255) hx hb dJ1_charAt_3b067_9 (by decide) ?_
    refine lv_iand (pc := 12) hx hb dJ1_charAt_3b067_12 ?_
    refine lv_i2c (pc := 13) hx hb dJ1_charAt_3b067_13 (zTextB_char _ hlt) ?_
    refine z_nret (pc := 14) C0 hI ?_ dJ1_charAt_3b067_14
    rw [← zTextB_char _ hlt]
    exact pk_nc _
  · rw [if_neg hi] at hf; cases hf
set_option maxHeartbeats 4000000 in
theorem kJ0_isLatin1 (l : Launch) (D : va_G) (ad : Nat → Nat) (cy : Nat → ClassId) (w : va_W) : zCt l yJ0_isLatin1_aae02 wsJ0_isLatin1_aae02 ({ frames := 0, cells := 0, slots := 0, locals := 0 } : Room) D ad cy [.ref (ad 102)] w (some (.int 1)) w := by
  refine zCt.of (cc := cJ0_isLatin1_aae02) (maxL := 1) (ret := (some .boolean)) (own := RJ0) (by decide) rfl rfl ?_
  intro p e s m below meth c A C0 hI
  obtain ⟨hx, hb, hml, hown, hts, hr, hlk⟩ := id C0
  refine z_entry (Nat.le_of_ble_eq_true rfl) (fun ls hl => ?_)
  have hl : lv_has ls 1 [(0, .ref (ad 102))] := hl
  have hE := (hI.2.2.2.2.2.2.2.2.2.1).1 0 (by decide)
  refine va_gets (pc := 0) (index := 38) hx hb hI.2.2.2.2.2.2.2.2.2.2.1 hI.2.2.2.1 hown (hts (.fieldLink RJ0 38 "java/lang/String" "COMPACT_STRINGS" "Z") (by decide +kernel)) (fun _ h => h) dJ0_isLatin1_aae02_0 ?_
  refine lv_if_eq (pc := 3) (tgt := 17) hx hb dJ0_isLatin1_aae02_3 (by decide) (fun h => absurd h (by decide)) (fun _ => ?_)
  refine lv_aload_n (pc := 6) hx hb dJ0_isLatin1_aae02_6 rfl (lv_at hl 0 rfl) ?_
  refine vk_getf (pc := 7) (index := 15) hx hb hE.2.1 hI.2.2.2.1 hown (hts (.fieldLink RJ0 15 "java/lang/String" "coder" "B") (by decide +kernel)) (fun _ h => h) dJ0_isLatin1_aae02_7 ?_
  refine lv_if_ne (pc := 10) (tgt := 17) hx hb dJ0_isLatin1_aae02_10 (by decide) (fun h => absurd rfl h) (fun _ => ?_)
  refine lv_iconst (pc := 13) (v := 1) hx hb dJ0_isLatin1_aae02_13 (by decide) ?_
  refine lv_goto (pc := 14) (tgt := 18) hx hb dJ0_isLatin1_aae02_14 (by decide) ?_
  exact z_zret (pc := 18) C0 hI (Or.inr rfl) dJ0_isLatin1_aae02_18
set_option maxHeartbeats 4000000 in
theorem kJ0_coder (l : Launch) (D : va_G) (ad : Nat → Nat) (cy : Nat → ClassId) (w : va_W) : zCt l yJ0_coder_7d493 wsJ0_coder_7d493 ({ frames := 0, cells := 0, slots := 0, locals := 0 } : Room) D ad cy [.ref (ad 102)] w (some (.int 0)) w := by
  refine zCt.of (cc := cJ0_coder_7d493) (maxL := 1) (ret := (some .byte)) (own := RJ0) (by decide) rfl rfl ?_
  intro p e s m below meth c A C0 hI
  obtain ⟨hx, hb, hml, hown, hts, hr, hlk⟩ := id C0
  refine z_entry (Nat.le_of_ble_eq_true rfl) (fun ls hl => ?_)
  have hl : lv_has ls 1 [(0, .ref (ad 102))] := hl
  have hE := (hI.2.2.2.2.2.2.2.2.2.1).1 0 (by decide)
  refine va_gets (pc := 0) (index := 38) hx hb hI.2.2.2.2.2.2.2.2.2.2.1 hI.2.2.2.1 hown (hts (.fieldLink RJ0 38 "java/lang/String" "COMPACT_STRINGS" "Z") (by decide +kernel)) (fun _ h => h) dJ0_coder_7d493_0 ?_
  refine lv_if_eq (pc := 3) (tgt := 13) hx hb dJ0_coder_7d493_3 (by decide) (fun h => absurd h (by decide)) (fun _ => ?_)
  refine lv_aload_n (pc := 6) hx hb dJ0_coder_7d493_6 rfl (lv_at hl 0 rfl) ?_
  refine vk_getf (pc := 7) (index := 15) hx hb hE.2.1 hI.2.2.2.1 hown (hts (.fieldLink RJ0 15 "java/lang/String" "coder" "B") (by decide +kernel)) (fun _ h => h) dJ0_coder_7d493_7 ?_
  refine lv_goto (pc := 10) (tgt := 14) hx hb dJ0_coder_7d493_10 (by decide) ?_
  exact z_nret (pc := 14) C0 hI rfl dJ0_coder_7d493_14
set_option maxHeartbeats 4000000 in
theorem kJ0_length (l : Launch) (D : va_G) (ad : Nat → Nat) (cy : Nat → ClassId) (w : va_W) : zCt l yJ0_length_8abf5 wsJ0_length_8abf5 ({ frames := 1, cells := 0, slots := 0, locals := 20 } : Room) D ad cy [.ref (ad 102)] w (some (.int 42)) w := by
  refine zCt.of (cc := cJ0_length_8abf5) (maxL := 1) (ret := (some .int)) (own := RJ0) (by decide) rfl rfl ?_
  intro p e s m below meth c A C0 hI
  obtain ⟨hx, hb, hml, hown, hts, hr, hlk⟩ := id C0
  refine z_entry (Nat.le_of_ble_eq_true rfl) (fun ls hl => ?_)
  have hl : lv_has ls 1 [(0, .ref (ad 102))] := hl
  have hE := (hI.2.2.2.2.2.2.2.2.2.1).1 0 (by decide)
  refine lv_aload_n (pc := 0) hx hb dJ0_length_8abf5_0 rfl (lv_at hl 0 rfl) ?_
  refine vk_getf (pc := 1) (index := 9) hx hb hE.2.2.1 hI.2.2.2.1 hown (hts (.fieldLink RJ0 9 "java/lang/String" "value" "[B") (by decide +kernel)) (fun _ h => h) dJ0_length_8abf5_1 ?_
  refine va_tlen (pc := 4) hx hb hE.2.2.2 hI.2.2.2.1 (v := 42) (by decide) dJ0_length_8abf5_4 ?_
  refine lv_aload_n (pc := 5) hx hb dJ0_length_8abf5_5 rfl (lv_at hl 0 rfl) ?_
  refine zcallVstr (pc := 6) (As := []) (rest := [.int 42]) ⟨hx, hb, hml, hown, hts⟩ (kJ0_coder l D ad cy w) (cwV 0 hts gJ0_length_8abf5_J0_coder_7d493 rfl rfl rfl (by decide +kernel) ⟨Nat.le_of_ble_eq_true rfl, Nat.le_of_ble_eq_true rfl⟩) hI rfl hl.1 rfl (Nat.le_of_ble_eq_true rfl) dJ0_length_8abf5_6 (Nat.zero_le _) (Nat.zero_le _) (fun H locs hI => ?_)
  refine lv_ishr (pc := 9) hx hb dJ0_length_8abf5_9 ?_
  refine W.eq (g2 := F0 m 10 ls [.int 42]) (by rw [show ((42 : Int32) >>> ((0 : Int32) &&& 31)) = 42 by decide]) ?_
  exact z_iret (pc := 10) C0 hI dJ0_length_8abf5_10
set_option maxHeartbeats 4000000 in
theorem kJ0_charAt (l : Launch) (D : va_G) (ad : Nat → Nat) (cy : Nat → ClassId) (w : va_W) {i r : Int32} (hf : zchar i = some r) : zCt l yJ0_charAt_5068e wsJ0_charAt_5068e ({ frames := 3, cells := 0, slots := 0, locals := 64 } : Room) D ad cy [.ref (ad 102), .int i] w (some (.int r)) w := by
  refine zCt.of (cc := cJ0_charAt_5068e) (maxL := 2) (ret := (some .char)) (own := RJ0) (by decide) rfl rfl ?_
  intro p e s m below meth c A C0 hI
  obtain ⟨hx, hb, hml, hown, hts, hr, hlk⟩ := id C0
  refine z_entry (Nat.le_of_ble_eq_true rfl) (fun ls hl => ?_)
  have hl : lv_has ls 2 [(0, .ref (ad 102)), (1, .int i)] := hl
  have hE := (hI.2.2.2.2.2.2.2.2.2.1).1 0 (by decide)
  refine lv_aload_n (pc := 0) hx hb dJ0_charAt_5068e_0 rfl (lv_at hl 0 rfl) ?_
  refine zcallVstr (pc := 1) (As := []) (rest := []) ⟨hx, hb, hml, hown, hts⟩ (kJ0_isLatin1 l D ad cy w) (cwV 0 hts gJ0_charAt_5068e_J0_isLatin1_aae02 rfl rfl rfl (by decide +kernel) ⟨Nat.le_of_ble_eq_true rfl, Nat.le_of_ble_eq_true rfl⟩) hI rfl hl.1 rfl (Nat.le_of_ble_eq_true rfl) dJ0_charAt_5068e_1 (Nat.zero_le _) (Nat.zero_le _) (fun H locs hI => ?_)
  refine lv_if_eq (pc := 4) (tgt := 16) hx hb dJ0_charAt_5068e_4 (by decide) (fun h => absurd h (by decide)) (fun _ => ?_)
  refine lv_aload_n (pc := 7) hx hb dJ0_charAt_5068e_7 rfl (lv_at hl 0 rfl) ?_
  refine vk_getf (pc := 8) (index := 9) hx hb hE.2.2.1 hI.2.2.2.1 hown (hts (.fieldLink RJ0 9 "java/lang/String" "value" "[B") (by decide +kernel)) (fun _ h => h) dJ0_charAt_5068e_8 ?_
  refine lv_iload_n (pc := 11) hx hb dJ0_charAt_5068e_11 rfl (lv_at hl 1 rfl) ?_
  refine zcallSWi (pc := 12) (As := [.ref (ad 103), .int i]) (rest := []) ⟨hx, hb, hml, hown, hts⟩ (kJ1_charAt l D ad cy w hf) (va_cwS 2 hts gJ0_charAt_5068e_J1_charAt_3b067 rfl rfl rfl (by decide +kernel) ⟨Nat.le_of_ble_eq_true rfl, Nat.le_of_ble_eq_true rfl⟩) hI rfl hl.1 rfl (Nat.le_of_ble_eq_true rfl) dJ0_charAt_5068e_12 (Nat.zero_le _) (Nat.zero_le _) (fun H locs hI => ?_)
  refine z_nret (pc := 15) C0 hI ?_ dJ0_charAt_5068e_15
  unfold zchar at hf
  by_cases hi : 0 ≤ i.toInt ∧ i.toInt < 42
  · rw [if_pos hi] at hf
    cases hf
    have hlt : i.toNatClampNeg < 42 := Nat.not_le.mp fun q => zvp (n := 42) hi (Or.inr q)
    rw [← zTextB_char _ hlt]
    exact pk_nc _
  · rw [if_neg hi] at hf; cases hf
