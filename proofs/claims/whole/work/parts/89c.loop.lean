/-! the law's loop -/
theorem and63 (x : Int32) : ∃ k : Nat, k < 64 ∧ x &&& 63 = nI k := by
  refine ⟨(x &&& 63).toBitVec.toNat, ?_, ?_⟩
  · rw [Int32.toBitVec_and, BitVec.toNat_and]
    exact Nat.lt_of_le_of_lt Nat.and_le_right (by decide)
  · apply Int32.toBitVec_inj.mp
    show _ = BitVec.ofNat 32 _
    rw [BitVec.ofNat_toNat, BitVec.setWidth_eq]
theorem lw_cmp {L i : Nat} (hL : L ≤ 2560) (hi : i ≤ 3000) : nI L - 5 < nI i ↔ L < i + 5 := by
  rcases Nat.lt_or_ge L 5 with h | h
  · rw [Int32.lt_iff_toInt_lt, nI_toInt (by omega)]
    have hz : (nI L - 5).toInt < 0 := (by decide : ∀ L, L < 5 → (nI L - 5).toInt < 0) L h
    omega
  · rw [show (5 : Int32) = nI 5 from rfl, pk_sub h, nI_ltI (by omega) (by omega)]
    omega
set_option maxHeartbeats 4000000 in
set_option maxRecDepth 100000 in
theorem lw_loop {p : Program} {l : Launch} {e : Env} {s : State} {m : MethodId} {below : List Frame} {meth : Method} {c : Code} {D : va_G} {ad ad' : Nat → Nat} {cy : Nat → ClassId} {b L cells slots : Nat} {xs : Nat → Int32} (hL : L ≤ 2560) (C0 : lw_At p s m meth c b L xs) (hadj : ad' 100 = ad 100 ∧ ad' 101 = ad 101 ∧ ad' 102 = ad 102 ∧ ad' 103 = ad 103) (hcs : cells ≤ 600000) (hss : slots ≤ 7302250) :
    ∀ (n i : Nat) (u : CX) (v : MX) (H : Heap) (locs : List Loc) (ls : Array Slot), L + 1 ≤ i + n → i ≤ L + 5 → Rel u v → zIn D ad cy (WX ad cy u ++ WM ad' cy v) (fun q : Nat => s.heap.size ≤ q) s H locs → lv_has ls 4 [(0, .ref b), (1, .ref (ad 0)), (2, .ref (ad' 0)), (3, .int (nI i))] → W p l e room_1 s m #[Value.ref b] below meth c H locs cells slots (lw_Z below #[Value.ref b] s) (F0 m 18 ls []) := by
  obtain ⟨hx, hb, hr, hml, hown, hts, hX, hbl, hlocks, hgv⟩ := id C0
  have hb : c.code = cL_law := hb
  have S : CallFix p m c cL_law 4 s #[Value.ref b] lw_tbl RL := ⟨hx, hb, hml, hown, hts⟩
  have hbA : ¬ (fun q : Nat => s.heap.size ≤ q) b := Nat.not_le.mpr hbl
  intro n
  induction n with
  | zero =>
    intro i u v H locs ls hn hi hR hI hl
    refine lv_iload_n (pc := 18) hx hb dL_law_18 rfl (lv_at hl 3 rfl) ?_
    refine lv_aload_n (pc := 19) hx hb dL_law_19 rfl (lv_at hl 0 rfl) ?_
    refine va_slen (pc := 20) hx hb hX hbl hbA hI.2.2.2.1 dL_law_20 ?_
    refine lv_iconst (pc := 21) (v := 5) hx hb dL_law_21 (by decide) ?_
    refine lv_isub (pc := 22) hx hb dL_law_22 ?_
    have hcmp := lw_cmp (L := L) (i := i) hL (by omega)
    refine lv_icmp_gt (pc := 23) (tgt := 1154) hx hb dL_law_23 (by decide) (fun _ => ?_) (fun hq => ?_)
    · refine va_forget hI.2.2.2.1.2.2 ?_
      refine lv_iconst (pc := 1154) (v := 1) hx hb dL_law_1154 (by decide) ?_
      refine W.widen (k := 600000) (n := 7302250) hcs hss ?_
      exact lw_ret hx hb hr hlocks dL_law_1155
    · exact absurd (hcmp.mpr (by omega)) hq
  | succ n ih =>
    intro i u v H locs ls hn hi hR hI hl
    refine lv_iload_n (pc := 18) hx hb dL_law_18 rfl (lv_at hl 3 rfl) ?_
    refine lv_aload_n (pc := 19) hx hb dL_law_19 rfl (lv_at hl 0 rfl) ?_
    refine va_slen (pc := 20) hx hb hX hbl hbA hI.2.2.2.1 dL_law_20 ?_
    refine lv_iconst (pc := 21) (v := 5) hx hb dL_law_21 (by decide) ?_
    refine lv_isub (pc := 22) hx hb dL_law_22 ?_
    have hcmp := lw_cmp (L := L) (i := i) hL (by omega)
    refine lv_icmp_gt (pc := 23) (tgt := 1154) hx hb dL_law_23 (by decide) (fun _ => ?_) (fun hq => ?_)
    · refine va_forget hI.2.2.2.1.2.2 ?_
      refine lv_iconst (pc := 1154) (v := 1) hx hb dL_law_1154 (by decide) ?_
      refine W.widen (k := 600000) (n := 7302250) hcs hss ?_
      exact lw_ret hx hb hr hlocks dL_law_1155
    · have hlt : i + 5 ≤ L := by
        rcases Nat.lt_or_ge L (i + 5) with z | z
        · exact absurd (hcmp.mpr z) hq
        · exact z
      have B : lwB s (fun q : Nat => s.heap.size ≤ q) b L xs ad ad' i cells slots := ⟨hX, hbl, hbA, hadj, hlt, hL, hcs, hss⟩
      have hN : lwN p l e s m below meth c (fun q : Nat => s.heap.size ≤ q) (lw_Z below #[Value.ref b] s) D ad ad' cy b i cells slots := by
        intro u v H locs ls hR hI hl
        refine lv_iinc (pc := 1148) (v := nI i + 5) (lv' := [(3, .int (nI i + 5)), (0, .ref b), (1, .ref (ad 0)), (2, .ref (ad' 0))]) hx hb dL_law_1148 hl (k := 3) rfl rfl (by decide) rfl (fun ls hl => ?_)
        refine lv_goto (pc := 1151) (tgt := 18) hx hb dL_law_1151 (by decide) ?_
        have e5 : nI i + 5 = nI (i + 5) := nI_add i 5
        rw [e5] at hl
        exact ih (i + 5) u v H locs ls (by omega) (by omega) hR hI (lv_sub hl [1, 2, 3, 0] rfl)
      refine lv_aload_n (pc := 26) hx hb dL_law_26 rfl (lv_at hl 0 rfl) ?_
      refine lv_iload_n (pc := 27) hx hb dL_law_27 rfl (lv_at hl 3 rfl) ?_
      refine va_sld (pc := 28) hx hb hX hbl hbA hI.2.2.2.1 (vp_in_nI (by omega) (by omega)) dL_law_28 ?_
      refine lv_bipush (pc := 29) (v := 63) hx hb dL_law_29 (by decide) ?_
      refine lv_iand (pc := 31) hx hb dL_law_31 ?_
      obtain ⟨k, hk, ek⟩ := and63 (xs (nI i).toNatClampNeg)
      rw [ek]
      rcases Nat.lt_or_ge k 33 with h33 | h33
      · match k, h33 with
        | 0, _ => exact lv_tableIn (pc := 32) (off := 148) (tgt := 180) hx hb dL_law_32 (by decide) (by decide) rfl (by decide) (lw_case0 S B hN hR hI hl)
        | 1, _ => exact lv_tableIn (pc := 32) (off := 201) (tgt := 233) hx hb dL_law_32 (by decide) (by decide) rfl (by decide) (lw_case1 S B hN hR hI hl)
        | 2, _ => exact lv_tableIn (pc := 32) (off := 224) (tgt := 256) hx hb dL_law_32 (by decide) (by decide) rfl (by decide) (lw_case2 S B hN hR hI hl)
        | 3, _ => exact lv_tableIn (pc := 32) (off := 237) (tgt := 269) hx hb dL_law_32 (by decide) (by decide) rfl (by decide) (lw_case3 S B hN hR hI hl)
        | 4, _ => exact lv_tableIn (pc := 32) (off := 250) (tgt := 282) hx hb dL_law_32 (by decide) (by decide) rfl (by decide) (lw_case4 S B hN hR hI hl)
        | 5, _ => exact lv_tableIn (pc := 32) (off := 283) (tgt := 315) hx hb dL_law_32 (by decide) (by decide) rfl (by decide) (lw_case5 S B hN hR hI hl)
        | 6, _ => exact lv_tableIn (pc := 32) (off := 306) (tgt := 338) hx hb dL_law_32 (by decide) (by decide) rfl (by decide) (lw_case6 S B hN hR hI hl)
        | 7, _ => exact lv_tableIn (pc := 32) (off := 349) (tgt := 381) hx hb dL_law_32 (by decide) (by decide) rfl (by decide) (lw_case7 S B hN hR hI hl)
        | 8, _ => exact lv_tableIn (pc := 32) (off := 372) (tgt := 404) hx hb dL_law_32 (by decide) (by decide) rfl (by decide) (lw_case8 S B hN hR hI hl)
        | 9, _ => exact lv_tableIn (pc := 32) (off := 395) (tgt := 427) hx hb dL_law_32 (by decide) (by decide) rfl (by decide) (lw_case9 S B hN hR hI hl)
        | 10, _ => exact lv_tableIn (pc := 32) (off := 444) (tgt := 476) hx hb dL_law_32 (by decide) (by decide) rfl (by decide) (lw_case10 S B hN hR hI hl)
        | 11, _ => exact lv_tableIn (pc := 32) (off := 487) (tgt := 519) hx hb dL_law_32 (by decide) (by decide) rfl (by decide) (lw_case11 S B hN hR hI hl)
        | 12, _ => exact lv_tableIn (pc := 32) (off := 510) (tgt := 542) hx hb dL_law_32 (by decide) (by decide) rfl (by decide) (lw_case12 S B hN hR hI hl)
        | 13, _ => exact lv_tableIn (pc := 32) (off := 523) (tgt := 555) hx hb dL_law_32 (by decide) (by decide) rfl (by decide) (lw_case13 S B hN hR hI hl)
        | 14, _ => exact lv_tableIn (pc := 32) (off := 567) (tgt := 599) hx hb dL_law_32 (by decide) (by decide) rfl (by decide) (lw_case14 S B hN hR hI hl)
        | 15, _ => exact lv_tableIn (pc := 32) (off := 611) (tgt := 643) hx hb dL_law_32 (by decide) (by decide) rfl (by decide) (lw_case15 S B hN hR hI hl)
        | 16, _ => exact lv_tableIn (pc := 32) (off := 634) (tgt := 666) hx hb dL_law_32 (by decide) (by decide) rfl (by decide) (lw_case16 S B hN hR hI hl)
        | 17, _ => exact lv_tableIn (pc := 32) (off := 657) (tgt := 689) hx hb dL_law_32 (by decide) (by decide) rfl (by decide) (lw_case17 S B hN hR hI hl)
        | 18, _ => exact lv_tableIn (pc := 32) (off := 690) (tgt := 722) hx hb dL_law_32 (by decide) (by decide) rfl (by decide) (lw_case18 S B hN hR hI hl)
        | 19, _ => exact lv_tableIn (pc := 32) (off := 723) (tgt := 755) hx hb dL_law_32 (by decide) (by decide) rfl (by decide) (lw_case19 S B hN hR hI hl)
        | 20, _ => exact lv_tableIn (pc := 32) (off := 736) (tgt := 768) hx hb dL_law_32 (by decide) (by decide) rfl (by decide) (lw_case20 S B hN hR hI hl)
        | 21, _ => exact lv_tableIn (pc := 32) (off := 759) (tgt := 791) hx hb dL_law_32 (by decide) (by decide) rfl (by decide) (lw_case21 S B hN hR hI hl)
        | 22, _ => exact lv_tableIn (pc := 32) (off := 803) (tgt := 835) hx hb dL_law_32 (by decide) (by decide) rfl (by decide) (lw_case22 S B hN hR hI hl)
        | 23, _ => exact lv_tableIn (pc := 32) (off := 826) (tgt := 858) hx hb dL_law_32 (by decide) (by decide) rfl (by decide) (lw_case23 S B hN hR hI hl)
        | 24, _ => exact lv_tableIn (pc := 32) (off := 839) (tgt := 871) hx hb dL_law_32 (by decide) (by decide) rfl (by decide) (lw_case24 S B hN hR hI hl)
        | 25, _ => exact lv_tableIn (pc := 32) (off := 852) (tgt := 884) hx hb dL_law_32 (by decide) (by decide) rfl (by decide) (lw_case25 S B hN hR hI hl)
        | 26, _ => exact lv_tableIn (pc := 32) (off := 875) (tgt := 907) hx hb dL_law_32 (by decide) (by decide) rfl (by decide) (lw_case26 S B hN hR hI hl)
        | 27, _ => exact lv_tableIn (pc := 32) (off := 898) (tgt := 930) hx hb dL_law_32 (by decide) (by decide) rfl (by decide) (lw_case27 S B hN hR hI hl)
        | 28, _ => exact lv_tableIn (pc := 32) (off := 941) (tgt := 973) hx hb dL_law_32 (by decide) (by decide) rfl (by decide) (lw_case28 S B hN hR hI hl)
        | 29, _ => exact lv_tableIn (pc := 32) (off := 984) (tgt := 1016) hx hb dL_law_32 (by decide) (by decide) rfl (by decide) (lw_case29 S B hN hR hI hl)
        | 30, _ => exact lv_tableIn (pc := 32) (off := 1027) (tgt := 1059) hx hb dL_law_32 (by decide) (by decide) rfl (by decide) (lw_case30 S B hN hR hI hl)
        | 31, _ => exact lv_tableIn (pc := 32) (off := 1080) (tgt := 1112) hx hb dL_law_32 (by decide) (by decide) rfl (by decide) (lw_case31 S B hN hR hI hl)
        | 32, _ => exact lv_tableIn (pc := 32) (off := 1093) (tgt := 1125) hx hb dL_law_32 (by decide) (by decide) rfl (by decide) (lw_case32 S B hN hR hI hl)
        | k + 33, h => exact absurd h (by omega)
      · refine lv_tableOut (pc := 32) (tgt := 1148) hx hb dL_law_32 (Or.inr (by rw [nI_toInt (by omega)]; omega)) (by decide) ?_
        exact hN u v H locs ls hR hI hl
