def ms_gd (v : MX) (h : (Nat → Int32) × Int64 × Int64 × Int64) (g : Int32 × (Nat → Int32)) : MX := (v.1, v.2.1, v.2.2.1, v.2.2.2.1, v.2.2.2.2.1, h, g, v.2.2.2.2.2.2.2)
theorem mgood {P : Nat → Nat} {n : Nat} {T : Nat → Nat → Nat} {W S F : Nat → Nat} {u : CX} {v : MX} (h : RelG P n T W S F u v) {k : Nat} (hk : 20000 ≤ k) : ∃ v', fX10_layGood k v = some v' ∧ RelG P n T W S F u v' ∧ ∀ law, law < 14641 → mg_good v' law = bI (fitB P (T n) W S F (P 17) law) := by
  have h0 := h
  obtain ⟨hP, hH, hE, h4, h5, h6, hT, hl, hM, hx, hm, hEv, hG, hG2, hS⟩ := h
  have hK := hH.2 n (Nat.le_refl _)
  have hsl := hP.2.2.2.2.2.2.1
  obtain ⟨w1, w2, w3, w4, w5, w6⟩ := wh_b hP
  have q3 := mul_b hsl (Nat.le_refl (wh P))
  unfold fX10_layGood
  by_cases c : mg_old v = 0
  · rw [if_pos c]
    refine ⟨v, rfl, h0, ?_⟩
    rcases hG2 with e | ⟨_, e⟩
    · rw [c] at e; exact absurd e (by decide)
    · exact e
  · rw [if_neg c]
    have key : ∃ b, ziter (bX10_layGood_10 k) k ((0 : Int32), v) = some b ∧ ∃ lw g, b = ms_gd v lw (mg_old v, g) ∧ ∀ j, j < 14641 → g j = bI (fitB P (T n) W S F (P 17) j) := by
      refine ziter_inv (fun i a => ∃ lw g, a = (nI i, ms_gd v lw (mg_old v, g)) ∧ ∀ j, j < i → g j = bI (fitB P (T n) W S F (P 17) j)) _ 14641 ?_ ?_ 14641 0 k _ (by omega) ⟨_, mg_good v, rfl, fun j hj => by omega⟩ (by omega)
      · rintro i a hi ⟨lw, g, rfl, hg⟩
        left
        obtain ⟨lw', e1, hL⟩ := mlay (v := ms_gd v lw (mg_old v, g)) hP hM hi (k := k) (by omega)
        have e2 : ms_lw (ms_gd v lw (mg_old v, g)) lw' = ms_gd v lw' (mg_old v, g) := rfl
        rw [e2] at e1 hL
        have hfb := far_b hP hK (law := i)
        have upb : ∀ (b : Bool), b = fitB P (T n) W S F (P 17) i → ∀ j, j < i + 1 → upd g i (bI b) j = bI (fitB P (T n) W S F (P 17) j) := by
          intro b hb j hj
          by_cases cj : j = i
          · subst cj
            rw [upd_s, hb]
          · rw [upd_n cj]
            exact hg j (by omega)
        unfold bX10_layGood_10
        dsimp only
        rw [if_neg (by rw [show (14641 : Int32) = nI 14641 from rfl, nI_leI (by omega) (by omega)]; omega), e1, zbind_s, mseen (v := ms_gd v lw' (mg_old v, g)) hi hE hEv hL (by omega), bI_bind, mfar (v := ms_gd v lw' (mg_old v, g)) hP hK hM hm hi hL (by omega), mwhole hL (by omega)]
        rw [show (17 : Int32) = nI 17 from rfl, zix_n hi (by omega)]
        simp only [zbind_s]
        rw [zget_n (by omega) (by omega), show mg_holds (ms_gd v lw' (mg_old v, g)) 17 = nI (P 17) from hM 17 (by omega), nI_l (by omega), lN_mul]
        rw [show zix 14641 (nI i) = fun (k : Nat → Option ((Int32 × MX) ⊕ MX)) => k i from funext fun k => zix_n hi (by omega)]
        simp only [zb_e, nI_1]
        have fin : ∀ (b : Bool), b = fitB P (T n) W S F (P 17) i → ∀ x, vp_nar .boolean x = bI b → ∃ a', some (Sum.inl (nI (i + 1), ms_good (ms_gd v lw' (mg_old v, g)) (upd (mg_good (ms_gd v lw' (mg_old v, g))) i (vp_nar .boolean x)))) = (some (Sum.inl a') : Option ((Int32 × MX) ⊕ MX)) ∧ ∃ lw g, a' = (nI (i + 1), ms_gd v lw (mg_old v, g)) ∧ ∀ j, j < i + 1 → g j = bI (fitB P (T n) W S F (P 17) j) := by
          intro b hb x hx
          rw [hx]
          exact ⟨_, rfl, lw', upd g i (bI b), rfl, upb b hb⟩
        have hfi := fit_iff (P := P) (K := T n) (W := W) (S := S) (F := F) (law := i) (sl := P 17)
        cases ce : evAll W S F i
        · rw [if_neg (by decide)]
          refine fin false ?_ 0 rfl
          cases cf : fitB P (T n) W S F (P 17) i
          · rfl
          · rw [ce] at hfi
            exact absurd (hfi.mp cf).1 (by decide)
        · rw [if_pos rfl]
          by_cases cf : far P (T n) i ≤ P 17 * wh P
          · rw [if_neg (by rw [pk_lLT (by omega) (by omega)]; omega)]
            exact fin true (hfi.mpr ⟨ce, cf⟩).symm 1 rfl
          · rw [if_pos (by rw [pk_lLT (by omega) (by omega)]; omega)]
            refine fin false ?_ 0 rfl
            cases cg : fitB P (T n) W S F (P 17) i
            · rfl
            · exact absurd (hfi.mp cg).2 cf
      · rintro a ⟨lw, g, rfl, hg⟩
        exact ⟨_, rfl, lw, g, rfl, hg⟩
    obtain ⟨b, e, lw, g, rfl, hg⟩ := key
    rw [e, zbind_s, zb_e]
    exact ⟨_, rfl, ⟨hP, hH, hE, h4, h5, h6, hT, hl, hM, hx, hm, hEv, hG, Or.inr ⟨rfl, hg⟩, hS⟩, hg⟩
theorem s_fits {u : CX} {v : MX} (h : Rel u v) {k : Nat} (hk : 20000 ≤ k) (a : Int32) : ∃ r v', fX9_fits k a u = some r ∧ fX10_fits k a v = some (r, v') ∧ Rel u v' := by
  have h0 := h
  obtain ⟨P, n, T, W, S, F, h⟩ := h
  obtain ⟨v', e1, hR, hg⟩ := mgood h hk
  obtain ⟨hP, hH, hE, h4, h5, h6, hT, hl, hM, hx, hm, hEv, hG, hG2, hS⟩ := h
  unfold fX9_fits fX10_fits
  rw [xlIf, mlIf]
  split
  · rename_i hc
    obtain ⟨l, hl', rfl⟩ := zn_of (a := a) (n := 14641) (by omega) (by omega)
    rw [show (5 : Int32) = nI 5 from rfl, zget_n (by omega) (by omega), hT.2.1 5 (by omega), xlawFits hP (hH.2 n (Nat.le_refl _)) hE hT hx hEv hl' hP.2.2.2.2.2.2.1 (by omega), zbind_s, e1, zbind_s, zget_n hl' (by omega), hg l hl', bI_if]
    rw [bI_if]
    split
    · exact ⟨_, _, rfl, rfl, _, _, _, _, _, _, hR⟩
    · exact ⟨_, _, rfl, rfl, _, _, _, _, _, _, hR⟩
  · exact ⟨_, _, rfl, rfl, h0⟩
theorem s_near {u : CX} {v : MX} (h : Rel u v) {k : Nat} (hk : 200 ≤ k) (a : Int32) : ∃ r v', fX9_near k a u = some r ∧ fX10_near k a v = some (r, v') ∧ Rel u v' := by
  have h0 := h
  obtain ⟨P, n, T, W, S, F, h⟩ := h
  obtain ⟨hP, hH, hE, h4, h5, h6, hT, hl, hM, hx, hm, hEv, hG, hG2, hS⟩ := h
  unfold fX9_near fX10_near
  rw [xlIf, mlIf]
  split
  · rename_i hc
    obtain ⟨l, hl', rfl⟩ := zn_of (a := a) (n := 14641) (by omega) (by omega)
    have hK := hH.2 n (Nat.le_refl _)
    obtain ⟨w1, w2, w3, w4, w5, w6⟩ := wh_b hP
    have hfb := far_b hP hK (law := l)
    obtain ⟨lw, e1, hL⟩ := mlay hP hM hl' (k := k) (by omega)
    have hz : ¬ lN (wh P) = 0 := by rw [show (0 : Int64) = lN 0 from rfl, pk_lEQ (by omega) (by omega)]; omega
    rw [e1, zbind_s, mfar (v := ms_lw v lw) hP hK hM hm hl' hL (by omega), zbind_s, mwhole hL (by omega), zbind_s, zbind_s, zdl_n hz, zb_e, mseen (v := ms_lw v lw) hl' hE hEv hL (by omega), bI_bind, lN_add, show (1 : Int64) = lN 1 from rfl, lN_sub (by omega), pk_lDiv (by omega) (by omega) (by omega), lN_i]
    have hR : Rel u (ms_lw v lw) := ⟨P, n, T, W, S, F, hP, hH, hE, h4, h5, h6, hT, hl, hM, hx, hm, hEv, hG, hG2, hS⟩
    have hcd : ∀ sl, (far P (T n) l + wh P - 1) / wh P ≤ sl ↔ far P (T n) l ≤ sl * wh P := by
      intro sl
      rw [← Nat.lt_succ_iff, Nat.div_lt_iff_lt_mul w5, Nat.succ_mul]
      omega
    have hcb : (far P (T n) l + wh P - 1) / wh P < 2 ^ 62 := Nat.lt_of_le_of_lt (Nat.div_le_self _ _) (by omega)
    generalize (far P (T n) l + wh P - 1) / wh P = C at hcd hcb
    have st : ∀ j, j ≤ 99 → bX9_near_11 k (nI l) u (nI j) = if evAll W S F l = true ∧ C ≤ j then some (.inr (.inl (nI j))) else some (.inl (nI (j + 1))) := by
      intro j hj
      unfold bX9_near_11
      rw [if_neg (by rw [show (99 : Int32) = nI 99 from rfl, nI_ltI (by omega) (by omega)]; omega), xlawFits hP hK hE hT hx hEv hl' hj (by omega), bI_bind, nI_1]
      have e : fitB P (T n) W S F j l = true ↔ evAll W S F l = true ∧ C ≤ j := by rw [fit_iff, hcd]
      by_cases c : evAll W S F l = true ∧ C ≤ j
      · rw [if_pos c, if_pos (e.mpr c)]
      · rw [if_neg c, if_neg (fun z => c (e.mp z))]
    have ex : bX9_near_11 k (nI l) u (nI 100) = some (.inr (.inr ())) := rfl
    generalize bX9_near_11 k (nI l) u = f at st ex
    rw [show (0 : Int32) = nI 0 from rfl]
    by_cases cc : evAll W S F l = true ∧ C ≤ 99
    · rw [ziter_st (fun i => nI i) (.inl (nI C)) C 0 k (fun j _ hj => by rw [st j (by omega), if_neg (by omega)]) (by rw [Nat.zero_add, st C cc.2, if_pos ⟨cc.1, Nat.le_refl _⟩]) (by omega), zbind_s, z_e1, if_pos cc.1, if_neg (by rw [show (99 : Int64) = lN 99 from rfl, pk_lLT (by omega) (by omega)]; omega)]
      exact ⟨_, _, rfl, rfl, hR⟩
    · rw [ziter_st (fun i => nI i) (.inr ()) 100 0 k (fun j _ hj => by rw [st j (by omega), if_neg (fun z => cc ⟨z.1, by omega⟩)]) ex (by omega), zbind_s, z_e2]
      by_cases ce : evAll W S F l = true
      · rw [if_pos ce, if_pos (by rw [show (99 : Int64) = lN 99 from rfl, pk_lLT (by omega) (by omega)]; have : ¬ C ≤ 99 := fun z => cc ⟨ce, z⟩; omega)]
        exact ⟨_, _, rfl, rfl, hR⟩
      · rw [if_neg ce]
        exact ⟨_, _, rfl, rfl, hR⟩
  · exact ⟨_, _, rfl, rfl, h0⟩
