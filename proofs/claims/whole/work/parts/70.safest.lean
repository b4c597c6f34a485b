/-! safest -/
def mnX (P : Nat → Nat) (L : List Nat) (s : Nat) : Nat → Nat
  | 0 => 800
  | m + 1 => min (mnX P L s m) (xS P (L.getD m 0) s)
theorem mnX_take {P : Nat → Nat} {L : List Nat} {s : Nat} : ∀ m, m ≤ L.length → (L.take m).foldl (fun m law => min m (xS P law s)) 800 = mnX P L s m := by
  intro m
  induction m with
  | zero => intro _; rfl
  | succ m ih =>
    intro h
    have e : L.take (m + 1) = L.take m ++ [L.getD m 0] := by
      rw [List.take_succ, List.getElem?_eq_getElem (by omega), List.getD_eq_getElem?_getD, List.getElem?_eq_getElem (by omega)]
      rfl
    rw [e, List.foldl_append, ih (by omega)]
    rfl
theorem minX_e {P : Nat → Nat} {L : List Nat} {s : Nat} : minX P L s = mnX P L s L.length := by
  rw [← mnX_take L.length (Nat.le_refl _), List.take_length]
  rfl
theorem mnX_le {P : Nat → Nat} (hP : rP P) {L : List Nat} {s : Nat} : ∀ m, mnX P L s (m + 1) ≤ sc P := fun m => Nat.le_trans (Nat.min_le_right _ _) (xS_le hP _ s)
theorem mnX_8 {P : Nat → Nat} {L : List Nat} {s : Nat} : ∀ m, mnX P L s m ≤ 800 := by
  intro m
  cases m with
  | zero => exact Nat.le_refl _
  | succ m =>
    induction m with
    | zero => exact Nat.min_le_left _ _
    | succ m ih => exact Nat.le_trans (Nat.min_le_left _ _) ih
theorem xsafe {P : Nat → Nat} {u : CX} (hP : rP P) (hT : xTm P u) (hl : xPl P u) {L : List Nat} (hL : xLs L u) (hlen : L.length ≤ 14641) (hb : ∀ m, m < L.length → L.getD m 0 < 14641) (h0 : 0 < L.length) {k : Nat} (hk : 20000 ≤ k) (hs : xg_safestF u = -9) : ∃ f w, fX2_safestPlates k u = some (nI (safeV P L), xs_safestF (xs_stands (xs_worst u w) f) (nI (safeV P L))) := by
  have k1 : ∃ b, ziter (bX2_safestPlates_11 k) k ((0 : Int32), u) = some b ∧ ∃ w, b = xs_worst u w ∧ ∀ s, s < 16 → w s = 800 := by
    refine ziter_inv (fun i a => ∃ w, a = (nI i, xs_worst u w) ∧ ∀ s, s < i → w s = 800) _ 16 ?_ ?_ 16 0 k _ (by omega) ⟨xg_worst u, rfl, fun s h => by omega⟩ (by omega)
    · rintro i a hi ⟨w, rfl, hw⟩
      left
      unfold bX2_safestPlates_11
      dsimp only
      rw [if_neg (by rw [show (16 : Int32) = nI 16 from rfl, nI_leI (by omega) (by omega)]; omega), zix_n hi (by omega), zb_e, nI_1]
      refine ⟨_, rfl, upd w i 800, rfl, ?_⟩
      intro s hs
      by_cases c : s = i
      · subst c
        exact upd_s
      · rw [upd_n c]
        exact hw s (by omega)
    · rintro a ⟨w, rfl, hw⟩
      exact ⟨_, rfl, w, rfl, hw⟩
  obtain ⟨b1, e1, w1, rfl, hw1⟩ := k1
  obtain ⟨bb, lo, hi, hLb, hkp, y0, y1, y2, y3, y4, y5, y6, y7, y8⟩ := hL.2.2.2 h0
  have k2 : ∃ b, ziter (bX2_safestPlates_37 k) k (nI lo, xs_worst u w1) = some b ∧ ∃ f w, b = xs_stands (xs_worst u w) f ∧ ∀ s, s < 16 → w s = nI (mnX P L s L.length) := by
    refine ziter_inv (fun i a => ∃ f w, a = (nI i, xs_stands (xs_worst u w) f) ∧ ∀ s, s < 16 → w s = nI (mnX P L s (Lf bb i).length)) _ (hi + 1) ?_ ?_ (hi + 1 - lo) lo k _ (by omega) ⟨xg_stands u, w1, rfl, by rw [y3]; exact hw1⟩ (by omega)
    · rintro i a hi2 ⟨f, w, rfl, hw⟩
      left
      have hli : i < 14641 := by omega
      have hT' : xTm P (xs_stands (xs_worst u w) f) := hT
      obtain ⟨f', e, hf'⟩ := xstandAll hP hT' hli (k := k) (by omega)
      have hsc := (xx_le hP 0).2
      unfold bX2_safestPlates_37
      dsimp only
      rw [show xg_gmost (xs_stands (xs_worst u w) f) = nI hi from y6, if_neg (by rw [nI_ltI (by omega) (by omega)]; omega), show fX2_isKept (nI i) (xs_stands (xs_worst u w) f) = some (bI (bb i)) from hkp i hli, bI_bind, e, zbind_s, nI_1]
      rcases Lf_step (b := bb) hli with ⟨s1, s2, s3, s4⟩ | ⟨s1, s2⟩
      · rw [if_pos s1]
        rw [← hLb] at s3
        have k3 : ∃ b, ziter (bX2_safestPlates_60 k (nI i)) k ((0 : Int32), xs_stands (xs_stands (xs_worst u w) f) f') = some b ∧ ∃ w', b = xs_stands (xs_worst u w') f' ∧ ∀ s, s < 16 → w' s = nI (mnX P L s ((Lf bb i).length + 1)) := by
          refine ziter_inv (fun j a => ∃ w', a = (nI j, xs_stands (xs_worst u w') f') ∧ (∀ s, s < j → w' s = nI (mnX P L s ((Lf bb i).length + 1))) ∧ ∀ s, j ≤ s → s < 16 → w' s = nI (mnX P L s (Lf bb i).length)) _ 16 ?_ ?_ 16 0 k _ (by omega) ⟨w, rfl, fun s h => by omega, fun s _ h => hw s h⟩ (by omega)
          · rintro j a hj ⟨w', rfl, ha, hb'⟩
            left
            have m8 := mnX_8 (P := P) (L := L) (s := j) (Lf bb i).length
            have xle := xS_le hP i j
            unfold bX2_safestPlates_60
            dsimp only
            rw [if_neg (by rw [show (16 : Int32) = nI 16 from rfl, nI_leI (by omega) (by omega)]; omega), zget_n hj (by omega), zget_n hj (by omega), zix_n hj (by omega), zb_e, nI_1, show xg_worst (xs_stands (xs_worst u w') f') j = nI (mnX P L j (Lf bb i).length) from hb' j (by omega) hj, show xg_stands (xs_stands (xs_worst u w') f') j = nI (xS P i j) from hf' j hj]
            have em : zminI (nI (mnX P L j (Lf bb i).length)) (nI (xS P i j)) = nI (mnX P L j ((Lf bb i).length + 1)) := by
              unfold zminI
              show _ = nI (min (mnX P L j (Lf bb i).length) (xS P (L.getD (Lf bb i).length 0) j))
              rw [s3]
              by_cases c : xS P i j < mnX P L j (Lf bb i).length
              · rw [if_pos (by rw [nI_ltI (by omega) (by omega)]; exact c), Nat.min_eq_right (by omega)]
              · rw [if_neg (by rw [nI_ltI (by omega) (by omega)]; exact c), Nat.min_eq_left (by omega)]
            rw [em]
            refine ⟨_, rfl, upd w' j (nI (mnX P L j ((Lf bb i).length + 1))), rfl, ?_, ?_⟩
            · intro s hs
              by_cases c : s = j
              · subst c
                exact upd_s
              · rw [upd_n c]
                exact ha s (by omega)
            · intro s h1 h2
              rw [upd_n (by omega)]
              exact hb' s (by omega) h2
          · rintro a ⟨w', rfl, ha, _⟩
            exact ⟨_, rfl, w', rfl, ha⟩
        obtain ⟨b, e3, w', rfl, hw'⟩ := k3
        rw [e3, zbind_s]
        exact ⟨_, rfl, f', w', rfl, by rw [s4]; exact hw'⟩
      · rw [s1, if_neg (by decide)]
        exact ⟨_, rfl, f, w, rfl, by rw [s2]; exact hw⟩
    · rintro a ⟨f, w, rfl, hw⟩
      refine ⟨xs_stands (xs_worst u w) f, ?_, f, w, rfl, by rw [← y4]; exact hw⟩
      unfold bX2_safestPlates_37
      dsimp only
      rw [show xg_gmost (xs_stands (xs_worst u w) f) = nI hi from y6, if_pos (by rw [nI_ltI (by omega) (by omega)]; omega)]
  obtain ⟨b2, e2, f, w, rfl, hw⟩ := k2
  have hl' : xPl P (xs_stands (xs_worst u w) f) := hl
  obtain ⟨L', hL'⟩ : ∃ m, L.length = m + 1 := ⟨L.length - 1, by omega⟩
  have hsv : safeV P L = amx (okS P) (fun s => hX_ P s (mnX P L s L.length)) 16 := by
    unfold safeV
    simp only [minX_e]
  unfold fX2_safestPlates
  rw [if_pos hs, e1, zbind_s, zb_e, show xg_gleast (xs_worst u w1) = nI lo from y5, e2, zbind_s, xmost_w (X := fun s => mnX P L s L.length) hl' (fun s h => ⟨hw s h, by have := mnX_8 (P := P) (L := L) (s := s) L.length; omega, by
    have := hX_n hP s (mnX_le hP (L := L) (s := s) L')
    rw [← hL'] at this
    omega⟩) (by omega), zbind_s, zb_e, ← hsv]
  exact ⟨f, w, rfl⟩
theorem mff_lw (k : Nat) (x : Int32) (v : MX) (h : (Nat → Int32) × Int64 × Int64 × Int64) : fX10_firstFrom k x (ms_lw v h) = fX10_firstFrom k x v := rfl
theorem lU_anti {P : Nat → Nat} {s x y : Nat} (h : x ≤ y) : lU P s y ≤ lU P s x := by
  unfold lU
  have := Nat.mul_le_mul_right (1000 - P 16) (hX_mono (P := P) (s := s) h)
  omega
theorem msafe {P : Nat → Nat} {v : MX} (hP : rP P) (hM : mHd P v) {L : List Nat} {k : Nat} (hk : 20000 ≤ k) (hlen : L.length ≤ 14641) (h0 : 0 < L.length) (hn : ∀ m, m < L.length → nth L m = nI (L.getD m 0) ∧ L.getD m 0 < 14641 ∧ ¬ nth L m = -4) (hf0 : fX10_firstFrom k (0 : Int32) v = some (nth L 0)) (hfn : ∀ m, m < L.length → fX10_firstFrom k (nth L m + (1 : Int32)) v = some (nth L (m + 1))) : ∃ h, ziter (bX10_safest_25 k) k ((-4 : Int32), (0 : Int64), (0 : Int32), v) = some (nI (safeV P L), ms_lw v h) := by
  have hsv : safeV P L = amx (okS P) (fun s => hX_ P s (mnX P L s L.length)) 16 := by
    unfold safeV
    simp only [minX_e]
  obtain ⟨L', hL'⟩ : ∃ m, L.length = m + 1 := ⟨L.length - 1, by omega⟩
  have hmle : ∀ s, mnX P L s L.length ≤ sc P := fun s => by rw [hL']; exact mnX_le hP L'
  have inner : ∀ (h : (Nat → Int32) × Int64 × Int64 × Int64) (a1 : Int32) (a2 : Int64) (s : Nat), s < 16 → ∃ h', ziter (bX10_safest_53 k a1 a2 (nI s)) k ((-1 : Int64), nth L 0, ms_lw v h) = some (lN (lU P s (mnX P L s L.length)), ms_lw v h') := by
    intro h a1 a2 s hs
    have key : ∃ b, ziter (bX10_safest_53 k a1 a2 (nI s)) k ((-1 : Int64), nth L 0, ms_lw v h) = some b ∧ ∃ h', b = (lN (lU P s (mnX P L s L.length)), ms_lw v h') := by
      refine ziter_inv (fun i a => ∃ h', a.2.1 = nth L i ∧ a.2.2 = ms_lw v h' ∧ ((i = 0 ∧ a.1 = -1) ∨ (0 < i ∧ a.1 = lN (lU P s (mnX P L s i))))) _ L.length ?_ ?_ L.length 0 k _ (by omega) ⟨h, rfl, rfl, Or.inl ⟨rfl, rfl⟩⟩ (by omega)
      · rintro i ⟨a, b, c⟩ hi ⟨h', h1, h2, h3⟩
        left
        dsimp only at h1 h2 h3
        subst h1 h2
        obtain ⟨n1, n2, n3⟩ := hn i hi
        have hM' : mHd P (ms_lw v h') := hM
        obtain ⟨g, e, _⟩ := mlost hP hM' n2 hs (k := k) (by omega)
        have hfn' := hfn i hi
        unfold bX10_safest_53
        dsimp only
        rw [if_neg n3]
        rw [n1] at hfn' ⊢
        rw [e, zbind_s]
        dsimp only
        rw [show fX10_firstFrom k (nI (L.getD i 0) + 1) (ms_lw (ms_lw v h') g) = some (nth L (i + 1)) from hfn', zbind_s, zbind_s]
        have hb1 := lU_b hP s (xS P (L.getD i 0) s)
        have hst : mnX P L s (i + 1) = min (mnX P L s i) (xS P (L.getD i 0) s) := rfl
        rcases h3 with ⟨rfl, rfl⟩ | ⟨h3, rfl⟩
        · rw [if_neg (by rw [Int64.le_iff_toInt_le, pk_lT (by omega), show (-1 : Int64).toInt = -1 from rfl]; omega)]
          refine ⟨_, rfl, g, rfl, rfl, Or.inr ⟨by omega, ?_⟩⟩
          rw [hst, Nat.min_eq_right (by
            have := xS_le hP (L.getD 0 0) s
            have := (xx_le hP 0).2
            show _ ≤ 800
            omega)]
        · have hb2 := lU_b hP s (mnX P L s i)
          by_cases c : mnX P L s i ≤ xS P (L.getD i 0) s
          · rw [if_pos (by rw [pk_lLE (by omega) (by omega)]; exact lU_anti c)]
            exact ⟨_, rfl, g, rfl, rfl, Or.inr ⟨by omega, by rw [hst, Nat.min_eq_left c]⟩⟩
          · rw [hst, Nat.min_eq_right (by omega)]
            have ha := lU_anti (P := P) (s := s) (show xS P (L.getD i 0) s ≤ mnX P L s i by omega)
            by_cases d : lU P s (xS P (L.getD i 0) s) ≤ lU P s (mnX P L s i)
            · rw [if_pos (by rw [pk_lLE (by omega) (by omega)]; exact d)]
              exact ⟨_, rfl, g, rfl, rfl, Or.inr ⟨by omega, by rw [show lU P s (mnX P L s i) = lU P s (xS P (L.getD i 0) s) by omega]⟩⟩
            · rw [if_neg (by rw [pk_lLE (by omega) (by omega)]; exact d)]
              exact ⟨_, rfl, g, rfl, rfl, Or.inr ⟨by omega, rfl⟩⟩
      · rintro ⟨a, b, c⟩ ⟨h', h1, h2, h3⟩
        dsimp only at h1 h2 h3
        subst h1 h2
        rcases h3 with ⟨z, _⟩ | ⟨_, rfl⟩
        · omega
        · refine ⟨(lN (lU P s (mnX P L s L.length)), ms_lw v h'), ?_, h', rfl⟩
          unfold bX10_safest_53
          dsimp only
          rw [if_pos nth_out]
    obtain ⟨b, e, h', rfl⟩ := key
    exact ⟨h', e⟩
  have key : ∃ b, ziter (bX10_safest_25 k) k ((-4 : Int32), (0 : Int64), (0 : Int32), v) = some b ∧ ∃ h', b = (nI (safeV P L), ms_lw v h') := by
    refine ziter_inv (fun i a => ∃ h', a.2.2.1 = nI i ∧ a.2.2.2 = ms_lw v h' ∧ ((i = 0 ∧ a.1 = -4) ∨ (0 < i ∧ a.1 = nI (amx (okS P) (fun s => hX_ P s (mnX P L s L.length)) i) ∧ a.2.1 = lN (lU P (amx (okS P) (fun s => hX_ P s (mnX P L s L.length)) i) (mnX P L (amx (okS P) (fun s => hX_ P s (mnX P L s L.length)) i) L.length))))) _ 16 ?_ ?_ 16 0 k _ (by omega) ⟨_, rfl, (show v = ms_lw v (mg_falls v, mg_x v, mg_all v, mg_hits v) from rfl), Or.inl ⟨rfl, rfl⟩⟩ (by omega)
    · rintro i ⟨a, b, c, d⟩ hi ⟨h', h1, h2, h3⟩
      left
      dsimp only at h1 h2 h3
      subst h1 h2
      have hM' : mHd P (ms_lw v h') := hM
      obtain ⟨g, e⟩ := inner h' a b i hi
      unfold bX10_safest_25
      dsimp only
      rw [if_neg (by rw [show (16 : Int32) = nI 16 from rfl, nI_leI (by omega) (by omega)]; omega), mwithin hP hM' hi (by omega), bI_bind, mff_lw, hf0, zbind_s, e, zbind_s, nI_1]
      dsimp only
      have hs : amx (okS P) (fun s => hX_ P s (mnX P L s L.length)) (i + 1) = if okS P i = true ∧ hX_ P (amx (okS P) (fun s => hX_ P s (mnX P L s L.length)) i) (mnX P L (amx (okS P) (fun s => hX_ P s (mnX P L s L.length)) i) L.length) < hX_ P i (mnX P L i L.length) then i else amx (okS P) (fun s => hX_ P s (mnX P L s L.length)) i := rfl
      rcases h3 with ⟨rfl, rfl⟩ | ⟨h3, rfl, rfl⟩
      · have hs0 : amx (okS P) (fun s => hX_ P s (mnX P L s L.length)) (0 + 1) = 0 := by
          rw [hs]
          split <;> rfl
        rw [if_pos ok_0, if_pos rfl, hs0]
        exact ⟨_, rfl, g, rfl, rfl, Or.inr ⟨by omega, rfl, rfl⟩⟩
      · have hlt := amx_lt (okS P) (fun s => hX_ P s (mnX P L s L.length)) i
        generalize amx (okS P) (fun s => hX_ P s (mnX P L s L.length)) i = A at hs hlt
        have hb1 := lU_b hP i (mnX P L i L.length)
        have hb2 := lU_b hP A (mnX P L A L.length)
        have hcmp := lU_lt hP (s := i) (t := A) (hmle i) (hmle A)
        rw [if_neg (nI_ne_neg (l := A) (by omega) (by decide))]
        by_cases c : okS P i = true
        · rw [if_pos c]
          by_cases d : hX_ P A (mnX P L A L.length) < hX_ P i (mnX P L i L.length)
          · rw [if_pos ⟨c, d⟩] at hs
            rw [if_neg (by rw [pk_lLE (by omega) (by omega)]; have := hcmp.mpr d; omega), hs]
            exact ⟨_, rfl, g, rfl, rfl, Or.inr ⟨by omega, rfl, rfl⟩⟩
          · rw [if_neg (fun z => d z.2)] at hs
            rw [if_pos (by rw [pk_lLE (by omega) (by omega)]; have : ¬ _ := fun z => d (hcmp.mp z); omega), hs]
            exact ⟨_, rfl, g, rfl, rfl, Or.inr ⟨by omega, rfl, rfl⟩⟩
        · rw [if_neg c]
          rw [if_neg (fun z => c z.1)] at hs
          rw [hs]
          exact ⟨_, rfl, h', rfl, rfl, Or.inr ⟨by omega, rfl, rfl⟩⟩
    · rintro ⟨a, b, c, d⟩ ⟨h', h1, h2, h3⟩
      dsimp only at h1 h2 h3
      subst h1 h2
      rcases h3 with ⟨z, _⟩ | ⟨_, rfl, rfl⟩
      · omega
      · exact ⟨_, rfl, h', by rw [hsv]⟩
  obtain ⟨b, e, h', rfl⟩ := key
  exact ⟨h', e⟩
theorem safeV_lt {P : Nat → Nat} {L : List Nat} : safeV P L < 16 := by
  have := amx_lt (okS P) (fun s => hX_ P s (minX P L s)) 16
  unfold safeV
  omega
theorem s_safest {u : CX} {v : MX} (h : Rel u v) {k : Nat} (hk : 20000 ≤ k) : ∃ r u' v', fX9_safest k u = some (r, u') ∧ fX10_safest k v = some (r, v') ∧ Rel u' v' := by
  obtain ⟨P, n, T, W, S, F, h⟩ := h
  obtain ⟨u', v', L, hLW, x1, e1, hR, hL, hlen, hn, hf0, hfn, hla⟩ := two_fit h hk
  have hR' : Rel u' v' := ⟨_, _, _, _, _, _, hR⟩
  unfold fX9_safest fX10_safest
  rw [x1, zbind_s, e1, zbind_s, hf0, zbind_s]
  dsimp only
  by_cases c0 : L.length = 0
  · have : nth L 0 = -4 := by
      unfold nth
      rw [if_neg (by omega)]
    rw [c0, if_pos (show nI 0 = 0 from rfl), if_pos this]
    exact ⟨_, _, _, rfl, rfl, hR'⟩
  · rw [if_neg (by rw [show (0 : Int32) = nI 0 from rfl, nI_eq (by omega) (by omega)]; exact c0), if_neg (hn 0 (by omega)).2.2]
    obtain ⟨hP, hH, hE, h4, h5, h6, hT, hl, hM, hx, hm, hEv, hG, hG2, hS⟩ := hR
    obtain ⟨g, m1⟩ := msafe hP hM hk hlen (by omega) hn hf0 hfn
    rw [m1, zbind_s]
    dsimp only
    rcases hG with ⟨z, _⟩ | ⟨g1, g2, g4, g5⟩
    · rw [hL.1] at z
      exact absurd z (by decide)
    · by_cases c : xg_safestF u' = -9
      · obtain ⟨f, w, m2⟩ := xsafe hP hT hl hL hlen (fun m hm => (hn m hm).2.1) (by omega) hk c
        rw [m2, zbind_s]
        exact ⟨_, _, _, rfl, rfl, P, n, T, W, S, F, hP, hH, hE, h4, h5, h6, hT, hl, hM, hx, hm, hEv, Or.inr ⟨g1, g2, Or.inr (by rw [← hLW]; rfl), g5⟩, hG2, hS⟩
      · have e : xg_safestF u' = nI (safeV P L) := by
          rcases g4 with q | q
          · exact absurd q c
          · rw [hLW]; exact q
        unfold fX2_safestPlates
        rw [if_neg c, zbind_s, e]
        exact ⟨_, _, _, rfl, rfl, P, n, T, W, S, F, hP, hH, hE, h4, h5, h6, hT, hl, hM, hx, hm, hEv, Or.inr ⟨g1, g2, g4, g5⟩, hG2, hS⟩
