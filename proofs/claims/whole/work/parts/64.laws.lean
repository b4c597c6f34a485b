/-! the laws kept, walked from the least to the greatest -/
def xLs (L : List Nat) (u : CX) : Prop := xg_stale u = 0 ∧ xg_gsize u = nI L.length ∧ (∀ p d, p < 4 → d ≤ 10 → xg_tally u (11 * p + d) = nI (tal L p d L.length)) ∧
  (0 < L.length → ∃ b lo hi, L = Lf b 14641 ∧ (∀ law, law < 14641 → fX2_isKept (nI law) u = some (bI (b law))) ∧ lo ≤ hi ∧ hi < 14641 ∧ b lo = true ∧ (Lf b lo).length = 0 ∧ (Lf b (hi + 1)).length = L.length ∧ xg_gleast u = nI lo ∧ xg_gmost u = nI hi ∧ L.getD 0 0 = lo ∧ L.getD (L.length - 1) 0 = hi)
theorem xisKept {b : Nat → Bool} {u : CX} (h : ∀ law, law < 14641 → kb (xg_bits u (law / 11)) (law % 11) = b law) {law : Nat} (hl : law < 14641) : fX2_isKept (nI law) u = some (bI (b law)) := by
  have hb := h law hl
  unfold fX2_isKept
  rw [if_neg (nI_pos (by omega)), if_neg (by rw [show (14641 : Int32) = nI 14641 from rfl, nI_leI (by omega) (by omega)]; omega), zdi_n (by decide), show (11 : Int32) = nI 11 from rfl, pk_div (by omega) (by omega) (by omega), zget_n (by omega) (by omega), zdi_n (by decide), show zremI (nI law) (nI 11) = nI (law % 11) from pk_rem (a := law) (d := 11) (by omega) (by omega) (by omega)]
  unfold kb at hb
  rw [← hb]
  by_cases c : ((xg_bits u (law / 11) >>> (nI (law % 11) &&& 31)) &&& 1) = 1
  · rw [if_pos c, decide_eq_true c]
    rfl
  · rw [if_neg c, decide_eq_false c]
    rfl
theorem Lf_zero {b : Nat → Bool} {i : Nat} (h : ∀ j, j < i → ¬ b j = true) : (Lf b i).length = 0 := by
  have e := Lf_skip (b := b) (i := 0) i (fun j _ h2 => h j (by omega))
  rw [Nat.zero_add] at e
  rw [e]
  rfl
theorem xLs_of {b : Nat → Bool} {u : CX} (h0 : xg_stale u = 0) (h : xKp b 14641 u) : xLs (Lf b 14641) u := by
  obtain ⟨h1, h2, h3, h4⟩ := h
  refine ⟨h0, h1, h3, fun hp => ?_⟩
  rcases h4 with h4 | ⟨lo, hi, q1, q2, q3, q4, q5, q6, q7, q8⟩
  · omega
  · have hk : ∀ law, law < 14641 → kb (xg_bits u (law / 11)) (law % 11) = b law := by
      intro law hl
      rw [h2 law hl, decide_eq_true hl, Bool.true_and]
    have z0 := Lf_zero q5
    have e1 : Lf b 14641 = Lf b (hi + 1) := by
      have := Lf_skip (b := b) (i := hi + 1) (14641 - (hi + 1)) (fun j j1 j2 => q6 j (by omega) (by omega))
      rw [← this, show hi + 1 + (14641 - (hi + 1)) = 14641 by omega]
    obtain ⟨a1, a2⟩ := Lf_A (b := b) (N := 14641) (i := lo) (by omega) q3
    obtain ⟨a3, a4⟩ := Lf_A (b := b) (N := 14641) (i := hi) (by omega) q4
    rw [z0] at a2
    have e2 : (Lf b (hi + 1)).length = (Lf b hi).length + 1 := by rw [Lf_t q4, List.length_append]; rfl
    refine ⟨b, lo, hi, rfl, fun law hl => xisKept hk hl, q1, q2, q3, z0, by rw [e1], q7, q8, a2, ?_⟩
    have e3 : (Lf b 14641).length - 1 = (Lf b hi).length := by rw [e1, e2]; rfl
    rw [e3]
    exact a4
theorem xwith_f {L : List Nat} {u : CX} (hL : xLs L u) {p d : Nat} (hp : p < 4) (hd : d ≤ 10) : fX2_withFalls (nI p) (nI d) u = some (nI (tal L p d L.length)) := by
  unfold fX2_withFalls
  rw [show (11 : Int32) = nI 11 from rfl, pk_mul, nI_add, zget_n (by omega) (by omega), hL.2.2.1 p d hp hd]
/-- a step of the walk -/
theorem Lf_step {b : Nat → Bool} {i : Nat} (hi : i < 14641) : (b i = true ∧ (Lf b i).length < (Lf b 14641).length ∧ (Lf b 14641).getD (Lf b i).length 0 = i ∧ (Lf b (i + 1)).length = (Lf b i).length + 1) ∨ (b i = false ∧ (Lf b (i + 1)).length = (Lf b i).length) := by
  cases c : b i
  · exact Or.inr ⟨rfl, by rw [Lf_f (by rw [c]; decide)]⟩
  · obtain ⟨a1, a2⟩ := Lf_A (b := b) (N := 14641) hi c
    exact Or.inl ⟨rfl, a1, a2, by rw [Lf_t c, List.length_append]; rfl⟩
/-- both lists laid -/
theorem two_fit {P : Nat → Nat} {n : Nat} {T : Nat → Nat → Nat} {W S F : Nat → Nat} {u : CX} {v : MX} (h : RelG P n T W S F u v) {k : Nat} (hk : 20000 ≤ k) : ∃ u' v' L, L = LW P (T n) W S F ∧ fX2_fitting k u = some (nI L.length, u') ∧ fX10_layGood k v = some v' ∧ RelG P n T W S F u' v' ∧ xLs L u' ∧ L.length ≤ 14641 ∧ (∀ m, m < L.length → nth L m = nI (L.getD m 0) ∧ L.getD m 0 < 14641 ∧ ¬ nth L m = -4) ∧ fX10_firstFrom k (0 : Int32) v' = some (nth L 0) ∧ (∀ m, m < L.length → fX10_firstFrom k (nth L m + (1 : Int32)) v' = some (nth L (m + 1))) ∧ ∀ a, ziter (bX10_laws_26 k a v') k ((0 : Int32), (-4 : Int32), (0 : Int32)) = some (nI L.length, if L.length = 0 then -4 else nI (L.getD (L.length - 1) 0)) := by
  obtain ⟨u', x1, x2, x3⟩ := xfitting h hk
  obtain ⟨v', e1, hR, hg⟩ := mgood x2 hk
  refine ⟨u', v', _, rfl, x1, e1, hR, xLs_of x3.1 x3.2, Lf_len _ 14641, fun m hm => nth_in hm, mff0 hg hk, fun m hm => mffn hg hk hm, ?_⟩
  intro a
  rw [LW_Lf]
  generalize fitB P (T n) W S F (P 17) = b at hg
  have st : ∀ i, i < 14641 → bX10_laws_26 k a v' (nI (Lf b i).length, (if (Lf b i).length = 0 then (-4 : Int32) else nI ((Lf b i).getD ((Lf b i).length - 1) 0)), nI i) = some (.inl (nI (Lf b (i + 1)).length, (if (Lf b (i + 1)).length = 0 then (-4 : Int32) else nI ((Lf b (i + 1)).getD ((Lf b (i + 1)).length - 1) 0)), nI (i + 1))) := by
    intro i hi
    unfold bX10_laws_26
    dsimp only
    rw [if_neg (by rw [show (14641 : Int32) = nI 14641 from rfl, nI_leI (by omega) (by omega)]; omega), zb_e, zb_e, zget_n (by omega) (by omega), zget_n (by omega) (by omega), zget_n (by omega) (by omega), hg i (by omega), nI_1, show (0 : Int32) = nI 0 from rfl, show (1 : Int32) = nI 1 from rfl, nI_add, nI_add, show nI 0 = (0 : Int32) from rfl]
    simp only [bI_if]
    by_cases c : b i = true
    · simp only [if_pos c]
      rw [Lf_t c, List.length_append]
      have e : (Lf b i ++ [i]).getD ((Lf b i).length + [i].length - 1) 0 = i := by
        rw [show (Lf b i).length + [i].length - 1 = (Lf b i).length from rfl, List.getD_eq_getElem?_getD, List.getElem?_append_right (Nat.le_refl _), Nat.sub_self]
        rfl
      rw [e, if_neg (by show ¬ _ + 1 = 0; omega)]
      rfl
    · simp only [if_neg c]
      rw [Lf_f c, Nat.add_zero]
  have ex : ∀ x y, bX10_laws_26 k a v' (x, y, nI 14641) = some (.inr (x, y)) := fun _ _ => rfl
  generalize bX10_laws_26 k a v' = f at st ex
  rw [show (((0 : Int32), (-4 : Int32), (0 : Int32)) : Int32 × Int32 × Int32) = (fun i => (nI (Lf b i).length, if (Lf b i).length = 0 then (-4 : Int32) else nI ((Lf b i).getD ((Lf b i).length - 1) 0), nI i)) 0 from rfl]
  exact ziter_st (fun i => (nI (Lf b i).length, if (Lf b i).length = 0 then (-4 : Int32) else nI ((Lf b i).getD ((Lf b i).length - 1) 0), nI i)) _ 14641 0 k (fun i _ hi => st i (by omega)) (ex _ _) (by omega)
theorem s_laws {u : CX} {v : MX} (h : Rel u v) {k : Nat} (hk : 20000 ≤ k) (a : Int32) : ∃ r u' v', fX9_laws k a u = some (r, u') ∧ fX10_laws k a v = some (r, v') ∧ Rel u' v' := by
  have h0 := h
  obtain ⟨P, n, T, W, S, F, h⟩ := h
  obtain ⟨u', v', L, _, x1, e1, hR, ⟨x3, x4, x5, x6⟩, hlen, hn, hf0, hfn, hla⟩ := two_fit h hk
  have hR' : Rel u' v' := ⟨_, _, _, _, _, _, hR⟩
  unfold fX9_laws fX10_laws
  rw [rngB, inIf, Int32.toInt_toInt64, show (0 : Int64).toInt = 0 from rfl, show (2 : Int64).toInt = 2 from rfl, show (2 : Int32).toInt = 2 from rfl]
  split
  · rename_i hc
    obtain ⟨j, hj, rfl⟩ := zn_of (a := a) (n := 3) (by omega) (by omega)
    rw [x1, zbind_s, e1, zbind_s, hla, zbind_s, hf0]
    dsimp only
    have hz : ¬ L.length = 0 → ¬ nI L.length = 0 := fun c => by rw [show (0 : Int32) = nI 0 from rfl, nI_eq (by omega) (by omega)]; exact c
    match j, hj with
    | 0, _ => exact ⟨_, _, _, rfl, rfl, hR'⟩
    | 1, _ =>
      rw [if_neg (show ¬ nI 1 = 0 by decide), if_neg (show ¬ nI 1 = 0 by decide), if_pos (show nI 1 = 1 from rfl), if_pos (show nI 1 = 1 from rfl), zbind_s]
      unfold nth
      by_cases c : L.length = 0
      · rw [c, if_pos (show nI 0 = 0 from rfl), if_neg (by omega)]
        exact ⟨_, _, _, rfl, rfl, hR'⟩
      · obtain ⟨b, lo, hi, _, _, _, _, _, _, _, y1, y2, y3, y4⟩ := x6 (by omega)
        rw [if_neg (hz c), if_pos (by omega), y1, y3]
        exact ⟨_, _, _, rfl, rfl, hR'⟩
    | 2, _ =>
      rw [if_neg (show ¬ nI 2 = 0 by decide), if_neg (show ¬ nI 2 = 0 by decide), if_neg (show ¬ nI 2 = 1 by decide), if_neg (show ¬ nI 2 = 1 by decide)]
      by_cases c : L.length = 0
      · rw [if_pos c, c, if_pos (show nI 0 = 0 from rfl)]
        exact ⟨_, _, _, rfl, rfl, hR'⟩
      · obtain ⟨b, lo, hi, _, _, _, _, _, _, _, y1, y2, y3, y4⟩ := x6 (by omega)
        rw [if_neg (hz c), if_neg c, y2, y4]
        exact ⟨_, _, _, rfl, rfl, hR'⟩
  · exact ⟨_, _, _, rfl, rfl, h0⟩
theorem s_say {u : CX} {v : MX} (h : Rel u v) {k : Nat} (hk : 20000 ≤ k) (a c : Int32) : ∃ r u' v', fX9_say k a c u = some (r, u') ∧ fX10_say k a c v = some (r, v') ∧ Rel u' v' := by
  have h0 := h
  obtain ⟨P, n, T, W, S, F, h⟩ := h
  obtain ⟨u', v', L, _, x1, e1, hR, hL, hlen, hn, hf0, hfn, hla⟩ := two_fit h hk
  have hR' : Rel u' v' := ⟨_, _, _, _, _, _, hR⟩
  unfold fX9_say fX10_say
  rw [xpIf, mpIf]
  simp only [xpIf, mpIf]
  split
  · rename_i hc
    split
    · rename_i hd
      split
      · exact ⟨_, _, _, rfl, rfl, h0⟩
      · rename_i hne
        obtain ⟨p, hp, rfl⟩ := zn_of (a := a) (n := 4) (by omega) (by omega)
        obtain ⟨q, hq, rfl⟩ := zn_of (a := c) (n := 4) (by omega) (by omega)
        rw [x1, zbind_s, e1, zbind_s, hf0, zbind_s]
        dsimp only
        have lx : 0 < L.length → fX2_oftenerIn k (nI p) (nI q) u' = some (nI (cM (fun i => decide (fg (L.getD i 0) q < fg (L.getD i 0) p)) L.length)) := by
          intro hpos
          obtain ⟨b, lo, hi, hLb, hkp, y0, y1, y2, y3, y4, y5, y6, y7, y8⟩ := hL.2.2.2 hpos
          unfold fX2_oftenerIn
          rw [zb_e, y5]
          have e0 : (((0 : Int32), nI lo) : Int32 × Int32) = (fun i => (nI (cM (fun i => decide (fg (L.getD i 0) q < fg (L.getD i 0) p)) (Lf b i).length), nI i)) lo := by
            show _ = (nI (cM _ (Lf b lo).length), nI lo)
            rw [y3]
            rfl
          rw [e0, ziter_st (fun i => (nI (cM (fun i => decide (fg (L.getD i 0) q < fg (L.getD i 0) p)) (Lf b i).length), nI i)) (nI (cM (fun i => decide (fg (L.getD i 0) q < fg (L.getD i 0) p)) L.length)) (hi + 1 - lo) lo k ?_ ?_ (by omega), zbind_s]
          · intro i _ hi2
            have hi3 : i < 14641 := by omega
            have f1 := fg_le (p := p) hi3
            have f2 := fg_le (p := q) hi3
            unfold bX2_oftenerIn_8
            dsimp only
            rw [y6, if_neg (by rw [nI_ltI (by omega) (by omega)]; omega), hkp i hi3, bI_bind, xfig hi3 hp, zbind_s, xfig hi3 hq, zbind_s, zb_e, zb_e, nI_1, show (0 : Int32) = nI 0 from rfl, show (1 : Int32) = nI 1 from rfl, nI_add, nI_add]
            rcases Lf_step (b := b) hi3 with ⟨s1, s2, s3, s4⟩ | ⟨s1, s2⟩
            · rw [if_pos s1, s4]
              rw [← hLb] at s3
              show _ = some (Sum.inl (nI (cM _ (Lf b i).length + if decide (fg (L.getD (Lf b i).length 0) q < fg (L.getD (Lf b i).length 0) p) = true then 1 else 0), nI (i + 1)))
              rw [s3]
              by_cases cc : fg i q < fg i p
              · rw [if_neg (by rw [nI_leI (by omega) (by omega)]; omega), decide_eq_true cc, if_pos rfl]
              · rw [if_pos (by rw [nI_leI (by omega) (by omega)]; omega), decide_eq_false cc, if_neg (by decide)]
            · rw [s1, if_neg (by decide), s2]
              rfl
          · unfold bX2_oftenerIn_8
            dsimp only
            rw [show lo + (hi + 1 - lo) = hi + 1 by omega, y6, y4, if_pos (by rw [nI_ltI (by omega) (by omega)]; omega)]
        have ly : ziter (bX10_say_37 k (nI p) (nI q) v') k ((0 : Int32), (0 : Int32), nth L 0) = some (nI (cM (fun i => decide (fg (L.getD i 0) q < fg (L.getD i 0) p)) L.length), nI L.length) := by
          rw [show (((0 : Int32), (0 : Int32), nth L 0) : Int32 × Int32 × Int32) = (fun i => (nI (cM (fun i => decide (fg (L.getD i 0) q < fg (L.getD i 0) p)) i), nI i, nth L i)) 0 from rfl]
          refine ziter_st (fun i => (nI (cM (fun i => decide (fg (L.getD i 0) q < fg (L.getD i 0) p)) i), nI i, nth L i)) _ L.length 0 k ?_ ?_ (by omega)
          · intro i _ hi
            obtain ⟨n1, n2, n3⟩ := hn i (by omega)
            have f1 := fg_le (p := p) n2
            have f2 := fg_le (p := q) n2
            unfold bX10_say_37
            dsimp only
            rw [if_neg n3, hfn i (by omega)]
            simp only [zbind_s, zb_e]
            rw [n1, mfalls n2 hp (by omega), zbind_s, mfalls n2 hq (by omega), zbind_s, nI_1, show (0 : Int32) = nI 0 from rfl, show (1 : Int32) = nI 1 from rfl, nI_add, nI_add]
            show _ = some (Sum.inl (nI (cM _ i + if decide (fg (L.getD i 0) q < fg (L.getD i 0) p) = true then 1 else 0), nI (i + 1), nth L (i + 1)))
            by_cases cc : fg (L.getD i 0) q < fg (L.getD i 0) p
            · rw [if_neg (by rw [nI_leI (by omega) (by omega)]; omega), decide_eq_true cc, if_pos rfl]
            · rw [if_pos (by rw [nI_leI (by omega) (by omega)]; omega), decide_eq_false cc, if_neg (by decide)]
          · unfold bX10_say_37
            dsimp only
            rw [Nat.zero_add, if_pos nth_out]
        by_cases c0 : L.length = 0
        · rw [ly, zbind_s, c0]
          dsimp only
          rw [if_pos (show nI 0 = 0 from rfl), if_pos (show nI 0 = 0 from rfl)]
          exact ⟨_, _, _, rfl, rfl, hR'⟩
        rw [lx (by omega), ly, zbind_s, zbind_s]
        dsimp only
        generalize cM (fun i => decide (fg (L.getD i 0) q < fg (L.getD i 0) p)) L.length = X
        generalize L.length = Y
        split
        · exact ⟨_, _, _, rfl, rfl, hR'⟩
        · split
          · exact ⟨_, _, _, rfl, rfl, hR'⟩
          · split <;> exact ⟨_, _, _, rfl, rfl, hR'⟩
    · exact ⟨_, _, _, rfl, rfl, h0⟩
  · exact ⟨_, _, _, rfl, rfl, h0⟩
theorem s_cost {u : CX} {v : MX} (h : Rel u v) {k : Nat} (hk : 200 ≤ k) : ∃ r, fX9_cost k u = some r ∧ fX10_cost k v = some r := by
  obtain ⟨P, n, T, W, S, F, hP, hH, hE, h4, h5, h6, hT, hl, hM, hx, hm, hEv, hG, hG2, hS⟩ := h
  obtain ⟨k1, k2, k3⟩ := K_b (hH.2 n (Nat.le_refl _))
  have a1 := k2 0 (by omega)
  have a2 := k2 1 (by omega)
  have a3 := k2 2 (by omega)
  have a4 := k2 3 (by omega)
  have hK := (hH.2 n (Nat.le_refl _)).2.1
  unfold fX9_cost fX10_cost
  rw [xsort hx, zbind_s, show (0 : Int32) = nI 0 from rfl, show (1 : Int32) = nI 1 from rfl, show (2 : Int32) = nI 2 from rfl, show (3 : Int32) = nI 3 from rfl, xwith hx (by omega), zbind_s, zb_e, xwith hx (by omega), zbind_s, zb_e, xwith hx (by omega), zbind_s, zb_e, xwith hx (by omega), zbind_s, zb_e]
  simp only [Nat.reduceAdd] at a1 a2 a3 a4 ⊢
  rw [pk_sub (by omega), nI_l (by omega), nI_l (by omega), nI_l (by omega), nI_l (by omega)]
  generalize hA : T n 0 - T n 1 = A
  have hA2 : A ≤ 999 := by omega
  have sx : ∀ p, p ≤ 100 → bX9_cost_53 k (lN A) (lN (T n 2)) (lN (T n 3)) (lN (T n 4)) u (lN p) = if A * p * p * p < 100 * (100 * (100 * T n 4 + T n 3 * p) + T n 2 * p * p) then some (.inl (lN (p + 1))) else some (.inr (.inl (lN p))) := by
    intro p hp
    have m1 := mul_b (mul_b (mul_b hA2 hp) hp) hp
    have m2 := mul_b a3 hp
    have m3 := mul_b (mul_b a2 hp) hp
    unfold bX9_cost_53
    rw [if_neg (by rw [show (100 : Int64) = lN 100 from rfl, pk_lLT (by omega) (by omega)]; omega), zb_e, show (100 : Int64) = lN 100 from rfl, show (1 : Int64) = lN 1 from rfl]
    simp only [lN_mul, lN_add]
    by_cases c : A * p * p * p < 100 * (100 * (100 * T n 4 + T n 3 * p) + T n 2 * p * p)
    · rw [if_pos c, if_pos (by rw [pk_lLT (by omega) (by omega)]; exact c)]
    · rw [if_neg c, if_neg (by rw [pk_lLT (by omega) (by omega)]; exact c)]
  have sy : ∀ p, 1 ≤ p → p ≤ 100 → bX10_cost_2 k v (nI p) = if A * p * p * p < 100 * (100 * (100 * T n 4 + T n 3 * p) + T n 2 * p * p) then some (.inl (nI (p + 1))) else some (.inr (.inl (nI p))) := by
    intro p h1 hp
    have m1 := mul_b (mul_b (mul_b hA2 hp) hp) hp
    have m2 := mul_b a3 hp
    have m3 := mul_b (mul_b a2 hp) hp
    unfold bX10_cost_2
    rw [if_neg (by rw [show (100 : Int32) = nI 100 from rfl, nI_ltI (by omega) (by omega)]; omega)]
    have st : ∀ (c j : Nat), 1 ≤ j → j ≤ 3 → bX10_cost_13 k (nI p) v (lN c, nI j) = some (.inl (lN (c + T n (1 + j) * 100 ^ j * p ^ (3 - j)), nI (j + 1))) := by
      intro c j h1 h3
      have hb := k2 j (by omega)
      unfold bX10_cost_13
      dsimp only
      rw [if_neg (by rw [show (3 : Int32) = nI 3 from rfl, nI_ltI (by omega) (by omega)]; omega), show (1 : Int32) = nI 1 from rfl, nI_add, zget_n (by omega) (by omega), hm.1 _ (by omega), show (100 : Int64) = lN 100 from rfl, mpower (by omega) (by omega), zbind_s, nI_l (n := p) (by omega), show (3 : Int32) = nI 3 from rfl, pk_sub (by omega), mpower (by omega) (by omega), zbind_s, zb_e, nI_l (by omega), lN_mul, lN_mul, lN_add, nI_add]
    have ex : ∀ c, bX10_cost_13 k (nI p) v (c, nI 4) = some (.inr c) := fun c => rfl
    have hit : ziter (bX10_cost_13 k (nI p) v) k ((0 : Int64), (1 : Int32)) = some (lN (100 * (100 * (100 * T n 4 + T n 3 * p) + T n 2 * p * p))) := by
      generalize bX10_cost_13 k (nI p) v = f at st ex
      obtain ⟨k', rfl⟩ : ∃ k', k = k' + 1 + 1 + 1 + 1 := ⟨k - 4, by omega⟩
      rw [show (((0 : Int64), (1 : Int32)) : Int64 × Int32) = (lN 0, nI 1) from rfl, ziter_l (st _ 1 (by omega) (by omega)), ziter_l (st _ 2 (by omega) (by omega)), ziter_l (st _ 3 (by omega) (by omega)), ziter_r (ex _)]
      refine congrArg (fun z => some (lN z)) ?_
      simp
      grind
    rw [hit, zbind_s, show (0 : Int32) = nI 0 from rfl, show (1 : Int32) = nI 1 from rfl, zget_n (by omega) (by omega), zget_n (by omega) (by omega), hm.1 0 (by omega), hm.1 1 (by omega), nI_l (n := p) (by omega), show (3 : Int32) = nI 3 from rfl, mpower (by omega) (by omega), zbind_s, pk_sub (by omega), hA, nI_l (by omega), lN_mul, nI_add]
    have ep : A * p ^ 3 = A * p * p * p := by grind
    rw [ep]
    by_cases c : A * p * p * p < 100 * (100 * (100 * T n 4 + T n 3 * p) + T n 2 * p * p)
    · rw [if_pos c, if_pos (by rw [pk_lLT (by omega) (by omega)]; exact c)]
    · rw [if_neg c, if_neg (by rw [pk_lLT (by omega) (by omega)]; exact c)]
  have ex : bX9_cost_53 k (lN A) (lN (T n 2)) (lN (T n 3)) (lN (T n 4)) u (lN 101) = some (.inr (.inr ())) := rfl
  have ey : bX10_cost_2 k v (nI 101) = some (.inr (.inr ())) := rfl
  generalize bX9_cost_53 k (lN A) (lN (T n 2)) (lN (T n 3)) (lN (T n 4)) u = f at sx ex
  generalize bX10_cost_2 k v = g at sy ey
  have go : ∀ m p k', 1 ≤ p → p + m = 101 → m < k' → (∃ r, r < 2 ^ 31 ∧ ziter f k' (lN p) = some (.inl (lN r)) ∧ ziter g k' (nI p) = some (.inl (nI r))) ∨ (ziter f k' (lN p) = some (.inr ()) ∧ ziter g k' (nI p) = some (.inr ())) := by
    intro m
    induction m with
    | zero =>
      intro p k' h1 hp hk'
      obtain ⟨k'', rfl⟩ : ∃ k'', k' = k'' + 1 := ⟨k' - 1, by omega⟩
      obtain rfl : p = 101 := by omega
      exact Or.inr ⟨ziter_r ex, ziter_r ey⟩
    | succ m ih =>
      intro p k' h1 hp hk'
      obtain ⟨k'', rfl⟩ : ∃ k'', k' = k'' + 1 := ⟨k' - 1, by omega⟩
      have e1 := sx p (by omega)
      have e2 := sy p h1 (by omega)
      by_cases c : A * p * p * p < 100 * (100 * (100 * T n 4 + T n 3 * p) + T n 2 * p * p)
      · rw [if_pos c] at e1 e2
        rw [ziter_l e1, ziter_l e2]
        exact ih (p + 1) k'' (by omega) (by omega) (by omega)
      · rw [if_neg c] at e1 e2
        exact Or.inl ⟨p, by omega, ziter_r e1, ziter_r e2⟩
  rw [show (1 : Int64) = lN 1 from rfl]
  rcases go 100 1 k (by omega) (by omega) (by omega) with ⟨r, hr, e1, e2⟩ | ⟨e1, e2⟩
  · rw [e1, e2, zbind_s, zbind_s, z_e1, z_e1, lN_i]
    exact ⟨_, rfl, rfl⟩
  · rw [e1, e2]
    exact ⟨_, rfl, rfl⟩
