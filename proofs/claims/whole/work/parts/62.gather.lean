/-- the list so far -/
def Gi (b : Nat → Bool) (u : CX) (hf : Nat → Int32) (rt : Nat → Int64) (i : Nat) (u' : CX) : Prop := ∃ ls, u' = xs_gr u (ls, hf, rt, xg_tally u, xg_worst u, nI (Lf b i).length, xg_stale u, xg_safestF u, xg_unlikeF u) ∧ ∀ j, j < (Lf b i).length → ls j = nI ((Lf b i).getD j 0)
theorem Gi_f {b : Nat → Bool} {u : CX} {hf : Nat → Int32} {rt : Nat → Int64} {i : Nat} {u' : CX} (h : Gi b u hf rt i u') (hb : ¬ b i = true) : Gi b u hf rt (i + 1) u' := by
  unfold Gi at h ⊢
  rw [Lf_f hb]
  exact h
theorem Gi_skip {b : Nat → Bool} {u : CX} {hf : Nat → Int32} {rt : Nat → Int64} {i m : Nat} {u' : CX} (h : Gi b u hf rt i u') (hb : ∀ j, i ≤ j → j < i + m → ¬ b j = true) : Gi b u hf rt (i + m) u' := by
  unfold Gi at h ⊢
  rw [Lf_skip m hb]
  exact h
theorem fit4 {P K W S F : Nat → Nat} {sl law : Nat} : fitB P K W S F sl law = true ↔ (evB W S F 0 (fg law 0) = true ∧ evB W S F 1 (fg law 1) = true ∧ evB W S F 2 (fg law 2) = true ∧ evB W S F 3 (fg law 3) = true) ∧ homB P K (xx P law) sl = true ∧ holAll P K law (xx P law) sl = true := by
  unfold fitB evAll
  simp only [Bool.and_eq_true]
theorem g49 {P : Nat → Nat} {n : Nat} {T : Nat → Nat → Nat} {W S F : Nat → Nat} {u : CX} {v : MX} (hP : rP P) (hK : rK (T n)) (h3 : rE W S F) (hT : xTm P u) (hx : xHm n T u) (hE : rEv W S F u v) {hf : Nat → Int32} {rt : Nat → Int64} (hh : hfOK P (T n) hf rt) {k a b c d : Nat} (ha : a ≤ 10) (hb : b ≤ 10) (hc : c ≤ 10) (hd : d ≤ 10) (e0 : evB W S F 0 a = true) (e1 : evB W S F 1 b = true) (e2 : evB W S F 2 c = true) {u' : CX} (hG : Gi (fitB P (T n) W S F (P 17)) u hf rt (lw4 a b c d) u') : ∃ u'', bX2_gatherWith_49 k (nI a) (nI b) (nI (P 0 * (10 - a) + P 1 * (10 - b))) (nI c) (nI d, u') = some (.inl (nI (d + 1), u'')) ∧ Gi (fitB P (T n) W S F (P 17)) u hf rt (lw4 a b c d + 1) u'' := by
  obtain ⟨f1, f2, f3, f4, f5⟩ := lw4_f ha hb hc hd
  have hxx := xx_le hP (lw4 a b c d)
  have hxe : P 0 * (10 - a) + P 1 * (10 - b) + P 2 * (10 - c) + P 3 * (10 - d) = xx P (lw4 a b c d) := by unfold xx; rw [f2, f3, f4, f5]
  have hfit := fit4 (P := P) (K := T n) (W := W) (S := S) (F := F) (sl := P 17) (law := lw4 a b c d)
  have hhol : holAll P (T n) (lw4 a b c d) (xx P (lw4 a b c d)) (P 17) = (holB P (T n) 0 a (xx P (lw4 a b c d)) (P 17) && (holB P (T n) 1 b (xx P (lw4 a b c d)) (P 17) && (holB P (T n) 2 c (xx P (lw4 a b c d)) (P 17) && holB P (T n) 3 d (xx P (lw4 a b c d)) (P 17)))) := by unfold holAll; rw [f2, f3, f4, f5]
  rw [f2, f3, f4, f5] at hfit
  obtain ⟨hh1, hh2⟩ := hh _ hxx.1
  have hlen := Lf_len (fitB P (T n) W S F (P 17)) (lw4 a b c d)
  have hG0 := hG
  have hT' : ∀ g, xTm P (xs_gr u g) := fun _ => hT
  have hx' : ∀ g, xHm n T (xs_gr u g) := fun _ => hx
  have hE' : ∀ g, rEv W S F (xs_gr u g) v := fun _ => hE
  obtain ⟨ls, rfl, hls⟩ := hG
  unfold bX2_gatherWith_49
  dsimp only
  rw [if_neg (by rw [show (10 : Int32) = nI 10 from rfl, nI_ltI (by omega) (by omega)]; omega), show (2 : Int32) = nI 2 from rfl, show (3 : Int32) = nI 3 from rfl, xpartS (hT' _) (by omega) hc, zbind_s, xpartS (hT' _) (by omega) hd, zbind_s, zb_e, nI_add, nI_add, hxe, if_neg (nI_pos (by omega)), if_neg (by rw [show (800 : Int32) = nI 800 from rfl, nI_ltI (by omega) (by omega)]; omega), zget_n (by omega) (by omega)]
  rw [show xg_homesFit (xs_gr u (ls, hf, rt, xg_tally u, xg_worst u, nI (Lf (fitB P (T n) W S F (P 17)) (lw4 a b c d)).length, xg_stale u, xg_safestF u, xg_unlikeF u)) (xx P (lw4 a b c d)) = bI (homB P (T n) (xx P (lw4 a b c d)) (P 17)) from hh1, bI_if, xallow (hE' _) h3 (by omega) hd, bI_bind, zget_n (by omega) (by omega), nI_1]
  cases c1 : homB P (T n) (xx P (lw4 a b c d)) (P 17)
  · rw [if_neg (by decide)]
    refine ⟨_, rfl, Gi_f hG0 (fun z => ?_)⟩
    have := (hfit.mp z).2.1
    rw [c1] at this
    exact absurd this (by decide)
  · rw [if_pos rfl]
    cases c2 : evB W S F 3 d
    · rw [if_neg (by decide)]
      refine ⟨_, rfl, Gi_f hG0 (fun z => ?_)⟩
      have := (hfit.mp z).1.2.2.2
      rw [c2] at this
      exact absurd this (by decide)
    · rw [if_pos rfl, show xg_rates (xs_gr u (ls, hf, rt, xg_tally u, xg_worst u, nI (Lf (fitB P (T n) W S F (P 17)) (lw4 a b c d)).length, xg_stale u, xg_safestF u, xg_unlikeF u)) (xx P (lw4 a b c d)) = lN (hoR P (xx P (lw4 a b c d))) from hh2 c1, xallHo hP hK (hT' _) (hx' _) ha hb hc hd hxx.1, bI_bind, ← hhol]
      cases c3 : holAll P (T n) (lw4 a b c d) (xx P (lw4 a b c d)) (P 17)
      · rw [if_neg (by decide)]
        refine ⟨_, rfl, Gi_f hG0 (fun z => ?_)⟩
        have := (hfit.mp z).2.2
        rw [c3] at this
        exact absurd this (by decide)
      · have hB : fitB P (T n) W S F (P 17) (lw4 a b c d) = true := hfit.mpr ⟨⟨e0, e1, e2, c2⟩, c1, c3⟩
        have eg : xg_gsize (xs_gr u (ls, hf, rt, xg_tally u, xg_worst u, nI (Lf (fitB P (T n) W S F (P 17)) (lw4 a b c d)).length, xg_stale u, xg_safestF u, xg_unlikeF u)) = nI (Lf (fitB P (T n) W S F (P 17)) (lw4 a b c d)).length := rfl
        rw [if_pos rfl, eg, if_neg (by rw [show (14641 : Int32) = nI 14641 from rfl, nI_leI (by omega) (by omega)]; omega), zix_n (by omega) (by omega), zb_e, zb_e]
        refine ⟨_, rfl, upd ls (Lf (fitB P (T n) W S F (P 17)) (lw4 a b c d)).length (nI (lw4 a b c d)), ?_, ?_⟩
        · rw [Lf_t hB, List.length_append]
          have e4 : (nI a * 11 + nI b) * 11 + nI c = nI ((a * 11 + b) * 11 + c) := by rw [show (11 : Int32) = nI 11 from rfl, pk_mul, nI_add, pk_mul, nI_add]
          rw [e4, show (11 : Int32) = nI 11 from rfl, pk_mul, nI_add]
          have e5 : ∀ (L : List Nat) (q : Int32), xs_gsize (xs_list (xs_gr u (ls, hf, rt, xg_tally u, xg_worst u, nI L.length, xg_stale u, xg_safestF u, xg_unlikeF u)) (upd (xg_list (xs_gr u (ls, hf, rt, xg_tally u, xg_worst u, nI L.length, xg_stale u, xg_safestF u, xg_unlikeF u))) L.length q)) (xg_gsize (xs_list (xs_gr u (ls, hf, rt, xg_tally u, xg_worst u, nI L.length, xg_stale u, xg_safestF u, xg_unlikeF u)) (upd (xg_list (xs_gr u (ls, hf, rt, xg_tally u, xg_worst u, nI L.length, xg_stale u, xg_safestF u, xg_unlikeF u))) L.length q)) + 1) = xs_gr u (upd ls L.length q, hf, rt, xg_tally u, xg_worst u, nI L.length + 1, xg_stale u, xg_safestF u, xg_unlikeF u) := fun _ _ => rfl
          rw [e5, nI_1]
          rfl
        · intro j hj
          rw [Lf_t hB, List.length_append] at hj
          rw [Lf_t hB]
          by_cases cj : j = (Lf (fitB P (T n) W S F (P 17)) (lw4 a b c d)).length
          · subst cj
            rw [upd_s, List.getD_eq_getElem?_getD, List.getElem?_append_right (Nat.le_refl _), Nat.sub_self]
            rfl
          · have hj2 : j < (Lf (fitB P (T n) W S F (P 17)) (lw4 a b c d)).length := by
              have : [lw4 a b c d].length = 1 := rfl
              omega
            rw [upd_n cj, hls j hj2, List.getD_eq_getElem?_getD, List.getD_eq_getElem?_getD, List.getElem?_append_left hj2]
theorem lw4_d {a b c d : Nat} : lw4 a b c d + 1 = lw4 a b c (d + 1) := rfl
theorem lw4_c {a b c : Nat} : lw4 a b c 11 = lw4 a b (c + 1) 0 := by unfold lw4; omega
theorem lw4_b {a b : Nat} : lw4 a b 11 0 = lw4 a (b + 1) 0 0 := by unfold lw4; omega
theorem lw4_a {a : Nat} : lw4 a 11 0 0 = lw4 (a + 1) 0 0 0 := by unfold lw4; omega
theorem fg_c {a b c j : Nat} (ha : a ≤ 10) (hb : b ≤ 10) (hc : c ≤ 10) (h1 : lw4 a b c 0 ≤ j) (h2 : j < lw4 a b c 0 + 11) : fg j 2 = c := by
  show j / 11 % 11 = c
  unfold lw4 at h1 h2
  omega
theorem fg_b {a b j : Nat} (ha : a ≤ 10) (hb : b ≤ 10) (h1 : lw4 a b 0 0 ≤ j) (h2 : j < lw4 a b 0 0 + 121) : fg j 0 = a ∧ fg j 1 = b := by
  show j / 1331 = a ∧ j / 121 % 11 = b
  unfold lw4 at h1 h2
  omega
theorem ggath {P : Nat → Nat} {n : Nat} {T : Nat → Nat → Nat} {W S F : Nat → Nat} {u : CX} {v : MX} (hP : rP P) (hK : rK (T n)) (h3 : rE W S F) (hT : xTm P u) (hx : xHm n T u) (hE : rEv W S F u v) {hf : Nat → Int32} {rt : Nat → Int64} (hh : hfOK P (T n) hf rt) {k a b : Nat} (hk : 20000 ≤ k) (ha : a ≤ 10) (hb : b ≤ 10) (e0 : evB W S F 0 a = true) (e1 : evB W S F 1 b = true) {u' : CX} (hG : Gi (fitB P (T n) W S F (P 17)) u hf rt (lw4 a b 0 0) u') : ∃ u'', fX2_gatherWith k (nI a) (nI b) u' = some u'' ∧ Gi (fitB P (T n) W S F (P 17)) u hf rt (lw4 a (b + 1) 0 0) u'' := by
  have hT' : xTm P u' := by obtain ⟨ls, rfl, hls⟩ := hG; exact hT
  unfold fX2_gatherWith
  rw [show (0 : Int32) = nI 0 from rfl, show (1 : Int32) = nI 1 from rfl, xpartS hT' (by omega) ha, zbind_s, xpartS hT' (by omega) hb, zbind_s, zb_e, nI_add]
  have key : ∃ w, ziter (bX2_gatherWith_23 k (nI a) (nI b) (nI (P 0 * (10 - a) + P 1 * (10 - b)))) k (nI 0, u') = some w ∧ Gi (fitB P (T n) W S F (P 17)) u hf rt (lw4 a b 11 0) w := by
    refine ziter_inv (fun c s => ∃ w, s = (nI c, w) ∧ Gi (fitB P (T n) W S F (P 17)) u hf rt (lw4 a b c 0) w) _ 11 ?_ ?_ 11 0 k _ (by omega) ⟨u', rfl, hG⟩ (by omega)
    · rintro c s hc ⟨w, rfl, hw⟩
      left
      have hE' : rEv W S F w v := by obtain ⟨ls, rfl, hls⟩ := hw; exact hE
      unfold bX2_gatherWith_23
      dsimp only
      rw [if_neg (by rw [show (10 : Int32) = nI 10 from rfl, nI_ltI (by omega) (by omega)]; omega), show (2 : Int32) = nI 2 from rfl, xallow hE' h3 (by omega) (by omega), bI_bind, nI_1]
      cases e2 : evB W S F 2 c
      · rw [if_neg (by decide)]
        refine ⟨_, rfl, w, rfl, ?_⟩
        rw [← lw4_c]
        refine Gi_skip (m := 11) hw (fun j h1 h2 z => ?_)
        have := (fit4.mp z).1.2.2.1
        rw [fg_c ha hb (by omega) h1 h2, e2] at this
        exact absurd this (by decide)
      · rw [if_pos rfl]
        have k2 : ∃ w', ziter (bX2_gatherWith_49 k (nI a) (nI b) (nI (P 0 * (10 - a) + P 1 * (10 - b))) (nI c)) k (nI 0, w) = some w' ∧ Gi (fitB P (T n) W S F (P 17)) u hf rt (lw4 a b c 11) w' := by
          refine ziter_inv (fun d s => ∃ w, s = (nI d, w) ∧ Gi (fitB P (T n) W S F (P 17)) u hf rt (lw4 a b c d) w) _ 11 ?_ ?_ 11 0 k _ (by omega) ⟨w, rfl, hw⟩ (by omega)
          · rintro d s hd ⟨w, rfl, hw⟩
            left
            obtain ⟨w', h1, h2⟩ := g49 (k := k) hP hK h3 hT hx hE hh ha hb (by omega : c ≤ 10) (by omega : d ≤ 10) e0 e1 e2 hw
            exact ⟨_, h1, w', rfl, h2⟩
          · rintro s ⟨w, rfl, hw⟩
            exact ⟨w, rfl, hw⟩
        obtain ⟨w', h1, h2⟩ := k2
        rw [show (0 : Int32) = nI 0 from rfl, h1, zbind_s]
        exact ⟨_, rfl, w', rfl, by rw [← lw4_c]; exact h2⟩
    · rintro s ⟨w, rfl, hw⟩
      exact ⟨w, rfl, hw⟩
  obtain ⟨w, h1, h2⟩ := key
  rw [h1, zbind_s]
  exact ⟨w, rfl, by rw [← lw4_b]; exact h2⟩
theorem xgather {P : Nat → Nat} {n : Nat} {T : Nat → Nat → Nat} {W S F : Nat → Nat} {u : CX} {v : MX} (hP : rP P) (hK : rK (T n)) (h3 : rE W S F) (hT : xTm P u) (hx : xHm n T u) (hE : rEv W S F u v) {hf : Nat → Int32} {rt : Nat → Int64} (hh : hfOK P (T n) hf rt) {k : Nat} (hk : 20000 ≤ k) (g1 : xg_homesFit u = hf) (g2 : xg_rates u = rt) : ∃ u'', fX2_gather k u = some u'' ∧ Gi (fitB P (T n) W S F (P 17)) u hf rt 14641 u'' := by
  unfold fX2_gather
  rw [zb_e, show (0 : Int32) = nI 0 from rfl]
  have key : ∃ w, ziter (bX2_gather_7 k) k (nI 0, xs_gsize u (nI 0)) = some w ∧ Gi (fitB P (T n) W S F (P 17)) u hf rt (lw4 11 0 0 0) w := by
    refine ziter_inv (fun a s => ∃ w, s = (nI a, w) ∧ Gi (fitB P (T n) W S F (P 17)) u hf rt (lw4 a 0 0 0) w) _ 11 ?_ ?_ 11 0 k _ (by omega) ⟨_, rfl, xg_list u, by rw [← g1, ← g2]; rfl, fun j hj => absurd hj (by show ¬ j < 0; omega)⟩ (by omega)
    · rintro a s ha ⟨w, rfl, hw⟩
      left
      unfold bX2_gather_7
      dsimp only
      rw [if_neg (by rw [show (10 : Int32) = nI 10 from rfl, nI_ltI (by omega) (by omega)]; omega), show (0 : Int32) = nI 0 from rfl]
      have k2 : ∃ w', ziter (bX2_gather_15 k (nI a)) k (nI 0, w) = some w' ∧ Gi (fitB P (T n) W S F (P 17)) u hf rt (lw4 a 11 0 0) w' := by
        refine ziter_inv (fun b s => ∃ w, s = (nI b, w) ∧ Gi (fitB P (T n) W S F (P 17)) u hf rt (lw4 a b 0 0) w) _ 11 ?_ ?_ 11 0 k _ (by omega) ⟨w, rfl, hw⟩ (by omega)
        · rintro b s hb ⟨w, rfl, hw⟩
          left
          have hE' : rEv W S F w v := by obtain ⟨ls, rfl, hls⟩ := hw; exact hE
          have sk : evB W S F 0 a = false ∨ evB W S F 1 b = false → Gi (fitB P (T n) W S F (P 17)) u hf rt (lw4 a (b + 1) 0 0) w := by
            intro ho
            rw [← lw4_b]
            have : lw4 a b 11 0 = lw4 a b 0 0 + 121 := by unfold lw4; omega
            rw [this]
            refine Gi_skip hw (fun j h1 h2 z => ?_)
            have hz := (fit4.mp z).1
            obtain ⟨q1, q2⟩ := fg_b (by omega) (by omega) h1 h2
            rw [q1, q2] at hz
            rcases ho with o | o
            · rw [o] at hz; exact absurd hz.1 (by decide)
            · rw [o] at hz; exact absurd hz.2.1 (by decide)
          unfold bX2_gather_15
          dsimp only
          rw [if_neg (by rw [show (10 : Int32) = nI 10 from rfl, nI_ltI (by omega) (by omega)]; omega), show (0 : Int32) = nI 0 from rfl, show (1 : Int32) = nI 1 from rfl, xallow hE' h3 (by omega) (by omega), xallow hE' h3 (by omega) (by omega), show nI 0 = (0 : Int32) from rfl, bI_bind, bI_bind, nI_add]
          cases e0 : evB W S F 0 a
          · rw [if_neg (by decide)]
            exact ⟨_, rfl, w, rfl, sk (Or.inl e0)⟩
          · rw [if_pos rfl]
            cases e1 : evB W S F 1 b
            · rw [if_neg (by decide)]
              exact ⟨_, rfl, w, rfl, sk (Or.inr e1)⟩
            · rw [if_pos rfl]
              obtain ⟨w', h1, h2⟩ := ggath hP hK h3 hT hx hE hh hk (by omega : a ≤ 10) (by omega : b ≤ 10) e0 e1 hw
              rw [h1, zbind_s]
              exact ⟨_, rfl, w', rfl, h2⟩
        · rintro s ⟨w, rfl, hw⟩
          exact ⟨w, rfl, hw⟩
      obtain ⟨w', h1, h2⟩ := k2
      rw [h1, zbind_s, nI_1]
      exact ⟨_, rfl, w', rfl, by rw [← lw4_a]; exact h2⟩
    · rintro s ⟨w, rfl, hw⟩
      exact ⟨w, rfl, hw⟩
  obtain ⟨w, h1, h2⟩ := key
  rw [h1, zbind_s]
  exact ⟨w, rfl, h2⟩
/-- fitting: the class's list is the list of the laws that fit -/
def xLs (L : List Nat) (u : CX) : Prop := xg_stale u = 0 ∧ xg_gsize u = nI L.length ∧ ∀ i, i < L.length → xg_list u i = nI (L.getD i 0)
theorem xfitting {P : Nat → Nat} {n : Nat} {T : Nat → Nat → Nat} {W S F : Nat → Nat} {u : CX} {v : MX} (h : RelG P n T W S F u v) {k : Nat} (hk : 20000 ≤ k) : ∃ u', fX2_fitting k u = some (nI (LW P (T n) W S F).length, u') ∧ RelG P n T W S F u' v ∧ xLs (LW P (T n) W S F) u' := by
  have h0 := h
  obtain ⟨hP, hH, hE, h4, h5, h6, hT, hl, hM, hx, hm, hEv, hG, hG2, hS⟩ := h
  have hK := hH.2 n (Nat.le_refl _)
  unfold fX2_fitting
  by_cases c : xg_stale u = 0
  · rw [if_pos c]
    rcases hG with ⟨e, _⟩ | ⟨e1, e2, e3, e4⟩
    · rw [e] at c; exact absurd c (by decide)
    · rw [e2]
      exact ⟨u, rfl, h0, e1, e2, e3⟩
  · rw [if_neg c]
    obtain ⟨hf, rt, s1, s2⟩ := xsettle hP hK hT hx hk
    obtain ⟨w, t1, ls, rfl, t3⟩ := xgather (u := xs_gr u (xg_list u, hf, rt, xg_tally u, xg_worst u, xg_gsize u, xg_stale u, xg_safestF u, xg_unlikeF u)) (v := v) hP hK hE hT hx hEv s2 hk rfl rfl
    rw [s1, zbind_s, t1, zbind_s, zb_e]
    refine ⟨_, rfl, ⟨hP, hH, hE, h4, h5, h6, hT, hl, hM, hx, hm, hEv, Or.inr ⟨rfl, rfl, t3, ?_⟩, hG2, hS⟩, rfl, rfl, t3⟩
    rcases hG with ⟨_, e2, e3⟩ | ⟨e, _⟩
    · exact ⟨Or.inl e2, Or.inl e3⟩
    · exact absurd e c
