/-! the class gathers the laws that fit -/
theorem Lf_t {b : Nat → Bool} {i : Nat} (h : b i = true) : Lf b (i + 1) = Lf b i ++ [i] := by
  unfold Lf
  rw [List.range_succ, List.filter_append, List.filter_cons_of_pos h]
  rfl
theorem Lf_f {b : Nat → Bool} {i : Nat} (h : ¬ b i = true) : Lf b (i + 1) = Lf b i := by
  unfold Lf
  rw [List.range_succ, List.filter_append, List.filter_cons_of_neg h]
  exact List.append_nil _
theorem Lf_skip {b : Nat → Bool} {i : Nat} : ∀ m, (∀ j, i ≤ j → j < i + m → ¬ b j = true) → Lf b (i + m) = Lf b i := by
  intro m
  induction m with
  | zero => intro _; rfl
  | succ m ih =>
    intro h
    rw [show i + (m + 1) = i + m + 1 by omega, Lf_f (h _ (by omega) (by omega)), ih (fun j h1 h2 => h j h1 (by omega))]
theorem Lf_len (b : Nat → Bool) (i : Nat) : (Lf b i).length ≤ i := by
  have := List.length_filter_le b (List.range i)
  rw [List.length_range] at this
  exact this
def lw4 (a b c d : Nat) : Nat := ((a * 11 + b) * 11 + c) * 11 + d
theorem lw4_f {a b c d : Nat} (ha : a ≤ 10) (hb : b ≤ 10) (hc : c ≤ 10) (hd : d ≤ 10) : lw4 a b c d < 14641 ∧ fg (lw4 a b c d) 0 = a ∧ fg (lw4 a b c d) 1 = b ∧ fg (lw4 a b c d) 2 = c ∧ fg (lw4 a b c d) 3 = d := by
  have e0 : fg (lw4 a b c d) 0 = lw4 a b c d / 1331 := rfl
  have e1 : fg (lw4 a b c d) 1 = lw4 a b c d / 121 % 11 := rfl
  have e2 : fg (lw4 a b c d) 2 = lw4 a b c d / 11 % 11 := rfl
  have e3 : fg (lw4 a b c d) 3 = lw4 a b c d % 11 := rfl
  rw [e0, e1, e2, e3]
  unfold lw4
  omega
theorem xallHo {P : Nat → Nat} {n : Nat} {T : Nat → Nat → Nat} {u : CX} (hP : rP P) (hK : rK (T n)) (hT : xTm P u) (hx : xHm n T u) {a b c d x : Nat} (ha : a ≤ 10) (hb : b ≤ 10) (hc : c ≤ 10) (hd : d ≤ 10) (hxs : x ≤ sc P) : fX2_allHolesAreNear (nI a) (nI b) (nI c) (nI d) (lN (hoR P x)) u = some (bI (holB P (T n) 0 a x (P 17) && (holB P (T n) 1 b x (P 17) && (holB P (T n) 2 c x (P 17) && holB P (T n) 3 d x (P 17))))) := by
  have hsl := hP.2.2.2.2.2.2.1
  unfold fX2_allHolesAreNear
  rw [show (5 : Int32) = nI 5 from rfl, show (0 : Int32) = nI 0 from rfl, show (1 : Int32) = nI 1 from rfl, show (2 : Int32) = nI 2 from rfl, show (3 : Int32) = nI 3 from rfl, zget_n (by omega) (by omega), show xg_Trules u 5 = nI (P 17) from hT.2.1 5 (by omega), xnearP hP hK hT hx (by omega) ha hxs hsl, xnearP hP hK hT hx (by omega) hb hxs hsl, xnearP hP hK hT hx (by omega) hc hxs hsl, xnearP hP hK hT hx (by omega) hd hxs hsl]
  cases holB P (T n) 0 a x (P 17) <;> cases holB P (T n) 1 b x (P 17) <;> cases holB P (T n) 2 c x (P 17) <;> cases holB P (T n) 3 d x (P 17) <;> rfl
/-- what holes are worked out by, for each stand; -1 where no law fits -/
def hfOK (P K : Nat → Nat) (rt : Nat → Int64) : Prop := ∀ x, x ≤ sc P → rt x = if homB P K x (P 17) = true then lN (hoR P x) else -1
theorem hoR_b {P : Nat → Nat} (hP : rP P) {x : Nat} (hx : x ≤ sc P) : hoR P x < 2 ^ 62 := by
  have hs := (xx_le hP 0).2
  have h1 : P 13 ≤ 99 := hP.2.2.2.1 1 (by omega)
  have h2 : P 14 ≤ 99 := hP.2.2.2.1 2 (by omega)
  have h3 : P 15 ≤ 99 := hP.2.2.2.1 3 (by omega)
  have hx' : x ≤ 800 := by omega
  have a1 := mul_b h1 (mul_b hs hs)
  have a2 := mul_b (mul_b (Nat.le_refl 2) h2) (mul_b hx' hs)
  have a3 := mul_b (mul_b (Nat.le_refl 3) h3) (mul_b hx' hx')
  simp only [Nat.reduceAdd, Nat.reduceMul] at a1 a2 a3
  unfold hoR
  have a4 := mul_b (show P 13 * (sc P * sc P) + 2 * P 14 * (x * sc P) + 3 * P 15 * (x * x) ≤ 400000000 by omega) (show 1000 - P 16 ≤ 1000 by omega)
  omega
theorem lN_ne1 {n : Nat} (h : n < 2 ^ 62) : ¬ lN n = -1 := fun q => by
  have := congrArg Int64.toInt q
  rw [pk_lT (by omega), show (-1 : Int64).toInt = -1 from rfl] at this
  omega
theorem xsettle {P : Nat → Nat} {n : Nat} {T : Nat → Nat → Nat} {u : CX} (hP : rP P) (hK : rK (T n)) (hT : xTm P u) (hx : xHm n T u) {k : Nat} (hk : 20000 ≤ k) : ∃ rt, fX2_settleStands k u = some (xs_rates u rt) ∧ hfOK P (T n) rt := by
  have hsl := hP.2.2.2.2.2.2.1
  obtain ⟨w1, w2, w3, w4, w5, w6⟩ := wh_b hP
  unfold fX2_settleStands
  rw [show (5 : Int32) = nI 5 from rfl, zget_n (by omega) (by omega), show xg_Trules u 5 = nI (P 17) from hT.2.1 5 (by omega)]
  have key : ∃ b, ziter (bX2_settleStands_12 k (nI (P 17))) k ((0 : Int32), u) = some b ∧ ∃ rt, b = xs_rates u rt ∧ hfOK P (T n) rt := by
    refine ziter_inv (fun i a => ∃ rt, a = (nI i, xs_rates u rt) ∧ ∀ x, x < i → rt x = if homB P (T n) x (P 17) = true then lN (hoR P x) else -1) _ (sc P + 1) ?_ ?_ (sc P + 1) 0 k _ (by omega) ⟨xg_rates u, rfl, fun j hj => by omega⟩ (by omega)
    · rintro i a hi ⟨rt, rfl, hg⟩
      left
      unfold bX2_settleStands_12
      dsimp only
      have eT : xg_Tscale (xs_rates u rt) = lN (sc P) := hT.2.2.2.2.1
      have up : ∀ z, z = (if homB P (T n) i (P 17) = true then lN (hoR P i) else -1) → ∀ x, x < i + 1 → vp_updL rt i z x = if homB P (T n) x (P 17) = true then lN (hoR P x) else -1 := by
        intro z hz x hx
        by_cases cx : x = i
        · subst cx
          rw [updL_s]
          exact hz
        · rw [updL_n cx]
          exact hg x (by omega)
      rw [if_neg (by rw [show (800 : Int32) = nI 800 from rfl, nI_ltI (by omega) (by omega)]; omega), eT, nI_l (by omega), if_neg (by rw [pk_lLT (by omega) (by omega)]; omega), xnearH (u := xs_rates u rt) hP hK hT hx (by omega) hsl (by omega), bI_bind]
      by_cases c : homB P (T n) i (P 17) = true
      · rw [if_pos c] at up
        rw [if_pos c, xholeRate (u := xs_rates u rt) hP hT, zbind_s, zix_n (by omega) (by omega), zb_e, nI_1]
        exact ⟨_, rfl, vp_updL rt i (lN (hoR P i)), rfl, up _ rfl⟩
      · rw [if_neg c] at up
        rw [if_neg c, zix_n (by omega) (by omega), zb_e, nI_1]
        exact ⟨_, rfl, vp_updL rt i (-1), rfl, up _ rfl⟩
    · rintro a ⟨rt, rfl, hg⟩
      have eT : xg_Tscale (xs_rates u rt) = lN (sc P) := hT.2.2.2.2.1
      refine ⟨xs_rates u rt, ?_, rt, rfl, fun x hx => hg x (by omega)⟩
      unfold bX2_settleStands_12
      dsimp only
      rw [eT, nI_l (by omega)]
      split
      · rfl
      · rw [if_pos (by rw [pk_lLT (by omega) (by omega)]; omega)]
  obtain ⟨b, e, rt, rfl, hg⟩ := key
  rw [e, zbind_s]
  exact ⟨rt, rfl, hg⟩
