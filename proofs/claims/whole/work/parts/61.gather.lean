/-! the class gathers the laws that fit -/
def xs_gr (u : CX) (g : (Nat → Int32) × (Nat → Int32) × (Nat → Int64) × (Nat → Int32) × (Nat → Int32) × Int32 × Int32 × Int32 × Int32) : CX := (u.1, u.2.1, u.2.2.1, u.2.2.2.1, u.2.2.2.2.1, u.2.2.2.2.2.1, u.2.2.2.2.2.2.1, g, u.2.2.2.2.2.2.2.2)
def Lf (b : Nat → Bool) (i : Nat) : List Nat := (List.range i).filter b
theorem Lf_t {b : Nat → Bool} {i : Nat} (h : b i = true) : Lf b (i + 1) = Lf b i ++ [i] := by
  unfold Lf
  rw [List.range_succ, List.filter_append, List.filter_cons_of_pos h]
  rfl
theorem Lf_f {b : Nat → Bool} {i : Nat} (h : ¬ b i = true) : Lf b (i + 1) = Lf b i := by
  unfold Lf
  rw [List.range_succ, List.filter_append, List.filter_cons_of_neg h]
  exact List.append_nil _
theorem Lf_skip {b : Nat → Bool} {i : Nat} : ∀ m, (∀ j, i ≤ j → j < i + m → ¬ b j = true) → Lf b (i + m) = Lf b i := by
  intro m
  induction m with
  | zero => intro _; rfl
  | succ m ih =>
    intro h
    rw [show i + (m + 1) = i + m + 1 by omega, Lf_f (h _ (by omega) (by omega)), ih (fun j h1 h2 => h j h1 (by omega))]
theorem Lf_len (b : Nat → Bool) (i : Nat) : (Lf b i).length ≤ i := by
  have := List.length_filter_le b (List.range i)
  rw [List.length_range] at this
  exact this
def lw4 (a b c d : Nat) : Nat := ((a * 11 + b) * 11 + c) * 11 + d
theorem lw4_f {a b c d : Nat} (ha : a ≤ 10) (hb : b ≤ 10) (hc : c ≤ 10) (hd : d ≤ 10) : lw4 a b c d < 14641 ∧ fg (lw4 a b c d) 0 = a ∧ fg (lw4 a b c d) 1 = b ∧ fg (lw4 a b c d) 2 = c ∧ fg (lw4 a b c d) 3 = d := by
  have e0 : fg (lw4 a b c d) 0 = lw4 a b c d / 1331 := rfl
  have e1 : fg (lw4 a b c d) 1 = lw4 a b c d / 121 % 11 := rfl
  have e2 : fg (lw4 a b c d) 2 = lw4 a b c d / 11 % 11 := rfl
  have e3 : fg (lw4 a b c d) 3 = lw4 a b c d % 11 := rfl
  rw [e0, e1, e2, e3]
  unfold lw4
  omega
theorem xallHo {P : Nat → Nat} {n : Nat} {T : Nat → Nat → Nat} {u : CX} (hP : rP P) (hK : rK (T n)) (hT : xTm P u) (hx : xHm n T u) {a b c d x : Nat} (ha : a ≤ 10) (hb : b ≤ 10) (hc : c ≤ 10) (hd : d ≤ 10) (hxs : x ≤ sc P) : fX2_allHolesAreNear (nI a) (nI b) (nI c) (nI d) (lN (hoR P x)) u = some (bI (holB P (T n) 0 a x (P 17) && (holB P (T n) 1 b x (P 17) && (holB P (T n) 2 c x (P 17) && holB P (T n) 3 d x (P 17))))) := by
  have hsl := hP.2.2.2.2.2.2.1
  unfold fX2_allHolesAreNear
  rw [show (5 : Int32) = nI 5 from rfl, show (0 : Int32) = nI 0 from rfl, show (1 : Int32) = nI 1 from rfl, show (2 : Int32) = nI 2 from rfl, show (3 : Int32) = nI 3 from rfl, zget_n (by omega) (by omega), show xg_Trules u 5 = nI (P 17) from hT.2.1 5 (by omega), xnearP hP hK hT hx (by omega) ha hxs hsl, xnearP hP hK hT hx (by omega) hb hxs hsl, xnearP hP hK hT hx (by omega) hc hxs hsl, xnearP hP hK hT hx (by omega) hd hxs hsl]
  cases holB P (T n) 0 a x (P 17) <;> cases holB P (T n) 1 b x (P 17) <;> cases holB P (T n) 2 c x (P 17) <;> cases holB P (T n) 3 d x (P 17) <;> rfl
def hfOK (P K : Nat → Nat) (hf : Nat → Int32) (rt : Nat → Int64) : Prop := ∀ x, x ≤ sc P → hf x = bI (homB P K x (P 17)) ∧ (homB P K x (P 17) = true → rt x = lN (hoR P x))
theorem xsettle {P : Nat → Nat} {n : Nat} {T : Nat → Nat → Nat} {u : CX} (hP : rP P) (hK : rK (T n)) (hT : xTm P u) (hx : xHm n T u) {k : Nat} (hk : 20000 ≤ k) : ∃ hf rt, fX2_settleStands k u = some (xs_gr u (xg_list u, hf, rt, xg_tally u, xg_worst u, xg_gsize u, xg_stale u, xg_safestF u, xg_unlikeF u)) ∧ hfOK P (T n) hf rt := by
  have hsl := hP.2.2.2.2.2.2.1
  obtain ⟨w1, w2, w3, w4, w5, w6⟩ := wh_b hP
  unfold fX2_settleStands
  rw [show (5 : Int32) = nI 5 from rfl, zget_n (by omega) (by omega), show xg_Trules u 5 = nI (P 17) from hT.2.1 5 (by omega)]
  have key : ∃ b, ziter (bX2_settleStands_12 k (nI (P 17))) k ((0 : Int32), u) = some b ∧ ∃ hf rt, b = xs_gr u (xg_list u, hf, rt, xg_tally u, xg_worst u, xg_gsize u, xg_stale u, xg_safestF u, xg_unlikeF u) ∧ hfOK P (T n) hf rt := by
    refine ziter_inv (fun i a => ∃ hf rt, a = (nI i, xs_gr u (xg_list u, hf, rt, xg_tally u, xg_worst u, xg_gsize u, xg_stale u, xg_safestF u, xg_unlikeF u)) ∧ ∀ x, x < i → hf x = bI (homB P (T n) x (P 17)) ∧ (homB P (T n) x (P 17) = true → rt x = lN (hoR P x))) _ (sc P + 1) ?_ ?_ (sc P + 1) 0 k _ (by omega) ⟨xg_homesFit u, xg_rates u, rfl, fun j hj => by omega⟩ (by omega)
    · rintro i a hi ⟨hf, rt, rfl, hg⟩
      left
      unfold bX2_settleStands_12
      dsimp only
      have eT : xg_Tscale (xs_gr u (xg_list u, hf, rt, xg_tally u, xg_worst u, xg_gsize u, xg_stale u, xg_safestF u, xg_unlikeF u)) = lN (sc P) := hT.2.2.2.2.1
      rw [if_neg (by rw [show (800 : Int32) = nI 800 from rfl, nI_ltI (by omega) (by omega)]; omega), eT, nI_l (by omega), if_neg (by rw [pk_lLT (by omega) (by omega)]; omega), xnearH (u := xs_gr u (xg_list u, hf, rt, xg_tally u, xg_worst u, xg_gsize u, xg_stale u, xg_safestF u, xg_unlikeF u)) hP hK hT hx (by omega) hsl (by omega), zbind_s, zix_n (by omega) (by omega), zb_e, zget_n (by omega) (by omega)]
      have ev : vp_nar .boolean (bI (homB P (T n) i (P 17))) = bI (homB P (T n) i (P 17)) := by
        cases homB P (T n) i (P 17) <;> rfl
      rw [ev]
      rw [show xg_homesFit (xs_homesFit (xs_gr u (xg_list u, hf, rt, xg_tally u, xg_worst u, xg_gsize u, xg_stale u, xg_safestF u, xg_unlikeF u)) (upd (xg_homesFit (xs_gr u (xg_list u, hf, rt, xg_tally u, xg_worst u, xg_gsize u, xg_stale u, xg_safestF u, xg_unlikeF u))) i (bI (homB P (T n) i (P 17))))) i = bI (homB P (T n) i (P 17)) from upd_s, bI_if, zix_n (by omega) (by omega), zb_e, xholeRate (u := xs_homesFit (xs_gr u (xg_list u, hf, rt, xg_tally u, xg_worst u, xg_gsize u, xg_stale u, xg_safestF u, xg_unlikeF u)) (upd (xg_homesFit (xs_gr u (xg_list u, hf, rt, xg_tally u, xg_worst u, xg_gsize u, xg_stale u, xg_safestF u, xg_unlikeF u))) i (bI (homB P (T n) i (P 17))))) hP hT, zbind_s, zix_n (by omega) (by omega), zb_e, nI_1]
      cases c : homB P (T n) i (P 17)
      · rw [if_neg (by decide)]
        refine ⟨_, rfl, upd hf i (bI false), vp_updL rt i 0, rfl, ?_⟩
        intro x hx
        by_cases cx : x = i
        · subst cx
          rw [upd_s, c]
          exact ⟨rfl, fun z => absurd z (by decide)⟩
        · rw [upd_n cx, updL_n cx]
          exact hg x (by omega)
      · rw [if_pos rfl]
        refine ⟨_, rfl, upd hf i (bI true), vp_updL rt i (lN (hoR P i)), rfl, ?_⟩
        intro x hx
        by_cases cx : x = i
        · subst cx
          rw [upd_s, c, updL_s]
          exact ⟨rfl, fun _ => rfl⟩
        · rw [upd_n cx, updL_n cx]
          exact hg x (by omega)
    · rintro a ⟨hf, rt, rfl, hg⟩
      have eT : xg_Tscale (xs_gr u (xg_list u, hf, rt, xg_tally u, xg_worst u, xg_gsize u, xg_stale u, xg_safestF u, xg_unlikeF u)) = lN (sc P) := hT.2.2.2.2.1
      refine ⟨xs_gr u (xg_list u, hf, rt, xg_tally u, xg_worst u, xg_gsize u, xg_stale u, xg_safestF u, xg_unlikeF u), ?_, hf, rt, rfl, fun x hx => hg x (by omega)⟩
      unfold bX2_settleStands_12
      dsimp only
      rw [eT, nI_l (by omega)]
      split
      · rfl
      · rw [if_pos (by rw [pk_lLT (by omega) (by omega)]; omega)]
  obtain ⟨b, e, hf, rt, rfl, hg⟩ := key
  rw [e, zbind_s]
  exact ⟨hf, rt, rfl, hg⟩
