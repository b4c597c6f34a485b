/-! the class gathers the laws that fit: the bits of a row, a law kept, the walk -/
theorem kb_0 : ∀ e, e < 11 → kb 0 e = false := by decide
theorem kb_m : ∀ d, d < 11 → ∀ e, e < 11 → ((1 : Int32) <<< (nI d &&& 31)).toBitVec.getLsbD e = decide (e = d) := by decide
theorem kb_s : ∀ e, e < 11 → ((nI e &&& 31).toBitVec.smod 32).toNat = e := by decide
theorem bit1 (x : BitVec 32) : (x &&& 1#32 = 1#32) ↔ x.getLsbD 0 = true := by
  constructor
  · intro h
    have := congrArg (fun z : BitVec 32 => z.getLsbD 0) h
    simpa using this
  · intro h
    apply BitVec.eq_of_getLsbD_eq
    intro i hi
    rw [BitVec.getLsbD_and, BitVec.getLsbD_one]
    by_cases c : i = 0
    · subst c
      simp [h]
    · simp [c]
theorem kb_t (w : Int32) {e : Nat} (he : e < 11) : kb w e = w.toBitVec.getLsbD e := by
  unfold kb
  have hs : (w >>> (nI e &&& 31)).toBitVec = w.toBitVec.sshiftRight e := by
    rw [Int32.toBitVec_shiftRight]
    show w.toBitVec.sshiftRight ((nI e &&& 31).toBitVec.smod 32).toNat = _
    rw [kb_s e he]
  have h1 : ((w >>> (nI e &&& 31)) &&& 1 = 1) ↔ w.toBitVec.getLsbD e = true := by
    rw [← Int32.toBitVec_inj, Int32.toBitVec_and, hs]
    show (w.toBitVec.sshiftRight e &&& 1#32 = 1#32) ↔ _
    rw [bit1, BitVec.getLsbD_sshiftRight]
    have : e + 0 < 32 := by omega
    simp [show e < 32 by omega]
  by_cases c : w.toBitVec.getLsbD e = true
  · rw [decide_eq_true (h1.mpr c), c]
  · rw [decide_eq_false (fun z => c (h1.mp z))]
    cases h : w.toBitVec.getLsbD e
    · rfl
    · exact absurd h c
theorem kb_or (w : Int32) {d e : Nat} (hd : d < 11) (he : e < 11) : kb (w ||| ((1 : Int32) <<< (nI d &&& 31))) e = (kb w e || decide (e = d)) := by
  rw [kb_t _ he, kb_t _ he, Int32.toBitVec_or, BitVec.getLsbD_or, kb_m d hd e he]
theorem Lf_no {b : Nat → Bool} {i : Nat} (h : (Lf b i).length = 0) : ∀ j, j < i → ¬ b j = true := by
  intro j hj hb
  have hm : j ∈ Lf b i := List.mem_filter.mpr ⟨List.mem_range.mpr hj, hb⟩
  rw [List.eq_nil_of_length_eq_zero h] at hm
  cases hm
theorem cM_congr {g h : Nat → Bool} : ∀ m, (∀ i, i < m → g i = h i) → cM g m = cM h m := by
  intro m
  induction m with
  | zero => intro _; rfl
  | succ m ih =>
    intro hq
    show cM g m + _ = cM h m + _
    rw [ih (fun i hi => hq i (by omega)), hq m (by omega)]
theorem tal_app (L : List Nat) (x p d : Nat) : tal (L ++ [x]) p d (L ++ [x]).length = tal L p d L.length + if fg x p = d then 1 else 0 := by
  rw [List.length_append]
  show cM _ L.length + (if decide (fg ((L ++ [x]).getD L.length 0) p = d) = true then 1 else 0) = _
  have e : (L ++ [x]).getD L.length 0 = x := by
    rw [List.getD_eq_getElem?_getD, List.getElem?_append_right (Nat.le_refl _), Nat.sub_self]
    rfl
  have e2 : cM (fun i => decide (fg ((L ++ [x]).getD i 0) p = d)) L.length = tal L p d L.length := by
    refine cM_congr L.length (fun i hi => ?_)
    rw [List.getD_eq_getElem?_getD, List.getD_eq_getElem?_getD, List.getElem?_append_left hi]
  rw [e, e2]
  by_cases c : fg x p = d
  · rw [decide_eq_true c, if_pos rfl, if_pos c]
  · rw [decide_eq_false c, if_neg (by decide), if_neg c]
/-- the four tallies of a law -/
def up4 (tl : Nat → Int32) (a b c d : Nat) : Nat → Int32 := upd (upd (upd (upd tl a (tl a + 1)) (11 + b) (tl (11 + b) + 1)) (22 + c) (tl (22 + c) + 1)) (33 + d) (tl (33 + d) + 1)
theorem up4_0 {tl : Nat → Int32} {a b c d e : Nat} (he : e ≤ 10) : up4 tl a b c d e = if a = e then tl e + 1 else tl e := by
  unfold up4
  rw [upd_n (by omega), upd_n (by omega), upd_n (by omega)]
  by_cases q : a = e
  · rw [if_pos q, q, upd_s]
  · rw [if_neg q, upd_n (fun z => q z.symm)]
theorem up4_1 {tl : Nat → Int32} {a b c d e : Nat} (ha : a ≤ 10) (he : e ≤ 10) : up4 tl a b c d (11 + e) = if b = e then tl (11 + e) + 1 else tl (11 + e) := by
  unfold up4
  rw [upd_n (by omega), upd_n (by omega)]
  by_cases q : b = e
  · rw [if_pos q, q, upd_s]
  · rw [if_neg q, upd_n (by omega), upd_n (by omega)]
theorem up4_2 {tl : Nat → Int32} {a b c d e : Nat} (ha : a ≤ 10) (hb : b ≤ 10) (he : e ≤ 10) : up4 tl a b c d (22 + e) = if c = e then tl (22 + e) + 1 else tl (22 + e) := by
  unfold up4
  rw [upd_n (by omega)]
  by_cases q : c = e
  · rw [if_pos q, q, upd_s]
  · rw [if_neg q, upd_n (by omega), upd_n (by omega), upd_n (by omega)]
theorem up4_3 {tl : Nat → Int32} {a b c d e : Nat} (ha : a ≤ 10) (hb : b ≤ 10) (hc : c ≤ 10) : up4 tl a b c d (33 + e) = if d = e then tl (33 + e) + 1 else tl (33 + e) := by
  unfold up4
  by_cases q : d = e
  · rw [if_pos q, q, upd_s]
  · rw [if_neg q, upd_n (by omega), upd_n (by omega), upd_n (by omega), upd_n (by omega)]
def xG (u : CX) (bt : Nat → Int32) (rt : Nat → Int64) (tl : Nat → Int32) (sz lo hi : Int32) : CX := (u.1, u.2.1, u.2.2.1, u.2.2.2.1, u.2.2.2.2.1, u.2.2.2.2.2.1, u.2.2.2.2.2.2.1, (bt, rt, tl, xg_worst u, sz, lo, hi, xg_stale u, xg_safestF u, xg_unlikeF u), u.2.2.2.2.2.2.2.2)
section
variable (u : CX) (bt : Nat → Int32) (rt : Nat → Int64) (tl : Nat → Int32) (sz lo hi : Int32)
theorem G_0 : xs_tally (xs_bits u bt) tl = xG u bt (xg_rates u) tl (xg_gsize u) (xg_gleast u) (xg_gmost u) := rfl
theorem G_b (x : Nat → Int32) : xs_bits (xG u bt rt tl sz lo hi) x = xG u x rt tl sz lo hi := rfl
theorem G_t (x : Nat → Int32) : xs_tally (xG u bt rt tl sz lo hi) x = xG u bt rt x sz lo hi := rfl
theorem G_s (x : Int32) : xs_gsize (xG u bt rt tl sz lo hi) x = xG u bt rt tl x lo hi := rfl
theorem G_l (x : Int32) : xs_gleast (xG u bt rt tl sz lo hi) x = xG u bt rt tl sz x hi := rfl
theorem G_h (x : Int32) : xs_gmost (xG u bt rt tl sz lo hi) x = xG u bt rt tl sz lo x := rfl
theorem Gg_b : xg_bits (xG u bt rt tl sz lo hi) = bt := rfl
theorem Gg_t : xg_tally (xG u bt rt tl sz lo hi) = tl := rfl
theorem Gg_s : xg_gsize (xG u bt rt tl sz lo hi) = sz := rfl
theorem Gg_l : xg_gleast (xG u bt rt tl sz lo hi) = lo := rfl
theorem G_tst {β : Type} {j : Nat} (hj : j < 44) (k : CX → Option β) : zget 44 (xg_tally (xG u bt rt tl sz lo hi)) (nI j) (fun v => zix 44 (nI j) (fun j2 => zb (xs_tally (xG u bt rt tl sz lo hi) (upd (xg_tally (xG u bt rt tl sz lo hi)) j2 (v + (1 : Int32)))) (fun u' => k u'))) = k (xG u bt rt (upd tl j (tl j + 1)) sz lo hi) := by
  rw [zget_n hj (by omega), zix_n hj (by omega), zb_e, G_t, Gg_t]
end
/-- the laws kept so far -/
def Gi (b : Nat → Bool) (u : CX) (rt : Nat → Int64) (i : Nat) (u' : CX) : Prop := ∃ bt tl sz lo hi, u' = xG u bt rt tl sz lo hi ∧ xKp b i (xG u bt rt tl sz lo hi)
theorem xKp_f {b : Nat → Bool} {i : Nat} {u : CX} (h : xKp b i u) (hb : ¬ b i = true) : xKp b (i + 1) u := by
  obtain ⟨h1, h2, h3, h4⟩ := h
  unfold xKp
  rw [Lf_f hb]
  refine ⟨h1, fun law hl => ?_, h3, ?_⟩
  · rw [h2 law hl]
    by_cases c : law = i
    · subst c
      have : b law = false := by
        cases q : b law
        · rfl
        · exact absurd q hb
      rw [this, Bool.and_false, Bool.and_false]
    · have : decide (law < i) = decide (law < i + 1) := by
        by_cases q : law < i
        · rw [decide_eq_true q, decide_eq_true (by omega)]
        · rw [decide_eq_false q, decide_eq_false (by omega)]
      rw [this]
  · rcases h4 with h4 | ⟨lo, hi, q1, q2, q3, q4, q5, q6, q7⟩
    · exact Or.inl h4
    · refine Or.inr ⟨lo, hi, q1, by omega, q3, q4, q5, fun j j1 j2 => ?_, q7⟩
      by_cases c : j = i
      · rw [c]; exact hb
      · exact q6 j j1 (by omega)
theorem Gi_f {b : Nat → Bool} {u : CX} {rt : Nat → Int64} {i : Nat} {u' : CX} (h : Gi b u rt i u') (hb : ¬ b i = true) : Gi b u rt (i + 1) u' := by
  obtain ⟨bt, tl, sz, lo, hi, e, h⟩ := h
  exact ⟨bt, tl, sz, lo, hi, e, xKp_f h hb⟩
theorem Gi_skip {b : Nat → Bool} {u : CX} {rt : Nat → Int64} {i : Nat} {u' : CX} (h : Gi b u rt i u') : ∀ m, (∀ j, i ≤ j → j < i + m → ¬ b j = true) → Gi b u rt (i + m) u' := by
  intro m
  induction m with
  | zero => intro _; exact h
  | succ m ih =>
    intro hb
    exact Gi_f (ih (fun j h1 h2 => hb j h1 (by omega))) (hb (i + m) (by omega) (by omega))
theorem xkeep {f : Nat → Bool} {u : CX} {rt : Nat → Int64} {a b c d : Nat} (ha : a ≤ 10) (hb : b ≤ 10) (hc : c ≤ 10) (hd : d ≤ 10) {u' : CX} (hG : Gi f u rt (lw4 a b c d) u') (hB : f (lw4 a b c d) = true) : ∃ u'', fX2_keep (nI a) (nI b) (nI c) (nI d) u' = some u'' ∧ Gi f u rt (lw4 a b c d + 1) u'' := by
  obtain ⟨f1, f2, f3, f4, f5⟩ := lw4_f ha hb hc hd
  have hi : lw4 a b c d = ((a * 11 + b) * 11 + c) * 11 + d := rfl
  generalize lw4 a b c d = i at *
  have hlen := Lf_len f i
  obtain ⟨bt, tl, sz, lo, hi', rfl, h1, h2, h3, h4⟩ := hG
  have hrow : (a * 11 + b) * 11 + c < 1331 := by omega
  have r1 : (nI a * (11 : Int32) + nI b) * 11 + nI c = nI ((a * 11 + b) * 11 + c) := by rw [show (11 : Int32) = nI 11 from rfl, pk_mul, nI_add, pk_mul, nI_add]
  have r2 : nI ((a * 11 + b) * 11 + c) * (11 : Int32) + nI d = nI i := by rw [show (11 : Int32) = nI 11 from rfl, pk_mul, nI_add, hi]
  have r3 : (11 : Int32) + nI b = nI (11 + b) := nI_add 11 b
  have r4 : (22 : Int32) + nI c = nI (22 + c) := nI_add 22 c
  have r5 : (33 : Int32) + nI d = nI (33 + d) := nI_add 33 d
  have hbits : ∀ law, law < 14641 → kb (upd bt ((a * 11 + b) * 11 + c) (bt ((a * 11 + b) * 11 + c) ||| ((1 : Int32) <<< (nI d &&& 31))) (law / 11)) (law % 11) = (decide (law < i + 1) && f law) := by
    intro law hl
    have h2' : kb (bt (law / 11)) (law % 11) = (decide (law < i) && f law) := h2 law hl
    by_cases q : law / 11 = (a * 11 + b) * 11 + c
    · rw [← q, upd_s, kb_or _ (by omega) (by omega), h2']
      by_cases q2 : law = i
      · rw [q2, hB, decide_eq_true (show i % 11 = d by omega), Bool.or_true, decide_eq_true (show i < i + 1 by omega)]
        rfl
      · rw [decide_eq_false (show ¬ law % 11 = d by omega), Bool.or_false]
        by_cases q3 : law < i
        · rw [decide_eq_true q3, decide_eq_true (by omega)]
        · rw [decide_eq_false q3, decide_eq_false (by omega)]
    · rw [upd_n q, h2']
      by_cases q3 : law < i
      · rw [decide_eq_true q3, decide_eq_true (by omega)]
      · rw [decide_eq_false q3, decide_eq_false (by omega)]
  have htal : ∀ p e, p < 4 → e ≤ 10 → up4 tl a b c d (11 * p + e) = nI (tal (Lf f (i + 1)) p e (Lf f (i + 1)).length) := by
    intro p e hp he
    have h3' : tl (11 * p + e) = nI (tal (Lf f i) p e (Lf f i).length) := h3 p e hp he
    rw [Lf_t hB, tal_app]
    have fin : ∀ x, fg i p = x → (if x = e then tl (11 * p + e) + 1 else tl (11 * p + e)) = nI (tal (Lf f i) p e (Lf f i).length + if fg i p = e then 1 else 0) := by
      intro x hx
      rw [hx, h3']
      by_cases q : x = e
      · rw [if_pos q, if_pos q, nI_1]
      · rw [if_neg q, if_neg q, Nat.add_zero]
    match p, hp with
    | 0, _ => rw [← fin a f2, show 11 * 0 + e = e by omega]; exact up4_0 he
    | 1, _ => rw [← fin b f3]; exact up4_1 ha he
    | 2, _ => rw [← fin c f4]; exact up4_2 ha hb he
    | 3, _ => rw [← fin d f5]; exact up4_3 ha hb hc
  have ht1 : (upd tl a (tl a + 1)) (11 + b) = tl (11 + b) := upd_n (by omega)
  have ht2 : (upd (upd tl a (tl a + 1)) (11 + b) (tl (11 + b) + 1)) (22 + c) = tl (22 + c) := by rw [upd_n (by omega), upd_n (by omega)]
  have ht3 : (upd (upd (upd tl a (tl a + 1)) (11 + b) (tl (11 + b) + 1)) (22 + c) (tl (22 + c) + 1)) (33 + d) = tl (33 + d) := by rw [upd_n (by omega), upd_n (by omega), upd_n (by omega)]
  have hu4 : upd (upd (upd (upd tl a (tl a + 1)) (11 + b) (tl (11 + b) + 1)) (22 + c) (tl (22 + c) + 1)) (33 + d) (tl (33 + d) + 1) = up4 tl a b c d := rfl
  have hsz : sz = nI (Lf f i).length := h1
  have hsz2 : sz + 1 = nI (Lf f (i + 1)).length := by
    rw [hsz, nI_1, Lf_t hB, List.length_append]
    rfl
  have h4' : (Lf f i).length = 0 ∨ ∃ l h, l ≤ h ∧ h < i ∧ f l = true ∧ f h = true ∧ (∀ j, j < l → ¬ f j = true) ∧ (∀ j, h < j → j < i → ¬ f j = true) ∧ lo = nI l ∧ hi' = nI h := h4
  unfold fX2_keep
  rw [r1, zb_e, r2, zb_e, zget_n hrow (by omega), zix_n hrow (by omega), zb_e, G_b, Gg_b, G_tst u _ rt tl sz lo hi' (by omega), r3, zb_e, G_tst u _ rt _ sz lo hi' (by omega), ht1, r4, zb_e, G_tst u _ rt _ sz lo hi' (by omega), ht2, r5, zb_e, G_tst u _ rt _ sz lo hi' (by omega), ht3, hu4, Gg_s]
  generalize up4 tl a b c d = t4 at htal
  generalize upd bt ((a * 11 + b) * 11 + c) (bt ((a * 11 + b) * 11 + c) ||| ((1 : Int32) <<< (nI d &&& 31))) = b4 at hbits
  by_cases c0 : (Lf f i).length = 0
  · rw [if_pos (show sz = 0 by rw [hsz, c0]; rfl), zb_e, zb_e, zb_e, G_l, G_h, G_s, Gg_s]
    exact ⟨_, rfl, b4, t4, sz + 1, nI i, nI i, rfl, hsz2, hbits, htal, Or.inr ⟨i, i, Nat.le_refl _, by omega, hB, hB, Lf_no c0, fun j j1 j2 => absurd j2 (by omega), rfl, rfl⟩⟩
  · rw [if_neg (show ¬ sz = 0 by rw [hsz, show (0 : Int32) = nI 0 from rfl, nI_eq (by omega) (by omega)]; exact c0), zb_e, zb_e, zb_e, Gg_l, G_l, G_h, G_s, Gg_s]
    rcases h4' with h4' | ⟨l, h, q1, q2, q3, q4, q5, q6, q7, q8⟩
    · exact absurd h4' c0
    · exact ⟨_, rfl, b4, t4, sz + 1, lo, nI i, rfl, hsz2, hbits, htal, Or.inr ⟨l, i, by omega, by omega, q3, hB, q5, fun j j1 j2 => absurd j2 (by omega), q7, rfl⟩⟩
theorem fit4 {P K W S F : Nat → Nat} {sl law : Nat} : fitB P K W S F sl law = true ↔ (evB W S F 0 (fg law 0) = true ∧ evB W S F 1 (fg law 1) = true ∧ evB W S F 2 (fg law 2) = true ∧ evB W S F 3 (fg law 3) = true) ∧ homB P K (xx P law) sl = true ∧ holAll P K law (xx P law) sl = true := by
  unfold fitB evAll
  simp only [Bool.and_eq_true]
theorem g49 {P : Nat → Nat} {n : Nat} {T : Nat → Nat → Nat} {W S F : Nat → Nat} {u : CX} {v : MX} (hP : rP P) (hK : rK (T n)) (h3 : rE W S F) (hT : xTm P u) (hx : xHm n T u) (hE : rEv W S F u v) {rt : Nat → Int64} (hh : hfOK P (T n) rt) {k a b c d : Nat} (ha : a ≤ 10) (hb : b ≤ 10) (hc : c ≤ 10) (hd : d ≤ 10) (e0 : evB W S F 0 a = true) (e1 : evB W S F 1 b = true) (e2 : evB W S F 2 c = true) {u' : CX} (hG : Gi (fitB P (T n) W S F (P 17)) u rt (lw4 a b c d) u') : ∃ u'', bX2_gatherWith_49 k (nI a) (nI b) (nI (P 0 * (10 - a) + P 1 * (10 - b))) (nI c) (nI d, u') = some (.inl (nI (d + 1), u'')) ∧ Gi (fitB P (T n) W S F (P 17)) u rt (lw4 a b c d + 1) u'' := by
  obtain ⟨f1, f2, f3, f4, f5⟩ := lw4_f ha hb hc hd
  have hxx := xx_le hP (lw4 a b c d)
  have hxe : P 0 * (10 - a) + P 1 * (10 - b) + P 2 * (10 - c) + P 3 * (10 - d) = xx P (lw4 a b c d) := by unfold xx; rw [f2, f3, f4, f5]
  have hfit := fit4 (P := P) (K := T n) (W := W) (S := S) (F := F) (sl := P 17) (law := lw4 a b c d)
  have hhol : holAll P (T n) (lw4 a b c d) (xx P (lw4 a b c d)) (P 17) = (holB P (T n) 0 a (xx P (lw4 a b c d)) (P 17) && (holB P (T n) 1 b (xx P (lw4 a b c d)) (P 17) && (holB P (T n) 2 c (xx P (lw4 a b c d)) (P 17) && holB P (T n) 3 d (xx P (lw4 a b c d)) (P 17)))) := by unfold holAll; rw [f2, f3, f4, f5]
  rw [f2, f3, f4, f5] at hfit
  have hrt := hh _ hxx.1
  have hkp := xkeep ha hb hc hd hG
  have hG0 := hG
  have hT' : xTm P u' := by obtain ⟨bt, tl, sz, lo, hi, rfl, _⟩ := hG; exact hT
  have hx' : xHm n T u' := by obtain ⟨bt, tl, sz, lo, hi, rfl, _⟩ := hG; exact hx
  have hE' : rEv W S F u' v := by obtain ⟨bt, tl, sz, lo, hi, rfl, _⟩ := hG; exact hE
  have hr' : xg_rates u' = rt := by obtain ⟨bt, tl, sz, lo, hi, rfl, _⟩ := hG; rfl
  unfold bX2_gatherWith_49
  dsimp only
  rw [if_neg (by rw [show (10 : Int32) = nI 10 from rfl, nI_ltI (by omega) (by omega)]; omega), show (2 : Int32) = nI 2 from rfl, show (3 : Int32) = nI 3 from rfl, xpartS hT' (by omega) hc, zbind_s, xpartS hT' (by omega) hd, zbind_s, zb_e, nI_add, nI_add, hxe, if_neg (nI_pos (by omega)), if_neg (by rw [show (800 : Int32) = nI 800 from rfl, nI_ltI (by omega) (by omega)]; omega), zget_n (by omega) (by omega), zget_n (by omega) (by omega), hr', hrt, xallow hE' h3 (by omega) hd, bI_bind, nI_1]
  by_cases c1 : homB P (T n) (xx P (lw4 a b c d)) (P 17) = true
  · simp only [if_pos c1]
    rw [if_neg (lN_ne1 (hoR_b hP hxx.1))]
    cases c2 : evB W S F 3 d
    · rw [if_neg (by decide)]
      refine ⟨_, rfl, Gi_f hG0 (fun z => ?_)⟩
      have := (hfit.mp z).1.2.2.2
      rw [c2] at this
      exact absurd this (by decide)
    · rw [if_pos rfl, xallHo hP hK hT' hx' ha hb hc hd hxx.1, bI_bind, ← hhol]
      cases c3 : holAll P (T n) (lw4 a b c d) (xx P (lw4 a b c d)) (P 17)
      · rw [if_neg (by decide)]
        refine ⟨_, rfl, Gi_f hG0 (fun z => ?_)⟩
        have := (hfit.mp z).2.2
        rw [c3] at this
        exact absurd this (by decide)
      · have hB : fitB P (T n) W S F (P 17) (lw4 a b c d) = true := hfit.mpr ⟨⟨e0, e1, e2, c2⟩, c1, c3⟩
        obtain ⟨w, k1, k2⟩ := hkp hB
        rw [if_pos rfl, k1, zbind_s]
        exact ⟨_, rfl, k2⟩
  · simp only [if_neg c1]
    rw [if_pos trivial]
    exact ⟨_, rfl, Gi_f hG0 (fun z => c1 (hfit.mp z).2.1)⟩
theorem lw4_d {a b c d : Nat} : lw4 a b c d + 1 = lw4 a b c (d + 1) := rfl
theorem lw4_c {a b c : Nat} : lw4 a b c 11 = lw4 a b (c + 1) 0 := by unfold lw4; omega
theorem lw4_b {a b : Nat} : lw4 a b 11 0 = lw4 a (b + 1) 0 0 := by unfold lw4; omega
theorem lw4_a {a : Nat} : lw4 a 11 0 0 = lw4 (a + 1) 0 0 0 := by unfold lw4; omega
theorem fg_c {a b c j : Nat} (ha : a ≤ 10) (hb : b ≤ 10) (hc : c ≤ 10) (h1 : lw4 a b c 0 ≤ j) (h2 : j < lw4 a b c 0 + 11) : fg j 2 = c := by
  show j / 11 % 11 = c
  unfold lw4 at h1 h2
  omega
theorem fg_b {a b j : Nat} (ha : a ≤ 10) (hb : b ≤ 10) (h1 : lw4 a b 0 0 ≤ j) (h2 : j < lw4 a b 0 0 + 121) : fg j 0 = a ∧ fg j 1 = b := by
  show j / 1331 = a ∧ j / 121 % 11 = b
  unfold lw4 at h1 h2
  omega
theorem ggath {P : Nat → Nat} {n : Nat} {T : Nat → Nat → Nat} {W S F : Nat → Nat} {u : CX} {v : MX} (hP : rP P) (hK : rK (T n)) (h3 : rE W S F) (hT : xTm P u) (hx : xHm n T u) (hE : rEv W S F u v) {rt : Nat → Int64} (hh : hfOK P (T n) rt) {k a b : Nat} (hk : 20000 ≤ k) (ha : a ≤ 10) (hb : b ≤ 10) (e0 : evB W S F 0 a = true) (e1 : evB W S F 1 b = true) {u' : CX} (hG : Gi (fitB P (T n) W S F (P 17)) u rt (lw4 a b 0 0) u') : ∃ u'', fX2_gatherWith k (nI a) (nI b) u' = some u'' ∧ Gi (fitB P (T n) W S F (P 17)) u rt (lw4 a (b + 1) 0 0) u'' := by
  have hT' : xTm P u' := by obtain ⟨bt, tl, sz, lo, hi, rfl, _⟩ := hG; exact hT
  unfold fX2_gatherWith
  rw [show (0 : Int32) = nI 0 from rfl, show (1 : Int32) = nI 1 from rfl, xpartS hT' (by omega) ha, zbind_s, xpartS hT' (by omega) hb, zbind_s, zb_e, nI_add]
  have key : ∃ w, ziter (bX2_gatherWith_23 k (nI a) (nI b) (nI (P 0 * (10 - a) + P 1 * (10 - b)))) k (nI 0, u') = some w ∧ Gi (fitB P (T n) W S F (P 17)) u rt (lw4 a b 11 0) w := by
    refine ziter_inv (fun c s => ∃ w, s = (nI c, w) ∧ Gi (fitB P (T n) W S F (P 17)) u rt (lw4 a b c 0) w) _ 11 ?_ ?_ 11 0 k _ (by omega) ⟨u', rfl, hG⟩ (by omega)
    · rintro c s hc ⟨w, rfl, hw⟩
      left
      have hE' : rEv W S F w v := by obtain ⟨bt, tl, sz, lo, hi, rfl, _⟩ := hw; exact hE
      unfold bX2_gatherWith_23
      dsimp only
      rw [if_neg (by rw [show (10 : Int32) = nI 10 from rfl, nI_ltI (by omega) (by omega)]; omega), show (2 : Int32) = nI 2 from rfl, xallow hE' h3 (by omega) (by omega), bI_bind, nI_1]
      cases e2 : evB W S F 2 c
      · rw [if_neg (by decide)]
        refine ⟨_, rfl, w, rfl, ?_⟩
        rw [← lw4_c]
        refine Gi_skip hw 11 (fun j h1 h2 z => ?_)
        have := (fit4.mp z).1.2.2.1
        rw [fg_c ha hb (by omega) h1 h2, e2] at this
        exact absurd this (by decide)
      · rw [if_pos rfl]
        have k2 : ∃ w', ziter (bX2_gatherWith_49 k (nI a) (nI b) (nI (P 0 * (10 - a) + P 1 * (10 - b))) (nI c)) k (nI 0, w) = some w' ∧ Gi (fitB P (T n) W S F (P 17)) u rt (lw4 a b c 11) w' := by
          refine ziter_inv (fun d s => ∃ w, s = (nI d, w) ∧ Gi (fitB P (T n) W S F (P 17)) u rt (lw4 a b c d) w) _ 11 ?_ ?_ 11 0 k _ (by omega) ⟨w, rfl, hw⟩ (by omega)
          · rintro d s hd ⟨w, rfl, hw⟩
            left
            obtain ⟨w', h1, h2⟩ := g49 (k := k) hP hK h3 hT hx hE hh ha hb (by omega : c ≤ 10) (by omega : d ≤ 10) e0 e1 e2 hw
            exact ⟨_, h1, w', rfl, h2⟩
          · rintro s ⟨w, rfl, hw⟩
            exact ⟨w, rfl, hw⟩
        obtain ⟨w', h1, h2⟩ := k2
        rw [show (0 : Int32) = nI 0 from rfl, h1, zbind_s]
        exact ⟨_, rfl, w', rfl, by rw [← lw4_c]; exact h2⟩
    · rintro s ⟨w, rfl, hw⟩
      exact ⟨w, rfl, hw⟩
  obtain ⟨w, h1, h2⟩ := key
  rw [h1, zbind_s]
  exact ⟨w, rfl, by rw [← lw4_b]; exact h2⟩
theorem xnone {u : CX} {k : Nat} (hk : 20000 ≤ k) : ∃ bt tl, fX2_keepNone k u = some (xG u bt (xg_rates u) tl 0 0 (-1)) ∧ (∀ j, j < 1331 → bt j = 0) ∧ ∀ j, j < 44 → tl j = 0 := by
  have k1 : ∃ w, ziter (bX2_keepNone_2 k) k ((0 : Int32), u) = some w ∧ ∃ bt, w = xs_bits u bt ∧ ∀ j, j < 1331 → bt j = 0 := by
    refine ziter_inv (fun i a => ∃ bt, a = (nI i, xs_bits u bt) ∧ ∀ j, j < i → bt j = 0) _ 1331 ?_ ?_ 1331 0 k _ (by omega) ⟨xg_bits u, rfl, fun j hj => by omega⟩ (by omega)
    · rintro i a hi ⟨bt, rfl, hb⟩
      left
      unfold bX2_keepNone_2
      dsimp only
      rw [if_neg (by rw [show (1331 : Int32) = nI 1331 from rfl, nI_leI (by omega) (by omega)]; omega), zix_n hi (by omega), zb_e, nI_1]
      refine ⟨_, rfl, upd bt i 0, rfl, ?_⟩
      intro j hj
      by_cases c : j = i
      · subst c
        exact upd_s
      · rw [upd_n c]
        exact hb j (by omega)
    · rintro a ⟨bt, rfl, hb⟩
      exact ⟨_, rfl, bt, rfl, hb⟩
  obtain ⟨w, e1, bt, rfl, hb⟩ := k1
  have k2 : ∃ w, ziter (bX2_keepNone_24 k) k ((0 : Int32), xs_bits u bt) = some w ∧ ∃ tl, w = xs_tally (xs_bits u bt) tl ∧ ∀ j, j < 44 → tl j = 0 := by
    refine ziter_inv (fun i a => ∃ tl, a = (nI i, xs_tally (xs_bits u bt) tl) ∧ ∀ j, j < i → tl j = 0) _ 44 ?_ ?_ 44 0 k _ (by omega) ⟨xg_tally u, rfl, fun j hj => by omega⟩ (by omega)
    · rintro i a hi ⟨tl, rfl, ht⟩
      left
      unfold bX2_keepNone_24
      dsimp only
      rw [if_neg (by rw [show (44 : Int32) = nI 44 from rfl, nI_leI (by omega) (by omega)]; omega), zix_n hi (by omega), zb_e, nI_1]
      refine ⟨_, rfl, upd tl i 0, rfl, ?_⟩
      intro j hj
      by_cases c : j = i
      · subst c
        exact upd_s
      · rw [upd_n c]
        exact ht j (by omega)
    · rintro a ⟨tl, rfl, ht⟩
      exact ⟨_, rfl, tl, rfl, ht⟩
  obtain ⟨w, e2, tl, rfl, ht⟩ := k2
  refine ⟨bt, tl, ?_, hb, ht⟩
  unfold fX2_keepNone
  rw [e1, zbind_s, e2, zbind_s, zb_e, zb_e, zb_e, G_0, G_s, G_l, G_h]
theorem xgather {P : Nat → Nat} {n : Nat} {T : Nat → Nat → Nat} {W S F : Nat → Nat} {u : CX} {v : MX} (hP : rP P) (hK : rK (T n)) (h3 : rE W S F) (hT : xTm P u) (hx : xHm n T u) (hE : rEv W S F u v) {rt : Nat → Int64} (hh : hfOK P (T n) rt) {k : Nat} (hk : 20000 ≤ k) (g2 : xg_rates u = rt) : ∃ u'', fX2_gather k u = some u'' ∧ Gi (fitB P (T n) W S F (P 17)) u rt 14641 u'' := by
  subst g2
  obtain ⟨bt, tl, e0, hb0, ht0⟩ := xnone (u := u) hk
  have hG0 : Gi (fitB P (T n) W S F (P 17)) u (xg_rates u) 0 (xG u bt (xg_rates u) tl 0 0 (-1)) := by
    refine ⟨bt, tl, 0, 0, -1, rfl, rfl, fun law hl => ?_, fun p d hp hd => ht0 _ (by omega), Or.inl rfl⟩
    show kb (bt (law / 11)) (law % 11) = _
    rw [hb0 _ (by omega), kb_0 _ (by omega), decide_eq_false (by omega)]
    rfl
  unfold fX2_gather
  rw [e0, zbind_s, show (0 : Int32) = nI 0 from rfl]
  have key : ∃ w, ziter (bX2_gather_6 k) k (nI 0, xG u bt (xg_rates u) tl (nI 0) (nI 0) (-1)) = some w ∧ Gi (fitB P (T n) W S F (P 17)) u (xg_rates u) (lw4 11 0 0 0) w := by
    refine ziter_inv (fun a s => ∃ w, s = (nI a, w) ∧ Gi (fitB P (T n) W S F (P 17)) u (xg_rates u) (lw4 a 0 0 0) w) _ 11 ?_ ?_ 11 0 k _ (by omega) ⟨_, rfl, hG0⟩ (by omega)
    · rintro a s ha ⟨w, rfl, hw⟩
      left
      unfold bX2_gather_6
      dsimp only
      rw [if_neg (by rw [show (10 : Int32) = nI 10 from rfl, nI_ltI (by omega) (by omega)]; omega), show (0 : Int32) = nI 0 from rfl]
      have k2 : ∃ w', ziter (bX2_gather_14 k (nI a)) k (nI 0, w) = some w' ∧ Gi (fitB P (T n) W S F (P 17)) u (xg_rates u) (lw4 a 11 0 0) w' := by
        refine ziter_inv (fun b s => ∃ w, s = (nI b, w) ∧ Gi (fitB P (T n) W S F (P 17)) u (xg_rates u) (lw4 a b 0 0) w) _ 11 ?_ ?_ 11 0 k _ (by omega) ⟨w, rfl, hw⟩ (by omega)
        · rintro b s hb ⟨w, rfl, hw⟩
          left
          have hE' : rEv W S F w v := by obtain ⟨bt, tl, sz, lo, hi, rfl, _⟩ := hw; exact hE
          have sk : evB W S F 0 a = false ∨ evB W S F 1 b = false → Gi (fitB P (T n) W S F (P 17)) u (xg_rates u) (lw4 a (b + 1) 0 0) w := by
            intro ho
            rw [← lw4_b]
            have : lw4 a b 11 0 = lw4 a b 0 0 + 121 := by unfold lw4; omega
            rw [this]
            refine Gi_skip hw 121 (fun j h1 h2 z => ?_)
            have hz := (fit4.mp z).1
            obtain ⟨q1, q2⟩ := fg_b (by omega) (by omega) h1 h2
            rw [q1, q2] at hz
            rcases ho with o | o
            · rw [o] at hz; exact absurd hz.1 (by decide)
            · rw [o] at hz; exact absurd hz.2.1 (by decide)
          unfold bX2_gather_14
          dsimp only
          rw [if_neg (by rw [show (10 : Int32) = nI 10 from rfl, nI_ltI (by omega) (by omega)]; omega), show (0 : Int32) = nI 0 from rfl, show (1 : Int32) = nI 1 from rfl, xallow hE' h3 (by omega) (by omega), xallow hE' h3 (by omega) (by omega), show nI 0 = (0 : Int32) from rfl, bI_bind, bI_bind, nI_add]
          cases e0 : evB W S F 0 a
          · rw [if_neg (by decide)]
            exact ⟨_, rfl, w, rfl, sk (Or.inl e0)⟩
          · rw [if_pos rfl]
            cases e1 : evB W S F 1 b
            · rw [if_neg (by decide)]
              exact ⟨_, rfl, w, rfl, sk (Or.inr e1)⟩
            · rw [if_pos rfl]
              obtain ⟨w', h1, h2⟩ := ggath hP hK h3 hT hx hE hh hk (by omega : a ≤ 10) (by omega : b ≤ 10) e0 e1 hw
              rw [h1, zbind_s]
              exact ⟨_, rfl, w', rfl, h2⟩
        · rintro s ⟨w, rfl, hw⟩
          exact ⟨w, rfl, hw⟩
      obtain ⟨w', h1, h2⟩ := k2
      rw [h1, zbind_s, nI_1]
      exact ⟨_, rfl, w', rfl, by rw [← lw4_a]; exact h2⟩
    · rintro s ⟨w, rfl, hw⟩
      exact ⟨w, rfl, hw⟩
  obtain ⟨w, h1, h2⟩ := key
  rw [h1, zbind_s]
  exact ⟨w, rfl, h2⟩
theorem LW_Lf (P K W S F : Nat → Nat) : LW P K W S F = Lf (fitB P K W S F (P 17)) 14641 := rfl
theorem xKp_st {b : Nat → Bool} {i : Nat} {u : CX} {x : Int32} (h : xKp b i u) : xKp b i (xs_stale u x) := h
theorem G_st (u : CX) (bt : Nat → Int32) (rt : Nat → Int64) (tl : Nat → Int32) (sz lo hi x : Int32) : xg_gsize (xs_stale (xG u bt rt tl sz lo hi) x) = sz := rfl
theorem xfitting {P : Nat → Nat} {n : Nat} {T : Nat → Nat → Nat} {W S F : Nat → Nat} {u : CX} {v : MX} (h : RelG P n T W S F u v) {k : Nat} (hk : 20000 ≤ k) : ∃ u', fX2_fitting k u = some (nI (LW P (T n) W S F).length, u') ∧ RelG P n T W S F u' v ∧ xg_stale u' = 0 ∧ xKp (fitB P (T n) W S F (P 17)) 14641 u' := by
  have h0 := h
  obtain ⟨hP, hH, hE, h4, h5, h6, hT, hl, hM, hx, hm, hEv, hG, hG2, hS⟩ := h
  have hK := hH.2 n (Nat.le_refl _)
  unfold fX2_fitting
  by_cases c : xg_stale u = 0
  · rw [if_pos c]
    rcases hG with ⟨e, _⟩ | ⟨e1, e2, e4⟩
    · rw [e] at c; exact absurd c (by decide)
    · rw [e2.1]
      exact ⟨u, rfl, h0, e1, e2⟩
  · rw [if_neg c]
    obtain ⟨rt, s1, s2⟩ := xsettle hP hK hT hx hk
    obtain ⟨w, t1, bt, tl, sz, lo, hi, rfl, t3⟩ := xgather (u := xs_rates u rt) (v := v) hP hK hE hT hx hEv s2 hk rfl
    have esz : sz = nI (LW P (T n) W S F).length := by
      rw [LW_Lf]
      exact (Gg_s _ bt rt tl sz lo hi).symm.trans t3.1
    rw [s1, zbind_s, t1, zbind_s, zb_e, G_st, esz]
    rw [esz] at t3
    refine ⟨_, rfl, ⟨hP, hH, hE, h4, h5, h6, hT, hl, hM, hx, hm, hEv, Or.inr ⟨rfl, xKp_st t3, ?_⟩, hG2, hS⟩, rfl, xKp_st t3⟩
    rcases hG with ⟨_, e2, e3⟩ | ⟨e, _⟩
    · exact ⟨Or.inl e2, Or.inl e3⟩
    · exact absurd e c
