/-! trial -/
def sumT (q : Nat → Bool) (t : Nat → Nat) : Nat → Nat
  | 0 => 0
  | d + 1 => sumT q t d + (if q d = true then t d else 0)
theorem sumT_add {q : Nat → Bool} {t : Nat → Nat} {x : Nat} : ∀ D, sumT q (fun d => t d + if decide (x = d) = true then 1 else 0) D = sumT q t D + (if x < D ∧ q x = true then 1 else 0) := by
  intro D
  induction D with
  | zero => rw [if_neg (by omega)]; rfl
  | succ D ih =>
    show sumT q _ D + _ = sumT q t D + _ + _
    rw [ih]
    dsimp only
    by_cases c : x = D
    · subst c
      rw [if_neg (show ¬ (x < x ∧ q x = true) by omega), decide_eq_true rfl, if_pos rfl]
      by_cases e : q x = true
      · rw [if_pos e, if_pos e, if_pos ⟨by omega, e⟩]
        omega
      · rw [if_neg e, if_neg e, if_neg (fun z => e z.2)]
    · rw [decide_eq_false c, if_neg (show ¬ false = true by decide), Nat.add_zero]
      have e1 : (x < D ∧ q x = true) ↔ (x < D + 1 ∧ q x = true) := ⟨fun z => ⟨by omega, z.2⟩, fun z => ⟨by omega, z.2⟩⟩
      by_cases e : x < D ∧ q x = true
      · rw [if_pos e, if_pos (e1.mp e)]
        omega
      · rw [if_neg e, if_neg (fun z => e (e1.mpr z))]
        omega
theorem sumT_0 {q : Nat → Bool} : ∀ D, sumT q (fun _ => 0) D = 0 := by
  intro D
  induction D with
  | zero => rfl
  | succ D ih =>
    show sumT q _ D + _ = 0
    rw [ih]
    split <;> rfl
theorem sumT_tal {q : Nat → Bool} {L : List Nat} {p : Nat} : ∀ m, (∀ i, i < m → fg (L.getD i 0) p < 11) → sumT q (fun d => tal L p d m) 11 = cM (fun i => q (fg (L.getD i 0) p)) m := by
  intro m
  induction m with
  | zero => intro _; exact sumT_0 11
  | succ m ih =>
    intro h
    show sumT q (fun d => tal L p d m + if decide (fg (L.getD m 0) p = d) = true then 1 else 0) 11 = cM _ m + _
    rw [sumT_add, ih (fun i hi => h i (by omega))]
    have e : (fg (L.getD m 0) p < 11 ∧ q (fg (L.getD m 0) p) = true) ↔ q (fg (L.getD m 0) p) = true := ⟨fun z => z.2, fun z => ⟨h m (by omega), z⟩⟩
    by_cases c : q (fg (L.getD m 0) p) = true
    · rw [if_pos c, if_pos (e.mpr c)]
    · rw [if_neg c, if_neg (fun z => c (e.mp z))]
def lft (L : List Nat) (p s f : Nat) : Nat := cM (fun i => nearB (10 * f) (s * fg (L.getD i 0) p) 10) L.length
theorem xleft {L : List Nat} {u : CX} {p : Nat} (hW : ∀ d, d ≤ 10 → fX2_withFalls (nI p) (nI d) u = some (nI (tal L p d L.length))) (hb : ∀ m, m < L.length → L.getD m 0 < 14641) {s f : Nat} (hs : s ≤ 20) (hf : f ≤ 20) {k : Nat} (hk : 20000 ≤ k) : fX2_leftBy k (nI p) (nI s) (nI f) u = some (nI (lft L p s f)) := by
  unfold fX2_leftBy
  have e : lft L p s f = sumT (fun d => nearB (10 * f) (s * d) 10) (fun d => tal L p d L.length) 11 := by
    rw [sumT_tal L.length (fun i hi => by have := fg_le (p := p) (hb i hi); omega)]
    rfl
  rw [e, show (((0 : Int32), (0 : Int32)) : Int32 × Int32) = (fun i => (nI (sumT (fun d => nearB (10 * f) (s * d) 10) (fun d => tal L p d L.length) i), nI i)) 0 from rfl, ziter_st (fun i => (nI (sumT (fun d => nearB (10 * f) (s * d) 10) (fun d => tal L p d L.length) i), nI i)) (nI (sumT (fun d => nearB (10 * f) (s * d) 10) (fun d => tal L p d L.length) 11)) 11 0 k ?_ rfl (by omega), zbind_s]
  intro i _ hi
  unfold bX2_leftBy_6
  dsimp only
  rw [if_neg (by rw [show (10 : Int32) = nI 10 from rfl, nI_ltI (by omega) (by omega)]; omega), xnearT hs hf (by omega), bI_bind, hW i (by omega), zbind_s, zb_e, zb_e, nI_1, show (0 : Int32) = nI 0 from rfl, nI_add, nI_add]
  show _ = some (Sum.inl (nI (sumT _ _ i + (if nearB (10 * f) (s * i) 10 = true then tal L p i L.length else 0)), nI (i + 1)))
  split
  · rfl
  · rfl
theorem mleft {L : List Nat} {v : MX} {k : Nat} (hk : 20000 ≤ k) {p s f : Nat} (hp : p < 4) (hs : s ≤ 20) (hf : f ≤ 20) (a3 a4 a5 a6 : Int32) (hlen : L.length ≤ 14641) (hn : ∀ m, m < L.length → nth L m = nI (L.getD m 0) ∧ L.getD m 0 < 14641 ∧ ¬ nth L m = -4) (hfn : ∀ m, m < L.length → fX10_firstFrom k (nth L m + (1 : Int32)) v = some (nth L (m + 1))) : ziter (bX10_trial_91 k (nI p) (nI s) a3 a4 a5 a6 (nI f) v) k ((0 : Int32), nth L 0) = some (nI (lft L p s f)) := by
  rw [show (((0 : Int32), nth L 0) : Int32 × Int32) = (fun i => (nI (cM (fun i => nearB (10 * f) (s * fg (L.getD i 0) p) 10) i), nth L i)) 0 from rfl]
  refine ziter_st (fun i => (nI (cM (fun i => nearB (10 * f) (s * fg (L.getD i 0) p) 10) i), nth L i)) _ L.length 0 k ?_ ?_ (by omega)
  · intro i _ hi
    obtain ⟨n1, n2, n3⟩ := hn i (by omega)
    have hf' := fg_le (p := p) n2
    have hm := mul_b hs hf'
    unfold bX10_trial_91
    dsimp only
    rw [if_neg n3, hfn i (by omega)]
    simp only [zbind_s]
    rw [n1, mfalls n2 hp (by omega), zbind_s, pk_mul, nI_l (by omega), nI_l (by omega), show (10 : Int64) = lN 10 from rfl, lN_mul, msize (by omega) (by omega), zbind_s, zb_e, zb_e, show (0 : Int32) = nI 0 from rfl, show (1 : Int32) = nI 1 from rfl, nI_add, nI_add]
    show _ = some (Sum.inl (nI (cM _ i + if nearB (10 * f) (s * fg (L.getD i 0) p) 10 = true then 1 else 0), nth L (i + 1)))
    have hb : ds (10 * f) (s * fg (L.getD i 0) p) < 2 ^ 31 := by unfold ds; omega
    have e : ds (10 * f) (s * fg (L.getD i 0) p) ≤ 10 ↔ nearB (10 * f) (s * fg (L.getD i 0) p) 10 = true := ds_le
    by_cases c : nearB (10 * f) (s * fg (L.getD i 0) p) 10 = true
    · rw [if_neg (by rw [pk_lLT (by omega) (by omega)]; have := e.mpr c; omega), if_pos c]
    · rw [if_pos (by rw [pk_lLT (by omega) (by omega)]; have : ¬ ds (10 * f) (s * fg (L.getD i 0) p) ≤ 10 := fun z => c (e.mp z); omega), if_neg c]
  · unfold bX10_trial_91
    dsimp only
    rw [Nat.zero_add, if_pos nth_out]
    rfl
def mxs (h : Nat → Nat) : Nat → Nat
  | 0 => 0
  | i + 1 => mx2 (mxs h i) (h i)
theorem mxs_le {h : Nat → Nat} {m : Nat} (hh : ∀ i, h i ≤ m) : ∀ i, mxs h i ≤ m := by
  intro i
  induction i with
  | zero => exact Nat.zero_le _
  | succ i ih => exact mx2_le.mpr ⟨ih, hh i⟩
theorem two_trial {L : List Nat} {u : CX} {v : MX} {k : Nat} (hk : 20000 ≤ k) {p s w : Nat} (hp : p < 4) (hs : s ≤ 20) (hw : w ≤ 22) (hlen : L.length ≤ 14641) (hW : ∀ d, d ≤ 10 → fX2_withFalls (nI p) (nI d) u = some (nI (tal L p d L.length))) (hn : ∀ m, m < L.length → nth L m = nI (L.getD m 0) ∧ L.getD m 0 < 14641 ∧ ¬ nth L m = -4) (hf0 : fX10_firstFrom k (0 : Int32) v = some (nth L 0)) (hfn : ∀ m, m < L.length → fX10_firstFrom k (nth L m + (1 : Int32)) v = some (nth L (m + 1))) : ∃ A B, ziter (bX9_trial_80 k (nI p) (nI s) (nI w) u) k ((0 : Int32), (0 : Int32), (0 : Int32)) = some (A, B) ∧ ziter (bX10_trial_75 k (nI p) (nI s) (nI w) v) k ((0 : Int32), (0 : Int32), (0 : Int32), (0 : Int32)) = some (A, B, if w ≤ s then nI (lft L p s w) else 0) := by
  have lb : ∀ f, lft L p s f ≤ 14641 := fun f => Nat.le_trans (cM_le _ _) hlen
  have mb := mxs_le lb
  have cb := cM_le (fun f => decide (0 < lft L p s f))
  refine ⟨nI (mxs (lft L p s) (s + 1)), nI (cM (fun f => decide (0 < lft L p s f)) (s + 1)), ?_, ?_⟩
  · rw [show (((0 : Int32), (0 : Int32), (0 : Int32)) : Int32 × Int32 × Int32) = (fun i => (nI (mxs (lft L p s) i), nI (cM (fun f => decide (0 < lft L p s f)) i), nI i)) 0 from rfl]
    refine ziter_st (fun i => (nI (mxs (lft L p s) i), nI (cM (fun f => decide (0 < lft L p s f)) i), nI i)) _ (s + 1) 0 k ?_ ?_ (by omega)
    · intro i _ hi
      unfold bX9_trial_80
      dsimp only
      have b1 := lb i
      have b2 := mb i
      rw [if_neg (by rw [nI_ltI (by omega) (by omega)]; omega), xleft hW (fun m hm => (hn m hm).2.1) hs (by omega) hk, zbind_s, zb_e, zb_e, zb_e, nI_1, show (0 : Int32) = nI 0 from rfl, show (1 : Int32) = nI 1 from rfl, nI_add, nI_add]
      have em : zmaxI (nI (mxs (lft L p s) i)) (nI (lft L p s i)) = nI (mxs (lft L p s) (i + 1)) := by
        unfold zmaxI
        show _ = nI (mx2 _ _)
        unfold mx2
        by_cases c : lft L p s i ≤ mxs (lft L p s) i
        · rw [if_pos c, if_neg (by rw [nI_ltI (by omega) (by omega)]; omega)]
        · rw [if_neg c, if_pos (by rw [nI_ltI (by omega) (by omega)]; omega)]
      rw [em]
      show _ = some (Sum.inl (_, nI (cM _ i + if decide (0 < lft L p s i) = true then 1 else 0), _))
      by_cases c : 0 < lft L p s i
      · rw [if_neg (by rw [nI_leI (by omega) (by omega)]; omega), decide_eq_true c, if_pos rfl]
      · rw [if_pos (by rw [nI_leI (by omega) (by omega)]; omega), decide_eq_false c, if_neg (by decide)]
    · unfold bX9_trial_80
      dsimp only
      rw [Nat.zero_add, if_pos (by rw [nI_ltI (by omega) (by omega)]; omega)]
  · rw [show (((0 : Int32), (0 : Int32), (0 : Int32), (0 : Int32)) : Int32 × Int32 × Int32 × Int32) = (fun i => (nI (mxs (lft L p s) i), nI (cM (fun f => decide (0 < lft L p s f)) i), (if w < i then nI (lft L p s w) else (0 : Int32)), nI i)) 0 from rfl]
    refine ziter_st (fun i => (nI (mxs (lft L p s) i), nI (cM (fun f => decide (0 < lft L p s f)) i), (if w < i then nI (lft L p s w) else (0 : Int32)), nI i)) _ (s + 1) 0 k ?_ ?_ (by omega)
    · intro i _ hi
      have b1 := lb i
      have b2 := mb i
      have hj : ∀ t0, jX10_trial_j162_75 k (nI p) (nI s) (nI w) (nI (cM (fun f => decide (0 < lft L p s f)) i)) (if w < i then nI (lft L p s w) else (0 : Int32)) (nI i) (nI (lft L p s i)) t0 v = some (.inl (t0, nI (cM (fun f => decide (0 < lft L p s f)) (i + 1)), (if w < i + 1 then nI (lft L p s w) else (0 : Int32)), nI (i + 1))) := by
        intro t0
        unfold jX10_trial_j162_75
        rw [zb_e, zb_e, nI_1, show (0 : Int32) = nI 0 from rfl, show (1 : Int32) = nI 1 from rfl, nI_add, nI_add]
        show _ = some (Sum.inl (_, nI (cM _ i + if decide (0 < lft L p s i) = true then 1 else 0), _))
        have ew : (nI i = nI w) ↔ i = w := nI_eq (by omega) (by omega)
        by_cases cw : i = w
        · subst cw
          simp only [if_pos (show i < i + 1 by omega)]
          by_cases c : 0 < lft L p s i
          · rw [if_neg (by rw [nI_leI (by omega) (by omega)]; omega), decide_eq_true c, if_pos rfl]
            rfl
          · rw [if_pos (by rw [nI_leI (by omega) (by omega)]; omega), decide_eq_false c, if_pos True.intro]
            rfl
        · simp only [if_neg (fun z => cw (ew.mp z))]
          have e2 : (if w < i + 1 then nI (lft L p s w) else nI 0) = if w < i then nI (lft L p s w) else nI 0 := by
            by_cases q : w < i
            · rw [if_pos q, if_pos (by omega)]
            · rw [if_neg q, if_neg (by omega)]
          rw [e2]
          by_cases c : 0 < lft L p s i
          · rw [if_neg (by rw [nI_leI (by omega) (by omega)]; omega), decide_eq_true c]
            rfl
          · rw [if_pos (by rw [nI_leI (by omega) (by omega)]; omega), decide_eq_false c]
            rfl
      unfold bX10_trial_75
      dsimp only
      rw [if_neg (by rw [nI_ltI (by omega) (by omega)]; omega), hf0, zbind_s, mleft hk hp hs (by omega) _ _ _ _ hlen hn hfn, zbind_s, hj, hj]
      show _ = some (Sum.inl (nI (mx2 _ _), _))
      unfold mx2
      by_cases c : lft L p s i ≤ mxs (lft L p s) i
      · rw [if_pos (by rw [nI_leI (by omega) (by omega)]; omega), if_pos c]
      · rw [if_neg (by rw [nI_leI (by omega) (by omega)]; omega), if_neg c]
    · unfold bX10_trial_75
      dsimp only
      rw [Nat.zero_add, if_pos (by rw [nI_ltI (by omega) (by omega)]; omega)]
      by_cases q : w ≤ s
      · rw [if_pos (by omega), if_pos q]
      · rw [if_neg (by omega), if_neg q]
theorem j_trial {u : CX} {v : MX} (h : Rel u v) {k : Nat} (hk : 20000 ≤ k) {p s w : Nat} (hp : p < 4) (hs : s ≤ 20) (hw : w ≤ s ∨ (21 ≤ w ∧ w ≤ 22)) : ∃ r u' v', jX9_trial_j41 k (nI p) (nI s) (nI w) u = some (r, u') ∧ jX10_trial_j46 k (nI p) (nI s) (nI w) v = some (r, v') ∧ Rel u' v' := by
  obtain ⟨P, n, T, W, S, F, h⟩ := h
  obtain ⟨u', v', L, _, x1, e1, hR, hL, hlen, hn, hf0, hfn, hla⟩ := two_fit h hk
  have hR' : Rel u' v' := ⟨_, _, _, _, _, _, hR⟩
  unfold jX9_trial_j41 jX10_trial_j46
  rw [x1, zbind_s, e1, zbind_s, hf0, zbind_s]
  dsimp only
  by_cases c0 : L.length = 0
  · have : nth L 0 = -4 := by
      unfold nth
      rw [if_neg (by omega)]
    rw [c0, if_pos (show nI 0 = 0 from rfl), if_pos this]
    exact ⟨_, _, _, rfl, rfl, hR'⟩
  · rw [if_neg (by rw [show (0 : Int32) = nI 0 from rfl, nI_eq (by omega) (by omega)]; exact c0), if_neg (hn 0 (by omega)).2.2]
    have hW : ∀ d, d ≤ 10 → fX2_withFalls (nI p) (nI d) u' = some (nI (tal L p d L.length)) := fun d hd => xwith_f hL hp hd
    obtain ⟨A, B, y1, y2⟩ := two_trial (u := u') (v := v') (w := w) hk hp hs (by omega) hlen hW hn hf0 hfn
    rw [y2, zbind_s, y1]
    dsimp only
    have e21 : (nI w = (21 : Int32)) ↔ w = 21 := nI_eq (b := 21) (by omega) (by omega)
    have e22 : (nI w = (22 : Int32)) ↔ w = 22 := nI_eq (b := 22) (by omega) (by omega)
    rcases hw with hw | ⟨hw, hw'⟩
    · rw [if_neg (by rw [show (20 : Int32) = nI 20 from rfl, nI_ltI (by omega) (by omega)]; omega), xleft hW (fun m hm => (hn m hm).2.1) hs (by omega) hk, zbind_s, if_neg (fun z => by have := e21.mp z; omega), if_neg (fun z => by have := e22.mp z; omega), if_pos hw]
      exact ⟨_, _, _, rfl, rfl, hR'⟩
    · rw [if_pos (by rw [show (20 : Int32) = nI 20 from rfl, nI_ltI (by omega) (by omega)]; omega), zbind_s]
      dsimp only
      by_cases q : w = 21
      · rw [if_pos (e21.mpr q), if_pos (e21.mpr q)]
        exact ⟨_, _, _, rfl, rfl, hR'⟩
      · rw [if_neg (fun z => q (e21.mp z)), if_neg (fun z => q (e21.mp z)), if_pos (e22.mpr (by omega))]
        exact ⟨_, _, _, rfl, rfl, hR'⟩
theorem s_trial {u : CX} {v : MX} (h : Rel u v) {k : Nat} (hk : 20000 ≤ k) (a b c : Int32) : ∃ r u' v', fX9_trial k a b c u = some (r, u') ∧ fX10_trial k a b c v = some (r, v') ∧ Rel u' v' := by
  unfold fX9_trial fX10_trial
  rw [xpIf, mpIf]
  simp only [inIf, Int32.toInt_toInt64, Int32.lt_iff_toInt_lt, Int32.le_iff_toInt_le, show (0 : Int64).toInt = 0 from rfl, show (1 : Int64).toInt = 1 from rfl, show (20 : Int64).toInt = 20 from rfl, show (21 : Int64).toInt = 21 from rfl, show (22 : Int64).toInt = 22 from rfl, show (0 : Int32).toInt = 0 from rfl, show (1 : Int32).toInt = 1 from rfl, show (20 : Int32).toInt = 20 from rfl, show (22 : Int32).toInt = 22 from rfl]
  by_cases h1 : 0 ≤ a.toInt ∧ a.toInt < 4
  · rw [if_pos h1, if_pos h1]
    by_cases h2 : 1 ≤ b.toInt ∧ b.toInt ≤ 20
    · rw [if_pos h2, if_neg (by omega), if_neg (by omega)]
      obtain ⟨p, hp, rfl⟩ := zn_of (a := a) (n := 4) (by omega) (by omega)
      obtain ⟨s, hs, rfl⟩ := zn_of (a := b) (n := 21) (by omega) (by omega)
      rw [nI_toInt (n := s) (by omega)] at h2 ⊢
      by_cases h3 : 0 ≤ c.toInt ∧ c.toInt ≤ 22
      · obtain ⟨w, hw, rfl⟩ := zn_of (a := c) (n := 23) (by omega) (by omega)
        rw [nI_toInt (n := w) (by omega)] at h3 ⊢
        rw [if_neg (by omega), if_neg (by omega)]
        by_cases h4 : w ≤ s ∨ 21 ≤ w
        · obtain ⟨r, u', v', g1, g2, g3⟩ := j_trial h hk hp (by omega : s ≤ 20) (w := w) (by omega)
          refine ⟨r, u', v', ?_, ?_, g3⟩
          · rw [g1]
            split
            · rfl
            · rw [if_pos (by omega)]
          · rw [g2]
            split
            · rfl
            · rw [if_pos (by omega)]
        · rw [if_neg (by omega), if_neg (by omega), if_neg (by omega), if_neg (by omega)]
          exact ⟨_, _, _, rfl, rfl, h⟩
      · refine ⟨-1, u, v, ?_, ?_, h⟩
        · by_cases q : c.toInt < 0
          · rw [if_pos q]
          · rw [if_neg q, if_pos (by omega)]
        · rw [if_neg (by omega), if_neg (by omega)]
    · refine ⟨-1, u, v, ?_, ?_, h⟩
      · by_cases q : b.toInt < 1
        · rw [if_pos q]
        · rw [if_neg q, if_pos (by omega)]
      · rw [if_neg h2]
  · rw [if_neg h1, if_neg h1]
    exact ⟨_, _, _, rfl, rfl, h⟩
