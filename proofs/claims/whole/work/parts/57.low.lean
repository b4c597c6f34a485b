/-! lowest terms -/
theorem low_go {k0 : Nat} {p q : Int64} {w : Int32} : ∀ (m a b i k : Nat), a < 2 ^ 63 → b < 2 ^ m → m ≤ 63 → i + 2 * m + 1 ≤ 200 → 2 * m + 1 < k → ziter (bX9_lowest_15 k0 p q w) k (lN a, lN b, nI i) = some (lN (Nat.gcd a b)) ∧ ziter (bX10_lowest_6 k0 p q w) k (lN a, lN b) = some (lN (Nat.gcd a b)) := by
  have e0 : ∀ (a i : Nat), i ≤ 200 → bX9_lowest_15 k0 p q w (lN a, lN 0, nI i) = some (.inr (lN a)) := by
    intro a i hi
    unfold bX9_lowest_15
    dsimp only
    split
    · rfl
    · rw [if_pos (show lN 0 = 0 from rfl)]
  have e1 : ∀ (a : Nat), bX10_lowest_6 k0 p q w (lN a, lN 0) = some (.inr (lN a)) := by
    intro a
    unfold bX10_lowest_6
    dsimp only
    rw [if_pos (show lN 0 = 0 from rfl)]
  have s0 : ∀ (a b i : Nat), a < 2 ^ 63 → 0 < b → b < 2 ^ 63 → i < 200 → bX9_lowest_15 k0 p q w (lN a, lN b, nI i) = some (.inl (lN b, lN (a % b), nI (i + 1))) := by
    intro a b i ha hb hb2 hi
    have hz : ¬ lN b = 0 := by rw [show (0 : Int64) = lN 0 from rfl, pk_lEQ hb2 (by omega)]; omega
    unfold bX9_lowest_15
    dsimp only
    rw [if_neg (by rw [show (200 : Int32) = nI 200 from rfl, nI_leI (by omega) (by omega)]; omega), if_neg hz, zdl_n hz, zb_e, show zremL (lN a) (lN b) = lN (a % b) from pk_lRem ha hb hb2, nI_1]
  have s1 : ∀ (a b : Nat), a < 2 ^ 63 → 0 < b → b < 2 ^ 63 → bX10_lowest_6 k0 p q w (lN a, lN b) = some (.inl (lN b, lN (a % b))) := by
    intro a b ha hb hb2
    have hz : ¬ lN b = 0 := by rw [show (0 : Int64) = lN 0 from rfl, pk_lEQ hb2 (by omega)]; omega
    unfold bX10_lowest_6
    dsimp only
    rw [if_neg hz, zdl_n hz, zb_e, show zremL (lN a) (lN b) = lN (a % b) from pk_lRem ha hb hb2]
  have gs : ∀ a b, Nat.gcd a b = Nat.gcd b (a % b) := fun a b => by rw [Nat.gcd_comm a b, Nat.gcd_rec b a, Nat.gcd_comm]
  generalize bX9_lowest_15 k0 p q w = f at e0 s0
  generalize bX10_lowest_6 k0 p q w = g at e1 s1
  intro m
  induction m with
  | zero =>
    intro a b i k ha hb hm hi hk
    obtain ⟨k', rfl⟩ : ∃ k', k = k' + 1 := ⟨k - 1, by omega⟩
    obtain rfl : b = 0 := by omega
    rw [ziter_r (e0 a i (by omega)), ziter_r (e1 a), Nat.gcd_zero_right]
    exact ⟨rfl, rfl⟩
  | succ m ih =>
    intro a b i k ha hb hm hi hk
    have hpow : 2 ^ (m + 1) ≤ 2 ^ 63 := Nat.pow_le_pow_right (by omega) hm
    obtain ⟨k', rfl⟩ : ∃ k', k = k' + 1 + 1 := ⟨k - 2, by omega⟩
    by_cases h0 : b = 0
    · subst h0
      rw [ziter_r (e0 a i (by omega)), ziter_r (e1 a), Nat.gcd_zero_right]
      exact ⟨rfl, rfl⟩
    · have hr : a % b < b := Nat.mod_lt _ (by omega)
      rw [ziter_l (s0 a b i ha (by omega) (by omega) (by omega)), ziter_l (s1 a b ha (by omega) (by omega)), gs a b]
      by_cases h1 : a % b = 0
      · rw [h1, ziter_r (e0 b (i + 1) (by omega)), ziter_r (e1 b), Nat.gcd_zero_right]
        exact ⟨rfl, rfl⟩
      · generalize a % b = r at hr h1
        rw [ziter_l (s0 b r (i + 1) (by omega) (by omega) (by omega) (by omega)), ziter_l (s1 b r (by omega) (by omega) (by omega)), gs b r]
        have hq : b % r < 2 ^ m := by
          have h2 : b % r < r := Nat.mod_lt _ (by omega)
          have h3 := Nat.div_add_mod b r
          have h4 : 1 ≤ b / r := Nat.div_pos (by omega) (by omega)
          have h5 : r * 1 ≤ r * (b / r) := Nat.mul_le_mul_left _ h4
          have h6 : 2 ^ (m + 1) = 2 * 2 ^ m := by rw [Nat.pow_succ]; omega
          omega
        exact ih r (b % r) (i + 1 + 1) k' (by omega) hq (by omega) (by omega) (by omega)
theorem s_low {a b : Nat} (ha : a < 2 ^ 63) (h0 : 0 < b) (hb : b < 2 ^ 63) (w : Int32) {k : Nat} (hk : 200 ≤ k) : ∃ r, fX9_lowest k (lN a) (lN b) w = some r ∧ fX10_lowest k (lN a) (lN b) w = some r := by
  unfold fX9_lowest fX10_lowest
  have ab : ∀ x : Nat, x < 2 ^ 63 → zabsL (lN x) = lN x := by
    intro x hx
    unfold zabsL
    split
    · rfl
    · rename_i hc
      rw [show (0 : Int64) = lN 0 from rfl, pk_lLT (by omega) hx] at hc
      obtain rfl : x = 0 := by omega
      rfl
  obtain ⟨g1, g2⟩ := low_go (k0 := k) (p := lN a) (q := lN b) (w := w) 63 a b 0 k ha hb (by omega) (by omega) (by omega)
  have hg : 0 < Nat.gcd a b := Nat.gcd_pos_of_pos_right _ h0
  have hg2 : Nat.gcd a b ≤ b := Nat.gcd_le_right _ h0
  have hz : ¬ lN (Nat.gcd a b) = 0 := by rw [show (0 : Int64) = lN 0 from rfl, pk_lEQ (by omega) (by omega)]; omega
  rw [zb_e, zb_e, ab a ha, ab b hb, show (0 : Int32) = nI 0 from rfl, g1, g2, zbind_s, zbind_s, if_neg hz]
  simp only [zdl_n hz]
  split <;> exact ⟨_, rfl, rfl⟩
theorem wh_b {P : Nat → Nat} (hP : rP P) : 0 < sc P ∧ sc P ≤ 800 ∧ 0 < sH P ∧ sH P ≤ 396 ∧ 0 < wh P ∧ wh P ≤ 202752000000000 := by
  have a0 := hP.1 0 (by omega)
  have b0 : P 12 ≤ 99 := hP.2.2.2.1 0 (by omega)
  have b1 : P 13 ≤ 99 := hP.2.2.2.1 1 (by omega)
  have b2 : P 14 ≤ 99 := hP.2.2.2.1 2 (by omega)
  have b3 : P 15 ≤ 99 := hP.2.2.2.1 3 (by omega)
  have h1 : 0 < sc P := by unfold sc sA; omega
  have h2 := (xx_le hP 0).2
  have h3 := hP.2.2.2.2.1
  have h4 : sH P ≤ 396 := by unfold sH; omega
  refine ⟨h1, h2, h3, h4, ?_, ?_⟩
  · unfold wh
    exact Nat.mul_pos (Nat.mul_pos h3 (Nat.mul_pos (Nat.mul_pos h1 h1) h1)) (by omega)
  · unfold wh
    exact mul_b (mul_b h4 (mul_b (mul_b h2 h2) h2)) (Nat.le_refl _)
theorem pw3_le {x c n : Nat} (h : x ≤ c) (hn : n ≤ 3) : x ^ n * c ^ (3 - n) ≤ c * c * c := by
  have h1 : x ^ n ≤ c ^ n := Nat.pow_le_pow_left h n
  have h2 : x ^ n * c ^ (3 - n) ≤ c ^ n * c ^ (3 - n) := Nat.mul_le_mul_right _ h1
  rw [← Nat.pow_add, show n + (3 - n) = 3 by omega] at h2
  have h3 : c ^ 3 = c * c * c := by grind
  omega
theorem shU_le {P : Nat → Nat} (hP : rP P) {n x : Nat} (hn : n < 4) (hx : x ≤ sc P) : shU P n x ≤ wh P := by
  unfold shU wh
  have h1 : P (12 + n) ≤ sH P := by
    unfold sH
    match n, hn with
    | 0, _ => show P 12 ≤ _; omega
    | 1, _ => show P 13 ≤ _; omega
    | 2, _ => show P 14 ≤ _; omega
    | 3, _ => show P 15 ≤ _; omega
  exact mul_b (mul_b h1 (pw3_le hx (by omega))) (by omega)
theorem hoU_le {P : Nat → Nat} (hP : rP P) {p d x : Nat} (hp : p < 4) (hx : x ≤ sc P) : hoU P p d x ≤ 3 * wh P := by
  have h0 : P p * (10 - d) ≤ sc P := by
    have : P p ≤ sA P := by
      unfold sA
      match p, hp with
      | 0, _ => omega
      | 1, _ => omega
      | 2, _ => omega
      | 3, _ => omega
    have h2 : P p * (10 - d) ≤ sA P * 10 := mul_b this (by omega)
    unfold sc
    omega
  unfold hoU hoR wh
  have h1 : P 13 * (sc P * sc P) ≤ P 13 * (sc P * sc P) := Nat.le_refl _
  have h2 : 2 * P 14 * (x * sc P) ≤ 2 * P 14 * (sc P * sc P) := mul_b (Nat.le_refl _) (mul_b hx (Nat.le_refl _))
  have h3 : 3 * P 15 * (x * x) ≤ 3 * P 15 * (sc P * sc P) := mul_b (Nat.le_refl _) (mul_b hx hx)
  have h4 : P 13 * (sc P * sc P) + 2 * P 14 * (x * sc P) + 3 * P 15 * (x * x) ≤ 3 * sH P * (sc P * sc P) := by
    have : 3 * sH P * (sc P * sc P) = 3 * P 12 * (sc P * sc P) + 3 * P 13 * (sc P * sc P) + 3 * P 14 * (sc P * sc P) + 3 * P 15 * (sc P * sc P) := by unfold sH; grind
    have q1 : P 13 * (sc P * sc P) ≤ 3 * P 13 * (sc P * sc P) := mul_b (by omega) (Nat.le_refl _)
    have q2 : 2 * P 14 * (sc P * sc P) ≤ 3 * P 14 * (sc P * sc P) := mul_b (by omega) (Nat.le_refl _)
    omega
  have h5 := mul_b h0 (mul_b h4 (show 1000 - P 16 ≤ 1000 by omega))
  have h6 : sc P * (3 * sH P * (sc P * sc P) * 1000) = 3 * (sH P * (sc P * sc P * sc P) * 1000) := by grind
  omega
theorem s_share {u : CX} {v : MX} (h : Rel u v) {k : Nat} (hk : 200 ≤ k) (a b c : Int32) : ∃ r v', fX9_share k a b c u = some r ∧ fX10_share k a b c v = some (r, v') ∧ Rel u v' := by
  have h0 := h
  obtain ⟨P, n, T, W, S, F, h1, h2, h3, h4, h5, h6, hT, hl, hM, h7⟩ := h
  unfold fX9_share fX10_share
  rw [xlIf, mlIf, rngA]
  simp only [xsIf, inIf, Int32.toInt_toInt64, show (0 : Int64).toInt = 0 from rfl, show (3 : Int64).toInt = 3 from rfl, show (1 : Int64).toInt = 1 from rfl, show (3 : Int32).toInt = 3 from rfl]
  split
  · rename_i hc
    split
    · rename_i hd
      obtain ⟨l, hl', rfl⟩ := zn_of (a := a) (n := 14641) (by omega) (by omega)
      obtain ⟨j, hj, rfl⟩ := zn_of (a := b) (n := 4) (by omega) (by omega)
      obtain ⟨g, e1, hL⟩ := mlay h1 hM hl' (k := k) (by omega)
      have hxx := xx_le h1 l
      obtain ⟨w1, w2, w3, w4, w5, w6⟩ := wh_b h1
      have hs := shU_le h1 hj hxx.1
      by_cases he : 0 ≤ c.toInt ∧ c.toInt < 2
      · rw [if_pos he, if_pos (by omega), xstand hT hl' (by omega), zbind_s, nI_l (by omega), xhomesTop h1 hT hj (by omega), zbind_s, e1, zbind_s, mshareUp (v := ms_lw v g) h1 hM hL hj (by omega), zbind_s, mwhole hL (by omega), zbind_s, hT.2.2.2.2.2]
        obtain ⟨r, r1, r2⟩ := s_low (a := shU P j (xx P l)) (b := wh P) (by omega) w5 (by omega) c hk
        rw [r1, r2]
        exact ⟨_, _, rfl, rfl, P, n, T, W, S, F, h1, h2, h3, h4, h5, h6, hT, hl, hM, h7⟩
      · rw [if_neg he, if_neg (by omega)]
        exact ⟨_, _, rfl, rfl, h0⟩
    · exact ⟨_, _, rfl, rfl, h0⟩
  · exact ⟨_, _, rfl, rfl, h0⟩
theorem s_holes {u : CX} {v : MX} (h : Rel u v) {k : Nat} (hk : 200 ≤ k) (a b c : Int32) : ∃ r v', fX9_holes k a b c u = some r ∧ fX10_holes k a b c v = some (r, v') ∧ Rel u v' := by
  have h0 := h
  obtain ⟨P, n, T, W, S, F, h1, h2, h3, h4, h5, h6, hT, hl, hM, h7⟩ := h
  unfold fX9_holes fX10_holes
  rw [xlIf, mlIf]
  simp only [xpIf, mpIf, xsIf, inIf, Int32.toInt_toInt64, show (0 : Int64).toInt = 0 from rfl, show (1 : Int64).toInt = 1 from rfl]
  split
  · rename_i hc
    split
    · rename_i hd
      obtain ⟨l, hl', rfl⟩ := zn_of (a := a) (n := 14641) (by omega) (by omega)
      obtain ⟨j, hj, rfl⟩ := zn_of (a := b) (n := 4) (by omega) (by omega)
      obtain ⟨g, e1, hL⟩ := mlay h1 hM hl' (k := k) (by omega)
      have hxx := xx_le h1 l
      have hf := fg_le (p := j) hl'
      have hp20 := (h1.1 j hj).2
      have hm := mul_b hp20 (show 10 - fg l j ≤ 10 by omega)
      obtain ⟨w1, w2, w3, w4, w5, w6⟩ := wh_b h1
      have hs := hoU_le h1 (d := fg l j) hj hxx.1
      by_cases he : 0 ≤ c.toInt ∧ c.toInt < 2
      · rw [if_pos he, if_pos (by omega), xfig hl' hj, zbind_s, xpartS hT (by omega) hf, zbind_s, xstand hT hl' (by omega), zbind_s, nI_l (n := xx P l) (by omega), xholeRate h1 hT, zbind_s, zb_e, nI_l (by omega), lN_mul, e1, zbind_s, mholesUp (v := ms_lw v g) h1 hM hl' hL hj (by omega), zbind_s, mwhole hL (by omega), zbind_s, hT.2.2.2.2.2]
        obtain ⟨r, r1, r2⟩ := s_low (a := hoU P j (fg l j) (xx P l)) (b := wh P) (by omega) w5 (by omega) c hk
        rw [show P j * (10 - fg l j) * hoR P (xx P l) = hoU P j (fg l j) (xx P l) from rfl, r1, r2]
        exact ⟨_, _, rfl, rfl, P, n, T, W, S, F, h1, h2, h3, h4, h5, h6, hT, hl, hM, h7⟩
      · rw [if_neg he, if_neg (by omega)]
        exact ⟨_, _, rfl, rfl, h0⟩
    · exact ⟨_, _, rfl, rfl, h0⟩
  · exact ⟨_, _, rfl, rfl, h0⟩
