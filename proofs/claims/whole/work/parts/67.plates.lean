/-! plates -/
theorem bt_step : ∀ p, p < 4 → ∀ s, s < 2 ^ p → bt1 (2 ^ p + s) p = 1 ∧ bt1 s p = 0 ∧ ∀ q, q < 4 → q ≠ p → bt1 (2 ^ p + s) q = bt1 s q := by decide
theorem bt_le (s p : Nat) : bt1 s p ≤ 1 := by unfold bt1; omega
theorem bt_i : ∀ s, s < 16 → ∀ p, p < 4 → ((nI s >>> (nI p &&& 31)) &&& (1 : Int32)) = nI (bt1 s p) := by decide
theorem sh_i : ∀ p, p < 4 → ((1 : Int32) <<< (nI p &&& 31)) = nI (2 ^ p) := by decide
theorem fgS_le {law s p : Nat} (h : law < 14641) : fgS law s p ≤ 10 := by
  unfold fgS
  have := fg_le (p := p) h
  split <;> omega
theorem fgS_1 {law s p : Nat} (h : bt1 s p = 1) : fgS law s p = fg law p / 2 := if_pos h
theorem fgS_0 {law s p : Nat} (h : bt1 s p = 0) : fgS law s p = fg law p := if_neg (by omega)
theorem fgS_c {law s t p : Nat} (h : bt1 s p = bt1 t p) : fgS law s p = fgS law t p := by
  unfold fgS
  rw [h]
theorem xS_le {P : Nat → Nat} (hP : rP P) (law s : Nat) : xS P law s ≤ sc P := by
  unfold xS sc sA
  have m0 : P 0 * (10 - fgS law s 0) ≤ P 0 * 10 := Nat.mul_le_mul_left _ (by omega)
  have m1 : P 1 * (10 - fgS law s 1) ≤ P 1 * 10 := Nat.mul_le_mul_left _ (by omega)
  have m2 : P 2 * (10 - fgS law s 2) ≤ P 2 * 10 := Nat.mul_le_mul_left _ (by omega)
  have m3 : P 3 * (10 - fgS law s 3) ≤ P 3 * 10 := Nat.mul_le_mul_left _ (by omega)
  omega
theorem xS_step {P : Nat → Nat} {law p s : Nat} (h : law < 14641) (hp : p < 4) (hs : s < 2 ^ p) : xS P law (2 ^ p + s) = xS P law s + (P p * (10 - fg law p / 2) - P p * (10 - fg law p)) := by
  obtain ⟨b1, b2, b3⟩ := bt_step p hp s hs
  have hf := fg_le (p := p) h
  have hm : P p * (10 - fg law p) ≤ P p * (10 - fg law p / 2) := Nat.mul_le_mul_left _ (by omega)
  have e1 := fgS_1 (law := law) b1
  have e2 := fgS_0 (law := law) b2
  unfold xS
  match p, hp with
  | 0, _ =>
    rw [fgS_c (b3 1 (by omega) (by omega)), fgS_c (b3 2 (by omega) (by omega)), fgS_c (b3 3 (by omega) (by omega)), e1, e2]
    omega
  | 1, _ =>
    rw [fgS_c (b3 0 (by omega) (by omega)), fgS_c (b3 2 (by omega) (by omega)), fgS_c (b3 3 (by omega) (by omega)), e1, e2]
    omega
  | 2, _ =>
    rw [fgS_c (b3 0 (by omega) (by omega)), fgS_c (b3 1 (by omega) (by omega)), fgS_c (b3 3 (by omega) (by omega)), e1, e2]
    omega
  | 3, _ =>
    rw [fgS_c (b3 0 (by omega) (by omega)), fgS_c (b3 1 (by omega) (by omega)), fgS_c (b3 2 (by omega) (by omega)), e1, e2]
    omega
theorem xS_0 {P : Nat → Nat} {law : Nat} : xS P law 0 = xx P law := by
  unfold xS xx
  rw [fgS_0 rfl, fgS_0 rfl, fgS_0 rfl, fgS_0 rfl]
theorem xstandAll {P : Nat → Nat} {u : CX} (hP : rP P) (hT : xTm P u) {law : Nat} (hl : law < 14641) {k : Nat} (hk : 20 ≤ k) : ∃ f, fX4_standAll k (nI law) u = some (xs_stands u f) ∧ ∀ s, s < 16 → f s = nI (xS P law s) := by
  unfold fX4_standAll
  rw [xstand hT hl hk, zbind_s, show (0 : Int32) = nI 0 from rfl, zix_n (by omega) (by omega), zb_e]
  have key : ∃ w, ziter (bX4_standAll_16 k (nI law)) k (nI 0, xs_stands u (upd (xg_stands u) 0 (nI (xx P law)))) = some w ∧ ∃ f, w = xs_stands u f ∧ ∀ s, s < 2 ^ 4 → f s = nI (xS P law s) := by
    refine ziter_inv (fun p a => ∃ f, a = (nI p, xs_stands u f) ∧ ∀ s, s < 2 ^ p → f s = nI (xS P law s)) _ 4 ?_ ?_ 4 0 k _ (by omega) ⟨_, rfl, fun s hs => ?_⟩ (by omega)
    · rintro p a hp ⟨f, rfl, hf⟩
      left
      have hp16 : 2 ^ p ≤ 8 := by
        have : 2 ^ p ≤ 2 ^ 3 := Nat.pow_le_pow_right (by omega) (by omega)
        omega
      have hT' : ∀ g, xTm P (xs_stands u g) := fun _ => hT
      have hfl := fg_le (p := p) hl
      have hm : P p * (10 - fg law p) ≤ P p * (10 - fg law p / 2) := Nat.mul_le_mul_left _ (by omega)
      unfold bX4_standAll_16
      dsimp only
      rw [if_neg (by rw [show (4 : Int32) = nI 4 from rfl, nI_leI (by omega) (by omega)]; omega), xfig hl hp, zbind_s, zdi_n (by decide), show (2 : Int32) = nI 2 from rfl, pk_div (by omega) (by omega) (by omega), xpartS (hT' _) (by omega) (by omega), zbind_s, xpartS (hT' _) (by omega) (by omega), zbind_s, zb_e, zb_e, pk_sub hm, sh_i p hp, show (0 : Int32) = nI 0 from rfl]
      have k2 : ∃ w, ziter (bX4_standAll_58 k (nI law) (nI p) (nI (P p * (10 - fg law p / 2) - P p * (10 - fg law p))) (nI (2 ^ p))) k (nI 0, xs_stands u f) = some w ∧ ∃ f, w = xs_stands u f ∧ ∀ s, s < 2 ^ p + 2 ^ p → f s = nI (xS P law s) := by
        refine ziter_inv (fun i a => ∃ f, a = (nI i, xs_stands u f) ∧ ∀ s, s < 2 ^ p + i → f s = nI (xS P law s)) _ (2 ^ p) ?_ ?_ (2 ^ p) 0 k _ (by omega) ⟨f, rfl, hf⟩ (by omega)
        · rintro i a hi ⟨f, rfl, hf⟩
          left
          unfold bX4_standAll_58
          dsimp only
          rw [if_neg (by rw [nI_leI (by omega) (by omega)]; omega), zget_n (by omega) (by omega), nI_add, zix_n (by omega) (by omega), zb_e, nI_1, show xg_stands (xs_stands u f) i = nI (xS P law i) from hf i (by omega), nI_add, ← xS_step hl hp hi]
          refine ⟨_, rfl, upd f (2 ^ p + i) (nI (xS P law (2 ^ p + i))), rfl, ?_⟩
          intro s hs
          by_cases c : s = 2 ^ p + i
          · subst c
            exact upd_s
          · rw [upd_n c]
            exact hf s (by omega)
        · rintro a ⟨f, rfl, hf⟩
          refine ⟨xs_stands u f, ?_, f, rfl, hf⟩
          unfold bX4_standAll_58
          dsimp only
          rw [if_pos (by rw [nI_leI (by omega) (by omega)]; omega)]
      obtain ⟨w, e, f', rfl, hf'⟩ := k2
      rw [e, zbind_s, nI_1]
      refine ⟨_, rfl, f', rfl, ?_⟩
      intro s hs
      exact hf' s (by rw [Nat.pow_succ] at hs; omega)
    · rintro a ⟨f, rfl, hf⟩
      exact ⟨_, rfl, f, rfl, hf⟩
    · obtain rfl : s = 0 := by omega
      rw [upd_s, xS_0]
  obtain ⟨w, e, f, rfl, hf⟩ := key
  rw [e, zbind_s]
  exact ⟨f, rfl, hf⟩
theorem wt_le {P : Nat → Nat} (hP : rP P) (s : Nat) : wt P s ≤ 80 := by
  unfold wt
  have b0 := mul_b (bt_le s 0) (show P 8 ≤ 20 from hP.2.2.1 0 (by omega))
  have b1 := mul_b (bt_le s 1) (show P 9 ≤ 20 from hP.2.2.1 1 (by omega))
  have b2 := mul_b (bt_le s 2) (show P 10 ≤ 20 from hP.2.2.1 2 (by omega))
  have b3 := mul_b (bt_le s 3) (show P 11 ≤ 20 from hP.2.2.1 3 (by omega))
  omega
theorem hX_mono {P : Nat → Nat} {s x y : Nat} (h : x ≤ y) : hX_ P s x ≤ hX_ P s y := by
  unfold hX_
  have h1 : fac P s 3 * x + fac P s 2 ≤ fac P s 3 * y + fac P s 2 := Nat.add_le_add_right (Nat.mul_le_mul_left _ h) _
  have h2 := Nat.add_le_add_right (Nat.mul_le_mul h1 h) (fac P s 1)
  exact Nat.add_le_add_right (Nat.mul_le_mul h2 h) (fac P s 0)
theorem hX_b {P : Nat → Nat} (hP : rP P) (s : Nat) {x : Nat} (hx : x ≤ sc P) : hX_ P s x ≤ 100 * (sH P * (sc P * sc P * sc P)) := by
  have hw := wt_le hP s
  refine Nat.le_trans (hX_mono hx) ?_
  unfold hX_ fac sH
  rw [if_pos rfl, if_neg (by omega), if_pos rfl, if_neg (by omega), if_neg (by omega), if_pos rfl, if_neg (by omega), if_neg (by omega), if_neg (by omega)]
  generalize hq : wt P s = w at hw
  obtain ⟨v, hv⟩ : ∃ v, v + w = 100 := ⟨100 - w, by omega⟩
  rw [show 100 - w = v by omega]
  generalize sc P = c
  have : 100 = v + w := by omega
  rw [this]
  apply Nat.le_of_eq
  grind
theorem hX_o {P : Nat → Nat} (hP : rP P) (s : Nat) {x : Nat} (hx : x ≤ sc P) : hX_ P s x * (1000 - P 16) ≤ 100 * wh P := by
  have h1 := hX_b hP s hx
  have h2 := mul_b h1 (show 1000 - P 16 ≤ 1000 by omega)
  have e : 100 * (sH P * (sc P * sc P * sc P)) * 1000 = 100 * wh P := by
    unfold wh
    grind
  omega
theorem hX_n {P : Nat → Nat} (hP : rP P) (s : Nat) {x : Nat} (hx : x ≤ sc P) : hX_ P s x < 2 ^ 50 := by
  have h1 := hX_b hP s hx
  obtain ⟨w1, w2, w3, w4, w5, w6⟩ := wh_b hP
  have h2 := mul_b w4 (mul_b (mul_b w2 w2) w2)
  omega
theorem xhomesAt {P : Nat → Nat} {u : CX} (hl : xPl P u) {s x : Nat} (hs : s < 16) : fX4_homesAt (nI s) (lN x) u = some (lN (hX_ P s x)) := by
  unfold fX4_homesAt
  have e0 : xg_factors u (4 * s) = lN (fac P s 0) := hl.2 s 0 hs (by omega)
  rw [zb_e, show (4 : Int32) = nI 4 from rfl, pk_mul, show (1 : Int32) = nI 1 from rfl, show (2 : Int32) = nI 2 from rfl, show (3 : Int32) = nI 3 from rfl, nI_add, nI_add, nI_add, zget_n (by omega) (by omega), zget_n (by omega) (by omega), zget_n (by omega) (by omega), zget_n (by omega) (by omega), hl.2 s 3 hs (by omega), hl.2 s 2 hs (by omega), hl.2 s 1 hs (by omega), e0]
  simp only [lN_mul, lN_add]
  rfl
theorem xhomesBy {P : Nat → Nat} {u : CX} (hP : rP P) (hT : xTm P u) (hl : xPl P u) {law s : Nat} (hlaw : law < 14641) (hs : s < 16) {k : Nat} (hk : 20 ≤ k) : ∃ f, fX4_homesBy k (nI law) (nI s) u = some (lN (hX_ P s (xS P law s)), xs_stands u f) := by
  obtain ⟨f, e, hf⟩ := xstandAll hP hT hlaw hk
  have hl' : xPl P (xs_stands u f) := hl
  have hx := xS_le hP law s
  have hsc := (xx_le hP law).2
  unfold fX4_homesBy
  rw [e, zbind_s, zget_n hs (by omega), show xg_stands (xs_stands u f) s = nI (xS P law s) from hf s hs, nI_l (by omega), xhomesAt hl' hs, zbind_s]
  exact ⟨f, rfl⟩
theorem ok_0 {P : Nat → Nat} : okS P 0 = true := decide_eq_true (show wt P 0 ≤ P 18 by
  have : wt P 0 = 0 := by
    show 0 * P 8 + 0 * P 9 + 0 * P 10 + 0 * P 11 = 0
    omega
  omega)
theorem amx_lt (ok : Nat → Bool) (h : Nat → Nat) : ∀ n, amx ok h n ≤ n - 1 := by
  intro n
  induction n with
  | zero => exact Nat.le_refl _
  | succ n ih =>
    show (if _ then _ else _) ≤ _
    split <;> omega
/-- the class: the set with the most homes -/
theorem xmost_s {P : Nat → Nat} {u : CX} (hl : xPl P u) {X : Nat → Nat} (hX : ∀ s, s < 16 → xg_stands u s = nI (X s) ∧ X s < 2 ^ 31 ∧ hX_ P s (X s) < 2 ^ 62) {k : Nat} (hk : 20 ≤ k) : fX4_mostHomes_s k u = some (nI (amx (okS P) (fun s => hX_ P s (X s)) 16)) := by
  unfold fX4_mostHomes_s
  have key : ∃ b, ziter (bX4_mostHomes_s_9 k u) k ((0 : Int32), (-1 : Int64), (0 : Int32)) = some b ∧ b = nI (amx (okS P) (fun s => hX_ P s (X s)) 16) := by
    refine ziter_inv (fun i a => a.1 = nI (amx (okS P) (fun s => hX_ P s (X s)) i) ∧ a.2.2 = nI i ∧ ((i = 0 ∧ a.2.1 = -1) ∨ (0 < i ∧ a.2.1 = lN (hX_ P (amx (okS P) (fun s => hX_ P s (X s)) i) (X (amx (okS P) (fun s => hX_ P s (X s)) i)))))) _ 16 ?_ ?_ 16 0 k _ (by omega) ⟨rfl, rfl, Or.inl ⟨rfl, rfl⟩⟩ (by omega)
    · rintro i ⟨a1, a2, a3⟩ hi ⟨h1, h2, h3⟩
      left
      dsimp only at h1 h2 h3
      subst h1 h2
      obtain ⟨x1, x2, x3⟩ := hX i hi
      have hlt := amx_lt (okS P) (fun s => hX_ P s (X s)) i
      obtain ⟨y1, y2, y3⟩ := hX (amx (okS P) (fun s => hX_ P s (X s)) i) (by omega)
      unfold bX4_mostHomes_s_9
      dsimp only
      have ell : xg_light u i = bI (okS P i) := hl.1 i hi
      rw [if_neg (by rw [show (16 : Int32) = nI 16 from rfl, nI_leI (by omega) (by omega)]; omega), zget_n hi (by omega), ell, bI_if, zget_n hi (by omega), x1, nI_l x2, xhomesAt hl hi, zbind_s, nI_1]
      have hs : amx (okS P) (fun s => hX_ P s (X s)) (i + 1) = if okS P i = true ∧ hX_ P (amx (okS P) (fun s => hX_ P s (X s)) i) (X (amx (okS P) (fun s => hX_ P s (X s)) i)) < hX_ P i (X i) then i else amx (okS P) (fun s => hX_ P s (X s)) i := rfl
      rcases h3 with ⟨rfl, rfl⟩ | ⟨h3, rfl⟩
      · rw [if_pos ok_0, if_neg (by rw [Int64.le_iff_toInt_le, pk_lT (by omega), show (-1 : Int64).toInt = -1 from rfl]; omega)]
        refine ⟨_, rfl, ?_, rfl, Or.inr ⟨by omega, ?_⟩⟩
        · rw [hs]
          split <;> rfl
        · rw [hs]
          split <;> rfl
      · by_cases c : okS P i = true
        · rw [if_pos c]
          by_cases d : hX_ P (amx (okS P) (fun s => hX_ P s (X s)) i) (X (amx (okS P) (fun s => hX_ P s (X s)) i)) < hX_ P i (X i)
          · rw [if_neg (by rw [pk_lLE (by omega) (by omega)]; omega)]
            rw [if_pos ⟨c, d⟩] at hs
            exact ⟨_, rfl, by rw [hs], rfl, Or.inr ⟨by omega, by rw [hs]⟩⟩
          · rw [if_pos (by rw [pk_lLE (by omega) (by omega)]; omega)]
            rw [if_neg (fun z => d z.2)] at hs
            exact ⟨_, rfl, by rw [hs], rfl, Or.inr ⟨by omega, by rw [hs]⟩⟩
        · rw [if_neg c]
          rw [if_neg (fun z => c z.1)] at hs
          exact ⟨_, rfl, by rw [hs], rfl, Or.inr ⟨by omega, by rw [hs]⟩⟩
    · rintro ⟨a1, a2, a3⟩ ⟨h1, h2, h3⟩
      dsimp only at h1 h2 h3
      subst h1 h2
      exact ⟨_, rfl, rfl⟩
  obtain ⟨b, e, rfl⟩ := key
  rw [e, zbind_s]
theorem xmost_w {P : Nat → Nat} {u : CX} (hl : xPl P u) {X : Nat → Nat} (hX : ∀ s, s < 16 → xg_worst u s = nI (X s) ∧ X s < 2 ^ 31 ∧ hX_ P s (X s) < 2 ^ 62) {k : Nat} (hk : 20 ≤ k) : fX4_mostHomes_w k u = some (nI (amx (okS P) (fun s => hX_ P s (X s)) 16)) := by
  unfold fX4_mostHomes_w
  have key : ∃ b, ziter (bX4_mostHomes_w_9 k u) k ((0 : Int32), (-1 : Int64), (0 : Int32)) = some b ∧ b = nI (amx (okS P) (fun s => hX_ P s (X s)) 16) := by
    refine ziter_inv (fun i a => a.1 = nI (amx (okS P) (fun s => hX_ P s (X s)) i) ∧ a.2.2 = nI i ∧ ((i = 0 ∧ a.2.1 = -1) ∨ (0 < i ∧ a.2.1 = lN (hX_ P (amx (okS P) (fun s => hX_ P s (X s)) i) (X (amx (okS P) (fun s => hX_ P s (X s)) i)))))) _ 16 ?_ ?_ 16 0 k _ (by omega) ⟨rfl, rfl, Or.inl ⟨rfl, rfl⟩⟩ (by omega)
    · rintro i ⟨a1, a2, a3⟩ hi ⟨h1, h2, h3⟩
      left
      dsimp only at h1 h2 h3
      subst h1 h2
      obtain ⟨x1, x2, x3⟩ := hX i hi
      have hlt := amx_lt (okS P) (fun s => hX_ P s (X s)) i
      obtain ⟨y1, y2, y3⟩ := hX (amx (okS P) (fun s => hX_ P s (X s)) i) (by omega)
      unfold bX4_mostHomes_w_9
      dsimp only
      have ell : xg_light u i = bI (okS P i) := hl.1 i hi
      rw [if_neg (by rw [show (16 : Int32) = nI 16 from rfl, nI_leI (by omega) (by omega)]; omega), zget_n hi (by omega), ell, bI_if, zget_n hi (by omega), x1, nI_l x2, xhomesAt hl hi, zbind_s, nI_1]
      have hs : amx (okS P) (fun s => hX_ P s (X s)) (i + 1) = if okS P i = true ∧ hX_ P (amx (okS P) (fun s => hX_ P s (X s)) i) (X (amx (okS P) (fun s => hX_ P s (X s)) i)) < hX_ P i (X i) then i else amx (okS P) (fun s => hX_ P s (X s)) i := rfl
      rcases h3 with ⟨rfl, rfl⟩ | ⟨h3, rfl⟩
      · rw [if_pos ok_0, if_neg (by rw [Int64.le_iff_toInt_le, pk_lT (by omega), show (-1 : Int64).toInt = -1 from rfl]; omega)]
        refine ⟨_, rfl, ?_, rfl, Or.inr ⟨by omega, ?_⟩⟩
        · rw [hs]
          split <;> rfl
        · rw [hs]
          split <;> rfl
      · by_cases c : okS P i = true
        · rw [if_pos c]
          by_cases d : hX_ P (amx (okS P) (fun s => hX_ P s (X s)) i) (X (amx (okS P) (fun s => hX_ P s (X s)) i)) < hX_ P i (X i)
          · rw [if_neg (by rw [pk_lLE (by omega) (by omega)]; omega)]
            rw [if_pos ⟨c, d⟩] at hs
            exact ⟨_, rfl, by rw [hs], rfl, Or.inr ⟨by omega, by rw [hs]⟩⟩
          · rw [if_pos (by rw [pk_lLE (by omega) (by omega)]; omega)]
            rw [if_neg (fun z => d z.2)] at hs
            exact ⟨_, rfl, by rw [hs], rfl, Or.inr ⟨by omega, by rw [hs]⟩⟩
        · rw [if_neg c]
          rw [if_neg (fun z => c z.1)] at hs
          exact ⟨_, rfl, by rw [hs], rfl, Or.inr ⟨by omega, by rw [hs]⟩⟩
    · rintro ⟨a1, a2, a3⟩ ⟨h1, h2, h3⟩
      dsimp only at h1 h2 h3
      subst h1 h2
      exact ⟨_, rfl, rfl⟩
  obtain ⟨b, e, rfl⟩ := key
  rw [e, zbind_s]
