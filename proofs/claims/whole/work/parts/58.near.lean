/-! near: class and reference -/
def ds (a b : Nat) : Nat := (a - b) + (b - a)
theorem ds_le {a b m : Nat} : ds a b ≤ m ↔ nearB a b m = true := by
  unfold ds nearB
  rw [Bool.and_eq_true, decide_eq_true_iff, decide_eq_true_iff]
  omega
theorem lN_neg {a b : Nat} (h : a < b) : lN a - lN b = -(lN (b - a)) := by
  rw [← lN_sub (a := b) (b := a) (by omega)]
  grind
theorem lN_npos {d : Nat} (h0 : 0 < d) (h : d < 2 ^ 62) : ¬ (0 : Int64) ≤ -(lN d) := by
  rw [Int64.le_iff_toInt_le, Int64.toInt_neg, pk_lT (by omega)]
  rw [show (0 : Int64).toInt = 0 from rfl, Int.bmod_def]
  omega
theorem absd {a b : Nat} (ha : a < 2 ^ 62) (hb : b < 2 ^ 62) : zabsL (lN a - lN b) = lN (ds a b) := by
  unfold zabsL ds
  by_cases c : b ≤ a
  · rw [lN_sub c, show a - b + (b - a) = a - b by omega]
    split
    · rfl
    · rename_i h
      rw [show (0 : Int64) = lN 0 from rfl, pk_lLT (by omega) (by omega)] at h
      rw [show a - b = 0 by omega]
      rfl
  · rw [lN_neg (by omega), if_neg (fun z => lN_npos (d := b - a) (by omega) (by omega) (Int64.le_of_lt z)), Int64.neg_neg, show a - b + (b - a) = b - a by omega]
theorem msize {a b : Nat} (ha : a < 2 ^ 62) (hb : b < 2 ^ 62) : fX10_size (lN a - lN b) = some (lN (ds a b)) := by
  unfold fX10_size ds
  by_cases c : b ≤ a
  · rw [lN_sub c, show a - b + (b - a) = a - b by omega, if_pos]
    rw [show (0 : Int64) = lN 0 from rfl, pk_lLE (by omega) (by omega)]
    omega
  · rw [lN_neg (by omega), if_neg (lN_npos (d := b - a) (by omega) (by omega)), Int64.neg_neg, show a - b + (b - a) = b - a by omega]
theorem nI_neg {a b : Nat} (h : a < b) : nI a - nI b = -(nI (b - a)) := by
  rw [← pk_sub (a := b) (b := a) (by omega)]
  grind
theorem absI {a b : Nat} (ha : a < 2 ^ 30) (hb : b < 2 ^ 30) : zabsI (nI a - nI b) = nI (ds a b) := by
  unfold zabsI ds
  by_cases c : b ≤ a
  · rw [pk_sub c, show a - b + (b - a) = a - b by omega, if_pos]
    rw [show (0 : Int32) = nI 0 from rfl, nI_leI (by omega) (by omega)]
    omega
  · rw [nI_neg (by omega), if_neg, show a - b + (b - a) = b - a by omega]
    · grind
    · rw [Int32.le_iff_toInt_le, Int32.toInt_neg, nI_toInt (by omega), show (0 : Int32).toInt = 0 from rfl, Int.bmod_def]
      omega
def bI (b : Bool) : Int32 := if b then 1 else 0
theorem bI_if {β : Type} (b : Bool) (x y : β) : (if bI b = 0 then x else y) = if b = true then y else x := by
  cases b
  · rfl
  · rfl
theorem bI_bind {β : Type} (b : Bool) (x y : Option β) : (some (bI b)).bind (fun q => if q = 0 then x else y) = if b = true then y else x := by
  rw [zbind_s, bI_if]
theorem xnearT {s f d : Nat} (hs : s ≤ 20) (hf : f ≤ 20) (hd : d ≤ 10) : fX9_isNearTrial (nI s) (nI f) (nI d) = some (bI (nearB (10 * f) (s * d) 10)) := by
  unfold fX9_isNearTrial
  have hm := mul_b hs hd
  rw [show (10 : Int32) = nI 10 from rfl, pk_mul, pk_mul, absI (by omega) (by omega)]
  have hb : ds (10 * f) (s * d) < 2 ^ 31 := by unfold ds; omega
  by_cases c : ds (10 * f) (s * d) ≤ 10
  · rw [if_neg (by rw [nI_ltI (by omega) hb]; omega), ds_le.mp c]
    rfl
  · rw [if_pos (by rw [nI_ltI (by omega) hb]; omega)]
    have : nearB (10 * f) (s * d) 10 = false := by
      cases e : nearB (10 * f) (s * d) 10
      · rfl
      · exact absurd (ds_le.mpr e) c
    rw [this]
    rfl
theorem xallow {W S F : Nat → Nat} {u : CX} {v : MX} (hE : rEv W S F u v) (h3 : rE W S F) {p d : Nat} (hp : p < 4) (hd : d ≤ 10) : fX0_allows (nI p) (nI d) u = some (bI (evB W S F p d)) := by
  obtain ⟨e1, _, e2, _, e3, _⟩ := hE p hp
  obtain ⟨g1, g2, g3⟩ := h3 p hp
  unfold fX0_allows
  simp only [zget_n hp (show 4 ≤ 2 ^ 31 by omega), e1, e2, e3, xnearT g2 (show F p ≤ 20 by omega) hd, bI_bind]
  have hN : ∀ b : Bool, (if b = true then some (1 : Int32) else some (0 : Int32)) = some (bI b) := by
    intro b
    cases b <;> rfl
  rw [hN]
  unfold evB
  by_cases c : 0 < d
  · rw [if_pos (by rw [show (0 : Int32) = nI 0 from rfl, nI_ltI (by omega) (by omega)]; exact c), decide_eq_true c, Bool.or_true, Bool.true_and]
  · rw [if_neg (by rw [show (0 : Int32) = nI 0 from rfl, nI_ltI (by omega) (by omega)]; exact c), decide_eq_false c, Bool.or_false]
    by_cases w : W p = 0
    · rw [w, if_pos (show nI 0 = 0 from rfl)]
      simp
    · rw [if_neg (by rw [show (0 : Int32) = nI 0 from rfl, nI_eq (by omega) (by omega)]; exact w), decide_eq_false w]
      rfl
theorem K_b {K : Nat → Nat} (hK : rK K) : K 0 ≤ 999 ∧ (∀ j, j < 4 → K (1 + j) ≤ 999) ∧ ∀ p, p < 4 → K (5 + p) ≤ 2997 := by
  obtain ⟨a, b, c, d⟩ := hK
  refine ⟨a, ?_, fun p hp => by have := c p hp; omega⟩
  intro j hj
  match j, hj with
  | 0, _ => show K 1 ≤ _; omega
  | 1, _ => show K 2 ≤ _; omega
  | 2, _ => show K 3 ≤ _; omega
  | 3, _ => show K 4 ≤ _; omega
theorem xnear1 {a b m : Nat} {β : Type} (ha : a < 2 ^ 62) (hb : b < 2 ^ 62) (hm : m < 2 ^ 62) (x y : β) : (if zabsL (lN a - lN b) ≤ lN m then x else y) = if nearB a b m = true then x else y := by
  rw [absd ha hb]
  have : ds a b < 2 ^ 62 := by unfold ds; omega
  have e : lN (ds a b) ≤ lN m ↔ nearB a b m = true := by rw [pk_lLE (by omega) (by omega), ds_le]
  by_cases c : nearB a b m = true
  · rw [if_pos c, if_pos (e.mpr c)]
  · rw [if_neg c, if_neg (fun z => c (e.mp z))]
theorem xnear2 {a b m : Nat} {β : Type} (ha : a < 2 ^ 62) (hb : b < 2 ^ 62) (hm : m < 2 ^ 62) (x y : β) : (if lN m < zabsL (lN a - lN b) then x else y) = if nearB a b m = true then y else x := by
  rw [absd ha hb]
  have : ds a b < 2 ^ 62 := by unfold ds; omega
  have e : ds a b ≤ m ↔ nearB a b m = true := ds_le
  by_cases c : nearB a b m = true
  · rw [if_pos c, if_neg (by rw [pk_lLT (by omega) (by omega)]; have := e.mpr c; omega)]
  · rw [if_neg c, if_pos (by rw [pk_lLT (by omega) (by omega)]; have : ¬ ds a b ≤ m := fun z => c (e.mp z); omega)]
theorem bI_some (b : Bool) : (if b = true then some (1 : Int32) else some (0 : Int32)) = some (bI b) := by
  cases b <;> rfl
theorem xnearH {P : Nat → Nat} {n : Nat} {T : Nat → Nat → Nat} {u : CX} (hP : rP P) (hK : rK (T n)) (hT : xTm P u) (hx : xHm n T u) {x sl : Nat} (hxs : x ≤ sc P) (hsl : sl ≤ 99) {k : Nat} (hk : 20 ≤ k) : fX2_homesAreNear k (nI x) (nI sl) u = some (bI (homB P (T n) x sl)) := by
  obtain ⟨k1, k2, k3⟩ := K_b hK
  obtain ⟨w1, w2, w3, w4, w5, w6⟩ := wh_b hP
  have st : ∀ j, j < 4 → bX2_homesAreNear_2 k (nI x) (nI sl) u (nI j) = if nearB (T n 0 * shU P j x) (T n (1 + j) * wh P) (sl * wh P) = true then some (.inl (nI (j + 1))) else some (.inr (.inl ())) := by
    intro j hj
    have hs := shU_le hP hj hxs
    have q1 := mul_b k1 hs
    have q2 := mul_b (k2 j hj) (Nat.le_refl (wh P))
    have q3 := mul_b hsl (Nat.le_refl (wh P))
    unfold bX2_homesAreNear_2
    rw [if_neg (by rw [show (3 : Int32) = nI 3 from rfl, nI_ltI (by omega) (by omega)]; omega), xsort hx, zbind_s, nI_l (n := x) (by omega), xhomesTop hP hT hj hk, zbind_s, zb_e, xwith hx hj, zbind_s, hT.2.2.2.2.2, nI_l (by omega), nI_l (by have := k2 j hj; omega), nI_l (by omega), lN_mul, lN_mul, lN_mul, xnear1 (by omega) (by omega) (by omega), nI_1]
  have ex : bX2_homesAreNear_2 k (nI x) (nI sl) u (nI 4) = some (.inr (.inr ())) := rfl
  unfold fX2_homesAreNear homB
  generalize bX2_homesAreNear_2 k (nI x) (nI sl) u = f at st ex
  obtain ⟨k', rfl⟩ : ∃ k', k = k' + 1 + 1 + 1 + 1 + 1 := ⟨k - 5, by omega⟩
  have s0 := st 0 (by omega)
  have s1 := st 1 (by omega)
  have s2 := st 2 (by omega)
  have s3 := st 3 (by omega)
  simp only [Nat.reduceAdd] at s0 s1 s2 s3
  rw [show (0 : Int32) = nI 0 from rfl]
  cases c0 : nearB (T n 0 * shU P 0 x) (T n 1 * wh P) (sl * wh P)
  · rw [c0] at s0
    rw [ziter_r s0]; rfl
  · rw [c0] at s0
    rw [ziter_l s0]
    cases c1 : nearB (T n 0 * shU P 1 x) (T n 2 * wh P) (sl * wh P)
    · rw [c1] at s1
      rw [ziter_r s1]; rfl
    · rw [c1] at s1
      rw [ziter_l s1]
      cases c2 : nearB (T n 0 * shU P 2 x) (T n 3 * wh P) (sl * wh P)
      · rw [c2] at s2
        rw [ziter_r s2]; rfl
      · rw [c2] at s2
        rw [ziter_l s2]
        cases c3 : nearB (T n 0 * shU P 3 x) (T n 4 * wh P) (sl * wh P)
        · rw [c3] at s3
          rw [ziter_r s3]; rfl
        · rw [c3] at s3
          rw [ziter_l s3, ziter_r ex]; rfl
theorem xnearP {P : Nat → Nat} {n : Nat} {T : Nat → Nat → Nat} {u : CX} (hP : rP P) (hK : rK (T n)) (hT : xTm P u) (hx : xHm n T u) {p d x sl : Nat} (hp : p < 4) (hd : d ≤ 10) (hxs : x ≤ sc P) (hsl : sl ≤ 99) : fX2_holesAreNear (nI p) (nI d) (lN (hoR P x)) (nI sl) u = some (bI (holB P (T n) p d x sl)) := by
  obtain ⟨k1, k2, k3⟩ := K_b hK
  obtain ⟨w1, w2, w3, w4, w5, w6⟩ := wh_b hP
  have hs := hoU_le hP (d := d) hp hxs
  have q1 := mul_b k1 hs
  have q2 := mul_b (k3 p hp) (Nat.le_refl (wh P))
  have q3 := mul_b hsl (Nat.le_refl (wh P))
  have hm := mul_b (hP.1 p hp).2 (show 10 - d ≤ 10 by omega)
  unfold fX2_holesAreNear
  rw [xsort hx, zbind_s, xpartS hT (by omega) hd, zbind_s, zb_e, xinP hx hp, zbind_s, hT.2.2.2.2.2, nI_l (n := T n 0) (by omega), nI_l (n := P p * (10 - d)) (by omega), nI_l (n := T n (5 + p)) (by have := k3 p hp; omega), nI_l (n := sl) (by omega), lN_mul, lN_mul, lN_mul, lN_mul, show P p * (10 - d) * hoR P x = hoU P p d x from rfl, xnear2 (by omega) (by omega) (by omega), bI_some]
  rfl
theorem xlawFits {P : Nat → Nat} {n : Nat} {T : Nat → Nat → Nat} {W S F : Nat → Nat} {u : CX} {v : MX} (hP : rP P) (hK : rK (T n)) (h3 : rE W S F) (hT : xTm P u) (hx : xHm n T u) (hE : rEv W S F u v) {law sl : Nat} (hl : law < 14641) (hsl : sl ≤ 99) {k : Nat} (hk : 20 ≤ k) : fX2_lawFits k (nI law) (nI sl) u = some (bI (fitB P (T n) W S F sl law)) := by
  have hxx := xx_le hP law
  have st : ∀ j, j < 4 → bX2_lawFits_2 k (nI law) (nI sl) u (nI j) = if evB W S F j (fg law j) = true then some (.inl (nI (j + 1))) else some (.inr (.inl ())) := by
    intro j hj
    unfold bX2_lawFits_2
    rw [if_neg (by rw [show (4 : Int32) = nI 4 from rfl, nI_leI (by omega) (by omega)]; omega), xfig hl hj, zbind_s, xallow hE h3 hj (fg_le hl), bI_bind, nI_1]
  have ex : bX2_lawFits_2 k (nI law) (nI sl) u (nI 4) = some (.inr (.inr ())) := rfl
  have st' : ∀ j, j < 4 → bX2_lawFits_65 k (nI law) (nI sl) (lN (hoR P (xx P law))) u (nI j) = if holB P (T n) j (fg law j) (xx P law) sl = true then some (.inl (nI (j + 1))) else some (.inr (.inl ())) := by
    intro j hj
    unfold bX2_lawFits_65
    rw [if_neg (by rw [show (4 : Int32) = nI 4 from rfl, nI_leI (by omega) (by omega)]; omega), xfig hl hj, zbind_s, xnearP hP hK hT hx hj (fg_le hl) hxx.1 hsl, bI_bind, nI_1]
  have ex' : bX2_lawFits_65 k (nI law) (nI sl) (lN (hoR P (xx P law))) u (nI 4) = some (.inr (.inr ())) := rfl
  unfold fX2_lawFits fitB evAll holAll
  rw [xstand hT hl hk]
  simp only [zbind_s]
  rw [nI_l (n := xx P law) (by omega), xholeRate hP hT, xnearH hP hK hT hx hxx.1 hsl hk]
  simp only [zbind_s, bI_if]
  generalize bX2_lawFits_2 k (nI law) (nI sl) u = f at st ex
  generalize bX2_lawFits_65 k (nI law) (nI sl) (lN (hoR P (xx P law))) u = g at st' ex'
  obtain ⟨k', rfl⟩ : ∃ k', k = k' + 1 + 1 + 1 + 1 + 1 := ⟨k - 5, by omega⟩
  have s0 := st 0 (by omega)
  have s1 := st 1 (by omega)
  have s2 := st 2 (by omega)
  have s3 := st 3 (by omega)
  have t0 := st' 0 (by omega)
  have t1 := st' 1 (by omega)
  have t2 := st' 2 (by omega)
  have t3 := st' 3 (by omega)
  rw [show (0 : Int32) = nI 0 from rfl]
  cases c0 : evB W S F 0 (fg law 0)
  · rw [c0] at s0
    rw [ziter_r s0]; rfl
  · rw [c0] at s0
    rw [ziter_l s0]
    cases c1 : evB W S F 1 (fg law 1)
    · rw [c1] at s1
      rw [ziter_r s1]; rfl
    · rw [c1] at s1
      rw [ziter_l s1]
      cases c2 : evB W S F 2 (fg law 2)
      · rw [c2] at s2
        rw [ziter_r s2]; rfl
      · rw [c2] at s2
        rw [ziter_l s2]
        cases c3 : evB W S F 3 (fg law 3)
        · rw [c3] at s3
          rw [ziter_r s3]; rfl
        · rw [c3] at s3
          rw [ziter_l s3, ziter_r ex, zbind_s, z_e2]
          cases c4 : homB P (T n) (xx P law) sl
          · rfl
          · rw [if_pos rfl]
            cases d0 : holB P (T n) 0 (fg law 0) (xx P law) sl
            · rw [d0] at t0
              rw [ziter_r t0]; rfl
            · rw [d0] at t0
              rw [ziter_l t0]
              cases d1 : holB P (T n) 1 (fg law 1) (xx P law) sl
              · rw [d1] at t1
                rw [ziter_r t1]; rfl
              · rw [d1] at t1
                rw [ziter_l t1]
                cases d2 : holB P (T n) 2 (fg law 2) (xx P law) sl
                · rw [d2] at t2
                  rw [ziter_r t2]; rfl
                · rw [d2] at t2
                  rw [ziter_l t2]
                  cases d3 : holB P (T n) 3 (fg law 3) (xx P law) sl
                  · rw [d3] at t3
                    rw [ziter_r t3]; rfl
                  · rw [d3] at t3
                    rw [ziter_l t3, ziter_r ex']; rfl
