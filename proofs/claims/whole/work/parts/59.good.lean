/-! the reference: seen, farthest, good -/
theorem mnear {S F : Nat → Nat} {P : Nat → Nat} {law : Nat} {v : MX} (hlaw : law < 14641) (hL : mLw P law v) {p s f : Nat} (hp : p < 4) (hs : s ≤ 20) (hf : f ≤ 20) : fX10_isNear (nI p) (nI s) (nI f) v = some (bI (nearB (10 * f) (s * fg law p) 10)) := by
  unfold fX10_isNear
  have hm := mul_b hs (fg_le (p := p) hlaw)
  rw [zget_n hp (by omega), hL.1 p hp, nI_l (by omega), pk_mul, nI_l (by omega), show (10 : Int64) = lN 10 from rfl, lN_mul, msize (by omega) (by omega), zbind_s]
  have hb : ds (10 * f) (s * fg law p) < 2 ^ 31 := by unfold ds; omega
  have e : ds (10 * f) (s * fg law p) ≤ 10 ↔ nearB (10 * f) (s * fg law p) 10 = true := ds_le
  cases c : nearB (10 * f) (s * fg law p) 10
  · rw [if_pos (by rw [pk_lLT (by omega) (by omega)]; rw [c] at e; have : ¬ ds (10 * f) (s * fg law p) ≤ 10 := fun z => absurd (e.mp z) (by decide); omega)]
    rfl
  · rw [if_neg (by rw [pk_lLT (by omega) (by omega)]; have := e.mpr c; omega)]
    rfl
theorem mseen {W S F P : Nat → Nat} {law : Nat} {u : CX} {v : MX} (hlaw : law < 14641) (h3 : rE W S F) (hE : rEv W S F u v) (hL : mLw P law v) {k : Nat} (hk : 20 ≤ k) : fX10_isSeen k v = some (bI (evAll W S F law)) := by
  have st : ∀ (b : Bool) (p : Nat), p < 4 → bX10_isSeen_4 k v (bI b, nI p) = some (.inl (bI (b && evB W S F p (fg law p)), nI (p + 1))) := by
    intro b p hp
    have hfl := fg_le (p := p) hlaw
    unfold bX10_isSeen_4
    dsimp only
    rw [if_neg (by rw [show (4 : Int32) = nI 4 from rfl, nI_leI (by omega) (by omega)]; omega), bI_if, nI_1]
    cases b
    · rfl
    · rw [if_pos rfl, Bool.true_and]
      obtain ⟨_, e1, _, e2, _, e3⟩ := hE p hp
      obtain ⟨g1, g2, g3⟩ := h3 p hp
      have hj : jX10_isSeen_j31_4 k (nI p) v = some (.inl (bI (nearB (10 * F p) (S p * fg law p) 10), nI (p + 1))) := by
        unfold jX10_isSeen_j31_4
        simp only [zget_n hp (show 4 ≤ 2 ^ 31 by omega), e2, e3, mnear (S := S) (F := F) hlaw hL hp g2 (show F p ≤ 20 by omega), bI_bind, nI_1]
        by_cases c : S p = 0
        · rw [c, if_pos (show nI 0 = 0 from rfl)]
          have hF : F p = 0 := by omega
          rw [hF, show nearB (10 * 0) (0 * fg law p) 10 = true from by rw [← ds_le]; unfold ds; omega]
          rfl
        · rw [if_neg (by rw [show (0 : Int32) = nI 0 from rfl, nI_eq (by omega) (by omega)]; exact c)]
          cases nearB (10 * F p) (S p * fg law p) 10 <;> rfl
      rw [hj, zget_n hp (by omega), e1, zget_n hp (by omega), hL.1 p hp]
      unfold evB
      by_cases w : W p = 0
      · rw [w, if_pos (show nI 0 = 0 from rfl)]
        simp
      · rw [if_neg (by rw [show (0 : Int32) = nI 0 from rfl, nI_eq (by omega) (by omega)]; exact w), decide_eq_false w, Bool.false_or]
        by_cases c : 0 < fg law p
        · rw [if_neg (by rw [show (0 : Int32) = nI 0 from rfl, nI_leI (by omega) (by omega)]; omega), decide_eq_true c, Bool.true_and]
        · rw [if_pos (by rw [show (0 : Int32) = nI 0 from rfl, nI_leI (by omega) (by omega)]; omega), decide_eq_false c]
          rfl
  have ex : ∀ c, bX10_isSeen_4 k v (c, nI 4) = some (.inr c) := fun c => rfl
  unfold fX10_isSeen evAll
  generalize bX10_isSeen_4 k v = f at st ex
  obtain ⟨k', rfl⟩ : ∃ k', k = k' + 1 + 1 + 1 + 1 + 1 := ⟨k - 5, by omega⟩
  rw [show (((1 : Int32), (0 : Int32)) : Int32 × Int32) = (bI true, nI 0) from rfl, ziter_l (st _ 0 (by omega)), ziter_l (st _ 1 (by omega)), ziter_l (st _ 2 (by omega)), ziter_l (st _ 3 (by omega)), ziter_r (ex _), zbind_s]
  rw [Bool.true_and, Bool.and_assoc, Bool.and_assoc]
  generalize (evB W S F 0 (fg law 0) && (evB W S F 1 (fg law 1) && (evB W S F 2 (fg law 2) && evB W S F 3 (fg law 3)))) = b
  cases b
  · exact zbo_0 _
  · exact zbo_1 _
def mx2 (a b : Nat) : Nat := if b ≤ a then a else b
def dS (P K : Nat → Nat) (law n : Nat) : Nat := ds (K 0 * shU P n (xx P law)) (K (1 + n) * wh P)
def dH (P K : Nat → Nat) (law p : Nat) : Nat := ds (K 0 * hoU P p (fg law p) (xx P law)) (K (5 + p) * wh P)
def far (P K : Nat → Nat) (law : Nat) : Nat := mx2 (mx2 (mx2 (mx2 (mx2 (mx2 (mx2 (mx2 0 (dS P K law 0)) (dS P K law 1)) (dS P K law 2)) (dS P K law 3)) (dH P K law 0)) (dH P K law 1)) (dH P K law 2)) (dH P K law 3)
theorem mx2_le {a b m : Nat} : mx2 a b ≤ m ↔ a ≤ m ∧ b ≤ m := by
  unfold mx2
  split <;> omega
theorem far_iff {P K : Nat → Nat} {law sl : Nat} : far P K law ≤ sl * wh P ↔ (homB P K (xx P law) sl && holAll P K law (xx P law) sl) = true := by
  unfold far homB holAll holB
  simp only [mx2_le, Bool.and_eq_true, ← ds_le]
  unfold dS dH
  have : 0 ≤ sl * wh P := Nat.zero_le _
  simp only [Nat.reduceAdd]
  grind
theorem fit_iff {P K W S F : Nat → Nat} {law sl : Nat} : fitB P K W S F sl law = true ↔ evAll W S F law = true ∧ far P K law ≤ sl * wh P := by
  unfold fitB
  rw [Bool.and_eq_true, far_iff]
theorem dS_b {P K : Nat → Nat} (hP : rP P) (hK : rK K) {law j : Nat} (hj : j < 4) : K 0 * shU P j (xx P law) < 2 ^ 60 ∧ K (1 + j) * wh P < 2 ^ 60 ∧ dS P K law j < 2 ^ 61 := by
  obtain ⟨k1, k2, k3⟩ := K_b hK
  obtain ⟨w1, w2, w3, w4, w5, w6⟩ := wh_b hP
  have hs := shU_le hP hj (xx_le hP law).1
  have q1 := mul_b k1 hs
  have q2 := mul_b (k2 j hj) (Nat.le_refl (wh P))
  refine ⟨by omega, by omega, ?_⟩
  unfold dS ds
  omega
theorem dH_b {P K : Nat → Nat} (hP : rP P) (hK : rK K) {law j : Nat} (hj : j < 4) : K 0 * hoU P j (fg law j) (xx P law) < 2 ^ 60 ∧ K (5 + j) * wh P < 2 ^ 60 ∧ dH P K law j < 2 ^ 61 := by
  obtain ⟨k1, k2, k3⟩ := K_b hK
  obtain ⟨w1, w2, w3, w4, w5, w6⟩ := wh_b hP
  have hs := hoU_le hP (d := fg law j) hj (xx_le hP law).1
  have q1 := mul_b k1 hs
  have q2 := mul_b (k3 j hj) (Nat.le_refl (wh P))
  refine ⟨by omega, by omega, ?_⟩
  unfold dH ds
  omega
theorem mx2_lt {a b m : Nat} (h1 : a < m) (h2 : b < m) : mx2 a b < m := by
  unfold mx2
  split <;> omega
theorem far_b {P K : Nat → Nat} (hP : rP P) (hK : rK K) {law : Nat} : far P K law < 2 ^ 61 := by
  unfold far
  exact mx2_lt (mx2_lt (mx2_lt (mx2_lt (mx2_lt (mx2_lt (mx2_lt (mx2_lt (by omega) (dS_b hP hK (by omega)).2.2) (dS_b hP hK (by omega)).2.2) (dS_b hP hK (by omega)).2.2) (dS_b hP hK (by omega)).2.2) (dH_b hP hK (by omega)).2.2) (dH_b hP hK (by omega)).2.2) (dH_b hP hK (by omega)).2.2) (dH_b hP hK (by omega)).2.2
theorem mfar {P : Nat → Nat} {n : Nat} {T : Nat → Nat → Nat} {law : Nat} {v : MX} (hP : rP P) (hK : rK (T n)) (hM : mHd P v) (hm : mHm n T v) (hlaw : law < 14641) (hL : mLw P law v) {k : Nat} (hk : 20 ≤ k) : fX10_farthest k v = some (lN (far P (T n) law)) := by
  obtain ⟨k1, k2, k3⟩ := K_b hK
  have st : ∀ (c j : Nat), c < 2 ^ 61 → j < 4 → bX10_farthest_4 k v (lN c, nI j) = some (.inl (lN (mx2 c (dS P (T n) law j)), nI (j + 1))) := by
    intro c j hc hj
    obtain ⟨b1, b2, b3⟩ := dS_b hP hK (law := law) hj
    unfold bX10_farthest_4
    dsimp only
    rw [if_neg (by rw [show (4 : Int32) = nI 4 from rfl, nI_leI (by omega) (by omega)]; omega), show (0 : Int32) = nI 0 from rfl, zget_n (by omega) (by omega), hm.1 0 (by omega), mshareUp hP hM hL hj hk, zbind_s, show (1 : Int32) = nI 1 from rfl, nI_add, nI_add, zget_n (by omega) (by omega), hm.1 _ (by omega), mwhole hL hk, zbind_s, nI_l (n := T n 0) (by omega), nI_l (n := T n (1 + j)) (by have := k2 j hj; omega), lN_mul, lN_mul, msize (by omega) (by omega), zbind_s]
    rw [show ds (T n 0 * shU P j (xx P law)) (T n (1 + j) * wh P) = dS P (T n) law j from rfl]
    unfold mx2
    by_cases d : dS P (T n) law j ≤ c
    · rw [if_pos (by rw [pk_lLE (by omega) (by omega)]; exact d), if_pos d]
    · rw [if_neg (by rw [pk_lLE (by omega) (by omega)]; exact d), if_neg d]
  have st' : ∀ (c j : Nat), c < 2 ^ 61 → j < 4 → bX10_farthest_64 k v (lN c, nI j) = some (.inl (lN (mx2 c (dH P (T n) law j)), nI (j + 1))) := by
    intro c j hc hj
    obtain ⟨b1, b2, b3⟩ := dH_b hP hK (law := law) hj
    unfold bX10_farthest_64
    dsimp only
    rw [if_neg (by rw [show (4 : Int32) = nI 4 from rfl, nI_leI (by omega) (by omega)]; omega), show (0 : Int32) = nI 0 from rfl, zget_n (by omega) (by omega), hm.1 0 (by omega), mholesUp hP hM hlaw hL hj hk, zbind_s, show (5 : Int32) = nI 5 from rfl, show (1 : Int32) = nI 1 from rfl, nI_add, nI_add, zget_n (by omega) (by omega), hm.1 _ (by omega), mwhole hL hk, zbind_s, nI_l (n := T n 0) (by omega), nI_l (n := T n (5 + j)) (by have := k3 j hj; omega), lN_mul, lN_mul, msize (by omega) (by omega), zbind_s]
    rw [show ds (T n 0 * hoU P j (fg law j) (xx P law)) (T n (5 + j) * wh P) = dH P (T n) law j from rfl]
    unfold mx2
    by_cases d : dH P (T n) law j ≤ c
    · rw [if_pos (by rw [pk_lLE (by omega) (by omega)]; exact d), if_pos d]
    · rw [if_neg (by rw [pk_lLE (by omega) (by omega)]; exact d), if_neg d]
  have ex : ∀ c, bX10_farthest_4 k v (c, nI 4) = some (.inr c) := fun c => rfl
  have ex' : ∀ c, bX10_farthest_64 k v (c, nI 4) = some (.inr c) := fun c => rfl
  unfold fX10_farthest far
  generalize bX10_farthest_4 k v = f at st ex
  generalize bX10_farthest_64 k v = g at st' ex'
  obtain ⟨k', rfl⟩ : ∃ k', k = k' + 1 + 1 + 1 + 1 + 1 := ⟨k - 5, by omega⟩
  have a0 := mx2_lt (a := 0) (by omega) (dS_b hP hK (law := law) (j := 0) (by omega)).2.2
  have a1 := mx2_lt a0 (dS_b hP hK (law := law) (j := 1) (by omega)).2.2
  have a2 := mx2_lt a1 (dS_b hP hK (law := law) (j := 2) (by omega)).2.2
  have a3 := mx2_lt a2 (dS_b hP hK (law := law) (j := 3) (by omega)).2.2
  have a4 := mx2_lt a3 (dH_b hP hK (law := law) (j := 0) (by omega)).2.2
  have a5 := mx2_lt a4 (dH_b hP hK (law := law) (j := 1) (by omega)).2.2
  have a6 := mx2_lt a5 (dH_b hP hK (law := law) (j := 2) (by omega)).2.2
  rw [show (((0 : Int64), (0 : Int32)) : Int64 × Int32) = (lN 0, nI 0) from rfl, show (0 : Int32) = nI 0 from rfl, ziter_l (st _ 0 (by omega) (by omega)), ziter_l (st _ 1 a0 (by omega)), ziter_l (st _ 2 a1 (by omega)), ziter_l (st _ 3 a2 (by omega)), ziter_r (ex _), zbind_s, ziter_l (st' _ 0 a3 (by omega)), ziter_l (st' _ 1 a4 (by omega)), ziter_l (st' _ 2 a5 (by omega)), ziter_l (st' _ 3 a6 (by omega)), ziter_r (ex' _), zbind_s]
