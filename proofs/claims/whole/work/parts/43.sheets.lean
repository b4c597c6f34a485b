/-! known, count, sheets, tape -/
theorem xsort {n : Nat} {T : Nat → Nat → Nat} {u : CX} (h : xHm n T u) : fX3_sorties u = some (nI (T n 0)) := by
  unfold fX3_sorties
  rw [show (0 : Int32) = nI 0 from rfl, zget_n (by omega) (by omega), h.1 _ (by omega)]
theorem xwith {n : Nat} {T : Nat → Nat → Nat} {u : CX} (h : xHm n T u) {j : Nat} (hj : j < 4) : fX3_withHoles (nI j) u = some (nI (T n (1 + j))) := by
  unfold fX3_withHoles
  rw [show (1 : Int32) = nI 1 from rfl, nI_add, zget_n (by omega) (by omega), h.1 _ (by omega)]
theorem xinP {n : Nat} {T : Nat → Nat → Nat} {u : CX} (h : xHm n T u) {j : Nat} (hj : j < 4) : fX3_inPart (nI j) u = some (nI (T n (5 + j))) := by
  unfold fX3_inPart
  rw [show (5 : Int32) = nI 5 from rfl, nI_add, zget_n (by omega) (by omega), h.1 _ (by omega)]
theorem xallH {n : Nat} {T : Nat → Nat → Nat} {u : CX} (h : xHm n T u) : fX3_allHomes u = some (nI (T n 1 + T n 2 + T n 3 + T n 4)) := by
  unfold fX3_allHomes
  rw [show (0 : Int32) = nI 0 from rfl, show (1 : Int32) = nI 1 from rfl, show (2 : Int32) = nI 2 from rfl, show (3 : Int32) = nI 3 from rfl, xwith h (by omega), zbind_s, xwith h (by omega), zbind_s, xwith h (by omega), zbind_s, xwith h (by omega), zbind_s, nI_add, nI_add, nI_add]
theorem mhomes_ {n : Nat} {T : Nat → Nat → Nat} {v : MX} (h : mHm n T v) : fX10_homes v = some (nI (T n 1 + T n 2 + T n 3 + T n 4)) := by
  unfold fX10_homes
  rw [show (1 : Int32) = nI 1 from rfl, show (2 : Int32) = nI 2 from rfl, show (3 : Int32) = nI 3 from rfl, show (4 : Int32) = nI 4 from rfl, zget_n (by omega) (by omega), zget_n (by omega) (by omega), zget_n (by omega) (by omega), zget_n (by omega) (by omega), h.1 _ (by omega), h.1 _ (by omega), h.1 _ (by omega), h.1 _ (by omega), nI_add, nI_add, nI_add]
theorem s_known {u : CX} {v : MX} (h : Rel u v) (a : Int32) : ∃ r, fX9_known a u = some r ∧ fX10_known a v = some r := by
  obtain ⟨P, n, T, W, S, F, h1, h2, h3, h4, h5, h6, hT, hl, hM, hx, hm, h7⟩ := h
  unfold fX9_known fX10_known
  rw [rngB, inIf, Int32.toInt_toInt64, show (0 : Int64).toInt = 0 from rfl, show (8 : Int64).toInt = 8 from rfl, show (9 : Int32).toInt = 9 from rfl, xsort hx, xallH hx, mhomes_ hm]
  by_cases h9 : a = 9
  · subst h9
    rw [if_pos (by decide), if_pos rfl, if_neg (by decide), if_pos rfl, zbind_s, zbind_s, show (0 : Int32) = nI 0 from rfl, zget_n (by omega) (by omega), zbind_s, hm.1 _ (by omega)]
    exact ⟨_, rfl, rfl⟩
  · have h10 : ¬ a.toInt = 9 := fun e => h9 (Int32.toInt_inj.mp e)
    rw [if_neg h9, if_neg h9]
    by_cases hr : 0 ≤ a.toInt ∧ a.toInt ≤ 8
    · rw [if_pos (by omega), if_pos hr]
      obtain ⟨j, hj, rfl⟩ := zn_of (a := a) (n := 9) (by omega) (by omega)
      rw [zget_n (by omega) (by omega), zget_n (by omega) (by omega), hx.1 _ (by omega), hm.1 _ (by omega)]
      exact ⟨_, rfl, rfl⟩
    · rw [if_neg (by omega), if_neg hr]
      exact ⟨_, rfl, rfl⟩
theorem toI8_shift (x : Int32) : (x <<< ((24 : Int32) &&& 31)) >>> ((24 : Int32) &&& 31) = x.toInt8.toInt32 := by
  apply Int32.toInt_inj.mp
  rw [pk_shr _ _ 24 (by decide)]
  have e : (x <<< ((24 : Int32) &&& 31)).toBitVec.toNat = x.toBitVec.toNat * 2 ^ 24 % 2 ^ 32 := pk_shl x _ 24 (by decide)
  have e1 : (x <<< ((24 : Int32) &&& 31)).toInt = (((x.toBitVec.toNat * 2 ^ 24 % 2 ^ 32 : Nat)) : Int).bmod (2 ^ 32) := by
    rw [← e]
    show (x <<< ((24 : Int32) &&& 31)).toBitVec.toInt = _
    rw [BitVec.toInt_eq_toNat_bmod]
  have e2 : x.toInt8.toInt32.toInt = ((x.toBitVec.toNat : Int)).bmod 256 := by
    rw [Int8.toInt_toInt32]
    show x.toInt8.toBitVec.toInt = _
    rw [BitVec.toInt_eq_toNat_bmod]
    show ((x.toBitVec.signExtend 8).toNat : Int).bmod _ = _
    rw [BitVec.signExtend_eq_setWidth_of_le _ (by omega), BitVec.toNat_setWidth]
    have := x.toBitVec.isLt
    simp only [Int.bmod]
    omega
  rw [e1, e2, Int.shiftRight_eq_div_pow]
  have := x.toBitVec.isLt
  simp only [Int.bmod]
  omega
theorem toI16_shift (x : Int32) : (x <<< ((16 : Int32) &&& 31)) >>> ((16 : Int32) &&& 31) = x.toInt16.toInt32 := by
  apply Int32.toInt_inj.mp
  rw [pk_shr _ _ 16 (by decide)]
  have e : (x <<< ((16 : Int32) &&& 31)).toBitVec.toNat = x.toBitVec.toNat * 2 ^ 16 % 2 ^ 32 := pk_shl x _ 16 (by decide)
  have e1 : (x <<< ((16 : Int32) &&& 31)).toInt = (((x.toBitVec.toNat * 2 ^ 16 % 2 ^ 32 : Nat)) : Int).bmod (2 ^ 32) := by
    rw [← e]
    show (x <<< ((16 : Int32) &&& 31)).toBitVec.toInt = _
    rw [BitVec.toInt_eq_toNat_bmod]
  have e2 : x.toInt16.toInt32.toInt = ((x.toBitVec.toNat : Int)).bmod 65536 := by
    rw [Int16.toInt_toInt32]
    show x.toInt16.toBitVec.toInt = _
    rw [BitVec.toInt_eq_toNat_bmod]
    show ((x.toBitVec.signExtend 16).toNat : Int).bmod _ = _
    rw [BitVec.signExtend_eq_setWidth_of_le _ (by omega), BitVec.toNat_setWidth]
    have := x.toBitVec.isLt
    simp only [Int.bmod]
    omega
  rw [e1, e2, Int.shiftRight_eq_div_pow]
  have := x.toBitVec.isLt
  simp only [Int.bmod]
  omega
theorem and255_i8 (x : Int32) : ∃ c : Nat, c < 256 ∧ x &&& 255 = nI c ∧ x.toInt8.toInt32 = (nI c).toInt8.toInt32 := by
  refine ⟨x.toBitVec.toNat % 256, Nat.mod_lt _ (by omega), pk_and x 8 (by decide), ?_⟩
  apply Int32.toInt_inj.mp
  have key : ∀ y : Int32, y.toInt8.toInt32.toInt = ((y.toBitVec.toNat : Int)).bmod 256 := by
    intro y
    rw [Int8.toInt_toInt32]
    show y.toInt8.toBitVec.toInt = _
    rw [BitVec.toInt_eq_toNat_bmod]
    show ((y.toBitVec.signExtend 8).toNat : Int).bmod _ = _
    rw [BitVec.signExtend_eq_setWidth_of_le _ (by omega), BitVec.toNat_setWidth]
    have := y.toBitVec.isLt
    simp only [Int.bmod]
    omega
  rw [key, key, pk_tn (by have := Nat.mod_lt x.toBitVec.toNat (show 0 < 256 by omega); omega)]
  simp only [Int.bmod]
  omega
def cntW (W : Nat → Nat) : Nat → Nat
  | 0 => 0
  | i + 1 => cntW W i + W i
def cntS (S : Nat → Nat) : Nat → Nat
  | 0 => 0
  | i + 1 => cntS S i + (if 0 < S i then 1 else 0)
theorem xallW {W S F : Nat → Nat} {u : CX} {v : MX} (h : rEv W S F u v) (h3 : rE W S F) {k : Nat} (hk : 20 ≤ k) : fX0_allWrecks k u = some (nI (cntW W 4)) := by
  unfold fX0_allWrecks
  rw [show (((0 : Int32), (0 : Int32)) : Int32 × Int32) = (fun i => (nI (cntW W i), nI i)) 0 from rfl, ziter_st (fun i => (nI (cntW W i), nI i)) (nI (cntW W 4)) 4 0 k ?_ ?_ (by omega)]
  · rfl
  · intro j _ hj
    have hj : j < 4 := by omega
    have hw := (h3 j hj).1
    unfold bX0_allWrecks_4
    dsimp only
    rw [if_neg (by rw [show (4 : Int32) = nI 4 from rfl, nI_leI (by omega) (by omega)]; omega), zget_n hj (by omega), (h j hj).1, nI_1]
    by_cases e : W j = 0
    · rw [if_pos (by rw [e]; rfl), zb_e]
      show _ = some (Sum.inl (nI (cntW W j + W j), nI (j + 1)))
      rw [e, show (0 : Int32) = nI 0 from rfl, nI_add]
    · rw [if_neg (by rw [show (0 : Int32) = nI 0 from rfl, nI_eq (by omega) (by omega)]; exact e), zb_e]
      show _ = some (Sum.inl (nI (cntW W j + W j), nI (j + 1)))
      rw [show W j = 1 by omega, nI_1]
  · unfold bX0_allWrecks_4
    rfl
theorem xallT {W S F : Nat → Nat} {u : CX} {v : MX} (h : rEv W S F u v) (h3 : rE W S F) {k : Nat} (hk : 20 ≤ k) : fX0_allTried k u = some (nI (cntS S 4)) := by
  unfold fX0_allTried
  rw [show (((0 : Int32), (0 : Int32)) : Int32 × Int32) = (fun i => (nI (cntS S i), nI i)) 0 from rfl, ziter_st (fun i => (nI (cntS S i), nI i)) (nI (cntS S 4)) 4 0 k ?_ ?_ (by omega)]
  · rfl
  · intro j _ hj
    have hj : j < 4 := by omega
    have hw := (h3 j hj).2.1
    unfold bX0_allTried_4
    dsimp only
    rw [if_neg (by rw [show (4 : Int32) = nI 4 from rfl, nI_leI (by omega) (by omega)]; omega), zget_n hj (by omega), (h j hj).2.2.1, nI_1]
    by_cases e : 0 < S j
    · rw [if_neg (by rw [show (0 : Int32) = nI 0 from rfl, nI_leI (by omega) (by omega)]; omega), zb_e]
      show _ = some (Sum.inl (nI (cntS S j + (if 0 < S j then 1 else 0)), nI (j + 1)))
      rw [if_pos e, nI_1]
    · rw [if_pos (by rw [show (0 : Int32) = nI 0 from rfl, nI_leI (by omega) (by omega)]; omega), zb_e]
      show _ = some (Sum.inl (nI (cntS S j + (if 0 < S j then 1 else 0)), nI (j + 1)))
      rw [if_neg e, show (0 : Int32) = nI 0 from rfl, nI_add]
  · unfold bX0_allTried_4
    rfl
theorem mcountL {W S F : Nat → Nat} {u : CX} {v : MX} (h : rEv W S F u v) (h3 : rE W S F) {k : Nat} (hk : 20 ≤ k) (a : Int32) : ziter (bX10_count_7 k a v) k ((0 : Int32), (0 : Int32), (0 : Int32)) = some (nI (cntW W 4), nI (cntS S 4)) := by
  rw [show (((0 : Int32), (0 : Int32), (0 : Int32)) : Int32 × Int32 × Int32) = (fun i => (nI (cntW W i), nI (cntS S i), nI i)) 0 from rfl]
  refine ziter_st (fun i => (nI (cntW W i), nI (cntS S i), nI i)) (nI (cntW W 4), nI (cntS S 4)) 4 0 k ?_ ?_ (by omega)
  · intro j _ hj
    have hj : j < 4 := by omega
    have hw := (h3 j hj).2.1
    have hw1 := (h3 j hj).1
    unfold bX10_count_7
    dsimp only
    rw [if_neg (by rw [show (4 : Int32) = nI 4 from rfl, nI_leI (by omega) (by omega)]; omega)]
    simp only [zb_e, zget_n hj (show 4 ≤ 2 ^ 31 by omega), (h j hj).2.1, (h j hj).2.2.2.1, nI_1 j]
    show _ = some (Sum.inl (nI (cntW W j + W j), nI (cntS S j + (if 0 < S j then 1 else 0)), nI (j + 1)))
    have eW : (nI (W j) = 0) = (W j = 0) := propext (by rw [show (0 : Int32) = nI 0 from rfl, nI_eq (by omega) (by omega)])
    have eS : (nI (S j) ≤ 0) = (S j ≤ 0) := propext (by rw [show (0 : Int32) = nI 0 from rfl, nI_leI (by omega) (by omega)])
    simp only [eW, eS]
    by_cases e : W j = 0 <;> by_cases e2 : 0 < S j
    · rw [if_pos e, if_neg (by omega), if_pos e2, e, nI_1, show (0 : Int32) = nI 0 from rfl, nI_add]
    · rw [if_pos e, if_pos (by omega), if_neg e2, e, show (0 : Int32) = nI 0 from rfl, nI_add, nI_add]
    · rw [if_neg e, if_neg (by omega), if_pos e2, nI_1, nI_1, show W j = 1 by omega]
    · rw [if_neg e, if_pos (by omega), if_neg e2, nI_1, show W j = 1 by omega, show (0 : Int32) = nI 0 from rfl, nI_add]
  · unfold bX10_count_7
    rfl
theorem s_count {u : CX} {v : MX} (h : Rel u v) {k : Nat} (hk : 20 ≤ k) (a : Int32) : ∃ r, fX9_count k a u = some r ∧ fX10_count k a v = some r := by
  obtain ⟨P, n, T, W, S, F, h1, h2, h3, ⟨nt, hn, e1, e2, hb⟩, h5, h6, hT, hl, hM, hx, hm, hE, hG, hG2, hS⟩ := h
  unfold fX9_count fX10_count
  rw [mcountL hE h3 hk, zbind_s, xsort hx, xallH hx, xallW hE h3 hk, xallT hE h3 hk, mhomes_ hm]
  simp only [zbind_s]
  have z0 : (0 : Int32) = nI 0 := rfl
  obtain ⟨hS1, ⟨ns, hns, es1, es2⟩, hS3⟩ := hS 0 (by omega)
  have hza : zget 10 (mg_known v) (0 : Int32) (fun v17 => some v17) = some (nI (T n 0)) := by rw [z0, zget_n (by omega) (by omega), hm.1 _ (by omega)]
  have hzb : zget 10 (mg_known v) (9 : Int32) (fun v17 => some v17) = some (nI (T n 9)) := by rw [show (9 : Int32) = nI 9 from rfl, zget_n (by omega) (by omega), hm.1 _ (by omega)]
  have hzc : zget 10 (xg_sums u) (9 : Int32) (fun v17 => some v17) = some (nI (T n 9)) := by rw [show (9 : Int32) = nI 9 from rfl, zget_n (by omega) (by omega), hx.1 _ (by omega)]
  have hzd : zix 4 (0 : Int32) (fun j2 => if xg_slane u j2 = (-1 : Int32) then some (-4 : Int32) else zix 4 (0 : Int32) (fun j3 => some (xg_ssize u j3))) = zget 4 (mg_lanes v) (0 : Int32) (fun v13 => if v13 = (-4 : Int32) then some (-4 : Int32) else zget 4 (mg_lengths v) (0 : Int32) (fun v14 => some v14)) := by
    rw [z0, zix_n (by omega) (by omega), zix_n (by omega) (by omega), zget_n (by omega) (by omega), zget_n (by omega) (by omega), es1, es2]
    rcases hS1 with ⟨a1, a2⟩ | ⟨l, hl, a1, a2⟩
    · rw [a1, a2, if_pos rfl, if_pos rfl]
    · rw [a1, a2, if_neg, if_neg]
      · exact fun e => by have := congrArg Int32.toInt e; rw [nI_toInt (by omega)] at this; rw [show (-4 : Int32).toInt = -4 from rfl] at this; omega
      · exact fun e => by have := congrArg Int32.toInt e; rw [nI_toInt (by omega)] at this; rw [show (-1 : Int32).toInt = -1 from rfl] at this; omega
  have hzd2 : ∃ r, zget 4 (mg_lanes v) (0 : Int32) (fun v13 => if v13 = (-4 : Int32) then some (-4 : Int32) else zget 4 (mg_lengths v) (0 : Int32) (fun v14 => some v14)) = some r := by
    rw [z0, zget_n (by omega) (by omega), zget_n (by omega) (by omega)]
    split
    · exact ⟨_, rfl⟩
    · exact ⟨_, rfl⟩
  obtain ⟨rd, hrd⟩ := hzd2
  rw [hzd, hza, hzb, hzc, hx.2.1, hm.2.1, h6.2.2, e1, e2, hrd]
  (repeat' split) <;> exact ⟨_, rfl, rfl⟩
theorem inIfL {β : Type} (a : Int32) (hi : Int64) (n : Int) (hn : hi.toInt + 1 = n) (x y : Option β) : (fX10_in a.toInt64 (0 : Int64) hi).bind (fun q => if q = 0 then x else y) = if 0 ≤ a.toInt ∧ a.toInt < n then y else x := by
  rw [inIf, Int32.toInt_toInt64, show (0 : Int64).toInt = 0 from rfl]
  split
  · rw [if_pos (by omega)]
  · rw [if_neg (by omega)]
theorem nI_ne_neg {l : Nat} (hl : l < 2 ^ 31) {m : Int32} (hm : m.toInt < 0) : ¬ nI l = m := fun e => by
  have := congrArg Int32.toInt e
  rw [nI_toInt hl] at this
  omega
theorem s_sheet {u : CX} {v : MX} (h : Rel u v) {k : Nat} (hk : 60 ≤ k) (a b c : Int32) : ∃ r u' v', fX9_sheet k a b c u = some (r, u') ∧ fX10_sheet k a b c v = some (r, v') ∧ Rel u' v' := by
  have h0 := h
  obtain ⟨P, n, T, W, S, F, h1, h2, h3, h4, h5, h6, hT, hl, hM, hx, hm, hE, hG, hG2, hS⟩ := h
  unfold fX9_sheet fX10_sheet
  rw [xhIf, xnIf, inIfL a 3 4 rfl, inIfL b 2 3 rfl]
  by_cases hc : 0 ≤ a.toInt ∧ a.toInt < 4
  · rw [if_pos hc, if_pos hc]
    by_cases hd : 0 ≤ b.toInt ∧ b.toInt < 3
    · rw [if_pos hd, if_pos hd]
      by_cases he : c ≤ 48
      · rw [if_pos he, if_pos he]
        by_cases hf : 0 ≤ c
        · rw [if_pos hf, if_pos hf]
          obtain ⟨q, hq, rfl⟩ := zn_of (a := a) (n := 4) (by omega) (by omega)
          obtain ⟨l, hl3, rfl⟩ := zn_of (a := b) (n := 3) (by omega) (by omega)
          rw [Int32.le_iff_toInt_le, show (48 : Int32).toInt = 48 from rfl] at he
          rw [Int32.le_iff_toInt_le, show (0 : Int32).toInt = 0 from rfl] at hf
          obtain ⟨m, hm9, rfl⟩ := zn_of (a := c) (n := 49) (by omega) (by omega)
          simp only [zix_n hq (show 4 ≤ 2 ^ 31 by omega), zb_e]
          unfold fX6_renew
          simp only [zb_e]
          obtain ⟨b1, hb1, C1, rfl, hC1, hC1'⟩ := ziter_inv (f := bX6_renew_12 k q) (fun i a => a.1 = nI i ∧ ∃ C : Nat → Nat → Int32, a.2 = xs_scells (xs_ssize (xs_slane u (zup (xg_slane u) q (nI l))) (zup (xg_ssize u) q (nI m))) C ∧ (∀ k', k' ≠ q → C k' = xg_scells u k') ∧ ∀ j, j < i → C q j = 0) (fun b => ∃ C : Nat → Nat → Int32, b = xs_scells (xs_ssize (xs_slane u (zup (xg_slane u) q (nI l))) (zup (xg_ssize u) q (nI m))) C ∧ (∀ k', k' ≠ q → C k' = xg_scells u k') ∧ ∀ j, j < 48 → C q j = 0) 48 (by
            rintro i ⟨x, w⟩ hi ⟨rfl, C, rfl, hC, hC2⟩
            left
            unfold bX6_renew_12
            dsimp only
            rw [if_neg (by rw [show (48 : Int32) = nI 48 from rfl, nI_leI (by omega) (by omega)]; omega), zix_n hi (by omega), zb_e, nI_1]
            refine ⟨_, rfl, rfl, zup C q (upd (C q) i 0), rfl, fun k' hk' => ?_, fun j hj => ?_⟩
            · rw [zup_n hk', hC k' hk']
            · rw [zup_s]
              by_cases e : j = i
              · rw [e, upd_s]
              · rw [upd_n e, hC2 j (by omega)]) (by
            rintro ⟨x, w⟩ ⟨rfl, C, rfl, hC, hC2⟩
            unfold bX6_renew_12
            exact ⟨_, rfl, C, rfl, hC, hC2⟩) 48 0 k (nI 0, xs_ssize (xs_slane u (zup (xg_slane u) q (nI l))) (zup (xg_ssize u) q (nI m))) rfl ⟨rfl, xg_scells u, rfl, fun _ _ => rfl, fun j hj => absurd hj (by omega)⟩ (by omega)
          obtain ⟨b2, hb2, C2, rfl, hC2, hC2'⟩ := ziter_inv (f := bX10_sheet_56 k (nI q)) (fun i a => a.1 = nI i ∧ ∃ C : Nat → Int32, a.2 = ms_cells (ms_lengths (ms_lanes v (upd (mg_lanes v) q (nI l))) (upd (mg_lengths v) q (nI m))) C ∧ (∀ j, (j < 48 * q ∨ 48 * q + 48 ≤ j) → C j = mg_cells v j) ∧ ∀ j, j < i → C (48 * q + j) = 0) (fun b => ∃ C : Nat → Int32, b = ms_cells (ms_lengths (ms_lanes v (upd (mg_lanes v) q (nI l))) (upd (mg_lengths v) q (nI m))) C ∧ (∀ j, (j < 48 * q ∨ 48 * q + 48 ≤ j) → C j = mg_cells v j) ∧ ∀ j, j < 48 → C (48 * q + j) = 0) 48 (by
            rintro i ⟨x, w⟩ hi ⟨rfl, C, rfl, hC, hC2⟩
            left
            unfold bX10_sheet_56
            dsimp only
            rw [if_neg (by rw [show (48 : Int32) = nI 48 from rfl, nI_leI (by omega) (by omega)]; omega), show (48 : Int32) = nI 48 from rfl, pk_mul, nI_add, zix_n (by omega) (by omega), zb_e, nI_1]
            refine ⟨_, rfl, rfl, upd C (48 * q + i) 0, rfl, fun j hj => ?_, fun j hj => ?_⟩
            · rw [upd_n (by omega), hC j hj]
            · by_cases e : j = i
              · rw [e, upd_s]
              · rw [upd_n (by omega), hC2 j (by omega)]) (by
            rintro ⟨x, w⟩ ⟨rfl, C, rfl, hC, hC2⟩
            unfold bX10_sheet_56
            exact ⟨_, rfl, C, rfl, hC, hC2⟩) 48 0 k (nI 0, ms_lengths (ms_lanes v (upd (mg_lanes v) q (nI l))) (upd (mg_lengths v) q (nI m))) rfl ⟨rfl, mg_cells v, rfl, fun _ _ => rfl, fun j hj => absurd hj (by omega)⟩ (by omega)
          rw [show ((0 : Int32)) = nI 0 from rfl]
          have hb1' : ziter (bX6_renew_12 k q) k (nI 0, xs_ssize (xs_slane u (zup (xg_slane u) q (nI l))) (zup (xg_ssize (xs_slane u (zup (xg_slane u) q (nI l)))) q (nI m))) = some _ := hb1
          have hb2' : ziter (bX10_sheet_56 k (nI q)) k (nI 0, ms_lengths (ms_lanes v (upd (mg_lanes v) q (nI l))) (upd (mg_lengths (ms_lanes v (upd (mg_lanes v) q (nI l)))) q (nI m))) = some _ := hb2
          rw [hb1', hb2', zbind_s, zbind_s, zbind_s]
          refine ⟨_, _, _, rfl, rfl, P, n, T, W, S, F, h1, h2, h3, h4, h5, h6, hT, hl, hM, hx, hm, hE, hG, hG2, ?_⟩
          intro k' hk'
          obtain ⟨a1, ⟨nn, a2, a3, a4⟩, a5⟩ := hS k' hk'
          by_cases e : k' = q
          · subst e
            refine ⟨Or.inr ⟨l, hl3, zup_s, upd_s⟩, ⟨m, by omega, zup_s, upd_s⟩, fun i hi => ?_⟩
            show C1 k' i = C2 (48 * k' + i)
            rw [hC1' i hi, hC2' i hi]
          · refine ⟨?_, ⟨nn, a2, (zup_n e).trans a3, (upd_n e).trans a4⟩, fun i hi => ?_⟩
            · rcases a1 with ⟨b1, b2⟩ | ⟨l', b0, b1, b2⟩
              · exact Or.inl ⟨(zup_n e).trans b1, (upd_n e).trans b2⟩
              · exact Or.inr ⟨l', b0, (zup_n e).trans b1, (upd_n e).trans b2⟩
            · show C1 k' i = C2 (48 * k' + i)
              rw [hC1 k' e, hC2 _ (by omega)]
              exact a5 i hi
        · rw [if_neg hf, if_neg hf]; exact ⟨_, _, _, rfl, rfl, h0⟩
      · rw [if_neg he, if_neg he]; exact ⟨_, _, _, rfl, rfl, h0⟩
    · rw [if_neg hd, if_neg hd]; exact ⟨_, _, _, rfl, rfl, h0⟩
  · rw [if_neg hc, if_neg hc]; exact ⟨_, _, _, rfl, rfl, h0⟩
