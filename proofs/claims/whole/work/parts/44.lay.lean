/-! lay, feed -/
theorem s_lay {u : CX} {v : MX} (h : Rel u v) (a b c : Int32) : ∃ r u' v', fX9_lay a b c u = some (r, u') ∧ fX10_lay a b c v = some (r, v') ∧ Rel u' v' := by
  have h0 := h
  obtain ⟨P, n, T, W, S, F, h1, h2, h3, h4, h5, h6, hT, hl, hM, hx, hm, hE, hG, hG2, hS⟩ := h
  unfold fX9_lay fX10_lay
  rw [xhIf, inIfL a 3 4 rfl]
  by_cases hc : 0 ≤ a.toInt ∧ a.toInt < 4
  · rw [if_pos hc, if_pos hc]
    obtain ⟨q, hq, rfl⟩ := zn_of (a := a) (n := 4) (by omega) (by omega)
    obtain ⟨hS1, ⟨m, hm9, e1, e2⟩, hS3⟩ := hS q hq
    simp only [zix_n hq (show 4 ≤ 2 ^ 31 by omega), zget_n hq (show 4 ≤ 2 ^ 31 by omega), e2]
    unfold fX6_faultAt
    rcases hS1 with ⟨a1, a2⟩ | ⟨l, hl3, a1, a2⟩
    · rw [a1, a2, if_pos rfl, if_pos rfl, zbind_s, if_neg (by decide)]
      exact ⟨_, _, _, rfl, rfl, h0⟩
    · rw [a1, a2, if_neg (show ¬ nI l = -1 from nI_ne_neg (by omega) (by decide)), if_neg (show ¬ nI l = -4 from nI_ne_neg (by omega) (by decide)), if_pos rfl, e1]
      have hin : (fX10_in b.toInt64 (0 : Int64) ((nI m - (1 : Int32)).toInt64)) = some (if 0 ≤ b.toInt ∧ b.toInt < (m : Int) then 1 else 0) := by
        rw [min_, Int32.toInt_toInt64, Int32.toInt_toInt64, show (0 : Int64).toInt = 0 from rfl]
        have e : (nI m - (1 : Int32)).toInt = (m : Int) - 1 := pk_sub_toInt (a := m) (b := 1) (by omega) (by omega)
        rw [e]
        split
        · rw [if_pos (by omega)]
        · rw [if_neg (by omega)]
      have hcl : (if b < 0 then some (2 : Int32) else if b < nI m then some (0 : Int32) else some (2 : Int32)) = some (if 0 ≤ b.toInt ∧ b.toInt < (m : Int) then 0 else 2) := by
        simp only [Int32.lt_iff_toInt_lt, show (0 : Int32).toInt = 0 from rfl, nI_toInt (show m < 2 ^ 31 by omega)]
        split
        · rw [if_neg (by omega)]
        · split
          · rw [if_pos (by omega)]
          · rw [if_neg (by omega)]
      rw [hin, hcl, zbind_s, zbind_s]
      by_cases hd : 0 ≤ b.toInt ∧ b.toInt < (m : Int)
      · rw [if_pos hd, if_pos hd, if_pos rfl, if_neg (by decide)]
        obtain ⟨i, hi, rfl⟩ := zn_of (a := b) (n := m) hd (by omega)
        unfold fX6_put
        rw [if_neg (nI_pos (by omega)), if_pos (by rw [show (48 : Int32) = nI 48 from rfl, nI_ltI (by omega) (by omega)]; omega), show (48 : Int32) = nI 48 from rfl, pk_mul, nI_add, a1]
        simp only [zix_n (show i < 48 by omega) (show 48 ≤ 2 ^ 31 by omega), zix_n (show 48 * q + i < 192 by omega) (show 192 ≤ 2 ^ 31 by omega), zb_e, toI8_shift, toI16_shift]
        have key : ∀ x : Int32, Rel (xs_scells u (zup (xg_scells u) q (upd (xg_scells u q) i x))) (ms_cells v (upd (mg_cells v) (48 * q + i) x)) := by
          intro x
          refine ⟨P, n, T, W, S, F, h1, h2, h3, h4, h5, h6, hT, hl, hM, hx, hm, hE, hG, hG2, ?_⟩
          intro k' hk'
          obtain ⟨b1, b2, b3⟩ := hS k' hk'
          refine ⟨b1, b2, fun j hj => ?_⟩
          show zup (xg_scells u) q (upd (xg_scells u q) i x) k' j = upd (mg_cells v) (48 * q + i) x (48 * k' + j)
          by_cases e : k' = q
          · subst e
            rw [zup_s]
            by_cases e' : j = i
            · subst e'
              rw [upd_s, upd_s]
            · rw [upd_n e', upd_n (by omega)]
              exact b3 j hj
          · rw [zup_n e, upd_n (by omega)]
            exact b3 j hj
        by_cases c0 : nI l = 0
        · rw [if_pos c0, if_pos c0, zbind_s]
          exact ⟨_, _, _, rfl, rfl, key _⟩
        · rw [if_neg c0, if_neg c0]
          by_cases c1 : nI l = 1
          · rw [if_pos c1, if_pos c1, zbind_s]
            exact ⟨_, _, _, rfl, rfl, key _⟩
          · rw [if_neg c1, if_neg c1, zbind_s]
            exact ⟨_, _, _, rfl, rfl, key _⟩
      · rw [if_neg hd, if_neg hd, if_neg (by decide), if_pos rfl]
        exact ⟨_, _, _, rfl, rfl, h0⟩
  · rw [if_neg hc, if_neg hc]
    exact ⟨_, _, _, rfl, rfl, h0⟩
theorem feed_c1 : ∀ i, i < 8 → ((56 : Int32) - (8 : Int32) * nI i) + (-8) = (56 : Int32) - (8 : Int32) * nI (i + 1) := by decide
theorem feed_c2 : ∀ i, i < 8 → ¬ ((56 : Int32) - (8 : Int32) * nI i) < 0 := by decide
def feedB (x : Int64) (i : Nat) : Int32 := (x >>> (((56 : Int32) - (8 : Int32) * nI i).toInt64 &&& 63)).toInt32
theorem xfeedL (u : CX) (x : Int64) (nt : Nat) (hn : nt + 8 ≤ 200) (e1 : xg_tsize u = nI nt) {k : Nat} (hk : 20 ≤ k) : ∃ B, ziter (bX7_put_17 k x) k ((0 : Int32), u) = some (xs_bytes u B) ∧ (∀ j, j < nt → B j = xg_bytes u j) ∧ ∀ j, j < 8 → B (nt + j) = (feedB x j).toInt8.toInt32 := by
  obtain ⟨b, hb, B, rfl, h1, h2⟩ := ziter_inv (f := bX7_put_17 k x) (fun i a => a.1 = nI i ∧ ∃ B : Nat → Int32, a.2 = xs_bytes u B ∧ (∀ j, j < nt → B j = xg_bytes u j) ∧ ∀ j, j < i → B (nt + j) = (feedB x j).toInt8.toInt32) (fun b => ∃ B : Nat → Int32, b = xs_bytes u B ∧ (∀ j, j < nt → B j = xg_bytes u j) ∧ ∀ j, j < 8 → B (nt + j) = (feedB x j).toInt8.toInt32) 8 (by
    rintro i ⟨y, w⟩ hi ⟨rfl, B, rfl, h1, h2⟩
    left
    unfold bX7_put_17
    dsimp only
    rw [if_neg (by rw [show (8 : Int32) = nI 8 from rfl, nI_leI (by omega) (by omega)]; omega), show xg_tsize (xs_bytes u B) = xg_tsize u from rfl, e1, nI_add, zix_n (by omega) (by omega), zb_e, nI_1]
    refine ⟨_, rfl, rfl, upd B (nt + i) (vp_nar .byte ((feedB x i).toInt8.toInt32)), rfl, fun j hj => ?_, fun j hj => ?_⟩
    · rw [upd_n (by omega), h1 j hj]
    · by_cases e : j = i
      · rw [e, upd_s]
        exact pk_vb _
      · rw [upd_n (by omega), h2 j (by omega)]) (by
    rintro ⟨y, w⟩ ⟨rfl, B, rfl, h1, h2⟩
    unfold bX7_put_17
    exact ⟨_, rfl, B, rfl, h1, h2⟩) 8 0 k (nI 0, u) rfl ⟨rfl, xg_bytes u, rfl, fun _ _ => rfl, fun j hj => absurd hj (by omega)⟩ (by omega)
  exact ⟨B, hb, h1, h2⟩
theorem mfeedL (v : MX) (x : Int64) (nt : Nat) (hn : nt + 8 ≤ 200) (e1 : mg_taped v = nI nt) {k : Nat} (hk : 20 ≤ k) : ∃ B, ziter (bX10_feed_19 k x) k ((56 : Int32), v) = some (ms_taped (ms_tape v B) (nI (nt + 8))) ∧ (∀ j, j < nt → B j = mg_tape v j) ∧ ∀ j, j < 8 → B (nt + j) = feedB x j &&& 255 := by
  obtain ⟨b, hb, B, rfl, h1, h2⟩ := ziter_inv (f := bX10_feed_19 k x) (fun i a => a.1 = (56 : Int32) - (8 : Int32) * nI i ∧ ∃ B : Nat → Int32, a.2 = ms_taped (ms_tape v B) (nI (nt + i)) ∧ (∀ j, j < nt → B j = mg_tape v j) ∧ ∀ j, j < i → B (nt + j) = feedB x j &&& 255) (fun b => ∃ B : Nat → Int32, b = ms_taped (ms_tape v B) (nI (nt + 8)) ∧ (∀ j, j < nt → B j = mg_tape v j) ∧ ∀ j, j < 8 → B (nt + j) = feedB x j &&& 255) 8 (by
    rintro i ⟨y, w⟩ hi ⟨rfl, B, rfl, h1, h2⟩
    left
    unfold bX10_feed_19
    dsimp only
    rw [if_neg (feed_c2 i hi), show mg_taped (ms_taped (ms_tape v B) (nI (nt + i))) = nI (nt + i) from rfl, zix_n (by omega) (by omega), zb_e, zb_e, feed_c1 i hi]
    refine ⟨_, rfl, rfl, upd B (nt + i) (feedB x i &&& 255), ?_, fun j hj => ?_, fun j hj => ?_⟩
    · show ms_taped (ms_tape v (upd B (nt + i) (feedB x i &&& 255))) (nI (nt + i) + 1) = _
      rw [nI_1]
      rfl
    · rw [upd_n (by omega), h1 j hj]
    · by_cases e : j = i
      · rw [e, upd_s]
      · rw [upd_n (by omega), h2 j (by omega)]) (by
    rintro ⟨y, w⟩ ⟨rfl, B, rfl, h1, h2⟩
    unfold bX10_feed_19
    rw [if_pos (show (56 : Int32) - (8 : Int32) * nI 8 < 0 by decide)]
    exact ⟨_, rfl, B, rfl, h1, h2⟩) 8 0 k ((56 : Int32) - (8 : Int32) * nI 0, v) rfl ⟨rfl, mg_tape v, by
      show v = ms_taped v (nI nt)
      rw [← e1]
      rfl, fun _ _ => rfl, fun j hj => absurd hj (by omega)⟩ (by omega)
  exact ⟨B, hb, h1, h2⟩
theorem s_feed {u : CX} {v : MX} (h : Rel u v) {k : Nat} (hk : 20 ≤ k) (x : Int64) : ∃ r u' v', fX9_feed k x u = some (r, u') ∧ fX10_feed k x v = some (r, v') ∧ Rel u' v' := by
  have h0 := h
  obtain ⟨P, n, T, W, S, F, h1, h2, h3, ⟨nt, hn, e1, e2, hb⟩, h5⟩ := h
  unfold fX9_feed fX10_feed fX7_put
  rw [e1, e2, show (8 : Int32) = nI 8 from rfl, show (200 : Int32) = nI 200 from rfl, nI_add]
  have hle : nI (nt + 8) ≤ nI 200 ↔ nt + 8 ≤ 200 := nI_leI (by omega) (by omega)
  by_cases hc : nt + 8 ≤ 200
  · rw [if_pos (hle.mpr hc), if_pos (hle.mpr hc)]
    obtain ⟨B1, hB1, p1, p2⟩ := xfeedL u x nt hc e1 hk
    obtain ⟨B2, hB2, q1, q2⟩ := mfeedL v x nt hc e2 hk
    rw [hB1, hB2, zbind_s, zbind_s, zb_e, zbind_s, if_neg (show ¬ (1 : Int32) = 0 by decide), show xg_tsize (xs_bytes u B1) = xg_tsize u from rfl, e1, nI_add]
    refine ⟨_, _, _, rfl, rfl, P, n, T, W, S, F, h1, h2, h3, ⟨nt + 8, hc, rfl, rfl, fun j hj => ?_⟩, h5⟩
    show ∃ c, c < 256 ∧ B2 j = nI c ∧ B1 j = (nI c).toInt8.toInt32
    by_cases e : j < nt
    · rw [p1 j e, q1 j e]
      exact hb j e
    · obtain ⟨i, rfl⟩ : ∃ i, j = nt + i := ⟨j - nt, by omega⟩
      rw [p2 i (by omega), q2 i (by omega)]
      exact and255_i8 _
  · rw [if_neg (fun q => hc (hle.mp q)), if_neg (fun q => hc (hle.mp q)), zbind_s, if_pos rfl]
    exact ⟨_, _, _, rfl, rfl, h0⟩
