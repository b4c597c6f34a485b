theorem xfaultAt_s {js : Nat} {u : CX} {l m : Nat} (hl : l < 3) (e1 : xg_slane u js = nI l) (hm : m ≤ 48) (e2 : xg_ssize u js = nI m) (i : Int32) : fX6_faultAt js (nI l) i u = some (if 0 ≤ i.toInt ∧ i.toInt < (m : Int) then 0 else 2) := by
  unfold fX6_faultAt
  rw [e1, e2, if_neg (show ¬ nI l = -1 from nI_ne_neg (by omega) (by decide)), if_pos rfl]
  simp only [Int32.lt_iff_toInt_lt, show (0 : Int32).toInt = 0 from rfl, nI_toInt (show m < 2 ^ 31 by omega)]
  split
  · rw [if_neg (by omega)]
  · split
    · rw [if_pos (by omega)]
    · rw [if_neg (by omega)]
theorem xfaultH_1 {js : Nat} {u : CX} {ln a : Int32} {d : Int32} (hd : ¬ d = 0) (h : ∀ i, fX6_faultAt js ln i u = some d) {k : Nat} (hk : 20 ≤ k) : fX6_faultOfHome k js ln a u = some d := by
  unfold fX6_faultOfHome
  have h1 : bX6_faultOfHome_5 k js ln a u (nI 0, nI 0) = some (.inl (d, nI 1)) := by
    unfold bX6_faultOfHome_5
    dsimp only
    rw [if_neg (by decide), if_pos (show nI 0 = 0 from rfl), h, zbind_s]
    rfl
  have h2 : bX6_faultOfHome_5 k js ln a u (d, nI 1) = some (.inr d) := by
    unfold bX6_faultOfHome_5
    dsimp only
    rw [if_neg (by decide), if_neg hd]
  generalize bX6_faultOfHome_5 k js ln a u = f at h1 h2
  obtain ⟨k', rfl⟩ : ∃ k', k = k' + 1 + 1 := ⟨k - 2, by omega⟩
  rw [show (0 : Int32) = nI 0 from rfl, ziter_l h1, ziter_r h2, zbind_s]
theorem xfaultH_s {js : Nat} {u : CX} {l m : Nat} (hl : l < 3) (e1 : xg_slane u js = nI l) (hm : m ≤ 48) (e2 : xg_ssize u js = nI m) (a : Int32) {k : Nat} (hk : 20 ≤ k) : fX6_faultOfHome k js (nI l) a u = some (if 0 ≤ a.toInt ∧ a.toInt + 4 ≤ (m : Int) then 0 else 2) := by
  unfold fX6_faultOfHome
  have hF := xfaultAt_s hl e1 hm e2
  have ex2 : ∀ i, bX6_faultOfHome_5 k js (nI l) a u (2, i) = some (.inr 2) := by
    intro i
    unfold bX6_faultOfHome_5
    dsimp only
    by_cases c : (4 : Int32) ≤ i
    · rw [if_pos c]
    · rw [if_neg c, if_neg (by decide)]
  have ex0 : bX6_faultOfHome_5 k js (nI l) a u (0, nI 4) = some (.inr 0) := by
    unfold bX6_faultOfHome_5
    rfl
  have st : ∀ p, p < 4 → bX6_faultOfHome_5 k js (nI l) a u (0, nI p) = some (.inl ((if 0 ≤ (a + nI p).toInt ∧ (a + nI p).toInt < (m : Int) then 0 else 2), nI (p + 1))) := by
    intro p hp
    unfold bX6_faultOfHome_5
    dsimp only
    rw [if_neg (by rw [show (4 : Int32) = nI 4 from rfl, nI_leI (by omega) (by omega)]; omega), if_pos rfl, hF, zbind_s, nI_1]
  generalize bX6_faultOfHome_5 k js (nI l) a u = f at ex2 ex0 st
  obtain ⟨k', rfl⟩ : ∃ k', k = k' + 1 + 1 + 1 + 1 + 1 := ⟨k - 5, by omega⟩
  by_cases c0 : 0 ≤ a.toInt ∧ a.toInt < (m : Int)
  · obtain ⟨t, ht, rfl⟩ := zn_of c0 (by omega)
    have st' : ∀ p, p < 4 → f (0, nI p) = some (.inl ((if t + p < m then 0 else 2), nI (p + 1))) := by
      intro p hp
      rw [st p hp, nI_add, nI_toInt (by omega)]
      by_cases c : t + p < m
      · rw [if_pos (by omega), if_pos c]
      · rw [if_neg (by omega), if_neg c]
    rw [nI_toInt (by omega)]
    rw [show (((0 : Int32), (0 : Int32)) : Int32 × Int32) = (0, nI 0) from rfl, ziter_l (st' 0 (by omega)), if_pos (by omega)]
    by_cases d1 : t + 1 < m
    · rw [ziter_l (st' 1 (by omega)), if_pos d1]
      by_cases d2 : t + 2 < m
      · rw [ziter_l (st' 2 (by omega)), if_pos d2]
        by_cases d3 : t + 3 < m
        · rw [ziter_l (st' 3 (by omega)), if_pos d3, ziter_r ex0, zbind_s, if_pos (by omega)]
        · rw [ziter_l (st' 3 (by omega)), if_neg d3, ziter_r (ex2 _), zbind_s, if_neg (by omega)]
      · rw [ziter_l (st' 2 (by omega)), if_neg d2, ziter_r (ex2 _), zbind_s, if_neg (by omega)]
    · rw [ziter_l (st' 1 (by omega)), if_neg d1, ziter_r (ex2 _), zbind_s, if_neg (by omega)]
  · rw [show (((0 : Int32), (0 : Int32)) : Int32 × Int32) = (0, nI 0) from rfl, ziter_l (st 0 (by omega)), show a + nI 0 = a by rw [show nI 0 = (0 : Int32) from rfl]; grind, if_neg c0, ziter_r (ex2 _), zbind_s, if_neg (by omega)]
theorem hOK_c {c c' : Nat → Int32} (h : ∀ p, p < 4 → c p = c' p) (hc : hOK c) : hOK c' := by
  refine ⟨fun p hp => by rw [← h p hp]; exact hc.1 p hp, ?_⟩
  have : smD (cd c') = smD (cd c) := by
    unfold smD cd
    rw [h 0 (by omega), h 1 (by omega), h 2 (by omega), h 3 (by omega)]
  rw [this]
  exact hc.2
theorem l_add32 (f : Int32) {j : Nat} (hj : j < 1000) : (f.toInt64 + (nI j).toInt64).toInt = f.toInt + j := by
  have h1 := Int32.le_toInt f
  have h2 := Int32.toInt_lt f
  rw [Int64.toInt_add, Int32.toInt_toInt64, Int32.toInt_toInt64, nI_toInt (by omega)]
  simp only [Int.bmod]
  omega
/-- what reading finds: cells, from f on, n homes: how far it comes -/
theorem readL {u : CX} {v : MX} {q l m K0 : Nat} (hq : q < 4) (hS : rSh u v) (hso : fX3_sorties u = some (nI K0)) (hkn : mg_known v 0 = nI K0) (hK : K0 ≤ 999) {f : Int32} {n : Nat} (hn : n ≤ 12) (hl : l < 3) {k : Nat} (hk : 100 ≤ k) : ∃ x, ziter (bX9_read_45 k q (nI l) f (nI n) u) k ((0 : Int32), (0 : Int32), (0 : Int32)) = some x ∧ ziter (bX10_read_48 k (nI q) (nI l) f (nI n) v) k ((0 : Int32), (0 : Int32), (0 : Int32)) = some x ∧
    ∀ b w, x = .inr (.inr (b, w)) → ∃ wn, w = nI wn ∧ wn ≤ n ∧ K0 + wn ≤ 999 ∧ (wn = 0 ∨ ∃ f0, f = nI f0 ∧ f0 + 4 * wn ≤ 48 ∧ ∀ i, i < wn → hOK (fun p => xg_scells u q (f0 + 4 * i + p))) := by
  obtain ⟨hS1, ⟨m, hm, e1, e2⟩, hS3⟩ := hS q hq
  have z0 : (0 : Int32) = nI 0 := rfl
  -- ends of both
  have xend : ∀ (d : Int32) (w i : Int32), (¬ d = 0 ∨ nI n ≤ i) → bX9_read_45 k q (nI l) f (nI n) u (d, w, i) = some (.inr (.inr (.inr (d, w)))) := by
    intro d w i h
    unfold bX9_read_45
    dsimp only
    by_cases c : nI n ≤ i
    · rw [if_pos c]
    · rw [if_neg c, if_neg (h.resolve_right c)]
  have mend : ∀ (d : Int32) (w i : Int32), (¬ d = 0 ∨ (4 : Int32) * nI n ≤ i) → bX10_read_48 k (nI q) (nI l) f (nI n) v (d, w, i) = some (.inr (.inr (.inr (d, w)))) := by
    intro d w i h
    unfold bX10_read_48
    dsimp only
    by_cases c : (4 : Int32) * nI n ≤ i
    · rw [if_pos c]
    · rw [if_neg c, if_neg (h.resolve_right c)]
  by_cases hn0 : n = 0
  · subst hn0
    obtain ⟨k', hk'⟩ : ∃ k', k = k' + 1 := ⟨k - 1, by omega⟩
    refine ⟨.inr (.inr (0, 0)), ?_, ?_, ?_⟩
    · generalize bX9_read_45 k q (nI l) f (nI 0) u = F at xend
      rw [hk']
      exact ziter_r (xend 0 0 0 (Or.inr (by decide)))
    · generalize bX10_read_48 k (nI q) (nI l) f (nI 0) v = F at mend
      rw [hk']
      exact ziter_r (mend 0 0 0 (Or.inr (by decide)))
    · intro b w e
      cases e
      exact ⟨0, rfl, by omega, by omega, Or.inl rfl⟩
  -- a fault at the first cell
  have first : ∀ d : Int32, ¬ d = 0 → (∀ i, fX6_faultAt q (nI l) i u = some d) → bX10_read_48 k (nI q) (nI l) f (nI n) v (0, 0, 0) = some (.inl (d, 0, 1)) → ∃ x, ziter (bX9_read_45 k q (nI l) f (nI n) u) k ((0 : Int32), (0 : Int32), (0 : Int32)) = some x ∧ ziter (bX10_read_48 k (nI q) (nI l) f (nI n) v) k ((0 : Int32), (0 : Int32), (0 : Int32)) = some x ∧
    ∀ b w, x = .inr (.inr (b, w)) → ∃ wn, w = nI wn ∧ wn ≤ n ∧ K0 + wn ≤ 999 ∧ (wn = 0 ∨ ∃ f0, f = nI f0 ∧ f0 + 4 * wn ≤ 48 ∧ ∀ i, i < wn → hOK (fun p => xg_scells u q (f0 + 4 * i + p))) := by
    intro d hd hfa hM1
    have hX1 : bX9_read_45 k q (nI l) f (nI n) u (0, 0, 0) = some (.inl (d, 0, 1)) := by
      unfold bX9_read_45
      dsimp only
      rw [if_neg (by rw [z0, nI_leI (by omega) (by omega)]; omega), if_pos rfl, xfaultH_1 hd hfa (by omega), zbind_s, if_neg hd]
      rfl
    refine ⟨.inr (.inr (d, 0)), ?_, ?_, ?_⟩
    · have := xend d 0 1 (Or.inl hd)
      generalize bX9_read_45 k q (nI l) f (nI n) u = F at hX1 this
      obtain ⟨k', rfl⟩ : ∃ k', k = k' + 1 + 1 := ⟨k - 2, by omega⟩
      rw [ziter_l hX1]
      exact ziter_r this
    · have := mend d 0 1 (Or.inl hd)
      generalize bX10_read_48 k (nI q) (nI l) f (nI n) v = F at hM1 this
      obtain ⟨k', rfl⟩ : ∃ k', k = k' + 1 + 1 := ⟨k - 2, by omega⟩
      rw [ziter_l hM1]
      exact ziter_r this
    · intro b w e
      cases e
      exact ⟨0, rfl, by omega, by omega, Or.inl rfl⟩
  have h4n : ¬ (4 : Int32) * nI n ≤ 0 := by rw [z0, show (4 : Int32) = nI 4 from rfl, pk_mul, nI_leI (by omega) (by omega)]; omega
  rcases hS1 with ⟨a1, a2⟩ | ⟨l', hl', a1, a2⟩
  · refine first 1 (by decide) (fun i => by unfold fX6_faultAt; rw [a1, if_pos rfl]) ?_
    unfold bX10_read_48
    dsimp only
    rw [if_neg h4n, if_pos rfl, zget_n hq (by omega), a2, if_pos rfl]
    unfold jX10_read_j118_48
    rw [if_neg (by decide)]
    rfl
  · by_cases hll : l' = l
    · subst hll
      have hi4 : ∀ (p w : Nat), p < 4 → w < n → ((0 ≤ f.toInt + ((4 * w + p : Nat) : Int) ∧ f.toInt + ((4 * w + p : Nat) : Int) < (m : Int)) → bX10_read_48 k (nI q) (nI l') f (nI n) v (0, nI w, nI (4 * w + p)) = jX10_read_j118_48 k (nI q) (nI l') f (nI n) (nI w) (nI (4 * w + p)) 0 v) ∧ (¬ (0 ≤ f.toInt + ((4 * w + p : Nat) : Int) ∧ f.toInt + ((4 * w + p : Nat) : Int) < (m : Int)) → bX10_read_48 k (nI q) (nI l') f (nI n) v (0, nI w, nI (4 * w + p)) = some (.inl (2, nI w, nI (4 * w + p + 1)))) := by
        intro p w hp hw
        unfold bX10_read_48
        dsimp only
        have hc : ¬ (4 : Int32) * nI n ≤ nI (4 * w + p) := by rw [show (4 : Int32) = nI 4 from rfl, pk_mul, nI_leI (by omega) (by omega)]; omega
        have e : (nI m - (1 : Int32)).toInt = (m : Int) - 1 := pk_sub_toInt (a := m) (b := 1) (by omega) (by omega)
        rw [if_neg hc, if_pos rfl, zget_n hq (by omega), a2, if_neg (show ¬ nI l' = -4 from nI_ne_neg (by omega) (by decide)), zget_n hq (by omega), a2, if_pos rfl, zget_n hq (by omega), e2, inIf, l_add32 f (by omega), Int32.toInt_toInt64, e, show (0 : Int64).toInt = 0 from rfl]
        refine ⟨fun h => by rw [if_pos (by omega)], fun h => ?_⟩
        rw [if_neg (by omega)]
        unfold jX10_read_j118_48
        rw [if_neg (by decide), nI_1]
      have j3 : ∀ (p w : Nat), p < 3 → w < n → jX10_read_j118_48 k (nI q) (nI l') f (nI n) (nI w) (nI (4 * w + p)) 0 v = some (.inl (0, nI w, nI (4 * w + p + 1))) := by
        intro p w hp hw
        unfold jX10_read_j118_48
        have er : zremI (nI (4 * w + p)) (4 : Int32) = nI ((4 * w + p) % 4) := pk_rem (a := 4 * w + p) (d := 4) (by omega) (by omega) (by omega)
        rw [if_pos rfl, zdi_n (by decide), er, if_neg (by rw [show (3 : Int32) = nI 3 from rfl, nI_eq (by omega) (by omega)]; omega), nI_1]
      have G : ∀ (r w kc km : Nat), w + r = n → r < kc → 4 * r + 6 < km → K0 + w ≤ 999 → (w = 0 ∨ ∃ f0, f = nI f0 ∧ f0 + 4 * w ≤ m ∧ ∀ i, i < w → hOK (fun p => xg_scells u q (f0 + 4 * i + p))) → ∃ x, ziter (bX9_read_45 k q (nI l') f (nI n) u) kc ((0 : Int32), nI w, nI w) = some x ∧ ziter (bX10_read_48 k (nI q) (nI l') f (nI n) v) km ((0 : Int32), nI w, nI (4 * w)) = some x ∧
          ∀ b w, x = .inr (.inr (b, w)) → ∃ wn, w = nI wn ∧ wn ≤ n ∧ K0 + wn ≤ 999 ∧ (wn = 0 ∨ ∃ f0, f = nI f0 ∧ f0 + 4 * wn ≤ 48 ∧ ∀ i, i < wn → hOK (fun p => xg_scells u q (f0 + 4 * i + p))) := by
        intro r
        induction r with
        | zero =>
          intro w kc km hw hkc hkm hK' hI
          have hw : w = n := by omega
          subst hw
          obtain ⟨kc', rfl⟩ : ∃ k', kc = k' + 1 := ⟨kc - 1, by omega⟩
          obtain ⟨km', rfl⟩ : ∃ k', km = k' + 1 := ⟨km - 1, by omega⟩
          refine ⟨.inr (.inr (0, nI w)), ziter_r (xend 0 _ _ (Or.inr (by rw [nI_leI (by omega) (by omega)]; omega))), ziter_r (mend 0 _ _ (Or.inr (by rw [show (4 : Int32) = nI 4 from rfl, pk_mul, nI_leI (by omega) (by omega)]; omega))), ?_⟩
          intro b w' e
          cases e
          exact ⟨w, rfl, Nat.le_refl _, hK', hI.elim Or.inl (fun ⟨f0, x1, x2, x3⟩ => Or.inr ⟨f0, x1, by omega, x3⟩)⟩
        | succ r ih =>
          intro w kc km hw hkc hkm hK' hI
          obtain ⟨kc', rfl⟩ : ∃ k', kc = k' + 1 + 1 := ⟨kc - 2, by omega⟩
          obtain ⟨km', rfl⟩ : ∃ k', km = k' + 1 + 1 + 1 + 1 + 1 + 1 := ⟨km - 6, by omega⟩
          -- where the home begins
          have hat : (f + (4 : Int32) * nI w).toInt = f.toInt + 4 * (w : Int) := by
            rcases hI with rfl | ⟨f0, rfl, x2, x3⟩
            · rw [show f + (4 : Int32) * nI 0 = f by rw [show nI 0 = (0 : Int32) from rfl]; grind]; omega
            · rw [show (4 : Int32) = nI 4 from rfl, pk_mul, nI_add, nI_toInt (by omega), nI_toInt (by omega)]; omega
          have endF : ∀ i : Int32, ∃ x, ziter (bX9_read_45 k q (nI l') f (nI n) u) (kc' + 1) ((2 : Int32), nI w, nI (w + 1)) = some x ∧ (∀ j, ziter (bX10_read_48 k (nI q) (nI l') f (nI n) v) (j + 1) ((2 : Int32), nI w, i) = some x) ∧
              ∀ b w, x = .inr (.inr (b, w)) → ∃ wn, w = nI wn ∧ wn ≤ n ∧ K0 + wn ≤ 999 ∧ (wn = 0 ∨ ∃ f0, f = nI f0 ∧ f0 + 4 * wn ≤ 48 ∧ ∀ i, i < wn → hOK (fun p => xg_scells u q (f0 + 4 * i + p))) := by
            intro i
            refine ⟨.inr (.inr (2, nI w)), ziter_r (xend 2 _ _ (Or.inl (by decide))), fun j => ziter_r (mend 2 _ _ (Or.inl (by decide))), ?_⟩
            intro b w' e
            cases e
            exact ⟨w, rfl, by omega, hK', hI.elim Or.inl (fun ⟨f0, x1, x2, x3⟩ => Or.inr ⟨f0, x1, by omega, x3⟩)⟩
          have hX : bX9_read_45 k q (nI l') f (nI n) u ((0 : Int32), nI w, nI w) = (some (if 0 ≤ (f + (4 : Int32) * nI w).toInt ∧ (f + (4 : Int32) * nI w).toInt + 4 ≤ (m : Int) then (0 : Int32) else 2)).bind (fun q7 => if q7 = 0 then (fX6_isHome k q (f + (4 : Int32) * nI w) u).bind (fun q9 => if q9 = 0 then some (.inr (.inl (nI w))) else if nI (K0 + w) + (1 : Int32) ≤ (999 : Int32) then some (.inl (q7, nI (w + 1), nI (w + 1))) else some (.inr (.inr (.inl ())))) else some (.inl (q7, nI w, nI (w + 1)))) := by
            unfold bX9_read_45
            dsimp only
            rw [if_neg (by rw [nI_leI (by omega) (by omega)]; omega), if_pos rfl, xfaultH_s hl' a1 hm e1 _ (by omega), hso]
            simp only [zbind_s, nI_add, nI_1]
          by_cases cr : 0 ≤ (f + (4 : Int32) * nI w).toInt ∧ (f + (4 : Int32) * nI w).toInt + 4 ≤ (m : Int)
          · rw [if_pos cr, zbind_s, if_pos rfl] at hX
            obtain ⟨t, ht, et⟩ := zn_of (a := f + (4 : Int32) * nI w) (n := m) (by omega) (by omega)
            rw [et] at hX cr hat
            rw [nI_toInt (by omega)] at cr hat
            have s0 := (hi4 0 w (by omega) (by omega)).1 (by omega)
            have s1 := (hi4 1 w (by omega) (by omega)).1 (by omega)
            have s2 := (hi4 2 w (by omega) (by omega)).1 (by omega)
            have s3 := (hi4 3 w (by omega) (by omega)).1 (by omega)
            rw [j3 0 w (by omega) (by omega)] at s0
            rw [j3 1 w (by omega) (by omega)] at s1
            rw [j3 2 w (by omega) (by omega)] at s2
            have ea : (((((48 : Int32) * nI q) + f) + nI (4 * w + 3)) - (3 : Int32)) = nI (48 * q + t) := by
              rw [← nI_add (48 * q) t, ← et, ← nI_add (4 * w) 3, ← pk_mul 4 w, ← pk_mul 48 q, show nI 4 = (4 : Int32) from rfl, show nI 48 = (48 : Int32) from rfl, show nI 3 = (3 : Int32) from rfl]
              grind
            have hcell : ∀ p, p < 4 → mg_cells v (48 * q + t + p) = xg_scells u q (t + p) := by
              intro p hp
              rw [Nat.add_assoc]
              exact (hS3 (t + p) (by omega)).symm
            have sJ : jX10_read_j118_48 k (nI q) (nI l') f (nI n) (nI w) (nI (4 * w + 3)) 0 v = (fX10_homeAt k (nI (48 * q + t)) v).bind (fun q13 => if q13 = (-4 : Int32) then some (.inr (.inl (nI w))) else if nI (K0 + (w + 1)) ≤ (999 : Int32) then some (.inl (0, nI (w + 1), nI (4 * w + 3 + 1))) else some (.inr (.inr (.inl ())))) := by
              unfold jX10_read_j118_48
              have er : zremI (nI (4 * w + 3)) (4 : Int32) = nI ((4 * w + 3) % 4) := pk_rem (a := 4 * w + 3) (d := 4) (by omega) (by omega) (by omega)
              rw [if_pos rfl, zdi_n (by decide), er, if_pos (by rw [show (4 * w + 3) % 4 = 3 by omega]; rfl), ea, z0, zget_n (by omega) (by omega), hkn, nI_1, nI_1, nI_add]
            rw [sJ] at s3
            have hle : nI (K0 + w) + (1 : Int32) ≤ (999 : Int32) ↔ K0 + w + 1 ≤ 999 := by
              rw [nI_1, show (999 : Int32) = nI 999 from rfl, nI_leI (by omega) (by omega)]
            have hle2 : nI (K0 + (w + 1)) ≤ (999 : Int32) ↔ K0 + w + 1 ≤ 999 := by
              rw [show (999 : Int32) = nI 999 from rfl, nI_leI (by omega) (by omega)]; omega
            rw [Nat.add_zero] at s0
            by_cases hh : hOK (fun p => xg_scells u q (t + p))
            · have hh2 : hOK (fun p => mg_cells v (48 * q + t + p)) := hOK_c (fun p hp => (hcell p hp).symm) hh
              rw [(xisHome u (by omega) (by omega)).1 hh, zbind_s, if_neg (by decide)] at hX
              have hlt : encD (cd (fun p => mg_cells v (48 * q + t + p))) < 256 := (dg_enc hh2.2).2.2.2.2.1
              rw [(mhomeAt v (by omega) (by omega)).1 hh2, zbind_s, if_neg (nI_ne_neg (by omega) (by decide))] at s3
              by_cases c9 : K0 + w + 1 ≤ 999
              · rw [if_pos (hle.mpr c9)] at hX
                rw [if_pos (hle2.mpr c9)] at s3
                have hI2 : w + 1 = 0 ∨ ∃ f0, f = nI f0 ∧ f0 + 4 * (w + 1) ≤ m ∧ ∀ i, i < w + 1 → hOK (fun p => xg_scells u q (f0 + 4 * i + p)) := by
                  right
                  rcases hI with rfl | ⟨f0, rfl, x2, x3⟩
                  · have ef : f = nI t := by
                      rw [← et, show nI 0 = (0 : Int32) from rfl]; grind
                    refine ⟨t, ef, by omega, fun i hi => ?_⟩
                    rw [show i = 0 by omega]
                    exact hh
                  · have ef : t = f0 + 4 * w := by rw [nI_toInt (by omega)] at hat; omega
                    subst ef
                    refine ⟨f0, rfl, by omega, fun i hi => ?_⟩
                    by_cases e : i = w
                    · subst e; exact hh
                    · exact x3 i (by omega)
                obtain ⟨x, y1, y2, y3⟩ := ih (w + 1) (kc' + 1) (km' + 1 + 1) (by omega) (by omega) (by omega) (by omega) hI2
                refine ⟨x, by rw [ziter_l hX]; exact y1, ?_, y3⟩
                rw [ziter_l s0, ziter_l s1, ziter_l s2, ziter_l s3]
                exact y2
              · rw [if_neg (fun z => c9 (hle.mp z))] at hX
                rw [if_neg (fun z => c9 (hle2.mp z))] at s3
                refine ⟨.inr (.inl ()), ziter_r hX, ?_, fun b w e => by cases e⟩
                rw [ziter_l s0, ziter_l s1, ziter_l s2]
                exact ziter_r s3
            · have hh2 : ¬ hOK (fun p => mg_cells v (48 * q + t + p)) := fun z => hh (hOK_c hcell z)
              rw [(xisHome u (by omega) (by omega)).2 hh, zbind_s, if_pos rfl] at hX
              rw [(mhomeAt v (by omega) (by omega)).2 hh2, zbind_s, if_pos rfl] at s3
              refine ⟨.inl (nI w), ziter_r hX, ?_, fun b w e => by cases e⟩
              rw [ziter_l s0, ziter_l s1, ziter_l s2]
              exact ziter_r s3
          · rw [if_neg cr, zbind_s, if_neg (by decide)] at hX
            rw [hat] at cr
            by_cases d0 : 0 ≤ f.toInt + ((4 * w + 0 : Nat) : Int) ∧ f.toInt + ((4 * w + 0 : Nat) : Int) < (m : Int)
            · have s0 := (hi4 0 w (by omega) (by omega)).1 d0
              rw [j3 0 w (by omega) (by omega), Nat.add_zero] at s0
              by_cases d1 : 0 ≤ f.toInt + ((4 * w + 1 : Nat) : Int) ∧ f.toInt + ((4 * w + 1 : Nat) : Int) < (m : Int)
              · have s1 := (hi4 1 w (by omega) (by omega)).1 d1
                rw [j3 1 w (by omega) (by omega)] at s1
                by_cases d2 : 0 ≤ f.toInt + ((4 * w + 2 : Nat) : Int) ∧ f.toInt + ((4 * w + 2 : Nat) : Int) < (m : Int)
                · have s2 := (hi4 2 w (by omega) (by omega)).1 d2
                  rw [j3 2 w (by omega) (by omega)] at s2
                  have s3 := (hi4 3 w (by omega) (by omega)).2 (by omega)
                  obtain ⟨x, y1, y2, y3⟩ := endF (nI (4 * w + 3 + 1))
                  refine ⟨x, by rw [ziter_l hX]; exact y1, ?_, y3⟩
                  rw [ziter_l s0, ziter_l s1, ziter_l s2, ziter_l s3]
                  exact y2 _
                · have s2 := (hi4 2 w (by omega) (by omega)).2 d2
                  obtain ⟨x, y1, y2, y3⟩ := endF (nI (4 * w + 2 + 1))
                  refine ⟨x, by rw [ziter_l hX]; exact y1, ?_, y3⟩
                  rw [ziter_l s0, ziter_l s1, ziter_l s2]
                  exact y2 _
              · have s1 := (hi4 1 w (by omega) (by omega)).2 d1
                obtain ⟨x, y1, y2, y3⟩ := endF (nI (4 * w + 1 + 1))
                refine ⟨x, by rw [ziter_l hX]; exact y1, ?_, y3⟩
                rw [ziter_l s0, ziter_l s1]
                exact y2 _
            · have s0 := (hi4 0 w (by omega) (by omega)).2 d0
              rw [Nat.add_zero] at s0
              obtain ⟨x, y1, y2, y3⟩ := endF (nI (4 * w + 1))
              refine ⟨x, by rw [ziter_l hX]; exact y1, ?_, y3⟩
              rw [ziter_l s0]
              exact y2 _
      exact G n 0 k k (by omega) (by omega) (by omega) (by omega) (Or.inl rfl)
    · refine first 3 (by decide) (fun i => by
        unfold fX6_faultAt
        rw [a1, if_neg (show ¬ nI l' = -1 from nI_ne_neg (by omega) (by decide)), if_neg (by rw [nI_eq (by omega) (by omega)]; exact hll)]) ?_
      unfold bX10_read_48
      dsimp only
      rw [if_neg h4n, if_pos rfl, zget_n hq (by omega), a2, if_neg (show ¬ nI l' = -4 from nI_ne_neg (by omega) (by decide)), zget_n hq (by omega), a2, if_neg (by rw [nI_eq (by omega) (by omega)]; exact hll)]
      unfold jX10_read_j118_48
      rw [if_neg (by decide)]
      rfl
