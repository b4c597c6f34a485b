/-! homes on sheets -/
def cd (c : Nat → Int32) (p : Nat) : Nat := (c p).toInt.toNat
def hOK (c : Nat → Int32) : Prop := (∀ p, p < 4 → 0 ≤ (c p).toInt ∧ (c p).toInt ≤ 3) ∧ smD (cd c) ≤ 3
theorem cd_e {c : Nat → Int32} {p : Nat} (h : 0 ≤ (c p).toInt ∧ (c p).toInt ≤ 3) : c p = nI (cd c p) ∧ cd c p ≤ 3 := by
  unfold cd
  refine ⟨?_, by omega⟩
  apply Int32.toInt_inj.mp
  rw [nI_toInt (by omega)]
  omega
theorem xcell {js t : Nat} (u : CX) (h : t < 48) : fX6_cell js (nI t) u = some (xg_scells u js t) := by
  unfold fX6_cell
  rw [if_neg (nI_pos (by omega)), if_pos (by rw [show (48 : Int32) = nI 48 from rfl, nI_ltI (by omega) (by omega)]; omega), zget_n h (by omega)]
theorem xisHome {js t : Nat} (u : CX) (h : t + 4 ≤ 48) {k : Nat} (hk : 20 ≤ k) : (hOK (fun p => xg_scells u js (t + p)) → fX6_isHome k js (nI t) u = some 1) ∧ (¬ hOK (fun p => xg_scells u js (t + p)) → fX6_isHome k js (nI t) u = some 0) := by
  have st : ∀ (c i : Nat), i < 4 → ((0 ≤ (xg_scells u js (t + i)).toInt ∧ (xg_scells u js (t + i)).toInt ≤ 3) → bX6_isHome_4 k js (nI t) u (nI c, nI i) = some (.inl (nI (c + cd (fun p => xg_scells u js (t + p)) i), nI (i + 1)))) ∧ (¬ (0 ≤ (xg_scells u js (t + i)).toInt ∧ (xg_scells u js (t + i)).toInt ≤ 3) → bX6_isHome_4 k js (nI t) u (nI c, nI i) = some (.inr (.inl ()))) := by
    intro c i hi
    unfold bX6_isHome_4
    dsimp only
    rw [if_neg (by rw [show (4 : Int32) = nI 4 from rfl, nI_leI (by omega) (by omega)]; omega), nI_add, xcell u (by omega), zbind_s, rngB, show (3 : Int32).toInt = 3 from rfl, zb_e, nI_1]
    refine ⟨fun hc => ?_, fun hc => ?_⟩
    · rw [if_pos hc]
      have e := (cd_e (c := fun p => xg_scells u js (t + p)) (p := i) hc).1
      have e' : xg_scells u js (t + i) = nI (cd (fun p => xg_scells u js (t + p)) i) := e
      rw [e', nI_add]
    · rw [if_neg hc]
  unfold fX6_isHome
  generalize hc : (fun p => xg_scells u js (t + p)) = c at st ⊢
  have hcp : ∀ p, xg_scells u js (t + p) = c p := fun p => by rw [← hc]
  simp only [hcp] at st
  obtain ⟨k', hk'⟩ : ∃ k', k = k' + 1 + 1 + 1 + 1 + 1 := ⟨k - 5, by omega⟩
  have ex : bX6_isHome_4 k js (nI t) u (nI (0 + cd c 0 + cd c 1 + cd c 2 + cd c 3), nI (3 + 1)) = some (.inr (.inr (nI (0 + cd c 0 + cd c 1 + cd c 2 + cd c 3)))) := by
    unfold bX6_isHome_4
    rfl
  generalize bX6_isHome_4 k js (nI t) u = f at st ex
  rw [show (0 : Int32) = nI 0 from rfl, hk']
  have bad : ziter f (k' + 1 + 1 + 1 + 1 + 1) (nI 0, nI 0) = some (.inl ()) → ¬ hOK c → (hOK c → (ziter f (k' + 1 + 1 + 1 + 1 + 1) (nI 0, nI 0)).bind (fun b4 => zel b4 (fun _ => some (nI 0)) (fun b4 => if (3 : Int32) < b4 then some (nI 0) else some (1 : Int32))) = some 1) ∧ (¬ hOK c → (ziter f (k' + 1 + 1 + 1 + 1 + 1) (nI 0, nI 0)).bind (fun b4 => zel b4 (fun _ => some (nI 0)) (fun b4 => if (3 : Int32) < b4 then some (nI 0) else some (1 : Int32))) = some 0) := by
    intro e hn
    rw [e]
    exact ⟨fun q => absurd q hn, fun _ => rfl⟩
  by_cases c0 : 0 ≤ (c 0).toInt ∧ (c 0).toInt ≤ 3
  · rw [ziter_l ((st 0 0 (by omega)).1 c0)] at bad ⊢
    by_cases c1 : 0 ≤ (c 1).toInt ∧ (c 1).toInt ≤ 3
    · rw [ziter_l ((st _ 1 (by omega)).1 c1)] at bad ⊢
      by_cases c2 : 0 ≤ (c 2).toInt ∧ (c 2).toInt ≤ 3
      · rw [ziter_l ((st _ 2 (by omega)).1 c2)] at bad ⊢
        by_cases c3 : 0 ≤ (c 3).toInt ∧ (c 3).toInt ≤ 3
        · rw [ziter_l ((st _ 3 (by omega)).1 c3), ziter_r ex, zbind_s, z_e2, Nat.zero_add]
          have hl : (3 : Int32) < nI (cd c 0 + cd c 1 + cd c 2 + cd c 3) ↔ ¬ smD (cd c) ≤ 3 := by
            have := (cd_e c0).2
            have := (cd_e c1).2
            have := (cd_e c2).2
            have := (cd_e c3).2
            rw [show (3 : Int32) = nI 3 from rfl, nI_ltI (by omega) (by omega)]
            unfold smD
            omega
          refine ⟨fun hh => by rw [if_neg (fun q => hl.mp q hh.2)], fun hh => ?_⟩
          rw [if_pos (hl.mpr (fun q => hh ⟨fun p hp => ?_, q⟩))]
          match p, hp with
            | 0, _ => exact c0
            | 1, _ => exact c1
            | 2, _ => exact c2
            | 3, _ => exact c3
        · exact bad (ziter_r ((st _ 3 (by omega)).2 c3)) (fun q => c3 (q.1 3 (by omega)))
      · exact bad (ziter_r ((st _ 2 (by omega)).2 c2)) (fun q => c2 (q.1 2 (by omega)))
    · exact bad (ziter_r ((st _ 1 (by omega)).2 c1)) (fun q => c1 (q.1 1 (by omega)))
  · exact bad (ziter_r ((st _ 0 (by omega)).2 c0)) (fun q => c0 (q.1 0 (by omega)))
theorem mhomeAt {t : Nat} (v : MX) (h : t + 4 ≤ 192) {k : Nat} (hk : 20 ≤ k) : (hOK (fun p => mg_cells v (t + p)) → fX10_homeAt k (nI t) v = some (nI (encD (cd (fun p => mg_cells v (t + p)))))) ∧ (¬ hOK (fun p => mg_cells v (t + p)) → fX10_homeAt k (nI t) v = some (-4)) := by
  have st : ∀ (e c i : Nat), i < 4 → ((0 ≤ (mg_cells v (t + i)).toInt ∧ (mg_cells v (t + i)).toInt ≤ 3) → bX10_homeAt_7 k (nI t) v (nI e, nI c, nI i) = some (.inl (nI (4 * e + cd (fun p => mg_cells v (t + p)) i), nI (c + cd (fun p => mg_cells v (t + p)) i), nI (i + 1)))) ∧ (¬ (0 ≤ (mg_cells v (t + i)).toInt ∧ (mg_cells v (t + i)).toInt ≤ 3) → bX10_homeAt_7 k (nI t) v (nI e, nI c, nI i) = some (.inr (.inl ()))) := by
    intro e c i hi
    unfold bX10_homeAt_7
    dsimp only
    rw [if_neg (by rw [show (4 : Int32) = nI 4 from rfl, nI_leI (by omega) (by omega)]; omega), nI_add]
    simp only [zget_n (show t + i < 192 by omega) (show 192 ≤ 2 ^ 31 by omega), zb_e]
    rw [inIf, Int32.toInt_toInt64, show (0 : Int64).toInt = 0 from rfl, show (3 : Int64).toInt = 3 from rfl, nI_1]
    refine ⟨fun hc => ?_, fun hc => ?_⟩
    · rw [if_pos hc]
      have e' : mg_cells v (t + i) = nI (cd (fun p => mg_cells v (t + p)) i) := (cd_e (c := fun p => mg_cells v (t + p)) (p := i) hc).1
      rw [e', show (4 : Int32) = nI 4 from rfl, pk_mul, nI_add, nI_add]
    · rw [if_neg hc]
  unfold fX10_homeAt
  generalize hc : (fun p => mg_cells v (t + p)) = c at st ⊢
  have hcp : ∀ p, mg_cells v (t + p) = c p := fun p => by rw [← hc]
  simp only [hcp] at st
  obtain ⟨k', hk'⟩ : ∃ k', k = k' + 1 + 1 + 1 + 1 + 1 := ⟨k - 5, by omega⟩
  have ex : ∀ (x y : Int32), bX10_homeAt_7 k (nI t) v (x, y, nI (3 + 1)) = some (.inr (.inr (x, y))) := by
    intro x y
    unfold bX10_homeAt_7
    rfl
  generalize bX10_homeAt_7 k (nI t) v = f at st ex
  rw [show (0 : Int32) = nI 0 from rfl, hk']
  have bad : ziter f (k' + 1 + 1 + 1 + 1 + 1) (nI 0, nI 0, nI 0) = some (.inl ()) → ¬ hOK c → (hOK c → (ziter f (k' + 1 + 1 + 1 + 1 + 1) (nI 0, nI 0, nI 0)).bind (fun b8 => zel b8 (fun _ => some (-4 : Int32)) (fun b8 => if b8.2 ≤ (3 : Int32) then some b8.1 else some (-4 : Int32))) = some (nI (encD (cd c)))) ∧ (¬ hOK c → (ziter f (k' + 1 + 1 + 1 + 1 + 1) (nI 0, nI 0, nI 0)).bind (fun b8 => zel b8 (fun _ => some (-4 : Int32)) (fun b8 => if b8.2 ≤ (3 : Int32) then some b8.1 else some (-4 : Int32))) = some (-4)) := by
    intro e hn
    rw [e]
    exact ⟨fun q => absurd q hn, fun _ => rfl⟩
  by_cases c0 : 0 ≤ (c 0).toInt ∧ (c 0).toInt ≤ 3
  · rw [ziter_l ((st 0 0 0 (by omega)).1 c0)] at bad ⊢
    by_cases c1 : 0 ≤ (c 1).toInt ∧ (c 1).toInt ≤ 3
    · rw [ziter_l ((st _ _ 1 (by omega)).1 c1)] at bad ⊢
      by_cases c2 : 0 ≤ (c 2).toInt ∧ (c 2).toInt ≤ 3
      · rw [ziter_l ((st _ _ 2 (by omega)).1 c2)] at bad ⊢
        by_cases c3 : 0 ≤ (c 3).toInt ∧ (c 3).toInt ≤ 3
        · rw [ziter_l ((st _ _ 3 (by omega)).1 c3), ziter_r (ex _ _), zbind_s, z_e2]
          dsimp only
          have hl : nI (0 + cd c 0 + cd c 1 + cd c 2 + cd c 3) ≤ (3 : Int32) ↔ smD (cd c) ≤ 3 := by
            have := (cd_e c0).2
            have := (cd_e c1).2
            have := (cd_e c2).2
            have := (cd_e c3).2
            rw [show (3 : Int32) = nI 3 from rfl, nI_leI (by omega) (by omega)]
            unfold smD
            omega
          refine ⟨fun hh => ?_, fun hh => ?_⟩
          · rw [if_pos (hl.mpr hh.2)]
            congr 2
            unfold encD
            omega
          · rw [if_neg (fun q => hh ⟨fun p hp => ?_, hl.mp q⟩)]
            match p, hp with
            | 0, _ => exact c0
            | 1, _ => exact c1
            | 2, _ => exact c2
            | 3, _ => exact c3
        · exact bad (ziter_r ((st _ _ 3 (by omega)).2 c3)) (fun q => c3 (q.1 3 (by omega)))
      · exact bad (ziter_r ((st _ _ 2 (by omega)).2 c2)) (fun q => c2 (q.1 2 (by omega)))
    · exact bad (ziter_r ((st _ _ 1 (by omega)).2 c1)) (fun q => c1 (q.1 1 (by omega)))
  · exact bad (ziter_r ((st _ _ 0 (by omega)).2 c0)) (fun q => c0 (q.1 0 (by omega)))
