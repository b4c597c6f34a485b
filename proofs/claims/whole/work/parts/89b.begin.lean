/-! the beginning: class and reference agree; what the Statement gives -/
theorem rel_ini {u : CX} (h : xIni u) : Rel u mZ := by
  obtain ⟨tp, tr, dp, dr, Lg, Fc, h1, h2, h3, h4, rfl⟩ := h
  have c1 : ∀ j, j < 8 → mg_ends mZ j = ([0, 4, 9, 14, 18, 23, 27, 32] : List Int32).getD j 0 := by decide +kernel
  have c2 : ∀ j, j < 32 → mg_letters mZ j = ([97, 114, 101, 97, 102, 97, 108, 108, 115, 112, 108, 97, 116, 101, 104, 105, 116, 115, 111, 116, 104, 101, 114, 115, 108, 105, 112, 108, 105, 109, 105, 116] : List Int32).getD j 0 := by decide +kernel
  have c3 : ∀ j, j < 19 → mg_plain mZ j = ([10, 10, 10, 10, 2, 2, 2, 2, 5, 5, 5, 5, 1, 1, 1, 1, 0, 5, 10] : List Int32).getD j 0 := by decide +kernel
  have c4 : ∀ j, j < 19 → mg_holds mZ j = nI (D0 j) := by decide +kernel
  have c5 : ∀ k, k < 4 → mg_lanes mZ k = -4 := by decide +kernel
  refine ⟨D0, 0, fun _ _ => 0, fun _ => 0, fun _ => 0, fun _ => 0, rBd_P D0_b D0_s, ⟨by omega, fun i _ => ⟨Nat.zero_le _, Nat.le_refl 0, fun p _ => Nat.zero_le _, Nat.zero_le _⟩⟩, fun p _ => ⟨Nat.zero_le _, Nat.zero_le _, Nat.zero_le _⟩, tape_0 _ _ rfl rfl, ⟨c1, c2, c3⟩, ⟨rfl, rfl, rfl⟩, ⟨h1, h2, rfl, rfl, rfl, rfl⟩, ⟨h3, h4⟩, c4, ⟨fun _ _ => rfl, rfl, 0, by omega, rfl, fun i hi => absurd hi (by omega)⟩, ⟨fun _ _ => rfl, rfl, fun i hi => absurd hi (by omega)⟩, fun p _ => ⟨rfl, rfl, rfl, rfl, rfl, rfl⟩, Or.inl ⟨rfl, rfl, rfl⟩, Or.inl rfl, fun k hk => ⟨Or.inl ⟨rfl, c5 k hk⟩, ⟨0, by omega, rfl, rfl⟩, fun _ _ => rfl⟩⟩
theorem el_least : ∀ j, j < 7 → Cond.eq (.elem (.static RX5 "LEAST" "[I") (.int (Int32.ofNat j))) (.int (zLeast j)) ∈ flatC (Jvm.Cond.and given_1 narrow_1) := by decide +kernel
theorem el_most : ∀ j, j < 7 → Cond.eq (.elem (.static RX5 "MOST" "[I") (.int (Int32.ofNat j))) (.int (zMost j)) ∈ flatC (Jvm.Cond.and given_1 narrow_1) := by decide +kernel
theorem el_text : ∀ j, j < 42 → Cond.eq (.elem (.field (.string RX5 69) "java/lang/String" "value" "[B") (.int (Int32.ofNat j))) (.int (zTextB.getD j 0)) ∈ flatC (Jvm.Cond.and given_1 narrow_1) := by decide +kernel
theorem nl_in : ∀ q ∈ zNl, Cond.methodLinkNest q.1 q.2.1 q.2.2.1 q.2.2.2 ∈ lw_tbl := by decide +kernel
theorem zF_start {s : State} {b : Nat} {A : Nat → Prop} (hts : ∀ w ∈ lw_tbl, w.before #[Value.ref b] s = true) (hgv : (Jvm.Cond.and given_1 narrow_1).before #[Value.ref b] s = true) (hA : ∀ a, a < s.heap.size → ¬ A a) : ∃ ad : Nat → Nat, zF ad A s := by
  have hs := flat_of_before _ hgv
  obtain ⟨t0, e0, hT0⟩ := va_Tof (tm := Term.static RX5 "LEAST" "[I") (ty := .int) (N := 7) (f := fun j => .int (zLeast j)) (A := A) (by omega) (hs _ (by decide +kernel)) (va_eqt (hs (Cond.eq (.length (.static RX5 "LEAST" "[I")) (.int (Int32.ofNat 7))) (by decide +kernel))) (fun j hj => va_eqt (hs _ (el_least j hj))) hA
  obtain ⟨t1, e1, hT1⟩ := va_Tof (tm := Term.static RX5 "MOST" "[I") (ty := .int) (N := 7) (f := fun j => .int (zMost j)) (A := A) (by omega) (hs _ (by decide +kernel)) (va_eqt (hs (Cond.eq (.length (.static RX5 "MOST" "[I")) (.int (Int32.ofNat 7))) (by decide +kernel))) (fun j hj => va_eqt (hs _ (el_most j hj))) hA
  have n0 : ∀ i, i < 1 → ([42] : List Nat).getD i 0 < 2 ^ 31 := by
    intro i hi
    match i, hi with
    | 0, _ => decide
    | n + 1, h => exact absurd h (by omega)
  have n1 : ∀ i, i < 1 → (Cond.eq (.length (.field (.string RX5 69) "java/lang/String" "value" "[B")) (.int (Int32.ofNat (([42] : List Nat).getD i 0)))).before #[Value.ref b] s = true := by
    intro i hi
    match i, hi with
    | 0, _ => exact hs (Cond.eq (.length (.field (.string RX5 69) "java/lang/String" "value" "[B")) (.int (Int32.ofNat 42))) (by decide +kernel)
    | n + 1, h => exact absurd h (by omega)
  have n2 : ∀ i, i < 1 → ∀ j, j < ([42] : List Nat).getD i 0 → (Cond.eq (.elem (.field (.string RX5 69) "java/lang/String" "value" "[B") (.int (Int32.ofNat j))) (.int ((([zTextB] : List (List Int32)).getD i []).getD j 0))).before #[Value.ref b] s = true := by
    intro i hi j hj
    match i, hi, hj with
    | 0, _, hj => exact hs _ (el_text j hj)
    | n + 1, h, _ => exact absurd h (by omega)
  obtain ⟨adK, adV, hS, hE⟩ := vk_Sof (args := #[Value.ref b]) (s := s) (N := 1) (tm := fun _ => Term.string RX5 69) (len := [42]) (byt := [zTextB]) (A := A) n0 (fun i hi => hs _ (by decide +kernel)) (fun i hi => hs _ (by decide +kernel)) (fun i hi => hs _ (by decide +kernel)) n1 n2 (fun i j hi hj hne => absurd (by omega) hne) hA
  refine ⟨fun i => if i = 100 then t0 else if i = 101 then t1 else if i = 102 then adK 0 else adV 0, fun q hq => ?_, vk_R.of (hts (Cond.stringRef RX5 69 zText) (by decide +kernel)) (hE 0 (by omega)), ⟨va_Zref (hts _ (by decide +kernel)) (hts _ (by decide +kernel)) e0 hA, hT0⟩, ⟨va_Zref (hts _ (by decide +kernel)) (hts _ (by decide +kernel)) e1 hA, hT1⟩, ⟨fun i hi => ?_, fun i j hi hj _ => by omega⟩, va_Zof (hts _ (by decide +kernel)) (hts _ (by decide +kernel)) (va_eqt (hs _ (by decide +kernel))) hA, va_Zqof (hts _ (by decide +kernel)) (hts _ (by decide +kernel)) (hs _ (by decide +kernel)) hA⟩
  · exact va_Nw.of rfl (hts _ (nl_in q hq))
  · match i, hi with
    | 0, _ => exact hS.1 0 (by omega)
    | n + 1, h => exact absurd h (by omega)
theorem zAO_start {s : State} {b : Nat} (hts : ∀ w ∈ lw_tbl, w.before #[Value.ref b] s = true) : zAO s := ⟨va_AOA.of (hts (Cond.arrayOver (.array .int)) (by decide +kernel)), va_AO.of (hts (Cond.arrayOver (.object RX6)) (by decide +kernel))⟩
theorem arr_start {s : State} {a : Array Value} {ty : FieldType} (ht : ty = .int ∨ ty = .byte ∨ ty = .long ∨ ty = .boolean) (h : (Cond.arrayClass ty).before a s = true) : ∃ cA, ArrOfT s cA ty ∧ va_RA s cA ty := by
  obtain ⟨cA, kA, comp, h1, h2, h3⟩ := Cond.arrayClass_spec h
  refine ⟨cA, fun n z => ⟨fun k h => (by cases h), kA, h2, comp, h3⟩, ?_⟩
  rcases ht with rfl | rfl | rfl | rfl <;> exact h1
theorem vK_start {s : State} {b : Nat} (hts : ∀ w ∈ lw_tbl, w.before #[Value.ref b] s = true) : ∃ (D : va_G) (cy : Nat → ClassId), va_K D vwCl (zTY cy) s := by
  obtain ⟨c0, i0, k0⟩ := u_known (C := RX0) (T := TX0) (N := 3) (n := 3) hts inX0 (hts (.instantiable RX0 3) (by decide +kernel))
  obtain ⟨c1, i1, k1⟩ := u_known (C := RX1) (T := TX1) (N := 4) (n := 4) hts inX1 (hts (.instantiable RX1 4) (by decide +kernel))
  obtain ⟨c2, i2, k2⟩ := u_known (C := RX2) (T := TX2) (N := 13) (n := 13) hts inX2 (hts (.instantiable RX2 13) (by decide +kernel))
  obtain ⟨c3, i3, k3⟩ := u_known (C := RX3) (T := TX3) (N := 4) (n := 4) hts inX3 (hts (.instantiable RX3 4) (by decide +kernel))
  obtain ⟨c4, i4, k4⟩ := u_known (C := RX4) (T := TX4) (N := 4) (n := 4) hts inX4 (hts (.instantiable RX4 4) (by decide +kernel))
  obtain ⟨c5, i5, k5⟩ := u_known (C := RX5) (T := TX5) (N := 7) (n := 7) hts inX5 (hts (.instantiable RX5 7) (by decide +kernel))
  obtain ⟨c6, i6, k6⟩ := u_known (C := RX6) (T := TX6) (N := 3) (n := 3) hts inX6 (hts (.instantiable RX6 3) (by decide +kernel))
  obtain ⟨c7, i7, k7⟩ := u_known (C := RX7) (T := TX7) (N := 5) (n := 5) hts inX7 (hts (.instantiable RX7 5) (by decide +kernel))
  obtain ⟨c8, i8, k8⟩ := u_known (C := RX8) (T := TX8) (N := 6) (n := 6) hts inX8 (hts (.instantiable RX8 6) (by decide +kernel))
  obtain ⟨c9, i9, k9⟩ := u_known (C := RX9) (T := TX9) (N := 10) (n := 10) hts inX9 (hts (.instantiable RX9 10) (by decide +kernel))
  obtain ⟨c10, i10, k10⟩ := u_known (C := RX10) (T := TX10) (N := 32) (n := 32) hts inX10 (hts (.instantiable RX10 32) (by decide +kernel))
  obtain ⟨a0, p0⟩ := arr_start (Or.inl rfl) (hts (.arrayClass .int) (by decide +kernel))
  obtain ⟨a1, p1⟩ := arr_start (Or.inr (Or.inl rfl)) (hts (.arrayClass .byte) (by decide +kernel))
  obtain ⟨a2, p2⟩ := arr_start (Or.inr (Or.inr (Or.inl rfl))) (hts (.arrayClass .long) (by decide +kernel))
  obtain ⟨a3, p3⟩ := arr_start (Or.inr (Or.inr (Or.inr rfl))) (hts (.arrayClass .boolean) (by decide +kernel))
  obtain ⟨m4, a4, k4c, f1, f2, f3, f4, f5⟩ := Cond.arrayOver_spec (hts (Cond.arrayOver (.object RX6)) (by decide +kernel))
  obtain ⟨m5, a5, k5c, g1, g2, g3, g4, g5⟩ := Jvm.Stand.arrayOver_specB (hts (Cond.arrayOver (.array .int)) (by decide +kernel))
  refine ⟨(fun k => match k with | 0 => c0 | 1 => c1 | 2 => c2 | 3 => c3 | 4 => c4 | 5 => c5 | 6 => c6 | 7 => c7 | 8 => c8 | 9 => c9 | _ => c10, fun k => match k with | 0 => i0 | 1 => i1 | 2 => i2 | 3 => i3 | 4 => i4 | 5 => i5 | 6 => i6 | 7 => i7 | 8 => i8 | 9 => i9 | _ => i10), fun k => match k with | 0 => a0 | 1 => a1 | 2 => a2 | 3 => a3 | 4 => a4 | _ => a5, fun k q hq => ?_, fun k q hq => ?_⟩
  · match k, hq with
    | 0, hq => cases hq; exact k0
    | 1, hq => cases hq; exact k1
    | 2, hq => cases hq; exact k2
    | 3, hq => cases hq; exact k3
    | 4, hq => cases hq; exact k4
    | 5, hq => cases hq; exact k5
    | 6, hq => cases hq; exact k6
    | 7, hq => cases hq; exact k7
    | 8, hq => cases hq; exact k8
    | 9, hq => cases hq; exact k9
    | 10, hq => cases hq; exact k10
    | k + 11, hq => simp [vwCl] at hq
  · match k, hq with
    | 0, hq => cases hq; exact p0
    | 1, hq => cases hq; exact p1
    | 2, hq => cases hq; exact p2
    | 3, hq => cases hq; exact p3
    | 4, hq => cases hq; exact ⟨fun n z => ⟨fun k h => (by cases h), k4c, f3, m4, f4⟩, k4c, m4, f3, f4, f1, f5⟩
    | 5, hq => cases hq; exact ⟨fun n z => ⟨fun k h => (by cases h), k5c, g3, m5, g4⟩, g5⟩
    | k + 6, hq => simp [zTY] at hq
