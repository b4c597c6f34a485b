/-! the tally of a part, span, trial -/
/-- how often a part falls, in the laws up to the m-th -/
def inL (L : List Nat) (p m d : Nat) : Prop := ∃ i, i < m ∧ fg (L.getD i 0) p = d
theorem tal_pos {L : List Nat} {p d m : Nat} : 0 < tal L p d m ↔ inL L p m d := by
  unfold tal inL
  rw [cM_pos]
  simp only [decide_eq_true_iff]
def isLH (Q : Nat → Prop) (lo hi : Nat) : Prop := Q lo ∧ Q hi ∧ ∀ d, Q d → lo ≤ d ∧ d ≤ hi
theorem isLH_u {Q : Nat → Prop} {a b c d : Nat} (h1 : isLH Q a b) (h2 : isLH Q c d) : a = c ∧ b = d := by
  obtain ⟨p1, p2, p3⟩ := h1
  obtain ⟨q1, q2, q3⟩ := h2
  have := p3 c q1
  have := p3 d q2
  have := q3 a p1
  have := q3 b p2
  omega
theorem xspan {L : List Nat} {u : CX} {p : Nat} (w : Int32) (hW : ∀ d, d ≤ 10 → fX2_withFalls (nI p) (nI d) u = some (nI (tal L p d L.length))) (hlen : L.length ≤ 14641) (hb : ∀ m, m < L.length → L.getD m 0 < 14641) (h0 : 0 < L.length) {k : Nat} (hk : 20000 ≤ k) : ∃ lo hi, hi ≤ 10 ∧ ziter (bX9_span_38 k (nI p) w u) k ((10 : Int32), (0 : Int32), (0 : Int32)) = some (nI lo, nI hi) ∧ isLH (inL L p L.length) lo hi := by
  have key : ∃ b, ziter (bX9_span_38 k (nI p) w u) k ((10 : Int32), (0 : Int32), (0 : Int32)) = some b ∧ ∃ lo hi, hi ≤ 10 ∧ b = (nI lo, nI hi) ∧ ((∀ d, d < 11 → ¬ inL L p L.length d) ∧ lo = 10 ∧ hi = 0 ∨ isLH (fun d => d < 11 ∧ inL L p L.length d) lo hi) := by
    refine ziter_inv (fun i a => ∃ lo hi, lo ≤ 10 ∧ hi ≤ 10 ∧ a = (nI lo, nI hi, nI i) ∧ ((∀ d, d < i → ¬ inL L p L.length d) ∧ lo = 10 ∧ hi = 0 ∨ isLH (fun d => d < i ∧ inL L p L.length d) lo hi)) _ 11 ?_ ?_ 11 0 k _ (by omega) ⟨10, 0, by omega, by omega, rfl, Or.inl ⟨fun d hd => by omega, rfl, rfl⟩⟩ (by omega)
    · rintro i a hi ⟨lo, h, hlo, hhi, rfl, hc⟩
      left
      have hcm := cM_le (fun j => decide (fg (L.getD j 0) p = i)) L.length
      have htb : tal L p i L.length ≤ L.length := hcm
      unfold bX9_span_38
      dsimp only
      rw [if_neg (by rw [show (10 : Int32) = nI 10 from rfl, nI_ltI (by omega) (by omega)]; omega), hW i (by omega), zbind_s, zb_e, nI_1]
      by_cases c : 0 < tal L p i L.length
      · rw [if_neg (by rw [show (0 : Int32) = nI 0 from rfl, nI_leI (by omega) (by omega)]; omega)]
        have hin := tal_pos.mp c
        rcases hc with ⟨c1, rfl, rfl⟩ | ⟨c1, c2, c3⟩
        · have em : zminI (nI 10) (nI i) = nI i := by
            unfold zminI
            by_cases ci : i < 10
            · rw [if_pos (by rw [nI_ltI (by omega) (by omega)]; exact ci)]
            · rw [if_neg (by rw [nI_ltI (by omega) (by omega)]; exact ci), show i = 10 by omega]
          rw [em]
          refine ⟨_, rfl, i, i, by omega, by omega, rfl, Or.inr ⟨⟨by omega, hin⟩, ⟨by omega, hin⟩, ?_⟩⟩
          rintro d ⟨hd, hd2⟩
          have : ¬ d < i := fun z => c1 d z hd2
          omega
        · have em : zminI (nI lo) (nI i) = nI lo := by
            unfold zminI
            rw [if_neg (by rw [nI_ltI (by omega) (by omega)]; have := c1.1; omega)]
          rw [em]
          refine ⟨_, rfl, lo, i, by omega, by omega, rfl, Or.inr ⟨⟨by have := c1.1; omega, c1.2⟩, ⟨by omega, hin⟩, ?_⟩⟩
          rintro d ⟨hd, hd2⟩
          have := c1.1
          by_cases cd : d < i
          · have := c3 d ⟨cd, hd2⟩
            omega
          · omega
      · rw [if_pos (by rw [show (0 : Int32) = nI 0 from rfl, nI_leI (by omega) (by omega)]; omega)]
        have hin : ¬ inL L p L.length i := fun z => c (tal_pos.mpr z)
        refine ⟨_, rfl, lo, h, hlo, hhi, rfl, ?_⟩
        rcases hc with ⟨c1, c2, c3⟩ | ⟨c1, c2, c3⟩
        · refine Or.inl ⟨fun d hd z => ?_, c2, c3⟩
          by_cases cd : d = i
          · exact hin (cd ▸ z)
          · exact c1 d (by omega) z
        · refine Or.inr ⟨⟨by have := c1.1; omega, c1.2⟩, ⟨by have := c2.1; omega, c2.2⟩, ?_⟩
          rintro d ⟨hd, hd2⟩
          by_cases cd : d = i
          · exact absurd (cd ▸ hd2) hin
          · exact c3 d ⟨by omega, hd2⟩
    · rintro a ⟨lo, h, hlo, hhi, rfl, hc⟩
      exact ⟨_, rfl, lo, h, hhi, rfl, hc⟩
  obtain ⟨b, e, lo, h, hhi, rfl, hc⟩ := key
  refine ⟨lo, h, hhi, e, ?_⟩
  have hbd : ∀ d, inL L p L.length d → d < 11 := by
    rintro d ⟨i, hi, rfl⟩
    have := fg_le (p := p) (hb i hi)
    omega
  rcases hc with ⟨c1, _⟩ | ⟨c1, c2, c3⟩
  · exact absurd ⟨0, h0, rfl⟩ (c1 (fg (L.getD 0 0) p) (by have := fg_le (p := p) (hb 0 h0); omega))
  · exact ⟨c1.2, c2.2, fun d hd => c3 d ⟨hbd d hd, hd⟩⟩
theorem mspan {L : List Nat} {v : MX} {k : Nat} (hk : 20000 ≤ k) {p : Nat} (hp : p < 4) (w : Int32) (hlen : L.length ≤ 14641) (hn : ∀ m, m < L.length → nth L m = nI (L.getD m 0) ∧ L.getD m 0 < 14641 ∧ ¬ nth L m = -4) (hfn : ∀ m, m < L.length → fX10_firstFrom k (nth L m + (1 : Int32)) v = some (nth L (m + 1))) : ∃ b, ziter (bX10_span_37 k (nI p) w v) k ((100 : Int32), (-4 : Int32), nth L 0) = some b ∧ ((L.length = 0 ∧ b.2 = -4) ∨ ∃ lo hi, hi ≤ 10 ∧ b = (nI lo, nI hi) ∧ isLH (inL L p L.length) lo hi) := by
  refine ziter_inv (fun i a => a.2.2 = nth L i ∧ ((i = 0 ∧ a.1 = 100 ∧ a.2.1 = -4) ∨ ∃ lo hi, lo ≤ 10 ∧ hi ≤ 10 ∧ a.1 = nI lo ∧ a.2.1 = nI hi ∧ isLH (inL L p i) lo hi)) _ L.length ?_ ?_ L.length 0 k _ (by omega) ⟨rfl, Or.inl ⟨rfl, rfl, rfl⟩⟩ (by omega)
  · rintro i ⟨a1, a2, a3⟩ hi ⟨h1, h2⟩
    left
    dsimp only at h1 h2
    obtain ⟨n1, n2, n3⟩ := hn i hi
    have hf := fg_le (p := p) n2
    have hin : inL L p (i + 1) (fg (L.getD i 0) p) := ⟨i, by omega, rfl⟩
    have hup : ∀ d, inL L p i d → inL L p (i + 1) d := fun d ⟨j, q1, q2⟩ => ⟨j, by omega, q2⟩
    have hdn : ∀ d, inL L p (i + 1) d → d = fg (L.getD i 0) p ∨ inL L p i d := by
      rintro d ⟨j, q1, q2⟩
      by_cases c : j = i
      · subst c
        exact Or.inl q2.symm
      · exact Or.inr ⟨j, by omega, q2⟩
    unfold bX10_span_37
    dsimp only
    rw [h1, if_neg n3, hfn i hi]
    simp only [zbind_s]
    rw [n1, mfalls n2 hp (by omega), zbind_s]
    rcases h2 with ⟨rfl, e1, e2⟩ | ⟨lo, h, hlo, hhi, e1, e2, c1, c2, c3⟩
    · rw [e1, e2, if_neg (by rw [show (100 : Int32) = nI 100 from rfl, nI_leI (by omega) (by omega)]; omega), if_neg (by rw [Int32.le_iff_toInt_le, nI_toInt (by omega), show (-4 : Int32).toInt = -4 from rfl]; omega)]
      refine ⟨_, rfl, rfl, Or.inr ⟨fg (L.getD 0 0) p, fg (L.getD 0 0) p, hf, hf, rfl, rfl, hin, hin, ?_⟩⟩
      intro d hd
      rcases hdn d hd with e | ⟨j, q1, _⟩
      · omega
      · omega
    · rw [e1, e2]
      by_cases d1 : lo ≤ fg (L.getD i 0) p
      · rw [if_pos (by rw [nI_leI (by omega) (by omega)]; exact d1)]
        by_cases d2 : fg (L.getD i 0) p ≤ h
        · rw [if_pos (by rw [nI_leI (by omega) (by omega)]; exact d2)]
          refine ⟨_, rfl, rfl, Or.inr ⟨lo, h, hlo, hhi, rfl, rfl, hup _ c1, hup _ c2, ?_⟩⟩
          intro d hd
          rcases hdn d hd with e | e
          · omega
          · exact c3 d e
        · rw [if_neg (by rw [nI_leI (by omega) (by omega)]; exact d2)]
          refine ⟨_, rfl, rfl, Or.inr ⟨lo, fg (L.getD i 0) p, hlo, hf, rfl, rfl, hup _ c1, hin, ?_⟩⟩
          intro d hd
          rcases hdn d hd with e | e
          · omega
          · have := c3 d e
            omega
      · rw [if_neg (by rw [nI_leI (by omega) (by omega)]; exact d1)]
        by_cases d2 : fg (L.getD i 0) p ≤ h
        · rw [if_pos (by rw [nI_leI (by omega) (by omega)]; exact d2)]
          refine ⟨_, rfl, rfl, Or.inr ⟨fg (L.getD i 0) p, h, hf, hhi, rfl, rfl, hin, hup _ c2, ?_⟩⟩
          intro d hd
          rcases hdn d hd with e | e
          · omega
          · have := c3 d e
            omega
        · rw [if_neg (by rw [nI_leI (by omega) (by omega)]; exact d2)]
          refine ⟨_, rfl, rfl, Or.inr ⟨fg (L.getD i 0) p, fg (L.getD i 0) p, hf, hf, rfl, rfl, hin, hin, ?_⟩⟩
          intro d hd
          rcases hdn d hd with e | e
          · omega
          · have := c3 d e
            omega
  · rintro ⟨a1, a2, a3⟩ ⟨h1, h2⟩
    dsimp only at h1 h2
    refine ⟨(a1, a2), ?_, ?_⟩
    · unfold bX10_span_37
      dsimp only
      rw [h1, if_pos nth_out]
    · rcases h2 with ⟨h0, e1, e2⟩ | ⟨lo, h, hlo, hhi, e1, e2, c⟩
      · exact Or.inl ⟨h0, e2⟩
      · exact Or.inr ⟨lo, h, hhi, by rw [e1, e2], c⟩
theorem s_span {u : CX} {v : MX} (h : Rel u v) {k : Nat} (hk : 20000 ≤ k) (a c : Int32) : ∃ r u' v', fX9_span k a c u = some (r, u') ∧ fX10_span k a c v = some (r, v') ∧ Rel u' v' := by
  have h0 := h
  obtain ⟨P, n, T, W, S, F, h⟩ := h
  obtain ⟨u', v', L, _, x1, e1, hR, hL, hlen, hn, hf0, hfn, hla⟩ := two_fit h hk
  have hR' : Rel u' v' := ⟨_, _, _, _, _, _, hR⟩
  unfold fX9_span fX10_span
  rw [xpIf, mpIf, xsIf, inIf, Int32.toInt_toInt64, show (0 : Int64).toInt = 0 from rfl, show (1 : Int64).toInt = 1 from rfl]
  split
  · rename_i hc
    by_cases hd : 0 ≤ c.toInt ∧ c.toInt < 2
    · rw [if_pos hd, if_pos (by omega)]
      obtain ⟨p, hp, rfl⟩ := zn_of (a := a) (n := 4) (by omega) (by omega)
      rw [x1, zbind_s, e1, zbind_s, hf0, zbind_s]
      dsimp only
      obtain ⟨b, m1, m2⟩ := mspan hk hp c hlen hn hfn
      rw [m1, zbind_s]
      by_cases c0 : L.length = 0
      · rw [c0, if_pos (show nI 0 = 0 from rfl)]
        rcases m2 with ⟨_, e⟩ | ⟨lo, hi, _, _, ⟨i, hi', _⟩, _⟩
        · rw [if_pos e]
          exact ⟨_, _, _, rfl, rfl, hR'⟩
        · omega
      · rw [if_neg (by rw [show (0 : Int32) = nI 0 from rfl, nI_eq (by omega) (by omega)]; exact c0)]
        obtain ⟨lo, hi, hhi, y1, y2⟩ := xspan (u := u') c (fun d hd => xwith_f hL hp hd) hlen (fun m hm => (hn m hm).2.1) (by omega) hk
        rw [y1, zbind_s]
        dsimp only
        rcases m2 with ⟨e, _⟩ | ⟨lo', hi', hhi', rfl, z⟩
        · exact absurd e c0
        · obtain ⟨rfl, rfl⟩ := isLH_u y2 z
          dsimp only
          rw [if_neg (nI_ne_neg (by omega) (by decide))]
          split <;> exact ⟨_, _, _, rfl, rfl, hR'⟩
    · rw [if_neg hd, if_neg (by omega)]
      exact ⟨_, _, _, rfl, rfl, h0⟩
  · exact ⟨_, _, _, rfl, rfl, h0⟩
