def rRun (σ : MM) (g : Int → Int) (ρ : Int → Int → Int) (i : Int) : Prop := sRR σ g ρ i 0 ∧ sRX σ g ρ 0 0 0 ∧ (∀ i', 0 ≤ i' → i' < i → σ 66 i' = ρ 4 i')
theorem X6_chosen_L48_eq {σ : MM} {ρ : Int → Int → Int} {k : Int → Option Int} (hP : 1 ≤ σ 59 4 ∧ σ 59 4 ≤ 6) (hC : ∀ p, 0 ≤ p → p < 6 → σ 67 p = ρ 0 p) : ∀ (n : Nat) (x2 x3 : Int), 0 ≤ x2 → x2 < x3 → x3 ≤ σ 59 4 → σ 59 4 - x3 < n → X6_chosen_L48 σ k n x2 x3 = k (fdI (fun k a => if ρ 0 k < ρ 0 a then k else a) x3 (σ 59 4) x2) := by
  intro n
  induction n with
  | zero => intro x2 x3 h1 h2 h3 h4; omega
  | succ n ih =>
    intro x2 x3 h1 h2 h3 h4
    rw [X6_chosen_L48]
    by_cases c : x3 < σ 59 4
    · rw [if_pos c, gd_t (by omega), gd_t (by omega), hC _ (by omega) (by omega), hC _ h1 (by omega), fdI_lt c]
      by_cases c2 : ρ 0 x3 < ρ 0 x2
      · rw [if_pos c2, if_pos c2]
        exact ih _ _ (by omega) (by omega) (by omega) (by omega)
      · rw [if_neg c2, if_neg c2]
        exact ih _ _ (by omega) (by omega) (by omega) (by omega)
    · rw [if_neg c, fdI_ge (by omega)]
theorem X6_chosen_eq {σ : MM} {g : Int → Int} {ρ : Int → Int → Int} {i : Int} (hg : σ 59 = g) (hI : sInv0 g) (hi : 0 ≤ i ∧ i < g 2) (hC : ∀ p, 0 ≤ p → p < 6 → σ 67 p = ρ 0 p) : X6_chosen i σ = some (sProc g (g 4) i ρ) := by
  subst hg
  have h2 := hI.1.2.2.1
  have hP := hI.1.2.2.2.2.1
  have h5 := hI.1.2.2.2.2.2
  have hm1 : 0 ≤ i * σ 59 4 := Int.mul_nonneg hi.1 (by omega)
  have hm2 : i * σ 59 4 ≤ 40 * 6 := Int.mul_le_mul (by omega) hP.2 (by omega) (by omega)
  unfold X6_chosen sProc
  by_cases c : σ 59 5 = 0
  · rw [if_pos c, if_pos c, gd_t (by omega)]
  · rw [if_neg c, if_neg c]
    by_cases c2 : σ 59 5 = 1
    · rw [if_pos c2, if_pos c2, gd_t (by omega), gd_t (by omega)]
    · rw [if_neg c2, if_neg c2, X6_chosen_L48_eq hP hC 100000 0 1 (by omega) (by omega) (by omega) (by omega)]
      rfl
theorem sBd_proc {g : Int → Int} {ρ : Int → Int → Int} {i t B j v : Int} (hB : sBd g ρ i t B) : sBd g (rup ρ 4 j v) i t B := by
  refine ⟨fun p h1 h2 => ?_, fun s i' h1 h2 h3 h4 => ?_⟩
  · rw [rup_n (Or.inl (by omega)), rup_n (Or.inl (by omega)), rup_n (Or.inl (by omega)), rup_n (Or.inl (by omega))]
    exact hB.1 p h1 h2
  · rw [rup_n (Or.inl (by omega))]
    exact hB.2 s i' h1 h2 h3 h4
theorem X6_runs_L51_eq {g : Int → Int} {k : MM → Option (Int × MM)} (hI : sInv0 g) : ∀ (n : Nat) (i : Int) (σ : MM) (ρ : Int → Int → Int), σ 59 = g → rRun σ g ρ i → sBd g ρ i 0 (184 * i) → 0 ≤ i → i ≤ g 2 → g 2 - i < n →
    ∃ σ' : MM, X6_runs_L51 k n i σ = k σ' ∧ frR σ σ' ∧ rRun σ' g (fdI (sIter g (g 4)) i (g 2) ρ) (g 2) ∧ sBd g (fdI (sIter g (g 4)) i (g 2) ρ) (g 2) 0 (184 * g 2) := by
  have h00 := hI.1.2.2.1
  have h0 := hI.1.1
  have hP := hI.1.2.2.2.2.1
  intro n
  induction n with
  | zero => intro i σ ρ hg hC hB h1 h2 h3; omega
  | succ n ih =>
    intro i σ ρ hg hC hB h1 h2 h3
    rw [X6_runs_L51, hg]
    by_cases c : i < g 2
    · have hp := sProc_b (ρ := ρ) (P := g 4) hP.1 h1 c
      have hcnt := hB.1 _ hp.1 (show sProc g (g 4) i ρ < 6 by omega)
      have hxp := hC.2.1 _ hp.1 (show sProc g (g 4) i ρ < 6 by omega)
      obtain ⟨w1, w2, w3, w4, w5⟩ := sIter_inv hI hB ⟨h1, c⟩ (P := g 4) hP (by omega) (fun q h1 h2 => (hB.1 q h1 h2).1)
      rw [if_pos c, X6_chosen_eq hg hI ⟨h1, c⟩ (fun p h4 h5 => (hC.1.1 p h4 h5).1), Option.bind_some, gd_t (by omega), fdI_lt c, mlet_eq, gd_t (by omega)]
      rw [show zup σ 66 i (sProc g (g 4) i ρ) 69 (sProc g (g 4) i ρ) = ρ 1 (sProc g (g 4) i ρ) by rw [zup_k (by decide), hxp.2.1, if_neg (fun z => by omega)], gd_t (by omega), mlet_eq]
      generalize hpe : sProc g (g 4) i ρ = p at *
      have hσ1 : zup (zup σ 66 i p) 69 p (ρ 1 p + 1) 59 = g := by rw [zup_ne (by decide), zup_ne (by decide)]; exact hg
      have fr0 : frR σ (zup (zup σ 66 i p) 69 p (ρ 1 p + 1)) := (frR.up (by decide)).tr (frR.up (by decide))
      have hRR : sRR (zup (zup σ 66 i p) 69 p (ρ 1 p + 1)) g (rup ρ 4 i p) i 0 := by
        refine ⟨fun q q1 q2 => ?_, fun s i' q1 q2 q3 q4 => ?_⟩
        · rw [zup_k (by decide), zup_k (by decide), zup_k (by decide), zup_k (by decide), rup_n (Or.inl (by omega)), rup_n (Or.inl (by omega))]
          exact hC.1.1 q q1 q2
        · rw [zup_k (by decide), zup_k (by decide), rup_n (Or.inl (by omega))]
          exact hC.1.2 s i' q1 q2 q3 q4
      have hRX : sRX (zup (zup σ 66 i p) 69 p (ρ 1 p + 1)) g (rup ρ 4 i p) p 1 0 := by
        intro q q1 q2
        have hq := hC.2.1 q q1 q2
        rw [zup_k (by decide), zup_k (by decide), zup_k (k' := 68) (by decide), zup_k (k' := 68) (by decide), rup_n (Or.inl (by omega)), rup_n (Or.inl (by omega)), rup_n (Or.inl (by omega)), rup_n (Or.inl (by omega))]
        refine ⟨hq.1, ?_, ?_⟩
        · by_cases e : q = p
          · rw [e, zup_s, if_pos ⟨rfl, rfl⟩]
          · rw [zup_i e, zup_k (by decide), hq.2.1, if_neg (fun z => by omega), if_neg (fun z => e z.1)]
        · rw [hq.2.2]
          by_cases e : 0 < g 0 ∧ 0 < ρ 1 q
          · rw [if_pos ⟨e.1, Or.inl e.2⟩, if_pos ⟨e.1, Or.inl e.2⟩]
          · rw [if_neg (by omega), if_neg (by omega)]
      obtain ⟨σ2, q1, q2, q3, q4, q5, q6⟩ := X6_runs_L86_eq (k := fun σ45 => X6_runs_L51 k n (i + 1) σ45) hI (by omega) (p := p) (by omega) 100000 0 (184 * i) _ _ hσ1 hRR (sBd_proc hB) hRX (by omega) (by omega) (by omega) (by omega) (fun z => by omega)
      rw [q1]
      change sRR σ2 g (sStmts g i p (rup ρ 4 i p)) i (g 0) at q4
      change sRX σ2 g (sStmts g i p (rup ρ 4 i p)) p 1 (g 0) at q6
      have sr : ∀ (r q : Int), (r ≠ 1 ∨ q ≠ p) → sIter g (g 4) i ρ r q = sStmts g i p (rup ρ 4 i p) r q := by
        intro r q h
        have := sIter_rows (g := g) (ρ := ρ) (P := g 4) (i := i) r q (by rw [hpe]; exact h)
        rw [hpe] at this
        exact this
      have s1p : sIter g (g 4) i ρ 1 p = sStmts g i p (rup ρ 4 i p) 1 p + 1 := by
        unfold sIter
        rw [hpe, rup_s]
      have hB2 := w1.1 p (by omega) (by omega)
      have st1 : ∀ q, sStmts g i p (rup ρ 4 i p) 1 q = ρ 1 q := by
        intro q
        by_cases e : q = p
        · have := w3 p
          rw [if_pos rfl, s1p] at this
          rw [e]; omega
        · have := w3 q
          rw [if_neg e, sr 1 q (Or.inr e)] at this
          exact this
      have hC2 : rRun σ2 g (sIter g (g 4) i ρ) (i + 1) := by
        refine ⟨⟨fun q u1 u2 => ?_, fun s i' u1 u2 u3 u4 => ?_⟩, fun q u1 u2 => ?_, fun i' u1 u2 => ?_⟩
        · rw [sr 0 q (Or.inl (by omega)), sr 3 q (Or.inl (by omega))]
          exact q4.1 q u1 u2
        · rw [sr (10 + s) i' (Or.inl (by omega))]
          exact q4.2 s i' u1 u2 u3 ((sDone_next hI u1 u2).mp u4)
        · have hq := q6 q u1 u2
          rw [sr 0 q (Or.inl (by omega)), sr 3 q (Or.inl (by omega)), sr 2 q (Or.inl (by omega)), w3]
          have hb := hB.1 q u1 u2
          refine ⟨hq.1, ?_, ?_⟩
          · rw [hq.2.1, st1]
            by_cases e : q = p
            · rw [if_pos ⟨e, rfl⟩, if_neg (by omega), if_pos e]
            · rw [if_neg (fun z => e z.1), if_neg (by omega), if_neg e]
          · rw [hq.2.2, st1]
            by_cases e : q = p
            · rw [if_pos e]
              by_cases e2 : 0 < g 0
              · rw [if_pos ⟨e2, Or.inr ⟨e, rfl, e2⟩⟩, if_pos ⟨e2, Or.inl (by omega)⟩]
              · rw [if_neg (fun z => e2 z.1), if_neg (fun z => e2 z.1)]
            · rw [if_neg e]
              by_cases e2 : 0 < g 0 ∧ 0 < ρ 1 q
              · rw [if_pos ⟨e2.1, Or.inl e2.2⟩, if_pos ⟨e2.1, Or.inl e2.2⟩]
              · rw [if_neg (by omega), if_neg (by omega)]
        · rw [q3, w4, zup_ne (by decide)]
          by_cases e : i' = i
          · rw [if_pos e, e, zup_s]
          · rw [if_neg e, zup_i e]
            exact hC.2.2 i' u1 (by omega)
      obtain ⟨σ3, r1, r2, r3, r4⟩ := ih (i + 1) σ2 (sIter g (g 4) i ρ) (by rw [q2.g]; exact hσ1) hC2 (by rw [show 184 * (i + 1) = 184 * i + 184 by omega]; exact w1) (by omega) (by omega) (by omega)
      exact ⟨σ3, r1, (fr0.tr q2).tr r2, r3, r4⟩
    · have e : i = g 2 := by omega
      rw [if_neg c, fdI_ge (by omega), ← e]
      exact ⟨σ, rfl, frR.rf, hC, hB⟩
theorem X6_runs_L2_eq {k : MM → Option (Int × MM)} : ∀ (n : Nat) (x : Int) (σ : MM), 0 ≤ x → x ≤ 6 → 6 - x < n → (∀ p, 0 ≤ p → p < x → σ 67 p = 0 ∧ σ 68 p = -1 ∧ σ 69 p = 0 ∧ σ 70 p = 0 ∧ σ 71 p = 0) →
    ∃ σ' : MM, X6_runs_L2 k n x σ = k σ' ∧ frR σ σ' ∧ (∀ p, 0 ≤ p → p < 6 → σ' 67 p = 0 ∧ σ' 68 p = -1 ∧ σ' 69 p = 0 ∧ σ' 70 p = 0 ∧ σ' 71 p = 0) := by
  intro n
  induction n with
  | zero => intro x σ h1 h2 h3; omega
  | succ n ih =>
    intro x σ h1 h2 h3 h4
    rw [X6_runs_L2]
    by_cases c : x < 6
    · rw [if_pos c, gd_t (by omega), mlet_eq, mlet_eq, mlet_eq, mlet_eq, mlet_eq]
      obtain ⟨σ', q1, q2, q4⟩ := ih (x + 1) (zup (zup (zup (zup (zup σ 67 x 0) 68 x (-1)) 69 x 0) 70 x 0) 71 x 0) (by omega) (by omega) (by omega) (fun p h5 h6 => by
        by_cases e : p = x
        · subst e
          simp [zup]
        · have := h4 p h5 (by omega)
          simp [zup, e, this])
      refine ⟨σ', q1, fun j hj => ?_, q4⟩
      rw [q2 j hj, zup_ne (by omega), zup_ne (by omega), zup_ne (by omega), zup_ne (by omega), zup_ne (by omega)]
    · rw [if_neg c]
      exact ⟨σ, rfl, frR.rf, fun p h5 h6 => h4 p h5 (by omega)⟩
theorem X6_runs_L168_eq {σ : MM} {ρ : Int → Int → Int} {k : Int → MM → Option (Int × MM)} (hC : ∀ p, 0 ≤ p → p < 6 → σ 67 p = ρ 0 p) : ∀ (n : Nat) (x1 x2 : Int), 0 ≤ x2 → x2 ≤ 6 → 6 - x2 < n → X6_runs_L168 k n x1 x2 σ = k (fdI (fun p a => max a (ρ 0 p)) x2 6 x1) σ := by
  intro n
  induction n with
  | zero => intro x1 x2 h1 h2 h3; omega
  | succ n ih =>
    intro x1 x2 h1 h2 h3
    rw [X6_runs_L168]
    by_cases c : x2 < 6
    · rw [if_pos c, gd_t (by omega), hC x2 h1 c, fdI_lt c]
      by_cases c2 : x1 < ρ 0 x2
      · rw [if_pos c2, show max x1 (ρ 0 x2) = ρ 0 x2 by omega]
        exact ih _ _ (by omega) (by omega) (by omega)
      · rw [if_neg c2, show max x1 (ρ 0 x2) = x1 by omega]
        exact ih _ _ (by omega) (by omega) (by omega)
    · rw [if_neg c, fdI_ge (by omega)]
theorem X6_runs_eq {σ : MM} {g : Int → Int} (hg : σ 59 = g) (hI : sInv0 g) :
    ∃ σ' : MM, X6_runs σ = some (sLen (sRun g (g 4)), σ') ∧ frR σ σ' ∧ rRun σ' g (sRun g (g 4)) (g 2) ∧ sBd g (sRun g (g 4)) (g 2) 0 (184 * g 2) := by
  have h00 := hI.1.2.2.1
  have key : ∀ N1 N2 N3 : Nat, 7 ≤ N1 → 41 ≤ N2 → 7 ≤ N3 → ∃ σ' : MM, X6_runs_L2 (fun σ13 => X6_runs_L51 (fun σ46 => X6_runs_L168 (fun z52 σ53 => some (z52, σ53)) N3 0 0 σ46) N2 0 σ13) N1 0 σ = some (sLen (sRun g (g 4)), σ') ∧ frR σ σ' ∧ rRun σ' g (sRun g (g 4)) (g 2) ∧ sBd g (sRun g (g 4)) (g 2) 0 (184 * g 2) := by
    intro N1 N2 N3 hN1 hN2 hN3
    obtain ⟨σ1, q1, q2, q4⟩ := X6_runs_L2_eq (k := fun σ13 => X6_runs_L51 (fun σ46 => X6_runs_L168 (fun z52 σ53 => some (z52, σ53)) N3 0 0 σ46) N2 0 σ13) N1 0 σ (by omega) (by omega) (by omega) (fun p h1 h2 => by omega)
    have hg1 : σ1 59 = g := by rw [q2.g]; exact hg
    have hc : rRun σ1 g (fun _ _ => 0) 0 := by
      refine ⟨⟨fun p h1 h2 => ⟨(q4 p h1 h2).1, (q4 p h1 h2).2.2.2.2⟩, fun s i' h1 h2 h3 h4 => ?_⟩, fun q h1 h2 => ?_, fun i' h1 h2 => by omega⟩
      · rcases h4 with h4 | ⟨h4, h5⟩
        · omega
        · have := (plc_spec hI h1 h2).1; omega
      · obtain ⟨u1, u2, u3, u4, u5⟩ := q4 q h1 h2
        refine ⟨by rw [u4]; rfl, by rw [u3]; simp, by rw [u2]; simp⟩
    obtain ⟨σ2, r1, r2, r3, r4⟩ := X6_runs_L51_eq (k := fun σ46 => X6_runs_L168 (fun z52 σ53 => some (z52, σ53)) N3 0 0 σ46) hI N2 0 σ1 (fun _ _ => 0) hg1 hc (by rw [show (184 : Int) * 0 = 0 by omega]; exact sBd0 hI) (by omega) (by omega) (by omega)
    refine ⟨σ2, ?_, q2.tr r2, r3, r4⟩
    rw [q1]
    refine Eq.trans r1 ?_
    refine Eq.trans (X6_runs_L168_eq (fun p h1 h2 => (r3.1.1 p h1 h2).1) N3 0 0 (by omega) (by omega) (by omega)) ?_
    rfl
  unfold X6_runs
  exact key 100000 100000 100000 (by omega) (by omega) (by omega)
