/-! speed-up: both sides' divisor -/
def eu : Nat → Int → Int → Int
  | 0, a, _ => a
  | n + 1, a, b => if b = 0 then a else eu n b (a % b)
theorem eu_0 {m : Nat} {a : Int} : eu m a 0 = a := by
  cases m with
  | zero => rfl
  | succ m => rw [eu, if_pos rfl]
theorem eu_pos : ∀ (m : Nat) (a b : Int), 1 ≤ a → 0 ≤ b → 1 ≤ eu m a b := by
  intro m
  induction m with
  | zero => intro a b h1 h2; exact h1
  | succ m ih =>
    intro a b h1 h2
    rw [eu]
    by_cases c : b = 0
    · rw [if_pos c]; exact h1
    · rw [if_neg c]
      exact ih _ _ (by omega) (Int.emod_nonneg _ c)
theorem half {b r : Int} (h0 : 0 < r) (h1 : r < b) : 0 ≤ b % r ∧ 2 * (b % r) < b := by
  have h2 := Int.emod_nonneg b (show r ≠ 0 by omega)
  have h3 := Int.emod_lt_of_pos b h0
  have h4 := Int.emod_add_mul_ediv b r
  have h5 : 1 ≤ b / r := (Int.le_ediv_iff_mul_le h0).mpr (by omega)
  have h6 : r * 1 ≤ r * (b / r) := Int.mul_le_mul_of_nonneg_left h5 (by omega)
  omega
theorem X6_common_L4_eq {σ : MM} {kk : Int → Option Int} : ∀ (k : Nat) (a b : Int) (n m : Nat), 0 ≤ a → 0 ≤ b → b < 2 ^ k → 2 * k + 1 ≤ n → 2 * k ≤ m → X6_common_L4 σ kk n a b = kk (eu m a b) := by
  intro k
  induction k with
  | zero =>
    intro a b n m h1 h2 h3 h4 h5
    have : b = 0 := by simp at h3; omega
    subst this
    obtain ⟨n, rfl⟩ : ∃ n', n = n' + 1 := ⟨n - 1, by omega⟩
    rw [eu_0, X6_common_L4, if_pos rfl]
  | succ k ih =>
    intro a b n m h1 h2 h3 h4 h5
    obtain ⟨n, rfl⟩ : ∃ n', n = n' + 1 + 1 := ⟨n - 2, by omega⟩
    obtain ⟨m, rfl⟩ : ∃ m', m = m' + 1 + 1 := ⟨m - 2, by omega⟩
    rw [X6_common_L4]
    by_cases c : b = 0
    · rw [if_pos c, c, eu_0]
    · have hr := Int.emod_nonneg a c
      have hr2 := Int.emod_lt_of_pos a (show 0 < b by omega)
      rw [if_neg c, gd_t (by omega), eu, if_neg c, X6_common_L4]
      by_cases c2 : a % b = 0
      · rw [if_pos c2, c2, eu_0]
      · obtain ⟨h6, h7⟩ := half (b := b) (r := a % b) (by omega) hr2
        rw [if_neg c2, gd_t (by omega), eu, if_neg c2]
        have hp : (2 : Int) ^ (k + 1) = 2 * 2 ^ k := by rw [Int.pow_succ]; omega
        exact ih _ _ n m hr h6 (by omega) (by omega) (by omega)
theorem X5_greatestDivisor_L7_eq {σ : MM} {kk : Int → Option Int} : ∀ (m n : Nat) (a b x : Int), 0 ≤ a → 0 ≤ b → 0 ≤ x → 47 - x = m → m < n → X5_greatestDivisor_L7 σ kk n a b x = kk (eu m a b) := by
  intro m
  induction m with
  | zero =>
    intro n a b x h1 h2 h3 h4 h5
    obtain ⟨n, rfl⟩ : ∃ n', n = n' + 1 := ⟨n - 1, by omega⟩
    rw [X5_greatestDivisor_L7, if_neg (by omega)]
    rfl
  | succ m ih =>
    intro n a b x h1 h2 h3 h4 h5
    obtain ⟨n, rfl⟩ : ∃ n', n = n' + 1 := ⟨n - 1, by omega⟩
    rw [X5_greatestDivisor_L7, if_pos (by omega), eu]
    by_cases c : b = 0
    · rw [if_pos c, if_pos c]
    · rw [if_neg c, if_neg c, gd_t (by omega)]
      exact ih n b (a % b) (x + 1) h2 (Int.emod_nonneg _ c) (by omega) (by omega) (by omega)
theorem op_speedUp {σ : MM} (h : ST σ) (a1 : Int) : OpX (X5_speedUp a1 σ) (X6_speedUp a1) kA2 := by
  have hI := h.1.1
  have hn := hI.1.1
  have hT := hI.1.2.2.1
  have hP := hI.1.2.2.2.2.1
  by_cases ca : a1 = 0 ∨ a1 = 1
  · have hcl : X5_speedUp a1 σ = X5_speedUp_J20 a1 σ := by
      unfold X5_speedUp
      rcases ca with rfl | rfl
      · rw [if_pos rfl]
      · rw [if_neg (by decide), if_pos rfl]
    by_cases c0 : σ 59 0 = 0
    · refine opX_bad (xo := 2) h ?_ (by decide) (fun σ' h' hg => ?_)
      · rw [hcl]
        unfold X5_speedUp_J20
        rw [if_pos (by rw [h.2.1.1]; exact c0)]
      · unfold X6_speedUp
        rw [mlet_eq, X6_in_eq, if_pos (by omega), Option.bind_some, if_neg (by decide), zup59, hg, if_pos c0, X6_fails_eq]
        rfl
    · obtain ⟨σ1, q1, q2, q3, q4⟩ := X5_simulate_eq h
      have hs := sSum_b hI hn.1 (Int.le_refl _)
      have hl := sLen_b (ρ := sRun (σ 59) (σ 59 4)) (B := 184 * σ 59 2) (fun p a b => ⟨(q4.1 p a b).1, (q4.1 p a b).2.1⟩)
      have hs1 : 1 ≤ sSum (σ 59) ∧ sSum (σ 59) ≤ 72 := by
        have e : sSum (σ 59) = fdI (fun s a => a + sCost (σ 59) s) 0 (σ 59 0) 0 := rfl
        omega
      have hw1 : 1 * 1 ≤ sSum (σ 59) * σ 59 2 := Int.mul_le_mul hs1.1 hT.1 (by decide) (by omega)
      have hw2 : sSum (σ 59) * σ 59 2 ≤ 72 * 40 := Int.mul_le_mul hs1.2 hT.2 (by omega) (by decide)
      generalize hW : sSum (σ 59) * σ 59 2 = W at *
      generalize hL : sLen (sRun (σ 59) (σ 59 4)) = L at *
      have he := eu_pos 47 W L (by omega) hl.1
      have hc2 : X6_common W L = fun σ2 => some (eu 47 W L) := by
        funext σ2
        unfold X6_common
        exact X6_common_L4_eq 13 W L 100000 47 (by omega) hl.1 (by have e2 : (2 : Int) ^ 13 = 8192 := by decide
                                                                   omega) (by omega) (by omega)
      refine opX_ok (r := if a1 = 0 then W / eu 47 W L else L / eu 47 W L) rfl h ⟨σ1, ?_, SE.frC q2⟩ (fun σ' h' hg _ => ?_)
      · rw [hcl]
        unfold X5_speedUp_J20 X5_greatestDivisor
        rw [if_neg (by rw [h.2.1.1]; exact c0), q1, Option.bind_some, X0_sumOfCosts_eq hI (q2.rl (by decide) h.2.1), Option.bind_some, q2 11 (by decide), show σ 11 0 = σ 59 2 from h.2.1.2.2.1.1, hW, gd_t (by omega), q3.2.1, hL, X5_greatestDivisor_L7_eq 47 100000 W L 0 (by omega) hl.1 (by omega) (by omega) (by omega), Option.bind_some, if_neg (by omega)]
        by_cases c1 : a1 = 0
        · rw [if_pos c1, if_pos c1, gd_t (by omega)]
        · rw [if_neg c1, if_neg c1, gd_t (by omega)]
      · obtain ⟨σ2, u1, u2, u3, u4, u5⟩ := X6_runs_st hg hI
        refine ⟨σ2, ?_, u2, u3⟩
        unfold X6_speedUp
        rw [mlet_eq, X6_in_eq, if_pos (by omega), Option.bind_some, if_neg (by decide), zup59, hg, if_neg c0, X6_allCosts_eq (by rw [zup59, hg]; exact hI), Option.bind_some, u1, Option.bind_some, zup59, hg]
        simp only [hW, hL, hc2, Option.bind_some]
        by_cases c1 : a1 = 0
        · rw [if_pos c1, if_pos c1, gd_t (by omega), gd_t (by omega)]
        · rw [if_neg c1, if_neg c1, gd_t (by omega), gd_t (by omega)]
  · refine opX_bad (xo := 1) h ?_ (by decide) (fun σ' h' hg => ?_)
    · unfold X5_speedUp
      rw [if_neg (fun q => ca (Or.inl q)), if_neg (fun q => ca (Or.inr q))]
    · unfold X6_speedUp
      rw [mlet_eq, X6_in_eq, if_neg (by omega), Option.bind_some, if_pos rfl, X6_fails_eq]
      rfl
/-! violated -/
def sVioN (g : Int → Int) (ρ : Int → Int → Int) (d w : Int) : Nat → Int → Int
  | 0, _ => 0
  | n + 1, i => if i + sFar g d < g 2 then (if ρ (10 + sTgt g d) (i + sFar g d) < ρ (10 + sSrc g d) i + w then 1 else sVioN g ρ d w n (i + 1)) else 0
def sVioW (g : Int → Int) (d : Int) : Int := if sFar g d = 0 then sBare g d else sLag g d
def sVio (g : Int → Int) (ρ : Int → Int → Int) (d : Int) : Bool := decide (¬ sVioN g ρ d (sVioW g d) 41 0 = 0)
theorem X3_violates_L59_eq {σ : MM} {g : Int → Int} {ρ : Int → Int → Int} {d w B : Int} (hI : sInv0 g) (hR : sRL σ 1 g) (hd : 0 ≤ d ∧ d < g 1) (hC : sRC σ g ρ (g 2) 0) (hB : sBd g ρ (g 2) 0 B) (hB2 : B ≤ 1000000) (hw : 0 ≤ w ∧ w ≤ 100) : ∀ (n m : Nat) (i : Int), 0 ≤ i → i ≤ g 2 → g 2 - i < n → g 2 - i < m → X3_violates_L59 1 (sSrc g d) (sTgt g d) (sFar g d) w σ (some 0) n i = some (sVioN g ρ d w m i) := by
  have hT := hI.1.2.2.1
  have hn := hI.1.1
  obtain ⟨-, hs, ht, hf, -⟩ := hI.2.2.2.2.2 d hd.1 hd.2
  intro n
  induction n with
  | zero => intro m i h1 h2 h3; omega
  | succ n ih =>
    intro m i h1 h2 h3 h4
    obtain ⟨m, rfl⟩ : ∃ m', m = m' + 1 := ⟨m - 1, by omega⟩
    rw [X3_violates_L59, sVioN, gd_t (by omega), show σ (1 + 10) 0 = g 2 from hR.2.2.1.1]
    by_cases c : i + sFar g d < g 2
    · have b1 := hB.2 (sSrc g d) i hs.1 hs.2 h1 (Or.inl (by omega))
      rw [if_pos c, if_pos c, X3_startOf_at (by omega) (by omega), Option.bind_some, X3_startOf_at (by omega) (by omega), Option.bind_some, hC.2 (sTgt g d) (i + sFar g d) ht.1 ht.2 (by omega) (Or.inl c), hC.2 (sSrc g d) i hs.1 hs.2 h1 (Or.inl (by omega)), gd_t (by omega)]
      by_cases c2 : ρ (10 + sTgt g d) (i + sFar g d) < ρ (10 + sSrc g d) i + w
      · rw [if_pos c2, if_pos c2]
      · rw [if_neg c2, if_neg c2, gd_t (by omega)]
        exact ih m (i + 1) (by omega) (by omega) (by omega) (by omega)
    · rw [if_neg c, if_neg c]
theorem X6_isViolated_L24_eq {σ : MM} {g : Int → Int} {ρ : Int → Int → Int} {d w B : Int} (hg : σ 59 = g) (hI : sInv0 g) (hd : 0 ≤ d ∧ d < g 1) (hC : sRR σ g ρ (g 2) 0) (hB : sBd g ρ (g 2) 0 B) (hB2 : B ≤ 1000000) (hw : 0 ≤ w ∧ w ≤ 100) : ∀ (n m : Nat) (i : Int), 0 ≤ i → i ≤ g 2 → g 2 - i < n → g 2 - i < m → X6_isViolated_L24 d w σ (some 0) n i = some (sVioN g ρ d w m i) := by
  have hT := hI.1.2.2.1
  have hn := hI.1.1
  have hm := hI.1.2.1
  obtain ⟨-, hs, ht, hf, -⟩ := hI.2.2.2.2.2 d hd.1 hd.2
  intro n
  induction n with
  | zero => intro m i h1 h2 h3; omega
  | succ n ih =>
    intro m i h1 h2 h3 h4
    obtain ⟨m, rfl⟩ : ∃ m', m = m' + 1 := ⟨m - 1, by omega⟩
    rw [X6_isViolated_L24, sVioN, X6_far_eq (by omega), hg, Option.bind_some, gd_t (by omega)]
    by_cases c : i + sFar g d < g 2
    · have b1 := hB.2 (sSrc g d) i hs.1 hs.2 h1 (Or.inl (by omega))
      rw [if_pos c, if_pos c, X6_target_eq (by omega), X6_source_eq (by omega), hg, Option.bind_some, Option.bind_some, gd_t (by omega), Option.bind_some, gd_t (by omega), show 40 * sTgt g d + i + sFar g d = 40 * sTgt g d + (i + sFar g d) by omega, hC.2 (sTgt g d) (i + sFar g d) ht.1 ht.2 (by omega) (Or.inl c), hC.2 (sSrc g d) i hs.1 hs.2 h1 (Or.inl (by omega)), gd_t (by omega)]
      by_cases c2 : ρ (10 + sTgt g d) (i + sFar g d) < ρ (10 + sSrc g d) i + w
      · rw [if_pos c2, if_pos c2]
      · rw [if_neg c2, if_neg c2, gd_t (by omega)]
        exact ih m (i + 1) (by omega) (by omega) (by omega) (by omega)
    · rw [if_neg c, if_neg c]
theorem sVioW_b {g : Int → Int} (hI : sInv0 g) {d : Int} (h1 : 0 ≤ d) (h2 : d < g 1) : 0 ≤ sVioW g d ∧ sVioW g d ≤ 100 := by
  have h3 := sBare_b hI h1 h2
  have h4 := sLag_b hI h1 h2
  unfold sVioW
  split <;> omega
theorem X3_violates_eq {σ : MM} {g : Int → Int} {ρ : Int → Int → Int} {d B : Int} (hI : sInv0 g) (hR : sRL σ 1 g) (hd : 0 ≤ d ∧ d < g 1) (hC : sRC σ g ρ (g 2) 0) (hB : sBd g ρ (g 2) 0 B) (hB2 : B ≤ 1000000) : X3_violates 1 d σ = some (sVioN g ρ d (sVioW g d) 41 0) := by
  have hT := hI.1.2.2.1
  have hm := hI.1.2.1
  have hlat := hI.1.2.2.2.1
  have hw := sVioW_b hI hd.1 hd.2
  have hl := sLag_b hI hd.1 hd.2
  obtain ⟨-, e6, e7, e8, -⟩ := hR.2.2.2.2 d hd.1 hd.2
  have key : ∀ v, v = sVioW g d → X3_violates_L59 1 (sSrc g d) (sTgt g d) (sFar g d) v σ (some 0) 100000 0 = some (sVioN g ρ d (sVioW g d) 41 0) := by
    intro v hv
    rw [hv]
    exact X3_violates_L59_eq hI hR hd hC hB hB2 hw 100000 41 0 (by omega) (by omega) (by omega) (by omega)
  unfold X3_violates
  rw [X0_hasDependence_eq, if_pos (by rw [hR.2.1]; exact hd), Option.bind_some, if_neg (by decide), gd_t (by omega), X0_lagOf_eq hI hR hd.1 hd.2, Option.bind_some, e6, e7, e8, show σ (1 + 10) 1 = g 3 from hR.2.2.1.2.1]
  by_cases c : sFar g d = 0
  · rw [if_pos c, gd_t (by omega)]
    exact key _ (by unfold sVioW sLag; rw [if_pos c]; omega)
  · rw [if_neg c]
    exact key _ (by unfold sVioW; rw [if_neg c]; omega)
theorem X6_isViolated_eq {σ : MM} {g : Int → Int} {ρ : Int → Int → Int} {d B : Int} (hg : σ 59 = g) (hI : sInv0 g) (hd : 0 ≤ d ∧ d < g 1) (hC : sRR σ g ρ (g 2) 0) (hB : sBd g ρ (g 2) 0 B) (hB2 : B ≤ 1000000) : X6_isViolated d σ = some (sVioN g ρ d (sVioW g d) 41 0) := by
  have hT := hI.1.2.2.1
  have hm := hI.1.2.1
  have hw := sVioW_b hI hd.1 hd.2
  have key : ∀ v, v = sVioW g d → X6_isViolated_L24 d v σ (some 0) 100000 0 = some (sVioN g ρ d (sVioW g d) 41 0) := by
    intro v hv
    rw [hv]
    exact X6_isViolated_L24_eq hg hI hd hC hB hB2 hw 100000 41 0 (by omega) (by omega) (by omega) (by omega)
  unfold X6_isViolated
  rw [X6_far_eq (by omega), hg, Option.bind_some]
  by_cases c : sFar g d = 0
  · rw [if_pos c, X6_bare_eq (by rw [hg]; exact hI) hd.1 (by rw [hg]; exact hd.2), hg, Option.bind_some]
    exact key _ (by unfold sVioW; rw [if_pos c])
  · rw [if_neg c, X6_lag_eq (by rw [hg]; exact hI) hd.1 (by rw [hg]; exact hd.2), hg, Option.bind_some]
    exact key _ (by unfold sVioW; rw [if_neg c])
theorem X5_violated_L6_eq {σ : MM} {g : Int → Int} {ρ : Int → Int → Int} {B : Int} {k : MM → Option (Int × MM)} (hk : k σ = some (-1, σ)) (hI : sInv0 g) (hR : sRL σ 1 g) (hC : sRC σ g ρ (g 2) 0) (hB : sBd g ρ (g 2) 0 B) (hB2 : B ≤ 1000000) : ∀ (n : Nat) (d : Int), 0 ≤ d → d ≤ g 1 → g 1 - d < n → X5_violated_L6 k n d σ = some (fndI (sVio g ρ) d (g 1), σ) := by
  intro n
  induction n with
  | zero => intro d h1 h2 h3; omega
  | succ n ih =>
    intro d h1 h2 h3
    rw [X5_violated_L6, hR.2.1]
    by_cases c : d < g 1
    · rw [if_pos c, fndI_lt c, X3_violates_eq hI hR ⟨h1, c⟩ hC hB hB2, Option.bind_some]
      by_cases c2 : sVioN g ρ d (sVioW g d) 41 0 = 0
      · rw [if_pos c2, if_neg (by simp only [sVio, c2]; decide)]
        exact ih _ (by omega) (by omega) (by omega)
      · rw [if_neg c2, if_pos (by simp only [sVio, decide_eq_true_eq]; exact c2)]
    · rw [if_neg c, fndI_ge (by omega), hk]
theorem X6_violated_L12_eq {σ : MM} {g : Int → Int} {ρ : Int → Int → Int} {B : Int} {k : MM → Option (Int × MM)} (hk : k σ = some (-1, σ)) (hg : σ 59 = g) (hI : sInv0 g) (hC : sRR σ g ρ (g 2) 0) (hB : sBd g ρ (g 2) 0 B) (hB2 : B ≤ 1000000) : ∀ (n : Nat) (d : Int), 0 ≤ d → d ≤ g 1 → g 1 - d < n → X6_violated_L12 k n d σ = some (fndI (sVio g ρ) d (g 1), σ) := by
  intro n
  induction n with
  | zero => intro d h1 h2 h3; omega
  | succ n ih =>
    intro d h1 h2 h3
    rw [X6_violated_L12, hg]
    by_cases c : d < g 1
    · rw [if_pos c, fndI_lt c, X6_isViolated_eq hg hI ⟨h1, c⟩ hC hB hB2, Option.bind_some]
      by_cases c2 : sVioN g ρ d (sVioW g d) 41 0 = 0
      · rw [if_pos c2, if_neg (by simp only [sVio, c2]; decide)]
        exact ih _ (by omega) (by omega) (by omega)
      · rw [if_neg c2, if_pos (by simp only [sVio, decide_eq_true_eq]; exact c2)]
    · rw [if_neg c, fndI_ge (by omega), hk]
theorem op_violated {σ : MM} (h : ST σ) : OpN (X5_violated σ) X6_violated := by
  have hI := h.1.1
  have hm := hI.1.2.1
  have hT := hI.1.2.2.1
  obtain ⟨σ1, q1, q2, q3, q4⟩ := X5_simulate_eq h
  refine opN_ro (r := fndI (sVio (σ 59) (sRun (σ 59) (σ 59 4))) 0 (σ 59 1)) h ⟨σ1, ?_, SE.frC q2⟩ (fun σ' h' hg => ?_)
  · unfold X5_violated
    rw [q1, Option.bind_some, X5_violated_L6_eq rfl hI (q2.rl (by decide) h.2.1) q3.1 q4 (by omega) 100000 0 (by omega) (by omega) (by omega)]
  · obtain ⟨σ2, u1, u2, u3, u4, u5⟩ := X6_runs_st hg hI
    refine ⟨σ2, ?_, u2⟩
    unfold X6_violated
    rw [mlet_eq, u1, Option.bind_some]
    exact X6_violated_L12_eq rfl u4 hI u5.1 q4 (by omega) 100000 0 (by omega) (by omega) (by omega)
