/-! signals, count, critical -/
def fnd (p : Int → Bool) : Nat → Int → Int
  | 0, _ => -1
  | n + 1, i => if p i = true then i else fnd p n (i + 1)
def fndI (p : Int → Bool) (lo hi : Int) : Int := fnd p (hi - lo).toNat lo
theorem fndI_ge {p : Int → Bool} {lo hi : Int} (h : hi ≤ lo) : fndI p lo hi = -1 := by
  unfold fndI
  rw [show (hi - lo).toNat = 0 by omega]
  rfl
theorem fndI_lt {p : Int → Bool} {lo hi : Int} (h : lo < hi) : fndI p lo hi = if p lo = true then lo else fndI p (lo + 1) hi := by
  unfold fndI
  rw [show (hi - lo).toNat = (hi - (lo + 1)).toNat + 1 by omega]
  rfl
theorem fdI_id {α : Type} {f : Int → α → α} {lo hi : Int} {a : α} (h : ∀ j a, lo ≤ j → j < hi → f j a = a) : fdI f lo hi a = a := by
  by_cases c : lo ≤ hi
  · exact fdI_inv (P := fun _ b => b = a) c rfl (fun j b h1 h2 h3 => by rw [h j b h1 h2]; exact h3)
  · exact fdI_ge (by omega)
theorem fdI_app {α : Type} {f : Int → α → α} {lo mid hi : Int} {a : α} (h : lo ≤ mid) (h2 : mid ≤ hi) : fdI f lo hi a = fdI f mid hi (fdI f lo mid a) := by
  have key : ∀ (n : Nat) (hi : Int), mid ≤ hi → hi - mid = n → fdI f lo hi a = fdI f mid hi (fdI f lo mid a) := by
    intro n
    induction n with
    | zero =>
      intro hi h3 h4
      rw [show hi = mid by omega, fdI_ge (Int.le_refl mid)]
    | succ n ih =>
      intro hi h3 h4
      rw [show hi = (hi - 1) + 1 by omega, fdI_last (by omega), fdI_last (by omega), ih (hi - 1) (by omega) (by omega)]
  exact key (hi - mid).toNat hi h2 (by omega)
def sSum (g : Int → Int) : Int := fdI (fun s a => a + sCost g s) 0 (g 0) 0
def sSigs (g : Int → Int) : Int := fdI (fun d a => if sSig g d = 0 then a else a + 1) 0 (g 1) 0
def sSgl (g : Int → Int) : Int := fdI (fun d a => if sSig g d = 0 then a else if sFar g d < g 2 then a + (g 2 - sFar g d) else a) 0 (g 1) 0
theorem sSum_b {g : Int → Int} (hI : sInv0 g) {n : Int} (h : 0 ≤ n) (h2 : n ≤ g 0) : n ≤ fdI (fun s a => a + sCost g s) 0 n 0 ∧ fdI (fun s a => a + sCost g s) 0 n 0 ≤ 9 * n := by
  refine fdI_inv (P := fun s a => s ≤ a ∧ a ≤ 9 * s) h (by omega) (fun s a h3 h4 h5 => ?_)
  have := sCost_b hI h3 (show s < g 0 by omega)
  show s + 1 ≤ a + sCost g s ∧ a + sCost g s ≤ 9 * (s + 1)
  omega
theorem X6_allCosts_L4_eq {σ : MM} {k : Int → Option Int} (hI : sInv0 (σ 59)) : ∀ (n : Nat) (x1 x2 : Int), 0 ≤ x2 → x2 ≤ σ 59 0 → σ 59 0 - x2 < n → 0 ≤ x1 ∧ x1 ≤ 9 * x2 → X6_allCosts_L4 σ k n x1 x2 = k (fdI (fun s a => a + sCost (σ 59) s) x2 (σ 59 0) x1) := by
  have h0 := hI.1.1
  intro n
  induction n with
  | zero => intro x1 x2 h1 h2 h3; omega
  | succ n ih =>
    intro x1 x2 h1 h2 h3 h4
    rw [X6_allCosts_L4]
    by_cases c : x2 < σ 59 0
    · have hc := sCost_b hI h1 c
      rw [if_pos c, fdI_lt c, X6_cost_eq (by omega), Option.bind_some, gd_t (by omega)]
      exact ih _ _ (by omega) (by omega) (by omega) (by omega)
    · rw [if_neg c, fdI_ge (by omega)]
theorem X6_allCosts_eq {σ : MM} (hI : sInv0 (σ 59)) : X6_allCosts σ = some (sSum (σ 59)) := by
  have h0 := hI.1.1
  unfold X6_allCosts
  rw [X6_allCosts_L4_eq hI 100000 0 0 (by omega) (by omega) (by omega) (by omega)]
  rfl
theorem X0_sumOfCosts_L4_eq {σ : MM} {b : Nat} {g : Int → Int} {k : Int → Option Int} (hI : sInv0 g) (hR : sRL σ b g) : ∀ (n : Nat) (x1 x2 : Int), 0 ≤ x2 → x2 ≤ g 0 → g 0 - x2 < n → 0 ≤ x1 ∧ x1 ≤ 9 * x2 → X0_sumOfCosts_L4 b σ k n x1 x2 = k (fdI (fun s a => a + sCost g s) x2 (g 0) x1) := by
  have h0 := hI.1.1
  intro n
  induction n with
  | zero => intro x1 x2 h1 h2 h3; omega
  | succ n ih =>
    intro x1 x2 h1 h2 h3 h4
    rw [X0_sumOfCosts_L4, hR.1]
    by_cases c : x2 < g 0
    · have hc := sCost_b hI h1 c
      rw [if_pos c, fdI_lt c, gd_t (by omega), (hR.2.2.2.1 x2 h1 c).1, gd_t (by omega)]
      exact ih _ _ (by omega) (by omega) (by omega) (by omega)
    · rw [if_neg c, fdI_ge (by omega)]
theorem X0_sumOfCosts_eq {σ : MM} {b : Nat} {g : Int → Int} (hI : sInv0 g) (hR : sRL σ b g) : X0_sumOfCosts b σ = some (sSum g) := by
  have h0 := hI.1.1
  unfold X0_sumOfCosts
  rw [X0_sumOfCosts_L4_eq hI hR 100000 0 0 (by omega) (by omega) (by omega) (by omega)]
  rfl
theorem X6_signalsKept_L4_eq {σ : MM} {k : Int → Option Int} (hI : sInv0 (σ 59)) : ∀ (n : Nat) (x1 x2 : Int), 0 ≤ x2 → x2 ≤ σ 59 1 → σ 59 1 - x2 < n → 0 ≤ x1 ∧ x1 ≤ x2 → X6_signalsKept_L4 σ k n x1 x2 = k (fdI (fun d a => if sSig (σ 59) d = 0 then a else a + 1) x2 (σ 59 1) x1) := by
  have h0 := hI.1.2.1
  intro n
  induction n with
  | zero => intro x1 x2 h1 h2 h3; omega
  | succ n ih =>
    intro x1 x2 h1 h2 h3 h4
    rw [X6_signalsKept_L4]
    by_cases c : x2 < σ 59 1
    · rw [if_pos c, fdI_lt c, X6_isSignal_eq (by omega), Option.bind_some]
      by_cases c2 : sSig (σ 59) x2 = 0
      · rw [if_pos c2, if_pos c2, show x1 + 0 = x1 by omega]
        exact ih _ _ (by omega) (by omega) (by omega) (by omega)
      · rw [if_neg c2, if_neg c2, gd_t (by omega)]
        exact ih _ _ (by omega) (by omega) (by omega) (by omega)
    · rw [if_neg c, fdI_ge (by omega)]
theorem X6_signalsKept_eq {σ : MM} (hI : sInv0 (σ 59)) : X6_signalsKept σ = some (sSigs (σ 59)) := by
  have h0 := hI.1.2.1
  unfold X6_signalsKept
  rw [X6_signalsKept_L4_eq hI 100000 0 0 (by omega) (by omega) (by omega) (by omega)]
  rfl
theorem X0_signalledDependences_L4_eq {σ : MM} {b : Nat} {g : Int → Int} {k : Int → Option Int} (hI : sInv0 g) (hR : sRL σ b g) : ∀ (n : Nat) (x1 x2 : Int), 0 ≤ x2 → x2 ≤ g 1 → g 1 - x2 < n → 0 ≤ x1 ∧ x1 ≤ x2 → X0_signalledDependences_L4 b σ k n x1 x2 = k (fdI (fun d a => if sSig g d = 0 then a else a + 1) x2 (g 1) x1) := by
  have h0 := hI.1.2.1
  intro n
  induction n with
  | zero => intro x1 x2 h1 h2 h3; omega
  | succ n ih =>
    intro x1 x2 h1 h2 h3 h4
    rw [X0_signalledDependences_L4, hR.2.1]
    by_cases c : x2 < g 1
    · rw [if_pos c, fdI_lt c, X0_isSignalled_eq hI hR h1 c, Option.bind_some]
      by_cases c2 : sSig g x2 = 0
      · rw [if_pos c2, if_pos c2]
        exact ih _ _ (by omega) (by omega) (by omega) (by omega)
      · rw [if_neg c2, if_neg c2, gd_t (by omega)]
        exact ih _ _ (by omega) (by omega) (by omega) (by omega)
    · rw [if_neg c, fdI_ge (by omega)]
theorem X0_signalledDependences_eq {σ : MM} {b : Nat} {g : Int → Int} (hI : sInv0 g) (hR : sRL σ b g) : X0_signalledDependences b σ = some (sSigs g) := by
  have h0 := hI.1.2.1
  unfold X0_signalledDependences
  rw [X0_signalledDependences_L4_eq hI hR 100000 0 0 (by omega) (by omega) (by omega) (by omega)]
  rfl
theorem X6_signals_L9_eq {k : Int → MM → Option (Int × MM)} {σ : MM} (hI : sInv0 (σ 59)) : ∀ (n : Nat) (x1 x2 : Int), 0 ≤ x2 → x2 ≤ σ 59 1 → σ 59 1 - x2 < n → 0 ≤ x1 ∧ x1 ≤ 40 * x2 → X6_signals_L9 k n x1 x2 σ = k (fdI (fun d a => if sSig (σ 59) d = 0 then a else if sFar (σ 59) d < σ 59 2 then a + (σ 59 2 - sFar (σ 59) d) else a) x2 (σ 59 1) x1) σ := by
  have h0 := hI.1.2.1
  have h2 := hI.1.2.2.1
  intro n
  induction n with
  | zero => intro x1 x2 h1 h2 h3; omega
  | succ n ih =>
    intro x1 x2 h1 h2 h3 h4
    rw [X6_signals_L9]
    by_cases c : x2 < σ 59 1
    · have hf := (hI.2.2.2.2.2 x2 h1 c).2.2.2.1
      rw [if_pos c, fdI_lt c, X6_isSignal_eq (by omega), Option.bind_some]
      by_cases c2 : sSig (σ 59) x2 = 0
      · rw [if_pos c2, if_pos c2, show x1 + 0 = x1 by omega]
        exact ih _ _ (by omega) (by omega) (by omega) (by omega)
      · rw [if_neg c2, if_neg c2, X6_far_eq (by omega), Option.bind_some]
        by_cases c3 : sFar (σ 59) x2 < σ 59 2
        · rw [if_pos c3, if_pos c3, Option.bind_some, gd_t (by omega)]
          exact ih _ _ (by omega) (by omega) (by omega) (by omega)
        · rw [if_neg c3, if_neg c3, show x1 + 0 = x1 by omega]
          exact ih _ _ (by omega) (by omega) (by omega) (by omega)
    · rw [if_neg c, fdI_ge (by omega)]
theorem X5_signals_L4_eq {k : Int → Option Int} {σ : MM} {g : Int → Int} (hI : sInv0 g) (hR : sRL σ 1 g) : ∀ (n : Nat) (x1 x2 : Int), 0 ≤ x2 → x2 ≤ g 1 → g 1 - x2 < n → 0 ≤ x1 ∧ x1 ≤ 40 * x2 → X5_signals_L4 σ k n x1 x2 = k (fdI (fun d a => if sSig g d = 0 then a else if sFar g d < g 2 then a + (g 2 - sFar g d) else a) x2 (g 1) x1) := by
  have h0 := hI.1.2.1
  have h2 := hI.1.2.2.1
  intro n
  induction n with
  | zero => intro x1 x2 h1 h2 h3; omega
  | succ n ih =>
    intro x1 x2 h1 h2 h3 h4
    rw [X5_signals_L4, hR.2.1]
    by_cases c : x2 < g 1
    · have hf := (hI.2.2.2.2.2 x2 h1 c).2.2.2.1
      rw [if_pos c, fdI_lt c, X0_isSignalled_eq hI hR h1 c, Option.bind_some]
      by_cases c2 : sSig g x2 = 0
      · rw [if_pos c2, if_pos c2]
        exact ih _ _ (by omega) (by omega) (by omega) (by omega)
      · rw [if_neg c2, if_neg c2, gd_t (by omega), show σ 9 x2 = sFar g x2 from (hR.2.2.2.2 x2 h1 c).2.2.2.1, show σ 11 0 = g 2 from hR.2.2.1.1, gd_t (by omega), gd_t (by omega)]
        by_cases c3 : sFar g x2 < g 2
        · rw [if_pos c3, show max 0 (g 2 - sFar g x2) = g 2 - sFar g x2 by omega]
          exact ih _ _ (by omega) (by omega) (by omega) (by omega)
        · rw [if_neg c3, show x1 + max 0 (g 2 - sFar g x2) = x1 by omega]
          exact ih _ _ (by omega) (by omega) (by omega) (by omega)
    · rw [if_neg c, fdI_ge (by omega)]
theorem op_signals {σ : MM} (h : ST σ) : OpN ((X5_signals σ).map (fun r => (r, σ))) X6_signals := by
  have h0 := h.1.1.1.2.1
  refine opN_ro (r := sSgl (σ 59)) h ⟨σ, ?_, SE.rf⟩ (fun σ' h' hg => ⟨_, ?_, SE.thr (v := 0)⟩)
  · unfold X5_signals
    rw [X5_signals_L4_eq h.1.1 h.2.1 100000 0 0 (by omega) (by omega) (by omega) (by omega)]
    rfl
  · unfold X6_signals
    rw [mlet_eq, X6_signals_L9_eq (by rw [zup59, hg]; exact h.1.1) 100000 0 0 (by omega) (by rw [zup59, hg]; omega) (by rw [zup59, hg]; omega) (by omega), zup59, hg]
    rfl
theorem op_count {σ : MM} (h : ST σ) (a1 : Int) : OpX (X5_count a1 σ) (X6_count a1) kA := by
  have hI := h.1.1
  obtain ⟨R0, R1, ⟨R2, R3, R4, R5⟩, -⟩ := h.2.1
  by_cases c0 : a1 = 0
  · refine opX_ok (r := σ 59 0) rfl h ⟨σ, ?_, SE.rf⟩ (fun σ' h' hg _ => ⟨_, ?_, SE.thr (v := 0), zup_s⟩)
    · unfold X5_count X5_count_J25
      rw [if_pos (by omega), if_pos c0, R0]
    · unfold X6_count
      rw [mlet_eq, if_pos c0, zup59, hg]
  by_cases c1 : a1 = 1
  · refine opX_ok (r := σ 59 1) rfl h ⟨σ, ?_, SE.rf⟩ (fun σ' h' hg _ => ⟨_, ?_, SE.thr (v := 0), zup_s⟩)
    · unfold X5_count X5_count_J25
      rw [if_pos (by omega), if_neg c0, if_pos c1, R1]
    · unfold X6_count
      rw [mlet_eq, if_neg c0, if_pos c1, zup59, hg]
  by_cases c2 : a1 = 2
  · refine opX_ok (r := sSigs (σ 59)) rfl h ⟨σ, ?_, SE.rf⟩ (fun σ' h' hg _ => ⟨_, ?_, SE.thr (v := 0), zup_s⟩)
    · unfold X5_count X5_count_J25
      rw [if_pos (by omega), if_neg c0, if_neg c1, if_pos c2, X0_signalledDependences_eq hI h.2.1, Option.bind_some]
    · unfold X6_count
      rw [mlet_eq, if_neg c0, if_neg c1, if_pos c2, X6_signalsKept_eq (by rw [zup59, hg]; exact hI), Option.bind_some, zup59, hg]
  by_cases c3 : a1 = 3
  · refine opX_ok (r := σ 58 5) rfl h ⟨σ, ?_, SE.rf⟩ (fun σ' h' hg ht => ⟨_, ?_, SE.thr (v := 0), zup_s⟩)
    · unfold X5_count X5_count_J25
      rw [if_pos (by omega), if_neg c0, if_neg c1, if_neg c2, if_pos c3, h.2.2.2.2.1.2.2]
    · unfold X6_count
      rw [mlet_eq, if_neg c0, if_neg c1, if_neg c2, if_pos c3, zup_i (by decide), ht]
  by_cases c4 : a1 = 4
  · refine opX_ok (r := sSum (σ 59)) rfl h ⟨σ, ?_, SE.rf⟩ (fun σ' h' hg _ => ⟨_, ?_, SE.thr (v := 0), zup_s⟩)
    · unfold X5_count X5_count_J25
      rw [if_pos (by omega), if_neg c0, if_neg c1, if_neg c2, if_neg c3, if_pos c4, X0_sumOfCosts_eq hI h.2.1, Option.bind_some]
    · unfold X6_count
      rw [mlet_eq, if_neg c0, if_neg c1, if_neg c2, if_neg c3, if_pos c4, X6_allCosts_eq (by rw [zup59, hg]; exact hI), Option.bind_some, zup59, hg]
  by_cases c10 : 10 ≤ a1 ∧ a1 < 14
  · refine opX_ok (r := σ 59 (2 + a1 - 10)) rfl h ⟨σ, ?_, SE.rf⟩ (fun σ' h' hg _ => ⟨_, ?_, SE.thr (v := 0), zup_s⟩)
    · unfold X5_count
      rw [if_neg (by omega), if_pos c10.2]
      have e : a1 = 10 ∨ a1 = 11 ∨ a1 = 12 ∨ a1 = 13 := by omega
      rcases e with rfl | rfl | rfl | rfl
      · exact congrArg (fun v => some (0, v, σ)) R2
      · exact congrArg (fun v => some (0, v, σ)) R3
      · exact congrArg (fun v => some (0, v, σ)) R4
      · exact congrArg (fun v => some (0, v, σ)) R5
    · unfold X6_count
      have e : a1 = 10 ∨ a1 = 11 ∨ a1 = 12 ∨ a1 = 13 := by omega
      rw [mlet_eq, if_neg c0, if_neg c1, if_neg c2, if_neg c3, if_neg c4, if_neg (by omega), if_neg (by omega), if_neg (by omega), if_neg (by omega), if_neg (by omega), zup59, hg]
      rcases e with rfl | rfl | rfl | rfl <;> rfl
  · refine opX_bad (xo := 1) h ?_ (by decide) (fun σ' h' hg => ?_)
    · have hj : X5_count_J25 a1 σ = some (1, 0, σ) := by
        unfold X5_count_J25
        rw [if_neg c0, if_neg c1, if_neg c2, if_neg c3, if_neg c4]
      unfold X5_count
      rw [hj]
      split
      · rfl
      · rw [if_neg (by omega)]
    · unfold X6_count
      simp only [X6_fails_eq, Option.bind_some]
      rw [mlet_eq, if_neg c0, if_neg c1, if_neg c2, if_neg c3, if_neg c4]
      repeat' split
      all_goals first | rfl | omega
def sCrit (g : Int → Int) (d : Int) : Bool := decide (¬ sSig g d = 0 ∧ sDel g d < sDel g (-1))
theorem X6_critical_L7_eq {σ : MM} {k : MM → Option (Int × MM)} (hk : k σ = some (-1, σ)) (hI : sInv0 (σ 59)) : ∀ (n : Nat) (d : Int), 0 ≤ d → d ≤ σ 59 1 → σ 59 1 - d < n → X6_critical_L7 k n d σ = some (fndI (sCrit (σ 59)) d (σ 59 1), σ) := by
  have h0 := hI.1.2.1
  intro n
  induction n with
  | zero => intro d h1 h2 h3; omega
  | succ n ih =>
    intro d h1 h2 h3
    rw [X6_critical_L7]
    by_cases c : d < σ 59 1
    · rw [if_pos c, fndI_lt c, X6_isSignal_eq (by omega), Option.bind_some]
      by_cases c2 : sSig (σ 59) d = 0
      · rw [if_pos c2, if_neg (by simp [sCrit, c2])]
        exact ih _ (by omega) (by omega) (by omega)
      · rw [if_neg c2, X6_delayBut_eq hI, Option.bind_some, X6_delayBut_eq hI, Option.bind_some]
        by_cases c3 : sDel (σ 59) d < sDel (σ 59) (-1)
        · rw [if_pos c3, if_pos (by simp [sCrit, c2, c3])]
        · rw [if_neg c3, if_neg (by simp [sCrit, c3])]
          exact ih _ (by omega) (by omega) (by omega)
    · rw [if_neg c, fndI_ge (by omega), hk]
theorem X5_critical_L11_eq {g : Int → Int} {k : MM → Option (Int × MM)} (hk : ∀ σ, k σ = some (-1, σ)) (hI : sInv0 g) : ∀ (n : Nat) (d : Int) (σ : MM), sRL σ 1 g → 0 ≤ d → d ≤ g 1 → g 1 - d < n → ∃ σ' : MM, X5_critical_L11 (sDel g (-1)) k n d σ = some (fndI (sCrit g) d (g 1), σ') ∧ ∀ j : Nat, j ≠ 1 + 4 → σ' j = σ j := by
  have h0 := hI.1.2.1
  intro n
  induction n with
  | zero => intro d σ hR h1 h2 h3; omega
  | succ n ih =>
    intro d σ hR h1 h2 h3
    rw [X5_critical_L11, hR.2.1]
    by_cases c : d < g 1
    · rw [if_pos c, fndI_lt c, X0_isSignalled_eq hI hR h1 c, Option.bind_some]
      by_cases c2 : sSig g d = 0
      · rw [if_pos c2, if_neg (by simp [sCrit, c2])]
        exact ih _ _ hR (by omega) (by omega) (by omega)
      · obtain ⟨σ1, q1, q2⟩ := X0_delayWithout_eq hI hR d
        rw [if_neg c2, q1]
        show ∃ σ' : MM, (if sDel g d < sDel g (-1) then some (d, σ1) else X5_critical_L11 (sDel g (-1)) k n (d + 1) σ1) = _ ∧ _
        by_cases c3 : sDel g d < sDel g (-1)
        · rw [if_pos c3, if_pos (by simp [sCrit, c2, c3])]
          exact ⟨σ1, rfl, q2⟩
        · rw [if_neg c3, if_neg (by simp [sCrit, c3])]
          obtain ⟨σ2, u1, u2⟩ := ih (d + 1) σ1 (sRL_congr hR (fun j hj hj4 => q2 _ (by omega))) (by omega) (by omega) (by omega)
          exact ⟨σ2, u1, fun j hj => (u2 j hj).trans (q2 j hj)⟩
    · rw [if_neg c, fndI_ge (by omega), hk]
      exact ⟨σ, rfl, fun _ _ => rfl⟩
theorem op_critical {σ : MM} (h : ST σ) : OpN (X5_critical σ) X6_critical := by
  have h0 := h.1.1.1.2.1
  obtain ⟨σ1, q1, q2⟩ := X0_delayWithout_eq h.1.1 h.2.1 (-1)
  obtain ⟨σ2, u1, u2⟩ := X5_critical_L11_eq (k := fun σ16 => some (-1, σ16)) (fun _ => rfl) h.1.1 100000 0 σ1 (sRL_congr h.2.1 (fun j hj hj4 => q2 _ (by omega))) (by omega) (by omega) (by omega)
  refine opN_ro (r := fndI (sCrit (σ 59)) 0 (σ 59 1)) h ⟨σ2, ?_, SE.off (b := 1) (by decide) (fun j hj => (u2 j hj).trans (q2 j hj))⟩ (fun σ' h' hg => ⟨_, ?_, SE.thr (v := 0)⟩)
  · unfold X5_critical
    rw [q1]
    exact u1
  · unfold X6_critical
    rw [mlet_eq, X6_critical_L7_eq rfl (by rw [zup59, hg]; exact h.1.1) 100000 0 (by omega) (by rw [zup59, hg]; omega) (by rw [zup59, hg]; omega), zup59, hg]
