/-! what a whole run keeps -/
theorem sRun_inv {g : Int → Int} {P : Int} (hI : sInv0 g) (hP : 1 ≤ P ∧ P ≤ 6) :
    sBd g (sRun g P) (g 2) 0 (184 * g 2) ∧ (∀ q, sRun g P 0 q - sRun g P 3 q = sRun g P 1 q * sOffP g (g 0)) ∧ (∀ q, P ≤ q → sRun g P 1 q = 0) ∧ (g 0 = 0 → ∀ q, sRun g P 2 q = 0) := by
  have h2 := hI.1.2.2.1
  refine fdI_inv (P := fun i ρ => sBd g ρ i 0 (184 * i) ∧ (∀ q, ρ 0 q - ρ 3 q = ρ 1 q * sOffP g (g 0)) ∧ (∀ q, P ≤ q → ρ 1 q = 0) ∧ (g 0 = 0 → ∀ q, ρ 2 q = 0)) (by omega) ?_ (fun i ρ h3 h4 h5 => ?_)
  · exact ⟨by rw [show (184 : Int) * 0 = 0 by omega]; exact sBd0 hI, fun q => by show (0 : Int) - 0 = 0 * _; omega, fun _ _ => rfl, fun _ _ => rfl⟩
  · obtain ⟨q1, q2, q3, q4⟩ := h5
    obtain ⟨r1, -, r3, -, r5⟩ := sIter_inv hI q1 ⟨h3, h4⟩ hP (by omega) (fun q a b => (q1.1 q a b).1)
    have hp := sProc_b (ρ := ρ) hP.1 h3 h4
    refine ⟨by rw [show 184 * (i + 1) = 184 * i + 184 by omega]; exact r1, fun q => ?_, fun q hq => ?_, fun h0 q => ?_⟩
    · rw [r5, r3]
      by_cases e : q = sProc g P i ρ
      · rw [if_pos e, if_pos e, q2 q, Int.add_mul]
        omega
      · rw [if_neg e, if_neg e, q2 q]
    · rw [r3, if_neg (by omega), q3 q hq]
    · rw [sIter_rows 2 q (Or.inl (by omega))]
      unfold sStmts
      rw [fdI_ge (by omega), rup_n (Or.inl (by omega)), q4 h0]
theorem sLen_b {ρ : Int → Int → Int} {B : Int} (h : ∀ p, 0 ≤ p → p < 6 → 0 ≤ ρ 0 p ∧ ρ 0 p ≤ B) : 0 ≤ sLen ρ ∧ sLen ρ ≤ B := by
  have h1 := h 0 (by decide) (by decide)
  refine fdI_inv (P := fun _ a => 0 ≤ a ∧ a ≤ B) (by decide) (by omega) (fun j a h2 h3 h4 => ?_)
  have := h j h2 h3
  show 0 ≤ max a (ρ 0 j) ∧ max a (ρ 0 j) ≤ B
  omega
/-- a sum in the order of places is the sum in the order of numbers -/
def nS (f : Nat → Int) : Nat → Int
  | 0 => 0
  | n + 1 => nS f n + f n
theorem nS_congr {f f' : Nat → Int} {n : Nat} (h : ∀ i, i < n → f i = f' i) : nS f n = nS f' n := by
  induction n with
  | zero => rfl
  | succ n ih => rw [nS, nS, ih (fun i hi => h i (by omega)), h n (by omega)]
theorem nS_add (f f' : Nat → Int) (n : Nat) : nS (fun i => f i + f' i) n = nS f n + nS f' n := by
  induction n with
  | zero => rfl
  | succ n ih => rw [nS, nS, nS, ih]; omega
theorem nS_zero (n : Nat) : nS (fun _ => 0) n = 0 := by
  induction n with
  | zero => rfl
  | succ n ih => rw [nS, ih]; rfl
theorem nS_swap (f : Nat → Nat → Int) (n m : Nat) : nS (fun i => nS (f i) m) n = nS (fun j => nS (fun i => f i j) n) m := by
  induction m with
  | zero => exact nS_zero n
  | succ m ih =>
    show nS (fun i => nS (f i) m + f i m) n = nS (fun j => nS (fun i => f i j) n) m + nS (fun i => f i m) n
    rw [nS_add, ih]
theorem nS_one {f : Nat → Int} {n : Nat} {i : Nat} (hi : i < n) (h : ∀ j, j < n → j ≠ i → f j = 0) : nS f n = f i := by
  induction n with
  | zero => omega
  | succ n ih =>
    rw [nS]
    by_cases e : i = n
    · subst e
      rw [nS_congr (f' := fun _ => 0) (fun j hj => h j (by omega) (by omega)), nS_zero]
      omega
    · rw [ih (by omega) (fun j hj he => h j (by omega) he), h n (by omega) (by omega)]
      omega
theorem nS_fd (f : Int → Int) : ∀ n : Nat, fdI (fun s a => a + f s) 0 (n : Int) 0 = nS (fun i => f (i : Int)) n := by
  intro n
  induction n with
  | zero => exact fdI_ge (by omega)
  | succ n ih =>
    rw [show ((n + 1 : Nat) : Int) = (n : Int) + 1 by omega, fdI_last (by omega), ih]
    rfl
theorem sOffP_sum {g : Int → Int} (hI : sInv0 g) : sOffP g (g 0) = sSum g := by
  obtain ⟨h0, -⟩ := hI.1
  unfold sOffP sSum
  have hn : g 0 = ((g 0).toNat : Int) := by omega
  rw [hn, nS_fd (fun q => sCost g (g (20 + q))), nS_fd (fun s => sCost g s)]
  generalize hN : (g 0).toNat = N at *
  have e : nS (fun i => sCost g (g (20 + (i : Int)))) N = nS (fun i => nS (fun s => if g (20 + (i : Int)) = (s : Int) then sCost g (s : Int) else 0) N) N := by
    refine nS_congr (fun i hi => ?_)
    obtain ⟨a, b⟩ := hI.2.2.1 (i : Int) (by omega) (by omega)
    rw [nS_one (i := (g (20 + (i : Int))).toNat) (by omega) (fun j hj he => if_neg (by omega)), if_pos (by omega), show (((g (20 + (i : Int))).toNat : Nat) : Int) = g (20 + (i : Int)) by omega]
  rw [e, nS_swap]
  refine nS_congr (fun s hs => ?_)
  obtain ⟨p, h3, h4, h5⟩ := hI.2.2.2.2.1 (s : Int) (by omega) (by omega)
  rw [nS_one (i := p.toNat) (by omega) (fun j hj he => ?_), if_pos (by rw [show ((p.toNat : Nat) : Int) = p by omega]; exact h5)]
  refine if_neg (fun q => ?_)
  have := hI.2.2.2.1 (j : Int) p (by omega) (by omega) h3 h4 (by rw [q, h5])
  omega
def sFill (ρ : Int → Int → Int) (hi a : Int) (lo : Int) : Int := fdI (fun p a => if 0 < ρ 1 p then max a (ρ 2 p) else a) lo hi a
def sEnd (ρ : Int → Int → Int) (hi a : Int) (lo : Int) : Int := fdI (fun p a => if 0 < ρ 1 p then min a (ρ 0 p) else a) lo hi a
theorem X3_latestFirstStart_L4_eq {σ : MM} {ρ : Int → Int → Int} {k : Int → Option Int} (hC : ∀ p, 0 ≤ p → p < 6 → σ 54 p = ρ 1 p ∧ σ 55 p = ρ 2 p) : ∀ (n : Nat) (x1 x2 : Int), 0 ≤ x2 → x2 ≤ 6 → 6 - x2 < n → X3_latestFirstStart_L4 σ k n x1 x2 = k (sFill ρ 6 x1 x2) := by
  intro n
  induction n with
  | zero => intro x1 x2 h1 h2 h3; omega
  | succ n ih =>
    intro x1 x2 h1 h2 h3
    rw [X3_latestFirstStart_L4]
    unfold sFill
    by_cases c : x2 < 6
    · obtain ⟨e1, e2⟩ := hC x2 h1 c
      rw [if_pos c, fdI_lt c, gd_t (by omega), e1, e2]
      by_cases c2 : 0 < ρ 1 x2
      · rw [if_pos c2, if_pos c2]
        exact ih _ _ (by omega) (by omega) (by omega)
      · rw [if_neg c2, if_neg c2]
        exact ih _ _ (by omega) (by omega) (by omega)
    · rw [if_neg c, fdI_ge (by omega)]
theorem X3_earliestEnd_L7_eq {σ : MM} {ρ : Int → Int → Int} {k : Int → Option Int} (hC : ∀ p, 0 ≤ p → p < 6 → σ 54 p = ρ 1 p ∧ σ 57 p = ρ 0 p) : ∀ (n : Nat) (x1 x2 : Int), 0 ≤ x2 → x2 ≤ 6 → 6 - x2 < n → X3_earliestEnd_L7 σ k n x1 x2 = k (sEnd ρ 6 x1 x2) := by
  intro n
  induction n with
  | zero => intro x1 x2 h1 h2 h3; omega
  | succ n ih =>
    intro x1 x2 h1 h2 h3
    rw [X3_earliestEnd_L7]
    unfold sEnd
    by_cases c : x2 < 6
    · obtain ⟨e1, e2⟩ := hC x2 h1 c
      rw [if_pos c, fdI_lt c, gd_t (by omega), e1, e2]
      by_cases c2 : 0 < ρ 1 x2
      · rw [if_pos c2, if_pos c2]
        exact ih _ _ (by omega) (by omega) (by omega)
      · rw [if_neg c2, if_neg c2]
        exact ih _ _ (by omega) (by omega) (by omega)
    · rw [if_neg c, fdI_ge (by omega)]
theorem X6_fill_L14_eq {σ : MM} {ρ : Int → Int → Int} {k : Int → MM → Option (Int × MM)} (hP : 1 ≤ σ 59 4 ∧ σ 59 4 ≤ 6) (hC : ∀ p, 0 ≤ p → p < 6 → σ 68 p = if 0 < σ 59 0 ∧ 0 < ρ 1 p then ρ 2 p else -1) (h0 : ¬ 0 < σ 59 0 → ∀ p, ρ 2 p = 0) : ∀ (n : Nat) (x1 x2 : Int), 0 ≤ x1 → 0 ≤ x2 → x2 ≤ σ 59 4 → σ 59 4 - x2 < n → X6_fill_L14 k n x1 x2 σ = k (sFill ρ (σ 59 4) x1 x2) σ := by
  intro n
  induction n with
  | zero => intro x1 x2 h1 h2 h3; omega
  | succ n ih =>
    intro x1 x2 hx h1 h2 h3
    rw [X6_fill_L14]
    unfold sFill
    by_cases c : x2 < σ 59 4
    · have e1 := hC x2 h1 (by omega)
      rw [if_pos c, fdI_lt c, gd_t (by omega)]
      by_cases c2 : 0 < ρ 1 x2
      · rw [if_pos c2]
        by_cases c3 : 0 < σ 59 0
        · rw [if_pos (show 0 < σ 59 0 ∧ 0 < ρ 1 x2 from ⟨c3, c2⟩)] at e1
          rw [e1]
          by_cases c4 : x1 < ρ 2 x2
          · rw [if_pos c4, show max x1 (ρ 2 x2) = ρ 2 x2 by omega]
            exact ih _ _ (by omega) (by omega) (by omega) (by omega)
          · rw [if_neg c4, show max x1 (ρ 2 x2) = x1 by omega]
            exact ih _ _ hx (by omega) (by omega) (by omega)
        · rw [if_neg (show ¬ (0 < σ 59 0 ∧ 0 < ρ 1 x2) from fun q => c3 q.1)] at e1
          rw [e1, if_neg (show ¬ x1 < -1 by omega), show max x1 (ρ 2 x2) = x1 by rw [h0 c3]; omega]
          exact ih _ _ hx (by omega) (by omega) (by omega)
      · rw [if_neg (show ¬ (0 < σ 59 0 ∧ 0 < ρ 1 x2) from fun q => c2 q.2)] at e1
        rw [if_neg c2, e1, if_neg (show ¬ x1 < -1 by omega)]
        exact ih _ _ hx (by omega) (by omega) (by omega)
    · rw [if_neg c, fdI_ge (by omega)]
theorem X6_drain_L14_eq {σ : MM} {ρ : Int → Int → Int} {r : Int} {k : Int → MM → Option (Int × MM)} (hP : 1 ≤ σ 59 4 ∧ σ 59 4 ≤ 6) (hC : ∀ p, 0 ≤ p → p < 6 → σ 69 p = ρ 1 p ∧ σ 67 p = ρ 0 p) : ∀ (n : Nat) (x1 x2 : Int), 0 ≤ x2 → x2 ≤ σ 59 4 → σ 59 4 - x2 < n → X6_drain_L14 r k n x1 x2 σ = k (sEnd ρ (σ 59 4) x1 x2) σ := by
  intro n
  induction n with
  | zero => intro x1 x2 h1 h2 h3; omega
  | succ n ih =>
    intro x1 x2 h1 h2 h3
    rw [X6_drain_L14]
    unfold sEnd
    by_cases c : x2 < σ 59 4
    · obtain ⟨e1, e2⟩ := hC x2 h1 (by omega)
      rw [if_pos c, fdI_lt c, gd_t (by omega), e1, e2]
      by_cases c2 : 0 < ρ 1 x2
      · rw [if_pos c2, if_pos c2]
        by_cases c4 : ρ 0 x2 < x1
        · rw [if_pos c4, show min x1 (ρ 0 x2) = ρ 0 x2 by omega]
          exact ih _ _ (by omega) (by omega) (by omega)
        · rw [if_neg c4, show min x1 (ρ 0 x2) = x1 by omega]
          exact ih _ _ (by omega) (by omega) (by omega)
      · rw [if_neg c2, if_neg c2]
        exact ih _ _ (by omega) (by omega) (by omega)
    · rw [if_neg c, fdI_ge (by omega)]
theorem sFill_P {g : Int → Int} (hI : sInv0 g) {a : Int} : sFill (sRun g (g 4)) 6 a 0 = sFill (sRun g (g 4)) (g 4) a 0 := by
  have hP := hI.1.2.2.2.2.1
  have h := (sRun_inv hI hP).2.2.1
  unfold sFill
  rw [fdI_app (mid := g 4) (hi := 6) (by omega) (by omega), fdI_id (fun j a h1 h2 => if_neg (by rw [h j h1]; omega))]
theorem sEnd_P {g : Int → Int} (hI : sInv0 g) {a : Int} : sEnd (sRun g (g 4)) 6 a 0 = sEnd (sRun g (g 4)) (g 4) a 0 := by
  have hP := hI.1.2.2.2.2.1
  have h := (sRun_inv hI hP).2.2.1
  unfold sEnd
  rw [fdI_app (mid := g 4) (hi := 6) (by omega) (by omega), fdI_id (fun j a h1 h2 => if_neg (by rw [h j h1]; omega))]
theorem sEnd_b {g : Int → Int} (hI : sInv0 g) {P hi a : Int} (hP : 1 ≤ P ∧ P ≤ 6) (hh : 0 ≤ hi ∧ hi ≤ 6) (ha : 0 ≤ a) : 0 ≤ sEnd (sRun g P) hi a 0 ∧ sEnd (sRun g P) hi a 0 ≤ a := by
  have h := (sRun_inv hI hP).1
  refine fdI_inv (P := fun _ b => 0 ≤ b ∧ b ≤ a) hh.1 (by omega) (fun j b h1 h2 h3 => ?_)
  have := h.1 j h1 (by omega)
  show 0 ≤ (if 0 < sRun g P 1 j then min b (sRun g P 0 j) else b) ∧ (if 0 < sRun g P 1 j then min b (sRun g P 0 j) else b) ≤ a
  split <;> omega
theorem op_fill {σ : MM} (h : ST σ) : OpN (X5_fill σ) X6_fill := by
  have hI := h.1.1
  have hP := hI.1.2.2.2.2.1
  have hn := hI.1.1
  obtain ⟨σ1, q1, q2, q3, q4⟩ := X5_simulate_eq h
  refine opN_ro (r := sFill (sRun (σ 59) (σ 59 4)) (σ 59 4) 0 0) h ⟨σ1, ?_, SE.frC q2⟩ (fun σ' h' hg => ?_)
  · unfold X5_fill X3_latestFirstStart
    rw [q1, Option.bind_some, X3_latestFirstStart_L4_eq (fun p a b => ⟨(q3.1.1 p a b).2.1, (q3.1.1 p a b).2.2.1⟩) 100000 0 0 (by omega) (by omega) (by omega), Option.bind_some, sFill_P hI]
  · obtain ⟨σ2, u1, u2, u3, u4, u5⟩ := X6_runs_st hg hI
    refine ⟨σ2, ?_, u2⟩
    unfold X6_fill
    rw [mlet_eq, u1, Option.bind_some]
    refine Eq.trans (X6_fill_L14_eq (σ := σ2) (ρ := sRun (σ 59) (σ 59 4)) (by rw [u4]; exact hP) (fun p a b => ?_) (fun c p => ?_) 100000 0 0 (by omega) (by omega) (by rw [u4]; omega) (by rw [u4]; omega)) (by rw [u4])
    · rw [(u5.2.1 p a b).2.2, u4]
      congr 1
      refine propext ⟨fun q => ⟨q.1, by omega⟩, fun q => ⟨q.1, Or.inl q.2⟩⟩
    · rw [u4] at c
      exact (sRun_inv hI hP).2.2.2 (by omega) p
theorem op_drain {σ : MM} (h : ST σ) : OpN (X5_drain σ) X6_drain := by
  have hI := h.1.1
  have hP := hI.1.2.2.2.2.1
  have hT := hI.1.2.2.1
  obtain ⟨σ1, q1, q2, q3, q4⟩ := X5_simulate_eq h
  have hl := sLen_b (ρ := sRun (σ 59) (σ 59 4)) (B := 184 * σ 59 2) (fun p a b => ⟨(q4.1 p a b).1, (q4.1 p a b).2.1⟩)
  have he := sEnd_b (P := σ 59 4) (hi := σ 59 4) hI hP (by omega) hl.1
  refine opN_ro (r := sLen (sRun (σ 59) (σ 59 4)) - sEnd (sRun (σ 59) (σ 59 4)) (σ 59 4) (sLen (sRun (σ 59) (σ 59 4))) 0) h ⟨σ1, ?_, SE.frC q2⟩ (fun σ' h' hg => ?_)
  · unfold X5_drain X3_earliestEnd
    rw [q1, Option.bind_some, X3_earliestEnd_L7_eq (fun p a b => ⟨(q3.1.1 p a b).2.1, (q3.1.1 p a b).1⟩) 100000 _ 0 (by omega) (by omega) (by omega), Option.bind_some, q3.2.1, sEnd_P hI, gd_t (by omega)]
  · obtain ⟨σ2, u1, u2, u3, u4, u5⟩ := X6_runs_st hg hI
    refine ⟨σ2, ?_, u2⟩
    unfold X6_drain
    rw [mlet_eq, u1, Option.bind_some]
    refine Eq.trans (X6_drain_L14_eq (σ := σ2) (ρ := sRun (σ 59) (σ 59 4)) (by rw [u4]; exact hP) (fun p a b => ⟨?_, (u5.1.1 p a b).1⟩) 100000 _ 0 (by omega) (by rw [u4]; omega) (by rw [u4]; omega)) (by rw [u4]; exact gd_t (by omega))
    rw [(u5.2.1 p a b).2.1, if_neg (by omega)]
theorem op_total {σ : MM} (h : ST σ) (a1 a2 : Int) : OpX (X5_total a1 a2 σ) (X6_total a1 a2) kB2 := by
  have hI := h.1.1
  have hn := hI.1.1
  have hP := hI.1.2.2.2.2.1
  have hT := hI.1.2.2.1
  have e4 : σ 11 2 = σ 59 4 := h.2.1.2.2.1.2.2.1
  by_cases c : 0 ≤ a1 ∧ a1 < σ 59 4
  · obtain ⟨σ1, q1, q2, q3, q4⟩ := X5_simulate_eq h
    have ha : 0 ≤ a1 ∧ a1 < 6 := by omega
    have hb := q4.1 a1 ha.1 ha.2
    have hs := sSum_b hI hn.1 (Int.le_refl _)
    have hri := sRun_inv hI hP
    have hbusy := hri.2.1 a1
    rw [sOffP_sum hI] at hbusy
    have hcl : X5_total a1 a2 σ = (if a2 = 0 then some (0, σ1 54 a1, σ1) else if a2 = 1 then some (0, sRun (σ 59) (σ 59 4) 1 a1 * sSum (σ 59), σ1) else if a2 = 2 then some (0, σ1 56 a1, σ1) else if a2 = 3 then some (0, σ1 57 a1, σ1) else some (1, 0, σ1)) := by
      unfold X5_total
      rw [if_neg (by omega), if_pos (by omega), q1, Option.bind_some, X0_sumOfCosts_eq hI (q2.rl (by decide) h.2.1), Option.bind_some, gd_t ha, gd_t ha, gd_t ha, gd_t ha, (q3.1.1 a1 ha.1 ha.2).2.1, gd_t (by omega)]
    have hrf : ∀ σ' : MM, σ' 59 = σ 59 → ∃ σ2 : MM, X6_total a1 a2 σ' = (if a2 = 0 then some (σ2 69 a1, σ2) else if a2 = 1 then some (σ2 70 a1, σ2) else if a2 = 2 then some (σ2 71 a1, σ2) else if a2 = 3 then some (σ2 67 a1, σ2) else some (0, zup σ2 58 3 2)) ∧ SE σ' σ2 ∧ σ2 58 3 = 0 ∧ rRun σ2 (σ 59) (sRun (σ 59) (σ 59 4)) (σ 59 2) := by
      intro σ' hg
      obtain ⟨σ2, u1, u2, u3, u4, u5⟩ := X6_runs_st hg hI
      refine ⟨σ2, ?_, u2, u3, u5⟩
      unfold X6_total
      rw [mlet_eq, zup59, hg, gd_t (by omega), X6_in_eq, if_pos (by omega), Option.bind_some, if_neg (by decide), u1, Option.bind_some]
      simp only [X6_fails_eq, Option.bind_some, gd_t ha]
    by_cases c0 : a2 = 0
    · refine opX_ok (r := sRun (σ 59) (σ 59 4) 1 a1) rfl h ⟨σ1, by rw [hcl, if_pos c0, (q3.1.1 a1 ha.1 ha.2).2.1], SE.frC q2⟩ (fun σ' h' hg _ => ?_)
      obtain ⟨σ2, u1, u2, u3, u5⟩ := hrf σ' hg
      exact ⟨σ2, by rw [u1, if_pos c0, (u5.2.1 a1 ha.1 ha.2).2.1, if_neg (by omega)], u2, u3⟩
    by_cases c1 : a2 = 1
    · refine opX_ok (r := sRun (σ 59) (σ 59 4) 1 a1 * sSum (σ 59)) rfl h ⟨σ1, by rw [hcl, if_neg c0, if_pos c1], SE.frC q2⟩ (fun σ' h' hg _ => ?_)
      obtain ⟨σ2, u1, u2, u3, u5⟩ := hrf σ' hg
      exact ⟨σ2, by rw [u1, if_neg c0, if_pos c1, (u5.2.1 a1 ha.1 ha.2).1, hbusy], u2, u3⟩
    by_cases c2 : a2 = 2
    · refine opX_ok (r := sRun (σ 59) (σ 59 4) 3 a1) rfl h ⟨σ1, by rw [hcl, if_neg c0, if_neg c1, if_pos c2, (q3.1.1 a1 ha.1 ha.2).2.2.2], SE.frC q2⟩ (fun σ' h' hg _ => ?_)
      obtain ⟨σ2, u1, u2, u3, u5⟩ := hrf σ' hg
      exact ⟨σ2, by rw [u1, if_neg c0, if_neg c1, if_pos c2, (u5.1.1 a1 ha.1 ha.2).2], u2, u3⟩
    by_cases c3 : a2 = 3
    · refine opX_ok (r := sRun (σ 59) (σ 59 4) 0 a1) rfl h ⟨σ1, by rw [hcl, if_neg c0, if_neg c1, if_neg c2, if_pos c3, (q3.1.1 a1 ha.1 ha.2).1], SE.frC q2⟩ (fun σ' h' hg _ => ?_)
      obtain ⟨σ2, u1, u2, u3, u5⟩ := hrf σ' hg
      exact ⟨σ2, by rw [u1, if_neg c0, if_neg c1, if_neg c2, if_pos c3, (u5.1.1 a1 ha.1 ha.2).1], u2, u3⟩
    · refine opX_ro (xo := 1) (r := 0) h ⟨σ1, by rw [hcl, if_neg c0, if_neg c1, if_neg c2, if_neg c3], SE.frC q2⟩ (fun σ' h' hg _ => ?_)
      obtain ⟨σ2, u1, u2, u3, u5⟩ := hrf σ' hg
      exact ⟨0, zup σ2 58 3 2, by rw [u1, if_neg c0, if_neg c1, if_neg c2, if_neg c3], u2.tr SE.thr, zup_s, fun e => absurd e (by decide)⟩
  · refine opX_bad (xo := 3) h ?_ (by decide) (fun σ' h' hg => ?_)
    · unfold X5_total
      by_cases c1 : a1 < 0
      · rw [if_pos c1]
      · rw [if_neg c1, if_neg (by omega)]
    · unfold X6_total
      rw [mlet_eq, zup59, hg, gd_t (by omega), X6_in_eq, if_neg (by omega), Option.bind_some, if_pos rfl, X6_fails_eq]
      rfl
