/-! THE RUN: rho holds, by processor, in row 0 the time when it is free, 1 its iterations, 2 its first start, 3 its stalls; in row 4 the processor by iteration; in row 10 + s the starts of s by iteration -/
def rup (ρ : Int → Int → Int) (r i v : Int) : Int → Int → Int := fun r' i' => if r' = r ∧ i' = i then v else ρ r' i'
theorem rup_s {ρ : Int → Int → Int} {r i v : Int} : rup ρ r i v r i = v := by simp [rup]
theorem rup_n {ρ : Int → Int → Int} {r i v r' i' : Int} (h : r' ≠ r ∨ i' ≠ i) : rup ρ r i v r' i' = ρ r' i' := by
  unfold rup
  rw [if_neg (fun q => by rcases h with h | h; exact h q.1; exact h q.2)]
theorem zup_s {σ : MM} {k : Nat} {i v : Int} : zup σ k i v k i = v := by simp [zup]
theorem zup_i {σ : MM} {k k' : Nat} {i i' v : Int} (h : i' ≠ i) : zup σ k i v k' i' = σ k' i' := by
  unfold zup
  rw [if_neg (fun q => h q.2)]
theorem zup_k {σ : MM} {k k' : Nat} {i i' v : Int} (h : k' ≠ k) : zup σ k i v k' i' = σ k' i' := by
  unfold zup
  rw [if_neg (fun q => h q.1)]
def sFrom (g : Int → Int) (ρ : Int → Int → Int) (i d : Int) : Int := ρ (10 + sSrc g d) (i - sFar g d) + sLag g d
def sBegF (g : Int → Int) (ρ : Int → Int → Int) (s i : Int) : Int → Int → Int := fun d a => if sTgt g d = s ∧ sFar g d ≤ i ∧ ¬ sSig g d = 0 then max a (sFrom g ρ i d) else a
def sBeg (g : Int → Int) (ρ : Int → Int → Int) (s i a : Int) : Int := fdI (sBegF g ρ s i) 0 (g 1) a
theorem sBegF_max (g : Int → Int) (ρ : Int → Int → Int) (s i : Int) : ∀ (n : Nat) (lo a b : Int), fdN (sBegF g ρ s i) n lo (max a b) = max a (fdN (sBegF g ρ s i) n lo b) := by
  intro n
  induction n with
  | zero => intro lo a b; rfl
  | succ n ih =>
    intro lo a b
    show fdN _ n (lo + 1) (sBegF g ρ s i lo (max a b)) = max a (fdN _ n (lo + 1) (sBegF g ρ s i lo b))
    rw [← ih]
    congr 1
    unfold sBegF
    split <;> omega
theorem sBeg_max {g : Int → Int} {ρ : Int → Int → Int} {s i a : Int} (h : 0 ≤ a) : sBeg g ρ s i a = max a (sBeg g ρ s i 0) := by
  have := sBegF_max g ρ s i (g 1 - 0).toNat 0 a 0
  rw [show max a 0 = a by omega] at this
  exact this
def sStmt (g : Int → Int) (i p : Int) (t : Int) (ρ : Int → Int → Int) : Int → Int → Int :=
  rup (rup (rup (if t = 0 ∧ ρ 1 p = 0 then rup ρ 2 p (sBeg g ρ (g (20 + t)) i (ρ 0 p)) else ρ) 3 p (ρ 3 p + (sBeg g ρ (g (20 + t)) i (ρ 0 p) - ρ 0 p))) 0 p (sBeg g ρ (g (20 + t)) i (ρ 0 p) + sCost g (g (20 + t)))) (10 + g (20 + t)) i (sBeg g ρ (g (20 + t)) i (ρ 0 p))
def sFirst (ρ : Int → Int → Int) (P : Int) : Int := fdI (fun k a => if ρ 0 k < ρ 0 a then k else a) 1 P 0
def sProc (g : Int → Int) (P i : Int) (ρ : Int → Int → Int) : Int := if g 5 = 0 then i % P else if g 5 = 1 then i * P / g 2 else sFirst ρ P
def sStmts (g : Int → Int) (i p : Int) (ρ : Int → Int → Int) : Int → Int → Int := fdI (sStmt g i p) 0 (g 0) ρ
def sIter (g : Int → Int) (P : Int) (i : Int) (ρ : Int → Int → Int) : Int → Int → Int :=
  rup (sStmts g i (sProc g P i ρ) (rup ρ 4 i (sProc g P i ρ))) 1 (sProc g P i ρ) (sStmts g i (sProc g P i ρ) (rup ρ 4 i (sProc g P i ρ)) 1 (sProc g P i ρ) + 1)
def sRun (g : Int → Int) (P : Int) : Int → Int → Int := fdI (sIter g P) 0 (g 2) (fun _ _ => 0)
def sLen (ρ : Int → Int → Int) : Int := fdI (fun p a => max a (ρ 0 p)) 0 6 0
def sDone (g : Int → Int) (i t s i' : Int) : Prop := i' < i ∨ (i' = i ∧ plc g s < t)
/-- bounds of the run so far: the clock is at most B -/
def sBd (g : Int → Int) (ρ : Int → Int → Int) (i t B : Int) : Prop :=
  (∀ p, 0 ≤ p → p < 6 → 0 ≤ ρ 0 p ∧ ρ 0 p ≤ B ∧ 0 ≤ ρ 3 p ∧ ρ 3 p ≤ ρ 0 p ∧ 0 ≤ ρ 1 p ∧ ρ 1 p ≤ i ∧ 0 ≤ ρ 2 p ∧ ρ 2 p ≤ B) ∧
  (∀ s i', 0 ≤ s → s < g 0 → 0 ≤ i' → sDone g i t s i' → 0 ≤ ρ (10 + s) i' ∧ ρ (10 + s) i' ≤ B)
/-- the class's rows hold the run -/
def sRC (σ : MM) (g : Int → Int) (ρ : Int → Int → Int) (i t : Int) : Prop :=
  (∀ p, 0 ≤ p → p < 6 → σ 57 p = ρ 0 p ∧ σ 54 p = ρ 1 p ∧ σ 55 p = ρ 2 p ∧ σ 56 p = ρ 3 p) ∧
  (∀ s i', 0 ≤ s → s < g 0 → 0 ≤ i' → sDone g i t s i' → σ 52 (i' * 8 + s) = ρ (10 + s) i')
/-- the reference's rows hold the run -/
def sRR (σ : MM) (g : Int → Int) (ρ : Int → Int → Int) (i t : Int) : Prop :=
  (∀ p, 0 ≤ p → p < 6 → σ 67 p = ρ 0 p ∧ σ 71 p = ρ 3 p) ∧
  (∀ s i', 0 ≤ s → s < g 0 → 0 ≤ i' → sDone g i t s i' → σ 65 (40 * s + i') = ρ (10 + s) i')
theorem sSig_far {g : Int → Int} {d : Int} (h : ¬ sSig g d = 0) : 0 < sFar g d ∧ sKp g d = 1 := by
  unfold sSig at h
  split at h
  · rename_i q; exact ⟨q.2, q.1⟩
  · exact absurd rfl h
theorem sFrom_b {g : Int → Int} {ρ : Int → Int → Int} {i t B d : Int} (hI : sInv0 g) (hB : sBd g ρ i t B) (h1 : 0 ≤ d) (h2 : d < g 1) (hf : sFar g d ≤ i) (hs : ¬ sSig g d = 0) : 1 ≤ sFrom g ρ i d ∧ sFrom g ρ i d ≤ B + 14 := by
  obtain ⟨-, h4, -, h6, -⟩ := hI.2.2.2.2.2 d h1 h2
  have h7 := sLag_b hI h1 h2
  have h8 := (sSig_far hs).1
  have h9 := hB.2 _ (i - sFar g d) h4.1 h4.2 (by omega) (Or.inl (by omega))
  unfold sFrom
  omega
theorem sBeg_b {g : Int → Int} {ρ : Int → Int → Int} {i t B s a : Int} (hI : sInv0 g) (hB : sBd g ρ i t B) (ha : 0 ≤ a ∧ a ≤ B) : a ≤ sBeg g ρ s i a ∧ sBeg g ρ s i a ≤ B + 14 := by
  have h0 := hI.1.2.1
  refine fdI_inv (P := fun _ x => a ≤ x ∧ x ≤ B + 14) (by omega) (by omega) (fun d x h1 h2 h3 => ?_)
  unfold sBegF
  split
  · rename_i q
    have := sFrom_b hI hB h1 h2 q.2.1 q.2.2
    omega
  · exact h3
theorem sStmt_bd {g : Int → Int} {ρ : Int → Int → Int} {i p t B : Int} (hI : sInv0 g) (hB : sBd g ρ i t B) (hi : 0 ≤ i) (hp : 0 ≤ p ∧ p < 6) (ht : 0 ≤ t) (ht2 : t < g 0) (hB0 : 0 ≤ B) : sBd g (sStmt g i p t ρ) i (t + 1) (B + 23) := by
  have hs := hI.2.2.1 t ht ht2
  have hc := sCost_b hI hs.1 hs.2
  have hfp := hB.1 p hp.1 hp.2
  have hb := sBeg_b (s := g (20 + t)) hI hB (a := ρ 0 p) ⟨hfp.1, hfp.2.1⟩
  refine ⟨fun q h1 h2 => ?_, fun s i' h1 h2 h3 h4 => ?_⟩
  · have hq := hB.1 q h1 h2
    unfold sStmt
    rw [rup_n (Or.inl (by omega)), rup_n (r' := 3) (Or.inl (by omega)), rup_n (r' := 1) (Or.inl (by omega)), rup_n (r' := 2) (Or.inl (by omega)), rup_n (r := 0) (r' := 3) (Or.inl (by omega)), rup_n (r := 0) (r' := 1) (Or.inl (by omega)), rup_n (r := 0) (r' := 2) (Or.inl (by omega)), rup_n (r := 3) (r' := 1) (Or.inl (by omega)), rup_n (r := 3) (r' := 2) (Or.inl (by omega))]
    by_cases e : q = p
    · subst e
      rw [rup_s, rup_s]
      have h5 : (if t = 0 ∧ ρ 1 q = 0 then rup ρ 2 q (sBeg g ρ (g (20 + t)) i (ρ 0 q)) else ρ) 1 q = ρ 1 q := by
        split
        · exact rup_n (Or.inl (by omega))
        · rfl
      have h6 : 0 ≤ (if t = 0 ∧ ρ 1 q = 0 then rup ρ 2 q (sBeg g ρ (g (20 + t)) i (ρ 0 q)) else ρ) 2 q ∧ (if t = 0 ∧ ρ 1 q = 0 then rup ρ 2 q (sBeg g ρ (g (20 + t)) i (ρ 0 q)) else ρ) 2 q ≤ B + 14 := by
        split
        · rw [rup_s]; omega
        · omega
      rw [h5]
      omega
    · rw [rup_n (r := 0) (r' := 0) (Or.inr e), rup_n (r := 3) (r' := 0) (Or.inl (by omega)), rup_n (r := 3) (r' := 3) (Or.inr e)]
      have h5 : ∀ r, (if t = 0 ∧ ρ 1 p = 0 then rup ρ 2 p (sBeg g ρ (g (20 + t)) i (ρ 0 p)) else ρ) r q = ρ r q := by
        intro r
        split
        · exact rup_n (Or.inr e)
        · rfl
      rw [h5, h5, h5, h5]
      omega
  · unfold sStmt
    by_cases e : s = g (20 + t) ∧ i' = i
    · obtain ⟨rfl, rfl⟩ := e
      rw [rup_s]
      omega
    · rw [rup_n (by omega), rup_n (Or.inl (by omega)), rup_n (Or.inl (by omega))]
      have h5 : (if t = 0 ∧ ρ 1 p = 0 then rup ρ 2 p (sBeg g ρ (g (20 + t)) i (ρ 0 p)) else ρ) (10 + s) i' = ρ (10 + s) i' := by
        split
        · exact rup_n (Or.inl (by omega))
        · rfl
      rw [h5]
      have h6 : sDone g i t s i' := by
        rcases h4 with h4 | ⟨h4, h7⟩
        · exact Or.inl h4
        · by_cases e2 : plc g s = t
          · exact absurd ⟨by rw [← (plc_spec hI h1 h2).2, e2], h4⟩ e
          · exact Or.inr ⟨h4, by omega⟩
      have := hB.2 s i' h1 h2 h3 h6
      omega
theorem X3_startOf_at {σ : MM} {s i : Int} (hs : 0 ≤ s ∧ s < 8) (hi : 0 ≤ i ∧ i < 40) : X3_startOf s i σ = some (σ 52 (i * 8 + s)) := by
  unfold X3_startOf X3_isCell
  rw [if_neg (by omega), if_pos hs.2, if_neg (by omega), if_pos hi.2, Option.bind_some, if_neg (by decide), gd_t (by omega)]
theorem X3_latestSignal_L6_eq {σ : MM} {b : Nat} {g : Int → Int} {ρ : Int → Int → Int} {s i t B : Int} {k : Int → Option Int} (hI : sInv0 g) (hR : sRL σ b g) (hC : sRC σ g ρ i t) (hB : sBd g ρ i t B) (hi : 0 ≤ i ∧ i < 40) (hB2 : B ≤ 1000000) : ∀ (n : Nat) (x4 x5 : Int), 0 ≤ x5 → x5 ≤ g 1 → g 1 - x5 < n → X3_latestSignal_L6 b s i σ k n x4 x5 = k (fdI (sBegF g ρ s i) x5 (g 1) x4) := by
  have h0 := hI.1.2.1
  have h00 := hI.1.1
  intro n
  induction n with
  | zero => intro x4 x5 h1 h2 h3; omega
  | succ n ih =>
    intro x4 x5 h1 h2 h3
    have hR0 := hR
    obtain ⟨-, e1, -, -, h4⟩ := hR0
    rw [X3_latestSignal_L6, e1]
    by_cases c : x5 < g 1
    · obtain ⟨-, e6, e7, e8, -⟩ := h4 x5 h1 c
      obtain ⟨-, h6, h7, h8, -⟩ := hI.2.2.2.2.2 x5 h1 c
      rw [if_pos c, fdI_lt c, gd_t (by omega), e6, e7, e8]
      have hno : ¬ (sTgt g x5 = s ∧ sFar g x5 ≤ i ∧ ¬ sSig g x5 = 0) → sBegF g ρ s i x5 x4 = x4 := fun q => by unfold sBegF; rw [if_neg q]
      by_cases c1 : sTgt g x5 = s
      · rw [if_pos c1]
        by_cases c2 : i < sFar g x5
        · rw [if_pos c2, hno (by omega)]
          exact ih _ _ (by omega) (by omega) (by omega)
        · rw [if_neg c2, X0_isSignalled_eq hI hR h1 c, Option.bind_some]
          by_cases c3 : sSig g x5 = 0
          · rw [if_pos c3, hno (fun q => q.2.2 c3)]
            exact ih _ _ (by omega) (by omega) (by omega)
          · have h9 := (sSig_far c3).1
            have h10 := sFrom_b hI hB h1 c (by omega) c3
            have h11 := sLag_b hI h1 c
            have h12 : σ 52 ((i - sFar g x5) * 8 + sSrc g x5) = ρ (10 + sSrc g x5) (i - sFar g x5) := hC.2 _ _ h6.1 h6.2 (by omega) (Or.inl (by omega))
            have h13 := hB.2 _ (i - sFar g x5) h6.1 h6.2 (by omega) (Or.inl (by omega))
            rw [if_neg c3, gd_t (by omega), X3_startOf_at (by omega) (by omega), X0_lagOf_eq hI hR h1 c, Option.bind_some, Option.bind_some, h12, gd_t (by omega)]
            have e : sBegF g ρ s i x5 x4 = max x4 (ρ (10 + sSrc g x5) (i - sFar g x5) + sLag g x5) := by
              unfold sBegF
              rw [if_pos ⟨c1, by omega, c3⟩]
              rfl
            rw [e]
            exact ih _ _ (by omega) (by omega) (by omega)
      · rw [if_neg c1, hno (fun q => c1 q.1)]
        exact ih _ _ (by omega) (by omega) (by omega)
    · rw [if_neg c, fdI_ge (by omega)]
theorem X3_latestSignal_eq {σ : MM} {b : Nat} {g : Int → Int} {ρ : Int → Int → Int} {s i t B : Int} (hI : sInv0 g) (hR : sRL σ b g) (hC : sRC σ g ρ i t) (hB : sBd g ρ i t B) (hi : 0 ≤ i ∧ i < 40) (hB2 : B ≤ 1000000) : X3_latestSignal b s i σ = some (sBeg g ρ s i 0) := by
  have h0 := hI.1.2.1
  unfold X3_latestSignal
  rw [X3_latestSignal_L6_eq hI hR hC hB hi hB2 100000 0 0 (by omega) (by omega) (by omega)]
  rfl
/-- what the class's run may change -/
def frC (σ σ' : MM) : Prop := ∀ j : Nat, j < 51 ∨ 57 < j → σ' j = σ j
theorem frC.rf {σ : MM} : frC σ σ := fun _ _ => rfl
theorem frC.tr {σ σ' σ'' : MM} (h : frC σ σ') (h' : frC σ' σ'') : frC σ σ'' := fun j hj => (h' j hj).trans (h j hj)
theorem frC.up {σ : MM} {k : Nat} {i v : Int} (h : 51 ≤ k ∧ k ≤ 57) : frC σ (zup σ k i v) := fun j hj => zup_ne (by omega)
theorem frC.rl {σ σ' : MM} {b : Nat} {g : Int → Int} (h : frC σ σ') (hb : b + 10 < 51) (hR : sRL σ b g) : sRL σ' b g := sRL_congr hR (fun j hj _ => h _ (by omega))
theorem X3_stmt {σ : MM} {b : Nat} {g : Int → Int} {ρ : Int → Int → Int} {i p t B : Int} {k : Int → MM → Option MM} (hI : sInv0 g) (hb : b + 10 < 51) (hR : sRL σ b g) (hC : sRC σ g ρ i t) (hB : sBd g ρ i t B) (hi : 0 ≤ i ∧ i < 40) (hp : 0 ≤ p ∧ p < 6) (ht : 0 ≤ t) (ht2 : t < g 0) (hB0 : 0 ≤ B ∧ B ≤ 1000000) (σ2 : MM) (h2 : σ2 = if t = 0 ∧ ρ 1 p = 0 then zup σ 55 p (sBeg g ρ (g (20 + t)) i (ρ 0 p)) else σ) :
    ∃ σ' : MM, X3_runIteration_J72 b i p k t (g (20 + t)) (sBeg g ρ (g (20 + t)) i (ρ 0 p)) σ2 = k (t + 1) σ' ∧ frC σ σ' ∧ σ' 51 = σ 51 ∧ σ' 53 = σ 53 ∧ sRC σ' g (sStmt g i p t ρ) i (t + 1) := by
  have h0 := hI.1.1
  have hs := hI.2.2.1 t ht ht2
  have hc := sCost_b hI hs.1 hs.2
  have hfp := hB.1 p hp.1 hp.2
  have hcp := hC.1 p hp.1 hp.2
  have hbg := sBeg_b (s := g (20 + t)) hI hB (a := ρ 0 p) ⟨hfp.1, hfp.2.1⟩
  obtain ⟨-, -, -, e4, -⟩ := hR
  obtain ⟨f1, -, -⟩ := e4 _ hs.1 hs.2
  have g2 : ∀ j : Nat, j ≠ 55 → σ2 j = σ j := by
    intro j hj
    rw [h2]
    split
    · exact zup_ne hj
    · rfl
  generalize hbe : sBeg g ρ (g (20 + t)) i (ρ 0 p) = bg at *
  unfold X3_runIteration_J72 X3_keepStart X3_isCell
  rw [gd_t hp, g2 56 (by decide), g2 57 (by decide), hcp.1, hcp.2.2.2, gd_t (by omega)]
  simp only [mlet_eq]
  rw [X0_costOf_at (by omega), Option.bind_some, show zup σ2 56 p (ρ 3 p + (bg - ρ 0 p)) (b + 1) = σ (b + 1) from (zup_ne (by omega)).trans (g2 _ (by omega)), f1, gd_t (by omega), if_neg (by omega), if_pos (by omega), if_neg (by omega), if_pos (by omega), Option.bind_some, if_neg (by decide), gd_t (by omega), Option.bind_some, gd_t (by omega)]
  refine ⟨_, rfl, ?_, ?_, ?_, ?_, ?_⟩
  · intro j hj
    rw [zup_ne (by omega), zup_ne (by omega), zup_ne (by omega), g2 j (by omega)]
  · rw [zup_ne (by decide), zup_ne (by decide), zup_ne (by decide), g2 _ (by decide)]
  · rw [zup_ne (by decide), zup_ne (by decide), zup_ne (by decide), g2 _ (by decide)]
  · intro q h3 h4
    have hq := hC.1 q h3 h4
    rw [zup_k (k := 52) (k' := 57) (by decide), zup_k (k := 52) (k' := 54) (by decide), zup_k (k := 52) (k' := 55) (by decide), zup_k (k := 52) (k' := 56) (by decide), zup_k (k := 57) (k' := 54) (by decide), zup_k (k := 57) (k' := 55) (by decide), zup_k (k := 57) (k' := 56) (by decide), zup_k (k := 56) (k' := 54) (by decide), zup_k (k := 56) (k' := 55) (by decide), g2 54 (by decide)]
    unfold sStmt
    rw [hbe, rup_n (r := 10 + g (20 + t)) (r' := 0) (Or.inl (by omega)), rup_n (r := 10 + g (20 + t)) (r' := 1) (Or.inl (by omega)), rup_n (r := 10 + g (20 + t)) (r' := 2) (Or.inl (by omega)), rup_n (r := 10 + g (20 + t)) (r' := 3) (Or.inl (by omega)), rup_n (r := 0) (r' := 1) (Or.inl (by omega)), rup_n (r := 0) (r' := 2) (Or.inl (by omega)), rup_n (r := 0) (r' := 3) (Or.inl (by omega)), rup_n (r := 3) (r' := 1) (Or.inl (by omega)), rup_n (r := 3) (r' := 2) (Or.inl (by omega))]
    have hfst : σ2 55 q = (if t = 0 ∧ ρ 1 p = 0 then rup ρ 2 p bg else ρ) 2 q := by
      rw [h2]
      split
      · by_cases e : q = p
        · rw [e, zup_s, rup_s]
        · rw [zup_i e, rup_n (Or.inr e)]
          exact hq.2.2.1
      · exact hq.2.2.1
    have hcnt : (if t = 0 ∧ ρ 1 p = 0 then rup ρ 2 p bg else ρ) 1 q = ρ 1 q := by
      split
      · exact rup_n (Or.inl (by omega))
      · rfl
    refine ⟨?_, by rw [hcnt]; exact hq.2.1, hfst, ?_⟩
    · by_cases e : q = p
      · rw [e, zup_s, rup_s]
      · rw [zup_i e, zup_k (by decide), g2 57 (by decide), rup_n (Or.inr e), rup_n (Or.inl (by omega)), hq.1]
        split
        · rw [rup_n (Or.inl (by omega))]
        · rfl
    · by_cases e : q = p
      · rw [e, zup_s, rup_s]
      · rw [zup_i e, g2 56 (by decide), rup_n (Or.inr e), hq.2.2.2]
        split
        · rw [rup_n (Or.inl (by omega))]
        · rfl
  · intro s i' h3 h4 h5 h6
    unfold sStmt
    rw [hbe]
    by_cases e : s = g (20 + t) ∧ i' = i
    · obtain ⟨rfl, rfl⟩ := e
      rw [zup_s, rup_s]
    · have h7 : sDone g i t s i' := by
        rcases h6 with h6 | ⟨h6, h7⟩
        · exact Or.inl h6
        · by_cases e2 : plc g s = t
          · exact absurd ⟨by rw [← (plc_spec hI h3 h4).2, e2], h6⟩ e
          · exact Or.inr ⟨h6, by omega⟩
      rw [zup_i (by omega), zup_k (by decide), zup_k (by decide), g2 52 (by decide), rup_n (by omega), rup_n (Or.inl (by omega)), rup_n (Or.inl (by omega)), hC.2 s i' h3 h4 h5 h7]
      split
      · rw [rup_n (Or.inl (by omega))]
      · rfl
theorem X3_runIteration_L14_eq {b : Nat} {g : Int → Int} {i p : Int} {k : MM → Option MM} (hI : sInv0 g) (hb : b + 10 < 51) (hi : 0 ≤ i ∧ i < 40) (hp : 0 ≤ p ∧ p < 6) : ∀ (n : Nat) (t B : Int) (σ : MM) (ρ : Int → Int → Int), sRL σ b g → sRC σ g ρ i t → sBd g ρ i t B → 0 ≤ t → t ≤ g 0 → g 0 - t < n → 0 ≤ B ∧ B ≤ 10000 + 23 * t →
    ∃ σ' : MM, X3_runIteration_L14 b i p k n t σ = k σ' ∧ frC σ σ' ∧ σ' 51 = σ 51 ∧ σ' 53 = σ 53 ∧ sRC σ' g (fdI (sStmt g i p) t (g 0) ρ) i (g 0) ∧ sBd g (fdI (sStmt g i p) t (g 0) ρ) i (g 0) (B + 23 * (g 0 - t)) := by
  have h0 := hI.1.1
  intro n
  induction n with
  | zero => intro t B σ ρ hR hC hB h1 h2 h3; omega
  | succ n ih =>
    intro t B σ ρ hR hC hB h1 h2 h3 h4
    rw [X3_runIteration_L14, hR.1]
    by_cases c : t < g 0
    · have hs := hI.2.2.1 t h1 c
      have hfp := hB.1 p hp.1 hp.2
      have hcp := hC.1 p hp.1 hp.2
      obtain ⟨-, -, e3⟩ := hR.2.2.2.1 t h1 c
      have hst : sBd g (sStmt g i p t ρ) i (t + 1) (B + 23) := sStmt_bd hI hB hi.1 hp h1 c h4.1
      have fin : ∀ σ2 : MM, σ2 = (if t = 0 ∧ ρ 1 p = 0 then zup σ 55 p (sBeg g ρ (g (20 + t)) i (ρ 0 p)) else σ) → ∃ σ' : MM, X3_runIteration_J72 b i p (X3_runIteration_L14 b i p k n) t (g (20 + t)) (sBeg g ρ (g (20 + t)) i (ρ 0 p)) σ2 = k σ' ∧ frC σ σ' ∧ σ' 51 = σ 51 ∧ σ' 53 = σ 53 ∧ sRC σ' g (fdI (sStmt g i p) (t + 1) (g 0) (sStmt g i p t ρ)) i (g 0) ∧ sBd g (fdI (sStmt g i p) (t + 1) (g 0) (sStmt g i p t ρ)) i (g 0) (B + 23 * (g 0 - t)) := by
        intro σ2 hσ2
        obtain ⟨σ', q1, q2, q3, q4, q5⟩ := X3_stmt (k := X3_runIteration_L14 b i p k n) hI hb hR hC hB hi hp h1 c (by omega) σ2 hσ2
        obtain ⟨σ'', r1, r2, r3, r4, r5, r6⟩ := ih (t + 1) (B + 23) σ' (sStmt g i p t ρ) (q2.rl hb hR) q5 hst (by omega) (by omega) (by omega) (by omega)
        exact ⟨σ'', by rw [q1, r1], q2.tr r2, r3.trans q3, r4.trans q4, r5, by rw [show B + 23 * (g 0 - t) = B + 23 + 23 * (g 0 - (t + 1)) by omega]; exact r6⟩
      rw [if_pos c, fdI_lt c, X0_statementAt_at (by omega), Option.bind_some, e3, gd_t hp, X3_latestSignal_eq hI hR hC hB hi (by omega), Option.bind_some, hcp.1, hcp.2.1, ← sBeg_max hfp.1]
      by_cases c1 : t = 0
      · rw [if_pos c1]
        by_cases c2 : ρ 1 p = 0
        · rw [if_pos c2]
          exact fin _ (by rw [if_pos ⟨c1, c2⟩])
        · rw [if_neg c2]
          exact fin _ (by rw [if_neg (fun q => c2 q.2)])
      · rw [if_neg c1]
        exact fin _ (by rw [if_neg (fun q => c1 q.1)])
    · have e : t = g 0 := by omega
      rw [if_neg c, fdI_ge (by omega), ← e, show B + 23 * (t - t) = B by omega]
      exact ⟨σ, rfl, frC.rf, rfl, rfl, hC, hB⟩
