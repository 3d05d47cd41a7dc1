theorem sDone_next {g : Int → Int} (hI : sInv0 g) {i s i' : Int} (h1 : 0 ≤ s) (h2 : s < g 0) : sDone g (i + 1) 0 s i' ↔ sDone g i (g 0) s i' := by
  have h3 := (plc_spec hI h1 h2).1
  unfold sDone
  omega
/-- the rows behind one statement -/
theorem sStmt_rows {g : Int → Int} {ρ : Int → Int → Int} {i p t : Int} (hs : 0 ≤ g (20 + t)) :
    (∀ q, sStmt g i p t ρ 0 q = if q = p then sBeg g ρ (g (20 + t)) i (ρ 0 p) + sCost g (g (20 + t)) else ρ 0 q) ∧
    (∀ q, sStmt g i p t ρ 3 q = if q = p then ρ 3 p + (sBeg g ρ (g (20 + t)) i (ρ 0 p) - ρ 0 p) else ρ 3 q) ∧
    (∀ q, sStmt g i p t ρ 1 q = ρ 1 q) ∧ (∀ q, sStmt g i p t ρ 4 q = ρ 4 q) ∧
    (∀ q, sStmt g i p t ρ 2 q = if q = p ∧ t = 0 ∧ ρ 1 p = 0 then sBeg g ρ (g (20 + t)) i (ρ 0 p) else ρ 2 q) := by
  have a : ∀ r q, r ≠ 2 → (if t = 0 ∧ ρ 1 p = 0 then rup ρ 2 p (sBeg g ρ (g (20 + t)) i (ρ 0 p)) else ρ) r q = ρ r q := by
    intro r q hr
    split
    · exact rup_n (Or.inl hr)
    · rfl
  unfold sStmt
  refine ⟨fun q => ?_, fun q => ?_, fun q => ?_, fun q => ?_, fun q => ?_⟩
  · rw [rup_n (Or.inl (by omega))]
    by_cases e : q = p
    · rw [if_pos e, e, rup_s]
    · rw [if_neg e, rup_n (Or.inr e), rup_n (Or.inl (by omega)), a 0 q (by omega)]
  · rw [rup_n (Or.inl (by omega)), rup_n (Or.inl (by omega))]
    by_cases e : q = p
    · rw [if_pos e, e, rup_s]
    · rw [if_neg e, rup_n (Or.inr e), a 3 q (by omega)]
  · rw [rup_n (Or.inl (by omega)), rup_n (Or.inl (by omega)), rup_n (Or.inl (by omega)), a 1 q (by omega)]
  · rw [rup_n (Or.inl (by omega)), rup_n (Or.inl (by omega)), rup_n (Or.inl (by omega)), a 4 q (by omega)]
  · rw [rup_n (Or.inl (by omega)), rup_n (Or.inl (by omega)), rup_n (Or.inl (by omega))]
    by_cases e : q = p
    · subst e
      by_cases e2 : t = 0 ∧ ρ 1 q = 0
      · rw [if_pos e2, if_pos ⟨rfl, e2⟩, rup_s]
      · rw [if_neg e2, if_neg (fun q => e2 q.2)]
    · rw [if_neg (show ¬ (q = p ∧ t = 0 ∧ ρ 1 p = 0) from fun z => e z.1)]
      split
      · exact rup_n (Or.inr e)
      · rfl
theorem sStmts_inv {g : Int → Int} {ρ : Int → Int → Int} {i p B : Int} (hI : sInv0 g) (hB : sBd g ρ i 0 B) (hi : 0 ≤ i) (hp : 0 ≤ p ∧ p < 6) (hB0 : 0 ≤ B) :
    sBd g (sStmts g i p ρ) i (g 0) (B + 23 * g 0) ∧ (∀ q, q ≠ p → sStmts g i p ρ 0 q = ρ 0 q ∧ sStmts g i p ρ 3 q = ρ 3 q) ∧ ρ 0 p ≤ sStmts g i p ρ 0 p ∧ (∀ q, sStmts g i p ρ 1 q = ρ 1 q) ∧ (∀ q, sStmts g i p ρ 4 q = ρ 4 q) ∧ sStmts g i p ρ 0 p - sStmts g i p ρ 3 p = ρ 0 p - ρ 3 p + sOffP g (g 0) := by
  have h0 := hI.1.1
  refine fdI_inv (P := fun t ρ' => sBd g ρ' i t (B + 23 * t) ∧ (∀ q, q ≠ p → ρ' 0 q = ρ 0 q ∧ ρ' 3 q = ρ 3 q) ∧ ρ 0 p ≤ ρ' 0 p ∧ (∀ q, ρ' 1 q = ρ 1 q) ∧ (∀ q, ρ' 4 q = ρ 4 q) ∧ ρ' 0 p - ρ' 3 p = ρ 0 p - ρ 3 p + sOffP g t) h0.1 ?_ (fun t ρ' h1 h2 h3 => ?_)
  · refine ⟨by rw [show B + 23 * 0 = B by omega]; exact hB, fun _ _ => ⟨rfl, rfl⟩, Int.le_refl _, fun _ => rfl, fun _ => rfl, by rw [sOffP_0]; omega⟩
  · obtain ⟨q1, q2, q3, q4, q5, q6⟩ := h3
    have hs := hI.2.2.1 t h1 h2
    have hc := sCost_b hI hs.1 hs.2
    obtain ⟨r0, r3, r1, r4, -⟩ := sStmt_rows (g := g) (ρ := ρ') (i := i) (p := p) (t := t) hs.1
    have hf := q1.1 p hp.1 hp.2
    have hb := sBeg_b (s := g (20 + t)) hI q1 (a := ρ' 0 p) ⟨hf.1, hf.2.1⟩
    refine ⟨?_, fun q hq => ⟨by rw [r0, if_neg hq]; exact (q2 q hq).1, by rw [r3, if_neg hq]; exact (q2 q hq).2⟩, by rw [r0, if_pos rfl]; omega, fun q => by rw [r1]; exact q4 q, fun q => by rw [r4]; exact q5 q, ?_⟩
    · rw [show B + 23 * (t + 1) = B + 23 * t + 23 by omega]
      exact sStmt_bd hI q1 hi hp h1 h2 (by omega)
    · rw [r0, if_pos rfl, r3, if_pos rfl, sOffP_s _ h1]
      omega
theorem sFirst_b {ρ : Int → Int → Int} {P : Int} (hP : 1 ≤ P) : 0 ≤ sFirst ρ P ∧ sFirst ρ P < P := by
  refine fdI_inv (P := fun k a => 0 ≤ a ∧ a < k) hP (by omega) (fun k a h1 h2 h3 => ?_)
  by_cases c : ρ 0 k < ρ 0 a
  · simp only [if_pos c]; omega
  · simp only [if_neg c]; omega
theorem sProc_b {g : Int → Int} {ρ : Int → Int → Int} {P i : Int} (hP : 1 ≤ P) (hi : 0 ≤ i) (hi2 : i < g 2) : 0 ≤ sProc g P i ρ ∧ sProc g P i ρ < P := by
  unfold sProc
  split
  · exact ⟨Int.emod_nonneg _ (by omega), Int.emod_lt_of_pos _ (by omega)⟩
  · split
    · refine ⟨Int.ediv_nonneg (Int.mul_nonneg hi (by omega)) (by omega), ?_⟩
      refine Int.ediv_lt_of_lt_mul (by omega) ?_
      rw [Int.mul_comm P (g 2)]
      exact Int.mul_lt_mul_of_pos_right hi2 (by omega)
    · exact sFirst_b hP
theorem sLen_eq (ρ : Int → Int → Int) : sLen ρ = max (max (max (max (max (max 0 (ρ 0 0)) (ρ 0 1)) (ρ 0 2)) (ρ 0 3)) (ρ 0 4)) (ρ 0 5) := rfl
theorem sIter_rows {g : Int → Int} {ρ : Int → Int → Int} {P i : Int} (r : Int) (q : Int) (h : r ≠ 1 ∨ q ≠ sProc g P i ρ) : sIter g P i ρ r q = sStmts g i (sProc g P i ρ) (rup ρ 4 i (sProc g P i ρ)) r q := rup_n h
theorem sIter_inv {g : Int → Int} {ρ : Int → Int → Int} {i P B : Int} (hI : sInv0 g) (hB : sBd g ρ i 0 B) (hi : 0 ≤ i ∧ i < g 2) (hP : 1 ≤ P ∧ P ≤ 6) (hB0 : 0 ≤ B) (hz : ∀ q, 0 ≤ q → q < 6 → 0 ≤ ρ 0 q) :
    sBd g (sIter g P i ρ) (i + 1) 0 (B + 184) ∧ sLen (sIter g P i ρ) = max (sLen ρ) (sIter g P i ρ 0 (sProc g P i ρ)) ∧
    (∀ q, sIter g P i ρ 1 q = if q = sProc g P i ρ then ρ 1 q + 1 else ρ 1 q) ∧ (∀ q, sIter g P i ρ 4 q = if q = i then sProc g P i ρ else ρ 4 q) ∧
    (∀ q, sIter g P i ρ 0 q - sIter g P i ρ 3 q = if q = sProc g P i ρ then ρ 0 q - ρ 3 q + sOffP g (g 0) else ρ 0 q - ρ 3 q) := by
  have h0 := hI.1.1
  have hp := sProc_b (ρ := ρ) hP.1 hi.1 hi.2
  have hB' : sBd g (rup ρ 4 i (sProc g P i ρ)) i 0 B := by
    refine ⟨fun p h1 h2 => ?_, fun s i' h1 h2 h3 h4 => ?_⟩
    · rw [rup_n (Or.inl (by omega)), rup_n (Or.inl (by omega)), rup_n (Or.inl (by omega)), rup_n (Or.inl (by omega))]
      exact hB.1 p h1 h2
    · rw [rup_n (Or.inl (by omega))]
      exact hB.2 s i' h1 h2 h3 h4
  obtain ⟨q1, q2, q3, q4, q5, q6⟩ := sStmts_inv (p := sProc g P i ρ) hI hB' hi.1 (by omega) hB0
  have n0 : ∀ q, rup ρ 4 i (sProc g P i ρ) 0 q = ρ 0 q := fun q => rup_n (Or.inl (by omega))
  have n1 : ∀ q, rup ρ 4 i (sProc g P i ρ) 1 q = ρ 1 q := fun q => rup_n (Or.inl (by omega))
  have n3 : ∀ q, rup ρ 4 i (sProc g P i ρ) 3 q = ρ 3 q := fun q => rup_n (Or.inl (by omega))
  have f0 : ∀ q, sIter g P i ρ 0 q = sStmts g i (sProc g P i ρ) (rup ρ 4 i (sProc g P i ρ)) 0 q := fun q => sIter_rows 0 q (Or.inl (by omega))
  have f3 : ∀ q, sIter g P i ρ 3 q = sStmts g i (sProc g P i ρ) (rup ρ 4 i (sProc g P i ρ)) 3 q := fun q => sIter_rows 3 q (Or.inl (by omega))
  have c1 : ∀ q, sIter g P i ρ 1 q = if q = sProc g P i ρ then ρ 1 q + 1 else ρ 1 q := by
    intro q
    by_cases e : q = sProc g P i ρ
    · rw [if_pos e]
      unfold sIter
      rw [e, rup_s, q4, n1]
    · rw [if_neg e, sIter_rows 1 q (Or.inr e), q4, n1]
  refine ⟨⟨fun p h1 h2 => ?_, fun s i' h1 h2 h3 h4 => ?_⟩, ?_, c1, fun q => ?_, fun q => ?_⟩
  · have h5 := q1.1 p h1 h2
    have h6 := hB.1 p h1 h2
    rw [f0, f3, c1, sIter_rows 2 p (Or.inl (by omega))]
    split <;> omega
  · have h5 := q1.2 s i' h1 h2 h3 ((sDone_next hI h1 h2).mp h4)
    rw [sIter_rows (10 + s) i' (Or.inl (by omega))]
    omega
  · have e0 : ∀ q, q ≠ sProc g P i ρ → sIter g P i ρ 0 q = ρ 0 q := fun q hq => by rw [f0, (q2 q hq).1, n0]
    have e1 : ρ 0 (sProc g P i ρ) ≤ sIter g P i ρ 0 (sProc g P i ρ) := by rw [f0, ← n0]; exact q3
    generalize hpp : sProc g P i ρ = p at *
    rw [sLen_eq, sLen_eq]
    have z := hz p (by omega) (by omega)
    have hcase : p = 0 ∨ p = 1 ∨ p = 2 ∨ p = 3 ∨ p = 4 ∨ p = 5 := by omega
    rcases hcase with rfl | rfl | rfl | rfl | rfl | rfl
    · rw [e0 1 (by decide), e0 2 (by decide), e0 3 (by decide), e0 4 (by decide), e0 5 (by decide)]; omega
    · rw [e0 0 (by decide), e0 2 (by decide), e0 3 (by decide), e0 4 (by decide), e0 5 (by decide)]; omega
    · rw [e0 0 (by decide), e0 1 (by decide), e0 3 (by decide), e0 4 (by decide), e0 5 (by decide)]; omega
    · rw [e0 0 (by decide), e0 1 (by decide), e0 2 (by decide), e0 4 (by decide), e0 5 (by decide)]; omega
    · rw [e0 0 (by decide), e0 1 (by decide), e0 2 (by decide), e0 3 (by decide), e0 5 (by decide)]; omega
    · rw [e0 0 (by decide), e0 1 (by decide), e0 2 (by decide), e0 3 (by decide), e0 4 (by decide)]; omega
  · rw [sIter_rows 4 q (Or.inl (by omega)), q5]
    by_cases e : q = i
    · rw [if_pos e, e, rup_s]
    · rw [if_neg e, rup_n (Or.inr e)]
  · rw [f0, f3]
    by_cases e : q = sProc g P i ρ
    · rw [if_pos e, e, q6, n0, n3]
    · rw [if_neg e, (q2 q e).1, (q2 q e).2, n0, n3]
theorem X3_firstFree_L4_eq {σ : MM} {ρ : Int → Int → Int} {P : Int} {k : Int → Option Int} (hP : 1 ≤ P ∧ P ≤ 6) (hC : ∀ p, 0 ≤ p → p < 6 → σ 57 p = ρ 0 p) : ∀ (n : Nat) (x2 x3 : Int), 0 ≤ x2 → x2 < x3 → x3 ≤ P → P - x3 < n → X3_firstFree_L4 P σ k n x2 x3 = k (fdI (fun k a => if ρ 0 k < ρ 0 a then k else a) x3 P x2) := by
  intro n
  induction n with
  | zero => intro x2 x3 h1 h2 h3 h4; omega
  | succ n ih =>
    intro x2 x3 h1 h2 h3 h4
    rw [X3_firstFree_L4]
    by_cases c : x3 < P
    · rw [if_pos c, if_pos (by omega), gd_t (by omega), gd_t (by omega), hC _ (by omega) (by omega), hC _ h1 (by omega), fdI_lt c]
      by_cases c2 : ρ 0 x3 < ρ 0 x2
      · rw [if_pos c2, if_pos c2]
        exact ih _ _ (by omega) (by omega) (by omega) (by omega)
      · rw [if_neg c2, if_neg c2]
        exact ih _ _ (by omega) (by omega) (by omega) (by omega)
    · rw [if_neg c, fdI_ge (by omega)]
theorem X3_choose_eq {σ : MM} {b : Nat} {g : Int → Int} {ρ : Int → Int → Int} {P i : Int} (hI : sInv0 g) (hR : sRL σ b g) (hP : 1 ≤ P ∧ P ≤ 6) (hi : 0 ≤ i ∧ i < g 2) (hC : ∀ p, 0 ≤ p → p < 6 → σ 57 p = ρ 0 p) : X3_choose b i P σ = some (sProc g P i ρ) := by
  obtain ⟨-, -, ⟨e2, -, -, e5⟩, -, -⟩ := hR
  have h2 := hI.1.2.2.1
  have h5 := hI.1.2.2.2.2.2
  have hm1 : 0 ≤ i * P := Int.mul_nonneg hi.1 (by omega)
  have hm2 : i * P ≤ 40 * 6 := Int.mul_le_mul (by omega) hP.2 (by omega) (by omega)
  unfold X3_choose sProc
  rw [if_neg (by omega), e2, if_neg (by omega), e5]
  by_cases c : g 5 = 1
  · rw [if_pos c, if_neg (by omega), if_pos c, gd_t (by omega), gd_t (by omega)]
  · rw [if_neg c]
    by_cases c2 : g 5 = 2
    · rw [if_pos c2, if_neg (by omega), if_neg c]
      unfold X3_firstFree
      rw [X3_firstFree_L4_eq hP hC 100000 0 1 (by omega) (by omega) (by omega) (by omega), Option.bind_some]
      rfl
    · rw [if_neg c2, if_pos (by omega), gd_t (by omega)]
/-- the class's run, complete -/
def cRun (σ : MM) (g : Int → Int) (ρ : Int → Int → Int) (i : Int) : Prop := sRC σ g ρ i 0 ∧ σ 51 6 = sLen ρ ∧ (∀ i', 0 ≤ i' → i' < i → σ 53 i' = ρ 4 i')
theorem X3_runIteration_eq {σ : MM} {b : Nat} {g : Int → Int} {ρ : Int → Int → Int} {P i B : Int} (hI : sInv0 g) (hb : b + 10 < 51) (hR : sRL σ b g) (hP : 1 ≤ P ∧ P ≤ 6) (hi : 0 ≤ i ∧ i < g 2) (hC : sRC σ g (rup ρ 4 i (sProc g P i ρ)) i 0) (hB : sBd g ρ i 0 B) (hB0 : 0 ≤ B ∧ B ≤ 10000) (hl : σ 51 6 = sLen ρ) :
    ∃ σ' : MM, X3_runIteration b i (sProc g P i ρ) σ = some σ' ∧ frC σ σ' ∧ σ' 51 6 = sLen (sIter g P i ρ) ∧ σ' 53 = σ 53 ∧ sRC σ' g (sIter g P i ρ) (i + 1) 0 := by
  have h0 := hI.1.1
  have h2 := hI.1.2.2.1
  have hp := sProc_b (ρ := ρ) hP.1 hi.1 hi.2
  obtain ⟨w1, w2, w3, w4, w5⟩ := sIter_inv hI hB hi hP hB0.1 (fun q h1 h2 => (hB.1 q h1 h2).1)
  have hB' : sBd g (rup ρ 4 i (sProc g P i ρ)) i 0 B := by
    refine ⟨fun p h1 h2 => ?_, fun s i' h1 h2 h3 h4 => ?_⟩
    · rw [rup_n (Or.inl (by omega)), rup_n (Or.inl (by omega)), rup_n (Or.inl (by omega)), rup_n (Or.inl (by omega))]
      exact hB.1 p h1 h2
    · rw [rup_n (Or.inl (by omega))]
      exact hB.2 s i' h1 h2 h3 h4
  unfold X3_runIteration
  rw [if_neg (by omega), if_pos (by omega)]
  obtain ⟨σ', q1, q2, q3, q4, q5, q6⟩ := X3_runIteration_L14_eq (k := fun σ35 => gd (inR ((σ35 54 (sProc g P i ρ)) + 1)) <| mlet (zup σ35 54 (sProc g P i ρ) ((σ35 54 (sProc g P i ρ)) + 1)) fun σ38 => mlet (zup σ38 51 6 (max (σ38 51 6) (σ38 57 (sProc g P i ρ)))) fun σ43 => some σ43) hI hb (by omega) (p := sProc g P i ρ) (by omega) 100000 0 B σ _ hR hC hB' (by omega) (by omega) (by omega) (by omega)
  rw [q1]
  have hcp := q5.1 _ hp.1 (show sProc g P i ρ < 6 by omega)
  have hbp := q6.1 _ hp.1 (show sProc g P i ρ < 6 by omega)
  change sRC σ' g (sStmts g i (sProc g P i ρ) (rup ρ 4 i (sProc g P i ρ))) i (g 0) at q5
  rw [gd_t (by rw [hcp.2.1]; omega)]
  simp only [mlet_eq]
  refine ⟨_, rfl, ?_, ?_, ?_, ?_, ?_⟩
  · intro j hj
    rw [zup_ne (by omega), zup_ne (by omega)]
    exact q2 j hj
  · rw [zup_s, zup_k (by decide), zup_k (by decide), q3, hl, w2, hcp.1]
    rfl
  · rw [zup_ne (by decide), zup_ne (by decide), q4]
  · intro q h1 h3
    have hq := q5.1 q h1 h3
    rw [zup_k (k := 51) (by decide), zup_k (k := 51) (by decide), zup_k (k := 51) (by decide), zup_k (k := 51) (by decide), zup_k (k' := 57) (by decide), zup_k (k' := 55) (by decide), zup_k (k' := 56) (by decide), w3]
    refine ⟨by rw [hq.1, sIter_rows 0 q (Or.inl (by omega))], ?_, by rw [hq.2.2.1, sIter_rows 2 q (Or.inl (by omega))], by rw [hq.2.2.2, sIter_rows 3 q (Or.inl (by omega))]⟩
    by_cases e : q = sProc g P i ρ
    · rw [if_pos e, e, zup_s, hcp.2.1]
      have := w3 (sProc g P i ρ)
      rw [if_pos rfl] at this
      rw [← this]
      unfold sIter
      rw [rup_s]
      rfl
    · rw [if_neg e, zup_i e, hq.2.1, ← sIter_rows 1 q (Or.inr e), w3, if_neg e]
  · intro s i' h1 h3 h4 h5
    rw [zup_k (by decide), zup_k (by decide), q5.2 s i' h1 h3 h4 ((sDone_next hI h1 h3).mp h5), sIter_rows (10 + s) i' (Or.inl (by omega))]
theorem X3_simulate_L49_eq {b : Nat} {g : Int → Int} {P : Int} {k : MM → Option MM} (hI : sInv0 g) (hb : b + 10 < 51) (hP : 1 ≤ P ∧ P ≤ 6) : ∀ (n : Nat) (i : Int) (σ : MM) (ρ : Int → Int → Int), sRL σ b g → cRun σ g ρ i → sBd g ρ i 0 (184 * i) → 0 ≤ i → i ≤ g 2 → g 2 - i < n →
    ∃ σ' : MM, X3_simulate_L49 b P k n i σ = k σ' ∧ frC σ σ' ∧ cRun σ' g (fdI (sIter g P) i (g 2) ρ) (g 2) ∧ sBd g (fdI (sIter g P) i (g 2) ρ) (g 2) 0 (184 * g 2) := by
  have h00 := hI.1.2.2.1
  intro n
  induction n with
  | zero => intro i σ ρ hR hC hB h1 h2 h3; omega
  | succ n ih =>
    intro i σ ρ hR hC hB h1 h2 h3
    rw [X3_simulate_L49, hR.2.2.1.1]
    by_cases c : i < g 2
    · have hp := sProc_b (ρ := ρ) hP.1 h1 c
      rw [if_pos c, if_pos (by omega), X3_choose_eq hI hR hP ⟨h1, c⟩ (fun p h4 h5 => (hC.1.1 p h4 h5).1), Option.bind_some, gd_t (by omega), fdI_lt c]
      simp only [mlet_eq]
      have fr0 : frC σ (zup σ 53 i (sProc g P i ρ)) := frC.up (by decide)
      have hC1 : sRC (zup σ 53 i (sProc g P i ρ)) g (rup ρ 4 i (sProc g P i ρ)) i 0 := by
        refine ⟨fun q h4 h5 => ?_, fun s i' h4 h5 h6 h7 => ?_⟩
        · rw [zup_k (by decide), zup_k (by decide), zup_k (by decide), zup_k (by decide), rup_n (Or.inl (by omega)), rup_n (Or.inl (by omega)), rup_n (Or.inl (by omega)), rup_n (Or.inl (by omega))]
          exact hC.1.1 q h4 h5
        · rw [zup_k (by decide), rup_n (Or.inl (by omega))]
          exact hC.1.2 s i' h4 h5 h6 h7
      obtain ⟨σ', q1, q2, q3, q4, q5⟩ := X3_runIteration_eq hI hb (fr0.rl hb hR) hP ⟨h1, c⟩ hC1 hB (by omega) (by rw [zup_k (by decide)]; exact hC.2.1)
      obtain ⟨w1, w2, w3, w4, w5⟩ := sIter_inv hI hB ⟨h1, c⟩ hP (by omega) (fun q h1 h2 => (hB.1 q h1 h2).1)
      rw [q1, Option.bind_some]
      obtain ⟨σ'', r1, r2, r3, r4⟩ := ih (i + 1) σ' (sIter g P i ρ) ((fr0.tr q2).rl hb hR) ⟨q5, q3, fun i' h4 h5 => by
        rw [q4, w4]
        by_cases e : i' = i
        · rw [if_pos e, e, zup_s]
        · rw [if_neg e, zup_i e]
          exact hC.2.2 i' h4 (by omega)⟩ (by rw [show 184 * (i + 1) = 184 * i + 184 by omega]; exact w1) (by omega) (by omega) (by omega)
      exact ⟨σ'', r1, (fr0.tr q2).tr r2, r3, r4⟩
    · have e : i = g 2 := by omega
      rw [if_neg c, fdI_ge (by omega), ← e]
      exact ⟨σ, rfl, frC.rf, hC, hB⟩
theorem X3_simulate_L7_eq {b : Nat} {P : Int} {k : MM → Option MM} : ∀ (n : Nat) (x : Int) (σ : MM), 0 ≤ x → x ≤ 6 → 6 - x < n → (∀ p, 0 ≤ p → p < x → σ 57 p = 0 ∧ σ 54 p = 0 ∧ σ 55 p = 0 ∧ σ 56 p = 0) →
    ∃ σ' : MM, X3_simulate_L7 b P k n x σ = k σ' ∧ frC σ σ' ∧ σ' 51 = σ 51 ∧ (∀ p, 0 ≤ p → p < 6 → σ' 57 p = 0 ∧ σ' 54 p = 0 ∧ σ' 55 p = 0 ∧ σ' 56 p = 0) := by
  intro n
  induction n with
  | zero => intro x σ h1 h2 h3; omega
  | succ n ih =>
    intro x σ h1 h2 h3 h4
    rw [X3_simulate_L7]
    by_cases c : x < 6
    · rw [if_pos c, gd_t (by omega)]
      simp only [mlet_eq]
      obtain ⟨σ', q1, q2, q3, q4⟩ := ih (x + 1) (zup (zup (zup (zup σ 54 x 0) 55 x 0) 56 x 0) 57 x 0) (by omega) (by omega) (by omega) (fun p h5 h6 => by
        by_cases e : p = x
        · subst e
          simp [zup]
        · have := h4 p h5 (by omega)
          simp [zup, e, this])
      refine ⟨σ', q1, fun j hj => ?_, ?_, q4⟩
      · rw [q2 j hj, zup_ne (by omega), zup_ne (by omega), zup_ne (by omega), zup_ne (by omega)]
      · rw [q3, zup_ne (by decide), zup_ne (by decide), zup_ne (by decide), zup_ne (by decide)]
    · rw [if_neg c]
      exact ⟨σ, rfl, frC.rf, rfl, fun p h5 h6 => h4 p h5 (by omega)⟩
theorem sBd0 {g : Int → Int} (hI : sInv0 g) : sBd g (fun _ _ => 0) 0 0 0 := by
  refine ⟨fun p h1 h2 => by simp, fun s i' h1 h2 h3 h4 => by simp⟩
