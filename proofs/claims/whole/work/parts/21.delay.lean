theorem sRL_congr {σ σ' : MM} {b : Nat} {g : Int → Int} (hR : sRL σ b g) (h : ∀ j : Nat, j < 11 → j ≠ 4 → σ' (b + j) = σ (b + j)) : sRL σ' b g := by
  have e0 := h 0 (by omega) (by omega)
  have e1 := h 1 (by omega) (by omega)
  have e2 := h 2 (by omega) (by omega)
  have e3 := h 3 (by omega) (by omega)
  have e5 := h 5 (by omega) (by omega)
  have e6 := h 6 (by omega) (by omega)
  have e7 := h 7 (by omega) (by omega)
  have e8 := h 8 (by omega) (by omega)
  have e9 := h 9 (by omega) (by omega)
  have e10 := h 10 (by omega) (by omega)
  rw [Nat.add_zero] at e0
  unfold sRL at hR ⊢
  rw [e0, e1, e2, e3, e5, e6, e7, e8, e9, e10]
  exact hR
def sOffP (g : Int → Int) (p : Int) : Int := fdI (fun q a => a + sCost g (g (20 + q))) 0 p 0
def sOff (g : Int → Int) (s : Int) : Int := sOffP g (plc g s)
theorem sOffP_0 (g : Int → Int) : sOffP g 0 = 0 := fdI_ge (Int.le_refl 0)
theorem sOffP_s (g : Int → Int) {p : Int} (h : 0 ≤ p) : sOffP g (p + 1) = sOffP g p + sCost g (g (20 + p)) := fdI_last h
theorem sOffP_b {g : Int → Int} (hI : sInv0 g) {p : Int} (h1 : 0 ≤ p) (h2 : p ≤ g 0) : 0 ≤ sOffP g p ∧ sOffP g p ≤ 9 * p := by
  refine fdI_inv (P := fun q a => 0 ≤ a ∧ a ≤ 9 * q) h1 (by omega) (fun q a h3 h4 h5 => ?_)
  have h6 := hI.2.2.1 q h3 (by omega)
  have h7 := sCost_b hI h6.1 h6.2
  omega
theorem sOff_b {g : Int → Int} (hI : sInv0 g) {s : Int} (h1 : 0 ≤ s) (h2 : s < g 0) : 0 ≤ sOff g s ∧ sOff g s ≤ 72 := by
  have h3 := (plc_spec hI h1 h2).1
  have h4 := sOffP_b hI h3.1 (by omega)
  have h5 := hI.1.1
  unfold sOff
  omega
theorem X6_offset_L4_eq {σ : MM} {s : Int} {k : Int → Option Int} (hI : sInv0 (σ 59)) (h1 : 0 ≤ s) (h2 : s < σ 59 0) : ∀ (n : Nat) (x2 x3 : Int), 0 ≤ x3 → x3 ≤ plc (σ 59) s → plc (σ 59) s - x3 < n → x2 = sOffP (σ 59) x3 → X6_offset_L4 s σ k n x2 x3 = k (sOff (σ 59) s) := by
  obtain ⟨⟨h3, h4⟩, h5⟩ := plc_spec hI h1 h2
  have h0 := hI.1.1
  intro n
  induction n with
  | zero => intro x2 x3 h6 h7 h8; omega
  | succ n ih =>
    intro x2 x3 h6 h7 h8 h9
    rw [X6_offset_L4, gd_t (by omega)]
    by_cases c : σ 59 (20 + x3) = s
    · rw [if_pos c]
      have e : x3 = plc (σ 59) s := hI.2.2.2.1 x3 _ h6 (by omega) h3 h4 (by rw [c, h5])
      rw [h9, e]
      rfl
    · rw [if_neg c]
      have hne : x3 ≠ plc (σ 59) s := fun e => c (by rw [e, h5])
      have h10 := hI.2.2.1 x3 h6 (by omega)
      have h11 := sCost_b hI h10.1 h10.2
      have h12 := sOffP_b hI h6 (by omega)
      rw [X6_cost_eq (by omega), Option.bind_some, gd_t (by omega)]
      exact ih _ _ (by omega) (by omega) (by omega) (by rw [sOffP_s _ h6, h9])
theorem X6_offset_eq {σ : MM} (hI : sInv0 (σ 59)) {s : Int} (h1 : 0 ≤ s) (h2 : s < σ 59 0) : X6_offset s σ = some (sOff (σ 59) s) := by
  have h3 := (plc_spec hI h1 h2).1
  have h0 := hI.1.1
  unfold X6_offset
  rw [X6_offset_L4_eq hI h1 h2 100000 0 0 (by omega) (by omega) (by omega) (sOffP_0 _).symm]
theorem X0_measureOffsets_L4_eq {b : Nat} {g : Int → Int} {k : MM → Option MM} (hI : sInv0 g) : ∀ (n : Nat) (x1 x2 : Int) (σ : MM), sRL σ b g → 0 ≤ x2 → x2 ≤ g 0 → g 0 - x2 < n → x1 = sOffP g x2 → (∀ p, 0 ≤ p → p < x2 → σ (b + 4) (g (20 + p)) = sOffP g p) →
    ∃ σ' : MM, X0_measureOffsets_L4 b k n x1 x2 σ = k σ' ∧ (∀ j : Nat, j ≠ b + 4 → σ' j = σ j) ∧ ∀ p, 0 ≤ p → p < g 0 → σ' (b + 4) (g (20 + p)) = sOffP g p := by
  have h0 := hI.1.1
  intro n
  induction n with
  | zero => intro x1 x2 σ hR h1 h2 h3; omega
  | succ n ih =>
    intro x1 x2 σ hR h1 h2 h3 h4 h5
    have hR0 := hR
    obtain ⟨e0, -, -, e4, -⟩ := hR0
    rw [X0_measureOffsets_L4]
    by_cases c : x2 < g 0
    · have h6 := hI.2.2.1 x2 h1 c
      obtain ⟨-, -, e3⟩ := e4 x2 h1 c
      have h7 := sCost_b hI h6.1 h6.2
      have h8 := sOffP_b hI h1 h2
      obtain ⟨f1, -, -⟩ := e4 _ h6.1 h6.2
      rw [e0, if_pos c, gd_t (by omega), e3, X0_hasStatement_eq, e0, if_pos h6, Option.bind_some, if_neg (by decide), gd_t (by omega)]
      simp only [mlet_eq]
      rw [show zup σ (b + 4) (g (20 + x2)) x1 (b + 1) = σ (b + 1) from zup_ne (by omega), f1, gd_t (by omega)]
      obtain ⟨σ', q1, q2, q3⟩ := ih (x1 + sCost g (g (20 + x2))) (x2 + 1) (zup σ (b + 4) (g (20 + x2)) x1) (sRL_congr hR (fun j hj hj4 => zup_ne (by omega))) (by omega) (by omega) (by omega) (by rw [sOffP_s _ h1, h4]) (fun p h9 h10 => by
        unfold zup
        by_cases e : p = x2
        · rw [e, if_pos ⟨rfl, rfl⟩, h4]
        · rw [if_neg (fun q => e (hI.2.2.2.1 p x2 h9 (by omega) h1 c q.2))]
          exact h5 p h9 (by omega))
      exact ⟨σ', q1, fun j hj => by rw [q2 j hj, zup_ne hj], q3⟩
    · rw [e0, if_neg c]
      exact ⟨σ, rfl, fun _ _ => rfl, fun p h9 h10 => h5 p h9 (by omega)⟩
theorem X0_measureOffsets_eq {σ : MM} {b : Nat} {g : Int → Int} (hI : sInv0 g) (hR : sRL σ b g) : ∃ σ' : MM, X0_measureOffsets b σ = some σ' ∧ (∀ j : Nat, j ≠ b + 4 → σ' j = σ j) ∧ ∀ s, 0 ≤ s → s < g 0 → σ' (b + 4) s = sOff g s := by
  have h0 := hI.1.1
  obtain ⟨σ', q1, q2, q3⟩ := X0_measureOffsets_L4_eq (k := fun σ => some σ) hI 100000 0 0 σ hR (by omega) (by omega) (by omega) (sOffP_0 g).symm (fun p h1 h2 => by omega)
  refine ⟨σ', q1, q2, fun s h1 h2 => ?_⟩
  obtain ⟨h3, h4⟩ := plc_spec hI h1 h2
  have := q3 _ h3.1 h3.2
  rw [h4] at this
  exact this
/-- what a signal asks of the delay -/
def sDelT (g : Int → Int) (d : Int) : Int := if 0 < sOff g (sSrc g d) + sLag g d - sOff g (sTgt g d) then (sOff g (sSrc g d) + sLag g d - sOff g (sTgt g d) + sFar g d - 1) / sFar g d else 0
def sDel (g : Int → Int) (but : Int) : Int := fdI (fun d a => if d = but then a else if sSig g d = 0 then a else max a (sDelT g d)) 0 (g 1) 0
theorem sDelT_b {g : Int → Int} (hI : sInv0 g) {d : Int} (h1 : 0 ≤ d) (h2 : d < g 1) (hs : ¬ sSig g d = 0) : 0 ≤ sDelT g d ∧ sDelT g d ≤ 100 := by
  obtain ⟨-, h4, h5, h6, -⟩ := hI.2.2.2.2.2 d h1 h2
  have h7 := sOff_b hI h4.1 h4.2
  have h8 := sOff_b hI h5.1 h5.2
  have h9 := sLag_b hI h1 h2
  have h10 : 0 < sFar g d := by
    unfold sSig at hs
    split at hs
    · rename_i q; exact q.2
    · exact absurd rfl hs
  unfold sDelT
  split
  · refine ⟨Int.ediv_nonneg (by omega) (by omega), ?_⟩
    refine Int.le_trans (Int.ediv_le_self _ (by omega)) (by omega)
  · omega
theorem X6_delayBut_L4_eq {σ : MM} {but : Int} {k : Int → Option Int} (hI : sInv0 (σ 59)) : ∀ (n : Nat) (x2 x3 : Int), 0 ≤ x3 → x3 ≤ σ 59 1 → σ 59 1 - x3 < n → 0 ≤ x2 ∧ x2 ≤ 100 → X6_delayBut_L4 but σ k n x2 x3 = k (fdI (fun d a => if d = but then a else if sSig (σ 59) d = 0 then a else max a (sDelT (σ 59) d)) x3 (σ 59 1) x2) := by
  have h0 := hI.1.2.1
  have h00 := hI.1.1
  intro n
  induction n with
  | zero => intro x2 x3 h1 h2 h3; omega
  | succ n ih =>
    intro x2 x3 h1 h2 h3 h4
    rw [X6_delayBut_L4]
    by_cases c : x3 < σ 59 1
    · have hd : 0 ≤ x3 ∧ x3 < 16 := by omega
      rw [if_pos c, fdI_lt c]
      by_cases c1 : x3 = but
      · rw [if_pos c1, if_pos c1]
        exact ih _ _ (by omega) (by omega) (by omega) h4
      · rw [if_neg c1, if_neg c1, X6_isSignal_eq hd, Option.bind_some]
        by_cases c2 : sSig (σ 59) x3 = 0
        · rw [if_pos c2, if_pos c2]
          exact ih _ _ (by omega) (by omega) (by omega) h4
        · obtain ⟨-, h6, h7, h8, -⟩ := hI.2.2.2.2.2 x3 h1 c
          have h9 := sOff_b hI h6.1 h6.2
          have h10 := sOff_b hI h7.1 h7.2
          have h11 := sLag_b hI h1 c
          have h12 := sDelT_b hI h1 c c2
          have h13 : 0 < sFar (σ 59) x3 := by
            unfold sSig at c2
            split at c2
            · rename_i q; exact q.2
            · exact absurd rfl c2
          rw [if_neg c2, if_neg c2]
          simp only [X6_source_eq hd, X6_target_eq hd, X6_far_eq hd, Option.bind_some, X6_offset_eq hI h6.1 h6.2, X6_offset_eq hI h7.1 h7.2, X6_lag_eq hI h1 c]
          rw [gd_t (by omega)]
          have key : ∀ y : Int, y = sDelT (σ 59) x3 → X6_delayBut_J82 but (X6_delayBut_L4 but σ k n) x2 x3 y σ = k (fdI (fun d a => if d = but then a else if sSig (σ 59) d = 0 then a else max a (sDelT (σ 59) d)) (x3 + 1) (σ 59 1) (max x2 (sDelT (σ 59) x3))) := by
            intro y hy
            subst hy
            unfold X6_delayBut_J82
            by_cases c3 : x2 < sDelT (σ 59) x3
            · rw [if_pos c3, gd_t (by omega), show max x2 (sDelT (σ 59) x3) = sDelT (σ 59) x3 by omega]
              exact ih _ _ (by omega) (by omega) (by omega) h12
            · rw [if_neg c3, gd_t (by omega), show max x2 (sDelT (σ 59) x3) = x2 by omega]
              exact ih _ _ (by omega) (by omega) (by omega) h4
          by_cases c4 : 0 < sOff (σ 59) (sSrc (σ 59) x3) + sLag (σ 59) x3 - sOff (σ 59) (sTgt (σ 59) x3)
          · rw [if_pos c4, gd_t (by omega), gd_t (by omega)]
            exact key _ (by unfold sDelT; rw [if_pos c4])
          · rw [if_neg c4]
            exact key _ (by unfold sDelT; rw [if_neg c4])
    · rw [if_neg c, fdI_ge (by omega)]
theorem X6_delayBut_eq {σ : MM} (hI : sInv0 (σ 59)) (but : Int) : X6_delayBut but σ = some (sDel (σ 59) but) := by
  have h0 := hI.1.2.1
  unfold X6_delayBut
  rw [X6_delayBut_L4_eq hI 100000 0 0 (by omega) (by omega) (by omega) (by omega)]
  rfl
theorem sDel_b {g : Int → Int} (hI : sInv0 g) (but : Int) : 0 ≤ sDel g but ∧ sDel g but ≤ 100 := by
  have h0 := hI.1.2.1
  refine fdI_inv (P := fun _ a => 0 ≤ a ∧ a ≤ 100) (by omega) (by omega) (fun d a h1 h2 h3 => ?_)
  by_cases c1 : d = but
  · simp only [if_pos c1]; exact h3
  · by_cases c2 : sSig g d = 0
    · simp only [if_neg c1, if_pos c2]; exact h3
    · have := sDelT_b hI h1 h2 c2
      simp only [if_neg c1, if_neg c2]
      omega
theorem X0_delayBy_eq {σ : MM} {b : Nat} {g : Int → Int} (hI : sInv0 g) (hR : sRL σ b g) (hO : ∀ s, 0 ≤ s → s < g 0 → σ (b + 4) s = sOff g s) {d : Int} (h1 : 0 ≤ d) (h2 : d < g 1) (hs : ¬ sSig g d = 0) : X0_delayBy b d σ = some (sDelT g d) := by
  have h0 := hI.1.2.1
  have h00 := hI.1.1
  have hR0 := hR
  obtain ⟨-, e1, -, -, h3⟩ := hR0
  obtain ⟨-, e6, e7, e8, -⟩ := h3 d h1 h2
  obtain ⟨-, h4, h5, h6, -⟩ := hI.2.2.2.2.2 d h1 h2
  have h9 := sOff_b hI h4.1 h4.2
  have h10 := sOff_b hI h5.1 h5.2
  have h11 := sLag_b hI h1 h2
  have h13 : 0 < sFar g d := by
    unfold sSig at hs
    split at hs
    · rename_i q; exact q.2
    · exact absurd rfl hs
  unfold X0_delayBy sDelT
  rw [X0_hasDependence_eq, if_pos (by omega), Option.bind_some, if_neg (by decide), gd_t (by omega), e6, e7, e8, X0_offsetOf_at (by omega), X0_offsetOf_at (by omega), X0_lagOf_eq hI hR h1 h2, hO _ h4.1 h4.2, hO _ h5.1 h5.2, Option.bind_some, Option.bind_some, Option.bind_some, gd_t (by omega)]
  by_cases c : 0 < sOff g (sSrc g d) + sLag g d - sOff g (sTgt g d)
  · rw [if_pos c, if_pos h13, if_pos c, gd_t (by omega), gd_t (by omega)]
  · rw [if_neg c, if_neg c]
theorem X0_delayWithout_L8_eq {σ : MM} {b : Nat} {g : Int → Int} {but : Int} {k : Int → MM → Option (Int × MM)} (hI : sInv0 g) (hR : sRL σ b g) (hO : ∀ s, 0 ≤ s → s < g 0 → σ (b + 4) s = sOff g s) : ∀ (n : Nat) (x2 x3 : Int), 0 ≤ x3 → x3 ≤ g 1 → g 1 - x3 < n → X0_delayWithout_L8 b but k n x2 x3 σ = k (fdI (fun d a => if d = but then a else if sSig g d = 0 then a else max a (sDelT g d)) x3 (g 1) x2) σ := by
  intro n
  induction n with
  | zero => intro x2 x3 h1 h2 h3; omega
  | succ n ih =>
    intro x2 x3 h1 h2 h3
    rw [X0_delayWithout_L8, hR.2.1]
    by_cases c : x3 < g 1
    · rw [if_pos c, fdI_lt c]
      by_cases c1 : x3 = but
      · rw [if_pos c1, if_pos c1]
        exact ih _ _ (by omega) (by omega) (by omega)
      · rw [if_neg c1, if_neg c1, X0_isSignalled_eq hI hR h1 c, Option.bind_some]
        by_cases c2 : sSig g x3 = 0
        · rw [if_pos c2, if_pos c2]
          exact ih _ _ (by omega) (by omega) (by omega)
        · rw [if_neg c2, if_neg c2, X0_delayBy_eq hI hR hO h1 c c2, Option.bind_some]
          exact ih _ _ (by omega) (by omega) (by omega)
    · rw [if_neg c, fdI_ge (by omega)]
theorem X0_delayWithout_eq {σ : MM} {b : Nat} {g : Int → Int} (hI : sInv0 g) (hR : sRL σ b g) (but : Int) : ∃ σ' : MM, X0_delayWithout b but σ = some (sDel g but, σ') ∧ (∀ j : Nat, j ≠ b + 4 → σ' j = σ j) := by
  have h0 := hI.1.2.1
  obtain ⟨σ', q1, q2, q3⟩ := X0_measureOffsets_eq hI hR
  refine ⟨σ', ?_, q2⟩
  unfold X0_delayWithout
  rw [q1, Option.bind_some, X0_delayWithout_L8_eq hI (sRL_congr hR (fun j hj hj4 => q2 _ (by omega))) q3 100000 0 0 (by omega) (by omega) (by omega)]
  rfl
