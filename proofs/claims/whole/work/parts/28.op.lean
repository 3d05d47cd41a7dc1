/-- a refusal: the class throws and changes nothing, the reference fails -/
theorem opX_bad {σ : MM} {cls : Option (Int × Int × MM)} {ref : MM → Option (Int × MM)} {kc : Int → Int} {xo : Int} (h : ST σ) (hc : cls = some (xo, 0, σ)) (hx : xo ≠ 0) (hr : ∀ σ' : MM, ST σ' → σ' 59 = σ 59 → ref σ' = some (0, zup (zup σ' 58 3 0) 58 3 (kc xo))) (hb : 1 ≤ kc xo := by decide) : OpX cls ref kc :=
  opX_ro h ⟨σ, hc, SE.rf⟩ (fun σ' h' hg _ => ⟨0, _, hr σ' h' hg, (SE.thr).tr SE.thr, zup_s, fun e => absurd e hx⟩) (Or.inr hb)
/-- an answer from a state that neither side changes -/
theorem opX_ok {σ : MM} {cls : Option (Int × Int × MM)} {ref : MM → Option (Int × MM)} {kc : Int → Int} {r : Int} (hk : kc 0 = 0) (h : ST σ) (hc : ∃ σ1 : MM, cls = some (0, r, σ1) ∧ SE σ σ1) (hr : ∀ σ' : MM, ST σ' → σ' 59 = σ 59 → σ' 58 5 = σ 58 5 → ∃ σ2 : MM, ref σ' = some (r, σ2) ∧ SE σ' σ2 ∧ σ2 58 3 = 0) : OpX cls ref kc :=
  opX_ro h hc (fun σ' h' hg ht => by
    obtain ⟨σ2, q1, q2, q3⟩ := hr σ' h' hg ht
    exact ⟨r, σ2, q1, q2, by rw [q3, hk], fun _ => rfl⟩) (Or.inl rfl)
theorem X5_simulate_eq {σ : MM} (h : ST σ) : ∃ σ1 : MM, X5_simulate σ = some σ1 ∧ frC σ σ1 ∧ cRun σ1 (σ 59) (sRun (σ 59) (σ 59 4)) (σ 59 2) ∧ sBd (σ 59) (sRun (σ 59) (σ 59 4)) (σ 59 2) 0 (184 * σ 59 2) := by
  obtain ⟨σ1, q1, q2, q3, q4⟩ := X3_simulate_eq (b := 1) (P := σ 11 2) h.1.1 (by decide) h.2.1 (by rw [h.2.1.2.2.1.2.2.1]; exact h.1.1.1.2.2.2.2.1)
  rw [h.2.1.2.2.1.2.2.1] at q1 q3 q4
  refine ⟨σ1, ?_, q2, q3, q4⟩
  unfold X5_simulate
  rw [h.2.1.2.2.1.2.2.1, q1]
  rfl
theorem X6_runs_st {σ : MM} {g : Int → Int} (hg : σ 59 = g) (hI : sInv0 g) : ∃ σ2 : MM, X6_runs (zup σ 58 3 0) = some (sLen (sRun g (g 4)), σ2) ∧ SE σ σ2 ∧ σ2 58 3 = 0 ∧ σ2 59 = g ∧ rRun σ2 g (sRun g (g 4)) (g 2) := by
  obtain ⟨σ2, q1, q2, q3, q4⟩ := X6_runs_eq (σ := zup σ 58 3 0) (g := g) (by rw [zup59]; exact hg) hI
  exact ⟨σ2, q1, (SE.thr).tr (SE.frR q2), by rw [q2 58 (by decide)]; exact zup_s, by rw [q2.g, zup59]; exact hg, q3⟩
theorem op_statement {σ : MM} (h : ST σ) (a1 a2 : Int) : OpX (X5_statement a1 a2 σ) (X6_statement a1 a2) kB2 := by
  have hI := h.1.1
  have hb := hI.1.1
  obtain ⟨R0, R5, -, RS, -⟩ := h.2.1
  by_cases c : 0 ≤ a1 ∧ a1 < σ 59 0
  · have hs : 0 ≤ a1 ∧ a1 < 8 := by omega
    obtain ⟨e1, e2, e3⟩ := RS a1 c.1 c.2
    have hc : X0_hasStatement 1 a1 σ = some 1 := by rw [X0_hasStatement_eq, if_pos (by omega)]
    have hr : ∀ σ' : MM, σ' 59 = σ 59 → X6_isStatement a1 (zup σ' 58 3 0) = some 1 := fun σ' hg => by rw [X6_isStatement_eq (by rw [zup59, hg]; exact hb), zup59, hg, if_pos c]
    by_cases c0 : a2 = 0
    · refine opX_ok (r := sCost (σ 59) a1) rfl h ⟨σ, ?_, SE.rf⟩ (fun σ' h' hg _ => ⟨_, ?_, SE.thr (v := 0), zup_s⟩)
      · unfold X5_statement
        rw [hc, Option.bind_some, if_neg (by decide), if_pos c0, X0_costOf_at hs, Option.bind_some, e1]
      · unfold X6_statement
        rw [mlet_eq, hr σ' hg, Option.bind_some, if_neg (by decide), if_pos c0, X6_cost_eq hs, zup59, hg]
        rfl
    · by_cases c1 : a2 = 1
      · refine opX_ok (r := plc (σ 59) a1) rfl h ⟨σ, ?_, SE.rf⟩ (fun σ' h' hg _ => ⟨_, ?_, SE.thr (v := 0), zup_s⟩)
        · unfold X5_statement
          rw [hc, Option.bind_some, if_neg (by decide), if_neg c0, if_pos c1, X0_positionOf_at hs, Option.bind_some, e2]
        · unfold X6_statement
          rw [mlet_eq, hr σ' hg, Option.bind_some, if_neg (by decide), if_neg c0, if_pos c1, X6_placeOf_eq (by rw [zup59, hg]; exact hI) c.1 (by rw [zup59, hg]; exact c.2), zup59, hg]
          rfl
      · by_cases c2 : a2 = 2
        · obtain ⟨σ1, q1, q2, q3⟩ := X0_measureOffsets_eq (b := 1) hI h.2.1
          refine opX_ok (r := sOff (σ 59) a1) rfl h ⟨σ1, ?_, SE.off (b := 1) (by decide) q2⟩ (fun σ' h' hg _ => ⟨_, ?_, SE.thr (v := 0), zup_s⟩)
          · unfold X5_statement
            rw [hc, Option.bind_some, if_neg (by decide), if_neg c0, if_neg c1, if_pos c2, q1, Option.bind_some, X0_offsetOf_at hs, Option.bind_some, q3 a1 c.1 c.2]
          · unfold X6_statement
            rw [mlet_eq, hr σ' hg, Option.bind_some, if_neg (by decide), if_neg c0, if_neg c1, if_pos c2, X6_offset_eq (by rw [zup59, hg]; exact hI) c.1 (by rw [zup59, hg]; exact c.2), zup59, hg]
            rfl
        · refine opX_bad (xo := 1) h ?_ (by decide) (fun σ' h' hg => ?_)
          · unfold X5_statement
            rw [hc, Option.bind_some, if_neg (by decide), if_neg c0, if_neg c1, if_neg c2]
          · unfold X6_statement
            rw [mlet_eq, hr σ' hg, Option.bind_some, if_neg (by decide), if_neg c0, if_neg c1, if_neg c2, X6_fails_eq]
            rfl
  · refine opX_bad (xo := 3) h ?_ (by decide) (fun σ' h' hg => ?_)
    · unfold X5_statement
      rw [X0_hasStatement_eq, if_neg (by omega), Option.bind_some, if_pos rfl]
    · unfold X6_statement
      rw [mlet_eq, X6_isStatement_eq (by rw [zup59, hg]; exact hb), zup59, hg, if_neg c, Option.bind_some, if_pos rfl, X6_fails_eq]
      rfl
theorem op_dependence {σ : MM} (h : ST σ) (a1 a2 : Int) : OpX (X5_dependence a1 a2 σ) (X6_dependence a1 a2) kB2 := by
  have hI := h.1.1
  have hb := hI.1.2.1
  obtain ⟨R0, R5, -, -, RD⟩ := h.2.1
  by_cases c : 0 ≤ a1 ∧ a1 < σ 59 1
  · have hs : 0 ≤ a1 ∧ a1 < 16 := by omega
    obtain ⟨e0, e1, e2, e3, e4⟩ := RD a1 c.1 c.2
    have hc : X0_hasDependence 1 a1 σ = some 1 := by rw [X0_hasDependence_eq, if_pos (by omega)]
    have hr : ∀ σ' : MM, σ' 59 = σ 59 → X6_isDependence a1 (zup σ' 58 3 0) = some 1 := fun σ' hg => by rw [X6_isDependence_eq (by rw [zup59, hg]; exact hb), zup59, hg, if_pos c]
    have hlow : ∀ w : Int, 0 ≤ w → w < 4 → a2 = w → ∀ σ' : MM, σ' 59 = σ 59 → X6_dependence a1 a2 σ' = some (σ 59 (30 + 5 * a1 + w), zup σ' 58 3 0) := by
      intro w w1 w2 e σ' hg
      unfold X6_dependence
      rw [mlet_eq, hr σ' hg, Option.bind_some, if_neg (by decide), X6_in_eq, if_pos (by omega), Option.bind_some, if_neg (by decide), if_pos (by omega), X6_at_eq hs (by omega), Option.bind_some, gd_t (by omega), zup59, hg, e]
    by_cases c0 : a2 = 0
    · refine opX_ok (r := σ 59 (30 + 5 * a1 + 0)) rfl h ⟨σ, ?_, SE.rf⟩ (fun σ' h' hg _ => ⟨_, hlow 0 (by decide) (by decide) c0 σ' hg, SE.thr (v := 0), zup_s⟩)
      unfold X5_dependence
      rw [hc, Option.bind_some, if_neg (by decide), if_pos c0, gd_t hs]
      exact congrArg (fun v => some (0, v, σ)) e0
    by_cases c1 : a2 = 1
    · refine opX_ok (r := σ 59 (30 + 5 * a1 + 1)) rfl h ⟨σ, ?_, SE.rf⟩ (fun σ' h' hg _ => ⟨_, hlow 1 (by decide) (by decide) c1 σ' hg, SE.thr (v := 0), zup_s⟩)
      unfold X5_dependence
      rw [hc, Option.bind_some, if_neg (by decide), if_neg c0, if_pos c1, gd_t hs]
      exact congrArg (fun v => some (0, v, σ)) e1
    by_cases c2 : a2 = 2
    · refine opX_ok (r := σ 59 (30 + 5 * a1 + 2)) rfl h ⟨σ, ?_, SE.rf⟩ (fun σ' h' hg _ => ⟨_, hlow 2 (by decide) (by decide) c2 σ' hg, SE.thr (v := 0), zup_s⟩)
      unfold X5_dependence
      rw [hc, Option.bind_some, if_neg (by decide), if_neg c0, if_neg c1, if_pos c2, gd_t hs]
      exact congrArg (fun v => some (0, v, σ)) e2
    by_cases c3 : a2 = 3
    · refine opX_ok (r := σ 59 (30 + 5 * a1 + 3)) rfl h ⟨σ, ?_, SE.rf⟩ (fun σ' h' hg _ => ⟨_, hlow 3 (by decide) (by decide) c3 σ' hg, SE.thr (v := 0), zup_s⟩)
      unfold X5_dependence
      rw [hc, Option.bind_some, if_neg (by decide), if_neg c0, if_neg c1, if_neg c2, if_pos c3, gd_t hs]
      exact congrArg (fun v => some (0, v, σ)) e3
    by_cases c4 : a2 = 4
    · refine opX_ok (r := sLag (σ 59) a1) rfl h ⟨σ, ?_, SE.rf⟩ (fun σ' h' hg _ => ⟨_, ?_, SE.thr (v := 0), zup_s⟩)
      · unfold X5_dependence
        rw [hc, Option.bind_some, if_neg (by decide), if_neg c0, if_neg c1, if_neg c2, if_neg c3, if_pos c4, X0_lagOf_eq hI h.2.1 c.1 c.2, Option.bind_some]
      · unfold X6_dependence
        rw [mlet_eq, hr σ' hg, Option.bind_some, if_neg (by decide), X6_in_eq, if_pos (by omega), Option.bind_some, if_neg (by decide), if_neg (by omega), if_pos c4, X6_lag_eq (by rw [zup59, hg]; exact hI) c.1 (by rw [zup59, hg]; exact c.2), Option.bind_some, zup59, hg]
    by_cases c5 : a2 = 5
    · refine opX_ok (r := σ 59 (30 + 5 * a1 + 4)) rfl h ⟨σ, ?_, SE.rf⟩ (fun σ' h' hg _ => ⟨_, ?_, SE.thr (v := 0), zup_s⟩)
      · unfold X5_dependence
        rw [hc, Option.bind_some, if_neg (by decide), if_neg c0, if_neg c1, if_neg c2, if_neg c3, if_neg c4, if_pos c5, gd_t hs]
        have h4 : sKp (σ 59) a1 = σ 59 (30 + 5 * a1 + 4) := rfl
        have h5 := (hI.2.2.2.2.2 a1 c.1 c.2).2.2.2.2
        rw [show σ 10 a1 = sKp (σ 59) a1 from e4]
        rw [h4] at h5 ⊢
        rcases h5 with h5 | h5
        · rw [if_pos h5, h5]
        · rw [if_neg (by omega), h5]
      · unfold X6_dependence
        rw [mlet_eq, hr σ' hg, Option.bind_some, if_neg (by decide), X6_in_eq, if_pos (by omega), Option.bind_some, if_neg (by decide), if_neg (by omega), if_neg c4, X6_at_eq hs (by decide), Option.bind_some, gd_t (by omega), zup59, hg]
    · refine opX_bad (xo := 1) h ?_ (by decide) (fun σ' h' hg => ?_)
      · unfold X5_dependence
        rw [hc, Option.bind_some, if_neg (by decide), if_neg c0, if_neg c1, if_neg c2, if_neg c3, if_neg c4, if_neg c5]
      · unfold X6_dependence
        rw [mlet_eq, hr σ' hg, Option.bind_some, if_neg (by decide), X6_in_eq, if_neg (by omega), Option.bind_some, if_pos rfl, X6_fails_eq]
        rfl
  · refine opX_bad (xo := 3) h ?_ (by decide) (fun σ' h' hg => ?_)
    · unfold X5_dependence
      rw [X0_hasDependence_eq, if_neg (by omega), Option.bind_some, if_pos rfl]
    · unfold X6_dependence
      rw [mlet_eq, X6_isDependence_eq (by rw [zup59, hg]; exact hb), zup59, hg, if_neg c, Option.bind_some, if_pos rfl, X6_fails_eq]
      rfl
theorem op_length {σ : MM} (h : ST σ) : OpN (X5_length σ) X6_length := by
  obtain ⟨σ1, q1, q2, q3, -⟩ := X5_simulate_eq h
  refine opN_ro (r := sLen (sRun (σ 59) (σ 59 4))) h ⟨σ1, ?_, SE.frC q2⟩ (fun σ' h' hg => ?_)
  · unfold X5_length
    rw [q1, Option.bind_some, q3.2.1]
  · obtain ⟨σ2, u1, u2, -⟩ := X6_runs_st hg h.1.1
    refine ⟨σ2, ?_, u2⟩
    unfold X6_length
    rw [mlet_eq, u1]
    rfl
theorem op_start {σ : MM} (h : ST σ) (a1 a2 : Int) : OpX (X5_start a1 a2 σ) (X6_start a1 a2) kF := by
  have hI := h.1.1
  have hb := hI.1.1
  have h2 := hI.1.2.2.1
  obtain ⟨R0, R5, ⟨R1, -⟩, RS, -⟩ := h.2.1
  by_cases c : 0 ≤ a1 ∧ a1 < σ 59 0
  · have hs : 0 ≤ a1 ∧ a1 < 8 := by omega
    have hc : X0_hasStatement 1 a1 σ = some 1 := by rw [X0_hasStatement_eq, if_pos (by omega)]
    have hr : ∀ σ' : MM, σ' 59 = σ 59 → X6_isStatement a1 (zup σ' 58 3 0) = some 1 := fun σ' hg => by rw [X6_isStatement_eq (by rw [zup59, hg]; exact hb), zup59, hg, if_pos c]
    by_cases c2 : 0 ≤ a2 ∧ a2 < σ 59 2
    · obtain ⟨σ1, q1, q2, q3, -⟩ := X5_simulate_eq h
      refine opX_ok (r := sRun (σ 59) (σ 59 4) (10 + a1) a2) rfl h ⟨σ1, ?_, SE.frC q2⟩ (fun σ' h' hg _ => ?_)
      · unfold X5_start
        rw [hc, Option.bind_some, if_neg (by decide), X0_hasIteration_eq, if_pos (by omega), Option.bind_some, if_neg (by decide), q1, Option.bind_some, X3_startOf_at hs (by omega), Option.bind_some, q3.1.2 a1 a2 c.1 c.2 c2.1 (Or.inl c2.2)]
      · obtain ⟨σ2, u1, u2, u3, u4, u5⟩ := X6_runs_st hg h.1.1
        refine ⟨σ2, ?_, u2, u3⟩
        unfold X6_start
        rw [mlet_eq, hr σ' hg, Option.bind_some, if_neg (by decide), X6_isTurn_eq (by rw [zup59, hg]; exact h2), zup59, hg, if_pos c2, Option.bind_some, if_neg (by decide), u1, Option.bind_some]
        show gd (0 ≤ 40 * a1 + a2 ∧ 40 * a1 + a2 < 320) (some (σ2 65 (40 * a1 + a2), σ2)) = _
        rw [gd_t (by omega), u5.1.2 a1 a2 c.1 c.2 c2.1 (Or.inl c2.2)]
    · refine opX_bad (xo := 3) h ?_ (by decide) (fun σ' h' hg => ?_)
      · unfold X5_start
        rw [hc, Option.bind_some, if_neg (by decide), X0_hasIteration_eq, if_neg (by omega), Option.bind_some, if_pos rfl]
      · unfold X6_start
        rw [mlet_eq, hr σ' hg, Option.bind_some, if_neg (by decide), X6_isTurn_eq (by rw [zup59, hg]; exact h2), zup59, hg, if_neg c2, Option.bind_some, if_pos rfl, X6_fails_eq]
        rfl
  · refine opX_bad (xo := 3) h ?_ (by decide) (fun σ' h' hg => ?_)
    · unfold X5_start
      rw [X0_hasStatement_eq, if_neg (by omega), Option.bind_some, if_pos rfl]
    · unfold X6_start
      rw [mlet_eq, X6_isStatement_eq (by rw [zup59, hg]; exact hb), zup59, hg, if_neg c, Option.bind_some, if_pos rfl, X6_fails_eq]
      rfl
theorem op_processor {σ : MM} (h : ST σ) (a1 : Int) : OpX (X5_processor a1 σ) (X6_processor a1) kF := by
  have hI := h.1.1
  have h2 := hI.1.2.2.1
  obtain ⟨R0, R5, ⟨R1, -⟩, RS, -⟩ := h.2.1
  by_cases c2 : 0 ≤ a1 ∧ a1 < σ 59 2
  · obtain ⟨σ1, q1, q2, q3, -⟩ := X5_simulate_eq h
    refine opX_ok (r := sRun (σ 59) (σ 59 4) 4 a1) rfl h ⟨σ1, ?_, SE.frC q2⟩ (fun σ' h' hg _ => ?_)
    · unfold X5_processor
      rw [X0_hasIteration_eq, if_pos (by omega), Option.bind_some, if_neg (by decide), q1, Option.bind_some, gd_t (by omega), q3.2.2 a1 c2.1 c2.2]
    · obtain ⟨σ2, u1, u2, u3, u4, u5⟩ := X6_runs_st hg h.1.1
      refine ⟨σ2, ?_, u2, u3⟩
      unfold X6_processor
      rw [mlet_eq, X6_isTurn_eq (by rw [zup59, hg]; exact h2), zup59, hg, if_pos c2, Option.bind_some, if_neg (by decide), u1, Option.bind_some]
      show gd (0 ≤ a1 ∧ a1 < 40) (some (σ2 66 a1, σ2)) = _
      rw [gd_t (by omega), u5.2.2 a1 c2.1 c2.2]
  · refine opX_bad (xo := 3) h ?_ (by decide) (fun σ' h' hg => ?_)
    · unfold X5_processor
      rw [X0_hasIteration_eq, if_neg (by omega), Option.bind_some, if_pos rfl]
    · unfold X6_processor
      rw [mlet_eq, X6_isTurn_eq (by rw [zup59, hg]; exact h2), zup59, hg, if_neg c2, Option.bind_some, if_pos rfl, X6_fails_eq]
      rfl
