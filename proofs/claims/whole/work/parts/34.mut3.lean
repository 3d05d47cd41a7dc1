def tau (a p : Int) : Int := if p = a then a + 1 else if p = a + 1 then a else p
theorem tau_tau {a p : Int} : tau a (tau a p) = p := by
  unfold tau
  repeat' split
  all_goals omega
theorem tau_b {a p n : Int} (ha : 0 ≤ a ∧ a + 1 < n) (h : 0 ≤ p ∧ p < n) : 0 ≤ tau a p ∧ tau a p < n := by
  unfold tau
  repeat' split
  all_goals omega
theorem sInv_swap {g g' : Int → Int} (hI : sInv g) {a : Int} (ha : 0 ≤ a ∧ a + 1 < g 0) (hg : ∀ p, 0 ≤ p → p < g 0 → g' (20 + p) = g (20 + tau a p)) (hk : ∀ i, (0 ≤ i ∧ i < 20) ∨ 30 ≤ i → g' i = g i) (hb : fndI (sBnd g (g (20 + a)) (g (20 + a + 1))) 0 (g 1) = -1) : sInv g' ∧ ∀ s, 0 ≤ s → s < g 0 → plc g' s = tau a (plc g s) := by
  have hn := hI.1.1
  have e0 : g' 0 = g 0 := hk 0 (by omega)
  have e1 : g' 1 = g 1 := hk 1 (by omega)
  have hI0 : sInv0 g' := by
    refine ⟨by rw [e0, e1, hk 2 (by omega), hk 3 (by omega), hk 4 (by omega), hk 5 (by omega)]; exact hI.1.1, fun s h1 h2 => by rw [hk (10 + s) (by omega)]; exact hI.1.2.1 s h1 (by omega), fun p h1 h2 => ?_, fun p q h1 h2 h3 h4 h5 => ?_, fun s h1 h2 => ?_, fun d h1 h2 => ?_⟩
    · rw [e0] at h2 ⊢
      rw [hg p h1 h2]
      have := tau_b ha ⟨h1, h2⟩
      exact hI.1.2.2.1 _ this.1 this.2
    · rw [e0] at h2 h4
      rw [hg p h1 h2, hg q h3 h4] at h5
      have t1 := tau_b ha ⟨h1, h2⟩
      have t2 := tau_b ha ⟨h3, h4⟩
      have := hI.1.2.2.2.1 _ _ t1.1 t1.2 t2.1 t2.2 h5
      rw [← tau_tau (a := a) (p := p), this, tau_tau]
    · rw [e0] at h2
      obtain ⟨p, h3, h4, h5⟩ := hI.1.2.2.2.2.1 s h1 h2
      have := tau_b ha ⟨h3, h4⟩
      exact ⟨tau a p, this.1, by omega, by rw [hg _ this.1 this.2, tau_tau]; exact h5⟩
    · rw [e1] at h2
      have := hI.1.2.2.2.2.2 d h1 h2
      unfold sDep sKind sSrc sTgt sFar sKp at this ⊢
      rw [e0, hk _ (Or.inr (by omega)), hk _ (Or.inr (by omega)), hk _ (Or.inr (by omega)), hk _ (Or.inr (by omega)), hk _ (Or.inr (by omega))]
      exact this
  have hp : ∀ s, 0 ≤ s → s < g 0 → plc g' s = tau a (plc g s) := by
    intro s h1 h2
    obtain ⟨h3, h4⟩ := plc_spec hI.1 h1 h2
    have t1 := tau_b ha h3
    have e : g' (20 + tau a (plc g s)) = s := by rw [hg _ t1.1 t1.2, tau_tau]; exact h4
    have := plc_of hI0 t1.1 (by omega)
    rw [e] at this
    exact this
  refine ⟨⟨hI0, fun d h1 h2 h3 => ?_⟩, hp⟩
  rw [e1] at h2
  obtain ⟨-, f1, f2, -⟩ := hI.1.2.2.2.2.2 d h1 h2
  have es : sSrc g' d = sSrc g d := hk _ (Or.inr (by omega))
  have et : sTgt g' d = sTgt g d := hk _ (Or.inr (by omega))
  have ef : sFar g' d = sFar g d := hk _ (Or.inr (by omega))
  rw [ef] at h3
  rw [es, et, hp _ f1.1 f1.2, hp _ f2.1 f2.2]
  have hlt := hI.2 d h1 h2 h3
  have hno : ¬ (plc g (sSrc g d) = a ∧ plc g (sTgt g d) = a + 1) := by
    intro q
    have := fndI_none (by omega) hb d h1 h2
    have x1 := (plc_spec hI.1 f1.1 f1.2).2
    have x2 := (plc_spec hI.1 f2.1 f2.2).2
    rw [q.1] at x1
    rw [q.2, show (20 : Int) + (a + 1) = 20 + a + 1 by omega] at x2
    simp [sBnd, h3, x1, x2] at this
  unfold tau
  repeat' split
  all_goals omega
theorem op_exchange {σ : MM} (h : ST σ) (a1 : Int) : OpX (X5_exchange a1 σ) (X6_exchange a1) kC := by
  have hI := h.1.1
  have hn := hI.1.1
  have hm := hI.1.2.1
  obtain ⟨r0, r1, r2, r3, r4⟩ := h.2.1
  by_cases c : 0 ≤ a1 ∧ a1 + 1 < σ 59 0
  · obtain ⟨y1, y2⟩ := hI.2.2.1 (a1 + 1) (by omega) (by omega)
    obtain ⟨x1, x2⟩ := hI.2.2.1 a1 (by omega) (by omega)
    have hxy : σ 59 (20 + a1) ≠ σ 59 (20 + (a1 + 1)) := fun e => by
      have := hI.2.2.2.1 a1 (a1 + 1) (by omega) (by omega) (by omega) (by omega) e
      omega
    have hx := (r3 a1 (by omega) (by omega)).2.2
    have hy := (r3 (a1 + 1) (by omega) (by omega)).2.2
    have hord : X0_isOrdered 1 (σ 59 (20 + a1)) (σ 59 (20 + (a1 + 1))) σ = some (if fndI (sBnd (σ 59) (σ 59 (20 + a1)) (σ 59 (20 + (a1 + 1)))) 0 (σ 59 1) = -1 then 0 else 1) := by
      unfold X0_isOrdered
      exact X0_isOrdered_L2_eq hI h.2.1 100000 0 (by omega) (by omega) (by omega)
    have hbnd : ∀ σ' : MM, σ' 59 = σ 59 → X6_binds (σ 59 (20 + a1)) (σ 59 (20 + (a1 + 1))) (zup σ' 58 3 0) = some (if fndI (sBnd (σ 59) (σ 59 (20 + a1)) (σ 59 (20 + (a1 + 1)))) 0 (σ 59 1) = -1 then 0 else 1) := by
      intro σ' hg
      unfold X6_binds
      refine Eq.trans (X6_binds_L2_eq (by rw [zup59, hg]; exact hI) 100000 0 (by omega) (by rw [zup59, hg]; omega) (by rw [zup59, hg]; omega)) ?_
      rw [zup59, hg]
    have hcl : X5_exchange a1 σ = (if fndI (sBnd (σ 59) (σ 59 (20 + a1)) (σ 59 (20 + (a1 + 1)))) 0 (σ 59 1) = -1 then (X0_swap 1 a1 (a1 + 1) σ).bind fun σ17 => (X0_statementAt 1 a1 σ17).bind fun r18 => some (0, r18, σ17) else some (2, 0, σ)) := by
      unfold X5_exchange
      rw [if_neg (by omega), gd_t (by omega), if_pos (by omega), X0_statementAt_at (by omega), Option.bind_some, X0_statementAt_at (by omega), Option.bind_some, hx, hy, hord, Option.bind_some]
      by_cases cb : fndI (sBnd (σ 59) (σ 59 (20 + a1)) (σ 59 (20 + (a1 + 1)))) 0 (σ 59 1) = -1
      · rw [if_pos cb, if_pos rfl, if_pos cb]
      · rw [if_neg cb, if_neg (by decide), if_neg cb]
    have hrf : ∀ σ' : MM, σ' 59 = σ 59 → X6_exchange a1 σ' = (if fndI (sBnd (σ 59) (σ 59 (20 + a1)) (σ 59 (20 + (a1 + 1)))) 0 (σ 59 1) = -1 then some (σ 59 (20 + (a1 + 1)), zup (zup (zup σ' 58 3 0) 59 (20 + a1) (σ 59 (20 + (a1 + 1)))) 59 (20 + (a1 + 1)) (σ 59 (20 + a1))) else some (0, zup (zup σ' 58 3 0) 58 3 2)) := by
      intro σ' hg
      unfold X6_exchange
      rw [mlet_eq, zup59, hg, gd_t (by omega), X6_in_eq, if_pos (by omega), Option.bind_some, if_neg (by decide), gd_t (by omega), gd_t (by omega), show (20 : Int) + a1 + 1 = 20 + (a1 + 1) by omega, hbnd σ' hg, Option.bind_some]
      by_cases cb : fndI (sBnd (σ 59) (σ 59 (20 + a1)) (σ 59 (20 + (a1 + 1)))) 0 (σ 59 1) = -1
      · rw [if_pos cb, if_pos rfl, if_pos cb, mlet_eq, mlet_eq]
      · rw [if_neg cb, if_neg (by decide), if_neg cb, X6_fails_eq]
        rfl
    by_cases cb : fndI (sBnd (σ 59) (σ 59 (20 + a1)) (σ 59 (20 + (a1 + 1)))) 0 (σ 59 1) = -1
    · have hgt : ∀ p, 0 ≤ p → p < σ 59 0 → gup (gup (σ 59) (20 + a1) (σ 59 (20 + (a1 + 1)))) (20 + (a1 + 1)) (σ 59 (20 + a1)) (20 + p) = σ 59 (20 + tau a1 p) := by
        intro p h1 h2
        unfold tau
        by_cases e : p = a1
        · rw [if_pos e, e, gup_n (by omega), gup_s]
        · rw [if_neg e]
          by_cases e2 : p = a1 + 1
          · rw [if_pos e2, e2, gup_s]
          · rw [if_neg e2, gup_n (by omega), gup_n (by omega)]
      have hgk : ∀ i, (0 ≤ i ∧ i < 20) ∨ 30 ≤ i → gup (gup (σ 59) (20 + a1) (σ 59 (20 + (a1 + 1)))) (20 + (a1 + 1)) (σ 59 (20 + a1)) i = σ 59 i := fun i hi => by rw [gup_n (by omega), gup_n (by omega)]
      obtain ⟨hI', hpl⟩ := sInv_swap h.1 c hgt hgk (by rw [show (20 : Int) + a1 + 1 = 20 + (a1 + 1) by omega]; exact cb)
      refine op_mutX (g' := gup (gup (σ 59) (20 + a1) (σ 59 (20 + (a1 + 1)))) (20 + (a1 + 1)) (σ 59 (20 + a1))) (σ1 := zup (zup (zup (zup σ 4 a1 (σ 59 (20 + (a1 + 1)))) 3 (σ 59 (20 + (a1 + 1))) a1) 4 (a1 + 1) (σ 59 (20 + a1))) 3 (σ 59 (20 + a1)) (a1 + 1)) (r := σ 59 (20 + (a1 + 1))) rfl h ?_ (fun j hj => by rw [zup_ne (by omega), zup_ne (by omega), zup_ne (by omega), zup_ne (by omega)]) hI' ?_ ?_ (fun σ' hg => ⟨_, by rw [hrf σ' hg, if_pos cb], fun j hj => by rw [zup_ne hj, zup_ne hj], by rw [zup_row, zup_row, zup59, hg]⟩)
      · rw [hcl, if_pos cb]
        unfold X0_swap
        rw [X0_statementAt_at (by omega), Option.bind_some, X0_statementAt_at (by omega), Option.bind_some, hx, hy]
        unfold X0_place
        rw [X0_hasStatement_eq, if_pos (by omega), Option.bind_some, if_neg (by decide), X0_hasPosition_eq, if_pos (by omega), Option.bind_some, if_neg (by decide), gd_t (by omega), mlet_eq, gd_t (by omega), mlet_eq, Option.bind_some, X0_hasStatement_eq, zup_ne (by decide), zup_ne (by decide), if_pos (by omega), Option.bind_some, if_neg (by decide), X0_hasPosition_eq, zup_ne (by decide), zup_ne (by decide), if_pos (by omega), Option.bind_some, if_neg (by decide), gd_t (by omega), mlet_eq, gd_t (by omega), mlet_eq, Option.bind_some, Option.bind_some, X0_statementAt_at (by omega), Option.bind_some]
        rw [zup_k (by decide), zup_i (by omega), zup_k (by decide), zup_s]
      · refine ⟨by rw [hgk 0 (by omega), zup_ne (by decide), zup_ne (by decide), zup_ne (by decide), zup_ne (by decide)]; exact r0, by rw [hgk 1 (by omega), zup_ne (by decide), zup_ne (by decide), zup_ne (by decide), zup_ne (by decide)]; exact r1, by rw [hgk 2 (by omega), hgk 3 (by omega), hgk 4 (by omega), hgk 5 (by omega), zup_ne (by decide), zup_ne (by decide), zup_ne (by decide), zup_ne (by decide)]; exact r2, fun s h1 h2 => ?_, fun d h1 h2 => ?_⟩
        · rw [hgk 0 (by omega)] at h2
          obtain ⟨f1, f2, f3⟩ := r3 s h1 h2
          refine ⟨?_, ?_, ?_⟩
          · unfold sCost
            rw [hgk (10 + s) (by omega), zup_ne (by decide), zup_ne (by decide), zup_ne (by decide), zup_ne (by decide)]
            exact f1
          · rw [hpl s h1 h2]
            have hs := plc_spec hI h1 h2
            show zup (zup (zup (zup σ 4 a1 (σ 59 (20 + (a1 + 1)))) 3 (σ 59 (20 + (a1 + 1))) a1) 4 (a1 + 1) (σ 59 (20 + a1))) 3 (σ 59 (20 + a1)) (a1 + 1) 3 s = _
            by_cases e : s = σ 59 (20 + a1)
            · rw [e, zup_s, plc_of hI (by omega) (by omega)]
              unfold tau
              rw [if_pos rfl]
            · rw [zup_i e, zup_k (by decide)]
              by_cases e2 : s = σ 59 (20 + (a1 + 1))
              · rw [e2, zup_s, plc_of hI (by omega) (by omega)]
                unfold tau
                rw [if_neg (by omega), if_pos rfl]
              · rw [zup_i e2, zup_k (by decide)]
                unfold tau
                rw [if_neg (fun q => e (by rw [← hs.2, q])), if_neg (fun q => e2 (by rw [← hs.2, q]))]
                exact f2
          · rw [hgt s h1 h2]
            show zup (zup (zup (zup σ 4 a1 (σ 59 (20 + (a1 + 1)))) 3 (σ 59 (20 + (a1 + 1))) a1) 4 (a1 + 1) (σ 59 (20 + a1))) 3 (σ 59 (20 + a1)) (a1 + 1) 4 s = _
            rw [zup_k (by decide)]
            unfold tau
            by_cases e : s = a1
            · rw [if_pos e, e, zup_i (by omega), zup_k (by decide), zup_s]
            · rw [if_neg e]
              by_cases e2 : s = a1 + 1
              · rw [if_pos e2, e2, zup_s]
              · rw [if_neg e2, zup_i e2, zup_k (by decide), zup_i e]
                exact f3
        · rw [hgk 1 (by omega)] at h2
          obtain ⟨f1, f2, f3, f4, f5⟩ := r4 d h1 h2
          unfold sKind sSrc sTgt sFar sKp
          rw [hgk _ (Or.inr (by omega)), hgk _ (Or.inr (by omega)), hgk _ (Or.inr (by omega)), hgk _ (Or.inr (by omega)), hgk _ (Or.inr (by omega))]
          have z : ∀ j : Nat, j ≠ 3 → j ≠ 4 → zup (zup (zup (zup σ 4 a1 (σ 59 (20 + (a1 + 1)))) 3 (σ 59 (20 + (a1 + 1))) a1) 4 (a1 + 1) (σ 59 (20 + a1))) 3 (σ 59 (20 + a1)) (a1 + 1) j = σ j := fun j h3 h4 => by rw [zup_ne h3, zup_ne h4, zup_ne h3, zup_ne h4]
          rw [z _ (by decide) (by decide), z _ (by decide) (by decide), z _ (by decide) (by decide), z _ (by decide) (by decide), z _ (by decide) (by decide)]
          exact ⟨f1, f2, f3, f4, f5⟩
      · intro i h1 h2
        rw [zup_ne (by decide), zup_ne (by decide), zup_ne (by decide), zup_ne (by decide)]
        exact h.2.2.1 i h1 h2
    · exact opX_bad (xo := 2) h (by rw [hcl, if_neg cb]) (by decide) (fun σ' h' hg => by rw [hrf σ' hg, if_neg cb]; rfl)
  · refine opX_bad (xo := 3) h ?_ (by decide) (fun σ' h' hg => ?_)
    · unfold X5_exchange
      by_cases c1 : a1 < 0
      · rw [if_pos c1]
      · rw [if_neg c1, gd_t (by omega), if_neg (by omega)]
    · unfold X6_exchange
      rw [mlet_eq, zup59, hg, gd_t (by omega), X6_in_eq, if_neg (by omega), Option.bind_some, if_pos rfl, X6_fails_eq]
      rfl
