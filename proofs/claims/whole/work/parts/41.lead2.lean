theorem X2_greatestSum_L21_eq {but mode last : Int} {k : MM → Option (Int × MM)} : ∀ (n : Nat) (x : Int) (σ : MM), 0 ≤ x → x ≤ 48 → 48 - x < n →
    ∃ σ' : MM, X2_greatestSum_L21 1 but mode last k n x σ = k σ' ∧ frP σ σ' ∧ ∀ i, σ' 37 i = if x ≤ i ∧ i < 48 then -1 else σ 37 i := by
  intro n
  induction n with
  | zero => intro x σ h1 h2 h3; omega
  | succ n ih =>
    intro x σ h1 h2 h3
    rw [X2_greatestSum_L21]
    by_cases c : x < 48
    · rw [if_pos c, gd_t ⟨h1, c⟩, mlet_eq]
      obtain ⟨σ1, q1, q2, q3⟩ := ih (x + 1) (zup σ 37 x (-1)) (by omega) (by omega) (by omega)
      refine ⟨σ1, q1, fun j hj => by rw [q2 j hj, zup_ne hj], fun i => ?_⟩
      rw [q3 i, zup_at]
      by_cases e : x + 1 ≤ i ∧ i < 48
      · rw [if_pos e, if_pos (by omega)]
      · rw [if_neg e]
        by_cases e2 : i = x
        · rw [if_pos e2, if_pos (by omega)]
        · rw [if_neg e2, if_neg (by omega)]
    · rw [if_neg c]
      exact ⟨σ, rfl, fun _ _ => rfl, fun i => by rw [if_neg (by omega)]⟩
theorem X2_greatestSum_L64_eq {g : Int → Int} {but mode last : Int} {k : MM → Option (Int × MM)} (hI : sInv0 g) (hl : 0 ≤ last ∧ last ≤ 5) (h0 : 1 ≤ g 0) : ∀ (n : Nat) (x : Int) (σ : MM), sRL σ 1 g → wB (σ 37) (130 * x) → 0 ≤ x → x ≤ last + 1 → last + 1 - x < n →
    ∃ σ' : MM, X2_greatestSum_L64 1 but mode last k n x σ = k σ' ∧ frP σ σ' ∧ σ' 37 = fdI (lwRowC g but mode) x (last + 1) (σ 37) := by
  have hn := hI.1.1
  intro n
  induction n with
  | zero => intro x σ hR hB h1 h2 h3; omega
  | succ n ih =>
    intro x σ hR hB h1 h2 h3
    rw [X2_greatestSum_L64]
    by_cases c : last < x
    · rw [if_pos c, fdI_ge (by omega)]
      exact ⟨σ, rfl, fun _ _ => rfl, rfl⟩
    · rw [if_neg c, fdI_lt (by omega)]
      have key : ∀ N : Nat, g 0 - 0 < N → ∃ σ' : MM, X2_greatestSum_L74 1 but mode last x (fun σ32 => if mode = 1 then (X2_followProcessor 1 x σ32).bind fun σ37 => gd (inR (x + 1)) <| X2_greatestSum_L64 1 but mode last k n (x + 1) σ37 else gd (inR (x + 1)) <| X2_greatestSum_L64 1 but mode last k n (x + 1) σ32) N 0 σ = k σ' ∧ frP σ σ' ∧ σ' 37 = fdI (lwRowC g but mode) (x + 1) (last + 1) (lwRowC g but mode x (σ 37)) := by
        intro N hN
        obtain ⟨σ1, q1, q2, q3⟩ := X2_greatestSum_L74_eq (but := but) (mode := mode) (last := last) (x := x) (M := 130 * x) (k := fun σ32 => if mode = 1 then (X2_followProcessor 1 x σ32).bind fun σ37 => gd (inR (x + 1)) <| X2_greatestSum_L64 1 but mode last k n (x + 1) σ37 else gd (inR (x + 1)) <| X2_greatestSum_L64 1 but mode last k n (x + 1) σ32) hI (by omega) (by omega) N 0 σ hR (by rw [show 130 * x + 14 * 0 = 130 * x by omega]; exact hB) (by omega) (by omega) hN
        have hb := lwRowC_b (but := but) (mode := mode) (x := x) hI (by omega) h0 hB (by omega)
        rw [show 130 * x + 130 = 130 * (x + 1) by omega] at hb
        have hb1 := lwCs_b (but := but) (x := x) (p := g 0) hI (by omega) (by omega) hB (by omega)
        rw [q1]
        by_cases cm : mode = 1
        · obtain ⟨σ2, u1, u2, u3⟩ := X2_followProcessor_eq (x := x) hI (q2.rl hR) (by omega) h0 (by rw [q3]; exact wB_le hb1 (by omega))
          have e : σ2 37 = lwRowC g but mode x (σ 37) := by
            rw [u3, q3]
            unfold lwRowC
            by_cases cc : ¬ fdI (lwC g but x) 0 (g 0) (σ 37) (8 * x + (g 0 - 1)) < 0 ∧ x + g 4 ≤ 5
            · rw [if_pos cc, if_pos ⟨cm, cc⟩]
            · rw [if_neg cc, if_neg (fun q => cc q.2)]
          obtain ⟨σ3, w1, w2, w3⟩ := ih (x + 1) σ2 (u2.rl (q2.rl hR)) (by rw [e]; exact hb) (by omega) (by omega) (by omega)
          refine ⟨σ3, ?_, (q2.tr u2).tr w2, by rw [w3, e]⟩
          show (if mode = 1 then (X2_followProcessor 1 x σ1).bind fun σ37 => gd (inR (x + 1)) <| X2_greatestSum_L64 1 but mode last k n (x + 1) σ37 else gd (inR (x + 1)) <| X2_greatestSum_L64 1 but mode last k n (x + 1) σ1) = k σ3
          rw [if_pos cm, u1, Option.bind_some, gd_t (by omega)]
          exact w1
        · have e : σ1 37 = lwRowC g but mode x (σ 37) := by
            rw [q3]
            unfold lwRowC
            rw [if_neg (fun q => cm q.1)]
          obtain ⟨σ3, w1, w2, w3⟩ := ih (x + 1) σ1 (q2.rl hR) (by rw [e]; exact hb) (by omega) (by omega) (by omega)
          refine ⟨σ3, ?_, q2.tr w2, by rw [w3, e]⟩
          show (if mode = 1 then (X2_followProcessor 1 x σ1).bind fun σ37 => gd (inR (x + 1)) <| X2_greatestSum_L64 1 but mode last k n (x + 1) σ37 else gd (inR (x + 1)) <| X2_greatestSum_L64 1 but mode last k n (x + 1) σ1) = k σ3
          rw [if_neg cm, gd_t (by omega)]
          exact w1
      exact key 100000 (by omega)
theorem X2_greatestSum_eq {σ : MM} {g : Int → Int} {d mode : Int} (hI : sInv0 g) (hR : sRL σ 1 g) (h1 : 0 ≤ d) (h2 : d < g 1) :
    ∃ (σ' : MM) (w0 : Int → Int), X2_greatestSum 1 d mode σ = some (fdI (lwRowC g d mode) 0 (sFar g d + 1) (mup w0 (plc g (sSrc g d)) 0) (8 * sFar g d + plc g (sTgt g d)), σ') ∧ frP σ σ' ∧ ∀ i, 0 ≤ i → i < 48 → w0 i = -1 := by
  have hn := hI.1.1
  have hm := hI.1.2.1
  obtain ⟨-, f1, f2, f3, -⟩ := hI.2.2.2.2.2 d h1 h2
  have p1 := (plc_spec hI f1.1 f1.2).1
  have p2 := (plc_spec hI f2.1 f2.2).1
  obtain ⟨-, e6, e7, e8, -⟩ := hR.2.2.2.2 d h1 h2
  have key : ∀ N1 N2 : Nat, 49 ≤ N1 → 7 ≤ N2 → ∃ (σ' : MM) (w0 : Int → Int), X2_greatestSum_L21 1 d mode (sFar g d) (fun σ11 => (X0_positionOf 1 (σ11 (1 + 6) d) σ11).bind fun r13 => (X2_raise 0 r13 0 σ11).bind fun σ18 => X2_greatestSum_L64 1 d mode (sFar g d) (fun σ39 => (X0_positionOf 1 (σ39 (1 + 7) d) σ39).bind fun r41 => (X2_sumAt (sFar g d) r41 σ39).bind fun r44 => some (r44, σ39)) N2 0 σ18) N1 0 σ = some (fdI (lwRowC g d mode) 0 (sFar g d + 1) (mup w0 (plc g (sSrc g d)) 0) (8 * sFar g d + plc g (sTgt g d)), σ') ∧ frP σ σ' ∧ ∀ i, 0 ≤ i → i < 48 → w0 i = -1 := by
    intro N1 N2 hN1 hN2
    obtain ⟨σ1, q1, q2, q3⟩ := X2_greatestSum_L21_eq (but := d) (mode := mode) (last := sFar g d) (k := fun σ11 => (X0_positionOf 1 (σ11 (1 + 6) d) σ11).bind fun r13 => (X2_raise 0 r13 0 σ11).bind fun σ18 => X2_greatestSum_L64 1 d mode (sFar g d) (fun σ39 => (X0_positionOf 1 (σ39 (1 + 7) d) σ39).bind fun r41 => (X2_sumAt (sFar g d) r41 σ39).bind fun r44 => some (r44, σ39)) N2 0 σ18) N1 0 σ (by omega) (by omega) (by omega)
    have hR1 := q2.rl hR
    have hw0 : ∀ i, 0 ≤ i → i < 48 → σ1 37 i = -1 := fun i u v => by rw [q3 i, if_pos ⟨u, v⟩]
    obtain ⟨σ2, u1, u2, u3⟩ := X2_raise_eq (σ := σ1) (t := 0) (p := plc g (sSrc g d)) (v := 0) (by omega) (by omega)
    rw [if_pos (by omega), show 8 * 0 + plc g (sSrc g d) = plc g (sSrc g d) by omega] at u3
    have hR2 := frP.rl u2 hR1
    have hb : wB (σ2 37) (130 * 0) := by
      rw [u3]
      refine wB_mup (M := -1) (fun i u v => ?_) (by omega) (by omega) (by omega)
      have := hw0 i u v
      omega
    obtain ⟨σ3, w1, w2, w3⟩ := X2_greatestSum_L64_eq (but := d) (mode := mode) (last := sFar g d) (k := fun σ39 => (X0_positionOf 1 (σ39 (1 + 7) d) σ39).bind fun r41 => (X2_sumAt (sFar g d) r41 σ39).bind fun r44 => some (r44, σ39)) hI f3 (by omega) N2 0 σ2 hR2 hb (by omega) (by omega) (by omega)
    have hR3 := w2.rl hR2
    refine ⟨σ3, σ1 37, ?_, (q2.tr u2).tr w2, hw0⟩
    rw [q1]
    show (X0_positionOf 1 (σ1 (1 + 6) d) σ1).bind (fun r13 => (X2_raise 0 r13 0 σ1).bind fun σ18 => X2_greatestSum_L64 1 d mode (sFar g d) (fun σ39 => (X0_positionOf 1 (σ39 (1 + 7) d) σ39).bind fun r41 => (X2_sumAt (sFar g d) r41 σ39).bind fun r44 => some (r44, σ39)) N2 0 σ18) = _
    rw [(hR1.2.2.2.2 d h1 h2).2.1, X0_positionOf_at (by omega), Option.bind_some, (hR1.2.2.2.1 _ f1.1 f1.2).2.1, u1, Option.bind_some, w1]
    show (X0_positionOf 1 (σ3 (1 + 7) d) σ3).bind (fun r41 => (X2_sumAt (sFar g d) r41 σ3).bind fun r44 => some (r44, σ3)) = _
    rw [(hR3.2.2.2.2 d h1 h2).2.2.1, X0_positionOf_at (by omega), Option.bind_some, (hR3.2.2.2.1 _ f2.1 f2.2).2.1, X2_sumAt_eq f3 (by omega), Option.bind_some, w3, u3]
  unfold X2_greatestSum
  rw [X0_hasDependence_eq, if_pos (by rw [hR.2.1]; exact ⟨h1, h2⟩), Option.bind_some, if_neg (by decide), gd_t (by omega), e8]
  exact key 100000 100000 (by omega) (by omega)
/-! the reference's ways -/
def lwStep (g : Int → Int) (L but mode x : Int) : Int → (Int → Int) → Int → Int := fun p w =>
  if w (8 * x + p) < 0 then w else fdI (lwSig g L but x (g (20 + p)) (w (8 * x + p))) 0 (g 1) (if p + 1 < g 0 then mup w (8 * x + p + 1) (w (8 * x + p) + sCost g (g (20 + p))) else if mode = 1 ∧ ¬ L < x + g 4 then mup w (8 * (x + g 4)) (w (8 * x + p) + sCost g (g (20 + p))) else w)
def frW (σ σ' : MM) : Prop := ∀ j : Nat, j ≠ 62 → σ' j = σ j
theorem frW.tr {σ σ' σ'' : MM} (h : frW σ σ') (h' : frW σ' σ'') : frW σ σ'' := fun j hj => (h' j hj).trans (h j hj)
theorem X6_reaches_eq {σ : MM} {i v : Int} (hi : 0 ≤ i ∧ i < 48) : ∃ σ' : MM, X6_reaches i v σ = some σ' ∧ frW σ σ' ∧ σ' 62 = mup (σ 62) i v := by
  unfold X6_reaches mup
  rw [gd_t hi]
  by_cases c : σ 62 i < v
  · rw [if_pos c, mlet_eq]
    exact ⟨_, rfl, fun j hj => zup_ne hj, by rw [zup_row, show max (σ 62 i) v = v by omega]⟩
  · rw [if_neg c, mlet_eq]
    exact ⟨_, rfl, fun j hj => zup_ne hj, by rw [zup_row, show max (σ 62 i) v = σ 62 i by omega]⟩
theorem lwSigL_b {g : Int → Int} (hI : sInv0 g) {L but x s v M : Int} {w : Int → Int} (hL : L ≤ 5) (hx : 0 ≤ x) (h : wB w M) (hv : v + 14 ≤ M) : wB (fdI (lwSig g L but x s v) 0 (g 1) w) M := by
  have hn := hI.1.1
  refine fdI_inv (P := fun _ w => wB w M) hI.1.2.1.1 h (fun d w h1 h2 h3 => ?_)
  obtain ⟨-, -, f2, f3, -⟩ := hI.2.2.2.2.2 d h1 h2
  have hp := (plc_spec hI f2.1 f2.2).1
  have hl := sLag_b hI h1 h2
  unfold lwSig
  split
  · exact h3
  · rename_i q
    exact wB_mup h3 (by omega) (Int.le_refl _) (by omega)
theorem lwStep_b {g : Int → Int} (hI : sInv0 g) {L but mode x p M : Int} {w : Int → Int} (hL : L ≤ 5) (hx : 0 ≤ x ∧ x ≤ 5) (hp : 0 ≤ p ∧ p < g 0) (h : wB w M) (hM : -1 ≤ M) : wB (lwStep g L but mode x p w) (M + 14) := by
  have hn := hI.1.1
  have hP := hI.1.2.2.2.2.1
  have hs := hI.2.2.1 p hp.1 hp.2
  have hc := sCost_b hI hs.1 hs.2
  have hw := h (8 * x + p) (by omega) (by omega)
  unfold lwStep
  split
  · exact wB_le h (by omega)
  · refine lwSigL_b hI hL hx.1 ?_ (by omega)
    split
    · exact wB_mup h (by omega) (by omega) (by omega)
    · split
      · exact wB_mup h (by omega) (by omega) (by omega)
      · exact wB_le h (by omega)
theorem X6_goesOn_L106_eq {g : Int → Int} {L but x s v : Int} {k : MM → Option MM} (hI : sInv0 g) (hL : L ≤ 5) (hx : 0 ≤ x ∧ x ≤ 5) (hv : 0 ≤ v ∧ v ≤ 100000) : ∀ (n : Nat) (d : Int) (σ : MM), σ 59 = g → 0 ≤ d → d ≤ g 1 → g 1 - d < n →
    ∃ σ' : MM, X6_goesOn_L106 x but L v s k n d σ = k σ' ∧ frW σ σ' ∧ σ' 62 = fdI (lwSig g L but x s v) d (g 1) (σ 62) := by
  have hn := hI.1.1
  have hm := hI.1.2.1
  intro n
  induction n with
  | zero => intro d σ hg h1 h2 h3; omega
  | succ n ih =>
    intro d σ hg h1 h2 h3
    rw [X6_goesOn_L106, hg]
    by_cases c : d < g 1
    · rw [if_pos c, fdI_lt c]
      have hd : 0 ≤ d ∧ d < 16 := by omega
      obtain ⟨-, f1, f2, f3, -⟩ := hI.2.2.2.2.2 d h1 c
      have hl := sLag_b hI h1 c
      have hpt := (plc_spec hI f2.1 f2.2).1
      have hr := ih (d + 1) σ hg (by omega) (by omega) (by omega)
      by_cases c1 : d = but
      · rw [if_pos c1, show lwSig g L but x s v d (σ 62) = σ 62 from if_pos (Or.inl c1)]
        exact hr
      · rw [if_neg c1, X6_isSignal_eq hd, hg, Option.bind_some]
        by_cases c3 : sSig g d = 0
        · rw [if_pos c3, show lwSig g L but x s v d (σ 62) = σ 62 from if_pos (Or.inr (Or.inr (Or.inl c3)))]
          exact hr
        · rw [if_neg c3, X6_source_eq hd, hg, Option.bind_some]
          by_cases c2 : sSrc g d = s
          · rw [if_pos c2, X6_far_eq hd, hg, Option.bind_some, gd_t (by omega)]
            by_cases c4 : L < x + sFar g d
            · rw [if_pos c4, show lwSig g L but x s v d (σ 62) = σ 62 from if_pos (Or.inr (Or.inr (Or.inr c4)))]
              exact hr
            · obtain ⟨σ1, q1, q2, q3⟩ := X6_reaches_eq (σ := σ) (i := 8 * (x + sFar g d) + plc g (sTgt g d)) (v := v + sLag g d) (by omega)
              rw [if_neg c4, Option.bind_some, X6_target_eq hd, hg, Option.bind_some, X6_placeOf_eq (by rw [hg]; exact hI) f2.1 (by rw [hg]; exact f2.2), hg, Option.bind_some, X6_lag_eq (by rw [hg]; exact hI) h1 (by rw [hg]; exact c), hg, Option.bind_some, gd_t (by omega), gd_t (by omega), q1, Option.bind_some]
              obtain ⟨σ2, u1, u2, u3⟩ := ih (d + 1) σ1 (by rw [q2 59 (by decide)]; exact hg) (by omega) (by omega) (by omega)
              refine ⟨σ2, u1, q2.tr u2, ?_⟩
              rw [u3, q3]
              congr 1
              unfold lwSig
              rw [if_neg]
              rintro (w | w | w | w)
              · exact c1 w
              · exact w c2
              · exact c3 w
              · exact c4 w
          · rw [if_neg c2, show lwSig g L but x s v d (σ 62) = σ 62 from if_pos (Or.inr (Or.inl c2))]
            exact hr
    · rw [if_neg c, fdI_ge (by omega)]
      exact ⟨σ, rfl, fun _ _ => rfl, rfl⟩
