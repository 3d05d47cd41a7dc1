/-! lead: the class's sums -/
def mup (w : Int → Int) (i v : Int) : Int → Int := gup w i (max (w i) v)
def wB (w : Int → Int) (M : Int) : Prop := ∀ i, 0 ≤ i → i < 48 → -1 ≤ w i ∧ w i ≤ M
theorem wB_mup {w : Int → Int} {M M' i v : Int} (h : wB w M) (hi : 0 ≤ i ∧ i < 48) (hM : M ≤ M') (hv : v ≤ M') : wB (mup w i v) M' := by
  intro j h1 h2
  have hj := h j h1 h2
  have hii := h i hi.1 hi.2
  unfold mup gup
  split <;> omega
theorem wB_le {w : Int → Int} {M M' : Int} (h : wB w M) (hM : M ≤ M') : wB w M' := fun j h1 h2 => by
  have := h j h1 h2
  omega
def lwSig (g : Int → Int) (L but x s v : Int) : Int → (Int → Int) → Int → Int := fun d w =>
  if d = but ∨ ¬ sSrc g d = s ∨ sSig g d = 0 ∨ L < x + sFar g d then w else mup w (8 * (x + sFar g d) + plc g (sTgt g d)) (v + sLag g d)
def lwC (g : Int → Int) (but x : Int) : Int → (Int → Int) → Int → Int := fun p w =>
  if w (8 * x + p) < 0 then w else fdI (lwSig g 5 but x (g (20 + p)) (w (8 * x + p))) 0 (g 1) (if p + 1 < g 0 then mup w (8 * x + p + 1) (w (8 * x + p) + sCost g (g (20 + p))) else w)
def lwRowC (g : Int → Int) (but mode : Int) : Int → (Int → Int) → Int → Int := fun x w =>
  if mode = 1 ∧ ¬ fdI (lwC g but x) 0 (g 0) w (8 * x + (g 0 - 1)) < 0 ∧ x + g 4 ≤ 5 then mup (fdI (lwC g but x) 0 (g 0) w) (8 * (x + g 4)) (fdI (lwC g but x) 0 (g 0) w (8 * x + (g 0 - 1)) + sCost g (g (20 + (g 0 - 1)))) else fdI (lwC g but x) 0 (g 0) w
theorem lwSig_b {g : Int → Int} (hI : sInv0 g) {but x s v M : Int} {w : Int → Int} (hx : 0 ≤ x) (h : wB w M) (hv : v + 14 ≤ M) : wB (fdI (lwSig g 5 but x s v) 0 (g 1) w) M := by
  have hn := hI.1.1
  refine fdI_inv (P := fun _ w => wB w M) hI.1.2.1.1 h (fun d w h1 h2 h3 => ?_)
  obtain ⟨-, -, f2, f3, -⟩ := hI.2.2.2.2.2 d h1 h2
  have hp := (plc_spec hI f2.1 f2.2).1
  have hl := sLag_b hI h1 h2
  unfold lwSig
  split
  · exact h3
  · rename_i q
    exact wB_mup h3 (by omega) (Int.le_refl _) (by omega)
theorem lwC_b {g : Int → Int} (hI : sInv0 g) {but x p M : Int} {w : Int → Int} (hx : 0 ≤ x ∧ x ≤ 5) (hp : 0 ≤ p ∧ p < g 0) (h : wB w M) (hM : -1 ≤ M) : wB (lwC g but x p w) (M + 14) := by
  have hn := hI.1.1
  have hs := hI.2.2.1 p hp.1 hp.2
  have hc := sCost_b hI hs.1 hs.2
  have hw := h (8 * x + p) (by omega) (by omega)
  unfold lwC
  split
  · exact wB_le h (by omega)
  · refine lwSig_b hI hx.1 ?_ (by omega)
    split
    · exact wB_mup h (by omega) (by omega) (by omega)
    · exact wB_le h (by omega)
theorem lwCs_b {g : Int → Int} (hI : sInv0 g) {but x p M : Int} {w : Int → Int} (hx : 0 ≤ x ∧ x ≤ 5) (hp : 0 ≤ p ∧ p ≤ g 0) (h : wB w M) (hM : -1 ≤ M) : wB (fdI (lwC g but x) 0 p w) (M + 14 * p) := by
  refine fdI_inv (P := fun q w => wB w (M + 14 * q)) hp.1 (by rw [show M + 14 * 0 = M by omega]; exact h) (fun q w h1 h2 h3 => ?_)
  rw [show M + 14 * (q + 1) = M + 14 * q + 14 by omega]
  exact lwC_b hI hx ⟨h1, by omega⟩ h3 (by omega)
theorem lwRowC_b {g : Int → Int} (hI : sInv0 g) {but mode x M : Int} {w : Int → Int} (hx : 0 ≤ x ∧ x ≤ 5) (h0 : 1 ≤ g 0) (h : wB w M) (hM : -1 ≤ M) : wB (lwRowC g but mode x w) (M + 130) := by
  have hn := hI.1.1
  have hP := hI.1.2.2.2.2.1
  have hb := lwCs_b (but := but) (p := g 0) hI hx (by omega) h hM
  have hs := hI.2.2.1 (g 0 - 1) (by omega) (by omega)
  have hc := sCost_b hI hs.1 hs.2
  have hw := hb (8 * x + (g 0 - 1)) (by omega) (by omega)
  unfold lwRowC
  split
  · exact wB_mup hb (by omega) (by omega) (by omega)
  · exact wB_le hb (by omega)
theorem X2_raise_eq {σ : MM} {t p v : Int} (ht : 0 ≤ t) (hp : 0 ≤ p ∧ p < 8) : ∃ σ' : MM, X2_raise t p v σ = some σ' ∧ (∀ j : Nat, j ≠ 37 → σ' j = σ j) ∧ σ' 37 = if t ≤ 5 then mup (σ 37) (8 * t + p) v else σ 37 := by
  unfold X2_raise X2_isNode
  rw [if_neg (by omega)]
  by_cases c : 5 < t
  · rw [if_pos c, Option.bind_some, if_pos rfl, if_neg (by omega)]
    exact ⟨σ, rfl, fun _ _ => rfl, rfl⟩
  · rw [if_neg c, if_neg (by omega), if_pos hp.2, Option.bind_some, if_neg (by decide), gd_t (by omega), gd_t (by omega), mlet_eq, if_pos (by omega)]
    refine ⟨_, rfl, fun j hj => zup_ne hj, ?_⟩
    rw [zup_row, show t * 8 + p = 8 * t + p by omega]
    rfl
theorem X2_sumAt_eq {σ : MM} {t p : Int} (ht : 0 ≤ t ∧ t ≤ 5) (hp : 0 ≤ p ∧ p < 8) : X2_sumAt t p σ = some (σ 37 (8 * t + p)) := by
  unfold X2_sumAt X2_isNode
  rw [if_neg (by omega), if_neg (by omega), if_neg (by omega), if_pos hp.2, Option.bind_some, if_neg (by decide), gd_t (by omega), show t * 8 + p = 8 * t + p by omega]
def frP (σ σ' : MM) : Prop := ∀ j : Nat, j ≠ 37 → σ' j = σ j
theorem frP.tr {σ σ' σ'' : MM} (h : frP σ σ') (h' : frP σ' σ'') : frP σ σ'' := fun j hj => (h' j hj).trans (h j hj)
theorem frP.rl {σ σ' : MM} {g : Int → Int} (h : frP σ σ') (hR : sRL σ 1 g) : sRL σ' 1 g := sRL_congr hR (fun j hj _ => h _ (by omega))
theorem X2_followBody_eq {σ : MM} {g : Int → Int} {x p v : Int} (hI : sInv0 g) (hR : sRL σ 1 g) (hx : 0 ≤ x ∧ x ≤ 5) (hp : 0 ≤ p ∧ p < g 0) (hv : 0 ≤ v ∧ v ≤ 100000) : ∃ σ' : MM, X2_followBody 1 x p v σ = some σ' ∧ frP σ σ' ∧ σ' 37 = if p + 1 < g 0 then mup (σ 37) (8 * x + p + 1) (v + sCost g (g (20 + p))) else σ 37 := by
  have hn := hI.1.1
  have hs := hI.2.2.1 p hp.1 hp.2
  have hc := sCost_b hI hs.1 hs.2
  unfold X2_followBody
  rw [gd_t (by omega), X0_hasPosition_eq, hR.1]
  by_cases c : p + 1 < g 0
  · rw [if_pos (by omega), Option.bind_some, if_neg (by decide), X0_statementAt_at (by omega), Option.bind_some, (hR.2.2.2.1 p hp.1 hp.2).2.2, X0_costOf_at (by omega), Option.bind_some, (hR.2.2.2.1 _ hs.1 hs.2).1, gd_t (by omega)]
    obtain ⟨σ', q1, q2, q3⟩ := X2_raise_eq (σ := σ) (t := x) (p := p + 1) (v := v + sCost g (g (20 + p))) hx.1 (by omega)
    rw [q1, Option.bind_some, if_pos c]
    refine ⟨σ', rfl, q2, ?_⟩
    rw [q3, if_pos hx.2, show 8 * x + (p + 1) = 8 * x + p + 1 by omega]
  · rw [if_neg (by omega), Option.bind_some, if_pos rfl, if_neg c]
    exact ⟨σ, rfl, fun _ _ => rfl, rfl⟩
theorem X2_followSignals_L11_eq {g : Int → Int} {but x s v : Int} {k : MM → Option MM} (hI : sInv0 g) (hx : 0 ≤ x ∧ x ≤ 5) (hv : 0 ≤ v ∧ v ≤ 100000) : ∀ (n : Nat) (d : Int) (σ : MM), sRL σ 1 g → 0 ≤ d → d ≤ g 1 → g 1 - d < n →
    ∃ σ' : MM, X2_followSignals_L11 1 but x v s k n d σ = k σ' ∧ frP σ σ' ∧ σ' 37 = fdI (lwSig g 5 but x s v) d (g 1) (σ 37) := by
  have hn := hI.1.1
  have hm := hI.1.2.1
  intro n
  induction n with
  | zero => intro d σ hR h1 h2 h3; omega
  | succ n ih =>
    intro d σ hR h1 h2 h3
    rw [X2_followSignals_L11, hR.2.1]
    by_cases c : d < g 1
    · rw [if_pos c, fdI_lt c]
      obtain ⟨-, f1, f2, f3, -⟩ := hI.2.2.2.2.2 d h1 c
      obtain ⟨-, e6, e7, e8, -⟩ := hR.2.2.2.2 d h1 c
      have hl := sLag_b hI h1 c
      have hpt := (plc_spec hI f2.1 f2.2).1
      have hr := ih (d + 1) σ hR (by omega) (by omega) (by omega)
      by_cases c1 : d = but
      · rw [if_pos c1, show lwSig g 5 but x s v d (σ 37) = σ 37 from if_pos (Or.inl c1)]
        exact hr
      · rw [if_neg c1, gd_t (by omega), e6]
        by_cases c2 : sSrc g d = s
        · rw [if_pos c2, X0_isSignalled_eq hI hR h1 c, Option.bind_some]
          by_cases c3 : sSig g d = 0
          · rw [if_pos c3, show lwSig g 5 but x s v d (σ 37) = σ 37 from if_pos (Or.inr (Or.inr (Or.inl c3)))]
            exact hr
          · rw [if_neg c3, e7, X0_positionOf_at (by omega), Option.bind_some, (hR.2.2.2.1 _ f2.1 f2.2).2.1, X0_lagOf_eq hI hR h1 c, Option.bind_some, e8, gd_t (by omega), gd_t (by omega)]
            obtain ⟨σ1, q1, q2, q3⟩ := X2_raise_eq (σ := σ) (t := x + sFar g d) (p := plc g (sTgt g d)) (v := v + sLag g d) (by omega) (by omega)
            rw [q1, Option.bind_some]
            obtain ⟨σ2, u1, u2, u3⟩ := ih (d + 1) σ1 (frP.rl q2 hR) (by omega) (by omega) (by omega)
            refine ⟨σ2, u1, frP.tr q2 u2, ?_⟩
            rw [u3, q3]
            congr 1
            unfold lwSig
            by_cases c4 : x + sFar g d ≤ 5
            · rw [if_pos c4, if_neg]
              rintro (w | w | w | w)
              · exact c1 w
              · exact w c2
              · exact c3 w
              · omega
            · rw [if_neg c4, if_pos (Or.inr (Or.inr (Or.inr (by omega))))]
        · rw [if_neg c2, show lwSig g 5 but x s v d (σ 37) = σ 37 from if_pos (Or.inr (Or.inl c2))]
          exact hr
    · rw [if_neg c, fdI_ge (by omega)]
      exact ⟨σ, rfl, fun _ _ => rfl, rfl⟩
theorem X2_greatestSum_L74_eq {g : Int → Int} {but mode last x M : Int} {k : MM → Option (Int × MM)} (hI : sInv0 g) (hx : 0 ≤ x ∧ x ≤ 5) (hM : -1 ≤ M ∧ M ≤ 10000) : ∀ (n : Nat) (p : Int) (σ : MM), sRL σ 1 g → wB (σ 37) (M + 14 * p) → 0 ≤ p → p ≤ g 0 → g 0 - p < n →
    ∃ σ' : MM, X2_greatestSum_L74 1 but mode last x k n p σ = k σ' ∧ frP σ σ' ∧ σ' 37 = fdI (lwC g but x) p (g 0) (σ 37) := by
  have hn := hI.1.1
  have hm := hI.1.2.1
  intro n
  induction n with
  | zero => intro p σ hR hB h1 h2 h3; omega
  | succ n ih =>
    intro p σ hR hB h1 h2 h3
    rw [X2_greatestSum_L74, hR.1]
    by_cases c : p < g 0
    · have hw := hB (8 * x + p) (by omega) (by omega)
      have hb := lwC_b (but := but) (p := p) hI hx ⟨h1, c⟩ hB (by omega)
      have hs := hI.2.2.1 p h1 c
      rw [if_pos c, fdI_lt c, X2_sumAt_eq hx (by omega), Option.bind_some]
      by_cases c1 : σ 37 (8 * x + p) < 0
      · rw [if_pos c1, show lwC g but x p (σ 37) = σ 37 from if_pos c1]
        exact ih (p + 1) σ hR (wB_le hB (by omega)) (by omega) (by omega) (by omega)
      · rw [if_neg c1]
        obtain ⟨σ1, q1, q2, q3⟩ := X2_followBody_eq (v := σ 37 (8 * x + p)) hI hR hx ⟨h1, c⟩ (by omega)
        have hR1 := q2.rl hR
        obtain ⟨σ2, u1, u2, u3⟩ := X2_followSignals_L11_eq (but := but) (x := x) (s := g (20 + p)) (v := σ 37 (8 * x + p)) (k := fun σ27 => some σ27) hI hx (by omega) 100000 0 σ1 hR1 (by omega) (by omega) (by omega)
        have e2 : σ2 37 = lwC g but x p (σ 37) := by
          rw [u3, q3]
          exact (if_neg c1).symm
        have hfs : X2_followSignals 1 but x p (σ 37 (8 * x + p)) σ1 = some σ2 := by
          unfold X2_followSignals
          rw [X0_statementAt_at (by omega), Option.bind_some, (hR1.2.2.2.1 p h1 c).2.2]
          exact u1
        rw [q1, Option.bind_some, hfs, Option.bind_some]
        obtain ⟨σ3, w1, w2, w3⟩ := ih (p + 1) σ2 (u2.rl hR1) (by rw [e2, show M + 14 * (p + 1) = M + 14 * p + 14 by omega]; exact hb) (by omega) (by omega) (by omega)
        exact ⟨σ3, w1, (q2.tr u2).tr w2, by rw [w3, e2]⟩
    · rw [if_neg c, fdI_ge (by omega)]
      exact ⟨σ, rfl, fun _ _ => rfl, rfl⟩
theorem X2_followProcessor_eq {σ : MM} {g : Int → Int} {x : Int} (hI : sInv0 g) (hR : sRL σ 1 g) (hx : 0 ≤ x ∧ x ≤ 5) (h0 : 1 ≤ g 0) (hB : wB (σ 37) 100000) : ∃ σ' : MM, X2_followProcessor 1 x σ = some σ' ∧ frP σ σ' ∧ σ' 37 = if ¬ σ 37 (8 * x + (g 0 - 1)) < 0 ∧ x + g 4 ≤ 5 then mup (σ 37) (8 * (x + g 4)) (σ 37 (8 * x + (g 0 - 1)) + sCost g (g (20 + (g 0 - 1)))) else σ 37 := by
  have hn := hI.1.1
  have hP := hI.1.2.2.2.2.1
  have hw := hB (8 * x + (g 0 - 1)) (by omega) (by omega)
  have hs := hI.2.2.1 (g 0 - 1) (by omega) (by omega)
  have hc := sCost_b hI hs.1 hs.2
  unfold X2_followProcessor
  rw [hR.1, gd_t (by omega), X2_sumAt_eq hx (by omega), Option.bind_some]
  by_cases c : σ 37 (8 * x + (g 0 - 1)) < 0
  · rw [if_pos c, if_neg (fun q => q.1 c)]
    exact ⟨σ, rfl, fun _ _ => rfl, rfl⟩
  · rw [if_neg c, X0_statementAt_at (by omega), Option.bind_some, (hR.2.2.2.1 (g 0 - 1) (by omega) (by omega)).2.2, X0_costOf_at (by omega), Option.bind_some, (hR.2.2.2.1 _ hs.1 hs.2).1, show σ (1 + 10) 2 = g 4 from hR.2.2.1.2.2.1, gd_t (by omega), gd_t (by omega)]
    obtain ⟨σ1, q1, q2, q3⟩ := X2_raise_eq (σ := σ) (t := x + g 4) (p := 0) (v := σ 37 (8 * x + (g 0 - 1)) + sCost g (g (20 + (g 0 - 1)))) (by omega) (by omega)
    rw [q1, Option.bind_some]
    refine ⟨σ1, rfl, q2, ?_⟩
    rw [q3, show 8 * (x + g 4) + 0 = 8 * (x + g 4) by omega]
    by_cases c2 : x + g 4 ≤ 5
    · rw [if_pos c2, if_pos ⟨c, c2⟩]
    · rw [if_neg c2, if_neg (fun q => c2 q.2)]
