/-! the two are the same where it counts -/
theorem fdI_rel {α : Type} {R : α → α → Prop} {f f' : Int → α → α} {lo hi : Int} {a b : α} (h : R a b) (hs : ∀ j a b, lo ≤ j → j < hi → R a b → R (f j a) (f' j b)) : R (fdI f lo hi a) (fdI f' lo hi b) := by
  have key : ∀ (n : Nat) (i : Int) (a b : α), R a b → (∀ j a b, i ≤ j → j < i + n → R a b → R (f j a) (f' j b)) → R (fdN f n i a) (fdN f' n i b) := by
    intro n
    induction n with
    | zero => intro i a b h _; exact h
    | succ n ih =>
      intro i a b h hs
      exact ih (i + 1) _ _ (hs i a b (by omega) (by omega) h) (fun j a b u v w => hs j a b (by omega) (by omega) w)
  exact key _ lo a b h (fun j a b u v w => hs j a b u (by omega) w)
theorem mup_comm {w : Int → Int} {i j u v : Int} : mup (mup w i u) j v = mup (mup w j v) i u := by
  funext k
  unfold mup gup
  by_cases e : i = j
  · subst e
    by_cases e2 : k = i
    · simp only [if_pos e2, if_true]
      omega
    · simp only [if_neg e2]
  · have e' : ¬ j = i := fun q => e q.symm
    simp only [if_neg e, if_neg e']
    by_cases e2 : k = i
    · subst e2
      simp only [if_neg e, if_true]
    · simp only [if_neg e2]
theorem lwSig_low {g : Int → Int} (hI : sInv0 g) {L but x s v i : Int} {w : Int → Int} (hi : i < 8 * (x + 1)) : fdI (lwSig g L but x s v) 0 (g 1) w i = w i := by
  refine fdI_inv (α := Int → Int) (P := fun _ u => u i = w i) hI.1.2.1.1 rfl (fun d u h1 h2 h3 => ?_)
  obtain ⟨-, -, f2, -⟩ := hI.2.2.2.2.2 d h1 h2
  have hp := (plc_spec hI f2.1 f2.2).1
  unfold lwSig
  by_cases c : d = but ∨ ¬ sSrc g d = s ∨ sSig g d = 0 ∨ L < x + sFar g d
  · rw [if_pos c]; exact h3
  · have hs : ¬ sSig g d = 0 := fun q => c (Or.inr (Or.inr (Or.inl q)))
    have := (sSig_far hs).1
    rw [if_neg c]
    unfold mup
    rw [gup_n (by omega)]
    exact h3
theorem lwSig_mup {g : Int → Int} {L but x s v i u : Int} {w : Int → Int} : fdI (lwSig g L but x s v) 0 (g 1) (mup w i u) = mup (fdI (lwSig g L but x s v) 0 (g 1) w) i u := by
  refine fdI_rel (R := fun a b => a = mup b i u) rfl (fun d a b h1 h2 h3 => ?_)
  subst h3
  unfold lwSig
  by_cases c : d = but ∨ ¬ sSrc g d = s ∨ sSig g d = 0 ∨ L < x + sFar g d
  · rw [if_pos c, if_pos c]
  · rw [if_neg c, if_neg c, mup_comm]
theorem lwRowC_eq {g : Int → Int} (hI : sInv0 g) (h0 : 1 ≤ g 0) {but mode x : Int} {w : Int → Int} : lwRowC g but mode x w = lwRow g 5 but mode x w := by
  have hn := hI.1.1
  unfold lwRowC lwRow
  have e : g 0 = (g 0 - 1) + 1 := by omega
  have eC : fdI (lwC g but x) 0 (g 0) w = lwC g but x (g 0 - 1) (fdI (lwC g but x) 0 (g 0 - 1) w) := by
    have := fdI_last (f := lwC g but x) (lo := 0) (hi := g 0 - 1) (a := w) (by omega)
    rwa [← e] at this
  have eS : fdI (lwStep g 5 but mode x) 0 (g 0) w = lwStep g 5 but mode x (g 0 - 1) (fdI (lwStep g 5 but mode x) 0 (g 0 - 1) w) := by
    have := fdI_last (f := lwStep g 5 but mode x) (lo := 0) (hi := g 0 - 1) (a := w) (by omega)
    rwa [← e] at this
  have eCS : fdI (lwC g but x) 0 (g 0 - 1) w = fdI (lwStep g 5 but mode x) 0 (g 0 - 1) w := fdI_congr (fun p a h1 h2 => by
    unfold lwC lwStep
    rw [if_pos (show p + 1 < g 0 by omega), if_pos (show p + 1 < g 0 by omega)])
  rw [eC, eS, eCS]
  generalize fdI (lwStep g 5 but mode x) 0 (g 0 - 1) w = W
  by_cases c : W (8 * x + (g 0 - 1)) < 0
  · have e1 : lwC g but x (g 0 - 1) W = W := if_pos c
    have e2 : lwStep g 5 but mode x (g 0 - 1) W = W := if_pos c
    rw [e1, e2, if_neg (fun q => q.2.1 c)]
  · have e1 : lwC g but x (g 0 - 1) W = fdI (lwSig g 5 but x (g (20 + (g 0 - 1))) (W (8 * x + (g 0 - 1)))) 0 (g 1) W := by
      unfold lwC
      rw [if_neg c, if_neg (show ¬ g 0 - 1 + 1 < g 0 by omega)]
    have e2 : lwStep g 5 but mode x (g 0 - 1) W = fdI (lwSig g 5 but x (g (20 + (g 0 - 1))) (W (8 * x + (g 0 - 1)))) 0 (g 1) (if mode = 1 ∧ ¬ 5 < x + g 4 then mup W (8 * (x + g 4)) (W (8 * x + (g 0 - 1)) + sCost g (g (20 + (g 0 - 1)))) else W) := by
      unfold lwStep
      rw [if_neg c, if_neg (show ¬ g 0 - 1 + 1 < g 0 by omega)]
    rw [e1, e2, lwSig_low hI (by omega)]
    by_cases cm : mode = 1 ∧ x + g 4 ≤ 5
    · rw [if_pos ⟨cm.1, c, cm.2⟩, if_pos ⟨cm.1, by omega⟩, lwSig_mup]
    · rw [if_neg (fun q => cm ⟨q.1, q.2.2⟩), if_neg (fun q => cm ⟨q.1, by omega⟩)]
def wR (N : Int) (w w' : Int → Int) : Prop := ∀ i, 0 ≤ i → i < N → w i = w' i
theorem wR_mup {N : Int} {w w' : Int → Int} {i v : Int} (h : wR N w w') : wR N (mup w i v) (mup w' i v) := fun j h1 h2 => by
  unfold mup gup
  by_cases e : j = i
  · subst e
    rw [if_pos rfl, if_pos rfl, h j h1 h2]
  · rw [if_neg e, if_neg e, h j h1 h2]
theorem wR_l {N : Int} {w w' : Int → Int} {i v : Int} (h : wR N w w') (hi : N ≤ i) : wR N (mup w i v) w' := fun j h1 h2 => by
  unfold mup
  rw [gup_n (by omega)]
  exact h j h1 h2
theorem wR_r {N : Int} {w w' : Int → Int} {i v : Int} (h : wR N w w') (hi : N ≤ i) : wR N w (mup w' i v) := fun j h1 h2 => by
  unfold mup
  rw [gup_n (by omega)]
  exact h j h1 h2
theorem lwSig_rel {g : Int → Int} (hI : sInv0 g) {last L L' but x s v : Int} {w w' : Int → Int} (hL : last ≤ L) (hL' : last ≤ L') (h : wR (8 * (last + 1)) w w') : wR (8 * (last + 1)) (fdI (lwSig g L but x s v) 0 (g 1) w) (fdI (lwSig g L' but x s v) 0 (g 1) w') := by
  refine fdI_rel h (fun d a b h1 h2 h3 => ?_)
  obtain ⟨-, -, f2, -⟩ := hI.2.2.2.2.2 d h1 h2
  have hp := (plc_spec hI f2.1 f2.2).1
  unfold lwSig
  by_cases c : d = but ∨ ¬ sSrc g d = s ∨ sSig g d = 0
  · rw [if_pos (by rcases c with c | c | c <;> simp [c]), if_pos (by rcases c with c | c | c <;> simp [c])]
    exact h3
  · have c' : ∀ K : Int, (d = but ∨ ¬ sSrc g d = s ∨ sSig g d = 0 ∨ K < x + sFar g d) ↔ K < x + sFar g d := fun K => by
      constructor
      · rintro (q | q | q | q)
        · exact absurd (Or.inl q) c
        · exact absurd (Or.inr (Or.inl q)) c
        · exact absurd (Or.inr (Or.inr q)) c
        · exact q
      · exact fun q => Or.inr (Or.inr (Or.inr q))
    by_cases k1 : L < x + sFar g d
    · rw [if_pos ((c' L).mpr k1)]
      by_cases k2 : L' < x + sFar g d
      · rw [if_pos ((c' L').mpr k2)]; exact h3
      · rw [if_neg (fun q => k2 ((c' L').mp q))]
        exact wR_r h3 (by omega)
    · rw [if_neg (fun q => k1 ((c' L).mp q))]
      by_cases k2 : L' < x + sFar g d
      · rw [if_pos ((c' L').mpr k2)]
        exact wR_l h3 (by omega)
      · rw [if_neg (fun q => k2 ((c' L').mp q))]
        exact wR_mup h3
theorem lwRow_rel {g : Int → Int} (hI : sInv0 g) {last L L' but mode x : Int} {w w' : Int → Int} (hL : last ≤ L) (hL' : last ≤ L') (hx : 0 ≤ x ∧ x ≤ last) (h : wR (8 * (last + 1)) w w') : wR (8 * (last + 1)) (lwRow g L but mode x w) (lwRow g L' but mode x w') := by
  have hn := hI.1.1
  unfold lwRow
  refine fdI_rel h (fun p a b h1 h2 h3 => ?_)
  have e := h3 (8 * x + p) (by omega) (by omega)
  unfold lwStep
  rw [e]
  by_cases c : b (8 * x + p) < 0
  · rw [if_pos c, if_pos c]; exact h3
  · rw [if_neg c, if_neg c]
    refine lwSig_rel hI hL hL' ?_
    by_cases c2 : p + 1 < g 0
    · rw [if_pos c2, if_pos c2]
      exact wR_mup h3
    · rw [if_neg c2, if_neg c2]
      by_cases cm : mode = 1
      · by_cases k1 : L < x + g 4
        · rw [if_neg (fun q => q.2 k1)]
          by_cases k2 : L' < x + g 4
          · rw [if_neg (fun q => q.2 k2)]; exact h3
          · rw [if_pos ⟨cm, k2⟩]; exact wR_r h3 (by omega)
        · rw [if_pos ⟨cm, k1⟩]
          by_cases k2 : L' < x + g 4
          · rw [if_neg (fun q => q.2 k2)]; exact wR_l h3 (by omega)
          · rw [if_pos ⟨cm, k2⟩]; exact wR_mup h3
      · rw [if_neg (fun q => cm q.1), if_neg (fun q => cm q.1)]; exact h3
def sLead (g : Int → Int) (d mode : Int) : Int := fdI (lwRow g (sFar g d) d mode) 0 (sFar g d + 1) (mup (fun _ => -1) (plc g (sSrc g d)) 0) (8 * sFar g d + plc g (sTgt g d))
theorem X2_lead {σ : MM} {g : Int → Int} {d mode : Int} (hI : sInv0 g) (hR : sRL σ 1 g) (h1 : 0 ≤ d) (h2 : d < g 1) : ∃ σ' : MM, X2_greatestSum 1 d mode σ = some (sLead g d mode, σ') ∧ frP σ σ' := by
  have hn := hI.1.1
  obtain ⟨-, f1, f2, f3, -⟩ := hI.2.2.2.2.2 d h1 h2
  have p2 := (plc_spec hI f2.1 f2.2).1
  obtain ⟨σ', w0, q1, q2, q3⟩ := X2_greatestSum_eq (mode := mode) hI hR h1 h2
  refine ⟨σ', ?_, q2⟩
  rw [q1]
  have h : wR (8 * (sFar g d + 1)) (mup w0 (plc g (sSrc g d)) 0) (mup (fun _ => -1) (plc g (sSrc g d)) 0) := wR_mup (fun i u v => q3 i u (by omega))
  have := fdI_rel (R := wR (8 * (sFar g d + 1))) (f := lwRowC g d mode) (f' := lwRow g (sFar g d) d mode) (lo := 0) (hi := sFar g d + 1) h (fun x a b u v r => by
    rw [lwRowC_eq hI (by omega)]
    exact lwRow_rel hI f3.2 (Int.le_refl _) ⟨u, by omega⟩ r)
  have := this (8 * sFar g d + plc g (sTgt g d)) (by omega) (by omega)
  rw [this]
  rfl
theorem X6_lead_eq {σ : MM} {g : Int → Int} {d mode : Int} (hg : σ 59 = g) (hI : sInv0 g) (h1 : 0 ≤ d) (h2 : d < g 1) : ∃ σ' : MM, X6_leadOf d mode σ = some (sLead g d mode, σ') ∧ frW σ σ' := by
  have hn := hI.1.1
  obtain ⟨-, f1, f2, f3, -⟩ := hI.2.2.2.2.2 d h1 h2
  have p2 := (plc_spec hI f2.1 f2.2).1
  obtain ⟨σ', w0, q1, q2, q3⟩ := X6_leadOf_eq (mode := mode) hg hI h1 h2
  refine ⟨σ', ?_, q2⟩
  rw [q1]
  have h : wR (8 * (sFar g d + 1)) (mup w0 (plc g (sSrc g d)) 0) (mup (fun _ => -1) (plc g (sSrc g d)) 0) := wR_mup (fun i u v => q3 i u (by omega))
  have := fdI_rel (R := wR (8 * (sFar g d + 1))) (f := lwRow g (sFar g d) d mode) (f' := lwRow g (sFar g d) d mode) (lo := 0) (hi := sFar g d + 1) h (fun x a b u v r => lwRow_rel hI (Int.le_refl _) (Int.le_refl _) ⟨u, by omega⟩ r)
  have := this (8 * sFar g d + plc g (sTgt g d)) (by omega) (by omega)
  rw [this]
  rfl
theorem SE.frP {σ σ' : MM} (h : frP σ σ') : SE σ σ' := ⟨fun j hj => h j (by omega), by rw [h 34 (by decide)], by rw [h 58 (by decide)], by rw [h 58 (by decide)], by rw [h 58 (by decide)], h 72 (by decide)⟩
theorem SE.frW {σ σ' : MM} (h : frW σ σ') : SE σ σ' := ⟨fun j hj => h j (by omega), by rw [h 34 (by decide)], by rw [h 58 (by decide)], by rw [h 58 (by decide)], by rw [h 58 (by decide)], h 72 (by decide)⟩
theorem X5_isMode_eq {σ : MM} {a : Int} : X5_isMode a σ = some (if 0 ≤ a ∧ a ≤ 1 then 1 else 0) := by
  unfold X5_isMode
  by_cases c : a = 0
  · rw [if_pos c, if_pos (by omega)]
  · rw [if_neg c]
    by_cases c2 : a = 1
    · rw [if_pos c2, if_pos (by omega)]
    · rw [if_neg c2, if_neg (by omega)]
theorem op_lead {σ : MM} (h : ST σ) (a1 a2 : Int) : OpX (X5_lead a1 a2 σ) (X6_lead a1 a2) kB := by
  have hI := h.1.1
  have hm := hI.1.2.1
  have e1 := h.2.1.2.1
  by_cases c : 0 ≤ a1 ∧ a1 < σ 59 1
  · have hc : X0_hasDependence 1 a1 σ = some 1 := by rw [X0_hasDependence_eq, if_pos (by omega)]
    have hr : ∀ σ' : MM, σ' 59 = σ 59 → X6_isDependence a1 (zup σ' 58 3 0) = some 1 := fun σ' hg => by rw [X6_isDependence_eq (by rw [zup59, hg]; exact hm), zup59, hg, if_pos c]
    by_cases c2 : 0 ≤ a2 ∧ a2 ≤ 1
    · by_cases c3 : sFar (σ 59) a1 = 0
      · refine opX_bad (xo := 2) h ?_ (by decide) (fun σ' h' hg => ?_)
        · unfold X5_lead
          rw [hc, Option.bind_some, if_neg (by decide), X5_isMode_eq, if_pos c2, Option.bind_some, if_neg (by decide), gd_t (by omega), show σ 9 a1 = sFar (σ 59) a1 from (h.2.1.2.2.2.2 a1 c.1 c.2).2.2.2.1, if_pos c3]
        · unfold X6_lead
          rw [mlet_eq, hr σ' hg, Option.bind_some, if_neg (by decide), X6_in_eq, if_pos c2, Option.bind_some, if_neg (by decide), X6_far_eq (by omega), zup59, hg, Option.bind_some, if_pos c3, X6_fails_eq]
          rfl
      · obtain ⟨σ1, q1, q2⟩ := X2_lead (mode := a2) hI h.2.1 c.1 c.2
        refine opX_ok (r := sLead (σ 59) a1 a2) rfl h ⟨σ1, ?_, SE.frP q2⟩ (fun σ' h' hg _ => ?_)
        · unfold X5_lead
          rw [hc, Option.bind_some, if_neg (by decide), X5_isMode_eq, if_pos c2, Option.bind_some, if_neg (by decide), gd_t (by omega), show σ 9 a1 = sFar (σ 59) a1 from (h.2.1.2.2.2.2 a1 c.1 c.2).2.2.2.1, if_neg c3, q1]
          rfl
        · obtain ⟨σ2, u1, u2⟩ := X6_lead_eq (σ := zup σ' 58 3 0) (mode := a2) (by rw [zup59, hg]) hI c.1 c.2
          refine ⟨σ2, ?_, (SE.thr).tr (SE.frW u2), by rw [u2 58 (by decide), zup_s]⟩
          unfold X6_lead
          rw [mlet_eq, hr σ' hg, Option.bind_some, if_neg (by decide), X6_in_eq, if_pos c2, Option.bind_some, if_neg (by decide), X6_far_eq (by omega), zup59, hg, Option.bind_some, if_neg c3, u1]
          rfl
    · refine opX_bad (xo := 1) h ?_ (by decide) (fun σ' h' hg => ?_)
      · unfold X5_lead
        rw [hc, Option.bind_some, if_neg (by decide), X5_isMode_eq, if_neg c2, Option.bind_some, if_pos rfl]
      · unfold X6_lead
        rw [mlet_eq, hr σ' hg, Option.bind_some, if_neg (by decide), X6_in_eq, if_neg c2, Option.bind_some, if_pos rfl, X6_fails_eq]
        rfl
  · refine opX_bad (xo := 3) h ?_ (by decide) (fun σ' h' hg => ?_)
    · unfold X5_lead
      rw [X0_hasDependence_eq, if_neg (by omega), Option.bind_some, if_pos rfl]
    · unfold X6_lead
      rw [mlet_eq, X6_isDependence_eq (by rw [zup59, hg]; exact hm), zup59, hg, if_neg c, Option.bind_some, if_pos rfl, X6_fails_eq]
      rfl
