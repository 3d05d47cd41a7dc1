/-! calls that change the loop -/
def gup (g : Int → Int) (i v : Int) : Int → Int := fun j => if j = i then v else g j
theorem gup_s {g : Int → Int} {i v : Int} : gup g i v i = v := if_pos rfl
theorem gup_n {g : Int → Int} {i v j : Int} (h : j ≠ i) : gup g i v j = g j := if_neg h
theorem zup_row {σ : MM} {k : Nat} {i v : Int} : zup σ k i v k = gup (σ k) i v := by
  funext j
  simp [zup, gup]
theorem plc_congr {g g' : Int → Int} (h : ∀ p, 0 ≤ p → p < 8 → g' (20 + p) = g (20 + p)) (s : Int) : plc g' s = plc g s := by
  have key : ∀ (n : Nat) (p : Int), 0 ≤ p → p + n ≤ 8 → plcN g' s n p = plcN g s n p := by
    intro n
    induction n with
    | zero => intro p _ _; rfl
    | succ n ih =>
      intro p h1 h2
      rw [plcN, plcN, h p h1 (by omega), ih (p + 1) (by omega) (by omega)]
  exact key 8 0 (by omega) (by omega)
theorem sInv_keep {g g' : Int → Int} (hI : sInv g) (h0 : g' 0 = g 0) (hr : (0 ≤ g' 1 ∧ g' 1 ≤ 16) ∧ (1 ≤ g' 2 ∧ g' 2 ≤ 40) ∧ (0 ≤ g' 3 ∧ g' 3 ≤ 5) ∧ (1 ≤ g' 4 ∧ g' 4 ≤ 6) ∧ (0 ≤ g' 5 ∧ g' 5 ≤ 2)) (hc : ∀ s, 0 ≤ s → s < g 0 → 1 ≤ g' (10 + s) ∧ g' (10 + s) ≤ 9) (hp : ∀ p, 0 ≤ p → p < 8 → g' (20 + p) = g (20 + p)) (hd : ∀ d, 0 ≤ d → d < g' 1 → ∃ e, (0 ≤ e ∧ e < g 1) ∧ sKind g' d = sKind g e ∧ sSrc g' d = sSrc g e ∧ sTgt g' d = sTgt g e ∧ sFar g' d = sFar g e ∧ (sKp g' d = 0 ∨ sKp g' d = 1)) : sInv g' := by
  have hn := hI.1.1.1
  have a : ∀ p, 0 ≤ p → p < g' 0 → g' (20 + p) = g (20 + p) := fun p h1 h2 => hp p h1 (by omega)
  refine ⟨⟨⟨by rw [h0]; exact hn, hr⟩, fun s h1 h2 => hc s h1 (by omega), fun p h1 h2 => by rw [a p h1 h2, h0]; exact hI.1.2.2.1 p h1 (by omega), fun p q h1 h2 h3 h4 h5 => hI.1.2.2.2.1 p q h1 (by omega) h3 (by omega) (by rw [← a p h1 h2, ← a q h3 h4]; exact h5), fun s h1 h2 => ?_, fun d h1 h2 => ?_⟩, fun d h1 h2 h3 => ?_⟩
  · obtain ⟨p, h3, h4, h5⟩ := hI.1.2.2.2.2.1 s h1 (by omega)
    exact ⟨p, h3, by omega, by rw [a p h3 (by omega)]; exact h5⟩
  · obtain ⟨e, h3, e0, e1, e2, e3, e4⟩ := hd d h1 h2
    obtain ⟨f0, f1, f2, f3, -⟩ := hI.1.2.2.2.2.2 e h3.1 h3.2
    exact ⟨by rw [e0]; exact f0, by rw [e1, h0]; exact f1, by rw [e2, h0]; exact f2, by rw [e3]; exact f3, e4⟩
  · obtain ⟨e, h4, e0, e1, e2, e3, e4⟩ := hd d h1 h2
    rw [plc_congr hp, plc_congr hp, e1, e2]
    exact hI.2 e h4.1 h4.2 (by rw [← e3]; exact h3)
/-- what a change of the loop leaves -/
theorem ST.mut {σ σ1 σ' σ2 : MM} (h : ST σ) (hc : ∀ j : Nat, ¬ (1 ≤ j ∧ j ≤ 11) → σ1 j = σ j) (hj : ∀ j : Nat, j ≠ 72 → σ' j = σ1 j) (hr : ∀ j : Nat, j ≠ 59 → σ2 j = zup σ' 58 3 0 j) (hI : sInv (σ2 59)) (hR : sRL σ1 1 (σ2 59)) (hK : sKB σ1 1) : ST σ2 := by
  have z : ∀ j : Nat, j ≠ 59 → j ≠ 58 → j ≠ 72 → σ2 j = σ1 j := fun j a b c => by rw [hr j a, zup_ne b, hj j c]
  have z58 : ∀ i : Int, i ≠ 3 → σ2 58 i = σ 58 i := fun i hi => by rw [hr 58 (by decide), zup_i hi, hj 58 (by decide), hc 58 (by omega)]
  have y : ∀ j : Nat, j ≠ 59 → j ≠ 58 → j ≠ 72 → ¬ (1 ≤ j ∧ j ≤ 11) → σ2 j = σ j := fun j a b c d => by rw [z j a b c, hc j d]
  obtain ⟨-, -, -, h4, h5, h6, h7, h8, h9⟩ := h
  refine ⟨hI, sRL_congr hR (fun j hj _ => z _ (by omega) (by omega) (by omega)), fun i a b => by rw [z _ (by decide) (by decide) (by decide)]; exact hK i a b, fun i a b => by rw [y (12 + 9) (by decide) (by decide) (by decide) (by decide)]; exact h4 i a b, by rw [y 34 (by decide) (by decide) (by decide) (by decide), z58 5 (by decide)]; exact h5, by rw [y 35 (by decide) (by decide) (by decide) (by decide), y 61 (by decide) (by decide) (by decide) (by decide), z58 5 (by decide)]; exact h6, by rw [y 0 (by decide) (by decide) (by decide) (by decide), z58 7 (by decide)]; exact h7, by rw [y 0 (by decide) (by decide) (by decide) (by decide), z58 2 (by decide)]; exact h8, fun q => ?_⟩
  rw [z58 2 (by decide)] at q
  rw [y 60 (by decide) (by decide) (by decide) (by decide)]
  exact ⟨(h9 q).1, sRL_congr (h9 q).2 (fun j hj _ => y _ (by omega) (by omega) (by omega) (by omega))⟩
theorem op_mutX {σ σ1 : MM} {cls : Option (Int × Int × MM)} {ref : MM → Option (Int × MM)} {kc : Int → Int} {r : Int} {g' : Int → Int} (hk : kc 0 = 0) (h : ST σ) (hc : cls = some (0, r, σ1)) (hf : ∀ j : Nat, ¬ (1 ≤ j ∧ j ≤ 11) → σ1 j = σ j) (hI : sInv g') (hR : sRL σ1 1 g') (hK : sKB σ1 1) (hr : ∀ σ' : MM, σ' 59 = σ 59 → ∃ σ2 : MM, ref σ' = some (r, σ2) ∧ (∀ j : Nat, j ≠ 59 → σ2 j = zup σ' 58 3 0 j) ∧ σ2 59 = g') : OpX cls ref kc := by
  refine ⟨0, r, σ1, hc, Or.inl rfl, fun σ' hj => ?_⟩
  obtain ⟨σ2, q1, q2, q3⟩ := hr σ' (by rw [hj 59 (by decide), hf 59 (by decide)])
  exact ⟨r, σ2, q1, by rw [q2 58 (by decide), zup_s, hk], fun _ => rfl, h.mut hf hj q2 (by rw [q3]; exact hI) (by rw [q3]; exact hR) hK, by rw [q2 72 (by decide), zup_ne (by decide)]⟩
theorem op_mutN {σ σ1 : MM} {cls : Option (Int × MM)} {ref : MM → Option (Int × MM)} {r : Int} {g' : Int → Int} (h : ST σ) (hc : cls = some (r, σ1)) (hf : ∀ j : Nat, ¬ (1 ≤ j ∧ j ≤ 11) → σ1 j = σ j) (hI : sInv g') (hR : sRL σ1 1 g') (hK : sKB σ1 1) (hr : ∀ σ' : MM, σ' 59 = σ 59 → ∃ σ2 : MM, ref σ' = some (r, σ2) ∧ (∀ j : Nat, j ≠ 59 → σ2 j = zup σ' 58 3 0 j) ∧ σ2 59 = g') : OpN cls ref := by
  obtain ⟨σ2, q1, q2, q3⟩ := hr σ1 (hf 59 (by decide))
  exact ⟨r, σ1, σ2, hc, q1, h.mut hf (fun _ _ => rfl) q2 (by rw [q3]; exact hI) (by rw [q3]; exact hR) hK⟩
theorem op_setCost {σ : MM} (h : ST σ) (a1 a2 : Int) : OpX (X5_setCost a1 a2 σ) (X6_setCost a1 a2) kB2 := by
  have hI := h.1.1
  have hn := hI.1.1
  by_cases c : 0 ≤ a1 ∧ a1 < σ 59 0
  · have hc : X0_hasStatement 1 a1 σ = some 1 := by rw [X0_hasStatement_eq, if_pos (by rw [h.2.1.1]; exact c)]
    have hr : ∀ σ' : MM, σ' 59 = σ 59 → X6_isStatement a1 (zup σ' 58 3 0) = some 1 := fun σ' hg => by rw [X6_isStatement_eq (by rw [zup59, hg]; exact hn), zup59, hg, if_pos c]
    by_cases c2 : 1 ≤ a2 ∧ a2 ≤ 9
    · refine op_mutX (g' := gup (σ 59) (10 + a1) a2) (σ1 := zup σ 2 a1 a2) (r := sCost (σ 59) a1) rfl h ?_ (fun j hj => zup_ne (by omega)) ?_ ?_ ?_ (fun σ' hg => ⟨zup (zup σ' 58 3 0) 59 (10 + a1) a2, ?_, fun j hj => zup_ne hj, ?_⟩)
      · unfold X5_setCost
        rw [hc, Option.bind_some, if_neg (by decide), if_neg (by omega), if_neg (by omega), gd_t (by omega), mlet_eq, show σ 2 a1 = sCost (σ 59) a1 from (h.2.1.2.2.2.1 a1 c.1 c.2).1]
      · have k : ∀ i : Int, i ≠ 10 + a1 → gup (σ 59) (10 + a1) a2 i = σ 59 i := fun i hi => gup_n hi
        refine sInv_keep h.1 (k 0 (by omega)) ?_ (fun s h1 h2 => ?_) (fun p h1 h2 => k _ (by omega)) (fun d h1 h2 => ⟨d, ⟨h1, by rw [k 1 (by omega)] at h2; exact h2⟩, k _ (by omega), k _ (by omega), k _ (by omega), k _ (by omega), ?_⟩)
        · rw [k 1 (by omega), k 2 (by omega), k 3 (by omega), k 4 (by omega), k 5 (by omega)]
          exact hI.1.2
        · show 1 ≤ (if 10 + s = 10 + a1 then a2 else σ 59 (10 + s)) ∧ (if 10 + s = 10 + a1 then a2 else σ 59 (10 + s)) ≤ 9
          have := hI.2.1 s h1 h2
          split <;> omega
        · rw [k 1 (by omega)] at h2
          have := (hI.2.2.2.2.2 d h1 h2).2.2.2.2
          unfold sKp at this ⊢
          rw [k _ (by omega)]
          exact this
      · have k : ∀ i : Int, i ≠ 10 + a1 → gup (σ 59) (10 + a1) a2 i = σ 59 i := fun i hi => gup_n hi
        obtain ⟨r0, r1, r2, r3, r4⟩ := h.2.1
        refine ⟨by rw [k 0 (by omega), zup_ne (by decide)]; exact r0, by rw [k 1 (by omega), zup_ne (by decide)]; exact r1, by rw [k 2 (by omega), k 3 (by omega), k 4 (by omega), k 5 (by omega), zup_ne (by decide)]; exact r2, fun s h1 h2 => ?_, fun d h1 h2 => ?_⟩
        · rw [k 0 (by omega)] at h2
          obtain ⟨f1, f2, f3⟩ := r3 s h1 h2
          refine ⟨?_, by rw [zup_ne (by decide), plc_congr (fun p u1 u2 => k _ (by omega))]; exact f2, by rw [k _ (by omega), zup_ne (by decide)]; exact f3⟩
          show zup σ 2 a1 a2 2 s = if 10 + s = 10 + a1 then a2 else σ 59 (10 + s)
          by_cases e : s = a1
          · rw [e, zup_s, if_pos rfl]
          · rw [zup_i e, if_neg (by omega)]
            exact f1
        · rw [k 1 (by omega)] at h2
          obtain ⟨f1, f2, f3, f4, f5⟩ := r4 d h1 h2
          unfold sKind sSrc sTgt sFar sKp
          rw [k _ (by omega), k _ (by omega), k _ (by omega), k _ (by omega), k _ (by omega), zup_ne (by decide), zup_ne (by decide), zup_ne (by decide), zup_ne (by decide), zup_ne (by decide)]
          exact ⟨f1, f2, f3, f4, f5⟩
      · intro i h1 h2
        rw [zup_ne (by decide)]
        exact h.2.2.1 i h1 h2
      · unfold X6_setCost
        rw [mlet_eq, hr σ' hg, Option.bind_some, if_neg (by decide), X6_in_eq, if_pos c2, Option.bind_some, if_neg (by decide), X6_cost_eq (by omega), Option.bind_some, gd_t (by omega), mlet_eq, zup59, hg]
      · rw [zup_row, zup59, hg]
    · refine opX_bad (xo := 1) h ?_ (by decide) (fun σ' h' hg => ?_)
      · unfold X5_setCost
        rw [hc, Option.bind_some, if_neg (by decide)]
        by_cases c3 : a2 < 1
        · rw [if_pos c3]
        · rw [if_neg c3, if_pos (by omega)]
      · unfold X6_setCost
        rw [mlet_eq, hr σ' hg, Option.bind_some, if_neg (by decide), X6_in_eq, if_neg c2, Option.bind_some, if_pos rfl, X6_fails_eq]
        rfl
  · refine opX_bad (xo := 3) h ?_ (by decide) (fun σ' h' hg => ?_)
    · unfold X5_setCost
      rw [X0_hasStatement_eq, if_neg (by rw [h.2.1.1]; exact c), Option.bind_some, if_pos rfl]
    · unfold X6_setCost
      rw [mlet_eq, X6_isStatement_eq (by rw [zup59, hg]; exact hn), zup59, hg, if_neg c, Option.bind_some, if_pos rfl, X6_fails_eq]
      rfl
theorem op_set {σ : MM} (h : ST σ) (a1 a2 : Int) : OpX (X5_set a1 a2 σ) (X6_set a1 a2) kA := by
  have hI := h.1.1
  by_cases c : (0 ≤ a1 ∧ a1 < 4) ∧ leI a1 ≤ a2 ∧ a2 ≤ grI a1
  · have hm : ∀ σ' : MM, X6_maySet a1 a2 σ' = some 1 := by
      intro σ'
      have e : a1 = 0 ∨ a1 = 1 ∨ a1 = 2 ∨ a1 = 3 := by omega
      unfold X6_maySet
      obtain ⟨-, c1, c2⟩ := c
      rcases e with rfl | rfl | rfl | rfl <;> simp [leI, grI] at c1 c2 <;> simp [X6_in_eq] <;> omega
    have hv : (0 ≤ a1 ∧ a1 < 4) ∧ (a1 = 0 → 1 ≤ a2 ∧ a2 ≤ 40) ∧ (a1 = 1 → 0 ≤ a2 ∧ a2 ≤ 5) ∧ (a1 = 2 → 1 ≤ a2 ∧ a2 ≤ 6) ∧ (a1 = 3 → 0 ≤ a2 ∧ a2 ≤ 2) := by
      obtain ⟨c0, c1, c2⟩ := c
      refine ⟨c0, ?_, ?_, ?_, ?_⟩ <;> intro e <;> subst e <;> simp [leI, grI] at c1 c2 <;> omega
    have k : ∀ i : Int, i ≠ 2 + a1 → gup (σ 59) (2 + a1) a2 i = σ 59 i := fun i hi => gup_n hi
    obtain ⟨r0, r1, ⟨r21, r22, r23, r24⟩, r3, r4⟩ := h.2.1
    refine op_mutX (g' := gup (σ 59) (2 + a1) a2) (σ1 := zup σ 11 a1 a2) (r := σ 59 (2 + a1)) rfl h ?_ (fun j hj => zup_ne (by omega)) ?_ ?_ ?_ (fun σ' hg => ⟨zup (zup σ' 58 3 0) 59 (2 + a1) a2, ?_, fun j hj => zup_ne hj, ?_⟩)
    · unfold X5_set
      rw [if_neg (by omega), if_pos c.1.2, if_neg (by omega), if_neg (by omega), mlet_eq]
      have e : a1 = 0 ∨ a1 = 1 ∨ a1 = 2 ∨ a1 = 3 := by omega
      have e2 : σ 11 a1 = σ 59 (2 + a1) := by
        rcases e with rfl | rfl | rfl | rfl
        · exact r21
        · exact r22
        · exact r23
        · exact r24
      rw [e2]
    · refine sInv_keep h.1 (k 0 (by omega)) ?_ (fun s h1 h2 => by rw [k _ (by omega)]; exact hI.2.1 s h1 h2) (fun p h1 h2 => k _ (by omega)) (fun d h1 h2 => ⟨d, ⟨h1, by rw [k 1 (by omega)] at h2; exact h2⟩, k _ (by omega), k _ (by omega), k _ (by omega), k _ (by omega), ?_⟩)
      · obtain ⟨-, i1, i2, i3, i4, i5⟩ := hI.1
        rw [k 1 (by omega)]
        refine ⟨i1, ?_, ?_, ?_, ?_⟩
        · show 1 ≤ (if 2 = 2 + a1 then a2 else σ 59 2) ∧ (if 2 = 2 + a1 then a2 else σ 59 2) ≤ 40
          split <;> omega
        · show 0 ≤ (if 3 = 2 + a1 then a2 else σ 59 3) ∧ (if 3 = 2 + a1 then a2 else σ 59 3) ≤ 5
          split <;> omega
        · show 1 ≤ (if 4 = 2 + a1 then a2 else σ 59 4) ∧ (if 4 = 2 + a1 then a2 else σ 59 4) ≤ 6
          split <;> omega
        · show 0 ≤ (if 5 = 2 + a1 then a2 else σ 59 5) ∧ (if 5 = 2 + a1 then a2 else σ 59 5) ≤ 2
          split <;> omega
      · rw [k 1 (by omega)] at h2
        have := (hI.2.2.2.2.2 d h1 h2).2.2.2.2
        unfold sKp at this ⊢
        rw [k _ (by omega)]
        exact this
    · refine ⟨by rw [k 0 (by omega), zup_ne (by decide)]; exact r0, by rw [k 1 (by omega), zup_ne (by decide)]; exact r1, ?_, fun s h1 h2 => ?_, fun d h1 h2 => ?_⟩
      · have kk : ∀ i : Int, σ 11 i = σ 59 (2 + i) → zup σ 11 a1 a2 (1 + 10) i = if 2 + i = 2 + a1 then a2 else σ 59 (2 + i) := by
          intro i hi
          by_cases e : i = a1
          · rw [e, if_pos rfl]
            exact zup_s
          · rw [if_neg (by omega), ← hi]
            exact zup_i e
        exact ⟨kk 0 r21, kk 1 r22, kk 2 r23, kk 3 r24⟩
      · rw [k 0 (by omega)] at h2
        obtain ⟨f1, f2, f3⟩ := r3 s h1 h2
        unfold sCost
        refine ⟨by rw [k _ (by omega), zup_ne (by decide)]; exact f1, by rw [zup_ne (by decide), plc_congr (fun p u1 u2 => k _ (by omega))]; exact f2, by rw [k _ (by omega), zup_ne (by decide)]; exact f3⟩
      · rw [k 1 (by omega)] at h2
        obtain ⟨f1, f2, f3, f4, f5⟩ := r4 d h1 h2
        unfold sKind sSrc sTgt sFar sKp
        rw [k _ (by omega), k _ (by omega), k _ (by omega), k _ (by omega), k _ (by omega), zup_ne (by decide), zup_ne (by decide), zup_ne (by decide), zup_ne (by decide), zup_ne (by decide)]
        exact ⟨f1, f2, f3, f4, f5⟩
    · intro i h1 h2
      rw [zup_ne (by decide)]
      exact h.2.2.1 i h1 h2
    · unfold X6_set
      rw [mlet_eq, hm, Option.bind_some, if_neg (by decide), gd_t (by omega), mlet_eq, zup59, hg]
    · rw [zup_row, zup59, hg]
  · refine opX_bad (xo := 1) h ?_ (by decide) (fun σ' h' hg => ?_)
    · unfold X5_set
      by_cases c1 : a1 < 0
      · rw [if_pos c1]
      · rw [if_neg c1]
        by_cases c2 : a1 < 4
        · rw [if_pos c2]
          by_cases c3 : a2 < leI a1
          · rw [if_pos c3]
          · rw [if_neg c3, if_pos (by omega)]
        · rw [if_neg c2]
    · have hm : ∀ σ' : MM, X6_maySet a1 a2 σ' = some 0 := by
        intro σ'
        unfold X6_maySet
        by_cases e0 : a1 = 0
        · subst e0
          simp [leI, grI] at c
          simp [X6_in_eq]; omega
        by_cases e1 : a1 = 1
        · subst e1
          simp [leI, grI] at c
          simp [X6_in_eq]; omega
        by_cases e2 : a1 = 2
        · subst e2
          simp [leI, grI] at c
          simp [X6_in_eq]; omega
        by_cases e3 : a1 = 3
        · subst e3
          simp [leI, grI] at c
          simp [X6_in_eq]; omega
        rw [if_neg e0, if_neg e1, if_neg e2, if_neg e3]
      unfold X6_set
      rw [mlet_eq, hm, Option.bind_some, if_pos rfl, X6_fails_eq]
      rfl
