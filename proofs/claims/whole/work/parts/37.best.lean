/-! the best number of processors: a run doesn't look at place 4 -/
theorem sBare_cong {g g' : Int → Int} (hI : sInv0 g) (h : ∀ i, 0 ≤ i → i < 110 → i ≠ 4 → g' i = g i) {d : Int} (h1 : 0 ≤ d) (h2 : d < g 1) : (sKind g' d = sKind g d ∧ sSrc g' d = sSrc g d ∧ sTgt g' d = sTgt g d ∧ sFar g' d = sFar g d ∧ sKp g' d = sKp g d) ∧ sBare g' d = sBare g d ∧ sLag g' d = sLag g d ∧ sSig g' d = sSig g d := by
  have hn := hI.1.1
  have hm := hI.1.2.1
  obtain ⟨-, f1, f2, -⟩ := hI.2.2.2.2.2 d h1 h2
  have e0 : sKind g' d = sKind g d := h _ (by omega) (by omega) (by omega)
  have e1 : sSrc g' d = sSrc g d := h _ (by omega) (by omega) (by omega)
  have e2 : sTgt g' d = sTgt g d := h _ (by omega) (by omega) (by omega)
  have e3 : sFar g' d = sFar g d := h _ (by omega) (by omega) (by omega)
  have e4 : sKp g' d = sKp g d := h _ (by omega) (by omega) (by omega)
  have e5 : sCost g' (sSrc g d) = sCost g (sSrc g d) := h _ (by omega) (by omega) (by omega)
  have e6 : sCost g' (sTgt g d) = sCost g (sTgt g d) := h _ (by omega) (by omega) (by omega)
  have e7 : sBare g' d = sBare g d := by
    unfold sBare
    rw [e0, e1, e2, e5, e6]
  refine ⟨⟨e0, e1, e2, e3, e4⟩, e7, ?_, ?_⟩
  · unfold sLag
    rw [e7, h 3 (by omega) (by omega) (by omega)]
  · unfold sSig
    rw [e3, e4]
theorem sRun_cong {g g' : Int → Int} (hI : sInv0 g) (h : ∀ i, 0 ≤ i → i < 110 → i ≠ 4 → g' i = g i) (P : Int) : sRun g' P = sRun g P := by
  have hn := hI.1.1
  have hm := hI.1.2.1
  have hb : ∀ s i a (ρ : Int → Int → Int), sBeg g' ρ s i a = sBeg g ρ s i a := by
    intro s i a ρ
    unfold sBeg
    rw [h 1 (by omega) (by omega) (by omega)]
    refine fdI_congr (fun d a h1 h2 => ?_)
    obtain ⟨⟨-, e1, e2, e3, -⟩, -, e5, e6⟩ := sBare_cong hI h h1 h2
    unfold sBegF sFrom
    rw [e1, e2, e3, e5, e6]
  unfold sRun
  rw [h 2 (by omega) (by omega) (by omega)]
  refine fdI_congr (fun i ρ h1 h2 => ?_)
  have hp : sProc g' P i ρ = sProc g P i ρ := by
    unfold sProc
    rw [h 5 (by omega) (by omega) (by omega), h 2 (by omega) (by omega) (by omega)]
  have hs : ∀ p ρ', sStmts g' i p ρ' = sStmts g i p ρ' := by
    intro p ρ'
    unfold sStmts
    rw [h 0 (by omega) (by omega) (by omega)]
    refine fdI_congr (fun t ρ' h3 h4 => ?_)
    have ht := hI.2.2.1 t h3 h4
    unfold sStmt
    rw [h (20 + t) (by omega) (by omega) (by omega), hb, show sCost g' (g (20 + t)) = sCost g (g (20 + t)) from h _ (by omega) (by omega) (by omega)]
  unfold sIter
  rw [hp, hs]
def sBest (g : Int → Int) : Int → Int × Int → Int × Int := fun p a => if p = 1 then (p, sLen (sRun g p)) else if sLen (sRun g p) < a.2 then (p, sLen (sRun g p)) else a
theorem X5_bestProcessors_L6_eq {g : Int → Int} {k : Int → MM → Option (Int × MM)} (hI : sInv0 g) : ∀ (n : Nat) (x1 x2 x3 : Int) (σ : MM), sRL σ 1 g → 1 ≤ x3 → x3 ≤ 7 → 7 - x3 < n →
    ∃ σ' : MM, X5_bestProcessors_L6 k n x1 x2 x3 σ = k (fdI (sBest g) x3 7 (x1, x2)).1 σ' ∧ frC σ σ' := by
  intro n
  induction n with
  | zero => intro x1 x2 x3 σ h0 h1 h2 h3; omega
  | succ n ih =>
    intro x1 x2 x3 σ h0 h1 h2 h3
    rw [X5_bestProcessors_L6]
    by_cases c : x3 < 7
    · obtain ⟨σ1, q1, q2, q3, -⟩ := X3_simulate_eq (b := 1) (P := x3) hI (by decide) h0 (by omega)
      rw [if_neg (by omega), q1, Option.bind_some, q3.2.1, fdI_lt c]
      have hR := q2.rl (by decide) h0
      unfold sBest
      by_cases c1 : x3 = 1
      · rw [if_pos c1, if_pos c1]
        obtain ⟨σ2, u1, u2⟩ := ih x3 (sLen (sRun g x3)) (x3 + 1) σ1 hR (by omega) (by omega) (by omega)
        exact ⟨σ2, u1, q2.tr u2⟩
      · rw [if_neg c1, if_neg c1]
        by_cases c2 : sLen (sRun g x3) < x2
        · rw [if_pos c2, if_pos c2]
          obtain ⟨σ2, u1, u2⟩ := ih x3 (sLen (sRun g x3)) (x3 + 1) σ1 hR (by omega) (by omega) (by omega)
          exact ⟨σ2, u1, q2.tr u2⟩
        · rw [if_neg c2, if_neg c2]
          obtain ⟨σ2, u1, u2⟩ := ih x1 x2 (x3 + 1) σ1 hR (by omega) (by omega) (by omega)
          exact ⟨σ2, u1, q2.tr u2⟩
    · rw [if_pos (by omega), fdI_ge (by omega)]
      exact ⟨σ, rfl, frC.rf⟩
theorem sInv0_p {g : Int → Int} (hI : sInv0 g) {p : Int} (hp : 1 ≤ p ∧ p ≤ 6) : sInv0 (gup g 4 p) := by
  have k : ∀ i : Int, i ≠ 4 → gup g 4 p i = g i := fun i hi => gup_n hi
  obtain ⟨⟨i0, i1, i2, i3, i4, i5⟩, j1, j2, j3, j4, j5⟩ := hI
  refine ⟨⟨by rw [k 0 (by omega)]; exact i0, by rw [k 1 (by omega)]; exact i1, by rw [k 2 (by omega)]; exact i2, by rw [k 3 (by omega)]; exact i3, by rw [gup_s]; exact hp, by rw [k 5 (by omega)]; exact i5⟩, fun s h1 h2 => by rw [k _ (by omega)]; exact j1 s h1 (by rw [k 0 (by omega)] at h2; exact h2), fun q h1 h2 => by rw [k _ (by omega), k 0 (by omega)]; exact j2 q h1 (by rw [k 0 (by omega)] at h2; exact h2), fun q r h1 h2 h3 h4 h5 => by rw [k 0 (by omega)] at h2 h4; rw [k _ (by omega), k _ (by omega)] at h5; exact j3 q r h1 h2 h3 h4 h5, fun s h1 h2 => ?_, fun d h1 h2 => ?_⟩
  · rw [k 0 (by omega)] at h2
    obtain ⟨q, h3, h4, h5⟩ := j4 s h1 h2
    exact ⟨q, h3, by rw [k 0 (by omega)]; exact h4, by rw [k _ (by omega)]; exact h5⟩
  · rw [k 1 (by omega)] at h2
    have := j5 d h1 h2
    unfold sDep sKind sSrc sTgt sFar sKp at this ⊢
    rw [k 0 (by omega), k _ (by omega), k _ (by omega), k _ (by omega), k _ (by omega), k _ (by omega)]
    exact this
theorem X6_bestProcessors_L19_eq {g : Int → Int} {y : Int} {k : Int → MM → Option (Int × MM)} (hI : sInv0 g) : ∀ (n : Nat) (x2 x3 x4 : Int) (σ : MM), (∀ i, i ≠ 4 → σ 59 i = g i) → 1 ≤ x4 → x4 ≤ 7 → 7 - x4 < n → (x4 = 1 ↔ x2 = 0) →
    ∃ σ' : MM, X6_bestProcessors_L19 y k n x2 x3 x4 σ = k (fdI (sBest g) x4 7 (x2, x3)).1 σ' ∧ (∀ j : Nat, j ≠ 59 → j < 65 ∨ 71 < j → σ' j = σ j) ∧ ∀ i, i ≠ 4 → σ' 59 i = g i := by
  intro n
  induction n with
  | zero => intro x2 x3 x4 σ h0 h1 h2 h3; omega
  | succ n ih =>
    intro x2 x3 x4 σ h0 h1 h2 h3 hx
    rw [X6_bestProcessors_L19]
    by_cases c : x4 < 7
    · have eg : zup σ 59 4 x4 59 = gup g 4 x4 := by
        rw [zup_row]
        funext i
        unfold gup
        by_cases e : i = 4
        · rw [if_pos e, if_pos e]
        · rw [if_neg e, if_neg e, h0 i e]
      obtain ⟨σ1, q1, q2, -, -⟩ := X6_runs_eq eg (sInv0_p hI (p := x4) (by omega))
      have el : sLen (sRun (gup g 4 x4) (gup g 4 x4 4)) = sLen (sRun g x4) := by rw [gup_s, sRun_cong hI (fun i _ _ hi => gup_n hi)]
      have o1 : ∀ j : Nat, j ≠ 59 → j < 65 ∨ 71 < j → σ1 j = σ j := fun j a b => by rw [q2 j b, zup_ne a]
      have g1 : ∀ i, i ≠ 4 → σ1 59 i = g i := fun i hi => by rw [q2.g, eg, gup_n hi]
      rw [if_pos c, mlet_eq, q1, Option.bind_some, el, fdI_lt c]
      unfold sBest
      show ∃ σ' : MM, (if x2 = 0 then X6_bestProcessors_L19 y k n x4 (sLen (sRun g x4)) (x4 + 1) σ1 else if sLen (sRun g x4) < x3 then X6_bestProcessors_L19 y k n x4 (sLen (sRun g x4)) (x4 + 1) σ1 else X6_bestProcessors_L19 y k n x2 x3 (x4 + 1) σ1) = _ ∧ _
      by_cases c1 : x4 = 1
      · rw [if_pos (hx.mp c1), if_pos c1]
        obtain ⟨σ2, u1, u2, u3⟩ := ih x4 (sLen (sRun g x4)) (x4 + 1) σ1 g1 (by omega) (by omega) (by omega) (by omega)
        exact ⟨σ2, u1, fun j a b => (u2 j a b).trans (o1 j a b), u3⟩
      · rw [if_neg (fun q => c1 (hx.mpr q)), if_neg c1]
        by_cases c2 : sLen (sRun g x4) < x3
        · rw [if_pos c2, if_pos c2]
          obtain ⟨σ2, u1, u2, u3⟩ := ih x4 (sLen (sRun g x4)) (x4 + 1) σ1 g1 (by omega) (by omega) (by omega) (by omega)
          exact ⟨σ2, u1, fun j a b => (u2 j a b).trans (o1 j a b), u3⟩
        · rw [if_neg c2, if_neg c2]
          obtain ⟨σ2, u1, u2, u3⟩ := ih x2 x3 (x4 + 1) σ1 g1 (by omega) (by omega) (by omega) (by omega)
          exact ⟨σ2, u1, fun j a b => (u2 j a b).trans (o1 j a b), u3⟩
    · rw [if_neg c, fdI_ge (by omega)]
      exact ⟨σ, rfl, fun _ _ _ => rfl, h0⟩
theorem sBest_first {g : Int → Int} {a b : Int × Int} : fdI (sBest g) 1 7 a = fdI (sBest g) 1 7 b := by
  rw [fdI_lt (by decide), fdI_lt (a := b) (by decide)]
  rfl
theorem op_bestProcessors {σ : MM} (h : ST σ) : OpN (X5_bestProcessors σ) X6_bestProcessors := by
  have hI := h.1.1
  obtain ⟨σ1, q1, q2⟩ := X5_bestProcessors_L6_eq (k := fun z10 σ11 => some (z10, σ11)) hI 100000 1 0 1 σ h.2.1 (by omega) (by omega) (by omega)
  refine opN_ro (r := (fdI (sBest (σ 59)) 1 7 (0, 0)).1) h ⟨σ1, ?_, SE.frC q2⟩ (fun σ' h' hg => ?_)
  · unfold X5_bestProcessors
    rw [q1, sBest_first (b := (0, 0))]
  · obtain ⟨σ2, u1, u2, u3⟩ := X6_bestProcessors_L19_eq (y := (zup σ' 58 3 0) 59 4) (k := fun z13 σ14 => mlet (zup σ14 59 4 ((zup σ' 58 3 0) 59 4)) fun σ15 => some (z13, σ15)) hI 100000 0 0 1 (zup σ' 58 3 0) (fun i _ => by rw [zup59, hg]) (by omega) (by omega) (by omega) (by omega)
    have e59 : zup σ2 59 4 ((zup σ' 58 3 0) 59 4) 59 = σ' 59 := by
      rw [zup_row]
      funext i
      unfold gup
      by_cases e : i = 4
      · rw [if_pos e, e, zup59]
      · rw [if_neg e, u3 i e, hg]
    refine ⟨zup σ2 59 4 ((zup σ' 58 3 0) 59 4), ?_, (SE.thr (v := 0)).tr ⟨fun j hj => ?_, ?_, ?_, ?_, ?_, by rw [zup_ne (by decide), u2 72 (by decide) (by decide)]⟩⟩
    · unfold X6_bestProcessors
      rw [mlet_eq]
      refine Eq.trans u1 ?_
      rw [mlet_eq]
    · by_cases e : j = 59
      · rw [e, e59, zup59]
      · rw [zup_ne e, u2 j e (by omega)]
    · rw [zup_ne (by decide), u2 34 (by decide) (by decide)]
    · rw [zup_ne (by decide), u2 58 (by decide) (by decide)]
    · rw [zup_ne (by decide), u2 58 (by decide) (by decide)]
    · rw [zup_ne (by decide), u2 58 (by decide) (by decide)]
