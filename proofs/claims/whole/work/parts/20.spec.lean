/-- a step of memory, by a row that isn't closed by the machine of definitions: so no fuel is ever unfolded to compare two texts -/
theorem mlet_eq {α : Type} (x : MM) (f : MM → Option α) : mlet x f = f x := Eq.trans (Eq.refl (mlet x f)) (Eq.refl (f x))
/-! WHAT THE NUMBERS MEAN: g is the reference's row; all is said of it. -/
def fdN {α : Type} (f : Int → α → α) : Nat → Int → α → α
  | 0, _, a => a
  | n + 1, i, a => fdN f n (i + 1) (f i a)
def fdI {α : Type} (f : Int → α → α) (lo hi : Int) (a : α) : α := fdN f (hi - lo).toNat lo a
theorem fdI_ge {α : Type} {f : Int → α → α} {lo hi : Int} {a : α} (h : hi ≤ lo) : fdI f lo hi a = a := by
  unfold fdI
  rw [show (hi - lo).toNat = 0 by omega]
  rfl
theorem fdI_lt {α : Type} {f : Int → α → α} {lo hi : Int} {a : α} (h : lo < hi) : fdI f lo hi a = fdI f (lo + 1) hi (f lo a) := by
  unfold fdI
  rw [show (hi - lo).toNat = (hi - (lo + 1)).toNat + 1 by omega]
  rfl
theorem fdN_inv {α : Type} {f : Int → α → α} {P : Int → α → Prop} : ∀ (n : Nat) (i : Int) (a : α), P i a → (∀ j a, i ≤ j → j < i + n → P j a → P (j + 1) (f j a)) → P (i + n) (fdN f n i a) := by
  intro n
  induction n with
  | zero => intro i a h _; simpa [fdN] using h
  | succ n ih =>
    intro i a h hs
    have := ih (i + 1) (f i a) (hs i a (by omega) (by omega) h) (fun j a h1 h2 h3 => hs j a (by omega) (by omega) h3)
    rw [show i + 1 + (n : Int) = i + ((n + 1 : Nat) : Int) by omega] at this
    exact this
/-- an invariant through a fold -/
theorem fdI_inv {α : Type} {f : Int → α → α} {P : Int → α → Prop} {lo hi : Int} {a : α} (hlh : lo ≤ hi) (h : P lo a) (hs : ∀ j a, lo ≤ j → j < hi → P j a → P (j + 1) (f j a)) : P hi (fdI f lo hi a) := by
  have := fdN_inv (f := f) (P := P) (hi - lo).toNat lo a h (fun j a h1 h2 h3 => hs j a h1 (by omega) h3)
  rw [show lo + ((hi - lo).toNat : Int) = hi by omega] at this
  exact this
theorem fdI_congr {α : Type} {f f' : Int → α → α} {lo hi : Int} {a : α} (h : ∀ j a, lo ≤ j → j < hi → f j a = f' j a) : fdI f lo hi a = fdI f' lo hi a := by
  unfold fdI
  have key : ∀ (n : Nat) (i : Int) (a : α), (∀ j a, i ≤ j → j < i + n → f j a = f' j a) → fdN f n i a = fdN f' n i a := by
    intro n
    induction n with
    | zero => intro i a _; rfl
    | succ n ih =>
      intro i a h
      show fdN f n (i + 1) (f i a) = fdN f' n (i + 1) (f' i a)
      rw [h i a (by omega) (by omega), ih (i + 1) _ (fun j a h1 h2 => h j a (by omega) (by omega))]
  exact key _ lo a (fun j a h1 h2 => h j a h1 (by omega))
theorem fdI_last {α : Type} {f : Int → α → α} {lo hi : Int} {a : α} (h : lo ≤ hi) : fdI f lo (hi + 1) a = f hi (fdI f lo hi a) := by
  have key : ∀ (n : Nat) (i : Int) (a : α), fdN f (n + 1) i a = f (i + n) (fdN f n i a) := by
    intro n
    induction n with
    | zero => intro i a; simp [fdN]
    | succ n ih =>
      intro i a
      show fdN f (n + 1) (i + 1) (f i a) = _
      rw [ih (i + 1) (f i a)]
      show f (i + 1 + n) _ = f (i + ((n + 1 : Nat) : Int)) _
      rw [show i + 1 + (n : Int) = i + ((n + 1 : Nat) : Int) by omega]
      rfl
  unfold fdI
  rw [show (hi + 1 - lo).toNat = (hi - lo).toNat + 1 by omega, key, show lo + ((hi - lo).toNat : Int) = hi by omega]
def sCost (g : Int → Int) (s : Int) : Int := g (10 + s)
def sKind (g : Int → Int) (d : Int) : Int := g (30 + 5 * d + 0)
def sSrc (g : Int → Int) (d : Int) : Int := g (30 + 5 * d + 1)
def sTgt (g : Int → Int) (d : Int) : Int := g (30 + 5 * d + 2)
def sFar (g : Int → Int) (d : Int) : Int := g (30 + 5 * d + 3)
def sKp (g : Int → Int) (d : Int) : Int := g (30 + 5 * d + 4)
def plcN (g : Int → Int) (s : Int) : Nat → Int → Int
  | 0, p => p
  | n + 1, p => if g (20 + p) = s then p else plcN g s n (p + 1)
def plc (g : Int → Int) (s : Int) : Int := plcN g s 8 0
def sDep (g : Int → Int) (d : Int) : Prop := (0 ≤ sKind g d ∧ sKind g d ≤ 2) ∧ (0 ≤ sSrc g d ∧ sSrc g d < g 0) ∧ (0 ≤ sTgt g d ∧ sTgt g d < g 0) ∧ (0 ≤ sFar g d ∧ sFar g d ≤ 5) ∧ (sKp g d = 0 ∨ sKp g d = 1)
def sInv0 (g : Int → Int) : Prop :=
  ((0 ≤ g 0 ∧ g 0 ≤ 8) ∧ (0 ≤ g 1 ∧ g 1 ≤ 16) ∧ (1 ≤ g 2 ∧ g 2 ≤ 40) ∧ (0 ≤ g 3 ∧ g 3 ≤ 5) ∧ (1 ≤ g 4 ∧ g 4 ≤ 6) ∧ (0 ≤ g 5 ∧ g 5 ≤ 2)) ∧
  (∀ s, 0 ≤ s → s < g 0 → 1 ≤ g (10 + s) ∧ g (10 + s) ≤ 9) ∧
  (∀ p, 0 ≤ p → p < g 0 → 0 ≤ g (20 + p) ∧ g (20 + p) < g 0) ∧
  (∀ p q, 0 ≤ p → p < g 0 → 0 ≤ q → q < g 0 → g (20 + p) = g (20 + q) → p = q) ∧
  (∀ s, 0 ≤ s → s < g 0 → ∃ p, 0 ≤ p ∧ p < g 0 ∧ g (20 + p) = s) ∧
  (∀ d, 0 ≤ d → d < g 1 → sDep g d)
def sInv (g : Int → Int) : Prop := sInv0 g ∧ ∀ d, 0 ≤ d → d < g 1 → sFar g d = 0 → plc g (sSrc g d) < plc g (sTgt g d)
theorem plcN_at {g : Int → Int} {s : Int} : ∀ (n : Nat) (p q : Int), p ≤ q → q < p + n → g (20 + q) = s → (∀ r, p ≤ r → r < q → g (20 + r) ≠ s) → plcN g s n p = q := by
  intro n
  induction n with
  | zero => intro p q h1 h2; omega
  | succ n ih =>
    intro p q h1 h2 h3 h4
    unfold plcN
    by_cases c : g (20 + p) = s
    · rw [if_pos c]
      by_cases e : p = q
      · exact e
      · exact absurd c (h4 p (by omega) (by omega))
    · rw [if_neg c]
      have : p ≠ q := fun e => c (e ▸ h3)
      exact ih (p + 1) q (by omega) (by omega) h3 (fun r h5 h6 => h4 r (by omega) h6)
theorem plc_of {g : Int → Int} (hI : sInv0 g) {p : Int} (h1 : 0 ≤ p) (h2 : p < g 0) : plc g (g (20 + p)) = p := by
  obtain ⟨⟨h0, -⟩, -, -, hi, -⟩ := hI
  refine plcN_at 8 0 p h1 (by omega) rfl (fun r h3 h4 e => ?_)
  have := hi r p h3 (by omega) h1 h2 e
  omega
theorem plc_spec {g : Int → Int} (hI : sInv0 g) {s : Int} (h1 : 0 ≤ s) (h2 : s < g 0) : (0 ≤ plc g s ∧ plc g s < g 0) ∧ g (20 + plc g s) = s := by
  obtain ⟨p, h3, h4, rfl⟩ := hI.2.2.2.2.1 s h1 h2
  rw [plc_of hI h3 h4]
  exact ⟨⟨h3, h4⟩, rfl⟩
theorem plc_inj {g : Int → Int} (hI : sInv0 g) {s t : Int} (h1 : 0 ≤ s) (h2 : s < g 0) (h3 : 0 ≤ t) (h4 : t < g 0) (h : plc g s = plc g t) : s = t := by
  rw [← (plc_spec hI h1 h2).2, ← (plc_spec hI h3 h4).2, h]
/-- what a Loop of the class holds -/
def sRL (σ : MM) (b : Nat) (g : Int → Int) : Prop :=
  σ b 0 = g 0 ∧ σ b 5 = g 1 ∧ (σ (b + 10) 0 = g 2 ∧ σ (b + 10) 1 = g 3 ∧ σ (b + 10) 2 = g 4 ∧ σ (b + 10) 3 = g 5) ∧
  (∀ s, 0 ≤ s → s < g 0 → σ (b + 1) s = sCost g s ∧ σ (b + 2) s = plc g s ∧ σ (b + 3) s = g (20 + s)) ∧
  (∀ d, 0 ≤ d → d < g 1 → σ (b + 5) d = sKind g d ∧ σ (b + 6) d = sSrc g d ∧ σ (b + 7) d = sTgt g d ∧ σ (b + 8) d = sFar g d ∧ σ (b + 9) d = sKp g d)
def sBare (g : Int → Int) (d : Int) : Int := if sKind g d = 0 then sCost g (sSrc g d) else if sKind g d = 1 then 1 else if sCost g (sSrc g d) - sCost g (sTgt g d) + 1 < 1 then 1 else sCost g (sSrc g d) - sCost g (sTgt g d) + 1
def sLag (g : Int → Int) (d : Int) : Int := sBare g d + g 3
def sSig (g : Int → Int) (d : Int) : Int := if sKp g d = 1 ∧ 0 < sFar g d then 1 else 0
theorem sCost_b {g : Int → Int} (hI : sInv0 g) {s : Int} (h1 : 0 ≤ s) (h2 : s < g 0) : 1 ≤ sCost g s ∧ sCost g s ≤ 9 := hI.2.1 s h1 h2
theorem sBare_b {g : Int → Int} (hI : sInv0 g) {d : Int} (h1 : 0 ≤ d) (h2 : d < g 1) : 1 ≤ sBare g d ∧ sBare g d ≤ 9 := by
  obtain ⟨-, ⟨h3, h4⟩, ⟨h5, h6⟩, -⟩ := hI.2.2.2.2.2 d h1 h2
  have h7 := sCost_b hI h3 h4
  have h8 := sCost_b hI h5 h6
  unfold sBare
  split
  · exact h7
  · split
    · omega
    · split <;> omega
theorem sLag_b {g : Int → Int} (hI : sInv0 g) {d : Int} (h1 : 0 ≤ d) (h2 : d < g 1) : 1 ≤ sLag g d ∧ sLag g d ≤ 14 := by
  have h3 := sBare_b hI h1 h2
  have h4 := hI.1.2.2.2.1
  unfold sLag
  omega
theorem sSig_b (g : Int → Int) (d : Int) : sSig g d = 0 ∨ sSig g d = 1 := by
  unfold sSig
  split
  · exact Or.inr rfl
  · exact Or.inl rfl
/-! the reference's small methods -/
theorem X6_at_eq {σ : MM} {d w : Int} (h : 0 ≤ d ∧ d < 16) (hw : 0 ≤ w ∧ w ≤ 4) : X6_at d w σ = some (30 + 5 * d + w) := by
  unfold X6_at
  rw [gd_t (by omega)]
theorem X6_source_eq {σ : MM} {d : Int} (h : 0 ≤ d ∧ d < 16) : X6_source d σ = some (sSrc (σ 59) d) := by
  unfold X6_source
  rw [X6_at_eq h (by decide), Option.bind_some, gd_t (by omega)]
  rfl
theorem X6_target_eq {σ : MM} {d : Int} (h : 0 ≤ d ∧ d < 16) : X6_target d σ = some (sTgt (σ 59) d) := by
  unfold X6_target
  rw [X6_at_eq h (by decide), Option.bind_some, gd_t (by omega)]
  rfl
theorem X6_far_eq {σ : MM} {d : Int} (h : 0 ≤ d ∧ d < 16) : X6_far d σ = some (sFar (σ 59) d) := by
  unfold X6_far
  rw [X6_at_eq h (by decide), Option.bind_some, gd_t (by omega)]
  rfl
theorem X6_isSignal_eq {σ : MM} {d : Int} (h : 0 ≤ d ∧ d < 16) : X6_isSignal d σ = some (sSig (σ 59) d) := by
  unfold X6_isSignal sSig
  rw [X6_at_eq h (by decide), Option.bind_some, gd_t (by omega), X6_far_eq h, Option.bind_some]
  by_cases c : σ 59 (30 + 5 * d + 4) = 1
  · rw [if_pos c]
    by_cases c2 : 0 < sFar (σ 59) d
    · rw [if_pos c2, if_pos ⟨c, c2⟩]
    · rw [if_neg c2, if_neg (fun q => c2 q.2)]
  · rw [if_neg c, if_neg (fun q => c q.1)]
theorem X6_cost_eq {σ : MM} {s : Int} (h : 0 ≤ s ∧ s < 8) : X6_cost s σ = some (sCost (σ 59) s) := by
  unfold X6_cost
  rw [gd_t (by omega)]
  rfl
theorem X6_placeOf_L2_eq {σ : MM} {s : Int} {k : Int → Option Int} : ∀ (n : Nat) (p q : Int), 0 ≤ p → p ≤ q → q < 8 → q < p + n → σ 59 (20 + q) = s → (∀ r, p ≤ r → r < q → σ 59 (20 + r) ≠ s) → X6_placeOf_L2 s σ k n p = k q := by
  intro n
  induction n with
  | zero => intro p q h0 h1 h2 h3; omega
  | succ n ih =>
    intro p q h0 h1 h2 h3 h4 h5
    rw [X6_placeOf_L2, gd_t (by omega)]
    by_cases c : σ 59 (20 + p) = s
    · rw [if_pos c]
      by_cases e : p = q
      · rw [e]
      · exact absurd c (h5 p (by omega) (by omega))
    · rw [if_neg c]
      have : p ≠ q := fun e => c (e ▸ h4)
      exact ih (p + 1) q (by omega) (by omega) h2 (by omega) h4 (fun r h6 h7 => h5 r (by omega) h7)
theorem X6_placeOf_eq {σ : MM} (hI : sInv0 (σ 59)) {s : Int} (h1 : 0 ≤ s) (h2 : s < σ 59 0) : X6_placeOf s σ = some (plc (σ 59) s) := by
  obtain ⟨⟨h3, h4⟩, h5⟩ := plc_spec hI h1 h2
  have h0 := hI.1.1
  unfold X6_placeOf
  rw [X6_placeOf_L2_eq 100000 0 (plc (σ 59) s) (by omega) h3 (by omega) (by omega) h5 (fun r h6 h7 e => ?_)]
  have := hI.2.2.2.1 r (plc (σ 59) s) h6 (by omega) h3 h4 (by rw [e, h5])
  omega
theorem X6_bare_eq {σ : MM} (hI : sInv0 (σ 59)) {d : Int} (h1 : 0 ≤ d) (h2 : d < σ 59 1) : X6_bare d σ = some (sBare (σ 59) d) := by
  have hd : 0 ≤ d ∧ d < 16 := by have := hI.1.2.1; omega
  have h0 := hI.1.1
  obtain ⟨h3, h4, h5, -⟩ := hI.2.2.2.2.2 d h1 h2
  have h7 := sCost_b hI h4.1 h4.2
  have h8 := sCost_b hI h5.1 h5.2
  unfold X6_bare sBare
  simp only [X6_source_eq hd, X6_target_eq hd, X6_at_eq hd (w := 0) (by decide), Option.bind_some, X6_cost_eq (s := sSrc (σ 59) d) (by omega), X6_cost_eq (s := sTgt (σ 59) d) (by omega)]
  rw [gd_t (by omega)]
  by_cases c : sKind (σ 59) d = 0
  · rw [if_pos c, if_pos (show σ 59 (30 + 5 * d + 0) = 0 from c)]
  · rw [if_neg c, if_neg (show ¬ σ 59 (30 + 5 * d + 0) = 0 from c)]
    by_cases c1 : sKind (σ 59) d = 1
    · rw [if_pos c1, if_pos (show σ 59 (30 + 5 * d + 0) = 1 from c1), gd_t (by omega)]
    · rw [if_neg c1, if_neg (show ¬ σ 59 (30 + 5 * d + 0) = 1 from c1), gd_t (by omega)]
      by_cases c2 : sCost (σ 59) (sSrc (σ 59) d) - sCost (σ 59) (sTgt (σ 59) d) + 1 < 1
      · rw [if_pos c2, if_pos c2, gd_t (by omega)]
      · rw [if_neg c2, if_neg c2, gd_t (by omega)]
theorem X6_lag_eq {σ : MM} (hI : sInv0 (σ 59)) {d : Int} (h1 : 0 ≤ d) (h2 : d < σ 59 1) : X6_lag d σ = some (sLag (σ 59) d) := by
  have h3 := sBare_b hI h1 h2
  have h4 := hI.1.2.2.2.1
  unfold X6_lag
  rw [X6_bare_eq hI h1 h2, Option.bind_some, gd_t (by omega)]
  rfl
/-! the class's small methods -/
theorem X0_hasStatement_eq {σ : MM} {b : Nat} {s : Int} : X0_hasStatement b s σ = some (if 0 ≤ s ∧ s < σ b 0 then 1 else 0) := by
  unfold X0_hasStatement
  by_cases c : s < 0
  · rw [if_pos c, if_neg (by omega)]
  · by_cases c2 : s < σ b 0
    · rw [if_neg c, if_pos c2, if_pos (by omega)]
    · rw [if_neg c, if_neg c2, if_neg (by omega)]
theorem X0_hasPosition_eq {σ : MM} {b : Nat} {s : Int} : X0_hasPosition b s σ = some (if 0 ≤ s ∧ s < σ b 0 then 1 else 0) := X0_hasStatement_eq
theorem X0_hasDependence_eq {σ : MM} {b : Nat} {s : Int} : X0_hasDependence b s σ = some (if 0 ≤ s ∧ s < σ b 5 then 1 else 0) := by
  unfold X0_hasDependence
  by_cases c : s < 0
  · rw [if_pos c, if_neg (by omega)]
  · by_cases c2 : s < σ b 5
    · rw [if_neg c, if_pos c2, if_pos (by omega)]
    · rw [if_neg c, if_neg c2, if_neg (by omega)]
theorem X0_hasIteration_eq {σ : MM} {b : Nat} {s : Int} : X0_hasIteration b s σ = some (if 0 ≤ s ∧ s < σ (b + 10) 0 then 1 else 0) := by
  unfold X0_hasIteration
  by_cases c : s < 0
  · rw [if_pos c, if_neg (by omega)]
  · by_cases c2 : s < σ (b + 10) 0
    · rw [if_neg c, if_pos c2, if_pos (by omega)]
    · rw [if_neg c, if_neg c2, if_neg (by omega)]
theorem X0_costOf_at {σ : MM} {b : Nat} {s : Int} (h : 0 ≤ s ∧ s < 8) : X0_costOf b s σ = some (σ (b + 1) s) := by
  unfold X0_costOf
  rw [if_neg (by omega), if_pos h.2]
theorem X0_positionOf_at {σ : MM} {b : Nat} {s : Int} (h : 0 ≤ s ∧ s < 8) : X0_positionOf b s σ = some (σ (b + 2) s) := by
  unfold X0_positionOf
  rw [if_neg (by omega), if_pos h.2]
theorem X0_statementAt_at {σ : MM} {b : Nat} {s : Int} (h : 0 ≤ s ∧ s < 8) : X0_statementAt b s σ = some (σ (b + 3) s) := by
  unfold X0_statementAt
  rw [if_neg (by omega), if_pos h.2]
theorem X0_offsetOf_at {σ : MM} {b : Nat} {s : Int} (h : 0 ≤ s ∧ s < 8) : X0_offsetOf b s σ = some (σ (b + 4) s) := by
  unfold X0_offsetOf
  rw [if_neg (by omega), if_pos h.2]
theorem X0_isSignalled_eq {σ : MM} {b : Nat} {g : Int → Int} (hI : sInv0 g) (hR : sRL σ b g) {d : Int} (h1 : 0 ≤ d) (h2 : d < g 1) : X0_isSignalled b d σ = some (sSig g d) := by
  have hd := hI.1.2.1
  obtain ⟨-, e1, -, -, h3⟩ := hR
  obtain ⟨-, -, -, e8, e9⟩ := h3 d h1 h2
  obtain ⟨-, -, -, -, h5⟩ := hI.2.2.2.2.2 d h1 h2
  unfold X0_isSignalled sSig
  rw [X0_hasDependence_eq, if_pos (by omega), Option.bind_some, if_neg (by decide), gd_t (by omega), e8, e9]
  by_cases c : sKp g d = 0
  · rw [if_pos c, if_neg (by omega)]
  · rw [if_neg c]
    by_cases c2 : 0 < sFar g d
    · rw [if_pos c2, if_pos (by omega)]
    · rw [if_neg c2, if_neg (by omega)]
theorem X0_lagOf_eq {σ : MM} {b : Nat} {g : Int → Int} (hI : sInv0 g) (hR : sRL σ b g) {d : Int} (h1 : 0 ≤ d) (h2 : d < g 1) : X0_lagOf b d σ = some (sLag g d) := by
  have hd := hI.1.2.1
  have h0 := hI.1.1
  have hlat := hI.1.2.2.2.1
  obtain ⟨-, e1, ⟨-, e3, -⟩, h4, h3⟩ := hR
  obtain ⟨e5, e6, e7, -, -⟩ := h3 d h1 h2
  obtain ⟨h5, h6, h7, -⟩ := hI.2.2.2.2.2 d h1 h2
  have h8 := sCost_b hI h6.1 h6.2
  have h9 := sCost_b hI h7.1 h7.2
  unfold X0_lagOf sLag sBare
  rw [X0_hasDependence_eq, if_pos (by omega), Option.bind_some, if_neg (by decide), gd_t (by omega), e3, e5, e6, e7, X0_costOf_at (by omega), X0_costOf_at (by omega), (h4 _ h6.1 h6.2).1, (h4 _ h7.1 h7.2).1, Option.bind_some, Option.bind_some]
  by_cases c : sKind g d = 0
  · rw [if_pos c, if_pos c, gd_t (by omega)]
  · rw [if_neg c, if_neg c]
    by_cases c2 : sKind g d = 2
    · rw [if_pos c2, if_neg (by omega), Option.bind_some, gd_t (by omega), gd_t (by omega)]
      congr 1
      split <;> omega
    · rw [if_neg c2, if_pos (by omega), gd_t (by omega)]
