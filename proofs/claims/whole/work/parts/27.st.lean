/-! THE TWO SIDES TOGETHER -/
def sKB (σ : MM) (b : Nat) : Prop := ∀ i, 0 ≤ i → i < 16 → σ (b + 9) i = 0 ∨ σ (b + 9) i = 1
/-- class and reference hold the same -/
def ST (σ : MM) : Prop :=
  sInv (σ 59) ∧ sRL σ 1 (σ 59) ∧ sKB σ 1 ∧ sKB σ 12 ∧
  (0 ≤ σ 58 5 ∧ σ 58 5 ≤ 60 ∧ σ 34 1 = σ 58 5) ∧ (∀ i, 0 ≤ i → i < σ 58 5 → σ 35 i = σ 61 i ∧ 33 ≤ σ 61 i ∧ σ 61 i ≤ 126) ∧
  σ 0 8 = σ 58 7 ∧ (σ 0 7 = σ 58 2 ∧ (σ 58 2 = 0 ∨ σ 58 2 = 1)) ∧ (σ 58 2 = 1 → sInv (σ 60) ∧ sRL σ 12 (σ 60))
/-- what of the memory is the state: the rest may change -/
def SE (σ σ' : MM) : Prop := (∀ j : Nat, (j < 23 ∧ j ≠ 5 ∧ j ≠ 16) ∨ j = 35 ∨ j = 59 ∨ j = 60 ∨ j = 61 → σ' j = σ j) ∧ σ' 34 1 = σ 34 1 ∧ σ' 58 2 = σ 58 2 ∧ σ' 58 5 = σ 58 5 ∧ σ' 58 7 = σ 58 7 ∧ σ' 72 = σ 72
theorem SE.rf {σ : MM} : SE σ σ := ⟨fun _ _ => rfl, rfl, rfl, rfl, rfl, rfl⟩
theorem SE.tr {σ σ' σ'' : MM} (h : SE σ σ') (h' : SE σ' σ'') : SE σ σ'' := ⟨fun j hj => (h'.1 j hj).trans (h.1 j hj), h'.2.1.trans h.2.1, h'.2.2.1.trans h.2.2.1, h'.2.2.2.1.trans h.2.2.2.1, h'.2.2.2.2.1.trans h.2.2.2.2.1, h'.2.2.2.2.2.trans h.2.2.2.2.2⟩
theorem SE.g {σ σ' : MM} (h : SE σ σ') : σ' 59 = σ 59 := h.1 59 (by decide)
theorem SE.thr {σ : MM} {v : Int} : SE σ (zup σ 58 3 v) := ⟨fun j hj => zup_ne (by omega), zup_k (by decide), zup_i (by decide), zup_i (by decide), zup_i (by decide), zup_ne (by decide)⟩
theorem SE.frC {σ σ' : MM} (h : frC σ σ') : SE σ σ' := ⟨fun j hj => h j (by omega), by rw [h 34 (by decide)], by rw [h 58 (by decide)], by rw [h 58 (by decide)], by rw [h 58 (by decide)], h 72 (by omega)⟩
theorem SE.frR {σ σ' : MM} (h : frR σ σ') : SE σ σ' := ⟨fun j hj => h j (by omega), by rw [h 34 (by decide)], by rw [h 58 (by decide)], by rw [h 58 (by decide)], by rw [h 58 (by decide)], h 72 (by omega)⟩
theorem SE.off {σ σ' : MM} {b : Nat} (hb : b = 1 ∨ b = 12 ∨ b = 23 ∨ b = 39) (h : ∀ j : Nat, j ≠ b + 4 → σ' j = σ j) : SE σ σ' := ⟨fun j hj => h j (by omega), by rw [h 34 (by omega)], by rw [h 58 (by omega)], by rw [h 58 (by omega)], by rw [h 58 (by omega)], h 72 (by omega)⟩
theorem ST.se0 {σ σ' : MM} (h : ST σ) (e0 : ∀ j : Nat, (j < 23 ∧ j ≠ 5 ∧ j ≠ 16) ∨ j = 35 ∨ j = 59 ∨ j = 60 ∨ j = 61 → σ' j = σ j) (e1 : σ' 34 1 = σ 34 1) (e2 : σ' 58 2 = σ 58 2) (e3 : σ' 58 5 = σ 58 5) (e4 : σ' 58 7 = σ 58 7) : ST σ' := by
  have f : ∀ b : Nat, (b = 1 ∨ b = 12) → ∀ j : Nat, j < 11 → j ≠ 4 → σ' (b + j) = σ (b + j) := fun b hb j hj hj4 => e0 _ (by omega)
  obtain ⟨h1, h2, h3, h4, h5, h6, h7, h8, h9⟩ := h
  refine ⟨by rw [e0 59 (by decide)]; exact h1, by rw [e0 59 (by decide)]; exact sRL_congr h2 (f 1 (by decide)), fun i a b => by rw [f 1 (by decide) 9 (by decide) (by decide)]; exact h3 i a b, fun i a b => by rw [f 12 (by decide) 9 (by decide) (by decide)]; exact h4 i a b, by rw [e1, e3]; exact h5, by rw [e0 35 (by decide), e0 61 (by decide), e3]; exact h6, by rw [e0 0 (by decide), e4]; exact h7, by rw [e0 0 (by decide), e2]; exact h8, fun q => ?_⟩
  rw [e2] at q
  rw [e0 60 (by decide)]
  exact ⟨(h9 q).1, sRL_congr (h9 q).2 (f 12 (by decide))⟩
theorem ST.se {σ σ' : MM} (h : ST σ) (e : SE σ σ') : ST σ' := h.se0 e.1 e.2.1 e.2.2.1 e.2.2.2.1 e.2.2.2.2.1
theorem ST.out {σ σ' : MM} (h : ST σ) (hj : ∀ j : Nat, j ≠ 72 → σ' j = σ j) : ST σ' := h.se0 (fun j a => hj j (by omega)) (by rw [hj 34 (by decide)]) (by rw [hj 58 (by decide)]) (by rw [hj 58 (by decide)]) (by rw [hj 58 (by decide)])
/-- a call that may throw: class first, then the reference; kc: the law's number of the exception -/
def OpX (cls : Option (Int × Int × MM)) (ref : MM → Option (Int × MM)) (kc : Int → Int) : Prop :=
  ∃ (xo r : Int) (σ1 : MM), cls = some (xo, r, σ1) ∧ (xo = 0 ∨ 1 ≤ kc xo) ∧ ∀ σ' : MM, (∀ j : Nat, j ≠ 72 → σ' j = σ1 j) → ∃ (r2 : Int) (σ2 : MM), ref σ' = some (r2, σ2) ∧ σ2 58 3 = kc xo ∧ (xo = 0 → r2 = r) ∧ ST σ2 ∧ σ2 72 = σ' 72
def OpN (cls : Option (Int × MM)) (ref : MM → Option (Int × MM)) : Prop :=
  ∃ (r : Int) (σ1 σ2 : MM), cls = some (r, σ1) ∧ ref σ1 = some (r, σ2) ∧ ST σ2
theorem opX_ro {σ : MM} {cls : Option (Int × Int × MM)} {ref : MM → Option (Int × MM)} {kc : Int → Int} {xo r : Int} (h : ST σ) (hc : ∃ σ1 : MM, cls = some (xo, r, σ1) ∧ SE σ σ1) (hr : ∀ σ' : MM, ST σ' → σ' 59 = σ 59 → σ' 58 5 = σ 58 5 → ∃ (r2 : Int) (σ2 : MM), ref σ' = some (r2, σ2) ∧ SE σ' σ2 ∧ σ2 58 3 = kc xo ∧ (xo = 0 → r2 = r)) (hx : xo = 0 ∨ 1 ≤ kc xo := by decide) : OpX cls ref kc := by
  obtain ⟨σ1, c1, c2⟩ := hc
  refine ⟨xo, r, σ1, c1, hx, fun σ' hj => ?_⟩
  have s1 := h.se c2
  obtain ⟨r2, σ2, q1, q2, q3, q4⟩ := hr σ' (s1.out hj) (by rw [hj 59 (by decide), c2.g]) (by rw [hj 58 (by decide), c2.2.2.2.1])
  exact ⟨r2, σ2, q1, q3, q4, (s1.out hj).se q2, q2.2.2.2.2.2⟩
theorem opN_ro {σ : MM} {cls : Option (Int × MM)} {ref : MM → Option (Int × MM)} {r : Int} (h : ST σ) (hc : ∃ σ1 : MM, cls = some (r, σ1) ∧ SE σ σ1) (hr : ∀ σ' : MM, ST σ' → σ' 59 = σ 59 → ∃ σ2 : MM, ref σ' = some (r, σ2) ∧ SE σ' σ2) : OpN cls ref := by
  obtain ⟨σ1, c1, c2⟩ := hc
  obtain ⟨σ2, q1, q2⟩ := hr σ1 (h.se c2) c2.g
  exact ⟨r, σ1, σ2, c1, q1, (h.se c2).se q2⟩
def kA (x : Int) : Int := if x = 1 then 1 else 0
def kA2 (x : Int) : Int := if x = 1 then 1 else if x = 2 then 2 else 0
def kB2 (x : Int) : Int := if x = 3 then 1 else if x = 1 then 2 else 0
def kF (x : Int) : Int := if x = 3 then 1 else 0
def kB (x : Int) : Int := if x = 3 then 1 else if x = 1 then 2 else if x = 2 then 3 else 0
def kC (x : Int) : Int := if x = 3 then 1 else if x = 2 then 2 else 0
def kD (x : Int) : Int := if x = 4 then 1 else 0
def kE (x : Int) : Int := if x = 2 then 1 else 0
theorem X6_fails_eq {σ : MM} {c : Int} : X6_fails c σ = some (0, zup σ 58 3 c) := by
  unfold X6_fails
  rw [mlet_eq]
theorem X6_in_eq {σ : MM} {v lo hi : Int} : X6_in v lo hi σ = some (if lo ≤ v ∧ v ≤ hi then 1 else 0) := by
  unfold X6_in
  by_cases c : v < lo
  · rw [if_pos c, if_neg (by omega)]
  · by_cases c2 : hi < v
    · rw [if_neg c, if_pos c2, if_neg (by omega)]
    · rw [if_neg c, if_neg c2, if_pos (by omega)]
theorem X6_isStatement_eq {σ : MM} (h : 0 ≤ σ 59 0 ∧ σ 59 0 ≤ 8) {s : Int} : X6_isStatement s σ = some (if 0 ≤ s ∧ s < σ 59 0 then 1 else 0) := by
  unfold X6_isStatement
  rw [gd_t (by omega), X6_in_eq, Option.bind_some]
  by_cases c : 0 ≤ s ∧ s < σ 59 0
  · rw [if_pos c, if_pos (by omega)]
  · rw [if_neg c, if_neg (by omega)]
theorem X6_isDependence_eq {σ : MM} (h : 0 ≤ σ 59 1 ∧ σ 59 1 ≤ 16) {s : Int} : X6_isDependence s σ = some (if 0 ≤ s ∧ s < σ 59 1 then 1 else 0) := by
  unfold X6_isDependence
  rw [gd_t (by omega), X6_in_eq, Option.bind_some]
  by_cases c : 0 ≤ s ∧ s < σ 59 1
  · rw [if_pos c, if_pos (by omega)]
  · rw [if_neg c, if_neg (by omega)]
theorem X6_isTurn_eq {σ : MM} (h : 1 ≤ σ 59 2 ∧ σ 59 2 ≤ 40) {s : Int} : X6_isTurn s σ = some (if 0 ≤ s ∧ s < σ 59 2 then 1 else 0) := by
  unfold X6_isTurn
  rw [gd_t (by omega), X6_in_eq, Option.bind_some]
  by_cases c : 0 ≤ s ∧ s < σ 59 2
  · rw [if_pos c, if_pos (by omega)]
  · rw [if_neg c, if_neg (by omega)]
theorem zup59 {σ : MM} {v : Int} : zup σ 58 3 v 59 = σ 59 := zup_ne (by decide)
/-! errorPosition, delay, critical, statement, dependence -/
theorem op_errorPosition {σ : MM} (h : ST σ) : OpN ((X5_errorPosition σ).map (fun r => (r, σ))) X6_errorPosition := by
  refine ⟨σ 0 8, σ, zup σ 58 3 0, rfl, ?_, h.se SE.thr⟩
  unfold X6_errorPosition
  rw [mlet_eq, zup_i (by decide), h.2.2.2.2.2.2.1]
theorem op_delay {σ : MM} (h : ST σ) : OpN (X5_delay σ) X6_delay := by
  obtain ⟨σ1, q1, q2⟩ := X0_delayWithout_eq h.1.1 h.2.1 (-1)
  refine opN_ro (r := sDel (σ 59) (-1)) h ⟨σ1, by unfold X5_delay; rw [q1]; rfl, SE.off (b := 1) (by decide) q2⟩ (fun σ' h' hg => ⟨_, ?_, SE.thr (v := 0)⟩)
  unfold X6_delay
  rw [mlet_eq, X6_delayBut_eq (by rw [zup59]; exact h'.1.1), zup59, hg]
  rfl
