/-! execute, the reference's side -/
def tR (w : Int → Int) (L p : Int) (σ : MM) : Prop := σ 58 5 = L ∧ σ 58 6 = p ∧ σ 61 = w ∧ (∀ i, 0 ≤ i → i < L → 33 ≤ w i ∧ w i ≤ 126) ∧ (0 ≤ L ∧ L ≤ 60) ∧ (0 ≤ p ∧ p ≤ 70)
def hr (w : Int → Int) (L p : Int) : Int := if p < L then w p else -1
theorem hr_eq {w : Int → Int} {L p c : Int} (hc : 0 < c) : hr w L p = c ↔ ch w L p = c := by
  unfold hr ch
  split
  · exact Iff.rfl
  · omega
theorem hr_in {w : Int → Int} {L p a b : Int} (ha : 0 < a) : (a ≤ hr w L p ∧ hr w L p ≤ b) ↔ (a ≤ ch w L p ∧ ch w L p ≤ b) := by
  unfold hr ch
  split
  · exact Iff.rfl
  · omega
theorem tR.here {w : Int → Int} {L p : Int} {σ : MM} (h : tR w L p σ) : X6_here σ = some (hr w L p) := by
  obtain ⟨h1, h2, h3, h4, h5, h6⟩ := h
  unfold X6_here hr
  rw [h1, h2, h3]
  by_cases c : p < L
  · rw [if_pos c, if_pos c, gd_t (by omega)]
  · rw [if_neg c, if_neg c]
theorem tR.up {w : Int → Int} {L p q : Int} {σ : MM} (h : tR w L p σ) (hq : 0 ≤ q ∧ q ≤ 70) : tR w L q (zup σ 58 6 q) := ⟨by rw [zup_i (by decide)]; exact h.1, zup_s, by rw [zup_ne (by decide)]; exact h.2.2.1, h.2.2.2.1, h.2.2.2.2.1, hq⟩
theorem tR.up8 {w : Int → Int} {L p v : Int} {σ : MM} (h : tR w L p σ) : tR w L p (zup σ 58 8 v) := ⟨by rw [zup_i (by decide)]; exact h.1, by rw [zup_i (by decide)]; exact h.2.1, by rw [zup_ne (by decide)]; exact h.2.2.1, h.2.2.2.1, h.2.2.2.2.1, h.2.2.2.2.2⟩
theorem tR.skip {w : Int → Int} {L p c : Int} {σ : MM} (hc : 0 < c) (h : tR w L p σ) : X6_skips c σ = if ch w L p = c then some (1, zup σ 58 6 (p + 1)) else some (0, σ) := by
  have hp := h.2.2.2.2.2
  unfold X6_skips
  rw [h.here, Option.bind_some]
  by_cases e : ch w L p = c
  · rw [if_pos e, if_pos ((hr_eq hc).mpr e), h.2.1, gd_t (by omega), mlet_eq]
  · rw [if_neg e, if_neg (fun q => e ((hr_eq hc).mp q))]
theorem tR.take {w : Int → Int} {L p a b : Int} {σ : MM} (ha : 0 ≤ a ∧ a ≤ 9) (hb : -1 ≤ b ∧ b ≤ 9) (h : tR w L p σ) : X6_takes a b σ = if a ≤ dgt (ch w L p) ∧ dgt (ch w L p) ≤ b then some (1, zup (zup σ 58 8 (dgt (ch w L p))) 58 6 (p + 1)) else some (0, σ) := by
  have hp := h.2.2.2.2.2
  unfold X6_takes
  rw [h.here, Option.bind_some, gd_t (by omega), gd_t (by omega), X6_in_eq, Option.bind_some]
  have key : (48 + a ≤ hr w L p ∧ hr w L p ≤ 48 + b) ↔ (a ≤ dgt (ch w L p) ∧ dgt (ch w L p) ≤ b) := by
    rw [hr_in (by omega)]
    unfold dgt
    split <;> omega
  by_cases e : a ≤ dgt (ch w L p) ∧ dgt (ch w L p) ≤ b
  · have e' := key.mpr e
    have e2 : hr w L p = dgt (ch w L p) + 48 := by
      have : ch w L p = hr w L p := (hr_eq (c := hr w L p) (by omega)).mp rfl
      unfold dgt at e ⊢
      rw [this] at e ⊢
      split at e
      · rename_i q
        rw [if_pos q]
        omega
      · omega
    rw [if_pos e, if_pos e', if_neg (by decide), Option.bind_some, gd_t (by omega), mlet_eq, zup_i (by decide), h.2.1, gd_t (by omega), mlet_eq, e2, show dgt (ch w L p) + 48 - 48 = dgt (ch w L p) by omega]
  · rw [if_neg e, if_neg (fun q => e (key.mp q)), if_pos rfl]
/-- what the row is while the reference checks (0) or does (1) -/
def rM (a : Int) (g0 g : Int → Int) (σ : MM) : Prop := (a = 0 ∧ σ 59 = g0 ∧ sInv0 g0 ∧ g0 0 ≤ g 0 ∧ ∀ s, 0 ≤ s → s < g 0 → plc g s = if s < g0 0 then plc g0 s else s) ∨ (a = 1 ∧ σ 59 = g)
theorem rM.cg {a : Int} {g0 g : Int → Int} {σ σ' : MM} (h : rM a g0 g σ) (e : σ' 59 = σ 59) : rM a g0 g σ' := by
  unfold rM at *
  rw [e]
  exact h
theorem rM.stands {a : Int} {g0 g : Int → Int} {σ : MM} (hI : sInv g) (h : rM a g0 g σ) {s : Int} (hs : 0 ≤ s ∧ s < g 0) : X6_standsAt s σ = some (plc g s) := by
  unfold X6_standsAt
  rcases h with ⟨-, h1, h2, h3, h4⟩ | ⟨-, h1⟩
  · rw [h1, h4 s hs.1 hs.2]
    by_cases c : s < g0 0
    · rw [if_pos c, if_pos c, X6_placeOf_eq (by rw [h1]; exact h2) hs.1 (by rw [h1]; exact c), Option.bind_some, h1]
    · rw [if_neg c, if_neg c]
  · rw [h1, if_pos hs.2, X6_placeOf_eq (by rw [h1]; exact hI.1) hs.1 (by rw [h1]; exact hs.2), Option.bind_some, h1]
def fr6 (σ σ' : MM) : Prop := (∀ j : Nat, j ≠ 58 → j ≠ 59 → σ' j = σ j) ∧ ∀ i : Int, i ≠ 6 → i ≠ 8 → σ' 58 i = σ 58 i
theorem fr6.rf {σ : MM} : fr6 σ σ := ⟨fun _ _ _ => rfl, fun _ _ _ => rfl⟩
theorem fr6.tr {σ σ' σ'' : MM} (h : fr6 σ σ') (h' : fr6 σ' σ'') : fr6 σ σ'' := ⟨fun j a b => (h'.1 j a b).trans (h.1 j a b), fun i a b => (h'.2 i a b).trans (h.2 i a b)⟩
theorem fr6.up {σ σ' : MM} {v : Int} (h : fr6 σ σ') : fr6 σ (zup σ' 58 6 v) := h.tr ⟨fun j a b => zup_ne a, fun i a b => zup_i a⟩
theorem fr6.up8 {σ σ' : MM} {v : Int} (h : fr6 σ σ') : fr6 σ (zup σ' 58 8 v) := h.tr ⟨fun j a b => zup_ne a, fun i a b => zup_i b⟩
theorem fr6.up9 {σ σ' : MM} {i v : Int} (h : fr6 σ σ') : fr6 σ (zup σ' 59 i v) := h.tr ⟨fun j a b => zup_ne b, fun i a b => by rw [zup_ne (by decide)]⟩
def rR (w : Int → Int) (L a : Int) (g0 : Int → Int) (r : Option (Int × MM)) (z : Int × Int × (Int → Int)) (σ : MM) : Prop := ∃ σ' : MM, r = some (z.1, σ') ∧ tR w L z.2.1 σ' ∧ fr6 σ σ' ∧ rM a g0 z.2.2 σ'
theorem rR.fr {w : Int → Int} {L a : Int} {g0 : Int → Int} {r : Option (Int × MM)} {z : Int × Int × (Int → Int)} {σ σ1 : MM} (h : rR w L a g0 r z σ1) (hf : fr6 σ σ1) : rR w L a g0 r z σ := by
  obtain ⟨σ', q1, q2, q3, q4⟩ := h
  exact ⟨σ', q1, q2, hf.tr q3, q4⟩
theorem rR.end {w : Int → Int} {L a q : Int} {g0 g : Int → Int} {σ σ1 : MM} (hT : tR w L q σ1) (hf : fr6 σ σ1) (hM : rM a g0 g σ1) : rR w L a g0 (some (0, σ1)) (0, q, g) σ := ⟨σ1, rfl, hT, hf, hM⟩
theorem rM.grow {a : Int} {g0 g g' : Int → Int} {σ : MM} (ha : a = 0) (h : rM a g0 g σ) (h1 : g 0 ≤ g' 0) (h2 : ∀ s, 0 ≤ s → s < g' 0 → plc g' s = if s < g 0 then plc g s else s) : rM a g0 g' σ := by
  rcases h with ⟨k1, k2, k3, k4, k5⟩ | ⟨k1, -⟩
  · refine Or.inl ⟨k1, k2, k3, by omega, fun s u v => ?_⟩
    rw [h2 s u v]
    by_cases c : s < g 0
    · rw [if_pos c, k5 s u c]
    · rw [if_neg c, if_neg (by omega)]
  · omega
