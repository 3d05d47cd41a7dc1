/-! execute, the class's side -/
def tC (w : Int → Int) (L p : Int) (σ : MM) : Prop := σ 34 1 = L ∧ σ 34 2 = p ∧ (∀ i, 0 ≤ i → i < L → σ 35 i = w i ∧ 33 ≤ w i ∧ w i ≤ 126) ∧ (0 ≤ L ∧ L ≤ 60) ∧ (0 ≤ p ∧ p ≤ 70)
theorem tC.cur {w : Int → Int} {L p : Int} {σ : MM} (h : tC w L p σ) : X4_current σ = some (ch w L p) := by
  obtain ⟨h1, h2, h3, h4, h5⟩ := h
  unfold X4_current ch
  rw [if_neg (by omega), h1, h2]
  by_cases c : p < L
  · have := h3 p h5.1 c
    rw [if_pos c, if_pos (by omega), gd_t (by omega), if_pos c, this.1]
  · rw [if_neg c, if_neg c]
theorem tC.up {w : Int → Int} {L p q : Int} {σ : MM} (h : tC w L p σ) (hq : 0 ≤ q ∧ q ≤ 70) : tC w L q (zup σ 34 2 q) := ⟨by rw [zup_i (by decide)]; exact h.1, zup_s, by rw [zup_ne (by decide)]; exact h.2.2.1, h.2.2.2.1, hq⟩
theorem tC.dg {w : Int → Int} {L p : Int} {σ : MM} (h : tC w L p σ) : X4_digit σ = some (dgt (ch w L p)) := by
  unfold X4_digit dgt
  rw [h.cur, Option.bind_some]
  by_cases c : ch w L p < 48
  · rw [if_pos c, if_neg (by omega)]
  · by_cases c2 : 57 < ch w L p
    · rw [if_neg c, if_pos c2, if_neg (by omega)]
    · rw [if_neg c, if_neg c2, if_pos (by omega)]
theorem tC.pass {w : Int → Int} {L p c : Int} {σ : MM} (h : tC w L p σ) : X4_passes c σ = if ch w L p = c then some (1, zup σ 34 2 (p + 1)) else some (0, σ) := by
  have hp := h.2.2.2.2
  unfold X4_passes
  rw [h.cur, Option.bind_some]
  by_cases e : ch w L p = c
  · rw [if_pos e, if_pos e, h.2.1, gd_t (by omega), mlet_eq]
  · rw [if_neg e, if_neg e]
/-- the rows that reading may change -/
def fr3 (σ σ' : MM) : Prop := ∀ j : Nat, ¬ (23 ≤ j ∧ j ≤ 34) → σ' j = σ j
/-- what one reading step leaves -/
def rC (w : Int → Int) (L : Int) (r : Option (Int × MM)) (z : Int × Int × (Int → Int)) (σ : MM) : Prop := ∃ σ' : MM, r = some (z.1, σ') ∧ tC w L z.2.1 σ' ∧ fr3 σ σ' ∧ sRL σ' 23 z.2.2 ∧ sKB σ' 23
theorem sRL_34 {σ : MM} {g : Int → Int} {v : Int} (h : sRL σ 23 g) : sRL (zup σ 34 2 v) 23 g := sRL_congr h (fun j a b => zup_ne (by omega))
theorem sKB_34 {σ : MM} {v : Int} (h : sKB σ 23) : sKB (zup σ 34 2 v) 23 := fun i a b => by rw [zup_ne (by decide)]; exact h i a b
theorem X0_addStatement_eq {σ : MM} {g : Int → Int} {c : Int} (hI : sInv0 g) (hn : g 0 < 8) (hc : 1 ≤ c ∧ c ≤ 9) (hR : sRL σ 23 g) : ∃ σ' : MM, X0_addStatement 23 c σ = some σ' ∧ (∀ j : Nat, j ≠ 23 → j ≠ 24 → j ≠ 25 → j ≠ 26 → σ' j = σ j) ∧ sRL σ' 23 (addS g c) := by
  have z0 := hI.1.1.1
  have e0 : σ 23 0 = g 0 := hR.1
  have x1 : ∀ v : Int, zup σ (23 + 1) (g 0) c 23 v = σ 23 v := fun v => by rw [zup_ne (by decide)]
  unfold X0_addStatement
  rw [e0, if_pos hn, gd_t (by omega), mlet_eq, x1, e0, gd_t (by omega), mlet_eq]
  have x2 : zup (zup σ (23 + 1) (g 0) c) (23 + 2) (g 0) (g 0) 23 0 = g 0 := by rw [zup_ne (by decide), zup_ne (by decide), e0]
  rw [x2, gd_t (by omega), mlet_eq]
  have x3 : zup (zup (zup σ (23 + 1) (g 0) c) (23 + 2) (g 0) (g 0)) (23 + 3) (g 0) (g 0) 23 0 = g 0 := by rw [zup_ne (by decide), x2]
  rw [x3, gd_t (by omega), mlet_eq]
  obtain ⟨r0, r1, r2, r3, r4⟩ := hR
  have plq := fun s (a : 0 ≤ s) (b : s ≤ g 0) => addS_plc (c := c) hI hn hc a b
  refine ⟨_, rfl, fun j a b c' d => by rw [zup_ne (by omega), zup_ne (by omega), zup_ne (by omega), zup_ne (by omega)], ?_, ?_, ?_, fun s a b => ?_, fun d a b => ?_⟩
  · rw [zup_s, addS_0]
  · rw [zup_i (by decide), zup_ne (by decide), zup_ne (by decide), zup_ne (by decide), r1, addS_n (by omega) (by omega) (by omega)]
  · rw [zup_ne (by decide), zup_ne (by decide), zup_ne (by decide), zup_ne (by decide), addS_n (by omega) (by omega) (by omega), addS_n (by omega) (by omega) (by omega), addS_n (by omega) (by omega) (by omega), addS_n (by omega) (by omega) (by omega)]
    exact r2
  · rw [addS_0] at b
    rw [plq s a (by omega), zup_ne (by decide), zup_ne (by decide), zup_ne (by decide), zup_at, zup_ne (by decide), zup_ne (by decide), zup_at, zup_ne (by decide), zup_ne (by decide), zup_at, zup_ne (by decide), zup_ne (by decide)]
    unfold sCost
    by_cases e : s = g 0
    · rw [if_pos e, if_pos e, if_pos e, if_pos e, e, addS_c z0, addS_p z0]
      exact ⟨rfl, rfl, rfl⟩
    · obtain ⟨w1, w2, w3⟩ := r3 s a (by omega)
      rw [if_neg e, if_neg e, if_neg e, if_neg e, addS_n (by omega) (by omega) (by omega), addS_n (by omega) (by omega) (by omega)]
      exact ⟨w1, w2, w3⟩
  · rw [addS_n (by omega) (by omega) (by omega)] at b
    unfold sKind sSrc sTgt sFar sKp
    rw [addS_n (by omega) (by omega) (by omega), addS_n (by omega) (by omega) (by omega), addS_n (by omega) (by omega) (by omega), addS_n (by omega) (by omega) (by omega), addS_n (by omega) (by omega) (by omega)]
    have q : ∀ j : Nat, 5 ≤ j → zup (zup (zup (zup σ (23 + 1) (g 0) c) (23 + 2) (g 0) (g 0)) (23 + 3) (g 0) (g 0)) 23 0 (g 0 + 1) (23 + j) = σ (23 + j) := fun j hj => by rw [zup_ne (by omega), zup_ne (by omega), zup_ne (by omega), zup_ne (by omega)]
    rw [q 5 (by decide), q 6 (by decide), q 7 (by decide), q 8 (by decide), q 9 (by decide)]
    exact r4 d a b
theorem X0_addDependence_eq {σ : MM} {g : Int → Int} {k s t f : Int} (hI : sInv0 g) (hm : g 1 < 16) (hR : sRL σ 23 g) (hK : sKB σ 23) : ∃ σ' : MM, X0_addDependence 23 k s t f σ = some σ' ∧ (∀ j : Nat, ¬ (23 ≤ j ∧ j ≤ 33) → σ' j = σ j) ∧ sRL σ' 23 (addD g k s t f) ∧ sKB σ' 23 := by
  have m0 := hI.1.2.1.1
  have n0 := hI.1.1
  have e5 : σ 23 5 = g 1 := hR.2.1
  have x1 : zup σ (23 + 5) (g 1) k 23 5 = g 1 := by rw [zup_ne (by decide), e5]
  have x2 : zup (zup σ (23 + 5) (g 1) k) (23 + 6) (g 1) s 23 5 = g 1 := by rw [zup_ne (by decide), x1]
  have x3 : zup (zup (zup σ (23 + 5) (g 1) k) (23 + 6) (g 1) s) (23 + 7) (g 1) t 23 5 = g 1 := by rw [zup_ne (by decide), x2]
  have x4 : zup (zup (zup (zup σ (23 + 5) (g 1) k) (23 + 6) (g 1) s) (23 + 7) (g 1) t) (23 + 8) (g 1) f 23 5 = g 1 := by rw [zup_ne (by decide), x3]
  have x5 : zup (zup (zup (zup (zup σ (23 + 5) (g 1) k) (23 + 6) (g 1) s) (23 + 7) (g 1) t) (23 + 8) (g 1) f) (23 + 9) (g 1) 1 23 5 = g 1 := by rw [zup_ne (by decide), x4]
  unfold X0_addDependence
  rw [e5, if_pos hm, gd_t (by omega), mlet_eq, x1, gd_t (by omega), mlet_eq, x2, gd_t (by omega), mlet_eq, x3, gd_t (by omega), mlet_eq, x4, gd_t (by omega), mlet_eq, x5, gd_t (by omega), mlet_eq]
  obtain ⟨r0, r1, r2, r3, r4⟩ := hR
  refine ⟨_, rfl, fun j a => by rw [zup_ne (by omega), zup_ne (by omega), zup_ne (by omega), zup_ne (by omega), zup_ne (by omega), zup_ne (by omega)], ⟨?_, ?_, ?_, fun x a b => ?_, fun d a b => ?_⟩, fun i a b => ?_⟩
  · rw [zup_i (by decide), zup_ne (by decide), zup_ne (by decide), zup_ne (by decide), zup_ne (by decide), zup_ne (by decide), r0, addD_n (by omega) (by omega)]
  · rw [zup_s, addD_1]
  · rw [zup_ne (by decide), zup_ne (by decide), zup_ne (by decide), zup_ne (by decide), zup_ne (by decide), zup_ne (by decide), addD_n (by omega) (by omega), addD_n (by omega) (by omega), addD_n (by omega) (by omega), addD_n (by omega) (by omega)]
    exact r2
  · rw [addD_n (by omega) (by omega)] at b
    rw [addD_plc m0]
    unfold sCost
    rw [addD_n (by omega) (by omega), addD_n (by omega) (by omega)]
    have q : ∀ j : Nat, 1 ≤ j → j ≤ 4 → zup (zup (zup (zup (zup (zup σ (23 + 5) (g 1) k) (23 + 6) (g 1) s) (23 + 7) (g 1) t) (23 + 8) (g 1) f) (23 + 9) (g 1) 1) 23 5 (g 1 + 1) (23 + j) = σ (23 + j) := fun j hj hj' => by rw [zup_ne (by omega), zup_ne (by omega), zup_ne (by omega), zup_ne (by omega), zup_ne (by omega), zup_ne (by omega)]
    rw [q 1 (by decide) (by decide), q 2 (by decide) (by decide), q 3 (by decide) (by decide)]
    exact r3 x a b
  · rw [addD_1] at b
    rw [zup_ne (by decide), zup_ne (by decide), zup_ne (by decide), zup_ne (by decide), zup_ne (by decide), zup_at, zup_ne (by decide), zup_ne (by decide), zup_ne (by decide), zup_ne (by decide), zup_at, zup_ne (by decide), zup_ne (by decide), zup_ne (by decide), zup_ne (by decide), zup_at, zup_ne (by decide), zup_ne (by decide), zup_ne (by decide), zup_ne (by decide), zup_at, zup_ne (by decide), zup_ne (by decide), zup_ne (by decide), zup_ne (by decide), zup_at, zup_ne (by decide), zup_ne (by decide), zup_ne (by decide), zup_ne (by decide)]
    by_cases e : d = g 1
    · obtain ⟨f1, f2, f3, f4, f5⟩ := addD_d (g := g) (k := k) (s := s) (t := t) (f := f) m0
      rw [if_pos e, if_pos e, if_pos e, if_pos e, if_pos e, e, f1, f2, f3, f4, f5]
      exact ⟨rfl, rfl, rfl, rfl, rfl⟩
    · obtain ⟨f1, f2, f3, f4, f5⟩ := addD_o (g := g) (k := k) (s := s) (t := t) (f := f) (d := d) (by omega)
      rw [if_neg e, if_neg e, if_neg e, if_neg e, if_neg e, f1, f2, f3, f4, f5]
      exact r4 d a (by omega)
  · rw [zup_ne (by decide), zup_at]
    split
    · exact Or.inr rfl
    · rw [zup_ne (by decide), zup_ne (by decide), zup_ne (by decide), zup_ne (by decide)]
      exact hK i a b
theorem X4_readStatement_eq {w g : Int → Int} {L p : Int} {σ : MM} (hI : sInv g) (hT : tC w L p σ) (hp : p ≤ 60) (hR : sRL σ 23 g) (hK : sKB σ 23) : rC w L (X4_readStatement 23 σ) (rdS w L p g) σ := by
  have hp0 := hT.2.2.2.2
  have hd := dgt_b (ch w L (p + 1))
  unfold X4_readStatement rdS
  rw [hR.1]
  by_cases c : g 0 < 8
  · have t1 := hT.up (q := p + 1) (by omega)
    have t2 := t1.up (q := p + 1 + 1) (by omega)
    rw [if_pos c, if_pos c, hT.2.1, gd_t (by omega), mlet_eq, t1.dg, Option.bind_some]
    by_cases c1 : dgt (ch w L (p + 1)) < 1
    · rw [if_pos c1, if_pos c1]
      exact ⟨_, rfl, t1, fun j hj => zup_ne (by omega), sRL_34 hR, sKB_34 hK⟩
    · rw [if_neg c1, if_neg c1, t1.2.1, gd_t (by omega), mlet_eq, t2.pass, show p + 1 + 1 = p + 2 by omega]
      rw [show p + 1 + 1 = p + 2 by omega] at t2
      by_cases c2 : ch w L (p + 2) = 59
      · have t3 := t2.up (q := p + 2 + 1) (by omega)
        obtain ⟨σ1, q1, q2, q3⟩ := X0_addStatement_eq (c := dgt (ch w L (p + 1))) hI.1 c (by omega) (sRL_34 (v := p + 2 + 1) (sRL_34 (v := p + 2) (sRL_34 (v := p + 1) hR)))
        rw [if_pos c2, if_pos c2, Option.bind_some]
        dsimp only
        rw [if_neg (by decide), q1]
        rw [show p + 2 + 1 = p + 3 by omega] at *
        refine ⟨σ1, rfl, ⟨by rw [q2 34 (by decide) (by decide) (by decide) (by decide)]; exact t3.1, by rw [q2 34 (by decide) (by decide) (by decide) (by decide)]; exact t3.2.1, by rw [q2 35 (by decide) (by decide) (by decide) (by decide)]; exact t3.2.2.1, t3.2.2.2.1, t3.2.2.2.2⟩, fun j hj => by rw [q2 j (by omega) (by omega) (by omega) (by omega), zup_ne (by omega), zup_ne (by omega), zup_ne (by omega)], q3, fun i a b => ?_⟩
        rw [q2 (23 + 9) (by decide) (by decide) (by decide) (by decide)]
        exact sKB_34 (sKB_34 (sKB_34 hK)) i a b
      · rw [if_neg c2, if_neg c2, Option.bind_some]
        dsimp only
        rw [if_pos rfl]
        exact ⟨_, rfl, t2, fun j hj => by rw [zup_ne (by omega), zup_ne (by omega)], sRL_34 (sRL_34 hR), sKB_34 (sKB_34 hK)⟩
  · rw [if_neg c, if_neg c]
    exact ⟨σ, rfl, hT, fun _ _ => rfl, hR, hK⟩
theorem X4_readDependence_J135_eq {w g : Int → Int} {L p k s t f : Int} {σ : MM} (hI : sInv g) (hm : g 1 < 16) (hT : tC w L p σ) (hp : p ≤ 65) (hR : sRL σ 23 g) (hK : sKB σ 23) : rC w L (X4_readDependence_J135 23 k s t f σ) (if ch w L (p + 1) = 59 then (1, p + 2, addD g k s t f) else (0, p + 1, g)) σ := by
  have hp0 := hT.2.2.2.2
  have t1 := hT.up (q := p + 1) (by omega)
  unfold X4_readDependence_J135
  rw [hT.2.1, gd_t (by omega), mlet_eq, t1.pass]
  by_cases c2 : ch w L (p + 1) = 59
  · have t2 := t1.up (q := p + 1 + 1) (by omega)
    obtain ⟨σ1, q1, q2, q3, q4⟩ := X0_addDependence_eq (k := k) (s := s) (t := t) (f := f) hI.1 hm (sRL_34 (v := p + 1 + 1) (sRL_34 (v := p + 1) hR)) (sKB_34 (sKB_34 hK))
    rw [if_pos c2, if_pos c2, Option.bind_some]
    dsimp only
    rw [if_neg (by decide), q1]
    have e34 : σ1 34 = zup (zup σ 34 2 (p + 1)) 34 2 (p + 1 + 1) 34 := q2 34 (by decide)
    rw [show p + 1 + 1 = p + 2 by omega] at *
    exact ⟨σ1, rfl, ⟨by rw [e34]; exact t2.1, by rw [e34]; exact t2.2.1, by rw [q2 35 (by decide)]; exact t2.2.2.1, t2.2.2.2.1, t2.2.2.2.2⟩, fun j hj => by rw [q2 j (by omega), zup_ne (by omega), zup_ne (by omega)], q3, q4⟩
  · rw [if_neg c2, if_neg c2, Option.bind_some]
    dsimp only
    rw [if_pos rfl]
    exact ⟨_, rfl, t1, fun j hj => zup_ne (by omega), sRL_34 hR, sKB_34 hK⟩
