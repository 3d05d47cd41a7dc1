/-! copying a loop; save and restore -/
theorem X0_copyFrom_L10_eq {b b2 : Nat} {k : MM → Option MM} (hb : b + 10 < b2 ∨ b2 + 10 < b) : ∀ (n : Nat) (x : Int) (σ : MM), 0 ≤ x → x ≤ 8 → 8 - x < n →
    ∃ σ' : MM, X0_copyFrom_L10 b b2 k n x σ = k σ' ∧ (∀ j : Nat, ¬ (b + 1 ≤ j ∧ j ≤ b + 3) → σ' j = σ j) ∧ ∀ i : Nat, 1 ≤ i → i ≤ 3 → ∀ s, σ' (b + i) s = if x ≤ s ∧ s < 8 then σ (b2 + i) s else σ (b + i) s := by
  intro n
  induction n with
  | zero => intro x σ h0 h1 h2; omega
  | succ n ih =>
    intro x σ h0 h1 h2
    rw [X0_copyFrom_L10]
    by_cases c : x < 8
    · rw [if_pos c, gd_t ⟨h0, c⟩]
      simp only [mlet_eq]
      obtain ⟨σ', q1, q2, q3⟩ := ih (x + 1) (zup (zup (zup σ (b + 1) x (σ (b2 + 1) x)) (b + 2) x (σ (b2 + 2) x)) (b + 3) x (σ (b2 + 3) x)) (by omega) (by omega) (by omega)
      refine ⟨σ', ?_, fun j hj => by rw [q2 j hj, zup_ne (by omega), zup_ne (by omega), zup_ne (by omega)], fun i h5 h9 s => ?_⟩
      · rw [show zup σ (b + 1) x (σ (b2 + 1) x) (b2 + 2) = σ (b2 + 2) from zup_ne (by omega), show zup (zup σ (b + 1) x (σ (b2 + 1) x)) (b + 2) x (σ (b2 + 2) x) (b2 + 3) = σ (b2 + 3) by rw [zup_ne (by omega), zup_ne (by omega)]]
        exact q1
      · rw [q3 i h5 h9]
        have e0 : zup (zup (zup σ (b + 1) x (σ (b2 + 1) x)) (b + 2) x (σ (b2 + 2) x)) (b + 3) x (σ (b2 + 3) x) (b2 + i) = σ (b2 + i) := by rw [zup_ne (by omega), zup_ne (by omega), zup_ne (by omega)]
        rw [e0]
        have e1 : zup (zup (zup σ (b + 1) x (σ (b2 + 1) x)) (b + 2) x (σ (b2 + 2) x)) (b + 3) x (σ (b2 + 3) x) (b + i) s = if s = x then σ (b2 + i) s else σ (b + i) s := by
          have e : i = 1 ∨ i = 2 ∨ i = 3 := by omega
          rcases e with rfl | rfl | rfl
          · rw [zup_ne (by omega), zup_ne (by omega), zup_at]
            split
            · rename_i u; rw [u]
            · rfl
          · rw [zup_ne (by omega), zup_at, zup_ne (by omega)]
            split
            · rename_i u; rw [u]
            · rfl
          · rw [zup_at, zup_ne (by omega), zup_ne (by omega)]
            split
            · rename_i u; rw [u]
            · rfl
        rw [e1]
        by_cases e : x + 1 ≤ s ∧ s < 8
        · rw [if_pos e, if_pos (by omega)]
        · rw [if_neg e]
          by_cases e2 : s = x
          · rw [if_pos e2, if_pos (by omega)]
          · rw [if_neg e2, if_neg (by omega)]
    · rw [if_neg c]
      exact ⟨σ, rfl, fun _ _ => rfl, fun i _ _ s => by rw [if_neg (by omega)]⟩
theorem X0_copyFrom_L68_eq {b b2 : Nat} {k : MM → Option MM} (hb : b + 10 < b2 ∨ b2 + 10 < b) : ∀ (n : Nat) (x : Int) (σ : MM), sKB σ b2 → 0 ≤ x → x ≤ 16 → 16 - x < n →
    ∃ σ' : MM, X0_copyFrom_L68 b b2 k n x σ = k σ' ∧ (∀ j : Nat, ¬ (b + 5 ≤ j ∧ j ≤ b + 9) → σ' j = σ j) ∧ ∀ i : Nat, 5 ≤ i → i ≤ 9 → ∀ s, σ' (b + i) s = if x ≤ s ∧ s < 16 then σ (b2 + i) s else σ (b + i) s := by
  intro n
  induction n with
  | zero => intro x σ hk h0 h1 h2; omega
  | succ n ih =>
    intro x σ hk h0 h1 h2
    rw [X0_copyFrom_L68]
    by_cases c : x < 16
    · obtain ⟨σ1, q1, q2, q3⟩ := X0_copyDependence_eq (σ := σ) (b := b) (b2 := b2) (a2 := x) (a3 := x) (Or.inr hb) ⟨h0, c⟩ ⟨h0, c⟩ (hk x h0 c)
      rw [if_pos c, q1, Option.bind_some]
      obtain ⟨σ2, u1, u2, u3⟩ := ih (x + 1) σ1 (fun i h5 h6 => by rw [q2 (b2 + 9) (by omega)]; exact hk i h5 h6) (by omega) (by omega) (by omega)
      refine ⟨σ2, u1, fun j hj => by rw [u2 j hj, q2 j hj], fun i h5 h9 d => ?_⟩
      rw [u3 i h5 h9, q3 i h5 h9, q2 (b2 + i) (by omega)]
      by_cases e : x + 1 ≤ d ∧ d < 16
      · rw [if_pos e, if_pos (by omega)]
      · rw [if_neg e]
        by_cases e2 : d = x
        · rw [if_pos e2, if_pos (by omega), e2]
        · rw [if_neg e2, if_neg (by omega)]
    · rw [if_neg c]
      exact ⟨σ, rfl, fun _ _ => rfl, fun i _ _ s => by rw [if_neg (by omega)]⟩
theorem X0_copyFrom_L89_eq {b b2 : Nat} {k : MM → Option MM} (hb : b + 10 < b2 ∨ b2 + 10 < b) : ∀ (n : Nat) (x : Int) (σ : MM), 0 ≤ x → x ≤ 4 → 4 - x < n →
    ∃ σ' : MM, X0_copyFrom_L89 b b2 k n x σ = k σ' ∧ (∀ j : Nat, j ≠ b + 10 → σ' j = σ j) ∧ ∀ s, σ' (b + 10) s = if x ≤ s ∧ s < 4 then σ (b2 + 10) s else σ (b + 10) s := by
  intro n
  induction n with
  | zero => intro x σ h0 h1 h2; omega
  | succ n ih =>
    intro x σ h0 h1 h2
    rw [X0_copyFrom_L89]
    by_cases c : x < 4
    · rw [if_pos c, gd_t ⟨h0, c⟩, mlet_eq]
      obtain ⟨σ2, u1, u2, u3⟩ := ih (x + 1) (zup σ (b + 10) x (σ (b2 + 10) x)) (by omega) (by omega) (by omega)
      refine ⟨σ2, u1, fun j hj => by rw [u2 j hj, zup_ne hj], fun d => ?_⟩
      rw [u3, zup_ne (show b2 + 10 ≠ b + 10 by omega), zup_at]
      by_cases e : x + 1 ≤ d ∧ d < 4
      · rw [if_pos e, if_pos (by omega)]
      · rw [if_neg e]
        by_cases e2 : d = x
        · rw [if_pos e2, if_pos (by omega), e2]
        · rw [if_neg e2, if_neg (by omega)]
    · rw [if_neg c]
      exact ⟨σ, rfl, fun _ _ => rfl, fun s => by rw [if_neg (by omega)]⟩
theorem X0_copyFrom_eq {σ : MM} {b b2 : Nat} (hb : b + 10 < b2 ∨ b2 + 10 < b) (hk : sKB σ b2) :
    ∃ σ' : MM, X0_copyFrom b b2 σ = some σ' ∧ (∀ j : Nat, ¬ (b ≤ j ∧ j ≤ b + 10) → σ' j = σ j) ∧ sKB σ' b ∧ ∀ g : Int → Int, sInv0 g → sRL σ b2 g → sRL σ' b g := by
  have key : ∀ N1 N2 N3 : Nat, 9 ≤ N1 → 17 ≤ N2 → 5 ≤ N3 → ∃ σ' : MM, X0_copyFrom_L10 b b2 (fun σ15 => X0_copyFrom_L68 b b2 (fun σ23 => X0_copyFrom_L89 b b2 (fun σ29 => some σ29) N3 0 σ23) N2 0 (zup σ15 b 5 (σ15 b2 5))) N1 0 (zup σ b 0 (σ b2 0)) = some σ' ∧ (∀ j : Nat, ¬ (b ≤ j ∧ j ≤ b + 10) → σ' j = σ j) ∧ sKB σ' b ∧ ∀ g : Int → Int, sInv0 g → sRL σ b2 g → sRL σ' b g := by
    intro N1 N2 N3 h1 h2 h3
    obtain ⟨σ1, a1, a2, a3⟩ := X0_copyFrom_L10_eq (k := fun σ15 => X0_copyFrom_L68 b b2 (fun σ23 => X0_copyFrom_L89 b b2 (fun σ29 => some σ29) N3 0 σ23) N2 0 (zup σ15 b 5 (σ15 b2 5))) hb N1 0 (zup σ b 0 (σ b2 0)) (by omega) (by omega) (by omega)
    have o1 : ∀ j : Nat, ¬ (b ≤ j ∧ j ≤ b + 10) → zup σ1 b 5 (σ1 b2 5) j = σ j := fun j hj => by rw [zup_ne (by omega), a2 j (by omega), zup_ne (by omega)]
    obtain ⟨σ2, b1, b2', b3⟩ := X0_copyFrom_L68_eq (k := fun σ23 => X0_copyFrom_L89 b b2 (fun σ29 => some σ29) N3 0 σ23) hb N2 0 (zup σ1 b 5 (σ1 b2 5)) (fun i u v => by rw [o1 (b2 + 9) (by omega)]; exact hk i u v) (by omega) (by omega) (by omega)
    have o2 : ∀ j : Nat, ¬ (b ≤ j ∧ j ≤ b + 10) → σ2 j = σ j := fun j hj => by rw [b2' j (by omega), o1 j hj]
    obtain ⟨σ3, c1, c2, c3⟩ := X0_copyFrom_L89_eq (k := fun σ29 => some σ29) hb N3 0 σ2 (by omega) (by omega) (by omega)
    have d : ∀ i : Nat, 5 ≤ i → i ≤ 9 → ∀ s, 0 ≤ s → s < 16 → σ3 (b + i) s = σ (b2 + i) s := fun i u v s w x => by rw [c2 _ (by omega), b3 i u v, if_pos ⟨w, x⟩, o1 (b2 + i) (by omega)]
    have f : ∀ i : Nat, 1 ≤ i → i ≤ 3 → ∀ s, 0 ≤ s → s < 8 → σ3 (b + i) s = σ (b2 + i) s := fun i u v s w x => by rw [c2 _ (by omega), b2' _ (by omega), zup_ne (by omega), a3 i u v, if_pos ⟨w, x⟩, zup_ne (by omega)]
    refine ⟨σ3, by rw [a1]; exact Eq.trans b1 c1, fun j hj => by rw [c2 j (by omega), o2 j hj], fun i u v => by rw [d 9 (by decide) (by decide) i u v]; exact hk i u v, fun g hI hR => ?_⟩
    have hn := hI.1.1
    have hm := hI.1.2.1
    obtain ⟨r0, r1, r2, r3, r4⟩ := hR
    refine ⟨?_, ?_, ?_, fun s u v => ?_, fun e u v => ?_⟩
    · rw [c2 b (by omega), b2' b (by omega), zup_i (by decide), a2 b (by omega), zup_s]; exact r0
    · rw [c2 b (by omega), b2' b (by omega), zup_s, a2 b2 (by omega), zup_ne (by omega)]; exact r1
    · rw [c3, c3, c3, c3, if_pos (by decide), if_pos (by decide), if_pos (by decide), if_pos (by decide), o2 (b2 + 10) (by omega)]; exact r2
    · obtain ⟨w1, w2, w3⟩ := r3 s u v
      exact ⟨by rw [f 1 (by decide) (by decide) s u (by omega)]; exact w1, by rw [f 2 (by decide) (by decide) s u (by omega)]; exact w2, by rw [f 3 (by decide) (by decide) s u (by omega)]; exact w3⟩
    · obtain ⟨w1, w2, w3, w4, w5⟩ := r4 e u v
      exact ⟨by rw [d 5 (by decide) (by decide) e u (by omega)]; exact w1, by rw [d 6 (by decide) (by decide) e u (by omega)]; exact w2, by rw [d 7 (by decide) (by decide) e u (by omega)]; exact w3, by rw [d 8 (by decide) (by decide) e u (by omega)]; exact w4, by rw [d 9 (by decide) (by decide) e u (by omega)]; exact w5⟩
  unfold X0_copyFrom
  rw [mlet_eq]
  simp only [mlet_eq]
  exact key 100000 100000 100000 (by omega) (by omega) (by omega)
/-- only the places 0 to 109 of the row count -/
theorem dep_at {d w : Int} (h : 0 ≤ d ∧ d < 16) (hw : 0 ≤ w ∧ w ≤ 4) : 0 ≤ 30 + 5 * d + w ∧ 30 + 5 * d + w < 110 := by omega
theorem sInv_congr {g g' : Int → Int} (hI : sInv g) (h : ∀ i, 0 ≤ i → i < 110 → g' i = g i) : sInv g' := by
  have hn := hI.1.1.1
  have hm := hI.1.1.2.1
  refine sInv_keep hI (h 0 (by omega) (by omega)) ?_ (fun s h1 h2 => by rw [h (10 + s) (by omega) (by omega)]; exact hI.1.2.1 s h1 h2) (fun p h1 h2 => h _ (by omega) (by omega)) (fun d h1 h2 => ?_)
  · rw [h 1 (by omega) (by omega), h 2 (by omega) (by omega), h 3 (by omega) (by omega), h 4 (by omega) (by omega), h 5 (by omega) (by omega)]
    exact hI.1.1.2
  · rw [h 1 (by omega) (by omega)] at h2
    refine ⟨d, ⟨h1, h2⟩, h _ (by omega) (by omega), h _ (by omega) (by omega), h _ (by omega) (by omega), h _ (by omega) (by omega), ?_⟩
    rw [show sKp g' d = sKp g d from h _ (by omega) (by omega)]
    exact (hI.1.2.2.2.2.2 d h1 h2).2.2.2.2
theorem sRL_cong {σ : MM} {b : Nat} {g g' : Int → Int} (hI : sInv0 g) (hR : sRL σ b g) (h : ∀ i, 0 ≤ i → i < 110 → g' i = g i) : sRL σ b g' := by
  have hn := hI.1.1
  have hm := hI.1.2.1
  obtain ⟨r0, r1, r2, r3, r4⟩ := hR
  refine ⟨by rw [h 0 (by omega) (by omega)]; exact r0, by rw [h 1 (by omega) (by omega)]; exact r1, by rw [h 2 (by omega) (by omega), h 3 (by omega) (by omega), h 4 (by omega) (by omega), h 5 (by omega) (by omega)]; exact r2, fun s h1 h2 => ?_, fun d h1 h2 => ?_⟩
  · rw [h 0 (by omega) (by omega)] at h2
    rw [show sCost g' s = sCost g s from h _ (by omega) (by omega), plc_congr (fun p u v => h _ (by omega) (by omega)), h (20 + s) (by omega) (by omega)]
    exact r3 s h1 h2
  · rw [h 1 (by omega) (by omega)] at h2
    rw [show sKind g' d = sKind g d from h _ (by omega) (by omega), show sSrc g' d = sSrc g d from h _ (by omega) (by omega), show sTgt g' d = sTgt g d from h _ (by omega) (by omega), show sFar g' d = sFar g d from h _ (by omega) (by omega), show sKp g' d = sKp g d from h _ (by omega) (by omega)]
    exact r4 d h1 h2
theorem X6_save_L12_eq {k : MM → Option (Int × MM)} : ∀ (n : Nat) (x : Int) (σ : MM), 0 ≤ x → x ≤ 110 → 110 - x < n →
    ∃ σ' : MM, X6_save_L12 k n x σ = k σ' ∧ (∀ j : Nat, j ≠ 60 → σ' j = σ j) ∧ ∀ i, σ' 60 i = if x ≤ i ∧ i < 110 then σ 59 i else σ 60 i := by
  intro n
  induction n with
  | zero => intro x σ h0 h1 h2; omega
  | succ n ih =>
    intro x σ h0 h1 h2
    rw [X6_save_L12]
    by_cases c : x < 110
    · rw [if_pos c, gd_t ⟨h0, c⟩, mlet_eq]
      obtain ⟨σ2, u1, u2, u3⟩ := ih (x + 1) (zup σ 60 x (σ 59 x)) (by omega) (by omega) (by omega)
      refine ⟨σ2, u1, fun j hj => by rw [u2 j hj, zup_ne hj], fun d => ?_⟩
      rw [u3, zup_ne (show (59 : Nat) ≠ 60 by decide), zup_at]
      by_cases e : x + 1 ≤ d ∧ d < 110
      · rw [if_pos e, if_pos (by omega)]
      · rw [if_neg e]
        by_cases e2 : d = x
        · rw [if_pos e2, if_pos (by omega), e2]
        · rw [if_neg e2, if_neg (by omega)]
    · rw [if_neg c]
      exact ⟨σ, rfl, fun _ _ => rfl, fun s => by rw [if_neg (by omega)]⟩
theorem X6_restore_L20_eq {k : MM → Option (Int × MM)} : ∀ (n : Nat) (x : Int) (σ : MM), 0 ≤ x → x ≤ 110 → 110 - x < n →
    ∃ σ' : MM, X6_restore_L20 k n x σ = k σ' ∧ (∀ j : Nat, j ≠ 59 → σ' j = σ j) ∧ ∀ i, σ' 59 i = if x ≤ i ∧ i < 110 then σ 60 i else σ 59 i := by
  intro n
  induction n with
  | zero => intro x σ h0 h1 h2; omega
  | succ n ih =>
    intro x σ h0 h1 h2
    rw [X6_restore_L20]
    by_cases c : x < 110
    · rw [if_pos c, gd_t ⟨h0, c⟩, mlet_eq]
      obtain ⟨σ2, u1, u2, u3⟩ := ih (x + 1) (zup σ 59 x (σ 60 x)) (by omega) (by omega) (by omega)
      refine ⟨σ2, u1, fun j hj => by rw [u2 j hj, zup_ne hj], fun d => ?_⟩
      rw [u3, zup_ne (show (60 : Nat) ≠ 59 by decide), zup_at]
      by_cases e : x + 1 ≤ d ∧ d < 110
      · rw [if_pos e, if_pos (by omega)]
      · rw [if_neg e]
        by_cases e2 : d = x
        · rw [if_pos e2, if_pos (by omega), e2]
        · rw [if_neg e2, if_neg (by omega)]
    · rw [if_neg c]
      exact ⟨σ, rfl, fun _ _ => rfl, fun s => by rw [if_neg (by omega)]⟩
theorem op_save {σ : MM} (h : ST σ) : OpN (X5_save σ) X6_save := by
  obtain ⟨h1, h2, h3, h4, h5, h6, h7, h8, h9⟩ := h
  obtain ⟨σ1, q1, q2, q3, q4⟩ := X0_copyFrom_eq (σ := σ) (b := 12) (b2 := 1) (Or.inr (by decide)) h3
  have z : ∀ j : Nat, ¬ (12 ≤ j ∧ j ≤ 22) → j ≠ 0 → zup σ1 0 7 1 j = σ j := fun j a b => by rw [zup_ne b, q2 j (by omega)]
  obtain ⟨σ2, u1, u2, u3⟩ := X6_save_L12_eq (k := fun σ10 => some (σ10 59 1, σ10)) 100000 0 (zup (zup (zup σ1 0 7 1) 58 3 0) 58 2 1) (by omega) (by omega) (by omega)
  have y : ∀ j : Nat, j ≠ 58 → j ≠ 60 → σ2 j = zup σ1 0 7 1 j := fun j a b => by rw [u2 j b, zup_ne a, zup_ne a]
  have w : ∀ j : Nat, ¬ (12 ≤ j ∧ j ≤ 22) → j ≠ 0 → j ≠ 58 → j ≠ 60 → σ2 j = σ j := fun j a b c d => by rw [y j c d, z j a b]
  have w58 : ∀ i : Int, i ≠ 2 → i ≠ 3 → σ2 58 i = σ 58 i := fun i a b => by rw [u2 58 (by decide), zup_i a, zup_i b, z 58 (by decide) (by decide)]
  have w582 : σ2 58 2 = 1 := by rw [u2 58 (by decide), zup_s]
  have w0 : ∀ i : Int, i ≠ 7 → σ2 0 i = σ 0 i := fun i a => by rw [y 0 (by decide) (by decide), zup_i a, q2 0 (by decide)]
  have w60 : ∀ i, 0 ≤ i → i < 110 → σ2 60 i = σ 59 i := fun i a b => by rw [u3 i, if_pos ⟨a, b⟩, zup_ne (by decide), zup_ne (by decide), z 59 (by decide) (by decide)]
  have wl : ∀ j : Nat, 12 ≤ j → j ≤ 22 → σ2 j = σ1 j := fun j a b => by rw [y j (by omega) (by omega), zup_ne (by omega)]
  refine ⟨σ 59 1, zup σ1 0 7 1, σ2, ?_, ?_, ?_⟩
  · unfold X5_save
    rw [q1, Option.bind_some, mlet_eq, z 1 (by decide) (by decide), h2.2.1]
  · unfold X6_save
    rw [mlet_eq, mlet_eq, u1, w 59 (by decide) (by decide) (by decide) (by decide)]
  · have w59 := w 59 (by decide) (by decide) (by decide) (by decide)
    refine ⟨by rw [w59]; exact h1, by rw [w59]; exact sRL_congr h2 (fun j a _ => w _ (by omega) (by omega) (by omega) (by omega)), fun i a b => by rw [w _ (by decide) (by decide) (by decide) (by decide)]; exact h3 i a b, fun i a b => by rw [wl _ (by decide) (by decide)]; exact q3 i a b, by rw [w 34 (by decide) (by decide) (by decide) (by decide), w58 5 (by decide) (by decide)]; exact h5, by rw [w 35 (by decide) (by decide) (by decide) (by decide), w 61 (by decide) (by decide) (by decide) (by decide), w58 5 (by decide) (by decide)]; exact h6, by rw [w0 8 (by decide), w58 7 (by decide) (by decide)]; exact h7, ⟨by rw [w582, y 0 (by decide) (by decide), zup_s], Or.inr w582⟩, fun _ => ⟨sInv_congr h1 w60, ?_⟩⟩
    exact sRL_cong h1.1 (sRL_congr (q4 _ h1.1 h2) (fun j a _ => wl _ (by omega) (by omega))) w60
def rst (g k : Int → Int) : Int → Int := fun i => if 0 ≤ i ∧ i < 110 then k i else g i
theorem op_restore {σ : MM} (h : ST σ) : OpX (X5_restore σ) X6_restore kE := by
  have e7 := h.2.2.2.2.2.2.2.1
  by_cases c : σ 58 2 = 0
  · refine ⟨2, 0, σ, ?_, Or.inr (by decide), fun σ' hj => ⟨0, zup (zup σ' 58 3 0) 58 3 1, ?_, zup_s, fun e => absurd e (by decide), (h.out hj).se ((SE.thr).tr SE.thr), by rw [zup_ne (by decide), zup_ne (by decide)]⟩⟩
    · unfold X5_restore
      rw [if_pos (by rw [e7.1]; exact c)]
    · unfold X6_restore
      rw [mlet_eq, zup_i (by decide), hj 58 (by decide), if_pos c, X6_fails_eq]
      rfl
  · obtain ⟨k1, k2⟩ := h.2.2.2.2.2.2.2.2 (by omega)
    obtain ⟨σ1, q1, q2, q3, q4⟩ := X0_copyFrom_eq (σ := σ) (b := 1) (b2 := 12) (Or.inl (by decide)) h.2.2.2.1
    have hg : ∀ i, 0 ≤ i → i < 110 → rst (σ 59) (σ 60) i = σ 60 i := fun i a b => if_pos ⟨a, b⟩
    have hR := sRL_cong k1.1 (q4 _ k1.1 k2) hg
    have hI := sInv_congr k1 hg
    refine ⟨0, σ1 1 5, σ1, ?_, Or.inl rfl, fun σ' hj => ?_⟩
    · unfold X5_restore
      rw [if_neg (by rw [e7.1]; exact c), q1, Option.bind_some]
    · obtain ⟨σ2, u1, u2, u3⟩ := X6_restore_L20_eq (k := fun σ10 => some (σ10 59 1, σ10)) 100000 0 (zup σ' 58 3 0) (by omega) (by omega) (by omega)
      have e59 : σ2 59 = rst (σ 59) (σ 60) := by
        funext i
        rw [u3 i, zup_ne (by decide), zup_ne (by decide), hj 59 (by decide), hj 60 (by decide), q2 59 (by decide), q2 60 (by decide)]
        rfl
      refine ⟨σ2 59 1, σ2, ?_, by rw [u2 58 (by decide), zup_s]; rfl, fun _ => by rw [e59]; exact hR.2.1.symm, h.mut (σ1 := σ1) (σ' := σ') (fun j a => q2 j (by omega)) hj u2 (by rw [e59]; exact hI) (by rw [e59]; exact hR) q3, by rw [u2 72 (by decide), zup_ne (by decide)]⟩
      unfold X6_restore
      rw [mlet_eq, zup_i (by decide), hj 58 (by decide), q2 58 (by decide), if_neg c]
      exact u1
