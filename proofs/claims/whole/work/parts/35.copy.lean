theorem zup_at {σ : MM} {k : Nat} {i v d : Int} : zup σ k i v k d = if d = i then v else σ k d := by
  simp [zup]
theorem X0_copyDependence_eq {σ : MM} {b b2 : Nat} (hb : b = b2 ∨ b + 10 < b2 ∨ b2 + 10 < b) {a2 a3 : Int} (h2 : 0 ≤ a2 ∧ a2 < 16) (h3 : 0 ≤ a3 ∧ a3 < 16) (hk : σ (b2 + 9) a2 = 0 ∨ σ (b2 + 9) a2 = 1) :
    ∃ σ' : MM, X0_copyDependence b b2 a2 a3 σ = some σ' ∧ (∀ j : Nat, ¬ (b + 5 ≤ j ∧ j ≤ b + 9) → σ' j = σ j) ∧ ∀ i : Nat, 5 ≤ i → i ≤ 9 → ∀ d, σ' (b + i) d = if d = a3 then σ (b2 + i) a2 else σ (b + i) d := by
  refine ⟨zup (zup (zup (zup (zup σ (b + 5) a3 (σ (b2 + 5) a2)) (b + 6) a3 (σ (b2 + 6) a2)) (b + 7) a3 (σ (b2 + 7) a2)) (b + 8) a3 (σ (b2 + 8) a2)) (b + 9) a3 (σ (b2 + 9) a2), ?_, fun j hj => ?_, fun i h5 h9 d => ?_⟩
  · unfold X0_copyDependence
    rw [if_neg (by omega), if_pos h2.2, if_neg (by omega), if_pos h3.2]
    simp only [mlet_eq]
    have n : ∀ (i k : Nat), 5 ≤ i → i ≤ 9 → 5 ≤ k → k ≤ 9 → i ≠ k → b2 + i ≠ b + k := fun i k _ _ _ _ _ => by omega
    simp only [zup_ne (n 6 5 (by decide) (by decide) (by decide) (by decide) (by decide)), zup_ne (n 7 5 (by decide) (by decide) (by decide) (by decide) (by decide)), zup_ne (n 8 5 (by decide) (by decide) (by decide) (by decide) (by decide)), zup_ne (n 9 5 (by decide) (by decide) (by decide) (by decide) (by decide)), zup_ne (n 7 6 (by decide) (by decide) (by decide) (by decide) (by decide)), zup_ne (n 8 6 (by decide) (by decide) (by decide) (by decide) (by decide)), zup_ne (n 9 6 (by decide) (by decide) (by decide) (by decide) (by decide)), zup_ne (n 8 7 (by decide) (by decide) (by decide) (by decide) (by decide)), zup_ne (n 9 7 (by decide) (by decide) (by decide) (by decide) (by decide)), zup_ne (n 9 8 (by decide) (by decide) (by decide) (by decide) (by decide))]
    rw [gd_t hk]
  · rw [zup_ne (by omega), zup_ne (by omega), zup_ne (by omega), zup_ne (by omega), zup_ne (by omega)]
  · have e : i = 5 ∨ i = 6 ∨ i = 7 ∨ i = 8 ∨ i = 9 := by omega
    rcases e with rfl | rfl | rfl | rfl | rfl
    · rw [zup_ne (by omega), zup_ne (by omega), zup_ne (by omega), zup_ne (by omega), zup_at]
    · rw [zup_ne (by omega), zup_ne (by omega), zup_ne (by omega), zup_at, zup_ne (by omega)]
    · rw [zup_ne (by omega), zup_ne (by omega), zup_at, zup_ne (by omega), zup_ne (by omega)]
    · rw [zup_ne (by omega), zup_at, zup_ne (by omega), zup_ne (by omega), zup_ne (by omega)]
    · rw [zup_at, zup_ne (by omega), zup_ne (by omega), zup_ne (by omega), zup_ne (by omega)]
theorem X0_dropDependence_L20_eq {b : Nat} {m : Int} {k : MM → Option MM} (hm : m ≤ 15) : ∀ (n : Nat) (x : Int) (σ : MM), σ b 5 = m → (∀ i, 0 ≤ i → i < 16 → σ (b + 9) i = 0 ∨ σ (b + 9) i = 1) → 0 ≤ x → x ≤ m → m - x < n →
    ∃ σ' : MM, X0_dropDependence_L20 b k n x σ = k σ' ∧ (∀ j : Nat, ¬ (b + 5 ≤ j ∧ j ≤ b + 9) → σ' j = σ j) ∧ ∀ i : Nat, 5 ≤ i → i ≤ 9 → ∀ d, σ' (b + i) d = if x ≤ d ∧ d < m then σ (b + i) (d + 1) else σ (b + i) d := by
  intro n
  induction n with
  | zero => intro x σ h0 h1 h2 h3 h4; omega
  | succ n ih =>
    intro x σ h0 h1 h2 h3 h4
    rw [X0_dropDependence_L20, h0]
    by_cases c : x < m
    · obtain ⟨σ1, q1, q2, q3⟩ := X0_copyDependence_eq (σ := σ) (b := b) (b2 := b) (a2 := x + 1) (a3 := x) (Or.inl rfl) (by omega) (by omega) (h1 (x + 1) (by omega) (by omega))
      rw [if_pos c, q1, Option.bind_some]
      have hk1 : ∀ i, 0 ≤ i → i < 16 → σ1 (b + 9) i = 0 ∨ σ1 (b + 9) i = 1 := by
        intro i h5 h6
        rw [q3 9 (by decide) (by decide)]
        by_cases e : i = x
        · rw [if_pos e]; exact h1 (x + 1) (by omega) (by omega)
        · rw [if_neg e]; exact h1 i h5 h6
      obtain ⟨σ2, u1, u2, u3⟩ := ih (x + 1) σ1 (by rw [q2 b (by omega)]; exact h0) hk1 (by omega) (by omega) (by omega)
      refine ⟨σ2, u1, fun j hj => by rw [u2 j hj, q2 j hj], fun i h5 h9 d => ?_⟩
      rw [u3 i h5 h9, q3 i h5 h9, q3 i h5 h9]
      by_cases e : x + 1 ≤ d ∧ d < m
      · rw [if_pos e, if_neg (by omega), if_pos (by omega)]
      · rw [if_neg e]
        by_cases e2 : d = x
        · rw [if_pos e2, if_pos (by omega), e2]
        · rw [if_neg e2, if_neg (by omega)]
    · rw [if_neg c]
      exact ⟨σ, rfl, fun _ _ => rfl, fun i _ _ d => by rw [if_neg (by omega)]⟩
def rmv (g : Int → Int) (a : Int) : Int → Int := fun i => if 30 + 5 * a ≤ i ∧ i < 30 + 5 * (g 1 - 1) then g (i + 5) else if i = 1 then g 1 - 1 else g i
theorem X6_remove_L35_eq {m : Int} {k : MM → Option (Int × MM)} (hm : 0 ≤ m ∧ m ≤ 15) : ∀ (n : Nat) (x : Int) (σ : MM), σ 59 1 = m → 30 ≤ x → x ≤ 30 + 5 * m → 30 + 5 * m - x < n →
    ∃ σ' : MM, X6_remove_L35 k n x σ = k σ' ∧ (∀ j : Nat, j ≠ 59 → σ' j = σ j) ∧ ∀ i, σ' 59 i = if x ≤ i ∧ i < 30 + 5 * m then σ 59 (i + 5) else σ 59 i := by
  intro n
  induction n with
  | zero => intro x σ h0 h1 h2 h3; omega
  | succ n ih =>
    intro x σ h0 h1 h2 h3
    rw [X6_remove_L35, X6_at_eq (by omega) (by decide), Option.bind_some, h0]
    by_cases c : x < 30 + 5 * m + 0
    · rw [if_pos c, gd_t (by omega), gd_t (by omega), mlet_eq]
      obtain ⟨σ', q1, q2, q3⟩ := ih (x + 1) (zup σ 59 x (σ 59 (x + 5))) (by rw [zup_i (by omega)]; exact h0) (by omega) (by omega) (by omega)
      refine ⟨σ', q1, fun j hj => by rw [q2 j hj, zup_ne hj], fun i => ?_⟩
      rw [q3 i, zup_at, zup_at]
      by_cases e : x + 1 ≤ i ∧ i < 30 + 5 * m
      · rw [if_pos e, if_neg (by omega), if_pos (by omega)]
      · rw [if_neg e]
        by_cases e2 : i = x
        · rw [if_pos e2, if_pos (by omega), e2]
        · rw [if_neg e2, if_neg (by omega)]
    · rw [if_neg c]
      exact ⟨σ, rfl, fun _ _ => rfl, fun i => by rw [if_neg (by omega)]⟩
theorem op_remove {σ : MM} (h : ST σ) (a1 : Int) : OpX (X5_remove a1 σ) (X6_remove a1) kF := by
  have hI := h.1.1
  have hn := hI.1.1
  have hm := hI.1.2.1
  obtain ⟨r0, r1, r2, r3, r4⟩ := h.2.1
  by_cases c : 0 ≤ a1 ∧ a1 < σ 59 1
  · have hh : ∀ s : MM, X0_hasDependence 1 a1 σ = some 1 := fun _ => by rw [X0_hasDependence_eq, if_pos (by omega)]
    obtain ⟨σ1, q1, q2, q3⟩ := X0_dropDependence_L20_eq (b := 1) (m := σ 59 1 - 1) (k := fun σ14 => some σ14) (by omega) 100000 a1 (zup σ 1 5 (σ 59 1 - 1)) zup_s (fun i u1 u2 => by rw [zup_ne (by decide)]; exact h.2.2.1 i u1 u2) c.1 (by omega) (by omega)
    have kg : ∀ i : Int, i < 30 → i ≠ 1 → rmv (σ 59) a1 i = σ 59 i := fun i h1 h2 => by
      unfold rmv
      rw [if_neg (by omega), if_neg h2]
    have k1 : rmv (σ 59) a1 1 = σ 59 1 - 1 := by
      unfold rmv
      rw [if_neg (by omega), if_pos rfl]
    have kd : ∀ d w : Int, 0 ≤ d → d < σ 59 1 - 1 → 0 ≤ w → w ≤ 4 → rmv (σ 59) a1 (30 + 5 * d + w) = σ 59 (30 + 5 * (if a1 ≤ d ∧ d < σ 59 1 - 1 then d + 1 else d) + w) := by
      intro d w h1 h2 h3 h4
      unfold rmv
      by_cases e : a1 ≤ d ∧ d < σ 59 1 - 1
      · rw [if_pos (by omega), if_pos e]
        congr 1
        omega
      · rw [if_neg (by omega), if_neg (by omega), if_neg e]
    refine op_mutX (g' := rmv (σ 59) a1) (σ1 := σ1) (r := σ 59 1 - 1) rfl h ?_ (fun j hj => by rw [q2 j (by omega), zup_ne (by omega)]) ?_ ?_ ?_ (fun σ' hg => ?_)
    · unfold X5_remove X0_dropDependence
      rw [hh σ, Option.bind_some, if_neg (by decide), Option.bind_some, if_neg (by decide), r1, gd_t (by omega), mlet_eq, q1, Option.bind_some, q2 1 (by decide), zup_s]
    · refine sInv_keep h.1 (kg 0 (by omega) (by omega)) ?_ (fun s h1 h2 => ?_) (fun p h1 h2 => kg _ (by omega) (by omega)) (fun d h1 h2 => ?_)
      · rw [k1, kg 2 (by omega) (by omega), kg 3 (by omega) (by omega), kg 4 (by omega) (by omega), kg 5 (by omega) (by omega)]
        exact ⟨by omega, hI.1.2.2⟩
      · rw [kg (10 + s) (by omega) (by omega)]
        exact hI.2.1 s h1 h2
      · rw [k1] at h2
        have hb : 0 ≤ (if a1 ≤ d ∧ d < σ 59 1 - 1 then d + 1 else d) ∧ (if a1 ≤ d ∧ d < σ 59 1 - 1 then d + 1 else d) < σ 59 1 := by split <;> omega
        refine ⟨_, hb, kd d 0 h1 h2 (by decide) (by decide), kd d 1 h1 h2 (by decide) (by decide), kd d 2 h1 h2 (by decide) (by decide), kd d 3 h1 h2 (by decide) (by decide), ?_⟩
        rw [show sKp (rmv (σ 59) a1) d = _ from kd d 4 h1 h2 (by decide) (by decide)]
        exact (hI.2.2.2.2.2 _ hb.1 hb.2).2.2.2.2
    · refine ⟨by rw [kg 0 (by omega) (by omega), q2 1 (by decide), zup_i (by decide)]; exact r0, by rw [k1, q2 1 (by decide), zup_s], by rw [kg 2 (by omega) (by omega), kg 3 (by omega) (by omega), kg 4 (by omega) (by omega), kg 5 (by omega) (by omega), q2 (1 + 10) (by decide), zup_ne (by decide)]; exact r2, fun s h1 h2 => ?_, fun d h1 h2 => ?_⟩
      · rw [kg 0 (by omega) (by omega)] at h2
        obtain ⟨f1, f2, f3⟩ := r3 s h1 h2
        unfold sCost
        rw [kg (10 + s) (by omega) (by omega), kg (20 + s) (by omega) (by omega), plc_congr (fun p u1 u2 => kg _ (by omega) (by omega)), q2 (1 + 1) (by decide), q2 (1 + 2) (by decide), q2 (1 + 3) (by decide), zup_ne (by decide), zup_ne (by decide), zup_ne (by decide)]
        exact ⟨f1, f2, f3⟩
      · rw [k1] at h2
        have hb : 0 ≤ (if a1 ≤ d ∧ d < σ 59 1 - 1 then d + 1 else d) ∧ (if a1 ≤ d ∧ d < σ 59 1 - 1 then d + 1 else d) < σ 59 1 := by split <;> omega
        obtain ⟨f1, f2, f3, f4, f5⟩ := r4 _ hb.1 hb.2
        have z : ∀ i : Nat, 5 ≤ i → i ≤ 9 → σ1 (1 + i) d = σ (1 + i) (if a1 ≤ d ∧ d < σ 59 1 - 1 then d + 1 else d) := by
          intro i h5 h9
          rw [q3 i h5 h9, zup_ne (by omega)]
          split <;> rfl
        refine ⟨?_, ?_, ?_, ?_, ?_⟩
        · rw [z 5 (by decide) (by decide), show sKind (rmv (σ 59) a1) d = _ from kd d 0 h1 h2 (by decide) (by decide)]; exact f1
        · rw [z 6 (by decide) (by decide), show sSrc (rmv (σ 59) a1) d = _ from kd d 1 h1 h2 (by decide) (by decide)]; exact f2
        · rw [z 7 (by decide) (by decide), show sTgt (rmv (σ 59) a1) d = _ from kd d 2 h1 h2 (by decide) (by decide)]; exact f3
        · rw [z 8 (by decide) (by decide), show sFar (rmv (σ 59) a1) d = _ from kd d 3 h1 h2 (by decide) (by decide)]; exact f4
        · rw [z 9 (by decide) (by decide), show sKp (rmv (σ 59) a1) d = _ from kd d 4 h1 h2 (by decide) (by decide)]; exact f5
    · intro i h1 h2
      rw [q3 9 (by decide) (by decide), zup_ne (by decide)]
      split
      · exact h.2.2.1 (i + 1) (by omega) (by omega)
      · exact h.2.2.1 i h1 h2
    · obtain ⟨σ2, u1, u2, u3⟩ := X6_remove_L35_eq (m := σ 59 1 - 1) (k := fun σ24 => some (σ24 59 1, σ24)) (by omega) 100000 (30 + 5 * a1 + 0) (zup (zup σ' 58 3 0) 59 1 (σ 59 1 - 1)) zup_s (by omega) (by omega) (by omega)
      have e : σ2 59 = rmv (σ 59) a1 := by
        funext i
        rw [u3 i]
        unfold rmv
        rw [zup_at, zup_at, zup59, hg]
        by_cases e : 30 + 5 * a1 ≤ i ∧ i < 30 + 5 * (σ 59 1 - 1)
        · rw [if_pos (by omega), if_neg (by omega), if_pos e]
        · rw [if_neg (by omega), if_neg e]
      refine ⟨σ2, ?_, fun j hj => by rw [u2 j hj, zup_ne hj], e⟩
      unfold X6_remove
      rw [mlet_eq, X6_isDependence_eq (by rw [zup59, hg]; exact hm), zup59, hg, if_pos c, Option.bind_some, if_neg (by decide), gd_t (by omega), mlet_eq, X6_at_eq (by omega) (by decide), Option.bind_some, u1, e, k1]
  · refine opX_bad (xo := 3) h ?_ (by decide) (fun σ' h' hg => ?_)
    · unfold X5_remove
      rw [X0_hasDependence_eq, if_neg (by omega), Option.bind_some, if_pos rfl]
    · unfold X6_remove
      rw [mlet_eq, X6_isDependence_eq (by rw [zup59, hg]; exact hm), zup59, hg, if_neg c, Option.bind_some, if_pos rfl, X6_fails_eq]
      rfl
