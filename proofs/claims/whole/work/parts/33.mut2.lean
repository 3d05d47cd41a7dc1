/-! keepAll -/
def kpAll (g : Int → Int) (lo : Int) : Int → Int := fun i => if 30 + 5 * lo + 4 ≤ i ∧ i < 30 + 5 * g 1 ∧ i % 5 = 4 then 1 else g i
theorem X5_keepAll_L4_eq {g : Int → Int} {k : Int → MM → Option (Int × MM)} (hm : 0 ≤ g 1 ∧ g 1 ≤ 16) (hkp : ∀ d, 0 ≤ d → d < g 1 → sKp g d = 0 ∨ sKp g d = 1) : ∀ (n : Nat) (x1 x2 : Int) (σ : MM), σ 1 5 = g 1 → (∀ d, x2 ≤ d → d < g 1 → σ 10 d = sKp g d) → 0 ≤ x2 → x2 ≤ g 1 → g 1 - x2 < n → 0 ≤ x1 ∧ x1 ≤ x2 →
    ∃ σ' : MM, X5_keepAll_L4 k n x1 x2 σ = k (fdI (fun d a => a + (1 - sKp g d)) x2 (g 1) x1) σ' ∧ (∀ j : Nat, j ≠ 10 → σ' j = σ j) ∧ ∀ d, σ' 10 d = if x2 ≤ d ∧ d < g 1 then 1 else σ 10 d := by
  intro n
  induction n with
  | zero => intro x1 x2 σ h0 h1 h2 h3 h4; omega
  | succ n ih =>
    intro x1 x2 σ h0 h1 h2 h3 h4 h5
    rw [X5_keepAll_L4, h0]
    by_cases c : x2 < g 1
    · rw [if_pos c, fdI_lt c, gd_t (by omega), h1 x2 (Int.le_refl _) c]
      by_cases c2 : sKp g x2 = 0
      · rw [if_pos c2, c2, mlet_eq, gd_t (by omega)]
        obtain ⟨σ', q1, q2, q3⟩ := ih (x1 + 1) (x2 + 1) (zup σ 10 x2 1) (by rw [zup_ne (by decide)]; exact h0) (fun d u1 u2 => by rw [zup_i (by omega)]; exact h1 d (by omega) u2) (by omega) (by omega) (by omega) (by omega)
        refine ⟨σ', q1, fun j hj => by rw [q2 j hj, zup_ne hj], fun d => ?_⟩
        rw [q3 d]
        by_cases e : d = x2
        · rw [if_neg (by omega), e, zup_s, if_pos ⟨Int.le_refl _, c⟩]
        · rw [zup_i e]
          by_cases e2 : x2 ≤ d ∧ d < g 1
          · rw [if_pos e2, if_pos (by omega)]
          · rw [if_neg e2, if_neg (by omega)]
      · have c3 : sKp g x2 = 1 := by have := hkp x2 h2 c; omega
        rw [if_neg c2, c3, show x1 + (1 - 1) = x1 by omega]
        obtain ⟨σ', q1, q2, q3⟩ := ih x1 (x2 + 1) σ h0 (fun d u1 u2 => h1 d (by omega) u2) (by omega) (by omega) (by omega) (by omega)
        refine ⟨σ', q1, q2, fun d => ?_⟩
        rw [q3 d]
        by_cases e : d = x2
        · rw [if_neg (by omega), e, if_pos ⟨Int.le_refl _, c⟩, h1 x2 (Int.le_refl _) c, c3]
        · by_cases e2 : x2 ≤ d ∧ d < g 1
          · rw [if_pos e2, if_pos (by omega)]
          · rw [if_neg e2, if_neg (by omega)]
    · rw [if_neg c, fdI_ge (by omega)]
      exact ⟨σ, rfl, fun _ _ => rfl, fun d => by rw [if_neg (by omega)]⟩
theorem X6_keepAll_L9_eq {m : Int} {k : Int → MM → Option (Int × MM)} (hm : 0 ≤ m ∧ m ≤ 16) : ∀ (n : Nat) (x1 x2 : Int) (σ : MM), σ 59 1 = m → (∀ d, x2 ≤ d → d < m → sKp (σ 59) d = 0 ∨ sKp (σ 59) d = 1) → 0 ≤ x2 → x2 ≤ m → m - x2 < n → 0 ≤ x1 ∧ x1 ≤ x2 →
    ∃ σ' : MM, X6_keepAll_L9 k n x1 x2 σ = k (fdI (fun d a => a + (1 - sKp (σ 59) d)) x2 m x1) σ' ∧ (∀ j : Nat, j ≠ 59 → σ' j = σ j) ∧ σ' 59 = kpAll (σ 59) x2 := by
  intro n
  induction n with
  | zero => intro x1 x2 σ h0 h1 h2 h3 h4; omega
  | succ n ih =>
    intro x1 x2 σ h0 h1 h2 h3 h4 h5
    rw [X6_keepAll_L9, h0]
    by_cases c : x2 < m
    · have c3 := h1 x2 (Int.le_refl _) c
      have e0 : sKp (σ 59) x2 = σ 59 (30 + 5 * x2 + 4) := rfl
      rw [if_pos c, fdI_lt c]
      simp only [X6_at_eq (show 0 ≤ x2 ∧ x2 < 16 by omega) (show (0 : Int) ≤ 4 ∧ (4 : Int) ≤ 4 by decide), Option.bind_some]
      rw [gd_t (by omega), gd_t (by omega), mlet_eq, gd_t (by omega)]
      obtain ⟨σ', q1, q2, q3⟩ := ih (x1 + (1 - sKp (σ 59) x2)) (x2 + 1) (zup σ 59 (30 + 5 * x2 + 4) 1) (by rw [zup_i (by omega)]; exact h0) (fun d u1 u2 => by unfold sKp; rw [zup_i (by omega)]; exact h1 d (by omega) u2) (by omega) (by omega) (by omega) (by omega)
      refine ⟨σ', ?_, fun j hj => by rw [q2 j hj, zup_ne hj], ?_⟩
      · refine Eq.trans q1 ?_
        congr 1
        refine fdI_congr (fun d a u1 u2 => ?_)
        show a + (1 - zup σ 59 (30 + 5 * x2 + 4) 1 59 (30 + 5 * d + 4)) = a + (1 - σ 59 (30 + 5 * d + 4))
        rw [zup_i (by omega)]
      · rw [q3]
        funext i
        unfold kpAll
        rw [zup_i (show (1 : Int) ≠ 30 + 5 * x2 + 4 by omega), h0]
        by_cases e : i = 30 + 5 * x2 + 4
        · rw [if_neg (by omega), e, zup_s, if_pos (by omega)]
        · rw [zup_i e]
          by_cases e2 : 30 + 5 * x2 + 4 ≤ i ∧ i < 30 + 5 * m ∧ i % 5 = 4
          · rw [if_pos e2, if_pos (by omega)]
          · rw [if_neg e2, if_neg (by omega)]
    · rw [if_neg c, fdI_ge (by omega)]
      refine ⟨σ, rfl, fun _ _ => rfl, ?_⟩
      funext i
      unfold kpAll
      rw [if_neg (by omega)]
theorem op_keepAll {σ : MM} (h : ST σ) : OpN (X5_keepAll σ) X6_keepAll := by
  have hI := h.1.1
  have hm := hI.1.2.1
  have hn := hI.1.1
  have hkp : ∀ d, 0 ≤ d → d < σ 59 1 → sKp (σ 59) d = 0 ∨ sKp (σ 59) d = 1 := fun d a b => (hI.2.2.2.2.2 d a b).2.2.2.2
  obtain ⟨r0, r1, r2, r3, r4⟩ := h.2.1
  obtain ⟨σ1, q1, q2, q3⟩ := X5_keepAll_L4_eq (g := σ 59) (k := fun z9 σ10 => some (z9, σ10)) hm hkp 100000 0 0 σ r1 (fun d a b => (r4 d a b).2.2.2.2) (by omega) (by omega) (by omega) (by omega)
  have kg : ∀ i : Int, ¬ (34 ≤ i ∧ i % 5 = 4) → kpAll (σ 59) 0 i = σ 59 i := fun i hi => if_neg (by omega)
  have kk : ∀ d, 0 ≤ d → d < σ 59 1 → sKp (kpAll (σ 59) 0) d = 1 := fun d a b => by
    unfold sKp kpAll
    rw [if_pos (by omega)]
  refine op_mutN (g' := kpAll (σ 59) 0) (σ1 := σ1) (r := fdI (fun d a => a + (1 - sKp (σ 59) d)) 0 (σ 59 1) 0) h ?_ (fun j hj => q2 j (by omega)) ?_ ?_ ?_ (fun σ' hg => ?_)
  · unfold X5_keepAll
    exact q1
  · refine sInv_keep h.1 (kg 0 (by omega)) ?_ (fun s h1 h2 => ?_) (fun p h1 h2 => kg _ (by omega)) (fun d h1 h2 => ?_)
    · rw [kg 1 (by omega), kg 2 (by omega), kg 3 (by omega), kg 4 (by omega), kg 5 (by omega)]
      exact hI.1.2
    · rw [kg (10 + s) (by omega)]
      exact hI.2.1 s h1 h2
    · rw [kg 1 (by omega)] at h2
      refine ⟨d, ⟨h1, h2⟩, ?_, ?_, ?_, ?_, Or.inr (kk d h1 h2)⟩
      · exact kg _ (by omega)
      · exact kg _ (by omega)
      · exact kg _ (by omega)
      · exact kg _ (by omega)
  · refine ⟨by rw [kg 0 (by omega), q2 1 (by decide)]; exact r0, by rw [kg 1 (by omega), q2 1 (by decide)]; exact r1, by rw [kg 2 (by omega), kg 3 (by omega), kg 4 (by omega), kg 5 (by omega), q2 (1 + 10) (by decide)]; exact r2, fun s h1 h2 => ?_, fun d h1 h2 => ?_⟩
    · rw [kg 0 (by omega)] at h2
      obtain ⟨f1, f2, f3⟩ := r3 s h1 h2
      unfold sCost
      rw [kg (10 + s) (by omega), kg (20 + s) (by omega), plc_congr (fun p u1 u2 => kg _ (by omega)), q2 (1 + 1) (by decide), q2 (1 + 2) (by decide), q2 (1 + 3) (by decide)]
      exact ⟨f1, f2, f3⟩
    · rw [kg 1 (by omega)] at h2
      obtain ⟨f1, f2, f3, f4, f5⟩ := r4 d h1 h2
      refine ⟨?_, ?_, ?_, ?_, ?_⟩
      · unfold sKind; rw [kg _ (by omega), q2 (1 + 5) (by decide)]; exact f1
      · unfold sSrc; rw [kg _ (by omega), q2 (1 + 6) (by decide)]; exact f2
      · unfold sTgt; rw [kg _ (by omega), q2 (1 + 7) (by decide)]; exact f3
      · unfold sFar; rw [kg _ (by omega), q2 (1 + 8) (by decide)]; exact f4
      · rw [kk d h1 h2]
        show σ1 10 d = 1
        rw [q3 d, if_pos ⟨h1, h2⟩]
  · intro i h1 h2
    show σ1 10 i = 0 ∨ σ1 10 i = 1
    rw [q3 i]
    have := h.2.2.1 i h1 h2
    split
    · exact Or.inr rfl
    · exact this
  · obtain ⟨σ2, u1, u2, u3⟩ := X6_keepAll_L9_eq (m := σ 59 1) (k := fun z17 σ18 => some (z17, σ18)) hm 100000 0 0 (zup σ' 58 3 0) (by rw [zup59, hg]) (fun d a b => by rw [zup59, hg]; exact hkp d a b) (by omega) (by omega) (by omega) (by omega)
    refine ⟨σ2, ?_, u2, by rw [u3, zup59, hg]⟩
    unfold X6_keepAll
    rw [mlet_eq]
    refine Eq.trans u1 ?_
    rw [zup59, hg]
/-! exchange -/
def sBnd (g : Int → Int) (x y d : Int) : Bool := decide (sFar g d = 0 ∧ sSrc g d = x ∧ sTgt g d = y)
theorem fndI_none {p : Int → Bool} {lo hi : Int} (h0 : 0 ≤ lo) (h : fndI p lo hi = -1) : ∀ d, lo ≤ d → d < hi → p d = false := by
  have key : ∀ (n : Nat) (lo : Int), 0 ≤ lo → fnd p n lo = -1 → ∀ d, lo ≤ d → d < lo + n → p d = false := by
    intro n
    induction n with
    | zero => intro lo h0 h d h1 h2; omega
    | succ n ih =>
      intro lo h0 h d h1 h2
      rw [fnd] at h
      by_cases c : p lo = true
      · rw [if_pos c] at h; omega
      · rw [if_neg c] at h
        by_cases e : d = lo
        · rw [e]; simpa using c
        · exact ih (lo + 1) (by omega) h d (by omega) (by omega)
  intro d h1 h2
  exact key (hi - lo).toNat lo h0 h d h1 (by omega)
theorem X0_isOrdered_L2_eq {σ : MM} {g : Int → Int} {x y : Int} (hI : sInv0 g) (hR : sRL σ 1 g) : ∀ (n : Nat) (d : Int), 0 ≤ d → d ≤ g 1 → g 1 - d < n → X0_isOrdered_L2 1 x y σ (some 0) n d = some (if fndI (sBnd g x y) d (g 1) = -1 then 0 else 1) := by
  have hm := hI.1.2.1
  intro n
  induction n with
  | zero => intro d h1 h2 h3; omega
  | succ n ih =>
    intro d h1 h2 h3
    rw [X0_isOrdered_L2, hR.2.1]
    by_cases c : d < g 1
    · obtain ⟨-, e6, e7, e8, -⟩ := hR.2.2.2.2 d h1 c
      rw [if_pos c, fndI_lt c, gd_t (by omega), e6, e7, e8]
      have hi := ih (d + 1) (by omega) (by omega) (by omega)
      by_cases c1 : sFar g d = 0
      · rw [if_pos c1]
        by_cases c2 : sSrc g d = x
        · rw [if_pos c2]
          by_cases c3 : sTgt g d = y
          · rw [if_pos c3, if_pos (show sBnd g x y d = true by simp [sBnd, c1, c2, c3]), if_neg (show ¬ d = -1 by omega)]
          · rw [if_neg c3, if_neg (show ¬ sBnd g x y d = true by simp [sBnd, c3]), hi]
        · rw [if_neg c2, if_neg (show ¬ sBnd g x y d = true by simp [sBnd, c2]), hi]
      · rw [if_neg c1, if_neg (show ¬ sBnd g x y d = true by simp [sBnd, c1]), hi]
    · rw [if_neg c, fndI_ge (by omega), if_pos rfl]
theorem X6_binds_L2_eq {σ : MM} {x y : Int} (hI : sInv0 (σ 59)) : ∀ (n : Nat) (d : Int), 0 ≤ d → d ≤ σ 59 1 → σ 59 1 - d < n → X6_binds_L2 x y σ (some 0) n d = some (if fndI (sBnd (σ 59) x y) d (σ 59 1) = -1 then 0 else 1) := by
  have hm := hI.1.2.1
  intro n
  induction n with
  | zero => intro d h1 h2 h3; omega
  | succ n ih =>
    intro d h1 h2 h3
    rw [X6_binds_L2]
    by_cases c : d < σ 59 1
    · rw [if_pos c, fndI_lt c]
      simp only [X6_far_eq (show 0 ≤ d ∧ d < 16 by omega), X6_source_eq (show 0 ≤ d ∧ d < 16 by omega), X6_target_eq (show 0 ≤ d ∧ d < 16 by omega), Option.bind_some]
      have hi := ih (d + 1) (by omega) (by omega) (by omega)
      by_cases c1 : sFar (σ 59) d = 0
      · rw [if_pos c1]
        by_cases c2 : sSrc (σ 59) d = x
        · rw [if_pos c2]
          by_cases c3 : sTgt (σ 59) d = y
          · rw [if_pos c3, if_pos (show sBnd (σ 59) x y d = true by simp [sBnd, c1, c2, c3]), if_neg (show ¬ d = -1 by omega)]
          · rw [if_neg c3, if_neg (show ¬ sBnd (σ 59) x y d = true by simp [sBnd, c3]), hi]
        · rw [if_neg c2, if_neg (show ¬ sBnd (σ 59) x y d = true by simp [sBnd, c2]), hi]
      · rw [if_neg c1, if_neg (show ¬ sBnd (σ 59) x y d = true by simp [sBnd, c1]), hi]
    · rw [if_neg c, fndI_ge (by omega), if_pos rfl]
