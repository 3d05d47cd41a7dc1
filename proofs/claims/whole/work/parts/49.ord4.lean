theorem sRL_ord {σ σ' : MM} {b : Nat} {g g' : Int → Int} (hI : sInv0 g) (hR : sRL σ b g) (hg : ∀ i : Int, i < 20 ∨ 28 ≤ i → g' i = g i) (hr : ∀ s : Int, 0 ≤ s → s < g 0 → σ' (b + 2) s = plc g' s ∧ σ' (b + 3) s = g' (20 + s)) (hσ : ∀ j : Nat, j < 11 → j ≠ 2 → j ≠ 3 → j ≠ 4 → σ' (b + j) = σ (b + j)) : sRL σ' b g' := by
  have hn := hI.1.1
  obtain ⟨r0, r1, r2, r3, r4⟩ := hR
  have z0 := hσ 0 (by decide) (by decide) (by decide) (by decide)
  have z5 := hσ 5 (by decide) (by decide) (by decide) (by decide)
  have z10 := hσ 10 (by decide) (by decide) (by decide) (by decide)
  refine ⟨?_, ?_, ?_, fun s u v => ?_, fun d u v => ?_⟩
  · rw [hg 0 (by omega), ← r0]
    exact congrFun z0 0
  · rw [hg 1 (by omega), ← r1]
    exact congrFun z0 5
  · rw [hg 2 (by omega), hg 3 (by omega), hg 4 (by omega), hg 5 (by omega), z10]
    exact r2
  · rw [hg 0 (by omega)] at v
    refine ⟨?_, hr s u v⟩
    rw [hσ 1 (by decide) (by decide) (by decide) (by decide), (r3 s u v).1]
    unfold sCost
    rw [hg _ (by omega)]
  · rw [hg 1 (by omega)] at v
    unfold sKind sSrc sTgt sFar sKp
    rw [z5, hσ 6 (by decide) (by decide) (by decide) (by decide), hσ 7 (by decide) (by decide) (by decide) (by decide), hσ 8 (by decide) (by decide) (by decide) (by decide), hσ 9 (by decide) (by decide) (by decide) (by decide), hg _ (by omega), hg _ (by omega), hg _ (by omega), hg _ (by omega), hg _ (by omega)]
    exact r4 d u v
theorem sOrd_o {g : Int → Int} {p : List Nat} {n : Nat} (hn : n ≤ 8) (hp : p.length = n) : ∀ i : Int, i < 20 ∨ 28 ≤ i → sOrd g p i = g i := fun i hi => sOrd_out (by omega)
theorem sOrd_at {g : Int → Int} {p : List Nat} {n k : Nat} (hp : p.length = n) (hk : k < n) : sOrd g p (20 + (k : Int)) = ((p.getD k 0 : Nat) : Int) := by
  rw [sOrd_in (by omega)]
  rfl
theorem sOrd_plc {g : Int → Int} {n : Nat} (hI : sInv0 g) (hn : g 0 = n) {p : List Nat} (hp : isP n p) {k : Nat} (hk : k < n) : plc (sOrd g p) ((p.getD k 0 : Nat) : Int) = k := by
  have hn8 := hI.1.1
  rw [← sOrd_at (g := g) hp.1 hk]
  exact plc_of (sOrd_inv hI hn hp) (by omega) (by rw [sOrd_o (by omega) hp.1 0 (by omega), hn]; omega)
theorem X0_place_eq {σ : MM} {b : Nat} {s i : Int} (hs : 0 ≤ s ∧ s < σ b 0) (hi : 0 ≤ i ∧ i < σ b 0) (hn : σ b 0 ≤ 8) : X0_place b s i σ = some (zup (zup σ (b + 3) i s) (b + 2) s i) := by
  unfold X0_place
  rw [X0_hasStatement_eq, if_pos hs, Option.bind_some, if_neg (by decide), X0_hasPosition_eq, if_pos hi, Option.bind_some, if_neg (by decide), gd_t (by omega), mlet_eq, gd_t (by omega), mlet_eq]
theorem X0_swap_eq {g : Int → Int} {n : Nat} (hI : sInv0 g) (hn : g 0 = n) {p : List Nat} (hp : isP n p) {i j : Nat} (hi : i < n) (hj : j < n) {σ : MM} (hR : sRL σ 39 (sOrd g p)) :
    ∃ σ' : MM, X0_swap 39 (i : Int) (j : Int) σ = some σ' ∧ (∀ k : Nat, k ≠ 41 → k ≠ 42 → σ' k = σ k) ∧ sRL σ' 39 (sOrd g (swL p i j)) := by
  have hn8 := hI.1.1
  have e0 : σ 39 0 = n := by rw [hR.1, sOrd_o (by omega) hp.1 0 (by omega), hn]
  have g0 : sOrd g p 0 = n := by rw [sOrd_o (by omega) hp.1 0 (by omega), hn]
  have o : ∀ k : Nat, k < n → σ (39 + 3) (k : Int) = ((p.getD k 0 : Nat) : Int) := fun k hk => by rw [(hR.2.2.2.1 k (by omega) (by rw [g0]; omega)).2.2, sOrd_at hp.1 hk]
  have hq := swL_isP hp hi hj
  have b1 := hp.2.1 i hi
  have b2 := hp.2.1 j hj
  unfold X0_swap
  rw [X0_statementAt_at (by omega), Option.bind_some, X0_statementAt_at (by omega), Option.bind_some, o i hi, o j hj, X0_place_eq (by rw [e0]; omega) (by rw [e0]; omega) (by omega), Option.bind_some, X0_place_eq (by rw [zup_ne (by decide), zup_ne (by decide), e0]; omega) (by rw [zup_ne (by decide), zup_ne (by decide), e0]; omega) (by rw [zup_ne (by decide), zup_ne (by decide), e0]; omega), Option.bind_some]
  refine ⟨_, rfl, fun k a b => by rw [zup_ne (by omega), zup_ne (by omega), zup_ne (by omega), zup_ne (by omega)], ?_⟩
  refine sRL_ord (sOrd_inv hI hn hp) hR (fun k hk => by rw [sOrd_o (by omega) hp.1 k hk, sOrd_o (by omega) hq.1 k hk]) (fun s u v => ?_) (fun k a b c d => by rw [zup_ne (by omega), zup_ne (by omega), zup_ne (by omega), zup_ne (by omega)])
  rw [g0] at v
  constructor
  · obtain ⟨k, k1, k2⟩ := hq.2.2.2 s.toNat (by omega)
    have es : s = (((swL p i j).getD k 0 : Nat) : Int) := by omega
    rw [es, sOrd_plc hI hn hq k1, ← es, zup_at, zup_ne (by decide), zup_at, zup_ne (by decide)]
    rw [swL_at (by rw [hp.1]; exact hi) (by rw [hp.1]; exact hj)] at k2
    by_cases c : k = j
    · rw [if_pos c] at k2
      rw [if_pos (by omega), c]
    · rw [if_neg c] at k2
      by_cases c2 : k = i
      · rw [if_pos c2] at k2
        have ne : ¬ s = ((p.getD i 0 : Nat) : Int) := fun q => by
          have := hp.2.2.1 j i hj hi (by omega)
          omega
        rw [if_neg ne, if_pos (by omega), c2]
      · rw [if_neg c2] at k2
        have n1 : ¬ s = ((p.getD i 0 : Nat) : Int) := fun q => c2 (hp.2.2.1 k i k1 hi (by omega))
        have n2 : ¬ s = ((p.getD j 0 : Nat) : Int) := fun q => c (hp.2.2.1 k j k1 hj (by omega))
        rw [if_neg n1, if_neg n2, (hR.2.2.2.1 s u (by rw [g0]; exact v)).2.1, show s = ((p.getD k 0 : Nat) : Int) by omega, sOrd_plc hI hn hp k1]
  · obtain ⟨k, rfl⟩ : ∃ k : Nat, s = k := ⟨s.toNat, by omega⟩
    rw [sOrd_at hq.1 (by omega), swL_at (by rw [hp.1]; exact hi) (by rw [hp.1]; exact hj), zup_ne (by decide), zup_at, zup_ne (by decide), zup_at]
    by_cases c : k = j
    · rw [if_pos (by omega), if_pos c]
    · rw [if_neg (by omega), if_neg c]
      by_cases c2 : k = i
      · rw [if_pos (by omega), if_pos c2]
      · rw [if_neg (by omega), if_neg c2, o k (by omega)]
theorem X1_advance_L14_eq {g : Int → Int} {n : Nat} (hI : sInv0 g) (hn : g 0 = n) {p : List Nat} (hp : isP n p) {σ : MM} (hR : sRL σ 39 (sOrd g p)) {y : Int} {kk : Int → MM → Option (Int × MM)} : ∀ (k N : Nat) (x : Int), k < N → (x < 0 ∧ k = 0 ∨ x + 1 = k) → (k + 1 ≤ n ∨ x < 0) → ∃ x' : Int, (x' < 0 ∧ nA p k = 0 ∨ x' + 1 = nA p k) ∧ X1_advance_L14 y kk N x σ = kk x' σ := by
  have hn8 := hI.1.1
  have g0 : sOrd g p 0 = n := by rw [sOrd_o (by omega) hp.1 0 (by omega), hn]
  have o : ∀ k : Nat, k < n → σ (39 + 3) (k : Int) = ((p.getD k 0 : Nat) : Int) := fun k hk => by rw [(hR.2.2.2.1 k (by omega) (by rw [g0]; omega)).2.2, sOrd_at hp.1 hk]
  intro k
  induction k with
  | zero =>
    intro N x h1 h2 h3
    obtain ⟨N, rfl⟩ : ∃ M, N = M + 1 := ⟨N - 1, by omega⟩
    exact ⟨x, Or.inl ⟨by omega, rfl⟩, by rw [X1_advance_L14, if_pos (by omega)]⟩
  | succ k ih =>
    intro N x h1 h2 h3
    obtain ⟨N, rfl⟩ : ∃ M, N = M + 1 := ⟨N - 1, by omega⟩
    have hx : x = k := by omega
    subst hx
    rw [X1_advance_L14, if_neg (by omega), X0_statementAt_at (by omega), Option.bind_some, gd_t (by omega), X0_statementAt_at (by omega), Option.bind_some, o k (by omega), show (k : Int) + 1 = ((k + 1 : Nat) : Int) by omega, o (k + 1) (by omega), nA]
    by_cases c : p.getD (k + 1) 0 < p.getD k 0
    · rw [if_pos c, if_pos (by omega)]
      exact ih N _ (by omega) (by omega) (by omega)
    · rw [if_neg c, if_neg (by omega)]
      exact ⟨k, Or.inr (by omega), rfl⟩
theorem X1_advance_L53_eq {g : Int → Int} {n : Nat} (hI : sInv0 g) (hn : g 0 = n) {p : List Nat} (hp : isP n p) {σ : MM} (hR : sRL σ 39 (sOrd g p)) {y : Int} {a : Nat} (ha : a < n) {kk : Int → MM → Option (Int × MM)} : ∀ (k N : Nat), k < N → k < n → X1_advance_L53 y (a : Int) kk N (k : Int) σ = kk ((nB p a k : Nat) : Int) σ := by
  have hn8 := hI.1.1
  have g0 : sOrd g p 0 = n := by rw [sOrd_o (by omega) hp.1 0 (by omega), hn]
  have o : ∀ k : Nat, k < n → σ (39 + 3) (k : Int) = ((p.getD k 0 : Nat) : Int) := fun k hk => by rw [(hR.2.2.2.1 k (by omega) (by rw [g0]; omega)).2.2, sOrd_at hp.1 hk]
  intro k
  induction k with
  | zero =>
    intro N h1 h2
    obtain ⟨N, rfl⟩ : ∃ M, N = M + 1 := ⟨N - 1, by omega⟩
    rw [X1_advance_L53, if_neg (by omega)]
    rfl
  | succ k ih =>
    intro N h1 h2
    obtain ⟨N, rfl⟩ : ∃ M, N = M + 1 := ⟨N - 1, by omega⟩
    rw [X1_advance_L53, nB]
    by_cases c : a < k + 1
    · rw [if_pos c, if_pos (by omega), X0_statementAt_at (by omega), Option.bind_some, X0_statementAt_at (by omega), Option.bind_some, o (k + 1) h2, o a ha]
      by_cases c2 : p.getD (k + 1) 0 < p.getD a 0
      · rw [if_pos c2, if_pos (by omega), show ((k + 1 : Nat) : Int) + -1 = (k : Int) by omega]
        exact ih N (by omega) (by omega)
      · rw [if_neg c2, if_neg (by omega)]
    · rw [if_neg c, if_neg (by omega)]
theorem X1_advance_L100_eq {g : Int → Int} {n : Nat} (hI : sInv0 g) (hn : g 0 = n) {kk : MM → Option (Int × MM)} : ∀ (f : Nat) (p : List Nat) (N lo hi : Nat) (σ : MM), isP n p → sRL σ 39 (sOrd g p) → hi < n → hi < lo + f → hi < lo + N → ∃ σ' : MM, X1_advance_L100 kk (N + 1) (lo : Int) (hi : Int) σ = kk σ' ∧ (∀ k : Nat, k ≠ 41 → k ≠ 42 → σ' k = σ k) ∧ sRL σ' 39 (sOrd g (nC f p lo hi)) := by
  have hn8 := hI.1.1
  intro f
  induction f with
  | zero =>
    intro p N lo hi σ hp hR h1 h2 h3
    rw [X1_advance_L100, if_neg (by omega)]
    exact ⟨σ, rfl, fun _ _ _ => rfl, hR⟩
  | succ f ih =>
    intro p N lo hi σ hp hR h1 h2 h3
    rw [X1_advance_L100, nC]
    by_cases c : lo < hi
    · obtain ⟨σ1, q1, q2, q3⟩ := X0_swap_eq hI hn hp (i := lo) (j := hi) (by omega) h1 hR
      obtain ⟨N, rfl⟩ : ∃ M, N = M + 1 := ⟨N - 1, by omega⟩
      obtain ⟨σ2, u1, u2, u3⟩ := ih (swL p lo hi) N (lo + 1) (hi - 1) σ1 (swL_isP hp (by omega) h1) q3 (by omega) (by omega) (by omega)
      rw [if_pos (by omega), q1, Option.bind_some, if_pos c, show (lo : Int) + 1 = ((lo + 1 : Nat) : Int) by omega, show (hi : Int) + -1 = ((hi - 1 : Nat) : Int) by omega]
      exact ⟨σ2, u1, fun k a b => (u2 k a b).trans (q2 k a b), u3⟩
    · rw [if_neg (by omega), if_neg c]
      exact ⟨σ, rfl, fun _ _ _ => rfl, hR⟩
