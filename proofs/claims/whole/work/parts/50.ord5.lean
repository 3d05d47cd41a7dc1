theorem X1_advance_eq {g : Int → Int} {n : Nat} (hI : sInv0 g) (hn : g 0 = n) {p : List Nat} (hp : isP n p) {σ : MM} (hR : sRL σ 39 (sOrd g p)) :
    (nxt n p = none → X1_advance σ = some (0, σ)) ∧ ∀ q, nxt n p = some q → ∃ σ' : MM, X1_advance σ = some (1, σ') ∧ (∀ k : Nat, k ≠ 41 → k ≠ 42 → σ' k = σ k) ∧ sRL σ' 39 (sOrd g q) := by
  have hn8 := hI.1.1
  have e0 : σ 39 0 = n := by rw [hR.1, sOrd_o (by omega) hp.1 0 (by omega), hn]
  have ha := nA_le p (n - 1)
  have hb := nB_le p (nA p (n - 1) - 1) (n - 1)
  have key : ∀ N1 N2 N3 : Nat, 8 < N1 → 8 < N2 → 8 < N3 → ∀ x' : Int, (x' < 0 ∧ nA p (n - 1) = 0 ∨ x' + 1 = nA p (n - 1)) →
      (nxt n p = none → (if x' < 0 then some (0, σ) else gd (inR ((n : Int) - 1)) <| gd (inR ((n : Int) - 1)) <| X1_advance_L53 ((n : Int) - 1) x' (fun z26 σ27 => (X0_swap 39 x' z26 σ27).bind fun σ30 => gd (inR (x' + 1)) <| gd (inR ((n : Int) - 1)) <| X1_advance_L100 (fun σ37 => some (1, σ37)) N3 (x' + 1) ((n : Int) - 1) σ30) N2 ((n : Int) - 1) σ) = some (0, σ)) ∧
      ∀ q, nxt n p = some q → ∃ σ' : MM, (if x' < 0 then some (0, σ) else gd (inR ((n : Int) - 1)) <| gd (inR ((n : Int) - 1)) <| X1_advance_L53 ((n : Int) - 1) x' (fun z26 σ27 => (X0_swap 39 x' z26 σ27).bind fun σ30 => gd (inR (x' + 1)) <| gd (inR ((n : Int) - 1)) <| X1_advance_L100 (fun σ37 => some (1, σ37)) N3 (x' + 1) ((n : Int) - 1) σ30) N2 ((n : Int) - 1) σ) = some (1, σ') ∧ (∀ k : Nat, k ≠ 41 → k ≠ 42 → σ' k = σ k) ∧ sRL σ' 39 (sOrd g q) := by
    intro N1 N2 N3 h1 h2 h3 x' hx
    constructor
    · intro h
      unfold nxt at h
      by_cases c : nA p (n - 1) = 0
      · rw [if_pos (by omega)]
      · rw [if_neg c] at h
        cases h
    · intro q h
      unfold nxt at h
      by_cases c : nA p (n - 1) = 0
      · rw [if_pos c] at h
        cases h
      · rw [if_neg c] at h
        cases h
        obtain ⟨a, ea⟩ : ∃ a : Nat, nA p (n - 1) = a + 1 := ⟨nA p (n - 1) - 1, by omega⟩
        rw [ea, Nat.add_sub_cancel] at hb ⊢
        have ex : x' = a := by omega
        subst ex
        rw [if_neg (by omega), gd_t (by omega), gd_t (by omega), show (n : Int) - 1 = ((n - 1 : Nat) : Int) by omega, X1_advance_L53_eq hI hn hp hR (a := a) (by omega) (n - 1) N2 (by omega) (by omega)]
        obtain ⟨σ1, q1, q2, q3⟩ := X0_swap_eq hI hn hp (i := a) (j := nB p a (n - 1)) (by omega) (by omega) hR
        have e1 : σ1 39 0 = n := by rw [q2 39 (by decide) (by decide)]; exact e0
        obtain ⟨N3, rfl⟩ : ∃ M, N3 = M + 1 := ⟨N3 - 1, by omega⟩
        obtain ⟨σ2, u1, u2, u3⟩ := X1_advance_L100_eq hI hn (kk := fun σ37 => some (1, σ37)) 8 (swL p a (nB p a (n - 1))) N3 (a + 1) (n - 1) σ1 (swL_isP hp (by omega) (by omega)) q3 (by omega) (by omega) (by omega)
        refine ⟨σ2, ?_, fun k a b => (u2 k a b).trans (q2 k a b), u3⟩
        show (X0_swap 39 (a : Int) ((nB p a (n - 1) : Nat) : Int) σ).bind _ = _
        rw [q1, Option.bind_some, gd_t (by omega), gd_t (by omega), show (a : Int) + 1 = ((a + 1 : Nat) : Int) by omega]
        exact u1
  have go : ∀ N1 N2 N3 : Nat, 8 < N1 → 8 < N2 → 8 < N3 → ∃ x' : Int, (x' < 0 ∧ nA p (n - 1) = 0 ∨ x' + 1 = nA p (n - 1)) ∧ X1_advance_L14 ((n : Int) - 1) (fun z13 σ14 => if z13 < 0 then some (0, σ14) else gd (inR ((n : Int) - 1)) <| gd (inR ((n : Int) - 1)) <| X1_advance_L53 ((n : Int) - 1) z13 (fun z26 σ27 => (X0_swap 39 z13 z26 σ27).bind fun σ30 => gd (inR (z13 + 1)) <| gd (inR ((n : Int) - 1)) <| X1_advance_L100 (fun σ37 => some (1, σ37)) N3 (z13 + 1) ((n : Int) - 1) σ30) N2 ((n : Int) - 1) σ14) N1 ((n : Int) - 1 - 1) σ = (if x' < 0 then some (0, σ) else gd (inR ((n : Int) - 1)) <| gd (inR ((n : Int) - 1)) <| X1_advance_L53 ((n : Int) - 1) x' (fun z26 σ27 => (X0_swap 39 x' z26 σ27).bind fun σ30 => gd (inR (x' + 1)) <| gd (inR ((n : Int) - 1)) <| X1_advance_L100 (fun σ37 => some (1, σ37)) N3 (x' + 1) ((n : Int) - 1) σ30) N2 ((n : Int) - 1) σ) := by
    intro N1 N2 N3 h1 h2 h3
    obtain ⟨x', q1, q2⟩ := X1_advance_L14_eq hI hn hp hR (y := (n : Int) - 1) (kk := fun z13 σ14 => if z13 < 0 then some (0, σ14) else gd (inR ((n : Int) - 1)) <| gd (inR ((n : Int) - 1)) <| X1_advance_L53 ((n : Int) - 1) z13 (fun z26 σ27 => (X0_swap 39 z13 z26 σ27).bind fun σ30 => gd (inR (z13 + 1)) <| gd (inR ((n : Int) - 1)) <| X1_advance_L100 (fun σ37 => some (1, σ37)) N3 (z13 + 1) ((n : Int) - 1) σ30) N2 ((n : Int) - 1) σ14) (n - 1) N1 ((n : Int) - 1 - 1) (by omega) (by omega) (by omega)
    exact ⟨x', q1, q2⟩
  have un : ∃ N1 N2 N3 : Nat, 8 < N1 ∧ 8 < N2 ∧ 8 < N3 ∧ X1_advance σ = X1_advance_L14 ((n : Int) - 1) (fun z13 σ14 => if z13 < 0 then some (0, σ14) else gd (inR ((n : Int) - 1)) <| gd (inR ((n : Int) - 1)) <| X1_advance_L53 ((n : Int) - 1) z13 (fun z26 σ27 => (X0_swap 39 z13 z26 σ27).bind fun σ30 => gd (inR (z13 + 1)) <| gd (inR ((n : Int) - 1)) <| X1_advance_L100 (fun σ37 => some (1, σ37)) N3 (z13 + 1) ((n : Int) - 1) σ30) N2 ((n : Int) - 1) σ14) N1 ((n : Int) - 1 - 1) σ := by
    refine ⟨100000, 100000, 100000, by omega, by omega, by omega, ?_⟩
    unfold X1_advance
    rw [gd_t (by omega), gd_t (by omega), e0]
  obtain ⟨N1, N2, N3, h1, h2, h3, hu⟩ := un
  obtain ⟨x', hx, hg⟩ := go N1 N2 N3 h1 h2 h3
  rw [hu, hg]
  exact key N1 N2 N3 h1 h2 h3 x' hx
/-- the class's best so far -/
def cS (n : Nat) (a : Int × List Nat) (σ : MM) : Prop := σ 38 2 = a.1 ∧ cHold σ 50 n a
theorem X1_consider_L43_eq {n : Nat} (hn : n ≤ 8) {k : MM → Option MM} : ∀ (N : Nat) (x : Int) (σ : MM), σ 39 0 = n → 0 ≤ x → x ≤ n → n - x < N →
    ∃ σ' : MM, X1_consider_L43 k N x σ = k σ' ∧ (∀ j : Nat, j ≠ 50 → σ' j = σ j) ∧ ∀ i : Int, 0 ≤ i → i < n → σ' 50 i = if x ≤ i then σ 42 i else σ 50 i := by
  intro N
  induction N with
  | zero => intro x σ h0 h1 h2 h3; omega
  | succ N ih =>
    intro x σ h0 h1 h2 h3
    rw [X1_consider_L43]
    by_cases c : x < σ 39 0
    · rw [if_pos c, gd_t (by omega), mlet_eq]
      obtain ⟨σ', q1, q2, q3⟩ := ih (x + 1) (zup σ 50 x (σ 42 x)) (by rw [zup_ne (by decide)]; exact h0) (by omega) (by omega) (by omega)
      refine ⟨σ', q1, fun j hj => by rw [q2 j hj, zup_ne hj], fun i a b => ?_⟩
      rw [q3 i a b, zup_ne (by decide), zup_at]
      by_cases e : i = x
      · rw [if_neg (by omega), if_pos e, if_pos (by omega), e]
      · rw [if_neg e]
        by_cases e2 : x ≤ i
        · rw [if_pos (by omega), if_pos e2]
        · rw [if_neg (by omega), if_neg e2]
    · rw [if_neg c]
      exact ⟨σ, rfl, fun _ _ => rfl, fun i a b => by rw [if_neg (by omega)]⟩
theorem X1_consider_eq {g : Int → Int} {n : Nat} (hI : sInv0 g) (hn : g 0 = n) {p : List Nat} (hp : isP n p) {σ : MM} (hR : sRL σ 39 (sOrd g p)) {a : Int × List Nat} (hS : cS n a σ) :
    ∃ σ' : MM, X1_consider σ = some σ' ∧ (∀ k : Nat, k ≠ 38 → k ≠ 43 → k ≠ 50 → σ' k = σ k) ∧ cS n (con g a p) σ' := by
  have hn8 := hI.1.1
  have hI' := sOrd_inv hI hn hp
  have hb := sDel_b hI' (-1)
  obtain ⟨s1, s2, s3⟩ := hS
  unfold X1_consider
  rw [X0_isLegalOrder_eq hI' hR, Option.bind_some]
  by_cases c : sAl (sOrd g p)
  · obtain ⟨σ1, q1, q2⟩ := X0_delayWithout_eq hI' hR (-1)
    rw [if_pos c, if_neg (by decide), q1, Option.bind_some]
    dsimp only
    have e38 : σ1 38 2 = a.1 := by rw [q2 38 (by decide)]; exact s1
    have e0 : σ1 39 0 = n := by rw [q2 39 (by decide), hR.1, sOrd_o (by omega) hp.1 0 (by omega), hn]
    have copy : ∀ M : Nat, 8 < M → ∃ σ' : MM, X1_consider_L43 (fun σ19 => some σ19) M 0 (zup σ1 38 2 (sDel (sOrd g p) (-1))) = some σ' ∧ (∀ k : Nat, k ≠ 38 → k ≠ 43 → k ≠ 50 → σ' k = σ k) ∧ cS n (sDel (sOrd g p) (-1), p) σ' := by
      intro M hM
      obtain ⟨σ', u1, u2, u3⟩ := X1_consider_L43_eq (n := n) (by omega) (k := fun σ19 => some σ19) M 0 (zup σ1 38 2 (sDel (sOrd g p) (-1))) (by rw [zup_ne (by decide)]; exact e0) (by omega) (by omega) (by omega)
      refine ⟨σ', u1, fun k a b c => by rw [u2 k c, zup_ne a, q2 k b], by rw [u2 38 (by decide), zup_s], Or.inr hb, fun _ i x y => ?_⟩
      rw [u3 i x y, if_pos x, zup_ne (by decide), q2 42 (by decide)]
      obtain ⟨k, rfl⟩ : ∃ k : Nat, i = k := ⟨i.toNat, by omega⟩
      rw [show σ 42 (k : Int) = sOrd g p (20 + (k : Int)) from (hR.2.2.2.1 k x (by rw [sOrd_o (by omega) hp.1 0 (by omega), hn]; exact y)).2.2, sOrd_at hp.1 (by omega)]
      rfl
    rw [e38]
    by_cases c1 : a.1 = -1
    · rw [if_pos c1, mlet_eq, show con g a p = (sDel (sOrd g p) (-1), p) from if_pos ⟨c, Or.inl (by omega)⟩]
      exact copy 100000 (by omega)
    · rw [if_neg c1]
      by_cases c2 : sDel (sOrd g p) (-1) < a.1
      · rw [if_pos c2, mlet_eq, show con g a p = (sDel (sOrd g p) (-1), p) from if_pos ⟨c, Or.inr c2⟩]
        exact copy 100000 (by omega)
      · rw [if_neg c2, show con g a p = a from if_neg (fun q => q.2.elim (fun q => by omega) c2)]
        exact ⟨σ1, rfl, fun k a b c => q2 k b, e38, s2, by rw [q2 50 (by decide)]; exact s3⟩
  · rw [if_neg c, if_pos rfl, show con g a p = a from if_neg (fun q => c q.1)]
    exact ⟨σ, rfl, fun _ _ _ _ => rfl, s1, s2, s3⟩
theorem X1_search_L45_eq {g : Int → Int} {n : Nat} (hI : sInv0 g) (hn : g 0 = n) {b : Nat} {kk : MM → Option MM} : ∀ (m N : Nat) (x : Int) (p : List Nat) (σ : MM) (a : Int × List Nat), m < N → x + m = 720 → isP n p → sRL σ 39 (sOrd g p) → cS n a σ →
    ∃ σ' : MM, X1_search_L45 b kk N 1 x σ = kk σ' ∧ (∀ k : Nat, ¬ (38 ≤ k ∧ k ≤ 50) → σ' k = σ k) ∧ cS n ((itr n m p).foldl (con g) a) σ' := by
  intro m
  induction m with
  | zero =>
    intro N x p σ a h1 h2 hp hR hS
    obtain ⟨N, rfl⟩ : ∃ M, N = M + 1 := ⟨N - 1, by omega⟩
    rw [X1_search_L45, if_neg (by decide), if_neg (by omega)]
    exact ⟨σ, rfl, fun _ _ => rfl, hS⟩
  | succ m ih =>
    intro N x p σ a h1 h2 hp hR hS
    obtain ⟨N, rfl⟩ : ∃ M, N = M + 1 := ⟨N - 1, by omega⟩
    obtain ⟨σ1, q1, q2, q3⟩ := X1_consider_eq hI hn hp hR hS
    have hR1 : sRL σ1 39 (sOrd g p) := sRL_congr hR (fun j a b => q2 _ (by omega) (by omega) (by omega))
    obtain ⟨v1, v2⟩ := X1_advance_eq hI hn hp hR1
    rw [X1_search_L45, if_neg (by decide), if_pos (by omega), q1, Option.bind_some, itr, List.foldl_cons]
    cases e : nxt n p with
    | none =>
      obtain ⟨N, rfl⟩ : ∃ M, N = M + 1 := ⟨N - 1, by omega⟩
      rw [v1 e, Option.bind_some]
      dsimp only
      rw [X1_search_L45, if_pos rfl]
      exact ⟨σ1, rfl, fun k hk => q2 k (by omega) (by omega) (by omega), q3⟩
    | some q =>
      obtain ⟨σ2, u1, u2, u3⟩ := v2 q e
      obtain ⟨σ3, w1, w2, w3⟩ := ih N (x + 1) q σ2 (con g a p) (by omega) (by omega) (nxt_isP hp e) u3 ⟨by rw [u2 38 (by decide) (by decide)]; exact q3.1, q3.2.1, by rw [u2 50 (by decide) (by decide)]; exact q3.2.2⟩
      rw [u1, Option.bind_some]
      exact ⟨σ3, w1, fun k hk => by rw [w2 k hk, u2 k (by omega) (by omega), q2 k (by omega) (by omega) (by omega)], w3⟩
