theorem X5_eliminate_L21_eq {mode : Int} {k : Int → MM → Option (Int × Int × MM)} : ∀ (N : Nat) (n : Nat) (c x : Int) (g : Int → Int) (σ : MM), sInv g → sRL σ 1 g → sKB σ 1 → x = n → n < N → n ≤ 5 → 0 ≤ c ∧ c + 16 * n ≤ 5000 →
    ∃ σ' : MM, X5_eliminate_L21 mode k N c x σ = k (elA mode (g 1).toNat n (c, g)).1 σ' ∧ fr2 10 37 σ σ' ∧ sKB σ' 1 ∧ sRL σ' 1 (elA mode (g 1).toNat n (c, g)).2 ∧ sInv (elA mode (g 1).toNat n (c, g)).2 := by
  intro N
  induction N with
  | zero => intro n c x g σ hI hR hK h1 h2 h3 h4; omega
  | succ N ih =>
    intro n c x g σ hI hR hK h1 h2 h3 h4
    have hm := hI.1.1.2.1
    rw [X5_eliminate_L21]
    cases n with
    | zero =>
      rw [if_neg (by omega)]
      exact ⟨σ, rfl, fun _ _ _ => rfl, hK, hR, hI⟩
    | succ n =>
      have hx : x = (n : Int) + 1 := by omega
      subst hx
      rw [if_pos (by omega), hR.2.1, gd_t (by omega), elA]
      have key : ∀ M : Nat, (g 1).toNat < M → ∃ σ' : MM, X5_eliminate_L36 mode ((n : Int) + 1) (fun z22 σ23 => X5_eliminate_L21 mode k N z22 ((n : Int) + 1 + (-1)) σ23) M c (g 1 - 1) σ = k (elA mode (g 1).toNat n (elN mode ((n : Int) + 1) (g 1).toNat (c, g))).1 σ' ∧ fr2 10 37 σ σ' ∧ sKB σ' 1 ∧ sRL σ' 1 (elA mode (g 1).toNat n (elN mode ((n : Int) + 1) (g 1).toNat (c, g))).2 ∧ sInv (elA mode (g 1).toNat n (elN mode ((n : Int) + 1) (g 1).toNat (c, g))).2 := by
        intro M hM
        obtain ⟨σ1, q1, q2, q3, q4⟩ := X5_eliminate_L36_eq (mode := mode) (x := (n : Int) + 1) (k := fun z22 σ23 => X5_eliminate_L21 mode k N z22 ((n : Int) + 1 + (-1)) σ23) (by omega) M (g 1).toNat c (g 1 - 1) g σ hI hR hK (by omega) (by omega) hM (by omega)
        obtain ⟨i1, i2, i3, i4⟩ := elN_i (mode := mode) (x := (n : Int) + 1) (g 1).toNat (c, g) hI
        obtain ⟨σ2, u1, u2, u3, u4, u5⟩ := ih n (elN mode ((n : Int) + 1) (g 1).toNat (c, g)).1 ((n : Int) + 1 + (-1)) (elN mode ((n : Int) + 1) (g 1).toNat (c, g)).2 σ1 i1 q4 q3 (by omega) (by omega) (by omega) (by
          have : (c, g).1 = c := rfl
          omega)
        have e1 : (elN mode ((n : Int) + 1) (g 1).toNat (c, g)).2 1 = g 1 := i2
        rw [e1] at u1 u4 u5
        exact ⟨σ2, q1.trans u1, fun j a b => (u2 j a b).trans (q2 j a b), u3, u4, u5⟩
      obtain ⟨s1, q1, q2, q3, q4, q5⟩ := key 100000 (by omega)
      clear key ih
      exact ⟨s1, q1, q2, q3, q4, q5⟩
theorem X6_eliminate_L24_eq {mode : Int} {k : Int → MM → Option (Int × MM)} : ∀ (N : Nat) (n : Nat) (c x : Int) (σ : MM), sInv (σ 59) → x = n → n < N → n ≤ 5 → 0 ≤ c ∧ c + 16 * n ≤ 5000 →
    ∃ σ' : MM, X6_eliminate_L24 mode k N c x σ = k (elA mode (σ 59 1).toNat n (c, σ 59)).1 σ' ∧ fr2 59 62 σ σ' ∧ σ' 59 = (elA mode (σ 59 1).toNat n (c, σ 59)).2 := by
  intro N
  induction N with
  | zero => intro n c x σ hI h1 h2 h3 h4; omega
  | succ N ih =>
    intro n c x σ hI h1 h2 h3 h4
    have hm := hI.1.1.2.1
    rw [X6_eliminate_L24]
    cases n with
    | zero =>
      rw [if_neg (by omega)]
      exact ⟨σ, rfl, fun _ _ _ => rfl, rfl⟩
    | succ n =>
      have hx : x = (n : Int) + 1 := by omega
      subst hx
      rw [if_pos (by omega), gd_t (by omega), elA]
      have key : ∀ M : Nat, (σ 59 1).toNat < M → ∃ σ' : MM, X6_eliminate_L38 mode ((n : Int) + 1) (fun z34 σ35 => X6_eliminate_L24 mode k N z34 ((n : Int) + 1 + (-1)) σ35) M c (σ 59 1 - 1) σ = k (elA mode (σ 59 1).toNat n (elN mode ((n : Int) + 1) (σ 59 1).toNat (c, σ 59))).1 σ' ∧ fr2 59 62 σ σ' ∧ σ' 59 = (elA mode (σ 59 1).toNat n (elN mode ((n : Int) + 1) (σ 59 1).toNat (c, σ 59))).2 := by
        intro M hM
        obtain ⟨σ1, q1, q2, q3⟩ := X6_eliminate_L38_eq (mode := mode) (x := (n : Int) + 1) (k := fun z34 σ35 => X6_eliminate_L24 mode k N z34 ((n : Int) + 1 + (-1)) σ35) (by omega) M (σ 59 1).toNat c (σ 59 1 - 1) σ hI (by omega) (by omega) hM (by omega)
        obtain ⟨i1, i2, i3, i4⟩ := elN_i (mode := mode) (x := (n : Int) + 1) (σ 59 1).toNat (c, σ 59) hI
        obtain ⟨σ2, u1, u2, u3⟩ := ih n (elN mode ((n : Int) + 1) (σ 59 1).toNat (c, σ 59)).1 ((n : Int) + 1 + (-1)) σ1 (by rw [q3]; exact i1) (by omega) (by omega) (by omega) (by
          have : (c, σ 59).1 = c := rfl
          omega)
        have e1 : σ1 59 1 = σ 59 1 := by rw [q3]; exact i2
        rw [e1, q3] at u1 u3
        exact ⟨σ2, q1.trans u1, fun j a b => (u2 j a b).trans (q2 j a b), u3⟩
      obtain ⟨s1, q1, q2, q3⟩ := key 100000 (by omega)
      clear key ih
      exact ⟨s1, q1, q2, q3⟩
theorem op_eliminate {σ : MM} (h : ST σ) (a1 : Int) : OpX (X5_eliminate a1 σ) (X6_eliminate a1) kA := by
  have hI := h.1
  have hm := hI.1.1.2.1
  by_cases c : 0 ≤ a1 ∧ a1 ≤ 1
  · have cls : ∀ N : Nat, 5 < N → ∃ σ1 : MM, X5_eliminate_L21 a1 (fun z24 σ25 => some (0, z24, σ25)) N 0 5 σ = some (0, (elA a1 (σ 59 1).toNat 5 (0, σ 59)).1, σ1) ∧ fr2 10 37 σ σ1 ∧ sKB σ1 1 ∧ sRL σ1 1 (elA a1 (σ 59 1).toNat 5 (0, σ 59)).2 ∧ sInv (elA a1 (σ 59 1).toNat 5 (0, σ 59)).2 := fun N hN => X5_eliminate_L21_eq (mode := a1) (k := fun z24 σ25 => some (0, z24, σ25)) N 5 0 5 (σ 59) σ hI h.2.1 h.2.2.1 rfl hN (by omega) (by omega)
    have ref : ∀ (N : Nat) (σ' : MM), 5 < N → σ' 59 = σ 59 → ∃ σ2 : MM, X6_eliminate_L24 a1 (fun z36 σ37 => some (z36, σ37)) N 0 5 σ' = some ((elA a1 (σ 59 1).toNat 5 (0, σ 59)).1, σ2) ∧ fr2 59 62 σ' σ2 ∧ σ2 59 = (elA a1 (σ 59 1).toNat 5 (0, σ 59)).2 := by
      intro N σ' hN hg
      obtain ⟨σ2, q1, q2, q3⟩ := X6_eliminate_L24_eq (mode := a1) (k := fun z36 σ37 => some (z36, σ37)) N 5 0 5 σ' (by rw [hg]; exact hI) rfl hN (by omega) (by omega)
      rw [hg] at q1 q3
      exact ⟨σ2, q1, q2, q3⟩
    obtain ⟨σ1, q1, q2, q3, q4, q5⟩ := cls 100000 (by omega)
    generalize elA a1 (σ 59 1).toNat 5 (0, σ 59) = z at q1 q4 q5 ref
    refine ⟨0, z.1, σ1, ?_, Or.inl rfl, fun σ' hj => ?_⟩
    · unfold X5_eliminate
      rw [X5_isMode_eq, if_pos c, Option.bind_some, if_neg (by decide)]
      exact q1
    · obtain ⟨σ2, u1, u2, u3⟩ := ref 100000 (zup σ' 58 3 0) (by omega) (by rw [zup59, hj 59 (by decide), q2 59 (by decide) (by decide)])
      have o : ∀ j : Nat, j ≠ 58 → j ≠ 59 → j ≠ 62 → j ≠ 72 → σ2 j = σ1 j := fun j a b c d => by rw [u2 j b c, zup_ne a, hj j d]
      have o58 : ∀ i : Int, i ≠ 3 → σ2 58 i = σ 58 i := fun i a => by rw [u2 58 (by decide) (by decide), zup_i a, hj 58 (by decide), q2 58 (by decide) (by decide)]
      refine ⟨z.1, σ2, ?_, by rw [u2 58 (by decide) (by decide), zup_s]; rfl, fun _ => rfl, ?_, by rw [u2 72 (by decide) (by decide), zup_ne (by decide)]⟩
      · unfold X6_eliminate
        rw [mlet_eq, X6_in_eq, if_pos c, Option.bind_some, if_neg (by decide)]
        exact u1
      · refine h.mutE (fun j a => by rw [o j (by omega) (by omega) (by omega) (by omega), q2 j (by omega) (by omega)]) (by rw [o 34 (by decide) (by decide) (by decide) (by decide), q2 34 (by decide) (by decide)]) (o58 2 (by decide)) (o58 5 (by decide)) (o58 7 (by decide)) (by rw [u3]; exact q5) ?_ (fun i a b => by rw [o (1 + 9) (by decide) (by decide) (by decide) (by decide)]; exact q3 i a b)
        rw [u3]
        exact sRL_congr q4 (fun j a b => o _ (by omega) (by omega) (by omega) (by omega))
  · refine opX_bad (xo := 1) h ?_ (by decide) (fun σ' h' hg => ?_)
    · unfold X5_eliminate
      rw [X5_isMode_eq, if_neg c, Option.bind_some, if_pos rfl]
    · unfold X6_eliminate
      rw [mlet_eq, X6_in_eq, if_neg c, Option.bind_some, if_pos rfl, X6_fails_eq]
      rfl
