/-! eliminate -/
def elStep (mode x : Int) (d : Int) (a : Int × (Int → Int)) : Int × (Int → Int) :=
  if sFar a.2 d = x ∧ ¬ sSig a.2 d = 0 ∧ ¬ sLead a.2 d mode < sLag a.2 d then (a.1 + 1, gup a.2 (30 + 5 * d + 4) 0) else a
def elN (mode x : Int) : Nat → Int × (Int → Int) → Int × (Int → Int)
  | 0, a => a
  | n + 1, a => elN mode x n (elStep mode x (n : Int) a)
def elA (mode : Int) (m : Nat) : Nat → Int × (Int → Int) → Int × (Int → Int)
  | 0, a => a
  | n + 1, a => elA mode m n (elN mode ((n : Int) + 1) m a)
def elI (g g' : Int → Int) : Prop := sInv g → sInv g' ∧ g' 0 = g 0 ∧ g' 1 = g 1
theorem kp0_inv {g : Int → Int} (hI : sInv g) {d : Int} (h : 0 ≤ d) : sInv (gup g (30 + 5 * d + 4) 0) := by
  have hn := hI.1.1.1
  have k : ∀ i : Int, i ≠ 30 + 5 * d + 4 → gup g (30 + 5 * d + 4) 0 i = g i := fun i hi => gup_n hi
  refine sInv_keep hI (k 0 (by omega)) ?_ (fun s h1 h2 => by rw [k _ (by omega)]; exact hI.1.2.1 s h1 h2) (fun p h1 h2 => k _ (by omega)) (fun e h1 h2 => ?_)
  · rw [k 1 (by omega), k 2 (by omega), k 3 (by omega), k 4 (by omega), k 5 (by omega)]
    exact hI.1.1.2
  · rw [k 1 (by omega)] at h2
    refine ⟨e, ⟨h1, h2⟩, k _ (by omega), k _ (by omega), k _ (by omega), k _ (by omega), ?_⟩
    by_cases ed : e = d
    · left
      unfold sKp
      rw [ed, gup_s]
    · unfold sKp
      rw [k _ (by omega)]
      exact (hI.1.2.2.2.2.2 e h1 h2).2.2.2.2
theorem kp0_rl {σ : MM} {g : Int → Int} (hI : sInv g) (hR : sRL σ 1 g) {d : Int} (h : 0 ≤ d) : sRL (zup σ 10 d 0) 1 (gup g (30 + 5 * d + 4) 0) := by
  have hn := hI.1.1.1
  have k : ∀ i : Int, i ≠ 30 + 5 * d + 4 → gup g (30 + 5 * d + 4) 0 i = g i := fun i hi => gup_n hi
  obtain ⟨r0, r1, r2, r3, r4⟩ := hR
  refine ⟨by rw [k 0 (by omega), zup_ne (by decide)]; exact r0, by rw [k 1 (by omega), zup_ne (by decide)]; exact r1, by rw [k 2 (by omega), k 3 (by omega), k 4 (by omega), k 5 (by omega), zup_ne (by decide)]; exact r2, fun s h1 h2 => ?_, fun e h1 h2 => ?_⟩
  · rw [k 0 (by omega)] at h2
    obtain ⟨f1, f2, f3⟩ := r3 s h1 h2
    unfold sCost
    rw [k (10 + s) (by omega), k (20 + s) (by omega), plc_congr (fun p u1 u2 => k _ (by omega)), zup_ne (by decide), zup_ne (by decide), zup_ne (by decide)]
    exact ⟨f1, f2, f3⟩
  · rw [k 1 (by omega)] at h2
    obtain ⟨f1, f2, f3, f4, f5⟩ := r4 e h1 h2
    refine ⟨?_, ?_, ?_, ?_, ?_⟩
    · unfold sKind; rw [k _ (by omega), zup_ne (by decide)]; exact f1
    · unfold sSrc; rw [k _ (by omega), zup_ne (by decide)]; exact f2
    · unfold sTgt; rw [k _ (by omega), zup_ne (by decide)]; exact f3
    · unfold sFar; rw [k _ (by omega), zup_ne (by decide)]; exact f4
    · show zup σ 10 d 0 10 e = gup g (30 + 5 * d + 4) 0 (30 + 5 * e + 4)
      by_cases ed : e = d
      · rw [ed, zup_s, gup_s]
      · rw [zup_i ed, gup_n (by omega)]
        exact f5
theorem elStep_i {mode x d : Int} (hd : 0 ≤ d) {a : Int × (Int → Int)} (hI : sInv a.2) : sInv (elStep mode x d a).2 ∧ (elStep mode x d a).2 1 = a.2 1 ∧ a.1 ≤ (elStep mode x d a).1 ∧ (elStep mode x d a).1 ≤ a.1 + 1 := by
  unfold elStep
  split
  · exact ⟨kp0_inv hI hd, gup_n (by omega), by show a.1 ≤ a.1 + 1; omega, Int.le_refl _⟩
  · exact ⟨hI, rfl, Int.le_refl _, by omega⟩
theorem elN_i {mode x : Int} : ∀ (n : Nat) (a : Int × (Int → Int)), sInv a.2 → sInv (elN mode x n a).2 ∧ (elN mode x n a).2 1 = a.2 1 ∧ a.1 ≤ (elN mode x n a).1 ∧ (elN mode x n a).1 ≤ a.1 + n := by
  intro n
  induction n with
  | zero => intro a h; exact ⟨h, rfl, Int.le_refl _, by show a.1 ≤ a.1 + ((0 : Nat) : Int); omega⟩
  | succ n ih =>
    intro a h
    obtain ⟨i1, i2, i3, i4⟩ := elStep_i (mode := mode) (x := x) (d := (n : Int)) (by omega) h
    obtain ⟨j1, j2, j3, j4⟩ := ih _ i1
    rw [elN]
    exact ⟨j1, by rw [j2, i2], by omega, by omega⟩
def fr2 (a b : Nat) (σ σ' : MM) : Prop := ∀ j : Nat, j ≠ a → j ≠ b → σ' j = σ j
theorem X5_eliminate_L36_eq {mode x : Int} {k : Int → MM → Option (Int × Int × MM)} (hx : 0 < x) : ∀ (N : Nat) (n : Nat) (c d : Int) (g : Int → Int) (σ : MM), sInv g → sRL σ 1 g → sKB σ 1 → d + 1 = n → d < g 1 → n < N → 0 ≤ c ∧ c + n ≤ 10000 →
    ∃ σ' : MM, X5_eliminate_L36 mode x k N c d σ = k (elN mode x n (c, g)).1 σ' ∧ fr2 10 37 σ σ' ∧ sKB σ' 1 ∧ sRL σ' 1 (elN mode x n (c, g)).2 := by
  intro N
  induction N with
  | zero => intro n c d g σ hI hR hK h1 h2 h3 h4; omega
  | succ N ih =>
    intro n c d g σ hI hR hK h1 h2 h3 h4
    have hm := hI.1.1.2.1
    rw [X5_eliminate_L36]
    cases n with
    | zero =>
      rw [if_pos (by omega)]
      exact ⟨σ, rfl, fun _ _ _ => rfl, hK, hR⟩
    | succ n =>
      have hd : d = (n : Int) := by omega
      subst hd
      obtain ⟨-, -, -, e8, e9⟩ := hR.2.2.2.2 (n : Int) (by omega) h2
      have e8' : σ 9 (n : Int) = sFar g (n : Int) := e8
      have e9' : σ 10 (n : Int) = sKp g (n : Int) := e9
      have hkp := (hI.1.2.2.2.2.2 (n : Int) (by omega) h2).2.2.2.2
      rw [if_neg (by omega), gd_t (by omega), e8', elN]
      have skip : ∀ σ1 : MM, sRL σ1 1 g → sKB σ1 1 → fr2 10 37 σ σ1 → elStep mode x (n : Int) (c, g) = (c, g) → ∃ σ' : MM, X5_eliminate_L36 mode x k N c ((n : Int) + -1) σ1 = k (elN mode x n (elStep mode x (n : Int) (c, g))).1 σ' ∧ fr2 10 37 σ σ' ∧ sKB σ' 1 ∧ sRL σ' 1 (elN mode x n (elStep mode x (n : Int) (c, g))).2 := by
        intro σ1 hR1 hK1 hf e
        rw [e]
        obtain ⟨σ', q1, q2, q3, q4⟩ := ih n c ((n : Int) + -1) g σ1 hI hR1 hK1 (by omega) (by omega) (by omega) (by omega)
        exact ⟨σ', q1, fun j a b => (q2 j a b).trans (hf j a b), q3, q4⟩
      by_cases c1 : sFar g (n : Int) = x
      · rw [if_pos c1, e9']
        by_cases c2 : sKp g (n : Int) = 0
        · rw [if_pos c2]
          refine skip σ hR hK (fun _ _ _ => rfl) (if_neg (fun q => q.2.1 ?_))
          show sSig g (n : Int) = 0
          unfold sSig
          rw [if_neg (by omega)]
        · have hs : ¬ sSig g (n : Int) = 0 := by
            unfold sSig
            rw [if_pos (by omega)]
            decide
          rw [if_neg c2]
          obtain ⟨σ1, q1, q2⟩ := X2_lead (mode := mode) hI.1 hR (show 0 ≤ (n : Int) by omega) h2
          have hR1 := q2.rl hR
          have hK1 : sKB σ1 1 := fun i a b => by rw [q2 (1 + 9) (by decide)]; exact hK i a b
          have hl := X0_lagOf_eq hI.1 hR1 (show 0 ≤ (n : Int) by omega) h2
          by_cases c3 : sLead g (n : Int) mode < sLag g (n : Int)
          · have himp : X5_isImplied (n : Int) mode σ = some (0, σ1) := by
              unfold X5_isImplied
              rw [q1]
              show (X0_lagOf 1 (n : Int) σ1).bind (fun r5 => if sLead g (n : Int) mode < r5 then some (0, σ1) else some (1, σ1)) = _
              rw [hl, Option.bind_some, if_pos c3]
            rw [himp]
            rw [Option.bind_some]
            dsimp only
            rw [if_pos rfl]
            exact skip σ1 hR1 hK1 (fun j a b => q2 j b) (if_neg (fun q => q.2.2 c3))
          · have himp : X5_isImplied (n : Int) mode σ = some (1, σ1) := by
              unfold X5_isImplied
              rw [q1]
              show (X0_lagOf 1 (n : Int) σ1).bind (fun r5 => if sLead g (n : Int) mode < r5 then some (0, σ1) else some (1, σ1)) = _
              rw [hl, Option.bind_some, if_neg c3]
            have est : elStep mode x (n : Int) (c, g) = (c + 1, gup g (30 + 5 * (n : Int) + 4) 0) := if_pos ⟨c1, hs, c3⟩
            rw [himp, est]
            obtain ⟨σ2, u1, u2, u3, u4⟩ := ih n (c + 1) ((n : Int) + -1) (gup g (30 + 5 * (n : Int) + 4) 0) (zup σ1 10 (n : Int) 0) (kp0_inv hI (by omega)) (kp0_rl hI hR1 (by omega)) (fun i a b => by
              show zup σ1 10 (n : Int) 0 10 i = 0 ∨ zup σ1 10 (n : Int) 0 10 i = 1
              rw [zup_at]
              split
              · exact Or.inl rfl
              · exact hK1 i a b) (by omega) (by rw [gup_n (by omega)]; omega) (by omega) (by omega)
            refine ⟨σ2, ?_, fun j a b => by rw [u2 j a b, zup_ne a, q2 j b], u3, u4⟩
            show (if (1 : Int) = 0 then X5_eliminate_L36 mode x k N c ((n : Int) + (-1)) σ1 else mlet (zup σ1 10 (n : Int) 0) fun σ18 => gd (inR (c + 1)) <| X5_eliminate_L36 mode x k N (c + 1) ((n : Int) + (-1)) σ18) = _
            rw [if_neg (by decide), mlet_eq, gd_t (by omega)]
            exact u1
      · rw [if_neg c1]
        exact skip σ hR hK (fun _ _ _ => rfl) (if_neg (fun q => c1 q.1))
theorem X6_eliminate_L38_eq {mode x : Int} {k : Int → MM → Option (Int × MM)} (hx : 0 < x) : ∀ (N : Nat) (n : Nat) (c d : Int) (σ : MM), sInv (σ 59) → d + 1 = n → d < σ 59 1 → n < N → 0 ≤ c ∧ c + n ≤ 10000 →
    ∃ σ' : MM, X6_eliminate_L38 mode x k N c d σ = k (elN mode x n (c, σ 59)).1 σ' ∧ fr2 59 62 σ σ' ∧ σ' 59 = (elN mode x n (c, σ 59)).2 := by
  intro N
  induction N with
  | zero => intro n c d σ hI h1 h2 h3 h4; omega
  | succ N ih =>
    intro n c d σ hI h1 h2 h3 h4
    have hm := hI.1.1.2.1
    rw [X6_eliminate_L38]
    cases n with
    | zero =>
      rw [if_pos (by omega)]
      exact ⟨σ, rfl, fun _ _ _ => rfl, rfl⟩
    | succ n =>
      have hd : d = (n : Int) := by omega
      subst hd
      have hd16 : 0 ≤ (n : Int) ∧ (n : Int) < 16 := by omega
      rw [if_neg (by omega), X6_isSignal_eq hd16, Option.bind_some, elN]
      have skip : ∀ σ1 : MM, σ1 59 = σ 59 → fr2 59 62 σ σ1 → elStep mode x (n : Int) (c, σ 59) = (c, σ 59) → ∃ σ' : MM, X6_eliminate_L38 mode x k N c ((n : Int) + -1) σ1 = k (elN mode x n (elStep mode x (n : Int) (c, σ 59))).1 σ' ∧ fr2 59 62 σ σ' ∧ σ' 59 = (elN mode x n (elStep mode x (n : Int) (c, σ 59))).2 := by
        intro σ1 hg1 hf e
        rw [e]
        obtain ⟨σ', q1, q2, q3⟩ := ih n c ((n : Int) + -1) σ1 (by rw [hg1]; exact hI) (by omega) (by rw [hg1]; omega) (by omega) (by omega)
        rw [hg1] at q1 q3
        exact ⟨σ', q1, fun j a b => (q2 j a b).trans (hf j a b), q3⟩
      by_cases c0 : sSig (σ 59) (n : Int) = 0
      · rw [if_pos c0]
        exact skip σ rfl (fun _ _ _ => rfl) (if_neg (fun q => q.2.1 c0))
      · rw [if_neg c0, X6_far_eq hd16, Option.bind_some]
        by_cases c1 : sFar (σ 59) (n : Int) = x
        · obtain ⟨σ1, q1, q2⟩ := X6_lead_eq (σ := σ) (mode := mode) rfl hI.1 (show 0 ≤ (n : Int) by omega) h2
          have hg1 : σ1 59 = σ 59 := q2 59 (by decide)
          rw [if_pos c1, q1, Option.bind_some]
          dsimp only
          rw [X6_lag_eq (by rw [hg1]; exact hI.1) (by omega) (by rw [hg1]; exact h2), hg1, Option.bind_some]
          by_cases c3 : sLead (σ 59) (n : Int) mode < sLag (σ 59) (n : Int)
          · rw [if_pos c3]
            exact skip σ1 hg1 (fun j a b => q2 j b) (if_neg (fun q => q.2.2 c3))
          · have est : elStep mode x (n : Int) (c, σ 59) = (c + 1, gup (σ 59) (30 + 5 * (n : Int) + 4) 0) := if_pos ⟨c1, c0, c3⟩
            have e59 : zup σ1 59 (30 + 5 * (n : Int) + 4) 0 59 = gup (σ 59) (30 + 5 * (n : Int) + 4) 0 := by rw [zup_row, hg1]
            rw [if_neg c3, X6_at_eq hd16 (by decide), Option.bind_some, gd_t (by omega), mlet_eq, gd_t (by omega), est]
            obtain ⟨σ2, u1, u2, u3⟩ := ih n (c + 1) ((n : Int) + -1) (zup σ1 59 (30 + 5 * (n : Int) + 4) 0) (by rw [e59]; exact kp0_inv hI (by omega)) (by omega) (by rw [e59, gup_n (by omega)]; omega) (by omega) (by omega)
            rw [e59] at u1 u3
            exact ⟨σ2, u1, fun j a b => by rw [u2 j a b, zup_ne a, q2 j b], u3⟩
        · rw [if_neg c1]
          exact skip σ rfl (fun _ _ _ => rfl) (if_neg (fun q => c1 q.1))
