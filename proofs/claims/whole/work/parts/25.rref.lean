/-! the reference's run -/
def frR (σ σ' : MM) : Prop := ∀ j : Nat, j < 65 ∨ 71 < j → σ' j = σ j
theorem frR.rf {σ : MM} : frR σ σ := fun _ _ => rfl
theorem frR.tr {σ σ' σ'' : MM} (h : frR σ σ') (h' : frR σ' σ'') : frR σ σ'' := fun j hj => (h' j hj).trans (h j hj)
theorem frR.up {σ : MM} {k : Nat} {i v : Int} (h : 65 ≤ k ∧ k ≤ 71) : frR σ (zup σ k i v) := fun j hj => zup_ne (by omega)
theorem frR.g {σ σ' : MM} (h : frR σ σ') : σ' 59 = σ 59 := h 59 (by decide)
theorem X6_executes_L11_eq {σ : MM} {g : Int → Int} {ρ : Int → Int → Int} {s i p t B : Int} {k : Int → MM → Option MM} (hg : σ 59 = g) (hI : sInv0 g) (hC : sRR σ g ρ i t) (hB : sBd g ρ i t B) (hi : 0 ≤ i ∧ i < 40) (hB2 : B ≤ 1000000) : ∀ (n : Nat) (x4 x5 : Int), 0 ≤ x5 → x5 ≤ g 1 → g 1 - x5 < n → X6_executes_L11 i s p k n x4 x5 σ = k (fdI (sBegF g ρ s i) x5 (g 1) x4) σ := by
  have h0 := hI.1.2.1
  have h00 := hI.1.1
  subst hg
  intro n
  induction n with
  | zero => intro x4 x5 h1 h2 h3; omega
  | succ n ih =>
    intro x4 x5 h1 h2 h3
    rw [X6_executes_L11]
    by_cases c : x5 < σ 59 1
    · have hd : 0 ≤ x5 ∧ x5 < 16 := by omega
      obtain ⟨-, h6, h7, h8, -⟩ := hI.2.2.2.2.2 x5 h1 c
      have hno : ¬ (sTgt (σ 59) x5 = s ∧ sFar (σ 59) x5 ≤ i ∧ ¬ sSig (σ 59) x5 = 0) → sBegF (σ 59) ρ s i x5 x4 = x4 := fun q => by unfold sBegF; rw [if_neg q]
      rw [if_pos c, fdI_lt c, X6_isSignal_eq hd, Option.bind_some]
      by_cases c3 : sSig (σ 59) x5 = 0
      · rw [if_pos c3, hno (fun q => q.2.2 c3)]
        exact ih _ _ (by omega) (by omega) (by omega)
      · rw [if_neg c3, X6_target_eq hd, Option.bind_some]
        by_cases c1 : sTgt (σ 59) x5 = s
        · rw [if_pos c1, X6_far_eq hd, Option.bind_some]
          by_cases c2 : i < sFar (σ 59) x5
          · rw [if_pos c2, hno (by omega)]
            exact ih _ _ (by omega) (by omega) (by omega)
          · have h9 := (sSig_far c3).1
            have h11 := sLag_b hI h1 c
            have h12 : σ 65 (40 * sSrc (σ 59) x5 + (i - sFar (σ 59) x5)) = ρ (10 + sSrc (σ 59) x5) (i - sFar (σ 59) x5) := hC.2 _ _ h6.1 h6.2 (by omega) (Or.inl (by omega))
            have h13 := hB.2 _ (i - sFar (σ 59) x5) h6.1 h6.2 (by omega) (Or.inl (by omega))
            rw [show 40 * sSrc (σ 59) x5 + (i - sFar (σ 59) x5) = 40 * sSrc (σ 59) x5 + i - sFar (σ 59) x5 by omega] at h12
            have e : sBegF (σ 59) ρ s i x5 x4 = max x4 (ρ (10 + sSrc (σ 59) x5) (i - sFar (σ 59) x5) + sLag (σ 59) x5) := by
              unfold sBegF
              rw [if_pos ⟨c1, by omega, c3⟩]
              rfl
            rw [if_neg c2, X6_source_eq hd, Option.bind_some, Option.bind_some, gd_t (by omega), X6_lag_eq hI h1 c, Option.bind_some, h12, gd_t (by omega), e]
            by_cases c4 : x4 < ρ (10 + sSrc (σ 59) x5) (i - sFar (σ 59) x5) + sLag (σ 59) x5
            · rw [if_pos c4, show max x4 (ρ (10 + sSrc (σ 59) x5) (i - sFar (σ 59) x5) + sLag (σ 59) x5) = ρ (10 + sSrc (σ 59) x5) (i - sFar (σ 59) x5) + sLag (σ 59) x5 by omega]
              exact ih _ _ (by omega) (by omega) (by omega)
            · rw [if_neg c4, show max x4 (ρ (10 + sSrc (σ 59) x5) (i - sFar (σ 59) x5) + sLag (σ 59) x5) = x4 by omega]
              exact ih _ _ (by omega) (by omega) (by omega)
        · rw [if_neg c1, hno (fun q => c1 q.1)]
          exact ih _ _ (by omega) (by omega) (by omega)
    · rw [if_neg c, fdI_ge (by omega)]
/-- beside the clock: what the reference counts; p is the processor at work, w = 1 while it is -/
def sRX (σ : MM) (g : Int → Int) (ρ : Int → Int → Int) (p w t : Int) : Prop :=
  ∀ q, 0 ≤ q → q < 6 → σ 70 q = ρ 0 q - ρ 3 q ∧ σ 69 q = (if q = p ∧ w = 1 then ρ 1 q + 1 else ρ 1 q) ∧ σ 68 q = (if 0 < g 0 ∧ (0 < ρ 1 q ∨ (q = p ∧ w = 1 ∧ 0 < t)) then ρ 2 q else -1)
theorem X6_executes_eq {σ : MM} {g : Int → Int} {ρ : Int → Int → Int} {i p t B : Int} (hg : σ 59 = g) (hI : sInv0 g) (hC : sRR σ g ρ i t) (hB : sBd g ρ i t B) (hX : sRX σ g ρ p 1 t) (hi : 0 ≤ i ∧ i < 40) (hp : 0 ≤ p ∧ p < 6) (ht : 0 ≤ t) (ht2 : t < g 0) (hB0 : 0 ≤ B ∧ B ≤ 1000000) :
    X6_executes i (g (20 + t)) p σ = some (zup (zup (zup (zup σ 65 (40 * g (20 + t) + i) (sBeg g ρ (g (20 + t)) i (ρ 0 p))) 71 p (ρ 3 p + (sBeg g ρ (g (20 + t)) i (ρ 0 p) - ρ 0 p))) 70 p (ρ 0 p - ρ 3 p + sCost g (g (20 + t)))) 67 p (sBeg g ρ (g (20 + t)) i (ρ 0 p) + sCost g (g (20 + t)))) := by
  have h0 := hI.1.1
  have h1 := hI.1.2.1
  have hs := hI.2.2.1 t ht ht2
  have hc := sCost_b hI hs.1 hs.2
  have hfp := hB.1 p hp.1 hp.2
  have hcp := hC.1 p hp.1 hp.2
  have hxp := hX p hp.1 hp.2
  have hbg := sBeg_b (s := g (20 + t)) hI hB (a := ρ 0 p) ⟨hfp.1, hfp.2.1⟩
  have key : ∀ N : Nat, 17 ≤ N → X6_executes_L11 i (g (20 + t)) p (fun z30 σ31 => gd (0 ≤ (40 * g (20 + t)) + i ∧ (40 * g (20 + t)) + i < 320) <|
      mlet (zup σ31 65 ((40 * g (20 + t)) + i) z30) fun σ33 =>
      gd (inR ((σ33 71 p) + (z30 - (σ33 67 p)))) <|
      mlet (zup σ33 71 p ((σ33 71 p) + (z30 - (σ33 67 p)))) fun σ38 =>
      (X6_cost (g (20 + t)) σ38).bind fun r41 =>
      gd (inR ((σ38 70 p) + r41)) <|
      mlet (zup σ38 70 p ((σ38 70 p) + r41)) fun σ45 =>
      (X6_cost (g (20 + t)) σ45).bind fun r47 =>
      gd (inR (z30 + r47)) <|
      mlet (zup σ45 67 p (z30 + r47)) fun σ51 =>
      some σ51) N (ρ 0 p) 0 σ = some (zup (zup (zup (zup σ 65 (40 * g (20 + t) + i) (sBeg g ρ (g (20 + t)) i (ρ 0 p))) 71 p (ρ 3 p + (sBeg g ρ (g (20 + t)) i (ρ 0 p) - ρ 0 p))) 70 p (ρ 0 p - ρ 3 p + sCost g (g (20 + t)))) 67 p (sBeg g ρ (g (20 + t)) i (ρ 0 p) + sCost g (g (20 + t)))) := by
    intro N hN
    rw [X6_executes_L11_eq hg hI hC hB hi (by omega) N _ 0 (by omega) (by omega) (by omega)]
    change (gd _ _) = _
    rw [show fdI (sBegF g ρ (g (20 + t)) i) 0 (g 1) (ρ 0 p) = sBeg g ρ (g (20 + t)) i (ρ 0 p) from rfl]
    generalize sBeg g ρ (g (20 + t)) i (ρ 0 p) = bg at *
    rw [gd_t (by omega), mlet_eq]
    rw [show zup σ 65 (40 * g (20 + t) + i) bg 71 p = ρ 3 p by rw [zup_k (by decide)]; exact hcp.2, show zup σ 65 (40 * g (20 + t) + i) bg 67 p = ρ 0 p by rw [zup_k (by decide)]; exact hcp.1, gd_t (by omega), mlet_eq]
    rw [X6_cost_eq (by omega), Option.bind_some]
    rw [show zup (zup σ 65 (40 * g (20 + t) + i) bg) 71 p (ρ 3 p + (bg - ρ 0 p)) 70 p = ρ 0 p - ρ 3 p by rw [zup_k (by decide), zup_k (by decide)]; exact hxp.1, show zup (zup σ 65 (40 * g (20 + t) + i) bg) 71 p (ρ 3 p + (bg - ρ 0 p)) 59 = g by rw [zup_ne (by decide), zup_ne (by decide)]; exact hg, gd_t (by omega), mlet_eq]
    rw [X6_cost_eq (by omega), Option.bind_some]
    rw [show zup (zup (zup σ 65 (40 * g (20 + t) + i) bg) 71 p (ρ 3 p + (bg - ρ 0 p))) 70 p (ρ 0 p - ρ 3 p + sCost g (g (20 + t))) 59 = g by rw [zup_ne (by decide), zup_ne (by decide), zup_ne (by decide)]; exact hg, gd_t (by omega), mlet_eq]
  unfold X6_executes
  rw [gd_t hp, show σ 67 p = ρ 0 p from hcp.1]
  exact key 100000 (by omega)
theorem X6_runs_L86_eq {g : Int → Int} {i p : Int} {k : MM → Option (Int × MM)} (hI : sInv0 g) (hi : 0 ≤ i ∧ i < 40) (hp : 0 ≤ p ∧ p < 6) : ∀ (n : Nat) (t B : Int) (σ : MM) (ρ : Int → Int → Int), σ 59 = g → sRR σ g ρ i t → sBd g ρ i t B → sRX σ g ρ p 1 t → 0 ≤ t → t ≤ g 0 → g 0 - t < n → 0 ≤ B ∧ B ≤ 10000 + 23 * t →
    (0 < t → σ 65 (40 * g 20 + i) = ρ (10 + g 20) i) →
    ∃ σ' : MM, X6_runs_L86 i p k n t σ = k σ' ∧ frR σ σ' ∧ σ' 66 = σ 66 ∧ sRR σ' g (fdI (sStmt g i p) t (g 0) ρ) i (g 0) ∧ sBd g (fdI (sStmt g i p) t (g 0) ρ) i (g 0) (B + 23 * (g 0 - t)) ∧ sRX σ' g (fdI (sStmt g i p) t (g 0) ρ) p 1 (g 0) := by
  have h0 := hI.1.1
  intro n
  induction n with
  | zero => intro t B σ ρ hg hC hB hX h1 h2 h3; omega
  | succ n ih =>
    intro t B σ ρ hg hC hB hX h1 h2 h3 h4 h5
    rw [X6_runs_L86, hg]
    by_cases c : t < g 0
    · have hs := hI.2.2.1 t h1 c
      have hc := sCost_b hI hs.1 hs.2
      have hfp := hB.1 p hp.1 hp.2
      have hcp := hC.1 p hp.1 hp.2
      have hxp := hX p hp.1 hp.2
      have hbg := sBeg_b (s := g (20 + t)) hI hB (a := ρ 0 p) ⟨hfp.1, hfp.2.1⟩
      have hst : sBd g (sStmt g i p t ρ) i (t + 1) (B + 23) := sStmt_bd hI hB hi.1 hp h1 c h4.1
      obtain ⟨r0, r3, r1, r4, r2⟩ := sStmt_rows (g := g) (ρ := ρ) (i := i) (p := p) (t := t) hs.1
      rw [if_pos c, fdI_lt c, gd_t (by omega), X6_executes_eq hg hI hC hB hX hi hp h1 c (by omega), Option.bind_some, gd_t hp]
      generalize hbe : sBeg g ρ (g (20 + t)) i (ρ 0 p) = bg at *
      generalize hze : zup (zup (zup (zup σ 65 (40 * g (20 + t) + i) bg) 71 p (ρ 3 p + (bg - ρ 0 p))) 70 p (ρ 0 p - ρ 3 p + sCost g (g (20 + t)))) 67 p (bg + sCost g (g (20 + t))) = σz
      have z59 : σz 59 = g := by rw [← hze, zup_ne (by decide), zup_ne (by decide), zup_ne (by decide), zup_ne (by decide)]; exact hg
      have z68 : σz 68 = σ 68 := by rw [← hze, zup_ne (by decide), zup_ne (by decide), zup_ne (by decide), zup_ne (by decide)]
      have z69 : σz 69 = σ 69 := by rw [← hze, zup_ne (by decide), zup_ne (by decide), zup_ne (by decide), zup_ne (by decide)]
      have z66 : σz 66 = σ 66 := by rw [← hze, zup_ne (by decide), zup_ne (by decide), zup_ne (by decide), zup_ne (by decide)]
      have z65 : σz 65 = zup σ 65 (40 * g (20 + t) + i) bg 65 := by rw [← hze, zup_ne (by decide), zup_ne (by decide), zup_ne (by decide)]
      have z67 : ∀ q, σz 67 q = if q = p then bg + sCost g (g (20 + t)) else σ 67 q := by
        intro q
        rw [← hze]
        by_cases e : q = p
        · rw [e, zup_s, if_pos rfl]
        · rw [zup_i e, zup_k (by decide), zup_k (by decide), zup_k (by decide), if_neg e]
      have z70 : ∀ q, σz 70 q = if q = p then ρ 0 p - ρ 3 p + sCost g (g (20 + t)) else σ 70 q := by
        intro q
        rw [← hze, zup_k (by decide)]
        by_cases e : q = p
        · rw [e, zup_s, if_pos rfl]
        · rw [zup_i e, zup_k (by decide), zup_k (by decide), if_neg e]
      have z71 : ∀ q, σz 71 q = if q = p then ρ 3 p + (bg - ρ 0 p) else σ 71 q := by
        intro q
        rw [← hze, zup_k (by decide), zup_k (by decide)]
        by_cases e : q = p
        · rw [e, zup_s, if_pos rfl]
        · rw [zup_i e, zup_k (by decide), if_neg e]
      have zfr : frR σ σz := fun j hj => by rw [← hze, zup_ne (by omega), zup_ne (by omega), zup_ne (by omega), zup_ne (by omega)]
      -- the starts behind it
      have zst : ∀ s i', 0 ≤ s → s < g 0 → 0 ≤ i' → i' < 40 → sDone g i (t + 1) s i' → σz 65 (40 * s + i') = sStmt g i p t ρ (10 + s) i' := by
        intro s i' q1 q2 q3 q4 q5
        rw [z65]
        unfold sStmt
        rw [hbe]
        by_cases e : s = g (20 + t) ∧ i' = i
        · obtain ⟨rfl, rfl⟩ := e
          rw [zup_s, rup_s]
        · have h7 : sDone g i t s i' := by
            rcases q5 with h6 | ⟨h6, h7⟩
            · exact Or.inl h6
            · by_cases e2 : plc g s = t
              · exact absurd ⟨by rw [← (plc_spec hI q1 q2).2, e2], h6⟩ e
              · exact Or.inr ⟨h6, by omega⟩
          rw [zup_i (by omega), rup_n (by omega), rup_n (Or.inl (by omega)), rup_n (Or.inl (by omega)), hC.2 s i' q1 q2 q3 h7]
          split
          · rw [rup_n (Or.inl (by omega))]
          · rfl
      have z1st : σz 65 (40 * g 20 + i) = sStmt g i p t ρ (10 + g 20) i := by
        have q := hI.2.2.1 0 (by omega) (by omega)
        rw [show (20 : Int) + 0 = 20 by omega] at q
        refine zst (g 20) i q.1 q.2 hi.1 hi.2 (Or.inr ⟨rfl, ?_⟩)
        have := plc_of hI (p := 0) (by omega) (by omega)
        rw [show (20 : Int) + 0 = 20 by omega] at this
        omega
      have hRR : ∀ σ' : MM, (∀ j : Nat, j ≠ 68 → σ' j = σz j) → sRR σ' g (sStmt g i p t ρ) i (t + 1) := by
        intro σ' hj
        refine ⟨fun q q1 q2 => ?_, fun s i' q1 q2 q3 q4 => ?_⟩
        · have hq := hC.1 q q1 q2
          rw [hj 67 (by decide), hj 71 (by decide), z67, z71, r0, r3]
          by_cases e : q = p
          · rw [if_pos e, if_pos e, if_pos e, if_pos e]
            exact ⟨rfl, rfl⟩
          · rw [if_neg e, if_neg e, if_neg e, if_neg e]
            exact hq
        · rw [hj 65 (by decide)]
          refine zst s i' q1 q2 q3 ?_ q4
          rcases q4 with q4 | ⟨q4, -⟩ <;> omega
      have fin : ∀ σ' : MM, (∀ j : Nat, j ≠ 68 → σ' j = σz j) → (∀ q, q ≠ p → σ' 68 q = σ 68 q) → σ' 68 p = sStmt g i p t ρ 2 p → ∃ σ'' : MM, X6_runs_L86 i p k n (t + 1) σ' = k σ'' ∧ frR σ σ'' ∧ σ'' 66 = σ 66 ∧ sRR σ'' g (fdI (sStmt g i p) (t + 1) (g 0) (sStmt g i p t ρ)) i (g 0) ∧ sBd g (fdI (sStmt g i p) (t + 1) (g 0) (sStmt g i p t ρ)) i (g 0) (B + 23 * (g 0 - t)) ∧ sRX σ'' g (fdI (sStmt g i p) (t + 1) (g 0) (sStmt g i p t ρ)) p 1 (g 0) := by
        intro σ' hj hq68 hp68
        have hX' : sRX σ' g (sStmt g i p t ρ) p 1 (t + 1) := by
          intro q q1 q2
          have hq := hX q q1 q2
          rw [hj 70 (by decide), hj 69 (by decide), z70, z69, r0, r3, r1, hq.2.1]
          refine ⟨?_, rfl, ?_⟩
          · by_cases e : q = p
            · rw [if_pos e, if_pos e, if_pos e]; omega
            · rw [if_neg e, if_neg e, if_neg e]; exact hq.1
          · by_cases e : q = p
            · subst e
              rw [hp68, if_pos ⟨by omega, Or.inr ⟨rfl, rfl, by omega⟩⟩]
            · rw [hq68 q e, hq.2.2, r2, if_neg (show ¬ (q = p ∧ t = 0 ∧ ρ 1 p = 0) from fun z => e z.1)]
              by_cases e2 : 0 < g 0 ∧ (0 < ρ 1 q ∨ (q = p ∧ (1 : Int) = 1 ∧ 0 < t))
              · rw [if_pos e2, if_pos ⟨e2.1, e2.2.imp (fun z => z) (fun z => absurd z.1 e)⟩]
              · rw [if_neg e2, if_neg (fun z => e2 ⟨z.1, z.2.imp (fun y => y) (fun y => absurd y.1 e)⟩)]
        obtain ⟨σ'', u1, u2, u3, u4, u5, u6⟩ := ih (t + 1) (B + 23) σ' (sStmt g i p t ρ) (by rw [hj 59 (by decide)]; exact z59) (hRR σ' hj) hst hX' (by omega) (by omega) (by omega) (by omega) (fun _ => by rw [hj 65 (by decide)]; exact z1st)
        refine ⟨σ'', u1, fun j hj2 => ?_, ?_, u4, ?_, u6⟩
        · rw [u2 j hj2, hj j (by omega), zfr j hj2]
        · rw [u3, hj 66 (by decide), z66]
        · rw [show B + 23 * (g 0 - t) = B + 23 + 23 * (g 0 - (t + 1)) by omega]; exact u5
      rw [z68, hxp.2.2, z59]
      by_cases c2 : 0 < g 0 ∧ (0 < ρ 1 p ∨ (p = p ∧ (1 : Int) = 1 ∧ 0 < t))
      · rw [if_pos c2, if_neg (by omega), mlet_eq]
        refine fin _ (fun j hj => zup_ne hj) (fun q hq => by rw [zup_i hq, z68]) ?_
        rw [zup_s, r2, if_neg (by omega)]
      · rw [if_neg c2, if_pos (by decide), gd_t (by
          have q := hI.2.2.1 0 (by omega) (by omega)
          rw [show (20 : Int) + 0 = 20 by omega] at q
          omega), mlet_eq]
        refine fin _ (fun j hj => zup_ne hj) (fun q hq => by rw [zup_i hq, z68]) ?_
        have et : t = 0 := by omega
        have ec : ρ 1 p = 0 := by omega
        rw [zup_s, z1st, r2, if_pos ⟨rfl, et, ec⟩]
        unfold sStmt
        subst et
        rw [show (20 : Int) + 0 = 20 by omega] at hbe ⊢
        rw [rup_s, hbe]
    · have e : t = g 0 := by omega
      rw [if_neg c, fdI_ge (by omega), ← e, show B + 23 * (t - t) = B by omega]
      exact ⟨σ, rfl, frR.rf, rfl, hC, hB, hX⟩
