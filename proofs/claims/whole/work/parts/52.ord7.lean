/-- a change of the loop, with whatever else a call leaves behind -/
theorem ST.mutE {σ σ2 : MM} (h : ST σ) (hc : ∀ j : Nat, (j = 0 ∨ (12 ≤ j ∧ j < 23 ∧ j ≠ 16) ∨ j = 35 ∨ j = 60 ∨ j = 61) → σ2 j = σ j) (h34 : σ2 34 1 = σ 34 1) (h2 : σ2 58 2 = σ 58 2) (h5 : σ2 58 5 = σ 58 5) (h7 : σ2 58 7 = σ 58 7) (hI : sInv (σ2 59)) (hR : sRL σ2 1 (σ2 59)) (hK : sKB σ2 1) : ST σ2 := by
  obtain ⟨-, -, -, k4, k5, k6, k7, k8, k9⟩ := h
  refine ⟨hI, hR, hK, fun i a b => by rw [hc (12 + 9) (by decide)]; exact k4 i a b, by rw [h34, h5]; exact k5, by rw [hc 35 (by decide), hc 61 (by decide), h5]; exact k6, by rw [hc 0 (by decide), h7]; exact k7, by rw [hc 0 (by decide), h2]; exact k8, fun q => ?_⟩
  rw [h2] at q
  rw [hc 60 (by decide)]
  exact ⟨(k9 q).1, sRL_congr (k9 q).2 (fun j a b => hc _ (by omega))⟩
theorem SE.sea {σ σ' : MM} (h : ∀ k : Nat, ¬ (38 ≤ k ∧ k ≤ 50) → σ' k = σ k) : SE σ σ' := ⟨fun j hj => h j (by omega), by rw [h 34 (by decide)], by rw [h 58 (by decide)], by rw [h 58 (by decide)], by rw [h 58 (by decide)], h 72 (by decide)⟩
theorem SE.rsea {σ σ' : MM} (h : ∀ j : Nat, j ≠ 58 → j ≠ 63 → j ≠ 64 → σ' j = σ j) (h58 : ∀ i : Int, i ≠ 12 → σ' 58 i = σ 58 i) : SE σ σ' := ⟨fun j hj => h j (by omega) (by omega) (by omega), by rw [h 34 (by decide) (by decide) (by decide)], h58 2 (by decide), h58 5 (by decide), h58 7 (by decide), h 72 (by decide) (by decide) (by decide)⟩
theorem op_leastDelay {σ : MM} (h : ST σ) : OpX (X5_leastDelay σ) X6_leastDelay kD := by
  have hI := h.1.1
  have hn8 := hI.1.1
  obtain ⟨n, hn⟩ : ∃ n : Nat, σ 59 0 = n := ⟨(σ 59 0).toNat, by omega⟩
  by_cases c : 6 < σ 59 0
  · refine opX_ro (xo := 4) (r := 0) h ⟨σ, ?_, SE.rf⟩ (fun σ' h' hg _ => ⟨0, zup (zup σ' 58 3 0) 58 3 1, ?_, SE.thr.tr SE.thr, by rw [zup_s]; rfl, fun q => absurd q (by decide)⟩)
    · unfold X5_leastDelay
      rw [h.2.1.1, if_pos c]
    · unfold X6_leastDelay
      rw [mlet_eq, zup59, hg, if_pos c, X6_fails_eq]
      rfl
  · obtain ⟨σ1, q1, q2, q3⟩ := X1_search_eq hI hn (by omega) h.2.1 h.2.2.1
    refine opX_ro (xo := 0) (r := (sSea (σ 59) n).1) h ⟨σ1, ?_, SE.sea q2⟩ (fun σ' h' hg _ => ?_)
    · unfold X5_leastDelay
      rw [h.2.1.1, if_neg c, q1, Option.bind_some, q3.1]
    · obtain ⟨σ2, u1, u2, u3, -, u5⟩ := X6_searches_eq hI hn (by omega) (σ := zup σ' 58 3 0) (by rw [zup59]; exact hg)
      refine ⟨(sSea (σ 59) n).1, σ2, ?_, SE.thr.tr (SE.rsea u2 u3), by rw [u3 3 (by decide), zup_s]; rfl, fun _ => rfl⟩
      unfold X6_leastDelay
      rw [mlet_eq, zup59, hg, if_neg c, u1, Option.bind_some, u5.1]
def sCnt (g : Int → Int) (b : List Nat) (x n : Int) (a : Int) : Int := fdI (fun i a => if g (20 + i) = ogN b i then a else a + 1) x n a
theorem sCnt_b {g : Int → Int} {b : List Nat} {n : Int} (h : 0 ≤ n) : 0 ≤ sCnt g b 0 n 0 ∧ sCnt g b 0 n 0 ≤ n := by
  refine fdI_inv (P := fun i a => 0 ≤ a ∧ a ≤ i) h ⟨by omega, by omega⟩ (fun i a h1 h2 h3 => ?_)
  split <;> omega
theorem X5_reorder_L37_eq {g : Int → Int} {n : Nat} {bo : List Nat} (hn : n ≤ 8) {k : Int → MM → Option (Int × Int × MM)} {σ : MM} (h0 : σ 1 0 = n) (h4 : ∀ i : Int, 0 ≤ i → i < n → σ 4 i = g (20 + i)) (h50 : ∀ i : Int, 0 ≤ i → i < n → σ 50 i = ogN bo i) : ∀ (N : Nat) (a x : Int), 0 ≤ x → x ≤ n → n - x < N → 0 ≤ a ∧ a ≤ x → X5_reorder_L37 k N a x σ = k (sCnt g bo x n a) σ := by
  intro N
  induction N with
  | zero => intro a x h1 h2 h3 h5; omega
  | succ N ih =>
    intro a x h1 h2 h3 h5
    rw [X5_reorder_L37, h0]
    by_cases c : x < (n : Int)
    · unfold sCnt
      rw [if_pos c, gd_t (by omega), h4 x h1 c, h50 x h1 c, fdI_lt c]
      by_cases e : g (20 + x) = ogN bo x
      · rw [if_pos e, if_pos e]
        exact ih a (x + 1) (by omega) (by omega) (by omega) (by omega)
      · rw [if_neg e, if_neg e, gd_t (by omega)]
        exact ih (a + 1) (x + 1) (by omega) (by omega) (by omega) (by omega)
    · unfold sCnt
      rw [if_neg c, fdI_ge (by omega)]
theorem X5_reorder_L80_eq {n : Nat} {bo : List Nat} (hn : n ≤ 8) (hb : isP n bo) {y : Int} {k : MM → Option (Int × Int × MM)} : ∀ (N : Nat) (x : Nat) (σ : MM), σ 1 0 = n → (∀ i : Int, 0 ≤ i → i < n → σ 50 i = ogN bo i) → x ≤ n → n - x < N → (∀ i : Nat, i < x → σ 4 i = ogN bo i ∧ σ 3 (ogN bo i) = i) →
    ∃ σ' : MM, X5_reorder_L80 y k N (x : Int) σ = k σ' ∧ (∀ j : Nat, j ≠ 3 → j ≠ 4 → σ' j = σ j) ∧ ∀ i : Nat, i < n → σ' 4 i = ogN bo i ∧ σ' 3 (ogN bo i) = i := by
  intro N
  induction N with
  | zero => intro x σ h1 h2 h3 h4; omega
  | succ N ih =>
    intro x σ h1 h2 h3 h4 h5
    rw [X5_reorder_L80, h1]
    by_cases c : (x : Int) < (n : Int)
    · have hx := hb.2.1 x (by omega)
      have hv : ∀ i : Nat, ogN bo (i : Int) = ((bo.getD i 0 : Nat) : Int) := fun i => by unfold ogN; rw [Int.toNat_natCast]
      rw [if_pos c, gd_t (by omega), h2 x (by omega) c, hv x, X0_place_eq (by rw [h1]; omega) (by rw [h1]; omega) (by omega), Option.bind_some]
      obtain ⟨σ', q1, q2, q3⟩ := ih (x + 1) (zup (zup σ (1 + 3) (x : Int) ((bo.getD x 0 : Nat) : Int)) (1 + 2) ((bo.getD x 0 : Nat) : Int) (x : Int)) (by rw [zup_ne (by decide), zup_ne (by decide)]; exact h1) (fun i a b => by rw [zup_ne (by decide), zup_ne (by decide)]; exact h2 i a b) (by omega) (by omega) (fun i hi => by
        rw [hv i]
        show zup (zup σ 4 (x : Int) ((bo.getD x 0 : Nat) : Int)) 3 ((bo.getD x 0 : Nat) : Int) (x : Int) 4 (i : Int) = _ ∧ zup (zup σ 4 (x : Int) ((bo.getD x 0 : Nat) : Int)) 3 ((bo.getD x 0 : Nat) : Int) (x : Int) 3 ((bo.getD i 0 : Nat) : Int) = (i : Int)
        rw [zup_ne (by decide), zup_at, zup_at, zup_ne (by decide)]
        by_cases e : i = x
        · rw [e, if_pos rfl, if_pos rfl]
          exact ⟨rfl, rfl⟩
        · have ne : ¬ ((bo.getD i 0 : Nat) : Int) = ((bo.getD x 0 : Nat) : Int) := fun q => e (hb.2.2.1 i x (by omega) (by omega) (by omega))
          rw [if_neg (by omega), if_neg ne]
          have := h5 i (by omega)
          rw [hv i] at this
          exact this)
      rw [show ((x + 1 : Nat) : Int) = (x : Int) + 1 by omega] at q1
      exact ⟨σ', q1, fun j a b => by rw [q2 j a b, zup_ne (by omega), zup_ne (by omega)], q3⟩
    · rw [if_neg c]
      exact ⟨σ, rfl, fun _ _ _ => rfl, fun i hi => h5 i (by omega)⟩
theorem X6_reorder_L30_eq {g : Int → Int} {n : Nat} {bo : List Nat} (hn : n ≤ 8) (hb : isP n bo) (hg0 : g 0 = n) {k : Int → MM → Option (Int × MM)} : ∀ (N : Nat) (x : Nat) (a : Int) (σ : MM), (∀ i : Int, 0 ≤ i → i < 8 → σ 63 i = g (20 + i)) → (∀ i : Int, 0 ≤ i → i < n → σ 64 i = ogN bo i) → x ≤ n → n - x < N → 0 ≤ a ∧ a ≤ x → (∀ i : Int, σ 59 i = if 20 ≤ i ∧ i < 20 + (x : Int) then ogN bo (i - 20) else g i) →
    ∃ σ' : MM, X6_reorder_L30 k N a (x : Int) σ = k (sCnt g bo x n a) σ' ∧ (∀ j : Nat, j ≠ 59 → σ' j = σ j) ∧ σ' 59 = sOrd g bo := by
  intro N
  induction N with
  | zero => intro x a σ h1 h2 h3 h4; omega
  | succ N ih =>
    intro x a σ h1 h2 h3 h4 h5 h6
    have e0 : σ 59 0 = n := by rw [h6 0, if_neg (by omega), hg0]
    rw [X6_reorder_L30, e0]
    by_cases c : (x : Int) < (n : Int)
    · rw [if_pos c, gd_t (by omega), mlet_eq, h2 x (by omega) c, zup_ne (by decide), zup_ne (by decide), h1 x (by omega) (by omega), h2 x (by omega) c]
      unfold sCnt
      rw [fdI_lt c]
      have step : ∀ a' : Int, 0 ≤ a' ∧ a' ≤ (x : Int) + 1 → ∃ σ' : MM, X6_reorder_L30 k N a' ((x : Int) + 1) (zup σ 59 (20 + (x : Int)) (ogN bo x)) = k (sCnt g bo ((x : Int) + 1) n a') σ' ∧ (∀ j : Nat, j ≠ 59 → σ' j = σ j) ∧ σ' 59 = sOrd g bo := by
        intro a' ha'
        obtain ⟨σ', q1, q2, q3⟩ := ih (x + 1) a' (zup σ 59 (20 + (x : Int)) (ogN bo x)) (fun i a b => by rw [zup_ne (by decide)]; exact h1 i a b) (fun i a b => by rw [zup_ne (by decide)]; exact h2 i a b) (by omega) (by omega) (by omega) (fun i => by
          rw [zup_at]
          by_cases e : i = 20 + (x : Int)
          · rw [if_pos e, if_pos (by omega), e, show 20 + (x : Int) - 20 = x by omega]
          · rw [if_neg e, h6 i]
            by_cases e2 : 20 ≤ i ∧ i < 20 + (x : Int)
            · rw [if_pos e2, if_pos (by omega)]
            · rw [if_neg e2, if_neg (by omega)])
        rw [show ((x + 1 : Nat) : Int) = (x : Int) + 1 by omega] at q1
        exact ⟨σ', q1, fun j hj => by rw [q2 j hj, zup_ne hj], q3⟩
      by_cases e : g (20 + (x : Int)) = ogN bo x
      · rw [if_pos e, if_pos e, show a + 0 = a by omega]
        exact step a (by omega)
      · rw [if_neg e, if_neg e, gd_t (by omega)]
        exact step (a + 1) (by omega)
    · rw [if_neg c]
      unfold sCnt
      rw [fdI_ge (by omega)]
      refine ⟨σ, rfl, fun _ _ => rfl, ?_⟩
      funext i
      rw [h6 i]
      unfold sOrd
      rw [hb.1, show (x : Int) = n by omega]
theorem op_reorder {σ : MM} (h : ST σ) : OpX (X5_reorder σ) X6_reorder kD := by
  have hI := h.1.1
  have hn8 := hI.1.1
  obtain ⟨n, hn⟩ : ∃ n : Nat, σ 59 0 = n := ⟨(σ 59 0).toNat, by omega⟩
  by_cases c : 6 < σ 59 0
  · refine opX_ro (xo := 4) (r := 0) h ⟨σ, ?_, SE.rf⟩ (fun σ' h' hg _ => ⟨0, zup (zup σ' 58 3 0) 58 3 1, ?_, SE.thr.tr SE.thr, by rw [zup_s]; rfl, fun q => absurd q (by decide)⟩)
    · unfold X5_reorder
      rw [h.2.1.1, if_pos c]
    · unfold X6_reorder
      rw [mlet_eq, zup59, hg, if_pos c, X6_fails_eq]
      rfl
  · have h6 : n ≤ 6 := by omega
    obtain ⟨σ1, q1, q2, q3⟩ := X1_search_eq hI hn h6 h.2.1 h.2.2.1
    obtain ⟨b1, b2, b3⟩ := sSea_good h.1 hn h6
    generalize hbo : (sSea (σ 59) n).2 = bo at b2 b3
    have e50 : ∀ i : Int, 0 ≤ i → i < n → σ1 50 i = ogN bo i := by
      rw [← hbo]
      exact q3.2.2 b1
    have e0 : σ1 1 0 = n := by rw [q2 1 (by decide), h.2.1.1, hn]
    have cls : ∀ N1 N2 : Nat, 8 < N1 → 8 < N2 → ∃ σ2 : MM, X5_reorder_L37 (fun z13 σ14 => X5_reorder_L80 z13 (fun σ22 => some (0, z13, σ22)) N2 0 σ14) N1 0 0 σ1 = some (0, sCnt (σ 59) bo 0 n 0, σ2) ∧ (∀ j : Nat, j ≠ 3 → j ≠ 4 → σ2 j = σ1 j) ∧ ∀ i : Nat, i < n → σ2 4 i = ogN bo i ∧ σ2 3 (ogN bo i) = i := by
      intro N1 N2 h1 h2
      obtain ⟨σ2, u1, u2, u3⟩ := X5_reorder_L80_eq (n := n) (bo := bo) (by omega) b2 (y := sCnt (σ 59) bo 0 n 0) (k := fun σ22 => some (0, sCnt (σ 59) bo 0 n 0, σ22)) N2 0 σ1 e0 e50 (by omega) (by omega) (fun i hi => by omega)
      refine ⟨σ2, ?_, u2, u3⟩
      rw [X5_reorder_L37_eq (g := σ 59) (n := n) (bo := bo) (by omega) e0 (fun i a b => by rw [q2 4 (by decide)]; exact (h.2.1.2.2.2.1 i a (by omega)).2.2) e50 N1 0 0 (by omega) (by omega) (by omega) (by omega)]
      exact u1
    obtain ⟨σ2, u1, u2, u3⟩ := cls 100000 100000 (by omega) (by omega)
    refine ⟨0, sCnt (σ 59) bo 0 n 0, σ2, ?_, Or.inl rfl, fun σ' hj => ?_⟩
    · unfold X5_reorder
      rw [h.2.1.1, if_neg c, q1, Option.bind_some]
      exact u1
    · have hg : σ' 59 = σ 59 := by rw [hj 59 (by decide), u2 59 (by decide) (by decide), q2 59 (by decide)]
      obtain ⟨σ3, v1, v2, v3, v4, v5⟩ := X6_searches_eq hI hn h6 (σ := zup σ' 58 3 0) (by rw [zup59]; exact hg)
      have e64 : ∀ i : Int, 0 ≤ i → i < n → σ3 64 i = ogN bo i := by
        rw [← hbo]
        exact v5.2.2 b1
      have ref : ∀ N : Nat, 8 < N → ∃ σ4 : MM, X6_reorder_L30 (fun z18 σ19 => some (z18, σ19)) N 0 0 σ3 = some (sCnt (σ 59) bo 0 n 0, σ4) ∧ (∀ j : Nat, j ≠ 59 → σ4 j = σ3 j) ∧ σ4 59 = sOrd (σ 59) bo := by
        intro N hN
        obtain ⟨σ4, w1, w2, w3⟩ := X6_reorder_L30_eq (g := σ 59) (n := n) (bo := bo) (by omega) b2 hn (k := fun z18 σ19 => some (z18, σ19)) N 0 0 σ3 v4 e64 (by omega) (by omega) (by omega) (fun i => by rw [if_neg (by omega), v2 59 (by decide) (by decide) (by decide), zup59, hg])
        exact ⟨σ4, w1, w2, w3⟩
      obtain ⟨σ4, w1, w2, w3⟩ := ref 100000 (by omega)
      have b12 : ∀ j : Nat, j < 58 → σ4 j = σ2 j := fun j hj' => by rw [w2 j (by omega), v2 j (by omega) (by omega) (by omega), zup_ne (by omega), hj j (by omega)]
      have b58 : ∀ i : Int, i ≠ 12 → i ≠ 3 → σ4 58 i = σ 58 i := fun i a b => by rw [w2 58 (by decide), v3 i a, zup_i b, hj 58 (by decide), u2 58 (by decide) (by decide), q2 58 (by decide)]
      have bas : ∀ j : Nat, j < 38 → j ≠ 3 → j ≠ 4 → σ4 j = σ j := fun j a b c => by rw [b12 j (by omega), u2 j b c, q2 j (by omega)]
      have bhi : ∀ j : Nat, j = 60 ∨ j = 61 → σ4 j = σ j := fun j a => by rw [w2 j (by omega), v2 j (by omega) (by omega) (by omega), zup_ne (by omega), hj j (by omega), u2 j (by omega) (by omega), q2 j (by omega)]
      refine ⟨sCnt (σ 59) bo 0 n 0, σ4, ?_, by rw [w2 58 (by decide), v3 3 (by decide), zup_s]; rfl, fun _ => rfl, ?_, by rw [w2 72 (by decide), v2 72 (by decide) (by decide) (by decide), zup_ne (by decide)]⟩
      · unfold X6_reorder
        rw [mlet_eq, zup59, hg, if_neg c, v1, Option.bind_some]
        exact w1
      · refine h.mutE (fun j a => ?_) (by rw [bas 34 (by decide) (by decide) (by decide)]) (b58 2 (by decide) (by decide)) (b58 5 (by decide) (by decide)) (b58 7 (by decide) (by decide)) (by rw [w3]; exact b3) ?_ (fun i a b => by rw [bas (1 + 9) (by decide) (by decide) (by decide)]; exact h.2.2.1 i a b)
        · by_cases e : j < 38
          · exact bas j e (by omega) (by omega)
          · exact bhi j (by omega)
        · rw [w3]
          refine sRL_ord hI h.2.1 (sOrd_o (by omega) b2.1) (fun s a b => ?_) (fun j a b c d => bas _ (by omega) (by omega) (by omega))
          constructor
          · obtain ⟨k, k1, k2⟩ := b2.2.2.2 s.toNat (by omega)
            have es : s = ((bo.getD k 0 : Nat) : Int) := by omega
            rw [b12 (1 + 2) (by decide), es, sOrd_plc hI hn b2 k1]
            have := (u3 k k1).2
            unfold ogN at this
            rw [Int.toNat_natCast] at this
            exact this
          · obtain ⟨k, rfl⟩ : ∃ k : Nat, s = k := ⟨s.toNat, by omega⟩
            rw [b12 (1 + 3) (by decide), sOrd_in (by rw [b2.1]; omega)]
            exact (u3 k (by omega)).1
