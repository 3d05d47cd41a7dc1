theorem rdS_n {w g : Int → Int} {L p : Int} (hI : sInv g) : (rdS w L p g).1 = 0 ∨ ((rdS w L p g).2.2 0 = g 0 + 1 ∧ (rdS w L p g).2.2 1 = g 1) := by
  have hn := hI.1.1.1
  unfold rdS
  split
  · split
    · exact Or.inl rfl
    · split
      · exact Or.inr ⟨addS_0 (c := dgt (ch w L (p + 1))), addS_n (i := 1) (c := dgt (ch w L (p + 1))) (by omega) (by omega) (by omega)⟩
      · exact Or.inl rfl
  · exact Or.inl rfl
theorem rdD_n {w g : Int → Int} {L p k : Int} (hI : sInv g) : (rdD w L k p g).1 = 0 ∨ ((rdD w L k p g).2.2 0 = g 0 ∧ (rdD w L k p g).2.2 1 = g 1 + 1) := by
  have hm := hI.1.1.2.1
  unfold rdD
  split
  · split
    · split
      · split
        · split
          · split
            · split
              · exact Or.inl rfl
              · split
                · exact Or.inr ⟨addD_n (i := 0) (k := k) (s := dgt (ch w L (p + 1))) (t := dgt (ch w L (p + 3))) (f := dgt (ch w L (p + 5))) (by omega) (by omega), addD_1 (k := k) (s := dgt (ch w L (p + 1))) (t := dgt (ch w L (p + 3))) (f := dgt (ch w L (p + 5)))⟩
                · exact Or.inl rfl
            · exact Or.inl rfl
          · exact Or.inl rfl
        · exact Or.inl rfl
      · exact Or.inl rfl
    · exact Or.inl rfl
  · exact Or.inl rfl
theorem X6_commands_L22_eq {w g0 : Int → Int} {L a : Int} (ha : a = 0 ∨ a = 1) : ∀ (f N : Nat) (p c : Int) (g : Int → Int) (σ : MM), f < N → 0 ≤ c → c + f = 60 → 3 * c ≤ p → sInv g → tR w L p σ → p ≤ 60 → rM a g0 g σ → rR w L a g0 (X6_commands_L22 a (fun z52 σ53 => some (z52, σ53)) N (g 0) (g 1) c σ) (rdA w L f p g c) σ := by
  intro f
  induction f with
  | zero => intro N p c g σ h1 h0 h2 h3 hI hT hp hM; omega
  | succ f ih =>
    intro N p c g σ h1 h0 h2 h3 hI hT hp hM
    obtain ⟨N, rfl⟩ : ∃ M, N = M + 1 := ⟨N - 1, by omega⟩
    have hn := hI.1.1.1
    have hm := hI.1.1.2.1
    have hL := hT.2.2.2.2.1
    obtain ⟨g1, g2, g3, -⟩ := rd_g (w := w) (L := L) (p := p) hI
    rw [X6_commands_L22, hT.here, Option.bind_some, rdA]
    by_cases c1 : ch w L p = 115
    · have er : rd w L p g = rdS w L p g := if_pos c1
      obtain ⟨σ1, q1, q2, q3, q4⟩ := X6_readsStatement_eq ha hI hT hp hM
      rw [er] at g1 g2 g3 ⊢
      rw [if_pos ((hr_eq (by decide)).mpr c1), q1, Option.bind_some]
      dsimp only
      by_cases c2 : (rdS w L p g).1 = 0
      · rw [if_pos c2, if_pos c2]
        exact ⟨σ1, rfl, q2, q3, q4⟩
      · rw [if_neg c2, if_neg c2, q2.2.1, q2.1]
        by_cases c3 : (rdS w L p g).2.1 < L
        · obtain ⟨e0, e1⟩ := (rdS_n (w := w) (L := L) (p := p) hI).resolve_left c2
          have := ih N (rdS w L p g).2.1 (c + 1) (rdS w L p g).2.2 σ1 (by omega) (by omega) (by omega) (by omega) g3 q2 (by omega) q4
          rw [e0, e1] at this
          rw [if_pos c3, if_pos c3, gd_t (by omega), gd_t (by omega)]
          exact this.fr q3
        · rw [if_neg c3, if_neg c3, gd_t (by omega)]
          exact ⟨σ1, rfl, q2, q3, q4⟩
    · rw [if_neg (fun q => c1 ((hr_eq (by decide)).mp q))]
      have j103 : ∀ k : Int, 0 ≤ k ∧ k ≤ 2 → rd w L p g = rdD w L k p g → rR w L a g0 (X6_commands_J103 a (X6_commands_L22 a (fun z52 σ53 => some (z52, σ53)) N) (fun z52 σ53 => some (z52, σ53)) (g 0) (g 1) c k σ) (if (rd w L p g).1 = 0 then (-1, (rd w L p g).2.1, (rd w L p g).2.2) else if (rd w L p g).2.1 < L then rdA w L f (rd w L p g).2.1 (rd w L p g).2.2 (c + 1) else (c + 1, (rd w L p g).2.1, (rd w L p g).2.2)) σ := by
        intro k hk er
        obtain ⟨σ1, q1, q2, q3, q4⟩ := X6_readsDependence_eq (k := k) ha hI hT hp hM
        rw [er] at g1 g2 g3 ⊢
        unfold X6_commands_J103
        rw [q1, Option.bind_some]
        dsimp only
        by_cases c2 : (rdD w L k p g).1 = 0
        · rw [if_pos c2, if_pos c2]
          exact ⟨σ1, rfl, q2, q3, q4⟩
        · rw [if_neg c2, if_neg c2, q2.2.1, q2.1]
          by_cases c3 : (rdD w L k p g).2.1 < L
          · obtain ⟨e0, e1⟩ := (rdD_n (w := w) (L := L) (p := p) (k := k) hI).resolve_left c2
            have := ih N (rdD w L k p g).2.1 (c + 1) (rdD w L k p g).2.2 σ1 (by omega) (by omega) (by omega) (by omega) g3 q2 (by omega) q4
            rw [e0, e1] at this
            rw [if_pos c3, if_pos c3, gd_t (by omega), gd_t (by omega)]
            exact this.fr q3
          · rw [if_neg c3, if_neg c3, gd_t (by omega)]
            exact ⟨σ1, rfl, q2, q3, q4⟩
      by_cases c2 : ch w L p = 102
      · have er : rd w L p g = rdD w L 0 p g := by
          unfold rd
          rw [if_neg c1, if_neg (by omega), if_pos c2]
        rw [Option.bind_some, if_pos ((hr_eq (by decide)).mpr c2)]
        unfold X6_commands_J75
        rw [hT.here, Option.bind_some, if_pos ((hr_eq (by decide)).mpr c2)]
        exact j103 0 (by decide) er
      · have n2 : ¬ hr w L p = 102 := fun q => c2 ((hr_eq (by decide)).mp q)
        rw [Option.bind_some, if_neg n2, Option.bind_some]
        by_cases c3 : ch w L p = 97
        · have er : rd w L p g = rdD w L 1 p g := by
            unfold rd
            rw [if_neg c1, if_pos c3]
          rw [if_pos ((hr_eq (by decide)).mpr c3)]
          unfold X6_commands_J75
          rw [hT.here, Option.bind_some, if_neg n2, Option.bind_some, if_pos ((hr_eq (by decide)).mpr c3)]
          exact j103 1 (by decide) er
        · have n3 : ¬ hr w L p = 97 := fun q => c3 ((hr_eq (by decide)).mp q)
          rw [if_neg n3, Option.bind_some]
          by_cases c4 : ch w L p = 111
          · have er : rd w L p g = rdD w L 2 p g := by
              unfold rd
              rw [if_neg c1, if_neg c3, if_neg c2, if_pos c4]
            rw [if_pos ((hr_eq (by decide)).mpr c4)]
            unfold X6_commands_J75
            rw [hT.here, Option.bind_some, if_neg n2, Option.bind_some, if_neg n3]
            exact j103 2 (by decide) er
          · have n4 : ¬ hr w L p = 111 := fun q => c4 ((hr_eq (by decide)).mp q)
            have er : rd w L p g = (0, p, g) := by
              unfold rd
              rw [if_neg c1, if_neg c3, if_neg c2, if_neg c4]
            rw [if_neg n4, er, if_pos rfl]
            exact ⟨σ, rfl, hT, fr6.rf, hM⟩
theorem rdA_g {w : Int → Int} {L : Int} (hL : L ≤ 60) : ∀ (f : Nat) (p c : Int) (g : Int → Int), 0 ≤ c → sInv g → 0 ≤ p ∧ p ≤ 60 → ((rdA w L f p g c).1 = -1 ∨ (0 < (rdA w L f p g c).1)) ∧ (0 ≤ (rdA w L f p g c).2.1 ∧ (rdA w L f p g c).2.1 ≤ 67) ∧ sInv (rdA w L f p g c).2.2 := by
  intro f
  induction f with
  | zero => intro p c g h0 hI hp; exact ⟨Or.inl rfl, ⟨hp.1, by show p ≤ 67; omega⟩, hI⟩
  | succ f ih =>
    intro p c g h0 hI hp
    obtain ⟨-, g2, g3, -⟩ := rd_g (w := w) (L := L) (p := p) hI
    rw [rdA]
    split
    · exact ⟨Or.inl rfl, ⟨by dsimp only; omega, by dsimp only; omega⟩, g3⟩
    · split
      · exact ih _ (c + 1) _ (by omega) g3 (by omega)
      · exact ⟨Or.inr (by dsimp only; omega), ⟨by dsimp only; omega, by dsimp only; omega⟩, g3⟩
theorem X6_commands_eq {w g : Int → Int} {L a : Int} (ha : a = 0 ∨ a = 1) {σ : MM} (hI : sInv g) (h5 : σ 58 5 = L) (h61 : σ 61 = w) (hw : ∀ i, 0 ≤ i → i < L → 33 ≤ w i ∧ w i ≤ 126) (hL : 0 ≤ L ∧ L ≤ 60) (hg : σ 59 = g) :
    rR w L a g (X6_commands a σ) (rdA w L 60 0 g 0) σ := by
  have hT : tR w L 0 (zup σ 58 6 0) := ⟨by rw [zup_i (by decide)]; exact h5, zup_s, by rw [zup_ne (by decide)]; exact h61, hw, hL, by decide⟩
  have hM : rM a g g (zup σ 58 6 0) := by
    unfold rM
    rw [zup_ne (by decide), hg]
    rcases ha with e | e
    · exact Or.inl ⟨e, rfl, hI.1, Int.le_refl _, fun s u v => by rw [if_pos v]⟩
    · exact Or.inr ⟨e, rfl⟩
  have key : ∀ N : Nat, 60 < N → rR w L a g (X6_commands_L22 a (fun z52 σ53 => some (z52, σ53)) N (g 0) (g 1) 0 (zup σ 58 6 0)) (rdA w L 60 0 g 0) σ := fun N hN => (X6_commands_L22_eq ha 60 N 0 0 g (zup σ 58 6 0) hN (by omega) (by omega) (by omega) hI hT (by omega) hM).fr (fr6.rf.up)
  unfold X6_commands
  rw [mlet_eq, hg]
  exact key 100000 (by omega)
theorem ST.exe {σ σ2 : MM} (h : ST σ) (hc : ∀ j : Nat, (12 ≤ j ∧ j < 23 ∧ j ≠ 16) ∨ j = 60 → σ2 j = σ j) (h07 : σ2 0 7 = σ 0 7) (h08 : σ2 0 8 = σ2 58 7) (h34 : σ2 34 1 = 0) (h5 : σ2 58 5 = 0) (h2 : σ2 58 2 = σ 58 2) (hI : sInv (σ2 59)) (hR : sRL σ2 1 (σ2 59)) (hK : sKB σ2 1) : ST σ2 := by
  obtain ⟨-, -, -, k4, -, -, -, k8, k9⟩ := h
  refine ⟨hI, hR, hK, fun i a b => by rw [hc (12 + 9) (by decide)]; exact k4 i a b, by rw [h5, h34]; decide, fun i a b => by omega, h08, by rw [h07, h2]; exact k8, fun q => ?_⟩
  rw [h2] at q
  rw [hc 60 (by decide)]
  exact ⟨(k9 q).1, sRL_congr (k9 q).2 (fun j a b => hc _ (by omega))⟩
theorem op_execute {σ : MM} (h : ST σ) : OpX (X5_execute σ) X6_execute kA := by
  have hI := h.1
  obtain ⟨-, hR, hK, -, ⟨t1, t2, t3⟩, t4, -⟩ := id h
  obtain ⟨σ1, a1, a2, a3, a4⟩ := X0_copyFrom_eq (b := 23) (b2 := 1) (Or.inr (by decide)) hK
  have r1 := a4 (σ 59) hI.1 hR
  have hT : tC (σ 61) (σ 58 5) 0 (zup σ1 34 2 0) := ⟨by rw [zup_i (by decide), a2 34 (by omega), t3], zup_s, fun i u v => by rw [zup_ne (by decide), a2 35 (by omega)]; exact t4 i u v, ⟨t1, t2⟩, by decide⟩
  have key : ∀ N : Nat, 60 < N → rC (σ 61) (σ 58 5) (X4_readInto_L7 23 (fun σ12 => some (-1, σ12)) N (0 + 1) (zup σ1 34 2 0)) (rdA (σ 61) (σ 58 5) 60 0 (σ 59) 0) (zup σ1 34 2 0) := fun N hN => X4_readInto_L7_eq 60 N 0 0 (σ 59) (zup σ1 34 2 0) hN (by omega) hI hT (by omega) (sRL_34 r1) (sKB_34 a3)
  obtain ⟨σ2, b1, b2, b3, b4, b5⟩ := key 100000 (by omega)
  obtain ⟨g1, g2, g3⟩ := rdA_g (w := σ 61) (L := σ 58 5) t2 60 0 0 (σ 59) (by omega) hI (by omega)
  have hb : X4_readInto 23 σ1 = some ((rdA (σ 61) (σ 58 5) 60 0 (σ 59) 0).1, σ2) := by
    unfold X4_readInto
    rw [mlet_eq]
    exact b1
  have com : ∀ (a : Int) (σ' : MM), (a = 0 ∨ a = 1) → σ' 58 5 = σ 58 5 → σ' 61 = σ 61 → σ' 59 = σ 59 → rR (σ 61) (σ 58 5) a (σ 59) (X6_commands a σ') (rdA (σ 61) (σ 58 5) 60 0 (σ 59) 0) σ' := fun a σ' ha h5 h61 hg => X6_commands_eq ha hI h5 h61 (fun i u v => (t4 i u v).2) ⟨t1, t2⟩ hg
  generalize rdA (σ 61) (σ 58 5) 60 0 (σ 59) 0 = z at b2 b4 g1 g2 g3 hb com
  have lo : ∀ j : Nat, ¬ (23 ≤ j ∧ j ≤ 34) → σ2 j = σ j := fun j hj => by rw [b3 j hj, zup_ne (by omega), a2 j (by omega)]
  by_cases c : z.1 = -1
  · refine ⟨1, 0, zup (zup σ2 34 1 0) 0 8 z.2.1, ?_, Or.inr (by decide), fun σ' hj => ?_⟩
    · unfold X5_execute
      rw [a1, Option.bind_some, hb, Option.bind_some]
      dsimp only
      rw [mlet_eq, if_pos c, mlet_eq, zup_i (by decide), b2.2.1]
    · have e : ∀ j : Nat, ¬ (23 ≤ j ∧ j ≤ 34) → j ≠ 0 → j ≠ 72 → σ' j = σ j := fun j u v w => by rw [hj j w, zup_ne v, zup_ne (by omega), lo j u]
      obtain ⟨σ3, q1, q2, q3, q4⟩ := com 0 (zup σ' 58 3 0) (Or.inl rfl) (by rw [zup_i (by decide), e 58 (by decide) (by decide) (by decide)]) (by rw [zup_ne (by decide), e 61 (by decide) (by decide) (by decide)]) (by rw [zup_ne (by decide), e 59 (by decide) (by decide) (by decide)])
      have q59 : σ3 59 = σ 59 := by
        rcases q4 with ⟨-, q, -⟩ | ⟨q, -⟩
        · exact q
        · exact absurd q (by decide)
      have o : ∀ j : Nat, j ≠ 58 → j ≠ 59 → zup (zup (zup σ3 58 7 z.2.1) 58 5 0) 58 3 1 j = σ' j := fun j u v => by rw [zup_ne u, zup_ne u, zup_ne u, q3.1 j u v, zup_ne u]
      have o59 : zup (zup (zup σ3 58 7 z.2.1) 58 5 0) 58 3 1 59 = σ 59 := by rw [zup_ne (by decide), zup_ne (by decide), zup_ne (by decide)]; exact q59
      refine ⟨0, zup (zup (zup σ3 58 7 z.2.1) 58 5 0) 58 3 1, ?_, by rw [zup_s]; rfl, fun q => absurd q (by decide), ?_, by rw [zup_ne (by decide), zup_ne (by decide), zup_ne (by decide), q3.1 72 (by decide) (by decide), zup_ne (by decide)]⟩
      · unfold X6_execute
        rw [mlet_eq, q1, Option.bind_some]
        dsimp only
        rw [if_pos (by omega), q2.2.1]
        unfold X6_execute_J24
        rw [mlet_eq, if_pos (by omega), mlet_eq, if_pos (by omega), X6_fails_eq]
        rfl
      · refine h.exe (fun j a => by rw [o j (by omega) (by omega), e j (by omega) (by omega) (by omega)]) ?_ ?_ ?_ ?_ ?_ (by rw [o59]; exact hI) ?_ (fun i a b => ?_)
        · rw [o 0 (by decide) (by decide), hj 0 (by decide), zup_i (by decide), zup_ne (by decide), lo 0 (by decide)]
        · rw [o 0 (by decide) (by decide), hj 0 (by decide), zup_s, zup_i (by decide), zup_i (by decide), zup_s]
        · rw [o 34 (by decide) (by decide), hj 34 (by decide), zup_ne (by decide), zup_s]
        · rw [zup_i (by decide), zup_s]
        · rw [zup_i (by decide), zup_i (by decide), zup_i (by decide), q3.2 2 (by decide) (by decide), zup_i (by decide), e 58 (by decide) (by decide) (by decide)]
        · rw [o59]
          exact sRL_congr hR (fun j a b => by rw [o (1 + j) (by omega) (by omega), e (1 + j) (by omega) (by omega) (by omega)])
        · rw [o (1 + 9) (by decide) (by decide), e (1 + 9) (by decide) (by decide) (by decide)]
          exact hK i a b
  · have pos : 0 < z.1 := g1.resolve_left c
    have r5 : sRL (zup (zup σ2 34 1 0) 0 8 (-1)) 23 z.2.2 := sRL_congr b4 (fun j a b => by rw [zup_ne (by omega), zup_ne (by omega)])
    obtain ⟨σ4, d1, d2, d3, d4⟩ := X0_copyFrom_eq (σ := zup (zup σ2 34 1 0) 0 8 (-1)) (b := 1) (b2 := 23) (Or.inl (by decide)) (fun i u v => by rw [zup_ne (by decide), zup_ne (by decide)]; exact b5 i u v)
    have r6 := d4 z.2.2 g3.1 r5
    refine ⟨0, z.1, σ4, ?_, Or.inl rfl, fun σ' hj => ?_⟩
    · unfold X5_execute
      rw [a1, Option.bind_some, hb, Option.bind_some]
      dsimp only
      rw [mlet_eq, if_neg c, mlet_eq, d1]
      rfl
    · have e : ∀ j : Nat, ¬ (23 ≤ j ∧ j ≤ 34) → ¬ (j ≤ 11) → j ≠ 72 → σ' j = σ j := fun j u v w => by rw [hj j w, d2 j (by omega), zup_ne (by omega), zup_ne (by omega), lo j u]
      obtain ⟨σ3, q1, q2, q3, q4⟩ := com 0 (zup σ' 58 3 0) (Or.inl rfl) (by rw [zup_i (by decide), e 58 (by decide) (by decide) (by decide)]) (by rw [zup_ne (by decide), e 61 (by decide) (by decide) (by decide)]) (by rw [zup_ne (by decide), e 59 (by decide) (by decide) (by decide)])
      have q59 : σ3 59 = σ 59 := by
        rcases q4 with ⟨-, q, -⟩ | ⟨q, -⟩
        · exact q
        · exact absurd q (by decide)
      obtain ⟨σ5, u1, u2, u3, u4⟩ := com 1 (zup σ3 58 7 (-1)) (Or.inr rfl) (by rw [zup_i (by decide), q2.1]) (by rw [zup_ne (by decide), q2.2.2.1]) (by rw [zup_ne (by decide)]; exact q59)
      have u59 : σ5 59 = z.2.2 := by
        rcases u4 with ⟨q, -⟩ | ⟨-, q⟩
        · exact absurd q (by decide)
        · exact q
      have o : ∀ j : Nat, j ≠ 58 → j ≠ 59 → zup σ5 58 5 0 j = σ' j := fun j u v => by rw [zup_ne u, u3.1 j u v, zup_ne u, q3.1 j u v, zup_ne u]
      have o58 : ∀ i : Int, i ≠ 5 → i ≠ 6 → i ≠ 8 → i ≠ 7 → i ≠ 3 → zup σ5 58 5 0 58 i = σ 58 i := fun i x1 x2 x3 x4 x5 => by rw [zup_i x1, u3.2 i x2 x3, zup_i x4, q3.2 i x2 x3, zup_i x5, e 58 (by decide) (by decide) (by decide)]
      refine ⟨z.1, zup σ5 58 5 0, ?_, ?_, fun _ => rfl, ?_, by rw [zup_ne (by decide), u3.1 72 (by decide) (by decide), zup_ne (by decide), q3.1 72 (by decide) (by decide), zup_ne (by decide)]⟩
      · unfold X6_execute
        rw [mlet_eq, q1, Option.bind_some]
        dsimp only
        rw [if_neg (by omega)]
        unfold X6_execute_J24
        rw [mlet_eq, if_neg (by omega), u1, Option.bind_some]
        dsimp only
        rw [mlet_eq, if_neg (by omega)]
      · rw [zup_i (by decide), u3.2 3 (by decide) (by decide), zup_i (by decide), q3.2 3 (by decide) (by decide), zup_s]
        rfl
      · refine h.exe (fun j a => by rw [o j (by omega) (by omega), e j (by omega) (by omega) (by omega)]) ?_ ?_ ?_ ?_ (o58 2 (by decide) (by decide) (by decide) (by decide) (by decide)) (by rw [zup_ne (by decide), u59]; exact g3) ?_ (fun i a b => ?_)
        · rw [o 0 (by decide) (by decide), hj 0 (by decide), d2 0 (by decide), zup_i (by decide), zup_ne (by decide), lo 0 (by decide)]
        · rw [o 0 (by decide) (by decide), hj 0 (by decide), d2 0 (by decide), zup_s, zup_i (by decide), u3.2 7 (by decide) (by decide), zup_s]
        · rw [o 34 (by decide) (by decide), hj 34 (by decide), d2 34 (by decide), zup_ne (by decide), zup_s]
        · rw [zup_s]
        · rw [zup_ne (by decide), u59]
          exact sRL_congr r6 (fun j a b => by rw [o (1 + j) (by omega) (by omega), hj (1 + j) (by omega)])
        · rw [o (1 + 9) (by decide) (by decide), hj (1 + 9) (by decide)]
          exact d3 i a b
