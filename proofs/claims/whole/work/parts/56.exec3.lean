theorem fr3.up {σ σ' : MM} {v : Int} (h : fr3 σ σ') : fr3 σ (zup σ' 34 2 v) := fun j hj => by rw [zup_ne (by omega), h j hj]
theorem rC.fr {w : Int → Int} {L : Int} {r : Option (Int × MM)} {z : Int × Int × (Int → Int)} {σ σ1 : MM} (h : rC w L r z σ1) (hf : fr3 σ σ1) : rC w L r z σ := by
  obtain ⟨σ', q1, q2, q3, q4, q5⟩ := h
  exact ⟨σ', q1, q2, fun j hj => (q3 j hj).trans (hf j hj), q4, q5⟩
theorem rC.end {w : Int → Int} {L q : Int} {g : Int → Int} {σ σ1 : MM} (hT : tC w L q σ1) (hf : fr3 σ σ1) (hR : sRL σ1 23 g) (hK : sKB σ1 23) : rC w L (some (0, σ1)) (0, q, g) σ := ⟨σ1, rfl, hT, hf, hR, hK⟩
theorem X4_readDependence_eq {w g : Int → Int} {L p k : Int} {σ : MM} (hI : sInv g) (hT : tC w L p σ) (hp : p ≤ 60) (hR : sRL σ 23 g) (hK : sKB σ 23) : rC w L (X4_readDependence 23 k σ) (rdD w L k p g) σ := by
  have hp0 := hT.2.2.2.2
  have hn := hI.1.1.1
  have hd1 := dgt_b (ch w L (p + 1))
  have hd3 := dgt_b (ch w L (p + 3))
  have hd5 := dgt_b (ch w L (p + 5))
  have f0 : fr3 σ σ := fun _ _ => rfl
  unfold X4_readDependence rdD
  rw [hR.2.1]
  by_cases c : g 1 < 16
  · rw [if_pos c, if_pos c, hT.2.1, gd_t (by omega), mlet_eq]
    have t1 := hT.up (q := p + 1) (by omega)
    have r1 := sRL_34 (v := p + 1) hR
    have k1 := sKB_34 (v := p + 1) hK
    have f1 := f0.up (v := p + 1)
    generalize zup σ 34 2 (p + 1) = s1 at t1 r1 k1 f1 ⊢
    rw [t1.dg, Option.bind_some, X0_hasStatement_eq, r1.1, Option.bind_some]
    by_cases c1 : 0 ≤ dgt (ch w L (p + 1)) ∧ dgt (ch w L (p + 1)) < g 0
    · rw [if_pos c1, if_pos c1, if_neg (by decide), t1.2.1, gd_t (by omega), mlet_eq, show p + 1 + 1 = p + 2 by omega]
      have t2 := t1.up (q := p + 2) (by omega)
      have r2 := sRL_34 (v := p + 2) r1
      have k2 := sKB_34 (v := p + 2) k1
      have f2 := f1.up (v := p + 2)
      generalize zup s1 34 2 (p + 2) = s2 at t2 r2 k2 f2 ⊢
      rw [t2.pass]
      by_cases c2 : ch w L (p + 2) = 62
      · rw [if_pos c2, if_pos c2, Option.bind_some]
        dsimp only
        rw [if_neg (by decide), show p + 2 + 1 = p + 3 by omega]
        have t3 := t2.up (q := p + 3) (by omega)
        have r3 := sRL_34 (v := p + 3) r2
        have k3 := sKB_34 (v := p + 3) k2
        have f3 := f2.up (v := p + 3)
        generalize zup s2 34 2 (p + 3) = s3 at t3 r3 k3 f3 ⊢
        rw [t3.dg, Option.bind_some, X0_hasStatement_eq, r3.1, Option.bind_some]
        by_cases c3 : 0 ≤ dgt (ch w L (p + 3)) ∧ dgt (ch w L (p + 3)) < g 0
        · rw [if_pos c3, if_pos c3, if_neg (by decide), t3.2.1, gd_t (by omega), mlet_eq, show p + 3 + 1 = p + 4 by omega]
          have t4 := t3.up (q := p + 4) (by omega)
          have r4 := sRL_34 (v := p + 4) r3
          have k4 := sKB_34 (v := p + 4) k3
          have f4 := f3.up (v := p + 4)
          generalize zup s3 34 2 (p + 4) = s4 at t4 r4 k4 f4 ⊢
          rw [t4.pass]
          by_cases c4 : ch w L (p + 4) = 58
          · rw [if_pos c4, if_pos c4, Option.bind_some]
            dsimp only
            rw [if_neg (by decide), show p + 4 + 1 = p + 5 by omega]
            have t5 := t4.up (q := p + 5) (by omega)
            have r5 := sRL_34 (v := p + 5) r4
            have k5 := sKB_34 (v := p + 5) k4
            have f5 := f4.up (v := p + 5)
            generalize zup s4 34 2 (p + 5) = s5 at t5 r5 k5 f5 ⊢
            have fin := (X4_readDependence_J135_eq (k := k) (s := dgt (ch w L (p + 1))) (t := dgt (ch w L (p + 3))) (f := dgt (ch w L (p + 5))) hI c t5 (by omega) r5 k5).fr f5
            rw [show p + 5 + 1 = p + 6 by omega, show p + 5 + 2 = p + 7 by omega] at fin
            rw [t5.dg, Option.bind_some]
            by_cases c5 : 0 ≤ dgt (ch w L (p + 5)) ∧ dgt (ch w L (p + 5)) ≤ 5
            · rw [if_pos c5, if_neg (by omega), if_neg (by omega)]
              by_cases c6 : dgt (ch w L (p + 5)) = 0
              · rw [if_pos c6, X0_positionOf_at (by omega), Option.bind_some, X0_positionOf_at (by omega), Option.bind_some, (r5.2.2.2.1 _ c1.1 c1.2).2.1, (r5.2.2.2.1 _ c3.1 c3.2).2.1]
                by_cases c7 : plc g (dgt (ch w L (p + 1))) < plc g (dgt (ch w L (p + 3)))
                · rw [if_pos c7, if_neg (show ¬ (dgt (ch w L (p + 5)) = 0 ∧ ¬ plc g (dgt (ch w L (p + 1))) < plc g (dgt (ch w L (p + 3)))) from fun q => q.2 c7)]
                  exact fin
                · rw [if_neg c7, if_pos (show dgt (ch w L (p + 5)) = 0 ∧ ¬ plc g (dgt (ch w L (p + 1))) < plc g (dgt (ch w L (p + 3))) from ⟨c6, c7⟩)]
                  exact rC.end t5 f5 r5 k5
              · rw [if_neg c6, if_neg (show ¬ (dgt (ch w L (p + 5)) = 0 ∧ ¬ plc g (dgt (ch w L (p + 1))) < plc g (dgt (ch w L (p + 3)))) from fun q => c6 q.1)]
                exact fin
            · rw [if_neg c5]
              by_cases c6 : dgt (ch w L (p + 5)) < 0
              · rw [if_pos c6]
                exact rC.end t5 f5 r5 k5
              · rw [if_neg c6, if_pos (by omega)]
                exact rC.end t5 f5 r5 k5
          · rw [if_neg c4, if_neg c4, Option.bind_some]
            dsimp only
            rw [if_pos rfl]
            exact rC.end t4 f4 r4 k4
        · rw [if_neg c3, if_neg c3, if_pos rfl]
          exact rC.end t3 f3 r3 k3
      · rw [if_neg c2, if_neg c2, Option.bind_some]
        dsimp only
        rw [if_pos rfl]
        exact rC.end t2 f2 r2 k2
    · rw [if_neg c1, if_neg c1, if_pos rfl]
      exact rC.end t1 f1 r1 k1
  · rw [if_neg c, if_neg c]
    exact rC.end hT f0 hR hK
theorem rC.eta {w : Int → Int} {L : Int} {r : Option (Int × MM)} {z : Int × Int × (Int → Int)} {σ : MM} (h : rC w L r z σ) : rC w L (r.bind fun (r5, σ7) => some (r5, σ7)) z σ := by
  obtain ⟨σ', q1, q2⟩ := h
  exact ⟨σ', by rw [q1]; rfl, q2⟩
theorem X4_readCommand_eq {w g : Int → Int} {L p : Int} {σ : MM} (hI : sInv g) (hT : tC w L p σ) (hp : p ≤ 60) (hR : sRL σ 23 g) (hK : sKB σ 23) : rC w L (X4_readCommand 23 σ) (rd w L p g) σ := by
  unfold X4_readCommand rd
  rw [hT.cur, Option.bind_some]
  by_cases c1 : ch w L p = 97
  · rw [if_pos c1, if_neg (show ¬ ch w L p = 115 by omega), if_pos c1]
    exact (X4_readDependence_eq hI hT hp hR hK).eta
  · by_cases c2 : ch w L p = 102
    · rw [if_neg c1, if_pos c2, if_neg (show ¬ ch w L p = 115 by omega), if_neg c1, if_pos c2]
      exact (X4_readDependence_eq hI hT hp hR hK).eta
    · by_cases c3 : ch w L p = 111
      · rw [if_neg c1, if_neg c2, if_pos c3, if_neg (show ¬ ch w L p = 115 by omega), if_neg c1, if_neg c2, if_pos c3]
        exact (X4_readDependence_eq hI hT hp hR hK).eta
      · rw [if_neg c1, if_neg c2, if_neg c3]
        by_cases c4 : ch w L p = 115
        · rw [if_pos c4, if_pos c4]
          exact (X4_readStatement_eq hI hT hp hR hK).eta
        · rw [if_neg c4, if_neg c4, if_neg c1, if_neg c2, if_neg c3]
          exact rC.end hT (fun _ _ => rfl) hR hK
theorem X4_readInto_L7_eq {w : Int → Int} {L : Int} : ∀ (f N : Nat) (p c : Int) (g : Int → Int) (σ : MM), f < N → c + f = 60 → sInv g → tC w L p σ → p ≤ 60 → sRL σ 23 g → sKB σ 23 → rC w L (X4_readInto_L7 23 (fun σ12 => some (-1, σ12)) N (c + 1) σ) (rdA w L f p g c) σ := by
  intro f
  induction f with
  | zero =>
    intro N p c g σ h1 h2 hI hT hp hR hK
    obtain ⟨N, rfl⟩ : ∃ M, N = M + 1 := ⟨N - 1, by omega⟩
    rw [X4_readInto_L7, if_pos (by omega)]
    exact ⟨σ, rfl, hT, fun _ _ => rfl, hR, hK⟩
  | succ f ih =>
    intro N p c g σ h1 h2 hI hT hp hR hK
    obtain ⟨N, rfl⟩ : ∃ M, N = M + 1 := ⟨N - 1, by omega⟩
    obtain ⟨σ1, q1, q2, q3, q4, q5⟩ := X4_readCommand_eq hI hT hp hR hK
    obtain ⟨-, g2, g3, -⟩ := rd_g (w := w) (L := L) (p := p) hI
    rw [X4_readInto_L7, if_neg (by omega), q1, Option.bind_some, rdA]
    dsimp only
    by_cases c1 : (rd w L p g).1 = 0
    · rw [if_pos c1, if_pos c1]
      exact ⟨σ1, rfl, q2, q3, q4, q5⟩
    · rw [if_neg c1, if_neg c1, q2.2.1, q2.1]
      by_cases c2 : (rd w L p g).2.1 < L
      · have hL := q2.2.2.2.1
        rw [if_pos c2, if_pos c2]
        exact (ih N (rd w L p g).2.1 (c + 1) (rd w L p g).2.2 σ1 (by omega) (by omega) g3 q2 (by omega) q4 q5).fr q3
      · rw [if_neg c2, if_neg c2]
        exact ⟨σ1, rfl, q2, q3, q4, q5⟩
