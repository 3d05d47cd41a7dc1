theorem X6_readsStatement_eq {w g0 g : Int → Int} {L p a : Int} {σ : MM} (ha : a = 0 ∨ a = 1) (hI : sInv g) (hT : tR w L p σ) (hp : p ≤ 60) (hM : rM a g0 g σ) : rR w L a g0 (X6_readsStatement (g 0) a σ) (rdS w L p g) σ := by
  have hp0 := hT.2.2.2.2.2
  have hn := hI.1.1.1
  have hd := dgt_b (ch w L (p + 1))
  have f0 : fr6 σ σ := fr6.rf
  unfold X6_readsStatement rdS
  by_cases c : g 0 < 8
  · rw [if_pos c, if_neg (by omega), hT.2.1, gd_t (by omega), mlet_eq]
    have t1 := hT.up (q := p + 1) (by omega)
    have m1 : rM a g0 g (zup σ 58 6 (p + 1)) := hM.cg (zup_ne (by decide))
    have f1 := f0.up (v := p + 1)
    generalize zup σ 58 6 (p + 1) = s1 at t1 m1 f1 ⊢
    rw [t1.take (by decide) (by decide)]
    by_cases c1 : dgt (ch w L (p + 1)) < 1
    · rw [if_pos c1, if_neg (by omega), Option.bind_some]
      dsimp only
      rw [if_pos rfl]
      exact rR.end t1 f1 m1
    · rw [if_neg c1, if_pos (by omega), Option.bind_some]
      dsimp only
      rw [if_neg (by decide), show p + 1 + 1 = p + 2 by omega]
      have t2 := (t1.up8 (v := dgt (ch w L (p + 1)))).up (q := p + 2) (by omega)
      have m2 : rM a g0 g (zup (zup s1 58 8 (dgt (ch w L (p + 1)))) 58 6 (p + 2)) := m1.cg (by rw [zup_ne (by decide), zup_ne (by decide)])
      have f2 := (f1.up8 (v := dgt (ch w L (p + 1)))).up (v := p + 2)
      have e8 : zup (zup s1 58 8 (dgt (ch w L (p + 1)))) 58 6 (p + 2) 58 8 = dgt (ch w L (p + 1)) := by rw [zup_i (by decide), zup_s]
      generalize zup (zup s1 58 8 (dgt (ch w L (p + 1)))) 58 6 (p + 2) = s2 at t2 m2 f2 e8 ⊢
      rw [t2.skip (by decide)]
      by_cases c2 : ch w L (p + 2) = 59
      · rw [if_pos c2, if_pos c2, Option.bind_some]
        dsimp only
        rw [if_neg (by decide), show p + 2 + 1 = p + 3 by omega, e8]
        have t3 := t2.up (q := p + 3) (by omega)
        have m3 : rM a g0 g (zup s2 58 6 (p + 3)) := m2.cg (zup_ne (by decide))
        have f3 := f2.up (v := p + 3)
        generalize zup s2 58 6 (p + 3) = s3 at t3 m3 f3 ⊢
        have hc : 1 ≤ dgt (ch w L (p + 1)) ∧ dgt (ch w L (p + 1)) ≤ 9 := by omega
        by_cases c3 : a = 0
        · rw [if_pos c3]
          refine ⟨s3, rfl, t3, f3, m3.grow c3 ?_ (fun s u v => ?_)⟩
          · dsimp only
            rw [addS_0]
            omega
          · dsimp only at v ⊢
            rw [addS_0] at v
            rw [addS_plc hI.1 c hc u (by omega)]
            by_cases e : s = g 0
            · rw [if_pos e, if_neg (by omega), e]
            · rw [if_neg e, if_pos (by omega)]
        · have h59 : s3 59 = g := by
            rcases m3 with ⟨q, -⟩ | ⟨-, q⟩
            · exact absurd q c3
            · exact q
          have x2 : zup (zup s3 59 (10 + g 0) (dgt (ch w L (p + 1)))) 59 (20 + g 0) (g 0) 59 0 = g 0 := by rw [zup_i (by omega), zup_i (by omega), h59]
          rw [if_neg c3, gd_t (by omega), mlet_eq, gd_t (by omega), mlet_eq, x2, gd_t (by omega), mlet_eq]
          refine ⟨_, rfl, ⟨by rw [zup_ne (by decide), zup_ne (by decide), zup_ne (by decide)]; exact t3.1, by rw [zup_ne (by decide), zup_ne (by decide), zup_ne (by decide)]; exact t3.2.1, by rw [zup_ne (by decide), zup_ne (by decide), zup_ne (by decide)]; exact t3.2.2.1, t3.2.2.2⟩, f3.up9.up9.up9, Or.inr ⟨by omega, ?_⟩⟩
          rw [zup_row, zup_row, zup_row, h59]
          rfl
      · rw [if_neg c2, if_neg c2, Option.bind_some]
        dsimp only
        rw [if_pos rfl]
        exact rR.end t2 f2 m2
  · rw [if_neg c, if_pos (by omega)]
    exact rR.end hT f0 hM
theorem X6_readsDependence_J114_eq {w g0 g : Int → Int} {L p a k s t : Int} {σ : MM} (ha : a = 0 ∨ a = 1) (hI : sInv g) (hm : g 1 < 16) (hT : tR w L p σ) (hp : p ≤ 65) (hM : rM a g0 g σ) (hf : 0 ≤ dgt (ch w L p) ∧ dgt (ch w L p) ≤ 5) : rR w L a g0 (X6_readsDependence_J114 k (g 1) a s t σ) (if ch w L (p + 1) = 59 then (1, p + 2, addD g k s t (dgt (ch w L p))) else (0, p + 1, g)) σ := by
  have hp0 := hT.2.2.2.2.2
  have m0 := hI.1.1.2.1.1
  have t1 := hT.up (q := p + 1) (by omega)
  have f1 := (fr6.rf (σ := σ)).up (v := p + 1)
  have m1 : rM a g0 g (zup σ 58 6 (p + 1)) := hM.cg (zup_ne (by decide))
  have e2 : hr w L p - 48 = dgt (ch w L p) := by
    have h1 : 48 ≤ ch w L p ∧ ch w L p ≤ 57 := by
      unfold dgt at hf
      split at hf
      · assumption
      · omega
    have : hr w L p = ch w L p := (hr_eq (by omega)).mpr rfl
    unfold dgt
    rw [if_pos h1, this]
  unfold X6_readsDependence_J114
  rw [hT.here, Option.bind_some, hT.2.1, gd_t (by omega), mlet_eq]
  generalize zup σ 58 6 (p + 1) = s1 at t1 m1 f1 ⊢
  rw [t1.skip (by decide)]
  by_cases c2 : ch w L (p + 1) = 59
  · rw [if_pos c2, if_pos c2, Option.bind_some]
    dsimp only
    rw [if_neg (by decide), show p + 1 + 1 = p + 2 by omega, e2]
    have t2 := t1.up (q := p + 2) (by omega)
    have m2 : rM a g0 g (zup s1 58 6 (p + 2)) := m1.cg (zup_ne (by decide))
    have f2 := f1.up (v := p + 2)
    generalize zup s1 58 6 (p + 2) = s2 at t2 m2 f2 ⊢
    by_cases c3 : a = 0
    · rw [if_pos c3]
      refine ⟨s2, rfl, t2, f2, m2.grow c3 ?_ (fun x u v => ?_)⟩
      · dsimp only
        rw [addD_n (by omega) (by omega)]
        omega
      · dsimp only at v ⊢
        rw [addD_n (by omega) (by omega)] at v
        rw [addD_plc m0, if_pos v]
    · have h59 : s2 59 = g := by
        rcases m2 with ⟨q, -⟩ | ⟨-, q⟩
        · exact absurd q c3
        · exact q
      have hd : 0 ≤ g 1 ∧ g 1 < 16 := ⟨m0, hm⟩
      have x1 : zup (zup (zup (zup (zup s2 59 (30 + 5 * g 1 + 0) k) 59 (30 + 5 * g 1 + 1) s) 59 (30 + 5 * g 1 + 2) t) 59 (30 + 5 * g 1 + 3) (dgt (ch w L p))) 59 (30 + 5 * g 1 + 4) 1 59 1 = g 1 := by rw [zup_i (by omega), zup_i (by omega), zup_i (by omega), zup_i (by omega), zup_i (by omega), h59]
      rw [if_neg c3, X6_at_eq hd (by decide), Option.bind_some, gd_t (by omega), mlet_eq, X6_at_eq hd (by decide), Option.bind_some, gd_t (by omega), mlet_eq, X6_at_eq hd (by decide), Option.bind_some, gd_t (by omega), mlet_eq, X6_at_eq hd (by decide), Option.bind_some, gd_t (by omega), gd_t (by omega), mlet_eq, X6_at_eq hd (by decide), Option.bind_some, gd_t (by omega), mlet_eq, x1, gd_t (by omega), mlet_eq]
      refine ⟨_, rfl, ⟨?_, ?_, ?_, t2.2.2.2⟩, f2.up9.up9.up9.up9.up9.up9, Or.inr ⟨by omega, ?_⟩⟩
      · rw [zup_ne (by decide), zup_ne (by decide), zup_ne (by decide), zup_ne (by decide), zup_ne (by decide), zup_ne (by decide)]
        exact t2.1
      · rw [zup_ne (by decide), zup_ne (by decide), zup_ne (by decide), zup_ne (by decide), zup_ne (by decide), zup_ne (by decide)]
        exact t2.2.1
      · rw [zup_ne (by decide), zup_ne (by decide), zup_ne (by decide), zup_ne (by decide), zup_ne (by decide), zup_ne (by decide)]
        exact t2.2.2.1
      · rw [zup_row, zup_row, zup_row, zup_row, zup_row, zup_row, h59]
        rfl
  · rw [if_neg c2, if_neg c2, Option.bind_some]
    dsimp only
    rw [if_pos rfl]
    exact rR.end t1 f1 m1
theorem X6_readsDependence_eq {w g0 g : Int → Int} {L p a k : Int} {σ : MM} (ha : a = 0 ∨ a = 1) (hI : sInv g) (hT : tR w L p σ) (hp : p ≤ 60) (hM : rM a g0 g σ) : rR w L a g0 (X6_readsDependence k (g 0) (g 1) a σ) (rdD w L k p g) σ := by
  have hp0 := hT.2.2.2.2.2
  have hn := hI.1.1.1
  have hm := hI.1.1.2.1
  have hd1 := dgt_b (ch w L (p + 1))
  have hd3 := dgt_b (ch w L (p + 3))
  have hd5 := dgt_b (ch w L (p + 5))
  have f0 : fr6 σ σ := fr6.rf
  unfold X6_readsDependence rdD
  by_cases c : g 1 < 16
  · rw [if_pos c, if_neg (by omega), hT.2.1, gd_t (by omega), mlet_eq, gd_t (by omega)]
    have t1 := hT.up (q := p + 1) (by omega)
    have m1 : rM a g0 g (zup σ 58 6 (p + 1)) := hM.cg (zup_ne (by decide))
    have f1 := f0.up (v := p + 1)
    generalize zup σ 58 6 (p + 1) = s1 at t1 m1 f1 ⊢
    rw [t1.take (by decide) (by omega)]
    by_cases c1 : 0 ≤ dgt (ch w L (p + 1)) ∧ dgt (ch w L (p + 1)) < g 0
    · rw [if_pos c1, if_pos (by omega), Option.bind_some]
      dsimp only
      rw [if_neg (by decide), show p + 1 + 1 = p + 2 by omega]
      have t2 := (t1.up8 (v := dgt (ch w L (p + 1)))).up (q := p + 2) (by omega)
      have m2 : rM a g0 g (zup (zup s1 58 8 (dgt (ch w L (p + 1)))) 58 6 (p + 2)) := m1.cg (by rw [zup_ne (by decide), zup_ne (by decide)])
      have f2 := (f1.up8 (v := dgt (ch w L (p + 1)))).up (v := p + 2)
      have e8 : zup (zup s1 58 8 (dgt (ch w L (p + 1)))) 58 6 (p + 2) 58 8 = dgt (ch w L (p + 1)) := by rw [zup_i (by decide), zup_s]
      generalize zup (zup s1 58 8 (dgt (ch w L (p + 1)))) 58 6 (p + 2) = s2 at t2 m2 f2 e8 ⊢
      rw [t2.skip (by decide), e8]
      by_cases c2 : ch w L (p + 2) = 62
      · rw [if_pos c2, if_pos c2, Option.bind_some]
        dsimp only
        rw [if_neg (by decide), show p + 2 + 1 = p + 3 by omega]
        have t3 := t2.up (q := p + 3) (by omega)
        have m3 : rM a g0 g (zup s2 58 6 (p + 3)) := m2.cg (zup_ne (by decide))
        have f3 := f2.up (v := p + 3)
        generalize zup s2 58 6 (p + 3) = s3 at t3 m3 f3 ⊢
        rw [t3.take (by decide) (by omega)]
        by_cases c3 : 0 ≤ dgt (ch w L (p + 3)) ∧ dgt (ch w L (p + 3)) < g 0
        · rw [if_pos c3, if_pos (by omega), Option.bind_some]
          dsimp only
          rw [if_neg (by decide), show p + 3 + 1 = p + 4 by omega]
          have t4 := (t3.up8 (v := dgt (ch w L (p + 3)))).up (q := p + 4) (by omega)
          have m4 : rM a g0 g (zup (zup s3 58 8 (dgt (ch w L (p + 3)))) 58 6 (p + 4)) := m3.cg (by rw [zup_ne (by decide), zup_ne (by decide)])
          have f4 := (f3.up8 (v := dgt (ch w L (p + 3)))).up (v := p + 4)
          have e9 : zup (zup s3 58 8 (dgt (ch w L (p + 3)))) 58 6 (p + 4) 58 8 = dgt (ch w L (p + 3)) := by rw [zup_i (by decide), zup_s]
          generalize zup (zup s3 58 8 (dgt (ch w L (p + 3)))) 58 6 (p + 4) = s4 at t4 m4 f4 e9 ⊢
          rw [t4.skip (by decide), e9]
          by_cases c4 : ch w L (p + 4) = 58
          · rw [if_pos c4, if_pos c4, Option.bind_some]
            dsimp only
            rw [if_neg (by decide), show p + 4 + 1 = p + 5 by omega]
            have t5 := t4.up (q := p + 5) (by omega)
            have m5 : rM a g0 g (zup s4 58 6 (p + 5)) := m4.cg (zup_ne (by decide))
            have f5 := f4.up (v := p + 5)
            generalize zup s4 58 6 (p + 5) = s5 at t5 m5 f5 ⊢
            have i5 : (48 ≤ hr w L (p + 5) ∧ hr w L (p + 5) ≤ 53) ↔ (0 ≤ dgt (ch w L (p + 5)) ∧ dgt (ch w L (p + 5)) ≤ 5) := by
              rw [hr_in (by decide)]
              unfold dgt
              split <;> omega
            rw [t5.here, Option.bind_some, X6_in_eq, Option.bind_some]
            by_cases c5 : 0 ≤ dgt (ch w L (p + 5)) ∧ dgt (ch w L (p + 5)) ≤ 5
            · have fin := (X6_readsDependence_J114_eq (k := k) (s := dgt (ch w L (p + 1))) (t := dgt (ch w L (p + 3))) ha hI c t5 (by omega) m5 c5).fr f5
              rw [show p + 5 + 1 = p + 6 by omega, show p + 5 + 2 = p + 7 by omega] at fin
              have z5 : hr w L (p + 5) = 48 ↔ dgt (ch w L (p + 5)) = 0 := by
                rw [hr_eq (by decide)]
                unfold dgt
                split <;> omega
              rw [if_pos c5, if_pos (i5.mpr c5), if_neg (by decide), Option.bind_some]
              by_cases c6 : dgt (ch w L (p + 5)) = 0
              · rw [if_pos (z5.mpr c6), m5.stands hI c1, Option.bind_some, m5.stands hI c3, Option.bind_some]
                by_cases c7 : plc g (dgt (ch w L (p + 1))) < plc g (dgt (ch w L (p + 3)))
                · rw [if_pos c7, if_neg (show ¬ (dgt (ch w L (p + 5)) = 0 ∧ ¬ plc g (dgt (ch w L (p + 1))) < plc g (dgt (ch w L (p + 3)))) from fun q => q.2 c7)]
                  exact fin
                · rw [if_neg c7, if_pos (show dgt (ch w L (p + 5)) = 0 ∧ ¬ plc g (dgt (ch w L (p + 1))) < plc g (dgt (ch w L (p + 3))) from ⟨c6, c7⟩)]
                  exact rR.end t5 f5 m5
              · rw [if_neg (fun q => c6 (z5.mp q)), if_neg (show ¬ (dgt (ch w L (p + 5)) = 0 ∧ ¬ plc g (dgt (ch w L (p + 1))) < plc g (dgt (ch w L (p + 3)))) from fun q => c6 q.1)]
                exact fin
            · rw [if_neg c5, if_neg (fun q => c5 (i5.mp q)), if_pos rfl]
              exact rR.end t5 f5 m5
          · rw [if_neg c4, if_neg c4, Option.bind_some]
            dsimp only
            rw [if_pos rfl]
            exact rR.end t4 f4 m4
        · rw [if_neg c3, if_neg (by omega), Option.bind_some]
          dsimp only
          rw [if_pos rfl]
          exact rR.end t3 f3 m3
      · rw [if_neg c2, if_neg c2, Option.bind_some]
        dsimp only
        rw [if_pos rfl]
        exact rR.end t2 f2 m2
    · rw [if_neg c1, if_neg (by omega), Option.bind_some]
      dsimp only
      rw [if_pos rfl]
      exact rR.end t1 f1 m1
  · rw [if_neg c, if_pos (by omega)]
    exact rR.end hT f0 hM
