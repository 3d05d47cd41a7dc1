/-! precedes -/
def sEdge (g : Int → Int) (d s t : Int) : Prop := (0 ≤ d ∧ d < g 1) ∧ sFar g d = 0 ∧ sSrc g d = s ∧ sTgt g d = t
def rch (g : Int → Int) (a : Int) : Nat → Int → Prop
  | 0, _ => False
  | n + 1, t => ∃ d s, sEdge g d s t ∧ (s = a ∨ rch g a n s)
theorem sEdge_b {g : Int → Int} (hI : sInv g) {d s t : Int} (h : sEdge g d s t) : (0 ≤ s ∧ s < g 0) ∧ (0 ≤ t ∧ t < g 0) ∧ plc g s < plc g t := by
  obtain ⟨h1, h2, h3, h4⟩ := h
  obtain ⟨-, f1, f2, -⟩ := hI.1.2.2.2.2.2 d h1.1 h1.2
  have := hI.2 d h1.1 h1.2 h2
  rw [h3] at f1 this
  rw [h4] at f2 this
  exact ⟨f1, f2, this⟩
theorem rch_low {g : Int → Int} (hI : sInv g) {a : Int} : ∀ (n m : Nat) (t : Int), rch g a n t → plc g t ≤ m → rch g a m t := by
  intro n
  induction n with
  | zero => intro m t h; exact h.elim
  | succ n ih =>
    intro m t h hm
    obtain ⟨d, s, he, hs⟩ := h
    obtain ⟨b1, b2, b3⟩ := sEdge_b hI he
    have p0 := (plc_spec hI.1 b1.1 b1.2).1
    obtain ⟨m, rfl⟩ : ∃ m', m = m' + 1 := ⟨m - 1, by omega⟩
    refine ⟨d, s, he, ?_⟩
    rcases hs with hs | hs
    · exact Or.inl hs
    · exact Or.inr (ih m s hs (by omega))
def sSnd (g : Int → Int) (a z : Int) : Prop := ∀ t, 0 ≤ t → t < 8 → bt z t → ∃ n, rch g a n t
theorem X0_nextOf_L4_eq {σ : MM} {b : Nat} {g : Int → Int} {s : Int} {k : Int → Option Int} (hI : sInv0 g) (hR : sRL σ b g) : ∀ (n : Nat) (z d : Int), 0 ≤ d → d ≤ g 1 → g 1 - d < n → ∃ z' : Int, X0_nextOf_L4 b s σ k n z d = k z' ∧ ∀ t, 0 ≤ t → t < 8 → (bt z' t ↔ bt z t ∨ ∃ e, d ≤ e ∧ sEdge g e s t) := by
  have hm := hI.1.2.1
  have hn := hI.1.1
  intro n
  induction n with
  | zero => intro z d h1 h2 h3; omega
  | succ n ih =>
    intro z d h1 h2 h3
    rw [X0_nextOf_L4, hR.2.1]
    by_cases c : d < g 1
    · obtain ⟨-, e6, e7, e8, -⟩ := hR.2.2.2.2 d h1 c
      have ht := (hI.2.2.2.2.2 d h1 c).2.2.1
      rw [if_pos c, gd_t (by omega), e6, e7, e8]
      have skip : (¬ (sFar g d = 0 ∧ sSrc g d = s)) → ∃ z' : Int, X0_nextOf_L4 b s σ k n z (d + 1) = k z' ∧ ∀ t, 0 ≤ t → t < 8 → (bt z' t ↔ bt z t ∨ ∃ e, d ≤ e ∧ sEdge g e s t) := by
        intro hno
        obtain ⟨z', q1, q2⟩ := ih z (d + 1) (by omega) (by omega) (by omega)
        refine ⟨z', q1, fun t u v => (q2 t u v).trans (or_congr Iff.rfl ⟨fun ⟨e, w1, w2⟩ => ⟨e, by omega, w2⟩, fun ⟨e, w1, w2⟩ => ?_⟩)⟩
        by_cases ed : e = d
        · rw [ed] at w2
          exact absurd ⟨w2.2.1, w2.2.2.1⟩ hno
        · exact ⟨e, by omega, w2⟩
      by_cases c1 : sFar g d = 0
      · rw [if_pos c1]
        by_cases c2 : sSrc g d = s
        · rw [if_pos c2]
          obtain ⟨z', q1, q2⟩ := ih (jor z (jshl 1 (sTgt g d))) (d + 1) (by omega) (by omega) (by omega)
          refine ⟨z', q1, fun t u v => ?_⟩
          rw [q2 t u v, bt_or ⟨u, v⟩, bt_shl (by omega) ⟨u, v⟩]
          constructor
          · rintro ((w | w) | ⟨e, w1, w2⟩)
            · exact Or.inl w
            · exact Or.inr ⟨d, Int.le_refl _, ⟨h1, c⟩, c1, c2, w⟩
            · exact Or.inr ⟨e, by omega, w2⟩
          · rintro (w | ⟨e, w1, w2⟩)
            · exact Or.inl (Or.inl w)
            · by_cases ed : e = d
              · rw [ed] at w2
                exact Or.inl (Or.inr w2.2.2.2)
              · exact Or.inr ⟨e, by omega, w2⟩
        · rw [if_neg c2]
          exact skip (fun q => c2 q.2)
      · rw [if_neg c1]
        exact skip (fun q => c1 q.1)
    · rw [if_neg c]
      exact ⟨z, rfl, fun t u v => ⟨Or.inl, fun w => w.elim id (fun ⟨e, w1, w2⟩ => absurd w2.1.2 (by omega))⟩⟩
theorem X0_nextOf_eq {σ : MM} {b : Nat} {g : Int → Int} {s : Int} (hI : sInv0 g) (hR : sRL σ b g) : ∃ z' : Int, X0_nextOf b s σ = some z' ∧ ∀ t, 0 ≤ t → t < 8 → (bt z' t ↔ ∃ e, sEdge g e s t) := by
  have hm := hI.1.2.1
  obtain ⟨z', q1, q2⟩ := X0_nextOf_L4_eq (k := fun z9 => some z9) (s := s) hI hR 100000 0 0 (by omega) (by omega) (by omega)
  refine ⟨z', q1, fun t u v => (q2 t u v).trans ⟨fun w => ?_, fun ⟨e, w⟩ => Or.inr ⟨e, w.1.1, w⟩⟩⟩
  rcases w with w | ⟨e, -, w⟩
  · exact absurd w (bt_0 ⟨u, v⟩)
  · exact ⟨e, w⟩
theorem X0_followersOf_L8_eq {σ : MM} {g : Int → Int} {a : Int} {k : Int → Option Int} (hI : sInv g) (hR : sRL σ 1 g) : ∀ (n : Nat) (z p : Int), 0 ≤ p → p ≤ g 0 → g 0 - p < n → sSnd g a z → (∀ d s t, sEdge g d s t → plc g s < p → s = a ∨ bt z s → bt z t) → ∃ z' : Int, X0_followersOf_L8 1 a σ k n z p = k z' ∧ sSnd g a z' ∧ ∀ d s t, sEdge g d s t → s = a ∨ bt z' s → bt z' t := by
  have hn := hI.1.1.1
  intro n
  induction n with
  | zero => intro z p h1 h2 h3; omega
  | succ n ih =>
    intro z p h1 h2 h3 h4 h5
    rw [X0_followersOf_L8, hR.1]
    by_cases c : p < g 0
    · have hs := hI.1.2.2.1 p h1 c
      rw [if_pos c, X0_statementAt_at (by omega), Option.bind_some, (hR.2.2.2.1 p h1 c).2.2]
      have hpl := plc_of hI.1 h1 c
      generalize hx : g (20 + p) = x at *
      have uniq : ∀ s, 0 ≤ s → s < g 0 → plc g s = p → s = x := fun s u v w => plc_inj hI.1 u v hs.1 hs.2 (by rw [w, hpl])
      have take : (x = a ∨ bt z x) → ∃ z' : Int, ((X0_nextOf 1 x σ).bind fun r => X0_followersOf_L8 1 a σ k n (jor z r) (p + 1)) = k z' ∧ sSnd g a z' ∧ ∀ d s t, sEdge g d s t → s = a ∨ bt z' s → bt z' t := by
        intro hxa
        obtain ⟨w, q1, q2⟩ := X0_nextOf_eq (s := x) hI.1 hR
        rw [q1, Option.bind_some]
        refine ih (jor z w) (p + 1) (by omega) (by omega) (by omega) (fun t u v ht => ?_) (fun d s t he hp hst => ?_)
        · rw [bt_or ⟨u, v⟩, q2 t u v] at ht
          rcases ht with ht | ⟨e, ht⟩
          · exact h4 t u v ht
          · rcases hxa with hxa | hxa
            · exact ⟨1, e, x, ht, Or.inl hxa⟩
            · obtain ⟨m, hm⟩ := h4 x hs.1 (by omega) hxa
              exact ⟨m + 1, e, x, ht, Or.inr hm⟩
        · obtain ⟨b1, b2, b3⟩ := sEdge_b hI he
          rw [bt_or ⟨b2.1, by omega⟩, q2 t b2.1 (by omega)]
          by_cases e : plc g s = p
          · have := uniq s b1.1 b1.2 e
            subst this
            exact Or.inr ⟨d, he⟩
          · refine Or.inl (h5 d s t he (by omega) ?_)
            rcases hst with hst | hst
            · exact Or.inl hst
            · rw [bt_or ⟨b1.1, by omega⟩, q2 s b1.1 (by omega)] at hst
              rcases hst with hst | ⟨f, hf⟩
              · exact Or.inr hst
              · have := (sEdge_b hI hf).2.2
                omega
      by_cases c1 : x = a
      · rw [if_pos c1]
        exact take (Or.inl c1)
      · rw [if_neg c1]
        by_cases c2 : bt z x
        · rw [if_pos (show jand (jshr z x) 1 = 1 from c2)]
          exact take (Or.inr c2)
        · rw [if_neg (show ¬ jand (jshr z x) 1 = 1 from c2)]
          refine ih z (p + 1) (by omega) (by omega) (by omega) h4 (fun d s t he hp hst => ?_)
          obtain ⟨b1, b2, b3⟩ := sEdge_b hI he
          by_cases e : plc g s = p
          · have := uniq s b1.1 b1.2 e
            rw [this] at hst
            rcases hst with hst | hst
            · exact absurd hst c1
            · exact absurd hst c2
          · exact h5 d s t he (by omega) hst
    · rw [if_neg c]
      refine ⟨z, rfl, h4, fun d s t he hst => h5 d s t he ?_ hst⟩
      have b := sEdge_b hI he
      have := (plc_spec hI.1 b.1.1 b.1.2).1
      omega
theorem X0_followersOf_eq {σ : MM} {g : Int → Int} {a : Int} (hI : sInv g) (hR : sRL σ 1 g) (ha : 0 ≤ a ∧ a < g 0) : ∃ z : Int, X0_followersOf 1 a σ = some z ∧ ∀ t, 0 ≤ t → t < g 0 → (bt z t ↔ ∃ n, rch g a n t) := by
  have hn := hI.1.1.1
  have hp := (plc_spec hI.1 ha.1 ha.2).1
  obtain ⟨z, q1, q2, q3⟩ := X0_followersOf_L8_eq (a := a) (k := fun z17 => some z17) hI hR 100000 0 (plc g a) (by omega) (by omega) (by omega) (fun t u v w => absurd w (bt_0 ⟨u, v⟩)) (fun d s t he hlt hst => by
    have b := sEdge_b hI he
    rcases hst with hst | hst
    · rw [hst] at hlt; omega
    · exact absurd hst (bt_0 ⟨b.1.1, by omega⟩))
  refine ⟨z, ?_, fun t u v => ⟨q2 t u (by omega), fun ⟨n, hn⟩ => ?_⟩⟩
  · unfold X0_followersOf
    rw [X0_positionOf_at (by omega), Option.bind_some, show σ (1 + 2) a = plc g a from (hR.2.2.2.1 a ha.1 ha.2).2.1]
    exact q1
  · have key : ∀ (n : Nat) (t : Int), rch g a n t → bt z t := by
      intro n
      induction n with
      | zero => intro t h; exact h.elim
      | succ n ih =>
        intro t h
        obtain ⟨d, s, he, hs⟩ := h
        rcases hs with hs | hs
        · exact q3 d s t he (Or.inl hs)
        · exact q3 d s t he (Or.inr (ih s hs))
    exact key n t hn
theorem X6_precedes_L49_eq {σ : MM} {a a2 j : Int} {k : Int → MM → Option (Int × MM)} (hI : sInv (σ 59)) : ∀ (n : Nat) (z d : Int), 0 ≤ d → d ≤ σ 59 1 → σ 59 1 - d < n → sSnd (σ 59) a z →
    ∃ z' : Int, X6_precedes_L49 a a2 j k n z d σ = k z' σ ∧ sSnd (σ 59) a z' ∧ (∀ t, 0 ≤ t → t < 8 → bt z t → bt z' t) ∧ ∀ e s t, d ≤ e → sEdge (σ 59) e s t → s = a ∨ bt z s → bt z' t := by
  have hm := hI.1.1.2.1
  have hn := hI.1.1.1
  intro n
  induction n with
  | zero => intro z d h1 h2 h3; omega
  | succ n ih =>
    intro z d h1 h2 h3 h4
    rw [X6_precedes_L49]
    by_cases c : d < σ 59 1
    · have hd : 0 ≤ d ∧ d < 16 := by omega
      obtain ⟨-, f1, f2, -⟩ := hI.1.2.2.2.2.2 d h1 c
      rw [if_pos c, X6_source_eq hd, Option.bind_some]
      -- what one dependence adds
      have step : ∀ y : Int, (y = 0 ∧ ¬ (sSrc (σ 59) d = a ∨ bt z (sSrc (σ 59) d))) ∨ (y = 1 ∧ (sSrc (σ 59) d = a ∨ bt z (sSrc (σ 59) d))) → ∃ z' : Int, X6_precedes_J89 a a2 j (X6_precedes_L49 a a2 j k n) z d y σ = k z' σ ∧ sSnd (σ 59) a z' ∧ (∀ t, 0 ≤ t → t < 8 → bt z t → bt z' t) ∧ ∀ e s t, d ≤ e → sEdge (σ 59) e s t → s = a ∨ bt z s → bt z' t := by
        intro y hy
        unfold X6_precedes_J89
        rw [X6_far_eq hd, Option.bind_some]
        have same : (∀ t, sEdge (σ 59) d (sSrc (σ 59) d) t → ¬ (sSrc (σ 59) d = a ∨ bt z (sSrc (σ 59) d))) → ∃ z' : Int, X6_precedes_L49 a a2 j k n (jor z 0) (d + 1) σ = k z' σ ∧ sSnd (σ 59) a z' ∧ (∀ t, 0 ≤ t → t < 8 → bt z t → bt z' t) ∧ ∀ e s t, d ≤ e → sEdge (σ 59) e s t → s = a ∨ bt z s → bt z' t := by
          intro hno
          have hz : ∀ t, 0 ≤ t → t < 8 → (bt (jor z 0) t ↔ bt z t) := fun t u v => by
            rw [bt_or ⟨u, v⟩]
            exact ⟨fun w => w.elim id (fun q => absurd q (bt_0 ⟨u, v⟩)), Or.inl⟩
          obtain ⟨z', q1, q2, q3, q4⟩ := ih (jor z 0) (d + 1) (by omega) (by omega) (by omega) (fun t u v w => h4 t u v ((hz t u v).mp w))
          refine ⟨z', q1, q2, fun t u v w => q3 t u v ((hz t u v).mpr w), fun e s t he hE hs => ?_⟩
          by_cases ed : e = d
          · subst ed
            have := hE.2.2.1
            rw [← this] at hE hs
            exact absurd hs (hno t hE)
          · have b := sEdge_b hI hE
            exact q4 e s t (by omega) hE (hs.imp id (fun w => (hz s b.1.1 (by omega)).mpr w))
        by_cases c1 : sFar (σ 59) d = 0
        · rw [if_pos c1]
          rcases hy with ⟨hy, hno⟩ | ⟨hy, hyes⟩
          · rw [if_pos hy, gd_t (by omega)]
            exact same (fun _ _ => hno)
          · rw [if_neg (by omega), X6_target_eq hd, Option.bind_some, gd_t (by omega)]
            have hE : sEdge (σ 59) d (sSrc (σ 59) d) (sTgt (σ 59) d) := ⟨⟨h1, c⟩, c1, rfl, rfl⟩
            obtain ⟨z', q1, q2, q3, q4⟩ := ih (jor z (jshl 1 (sTgt (σ 59) d))) (d + 1) (by omega) (by omega) (by omega) (fun t u v w => by
              rw [bt_or ⟨u, v⟩, bt_shl (by omega) ⟨u, v⟩] at w
              rcases w with w | w
              · exact h4 t u v w
              · rw [w] at hE
                rcases hyes with hyes | hyes
                · exact ⟨1, d, _, hE, Or.inl hyes⟩
                · obtain ⟨m, hm⟩ := h4 _ f1.1 (by omega) hyes
                  exact ⟨m + 1, d, _, hE, Or.inr hm⟩)
            refine ⟨z', q1, q2, fun t u v w => q3 t u v ((bt_or ⟨u, v⟩).mpr (Or.inl w)), fun e s t he hE' hs => ?_⟩
            have b := sEdge_b hI hE'
            by_cases ed : e = d
            · subst ed
              exact q3 t b.2.1.1 (by omega) ((bt_or ⟨b.2.1.1, by omega⟩).mpr (Or.inr ((bt_shl (by omega) ⟨b.2.1.1, by omega⟩).mpr hE'.2.2.2)))
            · exact q4 e s t (by omega) hE' (hs.imp id (fun w => (bt_or ⟨b.1.1, by omega⟩).mpr (Or.inl w)))
        · rw [if_neg c1, gd_t (by omega)]
          exact same (fun t hE => absurd hE.2.1 c1)
      by_cases c1 : sSrc (σ 59) d = a
      · rw [if_pos c1]
        exact step 1 (Or.inr ⟨rfl, Or.inl c1⟩)
      · rw [if_neg c1, Option.bind_some]
        by_cases c2 : bt z (sSrc (σ 59) d)
        · rw [if_pos (show jand (jshr z (sSrc (σ 59) d)) 1 = 1 from c2)]
          exact step 1 (Or.inr ⟨rfl, Or.inr c2⟩)
        · rw [if_neg (show ¬ jand (jshr z (sSrc (σ 59) d)) 1 = 1 from c2)]
          exact step 0 (Or.inl ⟨rfl, fun q => q.elim c1 c2⟩)
    · rw [if_neg c]
      exact ⟨z, rfl, h4, fun _ _ _ w => w, fun e s t he hE => absurd hE.1.2 (by omega)⟩
theorem X6_precedes_L39_eq {σ : MM} {a a2 : Int} {k : Int → MM → Option (Int × MM)} (hI : sInv (σ 59)) : ∀ (n : Nat) (z j : Int), 0 ≤ j → j ≤ 8 → 8 - j < n → sSnd (σ 59) a z → (∀ t, 0 ≤ t → t < σ 59 0 → rch (σ 59) a j.toNat t → bt z t) →
    ∃ z' : Int, X6_precedes_L39 a a2 k n z j σ = k z' σ ∧ ∀ t, 0 ≤ t → t < σ 59 0 → (bt z' t ↔ ∃ n, rch (σ 59) a n t) := by
  have hn := hI.1.1.1
  have hm := hI.1.1.2.1
  intro n
  induction n with
  | zero => intro z j h1 h2 h3; omega
  | succ n ih =>
    intro z j h1 h2 h3 h4 h5
    rw [X6_precedes_L39]
    by_cases c : j < 8
    · rw [if_pos c]
      have key : ∀ N : Nat, σ 59 1 - 0 < N → ∃ z' : Int, X6_precedes_L49 a a2 j (fun z31 σ32 => X6_precedes_L39 a a2 k n z31 (j + 1) σ32) N z 0 σ = k z' σ ∧ ∀ t, 0 ≤ t → t < σ 59 0 → (bt z' t ↔ ∃ n, rch (σ 59) a n t) := by
        intro N hN
        obtain ⟨z1, q1, q2, q3, q4⟩ := X6_precedes_L49_eq (a := a) (a2 := a2) (j := j) (k := fun z31 σ32 => X6_precedes_L39 a a2 k n z31 (j + 1) σ32) hI N z 0 (by omega) (by omega) hN h4
        obtain ⟨z2, u1, u2⟩ := ih z1 (j + 1) (by omega) (by omega) (by omega) q2 (fun t u v w => by
          rw [show (j + 1).toNat = j.toNat + 1 by omega] at w
          obtain ⟨d, s, he, hs⟩ := w
          have b := sEdge_b hI he
          exact q4 d s t he.1.1 he (hs.imp id (fun q => h5 s b.1.1 b.1.2 q)))
        exact ⟨z2, q1.trans u1, u2⟩
      exact key 100000 (by omega)
    · rw [if_neg c]
      refine ⟨z, rfl, fun t u v => ⟨h4 t u (by omega), fun ⟨m, hm⟩ => h5 t u v (rch_low hI m j.toNat t hm ?_)⟩⟩
      have := (plc_spec hI.1 u v).1
      omega
theorem op_precedes {σ : MM} (h : ST σ) (a1 a2 : Int) : OpX (X5_precedes a1 a2 σ) (X6_precedes a1 a2) kF := by
  have hI := h.1
  have hn := hI.1.1.1
  have hS : ∀ (σ' : MM) (s : Int), σ' 59 = σ 59 → X6_isStatement s σ' = some (if 0 ≤ s ∧ s < σ 59 0 then 1 else 0) := fun σ' s hg => by rw [X6_isStatement_eq (by rw [hg]; exact hn), hg]
  have hC : ∀ s : Int, X0_hasStatement 1 s σ = some (if 0 ≤ s ∧ s < σ 59 0 then 1 else 0) := fun s => by rw [X0_hasStatement_eq, h.2.1.1]
  by_cases c1 : 0 ≤ a1 ∧ a1 < σ 59 0
  · by_cases c2 : 0 ≤ a2 ∧ a2 < σ 59 0
    · obtain ⟨z, q1, q2⟩ := X0_followersOf_eq hI h.2.1 c1
      have hz := q2 a2 c2.1 c2.2
      by_cases cr : ∃ n, rch (σ 59) a1 n a2
      · refine opX_ok (r := 1) rfl h ⟨σ, ?_, SE.rf⟩ (fun σ' h' hg _ => ⟨zup σ' 58 3 0, ?_, SE.thr, zup_s⟩)
        · unfold X5_precedes
          rw [hC, if_pos c1, Option.bind_some, if_neg (by decide), hC, if_pos c2, Option.bind_some, if_neg (by decide), q1, Option.bind_some, if_pos (show jand (jshr z a2) 1 = 1 from hz.mpr cr)]
        · obtain ⟨z', u1, u2⟩ := X6_precedes_L39_eq (σ := zup σ' 58 3 0) (a := a1) (a2 := a2) (k := fun z51 σ52 => if jand (jshr z51 a2) 1 = 1 then some (1, σ52) else some (0, σ52)) (by rw [zup59, hg]; exact hI) 100000 0 0 (by omega) (by omega) (by omega) (fun t u v w => absurd w (bt_0 ⟨u, v⟩)) (fun t u v w => w.elim)
          have hz' := u2 a2 c2.1 (by rw [zup59, hg]; exact c2.2)
          rw [zup59, hg] at hz'
          unfold X6_precedes
          rw [hS σ' a1 hg, if_pos c1, Option.bind_some, if_neg (by decide), hS σ' a2 hg, if_pos c2, Option.bind_some, if_neg (by decide), mlet_eq, if_neg (by rw [zup_s]; decide)]
          refine u1.trans ?_
          rw [if_pos (show jand (jshr z' a2) 1 = 1 from hz'.mpr cr)]
      · refine opX_ok (r := 0) rfl h ⟨σ, ?_, SE.rf⟩ (fun σ' h' hg _ => ⟨zup σ' 58 3 0, ?_, SE.thr, zup_s⟩)
        · unfold X5_precedes
          rw [hC, if_pos c1, Option.bind_some, if_neg (by decide), hC, if_pos c2, Option.bind_some, if_neg (by decide), q1, Option.bind_some, if_neg (show ¬ jand (jshr z a2) 1 = 1 from fun q => cr (hz.mp q))]
        · obtain ⟨z', u1, u2⟩ := X6_precedes_L39_eq (σ := zup σ' 58 3 0) (a := a1) (a2 := a2) (k := fun z51 σ52 => if jand (jshr z51 a2) 1 = 1 then some (1, σ52) else some (0, σ52)) (by rw [zup59, hg]; exact hI) 100000 0 0 (by omega) (by omega) (by omega) (fun t u v w => absurd w (bt_0 ⟨u, v⟩)) (fun t u v w => w.elim)
          have hz' := u2 a2 c2.1 (by rw [zup59, hg]; exact c2.2)
          rw [zup59, hg] at hz'
          unfold X6_precedes
          rw [hS σ' a1 hg, if_pos c1, Option.bind_some, if_neg (by decide), hS σ' a2 hg, if_pos c2, Option.bind_some, if_neg (by decide), mlet_eq, if_neg (by rw [zup_s]; decide)]
          refine u1.trans ?_
          rw [if_neg (show ¬ jand (jshr z' a2) 1 = 1 from fun q => cr (hz'.mp q))]
    · refine opX_ro (xo := 3) (r := 0) h ⟨σ, ?_, SE.rf⟩ (fun σ' h' hg _ => ⟨0, zup σ' 58 3 1, ?_, SE.thr, zup_s, fun e => absurd e (by decide)⟩)
      · unfold X5_precedes
        rw [hC, if_pos c1, Option.bind_some, if_neg (by decide), hC, if_neg c2, Option.bind_some, if_pos rfl]
      · unfold X6_precedes
        rw [hS σ' a1 hg, if_pos c1, Option.bind_some, if_neg (by decide), hS σ' a2 hg, if_neg c2, Option.bind_some, if_pos rfl, mlet_eq, if_pos (by rw [zup_s]; decide)]
  · refine opX_ro (xo := 3) (r := 0) h ⟨σ, ?_, SE.rf⟩ (fun σ' h' hg _ => ⟨0, zup σ' 58 3 1, ?_, SE.thr, zup_s, fun e => absurd e (by decide)⟩)
    · unfold X5_precedes
      rw [hC, if_neg c1, Option.bind_some, if_pos rfl]
    · unfold X6_precedes
      rw [hS σ' a1 hg, if_neg c1, Option.bind_some, if_pos rfl, mlet_eq, if_pos (by rw [zup_s]; decide)]
