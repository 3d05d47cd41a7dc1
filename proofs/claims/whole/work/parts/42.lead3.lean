theorem X6_goesOn_eq {σ : MM} {g : Int → Int} {L but mode x p : Int} (hg : σ 59 = g) (hI : sInv0 g) (hL : 0 ≤ L ∧ L ≤ 5) (hx : 0 ≤ x ∧ x ≤ 5) (hp : 0 ≤ p ∧ p < g 0) (hw : ¬ σ 62 (8 * x + p) < 0) (hB : σ 62 (8 * x + p) ≤ 100000) : ∃ σ' : MM, X6_goesOn x p but L mode σ = some σ' ∧ frW σ σ' ∧ σ' 62 = lwStep g L but mode x p (σ 62) := by
  have hn := hI.1.1
  have hm := hI.1.2.1
  have hP := hI.1.2.2.2.2.1
  have hs := hI.2.2.1 p hp.1 hp.2
  have hc := sCost_b hI hs.1 hs.2
  have fin : ∀ (N : Nat) (σ1 : MM), g 1 - 0 < N → σ1 59 = g → frW σ σ1 → σ1 62 = (if p + 1 < g 0 then mup (σ 62) (8 * x + p + 1) (σ 62 (8 * x + p) + sCost g (g (20 + p))) else if mode = 1 ∧ ¬ L < x + g 4 then mup (σ 62) (8 * (x + g 4)) (σ 62 (8 * x + p) + sCost g (g (20 + p))) else σ 62) → ∃ σ' : MM, X6_goesOn_L106 x but L (σ 62 (8 * x + p)) (g (20 + p)) (fun σ63 => some σ63) N 0 σ1 = some σ' ∧ frW σ σ' ∧ σ' 62 = lwStep g L but mode x p (σ 62) := by
    intro N σ1 hN h1 h2 h3
    obtain ⟨σ2, u1, u2, u3⟩ := X6_goesOn_L106_eq (but := but) (s := g (20 + p)) (v := σ 62 (8 * x + p)) (k := fun σ63 => some σ63) hI hL.2 hx (by omega) N 0 σ1 h1 (by omega) (by omega) hN
    refine ⟨σ2, u1, h2.tr u2, ?_⟩
    rw [u3, h3]
    exact (if_neg hw).symm
  unfold X6_goesOn
  rw [gd_t (by omega), gd_t (by omega), hg]
  by_cases c : p + 1 < g 0
  · obtain ⟨σ1, q1, q2, q3⟩ := X6_reaches_eq (σ := σ) (i := 8 * x + p + 1) (v := σ 62 (8 * x + p) + sCost g (g (20 + p))) (by omega)
    rw [if_pos c, X6_cost_eq (by omega), hg, Option.bind_some, gd_t (by omega), q1, Option.bind_some]
    exact fin 100000 σ1 (by omega) (by rw [q2 59 (by decide)]; exact hg) q2 (by rw [q3, if_pos c])
  · rw [if_neg c]
    by_cases cm : mode = 1
    · rw [if_pos cm, gd_t (by omega)]
      by_cases c2 : L < x + g 4
      · rw [if_pos c2]
        exact fin 100000 σ (by omega) hg (fun _ _ => rfl) (by rw [if_neg c, if_neg (fun q => q.2 c2)])
      · obtain ⟨σ1, q1, q2, q3⟩ := X6_reaches_eq (σ := σ) (i := 8 * (x + g 4)) (v := σ 62 (8 * x + p) + sCost g (g (20 + p))) (by omega)
        rw [if_neg c2, X6_cost_eq (by omega), hg, Option.bind_some, gd_t (by omega), gd_t (by omega), q1, Option.bind_some]
        exact fin 100000 σ1 (by omega) (by rw [q2 59 (by decide)]; exact hg) q2 (by rw [q3, if_neg c, if_pos ⟨cm, c2⟩])
    · rw [if_neg cm]
      exact fin 100000 σ (by omega) hg (fun _ _ => rfl) (by rw [if_neg c, if_neg (fun q => cm q.1)])
theorem X6_leadOf_L50_eq {g : Int → Int} {but mode x M : Int} {k : MM → Option (Int × MM)} (hI : sInv0 g) (hd : 0 ≤ but ∧ but < g 1) (hx : 0 ≤ x ∧ x ≤ 5) (hM : -1 ≤ M ∧ M ≤ 10000) : ∀ (n : Nat) (p : Int) (σ : MM), σ 59 = g → wB (σ 62) (M + 14 * p) → 0 ≤ p → p ≤ g 0 → g 0 - p < n →
    ∃ σ' : MM, X6_leadOf_L50 but mode x k n p σ = k σ' ∧ frW σ σ' ∧ σ' 62 = fdI (lwStep g (sFar g but) but mode x) p (g 0) (σ 62) ∧ wB (σ' 62) (M + 14 * g 0) := by
  have hn := hI.1.1
  have hm := hI.1.2.1
  have hf := (hI.2.2.2.2.2 but hd.1 hd.2).2.2.2.1
  intro n
  induction n with
  | zero => intro p σ hg hB h1 h2 h3; omega
  | succ n ih =>
    intro p σ hg hB h1 h2 h3
    rw [X6_leadOf_L50, hg]
    by_cases c : p < g 0
    · have hw := hB (8 * x + p) (by omega) (by omega)
      have hb := lwStep_b (L := sFar g but) (but := but) (mode := mode) (x := x) (p := p) hI hf.2 hx ⟨h1, c⟩ hB (by omega)
      rw [show M + 14 * p + 14 = M + 14 * (p + 1) by omega] at hb
      rw [if_pos c, fdI_lt c, gd_t (by omega)]
      by_cases c1 : σ 62 (8 * x + p) < 0
      · have e : lwStep g (sFar g but) but mode x p (σ 62) = σ 62 := if_pos c1
        rw [if_pos c1, e]
        rw [e] at hb
        exact ih (p + 1) σ hg hb (by omega) (by omega) (by omega)
      · obtain ⟨σ1, q1, q2, q3⟩ := X6_goesOn_eq (but := but) (mode := mode) (L := sFar g but) hg hI hf hx ⟨h1, c⟩ c1 (by omega)
        rw [if_neg c1, X6_far_eq (by omega), hg, Option.bind_some, q1, Option.bind_some]
        obtain ⟨σ2, u1, u2, u3, u4⟩ := ih (p + 1) σ1 (by rw [q2 59 (by decide)]; exact hg) (by rw [q3]; exact hb) (by omega) (by omega) (by omega)
        exact ⟨σ2, u1, q2.tr u2, by rw [u3, q3], u4⟩
    · rw [if_neg c, fdI_ge (by omega)]
      exact ⟨σ, rfl, fun _ _ => rfl, rfl, wB_le hB (by omega)⟩
def lwRow (g : Int → Int) (L but mode : Int) : Int → (Int → Int) → Int → Int := fun x w => fdI (lwStep g L but mode x) 0 (g 0) w
theorem X6_leadOf_L38_eq {g : Int → Int} {but mode : Int} {k : MM → Option (Int × MM)} (hI : sInv0 g) (hd : 0 ≤ but ∧ but < g 1) : ∀ (n : Nat) (x : Int) (σ : MM), σ 59 = g → wB (σ 62) (130 * x) → 0 ≤ x → x ≤ sFar g but + 1 → sFar g but + 1 - x < n →
    ∃ σ' : MM, X6_leadOf_L38 but mode k n x σ = k σ' ∧ frW σ σ' ∧ σ' 62 = fdI (lwRow g (sFar g but) but mode) x (sFar g but + 1) (σ 62) := by
  have hn := hI.1.1
  have hm := hI.1.2.1
  have hf := (hI.2.2.2.2.2 but hd.1 hd.2).2.2.2.1
  intro n
  induction n with
  | zero => intro x σ hg hB h1 h2 h3; omega
  | succ n ih =>
    intro x σ hg hB h1 h2 h3
    rw [X6_leadOf_L38, X6_far_eq (by omega), hg, Option.bind_some]
    by_cases c : sFar g but < x
    · rw [if_pos c, fdI_ge (by omega)]
      exact ⟨σ, rfl, fun _ _ => rfl, rfl⟩
    · rw [if_neg c, fdI_lt (by omega)]
      have key : ∀ N : Nat, g 0 - 0 < N → ∃ σ' : MM, X6_leadOf_L50 but mode x (fun σ30 => gd (inR (x + 1)) <| X6_leadOf_L38 but mode k n (x + 1) σ30) N 0 σ = k σ' ∧ frW σ σ' ∧ σ' 62 = fdI (lwRow g (sFar g but) but mode) (x + 1) (sFar g but + 1) (lwRow g (sFar g but) but mode x (σ 62)) := by
        intro N hN
        obtain ⟨σ1, q1, q2, q3, q4⟩ := X6_leadOf_L50_eq (but := but) (mode := mode) (x := x) (M := 130 * x) (k := fun σ30 => gd (inR (x + 1)) <| X6_leadOf_L38 but mode k n (x + 1) σ30) hI hd (by omega) (by omega) N 0 σ hg (by rw [show 130 * x + 14 * 0 = 130 * x by omega]; exact hB) (by omega) (by omega) hN
        obtain ⟨σ2, u1, u2, u3⟩ := ih (x + 1) σ1 (by rw [q2 59 (by decide)]; exact hg) (wB_le q4 (by omega)) (by omega) (by omega) (by omega)
        refine ⟨σ2, ?_, q2.tr u2, by rw [u3, q3]; rfl⟩
        rw [q1]
        show gd (inR (x + 1)) (X6_leadOf_L38 but mode k n (x + 1) σ1) = k σ2
        rw [gd_t (by omega)]
        exact u1
      exact key 100000 (by omega)
theorem X6_leadOf_L2_eq {but mode : Int} {k : MM → Option (Int × MM)} : ∀ (n : Nat) (x : Int) (σ : MM), 0 ≤ x → x ≤ 48 → 48 - x < n →
    ∃ σ' : MM, X6_leadOf_L2 but mode k n x σ = k σ' ∧ frW σ σ' ∧ ∀ i, σ' 62 i = if x ≤ i ∧ i < 48 then -1 else σ 62 i := by
  intro n
  induction n with
  | zero => intro x σ h1 h2 h3; omega
  | succ n ih =>
    intro x σ h1 h2 h3
    rw [X6_leadOf_L2]
    by_cases c : x < 48
    · rw [if_pos c, gd_t ⟨h1, c⟩, mlet_eq]
      obtain ⟨σ1, q1, q2, q3⟩ := ih (x + 1) (zup σ 62 x (-1)) (by omega) (by omega) (by omega)
      refine ⟨σ1, q1, fun j hj => by rw [q2 j hj, zup_ne hj], fun i => ?_⟩
      rw [q3 i, zup_at]
      by_cases e : x + 1 ≤ i ∧ i < 48
      · rw [if_pos e, if_pos (by omega)]
      · rw [if_neg e]
        by_cases e2 : i = x
        · rw [if_pos e2, if_pos (by omega)]
        · rw [if_neg e2, if_neg (by omega)]
    · rw [if_neg c]
      exact ⟨σ, rfl, fun _ _ => rfl, fun i => by rw [if_neg (by omega)]⟩
theorem X6_leadOf_eq {σ : MM} {g : Int → Int} {d mode : Int} (hg : σ 59 = g) (hI : sInv0 g) (h1 : 0 ≤ d) (h2 : d < g 1) :
    ∃ (σ' : MM) (w0 : Int → Int), X6_leadOf d mode σ = some (fdI (lwRow g (sFar g d) d mode) 0 (sFar g d + 1) (mup w0 (plc g (sSrc g d)) 0) (8 * sFar g d + plc g (sTgt g d)), σ') ∧ frW σ σ' ∧ ∀ i, 0 ≤ i → i < 48 → w0 i = -1 := by
  have hn := hI.1.1
  have hm := hI.1.2.1
  have hd : 0 ≤ d ∧ d < 16 := by omega
  obtain ⟨-, f1, f2, f3, -⟩ := hI.2.2.2.2.2 d h1 h2
  have p1 := (plc_spec hI f1.1 f1.2).1
  have p2 := (plc_spec hI f2.1 f2.2).1
  have key : ∀ N1 N2 : Nat, 49 ≤ N1 → 7 ≤ N2 → ∃ (σ' : MM) (w0 : Int → Int), X6_leadOf_L2 d mode (fun σ5 => (X6_source d σ5).bind fun r6 => (X6_placeOf r6 σ5).bind fun r9 => gd (0 ≤ r9 ∧ r9 < 48) <| mlet (zup σ5 62 r9 0) fun σ13 => X6_leadOf_L38 d mode (fun σ32 => (X6_far d σ32).bind fun r33 => (X6_target d σ32).bind fun r36 => (X6_placeOf r36 σ32).bind fun r39 => gd (0 ≤ (8 * r33) + r39 ∧ (8 * r33) + r39 < 48) <| some (σ32 62 ((8 * r33) + r39), σ32)) N2 0 σ13) N1 0 σ = some (fdI (lwRow g (sFar g d) d mode) 0 (sFar g d + 1) (mup w0 (plc g (sSrc g d)) 0) (8 * sFar g d + plc g (sTgt g d)), σ') ∧ frW σ σ' ∧ ∀ i, 0 ≤ i → i < 48 → w0 i = -1 := by
    intro N1 N2 hN1 hN2
    obtain ⟨σ1, q1, q2, q3⟩ := X6_leadOf_L2_eq (but := d) (mode := mode) (k := fun σ5 => (X6_source d σ5).bind fun r6 => (X6_placeOf r6 σ5).bind fun r9 => gd (0 ≤ r9 ∧ r9 < 48) <| mlet (zup σ5 62 r9 0) fun σ13 => X6_leadOf_L38 d mode (fun σ32 => (X6_far d σ32).bind fun r33 => (X6_target d σ32).bind fun r36 => (X6_placeOf r36 σ32).bind fun r39 => gd (0 ≤ (8 * r33) + r39 ∧ (8 * r33) + r39 < 48) <| some (σ32 62 ((8 * r33) + r39), σ32)) N2 0 σ13) N1 0 σ (by omega) (by omega) (by omega)
    have hg1 : σ1 59 = g := by rw [q2 59 (by decide)]; exact hg
    have hw0 : ∀ i, 0 ≤ i → i < 48 → σ1 62 i = -1 := fun i u v => by rw [q3 i, if_pos ⟨u, v⟩]
    have e62 : zup σ1 62 (plc g (sSrc g d)) 0 62 = mup (σ1 62) (plc g (sSrc g d)) 0 := by
      rw [zup_row]
      unfold mup
      rw [hw0 _ p1.1 (by omega)]
      rfl
    have hb : wB (zup σ1 62 (plc g (sSrc g d)) 0 62) (130 * 0) := by
      rw [e62]
      refine wB_mup (M := -1) (fun i u v => ?_) (by omega) (by omega) (by omega)
      have := hw0 i u v
      omega
    have hg2 : zup σ1 62 (plc g (sSrc g d)) 0 59 = g := by rw [zup_ne (by decide)]; exact hg1
    obtain ⟨σ3, w1, w2, w3⟩ := X6_leadOf_L38_eq (but := d) (mode := mode) (k := fun σ32 => (X6_far d σ32).bind fun r33 => (X6_target d σ32).bind fun r36 => (X6_placeOf r36 σ32).bind fun r39 => gd (0 ≤ (8 * r33) + r39 ∧ (8 * r33) + r39 < 48) <| some (σ32 62 ((8 * r33) + r39), σ32)) hI ⟨h1, h2⟩ N2 0 (zup σ1 62 (plc g (sSrc g d)) 0) hg2 hb (by omega) (by omega) (by omega)
    have hg3 : σ3 59 = g := by rw [w2 59 (by decide)]; exact hg2
    refine ⟨σ3, σ1 62, ?_, fun j hj => by rw [w2 j hj, zup_ne hj, q2 j hj], hw0⟩
    rw [q1]
    show (X6_source d σ1).bind (fun r6 => (X6_placeOf r6 σ1).bind fun r9 => gd (0 ≤ r9 ∧ r9 < 48) <| mlet (zup σ1 62 r9 0) fun σ13 => X6_leadOf_L38 d mode (fun σ32 => (X6_far d σ32).bind fun r33 => (X6_target d σ32).bind fun r36 => (X6_placeOf r36 σ32).bind fun r39 => gd (0 ≤ (8 * r33) + r39 ∧ (8 * r33) + r39 < 48) <| some (σ32 62 ((8 * r33) + r39), σ32)) N2 0 σ13) = _
    rw [X6_source_eq hd, Option.bind_some, hg1, X6_placeOf_eq (by rw [hg1]; exact hI) f1.1 (by rw [hg1]; exact f1.2), Option.bind_some, hg1, gd_t (by omega), mlet_eq, w1]
    show (X6_far d σ3).bind (fun r33 => (X6_target d σ3).bind fun r36 => (X6_placeOf r36 σ3).bind fun r39 => gd (0 ≤ (8 * r33) + r39 ∧ (8 * r33) + r39 < 48) <| some (σ3 62 ((8 * r33) + r39), σ3)) = _
    rw [X6_far_eq hd, Option.bind_some, X6_target_eq hd, Option.bind_some, hg3, X6_placeOf_eq (by rw [hg3]; exact hI) f2.1 (by rw [hg3]; exact f2.2), Option.bind_some, hg3, gd_t (by omega), w3, e62]
  unfold X6_leadOf
  exact key 100000 100000 (by omega) (by omega)
