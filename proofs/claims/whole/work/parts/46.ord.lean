/-! ORDERS: lists of statements, and the row with its order put by such a list -/
def ogN (p : List Nat) (i : Int) : Int := ((p.getD i.toNat 0 : Nat) : Int)
def sOrd (g : Int → Int) (p : List Nat) : Int → Int := fun i => if 20 ≤ i ∧ i < 20 + (p.length : Int) then ogN p (i - 20) else g i
def isP (n : Nat) (p : List Nat) : Prop := p.length = n ∧ (∀ i, i < n → p.getD i 0 < n) ∧ (∀ i j, i < n → j < n → p.getD i 0 = p.getD j 0 → i = j) ∧ ∀ s, s < n → ∃ i, i < n ∧ p.getD i 0 = s
theorem sOrd_in {g : Int → Int} {p : List Nat} {i : Int} (h : 0 ≤ i ∧ i < (p.length : Int)) : sOrd g p (20 + i) = ogN p i := by
  unfold sOrd
  rw [if_pos (by omega), show 20 + i - 20 = i by omega]
theorem sOrd_out {g : Int → Int} {p : List Nat} {i : Int} (h : ¬ (20 ≤ i ∧ i < 20 + (p.length : Int))) : sOrd g p i = g i := if_neg h
theorem sOrd_inv {g : Int → Int} (hI : sInv0 g) {n : Nat} (hn : g 0 = n) {p : List Nat} (hp : isP n p) : sInv0 (sOrd g p) := by
  obtain ⟨p1, p2, p3, p4⟩ := hp
  obtain ⟨h1, h2, h3, h4, h5, h6⟩ := hI
  have hn8 := h1.1
  have o : ∀ i : Int, i < 20 ∨ 28 ≤ i → sOrd g p i = g i := fun i hi => sOrd_out (by omega)
  have q : ∀ i : Int, 0 ≤ i → i < g 0 → sOrd g p (20 + i) = ogN p i := fun i a b => sOrd_in (by omega)
  refine ⟨by rw [o 0 (by omega), o 1 (by omega), o 2 (by omega), o 3 (by omega), o 4 (by omega), o 5 (by omega)]; exact h1, fun s a b => ?_, fun i a b => ?_, fun i j a b c d e => ?_, fun s a b => ?_, fun d a b => ?_⟩
  · rw [o 0 (by omega)] at b
    rw [o (10 + s) (by omega)]
    exact h2 s a b
  · rw [o 0 (by omega)] at b ⊢
    rw [q i a b]
    have := p2 i.toNat (by omega)
    unfold ogN
    omega
  · rw [o 0 (by omega)] at b d
    rw [q i a b, q j c d] at e
    have := p3 i.toNat j.toNat (by omega) (by omega) (by unfold ogN at e; omega)
    omega
  · rw [o 0 (by omega)] at b ⊢
    obtain ⟨i, a1, a2⟩ := p4 s.toNat (by omega)
    refine ⟨i, by omega, by omega, ?_⟩
    rw [q i (by omega) (by omega)]
    unfold ogN
    rw [Int.toNat_natCast, a2]
    omega
  · rw [o 1 (by omega)] at b
    have k : ∀ w : Int, 0 ≤ w → sOrd g p (30 + 5 * d + w) = g (30 + 5 * d + w) := fun w hw => o _ (by omega)
    have := h6 d a b
    unfold sDep sKind sSrc sTgt sFar sKp at this ⊢
    rw [k 0 (by omega), k 1 (by omega), k 2 (by omega), k 3 (by omega), k 4 (by omega), o 0 (by omega)]
    exact this
def sBad (g : Int → Int) (d : Int) : Bool := decide (sFar g d = 0 ∧ ¬ plc g (sSrc g d) < plc g (sTgt g d))
abbrev sAl (g : Int → Int) : Prop := fndI (sBad g) 0 (g 1) = -1
theorem fndI_no {p : Int → Bool} : ∀ (m : Nat) (lo hi : Int), 0 ≤ lo → hi - lo = m → (fndI p lo hi = -1 ↔ ∀ d, lo ≤ d → d < hi → p d = false) := by
  intro m
  induction m with
  | zero =>
    intro lo hi h1 h2
    rw [fndI_ge (by omega)]
    exact ⟨fun _ d a b => by omega, fun _ => rfl⟩
  | succ m ih =>
    intro lo hi h1 h2
    rw [fndI_lt (by omega)]
    have key := ih (lo + 1) hi (by omega) (by omega)
    by_cases c : p lo = true
    · rw [if_pos c]
      refine ⟨fun h => by omega, fun h => ?_⟩
      rw [h lo (by omega) (by omega)] at c
      exact absurd c (by decide)
    · rw [if_neg c, key]
      refine ⟨fun h d a b => ?_, fun h d a b => h d (by omega) b⟩
      by_cases e : d = lo
      · rw [e]
        simpa using c
      · exact h d (by omega) b
theorem sAl_iff {g : Int → Int} (h : 0 ≤ g 1) : sAl g ↔ ∀ d, 0 ≤ d → d < g 1 → sFar g d = 0 → plc g (sSrc g d) < plc g (sTgt g d) := by
  unfold sAl
  rw [fndI_no (g 1).toNat 0 (g 1) (by omega) (by omega)]
  unfold sBad
  constructor
  · intro h d a b e
    have := h d a b
    rw [decide_eq_false_iff_not] at this
    exact Classical.byContradiction fun q => this ⟨e, q⟩
  · intro h d a b
    rw [decide_eq_false_iff_not]
    exact fun q => q.2 (h d a b q.1)
theorem sAl_inv {g : Int → Int} (hI : sInv0 g) : sAl g ↔ sInv g := by
  rw [sAl_iff hI.1.2.1.1]
  exact ⟨fun h => ⟨hI, h⟩, fun h => h.2⟩
theorem X6_isAllowed_L2_eq {σ : MM} (hI : sInv0 (σ 59)) : ∀ (N : Nat) (d : Int), 0 ≤ d → d ≤ σ 59 1 → σ 59 1 - d < N → X6_isAllowed_L2 σ (some 1) N d = some (if fndI (sBad (σ 59)) d (σ 59 1) = -1 then 1 else 0) := by
  intro N
  induction N with
  | zero => intro d h1 h2 h3; omega
  | succ N ih =>
    intro d h1 h2 h3
    have hm := hI.1.2.1
    rw [X6_isAllowed_L2]
    by_cases c : d < σ 59 1
    · have hd : 0 ≤ d ∧ d < 16 := by omega
      obtain ⟨-, f1, f2, -⟩ := hI.2.2.2.2.2 d h1 c
      rw [if_pos c, X6_far_eq hd, Option.bind_some, fndI_lt c]
      unfold sBad
      by_cases c1 : sFar (σ 59) d = 0
      · rw [if_pos c1, X6_source_eq hd, Option.bind_some, X6_placeOf_eq hI f1.1 f1.2, Option.bind_some, X6_target_eq hd, Option.bind_some, X6_placeOf_eq hI f2.1 f2.2, Option.bind_some]
        by_cases c2 : plc (σ 59) (sSrc (σ 59) d) < plc (σ 59) (sTgt (σ 59) d)
        · rw [if_pos c2, ih (d + 1) (by omega) (by omega) (by omega), if_neg (c := decide _ = true) (by rw [decide_eq_true_iff]; exact fun q => q.2 c2)]
          rfl
        · rw [if_neg c2, if_pos (c := decide _ = true) (by rw [decide_eq_true_iff]; exact ⟨c1, c2⟩), if_neg (by omega)]
      · rw [if_neg c1, ih (d + 1) (by omega) (by omega) (by omega), if_neg (c := decide _ = true) (by rw [decide_eq_true_iff]; exact fun q => c1 q.1)]
        rfl
    · rw [if_neg c, fndI_ge (by omega), if_pos rfl]
theorem X6_isAllowed_eq {σ : MM} (hI : sInv0 (σ 59)) : X6_isAllowed σ = some (if sAl (σ 59) then 1 else 0) := by
  have hm := hI.1.2.1
  unfold X6_isAllowed
  exact X6_isAllowed_L2_eq hI 100000 0 (by omega) (by omega) (by omega)
theorem X0_isLegalOrder_L2_eq {σ : MM} {b : Nat} {g : Int → Int} (hI : sInv0 g) (hR : sRL σ b g) : ∀ (N : Nat) (d : Int), 0 ≤ d → d ≤ g 1 → g 1 - d < N → X0_isLegalOrder_L2 b σ (some 1) N d = some (if fndI (sBad g) d (g 1) = -1 then 1 else 0) := by
  intro N
  induction N with
  | zero => intro d h1 h2 h3; omega
  | succ N ih =>
    intro d h1 h2 h3
    have hm := hI.1.2.1
    have hn := hI.1.1
    rw [X0_isLegalOrder_L2, hR.2.1]
    by_cases c : d < g 1
    · have hd : 0 ≤ d ∧ d < 16 := by omega
      obtain ⟨-, f1, f2, -⟩ := hI.2.2.2.2.2 d h1 c
      obtain ⟨-, e6, e7, e8, -⟩ := hR.2.2.2.2 d h1 c
      rw [if_pos c, gd_t hd, e8, e6, e7, fndI_lt c]
      unfold sBad
      by_cases c1 : sFar g d = 0
      · rw [if_pos c1, X0_positionOf_at (by omega), Option.bind_some, X0_positionOf_at (by omega), Option.bind_some, (hR.2.2.2.1 _ f1.1 f1.2).2.1, (hR.2.2.2.1 _ f2.1 f2.2).2.1]
        by_cases c2 : plc g (sSrc g d) < plc g (sTgt g d)
        · rw [if_pos c2, ih (d + 1) (by omega) (by omega) (by omega), if_neg (c := decide _ = true) (by rw [decide_eq_true_iff]; exact fun q => q.2 c2)]
          rfl
        · rw [if_neg c2, if_pos (c := decide _ = true) (by rw [decide_eq_true_iff]; exact ⟨c1, c2⟩), if_neg (by omega)]
      · rw [if_neg c1, ih (d + 1) (by omega) (by omega) (by omega), if_neg (c := decide _ = true) (by rw [decide_eq_true_iff]; exact fun q => c1 q.1)]
        rfl
    · rw [if_neg c, fndI_ge (by omega), if_pos rfl]
theorem X0_isLegalOrder_eq {σ : MM} {b : Nat} {g : Int → Int} (hI : sInv0 g) (hR : sRL σ b g) : X0_isLegalOrder b σ = some (if sAl g then 1 else 0) := by
  have hm := hI.1.2.1
  unfold X0_isLegalOrder
  exact X0_isLegalOrder_L2_eq hI hR 100000 0 (by omega) (by omega) (by omega)
/-! one order considered -/
def con (g : Int → Int) (a : Int × List Nat) (p : List Nat) : Int × List Nat :=
  if sAl (sOrd g p) ∧ (a.1 < 0 ∨ sDel (sOrd g p) (-1) < a.1) then (sDel (sOrd g p) (-1), p) else a
/-- the best so far -/
def cHold (σ : MM) (kb : Nat) (n : Nat) (a : Int × List Nat) : Prop := (a.1 = -1 ∨ (0 ≤ a.1 ∧ a.1 ≤ 100)) ∧ (0 ≤ a.1 → ∀ i : Int, 0 ≤ i → i < n → σ kb i = ogN a.2 i)
