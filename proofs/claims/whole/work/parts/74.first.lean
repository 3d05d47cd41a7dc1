/-! the memory that the constructors make -/
def parI (i : Int) : Int := if i = 0 then 10 else if i = 1 then 1 else if i = 2 then 2 else 0
def gI (i : Int) : Int := if i = 2 then 10 else if i = 3 then 1 else if i = 4 then 2 else 0
def σ0 : MM := fun k => match k with
  | 0 => fun i => if i = 8 then -1 else 0
  | 11 => parI
  | 22 => parI
  | 33 => parI
  | 49 => parI
  | 58 => fun i => if i = 7 then -1 else 0
  | 59 => gI
  | _ => fun _ => 0
theorem parI_eq : (fun j : Nat => Int32.ofInt (parI (j : Int))) = upd (upd (upd (upd (fun _ : Nat => (0 : Int32)) 0 10) 1 1) 2 2) 3 0 := by
  funext j
  by_cases h0 : j = 0
  · subst h0; rfl
  · by_cases h1 : j = 1
    · subst h1; rfl
    · by_cases h2 : j = 2
      · subst h2; rfl
      · by_cases h3 : j = 3
        · subst h3; rfl
        · rw [pk_un h3, pk_un h2, pk_un h1, pk_un h0]
          unfold parI
          rw [if_neg (by omega), if_neg (by omega), if_neg (by omega)]
          rfl
theorem gI_eq : (fun j : Nat => Int32.ofInt (gI (j : Int))) = upd (upd (upd (fun _ : Nat => (0 : Int32)) 2 10) 3 1) 4 2 := by
  funext j
  by_cases h0 : j = 2
  · subst h0; rfl
  · by_cases h1 : j = 3
    · subst h1; rfl
    · by_cases h2 : j = 4
      · subst h2; rfl
      · rw [pk_un h2, pk_un h1, pk_un h0]
        unfold gI
        rw [if_neg (by omega), if_neg (by omega), if_neg (by omega)]
        rfl
theorem σ0_ok : okM σ0 := by
  intro k i
  unfold σ0
  split
  · show inR (if i = 8 then -1 else 0)
    split <;> decide
  · unfold parI; split <;> (try split) <;> (try split) <;> decide
  · unfold parI; split <;> (try split) <;> (try split) <;> decide
  · unfold parI; split <;> (try split) <;> (try split) <;> decide
  · unfold parI; split <;> (try split) <;> (try split) <;> decide
  · show inR (if i = 7 then -1 else 0)
    split <;> decide
  · unfold gI; split <;> (try split) <;> (try split) <;> decide
  · show inR 0
    decide
def adF (a b : Nat → Nat) (q : Nat) : Nat → Nat := fun k => if k < 58 then a k else if k < 72 then b (k - 58) else q
theorem w_first (cy : Nat → ClassId) (a b : Nat → Nat) (q : Nat) : (wX5 cy a ++ wX6 cy b) ++ [(q, .inl (cy 3, 1, .inr (.inl (fun _ : Nat => (0 : Int64)))))] = wl cy (adF a b q) σ0 := by
  unfold wX5 wX6 wX0 wX1 wX2 wX3 wX4
  unfold wX0
  rw [← parI_eq, ← gI_eq]
  rfl
theorem ST0 : ST σ0 := by
  refine ⟨⟨⟨⟨by decide, by decide, by decide, by decide, by decide, by decide⟩, fun s h1 h2 => ?_, fun s h1 h2 => ?_, fun s t h1 h2 => ?_, fun s h1 h2 => ?_, fun s h1 h2 => ?_⟩, fun s h1 h2 => ?_⟩, ⟨rfl, rfl, ⟨rfl, rfl, rfl, rfl⟩, fun s h1 h2 => ?_, fun s h1 h2 => ?_⟩, fun i _ _ => Or.inl rfl, fun i _ _ => Or.inl rfl, ⟨by decide, by decide, rfl⟩, fun i h1 h2 => ?_, rfl, ⟨rfl, Or.inl rfl⟩, fun h => absurd h (by decide)⟩
  · have h2 : s < 0 := h2
    omega
  · have h2 : s < 0 := h2
    omega
  · have h2 : s < 0 := h2
    omega
  · have h2 : s < 0 := h2
    omega
  · have h2 : s < 0 := h2
    omega
  · have h2 : s < 0 := h2
    omega
  · have h2 : s < 0 := h2
    omega
  · have h2 : s < 0 := h2
    omega
  · have h2 : i < 0 := h2
    omega
