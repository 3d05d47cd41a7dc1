/-! the class's orders -/
def swL (p : List Nat) (i j : Nat) : List Nat := (p.set i (p.getD j 0)).set j (p.getD i 0)
theorem swL_len (p : List Nat) (i j : Nat) : (swL p i j).length = p.length := by
  unfold swL
  rw [List.length_set, List.length_set]
theorem swL_at {p : List Nat} {i j k : Nat} (hi : i < p.length) (hj : j < p.length) : (swL p i j).getD k 0 = if k = j then p.getD i 0 else if k = i then p.getD j 0 else p.getD k 0 := by
  unfold swL
  rw [List.getD_eq_getElem?_getD, List.getElem?_set, List.length_set]
  by_cases c : j = k
  · rw [if_pos c, if_pos hj, if_pos c.symm]
    rfl
  · rw [if_neg c, if_neg (fun q => c q.symm), List.getElem?_set]
    by_cases c2 : i = k
    · rw [if_pos c2, if_pos hi, if_pos c2.symm]
      rfl
    · rw [if_neg c2, if_neg (fun q => c2 q.symm), List.getD_eq_getElem?_getD]
theorem swL_isP {n : Nat} {p : List Nat} (hp : isP n p) {i j : Nat} (hi : i < n) (hj : j < n) : isP n (swL p i j) := by
  obtain ⟨p1, p2, p3, p4⟩ := hp
  have at' : ∀ k, (swL p i j).getD k 0 = p.getD (if k = j then i else if k = i then j else k) 0 := by
    intro k
    rw [swL_at (by omega) (by omega)]
    split
    · rfl
    · split <;> rfl
  refine ⟨by rw [swL_len, p1], fun k hk => ?_, fun k l hk hl h => ?_, fun s hs => ?_⟩
  · rw [at']
    refine p2 _ ?_
    split
    · exact hi
    · split
      · exact hj
      · exact hk
  · rw [at', at'] at h
    have bnd : ∀ k, k < n → (if k = j then i else if k = i then j else k) < n := by
      intro k hk
      split
      · exact hi
      · split
        · exact hj
        · exact hk
    have e := p3 _ _ (bnd k hk) (bnd l hl) h
    by_cases a1 : k = j
    · rw [if_pos a1] at e
      by_cases a3 : l = j
      · omega
      · rw [if_neg a3] at e
        by_cases a4 : l = i
        · rw [if_pos a4] at e
          omega
        · rw [if_neg a4] at e
          omega
    · rw [if_neg a1] at e
      by_cases a2 : k = i
      · rw [if_pos a2] at e
        by_cases a3 : l = j
        · rw [if_pos a3] at e
          omega
        · rw [if_neg a3] at e
          by_cases a4 : l = i
          · omega
          · rw [if_neg a4] at e
            omega
      · rw [if_neg a2] at e
        by_cases a3 : l = j
        · rw [if_pos a3] at e
          omega
        · rw [if_neg a3] at e
          by_cases a4 : l = i
          · rw [if_pos a4] at e
            omega
          · rw [if_neg a4] at e
            exact e
  · obtain ⟨k, h1, h2⟩ := p4 s hs
    refine ⟨if k = j then i else if k = i then j else k, ?_, ?_⟩
    · split
      · exact hi
      · split
        · exact hj
        · exact h1
    · rw [at', ← h2]
      congr 1
      by_cases c : k = j
      · rw [if_pos c]
        by_cases c2 : i = j
        · rw [if_pos c2, c2, c]
        · rw [if_neg c2, if_pos rfl, c]
      · rw [if_neg c]
        by_cases c2 : k = i
        · rw [if_pos c2, if_pos rfl, c2]
        · rw [if_neg c2, if_neg c, if_neg c2]
def nA (p : List Nat) : Nat → Nat
  | 0 => 0
  | k + 1 => if p.getD (k + 1) 0 < p.getD k 0 then nA p k else k + 1
def nB (p : List Nat) (a : Nat) : Nat → Nat
  | 0 => 0
  | k + 1 => if a < k + 1 then (if p.getD (k + 1) 0 < p.getD a 0 then nB p a k else k + 1) else k + 1
def nC : Nat → List Nat → Nat → Nat → List Nat
  | 0, p, _, _ => p
  | f + 1, p, lo, hi => if lo < hi then nC f (swL p lo hi) (lo + 1) (hi - 1) else p
def nxt (n : Nat) (p : List Nat) : Option (List Nat) :=
  if nA p (n - 1) = 0 then none else some (nC 8 (swL p (nA p (n - 1) - 1) (nB p (nA p (n - 1) - 1) (n - 1))) (nA p (n - 1)) (n - 1))
def itr (n : Nat) : Nat → List Nat → List (List Nat)
  | 0, _ => []
  | m + 1, p => p :: (nxt n p).elim [] (fun q => itr n m q)
theorem nA_le (p : List Nat) : ∀ k, nA p k ≤ k := by
  intro k
  induction k with
  | zero => exact Nat.le_refl _
  | succ k ih =>
    rw [nA]
    split <;> omega
theorem nB_le (p : List Nat) (a : Nat) : ∀ k, nB p a k ≤ k := by
  intro k
  induction k with
  | zero => exact Nat.le_refl _
  | succ k ih =>
    rw [nB]
    split
    · split <;> omega
    · omega
theorem nC_isP {n : Nat} : ∀ (f : Nat) (p : List Nat) (lo hi : Nat), isP n p → hi < n → isP n (nC f p lo hi) := by
  intro f
  induction f with
  | zero => intro p lo hi h _; exact h
  | succ f ih =>
    intro p lo hi h h2
    rw [nC]
    split
    · exact ih _ _ _ (swL_isP h (by omega) h2) (by omega)
    · exact h
theorem nxt_isP {n : Nat} {p q : List Nat} (hp : isP n p) (h : nxt n p = some q) : isP n q := by
  unfold nxt at h
  by_cases c : nA p (n - 1) = 0
  · rw [if_pos c] at h
    cases h
  · rw [if_neg c] at h
    cases h
    have a := nA_le p (n - 1)
    have b := nB_le p (nA p (n - 1) - 1) (n - 1)
    exact nC_isP _ _ _ _ (swL_isP hp (by omega) (by omega)) (by omega)
theorem itr_isP {n : Nat} : ∀ (m : Nat) (p : List Nat), isP n p → ∀ q ∈ itr n m p, isP n q := by
  intro m
  induction m with
  | zero => intro p hp q hq; cases hq
  | succ m ih =>
    intro p hp q hq
    rw [itr] at hq
    rcases List.mem_cons.mp hq with e | h
    · rw [e]; exact hp
    · cases e : nxt n p with
      | none => rw [e] at h; cases h
      | some r => rw [e] at h; exact ih r (nxt_isP hp e) q h
theorem itr_0 : itr 0 720 (List.range' 0 0) = pmL 0 0 [] := by decide +kernel
theorem itr_1 : itr 1 720 (List.range' 0 1) = pmL 1 1 [] := by decide +kernel
theorem itr_2 : itr 2 720 (List.range' 0 2) = pmL 2 2 [] := by decide +kernel
theorem itr_3 : itr 3 720 (List.range' 0 3) = pmL 3 3 [] := by decide +kernel
theorem itr_4 : itr 4 720 (List.range' 0 4) = pmL 4 4 [] := by decide +kernel
theorem itr_5 : itr 5 720 (List.range' 0 5) = pmL 5 5 [] := by decide +kernel
theorem itr_6 : itr 6 720 (List.range' 0 6) = pmL 6 6 [] := by decide +kernel
theorem itr_pm {n : Nat} (h : n ≤ 6) : itr n 720 (List.range' 0 n) = pmL n n [] := by
  have e : n = 0 ∨ n = 1 ∨ n = 2 ∨ n = 3 ∨ n = 4 ∨ n = 5 ∨ n = 6 := by omega
  rcases e with rfl | rfl | rfl | rfl | rfl | rfl | rfl
  · exact itr_0
  · exact itr_1
  · exact itr_2
  · exact itr_3
  · exact itr_4
  · exact itr_5
  · exact itr_6
theorem range_at {n k : Nat} (h : k < n) : (List.range' 0 n).getD k 0 = k := by
  rw [List.getD_eq_getElem?_getD, List.getElem?_range' h]
  simp
theorem range_isP (n : Nat) : isP n (List.range' 0 n) := by
  refine ⟨List.length_range', fun i hi => by rw [range_at hi]; exact hi, fun i j hi hj h => by rw [range_at hi, range_at hj] at h; exact h, fun s hs => ⟨s, hs, range_at hs⟩⟩
theorem pm_mem {n : Nat} : ∀ (r : Nat) (p q : List Nat), q.length = r → (∀ x ∈ q, x < n) → (p ++ q).Nodup → p ++ q ∈ pmL n r p := by
  intro r
  induction r with
  | zero =>
    intro p q h1 h2 h3
    rw [List.length_eq_zero_iff.mp h1, List.append_nil]
    exact List.mem_singleton.mpr rfl
  | succ r ih =>
    intro p q h1 h2 h3
    cases q with
    | nil => cases h1
    | cons s q =>
      have hs := h2 s (List.mem_cons_self)
      rw [pmL, List.mem_flatMap]
      refine ⟨s, by rw [List.mem_range']; exact ⟨s, hs, by omega⟩, ?_⟩
      have hn : ¬ p.contains s = true := by
        intro c
        have c' : s ∈ p := by simpa using c
        exact (List.nodup_append.mp h3).2.2 s c' s (List.mem_cons_self) rfl
      rw [if_neg hn]
      have := ih (p ++ [s]) q (by simpa using h1) (fun x hx => h2 x (List.mem_cons_of_mem _ hx)) (by simpa using h3)
      simpa using this
