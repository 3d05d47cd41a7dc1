/-! append: the bytes of a word -/
def sB (a i : Int) : Int := jand (jushr a (24 - 8 * i)) 255
theorem bv_byte (v : BitVec 32) {k : Nat} (hk : k ≤ 24) : v.sshiftRight k &&& 255#32 = v >>> k &&& 255#32 := by
  apply BitVec.eq_of_getLsbD_eq
  intro i hi
  rw [BitVec.getLsbD_and, BitVec.getLsbD_and]
  by_cases c : i < 8
  · rw [BitVec.getLsbD_sshiftRight, BitVec.getLsbD_ushiftRight, if_pos (show k + i < 32 by omega), decide_eq_false (show ¬ 32 ≤ i by omega), Bool.not_false, Bool.true_and]
  · have : (255#32).getLsbD i = false := by
      rw [BitVec.getLsbD_ofNat]
      have e : i = 8 ∨ i = 9 ∨ i = 10 ∨ i = 11 ∨ i = 12 ∨ i = 13 ∨ i = 14 ∨ i = 15 ∨ i = 16 ∨ i = 17 ∨ i = 18 ∨ i = 19 ∨ i = 20 ∨ i = 21 ∨ i = 22 ∨ i = 23 ∨ i = 24 ∨ i = 25 ∨ i = 26 ∨ i = 27 ∨ i = 28 ∨ i = 29 ∨ i = 30 ∨ i = 31 := by omega
      rcases e with rfl | rfl | rfl | rfl | rfl | rfl | rfl | rfl | rfl | rfl | rfl | rfl | rfl | rfl | rfl | rfl | rfl | rfl | rfl | rfl | rfl | rfl | rfl | rfl <;> decide
    rw [this, Bool.and_false, Bool.and_false]
theorem sB_shr {a i : Int} (hi : 0 ≤ i ∧ i < 4) : jand (jshr a (24 - 8 * i)) 255 = sB a i := by
  unfold sB jand jshr jushr
  rw [Int32.ofInt_toInt, Int32.ofInt_toInt]
  generalize Int32.ofInt a = x
  congr 1
  have e : i = 0 ∨ i = 1 ∨ i = 2 ∨ i = 3 := by omega
  rcases e with rfl | rfl | rfl | rfl
  · exact Int32.toBitVec_inj.mp (bv_byte x.toBitVec (k := 24) (by omega))
  · exact Int32.toBitVec_inj.mp (bv_byte x.toBitVec (k := 16) (by omega))
  · exact Int32.toBitVec_inj.mp (bv_byte x.toBitVec (k := 8) (by omega))
  · exact Int32.toBitVec_inj.mp (bv_byte x.toBitVec (k := 0) (by omega))
theorem X6_byteOf_eq {σ : MM} {a i : Int} : X6_byteOf a i σ = some (sB a i) := rfl
theorem ji2c_id {x : Int} (h : 0 ≤ x ∧ x < 256) : ji2c x = x := by
  unfold ji2c
  obtain ⟨k, rfl⟩ : ∃ k : Nat, x = k := ⟨x.toNat, by omega⟩
  have hk : k < 256 := by omega
  clear h
  have : ∀ k : Fin 256, ((Int32.ofInt ((k.val : Nat) : Int)).toUInt32 % 65536).toInt32.toInt = ((k.val : Nat) : Int) := by decide +kernel
  exact this ⟨k, hk⟩
def sBok (a i : Int) : Bool := decide (¬ (sB a i = 0 ∨ (33 ≤ sB a i ∧ sB a i ≤ 126)))
def sBn (a : Int) (i c : Int) : Int := fdI (fun i c => if sB a i = 0 then c else c + 1) i 4 c
def sBt (a : Int) (i : Int) (z : Int × (Int → Int)) : Int × (Int → Int) := fdI (fun i z => if sB a i = 0 then z else (z.1 + 1, gup z.2 z.1 (sB a i))) i 4 z
theorem X4_isWritable_eq {a : Int} {σ : MM} : X4_isWritable a σ = some (if fndI (sBok a) 0 4 = -1 then 1 else 0) := by
  have key : ∀ (m N : Nat) (i : Int), 0 ≤ i → i + m = 4 → m < N → X4_isWritable_L3 a σ (some 1) N (24 - 8 * i) = some (if fndI (sBok a) i 4 = -1 then 1 else 0) := by
    intro m
    induction m with
    | zero =>
      intro N i h1 h2 h3
      obtain ⟨N, rfl⟩ : ∃ M, N = M + 1 := ⟨N - 1, by omega⟩
      rw [X4_isWritable_L3, if_pos (by omega), fndI_ge (by omega), if_pos rfl]
    | succ m ih =>
      intro N i h1 h2 h3
      obtain ⟨N, rfl⟩ : ∃ M, N = M + 1 := ⟨N - 1, by omega⟩
      have := ih N (i + 1) (by omega) (by omega) (by omega)
      rw [show 24 - 8 * (i + 1) = 24 - 8 * i + -8 by omega] at this
      rw [X4_isWritable_L3, if_neg (by omega), sB_shr (by omega), fndI_lt (by omega), this]
      unfold sBok
      by_cases c : sB a i = 0
      · rw [if_pos c, if_neg (c := decide _ = true) (by rw [decide_eq_true_iff]; exact fun q => q (Or.inl c))]
      · rw [if_neg c]
        by_cases c1 : sB a i < 33
        · rw [if_pos c1, if_pos (c := decide _ = true) (by rw [decide_eq_true_iff]; exact fun q => by omega), if_neg (by omega)]
        · rw [if_neg c1]
          by_cases c2 : 126 < sB a i
          · rw [if_pos c2, if_pos (c := decide _ = true) (by rw [decide_eq_true_iff]; exact fun q => by omega), if_neg (by omega)]
          · rw [if_neg c2, if_neg (c := decide _ = true) (by rw [decide_eq_true_iff]; exact fun q => q (Or.inr (by omega)))]
  unfold X4_isWritable
  exact key 4 100000 0 (by omega) (by omega) (by omega)
theorem sBn_b {a i c : Int} (h1 : i ≤ 4) : c ≤ sBn a i c ∧ sBn a i c ≤ c + (4 - i) := by
  have := fdI_inv (f := fun i c => if sB a i = 0 then c else c + 1) (P := fun j x => c ≤ x ∧ x ≤ c + (j - i)) (lo := i) (hi := 4) (a := c) h1 ⟨by omega, by omega⟩ (fun j x h1 h2 h3 => by
    split <;> omega)
  exact this
theorem X4_hasRoomFor_L5_eq {a : Int} {σ : MM} {k : Int → Option Int} : ∀ (m N : Nat) (i c : Int), 0 ≤ i → i + m = 4 → m < N → 0 ≤ c ∧ c ≤ i → X4_hasRoomFor_L5 a σ k N c (24 - 8 * i) = k (sBn a i c) := by
  intro m
  induction m with
  | zero =>
    intro N i c h1 h2 h3 h4
    obtain ⟨N, rfl⟩ : ∃ M, N = M + 1 := ⟨N - 1, by omega⟩
    unfold sBn
    rw [X4_hasRoomFor_L5, if_pos (by omega), fdI_ge (by omega)]
  | succ m ih =>
    intro N i c h1 h2 h3 h4
    obtain ⟨N, rfl⟩ : ∃ M, N = M + 1 := ⟨N - 1, by omega⟩
    have e : 24 - 8 * i + -8 = 24 - 8 * (i + 1) := by omega
    have e2 : sBn a i c = sBn a (i + 1) (if sB a i = 0 then c else c + 1) := by
      unfold sBn
      rw [fdI_lt (by omega)]
    rw [X4_hasRoomFor_L5, if_neg (by omega), sB_shr (by omega), e, e2]
    by_cases c1 : sB a i = 0
    · rw [if_pos c1, if_pos c1]
      exact ih N (i + 1) c (by omega) (by omega) (by omega) (by omega)
    · rw [if_neg c1, if_neg c1, gd_t (by omega)]
      exact ih N (i + 1) (c + 1) (by omega) (by omega) (by omega) (by omega)
theorem X4_hasRoomFor_eq {a : Int} {σ : MM} (h : 0 ≤ σ 34 1 ∧ σ 34 1 ≤ 60) : X4_hasRoomFor a σ = some (if 60 < σ 34 1 + sBn a 0 0 then 0 else 1) := by
  have hb := sBn_b (a := a) (i := 0) (c := 0) (by omega)
  have key : ∀ N : Nat, 4 < N → X4_hasRoomFor_L5 a σ (fun z4 => gd (inR ((σ 34 1) + z4)) <| if 60 < (σ 34 1) + z4 then some 0 else some 1) N 0 24 = some (if 60 < σ 34 1 + sBn a 0 0 then 0 else 1) := by
    intro N hN
    have := X4_hasRoomFor_L5_eq (a := a) (σ := σ) (k := fun z4 => gd (inR ((σ 34 1) + z4)) <| if 60 < (σ 34 1) + z4 then some 0 else some 1) 4 N 0 0 (by omega) (by omega) hN (by omega)
    rw [show (24 : Int) - 8 * 0 = 24 by omega] at this
    rw [this, gd_t (by omega)]
    split <;> rfl
  unfold X4_hasRoomFor
  exact key 100000 (by omega)
theorem sBok_of {a : Int} (h : fndI (sBok a) 0 4 = -1) {i : Int} (hi : 0 ≤ i ∧ i < 4) : sB a i = 0 ∨ (33 ≤ sB a i ∧ sB a i ≤ 126) := by
  have := (fndI_no 4 0 4 (by omega) (by omega)).mp h i hi.1 hi.2
  unfold sBok at this
  rw [decide_eq_false_iff_not] at this
  exact Classical.byContradiction this
theorem X4_add_L3_eq {a : Int} {k : MM → Option MM} (hok : fndI (sBok a) 0 4 = -1) : ∀ (m N : Nat) (i : Int) (σ : MM), 0 ≤ i → i + m = 4 → m < N → 0 ≤ σ 34 1 → sBn a i (σ 34 1) ≤ 60 →
    ∃ σ' : MM, X4_add_L3 a k N (24 - 8 * i) σ = k σ' ∧ (∀ j : Nat, j ≠ 34 → j ≠ 35 → σ' j = σ j) ∧ (∀ i : Int, i ≠ 1 → σ' 34 i = σ 34 i) ∧ (σ' 34 1, σ' 35) = sBt a i (σ 34 1, σ 35) := by
  intro m
  induction m with
  | zero =>
    intro N i σ h1 h2 h3 h4 h5
    obtain ⟨N, rfl⟩ : ∃ M, N = M + 1 := ⟨N - 1, by omega⟩
    unfold sBt
    rw [X4_add_L3, if_pos (by omega), fdI_ge (by omega)]
    exact ⟨σ, rfl, fun _ _ _ => rfl, fun _ _ => rfl, rfl⟩
  | succ m ih =>
    intro N i σ h1 h2 h3 h4 h5
    obtain ⟨N, rfl⟩ : ∃ M, N = M + 1 := ⟨N - 1, by omega⟩
    have e : 24 - 8 * i + -8 = 24 - 8 * (i + 1) := by omega
    have e2 : ∀ c, sBn a i c = sBn a (i + 1) (if sB a i = 0 then c else c + 1) := by
      intro c
      unfold sBn
      rw [fdI_lt (by omega)]
    have e3 : ∀ z, sBt a i z = sBt a (i + 1) (if sB a i = 0 then z else (z.1 + 1, gup z.2 z.1 (sB a i))) := by
      intro z
      unfold sBt
      rw [fdI_lt (by omega)]
    rw [e2] at h5
    rw [X4_add_L3, if_neg (by omega), sB_shr (by omega), e, e3]
    by_cases c1 : sB a i = 0
    · rw [if_pos c1] at h5
      rw [if_pos c1, if_pos c1]
      exact ih N (i + 1) σ (by omega) (by omega) (by omega) h4 h5
    · have hb := sBok_of hok (i := i) (by omega)
      rw [if_neg c1] at h5
      have hb2 := sBn_b (a := a) (i := i + 1) (c := σ 34 1 + 1) (by omega)
      rw [if_neg c1, if_neg c1, if_pos (by omega), gd_t (by omega), ji2c_id (by omega), gd_t (by omega), mlet_eq, zup_ne (by decide), gd_t (by omega), mlet_eq]
      obtain ⟨σ', q1, q2, q3, q4⟩ := ih N (i + 1) (zup (zup σ 35 (σ 34 1) (sB a i)) 34 1 (σ 34 1 + 1)) (by omega) (by omega) (by omega) (by rw [zup_s]; omega) (by rw [zup_s]; exact h5)
      rw [zup_s, zup_ne (by decide), zup_row] at q4
      exact ⟨σ', q1, fun j a b => by rw [q2 j a b, zup_ne a, zup_ne b], fun i hi => by rw [q3 i hi, zup_i hi, zup_ne (by decide)], q4⟩
theorem X6_append_L84_eq {a : Int} {k : MM → Option (Int × MM)} : ∀ (m N : Nat) (i : Int) (σ : MM), 0 ≤ i → i + m = 4 → m < N → 0 ≤ σ 58 5 → sBn a i (σ 58 5) ≤ 60 →
    ∃ σ' : MM, X6_append_L84 a k N i σ = k σ' ∧ (∀ j : Nat, j ≠ 58 → j ≠ 61 → σ' j = σ j) ∧ (∀ i : Int, i ≠ 5 → σ' 58 i = σ 58 i) ∧ (σ' 58 5, σ' 61) = sBt a i (σ 58 5, σ 61) := by
  intro m
  induction m with
  | zero =>
    intro N i σ h1 h2 h3 h4 h5
    obtain ⟨N, rfl⟩ : ∃ M, N = M + 1 := ⟨N - 1, by omega⟩
    unfold sBt
    rw [X6_append_L84, if_neg (by omega), fdI_ge (by omega)]
    exact ⟨σ, rfl, fun _ _ _ => rfl, fun _ _ => rfl, rfl⟩
  | succ m ih =>
    intro N i σ h1 h2 h3 h4 h5
    obtain ⟨N, rfl⟩ : ∃ M, N = M + 1 := ⟨N - 1, by omega⟩
    have e2 : ∀ c, sBn a i c = sBn a (i + 1) (if sB a i = 0 then c else c + 1) := by
      intro c
      unfold sBn
      rw [fdI_lt (by omega)]
    have e3 : ∀ z, sBt a i z = sBt a (i + 1) (if sB a i = 0 then z else (z.1 + 1, gup z.2 z.1 (sB a i))) := by
      intro z
      unfold sBt
      rw [fdI_lt (by omega)]
    rw [e2] at h5
    rw [X6_append_L84, if_pos (by omega), X6_byteOf_eq, Option.bind_some, e3]
    by_cases c1 : sB a i = 0
    · rw [if_pos c1] at h5
      rw [if_pos c1, if_pos c1]
      exact ih N (i + 1) σ (by omega) (by omega) (by omega) h4 h5
    · rw [if_neg c1] at h5
      have hb2 := sBn_b (a := a) (i := i + 1) (c := σ 58 5 + 1) (by omega)
      rw [if_neg c1, if_neg c1, Option.bind_some, gd_t (by omega), mlet_eq, zup_ne (by decide), gd_t (by omega), mlet_eq]
      obtain ⟨σ', q1, q2, q3, q4⟩ := ih N (i + 1) (zup (zup σ 61 (σ 58 5) (sB a i)) 58 5 (σ 58 5 + 1)) (by omega) (by omega) (by omega) (by rw [zup_s]; omega) (by rw [zup_s]; exact h5)
      rw [zup_s, zup_ne (by decide), zup_row] at q4
      exact ⟨σ', q1, fun j a b => by rw [q2 j a b, zup_ne a, zup_ne b], fun i hi => by rw [q3 i hi, zup_i hi, zup_ne (by decide)], q4⟩
theorem X6_append_L9_eq {a : Int} {k : Int → MM → Option (Int × MM)} {σ : MM} : ∀ (m N : Nat) (i c : Int), 0 ≤ i → i + m = 4 → m < N → 0 ≤ c ∧ c ≤ i → X6_append_L9 a k N c i σ = if fndI (sBok a) i 4 = -1 then k (sBn a i c) σ else some (0, zup σ 58 3 1) := by
  intro m
  induction m with
  | zero =>
    intro N i c h1 h2 h3 h4
    obtain ⟨N, rfl⟩ : ∃ M, N = M + 1 := ⟨N - 1, by omega⟩
    unfold sBn
    rw [X6_append_L9, if_neg (by omega), fdI_ge (by omega), fndI_ge (by omega), if_pos rfl]
  | succ m ih =>
    intro N i c h1 h2 h3 h4
    obtain ⟨N, rfl⟩ : ∃ M, N = M + 1 := ⟨N - 1, by omega⟩
    have e2 : sBn a i c = sBn a (i + 1) (if sB a i = 0 then c else c + 1) := by
      unfold sBn
      rw [fdI_lt (by omega)]
    rw [X6_append_L9, if_pos (by omega), X6_byteOf_eq, Option.bind_some, e2, fndI_lt (by omega)]
    unfold X6_append_J43
    by_cases c1 : sB a i = 0
    · rw [if_pos c1, X6_byteOf_eq, Option.bind_some, if_pos c1, if_pos c1, gd_t (by omega), if_neg (show ¬ sBok a i = true by unfold sBok; rw [decide_eq_true_iff]; exact fun q => q (Or.inl c1)), show c + 0 = c by omega]
      exact ih N (i + 1) c (by omega) (by omega) (by omega) (by omega)
    · rw [if_neg c1, Option.bind_some, X6_in_eq, Option.bind_some]
      by_cases c2 : 33 ≤ sB a i ∧ sB a i ≤ 126
      · rw [if_pos c2, if_neg (by decide), X6_byteOf_eq, Option.bind_some, if_neg c1, if_neg c1, gd_t (by omega), gd_t (by omega), if_neg (show ¬ sBok a i = true by unfold sBok; rw [decide_eq_true_iff]; exact fun q => q (Or.inr c2))]
        exact ih N (i + 1) (c + 1) (by omega) (by omega) (by omega) (by omega)
      · rw [if_neg c2, if_pos rfl, X6_fails_eq, if_pos (show sBok a i = true by unfold sBok; rw [decide_eq_true_iff]; exact fun q => q.elim c1 c2), if_neg (by omega)]
        rfl
theorem sBt_ag {a : Int} (hok : fndI (sBok a) 0 4 = -1) : ∀ (m : Nat) (i n : Int) (w w' : Int → Int), 0 ≤ i → i + m = 4 → 0 ≤ n → (∀ j, 0 ≤ j → j < n → w j = w' j ∧ 33 ≤ w' j ∧ w' j ≤ 126) →
    (sBt a i (n, w)).1 = sBn a i n ∧ (sBt a i (n, w')).1 = sBn a i n ∧ ∀ j, 0 ≤ j → j < sBn a i n → (sBt a i (n, w)).2 j = (sBt a i (n, w')).2 j ∧ 33 ≤ (sBt a i (n, w')).2 j ∧ (sBt a i (n, w')).2 j ≤ 126 := by
  intro m
  induction m with
  | zero =>
    intro i n w w' h1 h2 h3 h4
    unfold sBt sBn
    rw [fdI_ge (by omega), fdI_ge (by omega), fdI_ge (by omega)]
    exact ⟨rfl, rfl, h4⟩
  | succ m ih =>
    intro i n w w' h1 h2 h3 h4
    have e2 : sBn a i n = sBn a (i + 1) (if sB a i = 0 then n else n + 1) := by
      unfold sBn
      rw [fdI_lt (by omega)]
    have e3 : ∀ z, sBt a i z = sBt a (i + 1) (if sB a i = 0 then z else (z.1 + 1, gup z.2 z.1 (sB a i))) := by
      intro z
      unfold sBt
      rw [fdI_lt (by omega)]
    rw [e2, e3, e3]
    by_cases c : sB a i = 0
    · rw [if_pos c, if_pos c, if_pos c]
      exact ih (i + 1) n w w' (by omega) (by omega) h3 h4
    · rw [if_neg c, if_neg c, if_neg c]
      have hb := sBok_of hok (i := i) (by omega)
      refine ih (i + 1) (n + 1) (gup w n (sB a i)) (gup w' n (sB a i)) (by omega) (by omega) (by omega) (fun j a1 a2 => ?_)
      by_cases e : j = n
      · rw [e, gup_s, gup_s]
        exact ⟨rfl, by omega⟩
      · rw [gup_n e, gup_n e]
        exact h4 j a1 (by omega)
theorem op_append {σ : MM} (h : ST σ) (a1 : Int) : OpX (X5_append a1 σ) (X6_append a1) kA2 := by
  have hh := h
  obtain ⟨-, -, -, -, ⟨t1, t2, t3⟩, t4, -⟩ := hh
  have ref : ∀ (N1 N2 : Nat) (σ' : MM), 4 < N1 → σ' 58 5 = σ 58 5 → X6_append_L9 a1 (fun z26 σ27 => gd (inR ((σ27 58 5) + z26)) <| if 60 < (σ27 58 5) + z26 then (X6_fails 2 σ27).bind fun (r49, σ51) => some (r49, σ51) else X6_append_L84 a1 (fun σ47 => some (σ47 58 5, σ47)) N2 0 σ27) N1 0 0 σ' = if fndI (sBok a1) 0 4 = -1 then (if 60 < σ 58 5 + sBn a1 0 0 then some (0, zup σ' 58 3 2) else X6_append_L84 a1 (fun σ47 => some (σ47 58 5, σ47)) N2 0 σ') else some (0, zup σ' 58 3 1) := by
    intro N1 N2 σ' h1 h2
    have hb := sBn_b (a := a1) (i := 0) (c := 0) (by omega)
    rw [X6_append_L9_eq 4 N1 0 0 (by omega) (by omega) h1 (by omega), h2, gd_t (by omega), X6_fails_eq]
    rfl
  have hr : ∀ σ' : MM, ∃ N1 N2 : Nat, 4 < N1 ∧ 4 < N2 ∧ X6_append a1 σ' = X6_append_L9 a1 (fun z26 σ27 => gd (inR ((σ27 58 5) + z26)) <| if 60 < (σ27 58 5) + z26 then (X6_fails 2 σ27).bind fun (r49, σ51) => some (r49, σ51) else X6_append_L84 a1 (fun σ47 => some (σ47 58 5, σ47)) N2 0 σ27) N1 0 0 (zup σ' 58 3 0) := by
    intro σ'
    refine ⟨100000, 100000, by omega, by omega, ?_⟩
    unfold X6_append
    rw [mlet_eq]
  have z5 : ∀ σ' : MM, zup σ' 58 3 0 58 5 = σ' 58 5 := fun σ' => zup_i (by decide)
  by_cases c : fndI (sBok a1) 0 4 = -1
  · have hw : X4_isWritable a1 σ = some 1 := by rw [X4_isWritable_eq, if_pos c]
    by_cases c2 : 60 < σ 58 5 + sBn a1 0 0
    · refine opX_ro (xo := 2) (r := 0) h ⟨σ, ?_, SE.rf⟩ (fun σ' h' hg h5 => ⟨0, zup (zup σ' 58 3 0) 58 3 2, ?_, SE.thr.tr SE.thr, by rw [zup_s]; rfl, fun q => absurd q (by decide)⟩)
      · unfold X5_append
        rw [hw, Option.bind_some, if_neg (by decide), X4_hasRoomFor_eq (by omega), Option.bind_some, t3, if_pos c2, if_pos rfl]
      · obtain ⟨N1, N2, h1, h2, e⟩ := hr σ'
        rw [e, ref N1 N2 _ h1 (by rw [z5, h5]), if_pos c, if_pos c2]
    · have e0 : ∀ m : Int, sBn a1 0 m = m + sBn a1 0 0 := by
        intro m
        have : ∀ (k : Nat) (i c : Int), i + k = 4 → sBn a1 i (m + c) = m + sBn a1 i c := by
          intro k
          induction k with
          | zero =>
            intro i c h
            unfold sBn
            rw [fdI_ge (by omega), fdI_ge (by omega)]
          | succ k ih =>
            intro i c h
            have e2 : ∀ c, sBn a1 i c = sBn a1 (i + 1) (if sB a1 i = 0 then c else c + 1) := by
              intro c
              unfold sBn
              rw [fdI_lt (by omega)]
            rw [e2, e2]
            split
            · exact ih (i + 1) c (by omega)
            · rw [show m + c + 1 = m + (c + 1) by omega]
              exact ih (i + 1) (c + 1) (by omega)
        have := this 4 0 0 (by omega)
        rw [show m + 0 = m by omega] at this
        exact this
      have add : ∀ N : Nat, 4 < N → ∃ σ' : MM, X4_add_L3 a1 (fun σ14 => some σ14) N 24 σ = some σ' ∧ (∀ j : Nat, j ≠ 34 → j ≠ 35 → σ' j = σ j) ∧ (∀ i : Int, i ≠ 1 → σ' 34 i = σ 34 i) ∧ (σ' 34 1, σ' 35) = sBt a1 0 (σ 34 1, σ 35) := by
        intro N hN
        exact X4_add_L3_eq (a := a1) (k := fun σ14 => some σ14) c 4 N 0 σ (by omega) (by omega) hN (by omega) (by rw [t3, e0]; omega)
      obtain ⟨σ1, q1, q2, q3, q4⟩ := add 100000 (by omega)
      obtain ⟨g1, g2, g3⟩ := sBt_ag c 4 0 (σ 58 5) (σ 35) (σ 61) (by omega) (by omega) t1 t4
      have q5 : σ1 34 1 = sBn a1 0 (σ 58 5) := by rw [← g1, ← t3]; exact congrArg Prod.fst q4
      have q6 : σ1 35 = (sBt a1 0 (σ 58 5, σ 35)).2 := by rw [← t3]; exact congrArg Prod.snd q4
      have hb := sBn_b (a := a1) (i := 0) (c := σ 58 5) (by omega)
      refine ⟨0, sBn a1 0 (σ 58 5), σ1, ?_, Or.inl rfl, fun σ' hj => ?_⟩
      · unfold X5_append
        rw [hw, Option.bind_some, if_neg (by decide), X4_hasRoomFor_eq (by omega), Option.bind_some, t3, if_neg c2, if_neg (by decide)]
        unfold X4_add
        rw [q1, Option.bind_some, q5]
      · have f58 : σ' 58 = σ 58 := by rw [hj 58 (by decide), q2 58 (by decide) (by decide)]
        obtain ⟨N1, N2, h1, h2, e⟩ := hr σ'
        obtain ⟨σ2, u1, u2, u3, u4⟩ := X6_append_L84_eq (a := a1) (k := fun σ47 => some (σ47 58 5, σ47)) 4 N2 0 (zup σ' 58 3 0) (by omega) (by omega) h2 (by rw [z5, f58]; exact t1) (by rw [z5, f58, e0]; omega)
        have f61 : zup σ' 58 3 0 61 = σ 61 := by rw [zup_ne (by decide), hj 61 (by decide), q2 61 (by decide) (by decide)]
        rw [z5, f58, f61] at u4
        have u5 : σ2 58 5 = sBn a1 0 (σ 58 5) := by rw [← g2]; exact congrArg Prod.fst u4
        have u6 : σ2 61 = (sBt a1 0 (σ 58 5, σ 61)).2 := congrArg Prod.snd u4
        refine ⟨sBn a1 0 (σ 58 5), σ2, ?_, by rw [u3 3 (by decide), zup_s]; rfl, fun _ => rfl, ?_, by rw [u2 72 (by decide) (by decide), zup_ne (by decide)]⟩
        · rw [e, ref N1 N2 _ h1 (by rw [z5, f58]), if_pos c, if_neg c2, u1, u5]
        · have b : ∀ j : Nat, j ≠ 34 → j ≠ 35 → j ≠ 58 → j ≠ 61 → j ≠ 72 → σ2 j = σ j := fun j a b c d e => by rw [u2 j c d, zup_ne c, hj j e, q2 j a b]
          have b58 : ∀ i : Int, i ≠ 5 → i ≠ 3 → σ2 58 i = σ 58 i := fun i a b => by rw [u3 i a, zup_i b, f58]
          have b34 : σ2 34 1 = sBn a1 0 (σ 58 5) := by rw [u2 34 (by decide) (by decide), zup_ne (by decide), hj 34 (by decide), q5]
          have b35 : σ2 35 = (sBt a1 0 (σ 58 5, σ 35)).2 := by rw [u2 35 (by decide) (by decide), zup_ne (by decide), hj 35 (by decide), q6]
          obtain ⟨k1, k2, k3, k4, -, -, k7, k8, k9⟩ := h
          refine ⟨by rw [b 59 (by decide) (by decide) (by decide) (by decide) (by decide)]; exact k1, by rw [b 59 (by decide) (by decide) (by decide) (by decide) (by decide)]; exact sRL_congr k2 (fun j a c => b _ (by omega) (by omega) (by omega) (by omega) (by omega)), fun i x y => by rw [b (1 + 9) (by decide) (by decide) (by decide) (by decide) (by decide)]; exact k3 i x y, fun i x y => by rw [b (12 + 9) (by decide) (by decide) (by decide) (by decide) (by decide)]; exact k4 i x y, ?_, ?_, ?_, ?_, fun q => ?_⟩
          · rw [u5, b34]
            exact ⟨by omega, by rw [e0]; omega, rfl⟩
          · rw [u5, b35, u6]
            exact g3
          · rw [b 0 (by decide) (by decide) (by decide) (by decide) (by decide), b58 7 (by decide) (by decide)]
            exact k7
          · rw [b 0 (by decide) (by decide) (by decide) (by decide) (by decide), b58 2 (by decide) (by decide)]
            exact k8
          · rw [b58 2 (by decide) (by decide)] at q
            rw [b 60 (by decide) (by decide) (by decide) (by decide) (by decide)]
            exact ⟨(k9 q).1, sRL_congr (k9 q).2 (fun j a c => b _ (by omega) (by omega) (by omega) (by omega) (by omega))⟩
  · refine opX_ro (xo := 1) (r := 0) h ⟨σ, ?_, SE.rf⟩ (fun σ' h' hg h5 => ⟨0, zup (zup σ' 58 3 0) 58 3 1, ?_, SE.thr.tr SE.thr, by rw [zup_s]; rfl, fun q => absurd q (by decide)⟩)
    · unfold X5_append
      rw [X4_isWritable_eq, if_neg c, Option.bind_some, if_pos rfl]
    · obtain ⟨N1, N2, h1, h2, e⟩ := hr σ'
      rw [e, ref N1 N2 _ h1 (by rw [z5, h5]), if_neg c]
