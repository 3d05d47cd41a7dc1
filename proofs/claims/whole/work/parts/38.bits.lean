/-! sets of statements as bits -/
def bt (z t : Int) : Prop := jand (jshr z t) 1 = 1
theorem bv_bit (v : BitVec 32) {k : Nat} (hk : k < 8) : (v.sshiftRight k &&& 1#32 = 1#32) ↔ v.getLsbD k = true := by
  have hs : (v.sshiftRight k).getLsbD 0 = v.getLsbD k := by
    rw [BitVec.getLsbD_sshiftRight, if_pos (show k + 0 < 32 by omega)]
    simp
  have h1 : (1#32).getLsbD 0 = true := by decide
  constructor
  · intro h
    have := congrArg (fun w => BitVec.getLsbD w 0) h
    simp only [BitVec.getLsbD_and, hs, h1, Bool.and_true] at this
    exact this
  · intro h
    apply BitVec.eq_of_getLsbD_eq
    intro i hi
    by_cases e : i = 0
    · subst e
      rw [BitVec.getLsbD_and, hs, h1, h]
      rfl
    · simp [BitVec.getLsbD_one, e]
theorem bt_iff {z : Int} {t : Int} (ht : 0 ≤ t ∧ t < 8) : bt z t ↔ (Int32.ofInt z).toBitVec.getLsbD t.toNat = true := by
  unfold bt jand jshr
  rw [Int32.ofInt_toInt]
  generalize Int32.ofInt z = x
  have h1 : ∀ y : Int32, y.toInt = 1 ↔ y.toBitVec = 1#32 := by
    intro y
    constructor
    · intro h
      have : y = 1 := Int32.toInt_inj.mp (by rw [h]; rfl)
      rw [this]; rfl
    · intro h
      have : y = 1 := Int32.toBitVec_inj.mp (by rw [h]; rfl)
      rw [this]; rfl
  rw [h1, ← bv_bit _ (k := t.toNat) (by omega)]
  have e : t = 0 ∨ t = 1 ∨ t = 2 ∨ t = 3 ∨ t = 4 ∨ t = 5 ∨ t = 6 ∨ t = 7 := by omega
  rcases e with rfl | rfl | rfl | rfl | rfl | rfl | rfl | rfl <;> exact Iff.rfl
theorem bt_or {z w t : Int} (ht : 0 ≤ t ∧ t < 8) : bt (jor z w) t ↔ bt z t ∨ bt w t := by
  rw [bt_iff ht, bt_iff ht, bt_iff ht]
  unfold jor
  rw [Int32.ofInt_toInt, Int32.toBitVec_or, BitVec.getLsbD_or, Bool.or_eq_true]
theorem bt_0 {t : Int} (ht : 0 ≤ t ∧ t < 8) : ¬ bt 0 t := by
  unfold bt
  have e : t = 0 ∨ t = 1 ∨ t = 2 ∨ t = 3 ∨ t = 4 ∨ t = 5 ∨ t = 6 ∨ t = 7 := by omega
  rcases e with rfl | rfl | rfl | rfl | rfl | rfl | rfl | rfl <;> decide
theorem bt_shl {s t : Int} (hs : 0 ≤ s ∧ s < 8) (ht : 0 ≤ t ∧ t < 8) : bt (jshl 1 s) t ↔ s = t := by
  unfold bt
  have e : t = 0 ∨ t = 1 ∨ t = 2 ∨ t = 3 ∨ t = 4 ∨ t = 5 ∨ t = 6 ∨ t = 7 := by omega
  have e2 : s = 0 ∨ s = 1 ∨ s = 2 ∨ s = 3 ∨ s = 4 ∨ s = 5 ∨ s = 6 ∨ s = 7 := by omega
  rcases e with rfl | rfl | rfl | rfl | rfl | rfl | rfl | rfl <;> rcases e2 with rfl | rfl | rfl | rfl | rfl | rfl | rfl | rfl <;> decide
