theorem z_add {a d : Int} : Int32.ofInt a + Int32.ofInt d = Int32.ofInt (a + d) := (Int32.ofInt_add a d).symm
theorem z_ne {v : Int} (h1 : 1 ≤ v) (h2 : v ≤ 3) : ¬ Int32.ofInt v = 0 := by
  intro h
  have h3 := congrArg Int32.toInt h
  rw [zI (by omega)] at h3
  have : (0 : Int32).toInt = 0 := rfl
  omega
theorem kle_A (x : Int) : kA x ≤ 3 := by unfold kA; split <;> omega
theorem kle_A2 (x : Int) : kA2 x ≤ 3 := by unfold kA2; split <;> (try split) <;> omega
theorem kle_B (x : Int) : kB x ≤ 3 := by unfold kB; split <;> (try split) <;> (try split) <;> omega
theorem kle_B2 (x : Int) : kB2 x ≤ 3 := by unfold kB2; split <;> (try split) <;> omega
theorem kle_C (x : Int) : kC x ≤ 3 := by unfold kC; split <;> (try split) <;> omega
theorem kle_D (x : Int) : kD x ≤ 3 := by unfold kD; split <;> omega
theorem kle_E (x : Int) : kE x ≤ 3 := by unfold kE; split <;> omega
theorem kle_F (x : Int) : kF x ≤ 3 := by unfold kF; split <;> omega
/-- the out cell after a wrapper -/
theorem oW {σ1 : MM} {xo r : Int} : ∀ j : Nat, j ≠ 72 → (if xo = 0 then zup σ1 72 0 r else σ1) j = σ1 j := by
  intro j hj
  split
  · exact zup_ne hj
  · rfl
theorem and31 (x : Int32) : 0 ≤ (x &&& 31).toInt ∧ (x &&& 31).toInt < 32 := by
  have h : (x &&& 31).toBitVec.toNat ≤ 31 := by
    rw [Int32.toBitVec_and, BitVec.toNat_and]
    exact Nat.and_le_right
  have e : (x &&& 31).toInt = ((x &&& 31).toBitVec.toNat : Int) := by
    show (x &&& 31).toBitVec.toInt = _
    rw [BitVec.toInt_eq_toNat_of_lt (by omega)]
  omega
theorem lay58 : lay 58 = .inr (6, [some 59, some 60, none, none, some 61, none, none, none, none, some 62, some 63, some 64, none, some 65, some 66, some 67, some 68, some 69, some 70, some 71]) := by decide +kernel
section ZV
variable {p : Program} {l : Launch} {e : Env} {R : Room} {s : State} {m : MethodId} {args : Array Value} {below : List Frame} {meth : Method} {c : Code} {cc : ByteArray} {own : String} {nL : Nat} {Ts : List Cond} {D : va_G} {cy : Nat → ClassId} {ad : Nat → Nat} {A : Nat → Prop} {Q : State → Prop} {pc : Nat} {vs vs' : List (Nat × Value)} {st : List Value} {σ : MM} {k n : Nat}
theorem w_widen {k' n' : Nat} (h1 : k ≤ k') (h2 : n ≤ n') (kk : GL p l e R s m args below meth c nL D cy ad A Q pc vs st σ k' n') : GL p l e R s m args below meth c nL D cy ad A Q pc vs st σ k n :=
  fun hM H locs ls hP hD hS hl => W.widen h1 h2 (kk hM H locs ls hP hD hS hl)
theorem w_iadd (C : Cx p s m args meth c cc own nL Ts D cy A) {x y : Int} (hdg : decode cc pc = .ok (.iadd, 1)) (kk : GL p l e R s m args below meth c nL D cy ad A Q (pc + 1) vs (.int (Int32.ofInt (x + y)) :: st) σ k n) : GL p l e R s m args below meth c nL D cy ad A Q pc vs (.int (Int32.ofInt y) :: .int (Int32.ofInt x) :: st) σ k n :=
  fun hM H locs ls hP hD hS hl => lv_iadd C.1 C.2.1 hdg (by rw [z_add]; exact kk hM H locs ls hP hD hS hl)
theorem w_sld (C : Cx p s m args meth c cc own nL Ts D cy A) {b L : Nat} {xs : Nat → Int32} (hX : va_X b L xs s s.heap) (hbl : b < s.heap.size) (hbA : ¬ A b) (hL : L < 1000000) {i : Int} (hi : 0 ≤ i ∧ i < (L : Int)) (hdg : decode cc pc = .ok (.iaload, 1)) (kk : GL p l e R s m args below meth c nL D cy ad A Q (pc + 1) vs (.int (Int32.ofInt (xs i.toNat).toInt) :: st) σ k n) : GL p l e R s m args below meth c nL D cy ad A Q pc vs (.int (Int32.ofInt i) :: .ref b :: st) σ k n := by
  intro hM H locs ls hP hD hS hl
  obtain ⟨h1, h2⟩ := z_in hi hL
  refine va_sld C.1 C.2.1 hX hbl hbA hS h1 hdg ?_
  have : (Int32.ofInt i).toNatClampNeg = i.toNat := by omega
  rw [this]
  have := kk hM H locs ls hP hD hS hl
  rw [Int32.ofInt_toInt] at this
  exact this
theorem w_lcmpE (C : Cx p s m args meth c cc own nL Ts D cy A) {x y : Int} (h : x = y) (hdg : decode cc pc = .ok (.lcmp, 1)) (kk : GL p l e R s m args below meth c nL D cy ad A Q (pc + 1) vs (.int 0 :: st) σ k n) : GL p l e R s m args below meth c nL D cy ad A Q pc vs (.long (Int64.ofInt y) :: .long (Int64.ofInt x) :: st) σ k n := w_lcmp C (by rw [h]) hdg kk
theorem w_if_eq0 (C : Cx p s m args meth c cc own nL Ts D cy A) {d : Int} (tgt : Nat) (hdg : decode cc pc = .ok (.ifCond .eq d, 3)) (ht : (pc : Int) + d = tgt) (k1 : GL p l e R s m args below meth c nL D cy ad A Q tgt vs st σ k n) : GL p l e R s m args below meth c nL D cy ad A Q pc vs (.int 0 :: st) σ k n := w_if_eq C tgt hdg ht (fun _ => k1) (fun q => absurd rfl q)
theorem r32 (x : Int32) : inR x.toInt := ⟨Int32.le_toInt x, Int32.toInt_lt x⟩
end ZV
