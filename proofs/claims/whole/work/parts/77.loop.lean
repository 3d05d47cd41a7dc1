section ZS
variable {p : Program} {l : Launch} {e : Env} {R : Room} {s : State} {m : MethodId} {args : Array Value} {below : List Frame} {meth : Method} {c : Code} {cc : ByteArray} {own : String} {nL : Nat} {Ts : List Cond} {D : va_G} {cy : Nat → ClassId} {A : Nat → Prop} {Q : State → Prop} {pc : Nat} {vs vs' : List (Nat × Value)} {st : List Value} {ws : va_W} {k n : Nat}
theorem k_astore_n (C : Cx p s m args meth c cc own nL Ts D cy A) {i : Fin 4} {x : Nat} (hdg : decode cc pc = .ok (.astore_n i, 1)) (hn : (i : Nat) < nL) (hl : ((i : Nat), Value.ref x) :: vs.filter (fun q => !(q.1 == (i : Nat)) && !(q.1 + 1 == (i : Nat) && q.2.category == 2)) = vs') (kk : GC p l e R s m args below meth c nL D A Q (pc + 1) vs' st ws k n) : GC p l e R s m args below meth c nL D A Q pc vs (.ref x :: st) ws k n :=
  fun H locs ls hP hD hS hl2 => lv_astore_n C.1 C.2.1 hdg rfl hl2 hn hl (fun ls' hl' => kk H locs ls' hP hD hS hl')
theorem k_istore (C : Cx p s m args meth c cc own nL Ts D cy A) {i : Nat} {x : Int32} (hdg : decode cc pc = .ok (.istore i, 2)) (hn : i < nL) (hl : (i, Value.int x) :: vs.filter (fun q => !(q.1 == i) && !(q.1 + 1 == i && q.2.category == 2)) = vs') (kk : GC p l e R s m args below meth c nL D A Q (pc + 2) vs' st ws k n) : GC p l e R s m args below meth c nL D A Q pc vs (.int x :: st) ws k n :=
  fun H locs ls hP hD hS hl2 => lv_istore C.1 C.2.1 hdg hl2 hn hl (fun ls' hl' => kk H locs ls' hP hD hS hl')
end ZS
section ZT
variable {p : Program} {l : Launch} {e : Env} {R : Room} {s : State} {m : MethodId} {args : Array Value} {below : List Frame} {meth : Method} {c : Code} {cc : ByteArray} {own : String} {nL : Nat} {Ts : List Cond} {D : va_G} {cy : Nat → ClassId} {ad : Nat → Nat} {A : Nat → Prop} {Q : State → Prop} {pc : Nat} {vs vs' : List (Nat × Value)} {st : List Value} {σ : MM} {k n : Nat}
theorem w_slen (C : Cx p s m args meth c cc own nL Ts D cy A) {b L : Nat} {xs : Nat → Int32} (hX : va_X b L xs s s.heap) (hbl : b < s.heap.size) (hbA : ¬ A b) (hdg : decode cc pc = .ok (.arraylength, 1)) (kk : GL p l e R s m args below meth c nL D cy ad A Q (pc + 1) vs (.int (Int32.ofInt (L : Int)) :: st) σ k n) : GL p l e R s m args below meth c nL D cy ad A Q pc vs (.ref b :: st) σ k n :=
  fun hM H locs ls hP hD hS hl => va_slen C.1 C.2.1 hX hbl hbA hS hdg (kk hM H locs ls hP hD hS hl)
theorem w_isub (C : Cx p s m args meth c cc own nL Ts D cy A) {x y : Int} (hdg : decode cc pc = .ok (.isub, 1)) (kk : GL p l e R s m args below meth c nL D cy ad A Q (pc + 1) vs (.int (Int32.ofInt (x - y)) :: st) σ k n) : GL p l e R s m args below meth c nL D cy ad A Q pc vs (.int (Int32.ofInt y) :: .int (Int32.ofInt x) :: st) σ k n :=
  fun hM H locs ls hP hD hS hl => lv_isub C.1 C.2.1 hdg (by rw [← Int32.ofInt_sub]; exact kk hM H locs ls hP hD hS hl)
theorem w_icmp_gt (C : Cx p s m args meth c cc own nL Ts D cy A) {x y d : Int} (hx : inR x) (hy : inR y) (tgt : Nat) (hdg : decode cc pc = .ok (.if_icmp .gt d, 3)) (ht : (pc : Int) + d = tgt) (k1 : y < x → GL p l e R s m args below meth c nL D cy ad A Q tgt vs st σ k n) (k2 : ¬ y < x → GL p l e R s m args below meth c nL D cy ad A Q (pc + 3) vs st σ k n) : GL p l e R s m args below meth c nL D cy ad A Q pc vs (.int (Int32.ofInt y) :: .int (Int32.ofInt x) :: st) σ k n :=
  fun hM H locs ls hP hD hS hl => lv_icmp_gt C.1 C.2.1 hdg ht (fun h => k1 ((zlt hy hx).mp h) hM H locs ls hP hD hS hl) (fun h => k2 (fun q => h ((zlt hy hx).mpr q)) hM H locs ls hP hD hS hl)
theorem w_bipush (C : Cx p s m args meth c cc own nL Ts D cy A) {d : Int} {v : Int32} (hdg : decode cc pc = .ok (.bipush d, 2)) (hv : (Int8.ofInt d).toInt32 = v) (kk : GL p l e R s m args below meth c nL D cy ad A Q (pc + 2) vs (.int v :: st) σ k n) : GL p l e R s m args below meth c nL D cy ad A Q pc vs st σ k n :=
  fun hM H locs ls hP hD hS hl => lv_bipush C.1 C.2.1 hdg hv (kk hM H locs ls hP hD hS hl)
theorem w_iand (C : Cx p s m args meth c cc own nL Ts D cy A) {x y : Int32} (hdg : decode cc pc = .ok (.iand, 1)) (kk : GL p l e R s m args below meth c nL D cy ad A Q (pc + 1) vs (.int (x &&& y) :: st) σ k n) : GL p l e R s m args below meth c nL D cy ad A Q pc vs (.int y :: .int x :: st) σ k n :=
  fun hM H locs ls hP hD hS hl => lv_iand C.1 C.2.1 hdg (kk hM H locs ls hP hD hS hl)
theorem w_tabIn (C : Cx p s m args meth c cc own nL Ts D cy A) {dflt lo hi j off : Int} {offs : Array Int} {len : Nat} {x : Int32} (tgt : Nat) (hj : x.toInt = j) (hdg : decode cc pc = .ok (.tableswitch dflt lo hi offs, len)) (h1 : ¬ j < lo) (h2 : ¬ hi < j) (ho : offs[(j - lo).toNat]? = some off) (ht : (pc : Int) + off = tgt) (kk : GL p l e R s m args below meth c nL D cy ad A Q tgt vs st σ k n) : GL p l e R s m args below meth c nL D cy ad A Q pc vs (.int x :: st) σ k n := by
  subst hj
  exact fun hM H locs ls hP hD hS hl => lv_tableIn C.1 C.2.1 hdg h1 h2 ho ht (kk hM H locs ls hP hD hS hl)
theorem w_tabOut (C : Cx p s m args meth c cc own nL Ts D cy A) {dflt lo hi j : Int} {offs : Array Int} {len : Nat} {x : Int32} (tgt : Nat) (hj : x.toInt = j) (hdg : decode cc pc = .ok (.tableswitch dflt lo hi offs, len)) (h1 : j < lo ∨ hi < j) (ht : (pc : Int) + dflt = tgt) (kk : GL p l e R s m args below meth c nL D cy ad A Q tgt vs st σ k n) : GL p l e R s m args below meth c nL D cy ad A Q pc vs (.int x :: st) σ k n := by
  subst hj
  exact fun hM H locs ls hP hD hS hl => lv_tableOut C.1 C.2.1 hdg h1 ht (kk hM H locs ls hP hD hS hl)
theorem w_iinc (C : Cx p s m args meth c cc own nL Ts D cy A) {i j : Nat} {d x : Int} (hdg : decode cc pc = .ok (.iinc i d, 3)) (hj : vs[j]? = some (i, .int (Int32.ofInt x))) (hn : i < nL) (hl : (i, Value.int (Int32.ofInt (x + d))) :: vs.filter (fun q => !(q.1 == i) && !(q.1 + 1 == i && q.2.category == 2)) = vs') (kk : GL p l e R s m args below meth c nL D cy ad A Q (pc + 3) vs' st σ k n) : GL p l e R s m args below meth c nL D cy ad A Q pc vs st σ k n :=
  fun hM H locs ls hP hD hS hl2 => lv_iinc C.1 C.2.1 hdg hl2 hj z_add hn hl (fun ls' hl' => kk hM H locs ls' hP hD hS hl')
end ZT
set_option maxHeartbeats 4000000 in
set_option maxRecDepth 100000 in
theorem law_loop {p : Program} {l : Launch} {e : Env} {s : State} {m : MethodId} {below : List Frame} {meth : Method} {c : Code} {D : va_G} {cy : Nat → ClassId} {ad : Nat → Nat} {b L : Nat} {xs : Nat → Int32} (C : Cx p s m #[Value.ref b] meth c code "DoacrossSchedulerLaw" 7 wsL_law D cy (fun q : Nat => s.heap.size ≤ q)) (hX : zSX (fun q : Nat => s.heap.size ≤ q) s s.heap) (hNC : zNC s) (hl0 : l.stackTraces = false) (hXs : va_X b L xs s s.heap) (hbl : b < s.heap.size) (hL : L ≤ 1536) (hr : meth.sig.returnType = ret) : ∀ (f : Nat) (i : Int) (σ : MM) (k n : Nat), ST σ → 0 ≤ i → i ≤ 2000 → (L : Int) - i ≤ 3 * f → k + f ≤ 601024 → n + 6 * f ≤ 7293034 →
    GL p l e room_1 s m #[Value.ref b] below meth c 7 D cy ad (fun q : Nat => s.heap.size ≤ q) (lw_Z below #[Value.ref b] s) 23 [(0, .ref b), (1, .ref (ad 0)), (2, .ref (ad 58)), (3, .ref (ad 72)), (4, .int (Int32.ofInt i))] [] σ k n := by
  have hbA : ¬ (fun q : Nat => s.heap.size ≤ q) b := Nat.not_le.mpr hbl
  have hL2 : L < 1000000 := by omega
  intro f
  induction f with
  | zero =>
    intro i σ k n hT hi hi2 hf hk hn
    refine w_iload C dL_law_23 4 rfl ?_
    refine w_aload_n C dL_law_25 0 rfl ?_
    refine w_slen C hXs hbl hbA dL_law_26 ?_
    refine w_iconst C dL_law_27 ?_
    refine w_isub C dL_law_28 ?_
    refine w_icmp_gt C (by omega) (by omega) 1440 dL_law_29 (by decide) (fun _ => ?_) (fun q => absurd (by omega) q)
    refine w_iconst C dL_law_1440 ?_
    intro hM H locs ls hP hD hS hl
    refine va_forget (fun q hq => hS.2.2 q hq) ?_
    refine W.widen (k := 601024) (n := 7293034) (by omega) (by omega) ?_
    exact lw_ret C.1 C.2.1 hr C.2.2.2.2.2.2.2.1 dL_law_1441
  | succ f ih =>
    intro i σ k n hT hi hi2 hf hk hn
    refine w_iload C dL_law_23 4 rfl ?_
    refine w_aload_n C dL_law_25 0 rfl ?_
    refine w_slen C hXs hbl hbA dL_law_26 ?_
    refine w_iconst C dL_law_27 ?_
    refine w_isub C dL_law_28 ?_
    refine w_icmp_gt C (by omega) (by omega) 1440 dL_law_29 (by decide) (fun _ => ?_) (fun q => ?_)
    · refine w_iconst C dL_law_1440 ?_
      intro hM H locs ls hP hD hS hl
      refine va_forget (fun q hq => hS.2.2 q hq) ?_
      refine W.widen (k := 601024) (n := 7293034) (by omega) (by omega) ?_
      exact lw_ret C.1 C.2.1 hr C.2.2.2.2.2.2.2.1 dL_law_1441
    · have hi3 : 0 ≤ i ∧ i + 2 < (L : Int) := by omega
      have KK : ∀ σ2 : MM, ST σ2 → GL p l e room_1 s m #[Value.ref b] below meth c 7 D cy ad (fun q : Nat => s.heap.size ≤ q) (lw_Z below #[Value.ref b] s) 1434 [(0, .ref b), (1, .ref (ad 0)), (2, .ref (ad 58)), (3, .ref (ad 72)), (4, .int (Int32.ofInt i))] [] σ2 (k + 1) (n + 6) := by
        intro σ2 hT2
        refine w_iinc (j := 4) (vs' := [(4, .int (Int32.ofInt (i + 3))), (0, .ref b), (1, .ref (ad 0)), (2, .ref (ad 58)), (3, .ref (ad 72))]) C dL_law_1434 rfl (by decide) rfl ?_
        refine w_goto C 23 dL_law_1437 (by decide) ?_
        refine w_sub (vs' := [(0, .ref b), (1, .ref (ad 0)), (2, .ref (ad 58)), (3, .ref (ad 72)), (4, .int (Int32.ofInt (i + 3)))]) [1, 2, 3, 4, 0] rfl ?_
        exact ih (i + 3) σ2 (k + 1) (n + 6) hT2 (by omega) (by omega) (by omega) (by omega) (by omega)
      refine w_aload_n C dL_law_32 0 rfl ?_
      refine w_iload C dL_law_33 4 rfl ?_
      refine w_sld C hXs hbl hbA hL2 (by omega) dL_law_35 ?_
      refine w_bipush (v := 31) C dL_law_36 (by decide) ?_
      refine w_iand C dL_law_38 ?_
      have h31 := and31 (Int32.ofInt (xs i.toNat).toInt)
      generalize hx : (Int32.ofInt (xs i.toNat).toInt &&& 31).toInt = t at h31
      have ht : t = 0 ∨ t = 1 ∨ t = 2 ∨ t = 3 ∨ t = 4 ∨ t = 5 ∨ t = 6 ∨ t = 7 ∨ t = 8 ∨ t = 9 ∨ t = 10 ∨ t = 11 ∨ t = 12 ∨ t = 13 ∨ t = 14 ∨ t = 15 ∨ t = 16 ∨ t = 17 ∨ t = 18 ∨ t = 19 ∨ t = 20 ∨ t = 21 ∨ t = 22 ∨ t = 23 ∨ t = 24 ∨ t = 25 ∨ t = 26 ∨ t = 27 ∨ t = 28 ∨ t = 29 ∨ t = 30 ∨ t = 31 := by omega
      rcases ht with rfl | rfl | rfl | rfl | rfl | rfl | rfl | rfl | rfl | rfl | rfl | rfl | rfl | rfl | rfl | rfl | rfl | rfl | rfl | rfl | rfl | rfl | rfl | rfl | rfl | rfl | rfl | rfl | rfl | rfl | rfl | rfl
      · refine w_tabIn C 172 hx dL_law_39 (by decide) (by decide) (off := 133) rfl (by decide) ?_
        exact law_c0 C hX hNC hl0 hXs hbl hL hT hi3 (by omega) (by omega) KK
      · refine w_tabIn C 228 hx dL_law_39 (by decide) (by decide) (off := 189) rfl (by decide) ?_
        exact law_c1 C hX hNC hl0 hXs hbl hL hT hi3 (by omega) (by omega) KK
      · refine w_tabIn C 272 hx dL_law_39 (by decide) (by decide) (off := 233) rfl (by decide) ?_
        exact law_c2 C hX hNC hl0 hXs hbl hL hT hi3 (by omega) (by omega) KK
      · refine w_tabIn C 285 hx dL_law_39 (by decide) (by decide) (off := 246) rfl (by decide) ?_
        exact law_c3 C hX hNC hl0 hXs hbl hL hT hi3 (by omega) (by omega) KK
      · refine w_tabIn C 353 hx dL_law_39 (by decide) (by decide) (off := 314) rfl (by decide) ?_
        exact law_c4 C hX hNC hl0 hXs hbl hL hT hi3 (by omega) (by omega) KK
      · refine w_tabIn C 421 hx dL_law_39 (by decide) (by decide) (off := 382) rfl (by decide) ?_
        exact law_c5 C hX hNC hl0 hXs hbl hL hT hi3 (by omega) (by omega) KK
      · refine w_tabIn C 477 hx dL_law_39 (by decide) (by decide) (off := 438) rfl (by decide) ?_
        exact law_c6 C hX hNC hl0 hXs hbl hL hT hi3 (by omega) (by omega) KK
      · refine w_tabIn C 533 hx dL_law_39 (by decide) (by decide) (off := 494) rfl (by decide) ?_
        exact law_c7 C hX hNC hl0 hXs hbl hL hT hi3 (by omega) (by omega) KK
      · refine w_tabIn C 601 hx dL_law_39 (by decide) (by decide) (off := 562) rfl (by decide) ?_
        exact law_c8 C hX hNC hl0 hXs hbl hL hT hi3 (by omega) (by omega) KK
      · refine w_tabIn C 669 hx dL_law_39 (by decide) (by decide) (off := 630) rfl (by decide) ?_
        exact law_c9 C hX hNC hl0 hXs hbl hL hT hi3 (by omega) (by omega) KK
      · refine w_tabIn C 737 hx dL_law_39 (by decide) (by decide) (off := 698) rfl (by decide) ?_
        exact law_c10 C hX hNC hl0 hXs hbl hL hT hi3 (by omega) (by omega) KK
      · refine w_tabIn C 793 hx dL_law_39 (by decide) (by decide) (off := 754) rfl (by decide) ?_
        exact law_c11 C hX hNC hl0 hXs hbl hL hT hi3 (by omega) (by omega) KK
      · refine w_tabIn C 806 hx dL_law_39 (by decide) (by decide) (off := 767) rfl (by decide) ?_
        exact law_c12 C hX hNC hl0 hXs hbl hL hT hi3 (by omega) (by omega) KK
      · refine w_tabIn C 881 hx dL_law_39 (by decide) (by decide) (off := 842) rfl (by decide) ?_
        exact law_c13 C hX hNC hl0 hXs hbl hL hT hi3 (by omega) (by omega) KK
      · refine w_tabIn C 894 hx dL_law_39 (by decide) (by decide) (off := 855) rfl (by decide) ?_
        exact law_c14 C hX hNC hl0 hXs hbl hL hT hi3 (by omega) (by omega) KK
      · refine w_tabIn C 907 hx dL_law_39 (by decide) (by decide) (off := 868) rfl (by decide) ?_
        exact law_c15 C hX hNC hl0 hXs hbl hL hT hi3 (by omega) (by omega) KK
      · refine w_tabIn C 951 hx dL_law_39 (by decide) (by decide) (off := 912) rfl (by decide) ?_
        exact law_c16 C hX hNC hl0 hXs hbl hL hT hi3 (by omega) (by omega) KK
      · refine w_tabIn C 995 hx dL_law_39 (by decide) (by decide) (off := 956) rfl (by decide) ?_
        exact law_c17 C hX hNC hl0 hXs hbl hL hT hi3 (by omega) (by omega) KK
      · refine w_tabIn C 1008 hx dL_law_39 (by decide) (by decide) (off := 969) rfl (by decide) ?_
        exact law_c18 C hX hNC hl0 hXs hbl hL hT hi3 (by omega) (by omega) KK
      · refine w_tabIn C 1076 hx dL_law_39 (by decide) (by decide) (off := 1037) rfl (by decide) ?_
        exact law_c19 C hX hNC hl0 hXs hbl hL hT hi3 (by omega) (by omega) KK
      · refine w_tabIn C 1132 hx dL_law_39 (by decide) (by decide) (off := 1093) rfl (by decide) ?_
        exact law_c20 C hX hNC hl0 hXs hbl hL hT hi3 (by omega) (by omega) KK
      · refine w_tabIn C 1200 hx dL_law_39 (by decide) (by decide) (off := 1161) rfl (by decide) ?_
        exact law_c21 C hX hNC hl0 hXs hbl hL hT hi3 (by omega) (by omega) KK
      · refine w_tabIn C 1213 hx dL_law_39 (by decide) (by decide) (off := 1174) rfl (by decide) ?_
        exact law_c22 C hX hNC hl0 hXs hbl hL hT hi3 (by omega) (by omega) KK
      · refine w_tabIn C 1226 hx dL_law_39 (by decide) (by decide) (off := 1187) rfl (by decide) ?_
        exact law_c23 C hX hNC hl0 hXs hbl hL hT hi3 (by omega) (by omega) KK
      · refine w_tabIn C 1282 hx dL_law_39 (by decide) (by decide) (off := 1243) rfl (by decide) ?_
        exact law_c24 C hX hNC hl0 hXs hbl hL hT hi3 (by omega) (by omega) KK
      · refine w_tabIn C 1295 hx dL_law_39 (by decide) (by decide) (off := 1256) rfl (by decide) ?_
        exact law_c25 C hX hNC hl0 hXs hbl hL hT hi3 (by omega) (by omega) KK
      · refine w_tabIn C 1308 hx dL_law_39 (by decide) (by decide) (off := 1269) rfl (by decide) ?_
        exact law_c26 C hX hNC hl0 hXs hbl hL hT hi3 (by omega) (by omega) KK
      · refine w_tabIn C 1321 hx dL_law_39 (by decide) (by decide) (off := 1282) rfl (by decide) ?_
        exact law_c27 C hX hNC hl0 hXs hbl hL hT hi3 (by omega) (by omega) KK
      · refine w_tabIn C 1334 hx dL_law_39 (by decide) (by decide) (off := 1295) rfl (by decide) ?_
        exact law_c28 C hX hNC hl0 hXs hbl hL hT hi3 (by omega) (by omega) KK
      · refine w_tabIn C 1378 hx dL_law_39 (by decide) (by decide) (off := 1339) rfl (by decide) ?_
        exact law_c29 C hX hNC hl0 hXs hbl hL hT hi3 (by omega) (by omega) KK
      · refine w_tabOut C 1434 hx dL_law_39 (by decide) (by decide) ?_
        exact w_widen (by omega) (by omega) (KK σ hT)
      · refine w_tabOut C 1434 hx dL_law_39 (by decide) (by decide) ?_
        exact w_widen (by omega) (by omega) (KK σ hT)
set_option maxHeartbeats 4000000 in
set_option maxRecDepth 100000 in
/-- THE LAW, from its entry -/
theorem whole_start {p : Program} {e : Env} {s : State} {m : MethodId} {below : List Frame} {meth : Method} {c : Code} (l : Launch) (hflags : l.flags = flags0) {b L : Nat} {xs : Nat → Int32} (hL : L ≤ 1536) (C0 : lw_At p s m meth c b L xs) : W p l e room_1 s m #[Value.ref b] below meth c s.heap [] 0 0 (lw_Z below #[Value.ref b] s) (entryFrame m ([Value.ref b] : List Value).toArray 7) := by
  obtain ⟨D, cy, C, hX, hNC, hZ⟩ := law_facts C0
  obtain ⟨-, -, hr, -, -, -, hXs, hbl, -, -⟩ := C0
  have hl0 : l.stackTraces = false := by
    unfold Launch.stackTraces
    rw [hflags]
    decide +kernel
  have hl := lv_entry ([.ref b]) (n := 7) (Nat.le_of_ble_eq_true rfl)
  rw [lg_entry_eq]
  have start : GC p l e room_1 s m #[Value.ref b] below meth c 7 D (fun q : Nat => s.heap.size ≤ q) (lw_Z below #[Value.ref b] s) 0 [(0, .ref b)] [] [] 0 0 := by
    refine k_new (fs := [.null, .null, .null, .null, .null, .null, .null, .int 0, .int 0]) C inlX5 tyX5 tyX5_ok (ci := 5) rfl (by decide +kernel) (by decide +kernel) (by decide +kernel) (by decide) (Nat.le_of_ble_eq_true rfl) (Nat.le_of_ble_eq_true rfl) dL_law_0 (fun q0 => ?_)
    refine k_dup C dL_law_3 ?_
    refine k_w (ws2 := [] ++ [(q0, .inr (5, [.null, .null, .null, .null, .null, .null, .null, .int 0, .int 0]))]) rfl ?_
    refine k_call (rest := [.ref q0]) C (c_X5_init l) gL_law_X5_init rfl ⟨rfl, rfl⟩ (by decide +kernel) (by decide +kernel) (by decide +kernel) rfl (by decide +kernel) ⟨Nat.le_of_ble_eq_true rfl, Nat.le_of_ble_eq_true rfl⟩ (Nat.le_of_ble_eq_true rfl) dL_law_4 ⟨Nat.le_of_ble_eq_true rfl, Nat.le_of_ble_eq_true rfl⟩ hZ (fun a ha => ?_)
    subst ha
    refine k_w (ws2 := wX5 cy a) rfl ?_
    refine k_astore_n (vs' := [(1, .ref (a 0)), (0, .ref b)]) C dL_law_7 (by decide) rfl ?_
    refine k_new (fs := [.null, .null, .int 0, .int 0, .null, .int 0, .int 0, .int 0, .int 0, .null, .null, .null, .int 0, .null, .null, .null, .null, .null, .null, .null]) C inlX6 tyX6 tyX6_ok (ci := 6) rfl (by decide +kernel) (by decide +kernel) (by decide +kernel) (by decide) (Nat.le_of_ble_eq_true rfl) (Nat.le_of_ble_eq_true rfl) dL_law_8 (fun q1 => ?_)
    refine k_dup C dL_law_11 ?_
    refine k_call (rest := [.ref q1]) C (c_X6_init l) gL_law_X6_init rfl ⟨rfl, rfl⟩ (by decide +kernel) (by decide +kernel) (by decide +kernel) rfl (by decide +kernel) ⟨Nat.le_of_ble_eq_true rfl, Nat.le_of_ble_eq_true rfl⟩ (Nat.le_of_ble_eq_true rfl) dL_law_12 ⟨Nat.le_of_ble_eq_true rfl, Nat.le_of_ble_eq_true rfl⟩ hZ (fun a2 ha2 => ?_)
    subst ha2
    refine k_astore_n (vs' := [(2, .ref (a2 0)), (1, .ref (a 0)), (0, .ref b)]) C dL_law_15 (by decide) rfl ?_
    refine k_iconst (v := 1) C dL_law_16 (by decide) ?_
    refine k_newa (N := 1) (vv := (1, .inr (.inl (fun _ : Nat => (0 : Int64))))) C 3 (by decide) rfl (by decide +kernel) (fun _ => rfl) (by decide) (by decide) (Nat.le_of_ble_eq_true rfl) (Nat.le_of_ble_eq_true rfl) (Nat.le_of_ble_eq_true rfl) dL_law_17 (fun q2 => ?_)
    refine k_astore_n (vs' := [(3, .ref q2), (2, .ref (a2 0)), (1, .ref (a 0)), (0, .ref b)]) C dL_law_19 (by decide) rfl ?_
    refine k_iconst (v := Int32.ofInt 0) C dL_law_20 rfl ?_
    refine k_istore (vs' := [(4, .int (Int32.ofInt 0)), (3, .ref q2), (2, .ref (a2 0)), (1, .ref (a 0)), (0, .ref b)]) C dL_law_21 (by decide) rfl ?_
    refine k_w (w_first cy a a2 q2) ?_
    intro H locs ls hP hD hS hl
    have lo := law_loop (e := e) (below := below) (ad := adF a a2 q2) C hX hNC hl0 hXs hbl hL hr 512 0 σ0 (0 + 1 + 57 + 1 + 13 + 1) (0 + 9 + 1026 + 20 + 734 + 1) ST0 (by omega) (by omega) (by omega) (by omega) (by omega)
    exact lo σ0_ok H locs ls hP hD hS (lv_sub hl [4, 3, 2, 1, 0] rfl)
  exact start s.heap [] _ (fun k q h => by simp at h) ⟨fun i j p q h => by simp at h, fun k q h => by simp at h⟩ va_S.rf hl
