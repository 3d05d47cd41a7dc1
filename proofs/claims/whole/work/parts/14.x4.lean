theorem in_X1_consider_X1 : ∀ w ∈ u_ws RX1 TX1 3, w ∈ wsX1_consider := fun _ h => List.mem_cons_of_mem _ (List.mem_append_left _ (List.mem_append_right _ h))
theorem in_X1_consider_X0 : ∀ w ∈ u_ws RX0 TX0 12, w ∈ wsX1_consider := fun _ h => List.mem_cons_of_mem _ (List.mem_append_right _ h)
set_option maxHeartbeats 4000000 in
set_option maxRecDepth 100000 in
theorem w_X1_consider_L43 {p : Program} {l : Launch} {e : Env} {s : State} {m : MethodId} {args : Array Value} {below : List Frame} {meth : Method} {c : Code} {D : va_G} {cy : Nat → ClassId} {ad : Nat → Nat} {A : Nat → Prop} {Q : State → Prop} (C : Cx p s m args meth c cX1_consider RX1 3 wsX1_consider D cy A) {k75 : MM → Option MM} {σo : MM} (hR : RetV p l e { frames := 4, cells := 0, slots := 0, locals := 89 } s m args below meth c cX1_consider 3 D cy ad A Q σo) (hk75 : ∀  (σ : MM), k75 σ = some σo → G p l e { frames := 4, cells := 0, slots := 0, locals := 89 } s m args below meth c 3 D cy ad A Q 75 [] [] σ) : ∀ (n : Nat) (x2 : Int) (σ : MM) , inR x2 → X1_consider_L43 k75 n x2 σ = some σo → G p l e { frames := 4, cells := 0, slots := 0, locals := 89 } s m args below meth c 3 D cy ad A Q 43 [(0, .ref (ad 38)), (2, .int (Int32.ofInt x2))] [] σ := by
  intro n
  induction n with
  | zero =>
    intro x2 σ hx2 h
    cases h
  | succ n ih =>
    intro x2 σ hx2 h
    rw [X1_consider_L43] at h
    refine g_iload_n C dX1_consider_43 1 rfl ?_
    refine g_aload_n C dX1_consider_44 0 rfl ?_
    refine gf_X1_0 C in_X1_consider_X1 (List.mem_of_getElem? (i := 1) rfl) dX1_consider_45 ?_
    refine gfn_X0_0 C in_X1_consider_X0 isL39 (List.mem_of_getElem? (i := 20) rfl) dX1_consider_48 (fun r13 => ?_)
    refine g_icmp_ge C 75 dX1_consider_51 (by decide) hx2 r13 (fun c14 => ?_) (fun c14 => ?_)
    · have h := z_f c14 h
      refine g_sub [] rfl ?_
      exact hk75 _ h
    · have h := z_t c14 h
      refine g_aload_n C dX1_consider_54 0 rfl ?_
      refine gf_X1_1 C in_X1_consider_X1 (List.mem_of_getElem? (i := 3) rfl) dX1_consider_55 ?_
      refine g_iload_n C dX1_consider_58 1 rfl ?_
      refine g_aload_n C dX1_consider_59 0 rfl ?_
      refine gf_X1_0 C in_X1_consider_X1 (List.mem_of_getElem? (i := 1) rfl) dX1_consider_60 ?_
      refine gfn_X0_3 C in_X1_consider_X0 isL39 (List.mem_of_getElem? (i := 21) rfl) dX1_consider_63 ?_
      refine g_iload_n C dX1_consider_66 1 rfl ?_
      obtain ⟨g15, h⟩ := z_g h
      refine g_iald C ly_c42 (Nat.le_of_ble_eq_true rfl) (by decide) g15 dX1_consider_67 (fun r16 => ?_)
      refine g_iast C ly_c50 (Nat.le_of_ble_eq_true rfl) (by decide) (by omega) r16 dX1_consider_68 ?_
      obtain ⟨σ17, e18, h⟩ := z_l h
      refine g_mem e18 ?_
      refine g_iinc C dX1_consider_69 (j := 1) rfl (by decide) (vs' := [(2, .int (Int32.ofInt (x2 + 1))), (0, .ref (ad 38))]) rfl ?_
      refine g_goto C 43 dX1_consider_72 (by decide) ?_
      refine g_sub [1, 0] rfl ?_
      exact ih _ _ (by omega) h
set_option maxHeartbeats 4000000 in
set_option maxRecDepth 100000 in
theorem c_X1_consider (l : Launch) {σ : MM} (hM : okM σ) {σo : MM} (h : X1_consider σ = some σo) : CtV l yX1_consider wsX1_consider { frames := 4, cells := 0, slots := 0, locals := 89 } (fun ad : Nat → Nat => [.ref (ad 38)]) σ σo := by
  unfold X1_consider at h
  refine z_ctV (cc := cX1_consider) (maxL := 3) hM (by decide) rfl (fun _ => Nat.le_of_ble_eq_true rfl) (@fun p e s m args below meth c D cy ad A Q C hR => ?_)
  refine g_sub (vs' := [(0, .ref (ad 38))]) [0] rfl ?_
  refine g_aload_n C dX1_consider_0 0 rfl ?_
  refine gf_X1_0 C in_X1_consider_X1 (List.mem_of_getElem? (i := 1) rfl) dX1_consider_1 ?_
  obtain ⟨r1, e2, h⟩ := z_b h
  refine g_callI (n := 0) C (fun hM => c_X0_isLegalOrder l hM isL39 e2) gX1_consider_X0_isLegalOrder rfl (by decide) ⟨rfl, rfl⟩ ⟨Nat.le_of_ble_eq_true rfl, Nat.le_of_ble_eq_true rfl⟩ rfl ly_c39 (Nat.le_of_ble_eq_true rfl) rfl rfl (rest := []) rfl (Nat.le_of_ble_eq_true rfl) dX1_consider_4 (fun q3 => ?_)
  have q3 : r1 = 0 ∨ r1 = 1 := q3
  refine g_if_ne C 11 dX1_consider_7 (by decide) (rgT_inR (rt := 1) q3) (fun c4 => ?_) (fun c4 => ?_)
  · have h := z_f c4 h
    refine g_aload_n C dX1_consider_11 0 rfl ?_
    refine gf_X1_0 C in_X1_consider_X1 (List.mem_of_getElem? (i := 1) rfl) dX1_consider_12 ?_
    refine g_iconst C dX1_consider_15 ?_
    obtain ⟨⟨r5, σ7⟩, e6, h⟩ := z_b h
    refine g_callI (n := 1) C (fun hM => c_X0_delayWithout l hM isL39 (by decide) e6) gX1_consider_X0_delayWithout rfl (by decide) ⟨rfl, rfl⟩ ⟨Nat.le_of_ble_eq_true rfl, Nat.le_of_ble_eq_true rfl⟩ rfl ly_c39 (Nat.le_of_ble_eq_true rfl) rfl rfl (rest := []) rfl (Nat.le_of_ble_eq_true rfl) dX1_consider_16 (fun q8 => ?_)
    have q8 : inR r5 := q8
    refine g_istore_n C dX1_consider_19 (by decide) (vs' := [(1, .int (Int32.ofInt r5)), (0, .ref (ad 38))]) rfl ?_
    refine g_aload_n C dX1_consider_20 1 rfl ?_
    refine gf_X1_2 C in_X1_consider_X1 (List.mem_of_getElem? (i := 2) rfl) dX1_consider_21 (fun r9 => ?_)
    refine g_iconst C dX1_consider_24 ?_
    refine g_icmp_eq C 36 dX1_consider_25 (by decide) r9 (by decide) (fun c10 => ?_) (fun c10 => ?_)
    · have h := z_t c10 h
      refine g_aload_n C dX1_consider_36 1 rfl ?_
      refine g_iload_n C dX1_consider_37 0 rfl ?_
      refine gp_X1_2 C in_X1_consider_X1 (List.mem_of_getElem? (i := 2) rfl) q8 dX1_consider_38 ?_
      obtain ⟨σ11, e12, h⟩ := z_l h
      refine g_mem e12 ?_
      refine g_iconst C dX1_consider_41 ?_
      refine g_istore_n C dX1_consider_42 (by decide) (vs' := [(2, .int (Int32.ofInt 0)), (1, .int (Int32.ofInt r5)), (0, .ref (ad 38))]) rfl ?_
      refine g_sub [2, 0] rfl ?_
      refine w_X1_consider_L43 C hR ?_ _ _ _ (by decide) h
      · intro σ19 h
        obtain rfl := z_s1 h
        exact hR _ _ dX1_consider_75
    · have h := z_f c10 h
      refine g_iload_n C dX1_consider_28 0 rfl ?_
      refine g_aload_n C dX1_consider_29 1 rfl ?_
      refine gf_X1_2 C in_X1_consider_X1 (List.mem_of_getElem? (i := 2) rfl) dX1_consider_30 (fun r20 => ?_)
      refine g_icmp_ge C 75 dX1_consider_33 (by decide) q8 r20 (fun c21 => ?_) (fun c21 => ?_)
      · have h := z_f c21 h
        obtain rfl := z_s1 h
        exact hR _ _ dX1_consider_75
      · have h := z_t c21 h
        refine g_aload_n C dX1_consider_36 1 rfl ?_
        refine g_iload_n C dX1_consider_37 0 rfl ?_
        refine gp_X1_2 C in_X1_consider_X1 (List.mem_of_getElem? (i := 2) rfl) q8 dX1_consider_38 ?_
        obtain ⟨σ22, e23, h⟩ := z_l h
        refine g_mem e23 ?_
        refine g_iconst C dX1_consider_41 ?_
        refine g_istore_n C dX1_consider_42 (by decide) (vs' := [(2, .int (Int32.ofInt 0)), (1, .int (Int32.ofInt r5)), (0, .ref (ad 38))]) rfl ?_
        refine g_sub [2, 0] rfl ?_
        refine w_X1_consider_L43 C hR ?_ _ _ _ (by decide) h
        · intro σ24 h
          obtain rfl := z_s1 h
          exact hR _ _ dX1_consider_75
  · have h := z_t c4 h
    obtain rfl := z_s1 h
    exact hR _ _ dX1_consider_10
theorem in_X1_advance_X1 : ∀ w ∈ u_ws RX1 TX1 3, w ∈ wsX1_advance := fun _ h => List.mem_cons_of_mem _ (List.mem_append_left _ (List.mem_append_right _ h))
theorem in_X1_advance_X0 : ∀ w ∈ u_ws RX0 TX0 12, w ∈ wsX1_advance := fun _ h => List.mem_cons_of_mem _ (List.mem_append_right _ h)
set_option maxHeartbeats 4000000 in
set_option maxRecDepth 100000 in
theorem w_X1_advance_L14 {p : Program} {l : Launch} {e : Env} {s : State} {m : MethodId} {args : Array Value} {below : List Frame} {meth : Method} {c : Code} {D : va_G} {cy : Nat → ClassId} {ad : Nat → Nat} {A : Nat → Prop} {Q : State → Prop} (C : Cx p s m args meth c cX1_advance RX1 6 wsX1_advance D cy A) {x1 : Int} (hx1 : inR x1) {k45 : Int → MM → Option (Int × MM)} {ro : Int} {σo : MM} (hR : RetI p l e { frames := 3, cells := 0, slots := 0, locals := 67 } s m args below meth c cX1_advance 6 D cy ad A Q 1 ro σo) (hk45 : ∀ (z2 : Int) (σ : MM), inR z2 → k45 z2 σ = some (ro, σo) → G p l e { frames := 3, cells := 0, slots := 0, locals := 67 } s m args below meth c 6 D cy ad A Q 45 [(0, .ref (ad 38)), (1, .int (Int32.ofInt x1)), (2, .int (Int32.ofInt z2))] [] σ) : ∀ (n : Nat) (x2 : Int) (σ : MM) , inR x2 → X1_advance_L14 x1 k45 n x2 σ = some (ro, σo) → G p l e { frames := 3, cells := 0, slots := 0, locals := 67 } s m args below meth c 6 D cy ad A Q 14 [(0, .ref (ad 38)), (1, .int (Int32.ofInt x1)), (2, .int (Int32.ofInt x2))] [] σ := by
  intro n
  induction n with
  | zero =>
    intro x2 σ hx2 h
    cases h
  | succ n ih =>
    intro x2 σ hx2 h
    rw [X1_advance_L14] at h
    refine g_iload_n C dX1_advance_14 2 rfl ?_
    refine g_if_lt C 45 dX1_advance_15 (by decide) hx2 (fun c2 => ?_) (fun c2 => ?_)
    · have h := z_t c2 h
      refine g_sub [0, 1, 2] rfl ?_
      exact hk45 _ _ hx2 h
    · have h := z_f c2 h
      refine g_aload_n C dX1_advance_18 0 rfl ?_
      refine gf_X1_0 C in_X1_advance_X1 (List.mem_of_getElem? (i := 1) rfl) dX1_advance_19 ?_
      refine g_iload_n C dX1_advance_22 2 rfl ?_
      obtain ⟨r3, e4, h⟩ := z_b h
      refine g_callI (n := 1) C (fun hM => c_X0_statementAt l hM isL39 hx2 e4) gX1_advance_X0_statementAt rfl (by decide) ⟨rfl, rfl⟩ ⟨Nat.le_of_ble_eq_true rfl, Nat.le_of_ble_eq_true rfl⟩ rfl ly_c39 (Nat.le_of_ble_eq_true rfl) rfl rfl (rest := []) rfl (Nat.le_of_ble_eq_true rfl) dX1_advance_23 (fun q5 => ?_)
      have q5 : inR r3 := q5
      refine g_aload_n C dX1_advance_26 0 rfl ?_
      refine gf_X1_0 C in_X1_advance_X1 (List.mem_of_getElem? (i := 1) rfl) dX1_advance_27 ?_
      refine g_iload_n C dX1_advance_30 2 rfl ?_
      refine g_iconst C dX1_advance_31 ?_
      refine g_iadd C dX1_advance_32 ?_
      obtain ⟨g6, h⟩ := z_g h
      obtain ⟨r7, e8, h⟩ := z_b h
      refine g_callI (n := 1) C (fun hM => c_X0_statementAt l hM isL39 g6 e8) gX1_advance_X0_statementAt rfl (by decide) ⟨rfl, rfl⟩ ⟨Nat.le_of_ble_eq_true rfl, Nat.le_of_ble_eq_true rfl⟩ rfl ly_c39 (Nat.le_of_ble_eq_true rfl) rfl rfl (rest := [.int (Int32.ofInt r3)]) rfl (Nat.le_of_ble_eq_true rfl) dX1_advance_33 (fun q9 => ?_)
      have q9 : inR r7 := q9
      refine g_icmp_le C 45 dX1_advance_36 (by decide) q5 q9 (fun c10 => ?_) (fun c10 => ?_)
      · have h := z_f c10 h
        refine g_sub [0, 1, 2] rfl ?_
        exact hk45 _ _ hx2 h
      · have h := z_t c10 h
        refine g_iinc C dX1_advance_39 (j := 2) rfl (by decide) (vs' := [(2, .int (Int32.ofInt (x2 + (-1)))), (0, .ref (ad 38)), (1, .int (Int32.ofInt x1))]) rfl ?_
        refine g_goto C 14 dX1_advance_42 (by decide) ?_
        refine g_sub [1, 2, 0] rfl ?_
        exact ih _ _ (by omega) h
set_option maxHeartbeats 4000000 in
set_option maxRecDepth 100000 in
theorem w_X1_advance_L53 {p : Program} {l : Launch} {e : Env} {s : State} {m : MethodId} {args : Array Value} {below : List Frame} {meth : Method} {c : Code} {D : va_G} {cy : Nat → ClassId} {ad : Nat → Nat} {A : Nat → Prop} {Q : State → Prop} (C : Cx p s m args meth c cX1_advance RX1 6 wsX1_advance D cy A) {x1 : Int} (hx1 : inR x1) {x2 : Int} (hx2 : inR x2) {k83 : Int → MM → Option (Int × MM)} {ro : Int} {σo : MM} (hR : RetI p l e { frames := 3, cells := 0, slots := 0, locals := 67 } s m args below meth c cX1_advance 6 D cy ad A Q 1 ro σo) (hk83 : ∀ (z3 : Int) (σ : MM), inR z3 → k83 z3 σ = some (ro, σo) → G p l e { frames := 3, cells := 0, slots := 0, locals := 67 } s m args below meth c 6 D cy ad A Q 83 [(0, .ref (ad 38)), (1, .int (Int32.ofInt x1)), (2, .int (Int32.ofInt x2)), (3, .int (Int32.ofInt z3))] [] σ) : ∀ (n : Nat) (x3 : Int) (σ : MM) , inR x3 → X1_advance_L53 x1 x2 k83 n x3 σ = some (ro, σo) → G p l e { frames := 3, cells := 0, slots := 0, locals := 67 } s m args below meth c 6 D cy ad A Q 53 [(0, .ref (ad 38)), (1, .int (Int32.ofInt x1)), (2, .int (Int32.ofInt x2)), (3, .int (Int32.ofInt x3))] [] σ := by
  intro n
  induction n with
  | zero =>
    intro x3 σ hx3 h
    cases h
  | succ n ih =>
    intro x3 σ hx3 h
    rw [X1_advance_L53] at h
    refine g_iload_n C dX1_advance_53 3 rfl ?_
    refine g_iload_n C dX1_advance_54 2 rfl ?_
    refine g_icmp_le C 83 dX1_advance_55 (by decide) hx3 hx2 (fun c16 => ?_) (fun c16 => ?_)
    · have h := z_f c16 h
      refine g_sub [0, 1, 2, 3] rfl ?_
      exact hk83 _ _ hx3 h
    · have h := z_t c16 h
      refine g_aload_n C dX1_advance_58 0 rfl ?_
      refine gf_X1_0 C in_X1_advance_X1 (List.mem_of_getElem? (i := 1) rfl) dX1_advance_59 ?_
      refine g_iload_n C dX1_advance_62 3 rfl ?_
      obtain ⟨r17, e18, h⟩ := z_b h
      refine g_callI (n := 1) C (fun hM => c_X0_statementAt l hM isL39 hx3 e18) gX1_advance_X0_statementAt rfl (by decide) ⟨rfl, rfl⟩ ⟨Nat.le_of_ble_eq_true rfl, Nat.le_of_ble_eq_true rfl⟩ rfl ly_c39 (Nat.le_of_ble_eq_true rfl) rfl rfl (rest := []) rfl (Nat.le_of_ble_eq_true rfl) dX1_advance_63 (fun q19 => ?_)
      have q19 : inR r17 := q19
      refine g_aload_n C dX1_advance_66 0 rfl ?_
      refine gf_X1_0 C in_X1_advance_X1 (List.mem_of_getElem? (i := 1) rfl) dX1_advance_67 ?_
      refine g_iload_n C dX1_advance_70 2 rfl ?_
      obtain ⟨r20, e21, h⟩ := z_b h
      refine g_callI (n := 1) C (fun hM => c_X0_statementAt l hM isL39 hx2 e21) gX1_advance_X0_statementAt rfl (by decide) ⟨rfl, rfl⟩ ⟨Nat.le_of_ble_eq_true rfl, Nat.le_of_ble_eq_true rfl⟩ rfl ly_c39 (Nat.le_of_ble_eq_true rfl) rfl rfl (rest := [.int (Int32.ofInt r17)]) rfl (Nat.le_of_ble_eq_true rfl) dX1_advance_71 (fun q22 => ?_)
      have q22 : inR r20 := q22
      refine g_icmp_ge C 83 dX1_advance_74 (by decide) q19 q22 (fun c23 => ?_) (fun c23 => ?_)
      · have h := z_f c23 h
        refine g_sub [0, 1, 2, 3] rfl ?_
        exact hk83 _ _ hx3 h
      · have h := z_t c23 h
        refine g_iinc C dX1_advance_77 (j := 3) rfl (by decide) (vs' := [(3, .int (Int32.ofInt (x3 + (-1)))), (0, .ref (ad 38)), (1, .int (Int32.ofInt x1)), (2, .int (Int32.ofInt x2))]) rfl ?_
        refine g_goto C 53 dX1_advance_80 (by decide) ?_
        refine g_sub [1, 2, 3, 0] rfl ?_
        exact ih _ _ (by omega) h
set_option maxHeartbeats 4000000 in
set_option maxRecDepth 100000 in
theorem w_X1_advance_L100 {p : Program} {l : Launch} {e : Env} {s : State} {m : MethodId} {args : Array Value} {below : List Frame} {meth : Method} {c : Code} {D : va_G} {cy : Nat → ClassId} {ad : Nat → Nat} {A : Nat → Prop} {Q : State → Prop} (C : Cx p s m args meth c cX1_advance RX1 6 wsX1_advance D cy A) {k127 : MM → Option (Int × MM)} {ro : Int} {σo : MM} (hR : RetI p l e { frames := 3, cells := 0, slots := 0, locals := 67 } s m args below meth c cX1_advance 6 D cy ad A Q 1 ro σo) (hk127 : ∀  (σ : MM), k127 σ = some (ro, σo) → G p l e { frames := 3, cells := 0, slots := 0, locals := 67 } s m args below meth c 6 D cy ad A Q 127 [] [] σ) : ∀ (n : Nat) (x4 x5 : Int) (σ : MM) , inR x4 → inR x5 → X1_advance_L100 k127 n x4 x5 σ = some (ro, σo) → G p l e { frames := 3, cells := 0, slots := 0, locals := 67 } s m args below meth c 6 D cy ad A Q 100 [(0, .ref (ad 38)), (4, .int (Int32.ofInt x4)), (5, .int (Int32.ofInt x5))] [] σ := by
  intro n
  induction n with
  | zero =>
    intro x4 x5 σ hx4 hx5 h
    cases h
  | succ n ih =>
    intro x4 x5 σ hx4 hx5 h
    rw [X1_advance_L100] at h
    refine g_iload C dX1_advance_100 1 rfl ?_
    refine g_iload C dX1_advance_102 2 rfl ?_
    refine g_icmp_ge C 127 dX1_advance_104 (by decide) hx4 hx5 (fun c31 => ?_) (fun c31 => ?_)
    · have h := z_f c31 h
      refine g_sub [] rfl ?_
      exact hk127 _ h
    · have h := z_t c31 h
      refine g_aload_n C dX1_advance_107 0 rfl ?_
      refine gf_X1_0 C in_X1_advance_X1 (List.mem_of_getElem? (i := 1) rfl) dX1_advance_108 ?_
      refine g_iload C dX1_advance_111 1 rfl ?_
      refine g_iload C dX1_advance_113 2 rfl ?_
      obtain ⟨σ34, e33, h⟩ := z_b h
      refine g_callV (n := 2) C (fun hM => c_X0_swap l hM isL39 hx4 hx5 e33) gX1_advance_X0_swap rfl (by decide) ⟨rfl, rfl⟩ ⟨Nat.le_of_ble_eq_true rfl, Nat.le_of_ble_eq_true rfl⟩ rfl ly_c39 (Nat.le_of_ble_eq_true rfl) rfl rfl (rest := []) rfl (Nat.le_of_ble_eq_true rfl) dX1_advance_115 ?_
      refine g_iinc C dX1_advance_118 (j := 1) rfl (by decide) (vs' := [(4, .int (Int32.ofInt (x4 + 1))), (0, .ref (ad 38)), (5, .int (Int32.ofInt x5))]) rfl ?_
      refine g_iinc C dX1_advance_121 (j := 2) rfl (by decide) (vs' := [(5, .int (Int32.ofInt (x5 + (-1)))), (4, .int (Int32.ofInt (x4 + 1))), (0, .ref (ad 38))]) rfl ?_
      refine g_goto C 100 dX1_advance_124 (by decide) ?_
      refine g_sub [2, 1, 0] rfl ?_
      exact ih _ _ _ (by omega) (by omega) h
set_option maxHeartbeats 4000000 in
set_option maxRecDepth 100000 in
theorem c_X1_advance (l : Launch) {σ : MM} (hM : okM σ) {ro : Int} {σo : MM} (h : X1_advance σ = some (ro, σo)) : CtI l yX1_advance wsX1_advance { frames := 3, cells := 0, slots := 0, locals := 67 } (fun ad : Nat → Nat => [.ref (ad 38)]) σ 1 ro σo := by
  unfold X1_advance at h
  refine z_ctI (cc := cX1_advance) (maxL := 6) (rt := 1) hM (by decide) rfl (fun _ => Nat.le_of_ble_eq_true rfl) (@fun p e s m args below meth c D cy ad A Q C hR => ?_)
  refine g_sub (vs' := [(0, .ref (ad 38))]) [0] rfl ?_
  refine g_aload_n C dX1_advance_0 0 rfl ?_
  refine gf_X1_0 C in_X1_advance_X1 (List.mem_of_getElem? (i := 1) rfl) dX1_advance_1 ?_
  refine gfn_X0_0 C in_X1_advance_X0 isL39 (List.mem_of_getElem? (i := 20) rfl) dX1_advance_4 (fun r1 => ?_)
  refine g_iconst C dX1_advance_7 ?_
  refine g_isub C dX1_advance_8 ?_
  refine g_istore_n C dX1_advance_9 (by decide) (vs' := [(1, .int (Int32.ofInt ((σ 39 0) - 1))), (0, .ref (ad 38))]) rfl ?_
  refine g_iload_n C dX1_advance_10 0 rfl ?_
  refine g_iconst C dX1_advance_11 ?_
  refine g_isub C dX1_advance_12 ?_
  refine g_istore_n C dX1_advance_13 (by decide) (vs' := [(2, .int (Int32.ofInt (((σ 39 0) - 1) - 1))), (1, .int (Int32.ofInt ((σ 39 0) - 1))), (0, .ref (ad 38))]) rfl ?_
  obtain ⟨g11, h⟩ := z_g h
  obtain ⟨g12, h⟩ := z_g h
  refine g_sub [2, 1, 0] rfl ?_
  refine w_X1_advance_L14 C g11 hR ?_ _ _ _ g12 h
  · intro z13 σ14 hz13 h
    refine g_iload_n C dX1_advance_45 2 rfl ?_
    refine g_if_ge C 51 dX1_advance_46 (by decide) hz13 (fun c15 => ?_) (fun c15 => ?_)
    · have h := z_f c15 h
      refine g_iload_n C dX1_advance_51 1 rfl ?_
      refine g_istore_n C dX1_advance_52 (by decide) (vs' := [(3, .int (Int32.ofInt ((σ 39 0) - 1))), (0, .ref (ad 38)), (1, .int (Int32.ofInt ((σ 39 0) - 1))), (2, .int (Int32.ofInt z13))]) rfl ?_
      obtain ⟨g24, h⟩ := z_g h
      obtain ⟨g25, h⟩ := z_g h
      refine g_sub [1, 2, 3, 0] rfl ?_
      refine w_X1_advance_L53 C g24 hz13 hR ?_ _ _ _ g25 h
      · intro z26 σ27 hz26 h
        refine g_aload_n C dX1_advance_83 0 rfl ?_
        refine gf_X1_0 C in_X1_advance_X1 (List.mem_of_getElem? (i := 1) rfl) dX1_advance_84 ?_
        refine g_iload_n C dX1_advance_87 2 rfl ?_
        refine g_iload_n C dX1_advance_88 3 rfl ?_
        obtain ⟨σ30, e29, h⟩ := z_b h
        refine g_callV (n := 2) C (fun hM => c_X0_swap l hM isL39 hz13 hz26 e29) gX1_advance_X0_swap rfl (by decide) ⟨rfl, rfl⟩ ⟨Nat.le_of_ble_eq_true rfl, Nat.le_of_ble_eq_true rfl⟩ rfl ly_c39 (Nat.le_of_ble_eq_true rfl) rfl rfl (rest := []) rfl (Nat.le_of_ble_eq_true rfl) dX1_advance_89 ?_
        refine g_iload_n C dX1_advance_92 2 rfl ?_
        refine g_iconst C dX1_advance_93 ?_
        refine g_iadd C dX1_advance_94 ?_
        refine g_istore C dX1_advance_95 (by decide) (vs' := [(4, .int (Int32.ofInt (z13 + 1))), (0, .ref (ad 38)), (1, .int (Int32.ofInt ((σ 39 0) - 1))), (2, .int (Int32.ofInt z13)), (3, .int (Int32.ofInt z26))]) rfl ?_
        refine g_iload_n C dX1_advance_97 2 rfl ?_
        refine g_istore C dX1_advance_98 (by decide) (vs' := [(5, .int (Int32.ofInt ((σ 39 0) - 1))), (4, .int (Int32.ofInt (z13 + 1))), (0, .ref (ad 38)), (1, .int (Int32.ofInt ((σ 39 0) - 1))), (2, .int (Int32.ofInt z13)), (3, .int (Int32.ofInt z26))]) rfl ?_
        obtain ⟨g35, h⟩ := z_g h
        obtain ⟨g36, h⟩ := z_g h
        refine g_sub [2, 1, 0] rfl ?_
        refine w_X1_advance_L100 C hR ?_ _ _ _ _ g35 g36 h
        · intro σ37 h
          refine g_iconst C dX1_advance_127 ?_
          obtain ⟨rfl, rfl⟩ := z_s2 h
          exact hR _ _ dX1_advance_128 (by show _ = _ ∨ _ = _; decide)
    · have h := z_t c15 h
      refine g_iconst C dX1_advance_49 ?_
      obtain ⟨rfl, rfl⟩ := z_s2 h
      exact hR _ _ dX1_advance_50 (by show _ = _ ∨ _ = _; decide)
theorem in_X1_search_X1 : ∀ w ∈ u_ws RX1 TX1 3, w ∈ wsX1_search := fun _ h => List.mem_cons_of_mem _ (List.mem_append_left _ (List.mem_append_right _ h))
theorem in_X1_search_X0 : ∀ w ∈ u_ws RX0 TX0 12, w ∈ wsX1_search := fun _ h => List.mem_cons_of_mem _ (List.mem_append_right _ h)
set_option maxHeartbeats 4000000 in
set_option maxRecDepth 100000 in
theorem w_X1_search_L10 {p : Program} {l : Launch} {e : Env} {s : State} {m : MethodId} {args : Array Value} {below : List Frame} {meth : Method} {c : Code} {D : va_G} {cy : Nat → ClassId} {ad : Nat → Nat} {A : Nat → Prop} {Q : State → Prop} (C : Cx p s m args meth c cX1_search RX1 4 wsX1_search D cy A) {b : Nat} (hb : IsLoop b) {k36 : MM → Option MM} {σo : MM} (hR : RetV p l e { frames := 5, cells := 0, slots := 0, locals := 111 } s m args below meth c cX1_search 4 D cy ad A Q σo) (hk36 : ∀  (σ : MM), k36 σ = some σo → G p l e { frames := 5, cells := 0, slots := 0, locals := 111 } s m args below meth c 4 D cy ad A Q 36 [(0, .ref (ad 38))] [] σ) : ∀ (n : Nat) (x2 : Int) (σ : MM) , inR x2 → X1_search_L10 b k36 n x2 σ = some σo → G p l e { frames := 5, cells := 0, slots := 0, locals := 111 } s m args below meth c 4 D cy ad A Q 10 [(0, .ref (ad 38)), (2, .int (Int32.ofInt x2))] [] σ := by
  intro n
  induction n with
  | zero =>
    intro x2 σ hx2 h
    cases h
  | succ n ih =>
    intro x2 σ hx2 h
    rw [X1_search_L10] at h
    refine g_iload_n C dX1_search_10 1 rfl ?_
    refine g_aload_n C dX1_search_11 0 rfl ?_
    refine gf_X1_0 C in_X1_search_X1 (List.mem_of_getElem? (i := 1) rfl) dX1_search_12 ?_
    refine gfn_X0_0 C in_X1_search_X0 isL39 (List.mem_of_getElem? (i := 20) rfl) dX1_search_15 (fun r4 => ?_)
    refine g_icmp_ge C 36 dX1_search_18 (by decide) hx2 r4 (fun c5 => ?_) (fun c5 => ?_)
    · have h := z_f c5 h
      refine g_sub [0] rfl ?_
      exact hk36 _ h
    · have h := z_t c5 h
      refine g_aload_n C dX1_search_21 0 rfl ?_
      refine gf_X1_0 C in_X1_search_X1 (List.mem_of_getElem? (i := 1) rfl) dX1_search_22 ?_
      refine g_iload_n C dX1_search_25 1 rfl ?_
      refine g_iload_n C dX1_search_26 1 rfl ?_
      obtain ⟨σ8, e7, h⟩ := z_b h
      refine g_callV (n := 2) C (fun hM => c_X0_place l hM isL39 hx2 hx2 e7) gX1_search_X0_place rfl (by decide) ⟨rfl, rfl⟩ ⟨Nat.le_of_ble_eq_true rfl, Nat.le_of_ble_eq_true rfl⟩ rfl ly_c39 (Nat.le_of_ble_eq_true rfl) rfl rfl (rest := []) rfl (Nat.le_of_ble_eq_true rfl) dX1_search_27 ?_
      refine g_iinc C dX1_search_30 (j := 1) rfl (by decide) (vs' := [(2, .int (Int32.ofInt (x2 + 1))), (0, .ref (ad 38))]) rfl ?_
      refine g_goto C 10 dX1_search_33 (by decide) ?_
      refine g_sub [1, 0] rfl ?_
      exact ih _ _ (by omega) h
set_option maxHeartbeats 4000000 in
set_option maxRecDepth 100000 in
theorem w_X1_search_L45 {p : Program} {l : Launch} {e : Env} {s : State} {m : MethodId} {args : Array Value} {below : List Frame} {meth : Method} {c : Code} {D : va_G} {cy : Nat → ClassId} {ad : Nat → Nat} {A : Nat → Prop} {Q : State → Prop} (C : Cx p s m args meth c cX1_search RX1 4 wsX1_search D cy A) {b : Nat} (hb : IsLoop b) {k71 : MM → Option MM} {σo : MM} (hR : RetV p l e { frames := 5, cells := 0, slots := 0, locals := 111 } s m args below meth c cX1_search 4 D cy ad A Q σo) (hk71 : ∀  (σ : MM), k71 σ = some σo → G p l e { frames := 5, cells := 0, slots := 0, locals := 111 } s m args below meth c 4 D cy ad A Q 71 [] [] σ) : ∀ (n : Nat) (x2 x3 : Int) (σ : MM) , inR x2 → inR x3 → X1_search_L45 b k71 n x2 x3 σ = some σo → G p l e { frames := 5, cells := 0, slots := 0, locals := 111 } s m args below meth c 4 D cy ad A Q 45 [(0, .ref (ad 38)), (2, .int (Int32.ofInt x2)), (3, .int (Int32.ofInt x3))] [] σ := by
  intro n
  induction n with
  | zero =>
    intro x2 x3 σ hx2 hx3 h
    cases h
  | succ n ih =>
    intro x2 x3 σ hx2 hx3 h
    rw [X1_search_L45] at h
    refine g_iload_n C dX1_search_45 1 rfl ?_
    refine g_if_eq C 71 dX1_search_46 (by decide) hx2 (fun c12 => ?_) (fun c12 => ?_)
    · have h := z_t c12 h
      refine g_sub [] rfl ?_
      exact hk71 _ h
    · have h := z_f c12 h
      refine g_iload_n C dX1_search_49 2 rfl ?_
      refine g_sipush C dX1_search_50 (by decide) ?_
      refine g_icmp_ge C 71 dX1_search_53 (by decide) hx3 (by decide) (fun c13 => ?_) (fun c13 => ?_)
      · have h := z_f c13 h
        refine g_sub [] rfl ?_
        exact hk71 _ h
      · have h := z_t c13 h
        refine g_aload_n C dX1_search_56 0 rfl ?_
        obtain ⟨σ16, e15, h⟩ := z_b h
        refine g_callV (n := 0) C (fun hM => c_X1_consider l hM  e15) gX1_search_X1_consider rfl (by decide) ⟨rfl, rfl⟩ ⟨Nat.le_of_ble_eq_true rfl, Nat.le_of_ble_eq_true rfl⟩ rfl ly_c38 (Nat.le_of_ble_eq_true rfl) rfl rfl (rest := []) rfl (Nat.le_of_ble_eq_true rfl) dX1_search_57 ?_
        refine g_aload_n C dX1_search_60 0 rfl ?_
        obtain ⟨⟨r17, σ19⟩, e18, h⟩ := z_b h
        refine g_callI (n := 0) C (fun hM => c_X1_advance l hM  e18) gX1_search_X1_advance rfl (by decide) ⟨rfl, rfl⟩ ⟨Nat.le_of_ble_eq_true rfl, Nat.le_of_ble_eq_true rfl⟩ rfl ly_c38 (Nat.le_of_ble_eq_true rfl) rfl rfl (rest := []) rfl (Nat.le_of_ble_eq_true rfl) dX1_search_61 (fun q20 => ?_)
        have q20 : r17 = 0 ∨ r17 = 1 := q20
        refine g_istore_n C dX1_search_64 (by decide) (vs' := [(2, .int (Int32.ofInt r17)), (0, .ref (ad 38)), (3, .int (Int32.ofInt x3))]) rfl ?_
        refine g_iinc C dX1_search_65 (j := 2) rfl (by decide) (vs' := [(3, .int (Int32.ofInt (x3 + 1))), (2, .int (Int32.ofInt r17)), (0, .ref (ad 38))]) rfl ?_
        refine g_goto C 45 dX1_search_68 (by decide) ?_
        refine g_sub [2, 1, 0] rfl ?_
        exact ih _ _ _ (rgT_inR (rt := 1) q20) (by omega) h
set_option maxHeartbeats 4000000 in
set_option maxRecDepth 100000 in
theorem c_X1_search (l : Launch) {σ : MM} (hM : okM σ) {b : Nat} (hb : IsLoop b) {σo : MM} (h : X1_search b σ = some σo) : CtV l yX1_search wsX1_search { frames := 5, cells := 0, slots := 0, locals := 111 } (fun ad : Nat → Nat => [.ref (ad 38), .ref (ad b)]) σ σo := by
  unfold X1_search at h
  refine z_ctV (cc := cX1_search) (maxL := 4) hM (by decide) rfl (fun _ => Nat.le_of_ble_eq_true rfl) (@fun p e s m args below meth c D cy ad A Q C hR => ?_)
  refine g_sub (vs' := [(0, .ref (ad 38)), (1, .ref (ad b))]) [0, 1] rfl ?_
  refine g_aload_n C dX1_search_0 0 rfl ?_
  refine gf_X1_0 C in_X1_search_X1 (List.mem_of_getElem? (i := 1) rfl) dX1_search_1 ?_
  refine g_aload_n C dX1_search_4 1 rfl ?_
  obtain ⟨σ3, e2, h⟩ := z_b h
  refine g_callV (n := 1) C (fun hM => c_X0_copyFrom l hM isL39 hb e2) gX1_search_X0_copyFrom rfl (by decide) ⟨rfl, rfl⟩ ⟨Nat.le_of_ble_eq_true rfl, Nat.le_of_ble_eq_true rfl⟩ rfl ly_c39 (Nat.le_of_ble_eq_true rfl) rfl rfl (rest := []) rfl (Nat.le_of_ble_eq_true rfl) dX1_search_5 ?_
  refine g_iconst C dX1_search_8 ?_
  refine g_istore_n C dX1_search_9 (by decide) (vs' := [(2, .int (Int32.ofInt 0)), (0, .ref (ad 38)), (1, .ref (ad b))]) rfl ?_
  refine g_sub [1, 0] rfl ?_
  refine w_X1_search_L10 C hb hR ?_ _ _ _ (by decide) h
  · intro σ9 h
    refine g_aload_n C dX1_search_36 0 rfl ?_
    refine g_iconst C dX1_search_37 ?_
    refine gp_X1_2 C in_X1_search_X1 (List.mem_of_getElem? (i := 2) rfl) (by decide) dX1_search_38 ?_
    obtain ⟨σ10, e11, h⟩ := z_l h
    refine g_mem e11 ?_
    refine g_iconst C dX1_search_41 ?_
    refine g_istore_n C dX1_search_42 (by decide) (vs' := [(2, .int (Int32.ofInt 1)), (0, .ref (ad 38))]) rfl ?_
    refine g_iconst C dX1_search_43 ?_
    refine g_istore_n C dX1_search_44 (by decide) (vs' := [(3, .int (Int32.ofInt 0)), (2, .int (Int32.ofInt 1)), (0, .ref (ad 38))]) rfl ?_
    refine g_sub [2, 1, 0] rfl ?_
    refine w_X1_search_L45 C hb hR ?_ _ _ _ _ (by decide) (by decide) h
    · intro σ21 h
      obtain rfl := z_s1 h
      exact hR _ _ dX1_search_71
set_option maxHeartbeats 4000000 in
set_option maxRecDepth 100000 in
theorem c_X2_isNode (l : Launch) {σ : MM} (hM : okM σ) {a1 : Int} (ha1 : inR a1) {a2 : Int} (ha2 : inR a2) {ro : Int} (h : X2_isNode a1 a2 σ = some ro) : CtI l yX2_isNode wsX2_isNode { frames := 0, cells := 0, slots := 0, locals := 0 } (fun ad : Nat → Nat => [.int (Int32.ofInt a1), .int (Int32.ofInt a2)]) σ 1 ro σ := by
  unfold X2_isNode at h
  refine z_ctI (cc := cX2_isNode) (maxL := 2) (rt := 1) hM (by decide) rfl (fun _ => Nat.le_of_ble_eq_true rfl) (@fun p e s m args below meth c D cy ad A Q C hR => ?_)
  refine g_sub (vs' := [(0, .int (Int32.ofInt a1)), (1, .int (Int32.ofInt a2))]) [0, 1] rfl ?_
  refine g_iload_n C dX2_isNode_0 0 rfl ?_
  refine g_if_lt C 23 dX2_isNode_1 (by decide) ha1 (fun c1 => ?_) (fun c1 => ?_)
  · have h := z_t c1 h
    refine g_iconst C dX2_isNode_23 ?_
    obtain rfl := z_s1 h
    exact hR _ _ dX2_isNode_24 (by show _ = _ ∨ _ = _; decide)
  · have h := z_f c1 h
    refine g_iload_n C dX2_isNode_4 0 rfl ?_
    refine g_iconst C dX2_isNode_5 ?_
    refine g_icmp_gt C 23 dX2_isNode_6 (by decide) ha1 (by decide) (fun c2 => ?_) (fun c2 => ?_)
    · have h := z_t c2 h
      refine g_iconst C dX2_isNode_23 ?_
      obtain rfl := z_s1 h
      exact hR _ _ dX2_isNode_24 (by show _ = _ ∨ _ = _; decide)
    · have h := z_f c2 h
      refine g_iload_n C dX2_isNode_9 1 rfl ?_
      refine g_if_lt C 23 dX2_isNode_10 (by decide) ha2 (fun c3 => ?_) (fun c3 => ?_)
      · have h := z_t c3 h
        refine g_iconst C dX2_isNode_23 ?_
        obtain rfl := z_s1 h
        exact hR _ _ dX2_isNode_24 (by show _ = _ ∨ _ = _; decide)
      · have h := z_f c3 h
        refine g_iload_n C dX2_isNode_13 1 rfl ?_
        refine g_bipush C dX2_isNode_14 (by decide) ?_
        refine g_icmp_ge C 23 dX2_isNode_16 (by decide) ha2 (by decide) (fun c4 => ?_) (fun c4 => ?_)
        · have h := z_f c4 h
          refine g_iconst C dX2_isNode_23 ?_
          obtain rfl := z_s1 h
          exact hR _ _ dX2_isNode_24 (by show _ = _ ∨ _ = _; decide)
        · have h := z_t c4 h
          refine g_iconst C dX2_isNode_19 ?_
          refine g_goto C 24 dX2_isNode_20 (by decide) ?_
          obtain rfl := z_s1 h
          exact hR _ _ dX2_isNode_24 (by show _ = _ ∨ _ = _; decide)
theorem in_X2_raise_X2 : ∀ w ∈ u_ws RX2 TX2 1, w ∈ wsX2_raise := fun _ h => List.mem_cons_of_mem _ (List.mem_append_right _ h)
set_option maxHeartbeats 4000000 in
set_option maxRecDepth 100000 in
theorem c_X2_raise (l : Launch) {σ : MM} (hM : okM σ) {a1 : Int} (ha1 : inR a1) {a2 : Int} (ha2 : inR a2) {a3 : Int} (ha3 : inR a3) {σo : MM} (h : X2_raise a1 a2 a3 σ = some σo) : CtV l yX2_raise wsX2_raise { frames := 1, cells := 0, slots := 0, locals := 21 } (fun ad : Nat → Nat => [.ref (ad 36), .int (Int32.ofInt a1), .int (Int32.ofInt a2), .int (Int32.ofInt a3)]) σ σo := by
  unfold X2_raise at h
  refine z_ctV (cc := cX2_raise) (maxL := 5) hM (by decide) rfl (fun _ => Nat.le_of_ble_eq_true rfl) (@fun p e s m args below meth c D cy ad A Q C hR => ?_)
  refine g_sub (vs' := [(0, .ref (ad 36)), (1, .int (Int32.ofInt a1)), (2, .int (Int32.ofInt a2)), (3, .int (Int32.ofInt a3))]) [0, 1, 2, 3] rfl ?_
  refine g_iload_n C dX2_raise_0 1 rfl ?_
  refine g_iload_n C dX2_raise_1 2 rfl ?_
  obtain ⟨r1, e2, h⟩ := z_b h
  refine g_callS (n := 2) C (fun hM => c_X2_isNode l hM ha1 ha2 e2) gX2_raise_X2_isNode rfl (by decide) ⟨rfl, rfl⟩ ⟨Nat.le_of_ble_eq_true rfl, Nat.le_of_ble_eq_true rfl⟩ rfl rfl (rest := []) rfl (Nat.le_of_ble_eq_true rfl) dX2_raise_2 (fun q3 => ?_)
  have q3 : r1 = 0 ∨ r1 = 1 := q3
  refine g_if_eq C 34 dX2_raise_5 (by decide) (rgT_inR (rt := 1) q3) (fun c4 => ?_) (fun c4 => ?_)
  · have h := z_t c4 h
    obtain rfl := z_s1 h
    exact hR _ _ dX2_raise_34
  · have h := z_f c4 h
    refine g_iload_n C dX2_raise_8 1 rfl ?_
    refine g_bipush C dX2_raise_9 (by decide) ?_
    refine g_imul C dX2_raise_11 ?_
    refine g_iload_n C dX2_raise_12 2 rfl ?_
    refine g_iadd C dX2_raise_13 ?_
    refine g_istore C dX2_raise_14 (by decide) (vs' := [(4, .int (Int32.ofInt ((a1 * 8) + a2))), (0, .ref (ad 36)), (1, .int (Int32.ofInt a1)), (2, .int (Int32.ofInt a2)), (3, .int (Int32.ofInt a3))]) rfl ?_
    refine g_aload_n C dX2_raise_16 1 rfl ?_
    refine gf_X2_0 C in_X2_raise_X2 (List.mem_of_getElem? (i := 1) rfl) dX2_raise_17 ?_
    refine g_iload C dX2_raise_20 0 rfl ?_
    refine g_aload_n C dX2_raise_22 1 rfl ?_
    refine gf_X2_0 C in_X2_raise_X2 (List.mem_of_getElem? (i := 1) rfl) dX2_raise_23 ?_
    refine g_iload C dX2_raise_26 0 rfl ?_
    obtain ⟨g5, h⟩ := z_g h
    refine g_iald C ly_c37 (Nat.le_of_ble_eq_true rfl) (by decide) g5 dX2_raise_28 (fun r6 => ?_)
    refine g_iload_n C dX2_raise_29 4 rfl ?_
    refine g_mmax C (List.mem_of_getElem? (i := 2) rfl) (List.mem_of_getElem? (i := 3) rfl) (List.mem_of_getElem? (i := 4) rfl) (List.mem_of_getElem? (i := 5) rfl) (Nat.le_of_ble_eq_true rfl) (Nat.le_of_ble_eq_true rfl) r6 ha3 dX2_raise_30 (fun r7 => ?_)
    obtain ⟨g8, h⟩ := z_g h
    refine g_iast C ly_c37 (Nat.le_of_ble_eq_true rfl) (by decide) g8 r7 dX2_raise_33 ?_
    obtain ⟨σ9, e10, h⟩ := z_l h
    refine g_mem e10 ?_
    obtain rfl := z_s1 h
    exact hR _ _ dX2_raise_34
theorem in_X2_sumAt_X2 : ∀ w ∈ u_ws RX2 TX2 1, w ∈ wsX2_sumAt := fun _ h => List.mem_cons_of_mem _ (List.mem_append_right _ h)
set_option maxHeartbeats 4000000 in
set_option maxRecDepth 100000 in
theorem c_X2_sumAt (l : Launch) {σ : MM} (hM : okM σ) {a1 : Int} (ha1 : inR a1) {a2 : Int} (ha2 : inR a2) {ro : Int} (h : X2_sumAt a1 a2 σ = some ro) : CtI l yX2_sumAt wsX2_sumAt { frames := 1, cells := 0, slots := 0, locals := 21 } (fun ad : Nat → Nat => [.ref (ad 36), .int (Int32.ofInt a1), .int (Int32.ofInt a2)]) σ 0 ro σ := by
  unfold X2_sumAt at h
  refine z_ctI (cc := cX2_sumAt) (maxL := 3) (rt := 0) hM (by decide) rfl (fun _ => Nat.le_of_ble_eq_true rfl) (@fun p e s m args below meth c D cy ad A Q C hR => ?_)
  refine g_sub (vs' := [(0, .ref (ad 36)), (1, .int (Int32.ofInt a1)), (2, .int (Int32.ofInt a2))]) [0, 1, 2] rfl ?_
  refine g_iload_n C dX2_sumAt_0 1 rfl ?_
  refine g_iload_n C dX2_sumAt_1 2 rfl ?_
  obtain ⟨r1, e2, h⟩ := z_b h
  refine g_callS (n := 2) C (fun hM => c_X2_isNode l hM ha1 ha2 e2) gX2_sumAt_X2_isNode rfl (by decide) ⟨rfl, rfl⟩ ⟨Nat.le_of_ble_eq_true rfl, Nat.le_of_ble_eq_true rfl⟩ rfl rfl (rest := []) rfl (Nat.le_of_ble_eq_true rfl) dX2_sumAt_2 (fun q3 => ?_)
  have q3 : r1 = 0 ∨ r1 = 1 := q3
  refine g_if_eq C 22 dX2_sumAt_5 (by decide) (rgT_inR (rt := 1) q3) (fun c4 => ?_) (fun c4 => ?_)
  · have h := z_t c4 h
    refine g_iconst C dX2_sumAt_22 ?_
    obtain rfl := z_s1 h
    exact hR _ _ dX2_sumAt_23 (by show inR _; decide)
  · have h := z_f c4 h
    refine g_aload_n C dX2_sumAt_8 0 rfl ?_
    refine gf_X2_0 C in_X2_sumAt_X2 (List.mem_of_getElem? (i := 1) rfl) dX2_sumAt_9 ?_
    refine g_iload_n C dX2_sumAt_12 1 rfl ?_
    refine g_bipush C dX2_sumAt_13 (by decide) ?_
    refine g_imul C dX2_sumAt_15 ?_
    refine g_iload_n C dX2_sumAt_16 2 rfl ?_
    refine g_iadd C dX2_sumAt_17 ?_
    obtain ⟨g5, h⟩ := z_g h
    refine g_iald C ly_c37 (Nat.le_of_ble_eq_true rfl) (by decide) g5 dX2_sumAt_18 (fun r6 => ?_)
    refine g_goto C 23 dX2_sumAt_19 (by decide) ?_
    obtain rfl := z_s1 h
    exact hR _ _ dX2_sumAt_23 r6
set_option maxHeartbeats 4000000 in
set_option maxRecDepth 100000 in
theorem c_X2_followBody (l : Launch) {σ : MM} (hM : okM σ) {b : Nat} (hb : IsLoop b) {a2 : Int} (ha2 : inR a2) {a3 : Int} (ha3 : inR a3) {a4 : Int} (ha4 : inR a4) {σo : MM} (h : X2_followBody b a2 a3 a4 σ = some σo) : CtV l yX2_followBody wsX2_followBody { frames := 2, cells := 0, slots := 0, locals := 45 } (fun ad : Nat → Nat => [.ref (ad 36), .ref (ad b), .int (Int32.ofInt a2), .int (Int32.ofInt a3), .int (Int32.ofInt a4)]) σ σo := by
  unfold X2_followBody at h
  refine z_ctV (cc := cX2_followBody) (maxL := 5) hM (by decide) rfl (fun _ => Nat.le_of_ble_eq_true rfl) (@fun p e s m args below meth c D cy ad A Q C hR => ?_)
  refine g_sub (vs' := [(0, .ref (ad 36)), (1, .ref (ad b)), (2, .int (Int32.ofInt a2)), (3, .int (Int32.ofInt a3)), (4, .int (Int32.ofInt a4))]) [0, 1, 2, 3, 4] rfl ?_
  refine g_aload_n C dX2_followBody_0 1 rfl ?_
  refine g_iload_n C dX2_followBody_1 3 rfl ?_
  refine g_iconst C dX2_followBody_2 ?_
  refine g_iadd C dX2_followBody_3 ?_
  obtain ⟨g1, h⟩ := z_g h
  obtain ⟨r2, e3, h⟩ := z_b h
  refine g_callI (n := 1) C (fun hM => c_X0_hasPosition l hM hb g1 e3) gX2_followBody_X0_hasPosition rfl (by decide) ⟨rfl, rfl⟩ ⟨Nat.le_of_ble_eq_true rfl, Nat.le_of_ble_eq_true rfl⟩ rfl (ly_L0 hb) (lt_loop hb (j := 0) (by decide)) rfl rfl (rest := []) rfl (Nat.le_of_ble_eq_true rfl) dX2_followBody_4 (fun q4 => ?_)
  have q4 : r2 = 0 ∨ r2 = 1 := q4
  refine g_if_eq C 30 dX2_followBody_7 (by decide) (rgT_inR (rt := 1) q4) (fun c5 => ?_) (fun c5 => ?_)
  · have h := z_t c5 h
    obtain rfl := z_s1 h
    exact hR _ _ dX2_followBody_30
  · have h := z_f c5 h
    refine g_aload_n C dX2_followBody_10 0 rfl ?_
    refine g_iload_n C dX2_followBody_11 2 rfl ?_
    refine g_iload_n C dX2_followBody_12 3 rfl ?_
    refine g_iconst C dX2_followBody_13 ?_
    refine g_iadd C dX2_followBody_14 ?_
    refine g_iload C dX2_followBody_15 4 rfl ?_
    refine g_aload_n C dX2_followBody_17 1 rfl ?_
    refine g_aload_n C dX2_followBody_18 1 rfl ?_
    refine g_iload_n C dX2_followBody_19 3 rfl ?_
    obtain ⟨r6, e7, h⟩ := z_b h
    refine g_callI (n := 1) C (fun hM => c_X0_statementAt l hM hb ha3 e7) gX2_followBody_X0_statementAt rfl (by decide) ⟨rfl, rfl⟩ ⟨Nat.le_of_ble_eq_true rfl, Nat.le_of_ble_eq_true rfl⟩ rfl (ly_L0 hb) (lt_loop hb (j := 0) (by decide)) rfl rfl (rest := [.ref (ad b), .int (Int32.ofInt a4), .int (Int32.ofInt (a3 + 1)), .int (Int32.ofInt a2), .ref (ad 36)]) rfl (Nat.le_of_ble_eq_true rfl) dX2_followBody_20 (fun q8 => ?_)
    have q8 : inR r6 := q8
    obtain ⟨r9, e10, h⟩ := z_b h
    refine g_callI (n := 1) C (fun hM => c_X0_costOf l hM hb q8 e10) gX2_followBody_X0_costOf rfl (by decide) ⟨rfl, rfl⟩ ⟨Nat.le_of_ble_eq_true rfl, Nat.le_of_ble_eq_true rfl⟩ rfl (ly_L0 hb) (lt_loop hb (j := 0) (by decide)) rfl rfl (rest := [.int (Int32.ofInt a4), .int (Int32.ofInt (a3 + 1)), .int (Int32.ofInt a2), .ref (ad 36)]) rfl (Nat.le_of_ble_eq_true rfl) dX2_followBody_23 (fun q11 => ?_)
    have q11 : inR r9 := q11
    refine g_iadd C dX2_followBody_26 ?_
    obtain ⟨g12, h⟩ := z_g h
    obtain ⟨σ15, e14, h⟩ := z_b h
    refine g_callV (n := 3) C (fun hM => c_X2_raise l hM ha2 g1 g12 e14) gX2_followBody_X2_raise rfl (by decide) ⟨rfl, rfl⟩ ⟨Nat.le_of_ble_eq_true rfl, Nat.le_of_ble_eq_true rfl⟩ rfl ly_c36 (Nat.le_of_ble_eq_true rfl) rfl rfl (rest := []) rfl (Nat.le_of_ble_eq_true rfl) dX2_followBody_27 ?_
    obtain rfl := z_s1 h
    exact hR _ _ dX2_followBody_30
theorem in_X2_followSignals_X0 : ∀ w ∈ u_ws RX0 TX0 12, w ∈ wsX2_followSignals := fun _ h => List.mem_cons_of_mem _ (List.mem_append_left _ (List.mem_append_right _ h))
set_option maxHeartbeats 4000000 in
set_option maxRecDepth 100000 in
theorem w_X2_followSignals_L11 {p : Program} {l : Launch} {e : Env} {s : State} {m : MethodId} {args : Array Value} {below : List Frame} {meth : Method} {c : Code} {D : va_G} {cy : Nat → ClassId} {ad : Nat → Nat} {A : Nat → Prop} {Q : State → Prop} (C : Cx p s m args meth c cX2_followSignals RX2 8 wsX2_followSignals D cy A) {b : Nat} (hb : IsLoop b) {x2 : Int} (hx2 : inR x2) {x3 : Int} (hx3 : inR x3) {x5 : Int} (hx5 : inR x5) {x6 : Int} (hx6 : inR x6) {k86 : MM → Option MM} {σo : MM} (hR : RetV p l e { frames := 2, cells := 0, slots := 0, locals := 45 } s m args below meth c cX2_followSignals 8 D cy ad A Q σo) (hk86 : ∀  (σ : MM), k86 σ = some σo → G p l e { frames := 2, cells := 0, slots := 0, locals := 45 } s m args below meth c 8 D cy ad A Q 86 [] [] σ) : ∀ (n : Nat) (x7 : Int) (σ : MM) , inR x7 → X2_followSignals_L11 b x2 x3 x5 x6 k86 n x7 σ = some σo → G p l e { frames := 2, cells := 0, slots := 0, locals := 45 } s m args below meth c 8 D cy ad A Q 11 [(0, .ref (ad 36)), (1, .ref (ad b)), (2, .int (Int32.ofInt x2)), (3, .int (Int32.ofInt x3)), (5, .int (Int32.ofInt x5)), (6, .int (Int32.ofInt x6)), (7, .int (Int32.ofInt x7))] [] σ := by
  intro n
  induction n with
  | zero =>
    intro x7 σ hx7 h
    cases h
  | succ n ih =>
    intro x7 σ hx7 h
    rw [X2_followSignals_L11] at h
    refine g_iload C dX2_followSignals_11 6 rfl ?_
    refine g_aload_n C dX2_followSignals_13 1 rfl ?_
    refine gfn_X0_5 C in_X2_followSignals_X0 hb (List.mem_of_getElem? (i := 26) rfl) dX2_followSignals_14 (fun r4 => ?_)
    refine g_icmp_ge C 86 dX2_followSignals_17 (by decide) hx7 r4 (fun c5 => ?_) (fun c5 => ?_)
    · have h := z_f c5 h
      refine g_sub [] rfl ?_
      exact hk86 _ h
    · have h := z_t c5 h
      refine g_iload C dX2_followSignals_20 6 rfl ?_
      refine g_iload_n C dX2_followSignals_22 2 rfl ?_
      refine g_icmp_eq C 80 dX2_followSignals_23 (by decide) hx7 hx2 (fun c6 => ?_) (fun c6 => ?_)
      · have h := z_t c6 h
        refine g_iinc C dX2_followSignals_80 (j := 6) rfl (by decide) (vs' := [(7, .int (Int32.ofInt (x7 + 1))), (0, .ref (ad 36)), (1, .ref (ad b)), (2, .int (Int32.ofInt x2)), (3, .int (Int32.ofInt x3)), (5, .int (Int32.ofInt x5)), (6, .int (Int32.ofInt x6))]) rfl ?_
        refine g_goto C 11 dX2_followSignals_83 (by decide) ?_
        refine g_sub [1, 2, 3, 4, 5, 6, 0] rfl ?_
        exact ih _ _ (by omega) h
      · have h := z_f c6 h
        refine g_aload_n C dX2_followSignals_26 1 rfl ?_
        refine gfn_X0_7 C in_X2_followSignals_X0 hb (List.mem_of_getElem? (i := 23) rfl) dX2_followSignals_27 ?_
        refine g_iload C dX2_followSignals_30 6 rfl ?_
        obtain ⟨g7, h⟩ := z_g h
        refine g_iald C (ly_L6 hb) (lt_loop hb (j := 6) (by decide)) (by decide) g7 dX2_followSignals_32 (fun r8 => ?_)
        refine g_iload C dX2_followSignals_33 5 rfl ?_
        refine g_icmp_ne C 80 dX2_followSignals_35 (by decide) r8 hx6 (fun c9 => ?_) (fun c9 => ?_)
        · have h := z_f c9 h
          refine g_iinc C dX2_followSignals_80 (j := 6) rfl (by decide) (vs' := [(7, .int (Int32.ofInt (x7 + 1))), (0, .ref (ad 36)), (1, .ref (ad b)), (2, .int (Int32.ofInt x2)), (3, .int (Int32.ofInt x3)), (5, .int (Int32.ofInt x5)), (6, .int (Int32.ofInt x6))]) rfl ?_
          refine g_goto C 11 dX2_followSignals_83 (by decide) ?_
          refine g_sub [1, 2, 3, 4, 5, 6, 0] rfl ?_
          exact ih _ _ (by omega) h
        · have h := z_t c9 h
          refine g_aload_n C dX2_followSignals_38 1 rfl ?_
          refine g_iload C dX2_followSignals_39 6 rfl ?_
          obtain ⟨r10, e11, h⟩ := z_b h
          refine g_callI (n := 1) C (fun hM => c_X0_isSignalled l hM hb hx7 e11) gX2_followSignals_X0_isSignalled rfl (by decide) ⟨rfl, rfl⟩ ⟨Nat.le_of_ble_eq_true rfl, Nat.le_of_ble_eq_true rfl⟩ rfl (ly_L0 hb) (lt_loop hb (j := 0) (by decide)) rfl rfl (rest := []) rfl (Nat.le_of_ble_eq_true rfl) dX2_followSignals_41 (fun q12 => ?_)
          have q12 : r10 = 0 ∨ r10 = 1 := q12
          refine g_if_eq C 80 dX2_followSignals_44 (by decide) (rgT_inR (rt := 1) q12) (fun c13 => ?_) (fun c13 => ?_)
          · have h := z_t c13 h
            refine g_iinc C dX2_followSignals_80 (j := 6) rfl (by decide) (vs' := [(7, .int (Int32.ofInt (x7 + 1))), (0, .ref (ad 36)), (1, .ref (ad b)), (2, .int (Int32.ofInt x2)), (3, .int (Int32.ofInt x3)), (5, .int (Int32.ofInt x5)), (6, .int (Int32.ofInt x6))]) rfl ?_
            refine g_goto C 11 dX2_followSignals_83 (by decide) ?_
            refine g_sub [1, 2, 3, 4, 5, 6, 0] rfl ?_
            exact ih _ _ (by omega) h
          · have h := z_f c13 h
            refine g_aload_n C dX2_followSignals_47 0 rfl ?_
            refine g_iload_n C dX2_followSignals_48 3 rfl ?_
            refine g_aload_n C dX2_followSignals_49 1 rfl ?_
            refine gfn_X0_9 C in_X2_followSignals_X0 hb (List.mem_of_getElem? (i := 22) rfl) dX2_followSignals_50 ?_
            refine g_iload C dX2_followSignals_53 6 rfl ?_
            refine g_iald C (ly_L8 hb) (lt_loop hb (j := 8) (by decide)) (by decide) (by omega) dX2_followSignals_55 (fun r14 => ?_)
            refine g_iadd C dX2_followSignals_56 ?_
            refine g_aload_n C dX2_followSignals_57 1 rfl ?_
            refine g_aload_n C dX2_followSignals_58 1 rfl ?_
            refine gfn_X0_8 C in_X2_followSignals_X0 hb (List.mem_of_getElem? (i := 25) rfl) dX2_followSignals_59 ?_
            refine g_iload C dX2_followSignals_62 6 rfl ?_
            refine g_iald C (ly_L7 hb) (lt_loop hb (j := 7) (by decide)) (by decide) (by omega) dX2_followSignals_64 (fun r15 => ?_)
            obtain ⟨r16, e17, h⟩ := z_b h
            refine g_callI (n := 1) C (fun hM => c_X0_positionOf l hM hb r15 e17) gX2_followSignals_X0_positionOf rfl (by decide) ⟨rfl, rfl⟩ ⟨Nat.le_of_ble_eq_true rfl, Nat.le_of_ble_eq_true rfl⟩ rfl (ly_L0 hb) (lt_loop hb (j := 0) (by decide)) rfl rfl (rest := [.int (Int32.ofInt (x3 + (σ (b + 8) x7))), .ref (ad 36)]) rfl (Nat.le_of_ble_eq_true rfl) dX2_followSignals_65 (fun q18 => ?_)
            have q18 : inR r16 := q18
            refine g_iload C dX2_followSignals_68 4 rfl ?_
            refine g_aload_n C dX2_followSignals_70 1 rfl ?_
            refine g_iload C dX2_followSignals_71 6 rfl ?_
            obtain ⟨r19, e20, h⟩ := z_b h
            refine g_callI (n := 1) C (fun hM => c_X0_lagOf l hM hb hx7 e20) gX2_followSignals_X0_lagOf rfl (by decide) ⟨rfl, rfl⟩ ⟨Nat.le_of_ble_eq_true rfl, Nat.le_of_ble_eq_true rfl⟩ rfl (ly_L0 hb) (lt_loop hb (j := 0) (by decide)) rfl rfl (rest := [.int (Int32.ofInt x5), .int (Int32.ofInt r16), .int (Int32.ofInt (x3 + (σ (b + 8) x7))), .ref (ad 36)]) rfl (Nat.le_of_ble_eq_true rfl) dX2_followSignals_73 (fun q21 => ?_)
            have q21 : inR r19 := q21
            refine g_iadd C dX2_followSignals_76 ?_
            obtain ⟨g22, h⟩ := z_g h
            obtain ⟨g23, h⟩ := z_g h
            obtain ⟨σ26, e25, h⟩ := z_b h
            refine g_callV (n := 3) C (fun hM => c_X2_raise l hM g22 q18 g23 e25) gX2_followSignals_X2_raise rfl (by decide) ⟨rfl, rfl⟩ ⟨Nat.le_of_ble_eq_true rfl, Nat.le_of_ble_eq_true rfl⟩ rfl ly_c36 (Nat.le_of_ble_eq_true rfl) rfl rfl (rest := []) rfl (Nat.le_of_ble_eq_true rfl) dX2_followSignals_77 ?_
            refine g_iinc C dX2_followSignals_80 (j := 6) rfl (by decide) (vs' := [(7, .int (Int32.ofInt (x7 + 1))), (0, .ref (ad 36)), (1, .ref (ad b)), (2, .int (Int32.ofInt x2)), (3, .int (Int32.ofInt x3)), (5, .int (Int32.ofInt x5)), (6, .int (Int32.ofInt x6))]) rfl ?_
            refine g_goto C 11 dX2_followSignals_83 (by decide) ?_
            refine g_sub [1, 2, 3, 4, 5, 6, 0] rfl ?_
            exact ih _ _ (by omega) h
set_option maxHeartbeats 4000000 in
set_option maxRecDepth 100000 in
theorem c_X2_followSignals (l : Launch) {σ : MM} (hM : okM σ) {b : Nat} (hb : IsLoop b) {a2 : Int} (ha2 : inR a2) {a3 : Int} (ha3 : inR a3) {a4 : Int} (ha4 : inR a4) {a5 : Int} (ha5 : inR a5) {σo : MM} (h : X2_followSignals b a2 a3 a4 a5 σ = some σo) : CtV l yX2_followSignals wsX2_followSignals { frames := 2, cells := 0, slots := 0, locals := 45 } (fun ad : Nat → Nat => [.ref (ad 36), .ref (ad b), .int (Int32.ofInt a2), .int (Int32.ofInt a3), .int (Int32.ofInt a4), .int (Int32.ofInt a5)]) σ σo := by
  unfold X2_followSignals at h
  refine z_ctV (cc := cX2_followSignals) (maxL := 8) hM (by decide) rfl (fun _ => Nat.le_of_ble_eq_true rfl) (@fun p e s m args below meth c D cy ad A Q C hR => ?_)
  refine g_sub (vs' := [(0, .ref (ad 36)), (1, .ref (ad b)), (2, .int (Int32.ofInt a2)), (3, .int (Int32.ofInt a3)), (4, .int (Int32.ofInt a4)), (5, .int (Int32.ofInt a5))]) [0, 1, 2, 3, 4, 5] rfl ?_
  refine g_aload_n C dX2_followSignals_0 1 rfl ?_
  refine g_iload C dX2_followSignals_1 4 rfl ?_
  obtain ⟨r1, e2, h⟩ := z_b h
  refine g_callI (n := 1) C (fun hM => c_X0_statementAt l hM hb ha4 e2) gX2_followSignals_X0_statementAt rfl (by decide) ⟨rfl, rfl⟩ ⟨Nat.le_of_ble_eq_true rfl, Nat.le_of_ble_eq_true rfl⟩ rfl (ly_L0 hb) (lt_loop hb (j := 0) (by decide)) rfl rfl (rest := []) rfl (Nat.le_of_ble_eq_true rfl) dX2_followSignals_3 (fun q3 => ?_)
  have q3 : inR r1 := q3
  refine g_istore C dX2_followSignals_6 (by decide) (vs' := [(6, .int (Int32.ofInt r1)), (0, .ref (ad 36)), (1, .ref (ad b)), (2, .int (Int32.ofInt a2)), (3, .int (Int32.ofInt a3)), (4, .int (Int32.ofInt a4)), (5, .int (Int32.ofInt a5))]) rfl ?_
  refine g_iconst C dX2_followSignals_8 ?_
  refine g_istore C dX2_followSignals_9 (by decide) (vs' := [(7, .int (Int32.ofInt 0)), (6, .int (Int32.ofInt r1)), (0, .ref (ad 36)), (1, .ref (ad b)), (2, .int (Int32.ofInt a2)), (3, .int (Int32.ofInt a3)), (4, .int (Int32.ofInt a4)), (5, .int (Int32.ofInt a5))]) rfl ?_
  refine g_sub [2, 3, 4, 5, 7, 1, 0] rfl ?_
  refine w_X2_followSignals_L11 C hb ha2 ha3 ha5 q3 hR ?_ _ _ _ (by decide) h
  · intro σ27 h
    obtain rfl := z_s1 h
    exact hR _ _ dX2_followSignals_86
theorem in_X2_followProcessor_X0 : ∀ w ∈ u_ws RX0 TX0 12, w ∈ wsX2_followProcessor := fun _ h => List.mem_cons_of_mem _ (List.mem_append_left _ (List.mem_append_right _ h))
set_option maxHeartbeats 4000000 in
set_option maxRecDepth 100000 in
theorem c_X2_followProcessor (l : Launch) {σ : MM} (hM : okM σ) {b : Nat} (hb : IsLoop b) {a2 : Int} (ha2 : inR a2) {σo : MM} (h : X2_followProcessor b a2 σ = some σo) : CtV l yX2_followProcessor wsX2_followProcessor { frames := 2, cells := 0, slots := 0, locals := 45 } (fun ad : Nat → Nat => [.ref (ad 36), .ref (ad b), .int (Int32.ofInt a2)]) σ σo := by
  unfold X2_followProcessor at h
  refine z_ctV (cc := cX2_followProcessor) (maxL := 5) hM (by decide) rfl (fun _ => Nat.le_of_ble_eq_true rfl) (@fun p e s m args below meth c D cy ad A Q C hR => ?_)
  refine g_sub (vs' := [(0, .ref (ad 36)), (1, .ref (ad b)), (2, .int (Int32.ofInt a2))]) [0, 1, 2] rfl ?_
  refine g_aload_n C dX2_followProcessor_0 1 rfl ?_
  refine gfn_X0_0 C in_X2_followProcessor_X0 hb (List.mem_of_getElem? (i := 24) rfl) dX2_followProcessor_1 (fun r1 => ?_)
  refine g_iconst C dX2_followProcessor_4 ?_
  refine g_isub C dX2_followProcessor_5 ?_
  refine g_istore_n C dX2_followProcessor_6 (by decide) (vs' := [(3, .int (Int32.ofInt ((σ b 0) - 1))), (0, .ref (ad 36)), (1, .ref (ad b)), (2, .int (Int32.ofInt a2))]) rfl ?_
  refine g_aload_n C dX2_followProcessor_7 1 rfl ?_
  refine g_iload_n C dX2_followProcessor_8 3 rfl ?_
  refine g_iload_n C dX2_followProcessor_9 0 rfl ?_
  obtain ⟨g2, h⟩ := z_g h
  obtain ⟨r3, e4, h⟩ := z_b h
  refine g_callI (n := 2) C (fun hM => c_X2_sumAt l hM ha2 g2 e4) gX2_followProcessor_X2_sumAt rfl (by decide) ⟨rfl, rfl⟩ ⟨Nat.le_of_ble_eq_true rfl, Nat.le_of_ble_eq_true rfl⟩ rfl ly_c36 (Nat.le_of_ble_eq_true rfl) rfl rfl (rest := []) rfl (Nat.le_of_ble_eq_true rfl) dX2_followProcessor_10 (fun q5 => ?_)
  have q5 : inR r3 := q5
  refine g_istore C dX2_followProcessor_13 (by decide) (vs' := [(4, .int (Int32.ofInt r3)), (3, .int (Int32.ofInt ((σ b 0) - 1))), (0, .ref (ad 36)), (1, .ref (ad b)), (2, .int (Int32.ofInt a2))]) rfl ?_
  refine g_iload C dX2_followProcessor_15 0 rfl ?_
  refine g_if_lt C 45 dX2_followProcessor_17 (by decide) q5 (fun c6 => ?_) (fun c6 => ?_)
  · have h := z_t c6 h
    obtain rfl := z_s1 h
    exact hR _ _ dX2_followProcessor_45
  · have h := z_f c6 h
    refine g_aload_n C dX2_followProcessor_20 2 rfl ?_
    refine g_iload_n C dX2_followProcessor_21 4 rfl ?_
    refine g_aload_n C dX2_followProcessor_22 3 rfl ?_
    refine gfn_X0_11 C in_X2_followProcessor_X0 hb (List.mem_of_getElem? (i := 27) rfl) dX2_followProcessor_23 ?_
    refine g_iconst C dX2_followProcessor_26 ?_
    refine g_iald C (ly_L10 hb) (lt_loop hb (j := 10) (by decide)) (by decide) (by decide) dX2_followProcessor_27 (fun r7 => ?_)
    refine g_iadd C dX2_followProcessor_28 ?_
    refine g_iconst C dX2_followProcessor_29 ?_
    refine g_iload C dX2_followProcessor_30 0 rfl ?_
    refine g_aload_n C dX2_followProcessor_32 3 rfl ?_
    refine g_aload_n C dX2_followProcessor_33 3 rfl ?_
    refine g_iload_n C dX2_followProcessor_34 1 rfl ?_
    obtain ⟨r8, e9, h⟩ := z_b h
    refine g_callI (n := 1) C (fun hM => c_X0_statementAt l hM hb g2 e9) gX2_followProcessor_X0_statementAt rfl (by decide) ⟨rfl, rfl⟩ ⟨Nat.le_of_ble_eq_true rfl, Nat.le_of_ble_eq_true rfl⟩ rfl (ly_L0 hb) (lt_loop hb (j := 0) (by decide)) rfl rfl (rest := [.ref (ad b), .int (Int32.ofInt r3), .int (Int32.ofInt 0), .int (Int32.ofInt (a2 + (σ (b + 10) 2))), .ref (ad 36)]) rfl (Nat.le_of_ble_eq_true rfl) dX2_followProcessor_35 (fun q10 => ?_)
    have q10 : inR r8 := q10
    obtain ⟨r11, e12, h⟩ := z_b h
    refine g_callI (n := 1) C (fun hM => c_X0_costOf l hM hb q10 e12) gX2_followProcessor_X0_costOf rfl (by decide) ⟨rfl, rfl⟩ ⟨Nat.le_of_ble_eq_true rfl, Nat.le_of_ble_eq_true rfl⟩ rfl (ly_L0 hb) (lt_loop hb (j := 0) (by decide)) rfl rfl (rest := [.int (Int32.ofInt r3), .int (Int32.ofInt 0), .int (Int32.ofInt (a2 + (σ (b + 10) 2))), .ref (ad 36)]) rfl (Nat.le_of_ble_eq_true rfl) dX2_followProcessor_38 (fun q13 => ?_)
    have q13 : inR r11 := q13
    refine g_iadd C dX2_followProcessor_41 ?_
    obtain ⟨g14, h⟩ := z_g h
    obtain ⟨g15, h⟩ := z_g h
    obtain ⟨σ18, e17, h⟩ := z_b h
    refine g_callV (n := 3) C (fun hM => c_X2_raise l hM g14 (by decide) g15 e17) gX2_followProcessor_X2_raise rfl (by decide) ⟨rfl, rfl⟩ ⟨Nat.le_of_ble_eq_true rfl, Nat.le_of_ble_eq_true rfl⟩ rfl ly_c36 (Nat.le_of_ble_eq_true rfl) rfl rfl (rest := []) rfl (Nat.le_of_ble_eq_true rfl) dX2_followProcessor_42 ?_
    obtain rfl := z_s1 h
    exact hR _ _ dX2_followProcessor_45
theorem in_X2_greatestSum_X0 : ∀ w ∈ u_ws RX0 TX0 12, w ∈ wsX2_greatestSum := fun _ h => List.mem_cons_of_mem _ (List.mem_append_left _ (List.mem_append_right _ h))
theorem in_X2_greatestSum_X2 : ∀ w ∈ u_ws RX2 TX2 1, w ∈ wsX2_greatestSum := fun _ h => List.mem_cons_of_mem _ (List.mem_append_right _ h)
set_option maxHeartbeats 4000000 in
set_option maxRecDepth 100000 in
theorem w_X2_greatestSum_L21 {p : Program} {l : Launch} {e : Env} {s : State} {m : MethodId} {args : Array Value} {below : List Frame} {meth : Method} {c : Code} {D : va_G} {cy : Nat → ClassId} {ad : Nat → Nat} {A : Nat → Prop} {Q : State → Prop} (C : Cx p s m args meth c cX2_greatestSum RX2 8 wsX2_greatestSum D cy A) {b : Nat} (hb : IsLoop b) {x2 : Int} (hx2 : inR x2) {x3 : Int} (hx3 : inR x3) {x4 : Int} (hx4 : inR x4) {k45 : MM → Option (Int × MM)} {ro : Int} {σo : MM} (hR : RetI p l e { frames := 3, cells := 0, slots := 0, locals := 72 } s m args below meth c cX2_greatestSum 8 D cy ad A Q 0 ro σo) (hk45 : ∀  (σ : MM), k45 σ = some (ro, σo) → G p l e { frames := 3, cells := 0, slots := 0, locals := 72 } s m args below meth c 8 D cy ad A Q 45 [(0, .ref (ad 36)), (1, .ref (ad b)), (2, .int (Int32.ofInt x2)), (3, .int (Int32.ofInt x3)), (4, .int (Int32.ofInt x4))] [] σ) : ∀ (n : Nat) (x5 : Int) (σ : MM) , inR x5 → X2_greatestSum_L21 b x2 x3 x4 k45 n x5 σ = some (ro, σo) → G p l e { frames := 3, cells := 0, slots := 0, locals := 72 } s m args below meth c 8 D cy ad A Q 21 [(0, .ref (ad 36)), (1, .ref (ad b)), (2, .int (Int32.ofInt x2)), (3, .int (Int32.ofInt x3)), (4, .int (Int32.ofInt x4)), (5, .int (Int32.ofInt x5))] [] σ := by
  intro n
  induction n with
  | zero =>
    intro x5 σ hx5 h
    cases h
  | succ n ih =>
    intro x5 σ hx5 h
    rw [X2_greatestSum_L21] at h
    refine g_iload C dX2_greatestSum_21 5 rfl ?_
    refine g_aload_n C dX2_greatestSum_23 0 rfl ?_
    refine gf_X2_0 C in_X2_greatestSum_X2 (List.mem_of_getElem? (i := 1) rfl) dX2_greatestSum_24 ?_
    refine g_alen C ly_c37 (Nat.le_of_ble_eq_true rfl) dX2_greatestSum_27 ?_
    refine g_eq (st' := [.int (Int32.ofInt 48), .int (Int32.ofInt x5)]) rfl ?_
    refine g_icmp_ge C 45 dX2_greatestSum_28 (by decide) hx5 (by decide) (fun c7 => ?_) (fun c7 => ?_)
    · have h := z_f c7 h
      refine g_sub [0, 1, 2, 3, 4] rfl ?_
      exact hk45 _ h
    · have h := z_t c7 h
      refine g_aload_n C dX2_greatestSum_31 0 rfl ?_
      refine gf_X2_0 C in_X2_greatestSum_X2 (List.mem_of_getElem? (i := 1) rfl) dX2_greatestSum_32 ?_
      refine g_iload C dX2_greatestSum_35 5 rfl ?_
      refine g_iconst C dX2_greatestSum_37 ?_
      obtain ⟨g8, h⟩ := z_g h
      refine g_iast C ly_c37 (Nat.le_of_ble_eq_true rfl) (by decide) g8 (by decide) dX2_greatestSum_38 ?_
      obtain ⟨σ9, e10, h⟩ := z_l h
      refine g_mem e10 ?_
      refine g_iinc C dX2_greatestSum_39 (j := 5) rfl (by decide) (vs' := [(5, .int (Int32.ofInt (x5 + 1))), (0, .ref (ad 36)), (1, .ref (ad b)), (2, .int (Int32.ofInt x2)), (3, .int (Int32.ofInt x3)), (4, .int (Int32.ofInt x4))]) rfl ?_
      refine g_goto C 21 dX2_greatestSum_42 (by decide) ?_
      refine g_sub [1, 2, 3, 4, 5, 0] rfl ?_
      exact ih _ _ (by omega) h
set_option maxHeartbeats 4000000 in
set_option maxRecDepth 100000 in
theorem w_X2_greatestSum_L74 {p : Program} {l : Launch} {e : Env} {s : State} {m : MethodId} {args : Array Value} {below : List Frame} {meth : Method} {c : Code} {D : va_G} {cy : Nat → ClassId} {ad : Nat → Nat} {A : Nat → Prop} {Q : State → Prop} (C : Cx p s m args meth c cX2_greatestSum RX2 8 wsX2_greatestSum D cy A) {b : Nat} (hb : IsLoop b) {x2 : Int} (hx2 : inR x2) {x3 : Int} (hx3 : inR x3) {x4 : Int} (hx4 : inR x4) {x5 : Int} (hx5 : inR x5) {k127 : MM → Option (Int × MM)} {ro : Int} {σo : MM} (hR : RetI p l e { frames := 3, cells := 0, slots := 0, locals := 72 } s m args below meth c cX2_greatestSum 8 D cy ad A Q 0 ro σo) (hk127 : ∀  (σ : MM), k127 σ = some (ro, σo) → G p l e { frames := 3, cells := 0, slots := 0, locals := 72 } s m args below meth c 8 D cy ad A Q 127 [(0, .ref (ad 36)), (1, .ref (ad b)), (2, .int (Int32.ofInt x2)), (3, .int (Int32.ofInt x3)), (4, .int (Int32.ofInt x4)), (5, .int (Int32.ofInt x5))] [] σ) : ∀ (n : Nat) (x6 : Int) (σ : MM) , inR x6 → X2_greatestSum_L74 b x2 x3 x4 x5 k127 n x6 σ = some (ro, σo) → G p l e { frames := 3, cells := 0, slots := 0, locals := 72 } s m args below meth c 8 D cy ad A Q 74 [(0, .ref (ad 36)), (1, .ref (ad b)), (2, .int (Int32.ofInt x2)), (3, .int (Int32.ofInt x3)), (4, .int (Int32.ofInt x4)), (5, .int (Int32.ofInt x5)), (6, .int (Int32.ofInt x6))] [] σ := by
  intro n
  induction n with
  | zero =>
    intro x6 σ hx6 h
    cases h
  | succ n ih =>
    intro x6 σ hx6 h
    rw [X2_greatestSum_L74] at h
    refine g_iload C dX2_greatestSum_74 6 rfl ?_
    refine g_aload_n C dX2_greatestSum_76 1 rfl ?_
    refine gfn_X0_0 C in_X2_greatestSum_X0 hb (List.mem_of_getElem? (i := 24) rfl) dX2_greatestSum_77 (fun r20 => ?_)
    refine g_icmp_ge C 127 dX2_greatestSum_80 (by decide) hx6 r20 (fun c21 => ?_) (fun c21 => ?_)
    · have h := z_f c21 h
      refine g_sub [0, 1, 2, 3, 4, 5] rfl ?_
      exact hk127 _ h
    · have h := z_t c21 h
      refine g_aload_n C dX2_greatestSum_83 0 rfl ?_
      refine g_iload C dX2_greatestSum_84 5 rfl ?_
      refine g_iload C dX2_greatestSum_86 6 rfl ?_
      obtain ⟨r22, e23, h⟩ := z_b h
      refine g_callI (n := 2) C (fun hM => c_X2_sumAt l hM hx5 hx6 e23) gX2_greatestSum_X2_sumAt rfl (by decide) ⟨rfl, rfl⟩ ⟨Nat.le_of_ble_eq_true rfl, Nat.le_of_ble_eq_true rfl⟩ rfl ly_c36 (Nat.le_of_ble_eq_true rfl) rfl rfl (rest := []) rfl (Nat.le_of_ble_eq_true rfl) dX2_greatestSum_88 (fun q24 => ?_)
      have q24 : inR r22 := q24
      refine g_istore C dX2_greatestSum_91 (by decide) (vs' := [(7, .int (Int32.ofInt r22)), (0, .ref (ad 36)), (1, .ref (ad b)), (2, .int (Int32.ofInt x2)), (3, .int (Int32.ofInt x3)), (4, .int (Int32.ofInt x4)), (5, .int (Int32.ofInt x5)), (6, .int (Int32.ofInt x6))]) rfl ?_
      refine g_iload C dX2_greatestSum_93 0 rfl ?_
      refine g_if_lt C 121 dX2_greatestSum_95 (by decide) q24 (fun c25 => ?_) (fun c25 => ?_)
      · have h := z_t c25 h
        refine g_iinc C dX2_greatestSum_121 (j := 7) rfl (by decide) (vs' := [(6, .int (Int32.ofInt (x6 + 1))), (7, .int (Int32.ofInt r22)), (0, .ref (ad 36)), (1, .ref (ad b)), (2, .int (Int32.ofInt x2)), (3, .int (Int32.ofInt x3)), (4, .int (Int32.ofInt x4)), (5, .int (Int32.ofInt x5))]) rfl ?_
        refine g_goto C 74 dX2_greatestSum_124 (by decide) ?_
        refine g_sub [2, 3, 4, 5, 6, 7, 0] rfl ?_
        exact ih _ _ (by omega) h
      · have h := z_f c25 h
        refine g_aload_n C dX2_greatestSum_98 1 rfl ?_
        refine g_aload_n C dX2_greatestSum_99 2 rfl ?_
        refine g_iload C dX2_greatestSum_100 6 rfl ?_
        refine g_iload C dX2_greatestSum_102 7 rfl ?_
        refine g_iload C dX2_greatestSum_104 0 rfl ?_
        obtain ⟨σ28, e27, h⟩ := z_b h
        refine g_callV (n := 4) C (fun hM => c_X2_followBody l hM hb hx5 hx6 q24 e27) gX2_greatestSum_X2_followBody rfl (by decide) ⟨rfl, rfl⟩ ⟨Nat.le_of_ble_eq_true rfl, Nat.le_of_ble_eq_true rfl⟩ rfl ly_c36 (Nat.le_of_ble_eq_true rfl) rfl rfl (rest := []) rfl (Nat.le_of_ble_eq_true rfl) dX2_greatestSum_106 ?_
        refine g_aload_n C dX2_greatestSum_109 1 rfl ?_
        refine g_aload_n C dX2_greatestSum_110 2 rfl ?_
        refine g_iload_n C dX2_greatestSum_111 3 rfl ?_
        refine g_iload C dX2_greatestSum_112 6 rfl ?_
        refine g_iload C dX2_greatestSum_114 7 rfl ?_
        refine g_iload C dX2_greatestSum_116 0 rfl ?_
        obtain ⟨σ31, e30, h⟩ := z_b h
        refine g_callV (n := 5) C (fun hM => c_X2_followSignals l hM hb hx2 hx5 hx6 q24 e30) gX2_greatestSum_X2_followSignals rfl (by decide) ⟨rfl, rfl⟩ ⟨Nat.le_of_ble_eq_true rfl, Nat.le_of_ble_eq_true rfl⟩ rfl ly_c36 (Nat.le_of_ble_eq_true rfl) rfl rfl (rest := []) rfl (Nat.le_of_ble_eq_true rfl) dX2_greatestSum_118 ?_
        refine g_iinc C dX2_greatestSum_121 (j := 7) rfl (by decide) (vs' := [(6, .int (Int32.ofInt (x6 + 1))), (7, .int (Int32.ofInt r22)), (0, .ref (ad 36)), (1, .ref (ad b)), (2, .int (Int32.ofInt x2)), (3, .int (Int32.ofInt x3)), (4, .int (Int32.ofInt x4)), (5, .int (Int32.ofInt x5))]) rfl ?_
        refine g_goto C 74 dX2_greatestSum_124 (by decide) ?_
        refine g_sub [2, 3, 4, 5, 6, 7, 0] rfl ?_
        exact ih _ _ (by omega) h
set_option maxHeartbeats 4000000 in
set_option maxRecDepth 100000 in
theorem w_X2_greatestSum_L64 {p : Program} {l : Launch} {e : Env} {s : State} {m : MethodId} {args : Array Value} {below : List Frame} {meth : Method} {c : Code} {D : va_G} {cy : Nat → ClassId} {ad : Nat → Nat} {A : Nat → Prop} {Q : State → Prop} (C : Cx p s m args meth c cX2_greatestSum RX2 8 wsX2_greatestSum D cy A) {b : Nat} (hb : IsLoop b) {x2 : Int} (hx2 : inR x2) {x3 : Int} (hx3 : inR x3) {x4 : Int} (hx4 : inR x4) {k145 : MM → Option (Int × MM)} {ro : Int} {σo : MM} (hR : RetI p l e { frames := 3, cells := 0, slots := 0, locals := 72 } s m args below meth c cX2_greatestSum 8 D cy ad A Q 0 ro σo) (hk145 : ∀  (σ : MM), k145 σ = some (ro, σo) → G p l e { frames := 3, cells := 0, slots := 0, locals := 72 } s m args below meth c 8 D cy ad A Q 145 [(0, .ref (ad 36)), (1, .ref (ad b)), (2, .int (Int32.ofInt x2)), (4, .int (Int32.ofInt x4))] [] σ) : ∀ (n : Nat) (x5 : Int) (σ : MM) , inR x5 → X2_greatestSum_L64 b x2 x3 x4 k145 n x5 σ = some (ro, σo) → G p l e { frames := 3, cells := 0, slots := 0, locals := 72 } s m args below meth c 8 D cy ad A Q 64 [(0, .ref (ad 36)), (1, .ref (ad b)), (2, .int (Int32.ofInt x2)), (3, .int (Int32.ofInt x3)), (4, .int (Int32.ofInt x4)), (5, .int (Int32.ofInt x5))] [] σ := by
  intro n
  induction n with
  | zero =>
    intro x5 σ hx5 h
    cases h
  | succ n ih =>
    intro x5 σ hx5 h
    rw [X2_greatestSum_L64] at h
    refine g_iload C dX2_greatestSum_64 5 rfl ?_
    refine g_iload C dX2_greatestSum_66 4 rfl ?_
    refine g_icmp_gt C 145 dX2_greatestSum_68 (by decide) hx5 hx4 (fun c19 => ?_) (fun c19 => ?_)
    · have h := z_t c19 h
      refine g_sub [0, 1, 2, 4] rfl ?_
      exact hk145 _ h
    · have h := z_f c19 h
      refine g_iconst C dX2_greatestSum_71 ?_
      refine g_istore C dX2_greatestSum_72 (by decide) (vs' := [(6, .int (Int32.ofInt 0)), (0, .ref (ad 36)), (1, .ref (ad b)), (2, .int (Int32.ofInt x2)), (3, .int (Int32.ofInt x3)), (4, .int (Int32.ofInt x4)), (5, .int (Int32.ofInt x5))]) rfl ?_
      refine g_sub [1, 2, 3, 4, 5, 6, 0] rfl ?_
      refine w_X2_greatestSum_L74 C hb hx2 hx3 hx4 hx5 hR ?_ _ _ _ (by decide) h
      · intro σ32 h
        refine g_iload_n C dX2_greatestSum_127 3 rfl ?_
        refine g_iconst C dX2_greatestSum_128 ?_
        refine g_icmp_ne C 139 dX2_greatestSum_129 (by decide) hx3 (by decide) (fun c33 => ?_) (fun c33 => ?_)
        · have h := z_f c33 h
          refine g_iinc C dX2_greatestSum_139 (j := 5) rfl (by decide) (vs' := [(5, .int (Int32.ofInt (x5 + 1))), (0, .ref (ad 36)), (1, .ref (ad b)), (2, .int (Int32.ofInt x2)), (3, .int (Int32.ofInt x3)), (4, .int (Int32.ofInt x4))]) rfl ?_
          refine g_goto C 64 dX2_greatestSum_142 (by decide) ?_
          obtain ⟨g34, h⟩ := z_g h
          refine g_sub [1, 2, 3, 4, 5, 0] rfl ?_
          exact ih _ _ g34 h
        · have h := z_t c33 h
          refine g_aload_n C dX2_greatestSum_132 0 rfl ?_
          refine g_aload_n C dX2_greatestSum_133 1 rfl ?_
          refine g_iload C dX2_greatestSum_134 5 rfl ?_
          obtain ⟨σ37, e36, h⟩ := z_b h
          refine g_callV (n := 2) C (fun hM => c_X2_followProcessor l hM hb hx5 e36) gX2_greatestSum_X2_followProcessor rfl (by decide) ⟨rfl, rfl⟩ ⟨Nat.le_of_ble_eq_true rfl, Nat.le_of_ble_eq_true rfl⟩ rfl ly_c36 (Nat.le_of_ble_eq_true rfl) rfl rfl (rest := []) rfl (Nat.le_of_ble_eq_true rfl) dX2_greatestSum_136 ?_
          refine g_iinc C dX2_greatestSum_139 (j := 5) rfl (by decide) (vs' := [(5, .int (Int32.ofInt (x5 + 1))), (0, .ref (ad 36)), (1, .ref (ad b)), (2, .int (Int32.ofInt x2)), (3, .int (Int32.ofInt x3)), (4, .int (Int32.ofInt x4))]) rfl ?_
          refine g_goto C 64 dX2_greatestSum_142 (by decide) ?_
          obtain ⟨g38, h⟩ := z_g h
          refine g_sub [1, 2, 3, 4, 5, 0] rfl ?_
          exact ih _ _ g38 h
set_option maxHeartbeats 4000000 in
set_option maxRecDepth 100000 in
theorem c_X2_greatestSum (l : Launch) {σ : MM} (hM : okM σ) {b : Nat} (hb : IsLoop b) {a2 : Int} (ha2 : inR a2) {a3 : Int} (ha3 : inR a3) {ro : Int} {σo : MM} (h : X2_greatestSum b a2 a3 σ = some (ro, σo)) : CtI l yX2_greatestSum wsX2_greatestSum { frames := 3, cells := 0, slots := 0, locals := 72 } (fun ad : Nat → Nat => [.ref (ad 36), .ref (ad b), .int (Int32.ofInt a2), .int (Int32.ofInt a3)]) σ 0 ro σo := by
  unfold X2_greatestSum at h
  refine z_ctI (cc := cX2_greatestSum) (maxL := 8) (rt := 0) hM (by decide) rfl (fun _ => Nat.le_of_ble_eq_true rfl) (@fun p e s m args below meth c D cy ad A Q C hR => ?_)
  refine g_sub (vs' := [(0, .ref (ad 36)), (1, .ref (ad b)), (2, .int (Int32.ofInt a2)), (3, .int (Int32.ofInt a3))]) [0, 1, 2, 3] rfl ?_
  refine g_aload_n C dX2_greatestSum_0 1 rfl ?_
  refine g_iload_n C dX2_greatestSum_1 2 rfl ?_
  obtain ⟨r1, e2, h⟩ := z_b h
  refine g_callI (n := 1) C (fun hM => c_X0_hasDependence l hM hb ha2 e2) gX2_greatestSum_X0_hasDependence rfl (by decide) ⟨rfl, rfl⟩ ⟨Nat.le_of_ble_eq_true rfl, Nat.le_of_ble_eq_true rfl⟩ rfl (ly_L0 hb) (lt_loop hb (j := 0) (by decide)) rfl rfl (rest := []) rfl (Nat.le_of_ble_eq_true rfl) dX2_greatestSum_2 (fun q3 => ?_)
  have q3 : r1 = 0 ∨ r1 = 1 := q3
  refine g_if_ne C 10 dX2_greatestSum_5 (by decide) (rgT_inR (rt := 1) q3) (fun c4 => ?_) (fun c4 => ?_)
  · have h := z_f c4 h
    refine g_aload_n C dX2_greatestSum_10 1 rfl ?_
    refine gfn_X0_9 C in_X2_greatestSum_X0 hb (List.mem_of_getElem? (i := 22) rfl) dX2_greatestSum_11 ?_
    refine g_iload_n C dX2_greatestSum_14 2 rfl ?_
    obtain ⟨g5, h⟩ := z_g h
    refine g_iald C (ly_L8 hb) (lt_loop hb (j := 8) (by decide)) (by decide) g5 dX2_greatestSum_15 (fun r6 => ?_)
    refine g_istore C dX2_greatestSum_16 (by decide) (vs' := [(4, .int (Int32.ofInt (σ (b + 8) a2))), (0, .ref (ad 36)), (1, .ref (ad b)), (2, .int (Int32.ofInt a2)), (3, .int (Int32.ofInt a3))]) rfl ?_
    refine g_iconst C dX2_greatestSum_18 ?_
    refine g_istore C dX2_greatestSum_19 (by decide) (vs' := [(5, .int (Int32.ofInt 0)), (4, .int (Int32.ofInt (σ (b + 8) a2))), (0, .ref (ad 36)), (1, .ref (ad b)), (2, .int (Int32.ofInt a2)), (3, .int (Int32.ofInt a3))]) rfl ?_
    refine g_sub [2, 3, 4, 5, 1, 0] rfl ?_
    refine w_X2_greatestSum_L21 C hb ha2 ha3 r6 hR ?_ _ _ _ (by decide) h
    · intro σ11 h
      refine g_aload_n C dX2_greatestSum_45 0 rfl ?_
      refine g_iconst C dX2_greatestSum_46 ?_
      refine g_aload_n C dX2_greatestSum_47 1 rfl ?_
      refine g_aload_n C dX2_greatestSum_48 1 rfl ?_
      refine gfn_X0_7 C in_X2_greatestSum_X0 hb (List.mem_of_getElem? (i := 23) rfl) dX2_greatestSum_49 ?_
      refine g_iload_n C dX2_greatestSum_52 2 rfl ?_
      refine g_iald C (ly_L6 hb) (lt_loop hb (j := 6) (by decide)) (by decide) (by omega) dX2_greatestSum_53 (fun r12 => ?_)
      obtain ⟨r13, e14, h⟩ := z_b h
      refine g_callI (n := 1) C (fun hM => c_X0_positionOf l hM hb r12 e14) gX2_greatestSum_X0_positionOf rfl (by decide) ⟨rfl, rfl⟩ ⟨Nat.le_of_ble_eq_true rfl, Nat.le_of_ble_eq_true rfl⟩ rfl (ly_L0 hb) (lt_loop hb (j := 0) (by decide)) rfl rfl (rest := [.int (Int32.ofInt 0), .ref (ad 36)]) rfl (Nat.le_of_ble_eq_true rfl) dX2_greatestSum_54 (fun q15 => ?_)
      have q15 : inR r13 := q15
      refine g_iconst C dX2_greatestSum_57 ?_
      obtain ⟨σ18, e17, h⟩ := z_b h
      refine g_callV (n := 3) C (fun hM => c_X2_raise l hM (by decide) q15 (by decide) e17) gX2_greatestSum_X2_raise rfl (by decide) ⟨rfl, rfl⟩ ⟨Nat.le_of_ble_eq_true rfl, Nat.le_of_ble_eq_true rfl⟩ rfl ly_c36 (Nat.le_of_ble_eq_true rfl) rfl rfl (rest := []) rfl (Nat.le_of_ble_eq_true rfl) dX2_greatestSum_58 ?_
      refine g_iconst C dX2_greatestSum_61 ?_
      refine g_istore C dX2_greatestSum_62 (by decide) (vs' := [(5, .int (Int32.ofInt 0)), (0, .ref (ad 36)), (1, .ref (ad b)), (2, .int (Int32.ofInt a2)), (3, .int (Int32.ofInt a3)), (4, .int (Int32.ofInt (σ (b + 8) a2)))]) rfl ?_
      refine g_sub [1, 2, 3, 4, 5, 0] rfl ?_
      refine w_X2_greatestSum_L64 C hb ha2 ha3 r6 hR ?_ _ _ _ (by decide) h
      · intro σ39 h
        refine g_aload_n C dX2_greatestSum_145 0 rfl ?_
        refine g_iload C dX2_greatestSum_146 3 rfl ?_
        refine g_aload_n C dX2_greatestSum_148 1 rfl ?_
        refine g_aload_n C dX2_greatestSum_149 1 rfl ?_
        refine gfn_X0_8 C in_X2_greatestSum_X0 hb (List.mem_of_getElem? (i := 25) rfl) dX2_greatestSum_150 ?_
        refine g_iload_n C dX2_greatestSum_153 2 rfl ?_
        refine g_iald C (ly_L7 hb) (lt_loop hb (j := 7) (by decide)) (by decide) (by omega) dX2_greatestSum_154 (fun r40 => ?_)
        obtain ⟨r41, e42, h⟩ := z_b h
        refine g_callI (n := 1) C (fun hM => c_X0_positionOf l hM hb r40 e42) gX2_greatestSum_X0_positionOf rfl (by decide) ⟨rfl, rfl⟩ ⟨Nat.le_of_ble_eq_true rfl, Nat.le_of_ble_eq_true rfl⟩ rfl (ly_L0 hb) (lt_loop hb (j := 0) (by decide)) rfl rfl (rest := [.int (Int32.ofInt (σ (b + 8) a2)), .ref (ad 36)]) rfl (Nat.le_of_ble_eq_true rfl) dX2_greatestSum_155 (fun q43 => ?_)
        have q43 : inR r41 := q43
        obtain ⟨r44, e45, h⟩ := z_b h
        refine g_callI (n := 2) C (fun hM => c_X2_sumAt l hM r6 q43 e45) gX2_greatestSum_X2_sumAt rfl (by decide) ⟨rfl, rfl⟩ ⟨Nat.le_of_ble_eq_true rfl, Nat.le_of_ble_eq_true rfl⟩ rfl ly_c36 (Nat.le_of_ble_eq_true rfl) rfl rfl (rest := []) rfl (Nat.le_of_ble_eq_true rfl) dX2_greatestSum_158 (fun q46 => ?_)
        have q46 : inR r44 := q46
        obtain ⟨rfl, rfl⟩ := z_s2 h
        exact hR _ _ dX2_greatestSum_161 q46
  · have h := z_t c4 h
    refine g_iconst C dX2_greatestSum_8 ?_
    obtain ⟨rfl, rfl⟩ := z_s2 h
    exact hR _ _ dX2_greatestSum_9 (by show inR _; decide)
theorem in_X3_firstFree_X3 : ∀ w ∈ u_ws RX3 TX3 7, w ∈ wsX3_firstFree := fun _ h => List.mem_cons_of_mem _ (List.mem_append_right _ h)
set_option maxHeartbeats 4000000 in
set_option maxRecDepth 100000 in
theorem w_X3_firstFree_L4 {p : Program} {l : Launch} {e : Env} {s : State} {m : MethodId} {args : Array Value} {below : List Frame} {meth : Method} {c : Code} {D : va_G} {cy : Nat → ClassId} {ad : Nat → Nat} {A : Nat → Prop} {Q : State → Prop} (C : Cx p s m args meth c cX3_firstFree RX3 4 wsX3_firstFree D cy A) {σ : MM} {x1 : Int} (hx1 : inR x1) {k38 : Int → Option Int} {ro : Int} (hR : RetI p l e { frames := 0, cells := 0, slots := 0, locals := 0 } s m args below meth c cX3_firstFree 4 D cy ad A Q 0 ro σ) (hk38 : ∀ (z2 : Int), inR z2 → k38 z2 = some ro → G p l e { frames := 0, cells := 0, slots := 0, locals := 0 } s m args below meth c 4 D cy ad A Q 38 [(2, .int (Int32.ofInt z2))] [] σ) : ∀ (n : Nat) (x2 x3 : Int) , inR x2 → inR x3 → X3_firstFree_L4 x1 σ k38 n x2 x3 = some ro → G p l e { frames := 0, cells := 0, slots := 0, locals := 0 } s m args below meth c 4 D cy ad A Q 4 [(0, .ref (ad 51)), (1, .int (Int32.ofInt x1)), (2, .int (Int32.ofInt x2)), (3, .int (Int32.ofInt x3))] [] σ := by
  intro n
  induction n with
  | zero =>
    intro x2 x3 hx2 hx3 h
    cases h
  | succ n ih =>
    intro x2 x3 hx2 hx3 h
    rw [X3_firstFree_L4] at h
    refine g_iload_n C dX3_firstFree_4 3 rfl ?_
    refine g_iload_n C dX3_firstFree_5 1 rfl ?_
    refine g_icmp_ge C 38 dX3_firstFree_6 (by decide) hx3 hx1 (fun c1 => ?_) (fun c1 => ?_)
    · have h := z_f c1 h
      refine g_sub [2] rfl ?_
      exact hk38 _ hx2 h
    · have h := z_t c1 h
      refine g_iload_n C dX3_firstFree_9 3 rfl ?_
      refine g_bipush C dX3_firstFree_10 (by decide) ?_
      refine g_icmp_ge C 38 dX3_firstFree_12 (by decide) hx3 (by decide) (fun c2 => ?_) (fun c2 => ?_)
      · have h := z_f c2 h
        refine g_sub [2] rfl ?_
        exact hk38 _ hx2 h
      · have h := z_t c2 h
        refine g_aload_n C dX3_firstFree_15 0 rfl ?_
        refine gf_X3_5 C in_X3_firstFree_X3 (List.mem_of_getElem? (i := 1) rfl) dX3_firstFree_16 ?_
        refine g_iload_n C dX3_firstFree_19 3 rfl ?_
        obtain ⟨g3, h⟩ := z_g h
        refine g_iald C ly_c57 (Nat.le_of_ble_eq_true rfl) (by decide) g3 dX3_firstFree_20 (fun r4 => ?_)
        refine g_aload_n C dX3_firstFree_21 0 rfl ?_
        refine gf_X3_5 C in_X3_firstFree_X3 (List.mem_of_getElem? (i := 1) rfl) dX3_firstFree_22 ?_
        refine g_iload_n C dX3_firstFree_25 2 rfl ?_
        obtain ⟨g5, h⟩ := z_g h
        refine g_iald C ly_c57 (Nat.le_of_ble_eq_true rfl) (by decide) g5 dX3_firstFree_26 (fun r6 => ?_)
        refine g_icmp_ge C 32 dX3_firstFree_27 (by decide) r4 r6 (fun c7 => ?_) (fun c7 => ?_)
        · have h := z_f c7 h
          refine g_iinc C dX3_firstFree_32 (j := 3) rfl (by decide) (vs' := [(3, .int (Int32.ofInt (x3 + 1))), (0, .ref (ad 51)), (1, .int (Int32.ofInt x1)), (2, .int (Int32.ofInt x2))]) rfl ?_
          refine g_goto C 4 dX3_firstFree_35 (by decide) ?_
          refine g_sub [1, 2, 3, 0] rfl ?_
          exact ih _ _ hx2 (by omega) h
        · have h := z_t c7 h
          refine g_iload_n C dX3_firstFree_30 3 rfl ?_
          refine g_istore_n C dX3_firstFree_31 (by decide) (vs' := [(2, .int (Int32.ofInt x3)), (0, .ref (ad 51)), (1, .int (Int32.ofInt x1)), (3, .int (Int32.ofInt x3))]) rfl ?_
          refine g_iinc C dX3_firstFree_32 (j := 3) rfl (by decide) (vs' := [(3, .int (Int32.ofInt (x3 + 1))), (2, .int (Int32.ofInt x3)), (0, .ref (ad 51)), (1, .int (Int32.ofInt x1))]) rfl ?_
          refine g_goto C 4 dX3_firstFree_35 (by decide) ?_
          refine g_sub [2, 3, 1, 0] rfl ?_
          exact ih _ _ hx3 (by omega) h
set_option maxHeartbeats 4000000 in
set_option maxRecDepth 100000 in
theorem c_X3_firstFree (l : Launch) {σ : MM} (hM : okM σ) {a1 : Int} (ha1 : inR a1) {ro : Int} (h : X3_firstFree a1 σ = some ro) : CtI l yX3_firstFree wsX3_firstFree { frames := 0, cells := 0, slots := 0, locals := 0 } (fun ad : Nat → Nat => [.ref (ad 51), .int (Int32.ofInt a1)]) σ 0 ro σ := by
  unfold X3_firstFree at h
  refine z_ctI (cc := cX3_firstFree) (maxL := 4) (rt := 0) hM (by decide) rfl (fun _ => Nat.le_of_ble_eq_true rfl) (@fun p e s m args below meth c D cy ad A Q C hR => ?_)
  refine g_sub (vs' := [(0, .ref (ad 51)), (1, .int (Int32.ofInt a1))]) [0, 1] rfl ?_
  refine g_iconst C dX3_firstFree_0 ?_
  refine g_istore_n C dX3_firstFree_1 (by decide) (vs' := [(2, .int (Int32.ofInt 0)), (0, .ref (ad 51)), (1, .int (Int32.ofInt a1))]) rfl ?_
  refine g_iconst C dX3_firstFree_2 ?_
  refine g_istore_n C dX3_firstFree_3 (by decide) (vs' := [(3, .int (Int32.ofInt 1)), (2, .int (Int32.ofInt 0)), (0, .ref (ad 51)), (1, .int (Int32.ofInt a1))]) rfl ?_
  refine g_sub [2, 3, 1, 0] rfl ?_
  refine w_X3_firstFree_L4 C ha1 hR ?_ _ _ _ (by decide) (by decide) h
  · intro z8 hz8 h
    refine g_iload_n C dX3_firstFree_38 0 rfl ?_
    obtain rfl := z_s1 h
    exact hR _ _ dX3_firstFree_39 hz8
theorem in_X3_choose_X0 : ∀ w ∈ u_ws RX0 TX0 12, w ∈ wsX3_choose := fun _ h => List.mem_cons_of_mem _ (List.mem_append_left _ (List.mem_append_right _ h))
set_option maxHeartbeats 4000000 in
set_option maxRecDepth 100000 in
theorem c_X3_choose (l : Launch) {σ : MM} (hM : okM σ) {b : Nat} (hb : IsLoop b) {a2 : Int} (ha2 : inR a2) {a3 : Int} (ha3 : inR a3) {ro : Int} (h : X3_choose b a2 a3 σ = some ro) : CtI l yX3_choose wsX3_choose { frames := 1, cells := 0, slots := 0, locals := 23 } (fun ad : Nat → Nat => [.ref (ad 51), .ref (ad b), .int (Int32.ofInt a2), .int (Int32.ofInt a3)]) σ 0 ro σ := by
  unfold X3_choose at h
  refine z_ctI (cc := cX3_choose) (maxL := 5) (rt := 0) hM (by decide) rfl (fun _ => Nat.le_of_ble_eq_true rfl) (@fun p e s m args below meth c D cy ad A Q C hR => ?_)
  refine g_sub (vs' := [(0, .ref (ad 51)), (1, .ref (ad b)), (2, .int (Int32.ofInt a2)), (3, .int (Int32.ofInt a3))]) [0, 1, 2, 3] rfl ?_
  refine g_aload_n C dX3_choose_0 1 rfl ?_
  refine gfn_X0_11 C in_X3_choose_X0 hb (List.mem_of_getElem? (i := 28) rfl) dX3_choose_1 ?_
  refine g_iconst C dX3_choose_4 ?_
  refine g_iald C (ly_L10 hb) (lt_loop hb (j := 10) (by decide)) (by decide) (by decide) dX3_choose_5 (fun r1 => ?_)
  refine g_istore C dX3_choose_6 (by decide) (vs' := [(4, .int (Int32.ofInt (σ (b + 10) 0))), (0, .ref (ad 51)), (1, .ref (ad b)), (2, .int (Int32.ofInt a2)), (3, .int (Int32.ofInt a3))]) rfl ?_
  refine g_iload_n C dX3_choose_8 4 rfl ?_
  refine g_iconst C dX3_choose_9 ?_
  refine g_icmp_lt C 19 dX3_choose_10 (by decide) ha3 (by decide) (fun c2 => ?_) (fun c2 => ?_)
  · have h := z_t c2 h
    refine g_iconst C dX3_choose_19 ?_
    obtain rfl := z_s1 h
    exact hR _ _ dX3_choose_20 (by show inR _; decide)
  · have h := z_f c2 h
    refine g_iload C dX3_choose_13 0 rfl ?_
    refine g_iconst C dX3_choose_15 ?_
    refine g_icmp_ge C 21 dX3_choose_16 (by decide) r1 (by decide) (fun c3 => ?_) (fun c3 => ?_)
    · have h := z_f c3 h
      refine g_aload_n C dX3_choose_21 2 rfl ?_
      refine gfn_X0_11 C in_X3_choose_X0 hb (List.mem_of_getElem? (i := 28) rfl) dX3_choose_22 ?_
      refine g_iconst C dX3_choose_25 ?_
      refine g_iald C (ly_L10 hb) (lt_loop hb (j := 10) (by decide)) (by decide) (by decide) dX3_choose_26 (fun r4 => ?_)
      by_cases c5 : σ (b + 10) 3 = 1
      · have h := z_t c5 h
        refine g_lsw C 52 dX3_choose_27 (by decide) r4 (off := 25) (by rw [c5] <;> rfl) (by decide) ?_
        refine g_iload_n C dX3_choose_52 3 rfl ?_
        refine g_iload_n C dX3_choose_53 4 rfl ?_
        refine g_imul C dX3_choose_54 ?_
        refine g_iload C dX3_choose_55 0 rfl ?_
        obtain ⟨g6, h⟩ := z_g h
        obtain ⟨g7, h⟩ := z_g h
        have r8 := zdivR g6 r1 g7
        refine g_idiv C g6 r1 g7 dX3_choose_57 ?_
        obtain rfl := z_s1 h
        exact hR _ _ dX3_choose_58 r8
      have h := z_f c5 h
      by_cases c9 : σ (b + 10) 3 = 2
      · have h := z_t c9 h
        refine g_lsw C 59 dX3_choose_27 (by decide) r4 (off := 32) (by rw [c9] <;> rfl) (by decide) ?_
        refine g_aload_n C dX3_choose_59 1 rfl ?_
        refine g_iload_n C dX3_choose_60 4 rfl ?_
        obtain ⟨r10, e11, h⟩ := z_b h
        refine g_callI (n := 1) C (fun hM => c_X3_firstFree l hM ha3 e11) gX3_choose_X3_firstFree rfl (by decide) ⟨rfl, rfl⟩ ⟨Nat.le_of_ble_eq_true rfl, Nat.le_of_ble_eq_true rfl⟩ rfl ly_c51 (Nat.le_of_ble_eq_true rfl) rfl rfl (rest := []) rfl (Nat.le_of_ble_eq_true rfl) dX3_choose_61 (fun q12 => ?_)
        have q12 : inR r10 := q12
        obtain rfl := z_s1 h
        exact hR _ _ dX3_choose_64 q12
      have h := z_f c9 h
      refine g_lsw C 65 dX3_choose_27 (by decide) r4 (off := 38) (by show Op.lookupswitch.offset (_ :: _ :: []) _ _ = _; rw [Op.lookupswitch.offset_cons, if_neg (fun q => c5 q.symm), Op.lookupswitch.offset_cons, if_neg (fun q => c9 q.symm), Op.lookupswitch.offset_nil]) (by decide) ?_
      refine g_iload_n C dX3_choose_65 3 rfl ?_
      refine g_iload_n C dX3_choose_66 4 rfl ?_
      obtain ⟨g13, h⟩ := z_g h
      have r14 := zmodR ha2 ha3 g13
      refine g_irem C ha2 ha3 g13 dX3_choose_67 ?_
      obtain rfl := z_s1 h
      exact hR _ _ dX3_choose_68 r14
    · have h := z_t c3 h
      refine g_iconst C dX3_choose_19 ?_
      obtain rfl := z_s1 h
      exact hR _ _ dX3_choose_20 (by show inR _; decide)
set_option maxHeartbeats 4000000 in
set_option maxRecDepth 100000 in
theorem c_X3_isCell (l : Launch) {σ : MM} (hM : okM σ) {a1 : Int} (ha1 : inR a1) {a2 : Int} (ha2 : inR a2) {ro : Int} (h : X3_isCell a1 a2 σ = some ro) : CtI l yX3_isCell wsX3_isCell { frames := 0, cells := 0, slots := 0, locals := 0 } (fun ad : Nat → Nat => [.int (Int32.ofInt a1), .int (Int32.ofInt a2)]) σ 1 ro σ := by
  unfold X3_isCell at h
  refine z_ctI (cc := cX3_isCell) (maxL := 2) (rt := 1) hM (by decide) rfl (fun _ => Nat.le_of_ble_eq_true rfl) (@fun p e s m args below meth c D cy ad A Q C hR => ?_)
  refine g_sub (vs' := [(0, .int (Int32.ofInt a1)), (1, .int (Int32.ofInt a2))]) [0, 1] rfl ?_
  refine g_iload_n C dX3_isCell_0 0 rfl ?_
  refine g_if_lt C 24 dX3_isCell_1 (by decide) ha1 (fun c1 => ?_) (fun c1 => ?_)
  · have h := z_t c1 h
    refine g_iconst C dX3_isCell_24 ?_
    obtain rfl := z_s1 h
    exact hR _ _ dX3_isCell_25 (by show _ = _ ∨ _ = _; decide)
  · have h := z_f c1 h
    refine g_iload_n C dX3_isCell_4 0 rfl ?_
    refine g_bipush C dX3_isCell_5 (by decide) ?_
    refine g_icmp_ge C 24 dX3_isCell_7 (by decide) ha1 (by decide) (fun c2 => ?_) (fun c2 => ?_)
    · have h := z_f c2 h
      refine g_iconst C dX3_isCell_24 ?_
      obtain rfl := z_s1 h
      exact hR _ _ dX3_isCell_25 (by show _ = _ ∨ _ = _; decide)
    · have h := z_t c2 h
      refine g_iload_n C dX3_isCell_10 1 rfl ?_
      refine g_if_lt C 24 dX3_isCell_11 (by decide) ha2 (fun c3 => ?_) (fun c3 => ?_)
      · have h := z_t c3 h
        refine g_iconst C dX3_isCell_24 ?_
        obtain rfl := z_s1 h
        exact hR _ _ dX3_isCell_25 (by show _ = _ ∨ _ = _; decide)
      · have h := z_f c3 h
        refine g_iload_n C dX3_isCell_14 1 rfl ?_
        refine g_bipush C dX3_isCell_15 (by decide) ?_
        refine g_icmp_ge C 24 dX3_isCell_17 (by decide) ha2 (by decide) (fun c4 => ?_) (fun c4 => ?_)
        · have h := z_f c4 h
          refine g_iconst C dX3_isCell_24 ?_
          obtain rfl := z_s1 h
          exact hR _ _ dX3_isCell_25 (by show _ = _ ∨ _ = _; decide)
        · have h := z_t c4 h
          refine g_iconst C dX3_isCell_20 ?_
          refine g_goto C 25 dX3_isCell_21 (by decide) ?_
          obtain rfl := z_s1 h
          exact hR _ _ dX3_isCell_25 (by show _ = _ ∨ _ = _; decide)
theorem in_X3_startOf_X3 : ∀ w ∈ u_ws RX3 TX3 7, w ∈ wsX3_startOf := fun _ h => List.mem_cons_of_mem _ (List.mem_append_right _ h)
set_option maxHeartbeats 4000000 in
set_option maxRecDepth 100000 in
theorem c_X3_startOf (l : Launch) {σ : MM} (hM : okM σ) {a1 : Int} (ha1 : inR a1) {a2 : Int} (ha2 : inR a2) {ro : Int} (h : X3_startOf a1 a2 σ = some ro) : CtI l yX3_startOf wsX3_startOf { frames := 1, cells := 0, slots := 0, locals := 21 } (fun ad : Nat → Nat => [.ref (ad 51), .int (Int32.ofInt a1), .int (Int32.ofInt a2)]) σ 0 ro σ := by
  unfold X3_startOf at h
  refine z_ctI (cc := cX3_startOf) (maxL := 3) (rt := 0) hM (by decide) rfl (fun _ => Nat.le_of_ble_eq_true rfl) (@fun p e s m args below meth c D cy ad A Q C hR => ?_)
  refine g_sub (vs' := [(0, .ref (ad 51)), (1, .int (Int32.ofInt a1)), (2, .int (Int32.ofInt a2))]) [0, 1, 2] rfl ?_
  refine g_iload_n C dX3_startOf_0 1 rfl ?_
  refine g_iload_n C dX3_startOf_1 2 rfl ?_
  obtain ⟨r1, e2, h⟩ := z_b h
  refine g_callS (n := 2) C (fun hM => c_X3_isCell l hM ha1 ha2 e2) gX3_startOf_X3_isCell rfl (by decide) ⟨rfl, rfl⟩ ⟨Nat.le_of_ble_eq_true rfl, Nat.le_of_ble_eq_true rfl⟩ rfl rfl (rest := []) rfl (Nat.le_of_ble_eq_true rfl) dX3_startOf_2 (fun q3 => ?_)
  have q3 : r1 = 0 ∨ r1 = 1 := q3
  refine g_if_eq C 22 dX3_startOf_5 (by decide) (rgT_inR (rt := 1) q3) (fun c4 => ?_) (fun c4 => ?_)
  · have h := z_t c4 h
    refine g_iconst C dX3_startOf_22 ?_
    obtain rfl := z_s1 h
    exact hR _ _ dX3_startOf_23 (by show inR _; decide)
  · have h := z_f c4 h
    refine g_aload_n C dX3_startOf_8 0 rfl ?_
    refine gf_X3_0 C in_X3_startOf_X3 (List.mem_of_getElem? (i := 1) rfl) dX3_startOf_9 ?_
    refine g_iload_n C dX3_startOf_12 2 rfl ?_
    refine g_bipush C dX3_startOf_13 (by decide) ?_
    refine g_imul C dX3_startOf_15 ?_
    refine g_iload_n C dX3_startOf_16 1 rfl ?_
    refine g_iadd C dX3_startOf_17 ?_
    obtain ⟨g5, h⟩ := z_g h
    refine g_iald C ly_c52 (Nat.le_of_ble_eq_true rfl) (by decide) g5 dX3_startOf_18 (fun r6 => ?_)
    refine g_goto C 23 dX3_startOf_19 (by decide) ?_
    obtain rfl := z_s1 h
    exact hR _ _ dX3_startOf_23 r6
theorem in_X3_latestSignal_X0 : ∀ w ∈ u_ws RX0 TX0 12, w ∈ wsX3_latestSignal := fun _ h => List.mem_cons_of_mem _ (List.mem_append_left _ (List.mem_append_right _ h))
set_option maxHeartbeats 4000000 in
set_option maxRecDepth 100000 in
theorem w_X3_latestSignal_L6 {p : Program} {l : Launch} {e : Env} {s : State} {m : MethodId} {args : Array Value} {below : List Frame} {meth : Method} {c : Code} {D : va_G} {cy : Nat → ClassId} {ad : Nat → Nat} {A : Nat → Prop} {Q : State → Prop} (C : Cx p s m args meth c cX3_latestSignal RX3 7 wsX3_latestSignal D cy A) {b : Nat} (hb : IsLoop b) {σ : MM} {x2 : Int} (hx2 : inR x2) {x3 : Int} (hx3 : inR x3) {k90 : Int → Option Int} {ro : Int} (hR : RetI p l e { frames := 2, cells := 0, slots := 0, locals := 43 } s m args below meth c cX3_latestSignal 7 D cy ad A Q 0 ro σ) (hk90 : ∀ (z4 : Int), inR z4 → k90 z4 = some ro → G p l e { frames := 2, cells := 0, slots := 0, locals := 43 } s m args below meth c 7 D cy ad A Q 90 [(4, .int (Int32.ofInt z4))] [] σ) : ∀ (n : Nat) (x4 x5 : Int) , inR x4 → inR x5 → X3_latestSignal_L6 b x2 x3 σ k90 n x4 x5 = some ro → G p l e { frames := 2, cells := 0, slots := 0, locals := 43 } s m args below meth c 7 D cy ad A Q 6 [(0, .ref (ad 51)), (1, .ref (ad b)), (2, .int (Int32.ofInt x2)), (3, .int (Int32.ofInt x3)), (4, .int (Int32.ofInt x4)), (5, .int (Int32.ofInt x5))] [] σ := by
  intro n
  induction n with
  | zero =>
    intro x4 x5 hx4 hx5 h
    cases h
  | succ n ih =>
    intro x4 x5 hx4 hx5 h
    rw [X3_latestSignal_L6] at h
    refine g_iload C dX3_latestSignal_6 5 rfl ?_
    refine g_aload_n C dX3_latestSignal_8 1 rfl ?_
    refine gfn_X0_5 C in_X3_latestSignal_X0 hb (List.mem_of_getElem? (i := 30) rfl) dX3_latestSignal_9 (fun r1 => ?_)
    refine g_icmp_ge C 90 dX3_latestSignal_12 (by decide) hx5 r1 (fun c2 => ?_) (fun c2 => ?_)
    · have h := z_f c2 h
      refine g_sub [4] rfl ?_
      exact hk90 _ hx4 h
    · have h := z_t c2 h
      refine g_aload_n C dX3_latestSignal_15 1 rfl ?_
      refine gfn_X0_8 C in_X3_latestSignal_X0 hb (List.mem_of_getElem? (i := 31) rfl) dX3_latestSignal_16 ?_
      refine g_iload C dX3_latestSignal_19 5 rfl ?_
      obtain ⟨g3, h⟩ := z_g h
      refine g_iald C (ly_L7 hb) (lt_loop hb (j := 7) (by decide)) (by decide) g3 dX3_latestSignal_21 (fun r4 => ?_)
      refine g_iload_n C dX3_latestSignal_22 2 rfl ?_
      refine g_icmp_ne C 84 dX3_latestSignal_23 (by decide) r4 hx2 (fun c5 => ?_) (fun c5 => ?_)
      · have h := z_f c5 h
        refine g_iinc C dX3_latestSignal_84 (j := 5) rfl (by decide) (vs' := [(5, .int (Int32.ofInt (x5 + 1))), (0, .ref (ad 51)), (1, .ref (ad b)), (2, .int (Int32.ofInt x2)), (3, .int (Int32.ofInt x3)), (4, .int (Int32.ofInt x4))]) rfl ?_
        refine g_goto C 6 dX3_latestSignal_87 (by decide) ?_
        refine g_sub [1, 2, 3, 4, 5, 0] rfl ?_
        exact ih _ _ hx4 (by omega) h
      · have h := z_t c5 h
        refine g_aload_n C dX3_latestSignal_26 1 rfl ?_
        refine gfn_X0_9 C in_X3_latestSignal_X0 hb (List.mem_of_getElem? (i := 32) rfl) dX3_latestSignal_27 ?_
        refine g_iload C dX3_latestSignal_30 5 rfl ?_
        refine g_iald C (ly_L8 hb) (lt_loop hb (j := 8) (by decide)) (by decide) (by omega) dX3_latestSignal_32 (fun r6 => ?_)
        refine g_iload_n C dX3_latestSignal_33 3 rfl ?_
        refine g_icmp_gt C 84 dX3_latestSignal_34 (by decide) r6 hx3 (fun c7 => ?_) (fun c7 => ?_)
        · have h := z_t c7 h
          refine g_iinc C dX3_latestSignal_84 (j := 5) rfl (by decide) (vs' := [(5, .int (Int32.ofInt (x5 + 1))), (0, .ref (ad 51)), (1, .ref (ad b)), (2, .int (Int32.ofInt x2)), (3, .int (Int32.ofInt x3)), (4, .int (Int32.ofInt x4))]) rfl ?_
          refine g_goto C 6 dX3_latestSignal_87 (by decide) ?_
          refine g_sub [1, 2, 3, 4, 5, 0] rfl ?_
          exact ih _ _ hx4 (by omega) h
        · have h := z_f c7 h
          refine g_aload_n C dX3_latestSignal_37 1 rfl ?_
          refine g_iload C dX3_latestSignal_38 5 rfl ?_
          obtain ⟨r8, e9, h⟩ := z_b h
          refine g_callI (n := 1) C (fun hM => c_X0_isSignalled l hM hb hx5 e9) gX3_latestSignal_X0_isSignalled rfl (by decide) ⟨rfl, rfl⟩ ⟨Nat.le_of_ble_eq_true rfl, Nat.le_of_ble_eq_true rfl⟩ rfl (ly_L0 hb) (lt_loop hb (j := 0) (by decide)) rfl rfl (rest := []) rfl (Nat.le_of_ble_eq_true rfl) dX3_latestSignal_40 (fun q10 => ?_)
          have q10 : r8 = 0 ∨ r8 = 1 := q10
          refine g_if_eq C 84 dX3_latestSignal_43 (by decide) (rgT_inR (rt := 1) q10) (fun c11 => ?_) (fun c11 => ?_)
          · have h := z_t c11 h
            refine g_iinc C dX3_latestSignal_84 (j := 5) rfl (by decide) (vs' := [(5, .int (Int32.ofInt (x5 + 1))), (0, .ref (ad 51)), (1, .ref (ad b)), (2, .int (Int32.ofInt x2)), (3, .int (Int32.ofInt x3)), (4, .int (Int32.ofInt x4))]) rfl ?_
            refine g_goto C 6 dX3_latestSignal_87 (by decide) ?_
            refine g_sub [1, 2, 3, 4, 5, 0] rfl ?_
            exact ih _ _ hx4 (by omega) h
          · have h := z_f c11 h
            refine g_aload_n C dX3_latestSignal_46 0 rfl ?_
            refine g_aload_n C dX3_latestSignal_47 1 rfl ?_
            refine gfn_X0_7 C in_X3_latestSignal_X0 hb (List.mem_of_getElem? (i := 33) rfl) dX3_latestSignal_48 ?_
            refine g_iload C dX3_latestSignal_51 5 rfl ?_
            refine g_iald C (ly_L6 hb) (lt_loop hb (j := 6) (by decide)) (by decide) (by omega) dX3_latestSignal_53 (fun r12 => ?_)
            refine g_iload_n C dX3_latestSignal_54 3 rfl ?_
            refine g_aload_n C dX3_latestSignal_55 1 rfl ?_
            refine gfn_X0_9 C in_X3_latestSignal_X0 hb (List.mem_of_getElem? (i := 32) rfl) dX3_latestSignal_56 ?_
            refine g_iload C dX3_latestSignal_59 5 rfl ?_
            refine g_iald C (ly_L8 hb) (lt_loop hb (j := 8) (by decide)) (by decide) (by omega) dX3_latestSignal_61 (fun r13 => ?_)
            refine g_isub C dX3_latestSignal_62 ?_
            obtain ⟨g14, h⟩ := z_g h
            obtain ⟨r15, e16, h⟩ := z_b h
            refine g_callI (n := 2) C (fun hM => c_X3_startOf l hM r12 g14 e16) gX3_latestSignal_X3_startOf rfl (by decide) ⟨rfl, rfl⟩ ⟨Nat.le_of_ble_eq_true rfl, Nat.le_of_ble_eq_true rfl⟩ rfl ly_c51 (Nat.le_of_ble_eq_true rfl) rfl rfl (rest := []) rfl (Nat.le_of_ble_eq_true rfl) dX3_latestSignal_63 (fun q17 => ?_)
            have q17 : inR r15 := q17
            refine g_istore C dX3_latestSignal_66 (by decide) (vs' := [(6, .int (Int32.ofInt r15)), (0, .ref (ad 51)), (1, .ref (ad b)), (2, .int (Int32.ofInt x2)), (3, .int (Int32.ofInt x3)), (4, .int (Int32.ofInt x4)), (5, .int (Int32.ofInt x5))]) rfl ?_
            refine g_iload C dX3_latestSignal_68 5 rfl ?_
            refine g_iload C dX3_latestSignal_70 0 rfl ?_
            refine g_aload_n C dX3_latestSignal_72 2 rfl ?_
            refine g_iload C dX3_latestSignal_73 6 rfl ?_
            obtain ⟨r18, e19, h⟩ := z_b h
            refine g_callI (n := 1) C (fun hM => c_X0_lagOf l hM hb hx5 e19) gX3_latestSignal_X0_lagOf rfl (by decide) ⟨rfl, rfl⟩ ⟨Nat.le_of_ble_eq_true rfl, Nat.le_of_ble_eq_true rfl⟩ rfl (ly_L0 hb) (lt_loop hb (j := 0) (by decide)) rfl rfl (rest := [.int (Int32.ofInt r15), .int (Int32.ofInt x4)]) rfl (Nat.le_of_ble_eq_true rfl) dX3_latestSignal_75 (fun q20 => ?_)
            have q20 : inR r18 := q20
            refine g_iadd C dX3_latestSignal_78 ?_
            obtain ⟨g21, h⟩ := z_g h
            refine g_mmax C (List.mem_of_getElem? (i := 1) rfl) (List.mem_of_getElem? (i := 2) rfl) (List.mem_of_getElem? (i := 3) rfl) (List.mem_of_getElem? (i := 4) rfl) (Nat.le_of_ble_eq_true rfl) (Nat.le_of_ble_eq_true rfl) hx4 g21 dX3_latestSignal_79 (fun r22 => ?_)
            refine g_istore C dX3_latestSignal_82 (by decide) (vs' := [(4, .int (Int32.ofInt (max x4 (r15 + r18)))), (6, .int (Int32.ofInt r15)), (0, .ref (ad 51)), (1, .ref (ad b)), (2, .int (Int32.ofInt x2)), (3, .int (Int32.ofInt x3)), (5, .int (Int32.ofInt x5))]) rfl ?_
            refine g_iinc C dX3_latestSignal_84 (j := 6) rfl (by decide) (vs' := [(5, .int (Int32.ofInt (x5 + 1))), (4, .int (Int32.ofInt (max x4 (r15 + r18)))), (6, .int (Int32.ofInt r15)), (0, .ref (ad 51)), (1, .ref (ad b)), (2, .int (Int32.ofInt x2)), (3, .int (Int32.ofInt x3))]) rfl ?_
            refine g_goto C 6 dX3_latestSignal_87 (by decide) ?_
            refine g_sub [3, 4, 5, 6, 1, 0] rfl ?_
            exact ih _ _ r22 (by omega) h
set_option maxHeartbeats 4000000 in
set_option maxRecDepth 100000 in
theorem c_X3_latestSignal (l : Launch) {σ : MM} (hM : okM σ) {b : Nat} (hb : IsLoop b) {a2 : Int} (ha2 : inR a2) {a3 : Int} (ha3 : inR a3) {ro : Int} (h : X3_latestSignal b a2 a3 σ = some ro) : CtI l yX3_latestSignal wsX3_latestSignal { frames := 2, cells := 0, slots := 0, locals := 43 } (fun ad : Nat → Nat => [.ref (ad 51), .ref (ad b), .int (Int32.ofInt a2), .int (Int32.ofInt a3)]) σ 0 ro σ := by
  unfold X3_latestSignal at h
  refine z_ctI (cc := cX3_latestSignal) (maxL := 7) (rt := 0) hM (by decide) rfl (fun _ => Nat.le_of_ble_eq_true rfl) (@fun p e s m args below meth c D cy ad A Q C hR => ?_)
  refine g_sub (vs' := [(0, .ref (ad 51)), (1, .ref (ad b)), (2, .int (Int32.ofInt a2)), (3, .int (Int32.ofInt a3))]) [0, 1, 2, 3] rfl ?_
  refine g_iconst C dX3_latestSignal_0 ?_
  refine g_istore C dX3_latestSignal_1 (by decide) (vs' := [(4, .int (Int32.ofInt 0)), (0, .ref (ad 51)), (1, .ref (ad b)), (2, .int (Int32.ofInt a2)), (3, .int (Int32.ofInt a3))]) rfl ?_
  refine g_iconst C dX3_latestSignal_3 ?_
  refine g_istore C dX3_latestSignal_4 (by decide) (vs' := [(5, .int (Int32.ofInt 0)), (4, .int (Int32.ofInt 0)), (0, .ref (ad 51)), (1, .ref (ad b)), (2, .int (Int32.ofInt a2)), (3, .int (Int32.ofInt a3))]) rfl ?_
  refine g_sub [2, 3, 4, 5, 1, 0] rfl ?_
  refine w_X3_latestSignal_L6 C hb ha2 ha3 hR ?_ _ _ _ (by decide) (by decide) h
  · intro z23 hz23 h
    refine g_iload C dX3_latestSignal_90 0 rfl ?_
    obtain rfl := z_s1 h
    exact hR _ _ dX3_latestSignal_92 hz23
theorem in_X3_keepStart_X3 : ∀ w ∈ u_ws RX3 TX3 7, w ∈ wsX3_keepStart := fun _ h => List.mem_cons_of_mem _ (List.mem_append_right _ h)
set_option maxHeartbeats 4000000 in
set_option maxRecDepth 100000 in
theorem c_X3_keepStart (l : Launch) {σ : MM} (hM : okM σ) {a1 : Int} (ha1 : inR a1) {a2 : Int} (ha2 : inR a2) {a3 : Int} (ha3 : inR a3) {σo : MM} (h : X3_keepStart a1 a2 a3 σ = some σo) : CtV l yX3_keepStart wsX3_keepStart { frames := 1, cells := 0, slots := 0, locals := 21 } (fun ad : Nat → Nat => [.ref (ad 51), .int (Int32.ofInt a1), .int (Int32.ofInt a2), .int (Int32.ofInt a3)]) σ σo := by
  unfold X3_keepStart at h
  refine z_ctV (cc := cX3_keepStart) (maxL := 4) hM (by decide) rfl (fun _ => Nat.le_of_ble_eq_true rfl) (@fun p e s m args below meth c D cy ad A Q C hR => ?_)
  refine g_sub (vs' := [(0, .ref (ad 51)), (1, .int (Int32.ofInt a1)), (2, .int (Int32.ofInt a2)), (3, .int (Int32.ofInt a3))]) [0, 1, 2, 3] rfl ?_
  refine g_iload_n C dX3_keepStart_0 1 rfl ?_
  refine g_iload_n C dX3_keepStart_1 2 rfl ?_
  obtain ⟨r1, e2, h⟩ := z_b h
  refine g_callS (n := 2) C (fun hM => c_X3_isCell l hM ha1 ha2 e2) gX3_keepStart_X3_isCell rfl (by decide) ⟨rfl, rfl⟩ ⟨Nat.le_of_ble_eq_true rfl, Nat.le_of_ble_eq_true rfl⟩ rfl rfl (rest := []) rfl (Nat.le_of_ble_eq_true rfl) dX3_keepStart_2 (fun q3 => ?_)
  have q3 : r1 = 0 ∨ r1 = 1 := q3
  refine g_if_eq C 20 dX3_keepStart_5 (by decide) (rgT_inR (rt := 1) q3) (fun c4 => ?_) (fun c4 => ?_)
  · have h := z_t c4 h
    obtain rfl := z_s1 h
    exact hR _ _ dX3_keepStart_20
  · have h := z_f c4 h
    refine g_aload_n C dX3_keepStart_8 0 rfl ?_
    refine gf_X3_0 C in_X3_keepStart_X3 (List.mem_of_getElem? (i := 1) rfl) dX3_keepStart_9 ?_
    refine g_iload_n C dX3_keepStart_12 2 rfl ?_
    refine g_bipush C dX3_keepStart_13 (by decide) ?_
    refine g_imul C dX3_keepStart_15 ?_
    refine g_iload_n C dX3_keepStart_16 1 rfl ?_
    refine g_iadd C dX3_keepStart_17 ?_
    refine g_iload_n C dX3_keepStart_18 3 rfl ?_
    obtain ⟨g5, h⟩ := z_g h
    refine g_iast C ly_c52 (Nat.le_of_ble_eq_true rfl) (by decide) g5 ha3 dX3_keepStart_19 ?_
    obtain ⟨σ6, e7, h⟩ := z_l h
    refine g_mem e7 ?_
    obtain rfl := z_s1 h
    exact hR _ _ dX3_keepStart_20
theorem in_X3_runIteration_X0 : ∀ w ∈ u_ws RX0 TX0 12, w ∈ wsX3_runIteration := fun _ h => List.mem_cons_of_mem _ (List.mem_append_left _ (List.mem_append_right _ h))
theorem in_X3_runIteration_X3 : ∀ w ∈ u_ws RX3 TX3 7, w ∈ wsX3_runIteration := fun _ h => List.mem_cons_of_mem _ (List.mem_append_right _ h)
set_option maxHeartbeats 4000000 in
set_option maxRecDepth 100000 in
theorem w_X3_runIteration_J72 {p : Program} {l : Launch} {e : Env} {s : State} {m : MethodId} {args : Array Value} {below : List Frame} {meth : Method} {c : Code} {D : va_G} {cy : Nat → ClassId} {ad : Nat → Nat} {A : Nat → Prop} {Q : State → Prop} (C : Cx p s m args meth c cX3_runIteration RX3 7 wsX3_runIteration D cy A) {b : Nat} (hb : IsLoop b) {x2 : Int} (hx2 : inR x2) {x3 : Int} (hx3 : inR x3) {k14 : Int → MM → Option MM} {σo : MM} (hR : RetV p l e { frames := 3, cells := 0, slots := 0, locals := 69 } s m args below meth c cX3_runIteration 7 D cy ad A Q σo) (hk14 : ∀ (z4 : Int) (σ : MM), inR z4 → k14 z4 σ = some σo → G p l e { frames := 3, cells := 0, slots := 0, locals := 69 } s m args below meth c 7 D cy ad A Q 14 [(0, .ref (ad 51)), (1, .ref (ad b)), (2, .int (Int32.ofInt x2)), (3, .int (Int32.ofInt x3)), (4, .int (Int32.ofInt z4))] [] σ) : ∀ (x4 x5 x6 : Int) (σ : MM) , inR x4 → inR x5 → inR x6 → X3_runIteration_J72 b x2 x3 k14 x4 x5 x6 σ = some σo → G p l e { frames := 3, cells := 0, slots := 0, locals := 69 } s m args below meth c 7 D cy ad A Q 72 [(0, .ref (ad 51)), (1, .ref (ad b)), (2, .int (Int32.ofInt x2)), (3, .int (Int32.ofInt x3)), (4, .int (Int32.ofInt x4)), (5, .int (Int32.ofInt x5)), (6, .int (Int32.ofInt x6))] [] σ := by
  intro x4 x5 x6 σ hx4 hx5 hx6 h
  unfold X3_runIteration_J72 at h
  refine g_aload_n C dX3_runIteration_72 0 rfl ?_
  refine gf_X3_4 C in_X3_runIteration_X3 (List.mem_of_getElem? (i := 8) rfl) dX3_runIteration_73 ?_
  refine g_iload_n C dX3_runIteration_76 3 rfl ?_
  refine g_dup2 C dX3_runIteration_77 rfl rfl ?_
  obtain ⟨g15, h⟩ := z_g h
  refine g_iald C ly_c56 (Nat.le_of_ble_eq_true rfl) (by decide) g15 dX3_runIteration_78 (fun r16 => ?_)
  refine g_iload C dX3_runIteration_79 6 rfl ?_
  refine g_aload_n C dX3_runIteration_81 0 rfl ?_
  refine gf_X3_5 C in_X3_runIteration_X3 (List.mem_of_getElem? (i := 1) rfl) dX3_runIteration_82 ?_
  refine g_iload_n C dX3_runIteration_85 3 rfl ?_
  refine g_iald C ly_c57 (Nat.le_of_ble_eq_true rfl) (by decide) (by omega) dX3_runIteration_86 (fun r17 => ?_)
  refine g_isub C dX3_runIteration_87 ?_
  refine g_iadd C dX3_runIteration_88 ?_
  obtain ⟨g18, h⟩ := z_g h
  refine g_iast C ly_c56 (Nat.le_of_ble_eq_true rfl) (by decide) (by omega) g18 dX3_runIteration_89 ?_
  obtain ⟨σ19, e20, h⟩ := z_l h
  refine g_mem e20 ?_
  refine g_aload_n C dX3_runIteration_90 0 rfl ?_
  refine gf_X3_5 C in_X3_runIteration_X3 (List.mem_of_getElem? (i := 1) rfl) dX3_runIteration_91 ?_
  refine g_iload_n C dX3_runIteration_94 3 rfl ?_
  refine g_iload C dX3_runIteration_95 6 rfl ?_
  refine g_aload_n C dX3_runIteration_97 1 rfl ?_
  refine g_iload C dX3_runIteration_98 5 rfl ?_
  obtain ⟨r21, e22, h⟩ := z_b h
  refine g_callI (n := 1) C (fun hM => c_X0_costOf l hM hb hx5 e22) gX3_runIteration_X0_costOf rfl (by decide) ⟨rfl, rfl⟩ ⟨Nat.le_of_ble_eq_true rfl, Nat.le_of_ble_eq_true rfl⟩ rfl (ly_L0 hb) (lt_loop hb (j := 0) (by decide)) rfl rfl (rest := [.int (Int32.ofInt x6), .int (Int32.ofInt x3), .ref (ad 57)]) rfl (Nat.le_of_ble_eq_true rfl) dX3_runIteration_100 (fun q23 => ?_)
  have q23 : inR r21 := q23
  refine g_iadd C dX3_runIteration_103 ?_
  obtain ⟨g24, h⟩ := z_g h
  refine g_iast C ly_c57 (Nat.le_of_ble_eq_true rfl) (by decide) (by omega) g24 dX3_runIteration_104 ?_
  obtain ⟨σ25, e26, h⟩ := z_l h
  refine g_mem e26 ?_
  refine g_aload_n C dX3_runIteration_105 0 rfl ?_
  refine g_iload C dX3_runIteration_106 5 rfl ?_
  refine g_iload_n C dX3_runIteration_108 2 rfl ?_
  refine g_iload C dX3_runIteration_109 6 rfl ?_
  obtain ⟨σ29, e28, h⟩ := z_b h
  refine g_callV (n := 3) C (fun hM => c_X3_keepStart l hM hx5 hx2 hx6 e28) gX3_runIteration_X3_keepStart rfl (by decide) ⟨rfl, rfl⟩ ⟨Nat.le_of_ble_eq_true rfl, Nat.le_of_ble_eq_true rfl⟩ rfl ly_c51 (Nat.le_of_ble_eq_true rfl) rfl rfl (rest := []) rfl (Nat.le_of_ble_eq_true rfl) dX3_runIteration_111 ?_
  refine g_iinc C dX3_runIteration_114 (j := 4) rfl (by decide) (vs' := [(4, .int (Int32.ofInt (x4 + 1))), (0, .ref (ad 51)), (1, .ref (ad b)), (2, .int (Int32.ofInt x2)), (3, .int (Int32.ofInt x3)), (5, .int (Int32.ofInt x5)), (6, .int (Int32.ofInt x6))]) rfl ?_
  refine g_goto C 14 dX3_runIteration_117 (by decide) ?_
  obtain ⟨g30, h⟩ := z_g h
  refine g_sub [1, 2, 3, 4, 0] rfl ?_
  exact hk14 _ _ g30 h
set_option maxHeartbeats 4000000 in
set_option maxRecDepth 100000 in
theorem w_X3_runIteration_L14 {p : Program} {l : Launch} {e : Env} {s : State} {m : MethodId} {args : Array Value} {below : List Frame} {meth : Method} {c : Code} {D : va_G} {cy : Nat → ClassId} {ad : Nat → Nat} {A : Nat → Prop} {Q : State → Prop} (C : Cx p s m args meth c cX3_runIteration RX3 7 wsX3_runIteration D cy A) {b : Nat} (hb : IsLoop b) {x2 : Int} (hx2 : inR x2) {x3 : Int} (hx3 : inR x3) {k120 : MM → Option MM} {σo : MM} (hR : RetV p l e { frames := 3, cells := 0, slots := 0, locals := 69 } s m args below meth c cX3_runIteration 7 D cy ad A Q σo) (hk120 : ∀  (σ : MM), k120 σ = some σo → G p l e { frames := 3, cells := 0, slots := 0, locals := 69 } s m args below meth c 7 D cy ad A Q 120 [(0, .ref (ad 51)), (3, .int (Int32.ofInt x3))] [] σ) : ∀ (n : Nat) (x4 : Int) (σ : MM) , inR x4 → X3_runIteration_L14 b x2 x3 k120 n x4 σ = some σo → G p l e { frames := 3, cells := 0, slots := 0, locals := 69 } s m args below meth c 7 D cy ad A Q 14 [(0, .ref (ad 51)), (1, .ref (ad b)), (2, .int (Int32.ofInt x2)), (3, .int (Int32.ofInt x3)), (4, .int (Int32.ofInt x4))] [] σ := by
  intro n
  induction n with
  | zero =>
    intro x4 σ hx4 h
    cases h
  | succ n ih =>
    intro x4 σ hx4 h
    rw [X3_runIteration_L14] at h
    refine g_iload C dX3_runIteration_14 4 rfl ?_
    refine g_aload_n C dX3_runIteration_16 1 rfl ?_
    refine gfn_X0_0 C in_X3_runIteration_X0 hb (List.mem_of_getElem? (i := 29) rfl) dX3_runIteration_17 (fun r3 => ?_)
    refine g_icmp_ge C 120 dX3_runIteration_20 (by decide) hx4 r3 (fun c4 => ?_) (fun c4 => ?_)
    · have h := z_f c4 h
      refine g_sub [0, 3] rfl ?_
      exact hk120 _ h
    · have h := z_t c4 h
      refine g_aload_n C dX3_runIteration_23 1 rfl ?_
      refine g_iload C dX3_runIteration_24 4 rfl ?_
      obtain ⟨r5, e6, h⟩ := z_b h
      refine g_callI (n := 1) C (fun hM => c_X0_statementAt l hM hb hx4 e6) gX3_runIteration_X0_statementAt rfl (by decide) ⟨rfl, rfl⟩ ⟨Nat.le_of_ble_eq_true rfl, Nat.le_of_ble_eq_true rfl⟩ rfl (ly_L0 hb) (lt_loop hb (j := 0) (by decide)) rfl rfl (rest := []) rfl (Nat.le_of_ble_eq_true rfl) dX3_runIteration_26 (fun q7 => ?_)
      have q7 : inR r5 := q7
      refine g_istore C dX3_runIteration_29 (by decide) (vs' := [(5, .int (Int32.ofInt r5)), (0, .ref (ad 51)), (1, .ref (ad b)), (2, .int (Int32.ofInt x2)), (3, .int (Int32.ofInt x3)), (4, .int (Int32.ofInt x4))]) rfl ?_
      refine g_aload_n C dX3_runIteration_31 1 rfl ?_
      refine gf_X3_5 C in_X3_runIteration_X3 (List.mem_of_getElem? (i := 1) rfl) dX3_runIteration_32 ?_
      refine g_iload_n C dX3_runIteration_35 4 rfl ?_
      obtain ⟨g8, h⟩ := z_g h
      refine g_iald C ly_c57 (Nat.le_of_ble_eq_true rfl) (by decide) g8 dX3_runIteration_36 (fun r9 => ?_)
      refine g_aload_n C dX3_runIteration_37 1 rfl ?_
      refine g_aload_n C dX3_runIteration_38 2 rfl ?_
      refine g_iload C dX3_runIteration_39 0 rfl ?_
      refine g_iload_n C dX3_runIteration_41 3 rfl ?_
      obtain ⟨r10, e11, h⟩ := z_b h
      refine g_callI (n := 3) C (fun hM => c_X3_latestSignal l hM hb q7 hx2 e11) gX3_runIteration_X3_latestSignal rfl (by decide) ⟨rfl, rfl⟩ ⟨Nat.le_of_ble_eq_true rfl, Nat.le_of_ble_eq_true rfl⟩ rfl ly_c51 (Nat.le_of_ble_eq_true rfl) rfl rfl (rest := [.int (Int32.ofInt (σ 57 x3))]) rfl (Nat.le_of_ble_eq_true rfl) dX3_runIteration_42 (fun q12 => ?_)
      have q12 : inR r10 := q12
      refine g_mmax C (List.mem_of_getElem? (i := 2) rfl) (List.mem_of_getElem? (i := 3) rfl) (List.mem_of_getElem? (i := 4) rfl) (List.mem_of_getElem? (i := 5) rfl) (Nat.le_of_ble_eq_true rfl) (Nat.le_of_ble_eq_true rfl) r9 q12 dX3_runIteration_45 (fun r13 => ?_)
      refine g_istore C dX3_runIteration_48 (by decide) (vs' := [(6, .int (Int32.ofInt (max (σ 57 x3) r10))), (5, .int (Int32.ofInt r5)), (0, .ref (ad 51)), (1, .ref (ad b)), (2, .int (Int32.ofInt x2)), (3, .int (Int32.ofInt x3)), (4, .int (Int32.ofInt x4))]) rfl ?_
      refine g_iload C dX3_runIteration_50 6 rfl ?_
      refine g_if_ne C 72 dX3_runIteration_52 (by decide) hx4 (fun c14 => ?_) (fun c14 => ?_)
      · have h := z_f c14 h
        refine g_sub [2, 3, 4, 5, 6, 1, 0] rfl ?_
        refine w_X3_runIteration_J72 C hb hx2 hx3 hR ih _ _ _ _ hx4 q7 r13 h
      · have h := z_t c14 h
        refine g_aload_n C dX3_runIteration_55 2 rfl ?_
        refine gf_X3_2 C in_X3_runIteration_X3 (List.mem_of_getElem? (i := 6) rfl) dX3_runIteration_56 ?_
        refine g_iload_n C dX3_runIteration_59 5 rfl ?_
        refine g_iald C ly_c54 (Nat.le_of_ble_eq_true rfl) (by decide) (by omega) dX3_runIteration_60 (fun r31 => ?_)
        refine g_if_ne C 72 dX3_runIteration_61 (by decide) r31 (fun c32 => ?_) (fun c32 => ?_)
        · have h := z_f c32 h
          refine g_sub [2, 3, 4, 5, 6, 1, 0] rfl ?_
          refine w_X3_runIteration_J72 C hb hx2 hx3 hR ih _ _ _ _ hx4 q7 r13 h
        · have h := z_t c32 h
          refine g_aload_n C dX3_runIteration_64 2 rfl ?_
          refine gf_X3_3 C in_X3_runIteration_X3 (List.mem_of_getElem? (i := 7) rfl) dX3_runIteration_65 ?_
          refine g_iload_n C dX3_runIteration_68 5 rfl ?_
          refine g_iload C dX3_runIteration_69 0 rfl ?_
          refine g_iast C ly_c55 (Nat.le_of_ble_eq_true rfl) (by decide) (by omega) r13 dX3_runIteration_71 ?_
          obtain ⟨σ33, e34, h⟩ := z_l h
          refine g_mem e34 ?_
          refine g_sub [2, 3, 4, 5, 6, 1, 0] rfl ?_
          refine w_X3_runIteration_J72 C hb hx2 hx3 hR ih _ _ _ _ hx4 q7 r13 h
set_option maxHeartbeats 4000000 in
set_option maxRecDepth 100000 in
theorem c_X3_runIteration (l : Launch) {σ : MM} (hM : okM σ) {b : Nat} (hb : IsLoop b) {a2 : Int} (ha2 : inR a2) {a3 : Int} (ha3 : inR a3) {σo : MM} (h : X3_runIteration b a2 a3 σ = some σo) : CtV l yX3_runIteration wsX3_runIteration { frames := 3, cells := 0, slots := 0, locals := 69 } (fun ad : Nat → Nat => [.ref (ad 51), .ref (ad b), .int (Int32.ofInt a2), .int (Int32.ofInt a3)]) σ σo := by
  unfold X3_runIteration at h
  refine z_ctV (cc := cX3_runIteration) (maxL := 7) hM (by decide) rfl (fun _ => Nat.le_of_ble_eq_true rfl) (@fun p e s m args below meth c D cy ad A Q C hR => ?_)
  refine g_sub (vs' := [(0, .ref (ad 51)), (1, .ref (ad b)), (2, .int (Int32.ofInt a2)), (3, .int (Int32.ofInt a3))]) [0, 1, 2, 3] rfl ?_
  refine g_iload_n C dX3_runIteration_0 3 rfl ?_
  refine g_if_lt C 10 dX3_runIteration_1 (by decide) ha3 (fun c1 => ?_) (fun c1 => ?_)
  · have h := z_t c1 h
    obtain rfl := z_s1 h
    exact hR _ _ dX3_runIteration_10
  · have h := z_f c1 h
    refine g_iload_n C dX3_runIteration_4 3 rfl ?_
    refine g_bipush C dX3_runIteration_5 (by decide) ?_
    refine g_icmp_lt C 11 dX3_runIteration_7 (by decide) ha3 (by decide) (fun c2 => ?_) (fun c2 => ?_)
    · have h := z_t c2 h
      refine g_iconst C dX3_runIteration_11 ?_
      refine g_istore C dX3_runIteration_12 (by decide) (vs' := [(4, .int (Int32.ofInt 0)), (0, .ref (ad 51)), (1, .ref (ad b)), (2, .int (Int32.ofInt a2)), (3, .int (Int32.ofInt a3))]) rfl ?_
      refine g_sub [1, 2, 3, 4, 0] rfl ?_
      refine w_X3_runIteration_L14 C hb ha2 ha3 hR ?_ _ _ _ (by decide) h
      · intro σ35 h
        refine g_aload_n C dX3_runIteration_120 0 rfl ?_
        refine gf_X3_2 C in_X3_runIteration_X3 (List.mem_of_getElem? (i := 6) rfl) dX3_runIteration_121 ?_
        refine g_iload_n C dX3_runIteration_124 1 rfl ?_
        refine g_dup2 C dX3_runIteration_125 rfl rfl ?_
        refine g_iald C ly_c54 (Nat.le_of_ble_eq_true rfl) (by decide) (by omega) dX3_runIteration_126 (fun r36 => ?_)
        refine g_iconst C dX3_runIteration_127 ?_
        refine g_iadd C dX3_runIteration_128 ?_
        obtain ⟨g37, h⟩ := z_g h
        refine g_iast C ly_c54 (Nat.le_of_ble_eq_true rfl) (by decide) (by omega) g37 dX3_runIteration_129 ?_
        obtain ⟨σ38, e39, h⟩ := z_l h
        refine g_mem e39 ?_
        refine g_aload_n C dX3_runIteration_130 0 rfl ?_
        refine g_aload_n C dX3_runIteration_131 0 rfl ?_
        refine gf_X3_6 C in_X3_runIteration_X3 (List.mem_of_getElem? (i := 9) rfl) dX3_runIteration_132 (fun r40 => ?_)
        refine g_aload_n C dX3_runIteration_135 0 rfl ?_
        refine gf_X3_5 C in_X3_runIteration_X3 (List.mem_of_getElem? (i := 1) rfl) dX3_runIteration_136 ?_
        refine g_iload_n C dX3_runIteration_139 1 rfl ?_
        refine g_iald C ly_c57 (Nat.le_of_ble_eq_true rfl) (by decide) (by omega) dX3_runIteration_140 (fun r41 => ?_)
        refine g_mmax C (List.mem_of_getElem? (i := 2) rfl) (List.mem_of_getElem? (i := 3) rfl) (List.mem_of_getElem? (i := 4) rfl) (List.mem_of_getElem? (i := 5) rfl) (Nat.le_of_ble_eq_true rfl) (Nat.le_of_ble_eq_true rfl) r40 r41 dX3_runIteration_141 (fun r42 => ?_)
        refine gp_X3_6 C in_X3_runIteration_X3 (List.mem_of_getElem? (i := 9) rfl) r42 dX3_runIteration_144 ?_
        obtain ⟨σ43, e44, h⟩ := z_l h
        refine g_mem e44 ?_
        obtain rfl := z_s1 h
        exact hR _ _ dX3_runIteration_147
    · have h := z_f c2 h
      obtain rfl := z_s1 h
      exact hR _ _ dX3_runIteration_10
theorem in_X3_simulate_X3 : ∀ w ∈ u_ws RX3 TX3 7, w ∈ wsX3_simulate := fun _ h => List.mem_cons_of_mem _ (List.mem_append_left _ (List.mem_append_right _ h))
theorem in_X3_simulate_X0 : ∀ w ∈ u_ws RX0 TX0 12, w ∈ wsX3_simulate := fun _ h => List.mem_cons_of_mem _ (List.mem_append_right _ h)
set_option maxHeartbeats 4000000 in
set_option maxRecDepth 100000 in
theorem w_X3_simulate_L7 {p : Program} {l : Launch} {e : Env} {s : State} {m : MethodId} {args : Array Value} {below : List Frame} {meth : Method} {c : Code} {D : va_G} {cy : Nat → ClassId} {ad : Nat → Nat} {A : Nat → Prop} {Q : State → Prop} (C : Cx p s m args meth c cX3_simulate RX3 5 wsX3_simulate D cy A) {b : Nat} (hb : IsLoop b) {x2 : Int} (hx2 : inR x2) {k47 : MM → Option MM} {σo : MM} (hR : RetV p l e { frames := 4, cells := 0, slots := 0, locals := 95 } s m args below meth c cX3_simulate 5 D cy ad A Q σo) (hk47 : ∀  (σ : MM), k47 σ = some σo → G p l e { frames := 4, cells := 0, slots := 0, locals := 95 } s m args below meth c 5 D cy ad A Q 47 [(0, .ref (ad 51)), (1, .ref (ad b)), (2, .int (Int32.ofInt x2))] [] σ) : ∀ (n : Nat) (x3 : Int) (σ : MM) , inR x3 → X3_simulate_L7 b x2 k47 n x3 σ = some σo → G p l e { frames := 4, cells := 0, slots := 0, locals := 95 } s m args below meth c 5 D cy ad A Q 7 [(0, .ref (ad 51)), (1, .ref (ad b)), (2, .int (Int32.ofInt x2)), (3, .int (Int32.ofInt x3))] [] σ := by
  intro n
  induction n with
  | zero =>
    intro x3 σ hx3 h
    cases h
  | succ n ih =>
    intro x3 σ hx3 h
    rw [X3_simulate_L7] at h
    refine g_iload_n C dX3_simulate_7 3 rfl ?_
    refine g_bipush C dX3_simulate_8 (by decide) ?_
    refine g_icmp_ge C 47 dX3_simulate_10 (by decide) hx3 (by decide) (fun c3 => ?_) (fun c3 => ?_)
    · have h := z_f c3 h
      refine g_sub [0, 1, 2] rfl ?_
      exact hk47 _ h
    · have h := z_t c3 h
      refine g_aload_n C dX3_simulate_13 0 rfl ?_
      refine gf_X3_2 C in_X3_simulate_X3 (List.mem_of_getElem? (i := 2) rfl) dX3_simulate_14 ?_
      refine g_iload_n C dX3_simulate_17 3 rfl ?_
      refine g_iconst C dX3_simulate_18 ?_
      obtain ⟨g4, h⟩ := z_g h
      refine g_iast C ly_c54 (Nat.le_of_ble_eq_true rfl) (by decide) g4 (by decide) dX3_simulate_19 ?_
      obtain ⟨σ5, e6, h⟩ := z_l h
      refine g_mem e6 ?_
      refine g_aload_n C dX3_simulate_20 0 rfl ?_
      refine gf_X3_3 C in_X3_simulate_X3 (List.mem_of_getElem? (i := 3) rfl) dX3_simulate_21 ?_
      refine g_iload_n C dX3_simulate_24 3 rfl ?_
      refine g_iconst C dX3_simulate_25 ?_
      refine g_iast C ly_c55 (Nat.le_of_ble_eq_true rfl) (by decide) (by omega) (by decide) dX3_simulate_26 ?_
      obtain ⟨σ7, e8, h⟩ := z_l h
      refine g_mem e8 ?_
      refine g_aload_n C dX3_simulate_27 0 rfl ?_
      refine gf_X3_4 C in_X3_simulate_X3 (List.mem_of_getElem? (i := 4) rfl) dX3_simulate_28 ?_
      refine g_iload_n C dX3_simulate_31 3 rfl ?_
      refine g_iconst C dX3_simulate_32 ?_
      refine g_iast C ly_c56 (Nat.le_of_ble_eq_true rfl) (by decide) (by omega) (by decide) dX3_simulate_33 ?_
      obtain ⟨σ9, e10, h⟩ := z_l h
      refine g_mem e10 ?_
      refine g_aload_n C dX3_simulate_34 0 rfl ?_
      refine gf_X3_5 C in_X3_simulate_X3 (List.mem_of_getElem? (i := 5) rfl) dX3_simulate_35 ?_
      refine g_iload_n C dX3_simulate_38 3 rfl ?_
      refine g_iconst C dX3_simulate_39 ?_
      refine g_iast C ly_c57 (Nat.le_of_ble_eq_true rfl) (by decide) (by omega) (by decide) dX3_simulate_40 ?_
      obtain ⟨σ11, e12, h⟩ := z_l h
      refine g_mem e12 ?_
      refine g_iinc C dX3_simulate_41 (j := 3) rfl (by decide) (vs' := [(3, .int (Int32.ofInt (x3 + 1))), (0, .ref (ad 51)), (1, .ref (ad b)), (2, .int (Int32.ofInt x2))]) rfl ?_
      refine g_goto C 7 dX3_simulate_44 (by decide) ?_
      refine g_sub [1, 2, 3, 0] rfl ?_
      exact ih _ _ (by omega) h
set_option maxHeartbeats 4000000 in
set_option maxRecDepth 100000 in
theorem w_X3_simulate_L49 {p : Program} {l : Launch} {e : Env} {s : State} {m : MethodId} {args : Array Value} {below : List Frame} {meth : Method} {c : Code} {D : va_G} {cy : Nat → ClassId} {ad : Nat → Nat} {A : Nat → Prop} {Q : State → Prop} (C : Cx p s m args meth c cX3_simulate RX3 5 wsX3_simulate D cy A) {b : Nat} (hb : IsLoop b) {x2 : Int} (hx2 : inR x2) {k96 : MM → Option MM} {σo : MM} (hR : RetV p l e { frames := 4, cells := 0, slots := 0, locals := 95 } s m args below meth c cX3_simulate 5 D cy ad A Q σo) (hk96 : ∀  (σ : MM), k96 σ = some σo → G p l e { frames := 4, cells := 0, slots := 0, locals := 95 } s m args below meth c 5 D cy ad A Q 96 [] [] σ) : ∀ (n : Nat) (x3 : Int) (σ : MM) , inR x3 → X3_simulate_L49 b x2 k96 n x3 σ = some σo → G p l e { frames := 4, cells := 0, slots := 0, locals := 95 } s m args below meth c 5 D cy ad A Q 49 [(0, .ref (ad 51)), (1, .ref (ad b)), (2, .int (Int32.ofInt x2)), (3, .int (Int32.ofInt x3))] [] σ := by
  intro n
  induction n with
  | zero =>
    intro x3 σ hx3 h
    cases h
  | succ n ih =>
    intro x3 σ hx3 h
    rw [X3_simulate_L49] at h
    refine g_iload_n C dX3_simulate_49 3 rfl ?_
    refine g_aload_n C dX3_simulate_50 1 rfl ?_
    refine gfn_X0_11 C in_X3_simulate_X0 hb (List.mem_of_getElem? (i := 28) rfl) dX3_simulate_51 ?_
    refine g_iconst C dX3_simulate_54 ?_
    refine g_iald C (ly_L10 hb) (lt_loop hb (j := 10) (by decide)) (by decide) (by decide) dX3_simulate_55 (fun r14 => ?_)
    refine g_icmp_ge C 96 dX3_simulate_56 (by decide) hx3 r14 (fun c15 => ?_) (fun c15 => ?_)
    · have h := z_f c15 h
      refine g_sub [] rfl ?_
      exact hk96 _ h
    · have h := z_t c15 h
      refine g_iload_n C dX3_simulate_59 3 rfl ?_
      refine g_bipush C dX3_simulate_60 (by decide) ?_
      refine g_icmp_ge C 96 dX3_simulate_62 (by decide) hx3 (by decide) (fun c16 => ?_) (fun c16 => ?_)
      · have h := z_f c16 h
        refine g_sub [] rfl ?_
        exact hk96 _ h
      · have h := z_t c16 h
        refine g_aload_n C dX3_simulate_65 0 rfl ?_
        refine g_aload_n C dX3_simulate_66 1 rfl ?_
        refine g_iload_n C dX3_simulate_67 3 rfl ?_
        refine g_iload_n C dX3_simulate_68 2 rfl ?_
        obtain ⟨r17, e18, h⟩ := z_b h
        refine g_callI (n := 3) C (fun hM => c_X3_choose l hM hb hx3 hx2 e18) gX3_simulate_X3_choose rfl (by decide) ⟨rfl, rfl⟩ ⟨Nat.le_of_ble_eq_true rfl, Nat.le_of_ble_eq_true rfl⟩ rfl ly_c51 (Nat.le_of_ble_eq_true rfl) rfl rfl (rest := []) rfl (Nat.le_of_ble_eq_true rfl) dX3_simulate_69 (fun q19 => ?_)
        have q19 : inR r17 := q19
        refine g_istore C dX3_simulate_72 (by decide) (vs' := [(4, .int (Int32.ofInt r17)), (0, .ref (ad 51)), (1, .ref (ad b)), (2, .int (Int32.ofInt x2)), (3, .int (Int32.ofInt x3))]) rfl ?_
        refine g_aload_n C dX3_simulate_74 1 rfl ?_
        refine gf_X3_1 C in_X3_simulate_X3 (List.mem_of_getElem? (i := 6) rfl) dX3_simulate_75 ?_
        refine g_iload_n C dX3_simulate_78 4 rfl ?_
        refine g_iload C dX3_simulate_79 0 rfl ?_
        obtain ⟨g20, h⟩ := z_g h
        refine g_iast C ly_c53 (Nat.le_of_ble_eq_true rfl) (by decide) g20 q19 dX3_simulate_81 ?_
        obtain ⟨σ21, e22, h⟩ := z_l h
        refine g_mem e22 ?_
        refine g_aload_n C dX3_simulate_82 1 rfl ?_
        refine g_aload_n C dX3_simulate_83 2 rfl ?_
        refine g_iload_n C dX3_simulate_84 4 rfl ?_
        refine g_iload C dX3_simulate_85 0 rfl ?_
        obtain ⟨σ25, e24, h⟩ := z_b h
        refine g_callV (n := 3) C (fun hM => c_X3_runIteration l hM hb hx3 q19 e24) gX3_simulate_X3_runIteration rfl (by decide) ⟨rfl, rfl⟩ ⟨Nat.le_of_ble_eq_true rfl, Nat.le_of_ble_eq_true rfl⟩ rfl ly_c51 (Nat.le_of_ble_eq_true rfl) rfl rfl (rest := []) rfl (Nat.le_of_ble_eq_true rfl) dX3_simulate_87 ?_
        refine g_iinc C dX3_simulate_90 (j := 4) rfl (by decide) (vs' := [(3, .int (Int32.ofInt (x3 + 1))), (4, .int (Int32.ofInt r17)), (0, .ref (ad 51)), (1, .ref (ad b)), (2, .int (Int32.ofInt x2))]) rfl ?_
        refine g_goto C 49 dX3_simulate_93 (by decide) ?_
        refine g_sub [2, 3, 4, 0] rfl ?_
        exact ih _ _ (by omega) h
set_option maxHeartbeats 4000000 in
set_option maxRecDepth 100000 in
theorem c_X3_simulate (l : Launch) {σ : MM} (hM : okM σ) {b : Nat} (hb : IsLoop b) {a2 : Int} (ha2 : inR a2) {σo : MM} (h : X3_simulate b a2 σ = some σo) : CtV l yX3_simulate wsX3_simulate { frames := 4, cells := 0, slots := 0, locals := 95 } (fun ad : Nat → Nat => [.ref (ad 51), .ref (ad b), .int (Int32.ofInt a2)]) σ σo := by
  unfold X3_simulate at h
  refine z_ctV (cc := cX3_simulate) (maxL := 5) hM (by decide) rfl (fun _ => Nat.le_of_ble_eq_true rfl) (@fun p e s m args below meth c D cy ad A Q C hR => ?_)
  refine g_sub (vs' := [(0, .ref (ad 51)), (1, .ref (ad b)), (2, .int (Int32.ofInt a2))]) [0, 1, 2] rfl ?_
  refine g_aload_n C dX3_simulate_0 0 rfl ?_
  refine g_iconst C dX3_simulate_1 ?_
  refine gp_X3_6 C in_X3_simulate_X3 (List.mem_of_getElem? (i := 1) rfl) (by decide) dX3_simulate_2 ?_
  obtain ⟨σ1, e2, h⟩ := z_l h
  refine g_mem e2 ?_
  refine g_iconst C dX3_simulate_5 ?_
  refine g_istore_n C dX3_simulate_6 (by decide) (vs' := [(3, .int (Int32.ofInt 0)), (0, .ref (ad 51)), (1, .ref (ad b)), (2, .int (Int32.ofInt a2))]) rfl ?_
  refine g_sub [1, 2, 3, 0] rfl ?_
  refine w_X3_simulate_L7 C hb ha2 hR ?_ _ _ _ (by decide) h
  · intro σ13 h
    refine g_iconst C dX3_simulate_47 ?_
    refine g_istore_n C dX3_simulate_48 (by decide) (vs' := [(3, .int (Int32.ofInt 0)), (0, .ref (ad 51)), (1, .ref (ad b)), (2, .int (Int32.ofInt a2))]) rfl ?_
    refine g_sub [1, 2, 3, 0] rfl ?_
    refine w_X3_simulate_L49 C hb ha2 hR ?_ _ _ _ (by decide) h
    · intro σ26 h
      obtain rfl := z_s1 h
      exact hR _ _ dX3_simulate_96
theorem in_X3_violates_X0 : ∀ w ∈ u_ws RX0 TX0 12, w ∈ wsX3_violates := fun _ h => List.mem_cons_of_mem _ (List.mem_append_left _ (List.mem_append_right _ h))
set_option maxHeartbeats 4000000 in
set_option maxRecDepth 100000 in
theorem w_X3_violates_L59 {p : Program} {l : Launch} {e : Env} {s : State} {m : MethodId} {args : Array Value} {below : List Frame} {meth : Method} {c : Code} {D : va_G} {cy : Nat → ClassId} {ad : Nat → Nat} {A : Nat → Prop} {Q : State → Prop} (C : Cx p s m args meth c cX3_violates RX3 8 wsX3_violates D cy A) {b : Nat} (hb : IsLoop b) {σ : MM} {x3 : Int} (hx3 : inR x3) {x4 : Int} (hx4 : inR x4) {x5 : Int} (hx5 : inR x5) {x6 : Int} (hx6 : inR x6) {k105 : Option Int} {ro : Int} (hR : RetI p l e { frames := 2, cells := 0, slots := 0, locals := 43 } s m args below meth c cX3_violates 8 D cy ad A Q 1 ro σ) (hk105 :  k105 = some ro → G p l e { frames := 2, cells := 0, slots := 0, locals := 43 } s m args below meth c 8 D cy ad A Q 105 [] [] σ) : ∀ (n : Nat) (x7 : Int) , inR x7 → X3_violates_L59 b x3 x4 x5 x6 σ k105 n x7 = some ro → G p l e { frames := 2, cells := 0, slots := 0, locals := 43 } s m args below meth c 8 D cy ad A Q 59 [(0, .ref (ad 51)), (1, .ref (ad b)), (3, .int (Int32.ofInt x3)), (4, .int (Int32.ofInt x4)), (5, .int (Int32.ofInt x5)), (6, .int (Int32.ofInt x6)), (7, .int (Int32.ofInt x7))] [] σ := by
  intro n
  induction n with
  | zero =>
    intro x7 hx7 h
    cases h
  | succ n ih =>
    intro x7 hx7 h
    rw [X3_violates_L59] at h
    refine g_iload C dX3_violates_59 6 rfl ?_
    refine g_iload C dX3_violates_61 4 rfl ?_
    refine g_iadd C dX3_violates_63 ?_
    refine g_aload_n C dX3_violates_64 1 rfl ?_
    refine gfn_X0_11 C in_X3_violates_X0 hb (List.mem_of_getElem? (i := 28) rfl) dX3_violates_65 ?_
    refine g_iconst C dX3_violates_68 ?_
    refine g_iald C (ly_L10 hb) (lt_loop hb (j := 10) (by decide)) (by decide) (by decide) dX3_violates_69 (fun r13 => ?_)
    obtain ⟨g14, h⟩ := z_g h
    refine g_icmp_ge C 105 dX3_violates_70 (by decide) g14 r13 (fun c15 => ?_) (fun c15 => ?_)
    · have h := z_f c15 h
      refine g_sub [] rfl ?_
      exact hk105  h
    · have h := z_t c15 h
      refine g_aload_n C dX3_violates_73 0 rfl ?_
      refine g_iload C dX3_violates_74 3 rfl ?_
      refine g_iload C dX3_violates_76 6 rfl ?_
      refine g_iload C dX3_violates_78 4 rfl ?_
      refine g_iadd C dX3_violates_80 ?_
      obtain ⟨r16, e17, h⟩ := z_b h
      refine g_callI (n := 2) C (fun hM => c_X3_startOf l hM hx4 g14 e17) gX3_violates_X3_startOf rfl (by decide) ⟨rfl, rfl⟩ ⟨Nat.le_of_ble_eq_true rfl, Nat.le_of_ble_eq_true rfl⟩ rfl ly_c51 (Nat.le_of_ble_eq_true rfl) rfl rfl (rest := []) rfl (Nat.le_of_ble_eq_true rfl) dX3_violates_81 (fun q18 => ?_)
      have q18 : inR r16 := q18
      refine g_aload_n C dX3_violates_84 0 rfl ?_
      refine g_iload_n C dX3_violates_85 2 rfl ?_
      refine g_iload C dX3_violates_86 6 rfl ?_
      obtain ⟨r19, e20, h⟩ := z_b h
      refine g_callI (n := 2) C (fun hM => c_X3_startOf l hM hx3 hx7 e20) gX3_violates_X3_startOf rfl (by decide) ⟨rfl, rfl⟩ ⟨Nat.le_of_ble_eq_true rfl, Nat.le_of_ble_eq_true rfl⟩ rfl ly_c51 (Nat.le_of_ble_eq_true rfl) rfl rfl (rest := [.int (Int32.ofInt r16)]) rfl (Nat.le_of_ble_eq_true rfl) dX3_violates_88 (fun q21 => ?_)
      have q21 : inR r19 := q21
      refine g_iload C dX3_violates_91 5 rfl ?_
      refine g_iadd C dX3_violates_93 ?_
      obtain ⟨g22, h⟩ := z_g h
      refine g_icmp_ge C 99 dX3_violates_94 (by decide) q18 g22 (fun c23 => ?_) (fun c23 => ?_)
      · have h := z_f c23 h
        refine g_iinc C dX3_violates_99 (j := 6) rfl (by decide) (vs' := [(7, .int (Int32.ofInt (x7 + 1))), (0, .ref (ad 51)), (1, .ref (ad b)), (3, .int (Int32.ofInt x3)), (4, .int (Int32.ofInt x4)), (5, .int (Int32.ofInt x5)), (6, .int (Int32.ofInt x6))]) rfl ?_
        refine g_goto C 59 dX3_violates_102 (by decide) ?_
        obtain ⟨g24, h⟩ := z_g h
        refine g_sub [1, 2, 3, 4, 5, 6, 0] rfl ?_
        exact ih _ g24 h
      · have h := z_t c23 h
        refine g_iconst C dX3_violates_97 ?_
        obtain rfl := z_s1 h
        exact hR _ _ dX3_violates_98 (by show _ = _ ∨ _ = _; decide)
set_option maxHeartbeats 4000000 in
set_option maxRecDepth 100000 in
theorem c_X3_violates (l : Launch) {σ : MM} (hM : okM σ) {b : Nat} (hb : IsLoop b) {a2 : Int} (ha2 : inR a2) {ro : Int} (h : X3_violates b a2 σ = some ro) : CtI l yX3_violates wsX3_violates { frames := 2, cells := 0, slots := 0, locals := 43 } (fun ad : Nat → Nat => [.ref (ad 51), .ref (ad b), .int (Int32.ofInt a2)]) σ 1 ro σ := by
  unfold X3_violates at h
  refine z_ctI (cc := cX3_violates) (maxL := 8) (rt := 1) hM (by decide) rfl (fun _ => Nat.le_of_ble_eq_true rfl) (@fun p e s m args below meth c D cy ad A Q C hR => ?_)
  refine g_sub (vs' := [(0, .ref (ad 51)), (1, .ref (ad b)), (2, .int (Int32.ofInt a2))]) [0, 1, 2] rfl ?_
  refine g_aload_n C dX3_violates_0 1 rfl ?_
  refine g_iload_n C dX3_violates_1 2 rfl ?_
  obtain ⟨r1, e2, h⟩ := z_b h
  refine g_callI (n := 1) C (fun hM => c_X0_hasDependence l hM hb ha2 e2) gX3_violates_X0_hasDependence rfl (by decide) ⟨rfl, rfl⟩ ⟨Nat.le_of_ble_eq_true rfl, Nat.le_of_ble_eq_true rfl⟩ rfl (ly_L0 hb) (lt_loop hb (j := 0) (by decide)) rfl rfl (rest := []) rfl (Nat.le_of_ble_eq_true rfl) dX3_violates_2 (fun q3 => ?_)
  have q3 : r1 = 0 ∨ r1 = 1 := q3
  refine g_if_ne C 10 dX3_violates_5 (by decide) (rgT_inR (rt := 1) q3) (fun c4 => ?_) (fun c4 => ?_)
  · have h := z_f c4 h
    refine g_aload_n C dX3_violates_10 1 rfl ?_
    refine gfn_X0_7 C in_X3_violates_X0 hb (List.mem_of_getElem? (i := 33) rfl) dX3_violates_11 ?_
    refine g_iload_n C dX3_violates_14 2 rfl ?_
    obtain ⟨g5, h⟩ := z_g h
    refine g_iald C (ly_L6 hb) (lt_loop hb (j := 6) (by decide)) (by decide) g5 dX3_violates_15 (fun r6 => ?_)
    refine g_istore_n C dX3_violates_16 (by decide) (vs' := [(3, .int (Int32.ofInt (σ (b + 6) a2))), (0, .ref (ad 51)), (1, .ref (ad b)), (2, .int (Int32.ofInt a2))]) rfl ?_
    refine g_aload_n C dX3_violates_17 2 rfl ?_
    refine gfn_X0_8 C in_X3_violates_X0 hb (List.mem_of_getElem? (i := 31) rfl) dX3_violates_18 ?_
    refine g_iload_n C dX3_violates_21 3 rfl ?_
    refine g_iald C (ly_L7 hb) (lt_loop hb (j := 7) (by decide)) (by decide) (by omega) dX3_violates_22 (fun r7 => ?_)
    refine g_istore C dX3_violates_23 (by decide) (vs' := [(4, .int (Int32.ofInt (σ (b + 7) a2))), (3, .int (Int32.ofInt (σ (b + 6) a2))), (0, .ref (ad 51)), (1, .ref (ad b)), (2, .int (Int32.ofInt a2))]) rfl ?_
    refine g_aload_n C dX3_violates_25 3 rfl ?_
    refine gfn_X0_9 C in_X3_violates_X0 hb (List.mem_of_getElem? (i := 32) rfl) dX3_violates_26 ?_
    refine g_iload_n C dX3_violates_29 4 rfl ?_
    refine g_iald C (ly_L8 hb) (lt_loop hb (j := 8) (by decide)) (by decide) (by omega) dX3_violates_30 (fun r8 => ?_)
    refine g_istore C dX3_violates_31 (by decide) (vs' := [(5, .int (Int32.ofInt (σ (b + 8) a2))), (4, .int (Int32.ofInt (σ (b + 7) a2))), (3, .int (Int32.ofInt (σ (b + 6) a2))), (0, .ref (ad 51)), (1, .ref (ad b)), (2, .int (Int32.ofInt a2))]) rfl ?_
    refine g_aload_n C dX3_violates_33 4 rfl ?_
    refine g_iload_n C dX3_violates_34 5 rfl ?_
    obtain ⟨r9, e10, h⟩ := z_b h
    refine g_callI (n := 1) C (fun hM => c_X0_lagOf l hM hb ha2 e10) gX3_violates_X0_lagOf rfl (by decide) ⟨rfl, rfl⟩ ⟨Nat.le_of_ble_eq_true rfl, Nat.le_of_ble_eq_true rfl⟩ rfl (ly_L0 hb) (lt_loop hb (j := 0) (by decide)) rfl rfl (rest := []) rfl (Nat.le_of_ble_eq_true rfl) dX3_violates_35 (fun q11 => ?_)
    have q11 : inR r9 := q11
    refine g_iload C dX3_violates_38 0 rfl ?_
    refine g_if_ne C 52 dX3_violates_40 (by decide) r8 (fun c12 => ?_) (fun c12 => ?_)
    · have h := z_f c12 h
      refine g_iconst C dX3_violates_52 ?_
      refine g_isub C dX3_violates_53 ?_
      refine g_istore C dX3_violates_54 (by decide) (vs' := [(6, .int (Int32.ofInt (r9 - 0))), (5, .int (Int32.ofInt (σ (b + 8) a2))), (4, .int (Int32.ofInt (σ (b + 7) a2))), (3, .int (Int32.ofInt (σ (b + 6) a2))), (0, .ref (ad 51)), (1, .ref (ad b)), (2, .int (Int32.ofInt a2))]) rfl ?_
      refine g_iconst C dX3_violates_56 ?_
      refine g_istore C dX3_violates_57 (by decide) (vs' := [(7, .int (Int32.ofInt 0)), (6, .int (Int32.ofInt (r9 - 0))), (5, .int (Int32.ofInt (σ (b + 8) a2))), (4, .int (Int32.ofInt (σ (b + 7) a2))), (3, .int (Int32.ofInt (σ (b + 6) a2))), (0, .ref (ad 51)), (1, .ref (ad b)), (2, .int (Int32.ofInt a2))]) rfl ?_
      refine g_sub [5, 6, 4, 3, 2, 1, 0] rfl ?_
      refine w_X3_violates_L59 C hb r6 r7 r8 (by omega) hR ?_ _ _ (by decide) h
      · intro h
        refine g_iconst C dX3_violates_105 ?_
        obtain rfl := z_s1 h
        exact hR _ _ dX3_violates_106 (by show _ = _ ∨ _ = _; decide)
    · have h := z_t c12 h
      refine g_aload_n C dX3_violates_43 4 rfl ?_
      refine gfn_X0_11 C in_X3_violates_X0 hb (List.mem_of_getElem? (i := 28) rfl) dX3_violates_44 ?_
      refine g_iconst C dX3_violates_47 ?_
      refine g_iald C (ly_L10 hb) (lt_loop hb (j := 10) (by decide)) (by decide) (by decide) dX3_violates_48 (fun r25 => ?_)
      refine g_goto C 53 dX3_violates_49 (by decide) ?_
      refine g_isub C dX3_violates_53 ?_
      refine g_istore C dX3_violates_54 (by decide) (vs' := [(6, .int (Int32.ofInt (r9 - (σ (b + 10) 1)))), (5, .int (Int32.ofInt (σ (b + 8) a2))), (4, .int (Int32.ofInt (σ (b + 7) a2))), (3, .int (Int32.ofInt (σ (b + 6) a2))), (0, .ref (ad 51)), (1, .ref (ad b)), (2, .int (Int32.ofInt a2))]) rfl ?_
      refine g_iconst C dX3_violates_56 ?_
      refine g_istore C dX3_violates_57 (by decide) (vs' := [(7, .int (Int32.ofInt 0)), (6, .int (Int32.ofInt (r9 - (σ (b + 10) 1)))), (5, .int (Int32.ofInt (σ (b + 8) a2))), (4, .int (Int32.ofInt (σ (b + 7) a2))), (3, .int (Int32.ofInt (σ (b + 6) a2))), (0, .ref (ad 51)), (1, .ref (ad b)), (2, .int (Int32.ofInt a2))]) rfl ?_
      obtain ⟨g26, h⟩ := z_g h
      refine g_sub [5, 6, 4, 3, 2, 1, 0] rfl ?_
      refine w_X3_violates_L59 C hb r6 r7 r8 g26 hR ?_ _ _ (by decide) h
      · intro h
        refine g_iconst C dX3_violates_105 ?_
        obtain rfl := z_s1 h
        exact hR _ _ dX3_violates_106 (by show _ = _ ∨ _ = _; decide)
  · have h := z_t c4 h
    refine g_iconst C dX3_violates_8 ?_
    obtain rfl := z_s1 h
    exact hR _ _ dX3_violates_9 (by show _ = _ ∨ _ = _; decide)
theorem in_X3_latestFirstStart_X3 : ∀ w ∈ u_ws RX3 TX3 7, w ∈ wsX3_latestFirstStart := fun _ h => List.mem_cons_of_mem _ (List.mem_append_right _ h)
set_option maxHeartbeats 4000000 in
set_option maxRecDepth 100000 in
theorem w_X3_latestFirstStart_L4 {p : Program} {l : Launch} {e : Env} {s : State} {m : MethodId} {args : Array Value} {below : List Frame} {meth : Method} {c : Code} {D : va_G} {cy : Nat → ClassId} {ad : Nat → Nat} {A : Nat → Prop} {Q : State → Prop} (C : Cx p s m args meth c cX3_latestFirstStart RX3 3 wsX3_latestFirstStart D cy A) {σ : MM} {k36 : Int → Option Int} {ro : Int} (hR : RetI p l e { frames := 1, cells := 0, slots := 0, locals := 21 } s m args below meth c cX3_latestFirstStart 3 D cy ad A Q 0 ro σ) (hk36 : ∀ (z1 : Int), inR z1 → k36 z1 = some ro → G p l e { frames := 1, cells := 0, slots := 0, locals := 21 } s m args below meth c 3 D cy ad A Q 36 [(1, .int (Int32.ofInt z1))] [] σ) : ∀ (n : Nat) (x1 x2 : Int) , inR x1 → inR x2 → X3_latestFirstStart_L4 σ k36 n x1 x2 = some ro → G p l e { frames := 1, cells := 0, slots := 0, locals := 21 } s m args below meth c 3 D cy ad A Q 4 [(0, .ref (ad 51)), (1, .int (Int32.ofInt x1)), (2, .int (Int32.ofInt x2))] [] σ := by
  intro n
  induction n with
  | zero =>
    intro x1 x2 hx1 hx2 h
    cases h
  | succ n ih =>
    intro x1 x2 hx1 hx2 h
    rw [X3_latestFirstStart_L4] at h
    refine g_iload_n C dX3_latestFirstStart_4 2 rfl ?_
    refine g_bipush C dX3_latestFirstStart_5 (by decide) ?_
    refine g_icmp_ge C 36 dX3_latestFirstStart_7 (by decide) hx2 (by decide) (fun c1 => ?_) (fun c1 => ?_)
    · have h := z_f c1 h
      refine g_sub [1] rfl ?_
      exact hk36 _ hx1 h
    · have h := z_t c1 h
      refine g_aload_n C dX3_latestFirstStart_10 0 rfl ?_
      refine gf_X3_2 C in_X3_latestFirstStart_X3 (List.mem_of_getElem? (i := 1) rfl) dX3_latestFirstStart_11 ?_
      refine g_iload_n C dX3_latestFirstStart_14 2 rfl ?_
      obtain ⟨g2, h⟩ := z_g h
      refine g_iald C ly_c54 (Nat.le_of_ble_eq_true rfl) (by decide) g2 dX3_latestFirstStart_15 (fun r3 => ?_)
      refine g_if_le C 30 dX3_latestFirstStart_16 (by decide) r3 (fun c4 => ?_) (fun c4 => ?_)
      · have h := z_f c4 h
        refine g_iinc C dX3_latestFirstStart_30 (j := 2) rfl (by decide) (vs' := [(2, .int (Int32.ofInt (x2 + 1))), (0, .ref (ad 51)), (1, .int (Int32.ofInt x1))]) rfl ?_
        refine g_goto C 4 dX3_latestFirstStart_33 (by decide) ?_
        refine g_sub [1, 2, 0] rfl ?_
        exact ih _ _ hx1 (by omega) h
      · have h := z_t c4 h
        refine g_iload_n C dX3_latestFirstStart_19 1 rfl ?_
        refine g_aload_n C dX3_latestFirstStart_20 0 rfl ?_
        refine gf_X3_3 C in_X3_latestFirstStart_X3 (List.mem_of_getElem? (i := 2) rfl) dX3_latestFirstStart_21 ?_
        refine g_iload_n C dX3_latestFirstStart_24 2 rfl ?_
        refine g_iald C ly_c55 (Nat.le_of_ble_eq_true rfl) (by decide) (by omega) dX3_latestFirstStart_25 (fun r5 => ?_)
        refine g_mmax C (List.mem_of_getElem? (i := 3) rfl) (List.mem_of_getElem? (i := 4) rfl) (List.mem_of_getElem? (i := 5) rfl) (List.mem_of_getElem? (i := 6) rfl) (Nat.le_of_ble_eq_true rfl) (Nat.le_of_ble_eq_true rfl) hx1 r5 dX3_latestFirstStart_26 (fun r6 => ?_)
        refine g_istore_n C dX3_latestFirstStart_29 (by decide) (vs' := [(1, .int (Int32.ofInt (max x1 (σ 55 x2)))), (0, .ref (ad 51)), (2, .int (Int32.ofInt x2))]) rfl ?_
        refine g_iinc C dX3_latestFirstStart_30 (j := 2) rfl (by decide) (vs' := [(2, .int (Int32.ofInt (x2 + 1))), (1, .int (Int32.ofInt (max x1 (σ 55 x2)))), (0, .ref (ad 51))]) rfl ?_
        refine g_goto C 4 dX3_latestFirstStart_33 (by decide) ?_
        refine g_sub [2, 1, 0] rfl ?_
        exact ih _ _ r6 (by omega) h
set_option maxHeartbeats 4000000 in
set_option maxRecDepth 100000 in
theorem c_X3_latestFirstStart (l : Launch) {σ : MM} (hM : okM σ) {ro : Int} (h : X3_latestFirstStart σ = some ro) : CtI l yX3_latestFirstStart wsX3_latestFirstStart { frames := 1, cells := 0, slots := 0, locals := 21 } (fun ad : Nat → Nat => [.ref (ad 51)]) σ 0 ro σ := by
  unfold X3_latestFirstStart at h
  refine z_ctI (cc := cX3_latestFirstStart) (maxL := 3) (rt := 0) hM (by decide) rfl (fun _ => Nat.le_of_ble_eq_true rfl) (@fun p e s m args below meth c D cy ad A Q C hR => ?_)
  refine g_sub (vs' := [(0, .ref (ad 51))]) [0] rfl ?_
  refine g_iconst C dX3_latestFirstStart_0 ?_
  refine g_istore_n C dX3_latestFirstStart_1 (by decide) (vs' := [(1, .int (Int32.ofInt 0)), (0, .ref (ad 51))]) rfl ?_
  refine g_iconst C dX3_latestFirstStart_2 ?_
  refine g_istore_n C dX3_latestFirstStart_3 (by decide) (vs' := [(2, .int (Int32.ofInt 0)), (1, .int (Int32.ofInt 0)), (0, .ref (ad 51))]) rfl ?_
  refine g_sub [2, 1, 0] rfl ?_
  refine w_X3_latestFirstStart_L4 C hR ?_ _ _ _ (by decide) (by decide) h
  · intro z7 hz7 h
    refine g_iload_n C dX3_latestFirstStart_36 0 rfl ?_
    obtain rfl := z_s1 h
    exact hR _ _ dX3_latestFirstStart_37 hz7
theorem in_X3_earliestEnd_X3 : ∀ w ∈ u_ws RX3 TX3 7, w ∈ wsX3_earliestEnd := fun _ h => List.mem_cons_of_mem _ (List.mem_append_right _ h)
set_option maxHeartbeats 4000000 in
set_option maxRecDepth 100000 in
theorem w_X3_earliestEnd_L7 {p : Program} {l : Launch} {e : Env} {s : State} {m : MethodId} {args : Array Value} {below : List Frame} {meth : Method} {c : Code} {D : va_G} {cy : Nat → ClassId} {ad : Nat → Nat} {A : Nat → Prop} {Q : State → Prop} (C : Cx p s m args meth c cX3_earliestEnd RX3 3 wsX3_earliestEnd D cy A) {σ : MM} {k39 : Int → Option Int} {ro : Int} (hR : RetI p l e { frames := 1, cells := 0, slots := 0, locals := 21 } s m args below meth c cX3_earliestEnd 3 D cy ad A Q 0 ro σ) (hk39 : ∀ (z1 : Int), inR z1 → k39 z1 = some ro → G p l e { frames := 1, cells := 0, slots := 0, locals := 21 } s m args below meth c 3 D cy ad A Q 39 [(1, .int (Int32.ofInt z1))] [] σ) : ∀ (n : Nat) (x1 x2 : Int) , inR x1 → inR x2 → X3_earliestEnd_L7 σ k39 n x1 x2 = some ro → G p l e { frames := 1, cells := 0, slots := 0, locals := 21 } s m args below meth c 3 D cy ad A Q 7 [(0, .ref (ad 51)), (1, .int (Int32.ofInt x1)), (2, .int (Int32.ofInt x2))] [] σ := by
  intro n
  induction n with
  | zero =>
    intro x1 x2 hx1 hx2 h
    cases h
  | succ n ih =>
    intro x1 x2 hx1 hx2 h
    rw [X3_earliestEnd_L7] at h
    refine g_iload_n C dX3_earliestEnd_7 2 rfl ?_
    refine g_bipush C dX3_earliestEnd_8 (by decide) ?_
    refine g_icmp_ge C 39 dX3_earliestEnd_10 (by decide) hx2 (by decide) (fun c2 => ?_) (fun c2 => ?_)
    · have h := z_f c2 h
      refine g_sub [1] rfl ?_
      exact hk39 _ hx1 h
    · have h := z_t c2 h
      refine g_aload_n C dX3_earliestEnd_13 0 rfl ?_
      refine gf_X3_2 C in_X3_earliestEnd_X3 (List.mem_of_getElem? (i := 2) rfl) dX3_earliestEnd_14 ?_
      refine g_iload_n C dX3_earliestEnd_17 2 rfl ?_
      obtain ⟨g3, h⟩ := z_g h
      refine g_iald C ly_c54 (Nat.le_of_ble_eq_true rfl) (by decide) g3 dX3_earliestEnd_18 (fun r4 => ?_)
      refine g_if_le C 33 dX3_earliestEnd_19 (by decide) r4 (fun c5 => ?_) (fun c5 => ?_)
      · have h := z_f c5 h
        refine g_iinc C dX3_earliestEnd_33 (j := 2) rfl (by decide) (vs' := [(2, .int (Int32.ofInt (x2 + 1))), (0, .ref (ad 51)), (1, .int (Int32.ofInt x1))]) rfl ?_
        refine g_goto C 7 dX3_earliestEnd_36 (by decide) ?_
        refine g_sub [1, 2, 0] rfl ?_
        exact ih _ _ hx1 (by omega) h
      · have h := z_t c5 h
        refine g_iload_n C dX3_earliestEnd_22 1 rfl ?_
        refine g_aload_n C dX3_earliestEnd_23 0 rfl ?_
        refine gf_X3_5 C in_X3_earliestEnd_X3 (List.mem_of_getElem? (i := 3) rfl) dX3_earliestEnd_24 ?_
        refine g_iload_n C dX3_earliestEnd_27 2 rfl ?_
        refine g_iald C ly_c57 (Nat.le_of_ble_eq_true rfl) (by decide) (by omega) dX3_earliestEnd_28 (fun r6 => ?_)
        refine g_mmin C (List.mem_of_getElem? (i := 4) rfl) (List.mem_of_getElem? (i := 5) rfl) (List.mem_of_getElem? (i := 6) rfl) (List.mem_of_getElem? (i := 7) rfl) (Nat.le_of_ble_eq_true rfl) (Nat.le_of_ble_eq_true rfl) hx1 r6 dX3_earliestEnd_29 (fun r7 => ?_)
        refine g_istore_n C dX3_earliestEnd_32 (by decide) (vs' := [(1, .int (Int32.ofInt (min x1 (σ 57 x2)))), (0, .ref (ad 51)), (2, .int (Int32.ofInt x2))]) rfl ?_
        refine g_iinc C dX3_earliestEnd_33 (j := 2) rfl (by decide) (vs' := [(2, .int (Int32.ofInt (x2 + 1))), (1, .int (Int32.ofInt (min x1 (σ 57 x2)))), (0, .ref (ad 51))]) rfl ?_
        refine g_goto C 7 dX3_earliestEnd_36 (by decide) ?_
        refine g_sub [2, 1, 0] rfl ?_
        exact ih _ _ r7 (by omega) h
set_option maxHeartbeats 4000000 in
set_option maxRecDepth 100000 in
theorem c_X3_earliestEnd (l : Launch) {σ : MM} (hM : okM σ) {ro : Int} (h : X3_earliestEnd σ = some ro) : CtI l yX3_earliestEnd wsX3_earliestEnd { frames := 1, cells := 0, slots := 0, locals := 21 } (fun ad : Nat → Nat => [.ref (ad 51)]) σ 0 ro σ := by
  unfold X3_earliestEnd at h
  refine z_ctI (cc := cX3_earliestEnd) (maxL := 3) (rt := 0) hM (by decide) rfl (fun _ => Nat.le_of_ble_eq_true rfl) (@fun p e s m args below meth c D cy ad A Q C hR => ?_)
  refine g_sub (vs' := [(0, .ref (ad 51))]) [0] rfl ?_
  refine g_aload_n C dX3_earliestEnd_0 0 rfl ?_
  refine gf_X3_6 C in_X3_earliestEnd_X3 (List.mem_of_getElem? (i := 1) rfl) dX3_earliestEnd_1 (fun r1 => ?_)
  refine g_istore_n C dX3_earliestEnd_4 (by decide) (vs' := [(1, .int (Int32.ofInt (σ 51 6))), (0, .ref (ad 51))]) rfl ?_
  refine g_iconst C dX3_earliestEnd_5 ?_
  refine g_istore_n C dX3_earliestEnd_6 (by decide) (vs' := [(2, .int (Int32.ofInt 0)), (1, .int (Int32.ofInt (σ 51 6))), (0, .ref (ad 51))]) rfl ?_
  refine g_sub [2, 1, 0] rfl ?_
  refine w_X3_earliestEnd_L7 C hR ?_ _ _ _ r1 (by decide) h
  · intro z8 hz8 h
    refine g_iload_n C dX3_earliestEnd_39 0 rfl ?_
    obtain rfl := z_s1 h
    exact hR _ _ dX3_earliestEnd_40 hz8
set_option maxHeartbeats 4000000 in
set_option maxRecDepth 100000 in
theorem w_X4_isWritable_L3 {p : Program} {l : Launch} {e : Env} {s : State} {m : MethodId} {args : Array Value} {below : List Frame} {meth : Method} {c : Code} {D : va_G} {cy : Nat → ClassId} {ad : Nat → Nat} {A : Nat → Prop} {Q : State → Prop} (C : Cx p s m args meth c cX4_isWritable RX4 3 wsX4_isWritable D cy A) {σ : MM} {x0 : Int} (hx0 : inR x0) {k39 : Option Int} {ro : Int} (hR : RetI p l e { frames := 0, cells := 0, slots := 0, locals := 0 } s m args below meth c cX4_isWritable 3 D cy ad A Q 1 ro σ) (hk39 :  k39 = some ro → G p l e { frames := 0, cells := 0, slots := 0, locals := 0 } s m args below meth c 3 D cy ad A Q 39 [] [] σ) : ∀ (n : Nat) (x1 : Int) , inR x1 → X4_isWritable_L3 x0 σ k39 n x1 = some ro → G p l e { frames := 0, cells := 0, slots := 0, locals := 0 } s m args below meth c 3 D cy ad A Q 3 [(0, .int (Int32.ofInt x0)), (1, .int (Int32.ofInt x1))] [] σ := by
  intro n
  induction n with
  | zero =>
    intro x1 hx1 h
    cases h
  | succ n ih =>
    intro x1 hx1 h
    rw [X4_isWritable_L3] at h
    refine g_iload_n C dX4_isWritable_3 1 rfl ?_
    refine g_if_lt C 39 dX4_isWritable_4 (by decide) hx1 (fun c1 => ?_) (fun c1 => ?_)
    · have h := z_t c1 h
      refine g_sub [] rfl ?_
      exact hk39  h
    · have h := z_f c1 h
      refine g_iload_n C dX4_isWritable_7 0 rfl ?_
      refine g_iload_n C dX4_isWritable_8 1 rfl ?_
      refine g_ishr C dX4_isWritable_9 ?_
      refine g_sipush C dX4_isWritable_10 (by decide) ?_
      refine g_iand C dX4_isWritable_13 ?_
      refine g_istore_n C dX4_isWritable_14 (by decide) (vs' := [(2, .int (Int32.ofInt (jand (jshr x0 x1) 255))), (0, .int (Int32.ofInt x0)), (1, .int (Int32.ofInt x1))]) rfl ?_
      refine g_iload_n C dX4_isWritable_15 0 rfl ?_
      refine g_if_eq C 33 dX4_isWritable_16 (by decide) (jand_R _ _) (fun c2 => ?_) (fun c2 => ?_)
      · have h := z_t c2 h
        refine g_iinc C dX4_isWritable_33 (j := 2) rfl (by decide) (vs' := [(1, .int (Int32.ofInt (x1 + (-8)))), (2, .int (Int32.ofInt (jand (jshr x0 x1) 255))), (0, .int (Int32.ofInt x0))]) rfl ?_
        refine g_goto C 3 dX4_isWritable_36 (by decide) ?_
        refine g_sub [2, 0] rfl ?_
        exact ih _ (by omega) h
      · have h := z_f c2 h
        refine g_iload_n C dX4_isWritable_19 0 rfl ?_
        refine g_bipush C dX4_isWritable_20 (by decide) ?_
        refine g_icmp_lt C 31 dX4_isWritable_22 (by decide) (jand_R _ _) (by decide) (fun c3 => ?_) (fun c3 => ?_)
        · have h := z_t c3 h
          refine g_iconst C dX4_isWritable_31 ?_
          obtain rfl := z_s1 h
          exact hR _ _ dX4_isWritable_32 (by show _ = _ ∨ _ = _; decide)
        · have h := z_f c3 h
          refine g_iload_n C dX4_isWritable_25 0 rfl ?_
          refine g_bipush C dX4_isWritable_26 (by decide) ?_
          refine g_icmp_le C 33 dX4_isWritable_28 (by decide) (jand_R _ _) (by decide) (fun c4 => ?_) (fun c4 => ?_)
          · have h := z_f c4 h
            refine g_iinc C dX4_isWritable_33 (j := 2) rfl (by decide) (vs' := [(1, .int (Int32.ofInt (x1 + (-8)))), (2, .int (Int32.ofInt (jand (jshr x0 x1) 255))), (0, .int (Int32.ofInt x0))]) rfl ?_
            refine g_goto C 3 dX4_isWritable_36 (by decide) ?_
            refine g_sub [2, 0] rfl ?_
            exact ih _ (by omega) h
          · have h := z_t c4 h
            refine g_iconst C dX4_isWritable_31 ?_
            obtain rfl := z_s1 h
            exact hR _ _ dX4_isWritable_32 (by show _ = _ ∨ _ = _; decide)
set_option maxHeartbeats 4000000 in
set_option maxRecDepth 100000 in
theorem c_X4_isWritable (l : Launch) {σ : MM} (hM : okM σ) {a1 : Int} (ha1 : inR a1) {ro : Int} (h : X4_isWritable a1 σ = some ro) : CtI l yX4_isWritable wsX4_isWritable { frames := 0, cells := 0, slots := 0, locals := 0 } (fun ad : Nat → Nat => [.int (Int32.ofInt a1)]) σ 1 ro σ := by
  unfold X4_isWritable at h
  refine z_ctI (cc := cX4_isWritable) (maxL := 3) (rt := 1) hM (by decide) rfl (fun _ => Nat.le_of_ble_eq_true rfl) (@fun p e s m args below meth c D cy ad A Q C hR => ?_)
  refine g_sub (vs' := [(0, .int (Int32.ofInt a1))]) [0] rfl ?_
  refine g_bipush C dX4_isWritable_0 (by decide) ?_
  refine g_istore_n C dX4_isWritable_2 (by decide) (vs' := [(1, .int (Int32.ofInt 24)), (0, .int (Int32.ofInt a1))]) rfl ?_
  refine g_sub [1, 0] rfl ?_
  refine w_X4_isWritable_L3 C ha1 hR ?_ _ _ (by decide) h
  · intro h
    refine g_iconst C dX4_isWritable_39 ?_
    obtain rfl := z_s1 h
    exact hR _ _ dX4_isWritable_40 (by show _ = _ ∨ _ = _; decide)
theorem in_X4_hasRoomFor_X4 : ∀ w ∈ u_ws RX4 TX4 3, w ∈ wsX4_hasRoomFor := fun _ h => List.mem_cons_of_mem _ (List.mem_append_right _ h)
set_option maxHeartbeats 4000000 in
set_option maxRecDepth 100000 in
theorem w_X4_hasRoomFor_L5 {p : Program} {l : Launch} {e : Env} {s : State} {m : MethodId} {args : Array Value} {below : List Frame} {meth : Method} {c : Code} {D : va_G} {cy : Nat → ClassId} {ad : Nat → Nat} {A : Nat → Prop} {Q : State → Prop} (C : Cx p s m args meth c cX4_hasRoomFor RX4 4 wsX4_hasRoomFor D cy A) {σ : MM} {x1 : Int} (hx1 : inR x1) {k28 : Int → Option Int} {ro : Int} (hR : RetI p l e { frames := 0, cells := 0, slots := 0, locals := 0 } s m args below meth c cX4_hasRoomFor 4 D cy ad A Q 1 ro σ) (hk28 : ∀ (z2 : Int), inR z2 → k28 z2 = some ro → G p l e { frames := 0, cells := 0, slots := 0, locals := 0 } s m args below meth c 4 D cy ad A Q 28 [(0, .ref (ad 34)), (2, .int (Int32.ofInt z2))] [] σ) : ∀ (n : Nat) (x2 x3 : Int) , inR x2 → inR x3 → X4_hasRoomFor_L5 x1 σ k28 n x2 x3 = some ro → G p l e { frames := 0, cells := 0, slots := 0, locals := 0 } s m args below meth c 4 D cy ad A Q 5 [(0, .ref (ad 34)), (1, .int (Int32.ofInt x1)), (2, .int (Int32.ofInt x2)), (3, .int (Int32.ofInt x3))] [] σ := by
  intro n
  induction n with
  | zero =>
    intro x2 x3 hx2 hx3 h
    cases h
  | succ n ih =>
    intro x2 x3 hx2 hx3 h
    rw [X4_hasRoomFor_L5] at h
    refine g_iload_n C dX4_hasRoomFor_5 3 rfl ?_
    refine g_if_lt C 28 dX4_hasRoomFor_6 (by decide) hx3 (fun c1 => ?_) (fun c1 => ?_)
    · have h := z_t c1 h
      refine g_sub [0, 2] rfl ?_
      exact hk28 _ hx2 h
    · have h := z_f c1 h
      refine g_iload_n C dX4_hasRoomFor_9 1 rfl ?_
      refine g_iload_n C dX4_hasRoomFor_10 3 rfl ?_
      refine g_ishr C dX4_hasRoomFor_11 ?_
      refine g_sipush C dX4_hasRoomFor_12 (by decide) ?_
      refine g_iand C dX4_hasRoomFor_15 ?_
      refine g_if_eq C 22 dX4_hasRoomFor_16 (by decide) (jand_R _ _) (fun c2 => ?_) (fun c2 => ?_)
      · have h := z_t c2 h
        refine g_iinc C dX4_hasRoomFor_22 (j := 3) rfl (by decide) (vs' := [(3, .int (Int32.ofInt (x3 + (-8)))), (0, .ref (ad 34)), (1, .int (Int32.ofInt x1)), (2, .int (Int32.ofInt x2))]) rfl ?_
        refine g_goto C 5 dX4_hasRoomFor_25 (by decide) ?_
        refine g_sub [1, 2, 3, 0] rfl ?_
        exact ih _ _ hx2 (by omega) h
      · have h := z_f c2 h
        refine g_iinc C dX4_hasRoomFor_19 (j := 2) rfl (by decide) (vs' := [(2, .int (Int32.ofInt (x2 + 1))), (0, .ref (ad 34)), (1, .int (Int32.ofInt x1)), (3, .int (Int32.ofInt x3))]) rfl ?_
        refine g_iinc C dX4_hasRoomFor_22 (j := 3) rfl (by decide) (vs' := [(3, .int (Int32.ofInt (x3 + (-8)))), (2, .int (Int32.ofInt (x2 + 1))), (0, .ref (ad 34)), (1, .int (Int32.ofInt x1))]) rfl ?_
        refine g_goto C 5 dX4_hasRoomFor_25 (by decide) ?_
        obtain ⟨g3, h⟩ := z_g h
        refine g_sub [2, 3, 1, 0] rfl ?_
        exact ih _ _ g3 (by omega) h
set_option maxHeartbeats 4000000 in
set_option maxRecDepth 100000 in
theorem c_X4_hasRoomFor (l : Launch) {σ : MM} (hM : okM σ) {a1 : Int} (ha1 : inR a1) {ro : Int} (h : X4_hasRoomFor a1 σ = some ro) : CtI l yX4_hasRoomFor wsX4_hasRoomFor { frames := 0, cells := 0, slots := 0, locals := 0 } (fun ad : Nat → Nat => [.ref (ad 34), .int (Int32.ofInt a1)]) σ 1 ro σ := by
  unfold X4_hasRoomFor at h
  refine z_ctI (cc := cX4_hasRoomFor) (maxL := 4) (rt := 1) hM (by decide) rfl (fun _ => Nat.le_of_ble_eq_true rfl) (@fun p e s m args below meth c D cy ad A Q C hR => ?_)
  refine g_sub (vs' := [(0, .ref (ad 34)), (1, .int (Int32.ofInt a1))]) [0, 1] rfl ?_
  refine g_iconst C dX4_hasRoomFor_0 ?_
  refine g_istore_n C dX4_hasRoomFor_1 (by decide) (vs' := [(2, .int (Int32.ofInt 0)), (0, .ref (ad 34)), (1, .int (Int32.ofInt a1))]) rfl ?_
  refine g_bipush C dX4_hasRoomFor_2 (by decide) ?_
  refine g_istore_n C dX4_hasRoomFor_4 (by decide) (vs' := [(3, .int (Int32.ofInt 24)), (2, .int (Int32.ofInt 0)), (0, .ref (ad 34)), (1, .int (Int32.ofInt a1))]) rfl ?_
  refine g_sub [2, 3, 1, 0] rfl ?_
  refine w_X4_hasRoomFor_L5 C ha1 hR ?_ _ _ _ (by decide) (by decide) h
  · intro z4 hz4 h
    refine g_aload_n C dX4_hasRoomFor_28 0 rfl ?_
    refine gf_X4_1 C in_X4_hasRoomFor_X4 (List.mem_of_getElem? (i := 1) rfl) dX4_hasRoomFor_29 (fun r5 => ?_)
    refine g_iload_n C dX4_hasRoomFor_32 1 rfl ?_
    refine g_iadd C dX4_hasRoomFor_33 ?_
    refine g_bipush C dX4_hasRoomFor_34 (by decide) ?_
    obtain ⟨g6, h⟩ := z_g h
    refine g_icmp_gt C 43 dX4_hasRoomFor_36 (by decide) g6 (by decide) (fun c7 => ?_) (fun c7 => ?_)
    · have h := z_t c7 h
      refine g_iconst C dX4_hasRoomFor_43 ?_
      obtain rfl := z_s1 h
      exact hR _ _ dX4_hasRoomFor_44 (by show _ = _ ∨ _ = _; decide)
    · have h := z_f c7 h
      refine g_iconst C dX4_hasRoomFor_39 ?_
      refine g_goto C 44 dX4_hasRoomFor_40 (by decide) ?_
      obtain rfl := z_s1 h
      exact hR _ _ dX4_hasRoomFor_44 (by show _ = _ ∨ _ = _; decide)
theorem in_X4_add_X4 : ∀ w ∈ u_ws RX4 TX4 3, w ∈ wsX4_add := fun _ h => List.mem_cons_of_mem _ (List.mem_append_right _ h)
set_option maxHeartbeats 4000000 in
set_option maxRecDepth 100000 in
theorem w_X4_add_L3 {p : Program} {l : Launch} {e : Env} {s : State} {m : MethodId} {args : Array Value} {below : List Frame} {meth : Method} {c : Code} {D : va_G} {cy : Nat → ClassId} {ad : Nat → Nat} {A : Nat → Prop} {Q : State → Prop} (C : Cx p s m args meth c cX4_add RX4 4 wsX4_add D cy A) {x1 : Int} (hx1 : inR x1) {k55 : MM → Option MM} {σo : MM} (hR : RetV p l e { frames := 0, cells := 0, slots := 0, locals := 0 } s m args below meth c cX4_add 4 D cy ad A Q σo) (hk55 : ∀  (σ : MM), k55 σ = some σo → G p l e { frames := 0, cells := 0, slots := 0, locals := 0 } s m args below meth c 4 D cy ad A Q 55 [] [] σ) : ∀ (n : Nat) (x2 : Int) (σ : MM) , inR x2 → X4_add_L3 x1 k55 n x2 σ = some σo → G p l e { frames := 0, cells := 0, slots := 0, locals := 0 } s m args below meth c 4 D cy ad A Q 3 [(0, .ref (ad 34)), (1, .int (Int32.ofInt x1)), (2, .int (Int32.ofInt x2))] [] σ := by
  intro n
  induction n with
  | zero =>
    intro x2 σ hx2 h
    cases h
  | succ n ih =>
    intro x2 σ hx2 h
    rw [X4_add_L3] at h
    refine g_iload_n C dX4_add_3 2 rfl ?_
    refine g_if_lt C 55 dX4_add_4 (by decide) hx2 (fun c1 => ?_) (fun c1 => ?_)
    · have h := z_t c1 h
      refine g_sub [] rfl ?_
      exact hk55 _ h
    · have h := z_f c1 h
      refine g_iload_n C dX4_add_7 1 rfl ?_
      refine g_iload_n C dX4_add_8 2 rfl ?_
      refine g_ishr C dX4_add_9 ?_
      refine g_sipush C dX4_add_10 (by decide) ?_
      refine g_iand C dX4_add_13 ?_
      refine g_istore_n C dX4_add_14 (by decide) (vs' := [(3, .int (Int32.ofInt (jand (jshr x1 x2) 255))), (0, .ref (ad 34)), (1, .int (Int32.ofInt x1)), (2, .int (Int32.ofInt x2))]) rfl ?_
      refine g_iload_n C dX4_add_15 0 rfl ?_
      refine g_if_eq C 49 dX4_add_16 (by decide) (jand_R _ _) (fun c2 => ?_) (fun c2 => ?_)
      · have h := z_t c2 h
        refine g_iinc C dX4_add_49 (j := 3) rfl (by decide) (vs' := [(2, .int (Int32.ofInt (x2 + (-8)))), (3, .int (Int32.ofInt (jand (jshr x1 x2) 255))), (0, .ref (ad 34)), (1, .int (Int32.ofInt x1))]) rfl ?_
        refine g_goto C 3 dX4_add_52 (by decide) ?_
        refine g_sub [2, 3, 0] rfl ?_
        exact ih _ _ (by omega) h
      · have h := z_f c2 h
        refine g_aload_n C dX4_add_19 1 rfl ?_
        refine gf_X4_1 C in_X4_add_X4 (List.mem_of_getElem? (i := 1) rfl) dX4_add_20 (fun r3 => ?_)
        refine g_bipush C dX4_add_23 (by decide) ?_
        refine g_icmp_ge C 49 dX4_add_25 (by decide) r3 (by decide) (fun c4 => ?_) (fun c4 => ?_)
        · have h := z_f c4 h
          refine g_iinc C dX4_add_49 (j := 3) rfl (by decide) (vs' := [(2, .int (Int32.ofInt (x2 + (-8)))), (3, .int (Int32.ofInt (jand (jshr x1 x2) 255))), (0, .ref (ad 34)), (1, .int (Int32.ofInt x1))]) rfl ?_
          refine g_goto C 3 dX4_add_52 (by decide) ?_
          refine g_sub [2, 3, 0] rfl ?_
          exact ih _ _ (by omega) h
        · have h := z_t c4 h
          refine g_aload_n C dX4_add_28 1 rfl ?_
          refine gf_X4_0 C in_X4_add_X4 (List.mem_of_getElem? (i := 2) rfl) dX4_add_29 ?_
          refine g_aload_n C dX4_add_32 1 rfl ?_
          refine gf_X4_1 C in_X4_add_X4 (List.mem_of_getElem? (i := 1) rfl) dX4_add_33 (fun r5 => ?_)
          refine g_iload_n C dX4_add_36 0 rfl ?_
          refine g_i2c C dX4_add_37 ?_
          obtain ⟨g6, h⟩ := z_g h
          obtain ⟨g7, h⟩ := z_g h
          refine g_cast C ly_c35 (Nat.le_of_ble_eq_true rfl) (by decide) g6 g7 dX4_add_38 ?_
          obtain ⟨σ8, e9, h⟩ := z_l h
          refine g_mem e9 ?_
          refine g_aload_n C dX4_add_39 1 rfl ?_
          refine g_dup C dX4_add_40 rfl ?_
          refine gf_X4_1 C in_X4_add_X4 (List.mem_of_getElem? (i := 1) rfl) dX4_add_41 (fun r10 => ?_)
          refine g_iconst C dX4_add_44 ?_
          refine g_iadd C dX4_add_45 ?_
          obtain ⟨g11, h⟩ := z_g h
          refine gp_X4_1 C in_X4_add_X4 (List.mem_of_getElem? (i := 1) rfl) g11 dX4_add_46 ?_
          obtain ⟨σ12, e13, h⟩ := z_l h
          refine g_mem e13 ?_
          refine g_iinc C dX4_add_49 (j := 3) rfl (by decide) (vs' := [(2, .int (Int32.ofInt (x2 + (-8)))), (3, .int (Int32.ofInt (jand (jshr x1 x2) 255))), (0, .ref (ad 34)), (1, .int (Int32.ofInt x1))]) rfl ?_
          refine g_goto C 3 dX4_add_52 (by decide) ?_
          refine g_sub [2, 3, 0] rfl ?_
          exact ih _ _ (by omega) h
set_option maxHeartbeats 4000000 in
set_option maxRecDepth 100000 in
theorem c_X4_add (l : Launch) {σ : MM} (hM : okM σ) {a1 : Int} (ha1 : inR a1) {σo : MM} (h : X4_add a1 σ = some σo) : CtV l yX4_add wsX4_add { frames := 0, cells := 0, slots := 0, locals := 0 } (fun ad : Nat → Nat => [.ref (ad 34), .int (Int32.ofInt a1)]) σ σo := by
  unfold X4_add at h
  refine z_ctV (cc := cX4_add) (maxL := 4) hM (by decide) rfl (fun _ => Nat.le_of_ble_eq_true rfl) (@fun p e s m args below meth c D cy ad A Q C hR => ?_)
  refine g_sub (vs' := [(0, .ref (ad 34)), (1, .int (Int32.ofInt a1))]) [0, 1] rfl ?_
  refine g_bipush C dX4_add_0 (by decide) ?_
  refine g_istore_n C dX4_add_2 (by decide) (vs' := [(2, .int (Int32.ofInt 24)), (0, .ref (ad 34)), (1, .int (Int32.ofInt a1))]) rfl ?_
  refine g_sub [1, 2, 0] rfl ?_
  refine w_X4_add_L3 C ha1 hR ?_ _ _ _ (by decide) h
  · intro σ14 h
    obtain rfl := z_s1 h
    exact hR _ _ dX4_add_55
theorem in_X4_current_X4 : ∀ w ∈ u_ws RX4 TX4 3, w ∈ wsX4_current := fun _ h => List.mem_cons_of_mem _ (List.mem_append_right _ h)
set_option maxHeartbeats 4000000 in
set_option maxRecDepth 100000 in
theorem c_X4_current (l : Launch) {σ : MM} (hM : okM σ) {ro : Int} (h : X4_current σ = some ro) : CtI l yX4_current wsX4_current { frames := 0, cells := 0, slots := 0, locals := 0 } (fun ad : Nat → Nat => [.ref (ad 34)]) σ 2 ro σ := by
  unfold X4_current at h
  refine z_ctI (cc := cX4_current) (maxL := 1) (rt := 2) hM (by decide) rfl (fun _ => Nat.le_of_ble_eq_true rfl) (@fun p e s m args below meth c D cy ad A Q C hR => ?_)
  refine g_sub (vs' := [(0, .ref (ad 34))]) [0] rfl ?_
  refine g_aload_n C dX4_current_0 0 rfl ?_
  refine gf_X4_2 C in_X4_current_X4 (List.mem_of_getElem? (i := 1) rfl) dX4_current_1 (fun r1 => ?_)
  refine g_if_lt C 39 dX4_current_4 (by decide) r1 (fun c2 => ?_) (fun c2 => ?_)
  · have h := z_t c2 h
    refine g_iconst C dX4_current_39 ?_
    obtain rfl := z_s1 h
    exact hR _ _ dX4_current_40 (by show 0 ≤ _ ∧ _ < 65536; decide)
  · have h := z_f c2 h
    refine g_aload_n C dX4_current_7 0 rfl ?_
    refine gf_X4_2 C in_X4_current_X4 (List.mem_of_getElem? (i := 1) rfl) dX4_current_8 (fun r3 => ?_)
    refine g_aload_n C dX4_current_11 0 rfl ?_
    refine gf_X4_1 C in_X4_current_X4 (List.mem_of_getElem? (i := 2) rfl) dX4_current_12 (fun r4 => ?_)
    refine g_icmp_ge C 39 dX4_current_15 (by decide) r3 r4 (fun c5 => ?_) (fun c5 => ?_)
    · have h := z_f c5 h
      refine g_iconst C dX4_current_39 ?_
      obtain rfl := z_s1 h
      exact hR _ _ dX4_current_40 (by show 0 ≤ _ ∧ _ < 65536; decide)
    · have h := z_t c5 h
      refine g_aload_n C dX4_current_18 0 rfl ?_
      refine gf_X4_2 C in_X4_current_X4 (List.mem_of_getElem? (i := 1) rfl) dX4_current_19 (fun r6 => ?_)
      refine g_bipush C dX4_current_22 (by decide) ?_
      refine g_icmp_ge C 39 dX4_current_24 (by decide) r6 (by decide) (fun c7 => ?_) (fun c7 => ?_)
      · have h := z_f c7 h
        refine g_iconst C dX4_current_39 ?_
        obtain rfl := z_s1 h
        exact hR _ _ dX4_current_40 (by show 0 ≤ _ ∧ _ < 65536; decide)
      · have h := z_t c7 h
        refine g_aload_n C dX4_current_27 0 rfl ?_
        refine gf_X4_0 C in_X4_current_X4 (List.mem_of_getElem? (i := 3) rfl) dX4_current_28 ?_
        refine g_aload_n C dX4_current_31 0 rfl ?_
        refine gf_X4_2 C in_X4_current_X4 (List.mem_of_getElem? (i := 1) rfl) dX4_current_32 (fun r8 => ?_)
        refine g_cald C ly_c35 (Nat.le_of_ble_eq_true rfl) (by decide) (by omega) dX4_current_35 (fun r9 => ?_)
        refine g_goto C 40 dX4_current_36 (by decide) ?_
        obtain ⟨g10, h⟩ := z_g h
        obtain rfl := z_s1 h
        exact hR _ _ dX4_current_40 g10
set_option maxHeartbeats 4000000 in
set_option maxRecDepth 100000 in
theorem c_X4_digit (l : Launch) {σ : MM} (hM : okM σ) {ro : Int} (h : X4_digit σ = some ro) : CtI l yX4_digit wsX4_digit { frames := 1, cells := 0, slots := 0, locals := 20 } (fun ad : Nat → Nat => [.ref (ad 34)]) σ 0 ro σ := by
  unfold X4_digit at h
  refine z_ctI (cc := cX4_digit) (maxL := 2) (rt := 0) hM (by decide) rfl (fun _ => Nat.le_of_ble_eq_true rfl) (@fun p e s m args below meth c D cy ad A Q C hR => ?_)
  refine g_sub (vs' := [(0, .ref (ad 34))]) [0] rfl ?_
  refine g_aload_n C dX4_digit_0 0 rfl ?_
  obtain ⟨r1, e2, h⟩ := z_b h
  refine g_callI (n := 0) C (fun hM => c_X4_current l hM  e2) gX4_digit_X4_current rfl (by decide) ⟨rfl, rfl⟩ ⟨Nat.le_of_ble_eq_true rfl, Nat.le_of_ble_eq_true rfl⟩ rfl ly_c34 (Nat.le_of_ble_eq_true rfl) rfl rfl (rest := []) rfl (Nat.le_of_ble_eq_true rfl) dX4_digit_1 (fun q3 => ?_)
  have q3 : 0 ≤ r1 ∧ r1 < 65536 := q3
  refine g_istore_n C dX4_digit_4 (by decide) (vs' := [(1, .int (Int32.ofInt r1)), (0, .ref (ad 34))]) rfl ?_
  refine g_iload_n C dX4_digit_5 0 rfl ?_
  refine g_bipush C dX4_digit_6 (by decide) ?_
  refine g_icmp_lt C 24 dX4_digit_8 (by decide) (rgT_inR (rt := 2) q3) (by decide) (fun c4 => ?_) (fun c4 => ?_)
  · have h := z_t c4 h
    refine g_iconst C dX4_digit_24 ?_
    obtain rfl := z_s1 h
    exact hR _ _ dX4_digit_25 (by show inR _; decide)
  · have h := z_f c4 h
    refine g_iload_n C dX4_digit_11 0 rfl ?_
    refine g_bipush C dX4_digit_12 (by decide) ?_
    refine g_icmp_gt C 24 dX4_digit_14 (by decide) (rgT_inR (rt := 2) q3) (by decide) (fun c5 => ?_) (fun c5 => ?_)
    · have h := z_t c5 h
      refine g_iconst C dX4_digit_24 ?_
      obtain rfl := z_s1 h
      exact hR _ _ dX4_digit_25 (by show inR _; decide)
    · have h := z_f c5 h
      refine g_iload_n C dX4_digit_17 0 rfl ?_
      refine g_bipush C dX4_digit_18 (by decide) ?_
      refine g_isub C dX4_digit_20 ?_
      refine g_goto C 25 dX4_digit_21 (by decide) ?_
      obtain rfl := z_s1 h
      exact hR _ _ dX4_digit_25 (by show inR _; omega)
theorem in_X4_passes_X4 : ∀ w ∈ u_ws RX4 TX4 3, w ∈ wsX4_passes := fun _ h => List.mem_cons_of_mem _ (List.mem_append_right _ h)
set_option maxHeartbeats 4000000 in
set_option maxRecDepth 100000 in
theorem c_X4_passes (l : Launch) {σ : MM} (hM : okM σ) {a1 : Int} (ha1 : inR a1) {ro : Int} {σo : MM} (h : X4_passes a1 σ = some (ro, σo)) : CtI l yX4_passes wsX4_passes { frames := 1, cells := 0, slots := 0, locals := 20 } (fun ad : Nat → Nat => [.ref (ad 34), .int (Int32.ofInt a1)]) σ 1 ro σo := by
  unfold X4_passes at h
  refine z_ctI (cc := cX4_passes) (maxL := 2) (rt := 1) hM (by decide) rfl (fun _ => Nat.le_of_ble_eq_true rfl) (@fun p e s m args below meth c D cy ad A Q C hR => ?_)
  refine g_sub (vs' := [(0, .ref (ad 34)), (1, .int (Int32.ofInt a1))]) [0, 1] rfl ?_
  refine g_aload_n C dX4_passes_0 0 rfl ?_
  obtain ⟨r1, e2, h⟩ := z_b h
  refine g_callI (n := 0) C (fun hM => c_X4_current l hM  e2) gX4_passes_X4_current rfl (by decide) ⟨rfl, rfl⟩ ⟨Nat.le_of_ble_eq_true rfl, Nat.le_of_ble_eq_true rfl⟩ rfl ly_c34 (Nat.le_of_ble_eq_true rfl) rfl rfl (rest := []) rfl (Nat.le_of_ble_eq_true rfl) dX4_passes_1 (fun q3 => ?_)
  have q3 : 0 ≤ r1 ∧ r1 < 65536 := q3
  refine g_iload_n C dX4_passes_4 1 rfl ?_
  refine g_icmp_eq C 10 dX4_passes_5 (by decide) (rgT_inR (rt := 2) q3) ha1 (fun c4 => ?_) (fun c4 => ?_)
  · have h := z_t c4 h
    refine g_aload_n C dX4_passes_10 0 rfl ?_
    refine g_dup C dX4_passes_11 rfl ?_
    refine gf_X4_2 C in_X4_passes_X4 (List.mem_of_getElem? (i := 1) rfl) dX4_passes_12 (fun r5 => ?_)
    refine g_iconst C dX4_passes_15 ?_
    refine g_iadd C dX4_passes_16 ?_
    obtain ⟨g6, h⟩ := z_g h
    refine gp_X4_2 C in_X4_passes_X4 (List.mem_of_getElem? (i := 1) rfl) g6 dX4_passes_17 ?_
    obtain ⟨σ7, e8, h⟩ := z_l h
    refine g_mem e8 ?_
    refine g_iconst C dX4_passes_20 ?_
    obtain ⟨rfl, rfl⟩ := z_s2 h
    exact hR _ _ dX4_passes_21 (by show _ = _ ∨ _ = _; decide)
  · have h := z_f c4 h
    refine g_iconst C dX4_passes_8 ?_
    obtain ⟨rfl, rfl⟩ := z_s2 h
    exact hR _ _ dX4_passes_9 (by show _ = _ ∨ _ = _; decide)
theorem in_X4_readStatement_X0 : ∀ w ∈ u_ws RX0 TX0 12, w ∈ wsX4_readStatement := fun _ h => List.mem_cons_of_mem _ (List.mem_append_left _ (List.mem_append_right _ h))
theorem in_X4_readStatement_X4 : ∀ w ∈ u_ws RX4 TX4 3, w ∈ wsX4_readStatement := fun _ h => List.mem_cons_of_mem _ (List.mem_append_right _ h)
set_option maxHeartbeats 4000000 in
set_option maxRecDepth 100000 in
theorem c_X4_readStatement (l : Launch) {σ : MM} (hM : okM σ) {b : Nat} (hb : IsLoop b) {ro : Int} {σo : MM} (h : X4_readStatement b σ = some (ro, σo)) : CtI l yX4_readStatement wsX4_readStatement { frames := 2, cells := 0, slots := 0, locals := 41 } (fun ad : Nat → Nat => [.ref (ad 34), .ref (ad b)]) σ 1 ro σo := by
  unfold X4_readStatement at h
  refine z_ctI (cc := cX4_readStatement) (maxL := 3) (rt := 1) hM (by decide) rfl (fun _ => Nat.le_of_ble_eq_true rfl) (@fun p e s m args below meth c D cy ad A Q C hR => ?_)
  refine g_sub (vs' := [(0, .ref (ad 34)), (1, .ref (ad b))]) [0, 1] rfl ?_
  refine g_aload_n C dX4_readStatement_0 1 rfl ?_
  refine gfn_X0_0 C in_X4_readStatement_X0 hb (List.mem_of_getElem? (i := 34) rfl) dX4_readStatement_1 (fun r1 => ?_)
  refine g_bipush C dX4_readStatement_4 (by decide) ?_
  refine g_icmp_lt C 11 dX4_readStatement_6 (by decide) r1 (by decide) (fun c2 => ?_) (fun c2 => ?_)
  · have h := z_t c2 h
    refine g_aload_n C dX4_readStatement_11 0 rfl ?_
    refine g_dup C dX4_readStatement_12 rfl ?_
    refine gf_X4_2 C in_X4_readStatement_X4 (List.mem_of_getElem? (i := 1) rfl) dX4_readStatement_13 (fun r3 => ?_)
    refine g_iconst C dX4_readStatement_16 ?_
    refine g_iadd C dX4_readStatement_17 ?_
    obtain ⟨g4, h⟩ := z_g h
    refine gp_X4_2 C in_X4_readStatement_X4 (List.mem_of_getElem? (i := 1) rfl) g4 dX4_readStatement_18 ?_
    obtain ⟨σ5, e6, h⟩ := z_l h
    refine g_mem e6 ?_
    refine g_aload_n C dX4_readStatement_21 0 rfl ?_
    obtain ⟨r7, e8, h⟩ := z_b h
    refine g_callI (n := 0) C (fun hM => c_X4_digit l hM  e8) gX4_readStatement_X4_digit rfl (by decide) ⟨rfl, rfl⟩ ⟨Nat.le_of_ble_eq_true rfl, Nat.le_of_ble_eq_true rfl⟩ rfl ly_c34 (Nat.le_of_ble_eq_true rfl) rfl rfl (rest := []) rfl (Nat.le_of_ble_eq_true rfl) dX4_readStatement_22 (fun q9 => ?_)
    have q9 : inR r7 := q9
    refine g_istore_n C dX4_readStatement_25 (by decide) (vs' := [(2, .int (Int32.ofInt r7)), (0, .ref (ad 34)), (1, .ref (ad b))]) rfl ?_
    refine g_iload_n C dX4_readStatement_26 0 rfl ?_
    refine g_iconst C dX4_readStatement_27 ?_
    refine g_icmp_ge C 33 dX4_readStatement_28 (by decide) q9 (by decide) (fun c10 => ?_) (fun c10 => ?_)
    · have h := z_f c10 h
      refine g_aload_n C dX4_readStatement_33 1 rfl ?_
      refine g_dup C dX4_readStatement_34 rfl ?_
      refine gf_X4_2 C in_X4_readStatement_X4 (List.mem_of_getElem? (i := 1) rfl) dX4_readStatement_35 (fun r11 => ?_)
      refine g_iconst C dX4_readStatement_38 ?_
      refine g_iadd C dX4_readStatement_39 ?_
      obtain ⟨g12, h⟩ := z_g h
      refine gp_X4_2 C in_X4_readStatement_X4 (List.mem_of_getElem? (i := 1) rfl) g12 dX4_readStatement_40 ?_
      obtain ⟨σ13, e14, h⟩ := z_l h
      refine g_mem e14 ?_
      refine g_aload_n C dX4_readStatement_43 1 rfl ?_
      refine g_bipush C dX4_readStatement_44 (by decide) ?_
      obtain ⟨⟨r15, σ17⟩, e16, h⟩ := z_b h
      refine g_callI (n := 1) C (fun hM => c_X4_passes l hM (by decide) e16) gX4_readStatement_X4_passes rfl (by decide) ⟨rfl, rfl⟩ ⟨Nat.le_of_ble_eq_true rfl, Nat.le_of_ble_eq_true rfl⟩ rfl ly_c34 (Nat.le_of_ble_eq_true rfl) rfl rfl (rest := []) rfl (Nat.le_of_ble_eq_true rfl) dX4_readStatement_46 (fun q18 => ?_)
      have q18 : r15 = 0 ∨ r15 = 1 := q18
      refine g_if_ne C 54 dX4_readStatement_49 (by decide) (rgT_inR (rt := 1) q18) (fun c19 => ?_) (fun c19 => ?_)
      · have h := z_f c19 h
        refine g_aload_n C dX4_readStatement_54 2 rfl ?_
        refine g_iload_n C dX4_readStatement_55 0 rfl ?_
        obtain ⟨σ22, e21, h⟩ := z_b h
        refine g_callV (n := 1) C (fun hM => c_X0_addStatement l hM hb q9 e21) gX4_readStatement_X0_addStatement rfl (by decide) ⟨rfl, rfl⟩ ⟨Nat.le_of_ble_eq_true rfl, Nat.le_of_ble_eq_true rfl⟩ rfl (ly_L0 hb) (lt_loop hb (j := 0) (by decide)) rfl rfl (rest := []) rfl (Nat.le_of_ble_eq_true rfl) dX4_readStatement_56 ?_
        refine g_iconst C dX4_readStatement_59 ?_
        obtain ⟨rfl, rfl⟩ := z_s2 h
        exact hR _ _ dX4_readStatement_60 (by show _ = _ ∨ _ = _; decide)
      · have h := z_t c19 h
        refine g_iconst C dX4_readStatement_52 ?_
        obtain ⟨rfl, rfl⟩ := z_s2 h
        exact hR _ _ dX4_readStatement_53 (by show _ = _ ∨ _ = _; decide)
    · have h := z_t c10 h
      refine g_iconst C dX4_readStatement_31 ?_
      obtain ⟨rfl, rfl⟩ := z_s2 h
      exact hR _ _ dX4_readStatement_32 (by show _ = _ ∨ _ = _; decide)
  · have h := z_f c2 h
    refine g_iconst C dX4_readStatement_9 ?_
    obtain ⟨rfl, rfl⟩ := z_s2 h
    exact hR _ _ dX4_readStatement_10 (by show _ = _ ∨ _ = _; decide)
theorem in_X4_readDependence_X0 : ∀ w ∈ u_ws RX0 TX0 12, w ∈ wsX4_readDependence := fun _ h => List.mem_cons_of_mem _ (List.mem_append_left _ (List.mem_append_right _ h))
theorem in_X4_readDependence_X4 : ∀ w ∈ u_ws RX4 TX4 3, w ∈ wsX4_readDependence := fun _ h => List.mem_cons_of_mem _ (List.mem_append_right _ h)
set_option maxHeartbeats 4000000 in
set_option maxRecDepth 100000 in
theorem w_X4_readDependence_J135 {p : Program} {l : Launch} {e : Env} {s : State} {m : MethodId} {args : Array Value} {below : List Frame} {meth : Method} {c : Code} {D : va_G} {cy : Nat → ClassId} {ad : Nat → Nat} {A : Nat → Prop} {Q : State → Prop} (C : Cx p s m args meth c cX4_readDependence RX4 6 wsX4_readDependence D cy A) {b : Nat} (hb : IsLoop b) {ro : Int} {σo : MM} (hR : RetI p l e { frames := 2, cells := 0, slots := 0, locals := 41 } s m args below meth c cX4_readDependence 6 D cy ad A Q 1 ro σo)  : ∀ (x2 x3 x4 x5 : Int) (σ : MM) , inR x2 → inR x3 → inR x4 → inR x5 → X4_readDependence_J135 b x2 x3 x4 x5 σ = some (ro, σo) → G p l e { frames := 2, cells := 0, slots := 0, locals := 41 } s m args below meth c 6 D cy ad A Q 135 [(0, .ref (ad 34)), (1, .ref (ad b)), (2, .int (Int32.ofInt x2)), (3, .int (Int32.ofInt x3)), (4, .int (Int32.ofInt x4)), (5, .int (Int32.ofInt x5))] [] σ := by
  intro x2 x3 x4 x5 σ hx2 hx3 hx4 hx5 h
  unfold X4_readDependence_J135 at h
  refine g_aload_n C dX4_readDependence_135 0 rfl ?_
  refine g_dup C dX4_readDependence_136 rfl ?_
  refine gf_X4_2 C in_X4_readDependence_X4 (List.mem_of_getElem? (i := 1) rfl) dX4_readDependence_137 (fun r45 => ?_)
  refine g_iconst C dX4_readDependence_140 ?_
  refine g_iadd C dX4_readDependence_141 ?_
  obtain ⟨g46, h⟩ := z_g h
  refine gp_X4_2 C in_X4_readDependence_X4 (List.mem_of_getElem? (i := 1) rfl) g46 dX4_readDependence_142 ?_
  obtain ⟨σ47, e48, h⟩ := z_l h
  refine g_mem e48 ?_
  refine g_aload_n C dX4_readDependence_145 0 rfl ?_
  refine g_bipush C dX4_readDependence_146 (by decide) ?_
  obtain ⟨⟨r49, σ51⟩, e50, h⟩ := z_b h
  refine g_callI (n := 1) C (fun hM => c_X4_passes l hM (by decide) e50) gX4_readDependence_X4_passes rfl (by decide) ⟨rfl, rfl⟩ ⟨Nat.le_of_ble_eq_true rfl, Nat.le_of_ble_eq_true rfl⟩ rfl ly_c34 (Nat.le_of_ble_eq_true rfl) rfl rfl (rest := []) rfl (Nat.le_of_ble_eq_true rfl) dX4_readDependence_148 (fun q52 => ?_)
  have q52 : r49 = 0 ∨ r49 = 1 := q52
  refine g_if_ne C 156 dX4_readDependence_151 (by decide) (rgT_inR (rt := 1) q52) (fun c53 => ?_) (fun c53 => ?_)
  · have h := z_f c53 h
    refine g_aload_n C dX4_readDependence_156 1 rfl ?_
    refine g_iload_n C dX4_readDependence_157 2 rfl ?_
    refine g_iload_n C dX4_readDependence_158 3 rfl ?_
    refine g_iload C dX4_readDependence_159 4 rfl ?_
    refine g_iload C dX4_readDependence_161 5 rfl ?_
    obtain ⟨σ56, e55, h⟩ := z_b h
    refine g_callV (n := 4) C (fun hM => c_X0_addDependence l hM hb hx2 hx3 hx4 hx5 e55) gX4_readDependence_X0_addDependence rfl (by decide) ⟨rfl, rfl⟩ ⟨Nat.le_of_ble_eq_true rfl, Nat.le_of_ble_eq_true rfl⟩ rfl (ly_L0 hb) (lt_loop hb (j := 0) (by decide)) rfl rfl (rest := []) rfl (Nat.le_of_ble_eq_true rfl) dX4_readDependence_163 ?_
    refine g_iconst C dX4_readDependence_166 ?_
    obtain ⟨rfl, rfl⟩ := z_s2 h
    exact hR _ _ dX4_readDependence_167 (by show _ = _ ∨ _ = _; decide)
  · have h := z_t c53 h
    refine g_iconst C dX4_readDependence_154 ?_
    obtain ⟨rfl, rfl⟩ := z_s2 h
    exact hR _ _ dX4_readDependence_155 (by show _ = _ ∨ _ = _; decide)
set_option maxHeartbeats 4000000 in
set_option maxRecDepth 100000 in
theorem c_X4_readDependence (l : Launch) {σ : MM} (hM : okM σ) {b : Nat} (hb : IsLoop b) {a2 : Int} (ha2 : inR a2) {ro : Int} {σo : MM} (h : X4_readDependence b a2 σ = some (ro, σo)) : CtI l yX4_readDependence wsX4_readDependence { frames := 2, cells := 0, slots := 0, locals := 41 } (fun ad : Nat → Nat => [.ref (ad 34), .ref (ad b), .int (Int32.ofInt a2)]) σ 1 ro σo := by
  unfold X4_readDependence at h
  refine z_ctI (cc := cX4_readDependence) (maxL := 6) (rt := 1) hM (by decide) rfl (fun _ => Nat.le_of_ble_eq_true rfl) (@fun p e s m args below meth c D cy ad A Q C hR => ?_)
  refine g_sub (vs' := [(0, .ref (ad 34)), (1, .ref (ad b)), (2, .int (Int32.ofInt a2))]) [0, 1, 2] rfl ?_
  refine g_aload_n C dX4_readDependence_0 1 rfl ?_
  refine gfn_X0_5 C in_X4_readDependence_X0 hb (List.mem_of_getElem? (i := 35) rfl) dX4_readDependence_1 (fun r1 => ?_)
  refine g_bipush C dX4_readDependence_4 (by decide) ?_
  refine g_icmp_lt C 11 dX4_readDependence_6 (by decide) r1 (by decide) (fun c2 => ?_) (fun c2 => ?_)
  · have h := z_t c2 h
    refine g_aload_n C dX4_readDependence_11 0 rfl ?_
    refine g_dup C dX4_readDependence_12 rfl ?_
    refine gf_X4_2 C in_X4_readDependence_X4 (List.mem_of_getElem? (i := 1) rfl) dX4_readDependence_13 (fun r3 => ?_)
    refine g_iconst C dX4_readDependence_16 ?_
    refine g_iadd C dX4_readDependence_17 ?_
    obtain ⟨g4, h⟩ := z_g h
    refine gp_X4_2 C in_X4_readDependence_X4 (List.mem_of_getElem? (i := 1) rfl) g4 dX4_readDependence_18 ?_
    obtain ⟨σ5, e6, h⟩ := z_l h
    refine g_mem e6 ?_
    refine g_aload_n C dX4_readDependence_21 0 rfl ?_
    obtain ⟨r7, e8, h⟩ := z_b h
    refine g_callI (n := 0) C (fun hM => c_X4_digit l hM  e8) gX4_readDependence_X4_digit rfl (by decide) ⟨rfl, rfl⟩ ⟨Nat.le_of_ble_eq_true rfl, Nat.le_of_ble_eq_true rfl⟩ rfl ly_c34 (Nat.le_of_ble_eq_true rfl) rfl rfl (rest := []) rfl (Nat.le_of_ble_eq_true rfl) dX4_readDependence_22 (fun q9 => ?_)
    have q9 : inR r7 := q9
    refine g_istore_n C dX4_readDependence_25 (by decide) (vs' := [(3, .int (Int32.ofInt r7)), (0, .ref (ad 34)), (1, .ref (ad b)), (2, .int (Int32.ofInt a2))]) rfl ?_
    refine g_aload_n C dX4_readDependence_26 2 rfl ?_
    refine g_iload_n C dX4_readDependence_27 0 rfl ?_
    obtain ⟨r10, e11, h⟩ := z_b h
    refine g_callI (n := 1) C (fun hM => c_X0_hasStatement l hM hb q9 e11) gX4_readDependence_X0_hasStatement rfl (by decide) ⟨rfl, rfl⟩ ⟨Nat.le_of_ble_eq_true rfl, Nat.le_of_ble_eq_true rfl⟩ rfl (ly_L0 hb) (lt_loop hb (j := 0) (by decide)) rfl rfl (rest := []) rfl (Nat.le_of_ble_eq_true rfl) dX4_readDependence_28 (fun q12 => ?_)
    have q12 : r10 = 0 ∨ r10 = 1 := q12
    refine g_if_ne C 36 dX4_readDependence_31 (by decide) (rgT_inR (rt := 1) q12) (fun c13 => ?_) (fun c13 => ?_)
    · have h := z_f c13 h
      refine g_aload_n C dX4_readDependence_36 1 rfl ?_
      refine g_dup C dX4_readDependence_37 rfl ?_
      refine gf_X4_2 C in_X4_readDependence_X4 (List.mem_of_getElem? (i := 1) rfl) dX4_readDependence_38 (fun r14 => ?_)
      refine g_iconst C dX4_readDependence_41 ?_
      refine g_iadd C dX4_readDependence_42 ?_
      obtain ⟨g15, h⟩ := z_g h
      refine gp_X4_2 C in_X4_readDependence_X4 (List.mem_of_getElem? (i := 1) rfl) g15 dX4_readDependence_43 ?_
      obtain ⟨σ16, e17, h⟩ := z_l h
      refine g_mem e17 ?_
      refine g_aload_n C dX4_readDependence_46 1 rfl ?_
      refine g_bipush C dX4_readDependence_47 (by decide) ?_
      obtain ⟨⟨r18, σ20⟩, e19, h⟩ := z_b h
      refine g_callI (n := 1) C (fun hM => c_X4_passes l hM (by decide) e19) gX4_readDependence_X4_passes rfl (by decide) ⟨rfl, rfl⟩ ⟨Nat.le_of_ble_eq_true rfl, Nat.le_of_ble_eq_true rfl⟩ rfl ly_c34 (Nat.le_of_ble_eq_true rfl) rfl rfl (rest := []) rfl (Nat.le_of_ble_eq_true rfl) dX4_readDependence_49 (fun q21 => ?_)
      have q21 : r18 = 0 ∨ r18 = 1 := q21
      refine g_if_ne C 57 dX4_readDependence_52 (by decide) (rgT_inR (rt := 1) q21) (fun c22 => ?_) (fun c22 => ?_)
      · have h := z_f c22 h
        refine g_aload_n C dX4_readDependence_57 1 rfl ?_
        obtain ⟨r23, e24, h⟩ := z_b h
        refine g_callI (n := 0) C (fun hM => c_X4_digit l hM  e24) gX4_readDependence_X4_digit rfl (by decide) ⟨rfl, rfl⟩ ⟨Nat.le_of_ble_eq_true rfl, Nat.le_of_ble_eq_true rfl⟩ rfl ly_c34 (Nat.le_of_ble_eq_true rfl) rfl rfl (rest := []) rfl (Nat.le_of_ble_eq_true rfl) dX4_readDependence_58 (fun q25 => ?_)
        have q25 : inR r23 := q25
        refine g_istore C dX4_readDependence_61 (by decide) (vs' := [(4, .int (Int32.ofInt r23)), (3, .int (Int32.ofInt r7)), (0, .ref (ad 34)), (1, .ref (ad b)), (2, .int (Int32.ofInt a2))]) rfl ?_
        refine g_aload_n C dX4_readDependence_63 3 rfl ?_
        refine g_iload C dX4_readDependence_64 0 rfl ?_
        obtain ⟨r26, e27, h⟩ := z_b h
        refine g_callI (n := 1) C (fun hM => c_X0_hasStatement l hM hb q25 e27) gX4_readDependence_X0_hasStatement rfl (by decide) ⟨rfl, rfl⟩ ⟨Nat.le_of_ble_eq_true rfl, Nat.le_of_ble_eq_true rfl⟩ rfl (ly_L0 hb) (lt_loop hb (j := 0) (by decide)) rfl rfl (rest := []) rfl (Nat.le_of_ble_eq_true rfl) dX4_readDependence_66 (fun q28 => ?_)
        have q28 : r26 = 0 ∨ r26 = 1 := q28
        refine g_if_ne C 74 dX4_readDependence_69 (by decide) (rgT_inR (rt := 1) q28) (fun c29 => ?_) (fun c29 => ?_)
        · have h := z_f c29 h
          refine g_aload_n C dX4_readDependence_74 2 rfl ?_
          refine g_dup C dX4_readDependence_75 rfl ?_
          refine gf_X4_2 C in_X4_readDependence_X4 (List.mem_of_getElem? (i := 1) rfl) dX4_readDependence_76 (fun r30 => ?_)
          refine g_iconst C dX4_readDependence_79 ?_
          refine g_iadd C dX4_readDependence_80 ?_
          obtain ⟨g31, h⟩ := z_g h
          refine gp_X4_2 C in_X4_readDependence_X4 (List.mem_of_getElem? (i := 1) rfl) g31 dX4_readDependence_81 ?_
          obtain ⟨σ32, e33, h⟩ := z_l h
          refine g_mem e33 ?_
          refine g_aload_n C dX4_readDependence_84 2 rfl ?_
          refine g_bipush C dX4_readDependence_85 (by decide) ?_
          obtain ⟨⟨r34, σ36⟩, e35, h⟩ := z_b h
          refine g_callI (n := 1) C (fun hM => c_X4_passes l hM (by decide) e35) gX4_readDependence_X4_passes rfl (by decide) ⟨rfl, rfl⟩ ⟨Nat.le_of_ble_eq_true rfl, Nat.le_of_ble_eq_true rfl⟩ rfl ly_c34 (Nat.le_of_ble_eq_true rfl) rfl rfl (rest := []) rfl (Nat.le_of_ble_eq_true rfl) dX4_readDependence_87 (fun q37 => ?_)
          have q37 : r34 = 0 ∨ r34 = 1 := q37
          refine g_if_ne C 95 dX4_readDependence_90 (by decide) (rgT_inR (rt := 1) q37) (fun c38 => ?_) (fun c38 => ?_)
          · have h := z_f c38 h
            refine g_aload_n C dX4_readDependence_95 2 rfl ?_
            obtain ⟨r39, e40, h⟩ := z_b h
            refine g_callI (n := 0) C (fun hM => c_X4_digit l hM  e40) gX4_readDependence_X4_digit rfl (by decide) ⟨rfl, rfl⟩ ⟨Nat.le_of_ble_eq_true rfl, Nat.le_of_ble_eq_true rfl⟩ rfl ly_c34 (Nat.le_of_ble_eq_true rfl) rfl rfl (rest := []) rfl (Nat.le_of_ble_eq_true rfl) dX4_readDependence_96 (fun q41 => ?_)
            have q41 : inR r39 := q41
            refine g_istore C dX4_readDependence_99 (by decide) (vs' := [(5, .int (Int32.ofInt r39)), (4, .int (Int32.ofInt r23)), (3, .int (Int32.ofInt r7)), (0, .ref (ad 34)), (1, .ref (ad b)), (2, .int (Int32.ofInt a2))]) rfl ?_
            refine g_iload C dX4_readDependence_101 0 rfl ?_
            refine g_if_lt C 112 dX4_readDependence_103 (by decide) q41 (fun c42 => ?_) (fun c42 => ?_)
            · have h := z_t c42 h
              refine g_iconst C dX4_readDependence_112 ?_
              obtain ⟨rfl, rfl⟩ := z_s2 h
              exact hR _ _ dX4_readDependence_113 (by show _ = _ ∨ _ = _; decide)
            · have h := z_f c42 h
              refine g_iload C dX4_readDependence_106 0 rfl ?_
              refine g_iconst C dX4_readDependence_108 ?_
              refine g_icmp_le C 114 dX4_readDependence_109 (by decide) q41 (by decide) (fun c43 => ?_) (fun c43 => ?_)
              · have h := z_f c43 h
                refine g_iload C dX4_readDependence_114 0 rfl ?_
                refine g_if_ne C 135 dX4_readDependence_116 (by decide) q41 (fun c44 => ?_) (fun c44 => ?_)
                · have h := z_f c44 h
                  refine g_sub [3, 4, 5, 2, 1, 0] rfl ?_
                  refine w_X4_readDependence_J135 C hb hR  _ _ _ _ _ ha2 q9 q25 q41 h
                · have h := z_t c44 h
                  refine g_aload_n C dX4_readDependence_119 4 rfl ?_
                  refine g_iload_n C dX4_readDependence_120 2 rfl ?_
                  obtain ⟨r57, e58, h⟩ := z_b h
                  refine g_callI (n := 1) C (fun hM => c_X0_positionOf l hM hb q9 e58) gX4_readDependence_X0_positionOf rfl (by decide) ⟨rfl, rfl⟩ ⟨Nat.le_of_ble_eq_true rfl, Nat.le_of_ble_eq_true rfl⟩ rfl (ly_L0 hb) (lt_loop hb (j := 0) (by decide)) rfl rfl (rest := []) rfl (Nat.le_of_ble_eq_true rfl) dX4_readDependence_121 (fun q59 => ?_)
                  have q59 : inR r57 := q59
                  refine g_aload_n C dX4_readDependence_124 4 rfl ?_
                  refine g_iload C dX4_readDependence_125 1 rfl ?_
                  obtain ⟨r60, e61, h⟩ := z_b h
                  refine g_callI (n := 1) C (fun hM => c_X0_positionOf l hM hb q25 e61) gX4_readDependence_X0_positionOf rfl (by decide) ⟨rfl, rfl⟩ ⟨Nat.le_of_ble_eq_true rfl, Nat.le_of_ble_eq_true rfl⟩ rfl (ly_L0 hb) (lt_loop hb (j := 0) (by decide)) rfl rfl (rest := [.int (Int32.ofInt r57)]) rfl (Nat.le_of_ble_eq_true rfl) dX4_readDependence_127 (fun q62 => ?_)
                  have q62 : inR r60 := q62
                  refine g_icmp_lt C 135 dX4_readDependence_130 (by decide) q59 q62 (fun c63 => ?_) (fun c63 => ?_)
                  · have h := z_t c63 h
                    refine g_sub [3, 4, 5, 2, 1, 0] rfl ?_
                    refine w_X4_readDependence_J135 C hb hR  _ _ _ _ _ ha2 q9 q25 q41 h
                  · have h := z_f c63 h
                    refine g_iconst C dX4_readDependence_133 ?_
                    obtain ⟨rfl, rfl⟩ := z_s2 h
                    exact hR _ _ dX4_readDependence_134 (by show _ = _ ∨ _ = _; decide)
              · have h := z_t c43 h
                refine g_iconst C dX4_readDependence_112 ?_
                obtain ⟨rfl, rfl⟩ := z_s2 h
                exact hR _ _ dX4_readDependence_113 (by show _ = _ ∨ _ = _; decide)
          · have h := z_t c38 h
            refine g_iconst C dX4_readDependence_93 ?_
            obtain ⟨rfl, rfl⟩ := z_s2 h
            exact hR _ _ dX4_readDependence_94 (by show _ = _ ∨ _ = _; decide)
        · have h := z_t c29 h
          refine g_iconst C dX4_readDependence_72 ?_
          obtain ⟨rfl, rfl⟩ := z_s2 h
          exact hR _ _ dX4_readDependence_73 (by show _ = _ ∨ _ = _; decide)
      · have h := z_t c22 h
        refine g_iconst C dX4_readDependence_55 ?_
        obtain ⟨rfl, rfl⟩ := z_s2 h
        exact hR _ _ dX4_readDependence_56 (by show _ = _ ∨ _ = _; decide)
    · have h := z_t c13 h
      refine g_iconst C dX4_readDependence_34 ?_
      obtain ⟨rfl, rfl⟩ := z_s2 h
      exact hR _ _ dX4_readDependence_35 (by show _ = _ ∨ _ = _; decide)
  · have h := z_f c2 h
    refine g_iconst C dX4_readDependence_9 ?_
    obtain ⟨rfl, rfl⟩ := z_s2 h
    exact hR _ _ dX4_readDependence_10 (by show _ = _ ∨ _ = _; decide)
set_option maxHeartbeats 4000000 in
set_option maxRecDepth 100000 in
theorem c_X4_readCommand (l : Launch) {σ : MM} (hM : okM σ) {b : Nat} (hb : IsLoop b) {ro : Int} {σo : MM} (h : X4_readCommand b σ = some (ro, σo)) : CtI l yX4_readCommand wsX4_readCommand { frames := 3, cells := 0, slots := 0, locals := 66 } (fun ad : Nat → Nat => [.ref (ad 34), .ref (ad b)]) σ 1 ro σo := by
  unfold X4_readCommand at h
  refine z_ctI (cc := cX4_readCommand) (maxL := 2) (rt := 1) hM (by decide) rfl (fun _ => Nat.le_of_ble_eq_true rfl) (@fun p e s m args below meth c D cy ad A Q C hR => ?_)
  refine g_sub (vs' := [(0, .ref (ad 34)), (1, .ref (ad b))]) [0, 1] rfl ?_
  refine g_aload_n C dX4_readCommand_0 0 rfl ?_
  obtain ⟨r1, e2, h⟩ := z_b h
  refine g_callI (n := 0) C (fun hM => c_X4_current l hM  e2) gX4_readCommand_X4_current rfl (by decide) ⟨rfl, rfl⟩ ⟨Nat.le_of_ble_eq_true rfl, Nat.le_of_ble_eq_true rfl⟩ rfl ly_c34 (Nat.le_of_ble_eq_true rfl) rfl rfl (rest := []) rfl (Nat.le_of_ble_eq_true rfl) dX4_readCommand_1 (fun q3 => ?_)
  have q3 : 0 ≤ r1 ∧ r1 < 65536 := q3
  by_cases c4 : r1 = 97
  · have h := z_t c4 h
    refine g_lsw C 61 dX4_readCommand_4 (by decide) (rgT_inR (rt := 2) q3) (off := 57) (by rw [c4] <;> rfl) (by decide) ?_
    refine g_aload_n C dX4_readCommand_61 0 rfl ?_
    refine g_aload_n C dX4_readCommand_62 1 rfl ?_
    refine g_iconst C dX4_readCommand_63 ?_
    obtain ⟨⟨r5, σ7⟩, e6, h⟩ := z_b h
    refine g_callI (n := 2) C (fun hM => c_X4_readDependence l hM hb (by decide) e6) gX4_readCommand_X4_readDependence rfl (by decide) ⟨rfl, rfl⟩ ⟨Nat.le_of_ble_eq_true rfl, Nat.le_of_ble_eq_true rfl⟩ rfl ly_c34 (Nat.le_of_ble_eq_true rfl) rfl rfl (rest := []) rfl (Nat.le_of_ble_eq_true rfl) dX4_readCommand_64 (fun q8 => ?_)
    have q8 : r5 = 0 ∨ r5 = 1 := q8
    obtain ⟨rfl, rfl⟩ := z_s2 h
    exact hR _ _ dX4_readCommand_67 q8
  have h := z_f c4 h
  by_cases c9 : r1 = 102
  · have h := z_t c9 h
    refine g_lsw C 54 dX4_readCommand_4 (by decide) (rgT_inR (rt := 2) q3) (off := 50) (by rw [c9] <;> rfl) (by decide) ?_
    refine g_aload_n C dX4_readCommand_54 0 rfl ?_
    refine g_aload_n C dX4_readCommand_55 1 rfl ?_
    refine g_iconst C dX4_readCommand_56 ?_
    obtain ⟨⟨r10, σ12⟩, e11, h⟩ := z_b h
    refine g_callI (n := 2) C (fun hM => c_X4_readDependence l hM hb (by decide) e11) gX4_readCommand_X4_readDependence rfl (by decide) ⟨rfl, rfl⟩ ⟨Nat.le_of_ble_eq_true rfl, Nat.le_of_ble_eq_true rfl⟩ rfl ly_c34 (Nat.le_of_ble_eq_true rfl) rfl rfl (rest := []) rfl (Nat.le_of_ble_eq_true rfl) dX4_readCommand_57 (fun q13 => ?_)
    have q13 : r10 = 0 ∨ r10 = 1 := q13
    obtain ⟨rfl, rfl⟩ := z_s2 h
    exact hR _ _ dX4_readCommand_60 q13
  have h := z_f c9 h
  by_cases c14 : r1 = 111
  · have h := z_t c14 h
    refine g_lsw C 68 dX4_readCommand_4 (by decide) (rgT_inR (rt := 2) q3) (off := 64) (by rw [c14] <;> rfl) (by decide) ?_
    refine g_aload_n C dX4_readCommand_68 0 rfl ?_
    refine g_aload_n C dX4_readCommand_69 1 rfl ?_
    refine g_iconst C dX4_readCommand_70 ?_
    obtain ⟨⟨r15, σ17⟩, e16, h⟩ := z_b h
    refine g_callI (n := 2) C (fun hM => c_X4_readDependence l hM hb (by decide) e16) gX4_readCommand_X4_readDependence rfl (by decide) ⟨rfl, rfl⟩ ⟨Nat.le_of_ble_eq_true rfl, Nat.le_of_ble_eq_true rfl⟩ rfl ly_c34 (Nat.le_of_ble_eq_true rfl) rfl rfl (rest := []) rfl (Nat.le_of_ble_eq_true rfl) dX4_readCommand_71 (fun q18 => ?_)
    have q18 : r15 = 0 ∨ r15 = 1 := q18
    obtain ⟨rfl, rfl⟩ := z_s2 h
    exact hR _ _ dX4_readCommand_74 q18
  have h := z_f c14 h
  by_cases c19 : r1 = 115
  · have h := z_t c19 h
    refine g_lsw C 48 dX4_readCommand_4 (by decide) (rgT_inR (rt := 2) q3) (off := 44) (by rw [c19] <;> rfl) (by decide) ?_
    refine g_aload_n C dX4_readCommand_48 0 rfl ?_
    refine g_aload_n C dX4_readCommand_49 1 rfl ?_
    obtain ⟨⟨r20, σ22⟩, e21, h⟩ := z_b h
    refine g_callI (n := 1) C (fun hM => c_X4_readStatement l hM hb e21) gX4_readCommand_X4_readStatement rfl (by decide) ⟨rfl, rfl⟩ ⟨Nat.le_of_ble_eq_true rfl, Nat.le_of_ble_eq_true rfl⟩ rfl ly_c34 (Nat.le_of_ble_eq_true rfl) rfl rfl (rest := []) rfl (Nat.le_of_ble_eq_true rfl) dX4_readCommand_50 (fun q23 => ?_)
    have q23 : r20 = 0 ∨ r20 = 1 := q23
    obtain ⟨rfl, rfl⟩ := z_s2 h
    exact hR _ _ dX4_readCommand_53 q23
  have h := z_f c19 h
  refine g_lsw C 75 dX4_readCommand_4 (by decide) (rgT_inR (rt := 2) q3) (off := 71) (by show Op.lookupswitch.offset (_ :: _ :: _ :: _ :: []) _ _ = _; rw [Op.lookupswitch.offset_cons, if_neg (fun q => c4 q.symm), Op.lookupswitch.offset_cons, if_neg (fun q => c9 q.symm), Op.lookupswitch.offset_cons, if_neg (fun q => c14 q.symm), Op.lookupswitch.offset_cons, if_neg (fun q => c19 q.symm), Op.lookupswitch.offset_nil]) (by decide) ?_
  refine g_iconst C dX4_readCommand_75 ?_
  obtain ⟨rfl, rfl⟩ := z_s2 h
  exact hR _ _ dX4_readCommand_76 (by show _ = _ ∨ _ = _; decide)
theorem in_X4_readInto_X4 : ∀ w ∈ u_ws RX4 TX4 3, w ∈ wsX4_readInto := fun _ h => List.mem_cons_of_mem _ (List.mem_append_left _ (List.mem_append_right _ h))
set_option maxHeartbeats 4000000 in
set_option maxRecDepth 100000 in
theorem w_X4_readInto_L7 {p : Program} {l : Launch} {e : Env} {s : State} {m : MethodId} {args : Array Value} {below : List Frame} {meth : Method} {c : Code} {D : va_G} {cy : Nat → ClassId} {ad : Nat → Nat} {A : Nat → Prop} {Q : State → Prop} (C : Cx p s m args meth c cX4_readInto RX4 3 wsX4_readInto D cy A) {b : Nat} (hb : IsLoop b) {k42 : MM → Option (Int × MM)} {ro : Int} {σo : MM} (hR : RetI p l e { frames := 4, cells := 0, slots := 0, locals := 87 } s m args below meth c cX4_readInto 3 D cy ad A Q 0 ro σo) (hk42 : ∀  (σ : MM), k42 σ = some (ro, σo) → G p l e { frames := 4, cells := 0, slots := 0, locals := 87 } s m args below meth c 3 D cy ad A Q 42 [] [] σ) : ∀ (n : Nat) (x2 : Int) (σ : MM) , inR x2 → X4_readInto_L7 b k42 n x2 σ = some (ro, σo) → G p l e { frames := 4, cells := 0, slots := 0, locals := 87 } s m args below meth c 3 D cy ad A Q 7 [(0, .ref (ad 34)), (1, .ref (ad b)), (2, .int (Int32.ofInt x2))] [] σ := by
  intro n
  induction n with
  | zero =>
    intro x2 σ hx2 h
    cases h
  | succ n ih =>
    intro x2 σ hx2 h
    rw [X4_readInto_L7] at h
    refine g_iload_n C dX4_readInto_7 2 rfl ?_
    refine g_bipush C dX4_readInto_8 (by decide) ?_
    refine g_icmp_gt C 42 dX4_readInto_10 (by decide) hx2 (by decide) (fun c3 => ?_) (fun c3 => ?_)
    · have h := z_t c3 h
      refine g_sub [] rfl ?_
      exact hk42 _ h
    · have h := z_f c3 h
      refine g_aload_n C dX4_readInto_13 0 rfl ?_
      refine g_aload_n C dX4_readInto_14 1 rfl ?_
      obtain ⟨⟨r4, σ6⟩, e5, h⟩ := z_b h
      refine g_callI (n := 1) C (fun hM => c_X4_readCommand l hM hb e5) gX4_readInto_X4_readCommand rfl (by decide) ⟨rfl, rfl⟩ ⟨Nat.le_of_ble_eq_true rfl, Nat.le_of_ble_eq_true rfl⟩ rfl ly_c34 (Nat.le_of_ble_eq_true rfl) rfl rfl (rest := []) rfl (Nat.le_of_ble_eq_true rfl) dX4_readInto_15 (fun q7 => ?_)
      have q7 : r4 = 0 ∨ r4 = 1 := q7
      refine g_if_ne C 23 dX4_readInto_18 (by decide) (rgT_inR (rt := 1) q7) (fun c8 => ?_) (fun c8 => ?_)
      · have h := z_f c8 h
        refine g_aload_n C dX4_readInto_23 0 rfl ?_
        refine gf_X4_2 C in_X4_readInto_X4 (List.mem_of_getElem? (i := 1) rfl) dX4_readInto_24 (fun r9 => ?_)
        refine g_aload_n C dX4_readInto_27 0 rfl ?_
        refine gf_X4_1 C in_X4_readInto_X4 (List.mem_of_getElem? (i := 2) rfl) dX4_readInto_28 (fun r10 => ?_)
        refine g_icmp_lt C 36 dX4_readInto_31 (by decide) r9 r10 (fun c11 => ?_) (fun c11 => ?_)
        · have h := z_t c11 h
          refine g_iinc C dX4_readInto_36 (j := 2) rfl (by decide) (vs' := [(2, .int (Int32.ofInt (x2 + 1))), (0, .ref (ad 34)), (1, .ref (ad b))]) rfl ?_
          refine g_goto C 7 dX4_readInto_39 (by decide) ?_
          refine g_sub [1, 2, 0] rfl ?_
          exact ih _ _ (by omega) h
        · have h := z_f c11 h
          refine g_iload_n C dX4_readInto_34 2 rfl ?_
          obtain ⟨rfl, rfl⟩ := z_s2 h
          exact hR _ _ dX4_readInto_35 hx2
      · have h := z_t c8 h
        refine g_iconst C dX4_readInto_21 ?_
        obtain ⟨rfl, rfl⟩ := z_s2 h
        exact hR _ _ dX4_readInto_22 (by show inR _; decide)
set_option maxHeartbeats 4000000 in
set_option maxRecDepth 100000 in
theorem c_X4_readInto (l : Launch) {σ : MM} (hM : okM σ) {b : Nat} (hb : IsLoop b) {ro : Int} {σo : MM} (h : X4_readInto b σ = some (ro, σo)) : CtI l yX4_readInto wsX4_readInto { frames := 4, cells := 0, slots := 0, locals := 87 } (fun ad : Nat → Nat => [.ref (ad 34), .ref (ad b)]) σ 0 ro σo := by
  unfold X4_readInto at h
  refine z_ctI (cc := cX4_readInto) (maxL := 3) (rt := 0) hM (by decide) rfl (fun _ => Nat.le_of_ble_eq_true rfl) (@fun p e s m args below meth c D cy ad A Q C hR => ?_)
  refine g_sub (vs' := [(0, .ref (ad 34)), (1, .ref (ad b))]) [0, 1] rfl ?_
  refine g_aload_n C dX4_readInto_0 0 rfl ?_
  refine g_iconst C dX4_readInto_1 ?_
  refine gp_X4_2 C in_X4_readInto_X4 (List.mem_of_getElem? (i := 1) rfl) (by decide) dX4_readInto_2 ?_
  obtain ⟨σ1, e2, h⟩ := z_l h
  refine g_mem e2 ?_
  refine g_iconst C dX4_readInto_5 ?_
  refine g_istore_n C dX4_readInto_6 (by decide) (vs' := [(2, .int (Int32.ofInt 1)), (0, .ref (ad 34)), (1, .ref (ad b))]) rfl ?_
  refine g_sub [1, 2, 0] rfl ?_
  refine w_X4_readInto_L7 C hb hR ?_ _ _ _ (by decide) h
  · intro σ12 h
    refine g_iconst C dX4_readInto_42 ?_
    obtain ⟨rfl, rfl⟩ := z_s2 h
    exact hR _ _ dX4_readInto_43 (by show inR _; decide)
