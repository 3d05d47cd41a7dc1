theorem in_X0_copyDependence_X0 : ∀ w ∈ u_ws RX0 TX0 12, w ∈ wsX0_copyDependence := fun _ h => List.mem_cons_of_mem _ (List.mem_append_right _ h)
set_option maxHeartbeats 4000000 in
set_option maxRecDepth 100000 in
theorem c_X0_copyDependence (l : Launch) {σ : MM} (hM : okM σ) {b : Nat} (hb : IsLoop b) {b2 : Nat} (hb2 : IsLoop b2) {a2 : Int} (ha2 : inR a2) {a3 : Int} (ha3 : inR a3) {σo : MM} (h : X0_copyDependence b b2 a2 a3 σ = some σo) : CtV l yX0_copyDependence wsX0_copyDependence { frames := 0, cells := 0, slots := 0, locals := 0 } (fun ad : Nat → Nat => [.ref (ad b), .ref (ad b2), .int (Int32.ofInt a2), .int (Int32.ofInt a3)]) σ σo := by
  unfold X0_copyDependence at h
  refine z_ctV (cc := cX0_copyDependence) (maxL := 4) hM (by decide) rfl (fun _ => Nat.le_of_ble_eq_true rfl) (@fun p e s m args below meth c D cy ad A Q C hR => ?_)
  refine g_sub (vs' := [(0, .ref (ad b)), (1, .ref (ad b2)), (2, .int (Int32.ofInt a2)), (3, .int (Int32.ofInt a3))]) [0, 1, 2, 3] rfl ?_
  refine g_iload_n C dX0_copyDependence_0 2 rfl ?_
  refine g_if_lt C 80 dX0_copyDependence_1 (by decide) ha2 (fun c1 => ?_) (fun c1 => ?_)
  · have h := z_t c1 h
    obtain rfl := z_s1 h
    exact hR _ _ dX0_copyDependence_80
  · have h := z_f c1 h
    refine g_iload_n C dX0_copyDependence_4 2 rfl ?_
    refine g_bipush C dX0_copyDependence_5 (by decide) ?_
    refine g_icmp_ge C 80 dX0_copyDependence_7 (by decide) ha2 (by decide) (fun c2 => ?_) (fun c2 => ?_)
    · have h := z_f c2 h
      obtain rfl := z_s1 h
      exact hR _ _ dX0_copyDependence_80
    · have h := z_t c2 h
      refine g_iload_n C dX0_copyDependence_10 3 rfl ?_
      refine g_if_lt C 80 dX0_copyDependence_11 (by decide) ha3 (fun c3 => ?_) (fun c3 => ?_)
      · have h := z_t c3 h
        obtain rfl := z_s1 h
        exact hR _ _ dX0_copyDependence_80
      · have h := z_f c3 h
        refine g_iload_n C dX0_copyDependence_14 3 rfl ?_
        refine g_bipush C dX0_copyDependence_15 (by decide) ?_
        refine g_icmp_ge C 80 dX0_copyDependence_17 (by decide) ha3 (by decide) (fun c4 => ?_) (fun c4 => ?_)
        · have h := z_f c4 h
          obtain rfl := z_s1 h
          exact hR _ _ dX0_copyDependence_80
        · have h := z_t c4 h
          refine g_aload_n C dX0_copyDependence_20 0 rfl ?_
          refine gf_X0_6 C in_X0_copyDependence_X0 hb (List.mem_of_getElem? (i := 1) rfl) dX0_copyDependence_21 ?_
          refine g_iload_n C dX0_copyDependence_24 3 rfl ?_
          refine g_aload_n C dX0_copyDependence_25 1 rfl ?_
          refine gf_X0_6 C in_X0_copyDependence_X0 hb2 (List.mem_of_getElem? (i := 1) rfl) dX0_copyDependence_26 ?_
          refine g_iload_n C dX0_copyDependence_29 2 rfl ?_
          refine g_iald C (ly_L5 hb2) (lt_loop hb2 (j := 5) (by decide)) (by decide) (by omega) dX0_copyDependence_30 (fun r5 => ?_)
          refine g_iast C (ly_L5 hb) (lt_loop hb (j := 5) (by decide)) (by decide) (by omega) r5 dX0_copyDependence_31 ?_
          obtain ⟨σ6, e7, h⟩ := z_l h
          refine g_mem e7 ?_
          refine g_aload_n C dX0_copyDependence_32 0 rfl ?_
          refine gf_X0_7 C in_X0_copyDependence_X0 hb (List.mem_of_getElem? (i := 2) rfl) dX0_copyDependence_33 ?_
          refine g_iload_n C dX0_copyDependence_36 3 rfl ?_
          refine g_aload_n C dX0_copyDependence_37 1 rfl ?_
          refine gf_X0_7 C in_X0_copyDependence_X0 hb2 (List.mem_of_getElem? (i := 2) rfl) dX0_copyDependence_38 ?_
          refine g_iload_n C dX0_copyDependence_41 2 rfl ?_
          refine g_iald C (ly_L6 hb2) (lt_loop hb2 (j := 6) (by decide)) (by decide) (by omega) dX0_copyDependence_42 (fun r8 => ?_)
          refine g_iast C (ly_L6 hb) (lt_loop hb (j := 6) (by decide)) (by decide) (by omega) r8 dX0_copyDependence_43 ?_
          obtain ⟨σ9, e10, h⟩ := z_l h
          refine g_mem e10 ?_
          refine g_aload_n C dX0_copyDependence_44 0 rfl ?_
          refine gf_X0_8 C in_X0_copyDependence_X0 hb (List.mem_of_getElem? (i := 3) rfl) dX0_copyDependence_45 ?_
          refine g_iload_n C dX0_copyDependence_48 3 rfl ?_
          refine g_aload_n C dX0_copyDependence_49 1 rfl ?_
          refine gf_X0_8 C in_X0_copyDependence_X0 hb2 (List.mem_of_getElem? (i := 3) rfl) dX0_copyDependence_50 ?_
          refine g_iload_n C dX0_copyDependence_53 2 rfl ?_
          refine g_iald C (ly_L7 hb2) (lt_loop hb2 (j := 7) (by decide)) (by decide) (by omega) dX0_copyDependence_54 (fun r11 => ?_)
          refine g_iast C (ly_L7 hb) (lt_loop hb (j := 7) (by decide)) (by decide) (by omega) r11 dX0_copyDependence_55 ?_
          obtain ⟨σ12, e13, h⟩ := z_l h
          refine g_mem e13 ?_
          refine g_aload_n C dX0_copyDependence_56 0 rfl ?_
          refine gf_X0_9 C in_X0_copyDependence_X0 hb (List.mem_of_getElem? (i := 4) rfl) dX0_copyDependence_57 ?_
          refine g_iload_n C dX0_copyDependence_60 3 rfl ?_
          refine g_aload_n C dX0_copyDependence_61 1 rfl ?_
          refine gf_X0_9 C in_X0_copyDependence_X0 hb2 (List.mem_of_getElem? (i := 4) rfl) dX0_copyDependence_62 ?_
          refine g_iload_n C dX0_copyDependence_65 2 rfl ?_
          refine g_iald C (ly_L8 hb2) (lt_loop hb2 (j := 8) (by decide)) (by decide) (by omega) dX0_copyDependence_66 (fun r14 => ?_)
          refine g_iast C (ly_L8 hb) (lt_loop hb (j := 8) (by decide)) (by decide) (by omega) r14 dX0_copyDependence_67 ?_
          obtain ⟨σ15, e16, h⟩ := z_l h
          refine g_mem e16 ?_
          refine g_aload_n C dX0_copyDependence_68 0 rfl ?_
          refine gf_X0_10 C in_X0_copyDependence_X0 hb (List.mem_of_getElem? (i := 5) rfl) dX0_copyDependence_69 ?_
          refine g_iload_n C dX0_copyDependence_72 3 rfl ?_
          refine g_aload_n C dX0_copyDependence_73 1 rfl ?_
          refine gf_X0_10 C in_X0_copyDependence_X0 hb2 (List.mem_of_getElem? (i := 5) rfl) dX0_copyDependence_74 ?_
          refine g_iload_n C dX0_copyDependence_77 2 rfl ?_
          refine g_zald C (ly_L9 hb2) (lt_loop hb2 (j := 9) (by decide)) (by decide) (by omega) dX0_copyDependence_78 (fun r17 => ?_)
          obtain ⟨g18, h⟩ := z_g h
          refine g_zast C (ly_L9 hb) (lt_loop hb (j := 9) (by decide)) (by decide) (by omega) g18 dX0_copyDependence_79 ?_
          obtain ⟨σ19, e20, h⟩ := z_l h
          refine g_mem e20 ?_
          obtain rfl := z_s1 h
          exact hR _ _ dX0_copyDependence_80
theorem in_X0_copyFrom_X0 : ∀ w ∈ u_ws RX0 TX0 12, w ∈ wsX0_copyFrom := fun _ h => List.mem_cons_of_mem _ (List.mem_append_right _ h)
set_option maxHeartbeats 4000000 in
set_option maxRecDepth 100000 in
theorem w_X0_copyFrom_L10 {p : Program} {l : Launch} {e : Env} {s : State} {m : MethodId} {args : Array Value} {below : List Frame} {meth : Method} {c : Code} {D : va_G} {cy : Nat → ClassId} {ad : Nat → Nat} {A : Nat → Prop} {Q : State → Prop} (C : Cx p s m args meth c cX0_copyFrom RX0 3 wsX0_copyFrom D cy A) {b : Nat} (hb : IsLoop b) {b2 : Nat} (hb2 : IsLoop b2) {k58 : MM → Option MM} {σo : MM} (hR : RetV p l e { frames := 1, cells := 0, slots := 0, locals := 23 } s m args below meth c cX0_copyFrom 3 D cy ad A Q σo) (hk58 : ∀  (σ : MM), k58 σ = some σo → G p l e { frames := 1, cells := 0, slots := 0, locals := 23 } s m args below meth c 3 D cy ad A Q 58 [(0, .ref (ad b)), (1, .ref (ad b2))] [] σ) : ∀ (n : Nat) (x2 : Int) (σ : MM) , inR x2 → X0_copyFrom_L10 b b2 k58 n x2 σ = some σo → G p l e { frames := 1, cells := 0, slots := 0, locals := 23 } s m args below meth c 3 D cy ad A Q 10 [(0, .ref (ad b)), (1, .ref (ad b2)), (2, .int (Int32.ofInt x2))] [] σ := by
  intro n
  induction n with
  | zero =>
    intro x2 σ hx2 h
    cases h
  | succ n ih =>
    intro x2 σ hx2 h
    rw [X0_copyFrom_L10] at h
    refine g_iload_n C dX0_copyFrom_10 2 rfl ?_
    refine g_bipush C dX0_copyFrom_11 (by decide) ?_
    refine g_icmp_ge C 58 dX0_copyFrom_13 (by decide) hx2 (by decide) (fun c4 => ?_) (fun c4 => ?_)
    · have h := z_f c4 h
      refine g_sub [0, 1] rfl ?_
      exact hk58 _ h
    · have h := z_t c4 h
      refine g_aload_n C dX0_copyFrom_16 0 rfl ?_
      refine gf_X0_1 C in_X0_copyFrom_X0 hb (List.mem_of_getElem? (i := 2) rfl) dX0_copyFrom_17 ?_
      refine g_iload_n C dX0_copyFrom_20 2 rfl ?_
      refine g_aload_n C dX0_copyFrom_21 1 rfl ?_
      refine gf_X0_1 C in_X0_copyFrom_X0 hb2 (List.mem_of_getElem? (i := 2) rfl) dX0_copyFrom_22 ?_
      refine g_iload_n C dX0_copyFrom_25 2 rfl ?_
      obtain ⟨g5, h⟩ := z_g h
      refine g_iald C (ly_L1 hb2) (lt_loop hb2 (j := 1) (by decide)) (by decide) g5 dX0_copyFrom_26 (fun r6 => ?_)
      refine g_iast C (ly_L1 hb) (lt_loop hb (j := 1) (by decide)) (by decide) (by omega) r6 dX0_copyFrom_27 ?_
      obtain ⟨σ7, e8, h⟩ := z_l h
      refine g_mem e8 ?_
      refine g_aload_n C dX0_copyFrom_28 0 rfl ?_
      refine gf_X0_2 C in_X0_copyFrom_X0 hb (List.mem_of_getElem? (i := 3) rfl) dX0_copyFrom_29 ?_
      refine g_iload_n C dX0_copyFrom_32 2 rfl ?_
      refine g_aload_n C dX0_copyFrom_33 1 rfl ?_
      refine gf_X0_2 C in_X0_copyFrom_X0 hb2 (List.mem_of_getElem? (i := 3) rfl) dX0_copyFrom_34 ?_
      refine g_iload_n C dX0_copyFrom_37 2 rfl ?_
      refine g_iald C (ly_L2 hb2) (lt_loop hb2 (j := 2) (by decide)) (by decide) (by omega) dX0_copyFrom_38 (fun r9 => ?_)
      refine g_iast C (ly_L2 hb) (lt_loop hb (j := 2) (by decide)) (by decide) (by omega) r9 dX0_copyFrom_39 ?_
      obtain ⟨σ10, e11, h⟩ := z_l h
      refine g_mem e11 ?_
      refine g_aload_n C dX0_copyFrom_40 0 rfl ?_
      refine gf_X0_3 C in_X0_copyFrom_X0 hb (List.mem_of_getElem? (i := 4) rfl) dX0_copyFrom_41 ?_
      refine g_iload_n C dX0_copyFrom_44 2 rfl ?_
      refine g_aload_n C dX0_copyFrom_45 1 rfl ?_
      refine gf_X0_3 C in_X0_copyFrom_X0 hb2 (List.mem_of_getElem? (i := 4) rfl) dX0_copyFrom_46 ?_
      refine g_iload_n C dX0_copyFrom_49 2 rfl ?_
      refine g_iald C (ly_L3 hb2) (lt_loop hb2 (j := 3) (by decide)) (by decide) (by omega) dX0_copyFrom_50 (fun r12 => ?_)
      refine g_iast C (ly_L3 hb) (lt_loop hb (j := 3) (by decide)) (by decide) (by omega) r12 dX0_copyFrom_51 ?_
      obtain ⟨σ13, e14, h⟩ := z_l h
      refine g_mem e14 ?_
      refine g_iinc C dX0_copyFrom_52 (j := 2) rfl (by decide) (vs' := [(2, .int (Int32.ofInt (x2 + 1))), (0, .ref (ad b)), (1, .ref (ad b2))]) rfl ?_
      refine g_goto C 10 dX0_copyFrom_55 (by decide) ?_
      refine g_sub [1, 2, 0] rfl ?_
      exact ih _ _ (by omega) h
set_option maxHeartbeats 4000000 in
set_option maxRecDepth 100000 in
theorem w_X0_copyFrom_L68 {p : Program} {l : Launch} {e : Env} {s : State} {m : MethodId} {args : Array Value} {below : List Frame} {meth : Method} {c : Code} {D : va_G} {cy : Nat → ClassId} {ad : Nat → Nat} {A : Nat → Prop} {Q : State → Prop} (C : Cx p s m args meth c cX0_copyFrom RX0 3 wsX0_copyFrom D cy A) {b : Nat} (hb : IsLoop b) {b2 : Nat} (hb2 : IsLoop b2) {k87 : MM → Option MM} {σo : MM} (hR : RetV p l e { frames := 1, cells := 0, slots := 0, locals := 23 } s m args below meth c cX0_copyFrom 3 D cy ad A Q σo) (hk87 : ∀  (σ : MM), k87 σ = some σo → G p l e { frames := 1, cells := 0, slots := 0, locals := 23 } s m args below meth c 3 D cy ad A Q 87 [(0, .ref (ad b)), (1, .ref (ad b2))] [] σ) : ∀ (n : Nat) (x2 : Int) (σ : MM) , inR x2 → X0_copyFrom_L68 b b2 k87 n x2 σ = some σo → G p l e { frames := 1, cells := 0, slots := 0, locals := 23 } s m args below meth c 3 D cy ad A Q 68 [(0, .ref (ad b)), (1, .ref (ad b2)), (2, .int (Int32.ofInt x2))] [] σ := by
  intro n
  induction n with
  | zero =>
    intro x2 σ hx2 h
    cases h
  | succ n ih =>
    intro x2 σ hx2 h
    rw [X0_copyFrom_L68] at h
    refine g_iload_n C dX0_copyFrom_68 2 rfl ?_
    refine g_bipush C dX0_copyFrom_69 (by decide) ?_
    refine g_icmp_ge C 87 dX0_copyFrom_71 (by decide) hx2 (by decide) (fun c19 => ?_) (fun c19 => ?_)
    · have h := z_f c19 h
      refine g_sub [0, 1] rfl ?_
      exact hk87 _ h
    · have h := z_t c19 h
      refine g_aload_n C dX0_copyFrom_74 0 rfl ?_
      refine g_aload_n C dX0_copyFrom_75 1 rfl ?_
      refine g_iload_n C dX0_copyFrom_76 2 rfl ?_
      refine g_iload_n C dX0_copyFrom_77 2 rfl ?_
      obtain ⟨σ22, e21, h⟩ := z_b h
      refine g_callV (n := 3) C (fun hM => c_X0_copyDependence l hM hb hb2 hx2 hx2 e21) gX0_copyFrom_X0_copyDependence rfl (by decide) ⟨rfl, rfl⟩ ⟨Nat.le_of_ble_eq_true rfl, Nat.le_of_ble_eq_true rfl⟩ rfl (ly_L0 hb) (lt_loop hb (j := 0) (by decide)) rfl rfl (rest := []) rfl (Nat.le_of_ble_eq_true rfl) dX0_copyFrom_78 ?_
      refine g_iinc C dX0_copyFrom_81 (j := 2) rfl (by decide) (vs' := [(2, .int (Int32.ofInt (x2 + 1))), (0, .ref (ad b)), (1, .ref (ad b2))]) rfl ?_
      refine g_goto C 68 dX0_copyFrom_84 (by decide) ?_
      refine g_sub [1, 2, 0] rfl ?_
      exact ih _ _ (by omega) h
set_option maxHeartbeats 4000000 in
set_option maxRecDepth 100000 in
theorem w_X0_copyFrom_L89 {p : Program} {l : Launch} {e : Env} {s : State} {m : MethodId} {args : Array Value} {below : List Frame} {meth : Method} {c : Code} {D : va_G} {cy : Nat → ClassId} {ad : Nat → Nat} {A : Nat → Prop} {Q : State → Prop} (C : Cx p s m args meth c cX0_copyFrom RX0 3 wsX0_copyFrom D cy A) {b : Nat} (hb : IsLoop b) {b2 : Nat} (hb2 : IsLoop b2) {k112 : MM → Option MM} {σo : MM} (hR : RetV p l e { frames := 1, cells := 0, slots := 0, locals := 23 } s m args below meth c cX0_copyFrom 3 D cy ad A Q σo) (hk112 : ∀  (σ : MM), k112 σ = some σo → G p l e { frames := 1, cells := 0, slots := 0, locals := 23 } s m args below meth c 3 D cy ad A Q 112 [] [] σ) : ∀ (n : Nat) (x2 : Int) (σ : MM) , inR x2 → X0_copyFrom_L89 b b2 k112 n x2 σ = some σo → G p l e { frames := 1, cells := 0, slots := 0, locals := 23 } s m args below meth c 3 D cy ad A Q 89 [(0, .ref (ad b)), (1, .ref (ad b2)), (2, .int (Int32.ofInt x2))] [] σ := by
  intro n
  induction n with
  | zero =>
    intro x2 σ hx2 h
    cases h
  | succ n ih =>
    intro x2 σ hx2 h
    rw [X0_copyFrom_L89] at h
    refine g_iload_n C dX0_copyFrom_89 2 rfl ?_
    refine g_iconst C dX0_copyFrom_90 ?_
    refine g_icmp_ge C 112 dX0_copyFrom_91 (by decide) hx2 (by decide) (fun c24 => ?_) (fun c24 => ?_)
    · have h := z_f c24 h
      refine g_sub [] rfl ?_
      exact hk112 _ h
    · have h := z_t c24 h
      refine g_aload_n C dX0_copyFrom_94 0 rfl ?_
      refine gf_X0_11 C in_X0_copyFrom_X0 hb (List.mem_of_getElem? (i := 6) rfl) dX0_copyFrom_95 ?_
      refine g_iload_n C dX0_copyFrom_98 2 rfl ?_
      refine g_aload_n C dX0_copyFrom_99 1 rfl ?_
      refine gf_X0_11 C in_X0_copyFrom_X0 hb2 (List.mem_of_getElem? (i := 6) rfl) dX0_copyFrom_100 ?_
      refine g_iload_n C dX0_copyFrom_103 2 rfl ?_
      obtain ⟨g25, h⟩ := z_g h
      refine g_iald C (ly_L10 hb2) (lt_loop hb2 (j := 10) (by decide)) (by decide) g25 dX0_copyFrom_104 (fun r26 => ?_)
      refine g_iast C (ly_L10 hb) (lt_loop hb (j := 10) (by decide)) (by decide) (by omega) r26 dX0_copyFrom_105 ?_
      obtain ⟨σ27, e28, h⟩ := z_l h
      refine g_mem e28 ?_
      refine g_iinc C dX0_copyFrom_106 (j := 2) rfl (by decide) (vs' := [(2, .int (Int32.ofInt (x2 + 1))), (0, .ref (ad b)), (1, .ref (ad b2))]) rfl ?_
      refine g_goto C 89 dX0_copyFrom_109 (by decide) ?_
      refine g_sub [1, 2, 0] rfl ?_
      exact ih _ _ (by omega) h
set_option maxHeartbeats 4000000 in
set_option maxRecDepth 100000 in
theorem c_X0_copyFrom (l : Launch) {σ : MM} (hM : okM σ) {b : Nat} (hb : IsLoop b) {b2 : Nat} (hb2 : IsLoop b2) {σo : MM} (h : X0_copyFrom b b2 σ = some σo) : CtV l yX0_copyFrom wsX0_copyFrom { frames := 1, cells := 0, slots := 0, locals := 23 } (fun ad : Nat → Nat => [.ref (ad b), .ref (ad b2)]) σ σo := by
  unfold X0_copyFrom at h
  refine z_ctV (cc := cX0_copyFrom) (maxL := 3) hM (by decide) rfl (fun _ => Nat.le_of_ble_eq_true rfl) (@fun p e s m args below meth c D cy ad A Q C hR => ?_)
  refine g_sub (vs' := [(0, .ref (ad b)), (1, .ref (ad b2))]) [0, 1] rfl ?_
  refine g_aload_n C dX0_copyFrom_0 0 rfl ?_
  refine g_aload_n C dX0_copyFrom_1 1 rfl ?_
  refine gf_X0_0 C in_X0_copyFrom_X0 hb2 (List.mem_of_getElem? (i := 1) rfl) dX0_copyFrom_2 (fun r1 => ?_)
  refine gp_X0_0 C in_X0_copyFrom_X0 hb (List.mem_of_getElem? (i := 1) rfl) r1 dX0_copyFrom_5 ?_
  obtain ⟨σ2, e3, h⟩ := z_l h
  refine g_mem e3 ?_
  refine g_iconst C dX0_copyFrom_8 ?_
  refine g_istore_n C dX0_copyFrom_9 (by decide) (vs' := [(2, .int (Int32.ofInt 0)), (0, .ref (ad b)), (1, .ref (ad b2))]) rfl ?_
  refine g_sub [1, 2, 0] rfl ?_
  refine w_X0_copyFrom_L10 C hb hb2 hR ?_ _ _ _ (by decide) h
  · intro σ15 h
    refine g_aload_n C dX0_copyFrom_58 0 rfl ?_
    refine g_aload_n C dX0_copyFrom_59 1 rfl ?_
    refine gf_X0_5 C in_X0_copyFrom_X0 hb2 (List.mem_of_getElem? (i := 5) rfl) dX0_copyFrom_60 (fun r16 => ?_)
    refine gp_X0_5 C in_X0_copyFrom_X0 hb (List.mem_of_getElem? (i := 5) rfl) r16 dX0_copyFrom_63 ?_
    obtain ⟨σ17, e18, h⟩ := z_l h
    refine g_mem e18 ?_
    refine g_iconst C dX0_copyFrom_66 ?_
    refine g_istore_n C dX0_copyFrom_67 (by decide) (vs' := [(2, .int (Int32.ofInt 0)), (0, .ref (ad b)), (1, .ref (ad b2))]) rfl ?_
    refine g_sub [1, 2, 0] rfl ?_
    refine w_X0_copyFrom_L68 C hb hb2 hR ?_ _ _ _ (by decide) h
    · intro σ23 h
      refine g_iconst C dX0_copyFrom_87 ?_
      refine g_istore_n C dX0_copyFrom_88 (by decide) (vs' := [(2, .int (Int32.ofInt 0)), (0, .ref (ad b)), (1, .ref (ad b2))]) rfl ?_
      refine g_sub [1, 2, 0] rfl ?_
      refine w_X0_copyFrom_L89 C hb hb2 hR ?_ _ _ _ (by decide) h
      · intro σ29 h
        obtain rfl := z_s1 h
        exact hR _ _ dX0_copyFrom_112
theorem in_X0_hasStatement_X0 : ∀ w ∈ u_ws RX0 TX0 12, w ∈ wsX0_hasStatement := fun _ h => List.mem_cons_of_mem _ (List.mem_append_right _ h)
set_option maxHeartbeats 4000000 in
set_option maxRecDepth 100000 in
theorem c_X0_hasStatement (l : Launch) {σ : MM} (hM : okM σ) {b : Nat} (hb : IsLoop b) {a1 : Int} (ha1 : inR a1) {ro : Int} (h : X0_hasStatement b a1 σ = some ro) : CtI l yX0_hasStatement wsX0_hasStatement { frames := 0, cells := 0, slots := 0, locals := 0 } (fun ad : Nat → Nat => [.ref (ad b), .int (Int32.ofInt a1)]) σ 1 ro σ := by
  unfold X0_hasStatement at h
  refine z_ctI (cc := cX0_hasStatement) (maxL := 2) (rt := 1) hM (by decide) rfl (fun _ => Nat.le_of_ble_eq_true rfl) (@fun p e s m args below meth c D cy ad A Q C hR => ?_)
  refine g_sub (vs' := [(0, .ref (ad b)), (1, .int (Int32.ofInt a1))]) [0, 1] rfl ?_
  refine g_iload_n C dX0_hasStatement_0 1 rfl ?_
  refine g_if_lt C 16 dX0_hasStatement_1 (by decide) ha1 (fun c1 => ?_) (fun c1 => ?_)
  · have h := z_t c1 h
    refine g_iconst C dX0_hasStatement_16 ?_
    obtain rfl := z_s1 h
    exact hR _ _ dX0_hasStatement_17 (by show _ = _ ∨ _ = _; decide)
  · have h := z_f c1 h
    refine g_iload_n C dX0_hasStatement_4 1 rfl ?_
    refine g_aload_n C dX0_hasStatement_5 0 rfl ?_
    refine gf_X0_0 C in_X0_hasStatement_X0 hb (List.mem_of_getElem? (i := 1) rfl) dX0_hasStatement_6 (fun r2 => ?_)
    refine g_icmp_ge C 16 dX0_hasStatement_9 (by decide) ha1 r2 (fun c3 => ?_) (fun c3 => ?_)
    · have h := z_f c3 h
      refine g_iconst C dX0_hasStatement_16 ?_
      obtain rfl := z_s1 h
      exact hR _ _ dX0_hasStatement_17 (by show _ = _ ∨ _ = _; decide)
    · have h := z_t c3 h
      refine g_iconst C dX0_hasStatement_12 ?_
      refine g_goto C 17 dX0_hasStatement_13 (by decide) ?_
      obtain rfl := z_s1 h
      exact hR _ _ dX0_hasStatement_17 (by show _ = _ ∨ _ = _; decide)
theorem in_X0_hasPosition_X0 : ∀ w ∈ u_ws RX0 TX0 12, w ∈ wsX0_hasPosition := fun _ h => List.mem_cons_of_mem _ (List.mem_append_right _ h)
set_option maxHeartbeats 4000000 in
set_option maxRecDepth 100000 in
theorem c_X0_hasPosition (l : Launch) {σ : MM} (hM : okM σ) {b : Nat} (hb : IsLoop b) {a1 : Int} (ha1 : inR a1) {ro : Int} (h : X0_hasPosition b a1 σ = some ro) : CtI l yX0_hasPosition wsX0_hasPosition { frames := 0, cells := 0, slots := 0, locals := 0 } (fun ad : Nat → Nat => [.ref (ad b), .int (Int32.ofInt a1)]) σ 1 ro σ := by
  unfold X0_hasPosition at h
  refine z_ctI (cc := cX0_hasPosition) (maxL := 2) (rt := 1) hM (by decide) rfl (fun _ => Nat.le_of_ble_eq_true rfl) (@fun p e s m args below meth c D cy ad A Q C hR => ?_)
  refine g_sub (vs' := [(0, .ref (ad b)), (1, .int (Int32.ofInt a1))]) [0, 1] rfl ?_
  refine g_iload_n C dX0_hasPosition_0 1 rfl ?_
  refine g_if_lt C 16 dX0_hasPosition_1 (by decide) ha1 (fun c1 => ?_) (fun c1 => ?_)
  · have h := z_t c1 h
    refine g_iconst C dX0_hasPosition_16 ?_
    obtain rfl := z_s1 h
    exact hR _ _ dX0_hasPosition_17 (by show _ = _ ∨ _ = _; decide)
  · have h := z_f c1 h
    refine g_iload_n C dX0_hasPosition_4 1 rfl ?_
    refine g_aload_n C dX0_hasPosition_5 0 rfl ?_
    refine gf_X0_0 C in_X0_hasPosition_X0 hb (List.mem_of_getElem? (i := 1) rfl) dX0_hasPosition_6 (fun r2 => ?_)
    refine g_icmp_ge C 16 dX0_hasPosition_9 (by decide) ha1 r2 (fun c3 => ?_) (fun c3 => ?_)
    · have h := z_f c3 h
      refine g_iconst C dX0_hasPosition_16 ?_
      obtain rfl := z_s1 h
      exact hR _ _ dX0_hasPosition_17 (by show _ = _ ∨ _ = _; decide)
    · have h := z_t c3 h
      refine g_iconst C dX0_hasPosition_12 ?_
      refine g_goto C 17 dX0_hasPosition_13 (by decide) ?_
      obtain rfl := z_s1 h
      exact hR _ _ dX0_hasPosition_17 (by show _ = _ ∨ _ = _; decide)
theorem in_X0_hasDependence_X0 : ∀ w ∈ u_ws RX0 TX0 12, w ∈ wsX0_hasDependence := fun _ h => List.mem_cons_of_mem _ (List.mem_append_right _ h)
set_option maxHeartbeats 4000000 in
set_option maxRecDepth 100000 in
theorem c_X0_hasDependence (l : Launch) {σ : MM} (hM : okM σ) {b : Nat} (hb : IsLoop b) {a1 : Int} (ha1 : inR a1) {ro : Int} (h : X0_hasDependence b a1 σ = some ro) : CtI l yX0_hasDependence wsX0_hasDependence { frames := 0, cells := 0, slots := 0, locals := 0 } (fun ad : Nat → Nat => [.ref (ad b), .int (Int32.ofInt a1)]) σ 1 ro σ := by
  unfold X0_hasDependence at h
  refine z_ctI (cc := cX0_hasDependence) (maxL := 2) (rt := 1) hM (by decide) rfl (fun _ => Nat.le_of_ble_eq_true rfl) (@fun p e s m args below meth c D cy ad A Q C hR => ?_)
  refine g_sub (vs' := [(0, .ref (ad b)), (1, .int (Int32.ofInt a1))]) [0, 1] rfl ?_
  refine g_iload_n C dX0_hasDependence_0 1 rfl ?_
  refine g_if_lt C 16 dX0_hasDependence_1 (by decide) ha1 (fun c1 => ?_) (fun c1 => ?_)
  · have h := z_t c1 h
    refine g_iconst C dX0_hasDependence_16 ?_
    obtain rfl := z_s1 h
    exact hR _ _ dX0_hasDependence_17 (by show _ = _ ∨ _ = _; decide)
  · have h := z_f c1 h
    refine g_iload_n C dX0_hasDependence_4 1 rfl ?_
    refine g_aload_n C dX0_hasDependence_5 0 rfl ?_
    refine gf_X0_5 C in_X0_hasDependence_X0 hb (List.mem_of_getElem? (i := 1) rfl) dX0_hasDependence_6 (fun r2 => ?_)
    refine g_icmp_ge C 16 dX0_hasDependence_9 (by decide) ha1 r2 (fun c3 => ?_) (fun c3 => ?_)
    · have h := z_f c3 h
      refine g_iconst C dX0_hasDependence_16 ?_
      obtain rfl := z_s1 h
      exact hR _ _ dX0_hasDependence_17 (by show _ = _ ∨ _ = _; decide)
    · have h := z_t c3 h
      refine g_iconst C dX0_hasDependence_12 ?_
      refine g_goto C 17 dX0_hasDependence_13 (by decide) ?_
      obtain rfl := z_s1 h
      exact hR _ _ dX0_hasDependence_17 (by show _ = _ ∨ _ = _; decide)
theorem in_X0_hasIteration_X0 : ∀ w ∈ u_ws RX0 TX0 12, w ∈ wsX0_hasIteration := fun _ h => List.mem_cons_of_mem _ (List.mem_append_right _ h)
set_option maxHeartbeats 4000000 in
set_option maxRecDepth 100000 in
theorem c_X0_hasIteration (l : Launch) {σ : MM} (hM : okM σ) {b : Nat} (hb : IsLoop b) {a1 : Int} (ha1 : inR a1) {ro : Int} (h : X0_hasIteration b a1 σ = some ro) : CtI l yX0_hasIteration wsX0_hasIteration { frames := 0, cells := 0, slots := 0, locals := 0 } (fun ad : Nat → Nat => [.ref (ad b), .int (Int32.ofInt a1)]) σ 1 ro σ := by
  unfold X0_hasIteration at h
  refine z_ctI (cc := cX0_hasIteration) (maxL := 2) (rt := 1) hM (by decide) rfl (fun _ => Nat.le_of_ble_eq_true rfl) (@fun p e s m args below meth c D cy ad A Q C hR => ?_)
  refine g_sub (vs' := [(0, .ref (ad b)), (1, .int (Int32.ofInt a1))]) [0, 1] rfl ?_
  refine g_iload_n C dX0_hasIteration_0 1 rfl ?_
  refine g_if_lt C 18 dX0_hasIteration_1 (by decide) ha1 (fun c1 => ?_) (fun c1 => ?_)
  · have h := z_t c1 h
    refine g_iconst C dX0_hasIteration_18 ?_
    obtain rfl := z_s1 h
    exact hR _ _ dX0_hasIteration_19 (by show _ = _ ∨ _ = _; decide)
  · have h := z_f c1 h
    refine g_iload_n C dX0_hasIteration_4 1 rfl ?_
    refine g_aload_n C dX0_hasIteration_5 0 rfl ?_
    refine gf_X0_11 C in_X0_hasIteration_X0 hb (List.mem_of_getElem? (i := 1) rfl) dX0_hasIteration_6 ?_
    refine g_iconst C dX0_hasIteration_9 ?_
    refine g_iald C (ly_L10 hb) (lt_loop hb (j := 10) (by decide)) (by decide) (by decide) dX0_hasIteration_10 (fun r2 => ?_)
    refine g_icmp_ge C 18 dX0_hasIteration_11 (by decide) ha1 r2 (fun c3 => ?_) (fun c3 => ?_)
    · have h := z_f c3 h
      refine g_iconst C dX0_hasIteration_18 ?_
      obtain rfl := z_s1 h
      exact hR _ _ dX0_hasIteration_19 (by show _ = _ ∨ _ = _; decide)
    · have h := z_t c3 h
      refine g_iconst C dX0_hasIteration_14 ?_
      refine g_goto C 19 dX0_hasIteration_15 (by decide) ?_
      obtain rfl := z_s1 h
      exact hR _ _ dX0_hasIteration_19 (by show _ = _ ∨ _ = _; decide)
theorem in_X0_costOf_X0 : ∀ w ∈ u_ws RX0 TX0 12, w ∈ wsX0_costOf := fun _ h => List.mem_cons_of_mem _ (List.mem_append_right _ h)
set_option maxHeartbeats 4000000 in
set_option maxRecDepth 100000 in
theorem c_X0_costOf (l : Launch) {σ : MM} (hM : okM σ) {b : Nat} (hb : IsLoop b) {a1 : Int} (ha1 : inR a1) {ro : Int} (h : X0_costOf b a1 σ = some ro) : CtI l yX0_costOf wsX0_costOf { frames := 0, cells := 0, slots := 0, locals := 0 } (fun ad : Nat → Nat => [.ref (ad b), .int (Int32.ofInt a1)]) σ 0 ro σ := by
  unfold X0_costOf at h
  refine z_ctI (cc := cX0_costOf) (maxL := 2) (rt := 0) hM (by decide) rfl (fun _ => Nat.le_of_ble_eq_true rfl) (@fun p e s m args below meth c D cy ad A Q C hR => ?_)
  refine g_sub (vs' := [(0, .ref (ad b)), (1, .int (Int32.ofInt a1))]) [0, 1] rfl ?_
  refine g_iload_n C dX0_costOf_0 1 rfl ?_
  refine g_if_lt C 22 dX0_costOf_1 (by decide) ha1 (fun c1 => ?_) (fun c1 => ?_)
  · have h := z_t c1 h
    refine g_iconst C dX0_costOf_22 ?_
    obtain rfl := z_s1 h
    exact hR _ _ dX0_costOf_23 (by show inR _; decide)
  · have h := z_f c1 h
    refine g_iload_n C dX0_costOf_4 1 rfl ?_
    refine g_aload_n C dX0_costOf_5 0 rfl ?_
    refine gf_X0_1 C in_X0_costOf_X0 hb (List.mem_of_getElem? (i := 1) rfl) dX0_costOf_6 ?_
    refine g_alen C (ly_L1 hb) (lt_loop hb (j := 1) (by decide)) dX0_costOf_9 ?_
    refine g_eq (st' := [.int (Int32.ofInt 8), .int (Int32.ofInt a1)]) rfl ?_
    refine g_icmp_ge C 22 dX0_costOf_10 (by decide) ha1 (by decide) (fun c2 => ?_) (fun c2 => ?_)
    · have h := z_f c2 h
      refine g_iconst C dX0_costOf_22 ?_
      obtain rfl := z_s1 h
      exact hR _ _ dX0_costOf_23 (by show inR _; decide)
    · have h := z_t c2 h
      refine g_aload_n C dX0_costOf_13 0 rfl ?_
      refine gf_X0_1 C in_X0_costOf_X0 hb (List.mem_of_getElem? (i := 1) rfl) dX0_costOf_14 ?_
      refine g_iload_n C dX0_costOf_17 1 rfl ?_
      refine g_iald C (ly_L1 hb) (lt_loop hb (j := 1) (by decide)) (by decide) (by omega) dX0_costOf_18 (fun r3 => ?_)
      refine g_goto C 23 dX0_costOf_19 (by decide) ?_
      obtain rfl := z_s1 h
      exact hR _ _ dX0_costOf_23 r3
theorem in_X0_positionOf_X0 : ∀ w ∈ u_ws RX0 TX0 12, w ∈ wsX0_positionOf := fun _ h => List.mem_cons_of_mem _ (List.mem_append_right _ h)
set_option maxHeartbeats 4000000 in
set_option maxRecDepth 100000 in
theorem c_X0_positionOf (l : Launch) {σ : MM} (hM : okM σ) {b : Nat} (hb : IsLoop b) {a1 : Int} (ha1 : inR a1) {ro : Int} (h : X0_positionOf b a1 σ = some ro) : CtI l yX0_positionOf wsX0_positionOf { frames := 0, cells := 0, slots := 0, locals := 0 } (fun ad : Nat → Nat => [.ref (ad b), .int (Int32.ofInt a1)]) σ 0 ro σ := by
  unfold X0_positionOf at h
  refine z_ctI (cc := cX0_positionOf) (maxL := 2) (rt := 0) hM (by decide) rfl (fun _ => Nat.le_of_ble_eq_true rfl) (@fun p e s m args below meth c D cy ad A Q C hR => ?_)
  refine g_sub (vs' := [(0, .ref (ad b)), (1, .int (Int32.ofInt a1))]) [0, 1] rfl ?_
  refine g_iload_n C dX0_positionOf_0 1 rfl ?_
  refine g_if_lt C 22 dX0_positionOf_1 (by decide) ha1 (fun c1 => ?_) (fun c1 => ?_)
  · have h := z_t c1 h
    refine g_iconst C dX0_positionOf_22 ?_
    obtain rfl := z_s1 h
    exact hR _ _ dX0_positionOf_23 (by show inR _; decide)
  · have h := z_f c1 h
    refine g_iload_n C dX0_positionOf_4 1 rfl ?_
    refine g_aload_n C dX0_positionOf_5 0 rfl ?_
    refine gf_X0_2 C in_X0_positionOf_X0 hb (List.mem_of_getElem? (i := 1) rfl) dX0_positionOf_6 ?_
    refine g_alen C (ly_L2 hb) (lt_loop hb (j := 2) (by decide)) dX0_positionOf_9 ?_
    refine g_eq (st' := [.int (Int32.ofInt 8), .int (Int32.ofInt a1)]) rfl ?_
    refine g_icmp_ge C 22 dX0_positionOf_10 (by decide) ha1 (by decide) (fun c2 => ?_) (fun c2 => ?_)
    · have h := z_f c2 h
      refine g_iconst C dX0_positionOf_22 ?_
      obtain rfl := z_s1 h
      exact hR _ _ dX0_positionOf_23 (by show inR _; decide)
    · have h := z_t c2 h
      refine g_aload_n C dX0_positionOf_13 0 rfl ?_
      refine gf_X0_2 C in_X0_positionOf_X0 hb (List.mem_of_getElem? (i := 1) rfl) dX0_positionOf_14 ?_
      refine g_iload_n C dX0_positionOf_17 1 rfl ?_
      refine g_iald C (ly_L2 hb) (lt_loop hb (j := 2) (by decide)) (by decide) (by omega) dX0_positionOf_18 (fun r3 => ?_)
      refine g_goto C 23 dX0_positionOf_19 (by decide) ?_
      obtain rfl := z_s1 h
      exact hR _ _ dX0_positionOf_23 r3
theorem in_X0_statementAt_X0 : ∀ w ∈ u_ws RX0 TX0 12, w ∈ wsX0_statementAt := fun _ h => List.mem_cons_of_mem _ (List.mem_append_right _ h)
set_option maxHeartbeats 4000000 in
set_option maxRecDepth 100000 in
theorem c_X0_statementAt (l : Launch) {σ : MM} (hM : okM σ) {b : Nat} (hb : IsLoop b) {a1 : Int} (ha1 : inR a1) {ro : Int} (h : X0_statementAt b a1 σ = some ro) : CtI l yX0_statementAt wsX0_statementAt { frames := 0, cells := 0, slots := 0, locals := 0 } (fun ad : Nat → Nat => [.ref (ad b), .int (Int32.ofInt a1)]) σ 0 ro σ := by
  unfold X0_statementAt at h
  refine z_ctI (cc := cX0_statementAt) (maxL := 2) (rt := 0) hM (by decide) rfl (fun _ => Nat.le_of_ble_eq_true rfl) (@fun p e s m args below meth c D cy ad A Q C hR => ?_)
  refine g_sub (vs' := [(0, .ref (ad b)), (1, .int (Int32.ofInt a1))]) [0, 1] rfl ?_
  refine g_iload_n C dX0_statementAt_0 1 rfl ?_
  refine g_if_lt C 22 dX0_statementAt_1 (by decide) ha1 (fun c1 => ?_) (fun c1 => ?_)
  · have h := z_t c1 h
    refine g_iconst C dX0_statementAt_22 ?_
    obtain rfl := z_s1 h
    exact hR _ _ dX0_statementAt_23 (by show inR _; decide)
  · have h := z_f c1 h
    refine g_iload_n C dX0_statementAt_4 1 rfl ?_
    refine g_aload_n C dX0_statementAt_5 0 rfl ?_
    refine gf_X0_3 C in_X0_statementAt_X0 hb (List.mem_of_getElem? (i := 1) rfl) dX0_statementAt_6 ?_
    refine g_alen C (ly_L3 hb) (lt_loop hb (j := 3) (by decide)) dX0_statementAt_9 ?_
    refine g_eq (st' := [.int (Int32.ofInt 8), .int (Int32.ofInt a1)]) rfl ?_
    refine g_icmp_ge C 22 dX0_statementAt_10 (by decide) ha1 (by decide) (fun c2 => ?_) (fun c2 => ?_)
    · have h := z_f c2 h
      refine g_iconst C dX0_statementAt_22 ?_
      obtain rfl := z_s1 h
      exact hR _ _ dX0_statementAt_23 (by show inR _; decide)
    · have h := z_t c2 h
      refine g_aload_n C dX0_statementAt_13 0 rfl ?_
      refine gf_X0_3 C in_X0_statementAt_X0 hb (List.mem_of_getElem? (i := 1) rfl) dX0_statementAt_14 ?_
      refine g_iload_n C dX0_statementAt_17 1 rfl ?_
      refine g_iald C (ly_L3 hb) (lt_loop hb (j := 3) (by decide)) (by decide) (by omega) dX0_statementAt_18 (fun r3 => ?_)
      refine g_goto C 23 dX0_statementAt_19 (by decide) ?_
      obtain rfl := z_s1 h
      exact hR _ _ dX0_statementAt_23 r3
theorem in_X0_offsetOf_X0 : ∀ w ∈ u_ws RX0 TX0 12, w ∈ wsX0_offsetOf := fun _ h => List.mem_cons_of_mem _ (List.mem_append_right _ h)
set_option maxHeartbeats 4000000 in
set_option maxRecDepth 100000 in
theorem c_X0_offsetOf (l : Launch) {σ : MM} (hM : okM σ) {b : Nat} (hb : IsLoop b) {a1 : Int} (ha1 : inR a1) {ro : Int} (h : X0_offsetOf b a1 σ = some ro) : CtI l yX0_offsetOf wsX0_offsetOf { frames := 0, cells := 0, slots := 0, locals := 0 } (fun ad : Nat → Nat => [.ref (ad b), .int (Int32.ofInt a1)]) σ 0 ro σ := by
  unfold X0_offsetOf at h
  refine z_ctI (cc := cX0_offsetOf) (maxL := 2) (rt := 0) hM (by decide) rfl (fun _ => Nat.le_of_ble_eq_true rfl) (@fun p e s m args below meth c D cy ad A Q C hR => ?_)
  refine g_sub (vs' := [(0, .ref (ad b)), (1, .int (Int32.ofInt a1))]) [0, 1] rfl ?_
  refine g_iload_n C dX0_offsetOf_0 1 rfl ?_
  refine g_if_lt C 22 dX0_offsetOf_1 (by decide) ha1 (fun c1 => ?_) (fun c1 => ?_)
  · have h := z_t c1 h
    refine g_iconst C dX0_offsetOf_22 ?_
    obtain rfl := z_s1 h
    exact hR _ _ dX0_offsetOf_23 (by show inR _; decide)
  · have h := z_f c1 h
    refine g_iload_n C dX0_offsetOf_4 1 rfl ?_
    refine g_aload_n C dX0_offsetOf_5 0 rfl ?_
    refine gf_X0_4 C in_X0_offsetOf_X0 hb (List.mem_of_getElem? (i := 1) rfl) dX0_offsetOf_6 ?_
    refine g_alen C (ly_L4 hb) (lt_loop hb (j := 4) (by decide)) dX0_offsetOf_9 ?_
    refine g_eq (st' := [.int (Int32.ofInt 8), .int (Int32.ofInt a1)]) rfl ?_
    refine g_icmp_ge C 22 dX0_offsetOf_10 (by decide) ha1 (by decide) (fun c2 => ?_) (fun c2 => ?_)
    · have h := z_f c2 h
      refine g_iconst C dX0_offsetOf_22 ?_
      obtain rfl := z_s1 h
      exact hR _ _ dX0_offsetOf_23 (by show inR _; decide)
    · have h := z_t c2 h
      refine g_aload_n C dX0_offsetOf_13 0 rfl ?_
      refine gf_X0_4 C in_X0_offsetOf_X0 hb (List.mem_of_getElem? (i := 1) rfl) dX0_offsetOf_14 ?_
      refine g_iload_n C dX0_offsetOf_17 1 rfl ?_
      refine g_iald C (ly_L4 hb) (lt_loop hb (j := 4) (by decide)) (by decide) (by omega) dX0_offsetOf_18 (fun r3 => ?_)
      refine g_goto C 23 dX0_offsetOf_19 (by decide) ?_
      obtain rfl := z_s1 h
      exact hR _ _ dX0_offsetOf_23 r3
theorem in_X0_measureOffsets_X0 : ∀ w ∈ u_ws RX0 TX0 12, w ∈ wsX0_measureOffsets := fun _ h => List.mem_cons_of_mem _ (List.mem_append_right _ h)
set_option maxHeartbeats 4000000 in
set_option maxRecDepth 100000 in
theorem w_X0_measureOffsets_L4 {p : Program} {l : Launch} {e : Env} {s : State} {m : MethodId} {args : Array Value} {below : List Frame} {meth : Method} {c : Code} {D : va_G} {cy : Nat → ClassId} {ad : Nat → Nat} {A : Nat → Prop} {Q : State → Prop} (C : Cx p s m args meth c cX0_measureOffsets RX0 4 wsX0_measureOffsets D cy A) {b : Nat} (hb : IsLoop b) {k49 : MM → Option MM} {σo : MM} (hR : RetV p l e { frames := 1, cells := 0, slots := 0, locals := 21 } s m args below meth c cX0_measureOffsets 4 D cy ad A Q σo) (hk49 : ∀  (σ : MM), k49 σ = some σo → G p l e { frames := 1, cells := 0, slots := 0, locals := 21 } s m args below meth c 4 D cy ad A Q 49 [] [] σ) : ∀ (n : Nat) (x1 x2 : Int) (σ : MM) , inR x1 → inR x2 → X0_measureOffsets_L4 b k49 n x1 x2 σ = some σo → G p l e { frames := 1, cells := 0, slots := 0, locals := 21 } s m args below meth c 4 D cy ad A Q 4 [(0, .ref (ad b)), (1, .int (Int32.ofInt x1)), (2, .int (Int32.ofInt x2))] [] σ := by
  intro n
  induction n with
  | zero =>
    intro x1 x2 σ hx1 hx2 h
    cases h
  | succ n ih =>
    intro x1 x2 σ hx1 hx2 h
    rw [X0_measureOffsets_L4] at h
    refine g_iload_n C dX0_measureOffsets_4 2 rfl ?_
    refine g_aload_n C dX0_measureOffsets_5 0 rfl ?_
    refine gf_X0_0 C in_X0_measureOffsets_X0 hb (List.mem_of_getElem? (i := 1) rfl) dX0_measureOffsets_6 (fun r1 => ?_)
    refine g_icmp_ge C 49 dX0_measureOffsets_9 (by decide) hx2 r1 (fun c2 => ?_) (fun c2 => ?_)
    · have h := z_f c2 h
      refine g_sub [] rfl ?_
      exact hk49 _ h
    · have h := z_t c2 h
      refine g_aload_n C dX0_measureOffsets_12 0 rfl ?_
      refine gf_X0_3 C in_X0_measureOffsets_X0 hb (List.mem_of_getElem? (i := 2) rfl) dX0_measureOffsets_13 ?_
      refine g_iload_n C dX0_measureOffsets_16 2 rfl ?_
      obtain ⟨g3, h⟩ := z_g h
      refine g_iald C (ly_L3 hb) (lt_loop hb (j := 3) (by decide)) (by decide) g3 dX0_measureOffsets_17 (fun r4 => ?_)
      refine g_istore_n C dX0_measureOffsets_18 (by decide) (vs' := [(3, .int (Int32.ofInt (σ (b + 3) x2))), (0, .ref (ad b)), (1, .int (Int32.ofInt x1)), (2, .int (Int32.ofInt x2))]) rfl ?_
      refine g_aload_n C dX0_measureOffsets_19 1 rfl ?_
      refine g_iload_n C dX0_measureOffsets_20 0 rfl ?_
      obtain ⟨r5, e6, h⟩ := z_b h
      refine g_callI (n := 1) C (fun hM => c_X0_hasStatement l hM hb r4 e6) gX0_measureOffsets_X0_hasStatement rfl (by decide) ⟨rfl, rfl⟩ ⟨Nat.le_of_ble_eq_true rfl, Nat.le_of_ble_eq_true rfl⟩ rfl (ly_L0 hb) (lt_loop hb (j := 0) (by decide)) rfl rfl (rest := []) rfl (Nat.le_of_ble_eq_true rfl) dX0_measureOffsets_21 (fun q7 => ?_)
      have q7 : r5 = 0 ∨ r5 = 1 := q7
      refine g_if_eq C 43 dX0_measureOffsets_24 (by decide) (rgT_inR (rt := 1) q7) (fun c8 => ?_) (fun c8 => ?_)
      · have h := z_t c8 h
        refine g_iinc C dX0_measureOffsets_43 (j := 3) rfl (by decide) (vs' := [(2, .int (Int32.ofInt (x2 + 1))), (3, .int (Int32.ofInt (σ (b + 3) x2))), (0, .ref (ad b)), (1, .int (Int32.ofInt x1))]) rfl ?_
        refine g_goto C 4 dX0_measureOffsets_46 (by decide) ?_
        refine g_sub [2, 3, 0] rfl ?_
        exact ih _ _ _ hx1 (by omega) h
      · have h := z_f c8 h
        refine g_aload_n C dX0_measureOffsets_27 1 rfl ?_
        refine gf_X0_4 C in_X0_measureOffsets_X0 hb (List.mem_of_getElem? (i := 3) rfl) dX0_measureOffsets_28 ?_
        refine g_iload_n C dX0_measureOffsets_31 0 rfl ?_
        refine g_iload_n C dX0_measureOffsets_32 2 rfl ?_
        obtain ⟨g9, h⟩ := z_g h
        refine g_iast C (ly_L4 hb) (lt_loop hb (j := 4) (by decide)) (by decide) g9 hx1 dX0_measureOffsets_33 ?_
        obtain ⟨σ10, e11, h⟩ := z_l h
        refine g_mem e11 ?_
        refine g_iload_n C dX0_measureOffsets_34 2 rfl ?_
        refine g_aload_n C dX0_measureOffsets_35 1 rfl ?_
        refine gf_X0_1 C in_X0_measureOffsets_X0 hb (List.mem_of_getElem? (i := 4) rfl) dX0_measureOffsets_36 ?_
        refine g_iload_n C dX0_measureOffsets_39 0 rfl ?_
        refine g_iald C (ly_L1 hb) (lt_loop hb (j := 1) (by decide)) (by decide) (by omega) dX0_measureOffsets_40 (fun r12 => ?_)
        refine g_iadd C dX0_measureOffsets_41 ?_
        refine g_istore_n C dX0_measureOffsets_42 (by decide) (vs' := [(1, .int (Int32.ofInt (x1 + (σ10 (b + 1) (σ (b + 3) x2))))), (3, .int (Int32.ofInt (σ (b + 3) x2))), (0, .ref (ad b)), (2, .int (Int32.ofInt x2))]) rfl ?_
        refine g_iinc C dX0_measureOffsets_43 (j := 3) rfl (by decide) (vs' := [(2, .int (Int32.ofInt (x2 + 1))), (1, .int (Int32.ofInt (x1 + (σ10 (b + 1) (σ (b + 3) x2))))), (3, .int (Int32.ofInt (σ (b + 3) x2))), (0, .ref (ad b))]) rfl ?_
        refine g_goto C 4 dX0_measureOffsets_46 (by decide) ?_
        obtain ⟨g13, h⟩ := z_g h
        refine g_sub [3, 1, 0] rfl ?_
        exact ih _ _ _ g13 (by omega) h
set_option maxHeartbeats 4000000 in
set_option maxRecDepth 100000 in
theorem c_X0_measureOffsets (l : Launch) {σ : MM} (hM : okM σ) {b : Nat} (hb : IsLoop b) {σo : MM} (h : X0_measureOffsets b σ = some σo) : CtV l yX0_measureOffsets wsX0_measureOffsets { frames := 1, cells := 0, slots := 0, locals := 21 } (fun ad : Nat → Nat => [.ref (ad b)]) σ σo := by
  unfold X0_measureOffsets at h
  refine z_ctV (cc := cX0_measureOffsets) (maxL := 4) hM (by decide) rfl (fun _ => Nat.le_of_ble_eq_true rfl) (@fun p e s m args below meth c D cy ad A Q C hR => ?_)
  refine g_sub (vs' := [(0, .ref (ad b))]) [0] rfl ?_
  refine g_iconst C dX0_measureOffsets_0 ?_
  refine g_istore_n C dX0_measureOffsets_1 (by decide) (vs' := [(1, .int (Int32.ofInt 0)), (0, .ref (ad b))]) rfl ?_
  refine g_iconst C dX0_measureOffsets_2 ?_
  refine g_istore_n C dX0_measureOffsets_3 (by decide) (vs' := [(2, .int (Int32.ofInt 0)), (1, .int (Int32.ofInt 0)), (0, .ref (ad b))]) rfl ?_
  refine g_sub [2, 1, 0] rfl ?_
  refine w_X0_measureOffsets_L4 C hb hR ?_ _ _ _ _ (by decide) (by decide) h
  · intro σ14 h
    obtain rfl := z_s1 h
    exact hR _ _ dX0_measureOffsets_49
theorem in_X0_sumOfCosts_X0 : ∀ w ∈ u_ws RX0 TX0 12, w ∈ wsX0_sumOfCosts := fun _ h => List.mem_cons_of_mem _ (List.mem_append_right _ h)
set_option maxHeartbeats 4000000 in
set_option maxRecDepth 100000 in
theorem w_X0_sumOfCosts_L4 {p : Program} {l : Launch} {e : Env} {s : State} {m : MethodId} {args : Array Value} {below : List Frame} {meth : Method} {c : Code} {D : va_G} {cy : Nat → ClassId} {ad : Nat → Nat} {A : Nat → Prop} {Q : State → Prop} (C : Cx p s m args meth c cX0_sumOfCosts RX0 3 wsX0_sumOfCosts D cy A) {b : Nat} (hb : IsLoop b) {σ : MM} {k27 : Int → Option Int} {ro : Int} (hR : RetI p l e { frames := 0, cells := 0, slots := 0, locals := 0 } s m args below meth c cX0_sumOfCosts 3 D cy ad A Q 0 ro σ) (hk27 : ∀ (z1 : Int), inR z1 → k27 z1 = some ro → G p l e { frames := 0, cells := 0, slots := 0, locals := 0 } s m args below meth c 3 D cy ad A Q 27 [(1, .int (Int32.ofInt z1))] [] σ) : ∀ (n : Nat) (x1 x2 : Int) , inR x1 → inR x2 → X0_sumOfCosts_L4 b σ k27 n x1 x2 = some ro → G p l e { frames := 0, cells := 0, slots := 0, locals := 0 } s m args below meth c 3 D cy ad A Q 4 [(0, .ref (ad b)), (1, .int (Int32.ofInt x1)), (2, .int (Int32.ofInt x2))] [] σ := by
  intro n
  induction n with
  | zero =>
    intro x1 x2 hx1 hx2 h
    cases h
  | succ n ih =>
    intro x1 x2 hx1 hx2 h
    rw [X0_sumOfCosts_L4] at h
    refine g_iload_n C dX0_sumOfCosts_4 2 rfl ?_
    refine g_aload_n C dX0_sumOfCosts_5 0 rfl ?_
    refine gf_X0_0 C in_X0_sumOfCosts_X0 hb (List.mem_of_getElem? (i := 1) rfl) dX0_sumOfCosts_6 (fun r1 => ?_)
    refine g_icmp_ge C 27 dX0_sumOfCosts_9 (by decide) hx2 r1 (fun c2 => ?_) (fun c2 => ?_)
    · have h := z_f c2 h
      refine g_sub [1] rfl ?_
      exact hk27 _ hx1 h
    · have h := z_t c2 h
      refine g_iload_n C dX0_sumOfCosts_12 1 rfl ?_
      refine g_aload_n C dX0_sumOfCosts_13 0 rfl ?_
      refine gf_X0_1 C in_X0_sumOfCosts_X0 hb (List.mem_of_getElem? (i := 2) rfl) dX0_sumOfCosts_14 ?_
      refine g_iload_n C dX0_sumOfCosts_17 2 rfl ?_
      obtain ⟨g3, h⟩ := z_g h
      refine g_iald C (ly_L1 hb) (lt_loop hb (j := 1) (by decide)) (by decide) g3 dX0_sumOfCosts_18 (fun r4 => ?_)
      refine g_iadd C dX0_sumOfCosts_19 ?_
      refine g_istore_n C dX0_sumOfCosts_20 (by decide) (vs' := [(1, .int (Int32.ofInt (x1 + (σ (b + 1) x2)))), (0, .ref (ad b)), (2, .int (Int32.ofInt x2))]) rfl ?_
      refine g_iinc C dX0_sumOfCosts_21 (j := 2) rfl (by decide) (vs' := [(2, .int (Int32.ofInt (x2 + 1))), (1, .int (Int32.ofInt (x1 + (σ (b + 1) x2)))), (0, .ref (ad b))]) rfl ?_
      refine g_goto C 4 dX0_sumOfCosts_24 (by decide) ?_
      obtain ⟨g5, h⟩ := z_g h
      refine g_sub [2, 1, 0] rfl ?_
      exact ih _ _ g5 (by omega) h
set_option maxHeartbeats 4000000 in
set_option maxRecDepth 100000 in
theorem c_X0_sumOfCosts (l : Launch) {σ : MM} (hM : okM σ) {b : Nat} (hb : IsLoop b) {ro : Int} (h : X0_sumOfCosts b σ = some ro) : CtI l yX0_sumOfCosts wsX0_sumOfCosts { frames := 0, cells := 0, slots := 0, locals := 0 } (fun ad : Nat → Nat => [.ref (ad b)]) σ 0 ro σ := by
  unfold X0_sumOfCosts at h
  refine z_ctI (cc := cX0_sumOfCosts) (maxL := 3) (rt := 0) hM (by decide) rfl (fun _ => Nat.le_of_ble_eq_true rfl) (@fun p e s m args below meth c D cy ad A Q C hR => ?_)
  refine g_sub (vs' := [(0, .ref (ad b))]) [0] rfl ?_
  refine g_iconst C dX0_sumOfCosts_0 ?_
  refine g_istore_n C dX0_sumOfCosts_1 (by decide) (vs' := [(1, .int (Int32.ofInt 0)), (0, .ref (ad b))]) rfl ?_
  refine g_iconst C dX0_sumOfCosts_2 ?_
  refine g_istore_n C dX0_sumOfCosts_3 (by decide) (vs' := [(2, .int (Int32.ofInt 0)), (1, .int (Int32.ofInt 0)), (0, .ref (ad b))]) rfl ?_
  refine g_sub [2, 1, 0] rfl ?_
  refine w_X0_sumOfCosts_L4 C hb hR ?_ _ _ _ (by decide) (by decide) h
  · intro z6 hz6 h
    refine g_iload_n C dX0_sumOfCosts_27 0 rfl ?_
    obtain rfl := z_s1 h
    exact hR _ _ dX0_sumOfCosts_28 hz6
theorem in_X0_addStatement_X0 : ∀ w ∈ u_ws RX0 TX0 12, w ∈ wsX0_addStatement := fun _ h => List.mem_cons_of_mem _ (List.mem_append_right _ h)
set_option maxHeartbeats 4000000 in
set_option maxRecDepth 100000 in
theorem c_X0_addStatement (l : Launch) {σ : MM} (hM : okM σ) {b : Nat} (hb : IsLoop b) {a1 : Int} (ha1 : inR a1) {σo : MM} (h : X0_addStatement b a1 σ = some σo) : CtV l yX0_addStatement wsX0_addStatement { frames := 0, cells := 0, slots := 0, locals := 0 } (fun ad : Nat → Nat => [.ref (ad b), .int (Int32.ofInt a1)]) σ σo := by
  unfold X0_addStatement at h
  refine z_ctV (cc := cX0_addStatement) (maxL := 2) hM (by decide) rfl (fun _ => Nat.le_of_ble_eq_true rfl) (@fun p e s m args below meth c D cy ad A Q C hR => ?_)
  refine g_sub (vs' := [(0, .ref (ad b)), (1, .int (Int32.ofInt a1))]) [0, 1] rfl ?_
  refine g_aload_n C dX0_addStatement_0 0 rfl ?_
  refine gf_X0_0 C in_X0_addStatement_X0 hb (List.mem_of_getElem? (i := 1) rfl) dX0_addStatement_1 (fun r1 => ?_)
  refine g_bipush C dX0_addStatement_4 (by decide) ?_
  refine g_icmp_ge C 55 dX0_addStatement_6 (by decide) r1 (by decide) (fun c2 => ?_) (fun c2 => ?_)
  · have h := z_f c2 h
    obtain rfl := z_s1 h
    exact hR _ _ dX0_addStatement_55
  · have h := z_t c2 h
    refine g_aload_n C dX0_addStatement_9 0 rfl ?_
    refine gf_X0_1 C in_X0_addStatement_X0 hb (List.mem_of_getElem? (i := 2) rfl) dX0_addStatement_10 ?_
    refine g_aload_n C dX0_addStatement_13 0 rfl ?_
    refine gf_X0_0 C in_X0_addStatement_X0 hb (List.mem_of_getElem? (i := 1) rfl) dX0_addStatement_14 (fun r3 => ?_)
    refine g_iload_n C dX0_addStatement_17 1 rfl ?_
    obtain ⟨g4, h⟩ := z_g h
    refine g_iast C (ly_L1 hb) (lt_loop hb (j := 1) (by decide)) (by decide) g4 ha1 dX0_addStatement_18 ?_
    obtain ⟨σ5, e6, h⟩ := z_l h
    refine g_mem e6 ?_
    refine g_aload_n C dX0_addStatement_19 0 rfl ?_
    refine gf_X0_2 C in_X0_addStatement_X0 hb (List.mem_of_getElem? (i := 3) rfl) dX0_addStatement_20 ?_
    refine g_aload_n C dX0_addStatement_23 0 rfl ?_
    refine gf_X0_0 C in_X0_addStatement_X0 hb (List.mem_of_getElem? (i := 1) rfl) dX0_addStatement_24 (fun r7 => ?_)
    refine g_aload_n C dX0_addStatement_27 0 rfl ?_
    refine gf_X0_0 C in_X0_addStatement_X0 hb (List.mem_of_getElem? (i := 1) rfl) dX0_addStatement_28 (fun r8 => ?_)
    obtain ⟨g9, h⟩ := z_g h
    refine g_iast C (ly_L2 hb) (lt_loop hb (j := 2) (by decide)) (by decide) g9 r8 dX0_addStatement_31 ?_
    obtain ⟨σ10, e11, h⟩ := z_l h
    refine g_mem e11 ?_
    refine g_aload_n C dX0_addStatement_32 0 rfl ?_
    refine gf_X0_3 C in_X0_addStatement_X0 hb (List.mem_of_getElem? (i := 4) rfl) dX0_addStatement_33 ?_
    refine g_aload_n C dX0_addStatement_36 0 rfl ?_
    refine gf_X0_0 C in_X0_addStatement_X0 hb (List.mem_of_getElem? (i := 1) rfl) dX0_addStatement_37 (fun r12 => ?_)
    refine g_aload_n C dX0_addStatement_40 0 rfl ?_
    refine gf_X0_0 C in_X0_addStatement_X0 hb (List.mem_of_getElem? (i := 1) rfl) dX0_addStatement_41 (fun r13 => ?_)
    obtain ⟨g14, h⟩ := z_g h
    refine g_iast C (ly_L3 hb) (lt_loop hb (j := 3) (by decide)) (by decide) g14 r13 dX0_addStatement_44 ?_
    obtain ⟨σ15, e16, h⟩ := z_l h
    refine g_mem e16 ?_
    refine g_aload_n C dX0_addStatement_45 0 rfl ?_
    refine g_dup C dX0_addStatement_46 rfl ?_
    refine gf_X0_0 C in_X0_addStatement_X0 hb (List.mem_of_getElem? (i := 1) rfl) dX0_addStatement_47 (fun r17 => ?_)
    refine g_iconst C dX0_addStatement_50 ?_
    refine g_iadd C dX0_addStatement_51 ?_
    obtain ⟨g18, h⟩ := z_g h
    refine gp_X0_0 C in_X0_addStatement_X0 hb (List.mem_of_getElem? (i := 1) rfl) g18 dX0_addStatement_52 ?_
    obtain ⟨σ19, e20, h⟩ := z_l h
    refine g_mem e20 ?_
    obtain rfl := z_s1 h
    exact hR _ _ dX0_addStatement_55
theorem in_X0_addDependence_X0 : ∀ w ∈ u_ws RX0 TX0 12, w ∈ wsX0_addDependence := fun _ h => List.mem_cons_of_mem _ (List.mem_append_right _ h)
set_option maxHeartbeats 4000000 in
set_option maxRecDepth 100000 in
theorem c_X0_addDependence (l : Launch) {σ : MM} (hM : okM σ) {b : Nat} (hb : IsLoop b) {a1 : Int} (ha1 : inR a1) {a2 : Int} (ha2 : inR a2) {a3 : Int} (ha3 : inR a3) {a4 : Int} (ha4 : inR a4) {σo : MM} (h : X0_addDependence b a1 a2 a3 a4 σ = some σo) : CtV l yX0_addDependence wsX0_addDependence { frames := 0, cells := 0, slots := 0, locals := 0 } (fun ad : Nat → Nat => [.ref (ad b), .int (Int32.ofInt a1), .int (Int32.ofInt a2), .int (Int32.ofInt a3), .int (Int32.ofInt a4)]) σ σo := by
  unfold X0_addDependence at h
  refine z_ctV (cc := cX0_addDependence) (maxL := 5) hM (by decide) rfl (fun _ => Nat.le_of_ble_eq_true rfl) (@fun p e s m args below meth c D cy ad A Q C hR => ?_)
  refine g_sub (vs' := [(0, .ref (ad b)), (1, .int (Int32.ofInt a1)), (2, .int (Int32.ofInt a2)), (3, .int (Int32.ofInt a3)), (4, .int (Int32.ofInt a4))]) [0, 1, 2, 3, 4] rfl ?_
  refine g_aload_n C dX0_addDependence_0 0 rfl ?_
  refine gf_X0_5 C in_X0_addDependence_X0 hb (List.mem_of_getElem? (i := 1) rfl) dX0_addDependence_1 (fun r1 => ?_)
  refine g_bipush C dX0_addDependence_4 (by decide) ?_
  refine g_icmp_ge C 70 dX0_addDependence_6 (by decide) r1 (by decide) (fun c2 => ?_) (fun c2 => ?_)
  · have h := z_f c2 h
    obtain rfl := z_s1 h
    exact hR _ _ dX0_addDependence_70
  · have h := z_t c2 h
    refine g_aload_n C dX0_addDependence_9 0 rfl ?_
    refine gf_X0_6 C in_X0_addDependence_X0 hb (List.mem_of_getElem? (i := 2) rfl) dX0_addDependence_10 ?_
    refine g_aload_n C dX0_addDependence_13 0 rfl ?_
    refine gf_X0_5 C in_X0_addDependence_X0 hb (List.mem_of_getElem? (i := 1) rfl) dX0_addDependence_14 (fun r3 => ?_)
    refine g_iload_n C dX0_addDependence_17 1 rfl ?_
    obtain ⟨g4, h⟩ := z_g h
    refine g_iast C (ly_L5 hb) (lt_loop hb (j := 5) (by decide)) (by decide) g4 ha1 dX0_addDependence_18 ?_
    obtain ⟨σ5, e6, h⟩ := z_l h
    refine g_mem e6 ?_
    refine g_aload_n C dX0_addDependence_19 0 rfl ?_
    refine gf_X0_7 C in_X0_addDependence_X0 hb (List.mem_of_getElem? (i := 3) rfl) dX0_addDependence_20 ?_
    refine g_aload_n C dX0_addDependence_23 0 rfl ?_
    refine gf_X0_5 C in_X0_addDependence_X0 hb (List.mem_of_getElem? (i := 1) rfl) dX0_addDependence_24 (fun r7 => ?_)
    refine g_iload_n C dX0_addDependence_27 2 rfl ?_
    obtain ⟨g8, h⟩ := z_g h
    refine g_iast C (ly_L6 hb) (lt_loop hb (j := 6) (by decide)) (by decide) g8 ha2 dX0_addDependence_28 ?_
    obtain ⟨σ9, e10, h⟩ := z_l h
    refine g_mem e10 ?_
    refine g_aload_n C dX0_addDependence_29 0 rfl ?_
    refine gf_X0_8 C in_X0_addDependence_X0 hb (List.mem_of_getElem? (i := 4) rfl) dX0_addDependence_30 ?_
    refine g_aload_n C dX0_addDependence_33 0 rfl ?_
    refine gf_X0_5 C in_X0_addDependence_X0 hb (List.mem_of_getElem? (i := 1) rfl) dX0_addDependence_34 (fun r11 => ?_)
    refine g_iload_n C dX0_addDependence_37 3 rfl ?_
    obtain ⟨g12, h⟩ := z_g h
    refine g_iast C (ly_L7 hb) (lt_loop hb (j := 7) (by decide)) (by decide) g12 ha3 dX0_addDependence_38 ?_
    obtain ⟨σ13, e14, h⟩ := z_l h
    refine g_mem e14 ?_
    refine g_aload_n C dX0_addDependence_39 0 rfl ?_
    refine gf_X0_9 C in_X0_addDependence_X0 hb (List.mem_of_getElem? (i := 5) rfl) dX0_addDependence_40 ?_
    refine g_aload_n C dX0_addDependence_43 0 rfl ?_
    refine gf_X0_5 C in_X0_addDependence_X0 hb (List.mem_of_getElem? (i := 1) rfl) dX0_addDependence_44 (fun r15 => ?_)
    refine g_iload C dX0_addDependence_47 4 rfl ?_
    obtain ⟨g16, h⟩ := z_g h
    refine g_iast C (ly_L8 hb) (lt_loop hb (j := 8) (by decide)) (by decide) g16 ha4 dX0_addDependence_49 ?_
    obtain ⟨σ17, e18, h⟩ := z_l h
    refine g_mem e18 ?_
    refine g_aload_n C dX0_addDependence_50 0 rfl ?_
    refine gf_X0_10 C in_X0_addDependence_X0 hb (List.mem_of_getElem? (i := 6) rfl) dX0_addDependence_51 ?_
    refine g_aload_n C dX0_addDependence_54 0 rfl ?_
    refine gf_X0_5 C in_X0_addDependence_X0 hb (List.mem_of_getElem? (i := 1) rfl) dX0_addDependence_55 (fun r19 => ?_)
    refine g_iconst C dX0_addDependence_58 ?_
    obtain ⟨g20, h⟩ := z_g h
    refine g_zast C (ly_L9 hb) (lt_loop hb (j := 9) (by decide)) (by decide) g20 (by decide) dX0_addDependence_59 ?_
    obtain ⟨σ21, e22, h⟩ := z_l h
    refine g_mem e22 ?_
    refine g_aload_n C dX0_addDependence_60 0 rfl ?_
    refine g_dup C dX0_addDependence_61 rfl ?_
    refine gf_X0_5 C in_X0_addDependence_X0 hb (List.mem_of_getElem? (i := 1) rfl) dX0_addDependence_62 (fun r23 => ?_)
    refine g_iconst C dX0_addDependence_65 ?_
    refine g_iadd C dX0_addDependence_66 ?_
    obtain ⟨g24, h⟩ := z_g h
    refine gp_X0_5 C in_X0_addDependence_X0 hb (List.mem_of_getElem? (i := 1) rfl) g24 dX0_addDependence_67 ?_
    obtain ⟨σ25, e26, h⟩ := z_l h
    refine g_mem e26 ?_
    obtain rfl := z_s1 h
    exact hR _ _ dX0_addDependence_70
theorem in_X0_dropDependence_X0 : ∀ w ∈ u_ws RX0 TX0 12, w ∈ wsX0_dropDependence := fun _ h => List.mem_cons_of_mem _ (List.mem_append_right _ h)
set_option maxHeartbeats 4000000 in
set_option maxRecDepth 100000 in
theorem w_X0_dropDependence_L20 {p : Program} {l : Launch} {e : Env} {s : State} {m : MethodId} {args : Array Value} {below : List Frame} {meth : Method} {c : Code} {D : va_G} {cy : Nat → ClassId} {ad : Nat → Nat} {A : Nat → Prop} {Q : State → Prop} (C : Cx p s m args meth c cX0_dropDependence RX0 3 wsX0_dropDependence D cy A) {b : Nat} (hb : IsLoop b) {k43 : MM → Option MM} {σo : MM} (hR : RetV p l e { frames := 1, cells := 0, slots := 0, locals := 23 } s m args below meth c cX0_dropDependence 3 D cy ad A Q σo) (hk43 : ∀  (σ : MM), k43 σ = some σo → G p l e { frames := 1, cells := 0, slots := 0, locals := 23 } s m args below meth c 3 D cy ad A Q 43 [] [] σ) : ∀ (n : Nat) (x2 : Int) (σ : MM) , inR x2 → X0_dropDependence_L20 b k43 n x2 σ = some σo → G p l e { frames := 1, cells := 0, slots := 0, locals := 23 } s m args below meth c 3 D cy ad A Q 20 [(0, .ref (ad b)), (2, .int (Int32.ofInt x2))] [] σ := by
  intro n
  induction n with
  | zero =>
    intro x2 σ hx2 h
    cases h
  | succ n ih =>
    intro x2 σ hx2 h
    rw [X0_dropDependence_L20] at h
    refine g_iload_n C dX0_dropDependence_20 1 rfl ?_
    refine g_aload_n C dX0_dropDependence_21 0 rfl ?_
    refine gf_X0_5 C in_X0_dropDependence_X0 hb (List.mem_of_getElem? (i := 1) rfl) dX0_dropDependence_22 (fun r9 => ?_)
    refine g_icmp_ge C 43 dX0_dropDependence_25 (by decide) hx2 r9 (fun c10 => ?_) (fun c10 => ?_)
    · have h := z_f c10 h
      refine g_sub [] rfl ?_
      exact hk43 _ h
    · have h := z_t c10 h
      refine g_aload_n C dX0_dropDependence_28 0 rfl ?_
      refine g_aload_n C dX0_dropDependence_29 0 rfl ?_
      refine g_iload_n C dX0_dropDependence_30 1 rfl ?_
      refine g_iconst C dX0_dropDependence_31 ?_
      refine g_iadd C dX0_dropDependence_32 ?_
      refine g_iload_n C dX0_dropDependence_33 1 rfl ?_
      obtain ⟨σ13, e12, h⟩ := z_b h
      refine g_callV (n := 3) C (fun hM => c_X0_copyDependence l hM hb hb (by omega) hx2 e12) gX0_dropDependence_X0_copyDependence rfl (by decide) ⟨rfl, rfl⟩ ⟨Nat.le_of_ble_eq_true rfl, Nat.le_of_ble_eq_true rfl⟩ rfl (ly_L0 hb) (lt_loop hb (j := 0) (by decide)) rfl rfl (rest := []) rfl (Nat.le_of_ble_eq_true rfl) dX0_dropDependence_34 ?_
      refine g_iinc C dX0_dropDependence_37 (j := 1) rfl (by decide) (vs' := [(2, .int (Int32.ofInt (x2 + 1))), (0, .ref (ad b))]) rfl ?_
      refine g_goto C 20 dX0_dropDependence_40 (by decide) ?_
      refine g_sub [1, 0] rfl ?_
      exact ih _ _ (by omega) h
set_option maxHeartbeats 4000000 in
set_option maxRecDepth 100000 in
theorem c_X0_dropDependence (l : Launch) {σ : MM} (hM : okM σ) {b : Nat} (hb : IsLoop b) {a1 : Int} (ha1 : inR a1) {σo : MM} (h : X0_dropDependence b a1 σ = some σo) : CtV l yX0_dropDependence wsX0_dropDependence { frames := 1, cells := 0, slots := 0, locals := 23 } (fun ad : Nat → Nat => [.ref (ad b), .int (Int32.ofInt a1)]) σ σo := by
  unfold X0_dropDependence at h
  refine z_ctV (cc := cX0_dropDependence) (maxL := 3) hM (by decide) rfl (fun _ => Nat.le_of_ble_eq_true rfl) (@fun p e s m args below meth c D cy ad A Q C hR => ?_)
  refine g_sub (vs' := [(0, .ref (ad b)), (1, .int (Int32.ofInt a1))]) [0, 1] rfl ?_
  refine g_aload_n C dX0_dropDependence_0 0 rfl ?_
  refine g_iload_n C dX0_dropDependence_1 1 rfl ?_
  obtain ⟨r1, e2, h⟩ := z_b h
  refine g_callI (n := 1) C (fun hM => c_X0_hasDependence l hM hb ha1 e2) gX0_dropDependence_X0_hasDependence rfl (by decide) ⟨rfl, rfl⟩ ⟨Nat.le_of_ble_eq_true rfl, Nat.le_of_ble_eq_true rfl⟩ rfl (ly_L0 hb) (lt_loop hb (j := 0) (by decide)) rfl rfl (rest := []) rfl (Nat.le_of_ble_eq_true rfl) dX0_dropDependence_2 (fun q3 => ?_)
  have q3 : r1 = 0 ∨ r1 = 1 := q3
  refine g_if_eq C 43 dX0_dropDependence_5 (by decide) (rgT_inR (rt := 1) q3) (fun c4 => ?_) (fun c4 => ?_)
  · have h := z_t c4 h
    obtain rfl := z_s1 h
    exact hR _ _ dX0_dropDependence_43
  · have h := z_f c4 h
    refine g_aload_n C dX0_dropDependence_8 0 rfl ?_
    refine g_dup C dX0_dropDependence_9 rfl ?_
    refine gf_X0_5 C in_X0_dropDependence_X0 hb (List.mem_of_getElem? (i := 1) rfl) dX0_dropDependence_10 (fun r5 => ?_)
    refine g_iconst C dX0_dropDependence_13 ?_
    refine g_isub C dX0_dropDependence_14 ?_
    obtain ⟨g6, h⟩ := z_g h
    refine gp_X0_5 C in_X0_dropDependence_X0 hb (List.mem_of_getElem? (i := 1) rfl) g6 dX0_dropDependence_15 ?_
    obtain ⟨σ7, e8, h⟩ := z_l h
    refine g_mem e8 ?_
    refine g_iload_n C dX0_dropDependence_18 1 rfl ?_
    refine g_istore_n C dX0_dropDependence_19 (by decide) (vs' := [(2, .int (Int32.ofInt a1)), (0, .ref (ad b)), (1, .int (Int32.ofInt a1))]) rfl ?_
    refine g_sub [1, 0] rfl ?_
    refine w_X0_dropDependence_L20 C hb hR ?_ _ _ _ ha1 h
    · intro σ14 h
      obtain rfl := z_s1 h
      exact hR _ _ dX0_dropDependence_43
theorem in_X0_place_X0 : ∀ w ∈ u_ws RX0 TX0 12, w ∈ wsX0_place := fun _ h => List.mem_cons_of_mem _ (List.mem_append_right _ h)
set_option maxHeartbeats 4000000 in
set_option maxRecDepth 100000 in
theorem c_X0_place (l : Launch) {σ : MM} (hM : okM σ) {b : Nat} (hb : IsLoop b) {a1 : Int} (ha1 : inR a1) {a2 : Int} (ha2 : inR a2) {σo : MM} (h : X0_place b a1 a2 σ = some σo) : CtV l yX0_place wsX0_place { frames := 1, cells := 0, slots := 0, locals := 21 } (fun ad : Nat → Nat => [.ref (ad b), .int (Int32.ofInt a1), .int (Int32.ofInt a2)]) σ σo := by
  unfold X0_place at h
  refine z_ctV (cc := cX0_place) (maxL := 3) hM (by decide) rfl (fun _ => Nat.le_of_ble_eq_true rfl) (@fun p e s m args below meth c D cy ad A Q C hR => ?_)
  refine g_sub (vs' := [(0, .ref (ad b)), (1, .int (Int32.ofInt a1)), (2, .int (Int32.ofInt a2))]) [0, 1, 2] rfl ?_
  refine g_aload_n C dX0_place_0 0 rfl ?_
  refine g_iload_n C dX0_place_1 1 rfl ?_
  obtain ⟨r1, e2, h⟩ := z_b h
  refine g_callI (n := 1) C (fun hM => c_X0_hasStatement l hM hb ha1 e2) gX0_place_X0_hasStatement rfl (by decide) ⟨rfl, rfl⟩ ⟨Nat.le_of_ble_eq_true rfl, Nat.le_of_ble_eq_true rfl⟩ rfl (ly_L0 hb) (lt_loop hb (j := 0) (by decide)) rfl rfl (rest := []) rfl (Nat.le_of_ble_eq_true rfl) dX0_place_2 (fun q3 => ?_)
  have q3 : r1 = 0 ∨ r1 = 1 := q3
  refine g_if_eq C 30 dX0_place_5 (by decide) (rgT_inR (rt := 1) q3) (fun c4 => ?_) (fun c4 => ?_)
  · have h := z_t c4 h
    obtain rfl := z_s1 h
    exact hR _ _ dX0_place_30
  · have h := z_f c4 h
    refine g_aload_n C dX0_place_8 0 rfl ?_
    refine g_iload_n C dX0_place_9 2 rfl ?_
    obtain ⟨r5, e6, h⟩ := z_b h
    refine g_callI (n := 1) C (fun hM => c_X0_hasPosition l hM hb ha2 e6) gX0_place_X0_hasPosition rfl (by decide) ⟨rfl, rfl⟩ ⟨Nat.le_of_ble_eq_true rfl, Nat.le_of_ble_eq_true rfl⟩ rfl (ly_L0 hb) (lt_loop hb (j := 0) (by decide)) rfl rfl (rest := []) rfl (Nat.le_of_ble_eq_true rfl) dX0_place_10 (fun q7 => ?_)
    have q7 : r5 = 0 ∨ r5 = 1 := q7
    refine g_if_eq C 30 dX0_place_13 (by decide) (rgT_inR (rt := 1) q7) (fun c8 => ?_) (fun c8 => ?_)
    · have h := z_t c8 h
      obtain rfl := z_s1 h
      exact hR _ _ dX0_place_30
    · have h := z_f c8 h
      refine g_aload_n C dX0_place_16 0 rfl ?_
      refine gf_X0_3 C in_X0_place_X0 hb (List.mem_of_getElem? (i := 1) rfl) dX0_place_17 ?_
      refine g_iload_n C dX0_place_20 2 rfl ?_
      refine g_iload_n C dX0_place_21 1 rfl ?_
      obtain ⟨g9, h⟩ := z_g h
      refine g_iast C (ly_L3 hb) (lt_loop hb (j := 3) (by decide)) (by decide) g9 ha1 dX0_place_22 ?_
      obtain ⟨σ10, e11, h⟩ := z_l h
      refine g_mem e11 ?_
      refine g_aload_n C dX0_place_23 0 rfl ?_
      refine gf_X0_2 C in_X0_place_X0 hb (List.mem_of_getElem? (i := 2) rfl) dX0_place_24 ?_
      refine g_iload_n C dX0_place_27 1 rfl ?_
      refine g_iload_n C dX0_place_28 2 rfl ?_
      obtain ⟨g12, h⟩ := z_g h
      refine g_iast C (ly_L2 hb) (lt_loop hb (j := 2) (by decide)) (by decide) g12 ha2 dX0_place_29 ?_
      obtain ⟨σ13, e14, h⟩ := z_l h
      refine g_mem e14 ?_
      obtain rfl := z_s1 h
      exact hR _ _ dX0_place_30
set_option maxHeartbeats 4000000 in
set_option maxRecDepth 100000 in
theorem c_X0_swap (l : Launch) {σ : MM} (hM : okM σ) {b : Nat} (hb : IsLoop b) {a1 : Int} (ha1 : inR a1) {a2 : Int} (ha2 : inR a2) {σo : MM} (h : X0_swap b a1 a2 σ = some σo) : CtV l yX0_swap wsX0_swap { frames := 2, cells := 0, slots := 0, locals := 43 } (fun ad : Nat → Nat => [.ref (ad b), .int (Int32.ofInt a1), .int (Int32.ofInt a2)]) σ σo := by
  unfold X0_swap at h
  refine z_ctV (cc := cX0_swap) (maxL := 5) hM (by decide) rfl (fun _ => Nat.le_of_ble_eq_true rfl) (@fun p e s m args below meth c D cy ad A Q C hR => ?_)
  refine g_sub (vs' := [(0, .ref (ad b)), (1, .int (Int32.ofInt a1)), (2, .int (Int32.ofInt a2))]) [0, 1, 2] rfl ?_
  refine g_aload_n C dX0_swap_0 0 rfl ?_
  refine g_iload_n C dX0_swap_1 1 rfl ?_
  obtain ⟨r1, e2, h⟩ := z_b h
  refine g_callI (n := 1) C (fun hM => c_X0_statementAt l hM hb ha1 e2) gX0_swap_X0_statementAt rfl (by decide) ⟨rfl, rfl⟩ ⟨Nat.le_of_ble_eq_true rfl, Nat.le_of_ble_eq_true rfl⟩ rfl (ly_L0 hb) (lt_loop hb (j := 0) (by decide)) rfl rfl (rest := []) rfl (Nat.le_of_ble_eq_true rfl) dX0_swap_2 (fun q3 => ?_)
  have q3 : inR r1 := q3
  refine g_istore_n C dX0_swap_5 (by decide) (vs' := [(3, .int (Int32.ofInt r1)), (0, .ref (ad b)), (1, .int (Int32.ofInt a1)), (2, .int (Int32.ofInt a2))]) rfl ?_
  refine g_aload_n C dX0_swap_6 1 rfl ?_
  refine g_iload_n C dX0_swap_7 3 rfl ?_
  obtain ⟨r4, e5, h⟩ := z_b h
  refine g_callI (n := 1) C (fun hM => c_X0_statementAt l hM hb ha2 e5) gX0_swap_X0_statementAt rfl (by decide) ⟨rfl, rfl⟩ ⟨Nat.le_of_ble_eq_true rfl, Nat.le_of_ble_eq_true rfl⟩ rfl (ly_L0 hb) (lt_loop hb (j := 0) (by decide)) rfl rfl (rest := []) rfl (Nat.le_of_ble_eq_true rfl) dX0_swap_8 (fun q6 => ?_)
  have q6 : inR r4 := q6
  refine g_istore C dX0_swap_11 (by decide) (vs' := [(4, .int (Int32.ofInt r4)), (3, .int (Int32.ofInt r1)), (0, .ref (ad b)), (1, .int (Int32.ofInt a1)), (2, .int (Int32.ofInt a2))]) rfl ?_
  refine g_aload_n C dX0_swap_13 2 rfl ?_
  refine g_iload C dX0_swap_14 0 rfl ?_
  refine g_iload_n C dX0_swap_16 3 rfl ?_
  obtain ⟨σ9, e8, h⟩ := z_b h
  refine g_callV (n := 2) C (fun hM => c_X0_place l hM hb q6 ha1 e8) gX0_swap_X0_place rfl (by decide) ⟨rfl, rfl⟩ ⟨Nat.le_of_ble_eq_true rfl, Nat.le_of_ble_eq_true rfl⟩ rfl (ly_L0 hb) (lt_loop hb (j := 0) (by decide)) rfl rfl (rest := []) rfl (Nat.le_of_ble_eq_true rfl) dX0_swap_17 ?_
  refine g_aload_n C dX0_swap_20 2 rfl ?_
  refine g_iload_n C dX0_swap_21 1 rfl ?_
  refine g_iload_n C dX0_swap_22 4 rfl ?_
  obtain ⟨σ12, e11, h⟩ := z_b h
  refine g_callV (n := 2) C (fun hM => c_X0_place l hM hb q3 ha2 e11) gX0_swap_X0_place rfl (by decide) ⟨rfl, rfl⟩ ⟨Nat.le_of_ble_eq_true rfl, Nat.le_of_ble_eq_true rfl⟩ rfl (ly_L0 hb) (lt_loop hb (j := 0) (by decide)) rfl rfl (rest := []) rfl (Nat.le_of_ble_eq_true rfl) dX0_swap_23 ?_
  obtain rfl := z_s1 h
  exact hR _ _ dX0_swap_26
theorem in_X0_isOrdered_X0 : ∀ w ∈ u_ws RX0 TX0 12, w ∈ wsX0_isOrdered := fun _ h => List.mem_cons_of_mem _ (List.mem_append_right _ h)
set_option maxHeartbeats 4000000 in
set_option maxRecDepth 100000 in
theorem w_X0_isOrdered_L2 {p : Program} {l : Launch} {e : Env} {s : State} {m : MethodId} {args : Array Value} {below : List Frame} {meth : Method} {c : Code} {D : va_G} {cy : Nat → ClassId} {ad : Nat → Nat} {A : Nat → Prop} {Q : State → Prop} (C : Cx p s m args meth c cX0_isOrdered RX0 4 wsX0_isOrdered D cy A) {b : Nat} (hb : IsLoop b) {σ : MM} {x1 : Int} (hx1 : inR x1) {x2 : Int} (hx2 : inR x2) {k47 : Option Int} {ro : Int} (hR : RetI p l e { frames := 0, cells := 0, slots := 0, locals := 0 } s m args below meth c cX0_isOrdered 4 D cy ad A Q 1 ro σ) (hk47 :  k47 = some ro → G p l e { frames := 0, cells := 0, slots := 0, locals := 0 } s m args below meth c 4 D cy ad A Q 47 [] [] σ) : ∀ (n : Nat) (x3 : Int) , inR x3 → X0_isOrdered_L2 b x1 x2 σ k47 n x3 = some ro → G p l e { frames := 0, cells := 0, slots := 0, locals := 0 } s m args below meth c 4 D cy ad A Q 2 [(0, .ref (ad b)), (1, .int (Int32.ofInt x1)), (2, .int (Int32.ofInt x2)), (3, .int (Int32.ofInt x3))] [] σ := by
  intro n
  induction n with
  | zero =>
    intro x3 hx3 h
    cases h
  | succ n ih =>
    intro x3 hx3 h
    rw [X0_isOrdered_L2] at h
    refine g_iload_n C dX0_isOrdered_2 3 rfl ?_
    refine g_aload_n C dX0_isOrdered_3 0 rfl ?_
    refine gf_X0_5 C in_X0_isOrdered_X0 hb (List.mem_of_getElem? (i := 1) rfl) dX0_isOrdered_4 (fun r1 => ?_)
    refine g_icmp_ge C 47 dX0_isOrdered_7 (by decide) hx3 r1 (fun c2 => ?_) (fun c2 => ?_)
    · have h := z_f c2 h
      refine g_sub [] rfl ?_
      exact hk47  h
    · have h := z_t c2 h
      refine g_aload_n C dX0_isOrdered_10 0 rfl ?_
      refine gf_X0_9 C in_X0_isOrdered_X0 hb (List.mem_of_getElem? (i := 2) rfl) dX0_isOrdered_11 ?_
      refine g_iload_n C dX0_isOrdered_14 3 rfl ?_
      obtain ⟨g3, h⟩ := z_g h
      refine g_iald C (ly_L8 hb) (lt_loop hb (j := 8) (by decide)) (by decide) g3 dX0_isOrdered_15 (fun r4 => ?_)
      refine g_if_ne C 41 dX0_isOrdered_16 (by decide) r4 (fun c5 => ?_) (fun c5 => ?_)
      · have h := z_f c5 h
        refine g_iinc C dX0_isOrdered_41 (j := 3) rfl (by decide) (vs' := [(3, .int (Int32.ofInt (x3 + 1))), (0, .ref (ad b)), (1, .int (Int32.ofInt x1)), (2, .int (Int32.ofInt x2))]) rfl ?_
        refine g_goto C 2 dX0_isOrdered_44 (by decide) ?_
        refine g_sub [1, 2, 3, 0] rfl ?_
        exact ih _ (by omega) h
      · have h := z_t c5 h
        refine g_aload_n C dX0_isOrdered_19 0 rfl ?_
        refine gf_X0_7 C in_X0_isOrdered_X0 hb (List.mem_of_getElem? (i := 3) rfl) dX0_isOrdered_20 ?_
        refine g_iload_n C dX0_isOrdered_23 3 rfl ?_
        refine g_iald C (ly_L6 hb) (lt_loop hb (j := 6) (by decide)) (by decide) (by omega) dX0_isOrdered_24 (fun r6 => ?_)
        refine g_iload_n C dX0_isOrdered_25 1 rfl ?_
        refine g_icmp_ne C 41 dX0_isOrdered_26 (by decide) r6 hx1 (fun c7 => ?_) (fun c7 => ?_)
        · have h := z_f c7 h
          refine g_iinc C dX0_isOrdered_41 (j := 3) rfl (by decide) (vs' := [(3, .int (Int32.ofInt (x3 + 1))), (0, .ref (ad b)), (1, .int (Int32.ofInt x1)), (2, .int (Int32.ofInt x2))]) rfl ?_
          refine g_goto C 2 dX0_isOrdered_44 (by decide) ?_
          refine g_sub [1, 2, 3, 0] rfl ?_
          exact ih _ (by omega) h
        · have h := z_t c7 h
          refine g_aload_n C dX0_isOrdered_29 0 rfl ?_
          refine gf_X0_8 C in_X0_isOrdered_X0 hb (List.mem_of_getElem? (i := 4) rfl) dX0_isOrdered_30 ?_
          refine g_iload_n C dX0_isOrdered_33 3 rfl ?_
          refine g_iald C (ly_L7 hb) (lt_loop hb (j := 7) (by decide)) (by decide) (by omega) dX0_isOrdered_34 (fun r8 => ?_)
          refine g_iload_n C dX0_isOrdered_35 2 rfl ?_
          refine g_icmp_ne C 41 dX0_isOrdered_36 (by decide) r8 hx2 (fun c9 => ?_) (fun c9 => ?_)
          · have h := z_f c9 h
            refine g_iinc C dX0_isOrdered_41 (j := 3) rfl (by decide) (vs' := [(3, .int (Int32.ofInt (x3 + 1))), (0, .ref (ad b)), (1, .int (Int32.ofInt x1)), (2, .int (Int32.ofInt x2))]) rfl ?_
            refine g_goto C 2 dX0_isOrdered_44 (by decide) ?_
            refine g_sub [1, 2, 3, 0] rfl ?_
            exact ih _ (by omega) h
          · have h := z_t c9 h
            refine g_iconst C dX0_isOrdered_39 ?_
            obtain rfl := z_s1 h
            exact hR _ _ dX0_isOrdered_40 (by show _ = _ ∨ _ = _; decide)
set_option maxHeartbeats 4000000 in
set_option maxRecDepth 100000 in
theorem c_X0_isOrdered (l : Launch) {σ : MM} (hM : okM σ) {b : Nat} (hb : IsLoop b) {a1 : Int} (ha1 : inR a1) {a2 : Int} (ha2 : inR a2) {ro : Int} (h : X0_isOrdered b a1 a2 σ = some ro) : CtI l yX0_isOrdered wsX0_isOrdered { frames := 0, cells := 0, slots := 0, locals := 0 } (fun ad : Nat → Nat => [.ref (ad b), .int (Int32.ofInt a1), .int (Int32.ofInt a2)]) σ 1 ro σ := by
  unfold X0_isOrdered at h
  refine z_ctI (cc := cX0_isOrdered) (maxL := 4) (rt := 1) hM (by decide) rfl (fun _ => Nat.le_of_ble_eq_true rfl) (@fun p e s m args below meth c D cy ad A Q C hR => ?_)
  refine g_sub (vs' := [(0, .ref (ad b)), (1, .int (Int32.ofInt a1)), (2, .int (Int32.ofInt a2))]) [0, 1, 2] rfl ?_
  refine g_iconst C dX0_isOrdered_0 ?_
  refine g_istore_n C dX0_isOrdered_1 (by decide) (vs' := [(3, .int (Int32.ofInt 0)), (0, .ref (ad b)), (1, .int (Int32.ofInt a1)), (2, .int (Int32.ofInt a2))]) rfl ?_
  refine g_sub [1, 2, 3, 0] rfl ?_
  refine w_X0_isOrdered_L2 C hb ha1 ha2 hR ?_ _ _ (by decide) h
  · intro h
    refine g_iconst C dX0_isOrdered_47 ?_
    obtain rfl := z_s1 h
    exact hR _ _ dX0_isOrdered_48 (by show _ = _ ∨ _ = _; decide)
theorem in_X0_isLegalOrder_X0 : ∀ w ∈ u_ws RX0 TX0 12, w ∈ wsX0_isLegalOrder := fun _ h => List.mem_cons_of_mem _ (List.mem_append_right _ h)
set_option maxHeartbeats 4000000 in
set_option maxRecDepth 100000 in
theorem w_X0_isLegalOrder_L2 {p : Program} {l : Launch} {e : Env} {s : State} {m : MethodId} {args : Array Value} {below : List Frame} {meth : Method} {c : Code} {D : va_G} {cy : Nat → ClassId} {ad : Nat → Nat} {A : Nat → Prop} {Q : State → Prop} (C : Cx p s m args meth c cX0_isLegalOrder RX0 2 wsX0_isLegalOrder D cy A) {b : Nat} (hb : IsLoop b) {σ : MM} {k50 : Option Int} {ro : Int} (hR : RetI p l e { frames := 1, cells := 0, slots := 0, locals := 21 } s m args below meth c cX0_isLegalOrder 2 D cy ad A Q 1 ro σ) (hk50 :  k50 = some ro → G p l e { frames := 1, cells := 0, slots := 0, locals := 21 } s m args below meth c 2 D cy ad A Q 50 [] [] σ) : ∀ (n : Nat) (x1 : Int) , inR x1 → X0_isLegalOrder_L2 b σ k50 n x1 = some ro → G p l e { frames := 1, cells := 0, slots := 0, locals := 21 } s m args below meth c 2 D cy ad A Q 2 [(0, .ref (ad b)), (1, .int (Int32.ofInt x1))] [] σ := by
  intro n
  induction n with
  | zero =>
    intro x1 hx1 h
    cases h
  | succ n ih =>
    intro x1 hx1 h
    rw [X0_isLegalOrder_L2] at h
    refine g_iload_n C dX0_isLegalOrder_2 1 rfl ?_
    refine g_aload_n C dX0_isLegalOrder_3 0 rfl ?_
    refine gf_X0_5 C in_X0_isLegalOrder_X0 hb (List.mem_of_getElem? (i := 1) rfl) dX0_isLegalOrder_4 (fun r1 => ?_)
    refine g_icmp_ge C 50 dX0_isLegalOrder_7 (by decide) hx1 r1 (fun c2 => ?_) (fun c2 => ?_)
    · have h := z_f c2 h
      refine g_sub [] rfl ?_
      exact hk50  h
    · have h := z_t c2 h
      refine g_aload_n C dX0_isLegalOrder_10 0 rfl ?_
      refine gf_X0_9 C in_X0_isLegalOrder_X0 hb (List.mem_of_getElem? (i := 2) rfl) dX0_isLegalOrder_11 ?_
      refine g_iload_n C dX0_isLegalOrder_14 1 rfl ?_
      obtain ⟨g3, h⟩ := z_g h
      refine g_iald C (ly_L8 hb) (lt_loop hb (j := 8) (by decide)) (by decide) g3 dX0_isLegalOrder_15 (fun r4 => ?_)
      refine g_if_ne C 44 dX0_isLegalOrder_16 (by decide) r4 (fun c5 => ?_) (fun c5 => ?_)
      · have h := z_f c5 h
        refine g_iinc C dX0_isLegalOrder_44 (j := 1) rfl (by decide) (vs' := [(1, .int (Int32.ofInt (x1 + 1))), (0, .ref (ad b))]) rfl ?_
        refine g_goto C 2 dX0_isLegalOrder_47 (by decide) ?_
        refine g_sub [1, 0] rfl ?_
        exact ih _ (by omega) h
      · have h := z_t c5 h
        refine g_aload_n C dX0_isLegalOrder_19 0 rfl ?_
        refine g_aload_n C dX0_isLegalOrder_20 0 rfl ?_
        refine gf_X0_7 C in_X0_isLegalOrder_X0 hb (List.mem_of_getElem? (i := 3) rfl) dX0_isLegalOrder_21 ?_
        refine g_iload_n C dX0_isLegalOrder_24 1 rfl ?_
        refine g_iald C (ly_L6 hb) (lt_loop hb (j := 6) (by decide)) (by decide) (by omega) dX0_isLegalOrder_25 (fun r6 => ?_)
        obtain ⟨r7, e8, h⟩ := z_b h
        refine g_callI (n := 1) C (fun hM => c_X0_positionOf l hM hb r6 e8) gX0_isLegalOrder_X0_positionOf rfl (by decide) ⟨rfl, rfl⟩ ⟨Nat.le_of_ble_eq_true rfl, Nat.le_of_ble_eq_true rfl⟩ rfl (ly_L0 hb) (lt_loop hb (j := 0) (by decide)) rfl rfl (rest := []) rfl (Nat.le_of_ble_eq_true rfl) dX0_isLegalOrder_26 (fun q9 => ?_)
        have q9 : inR r7 := q9
        refine g_aload_n C dX0_isLegalOrder_29 0 rfl ?_
        refine g_aload_n C dX0_isLegalOrder_30 0 rfl ?_
        refine gf_X0_8 C in_X0_isLegalOrder_X0 hb (List.mem_of_getElem? (i := 4) rfl) dX0_isLegalOrder_31 ?_
        refine g_iload_n C dX0_isLegalOrder_34 1 rfl ?_
        refine g_iald C (ly_L7 hb) (lt_loop hb (j := 7) (by decide)) (by decide) (by omega) dX0_isLegalOrder_35 (fun r10 => ?_)
        obtain ⟨r11, e12, h⟩ := z_b h
        refine g_callI (n := 1) C (fun hM => c_X0_positionOf l hM hb r10 e12) gX0_isLegalOrder_X0_positionOf rfl (by decide) ⟨rfl, rfl⟩ ⟨Nat.le_of_ble_eq_true rfl, Nat.le_of_ble_eq_true rfl⟩ rfl (ly_L0 hb) (lt_loop hb (j := 0) (by decide)) rfl rfl (rest := [.int (Int32.ofInt r7)]) rfl (Nat.le_of_ble_eq_true rfl) dX0_isLegalOrder_36 (fun q13 => ?_)
        have q13 : inR r11 := q13
        refine g_icmp_lt C 44 dX0_isLegalOrder_39 (by decide) q9 q13 (fun c14 => ?_) (fun c14 => ?_)
        · have h := z_t c14 h
          refine g_iinc C dX0_isLegalOrder_44 (j := 1) rfl (by decide) (vs' := [(1, .int (Int32.ofInt (x1 + 1))), (0, .ref (ad b))]) rfl ?_
          refine g_goto C 2 dX0_isLegalOrder_47 (by decide) ?_
          refine g_sub [1, 0] rfl ?_
          exact ih _ (by omega) h
        · have h := z_f c14 h
          refine g_iconst C dX0_isLegalOrder_42 ?_
          obtain rfl := z_s1 h
          exact hR _ _ dX0_isLegalOrder_43 (by show _ = _ ∨ _ = _; decide)
set_option maxHeartbeats 4000000 in
set_option maxRecDepth 100000 in
theorem c_X0_isLegalOrder (l : Launch) {σ : MM} (hM : okM σ) {b : Nat} (hb : IsLoop b) {ro : Int} (h : X0_isLegalOrder b σ = some ro) : CtI l yX0_isLegalOrder wsX0_isLegalOrder { frames := 1, cells := 0, slots := 0, locals := 21 } (fun ad : Nat → Nat => [.ref (ad b)]) σ 1 ro σ := by
  unfold X0_isLegalOrder at h
  refine z_ctI (cc := cX0_isLegalOrder) (maxL := 2) (rt := 1) hM (by decide) rfl (fun _ => Nat.le_of_ble_eq_true rfl) (@fun p e s m args below meth c D cy ad A Q C hR => ?_)
  refine g_sub (vs' := [(0, .ref (ad b))]) [0] rfl ?_
  refine g_iconst C dX0_isLegalOrder_0 ?_
  refine g_istore_n C dX0_isLegalOrder_1 (by decide) (vs' := [(1, .int (Int32.ofInt 0)), (0, .ref (ad b))]) rfl ?_
  refine g_sub [1, 0] rfl ?_
  refine w_X0_isLegalOrder_L2 C hb hR ?_ _ _ (by decide) h
  · intro h
    refine g_iconst C dX0_isLegalOrder_50 ?_
    obtain rfl := z_s1 h
    exact hR _ _ dX0_isLegalOrder_51 (by show _ = _ ∨ _ = _; decide)
theorem in_X0_nextOf_X0 : ∀ w ∈ u_ws RX0 TX0 12, w ∈ wsX0_nextOf := fun _ h => List.mem_cons_of_mem _ (List.mem_append_right _ h)
set_option maxHeartbeats 4000000 in
set_option maxRecDepth 100000 in
theorem w_X0_nextOf_L4 {p : Program} {l : Launch} {e : Env} {s : State} {m : MethodId} {args : Array Value} {below : List Frame} {meth : Method} {c : Code} {D : va_G} {cy : Nat → ClassId} {ad : Nat → Nat} {A : Nat → Prop} {Q : State → Prop} (C : Cx p s m args meth c cX0_nextOf RX0 4 wsX0_nextOf D cy A) {b : Nat} (hb : IsLoop b) {σ : MM} {x1 : Int} (hx1 : inR x1) {k48 : Int → Option Int} {ro : Int} (hR : RetI p l e { frames := 0, cells := 0, slots := 0, locals := 0 } s m args below meth c cX0_nextOf 4 D cy ad A Q 0 ro σ) (hk48 : ∀ (z2 : Int), inR z2 → k48 z2 = some ro → G p l e { frames := 0, cells := 0, slots := 0, locals := 0 } s m args below meth c 4 D cy ad A Q 48 [(2, .int (Int32.ofInt z2))] [] σ) : ∀ (n : Nat) (x2 x3 : Int) , inR x2 → inR x3 → X0_nextOf_L4 b x1 σ k48 n x2 x3 = some ro → G p l e { frames := 0, cells := 0, slots := 0, locals := 0 } s m args below meth c 4 D cy ad A Q 4 [(0, .ref (ad b)), (1, .int (Int32.ofInt x1)), (2, .int (Int32.ofInt x2)), (3, .int (Int32.ofInt x3))] [] σ := by
  intro n
  induction n with
  | zero =>
    intro x2 x3 hx2 hx3 h
    cases h
  | succ n ih =>
    intro x2 x3 hx2 hx3 h
    rw [X0_nextOf_L4] at h
    refine g_iload_n C dX0_nextOf_4 3 rfl ?_
    refine g_aload_n C dX0_nextOf_5 0 rfl ?_
    refine gf_X0_5 C in_X0_nextOf_X0 hb (List.mem_of_getElem? (i := 1) rfl) dX0_nextOf_6 (fun r1 => ?_)
    refine g_icmp_ge C 48 dX0_nextOf_9 (by decide) hx3 r1 (fun c2 => ?_) (fun c2 => ?_)
    · have h := z_f c2 h
      refine g_sub [2] rfl ?_
      exact hk48 _ hx2 h
    · have h := z_t c2 h
      refine g_aload_n C dX0_nextOf_12 0 rfl ?_
      refine gf_X0_9 C in_X0_nextOf_X0 hb (List.mem_of_getElem? (i := 2) rfl) dX0_nextOf_13 ?_
      refine g_iload_n C dX0_nextOf_16 3 rfl ?_
      obtain ⟨g3, h⟩ := z_g h
      refine g_iald C (ly_L8 hb) (lt_loop hb (j := 8) (by decide)) (by decide) g3 dX0_nextOf_17 (fun r4 => ?_)
      refine g_if_ne C 42 dX0_nextOf_18 (by decide) r4 (fun c5 => ?_) (fun c5 => ?_)
      · have h := z_f c5 h
        refine g_iinc C dX0_nextOf_42 (j := 3) rfl (by decide) (vs' := [(3, .int (Int32.ofInt (x3 + 1))), (0, .ref (ad b)), (1, .int (Int32.ofInt x1)), (2, .int (Int32.ofInt x2))]) rfl ?_
        refine g_goto C 4 dX0_nextOf_45 (by decide) ?_
        refine g_sub [1, 2, 3, 0] rfl ?_
        exact ih _ _ hx2 (by omega) h
      · have h := z_t c5 h
        refine g_aload_n C dX0_nextOf_21 0 rfl ?_
        refine gf_X0_7 C in_X0_nextOf_X0 hb (List.mem_of_getElem? (i := 3) rfl) dX0_nextOf_22 ?_
        refine g_iload_n C dX0_nextOf_25 3 rfl ?_
        refine g_iald C (ly_L6 hb) (lt_loop hb (j := 6) (by decide)) (by decide) (by omega) dX0_nextOf_26 (fun r6 => ?_)
        refine g_iload_n C dX0_nextOf_27 1 rfl ?_
        refine g_icmp_ne C 42 dX0_nextOf_28 (by decide) r6 hx1 (fun c7 => ?_) (fun c7 => ?_)
        · have h := z_f c7 h
          refine g_iinc C dX0_nextOf_42 (j := 3) rfl (by decide) (vs' := [(3, .int (Int32.ofInt (x3 + 1))), (0, .ref (ad b)), (1, .int (Int32.ofInt x1)), (2, .int (Int32.ofInt x2))]) rfl ?_
          refine g_goto C 4 dX0_nextOf_45 (by decide) ?_
          refine g_sub [1, 2, 3, 0] rfl ?_
          exact ih _ _ hx2 (by omega) h
        · have h := z_t c7 h
          refine g_iload_n C dX0_nextOf_31 2 rfl ?_
          refine g_iconst C dX0_nextOf_32 ?_
          refine g_aload_n C dX0_nextOf_33 0 rfl ?_
          refine gf_X0_8 C in_X0_nextOf_X0 hb (List.mem_of_getElem? (i := 4) rfl) dX0_nextOf_34 ?_
          refine g_iload_n C dX0_nextOf_37 3 rfl ?_
          refine g_iald C (ly_L7 hb) (lt_loop hb (j := 7) (by decide)) (by decide) (by omega) dX0_nextOf_38 (fun r8 => ?_)
          refine g_ishl C dX0_nextOf_39 ?_
          refine g_ior C dX0_nextOf_40 ?_
          refine g_istore_n C dX0_nextOf_41 (by decide) (vs' := [(2, .int (Int32.ofInt (jor x2 (jshl 1 (σ (b + 7) x3))))), (0, .ref (ad b)), (1, .int (Int32.ofInt x1)), (3, .int (Int32.ofInt x3))]) rfl ?_
          refine g_iinc C dX0_nextOf_42 (j := 3) rfl (by decide) (vs' := [(3, .int (Int32.ofInt (x3 + 1))), (2, .int (Int32.ofInt (jor x2 (jshl 1 (σ (b + 7) x3))))), (0, .ref (ad b)), (1, .int (Int32.ofInt x1))]) rfl ?_
          refine g_goto C 4 dX0_nextOf_45 (by decide) ?_
          refine g_sub [2, 3, 1, 0] rfl ?_
          exact ih _ _ (jor_R _ _) (by omega) h
set_option maxHeartbeats 4000000 in
set_option maxRecDepth 100000 in
theorem c_X0_nextOf (l : Launch) {σ : MM} (hM : okM σ) {b : Nat} (hb : IsLoop b) {a1 : Int} (ha1 : inR a1) {ro : Int} (h : X0_nextOf b a1 σ = some ro) : CtI l yX0_nextOf wsX0_nextOf { frames := 0, cells := 0, slots := 0, locals := 0 } (fun ad : Nat → Nat => [.ref (ad b), .int (Int32.ofInt a1)]) σ 0 ro σ := by
  unfold X0_nextOf at h
  refine z_ctI (cc := cX0_nextOf) (maxL := 4) (rt := 0) hM (by decide) rfl (fun _ => Nat.le_of_ble_eq_true rfl) (@fun p e s m args below meth c D cy ad A Q C hR => ?_)
  refine g_sub (vs' := [(0, .ref (ad b)), (1, .int (Int32.ofInt a1))]) [0, 1] rfl ?_
  refine g_iconst C dX0_nextOf_0 ?_
  refine g_istore_n C dX0_nextOf_1 (by decide) (vs' := [(2, .int (Int32.ofInt 0)), (0, .ref (ad b)), (1, .int (Int32.ofInt a1))]) rfl ?_
  refine g_iconst C dX0_nextOf_2 ?_
  refine g_istore_n C dX0_nextOf_3 (by decide) (vs' := [(3, .int (Int32.ofInt 0)), (2, .int (Int32.ofInt 0)), (0, .ref (ad b)), (1, .int (Int32.ofInt a1))]) rfl ?_
  refine g_sub [2, 3, 1, 0] rfl ?_
  refine w_X0_nextOf_L4 C hb ha1 hR ?_ _ _ _ (by decide) (by decide) h
  · intro z9 hz9 h
    refine g_iload_n C dX0_nextOf_48 0 rfl ?_
    obtain rfl := z_s1 h
    exact hR _ _ dX0_nextOf_49 hz9
theorem in_X0_followersOf_X0 : ∀ w ∈ u_ws RX0 TX0 12, w ∈ wsX0_followersOf := fun _ h => List.mem_cons_of_mem _ (List.mem_append_right _ h)
set_option maxHeartbeats 4000000 in
set_option maxRecDepth 100000 in
theorem w_X0_followersOf_L8 {p : Program} {l : Launch} {e : Env} {s : State} {m : MethodId} {args : Array Value} {below : List Frame} {meth : Method} {c : Code} {D : va_G} {cy : Nat → ClassId} {ad : Nat → Nat} {A : Nat → Prop} {Q : State → Prop} (C : Cx p s m args meth c cX0_followersOf RX0 5 wsX0_followersOf D cy A) {b : Nat} (hb : IsLoop b) {σ : MM} {x1 : Int} (hx1 : inR x1) {k54 : Int → Option Int} {ro : Int} (hR : RetI p l e { frames := 1, cells := 0, slots := 0, locals := 23 } s m args below meth c cX0_followersOf 5 D cy ad A Q 0 ro σ) (hk54 : ∀ (z2 : Int), inR z2 → k54 z2 = some ro → G p l e { frames := 1, cells := 0, slots := 0, locals := 23 } s m args below meth c 5 D cy ad A Q 54 [(2, .int (Int32.ofInt z2))] [] σ) : ∀ (n : Nat) (x2 x3 : Int) , inR x2 → inR x3 → X0_followersOf_L8 b x1 σ k54 n x2 x3 = some ro → G p l e { frames := 1, cells := 0, slots := 0, locals := 23 } s m args below meth c 5 D cy ad A Q 8 [(0, .ref (ad b)), (1, .int (Int32.ofInt x1)), (2, .int (Int32.ofInt x2)), (3, .int (Int32.ofInt x3))] [] σ := by
  intro n
  induction n with
  | zero =>
    intro x2 x3 hx2 hx3 h
    cases h
  | succ n ih =>
    intro x2 x3 hx2 hx3 h
    rw [X0_followersOf_L8] at h
    refine g_iload_n C dX0_followersOf_8 3 rfl ?_
    refine g_aload_n C dX0_followersOf_9 0 rfl ?_
    refine gf_X0_0 C in_X0_followersOf_X0 hb (List.mem_of_getElem? (i := 1) rfl) dX0_followersOf_10 (fun r4 => ?_)
    refine g_icmp_ge C 54 dX0_followersOf_13 (by decide) hx3 r4 (fun c5 => ?_) (fun c5 => ?_)
    · have h := z_f c5 h
      refine g_sub [2] rfl ?_
      exact hk54 _ hx2 h
    · have h := z_t c5 h
      refine g_aload_n C dX0_followersOf_16 0 rfl ?_
      refine g_iload_n C dX0_followersOf_17 3 rfl ?_
      obtain ⟨r6, e7, h⟩ := z_b h
      refine g_callI (n := 1) C (fun hM => c_X0_statementAt l hM hb hx3 e7) gX0_followersOf_X0_statementAt rfl (by decide) ⟨rfl, rfl⟩ ⟨Nat.le_of_ble_eq_true rfl, Nat.le_of_ble_eq_true rfl⟩ rfl (ly_L0 hb) (lt_loop hb (j := 0) (by decide)) rfl rfl (rest := []) rfl (Nat.le_of_ble_eq_true rfl) dX0_followersOf_18 (fun q8 => ?_)
      have q8 : inR r6 := q8
      refine g_istore C dX0_followersOf_21 (by decide) (vs' := [(4, .int (Int32.ofInt r6)), (0, .ref (ad b)), (1, .int (Int32.ofInt x1)), (2, .int (Int32.ofInt x2)), (3, .int (Int32.ofInt x3))]) rfl ?_
      refine g_iload C dX0_followersOf_23 0 rfl ?_
      refine g_iload_n C dX0_followersOf_25 2 rfl ?_
      refine g_icmp_eq C 39 dX0_followersOf_26 (by decide) q8 hx1 (fun c9 => ?_) (fun c9 => ?_)
      · have h := z_t c9 h
        refine g_iload_n C dX0_followersOf_39 3 rfl ?_
        refine g_aload_n C dX0_followersOf_40 1 rfl ?_
        refine g_iload C dX0_followersOf_41 0 rfl ?_
        obtain ⟨r10, e11, h⟩ := z_b h
        refine g_callI (n := 1) C (fun hM => c_X0_nextOf l hM hb q8 e11) gX0_followersOf_X0_nextOf rfl (by decide) ⟨rfl, rfl⟩ ⟨Nat.le_of_ble_eq_true rfl, Nat.le_of_ble_eq_true rfl⟩ rfl (ly_L0 hb) (lt_loop hb (j := 0) (by decide)) rfl rfl (rest := [.int (Int32.ofInt x2)]) rfl (Nat.le_of_ble_eq_true rfl) dX0_followersOf_43 (fun q12 => ?_)
        have q12 : inR r10 := q12
        refine g_ior C dX0_followersOf_46 ?_
        refine g_istore_n C dX0_followersOf_47 (by decide) (vs' := [(2, .int (Int32.ofInt (jor x2 r10))), (4, .int (Int32.ofInt r6)), (0, .ref (ad b)), (1, .int (Int32.ofInt x1)), (3, .int (Int32.ofInt x3))]) rfl ?_
        refine g_iinc C dX0_followersOf_48 (j := 4) rfl (by decide) (vs' := [(3, .int (Int32.ofInt (x3 + 1))), (2, .int (Int32.ofInt (jor x2 r10))), (4, .int (Int32.ofInt r6)), (0, .ref (ad b)), (1, .int (Int32.ofInt x1))]) rfl ?_
        refine g_goto C 8 dX0_followersOf_51 (by decide) ?_
        refine g_sub [3, 4, 1, 0] rfl ?_
        exact ih _ _ (jor_R _ _) (by omega) h
      · have h := z_f c9 h
        refine g_iload_n C dX0_followersOf_29 3 rfl ?_
        refine g_iload C dX0_followersOf_30 0 rfl ?_
        refine g_ishr C dX0_followersOf_32 ?_
        refine g_iconst C dX0_followersOf_33 ?_
        refine g_iand C dX0_followersOf_34 ?_
        refine g_iconst C dX0_followersOf_35 ?_
        refine g_icmp_ne C 48 dX0_followersOf_36 (by decide) (jand_R _ _) (by decide) (fun c13 => ?_) (fun c13 => ?_)
        · have h := z_f c13 h
          refine g_iinc C dX0_followersOf_48 (j := 4) rfl (by decide) (vs' := [(3, .int (Int32.ofInt (x3 + 1))), (4, .int (Int32.ofInt r6)), (0, .ref (ad b)), (1, .int (Int32.ofInt x1)), (2, .int (Int32.ofInt x2))]) rfl ?_
          refine g_goto C 8 dX0_followersOf_51 (by decide) ?_
          refine g_sub [2, 3, 4, 0] rfl ?_
          exact ih _ _ hx2 (by omega) h
        · have h := z_t c13 h
          refine g_iload_n C dX0_followersOf_39 3 rfl ?_
          refine g_aload_n C dX0_followersOf_40 1 rfl ?_
          refine g_iload C dX0_followersOf_41 0 rfl ?_
          obtain ⟨r14, e15, h⟩ := z_b h
          refine g_callI (n := 1) C (fun hM => c_X0_nextOf l hM hb q8 e15) gX0_followersOf_X0_nextOf rfl (by decide) ⟨rfl, rfl⟩ ⟨Nat.le_of_ble_eq_true rfl, Nat.le_of_ble_eq_true rfl⟩ rfl (ly_L0 hb) (lt_loop hb (j := 0) (by decide)) rfl rfl (rest := [.int (Int32.ofInt x2)]) rfl (Nat.le_of_ble_eq_true rfl) dX0_followersOf_43 (fun q16 => ?_)
          have q16 : inR r14 := q16
          refine g_ior C dX0_followersOf_46 ?_
          refine g_istore_n C dX0_followersOf_47 (by decide) (vs' := [(2, .int (Int32.ofInt (jor x2 r14))), (4, .int (Int32.ofInt r6)), (0, .ref (ad b)), (1, .int (Int32.ofInt x1)), (3, .int (Int32.ofInt x3))]) rfl ?_
          refine g_iinc C dX0_followersOf_48 (j := 4) rfl (by decide) (vs' := [(3, .int (Int32.ofInt (x3 + 1))), (2, .int (Int32.ofInt (jor x2 r14))), (4, .int (Int32.ofInt r6)), (0, .ref (ad b)), (1, .int (Int32.ofInt x1))]) rfl ?_
          refine g_goto C 8 dX0_followersOf_51 (by decide) ?_
          refine g_sub [3, 4, 1, 0] rfl ?_
          exact ih _ _ (jor_R _ _) (by omega) h
set_option maxHeartbeats 4000000 in
set_option maxRecDepth 100000 in
theorem c_X0_followersOf (l : Launch) {σ : MM} (hM : okM σ) {b : Nat} (hb : IsLoop b) {a1 : Int} (ha1 : inR a1) {ro : Int} (h : X0_followersOf b a1 σ = some ro) : CtI l yX0_followersOf wsX0_followersOf { frames := 1, cells := 0, slots := 0, locals := 23 } (fun ad : Nat → Nat => [.ref (ad b), .int (Int32.ofInt a1)]) σ 0 ro σ := by
  unfold X0_followersOf at h
  refine z_ctI (cc := cX0_followersOf) (maxL := 5) (rt := 0) hM (by decide) rfl (fun _ => Nat.le_of_ble_eq_true rfl) (@fun p e s m args below meth c D cy ad A Q C hR => ?_)
  refine g_sub (vs' := [(0, .ref (ad b)), (1, .int (Int32.ofInt a1))]) [0, 1] rfl ?_
  refine g_iconst C dX0_followersOf_0 ?_
  refine g_istore_n C dX0_followersOf_1 (by decide) (vs' := [(2, .int (Int32.ofInt 0)), (0, .ref (ad b)), (1, .int (Int32.ofInt a1))]) rfl ?_
  refine g_aload_n C dX0_followersOf_2 1 rfl ?_
  refine g_iload_n C dX0_followersOf_3 2 rfl ?_
  obtain ⟨r1, e2, h⟩ := z_b h
  refine g_callI (n := 1) C (fun hM => c_X0_positionOf l hM hb ha1 e2) gX0_followersOf_X0_positionOf rfl (by decide) ⟨rfl, rfl⟩ ⟨Nat.le_of_ble_eq_true rfl, Nat.le_of_ble_eq_true rfl⟩ rfl (ly_L0 hb) (lt_loop hb (j := 0) (by decide)) rfl rfl (rest := []) rfl (Nat.le_of_ble_eq_true rfl) dX0_followersOf_4 (fun q3 => ?_)
  have q3 : inR r1 := q3
  refine g_istore_n C dX0_followersOf_7 (by decide) (vs' := [(3, .int (Int32.ofInt r1)), (2, .int (Int32.ofInt 0)), (0, .ref (ad b)), (1, .int (Int32.ofInt a1))]) rfl ?_
  refine g_sub [2, 3, 1, 0] rfl ?_
  refine w_X0_followersOf_L8 C hb ha1 hR ?_ _ _ _ (by decide) q3 h
  · intro z17 hz17 h
    refine g_iload_n C dX0_followersOf_54 0 rfl ?_
    obtain rfl := z_s1 h
    exact hR _ _ dX0_followersOf_55 hz17
theorem in_X0_isSignalled_X0 : ∀ w ∈ u_ws RX0 TX0 12, w ∈ wsX0_isSignalled := fun _ h => List.mem_cons_of_mem _ (List.mem_append_right _ h)
set_option maxHeartbeats 4000000 in
set_option maxRecDepth 100000 in
theorem c_X0_isSignalled (l : Launch) {σ : MM} (hM : okM σ) {b : Nat} (hb : IsLoop b) {a1 : Int} (ha1 : inR a1) {ro : Int} (h : X0_isSignalled b a1 σ = some ro) : CtI l yX0_isSignalled wsX0_isSignalled { frames := 1, cells := 0, slots := 0, locals := 21 } (fun ad : Nat → Nat => [.ref (ad b), .int (Int32.ofInt a1)]) σ 1 ro σ := by
  unfold X0_isSignalled at h
  refine z_ctI (cc := cX0_isSignalled) (maxL := 2) (rt := 1) hM (by decide) rfl (fun _ => Nat.le_of_ble_eq_true rfl) (@fun p e s m args below meth c D cy ad A Q C hR => ?_)
  refine g_sub (vs' := [(0, .ref (ad b)), (1, .int (Int32.ofInt a1))]) [0, 1] rfl ?_
  refine g_aload_n C dX0_isSignalled_0 0 rfl ?_
  refine g_iload_n C dX0_isSignalled_1 1 rfl ?_
  obtain ⟨r1, e2, h⟩ := z_b h
  refine g_callI (n := 1) C (fun hM => c_X0_hasDependence l hM hb ha1 e2) gX0_isSignalled_X0_hasDependence rfl (by decide) ⟨rfl, rfl⟩ ⟨Nat.le_of_ble_eq_true rfl, Nat.le_of_ble_eq_true rfl⟩ rfl (ly_L0 hb) (lt_loop hb (j := 0) (by decide)) rfl rfl (rest := []) rfl (Nat.le_of_ble_eq_true rfl) dX0_isSignalled_2 (fun q3 => ?_)
  have q3 : r1 = 0 ∨ r1 = 1 := q3
  refine g_if_eq C 30 dX0_isSignalled_5 (by decide) (rgT_inR (rt := 1) q3) (fun c4 => ?_) (fun c4 => ?_)
  · have h := z_t c4 h
    refine g_iconst C dX0_isSignalled_30 ?_
    obtain rfl := z_s1 h
    exact hR _ _ dX0_isSignalled_31 (by show _ = _ ∨ _ = _; decide)
  · have h := z_f c4 h
    refine g_aload_n C dX0_isSignalled_8 0 rfl ?_
    refine gf_X0_10 C in_X0_isSignalled_X0 hb (List.mem_of_getElem? (i := 1) rfl) dX0_isSignalled_9 ?_
    refine g_iload_n C dX0_isSignalled_12 1 rfl ?_
    obtain ⟨g5, h⟩ := z_g h
    refine g_zald C (ly_L9 hb) (lt_loop hb (j := 9) (by decide)) (by decide) g5 dX0_isSignalled_13 (fun r6 => ?_)
    refine g_if_eq C 30 dX0_isSignalled_14 (by decide) r6 (fun c7 => ?_) (fun c7 => ?_)
    · have h := z_t c7 h
      refine g_iconst C dX0_isSignalled_30 ?_
      obtain rfl := z_s1 h
      exact hR _ _ dX0_isSignalled_31 (by show _ = _ ∨ _ = _; decide)
    · have h := z_f c7 h
      refine g_aload_n C dX0_isSignalled_17 0 rfl ?_
      refine gf_X0_9 C in_X0_isSignalled_X0 hb (List.mem_of_getElem? (i := 2) rfl) dX0_isSignalled_18 ?_
      refine g_iload_n C dX0_isSignalled_21 1 rfl ?_
      refine g_iald C (ly_L8 hb) (lt_loop hb (j := 8) (by decide)) (by decide) (by omega) dX0_isSignalled_22 (fun r8 => ?_)
      refine g_if_le C 30 dX0_isSignalled_23 (by decide) r8 (fun c9 => ?_) (fun c9 => ?_)
      · have h := z_f c9 h
        refine g_iconst C dX0_isSignalled_30 ?_
        obtain rfl := z_s1 h
        exact hR _ _ dX0_isSignalled_31 (by show _ = _ ∨ _ = _; decide)
      · have h := z_t c9 h
        refine g_iconst C dX0_isSignalled_26 ?_
        refine g_goto C 31 dX0_isSignalled_27 (by decide) ?_
        obtain rfl := z_s1 h
        exact hR _ _ dX0_isSignalled_31 (by show _ = _ ∨ _ = _; decide)
theorem in_X0_signalledDependences_X0 : ∀ w ∈ u_ws RX0 TX0 12, w ∈ wsX0_signalledDependences := fun _ h => List.mem_cons_of_mem _ (List.mem_append_right _ h)
set_option maxHeartbeats 4000000 in
set_option maxRecDepth 100000 in
theorem w_X0_signalledDependences_L4 {p : Program} {l : Launch} {e : Env} {s : State} {m : MethodId} {args : Array Value} {below : List Frame} {meth : Method} {c : Code} {D : va_G} {cy : Nat → ClassId} {ad : Nat → Nat} {A : Nat → Prop} {Q : State → Prop} (C : Cx p s m args meth c cX0_signalledDependences RX0 3 wsX0_signalledDependences D cy A) {b : Nat} (hb : IsLoop b) {σ : MM} {k29 : Int → Option Int} {ro : Int} (hR : RetI p l e { frames := 2, cells := 0, slots := 0, locals := 42 } s m args below meth c cX0_signalledDependences 3 D cy ad A Q 0 ro σ) (hk29 : ∀ (z1 : Int), inR z1 → k29 z1 = some ro → G p l e { frames := 2, cells := 0, slots := 0, locals := 42 } s m args below meth c 3 D cy ad A Q 29 [(1, .int (Int32.ofInt z1))] [] σ) : ∀ (n : Nat) (x1 x2 : Int) , inR x1 → inR x2 → X0_signalledDependences_L4 b σ k29 n x1 x2 = some ro → G p l e { frames := 2, cells := 0, slots := 0, locals := 42 } s m args below meth c 3 D cy ad A Q 4 [(0, .ref (ad b)), (1, .int (Int32.ofInt x1)), (2, .int (Int32.ofInt x2))] [] σ := by
  intro n
  induction n with
  | zero =>
    intro x1 x2 hx1 hx2 h
    cases h
  | succ n ih =>
    intro x1 x2 hx1 hx2 h
    rw [X0_signalledDependences_L4] at h
    refine g_iload_n C dX0_signalledDependences_4 2 rfl ?_
    refine g_aload_n C dX0_signalledDependences_5 0 rfl ?_
    refine gf_X0_5 C in_X0_signalledDependences_X0 hb (List.mem_of_getElem? (i := 1) rfl) dX0_signalledDependences_6 (fun r1 => ?_)
    refine g_icmp_ge C 29 dX0_signalledDependences_9 (by decide) hx2 r1 (fun c2 => ?_) (fun c2 => ?_)
    · have h := z_f c2 h
      refine g_sub [1] rfl ?_
      exact hk29 _ hx1 h
    · have h := z_t c2 h
      refine g_aload_n C dX0_signalledDependences_12 0 rfl ?_
      refine g_iload_n C dX0_signalledDependences_13 2 rfl ?_
      obtain ⟨r3, e4, h⟩ := z_b h
      refine g_callI (n := 1) C (fun hM => c_X0_isSignalled l hM hb hx2 e4) gX0_signalledDependences_X0_isSignalled rfl (by decide) ⟨rfl, rfl⟩ ⟨Nat.le_of_ble_eq_true rfl, Nat.le_of_ble_eq_true rfl⟩ rfl (ly_L0 hb) (lt_loop hb (j := 0) (by decide)) rfl rfl (rest := []) rfl (Nat.le_of_ble_eq_true rfl) dX0_signalledDependences_14 (fun q5 => ?_)
      have q5 : r3 = 0 ∨ r3 = 1 := q5
      refine g_if_eq C 23 dX0_signalledDependences_17 (by decide) (rgT_inR (rt := 1) q5) (fun c6 => ?_) (fun c6 => ?_)
      · have h := z_t c6 h
        refine g_iinc C dX0_signalledDependences_23 (j := 2) rfl (by decide) (vs' := [(2, .int (Int32.ofInt (x2 + 1))), (0, .ref (ad b)), (1, .int (Int32.ofInt x1))]) rfl ?_
        refine g_goto C 4 dX0_signalledDependences_26 (by decide) ?_
        refine g_sub [1, 2, 0] rfl ?_
        exact ih _ _ hx1 (by omega) h
      · have h := z_f c6 h
        refine g_iinc C dX0_signalledDependences_20 (j := 1) rfl (by decide) (vs' := [(1, .int (Int32.ofInt (x1 + 1))), (0, .ref (ad b)), (2, .int (Int32.ofInt x2))]) rfl ?_
        refine g_iinc C dX0_signalledDependences_23 (j := 2) rfl (by decide) (vs' := [(2, .int (Int32.ofInt (x2 + 1))), (1, .int (Int32.ofInt (x1 + 1))), (0, .ref (ad b))]) rfl ?_
        refine g_goto C 4 dX0_signalledDependences_26 (by decide) ?_
        obtain ⟨g7, h⟩ := z_g h
        refine g_sub [2, 1, 0] rfl ?_
        exact ih _ _ g7 (by omega) h
set_option maxHeartbeats 4000000 in
set_option maxRecDepth 100000 in
theorem c_X0_signalledDependences (l : Launch) {σ : MM} (hM : okM σ) {b : Nat} (hb : IsLoop b) {ro : Int} (h : X0_signalledDependences b σ = some ro) : CtI l yX0_signalledDependences wsX0_signalledDependences { frames := 2, cells := 0, slots := 0, locals := 42 } (fun ad : Nat → Nat => [.ref (ad b)]) σ 0 ro σ := by
  unfold X0_signalledDependences at h
  refine z_ctI (cc := cX0_signalledDependences) (maxL := 3) (rt := 0) hM (by decide) rfl (fun _ => Nat.le_of_ble_eq_true rfl) (@fun p e s m args below meth c D cy ad A Q C hR => ?_)
  refine g_sub (vs' := [(0, .ref (ad b))]) [0] rfl ?_
  refine g_iconst C dX0_signalledDependences_0 ?_
  refine g_istore_n C dX0_signalledDependences_1 (by decide) (vs' := [(1, .int (Int32.ofInt 0)), (0, .ref (ad b))]) rfl ?_
  refine g_iconst C dX0_signalledDependences_2 ?_
  refine g_istore_n C dX0_signalledDependences_3 (by decide) (vs' := [(2, .int (Int32.ofInt 0)), (1, .int (Int32.ofInt 0)), (0, .ref (ad b))]) rfl ?_
  refine g_sub [2, 1, 0] rfl ?_
  refine w_X0_signalledDependences_L4 C hb hR ?_ _ _ _ (by decide) (by decide) h
  · intro z8 hz8 h
    refine g_iload_n C dX0_signalledDependences_29 0 rfl ?_
    obtain rfl := z_s1 h
    exact hR _ _ dX0_signalledDependences_30 hz8
theorem in_X0_lagOf_X0 : ∀ w ∈ u_ws RX0 TX0 12, w ∈ wsX0_lagOf := fun _ h => List.mem_cons_of_mem _ (List.mem_append_right _ h)
set_option maxHeartbeats 4000000 in
set_option maxRecDepth 100000 in
theorem c_X0_lagOf (l : Launch) {σ : MM} (hM : okM σ) {b : Nat} (hb : IsLoop b) {a1 : Int} (ha1 : inR a1) {ro : Int} (h : X0_lagOf b a1 σ = some ro) : CtI l yX0_lagOf wsX0_lagOf { frames := 1, cells := 0, slots := 0, locals := 21 } (fun ad : Nat → Nat => [.ref (ad b), .int (Int32.ofInt a1)]) σ 0 ro σ := by
  unfold X0_lagOf at h
  refine z_ctI (cc := cX0_lagOf) (maxL := 3) (rt := 0) hM (by decide) rfl (fun _ => Nat.le_of_ble_eq_true rfl) (@fun p e s m args below meth c D cy ad A Q C hR => ?_)
  refine g_sub (vs' := [(0, .ref (ad b)), (1, .int (Int32.ofInt a1))]) [0, 1] rfl ?_
  refine g_aload_n C dX0_lagOf_0 0 rfl ?_
  refine gf_X0_11 C in_X0_lagOf_X0 hb (List.mem_of_getElem? (i := 1) rfl) dX0_lagOf_1 ?_
  refine g_iconst C dX0_lagOf_4 ?_
  refine g_iald C (ly_L10 hb) (lt_loop hb (j := 10) (by decide)) (by decide) (by decide) dX0_lagOf_5 (fun r1 => ?_)
  refine g_istore_n C dX0_lagOf_6 (by decide) (vs' := [(2, .int (Int32.ofInt (σ (b + 10) 1))), (0, .ref (ad b)), (1, .int (Int32.ofInt a1))]) rfl ?_
  refine g_aload_n C dX0_lagOf_7 1 rfl ?_
  refine g_iload_n C dX0_lagOf_8 2 rfl ?_
  obtain ⟨r2, e3, h⟩ := z_b h
  refine g_callI (n := 1) C (fun hM => c_X0_hasDependence l hM hb ha1 e3) gX0_lagOf_X0_hasDependence rfl (by decide) ⟨rfl, rfl⟩ ⟨Nat.le_of_ble_eq_true rfl, Nat.le_of_ble_eq_true rfl⟩ rfl (ly_L0 hb) (lt_loop hb (j := 0) (by decide)) rfl rfl (rest := []) rfl (Nat.le_of_ble_eq_true rfl) dX0_lagOf_9 (fun q4 => ?_)
  have q4 : r2 = 0 ∨ r2 = 1 := q4
  refine g_if_ne C 17 dX0_lagOf_12 (by decide) (rgT_inR (rt := 1) q4) (fun c5 => ?_) (fun c5 => ?_)
  · have h := z_f c5 h
    refine g_aload_n C dX0_lagOf_17 1 rfl ?_
    refine gf_X0_6 C in_X0_lagOf_X0 hb (List.mem_of_getElem? (i := 2) rfl) dX0_lagOf_18 ?_
    refine g_iload_n C dX0_lagOf_21 2 rfl ?_
    obtain ⟨g6, h⟩ := z_g h
    refine g_iald C (ly_L5 hb) (lt_loop hb (j := 5) (by decide)) (by decide) g6 dX0_lagOf_22 (fun r7 => ?_)
    by_cases c8 : σ (b + 5) a1 = 0
    · have h := z_t c8 h
      refine g_lsw C 48 dX0_lagOf_23 (by decide) r7 (off := 25) (by rw [c8] <;> rfl) (by decide) ?_
      refine g_aload_n C dX0_lagOf_48 1 rfl ?_
      refine g_aload_n C dX0_lagOf_49 1 rfl ?_
      refine gf_X0_7 C in_X0_lagOf_X0 hb (List.mem_of_getElem? (i := 3) rfl) dX0_lagOf_50 ?_
      refine g_iload_n C dX0_lagOf_53 2 rfl ?_
      refine g_iald C (ly_L6 hb) (lt_loop hb (j := 6) (by decide)) (by decide) (by omega) dX0_lagOf_54 (fun r9 => ?_)
      obtain ⟨r10, e11, h⟩ := z_b h
      refine g_callI (n := 1) C (fun hM => c_X0_costOf l hM hb r9 e11) gX0_lagOf_X0_costOf rfl (by decide) ⟨rfl, rfl⟩ ⟨Nat.le_of_ble_eq_true rfl, Nat.le_of_ble_eq_true rfl⟩ rfl (ly_L0 hb) (lt_loop hb (j := 0) (by decide)) rfl rfl (rest := []) rfl (Nat.le_of_ble_eq_true rfl) dX0_lagOf_55 (fun q12 => ?_)
      have q12 : inR r10 := q12
      refine g_iload_n C dX0_lagOf_58 0 rfl ?_
      refine g_iadd C dX0_lagOf_59 ?_
      obtain ⟨g13, h⟩ := z_g h
      obtain rfl := z_s1 h
      exact hR _ _ dX0_lagOf_60 g13
    have h := z_f c8 h
    by_cases c14 : σ (b + 5) a1 = 2
    · have h := z_t c14 h
      refine g_lsw C 61 dX0_lagOf_23 (by decide) r7 (off := 38) (by rw [c14] <;> rfl) (by decide) ?_
      refine g_iconst C dX0_lagOf_61 ?_
      refine g_aload_n C dX0_lagOf_62 1 rfl ?_
      refine g_aload_n C dX0_lagOf_63 1 rfl ?_
      refine gf_X0_7 C in_X0_lagOf_X0 hb (List.mem_of_getElem? (i := 3) rfl) dX0_lagOf_64 ?_
      refine g_iload_n C dX0_lagOf_67 2 rfl ?_
      refine g_iald C (ly_L6 hb) (lt_loop hb (j := 6) (by decide)) (by decide) (by omega) dX0_lagOf_68 (fun r15 => ?_)
      obtain ⟨r16, e17, h⟩ := z_b h
      refine g_callI (n := 1) C (fun hM => c_X0_costOf l hM hb r15 e17) gX0_lagOf_X0_costOf rfl (by decide) ⟨rfl, rfl⟩ ⟨Nat.le_of_ble_eq_true rfl, Nat.le_of_ble_eq_true rfl⟩ rfl (ly_L0 hb) (lt_loop hb (j := 0) (by decide)) rfl rfl (rest := [.int (Int32.ofInt 1)]) rfl (Nat.le_of_ble_eq_true rfl) dX0_lagOf_69 (fun q18 => ?_)
      have q18 : inR r16 := q18
      refine g_aload_n C dX0_lagOf_72 1 rfl ?_
      refine g_aload_n C dX0_lagOf_73 1 rfl ?_
      refine gf_X0_8 C in_X0_lagOf_X0 hb (List.mem_of_getElem? (i := 4) rfl) dX0_lagOf_74 ?_
      refine g_iload_n C dX0_lagOf_77 2 rfl ?_
      refine g_iald C (ly_L7 hb) (lt_loop hb (j := 7) (by decide)) (by decide) (by omega) dX0_lagOf_78 (fun r19 => ?_)
      obtain ⟨r20, e21, h⟩ := z_b h
      refine g_callI (n := 1) C (fun hM => c_X0_costOf l hM hb r19 e21) gX0_lagOf_X0_costOf rfl (by decide) ⟨rfl, rfl⟩ ⟨Nat.le_of_ble_eq_true rfl, Nat.le_of_ble_eq_true rfl⟩ rfl (ly_L0 hb) (lt_loop hb (j := 0) (by decide)) rfl rfl (rest := [.int (Int32.ofInt r16), .int (Int32.ofInt 1)]) rfl (Nat.le_of_ble_eq_true rfl) dX0_lagOf_79 (fun q22 => ?_)
      have q22 : inR r20 := q22
      refine g_isub C dX0_lagOf_82 ?_
      refine g_iconst C dX0_lagOf_83 ?_
      refine g_iadd C dX0_lagOf_84 ?_
      obtain ⟨g23, h⟩ := z_g h
      refine g_mmax C (List.mem_of_getElem? (i := 5) rfl) (List.mem_of_getElem? (i := 6) rfl) (List.mem_of_getElem? (i := 7) rfl) (List.mem_of_getElem? (i := 8) rfl) (Nat.le_of_ble_eq_true rfl) (Nat.le_of_ble_eq_true rfl) (by decide) g23 dX0_lagOf_85 (fun r24 => ?_)
      refine g_iload_n C dX0_lagOf_88 0 rfl ?_
      refine g_iadd C dX0_lagOf_89 ?_
      obtain ⟨g25, h⟩ := z_g h
      obtain rfl := z_s1 h
      exact hR _ _ dX0_lagOf_90 g25
    have h := z_f c14 h
    refine g_lsw C 91 dX0_lagOf_23 (by decide) r7 (off := 68) (by show Op.lookupswitch.offset (_ :: _ :: []) _ _ = _; rw [Op.lookupswitch.offset_cons, if_neg (fun q => c8 q.symm), Op.lookupswitch.offset_cons, if_neg (fun q => c14 q.symm), Op.lookupswitch.offset_nil]) (by decide) ?_
    refine g_iconst C dX0_lagOf_91 ?_
    refine g_iload_n C dX0_lagOf_92 0 rfl ?_
    refine g_iadd C dX0_lagOf_93 ?_
    obtain ⟨g26, h⟩ := z_g h
    obtain rfl := z_s1 h
    exact hR _ _ dX0_lagOf_94 g26
  · have h := z_t c5 h
    refine g_iload_n C dX0_lagOf_15 0 rfl ?_
    obtain rfl := z_s1 h
    exact hR _ _ dX0_lagOf_16 r1
theorem in_X0_delayBy_X0 : ∀ w ∈ u_ws RX0 TX0 12, w ∈ wsX0_delayBy := fun _ h => List.mem_cons_of_mem _ (List.mem_append_right _ h)
set_option maxHeartbeats 4000000 in
set_option maxRecDepth 100000 in
theorem c_X0_delayBy (l : Launch) {σ : MM} (hM : okM σ) {b : Nat} (hb : IsLoop b) {a1 : Int} (ha1 : inR a1) {ro : Int} (h : X0_delayBy b a1 σ = some ro) : CtI l yX0_delayBy wsX0_delayBy { frames := 2, cells := 0, slots := 0, locals := 43 } (fun ad : Nat → Nat => [.ref (ad b), .int (Int32.ofInt a1)]) σ 0 ro σ := by
  unfold X0_delayBy at h
  refine z_ctI (cc := cX0_delayBy) (maxL := 4) (rt := 0) hM (by decide) rfl (fun _ => Nat.le_of_ble_eq_true rfl) (@fun p e s m args below meth c D cy ad A Q C hR => ?_)
  refine g_sub (vs' := [(0, .ref (ad b)), (1, .int (Int32.ofInt a1))]) [0, 1] rfl ?_
  refine g_aload_n C dX0_delayBy_0 0 rfl ?_
  refine g_iload_n C dX0_delayBy_1 1 rfl ?_
  obtain ⟨r1, e2, h⟩ := z_b h
  refine g_callI (n := 1) C (fun hM => c_X0_hasDependence l hM hb ha1 e2) gX0_delayBy_X0_hasDependence rfl (by decide) ⟨rfl, rfl⟩ ⟨Nat.le_of_ble_eq_true rfl, Nat.le_of_ble_eq_true rfl⟩ rfl (ly_L0 hb) (lt_loop hb (j := 0) (by decide)) rfl rfl (rest := []) rfl (Nat.le_of_ble_eq_true rfl) dX0_delayBy_2 (fun q3 => ?_)
  have q3 : r1 = 0 ∨ r1 = 1 := q3
  refine g_if_ne C 10 dX0_delayBy_5 (by decide) (rgT_inR (rt := 1) q3) (fun c4 => ?_) (fun c4 => ?_)
  · have h := z_f c4 h
    refine g_aload_n C dX0_delayBy_10 0 rfl ?_
    refine gf_X0_9 C in_X0_delayBy_X0 hb (List.mem_of_getElem? (i := 1) rfl) dX0_delayBy_11 ?_
    refine g_iload_n C dX0_delayBy_14 1 rfl ?_
    obtain ⟨g5, h⟩ := z_g h
    refine g_iald C (ly_L8 hb) (lt_loop hb (j := 8) (by decide)) (by decide) g5 dX0_delayBy_15 (fun r6 => ?_)
    refine g_istore_n C dX0_delayBy_16 (by decide) (vs' := [(2, .int (Int32.ofInt (σ (b + 8) a1))), (0, .ref (ad b)), (1, .int (Int32.ofInt a1))]) rfl ?_
    refine g_aload_n C dX0_delayBy_17 1 rfl ?_
    refine g_aload_n C dX0_delayBy_18 1 rfl ?_
    refine gf_X0_7 C in_X0_delayBy_X0 hb (List.mem_of_getElem? (i := 2) rfl) dX0_delayBy_19 ?_
    refine g_iload_n C dX0_delayBy_22 2 rfl ?_
    refine g_iald C (ly_L6 hb) (lt_loop hb (j := 6) (by decide)) (by decide) (by omega) dX0_delayBy_23 (fun r7 => ?_)
    obtain ⟨r8, e9, h⟩ := z_b h
    refine g_callI (n := 1) C (fun hM => c_X0_offsetOf l hM hb r7 e9) gX0_delayBy_X0_offsetOf rfl (by decide) ⟨rfl, rfl⟩ ⟨Nat.le_of_ble_eq_true rfl, Nat.le_of_ble_eq_true rfl⟩ rfl (ly_L0 hb) (lt_loop hb (j := 0) (by decide)) rfl rfl (rest := []) rfl (Nat.le_of_ble_eq_true rfl) dX0_delayBy_24 (fun q10 => ?_)
    have q10 : inR r8 := q10
    refine g_aload_n C dX0_delayBy_27 1 rfl ?_
    refine g_iload_n C dX0_delayBy_28 2 rfl ?_
    obtain ⟨r11, e12, h⟩ := z_b h
    refine g_callI (n := 1) C (fun hM => c_X0_lagOf l hM hb ha1 e12) gX0_delayBy_X0_lagOf rfl (by decide) ⟨rfl, rfl⟩ ⟨Nat.le_of_ble_eq_true rfl, Nat.le_of_ble_eq_true rfl⟩ rfl (ly_L0 hb) (lt_loop hb (j := 0) (by decide)) rfl rfl (rest := [.int (Int32.ofInt r8)]) rfl (Nat.le_of_ble_eq_true rfl) dX0_delayBy_29 (fun q13 => ?_)
    have q13 : inR r11 := q13
    refine g_iadd C dX0_delayBy_32 ?_
    refine g_aload_n C dX0_delayBy_33 1 rfl ?_
    refine g_aload_n C dX0_delayBy_34 1 rfl ?_
    refine gf_X0_8 C in_X0_delayBy_X0 hb (List.mem_of_getElem? (i := 3) rfl) dX0_delayBy_35 ?_
    refine g_iload_n C dX0_delayBy_38 2 rfl ?_
    refine g_iald C (ly_L7 hb) (lt_loop hb (j := 7) (by decide)) (by decide) (by omega) dX0_delayBy_39 (fun r14 => ?_)
    obtain ⟨r15, e16, h⟩ := z_b h
    refine g_callI (n := 1) C (fun hM => c_X0_offsetOf l hM hb r14 e16) gX0_delayBy_X0_offsetOf rfl (by decide) ⟨rfl, rfl⟩ ⟨Nat.le_of_ble_eq_true rfl, Nat.le_of_ble_eq_true rfl⟩ rfl (ly_L0 hb) (lt_loop hb (j := 0) (by decide)) rfl rfl (rest := [.int (Int32.ofInt (r8 + r11))]) rfl (Nat.le_of_ble_eq_true rfl) dX0_delayBy_40 (fun q17 => ?_)
    have q17 : inR r15 := q17
    refine g_isub C dX0_delayBy_43 ?_
    refine g_istore_n C dX0_delayBy_44 (by decide) (vs' := [(3, .int (Int32.ofInt ((r8 + r11) - r15))), (2, .int (Int32.ofInt (σ (b + 8) a1))), (0, .ref (ad b)), (1, .int (Int32.ofInt a1))]) rfl ?_
    refine g_iload_n C dX0_delayBy_45 0 rfl ?_
    obtain ⟨g18, h⟩ := z_g h
    refine g_if_le C 63 dX0_delayBy_46 (by decide) g18 (fun c19 => ?_) (fun c19 => ?_)
    · have h := z_f c19 h
      refine g_iconst C dX0_delayBy_63 ?_
      obtain rfl := z_s1 h
      exact hR _ _ dX0_delayBy_64 (by show inR _; decide)
    · have h := z_t c19 h
      refine g_iload_n C dX0_delayBy_49 1 rfl ?_
      refine g_if_le C 63 dX0_delayBy_50 (by decide) r6 (fun c20 => ?_) (fun c20 => ?_)
      · have h := z_f c20 h
        refine g_iconst C dX0_delayBy_63 ?_
        obtain rfl := z_s1 h
        exact hR _ _ dX0_delayBy_64 (by show inR _; decide)
      · have h := z_t c20 h
        refine g_iload_n C dX0_delayBy_53 0 rfl ?_
        refine g_iload_n C dX0_delayBy_54 1 rfl ?_
        refine g_iadd C dX0_delayBy_55 ?_
        refine g_iconst C dX0_delayBy_56 ?_
        refine g_isub C dX0_delayBy_57 ?_
        refine g_iload_n C dX0_delayBy_58 1 rfl ?_
        obtain ⟨g21, h⟩ := z_g h
        obtain ⟨g22, h⟩ := z_g h
        have r23 := zdivR g21 r6 g22
        refine g_idiv C g21 r6 g22 dX0_delayBy_59 ?_
        refine g_goto C 64 dX0_delayBy_60 (by decide) ?_
        obtain rfl := z_s1 h
        exact hR _ _ dX0_delayBy_64 r23
  · have h := z_t c4 h
    refine g_iconst C dX0_delayBy_8 ?_
    obtain rfl := z_s1 h
    exact hR _ _ dX0_delayBy_9 (by show inR _; decide)
theorem in_X0_delayWithout_X0 : ∀ w ∈ u_ws RX0 TX0 12, w ∈ wsX0_delayWithout := fun _ h => List.mem_cons_of_mem _ (List.mem_append_right _ h)
set_option maxHeartbeats 4000000 in
set_option maxRecDepth 100000 in
theorem w_X0_delayWithout_L8 {p : Program} {l : Launch} {e : Env} {s : State} {m : MethodId} {args : Array Value} {below : List Frame} {meth : Method} {c : Code} {D : va_G} {cy : Nat → ClassId} {ad : Nat → Nat} {A : Nat → Prop} {Q : State → Prop} (C : Cx p s m args meth c cX0_delayWithout RX0 4 wsX0_delayWithout D cy A) {b : Nat} (hb : IsLoop b) {x1 : Int} (hx1 : inR x1) {k45 : Int → MM → Option (Int × MM)} {ro : Int} {σo : MM} (hR : RetI p l e { frames := 3, cells := 0, slots := 0, locals := 66 } s m args below meth c cX0_delayWithout 4 D cy ad A Q 0 ro σo) (hk45 : ∀ (z2 : Int) (σ : MM), inR z2 → k45 z2 σ = some (ro, σo) → G p l e { frames := 3, cells := 0, slots := 0, locals := 66 } s m args below meth c 4 D cy ad A Q 45 [(2, .int (Int32.ofInt z2))] [] σ) : ∀ (n : Nat) (x2 x3 : Int) (σ : MM) , inR x2 → inR x3 → X0_delayWithout_L8 b x1 k45 n x2 x3 σ = some (ro, σo) → G p l e { frames := 3, cells := 0, slots := 0, locals := 66 } s m args below meth c 4 D cy ad A Q 8 [(0, .ref (ad b)), (1, .int (Int32.ofInt x1)), (2, .int (Int32.ofInt x2)), (3, .int (Int32.ofInt x3))] [] σ := by
  intro n
  induction n with
  | zero =>
    intro x2 x3 σ hx2 hx3 h
    cases h
  | succ n ih =>
    intro x2 x3 σ hx2 hx3 h
    rw [X0_delayWithout_L8] at h
    refine g_iload_n C dX0_delayWithout_8 3 rfl ?_
    refine g_aload_n C dX0_delayWithout_9 0 rfl ?_
    refine gf_X0_5 C in_X0_delayWithout_X0 hb (List.mem_of_getElem? (i := 1) rfl) dX0_delayWithout_10 (fun r4 => ?_)
    refine g_icmp_ge C 45 dX0_delayWithout_13 (by decide) hx3 r4 (fun c5 => ?_) (fun c5 => ?_)
    · have h := z_f c5 h
      refine g_sub [2] rfl ?_
      exact hk45 _ _ hx2 h
    · have h := z_t c5 h
      refine g_iload_n C dX0_delayWithout_16 3 rfl ?_
      refine g_iload_n C dX0_delayWithout_17 1 rfl ?_
      refine g_icmp_eq C 39 dX0_delayWithout_18 (by decide) hx3 hx1 (fun c6 => ?_) (fun c6 => ?_)
      · have h := z_t c6 h
        refine g_iinc C dX0_delayWithout_39 (j := 3) rfl (by decide) (vs' := [(3, .int (Int32.ofInt (x3 + 1))), (0, .ref (ad b)), (1, .int (Int32.ofInt x1)), (2, .int (Int32.ofInt x2))]) rfl ?_
        refine g_goto C 8 dX0_delayWithout_42 (by decide) ?_
        refine g_sub [1, 2, 3, 0] rfl ?_
        exact ih _ _ _ hx2 (by omega) h
      · have h := z_f c6 h
        refine g_aload_n C dX0_delayWithout_21 0 rfl ?_
        refine g_iload_n C dX0_delayWithout_22 3 rfl ?_
        obtain ⟨r7, e8, h⟩ := z_b h
        refine g_callI (n := 1) C (fun hM => c_X0_isSignalled l hM hb hx3 e8) gX0_delayWithout_X0_isSignalled rfl (by decide) ⟨rfl, rfl⟩ ⟨Nat.le_of_ble_eq_true rfl, Nat.le_of_ble_eq_true rfl⟩ rfl (ly_L0 hb) (lt_loop hb (j := 0) (by decide)) rfl rfl (rest := []) rfl (Nat.le_of_ble_eq_true rfl) dX0_delayWithout_23 (fun q9 => ?_)
        have q9 : r7 = 0 ∨ r7 = 1 := q9
        refine g_if_eq C 39 dX0_delayWithout_26 (by decide) (rgT_inR (rt := 1) q9) (fun c10 => ?_) (fun c10 => ?_)
        · have h := z_t c10 h
          refine g_iinc C dX0_delayWithout_39 (j := 3) rfl (by decide) (vs' := [(3, .int (Int32.ofInt (x3 + 1))), (0, .ref (ad b)), (1, .int (Int32.ofInt x1)), (2, .int (Int32.ofInt x2))]) rfl ?_
          refine g_goto C 8 dX0_delayWithout_42 (by decide) ?_
          refine g_sub [1, 2, 3, 0] rfl ?_
          exact ih _ _ _ hx2 (by omega) h
        · have h := z_f c10 h
          refine g_iload_n C dX0_delayWithout_29 2 rfl ?_
          refine g_aload_n C dX0_delayWithout_30 0 rfl ?_
          refine g_iload_n C dX0_delayWithout_31 3 rfl ?_
          obtain ⟨r11, e12, h⟩ := z_b h
          refine g_callI (n := 1) C (fun hM => c_X0_delayBy l hM hb hx3 e12) gX0_delayWithout_X0_delayBy rfl (by decide) ⟨rfl, rfl⟩ ⟨Nat.le_of_ble_eq_true rfl, Nat.le_of_ble_eq_true rfl⟩ rfl (ly_L0 hb) (lt_loop hb (j := 0) (by decide)) rfl rfl (rest := [.int (Int32.ofInt x2)]) rfl (Nat.le_of_ble_eq_true rfl) dX0_delayWithout_32 (fun q13 => ?_)
          have q13 : inR r11 := q13
          refine g_mmax C (List.mem_of_getElem? (i := 2) rfl) (List.mem_of_getElem? (i := 3) rfl) (List.mem_of_getElem? (i := 4) rfl) (List.mem_of_getElem? (i := 5) rfl) (Nat.le_of_ble_eq_true rfl) (Nat.le_of_ble_eq_true rfl) hx2 q13 dX0_delayWithout_35 (fun r14 => ?_)
          refine g_istore_n C dX0_delayWithout_38 (by decide) (vs' := [(2, .int (Int32.ofInt (max x2 r11))), (0, .ref (ad b)), (1, .int (Int32.ofInt x1)), (3, .int (Int32.ofInt x3))]) rfl ?_
          refine g_iinc C dX0_delayWithout_39 (j := 3) rfl (by decide) (vs' := [(3, .int (Int32.ofInt (x3 + 1))), (2, .int (Int32.ofInt (max x2 r11))), (0, .ref (ad b)), (1, .int (Int32.ofInt x1))]) rfl ?_
          refine g_goto C 8 dX0_delayWithout_42 (by decide) ?_
          refine g_sub [2, 3, 1, 0] rfl ?_
          exact ih _ _ _ r14 (by omega) h
set_option maxHeartbeats 4000000 in
set_option maxRecDepth 100000 in
theorem c_X0_delayWithout (l : Launch) {σ : MM} (hM : okM σ) {b : Nat} (hb : IsLoop b) {a1 : Int} (ha1 : inR a1) {ro : Int} {σo : MM} (h : X0_delayWithout b a1 σ = some (ro, σo)) : CtI l yX0_delayWithout wsX0_delayWithout { frames := 3, cells := 0, slots := 0, locals := 66 } (fun ad : Nat → Nat => [.ref (ad b), .int (Int32.ofInt a1)]) σ 0 ro σo := by
  unfold X0_delayWithout at h
  refine z_ctI (cc := cX0_delayWithout) (maxL := 4) (rt := 0) hM (by decide) rfl (fun _ => Nat.le_of_ble_eq_true rfl) (@fun p e s m args below meth c D cy ad A Q C hR => ?_)
  refine g_sub (vs' := [(0, .ref (ad b)), (1, .int (Int32.ofInt a1))]) [0, 1] rfl ?_
  refine g_aload_n C dX0_delayWithout_0 0 rfl ?_
  obtain ⟨σ3, e2, h⟩ := z_b h
  refine g_callV (n := 0) C (fun hM => c_X0_measureOffsets l hM hb e2) gX0_delayWithout_X0_measureOffsets rfl (by decide) ⟨rfl, rfl⟩ ⟨Nat.le_of_ble_eq_true rfl, Nat.le_of_ble_eq_true rfl⟩ rfl (ly_L0 hb) (lt_loop hb (j := 0) (by decide)) rfl rfl (rest := []) rfl (Nat.le_of_ble_eq_true rfl) dX0_delayWithout_1 ?_
  refine g_iconst C dX0_delayWithout_4 ?_
  refine g_istore_n C dX0_delayWithout_5 (by decide) (vs' := [(2, .int (Int32.ofInt 0)), (0, .ref (ad b)), (1, .int (Int32.ofInt a1))]) rfl ?_
  refine g_iconst C dX0_delayWithout_6 ?_
  refine g_istore_n C dX0_delayWithout_7 (by decide) (vs' := [(3, .int (Int32.ofInt 0)), (2, .int (Int32.ofInt 0)), (0, .ref (ad b)), (1, .int (Int32.ofInt a1))]) rfl ?_
  refine g_sub [2, 3, 1, 0] rfl ?_
  refine w_X0_delayWithout_L8 C hb ha1 hR ?_ _ _ _ _ (by decide) (by decide) h
  · intro z15 σ16 hz15 h
    refine g_iload_n C dX0_delayWithout_45 0 rfl ?_
    obtain ⟨rfl, rfl⟩ := z_s2 h
    exact hR _ _ dX0_delayWithout_46 hz15
