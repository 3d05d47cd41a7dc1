theorem in_X5_append_X5 : ∀ w ∈ u_ws RX5 TX5 9, w ∈ wsX5_append := fun _ h => List.mem_cons_of_mem _ (List.mem_append_left _ (List.mem_append_left _ (List.mem_append_left _ (List.mem_append_right _ h))))
theorem in_X5_append_X4 : ∀ w ∈ u_ws RX4 TX4 3, w ∈ wsX5_append := fun _ h => List.mem_cons_of_mem _ (List.mem_append_left _ (List.mem_append_left _ (List.mem_append_right _ h)))
set_option maxHeartbeats 4000000 in
set_option maxRecDepth 100000 in
theorem c_X5_append (l : Launch) (hl0 : l.stackTraces = false) {σ : MM} (hM : okM σ) {a1 : Int} (ha1 : inR a1) {xo ro : Int} {σo : MM} (h : X5_append a1 σ = some (xo, ro, σo)) : CtX l yX5_append wsX5_append { frames := 6, cells := 1, slots := 6, locals := 82 } (fun ad : Nat → Nat => [.ref (ad 0), .int (Int32.ofInt a1)]) σ 0 xo ro σo := by
  unfold X5_append at h
  refine z_ctX (cc := cX5_append) (maxL := 2) (rt := 0) hl0 hM (by decide) rfl (fun _ => Nat.le_of_ble_eq_true rfl) rfl (Nat.le_of_ble_eq_true rfl) (Nat.le_of_ble_eq_true rfl) (@fun p e s m args below meth c D cy ad A Q C hX hR hT hTW => ?_)
  refine g_sub (vs' := [(0, .ref (ad 0)), (1, .int (Int32.ofInt a1))]) [0, 1] rfl ?_
  refine g_iload_n C dX5_append_0 1 rfl ?_
  obtain ⟨r1, e2, h⟩ := z_b h
  refine g_callS (n := 1) C (fun hM => c_X4_isWritable l hM ha1 e2) gX5_append_X4_isWritable rfl (by decide) ⟨rfl, rfl⟩ ⟨Nat.le_of_ble_eq_true rfl, Nat.le_of_ble_eq_true rfl⟩ rfl rfl (rest := []) rfl (Nat.le_of_ble_eq_true rfl) dX5_append_1 (fun q3 => ?_)
  have q3 : r1 = 0 ∨ r1 = 1 := q3
  refine g_if_ne C 17 dX5_append_4 (by decide) (rgT_inR (rt := 1) q3) (fun c4 => ?_) (fun c4 => ?_)
  · have h := z_f c4 h
    refine g_aload_n C dX5_append_17 0 rfl ?_
    refine gf_X5_3 C in_X5_append_X5 (List.mem_of_getElem? (i := 5) rfl) dX5_append_18 ?_
    refine g_iload_n C dX5_append_21 1 rfl ?_
    obtain ⟨r5, e6, h⟩ := z_b h
    refine g_callI (n := 1) C (fun hM => c_X4_hasRoomFor l hM ha1 e6) gX5_append_X4_hasRoomFor rfl (by decide) ⟨rfl, rfl⟩ ⟨Nat.le_of_ble_eq_true rfl, Nat.le_of_ble_eq_true rfl⟩ rfl ly_c34 (Nat.le_of_ble_eq_true rfl) rfl rfl (rest := []) rfl (Nat.le_of_ble_eq_true rfl) dX5_append_22 (fun q7 => ?_)
    have q7 : r5 = 0 ∨ r5 = 1 := q7
    refine g_if_ne C 38 dX5_append_25 (by decide) (rgT_inR (rt := 1) q7) (fun c8 => ?_) (fun c8 => ?_)
    · have h := z_f c8 h
      refine g_aload_n C dX5_append_38 0 rfl ?_
      refine gf_X5_3 C in_X5_append_X5 (List.mem_of_getElem? (i := 5) rfl) dX5_append_39 ?_
      refine g_iload_n C dX5_append_42 1 rfl ?_
      obtain ⟨σ11, e10, h⟩ := z_b h
      refine g_callV (n := 1) C (fun hM => c_X4_add l hM ha1 e10) gX5_append_X4_add rfl (by decide) ⟨rfl, rfl⟩ ⟨Nat.le_of_ble_eq_true rfl, Nat.le_of_ble_eq_true rfl⟩ rfl ly_c34 (Nat.le_of_ble_eq_true rfl) rfl rfl (rest := []) rfl (Nat.le_of_ble_eq_true rfl) dX5_append_43 ?_
      refine g_aload_n C dX5_append_46 0 rfl ?_
      refine gf_X5_3 C in_X5_append_X5 (List.mem_of_getElem? (i := 5) rfl) dX5_append_47 ?_
      refine gfn_X4_1 C in_X5_append_X4 (List.mem_of_getElem? (i := 17) rfl) dX5_append_50 (fun r12 => ?_)
      obtain ⟨rfl, rfl, rfl⟩ := z_s3 h
      exact hR _ _ dX5_append_53 rfl r12
    · have h := z_t c8 h
      obtain ⟨rfl, rfl, rfl⟩ := z_s3 h
      exact hT _ _ 72 74 76 _ "the buffer is full" (by decide) rfl (by decide) (List.mem_of_getElem? (i := 3) rfl) (List.mem_of_getElem? (i := 4) rfl) (List.mem_of_getElem? (i := 1) rfl) (fun _ h => List.mem_cons_of_mem _ (List.mem_append_right _ h)) xb_2 xg_2 dX5_append_28 dX5_append_31 dX5_append_32 dX5_append_34 dX5_append_37
  · have h := z_t c4 h
    obtain ⟨rfl, rfl, rfl⟩ := z_s3 h
    exact hT _ _ 62 64 66 _ "a character is not from 33 to 126" (by decide) rfl (by decide) (List.mem_of_getElem? (i := 1) rfl) (List.mem_of_getElem? (i := 2) rfl) (List.mem_of_getElem? (i := 0) rfl) (fun _ h => List.mem_cons_of_mem _ (List.mem_append_left _ (List.mem_append_right _ h))) xb_1 xg_1 dX5_append_7 dX5_append_10 dX5_append_11 dX5_append_13 dX5_append_16
theorem in_X5_execute_X5 : ∀ w ∈ u_ws RX5 TX5 9, w ∈ wsX5_execute := fun _ h => List.mem_cons_of_mem _ (List.mem_append_left _ (List.mem_append_left _ (List.mem_append_left _ (List.mem_append_right _ h))))
theorem in_X5_execute_X4 : ∀ w ∈ u_ws RX4 TX4 3, w ∈ wsX5_execute := fun _ h => List.mem_cons_of_mem _ (List.mem_append_left _ (List.mem_append_left _ (List.mem_append_right _ h)))
set_option maxHeartbeats 4000000 in
set_option maxRecDepth 100000 in
theorem c_X5_execute (l : Launch) (hl0 : l.stackTraces = false) {σ : MM} (hM : okM σ) {xo ro : Int} {σo : MM} (h : X5_execute σ = some (xo, ro, σo)) : CtX l yX5_execute wsX5_execute { frames := 6, cells := 1, slots := 6, locals := 109 } (fun ad : Nat → Nat => [.ref (ad 0)]) σ 0 xo ro σo := by
  unfold X5_execute at h
  refine z_ctX (cc := cX5_execute) (maxL := 2) (rt := 0) hl0 hM (by decide) rfl (fun _ => Nat.le_of_ble_eq_true rfl) rfl (Nat.le_of_ble_eq_true rfl) (Nat.le_of_ble_eq_true rfl) (@fun p e s m args below meth c D cy ad A Q C hX hR hT hTW => ?_)
  refine g_sub (vs' := [(0, .ref (ad 0))]) [0] rfl ?_
  refine g_aload_n C dX5_execute_0 0 rfl ?_
  refine gf_X5_2 C in_X5_execute_X5 (List.mem_of_getElem? (i := 3) rfl) dX5_execute_1 ?_
  refine g_aload_n C dX5_execute_4 0 rfl ?_
  refine gf_X5_0 C in_X5_execute_X5 (List.mem_of_getElem? (i := 4) rfl) dX5_execute_5 ?_
  obtain ⟨σ3, e2, h⟩ := z_b h
  refine g_callV (n := 1) C (fun hM => c_X0_copyFrom l hM isL23 isL1 e2) gX5_execute_X0_copyFrom rfl (by decide) ⟨rfl, rfl⟩ ⟨Nat.le_of_ble_eq_true rfl, Nat.le_of_ble_eq_true rfl⟩ rfl ly_c23 (Nat.le_of_ble_eq_true rfl) rfl rfl (rest := []) rfl (Nat.le_of_ble_eq_true rfl) dX5_execute_8 ?_
  refine g_aload_n C dX5_execute_11 0 rfl ?_
  refine gf_X5_3 C in_X5_execute_X5 (List.mem_of_getElem? (i := 5) rfl) dX5_execute_12 ?_
  refine g_aload_n C dX5_execute_15 0 rfl ?_
  refine gf_X5_2 C in_X5_execute_X5 (List.mem_of_getElem? (i := 3) rfl) dX5_execute_16 ?_
  obtain ⟨⟨r4, σ6⟩, e5, h⟩ := z_b h
  refine g_callI (n := 1) C (fun hM => c_X4_readInto l hM isL23 e5) gX5_execute_X4_readInto rfl (by decide) ⟨rfl, rfl⟩ ⟨Nat.le_of_ble_eq_true rfl, Nat.le_of_ble_eq_true rfl⟩ rfl ly_c34 (Nat.le_of_ble_eq_true rfl) rfl rfl (rest := []) rfl (Nat.le_of_ble_eq_true rfl) dX5_execute_19 (fun q7 => ?_)
  have q7 : inR r4 := q7
  refine g_istore_n C dX5_execute_22 (by decide) (vs' := [(1, .int (Int32.ofInt r4)), (0, .ref (ad 0))]) rfl ?_
  refine g_aload_n C dX5_execute_23 1 rfl ?_
  refine gf_X5_3 C in_X5_execute_X5 (List.mem_of_getElem? (i := 5) rfl) dX5_execute_24 ?_
  refine g_iconst C dX5_execute_27 ?_
  refine gpn_X4_1 C in_X5_execute_X4 (List.mem_of_getElem? (i := 17) rfl) (by decide) dX5_execute_28 ?_
  obtain ⟨σ8, e9, h⟩ := z_l h
  refine g_mem e9 ?_
  refine g_iload_n C dX5_execute_31 0 rfl ?_
  refine g_iconst C dX5_execute_32 ?_
  refine g_icmp_ne C 57 dX5_execute_33 (by decide) q7 (by decide) (fun c10 => ?_) (fun c10 => ?_)
  · have h := z_f c10 h
    refine g_aload_n C dX5_execute_57 1 rfl ?_
    refine g_iconst C dX5_execute_58 ?_
    refine gp_X5_8 C in_X5_execute_X5 (List.mem_of_getElem? (i := 6) rfl) (by decide) dX5_execute_59 ?_
    obtain ⟨σ11, e12, h⟩ := z_l h
    refine g_mem e12 ?_
    refine g_aload_n C dX5_execute_62 1 rfl ?_
    refine gf_X5_0 C in_X5_execute_X5 (List.mem_of_getElem? (i := 4) rfl) dX5_execute_63 ?_
    refine g_aload_n C dX5_execute_66 1 rfl ?_
    refine gf_X5_2 C in_X5_execute_X5 (List.mem_of_getElem? (i := 3) rfl) dX5_execute_67 ?_
    obtain ⟨σ15, e14, h⟩ := z_b h
    refine g_callV (n := 1) C (fun hM => c_X0_copyFrom l hM isL1 isL23 e14) gX5_execute_X0_copyFrom rfl (by decide) ⟨rfl, rfl⟩ ⟨Nat.le_of_ble_eq_true rfl, Nat.le_of_ble_eq_true rfl⟩ rfl ly_c1 (Nat.le_of_ble_eq_true rfl) rfl rfl (rest := []) rfl (Nat.le_of_ble_eq_true rfl) dX5_execute_70 ?_
    refine g_iload_n C dX5_execute_73 0 rfl ?_
    obtain ⟨rfl, rfl, rfl⟩ := z_s3 h
    exact hR _ _ dX5_execute_74 rfl q7
  · have h := z_t c10 h
    refine g_aload_n C dX5_execute_36 1 rfl ?_
    refine g_aload_n C dX5_execute_37 1 rfl ?_
    refine gf_X5_3 C in_X5_execute_X5 (List.mem_of_getElem? (i := 5) rfl) dX5_execute_38 ?_
    refine gfn_X4_2 C in_X5_execute_X4 (List.mem_of_getElem? (i := 18) rfl) dX5_execute_41 (fun r16 => ?_)
    refine gp_X5_8 C in_X5_execute_X5 (List.mem_of_getElem? (i := 6) rfl) r16 dX5_execute_44 ?_
    obtain ⟨σ17, e18, h⟩ := z_l h
    refine g_mem e18 ?_
    obtain ⟨rfl, rfl, rfl⟩ := z_s3 h
    exact hT _ _ 62 95 66 _ "there is an error in the text" (by decide) rfl (by decide) (List.mem_of_getElem? (i := 1) rfl) (List.mem_of_getElem? (i := 2) rfl) (List.mem_of_getElem? (i := 2) rfl) (fun _ h => List.mem_cons_of_mem _ (List.mem_append_right _ h)) xb_1 xg_1 dX5_execute_47 dX5_execute_50 dX5_execute_51 dX5_execute_53 dX5_execute_56
theorem in_X5_errorPosition_X5 : ∀ w ∈ u_ws RX5 TX5 9, w ∈ wsX5_errorPosition := fun _ h => List.mem_cons_of_mem _ (List.mem_append_right _ h)
set_option maxHeartbeats 4000000 in
set_option maxRecDepth 100000 in
theorem c_X5_errorPosition (l : Launch) {σ : MM} (hM : okM σ) {ro : Int} (h : X5_errorPosition σ = some ro) : CtI l yX5_errorPosition wsX5_errorPosition { frames := 0, cells := 0, slots := 0, locals := 0 } (fun ad : Nat → Nat => [.ref (ad 0)]) σ 0 ro σ := by
  unfold X5_errorPosition at h
  refine z_ctI (cc := cX5_errorPosition) (maxL := 1) (rt := 0) hM (by decide) rfl (fun _ => Nat.le_of_ble_eq_true rfl) (@fun p e s m args below meth c D cy ad A Q C hR => ?_)
  refine g_sub (vs' := [(0, .ref (ad 0))]) [0] rfl ?_
  refine g_aload_n C dX5_errorPosition_0 0 rfl ?_
  refine gf_X5_8 C in_X5_errorPosition_X5 (List.mem_of_getElem? (i := 1) rfl) dX5_errorPosition_1 (fun r1 => ?_)
  obtain rfl := z_s1 h
  exact hR _ _ dX5_errorPosition_4 r1
theorem in_X5_setCost_X5 : ∀ w ∈ u_ws RX5 TX5 9, w ∈ wsX5_setCost := fun _ h => List.mem_cons_of_mem _ (List.mem_append_left _ (List.mem_append_left _ (List.mem_append_left _ (List.mem_append_right _ h))))
theorem in_X5_setCost_X0 : ∀ w ∈ u_ws RX0 TX0 12, w ∈ wsX5_setCost := fun _ h => List.mem_cons_of_mem _ (List.mem_append_left _ (List.mem_append_left _ (List.mem_append_right _ h)))
set_option maxHeartbeats 4000000 in
set_option maxRecDepth 100000 in
theorem c_X5_setCost (l : Launch) (hl0 : l.stackTraces = false) {σ : MM} (hM : okM σ) {a1 : Int} (ha1 : inR a1) {a2 : Int} (ha2 : inR a2) {xo ro : Int} {σo : MM} (h : X5_setCost a1 a2 σ = some (xo, ro, σo)) : CtX l yX5_setCost wsX5_setCost { frames := 6, cells := 1, slots := 6, locals := 82 } (fun ad : Nat → Nat => [.ref (ad 0), .int (Int32.ofInt a1), .int (Int32.ofInt a2)]) σ 0 xo ro σo := by
  unfold X5_setCost at h
  refine z_ctX (cc := cX5_setCost) (maxL := 4) (rt := 0) hl0 hM (by decide) rfl (fun _ => Nat.le_of_ble_eq_true rfl) rfl (Nat.le_of_ble_eq_true rfl) (Nat.le_of_ble_eq_true rfl) (@fun p e s m args below meth c D cy ad A Q C hX hR hT hTW => ?_)
  refine g_sub (vs' := [(0, .ref (ad 0)), (1, .int (Int32.ofInt a1)), (2, .int (Int32.ofInt a2))]) [0, 1, 2] rfl ?_
  refine g_aload_n C dX5_setCost_0 0 rfl ?_
  refine gf_X5_0 C in_X5_setCost_X5 (List.mem_of_getElem? (i := 5) rfl) dX5_setCost_1 ?_
  refine g_iload_n C dX5_setCost_4 1 rfl ?_
  obtain ⟨r1, e2, h⟩ := z_b h
  refine g_callI (n := 1) C (fun hM => c_X0_hasStatement l hM isL1 ha1 e2) gX5_setCost_X0_hasStatement rfl (by decide) ⟨rfl, rfl⟩ ⟨Nat.le_of_ble_eq_true rfl, Nat.le_of_ble_eq_true rfl⟩ rfl ly_c1 (Nat.le_of_ble_eq_true rfl) rfl rfl (rest := []) rfl (Nat.le_of_ble_eq_true rfl) dX5_setCost_5 (fun q3 => ?_)
  have q3 : r1 = 0 ∨ r1 = 1 := q3
  refine g_if_ne C 21 dX5_setCost_8 (by decide) (rgT_inR (rt := 1) q3) (fun c4 => ?_) (fun c4 => ?_)
  · have h := z_f c4 h
    refine g_iload_n C dX5_setCost_21 2 rfl ?_
    refine g_iconst C dX5_setCost_22 ?_
    refine g_icmp_lt C 32 dX5_setCost_23 (by decide) ha2 (by decide) (fun c5 => ?_) (fun c5 => ?_)
    · have h := z_t c5 h
      obtain ⟨rfl, rfl, rfl⟩ := z_s3 h
      exact hT _ _ 62 105 66 _ "the cost is out of range" (by decide) rfl (by decide) (List.mem_of_getElem? (i := 3) rfl) (List.mem_of_getElem? (i := 4) rfl) (List.mem_of_getElem? (i := 4) rfl) (fun _ h => List.mem_cons_of_mem _ (List.mem_append_right _ h)) xb_1 xg_1 dX5_setCost_32 dX5_setCost_35 dX5_setCost_36 dX5_setCost_38 dX5_setCost_41
    · have h := z_f c5 h
      refine g_iload_n C dX5_setCost_26 2 rfl ?_
      refine g_bipush C dX5_setCost_27 (by decide) ?_
      refine g_icmp_le C 42 dX5_setCost_29 (by decide) ha2 (by decide) (fun c6 => ?_) (fun c6 => ?_)
      · have h := z_f c6 h
        refine g_aload_n C dX5_setCost_42 0 rfl ?_
        refine gf_X5_0 C in_X5_setCost_X5 (List.mem_of_getElem? (i := 5) rfl) dX5_setCost_43 ?_
        refine gfn_X0_1 C in_X5_setCost_X0 isL1 (List.mem_of_getElem? (i := 0) rfl) dX5_setCost_46 ?_
        refine g_iload_n C dX5_setCost_49 1 rfl ?_
        obtain ⟨g7, h⟩ := z_g h
        refine g_iald C ly_c2 (Nat.le_of_ble_eq_true rfl) (by decide) g7 dX5_setCost_50 (fun r8 => ?_)
        refine g_istore_n C dX5_setCost_51 (by decide) (vs' := [(3, .int (Int32.ofInt (σ 2 a1))), (0, .ref (ad 0)), (1, .int (Int32.ofInt a1)), (2, .int (Int32.ofInt a2))]) rfl ?_
        refine g_aload_n C dX5_setCost_52 1 rfl ?_
        refine gf_X5_0 C in_X5_setCost_X5 (List.mem_of_getElem? (i := 5) rfl) dX5_setCost_53 ?_
        refine gfn_X0_1 C in_X5_setCost_X0 isL1 (List.mem_of_getElem? (i := 0) rfl) dX5_setCost_56 ?_
        refine g_iload_n C dX5_setCost_59 2 rfl ?_
        refine g_iload_n C dX5_setCost_60 3 rfl ?_
        refine g_iast C ly_c2 (Nat.le_of_ble_eq_true rfl) (by decide) (by omega) ha2 dX5_setCost_61 ?_
        obtain ⟨σ9, e10, h⟩ := z_l h
        refine g_mem e10 ?_
        refine g_iload_n C dX5_setCost_62 0 rfl ?_
        obtain ⟨rfl, rfl, rfl⟩ := z_s3 h
        exact hR _ _ dX5_setCost_63 rfl r8
      · have h := z_t c6 h
        obtain ⟨rfl, rfl, rfl⟩ := z_s3 h
        exact hT _ _ 62 105 66 _ "the cost is out of range" (by decide) rfl (by decide) (List.mem_of_getElem? (i := 3) rfl) (List.mem_of_getElem? (i := 4) rfl) (List.mem_of_getElem? (i := 4) rfl) (fun _ h => List.mem_cons_of_mem _ (List.mem_append_right _ h)) xb_1 xg_1 dX5_setCost_32 dX5_setCost_35 dX5_setCost_36 dX5_setCost_38 dX5_setCost_41
  · have h := z_t c4 h
    obtain ⟨rfl, rfl, rfl⟩ := z_s3 h
    exact hT _ _ 100 102 104 _ "there is no such statement" (by decide) rfl (by decide) (List.mem_of_getElem? (i := 1) rfl) (List.mem_of_getElem? (i := 2) rfl) (List.mem_of_getElem? (i := 3) rfl) (fun _ h => List.mem_cons_of_mem _ (List.mem_append_left _ (List.mem_append_right _ h))) xb_3 xg_3 dX5_setCost_11 dX5_setCost_14 dX5_setCost_15 dX5_setCost_17 dX5_setCost_20
theorem in_X5_set_X5 : ∀ w ∈ u_ws RX5 TX5 9, w ∈ wsX5_set := fun _ h => List.mem_cons_of_mem _ (List.mem_append_left _ (List.mem_append_left _ (List.mem_append_right _ h)))
theorem in_X5_set_X0 : ∀ w ∈ u_ws RX0 TX0 12, w ∈ wsX5_set := fun _ h => List.mem_cons_of_mem _ (List.mem_append_left _ (List.mem_append_right _ h))
set_option maxHeartbeats 4000000 in
set_option maxRecDepth 100000 in
theorem c_X5_set (l : Launch) (hl0 : l.stackTraces = false) {σ : MM} (hM : okM σ) {a1 : Int} (ha1 : inR a1) {a2 : Int} (ha2 : inR a2) {xo ro : Int} {σo : MM} (h : X5_set a1 a2 σ = some (xo, ro, σo)) : CtX l yX5_set wsX5_set { frames := 6, cells := 1, slots := 6, locals := 82 } (fun ad : Nat → Nat => [.ref (ad 0), .int (Int32.ofInt a1), .int (Int32.ofInt a2)]) σ 0 xo ro σo := by
  unfold X5_set at h
  refine z_ctX (cc := cX5_set) (maxL := 4) (rt := 0) hl0 hM (by decide) rfl (fun _ => Nat.le_of_ble_eq_true rfl) rfl (Nat.le_of_ble_eq_true rfl) (Nat.le_of_ble_eq_true rfl) (@fun p e s m args below meth c D cy ad A Q C hX hR hT hTW => ?_)
  refine g_sub (vs' := [(0, .ref (ad 0)), (1, .int (Int32.ofInt a1)), (2, .int (Int32.ofInt a2))]) [0, 1, 2] rfl ?_
  refine g_iload_n C dX5_set_0 1 rfl ?_
  refine g_if_lt C 9 dX5_set_1 (by decide) ha1 (fun c1 => ?_) (fun c1 => ?_)
  · have h := z_t c1 h
    obtain ⟨rfl, rfl, rfl⟩ := z_s3 h
    exact hT _ _ 62 111 66 _ "there is no such parameter" (by decide) rfl (by decide) (List.mem_of_getElem? (i := 1) rfl) (List.mem_of_getElem? (i := 2) rfl) (List.mem_of_getElem? (i := 5) rfl) (fun _ h => List.mem_cons_of_mem _ (List.mem_append_right _ h)) xb_1 xg_1 dX5_set_9 dX5_set_12 dX5_set_13 dX5_set_15 dX5_set_18
  · have h := z_f c1 h
    refine g_iload_n C dX5_set_4 1 rfl ?_
    refine g_iconst C dX5_set_5 ?_
    refine g_icmp_lt C 19 dX5_set_6 (by decide) ha1 (by decide) (fun c2 => ?_) (fun c2 => ?_)
    · have h := z_t c2 h
      refine g_iload_n C dX5_set_19 2 rfl ?_
      obtain ⟨t3, hZ4, hT5⟩ := hX.2.2.2.2.1
      refine g_gets C hZ4 (List.mem_of_getElem? (i := 3) rfl) dX5_set_20 ?_
      refine g_iload_n C dX5_set_23 1 rfl ?_
      refine g_stald (nm := "LEAST_VALUE") C leVI leIR hT5 (by omega) dX5_set_24 (fun r6 => ?_)
      refine g_icmp_lt C 37 dX5_set_25 (by decide) ha2 r6 (fun c7 => ?_) (fun c7 => ?_)
      · have h := z_t c7 h
        obtain ⟨rfl, rfl, rfl⟩ := z_s3 h
        exact hT _ _ 62 119 66 _ "the value is out of range" (by decide) rfl (by decide) (List.mem_of_getElem? (i := 1) rfl) (List.mem_of_getElem? (i := 2) rfl) (List.mem_of_getElem? (i := 6) rfl) (fun _ h => List.mem_cons_of_mem _ (List.mem_append_right _ h)) xb_1 xg_1 dX5_set_37 dX5_set_40 dX5_set_41 dX5_set_43 dX5_set_46
      · have h := z_f c7 h
        refine g_iload_n C dX5_set_28 2 rfl ?_
        obtain ⟨t8, hZ9, hT10⟩ := hX.2.2.2.2.2
        refine g_gets C hZ9 (List.mem_of_getElem? (i := 4) rfl) dX5_set_29 ?_
        refine g_iload_n C dX5_set_32 1 rfl ?_
        refine g_stald (nm := "GREATEST_VALUE") C grVI grIR hT10 (by omega) dX5_set_33 (fun r11 => ?_)
        refine g_icmp_le C 47 dX5_set_34 (by decide) ha2 r11 (fun c12 => ?_) (fun c12 => ?_)
        · have h := z_f c12 h
          refine g_aload_n C dX5_set_47 0 rfl ?_
          refine gf_X5_0 C in_X5_set_X5 (List.mem_of_getElem? (i := 5) rfl) dX5_set_48 ?_
          refine gfn_X0_11 C in_X5_set_X0 isL1 (List.mem_of_getElem? (i := 1) rfl) dX5_set_51 ?_
          refine g_iload_n C dX5_set_54 1 rfl ?_
          refine g_iald C ly_c11 (Nat.le_of_ble_eq_true rfl) (by decide) (by omega) dX5_set_55 (fun r13 => ?_)
          refine g_istore_n C dX5_set_56 (by decide) (vs' := [(3, .int (Int32.ofInt (σ 11 a1))), (0, .ref (ad 0)), (1, .int (Int32.ofInt a1)), (2, .int (Int32.ofInt a2))]) rfl ?_
          refine g_aload_n C dX5_set_57 1 rfl ?_
          refine gf_X5_0 C in_X5_set_X5 (List.mem_of_getElem? (i := 5) rfl) dX5_set_58 ?_
          refine gfn_X0_11 C in_X5_set_X0 isL1 (List.mem_of_getElem? (i := 1) rfl) dX5_set_61 ?_
          refine g_iload_n C dX5_set_64 2 rfl ?_
          refine g_iload_n C dX5_set_65 3 rfl ?_
          refine g_iast C ly_c11 (Nat.le_of_ble_eq_true rfl) (by decide) (by omega) ha2 dX5_set_66 ?_
          obtain ⟨σ14, e15, h⟩ := z_l h
          refine g_mem e15 ?_
          refine g_iload_n C dX5_set_67 0 rfl ?_
          obtain ⟨rfl, rfl, rfl⟩ := z_s3 h
          exact hR _ _ dX5_set_68 rfl r13
        · have h := z_t c12 h
          obtain ⟨rfl, rfl, rfl⟩ := z_s3 h
          exact hT _ _ 62 119 66 _ "the value is out of range" (by decide) rfl (by decide) (List.mem_of_getElem? (i := 1) rfl) (List.mem_of_getElem? (i := 2) rfl) (List.mem_of_getElem? (i := 6) rfl) (fun _ h => List.mem_cons_of_mem _ (List.mem_append_right _ h)) xb_1 xg_1 dX5_set_37 dX5_set_40 dX5_set_41 dX5_set_43 dX5_set_46
    · have h := z_f c2 h
      obtain ⟨rfl, rfl, rfl⟩ := z_s3 h
      exact hT _ _ 62 111 66 _ "there is no such parameter" (by decide) rfl (by decide) (List.mem_of_getElem? (i := 1) rfl) (List.mem_of_getElem? (i := 2) rfl) (List.mem_of_getElem? (i := 5) rfl) (fun _ h => List.mem_cons_of_mem _ (List.mem_append_right _ h)) xb_1 xg_1 dX5_set_9 dX5_set_12 dX5_set_13 dX5_set_15 dX5_set_18
theorem in_X5_exchange_X5 : ∀ w ∈ u_ws RX5 TX5 9, w ∈ wsX5_exchange := fun _ h => List.mem_cons_of_mem _ (List.mem_append_left _ (List.mem_append_left _ (List.mem_append_left _ (List.mem_append_right _ h))))
theorem in_X5_exchange_X0 : ∀ w ∈ u_ws RX0 TX0 12, w ∈ wsX5_exchange := fun _ h => List.mem_cons_of_mem _ (List.mem_append_left _ (List.mem_append_left _ (List.mem_append_right _ h)))
set_option maxHeartbeats 4000000 in
set_option maxRecDepth 100000 in
theorem c_X5_exchange (l : Launch) (hl0 : l.stackTraces = false) {σ : MM} (hM : okM σ) {a1 : Int} (ha1 : inR a1) {xo ro : Int} {σo : MM} (h : X5_exchange a1 σ = some (xo, ro, σo)) : CtX l yX5_exchange wsX5_exchange { frames := 6, cells := 1, slots := 6, locals := 82 } (fun ad : Nat → Nat => [.ref (ad 0), .int (Int32.ofInt a1)]) σ 0 xo ro σo := by
  unfold X5_exchange at h
  refine z_ctX (cc := cX5_exchange) (maxL := 2) (rt := 0) hl0 hM (by decide) rfl (fun _ => Nat.le_of_ble_eq_true rfl) rfl (Nat.le_of_ble_eq_true rfl) (Nat.le_of_ble_eq_true rfl) (@fun p e s m args below meth c D cy ad A Q C hX hR hT hTW => ?_)
  refine g_sub (vs' := [(0, .ref (ad 0)), (1, .int (Int32.ofInt a1))]) [0, 1] rfl ?_
  refine g_iload_n C dX5_exchange_0 1 rfl ?_
  refine g_if_lt C 17 dX5_exchange_1 (by decide) ha1 (fun c1 => ?_) (fun c1 => ?_)
  · have h := z_t c1 h
    obtain ⟨rfl, rfl, rfl⟩ := z_s3 h
    exact hT _ _ 100 127 104 _ "there is no such position" (by decide) rfl (by decide) (List.mem_of_getElem? (i := 1) rfl) (List.mem_of_getElem? (i := 2) rfl) (List.mem_of_getElem? (i := 7) rfl) (fun _ h => List.mem_cons_of_mem _ (List.mem_append_left _ (List.mem_append_right _ h))) xb_3 xg_3 dX5_exchange_17 dX5_exchange_20 dX5_exchange_21 dX5_exchange_23 dX5_exchange_26
  · have h := z_f c1 h
    refine g_iload_n C dX5_exchange_4 1 rfl ?_
    refine g_aload_n C dX5_exchange_5 0 rfl ?_
    refine gf_X5_0 C in_X5_exchange_X5 (List.mem_of_getElem? (i := 5) rfl) dX5_exchange_6 ?_
    refine gfn_X0_0 C in_X5_exchange_X0 isL1 (List.mem_of_getElem? (i := 2) rfl) dX5_exchange_9 (fun r2 => ?_)
    refine g_iconst C dX5_exchange_12 ?_
    refine g_isub C dX5_exchange_13 ?_
    obtain ⟨g3, h⟩ := z_g h
    refine g_icmp_lt C 27 dX5_exchange_14 (by decide) ha1 g3 (fun c4 => ?_) (fun c4 => ?_)
    · have h := z_t c4 h
      refine g_aload_n C dX5_exchange_27 0 rfl ?_
      refine gf_X5_0 C in_X5_exchange_X5 (List.mem_of_getElem? (i := 5) rfl) dX5_exchange_28 ?_
      refine g_aload_n C dX5_exchange_31 0 rfl ?_
      refine gf_X5_0 C in_X5_exchange_X5 (List.mem_of_getElem? (i := 5) rfl) dX5_exchange_32 ?_
      refine g_iload_n C dX5_exchange_35 1 rfl ?_
      obtain ⟨r5, e6, h⟩ := z_b h
      refine g_callI (n := 1) C (fun hM => c_X0_statementAt l hM isL1 ha1 e6) gX5_exchange_X0_statementAt rfl (by decide) ⟨rfl, rfl⟩ ⟨Nat.le_of_ble_eq_true rfl, Nat.le_of_ble_eq_true rfl⟩ rfl ly_c1 (Nat.le_of_ble_eq_true rfl) rfl rfl (rest := [.ref (ad 1)]) rfl (Nat.le_of_ble_eq_true rfl) dX5_exchange_36 (fun q7 => ?_)
      have q7 : inR r5 := q7
      refine g_aload_n C dX5_exchange_39 0 rfl ?_
      refine gf_X5_0 C in_X5_exchange_X5 (List.mem_of_getElem? (i := 5) rfl) dX5_exchange_40 ?_
      refine g_iload_n C dX5_exchange_43 1 rfl ?_
      refine g_iconst C dX5_exchange_44 ?_
      refine g_iadd C dX5_exchange_45 ?_
      obtain ⟨r8, e9, h⟩ := z_b h
      refine g_callI (n := 1) C (fun hM => c_X0_statementAt l hM isL1 (by omega) e9) gX5_exchange_X0_statementAt rfl (by decide) ⟨rfl, rfl⟩ ⟨Nat.le_of_ble_eq_true rfl, Nat.le_of_ble_eq_true rfl⟩ rfl ly_c1 (Nat.le_of_ble_eq_true rfl) rfl rfl (rest := [.int (Int32.ofInt r5), .ref (ad 1)]) rfl (Nat.le_of_ble_eq_true rfl) dX5_exchange_46 (fun q10 => ?_)
      have q10 : inR r8 := q10
      obtain ⟨r11, e12, h⟩ := z_b h
      refine g_callI (n := 2) C (fun hM => c_X0_isOrdered l hM isL1 q7 q10 e12) gX5_exchange_X0_isOrdered rfl (by decide) ⟨rfl, rfl⟩ ⟨Nat.le_of_ble_eq_true rfl, Nat.le_of_ble_eq_true rfl⟩ rfl ly_c1 (Nat.le_of_ble_eq_true rfl) rfl rfl (rest := []) rfl (Nat.le_of_ble_eq_true rfl) dX5_exchange_49 (fun q13 => ?_)
      have q13 : r11 = 0 ∨ r11 = 1 := q13
      refine g_if_eq C 65 dX5_exchange_52 (by decide) (rgT_inR (rt := 1) q13) (fun c14 => ?_) (fun c14 => ?_)
      · have h := z_t c14 h
        refine g_aload_n C dX5_exchange_65 0 rfl ?_
        refine gf_X5_0 C in_X5_exchange_X5 (List.mem_of_getElem? (i := 5) rfl) dX5_exchange_66 ?_
        refine g_iload_n C dX5_exchange_69 1 rfl ?_
        refine g_iload_n C dX5_exchange_70 1 rfl ?_
        refine g_iconst C dX5_exchange_71 ?_
        refine g_iadd C dX5_exchange_72 ?_
        obtain ⟨σ17, e16, h⟩ := z_b h
        refine g_callV (n := 2) C (fun hM => c_X0_swap l hM isL1 ha1 (by omega) e16) gX5_exchange_X0_swap rfl (by decide) ⟨rfl, rfl⟩ ⟨Nat.le_of_ble_eq_true rfl, Nat.le_of_ble_eq_true rfl⟩ rfl ly_c1 (Nat.le_of_ble_eq_true rfl) rfl rfl (rest := []) rfl (Nat.le_of_ble_eq_true rfl) dX5_exchange_73 ?_
        refine g_aload_n C dX5_exchange_76 0 rfl ?_
        refine gf_X5_0 C in_X5_exchange_X5 (List.mem_of_getElem? (i := 5) rfl) dX5_exchange_77 ?_
        refine g_iload_n C dX5_exchange_80 1 rfl ?_
        obtain ⟨r18, e19, h⟩ := z_b h
        refine g_callI (n := 1) C (fun hM => c_X0_statementAt l hM isL1 ha1 e19) gX5_exchange_X0_statementAt rfl (by decide) ⟨rfl, rfl⟩ ⟨Nat.le_of_ble_eq_true rfl, Nat.le_of_ble_eq_true rfl⟩ rfl ly_c1 (Nat.le_of_ble_eq_true rfl) rfl rfl (rest := []) rfl (Nat.le_of_ble_eq_true rfl) dX5_exchange_81 (fun q20 => ?_)
        have q20 : inR r18 := q20
        obtain ⟨rfl, rfl, rfl⟩ := z_s3 h
        exact hR _ _ dX5_exchange_84 rfl q20
      · have h := z_f c14 h
        obtain ⟨rfl, rfl, rfl⟩ := z_s3 h
        exact hT _ _ 72 137 76 _ "a dependence demands this order" (by decide) rfl (by decide) (List.mem_of_getElem? (i := 3) rfl) (List.mem_of_getElem? (i := 4) rfl) (List.mem_of_getElem? (i := 8) rfl) (fun _ h => List.mem_cons_of_mem _ (List.mem_append_right _ h)) xb_2 xg_2 dX5_exchange_55 dX5_exchange_58 dX5_exchange_59 dX5_exchange_61 dX5_exchange_64
    · have h := z_f c4 h
      obtain ⟨rfl, rfl, rfl⟩ := z_s3 h
      exact hT _ _ 100 127 104 _ "there is no such position" (by decide) rfl (by decide) (List.mem_of_getElem? (i := 1) rfl) (List.mem_of_getElem? (i := 2) rfl) (List.mem_of_getElem? (i := 7) rfl) (fun _ h => List.mem_cons_of_mem _ (List.mem_append_left _ (List.mem_append_right _ h))) xb_3 xg_3 dX5_exchange_17 dX5_exchange_20 dX5_exchange_21 dX5_exchange_23 dX5_exchange_26
theorem in_X5_remove_X5 : ∀ w ∈ u_ws RX5 TX5 9, w ∈ wsX5_remove := fun _ h => List.mem_cons_of_mem _ (List.mem_append_left _ (List.mem_append_left _ (List.mem_append_right _ h)))
theorem in_X5_remove_X0 : ∀ w ∈ u_ws RX0 TX0 12, w ∈ wsX5_remove := fun _ h => List.mem_cons_of_mem _ (List.mem_append_left _ (List.mem_append_right _ h))
set_option maxHeartbeats 4000000 in
set_option maxRecDepth 100000 in
theorem c_X5_remove (l : Launch) (hl0 : l.stackTraces = false) {σ : MM} (hM : okM σ) {a1 : Int} (ha1 : inR a1) {xo ro : Int} {σo : MM} (h : X5_remove a1 σ = some (xo, ro, σo)) : CtX l yX5_remove wsX5_remove { frames := 6, cells := 1, slots := 6, locals := 82 } (fun ad : Nat → Nat => [.ref (ad 0), .int (Int32.ofInt a1)]) σ 0 xo ro σo := by
  unfold X5_remove at h
  refine z_ctX (cc := cX5_remove) (maxL := 2) (rt := 0) hl0 hM (by decide) rfl (fun _ => Nat.le_of_ble_eq_true rfl) rfl (Nat.le_of_ble_eq_true rfl) (Nat.le_of_ble_eq_true rfl) (@fun p e s m args below meth c D cy ad A Q C hX hR hT hTW => ?_)
  refine g_sub (vs' := [(0, .ref (ad 0)), (1, .int (Int32.ofInt a1))]) [0, 1] rfl ?_
  refine g_aload_n C dX5_remove_0 0 rfl ?_
  refine gf_X5_0 C in_X5_remove_X5 (List.mem_of_getElem? (i := 3) rfl) dX5_remove_1 ?_
  refine g_iload_n C dX5_remove_4 1 rfl ?_
  obtain ⟨r1, e2, h⟩ := z_b h
  refine g_callI (n := 1) C (fun hM => c_X0_hasDependence l hM isL1 ha1 e2) gX5_remove_X0_hasDependence rfl (by decide) ⟨rfl, rfl⟩ ⟨Nat.le_of_ble_eq_true rfl, Nat.le_of_ble_eq_true rfl⟩ rfl ly_c1 (Nat.le_of_ble_eq_true rfl) rfl rfl (rest := []) rfl (Nat.le_of_ble_eq_true rfl) dX5_remove_5 (fun q3 => ?_)
  have q3 : r1 = 0 ∨ r1 = 1 := q3
  refine g_if_ne C 21 dX5_remove_8 (by decide) (rgT_inR (rt := 1) q3) (fun c4 => ?_) (fun c4 => ?_)
  · have h := z_f c4 h
    refine g_aload_n C dX5_remove_21 0 rfl ?_
    refine gf_X5_0 C in_X5_remove_X5 (List.mem_of_getElem? (i := 3) rfl) dX5_remove_22 ?_
    refine g_iload_n C dX5_remove_25 1 rfl ?_
    obtain ⟨σ7, e6, h⟩ := z_b h
    refine g_callV (n := 1) C (fun hM => c_X0_dropDependence l hM isL1 ha1 e6) gX5_remove_X0_dropDependence rfl (by decide) ⟨rfl, rfl⟩ ⟨Nat.le_of_ble_eq_true rfl, Nat.le_of_ble_eq_true rfl⟩ rfl ly_c1 (Nat.le_of_ble_eq_true rfl) rfl rfl (rest := []) rfl (Nat.le_of_ble_eq_true rfl) dX5_remove_26 ?_
    refine g_aload_n C dX5_remove_29 0 rfl ?_
    refine gf_X5_0 C in_X5_remove_X5 (List.mem_of_getElem? (i := 3) rfl) dX5_remove_30 ?_
    refine gfn_X0_5 C in_X5_remove_X0 isL1 (List.mem_of_getElem? (i := 3) rfl) dX5_remove_33 (fun r8 => ?_)
    obtain ⟨rfl, rfl, rfl⟩ := z_s3 h
    exact hR _ _ dX5_remove_36 rfl r8
  · have h := z_t c4 h
    obtain ⟨rfl, rfl, rfl⟩ := z_s3 h
    exact hT _ _ 100 146 104 _ "there is no such dependence" (by decide) rfl (by decide) (List.mem_of_getElem? (i := 1) rfl) (List.mem_of_getElem? (i := 2) rfl) (List.mem_of_getElem? (i := 9) rfl) (fun _ h => List.mem_cons_of_mem _ (List.mem_append_right _ h)) xb_3 xg_3 dX5_remove_11 dX5_remove_14 dX5_remove_15 dX5_remove_17 dX5_remove_20
theorem in_X5_statement_X5 : ∀ w ∈ u_ws RX5 TX5 9, w ∈ wsX5_statement := fun _ h => List.mem_cons_of_mem _ (List.mem_append_left _ (List.mem_append_left _ (List.mem_append_left _ (List.mem_append_right _ h))))
set_option maxHeartbeats 4000000 in
set_option maxRecDepth 100000 in
theorem c_X5_statement (l : Launch) (hl0 : l.stackTraces = false) {σ : MM} (hM : okM σ) {a1 : Int} (ha1 : inR a1) {a2 : Int} (ha2 : inR a2) {xo ro : Int} {σo : MM} (h : X5_statement a1 a2 σ = some (xo, ro, σo)) : CtX l yX5_statement wsX5_statement { frames := 6, cells := 1, slots := 6, locals := 82 } (fun ad : Nat → Nat => [.ref (ad 0), .int (Int32.ofInt a1), .int (Int32.ofInt a2)]) σ 0 xo ro σo := by
  unfold X5_statement at h
  refine z_ctX (cc := cX5_statement) (maxL := 3) (rt := 0) hl0 hM (by decide) rfl (fun _ => Nat.le_of_ble_eq_true rfl) rfl (Nat.le_of_ble_eq_true rfl) (Nat.le_of_ble_eq_true rfl) (@fun p e s m args below meth c D cy ad A Q C hX hR hT hTW => ?_)
  refine g_sub (vs' := [(0, .ref (ad 0)), (1, .int (Int32.ofInt a1)), (2, .int (Int32.ofInt a2))]) [0, 1, 2] rfl ?_
  refine g_aload_n C dX5_statement_0 0 rfl ?_
  refine gf_X5_0 C in_X5_statement_X5 (List.mem_of_getElem? (i := 5) rfl) dX5_statement_1 ?_
  refine g_iload_n C dX5_statement_4 1 rfl ?_
  obtain ⟨r1, e2, h⟩ := z_b h
  refine g_callI (n := 1) C (fun hM => c_X0_hasStatement l hM isL1 ha1 e2) gX5_statement_X0_hasStatement rfl (by decide) ⟨rfl, rfl⟩ ⟨Nat.le_of_ble_eq_true rfl, Nat.le_of_ble_eq_true rfl⟩ rfl ly_c1 (Nat.le_of_ble_eq_true rfl) rfl rfl (rest := []) rfl (Nat.le_of_ble_eq_true rfl) dX5_statement_5 (fun q3 => ?_)
  have q3 : r1 = 0 ∨ r1 = 1 := q3
  refine g_if_ne C 21 dX5_statement_8 (by decide) (rgT_inR (rt := 1) q3) (fun c4 => ?_) (fun c4 => ?_)
  · have h := z_f c4 h
    refine g_iload_n C dX5_statement_21 2 rfl ?_
    by_cases c5 : a2 = 0
    · have h := z_t c5 h
      refine g_tsw C 48 0 dX5_statement_22 ha2 c5 (by decide) (by decide) rfl (by decide) ?_
      refine g_aload_n C dX5_statement_48 0 rfl ?_
      refine gf_X5_0 C in_X5_statement_X5 (List.mem_of_getElem? (i := 5) rfl) dX5_statement_49 ?_
      refine g_iload_n C dX5_statement_52 1 rfl ?_
      obtain ⟨r6, e7, h⟩ := z_b h
      refine g_callI (n := 1) C (fun hM => c_X0_costOf l hM isL1 ha1 e7) gX5_statement_X0_costOf rfl (by decide) ⟨rfl, rfl⟩ ⟨Nat.le_of_ble_eq_true rfl, Nat.le_of_ble_eq_true rfl⟩ rfl ly_c1 (Nat.le_of_ble_eq_true rfl) rfl rfl (rest := []) rfl (Nat.le_of_ble_eq_true rfl) dX5_statement_53 (fun q8 => ?_)
      have q8 : inR r6 := q8
      obtain ⟨rfl, rfl, rfl⟩ := z_s3 h
      exact hR _ _ dX5_statement_56 rfl q8
    have h := z_f c5 h
    by_cases c9 : a2 = 1
    · have h := z_t c9 h
      refine g_tsw C 57 1 dX5_statement_22 ha2 c9 (by decide) (by decide) rfl (by decide) ?_
      refine g_aload_n C dX5_statement_57 0 rfl ?_
      refine gf_X5_0 C in_X5_statement_X5 (List.mem_of_getElem? (i := 5) rfl) dX5_statement_58 ?_
      refine g_iload_n C dX5_statement_61 1 rfl ?_
      obtain ⟨r10, e11, h⟩ := z_b h
      refine g_callI (n := 1) C (fun hM => c_X0_positionOf l hM isL1 ha1 e11) gX5_statement_X0_positionOf rfl (by decide) ⟨rfl, rfl⟩ ⟨Nat.le_of_ble_eq_true rfl, Nat.le_of_ble_eq_true rfl⟩ rfl ly_c1 (Nat.le_of_ble_eq_true rfl) rfl rfl (rest := []) rfl (Nat.le_of_ble_eq_true rfl) dX5_statement_62 (fun q12 => ?_)
      have q12 : inR r10 := q12
      obtain ⟨rfl, rfl, rfl⟩ := z_s3 h
      exact hR _ _ dX5_statement_65 rfl q12
    have h := z_f c9 h
    by_cases c13 : a2 = 2
    · have h := z_t c13 h
      refine g_tsw C 66 2 dX5_statement_22 ha2 c13 (by decide) (by decide) rfl (by decide) ?_
      refine g_aload_n C dX5_statement_66 0 rfl ?_
      refine gf_X5_0 C in_X5_statement_X5 (List.mem_of_getElem? (i := 5) rfl) dX5_statement_67 ?_
      obtain ⟨σ16, e15, h⟩ := z_b h
      refine g_callV (n := 0) C (fun hM => c_X0_measureOffsets l hM isL1 e15) gX5_statement_X0_measureOffsets rfl (by decide) ⟨rfl, rfl⟩ ⟨Nat.le_of_ble_eq_true rfl, Nat.le_of_ble_eq_true rfl⟩ rfl ly_c1 (Nat.le_of_ble_eq_true rfl) rfl rfl (rest := []) rfl (Nat.le_of_ble_eq_true rfl) dX5_statement_70 ?_
      refine g_aload_n C dX5_statement_73 0 rfl ?_
      refine gf_X5_0 C in_X5_statement_X5 (List.mem_of_getElem? (i := 5) rfl) dX5_statement_74 ?_
      refine g_iload_n C dX5_statement_77 1 rfl ?_
      obtain ⟨r17, e18, h⟩ := z_b h
      refine g_callI (n := 1) C (fun hM => c_X0_offsetOf l hM isL1 ha1 e18) gX5_statement_X0_offsetOf rfl (by decide) ⟨rfl, rfl⟩ ⟨Nat.le_of_ble_eq_true rfl, Nat.le_of_ble_eq_true rfl⟩ rfl ly_c1 (Nat.le_of_ble_eq_true rfl) rfl rfl (rest := []) rfl (Nat.le_of_ble_eq_true rfl) dX5_statement_78 (fun q19 => ?_)
      have q19 : inR r17 := q19
      obtain ⟨rfl, rfl, rfl⟩ := z_s3 h
      exact hR _ _ dX5_statement_81 rfl q19
    have h := z_f c13 h
    refine g_tswD C 82 dX5_statement_22 ha2 (by omega) (by decide) ?_
    obtain ⟨rfl, rfl, rfl⟩ := z_s3 h
    exact hT _ _ 62 166 66 _ "there is no such property" (by decide) rfl (by decide) (List.mem_of_getElem? (i := 3) rfl) (List.mem_of_getElem? (i := 4) rfl) (List.mem_of_getElem? (i := 10) rfl) (fun _ h => List.mem_cons_of_mem _ (List.mem_append_right _ h)) xb_1 xg_1 dX5_statement_82 dX5_statement_85 dX5_statement_86 dX5_statement_88 dX5_statement_91
  · have h := z_t c4 h
    obtain ⟨rfl, rfl, rfl⟩ := z_s3 h
    exact hT _ _ 100 102 104 _ "there is no such statement" (by decide) rfl (by decide) (List.mem_of_getElem? (i := 1) rfl) (List.mem_of_getElem? (i := 2) rfl) (List.mem_of_getElem? (i := 3) rfl) (fun _ h => List.mem_cons_of_mem _ (List.mem_append_left _ (List.mem_append_right _ h))) xb_3 xg_3 dX5_statement_11 dX5_statement_14 dX5_statement_15 dX5_statement_17 dX5_statement_20
theorem in_X5_dependence_X5 : ∀ w ∈ u_ws RX5 TX5 9, w ∈ wsX5_dependence := fun _ h => List.mem_cons_of_mem _ (List.mem_append_left _ (List.mem_append_left _ (List.mem_append_left _ (List.mem_append_right _ h))))
theorem in_X5_dependence_X0 : ∀ w ∈ u_ws RX0 TX0 12, w ∈ wsX5_dependence := fun _ h => List.mem_cons_of_mem _ (List.mem_append_left _ (List.mem_append_left _ (List.mem_append_right _ h)))
set_option maxHeartbeats 4000000 in
set_option maxRecDepth 100000 in
theorem c_X5_dependence (l : Launch) (hl0 : l.stackTraces = false) {σ : MM} (hM : okM σ) {a1 : Int} (ha1 : inR a1) {a2 : Int} (ha2 : inR a2) {xo ro : Int} {σo : MM} (h : X5_dependence a1 a2 σ = some (xo, ro, σo)) : CtX l yX5_dependence wsX5_dependence { frames := 6, cells := 1, slots := 6, locals := 82 } (fun ad : Nat → Nat => [.ref (ad 0), .int (Int32.ofInt a1), .int (Int32.ofInt a2)]) σ 0 xo ro σo := by
  unfold X5_dependence at h
  refine z_ctX (cc := cX5_dependence) (maxL := 3) (rt := 0) hl0 hM (by decide) rfl (fun _ => Nat.le_of_ble_eq_true rfl) rfl (Nat.le_of_ble_eq_true rfl) (Nat.le_of_ble_eq_true rfl) (@fun p e s m args below meth c D cy ad A Q C hX hR hT hTW => ?_)
  refine g_sub (vs' := [(0, .ref (ad 0)), (1, .int (Int32.ofInt a1)), (2, .int (Int32.ofInt a2))]) [0, 1, 2] rfl ?_
  refine g_aload_n C dX5_dependence_0 0 rfl ?_
  refine gf_X5_0 C in_X5_dependence_X5 (List.mem_of_getElem? (i := 5) rfl) dX5_dependence_1 ?_
  refine g_iload_n C dX5_dependence_4 1 rfl ?_
  obtain ⟨r1, e2, h⟩ := z_b h
  refine g_callI (n := 1) C (fun hM => c_X0_hasDependence l hM isL1 ha1 e2) gX5_dependence_X0_hasDependence rfl (by decide) ⟨rfl, rfl⟩ ⟨Nat.le_of_ble_eq_true rfl, Nat.le_of_ble_eq_true rfl⟩ rfl ly_c1 (Nat.le_of_ble_eq_true rfl) rfl rfl (rest := []) rfl (Nat.le_of_ble_eq_true rfl) dX5_dependence_5 (fun q3 => ?_)
  have q3 : r1 = 0 ∨ r1 = 1 := q3
  refine g_if_ne C 21 dX5_dependence_8 (by decide) (rgT_inR (rt := 1) q3) (fun c4 => ?_) (fun c4 => ?_)
  · have h := z_f c4 h
    refine g_iload_n C dX5_dependence_21 2 rfl ?_
    by_cases c5 : a2 = 0
    · have h := z_t c5 h
      refine g_tsw C 60 0 dX5_dependence_22 ha2 c5 (by decide) (by decide) rfl (by decide) ?_
      refine g_aload_n C dX5_dependence_60 0 rfl ?_
      refine gf_X5_0 C in_X5_dependence_X5 (List.mem_of_getElem? (i := 5) rfl) dX5_dependence_61 ?_
      refine gfn_X0_6 C in_X5_dependence_X0 isL1 (List.mem_of_getElem? (i := 4) rfl) dX5_dependence_64 ?_
      refine g_iload_n C dX5_dependence_67 1 rfl ?_
      obtain ⟨g6, h⟩ := z_g h
      refine g_iald C ly_c6 (Nat.le_of_ble_eq_true rfl) (by decide) g6 dX5_dependence_68 (fun r7 => ?_)
      obtain ⟨rfl, rfl, rfl⟩ := z_s3 h
      exact hR _ _ dX5_dependence_69 rfl r7
    have h := z_f c5 h
    by_cases c8 : a2 = 1
    · have h := z_t c8 h
      refine g_tsw C 70 1 dX5_dependence_22 ha2 c8 (by decide) (by decide) rfl (by decide) ?_
      refine g_aload_n C dX5_dependence_70 0 rfl ?_
      refine gf_X5_0 C in_X5_dependence_X5 (List.mem_of_getElem? (i := 5) rfl) dX5_dependence_71 ?_
      refine gfn_X0_7 C in_X5_dependence_X0 isL1 (List.mem_of_getElem? (i := 5) rfl) dX5_dependence_74 ?_
      refine g_iload_n C dX5_dependence_77 1 rfl ?_
      obtain ⟨g9, h⟩ := z_g h
      refine g_iald C ly_c7 (Nat.le_of_ble_eq_true rfl) (by decide) g9 dX5_dependence_78 (fun r10 => ?_)
      obtain ⟨rfl, rfl, rfl⟩ := z_s3 h
      exact hR _ _ dX5_dependence_79 rfl r10
    have h := z_f c8 h
    by_cases c11 : a2 = 2
    · have h := z_t c11 h
      refine g_tsw C 80 2 dX5_dependence_22 ha2 c11 (by decide) (by decide) rfl (by decide) ?_
      refine g_aload_n C dX5_dependence_80 0 rfl ?_
      refine gf_X5_0 C in_X5_dependence_X5 (List.mem_of_getElem? (i := 5) rfl) dX5_dependence_81 ?_
      refine gfn_X0_8 C in_X5_dependence_X0 isL1 (List.mem_of_getElem? (i := 6) rfl) dX5_dependence_84 ?_
      refine g_iload_n C dX5_dependence_87 1 rfl ?_
      obtain ⟨g12, h⟩ := z_g h
      refine g_iald C ly_c8 (Nat.le_of_ble_eq_true rfl) (by decide) g12 dX5_dependence_88 (fun r13 => ?_)
      obtain ⟨rfl, rfl, rfl⟩ := z_s3 h
      exact hR _ _ dX5_dependence_89 rfl r13
    have h := z_f c11 h
    by_cases c14 : a2 = 3
    · have h := z_t c14 h
      refine g_tsw C 90 3 dX5_dependence_22 ha2 c14 (by decide) (by decide) rfl (by decide) ?_
      refine g_aload_n C dX5_dependence_90 0 rfl ?_
      refine gf_X5_0 C in_X5_dependence_X5 (List.mem_of_getElem? (i := 5) rfl) dX5_dependence_91 ?_
      refine gfn_X0_9 C in_X5_dependence_X0 isL1 (List.mem_of_getElem? (i := 7) rfl) dX5_dependence_94 ?_
      refine g_iload_n C dX5_dependence_97 1 rfl ?_
      obtain ⟨g15, h⟩ := z_g h
      refine g_iald C ly_c9 (Nat.le_of_ble_eq_true rfl) (by decide) g15 dX5_dependence_98 (fun r16 => ?_)
      obtain ⟨rfl, rfl, rfl⟩ := z_s3 h
      exact hR _ _ dX5_dependence_99 rfl r16
    have h := z_f c14 h
    by_cases c17 : a2 = 4
    · have h := z_t c17 h
      refine g_tsw C 100 4 dX5_dependence_22 ha2 c17 (by decide) (by decide) rfl (by decide) ?_
      refine g_aload_n C dX5_dependence_100 0 rfl ?_
      refine gf_X5_0 C in_X5_dependence_X5 (List.mem_of_getElem? (i := 5) rfl) dX5_dependence_101 ?_
      refine g_iload_n C dX5_dependence_104 1 rfl ?_
      obtain ⟨r18, e19, h⟩ := z_b h
      refine g_callI (n := 1) C (fun hM => c_X0_lagOf l hM isL1 ha1 e19) gX5_dependence_X0_lagOf rfl (by decide) ⟨rfl, rfl⟩ ⟨Nat.le_of_ble_eq_true rfl, Nat.le_of_ble_eq_true rfl⟩ rfl ly_c1 (Nat.le_of_ble_eq_true rfl) rfl rfl (rest := []) rfl (Nat.le_of_ble_eq_true rfl) dX5_dependence_105 (fun q20 => ?_)
      have q20 : inR r18 := q20
      obtain ⟨rfl, rfl, rfl⟩ := z_s3 h
      exact hR _ _ dX5_dependence_108 rfl q20
    have h := z_f c17 h
    by_cases c21 : a2 = 5
    · have h := z_t c21 h
      refine g_tsw C 109 5 dX5_dependence_22 ha2 c21 (by decide) (by decide) rfl (by decide) ?_
      refine g_aload_n C dX5_dependence_109 0 rfl ?_
      refine gf_X5_0 C in_X5_dependence_X5 (List.mem_of_getElem? (i := 5) rfl) dX5_dependence_110 ?_
      refine gfn_X0_10 C in_X5_dependence_X0 isL1 (List.mem_of_getElem? (i := 8) rfl) dX5_dependence_113 ?_
      refine g_iload_n C dX5_dependence_116 1 rfl ?_
      obtain ⟨g22, h⟩ := z_g h
      refine g_zald C ly_c10 (Nat.le_of_ble_eq_true rfl) (by decide) g22 dX5_dependence_117 (fun r23 => ?_)
      refine g_if_eq C 125 dX5_dependence_118 (by decide) r23 (fun c24 => ?_) (fun c24 => ?_)
      · have h := z_t c24 h
        refine g_iconst C dX5_dependence_125 ?_
        obtain ⟨rfl, rfl, rfl⟩ := z_s3 h
        exact hR _ _ dX5_dependence_126 rfl (by show inR _; decide)
      · have h := z_f c24 h
        refine g_iconst C dX5_dependence_121 ?_
        refine g_goto C 126 dX5_dependence_122 (by decide) ?_
        obtain ⟨rfl, rfl, rfl⟩ := z_s3 h
        exact hR _ _ dX5_dependence_126 rfl (by show inR _; decide)
    have h := z_f c21 h
    refine g_tswD C 127 dX5_dependence_22 ha2 (by omega) (by decide) ?_
    obtain ⟨rfl, rfl, rfl⟩ := z_s3 h
    exact hT _ _ 62 166 66 _ "there is no such property" (by decide) rfl (by decide) (List.mem_of_getElem? (i := 3) rfl) (List.mem_of_getElem? (i := 4) rfl) (List.mem_of_getElem? (i := 10) rfl) (fun _ h => List.mem_cons_of_mem _ (List.mem_append_right _ h)) xb_1 xg_1 dX5_dependence_127 dX5_dependence_130 dX5_dependence_131 dX5_dependence_133 dX5_dependence_136
  · have h := z_t c4 h
    obtain ⟨rfl, rfl, rfl⟩ := z_s3 h
    exact hT _ _ 100 146 104 _ "there is no such dependence" (by decide) rfl (by decide) (List.mem_of_getElem? (i := 1) rfl) (List.mem_of_getElem? (i := 2) rfl) (List.mem_of_getElem? (i := 9) rfl) (fun _ h => List.mem_cons_of_mem _ (List.mem_append_left _ (List.mem_append_right _ h))) xb_3 xg_3 dX5_dependence_11 dX5_dependence_14 dX5_dependence_15 dX5_dependence_17 dX5_dependence_20
set_option maxHeartbeats 4000000 in
set_option maxRecDepth 100000 in
theorem c_X5_isMode (l : Launch) {σ : MM} (hM : okM σ) {a1 : Int} (ha1 : inR a1) {ro : Int} (h : X5_isMode a1 σ = some ro) : CtI l yX5_isMode wsX5_isMode { frames := 0, cells := 0, slots := 0, locals := 0 } (fun ad : Nat → Nat => [.int (Int32.ofInt a1)]) σ 1 ro σ := by
  unfold X5_isMode at h
  refine z_ctI (cc := cX5_isMode) (maxL := 1) (rt := 1) hM (by decide) rfl (fun _ => Nat.le_of_ble_eq_true rfl) (@fun p e s m args below meth c D cy ad A Q C hR => ?_)
  refine g_sub (vs' := [(0, .int (Int32.ofInt a1))]) [0] rfl ?_
  refine g_iload_n C dX5_isMode_0 0 rfl ?_
  refine g_if_eq C 9 dX5_isMode_1 (by decide) ha1 (fun c1 => ?_) (fun c1 => ?_)
  · have h := z_t c1 h
    refine g_iconst C dX5_isMode_9 ?_
    refine g_goto C 14 dX5_isMode_10 (by decide) ?_
    obtain rfl := z_s1 h
    exact hR _ _ dX5_isMode_14 (by show _ = _ ∨ _ = _; decide)
  · have h := z_f c1 h
    refine g_iload_n C dX5_isMode_4 0 rfl ?_
    refine g_iconst C dX5_isMode_5 ?_
    refine g_icmp_ne C 13 dX5_isMode_6 (by decide) ha1 (by decide) (fun c2 => ?_) (fun c2 => ?_)
    · have h := z_f c2 h
      refine g_iconst C dX5_isMode_13 ?_
      obtain rfl := z_s1 h
      exact hR _ _ dX5_isMode_14 (by show _ = _ ∨ _ = _; decide)
    · have h := z_t c2 h
      refine g_iconst C dX5_isMode_9 ?_
      refine g_goto C 14 dX5_isMode_10 (by decide) ?_
      obtain rfl := z_s1 h
      exact hR _ _ dX5_isMode_14 (by show _ = _ ∨ _ = _; decide)
theorem in_X5_lead_X5 : ∀ w ∈ u_ws RX5 TX5 9, w ∈ wsX5_lead := fun _ h => List.mem_cons_of_mem _ (List.mem_append_left _ (List.mem_append_left _ (List.mem_append_left _ (List.mem_append_left _ (List.mem_append_left _ (List.mem_append_right _ h))))))
theorem in_X5_lead_X0 : ∀ w ∈ u_ws RX0 TX0 12, w ∈ wsX5_lead := fun _ h => List.mem_cons_of_mem _ (List.mem_append_left _ (List.mem_append_left _ (List.mem_append_left _ (List.mem_append_left _ (List.mem_append_right _ h)))))
set_option maxHeartbeats 4000000 in
set_option maxRecDepth 100000 in
theorem c_X5_lead (l : Launch) (hl0 : l.stackTraces = false) {σ : MM} (hM : okM σ) {a1 : Int} (ha1 : inR a1) {a2 : Int} (ha2 : inR a2) {xo ro : Int} {σo : MM} (h : X5_lead a1 a2 σ = some (xo, ro, σo)) : CtX l yX5_lead wsX5_lead { frames := 6, cells := 1, slots := 6, locals := 99 } (fun ad : Nat → Nat => [.ref (ad 0), .int (Int32.ofInt a1), .int (Int32.ofInt a2)]) σ 0 xo ro σo := by
  unfold X5_lead at h
  refine z_ctX (cc := cX5_lead) (maxL := 3) (rt := 0) hl0 hM (by decide) rfl (fun _ => Nat.le_of_ble_eq_true rfl) rfl (Nat.le_of_ble_eq_true rfl) (Nat.le_of_ble_eq_true rfl) (@fun p e s m args below meth c D cy ad A Q C hX hR hT hTW => ?_)
  refine g_sub (vs' := [(0, .ref (ad 0)), (1, .int (Int32.ofInt a1)), (2, .int (Int32.ofInt a2))]) [0, 1, 2] rfl ?_
  refine g_aload_n C dX5_lead_0 0 rfl ?_
  refine gf_X5_0 C in_X5_lead_X5 (List.mem_of_getElem? (i := 7) rfl) dX5_lead_1 ?_
  refine g_iload_n C dX5_lead_4 1 rfl ?_
  obtain ⟨r1, e2, h⟩ := z_b h
  refine g_callI (n := 1) C (fun hM => c_X0_hasDependence l hM isL1 ha1 e2) gX5_lead_X0_hasDependence rfl (by decide) ⟨rfl, rfl⟩ ⟨Nat.le_of_ble_eq_true rfl, Nat.le_of_ble_eq_true rfl⟩ rfl ly_c1 (Nat.le_of_ble_eq_true rfl) rfl rfl (rest := []) rfl (Nat.le_of_ble_eq_true rfl) dX5_lead_5 (fun q3 => ?_)
  have q3 : r1 = 0 ∨ r1 = 1 := q3
  refine g_if_ne C 21 dX5_lead_8 (by decide) (rgT_inR (rt := 1) q3) (fun c4 => ?_) (fun c4 => ?_)
  · have h := z_f c4 h
    refine g_iload_n C dX5_lead_21 2 rfl ?_
    obtain ⟨r5, e6, h⟩ := z_b h
    refine g_callS (n := 1) C (fun hM => c_X5_isMode l hM ha2 e6) gX5_lead_X5_isMode rfl (by decide) ⟨rfl, rfl⟩ ⟨Nat.le_of_ble_eq_true rfl, Nat.le_of_ble_eq_true rfl⟩ rfl rfl (rest := []) rfl (Nat.le_of_ble_eq_true rfl) dX5_lead_22 (fun q7 => ?_)
    have q7 : r5 = 0 ∨ r5 = 1 := q7
    refine g_if_ne C 38 dX5_lead_25 (by decide) (rgT_inR (rt := 1) q7) (fun c8 => ?_) (fun c8 => ?_)
    · have h := z_f c8 h
      refine g_aload_n C dX5_lead_38 0 rfl ?_
      refine gf_X5_0 C in_X5_lead_X5 (List.mem_of_getElem? (i := 7) rfl) dX5_lead_39 ?_
      refine gfn_X0_9 C in_X5_lead_X0 isL1 (List.mem_of_getElem? (i := 7) rfl) dX5_lead_42 ?_
      refine g_iload_n C dX5_lead_45 1 rfl ?_
      obtain ⟨g9, h⟩ := z_g h
      refine g_iald C ly_c9 (Nat.le_of_ble_eq_true rfl) (by decide) g9 dX5_lead_46 (fun r10 => ?_)
      refine g_if_ne C 60 dX5_lead_47 (by decide) r10 (fun c11 => ?_) (fun c11 => ?_)
      · have h := z_f c11 h
        refine g_aload_n C dX5_lead_60 0 rfl ?_
        refine gf_X5_4 C in_X5_lead_X5 (List.mem_of_getElem? (i := 8) rfl) dX5_lead_61 ?_
        refine g_aload_n C dX5_lead_64 0 rfl ?_
        refine gf_X5_0 C in_X5_lead_X5 (List.mem_of_getElem? (i := 7) rfl) dX5_lead_65 ?_
        refine g_iload_n C dX5_lead_68 1 rfl ?_
        refine g_iload_n C dX5_lead_69 2 rfl ?_
        obtain ⟨⟨r12, σ14⟩, e13, h⟩ := z_b h
        refine g_callI (n := 3) C (fun hM => c_X2_greatestSum l hM isL1 ha1 ha2 e13) gX5_lead_X2_greatestSum rfl (by decide) ⟨rfl, rfl⟩ ⟨Nat.le_of_ble_eq_true rfl, Nat.le_of_ble_eq_true rfl⟩ rfl ly_c36 (Nat.le_of_ble_eq_true rfl) rfl rfl (rest := []) rfl (Nat.le_of_ble_eq_true rfl) dX5_lead_70 (fun q15 => ?_)
        have q15 : inR r12 := q15
        obtain ⟨rfl, rfl, rfl⟩ := z_s3 h
        exact hR _ _ dX5_lead_73 rfl q15
      · have h := z_t c11 h
        obtain ⟨rfl, rfl, rfl⟩ := z_s3 h
        exact hT _ _ 72 192 76 _ "the distance is 0" (by decide) rfl (by decide) (List.mem_of_getElem? (i := 5) rfl) (List.mem_of_getElem? (i := 6) rfl) (List.mem_of_getElem? (i := 12) rfl) (fun _ h => List.mem_cons_of_mem _ (List.mem_append_right _ h)) xb_2 xg_2 dX5_lead_50 dX5_lead_53 dX5_lead_54 dX5_lead_56 dX5_lead_59
    · have h := z_t c8 h
      obtain ⟨rfl, rfl, rfl⟩ := z_s3 h
      exact hT _ _ 62 190 66 _ "there is no such mode" (by decide) rfl (by decide) (List.mem_of_getElem? (i := 3) rfl) (List.mem_of_getElem? (i := 4) rfl) (List.mem_of_getElem? (i := 11) rfl) (fun _ h => List.mem_cons_of_mem _ (List.mem_append_left _ (List.mem_append_right _ h))) xb_1 xg_1 dX5_lead_28 dX5_lead_31 dX5_lead_32 dX5_lead_34 dX5_lead_37
  · have h := z_t c4 h
    obtain ⟨rfl, rfl, rfl⟩ := z_s3 h
    exact hT _ _ 100 146 104 _ "there is no such dependence" (by decide) rfl (by decide) (List.mem_of_getElem? (i := 1) rfl) (List.mem_of_getElem? (i := 2) rfl) (List.mem_of_getElem? (i := 9) rfl) (fun _ h => List.mem_cons_of_mem _ (List.mem_append_left _ (List.mem_append_left _ (List.mem_append_right _ h)))) xb_3 xg_3 dX5_lead_11 dX5_lead_14 dX5_lead_15 dX5_lead_17 dX5_lead_20
theorem in_X5_isImplied_X5 : ∀ w ∈ u_ws RX5 TX5 9, w ∈ wsX5_isImplied := fun _ h => List.mem_cons_of_mem _ (List.mem_append_left _ (List.mem_append_left _ (List.mem_append_right _ h)))
set_option maxHeartbeats 4000000 in
set_option maxRecDepth 100000 in
theorem c_X5_isImplied (l : Launch) {σ : MM} (hM : okM σ) {a1 : Int} (ha1 : inR a1) {a2 : Int} (ha2 : inR a2) {ro : Int} {σo : MM} (h : X5_isImplied a1 a2 σ = some (ro, σo)) : CtI l yX5_isImplied wsX5_isImplied { frames := 4, cells := 0, slots := 0, locals := 99 } (fun ad : Nat → Nat => [.ref (ad 0), .int (Int32.ofInt a1), .int (Int32.ofInt a2)]) σ 1 ro σo := by
  unfold X5_isImplied at h
  refine z_ctI (cc := cX5_isImplied) (maxL := 3) (rt := 1) hM (by decide) rfl (fun _ => Nat.le_of_ble_eq_true rfl) (@fun p e s m args below meth c D cy ad A Q C hR => ?_)
  refine g_sub (vs' := [(0, .ref (ad 0)), (1, .int (Int32.ofInt a1)), (2, .int (Int32.ofInt a2))]) [0, 1, 2] rfl ?_
  refine g_aload_n C dX5_isImplied_0 0 rfl ?_
  refine gf_X5_4 C in_X5_isImplied_X5 (List.mem_of_getElem? (i := 1) rfl) dX5_isImplied_1 ?_
  refine g_aload_n C dX5_isImplied_4 0 rfl ?_
  refine gf_X5_0 C in_X5_isImplied_X5 (List.mem_of_getElem? (i := 2) rfl) dX5_isImplied_5 ?_
  refine g_iload_n C dX5_isImplied_8 1 rfl ?_
  refine g_iload_n C dX5_isImplied_9 2 rfl ?_
  obtain ⟨⟨r1, σ3⟩, e2, h⟩ := z_b h
  refine g_callI (n := 3) C (fun hM => c_X2_greatestSum l hM isL1 ha1 ha2 e2) gX5_isImplied_X2_greatestSum rfl (by decide) ⟨rfl, rfl⟩ ⟨Nat.le_of_ble_eq_true rfl, Nat.le_of_ble_eq_true rfl⟩ rfl ly_c36 (Nat.le_of_ble_eq_true rfl) rfl rfl (rest := []) rfl (Nat.le_of_ble_eq_true rfl) dX5_isImplied_10 (fun q4 => ?_)
  have q4 : inR r1 := q4
  refine g_aload_n C dX5_isImplied_13 0 rfl ?_
  refine gf_X5_0 C in_X5_isImplied_X5 (List.mem_of_getElem? (i := 2) rfl) dX5_isImplied_14 ?_
  refine g_iload_n C dX5_isImplied_17 1 rfl ?_
  obtain ⟨r5, e6, h⟩ := z_b h
  refine g_callI (n := 1) C (fun hM => c_X0_lagOf l hM isL1 ha1 e6) gX5_isImplied_X0_lagOf rfl (by decide) ⟨rfl, rfl⟩ ⟨Nat.le_of_ble_eq_true rfl, Nat.le_of_ble_eq_true rfl⟩ rfl ly_c1 (Nat.le_of_ble_eq_true rfl) rfl rfl (rest := [.int (Int32.ofInt r1)]) rfl (Nat.le_of_ble_eq_true rfl) dX5_isImplied_18 (fun q7 => ?_)
  have q7 : inR r5 := q7
  refine g_icmp_lt C 28 dX5_isImplied_21 (by decide) q4 q7 (fun c8 => ?_) (fun c8 => ?_)
  · have h := z_t c8 h
    refine g_iconst C dX5_isImplied_28 ?_
    obtain ⟨rfl, rfl⟩ := z_s2 h
    exact hR _ _ dX5_isImplied_29 (by show _ = _ ∨ _ = _; decide)
  · have h := z_f c8 h
    refine g_iconst C dX5_isImplied_24 ?_
    refine g_goto C 29 dX5_isImplied_25 (by decide) ?_
    obtain ⟨rfl, rfl⟩ := z_s2 h
    exact hR _ _ dX5_isImplied_29 (by show _ = _ ∨ _ = _; decide)
theorem in_X5_eliminate_X5 : ∀ w ∈ u_ws RX5 TX5 9, w ∈ wsX5_eliminate := fun _ h => List.mem_cons_of_mem _ (List.mem_append_left _ (List.mem_append_left _ (List.mem_append_left _ (List.mem_append_right _ h))))
theorem in_X5_eliminate_X0 : ∀ w ∈ u_ws RX0 TX0 12, w ∈ wsX5_eliminate := fun _ h => List.mem_cons_of_mem _ (List.mem_append_left _ (List.mem_append_left _ (List.mem_append_right _ h)))
set_option maxHeartbeats 4000000 in
set_option maxRecDepth 100000 in
theorem w_X5_eliminate_L36 {p : Program} {l : Launch} {e : Env} {s : State} {m : MethodId} {args : Array Value} {below : List Frame} {meth : Method} {c : Code} {D : va_G} {cy : Nat → ClassId} {ad : Nat → Nat} {A : Nat → Prop} {Q : State → Prop} (C : Cx p s m args meth c cX5_eliminate RX5 5 wsX5_eliminate D cy A) {x1 : Int} (hx1 : inR x1) {x3 : Int} (hx3 : inR x3) {k98 : Int → MM → Option (Int × Int × MM)} {xo : Int} {ro : Int} {σo : MM} (hR : RetX p l e { frames := 6, cells := 1, slots := 6, locals := 121 } s m args below meth c cX5_eliminate 5 D cy ad A Q 0 xo ro σo) (hT : ThrX p l e { frames := 6, cells := 1, slots := 6, locals := 121 } s m args below meth c cX5_eliminate "DoacrossScheduler" 5 wsX5_eliminate D cy ad A Q xo σo) (hTW : ThrW p l e { frames := 6, cells := 1, slots := 6, locals := 121 } s m args below meth c cX5_eliminate "DoacrossScheduler" 5 wsX5_eliminate D cy ad A Q xo σo) (hk98 : ∀ (z2 : Int) (σ : MM), inR z2 → k98 z2 σ = some (xo, ro, σo) → G p l e { frames := 6, cells := 1, slots := 6, locals := 121 } s m args below meth c 5 D cy ad A Q 98 [(0, .ref (ad 0)), (1, .int (Int32.ofInt x1)), (2, .int (Int32.ofInt z2)), (3, .int (Int32.ofInt x3))] [] σ) : ∀ (n : Nat) (x2 x4 : Int) (σ : MM) , inR x2 → inR x4 → X5_eliminate_L36 x1 x3 k98 n x2 x4 σ = some (xo, ro, σo) → G p l e { frames := 6, cells := 1, slots := 6, locals := 121 } s m args below meth c 5 D cy ad A Q 36 [(0, .ref (ad 0)), (1, .int (Int32.ofInt x1)), (2, .int (Int32.ofInt x2)), (3, .int (Int32.ofInt x3)), (4, .int (Int32.ofInt x4))] [] σ := by
  intro n
  induction n with
  | zero =>
    intro x2 x4 σ hx2 hx4 h
    cases h
  | succ n ih =>
    intro x2 x4 σ hx2 hx4 h
    rw [X5_eliminate_L36] at h
    refine g_iload C dX5_eliminate_36 4 rfl ?_
    refine g_if_lt C 98 dX5_eliminate_38 (by decide) hx4 (fun c7 => ?_) (fun c7 => ?_)
    · have h := z_t c7 h
      refine g_sub [0, 1, 2, 3] rfl ?_
      exact hk98 _ _ hx2 h
    · have h := z_f c7 h
      refine g_aload_n C dX5_eliminate_41 0 rfl ?_
      refine gf_X5_0 C in_X5_eliminate_X5 (List.mem_of_getElem? (i := 3) rfl) dX5_eliminate_42 ?_
      refine gfn_X0_9 C in_X5_eliminate_X0 isL1 (List.mem_of_getElem? (i := 7) rfl) dX5_eliminate_45 ?_
      refine g_iload C dX5_eliminate_48 4 rfl ?_
      obtain ⟨g8, h⟩ := z_g h
      refine g_iald C ly_c9 (Nat.le_of_ble_eq_true rfl) (by decide) g8 dX5_eliminate_50 (fun r9 => ?_)
      refine g_iload_n C dX5_eliminate_51 3 rfl ?_
      refine g_icmp_ne C 92 dX5_eliminate_52 (by decide) r9 hx3 (fun c10 => ?_) (fun c10 => ?_)
      · have h := z_f c10 h
        refine g_iinc C dX5_eliminate_92 (j := 4) rfl (by decide) (vs' := [(4, .int (Int32.ofInt (x4 + (-1)))), (0, .ref (ad 0)), (1, .int (Int32.ofInt x1)), (2, .int (Int32.ofInt x2)), (3, .int (Int32.ofInt x3))]) rfl ?_
        refine g_goto C 36 dX5_eliminate_95 (by decide) ?_
        refine g_sub [1, 2, 3, 4, 0] rfl ?_
        exact ih _ _ _ hx2 (by omega) h
      · have h := z_t c10 h
        refine g_aload_n C dX5_eliminate_55 0 rfl ?_
        refine gf_X5_0 C in_X5_eliminate_X5 (List.mem_of_getElem? (i := 3) rfl) dX5_eliminate_56 ?_
        refine gfn_X0_10 C in_X5_eliminate_X0 isL1 (List.mem_of_getElem? (i := 8) rfl) dX5_eliminate_59 ?_
        refine g_iload C dX5_eliminate_62 4 rfl ?_
        refine g_zald C ly_c10 (Nat.le_of_ble_eq_true rfl) (by decide) (by omega) dX5_eliminate_64 (fun r11 => ?_)
        refine g_if_eq C 92 dX5_eliminate_65 (by decide) r11 (fun c12 => ?_) (fun c12 => ?_)
        · have h := z_t c12 h
          refine g_iinc C dX5_eliminate_92 (j := 4) rfl (by decide) (vs' := [(4, .int (Int32.ofInt (x4 + (-1)))), (0, .ref (ad 0)), (1, .int (Int32.ofInt x1)), (2, .int (Int32.ofInt x2)), (3, .int (Int32.ofInt x3))]) rfl ?_
          refine g_goto C 36 dX5_eliminate_95 (by decide) ?_
          refine g_sub [1, 2, 3, 4, 0] rfl ?_
          exact ih _ _ _ hx2 (by omega) h
        · have h := z_f c12 h
          refine g_aload_n C dX5_eliminate_68 0 rfl ?_
          refine g_iload C dX5_eliminate_69 4 rfl ?_
          refine g_iload_n C dX5_eliminate_71 1 rfl ?_
          obtain ⟨⟨r13, σ15⟩, e14, h⟩ := z_b h
          refine g_callI (n := 2) C (fun hM => c_X5_isImplied l hM hx4 hx1 e14) gX5_eliminate_X5_isImplied rfl (by decide) ⟨rfl, rfl⟩ ⟨Nat.le_of_ble_eq_true rfl, Nat.le_of_ble_eq_true rfl⟩ rfl ly_c0 (Nat.le_of_ble_eq_true rfl) rfl rfl (rest := []) rfl (Nat.le_of_ble_eq_true rfl) dX5_eliminate_72 (fun q16 => ?_)
          have q16 : r13 = 0 ∨ r13 = 1 := q16
          refine g_if_eq C 92 dX5_eliminate_75 (by decide) (rgT_inR (rt := 1) q16) (fun c17 => ?_) (fun c17 => ?_)
          · have h := z_t c17 h
            refine g_iinc C dX5_eliminate_92 (j := 4) rfl (by decide) (vs' := [(4, .int (Int32.ofInt (x4 + (-1)))), (0, .ref (ad 0)), (1, .int (Int32.ofInt x1)), (2, .int (Int32.ofInt x2)), (3, .int (Int32.ofInt x3))]) rfl ?_
            refine g_goto C 36 dX5_eliminate_95 (by decide) ?_
            refine g_sub [1, 2, 3, 4, 0] rfl ?_
            exact ih _ _ _ hx2 (by omega) h
          · have h := z_f c17 h
            refine g_aload_n C dX5_eliminate_78 0 rfl ?_
            refine gf_X5_0 C in_X5_eliminate_X5 (List.mem_of_getElem? (i := 3) rfl) dX5_eliminate_79 ?_
            refine gfn_X0_10 C in_X5_eliminate_X0 isL1 (List.mem_of_getElem? (i := 8) rfl) dX5_eliminate_82 ?_
            refine g_iload C dX5_eliminate_85 4 rfl ?_
            refine g_iconst C dX5_eliminate_87 ?_
            refine g_zast C ly_c10 (Nat.le_of_ble_eq_true rfl) (by decide) (by omega) (by decide) dX5_eliminate_88 ?_
            obtain ⟨σ18, e19, h⟩ := z_l h
            refine g_mem e19 ?_
            refine g_iinc C dX5_eliminate_89 (j := 2) rfl (by decide) (vs' := [(2, .int (Int32.ofInt (x2 + 1))), (0, .ref (ad 0)), (1, .int (Int32.ofInt x1)), (3, .int (Int32.ofInt x3)), (4, .int (Int32.ofInt x4))]) rfl ?_
            refine g_iinc C dX5_eliminate_92 (j := 4) rfl (by decide) (vs' := [(4, .int (Int32.ofInt (x4 + (-1)))), (2, .int (Int32.ofInt (x2 + 1))), (0, .ref (ad 0)), (1, .int (Int32.ofInt x1)), (3, .int (Int32.ofInt x3))]) rfl ?_
            refine g_goto C 36 dX5_eliminate_95 (by decide) ?_
            obtain ⟨g20, h⟩ := z_g h
            refine g_sub [2, 3, 1, 4, 0] rfl ?_
            exact ih _ _ _ g20 (by omega) h
set_option maxHeartbeats 4000000 in
set_option maxRecDepth 100000 in
theorem w_X5_eliminate_L21 {p : Program} {l : Launch} {e : Env} {s : State} {m : MethodId} {args : Array Value} {below : List Frame} {meth : Method} {c : Code} {D : va_G} {cy : Nat → ClassId} {ad : Nat → Nat} {A : Nat → Prop} {Q : State → Prop} (C : Cx p s m args meth c cX5_eliminate RX5 5 wsX5_eliminate D cy A) {x1 : Int} (hx1 : inR x1) {k104 : Int → MM → Option (Int × Int × MM)} {xo : Int} {ro : Int} {σo : MM} (hR : RetX p l e { frames := 6, cells := 1, slots := 6, locals := 121 } s m args below meth c cX5_eliminate 5 D cy ad A Q 0 xo ro σo) (hT : ThrX p l e { frames := 6, cells := 1, slots := 6, locals := 121 } s m args below meth c cX5_eliminate "DoacrossScheduler" 5 wsX5_eliminate D cy ad A Q xo σo) (hTW : ThrW p l e { frames := 6, cells := 1, slots := 6, locals := 121 } s m args below meth c cX5_eliminate "DoacrossScheduler" 5 wsX5_eliminate D cy ad A Q xo σo) (hk104 : ∀ (z2 : Int) (σ : MM), inR z2 → k104 z2 σ = some (xo, ro, σo) → G p l e { frames := 6, cells := 1, slots := 6, locals := 121 } s m args below meth c 5 D cy ad A Q 104 [(2, .int (Int32.ofInt z2))] [] σ) : ∀ (n : Nat) (x2 x3 : Int) (σ : MM) , inR x2 → inR x3 → X5_eliminate_L21 x1 k104 n x2 x3 σ = some (xo, ro, σo) → G p l e { frames := 6, cells := 1, slots := 6, locals := 121 } s m args below meth c 5 D cy ad A Q 21 [(0, .ref (ad 0)), (1, .int (Int32.ofInt x1)), (2, .int (Int32.ofInt x2)), (3, .int (Int32.ofInt x3))] [] σ := by
  intro n
  induction n with
  | zero =>
    intro x2 x3 σ hx2 hx3 h
    cases h
  | succ n ih =>
    intro x2 x3 σ hx2 hx3 h
    rw [X5_eliminate_L21] at h
    refine g_iload_n C dX5_eliminate_21 3 rfl ?_
    refine g_if_le C 104 dX5_eliminate_22 (by decide) hx3 (fun c5 => ?_) (fun c5 => ?_)
    · have h := z_f c5 h
      refine g_sub [2] rfl ?_
      exact hk104 _ _ hx2 h
    · have h := z_t c5 h
      refine g_aload_n C dX5_eliminate_25 0 rfl ?_
      refine gf_X5_0 C in_X5_eliminate_X5 (List.mem_of_getElem? (i := 3) rfl) dX5_eliminate_26 ?_
      refine gfn_X0_5 C in_X5_eliminate_X0 isL1 (List.mem_of_getElem? (i := 3) rfl) dX5_eliminate_29 (fun r6 => ?_)
      refine g_iconst C dX5_eliminate_32 ?_
      refine g_isub C dX5_eliminate_33 ?_
      refine g_istore C dX5_eliminate_34 (by decide) (vs' := [(4, .int (Int32.ofInt ((σ 1 5) - 1))), (0, .ref (ad 0)), (1, .int (Int32.ofInt x1)), (2, .int (Int32.ofInt x2)), (3, .int (Int32.ofInt x3))]) rfl ?_
      obtain ⟨g21, h⟩ := z_g h
      refine g_sub [1, 2, 3, 4, 0] rfl ?_
      refine w_X5_eliminate_L36 C hx1 hx3 hR hT hTW ?_ _ _ _ _ hx2 g21 h
      · intro z22 σ23 hz22 h
        refine g_iinc C dX5_eliminate_98 (j := 3) rfl (by decide) (vs' := [(3, .int (Int32.ofInt (x3 + (-1)))), (0, .ref (ad 0)), (1, .int (Int32.ofInt x1)), (2, .int (Int32.ofInt z22))]) rfl ?_
        refine g_goto C 21 dX5_eliminate_101 (by decide) ?_
        refine g_sub [1, 2, 3, 0] rfl ?_
        exact ih _ _ _ hz22 (by omega) h
set_option maxHeartbeats 4000000 in
set_option maxRecDepth 100000 in
theorem c_X5_eliminate (l : Launch) (hl0 : l.stackTraces = false) {σ : MM} (hM : okM σ) {a1 : Int} (ha1 : inR a1) {xo ro : Int} {σo : MM} (h : X5_eliminate a1 σ = some (xo, ro, σo)) : CtX l yX5_eliminate wsX5_eliminate { frames := 6, cells := 1, slots := 6, locals := 121 } (fun ad : Nat → Nat => [.ref (ad 0), .int (Int32.ofInt a1)]) σ 0 xo ro σo := by
  unfold X5_eliminate at h
  refine z_ctX (cc := cX5_eliminate) (maxL := 5) (rt := 0) hl0 hM (by decide) rfl (fun _ => Nat.le_of_ble_eq_true rfl) rfl (Nat.le_of_ble_eq_true rfl) (Nat.le_of_ble_eq_true rfl) (@fun p e s m args below meth c D cy ad A Q C hX hR hT hTW => ?_)
  refine g_sub (vs' := [(0, .ref (ad 0)), (1, .int (Int32.ofInt a1))]) [0, 1] rfl ?_
  refine g_iload_n C dX5_eliminate_0 1 rfl ?_
  obtain ⟨r1, e2, h⟩ := z_b h
  refine g_callS (n := 1) C (fun hM => c_X5_isMode l hM ha1 e2) gX5_eliminate_X5_isMode rfl (by decide) ⟨rfl, rfl⟩ ⟨Nat.le_of_ble_eq_true rfl, Nat.le_of_ble_eq_true rfl⟩ rfl rfl (rest := []) rfl (Nat.le_of_ble_eq_true rfl) dX5_eliminate_1 (fun q3 => ?_)
  have q3 : r1 = 0 ∨ r1 = 1 := q3
  refine g_if_ne C 17 dX5_eliminate_4 (by decide) (rgT_inR (rt := 1) q3) (fun c4 => ?_) (fun c4 => ?_)
  · have h := z_f c4 h
    refine g_iconst C dX5_eliminate_17 ?_
    refine g_istore_n C dX5_eliminate_18 (by decide) (vs' := [(2, .int (Int32.ofInt 0)), (0, .ref (ad 0)), (1, .int (Int32.ofInt a1))]) rfl ?_
    refine g_iconst C dX5_eliminate_19 ?_
    refine g_istore_n C dX5_eliminate_20 (by decide) (vs' := [(3, .int (Int32.ofInt 5)), (2, .int (Int32.ofInt 0)), (0, .ref (ad 0)), (1, .int (Int32.ofInt a1))]) rfl ?_
    refine g_sub [2, 3, 1, 0] rfl ?_
    refine w_X5_eliminate_L21 C ha1 hR hT hTW ?_ _ _ _ _ (by decide) (by decide) h
    · intro z24 σ25 hz24 h
      refine g_iload_n C dX5_eliminate_104 0 rfl ?_
      obtain ⟨rfl, rfl, rfl⟩ := z_s3 h
      exact hR _ _ dX5_eliminate_105 rfl hz24
  · have h := z_t c4 h
    obtain ⟨rfl, rfl, rfl⟩ := z_s3 h
    exact hT _ _ 62 190 66 _ "there is no such mode" (by decide) rfl (by decide) (List.mem_of_getElem? (i := 1) rfl) (List.mem_of_getElem? (i := 2) rfl) (List.mem_of_getElem? (i := 11) rfl) (fun _ h => List.mem_cons_of_mem _ (List.mem_append_right _ h)) xb_1 xg_1 dX5_eliminate_7 dX5_eliminate_10 dX5_eliminate_11 dX5_eliminate_13 dX5_eliminate_16
theorem in_X5_keepAll_X5 : ∀ w ∈ u_ws RX5 TX5 9, w ∈ wsX5_keepAll := fun _ h => List.mem_cons_of_mem _ (List.mem_append_left _ (List.mem_append_right _ h))
theorem in_X5_keepAll_X0 : ∀ w ∈ u_ws RX0 TX0 12, w ∈ wsX5_keepAll := fun _ h => List.mem_cons_of_mem _ (List.mem_append_right _ h)
set_option maxHeartbeats 4000000 in
set_option maxRecDepth 100000 in
theorem w_X5_keepAll_L4 {p : Program} {l : Launch} {e : Env} {s : State} {m : MethodId} {args : Array Value} {below : List Frame} {meth : Method} {c : Code} {D : va_G} {cy : Nat → ClassId} {ad : Nat → Nat} {A : Nat → Prop} {Q : State → Prop} (C : Cx p s m args meth c cX5_keepAll RX5 3 wsX5_keepAll D cy A) {k46 : Int → MM → Option (Int × MM)} {ro : Int} {σo : MM} (hR : RetI p l e { frames := 0, cells := 0, slots := 0, locals := 0 } s m args below meth c cX5_keepAll 3 D cy ad A Q 0 ro σo) (hk46 : ∀ (z1 : Int) (σ : MM), inR z1 → k46 z1 σ = some (ro, σo) → G p l e { frames := 0, cells := 0, slots := 0, locals := 0 } s m args below meth c 3 D cy ad A Q 46 [(1, .int (Int32.ofInt z1))] [] σ) : ∀ (n : Nat) (x1 x2 : Int) (σ : MM) , inR x1 → inR x2 → X5_keepAll_L4 k46 n x1 x2 σ = some (ro, σo) → G p l e { frames := 0, cells := 0, slots := 0, locals := 0 } s m args below meth c 3 D cy ad A Q 4 [(0, .ref (ad 0)), (1, .int (Int32.ofInt x1)), (2, .int (Int32.ofInt x2))] [] σ := by
  intro n
  induction n with
  | zero =>
    intro x1 x2 σ hx1 hx2 h
    cases h
  | succ n ih =>
    intro x1 x2 σ hx1 hx2 h
    rw [X5_keepAll_L4] at h
    refine g_iload_n C dX5_keepAll_4 2 rfl ?_
    refine g_aload_n C dX5_keepAll_5 0 rfl ?_
    refine gf_X5_0 C in_X5_keepAll_X5 (List.mem_of_getElem? (i := 1) rfl) dX5_keepAll_6 ?_
    refine gfn_X0_5 C in_X5_keepAll_X0 isL1 (List.mem_of_getElem? (i := 3) rfl) dX5_keepAll_9 (fun r1 => ?_)
    refine g_icmp_ge C 46 dX5_keepAll_12 (by decide) hx2 r1 (fun c2 => ?_) (fun c2 => ?_)
    · have h := z_f c2 h
      refine g_sub [1] rfl ?_
      exact hk46 _ _ hx1 h
    · have h := z_t c2 h
      refine g_aload_n C dX5_keepAll_15 0 rfl ?_
      refine gf_X5_0 C in_X5_keepAll_X5 (List.mem_of_getElem? (i := 1) rfl) dX5_keepAll_16 ?_
      refine gfn_X0_10 C in_X5_keepAll_X0 isL1 (List.mem_of_getElem? (i := 8) rfl) dX5_keepAll_19 ?_
      refine g_iload_n C dX5_keepAll_22 2 rfl ?_
      obtain ⟨g3, h⟩ := z_g h
      refine g_zald C ly_c10 (Nat.le_of_ble_eq_true rfl) (by decide) g3 dX5_keepAll_23 (fun r4 => ?_)
      refine g_if_ne C 40 dX5_keepAll_24 (by decide) r4 (fun c5 => ?_) (fun c5 => ?_)
      · have h := z_f c5 h
        refine g_iinc C dX5_keepAll_40 (j := 2) rfl (by decide) (vs' := [(2, .int (Int32.ofInt (x2 + 1))), (0, .ref (ad 0)), (1, .int (Int32.ofInt x1))]) rfl ?_
        refine g_goto C 4 dX5_keepAll_43 (by decide) ?_
        refine g_sub [1, 2, 0] rfl ?_
        exact ih _ _ _ hx1 (by omega) h
      · have h := z_t c5 h
        refine g_aload_n C dX5_keepAll_27 0 rfl ?_
        refine gf_X5_0 C in_X5_keepAll_X5 (List.mem_of_getElem? (i := 1) rfl) dX5_keepAll_28 ?_
        refine gfn_X0_10 C in_X5_keepAll_X0 isL1 (List.mem_of_getElem? (i := 8) rfl) dX5_keepAll_31 ?_
        refine g_iload_n C dX5_keepAll_34 2 rfl ?_
        refine g_iconst C dX5_keepAll_35 ?_
        refine g_zast C ly_c10 (Nat.le_of_ble_eq_true rfl) (by decide) (by omega) (by decide) dX5_keepAll_36 ?_
        obtain ⟨σ6, e7, h⟩ := z_l h
        refine g_mem e7 ?_
        refine g_iinc C dX5_keepAll_37 (j := 1) rfl (by decide) (vs' := [(1, .int (Int32.ofInt (x1 + 1))), (0, .ref (ad 0)), (2, .int (Int32.ofInt x2))]) rfl ?_
        refine g_iinc C dX5_keepAll_40 (j := 2) rfl (by decide) (vs' := [(2, .int (Int32.ofInt (x2 + 1))), (1, .int (Int32.ofInt (x1 + 1))), (0, .ref (ad 0))]) rfl ?_
        refine g_goto C 4 dX5_keepAll_43 (by decide) ?_
        obtain ⟨g8, h⟩ := z_g h
        refine g_sub [2, 1, 0] rfl ?_
        exact ih _ _ _ g8 (by omega) h
set_option maxHeartbeats 4000000 in
set_option maxRecDepth 100000 in
theorem c_X5_keepAll (l : Launch) {σ : MM} (hM : okM σ) {ro : Int} {σo : MM} (h : X5_keepAll σ = some (ro, σo)) : CtI l yX5_keepAll wsX5_keepAll { frames := 0, cells := 0, slots := 0, locals := 0 } (fun ad : Nat → Nat => [.ref (ad 0)]) σ 0 ro σo := by
  unfold X5_keepAll at h
  refine z_ctI (cc := cX5_keepAll) (maxL := 3) (rt := 0) hM (by decide) rfl (fun _ => Nat.le_of_ble_eq_true rfl) (@fun p e s m args below meth c D cy ad A Q C hR => ?_)
  refine g_sub (vs' := [(0, .ref (ad 0))]) [0] rfl ?_
  refine g_iconst C dX5_keepAll_0 ?_
  refine g_istore_n C dX5_keepAll_1 (by decide) (vs' := [(1, .int (Int32.ofInt 0)), (0, .ref (ad 0))]) rfl ?_
  refine g_iconst C dX5_keepAll_2 ?_
  refine g_istore_n C dX5_keepAll_3 (by decide) (vs' := [(2, .int (Int32.ofInt 0)), (1, .int (Int32.ofInt 0)), (0, .ref (ad 0))]) rfl ?_
  refine g_sub [2, 1, 0] rfl ?_
  refine w_X5_keepAll_L4 C hR ?_ _ _ _ _ (by decide) (by decide) h
  · intro z9 σ10 hz9 h
    refine g_iload_n C dX5_keepAll_46 0 rfl ?_
    obtain ⟨rfl, rfl⟩ := z_s2 h
    exact hR _ _ dX5_keepAll_47 hz9
theorem in_X5_precedes_X5 : ∀ w ∈ u_ws RX5 TX5 9, w ∈ wsX5_precedes := fun _ h => List.mem_cons_of_mem _ (List.mem_append_left _ (List.mem_append_left _ (List.mem_append_right _ h)))
set_option maxHeartbeats 4000000 in
set_option maxRecDepth 100000 in
theorem c_X5_precedes (l : Launch) (hl0 : l.stackTraces = false) {σ : MM} (hM : okM σ) {a1 : Int} (ha1 : inR a1) {a2 : Int} (ha2 : inR a2) {xo ro : Int} {σo : MM} (h : X5_precedes a1 a2 σ = some (xo, ro, σo)) : CtX l yX5_precedes wsX5_precedes { frames := 6, cells := 1, slots := 6, locals := 82 } (fun ad : Nat → Nat => [.ref (ad 0), .int (Int32.ofInt a1), .int (Int32.ofInt a2)]) σ 1 xo ro σo := by
  unfold X5_precedes at h
  refine z_ctX (cc := cX5_precedes) (maxL := 3) (rt := 1) hl0 hM (by decide) rfl (fun _ => Nat.le_of_ble_eq_true rfl) rfl (Nat.le_of_ble_eq_true rfl) (Nat.le_of_ble_eq_true rfl) (@fun p e s m args below meth c D cy ad A Q C hX hR hT hTW => ?_)
  refine g_sub (vs' := [(0, .ref (ad 0)), (1, .int (Int32.ofInt a1)), (2, .int (Int32.ofInt a2))]) [0, 1, 2] rfl ?_
  refine g_aload_n C dX5_precedes_0 0 rfl ?_
  refine gf_X5_0 C in_X5_precedes_X5 (List.mem_of_getElem? (i := 3) rfl) dX5_precedes_1 ?_
  refine g_iload_n C dX5_precedes_4 1 rfl ?_
  obtain ⟨r1, e2, h⟩ := z_b h
  refine g_callI (n := 1) C (fun hM => c_X0_hasStatement l hM isL1 ha1 e2) gX5_precedes_X0_hasStatement rfl (by decide) ⟨rfl, rfl⟩ ⟨Nat.le_of_ble_eq_true rfl, Nat.le_of_ble_eq_true rfl⟩ rfl ly_c1 (Nat.le_of_ble_eq_true rfl) rfl rfl (rest := []) rfl (Nat.le_of_ble_eq_true rfl) dX5_precedes_5 (fun q3 => ?_)
  have q3 : r1 = 0 ∨ r1 = 1 := q3
  refine g_if_eq C 22 dX5_precedes_8 (by decide) (rgT_inR (rt := 1) q3) (fun c4 => ?_) (fun c4 => ?_)
  · have h := z_t c4 h
    obtain ⟨rfl, rfl, rfl⟩ := z_s3 h
    exact hT _ _ 100 102 104 _ "there is no such statement" (by decide) rfl (by decide) (List.mem_of_getElem? (i := 1) rfl) (List.mem_of_getElem? (i := 2) rfl) (List.mem_of_getElem? (i := 3) rfl) (fun _ h => List.mem_cons_of_mem _ (List.mem_append_right _ h)) xb_3 xg_3 dX5_precedes_22 dX5_precedes_25 dX5_precedes_26 dX5_precedes_28 dX5_precedes_31
  · have h := z_f c4 h
    refine g_aload_n C dX5_precedes_11 0 rfl ?_
    refine gf_X5_0 C in_X5_precedes_X5 (List.mem_of_getElem? (i := 3) rfl) dX5_precedes_12 ?_
    refine g_iload_n C dX5_precedes_15 2 rfl ?_
    obtain ⟨r5, e6, h⟩ := z_b h
    refine g_callI (n := 1) C (fun hM => c_X0_hasStatement l hM isL1 ha2 e6) gX5_precedes_X0_hasStatement rfl (by decide) ⟨rfl, rfl⟩ ⟨Nat.le_of_ble_eq_true rfl, Nat.le_of_ble_eq_true rfl⟩ rfl ly_c1 (Nat.le_of_ble_eq_true rfl) rfl rfl (rest := []) rfl (Nat.le_of_ble_eq_true rfl) dX5_precedes_16 (fun q7 => ?_)
    have q7 : r5 = 0 ∨ r5 = 1 := q7
    refine g_if_ne C 32 dX5_precedes_19 (by decide) (rgT_inR (rt := 1) q7) (fun c8 => ?_) (fun c8 => ?_)
    · have h := z_f c8 h
      refine g_aload_n C dX5_precedes_32 0 rfl ?_
      refine gf_X5_0 C in_X5_precedes_X5 (List.mem_of_getElem? (i := 3) rfl) dX5_precedes_33 ?_
      refine g_iload_n C dX5_precedes_36 1 rfl ?_
      obtain ⟨r9, e10, h⟩ := z_b h
      refine g_callI (n := 1) C (fun hM => c_X0_followersOf l hM isL1 ha1 e10) gX5_precedes_X0_followersOf rfl (by decide) ⟨rfl, rfl⟩ ⟨Nat.le_of_ble_eq_true rfl, Nat.le_of_ble_eq_true rfl⟩ rfl ly_c1 (Nat.le_of_ble_eq_true rfl) rfl rfl (rest := []) rfl (Nat.le_of_ble_eq_true rfl) dX5_precedes_37 (fun q11 => ?_)
      have q11 : inR r9 := q11
      refine g_iload_n C dX5_precedes_40 2 rfl ?_
      refine g_ishr C dX5_precedes_41 ?_
      refine g_iconst C dX5_precedes_42 ?_
      refine g_iand C dX5_precedes_43 ?_
      refine g_iconst C dX5_precedes_44 ?_
      refine g_icmp_ne C 52 dX5_precedes_45 (by decide) (jand_R _ _) (by decide) (fun c12 => ?_) (fun c12 => ?_)
      · have h := z_f c12 h
        refine g_iconst C dX5_precedes_52 ?_
        obtain ⟨rfl, rfl, rfl⟩ := z_s3 h
        exact hR _ _ dX5_precedes_53 rfl (by show _ = _ ∨ _ = _; decide)
      · have h := z_t c12 h
        refine g_iconst C dX5_precedes_48 ?_
        refine g_goto C 53 dX5_precedes_49 (by decide) ?_
        obtain ⟨rfl, rfl, rfl⟩ := z_s3 h
        exact hR _ _ dX5_precedes_53 rfl (by show _ = _ ∨ _ = _; decide)
    · have h := z_t c8 h
      obtain ⟨rfl, rfl, rfl⟩ := z_s3 h
      exact hT _ _ 100 102 104 _ "there is no such statement" (by decide) rfl (by decide) (List.mem_of_getElem? (i := 1) rfl) (List.mem_of_getElem? (i := 2) rfl) (List.mem_of_getElem? (i := 3) rfl) (fun _ h => List.mem_cons_of_mem _ (List.mem_append_right _ h)) xb_3 xg_3 dX5_precedes_22 dX5_precedes_25 dX5_precedes_26 dX5_precedes_28 dX5_precedes_31
theorem in_X5_delay_X5 : ∀ w ∈ u_ws RX5 TX5 9, w ∈ wsX5_delay := fun _ h => List.mem_cons_of_mem _ (List.mem_append_left _ (List.mem_append_right _ h))
set_option maxHeartbeats 4000000 in
set_option maxRecDepth 100000 in
theorem c_X5_delay (l : Launch) {σ : MM} (hM : okM σ) {ro : Int} {σo : MM} (h : X5_delay σ = some (ro, σo)) : CtI l yX5_delay wsX5_delay { frames := 4, cells := 0, slots := 0, locals := 89 } (fun ad : Nat → Nat => [.ref (ad 0)]) σ 0 ro σo := by
  unfold X5_delay at h
  refine z_ctI (cc := cX5_delay) (maxL := 1) (rt := 0) hM (by decide) rfl (fun _ => Nat.le_of_ble_eq_true rfl) (@fun p e s m args below meth c D cy ad A Q C hR => ?_)
  refine g_sub (vs' := [(0, .ref (ad 0))]) [0] rfl ?_
  refine g_aload_n C dX5_delay_0 0 rfl ?_
  refine gf_X5_0 C in_X5_delay_X5 (List.mem_of_getElem? (i := 1) rfl) dX5_delay_1 ?_
  refine g_iconst C dX5_delay_4 ?_
  obtain ⟨⟨r1, σ3⟩, e2, h⟩ := z_b h
  refine g_callI (n := 1) C (fun hM => c_X0_delayWithout l hM isL1 (by decide) e2) gX5_delay_X0_delayWithout rfl (by decide) ⟨rfl, rfl⟩ ⟨Nat.le_of_ble_eq_true rfl, Nat.le_of_ble_eq_true rfl⟩ rfl ly_c1 (Nat.le_of_ble_eq_true rfl) rfl rfl (rest := []) rfl (Nat.le_of_ble_eq_true rfl) dX5_delay_5 (fun q4 => ?_)
  have q4 : inR r1 := q4
  obtain ⟨rfl, rfl⟩ := z_s2 h
  exact hR _ _ dX5_delay_8 q4
theorem in_X5_critical_X5 : ∀ w ∈ u_ws RX5 TX5 9, w ∈ wsX5_critical := fun _ h => List.mem_cons_of_mem _ (List.mem_append_left _ (List.mem_append_right _ h))
theorem in_X5_critical_X0 : ∀ w ∈ u_ws RX0 TX0 12, w ∈ wsX5_critical := fun _ h => List.mem_cons_of_mem _ (List.mem_append_right _ h)
set_option maxHeartbeats 4000000 in
set_option maxRecDepth 100000 in
theorem w_X5_critical_L11 {p : Program} {l : Launch} {e : Env} {s : State} {m : MethodId} {args : Array Value} {below : List Frame} {meth : Method} {c : Code} {D : va_G} {cy : Nat → ClassId} {ad : Nat → Nat} {A : Nat → Prop} {Q : State → Prop} (C : Cx p s m args meth c cX5_critical RX5 3 wsX5_critical D cy A) {x1 : Int} (hx1 : inR x1) {k53 : MM → Option (Int × MM)} {ro : Int} {σo : MM} (hR : RetI p l e { frames := 4, cells := 0, slots := 0, locals := 89 } s m args below meth c cX5_critical 3 D cy ad A Q 0 ro σo) (hk53 : ∀  (σ : MM), k53 σ = some (ro, σo) → G p l e { frames := 4, cells := 0, slots := 0, locals := 89 } s m args below meth c 3 D cy ad A Q 53 [] [] σ) : ∀ (n : Nat) (x2 : Int) (σ : MM) , inR x2 → X5_critical_L11 x1 k53 n x2 σ = some (ro, σo) → G p l e { frames := 4, cells := 0, slots := 0, locals := 89 } s m args below meth c 3 D cy ad A Q 11 [(0, .ref (ad 0)), (1, .int (Int32.ofInt x1)), (2, .int (Int32.ofInt x2))] [] σ := by
  intro n
  induction n with
  | zero =>
    intro x2 σ hx2 h
    cases h
  | succ n ih =>
    intro x2 σ hx2 h
    rw [X5_critical_L11] at h
    refine g_iload_n C dX5_critical_11 2 rfl ?_
    refine g_aload_n C dX5_critical_12 0 rfl ?_
    refine gf_X5_0 C in_X5_critical_X5 (List.mem_of_getElem? (i := 1) rfl) dX5_critical_13 ?_
    refine gfn_X0_5 C in_X5_critical_X0 isL1 (List.mem_of_getElem? (i := 3) rfl) dX5_critical_16 (fun r5 => ?_)
    refine g_icmp_ge C 53 dX5_critical_19 (by decide) hx2 r5 (fun c6 => ?_) (fun c6 => ?_)
    · have h := z_f c6 h
      refine g_sub [] rfl ?_
      exact hk53 _ h
    · have h := z_t c6 h
      refine g_aload_n C dX5_critical_22 0 rfl ?_
      refine gf_X5_0 C in_X5_critical_X5 (List.mem_of_getElem? (i := 1) rfl) dX5_critical_23 ?_
      refine g_iload_n C dX5_critical_26 2 rfl ?_
      obtain ⟨r7, e8, h⟩ := z_b h
      refine g_callI (n := 1) C (fun hM => c_X0_isSignalled l hM isL1 hx2 e8) gX5_critical_X0_isSignalled rfl (by decide) ⟨rfl, rfl⟩ ⟨Nat.le_of_ble_eq_true rfl, Nat.le_of_ble_eq_true rfl⟩ rfl ly_c1 (Nat.le_of_ble_eq_true rfl) rfl rfl (rest := []) rfl (Nat.le_of_ble_eq_true rfl) dX5_critical_27 (fun q9 => ?_)
      have q9 : r7 = 0 ∨ r7 = 1 := q9
      refine g_if_eq C 47 dX5_critical_30 (by decide) (rgT_inR (rt := 1) q9) (fun c10 => ?_) (fun c10 => ?_)
      · have h := z_t c10 h
        refine g_iinc C dX5_critical_47 (j := 2) rfl (by decide) (vs' := [(2, .int (Int32.ofInt (x2 + 1))), (0, .ref (ad 0)), (1, .int (Int32.ofInt x1))]) rfl ?_
        refine g_goto C 11 dX5_critical_50 (by decide) ?_
        refine g_sub [1, 2, 0] rfl ?_
        exact ih _ _ (by omega) h
      · have h := z_f c10 h
        refine g_aload_n C dX5_critical_33 0 rfl ?_
        refine gf_X5_0 C in_X5_critical_X5 (List.mem_of_getElem? (i := 1) rfl) dX5_critical_34 ?_
        refine g_iload_n C dX5_critical_37 2 rfl ?_
        obtain ⟨⟨r11, σ13⟩, e12, h⟩ := z_b h
        refine g_callI (n := 1) C (fun hM => c_X0_delayWithout l hM isL1 hx2 e12) gX5_critical_X0_delayWithout rfl (by decide) ⟨rfl, rfl⟩ ⟨Nat.le_of_ble_eq_true rfl, Nat.le_of_ble_eq_true rfl⟩ rfl ly_c1 (Nat.le_of_ble_eq_true rfl) rfl rfl (rest := []) rfl (Nat.le_of_ble_eq_true rfl) dX5_critical_38 (fun q14 => ?_)
        have q14 : inR r11 := q14
        refine g_iload_n C dX5_critical_41 1 rfl ?_
        refine g_icmp_ge C 47 dX5_critical_42 (by decide) q14 hx1 (fun c15 => ?_) (fun c15 => ?_)
        · have h := z_f c15 h
          refine g_iinc C dX5_critical_47 (j := 2) rfl (by decide) (vs' := [(2, .int (Int32.ofInt (x2 + 1))), (0, .ref (ad 0)), (1, .int (Int32.ofInt x1))]) rfl ?_
          refine g_goto C 11 dX5_critical_50 (by decide) ?_
          refine g_sub [1, 2, 0] rfl ?_
          exact ih _ _ (by omega) h
        · have h := z_t c15 h
          refine g_iload_n C dX5_critical_45 2 rfl ?_
          obtain ⟨rfl, rfl⟩ := z_s2 h
          exact hR _ _ dX5_critical_46 hx2
set_option maxHeartbeats 4000000 in
set_option maxRecDepth 100000 in
theorem c_X5_critical (l : Launch) {σ : MM} (hM : okM σ) {ro : Int} {σo : MM} (h : X5_critical σ = some (ro, σo)) : CtI l yX5_critical wsX5_critical { frames := 4, cells := 0, slots := 0, locals := 89 } (fun ad : Nat → Nat => [.ref (ad 0)]) σ 0 ro σo := by
  unfold X5_critical at h
  refine z_ctI (cc := cX5_critical) (maxL := 3) (rt := 0) hM (by decide) rfl (fun _ => Nat.le_of_ble_eq_true rfl) (@fun p e s m args below meth c D cy ad A Q C hR => ?_)
  refine g_sub (vs' := [(0, .ref (ad 0))]) [0] rfl ?_
  refine g_aload_n C dX5_critical_0 0 rfl ?_
  refine gf_X5_0 C in_X5_critical_X5 (List.mem_of_getElem? (i := 1) rfl) dX5_critical_1 ?_
  refine g_iconst C dX5_critical_4 ?_
  obtain ⟨⟨r1, σ3⟩, e2, h⟩ := z_b h
  refine g_callI (n := 1) C (fun hM => c_X0_delayWithout l hM isL1 (by decide) e2) gX5_critical_X0_delayWithout rfl (by decide) ⟨rfl, rfl⟩ ⟨Nat.le_of_ble_eq_true rfl, Nat.le_of_ble_eq_true rfl⟩ rfl ly_c1 (Nat.le_of_ble_eq_true rfl) rfl rfl (rest := []) rfl (Nat.le_of_ble_eq_true rfl) dX5_critical_5 (fun q4 => ?_)
  have q4 : inR r1 := q4
  refine g_istore_n C dX5_critical_8 (by decide) (vs' := [(1, .int (Int32.ofInt r1)), (0, .ref (ad 0))]) rfl ?_
  refine g_iconst C dX5_critical_9 ?_
  refine g_istore_n C dX5_critical_10 (by decide) (vs' := [(2, .int (Int32.ofInt 0)), (1, .int (Int32.ofInt r1)), (0, .ref (ad 0))]) rfl ?_
  refine g_sub [2, 1, 0] rfl ?_
  refine w_X5_critical_L11 C q4 hR ?_ _ _ _ (by decide) h
  · intro σ16 h
    refine g_iconst C dX5_critical_53 ?_
    obtain ⟨rfl, rfl⟩ := z_s2 h
    exact hR _ _ dX5_critical_54 (by show inR _; decide)
theorem in_X5_leastDelay_X5 : ∀ w ∈ u_ws RX5 TX5 9, w ∈ wsX5_leastDelay := fun _ h => List.mem_cons_of_mem _ (List.mem_append_left _ (List.mem_append_left _ (List.mem_append_left _ (List.mem_append_right _ h))))
theorem in_X5_leastDelay_X0 : ∀ w ∈ u_ws RX0 TX0 12, w ∈ wsX5_leastDelay := fun _ h => List.mem_cons_of_mem _ (List.mem_append_left _ (List.mem_append_left _ (List.mem_append_right _ h)))
theorem in_X5_leastDelay_X1 : ∀ w ∈ u_ws RX1 TX1 3, w ∈ wsX5_leastDelay := fun _ h => List.mem_cons_of_mem _ (List.mem_append_left _ (List.mem_append_right _ h))
set_option maxHeartbeats 4000000 in
set_option maxRecDepth 100000 in
theorem c_X5_leastDelay (l : Launch) (hl0 : l.stackTraces = false) {σ : MM} (hM : okM σ) {xo ro : Int} {σo : MM} (h : X5_leastDelay σ = some (xo, ro, σo)) : CtX l yX5_leastDelay wsX5_leastDelay { frames := 6, cells := 1, slots := 6, locals := 134 } (fun ad : Nat → Nat => [.ref (ad 0)]) σ 0 xo ro σo := by
  unfold X5_leastDelay at h
  refine z_ctX (cc := cX5_leastDelay) (maxL := 1) (rt := 0) hl0 hM (by decide) rfl (fun _ => Nat.le_of_ble_eq_true rfl) rfl (Nat.le_of_ble_eq_true rfl) (Nat.le_of_ble_eq_true rfl) (@fun p e s m args below meth c D cy ad A Q C hX hR hT hTW => ?_)
  refine g_sub (vs' := [(0, .ref (ad 0))]) [0] rfl ?_
  refine g_aload_n C dX5_leastDelay_0 0 rfl ?_
  refine gf_X5_0 C in_X5_leastDelay_X5 (List.mem_of_getElem? (i := 3) rfl) dX5_leastDelay_1 ?_
  refine gfn_X0_0 C in_X5_leastDelay_X0 isL1 (List.mem_of_getElem? (i := 2) rfl) dX5_leastDelay_4 (fun r1 => ?_)
  refine g_bipush C dX5_leastDelay_7 (by decide) ?_
  refine g_icmp_le C 22 dX5_leastDelay_9 (by decide) r1 (by decide) (fun c2 => ?_) (fun c2 => ?_)
  · have h := z_f c2 h
    refine g_aload_n C dX5_leastDelay_22 0 rfl ?_
    refine gf_X5_5 C in_X5_leastDelay_X5 (List.mem_of_getElem? (i := 4) rfl) dX5_leastDelay_23 ?_
    refine g_aload_n C dX5_leastDelay_26 0 rfl ?_
    refine gf_X5_0 C in_X5_leastDelay_X5 (List.mem_of_getElem? (i := 3) rfl) dX5_leastDelay_27 ?_
    obtain ⟨σ5, e4, h⟩ := z_b h
    refine g_callV (n := 1) C (fun hM => c_X1_search l hM isL1 e4) gX5_leastDelay_X1_search rfl (by decide) ⟨rfl, rfl⟩ ⟨Nat.le_of_ble_eq_true rfl, Nat.le_of_ble_eq_true rfl⟩ rfl ly_c38 (Nat.le_of_ble_eq_true rfl) rfl rfl (rest := []) rfl (Nat.le_of_ble_eq_true rfl) dX5_leastDelay_30 ?_
    refine g_aload_n C dX5_leastDelay_33 0 rfl ?_
    refine gf_X5_5 C in_X5_leastDelay_X5 (List.mem_of_getElem? (i := 4) rfl) dX5_leastDelay_34 ?_
    refine gfn_X1_2 C in_X5_leastDelay_X1 (List.mem_of_getElem? (i := 9) rfl) dX5_leastDelay_37 (fun r6 => ?_)
    obtain ⟨rfl, rfl, rfl⟩ := z_s3 h
    exact hR _ _ dX5_leastDelay_40 rfl r6
  · have h := z_t c2 h
    obtain ⟨rfl, rfl, rfl⟩ := z_s3 h
    exact hT _ _ 210 212 214 _ "there are too many statements" (by decide) rfl (by decide) (List.mem_of_getElem? (i := 1) rfl) (List.mem_of_getElem? (i := 2) rfl) (List.mem_of_getElem? (i := 13) rfl) (fun _ h => List.mem_cons_of_mem _ (List.mem_append_right _ h)) xb_4 xg_4 dX5_leastDelay_12 dX5_leastDelay_15 dX5_leastDelay_16 dX5_leastDelay_18 dX5_leastDelay_21
theorem in_X5_reorder_X5 : ∀ w ∈ u_ws RX5 TX5 9, w ∈ wsX5_reorder := fun _ h => List.mem_cons_of_mem _ (List.mem_append_left _ (List.mem_append_left _ (List.mem_append_left _ (List.mem_append_right _ h))))
theorem in_X5_reorder_X0 : ∀ w ∈ u_ws RX0 TX0 12, w ∈ wsX5_reorder := fun _ h => List.mem_cons_of_mem _ (List.mem_append_left _ (List.mem_append_left _ (List.mem_append_right _ h)))
theorem in_X5_reorder_X1 : ∀ w ∈ u_ws RX1 TX1 3, w ∈ wsX5_reorder := fun _ h => List.mem_cons_of_mem _ (List.mem_append_left _ (List.mem_append_right _ h))
set_option maxHeartbeats 4000000 in
set_option maxRecDepth 100000 in
theorem w_X5_reorder_L37 {p : Program} {l : Launch} {e : Env} {s : State} {m : MethodId} {args : Array Value} {below : List Frame} {meth : Method} {c : Code} {D : va_G} {cy : Nat → ClassId} {ad : Nat → Nat} {A : Nat → Prop} {Q : State → Prop} (C : Cx p s m args meth c cX5_reorder RX5 3 wsX5_reorder D cy A) {k78 : Int → MM → Option (Int × Int × MM)} {xo : Int} {ro : Int} {σo : MM} (hR : RetX p l e { frames := 6, cells := 1, slots := 6, locals := 134 } s m args below meth c cX5_reorder 3 D cy ad A Q 0 xo ro σo) (hT : ThrX p l e { frames := 6, cells := 1, slots := 6, locals := 134 } s m args below meth c cX5_reorder "DoacrossScheduler" 3 wsX5_reorder D cy ad A Q xo σo) (hTW : ThrW p l e { frames := 6, cells := 1, slots := 6, locals := 134 } s m args below meth c cX5_reorder "DoacrossScheduler" 3 wsX5_reorder D cy ad A Q xo σo) (hk78 : ∀ (z1 : Int) (σ : MM), inR z1 → k78 z1 σ = some (xo, ro, σo) → G p l e { frames := 6, cells := 1, slots := 6, locals := 134 } s m args below meth c 3 D cy ad A Q 78 [(0, .ref (ad 0)), (1, .int (Int32.ofInt z1))] [] σ) : ∀ (n : Nat) (x1 x2 : Int) (σ : MM) , inR x1 → inR x2 → X5_reorder_L37 k78 n x1 x2 σ = some (xo, ro, σo) → G p l e { frames := 6, cells := 1, slots := 6, locals := 134 } s m args below meth c 3 D cy ad A Q 37 [(0, .ref (ad 0)), (1, .int (Int32.ofInt x1)), (2, .int (Int32.ofInt x2))] [] σ := by
  intro n
  induction n with
  | zero =>
    intro x1 x2 σ hx1 hx2 h
    cases h
  | succ n ih =>
    intro x1 x2 σ hx1 hx2 h
    rw [X5_reorder_L37] at h
    refine g_iload_n C dX5_reorder_37 2 rfl ?_
    refine g_aload_n C dX5_reorder_38 0 rfl ?_
    refine gf_X5_0 C in_X5_reorder_X5 (List.mem_of_getElem? (i := 3) rfl) dX5_reorder_39 ?_
    refine gfn_X0_0 C in_X5_reorder_X0 isL1 (List.mem_of_getElem? (i := 2) rfl) dX5_reorder_42 (fun r6 => ?_)
    refine g_icmp_ge C 78 dX5_reorder_45 (by decide) hx2 r6 (fun c7 => ?_) (fun c7 => ?_)
    · have h := z_f c7 h
      refine g_sub [0, 1] rfl ?_
      exact hk78 _ _ hx1 h
    · have h := z_t c7 h
      refine g_aload_n C dX5_reorder_48 0 rfl ?_
      refine gf_X5_0 C in_X5_reorder_X5 (List.mem_of_getElem? (i := 3) rfl) dX5_reorder_49 ?_
      refine gfn_X0_3 C in_X5_reorder_X0 isL1 (List.mem_of_getElem? (i := 10) rfl) dX5_reorder_52 ?_
      refine g_iload_n C dX5_reorder_55 2 rfl ?_
      obtain ⟨g8, h⟩ := z_g h
      refine g_iald C ly_c4 (Nat.le_of_ble_eq_true rfl) (by decide) g8 dX5_reorder_56 (fun r9 => ?_)
      refine g_aload_n C dX5_reorder_57 0 rfl ?_
      refine gf_X5_5 C in_X5_reorder_X5 (List.mem_of_getElem? (i := 4) rfl) dX5_reorder_58 ?_
      refine gfn_X1_1 C in_X5_reorder_X1 (List.mem_of_getElem? (i := 11) rfl) dX5_reorder_61 ?_
      refine g_iload_n C dX5_reorder_64 2 rfl ?_
      refine g_iald C ly_c50 (Nat.le_of_ble_eq_true rfl) (by decide) (by omega) dX5_reorder_65 (fun r10 => ?_)
      refine g_icmp_eq C 72 dX5_reorder_66 (by decide) r9 r10 (fun c11 => ?_) (fun c11 => ?_)
      · have h := z_t c11 h
        refine g_iinc C dX5_reorder_72 (j := 2) rfl (by decide) (vs' := [(2, .int (Int32.ofInt (x2 + 1))), (0, .ref (ad 0)), (1, .int (Int32.ofInt x1))]) rfl ?_
        refine g_goto C 37 dX5_reorder_75 (by decide) ?_
        refine g_sub [1, 2, 0] rfl ?_
        exact ih _ _ _ hx1 (by omega) h
      · have h := z_f c11 h
        refine g_iinc C dX5_reorder_69 (j := 1) rfl (by decide) (vs' := [(1, .int (Int32.ofInt (x1 + 1))), (0, .ref (ad 0)), (2, .int (Int32.ofInt x2))]) rfl ?_
        refine g_iinc C dX5_reorder_72 (j := 2) rfl (by decide) (vs' := [(2, .int (Int32.ofInt (x2 + 1))), (1, .int (Int32.ofInt (x1 + 1))), (0, .ref (ad 0))]) rfl ?_
        refine g_goto C 37 dX5_reorder_75 (by decide) ?_
        obtain ⟨g12, h⟩ := z_g h
        refine g_sub [2, 1, 0] rfl ?_
        exact ih _ _ _ g12 (by omega) h
set_option maxHeartbeats 4000000 in
set_option maxRecDepth 100000 in
theorem w_X5_reorder_L80 {p : Program} {l : Launch} {e : Env} {s : State} {m : MethodId} {args : Array Value} {below : List Frame} {meth : Method} {c : Code} {D : va_G} {cy : Nat → ClassId} {ad : Nat → Nat} {A : Nat → Prop} {Q : State → Prop} (C : Cx p s m args meth c cX5_reorder RX5 3 wsX5_reorder D cy A) {x1 : Int} (hx1 : inR x1) {k114 : MM → Option (Int × Int × MM)} {xo : Int} {ro : Int} {σo : MM} (hR : RetX p l e { frames := 6, cells := 1, slots := 6, locals := 134 } s m args below meth c cX5_reorder 3 D cy ad A Q 0 xo ro σo) (hT : ThrX p l e { frames := 6, cells := 1, slots := 6, locals := 134 } s m args below meth c cX5_reorder "DoacrossScheduler" 3 wsX5_reorder D cy ad A Q xo σo) (hTW : ThrW p l e { frames := 6, cells := 1, slots := 6, locals := 134 } s m args below meth c cX5_reorder "DoacrossScheduler" 3 wsX5_reorder D cy ad A Q xo σo) (hk114 : ∀  (σ : MM), k114 σ = some (xo, ro, σo) → G p l e { frames := 6, cells := 1, slots := 6, locals := 134 } s m args below meth c 3 D cy ad A Q 114 [(1, .int (Int32.ofInt x1))] [] σ) : ∀ (n : Nat) (x2 : Int) (σ : MM) , inR x2 → X5_reorder_L80 x1 k114 n x2 σ = some (xo, ro, σo) → G p l e { frames := 6, cells := 1, slots := 6, locals := 134 } s m args below meth c 3 D cy ad A Q 80 [(0, .ref (ad 0)), (1, .int (Int32.ofInt x1)), (2, .int (Int32.ofInt x2))] [] σ := by
  intro n
  induction n with
  | zero =>
    intro x2 σ hx2 h
    cases h
  | succ n ih =>
    intro x2 σ hx2 h
    rw [X5_reorder_L80] at h
    refine g_iload_n C dX5_reorder_80 2 rfl ?_
    refine g_aload_n C dX5_reorder_81 0 rfl ?_
    refine gf_X5_0 C in_X5_reorder_X5 (List.mem_of_getElem? (i := 3) rfl) dX5_reorder_82 ?_
    refine gfn_X0_0 C in_X5_reorder_X0 isL1 (List.mem_of_getElem? (i := 2) rfl) dX5_reorder_85 (fun r15 => ?_)
    refine g_icmp_ge C 114 dX5_reorder_88 (by decide) hx2 r15 (fun c16 => ?_) (fun c16 => ?_)
    · have h := z_f c16 h
      refine g_sub [1] rfl ?_
      exact hk114 _ h
    · have h := z_t c16 h
      refine g_aload_n C dX5_reorder_91 0 rfl ?_
      refine gf_X5_0 C in_X5_reorder_X5 (List.mem_of_getElem? (i := 3) rfl) dX5_reorder_92 ?_
      refine g_aload_n C dX5_reorder_95 0 rfl ?_
      refine gf_X5_5 C in_X5_reorder_X5 (List.mem_of_getElem? (i := 4) rfl) dX5_reorder_96 ?_
      refine gfn_X1_1 C in_X5_reorder_X1 (List.mem_of_getElem? (i := 11) rfl) dX5_reorder_99 ?_
      refine g_iload_n C dX5_reorder_102 2 rfl ?_
      obtain ⟨g17, h⟩ := z_g h
      refine g_iald C ly_c50 (Nat.le_of_ble_eq_true rfl) (by decide) g17 dX5_reorder_103 (fun r18 => ?_)
      refine g_iload_n C dX5_reorder_104 2 rfl ?_
      obtain ⟨σ21, e20, h⟩ := z_b h
      refine g_callV (n := 2) C (fun hM => c_X0_place l hM isL1 r18 hx2 e20) gX5_reorder_X0_place rfl (by decide) ⟨rfl, rfl⟩ ⟨Nat.le_of_ble_eq_true rfl, Nat.le_of_ble_eq_true rfl⟩ rfl ly_c1 (Nat.le_of_ble_eq_true rfl) rfl rfl (rest := []) rfl (Nat.le_of_ble_eq_true rfl) dX5_reorder_105 ?_
      refine g_iinc C dX5_reorder_108 (j := 2) rfl (by decide) (vs' := [(2, .int (Int32.ofInt (x2 + 1))), (0, .ref (ad 0)), (1, .int (Int32.ofInt x1))]) rfl ?_
      refine g_goto C 80 dX5_reorder_111 (by decide) ?_
      refine g_sub [1, 2, 0] rfl ?_
      exact ih _ _ (by omega) h
set_option maxHeartbeats 4000000 in
set_option maxRecDepth 100000 in
theorem c_X5_reorder (l : Launch) (hl0 : l.stackTraces = false) {σ : MM} (hM : okM σ) {xo ro : Int} {σo : MM} (h : X5_reorder σ = some (xo, ro, σo)) : CtX l yX5_reorder wsX5_reorder { frames := 6, cells := 1, slots := 6, locals := 134 } (fun ad : Nat → Nat => [.ref (ad 0)]) σ 0 xo ro σo := by
  unfold X5_reorder at h
  refine z_ctX (cc := cX5_reorder) (maxL := 3) (rt := 0) hl0 hM (by decide) rfl (fun _ => Nat.le_of_ble_eq_true rfl) rfl (Nat.le_of_ble_eq_true rfl) (Nat.le_of_ble_eq_true rfl) (@fun p e s m args below meth c D cy ad A Q C hX hR hT hTW => ?_)
  refine g_sub (vs' := [(0, .ref (ad 0))]) [0] rfl ?_
  refine g_aload_n C dX5_reorder_0 0 rfl ?_
  refine gf_X5_0 C in_X5_reorder_X5 (List.mem_of_getElem? (i := 3) rfl) dX5_reorder_1 ?_
  refine gfn_X0_0 C in_X5_reorder_X0 isL1 (List.mem_of_getElem? (i := 2) rfl) dX5_reorder_4 (fun r1 => ?_)
  refine g_bipush C dX5_reorder_7 (by decide) ?_
  refine g_icmp_le C 22 dX5_reorder_9 (by decide) r1 (by decide) (fun c2 => ?_) (fun c2 => ?_)
  · have h := z_f c2 h
    refine g_aload_n C dX5_reorder_22 0 rfl ?_
    refine gf_X5_5 C in_X5_reorder_X5 (List.mem_of_getElem? (i := 4) rfl) dX5_reorder_23 ?_
    refine g_aload_n C dX5_reorder_26 0 rfl ?_
    refine gf_X5_0 C in_X5_reorder_X5 (List.mem_of_getElem? (i := 3) rfl) dX5_reorder_27 ?_
    obtain ⟨σ5, e4, h⟩ := z_b h
    refine g_callV (n := 1) C (fun hM => c_X1_search l hM isL1 e4) gX5_reorder_X1_search rfl (by decide) ⟨rfl, rfl⟩ ⟨Nat.le_of_ble_eq_true rfl, Nat.le_of_ble_eq_true rfl⟩ rfl ly_c38 (Nat.le_of_ble_eq_true rfl) rfl rfl (rest := []) rfl (Nat.le_of_ble_eq_true rfl) dX5_reorder_30 ?_
    refine g_iconst C dX5_reorder_33 ?_
    refine g_istore_n C dX5_reorder_34 (by decide) (vs' := [(1, .int (Int32.ofInt 0)), (0, .ref (ad 0))]) rfl ?_
    refine g_iconst C dX5_reorder_35 ?_
    refine g_istore_n C dX5_reorder_36 (by decide) (vs' := [(2, .int (Int32.ofInt 0)), (1, .int (Int32.ofInt 0)), (0, .ref (ad 0))]) rfl ?_
    refine g_sub [2, 1, 0] rfl ?_
    refine w_X5_reorder_L37 C hR hT hTW ?_ _ _ _ _ (by decide) (by decide) h
    · intro z13 σ14 hz13 h
      refine g_iconst C dX5_reorder_78 ?_
      refine g_istore_n C dX5_reorder_79 (by decide) (vs' := [(2, .int (Int32.ofInt 0)), (0, .ref (ad 0)), (1, .int (Int32.ofInt z13))]) rfl ?_
      refine g_sub [1, 2, 0] rfl ?_
      refine w_X5_reorder_L80 C hz13 hR hT hTW ?_ _ _ _ (by decide) h
      · intro σ22 h
        refine g_iload_n C dX5_reorder_114 0 rfl ?_
        obtain ⟨rfl, rfl, rfl⟩ := z_s3 h
        exact hR _ _ dX5_reorder_115 rfl hz13
  · have h := z_t c2 h
    obtain ⟨rfl, rfl, rfl⟩ := z_s3 h
    exact hT _ _ 210 212 214 _ "there are too many statements" (by decide) rfl (by decide) (List.mem_of_getElem? (i := 1) rfl) (List.mem_of_getElem? (i := 2) rfl) (List.mem_of_getElem? (i := 13) rfl) (fun _ h => List.mem_cons_of_mem _ (List.mem_append_right _ h)) xb_4 xg_4 dX5_reorder_12 dX5_reorder_15 dX5_reorder_16 dX5_reorder_18 dX5_reorder_21
theorem in_X5_simulate_X5 : ∀ w ∈ u_ws RX5 TX5 9, w ∈ wsX5_simulate := fun _ h => List.mem_cons_of_mem _ (List.mem_append_left _ (List.mem_append_left _ (List.mem_append_right _ h)))
theorem in_X5_simulate_X0 : ∀ w ∈ u_ws RX0 TX0 12, w ∈ wsX5_simulate := fun _ h => List.mem_cons_of_mem _ (List.mem_append_left _ (List.mem_append_right _ h))
set_option maxHeartbeats 4000000 in
set_option maxRecDepth 100000 in
theorem c_X5_simulate (l : Launch) {σ : MM} (hM : okM σ) {σo : MM} (h : X5_simulate σ = some σo) : CtV l yX5_simulate wsX5_simulate { frames := 5, cells := 0, slots := 0, locals := 119 } (fun ad : Nat → Nat => [.ref (ad 0)]) σ σo := by
  unfold X5_simulate at h
  refine z_ctV (cc := cX5_simulate) (maxL := 1) hM (by decide) rfl (fun _ => Nat.le_of_ble_eq_true rfl) (@fun p e s m args below meth c D cy ad A Q C hR => ?_)
  refine g_sub (vs' := [(0, .ref (ad 0))]) [0] rfl ?_
  refine g_aload_n C dX5_simulate_0 0 rfl ?_
  refine gf_X5_6 C in_X5_simulate_X5 (List.mem_of_getElem? (i := 1) rfl) dX5_simulate_1 ?_
  refine g_aload_n C dX5_simulate_4 0 rfl ?_
  refine gf_X5_0 C in_X5_simulate_X5 (List.mem_of_getElem? (i := 2) rfl) dX5_simulate_5 ?_
  refine g_aload_n C dX5_simulate_8 0 rfl ?_
  refine gf_X5_0 C in_X5_simulate_X5 (List.mem_of_getElem? (i := 2) rfl) dX5_simulate_9 ?_
  refine gfn_X0_11 C in_X5_simulate_X0 isL1 (List.mem_of_getElem? (i := 1) rfl) dX5_simulate_12 ?_
  refine g_iconst C dX5_simulate_15 ?_
  refine g_iald C ly_c11 (Nat.le_of_ble_eq_true rfl) (by decide) (by decide) dX5_simulate_16 (fun r1 => ?_)
  obtain ⟨σ4, e3, h⟩ := z_b h
  refine g_callV (n := 2) C (fun hM => c_X3_simulate l hM isL1 r1 e3) gX5_simulate_X3_simulate rfl (by decide) ⟨rfl, rfl⟩ ⟨Nat.le_of_ble_eq_true rfl, Nat.le_of_ble_eq_true rfl⟩ rfl ly_c51 (Nat.le_of_ble_eq_true rfl) rfl rfl (rest := []) rfl (Nat.le_of_ble_eq_true rfl) dX5_simulate_17 ?_
  obtain rfl := z_s1 h
  exact hR _ _ dX5_simulate_20
theorem in_X5_length_X5 : ∀ w ∈ u_ws RX5 TX5 9, w ∈ wsX5_length := fun _ h => List.mem_cons_of_mem _ (List.mem_append_left _ (List.mem_append_left _ (List.mem_append_right _ h)))
theorem in_X5_length_X3 : ∀ w ∈ u_ws RX3 TX3 7, w ∈ wsX5_length := fun _ h => List.mem_cons_of_mem _ (List.mem_append_left _ (List.mem_append_right _ h))
set_option maxHeartbeats 4000000 in
set_option maxRecDepth 100000 in
theorem c_X5_length (l : Launch) {σ : MM} (hM : okM σ) {ro : Int} {σo : MM} (h : X5_length σ = some (ro, σo)) : CtI l yX5_length wsX5_length { frames := 6, cells := 0, slots := 0, locals := 139 } (fun ad : Nat → Nat => [.ref (ad 0)]) σ 0 ro σo := by
  unfold X5_length at h
  refine z_ctI (cc := cX5_length) (maxL := 1) (rt := 0) hM (by decide) rfl (fun _ => Nat.le_of_ble_eq_true rfl) (@fun p e s m args below meth c D cy ad A Q C hR => ?_)
  refine g_sub (vs' := [(0, .ref (ad 0))]) [0] rfl ?_
  refine g_aload_n C dX5_length_0 0 rfl ?_
  obtain ⟨σ3, e2, h⟩ := z_b h
  refine g_callV (n := 0) C (fun hM => c_X5_simulate l hM  e2) gX5_length_X5_simulate rfl (by decide) ⟨rfl, rfl⟩ ⟨Nat.le_of_ble_eq_true rfl, Nat.le_of_ble_eq_true rfl⟩ rfl ly_c0 (Nat.le_of_ble_eq_true rfl) rfl rfl (rest := []) rfl (Nat.le_of_ble_eq_true rfl) dX5_length_1 ?_
  refine g_aload_n C dX5_length_4 0 rfl ?_
  refine gf_X5_6 C in_X5_length_X5 (List.mem_of_getElem? (i := 1) rfl) dX5_length_5 ?_
  refine gfn_X3_6 C in_X5_length_X3 (List.mem_of_getElem? (i := 12) rfl) dX5_length_8 (fun r4 => ?_)
  obtain ⟨rfl, rfl⟩ := z_s2 h
  exact hR _ _ dX5_length_11 r4
theorem in_X5_start_X5 : ∀ w ∈ u_ws RX5 TX5 9, w ∈ wsX5_start := fun _ h => List.mem_cons_of_mem _ (List.mem_append_left _ (List.mem_append_left _ (List.mem_append_left _ (List.mem_append_right _ h))))
set_option maxHeartbeats 4000000 in
set_option maxRecDepth 100000 in
theorem c_X5_start (l : Launch) (hl0 : l.stackTraces = false) {σ : MM} (hM : okM σ) {a1 : Int} (ha1 : inR a1) {a2 : Int} (ha2 : inR a2) {xo ro : Int} {σo : MM} (h : X5_start a1 a2 σ = some (xo, ro, σo)) : CtX l yX5_start wsX5_start { frames := 6, cells := 1, slots := 6, locals := 139 } (fun ad : Nat → Nat => [.ref (ad 0), .int (Int32.ofInt a1), .int (Int32.ofInt a2)]) σ 0 xo ro σo := by
  unfold X5_start at h
  refine z_ctX (cc := cX5_start) (maxL := 3) (rt := 0) hl0 hM (by decide) rfl (fun _ => Nat.le_of_ble_eq_true rfl) rfl (Nat.le_of_ble_eq_true rfl) (Nat.le_of_ble_eq_true rfl) (@fun p e s m args below meth c D cy ad A Q C hX hR hT hTW => ?_)
  refine g_sub (vs' := [(0, .ref (ad 0)), (1, .int (Int32.ofInt a1)), (2, .int (Int32.ofInt a2))]) [0, 1, 2] rfl ?_
  refine g_aload_n C dX5_start_0 0 rfl ?_
  refine gf_X5_0 C in_X5_start_X5 (List.mem_of_getElem? (i := 3) rfl) dX5_start_1 ?_
  refine g_iload_n C dX5_start_4 1 rfl ?_
  obtain ⟨r1, e2, h⟩ := z_b h
  refine g_callI (n := 1) C (fun hM => c_X0_hasStatement l hM isL1 ha1 e2) gX5_start_X0_hasStatement rfl (by decide) ⟨rfl, rfl⟩ ⟨Nat.le_of_ble_eq_true rfl, Nat.le_of_ble_eq_true rfl⟩ rfl ly_c1 (Nat.le_of_ble_eq_true rfl) rfl rfl (rest := []) rfl (Nat.le_of_ble_eq_true rfl) dX5_start_5 (fun q3 => ?_)
  have q3 : r1 = 0 ∨ r1 = 1 := q3
  refine g_if_eq C 22 dX5_start_8 (by decide) (rgT_inR (rt := 1) q3) (fun c4 => ?_) (fun c4 => ?_)
  · have h := z_t c4 h
    obtain ⟨rfl, rfl, rfl⟩ := z_s3 h
    exact hT _ _ 100 239 104 _ "there is no such statement or iteration" (by decide) rfl (by decide) (List.mem_of_getElem? (i := 1) rfl) (List.mem_of_getElem? (i := 2) rfl) (List.mem_of_getElem? (i := 14) rfl) (fun _ h => List.mem_cons_of_mem _ (List.mem_append_right _ h)) xb_3 xg_3 dX5_start_22 dX5_start_25 dX5_start_26 dX5_start_28 dX5_start_31
  · have h := z_f c4 h
    refine g_aload_n C dX5_start_11 0 rfl ?_
    refine gf_X5_0 C in_X5_start_X5 (List.mem_of_getElem? (i := 3) rfl) dX5_start_12 ?_
    refine g_iload_n C dX5_start_15 2 rfl ?_
    obtain ⟨r5, e6, h⟩ := z_b h
    refine g_callI (n := 1) C (fun hM => c_X0_hasIteration l hM isL1 ha2 e6) gX5_start_X0_hasIteration rfl (by decide) ⟨rfl, rfl⟩ ⟨Nat.le_of_ble_eq_true rfl, Nat.le_of_ble_eq_true rfl⟩ rfl ly_c1 (Nat.le_of_ble_eq_true rfl) rfl rfl (rest := []) rfl (Nat.le_of_ble_eq_true rfl) dX5_start_16 (fun q7 => ?_)
    have q7 : r5 = 0 ∨ r5 = 1 := q7
    refine g_if_ne C 32 dX5_start_19 (by decide) (rgT_inR (rt := 1) q7) (fun c8 => ?_) (fun c8 => ?_)
    · have h := z_f c8 h
      refine g_aload_n C dX5_start_32 0 rfl ?_
      obtain ⟨σ11, e10, h⟩ := z_b h
      refine g_callV (n := 0) C (fun hM => c_X5_simulate l hM  e10) gX5_start_X5_simulate rfl (by decide) ⟨rfl, rfl⟩ ⟨Nat.le_of_ble_eq_true rfl, Nat.le_of_ble_eq_true rfl⟩ rfl ly_c0 (Nat.le_of_ble_eq_true rfl) rfl rfl (rest := []) rfl (Nat.le_of_ble_eq_true rfl) dX5_start_33 ?_
      refine g_aload_n C dX5_start_36 0 rfl ?_
      refine gf_X5_6 C in_X5_start_X5 (List.mem_of_getElem? (i := 4) rfl) dX5_start_37 ?_
      refine g_iload_n C dX5_start_40 1 rfl ?_
      refine g_iload_n C dX5_start_41 2 rfl ?_
      obtain ⟨r12, e13, h⟩ := z_b h
      refine g_callI (n := 2) C (fun hM => c_X3_startOf l hM ha1 ha2 e13) gX5_start_X3_startOf rfl (by decide) ⟨rfl, rfl⟩ ⟨Nat.le_of_ble_eq_true rfl, Nat.le_of_ble_eq_true rfl⟩ rfl ly_c51 (Nat.le_of_ble_eq_true rfl) rfl rfl (rest := []) rfl (Nat.le_of_ble_eq_true rfl) dX5_start_42 (fun q14 => ?_)
      have q14 : inR r12 := q14
      obtain ⟨rfl, rfl, rfl⟩ := z_s3 h
      exact hR _ _ dX5_start_45 rfl q14
    · have h := z_t c8 h
      obtain ⟨rfl, rfl, rfl⟩ := z_s3 h
      exact hT _ _ 100 239 104 _ "there is no such statement or iteration" (by decide) rfl (by decide) (List.mem_of_getElem? (i := 1) rfl) (List.mem_of_getElem? (i := 2) rfl) (List.mem_of_getElem? (i := 14) rfl) (fun _ h => List.mem_cons_of_mem _ (List.mem_append_right _ h)) xb_3 xg_3 dX5_start_22 dX5_start_25 dX5_start_26 dX5_start_28 dX5_start_31
theorem in_X5_processor_X5 : ∀ w ∈ u_ws RX5 TX5 9, w ∈ wsX5_processor := fun _ h => List.mem_cons_of_mem _ (List.mem_append_left _ (List.mem_append_left _ (List.mem_append_left _ (List.mem_append_right _ h))))
theorem in_X5_processor_X3 : ∀ w ∈ u_ws RX3 TX3 7, w ∈ wsX5_processor := fun _ h => List.mem_cons_of_mem _ (List.mem_append_left _ (List.mem_append_left _ (List.mem_append_right _ h)))
set_option maxHeartbeats 4000000 in
set_option maxRecDepth 100000 in
theorem c_X5_processor (l : Launch) (hl0 : l.stackTraces = false) {σ : MM} (hM : okM σ) {a1 : Int} (ha1 : inR a1) {xo ro : Int} {σo : MM} (h : X5_processor a1 σ = some (xo, ro, σo)) : CtX l yX5_processor wsX5_processor { frames := 6, cells := 1, slots := 6, locals := 139 } (fun ad : Nat → Nat => [.ref (ad 0), .int (Int32.ofInt a1)]) σ 0 xo ro σo := by
  unfold X5_processor at h
  refine z_ctX (cc := cX5_processor) (maxL := 2) (rt := 0) hl0 hM (by decide) rfl (fun _ => Nat.le_of_ble_eq_true rfl) rfl (Nat.le_of_ble_eq_true rfl) (Nat.le_of_ble_eq_true rfl) (@fun p e s m args below meth c D cy ad A Q C hX hR hT hTW => ?_)
  refine g_sub (vs' := [(0, .ref (ad 0)), (1, .int (Int32.ofInt a1))]) [0, 1] rfl ?_
  refine g_aload_n C dX5_processor_0 0 rfl ?_
  refine gf_X5_0 C in_X5_processor_X5 (List.mem_of_getElem? (i := 3) rfl) dX5_processor_1 ?_
  refine g_iload_n C dX5_processor_4 1 rfl ?_
  obtain ⟨r1, e2, h⟩ := z_b h
  refine g_callI (n := 1) C (fun hM => c_X0_hasIteration l hM isL1 ha1 e2) gX5_processor_X0_hasIteration rfl (by decide) ⟨rfl, rfl⟩ ⟨Nat.le_of_ble_eq_true rfl, Nat.le_of_ble_eq_true rfl⟩ rfl ly_c1 (Nat.le_of_ble_eq_true rfl) rfl rfl (rest := []) rfl (Nat.le_of_ble_eq_true rfl) dX5_processor_5 (fun q3 => ?_)
  have q3 : r1 = 0 ∨ r1 = 1 := q3
  refine g_if_ne C 21 dX5_processor_8 (by decide) (rgT_inR (rt := 1) q3) (fun c4 => ?_) (fun c4 => ?_)
  · have h := z_f c4 h
    refine g_aload_n C dX5_processor_21 0 rfl ?_
    obtain ⟨σ7, e6, h⟩ := z_b h
    refine g_callV (n := 0) C (fun hM => c_X5_simulate l hM  e6) gX5_processor_X5_simulate rfl (by decide) ⟨rfl, rfl⟩ ⟨Nat.le_of_ble_eq_true rfl, Nat.le_of_ble_eq_true rfl⟩ rfl ly_c0 (Nat.le_of_ble_eq_true rfl) rfl rfl (rest := []) rfl (Nat.le_of_ble_eq_true rfl) dX5_processor_22 ?_
    refine g_aload_n C dX5_processor_25 0 rfl ?_
    refine gf_X5_6 C in_X5_processor_X5 (List.mem_of_getElem? (i := 4) rfl) dX5_processor_26 ?_
    refine gfn_X3_1 C in_X5_processor_X3 (List.mem_of_getElem? (i := 13) rfl) dX5_processor_29 ?_
    refine g_iload_n C dX5_processor_32 1 rfl ?_
    obtain ⟨g8, h⟩ := z_g h
    refine g_iald C ly_c53 (Nat.le_of_ble_eq_true rfl) (by decide) g8 dX5_processor_33 (fun r9 => ?_)
    obtain ⟨rfl, rfl, rfl⟩ := z_s3 h
    exact hR _ _ dX5_processor_34 rfl r9
  · have h := z_t c4 h
    obtain ⟨rfl, rfl, rfl⟩ := z_s3 h
    exact hT _ _ 100 245 104 _ "there is no such iteration" (by decide) rfl (by decide) (List.mem_of_getElem? (i := 1) rfl) (List.mem_of_getElem? (i := 2) rfl) (List.mem_of_getElem? (i := 15) rfl) (fun _ h => List.mem_cons_of_mem _ (List.mem_append_right _ h)) xb_3 xg_3 dX5_processor_11 dX5_processor_14 dX5_processor_15 dX5_processor_17 dX5_processor_20
theorem in_X5_total_X5 : ∀ w ∈ u_ws RX5 TX5 9, w ∈ wsX5_total := fun _ h => List.mem_cons_of_mem _ (List.mem_append_left _ (List.mem_append_left _ (List.mem_append_left _ (List.mem_append_left _ (List.mem_append_right _ h)))))
theorem in_X5_total_X0 : ∀ w ∈ u_ws RX0 TX0 12, w ∈ wsX5_total := fun _ h => List.mem_cons_of_mem _ (List.mem_append_left _ (List.mem_append_left _ (List.mem_append_left _ (List.mem_append_right _ h))))
theorem in_X5_total_X3 : ∀ w ∈ u_ws RX3 TX3 7, w ∈ wsX5_total := fun _ h => List.mem_cons_of_mem _ (List.mem_append_left _ (List.mem_append_left _ (List.mem_append_right _ h)))
set_option maxHeartbeats 4000000 in
set_option maxRecDepth 100000 in
theorem c_X5_total (l : Launch) (hl0 : l.stackTraces = false) {σ : MM} (hM : okM σ) {a1 : Int} (ha1 : inR a1) {a2 : Int} (ha2 : inR a2) {xo ro : Int} {σo : MM} (h : X5_total a1 a2 σ = some (xo, ro, σo)) : CtX l yX5_total wsX5_total { frames := 6, cells := 1, slots := 6, locals := 139 } (fun ad : Nat → Nat => [.ref (ad 0), .int (Int32.ofInt a1), .int (Int32.ofInt a2)]) σ 0 xo ro σo := by
  unfold X5_total at h
  refine z_ctX (cc := cX5_total) (maxL := 3) (rt := 0) hl0 hM (by decide) rfl (fun _ => Nat.le_of_ble_eq_true rfl) rfl (Nat.le_of_ble_eq_true rfl) (Nat.le_of_ble_eq_true rfl) (@fun p e s m args below meth c D cy ad A Q C hX hR hT hTW => ?_)
  refine g_sub (vs' := [(0, .ref (ad 0)), (1, .int (Int32.ofInt a1)), (2, .int (Int32.ofInt a2))]) [0, 1, 2] rfl ?_
  refine g_iload_n C dX5_total_0 1 rfl ?_
  refine g_if_lt C 17 dX5_total_1 (by decide) ha1 (fun c1 => ?_) (fun c1 => ?_)
  · have h := z_t c1 h
    obtain ⟨rfl, rfl, rfl⟩ := z_s3 h
    exact hT _ _ 100 250 104 _ "there is no such processor" (by decide) rfl (by decide) (List.mem_of_getElem? (i := 1) rfl) (List.mem_of_getElem? (i := 2) rfl) (List.mem_of_getElem? (i := 16) rfl) (fun _ h => List.mem_cons_of_mem _ (List.mem_append_left _ (List.mem_append_right _ h))) xb_3 xg_3 dX5_total_17 dX5_total_20 dX5_total_21 dX5_total_23 dX5_total_26
  · have h := z_f c1 h
    refine g_iload_n C dX5_total_4 1 rfl ?_
    refine g_aload_n C dX5_total_5 0 rfl ?_
    refine gf_X5_0 C in_X5_total_X5 (List.mem_of_getElem? (i := 5) rfl) dX5_total_6 ?_
    refine gfn_X0_11 C in_X5_total_X0 isL1 (List.mem_of_getElem? (i := 1) rfl) dX5_total_9 ?_
    refine g_iconst C dX5_total_12 ?_
    refine g_iald C ly_c11 (Nat.le_of_ble_eq_true rfl) (by decide) (by decide) dX5_total_13 (fun r2 => ?_)
    refine g_icmp_lt C 27 dX5_total_14 (by decide) ha1 r2 (fun c3 => ?_) (fun c3 => ?_)
    · have h := z_t c3 h
      refine g_aload_n C dX5_total_27 0 rfl ?_
      obtain ⟨σ6, e5, h⟩ := z_b h
      refine g_callV (n := 0) C (fun hM => c_X5_simulate l hM  e5) gX5_total_X5_simulate rfl (by decide) ⟨rfl, rfl⟩ ⟨Nat.le_of_ble_eq_true rfl, Nat.le_of_ble_eq_true rfl⟩ rfl ly_c0 (Nat.le_of_ble_eq_true rfl) rfl rfl (rest := []) rfl (Nat.le_of_ble_eq_true rfl) dX5_total_28 ?_
      refine g_iload_n C dX5_total_31 2 rfl ?_
      by_cases c7 : a2 = 0
      · have h := z_t c7 h
        refine g_tsw C 64 0 dX5_total_32 ha2 c7 (by decide) (by decide) rfl (by decide) ?_
        refine g_aload_n C dX5_total_64 0 rfl ?_
        refine gf_X5_6 C in_X5_total_X5 (List.mem_of_getElem? (i := 6) rfl) dX5_total_65 ?_
        refine gfn_X3_2 C in_X5_total_X3 (List.mem_of_getElem? (i := 14) rfl) dX5_total_68 ?_
        refine g_iload_n C dX5_total_71 1 rfl ?_
        obtain ⟨g8, h⟩ := z_g h
        refine g_iald C ly_c54 (Nat.le_of_ble_eq_true rfl) (by decide) g8 dX5_total_72 (fun r9 => ?_)
        obtain ⟨rfl, rfl, rfl⟩ := z_s3 h
        exact hR _ _ dX5_total_73 rfl r9
      have h := z_f c7 h
      by_cases c10 : a2 = 1
      · have h := z_t c10 h
        refine g_tsw C 74 1 dX5_total_32 ha2 c10 (by decide) (by decide) rfl (by decide) ?_
        refine g_aload_n C dX5_total_74 0 rfl ?_
        refine gf_X5_6 C in_X5_total_X5 (List.mem_of_getElem? (i := 6) rfl) dX5_total_75 ?_
        refine gfn_X3_2 C in_X5_total_X3 (List.mem_of_getElem? (i := 14) rfl) dX5_total_78 ?_
        refine g_iload_n C dX5_total_81 1 rfl ?_
        obtain ⟨g11, h⟩ := z_g h
        refine g_iald C ly_c54 (Nat.le_of_ble_eq_true rfl) (by decide) g11 dX5_total_82 (fun r12 => ?_)
        refine g_aload_n C dX5_total_83 0 rfl ?_
        refine gf_X5_0 C in_X5_total_X5 (List.mem_of_getElem? (i := 5) rfl) dX5_total_84 ?_
        obtain ⟨r13, e14, h⟩ := z_b h
        refine g_callI (n := 0) C (fun hM => c_X0_sumOfCosts l hM isL1 e14) gX5_total_X0_sumOfCosts rfl (by decide) ⟨rfl, rfl⟩ ⟨Nat.le_of_ble_eq_true rfl, Nat.le_of_ble_eq_true rfl⟩ rfl ly_c1 (Nat.le_of_ble_eq_true rfl) rfl rfl (rest := [.int (Int32.ofInt (σ6 54 a1))]) rfl (Nat.le_of_ble_eq_true rfl) dX5_total_87 (fun q15 => ?_)
        have q15 : inR r13 := q15
        refine g_imul C dX5_total_90 ?_
        obtain ⟨g16, h⟩ := z_g h
        obtain ⟨rfl, rfl, rfl⟩ := z_s3 h
        exact hR _ _ dX5_total_91 rfl g16
      have h := z_f c10 h
      by_cases c17 : a2 = 2
      · have h := z_t c17 h
        refine g_tsw C 92 2 dX5_total_32 ha2 c17 (by decide) (by decide) rfl (by decide) ?_
        refine g_aload_n C dX5_total_92 0 rfl ?_
        refine gf_X5_6 C in_X5_total_X5 (List.mem_of_getElem? (i := 6) rfl) dX5_total_93 ?_
        refine gfn_X3_4 C in_X5_total_X3 (List.mem_of_getElem? (i := 15) rfl) dX5_total_96 ?_
        refine g_iload_n C dX5_total_99 1 rfl ?_
        obtain ⟨g18, h⟩ := z_g h
        refine g_iald C ly_c56 (Nat.le_of_ble_eq_true rfl) (by decide) g18 dX5_total_100 (fun r19 => ?_)
        obtain ⟨rfl, rfl, rfl⟩ := z_s3 h
        exact hR _ _ dX5_total_101 rfl r19
      have h := z_f c17 h
      by_cases c20 : a2 = 3
      · have h := z_t c20 h
        refine g_tsw C 102 3 dX5_total_32 ha2 c20 (by decide) (by decide) rfl (by decide) ?_
        refine g_aload_n C dX5_total_102 0 rfl ?_
        refine gf_X5_6 C in_X5_total_X5 (List.mem_of_getElem? (i := 6) rfl) dX5_total_103 ?_
        refine gfn_X3_5 C in_X5_total_X3 (List.mem_of_getElem? (i := 16) rfl) dX5_total_106 ?_
        refine g_iload_n C dX5_total_109 1 rfl ?_
        obtain ⟨g21, h⟩ := z_g h
        refine g_iald C ly_c57 (Nat.le_of_ble_eq_true rfl) (by decide) g21 dX5_total_110 (fun r22 => ?_)
        obtain ⟨rfl, rfl, rfl⟩ := z_s3 h
        exact hR _ _ dX5_total_111 rfl r22
      have h := z_f c20 h
      refine g_tswD C 112 dX5_total_32 ha2 (by omega) (by decide) ?_
      obtain ⟨rfl, rfl, rfl⟩ := z_s3 h
      exact hTW _ _ 62 265 66 _ "there is no such total" (by decide) rfl (by decide) (List.mem_of_getElem? (i := 3) rfl) (List.mem_of_getElem? (i := 4) rfl) (List.mem_of_getElem? (i := 17) rfl) (fun _ h => List.mem_cons_of_mem _ (List.mem_append_right _ h)) xb_1 xg_1 dX5_total_112 dX5_total_115 dX5_total_116 dX5_total_119 dX5_total_122
    · have h := z_f c3 h
      obtain ⟨rfl, rfl, rfl⟩ := z_s3 h
      exact hT _ _ 100 250 104 _ "there is no such processor" (by decide) rfl (by decide) (List.mem_of_getElem? (i := 1) rfl) (List.mem_of_getElem? (i := 2) rfl) (List.mem_of_getElem? (i := 16) rfl) (fun _ h => List.mem_cons_of_mem _ (List.mem_append_left _ (List.mem_append_right _ h))) xb_3 xg_3 dX5_total_17 dX5_total_20 dX5_total_21 dX5_total_23 dX5_total_26
theorem in_X5_fill_X5 : ∀ w ∈ u_ws RX5 TX5 9, w ∈ wsX5_fill := fun _ h => List.mem_cons_of_mem _ (List.mem_append_left _ (List.mem_append_left _ (List.mem_append_right _ h)))
set_option maxHeartbeats 4000000 in
set_option maxRecDepth 100000 in
theorem c_X5_fill (l : Launch) {σ : MM} (hM : okM σ) {ro : Int} {σo : MM} (h : X5_fill σ = some (ro, σo)) : CtI l yX5_fill wsX5_fill { frames := 6, cells := 0, slots := 0, locals := 139 } (fun ad : Nat → Nat => [.ref (ad 0)]) σ 0 ro σo := by
  unfold X5_fill at h
  refine z_ctI (cc := cX5_fill) (maxL := 1) (rt := 0) hM (by decide) rfl (fun _ => Nat.le_of_ble_eq_true rfl) (@fun p e s m args below meth c D cy ad A Q C hR => ?_)
  refine g_sub (vs' := [(0, .ref (ad 0))]) [0] rfl ?_
  refine g_aload_n C dX5_fill_0 0 rfl ?_
  obtain ⟨σ3, e2, h⟩ := z_b h
  refine g_callV (n := 0) C (fun hM => c_X5_simulate l hM  e2) gX5_fill_X5_simulate rfl (by decide) ⟨rfl, rfl⟩ ⟨Nat.le_of_ble_eq_true rfl, Nat.le_of_ble_eq_true rfl⟩ rfl ly_c0 (Nat.le_of_ble_eq_true rfl) rfl rfl (rest := []) rfl (Nat.le_of_ble_eq_true rfl) dX5_fill_1 ?_
  refine g_aload_n C dX5_fill_4 0 rfl ?_
  refine gf_X5_6 C in_X5_fill_X5 (List.mem_of_getElem? (i := 1) rfl) dX5_fill_5 ?_
  obtain ⟨r4, e5, h⟩ := z_b h
  refine g_callI (n := 0) C (fun hM => c_X3_latestFirstStart l hM  e5) gX5_fill_X3_latestFirstStart rfl (by decide) ⟨rfl, rfl⟩ ⟨Nat.le_of_ble_eq_true rfl, Nat.le_of_ble_eq_true rfl⟩ rfl ly_c51 (Nat.le_of_ble_eq_true rfl) rfl rfl (rest := []) rfl (Nat.le_of_ble_eq_true rfl) dX5_fill_8 (fun q6 => ?_)
  have q6 : inR r4 := q6
  obtain ⟨rfl, rfl⟩ := z_s2 h
  exact hR _ _ dX5_fill_11 q6
theorem in_X5_drain_X5 : ∀ w ∈ u_ws RX5 TX5 9, w ∈ wsX5_drain := fun _ h => List.mem_cons_of_mem _ (List.mem_append_left _ (List.mem_append_left _ (List.mem_append_right _ h)))
theorem in_X5_drain_X3 : ∀ w ∈ u_ws RX3 TX3 7, w ∈ wsX5_drain := fun _ h => List.mem_cons_of_mem _ (List.mem_append_left _ (List.mem_append_right _ h))
set_option maxHeartbeats 4000000 in
set_option maxRecDepth 100000 in
theorem c_X5_drain (l : Launch) {σ : MM} (hM : okM σ) {ro : Int} {σo : MM} (h : X5_drain σ = some (ro, σo)) : CtI l yX5_drain wsX5_drain { frames := 6, cells := 0, slots := 0, locals := 139 } (fun ad : Nat → Nat => [.ref (ad 0)]) σ 0 ro σo := by
  unfold X5_drain at h
  refine z_ctI (cc := cX5_drain) (maxL := 1) (rt := 0) hM (by decide) rfl (fun _ => Nat.le_of_ble_eq_true rfl) (@fun p e s m args below meth c D cy ad A Q C hR => ?_)
  refine g_sub (vs' := [(0, .ref (ad 0))]) [0] rfl ?_
  refine g_aload_n C dX5_drain_0 0 rfl ?_
  obtain ⟨σ3, e2, h⟩ := z_b h
  refine g_callV (n := 0) C (fun hM => c_X5_simulate l hM  e2) gX5_drain_X5_simulate rfl (by decide) ⟨rfl, rfl⟩ ⟨Nat.le_of_ble_eq_true rfl, Nat.le_of_ble_eq_true rfl⟩ rfl ly_c0 (Nat.le_of_ble_eq_true rfl) rfl rfl (rest := []) rfl (Nat.le_of_ble_eq_true rfl) dX5_drain_1 ?_
  refine g_aload_n C dX5_drain_4 0 rfl ?_
  refine gf_X5_6 C in_X5_drain_X5 (List.mem_of_getElem? (i := 1) rfl) dX5_drain_5 ?_
  refine gfn_X3_6 C in_X5_drain_X3 (List.mem_of_getElem? (i := 12) rfl) dX5_drain_8 (fun r4 => ?_)
  refine g_aload_n C dX5_drain_11 0 rfl ?_
  refine gf_X5_6 C in_X5_drain_X5 (List.mem_of_getElem? (i := 1) rfl) dX5_drain_12 ?_
  obtain ⟨r5, e6, h⟩ := z_b h
  refine g_callI (n := 0) C (fun hM => c_X3_earliestEnd l hM  e6) gX5_drain_X3_earliestEnd rfl (by decide) ⟨rfl, rfl⟩ ⟨Nat.le_of_ble_eq_true rfl, Nat.le_of_ble_eq_true rfl⟩ rfl ly_c51 (Nat.le_of_ble_eq_true rfl) rfl rfl (rest := [.int (Int32.ofInt (σ3 51 6))]) rfl (Nat.le_of_ble_eq_true rfl) dX5_drain_15 (fun q7 => ?_)
  have q7 : inR r5 := q7
  refine g_isub C dX5_drain_18 ?_
  obtain ⟨g8, h⟩ := z_g h
  obtain ⟨rfl, rfl⟩ := z_s2 h
  exact hR _ _ dX5_drain_19 g8
set_option maxHeartbeats 4000000 in
set_option maxRecDepth 100000 in
theorem w_X5_greatestDivisor_L7 {p : Program} {l : Launch} {e : Env} {s : State} {m : MethodId} {args : Array Value} {below : List Frame} {meth : Method} {c : Code} {D : va_G} {cy : Nat → ClassId} {ad : Nat → Nat} {A : Nat → Prop} {Q : State → Prop} (C : Cx p s m args meth c cX5_greatestDivisor RX5 6 wsX5_greatestDivisor D cy A) {σ : MM} {k34 : Int → Option Int} {ro : Int} (hR : RetI p l e { frames := 0, cells := 0, slots := 0, locals := 0 } s m args below meth c cX5_greatestDivisor 6 D cy ad A Q 0 ro σ) (hk34 : ∀ (z2 : Int), inR z2 → k34 z2 = some ro → G p l e { frames := 0, cells := 0, slots := 0, locals := 0 } s m args below meth c 6 D cy ad A Q 34 [(2, .int (Int32.ofInt z2))] [] σ) : ∀ (n : Nat) (x2 x3 x4 : Int) , inR x2 → inR x3 → inR x4 → X5_greatestDivisor_L7 σ k34 n x2 x3 x4 = some ro → G p l e { frames := 0, cells := 0, slots := 0, locals := 0 } s m args below meth c 6 D cy ad A Q 7 [(2, .int (Int32.ofInt x2)), (3, .int (Int32.ofInt x3)), (4, .int (Int32.ofInt x4))] [] σ := by
  intro n
  induction n with
  | zero =>
    intro x2 x3 x4 hx2 hx3 hx4 h
    cases h
  | succ n ih =>
    intro x2 x3 x4 hx2 hx3 hx4 h
    rw [X5_greatestDivisor_L7] at h
    refine g_iload C dX5_greatestDivisor_7 2 rfl ?_
    refine g_bipush C dX5_greatestDivisor_9 (by decide) ?_
    refine g_icmp_ge C 34 dX5_greatestDivisor_11 (by decide) hx4 (by decide) (fun c1 => ?_) (fun c1 => ?_)
    · have h := z_f c1 h
      refine g_sub [0] rfl ?_
      exact hk34 _ hx2 h
    · have h := z_t c1 h
      refine g_iload_n C dX5_greatestDivisor_14 1 rfl ?_
      refine g_if_eq C 34 dX5_greatestDivisor_15 (by decide) hx3 (fun c2 => ?_) (fun c2 => ?_)
      · have h := z_t c2 h
        refine g_sub [0] rfl ?_
        exact hk34 _ hx2 h
      · have h := z_f c2 h
        refine g_iload_n C dX5_greatestDivisor_18 0 rfl ?_
        refine g_iload_n C dX5_greatestDivisor_19 1 rfl ?_
        obtain ⟨g3, h⟩ := z_g h
        have r4 := zmodR hx2 hx3 g3
        refine g_irem C hx2 hx3 g3 dX5_greatestDivisor_20 ?_
        refine g_istore C dX5_greatestDivisor_21 (by decide) (vs' := [(5, .int (Int32.ofInt (x2 % x3))), (2, .int (Int32.ofInt x2)), (3, .int (Int32.ofInt x3)), (4, .int (Int32.ofInt x4))]) rfl ?_
        refine g_iload_n C dX5_greatestDivisor_23 2 rfl ?_
        refine g_istore_n C dX5_greatestDivisor_24 (by decide) (vs' := [(2, .int (Int32.ofInt x3)), (5, .int (Int32.ofInt (x2 % x3))), (3, .int (Int32.ofInt x3)), (4, .int (Int32.ofInt x4))]) rfl ?_
        refine g_iload C dX5_greatestDivisor_25 1 rfl ?_
        refine g_istore_n C dX5_greatestDivisor_27 (by decide) (vs' := [(3, .int (Int32.ofInt (x2 % x3))), (2, .int (Int32.ofInt x3)), (5, .int (Int32.ofInt (x2 % x3))), (4, .int (Int32.ofInt x4))]) rfl ?_
        refine g_iinc C dX5_greatestDivisor_28 (j := 3) rfl (by decide) (vs' := [(4, .int (Int32.ofInt (x4 + 1))), (3, .int (Int32.ofInt (x2 % x3))), (2, .int (Int32.ofInt x3)), (5, .int (Int32.ofInt (x2 % x3)))]) rfl ?_
        refine g_goto C 7 dX5_greatestDivisor_31 (by decide) ?_
        refine g_sub [2, 1, 0] rfl ?_
        exact ih _ _ _ hx3 r4 (by omega) h
set_option maxHeartbeats 4000000 in
set_option maxRecDepth 100000 in
theorem c_X5_greatestDivisor (l : Launch) {σ : MM} (hM : okM σ) {a1 : Int} (ha1 : inR a1) {a2 : Int} (ha2 : inR a2) {ro : Int} (h : X5_greatestDivisor a1 a2 σ = some ro) : CtI l yX5_greatestDivisor wsX5_greatestDivisor { frames := 0, cells := 0, slots := 0, locals := 0 } (fun ad : Nat → Nat => [.int (Int32.ofInt a1), .int (Int32.ofInt a2)]) σ 0 ro σ := by
  unfold X5_greatestDivisor at h
  refine z_ctI (cc := cX5_greatestDivisor) (maxL := 6) (rt := 0) hM (by decide) rfl (fun _ => Nat.le_of_ble_eq_true rfl) (@fun p e s m args below meth c D cy ad A Q C hR => ?_)
  refine g_sub (vs' := [(0, .int (Int32.ofInt a1)), (1, .int (Int32.ofInt a2))]) [0, 1] rfl ?_
  refine g_iload_n C dX5_greatestDivisor_0 0 rfl ?_
  refine g_istore_n C dX5_greatestDivisor_1 (by decide) (vs' := [(2, .int (Int32.ofInt a1)), (0, .int (Int32.ofInt a1)), (1, .int (Int32.ofInt a2))]) rfl ?_
  refine g_iload_n C dX5_greatestDivisor_2 2 rfl ?_
  refine g_istore_n C dX5_greatestDivisor_3 (by decide) (vs' := [(3, .int (Int32.ofInt a2)), (2, .int (Int32.ofInt a1)), (0, .int (Int32.ofInt a1)), (1, .int (Int32.ofInt a2))]) rfl ?_
  refine g_iconst C dX5_greatestDivisor_4 ?_
  refine g_istore C dX5_greatestDivisor_5 (by decide) (vs' := [(4, .int (Int32.ofInt 0)), (3, .int (Int32.ofInt a2)), (2, .int (Int32.ofInt a1)), (0, .int (Int32.ofInt a1)), (1, .int (Int32.ofInt a2))]) rfl ?_
  refine g_sub [2, 1, 0] rfl ?_
  refine w_X5_greatestDivisor_L7 C hR ?_ _ _ _ _ ha1 ha2 (by decide) h
  · intro z5 hz5 h
    refine g_iload_n C dX5_greatestDivisor_34 0 rfl ?_
    obtain rfl := z_s1 h
    exact hR _ _ dX5_greatestDivisor_35 hz5
theorem in_X5_speedUp_X5 : ∀ w ∈ u_ws RX5 TX5 9, w ∈ wsX5_speedUp := fun _ h => List.mem_cons_of_mem _ (List.mem_append_left _ (List.mem_append_left _ (List.mem_append_left _ (List.mem_append_left _ (List.mem_append_right _ h)))))
theorem in_X5_speedUp_X0 : ∀ w ∈ u_ws RX0 TX0 12, w ∈ wsX5_speedUp := fun _ h => List.mem_cons_of_mem _ (List.mem_append_left _ (List.mem_append_left _ (List.mem_append_left _ (List.mem_append_right _ h))))
theorem in_X5_speedUp_X3 : ∀ w ∈ u_ws RX3 TX3 7, w ∈ wsX5_speedUp := fun _ h => List.mem_cons_of_mem _ (List.mem_append_left _ (List.mem_append_left _ (List.mem_append_right _ h)))
set_option maxHeartbeats 4000000 in
set_option maxRecDepth 100000 in
theorem w_X5_speedUp_J20 {p : Program} {l : Launch} {e : Env} {s : State} {m : MethodId} {args : Array Value} {below : List Frame} {meth : Method} {c : Code} {D : va_G} {cy : Nat → ClassId} {ad : Nat → Nat} {A : Nat → Prop} {Q : State → Prop} (C : Cx p s m args meth c cX5_speedUp RX5 4 wsX5_speedUp D cy A) {xo : Int} {ro : Int} {σo : MM} (hR : RetX p l e { frames := 6, cells := 1, slots := 6, locals := 139 } s m args below meth c cX5_speedUp 4 D cy ad A Q 0 xo ro σo) (hT : ThrX p l e { frames := 6, cells := 1, slots := 6, locals := 139 } s m args below meth c cX5_speedUp "DoacrossScheduler" 4 wsX5_speedUp D cy ad A Q xo σo) (hTW : ThrW p l e { frames := 6, cells := 1, slots := 6, locals := 139 } s m args below meth c cX5_speedUp "DoacrossScheduler" 4 wsX5_speedUp D cy ad A Q xo σo)  : ∀ (x1 : Int) (σ : MM) , inR x1 → X5_speedUp_J20 x1 σ = some (xo, ro, σo) → G p l e { frames := 6, cells := 1, slots := 6, locals := 139 } s m args below meth c 4 D cy ad A Q 20 [(0, .ref (ad 0)), (1, .int (Int32.ofInt x1))] [] σ := by
  intro x1 σ hx1 h
  unfold X5_speedUp_J20 at h
  refine g_aload_n C dX5_speedUp_20 0 rfl ?_
  refine gf_X5_0 C in_X5_speedUp_X5 (List.mem_of_getElem? (i := 5) rfl) dX5_speedUp_21 ?_
  refine gfn_X0_0 C in_X5_speedUp_X0 isL1 (List.mem_of_getElem? (i := 2) rfl) dX5_speedUp_24 (fun r2 => ?_)
  refine g_if_ne C 41 dX5_speedUp_27 (by decide) r2 (fun c3 => ?_) (fun c3 => ?_)
  · have h := z_f c3 h
    refine g_aload_n C dX5_speedUp_41 0 rfl ?_
    obtain ⟨σ6, e5, h⟩ := z_b h
    refine g_callV (n := 0) C (fun hM => c_X5_simulate l hM  e5) gX5_speedUp_X5_simulate rfl (by decide) ⟨rfl, rfl⟩ ⟨Nat.le_of_ble_eq_true rfl, Nat.le_of_ble_eq_true rfl⟩ rfl ly_c0 (Nat.le_of_ble_eq_true rfl) rfl rfl (rest := []) rfl (Nat.le_of_ble_eq_true rfl) dX5_speedUp_42 ?_
    refine g_aload_n C dX5_speedUp_45 0 rfl ?_
    refine gf_X5_0 C in_X5_speedUp_X5 (List.mem_of_getElem? (i := 5) rfl) dX5_speedUp_46 ?_
    obtain ⟨r7, e8, h⟩ := z_b h
    refine g_callI (n := 0) C (fun hM => c_X0_sumOfCosts l hM isL1 e8) gX5_speedUp_X0_sumOfCosts rfl (by decide) ⟨rfl, rfl⟩ ⟨Nat.le_of_ble_eq_true rfl, Nat.le_of_ble_eq_true rfl⟩ rfl ly_c1 (Nat.le_of_ble_eq_true rfl) rfl rfl (rest := []) rfl (Nat.le_of_ble_eq_true rfl) dX5_speedUp_49 (fun q9 => ?_)
    have q9 : inR r7 := q9
    refine g_aload_n C dX5_speedUp_52 0 rfl ?_
    refine gf_X5_0 C in_X5_speedUp_X5 (List.mem_of_getElem? (i := 5) rfl) dX5_speedUp_53 ?_
    refine gfn_X0_11 C in_X5_speedUp_X0 isL1 (List.mem_of_getElem? (i := 1) rfl) dX5_speedUp_56 ?_
    refine g_iconst C dX5_speedUp_59 ?_
    refine g_iald C ly_c11 (Nat.le_of_ble_eq_true rfl) (by decide) (by decide) dX5_speedUp_60 (fun r10 => ?_)
    refine g_imul C dX5_speedUp_61 ?_
    refine g_istore_n C dX5_speedUp_62 (by decide) (vs' := [(2, .int (Int32.ofInt (r7 * (σ6 11 0)))), (0, .ref (ad 0)), (1, .int (Int32.ofInt x1))]) rfl ?_
    refine g_iload_n C dX5_speedUp_63 0 rfl ?_
    refine g_aload_n C dX5_speedUp_64 1 rfl ?_
    refine gf_X5_6 C in_X5_speedUp_X5 (List.mem_of_getElem? (i := 6) rfl) dX5_speedUp_65 ?_
    refine gfn_X3_6 C in_X5_speedUp_X3 (List.mem_of_getElem? (i := 12) rfl) dX5_speedUp_68 (fun r11 => ?_)
    obtain ⟨g12, h⟩ := z_g h
    obtain ⟨r13, e14, h⟩ := z_b h
    refine g_callS (n := 2) C (fun hM => c_X5_greatestDivisor l hM g12 r11 e14) gX5_speedUp_X5_greatestDivisor rfl (by decide) ⟨rfl, rfl⟩ ⟨Nat.le_of_ble_eq_true rfl, Nat.le_of_ble_eq_true rfl⟩ rfl rfl (rest := []) rfl (Nat.le_of_ble_eq_true rfl) dX5_speedUp_71 (fun q15 => ?_)
    have q15 : inR r13 := q15
    refine g_istore_n C dX5_speedUp_74 (by decide) (vs' := [(3, .int (Int32.ofInt r13)), (2, .int (Int32.ofInt (r7 * (σ6 11 0)))), (0, .ref (ad 0)), (1, .int (Int32.ofInt x1))]) rfl ?_
    refine g_iload_n C dX5_speedUp_75 0 rfl ?_
    refine g_iconst C dX5_speedUp_76 ?_
    refine g_icmp_ge C 82 dX5_speedUp_77 (by decide) q15 (by decide) (fun c16 => ?_) (fun c16 => ?_)
    · have h := z_f c16 h
      refine g_iload_n C dX5_speedUp_82 3 rfl ?_
      refine g_if_ne C 90 dX5_speedUp_83 (by decide) hx1 (fun c17 => ?_) (fun c17 => ?_)
      · have h := z_f c17 h
        refine g_aload_n C dX5_speedUp_90 2 rfl ?_
        refine gf_X5_6 C in_X5_speedUp_X5 (List.mem_of_getElem? (i := 6) rfl) dX5_speedUp_91 ?_
        refine gfn_X3_6 C in_X5_speedUp_X3 (List.mem_of_getElem? (i := 12) rfl) dX5_speedUp_94 (fun r18 => ?_)
        refine g_iload_n C dX5_speedUp_97 0 rfl ?_
        obtain ⟨g19, h⟩ := z_g h
        have r20 := zdivR r18 q15 g19
        refine g_idiv C r18 q15 g19 dX5_speedUp_98 ?_
        obtain ⟨rfl, rfl, rfl⟩ := z_s3 h
        exact hR _ _ dX5_speedUp_99 rfl r20
      · have h := z_t c17 h
        refine g_iload_n C dX5_speedUp_86 1 rfl ?_
        refine g_goto C 97 dX5_speedUp_87 (by decide) ?_
        refine g_iload_n C dX5_speedUp_97 0 rfl ?_
        obtain ⟨g21, h⟩ := z_g h
        have r22 := zdivR g12 q15 g21
        refine g_idiv C g12 q15 g21 dX5_speedUp_98 ?_
        obtain ⟨rfl, rfl, rfl⟩ := z_s3 h
        exact hR _ _ dX5_speedUp_99 rfl r22
    · have h := z_t c16 h
      refine g_iconst C dX5_speedUp_80 ?_
      obtain ⟨rfl, rfl, rfl⟩ := z_s3 h
      exact hR _ _ dX5_speedUp_81 rfl (by show inR _; decide)
  · have h := z_t c3 h
    obtain ⟨rfl, rfl, rfl⟩ := z_s3 h
    exact hTW _ _ 72 275 76 _ "there are no statements" (by decide) rfl (by decide) (List.mem_of_getElem? (i := 3) rfl) (List.mem_of_getElem? (i := 4) rfl) (List.mem_of_getElem? (i := 19) rfl) (fun _ h => List.mem_cons_of_mem _ (List.mem_append_right _ h)) xb_2 xg_2 dX5_speedUp_30 dX5_speedUp_33 dX5_speedUp_34 dX5_speedUp_37 dX5_speedUp_40
set_option maxHeartbeats 4000000 in
set_option maxRecDepth 100000 in
theorem c_X5_speedUp (l : Launch) (hl0 : l.stackTraces = false) {σ : MM} (hM : okM σ) {a1 : Int} (ha1 : inR a1) {xo ro : Int} {σo : MM} (h : X5_speedUp a1 σ = some (xo, ro, σo)) : CtX l yX5_speedUp wsX5_speedUp { frames := 6, cells := 1, slots := 6, locals := 139 } (fun ad : Nat → Nat => [.ref (ad 0), .int (Int32.ofInt a1)]) σ 0 xo ro σo := by
  unfold X5_speedUp at h
  refine z_ctX (cc := cX5_speedUp) (maxL := 4) (rt := 0) hl0 hM (by decide) rfl (fun _ => Nat.le_of_ble_eq_true rfl) rfl (Nat.le_of_ble_eq_true rfl) (Nat.le_of_ble_eq_true rfl) (@fun p e s m args below meth c D cy ad A Q C hX hR hT hTW => ?_)
  refine g_sub (vs' := [(0, .ref (ad 0)), (1, .int (Int32.ofInt a1))]) [0, 1] rfl ?_
  refine g_iload_n C dX5_speedUp_0 1 rfl ?_
  refine g_if_eq C 20 dX5_speedUp_1 (by decide) ha1 (fun c1 => ?_) (fun c1 => ?_)
  · have h := z_t c1 h
    refine g_sub [0, 1] rfl ?_
    refine w_X5_speedUp_J20 C hR hT hTW  _ _ ha1 h
  · have h := z_f c1 h
    refine g_iload_n C dX5_speedUp_4 1 rfl ?_
    refine g_iconst C dX5_speedUp_5 ?_
    refine g_icmp_eq C 20 dX5_speedUp_6 (by decide) ha1 (by decide) (fun c23 => ?_) (fun c23 => ?_)
    · have h := z_t c23 h
      refine g_sub [0, 1] rfl ?_
      refine w_X5_speedUp_J20 C hR hT hTW  _ _ ha1 h
    · have h := z_f c23 h
      obtain ⟨rfl, rfl, rfl⟩ := z_s3 h
      exact hTW _ _ 62 273 66 _ "there is no such part" (by decide) rfl (by decide) (List.mem_of_getElem? (i := 1) rfl) (List.mem_of_getElem? (i := 2) rfl) (List.mem_of_getElem? (i := 18) rfl) (fun _ h => List.mem_cons_of_mem _ (List.mem_append_left _ (List.mem_append_right _ h))) xb_1 xg_1 dX5_speedUp_9 dX5_speedUp_12 dX5_speedUp_13 dX5_speedUp_16 dX5_speedUp_19
theorem in_X5_bestProcessors_X5 : ∀ w ∈ u_ws RX5 TX5 9, w ∈ wsX5_bestProcessors := fun _ h => List.mem_cons_of_mem _ (List.mem_append_left _ (List.mem_append_left _ (List.mem_append_right _ h)))
theorem in_X5_bestProcessors_X3 : ∀ w ∈ u_ws RX3 TX3 7, w ∈ wsX5_bestProcessors := fun _ h => List.mem_cons_of_mem _ (List.mem_append_left _ (List.mem_append_right _ h))
set_option maxHeartbeats 4000000 in
set_option maxRecDepth 100000 in
theorem w_X5_bestProcessors_L6 {p : Program} {l : Launch} {e : Env} {s : State} {m : MethodId} {args : Array Value} {below : List Frame} {meth : Method} {c : Code} {D : va_G} {cy : Nat → ClassId} {ad : Nat → Nat} {A : Nat → Prop} {Q : State → Prop} (C : Cx p s m args meth c cX5_bestProcessors RX5 4 wsX5_bestProcessors D cy A) {k56 : Int → MM → Option (Int × MM)} {ro : Int} {σo : MM} (hR : RetI p l e { frames := 5, cells := 0, slots := 0, locals := 119 } s m args below meth c cX5_bestProcessors 4 D cy ad A Q 0 ro σo) (hk56 : ∀ (z1 : Int) (σ : MM), inR z1 → k56 z1 σ = some (ro, σo) → G p l e { frames := 5, cells := 0, slots := 0, locals := 119 } s m args below meth c 4 D cy ad A Q 56 [(1, .int (Int32.ofInt z1))] [] σ) : ∀ (n : Nat) (x1 x2 x3 : Int) (σ : MM) , inR x1 → inR x2 → inR x3 → X5_bestProcessors_L6 k56 n x1 x2 x3 σ = some (ro, σo) → G p l e { frames := 5, cells := 0, slots := 0, locals := 119 } s m args below meth c 4 D cy ad A Q 6 [(0, .ref (ad 0)), (1, .int (Int32.ofInt x1)), (2, .int (Int32.ofInt x2)), (3, .int (Int32.ofInt x3))] [] σ := by
  intro n
  induction n with
  | zero =>
    intro x1 x2 x3 σ hx1 hx2 hx3 h
    cases h
  | succ n ih =>
    intro x1 x2 x3 σ hx1 hx2 hx3 h
    rw [X5_bestProcessors_L6] at h
    refine g_iload_n C dX5_bestProcessors_6 3 rfl ?_
    refine g_bipush C dX5_bestProcessors_7 (by decide) ?_
    refine g_icmp_gt C 56 dX5_bestProcessors_9 (by decide) hx3 (by decide) (fun c1 => ?_) (fun c1 => ?_)
    · have h := z_t c1 h
      refine g_sub [1] rfl ?_
      exact hk56 _ _ hx1 h
    · have h := z_f c1 h
      refine g_aload_n C dX5_bestProcessors_12 0 rfl ?_
      refine gf_X5_6 C in_X5_bestProcessors_X5 (List.mem_of_getElem? (i := 1) rfl) dX5_bestProcessors_13 ?_
      refine g_aload_n C dX5_bestProcessors_16 0 rfl ?_
      refine gf_X5_0 C in_X5_bestProcessors_X5 (List.mem_of_getElem? (i := 2) rfl) dX5_bestProcessors_17 ?_
      refine g_iload_n C dX5_bestProcessors_20 3 rfl ?_
      obtain ⟨σ4, e3, h⟩ := z_b h
      refine g_callV (n := 2) C (fun hM => c_X3_simulate l hM isL1 hx3 e3) gX5_bestProcessors_X3_simulate rfl (by decide) ⟨rfl, rfl⟩ ⟨Nat.le_of_ble_eq_true rfl, Nat.le_of_ble_eq_true rfl⟩ rfl ly_c51 (Nat.le_of_ble_eq_true rfl) rfl rfl (rest := []) rfl (Nat.le_of_ble_eq_true rfl) dX5_bestProcessors_21 ?_
      refine g_iload_n C dX5_bestProcessors_24 3 rfl ?_
      refine g_iconst C dX5_bestProcessors_25 ?_
      refine g_icmp_eq C 40 dX5_bestProcessors_26 (by decide) hx3 (by decide) (fun c5 => ?_) (fun c5 => ?_)
      · have h := z_t c5 h
        refine g_iload_n C dX5_bestProcessors_40 3 rfl ?_
        refine g_istore_n C dX5_bestProcessors_41 (by decide) (vs' := [(1, .int (Int32.ofInt x3)), (0, .ref (ad 0)), (2, .int (Int32.ofInt x2)), (3, .int (Int32.ofInt x3))]) rfl ?_
        refine g_aload_n C dX5_bestProcessors_42 1 rfl ?_
        refine gf_X5_6 C in_X5_bestProcessors_X5 (List.mem_of_getElem? (i := 1) rfl) dX5_bestProcessors_43 ?_
        refine gfn_X3_6 C in_X5_bestProcessors_X3 (List.mem_of_getElem? (i := 12) rfl) dX5_bestProcessors_46 (fun r6 => ?_)
        refine g_istore_n C dX5_bestProcessors_49 (by decide) (vs' := [(2, .int (Int32.ofInt (σ4 51 6))), (1, .int (Int32.ofInt x3)), (0, .ref (ad 0)), (3, .int (Int32.ofInt x3))]) rfl ?_
        refine g_iinc C dX5_bestProcessors_50 (j := 3) rfl (by decide) (vs' := [(3, .int (Int32.ofInt (x3 + 1))), (2, .int (Int32.ofInt (σ4 51 6))), (1, .int (Int32.ofInt x3)), (0, .ref (ad 0))]) rfl ?_
        refine g_goto C 6 dX5_bestProcessors_53 (by decide) ?_
        refine g_sub [3, 2, 1, 0] rfl ?_
        exact ih _ _ _ _ hx3 r6 (by omega) h
      · have h := z_f c5 h
        refine g_aload_n C dX5_bestProcessors_29 0 rfl ?_
        refine gf_X5_6 C in_X5_bestProcessors_X5 (List.mem_of_getElem? (i := 1) rfl) dX5_bestProcessors_30 ?_
        refine gfn_X3_6 C in_X5_bestProcessors_X3 (List.mem_of_getElem? (i := 12) rfl) dX5_bestProcessors_33 (fun r7 => ?_)
        refine g_iload_n C dX5_bestProcessors_36 2 rfl ?_
        refine g_icmp_ge C 50 dX5_bestProcessors_37 (by decide) r7 hx2 (fun c8 => ?_) (fun c8 => ?_)
        · have h := z_f c8 h
          refine g_iinc C dX5_bestProcessors_50 (j := 3) rfl (by decide) (vs' := [(3, .int (Int32.ofInt (x3 + 1))), (0, .ref (ad 0)), (1, .int (Int32.ofInt x1)), (2, .int (Int32.ofInt x2))]) rfl ?_
          refine g_goto C 6 dX5_bestProcessors_53 (by decide) ?_
          refine g_sub [1, 2, 3, 0] rfl ?_
          exact ih _ _ _ _ hx1 hx2 (by omega) h
        · have h := z_t c8 h
          refine g_iload_n C dX5_bestProcessors_40 3 rfl ?_
          refine g_istore_n C dX5_bestProcessors_41 (by decide) (vs' := [(1, .int (Int32.ofInt x3)), (0, .ref (ad 0)), (2, .int (Int32.ofInt x2)), (3, .int (Int32.ofInt x3))]) rfl ?_
          refine g_aload_n C dX5_bestProcessors_42 1 rfl ?_
          refine gf_X5_6 C in_X5_bestProcessors_X5 (List.mem_of_getElem? (i := 1) rfl) dX5_bestProcessors_43 ?_
          refine gfn_X3_6 C in_X5_bestProcessors_X3 (List.mem_of_getElem? (i := 12) rfl) dX5_bestProcessors_46 (fun r9 => ?_)
          refine g_istore_n C dX5_bestProcessors_49 (by decide) (vs' := [(2, .int (Int32.ofInt (σ4 51 6))), (1, .int (Int32.ofInt x3)), (0, .ref (ad 0)), (3, .int (Int32.ofInt x3))]) rfl ?_
          refine g_iinc C dX5_bestProcessors_50 (j := 3) rfl (by decide) (vs' := [(3, .int (Int32.ofInt (x3 + 1))), (2, .int (Int32.ofInt (σ4 51 6))), (1, .int (Int32.ofInt x3)), (0, .ref (ad 0))]) rfl ?_
          refine g_goto C 6 dX5_bestProcessors_53 (by decide) ?_
          refine g_sub [3, 2, 1, 0] rfl ?_
          exact ih _ _ _ _ hx3 r9 (by omega) h
set_option maxHeartbeats 4000000 in
set_option maxRecDepth 100000 in
theorem c_X5_bestProcessors (l : Launch) {σ : MM} (hM : okM σ) {ro : Int} {σo : MM} (h : X5_bestProcessors σ = some (ro, σo)) : CtI l yX5_bestProcessors wsX5_bestProcessors { frames := 5, cells := 0, slots := 0, locals := 119 } (fun ad : Nat → Nat => [.ref (ad 0)]) σ 0 ro σo := by
  unfold X5_bestProcessors at h
  refine z_ctI (cc := cX5_bestProcessors) (maxL := 4) (rt := 0) hM (by decide) rfl (fun _ => Nat.le_of_ble_eq_true rfl) (@fun p e s m args below meth c D cy ad A Q C hR => ?_)
  refine g_sub (vs' := [(0, .ref (ad 0))]) [0] rfl ?_
  refine g_iconst C dX5_bestProcessors_0 ?_
  refine g_istore_n C dX5_bestProcessors_1 (by decide) (vs' := [(1, .int (Int32.ofInt 1)), (0, .ref (ad 0))]) rfl ?_
  refine g_iconst C dX5_bestProcessors_2 ?_
  refine g_istore_n C dX5_bestProcessors_3 (by decide) (vs' := [(2, .int (Int32.ofInt 0)), (1, .int (Int32.ofInt 1)), (0, .ref (ad 0))]) rfl ?_
  refine g_iconst C dX5_bestProcessors_4 ?_
  refine g_istore_n C dX5_bestProcessors_5 (by decide) (vs' := [(3, .int (Int32.ofInt 1)), (2, .int (Int32.ofInt 0)), (1, .int (Int32.ofInt 1)), (0, .ref (ad 0))]) rfl ?_
  refine g_sub [3, 2, 1, 0] rfl ?_
  refine w_X5_bestProcessors_L6 C hR ?_ _ _ _ _ _ (by decide) (by decide) (by decide) h
  · intro z10 σ11 hz10 h
    refine g_iload_n C dX5_bestProcessors_56 0 rfl ?_
    obtain ⟨rfl, rfl⟩ := z_s2 h
    exact hR _ _ dX5_bestProcessors_57 hz10
theorem in_X5_signals_X5 : ∀ w ∈ u_ws RX5 TX5 9, w ∈ wsX5_signals := fun _ h => List.mem_cons_of_mem _ (List.mem_append_left _ (List.mem_append_right _ h))
theorem in_X5_signals_X0 : ∀ w ∈ u_ws RX0 TX0 12, w ∈ wsX5_signals := fun _ h => List.mem_cons_of_mem _ (List.mem_append_right _ h)
set_option maxHeartbeats 4000000 in
set_option maxRecDepth 100000 in
theorem w_X5_signals_L4 {p : Program} {l : Launch} {e : Env} {s : State} {m : MethodId} {args : Array Value} {below : List Frame} {meth : Method} {c : Code} {D : va_G} {cy : Nat → ClassId} {ad : Nat → Nat} {A : Nat → Prop} {Q : State → Prop} (C : Cx p s m args meth c cX5_signals RX5 3 wsX5_signals D cy A) {σ : MM} {k58 : Int → Option Int} {ro : Int} (hR : RetI p l e { frames := 2, cells := 0, slots := 0, locals := 42 } s m args below meth c cX5_signals 3 D cy ad A Q 0 ro σ) (hk58 : ∀ (z1 : Int), inR z1 → k58 z1 = some ro → G p l e { frames := 2, cells := 0, slots := 0, locals := 42 } s m args below meth c 3 D cy ad A Q 58 [(1, .int (Int32.ofInt z1))] [] σ) : ∀ (n : Nat) (x1 x2 : Int) , inR x1 → inR x2 → X5_signals_L4 σ k58 n x1 x2 = some ro → G p l e { frames := 2, cells := 0, slots := 0, locals := 42 } s m args below meth c 3 D cy ad A Q 4 [(0, .ref (ad 0)), (1, .int (Int32.ofInt x1)), (2, .int (Int32.ofInt x2))] [] σ := by
  intro n
  induction n with
  | zero =>
    intro x1 x2 hx1 hx2 h
    cases h
  | succ n ih =>
    intro x1 x2 hx1 hx2 h
    rw [X5_signals_L4] at h
    refine g_iload_n C dX5_signals_4 2 rfl ?_
    refine g_aload_n C dX5_signals_5 0 rfl ?_
    refine gf_X5_0 C in_X5_signals_X5 (List.mem_of_getElem? (i := 1) rfl) dX5_signals_6 ?_
    refine gfn_X0_5 C in_X5_signals_X0 isL1 (List.mem_of_getElem? (i := 3) rfl) dX5_signals_9 (fun r1 => ?_)
    refine g_icmp_ge C 58 dX5_signals_12 (by decide) hx2 r1 (fun c2 => ?_) (fun c2 => ?_)
    · have h := z_f c2 h
      refine g_sub [1] rfl ?_
      exact hk58 _ hx1 h
    · have h := z_t c2 h
      refine g_aload_n C dX5_signals_15 0 rfl ?_
      refine gf_X5_0 C in_X5_signals_X5 (List.mem_of_getElem? (i := 1) rfl) dX5_signals_16 ?_
      refine g_iload_n C dX5_signals_19 2 rfl ?_
      obtain ⟨r3, e4, h⟩ := z_b h
      refine g_callI (n := 1) C (fun hM => c_X0_isSignalled l hM isL1 hx2 e4) gX5_signals_X0_isSignalled rfl (by decide) ⟨rfl, rfl⟩ ⟨Nat.le_of_ble_eq_true rfl, Nat.le_of_ble_eq_true rfl⟩ rfl ly_c1 (Nat.le_of_ble_eq_true rfl) rfl rfl (rest := []) rfl (Nat.le_of_ble_eq_true rfl) dX5_signals_20 (fun q5 => ?_)
      have q5 : r3 = 0 ∨ r3 = 1 := q5
      refine g_if_eq C 52 dX5_signals_23 (by decide) (rgT_inR (rt := 1) q5) (fun c6 => ?_) (fun c6 => ?_)
      · have h := z_t c6 h
        refine g_iinc C dX5_signals_52 (j := 2) rfl (by decide) (vs' := [(2, .int (Int32.ofInt (x2 + 1))), (0, .ref (ad 0)), (1, .int (Int32.ofInt x1))]) rfl ?_
        refine g_goto C 4 dX5_signals_55 (by decide) ?_
        refine g_sub [1, 2, 0] rfl ?_
        exact ih _ _ hx1 (by omega) h
      · have h := z_f c6 h
        refine g_iload_n C dX5_signals_26 1 rfl ?_
        refine g_iconst C dX5_signals_27 ?_
        refine g_aload_n C dX5_signals_28 0 rfl ?_
        refine gf_X5_0 C in_X5_signals_X5 (List.mem_of_getElem? (i := 1) rfl) dX5_signals_29 ?_
        refine gfn_X0_11 C in_X5_signals_X0 isL1 (List.mem_of_getElem? (i := 1) rfl) dX5_signals_32 ?_
        refine g_iconst C dX5_signals_35 ?_
        refine g_iald C ly_c11 (Nat.le_of_ble_eq_true rfl) (by decide) (by decide) dX5_signals_36 (fun r7 => ?_)
        refine g_aload_n C dX5_signals_37 0 rfl ?_
        refine gf_X5_0 C in_X5_signals_X5 (List.mem_of_getElem? (i := 1) rfl) dX5_signals_38 ?_
        refine gfn_X0_9 C in_X5_signals_X0 isL1 (List.mem_of_getElem? (i := 7) rfl) dX5_signals_41 ?_
        refine g_iload_n C dX5_signals_44 2 rfl ?_
        obtain ⟨g8, h⟩ := z_g h
        refine g_iald C ly_c9 (Nat.le_of_ble_eq_true rfl) (by decide) g8 dX5_signals_45 (fun r9 => ?_)
        refine g_isub C dX5_signals_46 ?_
        obtain ⟨g10, h⟩ := z_g h
        refine g_mmax C (List.mem_of_getElem? (i := 2) rfl) (List.mem_of_getElem? (i := 3) rfl) (List.mem_of_getElem? (i := 4) rfl) (List.mem_of_getElem? (i := 5) rfl) (Nat.le_of_ble_eq_true rfl) (Nat.le_of_ble_eq_true rfl) (by decide) g10 dX5_signals_47 (fun r11 => ?_)
        refine g_iadd C dX5_signals_50 ?_
        refine g_istore_n C dX5_signals_51 (by decide) (vs' := [(1, .int (Int32.ofInt (x1 + (max 0 ((σ 11 0) - (σ 9 x2)))))), (0, .ref (ad 0)), (2, .int (Int32.ofInt x2))]) rfl ?_
        refine g_iinc C dX5_signals_52 (j := 2) rfl (by decide) (vs' := [(2, .int (Int32.ofInt (x2 + 1))), (1, .int (Int32.ofInt (x1 + (max 0 ((σ 11 0) - (σ 9 x2)))))), (0, .ref (ad 0))]) rfl ?_
        refine g_goto C 4 dX5_signals_55 (by decide) ?_
        obtain ⟨g12, h⟩ := z_g h
        refine g_sub [2, 1, 0] rfl ?_
        exact ih _ _ g12 (by omega) h
set_option maxHeartbeats 4000000 in
set_option maxRecDepth 100000 in
theorem c_X5_signals (l : Launch) {σ : MM} (hM : okM σ) {ro : Int} (h : X5_signals σ = some ro) : CtI l yX5_signals wsX5_signals { frames := 2, cells := 0, slots := 0, locals := 42 } (fun ad : Nat → Nat => [.ref (ad 0)]) σ 0 ro σ := by
  unfold X5_signals at h
  refine z_ctI (cc := cX5_signals) (maxL := 3) (rt := 0) hM (by decide) rfl (fun _ => Nat.le_of_ble_eq_true rfl) (@fun p e s m args below meth c D cy ad A Q C hR => ?_)
  refine g_sub (vs' := [(0, .ref (ad 0))]) [0] rfl ?_
  refine g_iconst C dX5_signals_0 ?_
  refine g_istore_n C dX5_signals_1 (by decide) (vs' := [(1, .int (Int32.ofInt 0)), (0, .ref (ad 0))]) rfl ?_
  refine g_iconst C dX5_signals_2 ?_
  refine g_istore_n C dX5_signals_3 (by decide) (vs' := [(2, .int (Int32.ofInt 0)), (1, .int (Int32.ofInt 0)), (0, .ref (ad 0))]) rfl ?_
  refine g_sub [2, 1, 0] rfl ?_
  refine w_X5_signals_L4 C hR ?_ _ _ _ (by decide) (by decide) h
  · intro z13 hz13 h
    refine g_iload_n C dX5_signals_58 0 rfl ?_
    obtain rfl := z_s1 h
    exact hR _ _ dX5_signals_59 hz13
theorem in_X5_violated_X5 : ∀ w ∈ u_ws RX5 TX5 9, w ∈ wsX5_violated := fun _ h => List.mem_cons_of_mem _ (List.mem_append_left _ (List.mem_append_left _ (List.mem_append_right _ h)))
theorem in_X5_violated_X0 : ∀ w ∈ u_ws RX0 TX0 12, w ∈ wsX5_violated := fun _ h => List.mem_cons_of_mem _ (List.mem_append_left _ (List.mem_append_right _ h))
set_option maxHeartbeats 4000000 in
set_option maxRecDepth 100000 in
theorem w_X5_violated_L6 {p : Program} {l : Launch} {e : Env} {s : State} {m : MethodId} {args : Array Value} {below : List Frame} {meth : Method} {c : Code} {D : va_G} {cy : Nat → ClassId} {ad : Nat → Nat} {A : Nat → Prop} {Q : State → Prop} (C : Cx p s m args meth c cX5_violated RX5 2 wsX5_violated D cy A) {k40 : MM → Option (Int × MM)} {ro : Int} {σo : MM} (hR : RetI p l e { frames := 6, cells := 0, slots := 0, locals := 139 } s m args below meth c cX5_violated 2 D cy ad A Q 0 ro σo) (hk40 : ∀  (σ : MM), k40 σ = some (ro, σo) → G p l e { frames := 6, cells := 0, slots := 0, locals := 139 } s m args below meth c 2 D cy ad A Q 40 [] [] σ) : ∀ (n : Nat) (x1 : Int) (σ : MM) , inR x1 → X5_violated_L6 k40 n x1 σ = some (ro, σo) → G p l e { frames := 6, cells := 0, slots := 0, locals := 139 } s m args below meth c 2 D cy ad A Q 6 [(0, .ref (ad 0)), (1, .int (Int32.ofInt x1))] [] σ := by
  intro n
  induction n with
  | zero =>
    intro x1 σ hx1 h
    cases h
  | succ n ih =>
    intro x1 σ hx1 h
    rw [X5_violated_L6] at h
    refine g_iload_n C dX5_violated_6 1 rfl ?_
    refine g_aload_n C dX5_violated_7 0 rfl ?_
    refine gf_X5_0 C in_X5_violated_X5 (List.mem_of_getElem? (i := 1) rfl) dX5_violated_8 ?_
    refine gfn_X0_5 C in_X5_violated_X0 isL1 (List.mem_of_getElem? (i := 3) rfl) dX5_violated_11 (fun r4 => ?_)
    refine g_icmp_ge C 40 dX5_violated_14 (by decide) hx1 r4 (fun c5 => ?_) (fun c5 => ?_)
    · have h := z_f c5 h
      refine g_sub [] rfl ?_
      exact hk40 _ h
    · have h := z_t c5 h
      refine g_aload_n C dX5_violated_17 0 rfl ?_
      refine gf_X5_6 C in_X5_violated_X5 (List.mem_of_getElem? (i := 2) rfl) dX5_violated_18 ?_
      refine g_aload_n C dX5_violated_21 0 rfl ?_
      refine gf_X5_0 C in_X5_violated_X5 (List.mem_of_getElem? (i := 1) rfl) dX5_violated_22 ?_
      refine g_iload_n C dX5_violated_25 1 rfl ?_
      obtain ⟨r6, e7, h⟩ := z_b h
      refine g_callI (n := 2) C (fun hM => c_X3_violates l hM isL1 hx1 e7) gX5_violated_X3_violates rfl (by decide) ⟨rfl, rfl⟩ ⟨Nat.le_of_ble_eq_true rfl, Nat.le_of_ble_eq_true rfl⟩ rfl ly_c51 (Nat.le_of_ble_eq_true rfl) rfl rfl (rest := []) rfl (Nat.le_of_ble_eq_true rfl) dX5_violated_26 (fun q8 => ?_)
      have q8 : r6 = 0 ∨ r6 = 1 := q8
      refine g_if_eq C 34 dX5_violated_29 (by decide) (rgT_inR (rt := 1) q8) (fun c9 => ?_) (fun c9 => ?_)
      · have h := z_t c9 h
        refine g_iinc C dX5_violated_34 (j := 1) rfl (by decide) (vs' := [(1, .int (Int32.ofInt (x1 + 1))), (0, .ref (ad 0))]) rfl ?_
        refine g_goto C 6 dX5_violated_37 (by decide) ?_
        refine g_sub [1, 0] rfl ?_
        exact ih _ _ (by omega) h
      · have h := z_f c9 h
        refine g_iload_n C dX5_violated_32 1 rfl ?_
        obtain ⟨rfl, rfl⟩ := z_s2 h
        exact hR _ _ dX5_violated_33 hx1
set_option maxHeartbeats 4000000 in
set_option maxRecDepth 100000 in
theorem c_X5_violated (l : Launch) {σ : MM} (hM : okM σ) {ro : Int} {σo : MM} (h : X5_violated σ = some (ro, σo)) : CtI l yX5_violated wsX5_violated { frames := 6, cells := 0, slots := 0, locals := 139 } (fun ad : Nat → Nat => [.ref (ad 0)]) σ 0 ro σo := by
  unfold X5_violated at h
  refine z_ctI (cc := cX5_violated) (maxL := 2) (rt := 0) hM (by decide) rfl (fun _ => Nat.le_of_ble_eq_true rfl) (@fun p e s m args below meth c D cy ad A Q C hR => ?_)
  refine g_sub (vs' := [(0, .ref (ad 0))]) [0] rfl ?_
  refine g_aload_n C dX5_violated_0 0 rfl ?_
  obtain ⟨σ3, e2, h⟩ := z_b h
  refine g_callV (n := 0) C (fun hM => c_X5_simulate l hM  e2) gX5_violated_X5_simulate rfl (by decide) ⟨rfl, rfl⟩ ⟨Nat.le_of_ble_eq_true rfl, Nat.le_of_ble_eq_true rfl⟩ rfl ly_c0 (Nat.le_of_ble_eq_true rfl) rfl rfl (rest := []) rfl (Nat.le_of_ble_eq_true rfl) dX5_violated_1 ?_
  refine g_iconst C dX5_violated_4 ?_
  refine g_istore_n C dX5_violated_5 (by decide) (vs' := [(1, .int (Int32.ofInt 0)), (0, .ref (ad 0))]) rfl ?_
  refine g_sub [1, 0] rfl ?_
  refine w_X5_violated_L6 C hR ?_ _ _ _ (by decide) h
  · intro σ10 h
    refine g_iconst C dX5_violated_40 ?_
    obtain ⟨rfl, rfl⟩ := z_s2 h
    exact hR _ _ dX5_violated_41 (by show inR _; decide)
theorem in_X5_save_X5 : ∀ w ∈ u_ws RX5 TX5 9, w ∈ wsX5_save := fun _ h => List.mem_cons_of_mem _ (List.mem_append_left _ (List.mem_append_right _ h))
theorem in_X5_save_X0 : ∀ w ∈ u_ws RX0 TX0 12, w ∈ wsX5_save := fun _ h => List.mem_cons_of_mem _ (List.mem_append_right _ h)
set_option maxHeartbeats 4000000 in
set_option maxRecDepth 100000 in
theorem c_X5_save (l : Launch) {σ : MM} (hM : okM σ) {ro : Int} {σo : MM} (h : X5_save σ = some (ro, σo)) : CtI l yX5_save wsX5_save { frames := 2, cells := 0, slots := 0, locals := 45 } (fun ad : Nat → Nat => [.ref (ad 0)]) σ 0 ro σo := by
  unfold X5_save at h
  refine z_ctI (cc := cX5_save) (maxL := 1) (rt := 0) hM (by decide) rfl (fun _ => Nat.le_of_ble_eq_true rfl) (@fun p e s m args below meth c D cy ad A Q C hR => ?_)
  refine g_sub (vs' := [(0, .ref (ad 0))]) [0] rfl ?_
  refine g_aload_n C dX5_save_0 0 rfl ?_
  refine gf_X5_1 C in_X5_save_X5 (List.mem_of_getElem? (i := 1) rfl) dX5_save_1 ?_
  refine g_aload_n C dX5_save_4 0 rfl ?_
  refine gf_X5_0 C in_X5_save_X5 (List.mem_of_getElem? (i := 2) rfl) dX5_save_5 ?_
  obtain ⟨σ3, e2, h⟩ := z_b h
  refine g_callV (n := 1) C (fun hM => c_X0_copyFrom l hM isL12 isL1 e2) gX5_save_X0_copyFrom rfl (by decide) ⟨rfl, rfl⟩ ⟨Nat.le_of_ble_eq_true rfl, Nat.le_of_ble_eq_true rfl⟩ rfl ly_c12 (Nat.le_of_ble_eq_true rfl) rfl rfl (rest := []) rfl (Nat.le_of_ble_eq_true rfl) dX5_save_8 ?_
  refine g_aload_n C dX5_save_11 0 rfl ?_
  refine g_iconst C dX5_save_12 ?_
  refine gp_X5_7 C in_X5_save_X5 (List.mem_of_getElem? (i := 3) rfl) (by decide) dX5_save_13 ?_
  obtain ⟨σ4, e5, h⟩ := z_l h
  refine g_mem e5 ?_
  refine g_aload_n C dX5_save_16 0 rfl ?_
  refine gf_X5_0 C in_X5_save_X5 (List.mem_of_getElem? (i := 2) rfl) dX5_save_17 ?_
  refine gfn_X0_5 C in_X5_save_X0 isL1 (List.mem_of_getElem? (i := 3) rfl) dX5_save_20 (fun r6 => ?_)
  obtain ⟨rfl, rfl⟩ := z_s2 h
  exact hR _ _ dX5_save_23 r6
theorem in_X5_restore_X5 : ∀ w ∈ u_ws RX5 TX5 9, w ∈ wsX5_restore := fun _ h => List.mem_cons_of_mem _ (List.mem_append_left _ (List.mem_append_left _ (List.mem_append_right _ h)))
theorem in_X5_restore_X0 : ∀ w ∈ u_ws RX0 TX0 12, w ∈ wsX5_restore := fun _ h => List.mem_cons_of_mem _ (List.mem_append_left _ (List.mem_append_right _ h))
set_option maxHeartbeats 4000000 in
set_option maxRecDepth 100000 in
theorem c_X5_restore (l : Launch) (hl0 : l.stackTraces = false) {σ : MM} (hM : okM σ) {xo ro : Int} {σo : MM} (h : X5_restore σ = some (xo, ro, σo)) : CtX l yX5_restore wsX5_restore { frames := 6, cells := 1, slots := 6, locals := 82 } (fun ad : Nat → Nat => [.ref (ad 0)]) σ 0 xo ro σo := by
  unfold X5_restore at h
  refine z_ctX (cc := cX5_restore) (maxL := 1) (rt := 0) hl0 hM (by decide) rfl (fun _ => Nat.le_of_ble_eq_true rfl) rfl (Nat.le_of_ble_eq_true rfl) (Nat.le_of_ble_eq_true rfl) (@fun p e s m args below meth c D cy ad A Q C hX hR hT hTW => ?_)
  refine g_sub (vs' := [(0, .ref (ad 0))]) [0] rfl ?_
  refine g_aload_n C dX5_restore_0 0 rfl ?_
  refine gf_X5_7 C in_X5_restore_X5 (List.mem_of_getElem? (i := 3) rfl) dX5_restore_1 (fun r1 => ?_)
  refine g_if_ne C 18 dX5_restore_4 (by decide) r1 (fun c2 => ?_) (fun c2 => ?_)
  · have h := z_f c2 h
    refine g_aload_n C dX5_restore_18 0 rfl ?_
    refine gf_X5_0 C in_X5_restore_X5 (List.mem_of_getElem? (i := 4) rfl) dX5_restore_19 ?_
    refine g_aload_n C dX5_restore_22 0 rfl ?_
    refine gf_X5_1 C in_X5_restore_X5 (List.mem_of_getElem? (i := 5) rfl) dX5_restore_23 ?_
    obtain ⟨σ5, e4, h⟩ := z_b h
    refine g_callV (n := 1) C (fun hM => c_X0_copyFrom l hM isL1 isL12 e4) gX5_restore_X0_copyFrom rfl (by decide) ⟨rfl, rfl⟩ ⟨Nat.le_of_ble_eq_true rfl, Nat.le_of_ble_eq_true rfl⟩ rfl ly_c1 (Nat.le_of_ble_eq_true rfl) rfl rfl (rest := []) rfl (Nat.le_of_ble_eq_true rfl) dX5_restore_26 ?_
    refine g_aload_n C dX5_restore_29 0 rfl ?_
    refine gf_X5_0 C in_X5_restore_X5 (List.mem_of_getElem? (i := 4) rfl) dX5_restore_30 ?_
    refine gfn_X0_5 C in_X5_restore_X0 isL1 (List.mem_of_getElem? (i := 3) rfl) dX5_restore_33 (fun r6 => ?_)
    obtain ⟨rfl, rfl, rfl⟩ := z_s3 h
    exact hR _ _ dX5_restore_36 rfl r6
  · have h := z_t c2 h
    obtain ⟨rfl, rfl, rfl⟩ := z_s3 h
    exact hTW _ _ 72 292 76 _ "there is no snapshot" (by decide) rfl (by decide) (List.mem_of_getElem? (i := 1) rfl) (List.mem_of_getElem? (i := 2) rfl) (List.mem_of_getElem? (i := 20) rfl) (fun _ h => List.mem_cons_of_mem _ (List.mem_append_right _ h)) xb_2 xg_2 dX5_restore_7 dX5_restore_10 dX5_restore_11 dX5_restore_14 dX5_restore_17
theorem in_X5_count_X5 : ∀ w ∈ u_ws RX5 TX5 9, w ∈ wsX5_count := fun _ h => List.mem_cons_of_mem _ (List.mem_append_left _ (List.mem_append_left _ (List.mem_append_left _ (List.mem_append_right _ h))))
theorem in_X5_count_X0 : ∀ w ∈ u_ws RX0 TX0 12, w ∈ wsX5_count := fun _ h => List.mem_cons_of_mem _ (List.mem_append_left _ (List.mem_append_left _ (List.mem_append_right _ h)))
theorem in_X5_count_X4 : ∀ w ∈ u_ws RX4 TX4 3, w ∈ wsX5_count := fun _ h => List.mem_cons_of_mem _ (List.mem_append_left _ (List.mem_append_right _ h))
set_option maxHeartbeats 4000000 in
set_option maxRecDepth 100000 in
theorem w_X5_count_J25 {p : Program} {l : Launch} {e : Env} {s : State} {m : MethodId} {args : Array Value} {below : List Frame} {meth : Method} {c : Code} {D : va_G} {cy : Nat → ClassId} {ad : Nat → Nat} {A : Nat → Prop} {Q : State → Prop} (C : Cx p s m args meth c cX5_count RX5 2 wsX5_count D cy A) {xo : Int} {ro : Int} {σo : MM} (hR : RetX p l e { frames := 6, cells := 1, slots := 6, locals := 82 } s m args below meth c cX5_count 2 D cy ad A Q 0 xo ro σo) (hT : ThrX p l e { frames := 6, cells := 1, slots := 6, locals := 82 } s m args below meth c cX5_count "DoacrossScheduler" 2 wsX5_count D cy ad A Q xo σo) (hTW : ThrW p l e { frames := 6, cells := 1, slots := 6, locals := 82 } s m args below meth c cX5_count "DoacrossScheduler" 2 wsX5_count D cy ad A Q xo σo)  : ∀ (x1 : Int) (σ : MM) , inR x1 → X5_count_J25 x1 σ = some (xo, ro, σo) → G p l e { frames := 6, cells := 1, slots := 6, locals := 82 } s m args below meth c 2 D cy ad A Q 25 [(0, .ref (ad 0)), (1, .int (Int32.ofInt x1))] [] σ := by
  intro x1 σ hx1 h
  unfold X5_count_J25 at h
  refine g_iload_n C dX5_count_25 1 rfl ?_
  by_cases c2 : x1 = 0
  · have h := z_t c2 h
    refine g_tsw C 60 0 dX5_count_26 hx1 c2 (by decide) (by decide) rfl (by decide) ?_
    refine g_aload_n C dX5_count_60 0 rfl ?_
    refine gf_X5_0 C in_X5_count_X5 (List.mem_of_getElem? (i := 3) rfl) dX5_count_61 ?_
    refine gfn_X0_0 C in_X5_count_X0 isL1 (List.mem_of_getElem? (i := 2) rfl) dX5_count_64 (fun r3 => ?_)
    obtain ⟨rfl, rfl, rfl⟩ := z_s3 h
    exact hR _ _ dX5_count_67 rfl r3
  have h := z_f c2 h
  by_cases c4 : x1 = 1
  · have h := z_t c4 h
    refine g_tsw C 68 1 dX5_count_26 hx1 c4 (by decide) (by decide) rfl (by decide) ?_
    refine g_aload_n C dX5_count_68 0 rfl ?_
    refine gf_X5_0 C in_X5_count_X5 (List.mem_of_getElem? (i := 3) rfl) dX5_count_69 ?_
    refine gfn_X0_5 C in_X5_count_X0 isL1 (List.mem_of_getElem? (i := 3) rfl) dX5_count_72 (fun r5 => ?_)
    obtain ⟨rfl, rfl, rfl⟩ := z_s3 h
    exact hR _ _ dX5_count_75 rfl r5
  have h := z_f c4 h
  by_cases c6 : x1 = 2
  · have h := z_t c6 h
    refine g_tsw C 76 2 dX5_count_26 hx1 c6 (by decide) (by decide) rfl (by decide) ?_
    refine g_aload_n C dX5_count_76 0 rfl ?_
    refine gf_X5_0 C in_X5_count_X5 (List.mem_of_getElem? (i := 3) rfl) dX5_count_77 ?_
    obtain ⟨r7, e8, h⟩ := z_b h
    refine g_callI (n := 0) C (fun hM => c_X0_signalledDependences l hM isL1 e8) gX5_count_X0_signalledDependences rfl (by decide) ⟨rfl, rfl⟩ ⟨Nat.le_of_ble_eq_true rfl, Nat.le_of_ble_eq_true rfl⟩ rfl ly_c1 (Nat.le_of_ble_eq_true rfl) rfl rfl (rest := []) rfl (Nat.le_of_ble_eq_true rfl) dX5_count_80 (fun q9 => ?_)
    have q9 : inR r7 := q9
    obtain ⟨rfl, rfl, rfl⟩ := z_s3 h
    exact hR _ _ dX5_count_83 rfl q9
  have h := z_f c6 h
  by_cases c10 : x1 = 3
  · have h := z_t c10 h
    refine g_tsw C 84 3 dX5_count_26 hx1 c10 (by decide) (by decide) rfl (by decide) ?_
    refine g_aload_n C dX5_count_84 0 rfl ?_
    refine gf_X5_3 C in_X5_count_X5 (List.mem_of_getElem? (i := 4) rfl) dX5_count_85 ?_
    refine gfn_X4_1 C in_X5_count_X4 (List.mem_of_getElem? (i := 17) rfl) dX5_count_88 (fun r11 => ?_)
    obtain ⟨rfl, rfl, rfl⟩ := z_s3 h
    exact hR _ _ dX5_count_91 rfl r11
  have h := z_f c10 h
  by_cases c12 : x1 = 4
  · have h := z_t c12 h
    refine g_tsw C 92 4 dX5_count_26 hx1 c12 (by decide) (by decide) rfl (by decide) ?_
    refine g_aload_n C dX5_count_92 0 rfl ?_
    refine gf_X5_0 C in_X5_count_X5 (List.mem_of_getElem? (i := 3) rfl) dX5_count_93 ?_
    obtain ⟨r13, e14, h⟩ := z_b h
    refine g_callI (n := 0) C (fun hM => c_X0_sumOfCosts l hM isL1 e14) gX5_count_X0_sumOfCosts rfl (by decide) ⟨rfl, rfl⟩ ⟨Nat.le_of_ble_eq_true rfl, Nat.le_of_ble_eq_true rfl⟩ rfl ly_c1 (Nat.le_of_ble_eq_true rfl) rfl rfl (rest := []) rfl (Nat.le_of_ble_eq_true rfl) dX5_count_96 (fun q15 => ?_)
    have q15 : inR r13 := q15
    obtain ⟨rfl, rfl, rfl⟩ := z_s3 h
    exact hR _ _ dX5_count_99 rfl q15
  have h := z_f c12 h
  refine g_tswD C 100 dX5_count_26 hx1 (by omega) (by decide) ?_
  obtain ⟨rfl, rfl, rfl⟩ := z_s3 h
  exact hTW _ _ 62 297 66 _ "there is no such count" (by decide) rfl (by decide) (List.mem_of_getElem? (i := 1) rfl) (List.mem_of_getElem? (i := 2) rfl) (List.mem_of_getElem? (i := 21) rfl) (fun _ h => List.mem_cons_of_mem _ (List.mem_append_right _ h)) xb_1 xg_1 dX5_count_100 dX5_count_103 dX5_count_104 dX5_count_107 dX5_count_110
set_option maxHeartbeats 4000000 in
set_option maxRecDepth 100000 in
theorem c_X5_count (l : Launch) (hl0 : l.stackTraces = false) {σ : MM} (hM : okM σ) {a1 : Int} (ha1 : inR a1) {xo ro : Int} {σo : MM} (h : X5_count a1 σ = some (xo, ro, σo)) : CtX l yX5_count wsX5_count { frames := 6, cells := 1, slots := 6, locals := 82 } (fun ad : Nat → Nat => [.ref (ad 0), .int (Int32.ofInt a1)]) σ 0 xo ro σo := by
  unfold X5_count at h
  refine z_ctX (cc := cX5_count) (maxL := 2) (rt := 0) hl0 hM (by decide) rfl (fun _ => Nat.le_of_ble_eq_true rfl) rfl (Nat.le_of_ble_eq_true rfl) (Nat.le_of_ble_eq_true rfl) (@fun p e s m args below meth c D cy ad A Q C hX hR hT hTW => ?_)
  refine g_sub (vs' := [(0, .ref (ad 0)), (1, .int (Int32.ofInt a1))]) [0, 1] rfl ?_
  refine g_iload_n C dX5_count_0 1 rfl ?_
  refine g_bipush C dX5_count_1 (by decide) ?_
  refine g_icmp_lt C 25 dX5_count_3 (by decide) ha1 (by decide) (fun c1 => ?_) (fun c1 => ?_)
  · have h := z_t c1 h
    refine g_sub [0, 1] rfl ?_
    refine w_X5_count_J25 C hR hT hTW  _ _ ha1 h
  · have h := z_f c1 h
    refine g_iload_n C dX5_count_6 1 rfl ?_
    refine g_bipush C dX5_count_7 (by decide) ?_
    refine g_icmp_ge C 25 dX5_count_9 (by decide) ha1 (by decide) (fun c16 => ?_) (fun c16 => ?_)
    · have h := z_f c16 h
      refine g_sub [0, 1] rfl ?_
      refine w_X5_count_J25 C hR hT hTW  _ _ ha1 h
    · have h := z_t c16 h
      refine g_aload_n C dX5_count_12 0 rfl ?_
      refine gf_X5_0 C in_X5_count_X5 (List.mem_of_getElem? (i := 3) rfl) dX5_count_13 ?_
      refine gfn_X0_11 C in_X5_count_X0 isL1 (List.mem_of_getElem? (i := 1) rfl) dX5_count_16 ?_
      refine g_iload_n C dX5_count_19 1 rfl ?_
      refine g_bipush C dX5_count_20 (by decide) ?_
      refine g_isub C dX5_count_22 ?_
      refine g_iald C ly_c11 (Nat.le_of_ble_eq_true rfl) (by decide) (by omega) dX5_count_23 (fun r17 => ?_)
      obtain ⟨rfl, rfl, rfl⟩ := z_s3 h
      exact hR _ _ dX5_count_24 rfl r17
