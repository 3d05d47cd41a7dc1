theorem in_X6_thrown_X6 : ∀ w ∈ u_ws RX6 TX6 20, w ∈ wsX6_thrown := fun _ h => List.mem_cons_of_mem _ (List.mem_append_right _ h)
set_option maxHeartbeats 4000000 in
set_option maxRecDepth 100000 in
theorem c_X6_thrown (l : Launch) {σ : MM} (hM : okM σ) {ro : Int} (h : X6_thrown σ = some ro) : CtI l yX6_thrown wsX6_thrown { frames := 0, cells := 0, slots := 0, locals := 0 } (fun ad : Nat → Nat => [.ref (ad 58)]) σ 0 ro σ := by
  unfold X6_thrown at h
  refine z_ctI (cc := cX6_thrown) (maxL := 1) (rt := 0) hM (by decide) rfl (fun _ => Nat.le_of_ble_eq_true rfl) (@fun p e s m args below meth c D cy ad A Q C hR => ?_)
  refine g_sub (vs' := [(0, .ref (ad 58))]) [0] rfl ?_
  refine g_aload_n C dX6_thrown_0 0 rfl ?_
  refine gf_X6_3 C in_X6_thrown_X6 (List.mem_of_getElem? (i := 1) rfl) dX6_thrown_1 (fun r1 => ?_)
  obtain rfl := z_s1 h
  exact hR _ _ dX6_thrown_4 r1
theorem in_X6_fails_X6 : ∀ w ∈ u_ws RX6 TX6 20, w ∈ wsX6_fails := fun _ h => List.mem_cons_of_mem _ (List.mem_append_right _ h)
set_option maxHeartbeats 4000000 in
set_option maxRecDepth 100000 in
theorem c_X6_fails (l : Launch) {σ : MM} (hM : okM σ) {a1 : Int} (ha1 : inR a1) {ro : Int} {σo : MM} (h : X6_fails a1 σ = some (ro, σo)) : CtI l yX6_fails wsX6_fails { frames := 0, cells := 0, slots := 0, locals := 0 } (fun ad : Nat → Nat => [.ref (ad 58), .int (Int32.ofInt a1)]) σ 0 ro σo := by
  unfold X6_fails at h
  refine z_ctI (cc := cX6_fails) (maxL := 2) (rt := 0) hM (by decide) rfl (fun _ => Nat.le_of_ble_eq_true rfl) (@fun p e s m args below meth c D cy ad A Q C hR => ?_)
  refine g_sub (vs' := [(0, .ref (ad 58)), (1, .int (Int32.ofInt a1))]) [0, 1] rfl ?_
  refine g_aload_n C dX6_fails_0 0 rfl ?_
  refine g_iload_n C dX6_fails_1 1 rfl ?_
  refine gp_X6_3 C in_X6_fails_X6 (List.mem_of_getElem? (i := 1) rfl) ha1 dX6_fails_2 ?_
  obtain ⟨σ1, e2, h⟩ := z_l h
  refine g_mem e2 ?_
  refine g_iconst C dX6_fails_5 ?_
  obtain ⟨rfl, rfl⟩ := z_s2 h
  exact hR _ _ dX6_fails_6 (by show inR _; decide)
set_option maxHeartbeats 4000000 in
set_option maxRecDepth 100000 in
theorem c_X6_in (l : Launch) {σ : MM} (hM : okM σ) {a1 : Int} (ha1 : inR a1) {a2 : Int} (ha2 : inR a2) {a3 : Int} (ha3 : inR a3) {ro : Int} (h : X6_in a1 a2 a3 σ = some ro) : CtI l yX6_in wsX6_in { frames := 0, cells := 0, slots := 0, locals := 0 } (fun ad : Nat → Nat => [.int (Int32.ofInt a1), .int (Int32.ofInt a2), .int (Int32.ofInt a3)]) σ 1 ro σ := by
  unfold X6_in at h
  refine z_ctI (cc := cX6_in) (maxL := 3) (rt := 1) hM (by decide) rfl (fun _ => Nat.le_of_ble_eq_true rfl) (@fun p e s m args below meth c D cy ad A Q C hR => ?_)
  refine g_sub (vs' := [(0, .int (Int32.ofInt a1)), (1, .int (Int32.ofInt a2)), (2, .int (Int32.ofInt a3))]) [0, 1, 2] rfl ?_
  refine g_iload_n C dX6_in_0 0 rfl ?_
  refine g_iload_n C dX6_in_1 1 rfl ?_
  refine g_icmp_lt C 14 dX6_in_2 (by decide) ha1 ha2 (fun c1 => ?_) (fun c1 => ?_)
  · have h := z_t c1 h
    refine g_iconst C dX6_in_14 ?_
    obtain rfl := z_s1 h
    exact hR _ _ dX6_in_15 (by show _ = _ ∨ _ = _; decide)
  · have h := z_f c1 h
    refine g_iload_n C dX6_in_5 0 rfl ?_
    refine g_iload_n C dX6_in_6 2 rfl ?_
    refine g_icmp_gt C 14 dX6_in_7 (by decide) ha1 ha3 (fun c2 => ?_) (fun c2 => ?_)
    · have h := z_t c2 h
      refine g_iconst C dX6_in_14 ?_
      obtain rfl := z_s1 h
      exact hR _ _ dX6_in_15 (by show _ = _ ∨ _ = _; decide)
    · have h := z_f c2 h
      refine g_iconst C dX6_in_10 ?_
      refine g_goto C 15 dX6_in_11 (by decide) ?_
      obtain rfl := z_s1 h
      exact hR _ _ dX6_in_15 (by show _ = _ ∨ _ = _; decide)
theorem in_X6_isStatement_X6 : ∀ w ∈ u_ws RX6 TX6 20, w ∈ wsX6_isStatement := fun _ h => List.mem_cons_of_mem _ (List.mem_append_right _ h)
set_option maxHeartbeats 4000000 in
set_option maxRecDepth 100000 in
theorem c_X6_isStatement (l : Launch) {σ : MM} (hM : okM σ) {a1 : Int} (ha1 : inR a1) {ro : Int} (h : X6_isStatement a1 σ = some ro) : CtI l yX6_isStatement wsX6_isStatement { frames := 1, cells := 0, slots := 0, locals := 22 } (fun ad : Nat → Nat => [.ref (ad 58), .int (Int32.ofInt a1)]) σ 1 ro σ := by
  unfold X6_isStatement at h
  refine z_ctI (cc := cX6_isStatement) (maxL := 2) (rt := 1) hM (by decide) rfl (fun _ => Nat.le_of_ble_eq_true rfl) (@fun p e s m args below meth c D cy ad A Q C hR => ?_)
  refine g_sub (vs' := [(0, .ref (ad 58)), (1, .int (Int32.ofInt a1))]) [0, 1] rfl ?_
  refine g_iload_n C dX6_isStatement_0 1 rfl ?_
  refine g_iconst C dX6_isStatement_1 ?_
  refine g_aload_n C dX6_isStatement_2 0 rfl ?_
  refine gf_X6_0 C in_X6_isStatement_X6 (List.mem_of_getElem? (i := 1) rfl) dX6_isStatement_3 ?_
  refine g_iconst C dX6_isStatement_6 ?_
  refine g_iald C ly_c59 (Nat.le_of_ble_eq_true rfl) (by decide) (by decide) dX6_isStatement_7 (fun r1 => ?_)
  refine g_iconst C dX6_isStatement_8 ?_
  refine g_isub C dX6_isStatement_9 ?_
  obtain ⟨g2, h⟩ := z_g h
  obtain ⟨r3, e4, h⟩ := z_b h
  refine g_callS (n := 3) C (fun hM => c_X6_in l hM ha1 (by decide) g2 e4) gX6_isStatement_X6_in rfl (by decide) ⟨rfl, rfl⟩ ⟨Nat.le_of_ble_eq_true rfl, Nat.le_of_ble_eq_true rfl⟩ rfl rfl (rest := []) rfl (Nat.le_of_ble_eq_true rfl) dX6_isStatement_10 (fun q5 => ?_)
  have q5 : r3 = 0 ∨ r3 = 1 := q5
  obtain rfl := z_s1 h
  exact hR _ _ dX6_isStatement_13 q5
theorem in_X6_isDependence_X6 : ∀ w ∈ u_ws RX6 TX6 20, w ∈ wsX6_isDependence := fun _ h => List.mem_cons_of_mem _ (List.mem_append_right _ h)
set_option maxHeartbeats 4000000 in
set_option maxRecDepth 100000 in
theorem c_X6_isDependence (l : Launch) {σ : MM} (hM : okM σ) {a1 : Int} (ha1 : inR a1) {ro : Int} (h : X6_isDependence a1 σ = some ro) : CtI l yX6_isDependence wsX6_isDependence { frames := 1, cells := 0, slots := 0, locals := 22 } (fun ad : Nat → Nat => [.ref (ad 58), .int (Int32.ofInt a1)]) σ 1 ro σ := by
  unfold X6_isDependence at h
  refine z_ctI (cc := cX6_isDependence) (maxL := 2) (rt := 1) hM (by decide) rfl (fun _ => Nat.le_of_ble_eq_true rfl) (@fun p e s m args below meth c D cy ad A Q C hR => ?_)
  refine g_sub (vs' := [(0, .ref (ad 58)), (1, .int (Int32.ofInt a1))]) [0, 1] rfl ?_
  refine g_iload_n C dX6_isDependence_0 1 rfl ?_
  refine g_iconst C dX6_isDependence_1 ?_
  refine g_aload_n C dX6_isDependence_2 0 rfl ?_
  refine gf_X6_0 C in_X6_isDependence_X6 (List.mem_of_getElem? (i := 1) rfl) dX6_isDependence_3 ?_
  refine g_iconst C dX6_isDependence_6 ?_
  refine g_iald C ly_c59 (Nat.le_of_ble_eq_true rfl) (by decide) (by decide) dX6_isDependence_7 (fun r1 => ?_)
  refine g_iconst C dX6_isDependence_8 ?_
  refine g_isub C dX6_isDependence_9 ?_
  obtain ⟨g2, h⟩ := z_g h
  obtain ⟨r3, e4, h⟩ := z_b h
  refine g_callS (n := 3) C (fun hM => c_X6_in l hM ha1 (by decide) g2 e4) gX6_isDependence_X6_in rfl (by decide) ⟨rfl, rfl⟩ ⟨Nat.le_of_ble_eq_true rfl, Nat.le_of_ble_eq_true rfl⟩ rfl rfl (rest := []) rfl (Nat.le_of_ble_eq_true rfl) dX6_isDependence_10 (fun q5 => ?_)
  have q5 : r3 = 0 ∨ r3 = 1 := q5
  obtain rfl := z_s1 h
  exact hR _ _ dX6_isDependence_13 q5
set_option maxHeartbeats 4000000 in
set_option maxRecDepth 100000 in
theorem c_X6_at (l : Launch) {σ : MM} (hM : okM σ) {a1 : Int} (ha1 : inR a1) {a2 : Int} (ha2 : inR a2) {ro : Int} (h : X6_at a1 a2 σ = some ro) : CtI l yX6_at wsX6_at { frames := 0, cells := 0, slots := 0, locals := 0 } (fun ad : Nat → Nat => [.int (Int32.ofInt a1), .int (Int32.ofInt a2)]) σ 0 ro σ := by
  unfold X6_at at h
  refine z_ctI (cc := cX6_at) (maxL := 2) (rt := 0) hM (by decide) rfl (fun _ => Nat.le_of_ble_eq_true rfl) (@fun p e s m args below meth c D cy ad A Q C hR => ?_)
  refine g_sub (vs' := [(0, .int (Int32.ofInt a1)), (1, .int (Int32.ofInt a2))]) [0, 1] rfl ?_
  refine g_bipush C dX6_at_0 (by decide) ?_
  refine g_iconst C dX6_at_2 ?_
  refine g_iload_n C dX6_at_3 0 rfl ?_
  refine g_imul C dX6_at_4 ?_
  refine g_iadd C dX6_at_5 ?_
  refine g_iload_n C dX6_at_6 1 rfl ?_
  refine g_iadd C dX6_at_7 ?_
  obtain ⟨g1, h⟩ := z_g h
  obtain rfl := z_s1 h
  exact hR _ _ dX6_at_8 g1
theorem in_X6_source_X6 : ∀ w ∈ u_ws RX6 TX6 20, w ∈ wsX6_source := fun _ h => List.mem_cons_of_mem _ (List.mem_append_right _ h)
set_option maxHeartbeats 4000000 in
set_option maxRecDepth 100000 in
theorem c_X6_source (l : Launch) {σ : MM} (hM : okM σ) {a1 : Int} (ha1 : inR a1) {ro : Int} (h : X6_source a1 σ = some ro) : CtI l yX6_source wsX6_source { frames := 1, cells := 0, slots := 0, locals := 21 } (fun ad : Nat → Nat => [.ref (ad 58), .int (Int32.ofInt a1)]) σ 0 ro σ := by
  unfold X6_source at h
  refine z_ctI (cc := cX6_source) (maxL := 2) (rt := 0) hM (by decide) rfl (fun _ => Nat.le_of_ble_eq_true rfl) (@fun p e s m args below meth c D cy ad A Q C hR => ?_)
  refine g_sub (vs' := [(0, .ref (ad 58)), (1, .int (Int32.ofInt a1))]) [0, 1] rfl ?_
  refine g_aload_n C dX6_source_0 0 rfl ?_
  refine gf_X6_0 C in_X6_source_X6 (List.mem_of_getElem? (i := 1) rfl) dX6_source_1 ?_
  refine g_iload_n C dX6_source_4 1 rfl ?_
  refine g_iconst C dX6_source_5 ?_
  obtain ⟨r1, e2, h⟩ := z_b h
  refine g_callS (n := 2) C (fun hM => c_X6_at l hM ha1 (by decide) e2) gX6_source_X6_at rfl (by decide) ⟨rfl, rfl⟩ ⟨Nat.le_of_ble_eq_true rfl, Nat.le_of_ble_eq_true rfl⟩ rfl rfl (rest := [.ref (ad 59)]) rfl (Nat.le_of_ble_eq_true rfl) dX6_source_6 (fun q3 => ?_)
  have q3 : inR r1 := q3
  obtain ⟨g4, h⟩ := z_g h
  refine g_iald C ly_c59 (Nat.le_of_ble_eq_true rfl) (by decide) g4 dX6_source_9 (fun r5 => ?_)
  obtain rfl := z_s1 h
  exact hR _ _ dX6_source_10 r5
theorem in_X6_target_X6 : ∀ w ∈ u_ws RX6 TX6 20, w ∈ wsX6_target := fun _ h => List.mem_cons_of_mem _ (List.mem_append_right _ h)
set_option maxHeartbeats 4000000 in
set_option maxRecDepth 100000 in
theorem c_X6_target (l : Launch) {σ : MM} (hM : okM σ) {a1 : Int} (ha1 : inR a1) {ro : Int} (h : X6_target a1 σ = some ro) : CtI l yX6_target wsX6_target { frames := 1, cells := 0, slots := 0, locals := 21 } (fun ad : Nat → Nat => [.ref (ad 58), .int (Int32.ofInt a1)]) σ 0 ro σ := by
  unfold X6_target at h
  refine z_ctI (cc := cX6_target) (maxL := 2) (rt := 0) hM (by decide) rfl (fun _ => Nat.le_of_ble_eq_true rfl) (@fun p e s m args below meth c D cy ad A Q C hR => ?_)
  refine g_sub (vs' := [(0, .ref (ad 58)), (1, .int (Int32.ofInt a1))]) [0, 1] rfl ?_
  refine g_aload_n C dX6_target_0 0 rfl ?_
  refine gf_X6_0 C in_X6_target_X6 (List.mem_of_getElem? (i := 1) rfl) dX6_target_1 ?_
  refine g_iload_n C dX6_target_4 1 rfl ?_
  refine g_iconst C dX6_target_5 ?_
  obtain ⟨r1, e2, h⟩ := z_b h
  refine g_callS (n := 2) C (fun hM => c_X6_at l hM ha1 (by decide) e2) gX6_target_X6_at rfl (by decide) ⟨rfl, rfl⟩ ⟨Nat.le_of_ble_eq_true rfl, Nat.le_of_ble_eq_true rfl⟩ rfl rfl (rest := [.ref (ad 59)]) rfl (Nat.le_of_ble_eq_true rfl) dX6_target_6 (fun q3 => ?_)
  have q3 : inR r1 := q3
  obtain ⟨g4, h⟩ := z_g h
  refine g_iald C ly_c59 (Nat.le_of_ble_eq_true rfl) (by decide) g4 dX6_target_9 (fun r5 => ?_)
  obtain rfl := z_s1 h
  exact hR _ _ dX6_target_10 r5
theorem in_X6_far_X6 : ∀ w ∈ u_ws RX6 TX6 20, w ∈ wsX6_far := fun _ h => List.mem_cons_of_mem _ (List.mem_append_right _ h)
set_option maxHeartbeats 4000000 in
set_option maxRecDepth 100000 in
theorem c_X6_far (l : Launch) {σ : MM} (hM : okM σ) {a1 : Int} (ha1 : inR a1) {ro : Int} (h : X6_far a1 σ = some ro) : CtI l yX6_far wsX6_far { frames := 1, cells := 0, slots := 0, locals := 21 } (fun ad : Nat → Nat => [.ref (ad 58), .int (Int32.ofInt a1)]) σ 0 ro σ := by
  unfold X6_far at h
  refine z_ctI (cc := cX6_far) (maxL := 2) (rt := 0) hM (by decide) rfl (fun _ => Nat.le_of_ble_eq_true rfl) (@fun p e s m args below meth c D cy ad A Q C hR => ?_)
  refine g_sub (vs' := [(0, .ref (ad 58)), (1, .int (Int32.ofInt a1))]) [0, 1] rfl ?_
  refine g_aload_n C dX6_far_0 0 rfl ?_
  refine gf_X6_0 C in_X6_far_X6 (List.mem_of_getElem? (i := 1) rfl) dX6_far_1 ?_
  refine g_iload_n C dX6_far_4 1 rfl ?_
  refine g_iconst C dX6_far_5 ?_
  obtain ⟨r1, e2, h⟩ := z_b h
  refine g_callS (n := 2) C (fun hM => c_X6_at l hM ha1 (by decide) e2) gX6_far_X6_at rfl (by decide) ⟨rfl, rfl⟩ ⟨Nat.le_of_ble_eq_true rfl, Nat.le_of_ble_eq_true rfl⟩ rfl rfl (rest := [.ref (ad 59)]) rfl (Nat.le_of_ble_eq_true rfl) dX6_far_6 (fun q3 => ?_)
  have q3 : inR r1 := q3
  obtain ⟨g4, h⟩ := z_g h
  refine g_iald C ly_c59 (Nat.le_of_ble_eq_true rfl) (by decide) g4 dX6_far_9 (fun r5 => ?_)
  obtain rfl := z_s1 h
  exact hR _ _ dX6_far_10 r5
theorem in_X6_isSignal_X6 : ∀ w ∈ u_ws RX6 TX6 20, w ∈ wsX6_isSignal := fun _ h => List.mem_cons_of_mem _ (List.mem_append_right _ h)
set_option maxHeartbeats 4000000 in
set_option maxRecDepth 100000 in
theorem c_X6_isSignal (l : Launch) {σ : MM} (hM : okM σ) {a1 : Int} (ha1 : inR a1) {ro : Int} (h : X6_isSignal a1 σ = some ro) : CtI l yX6_isSignal wsX6_isSignal { frames := 2, cells := 0, slots := 0, locals := 42 } (fun ad : Nat → Nat => [.ref (ad 58), .int (Int32.ofInt a1)]) σ 1 ro σ := by
  unfold X6_isSignal at h
  refine z_ctI (cc := cX6_isSignal) (maxL := 2) (rt := 1) hM (by decide) rfl (fun _ => Nat.le_of_ble_eq_true rfl) (@fun p e s m args below meth c D cy ad A Q C hR => ?_)
  refine g_sub (vs' := [(0, .ref (ad 58)), (1, .int (Int32.ofInt a1))]) [0, 1] rfl ?_
  refine g_aload_n C dX6_isSignal_0 0 rfl ?_
  refine gf_X6_0 C in_X6_isSignal_X6 (List.mem_of_getElem? (i := 1) rfl) dX6_isSignal_1 ?_
  refine g_iload_n C dX6_isSignal_4 1 rfl ?_
  refine g_iconst C dX6_isSignal_5 ?_
  obtain ⟨r1, e2, h⟩ := z_b h
  refine g_callS (n := 2) C (fun hM => c_X6_at l hM ha1 (by decide) e2) gX6_isSignal_X6_at rfl (by decide) ⟨rfl, rfl⟩ ⟨Nat.le_of_ble_eq_true rfl, Nat.le_of_ble_eq_true rfl⟩ rfl rfl (rest := [.ref (ad 59)]) rfl (Nat.le_of_ble_eq_true rfl) dX6_isSignal_6 (fun q3 => ?_)
  have q3 : inR r1 := q3
  obtain ⟨g4, h⟩ := z_g h
  refine g_iald C ly_c59 (Nat.le_of_ble_eq_true rfl) (by decide) g4 dX6_isSignal_9 (fun r5 => ?_)
  refine g_iconst C dX6_isSignal_10 ?_
  refine g_icmp_ne C 26 dX6_isSignal_11 (by decide) r5 (by decide) (fun c6 => ?_) (fun c6 => ?_)
  · have h := z_f c6 h
    refine g_iconst C dX6_isSignal_26 ?_
    obtain rfl := z_s1 h
    exact hR _ _ dX6_isSignal_27 (by show _ = _ ∨ _ = _; decide)
  · have h := z_t c6 h
    refine g_aload_n C dX6_isSignal_14 0 rfl ?_
    refine g_iload_n C dX6_isSignal_15 1 rfl ?_
    obtain ⟨r7, e8, h⟩ := z_b h
    refine g_callI (n := 1) C (fun hM => c_X6_far l hM ha1 e8) gX6_isSignal_X6_far rfl (by decide) ⟨rfl, rfl⟩ ⟨Nat.le_of_ble_eq_true rfl, Nat.le_of_ble_eq_true rfl⟩ rfl ly_c58 (Nat.le_of_ble_eq_true rfl) rfl rfl (rest := []) rfl (Nat.le_of_ble_eq_true rfl) dX6_isSignal_16 (fun q9 => ?_)
    have q9 : inR r7 := q9
    refine g_if_le C 26 dX6_isSignal_19 (by decide) q9 (fun c10 => ?_) (fun c10 => ?_)
    · have h := z_f c10 h
      refine g_iconst C dX6_isSignal_26 ?_
      obtain rfl := z_s1 h
      exact hR _ _ dX6_isSignal_27 (by show _ = _ ∨ _ = _; decide)
    · have h := z_t c10 h
      refine g_iconst C dX6_isSignal_22 ?_
      refine g_goto C 27 dX6_isSignal_23 (by decide) ?_
      obtain rfl := z_s1 h
      exact hR _ _ dX6_isSignal_27 (by show _ = _ ∨ _ = _; decide)
theorem in_X6_cost_X6 : ∀ w ∈ u_ws RX6 TX6 20, w ∈ wsX6_cost := fun _ h => List.mem_cons_of_mem _ (List.mem_append_right _ h)
set_option maxHeartbeats 4000000 in
set_option maxRecDepth 100000 in
theorem c_X6_cost (l : Launch) {σ : MM} (hM : okM σ) {a1 : Int} (ha1 : inR a1) {ro : Int} (h : X6_cost a1 σ = some ro) : CtI l yX6_cost wsX6_cost { frames := 0, cells := 0, slots := 0, locals := 0 } (fun ad : Nat → Nat => [.ref (ad 58), .int (Int32.ofInt a1)]) σ 0 ro σ := by
  unfold X6_cost at h
  refine z_ctI (cc := cX6_cost) (maxL := 2) (rt := 0) hM (by decide) rfl (fun _ => Nat.le_of_ble_eq_true rfl) (@fun p e s m args below meth c D cy ad A Q C hR => ?_)
  refine g_sub (vs' := [(0, .ref (ad 58)), (1, .int (Int32.ofInt a1))]) [0, 1] rfl ?_
  refine g_aload_n C dX6_cost_0 0 rfl ?_
  refine gf_X6_0 C in_X6_cost_X6 (List.mem_of_getElem? (i := 1) rfl) dX6_cost_1 ?_
  refine g_bipush C dX6_cost_4 (by decide) ?_
  refine g_iload_n C dX6_cost_6 1 rfl ?_
  refine g_iadd C dX6_cost_7 ?_
  obtain ⟨g1, h⟩ := z_g h
  refine g_iald C ly_c59 (Nat.le_of_ble_eq_true rfl) (by decide) g1 dX6_cost_8 (fun r2 => ?_)
  obtain rfl := z_s1 h
  exact hR _ _ dX6_cost_9 r2
theorem in_X6_placeOf_X6 : ∀ w ∈ u_ws RX6 TX6 20, w ∈ wsX6_placeOf := fun _ h => List.mem_cons_of_mem _ (List.mem_append_right _ h)
set_option maxHeartbeats 4000000 in
set_option maxRecDepth 100000 in
theorem w_X6_placeOf_L2 {p : Program} {l : Launch} {e : Env} {s : State} {m : MethodId} {args : Array Value} {below : List Frame} {meth : Method} {c : Code} {D : va_G} {cy : Nat → ClassId} {ad : Nat → Nat} {A : Nat → Prop} {Q : State → Prop} (C : Cx p s m args meth c cX6_placeOf RX6 3 wsX6_placeOf D cy A) {σ : MM} {x1 : Int} (hx1 : inR x1) {k21 : Int → Option Int} {ro : Int} (hR : RetI p l e { frames := 0, cells := 0, slots := 0, locals := 0 } s m args below meth c cX6_placeOf 3 D cy ad A Q 0 ro σ) (hk21 : ∀ (z2 : Int), inR z2 → k21 z2 = some ro → G p l e { frames := 0, cells := 0, slots := 0, locals := 0 } s m args below meth c 3 D cy ad A Q 21 [(2, .int (Int32.ofInt z2))] [] σ) : ∀ (n : Nat) (x2 : Int) , inR x2 → X6_placeOf_L2 x1 σ k21 n x2 = some ro → G p l e { frames := 0, cells := 0, slots := 0, locals := 0 } s m args below meth c 3 D cy ad A Q 2 [(0, .ref (ad 58)), (1, .int (Int32.ofInt x1)), (2, .int (Int32.ofInt x2))] [] σ := by
  intro n
  induction n with
  | zero =>
    intro x2 hx2 h
    cases h
  | succ n ih =>
    intro x2 hx2 h
    rw [X6_placeOf_L2] at h
    refine g_aload_n C dX6_placeOf_2 0 rfl ?_
    refine gf_X6_0 C in_X6_placeOf_X6 (List.mem_of_getElem? (i := 1) rfl) dX6_placeOf_3 ?_
    refine g_bipush C dX6_placeOf_6 (by decide) ?_
    refine g_iload_n C dX6_placeOf_8 2 rfl ?_
    refine g_iadd C dX6_placeOf_9 ?_
    obtain ⟨g1, h⟩ := z_g h
    refine g_iald C ly_c59 (Nat.le_of_ble_eq_true rfl) (by decide) g1 dX6_placeOf_10 (fun r2 => ?_)
    refine g_iload_n C dX6_placeOf_11 1 rfl ?_
    refine g_icmp_eq C 21 dX6_placeOf_12 (by decide) r2 hx1 (fun c3 => ?_) (fun c3 => ?_)
    · have h := z_t c3 h
      refine g_sub [2] rfl ?_
      exact hk21 _ hx2 h
    · have h := z_f c3 h
      refine g_iinc C dX6_placeOf_15 (j := 2) rfl (by decide) (vs' := [(2, .int (Int32.ofInt (x2 + 1))), (0, .ref (ad 58)), (1, .int (Int32.ofInt x1))]) rfl ?_
      refine g_goto C 2 dX6_placeOf_18 (by decide) ?_
      refine g_sub [1, 2, 0] rfl ?_
      exact ih _ (by omega) h
set_option maxHeartbeats 4000000 in
set_option maxRecDepth 100000 in
theorem c_X6_placeOf (l : Launch) {σ : MM} (hM : okM σ) {a1 : Int} (ha1 : inR a1) {ro : Int} (h : X6_placeOf a1 σ = some ro) : CtI l yX6_placeOf wsX6_placeOf { frames := 0, cells := 0, slots := 0, locals := 0 } (fun ad : Nat → Nat => [.ref (ad 58), .int (Int32.ofInt a1)]) σ 0 ro σ := by
  unfold X6_placeOf at h
  refine z_ctI (cc := cX6_placeOf) (maxL := 3) (rt := 0) hM (by decide) rfl (fun _ => Nat.le_of_ble_eq_true rfl) (@fun p e s m args below meth c D cy ad A Q C hR => ?_)
  refine g_sub (vs' := [(0, .ref (ad 58)), (1, .int (Int32.ofInt a1))]) [0, 1] rfl ?_
  refine g_iconst C dX6_placeOf_0 ?_
  refine g_istore_n C dX6_placeOf_1 (by decide) (vs' := [(2, .int (Int32.ofInt 0)), (0, .ref (ad 58)), (1, .int (Int32.ofInt a1))]) rfl ?_
  refine g_sub [1, 2, 0] rfl ?_
  refine w_X6_placeOf_L2 C ha1 hR ?_ _ _ (by decide) h
  · intro z4 hz4 h
    refine g_iload_n C dX6_placeOf_21 0 rfl ?_
    obtain rfl := z_s1 h
    exact hR _ _ dX6_placeOf_22 hz4
theorem in_X6_offset_X6 : ∀ w ∈ u_ws RX6 TX6 20, w ∈ wsX6_offset := fun _ h => List.mem_cons_of_mem _ (List.mem_append_right _ h)
set_option maxHeartbeats 4000000 in
set_option maxRecDepth 100000 in
theorem w_X6_offset_L4 {p : Program} {l : Launch} {e : Env} {s : State} {m : MethodId} {args : Array Value} {below : List Frame} {meth : Method} {c : Code} {D : va_G} {cy : Nat → ClassId} {ad : Nat → Nat} {A : Nat → Prop} {Q : State → Prop} (C : Cx p s m args meth c cX6_offset RX6 4 wsX6_offset D cy A) {σ : MM} {x1 : Int} (hx1 : inR x1) {k39 : Int → Option Int} {ro : Int} (hR : RetI p l e { frames := 1, cells := 0, slots := 0, locals := 21 } s m args below meth c cX6_offset 4 D cy ad A Q 0 ro σ) (hk39 : ∀ (z2 : Int), inR z2 → k39 z2 = some ro → G p l e { frames := 1, cells := 0, slots := 0, locals := 21 } s m args below meth c 4 D cy ad A Q 39 [(2, .int (Int32.ofInt z2))] [] σ) : ∀ (n : Nat) (x2 x3 : Int) , inR x2 → inR x3 → X6_offset_L4 x1 σ k39 n x2 x3 = some ro → G p l e { frames := 1, cells := 0, slots := 0, locals := 21 } s m args below meth c 4 D cy ad A Q 4 [(0, .ref (ad 58)), (1, .int (Int32.ofInt x1)), (2, .int (Int32.ofInt x2)), (3, .int (Int32.ofInt x3))] [] σ := by
  intro n
  induction n with
  | zero =>
    intro x2 x3 hx2 hx3 h
    cases h
  | succ n ih =>
    intro x2 x3 hx2 hx3 h
    rw [X6_offset_L4] at h
    refine g_aload_n C dX6_offset_4 0 rfl ?_
    refine gf_X6_0 C in_X6_offset_X6 (List.mem_of_getElem? (i := 1) rfl) dX6_offset_5 ?_
    refine g_bipush C dX6_offset_8 (by decide) ?_
    refine g_iload_n C dX6_offset_10 3 rfl ?_
    refine g_iadd C dX6_offset_11 ?_
    obtain ⟨g1, h⟩ := z_g h
    refine g_iald C ly_c59 (Nat.le_of_ble_eq_true rfl) (by decide) g1 dX6_offset_12 (fun r2 => ?_)
    refine g_iload_n C dX6_offset_13 1 rfl ?_
    refine g_icmp_eq C 39 dX6_offset_14 (by decide) r2 hx1 (fun c3 => ?_) (fun c3 => ?_)
    · have h := z_t c3 h
      refine g_sub [2] rfl ?_
      exact hk39 _ hx2 h
    · have h := z_f c3 h
      refine g_iload_n C dX6_offset_17 2 rfl ?_
      refine g_aload_n C dX6_offset_18 0 rfl ?_
      refine g_aload_n C dX6_offset_19 0 rfl ?_
      refine gf_X6_0 C in_X6_offset_X6 (List.mem_of_getElem? (i := 1) rfl) dX6_offset_20 ?_
      refine g_bipush C dX6_offset_23 (by decide) ?_
      refine g_iload_n C dX6_offset_25 3 rfl ?_
      refine g_iadd C dX6_offset_26 ?_
      refine g_iald C ly_c59 (Nat.le_of_ble_eq_true rfl) (by decide) (by omega) dX6_offset_27 (fun r4 => ?_)
      obtain ⟨r5, e6, h⟩ := z_b h
      refine g_callI (n := 1) C (fun hM => c_X6_cost l hM r4 e6) gX6_offset_X6_cost rfl (by decide) ⟨rfl, rfl⟩ ⟨Nat.le_of_ble_eq_true rfl, Nat.le_of_ble_eq_true rfl⟩ rfl ly_c58 (Nat.le_of_ble_eq_true rfl) rfl rfl (rest := [.int (Int32.ofInt x2)]) rfl (Nat.le_of_ble_eq_true rfl) dX6_offset_28 (fun q7 => ?_)
      have q7 : inR r5 := q7
      refine g_iadd C dX6_offset_31 ?_
      refine g_istore_n C dX6_offset_32 (by decide) (vs' := [(2, .int (Int32.ofInt (x2 + r5))), (0, .ref (ad 58)), (1, .int (Int32.ofInt x1)), (3, .int (Int32.ofInt x3))]) rfl ?_
      refine g_iinc C dX6_offset_33 (j := 3) rfl (by decide) (vs' := [(3, .int (Int32.ofInt (x3 + 1))), (2, .int (Int32.ofInt (x2 + r5))), (0, .ref (ad 58)), (1, .int (Int32.ofInt x1))]) rfl ?_
      refine g_goto C 4 dX6_offset_36 (by decide) ?_
      obtain ⟨g8, h⟩ := z_g h
      refine g_sub [2, 3, 1, 0] rfl ?_
      exact ih _ _ g8 (by omega) h
set_option maxHeartbeats 4000000 in
set_option maxRecDepth 100000 in
theorem c_X6_offset (l : Launch) {σ : MM} (hM : okM σ) {a1 : Int} (ha1 : inR a1) {ro : Int} (h : X6_offset a1 σ = some ro) : CtI l yX6_offset wsX6_offset { frames := 1, cells := 0, slots := 0, locals := 21 } (fun ad : Nat → Nat => [.ref (ad 58), .int (Int32.ofInt a1)]) σ 0 ro σ := by
  unfold X6_offset at h
  refine z_ctI (cc := cX6_offset) (maxL := 4) (rt := 0) hM (by decide) rfl (fun _ => Nat.le_of_ble_eq_true rfl) (@fun p e s m args below meth c D cy ad A Q C hR => ?_)
  refine g_sub (vs' := [(0, .ref (ad 58)), (1, .int (Int32.ofInt a1))]) [0, 1] rfl ?_
  refine g_iconst C dX6_offset_0 ?_
  refine g_istore_n C dX6_offset_1 (by decide) (vs' := [(2, .int (Int32.ofInt 0)), (0, .ref (ad 58)), (1, .int (Int32.ofInt a1))]) rfl ?_
  refine g_iconst C dX6_offset_2 ?_
  refine g_istore_n C dX6_offset_3 (by decide) (vs' := [(3, .int (Int32.ofInt 0)), (2, .int (Int32.ofInt 0)), (0, .ref (ad 58)), (1, .int (Int32.ofInt a1))]) rfl ?_
  refine g_sub [2, 3, 1, 0] rfl ?_
  refine w_X6_offset_L4 C ha1 hR ?_ _ _ _ (by decide) (by decide) h
  · intro z9 hz9 h
    refine g_iload_n C dX6_offset_39 0 rfl ?_
    obtain rfl := z_s1 h
    exact hR _ _ dX6_offset_40 hz9
theorem in_X6_bare_X6 : ∀ w ∈ u_ws RX6 TX6 20, w ∈ wsX6_bare := fun _ h => List.mem_cons_of_mem _ (List.mem_append_right _ h)
set_option maxHeartbeats 4000000 in
set_option maxRecDepth 100000 in
theorem c_X6_bare (l : Launch) {σ : MM} (hM : okM σ) {a1 : Int} (ha1 : inR a1) {ro : Int} (h : X6_bare a1 σ = some ro) : CtI l yX6_bare wsX6_bare { frames := 2, cells := 0, slots := 0, locals := 42 } (fun ad : Nat → Nat => [.ref (ad 58), .int (Int32.ofInt a1)]) σ 0 ro σ := by
  unfold X6_bare at h
  refine z_ctI (cc := cX6_bare) (maxL := 3) (rt := 0) hM (by decide) rfl (fun _ => Nat.le_of_ble_eq_true rfl) (@fun p e s m args below meth c D cy ad A Q C hR => ?_)
  refine g_sub (vs' := [(0, .ref (ad 58)), (1, .int (Int32.ofInt a1))]) [0, 1] rfl ?_
  refine g_aload_n C dX6_bare_0 0 rfl ?_
  refine g_aload_n C dX6_bare_1 0 rfl ?_
  refine g_iload_n C dX6_bare_2 1 rfl ?_
  obtain ⟨r1, e2, h⟩ := z_b h
  refine g_callI (n := 1) C (fun hM => c_X6_source l hM ha1 e2) gX6_bare_X6_source rfl (by decide) ⟨rfl, rfl⟩ ⟨Nat.le_of_ble_eq_true rfl, Nat.le_of_ble_eq_true rfl⟩ rfl ly_c58 (Nat.le_of_ble_eq_true rfl) rfl rfl (rest := [.ref (ad 58)]) rfl (Nat.le_of_ble_eq_true rfl) dX6_bare_3 (fun q3 => ?_)
  have q3 : inR r1 := q3
  obtain ⟨r4, e5, h⟩ := z_b h
  refine g_callI (n := 1) C (fun hM => c_X6_cost l hM q3 e5) gX6_bare_X6_cost rfl (by decide) ⟨rfl, rfl⟩ ⟨Nat.le_of_ble_eq_true rfl, Nat.le_of_ble_eq_true rfl⟩ rfl ly_c58 (Nat.le_of_ble_eq_true rfl) rfl rfl (rest := []) rfl (Nat.le_of_ble_eq_true rfl) dX6_bare_6 (fun q6 => ?_)
  have q6 : inR r4 := q6
  refine g_aload_n C dX6_bare_9 0 rfl ?_
  refine g_aload_n C dX6_bare_10 0 rfl ?_
  refine g_iload_n C dX6_bare_11 1 rfl ?_
  obtain ⟨r7, e8, h⟩ := z_b h
  refine g_callI (n := 1) C (fun hM => c_X6_target l hM ha1 e8) gX6_bare_X6_target rfl (by decide) ⟨rfl, rfl⟩ ⟨Nat.le_of_ble_eq_true rfl, Nat.le_of_ble_eq_true rfl⟩ rfl ly_c58 (Nat.le_of_ble_eq_true rfl) rfl rfl (rest := [.ref (ad 58), .int (Int32.ofInt r4)]) rfl (Nat.le_of_ble_eq_true rfl) dX6_bare_12 (fun q9 => ?_)
  have q9 : inR r7 := q9
  obtain ⟨r10, e11, h⟩ := z_b h
  refine g_callI (n := 1) C (fun hM => c_X6_cost l hM q9 e11) gX6_bare_X6_cost rfl (by decide) ⟨rfl, rfl⟩ ⟨Nat.le_of_ble_eq_true rfl, Nat.le_of_ble_eq_true rfl⟩ rfl ly_c58 (Nat.le_of_ble_eq_true rfl) rfl rfl (rest := [.int (Int32.ofInt r4)]) rfl (Nat.le_of_ble_eq_true rfl) dX6_bare_15 (fun q12 => ?_)
  have q12 : inR r10 := q12
  refine g_isub C dX6_bare_18 ?_
  refine g_iconst C dX6_bare_19 ?_
  refine g_iadd C dX6_bare_20 ?_
  refine g_istore_n C dX6_bare_21 (by decide) (vs' := [(2, .int (Int32.ofInt ((r4 - r10) + 1))), (0, .ref (ad 58)), (1, .int (Int32.ofInt a1))]) rfl ?_
  refine g_aload_n C dX6_bare_22 1 rfl ?_
  refine gf_X6_0 C in_X6_bare_X6 (List.mem_of_getElem? (i := 1) rfl) dX6_bare_23 ?_
  refine g_iload_n C dX6_bare_26 2 rfl ?_
  refine g_iconst C dX6_bare_27 ?_
  obtain ⟨r13, e14, h⟩ := z_b h
  refine g_callS (n := 2) C (fun hM => c_X6_at l hM ha1 (by decide) e14) gX6_bare_X6_at rfl (by decide) ⟨rfl, rfl⟩ ⟨Nat.le_of_ble_eq_true rfl, Nat.le_of_ble_eq_true rfl⟩ rfl rfl (rest := [.ref (ad 59)]) rfl (Nat.le_of_ble_eq_true rfl) dX6_bare_28 (fun q15 => ?_)
  have q15 : inR r13 := q15
  obtain ⟨g16, h⟩ := z_g h
  refine g_iald C ly_c59 (Nat.le_of_ble_eq_true rfl) (by decide) g16 dX6_bare_31 (fun r17 => ?_)
  refine g_if_ne C 47 dX6_bare_32 (by decide) r17 (fun c18 => ?_) (fun c18 => ?_)
  · have h := z_f c18 h
    refine g_aload_n C dX6_bare_47 1 rfl ?_
    refine gf_X6_0 C in_X6_bare_X6 (List.mem_of_getElem? (i := 1) rfl) dX6_bare_48 ?_
    refine g_iload_n C dX6_bare_51 2 rfl ?_
    refine g_iconst C dX6_bare_52 ?_
    obtain ⟨r19, e20, h⟩ := z_b h
    refine g_callS (n := 2) C (fun hM => c_X6_at l hM ha1 (by decide) e20) gX6_bare_X6_at rfl (by decide) ⟨rfl, rfl⟩ ⟨Nat.le_of_ble_eq_true rfl, Nat.le_of_ble_eq_true rfl⟩ rfl rfl (rest := [.ref (ad 59)]) rfl (Nat.le_of_ble_eq_true rfl) dX6_bare_53 (fun q21 => ?_)
    have q21 : inR r19 := q21
    obtain ⟨g22, h⟩ := z_g h
    refine g_iald C ly_c59 (Nat.le_of_ble_eq_true rfl) (by decide) g22 dX6_bare_56 (fun r23 => ?_)
    refine g_iconst C dX6_bare_57 ?_
    refine g_icmp_eq C 66 dX6_bare_58 (by decide) r23 (by decide) (fun c24 => ?_) (fun c24 => ?_)
    · have h := z_t c24 h
      refine g_iconst C dX6_bare_66 ?_
      refine g_goto C 71 dX6_bare_67 (by decide) ?_
      obtain rfl := z_s1 h
      exact hR _ _ dX6_bare_71 (by show inR _; decide)
    · have h := z_f c24 h
      refine g_iload_n C dX6_bare_61 0 rfl ?_
      refine g_iconst C dX6_bare_62 ?_
      obtain ⟨g25, h⟩ := z_g h
      refine g_icmp_ge C 70 dX6_bare_63 (by decide) g25 (by decide) (fun c26 => ?_) (fun c26 => ?_)
      · have h := z_f c26 h
        refine g_iload_n C dX6_bare_70 0 rfl ?_
        obtain rfl := z_s1 h
        exact hR _ _ dX6_bare_71 g25
      · have h := z_t c26 h
        refine g_iconst C dX6_bare_66 ?_
        refine g_goto C 71 dX6_bare_67 (by decide) ?_
        obtain rfl := z_s1 h
        exact hR _ _ dX6_bare_71 (by show inR _; decide)
  · have h := z_t c18 h
    refine g_aload_n C dX6_bare_35 1 rfl ?_
    refine g_aload_n C dX6_bare_36 1 rfl ?_
    refine g_iload_n C dX6_bare_37 2 rfl ?_
    obtain ⟨r27, e28, h⟩ := z_b h
    refine g_callI (n := 1) C (fun hM => c_X6_source l hM ha1 e28) gX6_bare_X6_source rfl (by decide) ⟨rfl, rfl⟩ ⟨Nat.le_of_ble_eq_true rfl, Nat.le_of_ble_eq_true rfl⟩ rfl ly_c58 (Nat.le_of_ble_eq_true rfl) rfl rfl (rest := [.ref (ad 58)]) rfl (Nat.le_of_ble_eq_true rfl) dX6_bare_38 (fun q29 => ?_)
    have q29 : inR r27 := q29
    obtain ⟨r30, e31, h⟩ := z_b h
    refine g_callI (n := 1) C (fun hM => c_X6_cost l hM q29 e31) gX6_bare_X6_cost rfl (by decide) ⟨rfl, rfl⟩ ⟨Nat.le_of_ble_eq_true rfl, Nat.le_of_ble_eq_true rfl⟩ rfl ly_c58 (Nat.le_of_ble_eq_true rfl) rfl rfl (rest := []) rfl (Nat.le_of_ble_eq_true rfl) dX6_bare_41 (fun q32 => ?_)
    have q32 : inR r30 := q32
    refine g_goto C 71 dX6_bare_44 (by decide) ?_
    obtain rfl := z_s1 h
    exact hR _ _ dX6_bare_71 q32
theorem in_X6_lag_X6 : ∀ w ∈ u_ws RX6 TX6 20, w ∈ wsX6_lag := fun _ h => List.mem_cons_of_mem _ (List.mem_append_right _ h)
set_option maxHeartbeats 4000000 in
set_option maxRecDepth 100000 in
theorem c_X6_lag (l : Launch) {σ : MM} (hM : okM σ) {a1 : Int} (ha1 : inR a1) {ro : Int} (h : X6_lag a1 σ = some ro) : CtI l yX6_lag wsX6_lag { frames := 3, cells := 0, slots := 0, locals := 64 } (fun ad : Nat → Nat => [.ref (ad 58), .int (Int32.ofInt a1)]) σ 0 ro σ := by
  unfold X6_lag at h
  refine z_ctI (cc := cX6_lag) (maxL := 2) (rt := 0) hM (by decide) rfl (fun _ => Nat.le_of_ble_eq_true rfl) (@fun p e s m args below meth c D cy ad A Q C hR => ?_)
  refine g_sub (vs' := [(0, .ref (ad 58)), (1, .int (Int32.ofInt a1))]) [0, 1] rfl ?_
  refine g_aload_n C dX6_lag_0 0 rfl ?_
  refine g_iload_n C dX6_lag_1 1 rfl ?_
  obtain ⟨r1, e2, h⟩ := z_b h
  refine g_callI (n := 1) C (fun hM => c_X6_bare l hM ha1 e2) gX6_lag_X6_bare rfl (by decide) ⟨rfl, rfl⟩ ⟨Nat.le_of_ble_eq_true rfl, Nat.le_of_ble_eq_true rfl⟩ rfl ly_c58 (Nat.le_of_ble_eq_true rfl) rfl rfl (rest := []) rfl (Nat.le_of_ble_eq_true rfl) dX6_lag_2 (fun q3 => ?_)
  have q3 : inR r1 := q3
  refine g_aload_n C dX6_lag_5 0 rfl ?_
  refine gf_X6_0 C in_X6_lag_X6 (List.mem_of_getElem? (i := 1) rfl) dX6_lag_6 ?_
  refine g_iconst C dX6_lag_9 ?_
  refine g_iald C ly_c59 (Nat.le_of_ble_eq_true rfl) (by decide) (by decide) dX6_lag_10 (fun r4 => ?_)
  refine g_iadd C dX6_lag_11 ?_
  obtain ⟨g5, h⟩ := z_g h
  obtain rfl := z_s1 h
  exact hR _ _ dX6_lag_12 g5
set_option maxHeartbeats 4000000 in
set_option maxRecDepth 100000 in
theorem c_X6_byteOf (l : Launch) {σ : MM} (hM : okM σ) {a1 : Int} (ha1 : inR a1) {a2 : Int} (ha2 : inR a2) {ro : Int} (h : X6_byteOf a1 a2 σ = some ro) : CtI l yX6_byteOf wsX6_byteOf { frames := 0, cells := 0, slots := 0, locals := 0 } (fun ad : Nat → Nat => [.int (Int32.ofInt a1), .int (Int32.ofInt a2)]) σ 0 ro σ := by
  unfold X6_byteOf at h
  refine z_ctI (cc := cX6_byteOf) (maxL := 2) (rt := 0) hM (by decide) rfl (fun _ => Nat.le_of_ble_eq_true rfl) (@fun p e s m args below meth c D cy ad A Q C hR => ?_)
  refine g_sub (vs' := [(0, .int (Int32.ofInt a1)), (1, .int (Int32.ofInt a2))]) [0, 1] rfl ?_
  refine g_iload_n C dX6_byteOf_0 0 rfl ?_
  refine g_bipush C dX6_byteOf_1 (by decide) ?_
  refine g_bipush C dX6_byteOf_3 (by decide) ?_
  refine g_iload_n C dX6_byteOf_5 1 rfl ?_
  refine g_imul C dX6_byteOf_6 ?_
  refine g_isub C dX6_byteOf_7 ?_
  refine g_iushr C dX6_byteOf_8 ?_
  refine g_sipush C dX6_byteOf_9 (by decide) ?_
  refine g_iand C dX6_byteOf_12 ?_
  obtain rfl := z_s1 h
  exact hR _ _ dX6_byteOf_13 (jand_R _ _)
theorem in_X6_append_X6 : ∀ w ∈ u_ws RX6 TX6 20, w ∈ wsX6_append := fun _ h => List.mem_cons_of_mem _ (List.mem_append_right _ h)
set_option maxHeartbeats 4000000 in
set_option maxRecDepth 100000 in
theorem w_X6_append_J43 {p : Program} {l : Launch} {e : Env} {s : State} {m : MethodId} {args : Array Value} {below : List Frame} {meth : Method} {c : Code} {D : va_G} {cy : Nat → ClassId} {ad : Nat → Nat} {A : Nat → Prop} {Q : State → Prop} (C : Cx p s m args meth c cX6_append RX6 4 wsX6_append D cy A) {x1 : Int} (hx1 : inR x1) {k9 : Int → Int → MM → Option (Int × MM)} {ro : Int} {σo : MM} (hR : RetI p l e { frames := 1, cells := 0, slots := 0, locals := 22 } s m args below meth c cX6_append 4 D cy ad A Q 0 ro σo) (hk9 : ∀ (z2 z3 : Int) (σ : MM), inR z2 → inR z3 → k9 z2 z3 σ = some (ro, σo) → G p l e { frames := 1, cells := 0, slots := 0, locals := 22 } s m args below meth c 4 D cy ad A Q 9 [(0, .ref (ad 58)), (1, .int (Int32.ofInt x1)), (2, .int (Int32.ofInt z2)), (3, .int (Int32.ofInt z3))] [] σ) : ∀ (x2 x3 : Int) (σ : MM) , inR x2 → inR x3 → X6_append_J43 x1 k9 x2 x3 σ = some (ro, σo) → G p l e { frames := 1, cells := 0, slots := 0, locals := 22 } s m args below meth c 4 D cy ad A Q 43 [(0, .ref (ad 58)), (1, .int (Int32.ofInt x1)), (2, .int (Int32.ofInt x2)), (3, .int (Int32.ofInt x3))] [] σ := by
  intro x2 x3 σ hx2 hx3 h
  unfold X6_append_J43 at h
  refine g_iload_n C dX6_append_43 2 rfl ?_
  refine g_iload_n C dX6_append_44 1 rfl ?_
  refine g_iload_n C dX6_append_45 3 rfl ?_
  obtain ⟨r8, e9, h⟩ := z_b h
  refine g_callS (n := 2) C (fun hM => c_X6_byteOf l hM hx1 hx3 e9) gX6_append_X6_byteOf rfl (by decide) ⟨rfl, rfl⟩ ⟨Nat.le_of_ble_eq_true rfl, Nat.le_of_ble_eq_true rfl⟩ rfl rfl (rest := [.int (Int32.ofInt x2)]) rfl (Nat.le_of_ble_eq_true rfl) dX6_append_46 (fun q10 => ?_)
  have q10 : inR r8 := q10
  refine g_if_ne C 56 dX6_append_49 (by decide) q10 (fun c11 => ?_) (fun c11 => ?_)
  · have h := z_f c11 h
    refine g_iconst C dX6_append_56 ?_
    refine g_iadd C dX6_append_57 ?_
    refine g_istore_n C dX6_append_58 (by decide) (vs' := [(2, .int (Int32.ofInt (x2 + 1))), (0, .ref (ad 58)), (1, .int (Int32.ofInt x1)), (3, .int (Int32.ofInt x3))]) rfl ?_
    refine g_iinc C dX6_append_59 (j := 3) rfl (by decide) (vs' := [(3, .int (Int32.ofInt (x3 + 1))), (2, .int (Int32.ofInt (x2 + 1))), (0, .ref (ad 58)), (1, .int (Int32.ofInt x1))]) rfl ?_
    refine g_goto C 9 dX6_append_62 (by decide) ?_
    obtain ⟨g12, h⟩ := z_g h
    obtain ⟨g13, h⟩ := z_g h
    refine g_sub [2, 3, 1, 0] rfl ?_
    exact hk9 _ _ _ g12 g13 h
  · have h := z_t c11 h
    refine g_iconst C dX6_append_52 ?_
    refine g_goto C 57 dX6_append_53 (by decide) ?_
    refine g_iadd C dX6_append_57 ?_
    refine g_istore_n C dX6_append_58 (by decide) (vs' := [(2, .int (Int32.ofInt (x2 + 0))), (0, .ref (ad 58)), (1, .int (Int32.ofInt x1)), (3, .int (Int32.ofInt x3))]) rfl ?_
    refine g_iinc C dX6_append_59 (j := 3) rfl (by decide) (vs' := [(3, .int (Int32.ofInt (x3 + 1))), (2, .int (Int32.ofInt (x2 + 0))), (0, .ref (ad 58)), (1, .int (Int32.ofInt x1))]) rfl ?_
    refine g_goto C 9 dX6_append_62 (by decide) ?_
    obtain ⟨g14, h⟩ := z_g h
    refine g_sub [2, 3, 1, 0] rfl ?_
    exact hk9 _ _ _ (by omega) g14 h
set_option maxHeartbeats 4000000 in
set_option maxRecDepth 100000 in
theorem w_X6_append_L9 {p : Program} {l : Launch} {e : Env} {s : State} {m : MethodId} {args : Array Value} {below : List Frame} {meth : Method} {c : Code} {D : va_G} {cy : Nat → ClassId} {ad : Nat → Nat} {A : Nat → Prop} {Q : State → Prop} (C : Cx p s m args meth c cX6_append RX6 4 wsX6_append D cy A) {x1 : Int} (hx1 : inR x1) {k65 : Int → MM → Option (Int × MM)} {ro : Int} {σo : MM} (hR : RetI p l e { frames := 1, cells := 0, slots := 0, locals := 22 } s m args below meth c cX6_append 4 D cy ad A Q 0 ro σo) (hk65 : ∀ (z2 : Int) (σ : MM), inR z2 → k65 z2 σ = some (ro, σo) → G p l e { frames := 1, cells := 0, slots := 0, locals := 22 } s m args below meth c 4 D cy ad A Q 65 [(0, .ref (ad 58)), (1, .int (Int32.ofInt x1)), (2, .int (Int32.ofInt z2))] [] σ) : ∀ (n : Nat) (x2 x3 : Int) (σ : MM) , inR x2 → inR x3 → X6_append_L9 x1 k65 n x2 x3 σ = some (ro, σo) → G p l e { frames := 1, cells := 0, slots := 0, locals := 22 } s m args below meth c 4 D cy ad A Q 9 [(0, .ref (ad 58)), (1, .int (Int32.ofInt x1)), (2, .int (Int32.ofInt x2)), (3, .int (Int32.ofInt x3))] [] σ := by
  intro n
  induction n with
  | zero =>
    intro x2 x3 σ hx2 hx3 h
    cases h
  | succ n ih =>
    intro x2 x3 σ hx2 hx3 h
    rw [X6_append_L9] at h
    refine g_iload_n C dX6_append_9 3 rfl ?_
    refine g_iconst C dX6_append_10 ?_
    refine g_icmp_ge C 65 dX6_append_11 (by decide) hx3 (by decide) (fun c3 => ?_) (fun c3 => ?_)
    · have h := z_f c3 h
      refine g_sub [0, 1, 2] rfl ?_
      exact hk65 _ _ hx2 h
    · have h := z_t c3 h
      refine g_iload_n C dX6_append_14 1 rfl ?_
      refine g_iload_n C dX6_append_15 3 rfl ?_
      obtain ⟨r4, e5, h⟩ := z_b h
      refine g_callS (n := 2) C (fun hM => c_X6_byteOf l hM hx1 hx3 e5) gX6_append_X6_byteOf rfl (by decide) ⟨rfl, rfl⟩ ⟨Nat.le_of_ble_eq_true rfl, Nat.le_of_ble_eq_true rfl⟩ rfl rfl (rest := []) rfl (Nat.le_of_ble_eq_true rfl) dX6_append_16 (fun q6 => ?_)
      have q6 : inR r4 := q6
      refine g_if_eq C 43 dX6_append_19 (by decide) q6 (fun c7 => ?_) (fun c7 => ?_)
      · have h := z_t c7 h
        refine g_sub [0, 1, 2, 3] rfl ?_
        refine w_X6_append_J43 C hx1 hR ih _ _ _ hx2 hx3 h
      · have h := z_f c7 h
        refine g_iload_n C dX6_append_22 1 rfl ?_
        refine g_iload_n C dX6_append_23 3 rfl ?_
        obtain ⟨r15, e16, h⟩ := z_b h
        refine g_callS (n := 2) C (fun hM => c_X6_byteOf l hM hx1 hx3 e16) gX6_append_X6_byteOf rfl (by decide) ⟨rfl, rfl⟩ ⟨Nat.le_of_ble_eq_true rfl, Nat.le_of_ble_eq_true rfl⟩ rfl rfl (rest := []) rfl (Nat.le_of_ble_eq_true rfl) dX6_append_24 (fun q17 => ?_)
        have q17 : inR r15 := q17
        refine g_bipush C dX6_append_27 (by decide) ?_
        refine g_bipush C dX6_append_29 (by decide) ?_
        obtain ⟨r18, e19, h⟩ := z_b h
        refine g_callS (n := 3) C (fun hM => c_X6_in l hM q17 (by decide) (by decide) e19) gX6_append_X6_in rfl (by decide) ⟨rfl, rfl⟩ ⟨Nat.le_of_ble_eq_true rfl, Nat.le_of_ble_eq_true rfl⟩ rfl rfl (rest := []) rfl (Nat.le_of_ble_eq_true rfl) dX6_append_31 (fun q20 => ?_)
        have q20 : r18 = 0 ∨ r18 = 1 := q20
        refine g_if_ne C 43 dX6_append_34 (by decide) (rgT_inR (rt := 1) q20) (fun c21 => ?_) (fun c21 => ?_)
        · have h := z_f c21 h
          refine g_sub [0, 1, 2, 3] rfl ?_
          refine w_X6_append_J43 C hx1 hR ih _ _ _ hx2 hx3 h
        · have h := z_t c21 h
          refine g_aload_n C dX6_append_37 0 rfl ?_
          refine g_iconst C dX6_append_38 ?_
          obtain ⟨⟨r22, σ24⟩, e23, h⟩ := z_b h
          refine g_callI (n := 1) C (fun hM => c_X6_fails l hM (by decide) e23) gX6_append_X6_fails rfl (by decide) ⟨rfl, rfl⟩ ⟨Nat.le_of_ble_eq_true rfl, Nat.le_of_ble_eq_true rfl⟩ rfl ly_c58 (Nat.le_of_ble_eq_true rfl) rfl rfl (rest := []) rfl (Nat.le_of_ble_eq_true rfl) dX6_append_39 (fun q25 => ?_)
          have q25 : inR r22 := q25
          obtain ⟨rfl, rfl⟩ := z_s2 h
          exact hR _ _ dX6_append_42 q25
set_option maxHeartbeats 4000000 in
set_option maxRecDepth 100000 in
theorem w_X6_append_L84 {p : Program} {l : Launch} {e : Env} {s : State} {m : MethodId} {args : Array Value} {below : List Frame} {meth : Method} {c : Code} {D : va_G} {cy : Nat → ClassId} {ad : Nat → Nat} {A : Nat → Prop} {Q : State → Prop} (C : Cx p s m args meth c cX6_append RX6 4 wsX6_append D cy A) {x1 : Int} (hx1 : inR x1) {k127 : MM → Option (Int × MM)} {ro : Int} {σo : MM} (hR : RetI p l e { frames := 1, cells := 0, slots := 0, locals := 22 } s m args below meth c cX6_append 4 D cy ad A Q 0 ro σo) (hk127 : ∀  (σ : MM), k127 σ = some (ro, σo) → G p l e { frames := 1, cells := 0, slots := 0, locals := 22 } s m args below meth c 4 D cy ad A Q 127 [(0, .ref (ad 58))] [] σ) : ∀ (n : Nat) (x3 : Int) (σ : MM) , inR x3 → X6_append_L84 x1 k127 n x3 σ = some (ro, σo) → G p l e { frames := 1, cells := 0, slots := 0, locals := 22 } s m args below meth c 4 D cy ad A Q 84 [(0, .ref (ad 58)), (1, .int (Int32.ofInt x1)), (3, .int (Int32.ofInt x3))] [] σ := by
  intro n
  induction n with
  | zero =>
    intro x3 σ hx3 h
    cases h
  | succ n ih =>
    intro x3 σ hx3 h
    rw [X6_append_L84] at h
    refine g_iload_n C dX6_append_84 2 rfl ?_
    refine g_iconst C dX6_append_85 ?_
    refine g_icmp_ge C 127 dX6_append_86 (by decide) hx3 (by decide) (fun c31 => ?_) (fun c31 => ?_)
    · have h := z_f c31 h
      refine g_sub [0] rfl ?_
      exact hk127 _ h
    · have h := z_t c31 h
      refine g_iload_n C dX6_append_89 1 rfl ?_
      refine g_iload_n C dX6_append_90 2 rfl ?_
      obtain ⟨r32, e33, h⟩ := z_b h
      refine g_callS (n := 2) C (fun hM => c_X6_byteOf l hM hx1 hx3 e33) gX6_append_X6_byteOf rfl (by decide) ⟨rfl, rfl⟩ ⟨Nat.le_of_ble_eq_true rfl, Nat.le_of_ble_eq_true rfl⟩ rfl rfl (rest := []) rfl (Nat.le_of_ble_eq_true rfl) dX6_append_91 (fun q34 => ?_)
      have q34 : inR r32 := q34
      refine g_if_eq C 121 dX6_append_94 (by decide) q34 (fun c35 => ?_) (fun c35 => ?_)
      · have h := z_t c35 h
        refine g_iinc C dX6_append_121 (j := 2) rfl (by decide) (vs' := [(3, .int (Int32.ofInt (x3 + 1))), (0, .ref (ad 58)), (1, .int (Int32.ofInt x1))]) rfl ?_
        refine g_goto C 84 dX6_append_124 (by decide) ?_
        refine g_sub [1, 2, 0] rfl ?_
        exact ih _ _ (by omega) h
      · have h := z_f c35 h
        refine g_aload_n C dX6_append_97 0 rfl ?_
        refine gf_X6_4 C in_X6_append_X6 (List.mem_of_getElem? (i := 3) rfl) dX6_append_98 ?_
        refine g_aload_n C dX6_append_101 0 rfl ?_
        refine gf_X6_5 C in_X6_append_X6 (List.mem_of_getElem? (i := 2) rfl) dX6_append_102 (fun r36 => ?_)
        refine g_iload_n C dX6_append_105 1 rfl ?_
        refine g_iload_n C dX6_append_106 2 rfl ?_
        obtain ⟨r37, e38, h⟩ := z_b h
        refine g_callS (n := 2) C (fun hM => c_X6_byteOf l hM hx1 hx3 e38) gX6_append_X6_byteOf rfl (by decide) ⟨rfl, rfl⟩ ⟨Nat.le_of_ble_eq_true rfl, Nat.le_of_ble_eq_true rfl⟩ rfl rfl (rest := [.int (Int32.ofInt (σ 58 5)), .ref (ad 61)]) rfl (Nat.le_of_ble_eq_true rfl) dX6_append_107 (fun q39 => ?_)
        have q39 : inR r37 := q39
        obtain ⟨g40, h⟩ := z_g h
        refine g_iast C ly_c61 (Nat.le_of_ble_eq_true rfl) (by decide) g40 q39 dX6_append_110 ?_
        obtain ⟨σ41, e42, h⟩ := z_l h
        refine g_mem e42 ?_
        refine g_aload_n C dX6_append_111 0 rfl ?_
        refine g_dup C dX6_append_112 rfl ?_
        refine gf_X6_5 C in_X6_append_X6 (List.mem_of_getElem? (i := 2) rfl) dX6_append_113 (fun r43 => ?_)
        refine g_iconst C dX6_append_116 ?_
        refine g_iadd C dX6_append_117 ?_
        obtain ⟨g44, h⟩ := z_g h
        refine gp_X6_5 C in_X6_append_X6 (List.mem_of_getElem? (i := 2) rfl) g44 dX6_append_118 ?_
        obtain ⟨σ45, e46, h⟩ := z_l h
        refine g_mem e46 ?_
        refine g_iinc C dX6_append_121 (j := 2) rfl (by decide) (vs' := [(3, .int (Int32.ofInt (x3 + 1))), (0, .ref (ad 58)), (1, .int (Int32.ofInt x1))]) rfl ?_
        refine g_goto C 84 dX6_append_124 (by decide) ?_
        refine g_sub [1, 2, 0] rfl ?_
        exact ih _ _ (by omega) h
set_option maxHeartbeats 4000000 in
set_option maxRecDepth 100000 in
theorem c_X6_append (l : Launch) {σ : MM} (hM : okM σ) {a1 : Int} (ha1 : inR a1) {ro : Int} {σo : MM} (h : X6_append a1 σ = some (ro, σo)) : CtI l yX6_append wsX6_append { frames := 1, cells := 0, slots := 0, locals := 22 } (fun ad : Nat → Nat => [.ref (ad 58), .int (Int32.ofInt a1)]) σ 0 ro σo := by
  unfold X6_append at h
  refine z_ctI (cc := cX6_append) (maxL := 4) (rt := 0) hM (by decide) rfl (fun _ => Nat.le_of_ble_eq_true rfl) (@fun p e s m args below meth c D cy ad A Q C hR => ?_)
  refine g_sub (vs' := [(0, .ref (ad 58)), (1, .int (Int32.ofInt a1))]) [0, 1] rfl ?_
  refine g_aload_n C dX6_append_0 0 rfl ?_
  refine g_iconst C dX6_append_1 ?_
  refine gp_X6_3 C in_X6_append_X6 (List.mem_of_getElem? (i := 1) rfl) (by decide) dX6_append_2 ?_
  obtain ⟨σ1, e2, h⟩ := z_l h
  refine g_mem e2 ?_
  refine g_iconst C dX6_append_5 ?_
  refine g_istore_n C dX6_append_6 (by decide) (vs' := [(2, .int (Int32.ofInt 0)), (0, .ref (ad 58)), (1, .int (Int32.ofInt a1))]) rfl ?_
  refine g_iconst C dX6_append_7 ?_
  refine g_istore_n C dX6_append_8 (by decide) (vs' := [(3, .int (Int32.ofInt 0)), (2, .int (Int32.ofInt 0)), (0, .ref (ad 58)), (1, .int (Int32.ofInt a1))]) rfl ?_
  refine g_sub [2, 3, 1, 0] rfl ?_
  refine w_X6_append_L9 C ha1 hR ?_ _ _ _ _ (by decide) (by decide) h
  · intro z26 σ27 hz26 h
    refine g_aload_n C dX6_append_65 0 rfl ?_
    refine gf_X6_5 C in_X6_append_X6 (List.mem_of_getElem? (i := 2) rfl) dX6_append_66 (fun r28 => ?_)
    refine g_iload_n C dX6_append_69 2 rfl ?_
    refine g_iadd C dX6_append_70 ?_
    refine g_bipush C dX6_append_71 (by decide) ?_
    obtain ⟨g29, h⟩ := z_g h
    refine g_icmp_le C 82 dX6_append_73 (by decide) g29 (by decide) (fun c30 => ?_) (fun c30 => ?_)
    · have h := z_f c30 h
      refine g_iconst C dX6_append_82 ?_
      refine g_istore_n C dX6_append_83 (by decide) (vs' := [(3, .int (Int32.ofInt 0)), (0, .ref (ad 58)), (1, .int (Int32.ofInt a1)), (2, .int (Int32.ofInt z26))]) rfl ?_
      refine g_sub [1, 2, 0] rfl ?_
      refine w_X6_append_L84 C ha1 hR ?_ _ _ _ (by decide) h
      · intro σ47 h
        refine g_aload_n C dX6_append_127 0 rfl ?_
        refine gf_X6_5 C in_X6_append_X6 (List.mem_of_getElem? (i := 2) rfl) dX6_append_128 (fun r48 => ?_)
        obtain ⟨rfl, rfl⟩ := z_s2 h
        exact hR _ _ dX6_append_131 r48
    · have h := z_t c30 h
      refine g_aload_n C dX6_append_76 0 rfl ?_
      refine g_iconst C dX6_append_77 ?_
      obtain ⟨⟨r49, σ51⟩, e50, h⟩ := z_b h
      refine g_callI (n := 1) C (fun hM => c_X6_fails l hM (by decide) e50) gX6_append_X6_fails rfl (by decide) ⟨rfl, rfl⟩ ⟨Nat.le_of_ble_eq_true rfl, Nat.le_of_ble_eq_true rfl⟩ rfl ly_c58 (Nat.le_of_ble_eq_true rfl) rfl rfl (rest := []) rfl (Nat.le_of_ble_eq_true rfl) dX6_append_78 (fun q52 => ?_)
      have q52 : inR r49 := q52
      obtain ⟨rfl, rfl⟩ := z_s2 h
      exact hR _ _ dX6_append_81 q52
theorem in_X6_errorPosition_X6 : ∀ w ∈ u_ws RX6 TX6 20, w ∈ wsX6_errorPosition := fun _ h => List.mem_cons_of_mem _ (List.mem_append_right _ h)
set_option maxHeartbeats 4000000 in
set_option maxRecDepth 100000 in
theorem c_X6_errorPosition (l : Launch) {σ : MM} (hM : okM σ) {ro : Int} {σo : MM} (h : X6_errorPosition σ = some (ro, σo)) : CtI l yX6_errorPosition wsX6_errorPosition { frames := 0, cells := 0, slots := 0, locals := 0 } (fun ad : Nat → Nat => [.ref (ad 58)]) σ 0 ro σo := by
  unfold X6_errorPosition at h
  refine z_ctI (cc := cX6_errorPosition) (maxL := 1) (rt := 0) hM (by decide) rfl (fun _ => Nat.le_of_ble_eq_true rfl) (@fun p e s m args below meth c D cy ad A Q C hR => ?_)
  refine g_sub (vs' := [(0, .ref (ad 58))]) [0] rfl ?_
  refine g_aload_n C dX6_errorPosition_0 0 rfl ?_
  refine g_iconst C dX6_errorPosition_1 ?_
  refine gp_X6_3 C in_X6_errorPosition_X6 (List.mem_of_getElem? (i := 1) rfl) (by decide) dX6_errorPosition_2 ?_
  obtain ⟨σ1, e2, h⟩ := z_l h
  refine g_mem e2 ?_
  refine g_aload_n C dX6_errorPosition_5 0 rfl ?_
  refine gf_X6_7 C in_X6_errorPosition_X6 (List.mem_of_getElem? (i := 2) rfl) dX6_errorPosition_6 (fun r3 => ?_)
  obtain ⟨rfl, rfl⟩ := z_s2 h
  exact hR _ _ dX6_errorPosition_9 r3
theorem in_X6_here_X6 : ∀ w ∈ u_ws RX6 TX6 20, w ∈ wsX6_here := fun _ h => List.mem_cons_of_mem _ (List.mem_append_right _ h)
set_option maxHeartbeats 4000000 in
set_option maxRecDepth 100000 in
theorem c_X6_here (l : Launch) {σ : MM} (hM : okM σ) {ro : Int} (h : X6_here σ = some ro) : CtI l yX6_here wsX6_here { frames := 0, cells := 0, slots := 0, locals := 0 } (fun ad : Nat → Nat => [.ref (ad 58)]) σ 0 ro σ := by
  unfold X6_here at h
  refine z_ctI (cc := cX6_here) (maxL := 1) (rt := 0) hM (by decide) rfl (fun _ => Nat.le_of_ble_eq_true rfl) (@fun p e s m args below meth c D cy ad A Q C hR => ?_)
  refine g_sub (vs' := [(0, .ref (ad 58))]) [0] rfl ?_
  refine g_aload_n C dX6_here_0 0 rfl ?_
  refine gf_X6_6 C in_X6_here_X6 (List.mem_of_getElem? (i := 1) rfl) dX6_here_1 (fun r1 => ?_)
  refine g_aload_n C dX6_here_4 0 rfl ?_
  refine gf_X6_5 C in_X6_here_X6 (List.mem_of_getElem? (i := 2) rfl) dX6_here_5 (fun r2 => ?_)
  refine g_icmp_ge C 23 dX6_here_8 (by decide) r1 r2 (fun c3 => ?_) (fun c3 => ?_)
  · have h := z_f c3 h
    refine g_iconst C dX6_here_23 ?_
    obtain rfl := z_s1 h
    exact hR _ _ dX6_here_24 (by show inR _; decide)
  · have h := z_t c3 h
    refine g_aload_n C dX6_here_11 0 rfl ?_
    refine gf_X6_4 C in_X6_here_X6 (List.mem_of_getElem? (i := 3) rfl) dX6_here_12 ?_
    refine g_aload_n C dX6_here_15 0 rfl ?_
    refine gf_X6_6 C in_X6_here_X6 (List.mem_of_getElem? (i := 1) rfl) dX6_here_16 (fun r4 => ?_)
    obtain ⟨g5, h⟩ := z_g h
    refine g_iald C ly_c61 (Nat.le_of_ble_eq_true rfl) (by decide) g5 dX6_here_19 (fun r6 => ?_)
    refine g_goto C 24 dX6_here_20 (by decide) ?_
    obtain rfl := z_s1 h
    exact hR _ _ dX6_here_24 r6
theorem in_X6_skips_X6 : ∀ w ∈ u_ws RX6 TX6 20, w ∈ wsX6_skips := fun _ h => List.mem_cons_of_mem _ (List.mem_append_right _ h)
set_option maxHeartbeats 4000000 in
set_option maxRecDepth 100000 in
theorem c_X6_skips (l : Launch) {σ : MM} (hM : okM σ) {a1 : Int} (ha1 : inR a1) {ro : Int} {σo : MM} (h : X6_skips a1 σ = some (ro, σo)) : CtI l yX6_skips wsX6_skips { frames := 1, cells := 0, slots := 0, locals := 20 } (fun ad : Nat → Nat => [.ref (ad 58), .int (Int32.ofInt a1)]) σ 1 ro σo := by
  unfold X6_skips at h
  refine z_ctI (cc := cX6_skips) (maxL := 2) (rt := 1) hM (by decide) rfl (fun _ => Nat.le_of_ble_eq_true rfl) (@fun p e s m args below meth c D cy ad A Q C hR => ?_)
  refine g_sub (vs' := [(0, .ref (ad 58)), (1, .int (Int32.ofInt a1))]) [0, 1] rfl ?_
  refine g_aload_n C dX6_skips_0 0 rfl ?_
  obtain ⟨r1, e2, h⟩ := z_b h
  refine g_callI (n := 0) C (fun hM => c_X6_here l hM  e2) gX6_skips_X6_here rfl (by decide) ⟨rfl, rfl⟩ ⟨Nat.le_of_ble_eq_true rfl, Nat.le_of_ble_eq_true rfl⟩ rfl ly_c58 (Nat.le_of_ble_eq_true rfl) rfl rfl (rest := []) rfl (Nat.le_of_ble_eq_true rfl) dX6_skips_1 (fun q3 => ?_)
  have q3 : inR r1 := q3
  refine g_iload_n C dX6_skips_4 1 rfl ?_
  refine g_icmp_eq C 10 dX6_skips_5 (by decide) q3 ha1 (fun c4 => ?_) (fun c4 => ?_)
  · have h := z_t c4 h
    refine g_aload_n C dX6_skips_10 0 rfl ?_
    refine g_dup C dX6_skips_11 rfl ?_
    refine gf_X6_6 C in_X6_skips_X6 (List.mem_of_getElem? (i := 1) rfl) dX6_skips_12 (fun r5 => ?_)
    refine g_iconst C dX6_skips_15 ?_
    refine g_iadd C dX6_skips_16 ?_
    obtain ⟨g6, h⟩ := z_g h
    refine gp_X6_6 C in_X6_skips_X6 (List.mem_of_getElem? (i := 1) rfl) g6 dX6_skips_17 ?_
    obtain ⟨σ7, e8, h⟩ := z_l h
    refine g_mem e8 ?_
    refine g_iconst C dX6_skips_20 ?_
    obtain ⟨rfl, rfl⟩ := z_s2 h
    exact hR _ _ dX6_skips_21 (by show _ = _ ∨ _ = _; decide)
  · have h := z_f c4 h
    refine g_iconst C dX6_skips_8 ?_
    obtain ⟨rfl, rfl⟩ := z_s2 h
    exact hR _ _ dX6_skips_9 (by show _ = _ ∨ _ = _; decide)
theorem in_X6_takes_X6 : ∀ w ∈ u_ws RX6 TX6 20, w ∈ wsX6_takes := fun _ h => List.mem_cons_of_mem _ (List.mem_append_right _ h)
set_option maxHeartbeats 4000000 in
set_option maxRecDepth 100000 in
theorem c_X6_takes (l : Launch) {σ : MM} (hM : okM σ) {a1 : Int} (ha1 : inR a1) {a2 : Int} (ha2 : inR a2) {ro : Int} {σo : MM} (h : X6_takes a1 a2 σ = some (ro, σo)) : CtI l yX6_takes wsX6_takes { frames := 1, cells := 0, slots := 0, locals := 22 } (fun ad : Nat → Nat => [.ref (ad 58), .int (Int32.ofInt a1), .int (Int32.ofInt a2)]) σ 1 ro σo := by
  unfold X6_takes at h
  refine z_ctI (cc := cX6_takes) (maxL := 3) (rt := 1) hM (by decide) rfl (fun _ => Nat.le_of_ble_eq_true rfl) (@fun p e s m args below meth c D cy ad A Q C hR => ?_)
  refine g_sub (vs' := [(0, .ref (ad 58)), (1, .int (Int32.ofInt a1)), (2, .int (Int32.ofInt a2))]) [0, 1, 2] rfl ?_
  refine g_aload_n C dX6_takes_0 0 rfl ?_
  obtain ⟨r1, e2, h⟩ := z_b h
  refine g_callI (n := 0) C (fun hM => c_X6_here l hM  e2) gX6_takes_X6_here rfl (by decide) ⟨rfl, rfl⟩ ⟨Nat.le_of_ble_eq_true rfl, Nat.le_of_ble_eq_true rfl⟩ rfl ly_c58 (Nat.le_of_ble_eq_true rfl) rfl rfl (rest := []) rfl (Nat.le_of_ble_eq_true rfl) dX6_takes_1 (fun q3 => ?_)
  have q3 : inR r1 := q3
  refine g_bipush C dX6_takes_4 (by decide) ?_
  refine g_iload_n C dX6_takes_6 1 rfl ?_
  refine g_iadd C dX6_takes_7 ?_
  refine g_bipush C dX6_takes_8 (by decide) ?_
  refine g_iload_n C dX6_takes_10 2 rfl ?_
  refine g_iadd C dX6_takes_11 ?_
  obtain ⟨g4, h⟩ := z_g h
  obtain ⟨g5, h⟩ := z_g h
  obtain ⟨r6, e7, h⟩ := z_b h
  refine g_callS (n := 3) C (fun hM => c_X6_in l hM q3 g4 g5 e7) gX6_takes_X6_in rfl (by decide) ⟨rfl, rfl⟩ ⟨Nat.le_of_ble_eq_true rfl, Nat.le_of_ble_eq_true rfl⟩ rfl rfl (rest := []) rfl (Nat.le_of_ble_eq_true rfl) dX6_takes_12 (fun q8 => ?_)
  have q8 : r6 = 0 ∨ r6 = 1 := q8
  refine g_if_ne C 20 dX6_takes_15 (by decide) (rgT_inR (rt := 1) q8) (fun c9 => ?_) (fun c9 => ?_)
  · have h := z_f c9 h
    refine g_aload_n C dX6_takes_20 0 rfl ?_
    refine g_aload_n C dX6_takes_21 0 rfl ?_
    obtain ⟨r10, e11, h⟩ := z_b h
    refine g_callI (n := 0) C (fun hM => c_X6_here l hM  e11) gX6_takes_X6_here rfl (by decide) ⟨rfl, rfl⟩ ⟨Nat.le_of_ble_eq_true rfl, Nat.le_of_ble_eq_true rfl⟩ rfl ly_c58 (Nat.le_of_ble_eq_true rfl) rfl rfl (rest := [.ref (ad 58)]) rfl (Nat.le_of_ble_eq_true rfl) dX6_takes_22 (fun q12 => ?_)
    have q12 : inR r10 := q12
    refine g_bipush C dX6_takes_25 (by decide) ?_
    refine g_isub C dX6_takes_27 ?_
    obtain ⟨g13, h⟩ := z_g h
    refine gp_X6_8 C in_X6_takes_X6 (List.mem_of_getElem? (i := 1) rfl) g13 dX6_takes_28 ?_
    obtain ⟨σ14, e15, h⟩ := z_l h
    refine g_mem e15 ?_
    refine g_aload_n C dX6_takes_31 0 rfl ?_
    refine g_dup C dX6_takes_32 rfl ?_
    refine gf_X6_6 C in_X6_takes_X6 (List.mem_of_getElem? (i := 2) rfl) dX6_takes_33 (fun r16 => ?_)
    refine g_iconst C dX6_takes_36 ?_
    refine g_iadd C dX6_takes_37 ?_
    obtain ⟨g17, h⟩ := z_g h
    refine gp_X6_6 C in_X6_takes_X6 (List.mem_of_getElem? (i := 2) rfl) g17 dX6_takes_38 ?_
    obtain ⟨σ18, e19, h⟩ := z_l h
    refine g_mem e19 ?_
    refine g_iconst C dX6_takes_41 ?_
    obtain ⟨rfl, rfl⟩ := z_s2 h
    exact hR _ _ dX6_takes_42 (by show _ = _ ∨ _ = _; decide)
  · have h := z_t c9 h
    refine g_iconst C dX6_takes_18 ?_
    obtain ⟨rfl, rfl⟩ := z_s2 h
    exact hR _ _ dX6_takes_19 (by show _ = _ ∨ _ = _; decide)
theorem in_X6_standsAt_X6 : ∀ w ∈ u_ws RX6 TX6 20, w ∈ wsX6_standsAt := fun _ h => List.mem_cons_of_mem _ (List.mem_append_right _ h)
set_option maxHeartbeats 4000000 in
set_option maxRecDepth 100000 in
theorem c_X6_standsAt (l : Launch) {σ : MM} (hM : okM σ) {a1 : Int} (ha1 : inR a1) {ro : Int} (h : X6_standsAt a1 σ = some ro) : CtI l yX6_standsAt wsX6_standsAt { frames := 1, cells := 0, slots := 0, locals := 22 } (fun ad : Nat → Nat => [.ref (ad 58), .int (Int32.ofInt a1)]) σ 0 ro σ := by
  unfold X6_standsAt at h
  refine z_ctI (cc := cX6_standsAt) (maxL := 2) (rt := 0) hM (by decide) rfl (fun _ => Nat.le_of_ble_eq_true rfl) (@fun p e s m args below meth c D cy ad A Q C hR => ?_)
  refine g_sub (vs' := [(0, .ref (ad 58)), (1, .int (Int32.ofInt a1))]) [0, 1] rfl ?_
  refine g_iload_n C dX6_standsAt_0 1 rfl ?_
  refine g_aload_n C dX6_standsAt_1 0 rfl ?_
  refine gf_X6_0 C in_X6_standsAt_X6 (List.mem_of_getElem? (i := 1) rfl) dX6_standsAt_2 ?_
  refine g_iconst C dX6_standsAt_5 ?_
  refine g_iald C ly_c59 (Nat.le_of_ble_eq_true rfl) (by decide) (by decide) dX6_standsAt_6 (fun r1 => ?_)
  refine g_icmp_ge C 18 dX6_standsAt_7 (by decide) ha1 r1 (fun c2 => ?_) (fun c2 => ?_)
  · have h := z_f c2 h
    refine g_iload_n C dX6_standsAt_18 1 rfl ?_
    obtain rfl := z_s1 h
    exact hR _ _ dX6_standsAt_19 ha1
  · have h := z_t c2 h
    refine g_aload_n C dX6_standsAt_10 0 rfl ?_
    refine g_iload_n C dX6_standsAt_11 1 rfl ?_
    obtain ⟨r3, e4, h⟩ := z_b h
    refine g_callI (n := 1) C (fun hM => c_X6_placeOf l hM ha1 e4) gX6_standsAt_X6_placeOf rfl (by decide) ⟨rfl, rfl⟩ ⟨Nat.le_of_ble_eq_true rfl, Nat.le_of_ble_eq_true rfl⟩ rfl ly_c58 (Nat.le_of_ble_eq_true rfl) rfl rfl (rest := []) rfl (Nat.le_of_ble_eq_true rfl) dX6_standsAt_12 (fun q5 => ?_)
    have q5 : inR r3 := q5
    refine g_goto C 19 dX6_standsAt_15 (by decide) ?_
    obtain rfl := z_s1 h
    exact hR _ _ dX6_standsAt_19 q5
theorem in_X6_readsStatement_X6 : ∀ w ∈ u_ws RX6 TX6 20, w ∈ wsX6_readsStatement := fun _ h => List.mem_cons_of_mem _ (List.mem_append_right _ h)
set_option maxHeartbeats 4000000 in
set_option maxRecDepth 100000 in
theorem c_X6_readsStatement (l : Launch) {σ : MM} (hM : okM σ) {a1 : Int} (ha1 : inR a1) {a2 : Int} (ha2 : inR a2) {ro : Int} {σo : MM} (h : X6_readsStatement a1 a2 σ = some (ro, σo)) : CtI l yX6_readsStatement wsX6_readsStatement { frames := 2, cells := 0, slots := 0, locals := 44 } (fun ad : Nat → Nat => [.ref (ad 58), .int (Int32.ofInt a1), .int (Int32.ofInt a2)]) σ 1 ro σo := by
  unfold X6_readsStatement at h
  refine z_ctI (cc := cX6_readsStatement) (maxL := 4) (rt := 1) hM (by decide) rfl (fun _ => Nat.le_of_ble_eq_true rfl) (@fun p e s m args below meth c D cy ad A Q C hR => ?_)
  refine g_sub (vs' := [(0, .ref (ad 58)), (1, .int (Int32.ofInt a1)), (2, .int (Int32.ofInt a2))]) [0, 1, 2] rfl ?_
  refine g_iload_n C dX6_readsStatement_0 1 rfl ?_
  refine g_bipush C dX6_readsStatement_1 (by decide) ?_
  refine g_icmp_ne C 8 dX6_readsStatement_3 (by decide) ha1 (by decide) (fun c1 => ?_) (fun c1 => ?_)
  · have h := z_f c1 h
    refine g_aload_n C dX6_readsStatement_8 0 rfl ?_
    refine g_dup C dX6_readsStatement_9 rfl ?_
    refine gf_X6_6 C in_X6_readsStatement_X6 (List.mem_of_getElem? (i := 1) rfl) dX6_readsStatement_10 (fun r2 => ?_)
    refine g_iconst C dX6_readsStatement_13 ?_
    refine g_iadd C dX6_readsStatement_14 ?_
    obtain ⟨g3, h⟩ := z_g h
    refine gp_X6_6 C in_X6_readsStatement_X6 (List.mem_of_getElem? (i := 1) rfl) g3 dX6_readsStatement_15 ?_
    obtain ⟨σ4, e5, h⟩ := z_l h
    refine g_mem e5 ?_
    refine g_aload_n C dX6_readsStatement_18 0 rfl ?_
    refine g_iconst C dX6_readsStatement_19 ?_
    refine g_bipush C dX6_readsStatement_20 (by decide) ?_
    obtain ⟨⟨r6, σ8⟩, e7, h⟩ := z_b h
    refine g_callI (n := 2) C (fun hM => c_X6_takes l hM (by decide) (by decide) e7) gX6_readsStatement_X6_takes rfl (by decide) ⟨rfl, rfl⟩ ⟨Nat.le_of_ble_eq_true rfl, Nat.le_of_ble_eq_true rfl⟩ rfl ly_c58 (Nat.le_of_ble_eq_true rfl) rfl rfl (rest := []) rfl (Nat.le_of_ble_eq_true rfl) dX6_readsStatement_22 (fun q9 => ?_)
    have q9 : r6 = 0 ∨ r6 = 1 := q9
    refine g_if_ne C 30 dX6_readsStatement_25 (by decide) (rgT_inR (rt := 1) q9) (fun c10 => ?_) (fun c10 => ?_)
    · have h := z_f c10 h
      refine g_aload_n C dX6_readsStatement_30 0 rfl ?_
      refine gf_X6_8 C in_X6_readsStatement_X6 (List.mem_of_getElem? (i := 2) rfl) dX6_readsStatement_31 (fun r11 => ?_)
      refine g_istore_n C dX6_readsStatement_34 (by decide) (vs' := [(3, .int (Int32.ofInt (σ8 58 8))), (0, .ref (ad 58)), (1, .int (Int32.ofInt a1)), (2, .int (Int32.ofInt a2))]) rfl ?_
      refine g_aload_n C dX6_readsStatement_35 1 rfl ?_
      refine g_bipush C dX6_readsStatement_36 (by decide) ?_
      obtain ⟨⟨r12, σ14⟩, e13, h⟩ := z_b h
      refine g_callI (n := 1) C (fun hM => c_X6_skips l hM (by decide) e13) gX6_readsStatement_X6_skips rfl (by decide) ⟨rfl, rfl⟩ ⟨Nat.le_of_ble_eq_true rfl, Nat.le_of_ble_eq_true rfl⟩ rfl ly_c58 (Nat.le_of_ble_eq_true rfl) rfl rfl (rest := []) rfl (Nat.le_of_ble_eq_true rfl) dX6_readsStatement_38 (fun q15 => ?_)
      have q15 : r12 = 0 ∨ r12 = 1 := q15
      refine g_if_ne C 46 dX6_readsStatement_41 (by decide) (rgT_inR (rt := 1) q15) (fun c16 => ?_) (fun c16 => ?_)
      · have h := z_f c16 h
        refine g_iload_n C dX6_readsStatement_46 3 rfl ?_
        refine g_if_eq C 80 dX6_readsStatement_47 (by decide) ha2 (fun c17 => ?_) (fun c17 => ?_)
        · have h := z_t c17 h
          refine g_iconst C dX6_readsStatement_80 ?_
          obtain ⟨rfl, rfl⟩ := z_s2 h
          exact hR _ _ dX6_readsStatement_81 (by show _ = _ ∨ _ = _; decide)
        · have h := z_f c17 h
          refine g_aload_n C dX6_readsStatement_50 1 rfl ?_
          refine gf_X6_0 C in_X6_readsStatement_X6 (List.mem_of_getElem? (i := 3) rfl) dX6_readsStatement_51 ?_
          refine g_bipush C dX6_readsStatement_54 (by decide) ?_
          refine g_iload_n C dX6_readsStatement_56 2 rfl ?_
          refine g_iadd C dX6_readsStatement_57 ?_
          refine g_iload_n C dX6_readsStatement_58 0 rfl ?_
          obtain ⟨g18, h⟩ := z_g h
          refine g_iast C ly_c59 (Nat.le_of_ble_eq_true rfl) (by decide) g18 r11 dX6_readsStatement_59 ?_
          obtain ⟨σ19, e20, h⟩ := z_l h
          refine g_mem e20 ?_
          refine g_aload_n C dX6_readsStatement_60 1 rfl ?_
          refine gf_X6_0 C in_X6_readsStatement_X6 (List.mem_of_getElem? (i := 3) rfl) dX6_readsStatement_61 ?_
          refine g_bipush C dX6_readsStatement_64 (by decide) ?_
          refine g_iload_n C dX6_readsStatement_66 2 rfl ?_
          refine g_iadd C dX6_readsStatement_67 ?_
          refine g_iload_n C dX6_readsStatement_68 2 rfl ?_
          obtain ⟨g21, h⟩ := z_g h
          refine g_iast C ly_c59 (Nat.le_of_ble_eq_true rfl) (by decide) g21 ha1 dX6_readsStatement_69 ?_
          obtain ⟨σ22, e23, h⟩ := z_l h
          refine g_mem e23 ?_
          refine g_aload_n C dX6_readsStatement_70 1 rfl ?_
          refine gf_X6_0 C in_X6_readsStatement_X6 (List.mem_of_getElem? (i := 3) rfl) dX6_readsStatement_71 ?_
          refine g_iconst C dX6_readsStatement_74 ?_
          refine g_dup2 C dX6_readsStatement_75 rfl rfl ?_
          refine g_iald C ly_c59 (Nat.le_of_ble_eq_true rfl) (by decide) (by decide) dX6_readsStatement_76 (fun r24 => ?_)
          refine g_iconst C dX6_readsStatement_77 ?_
          refine g_iadd C dX6_readsStatement_78 ?_
          obtain ⟨g25, h⟩ := z_g h
          refine g_iast C ly_c59 (Nat.le_of_ble_eq_true rfl) (by decide) (by decide) g25 dX6_readsStatement_79 ?_
          obtain ⟨σ26, e27, h⟩ := z_l h
          refine g_mem e27 ?_
          refine g_iconst C dX6_readsStatement_80 ?_
          obtain ⟨rfl, rfl⟩ := z_s2 h
          exact hR _ _ dX6_readsStatement_81 (by show _ = _ ∨ _ = _; decide)
      · have h := z_t c16 h
        refine g_iconst C dX6_readsStatement_44 ?_
        obtain ⟨rfl, rfl⟩ := z_s2 h
        exact hR _ _ dX6_readsStatement_45 (by show _ = _ ∨ _ = _; decide)
    · have h := z_t c10 h
      refine g_iconst C dX6_readsStatement_28 ?_
      obtain ⟨rfl, rfl⟩ := z_s2 h
      exact hR _ _ dX6_readsStatement_29 (by show _ = _ ∨ _ = _; decide)
  · have h := z_t c1 h
    refine g_iconst C dX6_readsStatement_6 ?_
    obtain ⟨rfl, rfl⟩ := z_s2 h
    exact hR _ _ dX6_readsStatement_7 (by show _ = _ ∨ _ = _; decide)
theorem in_X6_readsDependence_X6 : ∀ w ∈ u_ws RX6 TX6 20, w ∈ wsX6_readsDependence := fun _ h => List.mem_cons_of_mem _ (List.mem_append_right _ h)
set_option maxHeartbeats 4000000 in
set_option maxRecDepth 100000 in
theorem w_X6_readsDependence_J114 {p : Program} {l : Launch} {e : Env} {s : State} {m : MethodId} {args : Array Value} {below : List Frame} {meth : Method} {c : Code} {D : va_G} {cy : Nat → ClassId} {ad : Nat → Nat} {A : Nat → Prop} {Q : State → Prop} (C : Cx p s m args meth c cX6_readsDependence RX6 8 wsX6_readsDependence D cy A) {ro : Int} {σo : MM} (hR : RetI p l e { frames := 2, cells := 0, slots := 0, locals := 44 } s m args below meth c cX6_readsDependence 8 D cy ad A Q 1 ro σo)  : ∀ (x1 x3 x4 x5 x6 : Int) (σ : MM) , inR x1 → inR x3 → inR x4 → inR x5 → inR x6 → X6_readsDependence_J114 x1 x3 x4 x5 x6 σ = some (ro, σo) → G p l e { frames := 2, cells := 0, slots := 0, locals := 44 } s m args below meth c 8 D cy ad A Q 114 [(0, .ref (ad 58)), (1, .int (Int32.ofInt x1)), (3, .int (Int32.ofInt x3)), (4, .int (Int32.ofInt x4)), (5, .int (Int32.ofInt x5)), (6, .int (Int32.ofInt x6))] [] σ := by
  intro x1 x3 x4 x5 x6 σ hx1 hx3 hx4 hx5 hx6 h
  unfold X6_readsDependence_J114 at h
  refine g_aload_n C dX6_readsDependence_114 0 rfl ?_
  obtain ⟨r40, e41, h⟩ := z_b h
  refine g_callI (n := 0) C (fun hM => c_X6_here l hM  e41) gX6_readsDependence_X6_here rfl (by decide) ⟨rfl, rfl⟩ ⟨Nat.le_of_ble_eq_true rfl, Nat.le_of_ble_eq_true rfl⟩ rfl ly_c58 (Nat.le_of_ble_eq_true rfl) rfl rfl (rest := []) rfl (Nat.le_of_ble_eq_true rfl) dX6_readsDependence_115 (fun q42 => ?_)
  have q42 : inR r40 := q42
  refine g_bipush C dX6_readsDependence_118 (by decide) ?_
  refine g_isub C dX6_readsDependence_120 ?_
  refine g_istore C dX6_readsDependence_121 (by decide) (vs' := [(7, .int (Int32.ofInt (r40 - 48))), (0, .ref (ad 58)), (1, .int (Int32.ofInt x1)), (3, .int (Int32.ofInt x3)), (4, .int (Int32.ofInt x4)), (5, .int (Int32.ofInt x5)), (6, .int (Int32.ofInt x6))]) rfl ?_
  refine g_aload_n C dX6_readsDependence_123 1 rfl ?_
  refine g_dup C dX6_readsDependence_124 rfl ?_
  refine gf_X6_6 C in_X6_readsDependence_X6 (List.mem_of_getElem? (i := 1) rfl) dX6_readsDependence_125 (fun r43 => ?_)
  refine g_iconst C dX6_readsDependence_128 ?_
  refine g_iadd C dX6_readsDependence_129 ?_
  obtain ⟨g44, h⟩ := z_g h
  refine gp_X6_6 C in_X6_readsDependence_X6 (List.mem_of_getElem? (i := 1) rfl) g44 dX6_readsDependence_130 ?_
  obtain ⟨σ45, e46, h⟩ := z_l h
  refine g_mem e46 ?_
  refine g_aload_n C dX6_readsDependence_133 1 rfl ?_
  refine g_bipush C dX6_readsDependence_134 (by decide) ?_
  obtain ⟨⟨r47, σ49⟩, e48, h⟩ := z_b h
  refine g_callI (n := 1) C (fun hM => c_X6_skips l hM (by decide) e48) gX6_readsDependence_X6_skips rfl (by decide) ⟨rfl, rfl⟩ ⟨Nat.le_of_ble_eq_true rfl, Nat.le_of_ble_eq_true rfl⟩ rfl ly_c58 (Nat.le_of_ble_eq_true rfl) rfl rfl (rest := []) rfl (Nat.le_of_ble_eq_true rfl) dX6_readsDependence_136 (fun q50 => ?_)
  have q50 : r47 = 0 ∨ r47 = 1 := q50
  refine g_if_ne C 144 dX6_readsDependence_139 (by decide) (rgT_inR (rt := 1) q50) (fun c51 => ?_) (fun c51 => ?_)
  · have h := z_f c51 h
    refine g_iload C dX6_readsDependence_144 4 rfl ?_
    refine g_if_eq C 217 dX6_readsDependence_146 (by decide) hx4 (fun c52 => ?_) (fun c52 => ?_)
    · have h := z_t c52 h
      refine g_iconst C dX6_readsDependence_217 ?_
      obtain ⟨rfl, rfl⟩ := z_s2 h
      exact hR _ _ dX6_readsDependence_218 (by show _ = _ ∨ _ = _; decide)
    · have h := z_f c52 h
      refine g_aload_n C dX6_readsDependence_149 1 rfl ?_
      refine gf_X6_0 C in_X6_readsDependence_X6 (List.mem_of_getElem? (i := 3) rfl) dX6_readsDependence_150 ?_
      refine g_iload_n C dX6_readsDependence_153 3 rfl ?_
      refine g_iconst C dX6_readsDependence_154 ?_
      obtain ⟨r53, e54, h⟩ := z_b h
      refine g_callS (n := 2) C (fun hM => c_X6_at l hM hx3 (by decide) e54) gX6_readsDependence_X6_at rfl (by decide) ⟨rfl, rfl⟩ ⟨Nat.le_of_ble_eq_true rfl, Nat.le_of_ble_eq_true rfl⟩ rfl rfl (rest := [.ref (ad 59)]) rfl (Nat.le_of_ble_eq_true rfl) dX6_readsDependence_155 (fun q55 => ?_)
      have q55 : inR r53 := q55
      refine g_iload_n C dX6_readsDependence_158 2 rfl ?_
      obtain ⟨g56, h⟩ := z_g h
      refine g_iast C ly_c59 (Nat.le_of_ble_eq_true rfl) (by decide) g56 hx1 dX6_readsDependence_159 ?_
      obtain ⟨σ57, e58, h⟩ := z_l h
      refine g_mem e58 ?_
      refine g_aload_n C dX6_readsDependence_160 1 rfl ?_
      refine gf_X6_0 C in_X6_readsDependence_X6 (List.mem_of_getElem? (i := 3) rfl) dX6_readsDependence_161 ?_
      refine g_iload_n C dX6_readsDependence_164 3 rfl ?_
      refine g_iconst C dX6_readsDependence_165 ?_
      obtain ⟨r59, e60, h⟩ := z_b h
      refine g_callS (n := 2) C (fun hM => c_X6_at l hM hx3 (by decide) e60) gX6_readsDependence_X6_at rfl (by decide) ⟨rfl, rfl⟩ ⟨Nat.le_of_ble_eq_true rfl, Nat.le_of_ble_eq_true rfl⟩ rfl rfl (rest := [.ref (ad 59)]) rfl (Nat.le_of_ble_eq_true rfl) dX6_readsDependence_166 (fun q61 => ?_)
      have q61 : inR r59 := q61
      refine g_iload C dX6_readsDependence_169 5 rfl ?_
      obtain ⟨g62, h⟩ := z_g h
      refine g_iast C ly_c59 (Nat.le_of_ble_eq_true rfl) (by decide) g62 hx5 dX6_readsDependence_171 ?_
      obtain ⟨σ63, e64, h⟩ := z_l h
      refine g_mem e64 ?_
      refine g_aload_n C dX6_readsDependence_172 1 rfl ?_
      refine gf_X6_0 C in_X6_readsDependence_X6 (List.mem_of_getElem? (i := 3) rfl) dX6_readsDependence_173 ?_
      refine g_iload_n C dX6_readsDependence_176 3 rfl ?_
      refine g_iconst C dX6_readsDependence_177 ?_
      obtain ⟨r65, e66, h⟩ := z_b h
      refine g_callS (n := 2) C (fun hM => c_X6_at l hM hx3 (by decide) e66) gX6_readsDependence_X6_at rfl (by decide) ⟨rfl, rfl⟩ ⟨Nat.le_of_ble_eq_true rfl, Nat.le_of_ble_eq_true rfl⟩ rfl rfl (rest := [.ref (ad 59)]) rfl (Nat.le_of_ble_eq_true rfl) dX6_readsDependence_178 (fun q67 => ?_)
      have q67 : inR r65 := q67
      refine g_iload C dX6_readsDependence_181 6 rfl ?_
      obtain ⟨g68, h⟩ := z_g h
      refine g_iast C ly_c59 (Nat.le_of_ble_eq_true rfl) (by decide) g68 hx6 dX6_readsDependence_183 ?_
      obtain ⟨σ69, e70, h⟩ := z_l h
      refine g_mem e70 ?_
      refine g_aload_n C dX6_readsDependence_184 1 rfl ?_
      refine gf_X6_0 C in_X6_readsDependence_X6 (List.mem_of_getElem? (i := 3) rfl) dX6_readsDependence_185 ?_
      refine g_iload_n C dX6_readsDependence_188 3 rfl ?_
      refine g_iconst C dX6_readsDependence_189 ?_
      obtain ⟨r71, e72, h⟩ := z_b h
      refine g_callS (n := 2) C (fun hM => c_X6_at l hM hx3 (by decide) e72) gX6_readsDependence_X6_at rfl (by decide) ⟨rfl, rfl⟩ ⟨Nat.le_of_ble_eq_true rfl, Nat.le_of_ble_eq_true rfl⟩ rfl rfl (rest := [.ref (ad 59)]) rfl (Nat.le_of_ble_eq_true rfl) dX6_readsDependence_190 (fun q73 => ?_)
      have q73 : inR r71 := q73
      refine g_iload C dX6_readsDependence_193 0 rfl ?_
      obtain ⟨g74, h⟩ := z_g h
      obtain ⟨g75, h⟩ := z_g h
      refine g_iast C ly_c59 (Nat.le_of_ble_eq_true rfl) (by decide) g74 g75 dX6_readsDependence_195 ?_
      obtain ⟨σ76, e77, h⟩ := z_l h
      refine g_mem e77 ?_
      refine g_aload_n C dX6_readsDependence_196 1 rfl ?_
      refine gf_X6_0 C in_X6_readsDependence_X6 (List.mem_of_getElem? (i := 3) rfl) dX6_readsDependence_197 ?_
      refine g_iload_n C dX6_readsDependence_200 3 rfl ?_
      refine g_iconst C dX6_readsDependence_201 ?_
      obtain ⟨r78, e79, h⟩ := z_b h
      refine g_callS (n := 2) C (fun hM => c_X6_at l hM hx3 (by decide) e79) gX6_readsDependence_X6_at rfl (by decide) ⟨rfl, rfl⟩ ⟨Nat.le_of_ble_eq_true rfl, Nat.le_of_ble_eq_true rfl⟩ rfl rfl (rest := [.ref (ad 59)]) rfl (Nat.le_of_ble_eq_true rfl) dX6_readsDependence_202 (fun q80 => ?_)
      have q80 : inR r78 := q80
      refine g_iconst C dX6_readsDependence_205 ?_
      obtain ⟨g81, h⟩ := z_g h
      refine g_iast C ly_c59 (Nat.le_of_ble_eq_true rfl) (by decide) g81 (by decide) dX6_readsDependence_206 ?_
      obtain ⟨σ82, e83, h⟩ := z_l h
      refine g_mem e83 ?_
      refine g_aload_n C dX6_readsDependence_207 1 rfl ?_
      refine gf_X6_0 C in_X6_readsDependence_X6 (List.mem_of_getElem? (i := 3) rfl) dX6_readsDependence_208 ?_
      refine g_iconst C dX6_readsDependence_211 ?_
      refine g_dup2 C dX6_readsDependence_212 rfl rfl ?_
      refine g_iald C ly_c59 (Nat.le_of_ble_eq_true rfl) (by decide) (by decide) dX6_readsDependence_213 (fun r84 => ?_)
      refine g_iconst C dX6_readsDependence_214 ?_
      refine g_iadd C dX6_readsDependence_215 ?_
      obtain ⟨g85, h⟩ := z_g h
      refine g_iast C ly_c59 (Nat.le_of_ble_eq_true rfl) (by decide) (by decide) g85 dX6_readsDependence_216 ?_
      obtain ⟨σ86, e87, h⟩ := z_l h
      refine g_mem e87 ?_
      refine g_iconst C dX6_readsDependence_217 ?_
      obtain ⟨rfl, rfl⟩ := z_s2 h
      exact hR _ _ dX6_readsDependence_218 (by show _ = _ ∨ _ = _; decide)
  · have h := z_t c51 h
    refine g_iconst C dX6_readsDependence_142 ?_
    obtain ⟨rfl, rfl⟩ := z_s2 h
    exact hR _ _ dX6_readsDependence_143 (by show _ = _ ∨ _ = _; decide)
set_option maxHeartbeats 4000000 in
set_option maxRecDepth 100000 in
theorem c_X6_readsDependence (l : Launch) {σ : MM} (hM : okM σ) {a1 : Int} (ha1 : inR a1) {a2 : Int} (ha2 : inR a2) {a3 : Int} (ha3 : inR a3) {a4 : Int} (ha4 : inR a4) {ro : Int} {σo : MM} (h : X6_readsDependence a1 a2 a3 a4 σ = some (ro, σo)) : CtI l yX6_readsDependence wsX6_readsDependence { frames := 2, cells := 0, slots := 0, locals := 44 } (fun ad : Nat → Nat => [.ref (ad 58), .int (Int32.ofInt a1), .int (Int32.ofInt a2), .int (Int32.ofInt a3), .int (Int32.ofInt a4)]) σ 1 ro σo := by
  unfold X6_readsDependence at h
  refine z_ctI (cc := cX6_readsDependence) (maxL := 8) (rt := 1) hM (by decide) rfl (fun _ => Nat.le_of_ble_eq_true rfl) (@fun p e s m args below meth c D cy ad A Q C hR => ?_)
  refine g_sub (vs' := [(0, .ref (ad 58)), (1, .int (Int32.ofInt a1)), (2, .int (Int32.ofInt a2)), (3, .int (Int32.ofInt a3)), (4, .int (Int32.ofInt a4))]) [0, 1, 2, 3, 4] rfl ?_
  refine g_iload_n C dX6_readsDependence_0 3 rfl ?_
  refine g_bipush C dX6_readsDependence_1 (by decide) ?_
  refine g_icmp_ne C 8 dX6_readsDependence_3 (by decide) ha3 (by decide) (fun c1 => ?_) (fun c1 => ?_)
  · have h := z_f c1 h
    refine g_aload_n C dX6_readsDependence_8 0 rfl ?_
    refine g_dup C dX6_readsDependence_9 rfl ?_
    refine gf_X6_6 C in_X6_readsDependence_X6 (List.mem_of_getElem? (i := 1) rfl) dX6_readsDependence_10 (fun r2 => ?_)
    refine g_iconst C dX6_readsDependence_13 ?_
    refine g_iadd C dX6_readsDependence_14 ?_
    obtain ⟨g3, h⟩ := z_g h
    refine gp_X6_6 C in_X6_readsDependence_X6 (List.mem_of_getElem? (i := 1) rfl) g3 dX6_readsDependence_15 ?_
    obtain ⟨σ4, e5, h⟩ := z_l h
    refine g_mem e5 ?_
    refine g_aload_n C dX6_readsDependence_18 0 rfl ?_
    refine g_iconst C dX6_readsDependence_19 ?_
    refine g_iload_n C dX6_readsDependence_20 2 rfl ?_
    refine g_iconst C dX6_readsDependence_21 ?_
    refine g_isub C dX6_readsDependence_22 ?_
    obtain ⟨g6, h⟩ := z_g h
    obtain ⟨⟨r7, σ9⟩, e8, h⟩ := z_b h
    refine g_callI (n := 2) C (fun hM => c_X6_takes l hM (by decide) g6 e8) gX6_readsDependence_X6_takes rfl (by decide) ⟨rfl, rfl⟩ ⟨Nat.le_of_ble_eq_true rfl, Nat.le_of_ble_eq_true rfl⟩ rfl ly_c58 (Nat.le_of_ble_eq_true rfl) rfl rfl (rest := []) rfl (Nat.le_of_ble_eq_true rfl) dX6_readsDependence_23 (fun q10 => ?_)
    have q10 : r7 = 0 ∨ r7 = 1 := q10
    refine g_if_ne C 31 dX6_readsDependence_26 (by decide) (rgT_inR (rt := 1) q10) (fun c11 => ?_) (fun c11 => ?_)
    · have h := z_f c11 h
      refine g_aload_n C dX6_readsDependence_31 0 rfl ?_
      refine gf_X6_8 C in_X6_readsDependence_X6 (List.mem_of_getElem? (i := 2) rfl) dX6_readsDependence_32 (fun r12 => ?_)
      refine g_istore C dX6_readsDependence_35 (by decide) (vs' := [(5, .int (Int32.ofInt (σ9 58 8))), (0, .ref (ad 58)), (1, .int (Int32.ofInt a1)), (2, .int (Int32.ofInt a2)), (3, .int (Int32.ofInt a3)), (4, .int (Int32.ofInt a4))]) rfl ?_
      refine g_aload_n C dX6_readsDependence_37 1 rfl ?_
      refine g_bipush C dX6_readsDependence_38 (by decide) ?_
      obtain ⟨⟨r13, σ15⟩, e14, h⟩ := z_b h
      refine g_callI (n := 1) C (fun hM => c_X6_skips l hM (by decide) e14) gX6_readsDependence_X6_skips rfl (by decide) ⟨rfl, rfl⟩ ⟨Nat.le_of_ble_eq_true rfl, Nat.le_of_ble_eq_true rfl⟩ rfl ly_c58 (Nat.le_of_ble_eq_true rfl) rfl rfl (rest := []) rfl (Nat.le_of_ble_eq_true rfl) dX6_readsDependence_40 (fun q16 => ?_)
      have q16 : r13 = 0 ∨ r13 = 1 := q16
      refine g_if_eq C 57 dX6_readsDependence_43 (by decide) (rgT_inR (rt := 1) q16) (fun c17 => ?_) (fun c17 => ?_)
      · have h := z_t c17 h
        refine g_iconst C dX6_readsDependence_57 ?_
        obtain ⟨rfl, rfl⟩ := z_s2 h
        exact hR _ _ dX6_readsDependence_58 (by show _ = _ ∨ _ = _; decide)
      · have h := z_f c17 h
        refine g_aload_n C dX6_readsDependence_46 1 rfl ?_
        refine g_iconst C dX6_readsDependence_47 ?_
        refine g_iload_n C dX6_readsDependence_48 3 rfl ?_
        refine g_iconst C dX6_readsDependence_49 ?_
        refine g_isub C dX6_readsDependence_50 ?_
        obtain ⟨⟨r18, σ20⟩, e19, h⟩ := z_b h
        refine g_callI (n := 2) C (fun hM => c_X6_takes l hM (by decide) g6 e19) gX6_readsDependence_X6_takes rfl (by decide) ⟨rfl, rfl⟩ ⟨Nat.le_of_ble_eq_true rfl, Nat.le_of_ble_eq_true rfl⟩ rfl ly_c58 (Nat.le_of_ble_eq_true rfl) rfl rfl (rest := []) rfl (Nat.le_of_ble_eq_true rfl) dX6_readsDependence_51 (fun q21 => ?_)
        have q21 : r18 = 0 ∨ r18 = 1 := q21
        refine g_if_ne C 59 dX6_readsDependence_54 (by decide) (rgT_inR (rt := 1) q21) (fun c22 => ?_) (fun c22 => ?_)
        · have h := z_f c22 h
          refine g_aload_n C dX6_readsDependence_59 1 rfl ?_
          refine gf_X6_8 C in_X6_readsDependence_X6 (List.mem_of_getElem? (i := 2) rfl) dX6_readsDependence_60 (fun r23 => ?_)
          refine g_istore C dX6_readsDependence_63 (by decide) (vs' := [(6, .int (Int32.ofInt (σ20 58 8))), (5, .int (Int32.ofInt (σ9 58 8))), (0, .ref (ad 58)), (1, .int (Int32.ofInt a1)), (2, .int (Int32.ofInt a2)), (3, .int (Int32.ofInt a3)), (4, .int (Int32.ofInt a4))]) rfl ?_
          refine g_aload_n C dX6_readsDependence_65 2 rfl ?_
          refine g_bipush C dX6_readsDependence_66 (by decide) ?_
          obtain ⟨⟨r24, σ26⟩, e25, h⟩ := z_b h
          refine g_callI (n := 1) C (fun hM => c_X6_skips l hM (by decide) e25) gX6_readsDependence_X6_skips rfl (by decide) ⟨rfl, rfl⟩ ⟨Nat.le_of_ble_eq_true rfl, Nat.le_of_ble_eq_true rfl⟩ rfl ly_c58 (Nat.le_of_ble_eq_true rfl) rfl rfl (rest := []) rfl (Nat.le_of_ble_eq_true rfl) dX6_readsDependence_68 (fun q27 => ?_)
          have q27 : r24 = 0 ∨ r24 = 1 := q27
          refine g_if_eq C 112 dX6_readsDependence_71 (by decide) (rgT_inR (rt := 1) q27) (fun c28 => ?_) (fun c28 => ?_)
          · have h := z_t c28 h
            refine g_iconst C dX6_readsDependence_112 ?_
            obtain ⟨rfl, rfl⟩ := z_s2 h
            exact hR _ _ dX6_readsDependence_113 (by show _ = _ ∨ _ = _; decide)
          · have h := z_f c28 h
            refine g_aload_n C dX6_readsDependence_74 2 rfl ?_
            obtain ⟨r29, e30, h⟩ := z_b h
            refine g_callI (n := 0) C (fun hM => c_X6_here l hM  e30) gX6_readsDependence_X6_here rfl (by decide) ⟨rfl, rfl⟩ ⟨Nat.le_of_ble_eq_true rfl, Nat.le_of_ble_eq_true rfl⟩ rfl ly_c58 (Nat.le_of_ble_eq_true rfl) rfl rfl (rest := []) rfl (Nat.le_of_ble_eq_true rfl) dX6_readsDependence_75 (fun q31 => ?_)
            have q31 : inR r29 := q31
            refine g_bipush C dX6_readsDependence_78 (by decide) ?_
            refine g_bipush C dX6_readsDependence_80 (by decide) ?_
            obtain ⟨r32, e33, h⟩ := z_b h
            refine g_callS (n := 3) C (fun hM => c_X6_in l hM q31 (by decide) (by decide) e33) gX6_readsDependence_X6_in rfl (by decide) ⟨rfl, rfl⟩ ⟨Nat.le_of_ble_eq_true rfl, Nat.le_of_ble_eq_true rfl⟩ rfl rfl (rest := []) rfl (Nat.le_of_ble_eq_true rfl) dX6_readsDependence_82 (fun q34 => ?_)
            have q34 : r32 = 0 ∨ r32 = 1 := q34
            refine g_if_eq C 112 dX6_readsDependence_85 (by decide) (rgT_inR (rt := 1) q34) (fun c35 => ?_) (fun c35 => ?_)
            · have h := z_t c35 h
              refine g_iconst C dX6_readsDependence_112 ?_
              obtain ⟨rfl, rfl⟩ := z_s2 h
              exact hR _ _ dX6_readsDependence_113 (by show _ = _ ∨ _ = _; decide)
            · have h := z_f c35 h
              refine g_aload_n C dX6_readsDependence_88 2 rfl ?_
              obtain ⟨r36, e37, h⟩ := z_b h
              refine g_callI (n := 0) C (fun hM => c_X6_here l hM  e37) gX6_readsDependence_X6_here rfl (by decide) ⟨rfl, rfl⟩ ⟨Nat.le_of_ble_eq_true rfl, Nat.le_of_ble_eq_true rfl⟩ rfl ly_c58 (Nat.le_of_ble_eq_true rfl) rfl rfl (rest := []) rfl (Nat.le_of_ble_eq_true rfl) dX6_readsDependence_89 (fun q38 => ?_)
              have q38 : inR r36 := q38
              refine g_bipush C dX6_readsDependence_92 (by decide) ?_
              refine g_icmp_ne C 114 dX6_readsDependence_94 (by decide) q38 (by decide) (fun c39 => ?_) (fun c39 => ?_)
              · have h := z_f c39 h
                refine g_sub [2, 3, 5, 6, 1, 0] rfl ?_
                refine w_X6_readsDependence_J114 C hR  _ _ _ _ _ _ ha1 ha3 ha4 r12 r23 h
              · have h := z_t c39 h
                refine g_aload_n C dX6_readsDependence_97 2 rfl ?_
                refine g_iload C dX6_readsDependence_98 1 rfl ?_
                obtain ⟨r88, e89, h⟩ := z_b h
                refine g_callI (n := 1) C (fun hM => c_X6_standsAt l hM r12 e89) gX6_readsDependence_X6_standsAt rfl (by decide) ⟨rfl, rfl⟩ ⟨Nat.le_of_ble_eq_true rfl, Nat.le_of_ble_eq_true rfl⟩ rfl ly_c58 (Nat.le_of_ble_eq_true rfl) rfl rfl (rest := []) rfl (Nat.le_of_ble_eq_true rfl) dX6_readsDependence_100 (fun q90 => ?_)
                have q90 : inR r88 := q90
                refine g_aload_n C dX6_readsDependence_103 2 rfl ?_
                refine g_iload C dX6_readsDependence_104 0 rfl ?_
                obtain ⟨r91, e92, h⟩ := z_b h
                refine g_callI (n := 1) C (fun hM => c_X6_standsAt l hM r23 e92) gX6_readsDependence_X6_standsAt rfl (by decide) ⟨rfl, rfl⟩ ⟨Nat.le_of_ble_eq_true rfl, Nat.le_of_ble_eq_true rfl⟩ rfl ly_c58 (Nat.le_of_ble_eq_true rfl) rfl rfl (rest := [.int (Int32.ofInt r88)]) rfl (Nat.le_of_ble_eq_true rfl) dX6_readsDependence_106 (fun q93 => ?_)
                have q93 : inR r91 := q93
                refine g_icmp_lt C 114 dX6_readsDependence_109 (by decide) q90 q93 (fun c94 => ?_) (fun c94 => ?_)
                · have h := z_t c94 h
                  refine g_sub [2, 3, 5, 6, 1, 0] rfl ?_
                  refine w_X6_readsDependence_J114 C hR  _ _ _ _ _ _ ha1 ha3 ha4 r12 r23 h
                · have h := z_f c94 h
                  refine g_iconst C dX6_readsDependence_112 ?_
                  obtain ⟨rfl, rfl⟩ := z_s2 h
                  exact hR _ _ dX6_readsDependence_113 (by show _ = _ ∨ _ = _; decide)
        · have h := z_t c22 h
          refine g_iconst C dX6_readsDependence_57 ?_
          obtain ⟨rfl, rfl⟩ := z_s2 h
          exact hR _ _ dX6_readsDependence_58 (by show _ = _ ∨ _ = _; decide)
    · have h := z_t c11 h
      refine g_iconst C dX6_readsDependence_29 ?_
      obtain ⟨rfl, rfl⟩ := z_s2 h
      exact hR _ _ dX6_readsDependence_30 (by show _ = _ ∨ _ = _; decide)
  · have h := z_t c1 h
    refine g_iconst C dX6_readsDependence_6 ?_
    obtain ⟨rfl, rfl⟩ := z_s2 h
    exact hR _ _ dX6_readsDependence_7 (by show _ = _ ∨ _ = _; decide)
theorem in_X6_commands_X6 : ∀ w ∈ u_ws RX6 TX6 20, w ∈ wsX6_commands := fun _ h => List.mem_cons_of_mem _ (List.mem_append_right _ h)
set_option maxHeartbeats 4000000 in
set_option maxRecDepth 100000 in
theorem w_X6_commands_J103 {p : Program} {l : Launch} {e : Env} {s : State} {m : MethodId} {args : Array Value} {below : List Frame} {meth : Method} {c : Code} {D : va_G} {cy : Nat → ClassId} {ad : Nat → Nat} {A : Nat → Prop} {Q : State → Prop} (C : Cx p s m args meth c cX6_commands RX6 6 wsX6_commands D cy A) {x1 : Int} (hx1 : inR x1) {k22 : Int → Int → Int → MM → Option (Int × MM)} {k135 : Int → MM → Option (Int × MM)} {ro : Int} {σo : MM} (hR : RetI p l e { frames := 3, cells := 0, slots := 0, locals := 71 } s m args below meth c cX6_commands 6 D cy ad A Q 0 ro σo) (hk22 : ∀ (z2 z3 z4 : Int) (σ : MM), inR z2 → inR z3 → inR z4 → k22 z2 z3 z4 σ = some (ro, σo) → G p l e { frames := 3, cells := 0, slots := 0, locals := 71 } s m args below meth c 6 D cy ad A Q 22 [(0, .ref (ad 58)), (1, .int (Int32.ofInt x1)), (2, .int (Int32.ofInt z2)), (3, .int (Int32.ofInt z3)), (4, .int (Int32.ofInt z4))] [] σ) (hk135 : ∀ (z4 : Int) (σ : MM), inR z4 → k135 z4 σ = some (ro, σo) → G p l e { frames := 3, cells := 0, slots := 0, locals := 71 } s m args below meth c 6 D cy ad A Q 135 [(4, .int (Int32.ofInt z4))] [] σ) : ∀ (x2 x3 x4 y0 : Int) (σ : MM) , inR x2 → inR x3 → inR x4 → inR y0 → X6_commands_J103 x1 k22 k135 x2 x3 x4 y0 σ = some (ro, σo) → G p l e { frames := 3, cells := 0, slots := 0, locals := 71 } s m args below meth c 6 D cy ad A Q 103 [(0, .ref (ad 58)), (1, .int (Int32.ofInt x1)), (2, .int (Int32.ofInt x2)), (3, .int (Int32.ofInt x3)), (4, .int (Int32.ofInt x4))] [.int (Int32.ofInt y0), .ref (ad 58)] σ := by
  intro x2 x3 x4 y0 σ hx2 hx3 hx4 hy0 h
  unfold X6_commands_J103 at h
  refine g_iload_n C dX6_commands_103 2 rfl ?_
  refine g_iload_n C dX6_commands_104 3 rfl ?_
  refine g_iload_n C dX6_commands_105 1 rfl ?_
  obtain ⟨⟨r21, σ23⟩, e22, h⟩ := z_b h
  refine g_callI (n := 4) C (fun hM => c_X6_readsDependence l hM hy0 hx2 hx3 hx1 e22) gX6_commands_X6_readsDependence rfl (by decide) ⟨rfl, rfl⟩ ⟨Nat.le_of_ble_eq_true rfl, Nat.le_of_ble_eq_true rfl⟩ rfl ly_c58 (Nat.le_of_ble_eq_true rfl) rfl rfl (rest := []) rfl (Nat.le_of_ble_eq_true rfl) dX6_commands_106 (fun q24 => ?_)
  have q24 : r21 = 0 ∨ r21 = 1 := q24
  refine g_istore C dX6_commands_109 (by decide) (vs' := [(5, .int (Int32.ofInt r21)), (0, .ref (ad 58)), (1, .int (Int32.ofInt x1)), (2, .int (Int32.ofInt x2)), (3, .int (Int32.ofInt x3)), (4, .int (Int32.ofInt x4))]) rfl ?_
  refine g_iinc C dX6_commands_111 (j := 4) rfl (by decide) (vs' := [(3, .int (Int32.ofInt (x3 + 1))), (5, .int (Int32.ofInt r21)), (0, .ref (ad 58)), (1, .int (Int32.ofInt x1)), (2, .int (Int32.ofInt x2)), (4, .int (Int32.ofInt x4))]) rfl ?_
  refine g_iload C dX6_commands_114 1 rfl ?_
  refine g_if_ne C 121 dX6_commands_116 (by decide) (rgT_inR (rt := 1) q24) (fun c25 => ?_) (fun c25 => ?_)
  · have h := z_f c25 h
    refine g_iinc C dX6_commands_121 (j := 5) rfl (by decide) (vs' := [(4, .int (Int32.ofInt (x4 + 1))), (3, .int (Int32.ofInt (x3 + 1))), (5, .int (Int32.ofInt r21)), (0, .ref (ad 58)), (1, .int (Int32.ofInt x1)), (2, .int (Int32.ofInt x2))]) rfl ?_
    refine g_aload_n C dX6_commands_124 3 rfl ?_
    refine gf_X6_6 C in_X6_commands_X6 (List.mem_of_getElem? (i := 2) rfl) dX6_commands_125 (fun r26 => ?_)
    refine g_aload_n C dX6_commands_128 3 rfl ?_
    refine gf_X6_5 C in_X6_commands_X6 (List.mem_of_getElem? (i := 3) rfl) dX6_commands_129 (fun r27 => ?_)
    refine g_icmp_lt C 22 dX6_commands_132 (by decide) r26 r27 (fun c28 => ?_) (fun c28 => ?_)
    · have h := z_t c28 h
      obtain ⟨g29, h⟩ := z_g h
      obtain ⟨g30, h⟩ := z_g h
      refine g_sub [3, 4, 5, 1, 0] rfl ?_
      exact hk22 _ _ _ _ hx2 g29 g30 h
    · have h := z_f c28 h
      obtain ⟨g31, h⟩ := z_g h
      refine g_sub [0] rfl ?_
      exact hk135 _ _ g31 h
  · have h := z_t c25 h
    refine g_iconst C dX6_commands_119 ?_
    obtain ⟨rfl, rfl⟩ := z_s2 h
    exact hR _ _ dX6_commands_120 (by show inR _; decide)
set_option maxHeartbeats 4000000 in
set_option maxRecDepth 100000 in
theorem w_X6_commands_J75 {p : Program} {l : Launch} {e : Env} {s : State} {m : MethodId} {args : Array Value} {below : List Frame} {meth : Method} {c : Code} {D : va_G} {cy : Nat → ClassId} {ad : Nat → Nat} {A : Nat → Prop} {Q : State → Prop} (C : Cx p s m args meth c cX6_commands RX6 6 wsX6_commands D cy A) {x1 : Int} (hx1 : inR x1) {k22 : Int → Int → Int → MM → Option (Int × MM)} {k135 : Int → MM → Option (Int × MM)} {ro : Int} {σo : MM} (hR : RetI p l e { frames := 3, cells := 0, slots := 0, locals := 71 } s m args below meth c cX6_commands 6 D cy ad A Q 0 ro σo) (hk22 : ∀ (z2 z3 z4 : Int) (σ : MM), inR z2 → inR z3 → inR z4 → k22 z2 z3 z4 σ = some (ro, σo) → G p l e { frames := 3, cells := 0, slots := 0, locals := 71 } s m args below meth c 6 D cy ad A Q 22 [(0, .ref (ad 58)), (1, .int (Int32.ofInt x1)), (2, .int (Int32.ofInt z2)), (3, .int (Int32.ofInt z3)), (4, .int (Int32.ofInt z4))] [] σ) (hk135 : ∀ (z4 : Int) (σ : MM), inR z4 → k135 z4 σ = some (ro, σo) → G p l e { frames := 3, cells := 0, slots := 0, locals := 71 } s m args below meth c 6 D cy ad A Q 135 [(4, .int (Int32.ofInt z4))] [] σ) : ∀ (x2 x3 x4 : Int) (σ : MM) , inR x2 → inR x3 → inR x4 → X6_commands_J75 x1 k22 k135 x2 x3 x4 σ = some (ro, σo) → G p l e { frames := 3, cells := 0, slots := 0, locals := 71 } s m args below meth c 6 D cy ad A Q 75 [(0, .ref (ad 58)), (1, .int (Int32.ofInt x1)), (2, .int (Int32.ofInt x2)), (3, .int (Int32.ofInt x3)), (4, .int (Int32.ofInt x4))] [] σ := by
  intro x2 x3 x4 σ hx2 hx3 hx4 h
  unfold X6_commands_J75 at h
  refine g_aload_n C dX6_commands_75 0 rfl ?_
  refine g_aload_n C dX6_commands_76 0 rfl ?_
  obtain ⟨r13, e14, h⟩ := z_b h
  refine g_callI (n := 0) C (fun hM => c_X6_here l hM  e14) gX6_commands_X6_here rfl (by decide) ⟨rfl, rfl⟩ ⟨Nat.le_of_ble_eq_true rfl, Nat.le_of_ble_eq_true rfl⟩ rfl ly_c58 (Nat.le_of_ble_eq_true rfl) rfl rfl (rest := [.ref (ad 58)]) rfl (Nat.le_of_ble_eq_true rfl) dX6_commands_77 (fun q15 => ?_)
  have q15 : inR r13 := q15
  refine g_bipush C dX6_commands_80 (by decide) ?_
  refine g_icmp_ne C 89 dX6_commands_82 (by decide) q15 (by decide) (fun c16 => ?_) (fun c16 => ?_)
  · have h := z_f c16 h
    refine g_aload_n C dX6_commands_89 0 rfl ?_
    obtain ⟨r17, e18, h⟩ := z_b h
    refine g_callI (n := 0) C (fun hM => c_X6_here l hM  e18) gX6_commands_X6_here rfl (by decide) ⟨rfl, rfl⟩ ⟨Nat.le_of_ble_eq_true rfl, Nat.le_of_ble_eq_true rfl⟩ rfl ly_c58 (Nat.le_of_ble_eq_true rfl) rfl rfl (rest := [.ref (ad 58)]) rfl (Nat.le_of_ble_eq_true rfl) dX6_commands_90 (fun q19 => ?_)
    have q19 : inR r17 := q19
    refine g_bipush C dX6_commands_93 (by decide) ?_
    refine g_icmp_ne C 102 dX6_commands_95 (by decide) q19 (by decide) (fun c20 => ?_) (fun c20 => ?_)
    · have h := z_f c20 h
      refine g_iconst C dX6_commands_102 ?_
      refine g_sub [0, 1, 2, 3, 4] rfl ?_
      refine w_X6_commands_J103 C hx1 hR hk22 hk135 _ _ _ _ _ hx2 hx3 hx4 (by decide) h
    · have h := z_t c20 h
      refine g_iconst C dX6_commands_98 ?_
      refine g_goto C 103 dX6_commands_99 (by decide) ?_
      refine g_sub [0, 1, 2, 3, 4] rfl ?_
      refine w_X6_commands_J103 C hx1 hR hk22 hk135 _ _ _ _ _ hx2 hx3 hx4 (by decide) h
  · have h := z_t c16 h
    refine g_iconst C dX6_commands_85 ?_
    refine g_goto C 103 dX6_commands_86 (by decide) ?_
    refine g_sub [0, 1, 2, 3, 4] rfl ?_
    refine w_X6_commands_J103 C hx1 hR hk22 hk135 _ _ _ _ _ hx2 hx3 hx4 (by decide) h
set_option maxHeartbeats 4000000 in
set_option maxRecDepth 100000 in
theorem w_X6_commands_L22 {p : Program} {l : Launch} {e : Env} {s : State} {m : MethodId} {args : Array Value} {below : List Frame} {meth : Method} {c : Code} {D : va_G} {cy : Nat → ClassId} {ad : Nat → Nat} {A : Nat → Prop} {Q : State → Prop} (C : Cx p s m args meth c cX6_commands RX6 6 wsX6_commands D cy A) {x1 : Int} (hx1 : inR x1) {k135 : Int → MM → Option (Int × MM)} {ro : Int} {σo : MM} (hR : RetI p l e { frames := 3, cells := 0, slots := 0, locals := 71 } s m args below meth c cX6_commands 6 D cy ad A Q 0 ro σo) (hk135 : ∀ (z4 : Int) (σ : MM), inR z4 → k135 z4 σ = some (ro, σo) → G p l e { frames := 3, cells := 0, slots := 0, locals := 71 } s m args below meth c 6 D cy ad A Q 135 [(4, .int (Int32.ofInt z4))] [] σ) : ∀ (n : Nat) (x2 x3 x4 : Int) (σ : MM) , inR x2 → inR x3 → inR x4 → X6_commands_L22 x1 k135 n x2 x3 x4 σ = some (ro, σo) → G p l e { frames := 3, cells := 0, slots := 0, locals := 71 } s m args below meth c 6 D cy ad A Q 22 [(0, .ref (ad 58)), (1, .int (Int32.ofInt x1)), (2, .int (Int32.ofInt x2)), (3, .int (Int32.ofInt x3)), (4, .int (Int32.ofInt x4))] [] σ := by
  intro n
  induction n with
  | zero =>
    intro x2 x3 x4 σ hx2 hx3 hx4 h
    cases h
  | succ n ih =>
    intro x2 x3 x4 σ hx2 hx3 hx4 h
    rw [X6_commands_L22] at h
    refine g_iconst C dX6_commands_22 ?_
    refine g_istore C dX6_commands_23 (by decide) (vs' := [(5, .int (Int32.ofInt 0)), (0, .ref (ad 58)), (1, .int (Int32.ofInt x1)), (2, .int (Int32.ofInt x2)), (3, .int (Int32.ofInt x3)), (4, .int (Int32.ofInt x4))]) rfl ?_
    refine g_aload_n C dX6_commands_25 1 rfl ?_
    obtain ⟨r5, e6, h⟩ := z_b h
    refine g_callI (n := 0) C (fun hM => c_X6_here l hM  e6) gX6_commands_X6_here rfl (by decide) ⟨rfl, rfl⟩ ⟨Nat.le_of_ble_eq_true rfl, Nat.le_of_ble_eq_true rfl⟩ rfl ly_c58 (Nat.le_of_ble_eq_true rfl) rfl rfl (rest := []) rfl (Nat.le_of_ble_eq_true rfl) dX6_commands_26 (fun q7 => ?_)
    have q7 : inR r5 := q7
    refine g_bipush C dX6_commands_29 (by decide) ?_
    refine g_icmp_ne C 48 dX6_commands_31 (by decide) q7 (by decide) (fun c8 => ?_) (fun c8 => ?_)
    · have h := z_f c8 h
      refine g_aload_n C dX6_commands_48 1 rfl ?_
      obtain ⟨r9, e10, h⟩ := z_b h
      refine g_callI (n := 0) C (fun hM => c_X6_here l hM  e10) gX6_commands_X6_here rfl (by decide) ⟨rfl, rfl⟩ ⟨Nat.le_of_ble_eq_true rfl, Nat.le_of_ble_eq_true rfl⟩ rfl ly_c58 (Nat.le_of_ble_eq_true rfl) rfl rfl (rest := []) rfl (Nat.le_of_ble_eq_true rfl) dX6_commands_49 (fun q11 => ?_)
      have q11 : inR r9 := q11
      refine g_bipush C dX6_commands_52 (by decide) ?_
      refine g_icmp_eq C 75 dX6_commands_54 (by decide) q11 (by decide) (fun c12 => ?_) (fun c12 => ?_)
      · have h := z_t c12 h
        refine g_sub [1, 2, 3, 4, 5] rfl ?_
        refine w_X6_commands_J75 C hx1 hR ih hk135 _ _ _ _ hx2 hx3 hx4 h
      · have h := z_f c12 h
        refine g_aload_n C dX6_commands_57 1 rfl ?_
        obtain ⟨r32, e33, h⟩ := z_b h
        refine g_callI (n := 0) C (fun hM => c_X6_here l hM  e33) gX6_commands_X6_here rfl (by decide) ⟨rfl, rfl⟩ ⟨Nat.le_of_ble_eq_true rfl, Nat.le_of_ble_eq_true rfl⟩ rfl ly_c58 (Nat.le_of_ble_eq_true rfl) rfl rfl (rest := []) rfl (Nat.le_of_ble_eq_true rfl) dX6_commands_58 (fun q34 => ?_)
        have q34 : inR r32 := q34
        refine g_bipush C dX6_commands_61 (by decide) ?_
        refine g_icmp_eq C 75 dX6_commands_63 (by decide) q34 (by decide) (fun c35 => ?_) (fun c35 => ?_)
        · have h := z_t c35 h
          refine g_sub [1, 2, 3, 4, 5] rfl ?_
          refine w_X6_commands_J75 C hx1 hR ih hk135 _ _ _ _ hx2 hx3 hx4 h
        · have h := z_f c35 h
          refine g_aload_n C dX6_commands_66 1 rfl ?_
          obtain ⟨r36, e37, h⟩ := z_b h
          refine g_callI (n := 0) C (fun hM => c_X6_here l hM  e37) gX6_commands_X6_here rfl (by decide) ⟨rfl, rfl⟩ ⟨Nat.le_of_ble_eq_true rfl, Nat.le_of_ble_eq_true rfl⟩ rfl ly_c58 (Nat.le_of_ble_eq_true rfl) rfl rfl (rest := []) rfl (Nat.le_of_ble_eq_true rfl) dX6_commands_67 (fun q38 => ?_)
          have q38 : inR r36 := q38
          refine g_bipush C dX6_commands_70 (by decide) ?_
          refine g_icmp_ne C 114 dX6_commands_72 (by decide) q38 (by decide) (fun c39 => ?_) (fun c39 => ?_)
          · have h := z_f c39 h
            refine g_iload C dX6_commands_114 0 rfl ?_
            refine g_if_ne C 121 dX6_commands_116 (by decide) (by decide) (fun c40 => ?_) (fun c40 => ?_)
            · exact absurd (by decide) c40
            ·
              refine g_iconst C dX6_commands_119 ?_
              obtain ⟨rfl, rfl⟩ := z_s2 h
              exact hR _ _ dX6_commands_120 (by show inR _; decide)
          · have h := z_t c39 h
            refine g_sub [1, 2, 3, 4, 5] rfl ?_
            refine w_X6_commands_J75 C hx1 hR ih hk135 _ _ _ _ hx2 hx3 hx4 h
    · have h := z_t c8 h
      refine g_aload_n C dX6_commands_34 1 rfl ?_
      refine g_iload_n C dX6_commands_35 3 rfl ?_
      refine g_iload_n C dX6_commands_36 2 rfl ?_
      obtain ⟨⟨r41, σ43⟩, e42, h⟩ := z_b h
      refine g_callI (n := 2) C (fun hM => c_X6_readsStatement l hM hx2 hx1 e42) gX6_commands_X6_readsStatement rfl (by decide) ⟨rfl, rfl⟩ ⟨Nat.le_of_ble_eq_true rfl, Nat.le_of_ble_eq_true rfl⟩ rfl ly_c58 (Nat.le_of_ble_eq_true rfl) rfl rfl (rest := []) rfl (Nat.le_of_ble_eq_true rfl) dX6_commands_37 (fun q44 => ?_)
      have q44 : r41 = 0 ∨ r41 = 1 := q44
      refine g_istore C dX6_commands_40 (by decide) (vs' := [(5, .int (Int32.ofInt r41)), (0, .ref (ad 58)), (1, .int (Int32.ofInt x1)), (2, .int (Int32.ofInt x2)), (3, .int (Int32.ofInt x3)), (4, .int (Int32.ofInt x4))]) rfl ?_
      refine g_iinc C dX6_commands_42 (j := 3) rfl (by decide) (vs' := [(2, .int (Int32.ofInt (x2 + 1))), (5, .int (Int32.ofInt r41)), (0, .ref (ad 58)), (1, .int (Int32.ofInt x1)), (3, .int (Int32.ofInt x3)), (4, .int (Int32.ofInt x4))]) rfl ?_
      refine g_goto C 114 dX6_commands_45 (by decide) ?_
      refine g_iload C dX6_commands_114 1 rfl ?_
      refine g_if_ne C 121 dX6_commands_116 (by decide) (rgT_inR (rt := 1) q44) (fun c45 => ?_) (fun c45 => ?_)
      · have h := z_f c45 h
        refine g_iinc C dX6_commands_121 (j := 5) rfl (by decide) (vs' := [(4, .int (Int32.ofInt (x4 + 1))), (2, .int (Int32.ofInt (x2 + 1))), (5, .int (Int32.ofInt r41)), (0, .ref (ad 58)), (1, .int (Int32.ofInt x1)), (3, .int (Int32.ofInt x3))]) rfl ?_
        refine g_aload_n C dX6_commands_124 3 rfl ?_
        refine gf_X6_6 C in_X6_commands_X6 (List.mem_of_getElem? (i := 2) rfl) dX6_commands_125 (fun r46 => ?_)
        refine g_aload_n C dX6_commands_128 3 rfl ?_
        refine gf_X6_5 C in_X6_commands_X6 (List.mem_of_getElem? (i := 3) rfl) dX6_commands_129 (fun r47 => ?_)
        refine g_icmp_lt C 22 dX6_commands_132 (by decide) r46 r47 (fun c48 => ?_) (fun c48 => ?_)
        · have h := z_t c48 h
          obtain ⟨g49, h⟩ := z_g h
          obtain ⟨g50, h⟩ := z_g h
          refine g_sub [3, 4, 1, 5, 0] rfl ?_
          exact ih _ _ _ _ g49 hx3 g50 h
        · have h := z_f c48 h
          obtain ⟨g51, h⟩ := z_g h
          refine g_sub [0] rfl ?_
          exact hk135 _ _ g51 h
      · have h := z_t c45 h
        refine g_iconst C dX6_commands_119 ?_
        obtain ⟨rfl, rfl⟩ := z_s2 h
        exact hR _ _ dX6_commands_120 (by show inR _; decide)
set_option maxHeartbeats 4000000 in
set_option maxRecDepth 100000 in
theorem c_X6_commands (l : Launch) {σ : MM} (hM : okM σ) {a1 : Int} (ha1 : inR a1) {ro : Int} {σo : MM} (h : X6_commands a1 σ = some (ro, σo)) : CtI l yX6_commands wsX6_commands { frames := 3, cells := 0, slots := 0, locals := 71 } (fun ad : Nat → Nat => [.ref (ad 58), .int (Int32.ofInt a1)]) σ 0 ro σo := by
  unfold X6_commands at h
  refine z_ctI (cc := cX6_commands) (maxL := 6) (rt := 0) hM (by decide) rfl (fun _ => Nat.le_of_ble_eq_true rfl) (@fun p e s m args below meth c D cy ad A Q C hR => ?_)
  refine g_sub (vs' := [(0, .ref (ad 58)), (1, .int (Int32.ofInt a1))]) [0, 1] rfl ?_
  refine g_aload_n C dX6_commands_0 0 rfl ?_
  refine gf_X6_0 C in_X6_commands_X6 (List.mem_of_getElem? (i := 1) rfl) dX6_commands_1 ?_
  refine g_iconst C dX6_commands_4 ?_
  refine g_iald C ly_c59 (Nat.le_of_ble_eq_true rfl) (by decide) (by decide) dX6_commands_5 (fun r1 => ?_)
  refine g_istore_n C dX6_commands_6 (by decide) (vs' := [(2, .int (Int32.ofInt (σ 59 0))), (0, .ref (ad 58)), (1, .int (Int32.ofInt a1))]) rfl ?_
  refine g_aload_n C dX6_commands_7 1 rfl ?_
  refine gf_X6_0 C in_X6_commands_X6 (List.mem_of_getElem? (i := 1) rfl) dX6_commands_8 ?_
  refine g_iconst C dX6_commands_11 ?_
  refine g_iald C ly_c59 (Nat.le_of_ble_eq_true rfl) (by decide) (by decide) dX6_commands_12 (fun r2 => ?_)
  refine g_istore_n C dX6_commands_13 (by decide) (vs' := [(3, .int (Int32.ofInt (σ 59 1))), (2, .int (Int32.ofInt (σ 59 0))), (0, .ref (ad 58)), (1, .int (Int32.ofInt a1))]) rfl ?_
  refine g_iconst C dX6_commands_14 ?_
  refine g_istore C dX6_commands_15 (by decide) (vs' := [(4, .int (Int32.ofInt 0)), (3, .int (Int32.ofInt (σ 59 1))), (2, .int (Int32.ofInt (σ 59 0))), (0, .ref (ad 58)), (1, .int (Int32.ofInt a1))]) rfl ?_
  refine g_aload_n C dX6_commands_17 3 rfl ?_
  refine g_iconst C dX6_commands_18 ?_
  refine gp_X6_6 C in_X6_commands_X6 (List.mem_of_getElem? (i := 2) rfl) (by decide) dX6_commands_19 ?_
  obtain ⟨σ3, e4, h⟩ := z_l h
  refine g_mem e4 ?_
  refine g_sub [3, 4, 2, 1, 0] rfl ?_
  refine w_X6_commands_L22 C ha1 hR ?_ _ _ _ _ _ r1 r2 (by decide) h
  · intro z52 σ53 hz52 h
    refine g_iload C dX6_commands_135 0 rfl ?_
    obtain ⟨rfl, rfl⟩ := z_s2 h
    exact hR _ _ dX6_commands_137 hz52
theorem in_X6_execute_X6 : ∀ w ∈ u_ws RX6 TX6 20, w ∈ wsX6_execute := fun _ h => List.mem_cons_of_mem _ (List.mem_append_right _ h)
set_option maxHeartbeats 4000000 in
set_option maxRecDepth 100000 in
theorem w_X6_execute_J24 {p : Program} {l : Launch} {e : Env} {s : State} {m : MethodId} {args : Array Value} {below : List Frame} {meth : Method} {c : Code} {D : va_G} {cy : Nat → ClassId} {ad : Nat → Nat} {A : Nat → Prop} {Q : State → Prop} (C : Cx p s m args meth c cX6_execute RX6 2 wsX6_execute D cy A) {ro : Int} {σo : MM} (hR : RetI p l e { frames := 4, cells := 0, slots := 0, locals := 96 } s m args below meth c cX6_execute 2 D cy ad A Q 0 ro σo)  : ∀ (x1 y0 : Int) (σ : MM) , inR x1 → inR y0 → X6_execute_J24 x1 y0 σ = some (ro, σo) → G p l e { frames := 4, cells := 0, slots := 0, locals := 96 } s m args below meth c 2 D cy ad A Q 24 [(0, .ref (ad 58)), (1, .int (Int32.ofInt x1))] [.int (Int32.ofInt y0), .ref (ad 58)] σ := by
  intro x1 y0 σ hx1 hy0 h
  unfold X6_execute_J24 at h
  refine gp_X6_7 C in_X6_execute_X6 (List.mem_of_getElem? (i := 3) rfl) hy0 dX6_execute_24 ?_
  obtain ⟨σ8, e9, h⟩ := z_l h
  refine g_mem e9 ?_
  refine g_iload_n C dX6_execute_27 1 rfl ?_
  refine g_if_lt C 37 dX6_execute_28 (by decide) hx1 (fun c10 => ?_) (fun c10 => ?_)
  · have h := z_t c10 h
    refine g_aload_n C dX6_execute_37 0 rfl ?_
    refine g_iconst C dX6_execute_38 ?_
    refine gp_X6_5 C in_X6_execute_X6 (List.mem_of_getElem? (i := 4) rfl) (by decide) dX6_execute_39 ?_
    obtain ⟨σ11, e12, h⟩ := z_l h
    refine g_mem e12 ?_
    refine g_iload_n C dX6_execute_42 1 rfl ?_
    refine g_if_ge C 54 dX6_execute_43 (by decide) hx1 (fun c13 => ?_) (fun c13 => ?_)
    · have h := z_f c13 h
      refine g_iload_n C dX6_execute_54 1 rfl ?_
      obtain ⟨rfl, rfl⟩ := z_s2 h
      exact hR _ _ dX6_execute_55 hx1
    · have h := z_t c13 h
      refine g_aload_n C dX6_execute_46 0 rfl ?_
      refine g_iconst C dX6_execute_47 ?_
      obtain ⟨⟨r14, σ16⟩, e15, h⟩ := z_b h
      refine g_callI (n := 1) C (fun hM => c_X6_fails l hM (by decide) e15) gX6_execute_X6_fails rfl (by decide) ⟨rfl, rfl⟩ ⟨Nat.le_of_ble_eq_true rfl, Nat.le_of_ble_eq_true rfl⟩ rfl ly_c58 (Nat.le_of_ble_eq_true rfl) rfl rfl (rest := []) rfl (Nat.le_of_ble_eq_true rfl) dX6_execute_48 (fun q17 => ?_)
      have q17 : inR r14 := q17
      refine g_goto C 55 dX6_execute_51 (by decide) ?_
      obtain ⟨rfl, rfl⟩ := z_s2 h
      exact hR _ _ dX6_execute_55 q17
  · have h := z_f c10 h
    refine g_aload_n C dX6_execute_31 0 rfl ?_
    refine g_iconst C dX6_execute_32 ?_
    obtain ⟨⟨r18, σ20⟩, e19, h⟩ := z_b h
    refine g_callI (n := 1) C (fun hM => c_X6_commands l hM (by decide) e19) gX6_execute_X6_commands rfl (by decide) ⟨rfl, rfl⟩ ⟨Nat.le_of_ble_eq_true rfl, Nat.le_of_ble_eq_true rfl⟩ rfl ly_c58 (Nat.le_of_ble_eq_true rfl) rfl rfl (rest := []) rfl (Nat.le_of_ble_eq_true rfl) dX6_execute_33 (fun q21 => ?_)
    have q21 : inR r18 := q21
    refine g_pop C dX6_execute_36 rfl ?_
    refine g_aload_n C dX6_execute_37 0 rfl ?_
    refine g_iconst C dX6_execute_38 ?_
    refine gp_X6_5 C in_X6_execute_X6 (List.mem_of_getElem? (i := 4) rfl) (by decide) dX6_execute_39 ?_
    obtain ⟨σ22, e23, h⟩ := z_l h
    refine g_mem e23 ?_
    refine g_iload_n C dX6_execute_42 1 rfl ?_
    refine g_if_ge C 54 dX6_execute_43 (by decide) hx1 (fun c24 => ?_) (fun c24 => ?_)
    · have h := z_f c24 h
      refine g_iload_n C dX6_execute_54 1 rfl ?_
      obtain ⟨rfl, rfl⟩ := z_s2 h
      exact hR _ _ dX6_execute_55 hx1
    · have h := z_t c24 h
      refine g_aload_n C dX6_execute_46 0 rfl ?_
      refine g_iconst C dX6_execute_47 ?_
      obtain ⟨⟨r25, σ27⟩, e26, h⟩ := z_b h
      refine g_callI (n := 1) C (fun hM => c_X6_fails l hM (by decide) e26) gX6_execute_X6_fails rfl (by decide) ⟨rfl, rfl⟩ ⟨Nat.le_of_ble_eq_true rfl, Nat.le_of_ble_eq_true rfl⟩ rfl ly_c58 (Nat.le_of_ble_eq_true rfl) rfl rfl (rest := []) rfl (Nat.le_of_ble_eq_true rfl) dX6_execute_48 (fun q28 => ?_)
      have q28 : inR r25 := q28
      refine g_goto C 55 dX6_execute_51 (by decide) ?_
      obtain ⟨rfl, rfl⟩ := z_s2 h
      exact hR _ _ dX6_execute_55 q28
set_option maxHeartbeats 4000000 in
set_option maxRecDepth 100000 in
theorem c_X6_execute (l : Launch) {σ : MM} (hM : okM σ) {ro : Int} {σo : MM} (h : X6_execute σ = some (ro, σo)) : CtI l yX6_execute wsX6_execute { frames := 4, cells := 0, slots := 0, locals := 96 } (fun ad : Nat → Nat => [.ref (ad 58)]) σ 0 ro σo := by
  unfold X6_execute at h
  refine z_ctI (cc := cX6_execute) (maxL := 2) (rt := 0) hM (by decide) rfl (fun _ => Nat.le_of_ble_eq_true rfl) (@fun p e s m args below meth c D cy ad A Q C hR => ?_)
  refine g_sub (vs' := [(0, .ref (ad 58))]) [0] rfl ?_
  refine g_aload_n C dX6_execute_0 0 rfl ?_
  refine g_iconst C dX6_execute_1 ?_
  refine gp_X6_3 C in_X6_execute_X6 (List.mem_of_getElem? (i := 1) rfl) (by decide) dX6_execute_2 ?_
  obtain ⟨σ1, e2, h⟩ := z_l h
  refine g_mem e2 ?_
  refine g_aload_n C dX6_execute_5 0 rfl ?_
  refine g_iconst C dX6_execute_6 ?_
  obtain ⟨⟨r3, σ5⟩, e4, h⟩ := z_b h
  refine g_callI (n := 1) C (fun hM => c_X6_commands l hM (by decide) e4) gX6_execute_X6_commands rfl (by decide) ⟨rfl, rfl⟩ ⟨Nat.le_of_ble_eq_true rfl, Nat.le_of_ble_eq_true rfl⟩ rfl ly_c58 (Nat.le_of_ble_eq_true rfl) rfl rfl (rest := []) rfl (Nat.le_of_ble_eq_true rfl) dX6_execute_7 (fun q6 => ?_)
  have q6 : inR r3 := q6
  refine g_istore_n C dX6_execute_10 (by decide) (vs' := [(1, .int (Int32.ofInt r3)), (0, .ref (ad 58))]) rfl ?_
  refine g_aload_n C dX6_execute_11 1 rfl ?_
  refine g_iload_n C dX6_execute_12 0 rfl ?_
  refine g_if_ge C 23 dX6_execute_13 (by decide) q6 (fun c7 => ?_) (fun c7 => ?_)
  · have h := z_f c7 h
    refine g_iconst C dX6_execute_23 ?_
    refine g_sub [1, 0] rfl ?_
    refine w_X6_execute_J24 C hR  _ _ _ q6 (by decide) h
  · have h := z_t c7 h
    refine g_aload_n C dX6_execute_16 1 rfl ?_
    refine gf_X6_6 C in_X6_execute_X6 (List.mem_of_getElem? (i := 2) rfl) dX6_execute_17 (fun r29 => ?_)
    refine g_goto C 24 dX6_execute_20 (by decide) ?_
    refine g_sub [1, 0] rfl ?_
    refine w_X6_execute_J24 C hR  _ _ _ q6 r29 h
theorem in_X6_setCost_X6 : ∀ w ∈ u_ws RX6 TX6 20, w ∈ wsX6_setCost := fun _ h => List.mem_cons_of_mem _ (List.mem_append_right _ h)
set_option maxHeartbeats 4000000 in
set_option maxRecDepth 100000 in
theorem c_X6_setCost (l : Launch) {σ : MM} (hM : okM σ) {a1 : Int} (ha1 : inR a1) {a2 : Int} (ha2 : inR a2) {ro : Int} {σo : MM} (h : X6_setCost a1 a2 σ = some (ro, σo)) : CtI l yX6_setCost wsX6_setCost { frames := 2, cells := 0, slots := 0, locals := 43 } (fun ad : Nat → Nat => [.ref (ad 58), .int (Int32.ofInt a1), .int (Int32.ofInt a2)]) σ 0 ro σo := by
  unfold X6_setCost at h
  refine z_ctI (cc := cX6_setCost) (maxL := 4) (rt := 0) hM (by decide) rfl (fun _ => Nat.le_of_ble_eq_true rfl) (@fun p e s m args below meth c D cy ad A Q C hR => ?_)
  refine g_sub (vs' := [(0, .ref (ad 58)), (1, .int (Int32.ofInt a1)), (2, .int (Int32.ofInt a2))]) [0, 1, 2] rfl ?_
  refine g_aload_n C dX6_setCost_0 0 rfl ?_
  refine g_iconst C dX6_setCost_1 ?_
  refine gp_X6_3 C in_X6_setCost_X6 (List.mem_of_getElem? (i := 1) rfl) (by decide) dX6_setCost_2 ?_
  obtain ⟨σ1, e2, h⟩ := z_l h
  refine g_mem e2 ?_
  refine g_aload_n C dX6_setCost_5 0 rfl ?_
  refine g_iload_n C dX6_setCost_6 1 rfl ?_
  obtain ⟨r3, e4, h⟩ := z_b h
  refine g_callI (n := 1) C (fun hM => c_X6_isStatement l hM ha1 e4) gX6_setCost_X6_isStatement rfl (by decide) ⟨rfl, rfl⟩ ⟨Nat.le_of_ble_eq_true rfl, Nat.le_of_ble_eq_true rfl⟩ rfl ly_c58 (Nat.le_of_ble_eq_true rfl) rfl rfl (rest := []) rfl (Nat.le_of_ble_eq_true rfl) dX6_setCost_7 (fun q5 => ?_)
  have q5 : r3 = 0 ∨ r3 = 1 := q5
  refine g_if_ne C 19 dX6_setCost_10 (by decide) (rgT_inR (rt := 1) q5) (fun c6 => ?_) (fun c6 => ?_)
  · have h := z_f c6 h
    refine g_iload_n C dX6_setCost_19 2 rfl ?_
    refine g_iconst C dX6_setCost_20 ?_
    refine g_bipush C dX6_setCost_21 (by decide) ?_
    obtain ⟨r7, e8, h⟩ := z_b h
    refine g_callS (n := 3) C (fun hM => c_X6_in l hM ha2 (by decide) (by decide) e8) gX6_setCost_X6_in rfl (by decide) ⟨rfl, rfl⟩ ⟨Nat.le_of_ble_eq_true rfl, Nat.le_of_ble_eq_true rfl⟩ rfl rfl (rest := []) rfl (Nat.le_of_ble_eq_true rfl) dX6_setCost_23 (fun q9 => ?_)
    have q9 : r7 = 0 ∨ r7 = 1 := q9
    refine g_if_ne C 35 dX6_setCost_26 (by decide) (rgT_inR (rt := 1) q9) (fun c10 => ?_) (fun c10 => ?_)
    · have h := z_f c10 h
      refine g_aload_n C dX6_setCost_35 0 rfl ?_
      refine g_iload_n C dX6_setCost_36 1 rfl ?_
      obtain ⟨r11, e12, h⟩ := z_b h
      refine g_callI (n := 1) C (fun hM => c_X6_cost l hM ha1 e12) gX6_setCost_X6_cost rfl (by decide) ⟨rfl, rfl⟩ ⟨Nat.le_of_ble_eq_true rfl, Nat.le_of_ble_eq_true rfl⟩ rfl ly_c58 (Nat.le_of_ble_eq_true rfl) rfl rfl (rest := []) rfl (Nat.le_of_ble_eq_true rfl) dX6_setCost_37 (fun q13 => ?_)
      have q13 : inR r11 := q13
      refine g_istore_n C dX6_setCost_40 (by decide) (vs' := [(3, .int (Int32.ofInt r11)), (0, .ref (ad 58)), (1, .int (Int32.ofInt a1)), (2, .int (Int32.ofInt a2))]) rfl ?_
      refine g_aload_n C dX6_setCost_41 1 rfl ?_
      refine gf_X6_0 C in_X6_setCost_X6 (List.mem_of_getElem? (i := 2) rfl) dX6_setCost_42 ?_
      refine g_bipush C dX6_setCost_45 (by decide) ?_
      refine g_iload_n C dX6_setCost_47 2 rfl ?_
      refine g_iadd C dX6_setCost_48 ?_
      refine g_iload_n C dX6_setCost_49 3 rfl ?_
      obtain ⟨g14, h⟩ := z_g h
      refine g_iast C ly_c59 (Nat.le_of_ble_eq_true rfl) (by decide) g14 ha2 dX6_setCost_50 ?_
      obtain ⟨σ15, e16, h⟩ := z_l h
      refine g_mem e16 ?_
      refine g_iload_n C dX6_setCost_51 0 rfl ?_
      obtain ⟨rfl, rfl⟩ := z_s2 h
      exact hR _ _ dX6_setCost_52 q13
    · have h := z_t c10 h
      refine g_aload_n C dX6_setCost_29 0 rfl ?_
      refine g_iconst C dX6_setCost_30 ?_
      obtain ⟨⟨r17, σ19⟩, e18, h⟩ := z_b h
      refine g_callI (n := 1) C (fun hM => c_X6_fails l hM (by decide) e18) gX6_setCost_X6_fails rfl (by decide) ⟨rfl, rfl⟩ ⟨Nat.le_of_ble_eq_true rfl, Nat.le_of_ble_eq_true rfl⟩ rfl ly_c58 (Nat.le_of_ble_eq_true rfl) rfl rfl (rest := []) rfl (Nat.le_of_ble_eq_true rfl) dX6_setCost_31 (fun q20 => ?_)
      have q20 : inR r17 := q20
      obtain ⟨rfl, rfl⟩ := z_s2 h
      exact hR _ _ dX6_setCost_34 q20
  · have h := z_t c6 h
    refine g_aload_n C dX6_setCost_13 0 rfl ?_
    refine g_iconst C dX6_setCost_14 ?_
    obtain ⟨⟨r21, σ23⟩, e22, h⟩ := z_b h
    refine g_callI (n := 1) C (fun hM => c_X6_fails l hM (by decide) e22) gX6_setCost_X6_fails rfl (by decide) ⟨rfl, rfl⟩ ⟨Nat.le_of_ble_eq_true rfl, Nat.le_of_ble_eq_true rfl⟩ rfl ly_c58 (Nat.le_of_ble_eq_true rfl) rfl rfl (rest := []) rfl (Nat.le_of_ble_eq_true rfl) dX6_setCost_15 (fun q24 => ?_)
    have q24 : inR r21 := q24
    obtain ⟨rfl, rfl⟩ := z_s2 h
    exact hR _ _ dX6_setCost_18 q24
set_option maxHeartbeats 4000000 in
set_option maxRecDepth 100000 in
theorem c_X6_maySet (l : Launch) {σ : MM} (hM : okM σ) {a1 : Int} (ha1 : inR a1) {a2 : Int} (ha2 : inR a2) {ro : Int} (h : X6_maySet a1 a2 σ = some ro) : CtI l yX6_maySet wsX6_maySet { frames := 1, cells := 0, slots := 0, locals := 22 } (fun ad : Nat → Nat => [.int (Int32.ofInt a1), .int (Int32.ofInt a2)]) σ 1 ro σ := by
  unfold X6_maySet at h
  refine z_ctI (cc := cX6_maySet) (maxL := 2) (rt := 1) hM (by decide) rfl (fun _ => Nat.le_of_ble_eq_true rfl) (@fun p e s m args below meth c D cy ad A Q C hR => ?_)
  refine g_sub (vs' := [(0, .int (Int32.ofInt a1)), (1, .int (Int32.ofInt a2))]) [0, 1] rfl ?_
  refine g_iload_n C dX6_maySet_0 0 rfl ?_
  by_cases c1 : a1 = 0
  · have h := z_t c1 h
    refine g_tsw C 32 0 dX6_maySet_1 ha1 c1 (by decide) (by decide) rfl (by decide) ?_
    refine g_iload_n C dX6_maySet_32 1 rfl ?_
    refine g_iconst C dX6_maySet_33 ?_
    refine g_bipush C dX6_maySet_34 (by decide) ?_
    obtain ⟨r2, e3, h⟩ := z_b h
    refine g_callS (n := 3) C (fun hM => c_X6_in l hM ha2 (by decide) (by decide) e3) gX6_maySet_X6_in rfl (by decide) ⟨rfl, rfl⟩ ⟨Nat.le_of_ble_eq_true rfl, Nat.le_of_ble_eq_true rfl⟩ rfl rfl (rest := []) rfl (Nat.le_of_ble_eq_true rfl) dX6_maySet_36 (fun q4 => ?_)
    have q4 : r2 = 0 ∨ r2 = 1 := q4
    obtain rfl := z_s1 h
    exact hR _ _ dX6_maySet_39 q4
  have h := z_f c1 h
  by_cases c5 : a1 = 1
  · have h := z_t c5 h
    refine g_tsw C 40 1 dX6_maySet_1 ha1 c5 (by decide) (by decide) rfl (by decide) ?_
    refine g_iload_n C dX6_maySet_40 1 rfl ?_
    refine g_iconst C dX6_maySet_41 ?_
    refine g_iconst C dX6_maySet_42 ?_
    obtain ⟨r6, e7, h⟩ := z_b h
    refine g_callS (n := 3) C (fun hM => c_X6_in l hM ha2 (by decide) (by decide) e7) gX6_maySet_X6_in rfl (by decide) ⟨rfl, rfl⟩ ⟨Nat.le_of_ble_eq_true rfl, Nat.le_of_ble_eq_true rfl⟩ rfl rfl (rest := []) rfl (Nat.le_of_ble_eq_true rfl) dX6_maySet_43 (fun q8 => ?_)
    have q8 : r6 = 0 ∨ r6 = 1 := q8
    obtain rfl := z_s1 h
    exact hR _ _ dX6_maySet_46 q8
  have h := z_f c5 h
  by_cases c9 : a1 = 2
  · have h := z_t c9 h
    refine g_tsw C 47 2 dX6_maySet_1 ha1 c9 (by decide) (by decide) rfl (by decide) ?_
    refine g_iload_n C dX6_maySet_47 1 rfl ?_
    refine g_iconst C dX6_maySet_48 ?_
    refine g_bipush C dX6_maySet_49 (by decide) ?_
    obtain ⟨r10, e11, h⟩ := z_b h
    refine g_callS (n := 3) C (fun hM => c_X6_in l hM ha2 (by decide) (by decide) e11) gX6_maySet_X6_in rfl (by decide) ⟨rfl, rfl⟩ ⟨Nat.le_of_ble_eq_true rfl, Nat.le_of_ble_eq_true rfl⟩ rfl rfl (rest := []) rfl (Nat.le_of_ble_eq_true rfl) dX6_maySet_51 (fun q12 => ?_)
    have q12 : r10 = 0 ∨ r10 = 1 := q12
    obtain rfl := z_s1 h
    exact hR _ _ dX6_maySet_54 q12
  have h := z_f c9 h
  by_cases c13 : a1 = 3
  · have h := z_t c13 h
    refine g_tsw C 55 3 dX6_maySet_1 ha1 c13 (by decide) (by decide) rfl (by decide) ?_
    refine g_iload_n C dX6_maySet_55 1 rfl ?_
    refine g_iconst C dX6_maySet_56 ?_
    refine g_iconst C dX6_maySet_57 ?_
    obtain ⟨r14, e15, h⟩ := z_b h
    refine g_callS (n := 3) C (fun hM => c_X6_in l hM ha2 (by decide) (by decide) e15) gX6_maySet_X6_in rfl (by decide) ⟨rfl, rfl⟩ ⟨Nat.le_of_ble_eq_true rfl, Nat.le_of_ble_eq_true rfl⟩ rfl rfl (rest := []) rfl (Nat.le_of_ble_eq_true rfl) dX6_maySet_58 (fun q16 => ?_)
    have q16 : r14 = 0 ∨ r14 = 1 := q16
    obtain rfl := z_s1 h
    exact hR _ _ dX6_maySet_61 q16
  have h := z_f c13 h
  refine g_tswD C 62 dX6_maySet_1 ha1 (by omega) (by decide) ?_
  refine g_iconst C dX6_maySet_62 ?_
  obtain rfl := z_s1 h
  exact hR _ _ dX6_maySet_63 (by show _ = _ ∨ _ = _; decide)
theorem in_X6_set_X6 : ∀ w ∈ u_ws RX6 TX6 20, w ∈ wsX6_set := fun _ h => List.mem_cons_of_mem _ (List.mem_append_right _ h)
set_option maxHeartbeats 4000000 in
set_option maxRecDepth 100000 in
theorem c_X6_set (l : Launch) {σ : MM} (hM : okM σ) {a1 : Int} (ha1 : inR a1) {a2 : Int} (ha2 : inR a2) {ro : Int} {σo : MM} (h : X6_set a1 a2 σ = some (ro, σo)) : CtI l yX6_set wsX6_set { frames := 2, cells := 0, slots := 0, locals := 43 } (fun ad : Nat → Nat => [.ref (ad 58), .int (Int32.ofInt a1), .int (Int32.ofInt a2)]) σ 0 ro σo := by
  unfold X6_set at h
  refine z_ctI (cc := cX6_set) (maxL := 4) (rt := 0) hM (by decide) rfl (fun _ => Nat.le_of_ble_eq_true rfl) (@fun p e s m args below meth c D cy ad A Q C hR => ?_)
  refine g_sub (vs' := [(0, .ref (ad 58)), (1, .int (Int32.ofInt a1)), (2, .int (Int32.ofInt a2))]) [0, 1, 2] rfl ?_
  refine g_aload_n C dX6_set_0 0 rfl ?_
  refine g_iconst C dX6_set_1 ?_
  refine gp_X6_3 C in_X6_set_X6 (List.mem_of_getElem? (i := 1) rfl) (by decide) dX6_set_2 ?_
  obtain ⟨σ1, e2, h⟩ := z_l h
  refine g_mem e2 ?_
  refine g_iload_n C dX6_set_5 1 rfl ?_
  refine g_iload_n C dX6_set_6 2 rfl ?_
  obtain ⟨r3, e4, h⟩ := z_b h
  refine g_callS (n := 2) C (fun hM => c_X6_maySet l hM ha1 ha2 e4) gX6_set_X6_maySet rfl (by decide) ⟨rfl, rfl⟩ ⟨Nat.le_of_ble_eq_true rfl, Nat.le_of_ble_eq_true rfl⟩ rfl rfl (rest := []) rfl (Nat.le_of_ble_eq_true rfl) dX6_set_7 (fun q5 => ?_)
  have q5 : r3 = 0 ∨ r3 = 1 := q5
  refine g_if_ne C 19 dX6_set_10 (by decide) (rgT_inR (rt := 1) q5) (fun c6 => ?_) (fun c6 => ?_)
  · have h := z_f c6 h
    refine g_aload_n C dX6_set_19 0 rfl ?_
    refine gf_X6_0 C in_X6_set_X6 (List.mem_of_getElem? (i := 2) rfl) dX6_set_20 ?_
    refine g_iconst C dX6_set_23 ?_
    refine g_iload_n C dX6_set_24 1 rfl ?_
    refine g_iadd C dX6_set_25 ?_
    obtain ⟨g7, h⟩ := z_g h
    refine g_iald C ly_c59 (Nat.le_of_ble_eq_true rfl) (by decide) g7 dX6_set_26 (fun r8 => ?_)
    refine g_istore_n C dX6_set_27 (by decide) (vs' := [(3, .int (Int32.ofInt (σ1 59 (2 + a1)))), (0, .ref (ad 58)), (1, .int (Int32.ofInt a1)), (2, .int (Int32.ofInt a2))]) rfl ?_
    refine g_aload_n C dX6_set_28 1 rfl ?_
    refine gf_X6_0 C in_X6_set_X6 (List.mem_of_getElem? (i := 2) rfl) dX6_set_29 ?_
    refine g_iconst C dX6_set_32 ?_
    refine g_iload_n C dX6_set_33 2 rfl ?_
    refine g_iadd C dX6_set_34 ?_
    refine g_iload_n C dX6_set_35 3 rfl ?_
    refine g_iast C ly_c59 (Nat.le_of_ble_eq_true rfl) (by decide) (by omega) ha2 dX6_set_36 ?_
    obtain ⟨σ9, e10, h⟩ := z_l h
    refine g_mem e10 ?_
    refine g_iload_n C dX6_set_37 0 rfl ?_
    obtain ⟨rfl, rfl⟩ := z_s2 h
    exact hR _ _ dX6_set_38 r8
  · have h := z_t c6 h
    refine g_aload_n C dX6_set_13 0 rfl ?_
    refine g_iconst C dX6_set_14 ?_
    obtain ⟨⟨r11, σ13⟩, e12, h⟩ := z_b h
    refine g_callI (n := 1) C (fun hM => c_X6_fails l hM (by decide) e12) gX6_set_X6_fails rfl (by decide) ⟨rfl, rfl⟩ ⟨Nat.le_of_ble_eq_true rfl, Nat.le_of_ble_eq_true rfl⟩ rfl ly_c58 (Nat.le_of_ble_eq_true rfl) rfl rfl (rest := []) rfl (Nat.le_of_ble_eq_true rfl) dX6_set_15 (fun q14 => ?_)
    have q14 : inR r11 := q14
    obtain ⟨rfl, rfl⟩ := z_s2 h
    exact hR _ _ dX6_set_18 q14
theorem in_X6_binds_X6 : ∀ w ∈ u_ws RX6 TX6 20, w ∈ wsX6_binds := fun _ h => List.mem_cons_of_mem _ (List.mem_append_right _ h)
set_option maxHeartbeats 4000000 in
set_option maxRecDepth 100000 in
theorem w_X6_binds_L2 {p : Program} {l : Launch} {e : Env} {s : State} {m : MethodId} {args : Array Value} {below : List Frame} {meth : Method} {c : Code} {D : va_G} {cy : Nat → ClassId} {ad : Nat → Nat} {A : Nat → Prop} {Q : State → Prop} (C : Cx p s m args meth c cX6_binds RX6 4 wsX6_binds D cy A) {σ : MM} {x1 : Int} (hx1 : inR x1) {x2 : Int} (hx2 : inR x2) {k46 : Option Int} {ro : Int} (hR : RetI p l e { frames := 2, cells := 0, slots := 0, locals := 42 } s m args below meth c cX6_binds 4 D cy ad A Q 1 ro σ) (hk46 :  k46 = some ro → G p l e { frames := 2, cells := 0, slots := 0, locals := 42 } s m args below meth c 4 D cy ad A Q 46 [] [] σ) : ∀ (n : Nat) (x3 : Int) , inR x3 → X6_binds_L2 x1 x2 σ k46 n x3 = some ro → G p l e { frames := 2, cells := 0, slots := 0, locals := 42 } s m args below meth c 4 D cy ad A Q 2 [(0, .ref (ad 58)), (1, .int (Int32.ofInt x1)), (2, .int (Int32.ofInt x2)), (3, .int (Int32.ofInt x3))] [] σ := by
  intro n
  induction n with
  | zero =>
    intro x3 hx3 h
    cases h
  | succ n ih =>
    intro x3 hx3 h
    rw [X6_binds_L2] at h
    refine g_iload_n C dX6_binds_2 3 rfl ?_
    refine g_aload_n C dX6_binds_3 0 rfl ?_
    refine gf_X6_0 C in_X6_binds_X6 (List.mem_of_getElem? (i := 1) rfl) dX6_binds_4 ?_
    refine g_iconst C dX6_binds_7 ?_
    refine g_iald C ly_c59 (Nat.le_of_ble_eq_true rfl) (by decide) (by decide) dX6_binds_8 (fun r1 => ?_)
    refine g_icmp_ge C 46 dX6_binds_9 (by decide) hx3 r1 (fun c2 => ?_) (fun c2 => ?_)
    · have h := z_f c2 h
      refine g_sub [] rfl ?_
      exact hk46  h
    · have h := z_t c2 h
      refine g_aload_n C dX6_binds_12 0 rfl ?_
      refine g_iload_n C dX6_binds_13 3 rfl ?_
      obtain ⟨r3, e4, h⟩ := z_b h
      refine g_callI (n := 1) C (fun hM => c_X6_far l hM hx3 e4) gX6_binds_X6_far rfl (by decide) ⟨rfl, rfl⟩ ⟨Nat.le_of_ble_eq_true rfl, Nat.le_of_ble_eq_true rfl⟩ rfl ly_c58 (Nat.le_of_ble_eq_true rfl) rfl rfl (rest := []) rfl (Nat.le_of_ble_eq_true rfl) dX6_binds_14 (fun q5 => ?_)
      have q5 : inR r3 := q5
      refine g_if_ne C 40 dX6_binds_17 (by decide) q5 (fun c6 => ?_) (fun c6 => ?_)
      · have h := z_f c6 h
        refine g_iinc C dX6_binds_40 (j := 3) rfl (by decide) (vs' := [(3, .int (Int32.ofInt (x3 + 1))), (0, .ref (ad 58)), (1, .int (Int32.ofInt x1)), (2, .int (Int32.ofInt x2))]) rfl ?_
        refine g_goto C 2 dX6_binds_43 (by decide) ?_
        refine g_sub [1, 2, 3, 0] rfl ?_
        exact ih _ (by omega) h
      · have h := z_t c6 h
        refine g_aload_n C dX6_binds_20 0 rfl ?_
        refine g_iload_n C dX6_binds_21 3 rfl ?_
        obtain ⟨r7, e8, h⟩ := z_b h
        refine g_callI (n := 1) C (fun hM => c_X6_source l hM hx3 e8) gX6_binds_X6_source rfl (by decide) ⟨rfl, rfl⟩ ⟨Nat.le_of_ble_eq_true rfl, Nat.le_of_ble_eq_true rfl⟩ rfl ly_c58 (Nat.le_of_ble_eq_true rfl) rfl rfl (rest := []) rfl (Nat.le_of_ble_eq_true rfl) dX6_binds_22 (fun q9 => ?_)
        have q9 : inR r7 := q9
        refine g_iload_n C dX6_binds_25 1 rfl ?_
        refine g_icmp_ne C 40 dX6_binds_26 (by decide) q9 hx1 (fun c10 => ?_) (fun c10 => ?_)
        · have h := z_f c10 h
          refine g_iinc C dX6_binds_40 (j := 3) rfl (by decide) (vs' := [(3, .int (Int32.ofInt (x3 + 1))), (0, .ref (ad 58)), (1, .int (Int32.ofInt x1)), (2, .int (Int32.ofInt x2))]) rfl ?_
          refine g_goto C 2 dX6_binds_43 (by decide) ?_
          refine g_sub [1, 2, 3, 0] rfl ?_
          exact ih _ (by omega) h
        · have h := z_t c10 h
          refine g_aload_n C dX6_binds_29 0 rfl ?_
          refine g_iload_n C dX6_binds_30 3 rfl ?_
          obtain ⟨r11, e12, h⟩ := z_b h
          refine g_callI (n := 1) C (fun hM => c_X6_target l hM hx3 e12) gX6_binds_X6_target rfl (by decide) ⟨rfl, rfl⟩ ⟨Nat.le_of_ble_eq_true rfl, Nat.le_of_ble_eq_true rfl⟩ rfl ly_c58 (Nat.le_of_ble_eq_true rfl) rfl rfl (rest := []) rfl (Nat.le_of_ble_eq_true rfl) dX6_binds_31 (fun q13 => ?_)
          have q13 : inR r11 := q13
          refine g_iload_n C dX6_binds_34 2 rfl ?_
          refine g_icmp_ne C 40 dX6_binds_35 (by decide) q13 hx2 (fun c14 => ?_) (fun c14 => ?_)
          · have h := z_f c14 h
            refine g_iinc C dX6_binds_40 (j := 3) rfl (by decide) (vs' := [(3, .int (Int32.ofInt (x3 + 1))), (0, .ref (ad 58)), (1, .int (Int32.ofInt x1)), (2, .int (Int32.ofInt x2))]) rfl ?_
            refine g_goto C 2 dX6_binds_43 (by decide) ?_
            refine g_sub [1, 2, 3, 0] rfl ?_
            exact ih _ (by omega) h
          · have h := z_t c14 h
            refine g_iconst C dX6_binds_38 ?_
            obtain rfl := z_s1 h
            exact hR _ _ dX6_binds_39 (by show _ = _ ∨ _ = _; decide)
set_option maxHeartbeats 4000000 in
set_option maxRecDepth 100000 in
theorem c_X6_binds (l : Launch) {σ : MM} (hM : okM σ) {a1 : Int} (ha1 : inR a1) {a2 : Int} (ha2 : inR a2) {ro : Int} (h : X6_binds a1 a2 σ = some ro) : CtI l yX6_binds wsX6_binds { frames := 2, cells := 0, slots := 0, locals := 42 } (fun ad : Nat → Nat => [.ref (ad 58), .int (Int32.ofInt a1), .int (Int32.ofInt a2)]) σ 1 ro σ := by
  unfold X6_binds at h
  refine z_ctI (cc := cX6_binds) (maxL := 4) (rt := 1) hM (by decide) rfl (fun _ => Nat.le_of_ble_eq_true rfl) (@fun p e s m args below meth c D cy ad A Q C hR => ?_)
  refine g_sub (vs' := [(0, .ref (ad 58)), (1, .int (Int32.ofInt a1)), (2, .int (Int32.ofInt a2))]) [0, 1, 2] rfl ?_
  refine g_iconst C dX6_binds_0 ?_
  refine g_istore_n C dX6_binds_1 (by decide) (vs' := [(3, .int (Int32.ofInt 0)), (0, .ref (ad 58)), (1, .int (Int32.ofInt a1)), (2, .int (Int32.ofInt a2))]) rfl ?_
  refine g_sub [1, 2, 3, 0] rfl ?_
  refine w_X6_binds_L2 C ha1 ha2 hR ?_ _ _ (by decide) h
  · intro h
    refine g_iconst C dX6_binds_46 ?_
    obtain rfl := z_s1 h
    exact hR _ _ dX6_binds_47 (by show _ = _ ∨ _ = _; decide)
theorem in_X6_exchange_X6 : ∀ w ∈ u_ws RX6 TX6 20, w ∈ wsX6_exchange := fun _ h => List.mem_cons_of_mem _ (List.mem_append_right _ h)
set_option maxHeartbeats 4000000 in
set_option maxRecDepth 100000 in
theorem c_X6_exchange (l : Launch) {σ : MM} (hM : okM σ) {a1 : Int} (ha1 : inR a1) {ro : Int} {σo : MM} (h : X6_exchange a1 σ = some (ro, σo)) : CtI l yX6_exchange wsX6_exchange { frames := 3, cells := 0, slots := 0, locals := 65 } (fun ad : Nat → Nat => [.ref (ad 58), .int (Int32.ofInt a1)]) σ 0 ro σo := by
  unfold X6_exchange at h
  refine z_ctI (cc := cX6_exchange) (maxL := 4) (rt := 0) hM (by decide) rfl (fun _ => Nat.le_of_ble_eq_true rfl) (@fun p e s m args below meth c D cy ad A Q C hR => ?_)
  refine g_sub (vs' := [(0, .ref (ad 58)), (1, .int (Int32.ofInt a1))]) [0, 1] rfl ?_
  refine g_aload_n C dX6_exchange_0 0 rfl ?_
  refine g_iconst C dX6_exchange_1 ?_
  refine gp_X6_3 C in_X6_exchange_X6 (List.mem_of_getElem? (i := 1) rfl) (by decide) dX6_exchange_2 ?_
  obtain ⟨σ1, e2, h⟩ := z_l h
  refine g_mem e2 ?_
  refine g_iload_n C dX6_exchange_5 1 rfl ?_
  refine g_iconst C dX6_exchange_6 ?_
  refine g_aload_n C dX6_exchange_7 0 rfl ?_
  refine gf_X6_0 C in_X6_exchange_X6 (List.mem_of_getElem? (i := 2) rfl) dX6_exchange_8 ?_
  refine g_iconst C dX6_exchange_11 ?_
  refine g_iald C ly_c59 (Nat.le_of_ble_eq_true rfl) (by decide) (by decide) dX6_exchange_12 (fun r3 => ?_)
  refine g_iconst C dX6_exchange_13 ?_
  refine g_isub C dX6_exchange_14 ?_
  obtain ⟨g4, h⟩ := z_g h
  obtain ⟨r5, e6, h⟩ := z_b h
  refine g_callS (n := 3) C (fun hM => c_X6_in l hM ha1 (by decide) g4 e6) gX6_exchange_X6_in rfl (by decide) ⟨rfl, rfl⟩ ⟨Nat.le_of_ble_eq_true rfl, Nat.le_of_ble_eq_true rfl⟩ rfl rfl (rest := []) rfl (Nat.le_of_ble_eq_true rfl) dX6_exchange_15 (fun q7 => ?_)
  have q7 : r5 = 0 ∨ r5 = 1 := q7
  refine g_if_ne C 27 dX6_exchange_18 (by decide) (rgT_inR (rt := 1) q7) (fun c8 => ?_) (fun c8 => ?_)
  · have h := z_f c8 h
    refine g_aload_n C dX6_exchange_27 0 rfl ?_
    refine gf_X6_0 C in_X6_exchange_X6 (List.mem_of_getElem? (i := 2) rfl) dX6_exchange_28 ?_
    refine g_bipush C dX6_exchange_31 (by decide) ?_
    refine g_iload_n C dX6_exchange_33 1 rfl ?_
    refine g_iadd C dX6_exchange_34 ?_
    obtain ⟨g9, h⟩ := z_g h
    refine g_iald C ly_c59 (Nat.le_of_ble_eq_true rfl) (by decide) g9 dX6_exchange_35 (fun r10 => ?_)
    refine g_istore_n C dX6_exchange_36 (by decide) (vs' := [(2, .int (Int32.ofInt (σ1 59 (20 + a1)))), (0, .ref (ad 58)), (1, .int (Int32.ofInt a1))]) rfl ?_
    refine g_aload_n C dX6_exchange_37 1 rfl ?_
    refine gf_X6_0 C in_X6_exchange_X6 (List.mem_of_getElem? (i := 2) rfl) dX6_exchange_38 ?_
    refine g_bipush C dX6_exchange_41 (by decide) ?_
    refine g_iload_n C dX6_exchange_43 2 rfl ?_
    refine g_iadd C dX6_exchange_44 ?_
    refine g_iconst C dX6_exchange_45 ?_
    refine g_iadd C dX6_exchange_46 ?_
    obtain ⟨g11, h⟩ := z_g h
    refine g_iald C ly_c59 (Nat.le_of_ble_eq_true rfl) (by decide) g11 dX6_exchange_47 (fun r12 => ?_)
    refine g_istore_n C dX6_exchange_48 (by decide) (vs' := [(3, .int (Int32.ofInt (σ1 59 ((20 + a1) + 1)))), (2, .int (Int32.ofInt (σ1 59 (20 + a1)))), (0, .ref (ad 58)), (1, .int (Int32.ofInt a1))]) rfl ?_
    refine g_aload_n C dX6_exchange_49 2 rfl ?_
    refine g_iload_n C dX6_exchange_50 1 rfl ?_
    refine g_iload_n C dX6_exchange_51 0 rfl ?_
    obtain ⟨r13, e14, h⟩ := z_b h
    refine g_callI (n := 2) C (fun hM => c_X6_binds l hM r10 r12 e14) gX6_exchange_X6_binds rfl (by decide) ⟨rfl, rfl⟩ ⟨Nat.le_of_ble_eq_true rfl, Nat.le_of_ble_eq_true rfl⟩ rfl ly_c58 (Nat.le_of_ble_eq_true rfl) rfl rfl (rest := []) rfl (Nat.le_of_ble_eq_true rfl) dX6_exchange_52 (fun q15 => ?_)
    have q15 : r13 = 0 ∨ r13 = 1 := q15
    refine g_if_eq C 64 dX6_exchange_55 (by decide) (rgT_inR (rt := 1) q15) (fun c16 => ?_) (fun c16 => ?_)
    · have h := z_t c16 h
      refine g_aload_n C dX6_exchange_64 2 rfl ?_
      refine gf_X6_0 C in_X6_exchange_X6 (List.mem_of_getElem? (i := 2) rfl) dX6_exchange_65 ?_
      refine g_bipush C dX6_exchange_68 (by decide) ?_
      refine g_iload_n C dX6_exchange_70 3 rfl ?_
      refine g_iadd C dX6_exchange_71 ?_
      refine g_iload_n C dX6_exchange_72 0 rfl ?_
      refine g_iast C ly_c59 (Nat.le_of_ble_eq_true rfl) (by decide) (by omega) r12 dX6_exchange_73 ?_
      obtain ⟨σ17, e18, h⟩ := z_l h
      refine g_mem e18 ?_
      refine g_aload_n C dX6_exchange_74 2 rfl ?_
      refine gf_X6_0 C in_X6_exchange_X6 (List.mem_of_getElem? (i := 2) rfl) dX6_exchange_75 ?_
      refine g_bipush C dX6_exchange_78 (by decide) ?_
      refine g_iload_n C dX6_exchange_80 3 rfl ?_
      refine g_iadd C dX6_exchange_81 ?_
      refine g_iconst C dX6_exchange_82 ?_
      refine g_iadd C dX6_exchange_83 ?_
      refine g_iload_n C dX6_exchange_84 1 rfl ?_
      refine g_iast C ly_c59 (Nat.le_of_ble_eq_true rfl) (by decide) (by omega) r10 dX6_exchange_85 ?_
      obtain ⟨σ19, e20, h⟩ := z_l h
      refine g_mem e20 ?_
      refine g_iload_n C dX6_exchange_86 0 rfl ?_
      obtain ⟨rfl, rfl⟩ := z_s2 h
      exact hR _ _ dX6_exchange_87 r12
    · have h := z_f c16 h
      refine g_aload_n C dX6_exchange_58 2 rfl ?_
      refine g_iconst C dX6_exchange_59 ?_
      obtain ⟨⟨r21, σ23⟩, e22, h⟩ := z_b h
      refine g_callI (n := 1) C (fun hM => c_X6_fails l hM (by decide) e22) gX6_exchange_X6_fails rfl (by decide) ⟨rfl, rfl⟩ ⟨Nat.le_of_ble_eq_true rfl, Nat.le_of_ble_eq_true rfl⟩ rfl ly_c58 (Nat.le_of_ble_eq_true rfl) rfl rfl (rest := []) rfl (Nat.le_of_ble_eq_true rfl) dX6_exchange_60 (fun q24 => ?_)
      have q24 : inR r21 := q24
      obtain ⟨rfl, rfl⟩ := z_s2 h
      exact hR _ _ dX6_exchange_63 q24
  · have h := z_t c8 h
    refine g_aload_n C dX6_exchange_21 0 rfl ?_
    refine g_iconst C dX6_exchange_22 ?_
    obtain ⟨⟨r25, σ27⟩, e26, h⟩ := z_b h
    refine g_callI (n := 1) C (fun hM => c_X6_fails l hM (by decide) e26) gX6_exchange_X6_fails rfl (by decide) ⟨rfl, rfl⟩ ⟨Nat.le_of_ble_eq_true rfl, Nat.le_of_ble_eq_true rfl⟩ rfl ly_c58 (Nat.le_of_ble_eq_true rfl) rfl rfl (rest := []) rfl (Nat.le_of_ble_eq_true rfl) dX6_exchange_23 (fun q28 => ?_)
    have q28 : inR r25 := q28
    obtain ⟨rfl, rfl⟩ := z_s2 h
    exact hR _ _ dX6_exchange_26 q28
theorem in_X6_remove_X6 : ∀ w ∈ u_ws RX6 TX6 20, w ∈ wsX6_remove := fun _ h => List.mem_cons_of_mem _ (List.mem_append_right _ h)
set_option maxHeartbeats 4000000 in
set_option maxRecDepth 100000 in
theorem w_X6_remove_L35 {p : Program} {l : Launch} {e : Env} {s : State} {m : MethodId} {args : Array Value} {below : List Frame} {meth : Method} {c : Code} {D : va_G} {cy : Nat → ClassId} {ad : Nat → Nat} {A : Nat → Prop} {Q : State → Prop} (C : Cx p s m args meth c cX6_remove RX6 3 wsX6_remove D cy A) {k69 : MM → Option (Int × MM)} {ro : Int} {σo : MM} (hR : RetI p l e { frames := 2, cells := 0, slots := 0, locals := 43 } s m args below meth c cX6_remove 3 D cy ad A Q 0 ro σo) (hk69 : ∀  (σ : MM), k69 σ = some (ro, σo) → G p l e { frames := 2, cells := 0, slots := 0, locals := 43 } s m args below meth c 3 D cy ad A Q 69 [(0, .ref (ad 58))] [] σ) : ∀ (n : Nat) (x2 : Int) (σ : MM) , inR x2 → X6_remove_L35 k69 n x2 σ = some (ro, σo) → G p l e { frames := 2, cells := 0, slots := 0, locals := 43 } s m args below meth c 3 D cy ad A Q 35 [(0, .ref (ad 58)), (2, .int (Int32.ofInt x2))] [] σ := by
  intro n
  induction n with
  | zero =>
    intro x2 σ hx2 h
    cases h
  | succ n ih =>
    intro x2 σ hx2 h
    rw [X6_remove_L35] at h
    refine g_iload_n C dX6_remove_35 1 rfl ?_
    refine g_aload_n C dX6_remove_36 0 rfl ?_
    refine gf_X6_0 C in_X6_remove_X6 (List.mem_of_getElem? (i := 2) rfl) dX6_remove_37 ?_
    refine g_iconst C dX6_remove_40 ?_
    refine g_iald C ly_c59 (Nat.le_of_ble_eq_true rfl) (by decide) (by decide) dX6_remove_41 (fun r14 => ?_)
    refine g_iconst C dX6_remove_42 ?_
    obtain ⟨r15, e16, h⟩ := z_b h
    refine g_callS (n := 2) C (fun hM => c_X6_at l hM r14 (by decide) e16) gX6_remove_X6_at rfl (by decide) ⟨rfl, rfl⟩ ⟨Nat.le_of_ble_eq_true rfl, Nat.le_of_ble_eq_true rfl⟩ rfl rfl (rest := [.int (Int32.ofInt x2)]) rfl (Nat.le_of_ble_eq_true rfl) dX6_remove_43 (fun q17 => ?_)
    have q17 : inR r15 := q17
    refine g_icmp_ge C 69 dX6_remove_46 (by decide) hx2 q17 (fun c18 => ?_) (fun c18 => ?_)
    · have h := z_f c18 h
      refine g_sub [0] rfl ?_
      exact hk69 _ h
    · have h := z_t c18 h
      refine g_aload_n C dX6_remove_49 0 rfl ?_
      refine gf_X6_0 C in_X6_remove_X6 (List.mem_of_getElem? (i := 2) rfl) dX6_remove_50 ?_
      refine g_iload_n C dX6_remove_53 1 rfl ?_
      refine g_aload_n C dX6_remove_54 0 rfl ?_
      refine gf_X6_0 C in_X6_remove_X6 (List.mem_of_getElem? (i := 2) rfl) dX6_remove_55 ?_
      refine g_iload_n C dX6_remove_58 1 rfl ?_
      refine g_iconst C dX6_remove_59 ?_
      refine g_iadd C dX6_remove_60 ?_
      obtain ⟨g19, h⟩ := z_g h
      refine g_iald C ly_c59 (Nat.le_of_ble_eq_true rfl) (by decide) g19 dX6_remove_61 (fun r20 => ?_)
      obtain ⟨g21, h⟩ := z_g h
      refine g_iast C ly_c59 (Nat.le_of_ble_eq_true rfl) (by decide) g21 r20 dX6_remove_62 ?_
      obtain ⟨σ22, e23, h⟩ := z_l h
      refine g_mem e23 ?_
      refine g_iinc C dX6_remove_63 (j := 1) rfl (by decide) (vs' := [(2, .int (Int32.ofInt (x2 + 1))), (0, .ref (ad 58))]) rfl ?_
      refine g_goto C 35 dX6_remove_66 (by decide) ?_
      refine g_sub [1, 0] rfl ?_
      exact ih _ _ (by omega) h
set_option maxHeartbeats 4000000 in
set_option maxRecDepth 100000 in
theorem c_X6_remove (l : Launch) {σ : MM} (hM : okM σ) {a1 : Int} (ha1 : inR a1) {ro : Int} {σo : MM} (h : X6_remove a1 σ = some (ro, σo)) : CtI l yX6_remove wsX6_remove { frames := 2, cells := 0, slots := 0, locals := 43 } (fun ad : Nat → Nat => [.ref (ad 58), .int (Int32.ofInt a1)]) σ 0 ro σo := by
  unfold X6_remove at h
  refine z_ctI (cc := cX6_remove) (maxL := 3) (rt := 0) hM (by decide) rfl (fun _ => Nat.le_of_ble_eq_true rfl) (@fun p e s m args below meth c D cy ad A Q C hR => ?_)
  refine g_sub (vs' := [(0, .ref (ad 58)), (1, .int (Int32.ofInt a1))]) [0, 1] rfl ?_
  refine g_aload_n C dX6_remove_0 0 rfl ?_
  refine g_iconst C dX6_remove_1 ?_
  refine gp_X6_3 C in_X6_remove_X6 (List.mem_of_getElem? (i := 1) rfl) (by decide) dX6_remove_2 ?_
  obtain ⟨σ1, e2, h⟩ := z_l h
  refine g_mem e2 ?_
  refine g_aload_n C dX6_remove_5 0 rfl ?_
  refine g_iload_n C dX6_remove_6 1 rfl ?_
  obtain ⟨r3, e4, h⟩ := z_b h
  refine g_callI (n := 1) C (fun hM => c_X6_isDependence l hM ha1 e4) gX6_remove_X6_isDependence rfl (by decide) ⟨rfl, rfl⟩ ⟨Nat.le_of_ble_eq_true rfl, Nat.le_of_ble_eq_true rfl⟩ rfl ly_c58 (Nat.le_of_ble_eq_true rfl) rfl rfl (rest := []) rfl (Nat.le_of_ble_eq_true rfl) dX6_remove_7 (fun q5 => ?_)
  have q5 : r3 = 0 ∨ r3 = 1 := q5
  refine g_if_ne C 19 dX6_remove_10 (by decide) (rgT_inR (rt := 1) q5) (fun c6 => ?_) (fun c6 => ?_)
  · have h := z_f c6 h
    refine g_aload_n C dX6_remove_19 0 rfl ?_
    refine gf_X6_0 C in_X6_remove_X6 (List.mem_of_getElem? (i := 2) rfl) dX6_remove_20 ?_
    refine g_iconst C dX6_remove_23 ?_
    refine g_dup2 C dX6_remove_24 rfl rfl ?_
    refine g_iald C ly_c59 (Nat.le_of_ble_eq_true rfl) (by decide) (by decide) dX6_remove_25 (fun r7 => ?_)
    refine g_iconst C dX6_remove_26 ?_
    refine g_isub C dX6_remove_27 ?_
    obtain ⟨g8, h⟩ := z_g h
    refine g_iast C ly_c59 (Nat.le_of_ble_eq_true rfl) (by decide) (by decide) g8 dX6_remove_28 ?_
    obtain ⟨σ9, e10, h⟩ := z_l h
    refine g_mem e10 ?_
    refine g_iload_n C dX6_remove_29 1 rfl ?_
    refine g_iconst C dX6_remove_30 ?_
    obtain ⟨r11, e12, h⟩ := z_b h
    refine g_callS (n := 2) C (fun hM => c_X6_at l hM ha1 (by decide) e12) gX6_remove_X6_at rfl (by decide) ⟨rfl, rfl⟩ ⟨Nat.le_of_ble_eq_true rfl, Nat.le_of_ble_eq_true rfl⟩ rfl rfl (rest := []) rfl (Nat.le_of_ble_eq_true rfl) dX6_remove_31 (fun q13 => ?_)
    have q13 : inR r11 := q13
    refine g_istore_n C dX6_remove_34 (by decide) (vs' := [(2, .int (Int32.ofInt r11)), (0, .ref (ad 58)), (1, .int (Int32.ofInt a1))]) rfl ?_
    refine g_sub [1, 0] rfl ?_
    refine w_X6_remove_L35 C hR ?_ _ _ _ q13 h
    · intro σ24 h
      refine g_aload_n C dX6_remove_69 0 rfl ?_
      refine gf_X6_0 C in_X6_remove_X6 (List.mem_of_getElem? (i := 2) rfl) dX6_remove_70 ?_
      refine g_iconst C dX6_remove_73 ?_
      refine g_iald C ly_c59 (Nat.le_of_ble_eq_true rfl) (by decide) (by decide) dX6_remove_74 (fun r25 => ?_)
      obtain ⟨rfl, rfl⟩ := z_s2 h
      exact hR _ _ dX6_remove_75 r25
  · have h := z_t c6 h
    refine g_aload_n C dX6_remove_13 0 rfl ?_
    refine g_iconst C dX6_remove_14 ?_
    obtain ⟨⟨r26, σ28⟩, e27, h⟩ := z_b h
    refine g_callI (n := 1) C (fun hM => c_X6_fails l hM (by decide) e27) gX6_remove_X6_fails rfl (by decide) ⟨rfl, rfl⟩ ⟨Nat.le_of_ble_eq_true rfl, Nat.le_of_ble_eq_true rfl⟩ rfl ly_c58 (Nat.le_of_ble_eq_true rfl) rfl rfl (rest := []) rfl (Nat.le_of_ble_eq_true rfl) dX6_remove_15 (fun q29 => ?_)
    have q29 : inR r26 := q29
    obtain ⟨rfl, rfl⟩ := z_s2 h
    exact hR _ _ dX6_remove_18 q29
theorem in_X6_statement_X6 : ∀ w ∈ u_ws RX6 TX6 20, w ∈ wsX6_statement := fun _ h => List.mem_cons_of_mem _ (List.mem_append_right _ h)
set_option maxHeartbeats 4000000 in
set_option maxRecDepth 100000 in
theorem c_X6_statement (l : Launch) {σ : MM} (hM : okM σ) {a1 : Int} (ha1 : inR a1) {a2 : Int} (ha2 : inR a2) {ro : Int} {σo : MM} (h : X6_statement a1 a2 σ = some (ro, σo)) : CtI l yX6_statement wsX6_statement { frames := 2, cells := 0, slots := 0, locals := 44 } (fun ad : Nat → Nat => [.ref (ad 58), .int (Int32.ofInt a1), .int (Int32.ofInt a2)]) σ 0 ro σo := by
  unfold X6_statement at h
  refine z_ctI (cc := cX6_statement) (maxL := 3) (rt := 0) hM (by decide) rfl (fun _ => Nat.le_of_ble_eq_true rfl) (@fun p e s m args below meth c D cy ad A Q C hR => ?_)
  refine g_sub (vs' := [(0, .ref (ad 58)), (1, .int (Int32.ofInt a1)), (2, .int (Int32.ofInt a2))]) [0, 1, 2] rfl ?_
  refine g_aload_n C dX6_statement_0 0 rfl ?_
  refine g_iconst C dX6_statement_1 ?_
  refine gp_X6_3 C in_X6_statement_X6 (List.mem_of_getElem? (i := 1) rfl) (by decide) dX6_statement_2 ?_
  obtain ⟨σ1, e2, h⟩ := z_l h
  refine g_mem e2 ?_
  refine g_aload_n C dX6_statement_5 0 rfl ?_
  refine g_iload_n C dX6_statement_6 1 rfl ?_
  obtain ⟨r3, e4, h⟩ := z_b h
  refine g_callI (n := 1) C (fun hM => c_X6_isStatement l hM ha1 e4) gX6_statement_X6_isStatement rfl (by decide) ⟨rfl, rfl⟩ ⟨Nat.le_of_ble_eq_true rfl, Nat.le_of_ble_eq_true rfl⟩ rfl ly_c58 (Nat.le_of_ble_eq_true rfl) rfl rfl (rest := []) rfl (Nat.le_of_ble_eq_true rfl) dX6_statement_7 (fun q5 => ?_)
  have q5 : r3 = 0 ∨ r3 = 1 := q5
  refine g_if_ne C 19 dX6_statement_10 (by decide) (rgT_inR (rt := 1) q5) (fun c6 => ?_) (fun c6 => ?_)
  · have h := z_f c6 h
    refine g_iload_n C dX6_statement_19 2 rfl ?_
    by_cases c7 : a2 = 0
    · have h := z_t c7 h
      refine g_tsw C 48 0 dX6_statement_20 ha2 c7 (by decide) (by decide) rfl (by decide) ?_
      refine g_aload_n C dX6_statement_48 0 rfl ?_
      refine g_iload_n C dX6_statement_49 1 rfl ?_
      obtain ⟨r8, e9, h⟩ := z_b h
      refine g_callI (n := 1) C (fun hM => c_X6_cost l hM ha1 e9) gX6_statement_X6_cost rfl (by decide) ⟨rfl, rfl⟩ ⟨Nat.le_of_ble_eq_true rfl, Nat.le_of_ble_eq_true rfl⟩ rfl ly_c58 (Nat.le_of_ble_eq_true rfl) rfl rfl (rest := []) rfl (Nat.le_of_ble_eq_true rfl) dX6_statement_50 (fun q10 => ?_)
      have q10 : inR r8 := q10
      obtain ⟨rfl, rfl⟩ := z_s2 h
      exact hR _ _ dX6_statement_53 q10
    have h := z_f c7 h
    by_cases c11 : a2 = 1
    · have h := z_t c11 h
      refine g_tsw C 54 1 dX6_statement_20 ha2 c11 (by decide) (by decide) rfl (by decide) ?_
      refine g_aload_n C dX6_statement_54 0 rfl ?_
      refine g_iload_n C dX6_statement_55 1 rfl ?_
      obtain ⟨r12, e13, h⟩ := z_b h
      refine g_callI (n := 1) C (fun hM => c_X6_placeOf l hM ha1 e13) gX6_statement_X6_placeOf rfl (by decide) ⟨rfl, rfl⟩ ⟨Nat.le_of_ble_eq_true rfl, Nat.le_of_ble_eq_true rfl⟩ rfl ly_c58 (Nat.le_of_ble_eq_true rfl) rfl rfl (rest := []) rfl (Nat.le_of_ble_eq_true rfl) dX6_statement_56 (fun q14 => ?_)
      have q14 : inR r12 := q14
      obtain ⟨rfl, rfl⟩ := z_s2 h
      exact hR _ _ dX6_statement_59 q14
    have h := z_f c11 h
    by_cases c15 : a2 = 2
    · have h := z_t c15 h
      refine g_tsw C 60 2 dX6_statement_20 ha2 c15 (by decide) (by decide) rfl (by decide) ?_
      refine g_aload_n C dX6_statement_60 0 rfl ?_
      refine g_iload_n C dX6_statement_61 1 rfl ?_
      obtain ⟨r16, e17, h⟩ := z_b h
      refine g_callI (n := 1) C (fun hM => c_X6_offset l hM ha1 e17) gX6_statement_X6_offset rfl (by decide) ⟨rfl, rfl⟩ ⟨Nat.le_of_ble_eq_true rfl, Nat.le_of_ble_eq_true rfl⟩ rfl ly_c58 (Nat.le_of_ble_eq_true rfl) rfl rfl (rest := []) rfl (Nat.le_of_ble_eq_true rfl) dX6_statement_62 (fun q18 => ?_)
      have q18 : inR r16 := q18
      obtain ⟨rfl, rfl⟩ := z_s2 h
      exact hR _ _ dX6_statement_65 q18
    have h := z_f c15 h
    refine g_tswD C 66 dX6_statement_20 ha2 (by omega) (by decide) ?_
    refine g_aload_n C dX6_statement_66 0 rfl ?_
    refine g_iconst C dX6_statement_67 ?_
    obtain ⟨⟨r19, σ21⟩, e20, h⟩ := z_b h
    refine g_callI (n := 1) C (fun hM => c_X6_fails l hM (by decide) e20) gX6_statement_X6_fails rfl (by decide) ⟨rfl, rfl⟩ ⟨Nat.le_of_ble_eq_true rfl, Nat.le_of_ble_eq_true rfl⟩ rfl ly_c58 (Nat.le_of_ble_eq_true rfl) rfl rfl (rest := []) rfl (Nat.le_of_ble_eq_true rfl) dX6_statement_68 (fun q22 => ?_)
    have q22 : inR r19 := q22
    obtain ⟨rfl, rfl⟩ := z_s2 h
    exact hR _ _ dX6_statement_71 q22
  · have h := z_t c6 h
    refine g_aload_n C dX6_statement_13 0 rfl ?_
    refine g_iconst C dX6_statement_14 ?_
    obtain ⟨⟨r23, σ25⟩, e24, h⟩ := z_b h
    refine g_callI (n := 1) C (fun hM => c_X6_fails l hM (by decide) e24) gX6_statement_X6_fails rfl (by decide) ⟨rfl, rfl⟩ ⟨Nat.le_of_ble_eq_true rfl, Nat.le_of_ble_eq_true rfl⟩ rfl ly_c58 (Nat.le_of_ble_eq_true rfl) rfl rfl (rest := []) rfl (Nat.le_of_ble_eq_true rfl) dX6_statement_15 (fun q26 => ?_)
    have q26 : inR r23 := q26
    obtain ⟨rfl, rfl⟩ := z_s2 h
    exact hR _ _ dX6_statement_18 q26
theorem in_X6_dependence_X6 : ∀ w ∈ u_ws RX6 TX6 20, w ∈ wsX6_dependence := fun _ h => List.mem_cons_of_mem _ (List.mem_append_right _ h)
set_option maxHeartbeats 4000000 in
set_option maxRecDepth 100000 in
theorem c_X6_dependence (l : Launch) {σ : MM} (hM : okM σ) {a1 : Int} (ha1 : inR a1) {a2 : Int} (ha2 : inR a2) {ro : Int} {σo : MM} (h : X6_dependence a1 a2 σ = some (ro, σo)) : CtI l yX6_dependence wsX6_dependence { frames := 4, cells := 0, slots := 0, locals := 85 } (fun ad : Nat → Nat => [.ref (ad 58), .int (Int32.ofInt a1), .int (Int32.ofInt a2)]) σ 0 ro σo := by
  unfold X6_dependence at h
  refine z_ctI (cc := cX6_dependence) (maxL := 3) (rt := 0) hM (by decide) rfl (fun _ => Nat.le_of_ble_eq_true rfl) (@fun p e s m args below meth c D cy ad A Q C hR => ?_)
  refine g_sub (vs' := [(0, .ref (ad 58)), (1, .int (Int32.ofInt a1)), (2, .int (Int32.ofInt a2))]) [0, 1, 2] rfl ?_
  refine g_aload_n C dX6_dependence_0 0 rfl ?_
  refine g_iconst C dX6_dependence_1 ?_
  refine gp_X6_3 C in_X6_dependence_X6 (List.mem_of_getElem? (i := 1) rfl) (by decide) dX6_dependence_2 ?_
  obtain ⟨σ1, e2, h⟩ := z_l h
  refine g_mem e2 ?_
  refine g_aload_n C dX6_dependence_5 0 rfl ?_
  refine g_iload_n C dX6_dependence_6 1 rfl ?_
  obtain ⟨r3, e4, h⟩ := z_b h
  refine g_callI (n := 1) C (fun hM => c_X6_isDependence l hM ha1 e4) gX6_dependence_X6_isDependence rfl (by decide) ⟨rfl, rfl⟩ ⟨Nat.le_of_ble_eq_true rfl, Nat.le_of_ble_eq_true rfl⟩ rfl ly_c58 (Nat.le_of_ble_eq_true rfl) rfl rfl (rest := []) rfl (Nat.le_of_ble_eq_true rfl) dX6_dependence_7 (fun q5 => ?_)
  have q5 : r3 = 0 ∨ r3 = 1 := q5
  refine g_if_ne C 19 dX6_dependence_10 (by decide) (rgT_inR (rt := 1) q5) (fun c6 => ?_) (fun c6 => ?_)
  · have h := z_f c6 h
    refine g_iload_n C dX6_dependence_19 2 rfl ?_
    refine g_iconst C dX6_dependence_20 ?_
    refine g_iconst C dX6_dependence_21 ?_
    obtain ⟨r7, e8, h⟩ := z_b h
    refine g_callS (n := 3) C (fun hM => c_X6_in l hM ha2 (by decide) (by decide) e8) gX6_dependence_X6_in rfl (by decide) ⟨rfl, rfl⟩ ⟨Nat.le_of_ble_eq_true rfl, Nat.le_of_ble_eq_true rfl⟩ rfl rfl (rest := []) rfl (Nat.le_of_ble_eq_true rfl) dX6_dependence_22 (fun q9 => ?_)
    have q9 : r7 = 0 ∨ r7 = 1 := q9
    refine g_if_ne C 34 dX6_dependence_25 (by decide) (rgT_inR (rt := 1) q9) (fun c10 => ?_) (fun c10 => ?_)
    · have h := z_f c10 h
      refine g_iload_n C dX6_dependence_34 2 rfl ?_
      refine g_iconst C dX6_dependence_35 ?_
      refine g_icmp_ge C 52 dX6_dependence_36 (by decide) ha2 (by decide) (fun c11 => ?_) (fun c11 => ?_)
      · have h := z_f c11 h
        refine g_iload_n C dX6_dependence_52 2 rfl ?_
        refine g_iconst C dX6_dependence_53 ?_
        refine g_icmp_ne C 65 dX6_dependence_54 (by decide) ha2 (by decide) (fun c12 => ?_) (fun c12 => ?_)
        · have h := z_f c12 h
          refine g_aload_n C dX6_dependence_65 0 rfl ?_
          refine gf_X6_0 C in_X6_dependence_X6 (List.mem_of_getElem? (i := 2) rfl) dX6_dependence_66 ?_
          refine g_iload_n C dX6_dependence_69 1 rfl ?_
          refine g_iconst C dX6_dependence_70 ?_
          obtain ⟨r13, e14, h⟩ := z_b h
          refine g_callS (n := 2) C (fun hM => c_X6_at l hM ha1 (by decide) e14) gX6_dependence_X6_at rfl (by decide) ⟨rfl, rfl⟩ ⟨Nat.le_of_ble_eq_true rfl, Nat.le_of_ble_eq_true rfl⟩ rfl rfl (rest := [.ref (ad 59)]) rfl (Nat.le_of_ble_eq_true rfl) dX6_dependence_71 (fun q15 => ?_)
          have q15 : inR r13 := q15
          obtain ⟨g16, h⟩ := z_g h
          refine g_iald C ly_c59 (Nat.le_of_ble_eq_true rfl) (by decide) g16 dX6_dependence_74 (fun r17 => ?_)
          obtain ⟨rfl, rfl⟩ := z_s2 h
          exact hR _ _ dX6_dependence_75 r17
        · have h := z_t c12 h
          refine g_aload_n C dX6_dependence_57 0 rfl ?_
          refine g_iload_n C dX6_dependence_58 1 rfl ?_
          obtain ⟨r18, e19, h⟩ := z_b h
          refine g_callI (n := 1) C (fun hM => c_X6_lag l hM ha1 e19) gX6_dependence_X6_lag rfl (by decide) ⟨rfl, rfl⟩ ⟨Nat.le_of_ble_eq_true rfl, Nat.le_of_ble_eq_true rfl⟩ rfl ly_c58 (Nat.le_of_ble_eq_true rfl) rfl rfl (rest := []) rfl (Nat.le_of_ble_eq_true rfl) dX6_dependence_59 (fun q20 => ?_)
          have q20 : inR r18 := q20
          refine g_goto C 75 dX6_dependence_62 (by decide) ?_
          obtain ⟨rfl, rfl⟩ := z_s2 h
          exact hR _ _ dX6_dependence_75 q20
      · have h := z_t c11 h
        refine g_aload_n C dX6_dependence_39 0 rfl ?_
        refine gf_X6_0 C in_X6_dependence_X6 (List.mem_of_getElem? (i := 2) rfl) dX6_dependence_40 ?_
        refine g_iload_n C dX6_dependence_43 1 rfl ?_
        refine g_iload_n C dX6_dependence_44 2 rfl ?_
        obtain ⟨r21, e22, h⟩ := z_b h
        refine g_callS (n := 2) C (fun hM => c_X6_at l hM ha1 ha2 e22) gX6_dependence_X6_at rfl (by decide) ⟨rfl, rfl⟩ ⟨Nat.le_of_ble_eq_true rfl, Nat.le_of_ble_eq_true rfl⟩ rfl rfl (rest := [.ref (ad 59)]) rfl (Nat.le_of_ble_eq_true rfl) dX6_dependence_45 (fun q23 => ?_)
        have q23 : inR r21 := q23
        obtain ⟨g24, h⟩ := z_g h
        refine g_iald C ly_c59 (Nat.le_of_ble_eq_true rfl) (by decide) g24 dX6_dependence_48 (fun r25 => ?_)
        refine g_goto C 75 dX6_dependence_49 (by decide) ?_
        obtain ⟨rfl, rfl⟩ := z_s2 h
        exact hR _ _ dX6_dependence_75 r25
    · have h := z_t c10 h
      refine g_aload_n C dX6_dependence_28 0 rfl ?_
      refine g_iconst C dX6_dependence_29 ?_
      obtain ⟨⟨r26, σ28⟩, e27, h⟩ := z_b h
      refine g_callI (n := 1) C (fun hM => c_X6_fails l hM (by decide) e27) gX6_dependence_X6_fails rfl (by decide) ⟨rfl, rfl⟩ ⟨Nat.le_of_ble_eq_true rfl, Nat.le_of_ble_eq_true rfl⟩ rfl ly_c58 (Nat.le_of_ble_eq_true rfl) rfl rfl (rest := []) rfl (Nat.le_of_ble_eq_true rfl) dX6_dependence_30 (fun q29 => ?_)
      have q29 : inR r26 := q29
      obtain ⟨rfl, rfl⟩ := z_s2 h
      exact hR _ _ dX6_dependence_33 q29
  · have h := z_t c6 h
    refine g_aload_n C dX6_dependence_13 0 rfl ?_
    refine g_iconst C dX6_dependence_14 ?_
    obtain ⟨⟨r30, σ32⟩, e31, h⟩ := z_b h
    refine g_callI (n := 1) C (fun hM => c_X6_fails l hM (by decide) e31) gX6_dependence_X6_fails rfl (by decide) ⟨rfl, rfl⟩ ⟨Nat.le_of_ble_eq_true rfl, Nat.le_of_ble_eq_true rfl⟩ rfl ly_c58 (Nat.le_of_ble_eq_true rfl) rfl rfl (rest := []) rfl (Nat.le_of_ble_eq_true rfl) dX6_dependence_15 (fun q33 => ?_)
    have q33 : inR r30 := q33
    obtain ⟨rfl, rfl⟩ := z_s2 h
    exact hR _ _ dX6_dependence_18 q33
theorem in_X6_reaches_X6 : ∀ w ∈ u_ws RX6 TX6 20, w ∈ wsX6_reaches := fun _ h => List.mem_cons_of_mem _ (List.mem_append_right _ h)
set_option maxHeartbeats 4000000 in
set_option maxRecDepth 100000 in
theorem c_X6_reaches (l : Launch) {σ : MM} (hM : okM σ) {a1 : Int} (ha1 : inR a1) {a2 : Int} (ha2 : inR a2) {σo : MM} (h : X6_reaches a1 a2 σ = some σo) : CtV l yX6_reaches wsX6_reaches { frames := 0, cells := 0, slots := 0, locals := 0 } (fun ad : Nat → Nat => [.ref (ad 58), .int (Int32.ofInt a1), .int (Int32.ofInt a2)]) σ σo := by
  unfold X6_reaches at h
  refine z_ctV (cc := cX6_reaches) (maxL := 3) hM (by decide) rfl (fun _ => Nat.le_of_ble_eq_true rfl) (@fun p e s m args below meth c D cy ad A Q C hR => ?_)
  refine g_sub (vs' := [(0, .ref (ad 58)), (1, .int (Int32.ofInt a1)), (2, .int (Int32.ofInt a2))]) [0, 1, 2] rfl ?_
  refine g_aload_n C dX6_reaches_0 0 rfl ?_
  refine gf_X6_9 C in_X6_reaches_X6 (List.mem_of_getElem? (i := 1) rfl) dX6_reaches_1 ?_
  refine g_iload_n C dX6_reaches_4 1 rfl ?_
  refine g_iload_n C dX6_reaches_5 2 rfl ?_
  refine g_aload_n C dX6_reaches_6 0 rfl ?_
  refine gf_X6_9 C in_X6_reaches_X6 (List.mem_of_getElem? (i := 1) rfl) dX6_reaches_7 ?_
  refine g_iload_n C dX6_reaches_10 1 rfl ?_
  obtain ⟨g1, h⟩ := z_g h
  refine g_iald C ly_c62 (Nat.le_of_ble_eq_true rfl) (by decide) g1 dX6_reaches_11 (fun r2 => ?_)
  refine g_icmp_le C 19 dX6_reaches_12 (by decide) ha2 r2 (fun c3 => ?_) (fun c3 => ?_)
  · have h := z_f c3 h
    refine g_aload_n C dX6_reaches_19 0 rfl ?_
    refine gf_X6_9 C in_X6_reaches_X6 (List.mem_of_getElem? (i := 1) rfl) dX6_reaches_20 ?_
    refine g_iload_n C dX6_reaches_23 1 rfl ?_
    refine g_iald C ly_c62 (Nat.le_of_ble_eq_true rfl) (by decide) (by omega) dX6_reaches_24 (fun r4 => ?_)
    refine g_iast C ly_c62 (Nat.le_of_ble_eq_true rfl) (by decide) (by omega) r4 dX6_reaches_25 ?_
    obtain ⟨σ5, e6, h⟩ := z_l h
    refine g_mem e6 ?_
    obtain rfl := z_s1 h
    exact hR _ _ dX6_reaches_26
  · have h := z_t c3 h
    refine g_iload_n C dX6_reaches_15 2 rfl ?_
    refine g_goto C 25 dX6_reaches_16 (by decide) ?_
    refine g_iast C ly_c62 (Nat.le_of_ble_eq_true rfl) (by decide) (by omega) ha2 dX6_reaches_25 ?_
    obtain ⟨σ7, e8, h⟩ := z_l h
    refine g_mem e8 ?_
    obtain rfl := z_s1 h
    exact hR _ _ dX6_reaches_26
theorem in_X6_goesOn_X6 : ∀ w ∈ u_ws RX6 TX6 20, w ∈ wsX6_goesOn := fun _ h => List.mem_cons_of_mem _ (List.mem_append_right _ h)
set_option maxHeartbeats 4000000 in
set_option maxRecDepth 100000 in
theorem w_X6_goesOn_L106 {p : Program} {l : Launch} {e : Env} {s : State} {m : MethodId} {args : Array Value} {below : List Frame} {meth : Method} {c : Code} {D : va_G} {cy : Nat → ClassId} {ad : Nat → Nat} {A : Nat → Prop} {Q : State → Prop} (C : Cx p s m args meth c cX6_goesOn RX6 9 wsX6_goesOn D cy A) {x1 : Int} (hx1 : inR x1) {x3 : Int} (hx3 : inR x3) {x4 : Int} (hx4 : inR x4) {x6 : Int} (hx6 : inR x6) {x7 : Int} (hx7 : inR x7) {k197 : MM → Option MM} {σo : MM} (hR : RetV p l e { frames := 4, cells := 0, slots := 0, locals := 85 } s m args below meth c cX6_goesOn 9 D cy ad A Q σo) (hk197 : ∀  (σ : MM), k197 σ = some σo → G p l e { frames := 4, cells := 0, slots := 0, locals := 85 } s m args below meth c 9 D cy ad A Q 197 [] [] σ) : ∀ (n : Nat) (x8 : Int) (σ : MM) , inR x8 → X6_goesOn_L106 x1 x3 x4 x6 x7 k197 n x8 σ = some σo → G p l e { frames := 4, cells := 0, slots := 0, locals := 85 } s m args below meth c 9 D cy ad A Q 106 [(0, .ref (ad 58)), (1, .int (Int32.ofInt x1)), (3, .int (Int32.ofInt x3)), (4, .int (Int32.ofInt x4)), (6, .int (Int32.ofInt x6)), (7, .int (Int32.ofInt x7)), (8, .int (Int32.ofInt x8))] [] σ := by
  intro n
  induction n with
  | zero =>
    intro x8 σ hx8 h
    cases h
  | succ n ih =>
    intro x8 σ hx8 h
    rw [X6_goesOn_L106] at h
    refine g_iload C dX6_goesOn_106 6 rfl ?_
    refine g_aload_n C dX6_goesOn_108 0 rfl ?_
    refine gf_X6_0 C in_X6_goesOn_X6 (List.mem_of_getElem? (i := 2) rfl) dX6_goesOn_109 ?_
    refine g_iconst C dX6_goesOn_112 ?_
    refine g_iald C ly_c59 (Nat.le_of_ble_eq_true rfl) (by decide) (by decide) dX6_goesOn_113 (fun r8 => ?_)
    refine g_icmp_ge C 197 dX6_goesOn_114 (by decide) hx8 r8 (fun c9 => ?_) (fun c9 => ?_)
    · have h := z_f c9 h
      refine g_sub [] rfl ?_
      exact hk197 _ h
    · have h := z_t c9 h
      refine g_iload C dX6_goesOn_117 6 rfl ?_
      refine g_iload_n C dX6_goesOn_119 2 rfl ?_
      refine g_icmp_eq C 191 dX6_goesOn_120 (by decide) hx8 hx3 (fun c10 => ?_) (fun c10 => ?_)
      · have h := z_t c10 h
        refine g_iinc C dX6_goesOn_191 (j := 6) rfl (by decide) (vs' := [(8, .int (Int32.ofInt (x8 + 1))), (0, .ref (ad 58)), (1, .int (Int32.ofInt x1)), (3, .int (Int32.ofInt x3)), (4, .int (Int32.ofInt x4)), (6, .int (Int32.ofInt x6)), (7, .int (Int32.ofInt x7))]) rfl ?_
        refine g_goto C 106 dX6_goesOn_194 (by decide) ?_
        refine g_sub [1, 2, 3, 4, 5, 6, 0] rfl ?_
        exact ih _ _ (by omega) h
      · have h := z_f c10 h
        refine g_aload_n C dX6_goesOn_123 0 rfl ?_
        refine g_iload C dX6_goesOn_124 6 rfl ?_
        obtain ⟨r11, e12, h⟩ := z_b h
        refine g_callI (n := 1) C (fun hM => c_X6_isSignal l hM hx8 e12) gX6_goesOn_X6_isSignal rfl (by decide) ⟨rfl, rfl⟩ ⟨Nat.le_of_ble_eq_true rfl, Nat.le_of_ble_eq_true rfl⟩ rfl ly_c58 (Nat.le_of_ble_eq_true rfl) rfl rfl (rest := []) rfl (Nat.le_of_ble_eq_true rfl) dX6_goesOn_126 (fun q13 => ?_)
        have q13 : r11 = 0 ∨ r11 = 1 := q13
        refine g_if_eq C 191 dX6_goesOn_129 (by decide) (rgT_inR (rt := 1) q13) (fun c14 => ?_) (fun c14 => ?_)
        · have h := z_t c14 h
          refine g_iinc C dX6_goesOn_191 (j := 6) rfl (by decide) (vs' := [(8, .int (Int32.ofInt (x8 + 1))), (0, .ref (ad 58)), (1, .int (Int32.ofInt x1)), (3, .int (Int32.ofInt x3)), (4, .int (Int32.ofInt x4)), (6, .int (Int32.ofInt x6)), (7, .int (Int32.ofInt x7))]) rfl ?_
          refine g_goto C 106 dX6_goesOn_194 (by decide) ?_
          refine g_sub [1, 2, 3, 4, 5, 6, 0] rfl ?_
          exact ih _ _ (by omega) h
        · have h := z_f c14 h
          refine g_aload_n C dX6_goesOn_132 0 rfl ?_
          refine g_iload C dX6_goesOn_133 6 rfl ?_
          obtain ⟨r15, e16, h⟩ := z_b h
          refine g_callI (n := 1) C (fun hM => c_X6_source l hM hx8 e16) gX6_goesOn_X6_source rfl (by decide) ⟨rfl, rfl⟩ ⟨Nat.le_of_ble_eq_true rfl, Nat.le_of_ble_eq_true rfl⟩ rfl ly_c58 (Nat.le_of_ble_eq_true rfl) rfl rfl (rest := []) rfl (Nat.le_of_ble_eq_true rfl) dX6_goesOn_135 (fun q17 => ?_)
          have q17 : inR r15 := q17
          refine g_iload C dX6_goesOn_138 5 rfl ?_
          refine g_icmp_ne C 191 dX6_goesOn_140 (by decide) q17 hx7 (fun c18 => ?_) (fun c18 => ?_)
          · have h := z_f c18 h
            refine g_iinc C dX6_goesOn_191 (j := 6) rfl (by decide) (vs' := [(8, .int (Int32.ofInt (x8 + 1))), (0, .ref (ad 58)), (1, .int (Int32.ofInt x1)), (3, .int (Int32.ofInt x3)), (4, .int (Int32.ofInt x4)), (6, .int (Int32.ofInt x6)), (7, .int (Int32.ofInt x7))]) rfl ?_
            refine g_goto C 106 dX6_goesOn_194 (by decide) ?_
            refine g_sub [1, 2, 3, 4, 5, 6, 0] rfl ?_
            exact ih _ _ (by omega) h
          · have h := z_t c18 h
            refine g_iload_n C dX6_goesOn_143 1 rfl ?_
            refine g_aload_n C dX6_goesOn_144 0 rfl ?_
            refine g_iload C dX6_goesOn_145 6 rfl ?_
            obtain ⟨r19, e20, h⟩ := z_b h
            refine g_callI (n := 1) C (fun hM => c_X6_far l hM hx8 e20) gX6_goesOn_X6_far rfl (by decide) ⟨rfl, rfl⟩ ⟨Nat.le_of_ble_eq_true rfl, Nat.le_of_ble_eq_true rfl⟩ rfl ly_c58 (Nat.le_of_ble_eq_true rfl) rfl rfl (rest := [.int (Int32.ofInt x1)]) rfl (Nat.le_of_ble_eq_true rfl) dX6_goesOn_147 (fun q21 => ?_)
            have q21 : inR r19 := q21
            refine g_iadd C dX6_goesOn_150 ?_
            refine g_iload C dX6_goesOn_151 3 rfl ?_
            obtain ⟨g22, h⟩ := z_g h
            refine g_icmp_gt C 191 dX6_goesOn_153 (by decide) g22 hx4 (fun c23 => ?_) (fun c23 => ?_)
            · have h := z_t c23 h
              refine g_iinc C dX6_goesOn_191 (j := 6) rfl (by decide) (vs' := [(8, .int (Int32.ofInt (x8 + 1))), (0, .ref (ad 58)), (1, .int (Int32.ofInt x1)), (3, .int (Int32.ofInt x3)), (4, .int (Int32.ofInt x4)), (6, .int (Int32.ofInt x6)), (7, .int (Int32.ofInt x7))]) rfl ?_
              refine g_goto C 106 dX6_goesOn_194 (by decide) ?_
              refine g_sub [1, 2, 3, 4, 5, 6, 0] rfl ?_
              exact ih _ _ (by omega) h
            · have h := z_f c23 h
              refine g_aload_n C dX6_goesOn_156 0 rfl ?_
              refine g_bipush C dX6_goesOn_157 (by decide) ?_
              refine g_iload_n C dX6_goesOn_159 1 rfl ?_
              refine g_aload_n C dX6_goesOn_160 0 rfl ?_
              refine g_iload C dX6_goesOn_161 6 rfl ?_
              obtain ⟨r24, e25, h⟩ := z_b h
              refine g_callI (n := 1) C (fun hM => c_X6_far l hM hx8 e25) gX6_goesOn_X6_far rfl (by decide) ⟨rfl, rfl⟩ ⟨Nat.le_of_ble_eq_true rfl, Nat.le_of_ble_eq_true rfl⟩ rfl ly_c58 (Nat.le_of_ble_eq_true rfl) rfl rfl (rest := [.int (Int32.ofInt x1), .int (Int32.ofInt 8), .ref (ad 58)]) rfl (Nat.le_of_ble_eq_true rfl) dX6_goesOn_163 (fun q26 => ?_)
              have q26 : inR r24 := q26
              refine g_iadd C dX6_goesOn_166 ?_
              refine g_imul C dX6_goesOn_167 ?_
              refine g_aload_n C dX6_goesOn_168 0 rfl ?_
              refine g_aload_n C dX6_goesOn_169 0 rfl ?_
              refine g_iload C dX6_goesOn_170 6 rfl ?_
              obtain ⟨r27, e28, h⟩ := z_b h
              refine g_callI (n := 1) C (fun hM => c_X6_target l hM hx8 e28) gX6_goesOn_X6_target rfl (by decide) ⟨rfl, rfl⟩ ⟨Nat.le_of_ble_eq_true rfl, Nat.le_of_ble_eq_true rfl⟩ rfl ly_c58 (Nat.le_of_ble_eq_true rfl) rfl rfl (rest := [.ref (ad 58), .int (Int32.ofInt (8 * (x1 + r24))), .ref (ad 58)]) rfl (Nat.le_of_ble_eq_true rfl) dX6_goesOn_172 (fun q29 => ?_)
              have q29 : inR r27 := q29
              obtain ⟨r30, e31, h⟩ := z_b h
              refine g_callI (n := 1) C (fun hM => c_X6_placeOf l hM q29 e31) gX6_goesOn_X6_placeOf rfl (by decide) ⟨rfl, rfl⟩ ⟨Nat.le_of_ble_eq_true rfl, Nat.le_of_ble_eq_true rfl⟩ rfl ly_c58 (Nat.le_of_ble_eq_true rfl) rfl rfl (rest := [.int (Int32.ofInt (8 * (x1 + r24))), .ref (ad 58)]) rfl (Nat.le_of_ble_eq_true rfl) dX6_goesOn_175 (fun q32 => ?_)
              have q32 : inR r30 := q32
              refine g_iadd C dX6_goesOn_178 ?_
              refine g_iload C dX6_goesOn_179 4 rfl ?_
              refine g_aload_n C dX6_goesOn_181 0 rfl ?_
              refine g_iload C dX6_goesOn_182 6 rfl ?_
              obtain ⟨r33, e34, h⟩ := z_b h
              refine g_callI (n := 1) C (fun hM => c_X6_lag l hM hx8 e34) gX6_goesOn_X6_lag rfl (by decide) ⟨rfl, rfl⟩ ⟨Nat.le_of_ble_eq_true rfl, Nat.le_of_ble_eq_true rfl⟩ rfl ly_c58 (Nat.le_of_ble_eq_true rfl) rfl rfl (rest := [.int (Int32.ofInt x6), .int (Int32.ofInt ((8 * (x1 + r24)) + r30)), .ref (ad 58)]) rfl (Nat.le_of_ble_eq_true rfl) dX6_goesOn_184 (fun q35 => ?_)
              have q35 : inR r33 := q35
              refine g_iadd C dX6_goesOn_187 ?_
              obtain ⟨g36, h⟩ := z_g h
              obtain ⟨g37, h⟩ := z_g h
              obtain ⟨σ40, e39, h⟩ := z_b h
              refine g_callV (n := 2) C (fun hM => c_X6_reaches l hM g36 g37 e39) gX6_goesOn_X6_reaches rfl (by decide) ⟨rfl, rfl⟩ ⟨Nat.le_of_ble_eq_true rfl, Nat.le_of_ble_eq_true rfl⟩ rfl ly_c58 (Nat.le_of_ble_eq_true rfl) rfl rfl (rest := []) rfl (Nat.le_of_ble_eq_true rfl) dX6_goesOn_188 ?_
              refine g_iinc C dX6_goesOn_191 (j := 6) rfl (by decide) (vs' := [(8, .int (Int32.ofInt (x8 + 1))), (0, .ref (ad 58)), (1, .int (Int32.ofInt x1)), (3, .int (Int32.ofInt x3)), (4, .int (Int32.ofInt x4)), (6, .int (Int32.ofInt x6)), (7, .int (Int32.ofInt x7))]) rfl ?_
              refine g_goto C 106 dX6_goesOn_194 (by decide) ?_
              refine g_sub [1, 2, 3, 4, 5, 6, 0] rfl ?_
              exact ih _ _ (by omega) h
set_option maxHeartbeats 4000000 in
set_option maxRecDepth 100000 in
theorem c_X6_goesOn (l : Launch) {σ : MM} (hM : okM σ) {a1 : Int} (ha1 : inR a1) {a2 : Int} (ha2 : inR a2) {a3 : Int} (ha3 : inR a3) {a4 : Int} (ha4 : inR a4) {a5 : Int} (ha5 : inR a5) {σo : MM} (h : X6_goesOn a1 a2 a3 a4 a5 σ = some σo) : CtV l yX6_goesOn wsX6_goesOn { frames := 4, cells := 0, slots := 0, locals := 85 } (fun ad : Nat → Nat => [.ref (ad 58), .int (Int32.ofInt a1), .int (Int32.ofInt a2), .int (Int32.ofInt a3), .int (Int32.ofInt a4), .int (Int32.ofInt a5)]) σ σo := by
  unfold X6_goesOn at h
  refine z_ctV (cc := cX6_goesOn) (maxL := 9) hM (by decide) rfl (fun _ => Nat.le_of_ble_eq_true rfl) (@fun p e s m args below meth c D cy ad A Q C hR => ?_)
  refine g_sub (vs' := [(0, .ref (ad 58)), (1, .int (Int32.ofInt a1)), (2, .int (Int32.ofInt a2)), (3, .int (Int32.ofInt a3)), (4, .int (Int32.ofInt a4)), (5, .int (Int32.ofInt a5))]) [0, 1, 2, 3, 4, 5] rfl ?_
  refine g_aload_n C dX6_goesOn_0 0 rfl ?_
  refine gf_X6_9 C in_X6_goesOn_X6 (List.mem_of_getElem? (i := 1) rfl) dX6_goesOn_1 ?_
  refine g_bipush C dX6_goesOn_4 (by decide) ?_
  refine g_iload_n C dX6_goesOn_6 1 rfl ?_
  refine g_imul C dX6_goesOn_7 ?_
  refine g_iload_n C dX6_goesOn_8 2 rfl ?_
  refine g_iadd C dX6_goesOn_9 ?_
  obtain ⟨g1, h⟩ := z_g h
  refine g_iald C ly_c62 (Nat.le_of_ble_eq_true rfl) (by decide) g1 dX6_goesOn_10 (fun r2 => ?_)
  refine g_istore C dX6_goesOn_11 (by decide) (vs' := [(6, .int (Int32.ofInt (σ 62 ((8 * a1) + a2)))), (0, .ref (ad 58)), (1, .int (Int32.ofInt a1)), (2, .int (Int32.ofInt a2)), (3, .int (Int32.ofInt a3)), (4, .int (Int32.ofInt a4)), (5, .int (Int32.ofInt a5))]) rfl ?_
  refine g_aload_n C dX6_goesOn_13 1 rfl ?_
  refine gf_X6_0 C in_X6_goesOn_X6 (List.mem_of_getElem? (i := 2) rfl) dX6_goesOn_14 ?_
  refine g_bipush C dX6_goesOn_17 (by decide) ?_
  refine g_iload_n C dX6_goesOn_19 3 rfl ?_
  refine g_iadd C dX6_goesOn_20 ?_
  obtain ⟨g3, h⟩ := z_g h
  refine g_iald C ly_c59 (Nat.le_of_ble_eq_true rfl) (by decide) g3 dX6_goesOn_21 (fun r4 => ?_)
  refine g_istore C dX6_goesOn_22 (by decide) (vs' := [(7, .int (Int32.ofInt (σ 59 (20 + a2)))), (6, .int (Int32.ofInt (σ 62 ((8 * a1) + a2)))), (0, .ref (ad 58)), (1, .int (Int32.ofInt a1)), (2, .int (Int32.ofInt a2)), (3, .int (Int32.ofInt a3)), (4, .int (Int32.ofInt a4)), (5, .int (Int32.ofInt a5))]) rfl ?_
  refine g_iload_n C dX6_goesOn_24 4 rfl ?_
  refine g_iconst C dX6_goesOn_25 ?_
  refine g_iadd C dX6_goesOn_26 ?_
  refine g_aload_n C dX6_goesOn_27 2 rfl ?_
  refine gf_X6_0 C in_X6_goesOn_X6 (List.mem_of_getElem? (i := 2) rfl) dX6_goesOn_28 ?_
  refine g_iconst C dX6_goesOn_31 ?_
  refine g_iald C ly_c59 (Nat.le_of_ble_eq_true rfl) (by decide) (by decide) dX6_goesOn_32 (fun r5 => ?_)
  refine g_icmp_ge C 60 dX6_goesOn_33 (by decide) (by omega) r5 (fun c6 => ?_) (fun c6 => ?_)
  · have h := z_f c6 h
    refine g_iload C dX6_goesOn_60 7 rfl ?_
    refine g_iconst C dX6_goesOn_62 ?_
    refine g_icmp_ne C 103 dX6_goesOn_63 (by decide) ha5 (by decide) (fun c7 => ?_) (fun c7 => ?_)
    · have h := z_f c7 h
      refine g_iconst C dX6_goesOn_103 ?_
      refine g_istore C dX6_goesOn_104 (by decide) (vs' := [(8, .int (Int32.ofInt 0)), (7, .int (Int32.ofInt (σ 59 (20 + a2)))), (6, .int (Int32.ofInt (σ 62 ((8 * a1) + a2)))), (0, .ref (ad 58)), (1, .int (Int32.ofInt a1)), (2, .int (Int32.ofInt a2)), (3, .int (Int32.ofInt a3)), (4, .int (Int32.ofInt a4)), (5, .int (Int32.ofInt a5))]) rfl ?_
      refine g_sub [3, 4, 6, 7, 2, 1, 0] rfl ?_
      refine w_X6_goesOn_L106 C ha1 ha3 ha4 r2 r4 hR ?_ _ _ _ (by decide) h
      · intro σ41 h
        obtain rfl := z_s1 h
        exact hR _ _ dX6_goesOn_197
    · have h := z_t c7 h
      refine g_iload_n C dX6_goesOn_66 3 rfl ?_
      refine g_aload_n C dX6_goesOn_67 2 rfl ?_
      refine gf_X6_0 C in_X6_goesOn_X6 (List.mem_of_getElem? (i := 2) rfl) dX6_goesOn_68 ?_
      refine g_iconst C dX6_goesOn_71 ?_
      refine g_iald C ly_c59 (Nat.le_of_ble_eq_true rfl) (by decide) (by decide) dX6_goesOn_72 (fun r42 => ?_)
      refine g_iadd C dX6_goesOn_73 ?_
      refine g_iload C dX6_goesOn_74 6 rfl ?_
      obtain ⟨g43, h⟩ := z_g h
      refine g_icmp_gt C 103 dX6_goesOn_76 (by decide) g43 ha4 (fun c44 => ?_) (fun c44 => ?_)
      · have h := z_t c44 h
        refine g_iconst C dX6_goesOn_103 ?_
        refine g_istore C dX6_goesOn_104 (by decide) (vs' := [(8, .int (Int32.ofInt 0)), (7, .int (Int32.ofInt (σ 59 (20 + a2)))), (6, .int (Int32.ofInt (σ 62 ((8 * a1) + a2)))), (0, .ref (ad 58)), (1, .int (Int32.ofInt a1)), (2, .int (Int32.ofInt a2)), (3, .int (Int32.ofInt a3)), (4, .int (Int32.ofInt a4)), (5, .int (Int32.ofInt a5))]) rfl ?_
        refine g_sub [3, 4, 6, 7, 2, 1, 0] rfl ?_
        refine w_X6_goesOn_L106 C ha1 ha3 ha4 r2 r4 hR ?_ _ _ _ (by decide) h
        · intro σ45 h
          obtain rfl := z_s1 h
          exact hR _ _ dX6_goesOn_197
      · have h := z_f c44 h
        refine g_aload_n C dX6_goesOn_79 2 rfl ?_
        refine g_bipush C dX6_goesOn_80 (by decide) ?_
        refine g_iload_n C dX6_goesOn_82 3 rfl ?_
        refine g_aload_n C dX6_goesOn_83 2 rfl ?_
        refine gf_X6_0 C in_X6_goesOn_X6 (List.mem_of_getElem? (i := 2) rfl) dX6_goesOn_84 ?_
        refine g_iconst C dX6_goesOn_87 ?_
        refine g_iald C ly_c59 (Nat.le_of_ble_eq_true rfl) (by decide) (by decide) dX6_goesOn_88 (fun r46 => ?_)
        refine g_iadd C dX6_goesOn_89 ?_
        refine g_imul C dX6_goesOn_90 ?_
        refine g_iload C dX6_goesOn_91 1 rfl ?_
        refine g_aload_n C dX6_goesOn_93 2 rfl ?_
        refine g_iload C dX6_goesOn_94 0 rfl ?_
        obtain ⟨r47, e48, h⟩ := z_b h
        refine g_callI (n := 1) C (fun hM => c_X6_cost l hM r4 e48) gX6_goesOn_X6_cost rfl (by decide) ⟨rfl, rfl⟩ ⟨Nat.le_of_ble_eq_true rfl, Nat.le_of_ble_eq_true rfl⟩ rfl ly_c58 (Nat.le_of_ble_eq_true rfl) rfl rfl (rest := [.int (Int32.ofInt (σ 62 ((8 * a1) + a2))), .int (Int32.ofInt (8 * (a1 + (σ 59 4)))), .ref (ad 58)]) rfl (Nat.le_of_ble_eq_true rfl) dX6_goesOn_96 (fun q49 => ?_)
        have q49 : inR r47 := q49
        refine g_iadd C dX6_goesOn_99 ?_
        obtain ⟨g50, h⟩ := z_g h
        obtain ⟨g51, h⟩ := z_g h
        obtain ⟨σ54, e53, h⟩ := z_b h
        refine g_callV (n := 2) C (fun hM => c_X6_reaches l hM g50 g51 e53) gX6_goesOn_X6_reaches rfl (by decide) ⟨rfl, rfl⟩ ⟨Nat.le_of_ble_eq_true rfl, Nat.le_of_ble_eq_true rfl⟩ rfl ly_c58 (Nat.le_of_ble_eq_true rfl) rfl rfl (rest := []) rfl (Nat.le_of_ble_eq_true rfl) dX6_goesOn_100 ?_
        refine g_iconst C dX6_goesOn_103 ?_
        refine g_istore C dX6_goesOn_104 (by decide) (vs' := [(8, .int (Int32.ofInt 0)), (7, .int (Int32.ofInt (σ 59 (20 + a2)))), (6, .int (Int32.ofInt (σ 62 ((8 * a1) + a2)))), (0, .ref (ad 58)), (1, .int (Int32.ofInt a1)), (2, .int (Int32.ofInt a2)), (3, .int (Int32.ofInt a3)), (4, .int (Int32.ofInt a4)), (5, .int (Int32.ofInt a5))]) rfl ?_
        refine g_sub [3, 4, 6, 7, 2, 1, 0] rfl ?_
        refine w_X6_goesOn_L106 C ha1 ha3 ha4 r2 r4 hR ?_ _ _ _ (by decide) h
        · intro σ55 h
          obtain rfl := z_s1 h
          exact hR _ _ dX6_goesOn_197
  · have h := z_t c6 h
    refine g_aload_n C dX6_goesOn_36 2 rfl ?_
    refine g_bipush C dX6_goesOn_37 (by decide) ?_
    refine g_iload_n C dX6_goesOn_39 3 rfl ?_
    refine g_imul C dX6_goesOn_40 ?_
    refine g_iload_n C dX6_goesOn_41 4 rfl ?_
    refine g_iadd C dX6_goesOn_42 ?_
    refine g_iconst C dX6_goesOn_43 ?_
    refine g_iadd C dX6_goesOn_44 ?_
    refine g_iload C dX6_goesOn_45 1 rfl ?_
    refine g_aload_n C dX6_goesOn_47 2 rfl ?_
    refine g_iload C dX6_goesOn_48 0 rfl ?_
    obtain ⟨r56, e57, h⟩ := z_b h
    refine g_callI (n := 1) C (fun hM => c_X6_cost l hM r4 e57) gX6_goesOn_X6_cost rfl (by decide) ⟨rfl, rfl⟩ ⟨Nat.le_of_ble_eq_true rfl, Nat.le_of_ble_eq_true rfl⟩ rfl ly_c58 (Nat.le_of_ble_eq_true rfl) rfl rfl (rest := [.int (Int32.ofInt (σ 62 ((8 * a1) + a2))), .int (Int32.ofInt (((8 * a1) + a2) + 1)), .ref (ad 58)]) rfl (Nat.le_of_ble_eq_true rfl) dX6_goesOn_50 (fun q58 => ?_)
    have q58 : inR r56 := q58
    refine g_iadd C dX6_goesOn_53 ?_
    obtain ⟨g59, h⟩ := z_g h
    obtain ⟨σ62, e61, h⟩ := z_b h
    refine g_callV (n := 2) C (fun hM => c_X6_reaches l hM (by omega) g59 e61) gX6_goesOn_X6_reaches rfl (by decide) ⟨rfl, rfl⟩ ⟨Nat.le_of_ble_eq_true rfl, Nat.le_of_ble_eq_true rfl⟩ rfl ly_c58 (Nat.le_of_ble_eq_true rfl) rfl rfl (rest := []) rfl (Nat.le_of_ble_eq_true rfl) dX6_goesOn_54 ?_
    refine g_goto C 103 dX6_goesOn_57 (by decide) ?_
    refine g_iconst C dX6_goesOn_103 ?_
    refine g_istore C dX6_goesOn_104 (by decide) (vs' := [(8, .int (Int32.ofInt 0)), (7, .int (Int32.ofInt (σ 59 (20 + a2)))), (6, .int (Int32.ofInt (σ 62 ((8 * a1) + a2)))), (0, .ref (ad 58)), (1, .int (Int32.ofInt a1)), (2, .int (Int32.ofInt a2)), (3, .int (Int32.ofInt a3)), (4, .int (Int32.ofInt a4)), (5, .int (Int32.ofInt a5))]) rfl ?_
    refine g_sub [3, 4, 6, 7, 2, 1, 0] rfl ?_
    refine w_X6_goesOn_L106 C ha1 ha3 ha4 r2 r4 hR ?_ _ _ _ (by decide) h
    · intro σ63 h
      obtain rfl := z_s1 h
      exact hR _ _ dX6_goesOn_197
theorem in_X6_leadOf_X6 : ∀ w ∈ u_ws RX6 TX6 20, w ∈ wsX6_leadOf := fun _ h => List.mem_cons_of_mem _ (List.mem_append_right _ h)
set_option maxHeartbeats 4000000 in
set_option maxRecDepth 100000 in
theorem w_X6_leadOf_L2 {p : Program} {l : Launch} {e : Env} {s : State} {m : MethodId} {args : Array Value} {below : List Frame} {meth : Method} {c : Code} {D : va_G} {cy : Nat → ClassId} {ad : Nat → Nat} {A : Nat → Prop} {Q : State → Prop} (C : Cx p s m args meth c cX6_leadOf RX6 5 wsX6_leadOf D cy A) {x1 : Int} (hx1 : inR x1) {x2 : Int} (hx2 : inR x2) {k21 : MM → Option (Int × MM)} {ro : Int} {σo : MM} (hR : RetI p l e { frames := 5, cells := 0, slots := 0, locals := 113 } s m args below meth c cX6_leadOf 5 D cy ad A Q 0 ro σo) (hk21 : ∀  (σ : MM), k21 σ = some (ro, σo) → G p l e { frames := 5, cells := 0, slots := 0, locals := 113 } s m args below meth c 5 D cy ad A Q 21 [(0, .ref (ad 58)), (1, .int (Int32.ofInt x1)), (2, .int (Int32.ofInt x2))] [] σ) : ∀ (n : Nat) (x3 : Int) (σ : MM) , inR x3 → X6_leadOf_L2 x1 x2 k21 n x3 σ = some (ro, σo) → G p l e { frames := 5, cells := 0, slots := 0, locals := 113 } s m args below meth c 5 D cy ad A Q 2 [(0, .ref (ad 58)), (1, .int (Int32.ofInt x1)), (2, .int (Int32.ofInt x2)), (3, .int (Int32.ofInt x3))] [] σ := by
  intro n
  induction n with
  | zero =>
    intro x3 σ hx3 h
    cases h
  | succ n ih =>
    intro x3 σ hx3 h
    rw [X6_leadOf_L2] at h
    refine g_iload_n C dX6_leadOf_2 3 rfl ?_
    refine g_bipush C dX6_leadOf_3 (by decide) ?_
    refine g_icmp_ge C 21 dX6_leadOf_5 (by decide) hx3 (by decide) (fun c1 => ?_) (fun c1 => ?_)
    · have h := z_f c1 h
      refine g_sub [0, 1, 2] rfl ?_
      exact hk21 _ h
    · have h := z_t c1 h
      refine g_aload_n C dX6_leadOf_8 0 rfl ?_
      refine gf_X6_9 C in_X6_leadOf_X6 (List.mem_of_getElem? (i := 1) rfl) dX6_leadOf_9 ?_
      refine g_iload_n C dX6_leadOf_12 3 rfl ?_
      refine g_iconst C dX6_leadOf_13 ?_
      obtain ⟨g2, h⟩ := z_g h
      refine g_iast C ly_c62 (Nat.le_of_ble_eq_true rfl) (by decide) g2 (by decide) dX6_leadOf_14 ?_
      obtain ⟨σ3, e4, h⟩ := z_l h
      refine g_mem e4 ?_
      refine g_iinc C dX6_leadOf_15 (j := 3) rfl (by decide) (vs' := [(3, .int (Int32.ofInt (x3 + 1))), (0, .ref (ad 58)), (1, .int (Int32.ofInt x1)), (2, .int (Int32.ofInt x2))]) rfl ?_
      refine g_goto C 2 dX6_leadOf_18 (by decide) ?_
      refine g_sub [1, 2, 3, 0] rfl ?_
      exact ih _ _ (by omega) h
set_option maxHeartbeats 4000000 in
set_option maxRecDepth 100000 in
theorem w_X6_leadOf_L50 {p : Program} {l : Launch} {e : Env} {s : State} {m : MethodId} {args : Array Value} {below : List Frame} {meth : Method} {c : Code} {D : va_G} {cy : Nat → ClassId} {ad : Nat → Nat} {A : Nat → Prop} {Q : State → Prop} (C : Cx p s m args meth c cX6_leadOf RX6 5 wsX6_leadOf D cy A) {x1 : Int} (hx1 : inR x1) {x2 : Int} (hx2 : inR x2) {x3 : Int} (hx3 : inR x3) {k96 : MM → Option (Int × MM)} {ro : Int} {σo : MM} (hR : RetI p l e { frames := 5, cells := 0, slots := 0, locals := 113 } s m args below meth c cX6_leadOf 5 D cy ad A Q 0 ro σo) (hk96 : ∀  (σ : MM), k96 σ = some (ro, σo) → G p l e { frames := 5, cells := 0, slots := 0, locals := 113 } s m args below meth c 5 D cy ad A Q 96 [(0, .ref (ad 58)), (1, .int (Int32.ofInt x1)), (2, .int (Int32.ofInt x2)), (3, .int (Int32.ofInt x3))] [] σ) : ∀ (n : Nat) (x4 : Int) (σ : MM) , inR x4 → X6_leadOf_L50 x1 x2 x3 k96 n x4 σ = some (ro, σo) → G p l e { frames := 5, cells := 0, slots := 0, locals := 113 } s m args below meth c 5 D cy ad A Q 50 [(0, .ref (ad 58)), (1, .int (Int32.ofInt x1)), (2, .int (Int32.ofInt x2)), (3, .int (Int32.ofInt x3)), (4, .int (Int32.ofInt x4))] [] σ := by
  intro n
  induction n with
  | zero =>
    intro x4 σ hx4 h
    cases h
  | succ n ih =>
    intro x4 σ hx4 h
    rw [X6_leadOf_L50] at h
    refine g_iload C dX6_leadOf_50 4 rfl ?_
    refine g_aload_n C dX6_leadOf_52 0 rfl ?_
    refine gf_X6_0 C in_X6_leadOf_X6 (List.mem_of_getElem? (i := 2) rfl) dX6_leadOf_53 ?_
    refine g_iconst C dX6_leadOf_56 ?_
    refine g_iald C ly_c59 (Nat.le_of_ble_eq_true rfl) (by decide) (by decide) dX6_leadOf_57 (fun r19 => ?_)
    refine g_icmp_ge C 96 dX6_leadOf_58 (by decide) hx4 r19 (fun c20 => ?_) (fun c20 => ?_)
    · have h := z_f c20 h
      refine g_sub [0, 1, 2, 3] rfl ?_
      exact hk96 _ h
    · have h := z_t c20 h
      refine g_aload_n C dX6_leadOf_61 0 rfl ?_
      refine gf_X6_9 C in_X6_leadOf_X6 (List.mem_of_getElem? (i := 1) rfl) dX6_leadOf_62 ?_
      refine g_bipush C dX6_leadOf_65 (by decide) ?_
      refine g_iload_n C dX6_leadOf_67 3 rfl ?_
      refine g_imul C dX6_leadOf_68 ?_
      refine g_iload C dX6_leadOf_69 4 rfl ?_
      refine g_iadd C dX6_leadOf_71 ?_
      obtain ⟨g21, h⟩ := z_g h
      refine g_iald C ly_c62 (Nat.le_of_ble_eq_true rfl) (by decide) g21 dX6_leadOf_72 (fun r22 => ?_)
      refine g_if_lt C 90 dX6_leadOf_73 (by decide) r22 (fun c23 => ?_) (fun c23 => ?_)
      · have h := z_t c23 h
        refine g_iinc C dX6_leadOf_90 (j := 4) rfl (by decide) (vs' := [(4, .int (Int32.ofInt (x4 + 1))), (0, .ref (ad 58)), (1, .int (Int32.ofInt x1)), (2, .int (Int32.ofInt x2)), (3, .int (Int32.ofInt x3))]) rfl ?_
        refine g_goto C 50 dX6_leadOf_93 (by decide) ?_
        refine g_sub [1, 2, 3, 4, 0] rfl ?_
        exact ih _ _ (by omega) h
      · have h := z_f c23 h
        refine g_aload_n C dX6_leadOf_76 0 rfl ?_
        refine g_iload_n C dX6_leadOf_77 3 rfl ?_
        refine g_iload C dX6_leadOf_78 4 rfl ?_
        refine g_iload_n C dX6_leadOf_80 1 rfl ?_
        refine g_aload_n C dX6_leadOf_81 0 rfl ?_
        refine g_iload_n C dX6_leadOf_82 1 rfl ?_
        obtain ⟨r24, e25, h⟩ := z_b h
        refine g_callI (n := 1) C (fun hM => c_X6_far l hM hx1 e25) gX6_leadOf_X6_far rfl (by decide) ⟨rfl, rfl⟩ ⟨Nat.le_of_ble_eq_true rfl, Nat.le_of_ble_eq_true rfl⟩ rfl ly_c58 (Nat.le_of_ble_eq_true rfl) rfl rfl (rest := [.int (Int32.ofInt x1), .int (Int32.ofInt x4), .int (Int32.ofInt x3), .ref (ad 58)]) rfl (Nat.le_of_ble_eq_true rfl) dX6_leadOf_83 (fun q26 => ?_)
        have q26 : inR r24 := q26
        refine g_iload_n C dX6_leadOf_86 2 rfl ?_
        obtain ⟨σ29, e28, h⟩ := z_b h
        refine g_callV (n := 5) C (fun hM => c_X6_goesOn l hM hx3 hx4 hx1 q26 hx2 e28) gX6_leadOf_X6_goesOn rfl (by decide) ⟨rfl, rfl⟩ ⟨Nat.le_of_ble_eq_true rfl, Nat.le_of_ble_eq_true rfl⟩ rfl ly_c58 (Nat.le_of_ble_eq_true rfl) rfl rfl (rest := []) rfl (Nat.le_of_ble_eq_true rfl) dX6_leadOf_87 ?_
        refine g_iinc C dX6_leadOf_90 (j := 4) rfl (by decide) (vs' := [(4, .int (Int32.ofInt (x4 + 1))), (0, .ref (ad 58)), (1, .int (Int32.ofInt x1)), (2, .int (Int32.ofInt x2)), (3, .int (Int32.ofInt x3))]) rfl ?_
        refine g_goto C 50 dX6_leadOf_93 (by decide) ?_
        refine g_sub [1, 2, 3, 4, 0] rfl ?_
        exact ih _ _ (by omega) h
set_option maxHeartbeats 4000000 in
set_option maxRecDepth 100000 in
theorem w_X6_leadOf_L38 {p : Program} {l : Launch} {e : Env} {s : State} {m : MethodId} {args : Array Value} {below : List Frame} {meth : Method} {c : Code} {D : va_G} {cy : Nat → ClassId} {ad : Nat → Nat} {A : Nat → Prop} {Q : State → Prop} (C : Cx p s m args meth c cX6_leadOf RX6 5 wsX6_leadOf D cy A) {x1 : Int} (hx1 : inR x1) {x2 : Int} (hx2 : inR x2) {k102 : MM → Option (Int × MM)} {ro : Int} {σo : MM} (hR : RetI p l e { frames := 5, cells := 0, slots := 0, locals := 113 } s m args below meth c cX6_leadOf 5 D cy ad A Q 0 ro σo) (hk102 : ∀  (σ : MM), k102 σ = some (ro, σo) → G p l e { frames := 5, cells := 0, slots := 0, locals := 113 } s m args below meth c 5 D cy ad A Q 102 [(0, .ref (ad 58)), (1, .int (Int32.ofInt x1))] [] σ) : ∀ (n : Nat) (x3 : Int) (σ : MM) , inR x3 → X6_leadOf_L38 x1 x2 k102 n x3 σ = some (ro, σo) → G p l e { frames := 5, cells := 0, slots := 0, locals := 113 } s m args below meth c 5 D cy ad A Q 38 [(0, .ref (ad 58)), (1, .int (Int32.ofInt x1)), (2, .int (Int32.ofInt x2)), (3, .int (Int32.ofInt x3))] [] σ := by
  intro n
  induction n with
  | zero =>
    intro x3 σ hx3 h
    cases h
  | succ n ih =>
    intro x3 σ hx3 h
    rw [X6_leadOf_L38] at h
    refine g_iload_n C dX6_leadOf_38 3 rfl ?_
    refine g_aload_n C dX6_leadOf_39 0 rfl ?_
    refine g_iload_n C dX6_leadOf_40 1 rfl ?_
    obtain ⟨r15, e16, h⟩ := z_b h
    refine g_callI (n := 1) C (fun hM => c_X6_far l hM hx1 e16) gX6_leadOf_X6_far rfl (by decide) ⟨rfl, rfl⟩ ⟨Nat.le_of_ble_eq_true rfl, Nat.le_of_ble_eq_true rfl⟩ rfl ly_c58 (Nat.le_of_ble_eq_true rfl) rfl rfl (rest := [.int (Int32.ofInt x3)]) rfl (Nat.le_of_ble_eq_true rfl) dX6_leadOf_41 (fun q17 => ?_)
    have q17 : inR r15 := q17
    refine g_icmp_gt C 102 dX6_leadOf_44 (by decide) hx3 q17 (fun c18 => ?_) (fun c18 => ?_)
    · have h := z_t c18 h
      refine g_sub [0, 1] rfl ?_
      exact hk102 _ h
    · have h := z_f c18 h
      refine g_iconst C dX6_leadOf_47 ?_
      refine g_istore C dX6_leadOf_48 (by decide) (vs' := [(4, .int (Int32.ofInt 0)), (0, .ref (ad 58)), (1, .int (Int32.ofInt x1)), (2, .int (Int32.ofInt x2)), (3, .int (Int32.ofInt x3))]) rfl ?_
      refine g_sub [1, 2, 3, 4, 0] rfl ?_
      refine w_X6_leadOf_L50 C hx1 hx2 hx3 hR ?_ _ _ _ (by decide) h
      · intro σ30 h
        refine g_iinc C dX6_leadOf_96 (j := 3) rfl (by decide) (vs' := [(3, .int (Int32.ofInt (x3 + 1))), (0, .ref (ad 58)), (1, .int (Int32.ofInt x1)), (2, .int (Int32.ofInt x2))]) rfl ?_
        refine g_goto C 38 dX6_leadOf_99 (by decide) ?_
        obtain ⟨g31, h⟩ := z_g h
        refine g_sub [1, 2, 3, 0] rfl ?_
        exact ih _ _ g31 h
set_option maxHeartbeats 4000000 in
set_option maxRecDepth 100000 in
theorem c_X6_leadOf (l : Launch) {σ : MM} (hM : okM σ) {a1 : Int} (ha1 : inR a1) {a2 : Int} (ha2 : inR a2) {ro : Int} {σo : MM} (h : X6_leadOf a1 a2 σ = some (ro, σo)) : CtI l yX6_leadOf wsX6_leadOf { frames := 5, cells := 0, slots := 0, locals := 113 } (fun ad : Nat → Nat => [.ref (ad 58), .int (Int32.ofInt a1), .int (Int32.ofInt a2)]) σ 0 ro σo := by
  unfold X6_leadOf at h
  refine z_ctI (cc := cX6_leadOf) (maxL := 5) (rt := 0) hM (by decide) rfl (fun _ => Nat.le_of_ble_eq_true rfl) (@fun p e s m args below meth c D cy ad A Q C hR => ?_)
  refine g_sub (vs' := [(0, .ref (ad 58)), (1, .int (Int32.ofInt a1)), (2, .int (Int32.ofInt a2))]) [0, 1, 2] rfl ?_
  refine g_iconst C dX6_leadOf_0 ?_
  refine g_istore_n C dX6_leadOf_1 (by decide) (vs' := [(3, .int (Int32.ofInt 0)), (0, .ref (ad 58)), (1, .int (Int32.ofInt a1)), (2, .int (Int32.ofInt a2))]) rfl ?_
  refine g_sub [1, 2, 3, 0] rfl ?_
  refine w_X6_leadOf_L2 C ha1 ha2 hR ?_ _ _ _ (by decide) h
  · intro σ5 h
    refine g_aload_n C dX6_leadOf_21 0 rfl ?_
    refine gf_X6_9 C in_X6_leadOf_X6 (List.mem_of_getElem? (i := 1) rfl) dX6_leadOf_22 ?_
    refine g_aload_n C dX6_leadOf_25 0 rfl ?_
    refine g_aload_n C dX6_leadOf_26 0 rfl ?_
    refine g_iload_n C dX6_leadOf_27 1 rfl ?_
    obtain ⟨r6, e7, h⟩ := z_b h
    refine g_callI (n := 1) C (fun hM => c_X6_source l hM ha1 e7) gX6_leadOf_X6_source rfl (by decide) ⟨rfl, rfl⟩ ⟨Nat.le_of_ble_eq_true rfl, Nat.le_of_ble_eq_true rfl⟩ rfl ly_c58 (Nat.le_of_ble_eq_true rfl) rfl rfl (rest := [.ref (ad 58), .ref (ad 62)]) rfl (Nat.le_of_ble_eq_true rfl) dX6_leadOf_28 (fun q8 => ?_)
    have q8 : inR r6 := q8
    obtain ⟨r9, e10, h⟩ := z_b h
    refine g_callI (n := 1) C (fun hM => c_X6_placeOf l hM q8 e10) gX6_leadOf_X6_placeOf rfl (by decide) ⟨rfl, rfl⟩ ⟨Nat.le_of_ble_eq_true rfl, Nat.le_of_ble_eq_true rfl⟩ rfl ly_c58 (Nat.le_of_ble_eq_true rfl) rfl rfl (rest := [.ref (ad 62)]) rfl (Nat.le_of_ble_eq_true rfl) dX6_leadOf_31 (fun q11 => ?_)
    have q11 : inR r9 := q11
    refine g_iconst C dX6_leadOf_34 ?_
    obtain ⟨g12, h⟩ := z_g h
    refine g_iast C ly_c62 (Nat.le_of_ble_eq_true rfl) (by decide) g12 (by decide) dX6_leadOf_35 ?_
    obtain ⟨σ13, e14, h⟩ := z_l h
    refine g_mem e14 ?_
    refine g_iconst C dX6_leadOf_36 ?_
    refine g_istore_n C dX6_leadOf_37 (by decide) (vs' := [(3, .int (Int32.ofInt 0)), (0, .ref (ad 58)), (1, .int (Int32.ofInt a1)), (2, .int (Int32.ofInt a2))]) rfl ?_
    refine g_sub [1, 2, 3, 0] rfl ?_
    refine w_X6_leadOf_L38 C ha1 ha2 hR ?_ _ _ _ (by decide) h
    · intro σ32 h
      refine g_aload_n C dX6_leadOf_102 0 rfl ?_
      refine gf_X6_9 C in_X6_leadOf_X6 (List.mem_of_getElem? (i := 1) rfl) dX6_leadOf_103 ?_
      refine g_bipush C dX6_leadOf_106 (by decide) ?_
      refine g_aload_n C dX6_leadOf_108 0 rfl ?_
      refine g_iload_n C dX6_leadOf_109 1 rfl ?_
      obtain ⟨r33, e34, h⟩ := z_b h
      refine g_callI (n := 1) C (fun hM => c_X6_far l hM ha1 e34) gX6_leadOf_X6_far rfl (by decide) ⟨rfl, rfl⟩ ⟨Nat.le_of_ble_eq_true rfl, Nat.le_of_ble_eq_true rfl⟩ rfl ly_c58 (Nat.le_of_ble_eq_true rfl) rfl rfl (rest := [.int (Int32.ofInt 8), .ref (ad 62)]) rfl (Nat.le_of_ble_eq_true rfl) dX6_leadOf_110 (fun q35 => ?_)
      have q35 : inR r33 := q35
      refine g_imul C dX6_leadOf_113 ?_
      refine g_aload_n C dX6_leadOf_114 0 rfl ?_
      refine g_aload_n C dX6_leadOf_115 0 rfl ?_
      refine g_iload_n C dX6_leadOf_116 1 rfl ?_
      obtain ⟨r36, e37, h⟩ := z_b h
      refine g_callI (n := 1) C (fun hM => c_X6_target l hM ha1 e37) gX6_leadOf_X6_target rfl (by decide) ⟨rfl, rfl⟩ ⟨Nat.le_of_ble_eq_true rfl, Nat.le_of_ble_eq_true rfl⟩ rfl ly_c58 (Nat.le_of_ble_eq_true rfl) rfl rfl (rest := [.ref (ad 58), .int (Int32.ofInt (8 * r33)), .ref (ad 62)]) rfl (Nat.le_of_ble_eq_true rfl) dX6_leadOf_117 (fun q38 => ?_)
      have q38 : inR r36 := q38
      obtain ⟨r39, e40, h⟩ := z_b h
      refine g_callI (n := 1) C (fun hM => c_X6_placeOf l hM q38 e40) gX6_leadOf_X6_placeOf rfl (by decide) ⟨rfl, rfl⟩ ⟨Nat.le_of_ble_eq_true rfl, Nat.le_of_ble_eq_true rfl⟩ rfl ly_c58 (Nat.le_of_ble_eq_true rfl) rfl rfl (rest := [.int (Int32.ofInt (8 * r33)), .ref (ad 62)]) rfl (Nat.le_of_ble_eq_true rfl) dX6_leadOf_120 (fun q41 => ?_)
      have q41 : inR r39 := q41
      refine g_iadd C dX6_leadOf_123 ?_
      obtain ⟨g42, h⟩ := z_g h
      refine g_iald C ly_c62 (Nat.le_of_ble_eq_true rfl) (by decide) g42 dX6_leadOf_124 (fun r43 => ?_)
      obtain ⟨rfl, rfl⟩ := z_s2 h
      exact hR _ _ dX6_leadOf_125 r43
theorem in_X6_lead_X6 : ∀ w ∈ u_ws RX6 TX6 20, w ∈ wsX6_lead := fun _ h => List.mem_cons_of_mem _ (List.mem_append_right _ h)
set_option maxHeartbeats 4000000 in
set_option maxRecDepth 100000 in
theorem c_X6_lead (l : Launch) {σ : MM} (hM : okM σ) {a1 : Int} (ha1 : inR a1) {a2 : Int} (ha2 : inR a2) {ro : Int} {σo : MM} (h : X6_lead a1 a2 σ = some (ro, σo)) : CtI l yX6_lead wsX6_lead { frames := 6, cells := 0, slots := 0, locals := 137 } (fun ad : Nat → Nat => [.ref (ad 58), .int (Int32.ofInt a1), .int (Int32.ofInt a2)]) σ 0 ro σo := by
  unfold X6_lead at h
  refine z_ctI (cc := cX6_lead) (maxL := 3) (rt := 0) hM (by decide) rfl (fun _ => Nat.le_of_ble_eq_true rfl) (@fun p e s m args below meth c D cy ad A Q C hR => ?_)
  refine g_sub (vs' := [(0, .ref (ad 58)), (1, .int (Int32.ofInt a1)), (2, .int (Int32.ofInt a2))]) [0, 1, 2] rfl ?_
  refine g_aload_n C dX6_lead_0 0 rfl ?_
  refine g_iconst C dX6_lead_1 ?_
  refine gp_X6_3 C in_X6_lead_X6 (List.mem_of_getElem? (i := 1) rfl) (by decide) dX6_lead_2 ?_
  obtain ⟨σ1, e2, h⟩ := z_l h
  refine g_mem e2 ?_
  refine g_aload_n C dX6_lead_5 0 rfl ?_
  refine g_iload_n C dX6_lead_6 1 rfl ?_
  obtain ⟨r3, e4, h⟩ := z_b h
  refine g_callI (n := 1) C (fun hM => c_X6_isDependence l hM ha1 e4) gX6_lead_X6_isDependence rfl (by decide) ⟨rfl, rfl⟩ ⟨Nat.le_of_ble_eq_true rfl, Nat.le_of_ble_eq_true rfl⟩ rfl ly_c58 (Nat.le_of_ble_eq_true rfl) rfl rfl (rest := []) rfl (Nat.le_of_ble_eq_true rfl) dX6_lead_7 (fun q5 => ?_)
  have q5 : r3 = 0 ∨ r3 = 1 := q5
  refine g_if_ne C 19 dX6_lead_10 (by decide) (rgT_inR (rt := 1) q5) (fun c6 => ?_) (fun c6 => ?_)
  · have h := z_f c6 h
    refine g_iload_n C dX6_lead_19 2 rfl ?_
    refine g_iconst C dX6_lead_20 ?_
    refine g_iconst C dX6_lead_21 ?_
    obtain ⟨r7, e8, h⟩ := z_b h
    refine g_callS (n := 3) C (fun hM => c_X6_in l hM ha2 (by decide) (by decide) e8) gX6_lead_X6_in rfl (by decide) ⟨rfl, rfl⟩ ⟨Nat.le_of_ble_eq_true rfl, Nat.le_of_ble_eq_true rfl⟩ rfl rfl (rest := []) rfl (Nat.le_of_ble_eq_true rfl) dX6_lead_22 (fun q9 => ?_)
    have q9 : r7 = 0 ∨ r7 = 1 := q9
    refine g_if_ne C 34 dX6_lead_25 (by decide) (rgT_inR (rt := 1) q9) (fun c10 => ?_) (fun c10 => ?_)
    · have h := z_f c10 h
      refine g_aload_n C dX6_lead_34 0 rfl ?_
      refine g_iload_n C dX6_lead_35 1 rfl ?_
      obtain ⟨r11, e12, h⟩ := z_b h
      refine g_callI (n := 1) C (fun hM => c_X6_far l hM ha1 e12) gX6_lead_X6_far rfl (by decide) ⟨rfl, rfl⟩ ⟨Nat.le_of_ble_eq_true rfl, Nat.le_of_ble_eq_true rfl⟩ rfl ly_c58 (Nat.le_of_ble_eq_true rfl) rfl rfl (rest := []) rfl (Nat.le_of_ble_eq_true rfl) dX6_lead_36 (fun q13 => ?_)
      have q13 : inR r11 := q13
      refine g_if_ne C 50 dX6_lead_39 (by decide) q13 (fun c14 => ?_) (fun c14 => ?_)
      · have h := z_f c14 h
        refine g_aload_n C dX6_lead_50 0 rfl ?_
        refine g_iload_n C dX6_lead_51 1 rfl ?_
        refine g_iload_n C dX6_lead_52 2 rfl ?_
        obtain ⟨⟨r15, σ17⟩, e16, h⟩ := z_b h
        refine g_callI (n := 2) C (fun hM => c_X6_leadOf l hM ha1 ha2 e16) gX6_lead_X6_leadOf rfl (by decide) ⟨rfl, rfl⟩ ⟨Nat.le_of_ble_eq_true rfl, Nat.le_of_ble_eq_true rfl⟩ rfl ly_c58 (Nat.le_of_ble_eq_true rfl) rfl rfl (rest := []) rfl (Nat.le_of_ble_eq_true rfl) dX6_lead_53 (fun q18 => ?_)
        have q18 : inR r15 := q18
        obtain ⟨rfl, rfl⟩ := z_s2 h
        exact hR _ _ dX6_lead_56 q18
      · have h := z_t c14 h
        refine g_aload_n C dX6_lead_42 0 rfl ?_
        refine g_iconst C dX6_lead_43 ?_
        obtain ⟨⟨r19, σ21⟩, e20, h⟩ := z_b h
        refine g_callI (n := 1) C (fun hM => c_X6_fails l hM (by decide) e20) gX6_lead_X6_fails rfl (by decide) ⟨rfl, rfl⟩ ⟨Nat.le_of_ble_eq_true rfl, Nat.le_of_ble_eq_true rfl⟩ rfl ly_c58 (Nat.le_of_ble_eq_true rfl) rfl rfl (rest := []) rfl (Nat.le_of_ble_eq_true rfl) dX6_lead_44 (fun q22 => ?_)
        have q22 : inR r19 := q22
        refine g_goto C 56 dX6_lead_47 (by decide) ?_
        obtain ⟨rfl, rfl⟩ := z_s2 h
        exact hR _ _ dX6_lead_56 q22
    · have h := z_t c10 h
      refine g_aload_n C dX6_lead_28 0 rfl ?_
      refine g_iconst C dX6_lead_29 ?_
      obtain ⟨⟨r23, σ25⟩, e24, h⟩ := z_b h
      refine g_callI (n := 1) C (fun hM => c_X6_fails l hM (by decide) e24) gX6_lead_X6_fails rfl (by decide) ⟨rfl, rfl⟩ ⟨Nat.le_of_ble_eq_true rfl, Nat.le_of_ble_eq_true rfl⟩ rfl ly_c58 (Nat.le_of_ble_eq_true rfl) rfl rfl (rest := []) rfl (Nat.le_of_ble_eq_true rfl) dX6_lead_30 (fun q26 => ?_)
      have q26 : inR r23 := q26
      obtain ⟨rfl, rfl⟩ := z_s2 h
      exact hR _ _ dX6_lead_33 q26
  · have h := z_t c6 h
    refine g_aload_n C dX6_lead_13 0 rfl ?_
    refine g_iconst C dX6_lead_14 ?_
    obtain ⟨⟨r27, σ29⟩, e28, h⟩ := z_b h
    refine g_callI (n := 1) C (fun hM => c_X6_fails l hM (by decide) e28) gX6_lead_X6_fails rfl (by decide) ⟨rfl, rfl⟩ ⟨Nat.le_of_ble_eq_true rfl, Nat.le_of_ble_eq_true rfl⟩ rfl ly_c58 (Nat.le_of_ble_eq_true rfl) rfl rfl (rest := []) rfl (Nat.le_of_ble_eq_true rfl) dX6_lead_15 (fun q30 => ?_)
    have q30 : inR r27 := q30
    obtain ⟨rfl, rfl⟩ := z_s2 h
    exact hR _ _ dX6_lead_18 q30
theorem in_X6_eliminate_X6 : ∀ w ∈ u_ws RX6 TX6 20, w ∈ wsX6_eliminate := fun _ h => List.mem_cons_of_mem _ (List.mem_append_right _ h)
set_option maxHeartbeats 4000000 in
set_option maxRecDepth 100000 in
theorem w_X6_eliminate_L38 {p : Program} {l : Launch} {e : Env} {s : State} {m : MethodId} {args : Array Value} {below : List Frame} {meth : Method} {c : Code} {D : va_G} {cy : Nat → ClassId} {ad : Nat → Nat} {A : Nat → Prop} {Q : State → Prop} (C : Cx p s m args meth c cX6_eliminate RX6 5 wsX6_eliminate D cy A) {x1 : Int} (hx1 : inR x1) {x3 : Int} (hx3 : inR x3) {k99 : Int → MM → Option (Int × MM)} {ro : Int} {σo : MM} (hR : RetI p l e { frames := 6, cells := 0, slots := 0, locals := 137 } s m args below meth c cX6_eliminate 5 D cy ad A Q 0 ro σo) (hk99 : ∀ (z2 : Int) (σ : MM), inR z2 → k99 z2 σ = some (ro, σo) → G p l e { frames := 6, cells := 0, slots := 0, locals := 137 } s m args below meth c 5 D cy ad A Q 99 [(0, .ref (ad 58)), (1, .int (Int32.ofInt x1)), (2, .int (Int32.ofInt z2)), (3, .int (Int32.ofInt x3))] [] σ) : ∀ (n : Nat) (x2 x4 : Int) (σ : MM) , inR x2 → inR x4 → X6_eliminate_L38 x1 x3 k99 n x2 x4 σ = some (ro, σo) → G p l e { frames := 6, cells := 0, slots := 0, locals := 137 } s m args below meth c 5 D cy ad A Q 38 [(0, .ref (ad 58)), (1, .int (Int32.ofInt x1)), (2, .int (Int32.ofInt x2)), (3, .int (Int32.ofInt x3)), (4, .int (Int32.ofInt x4))] [] σ := by
  intro n
  induction n with
  | zero =>
    intro x2 x4 σ hx2 hx4 h
    cases h
  | succ n ih =>
    intro x2 x4 σ hx2 hx4 h
    rw [X6_eliminate_L38] at h
    refine g_iload C dX6_eliminate_38 4 rfl ?_
    refine g_if_lt C 99 dX6_eliminate_40 (by decide) hx4 (fun c9 => ?_) (fun c9 => ?_)
    · have h := z_t c9 h
      refine g_sub [0, 1, 2, 3] rfl ?_
      exact hk99 _ _ hx2 h
    · have h := z_f c9 h
      refine g_aload_n C dX6_eliminate_43 0 rfl ?_
      refine g_iload C dX6_eliminate_44 4 rfl ?_
      obtain ⟨r10, e11, h⟩ := z_b h
      refine g_callI (n := 1) C (fun hM => c_X6_isSignal l hM hx4 e11) gX6_eliminate_X6_isSignal rfl (by decide) ⟨rfl, rfl⟩ ⟨Nat.le_of_ble_eq_true rfl, Nat.le_of_ble_eq_true rfl⟩ rfl ly_c58 (Nat.le_of_ble_eq_true rfl) rfl rfl (rest := []) rfl (Nat.le_of_ble_eq_true rfl) dX6_eliminate_46 (fun q12 => ?_)
      have q12 : r10 = 0 ∨ r10 = 1 := q12
      refine g_if_eq C 93 dX6_eliminate_49 (by decide) (rgT_inR (rt := 1) q12) (fun c13 => ?_) (fun c13 => ?_)
      · have h := z_t c13 h
        refine g_iinc C dX6_eliminate_93 (j := 4) rfl (by decide) (vs' := [(4, .int (Int32.ofInt (x4 + (-1)))), (0, .ref (ad 58)), (1, .int (Int32.ofInt x1)), (2, .int (Int32.ofInt x2)), (3, .int (Int32.ofInt x3))]) rfl ?_
        refine g_goto C 38 dX6_eliminate_96 (by decide) ?_
        refine g_sub [1, 2, 3, 4, 0] rfl ?_
        exact ih _ _ _ hx2 (by omega) h
      · have h := z_f c13 h
        refine g_aload_n C dX6_eliminate_52 0 rfl ?_
        refine g_iload C dX6_eliminate_53 4 rfl ?_
        obtain ⟨r14, e15, h⟩ := z_b h
        refine g_callI (n := 1) C (fun hM => c_X6_far l hM hx4 e15) gX6_eliminate_X6_far rfl (by decide) ⟨rfl, rfl⟩ ⟨Nat.le_of_ble_eq_true rfl, Nat.le_of_ble_eq_true rfl⟩ rfl ly_c58 (Nat.le_of_ble_eq_true rfl) rfl rfl (rest := []) rfl (Nat.le_of_ble_eq_true rfl) dX6_eliminate_55 (fun q16 => ?_)
        have q16 : inR r14 := q16
        refine g_iload_n C dX6_eliminate_58 3 rfl ?_
        refine g_icmp_ne C 93 dX6_eliminate_59 (by decide) q16 hx3 (fun c17 => ?_) (fun c17 => ?_)
        · have h := z_f c17 h
          refine g_iinc C dX6_eliminate_93 (j := 4) rfl (by decide) (vs' := [(4, .int (Int32.ofInt (x4 + (-1)))), (0, .ref (ad 58)), (1, .int (Int32.ofInt x1)), (2, .int (Int32.ofInt x2)), (3, .int (Int32.ofInt x3))]) rfl ?_
          refine g_goto C 38 dX6_eliminate_96 (by decide) ?_
          refine g_sub [1, 2, 3, 4, 0] rfl ?_
          exact ih _ _ _ hx2 (by omega) h
        · have h := z_t c17 h
          refine g_aload_n C dX6_eliminate_62 0 rfl ?_
          refine g_iload C dX6_eliminate_63 4 rfl ?_
          refine g_iload_n C dX6_eliminate_65 1 rfl ?_
          obtain ⟨⟨r18, σ20⟩, e19, h⟩ := z_b h
          refine g_callI (n := 2) C (fun hM => c_X6_leadOf l hM hx4 hx1 e19) gX6_eliminate_X6_leadOf rfl (by decide) ⟨rfl, rfl⟩ ⟨Nat.le_of_ble_eq_true rfl, Nat.le_of_ble_eq_true rfl⟩ rfl ly_c58 (Nat.le_of_ble_eq_true rfl) rfl rfl (rest := []) rfl (Nat.le_of_ble_eq_true rfl) dX6_eliminate_66 (fun q21 => ?_)
          have q21 : inR r18 := q21
          refine g_aload_n C dX6_eliminate_69 0 rfl ?_
          refine g_iload C dX6_eliminate_70 4 rfl ?_
          obtain ⟨r22, e23, h⟩ := z_b h
          refine g_callI (n := 1) C (fun hM => c_X6_lag l hM hx4 e23) gX6_eliminate_X6_lag rfl (by decide) ⟨rfl, rfl⟩ ⟨Nat.le_of_ble_eq_true rfl, Nat.le_of_ble_eq_true rfl⟩ rfl ly_c58 (Nat.le_of_ble_eq_true rfl) rfl rfl (rest := [.int (Int32.ofInt r18)]) rfl (Nat.le_of_ble_eq_true rfl) dX6_eliminate_72 (fun q24 => ?_)
          have q24 : inR r22 := q24
          refine g_icmp_lt C 93 dX6_eliminate_75 (by decide) q21 q24 (fun c25 => ?_) (fun c25 => ?_)
          · have h := z_t c25 h
            refine g_iinc C dX6_eliminate_93 (j := 4) rfl (by decide) (vs' := [(4, .int (Int32.ofInt (x4 + (-1)))), (0, .ref (ad 58)), (1, .int (Int32.ofInt x1)), (2, .int (Int32.ofInt x2)), (3, .int (Int32.ofInt x3))]) rfl ?_
            refine g_goto C 38 dX6_eliminate_96 (by decide) ?_
            refine g_sub [1, 2, 3, 4, 0] rfl ?_
            exact ih _ _ _ hx2 (by omega) h
          · have h := z_f c25 h
            refine g_aload_n C dX6_eliminate_78 0 rfl ?_
            refine gf_X6_0 C in_X6_eliminate_X6 (List.mem_of_getElem? (i := 2) rfl) dX6_eliminate_79 ?_
            refine g_iload C dX6_eliminate_82 4 rfl ?_
            refine g_iconst C dX6_eliminate_84 ?_
            obtain ⟨r26, e27, h⟩ := z_b h
            refine g_callS (n := 2) C (fun hM => c_X6_at l hM hx4 (by decide) e27) gX6_eliminate_X6_at rfl (by decide) ⟨rfl, rfl⟩ ⟨Nat.le_of_ble_eq_true rfl, Nat.le_of_ble_eq_true rfl⟩ rfl rfl (rest := [.ref (ad 59)]) rfl (Nat.le_of_ble_eq_true rfl) dX6_eliminate_85 (fun q28 => ?_)
            have q28 : inR r26 := q28
            refine g_iconst C dX6_eliminate_88 ?_
            obtain ⟨g29, h⟩ := z_g h
            refine g_iast C ly_c59 (Nat.le_of_ble_eq_true rfl) (by decide) g29 (by decide) dX6_eliminate_89 ?_
            obtain ⟨σ30, e31, h⟩ := z_l h
            refine g_mem e31 ?_
            refine g_iinc C dX6_eliminate_90 (j := 2) rfl (by decide) (vs' := [(2, .int (Int32.ofInt (x2 + 1))), (0, .ref (ad 58)), (1, .int (Int32.ofInt x1)), (3, .int (Int32.ofInt x3)), (4, .int (Int32.ofInt x4))]) rfl ?_
            refine g_iinc C dX6_eliminate_93 (j := 4) rfl (by decide) (vs' := [(4, .int (Int32.ofInt (x4 + (-1)))), (2, .int (Int32.ofInt (x2 + 1))), (0, .ref (ad 58)), (1, .int (Int32.ofInt x1)), (3, .int (Int32.ofInt x3))]) rfl ?_
            refine g_goto C 38 dX6_eliminate_96 (by decide) ?_
            obtain ⟨g32, h⟩ := z_g h
            refine g_sub [2, 3, 1, 4, 0] rfl ?_
            exact ih _ _ _ g32 (by omega) h
set_option maxHeartbeats 4000000 in
set_option maxRecDepth 100000 in
theorem w_X6_eliminate_L24 {p : Program} {l : Launch} {e : Env} {s : State} {m : MethodId} {args : Array Value} {below : List Frame} {meth : Method} {c : Code} {D : va_G} {cy : Nat → ClassId} {ad : Nat → Nat} {A : Nat → Prop} {Q : State → Prop} (C : Cx p s m args meth c cX6_eliminate RX6 5 wsX6_eliminate D cy A) {x1 : Int} (hx1 : inR x1) {k105 : Int → MM → Option (Int × MM)} {ro : Int} {σo : MM} (hR : RetI p l e { frames := 6, cells := 0, slots := 0, locals := 137 } s m args below meth c cX6_eliminate 5 D cy ad A Q 0 ro σo) (hk105 : ∀ (z2 : Int) (σ : MM), inR z2 → k105 z2 σ = some (ro, σo) → G p l e { frames := 6, cells := 0, slots := 0, locals := 137 } s m args below meth c 5 D cy ad A Q 105 [(2, .int (Int32.ofInt z2))] [] σ) : ∀ (n : Nat) (x2 x3 : Int) (σ : MM) , inR x2 → inR x3 → X6_eliminate_L24 x1 k105 n x2 x3 σ = some (ro, σo) → G p l e { frames := 6, cells := 0, slots := 0, locals := 137 } s m args below meth c 5 D cy ad A Q 24 [(0, .ref (ad 58)), (1, .int (Int32.ofInt x1)), (2, .int (Int32.ofInt x2)), (3, .int (Int32.ofInt x3))] [] σ := by
  intro n
  induction n with
  | zero =>
    intro x2 x3 σ hx2 hx3 h
    cases h
  | succ n ih =>
    intro x2 x3 σ hx2 hx3 h
    rw [X6_eliminate_L24] at h
    refine g_iload_n C dX6_eliminate_24 3 rfl ?_
    refine g_if_le C 105 dX6_eliminate_25 (by decide) hx3 (fun c7 => ?_) (fun c7 => ?_)
    · have h := z_f c7 h
      refine g_sub [2] rfl ?_
      exact hk105 _ _ hx2 h
    · have h := z_t c7 h
      refine g_aload_n C dX6_eliminate_28 0 rfl ?_
      refine gf_X6_0 C in_X6_eliminate_X6 (List.mem_of_getElem? (i := 2) rfl) dX6_eliminate_29 ?_
      refine g_iconst C dX6_eliminate_32 ?_
      refine g_iald C ly_c59 (Nat.le_of_ble_eq_true rfl) (by decide) (by decide) dX6_eliminate_33 (fun r8 => ?_)
      refine g_iconst C dX6_eliminate_34 ?_
      refine g_isub C dX6_eliminate_35 ?_
      refine g_istore C dX6_eliminate_36 (by decide) (vs' := [(4, .int (Int32.ofInt ((σ 59 1) - 1))), (0, .ref (ad 58)), (1, .int (Int32.ofInt x1)), (2, .int (Int32.ofInt x2)), (3, .int (Int32.ofInt x3))]) rfl ?_
      obtain ⟨g33, h⟩ := z_g h
      refine g_sub [1, 2, 3, 4, 0] rfl ?_
      refine w_X6_eliminate_L38 C hx1 hx3 hR ?_ _ _ _ _ hx2 g33 h
      · intro z34 σ35 hz34 h
        refine g_iinc C dX6_eliminate_99 (j := 3) rfl (by decide) (vs' := [(3, .int (Int32.ofInt (x3 + (-1)))), (0, .ref (ad 58)), (1, .int (Int32.ofInt x1)), (2, .int (Int32.ofInt z34))]) rfl ?_
        refine g_goto C 24 dX6_eliminate_102 (by decide) ?_
        refine g_sub [1, 2, 3, 0] rfl ?_
        exact ih _ _ _ hz34 (by omega) h
set_option maxHeartbeats 4000000 in
set_option maxRecDepth 100000 in
theorem c_X6_eliminate (l : Launch) {σ : MM} (hM : okM σ) {a1 : Int} (ha1 : inR a1) {ro : Int} {σo : MM} (h : X6_eliminate a1 σ = some (ro, σo)) : CtI l yX6_eliminate wsX6_eliminate { frames := 6, cells := 0, slots := 0, locals := 137 } (fun ad : Nat → Nat => [.ref (ad 58), .int (Int32.ofInt a1)]) σ 0 ro σo := by
  unfold X6_eliminate at h
  refine z_ctI (cc := cX6_eliminate) (maxL := 5) (rt := 0) hM (by decide) rfl (fun _ => Nat.le_of_ble_eq_true rfl) (@fun p e s m args below meth c D cy ad A Q C hR => ?_)
  refine g_sub (vs' := [(0, .ref (ad 58)), (1, .int (Int32.ofInt a1))]) [0, 1] rfl ?_
  refine g_aload_n C dX6_eliminate_0 0 rfl ?_
  refine g_iconst C dX6_eliminate_1 ?_
  refine gp_X6_3 C in_X6_eliminate_X6 (List.mem_of_getElem? (i := 1) rfl) (by decide) dX6_eliminate_2 ?_
  obtain ⟨σ1, e2, h⟩ := z_l h
  refine g_mem e2 ?_
  refine g_iload_n C dX6_eliminate_5 1 rfl ?_
  refine g_iconst C dX6_eliminate_6 ?_
  refine g_iconst C dX6_eliminate_7 ?_
  obtain ⟨r3, e4, h⟩ := z_b h
  refine g_callS (n := 3) C (fun hM => c_X6_in l hM ha1 (by decide) (by decide) e4) gX6_eliminate_X6_in rfl (by decide) ⟨rfl, rfl⟩ ⟨Nat.le_of_ble_eq_true rfl, Nat.le_of_ble_eq_true rfl⟩ rfl rfl (rest := []) rfl (Nat.le_of_ble_eq_true rfl) dX6_eliminate_8 (fun q5 => ?_)
  have q5 : r3 = 0 ∨ r3 = 1 := q5
  refine g_if_ne C 20 dX6_eliminate_11 (by decide) (rgT_inR (rt := 1) q5) (fun c6 => ?_) (fun c6 => ?_)
  · have h := z_f c6 h
    refine g_iconst C dX6_eliminate_20 ?_
    refine g_istore_n C dX6_eliminate_21 (by decide) (vs' := [(2, .int (Int32.ofInt 0)), (0, .ref (ad 58)), (1, .int (Int32.ofInt a1))]) rfl ?_
    refine g_iconst C dX6_eliminate_22 ?_
    refine g_istore_n C dX6_eliminate_23 (by decide) (vs' := [(3, .int (Int32.ofInt 5)), (2, .int (Int32.ofInt 0)), (0, .ref (ad 58)), (1, .int (Int32.ofInt a1))]) rfl ?_
    refine g_sub [2, 3, 1, 0] rfl ?_
    refine w_X6_eliminate_L24 C ha1 hR ?_ _ _ _ _ (by decide) (by decide) h
    · intro z36 σ37 hz36 h
      refine g_iload_n C dX6_eliminate_105 0 rfl ?_
      obtain ⟨rfl, rfl⟩ := z_s2 h
      exact hR _ _ dX6_eliminate_106 hz36
  · have h := z_t c6 h
    refine g_aload_n C dX6_eliminate_14 0 rfl ?_
    refine g_iconst C dX6_eliminate_15 ?_
    obtain ⟨⟨r38, σ40⟩, e39, h⟩ := z_b h
    refine g_callI (n := 1) C (fun hM => c_X6_fails l hM (by decide) e39) gX6_eliminate_X6_fails rfl (by decide) ⟨rfl, rfl⟩ ⟨Nat.le_of_ble_eq_true rfl, Nat.le_of_ble_eq_true rfl⟩ rfl ly_c58 (Nat.le_of_ble_eq_true rfl) rfl rfl (rest := []) rfl (Nat.le_of_ble_eq_true rfl) dX6_eliminate_16 (fun q41 => ?_)
    have q41 : inR r38 := q41
    obtain ⟨rfl, rfl⟩ := z_s2 h
    exact hR _ _ dX6_eliminate_19 q41
theorem in_X6_keepAll_X6 : ∀ w ∈ u_ws RX6 TX6 20, w ∈ wsX6_keepAll := fun _ h => List.mem_cons_of_mem _ (List.mem_append_right _ h)
set_option maxHeartbeats 4000000 in
set_option maxRecDepth 100000 in
theorem w_X6_keepAll_L9 {p : Program} {l : Launch} {e : Env} {s : State} {m : MethodId} {args : Array Value} {below : List Frame} {meth : Method} {c : Code} {D : va_G} {cy : Nat → ClassId} {ad : Nat → Nat} {A : Nat → Prop} {Q : State → Prop} (C : Cx p s m args meth c cX6_keepAll RX6 3 wsX6_keepAll D cy A) {k51 : Int → MM → Option (Int × MM)} {ro : Int} {σo : MM} (hR : RetI p l e { frames := 1, cells := 0, slots := 0, locals := 21 } s m args below meth c cX6_keepAll 3 D cy ad A Q 0 ro σo) (hk51 : ∀ (z1 : Int) (σ : MM), inR z1 → k51 z1 σ = some (ro, σo) → G p l e { frames := 1, cells := 0, slots := 0, locals := 21 } s m args below meth c 3 D cy ad A Q 51 [(1, .int (Int32.ofInt z1))] [] σ) : ∀ (n : Nat) (x1 x2 : Int) (σ : MM) , inR x1 → inR x2 → X6_keepAll_L9 k51 n x1 x2 σ = some (ro, σo) → G p l e { frames := 1, cells := 0, slots := 0, locals := 21 } s m args below meth c 3 D cy ad A Q 9 [(0, .ref (ad 58)), (1, .int (Int32.ofInt x1)), (2, .int (Int32.ofInt x2))] [] σ := by
  intro n
  induction n with
  | zero =>
    intro x1 x2 σ hx1 hx2 h
    cases h
  | succ n ih =>
    intro x1 x2 σ hx1 hx2 h
    rw [X6_keepAll_L9] at h
    refine g_iload_n C dX6_keepAll_9 2 rfl ?_
    refine g_aload_n C dX6_keepAll_10 0 rfl ?_
    refine gf_X6_0 C in_X6_keepAll_X6 (List.mem_of_getElem? (i := 2) rfl) dX6_keepAll_11 ?_
    refine g_iconst C dX6_keepAll_14 ?_
    refine g_iald C ly_c59 (Nat.le_of_ble_eq_true rfl) (by decide) (by decide) dX6_keepAll_15 (fun r3 => ?_)
    refine g_icmp_ge C 51 dX6_keepAll_16 (by decide) hx2 r3 (fun c4 => ?_) (fun c4 => ?_)
    · have h := z_f c4 h
      refine g_sub [1] rfl ?_
      exact hk51 _ _ hx1 h
    · have h := z_t c4 h
      refine g_iload_n C dX6_keepAll_19 1 rfl ?_
      refine g_iconst C dX6_keepAll_20 ?_
      refine g_aload_n C dX6_keepAll_21 0 rfl ?_
      refine gf_X6_0 C in_X6_keepAll_X6 (List.mem_of_getElem? (i := 2) rfl) dX6_keepAll_22 ?_
      refine g_iload_n C dX6_keepAll_25 2 rfl ?_
      refine g_iconst C dX6_keepAll_26 ?_
      obtain ⟨r5, e6, h⟩ := z_b h
      refine g_callS (n := 2) C (fun hM => c_X6_at l hM hx2 (by decide) e6) gX6_keepAll_X6_at rfl (by decide) ⟨rfl, rfl⟩ ⟨Nat.le_of_ble_eq_true rfl, Nat.le_of_ble_eq_true rfl⟩ rfl rfl (rest := [.ref (ad 59), .int (Int32.ofInt 1), .int (Int32.ofInt x1)]) rfl (Nat.le_of_ble_eq_true rfl) dX6_keepAll_27 (fun q7 => ?_)
      have q7 : inR r5 := q7
      obtain ⟨g8, h⟩ := z_g h
      refine g_iald C ly_c59 (Nat.le_of_ble_eq_true rfl) (by decide) g8 dX6_keepAll_30 (fun r9 => ?_)
      refine g_isub C dX6_keepAll_31 ?_
      refine g_iadd C dX6_keepAll_32 ?_
      refine g_istore_n C dX6_keepAll_33 (by decide) (vs' := [(1, .int (Int32.ofInt (x1 + (1 - (σ 59 r5))))), (0, .ref (ad 58)), (2, .int (Int32.ofInt x2))]) rfl ?_
      refine g_aload_n C dX6_keepAll_34 1 rfl ?_
      refine gf_X6_0 C in_X6_keepAll_X6 (List.mem_of_getElem? (i := 2) rfl) dX6_keepAll_35 ?_
      refine g_iload_n C dX6_keepAll_38 2 rfl ?_
      refine g_iconst C dX6_keepAll_39 ?_
      obtain ⟨r10, e11, h⟩ := z_b h
      refine g_callS (n := 2) C (fun hM => c_X6_at l hM hx2 (by decide) e11) gX6_keepAll_X6_at rfl (by decide) ⟨rfl, rfl⟩ ⟨Nat.le_of_ble_eq_true rfl, Nat.le_of_ble_eq_true rfl⟩ rfl rfl (rest := [.ref (ad 59)]) rfl (Nat.le_of_ble_eq_true rfl) dX6_keepAll_40 (fun q12 => ?_)
      have q12 : inR r10 := q12
      refine g_iconst C dX6_keepAll_43 ?_
      obtain ⟨g13, h⟩ := z_g h
      refine g_iast C ly_c59 (Nat.le_of_ble_eq_true rfl) (by decide) g13 (by decide) dX6_keepAll_44 ?_
      obtain ⟨σ14, e15, h⟩ := z_l h
      refine g_mem e15 ?_
      refine g_iinc C dX6_keepAll_45 (j := 2) rfl (by decide) (vs' := [(2, .int (Int32.ofInt (x2 + 1))), (1, .int (Int32.ofInt (x1 + (1 - (σ 59 r5))))), (0, .ref (ad 58))]) rfl ?_
      refine g_goto C 9 dX6_keepAll_48 (by decide) ?_
      obtain ⟨g16, h⟩ := z_g h
      refine g_sub [2, 1, 0] rfl ?_
      exact ih _ _ _ g16 (by omega) h
set_option maxHeartbeats 4000000 in
set_option maxRecDepth 100000 in
theorem c_X6_keepAll (l : Launch) {σ : MM} (hM : okM σ) {ro : Int} {σo : MM} (h : X6_keepAll σ = some (ro, σo)) : CtI l yX6_keepAll wsX6_keepAll { frames := 1, cells := 0, slots := 0, locals := 21 } (fun ad : Nat → Nat => [.ref (ad 58)]) σ 0 ro σo := by
  unfold X6_keepAll at h
  refine z_ctI (cc := cX6_keepAll) (maxL := 3) (rt := 0) hM (by decide) rfl (fun _ => Nat.le_of_ble_eq_true rfl) (@fun p e s m args below meth c D cy ad A Q C hR => ?_)
  refine g_sub (vs' := [(0, .ref (ad 58))]) [0] rfl ?_
  refine g_aload_n C dX6_keepAll_0 0 rfl ?_
  refine g_iconst C dX6_keepAll_1 ?_
  refine gp_X6_3 C in_X6_keepAll_X6 (List.mem_of_getElem? (i := 1) rfl) (by decide) dX6_keepAll_2 ?_
  obtain ⟨σ1, e2, h⟩ := z_l h
  refine g_mem e2 ?_
  refine g_iconst C dX6_keepAll_5 ?_
  refine g_istore_n C dX6_keepAll_6 (by decide) (vs' := [(1, .int (Int32.ofInt 0)), (0, .ref (ad 58))]) rfl ?_
  refine g_iconst C dX6_keepAll_7 ?_
  refine g_istore_n C dX6_keepAll_8 (by decide) (vs' := [(2, .int (Int32.ofInt 0)), (1, .int (Int32.ofInt 0)), (0, .ref (ad 58))]) rfl ?_
  refine g_sub [2, 1, 0] rfl ?_
  refine w_X6_keepAll_L9 C hR ?_ _ _ _ _ (by decide) (by decide) h
  · intro z17 σ18 hz17 h
    refine g_iload_n C dX6_keepAll_51 0 rfl ?_
    obtain ⟨rfl, rfl⟩ := z_s2 h
    exact hR _ _ dX6_keepAll_52 hz17
theorem in_X6_precedes_X6 : ∀ w ∈ u_ws RX6 TX6 20, w ∈ wsX6_precedes := fun _ h => List.mem_cons_of_mem _ (List.mem_append_right _ h)
set_option maxHeartbeats 4000000 in
set_option maxRecDepth 100000 in
theorem w_X6_precedes_J89 {p : Program} {l : Launch} {e : Env} {s : State} {m : MethodId} {args : Array Value} {below : List Frame} {meth : Method} {c : Code} {D : va_G} {cy : Nat → ClassId} {ad : Nat → Nat} {A : Nat → Prop} {Q : State → Prop} (C : Cx p s m args meth c cX6_precedes RX6 7 wsX6_precedes D cy A) {x1 : Int} (hx1 : inR x1) {x2 : Int} (hx2 : inR x2) {x4 : Int} (hx4 : inR x4) {k49 : Int → Int → MM → Option (Int × MM)} {ro : Int} {σo : MM} (hR : RetI p l e { frames := 2, cells := 0, slots := 0, locals := 43 } s m args below meth c cX6_precedes 7 D cy ad A Q 1 ro σo) (hk49 : ∀ (z3 z5 : Int) (σ : MM), inR z3 → inR z5 → k49 z3 z5 σ = some (ro, σo) → G p l e { frames := 2, cells := 0, slots := 0, locals := 43 } s m args below meth c 7 D cy ad A Q 49 [(0, .ref (ad 58)), (1, .int (Int32.ofInt x1)), (2, .int (Int32.ofInt x2)), (3, .int (Int32.ofInt z3)), (4, .int (Int32.ofInt x4)), (5, .int (Int32.ofInt z5))] [] σ) : ∀ (x3 x5 y0 : Int) (σ : MM) , inR x3 → inR x5 → inR y0 → X6_precedes_J89 x1 x2 x4 k49 x3 x5 y0 σ = some (ro, σo) → G p l e { frames := 2, cells := 0, slots := 0, locals := 43 } s m args below meth c 7 D cy ad A Q 89 [(0, .ref (ad 58)), (1, .int (Int32.ofInt x1)), (2, .int (Int32.ofInt x2)), (3, .int (Int32.ofInt x3)), (4, .int (Int32.ofInt x4)), (5, .int (Int32.ofInt x5))] [.int (Int32.ofInt y0)] σ := by
  intro x3 x5 y0 σ hx3 hx5 hy0 h
  unfold X6_precedes_J89 at h
  refine g_istore C dX6_precedes_89 (by decide) (vs' := [(6, .int (Int32.ofInt y0)), (0, .ref (ad 58)), (1, .int (Int32.ofInt x1)), (2, .int (Int32.ofInt x2)), (3, .int (Int32.ofInt x3)), (4, .int (Int32.ofInt x4)), (5, .int (Int32.ofInt x5))]) rfl ?_
  refine g_iload_n C dX6_precedes_91 4 rfl ?_
  refine g_aload_n C dX6_precedes_92 1 rfl ?_
  refine g_iload C dX6_precedes_93 6 rfl ?_
  obtain ⟨r16, e17, h⟩ := z_b h
  refine g_callI (n := 1) C (fun hM => c_X6_far l hM hx5 e17) gX6_precedes_X6_far rfl (by decide) ⟨rfl, rfl⟩ ⟨Nat.le_of_ble_eq_true rfl, Nat.le_of_ble_eq_true rfl⟩ rfl ly_c58 (Nat.le_of_ble_eq_true rfl) rfl rfl (rest := [.int (Int32.ofInt x3)]) rfl (Nat.le_of_ble_eq_true rfl) dX6_precedes_95 (fun q18 => ?_)
  have q18 : inR r16 := q18
  refine g_if_ne C 117 dX6_precedes_98 (by decide) q18 (fun c19 => ?_) (fun c19 => ?_)
  · have h := z_f c19 h
    refine g_iconst C dX6_precedes_117 ?_
    refine g_ior C dX6_precedes_118 ?_
    refine g_istore_n C dX6_precedes_119 (by decide) (vs' := [(3, .int (Int32.ofInt (jor x3 0))), (6, .int (Int32.ofInt y0)), (0, .ref (ad 58)), (1, .int (Int32.ofInt x1)), (2, .int (Int32.ofInt x2)), (4, .int (Int32.ofInt x4)), (5, .int (Int32.ofInt x5))]) rfl ?_
    refine g_iinc C dX6_precedes_120 (j := 6) rfl (by decide) (vs' := [(5, .int (Int32.ofInt (x5 + 1))), (3, .int (Int32.ofInt (jor x3 0))), (6, .int (Int32.ofInt y0)), (0, .ref (ad 58)), (1, .int (Int32.ofInt x1)), (2, .int (Int32.ofInt x2)), (4, .int (Int32.ofInt x4))]) rfl ?_
    refine g_goto C 49 dX6_precedes_123 (by decide) ?_
    obtain ⟨g20, h⟩ := z_g h
    refine g_sub [3, 4, 5, 1, 6, 0] rfl ?_
    exact hk49 _ _ _ (jor_R _ _) g20 h
  · have h := z_t c19 h
    refine g_iload C dX6_precedes_101 0 rfl ?_
    refine g_if_eq C 117 dX6_precedes_103 (by decide) hy0 (fun c21 => ?_) (fun c21 => ?_)
    · have h := z_t c21 h
      refine g_iconst C dX6_precedes_117 ?_
      refine g_ior C dX6_precedes_118 ?_
      refine g_istore_n C dX6_precedes_119 (by decide) (vs' := [(3, .int (Int32.ofInt (jor x3 0))), (6, .int (Int32.ofInt y0)), (0, .ref (ad 58)), (1, .int (Int32.ofInt x1)), (2, .int (Int32.ofInt x2)), (4, .int (Int32.ofInt x4)), (5, .int (Int32.ofInt x5))]) rfl ?_
      refine g_iinc C dX6_precedes_120 (j := 6) rfl (by decide) (vs' := [(5, .int (Int32.ofInt (x5 + 1))), (3, .int (Int32.ofInt (jor x3 0))), (6, .int (Int32.ofInt y0)), (0, .ref (ad 58)), (1, .int (Int32.ofInt x1)), (2, .int (Int32.ofInt x2)), (4, .int (Int32.ofInt x4))]) rfl ?_
      refine g_goto C 49 dX6_precedes_123 (by decide) ?_
      obtain ⟨g22, h⟩ := z_g h
      refine g_sub [3, 4, 5, 1, 6, 0] rfl ?_
      exact hk49 _ _ _ (jor_R _ _) g22 h
    · have h := z_f c21 h
      refine g_iconst C dX6_precedes_106 ?_
      refine g_aload_n C dX6_precedes_107 1 rfl ?_
      refine g_iload C dX6_precedes_108 6 rfl ?_
      obtain ⟨r23, e24, h⟩ := z_b h
      refine g_callI (n := 1) C (fun hM => c_X6_target l hM hx5 e24) gX6_precedes_X6_target rfl (by decide) ⟨rfl, rfl⟩ ⟨Nat.le_of_ble_eq_true rfl, Nat.le_of_ble_eq_true rfl⟩ rfl ly_c58 (Nat.le_of_ble_eq_true rfl) rfl rfl (rest := [.int (Int32.ofInt 1), .int (Int32.ofInt x3)]) rfl (Nat.le_of_ble_eq_true rfl) dX6_precedes_110 (fun q25 => ?_)
      have q25 : inR r23 := q25
      refine g_ishl C dX6_precedes_113 ?_
      refine g_goto C 118 dX6_precedes_114 (by decide) ?_
      refine g_ior C dX6_precedes_118 ?_
      refine g_istore_n C dX6_precedes_119 (by decide) (vs' := [(3, .int (Int32.ofInt (jor x3 (jshl 1 r23)))), (6, .int (Int32.ofInt y0)), (0, .ref (ad 58)), (1, .int (Int32.ofInt x1)), (2, .int (Int32.ofInt x2)), (4, .int (Int32.ofInt x4)), (5, .int (Int32.ofInt x5))]) rfl ?_
      refine g_iinc C dX6_precedes_120 (j := 6) rfl (by decide) (vs' := [(5, .int (Int32.ofInt (x5 + 1))), (3, .int (Int32.ofInt (jor x3 (jshl 1 r23)))), (6, .int (Int32.ofInt y0)), (0, .ref (ad 58)), (1, .int (Int32.ofInt x1)), (2, .int (Int32.ofInt x2)), (4, .int (Int32.ofInt x4))]) rfl ?_
      refine g_goto C 49 dX6_precedes_123 (by decide) ?_
      obtain ⟨g26, h⟩ := z_g h
      refine g_sub [3, 4, 5, 1, 6, 0] rfl ?_
      exact hk49 _ _ _ (jor_R _ _) g26 h
set_option maxHeartbeats 4000000 in
set_option maxRecDepth 100000 in
theorem w_X6_precedes_L49 {p : Program} {l : Launch} {e : Env} {s : State} {m : MethodId} {args : Array Value} {below : List Frame} {meth : Method} {c : Code} {D : va_G} {cy : Nat → ClassId} {ad : Nat → Nat} {A : Nat → Prop} {Q : State → Prop} (C : Cx p s m args meth c cX6_precedes RX6 7 wsX6_precedes D cy A) {x1 : Int} (hx1 : inR x1) {x2 : Int} (hx2 : inR x2) {x4 : Int} (hx4 : inR x4) {k126 : Int → MM → Option (Int × MM)} {ro : Int} {σo : MM} (hR : RetI p l e { frames := 2, cells := 0, slots := 0, locals := 43 } s m args below meth c cX6_precedes 7 D cy ad A Q 1 ro σo) (hk126 : ∀ (z3 : Int) (σ : MM), inR z3 → k126 z3 σ = some (ro, σo) → G p l e { frames := 2, cells := 0, slots := 0, locals := 43 } s m args below meth c 7 D cy ad A Q 126 [(0, .ref (ad 58)), (1, .int (Int32.ofInt x1)), (2, .int (Int32.ofInt x2)), (3, .int (Int32.ofInt z3)), (4, .int (Int32.ofInt x4))] [] σ) : ∀ (n : Nat) (x3 x5 : Int) (σ : MM) , inR x3 → inR x5 → X6_precedes_L49 x1 x2 x4 k126 n x3 x5 σ = some (ro, σo) → G p l e { frames := 2, cells := 0, slots := 0, locals := 43 } s m args below meth c 7 D cy ad A Q 49 [(0, .ref (ad 58)), (1, .int (Int32.ofInt x1)), (2, .int (Int32.ofInt x2)), (3, .int (Int32.ofInt x3)), (4, .int (Int32.ofInt x4)), (5, .int (Int32.ofInt x5))] [] σ := by
  intro n
  induction n with
  | zero =>
    intro x3 x5 σ hx3 hx5 h
    cases h
  | succ n ih =>
    intro x3 x5 σ hx3 hx5 h
    rw [X6_precedes_L49] at h
    refine g_iload C dX6_precedes_49 5 rfl ?_
    refine g_aload_n C dX6_precedes_51 0 rfl ?_
    refine gf_X6_0 C in_X6_precedes_X6 (List.mem_of_getElem? (i := 2) rfl) dX6_precedes_52 ?_
    refine g_iconst C dX6_precedes_55 ?_
    refine g_iald C ly_c59 (Nat.le_of_ble_eq_true rfl) (by decide) (by decide) dX6_precedes_56 (fun r10 => ?_)
    refine g_icmp_ge C 126 dX6_precedes_57 (by decide) hx5 r10 (fun c11 => ?_) (fun c11 => ?_)
    · have h := z_f c11 h
      refine g_sub [0, 1, 2, 3, 4] rfl ?_
      exact hk126 _ _ hx3 h
    · have h := z_t c11 h
      refine g_aload_n C dX6_precedes_60 0 rfl ?_
      refine g_iload C dX6_precedes_61 5 rfl ?_
      obtain ⟨r12, e13, h⟩ := z_b h
      refine g_callI (n := 1) C (fun hM => c_X6_source l hM hx5 e13) gX6_precedes_X6_source rfl (by decide) ⟨rfl, rfl⟩ ⟨Nat.le_of_ble_eq_true rfl, Nat.le_of_ble_eq_true rfl⟩ rfl ly_c58 (Nat.le_of_ble_eq_true rfl) rfl rfl (rest := []) rfl (Nat.le_of_ble_eq_true rfl) dX6_precedes_63 (fun q14 => ?_)
      have q14 : inR r12 := q14
      refine g_iload_n C dX6_precedes_66 1 rfl ?_
      refine g_icmp_eq C 84 dX6_precedes_67 (by decide) q14 hx1 (fun c15 => ?_) (fun c15 => ?_)
      · have h := z_t c15 h
        refine g_iconst C dX6_precedes_84 ?_
        refine g_goto C 89 dX6_precedes_85 (by decide) ?_
        refine g_sub [0, 1, 2, 3, 4, 5] rfl ?_
        refine w_X6_precedes_J89 C hx1 hx2 hx4 hR ih _ _ _ _ hx3 hx5 (by decide) h
      · have h := z_f c15 h
        refine g_iload_n C dX6_precedes_70 3 rfl ?_
        refine g_aload_n C dX6_precedes_71 0 rfl ?_
        refine g_iload C dX6_precedes_72 5 rfl ?_
        obtain ⟨r27, e28, h⟩ := z_b h
        refine g_callI (n := 1) C (fun hM => c_X6_source l hM hx5 e28) gX6_precedes_X6_source rfl (by decide) ⟨rfl, rfl⟩ ⟨Nat.le_of_ble_eq_true rfl, Nat.le_of_ble_eq_true rfl⟩ rfl ly_c58 (Nat.le_of_ble_eq_true rfl) rfl rfl (rest := [.int (Int32.ofInt x3)]) rfl (Nat.le_of_ble_eq_true rfl) dX6_precedes_74 (fun q29 => ?_)
        have q29 : inR r27 := q29
        refine g_ishr C dX6_precedes_77 ?_
        refine g_iconst C dX6_precedes_78 ?_
        refine g_iand C dX6_precedes_79 ?_
        refine g_iconst C dX6_precedes_80 ?_
        refine g_icmp_ne C 88 dX6_precedes_81 (by decide) (jand_R _ _) (by decide) (fun c30 => ?_) (fun c30 => ?_)
        · have h := z_f c30 h
          refine g_iconst C dX6_precedes_88 ?_
          refine g_sub [0, 1, 2, 3, 4, 5] rfl ?_
          refine w_X6_precedes_J89 C hx1 hx2 hx4 hR ih _ _ _ _ hx3 hx5 (by decide) h
        · have h := z_t c30 h
          refine g_iconst C dX6_precedes_84 ?_
          refine g_goto C 89 dX6_precedes_85 (by decide) ?_
          refine g_sub [0, 1, 2, 3, 4, 5] rfl ?_
          refine w_X6_precedes_J89 C hx1 hx2 hx4 hR ih _ _ _ _ hx3 hx5 (by decide) h
set_option maxHeartbeats 4000000 in
set_option maxRecDepth 100000 in
theorem w_X6_precedes_L39 {p : Program} {l : Launch} {e : Env} {s : State} {m : MethodId} {args : Array Value} {below : List Frame} {meth : Method} {c : Code} {D : va_G} {cy : Nat → ClassId} {ad : Nat → Nat} {A : Nat → Prop} {Q : State → Prop} (C : Cx p s m args meth c cX6_precedes RX6 7 wsX6_precedes D cy A) {x1 : Int} (hx1 : inR x1) {x2 : Int} (hx2 : inR x2) {k132 : Int → MM → Option (Int × MM)} {ro : Int} {σo : MM} (hR : RetI p l e { frames := 2, cells := 0, slots := 0, locals := 43 } s m args below meth c cX6_precedes 7 D cy ad A Q 1 ro σo) (hk132 : ∀ (z3 : Int) (σ : MM), inR z3 → k132 z3 σ = some (ro, σo) → G p l e { frames := 2, cells := 0, slots := 0, locals := 43 } s m args below meth c 7 D cy ad A Q 132 [(2, .int (Int32.ofInt x2)), (3, .int (Int32.ofInt z3))] [] σ) : ∀ (n : Nat) (x3 x4 : Int) (σ : MM) , inR x3 → inR x4 → X6_precedes_L39 x1 x2 k132 n x3 x4 σ = some (ro, σo) → G p l e { frames := 2, cells := 0, slots := 0, locals := 43 } s m args below meth c 7 D cy ad A Q 39 [(0, .ref (ad 58)), (1, .int (Int32.ofInt x1)), (2, .int (Int32.ofInt x2)), (3, .int (Int32.ofInt x3)), (4, .int (Int32.ofInt x4))] [] σ := by
  intro n
  induction n with
  | zero =>
    intro x3 x4 σ hx3 hx4 h
    cases h
  | succ n ih =>
    intro x3 x4 σ hx3 hx4 h
    rw [X6_precedes_L39] at h
    refine g_iload C dX6_precedes_39 4 rfl ?_
    refine g_bipush C dX6_precedes_41 (by decide) ?_
    refine g_icmp_ge C 132 dX6_precedes_43 (by decide) hx4 (by decide) (fun c9 => ?_) (fun c9 => ?_)
    · have h := z_f c9 h
      refine g_sub [2, 3] rfl ?_
      exact hk132 _ _ hx3 h
    · have h := z_t c9 h
      refine g_iconst C dX6_precedes_46 ?_
      refine g_istore C dX6_precedes_47 (by decide) (vs' := [(5, .int (Int32.ofInt 0)), (0, .ref (ad 58)), (1, .int (Int32.ofInt x1)), (2, .int (Int32.ofInt x2)), (3, .int (Int32.ofInt x3)), (4, .int (Int32.ofInt x4))]) rfl ?_
      refine g_sub [1, 2, 3, 4, 5, 0] rfl ?_
      refine w_X6_precedes_L49 C hx1 hx2 hx4 hR ?_ _ _ _ _ hx3 (by decide) h
      · intro z31 σ32 hz31 h
        refine g_iinc C dX6_precedes_126 (j := 4) rfl (by decide) (vs' := [(4, .int (Int32.ofInt (x4 + 1))), (0, .ref (ad 58)), (1, .int (Int32.ofInt x1)), (2, .int (Int32.ofInt x2)), (3, .int (Int32.ofInt z31))]) rfl ?_
        refine g_goto C 39 dX6_precedes_129 (by decide) ?_
        refine g_sub [1, 2, 3, 4, 0] rfl ?_
        exact ih _ _ _ hz31 (by omega) h
set_option maxHeartbeats 4000000 in
set_option maxRecDepth 100000 in
theorem c_X6_precedes (l : Launch) {σ : MM} (hM : okM σ) {a1 : Int} (ha1 : inR a1) {a2 : Int} (ha2 : inR a2) {ro : Int} {σo : MM} (h : X6_precedes a1 a2 σ = some (ro, σo)) : CtI l yX6_precedes wsX6_precedes { frames := 2, cells := 0, slots := 0, locals := 43 } (fun ad : Nat → Nat => [.ref (ad 58), .int (Int32.ofInt a1), .int (Int32.ofInt a2)]) σ 1 ro σo := by
  unfold X6_precedes at h
  refine z_ctI (cc := cX6_precedes) (maxL := 7) (rt := 1) hM (by decide) rfl (fun _ => Nat.le_of_ble_eq_true rfl) (@fun p e s m args below meth c D cy ad A Q C hR => ?_)
  refine g_sub (vs' := [(0, .ref (ad 58)), (1, .int (Int32.ofInt a1)), (2, .int (Int32.ofInt a2))]) [0, 1, 2] rfl ?_
  refine g_aload_n C dX6_precedes_0 0 rfl ?_
  refine g_aload_n C dX6_precedes_1 0 rfl ?_
  refine g_iload_n C dX6_precedes_2 1 rfl ?_
  obtain ⟨r1, e2, h⟩ := z_b h
  refine g_callI (n := 1) C (fun hM => c_X6_isStatement l hM ha1 e2) gX6_precedes_X6_isStatement rfl (by decide) ⟨rfl, rfl⟩ ⟨Nat.le_of_ble_eq_true rfl, Nat.le_of_ble_eq_true rfl⟩ rfl ly_c58 (Nat.le_of_ble_eq_true rfl) rfl rfl (rest := [.ref (ad 58)]) rfl (Nat.le_of_ble_eq_true rfl) dX6_precedes_3 (fun q3 => ?_)
  have q3 : r1 = 0 ∨ r1 = 1 := q3
  refine g_if_eq C 21 dX6_precedes_6 (by decide) (rgT_inR (rt := 1) q3) (fun c4 => ?_) (fun c4 => ?_)
  · have h := z_t c4 h
    refine g_iconst C dX6_precedes_21 ?_
    refine gp_X6_3 C in_X6_precedes_X6 (List.mem_of_getElem? (i := 1) rfl) (by decide) dX6_precedes_22 ?_
    obtain ⟨σ5, e6, h⟩ := z_l h
    refine g_mem e6 ?_
    refine g_aload_n C dX6_precedes_25 0 rfl ?_
    refine gf_X6_3 C in_X6_precedes_X6 (List.mem_of_getElem? (i := 1) rfl) dX6_precedes_26 (fun r7 => ?_)
    refine g_if_le C 34 dX6_precedes_29 (by decide) r7 (fun c8 => ?_) (fun c8 => ?_)
    · have h := z_f c8 h
      refine g_iconst C dX6_precedes_34 ?_
      refine g_istore_n C dX6_precedes_35 (by decide) (vs' := [(3, .int (Int32.ofInt 0)), (0, .ref (ad 58)), (1, .int (Int32.ofInt a1)), (2, .int (Int32.ofInt a2))]) rfl ?_
      refine g_iconst C dX6_precedes_36 ?_
      refine g_istore C dX6_precedes_37 (by decide) (vs' := [(4, .int (Int32.ofInt 0)), (3, .int (Int32.ofInt 0)), (0, .ref (ad 58)), (1, .int (Int32.ofInt a1)), (2, .int (Int32.ofInt a2))]) rfl ?_
      refine g_sub [2, 3, 4, 1, 0] rfl ?_
      refine w_X6_precedes_L39 C ha1 ha2 hR ?_ _ _ _ _ (by decide) (by decide) h
      · intro z33 σ34 hz33 h
        refine g_iload_n C dX6_precedes_132 1 rfl ?_
        refine g_iload_n C dX6_precedes_133 0 rfl ?_
        refine g_ishr C dX6_precedes_134 ?_
        refine g_iconst C dX6_precedes_135 ?_
        refine g_iand C dX6_precedes_136 ?_
        refine g_iconst C dX6_precedes_137 ?_
        refine g_icmp_ne C 145 dX6_precedes_138 (by decide) (jand_R _ _) (by decide) (fun c35 => ?_) (fun c35 => ?_)
        · have h := z_f c35 h
          refine g_iconst C dX6_precedes_145 ?_
          obtain ⟨rfl, rfl⟩ := z_s2 h
          exact hR _ _ dX6_precedes_146 (by show _ = _ ∨ _ = _; decide)
        · have h := z_t c35 h
          refine g_iconst C dX6_precedes_141 ?_
          refine g_goto C 146 dX6_precedes_142 (by decide) ?_
          obtain ⟨rfl, rfl⟩ := z_s2 h
          exact hR _ _ dX6_precedes_146 (by show _ = _ ∨ _ = _; decide)
    · have h := z_t c8 h
      refine g_iconst C dX6_precedes_32 ?_
      obtain ⟨rfl, rfl⟩ := z_s2 h
      exact hR _ _ dX6_precedes_33 (by show _ = _ ∨ _ = _; decide)
  · have h := z_f c4 h
    refine g_aload_n C dX6_precedes_9 0 rfl ?_
    refine g_iload_n C dX6_precedes_10 2 rfl ?_
    obtain ⟨r36, e37, h⟩ := z_b h
    refine g_callI (n := 1) C (fun hM => c_X6_isStatement l hM ha2 e37) gX6_precedes_X6_isStatement rfl (by decide) ⟨rfl, rfl⟩ ⟨Nat.le_of_ble_eq_true rfl, Nat.le_of_ble_eq_true rfl⟩ rfl ly_c58 (Nat.le_of_ble_eq_true rfl) rfl rfl (rest := [.ref (ad 58)]) rfl (Nat.le_of_ble_eq_true rfl) dX6_precedes_11 (fun q38 => ?_)
    have q38 : r36 = 0 ∨ r36 = 1 := q38
    refine g_if_eq C 21 dX6_precedes_14 (by decide) (rgT_inR (rt := 1) q38) (fun c39 => ?_) (fun c39 => ?_)
    · have h := z_t c39 h
      refine g_iconst C dX6_precedes_21 ?_
      refine gp_X6_3 C in_X6_precedes_X6 (List.mem_of_getElem? (i := 1) rfl) (by decide) dX6_precedes_22 ?_
      obtain ⟨σ40, e41, h⟩ := z_l h
      refine g_mem e41 ?_
      refine g_aload_n C dX6_precedes_25 0 rfl ?_
      refine gf_X6_3 C in_X6_precedes_X6 (List.mem_of_getElem? (i := 1) rfl) dX6_precedes_26 (fun r42 => ?_)
      refine g_if_le C 34 dX6_precedes_29 (by decide) r42 (fun c43 => ?_) (fun c43 => ?_)
      · have h := z_f c43 h
        refine g_iconst C dX6_precedes_34 ?_
        refine g_istore_n C dX6_precedes_35 (by decide) (vs' := [(3, .int (Int32.ofInt 0)), (0, .ref (ad 58)), (1, .int (Int32.ofInt a1)), (2, .int (Int32.ofInt a2))]) rfl ?_
        refine g_iconst C dX6_precedes_36 ?_
        refine g_istore C dX6_precedes_37 (by decide) (vs' := [(4, .int (Int32.ofInt 0)), (3, .int (Int32.ofInt 0)), (0, .ref (ad 58)), (1, .int (Int32.ofInt a1)), (2, .int (Int32.ofInt a2))]) rfl ?_
        refine g_sub [2, 3, 4, 1, 0] rfl ?_
        refine w_X6_precedes_L39 C ha1 ha2 hR ?_ _ _ _ _ (by decide) (by decide) h
        · intro z44 σ45 hz44 h
          refine g_iload_n C dX6_precedes_132 1 rfl ?_
          refine g_iload_n C dX6_precedes_133 0 rfl ?_
          refine g_ishr C dX6_precedes_134 ?_
          refine g_iconst C dX6_precedes_135 ?_
          refine g_iand C dX6_precedes_136 ?_
          refine g_iconst C dX6_precedes_137 ?_
          refine g_icmp_ne C 145 dX6_precedes_138 (by decide) (jand_R _ _) (by decide) (fun c46 => ?_) (fun c46 => ?_)
          · have h := z_f c46 h
            refine g_iconst C dX6_precedes_145 ?_
            obtain ⟨rfl, rfl⟩ := z_s2 h
            exact hR _ _ dX6_precedes_146 (by show _ = _ ∨ _ = _; decide)
          · have h := z_t c46 h
            refine g_iconst C dX6_precedes_141 ?_
            refine g_goto C 146 dX6_precedes_142 (by decide) ?_
            obtain ⟨rfl, rfl⟩ := z_s2 h
            exact hR _ _ dX6_precedes_146 (by show _ = _ ∨ _ = _; decide)
      · have h := z_t c43 h
        refine g_iconst C dX6_precedes_32 ?_
        obtain ⟨rfl, rfl⟩ := z_s2 h
        exact hR _ _ dX6_precedes_33 (by show _ = _ ∨ _ = _; decide)
    · have h := z_f c39 h
      refine g_iconst C dX6_precedes_17 ?_
      refine g_goto C 22 dX6_precedes_18 (by decide) ?_
      refine gp_X6_3 C in_X6_precedes_X6 (List.mem_of_getElem? (i := 1) rfl) (by decide) dX6_precedes_22 ?_
      obtain ⟨σ47, e48, h⟩ := z_l h
      refine g_mem e48 ?_
      refine g_aload_n C dX6_precedes_25 0 rfl ?_
      refine gf_X6_3 C in_X6_precedes_X6 (List.mem_of_getElem? (i := 1) rfl) dX6_precedes_26 (fun r49 => ?_)
      refine g_if_le C 34 dX6_precedes_29 (by decide) r49 (fun c50 => ?_) (fun c50 => ?_)
      · have h := z_f c50 h
        refine g_iconst C dX6_precedes_34 ?_
        refine g_istore_n C dX6_precedes_35 (by decide) (vs' := [(3, .int (Int32.ofInt 0)), (0, .ref (ad 58)), (1, .int (Int32.ofInt a1)), (2, .int (Int32.ofInt a2))]) rfl ?_
        refine g_iconst C dX6_precedes_36 ?_
        refine g_istore C dX6_precedes_37 (by decide) (vs' := [(4, .int (Int32.ofInt 0)), (3, .int (Int32.ofInt 0)), (0, .ref (ad 58)), (1, .int (Int32.ofInt a1)), (2, .int (Int32.ofInt a2))]) rfl ?_
        refine g_sub [2, 3, 4, 1, 0] rfl ?_
        refine w_X6_precedes_L39 C ha1 ha2 hR ?_ _ _ _ _ (by decide) (by decide) h
        · intro z51 σ52 hz51 h
          refine g_iload_n C dX6_precedes_132 1 rfl ?_
          refine g_iload_n C dX6_precedes_133 0 rfl ?_
          refine g_ishr C dX6_precedes_134 ?_
          refine g_iconst C dX6_precedes_135 ?_
          refine g_iand C dX6_precedes_136 ?_
          refine g_iconst C dX6_precedes_137 ?_
          refine g_icmp_ne C 145 dX6_precedes_138 (by decide) (jand_R _ _) (by decide) (fun c53 => ?_) (fun c53 => ?_)
          · have h := z_f c53 h
            refine g_iconst C dX6_precedes_145 ?_
            obtain ⟨rfl, rfl⟩ := z_s2 h
            exact hR _ _ dX6_precedes_146 (by show _ = _ ∨ _ = _; decide)
          · have h := z_t c53 h
            refine g_iconst C dX6_precedes_141 ?_
            refine g_goto C 146 dX6_precedes_142 (by decide) ?_
            obtain ⟨rfl, rfl⟩ := z_s2 h
            exact hR _ _ dX6_precedes_146 (by show _ = _ ∨ _ = _; decide)
      · have h := z_t c50 h
        refine g_iconst C dX6_precedes_32 ?_
        obtain ⟨rfl, rfl⟩ := z_s2 h
        exact hR _ _ dX6_precedes_33 (by show _ = _ ∨ _ = _; decide)
theorem in_X6_delayBut_X6 : ∀ w ∈ u_ws RX6 TX6 20, w ∈ wsX6_delayBut := fun _ h => List.mem_cons_of_mem _ (List.mem_append_right _ h)
set_option maxHeartbeats 4000000 in
set_option maxRecDepth 100000 in
theorem w_X6_delayBut_J82 {p : Program} {l : Launch} {e : Env} {s : State} {m : MethodId} {args : Array Value} {below : List Frame} {meth : Method} {c : Code} {D : va_G} {cy : Nat → ClassId} {ad : Nat → Nat} {A : Nat → Prop} {Q : State → Prop} (C : Cx p s m args meth c cX6_delayBut RX6 6 wsX6_delayBut D cy A) {σ : MM} {x1 : Int} (hx1 : inR x1) {k4 : Int → Int → Option Int} {ro : Int} (hR : RetI p l e { frames := 4, cells := 0, slots := 0, locals := 85 } s m args below meth c cX6_delayBut 6 D cy ad A Q 0 ro σ) (hk4 : ∀ (z2 z3 : Int), inR z2 → inR z3 → k4 z2 z3 = some ro → G p l e { frames := 4, cells := 0, slots := 0, locals := 85 } s m args below meth c 6 D cy ad A Q 4 [(0, .ref (ad 58)), (1, .int (Int32.ofInt x1)), (2, .int (Int32.ofInt z2)), (3, .int (Int32.ofInt z3))] [] σ) : ∀ (x2 x3 y0 : Int) , inR x2 → inR x3 → inR y0 → X6_delayBut_J82 x1 k4 x2 x3 y0 σ = some ro → G p l e { frames := 4, cells := 0, slots := 0, locals := 85 } s m args below meth c 6 D cy ad A Q 82 [(0, .ref (ad 58)), (1, .int (Int32.ofInt x1)), (2, .int (Int32.ofInt x2)), (3, .int (Int32.ofInt x3))] [.int (Int32.ofInt y0)] σ := by
  intro x2 x3 y0 hx2 hx3 hy0 h
  unfold X6_delayBut_J82 at h
  refine g_istore C dX6_delayBut_82 (by decide) (vs' := [(5, .int (Int32.ofInt y0)), (0, .ref (ad 58)), (1, .int (Int32.ofInt x1)), (2, .int (Int32.ofInt x2)), (3, .int (Int32.ofInt x3))]) rfl ?_
  refine g_iload C dX6_delayBut_84 0 rfl ?_
  refine g_iload_n C dX6_delayBut_86 3 rfl ?_
  refine g_icmp_le C 95 dX6_delayBut_87 (by decide) hy0 hx2 (fun c34 => ?_) (fun c34 => ?_)
  · have h := z_f c34 h
    refine g_iload_n C dX6_delayBut_95 3 rfl ?_
    refine g_istore_n C dX6_delayBut_96 (by decide) (vs' := [(2, .int (Int32.ofInt x2)), (5, .int (Int32.ofInt y0)), (0, .ref (ad 58)), (1, .int (Int32.ofInt x1)), (3, .int (Int32.ofInt x3))]) rfl ?_
    refine g_iinc C dX6_delayBut_97 (j := 4) rfl (by decide) (vs' := [(3, .int (Int32.ofInt (x3 + 1))), (2, .int (Int32.ofInt x2)), (5, .int (Int32.ofInt y0)), (0, .ref (ad 58)), (1, .int (Int32.ofInt x1))]) rfl ?_
    refine g_goto C 4 dX6_delayBut_100 (by decide) ?_
    obtain ⟨g35, h⟩ := z_g h
    refine g_sub [3, 4, 1, 0] rfl ?_
    exact hk4 _ _ hx2 g35 h
  · have h := z_t c34 h
    refine g_iload C dX6_delayBut_90 0 rfl ?_
    refine g_goto C 96 dX6_delayBut_92 (by decide) ?_
    refine g_istore_n C dX6_delayBut_96 (by decide) (vs' := [(2, .int (Int32.ofInt y0)), (5, .int (Int32.ofInt y0)), (0, .ref (ad 58)), (1, .int (Int32.ofInt x1)), (3, .int (Int32.ofInt x3))]) rfl ?_
    refine g_iinc C dX6_delayBut_97 (j := 4) rfl (by decide) (vs' := [(3, .int (Int32.ofInt (x3 + 1))), (2, .int (Int32.ofInt y0)), (5, .int (Int32.ofInt y0)), (0, .ref (ad 58)), (1, .int (Int32.ofInt x1))]) rfl ?_
    refine g_goto C 4 dX6_delayBut_100 (by decide) ?_
    obtain ⟨g36, h⟩ := z_g h
    refine g_sub [3, 4, 1, 0] rfl ?_
    exact hk4 _ _ hy0 g36 h
set_option maxHeartbeats 4000000 in
set_option maxRecDepth 100000 in
theorem w_X6_delayBut_L4 {p : Program} {l : Launch} {e : Env} {s : State} {m : MethodId} {args : Array Value} {below : List Frame} {meth : Method} {c : Code} {D : va_G} {cy : Nat → ClassId} {ad : Nat → Nat} {A : Nat → Prop} {Q : State → Prop} (C : Cx p s m args meth c cX6_delayBut RX6 6 wsX6_delayBut D cy A) {σ : MM} {x1 : Int} (hx1 : inR x1) {k103 : Int → Option Int} {ro : Int} (hR : RetI p l e { frames := 4, cells := 0, slots := 0, locals := 85 } s m args below meth c cX6_delayBut 6 D cy ad A Q 0 ro σ) (hk103 : ∀ (z2 : Int), inR z2 → k103 z2 = some ro → G p l e { frames := 4, cells := 0, slots := 0, locals := 85 } s m args below meth c 6 D cy ad A Q 103 [(2, .int (Int32.ofInt z2))] [] σ) : ∀ (n : Nat) (x2 x3 : Int) , inR x2 → inR x3 → X6_delayBut_L4 x1 σ k103 n x2 x3 = some ro → G p l e { frames := 4, cells := 0, slots := 0, locals := 85 } s m args below meth c 6 D cy ad A Q 4 [(0, .ref (ad 58)), (1, .int (Int32.ofInt x1)), (2, .int (Int32.ofInt x2)), (3, .int (Int32.ofInt x3))] [] σ := by
  intro n
  induction n with
  | zero =>
    intro x2 x3 hx2 hx3 h
    cases h
  | succ n ih =>
    intro x2 x3 hx2 hx3 h
    rw [X6_delayBut_L4] at h
    refine g_iload_n C dX6_delayBut_4 3 rfl ?_
    refine g_aload_n C dX6_delayBut_5 0 rfl ?_
    refine gf_X6_0 C in_X6_delayBut_X6 (List.mem_of_getElem? (i := 1) rfl) dX6_delayBut_6 ?_
    refine g_iconst C dX6_delayBut_9 ?_
    refine g_iald C ly_c59 (Nat.le_of_ble_eq_true rfl) (by decide) (by decide) dX6_delayBut_10 (fun r1 => ?_)
    refine g_icmp_ge C 103 dX6_delayBut_11 (by decide) hx3 r1 (fun c2 => ?_) (fun c2 => ?_)
    · have h := z_f c2 h
      refine g_sub [2] rfl ?_
      exact hk103 _ hx2 h
    · have h := z_t c2 h
      refine g_iload_n C dX6_delayBut_14 3 rfl ?_
      refine g_iload_n C dX6_delayBut_15 1 rfl ?_
      refine g_icmp_eq C 97 dX6_delayBut_16 (by decide) hx3 hx1 (fun c3 => ?_) (fun c3 => ?_)
      · have h := z_t c3 h
        refine g_iinc C dX6_delayBut_97 (j := 3) rfl (by decide) (vs' := [(3, .int (Int32.ofInt (x3 + 1))), (0, .ref (ad 58)), (1, .int (Int32.ofInt x1)), (2, .int (Int32.ofInt x2))]) rfl ?_
        refine g_goto C 4 dX6_delayBut_100 (by decide) ?_
        refine g_sub [1, 2, 3, 0] rfl ?_
        exact ih _ _ hx2 (by omega) h
      · have h := z_f c3 h
        refine g_aload_n C dX6_delayBut_19 0 rfl ?_
        refine g_iload_n C dX6_delayBut_20 3 rfl ?_
        obtain ⟨r4, e5, h⟩ := z_b h
        refine g_callI (n := 1) C (fun hM => c_X6_isSignal l hM hx3 e5) gX6_delayBut_X6_isSignal rfl (by decide) ⟨rfl, rfl⟩ ⟨Nat.le_of_ble_eq_true rfl, Nat.le_of_ble_eq_true rfl⟩ rfl ly_c58 (Nat.le_of_ble_eq_true rfl) rfl rfl (rest := []) rfl (Nat.le_of_ble_eq_true rfl) dX6_delayBut_21 (fun q6 => ?_)
        have q6 : r4 = 0 ∨ r4 = 1 := q6
        refine g_if_ne C 30 dX6_delayBut_24 (by decide) (rgT_inR (rt := 1) q6) (fun c7 => ?_) (fun c7 => ?_)
        · have h := z_f c7 h
          refine g_aload_n C dX6_delayBut_30 0 rfl ?_
          refine g_aload_n C dX6_delayBut_31 0 rfl ?_
          refine g_iload_n C dX6_delayBut_32 3 rfl ?_
          obtain ⟨r8, e9, h⟩ := z_b h
          refine g_callI (n := 1) C (fun hM => c_X6_source l hM hx3 e9) gX6_delayBut_X6_source rfl (by decide) ⟨rfl, rfl⟩ ⟨Nat.le_of_ble_eq_true rfl, Nat.le_of_ble_eq_true rfl⟩ rfl ly_c58 (Nat.le_of_ble_eq_true rfl) rfl rfl (rest := [.ref (ad 58)]) rfl (Nat.le_of_ble_eq_true rfl) dX6_delayBut_33 (fun q10 => ?_)
          have q10 : inR r8 := q10
          obtain ⟨r11, e12, h⟩ := z_b h
          refine g_callI (n := 1) C (fun hM => c_X6_offset l hM q10 e12) gX6_delayBut_X6_offset rfl (by decide) ⟨rfl, rfl⟩ ⟨Nat.le_of_ble_eq_true rfl, Nat.le_of_ble_eq_true rfl⟩ rfl ly_c58 (Nat.le_of_ble_eq_true rfl) rfl rfl (rest := []) rfl (Nat.le_of_ble_eq_true rfl) dX6_delayBut_36 (fun q13 => ?_)
          have q13 : inR r11 := q13
          refine g_aload_n C dX6_delayBut_39 0 rfl ?_
          refine g_iload_n C dX6_delayBut_40 3 rfl ?_
          obtain ⟨r14, e15, h⟩ := z_b h
          refine g_callI (n := 1) C (fun hM => c_X6_lag l hM hx3 e15) gX6_delayBut_X6_lag rfl (by decide) ⟨rfl, rfl⟩ ⟨Nat.le_of_ble_eq_true rfl, Nat.le_of_ble_eq_true rfl⟩ rfl ly_c58 (Nat.le_of_ble_eq_true rfl) rfl rfl (rest := [.int (Int32.ofInt r11)]) rfl (Nat.le_of_ble_eq_true rfl) dX6_delayBut_41 (fun q16 => ?_)
          have q16 : inR r14 := q16
          refine g_iadd C dX6_delayBut_44 ?_
          refine g_aload_n C dX6_delayBut_45 0 rfl ?_
          refine g_aload_n C dX6_delayBut_46 0 rfl ?_
          refine g_iload_n C dX6_delayBut_47 3 rfl ?_
          obtain ⟨r17, e18, h⟩ := z_b h
          refine g_callI (n := 1) C (fun hM => c_X6_target l hM hx3 e18) gX6_delayBut_X6_target rfl (by decide) ⟨rfl, rfl⟩ ⟨Nat.le_of_ble_eq_true rfl, Nat.le_of_ble_eq_true rfl⟩ rfl ly_c58 (Nat.le_of_ble_eq_true rfl) rfl rfl (rest := [.ref (ad 58), .int (Int32.ofInt (r11 + r14))]) rfl (Nat.le_of_ble_eq_true rfl) dX6_delayBut_48 (fun q19 => ?_)
          have q19 : inR r17 := q19
          obtain ⟨r20, e21, h⟩ := z_b h
          refine g_callI (n := 1) C (fun hM => c_X6_offset l hM q19 e21) gX6_delayBut_X6_offset rfl (by decide) ⟨rfl, rfl⟩ ⟨Nat.le_of_ble_eq_true rfl, Nat.le_of_ble_eq_true rfl⟩ rfl ly_c58 (Nat.le_of_ble_eq_true rfl) rfl rfl (rest := [.int (Int32.ofInt (r11 + r14))]) rfl (Nat.le_of_ble_eq_true rfl) dX6_delayBut_51 (fun q22 => ?_)
          have q22 : inR r20 := q22
          refine g_isub C dX6_delayBut_54 ?_
          refine g_istore C dX6_delayBut_55 (by decide) (vs' := [(4, .int (Int32.ofInt ((r11 + r14) - r20))), (0, .ref (ad 58)), (1, .int (Int32.ofInt x1)), (2, .int (Int32.ofInt x2)), (3, .int (Int32.ofInt x3))]) rfl ?_
          refine g_iload C dX6_delayBut_57 0 rfl ?_
          obtain ⟨g23, h⟩ := z_g h
          refine g_if_gt C 66 dX6_delayBut_59 (by decide) g23 (fun c24 => ?_) (fun c24 => ?_)
          · have h := z_t c24 h
            refine g_iload C dX6_delayBut_66 0 rfl ?_
            refine g_aload_n C dX6_delayBut_68 1 rfl ?_
            refine g_iload_n C dX6_delayBut_69 4 rfl ?_
            obtain ⟨r25, e26, h⟩ := z_b h
            refine g_callI (n := 1) C (fun hM => c_X6_far l hM hx3 e26) gX6_delayBut_X6_far rfl (by decide) ⟨rfl, rfl⟩ ⟨Nat.le_of_ble_eq_true rfl, Nat.le_of_ble_eq_true rfl⟩ rfl ly_c58 (Nat.le_of_ble_eq_true rfl) rfl rfl (rest := [.int (Int32.ofInt ((r11 + r14) - r20))]) rfl (Nat.le_of_ble_eq_true rfl) dX6_delayBut_70 (fun q27 => ?_)
            have q27 : inR r25 := q27
            refine g_iadd C dX6_delayBut_73 ?_
            refine g_iconst C dX6_delayBut_74 ?_
            refine g_isub C dX6_delayBut_75 ?_
            refine g_aload_n C dX6_delayBut_76 1 rfl ?_
            refine g_iload_n C dX6_delayBut_77 4 rfl ?_
            obtain ⟨r28, e29, h⟩ := z_b h
            refine g_callI (n := 1) C (fun hM => c_X6_far l hM hx3 e29) gX6_delayBut_X6_far rfl (by decide) ⟨rfl, rfl⟩ ⟨Nat.le_of_ble_eq_true rfl, Nat.le_of_ble_eq_true rfl⟩ rfl ly_c58 (Nat.le_of_ble_eq_true rfl) rfl rfl (rest := [.int (Int32.ofInt ((((r11 + r14) - r20) + r25) - 1))]) rfl (Nat.le_of_ble_eq_true rfl) dX6_delayBut_78 (fun q30 => ?_)
            have q30 : inR r28 := q30
            obtain ⟨g31, h⟩ := z_g h
            obtain ⟨g32, h⟩ := z_g h
            have r33 := zdivR g31 q30 g32
            refine g_idiv C g31 q30 g32 dX6_delayBut_81 ?_
            refine g_sub [1, 2, 3, 4] rfl ?_
            refine w_X6_delayBut_J82 C hx1 hR ih _ _ _ hx2 hx3 r33 h
          · have h := z_f c24 h
            refine g_iconst C dX6_delayBut_62 ?_
            refine g_goto C 82 dX6_delayBut_63 (by decide) ?_
            refine g_sub [1, 2, 3, 4] rfl ?_
            refine w_X6_delayBut_J82 C hx1 hR ih _ _ _ hx2 hx3 (by decide) h
        · have h := z_t c7 h
          refine g_goto C 97 dX6_delayBut_27 (by decide) ?_
          refine g_iinc C dX6_delayBut_97 (j := 3) rfl (by decide) (vs' := [(3, .int (Int32.ofInt (x3 + 1))), (0, .ref (ad 58)), (1, .int (Int32.ofInt x1)), (2, .int (Int32.ofInt x2))]) rfl ?_
          refine g_goto C 4 dX6_delayBut_100 (by decide) ?_
          refine g_sub [1, 2, 3, 0] rfl ?_
          exact ih _ _ hx2 (by omega) h
set_option maxHeartbeats 4000000 in
set_option maxRecDepth 100000 in
theorem c_X6_delayBut (l : Launch) {σ : MM} (hM : okM σ) {a1 : Int} (ha1 : inR a1) {ro : Int} (h : X6_delayBut a1 σ = some ro) : CtI l yX6_delayBut wsX6_delayBut { frames := 4, cells := 0, slots := 0, locals := 85 } (fun ad : Nat → Nat => [.ref (ad 58), .int (Int32.ofInt a1)]) σ 0 ro σ := by
  unfold X6_delayBut at h
  refine z_ctI (cc := cX6_delayBut) (maxL := 6) (rt := 0) hM (by decide) rfl (fun _ => Nat.le_of_ble_eq_true rfl) (@fun p e s m args below meth c D cy ad A Q C hR => ?_)
  refine g_sub (vs' := [(0, .ref (ad 58)), (1, .int (Int32.ofInt a1))]) [0, 1] rfl ?_
  refine g_iconst C dX6_delayBut_0 ?_
  refine g_istore_n C dX6_delayBut_1 (by decide) (vs' := [(2, .int (Int32.ofInt 0)), (0, .ref (ad 58)), (1, .int (Int32.ofInt a1))]) rfl ?_
  refine g_iconst C dX6_delayBut_2 ?_
  refine g_istore_n C dX6_delayBut_3 (by decide) (vs' := [(3, .int (Int32.ofInt 0)), (2, .int (Int32.ofInt 0)), (0, .ref (ad 58)), (1, .int (Int32.ofInt a1))]) rfl ?_
  refine g_sub [2, 3, 1, 0] rfl ?_
  refine w_X6_delayBut_L4 C ha1 hR ?_ _ _ _ (by decide) (by decide) h
  · intro z37 hz37 h
    refine g_iload_n C dX6_delayBut_103 0 rfl ?_
    obtain rfl := z_s1 h
    exact hR _ _ dX6_delayBut_104 hz37
theorem in_X6_delay_X6 : ∀ w ∈ u_ws RX6 TX6 20, w ∈ wsX6_delay := fun _ h => List.mem_cons_of_mem _ (List.mem_append_right _ h)
set_option maxHeartbeats 4000000 in
set_option maxRecDepth 100000 in
theorem c_X6_delay (l : Launch) {σ : MM} (hM : okM σ) {ro : Int} {σo : MM} (h : X6_delay σ = some (ro, σo)) : CtI l yX6_delay wsX6_delay { frames := 5, cells := 0, slots := 0, locals := 110 } (fun ad : Nat → Nat => [.ref (ad 58)]) σ 0 ro σo := by
  unfold X6_delay at h
  refine z_ctI (cc := cX6_delay) (maxL := 1) (rt := 0) hM (by decide) rfl (fun _ => Nat.le_of_ble_eq_true rfl) (@fun p e s m args below meth c D cy ad A Q C hR => ?_)
  refine g_sub (vs' := [(0, .ref (ad 58))]) [0] rfl ?_
  refine g_aload_n C dX6_delay_0 0 rfl ?_
  refine g_iconst C dX6_delay_1 ?_
  refine gp_X6_3 C in_X6_delay_X6 (List.mem_of_getElem? (i := 1) rfl) (by decide) dX6_delay_2 ?_
  obtain ⟨σ1, e2, h⟩ := z_l h
  refine g_mem e2 ?_
  refine g_aload_n C dX6_delay_5 0 rfl ?_
  refine g_iconst C dX6_delay_6 ?_
  obtain ⟨r3, e4, h⟩ := z_b h
  refine g_callI (n := 1) C (fun hM => c_X6_delayBut l hM (by decide) e4) gX6_delay_X6_delayBut rfl (by decide) ⟨rfl, rfl⟩ ⟨Nat.le_of_ble_eq_true rfl, Nat.le_of_ble_eq_true rfl⟩ rfl ly_c58 (Nat.le_of_ble_eq_true rfl) rfl rfl (rest := []) rfl (Nat.le_of_ble_eq_true rfl) dX6_delay_7 (fun q5 => ?_)
  have q5 : inR r3 := q5
  obtain ⟨rfl, rfl⟩ := z_s2 h
  exact hR _ _ dX6_delay_10 q5
theorem in_X6_critical_X6 : ∀ w ∈ u_ws RX6 TX6 20, w ∈ wsX6_critical := fun _ h => List.mem_cons_of_mem _ (List.mem_append_right _ h)
set_option maxHeartbeats 4000000 in
set_option maxRecDepth 100000 in
theorem w_X6_critical_L7 {p : Program} {l : Launch} {e : Env} {s : State} {m : MethodId} {args : Array Value} {below : List Frame} {meth : Method} {c : Code} {D : va_G} {cy : Nat → ClassId} {ad : Nat → Nat} {A : Nat → Prop} {Q : State → Prop} (C : Cx p s m args meth c cX6_critical RX6 2 wsX6_critical D cy A) {k46 : MM → Option (Int × MM)} {ro : Int} {σo : MM} (hR : RetI p l e { frames := 5, cells := 0, slots := 0, locals := 110 } s m args below meth c cX6_critical 2 D cy ad A Q 0 ro σo) (hk46 : ∀  (σ : MM), k46 σ = some (ro, σo) → G p l e { frames := 5, cells := 0, slots := 0, locals := 110 } s m args below meth c 2 D cy ad A Q 46 [] [] σ) : ∀ (n : Nat) (x1 : Int) (σ : MM) , inR x1 → X6_critical_L7 k46 n x1 σ = some (ro, σo) → G p l e { frames := 5, cells := 0, slots := 0, locals := 110 } s m args below meth c 2 D cy ad A Q 7 [(0, .ref (ad 58)), (1, .int (Int32.ofInt x1))] [] σ := by
  intro n
  induction n with
  | zero =>
    intro x1 σ hx1 h
    cases h
  | succ n ih =>
    intro x1 σ hx1 h
    rw [X6_critical_L7] at h
    refine g_iload_n C dX6_critical_7 1 rfl ?_
    refine g_aload_n C dX6_critical_8 0 rfl ?_
    refine gf_X6_0 C in_X6_critical_X6 (List.mem_of_getElem? (i := 2) rfl) dX6_critical_9 ?_
    refine g_iconst C dX6_critical_12 ?_
    refine g_iald C ly_c59 (Nat.le_of_ble_eq_true rfl) (by decide) (by decide) dX6_critical_13 (fun r3 => ?_)
    refine g_icmp_ge C 46 dX6_critical_14 (by decide) hx1 r3 (fun c4 => ?_) (fun c4 => ?_)
    · have h := z_f c4 h
      refine g_sub [] rfl ?_
      exact hk46 _ h
    · have h := z_t c4 h
      refine g_aload_n C dX6_critical_17 0 rfl ?_
      refine g_iload_n C dX6_critical_18 1 rfl ?_
      obtain ⟨r5, e6, h⟩ := z_b h
      refine g_callI (n := 1) C (fun hM => c_X6_isSignal l hM hx1 e6) gX6_critical_X6_isSignal rfl (by decide) ⟨rfl, rfl⟩ ⟨Nat.le_of_ble_eq_true rfl, Nat.le_of_ble_eq_true rfl⟩ rfl ly_c58 (Nat.le_of_ble_eq_true rfl) rfl rfl (rest := []) rfl (Nat.le_of_ble_eq_true rfl) dX6_critical_19 (fun q7 => ?_)
      have q7 : r5 = 0 ∨ r5 = 1 := q7
      refine g_if_eq C 40 dX6_critical_22 (by decide) (rgT_inR (rt := 1) q7) (fun c8 => ?_) (fun c8 => ?_)
      · have h := z_t c8 h
        refine g_iinc C dX6_critical_40 (j := 1) rfl (by decide) (vs' := [(1, .int (Int32.ofInt (x1 + 1))), (0, .ref (ad 58))]) rfl ?_
        refine g_goto C 7 dX6_critical_43 (by decide) ?_
        refine g_sub [1, 0] rfl ?_
        exact ih _ _ (by omega) h
      · have h := z_f c8 h
        refine g_aload_n C dX6_critical_25 0 rfl ?_
        refine g_iload_n C dX6_critical_26 1 rfl ?_
        obtain ⟨r9, e10, h⟩ := z_b h
        refine g_callI (n := 1) C (fun hM => c_X6_delayBut l hM hx1 e10) gX6_critical_X6_delayBut rfl (by decide) ⟨rfl, rfl⟩ ⟨Nat.le_of_ble_eq_true rfl, Nat.le_of_ble_eq_true rfl⟩ rfl ly_c58 (Nat.le_of_ble_eq_true rfl) rfl rfl (rest := []) rfl (Nat.le_of_ble_eq_true rfl) dX6_critical_27 (fun q11 => ?_)
        have q11 : inR r9 := q11
        refine g_aload_n C dX6_critical_30 0 rfl ?_
        refine g_iconst C dX6_critical_31 ?_
        obtain ⟨r12, e13, h⟩ := z_b h
        refine g_callI (n := 1) C (fun hM => c_X6_delayBut l hM (by decide) e13) gX6_critical_X6_delayBut rfl (by decide) ⟨rfl, rfl⟩ ⟨Nat.le_of_ble_eq_true rfl, Nat.le_of_ble_eq_true rfl⟩ rfl ly_c58 (Nat.le_of_ble_eq_true rfl) rfl rfl (rest := [.int (Int32.ofInt r9)]) rfl (Nat.le_of_ble_eq_true rfl) dX6_critical_32 (fun q14 => ?_)
        have q14 : inR r12 := q14
        refine g_icmp_ge C 40 dX6_critical_35 (by decide) q11 q14 (fun c15 => ?_) (fun c15 => ?_)
        · have h := z_f c15 h
          refine g_iinc C dX6_critical_40 (j := 1) rfl (by decide) (vs' := [(1, .int (Int32.ofInt (x1 + 1))), (0, .ref (ad 58))]) rfl ?_
          refine g_goto C 7 dX6_critical_43 (by decide) ?_
          refine g_sub [1, 0] rfl ?_
          exact ih _ _ (by omega) h
        · have h := z_t c15 h
          refine g_iload_n C dX6_critical_38 1 rfl ?_
          obtain ⟨rfl, rfl⟩ := z_s2 h
          exact hR _ _ dX6_critical_39 hx1
set_option maxHeartbeats 4000000 in
set_option maxRecDepth 100000 in
theorem c_X6_critical (l : Launch) {σ : MM} (hM : okM σ) {ro : Int} {σo : MM} (h : X6_critical σ = some (ro, σo)) : CtI l yX6_critical wsX6_critical { frames := 5, cells := 0, slots := 0, locals := 110 } (fun ad : Nat → Nat => [.ref (ad 58)]) σ 0 ro σo := by
  unfold X6_critical at h
  refine z_ctI (cc := cX6_critical) (maxL := 2) (rt := 0) hM (by decide) rfl (fun _ => Nat.le_of_ble_eq_true rfl) (@fun p e s m args below meth c D cy ad A Q C hR => ?_)
  refine g_sub (vs' := [(0, .ref (ad 58))]) [0] rfl ?_
  refine g_aload_n C dX6_critical_0 0 rfl ?_
  refine g_iconst C dX6_critical_1 ?_
  refine gp_X6_3 C in_X6_critical_X6 (List.mem_of_getElem? (i := 1) rfl) (by decide) dX6_critical_2 ?_
  obtain ⟨σ1, e2, h⟩ := z_l h
  refine g_mem e2 ?_
  refine g_iconst C dX6_critical_5 ?_
  refine g_istore_n C dX6_critical_6 (by decide) (vs' := [(1, .int (Int32.ofInt 0)), (0, .ref (ad 58))]) rfl ?_
  refine g_sub [1, 0] rfl ?_
  refine w_X6_critical_L7 C hR ?_ _ _ _ (by decide) h
  · intro σ16 h
    refine g_iconst C dX6_critical_46 ?_
    obtain ⟨rfl, rfl⟩ := z_s2 h
    exact hR _ _ dX6_critical_47 (by show inR _; decide)
theorem in_X6_isAllowed_X6 : ∀ w ∈ u_ws RX6 TX6 20, w ∈ wsX6_isAllowed := fun _ h => List.mem_cons_of_mem _ (List.mem_append_right _ h)
set_option maxHeartbeats 4000000 in
set_option maxRecDepth 100000 in
theorem w_X6_isAllowed_L2 {p : Program} {l : Launch} {e : Env} {s : State} {m : MethodId} {args : Array Value} {below : List Frame} {meth : Method} {c : Code} {D : va_G} {cy : Nat → ClassId} {ad : Nat → Nat} {A : Nat → Prop} {Q : State → Prop} (C : Cx p s m args meth c cX6_isAllowed RX6 2 wsX6_isAllowed D cy A) {σ : MM} {k49 : Option Int} {ro : Int} (hR : RetI p l e { frames := 2, cells := 0, slots := 0, locals := 42 } s m args below meth c cX6_isAllowed 2 D cy ad A Q 1 ro σ) (hk49 :  k49 = some ro → G p l e { frames := 2, cells := 0, slots := 0, locals := 42 } s m args below meth c 2 D cy ad A Q 49 [] [] σ) : ∀ (n : Nat) (x1 : Int) , inR x1 → X6_isAllowed_L2 σ k49 n x1 = some ro → G p l e { frames := 2, cells := 0, slots := 0, locals := 42 } s m args below meth c 2 D cy ad A Q 2 [(0, .ref (ad 58)), (1, .int (Int32.ofInt x1))] [] σ := by
  intro n
  induction n with
  | zero =>
    intro x1 hx1 h
    cases h
  | succ n ih =>
    intro x1 hx1 h
    rw [X6_isAllowed_L2] at h
    refine g_iload_n C dX6_isAllowed_2 1 rfl ?_
    refine g_aload_n C dX6_isAllowed_3 0 rfl ?_
    refine gf_X6_0 C in_X6_isAllowed_X6 (List.mem_of_getElem? (i := 1) rfl) dX6_isAllowed_4 ?_
    refine g_iconst C dX6_isAllowed_7 ?_
    refine g_iald C ly_c59 (Nat.le_of_ble_eq_true rfl) (by decide) (by decide) dX6_isAllowed_8 (fun r1 => ?_)
    refine g_icmp_ge C 49 dX6_isAllowed_9 (by decide) hx1 r1 (fun c2 => ?_) (fun c2 => ?_)
    · have h := z_f c2 h
      refine g_sub [] rfl ?_
      exact hk49  h
    · have h := z_t c2 h
      refine g_aload_n C dX6_isAllowed_12 0 rfl ?_
      refine g_iload_n C dX6_isAllowed_13 1 rfl ?_
      obtain ⟨r3, e4, h⟩ := z_b h
      refine g_callI (n := 1) C (fun hM => c_X6_far l hM hx1 e4) gX6_isAllowed_X6_far rfl (by decide) ⟨rfl, rfl⟩ ⟨Nat.le_of_ble_eq_true rfl, Nat.le_of_ble_eq_true rfl⟩ rfl ly_c58 (Nat.le_of_ble_eq_true rfl) rfl rfl (rest := []) rfl (Nat.le_of_ble_eq_true rfl) dX6_isAllowed_14 (fun q5 => ?_)
      have q5 : inR r3 := q5
      refine g_if_ne C 43 dX6_isAllowed_17 (by decide) q5 (fun c6 => ?_) (fun c6 => ?_)
      · have h := z_f c6 h
        refine g_iinc C dX6_isAllowed_43 (j := 1) rfl (by decide) (vs' := [(1, .int (Int32.ofInt (x1 + 1))), (0, .ref (ad 58))]) rfl ?_
        refine g_goto C 2 dX6_isAllowed_46 (by decide) ?_
        refine g_sub [1, 0] rfl ?_
        exact ih _ (by omega) h
      · have h := z_t c6 h
        refine g_aload_n C dX6_isAllowed_20 0 rfl ?_
        refine g_aload_n C dX6_isAllowed_21 0 rfl ?_
        refine g_iload_n C dX6_isAllowed_22 1 rfl ?_
        obtain ⟨r7, e8, h⟩ := z_b h
        refine g_callI (n := 1) C (fun hM => c_X6_source l hM hx1 e8) gX6_isAllowed_X6_source rfl (by decide) ⟨rfl, rfl⟩ ⟨Nat.le_of_ble_eq_true rfl, Nat.le_of_ble_eq_true rfl⟩ rfl ly_c58 (Nat.le_of_ble_eq_true rfl) rfl rfl (rest := [.ref (ad 58)]) rfl (Nat.le_of_ble_eq_true rfl) dX6_isAllowed_23 (fun q9 => ?_)
        have q9 : inR r7 := q9
        obtain ⟨r10, e11, h⟩ := z_b h
        refine g_callI (n := 1) C (fun hM => c_X6_placeOf l hM q9 e11) gX6_isAllowed_X6_placeOf rfl (by decide) ⟨rfl, rfl⟩ ⟨Nat.le_of_ble_eq_true rfl, Nat.le_of_ble_eq_true rfl⟩ rfl ly_c58 (Nat.le_of_ble_eq_true rfl) rfl rfl (rest := []) rfl (Nat.le_of_ble_eq_true rfl) dX6_isAllowed_26 (fun q12 => ?_)
        have q12 : inR r10 := q12
        refine g_aload_n C dX6_isAllowed_29 0 rfl ?_
        refine g_aload_n C dX6_isAllowed_30 0 rfl ?_
        refine g_iload_n C dX6_isAllowed_31 1 rfl ?_
        obtain ⟨r13, e14, h⟩ := z_b h
        refine g_callI (n := 1) C (fun hM => c_X6_target l hM hx1 e14) gX6_isAllowed_X6_target rfl (by decide) ⟨rfl, rfl⟩ ⟨Nat.le_of_ble_eq_true rfl, Nat.le_of_ble_eq_true rfl⟩ rfl ly_c58 (Nat.le_of_ble_eq_true rfl) rfl rfl (rest := [.ref (ad 58), .int (Int32.ofInt r10)]) rfl (Nat.le_of_ble_eq_true rfl) dX6_isAllowed_32 (fun q15 => ?_)
        have q15 : inR r13 := q15
        obtain ⟨r16, e17, h⟩ := z_b h
        refine g_callI (n := 1) C (fun hM => c_X6_placeOf l hM q15 e17) gX6_isAllowed_X6_placeOf rfl (by decide) ⟨rfl, rfl⟩ ⟨Nat.le_of_ble_eq_true rfl, Nat.le_of_ble_eq_true rfl⟩ rfl ly_c58 (Nat.le_of_ble_eq_true rfl) rfl rfl (rest := [.int (Int32.ofInt r10)]) rfl (Nat.le_of_ble_eq_true rfl) dX6_isAllowed_35 (fun q18 => ?_)
        have q18 : inR r16 := q18
        refine g_icmp_lt C 43 dX6_isAllowed_38 (by decide) q12 q18 (fun c19 => ?_) (fun c19 => ?_)
        · have h := z_t c19 h
          refine g_iinc C dX6_isAllowed_43 (j := 1) rfl (by decide) (vs' := [(1, .int (Int32.ofInt (x1 + 1))), (0, .ref (ad 58))]) rfl ?_
          refine g_goto C 2 dX6_isAllowed_46 (by decide) ?_
          refine g_sub [1, 0] rfl ?_
          exact ih _ (by omega) h
        · have h := z_f c19 h
          refine g_iconst C dX6_isAllowed_41 ?_
          obtain rfl := z_s1 h
          exact hR _ _ dX6_isAllowed_42 (by show _ = _ ∨ _ = _; decide)
set_option maxHeartbeats 4000000 in
set_option maxRecDepth 100000 in
theorem c_X6_isAllowed (l : Launch) {σ : MM} (hM : okM σ) {ro : Int} (h : X6_isAllowed σ = some ro) : CtI l yX6_isAllowed wsX6_isAllowed { frames := 2, cells := 0, slots := 0, locals := 42 } (fun ad : Nat → Nat => [.ref (ad 58)]) σ 1 ro σ := by
  unfold X6_isAllowed at h
  refine z_ctI (cc := cX6_isAllowed) (maxL := 2) (rt := 1) hM (by decide) rfl (fun _ => Nat.le_of_ble_eq_true rfl) (@fun p e s m args below meth c D cy ad A Q C hR => ?_)
  refine g_sub (vs' := [(0, .ref (ad 58))]) [0] rfl ?_
  refine g_iconst C dX6_isAllowed_0 ?_
  refine g_istore_n C dX6_isAllowed_1 (by decide) (vs' := [(1, .int (Int32.ofInt 0)), (0, .ref (ad 58))]) rfl ?_
  refine g_sub [1, 0] rfl ?_
  refine w_X6_isAllowed_L2 C hR ?_ _ _ (by decide) h
  · intro h
    refine g_iconst C dX6_isAllowed_49 ?_
    obtain rfl := z_s1 h
    exact hR _ _ dX6_isAllowed_50 (by show _ = _ ∨ _ = _; decide)
theorem in_X6_orders_X6 : ∀ w ∈ u_ws RX6 TX6 20, w ∈ wsX6_orders := fun _ h => List.mem_cons_of_mem _ (List.mem_append_right _ h)
set_option maxHeartbeats 4000000 in
set_option maxRecDepth 100000 in
theorem w_X6_orders_L81 {p : Program} {l : Launch} {e : Env} {nn : Nat} {s : State} {m : MethodId} {args : Array Value} {below : List Frame} {meth : Method} {c : Code} {D : va_G} {cy : Nat → ClassId} {ad : Nat → Nat} {A : Nat → Prop} {Q : State → Prop} (C : Cx p s m args meth c cX6_orders RX6 4 wsX6_orders D cy A) {x1 : Int} (hx1 : inR x1) {x2 : Int} (hx2 : inR x2) {k127 : MM → Option MM} {σo : MM} (hR : RetV p l e { frames := 5 + nn, cells := 0, slots := 0, locals := 110 + 23 * nn } s m args below meth c cX6_orders 4 D cy ad A Q σo) {frec : Int → Int → MM → Option MM} {rf rl : Nat} (hrec : ∀ {σ σo : MM} {a1 a2 : Int}, okM σ → inR a1 → inR a2 → frec a1 a2 σ = some σo → CtV l yX6_orders wsX6_orders { frames := rf, cells := 0, slots := 0, locals := rl } (fun ad : Nat → Nat => [.ref (ad 58), .int (Int32.ofInt a1), .int (Int32.ofInt a2)]) σ σo) (hrf : rf + 1 ≤ 5 + nn) (hrl : 8 + (4 + 11) + rl ≤ 110 + 23 * nn) (hk127 : ∀  (σ : MM), k127 σ = some σo → G p l e { frames := 5 + nn, cells := 0, slots := 0, locals := 110 + 23 * nn } s m args below meth c 4 D cy ad A Q 127 [] [] σ) : ∀ (n : Nat) (x3 : Int) (σ : MM) , inR x3 → X6_orders_L81 frec x1 x2 k127 n x3 σ = some σo → G p l e { frames := 5 + nn, cells := 0, slots := 0, locals := 110 + 23 * nn } s m args below meth c 4 D cy ad A Q 81 [(0, .ref (ad 58)), (1, .int (Int32.ofInt x1)), (2, .int (Int32.ofInt x2)), (3, .int (Int32.ofInt x3))] [] σ := by
  intro n
  induction n with
  | zero =>
    intro x3 σ hx3 h
    cases h
  | succ n ih =>
    intro x3 σ hx3 h
    rw [X6_orders_L81] at h
    refine g_iload_n C dX6_orders_81 3 rfl ?_
    refine g_aload_n C dX6_orders_82 0 rfl ?_
    refine gf_X6_0 C in_X6_orders_X6 (List.mem_of_getElem? (i := 1) rfl) dX6_orders_83 ?_
    refine g_iconst C dX6_orders_86 ?_
    refine g_iald C ly_c59 (Nat.le_of_ble_eq_true rfl) (by decide) (by decide) dX6_orders_87 (fun r3 => ?_)
    refine g_icmp_ge C 127 dX6_orders_88 (by decide) hx3 r3 (fun c4 => ?_) (fun c4 => ?_)
    · have h := z_f c4 h
      refine g_sub [] rfl ?_
      exact hk127 _ h
    · have h := z_t c4 h
      refine g_iload_n C dX6_orders_91 2 rfl ?_
      refine g_iload_n C dX6_orders_92 3 rfl ?_
      refine g_ishr C dX6_orders_93 ?_
      refine g_iconst C dX6_orders_94 ?_
      refine g_iand C dX6_orders_95 ?_
      refine g_if_ne C 121 dX6_orders_96 (by decide) (jand_R _ _) (fun c5 => ?_) (fun c5 => ?_)
      · have h := z_f c5 h
        refine g_iinc C dX6_orders_121 (j := 3) rfl (by decide) (vs' := [(3, .int (Int32.ofInt (x3 + 1))), (0, .ref (ad 58)), (1, .int (Int32.ofInt x1)), (2, .int (Int32.ofInt x2))]) rfl ?_
        refine g_goto C 81 dX6_orders_124 (by decide) ?_
        refine g_sub [1, 2, 3, 0] rfl ?_
        exact ih _ _ (by omega) h
      · have h := z_t c5 h
        refine g_aload_n C dX6_orders_99 0 rfl ?_
        refine gf_X6_0 C in_X6_orders_X6 (List.mem_of_getElem? (i := 1) rfl) dX6_orders_100 ?_
        refine g_bipush C dX6_orders_103 (by decide) ?_
        refine g_iload_n C dX6_orders_105 1 rfl ?_
        refine g_iadd C dX6_orders_106 ?_
        refine g_iload_n C dX6_orders_107 3 rfl ?_
        obtain ⟨g6, h⟩ := z_g h
        refine g_iast C ly_c59 (Nat.le_of_ble_eq_true rfl) (by decide) g6 hx3 dX6_orders_108 ?_
        obtain ⟨σ7, e8, h⟩ := z_l h
        refine g_mem e8 ?_
        refine g_aload_n C dX6_orders_109 0 rfl ?_
        refine g_iload_n C dX6_orders_110 1 rfl ?_
        refine g_iconst C dX6_orders_111 ?_
        refine g_iadd C dX6_orders_112 ?_
        refine g_iload_n C dX6_orders_113 2 rfl ?_
        refine g_iconst C dX6_orders_114 ?_
        refine g_iload_n C dX6_orders_115 3 rfl ?_
        refine g_ishl C dX6_orders_116 ?_
        refine g_ior C dX6_orders_117 ?_
        obtain ⟨σ11, e10, h⟩ := z_b h
        refine g_callV (n := 2) C (fun hM => hrec hM (by omega) (jor_R _ _) e10) gX6_orders_X6_orders rfl (by decide) ⟨rfl, rfl⟩ ⟨hrf, hrl⟩ rfl ly_c58 (Nat.le_of_ble_eq_true rfl) rfl rfl (rest := []) rfl (Nat.le_of_ble_eq_true rfl) dX6_orders_118 ?_
        refine g_iinc C dX6_orders_121 (j := 3) rfl (by decide) (vs' := [(3, .int (Int32.ofInt (x3 + 1))), (0, .ref (ad 58)), (1, .int (Int32.ofInt x1)), (2, .int (Int32.ofInt x2))]) rfl ?_
        refine g_goto C 81 dX6_orders_124 (by decide) ?_
        refine g_sub [1, 2, 3, 0] rfl ?_
        exact ih _ _ (by omega) h
set_option maxHeartbeats 4000000 in
set_option maxRecDepth 100000 in
theorem w_X6_orders_L47 {p : Program} {l : Launch} {e : Env} {nn : Nat} {s : State} {m : MethodId} {args : Array Value} {below : List Frame} {meth : Method} {c : Code} {D : va_G} {cy : Nat → ClassId} {ad : Nat → Nat} {A : Nat → Prop} {Q : State → Prop} (C : Cx p s m args meth c cX6_orders RX6 4 wsX6_orders D cy A) {k78 : MM → Option MM} {σo : MM} (hR : RetV p l e { frames := 5 + nn, cells := 0, slots := 0, locals := 110 + 23 * nn } s m args below meth c cX6_orders 4 D cy ad A Q σo) {frec : Int → Int → MM → Option MM} {rf rl : Nat} (hrec : ∀ {σ σo : MM} {a1 a2 : Int}, okM σ → inR a1 → inR a2 → frec a1 a2 σ = some σo → CtV l yX6_orders wsX6_orders { frames := rf, cells := 0, slots := 0, locals := rl } (fun ad : Nat → Nat => [.ref (ad 58), .int (Int32.ofInt a1), .int (Int32.ofInt a2)]) σ σo) (hrf : rf + 1 ≤ 5 + nn) (hrl : 8 + (4 + 11) + rl ≤ 110 + 23 * nn) (hk78 : ∀  (σ : MM), k78 σ = some σo → G p l e { frames := 5 + nn, cells := 0, slots := 0, locals := 110 + 23 * nn } s m args below meth c 4 D cy ad A Q 78 [] [] σ) : ∀ (n : Nat) (x3 : Int) (σ : MM) , inR x3 → X6_orders_L47 frec k78 n x3 σ = some σo → G p l e { frames := 5 + nn, cells := 0, slots := 0, locals := 110 + 23 * nn } s m args below meth c 4 D cy ad A Q 47 [(0, .ref (ad 58)), (3, .int (Int32.ofInt x3))] [] σ := by
  intro n
  induction n with
  | zero =>
    intro x3 σ hx3 h
    cases h
  | succ n ih =>
    intro x3 σ hx3 h
    rw [X6_orders_L47] at h
    refine g_iload_n C dX6_orders_47 1 rfl ?_
    refine g_aload_n C dX6_orders_48 0 rfl ?_
    refine gf_X6_0 C in_X6_orders_X6 (List.mem_of_getElem? (i := 1) rfl) dX6_orders_49 ?_
    refine g_iconst C dX6_orders_52 ?_
    refine g_iald C ly_c59 (Nat.le_of_ble_eq_true rfl) (by decide) (by decide) dX6_orders_53 (fun r24 => ?_)
    refine g_icmp_ge C 78 dX6_orders_54 (by decide) hx3 r24 (fun c25 => ?_) (fun c25 => ?_)
    · have h := z_f c25 h
      refine g_sub [] rfl ?_
      exact hk78 _ h
    · have h := z_t c25 h
      refine g_aload_n C dX6_orders_57 0 rfl ?_
      refine gf_X6_11 C in_X6_orders_X6 (List.mem_of_getElem? (i := 3) rfl) dX6_orders_58 ?_
      refine g_iload_n C dX6_orders_61 1 rfl ?_
      refine g_aload_n C dX6_orders_62 0 rfl ?_
      refine gf_X6_0 C in_X6_orders_X6 (List.mem_of_getElem? (i := 1) rfl) dX6_orders_63 ?_
      refine g_bipush C dX6_orders_66 (by decide) ?_
      refine g_iload_n C dX6_orders_68 1 rfl ?_
      refine g_iadd C dX6_orders_69 ?_
      obtain ⟨g26, h⟩ := z_g h
      refine g_iald C ly_c59 (Nat.le_of_ble_eq_true rfl) (by decide) g26 dX6_orders_70 (fun r27 => ?_)
      obtain ⟨g28, h⟩ := z_g h
      refine g_iast C ly_c64 (Nat.le_of_ble_eq_true rfl) (by decide) g28 r27 dX6_orders_71 ?_
      obtain ⟨σ29, e30, h⟩ := z_l h
      refine g_mem e30 ?_
      refine g_iinc C dX6_orders_72 (j := 1) rfl (by decide) (vs' := [(3, .int (Int32.ofInt (x3 + 1))), (0, .ref (ad 58))]) rfl ?_
      refine g_goto C 47 dX6_orders_75 (by decide) ?_
      refine g_sub [1, 0] rfl ?_
      exact ih _ _ (by omega) h
set_option maxHeartbeats 4000000 in
set_option maxRecDepth 100000 in
theorem c_X6_orders (l : Launch) : ∀ (n : Nat) {σ : MM} (hM : okM σ) {a1 : Int} (ha1 : inR a1) {a2 : Int} (ha2 : inR a2) {σo : MM} (h : X6_orders n a1 a2 σ = some σo), CtV l yX6_orders wsX6_orders { frames := 5 + n, cells := 0, slots := 0, locals := 110 + 23 * n } (fun ad : Nat → Nat => [.ref (ad 58), .int (Int32.ofInt a1), .int (Int32.ofInt a2)]) σ σo := by
  intro n
  induction n with
  | zero =>
    intro σ hM a1 ha1 a2 ha2 σo h
    cases h
  | succ n ih =>
    intro σ hM a1 ha1 a2 ha2 σo h
    rw [X6_orders] at h
    refine z_ctV (cc := cX6_orders) (maxL := 4) hM (by decide) rfl (fun _ => Nat.le_of_ble_eq_true rfl) (@fun p e s m args below meth c D cy ad A Q C hR => ?_)
    refine g_sub (vs' := [(0, .ref (ad 58)), (1, .int (Int32.ofInt a1)), (2, .int (Int32.ofInt a2))]) [0, 1, 2] rfl ?_
    have hrec : ∀ {σ σo : MM} {a1 a2 : Int}, okM σ → inR a1 → inR a2 → X6_orders n a1 a2 σ = some σo → CtV l yX6_orders wsX6_orders { frames := 5 + n, cells := 0, slots := 0, locals := 110 + 23 * n } (fun ad : Nat → Nat => [.ref (ad 58), .int (Int32.ofInt a1), .int (Int32.ofInt a2)]) σ σo := fun hM ha1 ha2 h => ih hM ha1 ha2 h
    have hrf : 5 + n + 1 ≤ 5 + (n + 1) := by omega
    have hrl : 8 + (4 + 11) + (110 + 23 * n) ≤ 110 + 23 * (n + 1) := by omega
    refine g_iload_n C dX6_orders_0 1 rfl ?_
    refine g_aload_n C dX6_orders_1 0 rfl ?_
    refine gf_X6_0 C in_X6_orders_X6 (List.mem_of_getElem? (i := 1) rfl) dX6_orders_2 ?_
    refine g_iconst C dX6_orders_5 ?_
    refine g_iald C ly_c59 (Nat.le_of_ble_eq_true rfl) (by decide) (by decide) dX6_orders_6 (fun r1 => ?_)
    refine g_icmp_ne C 79 dX6_orders_7 (by decide) ha1 r1 (fun c2 => ?_) (fun c2 => ?_)
    · have h := z_f c2 h
      refine g_iconst C dX6_orders_79 ?_
      refine g_istore_n C dX6_orders_80 (by decide) (vs' := [(3, .int (Int32.ofInt 0)), (0, .ref (ad 58)), (1, .int (Int32.ofInt a1)), (2, .int (Int32.ofInt a2))]) rfl ?_
      refine g_sub [1, 2, 3, 0] rfl ?_
      refine w_X6_orders_L81 C ha1 ha2 hR hrec hrf hrl ?_ _ _ _ (by decide) h
      · intro σ12 h
        obtain rfl := z_s1 h
        exact hR _ _ dX6_orders_127
    · have h := z_t c2 h
      refine g_aload_n C dX6_orders_10 0 rfl ?_
      obtain ⟨r13, e14, h⟩ := z_b h
      refine g_callI (n := 0) C (fun hM => c_X6_isAllowed l hM  e14) gX6_orders_X6_isAllowed rfl (by decide) ⟨rfl, rfl⟩ ⟨by show 2 + 1 ≤ 5 + (n + 1); omega, by show 8 + (2 + 11) + 42 ≤ 110 + 23 * (n + 1); omega⟩ rfl ly_c58 (Nat.le_of_ble_eq_true rfl) rfl rfl (rest := []) rfl (Nat.le_of_ble_eq_true rfl) dX6_orders_11 (fun q15 => ?_)
      have q15 : r13 = 0 ∨ r13 = 1 := q15
      refine g_if_eq C 78 dX6_orders_14 (by decide) (rgT_inR (rt := 1) q15) (fun c16 => ?_) (fun c16 => ?_)
      · have h := z_t c16 h
        obtain rfl := z_s1 h
        exact hR _ _ dX6_orders_78
      · have h := z_f c16 h
        refine g_aload_n C dX6_orders_17 0 rfl ?_
        refine gf_X6_12 C in_X6_orders_X6 (List.mem_of_getElem? (i := 2) rfl) dX6_orders_18 (fun r17 => ?_)
        refine g_if_lt C 36 dX6_orders_21 (by decide) r17 (fun c18 => ?_) (fun c18 => ?_)
        · have h := z_t c18 h
          refine g_aload_n C dX6_orders_36 0 rfl ?_
          refine g_aload_n C dX6_orders_37 0 rfl ?_
          refine g_iconst C dX6_orders_38 ?_
          obtain ⟨r19, e20, h⟩ := z_b h
          refine g_callI (n := 1) C (fun hM => c_X6_delayBut l hM (by decide) e20) gX6_orders_X6_delayBut rfl (by decide) ⟨rfl, rfl⟩ ⟨by show 4 + 1 ≤ 5 + (n + 1); omega, by show 8 + (6 + 11) + 85 ≤ 110 + 23 * (n + 1); omega⟩ rfl ly_c58 (Nat.le_of_ble_eq_true rfl) rfl rfl (rest := [.ref (ad 58)]) rfl (Nat.le_of_ble_eq_true rfl) dX6_orders_39 (fun q21 => ?_)
          have q21 : inR r19 := q21
          refine gp_X6_12 C in_X6_orders_X6 (List.mem_of_getElem? (i := 2) rfl) q21 dX6_orders_42 ?_
          obtain ⟨σ22, e23, h⟩ := z_l h
          refine g_mem e23 ?_
          refine g_iconst C dX6_orders_45 ?_
          refine g_istore_n C dX6_orders_46 (by decide) (vs' := [(3, .int (Int32.ofInt 0)), (0, .ref (ad 58)), (1, .int (Int32.ofInt a1)), (2, .int (Int32.ofInt a2))]) rfl ?_
          refine g_sub [1, 0] rfl ?_
          refine w_X6_orders_L47 C hR hrec hrf hrl ?_ _ _ _ (by decide) h
          · intro σ31 h
            obtain rfl := z_s1 h
            exact hR _ _ dX6_orders_78
        · have h := z_f c18 h
          refine g_aload_n C dX6_orders_24 0 rfl ?_
          refine g_iconst C dX6_orders_25 ?_
          obtain ⟨r32, e33, h⟩ := z_b h
          refine g_callI (n := 1) C (fun hM => c_X6_delayBut l hM (by decide) e33) gX6_orders_X6_delayBut rfl (by decide) ⟨rfl, rfl⟩ ⟨by show 4 + 1 ≤ 5 + (n + 1); omega, by show 8 + (6 + 11) + 85 ≤ 110 + 23 * (n + 1); omega⟩ rfl ly_c58 (Nat.le_of_ble_eq_true rfl) rfl rfl (rest := []) rfl (Nat.le_of_ble_eq_true rfl) dX6_orders_26 (fun q34 => ?_)
          have q34 : inR r32 := q34
          refine g_aload_n C dX6_orders_29 0 rfl ?_
          refine gf_X6_12 C in_X6_orders_X6 (List.mem_of_getElem? (i := 2) rfl) dX6_orders_30 (fun r35 => ?_)
          refine g_icmp_ge C 78 dX6_orders_33 (by decide) q34 r35 (fun c36 => ?_) (fun c36 => ?_)
          · have h := z_f c36 h
            obtain rfl := z_s1 h
            exact hR _ _ dX6_orders_78
          · have h := z_t c36 h
            refine g_aload_n C dX6_orders_36 0 rfl ?_
            refine g_aload_n C dX6_orders_37 0 rfl ?_
            refine g_iconst C dX6_orders_38 ?_
            obtain ⟨r37, e38, h⟩ := z_b h
            refine g_callI (n := 1) C (fun hM => c_X6_delayBut l hM (by decide) e38) gX6_orders_X6_delayBut rfl (by decide) ⟨rfl, rfl⟩ ⟨by show 4 + 1 ≤ 5 + (n + 1); omega, by show 8 + (6 + 11) + 85 ≤ 110 + 23 * (n + 1); omega⟩ rfl ly_c58 (Nat.le_of_ble_eq_true rfl) rfl rfl (rest := [.ref (ad 58)]) rfl (Nat.le_of_ble_eq_true rfl) dX6_orders_39 (fun q39 => ?_)
            have q39 : inR r37 := q39
            refine gp_X6_12 C in_X6_orders_X6 (List.mem_of_getElem? (i := 2) rfl) q39 dX6_orders_42 ?_
            obtain ⟨σ40, e41, h⟩ := z_l h
            refine g_mem e41 ?_
            refine g_iconst C dX6_orders_45 ?_
            refine g_istore_n C dX6_orders_46 (by decide) (vs' := [(3, .int (Int32.ofInt 0)), (0, .ref (ad 58)), (1, .int (Int32.ofInt a1)), (2, .int (Int32.ofInt a2))]) rfl ?_
            refine g_sub [1, 0] rfl ?_
            refine w_X6_orders_L47 C hR hrec hrf hrl ?_ _ _ _ (by decide) h
            · intro σ42 h
              obtain rfl := z_s1 h
              exact hR _ _ dX6_orders_78
theorem in_X6_searches_X6 : ∀ w ∈ u_ws RX6 TX6 20, w ∈ wsX6_searches := fun _ h => List.mem_cons_of_mem _ (List.mem_append_right _ h)
set_option maxHeartbeats 4000000 in
set_option maxRecDepth 100000 in
theorem w_X6_searches_L2 {p : Program} {l : Launch} {e : Env} {s : State} {m : MethodId} {args : Array Value} {below : List Frame} {meth : Method} {c : Code} {D : va_G} {cy : Nat → ClassId} {ad : Nat → Nat} {A : Nat → Prop} {Q : State → Prop} (C : Cx p s m args meth c cX6_searches RX6 2 wsX6_searches D cy A) {k29 : MM → Option MM} {σo : MM} (hR : RetV p l e { frames := 14, cells := 0, slots := 0, locals := 317 } s m args below meth c cX6_searches 2 D cy ad A Q σo) (hk29 : ∀  (σ : MM), k29 σ = some σo → G p l e { frames := 14, cells := 0, slots := 0, locals := 317 } s m args below meth c 2 D cy ad A Q 29 [(0, .ref (ad 58))] [] σ) : ∀ (n : Nat) (x1 : Int) (σ : MM) , inR x1 → X6_searches_L2 k29 n x1 σ = some σo → G p l e { frames := 14, cells := 0, slots := 0, locals := 317 } s m args below meth c 2 D cy ad A Q 2 [(0, .ref (ad 58)), (1, .int (Int32.ofInt x1))] [] σ := by
  intro n
  induction n with
  | zero =>
    intro x1 σ hx1 h
    cases h
  | succ n ih =>
    intro x1 σ hx1 h
    rw [X6_searches_L2] at h
    refine g_iload_n C dX6_searches_2 1 rfl ?_
    refine g_bipush C dX6_searches_3 (by decide) ?_
    refine g_icmp_ge C 29 dX6_searches_5 (by decide) hx1 (by decide) (fun c1 => ?_) (fun c1 => ?_)
    · have h := z_f c1 h
      refine g_sub [0] rfl ?_
      exact hk29 _ h
    · have h := z_t c1 h
      refine g_aload_n C dX6_searches_8 0 rfl ?_
      refine gf_X6_10 C in_X6_searches_X6 (List.mem_of_getElem? (i := 1) rfl) dX6_searches_9 ?_
      refine g_iload_n C dX6_searches_12 1 rfl ?_
      refine g_aload_n C dX6_searches_13 0 rfl ?_
      refine gf_X6_0 C in_X6_searches_X6 (List.mem_of_getElem? (i := 2) rfl) dX6_searches_14 ?_
      refine g_bipush C dX6_searches_17 (by decide) ?_
      refine g_iload_n C dX6_searches_19 1 rfl ?_
      refine g_iadd C dX6_searches_20 ?_
      obtain ⟨g2, h⟩ := z_g h
      refine g_iald C ly_c59 (Nat.le_of_ble_eq_true rfl) (by decide) g2 dX6_searches_21 (fun r3 => ?_)
      obtain ⟨g4, h⟩ := z_g h
      refine g_iast C ly_c63 (Nat.le_of_ble_eq_true rfl) (by decide) g4 r3 dX6_searches_22 ?_
      obtain ⟨σ5, e6, h⟩ := z_l h
      refine g_mem e6 ?_
      refine g_iinc C dX6_searches_23 (j := 1) rfl (by decide) (vs' := [(1, .int (Int32.ofInt (x1 + 1))), (0, .ref (ad 58))]) rfl ?_
      refine g_goto C 2 dX6_searches_26 (by decide) ?_
      refine g_sub [1, 0] rfl ?_
      exact ih _ _ (by omega) h
set_option maxHeartbeats 4000000 in
set_option maxRecDepth 100000 in
theorem w_X6_searches_L42 {p : Program} {l : Launch} {e : Env} {s : State} {m : MethodId} {args : Array Value} {below : List Frame} {meth : Method} {c : Code} {D : va_G} {cy : Nat → ClassId} {ad : Nat → Nat} {A : Nat → Prop} {Q : State → Prop} (C : Cx p s m args meth c cX6_searches RX6 2 wsX6_searches D cy A) {k69 : MM → Option MM} {σo : MM} (hR : RetV p l e { frames := 14, cells := 0, slots := 0, locals := 317 } s m args below meth c cX6_searches 2 D cy ad A Q σo) (hk69 : ∀  (σ : MM), k69 σ = some σo → G p l e { frames := 14, cells := 0, slots := 0, locals := 317 } s m args below meth c 2 D cy ad A Q 69 [] [] σ) : ∀ (n : Nat) (x1 : Int) (σ : MM) , inR x1 → X6_searches_L42 k69 n x1 σ = some σo → G p l e { frames := 14, cells := 0, slots := 0, locals := 317 } s m args below meth c 2 D cy ad A Q 42 [(0, .ref (ad 58)), (1, .int (Int32.ofInt x1))] [] σ := by
  intro n
  induction n with
  | zero =>
    intro x1 σ hx1 h
    cases h
  | succ n ih =>
    intro x1 σ hx1 h
    rw [X6_searches_L42] at h
    refine g_iload_n C dX6_searches_42 1 rfl ?_
    refine g_bipush C dX6_searches_43 (by decide) ?_
    refine g_icmp_ge C 69 dX6_searches_45 (by decide) hx1 (by decide) (fun c13 => ?_) (fun c13 => ?_)
    · have h := z_f c13 h
      refine g_sub [] rfl ?_
      exact hk69 _ h
    · have h := z_t c13 h
      refine g_aload_n C dX6_searches_48 0 rfl ?_
      refine gf_X6_0 C in_X6_searches_X6 (List.mem_of_getElem? (i := 2) rfl) dX6_searches_49 ?_
      refine g_bipush C dX6_searches_52 (by decide) ?_
      refine g_iload_n C dX6_searches_54 1 rfl ?_
      refine g_iadd C dX6_searches_55 ?_
      refine g_aload_n C dX6_searches_56 0 rfl ?_
      refine gf_X6_10 C in_X6_searches_X6 (List.mem_of_getElem? (i := 1) rfl) dX6_searches_57 ?_
      refine g_iload_n C dX6_searches_60 1 rfl ?_
      obtain ⟨g14, h⟩ := z_g h
      refine g_iald C ly_c63 (Nat.le_of_ble_eq_true rfl) (by decide) g14 dX6_searches_61 (fun r15 => ?_)
      refine g_iast C ly_c59 (Nat.le_of_ble_eq_true rfl) (by decide) (by omega) r15 dX6_searches_62 ?_
      obtain ⟨σ16, e17, h⟩ := z_l h
      refine g_mem e17 ?_
      refine g_iinc C dX6_searches_63 (j := 1) rfl (by decide) (vs' := [(1, .int (Int32.ofInt (x1 + 1))), (0, .ref (ad 58))]) rfl ?_
      refine g_goto C 42 dX6_searches_66 (by decide) ?_
      refine g_sub [1, 0] rfl ?_
      exact ih _ _ (by omega) h
set_option maxHeartbeats 4000000 in
set_option maxRecDepth 100000 in
theorem c_X6_searches (l : Launch) {σ : MM} (hM : okM σ) {σo : MM} (h : X6_searches σ = some σo) : CtV l yX6_searches wsX6_searches { frames := 14, cells := 0, slots := 0, locals := 317 } (fun ad : Nat → Nat => [.ref (ad 58)]) σ σo := by
  unfold X6_searches at h
  refine z_ctV (cc := cX6_searches) (maxL := 2) hM (by decide) rfl (fun _ => Nat.le_of_ble_eq_true rfl) (@fun p e s m args below meth c D cy ad A Q C hR => ?_)
  refine g_sub (vs' := [(0, .ref (ad 58))]) [0] rfl ?_
  refine g_iconst C dX6_searches_0 ?_
  refine g_istore_n C dX6_searches_1 (by decide) (vs' := [(1, .int (Int32.ofInt 0)), (0, .ref (ad 58))]) rfl ?_
  refine g_sub [1, 0] rfl ?_
  refine w_X6_searches_L2 C hR ?_ _ _ _ (by decide) h
  · intro σ7 h
    refine g_aload_n C dX6_searches_29 0 rfl ?_
    refine g_iconst C dX6_searches_30 ?_
    refine gp_X6_12 C in_X6_searches_X6 (List.mem_of_getElem? (i := 3) rfl) (by decide) dX6_searches_31 ?_
    obtain ⟨σ8, e9, h⟩ := z_l h
    refine g_mem e9 ?_
    refine g_aload_n C dX6_searches_34 0 rfl ?_
    refine g_iconst C dX6_searches_35 ?_
    refine g_iconst C dX6_searches_36 ?_
    obtain ⟨σ12, e11, h⟩ := z_b h
    refine g_callV (n := 2) C (fun hM => c_X6_orders l 8 hM (by decide) (by decide) e11) gX6_searches_X6_orders rfl (by decide) ⟨rfl, rfl⟩ ⟨Nat.le_of_ble_eq_true rfl, Nat.le_of_ble_eq_true rfl⟩ rfl ly_c58 (Nat.le_of_ble_eq_true rfl) rfl rfl (rest := []) rfl (Nat.le_of_ble_eq_true rfl) dX6_searches_37 ?_
    refine g_iconst C dX6_searches_40 ?_
    refine g_istore_n C dX6_searches_41 (by decide) (vs' := [(1, .int (Int32.ofInt 0)), (0, .ref (ad 58))]) rfl ?_
    refine g_sub [1, 0] rfl ?_
    refine w_X6_searches_L42 C hR ?_ _ _ _ (by decide) h
    · intro σ18 h
      obtain rfl := z_s1 h
      exact hR _ _ dX6_searches_69
theorem in_X6_leastDelay_X6 : ∀ w ∈ u_ws RX6 TX6 20, w ∈ wsX6_leastDelay := fun _ h => List.mem_cons_of_mem _ (List.mem_append_right _ h)
set_option maxHeartbeats 4000000 in
set_option maxRecDepth 100000 in
theorem c_X6_leastDelay (l : Launch) {σ : MM} (hM : okM σ) {ro : Int} {σo : MM} (h : X6_leastDelay σ = some (ro, σo)) : CtI l yX6_leastDelay wsX6_leastDelay { frames := 15, cells := 0, slots := 0, locals := 338 } (fun ad : Nat → Nat => [.ref (ad 58)]) σ 0 ro σo := by
  unfold X6_leastDelay at h
  refine z_ctI (cc := cX6_leastDelay) (maxL := 1) (rt := 0) hM (by decide) rfl (fun _ => Nat.le_of_ble_eq_true rfl) (@fun p e s m args below meth c D cy ad A Q C hR => ?_)
  refine g_sub (vs' := [(0, .ref (ad 58))]) [0] rfl ?_
  refine g_aload_n C dX6_leastDelay_0 0 rfl ?_
  refine g_iconst C dX6_leastDelay_1 ?_
  refine gp_X6_3 C in_X6_leastDelay_X6 (List.mem_of_getElem? (i := 1) rfl) (by decide) dX6_leastDelay_2 ?_
  obtain ⟨σ1, e2, h⟩ := z_l h
  refine g_mem e2 ?_
  refine g_aload_n C dX6_leastDelay_5 0 rfl ?_
  refine gf_X6_0 C in_X6_leastDelay_X6 (List.mem_of_getElem? (i := 2) rfl) dX6_leastDelay_6 ?_
  refine g_iconst C dX6_leastDelay_9 ?_
  refine g_iald C ly_c59 (Nat.le_of_ble_eq_true rfl) (by decide) (by decide) dX6_leastDelay_10 (fun r3 => ?_)
  refine g_bipush C dX6_leastDelay_11 (by decide) ?_
  refine g_icmp_le C 22 dX6_leastDelay_13 (by decide) r3 (by decide) (fun c4 => ?_) (fun c4 => ?_)
  · have h := z_f c4 h
    refine g_aload_n C dX6_leastDelay_22 0 rfl ?_
    obtain ⟨σ7, e6, h⟩ := z_b h
    refine g_callV (n := 0) C (fun hM => c_X6_searches l hM  e6) gX6_leastDelay_X6_searches rfl (by decide) ⟨rfl, rfl⟩ ⟨Nat.le_of_ble_eq_true rfl, Nat.le_of_ble_eq_true rfl⟩ rfl ly_c58 (Nat.le_of_ble_eq_true rfl) rfl rfl (rest := []) rfl (Nat.le_of_ble_eq_true rfl) dX6_leastDelay_23 ?_
    refine g_aload_n C dX6_leastDelay_26 0 rfl ?_
    refine gf_X6_12 C in_X6_leastDelay_X6 (List.mem_of_getElem? (i := 3) rfl) dX6_leastDelay_27 (fun r8 => ?_)
    obtain ⟨rfl, rfl⟩ := z_s2 h
    exact hR _ _ dX6_leastDelay_30 r8
  · have h := z_t c4 h
    refine g_aload_n C dX6_leastDelay_16 0 rfl ?_
    refine g_iconst C dX6_leastDelay_17 ?_
    obtain ⟨⟨r9, σ11⟩, e10, h⟩ := z_b h
    refine g_callI (n := 1) C (fun hM => c_X6_fails l hM (by decide) e10) gX6_leastDelay_X6_fails rfl (by decide) ⟨rfl, rfl⟩ ⟨Nat.le_of_ble_eq_true rfl, Nat.le_of_ble_eq_true rfl⟩ rfl ly_c58 (Nat.le_of_ble_eq_true rfl) rfl rfl (rest := []) rfl (Nat.le_of_ble_eq_true rfl) dX6_leastDelay_18 (fun q12 => ?_)
    have q12 : inR r9 := q12
    obtain ⟨rfl, rfl⟩ := z_s2 h
    exact hR _ _ dX6_leastDelay_21 q12
theorem in_X6_reorder_X6 : ∀ w ∈ u_ws RX6 TX6 20, w ∈ wsX6_reorder := fun _ h => List.mem_cons_of_mem _ (List.mem_append_right _ h)
set_option maxHeartbeats 4000000 in
set_option maxRecDepth 100000 in
theorem w_X6_reorder_L30 {p : Program} {l : Launch} {e : Env} {s : State} {m : MethodId} {args : Array Value} {below : List Frame} {meth : Method} {c : Code} {D : va_G} {cy : Nat → ClassId} {ad : Nat → Nat} {A : Nat → Prop} {Q : State → Prop} (C : Cx p s m args meth c cX6_reorder RX6 3 wsX6_reorder D cy A) {k84 : Int → MM → Option (Int × MM)} {ro : Int} {σo : MM} (hR : RetI p l e { frames := 15, cells := 0, slots := 0, locals := 338 } s m args below meth c cX6_reorder 3 D cy ad A Q 0 ro σo) (hk84 : ∀ (z1 : Int) (σ : MM), inR z1 → k84 z1 σ = some (ro, σo) → G p l e { frames := 15, cells := 0, slots := 0, locals := 338 } s m args below meth c 3 D cy ad A Q 84 [(1, .int (Int32.ofInt z1))] [] σ) : ∀ (n : Nat) (x1 x2 : Int) (σ : MM) , inR x1 → inR x2 → X6_reorder_L30 k84 n x1 x2 σ = some (ro, σo) → G p l e { frames := 15, cells := 0, slots := 0, locals := 338 } s m args below meth c 3 D cy ad A Q 30 [(0, .ref (ad 58)), (1, .int (Int32.ofInt x1)), (2, .int (Int32.ofInt x2))] [] σ := by
  intro n
  induction n with
  | zero =>
    intro x1 x2 σ hx1 hx2 h
    cases h
  | succ n ih =>
    intro x1 x2 σ hx1 hx2 h
    rw [X6_reorder_L30] at h
    refine g_iload_n C dX6_reorder_30 2 rfl ?_
    refine g_aload_n C dX6_reorder_31 0 rfl ?_
    refine gf_X6_0 C in_X6_reorder_X6 (List.mem_of_getElem? (i := 2) rfl) dX6_reorder_32 ?_
    refine g_iconst C dX6_reorder_35 ?_
    refine g_iald C ly_c59 (Nat.le_of_ble_eq_true rfl) (by decide) (by decide) dX6_reorder_36 (fun r8 => ?_)
    refine g_icmp_ge C 84 dX6_reorder_37 (by decide) hx2 r8 (fun c9 => ?_) (fun c9 => ?_)
    · have h := z_f c9 h
      refine g_sub [1] rfl ?_
      exact hk84 _ _ hx1 h
    · have h := z_t c9 h
      refine g_aload_n C dX6_reorder_40 0 rfl ?_
      refine gf_X6_0 C in_X6_reorder_X6 (List.mem_of_getElem? (i := 2) rfl) dX6_reorder_41 ?_
      refine g_bipush C dX6_reorder_44 (by decide) ?_
      refine g_iload_n C dX6_reorder_46 2 rfl ?_
      refine g_iadd C dX6_reorder_47 ?_
      refine g_aload_n C dX6_reorder_48 0 rfl ?_
      refine gf_X6_11 C in_X6_reorder_X6 (List.mem_of_getElem? (i := 3) rfl) dX6_reorder_49 ?_
      refine g_iload_n C dX6_reorder_52 2 rfl ?_
      obtain ⟨g10, h⟩ := z_g h
      refine g_iald C ly_c64 (Nat.le_of_ble_eq_true rfl) (by decide) g10 dX6_reorder_53 (fun r11 => ?_)
      refine g_iast C ly_c59 (Nat.le_of_ble_eq_true rfl) (by decide) (by omega) r11 dX6_reorder_54 ?_
      obtain ⟨σ12, e13, h⟩ := z_l h
      refine g_mem e13 ?_
      refine g_iload_n C dX6_reorder_55 1 rfl ?_
      refine g_aload_n C dX6_reorder_56 0 rfl ?_
      refine gf_X6_10 C in_X6_reorder_X6 (List.mem_of_getElem? (i := 4) rfl) dX6_reorder_57 ?_
      refine g_iload_n C dX6_reorder_60 2 rfl ?_
      refine g_iald C ly_c63 (Nat.le_of_ble_eq_true rfl) (by decide) (by omega) dX6_reorder_61 (fun r14 => ?_)
      refine g_aload_n C dX6_reorder_62 0 rfl ?_
      refine gf_X6_11 C in_X6_reorder_X6 (List.mem_of_getElem? (i := 3) rfl) dX6_reorder_63 ?_
      refine g_iload_n C dX6_reorder_66 2 rfl ?_
      refine g_iald C ly_c64 (Nat.le_of_ble_eq_true rfl) (by decide) (by omega) dX6_reorder_67 (fun r15 => ?_)
      refine g_icmp_ne C 75 dX6_reorder_68 (by decide) r14 r15 (fun c16 => ?_) (fun c16 => ?_)
      · have h := z_f c16 h
        refine g_iconst C dX6_reorder_75 ?_
        refine g_iadd C dX6_reorder_76 ?_
        refine g_istore_n C dX6_reorder_77 (by decide) (vs' := [(1, .int (Int32.ofInt (x1 + 1))), (0, .ref (ad 58)), (2, .int (Int32.ofInt x2))]) rfl ?_
        refine g_iinc C dX6_reorder_78 (j := 2) rfl (by decide) (vs' := [(2, .int (Int32.ofInt (x2 + 1))), (1, .int (Int32.ofInt (x1 + 1))), (0, .ref (ad 58))]) rfl ?_
        refine g_goto C 30 dX6_reorder_81 (by decide) ?_
        obtain ⟨g17, h⟩ := z_g h
        refine g_sub [2, 1, 0] rfl ?_
        exact ih _ _ _ g17 (by omega) h
      · have h := z_t c16 h
        refine g_iconst C dX6_reorder_71 ?_
        refine g_goto C 76 dX6_reorder_72 (by decide) ?_
        refine g_iadd C dX6_reorder_76 ?_
        refine g_istore_n C dX6_reorder_77 (by decide) (vs' := [(1, .int (Int32.ofInt (x1 + 0))), (0, .ref (ad 58)), (2, .int (Int32.ofInt x2))]) rfl ?_
        refine g_iinc C dX6_reorder_78 (j := 2) rfl (by decide) (vs' := [(2, .int (Int32.ofInt (x2 + 1))), (1, .int (Int32.ofInt (x1 + 0))), (0, .ref (ad 58))]) rfl ?_
        refine g_goto C 30 dX6_reorder_81 (by decide) ?_
        refine g_sub [2, 1, 0] rfl ?_
        exact ih _ _ _ (by omega) (by omega) h
set_option maxHeartbeats 4000000 in
set_option maxRecDepth 100000 in
theorem c_X6_reorder (l : Launch) {σ : MM} (hM : okM σ) {ro : Int} {σo : MM} (h : X6_reorder σ = some (ro, σo)) : CtI l yX6_reorder wsX6_reorder { frames := 15, cells := 0, slots := 0, locals := 338 } (fun ad : Nat → Nat => [.ref (ad 58)]) σ 0 ro σo := by
  unfold X6_reorder at h
  refine z_ctI (cc := cX6_reorder) (maxL := 3) (rt := 0) hM (by decide) rfl (fun _ => Nat.le_of_ble_eq_true rfl) (@fun p e s m args below meth c D cy ad A Q C hR => ?_)
  refine g_sub (vs' := [(0, .ref (ad 58))]) [0] rfl ?_
  refine g_aload_n C dX6_reorder_0 0 rfl ?_
  refine g_iconst C dX6_reorder_1 ?_
  refine gp_X6_3 C in_X6_reorder_X6 (List.mem_of_getElem? (i := 1) rfl) (by decide) dX6_reorder_2 ?_
  obtain ⟨σ1, e2, h⟩ := z_l h
  refine g_mem e2 ?_
  refine g_aload_n C dX6_reorder_5 0 rfl ?_
  refine gf_X6_0 C in_X6_reorder_X6 (List.mem_of_getElem? (i := 2) rfl) dX6_reorder_6 ?_
  refine g_iconst C dX6_reorder_9 ?_
  refine g_iald C ly_c59 (Nat.le_of_ble_eq_true rfl) (by decide) (by decide) dX6_reorder_10 (fun r3 => ?_)
  refine g_bipush C dX6_reorder_11 (by decide) ?_
  refine g_icmp_le C 22 dX6_reorder_13 (by decide) r3 (by decide) (fun c4 => ?_) (fun c4 => ?_)
  · have h := z_f c4 h
    refine g_aload_n C dX6_reorder_22 0 rfl ?_
    obtain ⟨σ7, e6, h⟩ := z_b h
    refine g_callV (n := 0) C (fun hM => c_X6_searches l hM  e6) gX6_reorder_X6_searches rfl (by decide) ⟨rfl, rfl⟩ ⟨Nat.le_of_ble_eq_true rfl, Nat.le_of_ble_eq_true rfl⟩ rfl ly_c58 (Nat.le_of_ble_eq_true rfl) rfl rfl (rest := []) rfl (Nat.le_of_ble_eq_true rfl) dX6_reorder_23 ?_
    refine g_iconst C dX6_reorder_26 ?_
    refine g_istore_n C dX6_reorder_27 (by decide) (vs' := [(1, .int (Int32.ofInt 0)), (0, .ref (ad 58))]) rfl ?_
    refine g_iconst C dX6_reorder_28 ?_
    refine g_istore_n C dX6_reorder_29 (by decide) (vs' := [(2, .int (Int32.ofInt 0)), (1, .int (Int32.ofInt 0)), (0, .ref (ad 58))]) rfl ?_
    refine g_sub [2, 1, 0] rfl ?_
    refine w_X6_reorder_L30 C hR ?_ _ _ _ _ (by decide) (by decide) h
    · intro z18 σ19 hz18 h
      refine g_iload_n C dX6_reorder_84 0 rfl ?_
      obtain ⟨rfl, rfl⟩ := z_s2 h
      exact hR _ _ dX6_reorder_85 hz18
  · have h := z_t c4 h
    refine g_aload_n C dX6_reorder_16 0 rfl ?_
    refine g_iconst C dX6_reorder_17 ?_
    obtain ⟨⟨r20, σ22⟩, e21, h⟩ := z_b h
    refine g_callI (n := 1) C (fun hM => c_X6_fails l hM (by decide) e21) gX6_reorder_X6_fails rfl (by decide) ⟨rfl, rfl⟩ ⟨Nat.le_of_ble_eq_true rfl, Nat.le_of_ble_eq_true rfl⟩ rfl ly_c58 (Nat.le_of_ble_eq_true rfl) rfl rfl (rest := []) rfl (Nat.le_of_ble_eq_true rfl) dX6_reorder_18 (fun q23 => ?_)
    have q23 : inR r20 := q23
    obtain ⟨rfl, rfl⟩ := z_s2 h
    exact hR _ _ dX6_reorder_21 q23
theorem in_X6_chosen_X6 : ∀ w ∈ u_ws RX6 TX6 20, w ∈ wsX6_chosen := fun _ h => List.mem_cons_of_mem _ (List.mem_append_right _ h)
set_option maxHeartbeats 4000000 in
set_option maxRecDepth 100000 in
theorem w_X6_chosen_L48 {p : Program} {l : Launch} {e : Env} {s : State} {m : MethodId} {args : Array Value} {below : List Frame} {meth : Method} {c : Code} {D : va_G} {cy : Nat → ClassId} {ad : Nat → Nat} {A : Nat → Prop} {Q : State → Prop} (C : Cx p s m args meth c cX6_chosen RX6 4 wsX6_chosen D cy A) {σ : MM} {k85 : Int → Option Int} {ro : Int} (hR : RetI p l e { frames := 0, cells := 0, slots := 0, locals := 0 } s m args below meth c cX6_chosen 4 D cy ad A Q 0 ro σ) (hk85 : ∀ (z2 : Int), inR z2 → k85 z2 = some ro → G p l e { frames := 0, cells := 0, slots := 0, locals := 0 } s m args below meth c 4 D cy ad A Q 85 [(2, .int (Int32.ofInt z2))] [] σ) : ∀ (n : Nat) (x2 x3 : Int) , inR x2 → inR x3 → X6_chosen_L48 σ k85 n x2 x3 = some ro → G p l e { frames := 0, cells := 0, slots := 0, locals := 0 } s m args below meth c 4 D cy ad A Q 48 [(0, .ref (ad 58)), (2, .int (Int32.ofInt x2)), (3, .int (Int32.ofInt x3))] [] σ := by
  intro n
  induction n with
  | zero =>
    intro x2 x3 hx2 hx3 h
    cases h
  | succ n ih =>
    intro x2 x3 hx2 hx3 h
    rw [X6_chosen_L48] at h
    refine g_iload_n C dX6_chosen_48 2 rfl ?_
    refine g_aload_n C dX6_chosen_49 0 rfl ?_
    refine gf_X6_0 C in_X6_chosen_X6 (List.mem_of_getElem? (i := 1) rfl) dX6_chosen_50 ?_
    refine g_iconst C dX6_chosen_53 ?_
    refine g_iald C ly_c59 (Nat.le_of_ble_eq_true rfl) (by decide) (by decide) dX6_chosen_54 (fun r5 => ?_)
    refine g_icmp_ge C 85 dX6_chosen_55 (by decide) hx3 r5 (fun c6 => ?_) (fun c6 => ?_)
    · have h := z_f c6 h
      refine g_sub [1] rfl ?_
      exact hk85 _ hx2 h
    · have h := z_t c6 h
      refine g_aload_n C dX6_chosen_58 0 rfl ?_
      refine gf_X6_15 C in_X6_chosen_X6 (List.mem_of_getElem? (i := 2) rfl) dX6_chosen_59 ?_
      refine g_iload_n C dX6_chosen_62 2 rfl ?_
      obtain ⟨g7, h⟩ := z_g h
      refine g_iald C ly_c67 (Nat.le_of_ble_eq_true rfl) (by decide) g7 dX6_chosen_63 (fun r8 => ?_)
      refine g_aload_n C dX6_chosen_64 0 rfl ?_
      refine gf_X6_15 C in_X6_chosen_X6 (List.mem_of_getElem? (i := 2) rfl) dX6_chosen_65 ?_
      refine g_iload_n C dX6_chosen_68 1 rfl ?_
      obtain ⟨g9, h⟩ := z_g h
      refine g_iald C ly_c67 (Nat.le_of_ble_eq_true rfl) (by decide) g9 dX6_chosen_69 (fun r10 => ?_)
      refine g_icmp_ge C 77 dX6_chosen_70 (by decide) r8 r10 (fun c11 => ?_) (fun c11 => ?_)
      · have h := z_f c11 h
        refine g_iload_n C dX6_chosen_77 1 rfl ?_
        refine g_istore_n C dX6_chosen_78 (by decide) (vs' := [(2, .int (Int32.ofInt x2)), (0, .ref (ad 58)), (3, .int (Int32.ofInt x3))]) rfl ?_
        refine g_iinc C dX6_chosen_79 (j := 2) rfl (by decide) (vs' := [(3, .int (Int32.ofInt (x3 + 1))), (2, .int (Int32.ofInt x2)), (0, .ref (ad 58))]) rfl ?_
        refine g_goto C 48 dX6_chosen_82 (by decide) ?_
        refine g_sub [2, 1, 0] rfl ?_
        exact ih _ _ hx2 (by omega) h
      · have h := z_t c11 h
        refine g_iload_n C dX6_chosen_73 2 rfl ?_
        refine g_goto C 78 dX6_chosen_74 (by decide) ?_
        refine g_istore_n C dX6_chosen_78 (by decide) (vs' := [(2, .int (Int32.ofInt x3)), (0, .ref (ad 58)), (3, .int (Int32.ofInt x3))]) rfl ?_
        refine g_iinc C dX6_chosen_79 (j := 2) rfl (by decide) (vs' := [(3, .int (Int32.ofInt (x3 + 1))), (2, .int (Int32.ofInt x3)), (0, .ref (ad 58))]) rfl ?_
        refine g_goto C 48 dX6_chosen_82 (by decide) ?_
        refine g_sub [2, 1, 0] rfl ?_
        exact ih _ _ hx3 (by omega) h
set_option maxHeartbeats 4000000 in
set_option maxRecDepth 100000 in
theorem c_X6_chosen (l : Launch) {σ : MM} (hM : okM σ) {a1 : Int} (ha1 : inR a1) {ro : Int} (h : X6_chosen a1 σ = some ro) : CtI l yX6_chosen wsX6_chosen { frames := 0, cells := 0, slots := 0, locals := 0 } (fun ad : Nat → Nat => [.ref (ad 58), .int (Int32.ofInt a1)]) σ 0 ro σ := by
  unfold X6_chosen at h
  refine z_ctI (cc := cX6_chosen) (maxL := 4) (rt := 0) hM (by decide) rfl (fun _ => Nat.le_of_ble_eq_true rfl) (@fun p e s m args below meth c D cy ad A Q C hR => ?_)
  refine g_sub (vs' := [(0, .ref (ad 58)), (1, .int (Int32.ofInt a1))]) [0, 1] rfl ?_
  refine g_aload_n C dX6_chosen_0 0 rfl ?_
  refine gf_X6_0 C in_X6_chosen_X6 (List.mem_of_getElem? (i := 1) rfl) dX6_chosen_1 ?_
  refine g_iconst C dX6_chosen_4 ?_
  refine g_iald C ly_c59 (Nat.le_of_ble_eq_true rfl) (by decide) (by decide) dX6_chosen_5 (fun r1 => ?_)
  refine g_if_ne C 18 dX6_chosen_6 (by decide) r1 (fun c2 => ?_) (fun c2 => ?_)
  · have h := z_f c2 h
    refine g_aload_n C dX6_chosen_18 0 rfl ?_
    refine gf_X6_0 C in_X6_chosen_X6 (List.mem_of_getElem? (i := 1) rfl) dX6_chosen_19 ?_
    refine g_iconst C dX6_chosen_22 ?_
    refine g_iald C ly_c59 (Nat.le_of_ble_eq_true rfl) (by decide) (by decide) dX6_chosen_23 (fun r3 => ?_)
    refine g_iconst C dX6_chosen_24 ?_
    refine g_icmp_ne C 44 dX6_chosen_25 (by decide) r3 (by decide) (fun c4 => ?_) (fun c4 => ?_)
    · have h := z_f c4 h
      refine g_iconst C dX6_chosen_44 ?_
      refine g_istore_n C dX6_chosen_45 (by decide) (vs' := [(2, .int (Int32.ofInt 0)), (0, .ref (ad 58)), (1, .int (Int32.ofInt a1))]) rfl ?_
      refine g_iconst C dX6_chosen_46 ?_
      refine g_istore_n C dX6_chosen_47 (by decide) (vs' := [(3, .int (Int32.ofInt 1)), (2, .int (Int32.ofInt 0)), (0, .ref (ad 58)), (1, .int (Int32.ofInt a1))]) rfl ?_
      refine g_sub [2, 1, 0] rfl ?_
      refine w_X6_chosen_L48 C hR ?_ _ _ _ (by decide) (by decide) h
      · intro z12 hz12 h
        refine g_iload_n C dX6_chosen_85 0 rfl ?_
        obtain rfl := z_s1 h
        exact hR _ _ dX6_chosen_86 hz12
    · have h := z_t c4 h
      refine g_iload_n C dX6_chosen_28 1 rfl ?_
      refine g_aload_n C dX6_chosen_29 0 rfl ?_
      refine gf_X6_0 C in_X6_chosen_X6 (List.mem_of_getElem? (i := 1) rfl) dX6_chosen_30 ?_
      refine g_iconst C dX6_chosen_33 ?_
      refine g_iald C ly_c59 (Nat.le_of_ble_eq_true rfl) (by decide) (by decide) dX6_chosen_34 (fun r13 => ?_)
      refine g_imul C dX6_chosen_35 ?_
      refine g_aload_n C dX6_chosen_36 0 rfl ?_
      refine gf_X6_0 C in_X6_chosen_X6 (List.mem_of_getElem? (i := 1) rfl) dX6_chosen_37 ?_
      refine g_iconst C dX6_chosen_40 ?_
      refine g_iald C ly_c59 (Nat.le_of_ble_eq_true rfl) (by decide) (by decide) dX6_chosen_41 (fun r14 => ?_)
      obtain ⟨g15, h⟩ := z_g h
      obtain ⟨g16, h⟩ := z_g h
      have r17 := zdivR g15 r14 g16
      refine g_idiv C g15 r14 g16 dX6_chosen_42 ?_
      obtain rfl := z_s1 h
      exact hR _ _ dX6_chosen_43 r17
  · have h := z_t c2 h
    refine g_iload_n C dX6_chosen_9 1 rfl ?_
    refine g_aload_n C dX6_chosen_10 0 rfl ?_
    refine gf_X6_0 C in_X6_chosen_X6 (List.mem_of_getElem? (i := 1) rfl) dX6_chosen_11 ?_
    refine g_iconst C dX6_chosen_14 ?_
    refine g_iald C ly_c59 (Nat.le_of_ble_eq_true rfl) (by decide) (by decide) dX6_chosen_15 (fun r18 => ?_)
    obtain ⟨g19, h⟩ := z_g h
    have r20 := zmodR ha1 r18 g19
    refine g_irem C ha1 r18 g19 dX6_chosen_16 ?_
    obtain rfl := z_s1 h
    exact hR _ _ dX6_chosen_17 r20
theorem in_X6_executes_X6 : ∀ w ∈ u_ws RX6 TX6 20, w ∈ wsX6_executes := fun _ h => List.mem_cons_of_mem _ (List.mem_append_right _ h)
set_option maxHeartbeats 4000000 in
set_option maxRecDepth 100000 in
theorem w_X6_executes_L11 {p : Program} {l : Launch} {e : Env} {s : State} {m : MethodId} {args : Array Value} {below : List Frame} {meth : Method} {c : Code} {D : va_G} {cy : Nat → ClassId} {ad : Nat → Nat} {A : Nat → Prop} {Q : State → Prop} (C : Cx p s m args meth c cX6_executes RX6 7 wsX6_executes D cy A) {x1 : Int} (hx1 : inR x1) {x2 : Int} (hx2 : inR x2) {x3 : Int} (hx3 : inR x3) {k105 : Int → MM → Option MM} {σo : MM} (hR : RetV p l e { frames := 4, cells := 0, slots := 0, locals := 85 } s m args below meth c cX6_executes 7 D cy ad A Q σo) (hk105 : ∀ (z4 : Int) (σ : MM), inR z4 → k105 z4 σ = some σo → G p l e { frames := 4, cells := 0, slots := 0, locals := 85 } s m args below meth c 7 D cy ad A Q 105 [(0, .ref (ad 58)), (1, .int (Int32.ofInt x1)), (2, .int (Int32.ofInt x2)), (3, .int (Int32.ofInt x3)), (4, .int (Int32.ofInt z4))] [] σ) : ∀ (n : Nat) (x4 x5 : Int) (σ : MM) , inR x4 → inR x5 → X6_executes_L11 x1 x2 x3 k105 n x4 x5 σ = some σo → G p l e { frames := 4, cells := 0, slots := 0, locals := 85 } s m args below meth c 7 D cy ad A Q 11 [(0, .ref (ad 58)), (1, .int (Int32.ofInt x1)), (2, .int (Int32.ofInt x2)), (3, .int (Int32.ofInt x3)), (4, .int (Int32.ofInt x4)), (5, .int (Int32.ofInt x5))] [] σ := by
  intro n
  induction n with
  | zero =>
    intro x4 x5 σ hx4 hx5 h
    cases h
  | succ n ih =>
    intro x4 x5 σ hx4 hx5 h
    rw [X6_executes_L11] at h
    refine g_iload C dX6_executes_11 5 rfl ?_
    refine g_aload_n C dX6_executes_13 0 rfl ?_
    refine gf_X6_0 C in_X6_executes_X6 (List.mem_of_getElem? (i := 2) rfl) dX6_executes_14 ?_
    refine g_iconst C dX6_executes_17 ?_
    refine g_iald C ly_c59 (Nat.le_of_ble_eq_true rfl) (by decide) (by decide) dX6_executes_18 (fun r3 => ?_)
    refine g_icmp_ge C 105 dX6_executes_19 (by decide) hx5 r3 (fun c4 => ?_) (fun c4 => ?_)
    · have h := z_f c4 h
      refine g_sub [0, 1, 2, 3, 4] rfl ?_
      exact hk105 _ _ hx4 h
    · have h := z_t c4 h
      refine g_aload_n C dX6_executes_22 0 rfl ?_
      refine g_iload C dX6_executes_23 5 rfl ?_
      obtain ⟨r5, e6, h⟩ := z_b h
      refine g_callI (n := 1) C (fun hM => c_X6_isSignal l hM hx5 e6) gX6_executes_X6_isSignal rfl (by decide) ⟨rfl, rfl⟩ ⟨Nat.le_of_ble_eq_true rfl, Nat.le_of_ble_eq_true rfl⟩ rfl ly_c58 (Nat.le_of_ble_eq_true rfl) rfl rfl (rest := []) rfl (Nat.le_of_ble_eq_true rfl) dX6_executes_25 (fun q7 => ?_)
      have q7 : r5 = 0 ∨ r5 = 1 := q7
      refine g_if_eq C 99 dX6_executes_28 (by decide) (rgT_inR (rt := 1) q7) (fun c8 => ?_) (fun c8 => ?_)
      · have h := z_t c8 h
        refine g_iinc C dX6_executes_99 (j := 5) rfl (by decide) (vs' := [(5, .int (Int32.ofInt (x5 + 1))), (0, .ref (ad 58)), (1, .int (Int32.ofInt x1)), (2, .int (Int32.ofInt x2)), (3, .int (Int32.ofInt x3)), (4, .int (Int32.ofInt x4))]) rfl ?_
        refine g_goto C 11 dX6_executes_102 (by decide) ?_
        refine g_sub [1, 2, 3, 4, 5, 0] rfl ?_
        exact ih _ _ _ hx4 (by omega) h
      · have h := z_f c8 h
        refine g_aload_n C dX6_executes_31 0 rfl ?_
        refine g_iload C dX6_executes_32 5 rfl ?_
        obtain ⟨r9, e10, h⟩ := z_b h
        refine g_callI (n := 1) C (fun hM => c_X6_target l hM hx5 e10) gX6_executes_X6_target rfl (by decide) ⟨rfl, rfl⟩ ⟨Nat.le_of_ble_eq_true rfl, Nat.le_of_ble_eq_true rfl⟩ rfl ly_c58 (Nat.le_of_ble_eq_true rfl) rfl rfl (rest := []) rfl (Nat.le_of_ble_eq_true rfl) dX6_executes_34 (fun q11 => ?_)
        have q11 : inR r9 := q11
        refine g_iload_n C dX6_executes_37 2 rfl ?_
        refine g_icmp_ne C 99 dX6_executes_38 (by decide) q11 hx2 (fun c12 => ?_) (fun c12 => ?_)
        · have h := z_f c12 h
          refine g_iinc C dX6_executes_99 (j := 5) rfl (by decide) (vs' := [(5, .int (Int32.ofInt (x5 + 1))), (0, .ref (ad 58)), (1, .int (Int32.ofInt x1)), (2, .int (Int32.ofInt x2)), (3, .int (Int32.ofInt x3)), (4, .int (Int32.ofInt x4))]) rfl ?_
          refine g_goto C 11 dX6_executes_102 (by decide) ?_
          refine g_sub [1, 2, 3, 4, 5, 0] rfl ?_
          exact ih _ _ _ hx4 (by omega) h
        · have h := z_t c12 h
          refine g_iload_n C dX6_executes_41 1 rfl ?_
          refine g_aload_n C dX6_executes_42 0 rfl ?_
          refine g_iload C dX6_executes_43 5 rfl ?_
          obtain ⟨r13, e14, h⟩ := z_b h
          refine g_callI (n := 1) C (fun hM => c_X6_far l hM hx5 e14) gX6_executes_X6_far rfl (by decide) ⟨rfl, rfl⟩ ⟨Nat.le_of_ble_eq_true rfl, Nat.le_of_ble_eq_true rfl⟩ rfl ly_c58 (Nat.le_of_ble_eq_true rfl) rfl rfl (rest := [.int (Int32.ofInt x1)]) rfl (Nat.le_of_ble_eq_true rfl) dX6_executes_45 (fun q15 => ?_)
          have q15 : inR r13 := q15
          refine g_icmp_lt C 99 dX6_executes_48 (by decide) hx1 q15 (fun c16 => ?_) (fun c16 => ?_)
          · have h := z_t c16 h
            refine g_iinc C dX6_executes_99 (j := 5) rfl (by decide) (vs' := [(5, .int (Int32.ofInt (x5 + 1))), (0, .ref (ad 58)), (1, .int (Int32.ofInt x1)), (2, .int (Int32.ofInt x2)), (3, .int (Int32.ofInt x3)), (4, .int (Int32.ofInt x4))]) rfl ?_
            refine g_goto C 11 dX6_executes_102 (by decide) ?_
            refine g_sub [1, 2, 3, 4, 5, 0] rfl ?_
            exact ih _ _ _ hx4 (by omega) h
          · have h := z_f c16 h
            refine g_aload_n C dX6_executes_51 0 rfl ?_
            refine gf_X6_13 C in_X6_executes_X6 (List.mem_of_getElem? (i := 3) rfl) dX6_executes_52 ?_
            refine g_bipush C dX6_executes_55 (by decide) ?_
            refine g_aload_n C dX6_executes_57 0 rfl ?_
            refine g_iload C dX6_executes_58 5 rfl ?_
            obtain ⟨r17, e18, h⟩ := z_b h
            refine g_callI (n := 1) C (fun hM => c_X6_source l hM hx5 e18) gX6_executes_X6_source rfl (by decide) ⟨rfl, rfl⟩ ⟨Nat.le_of_ble_eq_true rfl, Nat.le_of_ble_eq_true rfl⟩ rfl ly_c58 (Nat.le_of_ble_eq_true rfl) rfl rfl (rest := [.int (Int32.ofInt 40), .ref (ad 65)]) rfl (Nat.le_of_ble_eq_true rfl) dX6_executes_60 (fun q19 => ?_)
            have q19 : inR r17 := q19
            refine g_imul C dX6_executes_63 ?_
            refine g_iload_n C dX6_executes_64 1 rfl ?_
            refine g_iadd C dX6_executes_65 ?_
            refine g_aload_n C dX6_executes_66 0 rfl ?_
            refine g_iload C dX6_executes_67 5 rfl ?_
            obtain ⟨r20, e21, h⟩ := z_b h
            refine g_callI (n := 1) C (fun hM => c_X6_far l hM hx5 e21) gX6_executes_X6_far rfl (by decide) ⟨rfl, rfl⟩ ⟨Nat.le_of_ble_eq_true rfl, Nat.le_of_ble_eq_true rfl⟩ rfl ly_c58 (Nat.le_of_ble_eq_true rfl) rfl rfl (rest := [.int (Int32.ofInt ((40 * r17) + x1)), .ref (ad 65)]) rfl (Nat.le_of_ble_eq_true rfl) dX6_executes_69 (fun q22 => ?_)
            have q22 : inR r20 := q22
            refine g_isub C dX6_executes_72 ?_
            obtain ⟨g23, h⟩ := z_g h
            refine g_iald C ly_c65 (Nat.le_of_ble_eq_true rfl) (by decide) g23 dX6_executes_73 (fun r24 => ?_)
            refine g_aload_n C dX6_executes_74 0 rfl ?_
            refine g_iload C dX6_executes_75 5 rfl ?_
            obtain ⟨r25, e26, h⟩ := z_b h
            refine g_callI (n := 1) C (fun hM => c_X6_lag l hM hx5 e26) gX6_executes_X6_lag rfl (by decide) ⟨rfl, rfl⟩ ⟨Nat.le_of_ble_eq_true rfl, Nat.le_of_ble_eq_true rfl⟩ rfl ly_c58 (Nat.le_of_ble_eq_true rfl) rfl rfl (rest := [.int (Int32.ofInt (σ 65 (((40 * r17) + x1) - r20)))]) rfl (Nat.le_of_ble_eq_true rfl) dX6_executes_77 (fun q27 => ?_)
            have q27 : inR r25 := q27
            refine g_iadd C dX6_executes_80 ?_
            refine g_istore C dX6_executes_81 (by decide) (vs' := [(6, .int (Int32.ofInt ((σ 65 (((40 * r17) + x1) - r20)) + r25))), (0, .ref (ad 58)), (1, .int (Int32.ofInt x1)), (2, .int (Int32.ofInt x2)), (3, .int (Int32.ofInt x3)), (4, .int (Int32.ofInt x4)), (5, .int (Int32.ofInt x5))]) rfl ?_
            refine g_iload C dX6_executes_83 0 rfl ?_
            refine g_iload C dX6_executes_85 5 rfl ?_
            obtain ⟨g28, h⟩ := z_g h
            refine g_icmp_le C 95 dX6_executes_87 (by decide) g28 hx4 (fun c29 => ?_) (fun c29 => ?_)
            · have h := z_f c29 h
              refine g_iload C dX6_executes_95 5 rfl ?_
              refine g_istore C dX6_executes_97 (by decide) (vs' := [(4, .int (Int32.ofInt x4)), (6, .int (Int32.ofInt ((σ 65 (((40 * r17) + x1) - r20)) + r25))), (0, .ref (ad 58)), (1, .int (Int32.ofInt x1)), (2, .int (Int32.ofInt x2)), (3, .int (Int32.ofInt x3)), (5, .int (Int32.ofInt x5))]) rfl ?_
              refine g_iinc C dX6_executes_99 (j := 6) rfl (by decide) (vs' := [(5, .int (Int32.ofInt (x5 + 1))), (4, .int (Int32.ofInt x4)), (6, .int (Int32.ofInt ((σ 65 (((40 * r17) + x1) - r20)) + r25))), (0, .ref (ad 58)), (1, .int (Int32.ofInt x1)), (2, .int (Int32.ofInt x2)), (3, .int (Int32.ofInt x3))]) rfl ?_
              refine g_goto C 11 dX6_executes_102 (by decide) ?_
              refine g_sub [3, 4, 5, 6, 1, 0] rfl ?_
              exact ih _ _ _ hx4 (by omega) h
            · have h := z_t c29 h
              refine g_iload C dX6_executes_90 0 rfl ?_
              refine g_goto C 97 dX6_executes_92 (by decide) ?_
              refine g_istore C dX6_executes_97 (by decide) (vs' := [(4, .int (Int32.ofInt ((σ 65 (((40 * r17) + x1) - r20)) + r25))), (6, .int (Int32.ofInt ((σ 65 (((40 * r17) + x1) - r20)) + r25))), (0, .ref (ad 58)), (1, .int (Int32.ofInt x1)), (2, .int (Int32.ofInt x2)), (3, .int (Int32.ofInt x3)), (5, .int (Int32.ofInt x5))]) rfl ?_
              refine g_iinc C dX6_executes_99 (j := 6) rfl (by decide) (vs' := [(5, .int (Int32.ofInt (x5 + 1))), (4, .int (Int32.ofInt ((σ 65 (((40 * r17) + x1) - r20)) + r25))), (6, .int (Int32.ofInt ((σ 65 (((40 * r17) + x1) - r20)) + r25))), (0, .ref (ad 58)), (1, .int (Int32.ofInt x1)), (2, .int (Int32.ofInt x2)), (3, .int (Int32.ofInt x3))]) rfl ?_
              refine g_goto C 11 dX6_executes_102 (by decide) ?_
              refine g_sub [3, 4, 5, 6, 1, 0] rfl ?_
              exact ih _ _ _ g28 (by omega) h
set_option maxHeartbeats 4000000 in
set_option maxRecDepth 100000 in
theorem c_X6_executes (l : Launch) {σ : MM} (hM : okM σ) {a1 : Int} (ha1 : inR a1) {a2 : Int} (ha2 : inR a2) {a3 : Int} (ha3 : inR a3) {σo : MM} (h : X6_executes a1 a2 a3 σ = some σo) : CtV l yX6_executes wsX6_executes { frames := 4, cells := 0, slots := 0, locals := 85 } (fun ad : Nat → Nat => [.ref (ad 58), .int (Int32.ofInt a1), .int (Int32.ofInt a2), .int (Int32.ofInt a3)]) σ σo := by
  unfold X6_executes at h
  refine z_ctV (cc := cX6_executes) (maxL := 7) hM (by decide) rfl (fun _ => Nat.le_of_ble_eq_true rfl) (@fun p e s m args below meth c D cy ad A Q C hR => ?_)
  refine g_sub (vs' := [(0, .ref (ad 58)), (1, .int (Int32.ofInt a1)), (2, .int (Int32.ofInt a2)), (3, .int (Int32.ofInt a3))]) [0, 1, 2, 3] rfl ?_
  refine g_aload_n C dX6_executes_0 0 rfl ?_
  refine gf_X6_15 C in_X6_executes_X6 (List.mem_of_getElem? (i := 1) rfl) dX6_executes_1 ?_
  refine g_iload_n C dX6_executes_4 3 rfl ?_
  obtain ⟨g1, h⟩ := z_g h
  refine g_iald C ly_c67 (Nat.le_of_ble_eq_true rfl) (by decide) g1 dX6_executes_5 (fun r2 => ?_)
  refine g_istore C dX6_executes_6 (by decide) (vs' := [(4, .int (Int32.ofInt (σ 67 a3))), (0, .ref (ad 58)), (1, .int (Int32.ofInt a1)), (2, .int (Int32.ofInt a2)), (3, .int (Int32.ofInt a3))]) rfl ?_
  refine g_iconst C dX6_executes_8 ?_
  refine g_istore C dX6_executes_9 (by decide) (vs' := [(5, .int (Int32.ofInt 0)), (4, .int (Int32.ofInt (σ 67 a3))), (0, .ref (ad 58)), (1, .int (Int32.ofInt a1)), (2, .int (Int32.ofInt a2)), (3, .int (Int32.ofInt a3))]) rfl ?_
  refine g_sub [2, 3, 4, 5, 1, 0] rfl ?_
  refine w_X6_executes_L11 C ha1 ha2 ha3 hR ?_ _ _ _ _ r2 (by decide) h
  · intro z30 σ31 hz30 h
    refine g_aload_n C dX6_executes_105 0 rfl ?_
    refine gf_X6_13 C in_X6_executes_X6 (List.mem_of_getElem? (i := 3) rfl) dX6_executes_106 ?_
    refine g_bipush C dX6_executes_109 (by decide) ?_
    refine g_iload_n C dX6_executes_111 2 rfl ?_
    refine g_imul C dX6_executes_112 ?_
    refine g_iload_n C dX6_executes_113 1 rfl ?_
    refine g_iadd C dX6_executes_114 ?_
    refine g_iload C dX6_executes_115 4 rfl ?_
    obtain ⟨g32, h⟩ := z_g h
    refine g_iast C ly_c65 (Nat.le_of_ble_eq_true rfl) (by decide) g32 hz30 dX6_executes_117 ?_
    obtain ⟨σ33, e34, h⟩ := z_l h
    refine g_mem e34 ?_
    refine g_aload_n C dX6_executes_118 0 rfl ?_
    refine gf_X6_19 C in_X6_executes_X6 (List.mem_of_getElem? (i := 4) rfl) dX6_executes_119 ?_
    refine g_iload_n C dX6_executes_122 3 rfl ?_
    refine g_dup2 C dX6_executes_123 rfl rfl ?_
    refine g_iald C ly_c71 (Nat.le_of_ble_eq_true rfl) (by decide) (by omega) dX6_executes_124 (fun r35 => ?_)
    refine g_iload C dX6_executes_125 4 rfl ?_
    refine g_aload_n C dX6_executes_127 0 rfl ?_
    refine gf_X6_15 C in_X6_executes_X6 (List.mem_of_getElem? (i := 1) rfl) dX6_executes_128 ?_
    refine g_iload_n C dX6_executes_131 3 rfl ?_
    refine g_iald C ly_c67 (Nat.le_of_ble_eq_true rfl) (by decide) (by omega) dX6_executes_132 (fun r36 => ?_)
    refine g_isub C dX6_executes_133 ?_
    refine g_iadd C dX6_executes_134 ?_
    obtain ⟨g37, h⟩ := z_g h
    refine g_iast C ly_c71 (Nat.le_of_ble_eq_true rfl) (by decide) (by omega) g37 dX6_executes_135 ?_
    obtain ⟨σ38, e39, h⟩ := z_l h
    refine g_mem e39 ?_
    refine g_aload_n C dX6_executes_136 0 rfl ?_
    refine gf_X6_18 C in_X6_executes_X6 (List.mem_of_getElem? (i := 5) rfl) dX6_executes_137 ?_
    refine g_iload_n C dX6_executes_140 3 rfl ?_
    refine g_dup2 C dX6_executes_141 rfl rfl ?_
    refine g_iald C ly_c70 (Nat.le_of_ble_eq_true rfl) (by decide) (by omega) dX6_executes_142 (fun r40 => ?_)
    refine g_aload_n C dX6_executes_143 0 rfl ?_
    refine g_iload_n C dX6_executes_144 2 rfl ?_
    obtain ⟨r41, e42, h⟩ := z_b h
    refine g_callI (n := 1) C (fun hM => c_X6_cost l hM ha2 e42) gX6_executes_X6_cost rfl (by decide) ⟨rfl, rfl⟩ ⟨Nat.le_of_ble_eq_true rfl, Nat.le_of_ble_eq_true rfl⟩ rfl ly_c58 (Nat.le_of_ble_eq_true rfl) rfl rfl (rest := [.int (Int32.ofInt (σ38 70 a3)), .int (Int32.ofInt a3), .ref (ad 70)]) rfl (Nat.le_of_ble_eq_true rfl) dX6_executes_145 (fun q43 => ?_)
    have q43 : inR r41 := q43
    refine g_iadd C dX6_executes_148 ?_
    obtain ⟨g44, h⟩ := z_g h
    refine g_iast C ly_c70 (Nat.le_of_ble_eq_true rfl) (by decide) (by omega) g44 dX6_executes_149 ?_
    obtain ⟨σ45, e46, h⟩ := z_l h
    refine g_mem e46 ?_
    refine g_aload_n C dX6_executes_150 0 rfl ?_
    refine gf_X6_15 C in_X6_executes_X6 (List.mem_of_getElem? (i := 1) rfl) dX6_executes_151 ?_
    refine g_iload_n C dX6_executes_154 3 rfl ?_
    refine g_iload C dX6_executes_155 4 rfl ?_
    refine g_aload_n C dX6_executes_157 0 rfl ?_
    refine g_iload_n C dX6_executes_158 2 rfl ?_
    obtain ⟨r47, e48, h⟩ := z_b h
    refine g_callI (n := 1) C (fun hM => c_X6_cost l hM ha2 e48) gX6_executes_X6_cost rfl (by decide) ⟨rfl, rfl⟩ ⟨Nat.le_of_ble_eq_true rfl, Nat.le_of_ble_eq_true rfl⟩ rfl ly_c58 (Nat.le_of_ble_eq_true rfl) rfl rfl (rest := [.int (Int32.ofInt z30), .int (Int32.ofInt a3), .ref (ad 67)]) rfl (Nat.le_of_ble_eq_true rfl) dX6_executes_159 (fun q49 => ?_)
    have q49 : inR r47 := q49
    refine g_iadd C dX6_executes_162 ?_
    obtain ⟨g50, h⟩ := z_g h
    refine g_iast C ly_c67 (Nat.le_of_ble_eq_true rfl) (by decide) (by omega) g50 dX6_executes_163 ?_
    obtain ⟨σ51, e52, h⟩ := z_l h
    refine g_mem e52 ?_
    obtain rfl := z_s1 h
    exact hR _ _ dX6_executes_164
theorem in_X6_runs_X6 : ∀ w ∈ u_ws RX6 TX6 20, w ∈ wsX6_runs := fun _ h => List.mem_cons_of_mem _ (List.mem_append_right _ h)
set_option maxHeartbeats 4000000 in
set_option maxRecDepth 100000 in
theorem w_X6_runs_L2 {p : Program} {l : Launch} {e : Env} {s : State} {m : MethodId} {args : Array Value} {below : List Frame} {meth : Method} {c : Code} {D : va_G} {cy : Nat → ClassId} {ad : Nat → Nat} {A : Nat → Prop} {Q : State → Prop} (C : Cx p s m args meth c cX6_runs RX6 4 wsX6_runs D cy A) {k49 : MM → Option (Int × MM)} {ro : Int} {σo : MM} (hR : RetI p l e { frames := 5, cells := 0, slots := 0, locals := 111 } s m args below meth c cX6_runs 4 D cy ad A Q 0 ro σo) (hk49 : ∀  (σ : MM), k49 σ = some (ro, σo) → G p l e { frames := 5, cells := 0, slots := 0, locals := 111 } s m args below meth c 4 D cy ad A Q 49 [(0, .ref (ad 58))] [] σ) : ∀ (n : Nat) (x1 : Int) (σ : MM) , inR x1 → X6_runs_L2 k49 n x1 σ = some (ro, σo) → G p l e { frames := 5, cells := 0, slots := 0, locals := 111 } s m args below meth c 4 D cy ad A Q 2 [(0, .ref (ad 58)), (1, .int (Int32.ofInt x1))] [] σ := by
  intro n
  induction n with
  | zero =>
    intro x1 σ hx1 h
    cases h
  | succ n ih =>
    intro x1 σ hx1 h
    rw [X6_runs_L2] at h
    refine g_iload_n C dX6_runs_2 1 rfl ?_
    refine g_bipush C dX6_runs_3 (by decide) ?_
    refine g_icmp_ge C 49 dX6_runs_5 (by decide) hx1 (by decide) (fun c1 => ?_) (fun c1 => ?_)
    · have h := z_f c1 h
      refine g_sub [0] rfl ?_
      exact hk49 _ h
    · have h := z_t c1 h
      refine g_aload_n C dX6_runs_8 0 rfl ?_
      refine gf_X6_15 C in_X6_runs_X6 (List.mem_of_getElem? (i := 1) rfl) dX6_runs_9 ?_
      refine g_iload_n C dX6_runs_12 1 rfl ?_
      refine g_iconst C dX6_runs_13 ?_
      obtain ⟨g2, h⟩ := z_g h
      refine g_iast C ly_c67 (Nat.le_of_ble_eq_true rfl) (by decide) g2 (by decide) dX6_runs_14 ?_
      obtain ⟨σ3, e4, h⟩ := z_l h
      refine g_mem e4 ?_
      refine g_aload_n C dX6_runs_15 0 rfl ?_
      refine gf_X6_16 C in_X6_runs_X6 (List.mem_of_getElem? (i := 2) rfl) dX6_runs_16 ?_
      refine g_iload_n C dX6_runs_19 1 rfl ?_
      refine g_iconst C dX6_runs_20 ?_
      refine g_iast C ly_c68 (Nat.le_of_ble_eq_true rfl) (by decide) (by omega) (by decide) dX6_runs_21 ?_
      obtain ⟨σ5, e6, h⟩ := z_l h
      refine g_mem e6 ?_
      refine g_aload_n C dX6_runs_22 0 rfl ?_
      refine gf_X6_17 C in_X6_runs_X6 (List.mem_of_getElem? (i := 3) rfl) dX6_runs_23 ?_
      refine g_iload_n C dX6_runs_26 1 rfl ?_
      refine g_iconst C dX6_runs_27 ?_
      refine g_iast C ly_c69 (Nat.le_of_ble_eq_true rfl) (by decide) (by omega) (by decide) dX6_runs_28 ?_
      obtain ⟨σ7, e8, h⟩ := z_l h
      refine g_mem e8 ?_
      refine g_aload_n C dX6_runs_29 0 rfl ?_
      refine gf_X6_18 C in_X6_runs_X6 (List.mem_of_getElem? (i := 4) rfl) dX6_runs_30 ?_
      refine g_iload_n C dX6_runs_33 1 rfl ?_
      refine g_iconst C dX6_runs_34 ?_
      refine g_iast C ly_c70 (Nat.le_of_ble_eq_true rfl) (by decide) (by omega) (by decide) dX6_runs_35 ?_
      obtain ⟨σ9, e10, h⟩ := z_l h
      refine g_mem e10 ?_
      refine g_aload_n C dX6_runs_36 0 rfl ?_
      refine gf_X6_19 C in_X6_runs_X6 (List.mem_of_getElem? (i := 5) rfl) dX6_runs_37 ?_
      refine g_iload_n C dX6_runs_40 1 rfl ?_
      refine g_iconst C dX6_runs_41 ?_
      refine g_iast C ly_c71 (Nat.le_of_ble_eq_true rfl) (by decide) (by omega) (by decide) dX6_runs_42 ?_
      obtain ⟨σ11, e12, h⟩ := z_l h
      refine g_mem e12 ?_
      refine g_iinc C dX6_runs_43 (j := 1) rfl (by decide) (vs' := [(1, .int (Int32.ofInt (x1 + 1))), (0, .ref (ad 58))]) rfl ?_
      refine g_goto C 2 dX6_runs_46 (by decide) ?_
      refine g_sub [1, 0] rfl ?_
      exact ih _ _ (by omega) h
set_option maxHeartbeats 4000000 in
set_option maxRecDepth 100000 in
theorem w_X6_runs_L86 {p : Program} {l : Launch} {e : Env} {s : State} {m : MethodId} {args : Array Value} {below : List Frame} {meth : Method} {c : Code} {D : va_G} {cy : Nat → ClassId} {ad : Nat → Nat} {A : Nat → Prop} {Q : State → Prop} (C : Cx p s m args meth c cX6_runs RX6 4 wsX6_runs D cy A) {x1 : Int} (hx1 : inR x1) {x2 : Int} (hx2 : inR x2) {k158 : MM → Option (Int × MM)} {ro : Int} {σo : MM} (hR : RetI p l e { frames := 5, cells := 0, slots := 0, locals := 111 } s m args below meth c cX6_runs 4 D cy ad A Q 0 ro σo) (hk158 : ∀  (σ : MM), k158 σ = some (ro, σo) → G p l e { frames := 5, cells := 0, slots := 0, locals := 111 } s m args below meth c 4 D cy ad A Q 158 [(0, .ref (ad 58)), (1, .int (Int32.ofInt x1))] [] σ) : ∀ (n : Nat) (x3 : Int) (σ : MM) , inR x3 → X6_runs_L86 x1 x2 k158 n x3 σ = some (ro, σo) → G p l e { frames := 5, cells := 0, slots := 0, locals := 111 } s m args below meth c 4 D cy ad A Q 86 [(0, .ref (ad 58)), (1, .int (Int32.ofInt x1)), (2, .int (Int32.ofInt x2)), (3, .int (Int32.ofInt x3))] [] σ := by
  intro n
  induction n with
  | zero =>
    intro x3 σ hx3 h
    cases h
  | succ n ih =>
    intro x3 σ hx3 h
    rw [X6_runs_L86] at h
    refine g_iload_n C dX6_runs_86 3 rfl ?_
    refine g_aload_n C dX6_runs_87 0 rfl ?_
    refine gf_X6_0 C in_X6_runs_X6 (List.mem_of_getElem? (i := 6) rfl) dX6_runs_88 ?_
    refine g_iconst C dX6_runs_91 ?_
    refine g_iald C ly_c59 (Nat.le_of_ble_eq_true rfl) (by decide) (by decide) dX6_runs_92 (fun r27 => ?_)
    refine g_icmp_ge C 158 dX6_runs_93 (by decide) hx3 r27 (fun c28 => ?_) (fun c28 => ?_)
    · have h := z_f c28 h
      refine g_sub [0, 1] rfl ?_
      exact hk158 _ h
    · have h := z_t c28 h
      refine g_aload_n C dX6_runs_96 0 rfl ?_
      refine g_iload_n C dX6_runs_97 1 rfl ?_
      refine g_aload_n C dX6_runs_98 0 rfl ?_
      refine gf_X6_0 C in_X6_runs_X6 (List.mem_of_getElem? (i := 6) rfl) dX6_runs_99 ?_
      refine g_bipush C dX6_runs_102 (by decide) ?_
      refine g_iload_n C dX6_runs_104 3 rfl ?_
      refine g_iadd C dX6_runs_105 ?_
      obtain ⟨g29, h⟩ := z_g h
      refine g_iald C ly_c59 (Nat.le_of_ble_eq_true rfl) (by decide) g29 dX6_runs_106 (fun r30 => ?_)
      refine g_iload_n C dX6_runs_107 2 rfl ?_
      obtain ⟨σ33, e32, h⟩ := z_b h
      refine g_callV (n := 3) C (fun hM => c_X6_executes l hM hx1 r30 hx2 e32) gX6_runs_X6_executes rfl (by decide) ⟨rfl, rfl⟩ ⟨Nat.le_of_ble_eq_true rfl, Nat.le_of_ble_eq_true rfl⟩ rfl ly_c58 (Nat.le_of_ble_eq_true rfl) rfl rfl (rest := []) rfl (Nat.le_of_ble_eq_true rfl) dX6_runs_108 ?_
      refine g_aload_n C dX6_runs_111 0 rfl ?_
      refine gf_X6_16 C in_X6_runs_X6 (List.mem_of_getElem? (i := 2) rfl) dX6_runs_112 ?_
      refine g_iload_n C dX6_runs_115 2 rfl ?_
      refine g_aload_n C dX6_runs_116 0 rfl ?_
      refine gf_X6_16 C in_X6_runs_X6 (List.mem_of_getElem? (i := 2) rfl) dX6_runs_117 ?_
      refine g_iload_n C dX6_runs_120 2 rfl ?_
      obtain ⟨g34, h⟩ := z_g h
      refine g_iald C ly_c68 (Nat.le_of_ble_eq_true rfl) (by decide) g34 dX6_runs_121 (fun r35 => ?_)
      refine g_if_ge C 145 dX6_runs_122 (by decide) r35 (fun c36 => ?_) (fun c36 => ?_)
      · have h := z_f c36 h
        refine g_aload_n C dX6_runs_145 0 rfl ?_
        refine gf_X6_16 C in_X6_runs_X6 (List.mem_of_getElem? (i := 2) rfl) dX6_runs_146 ?_
        refine g_iload_n C dX6_runs_149 2 rfl ?_
        refine g_iald C ly_c68 (Nat.le_of_ble_eq_true rfl) (by decide) (by omega) dX6_runs_150 (fun r37 => ?_)
        refine g_iast C ly_c68 (Nat.le_of_ble_eq_true rfl) (by decide) (by omega) r37 dX6_runs_151 ?_
        obtain ⟨σ38, e39, h⟩ := z_l h
        refine g_mem e39 ?_
        refine g_iinc C dX6_runs_152 (j := 3) rfl (by decide) (vs' := [(3, .int (Int32.ofInt (x3 + 1))), (0, .ref (ad 58)), (1, .int (Int32.ofInt x1)), (2, .int (Int32.ofInt x2))]) rfl ?_
        refine g_goto C 86 dX6_runs_155 (by decide) ?_
        refine g_sub [1, 2, 3, 0] rfl ?_
        exact ih _ _ (by omega) h
      · have h := z_t c36 h
        refine g_aload_n C dX6_runs_125 0 rfl ?_
        refine gf_X6_13 C in_X6_runs_X6 (List.mem_of_getElem? (i := 8) rfl) dX6_runs_126 ?_
        refine g_bipush C dX6_runs_129 (by decide) ?_
        refine g_aload_n C dX6_runs_131 0 rfl ?_
        refine gf_X6_0 C in_X6_runs_X6 (List.mem_of_getElem? (i := 6) rfl) dX6_runs_132 ?_
        refine g_bipush C dX6_runs_135 (by decide) ?_
        refine g_iald C ly_c59 (Nat.le_of_ble_eq_true rfl) (by decide) (by decide) dX6_runs_137 (fun r40 => ?_)
        refine g_imul C dX6_runs_138 ?_
        refine g_iload_n C dX6_runs_139 1 rfl ?_
        refine g_iadd C dX6_runs_140 ?_
        obtain ⟨g41, h⟩ := z_g h
        refine g_iald C ly_c65 (Nat.le_of_ble_eq_true rfl) (by decide) g41 dX6_runs_141 (fun r42 => ?_)
        refine g_goto C 151 dX6_runs_142 (by decide) ?_
        refine g_iast C ly_c68 (Nat.le_of_ble_eq_true rfl) (by decide) (by omega) r42 dX6_runs_151 ?_
        obtain ⟨σ43, e44, h⟩ := z_l h
        refine g_mem e44 ?_
        refine g_iinc C dX6_runs_152 (j := 3) rfl (by decide) (vs' := [(3, .int (Int32.ofInt (x3 + 1))), (0, .ref (ad 58)), (1, .int (Int32.ofInt x1)), (2, .int (Int32.ofInt x2))]) rfl ?_
        refine g_goto C 86 dX6_runs_155 (by decide) ?_
        refine g_sub [1, 2, 3, 0] rfl ?_
        exact ih _ _ (by omega) h
set_option maxHeartbeats 4000000 in
set_option maxRecDepth 100000 in
theorem w_X6_runs_L51 {p : Program} {l : Launch} {e : Env} {s : State} {m : MethodId} {args : Array Value} {below : List Frame} {meth : Method} {c : Code} {D : va_G} {cy : Nat → ClassId} {ad : Nat → Nat} {A : Nat → Prop} {Q : State → Prop} (C : Cx p s m args meth c cX6_runs RX6 4 wsX6_runs D cy A) {k164 : MM → Option (Int × MM)} {ro : Int} {σo : MM} (hR : RetI p l e { frames := 5, cells := 0, slots := 0, locals := 111 } s m args below meth c cX6_runs 4 D cy ad A Q 0 ro σo) (hk164 : ∀  (σ : MM), k164 σ = some (ro, σo) → G p l e { frames := 5, cells := 0, slots := 0, locals := 111 } s m args below meth c 4 D cy ad A Q 164 [(0, .ref (ad 58))] [] σ) : ∀ (n : Nat) (x1 : Int) (σ : MM) , inR x1 → X6_runs_L51 k164 n x1 σ = some (ro, σo) → G p l e { frames := 5, cells := 0, slots := 0, locals := 111 } s m args below meth c 4 D cy ad A Q 51 [(0, .ref (ad 58)), (1, .int (Int32.ofInt x1))] [] σ := by
  intro n
  induction n with
  | zero =>
    intro x1 σ hx1 h
    cases h
  | succ n ih =>
    intro x1 σ hx1 h
    rw [X6_runs_L51] at h
    refine g_iload_n C dX6_runs_51 1 rfl ?_
    refine g_aload_n C dX6_runs_52 0 rfl ?_
    refine gf_X6_0 C in_X6_runs_X6 (List.mem_of_getElem? (i := 6) rfl) dX6_runs_53 ?_
    refine g_iconst C dX6_runs_56 ?_
    refine g_iald C ly_c59 (Nat.le_of_ble_eq_true rfl) (by decide) (by decide) dX6_runs_57 (fun r14 => ?_)
    refine g_icmp_ge C 164 dX6_runs_58 (by decide) hx1 r14 (fun c15 => ?_) (fun c15 => ?_)
    · have h := z_f c15 h
      refine g_sub [0] rfl ?_
      exact hk164 _ h
    · have h := z_t c15 h
      refine g_aload_n C dX6_runs_61 0 rfl ?_
      refine g_iload_n C dX6_runs_62 1 rfl ?_
      obtain ⟨r16, e17, h⟩ := z_b h
      refine g_callI (n := 1) C (fun hM => c_X6_chosen l hM hx1 e17) gX6_runs_X6_chosen rfl (by decide) ⟨rfl, rfl⟩ ⟨Nat.le_of_ble_eq_true rfl, Nat.le_of_ble_eq_true rfl⟩ rfl ly_c58 (Nat.le_of_ble_eq_true rfl) rfl rfl (rest := []) rfl (Nat.le_of_ble_eq_true rfl) dX6_runs_63 (fun q18 => ?_)
      have q18 : inR r16 := q18
      refine g_istore_n C dX6_runs_66 (by decide) (vs' := [(2, .int (Int32.ofInt r16)), (0, .ref (ad 58)), (1, .int (Int32.ofInt x1))]) rfl ?_
      refine g_aload_n C dX6_runs_67 1 rfl ?_
      refine gf_X6_14 C in_X6_runs_X6 (List.mem_of_getElem? (i := 7) rfl) dX6_runs_68 ?_
      refine g_iload_n C dX6_runs_71 2 rfl ?_
      refine g_iload_n C dX6_runs_72 0 rfl ?_
      obtain ⟨g19, h⟩ := z_g h
      refine g_iast C ly_c66 (Nat.le_of_ble_eq_true rfl) (by decide) g19 q18 dX6_runs_73 ?_
      obtain ⟨σ20, e21, h⟩ := z_l h
      refine g_mem e21 ?_
      refine g_aload_n C dX6_runs_74 1 rfl ?_
      refine gf_X6_17 C in_X6_runs_X6 (List.mem_of_getElem? (i := 3) rfl) dX6_runs_75 ?_
      refine g_iload_n C dX6_runs_78 0 rfl ?_
      refine g_dup2 C dX6_runs_79 rfl rfl ?_
      obtain ⟨g22, h⟩ := z_g h
      refine g_iald C ly_c69 (Nat.le_of_ble_eq_true rfl) (by decide) g22 dX6_runs_80 (fun r23 => ?_)
      refine g_iconst C dX6_runs_81 ?_
      refine g_iadd C dX6_runs_82 ?_
      obtain ⟨g24, h⟩ := z_g h
      refine g_iast C ly_c69 (Nat.le_of_ble_eq_true rfl) (by decide) (by omega) g24 dX6_runs_83 ?_
      obtain ⟨σ25, e26, h⟩ := z_l h
      refine g_mem e26 ?_
      refine g_iconst C dX6_runs_84 ?_
      refine g_istore_n C dX6_runs_85 (by decide) (vs' := [(3, .int (Int32.ofInt 0)), (2, .int (Int32.ofInt r16)), (0, .ref (ad 58)), (1, .int (Int32.ofInt x1))]) rfl ?_
      refine g_sub [2, 3, 1, 0] rfl ?_
      refine w_X6_runs_L86 C hx1 q18 hR ?_ _ _ _ (by decide) h
      · intro σ45 h
        refine g_iinc C dX6_runs_158 (j := 1) rfl (by decide) (vs' := [(1, .int (Int32.ofInt (x1 + 1))), (0, .ref (ad 58))]) rfl ?_
        refine g_goto C 51 dX6_runs_161 (by decide) ?_
        refine g_sub [1, 0] rfl ?_
        exact ih _ _ (by omega) h
set_option maxHeartbeats 4000000 in
set_option maxRecDepth 100000 in
theorem w_X6_runs_L168 {p : Program} {l : Launch} {e : Env} {s : State} {m : MethodId} {args : Array Value} {below : List Frame} {meth : Method} {c : Code} {D : va_G} {cy : Nat → ClassId} {ad : Nat → Nat} {A : Nat → Prop} {Q : State → Prop} (C : Cx p s m args meth c cX6_runs RX6 4 wsX6_runs D cy A) {k201 : Int → MM → Option (Int × MM)} {ro : Int} {σo : MM} (hR : RetI p l e { frames := 5, cells := 0, slots := 0, locals := 111 } s m args below meth c cX6_runs 4 D cy ad A Q 0 ro σo) (hk201 : ∀ (z1 : Int) (σ : MM), inR z1 → k201 z1 σ = some (ro, σo) → G p l e { frames := 5, cells := 0, slots := 0, locals := 111 } s m args below meth c 4 D cy ad A Q 201 [(1, .int (Int32.ofInt z1))] [] σ) : ∀ (n : Nat) (x1 x2 : Int) (σ : MM) , inR x1 → inR x2 → X6_runs_L168 k201 n x1 x2 σ = some (ro, σo) → G p l e { frames := 5, cells := 0, slots := 0, locals := 111 } s m args below meth c 4 D cy ad A Q 168 [(0, .ref (ad 58)), (1, .int (Int32.ofInt x1)), (2, .int (Int32.ofInt x2))] [] σ := by
  intro n
  induction n with
  | zero =>
    intro x1 x2 σ hx1 hx2 h
    cases h
  | succ n ih =>
    intro x1 x2 σ hx1 hx2 h
    rw [X6_runs_L168] at h
    refine g_iload_n C dX6_runs_168 2 rfl ?_
    refine g_bipush C dX6_runs_169 (by decide) ?_
    refine g_icmp_ge C 201 dX6_runs_171 (by decide) hx2 (by decide) (fun c47 => ?_) (fun c47 => ?_)
    · have h := z_f c47 h
      refine g_sub [1] rfl ?_
      exact hk201 _ _ hx1 h
    · have h := z_t c47 h
      refine g_aload_n C dX6_runs_174 0 rfl ?_
      refine gf_X6_15 C in_X6_runs_X6 (List.mem_of_getElem? (i := 1) rfl) dX6_runs_175 ?_
      refine g_iload_n C dX6_runs_178 2 rfl ?_
      obtain ⟨g48, h⟩ := z_g h
      refine g_iald C ly_c67 (Nat.le_of_ble_eq_true rfl) (by decide) g48 dX6_runs_179 (fun r49 => ?_)
      refine g_iload_n C dX6_runs_180 1 rfl ?_
      refine g_icmp_le C 193 dX6_runs_181 (by decide) r49 hx1 (fun c50 => ?_) (fun c50 => ?_)
      · have h := z_f c50 h
        refine g_iload_n C dX6_runs_193 1 rfl ?_
        refine g_istore_n C dX6_runs_194 (by decide) (vs' := [(1, .int (Int32.ofInt x1)), (0, .ref (ad 58)), (2, .int (Int32.ofInt x2))]) rfl ?_
        refine g_iinc C dX6_runs_195 (j := 2) rfl (by decide) (vs' := [(2, .int (Int32.ofInt (x2 + 1))), (1, .int (Int32.ofInt x1)), (0, .ref (ad 58))]) rfl ?_
        refine g_goto C 168 dX6_runs_198 (by decide) ?_
        refine g_sub [2, 1, 0] rfl ?_
        exact ih _ _ _ hx1 (by omega) h
      · have h := z_t c50 h
        refine g_aload_n C dX6_runs_184 0 rfl ?_
        refine gf_X6_15 C in_X6_runs_X6 (List.mem_of_getElem? (i := 1) rfl) dX6_runs_185 ?_
        refine g_iload_n C dX6_runs_188 2 rfl ?_
        refine g_iald C ly_c67 (Nat.le_of_ble_eq_true rfl) (by decide) (by omega) dX6_runs_189 (fun r51 => ?_)
        refine g_goto C 194 dX6_runs_190 (by decide) ?_
        refine g_istore_n C dX6_runs_194 (by decide) (vs' := [(1, .int (Int32.ofInt (σ 67 x2))), (0, .ref (ad 58)), (2, .int (Int32.ofInt x2))]) rfl ?_
        refine g_iinc C dX6_runs_195 (j := 2) rfl (by decide) (vs' := [(2, .int (Int32.ofInt (x2 + 1))), (1, .int (Int32.ofInt (σ 67 x2))), (0, .ref (ad 58))]) rfl ?_
        refine g_goto C 168 dX6_runs_198 (by decide) ?_
        refine g_sub [2, 1, 0] rfl ?_
        exact ih _ _ _ r51 (by omega) h
set_option maxHeartbeats 4000000 in
set_option maxRecDepth 100000 in
theorem c_X6_runs (l : Launch) {σ : MM} (hM : okM σ) {ro : Int} {σo : MM} (h : X6_runs σ = some (ro, σo)) : CtI l yX6_runs wsX6_runs { frames := 5, cells := 0, slots := 0, locals := 111 } (fun ad : Nat → Nat => [.ref (ad 58)]) σ 0 ro σo := by
  unfold X6_runs at h
  refine z_ctI (cc := cX6_runs) (maxL := 4) (rt := 0) hM (by decide) rfl (fun _ => Nat.le_of_ble_eq_true rfl) (@fun p e s m args below meth c D cy ad A Q C hR => ?_)
  refine g_sub (vs' := [(0, .ref (ad 58))]) [0] rfl ?_
  refine g_iconst C dX6_runs_0 ?_
  refine g_istore_n C dX6_runs_1 (by decide) (vs' := [(1, .int (Int32.ofInt 0)), (0, .ref (ad 58))]) rfl ?_
  refine g_sub [1, 0] rfl ?_
  refine w_X6_runs_L2 C hR ?_ _ _ _ (by decide) h
  · intro σ13 h
    refine g_iconst C dX6_runs_49 ?_
    refine g_istore_n C dX6_runs_50 (by decide) (vs' := [(1, .int (Int32.ofInt 0)), (0, .ref (ad 58))]) rfl ?_
    refine g_sub [1, 0] rfl ?_
    refine w_X6_runs_L51 C hR ?_ _ _ _ (by decide) h
    · intro σ46 h
      refine g_iconst C dX6_runs_164 ?_
      refine g_istore_n C dX6_runs_165 (by decide) (vs' := [(1, .int (Int32.ofInt 0)), (0, .ref (ad 58))]) rfl ?_
      refine g_iconst C dX6_runs_166 ?_
      refine g_istore_n C dX6_runs_167 (by decide) (vs' := [(2, .int (Int32.ofInt 0)), (1, .int (Int32.ofInt 0)), (0, .ref (ad 58))]) rfl ?_
      refine g_sub [2, 1, 0] rfl ?_
      refine w_X6_runs_L168 C hR ?_ _ _ _ _ (by decide) (by decide) h
      · intro z52 σ53 hz52 h
        refine g_iload_n C dX6_runs_201 0 rfl ?_
        obtain ⟨rfl, rfl⟩ := z_s2 h
        exact hR _ _ dX6_runs_202 hz52
theorem in_X6_length_X6 : ∀ w ∈ u_ws RX6 TX6 20, w ∈ wsX6_length := fun _ h => List.mem_cons_of_mem _ (List.mem_append_right _ h)
set_option maxHeartbeats 4000000 in
set_option maxRecDepth 100000 in
theorem c_X6_length (l : Launch) {σ : MM} (hM : okM σ) {ro : Int} {σo : MM} (h : X6_length σ = some (ro, σo)) : CtI l yX6_length wsX6_length { frames := 6, cells := 0, slots := 0, locals := 134 } (fun ad : Nat → Nat => [.ref (ad 58)]) σ 0 ro σo := by
  unfold X6_length at h
  refine z_ctI (cc := cX6_length) (maxL := 1) (rt := 0) hM (by decide) rfl (fun _ => Nat.le_of_ble_eq_true rfl) (@fun p e s m args below meth c D cy ad A Q C hR => ?_)
  refine g_sub (vs' := [(0, .ref (ad 58))]) [0] rfl ?_
  refine g_aload_n C dX6_length_0 0 rfl ?_
  refine g_iconst C dX6_length_1 ?_
  refine gp_X6_3 C in_X6_length_X6 (List.mem_of_getElem? (i := 1) rfl) (by decide) dX6_length_2 ?_
  obtain ⟨σ1, e2, h⟩ := z_l h
  refine g_mem e2 ?_
  refine g_aload_n C dX6_length_5 0 rfl ?_
  obtain ⟨⟨r3, σ5⟩, e4, h⟩ := z_b h
  refine g_callI (n := 0) C (fun hM => c_X6_runs l hM  e4) gX6_length_X6_runs rfl (by decide) ⟨rfl, rfl⟩ ⟨Nat.le_of_ble_eq_true rfl, Nat.le_of_ble_eq_true rfl⟩ rfl ly_c58 (Nat.le_of_ble_eq_true rfl) rfl rfl (rest := []) rfl (Nat.le_of_ble_eq_true rfl) dX6_length_6 (fun q6 => ?_)
  have q6 : inR r3 := q6
  obtain ⟨rfl, rfl⟩ := z_s2 h
  exact hR _ _ dX6_length_9 q6
theorem in_X6_isTurn_X6 : ∀ w ∈ u_ws RX6 TX6 20, w ∈ wsX6_isTurn := fun _ h => List.mem_cons_of_mem _ (List.mem_append_right _ h)
set_option maxHeartbeats 4000000 in
set_option maxRecDepth 100000 in
theorem c_X6_isTurn (l : Launch) {σ : MM} (hM : okM σ) {a1 : Int} (ha1 : inR a1) {ro : Int} (h : X6_isTurn a1 σ = some ro) : CtI l yX6_isTurn wsX6_isTurn { frames := 1, cells := 0, slots := 0, locals := 22 } (fun ad : Nat → Nat => [.ref (ad 58), .int (Int32.ofInt a1)]) σ 1 ro σ := by
  unfold X6_isTurn at h
  refine z_ctI (cc := cX6_isTurn) (maxL := 2) (rt := 1) hM (by decide) rfl (fun _ => Nat.le_of_ble_eq_true rfl) (@fun p e s m args below meth c D cy ad A Q C hR => ?_)
  refine g_sub (vs' := [(0, .ref (ad 58)), (1, .int (Int32.ofInt a1))]) [0, 1] rfl ?_
  refine g_iload_n C dX6_isTurn_0 1 rfl ?_
  refine g_iconst C dX6_isTurn_1 ?_
  refine g_aload_n C dX6_isTurn_2 0 rfl ?_
  refine gf_X6_0 C in_X6_isTurn_X6 (List.mem_of_getElem? (i := 1) rfl) dX6_isTurn_3 ?_
  refine g_iconst C dX6_isTurn_6 ?_
  refine g_iald C ly_c59 (Nat.le_of_ble_eq_true rfl) (by decide) (by decide) dX6_isTurn_7 (fun r1 => ?_)
  refine g_iconst C dX6_isTurn_8 ?_
  refine g_isub C dX6_isTurn_9 ?_
  obtain ⟨g2, h⟩ := z_g h
  obtain ⟨r3, e4, h⟩ := z_b h
  refine g_callS (n := 3) C (fun hM => c_X6_in l hM ha1 (by decide) g2 e4) gX6_isTurn_X6_in rfl (by decide) ⟨rfl, rfl⟩ ⟨Nat.le_of_ble_eq_true rfl, Nat.le_of_ble_eq_true rfl⟩ rfl rfl (rest := []) rfl (Nat.le_of_ble_eq_true rfl) dX6_isTurn_10 (fun q5 => ?_)
  have q5 : r3 = 0 ∨ r3 = 1 := q5
  obtain rfl := z_s1 h
  exact hR _ _ dX6_isTurn_13 q5
theorem in_X6_start_X6 : ∀ w ∈ u_ws RX6 TX6 20, w ∈ wsX6_start := fun _ h => List.mem_cons_of_mem _ (List.mem_append_right _ h)
set_option maxHeartbeats 4000000 in
set_option maxRecDepth 100000 in
theorem c_X6_start (l : Launch) {σ : MM} (hM : okM σ) {a1 : Int} (ha1 : inR a1) {a2 : Int} (ha2 : inR a2) {ro : Int} {σo : MM} (h : X6_start a1 a2 σ = some (ro, σo)) : CtI l yX6_start wsX6_start { frames := 6, cells := 0, slots := 0, locals := 134 } (fun ad : Nat → Nat => [.ref (ad 58), .int (Int32.ofInt a1), .int (Int32.ofInt a2)]) σ 0 ro σo := by
  unfold X6_start at h
  refine z_ctI (cc := cX6_start) (maxL := 3) (rt := 0) hM (by decide) rfl (fun _ => Nat.le_of_ble_eq_true rfl) (@fun p e s m args below meth c D cy ad A Q C hR => ?_)
  refine g_sub (vs' := [(0, .ref (ad 58)), (1, .int (Int32.ofInt a1)), (2, .int (Int32.ofInt a2))]) [0, 1, 2] rfl ?_
  refine g_aload_n C dX6_start_0 0 rfl ?_
  refine g_iconst C dX6_start_1 ?_
  refine gp_X6_3 C in_X6_start_X6 (List.mem_of_getElem? (i := 1) rfl) (by decide) dX6_start_2 ?_
  obtain ⟨σ1, e2, h⟩ := z_l h
  refine g_mem e2 ?_
  refine g_aload_n C dX6_start_5 0 rfl ?_
  refine g_iload_n C dX6_start_6 1 rfl ?_
  obtain ⟨r3, e4, h⟩ := z_b h
  refine g_callI (n := 1) C (fun hM => c_X6_isStatement l hM ha1 e4) gX6_start_X6_isStatement rfl (by decide) ⟨rfl, rfl⟩ ⟨Nat.le_of_ble_eq_true rfl, Nat.le_of_ble_eq_true rfl⟩ rfl ly_c58 (Nat.le_of_ble_eq_true rfl) rfl rfl (rest := []) rfl (Nat.le_of_ble_eq_true rfl) dX6_start_7 (fun q5 => ?_)
  have q5 : r3 = 0 ∨ r3 = 1 := q5
  refine g_if_eq C 21 dX6_start_10 (by decide) (rgT_inR (rt := 1) q5) (fun c6 => ?_) (fun c6 => ?_)
  · have h := z_t c6 h
    refine g_aload_n C dX6_start_21 0 rfl ?_
    refine g_iconst C dX6_start_22 ?_
    obtain ⟨⟨r7, σ9⟩, e8, h⟩ := z_b h
    refine g_callI (n := 1) C (fun hM => c_X6_fails l hM (by decide) e8) gX6_start_X6_fails rfl (by decide) ⟨rfl, rfl⟩ ⟨Nat.le_of_ble_eq_true rfl, Nat.le_of_ble_eq_true rfl⟩ rfl ly_c58 (Nat.le_of_ble_eq_true rfl) rfl rfl (rest := []) rfl (Nat.le_of_ble_eq_true rfl) dX6_start_23 (fun q10 => ?_)
    have q10 : inR r7 := q10
    obtain ⟨rfl, rfl⟩ := z_s2 h
    exact hR _ _ dX6_start_26 q10
  · have h := z_f c6 h
    refine g_aload_n C dX6_start_13 0 rfl ?_
    refine g_iload_n C dX6_start_14 2 rfl ?_
    obtain ⟨r11, e12, h⟩ := z_b h
    refine g_callI (n := 1) C (fun hM => c_X6_isTurn l hM ha2 e12) gX6_start_X6_isTurn rfl (by decide) ⟨rfl, rfl⟩ ⟨Nat.le_of_ble_eq_true rfl, Nat.le_of_ble_eq_true rfl⟩ rfl ly_c58 (Nat.le_of_ble_eq_true rfl) rfl rfl (rest := []) rfl (Nat.le_of_ble_eq_true rfl) dX6_start_15 (fun q13 => ?_)
    have q13 : r11 = 0 ∨ r11 = 1 := q13
    refine g_if_ne C 27 dX6_start_18 (by decide) (rgT_inR (rt := 1) q13) (fun c14 => ?_) (fun c14 => ?_)
    · have h := z_f c14 h
      refine g_aload_n C dX6_start_27 0 rfl ?_
      obtain ⟨⟨r15, σ17⟩, e16, h⟩ := z_b h
      refine g_callI (n := 0) C (fun hM => c_X6_runs l hM  e16) gX6_start_X6_runs rfl (by decide) ⟨rfl, rfl⟩ ⟨Nat.le_of_ble_eq_true rfl, Nat.le_of_ble_eq_true rfl⟩ rfl ly_c58 (Nat.le_of_ble_eq_true rfl) rfl rfl (rest := []) rfl (Nat.le_of_ble_eq_true rfl) dX6_start_28 (fun q18 => ?_)
      have q18 : inR r15 := q18
      refine g_pop C dX6_start_31 rfl ?_
      refine g_aload_n C dX6_start_32 0 rfl ?_
      refine gf_X6_13 C in_X6_start_X6 (List.mem_of_getElem? (i := 2) rfl) dX6_start_33 ?_
      refine g_bipush C dX6_start_36 (by decide) ?_
      refine g_iload_n C dX6_start_38 1 rfl ?_
      refine g_imul C dX6_start_39 ?_
      refine g_iload_n C dX6_start_40 2 rfl ?_
      refine g_iadd C dX6_start_41 ?_
      obtain ⟨g19, h⟩ := z_g h
      refine g_iald C ly_c65 (Nat.le_of_ble_eq_true rfl) (by decide) g19 dX6_start_42 (fun r20 => ?_)
      obtain ⟨rfl, rfl⟩ := z_s2 h
      exact hR _ _ dX6_start_43 r20
    · have h := z_t c14 h
      refine g_aload_n C dX6_start_21 0 rfl ?_
      refine g_iconst C dX6_start_22 ?_
      obtain ⟨⟨r21, σ23⟩, e22, h⟩ := z_b h
      refine g_callI (n := 1) C (fun hM => c_X6_fails l hM (by decide) e22) gX6_start_X6_fails rfl (by decide) ⟨rfl, rfl⟩ ⟨Nat.le_of_ble_eq_true rfl, Nat.le_of_ble_eq_true rfl⟩ rfl ly_c58 (Nat.le_of_ble_eq_true rfl) rfl rfl (rest := []) rfl (Nat.le_of_ble_eq_true rfl) dX6_start_23 (fun q24 => ?_)
      have q24 : inR r21 := q24
      obtain ⟨rfl, rfl⟩ := z_s2 h
      exact hR _ _ dX6_start_26 q24
theorem in_X6_processor_X6 : ∀ w ∈ u_ws RX6 TX6 20, w ∈ wsX6_processor := fun _ h => List.mem_cons_of_mem _ (List.mem_append_right _ h)
set_option maxHeartbeats 4000000 in
set_option maxRecDepth 100000 in
theorem c_X6_processor (l : Launch) {σ : MM} (hM : okM σ) {a1 : Int} (ha1 : inR a1) {ro : Int} {σo : MM} (h : X6_processor a1 σ = some (ro, σo)) : CtI l yX6_processor wsX6_processor { frames := 6, cells := 0, slots := 0, locals := 134 } (fun ad : Nat → Nat => [.ref (ad 58), .int (Int32.ofInt a1)]) σ 0 ro σo := by
  unfold X6_processor at h
  refine z_ctI (cc := cX6_processor) (maxL := 2) (rt := 0) hM (by decide) rfl (fun _ => Nat.le_of_ble_eq_true rfl) (@fun p e s m args below meth c D cy ad A Q C hR => ?_)
  refine g_sub (vs' := [(0, .ref (ad 58)), (1, .int (Int32.ofInt a1))]) [0, 1] rfl ?_
  refine g_aload_n C dX6_processor_0 0 rfl ?_
  refine g_iconst C dX6_processor_1 ?_
  refine gp_X6_3 C in_X6_processor_X6 (List.mem_of_getElem? (i := 1) rfl) (by decide) dX6_processor_2 ?_
  obtain ⟨σ1, e2, h⟩ := z_l h
  refine g_mem e2 ?_
  refine g_aload_n C dX6_processor_5 0 rfl ?_
  refine g_iload_n C dX6_processor_6 1 rfl ?_
  obtain ⟨r3, e4, h⟩ := z_b h
  refine g_callI (n := 1) C (fun hM => c_X6_isTurn l hM ha1 e4) gX6_processor_X6_isTurn rfl (by decide) ⟨rfl, rfl⟩ ⟨Nat.le_of_ble_eq_true rfl, Nat.le_of_ble_eq_true rfl⟩ rfl ly_c58 (Nat.le_of_ble_eq_true rfl) rfl rfl (rest := []) rfl (Nat.le_of_ble_eq_true rfl) dX6_processor_7 (fun q5 => ?_)
  have q5 : r3 = 0 ∨ r3 = 1 := q5
  refine g_if_ne C 19 dX6_processor_10 (by decide) (rgT_inR (rt := 1) q5) (fun c6 => ?_) (fun c6 => ?_)
  · have h := z_f c6 h
    refine g_aload_n C dX6_processor_19 0 rfl ?_
    obtain ⟨⟨r7, σ9⟩, e8, h⟩ := z_b h
    refine g_callI (n := 0) C (fun hM => c_X6_runs l hM  e8) gX6_processor_X6_runs rfl (by decide) ⟨rfl, rfl⟩ ⟨Nat.le_of_ble_eq_true rfl, Nat.le_of_ble_eq_true rfl⟩ rfl ly_c58 (Nat.le_of_ble_eq_true rfl) rfl rfl (rest := []) rfl (Nat.le_of_ble_eq_true rfl) dX6_processor_20 (fun q10 => ?_)
    have q10 : inR r7 := q10
    refine g_pop C dX6_processor_23 rfl ?_
    refine g_aload_n C dX6_processor_24 0 rfl ?_
    refine gf_X6_14 C in_X6_processor_X6 (List.mem_of_getElem? (i := 2) rfl) dX6_processor_25 ?_
    refine g_iload_n C dX6_processor_28 1 rfl ?_
    obtain ⟨g11, h⟩ := z_g h
    refine g_iald C ly_c66 (Nat.le_of_ble_eq_true rfl) (by decide) g11 dX6_processor_29 (fun r12 => ?_)
    obtain ⟨rfl, rfl⟩ := z_s2 h
    exact hR _ _ dX6_processor_30 r12
  · have h := z_t c6 h
    refine g_aload_n C dX6_processor_13 0 rfl ?_
    refine g_iconst C dX6_processor_14 ?_
    obtain ⟨⟨r13, σ15⟩, e14, h⟩ := z_b h
    refine g_callI (n := 1) C (fun hM => c_X6_fails l hM (by decide) e14) gX6_processor_X6_fails rfl (by decide) ⟨rfl, rfl⟩ ⟨Nat.le_of_ble_eq_true rfl, Nat.le_of_ble_eq_true rfl⟩ rfl ly_c58 (Nat.le_of_ble_eq_true rfl) rfl rfl (rest := []) rfl (Nat.le_of_ble_eq_true rfl) dX6_processor_15 (fun q16 => ?_)
    have q16 : inR r13 := q16
    obtain ⟨rfl, rfl⟩ := z_s2 h
    exact hR _ _ dX6_processor_18 q16
theorem in_X6_total_X6 : ∀ w ∈ u_ws RX6 TX6 20, w ∈ wsX6_total := fun _ h => List.mem_cons_of_mem _ (List.mem_append_right _ h)
set_option maxHeartbeats 4000000 in
set_option maxRecDepth 100000 in
theorem c_X6_total (l : Launch) {σ : MM} (hM : okM σ) {a1 : Int} (ha1 : inR a1) {a2 : Int} (ha2 : inR a2) {ro : Int} {σo : MM} (h : X6_total a1 a2 σ = some (ro, σo)) : CtI l yX6_total wsX6_total { frames := 6, cells := 0, slots := 0, locals := 134 } (fun ad : Nat → Nat => [.ref (ad 58), .int (Int32.ofInt a1), .int (Int32.ofInt a2)]) σ 0 ro σo := by
  unfold X6_total at h
  refine z_ctI (cc := cX6_total) (maxL := 3) (rt := 0) hM (by decide) rfl (fun _ => Nat.le_of_ble_eq_true rfl) (@fun p e s m args below meth c D cy ad A Q C hR => ?_)
  refine g_sub (vs' := [(0, .ref (ad 58)), (1, .int (Int32.ofInt a1)), (2, .int (Int32.ofInt a2))]) [0, 1, 2] rfl ?_
  refine g_aload_n C dX6_total_0 0 rfl ?_
  refine g_iconst C dX6_total_1 ?_
  refine gp_X6_3 C in_X6_total_X6 (List.mem_of_getElem? (i := 1) rfl) (by decide) dX6_total_2 ?_
  obtain ⟨σ1, e2, h⟩ := z_l h
  refine g_mem e2 ?_
  refine g_iload_n C dX6_total_5 1 rfl ?_
  refine g_iconst C dX6_total_6 ?_
  refine g_aload_n C dX6_total_7 0 rfl ?_
  refine gf_X6_0 C in_X6_total_X6 (List.mem_of_getElem? (i := 2) rfl) dX6_total_8 ?_
  refine g_iconst C dX6_total_11 ?_
  refine g_iald C ly_c59 (Nat.le_of_ble_eq_true rfl) (by decide) (by decide) dX6_total_12 (fun r3 => ?_)
  refine g_iconst C dX6_total_13 ?_
  refine g_isub C dX6_total_14 ?_
  obtain ⟨g4, h⟩ := z_g h
  obtain ⟨r5, e6, h⟩ := z_b h
  refine g_callS (n := 3) C (fun hM => c_X6_in l hM ha1 (by decide) g4 e6) gX6_total_X6_in rfl (by decide) ⟨rfl, rfl⟩ ⟨Nat.le_of_ble_eq_true rfl, Nat.le_of_ble_eq_true rfl⟩ rfl rfl (rest := []) rfl (Nat.le_of_ble_eq_true rfl) dX6_total_15 (fun q7 => ?_)
  have q7 : r5 = 0 ∨ r5 = 1 := q7
  refine g_if_ne C 27 dX6_total_18 (by decide) (rgT_inR (rt := 1) q7) (fun c8 => ?_) (fun c8 => ?_)
  · have h := z_f c8 h
    refine g_aload_n C dX6_total_27 0 rfl ?_
    obtain ⟨⟨r9, σ11⟩, e10, h⟩ := z_b h
    refine g_callI (n := 0) C (fun hM => c_X6_runs l hM  e10) gX6_total_X6_runs rfl (by decide) ⟨rfl, rfl⟩ ⟨Nat.le_of_ble_eq_true rfl, Nat.le_of_ble_eq_true rfl⟩ rfl ly_c58 (Nat.le_of_ble_eq_true rfl) rfl rfl (rest := []) rfl (Nat.le_of_ble_eq_true rfl) dX6_total_28 (fun q12 => ?_)
    have q12 : inR r9 := q12
    refine g_pop C dX6_total_31 rfl ?_
    refine g_iload_n C dX6_total_32 2 rfl ?_
    by_cases c13 : a2 = 0
    · have h := z_t c13 h
      refine g_tsw C 64 0 dX6_total_33 ha2 c13 (by decide) (by decide) rfl (by decide) ?_
      refine g_aload_n C dX6_total_64 0 rfl ?_
      refine gf_X6_17 C in_X6_total_X6 (List.mem_of_getElem? (i := 3) rfl) dX6_total_65 ?_
      refine g_iload_n C dX6_total_68 1 rfl ?_
      obtain ⟨g14, h⟩ := z_g h
      refine g_iald C ly_c69 (Nat.le_of_ble_eq_true rfl) (by decide) g14 dX6_total_69 (fun r15 => ?_)
      obtain ⟨rfl, rfl⟩ := z_s2 h
      exact hR _ _ dX6_total_70 r15
    have h := z_f c13 h
    by_cases c16 : a2 = 1
    · have h := z_t c16 h
      refine g_tsw C 71 1 dX6_total_33 ha2 c16 (by decide) (by decide) rfl (by decide) ?_
      refine g_aload_n C dX6_total_71 0 rfl ?_
      refine gf_X6_18 C in_X6_total_X6 (List.mem_of_getElem? (i := 4) rfl) dX6_total_72 ?_
      refine g_iload_n C dX6_total_75 1 rfl ?_
      obtain ⟨g17, h⟩ := z_g h
      refine g_iald C ly_c70 (Nat.le_of_ble_eq_true rfl) (by decide) g17 dX6_total_76 (fun r18 => ?_)
      obtain ⟨rfl, rfl⟩ := z_s2 h
      exact hR _ _ dX6_total_77 r18
    have h := z_f c16 h
    by_cases c19 : a2 = 2
    · have h := z_t c19 h
      refine g_tsw C 78 2 dX6_total_33 ha2 c19 (by decide) (by decide) rfl (by decide) ?_
      refine g_aload_n C dX6_total_78 0 rfl ?_
      refine gf_X6_19 C in_X6_total_X6 (List.mem_of_getElem? (i := 5) rfl) dX6_total_79 ?_
      refine g_iload_n C dX6_total_82 1 rfl ?_
      obtain ⟨g20, h⟩ := z_g h
      refine g_iald C ly_c71 (Nat.le_of_ble_eq_true rfl) (by decide) g20 dX6_total_83 (fun r21 => ?_)
      obtain ⟨rfl, rfl⟩ := z_s2 h
      exact hR _ _ dX6_total_84 r21
    have h := z_f c19 h
    by_cases c22 : a2 = 3
    · have h := z_t c22 h
      refine g_tsw C 85 3 dX6_total_33 ha2 c22 (by decide) (by decide) rfl (by decide) ?_
      refine g_aload_n C dX6_total_85 0 rfl ?_
      refine gf_X6_15 C in_X6_total_X6 (List.mem_of_getElem? (i := 6) rfl) dX6_total_86 ?_
      refine g_iload_n C dX6_total_89 1 rfl ?_
      obtain ⟨g23, h⟩ := z_g h
      refine g_iald C ly_c67 (Nat.le_of_ble_eq_true rfl) (by decide) g23 dX6_total_90 (fun r24 => ?_)
      obtain ⟨rfl, rfl⟩ := z_s2 h
      exact hR _ _ dX6_total_91 r24
    have h := z_f c22 h
    refine g_tswD C 92 dX6_total_33 ha2 (by omega) (by decide) ?_
    refine g_aload_n C dX6_total_92 0 rfl ?_
    refine g_iconst C dX6_total_93 ?_
    obtain ⟨⟨r25, σ27⟩, e26, h⟩ := z_b h
    refine g_callI (n := 1) C (fun hM => c_X6_fails l hM (by decide) e26) gX6_total_X6_fails rfl (by decide) ⟨rfl, rfl⟩ ⟨Nat.le_of_ble_eq_true rfl, Nat.le_of_ble_eq_true rfl⟩ rfl ly_c58 (Nat.le_of_ble_eq_true rfl) rfl rfl (rest := []) rfl (Nat.le_of_ble_eq_true rfl) dX6_total_94 (fun q28 => ?_)
    have q28 : inR r25 := q28
    obtain ⟨rfl, rfl⟩ := z_s2 h
    exact hR _ _ dX6_total_97 q28
  · have h := z_t c8 h
    refine g_aload_n C dX6_total_21 0 rfl ?_
    refine g_iconst C dX6_total_22 ?_
    obtain ⟨⟨r29, σ31⟩, e30, h⟩ := z_b h
    refine g_callI (n := 1) C (fun hM => c_X6_fails l hM (by decide) e30) gX6_total_X6_fails rfl (by decide) ⟨rfl, rfl⟩ ⟨Nat.le_of_ble_eq_true rfl, Nat.le_of_ble_eq_true rfl⟩ rfl ly_c58 (Nat.le_of_ble_eq_true rfl) rfl rfl (rest := []) rfl (Nat.le_of_ble_eq_true rfl) dX6_total_23 (fun q32 => ?_)
    have q32 : inR r29 := q32
    obtain ⟨rfl, rfl⟩ := z_s2 h
    exact hR _ _ dX6_total_26 q32
theorem in_X6_fill_X6 : ∀ w ∈ u_ws RX6 TX6 20, w ∈ wsX6_fill := fun _ h => List.mem_cons_of_mem _ (List.mem_append_right _ h)
set_option maxHeartbeats 4000000 in
set_option maxRecDepth 100000 in
theorem w_X6_fill_L14 {p : Program} {l : Launch} {e : Env} {s : State} {m : MethodId} {args : Array Value} {below : List Frame} {meth : Method} {c : Code} {D : va_G} {cy : Nat → ClassId} {ad : Nat → Nat} {A : Nat → Prop} {Q : State → Prop} (C : Cx p s m args meth c cX6_fill RX6 3 wsX6_fill D cy A) {k51 : Int → MM → Option (Int × MM)} {ro : Int} {σo : MM} (hR : RetI p l e { frames := 6, cells := 0, slots := 0, locals := 134 } s m args below meth c cX6_fill 3 D cy ad A Q 0 ro σo) (hk51 : ∀ (z1 : Int) (σ : MM), inR z1 → k51 z1 σ = some (ro, σo) → G p l e { frames := 6, cells := 0, slots := 0, locals := 134 } s m args below meth c 3 D cy ad A Q 51 [(1, .int (Int32.ofInt z1))] [] σ) : ∀ (n : Nat) (x1 x2 : Int) (σ : MM) , inR x1 → inR x2 → X6_fill_L14 k51 n x1 x2 σ = some (ro, σo) → G p l e { frames := 6, cells := 0, slots := 0, locals := 134 } s m args below meth c 3 D cy ad A Q 14 [(0, .ref (ad 58)), (1, .int (Int32.ofInt x1)), (2, .int (Int32.ofInt x2))] [] σ := by
  intro n
  induction n with
  | zero =>
    intro x1 x2 σ hx1 hx2 h
    cases h
  | succ n ih =>
    intro x1 x2 σ hx1 hx2 h
    rw [X6_fill_L14] at h
    refine g_iload_n C dX6_fill_14 2 rfl ?_
    refine g_aload_n C dX6_fill_15 0 rfl ?_
    refine gf_X6_0 C in_X6_fill_X6 (List.mem_of_getElem? (i := 2) rfl) dX6_fill_16 ?_
    refine g_iconst C dX6_fill_19 ?_
    refine g_iald C ly_c59 (Nat.le_of_ble_eq_true rfl) (by decide) (by decide) dX6_fill_20 (fun r7 => ?_)
    refine g_icmp_ge C 51 dX6_fill_21 (by decide) hx2 r7 (fun c8 => ?_) (fun c8 => ?_)
    · have h := z_f c8 h
      refine g_sub [1] rfl ?_
      exact hk51 _ _ hx1 h
    · have h := z_t c8 h
      refine g_aload_n C dX6_fill_24 0 rfl ?_
      refine gf_X6_16 C in_X6_fill_X6 (List.mem_of_getElem? (i := 3) rfl) dX6_fill_25 ?_
      refine g_iload_n C dX6_fill_28 2 rfl ?_
      obtain ⟨g9, h⟩ := z_g h
      refine g_iald C ly_c68 (Nat.le_of_ble_eq_true rfl) (by decide) g9 dX6_fill_29 (fun r10 => ?_)
      refine g_iload_n C dX6_fill_30 1 rfl ?_
      refine g_icmp_le C 43 dX6_fill_31 (by decide) r10 hx1 (fun c11 => ?_) (fun c11 => ?_)
      · have h := z_f c11 h
        refine g_iload_n C dX6_fill_43 1 rfl ?_
        refine g_istore_n C dX6_fill_44 (by decide) (vs' := [(1, .int (Int32.ofInt x1)), (0, .ref (ad 58)), (2, .int (Int32.ofInt x2))]) rfl ?_
        refine g_iinc C dX6_fill_45 (j := 2) rfl (by decide) (vs' := [(2, .int (Int32.ofInt (x2 + 1))), (1, .int (Int32.ofInt x1)), (0, .ref (ad 58))]) rfl ?_
        refine g_goto C 14 dX6_fill_48 (by decide) ?_
        refine g_sub [2, 1, 0] rfl ?_
        exact ih _ _ _ hx1 (by omega) h
      · have h := z_t c11 h
        refine g_aload_n C dX6_fill_34 0 rfl ?_
        refine gf_X6_16 C in_X6_fill_X6 (List.mem_of_getElem? (i := 3) rfl) dX6_fill_35 ?_
        refine g_iload_n C dX6_fill_38 2 rfl ?_
        refine g_iald C ly_c68 (Nat.le_of_ble_eq_true rfl) (by decide) (by omega) dX6_fill_39 (fun r12 => ?_)
        refine g_goto C 44 dX6_fill_40 (by decide) ?_
        refine g_istore_n C dX6_fill_44 (by decide) (vs' := [(1, .int (Int32.ofInt (σ 68 x2))), (0, .ref (ad 58)), (2, .int (Int32.ofInt x2))]) rfl ?_
        refine g_iinc C dX6_fill_45 (j := 2) rfl (by decide) (vs' := [(2, .int (Int32.ofInt (x2 + 1))), (1, .int (Int32.ofInt (σ 68 x2))), (0, .ref (ad 58))]) rfl ?_
        refine g_goto C 14 dX6_fill_48 (by decide) ?_
        refine g_sub [2, 1, 0] rfl ?_
        exact ih _ _ _ r12 (by omega) h
set_option maxHeartbeats 4000000 in
set_option maxRecDepth 100000 in
theorem c_X6_fill (l : Launch) {σ : MM} (hM : okM σ) {ro : Int} {σo : MM} (h : X6_fill σ = some (ro, σo)) : CtI l yX6_fill wsX6_fill { frames := 6, cells := 0, slots := 0, locals := 134 } (fun ad : Nat → Nat => [.ref (ad 58)]) σ 0 ro σo := by
  unfold X6_fill at h
  refine z_ctI (cc := cX6_fill) (maxL := 3) (rt := 0) hM (by decide) rfl (fun _ => Nat.le_of_ble_eq_true rfl) (@fun p e s m args below meth c D cy ad A Q C hR => ?_)
  refine g_sub (vs' := [(0, .ref (ad 58))]) [0] rfl ?_
  refine g_aload_n C dX6_fill_0 0 rfl ?_
  refine g_iconst C dX6_fill_1 ?_
  refine gp_X6_3 C in_X6_fill_X6 (List.mem_of_getElem? (i := 1) rfl) (by decide) dX6_fill_2 ?_
  obtain ⟨σ1, e2, h⟩ := z_l h
  refine g_mem e2 ?_
  refine g_aload_n C dX6_fill_5 0 rfl ?_
  obtain ⟨⟨r3, σ5⟩, e4, h⟩ := z_b h
  refine g_callI (n := 0) C (fun hM => c_X6_runs l hM  e4) gX6_fill_X6_runs rfl (by decide) ⟨rfl, rfl⟩ ⟨Nat.le_of_ble_eq_true rfl, Nat.le_of_ble_eq_true rfl⟩ rfl ly_c58 (Nat.le_of_ble_eq_true rfl) rfl rfl (rest := []) rfl (Nat.le_of_ble_eq_true rfl) dX6_fill_6 (fun q6 => ?_)
  have q6 : inR r3 := q6
  refine g_pop C dX6_fill_9 rfl ?_
  refine g_iconst C dX6_fill_10 ?_
  refine g_istore_n C dX6_fill_11 (by decide) (vs' := [(1, .int (Int32.ofInt 0)), (0, .ref (ad 58))]) rfl ?_
  refine g_iconst C dX6_fill_12 ?_
  refine g_istore_n C dX6_fill_13 (by decide) (vs' := [(2, .int (Int32.ofInt 0)), (1, .int (Int32.ofInt 0)), (0, .ref (ad 58))]) rfl ?_
  refine g_sub [2, 1, 0] rfl ?_
  refine w_X6_fill_L14 C hR ?_ _ _ _ _ (by decide) (by decide) h
  · intro z13 σ14 hz13 h
    refine g_iload_n C dX6_fill_51 0 rfl ?_
    obtain ⟨rfl, rfl⟩ := z_s2 h
    exact hR _ _ dX6_fill_52 hz13
theorem in_X6_drain_X6 : ∀ w ∈ u_ws RX6 TX6 20, w ∈ wsX6_drain := fun _ h => List.mem_cons_of_mem _ (List.mem_append_right _ h)
set_option maxHeartbeats 4000000 in
set_option maxRecDepth 100000 in
theorem w_X6_drain_L14 {p : Program} {l : Launch} {e : Env} {s : State} {m : MethodId} {args : Array Value} {below : List Frame} {meth : Method} {c : Code} {D : va_G} {cy : Nat → ClassId} {ad : Nat → Nat} {A : Nat → Prop} {Q : State → Prop} (C : Cx p s m args meth c cX6_drain RX6 4 wsX6_drain D cy A) {x1 : Int} (hx1 : inR x1) {k60 : Int → MM → Option (Int × MM)} {ro : Int} {σo : MM} (hR : RetI p l e { frames := 6, cells := 0, slots := 0, locals := 134 } s m args below meth c cX6_drain 4 D cy ad A Q 0 ro σo) (hk60 : ∀ (z2 : Int) (σ : MM), inR z2 → k60 z2 σ = some (ro, σo) → G p l e { frames := 6, cells := 0, slots := 0, locals := 134 } s m args below meth c 4 D cy ad A Q 60 [(1, .int (Int32.ofInt x1)), (2, .int (Int32.ofInt z2))] [] σ) : ∀ (n : Nat) (x2 x3 : Int) (σ : MM) , inR x2 → inR x3 → X6_drain_L14 x1 k60 n x2 x3 σ = some (ro, σo) → G p l e { frames := 6, cells := 0, slots := 0, locals := 134 } s m args below meth c 4 D cy ad A Q 14 [(0, .ref (ad 58)), (1, .int (Int32.ofInt x1)), (2, .int (Int32.ofInt x2)), (3, .int (Int32.ofInt x3))] [] σ := by
  intro n
  induction n with
  | zero =>
    intro x2 x3 σ hx2 hx3 h
    cases h
  | succ n ih =>
    intro x2 x3 σ hx2 hx3 h
    rw [X6_drain_L14] at h
    refine g_iload_n C dX6_drain_14 3 rfl ?_
    refine g_aload_n C dX6_drain_15 0 rfl ?_
    refine gf_X6_0 C in_X6_drain_X6 (List.mem_of_getElem? (i := 2) rfl) dX6_drain_16 ?_
    refine g_iconst C dX6_drain_19 ?_
    refine g_iald C ly_c59 (Nat.le_of_ble_eq_true rfl) (by decide) (by decide) dX6_drain_20 (fun r7 => ?_)
    refine g_icmp_ge C 60 dX6_drain_21 (by decide) hx3 r7 (fun c8 => ?_) (fun c8 => ?_)
    · have h := z_f c8 h
      refine g_sub [1, 2] rfl ?_
      exact hk60 _ _ hx2 h
    · have h := z_t c8 h
      refine g_aload_n C dX6_drain_24 0 rfl ?_
      refine gf_X6_17 C in_X6_drain_X6 (List.mem_of_getElem? (i := 3) rfl) dX6_drain_25 ?_
      refine g_iload_n C dX6_drain_28 3 rfl ?_
      obtain ⟨g9, h⟩ := z_g h
      refine g_iald C ly_c69 (Nat.le_of_ble_eq_true rfl) (by decide) g9 dX6_drain_29 (fun r10 => ?_)
      refine g_if_le C 52 dX6_drain_30 (by decide) r10 (fun c11 => ?_) (fun c11 => ?_)
      · have h := z_f c11 h
        refine g_iload_n C dX6_drain_52 2 rfl ?_
        refine g_istore_n C dX6_drain_53 (by decide) (vs' := [(2, .int (Int32.ofInt x2)), (0, .ref (ad 58)), (1, .int (Int32.ofInt x1)), (3, .int (Int32.ofInt x3))]) rfl ?_
        refine g_iinc C dX6_drain_54 (j := 3) rfl (by decide) (vs' := [(3, .int (Int32.ofInt (x3 + 1))), (2, .int (Int32.ofInt x2)), (0, .ref (ad 58)), (1, .int (Int32.ofInt x1))]) rfl ?_
        refine g_goto C 14 dX6_drain_57 (by decide) ?_
        refine g_sub [2, 3, 1, 0] rfl ?_
        exact ih _ _ _ hx2 (by omega) h
      · have h := z_t c11 h
        refine g_aload_n C dX6_drain_33 0 rfl ?_
        refine gf_X6_15 C in_X6_drain_X6 (List.mem_of_getElem? (i := 4) rfl) dX6_drain_34 ?_
        refine g_iload_n C dX6_drain_37 3 rfl ?_
        refine g_iald C ly_c67 (Nat.le_of_ble_eq_true rfl) (by decide) (by omega) dX6_drain_38 (fun r12 => ?_)
        refine g_iload_n C dX6_drain_39 2 rfl ?_
        refine g_icmp_ge C 52 dX6_drain_40 (by decide) r12 hx2 (fun c13 => ?_) (fun c13 => ?_)
        · have h := z_f c13 h
          refine g_iload_n C dX6_drain_52 2 rfl ?_
          refine g_istore_n C dX6_drain_53 (by decide) (vs' := [(2, .int (Int32.ofInt x2)), (0, .ref (ad 58)), (1, .int (Int32.ofInt x1)), (3, .int (Int32.ofInt x3))]) rfl ?_
          refine g_iinc C dX6_drain_54 (j := 3) rfl (by decide) (vs' := [(3, .int (Int32.ofInt (x3 + 1))), (2, .int (Int32.ofInt x2)), (0, .ref (ad 58)), (1, .int (Int32.ofInt x1))]) rfl ?_
          refine g_goto C 14 dX6_drain_57 (by decide) ?_
          refine g_sub [2, 3, 1, 0] rfl ?_
          exact ih _ _ _ hx2 (by omega) h
        · have h := z_t c13 h
          refine g_aload_n C dX6_drain_43 0 rfl ?_
          refine gf_X6_15 C in_X6_drain_X6 (List.mem_of_getElem? (i := 4) rfl) dX6_drain_44 ?_
          refine g_iload_n C dX6_drain_47 3 rfl ?_
          refine g_iald C ly_c67 (Nat.le_of_ble_eq_true rfl) (by decide) (by omega) dX6_drain_48 (fun r14 => ?_)
          refine g_goto C 53 dX6_drain_49 (by decide) ?_
          refine g_istore_n C dX6_drain_53 (by decide) (vs' := [(2, .int (Int32.ofInt (σ 67 x3))), (0, .ref (ad 58)), (1, .int (Int32.ofInt x1)), (3, .int (Int32.ofInt x3))]) rfl ?_
          refine g_iinc C dX6_drain_54 (j := 3) rfl (by decide) (vs' := [(3, .int (Int32.ofInt (x3 + 1))), (2, .int (Int32.ofInt (σ 67 x3))), (0, .ref (ad 58)), (1, .int (Int32.ofInt x1))]) rfl ?_
          refine g_goto C 14 dX6_drain_57 (by decide) ?_
          refine g_sub [2, 3, 1, 0] rfl ?_
          exact ih _ _ _ r14 (by omega) h
set_option maxHeartbeats 4000000 in
set_option maxRecDepth 100000 in
theorem c_X6_drain (l : Launch) {σ : MM} (hM : okM σ) {ro : Int} {σo : MM} (h : X6_drain σ = some (ro, σo)) : CtI l yX6_drain wsX6_drain { frames := 6, cells := 0, slots := 0, locals := 134 } (fun ad : Nat → Nat => [.ref (ad 58)]) σ 0 ro σo := by
  unfold X6_drain at h
  refine z_ctI (cc := cX6_drain) (maxL := 4) (rt := 0) hM (by decide) rfl (fun _ => Nat.le_of_ble_eq_true rfl) (@fun p e s m args below meth c D cy ad A Q C hR => ?_)
  refine g_sub (vs' := [(0, .ref (ad 58))]) [0] rfl ?_
  refine g_aload_n C dX6_drain_0 0 rfl ?_
  refine g_iconst C dX6_drain_1 ?_
  refine gp_X6_3 C in_X6_drain_X6 (List.mem_of_getElem? (i := 1) rfl) (by decide) dX6_drain_2 ?_
  obtain ⟨σ1, e2, h⟩ := z_l h
  refine g_mem e2 ?_
  refine g_aload_n C dX6_drain_5 0 rfl ?_
  obtain ⟨⟨r3, σ5⟩, e4, h⟩ := z_b h
  refine g_callI (n := 0) C (fun hM => c_X6_runs l hM  e4) gX6_drain_X6_runs rfl (by decide) ⟨rfl, rfl⟩ ⟨Nat.le_of_ble_eq_true rfl, Nat.le_of_ble_eq_true rfl⟩ rfl ly_c58 (Nat.le_of_ble_eq_true rfl) rfl rfl (rest := []) rfl (Nat.le_of_ble_eq_true rfl) dX6_drain_6 (fun q6 => ?_)
  have q6 : inR r3 := q6
  refine g_istore_n C dX6_drain_9 (by decide) (vs' := [(1, .int (Int32.ofInt r3)), (0, .ref (ad 58))]) rfl ?_
  refine g_iload_n C dX6_drain_10 0 rfl ?_
  refine g_istore_n C dX6_drain_11 (by decide) (vs' := [(2, .int (Int32.ofInt r3)), (1, .int (Int32.ofInt r3)), (0, .ref (ad 58))]) rfl ?_
  refine g_iconst C dX6_drain_12 ?_
  refine g_istore_n C dX6_drain_13 (by decide) (vs' := [(3, .int (Int32.ofInt 0)), (2, .int (Int32.ofInt r3)), (1, .int (Int32.ofInt r3)), (0, .ref (ad 58))]) rfl ?_
  refine g_sub [3, 2, 1, 0] rfl ?_
  refine w_X6_drain_L14 C q6 hR ?_ _ _ _ _ q6 (by decide) h
  · intro z15 σ16 hz15 h
    refine g_iload_n C dX6_drain_60 0 rfl ?_
    refine g_iload_n C dX6_drain_61 1 rfl ?_
    refine g_isub C dX6_drain_62 ?_
    obtain ⟨g17, h⟩ := z_g h
    obtain ⟨rfl, rfl⟩ := z_s2 h
    exact hR _ _ dX6_drain_63 g17
theorem in_X6_allCosts_X6 : ∀ w ∈ u_ws RX6 TX6 20, w ∈ wsX6_allCosts := fun _ h => List.mem_cons_of_mem _ (List.mem_append_right _ h)
set_option maxHeartbeats 4000000 in
set_option maxRecDepth 100000 in
theorem w_X6_allCosts_L4 {p : Program} {l : Launch} {e : Env} {s : State} {m : MethodId} {args : Array Value} {below : List Frame} {meth : Method} {c : Code} {D : va_G} {cy : Nat → ClassId} {ad : Nat → Nat} {A : Nat → Prop} {Q : State → Prop} (C : Cx p s m args meth c cX6_allCosts RX6 3 wsX6_allCosts D cy A) {σ : MM} {k28 : Int → Option Int} {ro : Int} (hR : RetI p l e { frames := 1, cells := 0, slots := 0, locals := 21 } s m args below meth c cX6_allCosts 3 D cy ad A Q 0 ro σ) (hk28 : ∀ (z1 : Int), inR z1 → k28 z1 = some ro → G p l e { frames := 1, cells := 0, slots := 0, locals := 21 } s m args below meth c 3 D cy ad A Q 28 [(1, .int (Int32.ofInt z1))] [] σ) : ∀ (n : Nat) (x1 x2 : Int) , inR x1 → inR x2 → X6_allCosts_L4 σ k28 n x1 x2 = some ro → G p l e { frames := 1, cells := 0, slots := 0, locals := 21 } s m args below meth c 3 D cy ad A Q 4 [(0, .ref (ad 58)), (1, .int (Int32.ofInt x1)), (2, .int (Int32.ofInt x2))] [] σ := by
  intro n
  induction n with
  | zero =>
    intro x1 x2 hx1 hx2 h
    cases h
  | succ n ih =>
    intro x1 x2 hx1 hx2 h
    rw [X6_allCosts_L4] at h
    refine g_iload_n C dX6_allCosts_4 2 rfl ?_
    refine g_aload_n C dX6_allCosts_5 0 rfl ?_
    refine gf_X6_0 C in_X6_allCosts_X6 (List.mem_of_getElem? (i := 1) rfl) dX6_allCosts_6 ?_
    refine g_iconst C dX6_allCosts_9 ?_
    refine g_iald C ly_c59 (Nat.le_of_ble_eq_true rfl) (by decide) (by decide) dX6_allCosts_10 (fun r1 => ?_)
    refine g_icmp_ge C 28 dX6_allCosts_11 (by decide) hx2 r1 (fun c2 => ?_) (fun c2 => ?_)
    · have h := z_f c2 h
      refine g_sub [1] rfl ?_
      exact hk28 _ hx1 h
    · have h := z_t c2 h
      refine g_iload_n C dX6_allCosts_14 1 rfl ?_
      refine g_aload_n C dX6_allCosts_15 0 rfl ?_
      refine g_iload_n C dX6_allCosts_16 2 rfl ?_
      obtain ⟨r3, e4, h⟩ := z_b h
      refine g_callI (n := 1) C (fun hM => c_X6_cost l hM hx2 e4) gX6_allCosts_X6_cost rfl (by decide) ⟨rfl, rfl⟩ ⟨Nat.le_of_ble_eq_true rfl, Nat.le_of_ble_eq_true rfl⟩ rfl ly_c58 (Nat.le_of_ble_eq_true rfl) rfl rfl (rest := [.int (Int32.ofInt x1)]) rfl (Nat.le_of_ble_eq_true rfl) dX6_allCosts_17 (fun q5 => ?_)
      have q5 : inR r3 := q5
      refine g_iadd C dX6_allCosts_20 ?_
      refine g_istore_n C dX6_allCosts_21 (by decide) (vs' := [(1, .int (Int32.ofInt (x1 + r3))), (0, .ref (ad 58)), (2, .int (Int32.ofInt x2))]) rfl ?_
      refine g_iinc C dX6_allCosts_22 (j := 2) rfl (by decide) (vs' := [(2, .int (Int32.ofInt (x2 + 1))), (1, .int (Int32.ofInt (x1 + r3))), (0, .ref (ad 58))]) rfl ?_
      refine g_goto C 4 dX6_allCosts_25 (by decide) ?_
      obtain ⟨g6, h⟩ := z_g h
      refine g_sub [2, 1, 0] rfl ?_
      exact ih _ _ g6 (by omega) h
set_option maxHeartbeats 4000000 in
set_option maxRecDepth 100000 in
theorem c_X6_allCosts (l : Launch) {σ : MM} (hM : okM σ) {ro : Int} (h : X6_allCosts σ = some ro) : CtI l yX6_allCosts wsX6_allCosts { frames := 1, cells := 0, slots := 0, locals := 21 } (fun ad : Nat → Nat => [.ref (ad 58)]) σ 0 ro σ := by
  unfold X6_allCosts at h
  refine z_ctI (cc := cX6_allCosts) (maxL := 3) (rt := 0) hM (by decide) rfl (fun _ => Nat.le_of_ble_eq_true rfl) (@fun p e s m args below meth c D cy ad A Q C hR => ?_)
  refine g_sub (vs' := [(0, .ref (ad 58))]) [0] rfl ?_
  refine g_iconst C dX6_allCosts_0 ?_
  refine g_istore_n C dX6_allCosts_1 (by decide) (vs' := [(1, .int (Int32.ofInt 0)), (0, .ref (ad 58))]) rfl ?_
  refine g_iconst C dX6_allCosts_2 ?_
  refine g_istore_n C dX6_allCosts_3 (by decide) (vs' := [(2, .int (Int32.ofInt 0)), (1, .int (Int32.ofInt 0)), (0, .ref (ad 58))]) rfl ?_
  refine g_sub [2, 1, 0] rfl ?_
  refine w_X6_allCosts_L4 C hR ?_ _ _ _ (by decide) (by decide) h
  · intro z7 hz7 h
    refine g_iload_n C dX6_allCosts_28 0 rfl ?_
    obtain rfl := z_s1 h
    exact hR _ _ dX6_allCosts_29 hz7
set_option maxHeartbeats 4000000 in
set_option maxRecDepth 100000 in
theorem w_X6_common_L4 {p : Program} {l : Launch} {e : Env} {s : State} {m : MethodId} {args : Array Value} {below : List Frame} {meth : Method} {c : Code} {D : va_G} {cy : Nat → ClassId} {ad : Nat → Nat} {A : Nat → Prop} {Q : State → Prop} (C : Cx p s m args meth c cX6_common RX6 5 wsX6_common D cy A) {σ : MM} {k21 : Int → Option Int} {ro : Int} (hR : RetI p l e { frames := 0, cells := 0, slots := 0, locals := 0 } s m args below meth c cX6_common 5 D cy ad A Q 0 ro σ) (hk21 : ∀ (z2 : Int), inR z2 → k21 z2 = some ro → G p l e { frames := 0, cells := 0, slots := 0, locals := 0 } s m args below meth c 5 D cy ad A Q 21 [(2, .int (Int32.ofInt z2))] [] σ) : ∀ (n : Nat) (x2 x3 : Int) , inR x2 → inR x3 → X6_common_L4 σ k21 n x2 x3 = some ro → G p l e { frames := 0, cells := 0, slots := 0, locals := 0 } s m args below meth c 5 D cy ad A Q 4 [(2, .int (Int32.ofInt x2)), (3, .int (Int32.ofInt x3))] [] σ := by
  intro n
  induction n with
  | zero =>
    intro x2 x3 hx2 hx3 h
    cases h
  | succ n ih =>
    intro x2 x3 hx2 hx3 h
    rw [X6_common_L4] at h
    refine g_iload_n C dX6_common_4 1 rfl ?_
    refine g_if_eq C 21 dX6_common_5 (by decide) hx3 (fun c1 => ?_) (fun c1 => ?_)
    · have h := z_t c1 h
      refine g_sub [0] rfl ?_
      exact hk21 _ hx2 h
    · have h := z_f c1 h
      refine g_iload_n C dX6_common_8 0 rfl ?_
      refine g_iload_n C dX6_common_9 1 rfl ?_
      obtain ⟨g2, h⟩ := z_g h
      have r3 := zmodR hx2 hx3 g2
      refine g_irem C hx2 hx3 g2 dX6_common_10 ?_
      refine g_istore C dX6_common_11 (by decide) (vs' := [(4, .int (Int32.ofInt (x2 % x3))), (2, .int (Int32.ofInt x2)), (3, .int (Int32.ofInt x3))]) rfl ?_
      refine g_iload_n C dX6_common_13 2 rfl ?_
      refine g_istore_n C dX6_common_14 (by decide) (vs' := [(2, .int (Int32.ofInt x3)), (4, .int (Int32.ofInt (x2 % x3))), (3, .int (Int32.ofInt x3))]) rfl ?_
      refine g_iload C dX6_common_15 1 rfl ?_
      refine g_istore_n C dX6_common_17 (by decide) (vs' := [(3, .int (Int32.ofInt (x2 % x3))), (2, .int (Int32.ofInt x3)), (4, .int (Int32.ofInt (x2 % x3)))]) rfl ?_
      refine g_goto C 4 dX6_common_18 (by decide) ?_
      refine g_sub [1, 0] rfl ?_
      exact ih _ _ hx3 r3 h
set_option maxHeartbeats 4000000 in
set_option maxRecDepth 100000 in
theorem c_X6_common (l : Launch) {σ : MM} (hM : okM σ) {a1 : Int} (ha1 : inR a1) {a2 : Int} (ha2 : inR a2) {ro : Int} (h : X6_common a1 a2 σ = some ro) : CtI l yX6_common wsX6_common { frames := 0, cells := 0, slots := 0, locals := 0 } (fun ad : Nat → Nat => [.int (Int32.ofInt a1), .int (Int32.ofInt a2)]) σ 0 ro σ := by
  unfold X6_common at h
  refine z_ctI (cc := cX6_common) (maxL := 5) (rt := 0) hM (by decide) rfl (fun _ => Nat.le_of_ble_eq_true rfl) (@fun p e s m args below meth c D cy ad A Q C hR => ?_)
  refine g_sub (vs' := [(0, .int (Int32.ofInt a1)), (1, .int (Int32.ofInt a2))]) [0, 1] rfl ?_
  refine g_iload_n C dX6_common_0 0 rfl ?_
  refine g_istore_n C dX6_common_1 (by decide) (vs' := [(2, .int (Int32.ofInt a1)), (0, .int (Int32.ofInt a1)), (1, .int (Int32.ofInt a2))]) rfl ?_
  refine g_iload_n C dX6_common_2 2 rfl ?_
  refine g_istore_n C dX6_common_3 (by decide) (vs' := [(3, .int (Int32.ofInt a2)), (2, .int (Int32.ofInt a1)), (0, .int (Int32.ofInt a1)), (1, .int (Int32.ofInt a2))]) rfl ?_
  refine g_sub [1, 0] rfl ?_
  refine w_X6_common_L4 C hR ?_ _ _ _ ha1 ha2 h
  · intro z4 hz4 h
    refine g_iload_n C dX6_common_21 0 rfl ?_
    obtain rfl := z_s1 h
    exact hR _ _ dX6_common_22 hz4
theorem in_X6_speedUp_X6 : ∀ w ∈ u_ws RX6 TX6 20, w ∈ wsX6_speedUp := fun _ h => List.mem_cons_of_mem _ (List.mem_append_right _ h)
set_option maxHeartbeats 4000000 in
set_option maxRecDepth 100000 in
theorem c_X6_speedUp (l : Launch) {σ : MM} (hM : okM σ) {a1 : Int} (ha1 : inR a1) {ro : Int} {σo : MM} (h : X6_speedUp a1 σ = some (ro, σo)) : CtI l yX6_speedUp wsX6_speedUp { frames := 6, cells := 0, slots := 0, locals := 134 } (fun ad : Nat → Nat => [.ref (ad 58), .int (Int32.ofInt a1)]) σ 0 ro σo := by
  unfold X6_speedUp at h
  refine z_ctI (cc := cX6_speedUp) (maxL := 4) (rt := 0) hM (by decide) rfl (fun _ => Nat.le_of_ble_eq_true rfl) (@fun p e s m args below meth c D cy ad A Q C hR => ?_)
  refine g_sub (vs' := [(0, .ref (ad 58)), (1, .int (Int32.ofInt a1))]) [0, 1] rfl ?_
  refine g_aload_n C dX6_speedUp_0 0 rfl ?_
  refine g_iconst C dX6_speedUp_1 ?_
  refine gp_X6_3 C in_X6_speedUp_X6 (List.mem_of_getElem? (i := 1) rfl) (by decide) dX6_speedUp_2 ?_
  obtain ⟨σ1, e2, h⟩ := z_l h
  refine g_mem e2 ?_
  refine g_iload_n C dX6_speedUp_5 1 rfl ?_
  refine g_iconst C dX6_speedUp_6 ?_
  refine g_iconst C dX6_speedUp_7 ?_
  obtain ⟨r3, e4, h⟩ := z_b h
  refine g_callS (n := 3) C (fun hM => c_X6_in l hM ha1 (by decide) (by decide) e4) gX6_speedUp_X6_in rfl (by decide) ⟨rfl, rfl⟩ ⟨Nat.le_of_ble_eq_true rfl, Nat.le_of_ble_eq_true rfl⟩ rfl rfl (rest := []) rfl (Nat.le_of_ble_eq_true rfl) dX6_speedUp_8 (fun q5 => ?_)
  have q5 : r3 = 0 ∨ r3 = 1 := q5
  refine g_if_ne C 20 dX6_speedUp_11 (by decide) (rgT_inR (rt := 1) q5) (fun c6 => ?_) (fun c6 => ?_)
  · have h := z_f c6 h
    refine g_aload_n C dX6_speedUp_20 0 rfl ?_
    refine gf_X6_0 C in_X6_speedUp_X6 (List.mem_of_getElem? (i := 2) rfl) dX6_speedUp_21 ?_
    refine g_iconst C dX6_speedUp_24 ?_
    refine g_iald C ly_c59 (Nat.le_of_ble_eq_true rfl) (by decide) (by decide) dX6_speedUp_25 (fun r7 => ?_)
    refine g_if_ne C 35 dX6_speedUp_26 (by decide) r7 (fun c8 => ?_) (fun c8 => ?_)
    · have h := z_f c8 h
      refine g_aload_n C dX6_speedUp_35 0 rfl ?_
      obtain ⟨r9, e10, h⟩ := z_b h
      refine g_callI (n := 0) C (fun hM => c_X6_allCosts l hM  e10) gX6_speedUp_X6_allCosts rfl (by decide) ⟨rfl, rfl⟩ ⟨Nat.le_of_ble_eq_true rfl, Nat.le_of_ble_eq_true rfl⟩ rfl ly_c58 (Nat.le_of_ble_eq_true rfl) rfl rfl (rest := []) rfl (Nat.le_of_ble_eq_true rfl) dX6_speedUp_36 (fun q11 => ?_)
      have q11 : inR r9 := q11
      refine g_aload_n C dX6_speedUp_39 0 rfl ?_
      refine gf_X6_0 C in_X6_speedUp_X6 (List.mem_of_getElem? (i := 2) rfl) dX6_speedUp_40 ?_
      refine g_iconst C dX6_speedUp_43 ?_
      refine g_iald C ly_c59 (Nat.le_of_ble_eq_true rfl) (by decide) (by decide) dX6_speedUp_44 (fun r12 => ?_)
      refine g_imul C dX6_speedUp_45 ?_
      refine g_istore_n C dX6_speedUp_46 (by decide) (vs' := [(2, .int (Int32.ofInt (r9 * (σ1 59 2)))), (0, .ref (ad 58)), (1, .int (Int32.ofInt a1))]) rfl ?_
      refine g_aload_n C dX6_speedUp_47 1 rfl ?_
      obtain ⟨⟨r13, σ15⟩, e14, h⟩ := z_b h
      refine g_callI (n := 0) C (fun hM => c_X6_runs l hM  e14) gX6_speedUp_X6_runs rfl (by decide) ⟨rfl, rfl⟩ ⟨Nat.le_of_ble_eq_true rfl, Nat.le_of_ble_eq_true rfl⟩ rfl ly_c58 (Nat.le_of_ble_eq_true rfl) rfl rfl (rest := []) rfl (Nat.le_of_ble_eq_true rfl) dX6_speedUp_48 (fun q16 => ?_)
      have q16 : inR r13 := q16
      refine g_istore_n C dX6_speedUp_51 (by decide) (vs' := [(3, .int (Int32.ofInt r13)), (2, .int (Int32.ofInt (r9 * (σ1 59 2)))), (0, .ref (ad 58)), (1, .int (Int32.ofInt a1))]) rfl ?_
      refine g_iload_n C dX6_speedUp_52 3 rfl ?_
      refine g_if_ne C 60 dX6_speedUp_53 (by decide) ha1 (fun c17 => ?_) (fun c17 => ?_)
      · have h := z_f c17 h
        refine g_iload_n C dX6_speedUp_60 0 rfl ?_
        refine g_iload_n C dX6_speedUp_61 1 rfl ?_
        refine g_iload_n C dX6_speedUp_62 0 rfl ?_
        obtain ⟨g18, h⟩ := z_g h
        obtain ⟨r19, e20, h⟩ := z_b h
        refine g_callS (n := 2) C (fun hM => c_X6_common l hM g18 q16 e20) gX6_speedUp_X6_common rfl (by decide) ⟨rfl, rfl⟩ ⟨Nat.le_of_ble_eq_true rfl, Nat.le_of_ble_eq_true rfl⟩ rfl rfl (rest := [.int (Int32.ofInt r13)]) rfl (Nat.le_of_ble_eq_true rfl) dX6_speedUp_63 (fun q21 => ?_)
        have q21 : inR r19 := q21
        obtain ⟨g22, h⟩ := z_g h
        have r23 := zdivR q16 q21 g22
        refine g_idiv C q16 q21 g22 dX6_speedUp_66 ?_
        obtain ⟨rfl, rfl⟩ := z_s2 h
        exact hR _ _ dX6_speedUp_67 r23
      · have h := z_t c17 h
        refine g_iload_n C dX6_speedUp_56 1 rfl ?_
        refine g_goto C 61 dX6_speedUp_57 (by decide) ?_
        refine g_iload_n C dX6_speedUp_61 1 rfl ?_
        refine g_iload_n C dX6_speedUp_62 0 rfl ?_
        obtain ⟨g24, h⟩ := z_g h
        obtain ⟨r25, e26, h⟩ := z_b h
        refine g_callS (n := 2) C (fun hM => c_X6_common l hM g24 q16 e26) gX6_speedUp_X6_common rfl (by decide) ⟨rfl, rfl⟩ ⟨Nat.le_of_ble_eq_true rfl, Nat.le_of_ble_eq_true rfl⟩ rfl rfl (rest := [.int (Int32.ofInt (r9 * (σ1 59 2)))]) rfl (Nat.le_of_ble_eq_true rfl) dX6_speedUp_63 (fun q27 => ?_)
        have q27 : inR r25 := q27
        obtain ⟨g28, h⟩ := z_g h
        have r29 := zdivR g24 q27 g28
        refine g_idiv C g24 q27 g28 dX6_speedUp_66 ?_
        obtain ⟨rfl, rfl⟩ := z_s2 h
        exact hR _ _ dX6_speedUp_67 r29
    · have h := z_t c8 h
      refine g_aload_n C dX6_speedUp_29 0 rfl ?_
      refine g_iconst C dX6_speedUp_30 ?_
      obtain ⟨⟨r30, σ32⟩, e31, h⟩ := z_b h
      refine g_callI (n := 1) C (fun hM => c_X6_fails l hM (by decide) e31) gX6_speedUp_X6_fails rfl (by decide) ⟨rfl, rfl⟩ ⟨Nat.le_of_ble_eq_true rfl, Nat.le_of_ble_eq_true rfl⟩ rfl ly_c58 (Nat.le_of_ble_eq_true rfl) rfl rfl (rest := []) rfl (Nat.le_of_ble_eq_true rfl) dX6_speedUp_31 (fun q33 => ?_)
      have q33 : inR r30 := q33
      obtain ⟨rfl, rfl⟩ := z_s2 h
      exact hR _ _ dX6_speedUp_34 q33
  · have h := z_t c6 h
    refine g_aload_n C dX6_speedUp_14 0 rfl ?_
    refine g_iconst C dX6_speedUp_15 ?_
    obtain ⟨⟨r34, σ36⟩, e35, h⟩ := z_b h
    refine g_callI (n := 1) C (fun hM => c_X6_fails l hM (by decide) e35) gX6_speedUp_X6_fails rfl (by decide) ⟨rfl, rfl⟩ ⟨Nat.le_of_ble_eq_true rfl, Nat.le_of_ble_eq_true rfl⟩ rfl ly_c58 (Nat.le_of_ble_eq_true rfl) rfl rfl (rest := []) rfl (Nat.le_of_ble_eq_true rfl) dX6_speedUp_16 (fun q37 => ?_)
    have q37 : inR r34 := q37
    obtain ⟨rfl, rfl⟩ := z_s2 h
    exact hR _ _ dX6_speedUp_19 q37
theorem in_X6_bestProcessors_X6 : ∀ w ∈ u_ws RX6 TX6 20, w ∈ wsX6_bestProcessors := fun _ h => List.mem_cons_of_mem _ (List.mem_append_right _ h)
set_option maxHeartbeats 4000000 in
set_option maxRecDepth 100000 in
theorem w_X6_bestProcessors_L19 {p : Program} {l : Launch} {e : Env} {s : State} {m : MethodId} {args : Array Value} {below : List Frame} {meth : Method} {c : Code} {D : va_G} {cy : Nat → ClassId} {ad : Nat → Nat} {A : Nat → Prop} {Q : State → Prop} (C : Cx p s m args meth c cX6_bestProcessors RX6 6 wsX6_bestProcessors D cy A) {x1 : Int} (hx1 : inR x1) {k62 : Int → MM → Option (Int × MM)} {ro : Int} {σo : MM} (hR : RetI p l e { frames := 6, cells := 0, slots := 0, locals := 134 } s m args below meth c cX6_bestProcessors 6 D cy ad A Q 0 ro σo) (hk62 : ∀ (z2 : Int) (σ : MM), inR z2 → k62 z2 σ = some (ro, σo) → G p l e { frames := 6, cells := 0, slots := 0, locals := 134 } s m args below meth c 6 D cy ad A Q 62 [(0, .ref (ad 58)), (1, .int (Int32.ofInt x1)), (2, .int (Int32.ofInt z2))] [] σ) : ∀ (n : Nat) (x2 x3 x4 : Int) (σ : MM) , inR x2 → inR x3 → inR x4 → X6_bestProcessors_L19 x1 k62 n x2 x3 x4 σ = some (ro, σo) → G p l e { frames := 6, cells := 0, slots := 0, locals := 134 } s m args below meth c 6 D cy ad A Q 19 [(0, .ref (ad 58)), (1, .int (Int32.ofInt x1)), (2, .int (Int32.ofInt x2)), (3, .int (Int32.ofInt x3)), (4, .int (Int32.ofInt x4))] [] σ := by
  intro n
  induction n with
  | zero =>
    intro x2 x3 x4 σ hx2 hx3 hx4 h
    cases h
  | succ n ih =>
    intro x2 x3 x4 σ hx2 hx3 hx4 h
    rw [X6_bestProcessors_L19] at h
    refine g_iload C dX6_bestProcessors_19 4 rfl ?_
    refine g_bipush C dX6_bestProcessors_21 (by decide) ?_
    refine g_icmp_ge C 62 dX6_bestProcessors_23 (by decide) hx4 (by decide) (fun c4 => ?_) (fun c4 => ?_)
    · have h := z_f c4 h
      refine g_sub [0, 1, 2] rfl ?_
      exact hk62 _ _ hx2 h
    · have h := z_t c4 h
      refine g_aload_n C dX6_bestProcessors_26 0 rfl ?_
      refine gf_X6_0 C in_X6_bestProcessors_X6 (List.mem_of_getElem? (i := 2) rfl) dX6_bestProcessors_27 ?_
      refine g_iconst C dX6_bestProcessors_30 ?_
      refine g_iload C dX6_bestProcessors_31 4 rfl ?_
      refine g_iast C ly_c59 (Nat.le_of_ble_eq_true rfl) (by decide) (by decide) hx4 dX6_bestProcessors_33 ?_
      obtain ⟨σ5, e6, h⟩ := z_l h
      refine g_mem e6 ?_
      refine g_aload_n C dX6_bestProcessors_34 0 rfl ?_
      obtain ⟨⟨r7, σ9⟩, e8, h⟩ := z_b h
      refine g_callI (n := 0) C (fun hM => c_X6_runs l hM  e8) gX6_bestProcessors_X6_runs rfl (by decide) ⟨rfl, rfl⟩ ⟨Nat.le_of_ble_eq_true rfl, Nat.le_of_ble_eq_true rfl⟩ rfl ly_c58 (Nat.le_of_ble_eq_true rfl) rfl rfl (rest := []) rfl (Nat.le_of_ble_eq_true rfl) dX6_bestProcessors_35 (fun q10 => ?_)
      have q10 : inR r7 := q10
      refine g_istore C dX6_bestProcessors_38 (by decide) (vs' := [(5, .int (Int32.ofInt r7)), (0, .ref (ad 58)), (1, .int (Int32.ofInt x1)), (2, .int (Int32.ofInt x2)), (3, .int (Int32.ofInt x3)), (4, .int (Int32.ofInt x4))]) rfl ?_
      refine g_iload_n C dX6_bestProcessors_40 3 rfl ?_
      refine g_if_eq C 50 dX6_bestProcessors_41 (by decide) hx2 (fun c11 => ?_) (fun c11 => ?_)
      · have h := z_t c11 h
        refine g_iload C dX6_bestProcessors_50 5 rfl ?_
        refine g_istore_n C dX6_bestProcessors_52 (by decide) (vs' := [(2, .int (Int32.ofInt x4)), (5, .int (Int32.ofInt r7)), (0, .ref (ad 58)), (1, .int (Int32.ofInt x1)), (3, .int (Int32.ofInt x3)), (4, .int (Int32.ofInt x4))]) rfl ?_
        refine g_iload C dX6_bestProcessors_53 1 rfl ?_
        refine g_istore_n C dX6_bestProcessors_55 (by decide) (vs' := [(3, .int (Int32.ofInt r7)), (2, .int (Int32.ofInt x4)), (5, .int (Int32.ofInt r7)), (0, .ref (ad 58)), (1, .int (Int32.ofInt x1)), (4, .int (Int32.ofInt x4))]) rfl ?_
        refine g_iinc C dX6_bestProcessors_56 (j := 5) rfl (by decide) (vs' := [(4, .int (Int32.ofInt (x4 + 1))), (3, .int (Int32.ofInt r7)), (2, .int (Int32.ofInt x4)), (5, .int (Int32.ofInt r7)), (0, .ref (ad 58)), (1, .int (Int32.ofInt x1))]) rfl ?_
        refine g_goto C 19 dX6_bestProcessors_59 (by decide) ?_
        refine g_sub [4, 5, 2, 1, 0] rfl ?_
        exact ih _ _ _ _ hx4 q10 (by omega) h
      · have h := z_f c11 h
        refine g_iload C dX6_bestProcessors_44 0 rfl ?_
        refine g_iload_n C dX6_bestProcessors_46 4 rfl ?_
        refine g_icmp_ge C 56 dX6_bestProcessors_47 (by decide) q10 hx3 (fun c12 => ?_) (fun c12 => ?_)
        · have h := z_f c12 h
          refine g_iinc C dX6_bestProcessors_56 (j := 5) rfl (by decide) (vs' := [(4, .int (Int32.ofInt (x4 + 1))), (5, .int (Int32.ofInt r7)), (0, .ref (ad 58)), (1, .int (Int32.ofInt x1)), (2, .int (Int32.ofInt x2)), (3, .int (Int32.ofInt x3))]) rfl ?_
          refine g_goto C 19 dX6_bestProcessors_59 (by decide) ?_
          refine g_sub [2, 3, 4, 5, 0] rfl ?_
          exact ih _ _ _ _ hx2 hx3 (by omega) h
        · have h := z_t c12 h
          refine g_iload C dX6_bestProcessors_50 5 rfl ?_
          refine g_istore_n C dX6_bestProcessors_52 (by decide) (vs' := [(2, .int (Int32.ofInt x4)), (5, .int (Int32.ofInt r7)), (0, .ref (ad 58)), (1, .int (Int32.ofInt x1)), (3, .int (Int32.ofInt x3)), (4, .int (Int32.ofInt x4))]) rfl ?_
          refine g_iload C dX6_bestProcessors_53 1 rfl ?_
          refine g_istore_n C dX6_bestProcessors_55 (by decide) (vs' := [(3, .int (Int32.ofInt r7)), (2, .int (Int32.ofInt x4)), (5, .int (Int32.ofInt r7)), (0, .ref (ad 58)), (1, .int (Int32.ofInt x1)), (4, .int (Int32.ofInt x4))]) rfl ?_
          refine g_iinc C dX6_bestProcessors_56 (j := 5) rfl (by decide) (vs' := [(4, .int (Int32.ofInt (x4 + 1))), (3, .int (Int32.ofInt r7)), (2, .int (Int32.ofInt x4)), (5, .int (Int32.ofInt r7)), (0, .ref (ad 58)), (1, .int (Int32.ofInt x1))]) rfl ?_
          refine g_goto C 19 dX6_bestProcessors_59 (by decide) ?_
          refine g_sub [4, 5, 2, 1, 0] rfl ?_
          exact ih _ _ _ _ hx4 q10 (by omega) h
set_option maxHeartbeats 4000000 in
set_option maxRecDepth 100000 in
theorem c_X6_bestProcessors (l : Launch) {σ : MM} (hM : okM σ) {ro : Int} {σo : MM} (h : X6_bestProcessors σ = some (ro, σo)) : CtI l yX6_bestProcessors wsX6_bestProcessors { frames := 6, cells := 0, slots := 0, locals := 134 } (fun ad : Nat → Nat => [.ref (ad 58)]) σ 0 ro σo := by
  unfold X6_bestProcessors at h
  refine z_ctI (cc := cX6_bestProcessors) (maxL := 6) (rt := 0) hM (by decide) rfl (fun _ => Nat.le_of_ble_eq_true rfl) (@fun p e s m args below meth c D cy ad A Q C hR => ?_)
  refine g_sub (vs' := [(0, .ref (ad 58))]) [0] rfl ?_
  refine g_aload_n C dX6_bestProcessors_0 0 rfl ?_
  refine g_iconst C dX6_bestProcessors_1 ?_
  refine gp_X6_3 C in_X6_bestProcessors_X6 (List.mem_of_getElem? (i := 1) rfl) (by decide) dX6_bestProcessors_2 ?_
  obtain ⟨σ1, e2, h⟩ := z_l h
  refine g_mem e2 ?_
  refine g_aload_n C dX6_bestProcessors_5 0 rfl ?_
  refine gf_X6_0 C in_X6_bestProcessors_X6 (List.mem_of_getElem? (i := 2) rfl) dX6_bestProcessors_6 ?_
  refine g_iconst C dX6_bestProcessors_9 ?_
  refine g_iald C ly_c59 (Nat.le_of_ble_eq_true rfl) (by decide) (by decide) dX6_bestProcessors_10 (fun r3 => ?_)
  refine g_istore_n C dX6_bestProcessors_11 (by decide) (vs' := [(1, .int (Int32.ofInt (σ1 59 4))), (0, .ref (ad 58))]) rfl ?_
  refine g_iconst C dX6_bestProcessors_12 ?_
  refine g_istore_n C dX6_bestProcessors_13 (by decide) (vs' := [(2, .int (Int32.ofInt 0)), (1, .int (Int32.ofInt (σ1 59 4))), (0, .ref (ad 58))]) rfl ?_
  refine g_iconst C dX6_bestProcessors_14 ?_
  refine g_istore_n C dX6_bestProcessors_15 (by decide) (vs' := [(3, .int (Int32.ofInt 0)), (2, .int (Int32.ofInt 0)), (1, .int (Int32.ofInt (σ1 59 4))), (0, .ref (ad 58))]) rfl ?_
  refine g_iconst C dX6_bestProcessors_16 ?_
  refine g_istore C dX6_bestProcessors_17 (by decide) (vs' := [(4, .int (Int32.ofInt 1)), (3, .int (Int32.ofInt 0)), (2, .int (Int32.ofInt 0)), (1, .int (Int32.ofInt (σ1 59 4))), (0, .ref (ad 58))]) rfl ?_
  refine g_sub [4, 3, 2, 1, 0] rfl ?_
  refine w_X6_bestProcessors_L19 C r3 hR ?_ _ _ _ _ _ (by decide) (by decide) (by decide) h
  · intro z13 σ14 hz13 h
    refine g_aload_n C dX6_bestProcessors_62 0 rfl ?_
    refine gf_X6_0 C in_X6_bestProcessors_X6 (List.mem_of_getElem? (i := 2) rfl) dX6_bestProcessors_63 ?_
    refine g_iconst C dX6_bestProcessors_66 ?_
    refine g_iload_n C dX6_bestProcessors_67 1 rfl ?_
    refine g_iast C ly_c59 (Nat.le_of_ble_eq_true rfl) (by decide) (by decide) r3 dX6_bestProcessors_68 ?_
    obtain ⟨σ15, e16, h⟩ := z_l h
    refine g_mem e16 ?_
    refine g_iload_n C dX6_bestProcessors_69 2 rfl ?_
    obtain ⟨rfl, rfl⟩ := z_s2 h
    exact hR _ _ dX6_bestProcessors_70 hz13
theorem in_X6_signals_X6 : ∀ w ∈ u_ws RX6 TX6 20, w ∈ wsX6_signals := fun _ h => List.mem_cons_of_mem _ (List.mem_append_right _ h)
set_option maxHeartbeats 4000000 in
set_option maxRecDepth 100000 in
theorem w_X6_signals_L9 {p : Program} {l : Launch} {e : Env} {s : State} {m : MethodId} {args : Array Value} {below : List Frame} {meth : Method} {c : Code} {D : va_G} {cy : Nat → ClassId} {ad : Nat → Nat} {A : Nat → Prop} {Q : State → Prop} (C : Cx p s m args meth c cX6_signals RX6 3 wsX6_signals D cy A) {k66 : Int → MM → Option (Int × MM)} {ro : Int} {σo : MM} (hR : RetI p l e { frames := 3, cells := 0, slots := 0, locals := 63 } s m args below meth c cX6_signals 3 D cy ad A Q 0 ro σo) (hk66 : ∀ (z1 : Int) (σ : MM), inR z1 → k66 z1 σ = some (ro, σo) → G p l e { frames := 3, cells := 0, slots := 0, locals := 63 } s m args below meth c 3 D cy ad A Q 66 [(1, .int (Int32.ofInt z1))] [] σ) : ∀ (n : Nat) (x1 x2 : Int) (σ : MM) , inR x1 → inR x2 → X6_signals_L9 k66 n x1 x2 σ = some (ro, σo) → G p l e { frames := 3, cells := 0, slots := 0, locals := 63 } s m args below meth c 3 D cy ad A Q 9 [(0, .ref (ad 58)), (1, .int (Int32.ofInt x1)), (2, .int (Int32.ofInt x2))] [] σ := by
  intro n
  induction n with
  | zero =>
    intro x1 x2 σ hx1 hx2 h
    cases h
  | succ n ih =>
    intro x1 x2 σ hx1 hx2 h
    rw [X6_signals_L9] at h
    refine g_iload_n C dX6_signals_9 2 rfl ?_
    refine g_aload_n C dX6_signals_10 0 rfl ?_
    refine gf_X6_0 C in_X6_signals_X6 (List.mem_of_getElem? (i := 2) rfl) dX6_signals_11 ?_
    refine g_iconst C dX6_signals_14 ?_
    refine g_iald C ly_c59 (Nat.le_of_ble_eq_true rfl) (by decide) (by decide) dX6_signals_15 (fun r3 => ?_)
    refine g_icmp_ge C 66 dX6_signals_16 (by decide) hx2 r3 (fun c4 => ?_) (fun c4 => ?_)
    · have h := z_f c4 h
      refine g_sub [1] rfl ?_
      exact hk66 _ _ hx1 h
    · have h := z_t c4 h
      refine g_iload_n C dX6_signals_19 1 rfl ?_
      refine g_aload_n C dX6_signals_20 0 rfl ?_
      refine g_iload_n C dX6_signals_21 2 rfl ?_
      obtain ⟨r5, e6, h⟩ := z_b h
      refine g_callI (n := 1) C (fun hM => c_X6_isSignal l hM hx2 e6) gX6_signals_X6_isSignal rfl (by decide) ⟨rfl, rfl⟩ ⟨Nat.le_of_ble_eq_true rfl, Nat.le_of_ble_eq_true rfl⟩ rfl ly_c58 (Nat.le_of_ble_eq_true rfl) rfl rfl (rest := [.int (Int32.ofInt x1)]) rfl (Nat.le_of_ble_eq_true rfl) dX6_signals_22 (fun q7 => ?_)
      have q7 : r5 = 0 ∨ r5 = 1 := q7
      refine g_if_eq C 57 dX6_signals_25 (by decide) (rgT_inR (rt := 1) q7) (fun c8 => ?_) (fun c8 => ?_)
      · have h := z_t c8 h
        refine g_iconst C dX6_signals_57 ?_
        refine g_iadd C dX6_signals_58 ?_
        refine g_istore_n C dX6_signals_59 (by decide) (vs' := [(1, .int (Int32.ofInt (x1 + 0))), (0, .ref (ad 58)), (2, .int (Int32.ofInt x2))]) rfl ?_
        refine g_iinc C dX6_signals_60 (j := 2) rfl (by decide) (vs' := [(2, .int (Int32.ofInt (x2 + 1))), (1, .int (Int32.ofInt (x1 + 0))), (0, .ref (ad 58))]) rfl ?_
        refine g_goto C 9 dX6_signals_63 (by decide) ?_
        refine g_sub [2, 1, 0] rfl ?_
        exact ih _ _ _ (by omega) (by omega) h
      · have h := z_f c8 h
        refine g_aload_n C dX6_signals_28 0 rfl ?_
        refine gf_X6_0 C in_X6_signals_X6 (List.mem_of_getElem? (i := 2) rfl) dX6_signals_29 ?_
        refine g_iconst C dX6_signals_32 ?_
        refine g_iald C ly_c59 (Nat.le_of_ble_eq_true rfl) (by decide) (by decide) dX6_signals_33 (fun r9 => ?_)
        refine g_aload_n C dX6_signals_34 0 rfl ?_
        refine g_iload_n C dX6_signals_35 2 rfl ?_
        obtain ⟨r10, e11, h⟩ := z_b h
        refine g_callI (n := 1) C (fun hM => c_X6_far l hM hx2 e11) gX6_signals_X6_far rfl (by decide) ⟨rfl, rfl⟩ ⟨Nat.le_of_ble_eq_true rfl, Nat.le_of_ble_eq_true rfl⟩ rfl ly_c58 (Nat.le_of_ble_eq_true rfl) rfl rfl (rest := [.int (Int32.ofInt (σ 59 2)), .int (Int32.ofInt x1)]) rfl (Nat.le_of_ble_eq_true rfl) dX6_signals_36 (fun q12 => ?_)
        have q12 : inR r10 := q12
        refine g_icmp_le C 57 dX6_signals_39 (by decide) r9 q12 (fun c13 => ?_) (fun c13 => ?_)
        · have h := z_f c13 h
          refine g_iconst C dX6_signals_57 ?_
          refine g_iadd C dX6_signals_58 ?_
          refine g_istore_n C dX6_signals_59 (by decide) (vs' := [(1, .int (Int32.ofInt (x1 + 0))), (0, .ref (ad 58)), (2, .int (Int32.ofInt x2))]) rfl ?_
          refine g_iinc C dX6_signals_60 (j := 2) rfl (by decide) (vs' := [(2, .int (Int32.ofInt (x2 + 1))), (1, .int (Int32.ofInt (x1 + 0))), (0, .ref (ad 58))]) rfl ?_
          refine g_goto C 9 dX6_signals_63 (by decide) ?_
          refine g_sub [2, 1, 0] rfl ?_
          exact ih _ _ _ (by omega) (by omega) h
        · have h := z_t c13 h
          refine g_aload_n C dX6_signals_42 0 rfl ?_
          refine gf_X6_0 C in_X6_signals_X6 (List.mem_of_getElem? (i := 2) rfl) dX6_signals_43 ?_
          refine g_iconst C dX6_signals_46 ?_
          refine g_iald C ly_c59 (Nat.le_of_ble_eq_true rfl) (by decide) (by decide) dX6_signals_47 (fun r14 => ?_)
          refine g_aload_n C dX6_signals_48 0 rfl ?_
          refine g_iload_n C dX6_signals_49 2 rfl ?_
          obtain ⟨r15, e16, h⟩ := z_b h
          refine g_callI (n := 1) C (fun hM => c_X6_far l hM hx2 e16) gX6_signals_X6_far rfl (by decide) ⟨rfl, rfl⟩ ⟨Nat.le_of_ble_eq_true rfl, Nat.le_of_ble_eq_true rfl⟩ rfl ly_c58 (Nat.le_of_ble_eq_true rfl) rfl rfl (rest := [.int (Int32.ofInt (σ 59 2)), .int (Int32.ofInt x1)]) rfl (Nat.le_of_ble_eq_true rfl) dX6_signals_50 (fun q17 => ?_)
          have q17 : inR r15 := q17
          refine g_isub C dX6_signals_53 ?_
          refine g_goto C 58 dX6_signals_54 (by decide) ?_
          refine g_iadd C dX6_signals_58 ?_
          refine g_istore_n C dX6_signals_59 (by decide) (vs' := [(1, .int (Int32.ofInt (x1 + ((σ 59 2) - r15)))), (0, .ref (ad 58)), (2, .int (Int32.ofInt x2))]) rfl ?_
          refine g_iinc C dX6_signals_60 (j := 2) rfl (by decide) (vs' := [(2, .int (Int32.ofInt (x2 + 1))), (1, .int (Int32.ofInt (x1 + ((σ 59 2) - r15)))), (0, .ref (ad 58))]) rfl ?_
          refine g_goto C 9 dX6_signals_63 (by decide) ?_
          obtain ⟨g18, h⟩ := z_g h
          refine g_sub [2, 1, 0] rfl ?_
          exact ih _ _ _ g18 (by omega) h
set_option maxHeartbeats 4000000 in
set_option maxRecDepth 100000 in
theorem c_X6_signals (l : Launch) {σ : MM} (hM : okM σ) {ro : Int} {σo : MM} (h : X6_signals σ = some (ro, σo)) : CtI l yX6_signals wsX6_signals { frames := 3, cells := 0, slots := 0, locals := 63 } (fun ad : Nat → Nat => [.ref (ad 58)]) σ 0 ro σo := by
  unfold X6_signals at h
  refine z_ctI (cc := cX6_signals) (maxL := 3) (rt := 0) hM (by decide) rfl (fun _ => Nat.le_of_ble_eq_true rfl) (@fun p e s m args below meth c D cy ad A Q C hR => ?_)
  refine g_sub (vs' := [(0, .ref (ad 58))]) [0] rfl ?_
  refine g_aload_n C dX6_signals_0 0 rfl ?_
  refine g_iconst C dX6_signals_1 ?_
  refine gp_X6_3 C in_X6_signals_X6 (List.mem_of_getElem? (i := 1) rfl) (by decide) dX6_signals_2 ?_
  obtain ⟨σ1, e2, h⟩ := z_l h
  refine g_mem e2 ?_
  refine g_iconst C dX6_signals_5 ?_
  refine g_istore_n C dX6_signals_6 (by decide) (vs' := [(1, .int (Int32.ofInt 0)), (0, .ref (ad 58))]) rfl ?_
  refine g_iconst C dX6_signals_7 ?_
  refine g_istore_n C dX6_signals_8 (by decide) (vs' := [(2, .int (Int32.ofInt 0)), (1, .int (Int32.ofInt 0)), (0, .ref (ad 58))]) rfl ?_
  refine g_sub [2, 1, 0] rfl ?_
  refine w_X6_signals_L9 C hR ?_ _ _ _ _ (by decide) (by decide) h
  · intro z19 σ20 hz19 h
    refine g_iload_n C dX6_signals_66 0 rfl ?_
    obtain ⟨rfl, rfl⟩ := z_s2 h
    exact hR _ _ dX6_signals_67 hz19
theorem in_X6_isViolated_X6 : ∀ w ∈ u_ws RX6 TX6 20, w ∈ wsX6_isViolated := fun _ h => List.mem_cons_of_mem _ (List.mem_append_right _ h)
set_option maxHeartbeats 4000000 in
set_option maxRecDepth 100000 in
theorem w_X6_isViolated_L24 {p : Program} {l : Launch} {e : Env} {s : State} {m : MethodId} {args : Array Value} {below : List Frame} {meth : Method} {c : Code} {D : va_G} {cy : Nat → ClassId} {ad : Nat → Nat} {A : Nat → Prop} {Q : State → Prop} (C : Cx p s m args meth c cX6_isViolated RX6 4 wsX6_isViolated D cy A) {σ : MM} {x1 : Int} (hx1 : inR x1) {x2 : Int} (hx2 : inR x2) {k89 : Option Int} {ro : Int} (hR : RetI p l e { frames := 4, cells := 0, slots := 0, locals := 85 } s m args below meth c cX6_isViolated 4 D cy ad A Q 1 ro σ) (hk89 :  k89 = some ro → G p l e { frames := 4, cells := 0, slots := 0, locals := 85 } s m args below meth c 4 D cy ad A Q 89 [] [] σ) : ∀ (n : Nat) (x3 : Int) , inR x3 → X6_isViolated_L24 x1 x2 σ k89 n x3 = some ro → G p l e { frames := 4, cells := 0, slots := 0, locals := 85 } s m args below meth c 4 D cy ad A Q 24 [(0, .ref (ad 58)), (1, .int (Int32.ofInt x1)), (2, .int (Int32.ofInt x2)), (3, .int (Int32.ofInt x3))] [] σ := by
  intro n
  induction n with
  | zero =>
    intro x3 hx3 h
    cases h
  | succ n ih =>
    intro x3 hx3 h
    rw [X6_isViolated_L24] at h
    refine g_iload_n C dX6_isViolated_24 3 rfl ?_
    refine g_aload_n C dX6_isViolated_25 0 rfl ?_
    refine g_iload_n C dX6_isViolated_26 1 rfl ?_
    obtain ⟨r8, e9, h⟩ := z_b h
    refine g_callI (n := 1) C (fun hM => c_X6_far l hM hx1 e9) gX6_isViolated_X6_far rfl (by decide) ⟨rfl, rfl⟩ ⟨Nat.le_of_ble_eq_true rfl, Nat.le_of_ble_eq_true rfl⟩ rfl ly_c58 (Nat.le_of_ble_eq_true rfl) rfl rfl (rest := [.int (Int32.ofInt x3)]) rfl (Nat.le_of_ble_eq_true rfl) dX6_isViolated_27 (fun q10 => ?_)
    have q10 : inR r8 := q10
    refine g_iadd C dX6_isViolated_30 ?_
    refine g_aload_n C dX6_isViolated_31 0 rfl ?_
    refine gf_X6_0 C in_X6_isViolated_X6 (List.mem_of_getElem? (i := 1) rfl) dX6_isViolated_32 ?_
    refine g_iconst C dX6_isViolated_35 ?_
    refine g_iald C ly_c59 (Nat.le_of_ble_eq_true rfl) (by decide) (by decide) dX6_isViolated_36 (fun r11 => ?_)
    obtain ⟨g12, h⟩ := z_g h
    refine g_icmp_ge C 89 dX6_isViolated_37 (by decide) g12 r11 (fun c13 => ?_) (fun c13 => ?_)
    · have h := z_f c13 h
      refine g_sub [] rfl ?_
      exact hk89  h
    · have h := z_t c13 h
      refine g_aload_n C dX6_isViolated_40 0 rfl ?_
      refine gf_X6_13 C in_X6_isViolated_X6 (List.mem_of_getElem? (i := 2) rfl) dX6_isViolated_41 ?_
      refine g_bipush C dX6_isViolated_44 (by decide) ?_
      refine g_aload_n C dX6_isViolated_46 0 rfl ?_
      refine g_iload_n C dX6_isViolated_47 1 rfl ?_
      obtain ⟨r14, e15, h⟩ := z_b h
      refine g_callI (n := 1) C (fun hM => c_X6_target l hM hx1 e15) gX6_isViolated_X6_target rfl (by decide) ⟨rfl, rfl⟩ ⟨Nat.le_of_ble_eq_true rfl, Nat.le_of_ble_eq_true rfl⟩ rfl ly_c58 (Nat.le_of_ble_eq_true rfl) rfl rfl (rest := [.int (Int32.ofInt 40), .ref (ad 65)]) rfl (Nat.le_of_ble_eq_true rfl) dX6_isViolated_48 (fun q16 => ?_)
      have q16 : inR r14 := q16
      refine g_imul C dX6_isViolated_51 ?_
      refine g_iload_n C dX6_isViolated_52 3 rfl ?_
      refine g_iadd C dX6_isViolated_53 ?_
      refine g_aload_n C dX6_isViolated_54 0 rfl ?_
      refine g_iload_n C dX6_isViolated_55 1 rfl ?_
      obtain ⟨r17, e18, h⟩ := z_b h
      refine g_callI (n := 1) C (fun hM => c_X6_far l hM hx1 e18) gX6_isViolated_X6_far rfl (by decide) ⟨rfl, rfl⟩ ⟨Nat.le_of_ble_eq_true rfl, Nat.le_of_ble_eq_true rfl⟩ rfl ly_c58 (Nat.le_of_ble_eq_true rfl) rfl rfl (rest := [.int (Int32.ofInt ((40 * r14) + x3)), .ref (ad 65)]) rfl (Nat.le_of_ble_eq_true rfl) dX6_isViolated_56 (fun q19 => ?_)
      have q19 : inR r17 := q19
      refine g_iadd C dX6_isViolated_59 ?_
      obtain ⟨g20, h⟩ := z_g h
      refine g_iald C ly_c65 (Nat.le_of_ble_eq_true rfl) (by decide) g20 dX6_isViolated_60 (fun r21 => ?_)
      refine g_aload_n C dX6_isViolated_61 0 rfl ?_
      refine gf_X6_13 C in_X6_isViolated_X6 (List.mem_of_getElem? (i := 2) rfl) dX6_isViolated_62 ?_
      refine g_bipush C dX6_isViolated_65 (by decide) ?_
      refine g_aload_n C dX6_isViolated_67 0 rfl ?_
      refine g_iload_n C dX6_isViolated_68 1 rfl ?_
      obtain ⟨r22, e23, h⟩ := z_b h
      refine g_callI (n := 1) C (fun hM => c_X6_source l hM hx1 e23) gX6_isViolated_X6_source rfl (by decide) ⟨rfl, rfl⟩ ⟨Nat.le_of_ble_eq_true rfl, Nat.le_of_ble_eq_true rfl⟩ rfl ly_c58 (Nat.le_of_ble_eq_true rfl) rfl rfl (rest := [.int (Int32.ofInt 40), .ref (ad 65), .int (Int32.ofInt (σ 65 (((40 * r14) + x3) + r17)))]) rfl (Nat.le_of_ble_eq_true rfl) dX6_isViolated_69 (fun q24 => ?_)
      have q24 : inR r22 := q24
      refine g_imul C dX6_isViolated_72 ?_
      refine g_iload_n C dX6_isViolated_73 3 rfl ?_
      refine g_iadd C dX6_isViolated_74 ?_
      obtain ⟨g25, h⟩ := z_g h
      refine g_iald C ly_c65 (Nat.le_of_ble_eq_true rfl) (by decide) g25 dX6_isViolated_75 (fun r26 => ?_)
      refine g_iload_n C dX6_isViolated_76 2 rfl ?_
      refine g_iadd C dX6_isViolated_77 ?_
      obtain ⟨g27, h⟩ := z_g h
      refine g_icmp_ge C 83 dX6_isViolated_78 (by decide) r21 g27 (fun c28 => ?_) (fun c28 => ?_)
      · have h := z_f c28 h
        refine g_iinc C dX6_isViolated_83 (j := 3) rfl (by decide) (vs' := [(3, .int (Int32.ofInt (x3 + 1))), (0, .ref (ad 58)), (1, .int (Int32.ofInt x1)), (2, .int (Int32.ofInt x2))]) rfl ?_
        refine g_goto C 24 dX6_isViolated_86 (by decide) ?_
        obtain ⟨g29, h⟩ := z_g h
        refine g_sub [1, 2, 3, 0] rfl ?_
        exact ih _ g29 h
      · have h := z_t c28 h
        refine g_iconst C dX6_isViolated_81 ?_
        obtain rfl := z_s1 h
        exact hR _ _ dX6_isViolated_82 (by show _ = _ ∨ _ = _; decide)
set_option maxHeartbeats 4000000 in
set_option maxRecDepth 100000 in
theorem c_X6_isViolated (l : Launch) {σ : MM} (hM : okM σ) {a1 : Int} (ha1 : inR a1) {ro : Int} (h : X6_isViolated a1 σ = some ro) : CtI l yX6_isViolated wsX6_isViolated { frames := 4, cells := 0, slots := 0, locals := 85 } (fun ad : Nat → Nat => [.ref (ad 58), .int (Int32.ofInt a1)]) σ 1 ro σ := by
  unfold X6_isViolated at h
  refine z_ctI (cc := cX6_isViolated) (maxL := 4) (rt := 1) hM (by decide) rfl (fun _ => Nat.le_of_ble_eq_true rfl) (@fun p e s m args below meth c D cy ad A Q C hR => ?_)
  refine g_sub (vs' := [(0, .ref (ad 58)), (1, .int (Int32.ofInt a1))]) [0, 1] rfl ?_
  refine g_aload_n C dX6_isViolated_0 0 rfl ?_
  refine g_iload_n C dX6_isViolated_1 1 rfl ?_
  obtain ⟨r1, e2, h⟩ := z_b h
  refine g_callI (n := 1) C (fun hM => c_X6_far l hM ha1 e2) gX6_isViolated_X6_far rfl (by decide) ⟨rfl, rfl⟩ ⟨Nat.le_of_ble_eq_true rfl, Nat.le_of_ble_eq_true rfl⟩ rfl ly_c58 (Nat.le_of_ble_eq_true rfl) rfl rfl (rest := []) rfl (Nat.le_of_ble_eq_true rfl) dX6_isViolated_2 (fun q3 => ?_)
  have q3 : inR r1 := q3
  refine g_if_ne C 16 dX6_isViolated_5 (by decide) q3 (fun c4 => ?_) (fun c4 => ?_)
  · have h := z_f c4 h
    refine g_aload_n C dX6_isViolated_16 0 rfl ?_
    refine g_iload_n C dX6_isViolated_17 1 rfl ?_
    obtain ⟨r5, e6, h⟩ := z_b h
    refine g_callI (n := 1) C (fun hM => c_X6_lag l hM ha1 e6) gX6_isViolated_X6_lag rfl (by decide) ⟨rfl, rfl⟩ ⟨Nat.le_of_ble_eq_true rfl, Nat.le_of_ble_eq_true rfl⟩ rfl ly_c58 (Nat.le_of_ble_eq_true rfl) rfl rfl (rest := []) rfl (Nat.le_of_ble_eq_true rfl) dX6_isViolated_18 (fun q7 => ?_)
    have q7 : inR r5 := q7
    refine g_istore_n C dX6_isViolated_21 (by decide) (vs' := [(2, .int (Int32.ofInt r5)), (0, .ref (ad 58)), (1, .int (Int32.ofInt a1))]) rfl ?_
    refine g_iconst C dX6_isViolated_22 ?_
    refine g_istore_n C dX6_isViolated_23 (by decide) (vs' := [(3, .int (Int32.ofInt 0)), (2, .int (Int32.ofInt r5)), (0, .ref (ad 58)), (1, .int (Int32.ofInt a1))]) rfl ?_
    refine g_sub [2, 3, 1, 0] rfl ?_
    refine w_X6_isViolated_L24 C ha1 q7 hR ?_ _ _ (by decide) h
    · intro h
      refine g_iconst C dX6_isViolated_89 ?_
      obtain rfl := z_s1 h
      exact hR _ _ dX6_isViolated_90 (by show _ = _ ∨ _ = _; decide)
  · have h := z_t c4 h
    refine g_aload_n C dX6_isViolated_8 0 rfl ?_
    refine g_iload_n C dX6_isViolated_9 1 rfl ?_
    obtain ⟨r30, e31, h⟩ := z_b h
    refine g_callI (n := 1) C (fun hM => c_X6_bare l hM ha1 e31) gX6_isViolated_X6_bare rfl (by decide) ⟨rfl, rfl⟩ ⟨Nat.le_of_ble_eq_true rfl, Nat.le_of_ble_eq_true rfl⟩ rfl ly_c58 (Nat.le_of_ble_eq_true rfl) rfl rfl (rest := []) rfl (Nat.le_of_ble_eq_true rfl) dX6_isViolated_10 (fun q32 => ?_)
    have q32 : inR r30 := q32
    refine g_goto C 21 dX6_isViolated_13 (by decide) ?_
    refine g_istore_n C dX6_isViolated_21 (by decide) (vs' := [(2, .int (Int32.ofInt r30)), (0, .ref (ad 58)), (1, .int (Int32.ofInt a1))]) rfl ?_
    refine g_iconst C dX6_isViolated_22 ?_
    refine g_istore_n C dX6_isViolated_23 (by decide) (vs' := [(3, .int (Int32.ofInt 0)), (2, .int (Int32.ofInt r30)), (0, .ref (ad 58)), (1, .int (Int32.ofInt a1))]) rfl ?_
    refine g_sub [2, 3, 1, 0] rfl ?_
    refine w_X6_isViolated_L24 C ha1 q32 hR ?_ _ _ (by decide) h
    · intro h
      refine g_iconst C dX6_isViolated_89 ?_
      obtain rfl := z_s1 h
      exact hR _ _ dX6_isViolated_90 (by show _ = _ ∨ _ = _; decide)
theorem in_X6_violated_X6 : ∀ w ∈ u_ws RX6 TX6 20, w ∈ wsX6_violated := fun _ h => List.mem_cons_of_mem _ (List.mem_append_right _ h)
set_option maxHeartbeats 4000000 in
set_option maxRecDepth 100000 in
theorem w_X6_violated_L12 {p : Program} {l : Launch} {e : Env} {s : State} {m : MethodId} {args : Array Value} {below : List Frame} {meth : Method} {c : Code} {D : va_G} {cy : Nat → ClassId} {ad : Nat → Nat} {A : Nat → Prop} {Q : State → Prop} (C : Cx p s m args meth c cX6_violated RX6 2 wsX6_violated D cy A) {k38 : MM → Option (Int × MM)} {ro : Int} {σo : MM} (hR : RetI p l e { frames := 6, cells := 0, slots := 0, locals := 134 } s m args below meth c cX6_violated 2 D cy ad A Q 0 ro σo) (hk38 : ∀  (σ : MM), k38 σ = some (ro, σo) → G p l e { frames := 6, cells := 0, slots := 0, locals := 134 } s m args below meth c 2 D cy ad A Q 38 [] [] σ) : ∀ (n : Nat) (x1 : Int) (σ : MM) , inR x1 → X6_violated_L12 k38 n x1 σ = some (ro, σo) → G p l e { frames := 6, cells := 0, slots := 0, locals := 134 } s m args below meth c 2 D cy ad A Q 12 [(0, .ref (ad 58)), (1, .int (Int32.ofInt x1))] [] σ := by
  intro n
  induction n with
  | zero =>
    intro x1 σ hx1 h
    cases h
  | succ n ih =>
    intro x1 σ hx1 h
    rw [X6_violated_L12] at h
    refine g_iload_n C dX6_violated_12 1 rfl ?_
    refine g_aload_n C dX6_violated_13 0 rfl ?_
    refine gf_X6_0 C in_X6_violated_X6 (List.mem_of_getElem? (i := 2) rfl) dX6_violated_14 ?_
    refine g_iconst C dX6_violated_17 ?_
    refine g_iald C ly_c59 (Nat.le_of_ble_eq_true rfl) (by decide) (by decide) dX6_violated_18 (fun r7 => ?_)
    refine g_icmp_ge C 38 dX6_violated_19 (by decide) hx1 r7 (fun c8 => ?_) (fun c8 => ?_)
    · have h := z_f c8 h
      refine g_sub [] rfl ?_
      exact hk38 _ h
    · have h := z_t c8 h
      refine g_aload_n C dX6_violated_22 0 rfl ?_
      refine g_iload_n C dX6_violated_23 1 rfl ?_
      obtain ⟨r9, e10, h⟩ := z_b h
      refine g_callI (n := 1) C (fun hM => c_X6_isViolated l hM hx1 e10) gX6_violated_X6_isViolated rfl (by decide) ⟨rfl, rfl⟩ ⟨Nat.le_of_ble_eq_true rfl, Nat.le_of_ble_eq_true rfl⟩ rfl ly_c58 (Nat.le_of_ble_eq_true rfl) rfl rfl (rest := []) rfl (Nat.le_of_ble_eq_true rfl) dX6_violated_24 (fun q11 => ?_)
      have q11 : r9 = 0 ∨ r9 = 1 := q11
      refine g_if_eq C 32 dX6_violated_27 (by decide) (rgT_inR (rt := 1) q11) (fun c12 => ?_) (fun c12 => ?_)
      · have h := z_t c12 h
        refine g_iinc C dX6_violated_32 (j := 1) rfl (by decide) (vs' := [(1, .int (Int32.ofInt (x1 + 1))), (0, .ref (ad 58))]) rfl ?_
        refine g_goto C 12 dX6_violated_35 (by decide) ?_
        refine g_sub [1, 0] rfl ?_
        exact ih _ _ (by omega) h
      · have h := z_f c12 h
        refine g_iload_n C dX6_violated_30 1 rfl ?_
        obtain ⟨rfl, rfl⟩ := z_s2 h
        exact hR _ _ dX6_violated_31 hx1
set_option maxHeartbeats 4000000 in
set_option maxRecDepth 100000 in
theorem c_X6_violated (l : Launch) {σ : MM} (hM : okM σ) {ro : Int} {σo : MM} (h : X6_violated σ = some (ro, σo)) : CtI l yX6_violated wsX6_violated { frames := 6, cells := 0, slots := 0, locals := 134 } (fun ad : Nat → Nat => [.ref (ad 58)]) σ 0 ro σo := by
  unfold X6_violated at h
  refine z_ctI (cc := cX6_violated) (maxL := 2) (rt := 0) hM (by decide) rfl (fun _ => Nat.le_of_ble_eq_true rfl) (@fun p e s m args below meth c D cy ad A Q C hR => ?_)
  refine g_sub (vs' := [(0, .ref (ad 58))]) [0] rfl ?_
  refine g_aload_n C dX6_violated_0 0 rfl ?_
  refine g_iconst C dX6_violated_1 ?_
  refine gp_X6_3 C in_X6_violated_X6 (List.mem_of_getElem? (i := 1) rfl) (by decide) dX6_violated_2 ?_
  obtain ⟨σ1, e2, h⟩ := z_l h
  refine g_mem e2 ?_
  refine g_aload_n C dX6_violated_5 0 rfl ?_
  obtain ⟨⟨r3, σ5⟩, e4, h⟩ := z_b h
  refine g_callI (n := 0) C (fun hM => c_X6_runs l hM  e4) gX6_violated_X6_runs rfl (by decide) ⟨rfl, rfl⟩ ⟨Nat.le_of_ble_eq_true rfl, Nat.le_of_ble_eq_true rfl⟩ rfl ly_c58 (Nat.le_of_ble_eq_true rfl) rfl rfl (rest := []) rfl (Nat.le_of_ble_eq_true rfl) dX6_violated_6 (fun q6 => ?_)
  have q6 : inR r3 := q6
  refine g_pop C dX6_violated_9 rfl ?_
  refine g_iconst C dX6_violated_10 ?_
  refine g_istore_n C dX6_violated_11 (by decide) (vs' := [(1, .int (Int32.ofInt 0)), (0, .ref (ad 58))]) rfl ?_
  refine g_sub [1, 0] rfl ?_
  refine w_X6_violated_L12 C hR ?_ _ _ _ (by decide) h
  · intro σ13 h
    refine g_iconst C dX6_violated_38 ?_
    obtain ⟨rfl, rfl⟩ := z_s2 h
    exact hR _ _ dX6_violated_39 (by show inR _; decide)
theorem in_X6_save_X6 : ∀ w ∈ u_ws RX6 TX6 20, w ∈ wsX6_save := fun _ h => List.mem_cons_of_mem _ (List.mem_append_right _ h)
set_option maxHeartbeats 4000000 in
set_option maxRecDepth 100000 in
theorem w_X6_save_L12 {p : Program} {l : Launch} {e : Env} {s : State} {m : MethodId} {args : Array Value} {below : List Frame} {meth : Method} {c : Code} {D : va_G} {cy : Nat → ClassId} {ad : Nat → Nat} {A : Nat → Prop} {Q : State → Prop} (C : Cx p s m args meth c cX6_save RX6 2 wsX6_save D cy A) {k36 : MM → Option (Int × MM)} {ro : Int} {σo : MM} (hR : RetI p l e { frames := 0, cells := 0, slots := 0, locals := 0 } s m args below meth c cX6_save 2 D cy ad A Q 0 ro σo) (hk36 : ∀  (σ : MM), k36 σ = some (ro, σo) → G p l e { frames := 0, cells := 0, slots := 0, locals := 0 } s m args below meth c 2 D cy ad A Q 36 [(0, .ref (ad 58))] [] σ) : ∀ (n : Nat) (x1 : Int) (σ : MM) , inR x1 → X6_save_L12 k36 n x1 σ = some (ro, σo) → G p l e { frames := 0, cells := 0, slots := 0, locals := 0 } s m args below meth c 2 D cy ad A Q 12 [(0, .ref (ad 58)), (1, .int (Int32.ofInt x1))] [] σ := by
  intro n
  induction n with
  | zero =>
    intro x1 σ hx1 h
    cases h
  | succ n ih =>
    intro x1 σ hx1 h
    rw [X6_save_L12] at h
    refine g_iload_n C dX6_save_12 1 rfl ?_
    refine g_bipush C dX6_save_13 (by decide) ?_
    refine g_icmp_ge C 36 dX6_save_15 (by decide) hx1 (by decide) (fun c5 => ?_) (fun c5 => ?_)
    · have h := z_f c5 h
      refine g_sub [0] rfl ?_
      exact hk36 _ h
    · have h := z_t c5 h
      refine g_aload_n C dX6_save_18 0 rfl ?_
      refine gf_X6_1 C in_X6_save_X6 (List.mem_of_getElem? (i := 3) rfl) dX6_save_19 ?_
      refine g_iload_n C dX6_save_22 1 rfl ?_
      refine g_aload_n C dX6_save_23 0 rfl ?_
      refine gf_X6_0 C in_X6_save_X6 (List.mem_of_getElem? (i := 4) rfl) dX6_save_24 ?_
      refine g_iload_n C dX6_save_27 1 rfl ?_
      obtain ⟨g6, h⟩ := z_g h
      refine g_iald C ly_c59 (Nat.le_of_ble_eq_true rfl) (by decide) g6 dX6_save_28 (fun r7 => ?_)
      refine g_iast C ly_c60 (Nat.le_of_ble_eq_true rfl) (by decide) (by omega) r7 dX6_save_29 ?_
      obtain ⟨σ8, e9, h⟩ := z_l h
      refine g_mem e9 ?_
      refine g_iinc C dX6_save_30 (j := 1) rfl (by decide) (vs' := [(1, .int (Int32.ofInt (x1 + 1))), (0, .ref (ad 58))]) rfl ?_
      refine g_goto C 12 dX6_save_33 (by decide) ?_
      refine g_sub [1, 0] rfl ?_
      exact ih _ _ (by omega) h
set_option maxHeartbeats 4000000 in
set_option maxRecDepth 100000 in
theorem c_X6_save (l : Launch) {σ : MM} (hM : okM σ) {ro : Int} {σo : MM} (h : X6_save σ = some (ro, σo)) : CtI l yX6_save wsX6_save { frames := 0, cells := 0, slots := 0, locals := 0 } (fun ad : Nat → Nat => [.ref (ad 58)]) σ 0 ro σo := by
  unfold X6_save at h
  refine z_ctI (cc := cX6_save) (maxL := 2) (rt := 0) hM (by decide) rfl (fun _ => Nat.le_of_ble_eq_true rfl) (@fun p e s m args below meth c D cy ad A Q C hR => ?_)
  refine g_sub (vs' := [(0, .ref (ad 58))]) [0] rfl ?_
  refine g_aload_n C dX6_save_0 0 rfl ?_
  refine g_iconst C dX6_save_1 ?_
  refine gp_X6_3 C in_X6_save_X6 (List.mem_of_getElem? (i := 1) rfl) (by decide) dX6_save_2 ?_
  obtain ⟨σ1, e2, h⟩ := z_l h
  refine g_mem e2 ?_
  refine g_aload_n C dX6_save_5 0 rfl ?_
  refine g_iconst C dX6_save_6 ?_
  refine gp_X6_2 C in_X6_save_X6 (List.mem_of_getElem? (i := 2) rfl) (by decide) dX6_save_7 ?_
  obtain ⟨σ3, e4, h⟩ := z_l h
  refine g_mem e4 ?_
  refine g_iconst C dX6_save_10 ?_
  refine g_istore_n C dX6_save_11 (by decide) (vs' := [(1, .int (Int32.ofInt 0)), (0, .ref (ad 58))]) rfl ?_
  refine g_sub [1, 0] rfl ?_
  refine w_X6_save_L12 C hR ?_ _ _ _ (by decide) h
  · intro σ10 h
    refine g_aload_n C dX6_save_36 0 rfl ?_
    refine gf_X6_0 C in_X6_save_X6 (List.mem_of_getElem? (i := 4) rfl) dX6_save_37 ?_
    refine g_iconst C dX6_save_40 ?_
    refine g_iald C ly_c59 (Nat.le_of_ble_eq_true rfl) (by decide) (by decide) dX6_save_41 (fun r11 => ?_)
    obtain ⟨rfl, rfl⟩ := z_s2 h
    exact hR _ _ dX6_save_42 r11
theorem in_X6_restore_X6 : ∀ w ∈ u_ws RX6 TX6 20, w ∈ wsX6_restore := fun _ h => List.mem_cons_of_mem _ (List.mem_append_right _ h)
set_option maxHeartbeats 4000000 in
set_option maxRecDepth 100000 in
theorem w_X6_restore_L20 {p : Program} {l : Launch} {e : Env} {s : State} {m : MethodId} {args : Array Value} {below : List Frame} {meth : Method} {c : Code} {D : va_G} {cy : Nat → ClassId} {ad : Nat → Nat} {A : Nat → Prop} {Q : State → Prop} (C : Cx p s m args meth c cX6_restore RX6 2 wsX6_restore D cy A) {k44 : MM → Option (Int × MM)} {ro : Int} {σo : MM} (hR : RetI p l e { frames := 1, cells := 0, slots := 0, locals := 21 } s m args below meth c cX6_restore 2 D cy ad A Q 0 ro σo) (hk44 : ∀  (σ : MM), k44 σ = some (ro, σo) → G p l e { frames := 1, cells := 0, slots := 0, locals := 21 } s m args below meth c 2 D cy ad A Q 44 [(0, .ref (ad 58))] [] σ) : ∀ (n : Nat) (x1 : Int) (σ : MM) , inR x1 → X6_restore_L20 k44 n x1 σ = some (ro, σo) → G p l e { frames := 1, cells := 0, slots := 0, locals := 21 } s m args below meth c 2 D cy ad A Q 20 [(0, .ref (ad 58)), (1, .int (Int32.ofInt x1))] [] σ := by
  intro n
  induction n with
  | zero =>
    intro x1 σ hx1 h
    cases h
  | succ n ih =>
    intro x1 σ hx1 h
    rw [X6_restore_L20] at h
    refine g_iload_n C dX6_restore_20 1 rfl ?_
    refine g_bipush C dX6_restore_21 (by decide) ?_
    refine g_icmp_ge C 44 dX6_restore_23 (by decide) hx1 (by decide) (fun c5 => ?_) (fun c5 => ?_)
    · have h := z_f c5 h
      refine g_sub [0] rfl ?_
      exact hk44 _ h
    · have h := z_t c5 h
      refine g_aload_n C dX6_restore_26 0 rfl ?_
      refine gf_X6_0 C in_X6_restore_X6 (List.mem_of_getElem? (i := 3) rfl) dX6_restore_27 ?_
      refine g_iload_n C dX6_restore_30 1 rfl ?_
      refine g_aload_n C dX6_restore_31 0 rfl ?_
      refine gf_X6_1 C in_X6_restore_X6 (List.mem_of_getElem? (i := 4) rfl) dX6_restore_32 ?_
      refine g_iload_n C dX6_restore_35 1 rfl ?_
      obtain ⟨g6, h⟩ := z_g h
      refine g_iald C ly_c60 (Nat.le_of_ble_eq_true rfl) (by decide) g6 dX6_restore_36 (fun r7 => ?_)
      refine g_iast C ly_c59 (Nat.le_of_ble_eq_true rfl) (by decide) (by omega) r7 dX6_restore_37 ?_
      obtain ⟨σ8, e9, h⟩ := z_l h
      refine g_mem e9 ?_
      refine g_iinc C dX6_restore_38 (j := 1) rfl (by decide) (vs' := [(1, .int (Int32.ofInt (x1 + 1))), (0, .ref (ad 58))]) rfl ?_
      refine g_goto C 20 dX6_restore_41 (by decide) ?_
      refine g_sub [1, 0] rfl ?_
      exact ih _ _ (by omega) h
set_option maxHeartbeats 4000000 in
set_option maxRecDepth 100000 in
theorem c_X6_restore (l : Launch) {σ : MM} (hM : okM σ) {ro : Int} {σo : MM} (h : X6_restore σ = some (ro, σo)) : CtI l yX6_restore wsX6_restore { frames := 1, cells := 0, slots := 0, locals := 21 } (fun ad : Nat → Nat => [.ref (ad 58)]) σ 0 ro σo := by
  unfold X6_restore at h
  refine z_ctI (cc := cX6_restore) (maxL := 2) (rt := 0) hM (by decide) rfl (fun _ => Nat.le_of_ble_eq_true rfl) (@fun p e s m args below meth c D cy ad A Q C hR => ?_)
  refine g_sub (vs' := [(0, .ref (ad 58))]) [0] rfl ?_
  refine g_aload_n C dX6_restore_0 0 rfl ?_
  refine g_iconst C dX6_restore_1 ?_
  refine gp_X6_3 C in_X6_restore_X6 (List.mem_of_getElem? (i := 1) rfl) (by decide) dX6_restore_2 ?_
  obtain ⟨σ1, e2, h⟩ := z_l h
  refine g_mem e2 ?_
  refine g_aload_n C dX6_restore_5 0 rfl ?_
  refine gf_X6_2 C in_X6_restore_X6 (List.mem_of_getElem? (i := 2) rfl) dX6_restore_6 (fun r3 => ?_)
  refine g_if_ne C 18 dX6_restore_9 (by decide) r3 (fun c4 => ?_) (fun c4 => ?_)
  · have h := z_f c4 h
    refine g_iconst C dX6_restore_18 ?_
    refine g_istore_n C dX6_restore_19 (by decide) (vs' := [(1, .int (Int32.ofInt 0)), (0, .ref (ad 58))]) rfl ?_
    refine g_sub [1, 0] rfl ?_
    refine w_X6_restore_L20 C hR ?_ _ _ _ (by decide) h
    · intro σ10 h
      refine g_aload_n C dX6_restore_44 0 rfl ?_
      refine gf_X6_0 C in_X6_restore_X6 (List.mem_of_getElem? (i := 3) rfl) dX6_restore_45 ?_
      refine g_iconst C dX6_restore_48 ?_
      refine g_iald C ly_c59 (Nat.le_of_ble_eq_true rfl) (by decide) (by decide) dX6_restore_49 (fun r11 => ?_)
      obtain ⟨rfl, rfl⟩ := z_s2 h
      exact hR _ _ dX6_restore_50 r11
  · have h := z_t c4 h
    refine g_aload_n C dX6_restore_12 0 rfl ?_
    refine g_iconst C dX6_restore_13 ?_
    obtain ⟨⟨r12, σ14⟩, e13, h⟩ := z_b h
    refine g_callI (n := 1) C (fun hM => c_X6_fails l hM (by decide) e13) gX6_restore_X6_fails rfl (by decide) ⟨rfl, rfl⟩ ⟨Nat.le_of_ble_eq_true rfl, Nat.le_of_ble_eq_true rfl⟩ rfl ly_c58 (Nat.le_of_ble_eq_true rfl) rfl rfl (rest := []) rfl (Nat.le_of_ble_eq_true rfl) dX6_restore_14 (fun q15 => ?_)
    have q15 : inR r12 := q15
    obtain ⟨rfl, rfl⟩ := z_s2 h
    exact hR _ _ dX6_restore_17 q15
theorem in_X6_signalsKept_X6 : ∀ w ∈ u_ws RX6 TX6 20, w ∈ wsX6_signalsKept := fun _ h => List.mem_cons_of_mem _ (List.mem_append_right _ h)
set_option maxHeartbeats 4000000 in
set_option maxRecDepth 100000 in
theorem w_X6_signalsKept_L4 {p : Program} {l : Launch} {e : Env} {s : State} {m : MethodId} {args : Array Value} {below : List Frame} {meth : Method} {c : Code} {D : va_G} {cy : Nat → ClassId} {ad : Nat → Nat} {A : Nat → Prop} {Q : State → Prop} (C : Cx p s m args meth c cX6_signalsKept RX6 3 wsX6_signalsKept D cy A) {σ : MM} {k36 : Int → Option Int} {ro : Int} (hR : RetI p l e { frames := 3, cells := 0, slots := 0, locals := 63 } s m args below meth c cX6_signalsKept 3 D cy ad A Q 0 ro σ) (hk36 : ∀ (z1 : Int), inR z1 → k36 z1 = some ro → G p l e { frames := 3, cells := 0, slots := 0, locals := 63 } s m args below meth c 3 D cy ad A Q 36 [(1, .int (Int32.ofInt z1))] [] σ) : ∀ (n : Nat) (x1 x2 : Int) , inR x1 → inR x2 → X6_signalsKept_L4 σ k36 n x1 x2 = some ro → G p l e { frames := 3, cells := 0, slots := 0, locals := 63 } s m args below meth c 3 D cy ad A Q 4 [(0, .ref (ad 58)), (1, .int (Int32.ofInt x1)), (2, .int (Int32.ofInt x2))] [] σ := by
  intro n
  induction n with
  | zero =>
    intro x1 x2 hx1 hx2 h
    cases h
  | succ n ih =>
    intro x1 x2 hx1 hx2 h
    rw [X6_signalsKept_L4] at h
    refine g_iload_n C dX6_signalsKept_4 2 rfl ?_
    refine g_aload_n C dX6_signalsKept_5 0 rfl ?_
    refine gf_X6_0 C in_X6_signalsKept_X6 (List.mem_of_getElem? (i := 1) rfl) dX6_signalsKept_6 ?_
    refine g_iconst C dX6_signalsKept_9 ?_
    refine g_iald C ly_c59 (Nat.le_of_ble_eq_true rfl) (by decide) (by decide) dX6_signalsKept_10 (fun r1 => ?_)
    refine g_icmp_ge C 36 dX6_signalsKept_11 (by decide) hx2 r1 (fun c2 => ?_) (fun c2 => ?_)
    · have h := z_f c2 h
      refine g_sub [1] rfl ?_
      exact hk36 _ hx1 h
    · have h := z_t c2 h
      refine g_iload_n C dX6_signalsKept_14 1 rfl ?_
      refine g_aload_n C dX6_signalsKept_15 0 rfl ?_
      refine g_iload_n C dX6_signalsKept_16 2 rfl ?_
      obtain ⟨r3, e4, h⟩ := z_b h
      refine g_callI (n := 1) C (fun hM => c_X6_isSignal l hM hx2 e4) gX6_signalsKept_X6_isSignal rfl (by decide) ⟨rfl, rfl⟩ ⟨Nat.le_of_ble_eq_true rfl, Nat.le_of_ble_eq_true rfl⟩ rfl ly_c58 (Nat.le_of_ble_eq_true rfl) rfl rfl (rest := [.int (Int32.ofInt x1)]) rfl (Nat.le_of_ble_eq_true rfl) dX6_signalsKept_17 (fun q5 => ?_)
      have q5 : r3 = 0 ∨ r3 = 1 := q5
      refine g_if_eq C 27 dX6_signalsKept_20 (by decide) (rgT_inR (rt := 1) q5) (fun c6 => ?_) (fun c6 => ?_)
      · have h := z_t c6 h
        refine g_iconst C dX6_signalsKept_27 ?_
        refine g_iadd C dX6_signalsKept_28 ?_
        refine g_istore_n C dX6_signalsKept_29 (by decide) (vs' := [(1, .int (Int32.ofInt (x1 + 0))), (0, .ref (ad 58)), (2, .int (Int32.ofInt x2))]) rfl ?_
        refine g_iinc C dX6_signalsKept_30 (j := 2) rfl (by decide) (vs' := [(2, .int (Int32.ofInt (x2 + 1))), (1, .int (Int32.ofInt (x1 + 0))), (0, .ref (ad 58))]) rfl ?_
        refine g_goto C 4 dX6_signalsKept_33 (by decide) ?_
        refine g_sub [2, 1, 0] rfl ?_
        exact ih _ _ (by omega) (by omega) h
      · have h := z_f c6 h
        refine g_iconst C dX6_signalsKept_23 ?_
        refine g_goto C 28 dX6_signalsKept_24 (by decide) ?_
        refine g_iadd C dX6_signalsKept_28 ?_
        refine g_istore_n C dX6_signalsKept_29 (by decide) (vs' := [(1, .int (Int32.ofInt (x1 + 1))), (0, .ref (ad 58)), (2, .int (Int32.ofInt x2))]) rfl ?_
        refine g_iinc C dX6_signalsKept_30 (j := 2) rfl (by decide) (vs' := [(2, .int (Int32.ofInt (x2 + 1))), (1, .int (Int32.ofInt (x1 + 1))), (0, .ref (ad 58))]) rfl ?_
        refine g_goto C 4 dX6_signalsKept_33 (by decide) ?_
        obtain ⟨g7, h⟩ := z_g h
        refine g_sub [2, 1, 0] rfl ?_
        exact ih _ _ g7 (by omega) h
set_option maxHeartbeats 4000000 in
set_option maxRecDepth 100000 in
theorem c_X6_signalsKept (l : Launch) {σ : MM} (hM : okM σ) {ro : Int} (h : X6_signalsKept σ = some ro) : CtI l yX6_signalsKept wsX6_signalsKept { frames := 3, cells := 0, slots := 0, locals := 63 } (fun ad : Nat → Nat => [.ref (ad 58)]) σ 0 ro σ := by
  unfold X6_signalsKept at h
  refine z_ctI (cc := cX6_signalsKept) (maxL := 3) (rt := 0) hM (by decide) rfl (fun _ => Nat.le_of_ble_eq_true rfl) (@fun p e s m args below meth c D cy ad A Q C hR => ?_)
  refine g_sub (vs' := [(0, .ref (ad 58))]) [0] rfl ?_
  refine g_iconst C dX6_signalsKept_0 ?_
  refine g_istore_n C dX6_signalsKept_1 (by decide) (vs' := [(1, .int (Int32.ofInt 0)), (0, .ref (ad 58))]) rfl ?_
  refine g_iconst C dX6_signalsKept_2 ?_
  refine g_istore_n C dX6_signalsKept_3 (by decide) (vs' := [(2, .int (Int32.ofInt 0)), (1, .int (Int32.ofInt 0)), (0, .ref (ad 58))]) rfl ?_
  refine g_sub [2, 1, 0] rfl ?_
  refine w_X6_signalsKept_L4 C hR ?_ _ _ _ (by decide) (by decide) h
  · intro z8 hz8 h
    refine g_iload_n C dX6_signalsKept_36 0 rfl ?_
    obtain rfl := z_s1 h
    exact hR _ _ dX6_signalsKept_37 hz8
theorem in_X6_count_X6 : ∀ w ∈ u_ws RX6 TX6 20, w ∈ wsX6_count := fun _ h => List.mem_cons_of_mem _ (List.mem_append_right _ h)
set_option maxHeartbeats 4000000 in
set_option maxRecDepth 100000 in
theorem c_X6_count (l : Launch) {σ : MM} (hM : okM σ) {a1 : Int} (ha1 : inR a1) {ro : Int} {σo : MM} (h : X6_count a1 σ = some (ro, σo)) : CtI l yX6_count wsX6_count { frames := 4, cells := 0, slots := 0, locals := 85 } (fun ad : Nat → Nat => [.ref (ad 58), .int (Int32.ofInt a1)]) σ 0 ro σo := by
  unfold X6_count at h
  refine z_ctI (cc := cX6_count) (maxL := 2) (rt := 0) hM (by decide) rfl (fun _ => Nat.le_of_ble_eq_true rfl) (@fun p e s m args below meth c D cy ad A Q C hR => ?_)
  refine g_sub (vs' := [(0, .ref (ad 58)), (1, .int (Int32.ofInt a1))]) [0, 1] rfl ?_
  refine g_aload_n C dX6_count_0 0 rfl ?_
  refine g_iconst C dX6_count_1 ?_
  refine gp_X6_3 C in_X6_count_X6 (List.mem_of_getElem? (i := 1) rfl) (by decide) dX6_count_2 ?_
  obtain ⟨σ1, e2, h⟩ := z_l h
  refine g_mem e2 ?_
  refine g_iload_n C dX6_count_5 1 rfl ?_
  by_cases c3 : a1 = 0
  · have h := z_t c3 h
    refine g_tsw C 76 0 dX6_count_6 ha1 c3 (by decide) (by decide) rfl (by decide) ?_
    refine g_aload_n C dX6_count_76 0 rfl ?_
    refine gf_X6_0 C in_X6_count_X6 (List.mem_of_getElem? (i := 2) rfl) dX6_count_77 ?_
    refine g_iconst C dX6_count_80 ?_
    refine g_iald C ly_c59 (Nat.le_of_ble_eq_true rfl) (by decide) (by decide) dX6_count_81 (fun r4 => ?_)
    obtain ⟨rfl, rfl⟩ := z_s2 h
    exact hR _ _ dX6_count_82 r4
  have h := z_f c3 h
  by_cases c5 : a1 = 1
  · have h := z_t c5 h
    refine g_tsw C 83 1 dX6_count_6 ha1 c5 (by decide) (by decide) rfl (by decide) ?_
    refine g_aload_n C dX6_count_83 0 rfl ?_
    refine gf_X6_0 C in_X6_count_X6 (List.mem_of_getElem? (i := 2) rfl) dX6_count_84 ?_
    refine g_iconst C dX6_count_87 ?_
    refine g_iald C ly_c59 (Nat.le_of_ble_eq_true rfl) (by decide) (by decide) dX6_count_88 (fun r6 => ?_)
    obtain ⟨rfl, rfl⟩ := z_s2 h
    exact hR _ _ dX6_count_89 r6
  have h := z_f c5 h
  by_cases c7 : a1 = 2
  · have h := z_t c7 h
    refine g_tsw C 90 2 dX6_count_6 ha1 c7 (by decide) (by decide) rfl (by decide) ?_
    refine g_aload_n C dX6_count_90 0 rfl ?_
    obtain ⟨r8, e9, h⟩ := z_b h
    refine g_callI (n := 0) C (fun hM => c_X6_signalsKept l hM  e9) gX6_count_X6_signalsKept rfl (by decide) ⟨rfl, rfl⟩ ⟨Nat.le_of_ble_eq_true rfl, Nat.le_of_ble_eq_true rfl⟩ rfl ly_c58 (Nat.le_of_ble_eq_true rfl) rfl rfl (rest := []) rfl (Nat.le_of_ble_eq_true rfl) dX6_count_91 (fun q10 => ?_)
    have q10 : inR r8 := q10
    obtain ⟨rfl, rfl⟩ := z_s2 h
    exact hR _ _ dX6_count_94 q10
  have h := z_f c7 h
  by_cases c11 : a1 = 3
  · have h := z_t c11 h
    refine g_tsw C 95 3 dX6_count_6 ha1 c11 (by decide) (by decide) rfl (by decide) ?_
    refine g_aload_n C dX6_count_95 0 rfl ?_
    refine gf_X6_5 C in_X6_count_X6 (List.mem_of_getElem? (i := 3) rfl) dX6_count_96 (fun r12 => ?_)
    obtain ⟨rfl, rfl⟩ := z_s2 h
    exact hR _ _ dX6_count_99 r12
  have h := z_f c11 h
  by_cases c13 : a1 = 4
  · have h := z_t c13 h
    refine g_tsw C 100 4 dX6_count_6 ha1 c13 (by decide) (by decide) rfl (by decide) ?_
    refine g_aload_n C dX6_count_100 0 rfl ?_
    obtain ⟨r14, e15, h⟩ := z_b h
    refine g_callI (n := 0) C (fun hM => c_X6_allCosts l hM  e15) gX6_count_X6_allCosts rfl (by decide) ⟨rfl, rfl⟩ ⟨Nat.le_of_ble_eq_true rfl, Nat.le_of_ble_eq_true rfl⟩ rfl ly_c58 (Nat.le_of_ble_eq_true rfl) rfl rfl (rest := []) rfl (Nat.le_of_ble_eq_true rfl) dX6_count_101 (fun q16 => ?_)
    have q16 : inR r14 := q16
    obtain ⟨rfl, rfl⟩ := z_s2 h
    exact hR _ _ dX6_count_104 q16
  have h := z_f c13 h
  by_cases c17 : a1 = 5
  · have h := z_t c17 h
    refine g_tsw C 117 5 dX6_count_6 ha1 c17 (by decide) (by decide) rfl (by decide) ?_
    refine g_aload_n C dX6_count_117 0 rfl ?_
    refine g_iconst C dX6_count_118 ?_
    obtain ⟨⟨r18, σ20⟩, e19, h⟩ := z_b h
    refine g_callI (n := 1) C (fun hM => c_X6_fails l hM (by decide) e19) gX6_count_X6_fails rfl (by decide) ⟨rfl, rfl⟩ ⟨Nat.le_of_ble_eq_true rfl, Nat.le_of_ble_eq_true rfl⟩ rfl ly_c58 (Nat.le_of_ble_eq_true rfl) rfl rfl (rest := []) rfl (Nat.le_of_ble_eq_true rfl) dX6_count_119 (fun q21 => ?_)
    have q21 : inR r18 := q21
    obtain ⟨rfl, rfl⟩ := z_s2 h
    exact hR _ _ dX6_count_122 q21
  have h := z_f c17 h
  by_cases c22 : a1 = 6
  · have h := z_t c22 h
    refine g_tsw C 117 6 dX6_count_6 ha1 c22 (by decide) (by decide) rfl (by decide) ?_
    refine g_aload_n C dX6_count_117 0 rfl ?_
    refine g_iconst C dX6_count_118 ?_
    obtain ⟨⟨r23, σ25⟩, e24, h⟩ := z_b h
    refine g_callI (n := 1) C (fun hM => c_X6_fails l hM (by decide) e24) gX6_count_X6_fails rfl (by decide) ⟨rfl, rfl⟩ ⟨Nat.le_of_ble_eq_true rfl, Nat.le_of_ble_eq_true rfl⟩ rfl ly_c58 (Nat.le_of_ble_eq_true rfl) rfl rfl (rest := []) rfl (Nat.le_of_ble_eq_true rfl) dX6_count_119 (fun q26 => ?_)
    have q26 : inR r23 := q26
    obtain ⟨rfl, rfl⟩ := z_s2 h
    exact hR _ _ dX6_count_122 q26
  have h := z_f c22 h
  by_cases c27 : a1 = 7
  · have h := z_t c27 h
    refine g_tsw C 117 7 dX6_count_6 ha1 c27 (by decide) (by decide) rfl (by decide) ?_
    refine g_aload_n C dX6_count_117 0 rfl ?_
    refine g_iconst C dX6_count_118 ?_
    obtain ⟨⟨r28, σ30⟩, e29, h⟩ := z_b h
    refine g_callI (n := 1) C (fun hM => c_X6_fails l hM (by decide) e29) gX6_count_X6_fails rfl (by decide) ⟨rfl, rfl⟩ ⟨Nat.le_of_ble_eq_true rfl, Nat.le_of_ble_eq_true rfl⟩ rfl ly_c58 (Nat.le_of_ble_eq_true rfl) rfl rfl (rest := []) rfl (Nat.le_of_ble_eq_true rfl) dX6_count_119 (fun q31 => ?_)
    have q31 : inR r28 := q31
    obtain ⟨rfl, rfl⟩ := z_s2 h
    exact hR _ _ dX6_count_122 q31
  have h := z_f c27 h
  by_cases c32 : a1 = 8
  · have h := z_t c32 h
    refine g_tsw C 117 8 dX6_count_6 ha1 c32 (by decide) (by decide) rfl (by decide) ?_
    refine g_aload_n C dX6_count_117 0 rfl ?_
    refine g_iconst C dX6_count_118 ?_
    obtain ⟨⟨r33, σ35⟩, e34, h⟩ := z_b h
    refine g_callI (n := 1) C (fun hM => c_X6_fails l hM (by decide) e34) gX6_count_X6_fails rfl (by decide) ⟨rfl, rfl⟩ ⟨Nat.le_of_ble_eq_true rfl, Nat.le_of_ble_eq_true rfl⟩ rfl ly_c58 (Nat.le_of_ble_eq_true rfl) rfl rfl (rest := []) rfl (Nat.le_of_ble_eq_true rfl) dX6_count_119 (fun q36 => ?_)
    have q36 : inR r33 := q36
    obtain ⟨rfl, rfl⟩ := z_s2 h
    exact hR _ _ dX6_count_122 q36
  have h := z_f c32 h
  by_cases c37 : a1 = 9
  · have h := z_t c37 h
    refine g_tsw C 117 9 dX6_count_6 ha1 c37 (by decide) (by decide) rfl (by decide) ?_
    refine g_aload_n C dX6_count_117 0 rfl ?_
    refine g_iconst C dX6_count_118 ?_
    obtain ⟨⟨r38, σ40⟩, e39, h⟩ := z_b h
    refine g_callI (n := 1) C (fun hM => c_X6_fails l hM (by decide) e39) gX6_count_X6_fails rfl (by decide) ⟨rfl, rfl⟩ ⟨Nat.le_of_ble_eq_true rfl, Nat.le_of_ble_eq_true rfl⟩ rfl ly_c58 (Nat.le_of_ble_eq_true rfl) rfl rfl (rest := []) rfl (Nat.le_of_ble_eq_true rfl) dX6_count_119 (fun q41 => ?_)
    have q41 : inR r38 := q41
    obtain ⟨rfl, rfl⟩ := z_s2 h
    exact hR _ _ dX6_count_122 q41
  have h := z_f c37 h
  by_cases c42 : a1 = 10
  · have h := z_t c42 h
    refine g_tsw C 105 10 dX6_count_6 ha1 c42 (by decide) (by decide) rfl (by decide) ?_
    refine g_aload_n C dX6_count_105 0 rfl ?_
    refine gf_X6_0 C in_X6_count_X6 (List.mem_of_getElem? (i := 2) rfl) dX6_count_106 ?_
    refine g_iconst C dX6_count_109 ?_
    refine g_iload_n C dX6_count_110 1 rfl ?_
    refine g_iadd C dX6_count_111 ?_
    refine g_bipush C dX6_count_112 (by decide) ?_
    refine g_isub C dX6_count_114 ?_
    refine g_iald C ly_c59 (Nat.le_of_ble_eq_true rfl) (by decide) (by omega) dX6_count_115 (fun r43 => ?_)
    obtain ⟨rfl, rfl⟩ := z_s2 h
    exact hR _ _ dX6_count_116 r43
  have h := z_f c42 h
  by_cases c44 : a1 = 11
  · have h := z_t c44 h
    refine g_tsw C 105 11 dX6_count_6 ha1 c44 (by decide) (by decide) rfl (by decide) ?_
    refine g_aload_n C dX6_count_105 0 rfl ?_
    refine gf_X6_0 C in_X6_count_X6 (List.mem_of_getElem? (i := 2) rfl) dX6_count_106 ?_
    refine g_iconst C dX6_count_109 ?_
    refine g_iload_n C dX6_count_110 1 rfl ?_
    refine g_iadd C dX6_count_111 ?_
    refine g_bipush C dX6_count_112 (by decide) ?_
    refine g_isub C dX6_count_114 ?_
    refine g_iald C ly_c59 (Nat.le_of_ble_eq_true rfl) (by decide) (by omega) dX6_count_115 (fun r45 => ?_)
    obtain ⟨rfl, rfl⟩ := z_s2 h
    exact hR _ _ dX6_count_116 r45
  have h := z_f c44 h
  by_cases c46 : a1 = 12
  · have h := z_t c46 h
    refine g_tsw C 105 12 dX6_count_6 ha1 c46 (by decide) (by decide) rfl (by decide) ?_
    refine g_aload_n C dX6_count_105 0 rfl ?_
    refine gf_X6_0 C in_X6_count_X6 (List.mem_of_getElem? (i := 2) rfl) dX6_count_106 ?_
    refine g_iconst C dX6_count_109 ?_
    refine g_iload_n C dX6_count_110 1 rfl ?_
    refine g_iadd C dX6_count_111 ?_
    refine g_bipush C dX6_count_112 (by decide) ?_
    refine g_isub C dX6_count_114 ?_
    refine g_iald C ly_c59 (Nat.le_of_ble_eq_true rfl) (by decide) (by omega) dX6_count_115 (fun r47 => ?_)
    obtain ⟨rfl, rfl⟩ := z_s2 h
    exact hR _ _ dX6_count_116 r47
  have h := z_f c46 h
  by_cases c48 : a1 = 13
  · have h := z_t c48 h
    refine g_tsw C 105 13 dX6_count_6 ha1 c48 (by decide) (by decide) rfl (by decide) ?_
    refine g_aload_n C dX6_count_105 0 rfl ?_
    refine gf_X6_0 C in_X6_count_X6 (List.mem_of_getElem? (i := 2) rfl) dX6_count_106 ?_
    refine g_iconst C dX6_count_109 ?_
    refine g_iload_n C dX6_count_110 1 rfl ?_
    refine g_iadd C dX6_count_111 ?_
    refine g_bipush C dX6_count_112 (by decide) ?_
    refine g_isub C dX6_count_114 ?_
    refine g_iald C ly_c59 (Nat.le_of_ble_eq_true rfl) (by decide) (by omega) dX6_count_115 (fun r49 => ?_)
    obtain ⟨rfl, rfl⟩ := z_s2 h
    exact hR _ _ dX6_count_116 r49
  have h := z_f c48 h
  refine g_tswD C 117 dX6_count_6 ha1 (by omega) (by decide) ?_
  refine g_aload_n C dX6_count_117 0 rfl ?_
  refine g_iconst C dX6_count_118 ?_
  obtain ⟨⟨r50, σ52⟩, e51, h⟩ := z_b h
  refine g_callI (n := 1) C (fun hM => c_X6_fails l hM (by decide) e51) gX6_count_X6_fails rfl (by decide) ⟨rfl, rfl⟩ ⟨Nat.le_of_ble_eq_true rfl, Nat.le_of_ble_eq_true rfl⟩ rfl ly_c58 (Nat.le_of_ble_eq_true rfl) rfl rfl (rest := []) rfl (Nat.le_of_ble_eq_true rfl) dX6_count_119 (fun q53 => ?_)
  have q53 : inR r50 := q53
  obtain ⟨rfl, rfl⟩ := z_s2 h
  exact hR _ _ dX6_count_122 q53
