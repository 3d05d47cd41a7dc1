def wX0 (cy : Nat → ClassId) (a : Nat → Nat) : va_W := [(a 0, .inr (0, [.int 0, .ref (a 1), .ref (a 2), .ref (a 3), .ref (a 4), .int 0, .ref (a 5), .ref (a 6), .ref (a 7), .ref (a 8), .ref (a 9), .ref (a 10)])), (a 1, eA cy 0 8), (a 2, eA cy 0 8), (a 3, eA cy 0 8), (a 4, eA cy 0 8), (a 5, eA cy 0 16), (a 6, eA cy 0 16), (a 7, eA cy 0 16), (a 8, eA cy 0 16), (a 9, eA cy 1 16), (a 10, .inl (cy 0, 4, .inl ((upd (upd (upd (upd (fun _ : Nat => (0 : Int32)) 0 10) 1 1) 2 2) 3 0))))]
theorem in_X0_init : ∀ w ∈ u_ws RX0 TX0 12, w ∈ wsX0_init := by decide +kernel
set_option maxHeartbeats 4000000 in
set_option maxRecDepth 100000 in
theorem c_X0_init (l : Launch) : CtC l yX0_init wsX0_init { frames := 1, cells := 10, slots := 116, locals := 12 } 0 [.int 0, .null, .null, .null, .null, .int 0, .null, .null, .null, .null, .null, .null] wX0 10 116 := by
  refine z_ctC (cc := cX0_init) (maxL := 2) (by decide) rfl rfl (Nat.le_of_ble_eq_true rfl) (@fun p e s m args below meth c D cy h0 A C hZ hAe hr hin => ?_)
  obtain ⟨tt, hZ1, hZ2⟩ := id hZ
  refine k_aload_n C dX0_init_0 0 rfl ?_
  refine k_obj C (by decide +kernel) (by decide +kernel) (by decide +kernel) (Nat.le_of_ble_eq_true rfl) (Nat.le_of_ble_eq_true rfl) dX0_init_1 ?_
  refine k_aload_n C dX0_init_4 0 rfl ?_
  refine k_bipush (v := (8)) C dX0_init_5 (by decide) ?_
  refine k_newa (N := 8) (vv := (8, .inl (fun _ : Nat => (0 : Int32)))) C 0 (by decide) rfl (by decide +kernel) (fun _ => rfl) (by decide) (by decide) (Nat.le_of_ble_eq_true rfl) (Nat.le_of_ble_eq_true rfl) (Nat.le_of_ble_eq_true rfl) dX0_init_7 (fun q0 => ?_)
  refine k_w (ws2 := [(h0, .inr (0, [.int 0, .null, .null, .null, .null, .int 0, .null, .null, .null, .null, .null, .null])), (q0, eA cy 0 8)]) rfl ?_
  refine k_putF (q0 := 0) (f := 1) (ci := 0) (ws' := [(h0, .inr (0, [.int 0, .ref q0, .null, .null, .null, .int 0, .null, .null, .null, .null, .null, .null])), (q0, eA cy 0 8)]) C (in_X0_init) tyX0 tyX0_ok nmX0 rfl rfl (by decide) (by decide +kernel) rfl rfl hin rfl rfl rfl (Nat.le_of_ble_eq_true rfl) dX0_init_9 rfl ?_
  refine k_aload_n C dX0_init_12 0 rfl ?_
  refine k_bipush (v := (8)) C dX0_init_13 (by decide) ?_
  refine k_newa (N := 8) (vv := (8, .inl (fun _ : Nat => (0 : Int32)))) C 0 (by decide) rfl (by decide +kernel) (fun _ => rfl) (by decide) (by decide) (Nat.le_of_ble_eq_true rfl) (Nat.le_of_ble_eq_true rfl) (Nat.le_of_ble_eq_true rfl) dX0_init_15 (fun q1 => ?_)
  refine k_w (ws2 := [(h0, .inr (0, [.int 0, .ref q0, .null, .null, .null, .int 0, .null, .null, .null, .null, .null, .null])), (q0, eA cy 0 8), (q1, eA cy 0 8)]) rfl ?_
  refine k_putF (q0 := 0) (f := 2) (ci := 0) (ws' := [(h0, .inr (0, [.int 0, .ref q0, .ref q1, .null, .null, .int 0, .null, .null, .null, .null, .null, .null])), (q0, eA cy 0 8), (q1, eA cy 0 8)]) C (in_X0_init) tyX0 tyX0_ok nmX0 rfl rfl (by decide) (by decide +kernel) rfl rfl hin rfl rfl rfl (Nat.le_of_ble_eq_true rfl) dX0_init_17 rfl ?_
  refine k_aload_n C dX0_init_20 0 rfl ?_
  refine k_bipush (v := (8)) C dX0_init_21 (by decide) ?_
  refine k_newa (N := 8) (vv := (8, .inl (fun _ : Nat => (0 : Int32)))) C 0 (by decide) rfl (by decide +kernel) (fun _ => rfl) (by decide) (by decide) (Nat.le_of_ble_eq_true rfl) (Nat.le_of_ble_eq_true rfl) (Nat.le_of_ble_eq_true rfl) dX0_init_23 (fun q2 => ?_)
  refine k_w (ws2 := [(h0, .inr (0, [.int 0, .ref q0, .ref q1, .null, .null, .int 0, .null, .null, .null, .null, .null, .null])), (q0, eA cy 0 8), (q1, eA cy 0 8), (q2, eA cy 0 8)]) rfl ?_
  refine k_putF (q0 := 0) (f := 3) (ci := 0) (ws' := [(h0, .inr (0, [.int 0, .ref q0, .ref q1, .ref q2, .null, .int 0, .null, .null, .null, .null, .null, .null])), (q0, eA cy 0 8), (q1, eA cy 0 8), (q2, eA cy 0 8)]) C (in_X0_init) tyX0 tyX0_ok nmX0 rfl rfl (by decide) (by decide +kernel) rfl rfl hin rfl rfl rfl (Nat.le_of_ble_eq_true rfl) dX0_init_25 rfl ?_
  refine k_aload_n C dX0_init_28 0 rfl ?_
  refine k_bipush (v := (8)) C dX0_init_29 (by decide) ?_
  refine k_newa (N := 8) (vv := (8, .inl (fun _ : Nat => (0 : Int32)))) C 0 (by decide) rfl (by decide +kernel) (fun _ => rfl) (by decide) (by decide) (Nat.le_of_ble_eq_true rfl) (Nat.le_of_ble_eq_true rfl) (Nat.le_of_ble_eq_true rfl) dX0_init_31 (fun q3 => ?_)
  refine k_w (ws2 := [(h0, .inr (0, [.int 0, .ref q0, .ref q1, .ref q2, .null, .int 0, .null, .null, .null, .null, .null, .null])), (q0, eA cy 0 8), (q1, eA cy 0 8), (q2, eA cy 0 8), (q3, eA cy 0 8)]) rfl ?_
  refine k_putF (q0 := 0) (f := 4) (ci := 0) (ws' := [(h0, .inr (0, [.int 0, .ref q0, .ref q1, .ref q2, .ref q3, .int 0, .null, .null, .null, .null, .null, .null])), (q0, eA cy 0 8), (q1, eA cy 0 8), (q2, eA cy 0 8), (q3, eA cy 0 8)]) C (in_X0_init) tyX0 tyX0_ok nmX0 rfl rfl (by decide) (by decide +kernel) rfl rfl hin rfl rfl rfl (Nat.le_of_ble_eq_true rfl) dX0_init_33 rfl ?_
  refine k_aload_n C dX0_init_36 0 rfl ?_
  refine k_bipush (v := (16)) C dX0_init_37 (by decide) ?_
  refine k_newa (N := 16) (vv := (16, .inl (fun _ : Nat => (0 : Int32)))) C 0 (by decide) rfl (by decide +kernel) (fun _ => rfl) (by decide) (by decide) (Nat.le_of_ble_eq_true rfl) (Nat.le_of_ble_eq_true rfl) (Nat.le_of_ble_eq_true rfl) dX0_init_39 (fun q4 => ?_)
  refine k_w (ws2 := [(h0, .inr (0, [.int 0, .ref q0, .ref q1, .ref q2, .ref q3, .int 0, .null, .null, .null, .null, .null, .null])), (q0, eA cy 0 8), (q1, eA cy 0 8), (q2, eA cy 0 8), (q3, eA cy 0 8), (q4, eA cy 0 16)]) rfl ?_
  refine k_putF (q0 := 0) (f := 6) (ci := 0) (ws' := [(h0, .inr (0, [.int 0, .ref q0, .ref q1, .ref q2, .ref q3, .int 0, .ref q4, .null, .null, .null, .null, .null])), (q0, eA cy 0 8), (q1, eA cy 0 8), (q2, eA cy 0 8), (q3, eA cy 0 8), (q4, eA cy 0 16)]) C (in_X0_init) tyX0 tyX0_ok nmX0 rfl rfl (by decide) (by decide +kernel) rfl rfl hin rfl rfl rfl (Nat.le_of_ble_eq_true rfl) dX0_init_41 rfl ?_
  refine k_aload_n C dX0_init_44 0 rfl ?_
  refine k_bipush (v := (16)) C dX0_init_45 (by decide) ?_
  refine k_newa (N := 16) (vv := (16, .inl (fun _ : Nat => (0 : Int32)))) C 0 (by decide) rfl (by decide +kernel) (fun _ => rfl) (by decide) (by decide) (Nat.le_of_ble_eq_true rfl) (Nat.le_of_ble_eq_true rfl) (Nat.le_of_ble_eq_true rfl) dX0_init_47 (fun q5 => ?_)
  refine k_w (ws2 := [(h0, .inr (0, [.int 0, .ref q0, .ref q1, .ref q2, .ref q3, .int 0, .ref q4, .null, .null, .null, .null, .null])), (q0, eA cy 0 8), (q1, eA cy 0 8), (q2, eA cy 0 8), (q3, eA cy 0 8), (q4, eA cy 0 16), (q5, eA cy 0 16)]) rfl ?_
  refine k_putF (q0 := 0) (f := 7) (ci := 0) (ws' := [(h0, .inr (0, [.int 0, .ref q0, .ref q1, .ref q2, .ref q3, .int 0, .ref q4, .ref q5, .null, .null, .null, .null])), (q0, eA cy 0 8), (q1, eA cy 0 8), (q2, eA cy 0 8), (q3, eA cy 0 8), (q4, eA cy 0 16), (q5, eA cy 0 16)]) C (in_X0_init) tyX0 tyX0_ok nmX0 rfl rfl (by decide) (by decide +kernel) rfl rfl hin rfl rfl rfl (Nat.le_of_ble_eq_true rfl) dX0_init_49 rfl ?_
  refine k_aload_n C dX0_init_52 0 rfl ?_
  refine k_bipush (v := (16)) C dX0_init_53 (by decide) ?_
  refine k_newa (N := 16) (vv := (16, .inl (fun _ : Nat => (0 : Int32)))) C 0 (by decide) rfl (by decide +kernel) (fun _ => rfl) (by decide) (by decide) (Nat.le_of_ble_eq_true rfl) (Nat.le_of_ble_eq_true rfl) (Nat.le_of_ble_eq_true rfl) dX0_init_55 (fun q6 => ?_)
  refine k_w (ws2 := [(h0, .inr (0, [.int 0, .ref q0, .ref q1, .ref q2, .ref q3, .int 0, .ref q4, .ref q5, .null, .null, .null, .null])), (q0, eA cy 0 8), (q1, eA cy 0 8), (q2, eA cy 0 8), (q3, eA cy 0 8), (q4, eA cy 0 16), (q5, eA cy 0 16), (q6, eA cy 0 16)]) rfl ?_
  refine k_putF (q0 := 0) (f := 8) (ci := 0) (ws' := [(h0, .inr (0, [.int 0, .ref q0, .ref q1, .ref q2, .ref q3, .int 0, .ref q4, .ref q5, .ref q6, .null, .null, .null])), (q0, eA cy 0 8), (q1, eA cy 0 8), (q2, eA cy 0 8), (q3, eA cy 0 8), (q4, eA cy 0 16), (q5, eA cy 0 16), (q6, eA cy 0 16)]) C (in_X0_init) tyX0 tyX0_ok nmX0 rfl rfl (by decide) (by decide +kernel) rfl rfl hin rfl rfl rfl (Nat.le_of_ble_eq_true rfl) dX0_init_57 rfl ?_
  refine k_aload_n C dX0_init_60 0 rfl ?_
  refine k_bipush (v := (16)) C dX0_init_61 (by decide) ?_
  refine k_newa (N := 16) (vv := (16, .inl (fun _ : Nat => (0 : Int32)))) C 0 (by decide) rfl (by decide +kernel) (fun _ => rfl) (by decide) (by decide) (Nat.le_of_ble_eq_true rfl) (Nat.le_of_ble_eq_true rfl) (Nat.le_of_ble_eq_true rfl) dX0_init_63 (fun q7 => ?_)
  refine k_w (ws2 := [(h0, .inr (0, [.int 0, .ref q0, .ref q1, .ref q2, .ref q3, .int 0, .ref q4, .ref q5, .ref q6, .null, .null, .null])), (q0, eA cy 0 8), (q1, eA cy 0 8), (q2, eA cy 0 8), (q3, eA cy 0 8), (q4, eA cy 0 16), (q5, eA cy 0 16), (q6, eA cy 0 16), (q7, eA cy 0 16)]) rfl ?_
  refine k_putF (q0 := 0) (f := 9) (ci := 0) (ws' := [(h0, .inr (0, [.int 0, .ref q0, .ref q1, .ref q2, .ref q3, .int 0, .ref q4, .ref q5, .ref q6, .ref q7, .null, .null])), (q0, eA cy 0 8), (q1, eA cy 0 8), (q2, eA cy 0 8), (q3, eA cy 0 8), (q4, eA cy 0 16), (q5, eA cy 0 16), (q6, eA cy 0 16), (q7, eA cy 0 16)]) C (in_X0_init) tyX0 tyX0_ok nmX0 rfl rfl (by decide) (by decide +kernel) rfl rfl hin rfl rfl rfl (Nat.le_of_ble_eq_true rfl) dX0_init_65 rfl ?_
  refine k_aload_n C dX0_init_68 0 rfl ?_
  refine k_bipush (v := (16)) C dX0_init_69 (by decide) ?_
  refine k_newa (N := 16) (vv := (16, .inl (fun _ : Nat => (0 : Int32)))) C 1 (by decide) rfl (by decide +kernel) (fun _ => rfl) (by decide) (by decide) (Nat.le_of_ble_eq_true rfl) (Nat.le_of_ble_eq_true rfl) (Nat.le_of_ble_eq_true rfl) dX0_init_71 (fun q8 => ?_)
  refine k_w (ws2 := [(h0, .inr (0, [.int 0, .ref q0, .ref q1, .ref q2, .ref q3, .int 0, .ref q4, .ref q5, .ref q6, .ref q7, .null, .null])), (q0, eA cy 0 8), (q1, eA cy 0 8), (q2, eA cy 0 8), (q3, eA cy 0 8), (q4, eA cy 0 16), (q5, eA cy 0 16), (q6, eA cy 0 16), (q7, eA cy 0 16), (q8, eA cy 1 16)]) rfl ?_
  refine k_putF (q0 := 0) (f := 10) (ci := 0) (ws' := [(h0, .inr (0, [.int 0, .ref q0, .ref q1, .ref q2, .ref q3, .int 0, .ref q4, .ref q5, .ref q6, .ref q7, .ref q8, .null])), (q0, eA cy 0 8), (q1, eA cy 0 8), (q2, eA cy 0 8), (q3, eA cy 0 8), (q4, eA cy 0 16), (q5, eA cy 0 16), (q6, eA cy 0 16), (q7, eA cy 0 16), (q8, eA cy 1 16)]) C (in_X0_init) tyX0 tyX0_ok nmX0 rfl rfl (by decide) (by decide +kernel) rfl rfl hin rfl rfl rfl (Nat.le_of_ble_eq_true rfl) dX0_init_73 rfl ?_
  refine k_aload_n C dX0_init_76 0 rfl ?_
  refine k_iconst (v := (4)) C dX0_init_77 (by decide) ?_
  refine k_newa (N := 4) (vv := (4, .inl (fun _ : Nat => (0 : Int32)))) C 0 (by decide) rfl (by decide +kernel) (fun _ => rfl) (by decide) (by decide) (Nat.le_of_ble_eq_true rfl) (Nat.le_of_ble_eq_true rfl) (Nat.le_of_ble_eq_true rfl) dX0_init_78 (fun q9 => ?_)
  refine k_w (ws2 := [(h0, .inr (0, [.int 0, .ref q0, .ref q1, .ref q2, .ref q3, .int 0, .ref q4, .ref q5, .ref q6, .ref q7, .ref q8, .null])), (q0, eA cy 0 8), (q1, eA cy 0 8), (q2, eA cy 0 8), (q3, eA cy 0 8), (q4, eA cy 0 16), (q5, eA cy 0 16), (q6, eA cy 0 16), (q7, eA cy 0 16), (q8, eA cy 1 16), (q9, eA cy 0 4)]) rfl ?_
  refine k_putF (q0 := 0) (f := 11) (ci := 0) (ws' := [(h0, .inr (0, [.int 0, .ref q0, .ref q1, .ref q2, .ref q3, .int 0, .ref q4, .ref q5, .ref q6, .ref q7, .ref q8, .ref q9])), (q0, eA cy 0 8), (q1, eA cy 0 8), (q2, eA cy 0 8), (q3, eA cy 0 8), (q4, eA cy 0 16), (q5, eA cy 0 16), (q6, eA cy 0 16), (q7, eA cy 0 16), (q8, eA cy 1 16), (q9, eA cy 0 4)]) C (in_X0_init) tyX0 tyX0_ok nmX0 rfl rfl (by decide) (by decide +kernel) rfl rfl hin rfl rfl rfl (Nat.le_of_ble_eq_true rfl) dX0_init_80 rfl ?_
  refine k_iconst (v := (0)) C dX0_init_83 (by decide) ?_
  refine k_istore_n (vs' := [(1, .int 0), (0, .ref h0)]) C dX0_init_84 (by decide) rfl ?_
  refine k_iload_n C dX0_init_85 0 rfl ?_
  refine k_iconst (v := (4)) C dX0_init_86 (by decide) ?_
  refine k_ge_n C 107 dX0_init_87 (by decide) (by decide) ?_
  refine k_aload_n C dX0_init_90 1 rfl ?_
  refine k_get (q0 := 0) (f := 11) (ci := 0) (v := .ref q9) C (in_X0_init) tyX0 tyX0_ok rfl rfl (by decide) (by decide +kernel) rfl rfl dX0_init_91 ?_
  refine k_iload_n C dX0_init_94 0 rfl ?_
  refine k_getsN (host := "DoacrossScheduler") C hZ1 (by decide +kernel) dX0_init_95 ?_
  refine k_iload_n C dX0_init_98 0 rfl ?_
  refine k_ti (v := .int 10) C hZ2 (by unfold vp_in; decide) rfl dX0_init_99 ?_
  refine k_iast (q0 := 10) (N := 4) (ws' := [(h0, .inr (0, [.int 0, .ref q0, .ref q1, .ref q2, .ref q3, .int 0, .ref q4, .ref q5, .ref q6, .ref q7, .ref q8, .ref q9])), (q0, eA cy 0 8), (q1, eA cy 0 8), (q2, eA cy 0 8), (q3, eA cy 0 8), (q4, eA cy 0 16), (q5, eA cy 0 16), (q6, eA cy 0 16), (q7, eA cy 0 16), (q8, eA cy 1 16), (q9, .inl (cy 0, 4, .inl ((upd (fun _ : Nat => (0 : Int32)) 0 10))))]) C rfl (by unfold vp_in; decide) dX0_init_100 rfl ?_
  refine k_iinc (v := 1) (vs' := [(1, .int 1), (0, .ref h0)]) (j := 0) C dX0_init_101 rfl (by decide) (by decide) rfl ?_
  refine k_goto C 85 dX0_init_104 (by decide) ?_
  refine k_iload_n C dX0_init_85 0 rfl ?_
  refine k_iconst (v := (4)) C dX0_init_86 (by decide) ?_
  refine k_ge_n C 107 dX0_init_87 (by decide) (by decide) ?_
  refine k_aload_n C dX0_init_90 1 rfl ?_
  refine k_get (q0 := 0) (f := 11) (ci := 0) (v := .ref q9) C (in_X0_init) tyX0 tyX0_ok rfl rfl (by decide) (by decide +kernel) rfl rfl dX0_init_91 ?_
  refine k_iload_n C dX0_init_94 0 rfl ?_
  refine k_getsN (host := "DoacrossScheduler") C hZ1 (by decide +kernel) dX0_init_95 ?_
  refine k_iload_n C dX0_init_98 0 rfl ?_
  refine k_ti (v := .int 1) C hZ2 (by unfold vp_in; decide) rfl dX0_init_99 ?_
  refine k_iast (q0 := 10) (N := 4) (ws' := [(h0, .inr (0, [.int 0, .ref q0, .ref q1, .ref q2, .ref q3, .int 0, .ref q4, .ref q5, .ref q6, .ref q7, .ref q8, .ref q9])), (q0, eA cy 0 8), (q1, eA cy 0 8), (q2, eA cy 0 8), (q3, eA cy 0 8), (q4, eA cy 0 16), (q5, eA cy 0 16), (q6, eA cy 0 16), (q7, eA cy 0 16), (q8, eA cy 1 16), (q9, .inl (cy 0, 4, .inl ((upd (upd (fun _ : Nat => (0 : Int32)) 0 10) 1 1))))]) C rfl (by unfold vp_in; decide) dX0_init_100 rfl ?_
  refine k_iinc (v := 2) (vs' := [(1, .int 2), (0, .ref h0)]) (j := 0) C dX0_init_101 rfl (by decide) (by decide) rfl ?_
  refine k_goto C 85 dX0_init_104 (by decide) ?_
  refine k_iload_n C dX0_init_85 0 rfl ?_
  refine k_iconst (v := (4)) C dX0_init_86 (by decide) ?_
  refine k_ge_n C 107 dX0_init_87 (by decide) (by decide) ?_
  refine k_aload_n C dX0_init_90 1 rfl ?_
  refine k_get (q0 := 0) (f := 11) (ci := 0) (v := .ref q9) C (in_X0_init) tyX0 tyX0_ok rfl rfl (by decide) (by decide +kernel) rfl rfl dX0_init_91 ?_
  refine k_iload_n C dX0_init_94 0 rfl ?_
  refine k_getsN (host := "DoacrossScheduler") C hZ1 (by decide +kernel) dX0_init_95 ?_
  refine k_iload_n C dX0_init_98 0 rfl ?_
  refine k_ti (v := .int 2) C hZ2 (by unfold vp_in; decide) rfl dX0_init_99 ?_
  refine k_iast (q0 := 10) (N := 4) (ws' := [(h0, .inr (0, [.int 0, .ref q0, .ref q1, .ref q2, .ref q3, .int 0, .ref q4, .ref q5, .ref q6, .ref q7, .ref q8, .ref q9])), (q0, eA cy 0 8), (q1, eA cy 0 8), (q2, eA cy 0 8), (q3, eA cy 0 8), (q4, eA cy 0 16), (q5, eA cy 0 16), (q6, eA cy 0 16), (q7, eA cy 0 16), (q8, eA cy 1 16), (q9, .inl (cy 0, 4, .inl ((upd (upd (upd (fun _ : Nat => (0 : Int32)) 0 10) 1 1) 2 2))))]) C rfl (by unfold vp_in; decide) dX0_init_100 rfl ?_
  refine k_iinc (v := 3) (vs' := [(1, .int 3), (0, .ref h0)]) (j := 0) C dX0_init_101 rfl (by decide) (by decide) rfl ?_
  refine k_goto C 85 dX0_init_104 (by decide) ?_
  refine k_iload_n C dX0_init_85 0 rfl ?_
  refine k_iconst (v := (4)) C dX0_init_86 (by decide) ?_
  refine k_ge_n C 107 dX0_init_87 (by decide) (by decide) ?_
  refine k_aload_n C dX0_init_90 1 rfl ?_
  refine k_get (q0 := 0) (f := 11) (ci := 0) (v := .ref q9) C (in_X0_init) tyX0 tyX0_ok rfl rfl (by decide) (by decide +kernel) rfl rfl dX0_init_91 ?_
  refine k_iload_n C dX0_init_94 0 rfl ?_
  refine k_getsN (host := "DoacrossScheduler") C hZ1 (by decide +kernel) dX0_init_95 ?_
  refine k_iload_n C dX0_init_98 0 rfl ?_
  refine k_ti (v := .int 0) C hZ2 (by unfold vp_in; decide) rfl dX0_init_99 ?_
  refine k_iast (q0 := 10) (N := 4) (ws' := [(h0, .inr (0, [.int 0, .ref q0, .ref q1, .ref q2, .ref q3, .int 0, .ref q4, .ref q5, .ref q6, .ref q7, .ref q8, .ref q9])), (q0, eA cy 0 8), (q1, eA cy 0 8), (q2, eA cy 0 8), (q3, eA cy 0 8), (q4, eA cy 0 16), (q5, eA cy 0 16), (q6, eA cy 0 16), (q7, eA cy 0 16), (q8, eA cy 1 16), (q9, .inl (cy 0, 4, .inl ((upd (upd (upd (upd (fun _ : Nat => (0 : Int32)) 0 10) 1 1) 2 2) 3 0))))]) C rfl (by unfold vp_in; decide) dX0_init_100 rfl ?_
  refine k_iinc (v := 4) (vs' := [(1, .int 4), (0, .ref h0)]) (j := 0) C dX0_init_101 rfl (by decide) (by decide) rfl ?_
  refine k_goto C 85 dX0_init_104 (by decide) ?_
  refine k_iload_n C dX0_init_85 0 rfl ?_
  refine k_iconst (v := (4)) C dX0_init_86 (by decide) ?_
  refine k_ge_y C 107 dX0_init_87 (by decide) (by decide) ?_
  exact k_ret (W1 := wX0) C hAe hr (fun i => if i = 0 then h0 else if i = 1 then q0 else if i = 2 then q1 else if i = 3 then q2 else if i = 4 then q3 else if i = 5 then q4 else if i = 6 then q5 else if i = 7 then q6 else if i = 8 then q7 else if i = 9 then q8 else q9) rfl rfl (Nat.le_of_ble_eq_true rfl) (Nat.le_of_ble_eq_true rfl) dX0_init_107
def wX4 (cy : Nat → ClassId) (a : Nat → Nat) : va_W := [(a 0, .inr (4, [.ref (a 1), .int 0, .int 0])), (a 1, eA cy 2 60)]
theorem in_X4_init : ∀ w ∈ u_ws RX4 TX4 3, w ∈ wsX4_init := by decide +kernel
set_option maxHeartbeats 4000000 in
set_option maxRecDepth 100000 in
theorem c_X4_init (l : Launch) : CtC l yX4_init wsX4_init { frames := 1, cells := 1, slots := 60, locals := 12 } 4 [.null, .int 0, .int 0] wX4 1 60 := by
  refine z_ctC (cc := cX4_init) (maxL := 1) (by decide) rfl rfl (Nat.le_of_ble_eq_true rfl) (@fun p e s m args below meth c D cy h0 A C hZ hAe hr hin => ?_)
  refine k_aload_n C dX4_init_0 0 rfl ?_
  refine k_obj C (by decide +kernel) (by decide +kernel) (by decide +kernel) (Nat.le_of_ble_eq_true rfl) (Nat.le_of_ble_eq_true rfl) dX4_init_1 ?_
  refine k_aload_n C dX4_init_4 0 rfl ?_
  refine k_bipush (v := (60)) C dX4_init_5 (by decide) ?_
  refine k_newa (N := 60) (vv := (60, .inl (fun _ : Nat => (0 : Int32)))) C 2 (by decide) rfl (by decide +kernel) (fun _ => rfl) (by decide) (by decide) (Nat.le_of_ble_eq_true rfl) (Nat.le_of_ble_eq_true rfl) (Nat.le_of_ble_eq_true rfl) dX4_init_7 (fun q0 => ?_)
  refine k_w (ws2 := [(h0, .inr (4, [.null, .int 0, .int 0])), (q0, eA cy 2 60)]) rfl ?_
  refine k_putF (q0 := 0) (f := 0) (ci := 4) (ws' := [(h0, .inr (4, [.ref q0, .int 0, .int 0])), (q0, eA cy 2 60)]) C (in_X4_init) tyX4 tyX4_ok nmX4 rfl rfl (by decide) (by decide +kernel) rfl rfl hin rfl rfl rfl (Nat.le_of_ble_eq_true rfl) dX4_init_9 rfl ?_
  exact k_ret (W1 := wX4) C hAe hr (fun i => if i = 0 then h0 else q0) rfl rfl (Nat.le_of_ble_eq_true rfl) (Nat.le_of_ble_eq_true rfl) dX4_init_12
def wX2 (cy : Nat → ClassId) (a : Nat → Nat) : va_W := [(a 0, .inr (2, [.ref (a 1)])), (a 1, eA cy 0 48)]
theorem in_X2_init : ∀ w ∈ u_ws RX2 TX2 1, w ∈ wsX2_init := by decide +kernel
set_option maxHeartbeats 4000000 in
set_option maxRecDepth 100000 in
theorem c_X2_init (l : Launch) : CtC l yX2_init wsX2_init { frames := 1, cells := 1, slots := 48, locals := 12 } 2 [.null] wX2 1 48 := by
  refine z_ctC (cc := cX2_init) (maxL := 1) (by decide) rfl rfl (Nat.le_of_ble_eq_true rfl) (@fun p e s m args below meth c D cy h0 A C hZ hAe hr hin => ?_)
  refine k_aload_n C dX2_init_0 0 rfl ?_
  refine k_obj C (by decide +kernel) (by decide +kernel) (by decide +kernel) (Nat.le_of_ble_eq_true rfl) (Nat.le_of_ble_eq_true rfl) dX2_init_1 ?_
  refine k_aload_n C dX2_init_4 0 rfl ?_
  refine k_bipush (v := (48)) C dX2_init_5 (by decide) ?_
  refine k_newa (N := 48) (vv := (48, .inl (fun _ : Nat => (0 : Int32)))) C 0 (by decide) rfl (by decide +kernel) (fun _ => rfl) (by decide) (by decide) (Nat.le_of_ble_eq_true rfl) (Nat.le_of_ble_eq_true rfl) (Nat.le_of_ble_eq_true rfl) dX2_init_7 (fun q0 => ?_)
  refine k_w (ws2 := [(h0, .inr (2, [.null])), (q0, eA cy 0 48)]) rfl ?_
  refine k_putF (q0 := 0) (f := 0) (ci := 2) (ws' := [(h0, .inr (2, [.ref q0])), (q0, eA cy 0 48)]) C (in_X2_init) tyX2 tyX2_ok nmX2 rfl rfl (by decide) (by decide +kernel) rfl rfl hin rfl rfl rfl (Nat.le_of_ble_eq_true rfl) dX2_init_9 rfl ?_
  exact k_ret (W1 := wX2) C hAe hr (fun i => if i = 0 then h0 else q0) rfl rfl (Nat.le_of_ble_eq_true rfl) (Nat.le_of_ble_eq_true rfl) dX2_init_12
def wX3 (cy : Nat → ClassId) (a : Nat → Nat) : va_W := [(a 0, .inr (3, [.ref (a 1), .ref (a 2), .ref (a 3), .ref (a 4), .ref (a 5), .ref (a 6), .int 0])), (a 1, eA cy 0 320), (a 2, eA cy 0 40), (a 3, eA cy 0 6), (a 4, eA cy 0 6), (a 5, eA cy 0 6), (a 6, eA cy 0 6)]
theorem in_X3_init : ∀ w ∈ u_ws RX3 TX3 7, w ∈ wsX3_init := by decide +kernel
set_option maxHeartbeats 4000000 in
set_option maxRecDepth 100000 in
theorem c_X3_init (l : Launch) : CtC l yX3_init wsX3_init { frames := 1, cells := 6, slots := 384, locals := 12 } 3 [.null, .null, .null, .null, .null, .null, .int 0] wX3 6 384 := by
  refine z_ctC (cc := cX3_init) (maxL := 1) (by decide) rfl rfl (Nat.le_of_ble_eq_true rfl) (@fun p e s m args below meth c D cy h0 A C hZ hAe hr hin => ?_)
  refine k_aload_n C dX3_init_0 0 rfl ?_
  refine k_obj C (by decide +kernel) (by decide +kernel) (by decide +kernel) (Nat.le_of_ble_eq_true rfl) (Nat.le_of_ble_eq_true rfl) dX3_init_1 ?_
  refine k_aload_n C dX3_init_4 0 rfl ?_
  refine k_sipush (v := (320)) C dX3_init_5 (by decide) ?_
  refine k_newa (N := 320) (vv := (320, .inl (fun _ : Nat => (0 : Int32)))) C 0 (by decide) rfl (by decide +kernel) (fun _ => rfl) (by decide) (by decide) (Nat.le_of_ble_eq_true rfl) (Nat.le_of_ble_eq_true rfl) (Nat.le_of_ble_eq_true rfl) dX3_init_8 (fun q0 => ?_)
  refine k_w (ws2 := [(h0, .inr (3, [.null, .null, .null, .null, .null, .null, .int 0])), (q0, eA cy 0 320)]) rfl ?_
  refine k_putF (q0 := 0) (f := 0) (ci := 3) (ws' := [(h0, .inr (3, [.ref q0, .null, .null, .null, .null, .null, .int 0])), (q0, eA cy 0 320)]) C (in_X3_init) tyX3 tyX3_ok nmX3 rfl rfl (by decide) (by decide +kernel) rfl rfl hin rfl rfl rfl (Nat.le_of_ble_eq_true rfl) dX3_init_10 rfl ?_
  refine k_aload_n C dX3_init_13 0 rfl ?_
  refine k_bipush (v := (40)) C dX3_init_14 (by decide) ?_
  refine k_newa (N := 40) (vv := (40, .inl (fun _ : Nat => (0 : Int32)))) C 0 (by decide) rfl (by decide +kernel) (fun _ => rfl) (by decide) (by decide) (Nat.le_of_ble_eq_true rfl) (Nat.le_of_ble_eq_true rfl) (Nat.le_of_ble_eq_true rfl) dX3_init_16 (fun q1 => ?_)
  refine k_w (ws2 := [(h0, .inr (3, [.ref q0, .null, .null, .null, .null, .null, .int 0])), (q0, eA cy 0 320), (q1, eA cy 0 40)]) rfl ?_
  refine k_putF (q0 := 0) (f := 1) (ci := 3) (ws' := [(h0, .inr (3, [.ref q0, .ref q1, .null, .null, .null, .null, .int 0])), (q0, eA cy 0 320), (q1, eA cy 0 40)]) C (in_X3_init) tyX3 tyX3_ok nmX3 rfl rfl (by decide) (by decide +kernel) rfl rfl hin rfl rfl rfl (Nat.le_of_ble_eq_true rfl) dX3_init_18 rfl ?_
  refine k_aload_n C dX3_init_21 0 rfl ?_
  refine k_bipush (v := (6)) C dX3_init_22 (by decide) ?_
  refine k_newa (N := 6) (vv := (6, .inl (fun _ : Nat => (0 : Int32)))) C 0 (by decide) rfl (by decide +kernel) (fun _ => rfl) (by decide) (by decide) (Nat.le_of_ble_eq_true rfl) (Nat.le_of_ble_eq_true rfl) (Nat.le_of_ble_eq_true rfl) dX3_init_24 (fun q2 => ?_)
  refine k_w (ws2 := [(h0, .inr (3, [.ref q0, .ref q1, .null, .null, .null, .null, .int 0])), (q0, eA cy 0 320), (q1, eA cy 0 40), (q2, eA cy 0 6)]) rfl ?_
  refine k_putF (q0 := 0) (f := 2) (ci := 3) (ws' := [(h0, .inr (3, [.ref q0, .ref q1, .ref q2, .null, .null, .null, .int 0])), (q0, eA cy 0 320), (q1, eA cy 0 40), (q2, eA cy 0 6)]) C (in_X3_init) tyX3 tyX3_ok nmX3 rfl rfl (by decide) (by decide +kernel) rfl rfl hin rfl rfl rfl (Nat.le_of_ble_eq_true rfl) dX3_init_26 rfl ?_
  refine k_aload_n C dX3_init_29 0 rfl ?_
  refine k_bipush (v := (6)) C dX3_init_30 (by decide) ?_
  refine k_newa (N := 6) (vv := (6, .inl (fun _ : Nat => (0 : Int32)))) C 0 (by decide) rfl (by decide +kernel) (fun _ => rfl) (by decide) (by decide) (Nat.le_of_ble_eq_true rfl) (Nat.le_of_ble_eq_true rfl) (Nat.le_of_ble_eq_true rfl) dX3_init_32 (fun q3 => ?_)
  refine k_w (ws2 := [(h0, .inr (3, [.ref q0, .ref q1, .ref q2, .null, .null, .null, .int 0])), (q0, eA cy 0 320), (q1, eA cy 0 40), (q2, eA cy 0 6), (q3, eA cy 0 6)]) rfl ?_
  refine k_putF (q0 := 0) (f := 3) (ci := 3) (ws' := [(h0, .inr (3, [.ref q0, .ref q1, .ref q2, .ref q3, .null, .null, .int 0])), (q0, eA cy 0 320), (q1, eA cy 0 40), (q2, eA cy 0 6), (q3, eA cy 0 6)]) C (in_X3_init) tyX3 tyX3_ok nmX3 rfl rfl (by decide) (by decide +kernel) rfl rfl hin rfl rfl rfl (Nat.le_of_ble_eq_true rfl) dX3_init_34 rfl ?_
  refine k_aload_n C dX3_init_37 0 rfl ?_
  refine k_bipush (v := (6)) C dX3_init_38 (by decide) ?_
  refine k_newa (N := 6) (vv := (6, .inl (fun _ : Nat => (0 : Int32)))) C 0 (by decide) rfl (by decide +kernel) (fun _ => rfl) (by decide) (by decide) (Nat.le_of_ble_eq_true rfl) (Nat.le_of_ble_eq_true rfl) (Nat.le_of_ble_eq_true rfl) dX3_init_40 (fun q4 => ?_)
  refine k_w (ws2 := [(h0, .inr (3, [.ref q0, .ref q1, .ref q2, .ref q3, .null, .null, .int 0])), (q0, eA cy 0 320), (q1, eA cy 0 40), (q2, eA cy 0 6), (q3, eA cy 0 6), (q4, eA cy 0 6)]) rfl ?_
  refine k_putF (q0 := 0) (f := 4) (ci := 3) (ws' := [(h0, .inr (3, [.ref q0, .ref q1, .ref q2, .ref q3, .ref q4, .null, .int 0])), (q0, eA cy 0 320), (q1, eA cy 0 40), (q2, eA cy 0 6), (q3, eA cy 0 6), (q4, eA cy 0 6)]) C (in_X3_init) tyX3 tyX3_ok nmX3 rfl rfl (by decide) (by decide +kernel) rfl rfl hin rfl rfl rfl (Nat.le_of_ble_eq_true rfl) dX3_init_42 rfl ?_
  refine k_aload_n C dX3_init_45 0 rfl ?_
  refine k_bipush (v := (6)) C dX3_init_46 (by decide) ?_
  refine k_newa (N := 6) (vv := (6, .inl (fun _ : Nat => (0 : Int32)))) C 0 (by decide) rfl (by decide +kernel) (fun _ => rfl) (by decide) (by decide) (Nat.le_of_ble_eq_true rfl) (Nat.le_of_ble_eq_true rfl) (Nat.le_of_ble_eq_true rfl) dX3_init_48 (fun q5 => ?_)
  refine k_w (ws2 := [(h0, .inr (3, [.ref q0, .ref q1, .ref q2, .ref q3, .ref q4, .null, .int 0])), (q0, eA cy 0 320), (q1, eA cy 0 40), (q2, eA cy 0 6), (q3, eA cy 0 6), (q4, eA cy 0 6), (q5, eA cy 0 6)]) rfl ?_
  refine k_putF (q0 := 0) (f := 5) (ci := 3) (ws' := [(h0, .inr (3, [.ref q0, .ref q1, .ref q2, .ref q3, .ref q4, .ref q5, .int 0])), (q0, eA cy 0 320), (q1, eA cy 0 40), (q2, eA cy 0 6), (q3, eA cy 0 6), (q4, eA cy 0 6), (q5, eA cy 0 6)]) C (in_X3_init) tyX3 tyX3_ok nmX3 rfl rfl (by decide) (by decide +kernel) rfl rfl hin rfl rfl rfl (Nat.le_of_ble_eq_true rfl) dX3_init_50 rfl ?_
  exact k_ret (W1 := wX3) C hAe hr (fun i => if i = 0 then h0 else if i = 1 then q0 else if i = 2 then q1 else if i = 3 then q2 else if i = 4 then q3 else if i = 5 then q4 else q5) rfl rfl (Nat.le_of_ble_eq_true rfl) (Nat.le_of_ble_eq_true rfl) dX3_init_53
def wX1 (cy : Nat → ClassId) (a : Nat → Nat) : va_W := [(a 0, .inr (1, [.ref (a 1), .ref (a 12), .int 0]))] ++ wX0 cy (fun i => a (i + 1)) ++ [(a 12, eA cy 0 8)]
theorem in_X1_init : ∀ w ∈ u_ws RX1 TX1 3, w ∈ wsX1_init := by decide +kernel
set_option maxHeartbeats 4000000 in
set_option maxRecDepth 100000 in
theorem c_X1_init (l : Launch) : CtC l yX1_init wsX1_init { frames := 2, cells := 12, slots := 136, locals := 33 } 1 [.null, .null, .int 0] wX1 12 136 := by
  refine z_ctC (cc := cX1_init) (maxL := 1) (by decide) rfl rfl (Nat.le_of_ble_eq_true rfl) (@fun p e s m args below meth c D cy h0 A C hZ hAe hr hin => ?_)
  refine k_aload_n C dX1_init_0 0 rfl ?_
  refine k_obj C (by decide +kernel) (by decide +kernel) (by decide +kernel) (Nat.le_of_ble_eq_true rfl) (Nat.le_of_ble_eq_true rfl) dX1_init_1 ?_
  refine k_aload_n C dX1_init_4 0 rfl ?_
  refine k_new (fs := [.int 0, .null, .null, .null, .null, .int 0, .null, .null, .null, .null, .null, .null]) C (by decide +kernel) tyX0 tyX0_ok (ci := 0) rfl (by decide +kernel) (by decide +kernel) (by decide +kernel) (by decide) (Nat.le_of_ble_eq_true rfl) (Nat.le_of_ble_eq_true rfl) dX1_init_5 (fun q0 => ?_)
  refine k_w (ws2 := [(h0, .inr (1, [.null, .null, .int 0])), (q0, .inr (0, [.int 0, .null, .null, .null, .null, .int 0, .null, .null, .null, .null, .null, .null]))]) rfl ?_
  refine k_dup C dX1_init_8 ?_
  refine k_w (ws2 := ([(h0, .inr (1, [.null, .null, .int 0]))]) ++ [(q0, .inr (0, [.int 0, .null, .null, .null, .null, .int 0, .null, .null, .null, .null, .null, .null]))]) rfl ?_
  refine k_call (rest := [.ref q0, .ref h0]) C (c_X0_init l) gX1_init_X0_init rfl ⟨rfl, rfl⟩ (by decide +kernel) (by decide +kernel) (by decide +kernel) rfl (by decide +kernel) ⟨Nat.le_of_ble_eq_true rfl, Nat.le_of_ble_eq_true rfl⟩ (Nat.le_of_ble_eq_true rfl) dX1_init_9 ⟨Nat.le_of_ble_eq_true rfl, Nat.le_of_ble_eq_true rfl⟩ hZ (fun a1 ha1 => ?_)
  subst ha1
  refine k_putF (q0 := 0) (f := 0) (ci := 1) (ws' := [(h0, .inr (1, [.ref (a1 0), .null, .int 0]))] ++ wX0 cy a1) C (in_X1_init) tyX1 tyX1_ok nmX1 rfl rfl (by decide) (by decide +kernel) rfl rfl hin rfl rfl rfl (Nat.le_of_ble_eq_true rfl) dX1_init_12 rfl ?_
  refine k_aload_n C dX1_init_15 0 rfl ?_
  refine k_bipush (v := (8)) C dX1_init_16 (by decide) ?_
  refine k_newa (N := 8) (vv := (8, .inl (fun _ : Nat => (0 : Int32)))) C 0 (by decide) rfl (by decide +kernel) (fun _ => rfl) (by decide) (by decide) (Nat.le_of_ble_eq_true rfl) (Nat.le_of_ble_eq_true rfl) (Nat.le_of_ble_eq_true rfl) dX1_init_18 (fun q2 => ?_)
  refine k_w (ws2 := [(h0, .inr (1, [.ref (a1 0), .null, .int 0]))] ++ wX0 cy a1 ++ [(q2, eA cy 0 8)]) rfl ?_
  refine k_putF (q0 := 0) (f := 1) (ci := 1) (ws' := [(h0, .inr (1, [.ref (a1 0), .ref q2, .int 0]))] ++ wX0 cy a1 ++ [(q2, eA cy 0 8)]) C (in_X1_init) tyX1 tyX1_ok nmX1 rfl rfl (by decide) (by decide +kernel) rfl rfl hin rfl rfl rfl (Nat.le_of_ble_eq_true rfl) dX1_init_20 rfl ?_
  exact k_ret (W1 := wX1) C hAe hr (fun i => if i = 0 then h0 else if i < 12 then a1 (i - 1) else q2) rfl rfl (Nat.le_of_ble_eq_true rfl) (Nat.le_of_ble_eq_true rfl) dX1_init_23
def wX5 (cy : Nat → ClassId) (a : Nat → Nat) : va_W := [(a 0, .inr (5, [.ref (a 1), .ref (a 12), .ref (a 23), .ref (a 34), .ref (a 36), .ref (a 38), .ref (a 51), .int (0), .int (-1)]))] ++ wX0 cy (fun i => a (i + 1)) ++ wX0 cy (fun i => a (i + 12)) ++ wX0 cy (fun i => a (i + 23)) ++ wX4 cy (fun i => a (i + 34)) ++ wX2 cy (fun i => a (i + 36)) ++ wX1 cy (fun i => a (i + 38)) ++ wX3 cy (fun i => a (i + 51))
theorem in_X5_init : ∀ w ∈ u_ws RX5 TX5 9, w ∈ wsX5_init := by decide +kernel
set_option maxHeartbeats 4000000 in
set_option maxRecDepth 100000 in
theorem c_X5_init (l : Launch) : CtC l yX5_init wsX5_init { frames := 3, cells := 57, slots := 1026, locals := 53 } 5 [.null, .null, .null, .null, .null, .null, .null, .int 0, .int 0] wX5 57 1026 := by
  refine z_ctC (cc := cX5_init) (maxL := 1) (by decide) rfl rfl (Nat.le_of_ble_eq_true rfl) (@fun p e s m args below meth c D cy h0 A C hZ hAe hr hin => ?_)
  refine k_aload_n C dX5_init_0 0 rfl ?_
  refine k_obj C (by decide +kernel) (by decide +kernel) (by decide +kernel) (Nat.le_of_ble_eq_true rfl) (Nat.le_of_ble_eq_true rfl) dX5_init_1 ?_
  refine k_aload_n C dX5_init_4 0 rfl ?_
  refine k_new (fs := [.int 0, .null, .null, .null, .null, .int 0, .null, .null, .null, .null, .null, .null]) C (by decide +kernel) tyX0 tyX0_ok (ci := 0) rfl (by decide +kernel) (by decide +kernel) (by decide +kernel) (by decide) (Nat.le_of_ble_eq_true rfl) (Nat.le_of_ble_eq_true rfl) dX5_init_5 (fun q0 => ?_)
  refine k_w (ws2 := [(h0, .inr (5, [.null, .null, .null, .null, .null, .null, .null, .int 0, .int 0])), (q0, .inr (0, [.int 0, .null, .null, .null, .null, .int 0, .null, .null, .null, .null, .null, .null]))]) rfl ?_
  refine k_dup C dX5_init_8 ?_
  refine k_w (ws2 := ([(h0, .inr (5, [.null, .null, .null, .null, .null, .null, .null, .int 0, .int 0]))]) ++ [(q0, .inr (0, [.int 0, .null, .null, .null, .null, .int 0, .null, .null, .null, .null, .null, .null]))]) rfl ?_
  refine k_call (rest := [.ref q0, .ref h0]) C (c_X0_init l) gX5_init_X0_init rfl ⟨rfl, rfl⟩ (by decide +kernel) (by decide +kernel) (by decide +kernel) rfl (by decide +kernel) ⟨Nat.le_of_ble_eq_true rfl, Nat.le_of_ble_eq_true rfl⟩ (Nat.le_of_ble_eq_true rfl) dX5_init_9 ⟨Nat.le_of_ble_eq_true rfl, Nat.le_of_ble_eq_true rfl⟩ hZ (fun a1 ha1 => ?_)
  subst ha1
  refine k_putF (q0 := 0) (f := 0) (ci := 5) (ws' := [(h0, .inr (5, [.ref (a1 0), .null, .null, .null, .null, .null, .null, .int 0, .int 0]))] ++ wX0 cy a1) C (in_X5_init) tyX5 tyX5_ok nmX5 rfl rfl (by decide) (by decide +kernel) rfl rfl hin rfl rfl rfl (Nat.le_of_ble_eq_true rfl) dX5_init_12 rfl ?_
  refine k_aload_n C dX5_init_15 0 rfl ?_
  refine k_new (fs := [.int 0, .null, .null, .null, .null, .int 0, .null, .null, .null, .null, .null, .null]) C (by decide +kernel) tyX0 tyX0_ok (ci := 0) rfl (by decide +kernel) (by decide +kernel) (by decide +kernel) (by decide) (Nat.le_of_ble_eq_true rfl) (Nat.le_of_ble_eq_true rfl) dX5_init_16 (fun q2 => ?_)
  refine k_w (ws2 := [(h0, .inr (5, [.ref (a1 0), .null, .null, .null, .null, .null, .null, .int 0, .int 0]))] ++ wX0 cy a1 ++ [(q2, .inr (0, [.int 0, .null, .null, .null, .null, .int 0, .null, .null, .null, .null, .null, .null]))]) rfl ?_
  refine k_dup C dX5_init_19 ?_
  refine k_w (ws2 := ([(h0, .inr (5, [.ref (a1 0), .null, .null, .null, .null, .null, .null, .int 0, .int 0]))] ++ wX0 cy a1) ++ [(q2, .inr (0, [.int 0, .null, .null, .null, .null, .int 0, .null, .null, .null, .null, .null, .null]))]) rfl ?_
  refine k_call (rest := [.ref q2, .ref h0]) C (c_X0_init l) gX5_init_X0_init rfl ⟨rfl, rfl⟩ (by decide +kernel) (by decide +kernel) (by decide +kernel) rfl (by decide +kernel) ⟨Nat.le_of_ble_eq_true rfl, Nat.le_of_ble_eq_true rfl⟩ (Nat.le_of_ble_eq_true rfl) dX5_init_20 ⟨Nat.le_of_ble_eq_true rfl, Nat.le_of_ble_eq_true rfl⟩ hZ (fun a3 ha3 => ?_)
  subst ha3
  refine k_putF (q0 := 0) (f := 1) (ci := 5) (ws' := [(h0, .inr (5, [.ref (a1 0), .ref (a3 0), .null, .null, .null, .null, .null, .int 0, .int 0]))] ++ wX0 cy a1 ++ wX0 cy a3) C (in_X5_init) tyX5 tyX5_ok nmX5 rfl rfl (by decide) (by decide +kernel) rfl rfl hin rfl rfl rfl (Nat.le_of_ble_eq_true rfl) dX5_init_23 rfl ?_
  refine k_aload_n C dX5_init_26 0 rfl ?_
  refine k_new (fs := [.int 0, .null, .null, .null, .null, .int 0, .null, .null, .null, .null, .null, .null]) C (by decide +kernel) tyX0 tyX0_ok (ci := 0) rfl (by decide +kernel) (by decide +kernel) (by decide +kernel) (by decide) (Nat.le_of_ble_eq_true rfl) (Nat.le_of_ble_eq_true rfl) dX5_init_27 (fun q4 => ?_)
  refine k_w (ws2 := [(h0, .inr (5, [.ref (a1 0), .ref (a3 0), .null, .null, .null, .null, .null, .int 0, .int 0]))] ++ wX0 cy a1 ++ wX0 cy a3 ++ [(q4, .inr (0, [.int 0, .null, .null, .null, .null, .int 0, .null, .null, .null, .null, .null, .null]))]) rfl ?_
  refine k_dup C dX5_init_30 ?_
  refine k_w (ws2 := ([(h0, .inr (5, [.ref (a1 0), .ref (a3 0), .null, .null, .null, .null, .null, .int 0, .int 0]))] ++ wX0 cy a1 ++ wX0 cy a3) ++ [(q4, .inr (0, [.int 0, .null, .null, .null, .null, .int 0, .null, .null, .null, .null, .null, .null]))]) rfl ?_
  refine k_call (rest := [.ref q4, .ref h0]) C (c_X0_init l) gX5_init_X0_init rfl ⟨rfl, rfl⟩ (by decide +kernel) (by decide +kernel) (by decide +kernel) rfl (by decide +kernel) ⟨Nat.le_of_ble_eq_true rfl, Nat.le_of_ble_eq_true rfl⟩ (Nat.le_of_ble_eq_true rfl) dX5_init_31 ⟨Nat.le_of_ble_eq_true rfl, Nat.le_of_ble_eq_true rfl⟩ hZ (fun a5 ha5 => ?_)
  subst ha5
  refine k_putF (q0 := 0) (f := 2) (ci := 5) (ws' := [(h0, .inr (5, [.ref (a1 0), .ref (a3 0), .ref (a5 0), .null, .null, .null, .null, .int 0, .int 0]))] ++ wX0 cy a1 ++ wX0 cy a3 ++ wX0 cy a5) C (in_X5_init) tyX5 tyX5_ok nmX5 rfl rfl (by decide) (by decide +kernel) rfl rfl hin rfl rfl rfl (Nat.le_of_ble_eq_true rfl) dX5_init_34 rfl ?_
  refine k_aload_n C dX5_init_37 0 rfl ?_
  refine k_new (fs := [.null, .int 0, .int 0]) C (by decide +kernel) tyX4 tyX4_ok (ci := 4) rfl (by decide +kernel) (by decide +kernel) (by decide +kernel) (by decide) (Nat.le_of_ble_eq_true rfl) (Nat.le_of_ble_eq_true rfl) dX5_init_38 (fun q6 => ?_)
  refine k_w (ws2 := [(h0, .inr (5, [.ref (a1 0), .ref (a3 0), .ref (a5 0), .null, .null, .null, .null, .int 0, .int 0]))] ++ wX0 cy a1 ++ wX0 cy a3 ++ wX0 cy a5 ++ [(q6, .inr (4, [.null, .int 0, .int 0]))]) rfl ?_
  refine k_dup C dX5_init_41 ?_
  refine k_w (ws2 := ([(h0, .inr (5, [.ref (a1 0), .ref (a3 0), .ref (a5 0), .null, .null, .null, .null, .int 0, .int 0]))] ++ wX0 cy a1 ++ wX0 cy a3 ++ wX0 cy a5) ++ [(q6, .inr (4, [.null, .int 0, .int 0]))]) rfl ?_
  refine k_call (rest := [.ref q6, .ref h0]) C (c_X4_init l) gX5_init_X4_init rfl ⟨rfl, rfl⟩ (by decide +kernel) (by decide +kernel) (by decide +kernel) rfl (by decide +kernel) ⟨Nat.le_of_ble_eq_true rfl, Nat.le_of_ble_eq_true rfl⟩ (Nat.le_of_ble_eq_true rfl) dX5_init_42 ⟨Nat.le_of_ble_eq_true rfl, Nat.le_of_ble_eq_true rfl⟩ hZ (fun a7 ha7 => ?_)
  subst ha7
  refine k_putF (q0 := 0) (f := 3) (ci := 5) (ws' := [(h0, .inr (5, [.ref (a1 0), .ref (a3 0), .ref (a5 0), .ref (a7 0), .null, .null, .null, .int 0, .int 0]))] ++ wX0 cy a1 ++ wX0 cy a3 ++ wX0 cy a5 ++ wX4 cy a7) C (in_X5_init) tyX5 tyX5_ok nmX5 rfl rfl (by decide) (by decide +kernel) rfl rfl hin rfl rfl rfl (Nat.le_of_ble_eq_true rfl) dX5_init_45 rfl ?_
  refine k_aload_n C dX5_init_48 0 rfl ?_
  refine k_new (fs := [.null]) C (by decide +kernel) tyX2 tyX2_ok (ci := 2) rfl (by decide +kernel) (by decide +kernel) (by decide +kernel) (by decide) (Nat.le_of_ble_eq_true rfl) (Nat.le_of_ble_eq_true rfl) dX5_init_49 (fun q8 => ?_)
  refine k_w (ws2 := [(h0, .inr (5, [.ref (a1 0), .ref (a3 0), .ref (a5 0), .ref (a7 0), .null, .null, .null, .int 0, .int 0]))] ++ wX0 cy a1 ++ wX0 cy a3 ++ wX0 cy a5 ++ wX4 cy a7 ++ [(q8, .inr (2, [.null]))]) rfl ?_
  refine k_dup C dX5_init_52 ?_
  refine k_w (ws2 := ([(h0, .inr (5, [.ref (a1 0), .ref (a3 0), .ref (a5 0), .ref (a7 0), .null, .null, .null, .int 0, .int 0]))] ++ wX0 cy a1 ++ wX0 cy a3 ++ wX0 cy a5 ++ wX4 cy a7) ++ [(q8, .inr (2, [.null]))]) rfl ?_
  refine k_call (rest := [.ref q8, .ref h0]) C (c_X2_init l) gX5_init_X2_init rfl ⟨rfl, rfl⟩ (by decide +kernel) (by decide +kernel) (by decide +kernel) rfl (by decide +kernel) ⟨Nat.le_of_ble_eq_true rfl, Nat.le_of_ble_eq_true rfl⟩ (Nat.le_of_ble_eq_true rfl) dX5_init_53 ⟨Nat.le_of_ble_eq_true rfl, Nat.le_of_ble_eq_true rfl⟩ hZ (fun a9 ha9 => ?_)
  subst ha9
  refine k_putF (q0 := 0) (f := 4) (ci := 5) (ws' := [(h0, .inr (5, [.ref (a1 0), .ref (a3 0), .ref (a5 0), .ref (a7 0), .ref (a9 0), .null, .null, .int 0, .int 0]))] ++ wX0 cy a1 ++ wX0 cy a3 ++ wX0 cy a5 ++ wX4 cy a7 ++ wX2 cy a9) C (in_X5_init) tyX5 tyX5_ok nmX5 rfl rfl (by decide) (by decide +kernel) rfl rfl hin rfl rfl rfl (Nat.le_of_ble_eq_true rfl) dX5_init_56 rfl ?_
  refine k_aload_n C dX5_init_59 0 rfl ?_
  refine k_new (fs := [.null, .null, .int 0]) C (by decide +kernel) tyX1 tyX1_ok (ci := 1) rfl (by decide +kernel) (by decide +kernel) (by decide +kernel) (by decide) (Nat.le_of_ble_eq_true rfl) (Nat.le_of_ble_eq_true rfl) dX5_init_60 (fun q10 => ?_)
  refine k_w (ws2 := [(h0, .inr (5, [.ref (a1 0), .ref (a3 0), .ref (a5 0), .ref (a7 0), .ref (a9 0), .null, .null, .int 0, .int 0]))] ++ wX0 cy a1 ++ wX0 cy a3 ++ wX0 cy a5 ++ wX4 cy a7 ++ wX2 cy a9 ++ [(q10, .inr (1, [.null, .null, .int 0]))]) rfl ?_
  refine k_dup C dX5_init_63 ?_
  refine k_w (ws2 := ([(h0, .inr (5, [.ref (a1 0), .ref (a3 0), .ref (a5 0), .ref (a7 0), .ref (a9 0), .null, .null, .int 0, .int 0]))] ++ wX0 cy a1 ++ wX0 cy a3 ++ wX0 cy a5 ++ wX4 cy a7 ++ wX2 cy a9) ++ [(q10, .inr (1, [.null, .null, .int 0]))]) rfl ?_
  refine k_call (rest := [.ref q10, .ref h0]) C (c_X1_init l) gX5_init_X1_init rfl ⟨rfl, rfl⟩ (by decide +kernel) (by decide +kernel) (by decide +kernel) rfl (by decide +kernel) ⟨Nat.le_of_ble_eq_true rfl, Nat.le_of_ble_eq_true rfl⟩ (Nat.le_of_ble_eq_true rfl) dX5_init_64 ⟨Nat.le_of_ble_eq_true rfl, Nat.le_of_ble_eq_true rfl⟩ hZ (fun a11 ha11 => ?_)
  subst ha11
  refine k_putF (q0 := 0) (f := 5) (ci := 5) (ws' := [(h0, .inr (5, [.ref (a1 0), .ref (a3 0), .ref (a5 0), .ref (a7 0), .ref (a9 0), .ref (a11 0), .null, .int 0, .int 0]))] ++ wX0 cy a1 ++ wX0 cy a3 ++ wX0 cy a5 ++ wX4 cy a7 ++ wX2 cy a9 ++ wX1 cy a11) C (in_X5_init) tyX5 tyX5_ok nmX5 rfl rfl (by decide) (by decide +kernel) rfl rfl hin rfl rfl rfl (Nat.le_of_ble_eq_true rfl) dX5_init_67 rfl ?_
  refine k_aload_n C dX5_init_70 0 rfl ?_
  refine k_new (fs := [.null, .null, .null, .null, .null, .null, .int 0]) C (by decide +kernel) tyX3 tyX3_ok (ci := 3) rfl (by decide +kernel) (by decide +kernel) (by decide +kernel) (by decide) (Nat.le_of_ble_eq_true rfl) (Nat.le_of_ble_eq_true rfl) dX5_init_71 (fun q12 => ?_)
  refine k_w (ws2 := [(h0, .inr (5, [.ref (a1 0), .ref (a3 0), .ref (a5 0), .ref (a7 0), .ref (a9 0), .ref (a11 0), .null, .int 0, .int 0]))] ++ wX0 cy a1 ++ wX0 cy a3 ++ wX0 cy a5 ++ wX4 cy a7 ++ wX2 cy a9 ++ wX1 cy a11 ++ [(q12, .inr (3, [.null, .null, .null, .null, .null, .null, .int 0]))]) rfl ?_
  refine k_dup C dX5_init_74 ?_
  refine k_w (ws2 := ([(h0, .inr (5, [.ref (a1 0), .ref (a3 0), .ref (a5 0), .ref (a7 0), .ref (a9 0), .ref (a11 0), .null, .int 0, .int 0]))] ++ wX0 cy a1 ++ wX0 cy a3 ++ wX0 cy a5 ++ wX4 cy a7 ++ wX2 cy a9 ++ wX1 cy a11) ++ [(q12, .inr (3, [.null, .null, .null, .null, .null, .null, .int 0]))]) rfl ?_
  refine k_call (rest := [.ref q12, .ref h0]) C (c_X3_init l) gX5_init_X3_init rfl ⟨rfl, rfl⟩ (by decide +kernel) (by decide +kernel) (by decide +kernel) rfl (by decide +kernel) ⟨Nat.le_of_ble_eq_true rfl, Nat.le_of_ble_eq_true rfl⟩ (Nat.le_of_ble_eq_true rfl) dX5_init_75 ⟨Nat.le_of_ble_eq_true rfl, Nat.le_of_ble_eq_true rfl⟩ hZ (fun a13 ha13 => ?_)
  subst ha13
  refine k_putF (q0 := 0) (f := 6) (ci := 5) (ws' := [(h0, .inr (5, [.ref (a1 0), .ref (a3 0), .ref (a5 0), .ref (a7 0), .ref (a9 0), .ref (a11 0), .ref (a13 0), .int 0, .int 0]))] ++ wX0 cy a1 ++ wX0 cy a3 ++ wX0 cy a5 ++ wX4 cy a7 ++ wX2 cy a9 ++ wX1 cy a11 ++ wX3 cy a13) C (in_X5_init) tyX5 tyX5_ok nmX5 rfl rfl (by decide) (by decide +kernel) rfl rfl hin rfl rfl rfl (Nat.le_of_ble_eq_true rfl) dX5_init_78 rfl ?_
  refine k_aload_n C dX5_init_81 0 rfl ?_
  refine k_iconst (v := (0)) C dX5_init_82 (by decide) ?_
  refine k_put (q0 := 0) (f := 7) (ci := 5) (ws' := [(h0, .inr (5, [.ref (a1 0), .ref (a3 0), .ref (a5 0), .ref (a7 0), .ref (a9 0), .ref (a11 0), .ref (a13 0), .int (0), .int 0]))] ++ wX0 cy a1 ++ wX0 cy a3 ++ wX0 cy a5 ++ wX4 cy a7 ++ wX2 cy a9 ++ wX1 cy a11 ++ wX3 cy a13) C (in_X5_init) tyX5 tyX5_ok nmX5 rfl rfl (by decide) (by decide +kernel) rfl rfl rfl rfl (Nat.le_of_ble_eq_true rfl) dX5_init_83 rfl ?_
  refine k_aload_n C dX5_init_86 0 rfl ?_
  refine k_iconst (v := (-1)) C dX5_init_87 (by decide) ?_
  refine k_put (q0 := 0) (f := 8) (ci := 5) (ws' := [(h0, .inr (5, [.ref (a1 0), .ref (a3 0), .ref (a5 0), .ref (a7 0), .ref (a9 0), .ref (a11 0), .ref (a13 0), .int (0), .int (-1)]))] ++ wX0 cy a1 ++ wX0 cy a3 ++ wX0 cy a5 ++ wX4 cy a7 ++ wX2 cy a9 ++ wX1 cy a11 ++ wX3 cy a13) C (in_X5_init) tyX5 tyX5_ok nmX5 rfl rfl (by decide) (by decide +kernel) rfl rfl rfl rfl (Nat.le_of_ble_eq_true rfl) dX5_init_88 rfl ?_
  exact k_ret (W1 := wX5) C hAe hr (fun i => if i = 0 then h0 else if i < 12 then a1 (i - 1) else if i < 23 then a3 (i - 12) else if i < 34 then a5 (i - 23) else if i < 36 then a7 (i - 34) else if i < 38 then a9 (i - 36) else if i < 51 then a11 (i - 38) else a13 (i - 51)) rfl rfl (Nat.le_of_ble_eq_true rfl) (Nat.le_of_ble_eq_true rfl) dX5_init_91
def wX6 (cy : Nat → ClassId) (a : Nat → Nat) : va_W := [(a 0, .inr (6, [.ref (a 1), .ref (a 2), .int 0, .int 0, .ref (a 3), .int 0, .int 0, .int (-1), .int 0, .ref (a 4), .ref (a 5), .ref (a 6), .int 0, .ref (a 7), .ref (a 8), .ref (a 9), .ref (a 10), .ref (a 11), .ref (a 12), .ref (a 13)])), (a 1, .inl (cy 0, 110, .inl ((upd (upd (upd (fun _ : Nat => (0 : Int32)) 2 10) 3 1) 4 2)))), (a 2, eA cy 0 110), (a 3, eA cy 0 60), (a 4, eA cy 0 48), (a 5, eA cy 0 8), (a 6, eA cy 0 8), (a 7, eA cy 0 320), (a 8, eA cy 0 40), (a 9, eA cy 0 6), (a 10, eA cy 0 6), (a 11, eA cy 0 6), (a 12, eA cy 0 6), (a 13, eA cy 0 6)]
theorem in_X6_init : ∀ w ∈ u_ws RX6 TX6 20, w ∈ wsX6_init := by decide +kernel
set_option maxHeartbeats 4000000 in
set_option maxRecDepth 100000 in
theorem c_X6_init (l : Launch) : CtC l yX6_init wsX6_init { frames := 1, cells := 13, slots := 734, locals := 12 } 6 [.null, .null, .int 0, .int 0, .null, .int 0, .int 0, .int 0, .int 0, .null, .null, .null, .int 0, .null, .null, .null, .null, .null, .null, .null] wX6 13 734 := by
  refine z_ctC (cc := cX6_init) (maxL := 1) (by decide) rfl rfl (Nat.le_of_ble_eq_true rfl) (@fun p e s m args below meth c D cy h0 A C hZ hAe hr hin => ?_)
  refine k_aload_n C dX6_init_0 0 rfl ?_
  refine k_obj C (by decide +kernel) (by decide +kernel) (by decide +kernel) (Nat.le_of_ble_eq_true rfl) (Nat.le_of_ble_eq_true rfl) dX6_init_1 ?_
  refine k_aload_n C dX6_init_4 0 rfl ?_
  refine k_bipush (v := (110)) C dX6_init_5 (by decide) ?_
  refine k_newa (N := 110) (vv := (110, .inl (fun _ : Nat => (0 : Int32)))) C 0 (by decide) rfl (by decide +kernel) (fun _ => rfl) (by decide) (by decide) (Nat.le_of_ble_eq_true rfl) (Nat.le_of_ble_eq_true rfl) (Nat.le_of_ble_eq_true rfl) dX6_init_7 (fun q0 => ?_)
  refine k_w (ws2 := [(h0, .inr (6, [.null, .null, .int 0, .int 0, .null, .int 0, .int 0, .int 0, .int 0, .null, .null, .null, .int 0, .null, .null, .null, .null, .null, .null, .null])), (q0, eA cy 0 110)]) rfl ?_
  refine k_putF (q0 := 0) (f := 0) (ci := 6) (ws' := [(h0, .inr (6, [.ref q0, .null, .int 0, .int 0, .null, .int 0, .int 0, .int 0, .int 0, .null, .null, .null, .int 0, .null, .null, .null, .null, .null, .null, .null])), (q0, eA cy 0 110)]) C (in_X6_init) tyX6 tyX6_ok nmX6 rfl rfl (by decide) (by decide +kernel) rfl rfl hin rfl rfl rfl (Nat.le_of_ble_eq_true rfl) dX6_init_9 rfl ?_
  refine k_aload_n C dX6_init_12 0 rfl ?_
  refine k_bipush (v := (110)) C dX6_init_13 (by decide) ?_
  refine k_newa (N := 110) (vv := (110, .inl (fun _ : Nat => (0 : Int32)))) C 0 (by decide) rfl (by decide +kernel) (fun _ => rfl) (by decide) (by decide) (Nat.le_of_ble_eq_true rfl) (Nat.le_of_ble_eq_true rfl) (Nat.le_of_ble_eq_true rfl) dX6_init_15 (fun q1 => ?_)
  refine k_w (ws2 := [(h0, .inr (6, [.ref q0, .null, .int 0, .int 0, .null, .int 0, .int 0, .int 0, .int 0, .null, .null, .null, .int 0, .null, .null, .null, .null, .null, .null, .null])), (q0, eA cy 0 110), (q1, eA cy 0 110)]) rfl ?_
  refine k_putF (q0 := 0) (f := 1) (ci := 6) (ws' := [(h0, .inr (6, [.ref q0, .ref q1, .int 0, .int 0, .null, .int 0, .int 0, .int 0, .int 0, .null, .null, .null, .int 0, .null, .null, .null, .null, .null, .null, .null])), (q0, eA cy 0 110), (q1, eA cy 0 110)]) C (in_X6_init) tyX6 tyX6_ok nmX6 rfl rfl (by decide) (by decide +kernel) rfl rfl hin rfl rfl rfl (Nat.le_of_ble_eq_true rfl) dX6_init_17 rfl ?_
  refine k_aload_n C dX6_init_20 0 rfl ?_
  refine k_bipush (v := (60)) C dX6_init_21 (by decide) ?_
  refine k_newa (N := 60) (vv := (60, .inl (fun _ : Nat => (0 : Int32)))) C 0 (by decide) rfl (by decide +kernel) (fun _ => rfl) (by decide) (by decide) (Nat.le_of_ble_eq_true rfl) (Nat.le_of_ble_eq_true rfl) (Nat.le_of_ble_eq_true rfl) dX6_init_23 (fun q2 => ?_)
  refine k_w (ws2 := [(h0, .inr (6, [.ref q0, .ref q1, .int 0, .int 0, .null, .int 0, .int 0, .int 0, .int 0, .null, .null, .null, .int 0, .null, .null, .null, .null, .null, .null, .null])), (q0, eA cy 0 110), (q1, eA cy 0 110), (q2, eA cy 0 60)]) rfl ?_
  refine k_putF (q0 := 0) (f := 4) (ci := 6) (ws' := [(h0, .inr (6, [.ref q0, .ref q1, .int 0, .int 0, .ref q2, .int 0, .int 0, .int 0, .int 0, .null, .null, .null, .int 0, .null, .null, .null, .null, .null, .null, .null])), (q0, eA cy 0 110), (q1, eA cy 0 110), (q2, eA cy 0 60)]) C (in_X6_init) tyX6 tyX6_ok nmX6 rfl rfl (by decide) (by decide +kernel) rfl rfl hin rfl rfl rfl (Nat.le_of_ble_eq_true rfl) dX6_init_25 rfl ?_
  refine k_aload_n C dX6_init_28 0 rfl ?_
  refine k_iconst (v := (-1)) C dX6_init_29 (by decide) ?_
  refine k_put (q0 := 0) (f := 7) (ci := 6) (ws' := [(h0, .inr (6, [.ref q0, .ref q1, .int 0, .int 0, .ref q2, .int 0, .int 0, .int (-1), .int 0, .null, .null, .null, .int 0, .null, .null, .null, .null, .null, .null, .null])), (q0, eA cy 0 110), (q1, eA cy 0 110), (q2, eA cy 0 60)]) C (in_X6_init) tyX6 tyX6_ok nmX6 rfl rfl (by decide) (by decide +kernel) rfl rfl rfl rfl (Nat.le_of_ble_eq_true rfl) dX6_init_30 rfl ?_
  refine k_aload_n C dX6_init_33 0 rfl ?_
  refine k_bipush (v := (48)) C dX6_init_34 (by decide) ?_
  refine k_newa (N := 48) (vv := (48, .inl (fun _ : Nat => (0 : Int32)))) C 0 (by decide) rfl (by decide +kernel) (fun _ => rfl) (by decide) (by decide) (Nat.le_of_ble_eq_true rfl) (Nat.le_of_ble_eq_true rfl) (Nat.le_of_ble_eq_true rfl) dX6_init_36 (fun q3 => ?_)
  refine k_w (ws2 := [(h0, .inr (6, [.ref q0, .ref q1, .int 0, .int 0, .ref q2, .int 0, .int 0, .int (-1), .int 0, .null, .null, .null, .int 0, .null, .null, .null, .null, .null, .null, .null])), (q0, eA cy 0 110), (q1, eA cy 0 110), (q2, eA cy 0 60), (q3, eA cy 0 48)]) rfl ?_
  refine k_putF (q0 := 0) (f := 9) (ci := 6) (ws' := [(h0, .inr (6, [.ref q0, .ref q1, .int 0, .int 0, .ref q2, .int 0, .int 0, .int (-1), .int 0, .ref q3, .null, .null, .int 0, .null, .null, .null, .null, .null, .null, .null])), (q0, eA cy 0 110), (q1, eA cy 0 110), (q2, eA cy 0 60), (q3, eA cy 0 48)]) C (in_X6_init) tyX6 tyX6_ok nmX6 rfl rfl (by decide) (by decide +kernel) rfl rfl hin rfl rfl rfl (Nat.le_of_ble_eq_true rfl) dX6_init_38 rfl ?_
  refine k_aload_n C dX6_init_41 0 rfl ?_
  refine k_bipush (v := (8)) C dX6_init_42 (by decide) ?_
  refine k_newa (N := 8) (vv := (8, .inl (fun _ : Nat => (0 : Int32)))) C 0 (by decide) rfl (by decide +kernel) (fun _ => rfl) (by decide) (by decide) (Nat.le_of_ble_eq_true rfl) (Nat.le_of_ble_eq_true rfl) (Nat.le_of_ble_eq_true rfl) dX6_init_44 (fun q4 => ?_)
  refine k_w (ws2 := [(h0, .inr (6, [.ref q0, .ref q1, .int 0, .int 0, .ref q2, .int 0, .int 0, .int (-1), .int 0, .ref q3, .null, .null, .int 0, .null, .null, .null, .null, .null, .null, .null])), (q0, eA cy 0 110), (q1, eA cy 0 110), (q2, eA cy 0 60), (q3, eA cy 0 48), (q4, eA cy 0 8)]) rfl ?_
  refine k_putF (q0 := 0) (f := 10) (ci := 6) (ws' := [(h0, .inr (6, [.ref q0, .ref q1, .int 0, .int 0, .ref q2, .int 0, .int 0, .int (-1), .int 0, .ref q3, .ref q4, .null, .int 0, .null, .null, .null, .null, .null, .null, .null])), (q0, eA cy 0 110), (q1, eA cy 0 110), (q2, eA cy 0 60), (q3, eA cy 0 48), (q4, eA cy 0 8)]) C (in_X6_init) tyX6 tyX6_ok nmX6 rfl rfl (by decide) (by decide +kernel) rfl rfl hin rfl rfl rfl (Nat.le_of_ble_eq_true rfl) dX6_init_46 rfl ?_
  refine k_aload_n C dX6_init_49 0 rfl ?_
  refine k_bipush (v := (8)) C dX6_init_50 (by decide) ?_
  refine k_newa (N := 8) (vv := (8, .inl (fun _ : Nat => (0 : Int32)))) C 0 (by decide) rfl (by decide +kernel) (fun _ => rfl) (by decide) (by decide) (Nat.le_of_ble_eq_true rfl) (Nat.le_of_ble_eq_true rfl) (Nat.le_of_ble_eq_true rfl) dX6_init_52 (fun q5 => ?_)
  refine k_w (ws2 := [(h0, .inr (6, [.ref q0, .ref q1, .int 0, .int 0, .ref q2, .int 0, .int 0, .int (-1), .int 0, .ref q3, .ref q4, .null, .int 0, .null, .null, .null, .null, .null, .null, .null])), (q0, eA cy 0 110), (q1, eA cy 0 110), (q2, eA cy 0 60), (q3, eA cy 0 48), (q4, eA cy 0 8), (q5, eA cy 0 8)]) rfl ?_
  refine k_putF (q0 := 0) (f := 11) (ci := 6) (ws' := [(h0, .inr (6, [.ref q0, .ref q1, .int 0, .int 0, .ref q2, .int 0, .int 0, .int (-1), .int 0, .ref q3, .ref q4, .ref q5, .int 0, .null, .null, .null, .null, .null, .null, .null])), (q0, eA cy 0 110), (q1, eA cy 0 110), (q2, eA cy 0 60), (q3, eA cy 0 48), (q4, eA cy 0 8), (q5, eA cy 0 8)]) C (in_X6_init) tyX6 tyX6_ok nmX6 rfl rfl (by decide) (by decide +kernel) rfl rfl hin rfl rfl rfl (Nat.le_of_ble_eq_true rfl) dX6_init_54 rfl ?_
  refine k_aload_n C dX6_init_57 0 rfl ?_
  refine k_sipush (v := (320)) C dX6_init_58 (by decide) ?_
  refine k_newa (N := 320) (vv := (320, .inl (fun _ : Nat => (0 : Int32)))) C 0 (by decide) rfl (by decide +kernel) (fun _ => rfl) (by decide) (by decide) (Nat.le_of_ble_eq_true rfl) (Nat.le_of_ble_eq_true rfl) (Nat.le_of_ble_eq_true rfl) dX6_init_61 (fun q6 => ?_)
  refine k_w (ws2 := [(h0, .inr (6, [.ref q0, .ref q1, .int 0, .int 0, .ref q2, .int 0, .int 0, .int (-1), .int 0, .ref q3, .ref q4, .ref q5, .int 0, .null, .null, .null, .null, .null, .null, .null])), (q0, eA cy 0 110), (q1, eA cy 0 110), (q2, eA cy 0 60), (q3, eA cy 0 48), (q4, eA cy 0 8), (q5, eA cy 0 8), (q6, eA cy 0 320)]) rfl ?_
  refine k_putF (q0 := 0) (f := 13) (ci := 6) (ws' := [(h0, .inr (6, [.ref q0, .ref q1, .int 0, .int 0, .ref q2, .int 0, .int 0, .int (-1), .int 0, .ref q3, .ref q4, .ref q5, .int 0, .ref q6, .null, .null, .null, .null, .null, .null])), (q0, eA cy 0 110), (q1, eA cy 0 110), (q2, eA cy 0 60), (q3, eA cy 0 48), (q4, eA cy 0 8), (q5, eA cy 0 8), (q6, eA cy 0 320)]) C (in_X6_init) tyX6 tyX6_ok nmX6 rfl rfl (by decide) (by decide +kernel) rfl rfl hin rfl rfl rfl (Nat.le_of_ble_eq_true rfl) dX6_init_63 rfl ?_
  refine k_aload_n C dX6_init_66 0 rfl ?_
  refine k_bipush (v := (40)) C dX6_init_67 (by decide) ?_
  refine k_newa (N := 40) (vv := (40, .inl (fun _ : Nat => (0 : Int32)))) C 0 (by decide) rfl (by decide +kernel) (fun _ => rfl) (by decide) (by decide) (Nat.le_of_ble_eq_true rfl) (Nat.le_of_ble_eq_true rfl) (Nat.le_of_ble_eq_true rfl) dX6_init_69 (fun q7 => ?_)
  refine k_w (ws2 := [(h0, .inr (6, [.ref q0, .ref q1, .int 0, .int 0, .ref q2, .int 0, .int 0, .int (-1), .int 0, .ref q3, .ref q4, .ref q5, .int 0, .ref q6, .null, .null, .null, .null, .null, .null])), (q0, eA cy 0 110), (q1, eA cy 0 110), (q2, eA cy 0 60), (q3, eA cy 0 48), (q4, eA cy 0 8), (q5, eA cy 0 8), (q6, eA cy 0 320), (q7, eA cy 0 40)]) rfl ?_
  refine k_putF (q0 := 0) (f := 14) (ci := 6) (ws' := [(h0, .inr (6, [.ref q0, .ref q1, .int 0, .int 0, .ref q2, .int 0, .int 0, .int (-1), .int 0, .ref q3, .ref q4, .ref q5, .int 0, .ref q6, .ref q7, .null, .null, .null, .null, .null])), (q0, eA cy 0 110), (q1, eA cy 0 110), (q2, eA cy 0 60), (q3, eA cy 0 48), (q4, eA cy 0 8), (q5, eA cy 0 8), (q6, eA cy 0 320), (q7, eA cy 0 40)]) C (in_X6_init) tyX6 tyX6_ok nmX6 rfl rfl (by decide) (by decide +kernel) rfl rfl hin rfl rfl rfl (Nat.le_of_ble_eq_true rfl) dX6_init_71 rfl ?_
  refine k_aload_n C dX6_init_74 0 rfl ?_
  refine k_bipush (v := (6)) C dX6_init_75 (by decide) ?_
  refine k_newa (N := 6) (vv := (6, .inl (fun _ : Nat => (0 : Int32)))) C 0 (by decide) rfl (by decide +kernel) (fun _ => rfl) (by decide) (by decide) (Nat.le_of_ble_eq_true rfl) (Nat.le_of_ble_eq_true rfl) (Nat.le_of_ble_eq_true rfl) dX6_init_77 (fun q8 => ?_)
  refine k_w (ws2 := [(h0, .inr (6, [.ref q0, .ref q1, .int 0, .int 0, .ref q2, .int 0, .int 0, .int (-1), .int 0, .ref q3, .ref q4, .ref q5, .int 0, .ref q6, .ref q7, .null, .null, .null, .null, .null])), (q0, eA cy 0 110), (q1, eA cy 0 110), (q2, eA cy 0 60), (q3, eA cy 0 48), (q4, eA cy 0 8), (q5, eA cy 0 8), (q6, eA cy 0 320), (q7, eA cy 0 40), (q8, eA cy 0 6)]) rfl ?_
  refine k_putF (q0 := 0) (f := 15) (ci := 6) (ws' := [(h0, .inr (6, [.ref q0, .ref q1, .int 0, .int 0, .ref q2, .int 0, .int 0, .int (-1), .int 0, .ref q3, .ref q4, .ref q5, .int 0, .ref q6, .ref q7, .ref q8, .null, .null, .null, .null])), (q0, eA cy 0 110), (q1, eA cy 0 110), (q2, eA cy 0 60), (q3, eA cy 0 48), (q4, eA cy 0 8), (q5, eA cy 0 8), (q6, eA cy 0 320), (q7, eA cy 0 40), (q8, eA cy 0 6)]) C (in_X6_init) tyX6 tyX6_ok nmX6 rfl rfl (by decide) (by decide +kernel) rfl rfl hin rfl rfl rfl (Nat.le_of_ble_eq_true rfl) dX6_init_79 rfl ?_
  refine k_aload_n C dX6_init_82 0 rfl ?_
  refine k_bipush (v := (6)) C dX6_init_83 (by decide) ?_
  refine k_newa (N := 6) (vv := (6, .inl (fun _ : Nat => (0 : Int32)))) C 0 (by decide) rfl (by decide +kernel) (fun _ => rfl) (by decide) (by decide) (Nat.le_of_ble_eq_true rfl) (Nat.le_of_ble_eq_true rfl) (Nat.le_of_ble_eq_true rfl) dX6_init_85 (fun q9 => ?_)
  refine k_w (ws2 := [(h0, .inr (6, [.ref q0, .ref q1, .int 0, .int 0, .ref q2, .int 0, .int 0, .int (-1), .int 0, .ref q3, .ref q4, .ref q5, .int 0, .ref q6, .ref q7, .ref q8, .null, .null, .null, .null])), (q0, eA cy 0 110), (q1, eA cy 0 110), (q2, eA cy 0 60), (q3, eA cy 0 48), (q4, eA cy 0 8), (q5, eA cy 0 8), (q6, eA cy 0 320), (q7, eA cy 0 40), (q8, eA cy 0 6), (q9, eA cy 0 6)]) rfl ?_
  refine k_putF (q0 := 0) (f := 16) (ci := 6) (ws' := [(h0, .inr (6, [.ref q0, .ref q1, .int 0, .int 0, .ref q2, .int 0, .int 0, .int (-1), .int 0, .ref q3, .ref q4, .ref q5, .int 0, .ref q6, .ref q7, .ref q8, .ref q9, .null, .null, .null])), (q0, eA cy 0 110), (q1, eA cy 0 110), (q2, eA cy 0 60), (q3, eA cy 0 48), (q4, eA cy 0 8), (q5, eA cy 0 8), (q6, eA cy 0 320), (q7, eA cy 0 40), (q8, eA cy 0 6), (q9, eA cy 0 6)]) C (in_X6_init) tyX6 tyX6_ok nmX6 rfl rfl (by decide) (by decide +kernel) rfl rfl hin rfl rfl rfl (Nat.le_of_ble_eq_true rfl) dX6_init_87 rfl ?_
  refine k_aload_n C dX6_init_90 0 rfl ?_
  refine k_bipush (v := (6)) C dX6_init_91 (by decide) ?_
  refine k_newa (N := 6) (vv := (6, .inl (fun _ : Nat => (0 : Int32)))) C 0 (by decide) rfl (by decide +kernel) (fun _ => rfl) (by decide) (by decide) (Nat.le_of_ble_eq_true rfl) (Nat.le_of_ble_eq_true rfl) (Nat.le_of_ble_eq_true rfl) dX6_init_93 (fun q10 => ?_)
  refine k_w (ws2 := [(h0, .inr (6, [.ref q0, .ref q1, .int 0, .int 0, .ref q2, .int 0, .int 0, .int (-1), .int 0, .ref q3, .ref q4, .ref q5, .int 0, .ref q6, .ref q7, .ref q8, .ref q9, .null, .null, .null])), (q0, eA cy 0 110), (q1, eA cy 0 110), (q2, eA cy 0 60), (q3, eA cy 0 48), (q4, eA cy 0 8), (q5, eA cy 0 8), (q6, eA cy 0 320), (q7, eA cy 0 40), (q8, eA cy 0 6), (q9, eA cy 0 6), (q10, eA cy 0 6)]) rfl ?_
  refine k_putF (q0 := 0) (f := 17) (ci := 6) (ws' := [(h0, .inr (6, [.ref q0, .ref q1, .int 0, .int 0, .ref q2, .int 0, .int 0, .int (-1), .int 0, .ref q3, .ref q4, .ref q5, .int 0, .ref q6, .ref q7, .ref q8, .ref q9, .ref q10, .null, .null])), (q0, eA cy 0 110), (q1, eA cy 0 110), (q2, eA cy 0 60), (q3, eA cy 0 48), (q4, eA cy 0 8), (q5, eA cy 0 8), (q6, eA cy 0 320), (q7, eA cy 0 40), (q8, eA cy 0 6), (q9, eA cy 0 6), (q10, eA cy 0 6)]) C (in_X6_init) tyX6 tyX6_ok nmX6 rfl rfl (by decide) (by decide +kernel) rfl rfl hin rfl rfl rfl (Nat.le_of_ble_eq_true rfl) dX6_init_95 rfl ?_
  refine k_aload_n C dX6_init_98 0 rfl ?_
  refine k_bipush (v := (6)) C dX6_init_99 (by decide) ?_
  refine k_newa (N := 6) (vv := (6, .inl (fun _ : Nat => (0 : Int32)))) C 0 (by decide) rfl (by decide +kernel) (fun _ => rfl) (by decide) (by decide) (Nat.le_of_ble_eq_true rfl) (Nat.le_of_ble_eq_true rfl) (Nat.le_of_ble_eq_true rfl) dX6_init_101 (fun q11 => ?_)
  refine k_w (ws2 := [(h0, .inr (6, [.ref q0, .ref q1, .int 0, .int 0, .ref q2, .int 0, .int 0, .int (-1), .int 0, .ref q3, .ref q4, .ref q5, .int 0, .ref q6, .ref q7, .ref q8, .ref q9, .ref q10, .null, .null])), (q0, eA cy 0 110), (q1, eA cy 0 110), (q2, eA cy 0 60), (q3, eA cy 0 48), (q4, eA cy 0 8), (q5, eA cy 0 8), (q6, eA cy 0 320), (q7, eA cy 0 40), (q8, eA cy 0 6), (q9, eA cy 0 6), (q10, eA cy 0 6), (q11, eA cy 0 6)]) rfl ?_
  refine k_putF (q0 := 0) (f := 18) (ci := 6) (ws' := [(h0, .inr (6, [.ref q0, .ref q1, .int 0, .int 0, .ref q2, .int 0, .int 0, .int (-1), .int 0, .ref q3, .ref q4, .ref q5, .int 0, .ref q6, .ref q7, .ref q8, .ref q9, .ref q10, .ref q11, .null])), (q0, eA cy 0 110), (q1, eA cy 0 110), (q2, eA cy 0 60), (q3, eA cy 0 48), (q4, eA cy 0 8), (q5, eA cy 0 8), (q6, eA cy 0 320), (q7, eA cy 0 40), (q8, eA cy 0 6), (q9, eA cy 0 6), (q10, eA cy 0 6), (q11, eA cy 0 6)]) C (in_X6_init) tyX6 tyX6_ok nmX6 rfl rfl (by decide) (by decide +kernel) rfl rfl hin rfl rfl rfl (Nat.le_of_ble_eq_true rfl) dX6_init_103 rfl ?_
  refine k_aload_n C dX6_init_106 0 rfl ?_
  refine k_bipush (v := (6)) C dX6_init_107 (by decide) ?_
  refine k_newa (N := 6) (vv := (6, .inl (fun _ : Nat => (0 : Int32)))) C 0 (by decide) rfl (by decide +kernel) (fun _ => rfl) (by decide) (by decide) (Nat.le_of_ble_eq_true rfl) (Nat.le_of_ble_eq_true rfl) (Nat.le_of_ble_eq_true rfl) dX6_init_109 (fun q12 => ?_)
  refine k_w (ws2 := [(h0, .inr (6, [.ref q0, .ref q1, .int 0, .int 0, .ref q2, .int 0, .int 0, .int (-1), .int 0, .ref q3, .ref q4, .ref q5, .int 0, .ref q6, .ref q7, .ref q8, .ref q9, .ref q10, .ref q11, .null])), (q0, eA cy 0 110), (q1, eA cy 0 110), (q2, eA cy 0 60), (q3, eA cy 0 48), (q4, eA cy 0 8), (q5, eA cy 0 8), (q6, eA cy 0 320), (q7, eA cy 0 40), (q8, eA cy 0 6), (q9, eA cy 0 6), (q10, eA cy 0 6), (q11, eA cy 0 6), (q12, eA cy 0 6)]) rfl ?_
  refine k_putF (q0 := 0) (f := 19) (ci := 6) (ws' := [(h0, .inr (6, [.ref q0, .ref q1, .int 0, .int 0, .ref q2, .int 0, .int 0, .int (-1), .int 0, .ref q3, .ref q4, .ref q5, .int 0, .ref q6, .ref q7, .ref q8, .ref q9, .ref q10, .ref q11, .ref q12])), (q0, eA cy 0 110), (q1, eA cy 0 110), (q2, eA cy 0 60), (q3, eA cy 0 48), (q4, eA cy 0 8), (q5, eA cy 0 8), (q6, eA cy 0 320), (q7, eA cy 0 40), (q8, eA cy 0 6), (q9, eA cy 0 6), (q10, eA cy 0 6), (q11, eA cy 0 6), (q12, eA cy 0 6)]) C (in_X6_init) tyX6 tyX6_ok nmX6 rfl rfl (by decide) (by decide +kernel) rfl rfl hin rfl rfl rfl (Nat.le_of_ble_eq_true rfl) dX6_init_111 rfl ?_
  refine k_aload_n C dX6_init_114 0 rfl ?_
  refine k_get (q0 := 0) (f := 0) (ci := 6) (v := .ref q0) C (in_X6_init) tyX6 tyX6_ok rfl rfl (by decide) (by decide +kernel) rfl rfl dX6_init_115 ?_
  refine k_iconst (v := (2)) C dX6_init_118 (by decide) ?_
  refine k_bipush (v := (10)) C dX6_init_119 (by decide) ?_
  refine k_iast (q0 := 1) (N := 110) (ws' := [(h0, .inr (6, [.ref q0, .ref q1, .int 0, .int 0, .ref q2, .int 0, .int 0, .int (-1), .int 0, .ref q3, .ref q4, .ref q5, .int 0, .ref q6, .ref q7, .ref q8, .ref q9, .ref q10, .ref q11, .ref q12])), (q0, .inl (cy 0, 110, .inl ((upd (fun _ : Nat => (0 : Int32)) 2 10)))), (q1, eA cy 0 110), (q2, eA cy 0 60), (q3, eA cy 0 48), (q4, eA cy 0 8), (q5, eA cy 0 8), (q6, eA cy 0 320), (q7, eA cy 0 40), (q8, eA cy 0 6), (q9, eA cy 0 6), (q10, eA cy 0 6), (q11, eA cy 0 6), (q12, eA cy 0 6)]) C rfl (by unfold vp_in; decide) dX6_init_121 rfl ?_
  refine k_aload_n C dX6_init_122 0 rfl ?_
  refine k_get (q0 := 0) (f := 0) (ci := 6) (v := .ref q0) C (in_X6_init) tyX6 tyX6_ok rfl rfl (by decide) (by decide +kernel) rfl rfl dX6_init_123 ?_
  refine k_iconst (v := (3)) C dX6_init_126 (by decide) ?_
  refine k_iconst (v := (1)) C dX6_init_127 (by decide) ?_
  refine k_iast (q0 := 1) (N := 110) (ws' := [(h0, .inr (6, [.ref q0, .ref q1, .int 0, .int 0, .ref q2, .int 0, .int 0, .int (-1), .int 0, .ref q3, .ref q4, .ref q5, .int 0, .ref q6, .ref q7, .ref q8, .ref q9, .ref q10, .ref q11, .ref q12])), (q0, .inl (cy 0, 110, .inl ((upd (upd (fun _ : Nat => (0 : Int32)) 2 10) 3 1)))), (q1, eA cy 0 110), (q2, eA cy 0 60), (q3, eA cy 0 48), (q4, eA cy 0 8), (q5, eA cy 0 8), (q6, eA cy 0 320), (q7, eA cy 0 40), (q8, eA cy 0 6), (q9, eA cy 0 6), (q10, eA cy 0 6), (q11, eA cy 0 6), (q12, eA cy 0 6)]) C rfl (by unfold vp_in; decide) dX6_init_128 rfl ?_
  refine k_aload_n C dX6_init_129 0 rfl ?_
  refine k_get (q0 := 0) (f := 0) (ci := 6) (v := .ref q0) C (in_X6_init) tyX6 tyX6_ok rfl rfl (by decide) (by decide +kernel) rfl rfl dX6_init_130 ?_
  refine k_iconst (v := (4)) C dX6_init_133 (by decide) ?_
  refine k_iconst (v := (2)) C dX6_init_134 (by decide) ?_
  refine k_iast (q0 := 1) (N := 110) (ws' := [(h0, .inr (6, [.ref q0, .ref q1, .int 0, .int 0, .ref q2, .int 0, .int 0, .int (-1), .int 0, .ref q3, .ref q4, .ref q5, .int 0, .ref q6, .ref q7, .ref q8, .ref q9, .ref q10, .ref q11, .ref q12])), (q0, .inl (cy 0, 110, .inl ((upd (upd (upd (fun _ : Nat => (0 : Int32)) 2 10) 3 1) 4 2)))), (q1, eA cy 0 110), (q2, eA cy 0 60), (q3, eA cy 0 48), (q4, eA cy 0 8), (q5, eA cy 0 8), (q6, eA cy 0 320), (q7, eA cy 0 40), (q8, eA cy 0 6), (q9, eA cy 0 6), (q10, eA cy 0 6), (q11, eA cy 0 6), (q12, eA cy 0 6)]) C rfl (by unfold vp_in; decide) dX6_init_135 rfl ?_
  exact k_ret (W1 := wX6) C hAe hr (fun i => if i = 0 then h0 else if i = 1 then q0 else if i = 2 then q1 else if i = 3 then q2 else if i = 4 then q3 else if i = 5 then q4 else if i = 6 then q5 else if i = 7 then q6 else if i = 8 then q7 else if i = 9 then q8 else if i = 10 then q9 else if i = 11 then q10 else if i = 12 then q11 else q12) rfl rfl (Nat.le_of_ble_eq_true rfl) (Nat.le_of_ble_eq_true rfl) dX6_init_136
