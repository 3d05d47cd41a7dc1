theorem layX5 : lay 0 = .inr (5, [some 1, some 12, some 23, some 34, some 36, some 38, some 51, none, none]) := by decide +kernel
set_option maxHeartbeats 4000000 in
set_option maxRecDepth 100000 in
theorem w_L_append (l : Launch) (hl0 : l.stackTraces = false) {σ : MM} (hM : okM σ) {a1 : Int} (ha1 : inR a1) {xo ro : Int} {σo : MM} (h : X5_append a1 σ = some (xo, ro, σo)) (hxo : xo = 0 ∨ 1 ≤ kA2 xo) : CtW l yL_append wsL_append { frames := 7, cells := 1, slots := 6, locals := 103 } (fun ad : Nat → Nat => [.ref (ad 0), .int (Int32.ofInt a1), .ref (ad 72)]) σ (kA2 xo) (if xo = 0 then zup σo 72 0 ro else σo) := by
  refine z_ctW (cc := cL_append) (maxL := 4) hM (by decide) rfl (fun _ => Nat.le_of_ble_eq_true rfl) (@fun p e s m args below meth c D cy ad A Q C hX hNC hT hcast hR => ?_)
  refine w_sub (vs' := [(0, .ref (ad 0)), (1, .int (Int32.ofInt a1)), (2, .ref (ad 72))]) [0, 1, 2] rfl ?_
  refine w_aload_n C dL_append_0 2 rfl ?_
  refine w_iconst C dL_append_1 ?_
  refine w_aload_n C dL_append_2 0 rfl ?_
  refine w_iload_n C dL_append_3 1 rfl ?_
  refine w_callX (np := 1) (ci := 5) (rest := [.int (Int32.ofInt 0), .ref (ad 72)]) C hX (fun hM => c_X5_append l hl0 hM ha1 h) gL_append_X5_append rfl (by decide) ⟨rfl, rfl⟩ ⟨Nat.le_of_ble_eq_true rfl, Nat.le_of_ble_eq_true rfl⟩ rfl layX5 (by decide) rfl rfl rfl (Nat.le_of_ble_eq_true rfl) dL_append_4 ⟨Nat.le_of_ble_eq_true rfl, Nat.le_of_ble_eq_true rfl⟩ (fun e0 hr => ?_) (fun hx => ?_)
  · subst e0
    rw [if_pos rfl, show kA2 0 = 0 from rfl] at hR
    have hr : inR ro := hr
    refine w_i2l C hr dL_append_7 ?_
    refine w_lastore C hr dL_append_8 ?_
    refine w_goto C 18 dL_append_9 (by decide) ?_
    refine w_iconst C dL_append_18 ?_
    exact hR _ _ dL_append_19
  · rcases hx with rfl | rfl | rfl | rfl
    · rw [if_neg (by decide), show kA2 1 = 1 from rfl] at hR
      refine w_catch C (name := xcls 1) (tableOf []) { startPc := 0, endPc := 9, handlerPc := 12, catchType := 13 } (tableOf [(0, 9, 15, 15)]) (by rw [hT]; rfl) (fun z hz => absurd hz List.not_mem_nil) (by decide) (by decide) (by decide +kernel) (hcast _ (by decide)) (fun q => ?_)
      refine w_astore_n C dL_append_12 (by decide) ?_
      refine w_iconst C dL_append_13 ?_
      exact hR _ _ dL_append_14
    · rw [if_neg (by decide), show kA2 2 = 2 from rfl] at hR
      refine w_catch C (name := xcls 2) (tableOf [(0, 9, 12, 13)]) { startPc := 0, endPc := 9, handlerPc := 15, catchType := 15 } (tableOf []) (by rw [hT]; rfl) (fun z hz => by
      rcases List.mem_singleton.mp hz with rfl
      exact ⟨by decide, xcls 1, by decide +kernel, hNC (xcls 2, xcls 1) (by decide)⟩) (by decide) (by decide) (by decide +kernel) (hcast _ (by decide)) (fun q => ?_)
      refine w_astore_n C dL_append_15 (by decide) ?_
      refine w_iconst C dL_append_16 ?_
      exact hR _ _ dL_append_17
    · exact absurd hxo (by decide)
    · exact absurd hxo (by decide)
set_option maxHeartbeats 4000000 in
set_option maxRecDepth 100000 in
theorem w_L_execute (l : Launch) (hl0 : l.stackTraces = false) {σ : MM} (hM : okM σ) {xo ro : Int} {σo : MM} (h : X5_execute σ = some (xo, ro, σo)) (hxo : xo = 0 ∨ 1 ≤ kA xo) : CtW l yL_execute wsL_execute { frames := 7, cells := 1, slots := 6, locals := 130 } (fun ad : Nat → Nat => [.ref (ad 0), .ref (ad 72)]) σ (kA xo) (if xo = 0 then zup σo 72 0 ro else σo) := by
  refine z_ctW (cc := cL_execute) (maxL := 3) hM (by decide) rfl (fun _ => Nat.le_of_ble_eq_true rfl) (@fun p e s m args below meth c D cy ad A Q C hX hNC hT hcast hR => ?_)
  refine w_sub (vs' := [(0, .ref (ad 0)), (1, .ref (ad 72))]) [0, 1] rfl ?_
  refine w_aload_n C dL_execute_0 1 rfl ?_
  refine w_iconst C dL_execute_1 ?_
  refine w_aload_n C dL_execute_2 0 rfl ?_
  refine w_callX (np := 0) (ci := 5) (rest := [.int (Int32.ofInt 0), .ref (ad 72)]) C hX (fun hM => c_X5_execute l hl0 hM  h) gL_execute_X5_execute rfl (by decide) ⟨rfl, rfl⟩ ⟨Nat.le_of_ble_eq_true rfl, Nat.le_of_ble_eq_true rfl⟩ rfl layX5 (by decide) rfl rfl rfl (Nat.le_of_ble_eq_true rfl) dL_execute_3 ⟨Nat.le_of_ble_eq_true rfl, Nat.le_of_ble_eq_true rfl⟩ (fun e0 hr => ?_) (fun hx => ?_)
  · subst e0
    rw [if_pos rfl, show kA 0 = 0 from rfl] at hR
    have hr : inR ro := hr
    refine w_i2l C hr dL_execute_6 ?_
    refine w_lastore C hr dL_execute_7 ?_
    refine w_goto C 14 dL_execute_8 (by decide) ?_
    refine w_iconst C dL_execute_14 ?_
    exact hR _ _ dL_execute_15
  · rcases hx with rfl | rfl | rfl | rfl
    · rw [if_neg (by decide), show kA 1 = 1 from rfl] at hR
      refine w_catch C (name := xcls 1) (tableOf []) { startPc := 0, endPc := 8, handlerPc := 11, catchType := 13 } (tableOf []) (by rw [hT]; rfl) (fun z hz => absurd hz List.not_mem_nil) (by decide) (by decide) (by decide +kernel) (hcast _ (by decide)) (fun q => ?_)
      refine w_astore_n C dL_execute_11 (by decide) ?_
      refine w_iconst C dL_execute_12 ?_
      exact hR _ _ dL_execute_13
    · exact absurd hxo (by decide)
    · exact absurd hxo (by decide)
    · exact absurd hxo (by decide)
set_option maxHeartbeats 4000000 in
set_option maxRecDepth 100000 in
theorem w_L_setCost (l : Launch) (hl0 : l.stackTraces = false) {σ : MM} (hM : okM σ) {a1 : Int} (ha1 : inR a1) {a2 : Int} (ha2 : inR a2) {xo ro : Int} {σo : MM} (h : X5_setCost a1 a2 σ = some (xo, ro, σo)) (hxo : xo = 0 ∨ 1 ≤ kB2 xo) : CtW l yL_setCost wsL_setCost { frames := 7, cells := 1, slots := 6, locals := 105 } (fun ad : Nat → Nat => [.ref (ad 0), .int (Int32.ofInt a1), .int (Int32.ofInt a2), .ref (ad 72)]) σ (kB2 xo) (if xo = 0 then zup σo 72 0 ro else σo) := by
  refine z_ctW (cc := cL_setCost) (maxL := 5) hM (by decide) rfl (fun _ => Nat.le_of_ble_eq_true rfl) (@fun p e s m args below meth c D cy ad A Q C hX hNC hT hcast hR => ?_)
  refine w_sub (vs' := [(0, .ref (ad 0)), (1, .int (Int32.ofInt a1)), (2, .int (Int32.ofInt a2)), (3, .ref (ad 72))]) [0, 1, 2, 3] rfl ?_
  refine w_aload_n C dL_setCost_0 3 rfl ?_
  refine w_iconst C dL_setCost_1 ?_
  refine w_aload_n C dL_setCost_2 0 rfl ?_
  refine w_iload_n C dL_setCost_3 1 rfl ?_
  refine w_iload_n C dL_setCost_4 2 rfl ?_
  refine w_callX (np := 2) (ci := 5) (rest := [.int (Int32.ofInt 0), .ref (ad 72)]) C hX (fun hM => c_X5_setCost l hl0 hM ha1 ha2 h) gL_setCost_X5_setCost rfl (by decide) ⟨rfl, rfl⟩ ⟨Nat.le_of_ble_eq_true rfl, Nat.le_of_ble_eq_true rfl⟩ rfl layX5 (by decide) rfl rfl rfl (Nat.le_of_ble_eq_true rfl) dL_setCost_5 ⟨Nat.le_of_ble_eq_true rfl, Nat.le_of_ble_eq_true rfl⟩ (fun e0 hr => ?_) (fun hx => ?_)
  · subst e0
    rw [if_pos rfl, show kB2 0 = 0 from rfl] at hR
    have hr : inR ro := hr
    refine w_i2l C hr dL_setCost_8 ?_
    refine w_lastore C hr dL_setCost_9 ?_
    refine w_goto C 21 dL_setCost_10 (by decide) ?_
    refine w_iconst C dL_setCost_21 ?_
    exact hR _ _ dL_setCost_22
  · rcases hx with rfl | rfl | rfl | rfl
    · rw [if_neg (by decide), show kB2 1 = 2 from rfl] at hR
      refine w_catch C (name := xcls 1) (tableOf [(0, 10, 13, 25)]) { startPc := 0, endPc := 10, handlerPc := 17, catchType := 13 } (tableOf []) (by rw [hT]; rfl) (fun z hz => by
      rcases List.mem_singleton.mp hz with rfl
      exact ⟨by decide, xcls 3, by decide +kernel, hNC (xcls 1, xcls 3) (by decide)⟩) (by decide) (by decide) (by decide +kernel) (hcast _ (by decide)) (fun q => ?_)
      refine w_astore C dL_setCost_17 (by decide) ?_
      refine w_iconst C dL_setCost_19 ?_
      exact hR _ _ dL_setCost_20
    · exact absurd hxo (by decide)
    · rw [if_neg (by decide), show kB2 3 = 1 from rfl] at hR
      refine w_catch C (name := xcls 3) (tableOf []) { startPc := 0, endPc := 10, handlerPc := 13, catchType := 25 } (tableOf [(0, 10, 17, 13)]) (by rw [hT]; rfl) (fun z hz => absurd hz List.not_mem_nil) (by decide) (by decide) (by decide +kernel) (hcast _ (by decide)) (fun q => ?_)
      refine w_astore C dL_setCost_13 (by decide) ?_
      refine w_iconst C dL_setCost_15 ?_
      exact hR _ _ dL_setCost_16
    · exact absurd hxo (by decide)
set_option maxHeartbeats 4000000 in
set_option maxRecDepth 100000 in
theorem w_L_set (l : Launch) (hl0 : l.stackTraces = false) {σ : MM} (hM : okM σ) {a1 : Int} (ha1 : inR a1) {a2 : Int} (ha2 : inR a2) {xo ro : Int} {σo : MM} (h : X5_set a1 a2 σ = some (xo, ro, σo)) (hxo : xo = 0 ∨ 1 ≤ kA xo) : CtW l yL_set wsL_set { frames := 7, cells := 1, slots := 6, locals := 105 } (fun ad : Nat → Nat => [.ref (ad 0), .int (Int32.ofInt a1), .int (Int32.ofInt a2), .ref (ad 72)]) σ (kA xo) (if xo = 0 then zup σo 72 0 ro else σo) := by
  refine z_ctW (cc := cL_set) (maxL := 5) hM (by decide) rfl (fun _ => Nat.le_of_ble_eq_true rfl) (@fun p e s m args below meth c D cy ad A Q C hX hNC hT hcast hR => ?_)
  refine w_sub (vs' := [(0, .ref (ad 0)), (1, .int (Int32.ofInt a1)), (2, .int (Int32.ofInt a2)), (3, .ref (ad 72))]) [0, 1, 2, 3] rfl ?_
  refine w_aload_n C dL_set_0 3 rfl ?_
  refine w_iconst C dL_set_1 ?_
  refine w_aload_n C dL_set_2 0 rfl ?_
  refine w_iload_n C dL_set_3 1 rfl ?_
  refine w_iload_n C dL_set_4 2 rfl ?_
  refine w_callX (np := 2) (ci := 5) (rest := [.int (Int32.ofInt 0), .ref (ad 72)]) C hX (fun hM => c_X5_set l hl0 hM ha1 ha2 h) gL_set_X5_set rfl (by decide) ⟨rfl, rfl⟩ ⟨Nat.le_of_ble_eq_true rfl, Nat.le_of_ble_eq_true rfl⟩ rfl layX5 (by decide) rfl rfl rfl (Nat.le_of_ble_eq_true rfl) dL_set_5 ⟨Nat.le_of_ble_eq_true rfl, Nat.le_of_ble_eq_true rfl⟩ (fun e0 hr => ?_) (fun hx => ?_)
  · subst e0
    rw [if_pos rfl, show kA 0 = 0 from rfl] at hR
    have hr : inR ro := hr
    refine w_i2l C hr dL_set_8 ?_
    refine w_lastore C hr dL_set_9 ?_
    refine w_goto C 17 dL_set_10 (by decide) ?_
    refine w_iconst C dL_set_17 ?_
    exact hR _ _ dL_set_18
  · rcases hx with rfl | rfl | rfl | rfl
    · rw [if_neg (by decide), show kA 1 = 1 from rfl] at hR
      refine w_catch C (name := xcls 1) (tableOf []) { startPc := 0, endPc := 10, handlerPc := 13, catchType := 13 } (tableOf []) (by rw [hT]; rfl) (fun z hz => absurd hz List.not_mem_nil) (by decide) (by decide) (by decide +kernel) (hcast _ (by decide)) (fun q => ?_)
      refine w_astore C dL_set_13 (by decide) ?_
      refine w_iconst C dL_set_15 ?_
      exact hR _ _ dL_set_16
    · exact absurd hxo (by decide)
    · exact absurd hxo (by decide)
    · exact absurd hxo (by decide)
set_option maxHeartbeats 4000000 in
set_option maxRecDepth 100000 in
theorem w_L_exchange (l : Launch) (hl0 : l.stackTraces = false) {σ : MM} (hM : okM σ) {a1 : Int} (ha1 : inR a1) {xo ro : Int} {σo : MM} (h : X5_exchange a1 σ = some (xo, ro, σo)) (hxo : xo = 0 ∨ 1 ≤ kC xo) : CtW l yL_exchange wsL_exchange { frames := 7, cells := 1, slots := 6, locals := 103 } (fun ad : Nat → Nat => [.ref (ad 0), .int (Int32.ofInt a1), .ref (ad 72)]) σ (kC xo) (if xo = 0 then zup σo 72 0 ro else σo) := by
  refine z_ctW (cc := cL_exchange) (maxL := 4) hM (by decide) rfl (fun _ => Nat.le_of_ble_eq_true rfl) (@fun p e s m args below meth c D cy ad A Q C hX hNC hT hcast hR => ?_)
  refine w_sub (vs' := [(0, .ref (ad 0)), (1, .int (Int32.ofInt a1)), (2, .ref (ad 72))]) [0, 1, 2] rfl ?_
  refine w_aload_n C dL_exchange_0 2 rfl ?_
  refine w_iconst C dL_exchange_1 ?_
  refine w_aload_n C dL_exchange_2 0 rfl ?_
  refine w_iload_n C dL_exchange_3 1 rfl ?_
  refine w_callX (np := 1) (ci := 5) (rest := [.int (Int32.ofInt 0), .ref (ad 72)]) C hX (fun hM => c_X5_exchange l hl0 hM ha1 h) gL_exchange_X5_exchange rfl (by decide) ⟨rfl, rfl⟩ ⟨Nat.le_of_ble_eq_true rfl, Nat.le_of_ble_eq_true rfl⟩ rfl layX5 (by decide) rfl rfl rfl (Nat.le_of_ble_eq_true rfl) dL_exchange_4 ⟨Nat.le_of_ble_eq_true rfl, Nat.le_of_ble_eq_true rfl⟩ (fun e0 hr => ?_) (fun hx => ?_)
  · subst e0
    rw [if_pos rfl, show kC 0 = 0 from rfl] at hR
    have hr : inR ro := hr
    refine w_i2l C hr dL_exchange_7 ?_
    refine w_lastore C hr dL_exchange_8 ?_
    refine w_goto C 18 dL_exchange_9 (by decide) ?_
    refine w_iconst C dL_exchange_18 ?_
    exact hR _ _ dL_exchange_19
  · rcases hx with rfl | rfl | rfl | rfl
    · exact absurd hxo (by decide)
    · rw [if_neg (by decide), show kC 2 = 2 from rfl] at hR
      refine w_catch C (name := xcls 2) (tableOf [(0, 9, 12, 25)]) { startPc := 0, endPc := 9, handlerPc := 15, catchType := 15 } (tableOf []) (by rw [hT]; rfl) (fun z hz => by
      rcases List.mem_singleton.mp hz with rfl
      exact ⟨by decide, xcls 3, by decide +kernel, hNC (xcls 2, xcls 3) (by decide)⟩) (by decide) (by decide) (by decide +kernel) (hcast _ (by decide)) (fun q => ?_)
      refine w_astore_n C dL_exchange_15 (by decide) ?_
      refine w_iconst C dL_exchange_16 ?_
      exact hR _ _ dL_exchange_17
    · rw [if_neg (by decide), show kC 3 = 1 from rfl] at hR
      refine w_catch C (name := xcls 3) (tableOf []) { startPc := 0, endPc := 9, handlerPc := 12, catchType := 25 } (tableOf [(0, 9, 15, 15)]) (by rw [hT]; rfl) (fun z hz => absurd hz List.not_mem_nil) (by decide) (by decide) (by decide +kernel) (hcast _ (by decide)) (fun q => ?_)
      refine w_astore_n C dL_exchange_12 (by decide) ?_
      refine w_iconst C dL_exchange_13 ?_
      exact hR _ _ dL_exchange_14
    · exact absurd hxo (by decide)
set_option maxHeartbeats 4000000 in
set_option maxRecDepth 100000 in
theorem w_L_remove (l : Launch) (hl0 : l.stackTraces = false) {σ : MM} (hM : okM σ) {a1 : Int} (ha1 : inR a1) {xo ro : Int} {σo : MM} (h : X5_remove a1 σ = some (xo, ro, σo)) (hxo : xo = 0 ∨ 1 ≤ kF xo) : CtW l yL_remove wsL_remove { frames := 7, cells := 1, slots := 6, locals := 103 } (fun ad : Nat → Nat => [.ref (ad 0), .int (Int32.ofInt a1), .ref (ad 72)]) σ (kF xo) (if xo = 0 then zup σo 72 0 ro else σo) := by
  refine z_ctW (cc := cL_remove) (maxL := 4) hM (by decide) rfl (fun _ => Nat.le_of_ble_eq_true rfl) (@fun p e s m args below meth c D cy ad A Q C hX hNC hT hcast hR => ?_)
  refine w_sub (vs' := [(0, .ref (ad 0)), (1, .int (Int32.ofInt a1)), (2, .ref (ad 72))]) [0, 1, 2] rfl ?_
  refine w_aload_n C dL_remove_0 2 rfl ?_
  refine w_iconst C dL_remove_1 ?_
  refine w_aload_n C dL_remove_2 0 rfl ?_
  refine w_iload_n C dL_remove_3 1 rfl ?_
  refine w_callX (np := 1) (ci := 5) (rest := [.int (Int32.ofInt 0), .ref (ad 72)]) C hX (fun hM => c_X5_remove l hl0 hM ha1 h) gL_remove_X5_remove rfl (by decide) ⟨rfl, rfl⟩ ⟨Nat.le_of_ble_eq_true rfl, Nat.le_of_ble_eq_true rfl⟩ rfl layX5 (by decide) rfl rfl rfl (Nat.le_of_ble_eq_true rfl) dL_remove_4 ⟨Nat.le_of_ble_eq_true rfl, Nat.le_of_ble_eq_true rfl⟩ (fun e0 hr => ?_) (fun hx => ?_)
  · subst e0
    rw [if_pos rfl, show kF 0 = 0 from rfl] at hR
    have hr : inR ro := hr
    refine w_i2l C hr dL_remove_7 ?_
    refine w_lastore C hr dL_remove_8 ?_
    refine w_goto C 15 dL_remove_9 (by decide) ?_
    refine w_iconst C dL_remove_15 ?_
    exact hR _ _ dL_remove_16
  · rcases hx with rfl | rfl | rfl | rfl
    · exact absurd hxo (by decide)
    · exact absurd hxo (by decide)
    · rw [if_neg (by decide), show kF 3 = 1 from rfl] at hR
      refine w_catch C (name := xcls 3) (tableOf []) { startPc := 0, endPc := 9, handlerPc := 12, catchType := 25 } (tableOf []) (by rw [hT]; rfl) (fun z hz => absurd hz List.not_mem_nil) (by decide) (by decide) (by decide +kernel) (hcast _ (by decide)) (fun q => ?_)
      refine w_astore_n C dL_remove_12 (by decide) ?_
      refine w_iconst C dL_remove_13 ?_
      exact hR _ _ dL_remove_14
    · exact absurd hxo (by decide)
set_option maxHeartbeats 4000000 in
set_option maxRecDepth 100000 in
theorem w_L_statement (l : Launch) (hl0 : l.stackTraces = false) {σ : MM} (hM : okM σ) {a1 : Int} (ha1 : inR a1) {a2 : Int} (ha2 : inR a2) {xo ro : Int} {σo : MM} (h : X5_statement a1 a2 σ = some (xo, ro, σo)) (hxo : xo = 0 ∨ 1 ≤ kB2 xo) : CtW l yL_statement wsL_statement { frames := 7, cells := 1, slots := 6, locals := 104 } (fun ad : Nat → Nat => [.ref (ad 0), .int (Int32.ofInt a1), .int (Int32.ofInt a2), .ref (ad 72)]) σ (kB2 xo) (if xo = 0 then zup σo 72 0 ro else σo) := by
  refine z_ctW (cc := cL_statement) (maxL := 5) hM (by decide) rfl (fun _ => Nat.le_of_ble_eq_true rfl) (@fun p e s m args below meth c D cy ad A Q C hX hNC hT hcast hR => ?_)
  refine w_sub (vs' := [(0, .ref (ad 0)), (1, .int (Int32.ofInt a1)), (2, .int (Int32.ofInt a2)), (3, .ref (ad 72))]) [0, 1, 2, 3] rfl ?_
  refine w_aload_n C dL_statement_0 3 rfl ?_
  refine w_iconst C dL_statement_1 ?_
  refine w_aload_n C dL_statement_2 0 rfl ?_
  refine w_iload_n C dL_statement_3 1 rfl ?_
  refine w_iload_n C dL_statement_4 2 rfl ?_
  refine w_callX (np := 2) (ci := 5) (rest := [.int (Int32.ofInt 0), .ref (ad 72)]) C hX (fun hM => c_X5_statement l hl0 hM ha1 ha2 h) gL_statement_X5_statement rfl (by decide) ⟨rfl, rfl⟩ ⟨Nat.le_of_ble_eq_true rfl, Nat.le_of_ble_eq_true rfl⟩ rfl layX5 (by decide) rfl rfl rfl (Nat.le_of_ble_eq_true rfl) dL_statement_5 ⟨Nat.le_of_ble_eq_true rfl, Nat.le_of_ble_eq_true rfl⟩ (fun e0 hr => ?_) (fun hx => ?_)
  · subst e0
    rw [if_pos rfl, show kB2 0 = 0 from rfl] at hR
    have hr : inR ro := hr
    refine w_i2l C hr dL_statement_8 ?_
    refine w_lastore C hr dL_statement_9 ?_
    refine w_goto C 21 dL_statement_10 (by decide) ?_
    refine w_iconst C dL_statement_21 ?_
    exact hR _ _ dL_statement_22
  · rcases hx with rfl | rfl | rfl | rfl
    · rw [if_neg (by decide), show kB2 1 = 2 from rfl] at hR
      refine w_catch C (name := xcls 1) (tableOf [(0, 10, 13, 25)]) { startPc := 0, endPc := 10, handlerPc := 17, catchType := 13 } (tableOf []) (by rw [hT]; rfl) (fun z hz => by
      rcases List.mem_singleton.mp hz with rfl
      exact ⟨by decide, xcls 3, by decide +kernel, hNC (xcls 1, xcls 3) (by decide)⟩) (by decide) (by decide) (by decide +kernel) (hcast _ (by decide)) (fun q => ?_)
      refine w_astore C dL_statement_17 (by decide) ?_
      refine w_iconst C dL_statement_19 ?_
      exact hR _ _ dL_statement_20
    · exact absurd hxo (by decide)
    · rw [if_neg (by decide), show kB2 3 = 1 from rfl] at hR
      refine w_catch C (name := xcls 3) (tableOf []) { startPc := 0, endPc := 10, handlerPc := 13, catchType := 25 } (tableOf [(0, 10, 17, 13)]) (by rw [hT]; rfl) (fun z hz => absurd hz List.not_mem_nil) (by decide) (by decide) (by decide +kernel) (hcast _ (by decide)) (fun q => ?_)
      refine w_astore C dL_statement_13 (by decide) ?_
      refine w_iconst C dL_statement_15 ?_
      exact hR _ _ dL_statement_16
    · exact absurd hxo (by decide)
set_option maxHeartbeats 4000000 in
set_option maxRecDepth 100000 in
theorem w_L_dependence (l : Launch) (hl0 : l.stackTraces = false) {σ : MM} (hM : okM σ) {a1 : Int} (ha1 : inR a1) {a2 : Int} (ha2 : inR a2) {xo ro : Int} {σo : MM} (h : X5_dependence a1 a2 σ = some (xo, ro, σo)) (hxo : xo = 0 ∨ 1 ≤ kB2 xo) : CtW l yL_dependence wsL_dependence { frames := 7, cells := 1, slots := 6, locals := 104 } (fun ad : Nat → Nat => [.ref (ad 0), .int (Int32.ofInt a1), .int (Int32.ofInt a2), .ref (ad 72)]) σ (kB2 xo) (if xo = 0 then zup σo 72 0 ro else σo) := by
  refine z_ctW (cc := cL_dependence) (maxL := 5) hM (by decide) rfl (fun _ => Nat.le_of_ble_eq_true rfl) (@fun p e s m args below meth c D cy ad A Q C hX hNC hT hcast hR => ?_)
  refine w_sub (vs' := [(0, .ref (ad 0)), (1, .int (Int32.ofInt a1)), (2, .int (Int32.ofInt a2)), (3, .ref (ad 72))]) [0, 1, 2, 3] rfl ?_
  refine w_aload_n C dL_dependence_0 3 rfl ?_
  refine w_iconst C dL_dependence_1 ?_
  refine w_aload_n C dL_dependence_2 0 rfl ?_
  refine w_iload_n C dL_dependence_3 1 rfl ?_
  refine w_iload_n C dL_dependence_4 2 rfl ?_
  refine w_callX (np := 2) (ci := 5) (rest := [.int (Int32.ofInt 0), .ref (ad 72)]) C hX (fun hM => c_X5_dependence l hl0 hM ha1 ha2 h) gL_dependence_X5_dependence rfl (by decide) ⟨rfl, rfl⟩ ⟨Nat.le_of_ble_eq_true rfl, Nat.le_of_ble_eq_true rfl⟩ rfl layX5 (by decide) rfl rfl rfl (Nat.le_of_ble_eq_true rfl) dL_dependence_5 ⟨Nat.le_of_ble_eq_true rfl, Nat.le_of_ble_eq_true rfl⟩ (fun e0 hr => ?_) (fun hx => ?_)
  · subst e0
    rw [if_pos rfl, show kB2 0 = 0 from rfl] at hR
    have hr : inR ro := hr
    refine w_i2l C hr dL_dependence_8 ?_
    refine w_lastore C hr dL_dependence_9 ?_
    refine w_goto C 21 dL_dependence_10 (by decide) ?_
    refine w_iconst C dL_dependence_21 ?_
    exact hR _ _ dL_dependence_22
  · rcases hx with rfl | rfl | rfl | rfl
    · rw [if_neg (by decide), show kB2 1 = 2 from rfl] at hR
      refine w_catch C (name := xcls 1) (tableOf [(0, 10, 13, 25)]) { startPc := 0, endPc := 10, handlerPc := 17, catchType := 13 } (tableOf []) (by rw [hT]; rfl) (fun z hz => by
      rcases List.mem_singleton.mp hz with rfl
      exact ⟨by decide, xcls 3, by decide +kernel, hNC (xcls 1, xcls 3) (by decide)⟩) (by decide) (by decide) (by decide +kernel) (hcast _ (by decide)) (fun q => ?_)
      refine w_astore C dL_dependence_17 (by decide) ?_
      refine w_iconst C dL_dependence_19 ?_
      exact hR _ _ dL_dependence_20
    · exact absurd hxo (by decide)
    · rw [if_neg (by decide), show kB2 3 = 1 from rfl] at hR
      refine w_catch C (name := xcls 3) (tableOf []) { startPc := 0, endPc := 10, handlerPc := 13, catchType := 25 } (tableOf [(0, 10, 17, 13)]) (by rw [hT]; rfl) (fun z hz => absurd hz List.not_mem_nil) (by decide) (by decide) (by decide +kernel) (hcast _ (by decide)) (fun q => ?_)
      refine w_astore C dL_dependence_13 (by decide) ?_
      refine w_iconst C dL_dependence_15 ?_
      exact hR _ _ dL_dependence_16
    · exact absurd hxo (by decide)
set_option maxHeartbeats 4000000 in
set_option maxRecDepth 100000 in
theorem w_L_lead (l : Launch) (hl0 : l.stackTraces = false) {σ : MM} (hM : okM σ) {a1 : Int} (ha1 : inR a1) {a2 : Int} (ha2 : inR a2) {xo ro : Int} {σo : MM} (h : X5_lead a1 a2 σ = some (xo, ro, σo)) (hxo : xo = 0 ∨ 1 ≤ kB xo) : CtW l yL_lead wsL_lead { frames := 7, cells := 1, slots := 6, locals := 121 } (fun ad : Nat → Nat => [.ref (ad 0), .int (Int32.ofInt a1), .int (Int32.ofInt a2), .ref (ad 72)]) σ (kB xo) (if xo = 0 then zup σo 72 0 ro else σo) := by
  refine z_ctW (cc := cL_lead) (maxL := 5) hM (by decide) rfl (fun _ => Nat.le_of_ble_eq_true rfl) (@fun p e s m args below meth c D cy ad A Q C hX hNC hT hcast hR => ?_)
  refine w_sub (vs' := [(0, .ref (ad 0)), (1, .int (Int32.ofInt a1)), (2, .int (Int32.ofInt a2)), (3, .ref (ad 72))]) [0, 1, 2, 3] rfl ?_
  refine w_aload_n C dL_lead_0 3 rfl ?_
  refine w_iconst C dL_lead_1 ?_
  refine w_aload_n C dL_lead_2 0 rfl ?_
  refine w_iload_n C dL_lead_3 1 rfl ?_
  refine w_iload_n C dL_lead_4 2 rfl ?_
  refine w_callX (np := 2) (ci := 5) (rest := [.int (Int32.ofInt 0), .ref (ad 72)]) C hX (fun hM => c_X5_lead l hl0 hM ha1 ha2 h) gL_lead_X5_lead rfl (by decide) ⟨rfl, rfl⟩ ⟨Nat.le_of_ble_eq_true rfl, Nat.le_of_ble_eq_true rfl⟩ rfl layX5 (by decide) rfl rfl rfl (Nat.le_of_ble_eq_true rfl) dL_lead_5 ⟨Nat.le_of_ble_eq_true rfl, Nat.le_of_ble_eq_true rfl⟩ (fun e0 hr => ?_) (fun hx => ?_)
  · subst e0
    rw [if_pos rfl, show kB 0 = 0 from rfl] at hR
    have hr : inR ro := hr
    refine w_i2l C hr dL_lead_8 ?_
    refine w_lastore C hr dL_lead_9 ?_
    refine w_goto C 25 dL_lead_10 (by decide) ?_
    refine w_iconst C dL_lead_25 ?_
    exact hR _ _ dL_lead_26
  · rcases hx with rfl | rfl | rfl | rfl
    · rw [if_neg (by decide), show kB 1 = 2 from rfl] at hR
      refine w_catch C (name := xcls 1) (tableOf [(0, 10, 13, 25)]) { startPc := 0, endPc := 10, handlerPc := 17, catchType := 13 } (tableOf [(0, 10, 21, 15)]) (by rw [hT]; rfl) (fun z hz => by
      rcases List.mem_singleton.mp hz with rfl
      exact ⟨by decide, xcls 3, by decide +kernel, hNC (xcls 1, xcls 3) (by decide)⟩) (by decide) (by decide) (by decide +kernel) (hcast _ (by decide)) (fun q => ?_)
      refine w_astore C dL_lead_17 (by decide) ?_
      refine w_iconst C dL_lead_19 ?_
      exact hR _ _ dL_lead_20
    · rw [if_neg (by decide), show kB 2 = 3 from rfl] at hR
      refine w_catch C (name := xcls 2) (tableOf [(0, 10, 13, 25), (0, 10, 17, 13)]) { startPc := 0, endPc := 10, handlerPc := 21, catchType := 15 } (tableOf []) (by rw [hT]; rfl) (fun z hz => by
      rcases List.mem_cons.mp hz with rfl | hz
      · exact ⟨by decide, xcls 3, by decide +kernel, hNC (xcls 2, xcls 3) (by decide)⟩
      · rcases List.mem_singleton.mp hz with rfl
        exact ⟨by decide, xcls 1, by decide +kernel, hNC (xcls 2, xcls 1) (by decide)⟩) (by decide) (by decide) (by decide +kernel) (hcast _ (by decide)) (fun q => ?_)
      refine w_astore C dL_lead_21 (by decide) ?_
      refine w_iconst C dL_lead_23 ?_
      exact hR _ _ dL_lead_24
    · rw [if_neg (by decide), show kB 3 = 1 from rfl] at hR
      refine w_catch C (name := xcls 3) (tableOf []) { startPc := 0, endPc := 10, handlerPc := 13, catchType := 25 } (tableOf [(0, 10, 17, 13), (0, 10, 21, 15)]) (by rw [hT]; rfl) (fun z hz => absurd hz List.not_mem_nil) (by decide) (by decide) (by decide +kernel) (hcast _ (by decide)) (fun q => ?_)
      refine w_astore C dL_lead_13 (by decide) ?_
      refine w_iconst C dL_lead_15 ?_
      exact hR _ _ dL_lead_16
    · exact absurd hxo (by decide)
set_option maxHeartbeats 4000000 in
set_option maxRecDepth 100000 in
theorem w_L_eliminate (l : Launch) (hl0 : l.stackTraces = false) {σ : MM} (hM : okM σ) {a1 : Int} (ha1 : inR a1) {xo ro : Int} {σo : MM} (h : X5_eliminate a1 σ = some (xo, ro, σo)) (hxo : xo = 0 ∨ 1 ≤ kA xo) : CtW l yL_eliminate wsL_eliminate { frames := 7, cells := 1, slots := 6, locals := 145 } (fun ad : Nat → Nat => [.ref (ad 0), .int (Int32.ofInt a1), .ref (ad 72)]) σ (kA xo) (if xo = 0 then zup σo 72 0 ro else σo) := by
  refine z_ctW (cc := cL_eliminate) (maxL := 4) hM (by decide) rfl (fun _ => Nat.le_of_ble_eq_true rfl) (@fun p e s m args below meth c D cy ad A Q C hX hNC hT hcast hR => ?_)
  refine w_sub (vs' := [(0, .ref (ad 0)), (1, .int (Int32.ofInt a1)), (2, .ref (ad 72))]) [0, 1, 2] rfl ?_
  refine w_aload_n C dL_eliminate_0 2 rfl ?_
  refine w_iconst C dL_eliminate_1 ?_
  refine w_aload_n C dL_eliminate_2 0 rfl ?_
  refine w_iload_n C dL_eliminate_3 1 rfl ?_
  refine w_callX (np := 1) (ci := 5) (rest := [.int (Int32.ofInt 0), .ref (ad 72)]) C hX (fun hM => c_X5_eliminate l hl0 hM ha1 h) gL_eliminate_X5_eliminate rfl (by decide) ⟨rfl, rfl⟩ ⟨Nat.le_of_ble_eq_true rfl, Nat.le_of_ble_eq_true rfl⟩ rfl layX5 (by decide) rfl rfl rfl (Nat.le_of_ble_eq_true rfl) dL_eliminate_4 ⟨Nat.le_of_ble_eq_true rfl, Nat.le_of_ble_eq_true rfl⟩ (fun e0 hr => ?_) (fun hx => ?_)
  · subst e0
    rw [if_pos rfl, show kA 0 = 0 from rfl] at hR
    have hr : inR ro := hr
    refine w_i2l C hr dL_eliminate_7 ?_
    refine w_lastore C hr dL_eliminate_8 ?_
    refine w_goto C 15 dL_eliminate_9 (by decide) ?_
    refine w_iconst C dL_eliminate_15 ?_
    exact hR _ _ dL_eliminate_16
  · rcases hx with rfl | rfl | rfl | rfl
    · rw [if_neg (by decide), show kA 1 = 1 from rfl] at hR
      refine w_catch C (name := xcls 1) (tableOf []) { startPc := 0, endPc := 9, handlerPc := 12, catchType := 13 } (tableOf []) (by rw [hT]; rfl) (fun z hz => absurd hz List.not_mem_nil) (by decide) (by decide) (by decide +kernel) (hcast _ (by decide)) (fun q => ?_)
      refine w_astore_n C dL_eliminate_12 (by decide) ?_
      refine w_iconst C dL_eliminate_13 ?_
      exact hR _ _ dL_eliminate_14
    · exact absurd hxo (by decide)
    · exact absurd hxo (by decide)
    · exact absurd hxo (by decide)
set_option maxHeartbeats 4000000 in
set_option maxRecDepth 100000 in
theorem w_L_precedes (l : Launch) (hl0 : l.stackTraces = false) {σ : MM} (hM : okM σ) {a1 : Int} (ha1 : inR a1) {a2 : Int} (ha2 : inR a2) {xo ro : Int} {σo : MM} (h : X5_precedes a1 a2 σ = some (xo, ro, σo)) (hxo : xo = 0 ∨ 1 ≤ kF xo) : CtW l yL_precedes wsL_precedes { frames := 7, cells := 1, slots := 6, locals := 104 } (fun ad : Nat → Nat => [.ref (ad 0), .int (Int32.ofInt a1), .int (Int32.ofInt a2), .ref (ad 72)]) σ (kF xo) (if xo = 0 then zup σo 72 0 ro else σo) := by
  refine z_ctW (cc := cL_precedes) (maxL := 5) hM (by decide) rfl (fun _ => Nat.le_of_ble_eq_true rfl) (@fun p e s m args below meth c D cy ad A Q C hX hNC hT hcast hR => ?_)
  refine w_sub (vs' := [(0, .ref (ad 0)), (1, .int (Int32.ofInt a1)), (2, .int (Int32.ofInt a2)), (3, .ref (ad 72))]) [0, 1, 2, 3] rfl ?_
  refine w_aload_n C dL_precedes_0 3 rfl ?_
  refine w_iconst C dL_precedes_1 ?_
  refine w_aload_n C dL_precedes_2 0 rfl ?_
  refine w_iload_n C dL_precedes_3 1 rfl ?_
  refine w_iload_n C dL_precedes_4 2 rfl ?_
  refine w_callX (np := 2) (ci := 5) (rest := [.int (Int32.ofInt 0), .ref (ad 72)]) C hX (fun hM => c_X5_precedes l hl0 hM ha1 ha2 h) gL_precedes_X5_precedes rfl (by decide) ⟨rfl, rfl⟩ ⟨Nat.le_of_ble_eq_true rfl, Nat.le_of_ble_eq_true rfl⟩ rfl layX5 (by decide) rfl rfl rfl (Nat.le_of_ble_eq_true rfl) dL_precedes_5 ⟨Nat.le_of_ble_eq_true rfl, Nat.le_of_ble_eq_true rfl⟩ (fun e0 hr => ?_) (fun hx => ?_)
  · subst e0
    rw [if_pos rfl, show kF 0 = 0 from rfl] at hR
    have hr : ro = 0 ∨ ro = 1 := hr
    rcases hr with rfl | rfl
    · refine w_if_eq C 15 dL_precedes_8 (by decide) (fun _ => ?_) (fun q => absurd rfl q)
      refine w_lconst C dL_precedes_15 ?_
      refine w_lastore C (by decide) dL_precedes_16 ?_
      refine w_goto C 24 dL_precedes_17 (by decide) ?_
      refine w_iconst C dL_precedes_24 ?_
      exact hR _ _ dL_precedes_25
    · refine w_if_eq C 15 dL_precedes_8 (by decide) (fun q => absurd q (by decide)) (fun _ => ?_)
      refine w_lconst C dL_precedes_11 ?_
      refine w_goto C 16 dL_precedes_12 (by decide) ?_
      refine w_lastore C (by decide) dL_precedes_16 ?_
      refine w_goto C 24 dL_precedes_17 (by decide) ?_
      refine w_iconst C dL_precedes_24 ?_
      exact hR _ _ dL_precedes_25
  · rcases hx with rfl | rfl | rfl | rfl
    · exact absurd hxo (by decide)
    · exact absurd hxo (by decide)
    · rw [if_neg (by decide), show kF 3 = 1 from rfl] at hR
      refine w_catch C (name := xcls 3) (tableOf []) { startPc := 0, endPc := 17, handlerPc := 20, catchType := 25 } (tableOf []) (by rw [hT]; rfl) (fun z hz => absurd hz List.not_mem_nil) (by decide) (by decide) (by decide +kernel) (hcast _ (by decide)) (fun q => ?_)
      refine w_astore C dL_precedes_20 (by decide) ?_
      refine w_iconst C dL_precedes_22 ?_
      exact hR _ _ dL_precedes_23
    · exact absurd hxo (by decide)
set_option maxHeartbeats 4000000 in
set_option maxRecDepth 100000 in
theorem w_L_leastDelay (l : Launch) (hl0 : l.stackTraces = false) {σ : MM} (hM : okM σ) {xo ro : Int} {σo : MM} (h : X5_leastDelay σ = some (xo, ro, σo)) (hxo : xo = 0 ∨ 1 ≤ kD xo) : CtW l yL_leastDelay wsL_leastDelay { frames := 7, cells := 1, slots := 6, locals := 154 } (fun ad : Nat → Nat => [.ref (ad 0), .ref (ad 72)]) σ (kD xo) (if xo = 0 then zup σo 72 0 ro else σo) := by
  refine z_ctW (cc := cL_leastDelay) (maxL := 3) hM (by decide) rfl (fun _ => Nat.le_of_ble_eq_true rfl) (@fun p e s m args below meth c D cy ad A Q C hX hNC hT hcast hR => ?_)
  refine w_sub (vs' := [(0, .ref (ad 0)), (1, .ref (ad 72))]) [0, 1] rfl ?_
  refine w_aload_n C dL_leastDelay_0 1 rfl ?_
  refine w_iconst C dL_leastDelay_1 ?_
  refine w_aload_n C dL_leastDelay_2 0 rfl ?_
  refine w_callX (np := 0) (ci := 5) (rest := [.int (Int32.ofInt 0), .ref (ad 72)]) C hX (fun hM => c_X5_leastDelay l hl0 hM  h) gL_leastDelay_X5_leastDelay rfl (by decide) ⟨rfl, rfl⟩ ⟨Nat.le_of_ble_eq_true rfl, Nat.le_of_ble_eq_true rfl⟩ rfl layX5 (by decide) rfl rfl rfl (Nat.le_of_ble_eq_true rfl) dL_leastDelay_3 ⟨Nat.le_of_ble_eq_true rfl, Nat.le_of_ble_eq_true rfl⟩ (fun e0 hr => ?_) (fun hx => ?_)
  · subst e0
    rw [if_pos rfl, show kD 0 = 0 from rfl] at hR
    have hr : inR ro := hr
    refine w_i2l C hr dL_leastDelay_6 ?_
    refine w_lastore C hr dL_leastDelay_7 ?_
    refine w_goto C 14 dL_leastDelay_8 (by decide) ?_
    refine w_iconst C dL_leastDelay_14 ?_
    exact hR _ _ dL_leastDelay_15
  · rcases hx with rfl | rfl | rfl | rfl
    · exact absurd hxo (by decide)
    · exact absurd hxo (by decide)
    · exact absurd hxo (by decide)
    · rw [if_neg (by decide), show kD 4 = 1 from rfl] at hR
      refine w_catch C (name := xcls 4) (tableOf []) { startPc := 0, endPc := 8, handlerPc := 11, catchType := 55 } (tableOf []) (by rw [hT]; rfl) (fun z hz => absurd hz List.not_mem_nil) (by decide) (by decide) (by decide +kernel) (hcast _ (by decide)) (fun q => ?_)
      refine w_astore_n C dL_leastDelay_11 (by decide) ?_
      refine w_iconst C dL_leastDelay_12 ?_
      exact hR _ _ dL_leastDelay_13
set_option maxHeartbeats 4000000 in
set_option maxRecDepth 100000 in
theorem w_L_reorder (l : Launch) (hl0 : l.stackTraces = false) {σ : MM} (hM : okM σ) {xo ro : Int} {σo : MM} (h : X5_reorder σ = some (xo, ro, σo)) (hxo : xo = 0 ∨ 1 ≤ kD xo) : CtW l yL_reorder wsL_reorder { frames := 7, cells := 1, slots := 6, locals := 156 } (fun ad : Nat → Nat => [.ref (ad 0), .ref (ad 72)]) σ (kD xo) (if xo = 0 then zup σo 72 0 ro else σo) := by
  refine z_ctW (cc := cL_reorder) (maxL := 3) hM (by decide) rfl (fun _ => Nat.le_of_ble_eq_true rfl) (@fun p e s m args below meth c D cy ad A Q C hX hNC hT hcast hR => ?_)
  refine w_sub (vs' := [(0, .ref (ad 0)), (1, .ref (ad 72))]) [0, 1] rfl ?_
  refine w_aload_n C dL_reorder_0 1 rfl ?_
  refine w_iconst C dL_reorder_1 ?_
  refine w_aload_n C dL_reorder_2 0 rfl ?_
  refine w_callX (np := 0) (ci := 5) (rest := [.int (Int32.ofInt 0), .ref (ad 72)]) C hX (fun hM => c_X5_reorder l hl0 hM  h) gL_reorder_X5_reorder rfl (by decide) ⟨rfl, rfl⟩ ⟨Nat.le_of_ble_eq_true rfl, Nat.le_of_ble_eq_true rfl⟩ rfl layX5 (by decide) rfl rfl rfl (Nat.le_of_ble_eq_true rfl) dL_reorder_3 ⟨Nat.le_of_ble_eq_true rfl, Nat.le_of_ble_eq_true rfl⟩ (fun e0 hr => ?_) (fun hx => ?_)
  · subst e0
    rw [if_pos rfl, show kD 0 = 0 from rfl] at hR
    have hr : inR ro := hr
    refine w_i2l C hr dL_reorder_6 ?_
    refine w_lastore C hr dL_reorder_7 ?_
    refine w_goto C 14 dL_reorder_8 (by decide) ?_
    refine w_iconst C dL_reorder_14 ?_
    exact hR _ _ dL_reorder_15
  · rcases hx with rfl | rfl | rfl | rfl
    · exact absurd hxo (by decide)
    · exact absurd hxo (by decide)
    · exact absurd hxo (by decide)
    · rw [if_neg (by decide), show kD 4 = 1 from rfl] at hR
      refine w_catch C (name := xcls 4) (tableOf []) { startPc := 0, endPc := 8, handlerPc := 11, catchType := 55 } (tableOf []) (by rw [hT]; rfl) (fun z hz => absurd hz List.not_mem_nil) (by decide) (by decide) (by decide +kernel) (hcast _ (by decide)) (fun q => ?_)
      refine w_astore_n C dL_reorder_11 (by decide) ?_
      refine w_iconst C dL_reorder_12 ?_
      exact hR _ _ dL_reorder_13
set_option maxHeartbeats 4000000 in
set_option maxRecDepth 100000 in
theorem w_L_start (l : Launch) (hl0 : l.stackTraces = false) {σ : MM} (hM : okM σ) {a1 : Int} (ha1 : inR a1) {a2 : Int} (ha2 : inR a2) {xo ro : Int} {σo : MM} (h : X5_start a1 a2 σ = some (xo, ro, σo)) (hxo : xo = 0 ∨ 1 ≤ kF xo) : CtW l yL_start wsL_start { frames := 7, cells := 1, slots := 6, locals := 161 } (fun ad : Nat → Nat => [.ref (ad 0), .int (Int32.ofInt a1), .int (Int32.ofInt a2), .ref (ad 72)]) σ (kF xo) (if xo = 0 then zup σo 72 0 ro else σo) := by
  refine z_ctW (cc := cL_start) (maxL := 5) hM (by decide) rfl (fun _ => Nat.le_of_ble_eq_true rfl) (@fun p e s m args below meth c D cy ad A Q C hX hNC hT hcast hR => ?_)
  refine w_sub (vs' := [(0, .ref (ad 0)), (1, .int (Int32.ofInt a1)), (2, .int (Int32.ofInt a2)), (3, .ref (ad 72))]) [0, 1, 2, 3] rfl ?_
  refine w_aload_n C dL_start_0 3 rfl ?_
  refine w_iconst C dL_start_1 ?_
  refine w_aload_n C dL_start_2 0 rfl ?_
  refine w_iload_n C dL_start_3 1 rfl ?_
  refine w_iload_n C dL_start_4 2 rfl ?_
  refine w_callX (np := 2) (ci := 5) (rest := [.int (Int32.ofInt 0), .ref (ad 72)]) C hX (fun hM => c_X5_start l hl0 hM ha1 ha2 h) gL_start_X5_start rfl (by decide) ⟨rfl, rfl⟩ ⟨Nat.le_of_ble_eq_true rfl, Nat.le_of_ble_eq_true rfl⟩ rfl layX5 (by decide) rfl rfl rfl (Nat.le_of_ble_eq_true rfl) dL_start_5 ⟨Nat.le_of_ble_eq_true rfl, Nat.le_of_ble_eq_true rfl⟩ (fun e0 hr => ?_) (fun hx => ?_)
  · subst e0
    rw [if_pos rfl, show kF 0 = 0 from rfl] at hR
    have hr : inR ro := hr
    refine w_i2l C hr dL_start_8 ?_
    refine w_lastore C hr dL_start_9 ?_
    refine w_goto C 17 dL_start_10 (by decide) ?_
    refine w_iconst C dL_start_17 ?_
    exact hR _ _ dL_start_18
  · rcases hx with rfl | rfl | rfl | rfl
    · exact absurd hxo (by decide)
    · exact absurd hxo (by decide)
    · rw [if_neg (by decide), show kF 3 = 1 from rfl] at hR
      refine w_catch C (name := xcls 3) (tableOf []) { startPc := 0, endPc := 10, handlerPc := 13, catchType := 25 } (tableOf []) (by rw [hT]; rfl) (fun z hz => absurd hz List.not_mem_nil) (by decide) (by decide) (by decide +kernel) (hcast _ (by decide)) (fun q => ?_)
      refine w_astore C dL_start_13 (by decide) ?_
      refine w_iconst C dL_start_15 ?_
      exact hR _ _ dL_start_16
    · exact absurd hxo (by decide)
set_option maxHeartbeats 4000000 in
set_option maxRecDepth 100000 in
theorem w_L_processor (l : Launch) (hl0 : l.stackTraces = false) {σ : MM} (hM : okM σ) {a1 : Int} (ha1 : inR a1) {xo ro : Int} {σo : MM} (h : X5_processor a1 σ = some (xo, ro, σo)) (hxo : xo = 0 ∨ 1 ≤ kF xo) : CtW l yL_processor wsL_processor { frames := 7, cells := 1, slots := 6, locals := 160 } (fun ad : Nat → Nat => [.ref (ad 0), .int (Int32.ofInt a1), .ref (ad 72)]) σ (kF xo) (if xo = 0 then zup σo 72 0 ro else σo) := by
  refine z_ctW (cc := cL_processor) (maxL := 4) hM (by decide) rfl (fun _ => Nat.le_of_ble_eq_true rfl) (@fun p e s m args below meth c D cy ad A Q C hX hNC hT hcast hR => ?_)
  refine w_sub (vs' := [(0, .ref (ad 0)), (1, .int (Int32.ofInt a1)), (2, .ref (ad 72))]) [0, 1, 2] rfl ?_
  refine w_aload_n C dL_processor_0 2 rfl ?_
  refine w_iconst C dL_processor_1 ?_
  refine w_aload_n C dL_processor_2 0 rfl ?_
  refine w_iload_n C dL_processor_3 1 rfl ?_
  refine w_callX (np := 1) (ci := 5) (rest := [.int (Int32.ofInt 0), .ref (ad 72)]) C hX (fun hM => c_X5_processor l hl0 hM ha1 h) gL_processor_X5_processor rfl (by decide) ⟨rfl, rfl⟩ ⟨Nat.le_of_ble_eq_true rfl, Nat.le_of_ble_eq_true rfl⟩ rfl layX5 (by decide) rfl rfl rfl (Nat.le_of_ble_eq_true rfl) dL_processor_4 ⟨Nat.le_of_ble_eq_true rfl, Nat.le_of_ble_eq_true rfl⟩ (fun e0 hr => ?_) (fun hx => ?_)
  · subst e0
    rw [if_pos rfl, show kF 0 = 0 from rfl] at hR
    have hr : inR ro := hr
    refine w_i2l C hr dL_processor_7 ?_
    refine w_lastore C hr dL_processor_8 ?_
    refine w_goto C 15 dL_processor_9 (by decide) ?_
    refine w_iconst C dL_processor_15 ?_
    exact hR _ _ dL_processor_16
  · rcases hx with rfl | rfl | rfl | rfl
    · exact absurd hxo (by decide)
    · exact absurd hxo (by decide)
    · rw [if_neg (by decide), show kF 3 = 1 from rfl] at hR
      refine w_catch C (name := xcls 3) (tableOf []) { startPc := 0, endPc := 9, handlerPc := 12, catchType := 25 } (tableOf []) (by rw [hT]; rfl) (fun z hz => absurd hz List.not_mem_nil) (by decide) (by decide) (by decide +kernel) (hcast _ (by decide)) (fun q => ?_)
      refine w_astore_n C dL_processor_12 (by decide) ?_
      refine w_iconst C dL_processor_13 ?_
      exact hR _ _ dL_processor_14
    · exact absurd hxo (by decide)
set_option maxHeartbeats 4000000 in
set_option maxRecDepth 100000 in
theorem w_L_total (l : Launch) (hl0 : l.stackTraces = false) {σ : MM} (hM : okM σ) {a1 : Int} (ha1 : inR a1) {a2 : Int} (ha2 : inR a2) {xo ro : Int} {σo : MM} (h : X5_total a1 a2 σ = some (xo, ro, σo)) (hxo : xo = 0 ∨ 1 ≤ kB2 xo) : CtW l yL_total wsL_total { frames := 7, cells := 1, slots := 6, locals := 161 } (fun ad : Nat → Nat => [.ref (ad 0), .int (Int32.ofInt a1), .int (Int32.ofInt a2), .ref (ad 72)]) σ (kB2 xo) (if xo = 0 then zup σo 72 0 ro else σo) := by
  refine z_ctW (cc := cL_total) (maxL := 5) hM (by decide) rfl (fun _ => Nat.le_of_ble_eq_true rfl) (@fun p e s m args below meth c D cy ad A Q C hX hNC hT hcast hR => ?_)
  refine w_sub (vs' := [(0, .ref (ad 0)), (1, .int (Int32.ofInt a1)), (2, .int (Int32.ofInt a2)), (3, .ref (ad 72))]) [0, 1, 2, 3] rfl ?_
  refine w_aload_n C dL_total_0 3 rfl ?_
  refine w_iconst C dL_total_1 ?_
  refine w_aload_n C dL_total_2 0 rfl ?_
  refine w_iload_n C dL_total_3 1 rfl ?_
  refine w_iload_n C dL_total_4 2 rfl ?_
  refine w_callX (np := 2) (ci := 5) (rest := [.int (Int32.ofInt 0), .ref (ad 72)]) C hX (fun hM => c_X5_total l hl0 hM ha1 ha2 h) gL_total_X5_total rfl (by decide) ⟨rfl, rfl⟩ ⟨Nat.le_of_ble_eq_true rfl, Nat.le_of_ble_eq_true rfl⟩ rfl layX5 (by decide) rfl rfl rfl (Nat.le_of_ble_eq_true rfl) dL_total_5 ⟨Nat.le_of_ble_eq_true rfl, Nat.le_of_ble_eq_true rfl⟩ (fun e0 hr => ?_) (fun hx => ?_)
  · subst e0
    rw [if_pos rfl, show kB2 0 = 0 from rfl] at hR
    have hr : inR ro := hr
    refine w_i2l C hr dL_total_8 ?_
    refine w_lastore C hr dL_total_9 ?_
    refine w_goto C 21 dL_total_10 (by decide) ?_
    refine w_iconst C dL_total_21 ?_
    exact hR _ _ dL_total_22
  · rcases hx with rfl | rfl | rfl | rfl
    · rw [if_neg (by decide), show kB2 1 = 2 from rfl] at hR
      refine w_catch C (name := xcls 1) (tableOf [(0, 10, 13, 25)]) { startPc := 0, endPc := 10, handlerPc := 17, catchType := 13 } (tableOf []) (by rw [hT]; rfl) (fun z hz => by
      rcases List.mem_singleton.mp hz with rfl
      exact ⟨by decide, xcls 3, by decide +kernel, hNC (xcls 1, xcls 3) (by decide)⟩) (by decide) (by decide) (by decide +kernel) (hcast _ (by decide)) (fun q => ?_)
      refine w_astore C dL_total_17 (by decide) ?_
      refine w_iconst C dL_total_19 ?_
      exact hR _ _ dL_total_20
    · exact absurd hxo (by decide)
    · rw [if_neg (by decide), show kB2 3 = 1 from rfl] at hR
      refine w_catch C (name := xcls 3) (tableOf []) { startPc := 0, endPc := 10, handlerPc := 13, catchType := 25 } (tableOf [(0, 10, 17, 13)]) (by rw [hT]; rfl) (fun z hz => absurd hz List.not_mem_nil) (by decide) (by decide) (by decide +kernel) (hcast _ (by decide)) (fun q => ?_)
      refine w_astore C dL_total_13 (by decide) ?_
      refine w_iconst C dL_total_15 ?_
      exact hR _ _ dL_total_16
    · exact absurd hxo (by decide)
set_option maxHeartbeats 4000000 in
set_option maxRecDepth 100000 in
theorem w_L_speedUp (l : Launch) (hl0 : l.stackTraces = false) {σ : MM} (hM : okM σ) {a1 : Int} (ha1 : inR a1) {xo ro : Int} {σo : MM} (h : X5_speedUp a1 σ = some (xo, ro, σo)) (hxo : xo = 0 ∨ 1 ≤ kA2 xo) : CtW l yL_speedUp wsL_speedUp { frames := 7, cells := 1, slots := 6, locals := 162 } (fun ad : Nat → Nat => [.ref (ad 0), .int (Int32.ofInt a1), .ref (ad 72)]) σ (kA2 xo) (if xo = 0 then zup σo 72 0 ro else σo) := by
  refine z_ctW (cc := cL_speedUp) (maxL := 4) hM (by decide) rfl (fun _ => Nat.le_of_ble_eq_true rfl) (@fun p e s m args below meth c D cy ad A Q C hX hNC hT hcast hR => ?_)
  refine w_sub (vs' := [(0, .ref (ad 0)), (1, .int (Int32.ofInt a1)), (2, .ref (ad 72))]) [0, 1, 2] rfl ?_
  refine w_aload_n C dL_speedUp_0 2 rfl ?_
  refine w_iconst C dL_speedUp_1 ?_
  refine w_aload_n C dL_speedUp_2 0 rfl ?_
  refine w_iload_n C dL_speedUp_3 1 rfl ?_
  refine w_callX (np := 1) (ci := 5) (rest := [.int (Int32.ofInt 0), .ref (ad 72)]) C hX (fun hM => c_X5_speedUp l hl0 hM ha1 h) gL_speedUp_X5_speedUp rfl (by decide) ⟨rfl, rfl⟩ ⟨Nat.le_of_ble_eq_true rfl, Nat.le_of_ble_eq_true rfl⟩ rfl layX5 (by decide) rfl rfl rfl (Nat.le_of_ble_eq_true rfl) dL_speedUp_4 ⟨Nat.le_of_ble_eq_true rfl, Nat.le_of_ble_eq_true rfl⟩ (fun e0 hr => ?_) (fun hx => ?_)
  · subst e0
    rw [if_pos rfl, show kA2 0 = 0 from rfl] at hR
    have hr : inR ro := hr
    refine w_i2l C hr dL_speedUp_7 ?_
    refine w_lastore C hr dL_speedUp_8 ?_
    refine w_goto C 18 dL_speedUp_9 (by decide) ?_
    refine w_iconst C dL_speedUp_18 ?_
    exact hR _ _ dL_speedUp_19
  · rcases hx with rfl | rfl | rfl | rfl
    · rw [if_neg (by decide), show kA2 1 = 1 from rfl] at hR
      refine w_catch C (name := xcls 1) (tableOf []) { startPc := 0, endPc := 9, handlerPc := 12, catchType := 13 } (tableOf [(0, 9, 15, 15)]) (by rw [hT]; rfl) (fun z hz => absurd hz List.not_mem_nil) (by decide) (by decide) (by decide +kernel) (hcast _ (by decide)) (fun q => ?_)
      refine w_astore_n C dL_speedUp_12 (by decide) ?_
      refine w_iconst C dL_speedUp_13 ?_
      exact hR _ _ dL_speedUp_14
    · rw [if_neg (by decide), show kA2 2 = 2 from rfl] at hR
      refine w_catch C (name := xcls 2) (tableOf [(0, 9, 12, 13)]) { startPc := 0, endPc := 9, handlerPc := 15, catchType := 15 } (tableOf []) (by rw [hT]; rfl) (fun z hz => by
      rcases List.mem_singleton.mp hz with rfl
      exact ⟨by decide, xcls 1, by decide +kernel, hNC (xcls 2, xcls 1) (by decide)⟩) (by decide) (by decide) (by decide +kernel) (hcast _ (by decide)) (fun q => ?_)
      refine w_astore_n C dL_speedUp_15 (by decide) ?_
      refine w_iconst C dL_speedUp_16 ?_
      exact hR _ _ dL_speedUp_17
    · exact absurd hxo (by decide)
    · exact absurd hxo (by decide)
set_option maxHeartbeats 4000000 in
set_option maxRecDepth 100000 in
theorem w_L_restore (l : Launch) (hl0 : l.stackTraces = false) {σ : MM} (hM : okM σ) {xo ro : Int} {σo : MM} (h : X5_restore σ = some (xo, ro, σo)) (hxo : xo = 0 ∨ 1 ≤ kE xo) : CtW l yL_restore wsL_restore { frames := 7, cells := 1, slots := 6, locals := 102 } (fun ad : Nat → Nat => [.ref (ad 0), .ref (ad 72)]) σ (kE xo) (if xo = 0 then zup σo 72 0 ro else σo) := by
  refine z_ctW (cc := cL_restore) (maxL := 3) hM (by decide) rfl (fun _ => Nat.le_of_ble_eq_true rfl) (@fun p e s m args below meth c D cy ad A Q C hX hNC hT hcast hR => ?_)
  refine w_sub (vs' := [(0, .ref (ad 0)), (1, .ref (ad 72))]) [0, 1] rfl ?_
  refine w_aload_n C dL_restore_0 1 rfl ?_
  refine w_iconst C dL_restore_1 ?_
  refine w_aload_n C dL_restore_2 0 rfl ?_
  refine w_callX (np := 0) (ci := 5) (rest := [.int (Int32.ofInt 0), .ref (ad 72)]) C hX (fun hM => c_X5_restore l hl0 hM  h) gL_restore_X5_restore rfl (by decide) ⟨rfl, rfl⟩ ⟨Nat.le_of_ble_eq_true rfl, Nat.le_of_ble_eq_true rfl⟩ rfl layX5 (by decide) rfl rfl rfl (Nat.le_of_ble_eq_true rfl) dL_restore_3 ⟨Nat.le_of_ble_eq_true rfl, Nat.le_of_ble_eq_true rfl⟩ (fun e0 hr => ?_) (fun hx => ?_)
  · subst e0
    rw [if_pos rfl, show kE 0 = 0 from rfl] at hR
    have hr : inR ro := hr
    refine w_i2l C hr dL_restore_6 ?_
    refine w_lastore C hr dL_restore_7 ?_
    refine w_goto C 14 dL_restore_8 (by decide) ?_
    refine w_iconst C dL_restore_14 ?_
    exact hR _ _ dL_restore_15
  · rcases hx with rfl | rfl | rfl | rfl
    · exact absurd hxo (by decide)
    · rw [if_neg (by decide), show kE 2 = 1 from rfl] at hR
      refine w_catch C (name := xcls 2) (tableOf []) { startPc := 0, endPc := 8, handlerPc := 11, catchType := 15 } (tableOf []) (by rw [hT]; rfl) (fun z hz => absurd hz List.not_mem_nil) (by decide) (by decide) (by decide +kernel) (hcast _ (by decide)) (fun q => ?_)
      refine w_astore_n C dL_restore_11 (by decide) ?_
      refine w_iconst C dL_restore_12 ?_
      exact hR _ _ dL_restore_13
    · exact absurd hxo (by decide)
    · exact absurd hxo (by decide)
set_option maxHeartbeats 4000000 in
set_option maxRecDepth 100000 in
theorem w_L_count (l : Launch) (hl0 : l.stackTraces = false) {σ : MM} (hM : okM σ) {a1 : Int} (ha1 : inR a1) {xo ro : Int} {σo : MM} (h : X5_count a1 σ = some (xo, ro, σo)) (hxo : xo = 0 ∨ 1 ≤ kA xo) : CtW l yL_count wsL_count { frames := 7, cells := 1, slots := 6, locals := 103 } (fun ad : Nat → Nat => [.ref (ad 0), .int (Int32.ofInt a1), .ref (ad 72)]) σ (kA xo) (if xo = 0 then zup σo 72 0 ro else σo) := by
  refine z_ctW (cc := cL_count) (maxL := 4) hM (by decide) rfl (fun _ => Nat.le_of_ble_eq_true rfl) (@fun p e s m args below meth c D cy ad A Q C hX hNC hT hcast hR => ?_)
  refine w_sub (vs' := [(0, .ref (ad 0)), (1, .int (Int32.ofInt a1)), (2, .ref (ad 72))]) [0, 1, 2] rfl ?_
  refine w_aload_n C dL_count_0 2 rfl ?_
  refine w_iconst C dL_count_1 ?_
  refine w_aload_n C dL_count_2 0 rfl ?_
  refine w_iload_n C dL_count_3 1 rfl ?_
  refine w_callX (np := 1) (ci := 5) (rest := [.int (Int32.ofInt 0), .ref (ad 72)]) C hX (fun hM => c_X5_count l hl0 hM ha1 h) gL_count_X5_count rfl (by decide) ⟨rfl, rfl⟩ ⟨Nat.le_of_ble_eq_true rfl, Nat.le_of_ble_eq_true rfl⟩ rfl layX5 (by decide) rfl rfl rfl (Nat.le_of_ble_eq_true rfl) dL_count_4 ⟨Nat.le_of_ble_eq_true rfl, Nat.le_of_ble_eq_true rfl⟩ (fun e0 hr => ?_) (fun hx => ?_)
  · subst e0
    rw [if_pos rfl, show kA 0 = 0 from rfl] at hR
    have hr : inR ro := hr
    refine w_i2l C hr dL_count_7 ?_
    refine w_lastore C hr dL_count_8 ?_
    refine w_goto C 15 dL_count_9 (by decide) ?_
    refine w_iconst C dL_count_15 ?_
    exact hR _ _ dL_count_16
  · rcases hx with rfl | rfl | rfl | rfl
    · rw [if_neg (by decide), show kA 1 = 1 from rfl] at hR
      refine w_catch C (name := xcls 1) (tableOf []) { startPc := 0, endPc := 9, handlerPc := 12, catchType := 13 } (tableOf []) (by rw [hT]; rfl) (fun z hz => absurd hz List.not_mem_nil) (by decide) (by decide) (by decide +kernel) (hcast _ (by decide)) (fun q => ?_)
      refine w_astore_n C dL_count_12 (by decide) ?_
      refine w_iconst C dL_count_13 ?_
      exact hR _ _ dL_count_14
    · exact absurd hxo (by decide)
    · exact absurd hxo (by decide)
    · exact absurd hxo (by decide)
