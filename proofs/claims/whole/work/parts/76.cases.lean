section ZU
variable {p : Program} {l : Launch} {e : Env} {s : State} {m : MethodId} {args : Array Value} {below : List Frame} {meth : Method} {c : Code} {D : va_G} {cy : Nat → ClassId} {ad : Nat → Nat} {Q : State → Prop} {σ : MM} {k n : Nat}
set_option maxHeartbeats 4000000 in
set_option maxRecDepth 100000 in
theorem law_c0 (C : Cx p s m args meth c code "DoacrossSchedulerLaw" 7 wsL_law D cy (fun q : Nat => s.heap.size ≤ q)) (hX : zSX (fun q : Nat => s.heap.size ≤ q) s s.heap) (hNC : zNC s) (hl0 : l.stackTraces = false) {b L : Nat} {xs : Nat → Int32} (hXs : va_X b L xs s s.heap) (hbl : b < s.heap.size) (hL : L ≤ 1536) (hT : ST σ) {i : Int} (hi : 0 ≤ i ∧ i + 2 < (L : Int)) (hk : k + 1 ≤ 601024) (hn : n + 6 ≤ 7293034) (KK : ∀ σ2 : MM, ST σ2 → GL p l e room_1 s m args below meth c 7 D cy ad (fun q : Nat => s.heap.size ≤ q) Q 1434 [(0, .ref b), (1, .ref (ad 0)), (2, .ref (ad 58)), (3, .ref (ad 72)), (4, .int (Int32.ofInt i))] [] σ2 (k + 1) (n + 6)) : GL p l e room_1 s m args below meth c 7 D cy ad (fun q : Nat => s.heap.size ≤ q) Q 172 [(0, .ref b), (1, .ref (ad 0)), (2, .ref (ad 58)), (3, .ref (ad 72)), (4, .int (Int32.ofInt i))] [] σ k n := by
  have hbA : ¬ (fun q : Nat => s.heap.size ≤ q) b := Nat.not_le.mpr hbl
  have hL2 : L < 1000000 := by omega
  obtain ⟨xo, r, σ1, e1, hxo, hop⟩ := op_append hT (xs (i + 1).toNat).toInt
  obtain ⟨r2, σ2, e2, h58, hr, hT2, h72⟩ := hop (if xo = 0 then zup σ1 72 0 r else σ1) oW
  refine w_aload_n C dL_law_172 1 rfl ?_
  refine w_aload_n C dL_law_173 0 rfl ?_
  refine w_iload C dL_law_174 4 rfl ?_
  refine w_iconst C dL_law_176 ?_
  refine w_iadd C dL_law_177 ?_
  refine w_sld C hXs hbl hbA hL2 (by omega) dL_law_178 ?_
  refine w_aload_n C dL_law_179 3 rfl ?_
  refine w_callW (np := 3) (rest := []) C hX hNC (fun hM => w_L_append l hl0 hM (r32 (xs (i + 1).toNat)) e1 hxo) gL_law_L_append rfl (by decide) ⟨rfl, rfl⟩ ⟨Nat.le_of_ble_eq_true rfl, Nat.le_of_ble_eq_true rfl⟩ rfl rfl rfl (Nat.le_of_ble_eq_true rfl) dL_law_180 ⟨hk, hn⟩ ?_
  refine w_istore (vs' := [(5, .int (Int32.ofInt (kA2 xo))), (0, .ref b), (1, .ref (ad 0)), (2, .ref (ad 58)), (3, .ref (ad 72)), (4, .int (Int32.ofInt i))]) C dL_law_183 (by decide) rfl ?_
  refine w_aload_n C dL_law_185 3 rfl ?_
  refine w_aload_n C dL_law_186 1 rfl ?_
  refine w_iload C dL_law_187 5 rfl ?_
  refine w_iconst C dL_law_189 ?_
  refine w_iadd C dL_law_190 ?_
  refine w_sld C hXs hbl hbA hL2 (by omega) dL_law_191 ?_
  refine w_callI (np := 1) (ci := 6) (q0 := 58) (rest := []) C (fun hM => c_X6_append l hM (r32 (xs (i + 1).toNat)) e2) gL_law_X6_append rfl (by decide) ⟨rfl, rfl⟩ ⟨Nat.le_of_ble_eq_true rfl, Nat.le_of_ble_eq_true rfl⟩ rfl lay58 (by decide) rfl rfl rfl (Nat.le_of_ble_eq_true rfl) dL_law_192 ⟨hk, hn⟩ (fun hrg => ?_)
  refine w_istore (vs' := [(6, .int (Int32.ofInt r2)), (5, .int (Int32.ofInt (kA2 xo))), (0, .ref b), (1, .ref (ad 0)), (2, .ref (ad 58)), (3, .ref (ad 72)), (4, .int (Int32.ofInt i))]) C dL_law_195 (by decide) rfl ?_
  refine w_aload_n C dL_law_197 4 rfl ?_
  refine w_callI (np := 0) (ci := 6) (q0 := 58) (rest := []) (ro := σ2 58 3) C (fun hM => c_X6_thrown l hM rfl) gL_law_X6_thrown rfl (by decide) ⟨rfl, rfl⟩ ⟨Nat.le_of_ble_eq_true rfl, Nat.le_of_ble_eq_true rfl⟩ rfl lay58 (by decide) rfl rfl rfl (Nat.le_of_ble_eq_true rfl) dL_law_198 ⟨hk, hn⟩ (fun _ => ?_)
  refine w_iload C dL_law_201 1 rfl ?_
  refine w_icmp_eq C 208 dL_law_203 (by decide) (by rw [h58]) ?_
  refine w_iload C dL_law_208 1 rfl ?_
  by_cases e0 : xo = 0
  · subst e0
    have h72b : σ2 72 0 = r2 := by rw [h72, if_pos rfl, zup_s, hr rfl]
    refine w_if_ne C 225 dL_law_210 (by decide) (fun q => absurd rfl q) (fun _ => ?_)
    refine w_aload_n C dL_law_213 5 rfl ?_
    refine w_iconst C dL_law_214 ?_
    refine w_laload C dL_law_215 ?_
    refine w_iload C dL_law_216 0 rfl ?_
    refine w_i2l C (rgT_inR hrg) dL_law_218 ?_
    refine w_lcmpE C h72b dL_law_219 ?_
    refine w_if_eq0 C 225 dL_law_220 (by decide) ?_
    refine w_goto C 1434 dL_law_225 (by decide) ?_
    refine w_sub (vs' := [(0, .ref b), (1, .ref (ad 0)), (2, .ref (ad 58)), (3, .ref (ad 72)), (4, .int (Int32.ofInt i))]) [2, 3, 4, 5, 6] rfl ?_
    exact KK σ2 hT2
  · refine w_if_ne C 225 dL_law_210 (by decide) (fun _ => ?_) (fun q => absurd q (z_ne (hxo.resolve_left e0) (kle_A2 xo)))
    refine w_goto C 1434 dL_law_225 (by decide) ?_
    refine w_sub (vs' := [(0, .ref b), (1, .ref (ad 0)), (2, .ref (ad 58)), (3, .ref (ad 72)), (4, .int (Int32.ofInt i))]) [2, 3, 4, 5, 6] rfl ?_
    exact KK σ2 hT2
set_option maxHeartbeats 4000000 in
set_option maxRecDepth 100000 in
theorem law_c1 (C : Cx p s m args meth c code "DoacrossSchedulerLaw" 7 wsL_law D cy (fun q : Nat => s.heap.size ≤ q)) (hX : zSX (fun q : Nat => s.heap.size ≤ q) s s.heap) (hNC : zNC s) (hl0 : l.stackTraces = false) {b L : Nat} {xs : Nat → Int32} (hXs : va_X b L xs s s.heap) (hbl : b < s.heap.size) (hL : L ≤ 1536) (hT : ST σ) {i : Int} (hi : 0 ≤ i ∧ i + 2 < (L : Int)) (hk : k + 1 ≤ 601024) (hn : n + 6 ≤ 7293034) (KK : ∀ σ2 : MM, ST σ2 → GL p l e room_1 s m args below meth c 7 D cy ad (fun q : Nat => s.heap.size ≤ q) Q 1434 [(0, .ref b), (1, .ref (ad 0)), (2, .ref (ad 58)), (3, .ref (ad 72)), (4, .int (Int32.ofInt i))] [] σ2 (k + 1) (n + 6)) : GL p l e room_1 s m args below meth c 7 D cy ad (fun q : Nat => s.heap.size ≤ q) Q 228 [(0, .ref b), (1, .ref (ad 0)), (2, .ref (ad 58)), (3, .ref (ad 72)), (4, .int (Int32.ofInt i))] [] σ k n := by
  have hbA : ¬ (fun q : Nat => s.heap.size ≤ q) b := Nat.not_le.mpr hbl
  have hL2 : L < 1000000 := by omega
  obtain ⟨xo, r, σ1, e1, hxo, hop⟩ := op_execute hT
  obtain ⟨r2, σ2, e2, h58, hr, hT2, h72⟩ := hop (if xo = 0 then zup σ1 72 0 r else σ1) oW
  refine w_aload_n C dL_law_228 1 rfl ?_
  refine w_aload_n C dL_law_229 3 rfl ?_
  refine w_callW (np := 2) (rest := []) C hX hNC (fun hM => w_L_execute l hl0 hM  e1 hxo) gL_law_L_execute rfl (by decide) ⟨rfl, rfl⟩ ⟨Nat.le_of_ble_eq_true rfl, Nat.le_of_ble_eq_true rfl⟩ rfl rfl rfl (Nat.le_of_ble_eq_true rfl) dL_law_230 ⟨hk, hn⟩ ?_
  refine w_istore (vs' := [(5, .int (Int32.ofInt (kA xo))), (0, .ref b), (1, .ref (ad 0)), (2, .ref (ad 58)), (3, .ref (ad 72)), (4, .int (Int32.ofInt i))]) C dL_law_233 (by decide) rfl ?_
  refine w_aload_n C dL_law_235 3 rfl ?_
  refine w_callI (np := 0) (ci := 6) (q0 := 58) (rest := []) C (fun hM => c_X6_execute l hM  e2) gL_law_X6_execute rfl (by decide) ⟨rfl, rfl⟩ ⟨Nat.le_of_ble_eq_true rfl, Nat.le_of_ble_eq_true rfl⟩ rfl lay58 (by decide) rfl rfl rfl (Nat.le_of_ble_eq_true rfl) dL_law_236 ⟨hk, hn⟩ (fun hrg => ?_)
  refine w_istore (vs' := [(6, .int (Int32.ofInt r2)), (5, .int (Int32.ofInt (kA xo))), (0, .ref b), (1, .ref (ad 0)), (2, .ref (ad 58)), (3, .ref (ad 72)), (4, .int (Int32.ofInt i))]) C dL_law_239 (by decide) rfl ?_
  refine w_aload_n C dL_law_241 4 rfl ?_
  refine w_callI (np := 0) (ci := 6) (q0 := 58) (rest := []) (ro := σ2 58 3) C (fun hM => c_X6_thrown l hM rfl) gL_law_X6_thrown rfl (by decide) ⟨rfl, rfl⟩ ⟨Nat.le_of_ble_eq_true rfl, Nat.le_of_ble_eq_true rfl⟩ rfl lay58 (by decide) rfl rfl rfl (Nat.le_of_ble_eq_true rfl) dL_law_242 ⟨hk, hn⟩ (fun _ => ?_)
  refine w_iload C dL_law_245 1 rfl ?_
  refine w_icmp_eq C 252 dL_law_247 (by decide) (by rw [h58]) ?_
  refine w_iload C dL_law_252 1 rfl ?_
  by_cases e0 : xo = 0
  · subst e0
    have h72b : σ2 72 0 = r2 := by rw [h72, if_pos rfl, zup_s, hr rfl]
    refine w_if_ne C 269 dL_law_254 (by decide) (fun q => absurd rfl q) (fun _ => ?_)
    refine w_aload_n C dL_law_257 5 rfl ?_
    refine w_iconst C dL_law_258 ?_
    refine w_laload C dL_law_259 ?_
    refine w_iload C dL_law_260 0 rfl ?_
    refine w_i2l C (rgT_inR hrg) dL_law_262 ?_
    refine w_lcmpE C h72b dL_law_263 ?_
    refine w_if_eq0 C 269 dL_law_264 (by decide) ?_
    refine w_goto C 1434 dL_law_269 (by decide) ?_
    refine w_sub (vs' := [(0, .ref b), (1, .ref (ad 0)), (2, .ref (ad 58)), (3, .ref (ad 72)), (4, .int (Int32.ofInt i))]) [2, 3, 4, 5, 6] rfl ?_
    exact KK σ2 hT2
  · refine w_if_ne C 269 dL_law_254 (by decide) (fun _ => ?_) (fun q => absurd q (z_ne (hxo.resolve_left e0) (kle_A xo)))
    refine w_goto C 1434 dL_law_269 (by decide) ?_
    refine w_sub (vs' := [(0, .ref b), (1, .ref (ad 0)), (2, .ref (ad 58)), (3, .ref (ad 72)), (4, .int (Int32.ofInt i))]) [2, 3, 4, 5, 6] rfl ?_
    exact KK σ2 hT2
set_option maxHeartbeats 4000000 in
set_option maxRecDepth 100000 in
theorem law_c2 (C : Cx p s m args meth c code "DoacrossSchedulerLaw" 7 wsL_law D cy (fun q : Nat => s.heap.size ≤ q)) (hX : zSX (fun q : Nat => s.heap.size ≤ q) s s.heap) (hNC : zNC s) (hl0 : l.stackTraces = false) {b L : Nat} {xs : Nat → Int32} (hXs : va_X b L xs s s.heap) (hbl : b < s.heap.size) (hL : L ≤ 1536) (hT : ST σ) {i : Int} (hi : 0 ≤ i ∧ i + 2 < (L : Int)) (hk : k + 1 ≤ 601024) (hn : n + 6 ≤ 7293034) (KK : ∀ σ2 : MM, ST σ2 → GL p l e room_1 s m args below meth c 7 D cy ad (fun q : Nat => s.heap.size ≤ q) Q 1434 [(0, .ref b), (1, .ref (ad 0)), (2, .ref (ad 58)), (3, .ref (ad 72)), (4, .int (Int32.ofInt i))] [] σ2 (k + 1) (n + 6)) : GL p l e room_1 s m args below meth c 7 D cy ad (fun q : Nat => s.heap.size ≤ q) Q 272 [(0, .ref b), (1, .ref (ad 0)), (2, .ref (ad 58)), (3, .ref (ad 72)), (4, .int (Int32.ofInt i))] [] σ k n := by
  have hbA : ¬ (fun q : Nat => s.heap.size ≤ q) b := Nat.not_le.mpr hbl
  have hL2 : L < 1000000 := by omega
  obtain ⟨r, σ1, σ2, e1, e2, hT2⟩ := op_errorPosition hT
  obtain ⟨r0, e3, e4⟩ := Option.map_eq_some_iff.mp e1
  obtain ⟨rfl, rfl⟩ := Prod.mk.inj e4
  refine w_aload_n C dL_law_272 1 rfl ?_
  refine w_callI (np := 0) (ci := 5) (q0 := 0) (rest := []) C (fun hM => c_X5_errorPosition l hM e3) gL_law_X5_errorPosition rfl (by decide) ⟨rfl, rfl⟩ ⟨Nat.le_of_ble_eq_true rfl, Nat.le_of_ble_eq_true rfl⟩ rfl layX5 (by decide) rfl rfl rfl (Nat.le_of_ble_eq_true rfl) dL_law_273 ⟨by show k ≤ 601024; omega, by show n ≤ 7293034; omega⟩ (fun _ => ?_)
  refine w_aload_n C dL_law_276 2 rfl ?_
  refine w_callI (np := 0) (ci := 6) (q0 := 58) (rest := [.int (Int32.ofInt r0)]) C (fun hM => c_X6_errorPosition l hM e2) gL_law_X6_errorPosition rfl (by decide) ⟨rfl, rfl⟩ ⟨Nat.le_of_ble_eq_true rfl, Nat.le_of_ble_eq_true rfl⟩ rfl lay58 (by decide) rfl rfl rfl (Nat.le_of_ble_eq_true rfl) dL_law_277 ⟨by show k ≤ 601024; omega, by show n ≤ 7293034; omega⟩ (fun _ => ?_)
  refine w_icmp_eq C 1434 dL_law_280 (by decide) rfl ?_
  exact w_widen (by omega) (by omega) (KK σ2 hT2)
set_option maxHeartbeats 4000000 in
set_option maxRecDepth 100000 in
theorem law_c3 (C : Cx p s m args meth c code "DoacrossSchedulerLaw" 7 wsL_law D cy (fun q : Nat => s.heap.size ≤ q)) (hX : zSX (fun q : Nat => s.heap.size ≤ q) s s.heap) (hNC : zNC s) (hl0 : l.stackTraces = false) {b L : Nat} {xs : Nat → Int32} (hXs : va_X b L xs s s.heap) (hbl : b < s.heap.size) (hL : L ≤ 1536) (hT : ST σ) {i : Int} (hi : 0 ≤ i ∧ i + 2 < (L : Int)) (hk : k + 1 ≤ 601024) (hn : n + 6 ≤ 7293034) (KK : ∀ σ2 : MM, ST σ2 → GL p l e room_1 s m args below meth c 7 D cy ad (fun q : Nat => s.heap.size ≤ q) Q 1434 [(0, .ref b), (1, .ref (ad 0)), (2, .ref (ad 58)), (3, .ref (ad 72)), (4, .int (Int32.ofInt i))] [] σ2 (k + 1) (n + 6)) : GL p l e room_1 s m args below meth c 7 D cy ad (fun q : Nat => s.heap.size ≤ q) Q 285 [(0, .ref b), (1, .ref (ad 0)), (2, .ref (ad 58)), (3, .ref (ad 72)), (4, .int (Int32.ofInt i))] [] σ k n := by
  have hbA : ¬ (fun q : Nat => s.heap.size ≤ q) b := Nat.not_le.mpr hbl
  have hL2 : L < 1000000 := by omega
  obtain ⟨xo, r, σ1, e1, hxo, hop⟩ := op_setCost hT (xs (i + 1).toNat).toInt (xs (i + 2).toNat).toInt
  obtain ⟨r2, σ2, e2, h58, hr, hT2, h72⟩ := hop (if xo = 0 then zup σ1 72 0 r else σ1) oW
  refine w_aload_n C dL_law_285 1 rfl ?_
  refine w_aload_n C dL_law_286 0 rfl ?_
  refine w_iload C dL_law_287 4 rfl ?_
  refine w_iconst C dL_law_289 ?_
  refine w_iadd C dL_law_290 ?_
  refine w_sld C hXs hbl hbA hL2 (by omega) dL_law_291 ?_
  refine w_aload_n C dL_law_292 0 rfl ?_
  refine w_iload C dL_law_293 4 rfl ?_
  refine w_iconst C dL_law_295 ?_
  refine w_iadd C dL_law_296 ?_
  refine w_sld C hXs hbl hbA hL2 (by omega) dL_law_297 ?_
  refine w_aload_n C dL_law_298 3 rfl ?_
  refine w_callW (np := 4) (rest := []) C hX hNC (fun hM => w_L_setCost l hl0 hM (r32 (xs (i + 1).toNat)) (r32 (xs (i + 2).toNat)) e1 hxo) gL_law_L_setCost rfl (by decide) ⟨rfl, rfl⟩ ⟨Nat.le_of_ble_eq_true rfl, Nat.le_of_ble_eq_true rfl⟩ rfl rfl rfl (Nat.le_of_ble_eq_true rfl) dL_law_299 ⟨hk, hn⟩ ?_
  refine w_istore (vs' := [(5, .int (Int32.ofInt (kB2 xo))), (0, .ref b), (1, .ref (ad 0)), (2, .ref (ad 58)), (3, .ref (ad 72)), (4, .int (Int32.ofInt i))]) C dL_law_302 (by decide) rfl ?_
  refine w_aload_n C dL_law_304 3 rfl ?_
  refine w_aload_n C dL_law_305 1 rfl ?_
  refine w_iload C dL_law_306 5 rfl ?_
  refine w_iconst C dL_law_308 ?_
  refine w_iadd C dL_law_309 ?_
  refine w_sld C hXs hbl hbA hL2 (by omega) dL_law_310 ?_
  refine w_aload_n C dL_law_311 1 rfl ?_
  refine w_iload C dL_law_312 5 rfl ?_
  refine w_iconst C dL_law_314 ?_
  refine w_iadd C dL_law_315 ?_
  refine w_sld C hXs hbl hbA hL2 (by omega) dL_law_316 ?_
  refine w_callI (np := 2) (ci := 6) (q0 := 58) (rest := []) C (fun hM => c_X6_setCost l hM (r32 (xs (i + 1).toNat)) (r32 (xs (i + 2).toNat)) e2) gL_law_X6_setCost rfl (by decide) ⟨rfl, rfl⟩ ⟨Nat.le_of_ble_eq_true rfl, Nat.le_of_ble_eq_true rfl⟩ rfl lay58 (by decide) rfl rfl rfl (Nat.le_of_ble_eq_true rfl) dL_law_317 ⟨hk, hn⟩ (fun hrg => ?_)
  refine w_istore (vs' := [(6, .int (Int32.ofInt r2)), (5, .int (Int32.ofInt (kB2 xo))), (0, .ref b), (1, .ref (ad 0)), (2, .ref (ad 58)), (3, .ref (ad 72)), (4, .int (Int32.ofInt i))]) C dL_law_320 (by decide) rfl ?_
  refine w_aload_n C dL_law_322 4 rfl ?_
  refine w_callI (np := 0) (ci := 6) (q0 := 58) (rest := []) (ro := σ2 58 3) C (fun hM => c_X6_thrown l hM rfl) gL_law_X6_thrown rfl (by decide) ⟨rfl, rfl⟩ ⟨Nat.le_of_ble_eq_true rfl, Nat.le_of_ble_eq_true rfl⟩ rfl lay58 (by decide) rfl rfl rfl (Nat.le_of_ble_eq_true rfl) dL_law_323 ⟨hk, hn⟩ (fun _ => ?_)
  refine w_iload C dL_law_326 1 rfl ?_
  refine w_icmp_eq C 333 dL_law_328 (by decide) (by rw [h58]) ?_
  refine w_iload C dL_law_333 1 rfl ?_
  by_cases e0 : xo = 0
  · subst e0
    have h72b : σ2 72 0 = r2 := by rw [h72, if_pos rfl, zup_s, hr rfl]
    refine w_if_ne C 350 dL_law_335 (by decide) (fun q => absurd rfl q) (fun _ => ?_)
    refine w_aload_n C dL_law_338 5 rfl ?_
    refine w_iconst C dL_law_339 ?_
    refine w_laload C dL_law_340 ?_
    refine w_iload C dL_law_341 0 rfl ?_
    refine w_i2l C (rgT_inR hrg) dL_law_343 ?_
    refine w_lcmpE C h72b dL_law_344 ?_
    refine w_if_eq0 C 350 dL_law_345 (by decide) ?_
    refine w_goto C 1434 dL_law_350 (by decide) ?_
    refine w_sub (vs' := [(0, .ref b), (1, .ref (ad 0)), (2, .ref (ad 58)), (3, .ref (ad 72)), (4, .int (Int32.ofInt i))]) [2, 3, 4, 5, 6] rfl ?_
    exact KK σ2 hT2
  · refine w_if_ne C 350 dL_law_335 (by decide) (fun _ => ?_) (fun q => absurd q (z_ne (hxo.resolve_left e0) (kle_B2 xo)))
    refine w_goto C 1434 dL_law_350 (by decide) ?_
    refine w_sub (vs' := [(0, .ref b), (1, .ref (ad 0)), (2, .ref (ad 58)), (3, .ref (ad 72)), (4, .int (Int32.ofInt i))]) [2, 3, 4, 5, 6] rfl ?_
    exact KK σ2 hT2
set_option maxHeartbeats 4000000 in
set_option maxRecDepth 100000 in
theorem law_c4 (C : Cx p s m args meth c code "DoacrossSchedulerLaw" 7 wsL_law D cy (fun q : Nat => s.heap.size ≤ q)) (hX : zSX (fun q : Nat => s.heap.size ≤ q) s s.heap) (hNC : zNC s) (hl0 : l.stackTraces = false) {b L : Nat} {xs : Nat → Int32} (hXs : va_X b L xs s s.heap) (hbl : b < s.heap.size) (hL : L ≤ 1536) (hT : ST σ) {i : Int} (hi : 0 ≤ i ∧ i + 2 < (L : Int)) (hk : k + 1 ≤ 601024) (hn : n + 6 ≤ 7293034) (KK : ∀ σ2 : MM, ST σ2 → GL p l e room_1 s m args below meth c 7 D cy ad (fun q : Nat => s.heap.size ≤ q) Q 1434 [(0, .ref b), (1, .ref (ad 0)), (2, .ref (ad 58)), (3, .ref (ad 72)), (4, .int (Int32.ofInt i))] [] σ2 (k + 1) (n + 6)) : GL p l e room_1 s m args below meth c 7 D cy ad (fun q : Nat => s.heap.size ≤ q) Q 353 [(0, .ref b), (1, .ref (ad 0)), (2, .ref (ad 58)), (3, .ref (ad 72)), (4, .int (Int32.ofInt i))] [] σ k n := by
  have hbA : ¬ (fun q : Nat => s.heap.size ≤ q) b := Nat.not_le.mpr hbl
  have hL2 : L < 1000000 := by omega
  obtain ⟨xo, r, σ1, e1, hxo, hop⟩ := op_set hT (xs (i + 1).toNat).toInt (xs (i + 2).toNat).toInt
  obtain ⟨r2, σ2, e2, h58, hr, hT2, h72⟩ := hop (if xo = 0 then zup σ1 72 0 r else σ1) oW
  refine w_aload_n C dL_law_353 1 rfl ?_
  refine w_aload_n C dL_law_354 0 rfl ?_
  refine w_iload C dL_law_355 4 rfl ?_
  refine w_iconst C dL_law_357 ?_
  refine w_iadd C dL_law_358 ?_
  refine w_sld C hXs hbl hbA hL2 (by omega) dL_law_359 ?_
  refine w_aload_n C dL_law_360 0 rfl ?_
  refine w_iload C dL_law_361 4 rfl ?_
  refine w_iconst C dL_law_363 ?_
  refine w_iadd C dL_law_364 ?_
  refine w_sld C hXs hbl hbA hL2 (by omega) dL_law_365 ?_
  refine w_aload_n C dL_law_366 3 rfl ?_
  refine w_callW (np := 4) (rest := []) C hX hNC (fun hM => w_L_set l hl0 hM (r32 (xs (i + 1).toNat)) (r32 (xs (i + 2).toNat)) e1 hxo) gL_law_L_set rfl (by decide) ⟨rfl, rfl⟩ ⟨Nat.le_of_ble_eq_true rfl, Nat.le_of_ble_eq_true rfl⟩ rfl rfl rfl (Nat.le_of_ble_eq_true rfl) dL_law_367 ⟨hk, hn⟩ ?_
  refine w_istore (vs' := [(5, .int (Int32.ofInt (kA xo))), (0, .ref b), (1, .ref (ad 0)), (2, .ref (ad 58)), (3, .ref (ad 72)), (4, .int (Int32.ofInt i))]) C dL_law_370 (by decide) rfl ?_
  refine w_aload_n C dL_law_372 3 rfl ?_
  refine w_aload_n C dL_law_373 1 rfl ?_
  refine w_iload C dL_law_374 5 rfl ?_
  refine w_iconst C dL_law_376 ?_
  refine w_iadd C dL_law_377 ?_
  refine w_sld C hXs hbl hbA hL2 (by omega) dL_law_378 ?_
  refine w_aload_n C dL_law_379 1 rfl ?_
  refine w_iload C dL_law_380 5 rfl ?_
  refine w_iconst C dL_law_382 ?_
  refine w_iadd C dL_law_383 ?_
  refine w_sld C hXs hbl hbA hL2 (by omega) dL_law_384 ?_
  refine w_callI (np := 2) (ci := 6) (q0 := 58) (rest := []) C (fun hM => c_X6_set l hM (r32 (xs (i + 1).toNat)) (r32 (xs (i + 2).toNat)) e2) gL_law_X6_set rfl (by decide) ⟨rfl, rfl⟩ ⟨Nat.le_of_ble_eq_true rfl, Nat.le_of_ble_eq_true rfl⟩ rfl lay58 (by decide) rfl rfl rfl (Nat.le_of_ble_eq_true rfl) dL_law_385 ⟨hk, hn⟩ (fun hrg => ?_)
  refine w_istore (vs' := [(6, .int (Int32.ofInt r2)), (5, .int (Int32.ofInt (kA xo))), (0, .ref b), (1, .ref (ad 0)), (2, .ref (ad 58)), (3, .ref (ad 72)), (4, .int (Int32.ofInt i))]) C dL_law_388 (by decide) rfl ?_
  refine w_aload_n C dL_law_390 4 rfl ?_
  refine w_callI (np := 0) (ci := 6) (q0 := 58) (rest := []) (ro := σ2 58 3) C (fun hM => c_X6_thrown l hM rfl) gL_law_X6_thrown rfl (by decide) ⟨rfl, rfl⟩ ⟨Nat.le_of_ble_eq_true rfl, Nat.le_of_ble_eq_true rfl⟩ rfl lay58 (by decide) rfl rfl rfl (Nat.le_of_ble_eq_true rfl) dL_law_391 ⟨hk, hn⟩ (fun _ => ?_)
  refine w_iload C dL_law_394 1 rfl ?_
  refine w_icmp_eq C 401 dL_law_396 (by decide) (by rw [h58]) ?_
  refine w_iload C dL_law_401 1 rfl ?_
  by_cases e0 : xo = 0
  · subst e0
    have h72b : σ2 72 0 = r2 := by rw [h72, if_pos rfl, zup_s, hr rfl]
    refine w_if_ne C 418 dL_law_403 (by decide) (fun q => absurd rfl q) (fun _ => ?_)
    refine w_aload_n C dL_law_406 5 rfl ?_
    refine w_iconst C dL_law_407 ?_
    refine w_laload C dL_law_408 ?_
    refine w_iload C dL_law_409 0 rfl ?_
    refine w_i2l C (rgT_inR hrg) dL_law_411 ?_
    refine w_lcmpE C h72b dL_law_412 ?_
    refine w_if_eq0 C 418 dL_law_413 (by decide) ?_
    refine w_goto C 1434 dL_law_418 (by decide) ?_
    refine w_sub (vs' := [(0, .ref b), (1, .ref (ad 0)), (2, .ref (ad 58)), (3, .ref (ad 72)), (4, .int (Int32.ofInt i))]) [2, 3, 4, 5, 6] rfl ?_
    exact KK σ2 hT2
  · refine w_if_ne C 418 dL_law_403 (by decide) (fun _ => ?_) (fun q => absurd q (z_ne (hxo.resolve_left e0) (kle_A xo)))
    refine w_goto C 1434 dL_law_418 (by decide) ?_
    refine w_sub (vs' := [(0, .ref b), (1, .ref (ad 0)), (2, .ref (ad 58)), (3, .ref (ad 72)), (4, .int (Int32.ofInt i))]) [2, 3, 4, 5, 6] rfl ?_
    exact KK σ2 hT2
set_option maxHeartbeats 4000000 in
set_option maxRecDepth 100000 in
theorem law_c5 (C : Cx p s m args meth c code "DoacrossSchedulerLaw" 7 wsL_law D cy (fun q : Nat => s.heap.size ≤ q)) (hX : zSX (fun q : Nat => s.heap.size ≤ q) s s.heap) (hNC : zNC s) (hl0 : l.stackTraces = false) {b L : Nat} {xs : Nat → Int32} (hXs : va_X b L xs s s.heap) (hbl : b < s.heap.size) (hL : L ≤ 1536) (hT : ST σ) {i : Int} (hi : 0 ≤ i ∧ i + 2 < (L : Int)) (hk : k + 1 ≤ 601024) (hn : n + 6 ≤ 7293034) (KK : ∀ σ2 : MM, ST σ2 → GL p l e room_1 s m args below meth c 7 D cy ad (fun q : Nat => s.heap.size ≤ q) Q 1434 [(0, .ref b), (1, .ref (ad 0)), (2, .ref (ad 58)), (3, .ref (ad 72)), (4, .int (Int32.ofInt i))] [] σ2 (k + 1) (n + 6)) : GL p l e room_1 s m args below meth c 7 D cy ad (fun q : Nat => s.heap.size ≤ q) Q 421 [(0, .ref b), (1, .ref (ad 0)), (2, .ref (ad 58)), (3, .ref (ad 72)), (4, .int (Int32.ofInt i))] [] σ k n := by
  have hbA : ¬ (fun q : Nat => s.heap.size ≤ q) b := Nat.not_le.mpr hbl
  have hL2 : L < 1000000 := by omega
  obtain ⟨xo, r, σ1, e1, hxo, hop⟩ := op_exchange hT (xs (i + 1).toNat).toInt
  obtain ⟨r2, σ2, e2, h58, hr, hT2, h72⟩ := hop (if xo = 0 then zup σ1 72 0 r else σ1) oW
  refine w_aload_n C dL_law_421 1 rfl ?_
  refine w_aload_n C dL_law_422 0 rfl ?_
  refine w_iload C dL_law_423 4 rfl ?_
  refine w_iconst C dL_law_425 ?_
  refine w_iadd C dL_law_426 ?_
  refine w_sld C hXs hbl hbA hL2 (by omega) dL_law_427 ?_
  refine w_aload_n C dL_law_428 3 rfl ?_
  refine w_callW (np := 3) (rest := []) C hX hNC (fun hM => w_L_exchange l hl0 hM (r32 (xs (i + 1).toNat)) e1 hxo) gL_law_L_exchange rfl (by decide) ⟨rfl, rfl⟩ ⟨Nat.le_of_ble_eq_true rfl, Nat.le_of_ble_eq_true rfl⟩ rfl rfl rfl (Nat.le_of_ble_eq_true rfl) dL_law_429 ⟨hk, hn⟩ ?_
  refine w_istore (vs' := [(5, .int (Int32.ofInt (kC xo))), (0, .ref b), (1, .ref (ad 0)), (2, .ref (ad 58)), (3, .ref (ad 72)), (4, .int (Int32.ofInt i))]) C dL_law_432 (by decide) rfl ?_
  refine w_aload_n C dL_law_434 3 rfl ?_
  refine w_aload_n C dL_law_435 1 rfl ?_
  refine w_iload C dL_law_436 5 rfl ?_
  refine w_iconst C dL_law_438 ?_
  refine w_iadd C dL_law_439 ?_
  refine w_sld C hXs hbl hbA hL2 (by omega) dL_law_440 ?_
  refine w_callI (np := 1) (ci := 6) (q0 := 58) (rest := []) C (fun hM => c_X6_exchange l hM (r32 (xs (i + 1).toNat)) e2) gL_law_X6_exchange rfl (by decide) ⟨rfl, rfl⟩ ⟨Nat.le_of_ble_eq_true rfl, Nat.le_of_ble_eq_true rfl⟩ rfl lay58 (by decide) rfl rfl rfl (Nat.le_of_ble_eq_true rfl) dL_law_441 ⟨hk, hn⟩ (fun hrg => ?_)
  refine w_istore (vs' := [(6, .int (Int32.ofInt r2)), (5, .int (Int32.ofInt (kC xo))), (0, .ref b), (1, .ref (ad 0)), (2, .ref (ad 58)), (3, .ref (ad 72)), (4, .int (Int32.ofInt i))]) C dL_law_444 (by decide) rfl ?_
  refine w_aload_n C dL_law_446 4 rfl ?_
  refine w_callI (np := 0) (ci := 6) (q0 := 58) (rest := []) (ro := σ2 58 3) C (fun hM => c_X6_thrown l hM rfl) gL_law_X6_thrown rfl (by decide) ⟨rfl, rfl⟩ ⟨Nat.le_of_ble_eq_true rfl, Nat.le_of_ble_eq_true rfl⟩ rfl lay58 (by decide) rfl rfl rfl (Nat.le_of_ble_eq_true rfl) dL_law_447 ⟨hk, hn⟩ (fun _ => ?_)
  refine w_iload C dL_law_450 1 rfl ?_
  refine w_icmp_eq C 457 dL_law_452 (by decide) (by rw [h58]) ?_
  refine w_iload C dL_law_457 1 rfl ?_
  by_cases e0 : xo = 0
  · subst e0
    have h72b : σ2 72 0 = r2 := by rw [h72, if_pos rfl, zup_s, hr rfl]
    refine w_if_ne C 474 dL_law_459 (by decide) (fun q => absurd rfl q) (fun _ => ?_)
    refine w_aload_n C dL_law_462 5 rfl ?_
    refine w_iconst C dL_law_463 ?_
    refine w_laload C dL_law_464 ?_
    refine w_iload C dL_law_465 0 rfl ?_
    refine w_i2l C (rgT_inR hrg) dL_law_467 ?_
    refine w_lcmpE C h72b dL_law_468 ?_
    refine w_if_eq0 C 474 dL_law_469 (by decide) ?_
    refine w_goto C 1434 dL_law_474 (by decide) ?_
    refine w_sub (vs' := [(0, .ref b), (1, .ref (ad 0)), (2, .ref (ad 58)), (3, .ref (ad 72)), (4, .int (Int32.ofInt i))]) [2, 3, 4, 5, 6] rfl ?_
    exact KK σ2 hT2
  · refine w_if_ne C 474 dL_law_459 (by decide) (fun _ => ?_) (fun q => absurd q (z_ne (hxo.resolve_left e0) (kle_C xo)))
    refine w_goto C 1434 dL_law_474 (by decide) ?_
    refine w_sub (vs' := [(0, .ref b), (1, .ref (ad 0)), (2, .ref (ad 58)), (3, .ref (ad 72)), (4, .int (Int32.ofInt i))]) [2, 3, 4, 5, 6] rfl ?_
    exact KK σ2 hT2
set_option maxHeartbeats 4000000 in
set_option maxRecDepth 100000 in
theorem law_c6 (C : Cx p s m args meth c code "DoacrossSchedulerLaw" 7 wsL_law D cy (fun q : Nat => s.heap.size ≤ q)) (hX : zSX (fun q : Nat => s.heap.size ≤ q) s s.heap) (hNC : zNC s) (hl0 : l.stackTraces = false) {b L : Nat} {xs : Nat → Int32} (hXs : va_X b L xs s s.heap) (hbl : b < s.heap.size) (hL : L ≤ 1536) (hT : ST σ) {i : Int} (hi : 0 ≤ i ∧ i + 2 < (L : Int)) (hk : k + 1 ≤ 601024) (hn : n + 6 ≤ 7293034) (KK : ∀ σ2 : MM, ST σ2 → GL p l e room_1 s m args below meth c 7 D cy ad (fun q : Nat => s.heap.size ≤ q) Q 1434 [(0, .ref b), (1, .ref (ad 0)), (2, .ref (ad 58)), (3, .ref (ad 72)), (4, .int (Int32.ofInt i))] [] σ2 (k + 1) (n + 6)) : GL p l e room_1 s m args below meth c 7 D cy ad (fun q : Nat => s.heap.size ≤ q) Q 477 [(0, .ref b), (1, .ref (ad 0)), (2, .ref (ad 58)), (3, .ref (ad 72)), (4, .int (Int32.ofInt i))] [] σ k n := by
  have hbA : ¬ (fun q : Nat => s.heap.size ≤ q) b := Nat.not_le.mpr hbl
  have hL2 : L < 1000000 := by omega
  obtain ⟨xo, r, σ1, e1, hxo, hop⟩ := op_remove hT (xs (i + 1).toNat).toInt
  obtain ⟨r2, σ2, e2, h58, hr, hT2, h72⟩ := hop (if xo = 0 then zup σ1 72 0 r else σ1) oW
  refine w_aload_n C dL_law_477 1 rfl ?_
  refine w_aload_n C dL_law_478 0 rfl ?_
  refine w_iload C dL_law_479 4 rfl ?_
  refine w_iconst C dL_law_481 ?_
  refine w_iadd C dL_law_482 ?_
  refine w_sld C hXs hbl hbA hL2 (by omega) dL_law_483 ?_
  refine w_aload_n C dL_law_484 3 rfl ?_
  refine w_callW (np := 3) (rest := []) C hX hNC (fun hM => w_L_remove l hl0 hM (r32 (xs (i + 1).toNat)) e1 hxo) gL_law_L_remove rfl (by decide) ⟨rfl, rfl⟩ ⟨Nat.le_of_ble_eq_true rfl, Nat.le_of_ble_eq_true rfl⟩ rfl rfl rfl (Nat.le_of_ble_eq_true rfl) dL_law_485 ⟨hk, hn⟩ ?_
  refine w_istore (vs' := [(5, .int (Int32.ofInt (kF xo))), (0, .ref b), (1, .ref (ad 0)), (2, .ref (ad 58)), (3, .ref (ad 72)), (4, .int (Int32.ofInt i))]) C dL_law_488 (by decide) rfl ?_
  refine w_aload_n C dL_law_490 3 rfl ?_
  refine w_aload_n C dL_law_491 1 rfl ?_
  refine w_iload C dL_law_492 5 rfl ?_
  refine w_iconst C dL_law_494 ?_
  refine w_iadd C dL_law_495 ?_
  refine w_sld C hXs hbl hbA hL2 (by omega) dL_law_496 ?_
  refine w_callI (np := 1) (ci := 6) (q0 := 58) (rest := []) C (fun hM => c_X6_remove l hM (r32 (xs (i + 1).toNat)) e2) gL_law_X6_remove rfl (by decide) ⟨rfl, rfl⟩ ⟨Nat.le_of_ble_eq_true rfl, Nat.le_of_ble_eq_true rfl⟩ rfl lay58 (by decide) rfl rfl rfl (Nat.le_of_ble_eq_true rfl) dL_law_497 ⟨hk, hn⟩ (fun hrg => ?_)
  refine w_istore (vs' := [(6, .int (Int32.ofInt r2)), (5, .int (Int32.ofInt (kF xo))), (0, .ref b), (1, .ref (ad 0)), (2, .ref (ad 58)), (3, .ref (ad 72)), (4, .int (Int32.ofInt i))]) C dL_law_500 (by decide) rfl ?_
  refine w_aload_n C dL_law_502 4 rfl ?_
  refine w_callI (np := 0) (ci := 6) (q0 := 58) (rest := []) (ro := σ2 58 3) C (fun hM => c_X6_thrown l hM rfl) gL_law_X6_thrown rfl (by decide) ⟨rfl, rfl⟩ ⟨Nat.le_of_ble_eq_true rfl, Nat.le_of_ble_eq_true rfl⟩ rfl lay58 (by decide) rfl rfl rfl (Nat.le_of_ble_eq_true rfl) dL_law_503 ⟨hk, hn⟩ (fun _ => ?_)
  refine w_iload C dL_law_506 1 rfl ?_
  refine w_icmp_eq C 513 dL_law_508 (by decide) (by rw [h58]) ?_
  refine w_iload C dL_law_513 1 rfl ?_
  by_cases e0 : xo = 0
  · subst e0
    have h72b : σ2 72 0 = r2 := by rw [h72, if_pos rfl, zup_s, hr rfl]
    refine w_if_ne C 530 dL_law_515 (by decide) (fun q => absurd rfl q) (fun _ => ?_)
    refine w_aload_n C dL_law_518 5 rfl ?_
    refine w_iconst C dL_law_519 ?_
    refine w_laload C dL_law_520 ?_
    refine w_iload C dL_law_521 0 rfl ?_
    refine w_i2l C (rgT_inR hrg) dL_law_523 ?_
    refine w_lcmpE C h72b dL_law_524 ?_
    refine w_if_eq0 C 530 dL_law_525 (by decide) ?_
    refine w_goto C 1434 dL_law_530 (by decide) ?_
    refine w_sub (vs' := [(0, .ref b), (1, .ref (ad 0)), (2, .ref (ad 58)), (3, .ref (ad 72)), (4, .int (Int32.ofInt i))]) [2, 3, 4, 5, 6] rfl ?_
    exact KK σ2 hT2
  · refine w_if_ne C 530 dL_law_515 (by decide) (fun _ => ?_) (fun q => absurd q (z_ne (hxo.resolve_left e0) (kle_F xo)))
    refine w_goto C 1434 dL_law_530 (by decide) ?_
    refine w_sub (vs' := [(0, .ref b), (1, .ref (ad 0)), (2, .ref (ad 58)), (3, .ref (ad 72)), (4, .int (Int32.ofInt i))]) [2, 3, 4, 5, 6] rfl ?_
    exact KK σ2 hT2
set_option maxHeartbeats 4000000 in
set_option maxRecDepth 100000 in
theorem law_c7 (C : Cx p s m args meth c code "DoacrossSchedulerLaw" 7 wsL_law D cy (fun q : Nat => s.heap.size ≤ q)) (hX : zSX (fun q : Nat => s.heap.size ≤ q) s s.heap) (hNC : zNC s) (hl0 : l.stackTraces = false) {b L : Nat} {xs : Nat → Int32} (hXs : va_X b L xs s s.heap) (hbl : b < s.heap.size) (hL : L ≤ 1536) (hT : ST σ) {i : Int} (hi : 0 ≤ i ∧ i + 2 < (L : Int)) (hk : k + 1 ≤ 601024) (hn : n + 6 ≤ 7293034) (KK : ∀ σ2 : MM, ST σ2 → GL p l e room_1 s m args below meth c 7 D cy ad (fun q : Nat => s.heap.size ≤ q) Q 1434 [(0, .ref b), (1, .ref (ad 0)), (2, .ref (ad 58)), (3, .ref (ad 72)), (4, .int (Int32.ofInt i))] [] σ2 (k + 1) (n + 6)) : GL p l e room_1 s m args below meth c 7 D cy ad (fun q : Nat => s.heap.size ≤ q) Q 533 [(0, .ref b), (1, .ref (ad 0)), (2, .ref (ad 58)), (3, .ref (ad 72)), (4, .int (Int32.ofInt i))] [] σ k n := by
  have hbA : ¬ (fun q : Nat => s.heap.size ≤ q) b := Nat.not_le.mpr hbl
  have hL2 : L < 1000000 := by omega
  obtain ⟨xo, r, σ1, e1, hxo, hop⟩ := op_statement hT (xs (i + 1).toNat).toInt (xs (i + 2).toNat).toInt
  obtain ⟨r2, σ2, e2, h58, hr, hT2, h72⟩ := hop (if xo = 0 then zup σ1 72 0 r else σ1) oW
  refine w_aload_n C dL_law_533 1 rfl ?_
  refine w_aload_n C dL_law_534 0 rfl ?_
  refine w_iload C dL_law_535 4 rfl ?_
  refine w_iconst C dL_law_537 ?_
  refine w_iadd C dL_law_538 ?_
  refine w_sld C hXs hbl hbA hL2 (by omega) dL_law_539 ?_
  refine w_aload_n C dL_law_540 0 rfl ?_
  refine w_iload C dL_law_541 4 rfl ?_
  refine w_iconst C dL_law_543 ?_
  refine w_iadd C dL_law_544 ?_
  refine w_sld C hXs hbl hbA hL2 (by omega) dL_law_545 ?_
  refine w_aload_n C dL_law_546 3 rfl ?_
  refine w_callW (np := 4) (rest := []) C hX hNC (fun hM => w_L_statement l hl0 hM (r32 (xs (i + 1).toNat)) (r32 (xs (i + 2).toNat)) e1 hxo) gL_law_L_statement rfl (by decide) ⟨rfl, rfl⟩ ⟨Nat.le_of_ble_eq_true rfl, Nat.le_of_ble_eq_true rfl⟩ rfl rfl rfl (Nat.le_of_ble_eq_true rfl) dL_law_547 ⟨hk, hn⟩ ?_
  refine w_istore (vs' := [(5, .int (Int32.ofInt (kB2 xo))), (0, .ref b), (1, .ref (ad 0)), (2, .ref (ad 58)), (3, .ref (ad 72)), (4, .int (Int32.ofInt i))]) C dL_law_550 (by decide) rfl ?_
  refine w_aload_n C dL_law_552 3 rfl ?_
  refine w_aload_n C dL_law_553 1 rfl ?_
  refine w_iload C dL_law_554 5 rfl ?_
  refine w_iconst C dL_law_556 ?_
  refine w_iadd C dL_law_557 ?_
  refine w_sld C hXs hbl hbA hL2 (by omega) dL_law_558 ?_
  refine w_aload_n C dL_law_559 1 rfl ?_
  refine w_iload C dL_law_560 5 rfl ?_
  refine w_iconst C dL_law_562 ?_
  refine w_iadd C dL_law_563 ?_
  refine w_sld C hXs hbl hbA hL2 (by omega) dL_law_564 ?_
  refine w_callI (np := 2) (ci := 6) (q0 := 58) (rest := []) C (fun hM => c_X6_statement l hM (r32 (xs (i + 1).toNat)) (r32 (xs (i + 2).toNat)) e2) gL_law_X6_statement rfl (by decide) ⟨rfl, rfl⟩ ⟨Nat.le_of_ble_eq_true rfl, Nat.le_of_ble_eq_true rfl⟩ rfl lay58 (by decide) rfl rfl rfl (Nat.le_of_ble_eq_true rfl) dL_law_565 ⟨hk, hn⟩ (fun hrg => ?_)
  refine w_istore (vs' := [(6, .int (Int32.ofInt r2)), (5, .int (Int32.ofInt (kB2 xo))), (0, .ref b), (1, .ref (ad 0)), (2, .ref (ad 58)), (3, .ref (ad 72)), (4, .int (Int32.ofInt i))]) C dL_law_568 (by decide) rfl ?_
  refine w_aload_n C dL_law_570 4 rfl ?_
  refine w_callI (np := 0) (ci := 6) (q0 := 58) (rest := []) (ro := σ2 58 3) C (fun hM => c_X6_thrown l hM rfl) gL_law_X6_thrown rfl (by decide) ⟨rfl, rfl⟩ ⟨Nat.le_of_ble_eq_true rfl, Nat.le_of_ble_eq_true rfl⟩ rfl lay58 (by decide) rfl rfl rfl (Nat.le_of_ble_eq_true rfl) dL_law_571 ⟨hk, hn⟩ (fun _ => ?_)
  refine w_iload C dL_law_574 1 rfl ?_
  refine w_icmp_eq C 581 dL_law_576 (by decide) (by rw [h58]) ?_
  refine w_iload C dL_law_581 1 rfl ?_
  by_cases e0 : xo = 0
  · subst e0
    have h72b : σ2 72 0 = r2 := by rw [h72, if_pos rfl, zup_s, hr rfl]
    refine w_if_ne C 598 dL_law_583 (by decide) (fun q => absurd rfl q) (fun _ => ?_)
    refine w_aload_n C dL_law_586 5 rfl ?_
    refine w_iconst C dL_law_587 ?_
    refine w_laload C dL_law_588 ?_
    refine w_iload C dL_law_589 0 rfl ?_
    refine w_i2l C (rgT_inR hrg) dL_law_591 ?_
    refine w_lcmpE C h72b dL_law_592 ?_
    refine w_if_eq0 C 598 dL_law_593 (by decide) ?_
    refine w_goto C 1434 dL_law_598 (by decide) ?_
    refine w_sub (vs' := [(0, .ref b), (1, .ref (ad 0)), (2, .ref (ad 58)), (3, .ref (ad 72)), (4, .int (Int32.ofInt i))]) [2, 3, 4, 5, 6] rfl ?_
    exact KK σ2 hT2
  · refine w_if_ne C 598 dL_law_583 (by decide) (fun _ => ?_) (fun q => absurd q (z_ne (hxo.resolve_left e0) (kle_B2 xo)))
    refine w_goto C 1434 dL_law_598 (by decide) ?_
    refine w_sub (vs' := [(0, .ref b), (1, .ref (ad 0)), (2, .ref (ad 58)), (3, .ref (ad 72)), (4, .int (Int32.ofInt i))]) [2, 3, 4, 5, 6] rfl ?_
    exact KK σ2 hT2
set_option maxHeartbeats 4000000 in
set_option maxRecDepth 100000 in
theorem law_c8 (C : Cx p s m args meth c code "DoacrossSchedulerLaw" 7 wsL_law D cy (fun q : Nat => s.heap.size ≤ q)) (hX : zSX (fun q : Nat => s.heap.size ≤ q) s s.heap) (hNC : zNC s) (hl0 : l.stackTraces = false) {b L : Nat} {xs : Nat → Int32} (hXs : va_X b L xs s s.heap) (hbl : b < s.heap.size) (hL : L ≤ 1536) (hT : ST σ) {i : Int} (hi : 0 ≤ i ∧ i + 2 < (L : Int)) (hk : k + 1 ≤ 601024) (hn : n + 6 ≤ 7293034) (KK : ∀ σ2 : MM, ST σ2 → GL p l e room_1 s m args below meth c 7 D cy ad (fun q : Nat => s.heap.size ≤ q) Q 1434 [(0, .ref b), (1, .ref (ad 0)), (2, .ref (ad 58)), (3, .ref (ad 72)), (4, .int (Int32.ofInt i))] [] σ2 (k + 1) (n + 6)) : GL p l e room_1 s m args below meth c 7 D cy ad (fun q : Nat => s.heap.size ≤ q) Q 601 [(0, .ref b), (1, .ref (ad 0)), (2, .ref (ad 58)), (3, .ref (ad 72)), (4, .int (Int32.ofInt i))] [] σ k n := by
  have hbA : ¬ (fun q : Nat => s.heap.size ≤ q) b := Nat.not_le.mpr hbl
  have hL2 : L < 1000000 := by omega
  obtain ⟨xo, r, σ1, e1, hxo, hop⟩ := op_dependence hT (xs (i + 1).toNat).toInt (xs (i + 2).toNat).toInt
  obtain ⟨r2, σ2, e2, h58, hr, hT2, h72⟩ := hop (if xo = 0 then zup σ1 72 0 r else σ1) oW
  refine w_aload_n C dL_law_601 1 rfl ?_
  refine w_aload_n C dL_law_602 0 rfl ?_
  refine w_iload C dL_law_603 4 rfl ?_
  refine w_iconst C dL_law_605 ?_
  refine w_iadd C dL_law_606 ?_
  refine w_sld C hXs hbl hbA hL2 (by omega) dL_law_607 ?_
  refine w_aload_n C dL_law_608 0 rfl ?_
  refine w_iload C dL_law_609 4 rfl ?_
  refine w_iconst C dL_law_611 ?_
  refine w_iadd C dL_law_612 ?_
  refine w_sld C hXs hbl hbA hL2 (by omega) dL_law_613 ?_
  refine w_aload_n C dL_law_614 3 rfl ?_
  refine w_callW (np := 4) (rest := []) C hX hNC (fun hM => w_L_dependence l hl0 hM (r32 (xs (i + 1).toNat)) (r32 (xs (i + 2).toNat)) e1 hxo) gL_law_L_dependence rfl (by decide) ⟨rfl, rfl⟩ ⟨Nat.le_of_ble_eq_true rfl, Nat.le_of_ble_eq_true rfl⟩ rfl rfl rfl (Nat.le_of_ble_eq_true rfl) dL_law_615 ⟨hk, hn⟩ ?_
  refine w_istore (vs' := [(5, .int (Int32.ofInt (kB2 xo))), (0, .ref b), (1, .ref (ad 0)), (2, .ref (ad 58)), (3, .ref (ad 72)), (4, .int (Int32.ofInt i))]) C dL_law_618 (by decide) rfl ?_
  refine w_aload_n C dL_law_620 3 rfl ?_
  refine w_aload_n C dL_law_621 1 rfl ?_
  refine w_iload C dL_law_622 5 rfl ?_
  refine w_iconst C dL_law_624 ?_
  refine w_iadd C dL_law_625 ?_
  refine w_sld C hXs hbl hbA hL2 (by omega) dL_law_626 ?_
  refine w_aload_n C dL_law_627 1 rfl ?_
  refine w_iload C dL_law_628 5 rfl ?_
  refine w_iconst C dL_law_630 ?_
  refine w_iadd C dL_law_631 ?_
  refine w_sld C hXs hbl hbA hL2 (by omega) dL_law_632 ?_
  refine w_callI (np := 2) (ci := 6) (q0 := 58) (rest := []) C (fun hM => c_X6_dependence l hM (r32 (xs (i + 1).toNat)) (r32 (xs (i + 2).toNat)) e2) gL_law_X6_dependence rfl (by decide) ⟨rfl, rfl⟩ ⟨Nat.le_of_ble_eq_true rfl, Nat.le_of_ble_eq_true rfl⟩ rfl lay58 (by decide) rfl rfl rfl (Nat.le_of_ble_eq_true rfl) dL_law_633 ⟨hk, hn⟩ (fun hrg => ?_)
  refine w_istore (vs' := [(6, .int (Int32.ofInt r2)), (5, .int (Int32.ofInt (kB2 xo))), (0, .ref b), (1, .ref (ad 0)), (2, .ref (ad 58)), (3, .ref (ad 72)), (4, .int (Int32.ofInt i))]) C dL_law_636 (by decide) rfl ?_
  refine w_aload_n C dL_law_638 4 rfl ?_
  refine w_callI (np := 0) (ci := 6) (q0 := 58) (rest := []) (ro := σ2 58 3) C (fun hM => c_X6_thrown l hM rfl) gL_law_X6_thrown rfl (by decide) ⟨rfl, rfl⟩ ⟨Nat.le_of_ble_eq_true rfl, Nat.le_of_ble_eq_true rfl⟩ rfl lay58 (by decide) rfl rfl rfl (Nat.le_of_ble_eq_true rfl) dL_law_639 ⟨hk, hn⟩ (fun _ => ?_)
  refine w_iload C dL_law_642 1 rfl ?_
  refine w_icmp_eq C 649 dL_law_644 (by decide) (by rw [h58]) ?_
  refine w_iload C dL_law_649 1 rfl ?_
  by_cases e0 : xo = 0
  · subst e0
    have h72b : σ2 72 0 = r2 := by rw [h72, if_pos rfl, zup_s, hr rfl]
    refine w_if_ne C 666 dL_law_651 (by decide) (fun q => absurd rfl q) (fun _ => ?_)
    refine w_aload_n C dL_law_654 5 rfl ?_
    refine w_iconst C dL_law_655 ?_
    refine w_laload C dL_law_656 ?_
    refine w_iload C dL_law_657 0 rfl ?_
    refine w_i2l C (rgT_inR hrg) dL_law_659 ?_
    refine w_lcmpE C h72b dL_law_660 ?_
    refine w_if_eq0 C 666 dL_law_661 (by decide) ?_
    refine w_goto C 1434 dL_law_666 (by decide) ?_
    refine w_sub (vs' := [(0, .ref b), (1, .ref (ad 0)), (2, .ref (ad 58)), (3, .ref (ad 72)), (4, .int (Int32.ofInt i))]) [2, 3, 4, 5, 6] rfl ?_
    exact KK σ2 hT2
  · refine w_if_ne C 666 dL_law_651 (by decide) (fun _ => ?_) (fun q => absurd q (z_ne (hxo.resolve_left e0) (kle_B2 xo)))
    refine w_goto C 1434 dL_law_666 (by decide) ?_
    refine w_sub (vs' := [(0, .ref b), (1, .ref (ad 0)), (2, .ref (ad 58)), (3, .ref (ad 72)), (4, .int (Int32.ofInt i))]) [2, 3, 4, 5, 6] rfl ?_
    exact KK σ2 hT2
set_option maxHeartbeats 4000000 in
set_option maxRecDepth 100000 in
theorem law_c9 (C : Cx p s m args meth c code "DoacrossSchedulerLaw" 7 wsL_law D cy (fun q : Nat => s.heap.size ≤ q)) (hX : zSX (fun q : Nat => s.heap.size ≤ q) s s.heap) (hNC : zNC s) (hl0 : l.stackTraces = false) {b L : Nat} {xs : Nat → Int32} (hXs : va_X b L xs s s.heap) (hbl : b < s.heap.size) (hL : L ≤ 1536) (hT : ST σ) {i : Int} (hi : 0 ≤ i ∧ i + 2 < (L : Int)) (hk : k + 1 ≤ 601024) (hn : n + 6 ≤ 7293034) (KK : ∀ σ2 : MM, ST σ2 → GL p l e room_1 s m args below meth c 7 D cy ad (fun q : Nat => s.heap.size ≤ q) Q 1434 [(0, .ref b), (1, .ref (ad 0)), (2, .ref (ad 58)), (3, .ref (ad 72)), (4, .int (Int32.ofInt i))] [] σ2 (k + 1) (n + 6)) : GL p l e room_1 s m args below meth c 7 D cy ad (fun q : Nat => s.heap.size ≤ q) Q 669 [(0, .ref b), (1, .ref (ad 0)), (2, .ref (ad 58)), (3, .ref (ad 72)), (4, .int (Int32.ofInt i))] [] σ k n := by
  have hbA : ¬ (fun q : Nat => s.heap.size ≤ q) b := Nat.not_le.mpr hbl
  have hL2 : L < 1000000 := by omega
  obtain ⟨xo, r, σ1, e1, hxo, hop⟩ := op_lead hT (xs (i + 1).toNat).toInt (xs (i + 2).toNat).toInt
  obtain ⟨r2, σ2, e2, h58, hr, hT2, h72⟩ := hop (if xo = 0 then zup σ1 72 0 r else σ1) oW
  refine w_aload_n C dL_law_669 1 rfl ?_
  refine w_aload_n C dL_law_670 0 rfl ?_
  refine w_iload C dL_law_671 4 rfl ?_
  refine w_iconst C dL_law_673 ?_
  refine w_iadd C dL_law_674 ?_
  refine w_sld C hXs hbl hbA hL2 (by omega) dL_law_675 ?_
  refine w_aload_n C dL_law_676 0 rfl ?_
  refine w_iload C dL_law_677 4 rfl ?_
  refine w_iconst C dL_law_679 ?_
  refine w_iadd C dL_law_680 ?_
  refine w_sld C hXs hbl hbA hL2 (by omega) dL_law_681 ?_
  refine w_aload_n C dL_law_682 3 rfl ?_
  refine w_callW (np := 4) (rest := []) C hX hNC (fun hM => w_L_lead l hl0 hM (r32 (xs (i + 1).toNat)) (r32 (xs (i + 2).toNat)) e1 hxo) gL_law_L_lead rfl (by decide) ⟨rfl, rfl⟩ ⟨Nat.le_of_ble_eq_true rfl, Nat.le_of_ble_eq_true rfl⟩ rfl rfl rfl (Nat.le_of_ble_eq_true rfl) dL_law_683 ⟨hk, hn⟩ ?_
  refine w_istore (vs' := [(5, .int (Int32.ofInt (kB xo))), (0, .ref b), (1, .ref (ad 0)), (2, .ref (ad 58)), (3, .ref (ad 72)), (4, .int (Int32.ofInt i))]) C dL_law_686 (by decide) rfl ?_
  refine w_aload_n C dL_law_688 3 rfl ?_
  refine w_aload_n C dL_law_689 1 rfl ?_
  refine w_iload C dL_law_690 5 rfl ?_
  refine w_iconst C dL_law_692 ?_
  refine w_iadd C dL_law_693 ?_
  refine w_sld C hXs hbl hbA hL2 (by omega) dL_law_694 ?_
  refine w_aload_n C dL_law_695 1 rfl ?_
  refine w_iload C dL_law_696 5 rfl ?_
  refine w_iconst C dL_law_698 ?_
  refine w_iadd C dL_law_699 ?_
  refine w_sld C hXs hbl hbA hL2 (by omega) dL_law_700 ?_
  refine w_callI (np := 2) (ci := 6) (q0 := 58) (rest := []) C (fun hM => c_X6_lead l hM (r32 (xs (i + 1).toNat)) (r32 (xs (i + 2).toNat)) e2) gL_law_X6_lead rfl (by decide) ⟨rfl, rfl⟩ ⟨Nat.le_of_ble_eq_true rfl, Nat.le_of_ble_eq_true rfl⟩ rfl lay58 (by decide) rfl rfl rfl (Nat.le_of_ble_eq_true rfl) dL_law_701 ⟨hk, hn⟩ (fun hrg => ?_)
  refine w_istore (vs' := [(6, .int (Int32.ofInt r2)), (5, .int (Int32.ofInt (kB xo))), (0, .ref b), (1, .ref (ad 0)), (2, .ref (ad 58)), (3, .ref (ad 72)), (4, .int (Int32.ofInt i))]) C dL_law_704 (by decide) rfl ?_
  refine w_aload_n C dL_law_706 4 rfl ?_
  refine w_callI (np := 0) (ci := 6) (q0 := 58) (rest := []) (ro := σ2 58 3) C (fun hM => c_X6_thrown l hM rfl) gL_law_X6_thrown rfl (by decide) ⟨rfl, rfl⟩ ⟨Nat.le_of_ble_eq_true rfl, Nat.le_of_ble_eq_true rfl⟩ rfl lay58 (by decide) rfl rfl rfl (Nat.le_of_ble_eq_true rfl) dL_law_707 ⟨hk, hn⟩ (fun _ => ?_)
  refine w_iload C dL_law_710 1 rfl ?_
  refine w_icmp_eq C 717 dL_law_712 (by decide) (by rw [h58]) ?_
  refine w_iload C dL_law_717 1 rfl ?_
  by_cases e0 : xo = 0
  · subst e0
    have h72b : σ2 72 0 = r2 := by rw [h72, if_pos rfl, zup_s, hr rfl]
    refine w_if_ne C 734 dL_law_719 (by decide) (fun q => absurd rfl q) (fun _ => ?_)
    refine w_aload_n C dL_law_722 5 rfl ?_
    refine w_iconst C dL_law_723 ?_
    refine w_laload C dL_law_724 ?_
    refine w_iload C dL_law_725 0 rfl ?_
    refine w_i2l C (rgT_inR hrg) dL_law_727 ?_
    refine w_lcmpE C h72b dL_law_728 ?_
    refine w_if_eq0 C 734 dL_law_729 (by decide) ?_
    refine w_goto C 1434 dL_law_734 (by decide) ?_
    refine w_sub (vs' := [(0, .ref b), (1, .ref (ad 0)), (2, .ref (ad 58)), (3, .ref (ad 72)), (4, .int (Int32.ofInt i))]) [2, 3, 4, 5, 6] rfl ?_
    exact KK σ2 hT2
  · refine w_if_ne C 734 dL_law_719 (by decide) (fun _ => ?_) (fun q => absurd q (z_ne (hxo.resolve_left e0) (kle_B xo)))
    refine w_goto C 1434 dL_law_734 (by decide) ?_
    refine w_sub (vs' := [(0, .ref b), (1, .ref (ad 0)), (2, .ref (ad 58)), (3, .ref (ad 72)), (4, .int (Int32.ofInt i))]) [2, 3, 4, 5, 6] rfl ?_
    exact KK σ2 hT2
set_option maxHeartbeats 4000000 in
set_option maxRecDepth 100000 in
theorem law_c10 (C : Cx p s m args meth c code "DoacrossSchedulerLaw" 7 wsL_law D cy (fun q : Nat => s.heap.size ≤ q)) (hX : zSX (fun q : Nat => s.heap.size ≤ q) s s.heap) (hNC : zNC s) (hl0 : l.stackTraces = false) {b L : Nat} {xs : Nat → Int32} (hXs : va_X b L xs s s.heap) (hbl : b < s.heap.size) (hL : L ≤ 1536) (hT : ST σ) {i : Int} (hi : 0 ≤ i ∧ i + 2 < (L : Int)) (hk : k + 1 ≤ 601024) (hn : n + 6 ≤ 7293034) (KK : ∀ σ2 : MM, ST σ2 → GL p l e room_1 s m args below meth c 7 D cy ad (fun q : Nat => s.heap.size ≤ q) Q 1434 [(0, .ref b), (1, .ref (ad 0)), (2, .ref (ad 58)), (3, .ref (ad 72)), (4, .int (Int32.ofInt i))] [] σ2 (k + 1) (n + 6)) : GL p l e room_1 s m args below meth c 7 D cy ad (fun q : Nat => s.heap.size ≤ q) Q 737 [(0, .ref b), (1, .ref (ad 0)), (2, .ref (ad 58)), (3, .ref (ad 72)), (4, .int (Int32.ofInt i))] [] σ k n := by
  have hbA : ¬ (fun q : Nat => s.heap.size ≤ q) b := Nat.not_le.mpr hbl
  have hL2 : L < 1000000 := by omega
  obtain ⟨xo, r, σ1, e1, hxo, hop⟩ := op_eliminate hT (xs (i + 1).toNat).toInt
  obtain ⟨r2, σ2, e2, h58, hr, hT2, h72⟩ := hop (if xo = 0 then zup σ1 72 0 r else σ1) oW
  refine w_aload_n C dL_law_737 1 rfl ?_
  refine w_aload_n C dL_law_738 0 rfl ?_
  refine w_iload C dL_law_739 4 rfl ?_
  refine w_iconst C dL_law_741 ?_
  refine w_iadd C dL_law_742 ?_
  refine w_sld C hXs hbl hbA hL2 (by omega) dL_law_743 ?_
  refine w_aload_n C dL_law_744 3 rfl ?_
  refine w_callW (np := 3) (rest := []) C hX hNC (fun hM => w_L_eliminate l hl0 hM (r32 (xs (i + 1).toNat)) e1 hxo) gL_law_L_eliminate rfl (by decide) ⟨rfl, rfl⟩ ⟨Nat.le_of_ble_eq_true rfl, Nat.le_of_ble_eq_true rfl⟩ rfl rfl rfl (Nat.le_of_ble_eq_true rfl) dL_law_745 ⟨hk, hn⟩ ?_
  refine w_istore (vs' := [(5, .int (Int32.ofInt (kA xo))), (0, .ref b), (1, .ref (ad 0)), (2, .ref (ad 58)), (3, .ref (ad 72)), (4, .int (Int32.ofInt i))]) C dL_law_748 (by decide) rfl ?_
  refine w_aload_n C dL_law_750 3 rfl ?_
  refine w_aload_n C dL_law_751 1 rfl ?_
  refine w_iload C dL_law_752 5 rfl ?_
  refine w_iconst C dL_law_754 ?_
  refine w_iadd C dL_law_755 ?_
  refine w_sld C hXs hbl hbA hL2 (by omega) dL_law_756 ?_
  refine w_callI (np := 1) (ci := 6) (q0 := 58) (rest := []) C (fun hM => c_X6_eliminate l hM (r32 (xs (i + 1).toNat)) e2) gL_law_X6_eliminate rfl (by decide) ⟨rfl, rfl⟩ ⟨Nat.le_of_ble_eq_true rfl, Nat.le_of_ble_eq_true rfl⟩ rfl lay58 (by decide) rfl rfl rfl (Nat.le_of_ble_eq_true rfl) dL_law_757 ⟨hk, hn⟩ (fun hrg => ?_)
  refine w_istore (vs' := [(6, .int (Int32.ofInt r2)), (5, .int (Int32.ofInt (kA xo))), (0, .ref b), (1, .ref (ad 0)), (2, .ref (ad 58)), (3, .ref (ad 72)), (4, .int (Int32.ofInt i))]) C dL_law_760 (by decide) rfl ?_
  refine w_aload_n C dL_law_762 4 rfl ?_
  refine w_callI (np := 0) (ci := 6) (q0 := 58) (rest := []) (ro := σ2 58 3) C (fun hM => c_X6_thrown l hM rfl) gL_law_X6_thrown rfl (by decide) ⟨rfl, rfl⟩ ⟨Nat.le_of_ble_eq_true rfl, Nat.le_of_ble_eq_true rfl⟩ rfl lay58 (by decide) rfl rfl rfl (Nat.le_of_ble_eq_true rfl) dL_law_763 ⟨hk, hn⟩ (fun _ => ?_)
  refine w_iload C dL_law_766 1 rfl ?_
  refine w_icmp_eq C 773 dL_law_768 (by decide) (by rw [h58]) ?_
  refine w_iload C dL_law_773 1 rfl ?_
  by_cases e0 : xo = 0
  · subst e0
    have h72b : σ2 72 0 = r2 := by rw [h72, if_pos rfl, zup_s, hr rfl]
    refine w_if_ne C 790 dL_law_775 (by decide) (fun q => absurd rfl q) (fun _ => ?_)
    refine w_aload_n C dL_law_778 5 rfl ?_
    refine w_iconst C dL_law_779 ?_
    refine w_laload C dL_law_780 ?_
    refine w_iload C dL_law_781 0 rfl ?_
    refine w_i2l C (rgT_inR hrg) dL_law_783 ?_
    refine w_lcmpE C h72b dL_law_784 ?_
    refine w_if_eq0 C 790 dL_law_785 (by decide) ?_
    refine w_goto C 1434 dL_law_790 (by decide) ?_
    refine w_sub (vs' := [(0, .ref b), (1, .ref (ad 0)), (2, .ref (ad 58)), (3, .ref (ad 72)), (4, .int (Int32.ofInt i))]) [2, 3, 4, 5, 6] rfl ?_
    exact KK σ2 hT2
  · refine w_if_ne C 790 dL_law_775 (by decide) (fun _ => ?_) (fun q => absurd q (z_ne (hxo.resolve_left e0) (kle_A xo)))
    refine w_goto C 1434 dL_law_790 (by decide) ?_
    refine w_sub (vs' := [(0, .ref b), (1, .ref (ad 0)), (2, .ref (ad 58)), (3, .ref (ad 72)), (4, .int (Int32.ofInt i))]) [2, 3, 4, 5, 6] rfl ?_
    exact KK σ2 hT2
set_option maxHeartbeats 4000000 in
set_option maxRecDepth 100000 in
theorem law_c11 (C : Cx p s m args meth c code "DoacrossSchedulerLaw" 7 wsL_law D cy (fun q : Nat => s.heap.size ≤ q)) (hX : zSX (fun q : Nat => s.heap.size ≤ q) s s.heap) (hNC : zNC s) (hl0 : l.stackTraces = false) {b L : Nat} {xs : Nat → Int32} (hXs : va_X b L xs s s.heap) (hbl : b < s.heap.size) (hL : L ≤ 1536) (hT : ST σ) {i : Int} (hi : 0 ≤ i ∧ i + 2 < (L : Int)) (hk : k + 1 ≤ 601024) (hn : n + 6 ≤ 7293034) (KK : ∀ σ2 : MM, ST σ2 → GL p l e room_1 s m args below meth c 7 D cy ad (fun q : Nat => s.heap.size ≤ q) Q 1434 [(0, .ref b), (1, .ref (ad 0)), (2, .ref (ad 58)), (3, .ref (ad 72)), (4, .int (Int32.ofInt i))] [] σ2 (k + 1) (n + 6)) : GL p l e room_1 s m args below meth c 7 D cy ad (fun q : Nat => s.heap.size ≤ q) Q 793 [(0, .ref b), (1, .ref (ad 0)), (2, .ref (ad 58)), (3, .ref (ad 72)), (4, .int (Int32.ofInt i))] [] σ k n := by
  have hbA : ¬ (fun q : Nat => s.heap.size ≤ q) b := Nat.not_le.mpr hbl
  have hL2 : L < 1000000 := by omega
  obtain ⟨r, σ1, σ2, e1, e2, hT2⟩ := op_keepAll hT
  refine w_aload_n C dL_law_793 1 rfl ?_
  refine w_callI (np := 0) (ci := 5) (q0 := 0) (rest := []) C (fun hM => c_X5_keepAll l hM e1) gL_law_X5_keepAll rfl (by decide) ⟨rfl, rfl⟩ ⟨Nat.le_of_ble_eq_true rfl, Nat.le_of_ble_eq_true rfl⟩ rfl layX5 (by decide) rfl rfl rfl (Nat.le_of_ble_eq_true rfl) dL_law_794 ⟨by show k ≤ 601024; omega, by show n ≤ 7293034; omega⟩ (fun _ => ?_)
  refine w_aload_n C dL_law_797 2 rfl ?_
  refine w_callI (np := 0) (ci := 6) (q0 := 58) (rest := [.int (Int32.ofInt r)]) C (fun hM => c_X6_keepAll l hM e2) gL_law_X6_keepAll rfl (by decide) ⟨rfl, rfl⟩ ⟨Nat.le_of_ble_eq_true rfl, Nat.le_of_ble_eq_true rfl⟩ rfl lay58 (by decide) rfl rfl rfl (Nat.le_of_ble_eq_true rfl) dL_law_798 ⟨by show k ≤ 601024; omega, by show n ≤ 7293034; omega⟩ (fun _ => ?_)
  refine w_icmp_eq C 1434 dL_law_801 (by decide) rfl ?_
  exact w_widen (by omega) (by omega) (KK σ2 hT2)
set_option maxHeartbeats 4000000 in
set_option maxRecDepth 100000 in
theorem law_c12 (C : Cx p s m args meth c code "DoacrossSchedulerLaw" 7 wsL_law D cy (fun q : Nat => s.heap.size ≤ q)) (hX : zSX (fun q : Nat => s.heap.size ≤ q) s s.heap) (hNC : zNC s) (hl0 : l.stackTraces = false) {b L : Nat} {xs : Nat → Int32} (hXs : va_X b L xs s s.heap) (hbl : b < s.heap.size) (hL : L ≤ 1536) (hT : ST σ) {i : Int} (hi : 0 ≤ i ∧ i + 2 < (L : Int)) (hk : k + 1 ≤ 601024) (hn : n + 6 ≤ 7293034) (KK : ∀ σ2 : MM, ST σ2 → GL p l e room_1 s m args below meth c 7 D cy ad (fun q : Nat => s.heap.size ≤ q) Q 1434 [(0, .ref b), (1, .ref (ad 0)), (2, .ref (ad 58)), (3, .ref (ad 72)), (4, .int (Int32.ofInt i))] [] σ2 (k + 1) (n + 6)) : GL p l e room_1 s m args below meth c 7 D cy ad (fun q : Nat => s.heap.size ≤ q) Q 806 [(0, .ref b), (1, .ref (ad 0)), (2, .ref (ad 58)), (3, .ref (ad 72)), (4, .int (Int32.ofInt i))] [] σ k n := by
  have hbA : ¬ (fun q : Nat => s.heap.size ≤ q) b := Nat.not_le.mpr hbl
  have hL2 : L < 1000000 := by omega
  obtain ⟨xo, r, σ1, e1, hxo, hop⟩ := op_precedes hT (xs (i + 1).toNat).toInt (xs (i + 2).toNat).toInt
  obtain ⟨r2, σ2, e2, h58, hr, hT2, h72⟩ := hop (if xo = 0 then zup σ1 72 0 r else σ1) oW
  refine w_aload_n C dL_law_806 1 rfl ?_
  refine w_aload_n C dL_law_807 0 rfl ?_
  refine w_iload C dL_law_808 4 rfl ?_
  refine w_iconst C dL_law_810 ?_
  refine w_iadd C dL_law_811 ?_
  refine w_sld C hXs hbl hbA hL2 (by omega) dL_law_812 ?_
  refine w_aload_n C dL_law_813 0 rfl ?_
  refine w_iload C dL_law_814 4 rfl ?_
  refine w_iconst C dL_law_816 ?_
  refine w_iadd C dL_law_817 ?_
  refine w_sld C hXs hbl hbA hL2 (by omega) dL_law_818 ?_
  refine w_aload_n C dL_law_819 3 rfl ?_
  refine w_callW (np := 4) (rest := []) C hX hNC (fun hM => w_L_precedes l hl0 hM (r32 (xs (i + 1).toNat)) (r32 (xs (i + 2).toNat)) e1 hxo) gL_law_L_precedes rfl (by decide) ⟨rfl, rfl⟩ ⟨Nat.le_of_ble_eq_true rfl, Nat.le_of_ble_eq_true rfl⟩ rfl rfl rfl (Nat.le_of_ble_eq_true rfl) dL_law_820 ⟨hk, hn⟩ ?_
  refine w_istore (vs' := [(5, .int (Int32.ofInt (kF xo))), (0, .ref b), (1, .ref (ad 0)), (2, .ref (ad 58)), (3, .ref (ad 72)), (4, .int (Int32.ofInt i))]) C dL_law_823 (by decide) rfl ?_
  refine w_aload_n C dL_law_825 3 rfl ?_
  refine w_aload_n C dL_law_826 1 rfl ?_
  refine w_iload C dL_law_827 5 rfl ?_
  refine w_iconst C dL_law_829 ?_
  refine w_iadd C dL_law_830 ?_
  refine w_sld C hXs hbl hbA hL2 (by omega) dL_law_831 ?_
  refine w_aload_n C dL_law_832 1 rfl ?_
  refine w_iload C dL_law_833 5 rfl ?_
  refine w_iconst C dL_law_835 ?_
  refine w_iadd C dL_law_836 ?_
  refine w_sld C hXs hbl hbA hL2 (by omega) dL_law_837 ?_
  refine w_callI (np := 2) (ci := 6) (q0 := 58) (rest := []) C (fun hM => c_X6_precedes l hM (r32 (xs (i + 1).toNat)) (r32 (xs (i + 2).toNat)) e2) gL_law_X6_precedes rfl (by decide) ⟨rfl, rfl⟩ ⟨Nat.le_of_ble_eq_true rfl, Nat.le_of_ble_eq_true rfl⟩ rfl lay58 (by decide) rfl rfl rfl (Nat.le_of_ble_eq_true rfl) dL_law_838 ⟨hk, hn⟩ (fun hrg => ?_)
  refine w_istore (vs' := [(6, .int (Int32.ofInt r2)), (5, .int (Int32.ofInt (kF xo))), (0, .ref b), (1, .ref (ad 0)), (2, .ref (ad 58)), (3, .ref (ad 72)), (4, .int (Int32.ofInt i))]) C dL_law_841 (by decide) rfl ?_
  refine w_aload_n C dL_law_843 4 rfl ?_
  refine w_callI (np := 0) (ci := 6) (q0 := 58) (rest := []) (ro := σ2 58 3) C (fun hM => c_X6_thrown l hM rfl) gL_law_X6_thrown rfl (by decide) ⟨rfl, rfl⟩ ⟨Nat.le_of_ble_eq_true rfl, Nat.le_of_ble_eq_true rfl⟩ rfl lay58 (by decide) rfl rfl rfl (Nat.le_of_ble_eq_true rfl) dL_law_844 ⟨hk, hn⟩ (fun _ => ?_)
  refine w_iload C dL_law_847 1 rfl ?_
  refine w_icmp_eq C 854 dL_law_849 (by decide) (by rw [h58]) ?_
  refine w_iload C dL_law_854 1 rfl ?_
  by_cases e0 : xo = 0
  · subst e0
    have h72b : σ2 72 0 = r2 := by rw [h72, if_pos rfl, zup_s, hr rfl]
    refine w_if_ne C 878 dL_law_856 (by decide) (fun q => absurd rfl q) (fun _ => ?_)
    refine w_aload_n C dL_law_859 5 rfl ?_
    refine w_iconst C dL_law_860 ?_
    refine w_laload C dL_law_861 ?_
    refine w_iload C dL_law_862 0 rfl ?_
    have hrg : r2 = 0 ∨ r2 = 1 := hrg
    rcases hrg with rfl | rfl
    · refine w_if_eq C 871 dL_law_864 (by decide) (fun _ => ?_) (fun q => absurd rfl q)
      refine w_lconst C dL_law_871 ?_
      refine w_lcmpE C h72b dL_law_872 ?_
      refine w_if_eq0 C 878 dL_law_873 (by decide) ?_
      refine w_goto C 1434 dL_law_878 (by decide) ?_
      refine w_sub (vs' := [(0, .ref b), (1, .ref (ad 0)), (2, .ref (ad 58)), (3, .ref (ad 72)), (4, .int (Int32.ofInt i))]) [2, 3, 4, 5, 6] rfl ?_
      exact KK σ2 hT2
    · refine w_if_eq C 871 dL_law_864 (by decide) (fun q => absurd q (by decide)) (fun _ => ?_)
      refine w_lconst C dL_law_867 ?_
      refine w_goto C 872 dL_law_868 (by decide) ?_
      refine w_lcmpE C h72b dL_law_872 ?_
      refine w_if_eq0 C 878 dL_law_873 (by decide) ?_
      refine w_goto C 1434 dL_law_878 (by decide) ?_
      refine w_sub (vs' := [(0, .ref b), (1, .ref (ad 0)), (2, .ref (ad 58)), (3, .ref (ad 72)), (4, .int (Int32.ofInt i))]) [2, 3, 4, 5, 6] rfl ?_
      exact KK σ2 hT2
  · refine w_if_ne C 878 dL_law_856 (by decide) (fun _ => ?_) (fun q => absurd q (z_ne (hxo.resolve_left e0) (kle_F xo)))
    refine w_goto C 1434 dL_law_878 (by decide) ?_
    refine w_sub (vs' := [(0, .ref b), (1, .ref (ad 0)), (2, .ref (ad 58)), (3, .ref (ad 72)), (4, .int (Int32.ofInt i))]) [2, 3, 4, 5, 6] rfl ?_
    exact KK σ2 hT2
set_option maxHeartbeats 4000000 in
set_option maxRecDepth 100000 in
theorem law_c13 (C : Cx p s m args meth c code "DoacrossSchedulerLaw" 7 wsL_law D cy (fun q : Nat => s.heap.size ≤ q)) (hX : zSX (fun q : Nat => s.heap.size ≤ q) s s.heap) (hNC : zNC s) (hl0 : l.stackTraces = false) {b L : Nat} {xs : Nat → Int32} (hXs : va_X b L xs s s.heap) (hbl : b < s.heap.size) (hL : L ≤ 1536) (hT : ST σ) {i : Int} (hi : 0 ≤ i ∧ i + 2 < (L : Int)) (hk : k + 1 ≤ 601024) (hn : n + 6 ≤ 7293034) (KK : ∀ σ2 : MM, ST σ2 → GL p l e room_1 s m args below meth c 7 D cy ad (fun q : Nat => s.heap.size ≤ q) Q 1434 [(0, .ref b), (1, .ref (ad 0)), (2, .ref (ad 58)), (3, .ref (ad 72)), (4, .int (Int32.ofInt i))] [] σ2 (k + 1) (n + 6)) : GL p l e room_1 s m args below meth c 7 D cy ad (fun q : Nat => s.heap.size ≤ q) Q 881 [(0, .ref b), (1, .ref (ad 0)), (2, .ref (ad 58)), (3, .ref (ad 72)), (4, .int (Int32.ofInt i))] [] σ k n := by
  have hbA : ¬ (fun q : Nat => s.heap.size ≤ q) b := Nat.not_le.mpr hbl
  have hL2 : L < 1000000 := by omega
  obtain ⟨r, σ1, σ2, e1, e2, hT2⟩ := op_delay hT
  refine w_aload_n C dL_law_881 1 rfl ?_
  refine w_callI (np := 0) (ci := 5) (q0 := 0) (rest := []) C (fun hM => c_X5_delay l hM e1) gL_law_X5_delay rfl (by decide) ⟨rfl, rfl⟩ ⟨Nat.le_of_ble_eq_true rfl, Nat.le_of_ble_eq_true rfl⟩ rfl layX5 (by decide) rfl rfl rfl (Nat.le_of_ble_eq_true rfl) dL_law_882 ⟨by show k ≤ 601024; omega, by show n ≤ 7293034; omega⟩ (fun _ => ?_)
  refine w_aload_n C dL_law_885 2 rfl ?_
  refine w_callI (np := 0) (ci := 6) (q0 := 58) (rest := [.int (Int32.ofInt r)]) C (fun hM => c_X6_delay l hM e2) gL_law_X6_delay rfl (by decide) ⟨rfl, rfl⟩ ⟨Nat.le_of_ble_eq_true rfl, Nat.le_of_ble_eq_true rfl⟩ rfl lay58 (by decide) rfl rfl rfl (Nat.le_of_ble_eq_true rfl) dL_law_886 ⟨by show k ≤ 601024; omega, by show n ≤ 7293034; omega⟩ (fun _ => ?_)
  refine w_icmp_eq C 1434 dL_law_889 (by decide) rfl ?_
  exact w_widen (by omega) (by omega) (KK σ2 hT2)
set_option maxHeartbeats 4000000 in
set_option maxRecDepth 100000 in
theorem law_c14 (C : Cx p s m args meth c code "DoacrossSchedulerLaw" 7 wsL_law D cy (fun q : Nat => s.heap.size ≤ q)) (hX : zSX (fun q : Nat => s.heap.size ≤ q) s s.heap) (hNC : zNC s) (hl0 : l.stackTraces = false) {b L : Nat} {xs : Nat → Int32} (hXs : va_X b L xs s s.heap) (hbl : b < s.heap.size) (hL : L ≤ 1536) (hT : ST σ) {i : Int} (hi : 0 ≤ i ∧ i + 2 < (L : Int)) (hk : k + 1 ≤ 601024) (hn : n + 6 ≤ 7293034) (KK : ∀ σ2 : MM, ST σ2 → GL p l e room_1 s m args below meth c 7 D cy ad (fun q : Nat => s.heap.size ≤ q) Q 1434 [(0, .ref b), (1, .ref (ad 0)), (2, .ref (ad 58)), (3, .ref (ad 72)), (4, .int (Int32.ofInt i))] [] σ2 (k + 1) (n + 6)) : GL p l e room_1 s m args below meth c 7 D cy ad (fun q : Nat => s.heap.size ≤ q) Q 894 [(0, .ref b), (1, .ref (ad 0)), (2, .ref (ad 58)), (3, .ref (ad 72)), (4, .int (Int32.ofInt i))] [] σ k n := by
  have hbA : ¬ (fun q : Nat => s.heap.size ≤ q) b := Nat.not_le.mpr hbl
  have hL2 : L < 1000000 := by omega
  obtain ⟨r, σ1, σ2, e1, e2, hT2⟩ := op_critical hT
  refine w_aload_n C dL_law_894 1 rfl ?_
  refine w_callI (np := 0) (ci := 5) (q0 := 0) (rest := []) C (fun hM => c_X5_critical l hM e1) gL_law_X5_critical rfl (by decide) ⟨rfl, rfl⟩ ⟨Nat.le_of_ble_eq_true rfl, Nat.le_of_ble_eq_true rfl⟩ rfl layX5 (by decide) rfl rfl rfl (Nat.le_of_ble_eq_true rfl) dL_law_895 ⟨by show k ≤ 601024; omega, by show n ≤ 7293034; omega⟩ (fun _ => ?_)
  refine w_aload_n C dL_law_898 2 rfl ?_
  refine w_callI (np := 0) (ci := 6) (q0 := 58) (rest := [.int (Int32.ofInt r)]) C (fun hM => c_X6_critical l hM e2) gL_law_X6_critical rfl (by decide) ⟨rfl, rfl⟩ ⟨Nat.le_of_ble_eq_true rfl, Nat.le_of_ble_eq_true rfl⟩ rfl lay58 (by decide) rfl rfl rfl (Nat.le_of_ble_eq_true rfl) dL_law_899 ⟨by show k ≤ 601024; omega, by show n ≤ 7293034; omega⟩ (fun _ => ?_)
  refine w_icmp_eq C 1434 dL_law_902 (by decide) rfl ?_
  exact w_widen (by omega) (by omega) (KK σ2 hT2)
set_option maxHeartbeats 4000000 in
set_option maxRecDepth 100000 in
theorem law_c15 (C : Cx p s m args meth c code "DoacrossSchedulerLaw" 7 wsL_law D cy (fun q : Nat => s.heap.size ≤ q)) (hX : zSX (fun q : Nat => s.heap.size ≤ q) s s.heap) (hNC : zNC s) (hl0 : l.stackTraces = false) {b L : Nat} {xs : Nat → Int32} (hXs : va_X b L xs s s.heap) (hbl : b < s.heap.size) (hL : L ≤ 1536) (hT : ST σ) {i : Int} (hi : 0 ≤ i ∧ i + 2 < (L : Int)) (hk : k + 1 ≤ 601024) (hn : n + 6 ≤ 7293034) (KK : ∀ σ2 : MM, ST σ2 → GL p l e room_1 s m args below meth c 7 D cy ad (fun q : Nat => s.heap.size ≤ q) Q 1434 [(0, .ref b), (1, .ref (ad 0)), (2, .ref (ad 58)), (3, .ref (ad 72)), (4, .int (Int32.ofInt i))] [] σ2 (k + 1) (n + 6)) : GL p l e room_1 s m args below meth c 7 D cy ad (fun q : Nat => s.heap.size ≤ q) Q 907 [(0, .ref b), (1, .ref (ad 0)), (2, .ref (ad 58)), (3, .ref (ad 72)), (4, .int (Int32.ofInt i))] [] σ k n := by
  have hbA : ¬ (fun q : Nat => s.heap.size ≤ q) b := Nat.not_le.mpr hbl
  have hL2 : L < 1000000 := by omega
  obtain ⟨xo, r, σ1, e1, hxo, hop⟩ := op_leastDelay hT
  obtain ⟨r2, σ2, e2, h58, hr, hT2, h72⟩ := hop (if xo = 0 then zup σ1 72 0 r else σ1) oW
  refine w_aload_n C dL_law_907 1 rfl ?_
  refine w_aload_n C dL_law_908 3 rfl ?_
  refine w_callW (np := 2) (rest := []) C hX hNC (fun hM => w_L_leastDelay l hl0 hM  e1 hxo) gL_law_L_leastDelay rfl (by decide) ⟨rfl, rfl⟩ ⟨Nat.le_of_ble_eq_true rfl, Nat.le_of_ble_eq_true rfl⟩ rfl rfl rfl (Nat.le_of_ble_eq_true rfl) dL_law_909 ⟨hk, hn⟩ ?_
  refine w_istore (vs' := [(5, .int (Int32.ofInt (kD xo))), (0, .ref b), (1, .ref (ad 0)), (2, .ref (ad 58)), (3, .ref (ad 72)), (4, .int (Int32.ofInt i))]) C dL_law_912 (by decide) rfl ?_
  refine w_aload_n C dL_law_914 3 rfl ?_
  refine w_callI (np := 0) (ci := 6) (q0 := 58) (rest := []) C (fun hM => c_X6_leastDelay l hM  e2) gL_law_X6_leastDelay rfl (by decide) ⟨rfl, rfl⟩ ⟨Nat.le_of_ble_eq_true rfl, Nat.le_of_ble_eq_true rfl⟩ rfl lay58 (by decide) rfl rfl rfl (Nat.le_of_ble_eq_true rfl) dL_law_915 ⟨hk, hn⟩ (fun hrg => ?_)
  refine w_istore (vs' := [(6, .int (Int32.ofInt r2)), (5, .int (Int32.ofInt (kD xo))), (0, .ref b), (1, .ref (ad 0)), (2, .ref (ad 58)), (3, .ref (ad 72)), (4, .int (Int32.ofInt i))]) C dL_law_918 (by decide) rfl ?_
  refine w_aload_n C dL_law_920 4 rfl ?_
  refine w_callI (np := 0) (ci := 6) (q0 := 58) (rest := []) (ro := σ2 58 3) C (fun hM => c_X6_thrown l hM rfl) gL_law_X6_thrown rfl (by decide) ⟨rfl, rfl⟩ ⟨Nat.le_of_ble_eq_true rfl, Nat.le_of_ble_eq_true rfl⟩ rfl lay58 (by decide) rfl rfl rfl (Nat.le_of_ble_eq_true rfl) dL_law_921 ⟨hk, hn⟩ (fun _ => ?_)
  refine w_iload C dL_law_924 1 rfl ?_
  refine w_icmp_eq C 931 dL_law_926 (by decide) (by rw [h58]) ?_
  refine w_iload C dL_law_931 1 rfl ?_
  by_cases e0 : xo = 0
  · subst e0
    have h72b : σ2 72 0 = r2 := by rw [h72, if_pos rfl, zup_s, hr rfl]
    refine w_if_ne C 948 dL_law_933 (by decide) (fun q => absurd rfl q) (fun _ => ?_)
    refine w_aload_n C dL_law_936 5 rfl ?_
    refine w_iconst C dL_law_937 ?_
    refine w_laload C dL_law_938 ?_
    refine w_iload C dL_law_939 0 rfl ?_
    refine w_i2l C (rgT_inR hrg) dL_law_941 ?_
    refine w_lcmpE C h72b dL_law_942 ?_
    refine w_if_eq0 C 948 dL_law_943 (by decide) ?_
    refine w_goto C 1434 dL_law_948 (by decide) ?_
    refine w_sub (vs' := [(0, .ref b), (1, .ref (ad 0)), (2, .ref (ad 58)), (3, .ref (ad 72)), (4, .int (Int32.ofInt i))]) [2, 3, 4, 5, 6] rfl ?_
    exact KK σ2 hT2
  · refine w_if_ne C 948 dL_law_933 (by decide) (fun _ => ?_) (fun q => absurd q (z_ne (hxo.resolve_left e0) (kle_D xo)))
    refine w_goto C 1434 dL_law_948 (by decide) ?_
    refine w_sub (vs' := [(0, .ref b), (1, .ref (ad 0)), (2, .ref (ad 58)), (3, .ref (ad 72)), (4, .int (Int32.ofInt i))]) [2, 3, 4, 5, 6] rfl ?_
    exact KK σ2 hT2
set_option maxHeartbeats 4000000 in
set_option maxRecDepth 100000 in
theorem law_c16 (C : Cx p s m args meth c code "DoacrossSchedulerLaw" 7 wsL_law D cy (fun q : Nat => s.heap.size ≤ q)) (hX : zSX (fun q : Nat => s.heap.size ≤ q) s s.heap) (hNC : zNC s) (hl0 : l.stackTraces = false) {b L : Nat} {xs : Nat → Int32} (hXs : va_X b L xs s s.heap) (hbl : b < s.heap.size) (hL : L ≤ 1536) (hT : ST σ) {i : Int} (hi : 0 ≤ i ∧ i + 2 < (L : Int)) (hk : k + 1 ≤ 601024) (hn : n + 6 ≤ 7293034) (KK : ∀ σ2 : MM, ST σ2 → GL p l e room_1 s m args below meth c 7 D cy ad (fun q : Nat => s.heap.size ≤ q) Q 1434 [(0, .ref b), (1, .ref (ad 0)), (2, .ref (ad 58)), (3, .ref (ad 72)), (4, .int (Int32.ofInt i))] [] σ2 (k + 1) (n + 6)) : GL p l e room_1 s m args below meth c 7 D cy ad (fun q : Nat => s.heap.size ≤ q) Q 951 [(0, .ref b), (1, .ref (ad 0)), (2, .ref (ad 58)), (3, .ref (ad 72)), (4, .int (Int32.ofInt i))] [] σ k n := by
  have hbA : ¬ (fun q : Nat => s.heap.size ≤ q) b := Nat.not_le.mpr hbl
  have hL2 : L < 1000000 := by omega
  obtain ⟨xo, r, σ1, e1, hxo, hop⟩ := op_reorder hT
  obtain ⟨r2, σ2, e2, h58, hr, hT2, h72⟩ := hop (if xo = 0 then zup σ1 72 0 r else σ1) oW
  refine w_aload_n C dL_law_951 1 rfl ?_
  refine w_aload_n C dL_law_952 3 rfl ?_
  refine w_callW (np := 2) (rest := []) C hX hNC (fun hM => w_L_reorder l hl0 hM  e1 hxo) gL_law_L_reorder rfl (by decide) ⟨rfl, rfl⟩ ⟨Nat.le_of_ble_eq_true rfl, Nat.le_of_ble_eq_true rfl⟩ rfl rfl rfl (Nat.le_of_ble_eq_true rfl) dL_law_953 ⟨hk, hn⟩ ?_
  refine w_istore (vs' := [(5, .int (Int32.ofInt (kD xo))), (0, .ref b), (1, .ref (ad 0)), (2, .ref (ad 58)), (3, .ref (ad 72)), (4, .int (Int32.ofInt i))]) C dL_law_956 (by decide) rfl ?_
  refine w_aload_n C dL_law_958 3 rfl ?_
  refine w_callI (np := 0) (ci := 6) (q0 := 58) (rest := []) C (fun hM => c_X6_reorder l hM  e2) gL_law_X6_reorder rfl (by decide) ⟨rfl, rfl⟩ ⟨Nat.le_of_ble_eq_true rfl, Nat.le_of_ble_eq_true rfl⟩ rfl lay58 (by decide) rfl rfl rfl (Nat.le_of_ble_eq_true rfl) dL_law_959 ⟨hk, hn⟩ (fun hrg => ?_)
  refine w_istore (vs' := [(6, .int (Int32.ofInt r2)), (5, .int (Int32.ofInt (kD xo))), (0, .ref b), (1, .ref (ad 0)), (2, .ref (ad 58)), (3, .ref (ad 72)), (4, .int (Int32.ofInt i))]) C dL_law_962 (by decide) rfl ?_
  refine w_aload_n C dL_law_964 4 rfl ?_
  refine w_callI (np := 0) (ci := 6) (q0 := 58) (rest := []) (ro := σ2 58 3) C (fun hM => c_X6_thrown l hM rfl) gL_law_X6_thrown rfl (by decide) ⟨rfl, rfl⟩ ⟨Nat.le_of_ble_eq_true rfl, Nat.le_of_ble_eq_true rfl⟩ rfl lay58 (by decide) rfl rfl rfl (Nat.le_of_ble_eq_true rfl) dL_law_965 ⟨hk, hn⟩ (fun _ => ?_)
  refine w_iload C dL_law_968 1 rfl ?_
  refine w_icmp_eq C 975 dL_law_970 (by decide) (by rw [h58]) ?_
  refine w_iload C dL_law_975 1 rfl ?_
  by_cases e0 : xo = 0
  · subst e0
    have h72b : σ2 72 0 = r2 := by rw [h72, if_pos rfl, zup_s, hr rfl]
    refine w_if_ne C 992 dL_law_977 (by decide) (fun q => absurd rfl q) (fun _ => ?_)
    refine w_aload_n C dL_law_980 5 rfl ?_
    refine w_iconst C dL_law_981 ?_
    refine w_laload C dL_law_982 ?_
    refine w_iload C dL_law_983 0 rfl ?_
    refine w_i2l C (rgT_inR hrg) dL_law_985 ?_
    refine w_lcmpE C h72b dL_law_986 ?_
    refine w_if_eq0 C 992 dL_law_987 (by decide) ?_
    refine w_goto C 1434 dL_law_992 (by decide) ?_
    refine w_sub (vs' := [(0, .ref b), (1, .ref (ad 0)), (2, .ref (ad 58)), (3, .ref (ad 72)), (4, .int (Int32.ofInt i))]) [2, 3, 4, 5, 6] rfl ?_
    exact KK σ2 hT2
  · refine w_if_ne C 992 dL_law_977 (by decide) (fun _ => ?_) (fun q => absurd q (z_ne (hxo.resolve_left e0) (kle_D xo)))
    refine w_goto C 1434 dL_law_992 (by decide) ?_
    refine w_sub (vs' := [(0, .ref b), (1, .ref (ad 0)), (2, .ref (ad 58)), (3, .ref (ad 72)), (4, .int (Int32.ofInt i))]) [2, 3, 4, 5, 6] rfl ?_
    exact KK σ2 hT2
set_option maxHeartbeats 4000000 in
set_option maxRecDepth 100000 in
theorem law_c17 (C : Cx p s m args meth c code "DoacrossSchedulerLaw" 7 wsL_law D cy (fun q : Nat => s.heap.size ≤ q)) (hX : zSX (fun q : Nat => s.heap.size ≤ q) s s.heap) (hNC : zNC s) (hl0 : l.stackTraces = false) {b L : Nat} {xs : Nat → Int32} (hXs : va_X b L xs s s.heap) (hbl : b < s.heap.size) (hL : L ≤ 1536) (hT : ST σ) {i : Int} (hi : 0 ≤ i ∧ i + 2 < (L : Int)) (hk : k + 1 ≤ 601024) (hn : n + 6 ≤ 7293034) (KK : ∀ σ2 : MM, ST σ2 → GL p l e room_1 s m args below meth c 7 D cy ad (fun q : Nat => s.heap.size ≤ q) Q 1434 [(0, .ref b), (1, .ref (ad 0)), (2, .ref (ad 58)), (3, .ref (ad 72)), (4, .int (Int32.ofInt i))] [] σ2 (k + 1) (n + 6)) : GL p l e room_1 s m args below meth c 7 D cy ad (fun q : Nat => s.heap.size ≤ q) Q 995 [(0, .ref b), (1, .ref (ad 0)), (2, .ref (ad 58)), (3, .ref (ad 72)), (4, .int (Int32.ofInt i))] [] σ k n := by
  have hbA : ¬ (fun q : Nat => s.heap.size ≤ q) b := Nat.not_le.mpr hbl
  have hL2 : L < 1000000 := by omega
  obtain ⟨r, σ1, σ2, e1, e2, hT2⟩ := op_length hT
  refine w_aload_n C dL_law_995 1 rfl ?_
  refine w_callI (np := 0) (ci := 5) (q0 := 0) (rest := []) C (fun hM => c_X5_length l hM e1) gL_law_X5_length rfl (by decide) ⟨rfl, rfl⟩ ⟨Nat.le_of_ble_eq_true rfl, Nat.le_of_ble_eq_true rfl⟩ rfl layX5 (by decide) rfl rfl rfl (Nat.le_of_ble_eq_true rfl) dL_law_996 ⟨by show k ≤ 601024; omega, by show n ≤ 7293034; omega⟩ (fun _ => ?_)
  refine w_aload_n C dL_law_999 2 rfl ?_
  refine w_callI (np := 0) (ci := 6) (q0 := 58) (rest := [.int (Int32.ofInt r)]) C (fun hM => c_X6_length l hM e2) gL_law_X6_length rfl (by decide) ⟨rfl, rfl⟩ ⟨Nat.le_of_ble_eq_true rfl, Nat.le_of_ble_eq_true rfl⟩ rfl lay58 (by decide) rfl rfl rfl (Nat.le_of_ble_eq_true rfl) dL_law_1000 ⟨by show k ≤ 601024; omega, by show n ≤ 7293034; omega⟩ (fun _ => ?_)
  refine w_icmp_eq C 1434 dL_law_1003 (by decide) rfl ?_
  exact w_widen (by omega) (by omega) (KK σ2 hT2)
set_option maxHeartbeats 4000000 in
set_option maxRecDepth 100000 in
theorem law_c18 (C : Cx p s m args meth c code "DoacrossSchedulerLaw" 7 wsL_law D cy (fun q : Nat => s.heap.size ≤ q)) (hX : zSX (fun q : Nat => s.heap.size ≤ q) s s.heap) (hNC : zNC s) (hl0 : l.stackTraces = false) {b L : Nat} {xs : Nat → Int32} (hXs : va_X b L xs s s.heap) (hbl : b < s.heap.size) (hL : L ≤ 1536) (hT : ST σ) {i : Int} (hi : 0 ≤ i ∧ i + 2 < (L : Int)) (hk : k + 1 ≤ 601024) (hn : n + 6 ≤ 7293034) (KK : ∀ σ2 : MM, ST σ2 → GL p l e room_1 s m args below meth c 7 D cy ad (fun q : Nat => s.heap.size ≤ q) Q 1434 [(0, .ref b), (1, .ref (ad 0)), (2, .ref (ad 58)), (3, .ref (ad 72)), (4, .int (Int32.ofInt i))] [] σ2 (k + 1) (n + 6)) : GL p l e room_1 s m args below meth c 7 D cy ad (fun q : Nat => s.heap.size ≤ q) Q 1008 [(0, .ref b), (1, .ref (ad 0)), (2, .ref (ad 58)), (3, .ref (ad 72)), (4, .int (Int32.ofInt i))] [] σ k n := by
  have hbA : ¬ (fun q : Nat => s.heap.size ≤ q) b := Nat.not_le.mpr hbl
  have hL2 : L < 1000000 := by omega
  obtain ⟨xo, r, σ1, e1, hxo, hop⟩ := op_start hT (xs (i + 1).toNat).toInt (xs (i + 2).toNat).toInt
  obtain ⟨r2, σ2, e2, h58, hr, hT2, h72⟩ := hop (if xo = 0 then zup σ1 72 0 r else σ1) oW
  refine w_aload_n C dL_law_1008 1 rfl ?_
  refine w_aload_n C dL_law_1009 0 rfl ?_
  refine w_iload C dL_law_1010 4 rfl ?_
  refine w_iconst C dL_law_1012 ?_
  refine w_iadd C dL_law_1013 ?_
  refine w_sld C hXs hbl hbA hL2 (by omega) dL_law_1014 ?_
  refine w_aload_n C dL_law_1015 0 rfl ?_
  refine w_iload C dL_law_1016 4 rfl ?_
  refine w_iconst C dL_law_1018 ?_
  refine w_iadd C dL_law_1019 ?_
  refine w_sld C hXs hbl hbA hL2 (by omega) dL_law_1020 ?_
  refine w_aload_n C dL_law_1021 3 rfl ?_
  refine w_callW (np := 4) (rest := []) C hX hNC (fun hM => w_L_start l hl0 hM (r32 (xs (i + 1).toNat)) (r32 (xs (i + 2).toNat)) e1 hxo) gL_law_L_start rfl (by decide) ⟨rfl, rfl⟩ ⟨Nat.le_of_ble_eq_true rfl, Nat.le_of_ble_eq_true rfl⟩ rfl rfl rfl (Nat.le_of_ble_eq_true rfl) dL_law_1022 ⟨hk, hn⟩ ?_
  refine w_istore (vs' := [(5, .int (Int32.ofInt (kF xo))), (0, .ref b), (1, .ref (ad 0)), (2, .ref (ad 58)), (3, .ref (ad 72)), (4, .int (Int32.ofInt i))]) C dL_law_1025 (by decide) rfl ?_
  refine w_aload_n C dL_law_1027 3 rfl ?_
  refine w_aload_n C dL_law_1028 1 rfl ?_
  refine w_iload C dL_law_1029 5 rfl ?_
  refine w_iconst C dL_law_1031 ?_
  refine w_iadd C dL_law_1032 ?_
  refine w_sld C hXs hbl hbA hL2 (by omega) dL_law_1033 ?_
  refine w_aload_n C dL_law_1034 1 rfl ?_
  refine w_iload C dL_law_1035 5 rfl ?_
  refine w_iconst C dL_law_1037 ?_
  refine w_iadd C dL_law_1038 ?_
  refine w_sld C hXs hbl hbA hL2 (by omega) dL_law_1039 ?_
  refine w_callI (np := 2) (ci := 6) (q0 := 58) (rest := []) C (fun hM => c_X6_start l hM (r32 (xs (i + 1).toNat)) (r32 (xs (i + 2).toNat)) e2) gL_law_X6_start rfl (by decide) ⟨rfl, rfl⟩ ⟨Nat.le_of_ble_eq_true rfl, Nat.le_of_ble_eq_true rfl⟩ rfl lay58 (by decide) rfl rfl rfl (Nat.le_of_ble_eq_true rfl) dL_law_1040 ⟨hk, hn⟩ (fun hrg => ?_)
  refine w_istore (vs' := [(6, .int (Int32.ofInt r2)), (5, .int (Int32.ofInt (kF xo))), (0, .ref b), (1, .ref (ad 0)), (2, .ref (ad 58)), (3, .ref (ad 72)), (4, .int (Int32.ofInt i))]) C dL_law_1043 (by decide) rfl ?_
  refine w_aload_n C dL_law_1045 4 rfl ?_
  refine w_callI (np := 0) (ci := 6) (q0 := 58) (rest := []) (ro := σ2 58 3) C (fun hM => c_X6_thrown l hM rfl) gL_law_X6_thrown rfl (by decide) ⟨rfl, rfl⟩ ⟨Nat.le_of_ble_eq_true rfl, Nat.le_of_ble_eq_true rfl⟩ rfl lay58 (by decide) rfl rfl rfl (Nat.le_of_ble_eq_true rfl) dL_law_1046 ⟨hk, hn⟩ (fun _ => ?_)
  refine w_iload C dL_law_1049 1 rfl ?_
  refine w_icmp_eq C 1056 dL_law_1051 (by decide) (by rw [h58]) ?_
  refine w_iload C dL_law_1056 1 rfl ?_
  by_cases e0 : xo = 0
  · subst e0
    have h72b : σ2 72 0 = r2 := by rw [h72, if_pos rfl, zup_s, hr rfl]
    refine w_if_ne C 1073 dL_law_1058 (by decide) (fun q => absurd rfl q) (fun _ => ?_)
    refine w_aload_n C dL_law_1061 5 rfl ?_
    refine w_iconst C dL_law_1062 ?_
    refine w_laload C dL_law_1063 ?_
    refine w_iload C dL_law_1064 0 rfl ?_
    refine w_i2l C (rgT_inR hrg) dL_law_1066 ?_
    refine w_lcmpE C h72b dL_law_1067 ?_
    refine w_if_eq0 C 1073 dL_law_1068 (by decide) ?_
    refine w_goto C 1434 dL_law_1073 (by decide) ?_
    refine w_sub (vs' := [(0, .ref b), (1, .ref (ad 0)), (2, .ref (ad 58)), (3, .ref (ad 72)), (4, .int (Int32.ofInt i))]) [2, 3, 4, 5, 6] rfl ?_
    exact KK σ2 hT2
  · refine w_if_ne C 1073 dL_law_1058 (by decide) (fun _ => ?_) (fun q => absurd q (z_ne (hxo.resolve_left e0) (kle_F xo)))
    refine w_goto C 1434 dL_law_1073 (by decide) ?_
    refine w_sub (vs' := [(0, .ref b), (1, .ref (ad 0)), (2, .ref (ad 58)), (3, .ref (ad 72)), (4, .int (Int32.ofInt i))]) [2, 3, 4, 5, 6] rfl ?_
    exact KK σ2 hT2
set_option maxHeartbeats 4000000 in
set_option maxRecDepth 100000 in
theorem law_c19 (C : Cx p s m args meth c code "DoacrossSchedulerLaw" 7 wsL_law D cy (fun q : Nat => s.heap.size ≤ q)) (hX : zSX (fun q : Nat => s.heap.size ≤ q) s s.heap) (hNC : zNC s) (hl0 : l.stackTraces = false) {b L : Nat} {xs : Nat → Int32} (hXs : va_X b L xs s s.heap) (hbl : b < s.heap.size) (hL : L ≤ 1536) (hT : ST σ) {i : Int} (hi : 0 ≤ i ∧ i + 2 < (L : Int)) (hk : k + 1 ≤ 601024) (hn : n + 6 ≤ 7293034) (KK : ∀ σ2 : MM, ST σ2 → GL p l e room_1 s m args below meth c 7 D cy ad (fun q : Nat => s.heap.size ≤ q) Q 1434 [(0, .ref b), (1, .ref (ad 0)), (2, .ref (ad 58)), (3, .ref (ad 72)), (4, .int (Int32.ofInt i))] [] σ2 (k + 1) (n + 6)) : GL p l e room_1 s m args below meth c 7 D cy ad (fun q : Nat => s.heap.size ≤ q) Q 1076 [(0, .ref b), (1, .ref (ad 0)), (2, .ref (ad 58)), (3, .ref (ad 72)), (4, .int (Int32.ofInt i))] [] σ k n := by
  have hbA : ¬ (fun q : Nat => s.heap.size ≤ q) b := Nat.not_le.mpr hbl
  have hL2 : L < 1000000 := by omega
  obtain ⟨xo, r, σ1, e1, hxo, hop⟩ := op_processor hT (xs (i + 1).toNat).toInt
  obtain ⟨r2, σ2, e2, h58, hr, hT2, h72⟩ := hop (if xo = 0 then zup σ1 72 0 r else σ1) oW
  refine w_aload_n C dL_law_1076 1 rfl ?_
  refine w_aload_n C dL_law_1077 0 rfl ?_
  refine w_iload C dL_law_1078 4 rfl ?_
  refine w_iconst C dL_law_1080 ?_
  refine w_iadd C dL_law_1081 ?_
  refine w_sld C hXs hbl hbA hL2 (by omega) dL_law_1082 ?_
  refine w_aload_n C dL_law_1083 3 rfl ?_
  refine w_callW (np := 3) (rest := []) C hX hNC (fun hM => w_L_processor l hl0 hM (r32 (xs (i + 1).toNat)) e1 hxo) gL_law_L_processor rfl (by decide) ⟨rfl, rfl⟩ ⟨Nat.le_of_ble_eq_true rfl, Nat.le_of_ble_eq_true rfl⟩ rfl rfl rfl (Nat.le_of_ble_eq_true rfl) dL_law_1084 ⟨hk, hn⟩ ?_
  refine w_istore (vs' := [(5, .int (Int32.ofInt (kF xo))), (0, .ref b), (1, .ref (ad 0)), (2, .ref (ad 58)), (3, .ref (ad 72)), (4, .int (Int32.ofInt i))]) C dL_law_1087 (by decide) rfl ?_
  refine w_aload_n C dL_law_1089 3 rfl ?_
  refine w_aload_n C dL_law_1090 1 rfl ?_
  refine w_iload C dL_law_1091 5 rfl ?_
  refine w_iconst C dL_law_1093 ?_
  refine w_iadd C dL_law_1094 ?_
  refine w_sld C hXs hbl hbA hL2 (by omega) dL_law_1095 ?_
  refine w_callI (np := 1) (ci := 6) (q0 := 58) (rest := []) C (fun hM => c_X6_processor l hM (r32 (xs (i + 1).toNat)) e2) gL_law_X6_processor rfl (by decide) ⟨rfl, rfl⟩ ⟨Nat.le_of_ble_eq_true rfl, Nat.le_of_ble_eq_true rfl⟩ rfl lay58 (by decide) rfl rfl rfl (Nat.le_of_ble_eq_true rfl) dL_law_1096 ⟨hk, hn⟩ (fun hrg => ?_)
  refine w_istore (vs' := [(6, .int (Int32.ofInt r2)), (5, .int (Int32.ofInt (kF xo))), (0, .ref b), (1, .ref (ad 0)), (2, .ref (ad 58)), (3, .ref (ad 72)), (4, .int (Int32.ofInt i))]) C dL_law_1099 (by decide) rfl ?_
  refine w_aload_n C dL_law_1101 4 rfl ?_
  refine w_callI (np := 0) (ci := 6) (q0 := 58) (rest := []) (ro := σ2 58 3) C (fun hM => c_X6_thrown l hM rfl) gL_law_X6_thrown rfl (by decide) ⟨rfl, rfl⟩ ⟨Nat.le_of_ble_eq_true rfl, Nat.le_of_ble_eq_true rfl⟩ rfl lay58 (by decide) rfl rfl rfl (Nat.le_of_ble_eq_true rfl) dL_law_1102 ⟨hk, hn⟩ (fun _ => ?_)
  refine w_iload C dL_law_1105 1 rfl ?_
  refine w_icmp_eq C 1112 dL_law_1107 (by decide) (by rw [h58]) ?_
  refine w_iload C dL_law_1112 1 rfl ?_
  by_cases e0 : xo = 0
  · subst e0
    have h72b : σ2 72 0 = r2 := by rw [h72, if_pos rfl, zup_s, hr rfl]
    refine w_if_ne C 1129 dL_law_1114 (by decide) (fun q => absurd rfl q) (fun _ => ?_)
    refine w_aload_n C dL_law_1117 5 rfl ?_
    refine w_iconst C dL_law_1118 ?_
    refine w_laload C dL_law_1119 ?_
    refine w_iload C dL_law_1120 0 rfl ?_
    refine w_i2l C (rgT_inR hrg) dL_law_1122 ?_
    refine w_lcmpE C h72b dL_law_1123 ?_
    refine w_if_eq0 C 1129 dL_law_1124 (by decide) ?_
    refine w_goto C 1434 dL_law_1129 (by decide) ?_
    refine w_sub (vs' := [(0, .ref b), (1, .ref (ad 0)), (2, .ref (ad 58)), (3, .ref (ad 72)), (4, .int (Int32.ofInt i))]) [2, 3, 4, 5, 6] rfl ?_
    exact KK σ2 hT2
  · refine w_if_ne C 1129 dL_law_1114 (by decide) (fun _ => ?_) (fun q => absurd q (z_ne (hxo.resolve_left e0) (kle_F xo)))
    refine w_goto C 1434 dL_law_1129 (by decide) ?_
    refine w_sub (vs' := [(0, .ref b), (1, .ref (ad 0)), (2, .ref (ad 58)), (3, .ref (ad 72)), (4, .int (Int32.ofInt i))]) [2, 3, 4, 5, 6] rfl ?_
    exact KK σ2 hT2
set_option maxHeartbeats 4000000 in
set_option maxRecDepth 100000 in
theorem law_c20 (C : Cx p s m args meth c code "DoacrossSchedulerLaw" 7 wsL_law D cy (fun q : Nat => s.heap.size ≤ q)) (hX : zSX (fun q : Nat => s.heap.size ≤ q) s s.heap) (hNC : zNC s) (hl0 : l.stackTraces = false) {b L : Nat} {xs : Nat → Int32} (hXs : va_X b L xs s s.heap) (hbl : b < s.heap.size) (hL : L ≤ 1536) (hT : ST σ) {i : Int} (hi : 0 ≤ i ∧ i + 2 < (L : Int)) (hk : k + 1 ≤ 601024) (hn : n + 6 ≤ 7293034) (KK : ∀ σ2 : MM, ST σ2 → GL p l e room_1 s m args below meth c 7 D cy ad (fun q : Nat => s.heap.size ≤ q) Q 1434 [(0, .ref b), (1, .ref (ad 0)), (2, .ref (ad 58)), (3, .ref (ad 72)), (4, .int (Int32.ofInt i))] [] σ2 (k + 1) (n + 6)) : GL p l e room_1 s m args below meth c 7 D cy ad (fun q : Nat => s.heap.size ≤ q) Q 1132 [(0, .ref b), (1, .ref (ad 0)), (2, .ref (ad 58)), (3, .ref (ad 72)), (4, .int (Int32.ofInt i))] [] σ k n := by
  have hbA : ¬ (fun q : Nat => s.heap.size ≤ q) b := Nat.not_le.mpr hbl
  have hL2 : L < 1000000 := by omega
  obtain ⟨xo, r, σ1, e1, hxo, hop⟩ := op_total hT (xs (i + 1).toNat).toInt (xs (i + 2).toNat).toInt
  obtain ⟨r2, σ2, e2, h58, hr, hT2, h72⟩ := hop (if xo = 0 then zup σ1 72 0 r else σ1) oW
  refine w_aload_n C dL_law_1132 1 rfl ?_
  refine w_aload_n C dL_law_1133 0 rfl ?_
  refine w_iload C dL_law_1134 4 rfl ?_
  refine w_iconst C dL_law_1136 ?_
  refine w_iadd C dL_law_1137 ?_
  refine w_sld C hXs hbl hbA hL2 (by omega) dL_law_1138 ?_
  refine w_aload_n C dL_law_1139 0 rfl ?_
  refine w_iload C dL_law_1140 4 rfl ?_
  refine w_iconst C dL_law_1142 ?_
  refine w_iadd C dL_law_1143 ?_
  refine w_sld C hXs hbl hbA hL2 (by omega) dL_law_1144 ?_
  refine w_aload_n C dL_law_1145 3 rfl ?_
  refine w_callW (np := 4) (rest := []) C hX hNC (fun hM => w_L_total l hl0 hM (r32 (xs (i + 1).toNat)) (r32 (xs (i + 2).toNat)) e1 hxo) gL_law_L_total rfl (by decide) ⟨rfl, rfl⟩ ⟨Nat.le_of_ble_eq_true rfl, Nat.le_of_ble_eq_true rfl⟩ rfl rfl rfl (Nat.le_of_ble_eq_true rfl) dL_law_1146 ⟨hk, hn⟩ ?_
  refine w_istore (vs' := [(5, .int (Int32.ofInt (kB2 xo))), (0, .ref b), (1, .ref (ad 0)), (2, .ref (ad 58)), (3, .ref (ad 72)), (4, .int (Int32.ofInt i))]) C dL_law_1149 (by decide) rfl ?_
  refine w_aload_n C dL_law_1151 3 rfl ?_
  refine w_aload_n C dL_law_1152 1 rfl ?_
  refine w_iload C dL_law_1153 5 rfl ?_
  refine w_iconst C dL_law_1155 ?_
  refine w_iadd C dL_law_1156 ?_
  refine w_sld C hXs hbl hbA hL2 (by omega) dL_law_1157 ?_
  refine w_aload_n C dL_law_1158 1 rfl ?_
  refine w_iload C dL_law_1159 5 rfl ?_
  refine w_iconst C dL_law_1161 ?_
  refine w_iadd C dL_law_1162 ?_
  refine w_sld C hXs hbl hbA hL2 (by omega) dL_law_1163 ?_
  refine w_callI (np := 2) (ci := 6) (q0 := 58) (rest := []) C (fun hM => c_X6_total l hM (r32 (xs (i + 1).toNat)) (r32 (xs (i + 2).toNat)) e2) gL_law_X6_total rfl (by decide) ⟨rfl, rfl⟩ ⟨Nat.le_of_ble_eq_true rfl, Nat.le_of_ble_eq_true rfl⟩ rfl lay58 (by decide) rfl rfl rfl (Nat.le_of_ble_eq_true rfl) dL_law_1164 ⟨hk, hn⟩ (fun hrg => ?_)
  refine w_istore (vs' := [(6, .int (Int32.ofInt r2)), (5, .int (Int32.ofInt (kB2 xo))), (0, .ref b), (1, .ref (ad 0)), (2, .ref (ad 58)), (3, .ref (ad 72)), (4, .int (Int32.ofInt i))]) C dL_law_1167 (by decide) rfl ?_
  refine w_aload_n C dL_law_1169 4 rfl ?_
  refine w_callI (np := 0) (ci := 6) (q0 := 58) (rest := []) (ro := σ2 58 3) C (fun hM => c_X6_thrown l hM rfl) gL_law_X6_thrown rfl (by decide) ⟨rfl, rfl⟩ ⟨Nat.le_of_ble_eq_true rfl, Nat.le_of_ble_eq_true rfl⟩ rfl lay58 (by decide) rfl rfl rfl (Nat.le_of_ble_eq_true rfl) dL_law_1170 ⟨hk, hn⟩ (fun _ => ?_)
  refine w_iload C dL_law_1173 1 rfl ?_
  refine w_icmp_eq C 1180 dL_law_1175 (by decide) (by rw [h58]) ?_
  refine w_iload C dL_law_1180 1 rfl ?_
  by_cases e0 : xo = 0
  · subst e0
    have h72b : σ2 72 0 = r2 := by rw [h72, if_pos rfl, zup_s, hr rfl]
    refine w_if_ne C 1197 dL_law_1182 (by decide) (fun q => absurd rfl q) (fun _ => ?_)
    refine w_aload_n C dL_law_1185 5 rfl ?_
    refine w_iconst C dL_law_1186 ?_
    refine w_laload C dL_law_1187 ?_
    refine w_iload C dL_law_1188 0 rfl ?_
    refine w_i2l C (rgT_inR hrg) dL_law_1190 ?_
    refine w_lcmpE C h72b dL_law_1191 ?_
    refine w_if_eq0 C 1197 dL_law_1192 (by decide) ?_
    refine w_goto C 1434 dL_law_1197 (by decide) ?_
    refine w_sub (vs' := [(0, .ref b), (1, .ref (ad 0)), (2, .ref (ad 58)), (3, .ref (ad 72)), (4, .int (Int32.ofInt i))]) [2, 3, 4, 5, 6] rfl ?_
    exact KK σ2 hT2
  · refine w_if_ne C 1197 dL_law_1182 (by decide) (fun _ => ?_) (fun q => absurd q (z_ne (hxo.resolve_left e0) (kle_B2 xo)))
    refine w_goto C 1434 dL_law_1197 (by decide) ?_
    refine w_sub (vs' := [(0, .ref b), (1, .ref (ad 0)), (2, .ref (ad 58)), (3, .ref (ad 72)), (4, .int (Int32.ofInt i))]) [2, 3, 4, 5, 6] rfl ?_
    exact KK σ2 hT2
set_option maxHeartbeats 4000000 in
set_option maxRecDepth 100000 in
theorem law_c21 (C : Cx p s m args meth c code "DoacrossSchedulerLaw" 7 wsL_law D cy (fun q : Nat => s.heap.size ≤ q)) (hX : zSX (fun q : Nat => s.heap.size ≤ q) s s.heap) (hNC : zNC s) (hl0 : l.stackTraces = false) {b L : Nat} {xs : Nat → Int32} (hXs : va_X b L xs s s.heap) (hbl : b < s.heap.size) (hL : L ≤ 1536) (hT : ST σ) {i : Int} (hi : 0 ≤ i ∧ i + 2 < (L : Int)) (hk : k + 1 ≤ 601024) (hn : n + 6 ≤ 7293034) (KK : ∀ σ2 : MM, ST σ2 → GL p l e room_1 s m args below meth c 7 D cy ad (fun q : Nat => s.heap.size ≤ q) Q 1434 [(0, .ref b), (1, .ref (ad 0)), (2, .ref (ad 58)), (3, .ref (ad 72)), (4, .int (Int32.ofInt i))] [] σ2 (k + 1) (n + 6)) : GL p l e room_1 s m args below meth c 7 D cy ad (fun q : Nat => s.heap.size ≤ q) Q 1200 [(0, .ref b), (1, .ref (ad 0)), (2, .ref (ad 58)), (3, .ref (ad 72)), (4, .int (Int32.ofInt i))] [] σ k n := by
  have hbA : ¬ (fun q : Nat => s.heap.size ≤ q) b := Nat.not_le.mpr hbl
  have hL2 : L < 1000000 := by omega
  obtain ⟨r, σ1, σ2, e1, e2, hT2⟩ := op_fill hT
  refine w_aload_n C dL_law_1200 1 rfl ?_
  refine w_callI (np := 0) (ci := 5) (q0 := 0) (rest := []) C (fun hM => c_X5_fill l hM e1) gL_law_X5_fill rfl (by decide) ⟨rfl, rfl⟩ ⟨Nat.le_of_ble_eq_true rfl, Nat.le_of_ble_eq_true rfl⟩ rfl layX5 (by decide) rfl rfl rfl (Nat.le_of_ble_eq_true rfl) dL_law_1201 ⟨by show k ≤ 601024; omega, by show n ≤ 7293034; omega⟩ (fun _ => ?_)
  refine w_aload_n C dL_law_1204 2 rfl ?_
  refine w_callI (np := 0) (ci := 6) (q0 := 58) (rest := [.int (Int32.ofInt r)]) C (fun hM => c_X6_fill l hM e2) gL_law_X6_fill rfl (by decide) ⟨rfl, rfl⟩ ⟨Nat.le_of_ble_eq_true rfl, Nat.le_of_ble_eq_true rfl⟩ rfl lay58 (by decide) rfl rfl rfl (Nat.le_of_ble_eq_true rfl) dL_law_1205 ⟨by show k ≤ 601024; omega, by show n ≤ 7293034; omega⟩ (fun _ => ?_)
  refine w_icmp_eq C 1434 dL_law_1208 (by decide) rfl ?_
  exact w_widen (by omega) (by omega) (KK σ2 hT2)
set_option maxHeartbeats 4000000 in
set_option maxRecDepth 100000 in
theorem law_c22 (C : Cx p s m args meth c code "DoacrossSchedulerLaw" 7 wsL_law D cy (fun q : Nat => s.heap.size ≤ q)) (hX : zSX (fun q : Nat => s.heap.size ≤ q) s s.heap) (hNC : zNC s) (hl0 : l.stackTraces = false) {b L : Nat} {xs : Nat → Int32} (hXs : va_X b L xs s s.heap) (hbl : b < s.heap.size) (hL : L ≤ 1536) (hT : ST σ) {i : Int} (hi : 0 ≤ i ∧ i + 2 < (L : Int)) (hk : k + 1 ≤ 601024) (hn : n + 6 ≤ 7293034) (KK : ∀ σ2 : MM, ST σ2 → GL p l e room_1 s m args below meth c 7 D cy ad (fun q : Nat => s.heap.size ≤ q) Q 1434 [(0, .ref b), (1, .ref (ad 0)), (2, .ref (ad 58)), (3, .ref (ad 72)), (4, .int (Int32.ofInt i))] [] σ2 (k + 1) (n + 6)) : GL p l e room_1 s m args below meth c 7 D cy ad (fun q : Nat => s.heap.size ≤ q) Q 1213 [(0, .ref b), (1, .ref (ad 0)), (2, .ref (ad 58)), (3, .ref (ad 72)), (4, .int (Int32.ofInt i))] [] σ k n := by
  have hbA : ¬ (fun q : Nat => s.heap.size ≤ q) b := Nat.not_le.mpr hbl
  have hL2 : L < 1000000 := by omega
  obtain ⟨r, σ1, σ2, e1, e2, hT2⟩ := op_drain hT
  refine w_aload_n C dL_law_1213 1 rfl ?_
  refine w_callI (np := 0) (ci := 5) (q0 := 0) (rest := []) C (fun hM => c_X5_drain l hM e1) gL_law_X5_drain rfl (by decide) ⟨rfl, rfl⟩ ⟨Nat.le_of_ble_eq_true rfl, Nat.le_of_ble_eq_true rfl⟩ rfl layX5 (by decide) rfl rfl rfl (Nat.le_of_ble_eq_true rfl) dL_law_1214 ⟨by show k ≤ 601024; omega, by show n ≤ 7293034; omega⟩ (fun _ => ?_)
  refine w_aload_n C dL_law_1217 2 rfl ?_
  refine w_callI (np := 0) (ci := 6) (q0 := 58) (rest := [.int (Int32.ofInt r)]) C (fun hM => c_X6_drain l hM e2) gL_law_X6_drain rfl (by decide) ⟨rfl, rfl⟩ ⟨Nat.le_of_ble_eq_true rfl, Nat.le_of_ble_eq_true rfl⟩ rfl lay58 (by decide) rfl rfl rfl (Nat.le_of_ble_eq_true rfl) dL_law_1218 ⟨by show k ≤ 601024; omega, by show n ≤ 7293034; omega⟩ (fun _ => ?_)
  refine w_icmp_eq C 1434 dL_law_1221 (by decide) rfl ?_
  exact w_widen (by omega) (by omega) (KK σ2 hT2)
set_option maxHeartbeats 4000000 in
set_option maxRecDepth 100000 in
theorem law_c23 (C : Cx p s m args meth c code "DoacrossSchedulerLaw" 7 wsL_law D cy (fun q : Nat => s.heap.size ≤ q)) (hX : zSX (fun q : Nat => s.heap.size ≤ q) s s.heap) (hNC : zNC s) (hl0 : l.stackTraces = false) {b L : Nat} {xs : Nat → Int32} (hXs : va_X b L xs s s.heap) (hbl : b < s.heap.size) (hL : L ≤ 1536) (hT : ST σ) {i : Int} (hi : 0 ≤ i ∧ i + 2 < (L : Int)) (hk : k + 1 ≤ 601024) (hn : n + 6 ≤ 7293034) (KK : ∀ σ2 : MM, ST σ2 → GL p l e room_1 s m args below meth c 7 D cy ad (fun q : Nat => s.heap.size ≤ q) Q 1434 [(0, .ref b), (1, .ref (ad 0)), (2, .ref (ad 58)), (3, .ref (ad 72)), (4, .int (Int32.ofInt i))] [] σ2 (k + 1) (n + 6)) : GL p l e room_1 s m args below meth c 7 D cy ad (fun q : Nat => s.heap.size ≤ q) Q 1226 [(0, .ref b), (1, .ref (ad 0)), (2, .ref (ad 58)), (3, .ref (ad 72)), (4, .int (Int32.ofInt i))] [] σ k n := by
  have hbA : ¬ (fun q : Nat => s.heap.size ≤ q) b := Nat.not_le.mpr hbl
  have hL2 : L < 1000000 := by omega
  obtain ⟨xo, r, σ1, e1, hxo, hop⟩ := op_speedUp hT (xs (i + 1).toNat).toInt
  obtain ⟨r2, σ2, e2, h58, hr, hT2, h72⟩ := hop (if xo = 0 then zup σ1 72 0 r else σ1) oW
  refine w_aload_n C dL_law_1226 1 rfl ?_
  refine w_aload_n C dL_law_1227 0 rfl ?_
  refine w_iload C dL_law_1228 4 rfl ?_
  refine w_iconst C dL_law_1230 ?_
  refine w_iadd C dL_law_1231 ?_
  refine w_sld C hXs hbl hbA hL2 (by omega) dL_law_1232 ?_
  refine w_aload_n C dL_law_1233 3 rfl ?_
  refine w_callW (np := 3) (rest := []) C hX hNC (fun hM => w_L_speedUp l hl0 hM (r32 (xs (i + 1).toNat)) e1 hxo) gL_law_L_speedUp rfl (by decide) ⟨rfl, rfl⟩ ⟨Nat.le_of_ble_eq_true rfl, Nat.le_of_ble_eq_true rfl⟩ rfl rfl rfl (Nat.le_of_ble_eq_true rfl) dL_law_1234 ⟨hk, hn⟩ ?_
  refine w_istore (vs' := [(5, .int (Int32.ofInt (kA2 xo))), (0, .ref b), (1, .ref (ad 0)), (2, .ref (ad 58)), (3, .ref (ad 72)), (4, .int (Int32.ofInt i))]) C dL_law_1237 (by decide) rfl ?_
  refine w_aload_n C dL_law_1239 3 rfl ?_
  refine w_aload_n C dL_law_1240 1 rfl ?_
  refine w_iload C dL_law_1241 5 rfl ?_
  refine w_iconst C dL_law_1243 ?_
  refine w_iadd C dL_law_1244 ?_
  refine w_sld C hXs hbl hbA hL2 (by omega) dL_law_1245 ?_
  refine w_callI (np := 1) (ci := 6) (q0 := 58) (rest := []) C (fun hM => c_X6_speedUp l hM (r32 (xs (i + 1).toNat)) e2) gL_law_X6_speedUp rfl (by decide) ⟨rfl, rfl⟩ ⟨Nat.le_of_ble_eq_true rfl, Nat.le_of_ble_eq_true rfl⟩ rfl lay58 (by decide) rfl rfl rfl (Nat.le_of_ble_eq_true rfl) dL_law_1246 ⟨hk, hn⟩ (fun hrg => ?_)
  refine w_istore (vs' := [(6, .int (Int32.ofInt r2)), (5, .int (Int32.ofInt (kA2 xo))), (0, .ref b), (1, .ref (ad 0)), (2, .ref (ad 58)), (3, .ref (ad 72)), (4, .int (Int32.ofInt i))]) C dL_law_1249 (by decide) rfl ?_
  refine w_aload_n C dL_law_1251 4 rfl ?_
  refine w_callI (np := 0) (ci := 6) (q0 := 58) (rest := []) (ro := σ2 58 3) C (fun hM => c_X6_thrown l hM rfl) gL_law_X6_thrown rfl (by decide) ⟨rfl, rfl⟩ ⟨Nat.le_of_ble_eq_true rfl, Nat.le_of_ble_eq_true rfl⟩ rfl lay58 (by decide) rfl rfl rfl (Nat.le_of_ble_eq_true rfl) dL_law_1252 ⟨hk, hn⟩ (fun _ => ?_)
  refine w_iload C dL_law_1255 1 rfl ?_
  refine w_icmp_eq C 1262 dL_law_1257 (by decide) (by rw [h58]) ?_
  refine w_iload C dL_law_1262 1 rfl ?_
  by_cases e0 : xo = 0
  · subst e0
    have h72b : σ2 72 0 = r2 := by rw [h72, if_pos rfl, zup_s, hr rfl]
    refine w_if_ne C 1279 dL_law_1264 (by decide) (fun q => absurd rfl q) (fun _ => ?_)
    refine w_aload_n C dL_law_1267 5 rfl ?_
    refine w_iconst C dL_law_1268 ?_
    refine w_laload C dL_law_1269 ?_
    refine w_iload C dL_law_1270 0 rfl ?_
    refine w_i2l C (rgT_inR hrg) dL_law_1272 ?_
    refine w_lcmpE C h72b dL_law_1273 ?_
    refine w_if_eq0 C 1279 dL_law_1274 (by decide) ?_
    refine w_goto C 1434 dL_law_1279 (by decide) ?_
    refine w_sub (vs' := [(0, .ref b), (1, .ref (ad 0)), (2, .ref (ad 58)), (3, .ref (ad 72)), (4, .int (Int32.ofInt i))]) [2, 3, 4, 5, 6] rfl ?_
    exact KK σ2 hT2
  · refine w_if_ne C 1279 dL_law_1264 (by decide) (fun _ => ?_) (fun q => absurd q (z_ne (hxo.resolve_left e0) (kle_A2 xo)))
    refine w_goto C 1434 dL_law_1279 (by decide) ?_
    refine w_sub (vs' := [(0, .ref b), (1, .ref (ad 0)), (2, .ref (ad 58)), (3, .ref (ad 72)), (4, .int (Int32.ofInt i))]) [2, 3, 4, 5, 6] rfl ?_
    exact KK σ2 hT2
set_option maxHeartbeats 4000000 in
set_option maxRecDepth 100000 in
theorem law_c24 (C : Cx p s m args meth c code "DoacrossSchedulerLaw" 7 wsL_law D cy (fun q : Nat => s.heap.size ≤ q)) (hX : zSX (fun q : Nat => s.heap.size ≤ q) s s.heap) (hNC : zNC s) (hl0 : l.stackTraces = false) {b L : Nat} {xs : Nat → Int32} (hXs : va_X b L xs s s.heap) (hbl : b < s.heap.size) (hL : L ≤ 1536) (hT : ST σ) {i : Int} (hi : 0 ≤ i ∧ i + 2 < (L : Int)) (hk : k + 1 ≤ 601024) (hn : n + 6 ≤ 7293034) (KK : ∀ σ2 : MM, ST σ2 → GL p l e room_1 s m args below meth c 7 D cy ad (fun q : Nat => s.heap.size ≤ q) Q 1434 [(0, .ref b), (1, .ref (ad 0)), (2, .ref (ad 58)), (3, .ref (ad 72)), (4, .int (Int32.ofInt i))] [] σ2 (k + 1) (n + 6)) : GL p l e room_1 s m args below meth c 7 D cy ad (fun q : Nat => s.heap.size ≤ q) Q 1282 [(0, .ref b), (1, .ref (ad 0)), (2, .ref (ad 58)), (3, .ref (ad 72)), (4, .int (Int32.ofInt i))] [] σ k n := by
  have hbA : ¬ (fun q : Nat => s.heap.size ≤ q) b := Nat.not_le.mpr hbl
  have hL2 : L < 1000000 := by omega
  obtain ⟨r, σ1, σ2, e1, e2, hT2⟩ := op_bestProcessors hT
  refine w_aload_n C dL_law_1282 1 rfl ?_
  refine w_callI (np := 0) (ci := 5) (q0 := 0) (rest := []) C (fun hM => c_X5_bestProcessors l hM e1) gL_law_X5_bestProcessors rfl (by decide) ⟨rfl, rfl⟩ ⟨Nat.le_of_ble_eq_true rfl, Nat.le_of_ble_eq_true rfl⟩ rfl layX5 (by decide) rfl rfl rfl (Nat.le_of_ble_eq_true rfl) dL_law_1283 ⟨by show k ≤ 601024; omega, by show n ≤ 7293034; omega⟩ (fun _ => ?_)
  refine w_aload_n C dL_law_1286 2 rfl ?_
  refine w_callI (np := 0) (ci := 6) (q0 := 58) (rest := [.int (Int32.ofInt r)]) C (fun hM => c_X6_bestProcessors l hM e2) gL_law_X6_bestProcessors rfl (by decide) ⟨rfl, rfl⟩ ⟨Nat.le_of_ble_eq_true rfl, Nat.le_of_ble_eq_true rfl⟩ rfl lay58 (by decide) rfl rfl rfl (Nat.le_of_ble_eq_true rfl) dL_law_1287 ⟨by show k ≤ 601024; omega, by show n ≤ 7293034; omega⟩ (fun _ => ?_)
  refine w_icmp_eq C 1434 dL_law_1290 (by decide) rfl ?_
  exact w_widen (by omega) (by omega) (KK σ2 hT2)
set_option maxHeartbeats 4000000 in
set_option maxRecDepth 100000 in
theorem law_c25 (C : Cx p s m args meth c code "DoacrossSchedulerLaw" 7 wsL_law D cy (fun q : Nat => s.heap.size ≤ q)) (hX : zSX (fun q : Nat => s.heap.size ≤ q) s s.heap) (hNC : zNC s) (hl0 : l.stackTraces = false) {b L : Nat} {xs : Nat → Int32} (hXs : va_X b L xs s s.heap) (hbl : b < s.heap.size) (hL : L ≤ 1536) (hT : ST σ) {i : Int} (hi : 0 ≤ i ∧ i + 2 < (L : Int)) (hk : k + 1 ≤ 601024) (hn : n + 6 ≤ 7293034) (KK : ∀ σ2 : MM, ST σ2 → GL p l e room_1 s m args below meth c 7 D cy ad (fun q : Nat => s.heap.size ≤ q) Q 1434 [(0, .ref b), (1, .ref (ad 0)), (2, .ref (ad 58)), (3, .ref (ad 72)), (4, .int (Int32.ofInt i))] [] σ2 (k + 1) (n + 6)) : GL p l e room_1 s m args below meth c 7 D cy ad (fun q : Nat => s.heap.size ≤ q) Q 1295 [(0, .ref b), (1, .ref (ad 0)), (2, .ref (ad 58)), (3, .ref (ad 72)), (4, .int (Int32.ofInt i))] [] σ k n := by
  have hbA : ¬ (fun q : Nat => s.heap.size ≤ q) b := Nat.not_le.mpr hbl
  have hL2 : L < 1000000 := by omega
  obtain ⟨r, σ1, σ2, e1, e2, hT2⟩ := op_signals hT
  obtain ⟨r0, e3, e4⟩ := Option.map_eq_some_iff.mp e1
  obtain ⟨rfl, rfl⟩ := Prod.mk.inj e4
  refine w_aload_n C dL_law_1295 1 rfl ?_
  refine w_callI (np := 0) (ci := 5) (q0 := 0) (rest := []) C (fun hM => c_X5_signals l hM e3) gL_law_X5_signals rfl (by decide) ⟨rfl, rfl⟩ ⟨Nat.le_of_ble_eq_true rfl, Nat.le_of_ble_eq_true rfl⟩ rfl layX5 (by decide) rfl rfl rfl (Nat.le_of_ble_eq_true rfl) dL_law_1296 ⟨by show k ≤ 601024; omega, by show n ≤ 7293034; omega⟩ (fun _ => ?_)
  refine w_aload_n C dL_law_1299 2 rfl ?_
  refine w_callI (np := 0) (ci := 6) (q0 := 58) (rest := [.int (Int32.ofInt r0)]) C (fun hM => c_X6_signals l hM e2) gL_law_X6_signals rfl (by decide) ⟨rfl, rfl⟩ ⟨Nat.le_of_ble_eq_true rfl, Nat.le_of_ble_eq_true rfl⟩ rfl lay58 (by decide) rfl rfl rfl (Nat.le_of_ble_eq_true rfl) dL_law_1300 ⟨by show k ≤ 601024; omega, by show n ≤ 7293034; omega⟩ (fun _ => ?_)
  refine w_icmp_eq C 1434 dL_law_1303 (by decide) rfl ?_
  exact w_widen (by omega) (by omega) (KK σ2 hT2)
set_option maxHeartbeats 4000000 in
set_option maxRecDepth 100000 in
theorem law_c26 (C : Cx p s m args meth c code "DoacrossSchedulerLaw" 7 wsL_law D cy (fun q : Nat => s.heap.size ≤ q)) (hX : zSX (fun q : Nat => s.heap.size ≤ q) s s.heap) (hNC : zNC s) (hl0 : l.stackTraces = false) {b L : Nat} {xs : Nat → Int32} (hXs : va_X b L xs s s.heap) (hbl : b < s.heap.size) (hL : L ≤ 1536) (hT : ST σ) {i : Int} (hi : 0 ≤ i ∧ i + 2 < (L : Int)) (hk : k + 1 ≤ 601024) (hn : n + 6 ≤ 7293034) (KK : ∀ σ2 : MM, ST σ2 → GL p l e room_1 s m args below meth c 7 D cy ad (fun q : Nat => s.heap.size ≤ q) Q 1434 [(0, .ref b), (1, .ref (ad 0)), (2, .ref (ad 58)), (3, .ref (ad 72)), (4, .int (Int32.ofInt i))] [] σ2 (k + 1) (n + 6)) : GL p l e room_1 s m args below meth c 7 D cy ad (fun q : Nat => s.heap.size ≤ q) Q 1308 [(0, .ref b), (1, .ref (ad 0)), (2, .ref (ad 58)), (3, .ref (ad 72)), (4, .int (Int32.ofInt i))] [] σ k n := by
  have hbA : ¬ (fun q : Nat => s.heap.size ≤ q) b := Nat.not_le.mpr hbl
  have hL2 : L < 1000000 := by omega
  obtain ⟨r, σ1, σ2, e1, e2, hT2⟩ := op_violated hT
  refine w_aload_n C dL_law_1308 1 rfl ?_
  refine w_callI (np := 0) (ci := 5) (q0 := 0) (rest := []) C (fun hM => c_X5_violated l hM e1) gL_law_X5_violated rfl (by decide) ⟨rfl, rfl⟩ ⟨Nat.le_of_ble_eq_true rfl, Nat.le_of_ble_eq_true rfl⟩ rfl layX5 (by decide) rfl rfl rfl (Nat.le_of_ble_eq_true rfl) dL_law_1309 ⟨by show k ≤ 601024; omega, by show n ≤ 7293034; omega⟩ (fun _ => ?_)
  refine w_aload_n C dL_law_1312 2 rfl ?_
  refine w_callI (np := 0) (ci := 6) (q0 := 58) (rest := [.int (Int32.ofInt r)]) C (fun hM => c_X6_violated l hM e2) gL_law_X6_violated rfl (by decide) ⟨rfl, rfl⟩ ⟨Nat.le_of_ble_eq_true rfl, Nat.le_of_ble_eq_true rfl⟩ rfl lay58 (by decide) rfl rfl rfl (Nat.le_of_ble_eq_true rfl) dL_law_1313 ⟨by show k ≤ 601024; omega, by show n ≤ 7293034; omega⟩ (fun _ => ?_)
  refine w_icmp_eq C 1434 dL_law_1316 (by decide) rfl ?_
  exact w_widen (by omega) (by omega) (KK σ2 hT2)
set_option maxHeartbeats 4000000 in
set_option maxRecDepth 100000 in
theorem law_c27 (C : Cx p s m args meth c code "DoacrossSchedulerLaw" 7 wsL_law D cy (fun q : Nat => s.heap.size ≤ q)) (hX : zSX (fun q : Nat => s.heap.size ≤ q) s s.heap) (hNC : zNC s) (hl0 : l.stackTraces = false) {b L : Nat} {xs : Nat → Int32} (hXs : va_X b L xs s s.heap) (hbl : b < s.heap.size) (hL : L ≤ 1536) (hT : ST σ) {i : Int} (hi : 0 ≤ i ∧ i + 2 < (L : Int)) (hk : k + 1 ≤ 601024) (hn : n + 6 ≤ 7293034) (KK : ∀ σ2 : MM, ST σ2 → GL p l e room_1 s m args below meth c 7 D cy ad (fun q : Nat => s.heap.size ≤ q) Q 1434 [(0, .ref b), (1, .ref (ad 0)), (2, .ref (ad 58)), (3, .ref (ad 72)), (4, .int (Int32.ofInt i))] [] σ2 (k + 1) (n + 6)) : GL p l e room_1 s m args below meth c 7 D cy ad (fun q : Nat => s.heap.size ≤ q) Q 1321 [(0, .ref b), (1, .ref (ad 0)), (2, .ref (ad 58)), (3, .ref (ad 72)), (4, .int (Int32.ofInt i))] [] σ k n := by
  have hbA : ¬ (fun q : Nat => s.heap.size ≤ q) b := Nat.not_le.mpr hbl
  have hL2 : L < 1000000 := by omega
  obtain ⟨r, σ1, σ2, e1, e2, hT2⟩ := op_save hT
  refine w_aload_n C dL_law_1321 1 rfl ?_
  refine w_callI (np := 0) (ci := 5) (q0 := 0) (rest := []) C (fun hM => c_X5_save l hM e1) gL_law_X5_save rfl (by decide) ⟨rfl, rfl⟩ ⟨Nat.le_of_ble_eq_true rfl, Nat.le_of_ble_eq_true rfl⟩ rfl layX5 (by decide) rfl rfl rfl (Nat.le_of_ble_eq_true rfl) dL_law_1322 ⟨by show k ≤ 601024; omega, by show n ≤ 7293034; omega⟩ (fun _ => ?_)
  refine w_aload_n C dL_law_1325 2 rfl ?_
  refine w_callI (np := 0) (ci := 6) (q0 := 58) (rest := [.int (Int32.ofInt r)]) C (fun hM => c_X6_save l hM e2) gL_law_X6_save rfl (by decide) ⟨rfl, rfl⟩ ⟨Nat.le_of_ble_eq_true rfl, Nat.le_of_ble_eq_true rfl⟩ rfl lay58 (by decide) rfl rfl rfl (Nat.le_of_ble_eq_true rfl) dL_law_1326 ⟨by show k ≤ 601024; omega, by show n ≤ 7293034; omega⟩ (fun _ => ?_)
  refine w_icmp_eq C 1434 dL_law_1329 (by decide) rfl ?_
  exact w_widen (by omega) (by omega) (KK σ2 hT2)
set_option maxHeartbeats 4000000 in
set_option maxRecDepth 100000 in
theorem law_c28 (C : Cx p s m args meth c code "DoacrossSchedulerLaw" 7 wsL_law D cy (fun q : Nat => s.heap.size ≤ q)) (hX : zSX (fun q : Nat => s.heap.size ≤ q) s s.heap) (hNC : zNC s) (hl0 : l.stackTraces = false) {b L : Nat} {xs : Nat → Int32} (hXs : va_X b L xs s s.heap) (hbl : b < s.heap.size) (hL : L ≤ 1536) (hT : ST σ) {i : Int} (hi : 0 ≤ i ∧ i + 2 < (L : Int)) (hk : k + 1 ≤ 601024) (hn : n + 6 ≤ 7293034) (KK : ∀ σ2 : MM, ST σ2 → GL p l e room_1 s m args below meth c 7 D cy ad (fun q : Nat => s.heap.size ≤ q) Q 1434 [(0, .ref b), (1, .ref (ad 0)), (2, .ref (ad 58)), (3, .ref (ad 72)), (4, .int (Int32.ofInt i))] [] σ2 (k + 1) (n + 6)) : GL p l e room_1 s m args below meth c 7 D cy ad (fun q : Nat => s.heap.size ≤ q) Q 1334 [(0, .ref b), (1, .ref (ad 0)), (2, .ref (ad 58)), (3, .ref (ad 72)), (4, .int (Int32.ofInt i))] [] σ k n := by
  have hbA : ¬ (fun q : Nat => s.heap.size ≤ q) b := Nat.not_le.mpr hbl
  have hL2 : L < 1000000 := by omega
  obtain ⟨xo, r, σ1, e1, hxo, hop⟩ := op_restore hT
  obtain ⟨r2, σ2, e2, h58, hr, hT2, h72⟩ := hop (if xo = 0 then zup σ1 72 0 r else σ1) oW
  refine w_aload_n C dL_law_1334 1 rfl ?_
  refine w_aload_n C dL_law_1335 3 rfl ?_
  refine w_callW (np := 2) (rest := []) C hX hNC (fun hM => w_L_restore l hl0 hM  e1 hxo) gL_law_L_restore rfl (by decide) ⟨rfl, rfl⟩ ⟨Nat.le_of_ble_eq_true rfl, Nat.le_of_ble_eq_true rfl⟩ rfl rfl rfl (Nat.le_of_ble_eq_true rfl) dL_law_1336 ⟨hk, hn⟩ ?_
  refine w_istore (vs' := [(5, .int (Int32.ofInt (kE xo))), (0, .ref b), (1, .ref (ad 0)), (2, .ref (ad 58)), (3, .ref (ad 72)), (4, .int (Int32.ofInt i))]) C dL_law_1339 (by decide) rfl ?_
  refine w_aload_n C dL_law_1341 3 rfl ?_
  refine w_callI (np := 0) (ci := 6) (q0 := 58) (rest := []) C (fun hM => c_X6_restore l hM  e2) gL_law_X6_restore rfl (by decide) ⟨rfl, rfl⟩ ⟨Nat.le_of_ble_eq_true rfl, Nat.le_of_ble_eq_true rfl⟩ rfl lay58 (by decide) rfl rfl rfl (Nat.le_of_ble_eq_true rfl) dL_law_1342 ⟨hk, hn⟩ (fun hrg => ?_)
  refine w_istore (vs' := [(6, .int (Int32.ofInt r2)), (5, .int (Int32.ofInt (kE xo))), (0, .ref b), (1, .ref (ad 0)), (2, .ref (ad 58)), (3, .ref (ad 72)), (4, .int (Int32.ofInt i))]) C dL_law_1345 (by decide) rfl ?_
  refine w_aload_n C dL_law_1347 4 rfl ?_
  refine w_callI (np := 0) (ci := 6) (q0 := 58) (rest := []) (ro := σ2 58 3) C (fun hM => c_X6_thrown l hM rfl) gL_law_X6_thrown rfl (by decide) ⟨rfl, rfl⟩ ⟨Nat.le_of_ble_eq_true rfl, Nat.le_of_ble_eq_true rfl⟩ rfl lay58 (by decide) rfl rfl rfl (Nat.le_of_ble_eq_true rfl) dL_law_1348 ⟨hk, hn⟩ (fun _ => ?_)
  refine w_iload C dL_law_1351 1 rfl ?_
  refine w_icmp_eq C 1358 dL_law_1353 (by decide) (by rw [h58]) ?_
  refine w_iload C dL_law_1358 1 rfl ?_
  by_cases e0 : xo = 0
  · subst e0
    have h72b : σ2 72 0 = r2 := by rw [h72, if_pos rfl, zup_s, hr rfl]
    refine w_if_ne C 1375 dL_law_1360 (by decide) (fun q => absurd rfl q) (fun _ => ?_)
    refine w_aload_n C dL_law_1363 5 rfl ?_
    refine w_iconst C dL_law_1364 ?_
    refine w_laload C dL_law_1365 ?_
    refine w_iload C dL_law_1366 0 rfl ?_
    refine w_i2l C (rgT_inR hrg) dL_law_1368 ?_
    refine w_lcmpE C h72b dL_law_1369 ?_
    refine w_if_eq0 C 1375 dL_law_1370 (by decide) ?_
    refine w_goto C 1434 dL_law_1375 (by decide) ?_
    refine w_sub (vs' := [(0, .ref b), (1, .ref (ad 0)), (2, .ref (ad 58)), (3, .ref (ad 72)), (4, .int (Int32.ofInt i))]) [2, 3, 4, 5, 6] rfl ?_
    exact KK σ2 hT2
  · refine w_if_ne C 1375 dL_law_1360 (by decide) (fun _ => ?_) (fun q => absurd q (z_ne (hxo.resolve_left e0) (kle_E xo)))
    refine w_goto C 1434 dL_law_1375 (by decide) ?_
    refine w_sub (vs' := [(0, .ref b), (1, .ref (ad 0)), (2, .ref (ad 58)), (3, .ref (ad 72)), (4, .int (Int32.ofInt i))]) [2, 3, 4, 5, 6] rfl ?_
    exact KK σ2 hT2
set_option maxHeartbeats 4000000 in
set_option maxRecDepth 100000 in
theorem law_c29 (C : Cx p s m args meth c code "DoacrossSchedulerLaw" 7 wsL_law D cy (fun q : Nat => s.heap.size ≤ q)) (hX : zSX (fun q : Nat => s.heap.size ≤ q) s s.heap) (hNC : zNC s) (hl0 : l.stackTraces = false) {b L : Nat} {xs : Nat → Int32} (hXs : va_X b L xs s s.heap) (hbl : b < s.heap.size) (hL : L ≤ 1536) (hT : ST σ) {i : Int} (hi : 0 ≤ i ∧ i + 2 < (L : Int)) (hk : k + 1 ≤ 601024) (hn : n + 6 ≤ 7293034) (KK : ∀ σ2 : MM, ST σ2 → GL p l e room_1 s m args below meth c 7 D cy ad (fun q : Nat => s.heap.size ≤ q) Q 1434 [(0, .ref b), (1, .ref (ad 0)), (2, .ref (ad 58)), (3, .ref (ad 72)), (4, .int (Int32.ofInt i))] [] σ2 (k + 1) (n + 6)) : GL p l e room_1 s m args below meth c 7 D cy ad (fun q : Nat => s.heap.size ≤ q) Q 1378 [(0, .ref b), (1, .ref (ad 0)), (2, .ref (ad 58)), (3, .ref (ad 72)), (4, .int (Int32.ofInt i))] [] σ k n := by
  have hbA : ¬ (fun q : Nat => s.heap.size ≤ q) b := Nat.not_le.mpr hbl
  have hL2 : L < 1000000 := by omega
  obtain ⟨xo, r, σ1, e1, hxo, hop⟩ := op_count hT (xs (i + 1).toNat).toInt
  obtain ⟨r2, σ2, e2, h58, hr, hT2, h72⟩ := hop (if xo = 0 then zup σ1 72 0 r else σ1) oW
  refine w_aload_n C dL_law_1378 1 rfl ?_
  refine w_aload_n C dL_law_1379 0 rfl ?_
  refine w_iload C dL_law_1380 4 rfl ?_
  refine w_iconst C dL_law_1382 ?_
  refine w_iadd C dL_law_1383 ?_
  refine w_sld C hXs hbl hbA hL2 (by omega) dL_law_1384 ?_
  refine w_aload_n C dL_law_1385 3 rfl ?_
  refine w_callW (np := 3) (rest := []) C hX hNC (fun hM => w_L_count l hl0 hM (r32 (xs (i + 1).toNat)) e1 hxo) gL_law_L_count rfl (by decide) ⟨rfl, rfl⟩ ⟨Nat.le_of_ble_eq_true rfl, Nat.le_of_ble_eq_true rfl⟩ rfl rfl rfl (Nat.le_of_ble_eq_true rfl) dL_law_1386 ⟨hk, hn⟩ ?_
  refine w_istore (vs' := [(5, .int (Int32.ofInt (kA xo))), (0, .ref b), (1, .ref (ad 0)), (2, .ref (ad 58)), (3, .ref (ad 72)), (4, .int (Int32.ofInt i))]) C dL_law_1389 (by decide) rfl ?_
  refine w_aload_n C dL_law_1391 3 rfl ?_
  refine w_aload_n C dL_law_1392 1 rfl ?_
  refine w_iload C dL_law_1393 5 rfl ?_
  refine w_iconst C dL_law_1395 ?_
  refine w_iadd C dL_law_1396 ?_
  refine w_sld C hXs hbl hbA hL2 (by omega) dL_law_1397 ?_
  refine w_callI (np := 1) (ci := 6) (q0 := 58) (rest := []) C (fun hM => c_X6_count l hM (r32 (xs (i + 1).toNat)) e2) gL_law_X6_count rfl (by decide) ⟨rfl, rfl⟩ ⟨Nat.le_of_ble_eq_true rfl, Nat.le_of_ble_eq_true rfl⟩ rfl lay58 (by decide) rfl rfl rfl (Nat.le_of_ble_eq_true rfl) dL_law_1398 ⟨hk, hn⟩ (fun hrg => ?_)
  refine w_istore (vs' := [(6, .int (Int32.ofInt r2)), (5, .int (Int32.ofInt (kA xo))), (0, .ref b), (1, .ref (ad 0)), (2, .ref (ad 58)), (3, .ref (ad 72)), (4, .int (Int32.ofInt i))]) C dL_law_1401 (by decide) rfl ?_
  refine w_aload_n C dL_law_1403 4 rfl ?_
  refine w_callI (np := 0) (ci := 6) (q0 := 58) (rest := []) (ro := σ2 58 3) C (fun hM => c_X6_thrown l hM rfl) gL_law_X6_thrown rfl (by decide) ⟨rfl, rfl⟩ ⟨Nat.le_of_ble_eq_true rfl, Nat.le_of_ble_eq_true rfl⟩ rfl lay58 (by decide) rfl rfl rfl (Nat.le_of_ble_eq_true rfl) dL_law_1404 ⟨hk, hn⟩ (fun _ => ?_)
  refine w_iload C dL_law_1407 1 rfl ?_
  refine w_icmp_eq C 1414 dL_law_1409 (by decide) (by rw [h58]) ?_
  refine w_iload C dL_law_1414 1 rfl ?_
  by_cases e0 : xo = 0
  · subst e0
    have h72b : σ2 72 0 = r2 := by rw [h72, if_pos rfl, zup_s, hr rfl]
    refine w_if_ne C 1431 dL_law_1416 (by decide) (fun q => absurd rfl q) (fun _ => ?_)
    refine w_aload_n C dL_law_1419 5 rfl ?_
    refine w_iconst C dL_law_1420 ?_
    refine w_laload C dL_law_1421 ?_
    refine w_iload C dL_law_1422 0 rfl ?_
    refine w_i2l C (rgT_inR hrg) dL_law_1424 ?_
    refine w_lcmpE C h72b dL_law_1425 ?_
    refine w_if_eq0 C 1431 dL_law_1426 (by decide) ?_
    refine w_goto C 1434 dL_law_1431 (by decide) ?_
    refine w_sub (vs' := [(0, .ref b), (1, .ref (ad 0)), (2, .ref (ad 58)), (3, .ref (ad 72)), (4, .int (Int32.ofInt i))]) [2, 3, 4, 5, 6] rfl ?_
    exact KK σ2 hT2
  · refine w_if_ne C 1431 dL_law_1416 (by decide) (fun _ => ?_) (fun q => absurd q (z_ne (hxo.resolve_left e0) (kle_A xo)))
    refine w_goto C 1434 dL_law_1431 (by decide) ?_
    refine w_sub (vs' := [(0, .ref b), (1, .ref (ad 0)), (2, .ref (ad 58)), (3, .ref (ad 72)), (4, .int (Int32.ofInt i))]) [2, 3, 4, 5, 6] rfl ?_
    exact KK σ2 hT2
end ZU
