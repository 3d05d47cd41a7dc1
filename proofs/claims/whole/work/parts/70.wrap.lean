/-! THE LAW: a G that counts what was made; calls that throw, and the catching of it -/
def ncL : List (String × String) := [(xcls 1, xcls 2), (xcls 1, xcls 3), (xcls 1, xcls 4), (xcls 2, xcls 1), (xcls 2, xcls 3), (xcls 2, xcls 4), (xcls 3, xcls 1), (xcls 3, xcls 2), (xcls 3, xcls 4), (xcls 4, xcls 1), (xcls 4, xcls 2), (xcls 4, xcls 3)]
def zNC (U : State) : Prop := ∀ q ∈ ncL, va_Nc q.1 q.2 U
def zBW (D : va_G) (cy : Nat → ClassId) (ad : Nat → Nat) (σ : MM) (sz : Nat) (U : State) : Prop := zBX D cy ad σ sz U ∧ zNC U
theorem zBW_blind {D : va_G} {cy : Nat → ClassId} {ad : Nat → Nat} {σ : MM} {sz : Nat} {av : List Value} : FrameBlind (va_Pc av (zBW D cy ad σ sz)) := by
  intro a U g mk q
  obtain ⟨q0, q1, q2⟩ := q
  exact ⟨q0, (zBX_blind (D := D) (cy := cy) (ad := ad) (σ := σ) (sz := sz) (av := av) a U g mk ⟨q0, q1⟩).2, fun w hw => va_Nc.moved (u := U) (U := U.calling g mk a) (Vm.Alike.refl U.vm) (q2 w hw)⟩
/-- a wrapper of the law: it hands back the number of what was thrown -/
def CtW (l : Launch) (y : MethodName) (ws : List Cond) (rm : Room) (as : (Nat → Nat) → List Value) (σ : MM) (kr : Int) (σo : MM) : Prop :=
  ∀ (D : va_G) (cy : Nat → ClassId) (ad : Nat → Nat) (sz : Nat), vx_Met l y ws rm (va_Pc (as ad) (zBW D cy ad σ sz)) (va_Qi (fun (r : Int32) (_ : Unit) => r = Int32.ofInt kr ∧ okM σo) (fun _ t => zE D cy ad σ σo sz t) (va_A (wl cy ad σ) sz)) (vx_X (fun (_ : Unit) => False) (fun _ _ _ => True) (va_A (wl cy ad σ) sz)) 1 6 (va_A (wl cy ad σ) sz)
section ZW
variable {p : Program} {l : Launch} {e : Env} {R : Room} {s : State} {m : MethodId} {args : Array Value} {below : List Frame} {meth : Method} {c : Code} {cc : ByteArray} {own : String} {nL : Nat} {Ts : List Cond} {D : va_G} {cy : Nat → ClassId} {ad : Nat → Nat} {A : Nat → Prop} {Q : State → Prop} {pc : Nat} {vs vs' : List (Nat × Value)} {st : List Value} {σ : MM} {k n : Nat}
def GL (p : Program) (l : Launch) (e : Env) (R : Room) (s : State) (m : MethodId) (args : Array Value) (below : List Frame) (meth : Method) (c : Code) (nL : Nat) (D : va_G) (cy : Nat → ClassId) (ad : Nat → Nat) (A : Nat → Prop) (Q : State → Prop) (pc : Nat) (vs : List (Nat × Value)) (st : List Value) (σ : MM) (k n : Nat) : Prop :=
  okM σ → ∀ (H : Heap) (locs : List Loc) (ls : Array Slot), va_P D vwCl (wl cy ad σ) H → va_D A (wl cy ad σ) → va_S A s.heap H locs → lv_has ls nL vs → W p l e R s m args below meth c H locs k n Q (F0 m pc ls st)
/-- .. with an exception of the class E thrown over it -/
def GX (p : Program) (l : Launch) (e : Env) (R : Room) (s : State) (m : MethodId) (args : Array Value) (below : List Frame) (meth : Method) (c : Code) (nL : Nat) (D : va_G) (cy : Nat → ClassId) (ad : Nat → Nat) (A : Nat → Prop) (Q : State → Prop) (pc : Nat) (vs : List (Nat × Value)) (rest : List Value) (E : String) (σ : MM) (k n : Nat) : Prop :=
  okM σ → ∀ (H : Heap) (locs : List Loc) (ls : Array Slot) (q : Nat) (ce : Cell), va_P D vwCl (wl cy ad σ) H → va_D A (wl cy ad σ) → va_S A s.heap H locs → lv_has ls nL vs → H[q]? = some ce → ce.vm = .none → s.vm.findClass E = some ce.cls → vx_W p l e R s m args below meth c H locs k n Q (F0 m pc ls rest) q
theorem w_sub (is : List Nat) (hs : lv_pick vs is = vs') (kk : GL p l e R s m args below meth c nL D cy ad A Q pc vs' st σ k n) : GL p l e R s m args below meth c nL D cy ad A Q pc vs st σ k n :=
  fun hM H locs ls hP hD hS hl => kk hM H locs ls hP hD hS (lv_sub hl is hs)
theorem w_aload_n (C : Cx p s m args meth c cc own nL Ts D cy A) {i : Fin 4} {x : Nat} (hdg : decode cc pc = .ok (.aload_n i, 1)) (j : Nat) (hj : vs[j]? = some ((i : Nat), .ref x)) (kk : GL p l e R s m args below meth c nL D cy ad A Q (pc + 1) vs (.ref x :: st) σ k n) : GL p l e R s m args below meth c nL D cy ad A Q pc vs st σ k n :=
  fun hM H locs ls hP hD hS hl => lv_aload_n C.1 C.2.1 hdg rfl (lv_at hl j hj) (kk hM H locs ls hP hD hS hl)
theorem w_iload_n (C : Cx p s m args meth c cc own nL Ts D cy A) {i : Fin 4} {x : Int32} (hdg : decode cc pc = .ok (.iload_n i, 1)) (j : Nat) (hj : vs[j]? = some ((i : Nat), .int x)) (kk : GL p l e R s m args below meth c nL D cy ad A Q (pc + 1) vs (.int x :: st) σ k n) : GL p l e R s m args below meth c nL D cy ad A Q pc vs st σ k n :=
  fun hM H locs ls hP hD hS hl => lv_iload_n C.1 C.2.1 hdg rfl (lv_at hl j hj) (kk hM H locs ls hP hD hS hl)
theorem w_iload (C : Cx p s m args meth c cc own nL Ts D cy A) {i : Nat} {x : Int32} (hdg : decode cc pc = .ok (.iload i, 2)) (j : Nat) (hj : vs[j]? = some (i, .int x)) (kk : GL p l e R s m args below meth c nL D cy ad A Q (pc + 2) vs (.int x :: st) σ k n) : GL p l e R s m args below meth c nL D cy ad A Q pc vs st σ k n :=
  fun hM H locs ls hP hD hS hl => lv_iload C.1 C.2.1 hdg (lv_at hl j hj) (kk hM H locs ls hP hD hS hl)
theorem w_istore (C : Cx p s m args meth c cc own nL Ts D cy A) {i : Nat} {x : Int32} (hdg : decode cc pc = .ok (.istore i, 2)) (hn : i < nL) (hl : (i, Value.int x) :: vs.filter (fun q => !(q.1 == i) && !(q.1 + 1 == i && q.2.category == 2)) = vs') (kk : GL p l e R s m args below meth c nL D cy ad A Q (pc + 2) vs' st σ k n) : GL p l e R s m args below meth c nL D cy ad A Q pc vs (.int x :: st) σ k n :=
  fun hM H locs ls hP hD hS hl2 => lv_istore C.1 C.2.1 hdg hl2 hn hl (fun ls' hl' => kk hM H locs ls' hP hD hS hl')
theorem w_astore_n (C : Cx p s m args meth c cc own nL Ts D cy A) {i : Fin 4} {x : Nat} (hdg : decode cc pc = .ok (.astore_n i, 1)) (hn : (i : Nat) < nL) (kk : GL p l e R s m args below meth c nL D cy ad A Q (pc + 1) [] st σ k n) : GL p l e R s m args below meth c nL D cy ad A Q pc vs (.ref x :: st) σ k n :=
  fun hM H locs ls hP hD hS hl2 => lv_astore_n C.1 C.2.1 hdg rfl hl2 hn rfl (fun ls' hl' => kk hM H locs ls' hP hD hS (lv_sub hl' [] rfl))
theorem w_astore (C : Cx p s m args meth c cc own nL Ts D cy A) {i : Nat} {x : Nat} (hdg : decode cc pc = .ok (.astore i, 2)) (hn : i < nL) (kk : GL p l e R s m args below meth c nL D cy ad A Q (pc + 2) [] st σ k n) : GL p l e R s m args below meth c nL D cy ad A Q pc vs (.ref x :: st) σ k n :=
  fun hM H locs ls hP hD hS hl2 => lv_astore C.1 C.2.1 hdg hl2 hn rfl (fun ls' hl' => kk hM H locs ls' hP hD hS (lv_sub hl' [] rfl))
theorem w_iconst (C : Cx p s m args meth c cc own nL Ts D cy A) {d : Int} (hdg : decode cc pc = .ok (.iconst d, 1)) (kk : GL p l e R s m args below meth c nL D cy ad A Q (pc + 1) vs (.int (Int32.ofInt d) :: st) σ k n) : GL p l e R s m args below meth c nL D cy ad A Q pc vs st σ k n :=
  fun hM H locs ls hP hD hS hl => lv_iconst C.1 C.2.1 hdg rfl (kk hM H locs ls hP hD hS hl)
theorem w_lconst (C : Cx p s m args meth c cc own nL Ts D cy A) {d : Fin 2} (hdg : decode cc pc = .ok (.lconst d, 1)) (kk : GL p l e R s m args below meth c nL D cy ad A Q (pc + 1) vs (.long (Int64.ofInt ((d : Nat) : Int)) :: st) σ k n) : GL p l e R s m args below meth c nL D cy ad A Q pc vs st σ k n :=
  fun hM H locs ls hP hD hS hl => lv_lconst C.1 C.2.1 hdg (by rcases d with ⟨d, hd⟩; have : d = 0 ∨ d = 1 := by omega
                                                              rcases this with rfl | rfl <;> rfl) (kk hM H locs ls hP hD hS hl)
theorem w_goto (C : Cx p s m args meth c cc own nL Ts D cy A) {d : Int} (tgt : Nat) (hdg : decode cc pc = .ok (.goto d, 3)) (ht : (pc : Int) + d = tgt) (kk : GL p l e R s m args below meth c nL D cy ad A Q tgt vs st σ k n) : GL p l e R s m args below meth c nL D cy ad A Q pc vs st σ k n :=
  fun hM H locs ls hP hD hS hl => lv_goto C.1 C.2.1 hdg ht (kk hM H locs ls hP hD hS hl)
theorem w_if_eq (C : Cx p s m args meth c cc own nL Ts D cy A) {x : Int32} {d : Int} (tgt : Nat) (hdg : decode cc pc = .ok (.ifCond .eq d, 3)) (ht : (pc : Int) + d = tgt) (k1 : x = 0 → GL p l e R s m args below meth c nL D cy ad A Q tgt vs st σ k n) (k2 : ¬ x = 0 → GL p l e R s m args below meth c nL D cy ad A Q (pc + 3) vs st σ k n) : GL p l e R s m args below meth c nL D cy ad A Q pc vs (.int x :: st) σ k n :=
  fun hM H locs ls hP hD hS hl => lv_if_eq C.1 C.2.1 hdg ht (fun h => k1 h hM H locs ls hP hD hS hl) (fun h => k2 h hM H locs ls hP hD hS hl)
theorem w_if_ne (C : Cx p s m args meth c cc own nL Ts D cy A) {x : Int32} {d : Int} (tgt : Nat) (hdg : decode cc pc = .ok (.ifCond .ne d, 3)) (ht : (pc : Int) + d = tgt) (k1 : ¬ x = 0 → GL p l e R s m args below meth c nL D cy ad A Q tgt vs st σ k n) (k2 : x = 0 → GL p l e R s m args below meth c nL D cy ad A Q (pc + 3) vs st σ k n) : GL p l e R s m args below meth c nL D cy ad A Q pc vs (.int x :: st) σ k n :=
  fun hM H locs ls hP hD hS hl => lv_if_ne C.1 C.2.1 hdg ht (fun h => k1 h hM H locs ls hP hD hS hl) (fun h => k2 h hM H locs ls hP hD hS hl)
theorem w_icmp_eq (C : Cx p s m args meth c cc own nL Ts D cy A) {x y : Int32} {d : Int} (tgt : Nat) (hdg : decode cc pc = .ok (.if_icmp .eq d, 3)) (ht : (pc : Int) + d = tgt) (h : x = y) (kk : GL p l e R s m args below meth c nL D cy ad A Q tgt vs st σ k n) : GL p l e R s m args below meth c nL D cy ad A Q pc vs (.int y :: .int x :: st) σ k n :=
  fun hM H locs ls hP hD hS hl => lv_icmp_eq C.1 C.2.1 hdg ht (fun _ => kk hM H locs ls hP hD hS hl) (fun q => absurd h q)
theorem i64_32 {x : Int} (h : inR x) : (Int32.ofInt x).toInt64 = Int64.ofInt x := by
  apply Int64.toInt_inj.mp
  rw [Int32.toInt_toInt64, zI h, Int64.toInt_ofInt_of_le (by have := h.1; omega) (by have := h.2; omega)]
theorem w_i2l (C : Cx p s m args meth c cc own nL Ts D cy A) {x : Int} (hx : inR x) (hdg : decode cc pc = .ok (.i2l, 1)) (kk : GL p l e R s m args below meth c nL D cy ad A Q (pc + 1) vs (.long (Int64.ofInt x) :: st) σ k n) : GL p l e R s m args below meth c nL D cy ad A Q pc vs (.int (Int32.ofInt x) :: st) σ k n :=
  fun hM H locs ls hP hD hS hl => lv_i2l C.1 C.2.1 hdg (i64_32 hx) (kk hM H locs ls hP hD hS hl)
theorem w_lcmp (C : Cx p s m args meth c cc own nL Ts D cy A) {x y : Int64} (h : x = y) (hdg : decode cc pc = .ok (.lcmp, 1)) (kk : GL p l e R s m args below meth c nL D cy ad A Q (pc + 1) vs (.int 0 :: st) σ k n) : GL p l e R s m args below meth c nL D cy ad A Q pc vs (.long y :: .long x :: st) σ k n := by
  subst h
  intro hM H locs ls hP hD hS hl
  refine W.lcmp C.1 C.2.1 hdg ?_
  have : lg_cmp x x = 0 := by
    unfold lg_cmp
    rw [if_neg (by show ¬ x < x; exact Int64.lt_irrefl), if_pos rfl]
  rw [this]
  exact kk hM H locs ls hP hD hS hl
theorem lay72 : lay 72 = .inl (3, 1) := by decide +kernel
theorem w_lastore (C : Cx p s m args meth c cc own nL Ts D cy A) {x : Int} (hx : inR x) (hdg : decode cc pc = .ok (.lastore, 1)) (kk : GL p l e R s m args below meth c nL D cy ad A Q (pc + 1) vs st (zup σ 72 0 x) k n) : GL p l e R s m args below meth c nL D cy ad A Q pc vs (.long (Int64.ofInt x) :: .int (Int32.ofInt 0) :: .ref (ad 72) :: st) σ k n := by
  intro hM H locs ls hP hD hS hl
  obtain ⟨hx0, hb, hml, hown, hts, hK, hA, hlo2, hN⟩ := C
  refine va_last hx0 hb hK hP hD hS 72 3 ((wl_at (by decide)).trans (by rw [ent_arrL lay72])) rfl (by unfold vp_in; decide) hdg (fun H1 locs1 hP1 hD1 hS1 => ?_)
  have hw : (wl cy ad σ).set 72 (ad 72, .inl (cy 3, 1, .inr (.inl (vp_updL (fun j : Nat => Int64.ofInt (σ 72 (j : Int))) (Int32.ofInt 0).toNatClampNeg (Int64.ofInt x))))) = wl cy ad (zup σ 72 0 x) := by
    refine wl_set ?_ (fun j hj => zup_ne hj)
    rw [ent_arrL lay72]
    have : vp_updL (fun j : Nat => Int64.ofInt (σ 72 (j : Int))) (Int32.ofInt 0).toNatClampNeg (Int64.ofInt x) = fun j : Nat => Int64.ofInt (zup σ 72 0 x 72 (j : Int)) := by
      funext j
      by_cases h : j = 0
      · subst h
        rw [show (Int32.ofInt 0).toNatClampNeg = 0 from rfl, pk_uLs]
        show _ = Int64.ofInt (zup σ 72 0 x 72 0)
        simp [zup]
      · rw [show (Int32.ofInt 0).toNatClampNeg = 0 from rfl, pk_uLn h]
        have : ¬ (j : Int) = 0 := by omega
        simp [zup, h]
    rw [this]
  rw [hw] at hP1 hD1
  exact kk (okM_up hM hx) H1 locs1 ls hP1 hD1 hS1 hl
theorem w_laload (C : Cx p s m args meth c cc own nL Ts D cy A) (hdg : decode cc pc = .ok (.laload, 1)) (kk : GL p l e R s m args below meth c nL D cy ad A Q (pc + 1) vs (.long (Int64.ofInt (σ 72 0)) :: st) σ k n) : GL p l e R s m args below meth c nL D cy ad A Q pc vs (.int (Int32.ofInt 0) :: .ref (ad 72) :: st) σ k n := by
  intro hM H locs ls hP hD hS hl
  obtain ⟨hx0, hb, hml, hown, hts, hK, hA, hlo2, hN⟩ := C
  exact va_lald hx0 hb hK hP 72 3 ((wl_at (by decide)).trans (by rw [ent_arrL lay72])) rfl (by unfold vp_in; decide) hdg (kk hM H locs ls hP hD hS hl)
theorem w_catch (C : Cx p s m args meth c cc own nL Ts D cy A) {E name : String} {rest : List Value} (pre : List ExceptionTableEntry) (x : ExceptionTableEntry) (suf : List ExceptionTableEntry) (hsplit : c.exceptionTable.toList = pre ++ x :: suf) (hpass : ∀ z ∈ pre, z.catchType ≠ 0 ∧ ∃ nm : String, Cond.classLink own z.catchType nm ∈ Ts ∧ va_Nc E nm s) (hx : covers x pc = true) (h0 : x.catchType ≠ 0) (hlink : Cond.classLink own x.catchType name ∈ Ts) (hcast : (Cond.castable E name).before args s = true)
    (kk : ∀ q : Nat, GL p l e R s m args below meth c nL D cy ad A Q x.handlerPc vs [.ref q] σ k n) : GX p l e R s m args below meth c nL D cy ad A Q pc vs rest E σ k n := by
  intro hM H locs ls q ce hP hD hS hl hce hcv hcl
  obtain ⟨hx0, hb, hml, hown, hts, hK, hA, hlo2, hN⟩ := C
  exact vx_catch hown pre x suf hsplit (fun z hz => by
    obtain ⟨h1, nm, h2, h3⟩ := hpass z hz
    exact Or.inr ⟨h1, nm, hts _ h2, h3⟩) hx h0 (hts _ hlink) hcast hce hcv hcl (kk q hM H locs ls hP hD hS hl)
theorem w_free (C : Cx p s m args meth c cc own nL Ts D cy A) {H : Heap} {locs : List Loc} (hD : va_D A (wl cy ad σ)) (hS : va_S A s.heap H locs) : ∀ q, va_A (wl cy ad σ) H.size q → A q := z_free C hD hS
/-- a call that may throw -/
theorem w_callX (C : Cx p s m args meth c cc own nL Ts D cy A) (hX : zSX A s s.heap) {y : MethodName} {bytes : ByteArray} {maxL : Nat} {ret : Option FieldType} {ws ws' : List Cond} {rm : Room} {C' : String} {T : u_T} {N ci index np q0 rt : Nat} {fs : List (Option Nat)} {as : (Nat → Nat) → List Value} {As rest : List Value} {xo ro : Int} {σo : MM}
    (hM : okM σ → CtX l y ws rm as σ rt xo ro σo) (hG : GoodIn Ts (wsV own index C' y ws)) (hw : ws = Cond.code y bytes maxL ret :: ws') (hd : y.cls = C' ∧ y.cls ≠ "java/lang/invoke/MethodHandle" ∧ y.cls ≠ "java/lang/invoke/VarHandle" ∧ (parseMethodDescriptor y.desc).map (fun d => d.parameters.length) = some np) (hrm : rm.cells = 1 ∧ rm.slots = 6) (hR : rm.frames + 1 ≤ R.frames ∧ 8 + (maxL + 11) + rm.locals ≤ R.locals)
    (hc : vwCl[ci]? = some (C', T, N)) (hlay : lay q0 = .inr (ci, fs)) (hq : q0 < 73) (has : as ad = .ref (ad q0) :: As) (hn : As.length = np) (hst : st = As.reverse ++ .ref (ad q0) :: rest) (hcat : (rest.map fun v => v.category).sum ≤ 8) (hdg : decode cc pc = .ok (.invokevirtual index, 3)) (hf : k + 1 ≤ R.cells ∧ n + 6 ≤ R.slots)
    (kk : xo = 0 → rgT rt ro → GL p l e R s m args below meth c nL D cy ad A Q (pc + 3) vs (.int (Int32.ofInt ro) :: rest) σo (k + 1) (n + 6))
    (kx : (xo = 1 ∨ xo = 2 ∨ xo = 3 ∨ xo = 4) → GX p l e R s m args below meth c nL D cy ad A Q pc vs rest (xcls xo) σo (k + 1) (n + 6)) : GL p l e R s m args below meth c nL D cy ad A Q pc vs st σ k n := by
  subst hst
  intro hM0 H locs ls hP hD hS hl
  have hFc := z_free C hD hS
  obtain ⟨hx, hb, hml, hown, hts, hK, hA, hlo, hN⟩ := C
  have hM1 := hM hM0 D cy ad H.size
  rw [has] at hM1
  refine vx_calli (vx_runV (As := As) (rest := rest) ⟨hx, hb, hml, hown, hts⟩ hM1 (cwV np hts hG hw hrm.1 hrm.2 hd hR) ⟨zBX_blind, va_recv hK hP hc ((wl_at hq).trans (by rw [ent_obj hlay])), fun U hU hW => ⟨rfl, ⟨by rw [hU], by rw [hU]; exact hP, va_K.moved hW.alike hK, hD.weaken (fun _ _ _ _ => trivial), zN_warm hW hN⟩, by rw [hU]; exact zSX.warm hW ((hX.kept (fun x _ h2 => hS.2.1 x ‹_› h2)).narrow hFc)⟩⟩ rfl hn hl.1 rfl (lv_room hcat) hdg hf) hS (fun q _ h => hFc q h) hFc (fun q _ h => hFc q h) (fun E ce q9 u t H1 locs1 ht hvm hpx hB hz1 hk1 hS2 hce hcv hcl => ?_) (fun r u t H1 locs1 ht hvm hw2 hB hz1 hk1 hS2 => ?_)
  · obtain ⟨hE, hP1, hK1, hD1⟩ := hB
    rw [ht] at hP1
    subst hE
    exact kx hpx.2 hpx.1 H1 locs1 ls q9 ce hP1 (hD1.weaken (fun _ q _ h => hFc q.1 h)) hS2 hl hce hcv hcl
  · obtain ⟨rfl, hrg, hM2, hxo⟩ := hw2
    obtain ⟨hP1, hK1, hD1⟩ := hB
    rw [ht] at hP1
    exact kk hxo hrg hM2 H1 locs1 ls hP1 (hD1.weaken (fun _ q _ h => hFc q.1 h)) hS2 hl
/-- a call of one of the law's wrappers -/
theorem w_callW (C : Cx p s m args meth c cc own nL Ts D cy A) (hX : zSX A s s.heap) (hNC : zNC s) {y : MethodName} {bytes : ByteArray} {maxL : Nat} {ret : Option FieldType} {hh : List (Nat × Nat × Nat × Nat)} {ws ws' : List Cond} {rm : Room} {index np : Nat} {as : (Nat → Nat) → List Value} {As rest : List Value} {kr : Int} {σo : MM}
    (hM : okM σ → CtW l y ws rm as σ kr σo) (hG : GoodIn Ts (va_wsS own index y ws)) (hw : ws = Cond.codeWith y bytes maxL ret hh :: ws') (hd : y.cls ≠ "java/lang/invoke/MethodHandle" ∧ y.cls ≠ "java/lang/invoke/VarHandle" ∧ (parseMethodDescriptor y.desc).map (fun d => d.parameters.length) = some np) (hrm : rm.cells = 1 ∧ rm.slots = 6) (hR : rm.frames + 1 ≤ R.frames ∧ 8 + (maxL + 11) + rm.locals ≤ R.locals)
    (has : as ad = As) (hn : As.length = np) (hst : st = As.reverse ++ rest) (hcat : (rest.map fun v => v.category).sum ≤ 8) (hdg : decode cc pc = .ok (.invokestatic index, 3)) (hf : k + 1 ≤ R.cells ∧ n + 6 ≤ R.slots)
    (kk : GL p l e R s m args below meth c nL D cy ad A Q (pc + 3) vs (.int (Int32.ofInt kr) :: rest) σo (k + 1) (n + 6)) : GL p l e R s m args below meth c nL D cy ad A Q pc vs st σ k n := by
  subst hst
  intro hM0 H locs ls hP hD hS hl
  have hFc := z_free C hD hS
  obtain ⟨hx, hb, hml, hown, hts, hK, hA, hlo, hN⟩ := C
  have hM1 := hM hM0 D cy ad H.size
  rw [has] at hM1
  refine vx_calli (vx_runSX (As := As) (rest := rest) ⟨hx, hb, hml, hown, hts⟩ hM1 (vx_cwSW np hts hG hw hrm.1 hrm.2 hd hR) ⟨zBW_blind, fun U hU hW => ⟨rfl, ⟨⟨by rw [hU], by rw [hU]; exact hP, va_K.moved hW.alike hK, hD.weaken (fun _ _ _ _ => trivial), zN_warm hW hN⟩, by rw [hU]; exact zSX.warm hW ((hX.kept (fun x _ h2 => hS.2.1 x ‹_› h2)).narrow hFc)⟩, fun q hq => va_Nc.moved hW.alike (hNC q hq)⟩⟩ rfl hn hl.1 rfl (lv_room hcat) hdg hf) hS (fun q _ h => hFc q h) hFc (fun q _ h => hFc q h) (fun E ce q9 u t H1 locs1 ht hvm hpx hB hz1 hk1 hS2 hce hcv hcl => hpx.elim) (fun r u t H1 locs1 ht hvm hw2 hB hz1 hk1 hS2 => ?_)
  obtain ⟨rfl, hM2⟩ := hw2
  obtain ⟨hP1, hK1, hD1⟩ := hB
  rw [ht] at hP1
  exact kk hM2 H1 locs1 ls hP1 (hD1.weaken (fun _ q _ h => hFc q.1 h)) hS2 hl
/-- a call that doesn't throw, with counts -/
theorem w_callI (C : Cx p s m args meth c cc own nL Ts D cy A) {y : MethodName} {bytes : ByteArray} {maxL : Nat} {ret : Option FieldType} {ws ws' : List Cond} {rm : Room} {C' : String} {T : u_T} {N ci index np q0 rt : Nat} {fs : List (Option Nat)} {as : (Nat → Nat) → List Value} {As rest : List Value} {ro : Int} {σo : MM}
    (hM : okM σ → CtI l y ws rm as σ rt ro σo) (hG : GoodIn Ts (wsV own index C' y ws)) (hw : ws = Cond.code y bytes maxL ret :: ws') (hd : y.cls = C' ∧ y.cls ≠ "java/lang/invoke/MethodHandle" ∧ y.cls ≠ "java/lang/invoke/VarHandle" ∧ (parseMethodDescriptor y.desc).map (fun d => d.parameters.length) = some np) (hrm : rm.cells = 0 ∧ rm.slots = 0) (hR : rm.frames + 1 ≤ R.frames ∧ 8 + (maxL + 11) + rm.locals ≤ R.locals)
    (hc : vwCl[ci]? = some (C', T, N)) (hlay : lay q0 = .inr (ci, fs)) (hq : q0 < 73) (has : as ad = .ref (ad q0) :: As) (hn : As.length = np) (hst : st = As.reverse ++ .ref (ad q0) :: rest) (hcat : (rest.map fun v => v.category).sum ≤ 8) (hdg : decode cc pc = .ok (.invokevirtual index, 3)) (hf : k ≤ R.cells ∧ n ≤ R.slots)
    (kk : rgT rt ro → GL p l e R s m args below meth c nL D cy ad A Q (pc + 3) vs (.int (Int32.ofInt ro) :: rest) σo k n) : GL p l e R s m args below meth c nL D cy ad A Q pc vs st σ k n := by
  subst hst
  intro hM0 H locs ls hP hD hS hl
  have hFc := z_free C hD hS
  obtain ⟨hx, hb, hml, hown, hts, hK, hA, hlo, hN⟩ := C
  have hM1 := hM hM0 D cy ad H.size
  rw [has] at hM1
  refine va_calli (va_runV (As := As) (rest := rest) ⟨hx, hb, hml, hown, hts⟩ hM1 (cwV np hts hG hw hrm.1 hrm.2 hd hR) ⟨zB_blind, va_recv hK hP hc ((wl_at hq).trans (by rw [ent_obj hlay])), fun U hU hW => ⟨rfl, by rw [hU], by rw [hU]; exact hP, va_K.moved hW.alike hK, hD.weaken (fun _ _ _ _ => trivial), zN_warm hW hN⟩⟩ rfl hn hl.1 rfl (lv_room hcat) hdg hf) hS (fun q _ h => hFc q h) hFc (fun r u t H1 locs ht hvm hw2 hB hz1 hk1 hS2 => ?_)
  obtain ⟨rfl, hrg, hM2⟩ := hw2
  obtain ⟨hP1, hK1, hD1⟩ := hB
  rw [ht] at hP1
  exact kk hrg hM2 H1 locs ls hP1 (hD1.weaken (fun _ q _ h => hFc q.1 h)) hS2 hl
/-- a wrapper's end -/
def RetW (p : Program) (l : Launch) (e : Env) (R : Room) (s : State) (m : MethodId) (args : Array Value) (below : List Frame) (meth : Method) (c : Code) (cc : ByteArray) (nL : Nat) (D : va_G) (cy : Nat → ClassId) (ad : Nat → Nat) (A : Nat → Prop) (Q : State → Prop) (kr : Int) (σo : MM) : Prop :=
  ∀ (pc : Nat) (vs : List (Nat × Value)), decode cc pc = .ok (.ireturn, 1) → GL p l e R s m args below meth c nL D cy ad A Q pc vs [.int (Int32.ofInt kr)] σo 1 6
end ZW
theorem z_ctW {l : Launch} {y : MethodName} {ws ws' : List Cond} {fr lo : Nat} {cc : ByteArray} {maxL : Nat} {hh : List (Nat × Nat × Nat × Nat)} {as : (Nat → Nat) → List Value} {σ : MM} {kr : Int} {σo : MM} (hM : okM σ) (hy : plainName y.cls = true) (hw : ws = Cond.codeWith y cc maxL (some .int) hh :: ws') (hlen : ∀ ad : Nat → Nat, (lg_sl (as ad)).length ≤ maxL)
    (body : ∀ {p : Program} {e : Env} {s : State} {m : MethodId} {args : Array Value} {below : List Frame} {meth : Method} {c : Code} {D : va_G} {cy : Nat → ClassId} {ad : Nat → Nat} {A : Nat → Prop} {Q : State → Prop}, Cx p s m args meth c cc y.cls maxL ws D cy A → zSX A s s.heap → zNC s → c.exceptionTable.toList = tableOf hh → (∀ w ∈ xW, w.before args s = true) → RetW p l e { frames := fr, cells := 1, slots := 6, locals := lo } s m args below meth c cc maxL D cy ad A Q kr σo → GL p l e { frames := fr, cells := 1, slots := 6, locals := lo } s m args below meth c maxL D cy ad A Q 0 (lv_args 0 (as ad)) [] σ 0 0) : CtW l y ws { frames := fr, cells := 1, slots := 6, locals := lo } as σ kr σo := by
  intro D cy ad sz
  refine vx_ofWH (cc := cc) (maxL := maxL) (ret := some .int) (hh := hh) hy hw ?_
  intro p e s m args below meth c s₁ B hml hv
  obtain ⟨rfl, ⟨⟨hsz, hP, hK, hD, hN⟩, hX⟩, hNC⟩ := hv
  subst hsz
  have hts : ∀ w ∈ ws, w.before (as ad).toArray s = true := atoms_spec (ws := ws) B.pre
  have C : Cx p s m (as ad).toArray meth c cc y.cls maxL ws D cy (va_A (wl cy ad σ) s.heap.size) := ⟨B.exec, B.bytes, hml, findClass_of_methodNamed B.named, hts, hK, fun q h => Or.inr h, B.notSynchronized, hN⟩
  have hl := lv_entry (as ad) (n := maxL) (hlen ad)
  rw [lg_entry_eq]
  have hT := vx_table (x := y) B (hts _ (by rw [hw]; exact List.mem_cons_self))
  refine body C hX hNC hT (fun w hw => va_Nw.use (by
    simp only [xW, List.mem_cons, List.not_mem_nil, or_false] at hw
    rcases hw with rfl | rfl | rfl | rfl | rfl | rfl | rfl <;> rfl) (hX.2.2.2.1 w hw)) ?_ hM s.heap [] _ hP hD.self va_S.rf hl
  intro pc vs hdg hM2 H locs ls hP2 hD2 hS2 hl2
  obtain ⟨hx, hb, hml2, hown, hts2, hK2, hA, hlo, hN2⟩ := C
  exact vx_ret (W.iret (v := Int32.ofInt kr) hx hb B.returns (fun t ht hW => ⟨⟨_, (), rfl, ⟨rfl, hM2⟩, by rw [ht]; exact hP2, va_K.moved hW.alike hK2, hD2⟩, hS2.F ht⟩) hS2.2.2 hdg)
