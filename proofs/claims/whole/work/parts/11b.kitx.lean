/-! METHODS THAT THROW: the answer is (the exception's number, 0 where none; the value; the memory) -/
def xcls (x : Int) : String := if x = 1 then "java/lang/IllegalArgumentException" else if x = 2 then "java/lang/IllegalStateException" else if x = 3 then "java/lang/IndexOutOfBoundsException" else "java/lang/UnsupportedOperationException"
theorem z_s3 {a b a' b' : Int} {x y : MM} (h : some (a, b, x) = some (a', b', y)) : a = a' ∧ b = b' ∧ x = y := by cases h; exact ⟨rfl, rfl, rfl⟩
abbrev strL : List (Nat × String) := [(64, "a character is not from 33 to 126"), (74, "the buffer is full"), (95, "there is an error in the text"), (102, "there is no such statement"), (105, "the cost is out of range"), (111, "there is no such parameter"), (119, "the value is out of range"), (127, "there is no such position"), (137, "a dependence demands this order"), (146, "there is no such dependence"), (166, "there is no such property"), (190, "there is no such mode"), (192, "the distance is 0"), (212, "there are too many statements"), (239, "there is no such statement or iteration"), (245, "there is no such iteration"), (250, "there is no such processor"), (265, "there is no such total"), (273, "there is no such part"), (275, "there are no statements"), (292, "there is no snapshot"), (297, "there is no such count")]
def xnames : List String := ["java/lang/RuntimeException", "java/lang/Exception"]
def leV (k : Nat) : Int := if k = 0 then 1 else if k = 2 then 1 else 0
def grV (k : Nat) : Int := if k = 0 then 40 else if k = 1 then 5 else if k = 2 then 6 else 2
def leI (i : Int) : Int := if i = 0 then 1 else if i = 2 then 1 else 0
def grI (i : Int) : Int := if i = 0 then 40 else if i = 1 then 5 else if i = 2 then 6 else 2
def zStat (nm : String) (f : Nat → Int) (A : Nat → Prop) (U : State) (H : Heap) : Prop := ∃ t : Nat, va_Z "DoacrossScheduler" nm "[I" (.ref t) A U H ∧ va_T .int t 4 (fun k => .int (Int32.ofInt (f k))) A U H
abbrev xW : List Cond := [.castable (xcls 1) (xcls 1), .castable (xcls 2) (xcls 2), .castable (xcls 3) (xcls 3), .castable (xcls 4) (xcls 4), .declares (Bundle.initS "java/lang/RuntimeException"), .declares (Bundle.initS "java/lang/Exception"), .declares (Bundle.initS "java/lang/Throwable")]
/-- what a method that throws, or reads the class's own rows, needs of the heap beside its world -/
def zSX (A : Nat → Prop) (U : State) (H : Heap) : Prop := vx_Zq Bundle.tN "UNASSIGNED_STACK" Bundle.steD A U H ∧ vx_Zq Bundle.tN "SUPPRESSED_SENTINEL" Bundle.listD A U H ∧ (∀ q ∈ strL, ∃ sa : Nat, vk_R "DoacrossScheduler" q.1 q.2 sa U) ∧ (∀ w ∈ xW, va_Nw w U) ∧ zStat "LEAST_VALUE" leV A U H ∧ zStat "GREATEST_VALUE" grV A U H
theorem zStat.moved {nm : String} {f : Nat → Int} {A : Nat → Prop} {u U : State} {H : Heap} (hvm : u.vm.Alike U.vm) (h : zStat nm f A u H) : zStat nm f A U H := by
  obtain ⟨t, h1, h2⟩ := h
  exact ⟨t, va_Z.moved hvm h1, va_T.moved hvm h2⟩
theorem zStat.kept {nm : String} {f : Nat → Int} {A : Nat → Prop} {U : State} {H H1 : Heap} (h : zStat nm f A U H) (hq : ∀ a : Nat, a < H.size → ¬ A a → H1[a]? = H[a]?) : zStat nm f A U H1 := by
  obtain ⟨t, h1, h2⟩ := h
  exact ⟨t, va_Z.kept h1 hq, va_T.kept h2 hq⟩
theorem zStat.narrow {nm : String} {f : Nat → Int} {A B : Nat → Prop} {U : State} {H : Heap} (h : zStat nm f A U H) (hAB : ∀ q, B q → A q) : zStat nm f B U H := by
  obtain ⟨t, h1, h2⟩ := h
  exact ⟨t, va_Z.narrow h1 hAB, va_T.narrow h2 hAB⟩
theorem xW_warm {s U : State} {w : Cond} (hW : s.WarmedH U.vm) (hw : w ∈ xW) (h : va_Nw w s) : va_Nw w U := by
  simp only [xW, List.mem_cons, List.not_mem_nil, or_false] at hw
  rcases hw with rfl | rfl | rfl | rfl | rfl | rfl | rfl
  · exact va_Nw.warmC hW h
  · exact va_Nw.warmC hW h
  · exact va_Nw.warmC hW h
  · exact va_Nw.warmC hW h
  · exact va_Nw.warmD hW h
  · exact va_Nw.warmD hW h
  · exact va_Nw.warmD hW h
theorem xW_same {u U : State} {w : Cond} (hv : U.vm = u.vm) (hw : w ∈ xW) (h : va_Nw w u) : va_Nw w U := by
  have : w.onTables = true := by
    simp only [xW, List.mem_cons, List.not_mem_nil, or_false] at hw
    rcases hw with rfl | rfl | rfl | rfl | rfl | rfl | rfl <;> rfl
  exact va_Nw.same this hv.symm h
def xB (cls : String) : List Cond := [.castable cls cls, .declares (Bundle.initS "java/lang/RuntimeException"), .declares (Bundle.initS "java/lang/Exception"), .declares (Bundle.initS "java/lang/Throwable")]
theorem xB_in {xo : Int} (h : xo = 1 ∨ xo = 2 ∨ xo = 3 ∨ xo = 4) : ∀ w ∈ xB (xcls xo), w ∈ xW := by
  rcases h with rfl | rfl | rfl | rfl <;> decide +kernel
theorem xB_use {A : Nat → Prop} {s : State} {H : Heap} {args : Array Value} {xo : Int} {cls : String} (hX : zSX A s H) (h : xo = 1 ∨ xo = 2 ∨ xo = 3 ∨ xo = 4) (hc : xcls xo = cls) : ∀ w ∈ xB cls, w.before args s = true := by
  subst hc
  intro w hw
  have h1 := xB_in h w hw
  have h2 : w.onTables = true := by
    simp only [xW, List.mem_cons, List.not_mem_nil, or_false] at h1
    rcases h1 with rfl | rfl | rfl | rfl | rfl | rfl | rfl <;> rfl
  exact va_Nw.use h2 (hX.2.2.2.1 w h1)
theorem zSX.warm {A : Nat → Prop} {s U : State} {H : Heap} (hW : s.WarmedH U.vm) (h : zSX A s H) : zSX A U H := by
  obtain ⟨h1, h2, h3, h4, h5, h6⟩ := h
  refine ⟨vx_Zq.moved hW.alike h1, vx_Zq.moved hW.alike h2, fun q hq => ?_, fun w hw => xW_warm hW hw (h4 w hw), zStat.moved hW.alike h5, zStat.moved hW.alike h6⟩
  obtain ⟨sa, h⟩ := h3 q hq
  exact ⟨sa, vk_R.warm hW h⟩
theorem zSX.kept {A : Nat → Prop} {U : State} {H H1 : Heap} (h : zSX A U H) (hq : ∀ a : Nat, a < H.size → ¬ A a → H1[a]? = H[a]?) : zSX A U H1 := ⟨vx_Zq.kept h.1 hq, vx_Zq.kept h.2.1 hq, h.2.2.1, h.2.2.2.1, zStat.kept h.2.2.2.2.1 hq, zStat.kept h.2.2.2.2.2 hq⟩
theorem zSX.narrow {A B : Nat → Prop} {U : State} {H : Heap} (h : zSX A U H) (hAB : ∀ q, B q → A q) : zSX B U H := ⟨vx_Zq.narrow h.1 hAB, vx_Zq.narrow h.2.1 hAB, h.2.2.1, h.2.2.2.1, zStat.narrow h.2.2.2.2.1 hAB, zStat.narrow h.2.2.2.2.2 hAB⟩
theorem zSX.same {A : Nat → Prop} {u U : State} {H : Heap} (hv : U.vm = u.vm) (h : zSX A u H) : zSX A U H := by
  obtain ⟨h1, h2, h3, h4, h5, h6⟩ := h
  have ha : u.vm.Alike U.vm := by rw [hv]; exact Vm.Alike.refl _
  refine ⟨vx_Zq.moved ha h1, vx_Zq.moved ha h2, fun q hq => ?_, fun w hw => xW_same hv hw (h4 w hw), zStat.moved ha h5, zStat.moved ha h6⟩
  obtain ⟨sa, h⟩ := h3 q hq
  exact ⟨sa, vk_R.same hv h⟩
def zBX (D : va_G) (cy : Nat → ClassId) (ad : Nat → Nat) (σ : MM) (sz : Nat) (U : State) : Prop := zB D cy ad σ sz U ∧ zSX (va_A (wl cy ad σ) sz) U U.heap
theorem zBX_blind {D : va_G} {cy : Nat → ClassId} {ad : Nat → Nat} {σ : MM} {sz : Nat} {av : List Value} : FrameBlind (va_Pc av (zBX D cy ad σ sz)) := by
  intro a U g mk q
  obtain ⟨q0, ⟨q1, qP, qK, qD, qN⟩, qX⟩ := q
  exact ⟨q0, ⟨q1, qP, va_K.moved (u := U) (U := U.calling g mk a) (Vm.Alike.refl U.vm) qK, qD, fun w hw => va_Nw.same rfl (u := U) (U := U.calling g mk a) rfl (qN w hw)⟩, zSX.same (u := U) (U := U.calling g mk a) rfl qX⟩
def QcX (D : va_G) (cy : Nat → ClassId) (ad : Nat → Nat) (σ : MM) (sz rt : Nat) (xo ro : Int) (σo : MM) : Array Value → State → Outcome → State → Prop := va_Qi (fun (r : Int32) (_ : Unit) => r = Int32.ofInt ro ∧ rgT rt ro ∧ okM σo ∧ xo = 0) (fun _ t => zE D cy ad σ σo sz t) (va_A (wl cy ad σ) sz)
def XcX (D : va_G) (cy : Nat → ClassId) (ad : Nat → Nat) (σ : MM) (sz : Nat) (xo : Int) (σo : MM) : String → State → State → Prop := vx_X (fun (_ : Unit) => okM σo ∧ (xo = 1 ∨ xo = 2 ∨ xo = 3 ∨ xo = 4)) (fun E _ t => E = xcls xo ∧ zE D cy ad σ σo sz t) (va_A (wl cy ad σ) sz)
def CtX (l : Launch) (y : MethodName) (ws : List Cond) (rm : Room) (as : (Nat → Nat) → List Value) (σ : MM) (rt : Nat) (xo ro : Int) (σo : MM) : Prop :=
  ∀ (D : va_G) (cy : Nat → ClassId) (ad : Nat → Nat) (sz : Nat), vx_Met l y ws rm (va_Pc (as ad) (zBX D cy ad σ sz)) (QcX D cy ad σ sz rt xo ro σo) (XcX D cy ad σ sz xo σo) 1 6 (va_A (wl cy ad σ) sz)
section ZX
variable {p : Program} {l : Launch} {e : Env} {R : Room} {s : State} {m : MethodId} {args : Array Value} {below : List Frame} {meth : Method} {c : Code} {cc : ByteArray} {own : String} {nL : Nat} {Ts : List Cond} {D : va_G} {cy : Nat → ClassId} {ad : Nat → Nat} {A : Nat → Prop} {Q : State → Prop} {pc : Nat} {vs vs' : List (Nat × Value)} {st : List Value} {σ : MM}
def QX (below : List Frame) (args : Array Value) (s : State) (D : va_G) (cy : Nat → ClassId) (ad : Nat → Nat) (σ : MM) (rt : Nat) (xo ro : Int) (σo : MM) : State → Prop :=
  vx_MQ below (QcX D cy ad σ s.heap.size rt xo ro σo) (XcX D cy ad σ s.heap.size xo σo) args s 1 6 (va_A (wl cy ad σ) s.heap.size)
def RetX (p : Program) (l : Launch) (e : Env) (R : Room) (s : State) (m : MethodId) (args : Array Value) (below : List Frame) (meth : Method) (c : Code) (cc : ByteArray) (nL : Nat) (D : va_G) (cy : Nat → ClassId) (ad : Nat → Nat) (A : Nat → Prop) (Q : State → Prop) (rt : Nat) (xo ro : Int) (σo : MM) : Prop :=
  ∀ (pc : Nat) (vs : List (Nat × Value)), decode cc pc = .ok (.ireturn, 1) → xo = 0 → rgT rt ro → G p l e R s m args below meth c nL D cy ad A Q pc vs [.int (Int32.ofInt ro)] σo
/-- the throw of a new exception with a text, seen from its first instruction -/
def ThrX (p : Program) (l : Launch) (e : Env) (R : Room) (s : State) (m : MethodId) (args : Array Value) (below : List Frame) (meth : Method) (c : Code) (cc : ByteArray) (own : String) (nL : Nat) (Ts : List Cond) (D : va_G) (cy : Nat → ClassId) (ad : Nat → Nat) (A : Nat → Prop) (Q : State → Prop) (xo : Int) (σo : MM) : Prop :=
  ∀ (pc : Nat) (vs : List (Nat × Value)) (ik is ic : Nat) (cls text : String), (xo = 1 ∨ xo = 2 ∨ xo = 3 ∨ xo = 4) → xcls xo = cls → Bundle.fit cls = true → Cond.classLink own ik cls ∈ Ts → Cond.initialized cls ∈ Ts → (is, text) ∈ strL →
    (∀ w ∈ (vx_atS own ic cls xnames).filter goodWord, w ∈ Ts) → (∀ w ∈ (vx_atS own ic cls xnames).filter (fun w => !goodWord w), w ∈ xB cls) → (∀ w ∈ Cond.classLink own ik cls :: Cond.initialized cls :: vx_atS own ic cls xnames, vx_ot w = true) →
    decode cc pc = .ok (.new ik, 3) → decode cc (pc + 3) = .ok (.dup, 1) → decode cc (pc + 4) = .ok (.ldc is, 2) → decode cc (pc + 6) = .ok (.invokespecial ic, 3) → decode cc (pc + 9) = .ok (.athrow, 1) → G p l e R s m args below meth c nL D cy ad A Q pc vs [] σo
def ThrW (p : Program) (l : Launch) (e : Env) (R : Room) (s : State) (m : MethodId) (args : Array Value) (below : List Frame) (meth : Method) (c : Code) (cc : ByteArray) (own : String) (nL : Nat) (Ts : List Cond) (D : va_G) (cy : Nat → ClassId) (ad : Nat → Nat) (A : Nat → Prop) (Q : State → Prop) (xo : Int) (σo : MM) : Prop :=
  ∀ (pc : Nat) (vs : List (Nat × Value)) (ik is ic : Nat) (cls text : String), (xo = 1 ∨ xo = 2 ∨ xo = 3 ∨ xo = 4) → xcls xo = cls → Bundle.fit cls = true → Cond.classLink own ik cls ∈ Ts → Cond.initialized cls ∈ Ts → (is, text) ∈ strL →
    (∀ w ∈ (vx_atS own ic cls xnames).filter goodWord, w ∈ Ts) → (∀ w ∈ (vx_atS own ic cls xnames).filter (fun w => !goodWord w), w ∈ xB cls) → (∀ w ∈ Cond.classLink own ik cls :: Cond.initialized cls :: vx_atS own ic cls xnames, vx_ot w = true) →
    decode cc pc = .ok (.new ik, 3) → decode cc (pc + 3) = .ok (.dup, 1) → decode cc (pc + 4) = .ok (.ldc_w is, 3) → decode cc (pc + 7) = .ok (.invokespecial ic, 3) → decode cc (pc + 10) = .ok (.athrow, 1) → G p l e R s m args below meth c nL D cy ad A Q pc vs [] σo
theorem z_retX (C : Cx p s m args meth c cc own nL Ts D cy (va_A (wl cy ad σ) s.heap.size)) {rt : Nat} {xo ro : Int} {σo : MM} (hr : meth.sig.returnType = some (rtT rt)) : RetX p l e R s m args below meth c cc nL D cy ad (va_A (wl cy ad σ) s.heap.size) (QX below args s D cy ad σ rt xo ro σo) rt xo ro σo := by
  intro pc vs hdg hxo hrg hM H locs ls hP hD hS hl
  obtain ⟨hx, hb, hml, hown, hts, hK, hA, hlo, hN⟩ := C
  refine vx_ret (W.widen (k := 1) (n := 6) (by omega) (by omega) ?_)
  exact W.zret (v := Int32.ofInt ro) hx hb hr (z_nar hrg) (fun t ht hW => ⟨⟨_, (), rfl, ⟨rfl, hrg, hM, hxo⟩, by rw [ht]; exact hP, va_K.moved hW.alike hK, hD⟩, hS.F ht⟩) hS.2.2 hdg
theorem z_xc (C : Cx p s m args meth c cc own nL Ts D cy (va_A (wl cy ad σ) s.heap.size)) {xo : Int} {σo : MM} {cls : String} (hxo : xo = 1 ∨ xo = 2 ∨ xo = 3 ∨ xo = 4) (hc : xcls xo = cls) (hM : okM σo) {H : Heap} {locs : List Loc} (hP : va_P D vwCl (wl cy ad σo) H) (hD : va_D (va_A (wl cy ad σ) s.heap.size) (wl cy ad σo)) (hS : va_S (va_A (wl cy ad σ) s.heap.size) s.heap H locs) :
    ∀ t : State, s.vm.Alike t.vm → H.size ≤ t.heap.size → (∀ q : Nat, q < H.size → t.heap[q]? = H[q]?) → XcX D cy ad σ s.heap.size xo σo cls s t := by
  intro t ha hz hq
  obtain ⟨hx, hb, hml, hown, hts, hK, hA, hlo, hN⟩ := C
  refine ⟨(), ⟨hM, hxo⟩, ⟨hc.symm, fun k q hk => (hP k q hk).kept (hq _ (hP k q hk).lt), va_K.moved ha hK, hD⟩, Nat.le_trans hS.1 hz, fun q h1 h2 => ?_⟩
  rw [hq q (Nat.lt_of_lt_of_le h1 hS.1)]
  exact hS.2.1 q h1 h2
theorem z_thrX (C : Cx p s m args meth c cc "DoacrossScheduler" nL Ts D cy (va_A (wl cy ad σ) s.heap.size)) (hl0 : l.stackTraces = false) (hX : zSX (va_A (wl cy ad σ) s.heap.size) s s.heap) (hE : ∀ x ∈ c.exceptionTable.toList, False) {fr lo : Nat} (hR : R = { frames := fr, cells := 1, slots := 6, locals := lo }) (hfr : 6 ≤ fr) (hlo2 : 82 ≤ lo) {rt : Nat} {xo ro : Int} {σo : MM} : ThrX p l e R s m args below meth c cc "DoacrossScheduler" nL Ts D cy ad (va_A (wl cy ad σ) s.heap.size) (QX below args s D cy ad σ rt xo ro σo) xo σo := by
  subst hR
  intro pc vs ik is ic cls text hxo hc hfit hk hini hstr hat hbad hgood d0 d3 d4 d6 d9 hM H locs ls hP hD hS hl
  have C0 := C
  obtain ⟨hx, hb, hml, hown, hts, hK, hA, hlo, hN⟩ := C
  obtain ⟨sa, hsa⟩ := hX.2.2.1 _ hstr
  exact vx_throwS hx hb hl0 hown hfit (by decide) (hts _ hk) (hts _ hini) hsa (vx_hat (fun w hw => hts w (hat w hw)) hbad (xB_use hX hxo hc)) hgood hX.1 hX.2.1 hS (by rw [hml]; exact hl.1) d0 d3 d4 d6 d9 (fun x h => (hE x h).elim) (by show 2 + 3 < fr; omega) (by show 0 + (13 * (2 + 1) + 43) ≤ lo; omega) (Nat.le_refl 1) (Nat.le_refl 6) hlo (z_xc C0 hxo hc hM hP hD hS) hS.2.2 (Nat.le_refl 1) (Nat.le_refl 6)
theorem z_thrW (C : Cx p s m args meth c cc "DoacrossScheduler" nL Ts D cy (va_A (wl cy ad σ) s.heap.size)) (hl0 : l.stackTraces = false) (hX : zSX (va_A (wl cy ad σ) s.heap.size) s s.heap) (hE : ∀ x ∈ c.exceptionTable.toList, False) {fr lo : Nat} (hR : R = { frames := fr, cells := 1, slots := 6, locals := lo }) (hfr : 6 ≤ fr) (hlo2 : 82 ≤ lo) {rt : Nat} {xo ro : Int} {σo : MM} : ThrW p l e R s m args below meth c cc "DoacrossScheduler" nL Ts D cy ad (va_A (wl cy ad σ) s.heap.size) (QX below args s D cy ad σ rt xo ro σo) xo σo := by
  subst hR
  intro pc vs ik is ic cls text hxo hc hfit hk hini hstr hat hbad hgood d0 d3 d4 d6 d9 hM H locs ls hP hD hS hl
  have C0 := C
  obtain ⟨hx, hb, hml, hown, hts, hK, hA, hlo, hN⟩ := C
  obtain ⟨sa, hsa⟩ := hX.2.2.1 _ hstr
  exact vx_throwSW hx hb hl0 hown hfit (by decide) (hts _ hk) (hts _ hini) hsa (vx_hat (fun w hw => hts w (hat w hw)) hbad (xB_use hX hxo hc)) hgood hX.1 hX.2.1 hS (by rw [hml]; exact hl.1) d0 d3 d4 d6 d9 (fun x h => (hE x h).elim) (by show 2 + 3 < fr; omega) (by show 0 + (13 * (2 + 1) + 43) ≤ lo; omega) (Nat.le_refl 1) (Nat.le_refl 6) hlo (z_xc C0 hxo hc hM hP hD hS) hS.2.2 (Nat.le_refl 1) (Nat.le_refl 6)
/-- the class's own row of ints, read at a place -/
theorem g_stald (C : Cx p s m args meth c cc own nL Ts D cy A) {nm : String} {f : Nat → Int} {fi : Int → Int} (hf : ∀ k : Nat, f k = fi (k : Int)) (hr : ∀ i, inR (fi i)) {t : Nat} (hT : va_T .int t 4 (fun k => .int (Int32.ofInt (f k))) A s s.heap) {i : Int} (hi : 0 ≤ i ∧ i < 4) (hdg : decode cc pc = .ok (.iaload, 1)) (kk : inR (fi i) → G p l e R s m args below meth c nL D cy ad A Q (pc + 1) vs (.int (Int32.ofInt (fi i)) :: st) σ) : G p l e R s m args below meth c nL D cy ad A Q pc vs (.int (Int32.ofInt i) :: .ref t :: st) σ := by
  intro hM H locs ls hP hD hS hl
  obtain ⟨hx, hb, hml, hown, hts, hK, hA, hlo, hN⟩ := C
  obtain ⟨h1, h2⟩ := z_in (n := 4) hi (by decide)
  exact va_ti hx hb hT hS h1 (v := .int (Int32.ofInt (fi i))) (by show Value.int (Int32.ofInt (f _)) = _; rw [hf, h2]) hdg (kk (hr _) hM H locs ls hP hD hS hl)
theorem g_gets (C : Cx p s m args meth c cc own nL Ts D cy A) {nm : String} {index t : Nat} (hZ : va_Z "DoacrossScheduler" nm "[I" (.ref t) A s s.heap) (hlink : Cond.fieldLink own index "DoacrossScheduler" nm "[I" ∈ Ts) (hdg : decode cc pc = .ok (.getstatic index, 3)) (kk : G p l e R s m args below meth c nL D cy ad A Q (pc + 3) vs (.ref t :: st) σ) : G p l e R s m args below meth c nL D cy ad A Q pc vs st σ := by
  intro hM H locs ls hP hD hS hl
  obtain ⟨hx, hb, hml, hown, hts, hK, hA, hlo, hN⟩ := C
  exact va_gets hx hb hZ hS hown (hts _ hlink) (fun _ h9 => h9) hdg (kk hM H locs ls hP hD hS hl)
end ZX
theorem z_ctX {l : Launch} {y : MethodName} {ws ws' : List Cond} {fr lo : Nat} {cc : ByteArray} {maxL rt : Nat} {as : (Nat → Nat) → List Value} {σ : MM} {xo ro : Int} {σo : MM} (hl0 : l.stackTraces = false) (hM : okM σ) (hy : plainName y.cls = true) (hw : ws = Cond.code y cc maxL (some (rtT rt)) :: ws') (hlen : ∀ ad : Nat → Nat, (lg_sl (as ad)).length ≤ maxL) (hcls : y.cls = "DoacrossScheduler") (hfr : 6 ≤ fr) (hlo : 82 ≤ lo)
    (body : ∀ {p : Program} {e : Env} {s : State} {m : MethodId} {args : Array Value} {below : List Frame} {meth : Method} {c : Code} {D : va_G} {cy : Nat → ClassId} {ad : Nat → Nat} {A : Nat → Prop} {Q : State → Prop}, Cx p s m args meth c cc "DoacrossScheduler" maxL ws D cy A → zSX A s s.heap → RetX p l e { frames := fr, cells := 1, slots := 6, locals := lo } s m args below meth c cc maxL D cy ad A Q rt xo ro σo → ThrX p l e { frames := fr, cells := 1, slots := 6, locals := lo } s m args below meth c cc "DoacrossScheduler" maxL ws D cy ad A Q xo σo → ThrW p l e { frames := fr, cells := 1, slots := 6, locals := lo } s m args below meth c cc "DoacrossScheduler" maxL ws D cy ad A Q xo σo → G p l e { frames := fr, cells := 1, slots := 6, locals := lo } s m args below meth c maxL D cy ad A Q 0 (lv_args 0 (as ad)) [] σ) : CtX l y ws { frames := fr, cells := 1, slots := 6, locals := lo } as σ rt xo ro σo := by
  intro D cy ad sz
  refine vx_ofW (cc := cc) (maxL := maxL) (ret := some (rtT rt)) hy hw ?_
  intro p e s m args below meth c s₁ B hml hE hv
  obtain ⟨rfl, ⟨hsz, hP, hK, hD, hN⟩, hX⟩ := hv
  subst hsz
  have C : Cx p s m (as ad).toArray meth c cc "DoacrossScheduler" maxL ws D cy (va_A (wl cy ad σ) s.heap.size) := ⟨B.exec, B.bytes, hml, by rw [← hcls]; exact findClass_of_methodNamed B.named, atoms_spec (ws := ws) B.pre, hK, fun q h => Or.inr h, B.notSynchronized, hN⟩
  have hl := lv_entry (as ad) (n := maxL) (hlen ad)
  rw [lg_entry_eq]
  exact body C hX (z_retX C B.returns) (z_thrX C hl0 hX hE rfl hfr hlo) (z_thrW C hl0 hX hE rfl hfr hlo) hM s.heap [] _ hP hD.self va_S.rf hl
theorem leVI : ∀ k : Nat, leV k = leI (k : Int) := by
  intro k
  have h0 : ((k : Int) = 0) = (k = 0) := by apply propext; omega
  have h2 : ((k : Int) = 2) = (k = 2) := by apply propext; omega
  simp only [leV, leI, h0, h2]
theorem grVI : ∀ k : Nat, grV k = grI (k : Int) := by
  intro k
  have h0 : ((k : Int) = 0) = (k = 0) := by apply propext; omega
  have h1 : ((k : Int) = 1) = (k = 1) := by apply propext; omega
  have h2 : ((k : Int) = 2) = (k = 2) := by apply propext; omega
  simp only [grV, grI, h0, h1, h2]
theorem leIR : ∀ i : Int, inR (leI i) := by
  intro i
  unfold leI
  split
  · decide
  · split <;> decide
theorem grIR : ∀ i : Int, inR (grI i) := by
  intro i
  unfold grI
  split
  · decide
  · split
    · decide
    · split <;> decide
/-- the four exceptions' words -/
theorem xb_1 : ∀ w ∈ (vx_atS "DoacrossScheduler" 66 "java/lang/IllegalArgumentException" xnames).filter (fun w => !goodWord w), w ∈ xB "java/lang/IllegalArgumentException" := by decide +kernel
theorem xb_2 : ∀ w ∈ (vx_atS "DoacrossScheduler" 76 "java/lang/IllegalStateException" xnames).filter (fun w => !goodWord w), w ∈ xB "java/lang/IllegalStateException" := by decide +kernel
theorem xb_3 : ∀ w ∈ (vx_atS "DoacrossScheduler" 104 "java/lang/IndexOutOfBoundsException" xnames).filter (fun w => !goodWord w), w ∈ xB "java/lang/IndexOutOfBoundsException" := by decide +kernel
theorem xb_4 : ∀ w ∈ (vx_atS "DoacrossScheduler" 214 "java/lang/UnsupportedOperationException" xnames).filter (fun w => !goodWord w), w ∈ xB "java/lang/UnsupportedOperationException" := by decide +kernel
theorem xg_1 : ∀ w ∈ Cond.classLink "DoacrossScheduler" 62 "java/lang/IllegalArgumentException" :: Cond.initialized "java/lang/IllegalArgumentException" :: vx_atS "DoacrossScheduler" 66 "java/lang/IllegalArgumentException" xnames, vx_ot w = true := by decide +kernel
theorem xg_2 : ∀ w ∈ Cond.classLink "DoacrossScheduler" 72 "java/lang/IllegalStateException" :: Cond.initialized "java/lang/IllegalStateException" :: vx_atS "DoacrossScheduler" 76 "java/lang/IllegalStateException" xnames, vx_ot w = true := by decide +kernel
theorem xg_3 : ∀ w ∈ Cond.classLink "DoacrossScheduler" 100 "java/lang/IndexOutOfBoundsException" :: Cond.initialized "java/lang/IndexOutOfBoundsException" :: vx_atS "DoacrossScheduler" 104 "java/lang/IndexOutOfBoundsException" xnames, vx_ot w = true := by decide +kernel
theorem xg_4 : ∀ w ∈ Cond.classLink "DoacrossScheduler" 210 "java/lang/UnsupportedOperationException" :: Cond.initialized "java/lang/UnsupportedOperationException" :: vx_atS "DoacrossScheduler" 214 "java/lang/UnsupportedOperationException" xnames, vx_ot w = true := by decide +kernel
