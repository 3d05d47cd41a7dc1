/-! CONSTRUCTORS: a world that grows. ws: the cells made so far; k, n: how many cells and places -/
def frV (k : Nat) : Int := if k = 0 then 10 else if k = 1 then 1 else if k = 2 then 2 else 0
theorem z_nd : ∀ l : List Nat, l.Nodup → va_nd l = true := by
  intro l
  induction l with
  | nil => intro _; rfl
  | cons a l ih =>
    intro h
    obtain ⟨h1, h2⟩ := List.nodup_cons.mp h
    unfold va_nd
    rw [ih h2]
    simp [h1]
section ZC
variable {p : Program} {l : Launch} {e : Env} {R : Room} {s : State} {m : MethodId} {args : Array Value} {below : List Frame} {meth : Method} {c : Code} {cc : ByteArray} {own : String} {nL : Nat} {Ts : List Cond} {D : va_G} {cy : Nat → ClassId} {A : Nat → Prop} {Q : State → Prop} {pc : Nat} {vs vs' : List (Nat × Value)} {st : List Value} {ws ws' : va_W} {k n : Nat}
def GC (p : Program) (l : Launch) (e : Env) (R : Room) (s : State) (m : MethodId) (args : Array Value) (below : List Frame) (meth : Method) (c : Code) (nL : Nat) (D : va_G) (A : Nat → Prop) (Q : State → Prop) (pc : Nat) (vs : List (Nat × Value)) (st : List Value) (ws : va_W) (k n : Nat) : Prop :=
  ∀ (H : Heap) (locs : List Loc) (ls : Array Slot), va_P D vwCl ws H → va_D A ws → va_S A s.heap H locs → lv_has ls nL vs → W p l e R s m args below meth c H locs k n Q (F0 m pc ls st)
abbrev eA (cy : Nat → ClassId) (t n : Nat) : va_E := .inl (cy t, n, .inl (fun _ : Nat => (0 : Int32)))
theorem k_sub (is : List Nat) (hs : lv_pick vs is = vs') (kk : GC p l e R s m args below meth c nL D A Q pc vs' st ws k n) : GC p l e R s m args below meth c nL D A Q pc vs st ws k n :=
  fun H locs ls hP hD hS hl => kk H locs ls hP hD hS (lv_sub hl is hs)
theorem k_aload_n (C : Cx p s m args meth c cc own nL Ts D cy A) {i : Fin 4} {x : Nat} (hdg : decode cc pc = .ok (.aload_n i, 1)) (j : Nat) (hj : vs[j]? = some ((i : Nat), .ref x)) (kk : GC p l e R s m args below meth c nL D A Q (pc + 1) vs (.ref x :: st) ws k n) : GC p l e R s m args below meth c nL D A Q pc vs st ws k n :=
  fun H locs ls hP hD hS hl => lv_aload_n C.1 C.2.1 hdg rfl (lv_at hl j hj) (kk H locs ls hP hD hS hl)
theorem k_iload_n (C : Cx p s m args meth c cc own nL Ts D cy A) {i : Fin 4} {x : Int32} (hdg : decode cc pc = .ok (.iload_n i, 1)) (j : Nat) (hj : vs[j]? = some ((i : Nat), .int x)) (kk : GC p l e R s m args below meth c nL D A Q (pc + 1) vs (.int x :: st) ws k n) : GC p l e R s m args below meth c nL D A Q pc vs st ws k n :=
  fun H locs ls hP hD hS hl => lv_iload_n C.1 C.2.1 hdg rfl (lv_at hl j hj) (kk H locs ls hP hD hS hl)
theorem k_istore_n (C : Cx p s m args meth c cc own nL Ts D cy A) {i : Fin 4} {x : Int32} (hdg : decode cc pc = .ok (.istore_n i, 1)) (hn : (i : Nat) < nL) (hl : ((i : Nat), Value.int x) :: vs.filter (fun q => !(q.1 == (i : Nat)) && !(q.1 + 1 == (i : Nat) && q.2.category == 2)) = vs') (kk : GC p l e R s m args below meth c nL D A Q (pc + 1) vs' st ws k n) : GC p l e R s m args below meth c nL D A Q pc vs (.int x :: st) ws k n :=
  fun H locs ls hP hD hS hl2 => lv_istore_n C.1 C.2.1 hdg rfl hl2 hn hl (fun ls' hl' => kk H locs ls' hP hD hS hl')
theorem k_iinc (C : Cx p s m args meth c cc own nL Ts D cy A) {i j : Nat} {d : Int} {x v : Int32} (hdg : decode cc pc = .ok (.iinc i d, 3)) (hj : vs[j]? = some (i, .int x)) (hv : x + Int32.ofInt d = v) (hn : i < nL) (hl : (i, Value.int v) :: vs.filter (fun q => !(q.1 == i) && !(q.1 + 1 == i && q.2.category == 2)) = vs') (kk : GC p l e R s m args below meth c nL D A Q (pc + 3) vs' st ws k n) : GC p l e R s m args below meth c nL D A Q pc vs st ws k n :=
  fun H locs ls hP hD hS hl2 => lv_iinc C.1 C.2.1 hdg hl2 hj hv hn hl (fun ls' hl' => kk H locs ls' hP hD hS hl')
theorem k_goto (C : Cx p s m args meth c cc own nL Ts D cy A) {d : Int} (tgt : Nat) (hdg : decode cc pc = .ok (.goto d, 3)) (ht : (pc : Int) + d = tgt) (kk : GC p l e R s m args below meth c nL D A Q tgt vs st ws k n) : GC p l e R s m args below meth c nL D A Q pc vs st ws k n :=
  fun H locs ls hP hD hS hl => lv_goto C.1 C.2.1 hdg ht (kk H locs ls hP hD hS hl)
theorem k_ge_n (C : Cx p s m args meth c cc own nL Ts D cy A) {x y : Int32} {d : Int} (tgt : Nat) (hdg : decode cc pc = .ok (.if_icmp .ge d, 3)) (ht : (pc : Int) + d = tgt) (h : ¬ y ≤ x) (kk : GC p l e R s m args below meth c nL D A Q (pc + 3) vs st ws k n) : GC p l e R s m args below meth c nL D A Q pc vs (.int y :: .int x :: st) ws k n :=
  fun H locs ls hP hD hS hl => lv_icmp_ge C.1 C.2.1 hdg ht (fun q => absurd q h) (fun _ => kk H locs ls hP hD hS hl)
theorem k_ge_y (C : Cx p s m args meth c cc own nL Ts D cy A) {x y : Int32} {d : Int} (tgt : Nat) (hdg : decode cc pc = .ok (.if_icmp .ge d, 3)) (ht : (pc : Int) + d = tgt) (h : y ≤ x) (kk : GC p l e R s m args below meth c nL D A Q tgt vs st ws k n) : GC p l e R s m args below meth c nL D A Q pc vs (.int y :: .int x :: st) ws k n :=
  fun H locs ls hP hD hS hl => lv_icmp_ge C.1 C.2.1 hdg ht (fun _ => kk H locs ls hP hD hS hl) (fun q => absurd h q)
theorem k_iconst (C : Cx p s m args meth c cc own nL Ts D cy A) {d : Int} {v : Int32} (hdg : decode cc pc = .ok (.iconst d, 1)) (hv : Int32.ofInt d = v) (kk : GC p l e R s m args below meth c nL D A Q (pc + 1) vs (.int v :: st) ws k n) : GC p l e R s m args below meth c nL D A Q pc vs st ws k n :=
  fun H locs ls hP hD hS hl => lv_iconst C.1 C.2.1 hdg hv (kk H locs ls hP hD hS hl)
theorem k_bipush (C : Cx p s m args meth c cc own nL Ts D cy A) {d : Int} {v : Int32} (hdg : decode cc pc = .ok (.bipush d, 2)) (hv : (Int8.ofInt d).toInt32 = v) (kk : GC p l e R s m args below meth c nL D A Q (pc + 2) vs (.int v :: st) ws k n) : GC p l e R s m args below meth c nL D A Q pc vs st ws k n :=
  fun H locs ls hP hD hS hl => lv_bipush C.1 C.2.1 hdg hv (kk H locs ls hP hD hS hl)
theorem k_sipush (C : Cx p s m args meth c cc own nL Ts D cy A) {d : Int} {v : Int32} (hdg : decode cc pc = .ok (.sipush d, 3)) (hv : (Int16.ofInt d).toInt32 = v) (kk : GC p l e R s m args below meth c nL D A Q (pc + 3) vs (.int v :: st) ws k n) : GC p l e R s m args below meth c nL D A Q pc vs st ws k n :=
  fun H locs ls hP hD hS hl => lv_sipush C.1 C.2.1 hdg hv (kk H locs ls hP hD hS hl)
theorem k_dup (C : Cx p s m args meth c cc own nL Ts D cy A) {x : Nat} (hdg : decode cc pc = .ok (.dup, 1)) (kk : GC p l e R s m args below meth c nL D A Q (pc + 1) vs (.ref x :: .ref x :: st) ws k n) : GC p l e R s m args below meth c nL D A Q pc vs (.ref x :: st) ws k n :=
  fun H locs ls hP hD hS hl => lv_dup C.1 C.2.1 hdg rfl (kk H locs ls hP hD hS hl)
theorem k_obj (C : Cx p s m args meth c cc own nL Ts D cy A) {idx x : Nat} (h1 : Cond.methodLink own idx objectInit ∈ Ts) (h2 : Cond.instanceMethod objectInit ∈ Ts) (h3 : Cond.code objectInit ⟨#[0xb1]⟩ 1 none ∈ Ts) (hfr : 1 ≤ R.frames) (hlo : 12 ≤ R.locals) (hdg : decode cc pc = .ok (.invokespecial idx, 3)) (kk : GC p l e R s m args below meth c nL D A Q (pc + 3) vs [] ws k n) : GC p l e R s m args below meth c nL D A Q pc vs [.ref x] ws k n := by
  intro H locs ls hP hD hS hl
  obtain ⟨hx, hb, hml, hown, hts, hK, hA, hlo2, hN⟩ := C
  exact W.objInit hx hb hown (hts _ h1) (hts _ h2) (hts _ h3) rfl (by rw [hml]; exact hl.1) rfl hdg hfr hlo (W.eq (g2 := F0 m (pc + 3) ls []) rfl (kk H locs ls hP hD hS hl))
def tyT (t : Nat) : FieldType := if t = 0 then .int else if t = 1 then .boolean else if t = 2 then .char else .long
theorem k_newa (C : Cx p s m args meth c cc own nL Ts D cy A) (t : Nat) {atype : ArrayType} (ht : t < 4) (hty : newarray.typeOf atype = tyT t) (harr : Cond.arrayClass (tyT t) ∈ Ts) {v : Int32} {N : Nat} {vv : vp_A} (ha : ∀ cA : ClassId, vp_cell cA vv = arrV cA N (fun _ => defaultValue (tyT t))) (hn : ¬ v < 0) (hN : v.toNatClampNeg = N) (hbytes : N * componentBytes (tyT t) ≤ 536870912) (hcells : k + 1 ≤ R.cells) (hslots : n + N ≤ R.slots) (hdg : decode cc pc = .ok (.newarray atype, 2))
    (kk : ∀ q : Nat, GC p l e R s m args below meth c nL D A Q (pc + 2) vs (.ref q :: st) (ws ++ [(q, .inl (cy t, vv))]) (k + 1) (n + N)) : GC p l e R s m args below meth c nL D A Q pc vs (.int v :: st) ws k n := by
  intro H locs ls hP hD hS hl
  obtain ⟨hx, hb, hml, hown, hts, hK, hA, hlo2, hN2⟩ := C
  refine va_newaK hx hb (by rw [hty]; exact hts _ harr) (g := F0 m pc ls (.int v :: st)) rfl hdg rfl hn hN (by rw [hty]; exact hbytes) hcells hslots rfl fun H1 cA e1 z1 o1 hAr hNm => ?_
  rw [hty] at e1 hAr hNm
  have hcA : cA = cy t := by
    have h1 : (tyl cy)[t]? = some (cy t, tyT t) := by
      have : t = 0 ∨ t = 1 ∨ t = 2 ∨ t = 3 := by omega
      rcases this with rfl | rfl | rfl | rfl <;> rfl
    have h2 := (hK.2 t _ h1).2
    have h3 : s.vm.findClass ("[" ++ (tyT t).toString) = some (cy t) := by
      have : t = 0 ∨ t = 1 ∨ t = 2 ∨ t = 3 := by omega
      rcases this with rfl | rfl | rfl | rfl <;> exact h2
    exact Option.some.inj (hNm.symm.trans h3)
  subst hcA
  have hk : ∀ (j : Nat) (x : Nat × va_E), ws[j]? = some x → H1[x.1]? = H[x.1]? := fun j x hx => o1 x.1 ((hP j x hx).lt)
  refine kk H.size H1 locs ls ((hP.kept hk).app (fun j x hx => ?_)) (hD.push hP rfl (hA _ hS.1)) ⟨Nat.le_trans hS.1 (by omega), fun x h1 h2 => (o1 x (Nat.lt_of_lt_of_le h1 hS.1)).trans (hS.2.1 x h1 h2), hS.2.2⟩ hl
  have hz : j < 1 := (List.getElem?_eq_some_iff.mp hx).1
  rw [show j = 0 by omega] at hx
  cases hx
  show H1[H.size]? = some (vp_cell _ _)
  rw [ha]
  exact e1
theorem k_putF (C : Cx p s m args meth c cc own nL Ts D cy A) {C' ref : String} {T : u_T} {N ci index q0 f : Nat} {fs : List Value} {a : Nat} (hin : ∀ w ∈ u_ws C' T N, w ∈ Ts) (ty0 : Nat → FieldType) (hty : ∀ k, k < N → parseFieldDescriptor (T k).2.2.1 = some (ty0 k)) (hnm : ∀ a, a < N → ∀ b, b < N → a ≠ b → (T a).2.1 ≠ (T b).2.1) (he : ws[q0]? = some (a, .inr (ci, fs))) (hc : vwCl[ci]? = some (C', T, N)) (hk : f < N) (hlink : Cond.fieldLink own index ref (T f).2.1 (T f).2.2.1 ∈ Ts) (href : ref = (T f).1) (hfin : (T f).2.2.2 = true) (hin2 : meth.name = "<init>") (hdecl : (T f).1 = own) {v : Nat} (hfit : fits (ty0 f) (.ref v) = true) (hna : narrow (ty0 f) (.ref v) = .ref v) (hl0 : f < fs.length)
    (hdg : decode cc pc = .ok (.putfield index, 3)) (hw : ws.set q0 (a, .inr (ci, fs.set f (.ref v))) = ws') (kk : GC p l e R s m args below meth c nL D A Q (pc + 3) vs st ws' k n) : GC p l e R s m args below meth c nL D A Q pc vs (.ref v :: .ref a :: st) ws k n := by
  subst hw
  subst href
  intro H locs ls hP hD hS hl
  obtain ⟨hx, hb, hml, hown, hts, hK, hA, hlo2, hN⟩ := C
  exact va_putF hx hb hts hin ty0 hty hnm hown hK hP hD hS q0 he hc f hk (hts _ hlink) (fun _ h9 => h9) hfin hin2 hdecl (hty f hk) hna hfit hl0 hdg (fun H1 locs1 hP hD hS => kk H1 locs1 ls hP hD hS hl)
theorem k_put (C : Cx p s m args meth c cc own nL Ts D cy A) {C' ref : String} {T : u_T} {N ci index q0 f : Nat} {fs : List Value} {a : Nat} (hin : ∀ w ∈ u_ws C' T N, w ∈ Ts) (ty0 : Nat → FieldType) (hty : ∀ k, k < N → parseFieldDescriptor (T k).2.2.1 = some (ty0 k)) (hnm : ∀ a, a < N → ∀ b, b < N → a ≠ b → (T a).2.1 ≠ (T b).2.1) (he : ws[q0]? = some (a, .inr (ci, fs))) (hc : vwCl[ci]? = some (C', T, N)) (hk : f < N) (hlink : Cond.fieldLink own index ref (T f).2.1 (T f).2.2.1 ∈ Ts) (href : ref = (T f).1) (hfin : (T f).2.2.2 = false) {v : Int32} (hfit : fits (ty0 f) (.int v) = true) (hna : narrow (ty0 f) (.int v) = .int v) (hl0 : f < fs.length)
    (hdg : decode cc pc = .ok (.putfield index, 3)) (hw : ws.set q0 (a, .inr (ci, fs.set f (.int v))) = ws') (kk : GC p l e R s m args below meth c nL D A Q (pc + 3) vs st ws' k n) : GC p l e R s m args below meth c nL D A Q pc vs (.int v :: .ref a :: st) ws k n := by
  subst hw
  subst href
  intro H locs ls hP hD hS hl
  obtain ⟨hx, hb, hml, hown, hts, hK, hA, hlo2, hN⟩ := C
  exact va_put hx hb hts hin ty0 hty hnm hown hK hP hD hS q0 he hc f hk (hts _ hlink) (fun _ h9 => h9) hfin (hty f hk) hna hfit hl0 hdg (fun H1 locs1 hP hD hS => kk H1 locs1 ls hP hD hS hl)
theorem k_new (C : Cx p s m args meth c cc own nL Ts D cy A) {C' : String} {T : u_T} {N ci index : Nat} {fs : List Value} (hin : ∀ w ∈ u_ws C' T N, w ∈ Ts) (ty0 : Nat → FieldType) (hty : ∀ k, k < N → parseFieldDescriptor (T k).2.2.1 = some (ty0 k)) (hc : vwCl[ci]? = some (C', T, N)) (hlink : Cond.classLink own index C' ∈ Ts) (hinst : Cond.instantiable C' N ∈ Ts) (hini : Cond.initialized C' ∈ Ts) (hfs : ∀ j, j < N → defaultValue (ty0 j) = vp_V fs j) (hcells : k + 1 ≤ R.cells) (hslots : n + N ≤ R.slots) (hdg : decode cc pc = .ok (.new index, 3))
    (kk : ∀ q : Nat, GC p l e R s m args below meth c nL D A Q (pc + 3) vs (.ref q :: st) (ws ++ [(q, .inr (ci, fs))]) (k + 1) (n + N)) : GC p l e R s m args below meth c nL D A Q pc vs st ws k n := by
  intro H locs ls hP hD hS hl
  obtain ⟨hx, hb, hml, hown, hts, hK, hA, hlo2, hN⟩ := C
  exact va_new hx hb hts hin ty0 hty hown (hts _ hlink) (hts _ hinst) (hts _ hini) hK hP hD hS hA hc hfs hcells hslots hdg (fun q H1 hP hD hS => kk q H1 locs ls hP hD hS hl)
theorem k_get (C : Cx p s m args meth c cc own nL Ts D cy A) {C' ref : String} {T : u_T} {N ci index q0 f : Nat} {fs : List Value} {a : Nat} {v : Value} (hin : ∀ w ∈ u_ws C' T N, w ∈ Ts) (ty0 : Nat → FieldType) (hty : ∀ k, k < N → parseFieldDescriptor (T k).2.2.1 = some (ty0 k)) (he : ws[q0]? = some (a, .inr (ci, fs))) (hc : vwCl[ci]? = some (C', T, N)) (hk : f < N) (hlink : Cond.fieldLink own index ref (T f).2.1 (T f).2.2.1 ∈ Ts) (href : ref = (T f).1) (hv : fs[f]? = some v)
    (hdg : decode cc pc = .ok (.getfield index, 3)) (kk : GC p l e R s m args below meth c nL D A Q (pc + 3) vs (v :: st) ws k n) : GC p l e R s m args below meth c nL D A Q pc vs (.ref a :: st) ws k n := by
  subst href
  intro H locs ls hP hD hS hl
  obtain ⟨hx, hb, hml, hown, hts, hK, hA, hlo2, hN⟩ := C
  exact va_get hx hb hts hin hown hK hP q0 he hc f hk (hts _ hlink) (fun _ h9 => h9) hv hdg (kk H locs ls hP hD hS hl)
theorem k_iast (C : Cx p s m args meth c cc own nL Ts D cy A) {q0 N : Nat} {a : Nat} {f : Nat → Int32} {i x : Int32} (he : ws[q0]? = some (a, .inl (cy 0, N, .inl f))) (hi : vp_in i N) (hdg : decode cc pc = .ok (.iastore, 1)) (hw : ws.set q0 (a, .inl (cy 0, N, .inl (upd f i.toNatClampNeg x))) = ws') (kk : GC p l e R s m args below meth c nL D A Q (pc + 1) vs st ws' k n) : GC p l e R s m args below meth c nL D A Q pc vs (.int x :: .int i :: .ref a :: st) ws k n := by
  subst hw
  intro H locs ls hP hD hS hl
  obtain ⟨hx, hb, hml, hown, hts, hK, hA, hlo2, hN⟩ := C
  exact va_iast hx hb hK hP hD hS q0 0 he rfl hi hdg (fun H1 locs1 hP hD hS => kk H1 locs1 ls hP hD hS hl)
theorem k_getsN (C : Cx p s m args meth c cc own nL Ts D cy A) {nm host : String} {index t : Nat} (hZ : va_Z "DoacrossScheduler" nm "[I" (.ref t) A s s.heap) (hlink : (own, index, "DoacrossScheduler", nm, "[I", host) ∈ nestL) (hdg : decode cc pc = .ok (.getstatic index, 3)) (kk : GC p l e R s m args below meth c nL D A Q (pc + 3) vs (.ref t :: st) ws k n) : GC p l e R s m args below meth c nL D A Q pc vs st ws k n := by
  intro H locs ls hP hD hS hl
  obtain ⟨hx, hb, hml, hown, hts, hK, hA, hlo2, hN⟩ := C
  exact va_getsN (host := host) hx hb hZ hS hown (va_Nw.use rfl (hN _ hlink)) (fun _ h9 => h9) hdg (kk H locs ls hP hD hS hl)
theorem k_ti (C : Cx p s m args meth c cc own nL Ts D cy A) {t N : Nat} {f : Nat → Value} {i : Int32} {v : Value} (hT : va_T .int t N f A s s.heap) (hi : vp_in i N) (hv : f i.toNatClampNeg = v) (hdg : decode cc pc = .ok (.iaload, 1)) (kk : GC p l e R s m args below meth c nL D A Q (pc + 1) vs (v :: st) ws k n) : GC p l e R s m args below meth c nL D A Q pc vs (.int i :: .ref t :: st) ws k n := by
  intro H locs ls hP hD hS hl
  obtain ⟨hx, hb, hml, hown, hts, hK, hA, hlo2, hN⟩ := C
  exact va_ti hx hb hT hS hi hv hdg (kk H locs ls hP hD hS hl)
theorem k_w {ws2 : va_W} (h : ws = ws2) (kk : GC p l e R s m args below meth c nL D A Q pc vs st ws2 k n) : GC p l e R s m args below meth c nL D A Q pc vs st ws k n := h ▸ kk
/-- a constructor's contract: from the fresh object at h0 to the world W1, whose addresses are a 0 = h0, a 1, .. -/
def kBC (D : va_G) (cy : Nat → ClassId) (h0 ci : Nat) (fs : List Value) (sz : Nat) (U : State) : Prop := U.heap.size = sz ∧ va_P D vwCl [(h0, .inr (ci, fs))] U.heap ∧ va_K D vwCl (tyl cy) U ∧ va_D (fun _ => True) [(h0, .inr (ci, fs))] ∧ zN U ∧ zStat "FIRST_VALUE" frV (va_A [(h0, .inr (ci, fs))] sz) U U.heap
def CtC (l : Launch) (y : MethodName) (wds : List Cond) (rm : Room) (ci : Nat) (fs : List Value) (W1 : (Nat → ClassId) → (Nat → Nat) → va_W) (mc ms : Nat) : Prop :=
  ∀ (D : va_G) (cy : Nat → ClassId) (h0 sz : Nat), Met l y wds rm (va_Pc [.ref h0] (kBC D cy h0 ci fs sz)) (va_Qv (fun a : Nat → Nat => a 0 = h0) (fun a t => va_P D vwCl (W1 cy a) t.heap ∧ va_K D vwCl (tyl cy) t ∧ va_D (va_A [(h0, .inr (ci, fs))] sz) (W1 cy a)) (va_A [(h0, .inr (ci, fs))] sz)) mc ms (va_A [(h0, .inr (ci, fs))] sz)
theorem kBC_blind {D : va_G} {cy : Nat → ClassId} {h0 ci : Nat} {fs : List Value} {sz : Nat} {av : List Value} : FrameBlind (va_Pc av (kBC D cy h0 ci fs sz)) := by
  intro a U g mk q
  obtain ⟨q0, q1, qP, qK, qD, qN, qZ⟩ := q
  exact ⟨q0, q1, qP, va_K.moved (u := U) (U := U.calling g mk a) (Vm.Alike.refl U.vm) qK, qD, fun w hw => va_Nw.same rfl (u := U) (U := U.calling g mk a) rfl (qN w hw), zStat.moved (u := U) (U := U.calling g mk a) (Vm.Alike.refl U.vm) qZ⟩
theorem k_call (C : Cx p s m args meth c cc own nL Ts D cy A) {y : MethodName} {bytes : ByteArray} {maxL ci index q mc ms : Nat} {rm : Room} {fs : List Value} {W1 : (Nat → ClassId) → (Nat → Nat) → va_W} {wds wds' : List Cond} {rest : List Value} (hM : CtC l y wds rm ci fs W1 mc ms) (hG : GoodIn Ts wds) (hw : wds = Cond.code y bytes maxL none :: wds') (hrm : rm.cells = mc ∧ rm.slots = ms) (hini : Cond.initialized y.cls ∈ Ts) (hlink : Cond.methodLink own index y ∈ Ts) (hinst : Cond.instanceMethod y ∈ Ts) (hy : y.name = "<init>") (hd : y.cls ≠ "java/lang/invoke/MethodHandle" ∧ y.cls ≠ "java/lang/invoke/VarHandle" ∧ (parseMethodDescriptor y.desc).map (fun d => d.parameters.length) = some 0) (hR : rm.frames + 1 ≤ R.frames ∧ 8 + (maxL + 11) + rm.locals ≤ R.locals) (hcat : (rest.map fun v => v.category).sum ≤ 8) (hdg : decode cc pc = .ok (.invokespecial index, 3)) (hk : k + mc ≤ R.cells ∧ n + ms ≤ R.slots) (hZ : zStat "FIRST_VALUE" frV A s s.heap)
    (kk : ∀ a : Nat → Nat, a 0 = q → GC p l e R s m args below meth c nL D A Q (pc + 3) vs rest (ws ++ W1 cy a) (k + mc) (n + ms)) : GC p l e R s m args below meth c nL D A Q pc vs (.ref q :: rest) (ws ++ [(q, .inr (ci, fs))]) k n := by
  intro H locs ls hP hD hS hl
  obtain ⟨hx, hb, hml, hown, hts, hK, hA, hlo2, hN⟩ := C
  have hPc : va_P D vwCl [(q, .inr (ci, fs))] H := fun j x hx => by
    have hj : j < 1 := (List.getElem?_eq_some_iff.mp hx).1
    rw [show j = 0 by omega] at hx
    cases hx
    exact hP ws.length _ (by simp)
  have hDc : va_D A [(q, .inr (ci, fs))] := ⟨fun i j x y hx hy _ => by
    have h1 : i < 1 := (List.getElem?_eq_some_iff.mp hx).1
    have h2 : j < 1 := (List.getElem?_eq_some_iff.mp hy).1
    omega, fun j x hx => by
    have hj : j < 1 := (List.getElem?_eq_some_iff.mp hx).1
    rw [show j = 0 by omega] at hx
    cases hx
    exact hD.2 ws.length _ (by simp)⟩
  have hFc : ∀ x, va_A [(q, .inr (ci, fs))] H.size x → A x := by
    intro x h
    rcases h with ⟨j, e, h⟩ | h
    · exact hDc.2 j (x, e) h
    · exact hA x (Nat.le_trans hS.1 h)
  refine va_callv (va_runI (As := []) (rest := rest) ⟨hx, hb, hml, hown, hts⟩ (hM D cy q H.size) (cwI 0 hts hG hw hrm.1 hrm.2 (hts _ hini) (hts _ hlink) (hts _ hinst) hy hd hR) ⟨kBC_blind, fun U hU hW => ⟨rfl, by rw [hU], by rw [hU]; exact hPc, va_K.moved hW.alike hK, hDc.weaken (fun _ _ _ _ => trivial), zN_warm hW hN, by rw [hU]; exact zStat.moved hW.alike ((zStat.kept hZ (fun x h1 h2 => hS.2.1 x h1 h2)).narrow hFc)⟩⟩ rfl rfl hl.1 rfl (lv_room hcat) hdg hk) hS (fun x _ h => hFc x h) hFc (fun u t H1 locs1 ht hvm hw2 hB hz1 hk1 hS2 => ?_)
  obtain ⟨hP1, hK1, hD1⟩ := hB
  rw [ht] at hP1
  have hisR : (List.range ws.length).map (fun i => (ws ++ [(q, .inr (ci, fs))])[i]?) = ws.map some := by
    apply List.ext_getElem?
    intro i
    by_cases hi : i < ws.length
    · simp [hi, List.getElem?_append_left]
    · simp [hi]
  obtain ⟨hP2, hD2⟩ := va_join (wc := [(q, .inr (ci, fs))]) (wr := ws) (w1 := W1 cy u) hP hD [ws.length] (List.range ws.length) (by simp) hisR (z_nd _ List.nodup_range) (fun i hi => by
    have := List.mem_range.mp hi
    simp
    omega) hk1 hFc hP1 hD1
  exact kk u hw2 H1 locs1 ls hP2 hD2 hS2 hl
/-- a constructor's end -/
theorem k_ret (C : Cx p s m args meth c cc own nL Ts D cy A) {ci h0 mc ms : Nat} {fs : List Value} {W1 : (Nat → ClassId) → (Nat → Nat) → va_W} (hAe : va_A [(h0, .inr (ci, fs))] s.heap.size = A) (hr : meth.sig.returnType = none) (a : Nat → Nat) (ha : a 0 = h0) (hw : ws = W1 cy a) (hk : k ≤ mc) (hn : n ≤ ms) (hdg : decode cc pc = .ok (.return_, 1)) : GC p l e R s m args below meth c nL D A (MQ below (va_Qv (fun a : Nat → Nat => a 0 = h0) (fun a t => va_P D vwCl (W1 cy a) t.heap ∧ va_K D vwCl (tyl cy) t ∧ va_D (va_A [(h0, .inr (ci, fs))] s.heap.size) (W1 cy a)) (va_A [(h0, .inr (ci, fs))] s.heap.size)) args s mc ms (va_A [(h0, .inr (ci, fs))] s.heap.size)) pc vs [] ws k n := by
  subst hAe
  subst hw
  intro H locs ls hP hD hS hl
  obtain ⟨hx, hb, hml, hown, hts, hK, hA, hlo, hN⟩ := C
  refine W.widen hk hn ?_
  exact W.vret hx hb hr (fun t ht hW => ⟨⟨a, rfl, ha, by rw [ht]; exact hP, va_K.moved hW.alike hK, hD⟩, hS.F ht⟩) hS.2.2 hdg
end ZC
theorem z_ctC {l : Launch} {y : MethodName} {wds wds' : List Cond} {fr cl sl lo : Nat} {cc : ByteArray} {maxL ci mc ms : Nat} {fs : List Value} {W1 : (Nat → ClassId) → (Nat → Nat) → va_W} (hy : plainName y.cls = true) (hw : wds = Cond.code y cc maxL none :: wds') (hyn : y.name = "<init>") (hml1 : 1 ≤ maxL)
    (body : ∀ {p : Program} {e : Env} {s : State} {m : MethodId} {args : Array Value} {below : List Frame} {meth : Method} {c : Code} {D : va_G} {cy : Nat → ClassId} {h0 : Nat} {A : Nat → Prop}, Cx p s m args meth c cc y.cls maxL wds D cy A → zStat "FIRST_VALUE" frV A s s.heap → va_A [(h0, .inr (ci, fs))] s.heap.size = A → meth.sig.returnType = none → meth.name = "<init>" →
      GC p l e { frames := fr, cells := cl, slots := sl, locals := lo } s m args below meth c maxL D A (MQ below (va_Qv (fun a : Nat → Nat => a 0 = h0) (fun a t => va_P D vwCl (W1 cy a) t.heap ∧ va_K D vwCl (tyl cy) t ∧ va_D (va_A [(h0, .inr (ci, fs))] s.heap.size) (W1 cy a)) (va_A [(h0, .inr (ci, fs))] s.heap.size)) args s mc ms (va_A [(h0, .inr (ci, fs))] s.heap.size)) 0 [(0, .ref h0)] [] [(h0, .inr (ci, fs))] 0 0) : CtC l y wds { frames := fr, cells := cl, slots := sl, locals := lo } ci fs W1 mc ms := by
  intro D cy h0 sz
  refine Met.ofW (cc := cc) (maxL := maxL) (ret := none) hy hw ?_
  intro p e s m args below meth c s₁ B hml hv
  obtain ⟨rfl, hsz, hP, hK, hD, hN, hZ⟩ := hv
  subst hsz
  have C : Cx p s m ([Value.ref h0] : List Value).toArray meth c cc y.cls maxL wds D cy (va_A [(h0, .inr (ci, fs))] s.heap.size) := ⟨B.exec, B.bytes, hml, findClass_of_methodNamed B.named, atoms_spec (ws := wds) B.pre, hK, fun q h => Or.inr h, B.notSynchronized, hN⟩
  have hl := lv_entry ([.ref h0]) (n := maxL) hml1
  rw [lg_entry_eq]
  exact body C hZ rfl B.returns ((name_of_methodNamed B.named B.method).1.trans hyn) s.heap [] _ hP hD.self va_S.rf hl
