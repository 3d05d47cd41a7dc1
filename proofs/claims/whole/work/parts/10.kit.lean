/-! THE FLAT MEMORY: every cell of class and reference has a number; an int of it is at (cell, place). -/
abbrev MM : Type := Nat → Int → Int
def zup (σ : MM) (k : Nat) (i v : Int) : MM := fun k' i' => if k' = k ∧ i' = i then v else σ k' i'
abbrev inR (x : Int) : Prop := -2147483648 ≤ x ∧ x < 2147483648
def okM (σ : MM) : Prop := ∀ (k : Nat) (i : Int), inR (σ k i)
theorem okM_up {σ : MM} {k : Nat} {i v : Int} (h : okM σ) (hv : inR v) : okM (zup σ k i v) := by
  intro k' i'
  unfold zup
  split
  · exact hv
  · exact h k' i'
theorem zup_ne {σ : MM} {k k' : Nat} {i v : Int} (h : k' ≠ k) : zup σ k i v k' = σ k' := by
  funext j
  simp [zup, h]
abbrev zLay : Type := (Nat × Nat) ⊕ (Nat × List (Option Nat))
def lyL (b j : Nat) : zLay := match j with
  | 0 => .inr (0, [none, some (b + 1), some (b + 2), some (b + 3), some (b + 4), none, some (b + 5), some (b + 6), some (b + 7), some (b + 8), some (b + 9), some (b + 10)])
  | 1 => .inl (0, 8)
  | 2 => .inl (0, 8)
  | 3 => .inl (0, 8)
  | 4 => .inl (0, 8)
  | 5 => .inl (0, 16)
  | 6 => .inl (0, 16)
  | 7 => .inl (0, 16)
  | 8 => .inl (0, 16)
  | 9 => .inl (1, 16)
  | _ => .inl (0, 4)
def zTab : List zLay :=
  [.inr (5, [some 1, some 12, some 23, some 34, some 36, some 38, some 51, none, none])]
  ++ (List.range 11).map (lyL 1) ++ (List.range 11).map (lyL 12) ++ (List.range 11).map (lyL 23)
  ++ [.inr (4, [some 35, none, none]), .inl (2, 60), .inr (2, [some 37]), .inl (0, 48), .inr (1, [some 39, some 50, none])]
  ++ (List.range 11).map (lyL 39)
  ++ [.inl (0, 8), .inr (3, [some 52, some 53, some 54, some 55, some 56, some 57, none]), .inl (0, 320), .inl (0, 40), .inl (0, 6), .inl (0, 6), .inl (0, 6), .inl (0, 6),
      .inr (6, [some 59, some 60, none, none, some 61, none, none, none, none, some 62, some 63, some 64, none, some 65, some 66, some 67, some 68, some 69, some 70, some 71]),
      .inl (0, 110), .inl (0, 110), .inl (0, 60), .inl (0, 48), .inl (0, 8), .inl (0, 8), .inl (0, 320), .inl (0, 40), .inl (0, 6), .inl (0, 6), .inl (0, 6), .inl (0, 6), .inl (0, 6), .inl (3, 1)]
def lay (k : Nat) : zLay := zTab.getD k (.inl (0, 0))
def IsLoop (b : Nat) : Prop := b = 1 ∨ b = 12 ∨ b = 23 ∨ b = 39
theorem lay_loop {b j : Nat} (h : IsLoop b) (hj : j < 11) : lay (b + j) = lyL b j := by
  have h1 : ∀ j, j < 11 → lay (1 + j) = lyL 1 j := by decide +kernel
  have h2 : ∀ j, j < 11 → lay (12 + j) = lyL 12 j := by decide +kernel
  have h3 : ∀ j, j < 11 → lay (23 + j) = lyL 23 j := by decide +kernel
  have h4 : ∀ j, j < 11 → lay (39 + j) = lyL 39 j := by decide +kernel
  rcases h with rfl | rfl | rfl | rfl
  · exact h1 j hj
  · exact h2 j hj
  · exact h3 j hj
  · exact h4 j hj
theorem lt_loop {b j : Nat} (h : IsLoop b) (hj : j < 11) : b + j < 73 := by
  rcases h with rfl | rfl | rfl | rfl <;> omega
def ent (cy : Nat → ClassId) (ad : Nat → Nat) (σ : MM) (k : Nat) : va_E := match lay k with
  | .inl (t, n) => if t = 3 then .inl (cy 3, n, .inr (.inl (fun j : Nat => Int64.ofInt (σ k (j : Int))))) else .inl (cy t, n, .inl (fun j : Nat => Int32.ofInt (σ k (j : Int))))
  | .inr (ci, fs) => .inr (ci, fs.mapIdx (fun (i : Nat) (f : Option Nat) => match f with
    | some j => .ref (ad j)
    | none => .int (Int32.ofInt (σ k (i : Int)))))
def wl (cy : Nat → ClassId) (ad : Nat → Nat) (σ : MM) : va_W := (List.range 73).map (fun k => (ad k, ent cy ad σ k))
theorem wl_at {cy : Nat → ClassId} {ad : Nat → Nat} {σ : MM} {k : Nat} (hk : k < 73) : (wl cy ad σ)[k]? = some (ad k, ent cy ad σ k) := by
  simp [wl, hk]
theorem ent_congr {cy : Nat → ClassId} {ad : Nat → Nat} {σ σ' : MM} {k : Nat} (h : σ' k = σ k) : ent cy ad σ' k = ent cy ad σ k := by
  unfold ent
  rw [h]
theorem wl_set {cy : Nat → ClassId} {ad : Nat → Nat} {σ σ' : MM} {k : Nat} {e : va_E} (he : e = ent cy ad σ' k) (ho : ∀ j, j ≠ k → σ' j = σ j) : (wl cy ad σ).set k (ad k, e) = wl cy ad σ' := by
  apply List.ext_getElem?
  intro i
  by_cases hi : i = k
  · subst hi
    by_cases hl : i < 73
    · rw [List.getElem?_set_self (by simp [wl, hl]), wl_at hl, he]
    · rw [List.getElem?_eq_none (by simp [wl]; omega), List.getElem?_eq_none (by simp [wl]; omega)]
  · rw [List.getElem?_set_ne (Ne.symm hi)]
    by_cases hl : i < 73
    · rw [wl_at hl, wl_at hl, ent_congr (ho i hi)]
    · rw [List.getElem?_eq_none (by simp [wl]; omega), List.getElem?_eq_none (by simp [wl]; omega)]
theorem ent_arr {cy : Nat → ClassId} {ad : Nat → Nat} {σ : MM} {k t n : Nat} (h : lay k = .inl (t, n)) (ht : t ≠ 3) : ent cy ad σ k = .inl (cy t, n, .inl (fun j : Nat => Int32.ofInt (σ k (j : Int)))) := by
  simp [ent, h, ht]
theorem ent_arrL {cy : Nat → ClassId} {ad : Nat → Nat} {σ : MM} {k n : Nat} (h : lay k = .inl (3, n)) : ent cy ad σ k = .inl (cy 3, n, .inr (.inl (fun j : Nat => Int64.ofInt (σ k (j : Int))))) := by
  simp [ent, h]
def zfs (ad : Nat → Nat) (σ : MM) (k : Nat) (fs : List (Option Nat)) : List Value := fs.mapIdx (fun (i : Nat) (f : Option Nat) => match f with
    | some j => Value.ref (ad j)
    | none => Value.int (Int32.ofInt (σ k (i : Int))))
theorem ent_obj {cy : Nat → ClassId} {ad : Nat → Nat} {σ : MM} {k ci : Nat} {fs : List (Option Nat)} (h : lay k = .inr (ci, fs)) : ent cy ad σ k = .inr (ci, zfs ad σ k fs) := by
  simp [ent, h, zfs]
theorem zfs_n {ad : Nat → Nat} {σ : MM} {k i : Nat} {fs : List (Option Nat)} (h : fs[i]? = some none) : (zfs ad σ k fs)[i]? = some (.int (Int32.ofInt (σ k (i : Int)))) := by
  simp [zfs, List.getElem?_mapIdx, h]
theorem zfs_s {ad : Nat → Nat} {σ : MM} {k i j : Nat} {fs : List (Option Nat)} (h : fs[i]? = some (some j)) : (zfs ad σ k fs)[i]? = some (.ref (ad j)) := by
  simp [zfs, List.getElem?_mapIdx, h]
theorem zfs_set {ad : Nat → Nat} {σ : MM} {k i : Nat} {v : Int} {fs : List (Option Nat)} (h : fs[i]? = some none) : (zfs ad σ k fs).set i (.int (Int32.ofInt v)) = zfs ad (zup σ k (i : Int) v) k fs := by
  apply List.ext_getElem?
  intro j
  by_cases hj : j = i
  · subst hj
    rw [List.getElem?_set_self (by simp [zfs]; exact (List.getElem?_eq_some_iff.mp h).1), zfs_n h]
    simp [zup]
  · rw [List.getElem?_set_ne (Ne.symm hj)]
    simp only [zfs, List.getElem?_mapIdx]
    cases hf : fs[j]? with
    | none => rfl
    | some f =>
      cases f with
      | some q => rfl
      | none =>
        have : ((j : Int) = (i : Int)) ↔ False := by constructor; (intro q; exact hj (by omega)); (intro q; exact q.elim)
        simp [zup, this]
/-! ints -/
theorem zI {x : Int} (h : inR x) : (Int32.ofInt x).toInt = x := Int32.toInt_ofInt_of_le (by have := h.1; omega) (by have := h.2; omega)
theorem zlt {x y : Int} (hx : inR x) (hy : inR y) : (Int32.ofInt x < Int32.ofInt y) ↔ x < y := by rw [Int32.lt_iff_toInt_lt, zI hx, zI hy]
theorem zle {x y : Int} (hx : inR x) (hy : inR y) : (Int32.ofInt x ≤ Int32.ofInt y) ↔ x ≤ y := by rw [Int32.le_iff_toInt_le, zI hx, zI hy]
theorem zeq {x y : Int} (hx : inR x) (hy : inR y) : (Int32.ofInt x = Int32.ofInt y) ↔ x = y := by
  constructor
  · intro h
    rw [← zI hx, ← zI hy, h]
  · intro h
    rw [h]
theorem z_in {i : Int} {n : Nat} (h : 0 ≤ i ∧ i < (n : Int)) (hn : n < 1000000) : vp_in (Int32.ofInt i) n ∧ ((Int32.ofInt i).toNatClampNeg : Int) = i := by
  have hr : inR i := by omega
  have h2 : (Int32.ofInt i).toNatClampNeg = i.toNat := by
    show (Int32.ofInt i).toInt.toNat = i.toNat
    rw [zI hr]
  refine ⟨fun q => ?_, by rw [h2]; omega⟩
  rcases q with q | q
  · rw [show (0 : Int32) = Int32.ofInt 0 from rfl, zlt hr (by omega)] at q
    omega
  · rw [h2] at q
    omega
theorem z_inR32 (x : Int32) : inR x.toInt := by
  have h1 := Int32.le_toInt x
  have h2 := Int32.toInt_lt x
  exact ⟨by omega, by omega⟩
def jshr (x y : Int) : Int := (Int32.ofInt x >>> (Int32.ofInt y &&& 31)).toInt
def jshl (x y : Int) : Int := (Int32.ofInt x <<< (Int32.ofInt y &&& 31)).toInt
def jushr (x y : Int) : Int := ((Int32.ofInt x).toUInt32 >>> ((Int32.ofInt y).toUInt32 &&& Int32.toUInt32 31)).toInt32.toInt
def jand (x y : Int) : Int := (Int32.ofInt x &&& Int32.ofInt y).toInt
def jor (x y : Int) : Int := (Int32.ofInt x ||| Int32.ofInt y).toInt
def ji2c (x : Int) : Int := ((Int32.ofInt x).toUInt32 % 65536).toInt32.toInt
/-! steps of the programs that are read off the code -/
def gd {α : Type} (c : Prop) [Decidable c] (x : Option α) : Option α := if c then x else none
theorem z_g {α : Type} {c : Prop} {i : Decidable c} {x : Option α} {y : α} (h : @gd α c i x = some y) : c ∧ x = some y := by
  unfold gd at h
  split at h
  · exact ⟨by assumption, h⟩
  · cases h
theorem z_b {α β : Type} {x : Option α} {f : α → Option β} {y : β} (h : x.bind f = some y) : ∃ a, x = some a ∧ f a = some y := Option.bind_eq_some_iff.mp h
theorem z_t {α : Type} {c : Prop} {i : Decidable c} {a b : α} {o : α} (hc : c) (h : @ite α c i a b = o) : a = o := by rw [if_pos hc] at h; exact h
theorem z_f {α : Type} {c : Prop} {i : Decidable c} {a b : α} {o : α} (hc : ¬ c) (h : @ite α c i a b = o) : b = o := by rw [if_neg hc] at h; exact h
def mlet {α : Type} (x : MM) (f : MM → Option α) : Option α := f x
theorem z_l {α : Type} {x : MM} {f : MM → Option α} {y : α} (h : mlet x f = some y) : ∃ a, a = x ∧ f a = some y := ⟨x, rfl, h⟩
theorem z_s1 {α : Type} {a b : α} (h : some a = some b) : a = b := Option.some.inj h
theorem z_s2 {α β : Type} {a b : α} {x y : β} (h : some (a, x) = some (b, y)) : a = b ∧ x = y := by cases h; exact ⟨rfl, rfl⟩
theorem jshr_R (x y : Int) : inR (jshr x y) := z_inR32 _
theorem jshl_R (x y : Int) : inR (jshl x y) := z_inR32 _
theorem jushr_R (x y : Int) : inR (jushr x y) := z_inR32 _
theorem jand_R (x y : Int) : inR (jand x y) := z_inR32 _
theorem jor_R (x y : Int) : inR (jor x y) := z_inR32 _
theorem ji2c_R (x : Int) : inR (ji2c x) := z_inR32 _
theorem gd_t {α : Type} {c : Prop} {i : Decidable c} {x : Option α} (h : c) : @gd α c i x = x := if_pos h
/-! what the nest's links are, and a method's start -/
abbrev zNk : Type := String × Nat × String × String × String × String
def zNf (q : zNk) : Cond := .fieldLinkNest q.1 q.2.1 q.2.2.1 q.2.2.2.1 q.2.2.2.2.1 q.2.2.2.2.2
abbrev nestL : List zNk := [("DoacrossScheduler", 107, "DoacrossScheduler$Loop", "cost", "[I", "DoacrossScheduler"), ("DoacrossScheduler", 121, "DoacrossScheduler$Loop", "parameter", "[I", "DoacrossScheduler"), ("DoacrossScheduler", 124, "DoacrossScheduler$Loop", "statements", "I", "DoacrossScheduler"), ("DoacrossScheduler", 151, "DoacrossScheduler$Loop", "dependences", "I", "DoacrossScheduler"), ("DoacrossScheduler", 168, "DoacrossScheduler$Loop", "kind", "[I", "DoacrossScheduler"), ("DoacrossScheduler", 171, "DoacrossScheduler$Loop", "source", "[I", "DoacrossScheduler"), ("DoacrossScheduler", 174, "DoacrossScheduler$Loop", "target", "[I", "DoacrossScheduler"), ("DoacrossScheduler", 177, "DoacrossScheduler$Loop", "distance", "[I", "DoacrossScheduler"), ("DoacrossScheduler", 183, "DoacrossScheduler$Loop", "kept", "[Z", "DoacrossScheduler"), ("DoacrossScheduler", 218, "DoacrossScheduler$Orders", "bestDelay", "I", "DoacrossScheduler"), ("DoacrossScheduler", 221, "DoacrossScheduler$Loop", "order", "[I", "DoacrossScheduler"), ("DoacrossScheduler", 224, "DoacrossScheduler$Orders", "bestOrder", "[I", "DoacrossScheduler"), ("DoacrossScheduler", 233, "DoacrossScheduler$Run", "end", "I", "DoacrossScheduler"), ("DoacrossScheduler", 247, "DoacrossScheduler$Run", "processorOf", "[I", "DoacrossScheduler"), ("DoacrossScheduler", 252, "DoacrossScheduler$Run", "iterations", "[I", "DoacrossScheduler"), ("DoacrossScheduler", 259, "DoacrossScheduler$Run", "stalls", "[I", "DoacrossScheduler"), ("DoacrossScheduler", 262, "DoacrossScheduler$Run", "free", "[I", "DoacrossScheduler"), ("DoacrossScheduler", 81, "DoacrossScheduler$Text", "size", "I", "DoacrossScheduler"), ("DoacrossScheduler", 92, "DoacrossScheduler$Text", "at", "I", "DoacrossScheduler"), ("DoacrossScheduler$Loop", 43, "DoacrossScheduler", "FIRST_VALUE", "[I", "DoacrossScheduler"), ("DoacrossScheduler$Orders", 26, "DoacrossScheduler$Loop", "statements", "I", "DoacrossScheduler"), ("DoacrossScheduler$Orders", 51, "DoacrossScheduler$Loop", "order", "[I", "DoacrossScheduler"), ("DoacrossScheduler$Paths", 21, "DoacrossScheduler$Loop", "distance", "[I", "DoacrossScheduler"), ("DoacrossScheduler$Paths", 24, "DoacrossScheduler$Loop", "source", "[I", "DoacrossScheduler"), ("DoacrossScheduler$Paths", 35, "DoacrossScheduler$Loop", "statements", "I", "DoacrossScheduler"), ("DoacrossScheduler$Paths", 55, "DoacrossScheduler$Loop", "target", "[I", "DoacrossScheduler"), ("DoacrossScheduler$Paths", 67, "DoacrossScheduler$Loop", "dependences", "I", "DoacrossScheduler"), ("DoacrossScheduler$Paths", 76, "DoacrossScheduler$Loop", "parameter", "[I", "DoacrossScheduler"), ("DoacrossScheduler$Run", 34, "DoacrossScheduler$Loop", "parameter", "[I", "DoacrossScheduler"), ("DoacrossScheduler$Run", 51, "DoacrossScheduler$Loop", "statements", "I", "DoacrossScheduler"), ("DoacrossScheduler$Run", 73, "DoacrossScheduler$Loop", "dependences", "I", "DoacrossScheduler"), ("DoacrossScheduler$Run", 76, "DoacrossScheduler$Loop", "target", "[I", "DoacrossScheduler"), ("DoacrossScheduler$Run", 79, "DoacrossScheduler$Loop", "distance", "[I", "DoacrossScheduler"), ("DoacrossScheduler$Run", 86, "DoacrossScheduler$Loop", "source", "[I", "DoacrossScheduler"), ("DoacrossScheduler$Text", 37, "DoacrossScheduler$Loop", "statements", "I", "DoacrossScheduler"), ("DoacrossScheduler$Text", 54, "DoacrossScheduler$Loop", "dependences", "I", "DoacrossScheduler")]
def zN (U : State) : Prop := ∀ q ∈ nestL, va_Nw (zNf q) U
def tyl (cy : Nat → ClassId) : List (ClassId × FieldType) := [(cy 0, .int), (cy 1, .boolean), (cy 2, .char), (cy 3, .long)]
def zB (D : va_G) (cy : Nat → ClassId) (ad : Nat → Nat) (σ : MM) (sz : Nat) (U : State) : Prop := U.heap.size = sz ∧ va_P D vwCl (wl cy ad σ) U.heap ∧ va_K D vwCl (tyl cy) U ∧ va_D (fun _ => True) (wl cy ad σ) ∧ zN U
def zE (D : va_G) (cy : Nat → ClassId) (ad : Nat → Nat) (σ σo : MM) (sz : Nat) (t : State) : Prop := va_P D vwCl (wl cy ad σo) t.heap ∧ va_K D vwCl (tyl cy) t ∧ va_D (va_A (wl cy ad σ) sz) (wl cy ad σo)
def rgT (rt : Nat) (x : Int) : Prop := match rt with
  | 0 => inR x
  | 1 => x = 0 ∨ x = 1
  | _ => 0 ≤ x ∧ x < 65536
theorem rgT_inR {rt : Nat} {x : Int} (h : rgT rt x) : inR x := by
  unfold rgT at h
  split at h
  · exact h
  · rcases h with rfl | rfl <;> decide
  · omega
def CtI (l : Launch) (y : MethodName) (ws : List Cond) (rm : Room) (as : (Nat → Nat) → List Value) (σ : MM) (rt : Nat) (ro : Int) (σo : MM) : Prop :=
  ∀ (D : va_G) (cy : Nat → ClassId) (ad : Nat → Nat) (sz : Nat), Met l y ws rm (va_Pc (as ad) (zB D cy ad σ sz)) (va_Qi (fun (r : Int32) (_ : Unit) => r = Int32.ofInt ro ∧ rgT rt ro ∧ okM σo) (fun _ t => zE D cy ad σ σo sz t) (va_A (wl cy ad σ) sz)) 0 0 (va_A (wl cy ad σ) sz)
def CtV (l : Launch) (y : MethodName) (ws : List Cond) (rm : Room) (as : (Nat → Nat) → List Value) (σ σo : MM) : Prop :=
  ∀ (D : va_G) (cy : Nat → ClassId) (ad : Nat → Nat) (sz : Nat), Met l y ws rm (va_Pc (as ad) (zB D cy ad σ sz)) (va_Qv (fun (_ : Unit) => okM σo) (fun _ t => zE D cy ad σ σo sz t) (va_A (wl cy ad σ) sz)) 0 0 (va_A (wl cy ad σ) sz)
theorem zB_blind {D : va_G} {cy : Nat → ClassId} {ad : Nat → Nat} {σ : MM} {sz : Nat} {av : List Value} : FrameBlind (va_Pc av (zB D cy ad σ sz)) := by
  intro a U g mk q
  obtain ⟨q0, q1, qP, qK, qD, qN⟩ := q
  exact ⟨q0, q1, qP, va_K.moved (u := U) (U := U.calling g mk a) (Vm.Alike.refl U.vm) qK, qD, fun w hw => va_Nw.same rfl (u := U) (U := U.calling g mk a) rfl (qN w hw)⟩
theorem zN_warm {s U : State} (hW : s.WarmedH U.vm) (h : zN s) : zN U := fun q hq => va_Nw.warmF hW (h q hq)
section ZG
variable {p : Program} {l : Launch} {e : Env} {R : Room} {s : State} {m : MethodId} {args : Array Value} {below : List Frame} {meth : Method} {c : Code} {cc : ByteArray} {own : String} {nL : Nat} {Ts : List Cond} {D : va_G} {cy : Nat → ClassId} {ad : Nat → Nat} {A : Nat → Prop} {Q : State → Prop} {pc : Nat} {vs vs' : List (Nat × Value)} {st : List Value} {σ : MM}
def Cx (p : Program) (s : State) (m : MethodId) (args : Array Value) (meth : Method) (c : Code) (cc : ByteArray) (own : String) (nL : Nat) (Ts : List Cond) (D : va_G) (cy : Nat → ClassId) (A : Nat → Prop) : Prop :=
  p.tables.exec = Jvm.exec ∧ c.code = cc ∧ c.maxLocals = nL ∧ s.vm.findClass own = some m.cls ∧ (∀ w ∈ Ts, w.before args s = true) ∧ va_K D vwCl (tyl cy) s ∧ (∀ q, s.heap.size ≤ q → A q) ∧ meth.locks = false ∧ zN s
/-- the machine is at pc with locals vs, operands st, and the world holds σ: it comes to Q -/
def G (p : Program) (l : Launch) (e : Env) (R : Room) (s : State) (m : MethodId) (args : Array Value) (below : List Frame) (meth : Method) (c : Code) (nL : Nat) (D : va_G) (cy : Nat → ClassId) (ad : Nat → Nat) (A : Nat → Prop) (Q : State → Prop) (pc : Nat) (vs : List (Nat × Value)) (st : List Value) (σ : MM) : Prop :=
  okM σ → ∀ (H : Heap) (locs : List Loc) (ls : Array Slot), va_P D vwCl (wl cy ad σ) H → va_D A (wl cy ad σ) → va_S A s.heap H locs → lv_has ls nL vs → W p l e R s m args below meth c H locs 0 0 Q (F0 m pc ls st)
theorem g_sub (is : List Nat) (hs : lv_pick vs is = vs') (kk : G p l e R s m args below meth c nL D cy ad A Q pc vs' st σ) : G p l e R s m args below meth c nL D cy ad A Q pc vs st σ :=
  fun hM H locs ls hP hD hS hl => kk hM H locs ls hP hD hS (lv_sub hl is hs)
theorem g_eq {st' : List Value} (h : st = st') (kk : G p l e R s m args below meth c nL D cy ad A Q pc vs st' σ) : G p l e R s m args below meth c nL D cy ad A Q pc vs st σ := h ▸ kk
theorem g_iload_n (C : Cx p s m args meth c cc own nL Ts D cy A) {k : Fin 4} {x : Int32} (hdg : decode cc pc = .ok (.iload_n k, 1)) (j : Nat) (hj : vs[j]? = some ((k : Nat), .int x)) (kk : G p l e R s m args below meth c nL D cy ad A Q (pc + 1) vs (.int x :: st) σ) : G p l e R s m args below meth c nL D cy ad A Q pc vs st σ :=
  fun hM H locs ls hP hD hS hl => lv_iload_n C.1 C.2.1 hdg rfl (lv_at hl j hj) (kk hM H locs ls hP hD hS hl)
theorem g_iload (C : Cx p s m args meth c cc own nL Ts D cy A) {i : Nat} {x : Int32} (hdg : decode cc pc = .ok (.iload i, 2)) (j : Nat) (hj : vs[j]? = some (i, .int x)) (kk : G p l e R s m args below meth c nL D cy ad A Q (pc + 2) vs (.int x :: st) σ) : G p l e R s m args below meth c nL D cy ad A Q pc vs st σ :=
  fun hM H locs ls hP hD hS hl => lv_iload C.1 C.2.1 hdg (lv_at hl j hj) (kk hM H locs ls hP hD hS hl)
theorem g_aload_n (C : Cx p s m args meth c cc own nL Ts D cy A) {k : Fin 4} {x : Nat} (hdg : decode cc pc = .ok (.aload_n k, 1)) (j : Nat) (hj : vs[j]? = some ((k : Nat), .ref x)) (kk : G p l e R s m args below meth c nL D cy ad A Q (pc + 1) vs (.ref x :: st) σ) : G p l e R s m args below meth c nL D cy ad A Q pc vs st σ :=
  fun hM H locs ls hP hD hS hl => lv_aload_n C.1 C.2.1 hdg rfl (lv_at hl j hj) (kk hM H locs ls hP hD hS hl)
theorem g_aload (C : Cx p s m args meth c cc own nL Ts D cy A) {i x : Nat} (hdg : decode cc pc = .ok (.aload i, 2)) (j : Nat) (hj : vs[j]? = some (i, .ref x)) (kk : G p l e R s m args below meth c nL D cy ad A Q (pc + 2) vs (.ref x :: st) σ) : G p l e R s m args below meth c nL D cy ad A Q pc vs st σ :=
  fun hM H locs ls hP hD hS hl => lv_aload C.1 C.2.1 hdg (lv_at hl j hj) (kk hM H locs ls hP hD hS hl)
theorem g_istore_n (C : Cx p s m args meth c cc own nL Ts D cy A) {k : Fin 4} {x : Int32} (hdg : decode cc pc = .ok (.istore_n k, 1)) (hn : (k : Nat) < nL) (hl : ((k : Nat), Value.int x) :: vs.filter (fun q => !(q.1 == (k : Nat)) && !(q.1 + 1 == (k : Nat) && q.2.category == 2)) = vs') (kk : G p l e R s m args below meth c nL D cy ad A Q (pc + 1) vs' st σ) : G p l e R s m args below meth c nL D cy ad A Q pc vs (.int x :: st) σ :=
  fun hM H locs ls hP hD hS h => lv_istore_n C.1 C.2.1 hdg rfl h hn hl (fun ls' hl' => kk hM H locs ls' hP hD hS hl')
theorem g_istore (C : Cx p s m args meth c cc own nL Ts D cy A) {i : Nat} {x : Int32} (hdg : decode cc pc = .ok (.istore i, 2)) (hn : i < nL) (hl : (i, Value.int x) :: vs.filter (fun q => !(q.1 == i) && !(q.1 + 1 == i && q.2.category == 2)) = vs') (kk : G p l e R s m args below meth c nL D cy ad A Q (pc + 2) vs' st σ) : G p l e R s m args below meth c nL D cy ad A Q pc vs (.int x :: st) σ :=
  fun hM H locs ls hP hD hS h => lv_istore C.1 C.2.1 hdg h hn hl (fun ls' hl' => kk hM H locs ls' hP hD hS hl')
theorem g_iinc (C : Cx p s m args meth c cc own nL Ts D cy A) {i j : Nat} {n : Int} {x : Int} (hdg : decode cc pc = .ok (.iinc i n, 3)) (hj : vs[j]? = some (i, .int (Int32.ofInt x))) (hn : i < nL) (hl : (i, Value.int (Int32.ofInt (x + n))) :: vs.filter (fun q => !(q.1 == i) && !(q.1 + 1 == i && q.2.category == 2)) = vs') (kk : G p l e R s m args below meth c nL D cy ad A Q (pc + 3) vs' st σ) : G p l e R s m args below meth c nL D cy ad A Q pc vs st σ :=
  fun hM H locs ls hP hD hS h => lv_iinc C.1 C.2.1 hdg h hj (Int32.ofInt_add x n).symm hn hl (fun ls' hl' => kk hM H locs ls' hP hD hS hl')
theorem g_iconst (C : Cx p s m args meth c cc own nL Ts D cy A) {n : Int} (hdg : decode cc pc = .ok (.iconst n, 1)) (kk : G p l e R s m args below meth c nL D cy ad A Q (pc + 1) vs (.int (Int32.ofInt n) :: st) σ) : G p l e R s m args below meth c nL D cy ad A Q pc vs st σ :=
  fun hM H locs ls hP hD hS hl => lv_iconst C.1 C.2.1 hdg rfl (kk hM H locs ls hP hD hS hl)
theorem g_bipush (C : Cx p s m args meth c cc own nL Ts D cy A) {n : Int} (hdg : decode cc pc = .ok (.bipush n, 2)) (hn : (Int8.ofInt n).toInt32 = Int32.ofInt n) (kk : G p l e R s m args below meth c nL D cy ad A Q (pc + 2) vs (.int (Int32.ofInt n) :: st) σ) : G p l e R s m args below meth c nL D cy ad A Q pc vs st σ :=
  fun hM H locs ls hP hD hS hl => lv_bipush C.1 C.2.1 hdg hn (kk hM H locs ls hP hD hS hl)
theorem g_sipush (C : Cx p s m args meth c cc own nL Ts D cy A) {n : Int} (hdg : decode cc pc = .ok (.sipush n, 3)) (hn : (Int16.ofInt n).toInt32 = Int32.ofInt n) (kk : G p l e R s m args below meth c nL D cy ad A Q (pc + 3) vs (.int (Int32.ofInt n) :: st) σ) : G p l e R s m args below meth c nL D cy ad A Q pc vs st σ :=
  fun hM H locs ls hP hD hS hl => lv_sipush C.1 C.2.1 hdg hn (kk hM H locs ls hP hD hS hl)
theorem g_dup (C : Cx p s m args meth c cc own nL Ts D cy A) {v : Value} (hdg : decode cc pc = .ok (.dup, 1)) (hv : v.category = 1) (kk : G p l e R s m args below meth c nL D cy ad A Q (pc + 1) vs (v :: v :: st) σ) : G p l e R s m args below meth c nL D cy ad A Q pc vs (v :: st) σ :=
  fun hM H locs ls hP hD hS hl => lv_dup C.1 C.2.1 hdg hv (kk hM H locs ls hP hD hS hl)
theorem g_dup2 (C : Cx p s m args meth c cc own nL Ts D cy A) {v w : Value} (hdg : decode cc pc = .ok (.dup2, 1)) (hv : v.category = 1) (hw : w.category = 1) (kk : G p l e R s m args below meth c nL D cy ad A Q (pc + 1) vs (v :: w :: v :: w :: st) σ) : G p l e R s m args below meth c nL D cy ad A Q pc vs (v :: w :: st) σ :=
  fun hM H locs ls hP hD hS hl => lv_dup2_11 C.1 C.2.1 hdg hv hw (kk hM H locs ls hP hD hS hl)
theorem g_pop (C : Cx p s m args meth c cc own nL Ts D cy A) {v : Value} (hdg : decode cc pc = .ok (.pop, 1)) (hv : v.category = 1) (kk : G p l e R s m args below meth c nL D cy ad A Q (pc + 1) vs st σ) : G p l e R s m args below meth c nL D cy ad A Q pc vs (v :: st) σ :=
  fun hM H locs ls hP hD hS hl => lv_pop C.1 C.2.1 hdg hv (kk hM H locs ls hP hD hS hl)
theorem g_goto (C : Cx p s m args meth c cc own nL Ts D cy A) {off : Int} (tgt : Nat) (hdg : decode cc pc = .ok (.goto off, 3)) (ht : (pc : Int) + off = (tgt : Int)) (kk : G p l e R s m args below meth c nL D cy ad A Q tgt vs st σ) : G p l e R s m args below meth c nL D cy ad A Q pc vs st σ :=
  fun hM H locs ls hP hD hS hl => lv_goto C.1 C.2.1 hdg ht (kk hM H locs ls hP hD hS hl)
theorem g_iadd (C : Cx p s m args meth c cc own nL Ts D cy A) {x y : Int} (hdg : decode cc pc = .ok (.iadd, 1)) (kk : G p l e R s m args below meth c nL D cy ad A Q (pc + 1) vs (.int (Int32.ofInt (x + y)) :: st) σ) : G p l e R s m args below meth c nL D cy ad A Q pc vs (.int (Int32.ofInt y) :: .int (Int32.ofInt x) :: st) σ :=
  fun hM H locs ls hP hD hS hl => lv_iadd C.1 C.2.1 hdg (by rw [← Int32.ofInt_add]; exact kk hM H locs ls hP hD hS hl)
theorem g_isub (C : Cx p s m args meth c cc own nL Ts D cy A) {x y : Int} (hdg : decode cc pc = .ok (.isub, 1)) (kk : G p l e R s m args below meth c nL D cy ad A Q (pc + 1) vs (.int (Int32.ofInt (x - y)) :: st) σ) : G p l e R s m args below meth c nL D cy ad A Q pc vs (.int (Int32.ofInt y) :: .int (Int32.ofInt x) :: st) σ :=
  fun hM H locs ls hP hD hS hl => lv_isub C.1 C.2.1 hdg (by rw [← Int32.ofInt_sub]; exact kk hM H locs ls hP hD hS hl)
theorem g_imul (C : Cx p s m args meth c cc own nL Ts D cy A) {x y : Int} (hdg : decode cc pc = .ok (.imul, 1)) (kk : G p l e R s m args below meth c nL D cy ad A Q (pc + 1) vs (.int (Int32.ofInt (x * y)) :: st) σ) : G p l e R s m args below meth c nL D cy ad A Q pc vs (.int (Int32.ofInt y) :: .int (Int32.ofInt x) :: st) σ :=
  fun hM H locs ls hP hD hS hl => lv_imul C.1 C.2.1 hdg (by rw [← Int32.ofInt_mul]; exact kk hM H locs ls hP hD hS hl)
theorem zdiv {x y : Int} (hx : inR x) (hy : inR y) (h0 : 0 ≤ x) (h1 : 0 < y) : Int32.ofInt x / Int32.ofInt y = Int32.ofInt (x / y) ∧ ¬ Int32.ofInt y = 0 ∧ Int32.ofInt x - Int32.ofInt x / Int32.ofInt y * Int32.ofInt y = Int32.ofInt (x % y) := by
  obtain ⟨a, rfl⟩ : ∃ a : Nat, x = (a : Int) := ⟨x.toNat, by omega⟩
  obtain ⟨b, rfl⟩ : ∃ b : Nat, y = (b : Int) := ⟨y.toNat, by omega⟩
  have e : ∀ n : Nat, Int32.ofInt (n : Int) = nI n := fun n => rfl
  have ha : a < 2 ^ 31 := by omega
  have hb : b < 2 ^ 31 := by omega
  have hb0 : 0 < b := by omega
  refine ⟨?_, ?_, ?_⟩
  · rw [e, e, pk_div ha hb0 hb, ← Int.natCast_ediv, e]
  · rw [e]
    exact nI_ne0 hb0 hb
  · rw [e, e, pk_rem ha hb0 hb, ← Int.natCast_emod, e]
theorem g_idiv (C : Cx p s m args meth c cc own nL Ts D cy A) {x y : Int} (hx : inR x) (hy : inR y) (h0 : 0 ≤ x ∧ 0 < y) (hdg : decode cc pc = .ok (.idiv, 1)) (kk : G p l e R s m args below meth c nL D cy ad A Q (pc + 1) vs (.int (Int32.ofInt (x / y)) :: st) σ) : G p l e R s m args below meth c nL D cy ad A Q pc vs (.int (Int32.ofInt y) :: .int (Int32.ofInt x) :: st) σ := by
  intro hM H locs ls hP hD hS hl
  obtain ⟨h1, h2, h3⟩ := zdiv hx hy h0.1 h0.2
  exact lv_idiv C.1 C.2.1 hdg h2 (by rw [h1]; exact kk hM H locs ls hP hD hS hl)
theorem g_irem (C : Cx p s m args meth c cc own nL Ts D cy A) {x y : Int} (hx : inR x) (hy : inR y) (h0 : 0 ≤ x ∧ 0 < y) (hdg : decode cc pc = .ok (.irem, 1)) (kk : G p l e R s m args below meth c nL D cy ad A Q (pc + 1) vs (.int (Int32.ofInt (x % y)) :: st) σ) : G p l e R s m args below meth c nL D cy ad A Q pc vs (.int (Int32.ofInt y) :: .int (Int32.ofInt x) :: st) σ := by
  intro hM H locs ls hP hD hS hl
  obtain ⟨h1, h2, h3⟩ := zdiv hx hy h0.1 h0.2
  exact lv_irem C.1 C.2.1 hdg h2 (by rw [h3]; exact kk hM H locs ls hP hD hS hl)
theorem g_iand (C : Cx p s m args meth c cc own nL Ts D cy A) {x y : Int} (hdg : decode cc pc = .ok (.iand, 1)) (kk : G p l e R s m args below meth c nL D cy ad A Q (pc + 1) vs (.int (Int32.ofInt (jand x y)) :: st) σ) : G p l e R s m args below meth c nL D cy ad A Q pc vs (.int (Int32.ofInt y) :: .int (Int32.ofInt x) :: st) σ :=
  fun hM H locs ls hP hD hS hl => lv_iand C.1 C.2.1 hdg (by have := kk hM H locs ls hP hD hS hl; rw [jand, Int32.ofInt_toInt] at this; exact this)
theorem g_ior (C : Cx p s m args meth c cc own nL Ts D cy A) {x y : Int} (hdg : decode cc pc = .ok (.ior, 1)) (kk : G p l e R s m args below meth c nL D cy ad A Q (pc + 1) vs (.int (Int32.ofInt (jor x y)) :: st) σ) : G p l e R s m args below meth c nL D cy ad A Q pc vs (.int (Int32.ofInt y) :: .int (Int32.ofInt x) :: st) σ :=
  fun hM H locs ls hP hD hS hl => lv_ior C.1 C.2.1 hdg (by have := kk hM H locs ls hP hD hS hl; rw [jor, Int32.ofInt_toInt] at this; exact this)
theorem g_ishr (C : Cx p s m args meth c cc own nL Ts D cy A) {x y : Int} (hdg : decode cc pc = .ok (.ishr, 1)) (kk : G p l e R s m args below meth c nL D cy ad A Q (pc + 1) vs (.int (Int32.ofInt (jshr x y)) :: st) σ) : G p l e R s m args below meth c nL D cy ad A Q pc vs (.int (Int32.ofInt y) :: .int (Int32.ofInt x) :: st) σ :=
  fun hM H locs ls hP hD hS hl => lv_ishr C.1 C.2.1 hdg (by have := kk hM H locs ls hP hD hS hl; rw [jshr, Int32.ofInt_toInt] at this; exact this)
theorem g_ishl (C : Cx p s m args meth c cc own nL Ts D cy A) {x y : Int} (hdg : decode cc pc = .ok (.ishl, 1)) (kk : G p l e R s m args below meth c nL D cy ad A Q (pc + 1) vs (.int (Int32.ofInt (jshl x y)) :: st) σ) : G p l e R s m args below meth c nL D cy ad A Q pc vs (.int (Int32.ofInt y) :: .int (Int32.ofInt x) :: st) σ :=
  fun hM H locs ls hP hD hS hl => lv_ishl C.1 C.2.1 hdg (by have := kk hM H locs ls hP hD hS hl; rw [jshl, Int32.ofInt_toInt] at this; exact this)
theorem g_iushr (C : Cx p s m args meth c cc own nL Ts D cy A) {x y : Int} (hdg : decode cc pc = .ok (.iushr, 1)) (kk : G p l e R s m args below meth c nL D cy ad A Q (pc + 1) vs (.int (Int32.ofInt (jushr x y)) :: st) σ) : G p l e R s m args below meth c nL D cy ad A Q pc vs (.int (Int32.ofInt y) :: .int (Int32.ofInt x) :: st) σ :=
  fun hM H locs ls hP hD hS hl => lv_iushr C.1 C.2.1 hdg rfl (by have := kk hM H locs ls hP hD hS hl; rw [jushr, Int32.ofInt_toInt] at this; exact this)
theorem g_i2c (C : Cx p s m args meth c cc own nL Ts D cy A) {x : Int} (hdg : decode cc pc = .ok (.i2c, 1)) (kk : G p l e R s m args below meth c nL D cy ad A Q (pc + 1) vs (.int (Int32.ofInt (ji2c x)) :: st) σ) : G p l e R s m args below meth c nL D cy ad A Q pc vs (.int (Int32.ofInt x) :: st) σ :=
  fun hM H locs ls hP hD hS hl => lv_i2c C.1 C.2.1 hdg rfl (by have := kk hM H locs ls hP hD hS hl; rw [ji2c, Int32.ofInt_toInt] at this; exact this)
theorem g_icmp_lt (C : Cx p s m args meth c cc own nL Ts D cy A) {x y off : Int} (tgt : Nat) (hdg : decode cc pc = .ok (.if_icmp .lt off, 3)) (ht : (pc : Int) + off = (tgt : Int)) (hx : inR x) (hy : inR y) (kt : x < y → G p l e R s m args below meth c nL D cy ad A Q tgt vs st σ) (kf : ¬ x < y → G p l e R s m args below meth c nL D cy ad A Q (pc + 3) vs st σ) : G p l e R s m args below meth c nL D cy ad A Q pc vs (.int (Int32.ofInt y) :: .int (Int32.ofInt x) :: st) σ :=
  fun hM H locs ls hP hD hS hl => lv_icmp_lt C.1 C.2.1 hdg ht (fun q => kt ((zlt hx hy).mp q) hM H locs ls hP hD hS hl) (fun q => kf (fun q2 => q ((zlt hx hy).mpr q2)) hM H locs ls hP hD hS hl)
theorem g_icmp_ge (C : Cx p s m args meth c cc own nL Ts D cy A) {x y off : Int} (tgt : Nat) (hdg : decode cc pc = .ok (.if_icmp .ge off, 3)) (ht : (pc : Int) + off = (tgt : Int)) (hx : inR x) (hy : inR y) (kt : ¬ x < y → G p l e R s m args below meth c nL D cy ad A Q tgt vs st σ) (kf : x < y → G p l e R s m args below meth c nL D cy ad A Q (pc + 3) vs st σ) : G p l e R s m args below meth c nL D cy ad A Q pc vs (.int (Int32.ofInt y) :: .int (Int32.ofInt x) :: st) σ :=
  fun hM H locs ls hP hD hS hl => lv_icmp_ge C.1 C.2.1 hdg ht (fun q => kt (by have := (zle hy hx).mp q; omega) hM H locs ls hP hD hS hl) (fun q => kf (by have h : ¬ (y ≤ x) := fun z => q ((zle hy hx).mpr z); omega) hM H locs ls hP hD hS hl)
theorem g_icmp_gt (C : Cx p s m args meth c cc own nL Ts D cy A) {x y off : Int} (tgt : Nat) (hdg : decode cc pc = .ok (.if_icmp .gt off, 3)) (ht : (pc : Int) + off = (tgt : Int)) (hx : inR x) (hy : inR y) (kt : y < x → G p l e R s m args below meth c nL D cy ad A Q tgt vs st σ) (kf : ¬ y < x → G p l e R s m args below meth c nL D cy ad A Q (pc + 3) vs st σ) : G p l e R s m args below meth c nL D cy ad A Q pc vs (.int (Int32.ofInt y) :: .int (Int32.ofInt x) :: st) σ :=
  fun hM H locs ls hP hD hS hl => lv_icmp_gt C.1 C.2.1 hdg ht (fun q => kt ((zlt hy hx).mp q) hM H locs ls hP hD hS hl) (fun q => kf (fun q2 => q ((zlt hy hx).mpr q2)) hM H locs ls hP hD hS hl)
theorem g_icmp_le (C : Cx p s m args meth c cc own nL Ts D cy A) {x y off : Int} (tgt : Nat) (hdg : decode cc pc = .ok (.if_icmp .le off, 3)) (ht : (pc : Int) + off = (tgt : Int)) (hx : inR x) (hy : inR y) (kt : ¬ y < x → G p l e R s m args below meth c nL D cy ad A Q tgt vs st σ) (kf : y < x → G p l e R s m args below meth c nL D cy ad A Q (pc + 3) vs st σ) : G p l e R s m args below meth c nL D cy ad A Q pc vs (.int (Int32.ofInt y) :: .int (Int32.ofInt x) :: st) σ :=
  fun hM H locs ls hP hD hS hl => lv_icmp_le C.1 C.2.1 hdg ht (fun q => kt (by have := (zle hx hy).mp q; omega) hM H locs ls hP hD hS hl) (fun q => kf (by have h : ¬ (x ≤ y) := fun z => q ((zle hx hy).mpr z); omega) hM H locs ls hP hD hS hl)
theorem g_icmp_eq (C : Cx p s m args meth c cc own nL Ts D cy A) {x y off : Int} (tgt : Nat) (hdg : decode cc pc = .ok (.if_icmp .eq off, 3)) (ht : (pc : Int) + off = (tgt : Int)) (hx : inR x) (hy : inR y) (kt : x = y → G p l e R s m args below meth c nL D cy ad A Q tgt vs st σ) (kf : ¬ x = y → G p l e R s m args below meth c nL D cy ad A Q (pc + 3) vs st σ) : G p l e R s m args below meth c nL D cy ad A Q pc vs (.int (Int32.ofInt y) :: .int (Int32.ofInt x) :: st) σ :=
  fun hM H locs ls hP hD hS hl => lv_icmp_eq C.1 C.2.1 hdg ht (fun q => kt ((zeq hx hy).mp q) hM H locs ls hP hD hS hl) (fun q => kf (fun q2 => q ((zeq hx hy).mpr q2)) hM H locs ls hP hD hS hl)
theorem g_icmp_ne (C : Cx p s m args meth c cc own nL Ts D cy A) {x y off : Int} (tgt : Nat) (hdg : decode cc pc = .ok (.if_icmp .ne off, 3)) (ht : (pc : Int) + off = (tgt : Int)) (hx : inR x) (hy : inR y) (kt : ¬ x = y → G p l e R s m args below meth c nL D cy ad A Q tgt vs st σ) (kf : x = y → G p l e R s m args below meth c nL D cy ad A Q (pc + 3) vs st σ) : G p l e R s m args below meth c nL D cy ad A Q pc vs (.int (Int32.ofInt y) :: .int (Int32.ofInt x) :: st) σ :=
  fun hM H locs ls hP hD hS hl => lv_icmp_ne C.1 C.2.1 hdg ht (fun q => kt (fun q2 => q ((zeq hx hy).mpr q2)) hM H locs ls hP hD hS hl) (fun q => kf ((zeq hx hy).mp q) hM H locs ls hP hD hS hl)
theorem z0R : inR 0 := by decide
theorem g_if_eq (C : Cx p s m args meth c cc own nL Ts D cy A) {x off : Int} (tgt : Nat) (hdg : decode cc pc = .ok (.ifCond .eq off, 3)) (ht : (pc : Int) + off = (tgt : Int)) (hx : inR x) (kt : x = 0 → G p l e R s m args below meth c nL D cy ad A Q tgt vs st σ) (kf : ¬ x = 0 → G p l e R s m args below meth c nL D cy ad A Q (pc + 3) vs st σ) : G p l e R s m args below meth c nL D cy ad A Q pc vs (.int (Int32.ofInt x) :: st) σ :=
  fun hM H locs ls hP hD hS hl => lv_if_eq C.1 C.2.1 hdg ht (fun q => kt ((zeq hx z0R).mp q) hM H locs ls hP hD hS hl) (fun q => kf (fun q2 => q ((zeq hx z0R).mpr q2)) hM H locs ls hP hD hS hl)
theorem g_if_ne (C : Cx p s m args meth c cc own nL Ts D cy A) {x off : Int} (tgt : Nat) (hdg : decode cc pc = .ok (.ifCond .ne off, 3)) (ht : (pc : Int) + off = (tgt : Int)) (hx : inR x) (kt : ¬ x = 0 → G p l e R s m args below meth c nL D cy ad A Q tgt vs st σ) (kf : x = 0 → G p l e R s m args below meth c nL D cy ad A Q (pc + 3) vs st σ) : G p l e R s m args below meth c nL D cy ad A Q pc vs (.int (Int32.ofInt x) :: st) σ :=
  fun hM H locs ls hP hD hS hl => lv_if_ne C.1 C.2.1 hdg ht (fun q => kt (fun q2 => q ((zeq hx z0R).mpr q2)) hM H locs ls hP hD hS hl) (fun q => kf ((zeq hx z0R).mp q) hM H locs ls hP hD hS hl)
theorem g_if_lt (C : Cx p s m args meth c cc own nL Ts D cy A) {x off : Int} (tgt : Nat) (hdg : decode cc pc = .ok (.ifCond .lt off, 3)) (ht : (pc : Int) + off = (tgt : Int)) (hx : inR x) (kt : x < 0 → G p l e R s m args below meth c nL D cy ad A Q tgt vs st σ) (kf : ¬ x < 0 → G p l e R s m args below meth c nL D cy ad A Q (pc + 3) vs st σ) : G p l e R s m args below meth c nL D cy ad A Q pc vs (.int (Int32.ofInt x) :: st) σ :=
  fun hM H locs ls hP hD hS hl => lv_if_lt C.1 C.2.1 hdg ht (fun q => kt ((zlt hx z0R).mp q) hM H locs ls hP hD hS hl) (fun q => kf (fun q2 => q ((zlt hx z0R).mpr q2)) hM H locs ls hP hD hS hl)
theorem g_if_ge (C : Cx p s m args meth c cc own nL Ts D cy A) {x off : Int} (tgt : Nat) (hdg : decode cc pc = .ok (.ifCond .ge off, 3)) (ht : (pc : Int) + off = (tgt : Int)) (hx : inR x) (kt : ¬ x < 0 → G p l e R s m args below meth c nL D cy ad A Q tgt vs st σ) (kf : x < 0 → G p l e R s m args below meth c nL D cy ad A Q (pc + 3) vs st σ) : G p l e R s m args below meth c nL D cy ad A Q pc vs (.int (Int32.ofInt x) :: st) σ :=
  fun hM H locs ls hP hD hS hl => lv_if_ge C.1 C.2.1 hdg ht (fun q => kt (by have := (zle z0R hx).mp q; omega) hM H locs ls hP hD hS hl) (fun q => kf (by have h : ¬ (0 ≤ x) := fun z => q ((zle z0R hx).mpr z); omega) hM H locs ls hP hD hS hl)
theorem g_if_gt (C : Cx p s m args meth c cc own nL Ts D cy A) {x off : Int} (tgt : Nat) (hdg : decode cc pc = .ok (.ifCond .gt off, 3)) (ht : (pc : Int) + off = (tgt : Int)) (hx : inR x) (kt : 0 < x → G p l e R s m args below meth c nL D cy ad A Q tgt vs st σ) (kf : ¬ 0 < x → G p l e R s m args below meth c nL D cy ad A Q (pc + 3) vs st σ) : G p l e R s m args below meth c nL D cy ad A Q pc vs (.int (Int32.ofInt x) :: st) σ :=
  fun hM H locs ls hP hD hS hl => lv_if_gt C.1 C.2.1 hdg ht (fun q => kt ((zlt z0R hx).mp q) hM H locs ls hP hD hS hl) (fun q => kf (fun q2 => q ((zlt z0R hx).mpr q2)) hM H locs ls hP hD hS hl)
theorem g_if_le (C : Cx p s m args meth c cc own nL Ts D cy A) {x off : Int} (tgt : Nat) (hdg : decode cc pc = .ok (.ifCond .le off, 3)) (ht : (pc : Int) + off = (tgt : Int)) (hx : inR x) (kt : ¬ 0 < x → G p l e R s m args below meth c nL D cy ad A Q tgt vs st σ) (kf : 0 < x → G p l e R s m args below meth c nL D cy ad A Q (pc + 3) vs st σ) : G p l e R s m args below meth c nL D cy ad A Q pc vs (.int (Int32.ofInt x) :: st) σ :=
  fun hM H locs ls hP hD hS hl => lv_if_le C.1 C.2.1 hdg ht (fun q => kt (by have := (zle hx z0R).mp q; omega) hM H locs ls hP hD hS hl) (fun q => kf (by have h : ¬ (x ≤ 0) := fun z => q ((zle hx z0R).mpr z); omega) hM H locs ls hP hD hS hl)
/-! fields -/
theorem g_get {ref C' : String} {T : u_T} {N ci index q0 j : Nat} {fs : List (Option Nat)} {v : Value} (C : Cx p s m args meth c cc own nL Ts D cy A) (hin : ∀ w ∈ u_ws C' T N, w ∈ Ts) (hc : vwCl[ci]? = some (C', T, N)) (hlay : lay q0 = .inr (ci, fs)) (hq : q0 < 73) (hj : j < N) (hv : (zfs ad σ q0 fs)[j]? = some v) (hlink : Cond.fieldLink own index ref (T j).2.1 (T j).2.2.1 ∈ Ts) (href : (T j).1 = ref) (hdg : decode cc pc = .ok (.getfield index, 3)) (kk : G p l e R s m args below meth c nL D cy ad A Q (pc + 3) vs (v :: st) σ) : G p l e R s m args below meth c nL D cy ad A Q pc vs (.ref (ad q0) :: st) σ := by
  subst href
  intro hM H locs ls hP hD hS hl
  obtain ⟨hx, hb, hml, hown, hts, hK, hA, hlo, hN⟩ := C
  exact va_get (D := D) hx hb hts hin hown hK hP q0 ((wl_at hq).trans (by rw [ent_obj hlay])) hc j hj (hts _ hlink) (fun _ h9 => h9) hv hdg (kk hM H locs ls hP hD hS hl)
theorem g_getN {ref C' host : String} {T : u_T} {N ci index q0 j : Nat} {fs : List (Option Nat)} {v : Value} (C : Cx p s m args meth c cc own nL Ts D cy A) (hin : ∀ w ∈ u_ws C' T N, w ∈ Ts) (hc : vwCl[ci]? = some (C', T, N)) (hlay : lay q0 = .inr (ci, fs)) (hq : q0 < 73) (hj : j < N) (hv : (zfs ad σ q0 fs)[j]? = some v) (hlink : (own, index, ref, (T j).2.1, (T j).2.2.1, host) ∈ nestL) (href : (T j).1 = ref) (hdg : decode cc pc = .ok (.getfield index, 3)) (kk : G p l e R s m args below meth c nL D cy ad A Q (pc + 3) vs (v :: st) σ) : G p l e R s m args below meth c nL D cy ad A Q pc vs (.ref (ad q0) :: st) σ := by
  subst href
  intro hM H locs ls hP hD hS hl
  obtain ⟨hx, hb, hml, hown, hts, hK, hA, hlo, hN⟩ := C
  exact va_getN (D := D) hx hb hts hin hown hK hP q0 ((wl_at hq).trans (by rw [ent_obj hlay])) hc j hj (va_Nw.use rfl (hN _ hlink)) (fun _ h9 => h9) hv hdg (kk hM H locs ls hP hD hS hl)
theorem g_put {ref C' : String} {T : u_T} {N ci index q0 j : Nat} {fs : List (Option Nat)} {x : Int} {ty : FieldType} {ty0 : Nat → FieldType} (C : Cx p s m args meth c cc own nL Ts D cy A) (hin : ∀ w ∈ u_ws C' T N, w ∈ Ts) (hty : ∀ k, k < N → parseFieldDescriptor (T k).2.2.1 = some (ty0 k)) (hnm : ∀ a, a < N → ∀ b, b < N → a ≠ b → (T a).2.1 ≠ (T b).2.1) (hc : vwCl[ci]? = some (C', T, N)) (hlay : lay q0 = .inr (ci, fs)) (hq : q0 < 73) (hj : j < N) (hf : fs[j]? = some none) (hlink : Cond.fieldLink own index ref (T j).2.1 (T j).2.2.1 ∈ Ts) (href : (T j).1 = ref) (hfin : (T j).2.2.2 = false) (hd : parseFieldDescriptor (T j).2.2.1 = some ty) (hn : narrow ty (.int (Int32.ofInt x)) = .int (Int32.ofInt x)) (hfit : fits ty (.int (Int32.ofInt x)) = true) (hr : inR x) (hdg : decode cc pc = .ok (.putfield index, 3)) (kk : G p l e R s m args below meth c nL D cy ad A Q (pc + 3) vs st (zup σ q0 (j : Int) x)) : G p l e R s m args below meth c nL D cy ad A Q pc vs (.int (Int32.ofInt x) :: .ref (ad q0) :: st) σ := by
  subst href
  intro hM H locs ls hP hD hS hl
  obtain ⟨hx, hb, hml, hown, hts, hK, hA, hlo, hN⟩ := C
  have e : (wl cy ad σ).set q0 (ad q0, .inr (ci, (zfs ad σ q0 fs).set j (.int (Int32.ofInt x)))) = wl cy ad (zup σ q0 (j : Int) x) :=
    wl_set (by rw [zfs_set hf, ent_obj hlay]) (fun k hk => zup_ne hk)
  refine va_put (D := D) hx hb hts hin ty0 hty hnm hown hK hP hD hS q0 ((wl_at hq).trans (by rw [ent_obj hlay])) hc j hj (hts _ hlink) (fun _ h9 => h9) hfin hd hn hfit (by simp [zfs]; exact (List.getElem?_eq_some_iff.mp hf).1) hdg (fun H1 locs1 hP1 hD1 hS1 => ?_)
  rw [e] at hP1 hD1
  exact kk (okM_up hM hr) H1 locs1 ls hP1 hD1 hS1 hl
theorem g_putN {ref C' host : String} {T : u_T} {N ci index q0 j : Nat} {fs : List (Option Nat)} {x : Int} {ty : FieldType} {ty0 : Nat → FieldType} (C : Cx p s m args meth c cc own nL Ts D cy A) (hin : ∀ w ∈ u_ws C' T N, w ∈ Ts) (hty : ∀ k, k < N → parseFieldDescriptor (T k).2.2.1 = some (ty0 k)) (hnm : ∀ a, a < N → ∀ b, b < N → a ≠ b → (T a).2.1 ≠ (T b).2.1) (hc : vwCl[ci]? = some (C', T, N)) (hlay : lay q0 = .inr (ci, fs)) (hq : q0 < 73) (hj : j < N) (hf : fs[j]? = some none) (hlink : (own, index, ref, (T j).2.1, (T j).2.2.1, host) ∈ nestL) (href : (T j).1 = ref) (hfin : (T j).2.2.2 = false) (hd : parseFieldDescriptor (T j).2.2.1 = some ty) (hn : narrow ty (.int (Int32.ofInt x)) = .int (Int32.ofInt x)) (hfit : fits ty (.int (Int32.ofInt x)) = true) (hr : inR x) (hdg : decode cc pc = .ok (.putfield index, 3)) (kk : G p l e R s m args below meth c nL D cy ad A Q (pc + 3) vs st (zup σ q0 (j : Int) x)) : G p l e R s m args below meth c nL D cy ad A Q pc vs (.int (Int32.ofInt x) :: .ref (ad q0) :: st) σ := by
  subst href
  intro hM H locs ls hP hD hS hl
  obtain ⟨hx, hb, hml, hown, hts, hK, hA, hlo, hN⟩ := C
  have e : (wl cy ad σ).set q0 (ad q0, .inr (ci, (zfs ad σ q0 fs).set j (.int (Int32.ofInt x)))) = wl cy ad (zup σ q0 (j : Int) x) :=
    wl_set (by rw [zfs_set hf, ent_obj hlay]) (fun k hk => zup_ne hk)
  refine va_putN (D := D) hx hb hts hin ty0 hty hnm hown hK hP hD hS q0 ((wl_at hq).trans (by rw [ent_obj hlay])) hc j hj (va_Nw.use rfl (hN _ hlink)) (fun _ h9 => h9) hfin hd hn hfit (by simp [zfs]; exact (List.getElem?_eq_some_iff.mp hf).1) hdg (fun H1 locs1 hP1 hD1 hS1 => ?_)
  rw [e] at hP1 hD1
  exact kk (okM_up hM hr) H1 locs1 ls hP1 hD1 hS1 hl
theorem g_getI {ref C' : String} {T : u_T} {N ci index q0 j : Nat} {fs : List (Option Nat)} (jj : Int) (C : Cx p s m args meth c cc own nL Ts D cy A) (hin : ∀ w ∈ u_ws C' T N, w ∈ Ts) (hc : vwCl[ci]? = some (C', T, N)) (hlay : lay q0 = .inr (ci, fs)) (hq : q0 < 73) (hj : j < N) (hf : fs[j]? = some none) (hjj : ((j : Nat) : Int) = jj) (hlink : Cond.fieldLink own index ref (T j).2.1 (T j).2.2.1 ∈ Ts) (href : (T j).1 = ref) (hdg : decode cc pc = .ok (.getfield index, 3)) (kk : inR (σ q0 jj) → G p l e R s m args below meth c nL D cy ad A Q (pc + 3) vs (.int (Int32.ofInt (σ q0 jj)) :: st) σ) : G p l e R s m args below meth c nL D cy ad A Q pc vs (.ref (ad q0) :: st) σ := by
  subst hjj
  exact fun hM => g_get C hin hc hlay hq hj (zfs_n hf) hlink href hdg (kk (hM _ _)) hM
theorem g_getIN {ref C' host : String} {T : u_T} {N ci index q0 j : Nat} {fs : List (Option Nat)} (jj : Int) (C : Cx p s m args meth c cc own nL Ts D cy A) (hin : ∀ w ∈ u_ws C' T N, w ∈ Ts) (hc : vwCl[ci]? = some (C', T, N)) (hlay : lay q0 = .inr (ci, fs)) (hq : q0 < 73) (hj : j < N) (hf : fs[j]? = some none) (hjj : ((j : Nat) : Int) = jj) (hlink : (own, index, ref, (T j).2.1, (T j).2.2.1, host) ∈ nestL) (href : (T j).1 = ref) (hdg : decode cc pc = .ok (.getfield index, 3)) (kk : inR (σ q0 jj) → G p l e R s m args below meth c nL D cy ad A Q (pc + 3) vs (.int (Int32.ofInt (σ q0 jj)) :: st) σ) : G p l e R s m args below meth c nL D cy ad A Q pc vs (.ref (ad q0) :: st) σ := by
  subst hjj
  exact fun hM => g_getN C hin hc hlay hq hj (zfs_n hf) hlink href hdg (kk (hM _ _)) hM
theorem g_mem {σ1 : MM} (h : σ1 = σ) (kk : G p l e R s m args below meth c nL D cy ad A Q pc vs st σ1) : G p l e R s m args below meth c nL D cy ad A Q pc vs st σ := h ▸ kk
theorem g_tsw (C : Cx p s m args meth c cc own nL Ts D cy A) {dflt lo hi x : Int} {offs : Array Int} {len : Nat} {off : Int} (tgt : Nat) (v : Int) (hdg : decode cc pc = .ok (.tableswitch dflt lo hi offs, len)) (hx : inR x) (hv : x = v) (h1 : lo ≤ v) (h2 : v ≤ hi) (ho : offs[(v - lo).toNat]? = some off) (ht : (pc : Int) + off = (tgt : Int)) (kk : G p l e R s m args below meth c nL D cy ad A Q tgt vs st σ) : G p l e R s m args below meth c nL D cy ad A Q pc vs (.int (Int32.ofInt x) :: st) σ := by
  subst hv
  intro hM H locs ls hP hD hS hl
  exact lv_tableIn C.1 C.2.1 hdg (by rw [zI hx]; omega) (by rw [zI hx]; omega) (by rw [zI hx]; exact ho) ht (kk hM H locs ls hP hD hS hl)
theorem g_tswD (C : Cx p s m args meth c cc own nL Ts D cy A) {dflt lo hi x : Int} {offs : Array Int} {len : Nat} (tgt : Nat) (hdg : decode cc pc = .ok (.tableswitch dflt lo hi offs, len)) (hx : inR x) (h : x < lo ∨ hi < x) (ht : (pc : Int) + dflt = (tgt : Int)) (kk : G p l e R s m args below meth c nL D cy ad A Q tgt vs st σ) : G p l e R s m args below meth c nL D cy ad A Q pc vs (.int (Int32.ofInt x) :: st) σ := by
  intro hM H locs ls hP hD hS hl
  exact lv_tableOut C.1 C.2.1 hdg (by rw [zI hx]; exact h) ht (kk hM H locs ls hP hD hS hl)
theorem g_lsw (C : Cx p s m args meth c cc own nL Ts D cy A) {dflt x : Int} {ps : Array (Int × Int)} {len : Nat} {off : Int} (tgt : Nat) (hdg : decode cc pc = .ok (.lookupswitch dflt ps, len)) (hp : (ps.toList.zip (ps.toList.drop 1)).all (fun (a, next) => a.1 < next.1) = true) (hx : inR x) (ho : Op.lookupswitch.offset ps.toList dflt x = off) (ht : (pc : Int) + off = (tgt : Int)) (kk : G p l e R s m args below meth c nL D cy ad A Q tgt vs st σ) : G p l e R s m args below meth c nL D cy ad A Q pc vs (.int (Int32.ofInt x) :: st) σ := by
  intro hM H locs ls hP hD hS hl
  exact lv_lookup C.1 C.2.1 hdg hp (by rw [zI hx]; exact ho) ht (kk hM H locs ls hP hD hS hl)
/-! arrays -/
theorem g_iald (C : Cx p s m args meth c cc own nL Ts D cy A) {q0 n : Nat} {i : Int} (hlay : lay q0 = .inl (0, n)) (hq : q0 < 73) (hn : n < 1000000) (hi : 0 ≤ i ∧ i < (n : Int)) (hdg : decode cc pc = .ok (.iaload, 1)) (kk : inR (σ q0 i) → G p l e R s m args below meth c nL D cy ad A Q (pc + 1) vs (.int (Int32.ofInt (σ q0 i)) :: st) σ) : G p l e R s m args below meth c nL D cy ad A Q pc vs (.int (Int32.ofInt i) :: .ref (ad q0) :: st) σ := by
  intro hM H locs ls hP hD hS hl
  obtain ⟨hx, hb, hml, hown, hts, hK, hA, hlo, hN⟩ := C
  obtain ⟨h1, h2⟩ := z_in hi hn
  refine va_iald hx hb hK hP q0 0 ((wl_at hq).trans (by rw [ent_arr hlay (by decide)])) rfl h1 hdg ?_
  rw [h2]
  exact kk (hM _ _) hM H locs ls hP hD hS hl
theorem g_zald (C : Cx p s m args meth c cc own nL Ts D cy A) {q0 n : Nat} {i : Int} (hlay : lay q0 = .inl (1, n)) (hq : q0 < 73) (hn : n < 1000000) (hi : 0 ≤ i ∧ i < (n : Int)) (hdg : decode cc pc = .ok (.baload, 1)) (kk : inR (σ q0 i) → G p l e R s m args below meth c nL D cy ad A Q (pc + 1) vs (.int (Int32.ofInt (σ q0 i)) :: st) σ) : G p l e R s m args below meth c nL D cy ad A Q pc vs (.int (Int32.ofInt i) :: .ref (ad q0) :: st) σ := by
  intro hM H locs ls hP hD hS hl
  obtain ⟨hx, hb, hml, hown, hts, hK, hA, hlo, hN⟩ := C
  obtain ⟨h1, h2⟩ := z_in hi hn
  refine va_zald hx hb hK hP q0 1 ((wl_at hq).trans (by rw [ent_arr hlay (by decide)])) rfl h1 hdg ?_
  rw [h2]
  exact kk (hM _ _) hM H locs ls hP hD hS hl
theorem g_cald (C : Cx p s m args meth c cc own nL Ts D cy A) {q0 n : Nat} {i : Int} (hlay : lay q0 = .inl (2, n)) (hq : q0 < 73) (hn : n < 1000000) (hi : 0 ≤ i ∧ i < (n : Int)) (hdg : decode cc pc = .ok (.caload, 1)) (kk : inR (σ q0 i) → G p l e R s m args below meth c nL D cy ad A Q (pc + 1) vs (.int (Int32.ofInt (σ q0 i)) :: st) σ) : G p l e R s m args below meth c nL D cy ad A Q pc vs (.int (Int32.ofInt i) :: .ref (ad q0) :: st) σ := by
  intro hM H locs ls hP hD hS hl
  obtain ⟨hx, hb, hml, hown, hts, hK, hA, hlo, hN⟩ := C
  obtain ⟨h1, h2⟩ := z_in hi hn
  refine va_cald hx hb hK hP q0 2 ((wl_at hq).trans (by rw [ent_arr hlay (by decide)])) rfl h1 hdg ?_
  rw [h2]
  exact kk (hM _ _) hM H locs ls hP hD hS hl
theorem zarr_set {cy : Nat → ClassId} {ad : Nat → Nat} {σ : MM} {q0 t n : Nat} {i v : Int} (hlay : lay q0 = .inl (t, n)) (ht : t ≠ 3) {k : Nat} (hk : (k : Int) = i) : (wl cy ad σ).set q0 (ad q0, .inl (cy t, n, .inl (upd (fun j : Nat => Int32.ofInt (σ q0 (j : Int))) k (Int32.ofInt v)))) = wl cy ad (zup σ q0 i v) := by
  subst hk
  refine wl_set ?_ (fun k hk => zup_ne hk)
  rw [ent_arr hlay ht]
  congr 3
  congr 1
  funext j
  by_cases hj : j = k
  · subst hj
    simp [upd, zup]
  · have : ((j : Int) = (k : Int)) ↔ False := by constructor; (intro q; exact hj (by omega)); (intro q; exact q.elim)
    simp [upd, zup, hj, this]
theorem g_iast (C : Cx p s m args meth c cc own nL Ts D cy A) {q0 n : Nat} {i x : Int} (hlay : lay q0 = .inl (0, n)) (hq : q0 < 73) (hn : n < 1000000) (hi : 0 ≤ i ∧ i < (n : Int)) (hr : inR x) (hdg : decode cc pc = .ok (.iastore, 1)) (kk : G p l e R s m args below meth c nL D cy ad A Q (pc + 1) vs st (zup σ q0 i x)) : G p l e R s m args below meth c nL D cy ad A Q pc vs (.int (Int32.ofInt x) :: .int (Int32.ofInt i) :: .ref (ad q0) :: st) σ := by
  intro hM H locs ls hP hD hS hl
  obtain ⟨hx, hb, hml, hown, hts, hK, hA, hlo, hN⟩ := C
  obtain ⟨h1, h2⟩ := z_in hi hn
  refine va_iast hx hb hK hP hD hS q0 0 ((wl_at hq).trans (by rw [ent_arr hlay (by decide)])) rfl h1 hdg (fun H1 locs1 hP1 hD1 hS1 => ?_)
  rw [zarr_set hlay (by decide) h2] at hP1 hD1
  exact kk (okM_up hM hr) H1 locs1 ls hP1 hD1 hS1 hl
theorem g_zast (C : Cx p s m args meth c cc own nL Ts D cy A) {q0 n : Nat} {i x : Int} (hlay : lay q0 = .inl (1, n)) (hq : q0 < 73) (hn : n < 1000000) (hi : 0 ≤ i ∧ i < (n : Int)) (hr : x = 0 ∨ x = 1) (hdg : decode cc pc = .ok (.bastore, 1)) (kk : G p l e R s m args below meth c nL D cy ad A Q (pc + 1) vs st (zup σ q0 i x)) : G p l e R s m args below meth c nL D cy ad A Q pc vs (.int (Int32.ofInt x) :: .int (Int32.ofInt i) :: .ref (ad q0) :: st) σ := by
  intro hM H locs ls hP hD hS hl
  obtain ⟨hx, hb, hml, hown, hts, hK, hA, hlo, hN⟩ := C
  obtain ⟨h1, h2⟩ := z_in hi hn
  have hv : vp_nar .boolean (Int32.ofInt x) = Int32.ofInt x := by rcases hr with rfl | rfl <;> rfl
  refine va_zast hx hb hK hP hD hS q0 1 ((wl_at hq).trans (by rw [ent_arr hlay (by decide)])) rfl h1 hdg (fun H1 locs1 hP1 hD1 hS1 => ?_)
  rw [hv, zarr_set hlay (by decide) h2] at hP1 hD1
  exact kk (okM_up hM (by rcases hr with rfl | rfl <;> decide)) H1 locs1 ls hP1 hD1 hS1 hl
theorem z_nc {x : Int} (h : 0 ≤ x ∧ x < 65536) : vp_nar .char (Int32.ofInt x) = Int32.ofInt x ∧ narrow .char (.int (Int32.ofInt x)) = .int (Int32.ofInt x) := by
  obtain ⟨a, rfl⟩ : ∃ a : Nat, x = (a : Int) := ⟨x.toNat, by omega⟩
  have e : Int32.ofInt (a : Int) = nI a := rfl
  have h3 := (pk_charN (q := a) (by omega)).1
  rw [e]
  exact ⟨by unfold vp_nar; rw [h3], h3⟩
theorem g_cast (C : Cx p s m args meth c cc own nL Ts D cy A) {q0 n : Nat} {i x : Int} (hlay : lay q0 = .inl (2, n)) (hq : q0 < 73) (hn : n < 1000000) (hi : 0 ≤ i ∧ i < (n : Int)) (hr : 0 ≤ x ∧ x < 65536) (hdg : decode cc pc = .ok (.castore, 1)) (kk : G p l e R s m args below meth c nL D cy ad A Q (pc + 1) vs st (zup σ q0 i x)) : G p l e R s m args below meth c nL D cy ad A Q pc vs (.int (Int32.ofInt x) :: .int (Int32.ofInt i) :: .ref (ad q0) :: st) σ := by
  intro hM H locs ls hP hD hS hl
  obtain ⟨hx, hb, hml, hown, hts, hK, hA, hlo, hN⟩ := C
  obtain ⟨h1, h2⟩ := z_in hi hn
  refine va_cast hx hb hK hP hD hS q0 2 ((wl_at hq).trans (by rw [ent_arr hlay (by decide)])) rfl h1 hdg (fun H1 locs1 hP1 hD1 hS1 => ?_)
  rw [(z_nc hr).1, zarr_set hlay (by decide) h2] at hP1 hD1
  exact kk (okM_up hM (by have := hr; omega)) H1 locs1 ls hP1 hD1 hS1 hl
theorem g_alen (C : Cx p s m args meth c cc own nL Ts D cy A) {q0 n : Nat} (hlay : lay q0 = .inl (0, n)) (hq : q0 < 73) (hdg : decode cc pc = .ok (.arraylength, 1)) (kk : G p l e R s m args below meth c nL D cy ad A Q (pc + 1) vs (.int (Int32.ofInt (n : Int)) :: st) σ) : G p l e R s m args below meth c nL D cy ad A Q pc vs (.ref (ad q0) :: st) σ := by
  intro hM H locs ls hP hD hS hl
  obtain ⟨hx, hb, hml, hown, hts, hK, hA, hlo, hN⟩ := C
  exact va_alen (x := (n, .inl (fun j : Nat => Int32.ofInt (σ q0 (j : Int))))) hx hb hK hP q0 0 ((wl_at hq).trans (by rw [ent_arr hlay (by decide)])) rfl rfl hdg (kk hM H locs ls hP hD hS hl)
/-! calls -/
theorem z_free (C : Cx p s m args meth c cc own nL Ts D cy A) {H : Heap} {locs : List Loc} (hD : va_D A (wl cy ad σ)) (hS : va_S A s.heap H locs) : ∀ q, va_A (wl cy ad σ) H.size q → A q := by
  intro q h
  rcases h with ⟨k, e, h⟩ | h
  · exact hD.2 k (q, e) h
  · exact C.2.2.2.2.2.2.1 q (Nat.le_trans hS.1 h)
theorem g_callI (C : Cx p s m args meth c cc own nL Ts D cy A) {y : MethodName} {bytes : ByteArray} {maxL : Nat} {ret : Option FieldType} {ws ws' : List Cond} {rm : Room} {C' : String} {T : u_T} {N ci index n k rt : Nat} {fs : List (Option Nat)} {as : (Nat → Nat) → List Value} {As rest : List Value} {ro : Int} {σo : MM}
    (hM : okM σ → CtI l y ws rm as σ rt ro σo) (hG : GoodIn Ts (wsV own index C' y ws)) (hw : ws = Cond.code y bytes maxL ret :: ws') (hd : y.cls = C' ∧ y.cls ≠ "java/lang/invoke/MethodHandle" ∧ y.cls ≠ "java/lang/invoke/VarHandle" ∧ (parseMethodDescriptor y.desc).map (fun d => d.parameters.length) = some n) (hrm : rm.cells = 0 ∧ rm.slots = 0) (hR : rm.frames + 1 ≤ R.frames ∧ 8 + (maxL + 11) + rm.locals ≤ R.locals)
    (hc : vwCl[ci]? = some (C', T, N)) (hlay : lay k = .inr (ci, fs)) (hq : k < 73) (has : as ad = .ref (ad k) :: As) (hn : As.length = n) (hst : st = As.reverse ++ .ref (ad k) :: rest) (hcat : (rest.map fun v => v.category).sum ≤ 8) (hdg : decode cc pc = .ok (.invokevirtual index, 3))
    (kk : rgT rt ro → G p l e R s m args below meth c nL D cy ad A Q (pc + 3) vs (.int (Int32.ofInt ro) :: rest) σo) : G p l e R s m args below meth c nL D cy ad A Q pc vs st σ := by
  subst hst
  intro hM0 H locs ls hP hD hS hl
  have C0 := C
  obtain ⟨hx, hb, hml, hown, hts, hK, hA, hlo, hN⟩ := C
  have hFc := z_free C0 hD hS
  have hM1 := hM hM0 D cy ad H.size
  rw [has] at hM1
  refine va_calli (va_runV (As := As) (rest := rest) ⟨hx, hb, hml, hown, hts⟩ hM1 (cwV n hts hG hw hrm.1 hrm.2 hd hR) ⟨zB_blind, va_recv hK hP hc ((wl_at hq).trans (by rw [ent_obj hlay])), fun U hU hW => ⟨rfl, by rw [hU], by rw [hU]; exact hP, va_K.moved hW.alike hK, hD.weaken (fun _ _ _ _ => trivial), zN_warm hW hN⟩⟩ rfl hn hl.1 rfl (lv_room hcat) hdg ⟨Nat.zero_le _, Nat.zero_le _⟩) hS (fun q _ h => hFc q h) hFc (fun r u t H1 locs ht hvm hw2 hB hz1 hk1 hS2 => ?_)
  obtain ⟨rfl, hrg, hM2⟩ := hw2
  obtain ⟨hP1, hK1, hD1⟩ := hB
  rw [ht] at hP1
  exact kk hrg hM2 H1 locs ls hP1 (hD1.weaken (fun _ q _ h => hFc q.1 h)) hS2 hl
theorem g_callV (C : Cx p s m args meth c cc own nL Ts D cy A) {y : MethodName} {bytes : ByteArray} {maxL : Nat} {ret : Option FieldType} {ws ws' : List Cond} {rm : Room} {C' : String} {T : u_T} {N ci index n k : Nat} {fs : List (Option Nat)} {as : (Nat → Nat) → List Value} {As rest : List Value} {σo : MM}
    (hM : okM σ → CtV l y ws rm as σ σo) (hG : GoodIn Ts (wsV own index C' y ws)) (hw : ws = Cond.code y bytes maxL ret :: ws') (hd : y.cls = C' ∧ y.cls ≠ "java/lang/invoke/MethodHandle" ∧ y.cls ≠ "java/lang/invoke/VarHandle" ∧ (parseMethodDescriptor y.desc).map (fun d => d.parameters.length) = some n) (hrm : rm.cells = 0 ∧ rm.slots = 0) (hR : rm.frames + 1 ≤ R.frames ∧ 8 + (maxL + 11) + rm.locals ≤ R.locals)
    (hc : vwCl[ci]? = some (C', T, N)) (hlay : lay k = .inr (ci, fs)) (hq : k < 73) (has : as ad = .ref (ad k) :: As) (hn : As.length = n) (hst : st = As.reverse ++ .ref (ad k) :: rest) (hcat : (rest.map fun v => v.category).sum ≤ 8) (hdg : decode cc pc = .ok (.invokevirtual index, 3))
    (kk : G p l e R s m args below meth c nL D cy ad A Q (pc + 3) vs rest σo) : G p l e R s m args below meth c nL D cy ad A Q pc vs st σ := by
  subst hst
  intro hM0 H locs ls hP hD hS hl
  have C0 := C
  obtain ⟨hx, hb, hml, hown, hts, hK, hA, hlo, hN⟩ := C
  have hFc := z_free C0 hD hS
  have hM1 := hM hM0 D cy ad H.size
  rw [has] at hM1
  refine va_callv (va_runV (As := As) (rest := rest) ⟨hx, hb, hml, hown, hts⟩ hM1 (cwV n hts hG hw hrm.1 hrm.2 hd hR) ⟨zB_blind, va_recv hK hP hc ((wl_at hq).trans (by rw [ent_obj hlay])), fun U hU hW => ⟨rfl, by rw [hU], by rw [hU]; exact hP, va_K.moved hW.alike hK, hD.weaken (fun _ _ _ _ => trivial), zN_warm hW hN⟩⟩ rfl hn hl.1 rfl (lv_room hcat) hdg ⟨Nat.zero_le _, Nat.zero_le _⟩) hS (fun q _ h => hFc q h) hFc (fun u t H1 locs ht hvm hw2 hB hz1 hk1 hS2 => ?_)
  obtain ⟨hP1, hK1, hD1⟩ := hB
  rw [ht] at hP1
  exact kk hw2 H1 locs ls hP1 (hD1.weaken (fun _ q _ h => hFc q.1 h)) hS2 hl
theorem g_callS (C : Cx p s m args meth c cc own nL Ts D cy A) {y : MethodName} {bytes : ByteArray} {maxL : Nat} {ret : Option FieldType} {ws ws' : List Cond} {rm : Room} {index n rt : Nat} {as : (Nat → Nat) → List Value} {As rest : List Value} {ro : Int} {σo : MM}
    (hM : okM σ → CtI l y ws rm as σ rt ro σo) (hG : GoodIn Ts (va_wsS own index y ws)) (hw : ws = Cond.code y bytes maxL ret :: ws') (hd : y.cls ≠ "java/lang/invoke/MethodHandle" ∧ y.cls ≠ "java/lang/invoke/VarHandle" ∧ (parseMethodDescriptor y.desc).map (fun d => d.parameters.length) = some n) (hrm : rm.cells = 0 ∧ rm.slots = 0) (hR : rm.frames + 1 ≤ R.frames ∧ 8 + (maxL + 11) + rm.locals ≤ R.locals)
    (has : as ad = As) (hn : As.length = n) (hst : st = As.reverse ++ rest) (hcat : (rest.map fun v => v.category).sum ≤ 8) (hdg : decode cc pc = .ok (.invokestatic index, 3))
    (kk : rgT rt ro → G p l e R s m args below meth c nL D cy ad A Q (pc + 3) vs (.int (Int32.ofInt ro) :: rest) σo) : G p l e R s m args below meth c nL D cy ad A Q pc vs st σ := by
  subst hst
  intro hM0 H locs ls hP hD hS hl
  have C0 := C
  obtain ⟨hx, hb, hml, hown, hts, hK, hA, hlo, hN⟩ := C
  have hFc := z_free C0 hD hS
  have hM1 := hM hM0 D cy ad H.size
  rw [has] at hM1
  refine va_calli (va_runS (As := As) (rest := rest) ⟨hx, hb, hml, hown, hts⟩ hM1 (va_cwS n hts hG hw hrm.1 hrm.2 hd hR) ⟨zB_blind, fun U hU hW => ⟨rfl, by rw [hU], by rw [hU]; exact hP, va_K.moved hW.alike hK, hD.weaken (fun _ _ _ _ => trivial), zN_warm hW hN⟩⟩ rfl hn hl.1 rfl (lv_room hcat) hdg ⟨Nat.zero_le _, Nat.zero_le _⟩) hS (fun q _ h => hFc q h) hFc (fun r u t H1 locs ht hvm hw2 hB hz1 hk1 hS2 => ?_)
  obtain ⟨rfl, hrg, hM2⟩ := hw2
  obtain ⟨hP1, hK1, hD1⟩ := hB
  rw [ht] at hP1
  exact kk hrg hM2 H1 locs ls hP1 (hD1.weaken (fun _ q _ h => hFc q.1 h)) hS2 hl
theorem zmaxE {x y : Int} (hx : inR x) (hy : inR y) : (if Int32.ofInt x < Int32.ofInt y then Int32.ofInt y else Int32.ofInt x) = Int32.ofInt (max x y) := by
  by_cases h : x < y
  · rw [if_pos ((zlt hx hy).mpr h), show max x y = y by omega]
  · rw [if_neg (fun q => h ((zlt hx hy).mp q)), show max x y = x by omega]
theorem g_mmax (C : Cx p s m args meth c cc own nL Ts D cy A) {index : Nat} {x y : Int} {rest : List Value} (hlink : Cond.methodLink own index Lib.Math.max.name ∈ Ts) (hstat : Cond.static Lib.Math.max.name ∈ Ts) (hini : Cond.initialized "java/lang/Math" ∈ Ts) (hcode : Cond.code Lib.Math.max.name Lib.Math.max.code 2 (some .int) ∈ Ts) (hfr : 1 ≤ R.frames) (hlo2 : (rest.map fun v => v.category).sum + 13 ≤ R.locals) (hx : inR x) (hy : inR y) (hdg : decode cc pc = .ok (.invokestatic index, 3))
    (kk : inR (max x y) → G p l e R s m args below meth c nL D cy ad A Q (pc + 3) vs (.int (Int32.ofInt (max x y)) :: rest) σ) : G p l e R s m args below meth c nL D cy ad A Q pc vs (.int (Int32.ofInt y) :: .int (Int32.ofInt x) :: rest) σ := by
  intro hM H locs ls hP hD hS hl
  obtain ⟨hx0, hb, hml, hown, hts, hK, hA, hlo, hN⟩ := C
  have h1 := hx
  have h2 := hy
  refine va_mmax hx0 hb (by rw [hml]; exact hl.1.symm) hown (hts _ hlink) (hts _ hstat) (hts _ hini) (hts _ hcode) hfr hlo2 (Nat.zero_le _) (Nat.zero_le _) hdg ?_
  rw [zmaxE h1 h2]
  exact kk (by omega) hM H locs ls hP hD hS hl
theorem zminE {x y : Int} (hx : inR x) (hy : inR y) : (if Int32.ofInt y < Int32.ofInt x then Int32.ofInt y else Int32.ofInt x) = Int32.ofInt (min x y) := by
  by_cases h : y < x
  · rw [if_pos ((zlt hy hx).mpr h), show min x y = y by omega]
  · rw [if_neg (fun q => h ((zlt hy hx).mp q)), show min x y = x by omega]
theorem g_mmin (C : Cx p s m args meth c cc own nL Ts D cy A) {index : Nat} {x y : Int} {rest : List Value} (hlink : Cond.methodLink own index Lib.Math.min.name ∈ Ts) (hstat : Cond.static Lib.Math.min.name ∈ Ts) (hini : Cond.initialized "java/lang/Math" ∈ Ts) (hcode : Cond.code Lib.Math.min.name Lib.Math.min.code 2 (some .int) ∈ Ts) (hfr : 1 ≤ R.frames) (hlo2 : (rest.map fun v => v.category).sum + 13 ≤ R.locals) (hx : inR x) (hy : inR y) (hdg : decode cc pc = .ok (.invokestatic index, 3))
    (kk : inR (min x y) → G p l e R s m args below meth c nL D cy ad A Q (pc + 3) vs (.int (Int32.ofInt (min x y)) :: rest) σ) : G p l e R s m args below meth c nL D cy ad A Q pc vs (.int (Int32.ofInt y) :: .int (Int32.ofInt x) :: rest) σ := by
  intro hM H locs ls hP hD hS hl
  obtain ⟨hx0, hb, hml, hown, hts, hK, hA, hlo, hN⟩ := C
  have h1 := hx
  have h2 := hy
  refine va_mmin hx0 hb (by rw [hml]; exact hl.1.symm) hown (hts _ hlink) (hts _ hstat) (hts _ hini) (hts _ hcode) hfr hlo2 (Nat.zero_le _) (Nat.zero_le _) hdg ?_
  rw [zminE h1 h2]
  exact kk (by omega) hM H locs ls hP hD hS hl
/-! start and end -/
def QI (below : List Frame) (args : Array Value) (s : State) (D : va_G) (cy : Nat → ClassId) (ad : Nat → Nat) (σ : MM) (rt : Nat) (ro : Int) (σo : MM) : State → Prop :=
  MQ below (va_Qi (fun (r : Int32) (_ : Unit) => r = Int32.ofInt ro ∧ rgT rt ro ∧ okM σo) (fun _ t => zE D cy ad σ σo s.heap.size t) (va_A (wl cy ad σ) s.heap.size)) args s 0 0 (va_A (wl cy ad σ) s.heap.size)
def QV (below : List Frame) (args : Array Value) (s : State) (D : va_G) (cy : Nat → ClassId) (ad : Nat → Nat) (σ σo : MM) : State → Prop :=
  MQ below (va_Qv (fun (_ : Unit) => okM σo) (fun _ t => zE D cy ad σ σo s.heap.size t) (va_A (wl cy ad σ) s.heap.size)) args s 0 0 (va_A (wl cy ad σ) s.heap.size)
/-- the method's end is at hand: an ireturn with ro, at σo, is Q -/
def RetI (p : Program) (l : Launch) (e : Env) (R : Room) (s : State) (m : MethodId) (args : Array Value) (below : List Frame) (meth : Method) (c : Code) (cc : ByteArray) (nL : Nat) (D : va_G) (cy : Nat → ClassId) (ad : Nat → Nat) (A : Nat → Prop) (Q : State → Prop) (rt : Nat) (ro : Int) (σo : MM) : Prop :=
  ∀ (pc : Nat) (vs : List (Nat × Value)), decode cc pc = .ok (.ireturn, 1) → rgT rt ro → G p l e R s m args below meth c nL D cy ad A Q pc vs [.int (Int32.ofInt ro)] σo
def RetV (p : Program) (l : Launch) (e : Env) (R : Room) (s : State) (m : MethodId) (args : Array Value) (below : List Frame) (meth : Method) (c : Code) (cc : ByteArray) (nL : Nat) (D : va_G) (cy : Nat → ClassId) (ad : Nat → Nat) (A : Nat → Prop) (Q : State → Prop) (σo : MM) : Prop :=
  ∀ (pc : Nat) (vs : List (Nat × Value)), decode cc pc = .ok (.return_, 1) → G p l e R s m args below meth c nL D cy ad A Q pc vs [] σo
def rtT : Nat → FieldType
  | 0 => .int
  | 1 => .boolean
  | _ => .char
theorem z_nar {rt : Nat} {ro : Int} (h : rgT rt ro) : narrow (rtT rt) (.int (Int32.ofInt ro)) = .int (Int32.ofInt ro) := by
  match rt, h with
  | 0, _ => rfl
  | 1, h =>
    rcases h with rfl | rfl <;> rfl
  | _ + 2, h => exact (z_nc h).2
theorem z_retI (C : Cx p s m args meth c cc own nL Ts D cy (va_A (wl cy ad σ) s.heap.size)) {rt : Nat} {ro : Int} {σo : MM} (hr : meth.sig.returnType = some (rtT rt)) : RetI p l e R s m args below meth c cc nL D cy ad (va_A (wl cy ad σ) s.heap.size) (QI below args s D cy ad σ rt ro σo) rt ro σo := by
  intro pc vs hdg hrg hM H locs ls hP hD hS hl
  obtain ⟨hx, hb, hml, hown, hts, hK, hA, hlo, hN⟩ := C
  exact W.zret (v := Int32.ofInt ro) hx hb hr (z_nar hrg) (fun t ht hW => ⟨⟨_, (), rfl, ⟨rfl, hrg, hM⟩, by rw [ht]; exact hP, va_K.moved hW.alike hK, hD⟩, hS.F ht⟩) hS.2.2 hdg
theorem z_retV (C : Cx p s m args meth c cc own nL Ts D cy (va_A (wl cy ad σ) s.heap.size)) {σo : MM} (hr : meth.sig.returnType = none) : RetV p l e R s m args below meth c cc nL D cy ad (va_A (wl cy ad σ) s.heap.size) (QV below args s D cy ad σ σo) σo := by
  intro pc vs hdg hM H locs ls hP hD hS hl
  obtain ⟨hx, hb, hml, hown, hts, hK, hA, hlo, hN⟩ := C
  exact W.vret hx hb hr (fun t ht hW => ⟨⟨(), rfl, hM, by rw [ht]; exact hP, va_K.moved hW.alike hK, hD⟩, hS.F ht⟩) hS.2.2 hdg
end ZG
theorem z_ctI {l : Launch} {y : MethodName} {ws ws' : List Cond} {fr lo : Nat} {cc : ByteArray} {maxL rt : Nat} {as : (Nat → Nat) → List Value} {σ : MM} {ro : Int} {σo : MM} (hM : okM σ) (hy : plainName y.cls = true) (hw : ws = Cond.code y cc maxL (some (rtT rt)) :: ws') (hlen : ∀ ad : Nat → Nat, (lg_sl (as ad)).length ≤ maxL)
    (body : ∀ {p : Program} {e : Env} {s : State} {m : MethodId} {args : Array Value} {below : List Frame} {meth : Method} {c : Code} {D : va_G} {cy : Nat → ClassId} {ad : Nat → Nat} {A : Nat → Prop} {Q : State → Prop}, Cx p s m args meth c cc y.cls maxL ws D cy A → RetI p l e { frames := fr, cells := 0, slots := 0, locals := lo } s m args below meth c cc maxL D cy ad A Q rt ro σo → G p l e { frames := fr, cells := 0, slots := 0, locals := lo } s m args below meth c maxL D cy ad A Q 0 (lv_args 0 (as ad)) [] σ) : CtI l y ws { frames := fr, cells := 0, slots := 0, locals := lo } as σ rt ro σo := by
  intro D cy ad sz
  refine Met.ofW (cc := cc) (maxL := maxL) (ret := some (rtT rt)) hy hw ?_
  intro p e s m args below meth c s₁ B hml hv
  obtain ⟨rfl, hsz, hP, hK, hD, hN⟩ := hv
  subst hsz
  have C : Cx p s m (as ad).toArray meth c cc y.cls maxL ws D cy (va_A (wl cy ad σ) s.heap.size) := ⟨B.exec, B.bytes, hml, findClass_of_methodNamed B.named, atoms_spec (ws := ws) B.pre, hK, fun q h => Or.inr h, B.notSynchronized, hN⟩
  have hl := lv_entry (as ad) (n := maxL) (hlen ad)
  rw [lg_entry_eq]
  exact body C (z_retI C B.returns) hM s.heap [] _ hP hD.self va_S.rf hl
theorem z_ctV {l : Launch} {y : MethodName} {ws ws' : List Cond} {fr lo : Nat} {cc : ByteArray} {maxL : Nat} {as : (Nat → Nat) → List Value} {σ σo : MM} (hM : okM σ) (hy : plainName y.cls = true) (hw : ws = Cond.code y cc maxL none :: ws') (hlen : ∀ ad : Nat → Nat, (lg_sl (as ad)).length ≤ maxL)
    (body : ∀ {p : Program} {e : Env} {s : State} {m : MethodId} {args : Array Value} {below : List Frame} {meth : Method} {c : Code} {D : va_G} {cy : Nat → ClassId} {ad : Nat → Nat} {A : Nat → Prop} {Q : State → Prop}, Cx p s m args meth c cc y.cls maxL ws D cy A → RetV p l e { frames := fr, cells := 0, slots := 0, locals := lo } s m args below meth c cc maxL D cy ad A Q σo → G p l e { frames := fr, cells := 0, slots := 0, locals := lo } s m args below meth c maxL D cy ad A Q 0 (lv_args 0 (as ad)) [] σ) : CtV l y ws { frames := fr, cells := 0, slots := 0, locals := lo } as σ σo := by
  intro D cy ad sz
  refine Met.ofW (cc := cc) (maxL := maxL) (ret := none) hy hw ?_
  intro p e s m args below meth c s₁ B hml hv
  obtain ⟨rfl, hsz, hP, hK, hD, hN⟩ := hv
  subst hsz
  have C : Cx p s m (as ad).toArray meth c cc y.cls maxL ws D cy (va_A (wl cy ad σ) s.heap.size) := ⟨B.exec, B.bytes, hml, findClass_of_methodNamed B.named, atoms_spec (ws := ws) B.pre, hK, fun q h => Or.inr h, B.notSynchronized, hN⟩
  have hl := lv_entry (as ad) (n := maxL) (hlen ad)
  rw [lg_entry_eq]
  exact body C (z_retV C B.returns) hM s.heap [] _ hP hD.self va_S.rf hl
