/-! what holds at the law's start -/
theorem s_ncL : ∀ q ∈ ncL, Cond.not (.castable q.1 q.2) ∈ flatC (Jvm.Cond.and given_1 narrow_1) := by decide +kernel
theorem s_nest : ∀ q ∈ nestL, zNf q ∈ lw_tbl ∧ (zNf q).onTables = true := by decide +kernel
theorem s_xW : ∀ w ∈ xW, w ∈ lw_tbl ∧ w.onTables = true := by decide +kernel
theorem s_str : ∀ q ∈ strL, Cond.stringRef "DoacrossScheduler" q.1 q.2 ∈ lw_tbl := by decide +kernel
theorem s_cls : Cond.instantiable RX0 12 ∈ lw_tbl ∧ Cond.instantiable RX1 3 ∈ lw_tbl ∧ Cond.instantiable RX2 1 ∈ lw_tbl ∧ Cond.instantiable RX3 7 ∈ lw_tbl ∧ Cond.instantiable RX4 3 ∈ lw_tbl ∧ Cond.instantiable RX5 9 ∈ lw_tbl ∧ Cond.instantiable RX6 20 ∈ lw_tbl := by decide +kernel
theorem s_arr : Cond.arrayClass .int ∈ lw_tbl ∧ Cond.arrayClass .boolean ∈ lw_tbl ∧ Cond.arrayClass .char ∈ lw_tbl ∧ Cond.arrayClass .long ∈ lw_tbl := by decide +kernel
theorem s_sta : (Cond.laysStatic "DoacrossScheduler" "FIRST_VALUE" "[I" ∈ lw_tbl ∧ Cond.laysStatic "DoacrossScheduler" "LEAST_VALUE" "[I" ∈ lw_tbl ∧ Cond.laysStatic "DoacrossScheduler" "GREATEST_VALUE" "[I" ∈ lw_tbl) ∧ Cond.initialized "DoacrossScheduler" ∈ lw_tbl := by decide +kernel
theorem s_thr : (Cond.laysStatic Bundle.tN "UNASSIGNED_STACK" Bundle.steD ∈ lw_tbl ∧ Cond.laysStatic Bundle.tN "SUPPRESSED_SENTINEL" Bundle.listD ∈ lw_tbl) ∧ Cond.initialized Bundle.tN ∈ lw_tbl := by decide +kernel
theorem s_thr2 : Cond.isRef (.static Bundle.tN "UNASSIGNED_STACK" Bundle.steD) ∈ flatC (Jvm.Cond.and given_1 narrow_1) ∧ Cond.isRef (.static Bundle.tN "SUPPRESSED_SENTINEL" Bundle.listD) ∈ flatC (Jvm.Cond.and given_1 narrow_1) := by decide +kernel
/-- an own row of four ints, out of what the Statement gives -/
theorem s_stat {s : State} {args : Array Value} {A : Nat → Prop} (nm : String) (f : Nat → Int) (hl : (Cond.laysStatic "DoacrossScheduler" nm "[I").before args s = true) (hi : (Cond.initialized "DoacrossScheduler").before args s = true) (harr : (Cond.arrayOf (.static "DoacrossScheduler" nm "[I") .int).before args s = true) (hlen : (Cond.eq (.length (.static "DoacrossScheduler" nm "[I")) (.int 4)).before args s = true) (hel : ∀ j : Nat, j < 4 → (Cond.eq (.elem (.static "DoacrossScheduler" nm "[I") (.int (Int32.ofNat j))) (.int (Int32.ofInt (f j)))).before args s = true) (hA : ∀ a : Nat, a < s.heap.size → ¬ A a) : zStat nm f A s s.heap := by
  obtain ⟨t, h1, h2⟩ := va_Tof (N := 4) (f := fun k => .int (Int32.ofInt (f k))) (A := A) (by decide) harr (Cond.eq_int hlen rfl) (fun j hj => Cond.eq_int (hel j hj) rfl) hA
  exact ⟨t, va_Zof hl hi h1 hA, h2⟩
def s_sts (nm : String) (f : Nat → Int) : List Cond := [.arrayOf (.static "DoacrossScheduler" nm "[I") .int, .eq (.length (.static "DoacrossScheduler" nm "[I")) (.int 4), .eq (.elem (.static "DoacrossScheduler" nm "[I") (.int 0)) (.int (Int32.ofInt (f 0))), .eq (.elem (.static "DoacrossScheduler" nm "[I") (.int 1)) (.int (Int32.ofInt (f 1))), .eq (.elem (.static "DoacrossScheduler" nm "[I") (.int 2)) (.int (Int32.ofInt (f 2))), .eq (.elem (.static "DoacrossScheduler" nm "[I") (.int 3)) (.int (Int32.ofInt (f 3)))]
theorem s_st1 : ∀ w ∈ s_sts "FIRST_VALUE" frV, w ∈ flatC (Jvm.Cond.and given_1 narrow_1) := by decide +kernel
theorem s_st2 : ∀ w ∈ s_sts "LEAST_VALUE" leV, w ∈ flatC (Jvm.Cond.and given_1 narrow_1) := by decide +kernel
theorem s_st3 : ∀ w ∈ s_sts "GREATEST_VALUE" grV, w ∈ flatC (Jvm.Cond.and given_1 narrow_1) := by decide +kernel
theorem s_stat2 {s : State} {args : Array Value} {A : Nat → Prop} (nm : String) (f : Nat → Int) (hl : (Cond.laysStatic "DoacrossScheduler" nm "[I").before args s = true) (hi : (Cond.initialized "DoacrossScheduler").before args s = true) (h : ∀ w ∈ s_sts nm f, w.before args s = true) (hA : ∀ a : Nat, a < s.heap.size → ¬ A a) : zStat nm f A s s.heap := by
  refine s_stat nm f hl hi (h _ (List.mem_of_getElem? (i := 0) rfl)) (h _ (List.mem_of_getElem? (i := 1) rfl)) (fun j hj => ?_) hA
  have : j = 0 ∨ j = 1 ∨ j = 2 ∨ j = 3 := by omega
  rcases this with rfl | rfl | rfl | rfl
  · exact h _ (List.mem_of_getElem? (i := 2) rfl)
  · exact h _ (List.mem_of_getElem? (i := 3) rfl)
  · exact h _ (List.mem_of_getElem? (i := 4) rfl)
  · exact h _ (List.mem_of_getElem? (i := 5) rfl)
theorem s_arrK {s : State} {args : Array Value} (t : Nat) (ht : t < 4) (h : (Cond.arrayClass (tyT t)).before args s = true) : ∃ cA : ClassId, ArrOfT s cA (tyT t) ∧ s.vm.findClass ("[" ++ (tyT t).toString) = some cA := by
  obtain ⟨cA, kA, comp, h1, h2, h3⟩ := Cond.arrayClass_spec h
  refine ⟨cA, ?_, h1⟩
  have : t = 0 ∨ t = 1 ∨ t = 2 ∨ t = 3 := by omega
  rcases this with rfl | rfl | rfl | rfl <;> exact fun n z => ⟨fun k h => (by cases h), kA, h2, comp, h3⟩
theorem law_facts {p : Program} {s : State} {m : MethodId} {meth : Method} {c : Code} {b L : Nat} {xs : Nat → Int32} (C0 : lw_At p s m meth c b L xs) : ∃ (D : va_G) (cy : Nat → ClassId), Cx p s m #[Value.ref b] meth c code "DoacrossSchedulerLaw" 7 wsL_law D cy (fun q : Nat => s.heap.size ≤ q) ∧ zSX (fun q : Nat => s.heap.size ≤ q) s s.heap ∧ zNC s ∧ zStat "FIRST_VALUE" frV (fun q : Nat => s.heap.size ≤ q) s s.heap := by
  obtain ⟨hx, hb, hr, hml, hown, hts, hX, hbl, hlocks, hgv⟩ := C0
  have hfl := flat_of_before _ hgv
  have hA : ∀ a : Nat, a < s.heap.size → ¬ (fun q : Nat => s.heap.size ≤ q) a := fun a h q => Nat.not_le.mpr h q
  obtain ⟨i0, i1, i2, i3, i4, i5, i6⟩ := s_cls
  obtain ⟨c0, f0, k0⟩ := u_known (C := RX0) (T := TX0) (N := 12) (n := 12) hts li_wsX00 (hts _ i0)
  obtain ⟨c1, f1, k1⟩ := u_known (C := RX1) (T := TX1) (N := 3) (n := 3) hts li_wsX10 (hts _ i1)
  obtain ⟨c2, f2, k2⟩ := u_known (C := RX2) (T := TX2) (N := 1) (n := 1) hts li_wsX20 (hts _ i2)
  obtain ⟨c3, f3, k3⟩ := u_known (C := RX3) (T := TX3) (N := 7) (n := 7) hts li_wsX30 (hts _ i3)
  obtain ⟨c4, f4, k4⟩ := u_known (C := RX4) (T := TX4) (N := 3) (n := 3) hts li_wsX40 (hts _ i4)
  obtain ⟨c5, f5, k5⟩ := u_known (C := RX5) (T := TX5) (N := 9) (n := 9) hts li_wsX50 (hts _ i5)
  obtain ⟨c6, f6, k6⟩ := u_known (C := RX6) (T := TX6) (N := 20) (n := 20) hts li_wsX60 (hts _ i6)
  obtain ⟨j0, j1, j2, j3⟩ := s_arr
  obtain ⟨a0, x0, y0⟩ := s_arrK 0 (by decide) (hts _ j0)
  obtain ⟨a1, x1, y1⟩ := s_arrK 1 (by decide) (hts _ j1)
  obtain ⟨a2, x2, y2⟩ := s_arrK 2 (by decide) (hts _ j2)
  obtain ⟨a3, x3, y3⟩ := s_arrK 3 (by decide) (hts _ j3)
  obtain ⟨⟨g1, g2, g3⟩, g4⟩ := s_sta
  obtain ⟨⟨t1, t2⟩, t3⟩ := s_thr
  have hK : va_K ((fun k : Nat => [c0, c1, c2, c3, c4, c5, c6].getD k 0), (fun k : Nat => [f0, f1, f2, f3, f4, f5, f6].getD k f0)) vwCl (tyl (fun k : Nat => [a0, a1, a2, a3].getD k 0)) s := by
    refine ⟨fun k q hq => ?_, fun k q hq => ?_⟩
    · match k, hq with
      | 0, hq => cases hq; exact k0
      | 1, hq => cases hq; exact k1
      | 2, hq => cases hq; exact k2
      | 3, hq => cases hq; exact k3
      | 4, hq => cases hq; exact k4
      | 5, hq => cases hq; exact k5
      | 6, hq => cases hq; exact k6
      | k + 7, hq => simp [vwCl] at hq
    · match k, hq with
      | 0, hq => cases hq; exact ⟨x0, y0⟩
      | 1, hq => cases hq; exact ⟨x1, y1⟩
      | 2, hq => cases hq; exact ⟨x2, y2⟩
      | 3, hq => cases hq; exact ⟨x3, y3⟩
      | k + 4, hq => simp [tyl] at hq
  have hN : zN s := fun q hq => va_Nw.of (s_nest q hq).2 (hts _ (s_nest q hq).1)
  refine ⟨_, _, ⟨hx, hb, hml, hown, fun w hw => hts w (wsL_law_in w hw), hK, fun q h => h, hlocks, hN⟩, ⟨vx_Zqof (hts _ t1) (hts _ t3) (hfl _ s_thr2.1) hA, vx_Zqof (hts _ t2) (hts _ t3) (hfl _ s_thr2.2) hA, fun q hq => ?_, fun w hw => va_Nw.of (s_xW w hw).2 (hts _ (s_xW w hw).1), s_stat2 "LEAST_VALUE" leV (hts _ g2) (hts _ g4) (fun w hw => hfl _ (s_st2 w hw)) hA, s_stat2 "GREATEST_VALUE" grV (hts _ g3) (hts _ g4) (fun w hw => hfl _ (s_st3 w hw)) hA⟩, fun q hq => va_Nc.of (hfl _ (s_ncL q hq)), s_stat2 "FIRST_VALUE" frV (hts _ g1) (hts _ g4) (fun w hw => hfl _ (s_st1 w hw)) hA⟩
  have h1 := hts _ (s_str q hq)
  obtain ⟨cc, kc, hc1, -⟩ := Cond.instantiable_spec (hts _ i5)
  obtain ⟨k, cf, i, a, -, -, -, -, -, h2⟩ := Cond.stringRef_spec hc1 h1
  exact ⟨a, h1, by
    have h3 : (Term.string "DoacrossScheduler" q.1).eval #[] s none [] s = (Term.string "DoacrossScheduler" q.1).eval #[Value.ref b] s none [] s := rfl
    rw [h3]; exact h2⟩
