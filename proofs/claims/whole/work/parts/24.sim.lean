theorem X3_simulate_eq {σ : MM} {b : Nat} {g : Int → Int} {P : Int} (hI : sInv0 g) (hb : b + 10 < 51) (hR : sRL σ b g) (hP : 1 ≤ P ∧ P ≤ 6) :
    ∃ σ' : MM, X3_simulate b P σ = some σ' ∧ frC σ σ' ∧ cRun σ' g (sRun g P) (g 2) ∧ sBd g (sRun g P) (g 2) 0 (184 * g 2) := by
  have h00 := hI.1.2.2.1
  have key : ∀ N1 N2 : Nat, 7 ≤ N1 → 41 ≤ N2 → ∃ σ' : MM, X3_simulate_L7 b P (fun σ13 => X3_simulate_L49 b P (fun σ26 => some σ26) N2 0 σ13) N1 0 (zup σ 51 6 0) = some σ' ∧ frC σ σ' ∧ cRun σ' g (sRun g P) (g 2) ∧ sBd g (sRun g P) (g 2) 0 (184 * g 2) := by
    intro N1 N2 hN1 hN2
    obtain ⟨σ1, q1, q2, q3, q4⟩ := X3_simulate_L7_eq (b := b) (P := P) (k := fun σ13 => X3_simulate_L49 b P (fun σ26 => some σ26) N2 0 σ13) N1 0 (zup σ 51 6 0) (by omega) (by omega) (by omega) (fun p h1 h2 => by omega)
    have fr0 : frC σ σ1 := (frC.up (by decide)).tr q2
    have hc : cRun σ1 g (fun _ _ => 0) 0 := by
      refine ⟨⟨fun p h1 h2 => q4 p h1 h2, fun s i' h1 h2 h3 h4 => ?_⟩, ?_, fun i' h1 h2 => by omega⟩
      · rcases h4 with h4 | ⟨h4, h5⟩
        · omega
        · have := (plc_spec hI h1 h2).1; omega
      · rw [q3, zup_s, sLen_eq]
        omega
    obtain ⟨σ2, r1, r2, r3, r4⟩ := X3_simulate_L49_eq (k := fun σ26 => some σ26) hI hb hP N2 0 σ1 (fun _ _ => 0) (fr0.rl hb hR) hc (by rw [show (184 : Int) * 0 = 0 by omega]; exact sBd0 hI) (by omega) (by omega) (by omega)
    exact ⟨σ2, by rw [q1]; exact r1, fr0.tr r2, r3, r4⟩
  unfold X3_simulate
  rw [mlet_eq]
  exact key 100000 100000 (by omega) (by omega)
