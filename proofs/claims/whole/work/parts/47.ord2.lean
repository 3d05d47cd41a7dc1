theorem bv_bit0 (v : BitVec 32) {k : Nat} (hk : k < 8) : (v.sshiftRight k &&& 1#32 = 0#32) ↔ ¬ v.getLsbD k = true := by
  have hs : (v.sshiftRight k).getLsbD 0 = v.getLsbD k := by
    rw [BitVec.getLsbD_sshiftRight, if_pos (show k + 0 < 32 by omega)]
    simp
  have h1 : (1#32).getLsbD 0 = true := by decide
  constructor
  · intro h
    have := congrArg (fun w => BitVec.getLsbD w 0) h
    simp only [BitVec.getLsbD_and, hs, h1, Bool.and_true] at this
    rw [this]
    simp
  · intro h
    apply BitVec.eq_of_getLsbD_eq
    intro i hi
    by_cases e : i = 0
    · subst e
      rw [BitVec.getLsbD_and, hs, h1]
      simpa using h
    · simp [BitVec.getLsbD_one, e]
theorem bt_no {z t : Int} (ht : 0 ≤ t ∧ t < 8) : jand (jshr z t) 1 = 0 ↔ ¬ bt z t := by
  rw [bt_iff ht]
  unfold jand jshr
  rw [Int32.ofInt_toInt]
  generalize Int32.ofInt z = x
  have h1 : ∀ y : Int32, y.toInt = 0 ↔ y.toBitVec = 0#32 := by
    intro y
    constructor
    · intro h
      have : y = 0 := Int32.toInt_inj.mp (by rw [h]; rfl)
      rw [this]; rfl
    · intro h
      have : y = 0 := Int32.toBitVec_inj.mp (by rw [h]; rfl)
      rw [this]; rfl
  rw [h1, ← bv_bit0 _ (k := t.toNat) (by omega)]
  have e : t = 0 ∨ t = 1 ∨ t = 2 ∨ t = 3 ∨ t = 4 ∨ t = 5 ∨ t = 6 ∨ t = 7 := by omega
  rcases e with rfl | rfl | rfl | rfl | rfl | rfl | rfl | rfl <;> exact Iff.rfl
/-! the reference's orders -/
def pmL (n : Nat) : Nat → List Nat → List (List Nat)
  | 0, p => [p]
  | r + 1, p => (List.range' 0 n).flatMap (fun s => if p.contains s then [] else pmL n r (p ++ [s]))
def oAg (g : Int → Int) (n : Nat) (p : List Nat) (w : Int → Int) : Prop := (∀ i : Int, ¬ (20 ≤ i ∧ i < 20 + (n : Int)) → w i = g i) ∧ ∀ i : Int, 0 ≤ i → i < (p.length : Int) → w (20 + i) = ogN p i
def frO (σ σ' : MM) : Prop := (∀ j : Nat, j ≠ 58 → j ≠ 59 → j ≠ 64 → σ' j = σ j) ∧ ∀ i : Int, i ≠ 12 → σ' 58 i = σ 58 i
theorem frO.rf {σ : MM} : frO σ σ := ⟨fun _ _ _ _ => rfl, fun _ _ => rfl⟩
theorem frO.tr {σ σ' σ'' : MM} (h : frO σ σ') (h' : frO σ' σ'') : frO σ σ'' := ⟨fun j a b c => (h'.1 j a b c).trans (h.1 j a b c), fun i a => (h'.2 i a).trans (h.2 i a)⟩
def rS (g : Int → Int) (n : Nat) (a : Int × List Nat) (σ : MM) : Prop := σ 58 12 = a.1 ∧ cHold σ 64 n a
theorem oAg_full {g w : Int → Int} {n : Nat} {p : List Nat} (h : oAg g n p w) (hp : p.length = n) : w = sOrd g p := by
  funext i
  by_cases c : 20 ≤ i ∧ i < 20 + (p.length : Int)
  · have := h.2 (i - 20) (by omega) (by omega)
    rw [show 20 + (i - 20) = i by omega] at this
    rw [this]
    unfold sOrd
    rw [if_pos c]
  · rw [sOrd_out c, h.1 i (by omega)]
theorem X6_orders_L47_eq {f : Int → Int → MM → Option MM} {k : MM → Option MM} {n : Nat} (hn : n ≤ 8) : ∀ (N : Nat) (x : Int) (σ : MM), σ 59 0 = n → 0 ≤ x → x ≤ n → n - x < N →
    ∃ σ' : MM, X6_orders_L47 f k N x σ = k σ' ∧ (∀ j : Nat, j ≠ 64 → σ' j = σ j) ∧ ∀ i : Int, 0 ≤ i → i < n → σ' 64 i = if x ≤ i then σ 59 (20 + i) else σ 64 i := by
  intro N
  induction N with
  | zero => intro x σ h0 h1 h2 h3; omega
  | succ N ih =>
    intro x σ h0 h1 h2 h3
    rw [X6_orders_L47]
    by_cases c : x < σ 59 0
    · rw [if_pos c, gd_t (by omega), gd_t (by omega), mlet_eq]
      obtain ⟨σ', q1, q2, q3⟩ := ih (x + 1) (zup σ 64 x (σ 59 (20 + x))) (by rw [zup_ne (by decide)]; exact h0) (by omega) (by omega) (by omega)
      refine ⟨σ', q1, fun j hj => by rw [q2 j hj, zup_ne hj], fun i a b => ?_⟩
      rw [q3 i a b, zup_ne (by decide), zup_at]
      by_cases e : i = x
      · rw [if_neg (by omega), if_pos e, if_pos (by omega), e]
      · rw [if_neg e]
        by_cases e2 : x ≤ i
        · rw [if_pos (by omega), if_pos e2]
        · rw [if_neg (by omega), if_neg e2]
    · rw [if_neg c]
      exact ⟨σ, rfl, fun _ _ => rfl, fun i a b => by rw [if_neg (by omega)]⟩
theorem X6_orders_leaf {g : Int → Int} {n : Nat} (hI : sInv0 g) (hn : g 0 = n) {N : Nat} {p : List Nat} {m : Int} {σ : MM} {a : Int × List Nat} (hp : isP n p) (hg : σ 59 = sOrd g p) (hS : rS g n a σ) :
    ∃ σ' : MM, X6_orders (N + 1) (p.length : Int) m σ = some σ' ∧ frO σ σ' ∧ σ' 59 = σ 59 ∧ rS g n (con g a p) σ' := by
  have hn8 := hI.1.1
  have hI' := sOrd_inv hI hn hp
  have hb := sDel_b hI' (-1)
  have e0 : σ 59 0 = n := by rw [hg, sOrd_out (by omega), hn]
  obtain ⟨s1, s2, s3⟩ := hS
  rw [X6_orders, if_pos (by rw [e0, hp.1]), X6_isAllowed_eq (by rw [hg]; exact hI'), Option.bind_some, hg]
  have copy : ∀ M : Nat, 8 < M → ∃ σ' : MM, X6_orders_L47 (X6_orders N) (fun σ31 => some σ31) M 0 (zup σ 58 12 (sDel (sOrd g p) (-1))) = some σ' ∧ frO σ σ' ∧ σ' 59 = sOrd g p ∧ rS g n (sDel (sOrd g p) (-1), p) σ' := by
    intro M hM
    obtain ⟨σ', q1, q2, q3⟩ := X6_orders_L47_eq (f := X6_orders N) (k := fun σ31 => some σ31) (n := n) (by omega) M 0 (zup σ 58 12 (sDel (sOrd g p) (-1))) (by rw [zup_ne (by decide)]; exact e0) (by omega) (by omega) (by omega)
    refine ⟨σ', q1, ⟨fun j u v w => by rw [q2 j w, zup_ne u], fun i hi => by rw [q2 58 (by decide), zup_i hi]⟩, by rw [q2 59 (by decide), zup_ne (by decide), hg], by rw [q2 58 (by decide), zup_s], Or.inr hb, fun _ i u v => ?_⟩
    rw [q3 i u v, if_pos u, zup_ne (by decide), hg, sOrd_in (by rw [hp.1]; exact ⟨u, v⟩)]
  by_cases c : sAl (sOrd g p)
  · rw [if_pos c, if_neg (by decide), s1]
    by_cases c1 : a.1 < 0
    · rw [if_pos c1, X6_delayBut_eq (by rw [hg]; exact hI'), Option.bind_some, hg, mlet_eq, show con g a p = (sDel (sOrd g p) (-1), p) from if_pos ⟨c, Or.inl c1⟩]
      exact copy 100000 (by omega)
    · rw [if_neg c1, X6_delayBut_eq (by rw [hg]; exact hI'), Option.bind_some, hg]
      by_cases c2 : sDel (sOrd g p) (-1) < a.1
      · rw [if_pos c2, Option.bind_some, mlet_eq, show con g a p = (sDel (sOrd g p) (-1), p) from if_pos ⟨c, Or.inr c2⟩]
        exact copy 100000 (by omega)
      · rw [if_neg c2, show con g a p = a from if_neg (fun q => q.2.elim c1 c2)]
        exact ⟨σ, rfl, frO.rf, hg, s1, s2, s3⟩
  · rw [if_neg c, if_pos rfl, show con g a p = a from if_neg (fun q => c q.1)]
    exact ⟨σ, rfl, frO.rf, hg, s1, s2, s3⟩
theorem X6_orders_eq {g : Int → Int} {n : Nat} (hI : sInv0 g) (hn : g 0 = n) : ∀ (r N : Nat) (p : List Nat) (z : Int) (σ : MM) (a : Int × List Nat), r + p.length = n → r < N → (∀ q ∈ pmL n r p, isP n q) → oAg g n p (σ 59) → (∀ t : Int, 0 ≤ t → t < n → (bt z t ↔ t.toNat ∈ p)) → rS g n a σ →
    ∃ σ' : MM, X6_orders N (p.length : Int) z σ = some σ' ∧ frO σ σ' ∧ oAg g n p (σ' 59) ∧ rS g n ((pmL n r p).foldl (con g) a) σ' := by
  have hn8 := hI.1.1
  intro r
  induction r with
  | zero =>
    intro N p z σ a h1 h2 h3 h4 h5 h6
    obtain ⟨N, rfl⟩ : ∃ M, N = M + 1 := ⟨N - 1, by omega⟩
    obtain ⟨σ', q1, q2, q3, q4⟩ := X6_orders_leaf (N := N) (m := z) hI hn (h3 p (List.mem_singleton.mpr rfl)) (oAg_full h4 (by omega)) h6
    exact ⟨σ', q1, q2, by rw [q3]; exact h4, q4⟩
  | succ r ih =>
    intro N p z σ a h1 h2 h3 h4 h5 h6
    obtain ⟨N, rfl⟩ : ∃ M, N = M + 1 := ⟨N - 1, by omega⟩
    have e0 : ∀ w : Int → Int, oAg g n p w → w 0 = n := fun w h => by rw [h.1 0 (by omega), hn]
    rw [X6_orders, if_neg (by rw [e0 _ h4]; omega)]
    have loop : ∀ (m M : Nat) (lo : Nat) (σ : MM) (a : Int × List Nat), lo + m = n → m < M → oAg g n p (σ 59) → rS g n a σ → (∀ s, lo ≤ s → s < n → ¬ p.contains s = true → ∀ q ∈ pmL n r (p ++ [s]), isP n q) →
        ∃ σ' : MM, X6_orders_L81 (X6_orders N) (p.length : Int) z (fun σ12 => some σ12) M (lo : Int) σ = some σ' ∧ frO σ σ' ∧ oAg g n p (σ' 59) ∧ rS g n (((List.range' lo m).flatMap (fun s => if p.contains s then [] else pmL n r (p ++ [s]))).foldl (con g) a) σ' := by
      intro m
      induction m with
      | zero =>
        intro M lo σ a k1 k2 k3 k4 k5
        obtain ⟨M, rfl⟩ : ∃ M', M = M' + 1 := ⟨M - 1, by omega⟩
        rw [X6_orders_L81, if_neg (by rw [e0 _ k3]; omega)]
        exact ⟨σ, rfl, frO.rf, k3, k4⟩
      | succ m im =>
        intro M lo σ a k1 k2 k3 k4 k5
        obtain ⟨M, rfl⟩ : ∃ M', M = M' + 1 := ⟨M - 1, by omega⟩
        have hlo : 0 ≤ (lo : Int) ∧ (lo : Int) < 8 := by omega
        have hb := h5 (lo : Int) (by omega) (by omega)
        rw [Int.toNat_natCast] at hb
        rw [X6_orders_L81, if_pos (by rw [e0 _ k3]; omega), List.range'_succ, List.flatMap_cons, List.foldl_append]
        by_cases c : lo ∈ p
        · rw [if_neg (by rw [bt_no hlo]; exact fun q => q (hb.mpr c)), if_pos (by simpa using c)]
          exact im M (lo + 1) σ a (by omega) (by omega) k3 k4 (fun s u v => k5 s (by omega) v)
        · have cc : ¬ p.contains lo = true := by simpa using c
          rw [if_pos (by rw [bt_no hlo]; exact fun q => c (hb.mp q)), if_neg cc, gd_t (by omega), mlet_eq]
          have ag : oAg g n (p ++ [lo]) (zup σ 59 (20 + (p.length : Int)) (lo : Int) 59) := by
            rw [zup_row]
            refine ⟨fun i hi => by rw [gup_n (by omega)]; exact k3.1 i hi, fun i u v => ?_⟩
            rw [List.length_append] at v
            have v' : i < (p.length : Int) + 1 := by simpa using v
            by_cases e : i = p.length
            · rw [e, gup_s]
              unfold ogN
              rw [Int.toNat_natCast]
              simp
            · rw [gup_n (by omega), k3.2 i u (by omega)]
              unfold ogN
              rw [List.getD_eq_getElem?_getD, List.getD_eq_getElem?_getD, List.getElem?_append_left (by omega)]
          obtain ⟨σ1, q1, q2, q3, q4⟩ := ih N (p ++ [lo]) (jor z (jshl 1 (lo : Int))) (zup σ 59 (20 + (p.length : Int)) (lo : Int)) a (by rw [List.length_append]; simp only [List.length_singleton]; omega) (by omega) (k5 lo (Nat.le_refl _) (by omega) cc) ag (fun t u v => by
            rw [bt_or (by omega), bt_shl hlo (by omega), h5 t u v, List.mem_append, List.mem_singleton]
            constructor
            · rintro (q | q)
              · exact Or.inl q
              · exact Or.inr (by omega)
            · rintro (q | q)
              · exact Or.inl q
              · exact Or.inr (by omega)) ⟨by rw [zup_ne (by decide)]; exact k4.1, k4.2.1, by rw [zup_ne (by decide)]; exact k4.2.2⟩
          have el : ((p ++ [lo]).length : Int) = (p.length : Int) + 1 := by rw [List.length_append]; simp
          rw [el] at q1
          have k3' : oAg g n p (σ1 59) := ⟨q3.1, fun i u v => by
            rw [q3.2 i u (by omega)]
            unfold ogN
            rw [List.getD_eq_getElem?_getD, List.getD_eq_getElem?_getD, List.getElem?_append_left (by omega)]⟩
          obtain ⟨σ2, u1, u2, u3, u4⟩ := im M (lo + 1) σ1 ((pmL n r (p ++ [lo])).foldl (con g) a) (by omega) (by omega) k3' q4 (fun s u v => k5 s (by omega) v)
          refine ⟨σ2, ?_, ?_, u3, u4⟩
          · rw [q1, Option.bind_some]
            exact u1
          · refine frO.tr (frO.tr ⟨fun j u v w => ?_, fun i hi => ?_⟩ q2) u2
            · exact zup_ne v
            · rw [zup_ne (by decide)]
    have h3' : ∀ s, 0 ≤ s → s < n → ¬ p.contains s = true → ∀ q ∈ pmL n r (p ++ [s]), isP n q := fun s u v c q hq => h3 q (by
      rw [pmL, List.mem_flatMap]
      exact ⟨s, by rw [List.mem_range']; exact ⟨s, v, by omega⟩, by rw [if_neg c]; exact hq⟩)
    have hh : ∀ M : Nat, n < M → ∃ σ' : MM, X6_orders_L81 (X6_orders N) (p.length : Int) z (fun σ12 => some σ12) M 0 σ = some σ' ∧ frO σ σ' ∧ oAg g n p (σ' 59) ∧ rS g n ((pmL n (r + 1) p).foldl (con g) a) σ' := fun M hM => loop n M 0 σ a (by omega) hM h4 h6 h3'
    exact hh 100000 (by omega)
