/-! what a search leaves: the best order is one of them, and one is found -/
theorem con_good {g : Int → Int} {n : Nat} (hI : sInv0 g) (hn : g 0 = n) : ∀ (L : List (List Nat)) (a : Int × List Nat), (∀ p ∈ L, isP n p) → (a.1 < 0 ∨ (isP n a.2 ∧ sAl (sOrd g a.2))) →
    ((L.foldl (con g) a).1 < 0 ∨ (isP n (L.foldl (con g) a).2 ∧ sAl (sOrd g (L.foldl (con g) a).2))) ∧ ((0 ≤ a.1 ∨ ∃ p ∈ L, sAl (sOrd g p)) → 0 ≤ (L.foldl (con g) a).1) := by
  intro L
  induction L with
  | nil =>
    intro a _ h
    refine ⟨h, fun q => ?_⟩
    rcases q with q | ⟨p, h1, -⟩
    · exact q
    · cases h1
  | cons p L ih =>
    intro a hL h
    have hp := hL p (List.mem_cons_self)
    have hb := (sDel_b (sOrd_inv hI hn hp) (-1)).1
    rw [List.foldl_cons]
    have good : (con g a p).1 < 0 ∨ (isP n (con g a p).2 ∧ sAl (sOrd g (con g a p).2)) := by
      unfold con
      split
      · rename_i c
        exact Or.inr ⟨hp, c.1⟩
      · exact h
    obtain ⟨v1, v2⟩ := ih (con g a p) (fun q hq => hL q (List.mem_cons_of_mem _ hq)) good
    refine ⟨v1, fun q => v2 ?_⟩
    have stay : 0 ≤ a.1 ∨ sAl (sOrd g p) → 0 ≤ (con g a p).1 := by
      intro w
      unfold con
      split
      · exact hb
      · rename_i c
        rcases w with w | w
        · exact w
        · by_cases e : a.1 < 0
          · exact absurd ⟨w, Or.inl e⟩ c
          · show 0 ≤ a.1
            omega
    rcases q with q | ⟨r, h1, h2⟩
    · exact Or.inl (stay (Or.inl q))
    · rcases List.mem_cons.mp h1 with e | e
      · exact Or.inl (stay (Or.inr (e ▸ h2)))
      · exact Or.inr ⟨r, e, h2⟩
def sSea (g : Int → Int) (n : Nat) : Int × List Nat := (pmL n n []).foldl (con g) (-1, [])
def oL (g : Int → Int) (n : Nat) : List Nat := (List.range n).map (fun k : Nat => (g (20 + (k : Int))).toNat)
theorem oL_at {g : Int → Int} {n k : Nat} (h : k < n) : (oL g n).getD k 0 = (g (20 + (k : Int))).toNat := by
  unfold oL
  rw [List.getD_eq_getElem?_getD, List.getElem?_map, List.getElem?_range h]
  rfl
theorem oL_len (g : Int → Int) (n : Nat) : (oL g n).length = n := by
  unfold oL
  rw [List.length_map, List.length_range]
theorem sSea_good {g : Int → Int} {n : Nat} (hI : sInv g) (hn : g 0 = n) (h6 : n ≤ 6) : 0 ≤ (sSea g n).1 ∧ isP n (sSea g n).2 ∧ sInv (sOrd g (sSea g n).2) := by
  have hP : ∀ p ∈ pmL n n [], isP n p := by
    rw [← itr_pm h6]
    exact itr_isP 720 _ (range_isP n)
  obtain ⟨v1, v2⟩ := con_good hI.1 hn (pmL n n []) (-1, []) hP (Or.inl (by decide))
  have mem : oL g n ∈ pmL n n [] := by
    have := pm_mem (n := n) n [] (oL g n) (oL_len g n) (fun x hx => by
      unfold oL at hx
      obtain ⟨k, h1, rfl⟩ := List.mem_map.mp hx
      have h1 := List.mem_range.mp h1
      have := hI.1.2.2.1 (k : Int) (by omega) (by omega)
      omega) (by
      rw [List.nil_append]
      unfold oL
      refine List.pairwise_map.mpr (List.Pairwise.imp_of_mem (fun {x y} hx hy hne h => ?_) (List.nodup_range (n := n)))
      have hx := List.mem_range.mp hx
      have hy := List.mem_range.mp hy
      have a1 := hI.1.2.2.1 (x : Int) (by omega) (by omega)
      have a2 := hI.1.2.2.1 (y : Int) (by omega) (by omega)
      have := hI.1.2.2.2.1 (x : Int) (y : Int) (by omega) (by omega) (by omega) (by omega) (by omega)
      omega)
    rwa [List.nil_append] at this
  have hs : sOrd g (oL g n) = g := by
    funext i
    unfold sOrd
    rw [oL_len]
    by_cases c : 20 ≤ i ∧ i < 20 + (n : Int)
    · rw [if_pos c]
      unfold ogN
      rw [oL_at (by omega)]
      have a1 := hI.1.2.2.1 (i - 20) (by omega) (by omega)
      rw [show (20 : Int) + ((i - 20).toNat : Int) = 20 + (i - 20) by omega]
      rw [show 20 + (i - 20) = i by omega] at a1 ⊢
      omega
    · rw [if_neg c]
  have pos := v2 (Or.inr ⟨oL g n, mem, by rw [hs]; exact (sAl_inv hI.1).mpr hI⟩)
  refine ⟨pos, ?_⟩
  rcases v1 with v | v
  · exact absurd pos (by omega)
  · exact ⟨v.1, (sAl_inv (sOrd_inv hI.1 hn v.1)).mp v.2⟩
theorem X1_search_L10_eq {n : Nat} (hn : n ≤ 8) {b : Nat} {k : MM → Option MM} : ∀ (N : Nat) (x : Int) (σ : MM), σ 39 0 = n → 0 ≤ x → x ≤ n → n - x < N →
    ∃ σ' : MM, X1_search_L10 b k N x σ = k σ' ∧ (∀ j : Nat, j ≠ 41 → j ≠ 42 → σ' j = σ j) ∧ ∀ i : Int, 0 ≤ i → i < n → σ' 41 i = (if x ≤ i then i else σ 41 i) ∧ σ' 42 i = (if x ≤ i then i else σ 42 i) := by
  intro N
  induction N with
  | zero => intro x σ h0 h1 h2 h3; omega
  | succ N ih =>
    intro x σ h0 h1 h2 h3
    rw [X1_search_L10]
    by_cases c : x < σ 39 0
    · rw [if_pos c, X0_place_eq ⟨h1, c⟩ ⟨h1, c⟩ (by omega), Option.bind_some]
      obtain ⟨σ', q1, q2, q3⟩ := ih (x + 1) (zup (zup σ (39 + 3) x x) (39 + 2) x x) (by rw [zup_ne (by decide), zup_ne (by decide)]; exact h0) (by omega) (by omega) (by omega)
      refine ⟨σ', q1, fun j a b => by rw [q2 j a b, zup_ne (by omega), zup_ne (by omega)], fun i a b => ?_⟩
      obtain ⟨w1, w2⟩ := q3 i a b
      have e1 : zup (zup σ (39 + 3) x x) (39 + 2) x x 41 i = if i = x then x else σ 41 i := by
        show zup (zup σ 42 x x) 41 x x 41 i = _
        rw [zup_at, zup_ne (by decide)]
      have e2 : zup (zup σ (39 + 3) x x) (39 + 2) x x 42 i = if i = x then x else σ 42 i := by
        show zup (zup σ 42 x x) 41 x x 42 i = _
        rw [zup_ne (by decide), zup_at]
      rw [w1, w2, e1, e2]
      by_cases e : i = x
      · rw [if_neg (by omega), if_pos e, if_pos (by omega), if_neg (by omega), if_pos e, if_pos (by omega), e]
        exact ⟨rfl, rfl⟩
      · rw [if_neg e, if_neg e]
        by_cases e2 : x ≤ i
        · rw [if_pos (by omega), if_pos e2, if_pos (by omega), if_pos e2]
          exact ⟨rfl, rfl⟩
        · rw [if_neg (by omega), if_neg e2, if_neg (by omega), if_neg e2]
          exact ⟨rfl, rfl⟩
    · rw [if_neg c]
      exact ⟨σ, rfl, fun _ _ _ => rfl, fun i a b => ⟨by rw [if_neg (by omega)], by rw [if_neg (by omega)]⟩⟩
theorem X1_search_eq {g : Int → Int} {n : Nat} (hI : sInv0 g) (hn : g 0 = n) (h6 : n ≤ 6) {σ : MM} (hR : sRL σ 1 g) (hK : sKB σ 1) :
    ∃ σ' : MM, X1_search 1 σ = some σ' ∧ (∀ k : Nat, ¬ (38 ≤ k ∧ k ≤ 50) → σ' k = σ k) ∧ cS n (sSea g n) σ' := by
  obtain ⟨σ1, q1, q2, -, q4⟩ := X0_copyFrom_eq (b := 39) (b2 := 1) (Or.inr (by decide)) hK
  have hR1 := q4 g hI hR
  have key : ∀ N1 N2 : Nat, 8 < N1 → 720 < N2 → ∃ σ' : MM, X1_search_L10 1 (fun σ9 => X1_search_L45 1 (fun σ21 => some σ21) N2 1 0 (zup σ9 38 2 (-1))) N1 0 σ1 = some σ' ∧ (∀ k : Nat, ¬ (38 ≤ k ∧ k ≤ 50) → σ' k = σ k) ∧ cS n (sSea g n) σ' := by
    intro N1 N2 h1 h2
    obtain ⟨σ2, u1, u2, u3⟩ := X1_search_L10_eq (n := n) (by omega) (b := 1) (k := fun σ9 => X1_search_L45 1 (fun σ21 => some σ21) N2 1 0 (zup σ9 38 2 (-1))) N1 0 σ1 (by rw [hR1.1, hn]) (by omega) (by omega) (by omega)
    have hp := range_isP n
    have hR2 : sRL (zup σ2 38 2 (-1)) 39 (sOrd g (List.range' 0 n)) := by
      refine sRL_ord hI hR1 (sOrd_o (by omega) hp.1) (fun s a b => ?_) (fun j a b c d => by rw [zup_ne (by omega), u2 _ (by omega) (by omega)])
      obtain ⟨k, rfl⟩ : ∃ k : Nat, s = k := ⟨s.toNat, by omega⟩
      obtain ⟨w1, w2⟩ := u3 k a (by omega)
      have w3 := sOrd_plc hI hn hp (k := k) (by omega)
      rw [range_at (by omega)] at w3
      rw [zup_ne (by decide), zup_ne (by decide), w3, sOrd_at hp.1 (by omega), range_at (by omega)]
      rw [if_pos a] at w1 w2
      exact ⟨w1, w2⟩
    obtain ⟨σ3, v1, v2, v3⟩ := X1_search_L45_eq hI hn (b := 1) (kk := fun σ21 => some σ21) 720 N2 0 (List.range' 0 n) (zup σ2 38 2 (-1)) (-1, []) h2 (by omega) hp hR2 ⟨zup_s, Or.inl rfl, fun h => absurd h (by decide)⟩
    rw [itr_pm h6] at v3
    exact ⟨σ3, u1.trans v1, fun k hk => by rw [v2 k hk, zup_ne (by omega), u2 k (by omega) (by omega), q2 k (by omega)], v3⟩
  unfold X1_search
  rw [q1, Option.bind_some]
  simp only [mlet_eq]
  exact key 100000 100000 (by omega) (by omega)
theorem X6_searches_L2_eq {k : MM → Option MM} : ∀ (N : Nat) (x : Int) (σ : MM), 0 ≤ x → x ≤ 8 → 8 - x < N →
    ∃ σ' : MM, X6_searches_L2 k N x σ = k σ' ∧ (∀ j : Nat, j ≠ 63 → σ' j = σ j) ∧ ∀ i : Int, 0 ≤ i → i < 8 → σ' 63 i = if x ≤ i then σ 59 (20 + i) else σ 63 i := by
  intro N
  induction N with
  | zero => intro x σ h1 h2 h3; omega
  | succ N ih =>
    intro x σ h1 h2 h3
    rw [X6_searches_L2]
    by_cases c : x < 8
    · rw [if_pos c, gd_t (by omega), gd_t (by omega), mlet_eq]
      obtain ⟨σ', q1, q2, q3⟩ := ih (x + 1) (zup σ 63 x (σ 59 (20 + x))) (by omega) (by omega) (by omega)
      refine ⟨σ', q1, fun j hj => by rw [q2 j hj, zup_ne hj], fun i a b => ?_⟩
      rw [q3 i a b, zup_ne (by decide), zup_at]
      by_cases e : i = x
      · rw [if_neg (by omega), if_pos e, if_pos (by omega), e]
      · rw [if_neg e]
        by_cases e2 : x ≤ i
        · rw [if_pos (by omega), if_pos e2]
        · rw [if_neg (by omega), if_neg e2]
    · rw [if_neg c]
      exact ⟨σ, rfl, fun _ _ => rfl, fun i a b => by rw [if_neg (by omega)]⟩
theorem X6_searches_L42_eq {k : MM → Option MM} : ∀ (N : Nat) (x : Int) (σ : MM), 0 ≤ x → x ≤ 8 → 8 - x < N →
    ∃ σ' : MM, X6_searches_L42 k N x σ = k σ' ∧ (∀ j : Nat, j ≠ 59 → σ' j = σ j) ∧ ∀ i : Int, σ' 59 i = if 20 + x ≤ i ∧ i < 28 then σ 63 (i - 20) else σ 59 i := by
  intro N
  induction N with
  | zero => intro x σ h1 h2 h3; omega
  | succ N ih =>
    intro x σ h1 h2 h3
    rw [X6_searches_L42]
    by_cases c : x < 8
    · rw [if_pos c, gd_t (by omega), mlet_eq]
      obtain ⟨σ', q1, q2, q3⟩ := ih (x + 1) (zup σ 59 (20 + x) (σ 63 x)) (by omega) (by omega) (by omega)
      refine ⟨σ', q1, fun j hj => by rw [q2 j hj, zup_ne hj], fun i => ?_⟩
      rw [q3 i, zup_ne (by decide), zup_at]
      by_cases e : i = 20 + x
      · rw [if_neg (by omega), if_pos e, if_pos (by omega), e, show 20 + x - 20 = x by omega]
      · rw [if_neg e]
        by_cases e2 : 20 + x ≤ i ∧ i < 28
        · rw [if_pos (by omega), if_pos e2]
        · rw [if_neg (by omega), if_neg e2]
    · rw [if_neg c]
      exact ⟨σ, rfl, fun _ _ => rfl, fun i => by rw [if_neg (by omega)]⟩
theorem X6_searches_eq {g : Int → Int} {n : Nat} (hI : sInv0 g) (hn : g 0 = n) (h6 : n ≤ 6) {σ : MM} (hg : σ 59 = g) :
    ∃ σ' : MM, X6_searches σ = some σ' ∧ (∀ j : Nat, j ≠ 58 → j ≠ 63 → j ≠ 64 → σ' j = σ j) ∧ (∀ i : Int, i ≠ 12 → σ' 58 i = σ 58 i) ∧ (∀ i : Int, 0 ≤ i → i < 8 → σ' 63 i = g (20 + i)) ∧ rS g n (sSea g n) σ' := by
  have hP : ∀ p ∈ pmL n n [], isP n p := by
    rw [← itr_pm h6]
    exact itr_isP 720 _ (range_isP n)
  have key : ∀ N1 N2 N3 : Nat, 8 < N1 → n < N2 → 8 < N3 → ∃ σ' : MM, X6_searches_L2 (fun σ7 => (X6_orders N2 0 0 (zup σ7 58 12 (-1))).bind fun σ12 => X6_searches_L42 (fun σ18 => some σ18) N3 0 σ12) N1 0 σ = some σ' ∧ (∀ j : Nat, j ≠ 58 → j ≠ 63 → j ≠ 64 → σ' j = σ j) ∧ (∀ i : Int, i ≠ 12 → σ' 58 i = σ 58 i) ∧ (∀ i : Int, 0 ≤ i → i < 8 → σ' 63 i = g (20 + i)) ∧ rS g n (sSea g n) σ' := by
    intro N1 N2 N3 h1 h2 h3
    obtain ⟨σ1, q1, q2, q3⟩ := X6_searches_L2_eq (k := fun σ7 => (X6_orders N2 0 0 (zup σ7 58 12 (-1))).bind fun σ12 => X6_searches_L42 (fun σ18 => some σ18) N3 0 σ12) N1 0 σ (by omega) (by omega) (by omega)
    have e59 : zup σ1 58 12 (-1) 59 = g := by rw [zup_ne (by decide), q2 59 (by decide)]; exact hg
    obtain ⟨σ2, u1, u2, u3, u4⟩ := X6_orders_eq hI hn n N2 [] 0 (zup σ1 58 12 (-1)) (-1, []) (by simp) h2 hP ⟨fun i _ => by rw [e59], fun i a b => absurd b (by simp; omega)⟩ (fun t a b => ⟨fun h => absurd h (bt_0 (by omega)), fun h => by cases h⟩) ⟨zup_s, Or.inl rfl, fun h => absurd h (by decide)⟩
    obtain ⟨σ3, w1, w2, w3⟩ := X6_searches_L42_eq (k := fun σ18 => some σ18) N3 0 σ2 (by omega) (by omega) (by omega)
    have e63 : ∀ i : Int, 0 ≤ i → i < 8 → σ2 63 i = g (20 + i) := fun i a b => by rw [u2.1 63 (by decide) (by decide) (by decide), zup_ne (by decide), q3 i a b, if_pos a, hg]
    refine ⟨σ3, ?_, fun j a b c => ?_, fun i a => ?_, fun i a b => by rw [w2 63 (by decide)]; exact e63 i a b, by rw [w2 58 (by decide)]; exact u4.1, u4.2.1, by rw [w2 64 (by decide)]; exact u4.2.2⟩
    · rw [q1]
      show (X6_orders N2 0 0 (zup σ1 58 12 (-1))).bind _ = _
      rw [show X6_orders N2 0 0 (zup σ1 58 12 (-1)) = some σ2 from u1, Option.bind_some]
      exact w1
    · by_cases e : j = 59
      · rw [e, hg]
        funext i
        rw [w3 i]
        by_cases c : 20 + 0 ≤ i ∧ i < 28
        · rw [if_pos c, e63 _ (by omega) (by omega), show 20 + (i - 20) = i by omega]
        · rw [if_neg c]
          exact u3.1 i (by omega)
      · rw [w2 j e, u2.1 j a e c, zup_ne a, q2 j b]
    · rw [w2 58 (by decide), u2.2 i a, zup_i a, q2 58 (by decide)]
  unfold X6_searches
  simp only [mlet_eq]
  exact key 100000 8 100000 (by omega) (by omega) (by omega)
