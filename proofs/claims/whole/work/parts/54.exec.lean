/-! execute: what the text says, of the row g -/
def ch (w : Int → Int) (L p : Int) : Int := if p < L then w p else 0
def dgt (c : Int) : Int := if 48 ≤ c ∧ c ≤ 57 then c - 48 else -1
def addS (g : Int → Int) (c : Int) : Int → Int := gup (gup (gup g (10 + g 0) c) (20 + g 0) (g 0)) 0 (g 0 + 1)
def addD (g : Int → Int) (k s t f : Int) : Int → Int := gup (gup (gup (gup (gup (gup g (30 + 5 * g 1 + 0) k) (30 + 5 * g 1 + 1) s) (30 + 5 * g 1 + 2) t) (30 + 5 * g 1 + 3) f) (30 + 5 * g 1 + 4) 1) 1 (g 1 + 1)
def rdS (w : Int → Int) (L p : Int) (g : Int → Int) : Int × Int × (Int → Int) :=
  if g 0 < 8 then
    if dgt (ch w L (p + 1)) < 1 then (0, p + 1, g)
    else if ch w L (p + 2) = 59 then (1, p + 3, addS g (dgt (ch w L (p + 1)))) else (0, p + 2, g)
  else (0, p, g)
def rdD (w : Int → Int) (L k p : Int) (g : Int → Int) : Int × Int × (Int → Int) :=
  if g 1 < 16 then
    if 0 ≤ dgt (ch w L (p + 1)) ∧ dgt (ch w L (p + 1)) < g 0 then
      if ch w L (p + 2) = 62 then
        if 0 ≤ dgt (ch w L (p + 3)) ∧ dgt (ch w L (p + 3)) < g 0 then
          if ch w L (p + 4) = 58 then
            if 0 ≤ dgt (ch w L (p + 5)) ∧ dgt (ch w L (p + 5)) ≤ 5 then
              if dgt (ch w L (p + 5)) = 0 ∧ ¬ plc g (dgt (ch w L (p + 1))) < plc g (dgt (ch w L (p + 3))) then (0, p + 5, g)
              else if ch w L (p + 6) = 59 then (1, p + 7, addD g k (dgt (ch w L (p + 1))) (dgt (ch w L (p + 3))) (dgt (ch w L (p + 5)))) else (0, p + 6, g)
            else (0, p + 5, g)
          else (0, p + 4, g)
        else (0, p + 3, g)
      else (0, p + 2, g)
    else (0, p + 1, g)
  else (0, p, g)
def rd (w : Int → Int) (L p : Int) (g : Int → Int) : Int × Int × (Int → Int) :=
  if ch w L p = 115 then rdS w L p g
  else if ch w L p = 97 then rdD w L 1 p g
  else if ch w L p = 102 then rdD w L 0 p g
  else if ch w L p = 111 then rdD w L 2 p g
  else (0, p, g)
def rdA (w : Int → Int) (L : Int) : Nat → Int → (Int → Int) → Int → Int × Int × (Int → Int)
  | 0, p, g, _ => (-1, p, g)
  | f + 1, p, g, c =>
    if (rd w L p g).1 = 0 then (-1, (rd w L p g).2.1, (rd w L p g).2.2)
    else if (rd w L p g).2.1 < L then rdA w L f (rd w L p g).2.1 (rd w L p g).2.2 (c + 1)
    else (c + 1, (rd w L p g).2.1, (rd w L p g).2.2)
theorem dgt_b (c : Int) : -1 ≤ dgt c ∧ dgt c ≤ 9 := by
  unfold dgt
  split <;> omega
theorem addS_at {g : Int → Int} {c i : Int} : addS g c i = if i = 0 then g 0 + 1 else if i = 20 + g 0 then g 0 else if i = 10 + g 0 then c else g i := rfl
theorem addD_at {g : Int → Int} {k s t f i : Int} : addD g k s t f i = if i = 1 then g 1 + 1 else if i = 30 + 5 * g 1 + 4 then 1 else if i = 30 + 5 * g 1 + 3 then f else if i = 30 + 5 * g 1 + 2 then t else if i = 30 + 5 * g 1 + 1 then s else if i = 30 + 5 * g 1 + 0 then k else g i := rfl
theorem addS_0 {g : Int → Int} {c : Int} : addS g c 0 = g 0 + 1 := by rw [addS_at, if_pos rfl]
theorem addS_n {g : Int → Int} {c i : Int} (h0 : i ≠ 0) (h1 : i ≠ 20 + g 0) (h2 : i ≠ 10 + g 0) : addS g c i = g i := by
  rw [addS_at, if_neg h0, if_neg h1, if_neg h2]
theorem addS_p {g : Int → Int} {c : Int} (h : 0 ≤ g 0) : addS g c (20 + g 0) = g 0 := by
  rw [addS_at, if_neg (by omega), if_pos rfl]
theorem addS_c {g : Int → Int} {c : Int} (h : 0 ≤ g 0) : addS g c (10 + g 0) = c := by
  rw [addS_at, if_neg (by omega), if_neg (by omega), if_pos rfl]
theorem addS_inv0 {g : Int → Int} (hI : sInv0 g) {c : Int} (hn : g 0 < 8) (hc : 1 ≤ c ∧ c ≤ 9) : sInv0 (addS g c) := by
  obtain ⟨h1, h2, h3, h4, h5, h6⟩ := hI
  have z0 := h1.1.1
  have o : ∀ i : Int, i ≠ 0 → i ≠ 20 + g 0 → i ≠ 10 + g 0 → addS g c i = g i := fun i a b d => addS_n a b d
  refine ⟨?_, fun s a b => ?_, fun p a b => ?_, fun p q a b d e f => ?_, fun s a b => ?_, fun d a b => ?_⟩
  · rw [addS_0, o 1 (by omega) (by omega) (by omega), o 2 (by omega) (by omega) (by omega), o 3 (by omega) (by omega) (by omega), o 4 (by omega) (by omega) (by omega), o 5 (by omega) (by omega) (by omega)]
    exact ⟨by omega, h1.2⟩
  · rw [addS_0] at b
    by_cases e : s = g 0
    · rw [e, addS_c z0]
      exact hc
    · rw [o _ (by omega) (by omega) (by omega)]
      exact h2 s a (by omega)
  · rw [addS_0] at b ⊢
    by_cases e : p = g 0
    · rw [e, addS_p z0]
      omega
    · rw [o _ (by omega) (by omega) (by omega)]
      have := h3 p a (by omega)
      omega
  · rw [addS_0] at b e
    by_cases e1 : p = g 0
    · by_cases e2 : q = g 0
      · omega
      · rw [e1, addS_p z0, o _ (by omega) (by omega) (by omega)] at f
        have := h3 q d (by omega)
        omega
    · by_cases e2 : q = g 0
      · rw [e2, addS_p z0, o _ (by omega) (by omega) (by omega)] at f
        have := h3 p a (by omega)
        omega
      · rw [o _ (by omega) (by omega) (by omega), o _ (by omega) (by omega) (by omega)] at f
        exact h4 p q a (by omega) d (by omega) f
  · rw [addS_0] at b ⊢
    by_cases e : s = g 0
    · exact ⟨g 0, z0, by omega, by rw [addS_p z0, e]⟩
    · obtain ⟨p, a1, a2, a3⟩ := h5 s a (by omega)
      exact ⟨p, a1, by omega, by rw [o _ (by omega) (by omega) (by omega)]; exact a3⟩
  · rw [o 1 (by omega) (by omega) (by omega)] at b
    obtain ⟨d1, d2, d3, d4, d5⟩ := h6 d a b
    have k : ∀ x : Int, 0 ≤ x → addS g c (30 + 5 * d + x) = g (30 + 5 * d + x) := fun x hx => o _ (by omega) (by omega) (by omega)
    unfold sDep sKind sSrc sTgt sFar sKp at *
    rw [k 0 (by omega), k 1 (by omega), k 2 (by omega), k 3 (by omega), k 4 (by omega), addS_0]
    exact ⟨d1, by omega, by omega, d4, d5⟩
theorem addS_plc {g : Int → Int} (hI : sInv0 g) {c : Int} (hn : g 0 < 8) (hc : 1 ≤ c ∧ c ≤ 9) {s : Int} (h1 : 0 ≤ s) (h2 : s ≤ g 0) : plc (addS g c) s = if s = g 0 then g 0 else plc g s := by
  have z0 := hI.1.1.1
  have hI' := addS_inv0 hI hn hc
  by_cases e : s = g 0
  · rw [if_pos e, e]
    have := plc_of hI' (p := g 0) z0 (by rw [addS_0]; omega)
    rw [addS_p z0] at this
    exact this
  · obtain ⟨⟨a1, a2⟩, a3⟩ := plc_spec hI h1 (show s < g 0 by omega)
    have := plc_of hI' (p := plc g s) a1 (by rw [addS_0]; omega)
    rw [addS_n (by omega) (by omega) (by omega), a3] at this
    rw [if_neg e, this]
theorem addS_inv {g : Int → Int} (hI : sInv g) {c : Int} (hn : g 0 < 8) (hc : 1 ≤ c ∧ c ≤ 9) : sInv (addS g c) := by
  have z0 := hI.1.1.1.1
  refine ⟨addS_inv0 hI.1 hn hc, fun d a b e => ?_⟩
  rw [addS_n (by omega) (by omega) (by omega)] at b
  obtain ⟨d1, d2, d3, d4, d5⟩ := hI.1.2.2.2.2.2 d a b
  have e1 : sSrc (addS g c) d = sSrc g d := addS_n (by omega) (by omega) (by omega)
  have e2 : sTgt (addS g c) d = sTgt g d := addS_n (by omega) (by omega) (by omega)
  have e3 : sFar (addS g c) d = sFar g d := addS_n (by omega) (by omega) (by omega)
  rw [e1, e2, addS_plc hI.1 hn hc d2.1 (by omega), addS_plc hI.1 hn hc d3.1 (by omega), if_neg (by omega), if_neg (by omega)]
  exact hI.2 d a b (by rw [← e3]; exact e)
theorem addD_1 {g : Int → Int} {k s t f : Int} : addD g k s t f 1 = g 1 + 1 := by rw [addD_at, if_pos rfl]
theorem addD_n {g : Int → Int} {k s t f i : Int} (h1 : i ≠ 1) (h2 : ¬ (30 + 5 * g 1 ≤ i ∧ i ≤ 30 + 5 * g 1 + 4)) : addD g k s t f i = g i := by
  rw [addD_at, if_neg h1, if_neg (by omega), if_neg (by omega), if_neg (by omega), if_neg (by omega), if_neg (by omega)]
theorem addD_d {g : Int → Int} {k s t f : Int} (h : 0 ≤ g 1) : sKind (addD g k s t f) (g 1) = k ∧ sSrc (addD g k s t f) (g 1) = s ∧ sTgt (addD g k s t f) (g 1) = t ∧ sFar (addD g k s t f) (g 1) = f ∧ sKp (addD g k s t f) (g 1) = 1 := by
  unfold sKind sSrc sTgt sFar sKp
  refine ⟨?_, ?_, ?_, ?_, ?_⟩
  · rw [addD_at, if_neg (by omega), if_neg (by omega), if_neg (by omega), if_neg (by omega), if_neg (by omega), if_pos rfl]
  · rw [addD_at, if_neg (by omega), if_neg (by omega), if_neg (by omega), if_neg (by omega), if_pos rfl]
  · rw [addD_at, if_neg (by omega), if_neg (by omega), if_neg (by omega), if_pos rfl]
  · rw [addD_at, if_neg (by omega), if_neg (by omega), if_pos rfl]
  · rw [addD_at, if_neg (by omega), if_pos rfl]
theorem addD_o {g : Int → Int} {k s t f d : Int} (h : 0 ≤ d ∧ d < g 1) : sKind (addD g k s t f) d = sKind g d ∧ sSrc (addD g k s t f) d = sSrc g d ∧ sTgt (addD g k s t f) d = sTgt g d ∧ sFar (addD g k s t f) d = sFar g d ∧ sKp (addD g k s t f) d = sKp g d := by
  unfold sKind sSrc sTgt sFar sKp
  exact ⟨addD_n (by omega) (by omega), addD_n (by omega) (by omega), addD_n (by omega) (by omega), addD_n (by omega) (by omega), addD_n (by omega) (by omega)⟩
theorem addD_plc {g : Int → Int} (hm : 0 ≤ g 1) {k s t f : Int} (x : Int) : plc (addD g k s t f) x = plc g x := plc_congr (fun p a b => addD_n (by omega) (by omega)) x
theorem addD_inv {g : Int → Int} (hI : sInv g) {k s t f : Int} (hm : g 1 < 16) (hk : 0 ≤ k ∧ k ≤ 2) (hs : 0 ≤ s ∧ s < g 0) (ht : 0 ≤ t ∧ t < g 0) (hf : 0 ≤ f ∧ f ≤ 5) (hp : f = 0 → plc g s < plc g t) : sInv (addD g k s t f) := by
  obtain ⟨⟨h1, h2, h3, h4, h5, h6⟩, h7⟩ := hI
  have m0 := h1.2.1.1
  have hn := h1.1
  have o : ∀ i : Int, i ≠ 1 → i < 30 → addD g k s t f i = g i := fun i a b => addD_n a (by omega)
  have e0 : addD g k s t f 0 = g 0 := o 0 (by omega) (by omega)
  refine ⟨⟨?_, fun x a b => ?_, fun p a b => ?_, fun p q a b c d e => ?_, fun x a b => ?_, fun d a b => ?_⟩, fun d a b e => ?_⟩
  · rw [e0, addD_1, o 2 (by omega) (by omega), o 3 (by omega) (by omega), o 4 (by omega) (by omega), o 5 (by omega) (by omega)]
    exact ⟨hn, by omega, h1.2.2⟩
  · rw [e0] at b
    rw [o _ (by omega) (by omega)]
    exact h2 x a b
  · rw [e0] at b ⊢
    rw [o _ (by omega) (by omega)]
    exact h3 p a b
  · rw [e0] at b d
    rw [o _ (by omega) (by omega), o _ (by omega) (by omega)] at e
    exact h4 p q a b c d e
  · rw [e0] at b ⊢
    obtain ⟨p, a1, a2, a3⟩ := h5 x a b
    exact ⟨p, a1, a2, by rw [o _ (by omega) (by omega)]; exact a3⟩
  · rw [addD_1] at b
    unfold sDep
    rw [e0]
    by_cases c : d = g 1
    · obtain ⟨e1, e2, e3, e4, e5⟩ := addD_d (g := g) (k := k) (s := s) (t := t) (f := f) m0
      rw [c, e1, e2, e3, e4, e5]
      exact ⟨hk, hs, ht, hf, Or.inr rfl⟩
    · obtain ⟨e1, e2, e3, e4, e5⟩ := addD_o (g := g) (k := k) (s := s) (t := t) (f := f) (d := d) (by omega)
      rw [e1, e2, e3, e4, e5]
      exact h6 d a (by omega)
  · rw [addD_1] at b
    rw [addD_plc m0, addD_plc m0]
    by_cases c : d = g 1
    · obtain ⟨e1, e2, e3, e4, e5⟩ := addD_d (g := g) (k := k) (s := s) (t := t) (f := f) m0
      rw [c, e4] at e
      rw [c, e2, e3]
      exact hp e
    · obtain ⟨e1, e2, e3, e4, e5⟩ := addD_o (g := g) (k := k) (s := s) (t := t) (f := f) (d := d) (by omega)
      rw [e4] at e
      rw [e2, e3]
      exact h7 d a (by omega) e
/-- what one command leaves: the row is good, the position has gone on -/
def rdG (g0 : Int → Int) (p : Int) (z : Int × Int × (Int → Int)) : Prop := (z.1 = 0 ∨ (z.1 = 1 ∧ p + 3 ≤ z.2.1)) ∧ (p ≤ z.2.1 ∧ z.2.1 ≤ p + 7) ∧ sInv z.2.2 ∧ g0 0 ≤ z.2.2 0 ∧ ∀ s, 0 ≤ s → s < z.2.2 0 → plc z.2.2 s = if s < g0 0 then plc g0 s else s
theorem rdG_0 {g : Int → Int} (hI : sInv g) {p q : Int} (h : p ≤ q ∧ q ≤ p + 7) : rdG g p (0, q, g) := ⟨Or.inl rfl, h, hI, Int.le_refl _, fun s a b => by rw [if_pos b]⟩
theorem rdS_g {w g : Int → Int} {L p : Int} (hI : sInv g) : rdG g p (rdS w L p g) := by
  unfold rdS
  have hd := dgt_b (ch w L (p + 1))
  by_cases c : g 0 < 8
  · rw [if_pos c]
    by_cases c1 : dgt (ch w L (p + 1)) < 1
    · rw [if_pos c1]
      exact rdG_0 hI (by omega)
    · rw [if_neg c1]
      by_cases c2 : ch w L (p + 2) = 59
      · rw [if_pos c2]
        have hc : 1 ≤ dgt (ch w L (p + 1)) ∧ dgt (ch w L (p + 1)) ≤ 9 := by omega
        refine ⟨Or.inr ⟨rfl, Int.le_refl _⟩, ⟨by dsimp only; omega, by dsimp only; omega⟩, addS_inv hI c hc, ?_, fun s a b => ?_⟩
        · dsimp only
          rw [addS_0]
          omega
        · dsimp only at b ⊢
          rw [addS_0] at b
          rw [addS_plc hI.1 c hc a (by omega)]
          by_cases e : s = g 0
          · rw [if_pos e, if_neg (by omega), e]
          · rw [if_neg e, if_pos (by omega)]
      · rw [if_neg c2]
        exact rdG_0 hI (by omega)
  · rw [if_neg c]
    exact rdG_0 hI (by omega)
theorem rdD_g {w g : Int → Int} {L p k : Int} (hI : sInv g) (hk : 0 ≤ k ∧ k ≤ 2) : rdG g p (rdD w L k p g) := by
  unfold rdD
  by_cases c : g 1 < 16
  · rw [if_pos c]
    by_cases c1 : 0 ≤ dgt (ch w L (p + 1)) ∧ dgt (ch w L (p + 1)) < g 0
    · rw [if_pos c1]
      by_cases c2 : ch w L (p + 2) = 62
      · rw [if_pos c2]
        by_cases c3 : 0 ≤ dgt (ch w L (p + 3)) ∧ dgt (ch w L (p + 3)) < g 0
        · rw [if_pos c3]
          by_cases c4 : ch w L (p + 4) = 58
          · rw [if_pos c4]
            by_cases c5 : 0 ≤ dgt (ch w L (p + 5)) ∧ dgt (ch w L (p + 5)) ≤ 5
            · rw [if_pos c5]
              by_cases c6 : dgt (ch w L (p + 5)) = 0 ∧ ¬ plc g (dgt (ch w L (p + 1))) < plc g (dgt (ch w L (p + 3)))
              · rw [if_pos c6]
                exact rdG_0 hI (by omega)
              · rw [if_neg c6]
                by_cases c7 : ch w L (p + 6) = 59
                · rw [if_pos c7]
                  have m0 := hI.1.1.2.1.1
                  refine ⟨Or.inr ⟨rfl, by dsimp only; omega⟩, ⟨by dsimp only; omega, Int.le_refl _⟩, addD_inv hI c hk c1 c3 c5 (fun e => Classical.byContradiction fun q => c6 ⟨e, q⟩), ?_, fun s a b => ?_⟩
                  · dsimp only
                    rw [addD_n (by omega) (by omega)]
                    omega
                  · dsimp only at b ⊢
                    rw [addD_n (by omega) (by omega)] at b
                    rw [addD_plc m0, if_pos b]
                · rw [if_neg c7]
                  exact rdG_0 hI (by omega)
            · rw [if_neg c5]
              exact rdG_0 hI (by omega)
          · rw [if_neg c4]
            exact rdG_0 hI (by omega)
        · rw [if_neg c3]
          exact rdG_0 hI (by omega)
      · rw [if_neg c2]
        exact rdG_0 hI (by omega)
    · rw [if_neg c1]
      exact rdG_0 hI (by omega)
  · rw [if_neg c]
    exact rdG_0 hI (by omega)
theorem rd_g {w g : Int → Int} {L p : Int} (hI : sInv g) : rdG g p (rd w L p g) := by
  unfold rd
  split
  · exact rdS_g hI
  · split
    · exact rdD_g hI (by decide)
    · split
      · exact rdD_g hI (by decide)
      · split
        · exact rdD_g hI (by decide)
        · exact rdG_0 hI (by omega)
