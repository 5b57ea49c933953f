/-! ===== the Model: sleepers two by two ===== -/
/-- what a choice for the least of a set brings (0: it may not be; v + 1: v) -/
def cV (w : Nat → Nat → Nat) (F : Nat → Nat) (s m c : Nat) : Nat := match c with
  | 0 => F (m &&& (63 ^^^ 2 ^ s)) + 1
  | o + 1 => if (m &&& (63 ^^^ 2 ^ s)).testBit o = true then w s o + F ((m &&& (63 ^^^ 2 ^ s)) &&& (63 ^^^ 2 ^ o)) + 1 else 0
/-- the most by the choices up to the c-th -/
def cX (w : Nat → Nat → Nat) (F : Nat → Nat) (s m : Nat) : Nat → Nat
  | 0 => 0
  | c + 1 => max (cX w F s m c) (cV w F s m c - 1)
section CM3
variable {nn : Nat} {w : Nat → Nat → Nat}
/-- the most of a set, whom each has -/
def cS (nn : Nat) (w : Nat → Nat → Nat) (m : Nat) : Nat := cM nn w nn 0 m
theorem cS_sub {s m m' : Nat} (hs : s < nn) (h0 : ∀ i, i ≤ s → m'.testBit i = false) (h1 : ∀ i, s < i → m'.testBit i = m.testBit i) : cM nn w (nn - (s + 1)) (s + 1) m = cS nn w m' := by
  unfold cS
  rw [cM_skip (s + 1) (by omega) (fun i hi => h0 i (by omega))]
  exact cM_dep _ _ _ _ (fun i hi => (h1 i (by omega)).symm)
theorem cAS_sub {s m m' : Nat} (hs : s < nn) (h0 : ∀ i, i ≤ s → m'.testBit i = false) (h1 : ∀ i, s < i → m'.testBit i = m.testBit i) : cA nn w (nn - (s + 1)) (s + 1) m = cA nn w nn 0 m' := by
  rw [cA_skip (m := m') (s + 1) (by omega) (fun i hi => h0 i (by omega))]
  exact cA_dep _ _ _ _ (fun i hi => (h1 i (by omega)).symm)
theorem cl_bit {m s i : Nat} (hm : m < 64) : (m &&& (63 ^^^ 2 ^ s)).testBit i = if i = s then false else m.testBit i := by
  rcases Nat.lt_or_ge i 6 with q | q
  · rw [clr_bit q]
    by_cases e : i = s
    · rw [if_pos e, if_pos e]; rfl
    · rw [if_neg e, if_neg e]
  · rw [nb_n (b := 6) (Nat.lt_of_le_of_lt Nat.and_le_left hm) q, nb_n (b := 6) hm q]
    split <;> rfl
theorem cB_cX {s m : Nat} (hn : nn ≤ 6) (hm : m < 2 ^ nn) (hs : s < nn) (hl : ∀ i, i < s → m.testBit i = false) : ∀ i, i ≤ nn - (s + 1) → cB w (cM nn w (nn - (s + 1))) s m i = cX w (cS nn w) s m (s + 1 + i + 1) := by
  have h64 : m < 64 := Nat.lt_of_lt_of_le hm (Nat.pow_le_pow_right (n := 2) (by decide) hn)
  have b0 : ∀ i, (m &&& (63 ^^^ 2 ^ s)).testBit i = if i = s then false else m.testBit i := fun i => cl_bit h64
  have h65 : m &&& (63 ^^^ 2 ^ s) < 64 := Nat.lt_of_le_of_lt Nat.and_le_left h64
  have e0 : cM nn w (nn - (s + 1)) (s + 1) m = cS nn w (m &&& (63 ^^^ 2 ^ s)) := by
    refine cS_sub hs (fun i hi => ?_) (fun i hi => ?_)
    · rw [b0]
      split
      · rfl
      · exact hl i (by omega)
    · rw [b0, if_neg (by omega)]
  have eo : ∀ o, s < o → m.testBit o = true → cM nn w (nn - (s + 1)) (s + 1) (m ^^^ 2 ^ o) = cS nn w ((m &&& (63 ^^^ 2 ^ s)) &&& (63 ^^^ 2 ^ o)) := by
    intro o ho hbo
    refine cS_sub hs (fun i hi => ?_) (fun i hi => ?_)
    · rw [cl_bit h65, b0]
      split
      · rfl
      · split
        · rfl
        · exact hl i (by omega)
    · rw [cl_bit h65, b0, xor_bit, if_neg (show ¬ i = s by omega)]
      by_cases e : i = o
      · rw [if_pos e, if_pos e, e, hbo]; rfl
      · rw [if_neg e, if_neg e]
  -- the choices up to s bring nothing more
  have z1 : ∀ c, c ≤ s + 1 → cX w (cS nn w) s m (c + 1) = cS nn w (m &&& (63 ^^^ 2 ^ s)) := by
    intro c
    induction c with
    | zero =>
      intro _
      show max 0 (cS nn w (m &&& (63 ^^^ 2 ^ s)) + 1 - 1) = _
      omega
    | succ c ih =>
      intro hc
      show max (cX w (cS nn w) s m (c + 1)) (cV w (cS nn w) s m (c + 1) - 1) = _
      have e9 : cV w (cS nn w) s m (c + 1) = 0 := by
        show (if (m &&& (63 ^^^ 2 ^ s)).testBit c = true then _ else 0) = 0
        rw [b0, if_neg]
        split
        · decide
        · rw [hl c (by omega)]; decide
      rw [ih (by omega), e9]
      omega
  intro i
  induction i with
  | zero =>
    intro _
    rw [show s + 1 + 0 + 1 = (s + 1) + 1 by omega, z1 (s + 1) (Nat.le_refl _)]
    exact e0
  | succ i ih =>
    intro hi
    show max (cB w (cM nn w (nn - (s + 1))) s m i) (if m.testBit (s + 1 + i) = true then w s (s + 1 + i) + cM nn w (nn - (s + 1)) (s + 1) (m ^^^ 2 ^ (s + 1 + i)) else 0) = max (cX w (cS nn w) s m (s + 1 + i + 1)) (cV w (cS nn w) s m (s + 1 + i + 1) - 1)
    rw [ih (by omega)]
    have e9 : cV w (cS nn w) s m (s + 1 + i + 1) = if m.testBit (s + 1 + i) = true then w s (s + 1 + i) + cS nn w ((m &&& (63 ^^^ 2 ^ s)) &&& (63 ^^^ 2 ^ (s + 1 + i))) + 1 else 0 := by
      show (if (m &&& (63 ^^^ 2 ^ s)).testBit (s + 1 + i) = true then _ else 0) = _
      rw [b0, if_neg (show ¬ s + 1 + i = s by omega)]
    rw [e9]
    by_cases q : m.testBit (s + 1 + i) = true
    · rw [if_pos q, if_pos q, eo _ (by omega) q]
      omega
    · rw [if_neg q, if_neg q]
theorem cS_cB {s m : Nat} (hs : s < nn) (hb : m.testBit s = true) (hl : ∀ i, i < s → m.testBit i = false) : cS nn w m = cB w (cM nn w (nn - (s + 1))) s m (nn - (s + 1)) := by
  show cM nn w nn 0 m = _
  rw [cM_skip s (by omega) hl, show nn - s = nn - (s + 1) + 1 by omega]
  show (if m.testBit s = true then _ else _) = _
  rw [if_pos hb]
theorem cS_cX {s m : Nat} (hn : nn ≤ 6) (hm : m < 2 ^ nn) (hs : s < nn) (hb : m.testBit s = true) (hl : ∀ i, i < s → m.testBit i = false) : cS nn w m = cX w (cS nn w) s m (nn + 1) := by
  have h1 := cS_cB (w := w) hs hb hl
  have h2 := cB_cX (w := w) hn hm hs hl (nn - (s + 1)) (Nat.le_refl _)
  rw [show s + 1 + (nn - (s + 1)) + 1 = nn + 1 by omega] at h2
  rw [h1, h2]
/-- the first best: its place among all choices (0: none) -/
def cN (s d : Nat) : Nat := match d with
  | 0 => 0
  | i + 1 => s + 1 + i + 1
theorem cX_ge {F : Nat → Nat} {s m : Nat} : ∀ {c c' : Nat}, c' < c → cV w F s m c' - 1 ≤ cX w F s m c
  | 0, c', h => by omega
  | c + 1, c', h => by
    show _ ≤ max (cX w F s m c) (cV w F s m c - 1)
    by_cases e : c' = c
    · rw [e]; omega
    · have := cX_ge (F := F) (s := s) (m := m) (c := c) (c' := c') (by omega)
      omega
theorem cV_o {s m : Nat} (hn : nn ≤ 6) (hm : m < 2 ^ nn) (hs : s < nn) (hl : ∀ i, i < s → m.testBit i = false) (i : Nat) : cV w (cS nn w) s m (s + 1 + i + 1) = if m.testBit (s + 1 + i) = true then w s (s + 1 + i) + cM nn w (nn - (s + 1)) (s + 1) (m ^^^ 2 ^ (s + 1 + i)) + 1 else 0 := by
  have h64 : m < 64 := Nat.lt_of_lt_of_le hm (Nat.pow_le_pow_right (n := 2) (by decide) hn)
  have h65 : m &&& (63 ^^^ 2 ^ s) < 64 := Nat.lt_of_le_of_lt Nat.and_le_left h64
  have b0 : ∀ i, (m &&& (63 ^^^ 2 ^ s)).testBit i = if i = s then false else m.testBit i := fun i => cl_bit h64
  show (if (m &&& (63 ^^^ 2 ^ s)).testBit (s + 1 + i) = true then _ else 0) = _
  rw [b0, if_neg (show ¬ s + 1 + i = s by omega)]
  by_cases q : m.testBit (s + 1 + i) = true
  · rw [if_pos q, if_pos q]
    rw [cS_sub (w := w) (m := m ^^^ 2 ^ (s + 1 + i)) (m' := (m &&& (63 ^^^ 2 ^ s)) &&& (63 ^^^ 2 ^ (s + 1 + i))) hs (fun j hj => ?_) (fun j hj => ?_)]
    · rw [cl_bit h65, b0]
      split
      · rfl
      · split
        · rfl
        · exact hl j (by omega)
    · rw [cl_bit h65, b0, xor_bit, if_neg (show ¬ j = s by omega)]
      by_cases e : j = s + 1 + i
      · rw [if_pos e, if_pos e, e, q]; rfl
      · rw [if_neg e, if_neg e]
  · rw [if_neg q, if_neg q]
theorem cD_first {s m : Nat} (hn : nn ≤ 6) (hm : m < 2 ^ nn) (hs : s < nn) (hl : ∀ i, i < s → m.testBit i = false) : ∀ j, j ≤ nn - (s + 1) → cV w (cS nn w) s m (cN s (cD w (cM nn w (nn - (s + 1))) s m j)) = cB w (cM nn w (nn - (s + 1))) s m j + 1 ∧ cD w (cM nn w (nn - (s + 1))) s m j ≤ j ∧ ∀ c, c < cN s (cD w (cM nn w (nn - (s + 1))) s m j) → cV w (cS nn w) s m c < cB w (cM nn w (nn - (s + 1))) s m j + 1
  | 0, _ => by
    have h1 := cB_cX (w := w) hn hm hs hl 0 (Nat.zero_le _)
    have h2 := cX_ge (w := w) (F := cS nn w) (s := s) (m := m) (c := s + 1 + 0 + 1) (c' := 0) (by omega)
    refine ⟨?_, Nat.le_refl _, fun c hc => absurd hc (Nat.not_lt_zero c)⟩
    have h64 : m < 64 := Nat.lt_of_lt_of_le hm (Nat.pow_le_pow_right (n := 2) (by decide) hn)
    show cS nn w (m &&& (63 ^^^ 2 ^ s)) + 1 = cM nn w (nn - (s + 1)) (s + 1) m + 1
    rw [cS_sub (w := w) (m := m) (m' := m &&& (63 ^^^ 2 ^ s)) hs (fun j hj => ?_) (fun j hj => ?_)]
    · rw [cl_bit h64]
      split
      · rfl
      · exact hl j (by omega)
    · rw [cl_bit h64, if_neg (by omega)]
  | j + 1, hj => by
    obtain ⟨h1, h2, h3⟩ := cD_first hn hm hs hl j (by omega)
    have eB : cB w (cM nn w (nn - (s + 1))) s m (j + 1) = max (cB w (cM nn w (nn - (s + 1))) s m j) (if m.testBit (s + 1 + j) = true then w s (s + 1 + j) + cM nn w (nn - (s + 1)) (s + 1) (m ^^^ 2 ^ (s + 1 + j)) else 0) := rfl
    have eD : cD w (cM nn w (nn - (s + 1))) s m (j + 1) = if m.testBit (s + 1 + j) = true ∧ cB w (cM nn w (nn - (s + 1))) s m j < w s (s + 1 + j) + cM nn w (nn - (s + 1)) (s + 1) (m ^^^ 2 ^ (s + 1 + j)) then j + 1 else cD w (cM nn w (nn - (s + 1))) s m j := rfl
    have eV := cV_o (w := w) hn hm hs hl j
    have eX := cB_cX (w := w) hn hm hs hl j (by omega)
    by_cases q : m.testBit (s + 1 + j) = true
    · rw [if_pos q] at eB eV
      by_cases ql : cB w (cM nn w (nn - (s + 1))) s m j < w s (s + 1 + j) + cM nn w (nn - (s + 1)) (s + 1) (m ^^^ 2 ^ (s + 1 + j))
      · rw [if_pos ⟨q, ql⟩] at eD
        rw [eD, eB]
        refine ⟨?_, Nat.le_refl _, fun c hc => ?_⟩
        · show cV w (cS nn w) s m (s + 1 + j + 1) = _
          rw [eV]; omega
        · have hc : c < s + 1 + j + 1 := hc
          have := cX_ge (w := w) (F := cS nn w) (s := s) (m := m) hc
          omega
      · rw [if_neg (fun z => ql z.2)] at eD
        rw [eD, eB, h1]
        exact ⟨by omega, by omega, fun c hc => by have := h3 c hc; omega⟩
    · rw [if_neg q] at eB
      rw [if_neg (fun z => q z.1)] at eD
      rw [eD, eB, h1]
      exact ⟨by omega, by omega, fun c hc => by have := h3 c hc; omega⟩
/-- whom one has, by the first best -/
theorem cA_step {s m : Nat} (hn : nn ≤ 6) (hm : m < 2 ^ nn) (hs : s < nn) (hb : m.testBit s = true) (hl : ∀ i, i < s → m.testBit i = false) : cA nn w nn 0 m = fun i => match cN s (cD w (cM nn w (nn - (s + 1))) s m (nn - (s + 1))) with
    | 0 => if i = s then 0 else cA nn w nn 0 (m &&& (63 ^^^ 2 ^ s)) i
    | o + 1 => if i = s then o + 1 else if i = o then s + 1 else cA nn w nn 0 ((m &&& (63 ^^^ 2 ^ s)) &&& (63 ^^^ 2 ^ o)) i := by
  have h64 : m < 64 := Nat.lt_of_lt_of_le hm (Nat.pow_le_pow_right (n := 2) (by decide) hn)
  have h65 : m &&& (63 ^^^ 2 ^ s) < 64 := Nat.lt_of_le_of_lt Nat.and_le_left h64
  have b0 : ∀ i, (m &&& (63 ^^^ 2 ^ s)).testBit i = if i = s then false else m.testBit i := fun i => cl_bit h64
  obtain ⟨d1, d2, d3⟩ := cD_first (w := w) hn hm hs hl (nn - (s + 1)) (Nat.le_refl _)
  rw [cA_skip s (by omega) hl, show nn - s = nn - (s + 1) + 1 by omega]
  show (if m.testBit s = true then cAj (cA nn w (nn - (s + 1))) s m (cD w (cM nn w (nn - (s + 1))) s m (nn - (s + 1))) else _) = _
  rw [if_pos hb]
  generalize cD w (cM nn w (nn - (s + 1))) s m (nn - (s + 1)) = D at *
  funext i
  rcases D with _ | j
  · show (if i = s then 0 else cA nn w (nn - (s + 1)) (s + 1) m i) = if i = s then 0 else cA nn w nn 0 (m &&& (63 ^^^ 2 ^ s)) i
    rw [cAS_sub (w := w) (m := m) (m' := m &&& (63 ^^^ 2 ^ s)) hs (fun j hj => ?_) (fun j hj => ?_)]
    · rw [b0]
      split
      · rfl
      · exact hl j (by omega)
    · rw [b0, if_neg (by omega)]
  · have hbit : m.testBit (s + 1 + j) = true := by
      have h9 : cV w (cS nn w) s m (s + 1 + j + 1) = _ := d1
      rw [cV_o (w := w) hn hm hs hl j] at h9
      by_cases q : m.testBit (s + 1 + j) = true
      · exact q
      · rw [if_neg q] at h9; omega
    show (if i = s then s + 1 + j + 1 else if i = s + 1 + j then s + 1 else cA nn w (nn - (s + 1)) (s + 1) (m ^^^ 2 ^ (s + 1 + j)) i) = if i = s then s + 1 + j + 1 else if i = s + 1 + j then s + 1 else cA nn w nn 0 ((m &&& (63 ^^^ 2 ^ s)) &&& (63 ^^^ 2 ^ (s + 1 + j))) i
    rw [cAS_sub (w := w) (m := m ^^^ 2 ^ (s + 1 + j)) (m' := (m &&& (63 ^^^ 2 ^ s)) &&& (63 ^^^ 2 ^ (s + 1 + j))) hs (fun k hk => ?_) (fun k hk => ?_)]
    · rw [cl_bit h65, b0]
      split
      · rfl
      · split
        · rfl
        · exact hl k (by omega)
    · rw [cl_bit h65, b0, xor_bit, if_neg (show ¬ k = s by omega)]
      by_cases e : k = s + 1 + j
      · rw [if_pos e, if_pos e, e, hbit]; rfl
      · rw [if_neg e, if_neg e]
end CM3
