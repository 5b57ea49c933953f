/-! ===== the two searches: what they find ===== -/
section YM
variable (n1 : Nat) (yr : Nat → Nat) (g : Nat → Nat → Nat)
/-- whether a prisoner may be put to a sleeper -/
def yC (p tk lf s : Nat) : Bool := decide (g s p ≠ 0 ∧ tk.testBit s = false ∧ po (g s p - 1) ≤ lf)
def yB (f : Nat → Nat → Nat → Nat) (p tk lf : Nat) : Nat → Nat
  | 0 => f (p + 1) tk lf
  | j + 1 => max (yB f p tk lf j) (if yC g p tk lf j = true then yr p + f (p + 1) (tk ||| 2 ^ j) (lf - po (g j p - 1)) else 0)
/-- the most years from p on -/
def yM : Nat → Nat → Nat → Nat → Nat
  | 0, _, _, _ => 0
  | k + 1, p, tk, lf => yB yr g (yM k) p tk lf n1
/-- the first best (0: to nobody) -/
def yD (f : Nat → Nat → Nat → Nat) (p tk lf : Nat) : Nat → Nat
  | 0 => 0
  | j + 1 => if yC g p tk lf j = true ∧ yB yr g f p tk lf j < yr p + f (p + 1) (tk ||| 2 ^ j) (lf - po (g j p - 1)) then j + 1 else yD f p tk lf j
def yAj (A : Nat → Nat → Nat → Nat → Nat) (p tk lf c : Nat) : Nat → Nat := fun i => match c with
  | 0 => if i = p then 0 else A (p + 1) tk lf i
  | s + 1 => if i = p then s + 1 else A (p + 1) (tk ||| 2 ^ s) (lf - po (g s p - 1)) i
def yA : Nat → Nat → Nat → Nat → Nat → Nat
  | 0, _, _, _ => fun _ => 0
  | k + 1, p, tk, lf => yAj g (yA k) p tk lf (yD yr g (yM n1 yr g k) p tk lf n1)
theorem yM_le {n0 : Nat} : ∀ (k p tk lf : Nat), k + p = n0 → yM n1 yr g k p tk lf ≤ su (fun i => yr (p + i)) (n0 - p)
  | 0, _, _, _, _ => Nat.zero_le _
  | k + 1, p, tk, lf, hk => by
    have e : su (fun i => yr (p + i)) (n0 - p) = yr p + su (fun i => yr (p + 1 + i)) (n0 - (p + 1)) := by
      have h9 : ∀ m, su (fun i => yr (p + i)) (m + 1) = yr p + su (fun i => yr (p + 1 + i)) m := by
        intro m
        induction m with
        | zero => show 0 + yr (p + 0) = yr p + 0; simp
        | succ m ih =>
          show su (fun i => yr (p + i)) (m + 1) + yr (p + (m + 1)) = yr p + (su (fun i => yr (p + 1 + i)) m + yr (p + 1 + m))
          rw [ih, show p + (m + 1) = p + 1 + m by omega]
          omega
      rw [show n0 - p = (n0 - (p + 1)) + 1 by omega]
      exact h9 _
    have hj : ∀ j, yB yr g (yM n1 yr g k) p tk lf j ≤ yr p + su (fun i => yr (p + 1 + i)) (n0 - (p + 1)) := by
      intro j
      induction j with
      | zero =>
        have := yM_le (n0 := n0) k (p + 1) tk lf (by omega)
        show yM n1 yr g k (p + 1) tk lf ≤ _
        omega
      | succ j ih =>
        have := yM_le (n0 := n0) k (p + 1) (tk ||| 2 ^ j) (lf - po (g j p - 1)) (by omega)
        show max _ _ ≤ _
        split <;> omega
    rw [e]
    exact hj n1
end YM
theorem plc_spec {n0 n1 : Nat} {yr : Nat → Nat} {g : Nat → Nat → Nat} : ∀ (k p tk lf ye : Nat) (T : pT), k + p = n0 →
    (plc n0 n1 yr g k p tk lf ye T).1 = max T.1 (ye + yM n1 yr g k p tk lf + 1) ∧
    (T.1 < ye + yM n1 yr g k p tk lf + 1 → ∀ i, (plc n0 n1 yr g k p tk lf ye T).2.1 i = if p ≤ i ∧ i < n0 then la_n (yA n1 yr g k p tk lf i) else T.2.2 i) ∧
    (ye + yM n1 yr g k p tk lf + 1 ≤ T.1 → (plc n0 n1 yr g k p tk lf ye T).2.1 = T.2.1) ∧
    ∀ i, i < p ∨ n0 ≤ i → (plc n0 n1 yr g k p tk lf ye T).2.2 i = T.2.2 i
  | 0, p, tk, lf, ye, T, hk => by
    have e : plc n0 n1 yr g 0 p tk lf ye T = if T.1 ≤ ye then (ye + 1, T.2.2, T.2.2) else T := rfl
    have e2 : yM n1 yr g 0 p tk lf = 0 := rfl
    rw [e, e2]
    by_cases hT : T.1 ≤ ye
    · rw [if_pos hT]
      refine ⟨by show ye + 1 = _; omega, fun _ i => ?_, fun z => absurd z (by omega), fun _ _ => rfl⟩
      rw [if_neg (by omega)]
    · rw [if_neg hT]
      exact ⟨by omega, fun z => absurd z (by omega), fun _ => rfl, fun _ _ => rfl⟩
  | k + 1, p, tk, lf, ye, T, hk => by
    have hM := yM_le n1 yr g (k + 1) p tk lf hk
    by_cases hpr : ye + su (fun i => yr (p + i)) (n0 - p) + 1 ≤ T.1
    · have e : plc n0 n1 yr g (k + 1) p tk lf ye T = T := by
        unfold plc
        rw [if_pos hpr]
      rw [e]
      exact ⟨by omega, fun z => absurd z (by omega), fun _ => rfl, fun _ _ => rfl⟩
    · have step : ∀ j, (itN (fun s (T : pT) => if g s p ≠ 0 ∧ tk.testBit s = false ∧ po (g s p - 1) ≤ lf then plc n0 n1 yr g k (p + 1) (tk ||| 2 ^ s) (lf - po (g s p - 1)) (ye + yr p) (T.1, T.2.1, upd T.2.2 p (nI s)) else T) (plc n0 n1 yr g k (p + 1) tk lf ye (T.1, T.2.1, upd T.2.2 p nM)) j).1 = max T.1 (ye + yB yr g (yM n1 yr g k) p tk lf j + 1) ∧
          (T.1 < ye + yB yr g (yM n1 yr g k) p tk lf j + 1 → ∀ i, (itN (fun s (T : pT) => if g s p ≠ 0 ∧ tk.testBit s = false ∧ po (g s p - 1) ≤ lf then plc n0 n1 yr g k (p + 1) (tk ||| 2 ^ s) (lf - po (g s p - 1)) (ye + yr p) (T.1, T.2.1, upd T.2.2 p (nI s)) else T) (plc n0 n1 yr g k (p + 1) tk lf ye (T.1, T.2.1, upd T.2.2 p nM)) j).2.1 i = if p ≤ i ∧ i < n0 then la_n (yAj g (yA n1 yr g k) p tk lf (yD yr g (yM n1 yr g k) p tk lf j) i) else T.2.2 i) ∧
          (ye + yB yr g (yM n1 yr g k) p tk lf j + 1 ≤ T.1 → (itN (fun s (T : pT) => if g s p ≠ 0 ∧ tk.testBit s = false ∧ po (g s p - 1) ≤ lf then plc n0 n1 yr g k (p + 1) (tk ||| 2 ^ s) (lf - po (g s p - 1)) (ye + yr p) (T.1, T.2.1, upd T.2.2 p (nI s)) else T) (plc n0 n1 yr g k (p + 1) tk lf ye (T.1, T.2.1, upd T.2.2 p nM)) j).2.1 = T.2.1) ∧
          ∀ i, i < p ∨ n0 ≤ i → (itN (fun s (T : pT) => if g s p ≠ 0 ∧ tk.testBit s = false ∧ po (g s p - 1) ≤ lf then plc n0 n1 yr g k (p + 1) (tk ||| 2 ^ s) (lf - po (g s p - 1)) (ye + yr p) (T.1, T.2.1, upd T.2.2 p (nI s)) else T) (plc n0 n1 yr g k (p + 1) tk lf ye (T.1, T.2.1, upd T.2.2 p nM)) j).2.2 i = T.2.2 i := by
        intro j
        induction j with
        | zero =>
          obtain ⟨a1, a2, a3, a4⟩ := plc_spec (n0 := n0) k (p + 1) tk lf ye (T.1, T.2.1, upd T.2.2 p nM) (by omega)
          refine ⟨a1, fun z i => ?_, a3, fun i hi => ?_⟩
          · refine (a2 z i).trans ?_
            by_cases c1 : p + 1 ≤ i ∧ i < n0
            · rw [if_pos c1, if_pos ⟨by omega, c1.2⟩]
              show _ = la_n (if i = p then 0 else yA n1 yr g k (p + 1) tk lf i)
              rw [if_neg (by omega)]
            · rw [if_neg c1]
              by_cases c2 : i = p
              · subst c2
                rw [if_pos ⟨Nat.le_refl _, by omega⟩]
                show upd T.2.2 i nM i = la_n (if i = i then 0 else _)
                rw [if_pos rfl]
                simp [upd, la_n]
              · rw [if_neg (by omega)]
                show upd T.2.2 p nM i = _
                simp [upd, c2]
          · refine (a4 i (by omega)).trans ?_
            show upd T.2.2 p nM i = _
            have : i ≠ p := by omega
            simp [upd, this]
        | succ j ih =>
          rw [show ∀ (F : Nat → pT → pT) (a : pT), itN F a (j + 1) = F j (itN F a j) from fun _ _ => rfl]
          generalize hR : itN (fun s (T : pT) => if g s p ≠ 0 ∧ tk.testBit s = false ∧ po (g s p - 1) ≤ lf then plc n0 n1 yr g k (p + 1) (tk ||| 2 ^ s) (lf - po (g s p - 1)) (ye + yr p) (T.1, T.2.1, upd T.2.2 p (nI s)) else T) (plc n0 n1 yr g k (p + 1) tk lf ye (T.1, T.2.1, upd T.2.2 p nM)) j = R at ih ⊢
          obtain ⟨i1, i2, i3, i4⟩ := ih
          have eB : yB yr g (yM n1 yr g k) p tk lf (j + 1) = max (yB yr g (yM n1 yr g k) p tk lf j) (if yC g p tk lf j = true then yr p + yM n1 yr g k (p + 1) (tk ||| 2 ^ j) (lf - po (g j p - 1)) else 0) := rfl
          have eD : yD yr g (yM n1 yr g k) p tk lf (j + 1) = if yC g p tk lf j = true ∧ yB yr g (yM n1 yr g k) p tk lf j < yr p + yM n1 yr g k (p + 1) (tk ||| 2 ^ j) (lf - po (g j p - 1)) then j + 1 else yD yr g (yM n1 yr g k) p tk lf j := rfl
          by_cases hc : g j p ≠ 0 ∧ tk.testBit j = false ∧ po (g j p - 1) ≤ lf
          · have hC : yC g p tk lf j = true := by simpa [yC] using hc
            rw [if_pos hc]
            rw [if_pos hC] at eB
            obtain ⟨a1, a2, a3, a4⟩ := plc_spec (n0 := n0) k (p + 1) (tk ||| 2 ^ j) (lf - po (g j p - 1)) (ye + yr p) (R.1, R.2.1, upd R.2.2 p (nI j)) (by omega)
            have b1 : (R.1, R.2.1, upd R.2.2 p (nI j)).1 = R.1 := rfl
            rw [b1] at a1 a2 a3
            refine ⟨by rw [a1, eB]; omega, fun z i => ?_, fun z => ?_, fun i hi => ?_⟩
            · by_cases hb : R.1 < ye + yr p + yM n1 yr g k (p + 1) (tk ||| 2 ^ j) (lf - po (g j p - 1)) + 1
              · have eD1 : yD yr g (yM n1 yr g k) p tk lf (j + 1) = j + 1 := by rw [eD]; exact if_pos ⟨hC, by omega⟩
                rw [a2 hb i, eD1]
                by_cases c1 : p + 1 ≤ i ∧ i < n0
                · rw [if_pos c1, if_pos ⟨by omega, c1.2⟩]
                  show _ = la_n (if i = p then j + 1 else yA n1 yr g k (p + 1) (tk ||| 2 ^ j) (lf - po (g j p - 1)) i)
                  rw [if_neg (by omega)]
                · rw [if_neg c1]
                  by_cases c2 : i = p
                  · subst c2
                    rw [if_pos ⟨Nat.le_refl _, by omega⟩]
                    show upd R.2.2 i (nI j) i = la_n (if i = i then j + 1 else _)
                    rw [if_pos rfl]
                    simp [upd, la_n]
                  · rw [if_neg (by omega)]
                    show upd R.2.2 p (nI j) i = _
                    rw [show upd R.2.2 p (nI j) i = R.2.2 i by simp [upd, c2]]
                    exact i4 i (by omega)
              · have eD1 : yD yr g (yM n1 yr g k) p tk lf (j + 1) = yD yr g (yM n1 yr g k) p tk lf j := by rw [eD]; exact if_neg (fun q => by have := q.2; omega)
                rw [a3 (by omega), eD1]
                exact i2 (by omega) i
            · rw [a3 (by omega)]
              exact i3 (by omega)
            · refine (a4 i (by omega)).trans ?_
              show upd R.2.2 p (nI j) i = _
              have : i ≠ p := by omega
              rw [show upd R.2.2 p (nI j) i = R.2.2 i by simp [upd, this]]
              exact i4 i hi
          · have hC : ¬ yC g p tk lf j = true := by simpa [yC] using hc
            rw [if_neg hc]
            rw [if_neg hC] at eB
            rw [eD, if_neg (fun q => hC q.1), eB, Nat.max_eq_left (Nat.zero_le _)]
            exact ⟨i1, i2, i3, i4⟩
      have e : plc n0 n1 yr g (k + 1) p tk lf ye T = itN (fun s (T : pT) => if g s p ≠ 0 ∧ tk.testBit s = false ∧ po (g s p - 1) ≤ lf then plc n0 n1 yr g k (p + 1) (tk ||| 2 ^ s) (lf - po (g s p - 1)) (ye + yr p) (T.1, T.2.1, upd T.2.2 p (nI s)) else T) (plc n0 n1 yr g k (p + 1) tk lf ye (T.1, T.2.1, upd T.2.2 p nM)) n1 := by
        rw [show plc n0 n1 yr g (k + 1) p tk lf ye T = if ye + su (fun i => yr (p + i)) (n0 - p) + 1 ≤ T.1 then T else itN (fun s (T : pT) => if g s p ≠ 0 ∧ tk.testBit s = false ∧ po (g s p - 1) ≤ lf then plc n0 n1 yr g k (p + 1) (tk ||| 2 ^ s) (lf - po (g s p - 1)) (ye + yr p) (T.1, T.2.1, upd T.2.2 p (nI s)) else T) (plc n0 n1 yr g k (p + 1) tk lf ye (T.1, T.2.1, upd T.2.2 p nM)) n1 from rfl, if_neg hpr]
      rw [e]
      exact step n1
