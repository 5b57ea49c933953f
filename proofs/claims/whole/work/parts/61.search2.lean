/-! ===== sleepers two by two: what the search finds ===== -/
section CM
variable (nn : Nat) (w : Nat → Nat → Nat)
def cB (f : Nat → Nat → Nat) (s m : Nat) : Nat → Nat
  | 0 => f (s + 1) m
  | i + 1 => max (cB f s m i) (if m.testBit (s + 1 + i) = true then w s (s + 1 + i) + f (s + 1) (m ^^^ 2 ^ (s + 1 + i)) else 0)
/-- the most from s on, where m are free -/
def cM : Nat → Nat → Nat → Nat
  | 0, _, _ => 0
  | k + 1, s, m => if m.testBit s = true then cB w (cM k) s m (nn - (s + 1)) else cM k (s + 1) m
def cD (f : Nat → Nat → Nat) (s m : Nat) : Nat → Nat
  | 0 => 0
  | i + 1 => if m.testBit (s + 1 + i) = true ∧ cB w f s m i < w s (s + 1 + i) + f (s + 1) (m ^^^ 2 ^ (s + 1 + i)) then i + 1 else cD f s m i
def cAj (A : Nat → Nat → Nat → Nat) (s m c : Nat) : Nat → Nat := fun i => match c with
  | 0 => if i = s then 0 else A (s + 1) m i
  | o + 1 => if i = s then s + 1 + o + 1 else if i = s + 1 + o then s + 1 else A (s + 1) (m ^^^ 2 ^ (s + 1 + o)) i
def cA : Nat → Nat → Nat → Nat → Nat
  | 0, _, _ => fun _ => 0
  | k + 1, s, m => if m.testBit s = true then cAj (cA k) s m (cD w (cM nn w k) s m (nn - (s + 1))) else cA k (s + 1) m
end CM
theorem xor_bit (m o i : Nat) : (m ^^^ 2 ^ o).testBit i = if i = o then !(m.testBit i) else m.testBit i := by
  rw [Nat.testBit_xor, Nat.testBit_two_pow]
  by_cases h : i = o
  · subst h; simp
  · rw [if_neg h]
    have : ¬ o = i := fun q => h q.symm
    simp [this]
theorem nI_nM (a : Nat) (h : a < 2 ^ 31) : ¬ nI a = nM := by rw [ab_m1a h]; exact id
theorem cpl_spec {nn : Nat} {hd : Nat → Nat} (hnn : nn ≤ 6) : ∀ (k s sm : Nat) (T : pT) (m : Nat), k + s = nn → (∀ i, s ≤ i → i < nn → (m.testBit i = true ↔ T.2.2 i = nM)) →
    (cpl nn hd k s sm T).1 = max T.1 (sm + cM nn (fun a b => po (hd a &&& hd b)) k s m + 1) ∧
    (T.1 < sm + cM nn (fun a b => po (hd a &&& hd b)) k s m + 1 → ∀ i, (cpl nn hd k s sm T).2.1 i = if s ≤ i ∧ i < nn ∧ m.testBit i = true then la_n (cA nn (fun a b => po (hd a &&& hd b)) k s m i) else T.2.2 i) ∧
    (sm + cM nn (fun a b => po (hd a &&& hd b)) k s m + 1 ≤ T.1 → (cpl nn hd k s sm T).2.1 = T.2.1) ∧ (cpl nn hd k s sm T).2.2 = T.2.2
  | 0, s, sm, T, m, hk, hm => by
    have e : cpl nn hd 0 s sm T = if T.1 ≤ sm then (sm + 1, T.2.2, T.2.2) else T := rfl
    have e2 : cM nn (fun a b => po (hd a &&& hd b)) 0 s m = 0 := rfl
    rw [e, e2]
    by_cases hT : T.1 ≤ sm
    · rw [if_pos hT]
      refine ⟨by show sm + 1 = _; omega, fun _ i => ?_, fun z => absurd z (by omega), rfl⟩
      rw [if_neg (by omega)]
    · rw [if_neg hT]
      exact ⟨by omega, fun z => absurd z (by omega), fun _ => rfl, rfl⟩
  | k + 1, s, sm, T, m, hk, hm => by
    obtain ⟨a1, a2, a3, a4⟩ := cpl_spec hnn k (s + 1) sm T m (by omega) (fun i h1 h2 => hm i (by omega) h2)
    have e0 : cpl nn hd (k + 1) s sm T = if (cpl nn hd k (s + 1) sm T).2.2 s = nM then itN (fun i (T : pT) => if T.2.2 (s + 1 + i) = nM then ((cpl nn hd k (s + 1) (sm + po (hd s &&& hd (s + 1 + i))) (T.1, T.2.1, upd (upd T.2.2 s (nI (s + 1 + i))) (s + 1 + i) (nI s))).1, (cpl nn hd k (s + 1) (sm + po (hd s &&& hd (s + 1 + i))) (T.1, T.2.1, upd (upd T.2.2 s (nI (s + 1 + i))) (s + 1 + i) (nI s))).2.1, upd (upd (cpl nn hd k (s + 1) (sm + po (hd s &&& hd (s + 1 + i))) (T.1, T.2.1, upd (upd T.2.2 s (nI (s + 1 + i))) (s + 1 + i) (nI s))).2.2 s nM) (s + 1 + i) nM) else T) (cpl nn hd k (s + 1) sm T) (nn - (s + 1)) else cpl nn hd k (s + 1) sm T := rfl
    have hs := hm s (Nat.le_refl _) (by omega)
    by_cases hf : m.testBit s = true
    · have eM : cM nn (fun a b => po (hd a &&& hd b)) (k + 1) s m = (cB (fun a b => po (hd a &&& hd b)) (cM nn (fun a b => po (hd a &&& hd b)) k) s m) (nn - (s + 1)) := by
        show (if m.testBit s = true then _ else _) = _
        rw [if_pos hf]
      have eA : cA nn (fun a b => po (hd a &&& hd b)) (k + 1) s m = cAj (cA nn (fun a b => po (hd a &&& hd b)) k) s m ((cD (fun a b => po (hd a &&& hd b)) (cM nn (fun a b => po (hd a &&& hd b)) k) s m) (nn - (s + 1))) := by
        show (if m.testBit s = true then _ else _) = _
        rw [if_pos hf]
      have hTs : T.2.2 s = nM := hs.mp hf
      have step : ∀ j, j ≤ nn - (s + 1) → (itN (fun i (T : pT) => if T.2.2 (s + 1 + i) = nM then ((cpl nn hd k (s + 1) (sm + po (hd s &&& hd (s + 1 + i))) (T.1, T.2.1, upd (upd T.2.2 s (nI (s + 1 + i))) (s + 1 + i) (nI s))).1, (cpl nn hd k (s + 1) (sm + po (hd s &&& hd (s + 1 + i))) (T.1, T.2.1, upd (upd T.2.2 s (nI (s + 1 + i))) (s + 1 + i) (nI s))).2.1, upd (upd (cpl nn hd k (s + 1) (sm + po (hd s &&& hd (s + 1 + i))) (T.1, T.2.1, upd (upd T.2.2 s (nI (s + 1 + i))) (s + 1 + i) (nI s))).2.2 s nM) (s + 1 + i) nM) else T) (cpl nn hd k (s + 1) sm T) j).1 = max T.1 (sm + (cB (fun a b => po (hd a &&& hd b)) (cM nn (fun a b => po (hd a &&& hd b)) k) s m) j + 1) ∧ (T.1 < sm + (cB (fun a b => po (hd a &&& hd b)) (cM nn (fun a b => po (hd a &&& hd b)) k) s m) j + 1 → ∀ i, (itN (fun i (T : pT) => if T.2.2 (s + 1 + i) = nM then ((cpl nn hd k (s + 1) (sm + po (hd s &&& hd (s + 1 + i))) (T.1, T.2.1, upd (upd T.2.2 s (nI (s + 1 + i))) (s + 1 + i) (nI s))).1, (cpl nn hd k (s + 1) (sm + po (hd s &&& hd (s + 1 + i))) (T.1, T.2.1, upd (upd T.2.2 s (nI (s + 1 + i))) (s + 1 + i) (nI s))).2.1, upd (upd (cpl nn hd k (s + 1) (sm + po (hd s &&& hd (s + 1 + i))) (T.1, T.2.1, upd (upd T.2.2 s (nI (s + 1 + i))) (s + 1 + i) (nI s))).2.2 s nM) (s + 1 + i) nM) else T) (cpl nn hd k (s + 1) sm T) j).2.1 i = if s ≤ i ∧ i < nn ∧ m.testBit i = true then la_n (cAj (cA nn (fun a b => po (hd a &&& hd b)) k) s m ((cD (fun a b => po (hd a &&& hd b)) (cM nn (fun a b => po (hd a &&& hd b)) k) s m) j) i) else T.2.2 i) ∧ (sm + (cB (fun a b => po (hd a &&& hd b)) (cM nn (fun a b => po (hd a &&& hd b)) k) s m) j + 1 ≤ T.1 → (itN (fun i (T : pT) => if T.2.2 (s + 1 + i) = nM then ((cpl nn hd k (s + 1) (sm + po (hd s &&& hd (s + 1 + i))) (T.1, T.2.1, upd (upd T.2.2 s (nI (s + 1 + i))) (s + 1 + i) (nI s))).1, (cpl nn hd k (s + 1) (sm + po (hd s &&& hd (s + 1 + i))) (T.1, T.2.1, upd (upd T.2.2 s (nI (s + 1 + i))) (s + 1 + i) (nI s))).2.1, upd (upd (cpl nn hd k (s + 1) (sm + po (hd s &&& hd (s + 1 + i))) (T.1, T.2.1, upd (upd T.2.2 s (nI (s + 1 + i))) (s + 1 + i) (nI s))).2.2 s nM) (s + 1 + i) nM) else T) (cpl nn hd k (s + 1) sm T) j).2.1 = T.2.1) ∧ (itN (fun i (T : pT) => if T.2.2 (s + 1 + i) = nM then ((cpl nn hd k (s + 1) (sm + po (hd s &&& hd (s + 1 + i))) (T.1, T.2.1, upd (upd T.2.2 s (nI (s + 1 + i))) (s + 1 + i) (nI s))).1, (cpl nn hd k (s + 1) (sm + po (hd s &&& hd (s + 1 + i))) (T.1, T.2.1, upd (upd T.2.2 s (nI (s + 1 + i))) (s + 1 + i) (nI s))).2.1, upd (upd (cpl nn hd k (s + 1) (sm + po (hd s &&& hd (s + 1 + i))) (T.1, T.2.1, upd (upd T.2.2 s (nI (s + 1 + i))) (s + 1 + i) (nI s))).2.2 s nM) (s + 1 + i) nM) else T) (cpl nn hd k (s + 1) sm T) j).2.2 = T.2.2 := by
        intro j
        induction j with
        | zero =>
          intro _
          refine ⟨a1, fun z i => ?_, a3, a4⟩
          refine (a2 z i).trans ?_
          by_cases c2 : i = s
          · subst c2
            rw [if_neg (by omega), if_pos ⟨Nat.le_refl _, by omega, hf⟩, hTs]
            show nM = la_n (if i = i then 0 else _)
            rw [if_pos rfl]
            rfl
          · by_cases c1 : s + 1 ≤ i ∧ i < nn ∧ m.testBit i = true
            · rw [if_pos c1, if_pos ⟨by omega, c1.2⟩]
              show _ = la_n (if i = s then 0 else cA nn (fun a b => po (hd a &&& hd b)) k (s + 1) m i)
              rw [if_neg c2]
            · rw [if_neg c1, if_neg (fun z => c1 ⟨by omega, z.2⟩)]
        | succ j ih =>
          intro hj
          have ih1 := ih (by omega)
          rw [show ∀ (F : Nat → pT → pT) (a : pT), itN F a (j + 1) = F j (itN F a j) from fun _ _ => rfl]
          generalize hR : itN (fun i (T : pT) => if T.2.2 (s + 1 + i) = nM then ((cpl nn hd k (s + 1) (sm + po (hd s &&& hd (s + 1 + i))) (T.1, T.2.1, upd (upd T.2.2 s (nI (s + 1 + i))) (s + 1 + i) (nI s))).1, (cpl nn hd k (s + 1) (sm + po (hd s &&& hd (s + 1 + i))) (T.1, T.2.1, upd (upd T.2.2 s (nI (s + 1 + i))) (s + 1 + i) (nI s))).2.1, upd (upd (cpl nn hd k (s + 1) (sm + po (hd s &&& hd (s + 1 + i))) (T.1, T.2.1, upd (upd T.2.2 s (nI (s + 1 + i))) (s + 1 + i) (nI s))).2.2 s nM) (s + 1 + i) nM) else T) (cpl nn hd k (s + 1) sm T) j = R at ih1 ⊢
          obtain ⟨i1, i2, i3, i4⟩ := ih1
          have ho := hm (s + 1 + j) (by omega) (by omega)
          have eB : (cB (fun a b => po (hd a &&& hd b)) (cM nn (fun a b => po (hd a &&& hd b)) k) s m) (j + 1) = max ((cB (fun a b => po (hd a &&& hd b)) (cM nn (fun a b => po (hd a &&& hd b)) k) s m) j) (if m.testBit (s + 1 + j) = true then po (hd s &&& hd (s + 1 + j)) + cM nn (fun a b => po (hd a &&& hd b)) k (s + 1) (m ^^^ 2 ^ (s + 1 + j)) else 0) := rfl
          have eD : (cD (fun a b => po (hd a &&& hd b)) (cM nn (fun a b => po (hd a &&& hd b)) k) s m) (j + 1) = if m.testBit (s + 1 + j) = true ∧ (cB (fun a b => po (hd a &&& hd b)) (cM nn (fun a b => po (hd a &&& hd b)) k) s m) j < po (hd s &&& hd (s + 1 + j)) + cM nn (fun a b => po (hd a &&& hd b)) k (s + 1) (m ^^^ 2 ^ (s + 1 + j)) then j + 1 else (cD (fun a b => po (hd a &&& hd b)) (cM nn (fun a b => po (hd a &&& hd b)) k) s m) j := rfl
          by_cases hc : m.testBit (s + 1 + j) = true
          · have hTo : T.2.2 (s + 1 + j) = nM := ho.mp hc
            rw [if_pos (show R.2.2 (s + 1 + j) = nM by rw [i4]; exact hTo)]
            rw [if_pos hc] at eB
            have hso : ¬ s = s + 1 + j := by omega
            have hos : ¬ s + 1 + j = s := by omega
            obtain ⟨b1, b2, b3, b4⟩ := cpl_spec hnn k (s + 1) (sm + po (hd s &&& hd (s + 1 + j))) (R.1, R.2.1, upd (upd R.2.2 s (nI (s + 1 + j))) (s + 1 + j) (nI s)) (m ^^^ 2 ^ (s + 1 + j)) (by omega) (fun i h1 h2 => by
              rw [xor_bit]
              show _ ↔ upd (upd R.2.2 s (nI (s + 1 + j))) (s + 1 + j) (nI s) i = nM
              by_cases c3 : i = s + 1 + j
              · rw [if_pos c3, c3]
                simp only [upd, if_true, hc]
                exact ⟨fun z => (by cases z), fun z => absurd z (nI_nM s (by omega))⟩
              · have c4 : ¬ i = s := by omega
                rw [if_neg c3]
                simp only [upd, if_neg c3, if_neg c4]
                rw [i4]
                exact hm i (by omega) h2)
            generalize hR9 : cpl nn hd k (s + 1) (sm + po (hd s &&& hd (s + 1 + j))) (R.1, R.2.1, upd (upd R.2.2 s (nI (s + 1 + j))) (s + 1 + j) (nI s)) = R9 at b1 b2 b3 b4 ⊢
            dsimp only at b1 b2 b3 b4 ⊢
            refine ⟨by rw [b1, eB]; omega, fun z i => ?_, fun z => ?_, ?_⟩
            · by_cases hb : R.1 < sm + po (hd s &&& hd (s + 1 + j)) + cM nn (fun a b => po (hd a &&& hd b)) k (s + 1) (m ^^^ 2 ^ (s + 1 + j)) + 1
              · have eD1 : (cD (fun a b => po (hd a &&& hd b)) (cM nn (fun a b => po (hd a &&& hd b)) k) s m) (j + 1) = j + 1 := by rw [eD]; exact if_pos ⟨hc, by omega⟩
                rw [b2 hb i, eD1, xor_bit]
                by_cases c2 : i = s
                · subst c2
                  rw [if_neg (by omega), if_pos ⟨Nat.le_refl _, by omega, hf⟩]
                  show _ = la_n (if i = i then i + 1 + j + 1 else _)
                  rw [if_pos rfl]
                  simp only [upd, if_neg hso, if_true]
                  rfl
                · by_cases c3 : i = s + 1 + j
                  · rw [if_pos c3, if_neg (by rw [c3, hc]; simp), if_pos ⟨by omega, by omega, by rw [c3]; exact hc⟩]
                    show _ = la_n (if i = s then _ else if i = s + 1 + j then s + 1 else _)
                    rw [if_neg c2, if_pos c3, c3]
                    simp only [upd, if_true]
                    rfl
                  · rw [if_neg c3]
                    by_cases c1 : s + 1 ≤ i ∧ i < nn ∧ m.testBit i = true
                    · rw [if_pos c1, if_pos ⟨by omega, c1.2⟩]
                      show _ = la_n (if i = s then _ else if i = s + 1 + j then s + 1 else cA nn (fun a b => po (hd a &&& hd b)) k (s + 1) (m ^^^ 2 ^ (s + 1 + j)) i)
                      rw [if_neg c2, if_neg c3]
                    · rw [if_neg c1, if_neg (fun z => c1 ⟨by omega, z.2⟩)]
                      simp only [upd, if_neg c3, if_neg c2]
                      rw [i4]
              · have eD1 : (cD (fun a b => po (hd a &&& hd b)) (cM nn (fun a b => po (hd a &&& hd b)) k) s m) (j + 1) = (cD (fun a b => po (hd a &&& hd b)) (cM nn (fun a b => po (hd a &&& hd b)) k) s m) j := by rw [eD]; exact if_neg (fun q => by have := q.2; omega)
                rw [b3 (by omega), eD1]
                exact i2 (by omega) i
            · rw [b3 (by omega)]
              exact i3 (by omega)
            · rw [b4, i4]
              funext i
              unfold upd
              by_cases c3 : i = s + 1 + j
              · simp only [c3, if_true]; exact hTo.symm
              · by_cases c2 : i = s
                · simp only [if_neg c3, c2, if_neg hso, if_true]; exact hTs.symm
                · simp only [if_neg c3, if_neg c2]
          · have hTo : ¬ R.2.2 (s + 1 + j) = nM := by rw [i4]; exact fun z => hc (ho.mpr z)
            rw [if_neg hTo]
            rw [if_neg hc] at eB
            have eD1 : (cD (fun a b => po (hd a &&& hd b)) (cM nn (fun a b => po (hd a &&& hd b)) k) s m) (j + 1) = (cD (fun a b => po (hd a &&& hd b)) (cM nn (fun a b => po (hd a &&& hd b)) k) s m) j := by rw [eD]; exact if_neg (fun q => hc q.1)
            rw [eD1, eB, Nat.max_eq_left (Nat.zero_le _)]
            exact ⟨i1, i2, i3, i4⟩
      have e : cpl nn hd (k + 1) s sm T = itN (fun i (T : pT) => if T.2.2 (s + 1 + i) = nM then ((cpl nn hd k (s + 1) (sm + po (hd s &&& hd (s + 1 + i))) (T.1, T.2.1, upd (upd T.2.2 s (nI (s + 1 + i))) (s + 1 + i) (nI s))).1, (cpl nn hd k (s + 1) (sm + po (hd s &&& hd (s + 1 + i))) (T.1, T.2.1, upd (upd T.2.2 s (nI (s + 1 + i))) (s + 1 + i) (nI s))).2.1, upd (upd (cpl nn hd k (s + 1) (sm + po (hd s &&& hd (s + 1 + i))) (T.1, T.2.1, upd (upd T.2.2 s (nI (s + 1 + i))) (s + 1 + i) (nI s))).2.2 s nM) (s + 1 + i) nM) else T) (cpl nn hd k (s + 1) sm T) (nn - (s + 1)) := by
        rw [e0, if_pos (by rw [a4]; exact hTs)]
      rw [e, eM, eA]
      exact step _ (Nat.le_refl _)
    · have eM : cM nn (fun a b => po (hd a &&& hd b)) (k + 1) s m = cM nn (fun a b => po (hd a &&& hd b)) k (s + 1) m := by
        show (if m.testBit s = true then _ else _) = _
        rw [if_neg hf]
      have eA : cA nn (fun a b => po (hd a &&& hd b)) (k + 1) s m = cA nn (fun a b => po (hd a &&& hd b)) k (s + 1) m := by
        show (if m.testBit s = true then _ else _) = _
        rw [if_neg hf]
      have hTs : ¬ T.2.2 s = nM := fun z => hf (hs.mpr z)
      have e : cpl nn hd (k + 1) s sm T = cpl nn hd k (s + 1) sm T := by
        rw [e0, if_neg (by rw [a4]; exact hTs)]
      rw [e, eM, eA]
      refine ⟨a1, fun z i => ?_, a3, a4⟩
      refine (a2 z i).trans ?_
      by_cases c2 : i = s
      · subst c2
        rw [if_neg (by omega), if_neg (fun z => hf z.2.2)]
      · by_cases c1 : s + 1 ≤ i ∧ i < nn ∧ m.testBit i = true
        · rw [if_pos c1, if_pos ⟨by omega, c1.2⟩]
        · rw [if_neg c1, if_neg (fun z => c1 ⟨by omega, z.2⟩)]
