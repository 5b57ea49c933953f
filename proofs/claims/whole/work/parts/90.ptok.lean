/-! ===== things in a text, by the Model's own steps: pure ===== -/
theorem isD_L {x : Nat} (h : isL x = true) : isD x = false := by
  unfold isL at h
  unfold isD
  simp only [Bool.and_eq_true, decide_eq_true_eq] at h
  rw [Bool.and_eq_false_iff]
  exact Or.inr (decide_eq_false (by omega))
theorem isL_D {x : Nat} (h : isD x = true) : isL x = false := by
  cases e : isL x
  · rfl
  · rw [isD_L e] at h; cases h
theorem spl_iff {bt : Nat → Nat} {b e t : Nat} : spl bt b e t = true ↔ e - b = kln t ∧ ∀ j, j < kln t → bt (b + j) = kb t j := by
  unfold spl
  rw [Bool.and_eq_true, decide_eq_true_eq, Bool.not_eq_true']
  refine ⟨fun h => ⟨h.1, fun j hj => ?_⟩, fun h => ⟨h.1, ?_⟩⟩
  · by_cases q : bt (b + j) = kb t j
    · exact q
    · have h9 : exb (fun j => decide (bt (b + j) ≠ kb t j)) (kln t) = true := exb_true.mpr ⟨j, hj, decide_eq_true q⟩
      rw [h.2] at h9
      cases h9
  · cases q : exb (fun j => decide (bt (b + j) ≠ kb t j)) (kln t)
    · rfl
    · obtain ⟨j, h1, h2⟩ := exb_true.mp q
      exact absurd (h.2 j h1) (of_decide_eq_true h2)
theorem kcP_inj : ∀ k, k < 29 → ∀ k', k' < 29 → (4 ≤ k ∧ 4 ≤ k' ∧ kln (kcP.getD k 0) = kln (kcP.getD k' 0) ∧ ∀ x, x < kln (kcP.getD k 0) → kb (kcP.getD k 0) x = kb (kcP.getD k' 0) x) → k = k' := by decide +kernel
theorem kcP_len : ∀ k, k < 29 → 10 ≤ k → 2 ≤ kln (kcP.getD k 0) := by decide +kernel
theorem kcP_sg : ∀ k, k < 10 → 4 ≤ k → kln (kcP.getD k 0) = 1 ∧ isL (kb (kcP.getD k 0) 0) = false ∧ isD (kb (kcP.getD k 0) 0) = false := by decide +kernel
theorem kdo_eq {bt : Nat → Nat} {b e o t : Nat} (hb : b < e) (ht : 4 ≤ t) (ht2 : t < 29) (ho : o < 4) : kdo bt b e o = t ↔ spl bt b e (kcP.getD t 0) = true := by
  unfold kdo
  constructor
  · intro h
    split at h
    · rename_i q
      have := frs_yes q
      rw [h] at this
      exact this
    · omega
  · intro h
    have h1 : frs (fun k => spl bt b e (kcP.getD k 0)) 29 < 29 := by
      rcases Nat.lt_or_ge (frs (fun k => spl bt b e (kcP.getD k 0)) 29) 29 with q | q
      · exact q
      · have h9 := frs_no (p := fun k => spl bt b e (kcP.getD k 0)) (n := 29) (i := t) (by omega)
        rw [h] at h9
        cases h9
    rw [if_pos h1]
    have h2 := frs_yes h1
    generalize frs (fun k => spl bt b e (kcP.getD k 0)) 29 = f at *
    have h4 : 4 ≤ f := by
      rcases Nat.lt_or_ge f 4 with q | q
      · rw [kcP_4 f q, spl_0 hb] at h2
        cases h2
      · exact q
    obtain ⟨a1, a2⟩ := spl_iff.mp h
    obtain ⟨b1, b2⟩ := spl_iff.mp h2
    exact kcP_inj f h1 t ht2 ⟨h4, ht, by omega, fun x hx => by rw [← b2 x hx, ← a2 x (by omega)]⟩
/-- a place from which the a-th thing is found -/
def pos (bt : Nat → Nat) (n a p : Nat) : Prop := p ≤ n ∧ scn (fun q => isB (bt q)) n p = tP bt n a
def pL (bt : Nat → Nat) (n a : Nat) : Nat := scn (fun q => isL (bt q)) n (tP bt n a)
def pD (bt : Nat → Nat) (n a : Nat) : Nat := scn (fun q => isD (bt q)) n (tP bt n a)
section PT
variable {bt : Nat → Nat} {n a p t : Nat}
theorem pos_E (h : a ≤ tC bt n) : pos bt n a (tE bt n a) := ⟨tE_le h, rfl⟩
theorem pos_P (h : a ≤ tC bt n) : pos bt n a (tP bt n a) := ⟨tP_le h, scn_idem _ (scn_ge _ _ _) (Nat.le_refl _) (tE_le h)⟩
theorem tE_P (h : a < tC bt n) : tE bt n (a + 1) ≤ n := tE_le h
theorem pL_y (ha : a < tC bt n) (h : isL (bt (tP bt n a)) = true) : pL bt n a = tE bt n (a + 1) := by
  unfold pL
  rw [tE_s]
  unfold ted
  rw [if_neg (by rw [isD_L h]; decide), if_pos h]
  exact scn_y (tC_lt ha) h
theorem pL_n (h : isL (bt (tP bt n a)) = false) : pL bt n a = tP bt n a := scn_n h
theorem pL_e (ha : tC bt n = a) : pL bt n a = tP bt n a := scn_e (by rw [← ha, tC_end]; exact Nat.le_refl _)
theorem pD_y (ha : a < tC bt n) (h : isD (bt (tP bt n a)) = true) : pD bt n a = tE bt n (a + 1) := by
  unfold pD
  rw [tE_s]
  unfold ted
  rw [if_pos h]
  exact scn_y (tC_lt ha) h
theorem pD_n (h : isD (bt (tP bt n a)) = false) : pD bt n a = tP bt n a := scn_n h
theorem pD_e (ha : tC bt n = a) : pD bt n a = tP bt n a := scn_e (by rw [← ha, tC_end]; exact Nat.le_refl _)
theorem pL_ge : tP bt n a ≤ pL bt n a := scn_ge _ _ _
theorem pL_le (ha : a ≤ tC bt n) : pL bt n a ≤ n := scn_le _ (tP_le ha)
theorem pD_ge : tP bt n a ≤ pD bt n a := scn_ge _ _ _
theorem pD_le (ha : a ≤ tC bt n) : pD bt n a ≤ n := scn_le _ (tP_le ha)
theorem tk_0 (ha : a = tC bt n) : (tkD bt n).2.1 a = 0 ∧ (tkD bt n).2.2.2 a = 0 := by
  subst ha
  refine ⟨?_, ?_⟩
  · show (if tC bt n < tC bt n then _ else 0) = 0
    rw [if_neg (by omega)]
  · show (if tC bt n < tC bt n then _ else 0) = 0
    rw [if_neg (by omega)]
theorem tk_k (ha : a < tC bt n) : (tkD bt n).2.1 a = tkk bt (tP bt n a) (tE bt n (a + 1)) := if_pos ha
theorem tk_v (ha : a < tC bt n) : (tkD bt n).2.2.2 a = tkv bt (tP bt n a) (tE bt n (a + 1)) := if_pos ha
theorem tP_E (a : Nat) : tP bt n a < tE bt n (a + 1) := by rw [tE_s]; exact ted_gt _ _ _
theorem spl_n {b t : Nat} (h : 1 ≤ kln t) : spl bt b b t = false := by
  cases e : spl bt b b t
  · rfl
  · have := (spl_iff.mp e).1
    omega
/-- a word -/
theorem kd_w (ha : a ≤ tC bt n) (h1 : 10 ≤ t) (h2 : t < 29) : spl bt (tP bt n a) (pL bt n a) (kcP.getD t 0) = decide ((tkD bt n).2.1 a = t) := by
  have hl := kcP_len t h2 h1
  rcases Nat.eq_or_lt_of_le ha with e | e
  · rw [pL_e e.symm, spl_n (by omega), (tk_0 e).1]
    exact (decide_eq_false (by omega)).symm
  · rw [tk_k e]
    unfold tkk
    cases hd : isD (bt (tP bt n a))
    · cases hL : isL (bt (tP bt n a))
      · rw [if_neg (by decide), if_neg (by decide), pL_n hL, spl_n (by omega)]
        symm
        refine decide_eq_false (fun q => ?_)
        have h3 := (spl_iff.mp ((kdo_eq (tP_E a) (by omega) h2 (by omega)).mp q)).1
        rw [tE_s] at h3
        unfold ted at h3
        rw [if_neg (by rw [hd]; decide), if_neg (by rw [hL]; decide)] at h3
        omega
      · rw [if_neg (by decide), if_pos rfl, pL_y e hL]
        cases hs : spl bt (tP bt n a) (tE bt n (a + 1)) (kcP.getD t 0)
        · symm
          refine decide_eq_false (fun q => ?_)
          have h3 := (kdo_eq (tP_E a) (by omega) h2 (by omega)).mp q
          rw [hs] at h3
          cases h3
        · exact (decide_eq_true ((kdo_eq (tP_E a) (by omega) h2 (by omega)).mpr hs)).symm
    · rw [if_pos rfl, pL_n (isL_D hd), spl_n (by omega)]
      exact (decide_eq_false (by omega)).symm
theorem kd_wE (ha : a ≤ tC bt n) (h1 : 10 ≤ t) (h2 : t < 29) (hk : (tkD bt n).2.1 a = t) : pL bt n a = tE bt n (a + 1) ∧ a < tC bt n := by
  have h := kd_w ha h1 h2
  rw [decide_eq_true hk] at h
  have hl := kcP_len t h2 h1
  have h3 := (spl_iff.mp h).1
  rcases Nat.eq_or_lt_of_le ha with e | e
  · rw [pL_e e.symm] at h3; omega
  · refine ⟨?_, e⟩
    cases hL : isL (bt (tP bt n a))
    · rw [pL_n hL] at h3; omega
    · exact pL_y e hL
/-- a sign -/
theorem kd_s {c : Nat} (ha : a ≤ tC bt n) (h1 : 4 ≤ t) (h2 : t < 10) (hc : kb (kcP.getD t 0) 0 = c) : decide (tP bt n a < n ∧ c ≤ bt (tP bt n a) ∧ bt (tP bt n a) ≤ c) = decide ((tkD bt n).2.1 a = t) := by
  obtain ⟨g1, g2, g3⟩ := kcP_sg t h2 h1
  rw [hc] at g2 g3
  rcases Nat.eq_or_lt_of_le ha with e | e
  · have h9 : tP bt n a = n := by rw [e]; exact tC_end bt n
    rw [(tk_0 e).1, decide_eq_false (show ¬ (tP bt n a < n ∧ _) from fun q => by omega)]
    exact (decide_eq_false (by omega)).symm
  · have hp := tC_lt e
    rw [tk_k e]
    refine decide_eq_decide.mpr ⟨fun q => ?_, fun q => ?_⟩
    · have hq : bt (tP bt n a) = c := by omega
      unfold tkk
      rw [hq, g2, g3, if_neg (by decide), if_neg (by decide)]
      refine (kdo_eq (tP_E a) h1 (by omega) (by omega)).mpr (spl_iff.mpr ⟨?_, fun j hj => ?_⟩)
      · rw [tE_s]
        unfold ted
        rw [hq, g2, g3, if_neg (by decide), if_neg (by decide), g1]
        omega
      · rw [show j = 0 by omega, Nat.add_zero, hq, hc]
    · have h5 : bt (tP bt n a) = c := by
        unfold tkk at q
        split at q
        · omega
        · split at q
          · have h6 := (spl_iff.mp ((kdo_eq (tP_E a) h1 (by omega) (by omega)).mp q)).2 0 (by omega)
            rw [Nat.add_zero, hc] at h6
            exact h6
          · have h6 := (spl_iff.mp ((kdo_eq (tP_E a) h1 (by omega) (by omega)).mp q)).2 0 (by omega)
            rw [Nat.add_zero, hc] at h6
            exact h6
      omega
theorem kd_sE (ha : a ≤ tC bt n) (h1 : 4 ≤ t) (h2 : t < 10) (hk : (tkD bt n).2.1 a = t) : tE bt n (a + 1) = tP bt n a + 1 ∧ a < tC bt n := by
  obtain ⟨g1, g2, g3⟩ := kcP_sg t h2 h1
  have h := kd_s ha h1 h2 rfl
  rw [decide_eq_true hk, decide_eq_true_eq] at h
  have hq : bt (tP bt n a) = kb (kcP.getD t 0) 0 := by omega
  rcases Nat.eq_or_lt_of_le ha with e | e
  · rw [(tk_0 e).1] at hk; omega
  · refine ⟨?_, e⟩
    rw [tE_s]
    unfold ted
    rw [hq, g2, g3, if_neg (by decide), if_neg (by decide)]
theorem kd_0 (hn : n ≤ 400) (ha : a ≤ tC bt n) : ((tkD bt n).2.1 a = 0) = (tP bt n a = n) := by
  refine propext ⟨fun q => ?_, fun q => ?_⟩
  · rcases Nat.eq_or_lt_of_le ha with e | e
    · rw [e]; exact tC_end bt n
    · exact absurd q ((tkD_ok hn).2.2.2.1 a e)
  · rcases Nat.eq_or_lt_of_le ha with e | e
    · exact (tk_0 e).1
    · have := tC_lt e; omega
/-- a number -/
theorem nbr_0 {lo hi : Nat} (h : a = tC bt n ∨ isD (bt (tP bt n a)) = false) (ha : a ≤ tC bt n) : nbr (tkD bt n) a lo hi = 0 := by
  unfold nbr
  refine if_neg (fun q => ?_)
  rcases Nat.eq_or_lt_of_le ha with e | e
  · rw [(tk_0 e).1] at q; omega
  · have hd : isD (bt (tP bt n a)) = false := h.resolve_left (by omega)
    rw [tk_k e] at q
    unfold tkk at q
    rw [if_neg (by rw [hd]; decide)] at q
    have h5 := tP_E (bt := bt) (n := n) a
    split at q
    · have := kdo_ge (bt := bt) (o := 2) h5 (by omega); omega
    · have := kdo_ge (bt := bt) (o := 3) h5 (by omega); omega
theorem nbr_y {lo hi : Nat} (ha : a < tC bt n) (hd : isD (bt (tP bt n a)) = true) (hh : hi ≤ 1000) : nbr (tkD bt n) a lo hi = if pD bt n a - tP bt n a ≤ 3 ∧ lo ≤ nmv bt (tP bt n a) (pD bt n a - tP bt n a) ∧ nmv bt (tP bt n a) (pD bt n a - tP bt n a) + 1 ≤ hi then nmv bt (tP bt n a) (pD bt n a - tP bt n a) + 1 else 0 := by
  unfold nbr
  rw [tk_k ha, tk_v ha]
  unfold tkk tkv
  rw [if_pos hd, if_pos hd, pD_y ha hd]
  by_cases h3 : 3 < tE bt n (a + 1) - tP bt n a
  · rw [if_pos h3, if_neg (by omega), if_neg (by omega)]
  · rw [if_neg h3]
    by_cases h4 : lo ≤ nmv bt (tP bt n a) (tE bt n (a + 1) - tP bt n a) ∧ nmv bt (tP bt n a) (tE bt n (a + 1) - tP bt n a) + 1 ≤ hi
    · rw [if_pos ⟨rfl, by omega, h4.2⟩, if_pos ⟨by omega, h4⟩]
    · rw [if_neg (by omega), if_neg (by omega)]
theorem nbr_E {lo hi : Nat} (ha : a ≤ tC bt n) (h : nbr (tkD bt n) a lo hi ≠ 0) : a < tC bt n ∧ pD bt n a = tE bt n (a + 1) := by
  rcases Nat.eq_or_lt_of_le ha with e | e
  · exact absurd (nbr_0 (Or.inl e) ha) h
  · cases hd : isD (bt (tP bt n a))
    · exact absurd (nbr_0 (Or.inr hd) ha) h
    · exact ⟨e, pD_y e hd⟩
end PT
/-- what point and begin are -/
def zq (z : Nat → Int32) (p b : Nat) : Nat → Int32 := fun k => if k = 10 then nI p else if k = 12 then nI b else z k
section ZQ
variable {z : Nat → Int32} {p b q k : Nat} {v : Int32}
theorem zq_10 : zq z p b 10 = nI p := rfl
theorem zq_12 : zq z p b 12 = nI b := rfl
theorem zq_o (h1 : k ≠ 10) (h2 : k ≠ 12) : zq z p b k = z k := by unfold zq; rw [if_neg h1, if_neg h2]
theorem zq_u10 : upd (zq z p b) 10 (nI q) = zq z q b := by
  funext i
  unfold upd zq
  by_cases e : i = 10
  · rw [if_pos e, if_pos e]
  · rw [if_neg e, if_neg e, if_neg e]
theorem zq_u12 : upd (zq z p b) 12 (nI q) = zq z p q := by
  funext i
  unfold upd zq
  by_cases e : i = 10
  · rw [if_neg (by omega), if_pos e, if_pos e]
  · rw [if_neg e, if_neg e]
    by_cases e2 : i = 12
    · rw [if_pos e2, if_pos e2]
    · rw [if_neg e2, if_neg e2, if_neg e2]
theorem zq_uo (h1 : k ≠ 10) (h2 : k ≠ 12) : upd (zq z p b) k v = zq (upd z k v) p b := by
  funext i
  unfold upd zq
  dsimp only
  by_cases e : i = k
  · rw [if_pos e, if_neg (by omega), if_neg (by omega), if_pos e]
  · rw [if_neg e, if_neg e]
theorem zq_zq {p' b' : Nat} : zq (zq z p b) p' b' = zq z p' b' := by
  funext i
  unfold zq
  by_cases e : i = 10
  · rw [if_pos e, if_pos e]
  · rw [if_neg e, if_neg e, if_neg e]
    by_cases e2 : i = 12
    · rw [if_pos e2, if_pos e2]
    · rw [if_neg e2, if_neg e2, if_neg e2]
theorem zq_up {p' b' : Nat} : zq (upd z 10 v) p' b' = zq z p' b' := by
  funext i
  unfold zq upd
  by_cases e : i = 10
  · rw [if_pos e, if_pos e]
  · rw [if_neg e, if_neg e, if_neg e]
theorem zq_e (h1 : z 10 = nI p) (h2 : z 12 = nI b) : zq z p b = z := by
  funext i
  unfold zq
  by_cases e : i = 10
  · rw [if_pos e, e, h1]
  · rw [if_neg e]
    by_cases e2 : i = 12
    · rw [if_pos e2, e2, h2]
    · rw [if_neg e2]
end ZQ
/-- the tape while it is read -/
def px (z : Nat → Int32) (R : Nat → Nat → Int32) (bt : Nat → Nat) (n : Nat) : Prop := z 11 = nI n ∧ n ≤ 400 ∧ (∀ i, i < 400 → R 4 i = sx (bt i)) ∧ ∀ i, bt i < 256
theorem px.q {z : Nat → Int32} {R : Nat → Nat → Int32} {bt : Nat → Nat} {n p b : Nat} (h : px z R bt n) : px (zq z p b) R bt n := ⟨h.1, h.2⟩
theorem sx_n : ∀ x, x < 256 → 128 ≤ x → sx x < nI 0 := by decide +kernel
theorem sx_s {x : Nat} (h : x < 128) : sx x = nI x := if_pos h
theorem sx_lt {x c : Nat} (hx : x < 256) (hc : c < 128) : (sx x < nI c) = (x < c ∨ 128 ≤ x) := by
  rcases Nat.lt_or_ge x 128 with e | e
  · rw [sx_s e, ab_ltI (by omega) (by omega)]
    exact propext ⟨Or.inl, fun q => by omega⟩
  · exact propext ⟨fun _ => Or.inr e, fun _ => Int32.lt_of_lt_of_le (sx_n x hx e) ((nI_leI (by omega) (by omega)).mpr (Nat.zero_le _))⟩
theorem sx_gt {x c : Nat} (hx : x < 256) (hc : c < 128) : (nI c < sx x) = (c < x ∧ x < 128) := by
  rcases Nat.lt_or_ge x 128 with e | e
  · rw [sx_s e, ab_ltI (by omega) (by omega)]
    exact propext ⟨fun q => ⟨q, e⟩, fun q => q.1⟩
  · refine propext ⟨fun q => ?_, fun q => by omega⟩
    exact absurd (Int32.lt_trans q (sx_n x hx e)) (Int32.not_lt.mpr ((nI_leI (by omega) (by omega)).mpr (Nat.zero_le _)))
theorem sx_le {x c : Nat} (hx : x < 256) (hc : c < 128) : (sx x ≤ nI c) = (x ≤ c ∨ 128 ≤ x) := by
  rw [← Int32.not_lt, sx_gt hx hc]
  exact propext ⟨fun q => by omega, fun q => by omega⟩
theorem sx_ge {x c : Nat} (hx : x < 256) (hc : c < 128) : (nI c ≤ sx x) = (c ≤ x ∧ x < 128) := by
  rw [← Int32.not_lt, sx_lt hx hc]
  exact propext ⟨fun q => by omega, fun q => by omega⟩
theorem sx_eq {x c : Nat} (hx : x < 256) (hc : c < 128) : (sx x = nI c) = (x = c) := by
  rcases Nat.lt_or_ge x 128 with e | e
  · rw [sx_s e, ab_eqI (by omega) (by omega)]
  · refine propext ⟨fun q => ?_, fun q => by omega⟩
    have := sx_n x hx e
    rw [q] at this
    exact absurd this (Int32.not_lt.mpr ((nI_leI (by omega) (by omega)).mpr (Nat.zero_le _)))
