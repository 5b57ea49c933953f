/-! ===== Law: steps on a stack ===== -/
/-- two values joined by a step -/
def jn (c x y : Nat) : Nat := if c = 10 then x + y else if c = 11 then (if x < y then 1 else 0) else if c = 12 then (if y < x then 1 else 0) else if c = 13 then x &&& y else x ||| y
/-- a step: a fact, a number, not, or two joined -/
def lstep (Fc : Nat → Nat) (st : List Nat) (c : Nat) : List Nat := if c < 10 then Fc c :: st else if 16 ≤ c then (c - 16) :: st else if c = 15 then (match st with
    | x :: r => (1 - x) :: r
    | [] => []) else (match st with
    | y :: x :: r => jn c x y :: r
    | r => r)
/-- what a step does to the kinds of what lies there (true: yes or no) -/
def tstep (T : List Bool) (c : Nat) : Option (List Bool) := if c < 7 then some (false :: T) else if c < 10 then some (true :: T) else if 16 ≤ c then (if c < 1016 then some (false :: T) else none) else if c = 15 then (match T with
    | true :: r => some (true :: r)
    | _ => none) else if c = 10 then (match T with
    | false :: false :: r => some (false :: r)
    | _ => none) else if c < 13 then (match T with
    | false :: false :: r => some (true :: r)
    | _ => none) else (match T with
    | true :: true :: r => some (true :: r)
    | _ => none)
/-- the stack behind k steps from b on; its kinds -/
def evN (cd Fc : Nat → Nat) (b : Nat) : Nat → List Nat
  | 0 => []
  | k + 1 => lstep Fc (evN cd Fc b k) (cd (b + k))
def tyN (cd : Nat → Nat) (b : Nat) : Nat → Option (List Bool)
  | 0 => some []
  | k + 1 => (tyN cd b k).bind fun T => tstep T (cd (b + k))
/-- a condition of n steps from b on, or none at all -/
def la_wf (cd : Nat → Nat) (b n : Nat) : Prop := (∀ k, k ≤ n → ∃ T, tyN cd b k = some T ∧ T.length ≤ 31) ∧ (n = 0 ∨ tyN cd b n = some [true])
/-- whether it holds -/
def la_h (cd Fc : Nat → Nat) (b n : Nat) : Bool := match evN cd Fc b n with
  | [] => true
  | x :: _ => decide (x ≠ 0)
/-- facts within bounds -/
def fc_ok (Fc : Nat → Nat) : Prop := (∀ i, Fc i ≤ 999) ∧ Fc 7 ≤ 1 ∧ Fc 8 ≤ 1 ∧ Fc 9 ≤ 1
def ty_ok : List Bool → List Nat → Prop
  | [], [] => True
  | t :: T, x :: X => (t = true → x ≤ 1) ∧ ty_ok T X
  | _, _ => False
theorem ty_ok_len : ∀ {T : List Bool} {X : List Nat}, ty_ok T X → T.length = X.length
  | [], [], _ => rfl
  | _ :: _, _ :: _, h => by simp [ty_ok_len h.2]
theorem jn_le {c x y : Nat} (h10 : 10 ≤ c) (hc : c ≠ 10) (hx : x ≤ 1 ∨ c < 13) (hy : y ≤ 1 ∨ c < 13) : jn c x y ≤ 1 := by
  unfold jn
  rw [if_neg hc]
  split
  · split <;> omega
  · split
    · split <;> omega
    · have hx : x ≤ 1 := by omega
      have hy : y ≤ 1 := by omega
      rcases (show x = 0 ∨ x = 1 by omega) with rfl | rfl <;> rcases (show y = 0 ∨ y = 1 by omega) with rfl | rfl <;> (split <;> decide)
theorem jn_sum {c x y : Nat} (h10 : 10 ≤ c) (h : c < 13 ∨ (x ≤ 1 ∧ y ≤ 1)) : jn c x y ≤ x + y := by
  unfold jn
  split
  · omega
  · split
    · split <;> omega
    · split
      · split <;> omega
      · have hx : x ≤ 1 := by omega
        have hy : y ≤ 1 := by omega
        rcases (show x = 0 ∨ x = 1 by omega) with rfl | rfl <;> rcases (show y = 0 ∨ y = 1 by omega) with rfl | rfl <;> (split <;> decide)
theorem ty_step {Fc : Nat → Nat} (hF : fc_ok Fc) {T T' : List Bool} {X : List Nat} {c : Nat} (h : ty_ok T X) (ht : tstep T c = some T') : ty_ok T' (lstep Fc X c) ∧ (lstep Fc X c).sum ≤ X.sum + 1000 := by
  unfold tstep at ht
  unfold lstep
  by_cases h7 : c < 7
  · rw [if_pos h7] at ht
    rw [if_pos (by omega)]
    cases ht
    have := hF.1 c
    exact ⟨⟨fun q => absurd q (by decide), h⟩, by simp only [List.sum_cons]; omega⟩
  · rw [if_neg h7] at ht
    by_cases h10 : c < 10
    · rw [if_pos h10] at ht
      rw [if_pos h10]
      cases ht
      have : Fc c ≤ 1 := by
        rcases (show c = 7 ∨ c = 8 ∨ c = 9 by omega) with rfl | rfl | rfl
        · exact hF.2.1
        · exact hF.2.2.1
        · exact hF.2.2.2
      exact ⟨⟨fun _ => this, h⟩, by simp only [List.sum_cons]; omega⟩
    · rw [if_neg h10] at ht ⊢
      by_cases h16 : 16 ≤ c
      · rw [if_pos h16] at ht ⊢
        split at ht
        · cases ht
          exact ⟨⟨fun q => absurd q (by decide), h⟩, by simp only [List.sum_cons]; omega⟩
        · cases ht
      · rw [if_neg h16] at ht ⊢
        by_cases h15 : c = 15
        · rw [if_pos h15] at ht ⊢
          match T, X, h, ht with
          | true :: r, x :: X, h, ht =>
            cases ht
            have := h.1 rfl
            exact ⟨⟨fun _ => by omega, h.2⟩, by simp only [List.sum_cons]; omega⟩
          | false :: r, X, h, ht => cases ht
          | [], X, h, ht => cases ht
        · rw [if_neg h15] at ht ⊢
          have h10' : 10 ≤ c := by omega
          match T, X, h with
          | t1 :: t2 :: r, y :: x :: X, h =>
            by_cases e10 : c = 10
            · rw [if_pos e10] at ht
              have hs := jn_sum (c := c) (x := x) (y := y) h10' (Or.inl (by omega))
              cases t1 <;> cases t2 <;> cases ht
              exact ⟨⟨fun q => absurd q (by decide), h.2.2⟩, by simp only [List.sum_cons]; omega⟩
            · rw [if_neg e10] at ht
              by_cases e13 : c < 13
              · rw [if_pos e13] at ht
                have hs := jn_sum (c := c) (x := x) (y := y) h10' (Or.inl e13)
                cases t1 <;> cases t2 <;> cases ht
                exact ⟨⟨fun _ => jn_le h10' e10 (Or.inr e13) (Or.inr e13), h.2.2⟩, by simp only [List.sum_cons]; omega⟩
              · rw [if_neg e13] at ht
                cases t1 <;> cases t2 <;> cases ht
                have hs := jn_sum (c := c) (x := x) (y := y) h10' (Or.inr ⟨h.2.1 rfl, h.1 rfl⟩)
                exact ⟨⟨fun _ => jn_le h10' e10 (Or.inl (h.2.1 rfl)) (Or.inl (h.1 rfl)), h.2.2⟩, by simp only [List.sum_cons]; omega⟩
          | [], X, h =>
            exfalso
            by_cases e10 : c = 10
            · rw [if_pos e10] at ht; cases ht
            · rw [if_neg e10] at ht
              by_cases e13 : c < 13
              · rw [if_pos e13] at ht; cases ht
              · rw [if_neg e13] at ht; cases ht
          | [t1], X, h =>
            exfalso
            by_cases e10 : c = 10
            · rw [if_pos e10] at ht; cases t1 <;> cases ht
            · rw [if_neg e10] at ht
              by_cases e13 : c < 13
              · rw [if_pos e13] at ht; cases t1 <;> cases ht
              · rw [if_neg e13] at ht; cases t1 <;> cases ht
theorem ty_run {cd Fc : Nat → Nat} (hF : fc_ok Fc) {b : Nat} : ∀ {k : Nat} {T : List Bool}, tyN cd b k = some T → ty_ok T (evN cd Fc b k) ∧ (evN cd Fc b k).sum ≤ k * 1000
  | 0, T, h => by cases h; exact ⟨trivial, by simp [evN]⟩
  | k + 1, T, h => by
    unfold tyN at h
    cases e : tyN cd b k with
    | none => rw [e] at h; cases h
    | some T0 =>
      rw [e] at h
      obtain ⟨h1, h2⟩ := ty_run hF e
      obtain ⟨h3, h4⟩ := ty_step hF h1 h
      exact ⟨h3, by unfold evN; omega⟩
/-! the cells -/
abbrev la_F : Type := Int32 × Int32 × (Nat → Nat → Int32)
def la_fs (l : Nat) (L : la_F) : List Value := [.int L.1, .ref (l + 1), .ref (l + 2), .ref (l + 3), .ref (l + 4), .ref (l + 5), .int L.2.1, .ref (l + 6)]
def la_at (h : ab_H) (l : Nat) (L : la_F) (R : Nat → Int32) : Prop := h l = some (.inl (3, la_fs l L)) ∧ h (l + 1) = some (.inr (0, 12, .inl (L.2.2 1))) ∧ h (l + 2) = some (.inr (0, 12, .inl (L.2.2 2))) ∧ h (l + 3) = some (.inr (0, 12, .inl (L.2.2 3))) ∧ h (l + 4) = some (.inr (0, 12, .inl (L.2.2 4))) ∧ h (l + 5) = some (.inr (0, 400, .inl (L.2.2 5))) ∧ h (l + 6) = some (.inr (0, 32, .inl R))
/-- how many lines (0: no law; n + 1: n lines), how many steps; rows: 1 kinds, 2 amounts, 3 begins, 4 behinds, 5 steps -/
abbrev lw : Type := Nat × Nat × (Nat → Nat → Nat)
def la_n (x : Nat) : Int32 := match x with
  | 0 => nM
  | n + 1 => nI n
def la_of (W : lw) : la_F := (la_n W.1, nI W.2.1, fun j i => nI (W.2.2 j i))
theorem la_2 (W : lw) (j i : Nat) : (la_of W).2.2 j i = nI (W.2.2 j i) := rfl
/-- a law within bounds: each line's condition well formed -/
def la_ok (W : lw) : Prop := W.1 ≤ 13 ∧ W.2.1 ≤ 400 ∧ ∀ i, i + 1 < W.1 → W.2.2 1 i ≤ 2 ∧ W.2.2 2 i ≤ 100 ∧ W.2.2 3 i ≤ W.2.2 4 i ∧ W.2.2 4 i ≤ 400 ∧ (∀ k, W.2.2 5 k < 1016) ∧ la_wf (W.2.2 5) (W.2.2 3 i) (W.2.2 4 i - W.2.2 3 i)
theorem c_joined {c x y nx : Nat} {h : ab_H} (h10 : 10 ≤ c) (h14 : c ≤ 14) (hx : x < 2 ^ 30) (hy : y < 2 ^ 30) : ab_Con mX4_joined [.int (nI c), .int (nI x), .int (nI y)] nx h (ab_an (.int (nI (jn c x y))) nx h) := by
  refine ab_Con.of (by decide) rfl (Nat.le_of_ble_eq_true rfl) ?_
  refine ab_g_v okX4_joined (cut := []) 20 _ _ _ _ _ _ _ _ (ab_sq_b okX4_joined [] 0) ?_
  have hb_s : ab_b iX4_joined [] 0 = [(0, .iload_n 0, 1, 0, 0), (1, .tableswitch 61 10 13 #[31, 35, 46, 57], 31, 0, 0), (32, .iload_n 1, 1, 0, 0), (33, .iload_n 2, 1, 0, 0), (34, .iadd, 1, 0, 0), (35, .ireturn, 1, 0, 0), (36, .iload_n 1, 1, 0, 0), (37, .iload_n 2, 1, 0, 0), (38, .if_icmp .ge 7, 3, 0, 45), (41, .iconst 1, 1, 0, 0), (42, .goto 4, 3, 0, 46), (45, .iconst 0, 1, 0, 0), (46, .ireturn, 1, 0, 0), (47, .iload_n 1, 1, 0, 0), (48, .iload_n 2, 1, 0, 0), (49, .if_icmp .le 7, 3, 0, 56), (52, .iconst 1, 1, 0, 0), (53, .goto 4, 3, 0, 57), (56, .iconst 0, 1, 0, 0), (57, .ireturn, 1, 0, 0), (58, .iload_n 1, 1, 0, 0), (59, .iload_n 2, 1, 0, 0), (60, .iand, 1, 0, 0), (61, .ireturn, 1, 0, 0), (62, .iload_n 1, 1, 0, 0), (63, .iload_n 2, 1, 0, 0), (64, .ior, 1, 0, 0), (65, .ireturn, 1, 0, 0)] := rfl
  simp (disch := omega) only [hb_s, mX4_joined, Nat.beq, ab_l0, List.map_cons, List.map_nil, List.length_cons, List.length_nil, List.cons_append, List.nil_append, List.replicate, Nat.reduceAdd, Nat.reduceSub, List.getElem?_cons_zero, List.getElem?_cons_succ, List.getElem?_nil, List.set_cons_zero, List.set_cons_succ, true_and, and_true, ab_cst0, ab_cst1, ab_cst2, ab_cst3, ab_cst4, ab_cst5, ab_up_s, Nat.le_refl, Nat.reduceLT, Nat.reduceLeDiff, Nat.lt_add_one, Nat.zero_le, nz, n1, nI_add, pk_mul, pk_sub, ab_dec1, ab_vin, ab_leI, ab_ltI, ab_eqI, ab_neI, nI_clamp, ab_m1a, ab_m1b, ab_m1c, ab_m1d, ab_m1e, ab_m1f, ab_up_n, reduceIte, Nat.add_eq_left, Nat.left_eq_add, Nat.add_left_cancel_iff, Nat.reduceEqDiff, not_true_eq_false, not_false_eq_true, ne_eq, or_true, true_or, false_implies, forall_const, if_true, if_false, Nat.reduceMul, Bool.false_eq_true, reduceCtorEq, true_implies, ge_iconst, ge_bipush, ge_sipush, ge_iload, ge_aload, ge_istore, ge_astore, ge_iinc, ge_iadd, ge_isub, ge_imul, ge_iand, ge_ior, ge_ixor, ge_ishl, ge_ishr, ge_iushr, ge_idiv, ge_irem, ge_ineg, ge_i2l, ge_i2b, ge_dup, ge_dupr, ge_pop, ge_popr, ge_dup2, ge_goto, ge_ifCond_eq, ge_if_icmp_eq, ge_ifCond_ne, ge_if_icmp_ne, ge_ifCond_lt, ge_if_icmp_lt, ge_ifCond_ge, ge_if_icmp_ge, ge_ifCond_gt, ge_if_icmp_gt, ge_ifCond_le, ge_if_icmp_le, ge_getfield, ge_putfield, ge_iaload, ge_iastore, ge_baload, ge_ireturn, ge_return_, ge_invokevirtual, ge_invokestatic, ge_invokespecial, ge_nop, ge_new, ge_ldc, ge_ldc_w, ge_newarray, ge_anewarray, ge_getstatic, ge_aaload, ge_aastore, ge_bastore, ge_laload, ge_lastore, ge_lcmp, ge_athrow, ge_arraylength, ge_areturn, ge_if_acmp, ge_lconst, ge_tableswitch, ge_iload_n0, ge_iload_n1, ge_iload_n2, ge_iload_n3, ge_aload_n0, ge_aload_n1, ge_aload_n2, ge_aload_n3, ge_istore_n0, ge_istore_n1, ge_istore_n2, ge_istore_n3, ge_astore_n0, ge_astore_n1, ge_astore_n2, ge_astore_n3]
  try clear hb_s
  rcases (show c = 10 ∨ c = 11 ∨ c = 12 ∨ c = 13 ∨ c = 14 by omega) with rfl | rfl | rfl | rfl | rfl
  · refine bv_tswI (off := 31) (tgt := 32) okX4_joined rfl (by decide) (by decide) (by decide) rfl ?_
    refine ab_g_v okX4_joined (cut := []) 20 _ _ _ _ _ _ _ _ (ab_sq_b okX4_joined [] 32) ?_
    have hb_s : ab_b iX4_joined [] 32 = [(32, .iload_n 1, 1, 0, 0), (33, .iload_n 2, 1, 0, 0), (34, .iadd, 1, 0, 0), (35, .ireturn, 1, 0, 0), (36, .iload_n 1, 1, 0, 0), (37, .iload_n 2, 1, 0, 0), (38, .if_icmp .ge 7, 3, 0, 45), (41, .iconst 1, 1, 0, 0), (42, .goto 4, 3, 0, 46), (45, .iconst 0, 1, 0, 0), (46, .ireturn, 1, 0, 0), (47, .iload_n 1, 1, 0, 0), (48, .iload_n 2, 1, 0, 0), (49, .if_icmp .le 7, 3, 0, 56), (52, .iconst 1, 1, 0, 0), (53, .goto 4, 3, 0, 57), (56, .iconst 0, 1, 0, 0), (57, .ireturn, 1, 0, 0), (58, .iload_n 1, 1, 0, 0), (59, .iload_n 2, 1, 0, 0), (60, .iand, 1, 0, 0), (61, .ireturn, 1, 0, 0), (62, .iload_n 1, 1, 0, 0), (63, .iload_n 2, 1, 0, 0), (64, .ior, 1, 0, 0), (65, .ireturn, 1, 0, 0)] := rfl
    simp (disch := omega) only [hb_s, mX4_joined, Nat.beq, ab_l0, List.map_cons, List.map_nil, List.length_cons, List.length_nil, List.cons_append, List.nil_append, List.replicate, Nat.reduceAdd, Nat.reduceSub, List.getElem?_cons_zero, List.getElem?_cons_succ, List.getElem?_nil, List.set_cons_zero, List.set_cons_succ, true_and, and_true, ab_cst0, ab_cst1, ab_cst2, ab_cst3, ab_cst4, ab_cst5, ab_up_s, Nat.le_refl, Nat.reduceLT, Nat.reduceLeDiff, Nat.lt_add_one, Nat.zero_le, nz, n1, nI_add, pk_mul, pk_sub, ab_dec1, ab_vin, ab_leI, ab_ltI, ab_eqI, ab_neI, nI_clamp, ab_m1a, ab_m1b, ab_m1c, ab_m1d, ab_m1e, ab_m1f, ab_up_n, reduceIte, Nat.add_eq_left, Nat.left_eq_add, Nat.add_left_cancel_iff, Nat.reduceEqDiff, not_true_eq_false, not_false_eq_true, ne_eq, or_true, true_or, false_implies, forall_const, if_true, if_false, Nat.reduceMul, Bool.false_eq_true, reduceCtorEq, true_implies, ge_iconst, ge_bipush, ge_sipush, ge_iload, ge_aload, ge_istore, ge_astore, ge_iinc, ge_iadd, ge_isub, ge_imul, ge_iand, ge_ior, ge_ixor, ge_ishl, ge_ishr, ge_iushr, ge_idiv, ge_irem, ge_ineg, ge_i2l, ge_i2b, ge_dup, ge_dupr, ge_pop, ge_popr, ge_dup2, ge_goto, ge_ifCond_eq, ge_if_icmp_eq, ge_ifCond_ne, ge_if_icmp_ne, ge_ifCond_lt, ge_if_icmp_lt, ge_ifCond_ge, ge_if_icmp_ge, ge_ifCond_gt, ge_if_icmp_gt, ge_ifCond_le, ge_if_icmp_le, ge_getfield, ge_putfield, ge_iaload, ge_iastore, ge_baload, ge_ireturn, ge_return_, ge_invokevirtual, ge_invokestatic, ge_invokespecial, ge_nop, ge_new, ge_ldc, ge_ldc_w, ge_newarray, ge_anewarray, ge_getstatic, ge_aaload, ge_aastore, ge_bastore, ge_laload, ge_lastore, ge_lcmp, ge_athrow, ge_arraylength, ge_areturn, ge_if_acmp, ge_lconst, ge_tableswitch, ge_iload_n0, ge_iload_n1, ge_iload_n2, ge_iload_n3, ge_aload_n0, ge_aload_n1, ge_aload_n2, ge_aload_n3, ge_istore_n0, ge_istore_n1, ge_istore_n2, ge_istore_n3, ge_astore_n0, ge_astore_n1, ge_astore_n2, ge_astore_n3, ab_an]
    try clear hb_s
    rfl
  · refine bv_tswI (off := 35) (tgt := 36) okX4_joined rfl (by decide) (by decide) (by decide) rfl ?_
    refine ab_g_v okX4_joined (cut := []) 20 _ _ _ _ _ _ _ _ (ab_sq_b okX4_joined [] 36) ?_
    have hb_s : ab_b iX4_joined [] 36 = [(36, .iload_n 1, 1, 0, 0), (37, .iload_n 2, 1, 0, 0), (38, .if_icmp .ge 7, 3, 0, 45), (41, .iconst 1, 1, 0, 0), (42, .goto 4, 3, 0, 46), (45, .iconst 0, 1, 0, 0), (46, .ireturn, 1, 0, 0), (47, .iload_n 1, 1, 0, 0), (48, .iload_n 2, 1, 0, 0), (49, .if_icmp .le 7, 3, 0, 56), (52, .iconst 1, 1, 0, 0), (53, .goto 4, 3, 0, 57), (56, .iconst 0, 1, 0, 0), (57, .ireturn, 1, 0, 0), (58, .iload_n 1, 1, 0, 0), (59, .iload_n 2, 1, 0, 0), (60, .iand, 1, 0, 0), (61, .ireturn, 1, 0, 0), (62, .iload_n 1, 1, 0, 0), (63, .iload_n 2, 1, 0, 0), (64, .ior, 1, 0, 0), (65, .ireturn, 1, 0, 0)] := rfl
    have hb_45 : ab_b iX4_joined [] 45 = [(45, .iconst 0, 1, 0, 0), (46, .ireturn, 1, 0, 0), (47, .iload_n 1, 1, 0, 0), (48, .iload_n 2, 1, 0, 0), (49, .if_icmp .le 7, 3, 0, 56), (52, .iconst 1, 1, 0, 0), (53, .goto 4, 3, 0, 57), (56, .iconst 0, 1, 0, 0), (57, .ireturn, 1, 0, 0), (58, .iload_n 1, 1, 0, 0), (59, .iload_n 2, 1, 0, 0), (60, .iand, 1, 0, 0), (61, .ireturn, 1, 0, 0), (62, .iload_n 1, 1, 0, 0), (63, .iload_n 2, 1, 0, 0), (64, .ior, 1, 0, 0), (65, .ireturn, 1, 0, 0)] := rfl
    have hb_46 : ab_b iX4_joined [] 46 = [(46, .ireturn, 1, 0, 0), (47, .iload_n 1, 1, 0, 0), (48, .iload_n 2, 1, 0, 0), (49, .if_icmp .le 7, 3, 0, 56), (52, .iconst 1, 1, 0, 0), (53, .goto 4, 3, 0, 57), (56, .iconst 0, 1, 0, 0), (57, .ireturn, 1, 0, 0), (58, .iload_n 1, 1, 0, 0), (59, .iload_n 2, 1, 0, 0), (60, .iand, 1, 0, 0), (61, .ireturn, 1, 0, 0), (62, .iload_n 1, 1, 0, 0), (63, .iload_n 2, 1, 0, 0), (64, .ior, 1, 0, 0), (65, .ireturn, 1, 0, 0)] := rfl
    simp (disch := omega) only [hb_s, hb_45, hb_46, mX4_joined, Nat.beq, ab_l0, List.map_cons, List.map_nil, List.length_cons, List.length_nil, List.cons_append, List.nil_append, List.replicate, Nat.reduceAdd, Nat.reduceSub, List.getElem?_cons_zero, List.getElem?_cons_succ, List.getElem?_nil, List.set_cons_zero, List.set_cons_succ, true_and, and_true, ab_cst0, ab_cst1, ab_cst2, ab_cst3, ab_cst4, ab_cst5, ab_up_s, Nat.le_refl, Nat.reduceLT, Nat.reduceLeDiff, Nat.lt_add_one, Nat.zero_le, nz, n1, nI_add, pk_mul, pk_sub, ab_dec1, ab_vin, ab_leI, ab_ltI, ab_eqI, ab_neI, nI_clamp, ab_m1a, ab_m1b, ab_m1c, ab_m1d, ab_m1e, ab_m1f, ab_up_n, reduceIte, Nat.add_eq_left, Nat.left_eq_add, Nat.add_left_cancel_iff, Nat.reduceEqDiff, not_true_eq_false, not_false_eq_true, ne_eq, or_true, true_or, false_implies, forall_const, if_true, if_false, Nat.reduceMul, Bool.false_eq_true, reduceCtorEq, true_implies, ge_iconst, ge_bipush, ge_sipush, ge_iload, ge_aload, ge_istore, ge_astore, ge_iinc, ge_iadd, ge_isub, ge_imul, ge_iand, ge_ior, ge_ixor, ge_ishl, ge_ishr, ge_iushr, ge_idiv, ge_irem, ge_ineg, ge_i2l, ge_i2b, ge_dup, ge_dupr, ge_pop, ge_popr, ge_dup2, ge_goto, ge_ifCond_eq, ge_if_icmp_eq, ge_ifCond_ne, ge_if_icmp_ne, ge_ifCond_lt, ge_if_icmp_lt, ge_ifCond_ge, ge_if_icmp_ge, ge_ifCond_gt, ge_if_icmp_gt, ge_ifCond_le, ge_if_icmp_le, ge_getfield, ge_putfield, ge_iaload, ge_iastore, ge_baload, ge_ireturn, ge_return_, ge_invokevirtual, ge_invokestatic, ge_invokespecial, ge_nop, ge_new, ge_ldc, ge_ldc_w, ge_newarray, ge_anewarray, ge_getstatic, ge_aaload, ge_aastore, ge_bastore, ge_laload, ge_lastore, ge_lcmp, ge_athrow, ge_arraylength, ge_areturn, ge_if_acmp, ge_lconst, ge_tableswitch, ge_iload_n0, ge_iload_n1, ge_iload_n2, ge_iload_n3, ge_aload_n0, ge_aload_n1, ge_aload_n2, ge_aload_n3, ge_istore_n0, ge_istore_n1, ge_istore_n2, ge_istore_n3, ge_astore_n0, ge_astore_n1, ge_astore_n2, ge_astore_n3, ab_an]
    try clear hb_s hb_45 hb_46
    exact ⟨fun q => by simp [jn, show ¬ x < y by omega], fun q => by simp [jn, show x < y by omega]⟩
  · refine bv_tswI (off := 46) (tgt := 47) okX4_joined rfl (by decide) (by decide) (by decide) rfl ?_
    refine ab_g_v okX4_joined (cut := []) 20 _ _ _ _ _ _ _ _ (ab_sq_b okX4_joined [] 47) ?_
    have hb_s : ab_b iX4_joined [] 47 = [(47, .iload_n 1, 1, 0, 0), (48, .iload_n 2, 1, 0, 0), (49, .if_icmp .le 7, 3, 0, 56), (52, .iconst 1, 1, 0, 0), (53, .goto 4, 3, 0, 57), (56, .iconst 0, 1, 0, 0), (57, .ireturn, 1, 0, 0), (58, .iload_n 1, 1, 0, 0), (59, .iload_n 2, 1, 0, 0), (60, .iand, 1, 0, 0), (61, .ireturn, 1, 0, 0), (62, .iload_n 1, 1, 0, 0), (63, .iload_n 2, 1, 0, 0), (64, .ior, 1, 0, 0), (65, .ireturn, 1, 0, 0)] := rfl
    have hb_56 : ab_b iX4_joined [] 56 = [(56, .iconst 0, 1, 0, 0), (57, .ireturn, 1, 0, 0), (58, .iload_n 1, 1, 0, 0), (59, .iload_n 2, 1, 0, 0), (60, .iand, 1, 0, 0), (61, .ireturn, 1, 0, 0), (62, .iload_n 1, 1, 0, 0), (63, .iload_n 2, 1, 0, 0), (64, .ior, 1, 0, 0), (65, .ireturn, 1, 0, 0)] := rfl
    have hb_57 : ab_b iX4_joined [] 57 = [(57, .ireturn, 1, 0, 0), (58, .iload_n 1, 1, 0, 0), (59, .iload_n 2, 1, 0, 0), (60, .iand, 1, 0, 0), (61, .ireturn, 1, 0, 0), (62, .iload_n 1, 1, 0, 0), (63, .iload_n 2, 1, 0, 0), (64, .ior, 1, 0, 0), (65, .ireturn, 1, 0, 0)] := rfl
    simp (disch := omega) only [hb_s, hb_56, hb_57, mX4_joined, Nat.beq, ab_l0, List.map_cons, List.map_nil, List.length_cons, List.length_nil, List.cons_append, List.nil_append, List.replicate, Nat.reduceAdd, Nat.reduceSub, List.getElem?_cons_zero, List.getElem?_cons_succ, List.getElem?_nil, List.set_cons_zero, List.set_cons_succ, true_and, and_true, ab_cst0, ab_cst1, ab_cst2, ab_cst3, ab_cst4, ab_cst5, ab_up_s, Nat.le_refl, Nat.reduceLT, Nat.reduceLeDiff, Nat.lt_add_one, Nat.zero_le, nz, n1, nI_add, pk_mul, pk_sub, ab_dec1, ab_vin, ab_leI, ab_ltI, ab_eqI, ab_neI, nI_clamp, ab_m1a, ab_m1b, ab_m1c, ab_m1d, ab_m1e, ab_m1f, ab_up_n, reduceIte, Nat.add_eq_left, Nat.left_eq_add, Nat.add_left_cancel_iff, Nat.reduceEqDiff, not_true_eq_false, not_false_eq_true, ne_eq, or_true, true_or, false_implies, forall_const, if_true, if_false, Nat.reduceMul, Bool.false_eq_true, reduceCtorEq, true_implies, ge_iconst, ge_bipush, ge_sipush, ge_iload, ge_aload, ge_istore, ge_astore, ge_iinc, ge_iadd, ge_isub, ge_imul, ge_iand, ge_ior, ge_ixor, ge_ishl, ge_ishr, ge_iushr, ge_idiv, ge_irem, ge_ineg, ge_i2l, ge_i2b, ge_dup, ge_dupr, ge_pop, ge_popr, ge_dup2, ge_goto, ge_ifCond_eq, ge_if_icmp_eq, ge_ifCond_ne, ge_if_icmp_ne, ge_ifCond_lt, ge_if_icmp_lt, ge_ifCond_ge, ge_if_icmp_ge, ge_ifCond_gt, ge_if_icmp_gt, ge_ifCond_le, ge_if_icmp_le, ge_getfield, ge_putfield, ge_iaload, ge_iastore, ge_baload, ge_ireturn, ge_return_, ge_invokevirtual, ge_invokestatic, ge_invokespecial, ge_nop, ge_new, ge_ldc, ge_ldc_w, ge_newarray, ge_anewarray, ge_getstatic, ge_aaload, ge_aastore, ge_bastore, ge_laload, ge_lastore, ge_lcmp, ge_athrow, ge_arraylength, ge_areturn, ge_if_acmp, ge_lconst, ge_tableswitch, ge_iload_n0, ge_iload_n1, ge_iload_n2, ge_iload_n3, ge_aload_n0, ge_aload_n1, ge_aload_n2, ge_aload_n3, ge_istore_n0, ge_istore_n1, ge_istore_n2, ge_istore_n3, ge_astore_n0, ge_astore_n1, ge_astore_n2, ge_astore_n3, ab_an]
    try clear hb_s hb_56 hb_57
    exact ⟨fun q => by simp [jn, show ¬ y < x by omega], fun q => by simp [jn, show y < x by omega]⟩
  · refine bv_tswI (off := 57) (tgt := 58) okX4_joined rfl (by decide) (by decide) (by decide) rfl ?_
    refine ab_g_v okX4_joined (cut := []) 20 _ _ _ _ _ _ _ _ (ab_sq_b okX4_joined [] 58) ?_
    have hb_s : ab_b iX4_joined [] 58 = [(58, .iload_n 1, 1, 0, 0), (59, .iload_n 2, 1, 0, 0), (60, .iand, 1, 0, 0), (61, .ireturn, 1, 0, 0), (62, .iload_n 1, 1, 0, 0), (63, .iload_n 2, 1, 0, 0), (64, .ior, 1, 0, 0), (65, .ireturn, 1, 0, 0)] := rfl
    simp (disch := omega) only [hb_s, mX4_joined, Nat.beq, ab_l0, List.map_cons, List.map_nil, List.length_cons, List.length_nil, List.cons_append, List.nil_append, List.replicate, Nat.reduceAdd, Nat.reduceSub, List.getElem?_cons_zero, List.getElem?_cons_succ, List.getElem?_nil, List.set_cons_zero, List.set_cons_succ, true_and, and_true, ab_cst0, ab_cst1, ab_cst2, ab_cst3, ab_cst4, ab_cst5, ab_up_s, Nat.le_refl, Nat.reduceLT, Nat.reduceLeDiff, Nat.lt_add_one, Nat.zero_le, nz, n1, nI_add, pk_mul, pk_sub, ab_dec1, ab_vin, ab_leI, ab_ltI, ab_eqI, ab_neI, nI_clamp, ab_m1a, ab_m1b, ab_m1c, ab_m1d, ab_m1e, ab_m1f, ab_up_n, reduceIte, Nat.add_eq_left, Nat.left_eq_add, Nat.add_left_cancel_iff, Nat.reduceEqDiff, not_true_eq_false, not_false_eq_true, ne_eq, or_true, true_or, false_implies, forall_const, if_true, if_false, Nat.reduceMul, Bool.false_eq_true, reduceCtorEq, true_implies, ge_iconst, ge_bipush, ge_sipush, ge_iload, ge_aload, ge_istore, ge_astore, ge_iinc, ge_iadd, ge_isub, ge_imul, ge_iand, ge_ior, ge_ixor, ge_ishl, ge_ishr, ge_iushr, ge_idiv, ge_irem, ge_ineg, ge_i2l, ge_i2b, ge_dup, ge_dupr, ge_pop, ge_popr, ge_dup2, ge_goto, ge_ifCond_eq, ge_if_icmp_eq, ge_ifCond_ne, ge_if_icmp_ne, ge_ifCond_lt, ge_if_icmp_lt, ge_ifCond_ge, ge_if_icmp_ge, ge_ifCond_gt, ge_if_icmp_gt, ge_ifCond_le, ge_if_icmp_le, ge_getfield, ge_putfield, ge_iaload, ge_iastore, ge_baload, ge_ireturn, ge_return_, ge_invokevirtual, ge_invokestatic, ge_invokespecial, ge_nop, ge_new, ge_ldc, ge_ldc_w, ge_newarray, ge_anewarray, ge_getstatic, ge_aaload, ge_aastore, ge_bastore, ge_laload, ge_lastore, ge_lcmp, ge_athrow, ge_arraylength, ge_areturn, ge_if_acmp, ge_lconst, ge_tableswitch, ge_iload_n0, ge_iload_n1, ge_iload_n2, ge_iload_n3, ge_aload_n0, ge_aload_n1, ge_aload_n2, ge_aload_n3, ge_istore_n0, ge_istore_n1, ge_istore_n2, ge_istore_n3, ge_astore_n0, ge_astore_n1, ge_astore_n2, ge_astore_n3, ab_an, nb_and]
    try clear hb_s
    rfl
  · refine bv_tswO (tgt := 62) okX4_joined rfl (by decide) rfl ?_
    refine ab_g_v okX4_joined (cut := []) 20 _ _ _ _ _ _ _ _ (ab_sq_b okX4_joined [] 62) ?_
    have hb_s : ab_b iX4_joined [] 62 = [(62, .iload_n 1, 1, 0, 0), (63, .iload_n 2, 1, 0, 0), (64, .ior, 1, 0, 0), (65, .ireturn, 1, 0, 0)] := rfl
    simp (disch := omega) only [hb_s, mX4_joined, Nat.beq, ab_l0, List.map_cons, List.map_nil, List.length_cons, List.length_nil, List.cons_append, List.nil_append, List.replicate, Nat.reduceAdd, Nat.reduceSub, List.getElem?_cons_zero, List.getElem?_cons_succ, List.getElem?_nil, List.set_cons_zero, List.set_cons_succ, true_and, and_true, ab_cst0, ab_cst1, ab_cst2, ab_cst3, ab_cst4, ab_cst5, ab_up_s, Nat.le_refl, Nat.reduceLT, Nat.reduceLeDiff, Nat.lt_add_one, Nat.zero_le, nz, n1, nI_add, pk_mul, pk_sub, ab_dec1, ab_vin, ab_leI, ab_ltI, ab_eqI, ab_neI, nI_clamp, ab_m1a, ab_m1b, ab_m1c, ab_m1d, ab_m1e, ab_m1f, ab_up_n, reduceIte, Nat.add_eq_left, Nat.left_eq_add, Nat.add_left_cancel_iff, Nat.reduceEqDiff, not_true_eq_false, not_false_eq_true, ne_eq, or_true, true_or, false_implies, forall_const, if_true, if_false, Nat.reduceMul, Bool.false_eq_true, reduceCtorEq, true_implies, ge_iconst, ge_bipush, ge_sipush, ge_iload, ge_aload, ge_istore, ge_astore, ge_iinc, ge_iadd, ge_isub, ge_imul, ge_iand, ge_ior, ge_ixor, ge_ishl, ge_ishr, ge_iushr, ge_idiv, ge_irem, ge_ineg, ge_i2l, ge_i2b, ge_dup, ge_dupr, ge_pop, ge_popr, ge_dup2, ge_goto, ge_ifCond_eq, ge_if_icmp_eq, ge_ifCond_ne, ge_if_icmp_ne, ge_ifCond_lt, ge_if_icmp_lt, ge_ifCond_ge, ge_if_icmp_ge, ge_ifCond_gt, ge_if_icmp_gt, ge_ifCond_le, ge_if_icmp_le, ge_getfield, ge_putfield, ge_iaload, ge_iastore, ge_baload, ge_ireturn, ge_return_, ge_invokevirtual, ge_invokestatic, ge_invokespecial, ge_nop, ge_new, ge_ldc, ge_ldc_w, ge_newarray, ge_anewarray, ge_getstatic, ge_aaload, ge_aastore, ge_bastore, ge_laload, ge_lastore, ge_lcmp, ge_athrow, ge_arraylength, ge_areturn, ge_if_acmp, ge_lconst, ge_tableswitch, ge_iload_n0, ge_iload_n1, ge_iload_n2, ge_iload_n3, ge_aload_n0, ge_aload_n1, ge_aload_n2, ge_aload_n3, ge_istore_n0, ge_istore_n1, ge_istore_n2, ge_istore_n3, ge_astore_n0, ge_astore_n1, ge_astore_n2, ge_astore_n3, ab_an, nb_or]
    try clear hb_s
    rfl
