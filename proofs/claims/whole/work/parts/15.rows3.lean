/-! ===== rows that are alike; a whole row copied ===== -/
theorem ab_up_u (h : ab_H) (k : Nat) (c d : ab_C) : ab_up (ab_up h k c) k d = ab_up h k d := by
  funext j
  by_cases e : j = k
  · subst e; rw [ab_up_s, ab_up_s]
  · rw [ab_up_n _ _ e, ab_up_n _ _ e, ab_up_n _ _ e]
theorem ab_up_c (h : ab_H) {j k : Nat} (c d : ab_C) (hjk : j ≠ k) : ab_up (ab_up h k c) j d = ab_up (ab_up h j d) k c := by
  funext i
  by_cases e : i = j
  · subst e; rw [ab_up_s, ab_up_n _ _ hjk, ab_up_s]
  · by_cases e2 : i = k
    · subst e2; rw [ab_up_n _ _ e, ab_up_s, ab_up_s]
    · rw [ab_up_n _ _ e, ab_up_n _ _ e2, ab_up_n _ _ e2, ab_up_n _ _ e]
theorem ab_up_self {h : ab_H} {k : Nat} {c : ab_C} (hk : h k = some c) : ab_up h k c = h := by
  funext i
  by_cases e : i = k
  · subst e; rw [ab_up_s, hk]
  · rw [ab_up_n _ _ e]
theorem ab_arr_ext {cA : ClassId} {n : Nat} {f g : Nat → Int32} (h : ∀ j, j < n → f j = g j) : arrV cA n (fun j => Value.int (f j)) = arrV cA n (fun j => .int (g j)) := by
  unfold arrV
  congr 1
  apply Array.ext
  · simp
  · intro i h1 h2
    simp at h1
    simp [h i h1]
section BV
variable {M M' : ab_M} {post post' : ab_P} {cu su pc : Nat} {ls : List (Option Value)} {st rest : List Value} {nx : Nat} {h : ab_H} {J t : List ab_E} {c0 f0 : Nat}
theorem bv_eqv {b kd n : Nat} {f g : Nat → Int32} (hb : h b = some (.inr (kd, n, .inl f))) (hfg : ∀ j, j < n → f j = g j) (k : ab_V M post cu su pc ls st nx (ab_up h b (.inr (kd, n, .inl g)))) : ab_V M post cu su pc ls st nx h := by
  intro p l e s m args below meth c G D H locs A C hW hS hB hL
  obtain ⟨b1, b2, b3⟩ := hW.2.2 b _ hb
  refine k p l e s m args below meth c G D H locs A C (hW.up b1 b2 rfl (fun _ _ => rfl) ?_) hS hB hL
  exact b3.trans (congrArg some (ab_arr_ext hfg))
theorem bv_copyF {idx a b na nb : Nat} {f g : Nat → Int32} {n : Int32} (hok : ab_cd M 0 J) (hJ : ab_dr pc J = (pc, .invokestatic idx, 3, c0, f0) :: t) (hl : ab_cpw M.1.cls idx) (ha : h a = some (.inr (0, na, .inl f))) (hb : h b = some (.inr (0, nb, .inl g))) (hab : a ≠ b) (hn : n = nI nb) (h31 : nb < 2 ^ 31) (h4 : nb ≤ na) (hd : 1 ≤ M.2.2.2.2.1) (hr : (st.map fun v => v.category).sum ≤ 8)
    (k : ab_V M post cu su (pc + 3) ls st nx (ab_up h b (.inr (0, nb, .inl f)))) : ab_V M post cu su pc ls (.int n :: .int (nI 0) :: .ref b :: .int (nI 0) :: .ref a :: st) nx h := by
  subst hn
  have e0 : (nI 0).toNatClampNeg = 0 := rfl
  have e1 : (nI nb).toNatClampNeg = nb := nI_clamp h31
  refine bv_copy hok hJ hl ha hb hab (nI_pos (by decide)) (nI_pos (by decide)) (nI_pos h31) (by rw [e0, e1]; omega) (by rw [e0, e1]; omega) hd hr ?_
  rw [e0, e1]
  refine bv_eqv (b := b) (kd := 0) (n := nb) (f := va_cpy f g 0 0 nb) (g := f) (ab_up_s _ _ _) (fun j hj => pk_cpy_in (Nat.zero_le _) (by omega) |>.trans (by simp)) ?_
  rw [ab_up_u]
  exact k
end BV
theorem ab_m1 {a : Nat} (h : a < 2 ^ 31) : ((nI a = -1) = False) ∧ ((-1 = nI a) = False) ∧ ((nI a < -1) = False) ∧ ((nI a ≤ -1) = False) ∧ ((-1 < nI a) = True) ∧ ((-1 ≤ nI a) = True) := by
  have e := nI_toInt h
  have e1 : ((-1 : Int32)).toInt = -1 := rfl
  refine ⟨?_, ?_, ?_, ?_, ?_, ?_⟩
  · refine eq_false (fun q => ?_); rw [fa_eq, e, e1] at q; omega
  · refine eq_false (fun q => ?_); rw [fa_eq, e, e1] at q; omega
  · refine eq_false (fun q => ?_); rw [fa_lt, e, e1] at q; omega
  · refine eq_false (fun q => ?_); rw [fa_le, e, e1] at q; omega
  · refine eq_true ?_; rw [fa_lt, e, e1]; omega
  · refine eq_true ?_; rw [fa_le, e, e1]; omega
theorem ab_m1a {a : Nat} (h : a < 2 ^ 31) : (nI a = -1) = False := (ab_m1 h).1
theorem ab_m1b {a : Nat} (h : a < 2 ^ 31) : (-1 = nI a) = False := (ab_m1 h).2.1
theorem ab_m1c {a : Nat} (h : a < 2 ^ 31) : (nI a < -1) = False := (ab_m1 h).2.2.1
theorem ab_m1d {a : Nat} (h : a < 2 ^ 31) : (nI a ≤ -1) = False := (ab_m1 h).2.2.2.1
theorem ab_m1e {a : Nat} (h : a < 2 ^ 31) : (-1 < nI a) = True := (ab_m1 h).2.2.2.2.1
theorem ab_m1f {a : Nat} (h : a < 2 ^ 31) : (-1 ≤ nI a) = True := (ab_m1 h).2.2.2.2.2
theorem n1 : (1 : Int32) = nI 1 := rfl
/-! ===== the JDK's own ===== -/
theorem c_max {x y : Int32} {nx : Nat} {h : ab_H} : ab_Con mJ9_max_7cf53 [.int x, .int y] nx h (ab_an (.int (if x < y then y else x)) nx h) := by
  refine ab_Con.of rfl rfl (Nat.le_of_ble_eq_true rfl) ?_
  refine ab_g_v okJ9_max_7cf53 (cut := []) 20 _ _ _ _ _ _ _ _ (ab_sq_b okJ9_max_7cf53 [] 0) ?_
  have hb_s : ab_b iJ9_max_7cf53 [] 0 = [(0, .iload_n 0, 1, 0, 0), (1, .iload_n 1, 1, 0, 0), (2, .if_icmp .lt 7, 3, 0, 9), (5, .iload_n 0, 1, 0, 0), (6, .goto 4, 3, 0, 10), (9, .iload_n 1, 1, 0, 0), (10, .ireturn, 1, 0, 0)] := rfl
  have hb_9 : ab_b iJ9_max_7cf53 [] 9 = [(9, .iload_n 1, 1, 0, 0), (10, .ireturn, 1, 0, 0)] := rfl
  have hb_10 : ab_b iJ9_max_7cf53 [] 10 = [(10, .ireturn, 1, 0, 0)] := rfl
  simp (disch := omega) only [hb_s, hb_9, hb_10, mJ9_max_7cf53, Nat.beq, ab_l0, List.map_cons, List.map_nil, List.length_cons, List.length_nil, List.cons_append, List.nil_append, List.replicate, Nat.reduceAdd, Nat.reduceSub, List.getElem?_cons_zero, List.getElem?_cons_succ, List.getElem?_nil, List.set_cons_zero, List.set_cons_succ, true_and, and_true, ab_cst0, ab_cst1, ab_cst2, ab_cst3, ab_cst4, ab_cst5, ab_up_s, Nat.le_refl, Nat.reduceLT, Nat.reduceLeDiff, Nat.lt_add_one, Nat.zero_le, nz, n1, nI_add, pk_mul, pk_sub, ab_vin, ab_leI, ab_ltI, ab_eqI, ab_neI, nI_clamp, ab_m1a, ab_m1b, ab_m1c, ab_m1d, ab_m1e, ab_m1f, ab_up_e, reduceIte, Nat.add_eq_left, Nat.left_eq_add, Nat.add_left_cancel_iff, Nat.reduceEqDiff, OfNat.ofNat_ne_zero, OfNat.zero_ne_ofNat, not_true_eq_false, not_false_eq_true, ne_eq, or_true, true_or, false_implies, forall_const, if_true, if_false, Nat.reduceMul, Bool.false_eq_true, reduceCtorEq, true_implies, ge_iconst, ge_bipush, ge_sipush, ge_iload, ge_aload, ge_istore, ge_astore, ge_iinc, ge_iadd, ge_isub, ge_imul, ge_iand, ge_ior, ge_ixor, ge_ishl, ge_ishr, ge_iushr, ge_idiv, ge_irem, ge_ineg, ge_i2l, ge_i2b, ge_dup, ge_dupr, ge_pop, ge_popr, ge_dup2, ge_goto, ge_ifCond_eq, ge_if_icmp_eq, ge_ifCond_ne, ge_if_icmp_ne, ge_ifCond_lt, ge_if_icmp_lt, ge_ifCond_ge, ge_if_icmp_ge, ge_ifCond_gt, ge_if_icmp_gt, ge_ifCond_le, ge_if_icmp_le, ge_getfield, ge_putfield, ge_iaload, ge_iastore, ge_baload, ge_ireturn, ge_return_, ge_invokevirtual, ge_invokestatic, ge_invokespecial, ge_nop, ge_new, ge_iload_n0, ge_iload_n1, ge_iload_n2, ge_iload_n3, ge_aload_n0, ge_aload_n1, ge_aload_n2, ge_aload_n3, ge_istore_n0, ge_istore_n1, ge_istore_n2, ge_istore_n3, ge_astore_n0, ge_astore_n1, ge_astore_n2, ge_astore_n3, ab_an]
  refine ⟨fun q => by rw [if_pos q], fun q => by rw [if_neg q]⟩
theorem c_min {x y : Int32} {nx : Nat} {h : ab_H} : ab_Con mJ9_min_7cf53 [.int x, .int y] nx h (ab_an (.int (if y < x then y else x)) nx h) := by
  refine ab_Con.of rfl rfl (Nat.le_of_ble_eq_true rfl) ?_
  refine ab_g_v okJ9_min_7cf53 (cut := []) 20 _ _ _ _ _ _ _ _ (ab_sq_b okJ9_min_7cf53 [] 0) ?_
  have hb_s : ab_b iJ9_min_7cf53 [] 0 = [(0, .iload_n 0, 1, 0, 0), (1, .iload_n 1, 1, 0, 0), (2, .if_icmp .gt 7, 3, 0, 9), (5, .iload_n 0, 1, 0, 0), (6, .goto 4, 3, 0, 10), (9, .iload_n 1, 1, 0, 0), (10, .ireturn, 1, 0, 0)] := rfl
  have hb_9 : ab_b iJ9_min_7cf53 [] 9 = [(9, .iload_n 1, 1, 0, 0), (10, .ireturn, 1, 0, 0)] := rfl
  have hb_10 : ab_b iJ9_min_7cf53 [] 10 = [(10, .ireturn, 1, 0, 0)] := rfl
  simp (disch := omega) only [hb_s, hb_9, hb_10, mJ9_min_7cf53, Nat.beq, ab_l0, List.map_cons, List.map_nil, List.length_cons, List.length_nil, List.cons_append, List.nil_append, List.replicate, Nat.reduceAdd, Nat.reduceSub, List.getElem?_cons_zero, List.getElem?_cons_succ, List.getElem?_nil, List.set_cons_zero, List.set_cons_succ, true_and, and_true, ab_cst0, ab_cst1, ab_cst2, ab_cst3, ab_cst4, ab_cst5, ab_up_s, Nat.le_refl, Nat.reduceLT, Nat.reduceLeDiff, Nat.lt_add_one, Nat.zero_le, nz, n1, nI_add, pk_mul, pk_sub, ab_vin, ab_leI, ab_ltI, ab_eqI, ab_neI, nI_clamp, ab_m1a, ab_m1b, ab_m1c, ab_m1d, ab_m1e, ab_m1f, ab_up_e, reduceIte, Nat.add_eq_left, Nat.left_eq_add, Nat.add_left_cancel_iff, Nat.reduceEqDiff, OfNat.ofNat_ne_zero, OfNat.zero_ne_ofNat, not_true_eq_false, not_false_eq_true, ne_eq, or_true, true_or, false_implies, forall_const, if_true, if_false, Nat.reduceMul, Bool.false_eq_true, reduceCtorEq, true_implies, ge_iconst, ge_bipush, ge_sipush, ge_iload, ge_aload, ge_istore, ge_astore, ge_iinc, ge_iadd, ge_isub, ge_imul, ge_iand, ge_ior, ge_ixor, ge_ishl, ge_ishr, ge_iushr, ge_idiv, ge_irem, ge_ineg, ge_i2l, ge_i2b, ge_dup, ge_dupr, ge_pop, ge_popr, ge_dup2, ge_goto, ge_ifCond_eq, ge_if_icmp_eq, ge_ifCond_ne, ge_if_icmp_ne, ge_ifCond_lt, ge_if_icmp_lt, ge_ifCond_ge, ge_if_icmp_ge, ge_ifCond_gt, ge_if_icmp_gt, ge_ifCond_le, ge_if_icmp_le, ge_getfield, ge_putfield, ge_iaload, ge_iastore, ge_baload, ge_ireturn, ge_return_, ge_invokevirtual, ge_invokestatic, ge_invokespecial, ge_nop, ge_new, ge_iload_n0, ge_iload_n1, ge_iload_n2, ge_iload_n3, ge_aload_n0, ge_aload_n1, ge_aload_n2, ge_aload_n3, ge_istore_n0, ge_istore_n1, ge_istore_n2, ge_istore_n3, ge_astore_n0, ge_astore_n1, ge_astore_n2, ge_astore_n3, ab_an]
  refine ⟨fun q => by rw [if_pos q], fun q => by rw [if_neg q]⟩
theorem c_maxN {a b : Nat} (ha : a < 2 ^ 31) (hb : b < 2 ^ 31) {nx : Nat} {h : ab_H} : ab_Con mJ9_max_7cf53 [.int (nI a), .int (nI b)] nx h (ab_an (.int (nI (max a b))) nx h) := by
  have h1 := c_max (x := nI a) (y := nI b) (nx := nx) (h := h)
  have e : (if nI a < nI b then nI b else nI a) = nI (max a b) := by
    rw [ab_ltI ha hb]
    split
    · rw [Nat.max_eq_right (by omega)]
    · rw [Nat.max_eq_left (by omega)]
  rw [e] at h1
  exact h1
theorem c_minN {a b : Nat} (ha : a < 2 ^ 31) (hb : b < 2 ^ 31) {nx : Nat} {h : ab_H} : ab_Con mJ9_min_7cf53 [.int (nI a), .int (nI b)] nx h (ab_an (.int (nI (min a b))) nx h) := by
  have h1 := c_min (x := nI a) (y := nI b) (nx := nx) (h := h)
  have e : (if nI b < nI a then nI b else nI a) = nI (min a b) := by
    rw [ab_ltI hb ha]
    split
    · rw [Nat.min_eq_right (by omega)]
    · rw [Nat.min_eq_left (by omega)]
  rw [e] at h1
  exact h1
