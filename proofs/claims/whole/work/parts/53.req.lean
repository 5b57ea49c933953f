/-! ===== calls that change nothing, or throw ===== -/
def ab_vx (X : String) (nx : Nat) (h : ab_H) : ab_P := fun r nx' h' => r = .inr X ∧ nx ≤ nx' ∧ h' = h
section BV
variable {M M' : ab_M} {post post' : ab_P} {cu su pc : Nat} {ls : List (Option Value)} {st rest : List Value} {nx : Nat} {h : ab_H} {J t : List ab_E} {c0 f0 : Nat}
theorem bv_vO {idx b ci : Nat} {fs As : List Value} (hcon : ab_Con M' (.ref b :: As) nx h (ab_vo nx h)) (hok : ab_cd M 0 J) (hJ : ab_dr pc J = (pc, .invokevirtual idx, 3, c0, f0) :: t) (hl : ab_lv M.1.cls idx M' As.length) (hb : h b = some (.inl (ci, fs))) (hci : vwCl[ci]?.map (fun q => q.1) = some M'.1.cls) (hf : ab_fitb M M' cu su rest = true) (hst : st = As.reverse ++ .ref b :: rest)
    (k : ab_V M post (cu + M'.2.2.2.2.2.1) (su + M'.2.2.2.2.2.2) (pc + 3) ls rest nx h) : ab_V M post cu su pc ls st nx h :=
  bv_v hcon hok hJ hl hb hci hf hst (by rintro _ _ _ ⟨rfl, rfl, rfl⟩; exact k)
theorem bv_sO {idx : Nat} {As : List Value} (hcon : ab_Con M' As nx h (ab_vo nx h)) (hok : ab_cd M 0 J) (hJ : ab_dr pc J = (pc, .invokestatic idx, 3, c0, f0) :: t) (hl : ab_ls M.1.cls idx M' As.length) (hf : ab_fitb M M' cu su rest = true) (hst : st = As.reverse ++ rest)
    (k : ab_V M post (cu + M'.2.2.2.2.2.1) (su + M'.2.2.2.2.2.2) (pc + 3) ls rest nx h) : ab_V M post cu su pc ls st nx h :=
  bv_s hcon hok hJ hl hf hst (by rintro _ _ _ ⟨rfl, rfl, rfl⟩; exact k)
theorem bv_vX {idx b ci : Nat} {fs As : List Value} {X : String} (hcon : ab_Con M' (.ref b :: As) nx h (ab_vx X nx h)) (hok : ab_cd M 0 J) (hJ : ab_dr pc J = (pc, .invokevirtual idx, 3, c0, f0) :: t) (hl : ab_lv M.1.cls idx M' As.length) (hb : h b = some (.inl (ci, fs))) (hci : vwCl[ci]?.map (fun q => q.1) = some M'.1.cls) (hf : ab_fitb M M' cu su rest = true) (hst : st = As.reverse ++ .ref b :: rest)
    (k : ∀ nx', nx ≤ nx' → post (.inr X) nx' h) : ab_V M post cu su pc ls st nx h :=
  bv_v hcon hok hJ hl hb hci hf hst (by rintro _ nx' _ ⟨rfl, hn, rfl⟩; exact k nx' hn)
theorem bv_sX {idx : Nat} {As : List Value} {X : String} (hcon : ab_Con M' As nx h (ab_vx X nx h)) (hok : ab_cd M 0 J) (hJ : ab_dr pc J = (pc, .invokestatic idx, 3, c0, f0) :: t) (hl : ab_ls M.1.cls idx M' As.length) (hf : ab_fitb M M' cu su rest = true) (hst : st = As.reverse ++ rest)
    (k : ∀ nx', nx ≤ nx' → post (.inr X) nx' h) : ab_V M post cu su pc ls st nx h :=
  bv_s hcon hok hJ hl hf hst (by rintro _ nx' _ ⟨rfl, hn, rfl⟩; exact k nx' hn)
end BV
/-! ===== an int within a range ===== -/
def rgn (x : Int32) (lo hi : Nat) : Option Nat := if nI lo ≤ x ∧ x ≤ nI hi then some x.toNatClampNeg else none
def ixn (x : Int32) (n : Nat) : Option Nat := if nI 0 ≤ x ∧ x < nI n then some x.toNatClampNeg else none
theorem i_nat {x : Int32} (h : nI 0 ≤ x) : x = nI x.toNatClampNeg ∧ x.toNatClampNeg < 2 ^ 31 := by
  have h0 : (nI 0).toInt = 0 := rfl
  rw [fa_le, h0] at h
  have h1 := Int32.toInt_lt x
  have e : (x.toNatClampNeg : Int) = x.toInt := by
    show ((x.toInt).toNat : Int) = x.toInt
    omega
  have hlt : x.toNatClampNeg < 2 ^ 31 := by omega
  refine ⟨?_, hlt⟩
  rw [fa_eq, nI_toInt hlt]
  omega
theorem rgn_s {x : Int32} {lo hi j : Nat} (h : rgn x lo hi = some j) (hh : hi < 2 ^ 31) (hlo : lo ≤ hi) : x = nI j ∧ lo ≤ j ∧ j ≤ hi := by
  unfold rgn at h
  split at h
  · rename_i q
    cases h
    have e1 := nI_toInt (n := lo) (by omega)
    have e2 := nI_toInt hh
    have h0 : (nI 0).toInt = 0 := rfl
    obtain ⟨q1, q2⟩ := q
    have q0 : nI 0 ≤ x := by rw [fa_le, h0]; rw [fa_le, e1] at q1; omega
    obtain ⟨a, b⟩ := i_nat q0
    have e3 := nI_toInt b
    rw [← a] at e3
    rw [fa_le, e1] at q1
    rw [fa_le, e2] at q2
    exact ⟨a, by omega, by omega⟩
  · cases h
theorem rgn_n {x : Int32} {lo hi : Nat} (h : rgn x lo hi = none) : x < nI lo ∨ nI hi < x := by
  unfold rgn at h
  split at h
  · cases h
  · rename_i q
    rcases Classical.em (nI lo ≤ x) with a | a
    · exact Or.inr (Int32.not_le.mp (fun b => q ⟨a, b⟩))
    · exact Or.inl (Int32.not_le.mp a)
theorem ixn_s {x : Int32} {n j : Nat} (h : ixn x n = some j) (hh : n < 2 ^ 31) : x = nI j ∧ j < n := by
  unfold ixn at h
  split at h
  · rename_i q
    cases h
    obtain ⟨q1, q2⟩ := q
    obtain ⟨a, b⟩ := i_nat q1
    have e3 := nI_toInt b
    rw [← a] at e3
    rw [fa_lt, nI_toInt hh] at q2
    exact ⟨a, by omega⟩
  · cases h
theorem ixn_n {x : Int32} {n : Nat} (h : ixn x n = none) : x < nI 0 ∨ nI n ≤ x := by
  unfold ixn at h
  split at h
  · cases h
  · rename_i q
    rcases Classical.em (nI 0 ≤ x) with a | a
    · exact Or.inr (Int32.not_lt.mp (fun b => q ⟨a, b⟩))
    · exact Or.inl (Int32.not_le.mp a)
theorem ixn_y {n j : Nat} (hj : j < n) (hn : n < 2 ^ 31) : ixn (nI j) n = some j := by
  unfold ixn
  rw [if_pos ⟨by rw [ab_leI (by omega) (by omega)]; omega, by rw [ab_ltI (by omega) hn]; exact hj⟩, nI_clamp (by omega)]
/-! ===== what is asked for first ===== -/
section RQ
variable {h : ab_H} {U : ST} {nx : Nat}
theorem df_at.obj (hd : df_at h U) : ∃ im pn pc : Int32, h 3000 = some (.inl (9, df_fs (nI U.2.2.2.1) (la_n U.2.2.2.2.1) im pn pc)) := by
  obtain ⟨pn, hpn, d0, -⟩ := hd
  exact ⟨_, _, _, d0⟩
theorem df_at.fort (hd : df_at h U) : fo_at h 3023 (fo_of U.1) := by
  obtain ⟨pn, hpn, d0, d1, d2, d3, d4, d5, -⟩ := hd
  exact d5
theorem df_at.law (hd : df_at h U) : ∃ R : Nat → Int32, la_at h 3039 (la_of U.2.1) R := by
  obtain ⟨pn, hpn, d0, d1, d2, d3, d4, d5, d6, d7, -⟩ := hd
  exact d7
theorem df_at.mnd (hd : df_at h U) : ∃ X : mi_F, mi_at h 3062 X := by
  obtain ⟨pn, hpn, d0, d1, d2, d3, d4, d5, d6, d7, d8, d9, d10, d11, -⟩ := hd
  exact d11
theorem df_at.tape (hd : df_at h U) : h 3001 = some (.inr (0, 400, .inl (fun i => nI (U.2.2.1 i)))) := by
  obtain ⟨pn, hpn, d0, d1, -⟩ := hd
  exact d1
theorem c_reqP {j : Nat} (hd : df_at h U) (hS : fo_ok U.1) (hj : j < U.1.1 0) : ab_Con mX11_requirePrisoner [.ref 3000, .int (nI j)] nx h (ab_vo nx h) := by
  refine ab_Con.of (by decide) rfl (Nat.le_of_ble_eq_true rfl) ?_
  obtain ⟨im, pn, pc, ho⟩ := hd.obj
  have h0 := hd.fort.1
  have hn : U.1.1 0 ≤ 6 := hS.1
  refine ab_g_v okX11_requirePrisoner (cut := [15]) 30 _ _ _ _ _ _ _ _ (ab_sq_b okX11_requirePrisoner [15] 0) ?_
  have hb_s : ab_b iX11_requirePrisoner [15] 0 = [(0, .iload_n 1, 1, 0, 0), (1, .ifCond .lt 14, 3, 0, 15), (4, .iload_n 1, 1, 0, 0), (5, .aload_n 0, 1, 0, 0), (6, .getfield 41, 3, 9, 6), (9, .getfield 233, 3, 1, 0), (12, .if_icmp .lt 14, 3, 0, 26), (15, .nop, 0, 0, 0)] := rfl
  have hb_15 : ab_b iX11_requirePrisoner [15] 15 = [(15, .nop, 0, 0, 0)] := rfl
  have hb_26 : ab_b iX11_requirePrisoner [15] 26 = [(26, .return_, 1, 0, 0)] := rfl
  repeat' (first | (simp (disch := omega) only [hb_s, hb_15, hb_26, mX11_requirePrisoner, Nat.beq, ab_l0, List.map_cons, List.map_nil, List.length_cons, List.length_nil, List.cons_append, List.nil_append, List.replicate, Nat.reduceAdd, Nat.reduceSub, List.getElem?_cons_zero, List.getElem?_cons_succ, List.getElem?_nil, List.set_cons_zero, List.set_cons_succ, true_and, and_true, ab_cst0, ab_cst1, ab_cst2, ab_cst3, ab_cst4, ab_cst5, ab_up_s, Nat.le_refl, Nat.reduceLT, Nat.reduceLeDiff, Nat.lt_add_one, Nat.zero_le, nz, n1, nI_add, pk_mul, pk_sub, ab_dec1, ab_vin, nI_clamp, ab_m1a, ab_m1b, ab_m1c, ab_m1d, ab_m1e, ab_m1f, ab_up_n, reduceIte, Nat.add_eq_left, Nat.left_eq_add, Nat.add_left_cancel_iff, Nat.reduceEqDiff, not_true_eq_false, not_false_eq_true, ne_eq, or_true, true_or, false_implies, forall_const, if_true, if_false, Nat.reduceMul, Bool.false_eq_true, reduceCtorEq, true_implies, ab_br_t, ab_br_f, ab_br_n, nd_ltT, nd_ltF, nd_leT, nd_leF, nd_eqT, nd_eqF, nM_eq, nM_ltM, nM_leM, Bool.toNat_true, Bool.toNat_false, gq_iconst, gq_bipush, gq_sipush, gq_iload, gq_aload, gq_istore, gq_astore, gq_iinc, gq_iadd, gq_isub, gq_imul, gq_iand, gq_ior, gq_ixor, gq_ishl, gq_ishr, gq_iushr, gq_idiv, gq_irem, gq_ineg, gq_i2l, gq_i2b, gq_dup, gq_dupr, gq_pop, gq_popr, gq_dup2, gq_goto, gq_getfield, gq_putfield, gq_iaload, gq_iastore, gq_baload, gq_ireturn, gq_return_, gq_invokevirtual, gq_invokestatic, gq_invokespecial, gq_nop, gq_new, gq_ldc, gq_ldc_w, gq_newarray, gq_anewarray, gq_getstatic, gq_aaload, gq_aastore, gq_bastore, gq_laload, gq_lastore, gq_lcmp, gq_athrow, gq_arraylength, gq_areturn, gq_if_acmp, gq_lconst, gq_tableswitch, gq_iload_n0, gq_iload_n1, gq_iload_n2, gq_iload_n3, gq_aload_n0, gq_aload_n1, gq_aload_n2, gq_aload_n3, gq_istore_n0, gq_istore_n1, gq_istore_n2, gq_istore_n3, gq_astore_n0, gq_astore_n1, gq_astore_n2, gq_astore_n3, gq_ifCond_eq, gq_ifCond_ne, gq_ifCond_lt, gq_ifCond_ge, gq_ifCond_gt, gq_ifCond_le, gq_if_icmp_eq, gq_if_icmp_ne, gq_if_icmp_lt, gq_if_icmp_ge, gq_if_icmp_gt, gq_if_icmp_le, ho, h0, df_fs, fo_fs, fo_1, ab_vo]) | (with_reducible refine ab_br_i ?_ ?_ <;> intro q <;> (try simp (disch := omega) only [ab_leI, ab_ltI, ab_eqI, Nat.not_lt, Nat.not_le, n1, nz] at q)))
  all_goals try clear hb_s hb_15 hb_26
theorem c_reqPx {x : Int32} (hd : df_at h U) (hx : ixn x (U.1.1 0) = none) : ab_Con mX11_requirePrisoner [.ref 3000, .int x] nx h (ab_vx "java/lang/IndexOutOfBoundsException" nx h) := by
  refine ab_Con.of (by decide) rfl (Nat.le_of_ble_eq_true rfl) ?_
  obtain ⟨im, pn, pc, ho⟩ := hd.obj
  have h0 := hd.fort.1
  have hn := ixn_n hx
  refine ab_g_v okX11_requirePrisoner (cut := [15]) 30 _ _ _ _ _ _ _ _ (ab_sq_b okX11_requirePrisoner [15] 0) ?_
  have hb_s : ab_b iX11_requirePrisoner [15] 0 = [(0, .iload_n 1, 1, 0, 0), (1, .ifCond .lt 14, 3, 0, 15), (4, .iload_n 1, 1, 0, 0), (5, .aload_n 0, 1, 0, 0), (6, .getfield 41, 3, 9, 6), (9, .getfield 233, 3, 1, 0), (12, .if_icmp .lt 14, 3, 0, 26), (15, .nop, 0, 0, 0)] := rfl
  have hb_15 : ab_b iX11_requirePrisoner [15] 15 = [(15, .nop, 0, 0, 0)] := rfl
  have hb_26 : ab_b iX11_requirePrisoner [15] 26 = [(26, .return_, 1, 0, 0)] := rfl
  repeat' (first | (simp (disch := omega) only [hb_s, hb_15, hb_26, mX11_requirePrisoner, Nat.beq, ab_l0, List.map_cons, List.map_nil, List.length_cons, List.length_nil, List.cons_append, List.nil_append, List.replicate, Nat.reduceAdd, Nat.reduceSub, List.getElem?_cons_zero, List.getElem?_cons_succ, List.getElem?_nil, List.set_cons_zero, List.set_cons_succ, true_and, and_true, ab_cst0, ab_cst1, ab_cst2, ab_cst3, ab_cst4, ab_cst5, ab_up_s, Nat.le_refl, Nat.reduceLT, Nat.reduceLeDiff, Nat.lt_add_one, Nat.zero_le, nz, n1, nI_add, pk_mul, pk_sub, ab_dec1, ab_vin, nI_clamp, ab_m1a, ab_m1b, ab_m1c, ab_m1d, ab_m1e, ab_m1f, ab_up_n, reduceIte, Nat.add_eq_left, Nat.left_eq_add, Nat.add_left_cancel_iff, Nat.reduceEqDiff, not_true_eq_false, not_false_eq_true, ne_eq, or_true, true_or, false_implies, forall_const, if_true, if_false, Nat.reduceMul, Bool.false_eq_true, reduceCtorEq, true_implies, ab_br_t, ab_br_f, ab_br_n, nd_ltT, nd_ltF, nd_leT, nd_leF, nd_eqT, nd_eqF, nM_eq, nM_ltM, nM_leM, Bool.toNat_true, Bool.toNat_false, gq_iconst, gq_bipush, gq_sipush, gq_iload, gq_aload, gq_istore, gq_astore, gq_iinc, gq_iadd, gq_isub, gq_imul, gq_iand, gq_ior, gq_ixor, gq_ishl, gq_ishr, gq_iushr, gq_idiv, gq_irem, gq_ineg, gq_i2l, gq_i2b, gq_dup, gq_dupr, gq_pop, gq_popr, gq_dup2, gq_goto, gq_getfield, gq_putfield, gq_iaload, gq_iastore, gq_baload, gq_ireturn, gq_return_, gq_invokevirtual, gq_invokestatic, gq_invokespecial, gq_nop, gq_new, gq_ldc, gq_ldc_w, gq_newarray, gq_anewarray, gq_getstatic, gq_aaload, gq_aastore, gq_bastore, gq_laload, gq_lastore, gq_lcmp, gq_athrow, gq_arraylength, gq_areturn, gq_if_acmp, gq_lconst, gq_tableswitch, gq_iload_n0, gq_iload_n1, gq_iload_n2, gq_iload_n3, gq_aload_n0, gq_aload_n1, gq_aload_n2, gq_aload_n3, gq_istore_n0, gq_istore_n1, gq_istore_n2, gq_istore_n3, gq_astore_n0, gq_astore_n1, gq_astore_n2, gq_astore_n3, gq_ifCond_eq, gq_ifCond_ne, gq_ifCond_lt, gq_ifCond_ge, gq_ifCond_gt, gq_ifCond_le, gq_if_icmp_eq, gq_if_icmp_ne, gq_if_icmp_lt, gq_if_icmp_ge, gq_if_icmp_gt, gq_if_icmp_le, ho, h0, df_fs, fo_fs, fo_1, ab_vx]) | (with_reducible refine ab_br_i ?_ ?_ <;> intro q <;> (try simp (disch := omega) only [ab_leI, ab_ltI, ab_eqI, Nat.not_lt, Nat.not_le, n1, nz] at q)))
  all_goals try clear hb_s hb_15 hb_26
  · refine bv_thrW "there is no such prisoner" 3 xw_IO okX11_requirePrisoner (by decide +kernel) rfl rfl rfl rfl rfl rfl rfl rfl rfl ?_
    exact fun nx' hn => ⟨rfl, hn, rfl⟩
  · rcases hn with hn | hn <;> first | contradiction | exact absurd q (Int32.not_lt.mpr hn)
  · refine bv_thrW "there is no such prisoner" 3 xw_IO okX11_requirePrisoner (by decide +kernel) rfl rfl rfl rfl rfl rfl rfl rfl rfl ?_
    exact fun nx' hn => ⟨rfl, hn, rfl⟩
theorem c_reqS {j : Nat} (hd : df_at h U) (hS : fo_ok U.1) (hj : j < U.1.1 1) : ab_Con mX11_requireSleeper [.ref 3000, .int (nI j)] nx h (ab_vo nx h) := by
  refine ab_Con.of (by decide) rfl (Nat.le_of_ble_eq_true rfl) ?_
  obtain ⟨im, pn, pc, ho⟩ := hd.obj
  have h0 := hd.fort.1
  have hn : U.1.1 1 ≤ 6 := hS.2.1
  refine ab_g_v okX11_requireSleeper (cut := [15]) 30 _ _ _ _ _ _ _ _ (ab_sq_b okX11_requireSleeper [15] 0) ?_
  have hb_s : ab_b iX11_requireSleeper [15] 0 = [(0, .iload_n 1, 1, 0, 0), (1, .ifCond .lt 14, 3, 0, 15), (4, .iload_n 1, 1, 0, 0), (5, .aload_n 0, 1, 0, 0), (6, .getfield 41, 3, 9, 6), (9, .getfield 241, 3, 1, 1), (12, .if_icmp .lt 14, 3, 0, 26), (15, .nop, 0, 0, 0)] := rfl
  have hb_15 : ab_b iX11_requireSleeper [15] 15 = [(15, .nop, 0, 0, 0)] := rfl
  have hb_26 : ab_b iX11_requireSleeper [15] 26 = [(26, .return_, 1, 0, 0)] := rfl
  repeat' (first | (simp (disch := omega) only [hb_s, hb_15, hb_26, mX11_requireSleeper, Nat.beq, ab_l0, List.map_cons, List.map_nil, List.length_cons, List.length_nil, List.cons_append, List.nil_append, List.replicate, Nat.reduceAdd, Nat.reduceSub, List.getElem?_cons_zero, List.getElem?_cons_succ, List.getElem?_nil, List.set_cons_zero, List.set_cons_succ, true_and, and_true, ab_cst0, ab_cst1, ab_cst2, ab_cst3, ab_cst4, ab_cst5, ab_up_s, Nat.le_refl, Nat.reduceLT, Nat.reduceLeDiff, Nat.lt_add_one, Nat.zero_le, nz, n1, nI_add, pk_mul, pk_sub, ab_dec1, ab_vin, nI_clamp, ab_m1a, ab_m1b, ab_m1c, ab_m1d, ab_m1e, ab_m1f, ab_up_n, reduceIte, Nat.add_eq_left, Nat.left_eq_add, Nat.add_left_cancel_iff, Nat.reduceEqDiff, not_true_eq_false, not_false_eq_true, ne_eq, or_true, true_or, false_implies, forall_const, if_true, if_false, Nat.reduceMul, Bool.false_eq_true, reduceCtorEq, true_implies, ab_br_t, ab_br_f, ab_br_n, nd_ltT, nd_ltF, nd_leT, nd_leF, nd_eqT, nd_eqF, nM_eq, nM_ltM, nM_leM, Bool.toNat_true, Bool.toNat_false, gq_iconst, gq_bipush, gq_sipush, gq_iload, gq_aload, gq_istore, gq_astore, gq_iinc, gq_iadd, gq_isub, gq_imul, gq_iand, gq_ior, gq_ixor, gq_ishl, gq_ishr, gq_iushr, gq_idiv, gq_irem, gq_ineg, gq_i2l, gq_i2b, gq_dup, gq_dupr, gq_pop, gq_popr, gq_dup2, gq_goto, gq_getfield, gq_putfield, gq_iaload, gq_iastore, gq_baload, gq_ireturn, gq_return_, gq_invokevirtual, gq_invokestatic, gq_invokespecial, gq_nop, gq_new, gq_ldc, gq_ldc_w, gq_newarray, gq_anewarray, gq_getstatic, gq_aaload, gq_aastore, gq_bastore, gq_laload, gq_lastore, gq_lcmp, gq_athrow, gq_arraylength, gq_areturn, gq_if_acmp, gq_lconst, gq_tableswitch, gq_iload_n0, gq_iload_n1, gq_iload_n2, gq_iload_n3, gq_aload_n0, gq_aload_n1, gq_aload_n2, gq_aload_n3, gq_istore_n0, gq_istore_n1, gq_istore_n2, gq_istore_n3, gq_astore_n0, gq_astore_n1, gq_astore_n2, gq_astore_n3, gq_ifCond_eq, gq_ifCond_ne, gq_ifCond_lt, gq_ifCond_ge, gq_ifCond_gt, gq_ifCond_le, gq_if_icmp_eq, gq_if_icmp_ne, gq_if_icmp_lt, gq_if_icmp_ge, gq_if_icmp_gt, gq_if_icmp_le, ho, h0, df_fs, fo_fs, fo_1, ab_vo]) | (with_reducible refine ab_br_i ?_ ?_ <;> intro q <;> (try simp (disch := omega) only [ab_leI, ab_ltI, ab_eqI, Nat.not_lt, Nat.not_le, n1, nz] at q)))
  all_goals try clear hb_s hb_15 hb_26
theorem c_reqSx {x : Int32} (hd : df_at h U) (hx : ixn x (U.1.1 1) = none) : ab_Con mX11_requireSleeper [.ref 3000, .int x] nx h (ab_vx "java/lang/IndexOutOfBoundsException" nx h) := by
  refine ab_Con.of (by decide) rfl (Nat.le_of_ble_eq_true rfl) ?_
  obtain ⟨im, pn, pc, ho⟩ := hd.obj
  have h0 := hd.fort.1
  have hn := ixn_n hx
  refine ab_g_v okX11_requireSleeper (cut := [15]) 30 _ _ _ _ _ _ _ _ (ab_sq_b okX11_requireSleeper [15] 0) ?_
  have hb_s : ab_b iX11_requireSleeper [15] 0 = [(0, .iload_n 1, 1, 0, 0), (1, .ifCond .lt 14, 3, 0, 15), (4, .iload_n 1, 1, 0, 0), (5, .aload_n 0, 1, 0, 0), (6, .getfield 41, 3, 9, 6), (9, .getfield 241, 3, 1, 1), (12, .if_icmp .lt 14, 3, 0, 26), (15, .nop, 0, 0, 0)] := rfl
  have hb_15 : ab_b iX11_requireSleeper [15] 15 = [(15, .nop, 0, 0, 0)] := rfl
  have hb_26 : ab_b iX11_requireSleeper [15] 26 = [(26, .return_, 1, 0, 0)] := rfl
  repeat' (first | (simp (disch := omega) only [hb_s, hb_15, hb_26, mX11_requireSleeper, Nat.beq, ab_l0, List.map_cons, List.map_nil, List.length_cons, List.length_nil, List.cons_append, List.nil_append, List.replicate, Nat.reduceAdd, Nat.reduceSub, List.getElem?_cons_zero, List.getElem?_cons_succ, List.getElem?_nil, List.set_cons_zero, List.set_cons_succ, true_and, and_true, ab_cst0, ab_cst1, ab_cst2, ab_cst3, ab_cst4, ab_cst5, ab_up_s, Nat.le_refl, Nat.reduceLT, Nat.reduceLeDiff, Nat.lt_add_one, Nat.zero_le, nz, n1, nI_add, pk_mul, pk_sub, ab_dec1, ab_vin, nI_clamp, ab_m1a, ab_m1b, ab_m1c, ab_m1d, ab_m1e, ab_m1f, ab_up_n, reduceIte, Nat.add_eq_left, Nat.left_eq_add, Nat.add_left_cancel_iff, Nat.reduceEqDiff, not_true_eq_false, not_false_eq_true, ne_eq, or_true, true_or, false_implies, forall_const, if_true, if_false, Nat.reduceMul, Bool.false_eq_true, reduceCtorEq, true_implies, ab_br_t, ab_br_f, ab_br_n, nd_ltT, nd_ltF, nd_leT, nd_leF, nd_eqT, nd_eqF, nM_eq, nM_ltM, nM_leM, Bool.toNat_true, Bool.toNat_false, gq_iconst, gq_bipush, gq_sipush, gq_iload, gq_aload, gq_istore, gq_astore, gq_iinc, gq_iadd, gq_isub, gq_imul, gq_iand, gq_ior, gq_ixor, gq_ishl, gq_ishr, gq_iushr, gq_idiv, gq_irem, gq_ineg, gq_i2l, gq_i2b, gq_dup, gq_dupr, gq_pop, gq_popr, gq_dup2, gq_goto, gq_getfield, gq_putfield, gq_iaload, gq_iastore, gq_baload, gq_ireturn, gq_return_, gq_invokevirtual, gq_invokestatic, gq_invokespecial, gq_nop, gq_new, gq_ldc, gq_ldc_w, gq_newarray, gq_anewarray, gq_getstatic, gq_aaload, gq_aastore, gq_bastore, gq_laload, gq_lastore, gq_lcmp, gq_athrow, gq_arraylength, gq_areturn, gq_if_acmp, gq_lconst, gq_tableswitch, gq_iload_n0, gq_iload_n1, gq_iload_n2, gq_iload_n3, gq_aload_n0, gq_aload_n1, gq_aload_n2, gq_aload_n3, gq_istore_n0, gq_istore_n1, gq_istore_n2, gq_istore_n3, gq_astore_n0, gq_astore_n1, gq_astore_n2, gq_astore_n3, gq_ifCond_eq, gq_ifCond_ne, gq_ifCond_lt, gq_ifCond_ge, gq_ifCond_gt, gq_ifCond_le, gq_if_icmp_eq, gq_if_icmp_ne, gq_if_icmp_lt, gq_if_icmp_ge, gq_if_icmp_gt, gq_if_icmp_le, ho, h0, df_fs, fo_fs, fo_1, ab_vx]) | (with_reducible refine ab_br_i ?_ ?_ <;> intro q <;> (try simp (disch := omega) only [ab_leI, ab_ltI, ab_eqI, Nat.not_lt, Nat.not_le, n1, nz] at q)))
  all_goals try clear hb_s hb_15 hb_26
  · refine bv_thrW "there is no such sleeper" 5 xw_IO okX11_requireSleeper (by decide +kernel) rfl rfl rfl rfl rfl rfl rfl rfl rfl ?_
    exact fun nx' hn => ⟨rfl, hn, rfl⟩
  · rcases hn with hn | hn <;> first | contradiction | exact absurd q (Int32.not_lt.mpr hn)
  · refine bv_thrW "there is no such sleeper" 5 xw_IO okX11_requireSleeper (by decide +kernel) rfl rfl rfl rfl rfl rfl rfl rfl rfl ?_
    exact fun nx' hn => ⟨rfl, hn, rfl⟩
theorem c_reqM {j : Nat} (hj : j < 6) : ab_Con mX11_requireMark [.int (nI j)] nx h (ab_vo nx h) := by
  refine ab_Con.of (by decide) rfl (Nat.le_of_ble_eq_true rfl) ?_
  refine ab_g_v okX11_requireMark (cut := [10]) 30 _ _ _ _ _ _ _ _ (ab_sq_b okX11_requireMark [10] 0) ?_
  have hb_s : ab_b iX11_requireMark [10] 0 = [(0, .iload_n 0, 1, 0, 0), (1, .ifCond .lt 9, 3, 0, 10), (4, .iload_n 0, 1, 0, 0), (5, .bipush 6, 2, 0, 0), (7, .if_icmp .lt 14, 3, 0, 21), (10, .nop, 0, 0, 0)] := rfl
  have hb_10 : ab_b iX11_requireMark [10] 10 = [(10, .nop, 0, 0, 0)] := rfl
  have hb_21 : ab_b iX11_requireMark [10] 21 = [(21, .return_, 1, 0, 0)] := rfl
  repeat' (first | (simp (disch := omega) only [hb_s, hb_10, hb_21, mX11_requireMark, Nat.beq, ab_l0, List.map_cons, List.map_nil, List.length_cons, List.length_nil, List.cons_append, List.nil_append, List.replicate, Nat.reduceAdd, Nat.reduceSub, List.getElem?_cons_zero, List.getElem?_cons_succ, List.getElem?_nil, List.set_cons_zero, List.set_cons_succ, true_and, and_true, ab_cst0, ab_cst1, ab_cst2, ab_cst3, ab_cst4, ab_cst5, ab_up_s, Nat.le_refl, Nat.reduceLT, Nat.reduceLeDiff, Nat.lt_add_one, Nat.zero_le, nz, n1, nI_add, pk_mul, pk_sub, ab_dec1, ab_vin, nI_clamp, ab_m1a, ab_m1b, ab_m1c, ab_m1d, ab_m1e, ab_m1f, ab_up_n, reduceIte, Nat.add_eq_left, Nat.left_eq_add, Nat.add_left_cancel_iff, Nat.reduceEqDiff, not_true_eq_false, not_false_eq_true, ne_eq, or_true, true_or, false_implies, forall_const, if_true, if_false, Nat.reduceMul, Bool.false_eq_true, reduceCtorEq, true_implies, ab_br_t, ab_br_f, ab_br_n, nd_ltT, nd_ltF, nd_leT, nd_leF, nd_eqT, nd_eqF, nM_eq, nM_ltM, nM_leM, Bool.toNat_true, Bool.toNat_false, gq_iconst, gq_bipush, gq_sipush, gq_iload, gq_aload, gq_istore, gq_astore, gq_iinc, gq_iadd, gq_isub, gq_imul, gq_iand, gq_ior, gq_ixor, gq_ishl, gq_ishr, gq_iushr, gq_idiv, gq_irem, gq_ineg, gq_i2l, gq_i2b, gq_dup, gq_dupr, gq_pop, gq_popr, gq_dup2, gq_goto, gq_getfield, gq_putfield, gq_iaload, gq_iastore, gq_baload, gq_ireturn, gq_return_, gq_invokevirtual, gq_invokestatic, gq_invokespecial, gq_nop, gq_new, gq_ldc, gq_ldc_w, gq_newarray, gq_anewarray, gq_getstatic, gq_aaload, gq_aastore, gq_bastore, gq_laload, gq_lastore, gq_lcmp, gq_athrow, gq_arraylength, gq_areturn, gq_if_acmp, gq_lconst, gq_tableswitch, gq_iload_n0, gq_iload_n1, gq_iload_n2, gq_iload_n3, gq_aload_n0, gq_aload_n1, gq_aload_n2, gq_aload_n3, gq_istore_n0, gq_istore_n1, gq_istore_n2, gq_istore_n3, gq_astore_n0, gq_astore_n1, gq_astore_n2, gq_astore_n3, gq_ifCond_eq, gq_ifCond_ne, gq_ifCond_lt, gq_ifCond_ge, gq_ifCond_gt, gq_ifCond_le, gq_if_icmp_eq, gq_if_icmp_ne, gq_if_icmp_lt, gq_if_icmp_ge, gq_if_icmp_gt, gq_if_icmp_le, ab_vo]) | (with_reducible refine ab_br_i ?_ ?_ <;> intro q <;> (try simp (disch := omega) only [ab_leI, ab_ltI, ab_eqI, Nat.not_lt, Nat.not_le, n1, nz] at q)))
  all_goals try clear hb_s hb_10 hb_21
theorem c_reqMx {x : Int32} (hx : ixn x 6 = none) : ab_Con mX11_requireMark [.int x] nx h (ab_vx "java/lang/IndexOutOfBoundsException" nx h) := by
  refine ab_Con.of (by decide) rfl (Nat.le_of_ble_eq_true rfl) ?_
  have hn := ixn_n hx
  refine ab_g_v okX11_requireMark (cut := [10]) 30 _ _ _ _ _ _ _ _ (ab_sq_b okX11_requireMark [10] 0) ?_
  have hb_s : ab_b iX11_requireMark [10] 0 = [(0, .iload_n 0, 1, 0, 0), (1, .ifCond .lt 9, 3, 0, 10), (4, .iload_n 0, 1, 0, 0), (5, .bipush 6, 2, 0, 0), (7, .if_icmp .lt 14, 3, 0, 21), (10, .nop, 0, 0, 0)] := rfl
  have hb_10 : ab_b iX11_requireMark [10] 10 = [(10, .nop, 0, 0, 0)] := rfl
  have hb_21 : ab_b iX11_requireMark [10] 21 = [(21, .return_, 1, 0, 0)] := rfl
  repeat' (first | (simp (disch := omega) only [hb_s, hb_10, hb_21, mX11_requireMark, Nat.beq, ab_l0, List.map_cons, List.map_nil, List.length_cons, List.length_nil, List.cons_append, List.nil_append, List.replicate, Nat.reduceAdd, Nat.reduceSub, List.getElem?_cons_zero, List.getElem?_cons_succ, List.getElem?_nil, List.set_cons_zero, List.set_cons_succ, true_and, and_true, ab_cst0, ab_cst1, ab_cst2, ab_cst3, ab_cst4, ab_cst5, ab_up_s, Nat.le_refl, Nat.reduceLT, Nat.reduceLeDiff, Nat.lt_add_one, Nat.zero_le, nz, n1, nI_add, pk_mul, pk_sub, ab_dec1, ab_vin, nI_clamp, ab_m1a, ab_m1b, ab_m1c, ab_m1d, ab_m1e, ab_m1f, ab_up_n, reduceIte, Nat.add_eq_left, Nat.left_eq_add, Nat.add_left_cancel_iff, Nat.reduceEqDiff, not_true_eq_false, not_false_eq_true, ne_eq, or_true, true_or, false_implies, forall_const, if_true, if_false, Nat.reduceMul, Bool.false_eq_true, reduceCtorEq, true_implies, ab_br_t, ab_br_f, ab_br_n, nd_ltT, nd_ltF, nd_leT, nd_leF, nd_eqT, nd_eqF, nM_eq, nM_ltM, nM_leM, Bool.toNat_true, Bool.toNat_false, gq_iconst, gq_bipush, gq_sipush, gq_iload, gq_aload, gq_istore, gq_astore, gq_iinc, gq_iadd, gq_isub, gq_imul, gq_iand, gq_ior, gq_ixor, gq_ishl, gq_ishr, gq_iushr, gq_idiv, gq_irem, gq_ineg, gq_i2l, gq_i2b, gq_dup, gq_dupr, gq_pop, gq_popr, gq_dup2, gq_goto, gq_getfield, gq_putfield, gq_iaload, gq_iastore, gq_baload, gq_ireturn, gq_return_, gq_invokevirtual, gq_invokestatic, gq_invokespecial, gq_nop, gq_new, gq_ldc, gq_ldc_w, gq_newarray, gq_anewarray, gq_getstatic, gq_aaload, gq_aastore, gq_bastore, gq_laload, gq_lastore, gq_lcmp, gq_athrow, gq_arraylength, gq_areturn, gq_if_acmp, gq_lconst, gq_tableswitch, gq_iload_n0, gq_iload_n1, gq_iload_n2, gq_iload_n3, gq_aload_n0, gq_aload_n1, gq_aload_n2, gq_aload_n3, gq_istore_n0, gq_istore_n1, gq_istore_n2, gq_istore_n3, gq_astore_n0, gq_astore_n1, gq_astore_n2, gq_astore_n3, gq_ifCond_eq, gq_ifCond_ne, gq_ifCond_lt, gq_ifCond_ge, gq_ifCond_gt, gq_ifCond_le, gq_if_icmp_eq, gq_if_icmp_ne, gq_if_icmp_lt, gq_if_icmp_ge, gq_if_icmp_gt, gq_if_icmp_le, ab_vx]) | (with_reducible refine ab_br_i ?_ ?_ <;> intro q <;> (try simp (disch := omega) only [ab_leI, ab_ltI, ab_eqI, Nat.not_lt, Nat.not_le, n1, nz] at q)))
  all_goals try clear hb_s hb_10 hb_21
  · refine bv_thrW "there is no such mark" 8 xw_IO okX11_requireMark (by decide +kernel) rfl rfl rfl rfl rfl rfl rfl rfl rfl ?_
    exact fun nx' hn => ⟨rfl, hn, rfl⟩
  · rcases hn with hn | hn <;> first | contradiction | exact absurd q (Int32.not_lt.mpr hn)
  · refine bv_thrW "there is no such mark" 8 xw_IO okX11_requireMark (by decide +kernel) rfl rfl rfl rfl rfl rfl rfl rfl rfl ?_
    exact fun nx' hn => ⟨rfl, hn, rfl⟩
theorem c_reqN {j : Nat} (hj : j ≤ 60) : ab_Con mX11_requireNightsAhead [.int (nI j)] nx h (ab_vo nx h) := by
  refine ab_Con.of (by decide) rfl (Nat.le_of_ble_eq_true rfl) ?_
  refine ab_g_v okX11_requireNightsAhead (cut := [10]) 30 _ _ _ _ _ _ _ _ (ab_sq_b okX11_requireNightsAhead [10] 0) ?_
  have hb_s : ab_b iX11_requireNightsAhead [10] 0 = [(0, .iload_n 0, 1, 0, 0), (1, .ifCond .lt 9, 3, 0, 10), (4, .iload_n 0, 1, 0, 0), (5, .bipush 60, 2, 0, 0), (7, .if_icmp .le 13, 3, 0, 20), (10, .nop, 0, 0, 0)] := rfl
  have hb_10 : ab_b iX11_requireNightsAhead [10] 10 = [(10, .nop, 0, 0, 0)] := rfl
  have hb_20 : ab_b iX11_requireNightsAhead [10] 20 = [(20, .return_, 1, 0, 0)] := rfl
  repeat' (first | (simp (disch := omega) only [hb_s, hb_10, hb_20, mX11_requireNightsAhead, Nat.beq, ab_l0, List.map_cons, List.map_nil, List.length_cons, List.length_nil, List.cons_append, List.nil_append, List.replicate, Nat.reduceAdd, Nat.reduceSub, List.getElem?_cons_zero, List.getElem?_cons_succ, List.getElem?_nil, List.set_cons_zero, List.set_cons_succ, true_and, and_true, ab_cst0, ab_cst1, ab_cst2, ab_cst3, ab_cst4, ab_cst5, ab_up_s, Nat.le_refl, Nat.reduceLT, Nat.reduceLeDiff, Nat.lt_add_one, Nat.zero_le, nz, n1, nI_add, pk_mul, pk_sub, ab_dec1, ab_vin, nI_clamp, ab_m1a, ab_m1b, ab_m1c, ab_m1d, ab_m1e, ab_m1f, ab_up_n, reduceIte, Nat.add_eq_left, Nat.left_eq_add, Nat.add_left_cancel_iff, Nat.reduceEqDiff, not_true_eq_false, not_false_eq_true, ne_eq, or_true, true_or, false_implies, forall_const, if_true, if_false, Nat.reduceMul, Bool.false_eq_true, reduceCtorEq, true_implies, ab_br_t, ab_br_f, ab_br_n, nd_ltT, nd_ltF, nd_leT, nd_leF, nd_eqT, nd_eqF, nM_eq, nM_ltM, nM_leM, Bool.toNat_true, Bool.toNat_false, gq_iconst, gq_bipush, gq_sipush, gq_iload, gq_aload, gq_istore, gq_astore, gq_iinc, gq_iadd, gq_isub, gq_imul, gq_iand, gq_ior, gq_ixor, gq_ishl, gq_ishr, gq_iushr, gq_idiv, gq_irem, gq_ineg, gq_i2l, gq_i2b, gq_dup, gq_dupr, gq_pop, gq_popr, gq_dup2, gq_goto, gq_getfield, gq_putfield, gq_iaload, gq_iastore, gq_baload, gq_ireturn, gq_return_, gq_invokevirtual, gq_invokestatic, gq_invokespecial, gq_nop, gq_new, gq_ldc, gq_ldc_w, gq_newarray, gq_anewarray, gq_getstatic, gq_aaload, gq_aastore, gq_bastore, gq_laload, gq_lastore, gq_lcmp, gq_athrow, gq_arraylength, gq_areturn, gq_if_acmp, gq_lconst, gq_tableswitch, gq_iload_n0, gq_iload_n1, gq_iload_n2, gq_iload_n3, gq_aload_n0, gq_aload_n1, gq_aload_n2, gq_aload_n3, gq_istore_n0, gq_istore_n1, gq_istore_n2, gq_istore_n3, gq_astore_n0, gq_astore_n1, gq_astore_n2, gq_astore_n3, gq_ifCond_eq, gq_ifCond_ne, gq_ifCond_lt, gq_ifCond_ge, gq_ifCond_gt, gq_ifCond_le, gq_if_icmp_eq, gq_if_icmp_ne, gq_if_icmp_lt, gq_if_icmp_ge, gq_if_icmp_gt, gq_if_icmp_le, ab_vo]) | (with_reducible refine ab_br_i ?_ ?_ <;> intro q <;> (try simp (disch := omega) only [ab_leI, ab_ltI, ab_eqI, Nat.not_lt, Nat.not_le, n1, nz] at q)))
  all_goals try clear hb_s hb_10 hb_20
theorem c_reqNx {x : Int32} (hx : rgn x 0 60 = none) : ab_Con mX11_requireNightsAhead [.int x] nx h (ab_vx "java/lang/IllegalArgumentException" nx h) := by
  refine ab_Con.of (by decide) rfl (Nat.le_of_ble_eq_true rfl) ?_
  have hn := rgn_n hx
  refine ab_g_v okX11_requireNightsAhead (cut := [10]) 30 _ _ _ _ _ _ _ _ (ab_sq_b okX11_requireNightsAhead [10] 0) ?_
  have hb_s : ab_b iX11_requireNightsAhead [10] 0 = [(0, .iload_n 0, 1, 0, 0), (1, .ifCond .lt 9, 3, 0, 10), (4, .iload_n 0, 1, 0, 0), (5, .bipush 60, 2, 0, 0), (7, .if_icmp .le 13, 3, 0, 20), (10, .nop, 0, 0, 0)] := rfl
  have hb_10 : ab_b iX11_requireNightsAhead [10] 10 = [(10, .nop, 0, 0, 0)] := rfl
  have hb_20 : ab_b iX11_requireNightsAhead [10] 20 = [(20, .return_, 1, 0, 0)] := rfl
  repeat' (first | (simp (disch := omega) only [hb_s, hb_10, hb_20, mX11_requireNightsAhead, Nat.beq, ab_l0, List.map_cons, List.map_nil, List.length_cons, List.length_nil, List.cons_append, List.nil_append, List.replicate, Nat.reduceAdd, Nat.reduceSub, List.getElem?_cons_zero, List.getElem?_cons_succ, List.getElem?_nil, List.set_cons_zero, List.set_cons_succ, true_and, and_true, ab_cst0, ab_cst1, ab_cst2, ab_cst3, ab_cst4, ab_cst5, ab_up_s, Nat.le_refl, Nat.reduceLT, Nat.reduceLeDiff, Nat.lt_add_one, Nat.zero_le, nz, n1, nI_add, pk_mul, pk_sub, ab_dec1, ab_vin, nI_clamp, ab_m1a, ab_m1b, ab_m1c, ab_m1d, ab_m1e, ab_m1f, ab_up_n, reduceIte, Nat.add_eq_left, Nat.left_eq_add, Nat.add_left_cancel_iff, Nat.reduceEqDiff, not_true_eq_false, not_false_eq_true, ne_eq, or_true, true_or, false_implies, forall_const, if_true, if_false, Nat.reduceMul, Bool.false_eq_true, reduceCtorEq, true_implies, ab_br_t, ab_br_f, ab_br_n, nd_ltT, nd_ltF, nd_leT, nd_leF, nd_eqT, nd_eqF, nM_eq, nM_ltM, nM_leM, Bool.toNat_true, Bool.toNat_false, gq_iconst, gq_bipush, gq_sipush, gq_iload, gq_aload, gq_istore, gq_astore, gq_iinc, gq_iadd, gq_isub, gq_imul, gq_iand, gq_ior, gq_ixor, gq_ishl, gq_ishr, gq_iushr, gq_idiv, gq_irem, gq_ineg, gq_i2l, gq_i2b, gq_dup, gq_dupr, gq_pop, gq_popr, gq_dup2, gq_goto, gq_getfield, gq_putfield, gq_iaload, gq_iastore, gq_baload, gq_ireturn, gq_return_, gq_invokevirtual, gq_invokestatic, gq_invokespecial, gq_nop, gq_new, gq_ldc, gq_ldc_w, gq_newarray, gq_anewarray, gq_getstatic, gq_aaload, gq_aastore, gq_bastore, gq_laload, gq_lastore, gq_lcmp, gq_athrow, gq_arraylength, gq_areturn, gq_if_acmp, gq_lconst, gq_tableswitch, gq_iload_n0, gq_iload_n1, gq_iload_n2, gq_iload_n3, gq_aload_n0, gq_aload_n1, gq_aload_n2, gq_aload_n3, gq_istore_n0, gq_istore_n1, gq_istore_n2, gq_istore_n3, gq_astore_n0, gq_astore_n1, gq_astore_n2, gq_astore_n3, gq_ifCond_eq, gq_ifCond_ne, gq_ifCond_lt, gq_ifCond_ge, gq_ifCond_gt, gq_ifCond_le, gq_if_icmp_eq, gq_if_icmp_ne, gq_if_icmp_lt, gq_if_icmp_ge, gq_if_icmp_gt, gq_if_icmp_le, ab_vx]) | (with_reducible refine ab_br_i ?_ ?_ <;> intro q <;> (try simp (disch := omega) only [ab_leI, ab_ltI, ab_eqI, Nat.not_lt, Nat.not_le, n1, nz] at q)))
  all_goals try clear hb_s hb_10 hb_20
  · refine bv_thr "so many nights are none" 7 xw_IA okX11_requireNightsAhead (by decide +kernel) rfl rfl rfl rfl rfl rfl rfl rfl rfl ?_
    exact fun nx' hn => ⟨rfl, hn, rfl⟩
  · rcases hn with hn | hn <;> first | contradiction | exact absurd q (Int32.not_le.mpr hn)
  · refine bv_thr "so many nights are none" 7 xw_IA okX11_requireNightsAhead (by decide +kernel) rfl rfl rfl rfl rfl rfl rfl rfl rfl ?_
    exact fun nx' hn => ⟨rfl, hn, rfl⟩
theorem c_reqK {j : Nat} (hj : 1 ≤ j) (hj2 : j ≤ 6) : ab_Con mX11_requireSleeperNumber [.int (nI j)] nx h (ab_vo nx h) := by
  refine ab_Con.of (by decide) rfl (Nat.le_of_ble_eq_true rfl) ?_
  refine ab_g_v okX11_requireSleeperNumber (cut := [11]) 30 _ _ _ _ _ _ _ _ (ab_sq_b okX11_requireSleeperNumber [11] 0) ?_
  have hb_s : ab_b iX11_requireSleeperNumber [11] 0 = [(0, .iload_n 0, 1, 0, 0), (1, .iconst 1, 1, 0, 0), (2, .if_icmp .lt 9, 3, 0, 11), (5, .iload_n 0, 1, 0, 0), (6, .bipush 6, 2, 0, 0), (8, .if_icmp .le 14, 3, 0, 22), (11, .nop, 0, 0, 0)] := rfl
  have hb_11 : ab_b iX11_requireSleeperNumber [11] 11 = [(11, .nop, 0, 0, 0)] := rfl
  have hb_22 : ab_b iX11_requireSleeperNumber [11] 22 = [(22, .return_, 1, 0, 0)] := rfl
  repeat' (first | (simp (disch := omega) only [hb_s, hb_11, hb_22, mX11_requireSleeperNumber, Nat.beq, ab_l0, List.map_cons, List.map_nil, List.length_cons, List.length_nil, List.cons_append, List.nil_append, List.replicate, Nat.reduceAdd, Nat.reduceSub, List.getElem?_cons_zero, List.getElem?_cons_succ, List.getElem?_nil, List.set_cons_zero, List.set_cons_succ, true_and, and_true, ab_cst0, ab_cst1, ab_cst2, ab_cst3, ab_cst4, ab_cst5, ab_up_s, Nat.le_refl, Nat.reduceLT, Nat.reduceLeDiff, Nat.lt_add_one, Nat.zero_le, nz, n1, nI_add, pk_mul, pk_sub, ab_dec1, ab_vin, nI_clamp, ab_m1a, ab_m1b, ab_m1c, ab_m1d, ab_m1e, ab_m1f, ab_up_n, reduceIte, Nat.add_eq_left, Nat.left_eq_add, Nat.add_left_cancel_iff, Nat.reduceEqDiff, not_true_eq_false, not_false_eq_true, ne_eq, or_true, true_or, false_implies, forall_const, if_true, if_false, Nat.reduceMul, Bool.false_eq_true, reduceCtorEq, true_implies, ab_br_t, ab_br_f, ab_br_n, nd_ltT, nd_ltF, nd_leT, nd_leF, nd_eqT, nd_eqF, nM_eq, nM_ltM, nM_leM, Bool.toNat_true, Bool.toNat_false, gq_iconst, gq_bipush, gq_sipush, gq_iload, gq_aload, gq_istore, gq_astore, gq_iinc, gq_iadd, gq_isub, gq_imul, gq_iand, gq_ior, gq_ixor, gq_ishl, gq_ishr, gq_iushr, gq_idiv, gq_irem, gq_ineg, gq_i2l, gq_i2b, gq_dup, gq_dupr, gq_pop, gq_popr, gq_dup2, gq_goto, gq_getfield, gq_putfield, gq_iaload, gq_iastore, gq_baload, gq_ireturn, gq_return_, gq_invokevirtual, gq_invokestatic, gq_invokespecial, gq_nop, gq_new, gq_ldc, gq_ldc_w, gq_newarray, gq_anewarray, gq_getstatic, gq_aaload, gq_aastore, gq_bastore, gq_laload, gq_lastore, gq_lcmp, gq_athrow, gq_arraylength, gq_areturn, gq_if_acmp, gq_lconst, gq_tableswitch, gq_iload_n0, gq_iload_n1, gq_iload_n2, gq_iload_n3, gq_aload_n0, gq_aload_n1, gq_aload_n2, gq_aload_n3, gq_istore_n0, gq_istore_n1, gq_istore_n2, gq_istore_n3, gq_astore_n0, gq_astore_n1, gq_astore_n2, gq_astore_n3, gq_ifCond_eq, gq_ifCond_ne, gq_ifCond_lt, gq_ifCond_ge, gq_ifCond_gt, gq_ifCond_le, gq_if_icmp_eq, gq_if_icmp_ne, gq_if_icmp_lt, gq_if_icmp_ge, gq_if_icmp_gt, gq_if_icmp_le, ab_vo]) | (with_reducible refine ab_br_i ?_ ?_ <;> intro q <;> (try simp (disch := omega) only [ab_leI, ab_ltI, ab_eqI, Nat.not_lt, Nat.not_le, n1, nz] at q)))
  all_goals try clear hb_s hb_11 hb_22
theorem c_reqKx {x : Int32} (hx : rgn x 1 6 = none) : ab_Con mX11_requireSleeperNumber [.int x] nx h (ab_vx "java/lang/IllegalArgumentException" nx h) := by
  refine ab_Con.of (by decide) rfl (Nat.le_of_ble_eq_true rfl) ?_
  have hn := rgn_n hx
  refine ab_g_v okX11_requireSleeperNumber (cut := [11]) 30 _ _ _ _ _ _ _ _ (ab_sq_b okX11_requireSleeperNumber [11] 0) ?_
  have hb_s : ab_b iX11_requireSleeperNumber [11] 0 = [(0, .iload_n 0, 1, 0, 0), (1, .iconst 1, 1, 0, 0), (2, .if_icmp .lt 9, 3, 0, 11), (5, .iload_n 0, 1, 0, 0), (6, .bipush 6, 2, 0, 0), (8, .if_icmp .le 14, 3, 0, 22), (11, .nop, 0, 0, 0)] := rfl
  have hb_11 : ab_b iX11_requireSleeperNumber [11] 11 = [(11, .nop, 0, 0, 0)] := rfl
  have hb_22 : ab_b iX11_requireSleeperNumber [11] 22 = [(22, .return_, 1, 0, 0)] := rfl
  repeat' (first | (simp (disch := omega) only [hb_s, hb_11, hb_22, mX11_requireSleeperNumber, Nat.beq, ab_l0, List.map_cons, List.map_nil, List.length_cons, List.length_nil, List.cons_append, List.nil_append, List.replicate, Nat.reduceAdd, Nat.reduceSub, List.getElem?_cons_zero, List.getElem?_cons_succ, List.getElem?_nil, List.set_cons_zero, List.set_cons_succ, true_and, and_true, ab_cst0, ab_cst1, ab_cst2, ab_cst3, ab_cst4, ab_cst5, ab_up_s, Nat.le_refl, Nat.reduceLT, Nat.reduceLeDiff, Nat.lt_add_one, Nat.zero_le, nz, n1, nI_add, pk_mul, pk_sub, ab_dec1, ab_vin, nI_clamp, ab_m1a, ab_m1b, ab_m1c, ab_m1d, ab_m1e, ab_m1f, ab_up_n, reduceIte, Nat.add_eq_left, Nat.left_eq_add, Nat.add_left_cancel_iff, Nat.reduceEqDiff, not_true_eq_false, not_false_eq_true, ne_eq, or_true, true_or, false_implies, forall_const, if_true, if_false, Nat.reduceMul, Bool.false_eq_true, reduceCtorEq, true_implies, ab_br_t, ab_br_f, ab_br_n, nd_ltT, nd_ltF, nd_leT, nd_leF, nd_eqT, nd_eqF, nM_eq, nM_ltM, nM_leM, Bool.toNat_true, Bool.toNat_false, gq_iconst, gq_bipush, gq_sipush, gq_iload, gq_aload, gq_istore, gq_astore, gq_iinc, gq_iadd, gq_isub, gq_imul, gq_iand, gq_ior, gq_ixor, gq_ishl, gq_ishr, gq_iushr, gq_idiv, gq_irem, gq_ineg, gq_i2l, gq_i2b, gq_dup, gq_dupr, gq_pop, gq_popr, gq_dup2, gq_goto, gq_getfield, gq_putfield, gq_iaload, gq_iastore, gq_baload, gq_ireturn, gq_return_, gq_invokevirtual, gq_invokestatic, gq_invokespecial, gq_nop, gq_new, gq_ldc, gq_ldc_w, gq_newarray, gq_anewarray, gq_getstatic, gq_aaload, gq_aastore, gq_bastore, gq_laload, gq_lastore, gq_lcmp, gq_athrow, gq_arraylength, gq_areturn, gq_if_acmp, gq_lconst, gq_tableswitch, gq_iload_n0, gq_iload_n1, gq_iload_n2, gq_iload_n3, gq_aload_n0, gq_aload_n1, gq_aload_n2, gq_aload_n3, gq_istore_n0, gq_istore_n1, gq_istore_n2, gq_istore_n3, gq_astore_n0, gq_astore_n1, gq_astore_n2, gq_astore_n3, gq_ifCond_eq, gq_ifCond_ne, gq_ifCond_lt, gq_ifCond_ge, gq_ifCond_gt, gq_ifCond_le, gq_if_icmp_eq, gq_if_icmp_ne, gq_if_icmp_lt, gq_if_icmp_ge, gq_if_icmp_gt, gq_if_icmp_le, ab_vx]) | (with_reducible refine ab_br_i ?_ ?_ <;> intro q <;> (try simp (disch := omega) only [ab_leI, ab_ltI, ab_eqI, Nat.not_lt, Nat.not_le, n1, nz] at q)))
  all_goals try clear hb_s hb_11 hb_22
  · refine bv_thrW "so many sleepers are none" 14 xw_IA okX11_requireSleeperNumber (by decide +kernel) rfl rfl rfl rfl rfl rfl rfl rfl rfl ?_
    exact fun nx' hn => ⟨rfl, hn, rfl⟩
  · rcases hn with hn | hn <;> first | contradiction | exact absurd q (Int32.not_le.mpr hn)
  · refine bv_thrW "so many sleepers are none" 14 xw_IA okX11_requireSleeperNumber (by decide +kernel) rfl rfl rfl rfl rfl rfl rfl rfl rfl ?_
    exact fun nx' hn => ⟨rfl, hn, rfl⟩
end RQ
theorem tb_0 (b : Bool) : (nI b.toNat = nI 0) = (b = false) := by cases b <;> simp <;> decide
theorem tb_1 (b : Bool) : (nI b.toNat = nI 1) = (b = true) := by cases b <;> simp <;> decide
theorem tb_k0 : (nI 0 = nI 1) = False := eq_false (by decide)
theorem tb_k1 : (nI 1 = nI 0) = False := eq_false (by decide)
