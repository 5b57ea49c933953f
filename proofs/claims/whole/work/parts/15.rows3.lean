/-! ===== where the reckoning stops ===== -/
section BE
variable {M : ab_M} {post : ab_P} {J I : List ab_E} {cut : List Nat} {n pc ci fd cu su nx : Nat} {ls : List (Option Value)} {r : List Value} {h : ab_H}
theorem ge_ldc {i : Nat} : ab_g M post J cut (n + 1) ((pc, .ldc i, 2, ci, fd) :: I) cu su ls r nx h = ab_V M post cu su pc ls r nx h := rfl
theorem ge_ldc_w {i : Nat} : ab_g M post J cut (n + 1) ((pc, .ldc_w i, 3, ci, fd) :: I) cu su ls r nx h = ab_V M post cu su pc ls r nx h := rfl
theorem ge_newarray {i : ArrayType} : ab_g M post J cut (n + 1) ((pc, .newarray i, 2, ci, fd) :: I) cu su ls r nx h = ab_V M post cu su pc ls r nx h := rfl
theorem ge_anewarray {i : Nat} : ab_g M post J cut (n + 1) ((pc, .anewarray i, 3, ci, fd) :: I) cu su ls r nx h = ab_V M post cu su pc ls r nx h := rfl
theorem ge_getstatic {i : Nat} : ab_g M post J cut (n + 1) ((pc, .getstatic i, 3, ci, fd) :: I) cu su ls r nx h = ab_V M post cu su pc ls r nx h := rfl
theorem ge_aaload  : ab_g M post J cut (n + 1) ((pc, .aaload, 1, ci, fd) :: I) cu su ls r nx h = ab_V M post cu su pc ls r nx h := rfl
theorem ge_aastore  : ab_g M post J cut (n + 1) ((pc, .aastore, 1, ci, fd) :: I) cu su ls r nx h = ab_V M post cu su pc ls r nx h := rfl
theorem ge_bastore  : ab_g M post J cut (n + 1) ((pc, .bastore, 1, ci, fd) :: I) cu su ls r nx h = ab_V M post cu su pc ls r nx h := rfl
theorem ge_laload  : ab_g M post J cut (n + 1) ((pc, .laload, 1, ci, fd) :: I) cu su ls r nx h = ab_V M post cu su pc ls r nx h := rfl
theorem ge_lastore  : ab_g M post J cut (n + 1) ((pc, .lastore, 1, ci, fd) :: I) cu su ls r nx h = ab_V M post cu su pc ls r nx h := rfl
theorem ge_lcmp  : ab_g M post J cut (n + 1) ((pc, .lcmp, 1, ci, fd) :: I) cu su ls r nx h = ab_V M post cu su pc ls r nx h := rfl
theorem ge_athrow  : ab_g M post J cut (n + 1) ((pc, .athrow, 1, ci, fd) :: I) cu su ls r nx h = ab_V M post cu su pc ls r nx h := rfl
theorem ge_arraylength  : ab_g M post J cut (n + 1) ((pc, .arraylength, 1, ci, fd) :: I) cu su ls r nx h = ab_V M post cu su pc ls r nx h := rfl
theorem ge_areturn  : ab_g M post J cut (n + 1) ((pc, .areturn, 1, ci, fd) :: I) cu su ls r nx h = ab_V M post cu su pc ls r nx h := rfl
theorem ge_if_acmp {i : ACond} {j : Int} : ab_g M post J cut (n + 1) ((pc, .if_acmp i j, 3, ci, fd) :: I) cu su ls r nx h = ab_V M post cu su pc ls r nx h := rfl
theorem ge_lconst {i : Fin 2} : ab_g M post J cut (n + 1) ((pc, .lconst i, 1, ci, fd) :: I) cu su ls r nx h = ab_V M post cu su pc ls r nx h := rfl
theorem ge_tableswitch {i j k : Int} {l : Array Int} {m : Nat} : ab_g M post J cut (n + 1) ((pc, .tableswitch i j k l, m, ci, fd) :: I) cu su ls r nx h = ab_V M post cu su pc ls r nx h := rfl
end BE
/-! ===== rows that are alike; a whole row copied ===== -/
theorem ab_up_u (h : ab_H) (k : Nat) (c d : ab_C) : ab_up (ab_up h k c) k d = ab_up h k d := by
  funext j
  by_cases e : j = k
  · subst e; rw [ab_up_s, ab_up_s]
  · rw [ab_up_n _ _ e, ab_up_n _ _ e, ab_up_n _ _ e]
theorem ab_up_c (h : ab_H) {j k : Nat} (c d : ab_C) (hjk : j ≠ k) : ab_up (ab_up h k c) j d = ab_up (ab_up h j d) k c := by
  funext i
  by_cases e : i = j
  · subst e; rw [ab_up_s, ab_up_n _ _ hjk, ab_up_s]
  · by_cases e2 : i = k
    · subst e2; rw [ab_up_n _ _ e, ab_up_s, ab_up_s]
    · rw [ab_up_n _ _ e, ab_up_n _ _ e2, ab_up_n _ _ e2, ab_up_n _ _ e]
theorem ab_up_self {h : ab_H} {k : Nat} {c : ab_C} (hk : h k = some c) : ab_up h k c = h := by
  funext i
  by_cases e : i = k
  · subst e; rw [ab_up_s, hk]
  · rw [ab_up_n _ _ e]
theorem ab_arr_ext {cA : ClassId} {n : Nat} {f g : Nat → Int32} (h : ∀ j, j < n → f j = g j) : arrV cA n (fun j => Value.int (f j)) = arrV cA n (fun j => .int (g j)) := by
  unfold arrV
  congr 1
  apply Array.ext
  · simp
  · intro i h1 h2
    simp at h1
    simp [h i h1]
section BV
variable {M M' : ab_M} {post post' : ab_P} {cu su pc : Nat} {ls : List (Option Value)} {st rest : List Value} {nx : Nat} {h : ab_H} {J t : List ab_E} {c0 f0 : Nat}
theorem bv_eqv {b kd n : Nat} {f g : Nat → Int32} (hb : h b = some (.inr (kd, n, .inl f))) (hfg : ∀ j, j < n → f j = g j) (k : ab_V M post cu su pc ls st nx (ab_up h b (.inr (kd, n, .inl g)))) (hkd : Nat.beq kd 7 = false := by rfl) : ab_V M post cu su pc ls st nx h := by
  intro p l e s m args below meth c G D H locs A C hW hS hB hL
  obtain ⟨b1, b2, b3⟩ := hW.own hb hkd
  refine k p l e s m args below meth c G D H locs A C (hW.up b1 b2 rfl (fun _ _ => rfl) ?_) hS hB hL
  exact b3.trans (congrArg some (ab_arr_ext hfg))
/-- a call of a method that changes nothing; one that changes something -/
theorem bv_vA {idx b ci : Nat} {fs As : List Value} {v : Value} (hcon : ab_Con M' (.ref b :: As) nx h (ab_an v nx h)) (hok : ab_cd M 0 J) (hJ : ab_dr pc J = (pc, .invokevirtual idx, 3, c0, f0) :: t) (hl : ab_lv M.1.cls idx M' As.length) (hb : h b = some (.inl (ci, fs))) (hci : vwCl[ci]?.map (fun q => q.1) = some M'.1.cls) (hf : ab_fitb M M' cu su rest = true) (hz : M'.2.2.2.2.2 = (0, 0)) (hst : st = As.reverse ++ .ref b :: rest)
    (k : ab_V M post cu su (pc + 3) ls (v :: rest) nx h) : ab_V M post cu su pc ls st nx h := bv_cVa hok hJ hl hb hci hf hz hst hcon k
theorem bv_sA {idx : Nat} {As : List Value} {v : Value} (hcon : ab_Con M' As nx h (ab_an v nx h)) (hok : ab_cd M 0 J) (hJ : ab_dr pc J = (pc, .invokestatic idx, 3, c0, f0) :: t) (hl : ab_ls M.1.cls idx M' As.length) (hf : ab_fitb M M' cu su rest = true) (hz : M'.2.2.2.2.2 = (0, 0)) (hst : st = As.reverse ++ rest)
    (k : ab_V M post cu su (pc + 3) ls (v :: rest) nx h) : ab_V M post cu su pc ls st nx h := bv_cSa hok hJ hl hf hz hst hcon k
theorem bv_v {idx b ci : Nat} {fs As : List Value} (hcon : ab_Con M' (.ref b :: As) nx h post') (hok : ab_cd M 0 J) (hJ : ab_dr pc J = (pc, .invokevirtual idx, 3, c0, f0) :: t) (hl : ab_lv M.1.cls idx M' As.length) (hb : h b = some (.inl (ci, fs))) (hci : vwCl[ci]?.map (fun q => q.1) = some M'.1.cls) (hf : ab_fitb M M' cu su rest = true) (hst : st = As.reverse ++ .ref b :: rest)
    (k : ∀ r nx' h', post' r nx' h' → ab_K1 M M' post cu su pc ls rest r nx' h') : ab_V M post cu su pc ls st nx h := bv_cV hok hJ hl hb hci hf hst hcon k
theorem bv_s {idx : Nat} {As : List Value} (hcon : ab_Con M' As nx h post') (hok : ab_cd M 0 J) (hJ : ab_dr pc J = (pc, .invokestatic idx, 3, c0, f0) :: t) (hl : ab_ls M.1.cls idx M' As.length) (hf : ab_fitb M M' cu su rest = true) (hst : st = As.reverse ++ rest)
    (k : ∀ r nx' h', post' r nx' h' → ab_K1 M M' post cu su pc ls rest r nx' h') : ab_V M post cu su pc ls st nx h := bv_cS hok hJ hl hf hst hcon k
theorem bv_copyF {idx a b na nb : Nat} {f g : Nat → Int32} {n : Int32} (hok : ab_cd M 0 J) (hJ : ab_dr pc J = (pc, .invokestatic idx, 3, c0, f0) :: t) (hl : ab_cpw M.1.cls idx) (ha : h a = some (.inr (0, na, .inl f))) (hb : h b = some (.inr (0, nb, .inl g))) (hab : a ≠ b) (hn : n = nI nb) (h31 : nb < 2 ^ 31) (h4 : nb ≤ na) (hd : 1 ≤ M.2.2.2.2.1) (hr : (st.map fun v => v.category).sum ≤ 8)
    (k : ab_V M post cu su (pc + 3) ls st nx (ab_up h b (.inr (0, nb, .inl f)))) : ab_V M post cu su pc ls (.int n :: .int (nI 0) :: .ref b :: .int (nI 0) :: .ref a :: st) nx h := by
  subst hn
  have e0 : (nI 0).toNatClampNeg = 0 := rfl
  have e1 : (nI nb).toNatClampNeg = nb := nI_clamp h31
  refine bv_copy hok hJ hl ha hb hab (nI_pos (by decide)) (nI_pos (by decide)) (nI_pos h31) (by rw [e0, e1]; omega) (by rw [e0, e1]; omega) hd hr ?_
  rw [e0, e1]
  refine bv_eqv (b := b) (kd := 0) (n := nb) (f := va_cpy f g 0 0 nb) (g := f) (ab_up_s _ _ _) (fun j hj => pk_cpy_in (Nat.zero_le _) (by omega) |>.trans (by simp)) ?_
  rw [ab_up_u]
  exact k
end BV
theorem ab_m1 {a : Nat} (h : a < 2 ^ 31) : ((nI a = nM) = False) ∧ ((nM = nI a) = False) ∧ ((nI a < nM) = False) ∧ ((nI a ≤ nM) = False) ∧ ((nM < nI a) = True) ∧ ((nM ≤ nI a) = True) := by
  have e := nI_toInt h
  have e1 : nM.toInt = -1 := rfl
  refine ⟨?_, ?_, ?_, ?_, ?_, ?_⟩
  · refine eq_false (fun q => ?_); rw [fa_eq, e, e1] at q; omega
  · refine eq_false (fun q => ?_); rw [fa_eq, e, e1] at q; omega
  · refine eq_false (fun q => ?_); rw [fa_lt, e, e1] at q; omega
  · refine eq_false (fun q => ?_); rw [fa_le, e, e1] at q; omega
  · refine eq_true ?_; rw [fa_lt, e, e1]; omega
  · refine eq_true ?_; rw [fa_le, e, e1]; omega
theorem ab_m1a {a : Nat} (h : a < 2 ^ 31) : (nI a = nM) = False := (ab_m1 h).1
theorem ab_m1b {a : Nat} (h : a < 2 ^ 31) : (nM = nI a) = False := (ab_m1 h).2.1
theorem ab_m1c {a : Nat} (h : a < 2 ^ 31) : (nI a < nM) = False := (ab_m1 h).2.2.1
theorem ab_m1d {a : Nat} (h : a < 2 ^ 31) : (nI a ≤ nM) = False := (ab_m1 h).2.2.2.1
theorem ab_m1e {a : Nat} (h : a < 2 ^ 31) : (nM < nI a) = True := (ab_m1 h).2.2.2.2.1
theorem ab_m1f {a : Nat} (h : a < 2 ^ 31) : (nM ≤ nI a) = True := (ab_m1 h).2.2.2.2.2
theorem ab_dec1 {a : Nat} (h : 1 ≤ a) : nI a + nM = nI (a - 1) := by
  obtain ⟨b, rfl⟩ : ∃ b, a = b + 1 := ⟨a - 1, by omega⟩
  exact pk_m1 b
theorem n1 : (1 : Int32) = nI 1 := rfl
/-! ===== the JDK's own ===== -/
theorem vx_ofWF {l : Launch} {y : MethodName} {ws ws' : List Cond} {rm : Room} {Pc : Array Value → State → Prop} {Qc : Array Value → State → Outcome → State → Prop} {XC : String → State → State → Prop} {mc ms : Nat} {free : Addr → Prop} {cc : ByteArray} {maxL : Nat} {ret : Option FieldType}
    (hy : plainFor y = true) (hw : ws = Cond.code y cc maxL ret :: ws')
    (body : ∀ p e s m args below meth c s₁, BodyLoose p l y (headSpec ws rm) cc maxL ret e s m args below meth c s₁ → c.maxLocals = maxL → (∀ x ∈ c.exceptionTable.toList, False) → Pc args s →
      W p l e (headSpec ws rm).room s m args below meth c s.heap [] 0 0 (vx_MQ below Qc XC args s mc ms free) (entryFrame m args maxL)) : vx_Met l y ws rm Pc Qc XC mc ms free := by
  refine MetFree.of_bodySF (code := cc) (maxLocals := maxL) (ret := ret) hy ?_ ?_
  · intro args s m h hn
    obtain ⟨meth, c, h1, h2, h3, h4, h5, h6, -, -⟩ := Cond.code_spec hn (atoms_spec (ws := ws) h _ (by rw [hw]; exact List.mem_cons_self))
    exact ⟨meth, c, h1, h2, h3, h4, h5, h6⟩
  · intro p e s m args below meth c s₁ B hml hP _
    have hh0 : s₁.heap = s.heap := by rw [B.state]; rfl
    have ht : ∀ x ∈ c.exceptionTable.toList, False := by
      obtain ⟨meth9, c9, h1, h2, -, -, -, -, h7, -⟩ := Cond.code_spec B.named (atoms_spec (ws := ws) B.pre _ (by rw [hw]; exact List.mem_cons_self))
      cases Option.some.inj (h1.symm.trans B.method)
      cases Option.some.inj (h2.symm.trans (Stand.of_body B).code)
      intro x hx
      rw [Array.isEmpty_iff.mp h7] at hx
      cases hx
    obtain ⟨t, a1, o, b1, b2, b3⟩ := body p e s m args below meth c s₁ B hml ht hP s₁ hh0 (Stand.of_body B)
    exact ⟨t, o, a1, b1, b2, b3⟩
/-- .. of a member of the JDK -/
theorem ab_Con.ofF {M : ab_M} {av : List Value} {nx : Nat} {h : ab_H} {post : ab_P} (hy : plainFor M.1 = true) (hav : av.all (fun v => v.category == 1) = true) (hn : av.length ≤ M.2.2.1)
    (k : ab_V M post 0 0 0 (ab_l0 M.2.2.1 av) [] nx h) : ab_Con M av nx h post := by
  intro l G D hl
  refine vx_ofWF (cc := M.2.1) (maxL := M.2.2.1) (ret := M.2.2.2.1) hy rfl ?_
  intro p e s m args below meth c s₁ B hml ht hv
  obtain ⟨hv1, hv2, hv3⟩ := hv
  have hts := atoms_spec (ws := ab_ws M.1 M.2.1 M.2.2.1 M.2.2.2.1) B.pre
  have hown : s.vm.findClass M.1.cls = some m.cls := findClass_of_methodNamed B.named
  have hcat : ∀ v ∈ av.map (ab_v G), v.category = 1 := by
    intro v hv
    obtain ⟨w, hw, rfl⟩ := List.mem_map.mp hv
    rw [ab_v_cat]
    have := List.all_eq_true.mp hav w hw
    simpa using this
  have hsl := ab_sl1 hcat
  subst hv1
  have hen := lv_entry (av.map (ab_v G)) (n := M.2.2.1) (by rw [hsl]; simpa using hn)
  rw [lg_entry_eq]
  refine k p l e s m _ below meth c G D s.heap [] _ ⟨B.exec, B.bytes, B.returns, hml, hown, hts, B.notSynchronized, (name_of_methodNamed B.named B.method).1, ht, hl, hv3⟩ hv2 va_S.rf hv2.base ?_
  refine ⟨hen.1, by simp [ab_l0]; omega, hen.2.1, fun i v hi => ?_⟩
  have hi2 : i < av.length := by
    rcases Nat.lt_or_ge i av.length with q | q
    · exact q
    · exfalso
      unfold ab_l0 at hi
      rw [List.getElem?_append_right (by simpa using q), List.getElem?_replicate] at hi
      split at hi <;> cases hi
  have hi3 : av[i]? = some v := by
    unfold ab_l0 at hi
    rw [List.getElem?_append_left (by simpa using hi2), List.getElem?_map] at hi
    cases e : av[i]? with
    | none => rw [e] at hi; cases hi
    | some w => rw [e] at hi; cases hi; rfl
  refine ⟨?_, ?_⟩
  · have := List.all_eq_true.mp hav v (List.mem_of_getElem? hi3)
    simpa using this
  · rw [hsl]
    simp only [List.getElem?_toArray]
    rw [List.getElem?_append_left (by simpa using hi2), List.getElem?_map, List.getElem?_map, hi3]
    rfl
theorem c_max {x y : Int32} {nx : Nat} {h : ab_H} : ab_Con mJ9_max_7cf53 [.int x, .int y] nx h (ab_an (.int (if x < y then y else x)) nx h) := by
  refine ab_Con.ofF (by decide +kernel) rfl (Nat.le_of_ble_eq_true rfl) ?_
  refine ab_g_v okJ9_max_7cf53 (cut := []) 20 _ _ _ _ _ _ _ _ (ab_sq_b okJ9_max_7cf53 [] 0) ?_
  have hb_s : ab_b iJ9_max_7cf53 [] 0 = [(0, .iload_n 0, 1, 0, 0), (1, .iload_n 1, 1, 0, 0), (2, .if_icmp .lt 7, 3, 0, 9), (5, .iload_n 0, 1, 0, 0), (6, .goto 4, 3, 0, 10), (9, .iload_n 1, 1, 0, 0), (10, .ireturn, 1, 0, 0)] := rfl
  have hb_9 : ab_b iJ9_max_7cf53 [] 9 = [(9, .iload_n 1, 1, 0, 0), (10, .ireturn, 1, 0, 0)] := rfl
  have hb_10 : ab_b iJ9_max_7cf53 [] 10 = [(10, .ireturn, 1, 0, 0)] := rfl
  simp (disch := omega) only [hb_s, hb_9, hb_10, mJ9_max_7cf53, Nat.beq, ab_l0, List.map_cons, List.map_nil, List.length_cons, List.length_nil, List.cons_append, List.nil_append, List.replicate, Nat.reduceAdd, Nat.reduceSub, List.getElem?_cons_zero, List.getElem?_cons_succ, List.getElem?_nil, List.set_cons_zero, List.set_cons_succ, true_and, and_true, ab_cst0, ab_cst1, ab_cst2, ab_cst3, ab_cst4, ab_cst5, ab_up_s, Nat.le_refl, Nat.reduceLT, Nat.reduceLeDiff, Nat.lt_add_one, Nat.zero_le, nz, n1, nI_add, pk_mul, pk_sub, ab_dec1, ab_vin, ab_leI, ab_ltI, ab_eqI, ab_neI, nI_clamp, ab_m1a, ab_m1b, ab_m1c, ab_m1d, ab_m1e, ab_m1f, ab_up_n, reduceIte, Nat.add_eq_left, Nat.left_eq_add, Nat.add_left_cancel_iff, Nat.reduceEqDiff, not_true_eq_false, not_false_eq_true, ne_eq, or_true, true_or, false_implies, forall_const, if_true, if_false, Nat.reduceMul, Bool.false_eq_true, reduceCtorEq, true_implies, ge_iconst, ge_bipush, ge_sipush, ge_iload, ge_aload, ge_istore, ge_astore, ge_iinc, ge_iadd, ge_isub, ge_imul, ge_iand, ge_ior, ge_ixor, ge_ishl, ge_ishr, ge_iushr, ge_idiv, ge_irem, ge_ineg, ge_i2l, ge_i2b, ge_dup, ge_dupr, ge_pop, ge_popr, ge_dup2, ge_goto, ge_ifCond_eq, ge_if_icmp_eq, ge_ifCond_ne, ge_if_icmp_ne, ge_ifCond_lt, ge_if_icmp_lt, ge_ifCond_ge, ge_if_icmp_ge, ge_ifCond_gt, ge_if_icmp_gt, ge_ifCond_le, ge_if_icmp_le, ge_getfield, ge_putfield, ge_iaload, ge_iastore, ge_baload, ge_ireturn, ge_return_, ge_invokevirtual, ge_invokestatic, ge_invokespecial, ge_nop, ge_new, ge_ldc, ge_ldc_w, ge_newarray, ge_anewarray, ge_getstatic, ge_aaload, ge_aastore, ge_bastore, ge_laload, ge_lastore, ge_lcmp, ge_athrow, ge_arraylength, ge_areturn, ge_if_acmp, ge_lconst, ge_tableswitch, ge_iload_n0, ge_iload_n1, ge_iload_n2, ge_iload_n3, ge_aload_n0, ge_aload_n1, ge_aload_n2, ge_aload_n3, ge_istore_n0, ge_istore_n1, ge_istore_n2, ge_istore_n3, ge_astore_n0, ge_astore_n1, ge_astore_n2, ge_astore_n3, ab_an]
  try clear hb_s hb_9 hb_10
  refine ⟨fun q => by rw [if_pos q], fun q => by rw [if_neg q]⟩
theorem c_min {x y : Int32} {nx : Nat} {h : ab_H} : ab_Con mJ9_min_7cf53 [.int x, .int y] nx h (ab_an (.int (if y < x then y else x)) nx h) := by
  refine ab_Con.ofF (by decide +kernel) rfl (Nat.le_of_ble_eq_true rfl) ?_
  refine ab_g_v okJ9_min_7cf53 (cut := []) 20 _ _ _ _ _ _ _ _ (ab_sq_b okJ9_min_7cf53 [] 0) ?_
  have hb_s : ab_b iJ9_min_7cf53 [] 0 = [(0, .iload_n 0, 1, 0, 0), (1, .iload_n 1, 1, 0, 0), (2, .if_icmp .gt 7, 3, 0, 9), (5, .iload_n 0, 1, 0, 0), (6, .goto 4, 3, 0, 10), (9, .iload_n 1, 1, 0, 0), (10, .ireturn, 1, 0, 0)] := rfl
  have hb_9 : ab_b iJ9_min_7cf53 [] 9 = [(9, .iload_n 1, 1, 0, 0), (10, .ireturn, 1, 0, 0)] := rfl
  have hb_10 : ab_b iJ9_min_7cf53 [] 10 = [(10, .ireturn, 1, 0, 0)] := rfl
  simp (disch := omega) only [hb_s, hb_9, hb_10, mJ9_min_7cf53, Nat.beq, ab_l0, List.map_cons, List.map_nil, List.length_cons, List.length_nil, List.cons_append, List.nil_append, List.replicate, Nat.reduceAdd, Nat.reduceSub, List.getElem?_cons_zero, List.getElem?_cons_succ, List.getElem?_nil, List.set_cons_zero, List.set_cons_succ, true_and, and_true, ab_cst0, ab_cst1, ab_cst2, ab_cst3, ab_cst4, ab_cst5, ab_up_s, Nat.le_refl, Nat.reduceLT, Nat.reduceLeDiff, Nat.lt_add_one, Nat.zero_le, nz, n1, nI_add, pk_mul, pk_sub, ab_dec1, ab_vin, ab_leI, ab_ltI, ab_eqI, ab_neI, nI_clamp, ab_m1a, ab_m1b, ab_m1c, ab_m1d, ab_m1e, ab_m1f, ab_up_n, reduceIte, Nat.add_eq_left, Nat.left_eq_add, Nat.add_left_cancel_iff, Nat.reduceEqDiff, not_true_eq_false, not_false_eq_true, ne_eq, or_true, true_or, false_implies, forall_const, if_true, if_false, Nat.reduceMul, Bool.false_eq_true, reduceCtorEq, true_implies, ge_iconst, ge_bipush, ge_sipush, ge_iload, ge_aload, ge_istore, ge_astore, ge_iinc, ge_iadd, ge_isub, ge_imul, ge_iand, ge_ior, ge_ixor, ge_ishl, ge_ishr, ge_iushr, ge_idiv, ge_irem, ge_ineg, ge_i2l, ge_i2b, ge_dup, ge_dupr, ge_pop, ge_popr, ge_dup2, ge_goto, ge_ifCond_eq, ge_if_icmp_eq, ge_ifCond_ne, ge_if_icmp_ne, ge_ifCond_lt, ge_if_icmp_lt, ge_ifCond_ge, ge_if_icmp_ge, ge_ifCond_gt, ge_if_icmp_gt, ge_ifCond_le, ge_if_icmp_le, ge_getfield, ge_putfield, ge_iaload, ge_iastore, ge_baload, ge_ireturn, ge_return_, ge_invokevirtual, ge_invokestatic, ge_invokespecial, ge_nop, ge_new, ge_ldc, ge_ldc_w, ge_newarray, ge_anewarray, ge_getstatic, ge_aaload, ge_aastore, ge_bastore, ge_laload, ge_lastore, ge_lcmp, ge_athrow, ge_arraylength, ge_areturn, ge_if_acmp, ge_lconst, ge_tableswitch, ge_iload_n0, ge_iload_n1, ge_iload_n2, ge_iload_n3, ge_aload_n0, ge_aload_n1, ge_aload_n2, ge_aload_n3, ge_istore_n0, ge_istore_n1, ge_istore_n2, ge_istore_n3, ge_astore_n0, ge_astore_n1, ge_astore_n2, ge_astore_n3, ab_an]
  try clear hb_s hb_9 hb_10
  refine ⟨fun q => by rw [if_pos q], fun q => by rw [if_neg q]⟩
theorem c_maxN {a b : Nat} (ha : a < 2 ^ 31) (hb : b < 2 ^ 31) {nx : Nat} {h : ab_H} : ab_Con mJ9_max_7cf53 [.int (nI a), .int (nI b)] nx h (ab_an (.int (nI (max a b))) nx h) := by
  have h1 := c_max (x := nI a) (y := nI b) (nx := nx) (h := h)
  have e : (if nI a < nI b then nI b else nI a) = nI (max a b) := by
    simp only [ab_ltI ha hb]
    split
    · rw [Nat.max_eq_right (by omega)]
    · rw [Nat.max_eq_left (by omega)]
  rw [e] at h1
  exact h1
theorem c_minN {a b : Nat} (ha : a < 2 ^ 31) (hb : b < 2 ^ 31) {nx : Nat} {h : ab_H} : ab_Con mJ9_min_7cf53 [.int (nI a), .int (nI b)] nx h (ab_an (.int (nI (min a b))) nx h) := by
  have h1 := c_min (x := nI a) (y := nI b) (nx := nx) (h := h)
  have e : (if nI b < nI a then nI b else nI a) = nI (min a b) := by
    simp only [ab_ltI hb ha]
    split
    · rw [Nat.min_eq_right (by omega)]
    · rw [Nat.min_eq_left (by omega)]
  rw [e] at h1
  exact h1
/-- Integer.bitCount, as its steps reckon it -/
def bc (x : Int32) : Int32 :=
  let a := x - ((x.toUInt32 >>> ((nI 1).toUInt32 &&& Int32.toUInt32 31)).toInt32 &&& 1431655765)
  let b := (a &&& 858993459) + ((a.toUInt32 >>> ((nI 2).toUInt32 &&& Int32.toUInt32 31)).toInt32 &&& 858993459)
  let c := (b + (b.toUInt32 >>> ((nI 4).toUInt32 &&& Int32.toUInt32 31)).toInt32) &&& 252645135
  let d := c + (c.toUInt32 >>> ((nI 8).toUInt32 &&& Int32.toUInt32 31)).toInt32
  let e := d + (d.toUInt32 >>> ((nI 16).toUInt32 &&& Int32.toUInt32 31)).toInt32
  e &&& nI 63
theorem bc_po : ∀ a, a < 64 → bc (nI a) = nI (po a) := by decide +kernel
theorem c_bc {x : Int32} {nx : Nat} {h : ab_H} : ab_Con mJ6_bitCount_0f7a4 [.int x] nx h (ab_an (.int (bc x)) nx h) := by
  refine ab_Con.ofF (by decide +kernel) rfl (Nat.le_of_ble_eq_true rfl) ?_
  have w5 : Cond.constant RJ6 265 1431655765 ∈ ab_T := ab_mem 432 (by decide +kernel) rfl
  have w6 : Cond.constant RJ6 266 858993459 ∈ ab_T := ab_mem 433 (by decide +kernel) rfl
  have w7 : Cond.constant RJ6 267 252645135 ∈ ab_T := ab_mem 434 (by decide +kernel) rfl
  refine ab_g_v okJ6_bitCount_0f7a4 (cut := []) 20 _ _ _ _ _ _ _ _ (ab_sq_b okJ6_bitCount_0f7a4 [] 0) ?_
  have hb_s : ab_b iJ6_bitCount_0f7a4 [] 0 = [(0, .iload_n 0, 1, 0, 0), (1, .iload_n 0, 1, 0, 0), (2, .iconst 1, 1, 0, 0), (3, .iushr, 1, 0, 0), (4, .ldc_w 265, 3, 0, 0), (7, .iand, 1, 0, 0), (8, .isub, 1, 0, 0), (9, .istore_n 0, 1, 0, 0), (10, .iload_n 0, 1, 0, 0), (11, .ldc_w 266, 3, 0, 0), (14, .iand, 1, 0, 0), (15, .iload_n 0, 1, 0, 0), (16, .iconst 2, 1, 0, 0), (17, .iushr, 1, 0, 0), (18, .ldc_w 266, 3, 0, 0), (21, .iand, 1, 0, 0), (22, .iadd, 1, 0, 0), (23, .istore_n 0, 1, 0, 0), (24, .iload_n 0, 1, 0, 0), (25, .iload_n 0, 1, 0, 0), (26, .iconst 4, 1, 0, 0), (27, .iushr, 1, 0, 0), (28, .iadd, 1, 0, 0), (29, .ldc_w 267, 3, 0, 0), (32, .iand, 1, 0, 0), (33, .istore_n 0, 1, 0, 0), (34, .iload_n 0, 1, 0, 0), (35, .iload_n 0, 1, 0, 0), (36, .bipush 8, 2, 0, 0), (38, .iushr, 1, 0, 0), (39, .iadd, 1, 0, 0), (40, .istore_n 0, 1, 0, 0), (41, .iload_n 0, 1, 0, 0), (42, .iload_n 0, 1, 0, 0), (43, .bipush 16, 2, 0, 0), (45, .iushr, 1, 0, 0), (46, .iadd, 1, 0, 0), (47, .istore_n 0, 1, 0, 0), (48, .iload_n 0, 1, 0, 0), (49, .bipush 63, 2, 0, 0), (51, .iand, 1, 0, 0), (52, .ireturn, 1, 0, 0)] := rfl
  simp (disch := omega) only [hb_s, mJ6_bitCount_0f7a4, Nat.beq, ab_l0, List.map_cons, List.map_nil, List.length_cons, List.length_nil, List.cons_append, List.nil_append, List.replicate, Nat.reduceAdd, Nat.reduceSub, List.getElem?_cons_zero, List.getElem?_cons_succ, List.getElem?_nil, List.set_cons_zero, List.set_cons_succ, true_and, and_true, ab_cst0, ab_cst1, ab_cst2, ab_cst3, ab_cst4, ab_cst5, ab_up_s, Nat.le_refl, Nat.reduceLT, Nat.reduceLeDiff, Nat.lt_add_one, Nat.zero_le, nz, n1, nI_add, pk_mul, pk_sub, ab_dec1, ab_vin, ab_leI, ab_ltI, ab_eqI, ab_neI, nI_clamp, ab_m1a, ab_m1b, ab_m1c, ab_m1d, ab_m1e, ab_m1f, ab_up_n, reduceIte, Nat.add_eq_left, Nat.left_eq_add, Nat.add_left_cancel_iff, Nat.reduceEqDiff, not_true_eq_false, not_false_eq_true, ne_eq, or_true, true_or, false_implies, forall_const, if_true, if_false, Nat.reduceMul, Bool.false_eq_true, reduceCtorEq, true_implies, ge_iconst, ge_bipush, ge_sipush, ge_iload, ge_aload, ge_istore, ge_astore, ge_iinc, ge_iadd, ge_isub, ge_imul, ge_iand, ge_ior, ge_ixor, ge_ishl, ge_ishr, ge_iushr, ge_idiv, ge_irem, ge_ineg, ge_i2l, ge_i2b, ge_dup, ge_dupr, ge_pop, ge_popr, ge_dup2, ge_goto, ge_ifCond_eq, ge_if_icmp_eq, ge_ifCond_ne, ge_if_icmp_ne, ge_ifCond_lt, ge_if_icmp_lt, ge_ifCond_ge, ge_if_icmp_ge, ge_ifCond_gt, ge_if_icmp_gt, ge_ifCond_le, ge_if_icmp_le, ge_getfield, ge_putfield, ge_iaload, ge_iastore, ge_baload, ge_ireturn, ge_return_, ge_invokevirtual, ge_invokestatic, ge_invokespecial, ge_nop, ge_new, ge_ldc, ge_ldc_w, ge_newarray, ge_anewarray, ge_getstatic, ge_aaload, ge_aastore, ge_bastore, ge_laload, ge_lastore, ge_lcmp, ge_athrow, ge_arraylength, ge_areturn, ge_if_acmp, ge_lconst, ge_tableswitch, ge_iload_n0, ge_iload_n1, ge_iload_n2, ge_iload_n3, ge_aload_n0, ge_aload_n1, ge_aload_n2, ge_aload_n3, ge_istore_n0, ge_istore_n1, ge_istore_n2, ge_istore_n3, ge_astore_n0, ge_astore_n1, ge_astore_n2, ge_astore_n3]
  try clear hb_s
  refine bv_ldcw okJ6_bitCount_0f7a4 rfl w5 ?_
  refine ab_g_v okJ6_bitCount_0f7a4 (cut := []) 20 _ _ _ _ _ _ _ _ (ab_sq_b okJ6_bitCount_0f7a4 [] 7) ?_
  have hb_s : ab_b iJ6_bitCount_0f7a4 [] 7 = [(7, .iand, 1, 0, 0), (8, .isub, 1, 0, 0), (9, .istore_n 0, 1, 0, 0), (10, .iload_n 0, 1, 0, 0), (11, .ldc_w 266, 3, 0, 0), (14, .iand, 1, 0, 0), (15, .iload_n 0, 1, 0, 0), (16, .iconst 2, 1, 0, 0), (17, .iushr, 1, 0, 0), (18, .ldc_w 266, 3, 0, 0), (21, .iand, 1, 0, 0), (22, .iadd, 1, 0, 0), (23, .istore_n 0, 1, 0, 0), (24, .iload_n 0, 1, 0, 0), (25, .iload_n 0, 1, 0, 0), (26, .iconst 4, 1, 0, 0), (27, .iushr, 1, 0, 0), (28, .iadd, 1, 0, 0), (29, .ldc_w 267, 3, 0, 0), (32, .iand, 1, 0, 0), (33, .istore_n 0, 1, 0, 0), (34, .iload_n 0, 1, 0, 0), (35, .iload_n 0, 1, 0, 0), (36, .bipush 8, 2, 0, 0), (38, .iushr, 1, 0, 0), (39, .iadd, 1, 0, 0), (40, .istore_n 0, 1, 0, 0), (41, .iload_n 0, 1, 0, 0), (42, .iload_n 0, 1, 0, 0), (43, .bipush 16, 2, 0, 0), (45, .iushr, 1, 0, 0), (46, .iadd, 1, 0, 0), (47, .istore_n 0, 1, 0, 0), (48, .iload_n 0, 1, 0, 0), (49, .bipush 63, 2, 0, 0), (51, .iand, 1, 0, 0), (52, .ireturn, 1, 0, 0)] := rfl
  simp (disch := omega) only [hb_s, mJ6_bitCount_0f7a4, Nat.beq, ab_l0, List.map_cons, List.map_nil, List.length_cons, List.length_nil, List.cons_append, List.nil_append, List.replicate, Nat.reduceAdd, Nat.reduceSub, List.getElem?_cons_zero, List.getElem?_cons_succ, List.getElem?_nil, List.set_cons_zero, List.set_cons_succ, true_and, and_true, ab_cst0, ab_cst1, ab_cst2, ab_cst3, ab_cst4, ab_cst5, ab_up_s, Nat.le_refl, Nat.reduceLT, Nat.reduceLeDiff, Nat.lt_add_one, Nat.zero_le, nz, n1, nI_add, pk_mul, pk_sub, ab_dec1, ab_vin, ab_leI, ab_ltI, ab_eqI, ab_neI, nI_clamp, ab_m1a, ab_m1b, ab_m1c, ab_m1d, ab_m1e, ab_m1f, ab_up_n, reduceIte, Nat.add_eq_left, Nat.left_eq_add, Nat.add_left_cancel_iff, Nat.reduceEqDiff, not_true_eq_false, not_false_eq_true, ne_eq, or_true, true_or, false_implies, forall_const, if_true, if_false, Nat.reduceMul, Bool.false_eq_true, reduceCtorEq, true_implies, ge_iconst, ge_bipush, ge_sipush, ge_iload, ge_aload, ge_istore, ge_astore, ge_iinc, ge_iadd, ge_isub, ge_imul, ge_iand, ge_ior, ge_ixor, ge_ishl, ge_ishr, ge_iushr, ge_idiv, ge_irem, ge_ineg, ge_i2l, ge_i2b, ge_dup, ge_dupr, ge_pop, ge_popr, ge_dup2, ge_goto, ge_ifCond_eq, ge_if_icmp_eq, ge_ifCond_ne, ge_if_icmp_ne, ge_ifCond_lt, ge_if_icmp_lt, ge_ifCond_ge, ge_if_icmp_ge, ge_ifCond_gt, ge_if_icmp_gt, ge_ifCond_le, ge_if_icmp_le, ge_getfield, ge_putfield, ge_iaload, ge_iastore, ge_baload, ge_ireturn, ge_return_, ge_invokevirtual, ge_invokestatic, ge_invokespecial, ge_nop, ge_new, ge_ldc, ge_ldc_w, ge_newarray, ge_anewarray, ge_getstatic, ge_aaload, ge_aastore, ge_bastore, ge_laload, ge_lastore, ge_lcmp, ge_athrow, ge_arraylength, ge_areturn, ge_if_acmp, ge_lconst, ge_tableswitch, ge_iload_n0, ge_iload_n1, ge_iload_n2, ge_iload_n3, ge_aload_n0, ge_aload_n1, ge_aload_n2, ge_aload_n3, ge_istore_n0, ge_istore_n1, ge_istore_n2, ge_istore_n3, ge_astore_n0, ge_astore_n1, ge_astore_n2, ge_astore_n3]
  try clear hb_s
  refine bv_ldcw okJ6_bitCount_0f7a4 rfl w6 ?_
  refine ab_g_v okJ6_bitCount_0f7a4 (cut := []) 20 _ _ _ _ _ _ _ _ (ab_sq_b okJ6_bitCount_0f7a4 [] 14) ?_
  have hb_s : ab_b iJ6_bitCount_0f7a4 [] 14 = [(14, .iand, 1, 0, 0), (15, .iload_n 0, 1, 0, 0), (16, .iconst 2, 1, 0, 0), (17, .iushr, 1, 0, 0), (18, .ldc_w 266, 3, 0, 0), (21, .iand, 1, 0, 0), (22, .iadd, 1, 0, 0), (23, .istore_n 0, 1, 0, 0), (24, .iload_n 0, 1, 0, 0), (25, .iload_n 0, 1, 0, 0), (26, .iconst 4, 1, 0, 0), (27, .iushr, 1, 0, 0), (28, .iadd, 1, 0, 0), (29, .ldc_w 267, 3, 0, 0), (32, .iand, 1, 0, 0), (33, .istore_n 0, 1, 0, 0), (34, .iload_n 0, 1, 0, 0), (35, .iload_n 0, 1, 0, 0), (36, .bipush 8, 2, 0, 0), (38, .iushr, 1, 0, 0), (39, .iadd, 1, 0, 0), (40, .istore_n 0, 1, 0, 0), (41, .iload_n 0, 1, 0, 0), (42, .iload_n 0, 1, 0, 0), (43, .bipush 16, 2, 0, 0), (45, .iushr, 1, 0, 0), (46, .iadd, 1, 0, 0), (47, .istore_n 0, 1, 0, 0), (48, .iload_n 0, 1, 0, 0), (49, .bipush 63, 2, 0, 0), (51, .iand, 1, 0, 0), (52, .ireturn, 1, 0, 0)] := rfl
  simp (disch := omega) only [hb_s, mJ6_bitCount_0f7a4, Nat.beq, ab_l0, List.map_cons, List.map_nil, List.length_cons, List.length_nil, List.cons_append, List.nil_append, List.replicate, Nat.reduceAdd, Nat.reduceSub, List.getElem?_cons_zero, List.getElem?_cons_succ, List.getElem?_nil, List.set_cons_zero, List.set_cons_succ, true_and, and_true, ab_cst0, ab_cst1, ab_cst2, ab_cst3, ab_cst4, ab_cst5, ab_up_s, Nat.le_refl, Nat.reduceLT, Nat.reduceLeDiff, Nat.lt_add_one, Nat.zero_le, nz, n1, nI_add, pk_mul, pk_sub, ab_dec1, ab_vin, ab_leI, ab_ltI, ab_eqI, ab_neI, nI_clamp, ab_m1a, ab_m1b, ab_m1c, ab_m1d, ab_m1e, ab_m1f, ab_up_n, reduceIte, Nat.add_eq_left, Nat.left_eq_add, Nat.add_left_cancel_iff, Nat.reduceEqDiff, not_true_eq_false, not_false_eq_true, ne_eq, or_true, true_or, false_implies, forall_const, if_true, if_false, Nat.reduceMul, Bool.false_eq_true, reduceCtorEq, true_implies, ge_iconst, ge_bipush, ge_sipush, ge_iload, ge_aload, ge_istore, ge_astore, ge_iinc, ge_iadd, ge_isub, ge_imul, ge_iand, ge_ior, ge_ixor, ge_ishl, ge_ishr, ge_iushr, ge_idiv, ge_irem, ge_ineg, ge_i2l, ge_i2b, ge_dup, ge_dupr, ge_pop, ge_popr, ge_dup2, ge_goto, ge_ifCond_eq, ge_if_icmp_eq, ge_ifCond_ne, ge_if_icmp_ne, ge_ifCond_lt, ge_if_icmp_lt, ge_ifCond_ge, ge_if_icmp_ge, ge_ifCond_gt, ge_if_icmp_gt, ge_ifCond_le, ge_if_icmp_le, ge_getfield, ge_putfield, ge_iaload, ge_iastore, ge_baload, ge_ireturn, ge_return_, ge_invokevirtual, ge_invokestatic, ge_invokespecial, ge_nop, ge_new, ge_ldc, ge_ldc_w, ge_newarray, ge_anewarray, ge_getstatic, ge_aaload, ge_aastore, ge_bastore, ge_laload, ge_lastore, ge_lcmp, ge_athrow, ge_arraylength, ge_areturn, ge_if_acmp, ge_lconst, ge_tableswitch, ge_iload_n0, ge_iload_n1, ge_iload_n2, ge_iload_n3, ge_aload_n0, ge_aload_n1, ge_aload_n2, ge_aload_n3, ge_istore_n0, ge_istore_n1, ge_istore_n2, ge_istore_n3, ge_astore_n0, ge_astore_n1, ge_astore_n2, ge_astore_n3]
  try clear hb_s
  refine bv_ldcw okJ6_bitCount_0f7a4 rfl w6 ?_
  refine ab_g_v okJ6_bitCount_0f7a4 (cut := []) 20 _ _ _ _ _ _ _ _ (ab_sq_b okJ6_bitCount_0f7a4 [] 21) ?_
  have hb_s : ab_b iJ6_bitCount_0f7a4 [] 21 = [(21, .iand, 1, 0, 0), (22, .iadd, 1, 0, 0), (23, .istore_n 0, 1, 0, 0), (24, .iload_n 0, 1, 0, 0), (25, .iload_n 0, 1, 0, 0), (26, .iconst 4, 1, 0, 0), (27, .iushr, 1, 0, 0), (28, .iadd, 1, 0, 0), (29, .ldc_w 267, 3, 0, 0), (32, .iand, 1, 0, 0), (33, .istore_n 0, 1, 0, 0), (34, .iload_n 0, 1, 0, 0), (35, .iload_n 0, 1, 0, 0), (36, .bipush 8, 2, 0, 0), (38, .iushr, 1, 0, 0), (39, .iadd, 1, 0, 0), (40, .istore_n 0, 1, 0, 0), (41, .iload_n 0, 1, 0, 0), (42, .iload_n 0, 1, 0, 0), (43, .bipush 16, 2, 0, 0), (45, .iushr, 1, 0, 0), (46, .iadd, 1, 0, 0), (47, .istore_n 0, 1, 0, 0), (48, .iload_n 0, 1, 0, 0), (49, .bipush 63, 2, 0, 0), (51, .iand, 1, 0, 0), (52, .ireturn, 1, 0, 0)] := rfl
  simp (disch := omega) only [hb_s, mJ6_bitCount_0f7a4, Nat.beq, ab_l0, List.map_cons, List.map_nil, List.length_cons, List.length_nil, List.cons_append, List.nil_append, List.replicate, Nat.reduceAdd, Nat.reduceSub, List.getElem?_cons_zero, List.getElem?_cons_succ, List.getElem?_nil, List.set_cons_zero, List.set_cons_succ, true_and, and_true, ab_cst0, ab_cst1, ab_cst2, ab_cst3, ab_cst4, ab_cst5, ab_up_s, Nat.le_refl, Nat.reduceLT, Nat.reduceLeDiff, Nat.lt_add_one, Nat.zero_le, nz, n1, nI_add, pk_mul, pk_sub, ab_dec1, ab_vin, ab_leI, ab_ltI, ab_eqI, ab_neI, nI_clamp, ab_m1a, ab_m1b, ab_m1c, ab_m1d, ab_m1e, ab_m1f, ab_up_n, reduceIte, Nat.add_eq_left, Nat.left_eq_add, Nat.add_left_cancel_iff, Nat.reduceEqDiff, not_true_eq_false, not_false_eq_true, ne_eq, or_true, true_or, false_implies, forall_const, if_true, if_false, Nat.reduceMul, Bool.false_eq_true, reduceCtorEq, true_implies, ge_iconst, ge_bipush, ge_sipush, ge_iload, ge_aload, ge_istore, ge_astore, ge_iinc, ge_iadd, ge_isub, ge_imul, ge_iand, ge_ior, ge_ixor, ge_ishl, ge_ishr, ge_iushr, ge_idiv, ge_irem, ge_ineg, ge_i2l, ge_i2b, ge_dup, ge_dupr, ge_pop, ge_popr, ge_dup2, ge_goto, ge_ifCond_eq, ge_if_icmp_eq, ge_ifCond_ne, ge_if_icmp_ne, ge_ifCond_lt, ge_if_icmp_lt, ge_ifCond_ge, ge_if_icmp_ge, ge_ifCond_gt, ge_if_icmp_gt, ge_ifCond_le, ge_if_icmp_le, ge_getfield, ge_putfield, ge_iaload, ge_iastore, ge_baload, ge_ireturn, ge_return_, ge_invokevirtual, ge_invokestatic, ge_invokespecial, ge_nop, ge_new, ge_ldc, ge_ldc_w, ge_newarray, ge_anewarray, ge_getstatic, ge_aaload, ge_aastore, ge_bastore, ge_laload, ge_lastore, ge_lcmp, ge_athrow, ge_arraylength, ge_areturn, ge_if_acmp, ge_lconst, ge_tableswitch, ge_iload_n0, ge_iload_n1, ge_iload_n2, ge_iload_n3, ge_aload_n0, ge_aload_n1, ge_aload_n2, ge_aload_n3, ge_istore_n0, ge_istore_n1, ge_istore_n2, ge_istore_n3, ge_astore_n0, ge_astore_n1, ge_astore_n2, ge_astore_n3]
  try clear hb_s
  refine bv_ldcw okJ6_bitCount_0f7a4 rfl w7 ?_
  refine ab_g_v okJ6_bitCount_0f7a4 (cut := []) 40 _ _ _ _ _ _ _ _ (ab_sq_b okJ6_bitCount_0f7a4 [] 32) ?_
  have hb_s : ab_b iJ6_bitCount_0f7a4 [] 32 = [(32, .iand, 1, 0, 0), (33, .istore_n 0, 1, 0, 0), (34, .iload_n 0, 1, 0, 0), (35, .iload_n 0, 1, 0, 0), (36, .bipush 8, 2, 0, 0), (38, .iushr, 1, 0, 0), (39, .iadd, 1, 0, 0), (40, .istore_n 0, 1, 0, 0), (41, .iload_n 0, 1, 0, 0), (42, .iload_n 0, 1, 0, 0), (43, .bipush 16, 2, 0, 0), (45, .iushr, 1, 0, 0), (46, .iadd, 1, 0, 0), (47, .istore_n 0, 1, 0, 0), (48, .iload_n 0, 1, 0, 0), (49, .bipush 63, 2, 0, 0), (51, .iand, 1, 0, 0), (52, .ireturn, 1, 0, 0)] := rfl
  simp (disch := omega) only [hb_s, mJ6_bitCount_0f7a4, Nat.beq, ab_l0, List.map_cons, List.map_nil, List.length_cons, List.length_nil, List.cons_append, List.nil_append, List.replicate, Nat.reduceAdd, Nat.reduceSub, List.getElem?_cons_zero, List.getElem?_cons_succ, List.getElem?_nil, List.set_cons_zero, List.set_cons_succ, true_and, and_true, ab_cst0, ab_cst1, ab_cst2, ab_cst3, ab_cst4, ab_cst5, ab_up_s, Nat.le_refl, Nat.reduceLT, Nat.reduceLeDiff, Nat.lt_add_one, Nat.zero_le, nz, n1, nI_add, pk_mul, pk_sub, ab_dec1, ab_vin, ab_leI, ab_ltI, ab_eqI, ab_neI, nI_clamp, ab_m1a, ab_m1b, ab_m1c, ab_m1d, ab_m1e, ab_m1f, ab_up_n, reduceIte, Nat.add_eq_left, Nat.left_eq_add, Nat.add_left_cancel_iff, Nat.reduceEqDiff, not_true_eq_false, not_false_eq_true, ne_eq, or_true, true_or, false_implies, forall_const, if_true, if_false, Nat.reduceMul, Bool.false_eq_true, reduceCtorEq, true_implies, ge_iconst, ge_bipush, ge_sipush, ge_iload, ge_aload, ge_istore, ge_astore, ge_iinc, ge_iadd, ge_isub, ge_imul, ge_iand, ge_ior, ge_ixor, ge_ishl, ge_ishr, ge_iushr, ge_idiv, ge_irem, ge_ineg, ge_i2l, ge_i2b, ge_dup, ge_dupr, ge_pop, ge_popr, ge_dup2, ge_goto, ge_ifCond_eq, ge_if_icmp_eq, ge_ifCond_ne, ge_if_icmp_ne, ge_ifCond_lt, ge_if_icmp_lt, ge_ifCond_ge, ge_if_icmp_ge, ge_ifCond_gt, ge_if_icmp_gt, ge_ifCond_le, ge_if_icmp_le, ge_getfield, ge_putfield, ge_iaload, ge_iastore, ge_baload, ge_ireturn, ge_return_, ge_invokevirtual, ge_invokestatic, ge_invokespecial, ge_nop, ge_new, ge_ldc, ge_ldc_w, ge_newarray, ge_anewarray, ge_getstatic, ge_aaload, ge_aastore, ge_bastore, ge_laload, ge_lastore, ge_lcmp, ge_athrow, ge_arraylength, ge_areturn, ge_if_acmp, ge_lconst, ge_tableswitch, ge_iload_n0, ge_iload_n1, ge_iload_n2, ge_iload_n3, ge_aload_n0, ge_aload_n1, ge_aload_n2, ge_aload_n3, ge_istore_n0, ge_istore_n1, ge_istore_n2, ge_istore_n3, ge_astore_n0, ge_astore_n1, ge_astore_n2, ge_astore_n3, ab_an]
  try clear hb_s
  rfl
theorem c_bit {a : Nat} (ha : a < 64) {nx : Nat} {h : ab_H} : ab_Con mJ6_bitCount_0f7a4 [.int (nI a)] nx h (ab_an (.int (nI (po a))) nx h) := by
  have h1 := c_bc (x := nI a) (nx := nx) (h := h)
  rw [bc_po a ha] at h1
  exact h1
