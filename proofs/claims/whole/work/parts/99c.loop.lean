/-! ===== the law's loop ===== -/
section LW
variable {p : Program} {l : Launch} {e : Env} {R : Room} {s : State} {m : MethodId} {args : Array Value} {below : List Frame} {meth : Method} {c : Code} {H : Heap} {locs : List Loc} {cells slots : Nat} {Q : State → Prop} {pc : Nat} {ls : Array Slot} {rest : List Value} {cc : ByteArray}
theorem bw_lcmpE (hexec : p.tables.exec = Jvm.exec) (hb : c.code = cc) {x : Int64} (hdg : decode cc pc = .ok (.lcmp, 1)) (k : W p l e R s m args below meth c H locs cells slots Q (F0 m (pc + 1) ls (.int 0 :: rest))) : W p l e R s m args below meth c H locs cells slots Q (F0 m pc ls (.long x :: .long x :: rest)) := by
  intro T hT X
  obtain ⟨t, a, b⟩ := k T hT X
  refine ⟨t, ?_, b⟩
  have hlt : ¬ x < x := Int64.lt_irrefl
  jvm_step X.here [X.here.top, hexec, hb, hdg, Op.lcmp.sem, hlt]
  exact a
end LW
section LX
variable {M : ab_M} {post : ab_P} {cu su pc : Nat} {ls : List (Option Value)} {st : List Value} {nx : Nat} {h : ab_H}
theorem bv_lcmpE {x : Int64} (hd : decode M.2.1 pc = .ok (.lcmp, 1)) (k : ab_V M post cu su (pc + 1) ls (.int 0 :: st) nx h) : ab_V M post cu su pc ls (.long x :: .long x :: st) nx h := by
  intro p l e s m args below meth c G D H locs A C hW hS hB hL
  exact bw_lcmpE C.1 C.2.1 hd (k p l e s m args below meth c G D H locs A C hW hS hB hL)
theorem bv_lconstD {n : Fin 2} (hd : decode M.2.1 pc = .ok (.lconst n, 1)) (k : ab_V M post cu su (pc + 1) ls (.long (Int64.ofNat n.val) :: st) nx h) : ab_V M post cu su pc ls st nx h := by
  intro p l e s m args below meth c G D H locs A C hW hS hB hL
  exact lv_lconst C.1 C.2.1 hd rfl (k p l e s m args below meth c G D H locs A C hW hS hB hL)
theorem bv_ldD {n i : Nat} {f : Nat → Int32} (hd : decode M.2.1 pc = .ok (.iaload, 1)) (ha : h 2300 = some (.inr (7, n, .inl f))) (hi : i < n) (hn : n < 2 ^ 31) (k : ab_V M post cu su (pc + 1) ls (.int (f i) :: st) nx h) : ab_V M post cu su pc ls (.int (nI i) :: .ref 2300 :: st) nx h := by
  intro p l e s m args below meth c G D H locs A C hW hS hB hL
  have hK := C.2.2.2.2.2.2.2.2.2.2.2.2.2.2
  have hX := hK.2.2.2.2.2.2.2.2.2.2.2
  have e9 := hW.2.2.2 _ ha
  unfold ab_scr at e9
  injection e9 with e9
  injection e9 with e8 e9
  injection e9 with e7 e9
  injection e9 with e9
  have k9 := k p l e s m args below meth c G D H locs A C hW hS hB hL
  rw [List.map_cons, List.map_cons, ab_vk G (by omega)]
  have hi' : i < G.2 3000 := by omega
  rw [List.map_cons, e9] at k9
  refine va_sld C.1 C.2.1 hX.1 hX.2.1 hX.2.2 hS (i := nI i) (vp_in_nI hi' (by omega)) hd ?_
  rw [nI_clamp (by omega)]
  exact k9
theorem bv_lenD {n : Nat} {f : Nat → Int32} (hd : decode M.2.1 pc = .ok (.arraylength, 1)) (ha : h 2300 = some (.inr (7, n, .inl f))) (k : ab_V M post cu su (pc + 1) ls (.int (nI n) :: st) nx h) : ab_V M post cu su pc ls (.ref 2300 :: st) nx h := by
  intro p l e s m args below meth c G D H locs A C hW hS hB hL
  have hK := C.2.2.2.2.2.2.2.2.2.2.2.2.2.2
  have hX := hK.2.2.2.2.2.2.2.2.2.2.2
  have e9 := hW.2.2.2 _ ha
  unfold ab_scr at e9
  injection e9 with e9
  injection e9 with e8 e9
  injection e9 with e7 e9
  have k9 := k p l e s m args below meth c G D H locs A C hW hS hB hL
  rw [e7] at k9
  rw [List.map_cons, ab_vk G (by omega)]
  exact va_slen C.1 C.2.1 hX.1 hX.2.1 hX.2.2 hS hd k9
theorem bv_tswD {dflt lo hi : Int} {offs : Array Int} {len : Nat} {x : Int32} {off : Int} {tgt : Nat} (hd : decode M.2.1 pc = .ok (.tableswitch dflt lo hi offs, len)) (h1 : ¬ x.toInt < lo) (h2 : ¬ hi < x.toInt) (ho : offs[(x.toInt - lo).toNat]? = some off) (ht : (pc : Int) + off = (tgt : Int)) (k : ab_V M post cu su tgt ls st nx h) : ab_V M post cu su pc ls (.int x :: st) nx h := by
  intro p l e s m args below meth c G D H locs A C hW hS hB hL
  exact lv_tableIn C.1 C.2.1 hd h1 h2 ho ht (k p l e s m args below meth c G D H locs A C hW hS hB hL)
theorem bv_tswDO {dflt lo hi : Int} {offs : Array Int} {len : Nat} {x : Int32} {tgt : Nat} (hd : decode M.2.1 pc = .ok (.tableswitch dflt lo hi offs, len)) (h1 : x.toInt < lo ∨ hi < x.toInt) (ht : (pc : Int) + dflt = (tgt : Int)) (k : ab_V M post cu su tgt ls st nx h) : ab_V M post cu su pc ls (.int x :: st) nx h := by
  intro p l e s m args below meth c G D H locs A C hW hS hB hL
  exact lv_tableOut C.1 C.2.1 hd h1 ht (k p l e s m args below meth c G D H locs A C hW hS hB hL)
end LX
abbrev mL_law_ : ab_M := (yL_law_, cL_law_, 7, some .boolean, 840, 601024, 7293034)
def la_P : ab_P := fun r _ _ => r = .inl (some (.int 1))
abbrev argD (p : Nat) (k : Int) : Prop := decode cL_law_ p = .ok (.aload_n 0, 1) ∧ decode cL_law_ (p + 1) = .ok (.iload 4, 2) ∧ decode cL_law_ (p + 1 + 2) = .ok (.iconst k, 1) ∧ decode cL_law_ (p + 1 + 2 + 1) = .ok (.iadd, 1) ∧ decode cL_law_ (p + 1 + 2 + 1 + 1) = .ok (.iaload, 1)
abbrev argZ (p : Nat) : Prop := decode cL_law_ p = .ok (.ifCond .eq 7, 3) ∧ decode cL_law_ (p + 3) = .ok (.iconst 1, 1) ∧ decode cL_law_ (p + 3 + 1) = .ok (.goto 4, 3) ∧ decode cL_law_ (p + 7) = .ok (.iconst 0, 1)
/-- from p to q these are laid on the stack -/
def Psh (n : Nat) (xs : Nat → Int32) (i p q : Nat) (vs : List Value) : Prop := ∀ (P : ab_P) (cu su : Nat) (ls : List (Option Value)) (st : List Value) (nx : Nat) (h : ab_H), ls[0]? = some (some (.ref 2300)) → ls[4]? = some (some (.int (nI i))) → h 2300 = some (.inr (7, n, .inl xs)) → ab_V mL_law_ P cu su q ls (vs.reverse ++ st) nx h → ab_V mL_law_ P cu su p ls st nx h
section PS
variable {n i p q k : Nat} {xs : Nat → Int32} {vs : List Value}
theorem Psh.nil : Psh n xs i p p [] := fun _ _ _ _ _ _ _ _ _ _ k => k
theorem Psh.one (hi : i + 6 ≤ n) (hn : n ≤ 3072) {kz : Int} (hk : k < 6) (ek : Int32.ofInt kz = nI k) (hD : argD p kz) {P : ab_P} {cu su : Nat} {ls : List (Option Value)} {st : List Value} {nx : Nat} {h : ab_H} (h0 : ls[0]? = some (some (.ref 2300))) (h4 : ls[4]? = some (some (.int (nI i)))) (hs : h 2300 = some (.inr (7, n, .inl xs))) (kk : ab_V mL_law_ P cu su (p + 6) ls (.int (xs (i + k)) :: st) nx h) : ab_V mL_law_ P cu su p ls st nx h := by
  obtain ⟨d1, d2, d3, d4, d5⟩ := hD
  refine bv_aload_n d1 h0 (bv_iload d2 h4 (bv_iconst d3 (bv_iadd d4 ?_)))
  rw [ek, nI_add]
  exact bv_ldD d5 hs (by omega) (by omega) kk
theorem Psh.arg (hi : i + 6 ≤ n) (hn : n ≤ 3072) {kz : Int} (hk : k < 6) (ek : Int32.ofInt kz = nI k) (hD : argD p kz) (t : Psh n xs i (p + 6) q vs) : Psh n xs i p q (.int (xs (i + k)) :: vs) := by
  intro P cu su ls st nx h h0 h4 hs kk
  refine Psh.one hi hn hk ek hD h0 h4 hs (t P cu su ls _ nx h h0 h4 hs ?_)
  rw [List.reverse_cons, List.append_assoc] at kk
  exact kk
theorem Psh.bool (hi : i + 6 ≤ n) (hn : n ≤ 3072) {kz : Int} (hk : k < 6) (ek : Int32.ofInt kz = nI k) (hD : argD p kz) (hZ : argZ (p + 6)) (t : Psh n xs i (p + 6 + 8) q vs) : Psh n xs i p q (.int (nI (decide (xs (i + k) ≠ 0)).toNat) :: vs) := by
  intro P cu su ls st nx h h0 h4 hs kk
  obtain ⟨d1, d2, d3, d4⟩ := hZ
  rw [List.reverse_cons, List.append_assoc] at kk
  refine Psh.one hi hn hk ek hD h0 h4 hs (bv_if_eq d1 (tgt := p + 6 + 7) (by omega) ⟨fun e => ?_, fun e => ?_⟩)
  · refine bv_iconst d4 (t P cu su ls _ nx h h0 h4 hs ?_)
    rw [decide_eq_false (fun w => w e)] at kk
    exact kk
  · refine bv_iconst d2 (bv_goto d3 (tgt := p + 6 + 8) (by omega) (t P cu su ls _ nx h h0 h4 hs ?_))
    rw [decide_eq_true e] at kk
    exact kk
end PS
/-- what holds at the loop's head -/
def la_I (U : ST) (n : Nat) (xs : Nat → Int32) (h : ab_H) : Prop := st_ok U ∧ df_at h U ∧ (∃ (z w : Nat → Int32) (R : Nat → Nat → Int32), mo_at h z w R ∧ md U z w R) ∧ h 2300 = some (.inr (7, n, .inl xs)) ∧ ∃ g : Nat → Int64, h 3189 = some (.inr (3, 1, .inr (.inl g)))
def la_L (i : Nat) (x5 x6 : Option Value) : List (Option Value) := [some (.ref 2300), some (.ref 3000), some (.ref 3174), some (.ref 3189), some (.int (nI i)), x5, x6]
abbrev tlD (p : Nat) (off : Int) : Prop := decode cL_law_ p = .ok (.aload_n 2, 1) ∧ decode cL_law_ (p + 1) = .ok (.invokevirtual 154, 3) ∧ decode cL_law_ (p + 1 + 3) = .ok (.iload 5, 2) ∧ decode cL_law_ (p + 1 + 3 + 2) = .ok (.if_icmp .eq 5, 3) ∧ decode cL_law_ (p + 11) = .ok (.iload 5, 2) ∧ decode cL_law_ (p + 11 + 2) = .ok (.ifCond .ne 15, 3) ∧ decode cL_law_ (p + 16) = .ok (.aload_n 3, 1) ∧ decode cL_law_ (p + 16 + 1) = .ok (.iconst 0, 1) ∧ decode cL_law_ (p + 16 + 1 + 1) = .ok (.laload, 1) ∧ decode cL_law_ (p + 16 + 1 + 1 + 1) = .ok (.iload 6, 2) ∧ decode cL_law_ (p + 21) = .ok (.i2l, 1) ∧ decode cL_law_ (p + 21 + 1) = .ok (.lcmp, 1) ∧ decode cL_law_ (p + 21 + 1 + 1) = .ok (.ifCond .eq 5, 3) ∧ decode cL_law_ (p + 28) = .ok (.goto off, 3)
abbrev tzD (p : Nat) (off : Int) : Prop := decode cL_law_ p = .ok (.aload_n 2, 1) ∧ decode cL_law_ (p + 1) = .ok (.invokevirtual 154, 3) ∧ decode cL_law_ (p + 1 + 3) = .ok (.iload 5, 2) ∧ decode cL_law_ (p + 1 + 3 + 2) = .ok (.if_icmp .eq 5, 3) ∧ decode cL_law_ (p + 11) = .ok (.iload 5, 2) ∧ decode cL_law_ (p + 11 + 2) = .ok (.ifCond .ne 22, 3) ∧ decode cL_law_ (p + 16) = .ok (.aload_n 3, 1) ∧ decode cL_law_ (p + 16 + 1) = .ok (.iconst 0, 1) ∧ decode cL_law_ (p + 16 + 1 + 1) = .ok (.laload, 1) ∧ decode cL_law_ (p + 16 + 1 + 1 + 1) = .ok (.iload 6, 2) ∧ decode cL_law_ (p + 21) = .ok (.ifCond .eq 7, 3) ∧ decode cL_law_ (p + 21 + 3) = .ok (.lconst 1, 1) ∧ decode cL_law_ (p + 21 + 3 + 1) = .ok (.goto 4, 3) ∧ decode cL_law_ (p + 28) = .ok (.lconst 0, 1) ∧ decode cL_law_ (p + 29) = .ok (.lcmp, 1) ∧ decode cL_law_ (p + 29 + 1) = .ok (.ifCond .eq 5, 3) ∧ decode cL_law_ (p + 35) = .ok (.goto off, 3)
section CS
variable {U : ST} {n i cu su nx p : Nat} {xs : Nat → Int32} {h h0 : ab_H} {x5 x6 : Option Value} {z w : Nat → Int32} {R : Nat → Nat → Int32} {o : RS} {v : Int32} {g : Nat → Int64} {off : Int}
theorem m_thrown (hM : mo_at h z w R) : ab_Con mX12_thrown [.ref 3174] nx h (ab_an (.int (z 0)) nx h) := by
  refine ab_Con.of (by decide) rfl (Nat.le_of_ble_eq_true rfl) ?_
  have hR := mo_rest.refl h
  have e_o := hM.1
  have e_w := hM.2.1
  refine ab_g_v okX12_thrown (cut := []) 60 _ _ _ _ _ _ _ _ (ab_sq_b okX12_thrown [] 0) ?_
  have hb_0 : ab_b iX12_thrown [] 0 = [(0, .aload_n 0, 1, 0, 0), (1, .getfield 3, 3, 10, 0), (4, .ireturn, 1, 0, 0)] := rfl
  repeat' (first | (simp (disch := omega) only [hb_0, mX12_thrown, Nat.beq, ab_l0, List.map_cons, List.map_nil, List.length_cons, List.length_nil, List.cons_append, List.nil_append, List.replicate, Nat.reduceAdd, Nat.reduceSub, List.getElem?_cons_zero, List.getElem?_cons_succ, List.getElem?_nil, List.set_cons_zero, List.set_cons_succ, true_and, and_true, ab_cst0, ab_cst1, ab_cst2, ab_cst3, ab_cst4, ab_cst5, ab_up_s, Nat.le_refl, Nat.reduceLT, Nat.reduceLeDiff, Nat.lt_add_one, Nat.zero_le, nz, n1, nI_add, pk_mul, pk_sub, ab_dec1, ab_vin, nI_clamp, ab_m1a, ab_m1b, ab_m1c, ab_m1d, ab_m1e, ab_m1f, ab_up_n, reduceIte, Nat.add_eq_left, Nat.left_eq_add, Nat.add_left_cancel_iff, Nat.reduceEqDiff, not_true_eq_false, not_false_eq_true, ne_eq, or_true, true_or, false_implies, forall_const, if_true, if_false, Nat.reduceMul, Bool.false_eq_true, reduceCtorEq, true_implies, ab_br_t, ab_br_f, ab_br_n, nd_ltT, nd_ltF, nd_leT, nd_leF, nd_eqT, nd_eqF, nM_eq, nM_ltM, nM_leM, Bool.toNat_true, Bool.toNat_false, gq_iconst, gq_bipush, gq_sipush, gq_iload, gq_aload, gq_istore, gq_astore, gq_iinc, gq_iadd, gq_isub, gq_imul, gq_iand, gq_ior, gq_ixor, gq_ishl, gq_ishr, gq_iushr, gq_idiv, gq_irem, gq_ineg, gq_i2l, gq_i2b, gq_dup, gq_dupr, gq_pop, gq_popr, gq_dup2, gq_goto, gq_getfield, gq_putfield, gq_iaload, gq_iastore, gq_baload, gq_ireturn, gq_return_, gq_invokevirtual, gq_invokestatic, gq_invokespecial, gq_nop, gq_new, gq_ldc, gq_ldc_w, gq_newarray, gq_anewarray, gq_getstatic, gq_aaload, gq_aastore, gq_bastore, gq_laload, gq_lastore, gq_lcmp, gq_athrow, gq_arraylength, gq_areturn, gq_if_acmp, gq_lconst, gq_tableswitch, gq_iload_n0, gq_iload_n1, gq_iload_n2, gq_iload_n3, gq_aload_n0, gq_aload_n1, gq_aload_n2, gq_aload_n3, gq_istore_n0, gq_istore_n1, gq_istore_n2, gq_istore_n3, gq_astore_n0, gq_astore_n1, gq_astore_n2, gq_astore_n3, gq_ifCond_eq, gq_ifCond_ne, gq_ifCond_lt, gq_ifCond_ge, gq_ifCond_gt, gq_ifCond_le, gq_if_icmp_eq, gq_if_icmp_ne, gq_if_icmp_lt, gq_if_icmp_ge, gq_if_icmp_gt, gq_if_icmp_le, tb_0, tb_1, tb_k0, tb_k1, Option.toList_none, Option.toList_some, e_o, e_w, mo_g0, mo_g1, mo_g2, mo_g3, mo_g4, mo_g5, mo_g6, mo_g7, mo_g8, mo_g9, mo_g10, mo_g11, mo_g12, mo_g13, mo_g14, mo_g15, mo_g16, mo_g17, mo_g18, mo_g19, mo_g20, mo_g21, mo_g22, mo_g23, mo_g24, mo_p0, mo_p6, mo_p7, mo_p9, mo_p10, mo_p11, mo_p12, mo_p13, mo_p14, mo_p16, mo_p18, mo_len, md_us, md_u, wC_0, wC_1, wC_2, wC_3, wC_4, wC_5, wC_6, wC_7, wC_ut, wC_usd, wC_u4, wC_u5, Option.isNone_none, Option.isNone_some, Option.isSome_none, Option.isSome_some, fo_sr_1, fo_s1_1, fo_sd_1, la_n_0, la_n_s, mq, List.append_nil, rgn_d, decide_true, decide_false, false_and, and_false]) | (with_reducible refine ab_br_i ?_ ?_ <;> intro q <;> (try simp (disch := omega) only [ab_leI, ab_ltI, ab_eqI, Nat.not_lt, Nat.not_le, n1, nz, Bool.not_eq_false, Bool.not_eq_true, decide_eq_true_eq, decide_eq_false_iff_not, Decidable.not_not] at q)) | ((with_reducible refine mo_gz hM hR ?_); clear hM hR e_o e_w; intro h1 hM hR; have e_o := hM.1; have e_w := hM.2.1) | ((with_reducible refine mo_gw hM hR ?_); clear hM hR e_o e_w; intro h1 hM hR; have e_o := hM.1; have e_w := hM.2.1) | ((with_reducible refine mo_gz hM.upw (hR.up _ (by omega) (by omega)) ?_); clear hM hR e_o e_w; intro h1 hM hR; have e_o := hM.1; have e_w := hM.2.1) | ((with_reducible refine mo_gw hM.up0 (hR.up _ (by omega) (by omega)) ?_); clear hM hR e_o e_w; intro h1 hM hR; have e_o := hM.1; have e_w := hM.2.1))
  all_goals try clear hb_0
  exact ⟨rfl, rfl, rfl⟩
theorem la_fit0 {M' : ab_M} {rest : List Value} (h1 : Nat.ble (M'.2.2.2.2.1 + 1) 840 = true) (h2 : Nat.ble M'.2.2.1 81 = true) (h3 : M'.2.2.2.2.2 = (0, 0)) (hc : cu ≤ 601024) (hs : su ≤ 7293034) (h5 : Nat.ble (rest.map fun v => v.category).sum 8 = true) : ab_fit mL_law_ M' cu su rest := by
  refine ⟨Nat.le_of_ble_eq_true h1, Nat.le_of_ble_eq_true h2, ?_, ?_, Nat.le_of_ble_eq_true h5⟩
  · rw [h3]; exact hc
  · rw [h3]; exact hs
/-- what two calls have left: kept, and well -/
def la_E (i : Nat) (cu su n : Nat) (xs : Nat → Int32) : Prop := ∀ (U : ST) (nx : Nat) (h : ab_H) (x5 x6 : Option Value) (cu' su' : Nat), la_I U n xs h → cu' ≤ cu + 10 → su' ≤ su + 60 → ab_V mL_law_ la_P cu' su' 2893 (la_L i x5 x6) [] nx h
theorem la_tl (hD : tlD p off) (ht : ((p + 28 : Nat) : Int) + off = (2893 : Nat)) (hU : st_ok o.2.2) (hd : df_at h o.2.2) (hM : mo_at h z w R) (hm : md o.2.2 z w R) (hz : z 0 = nI o.1) (hv : o.1 = 0 → v = o.2.1) (hg : h 3189 = some (.inr (3, 1, .inr (.inl g)))) (hgv : o.1 = 0 → g 0 = o.2.1.toInt64) (hs : h 2300 = some (.inr (7, n, .inl xs))) (ho : o.1 ≤ 2) (hc : cu ≤ 601024) (hsu : su ≤ 7293034) (k : ∀ x5 x6, la_I o.2.2 n xs h → ab_V mL_law_ la_P cu su 2893 (la_L i x5 x6) [] nx h) : ab_V mL_law_ la_P cu su p (la_L i (some (.int (nI o.1))) (some (.int v))) [] nx h := by
  obtain ⟨d1, d2, d3, d4, d5, d6, d7, d8, d9, d10, d11, d12, d13, d14⟩ := hD
  have k := k (some (.int (nI o.1))) (some (.int v)) ⟨hU, hd, ⟨z, w, R, hM, hm⟩, hs, g, hg⟩
  refine bv_aload_n d1 rfl (bv_callV (As := []) (rest := []) d2 lL_154 hM.1 rfl (la_fit0 rfl rfl rfl hc hsu rfl) rfl (m_thrown hM) ?_)
  rintro _ _ _ ⟨rfl, rfl, rfl⟩
  show ab_V mL_law_ la_P cu su (p + 1 + 3) _ [.int (z 0)] _ _
  rw [hz]
  refine bv_iload d3 rfl (bv_icmp_eq d4 (tgt := p + 11) (by omega) ⟨fun _ => ?_, fun q => absurd rfl q⟩)
  refine bv_iload d5 rfl (bv_if_ne d6 (tgt := p + 28) (by omega) ⟨fun _ => bv_goto d14 ht k, fun q => ?_⟩)
  have h0 : o.1 = 0 := by
    have e0 : nI o.1 = nI 0 := q
    rw [ab_eqI (by omega) (by omega)] at e0
    exact e0
  refine bv_aload_n d7 rfl (bv_iconst d8 (bv_lald d9 hg (vp_in_nI (n := 0) (by omega) (by omega)) ?_))
  show ab_V mL_law_ la_P cu su (p + 16 + 1 + 1 + 1) _ [.long (g 0)] _ _
  rw [hgv h0]
  refine bv_iload d10 rfl (bv_i2l d11 ?_)
  rw [hv h0]
  exact bv_lcmpE d12 (bv_if_eq d13 (tgt := p + 28) (by omega) ⟨fun _ => bv_goto d14 ht (by rw [← hv h0]; exact k), fun q => absurd rfl q⟩)
theorem la_tz (hD : tzD p off) (ht : ((p + 35 : Nat) : Int) + off = (2893 : Nat)) (hzz : o.2.1 = 0 ∨ o.2.1 = 1) (hU : st_ok o.2.2) (hd : df_at h o.2.2) (hM : mo_at h z w R) (hm : md o.2.2 z w R) (hz : z 0 = nI o.1) (hv : o.1 = 0 → v = o.2.1) (hg : h 3189 = some (.inr (3, 1, .inr (.inl g)))) (hgv : o.1 = 0 → g 0 = o.2.1.toInt64) (hs : h 2300 = some (.inr (7, n, .inl xs))) (ho : o.1 ≤ 2) (hc : cu ≤ 601024) (hsu : su ≤ 7293034) (k : ∀ x5 x6, la_I o.2.2 n xs h → ab_V mL_law_ la_P cu su 2893 (la_L i x5 x6) [] nx h) : ab_V mL_law_ la_P cu su p (la_L i (some (.int (nI o.1))) (some (.int v))) [] nx h := by
  obtain ⟨d1, d2, d3, d4, d5, d6, d7, d8, d9, d10, d11, d12, d13, d14, d15, d16, d17⟩ := hD
  have k := k (some (.int (nI o.1))) (some (.int v)) ⟨hU, hd, ⟨z, w, R, hM, hm⟩, hs, g, hg⟩
  have fin : ∀ x : Int64, x = o.2.1.toInt64 → ab_V mL_law_ la_P cu su (p + 29) (la_L i (some (.int (nI o.1))) (some (.int v))) [.long x, .long o.2.1.toInt64] nx h := by
    intro x hx
    subst hx
    exact bv_lcmpE d15 (bv_if_eq d16 (tgt := p + 35) (by omega) ⟨fun _ => bv_goto d17 ht k, fun q => absurd rfl q⟩)
  refine bv_aload_n d1 rfl (bv_callV (As := []) (rest := []) d2 lL_154 hM.1 rfl (la_fit0 rfl rfl rfl hc hsu rfl) rfl (m_thrown hM) ?_)
  rintro _ _ _ ⟨rfl, rfl, rfl⟩
  show ab_V mL_law_ la_P cu su (p + 1 + 3) _ [.int (z 0)] _ _
  rw [hz]
  refine bv_iload d3 rfl (bv_icmp_eq d4 (tgt := p + 11) (by omega) ⟨fun _ => ?_, fun q => absurd rfl q⟩)
  refine bv_iload d5 rfl (bv_if_ne d6 (tgt := p + 35) (by omega) ⟨fun _ => bv_goto d17 ht k, fun q => ?_⟩)
  have h0 : o.1 = 0 := by
    have e0 : nI o.1 = nI 0 := q
    rw [ab_eqI (by omega) (by omega)] at e0
    exact e0
  refine bv_aload_n d7 rfl (bv_iconst d8 (bv_lald d9 hg (vp_in_nI (n := 0) (by omega) (by omega)) ?_))
  show ab_V mL_law_ la_P cu su (p + 16 + 1 + 1 + 1) _ [.long (g 0)] _ _
  rw [hgv h0]
  refine bv_iload d10 rfl (bv_if_eq d11 (tgt := p + 28) (by omega) ⟨fun q => bv_lconstD d14 (fin _ ?_), fun q => bv_lconstD d12 (bv_goto d13 (tgt := p + 29) (by omega) (fin _ ?_))⟩)
  · rw [hv h0] at q
    rw [q]
    rfl
  · rw [hv h0] at q
    rw [hzz.resolve_left q]
    rfl
/-- a case of the loop: the class's answer is caught, the Model's is taken -/
theorem la_case {Mh Mm : ab_M} {hh : lh_H} {idx idx2 p0 q1 q2 : Nat} {vs : List Value} (Q : RS → Prop) (hI : la_I U n xs h) (hc : cu + 10 ≤ 601024) (hsu : su + 60 ≤ 7293034) (E : la_E i cu su n xs)
    (dA : decode cL_law_ p0 = .ok (.aload_n 1, 1)) (ps1 : Psh n xs i (p0 + 1) q1 vs) (dB : decode cL_law_ q1 = .ok (.aload_n 3, 1)) (dC : decode cL_law_ (q1 + 1) = .ok (.invokestatic idx, 3)) (dD : decode cL_law_ (q1 + 1 + 3) = .ok (.istore 5, 2)) (dE : decode cL_law_ (q1 + 1 + 3 + 2) = .ok (.aload_n 2, 1)) (ps2 : Psh n xs i (q1 + 1 + 3 + 2 + 1) q2 vs) (dF : decode cL_law_ q2 = .ok (.invokevirtual idx2, 3)) (dG : decode cL_law_ (q2 + 3) = .ok (.istore 6, 2))
    (hA : ∀ g : Nat → Int64, h 3189 = some (.inr (3, 1, .inr (.inl g))) → lh_Con Mh hh (.ref 3000 :: (vs ++ [.ref 3189])) nx h (fun r nx' h' => ∃ o, Q o ∧ lh_P nx h o r nx' h'))
    (hB : ∀ o, Q o → ∀ (nx' : Nat) (h' : ab_H) (z w : Nat → Int32) (R : Nat → Nat → Int32), mo_at h' z w R → md U z w R → ab_Con Mm (.ref 3174 :: vs) nx' h' (md_R nx' h' o)) (hK : ∀ o, Q o → spk 2 o)
    (hl1 : lh_ls RL idx Mh hh ((.ref 3000 : Value) :: (vs ++ [.ref 3189])).length) (hl2 : ab_lv RL idx2 Mm vs.length) (hci : some RX12 = some Mm.1.cls) (f1 : Nat.ble (Mh.2.2.2.2.1 + 1) 840 = true) (f2 : Nat.ble Mh.2.2.1 81 = true) (f3 : Nat.ble Mh.2.2.2.2.2.1 10 = true) (f4 : Nat.ble Mh.2.2.2.2.2.2 60 = true) (g1 : Nat.ble (Mm.2.2.2.2.1 + 1) 840 = true) (g2 : Nat.ble Mm.2.2.1 81 = true) (g3 : Mm.2.2.2.2.2 = (0, 0))
    (tail : ∀ o, Q o → ∀ (cu su nx : Nat) (h : ab_H) (z w : Nat → Int32) (R : Nat → Nat → Int32) (v : Int32) (g : Nat → Int64), st_ok o.2.2 → df_at h o.2.2 → mo_at h z w R → md o.2.2 z w R → z 0 = nI o.1 → (o.1 = 0 → v = o.2.1) → h 3189 = some (.inr (3, 1, .inr (.inl g))) → (o.1 = 0 → g 0 = o.2.1.toInt64) → h 2300 = some (.inr (7, n, .inl xs)) → o.1 ≤ 2 → cu ≤ 601024 → su ≤ 7293034 → (∀ x5 x6, la_I o.2.2 n xs h → ab_V mL_law_ la_P cu su 2893 (la_L i x5 x6) [] nx h) → ab_V mL_law_ la_P cu su (q2 + 3 + 2) (la_L i (some (.int (nI o.1))) (some (.int v))) [] nx h) :
    ab_V mL_law_ la_P cu su p0 (la_L i x5 x6) [] nx h := by
  obtain ⟨hU, hd, ⟨z, w, R, hM, hm⟩, hs, g, hg⟩ := hI
  have f3 := Nat.le_of_ble_eq_true f3
  have f4 := Nat.le_of_ble_eq_true f4
  refine bv_aload_n dA rfl (ps1 _ _ _ _ _ _ _ rfl rfl hs (bv_aload_n dB rfl ?_))
  refine bv_sHd (M' := Mh) (hh := hh) (As := (Value.ref 3000 :: (vs ++ [Value.ref 3189]))) (rest := []) (hA g hg) dC hl1 ⟨Nat.le_of_ble_eq_true f1, Nat.le_of_ble_eq_true f2, by show cu + Mh.2.2.2.2.2.1 ≤ 601024; omega, by show su + Mh.2.2.2.2.2.2 ≤ 7293034; omega, Nat.zero_le _⟩ (by simp) ?_
  rintro _ nx1 h1 ⟨o, hQ, rfl, hn1, hd1, hr1, ga, hga, hva⟩
  show ab_V mL_law_ la_P (cu + Mh.2.2.2.2.2.1) (su + Mh.2.2.2.2.2.2) (q1 + 1 + 3) _ [.int (nI o.1)] nx1 h1
  have hM1 : mo_at h1 z w R := hM.kept (fun k a b => hr1 k (by omega) (by omega))
  have hs1 := (hr1 2300 (by omega) (by omega)).trans hs
  refine bv_istore dD (by decide) (bv_aload_n dE rfl (ps2 _ _ _ _ _ _ _ rfl rfl hs1 ?_))
  refine bv_callV (As := vs) (rest := []) dF hl2 hM1.1 hci (la_fit0 g1 g2 g3 (by omega) (by omega) rfl) rfl (hB o hQ nx1 h1 z w R hM1 hm) ?_
  rintro _ nx2 h2 ⟨rfl, v, z2, w2, R2, rfl, hM2, hr2, hm2, hz2, hv2⟩
  show ab_V mL_law_ la_P (cu + Mh.2.2.2.2.2.1 + Mm.2.2.2.2.2.1) (su + Mh.2.2.2.2.2.2 + Mm.2.2.2.2.2.2) (q2 + 3) _ [.int v] nx2 h2
  rw [g3]
  have hs2 := (hr2 2300 (by omega)).trans hs1
  refine bv_istore dG (by decide) (tail o hQ _ _ _ _ z2 w2 R2 v ga (hK o hQ).2 (hd1.kept (fun k a b => hr2 k (by omega))) hM2 hm2 hz2 hv2 ((hr2 3189 (by omega)).trans hga) hva hs2 (hK o hQ).1 (by show cu + Mh.2.2.2.2.2.1 + 0 ≤ _; omega) (by show su + Mh.2.2.2.2.2.2 + 0 ≤ _; omega) (fun x5 x6 hI => E _ _ _ _ _ _ _ hI (by show cu + Mh.2.2.2.2.2.1 + 0 ≤ _; omega) (by show su + Mh.2.2.2.2.2.2 + 0 ≤ _; omega)))
/-- a case without exceptions -/
theorem la_dir {Md Mm : ab_M} {idx idx2 p0 q1 q2 : Nat} {vs : List Value} (hI : la_I U n xs h) (hc : cu + 10 ≤ 601024) (hsu : su + 60 ≤ 7293034) (E : la_E i cu su n xs)
    (dA : decode cL_law_ p0 = .ok (.aload_n 1, 1)) (ps1 : Psh n xs i (p0 + 1) q1 vs) (dC : decode cL_law_ q1 = .ok (.invokevirtual idx, 3)) (dE : decode cL_law_ (q1 + 3) = .ok (.aload_n 2, 1)) (ps2 : Psh n xs i (q1 + 3 + 1) q2 vs) (dF : decode cL_law_ q2 = .ok (.invokevirtual idx2, 3)) (dG : decode cL_law_ (q2 + 3) = .ok (.if_icmp .eq off, 3)) (ht : ((q2 + 3 : Nat) : Int) + off = (2893 : Nat))
    (hA : ab_Con Md (.ref 3000 :: vs) nx h (df_R [] nx h o))
    (hB : ∀ (nx' : Nat) (h' : ab_H) (z w : Nat → Int32) (R : Nat → Nat → Int32), mo_at h' z w R → md U z w R → ab_Con Mm (.ref 3174 :: vs) nx' h' (md_R nx' h' o)) (hK : spk 0 o)
    (hl1 : ab_lv RL idx Md vs.length) (hl2 : ab_lv RL idx2 Mm vs.length) (hci1 : some RX11 = some Md.1.cls) (hci : some RX12 = some Mm.1.cls) (f1 : Nat.ble (Md.2.2.2.2.1 + 1) 840 = true) (f2 : Nat.ble Md.2.2.1 81 = true) (f3 : Md.2.2.2.2.2 = (0, 0)) (g1 : Nat.ble (Mm.2.2.2.2.1 + 1) 840 = true) (g2 : Nat.ble Mm.2.2.1 81 = true) (g3 : Mm.2.2.2.2.2 = (0, 0)) :
    ab_V mL_law_ la_P cu su p0 (la_L i x5 x6) [] nx h := by
  obtain ⟨hU, hd, ⟨z, w, R, hM, hm⟩, hs, g, hg⟩ := hI
  obtain ⟨im, pn, pc, hob⟩ := hd.obj
  refine bv_aload_n dA rfl (ps1 _ _ _ _ _ _ _ rfl rfl hs ?_)
  refine bv_callV (As := vs) (rest := []) dC hl1 hob hci1 (la_fit0 f1 f2 f3 (by omega) (by omega) rfl) rfl hA ?_
  obtain ⟨o1, o2, o3⟩ := o
  obtain rfl : o1 = 0 := Nat.le_zero.mp hK.1
  rintro _ nx1 h1 ⟨⟨rfl, rfl⟩, hd1, hr1⟩
  show ab_V mL_law_ la_P (cu + Md.2.2.2.2.2.1) (su + Md.2.2.2.2.2.2) (q1 + 3) _ [.int o2] nx1 h1
  rw [f3]
  have hM1 : mo_at h1 z w R := hM.kept (fun k a b => hr1 k (by omega))
  have hs1 := (hr1 2300 (by omega)).trans hs
  refine bv_aload_n dE rfl (ps2 _ _ _ _ _ _ _ rfl rfl hs1 ?_)
  refine bv_callV (As := vs) (rest := [.int o2]) dF hl2 hM1.1 hci (la_fit0 g1 g2 g3 (by show cu + 0 ≤ _; omega) (by show su + 0 ≤ _; omega) rfl) rfl (hB nx1 h1 z w R hM1 hm) ?_
  rintro _ nx2 h2 ⟨rfl, v, z2, w2, R2, rfl, hM2, hr2, hm2, hz2, hv2⟩
  show ab_V mL_law_ la_P (cu + 0 + Mm.2.2.2.2.2.1) (su + 0 + Mm.2.2.2.2.2.2) (q2 + 3) _ [.int v, .int o2] nx2 h2
  rw [g3, hv2 rfl]
  refine bv_icmp_eq dG ht ⟨fun _ => ?_, fun q => absurd rfl q⟩
  exact E _ _ _ _ _ _ _ ⟨hK.2, hd1.kept (fun k a b => hr2 k (by omega)), ⟨z2, w2, R2, hM2, hm2⟩, (hr2 2300 (by omega)).trans hs1, g, (hr2 3189 (by omega)).trans ((hr1 3189 (by omega)).trans hg)⟩ (by show cu + 0 + 0 ≤ _; omega) (by show su + 0 + 0 ≤ _; omega)
/-- an image is made of both -/
theorem la_img {idx idx2 p0 : Nat} (hI : la_I U n xs h) (hc : cu + 10 ≤ 601024) (hsu : su + 60 ≤ 7293034) (E : la_E i cu su n xs)
    (dA : decode cL_law_ p0 = .ok (.aload_n 1, 1)) (dC : decode cL_law_ (p0 + 1) = .ok (.invokevirtual idx, 3)) (dE : decode cL_law_ (p0 + 1 + 3) = .ok (.aload_n 2, 1)) (dF : decode cL_law_ (p0 + 1 + 3 + 1) = .ok (.invokevirtual idx2, 3)) (dG : decode cL_law_ (p0 + 1 + 3 + 1 + 3) = .ok (.goto off, 3)) (ht : ((p0 + 1 + 3 + 1 + 3 : Nat) : Int) + off = (2893 : Nat)) (hl1 : ab_lv RL idx mX11_image 0) (hl2 : ab_lv RL idx2 mX12_image 0) :
    ab_V mL_law_ la_P cu su p0 (la_L i x5 x6) [] nx h := by
  obtain ⟨hU, hd, ⟨z, w, R, hM, hm⟩, hs, g, hg⟩ := hI
  obtain ⟨im, pn, pc, hob⟩ := hd.obj
  refine bv_aload_n dA rfl (bv_callV (As := []) (rest := []) dC hl1 hob rfl (la_fit0 rfl rfl rfl (by omega) (by omega) rfl) rfl (c_image hd) ?_)
  rintro _ nx1 h1 ⟨rfl, rfl, hd1, hr1⟩
  show ab_V mL_law_ la_P cu su (p0 + 1 + 3) _ [] nx1 h1
  have hM1 : mo_at h1 z w R := hM.kept (fun k a b => hr1 k (by omega))
  refine bv_aload_n dE rfl (bv_callV (As := []) (rest := []) dF hl2 hM1.1 rfl (la_fit0 rfl rfl rfl (by omega) (by omega) rfl) rfl (m_image hM1 hm hU) ?_)
  rintro _ nx2 h2 ⟨rfl, rfl, z2, w2, R2, hM2, hr2, hm2⟩
  show ab_V mL_law_ la_P cu su (p0 + 1 + 3 + 1 + 3) _ [] nx2 h2
  exact bv_goto dG ht (E _ _ _ _ _ _ _ ⟨k_image hU, hd1.kept (fun k a b => hr2 k (by omega)), ⟨z2, w2, R2, hM2, hm2⟩, (hr2 2300 (by omega)).trans ((hr1 2300 (by omega)).trans hs), g, (hr2 3189 (by omega)).trans ((hr1 3189 (by omega)).trans hg)⟩ (by omega) (by omega))
end CS
