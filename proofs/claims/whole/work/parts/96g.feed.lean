/-! ===== the Model is fed ===== -/
theorem sx_tab : ∀ b, b < 256 → (BitVec.ofNat 8 b).signExtend 32 = (sx b).toBitVec := by decide +kernel
theorem i2b_byt {x y : Int32} {s : Nat} (hs : s ≤ 24) (hy : y.toBitVec.smod 32 = BitVec.ofNat 32 s) : (x >>> y).toInt8.toInt32 = sx ((x.toUInt32.toNat >>> s) % 256) := by
  apply Int32.toBitVec_inj.mp
  rw [← sx_tab _ (Nat.mod_lt _ (by decide))]
  show ((x.toBitVec.sshiftRight' (y.toBitVec.smod 32)).signExtend 8).signExtend 32 = _
  rw [hy]
  congr 1
  apply BitVec.eq_of_getLsbD_eq
  intro i hi
  show ((x.toBitVec.sshiftRight (BitVec.ofNat 32 s).toNat).signExtend 8).getLsbD i = _
  rw [BitVec.toNat_ofNat, Nat.mod_eq_of_lt (by omega)]
  rw [BitVec.getLsbD_signExtend, BitVec.getLsbD_sshiftRight, BitVec.getLsbD_ofNat, show 256 = 2 ^ 8 from rfl, Nat.testBit_mod_two_pow, Nat.testBit_shiftRight]
  rw [if_pos (by omega), if_pos (by omega)]
  have e1 : decide (i < 8) = true := decide_eq_true hi
  have e2 : decide (32 ≤ i) = false := decide_eq_false (by omega)
  rw [e1, e2]
  rfl
theorem i2b_s (x : Int32) (i : Nat) (hi : i < 4) : (x >>> (nI (24 - 8 * i) &&& 31)).toInt8.toInt32 = sx (byt x i) := by
  have h4 : i = 0 ∨ i = 1 ∨ i = 2 ∨ i = 3 := by omega
  rcases h4 with rfl | rfl | rfl | rfl
  · rw [i2b_byt (s := 24) (by omega) (by decide)]
    unfold byt
    rw [UInt32.toNat_shiftRight]
    rfl
  · rw [i2b_byt (s := 16) (by omega) (by decide)]
    unfold byt
    rw [UInt32.toNat_shiftRight]
    rfl
  · rw [i2b_byt (s := 8) (by omega) (by decide)]
    unfold byt
    rw [UInt32.toNat_shiftRight]
    rfl
  · rw [i2b_byt (s := 0) (by omega) (by decide)]
    unfold byt
    rw [UInt32.toNat_shiftRight]
    rfl
theorem sx_i8 : ∀ b, b < 256 → (sx b).toInt8.toInt32 = sx b := by decide +kernel
theorem apB_i {f : Nat → Nat} {n i : Nat} {x : Int32} : apB f n x i = if n ≤ i ∧ i < n + 4 then byt x (i - n) else f i := by
  unfold apB up1
  by_cases h3 : i = n + 3
  · subst h3
    rw [if_pos rfl, if_pos (by omega), show n + 3 - n = 3 by omega]
  rw [if_neg h3]
  by_cases h2 : i = n + 2
  · subst h2
    rw [if_pos rfl, if_pos (by omega), show n + 2 - n = 2 by omega]
  rw [if_neg h2]
  by_cases h1 : i = n + 1
  · subst h1
    rw [if_pos rfl, if_pos (by omega), show n + 1 - n = 1 by omega]
  rw [if_neg h1]
  by_cases h0 : i = n
  · subst h0
    rw [if_pos rfl, if_pos (by omega), show i - i = 0 by omega]
  rw [if_neg h0, if_neg (by omega)]
/-- the tape behind j of the twenty bytes -/
def fdT (f g : Nat → Int32) (n j : Nat) : Nat → Int32 := fun k => if n ≤ k ∧ k < n + j then sx (byt (g ((k - n) / 4)) ((k - n) % 4)) else f k
theorem fdT_0 {f g : Nat → Int32} {n : Nat} : fdT f g n 0 = f := funext fun k => if_neg (by omega)
theorem fdT_s {f g : Nat → Int32} {n j : Nat} : upd (fdT f g n j) (n + j) (sx (byt (g (j / 4)) (j % 4))) = fdT f g n (j + 1) := by
  funext k
  by_cases e : k = n + j
  · subst e
    rw [md_us]
    unfold fdT
    rw [if_pos (by omega), show n + j - n = j by omega]
  · rw [md_u e]
    unfold fdT
    by_cases e2 : n ≤ k ∧ k < n + j
    · rw [if_pos e2, if_pos (by omega)]
    · rw [if_neg e2, if_neg (by omega)]
def fv5 (f : Nat → Int32) (a b c d e : Int32) : Nat → Int32 := upd (upd (upd (upd (upd f 0 a) 1 b) 2 c) 3 d) 4 e
theorem fdT_fed {f r : Nat → Int32} {bt : Nat → Nat} {n i : Nat} {a b c d e : Int32} (hf : f i = sx (bt i)) : fdT f (fv5 r a b c d e) n 20 i = sx (fed bt n a b c d e i) := by
  unfold fdT fed
  rw [apB_i, apB_i, apB_i, apB_i, apB_i]
  by_cases h1 : n ≤ i ∧ i < n + 20
  · rw [if_pos h1]
    have hq : (i - n) / 4 = 0 ∨ (i - n) / 4 = 1 ∨ (i - n) / 4 = 2 ∨ (i - n) / 4 = 3 ∨ (i - n) / 4 = 4 := by omega
    rcases hq with q | q | q | q | q
    · rw [if_neg (by omega), if_neg (by omega), if_neg (by omega), if_neg (by omega), if_pos (by omega), q, show (i - n) % 4 = i - n by omega]
      rfl
    · rw [if_neg (by omega), if_neg (by omega), if_neg (by omega), if_pos (by omega), q, show (i - n) % 4 = i - (n + 4) by omega]
      rfl
    · rw [if_neg (by omega), if_neg (by omega), if_pos (by omega), q, show (i - n) % 4 = i - (n + 4 + 4) by omega]
      rfl
    · rw [if_neg (by omega), if_pos (by omega), q, show (i - n) % 4 = i - (n + 4 + 4 + 4) by omega]
      rfl
    · rw [if_pos (by omega), q, show (i - n) % 4 = i - (n + 4 + 4 + 4 + 4) by omega]
      rfl
  · rw [if_neg h1, if_neg (by omega), if_neg (by omega), if_neg (by omega), if_neg (by omega), if_neg (by omega), hf]
theorem bv_bas {M : ab_M} {post : ab_P} {cu su pc nx : Nat} {ls : List (Option Value)} {st : List Value} {h : ab_H} {J t : List ab_E} {c0 f0 a n j : Nat} {f : Nat → Int32} {x : Int32} (hok : ab_cd M 0 J) (hJ : ab_dr pc J = (pc, .bastore, 1, c0, f0) :: t) (ha : h a = some (.inr (1, n, .inl f))) (hj : j < n) (hn : n < 2 ^ 31) (k : ab_V M post cu su (pc + 1) ls st nx (ab_up h a (.inr (1, n, .inl (upd f j (vp_nar .byte x)))))) : ab_V M post cu su pc ls (.int x :: .int (nI j) :: .ref a :: st) nx h := by
  have hc := ab_cd_dr (tgt := pc) hok
  rw [hJ] at hc
  refine bv_bast hc.2.1.1 ha (vp_in_nI hj hn) ?_
  rw [nI_clamp (by omega)]
  exact k
section MO
variable {h : ab_H} {z w : Nat → Int32} {R : Nat → Nat → Int32} {nx n : Nat} {U : ST}
theorem nar_b {x : Int32} {i : Nat} : vp_nar .byte (sx (byt x i)) = sx (byt x i) := sx_i8 _ (byt_lt x i)
theorem fe5 {g T : Nat → Int32} (hM : mo_at h z w (upR (upR R 5 g) 4 T)) : h 3180 = some (.inr (1, 400, .inl T)) ∧ h 3181 = some (.inr (0, 5, .inl g)) := ⟨hM.r4, hM.r5⟩
theorem m_feed {a b c d e : Int32} (hM : mo_at h z w R) (hd : md U z w R) (hU : st_ok U) : ab_Con mX12_feed [.ref 3174, .int a, .int b, .int c, .int d, .int e] nx h (md_R nx h (sp_feed U a b c d e)) := by
  refine ab_Con.of (by decide) rfl (Nat.le_of_ble_eq_true rfl) ?_
  have hR := mo_rest.refl h
  have e_o := hM.1
  have e_w := hM.2.1
  have hz9 := hd.2.2.1
  have hn4 := hU.2.2.2.1
  have e_5 := hM.r5
  have e_4 := hM.r4
  unfold sp_feed
  by_cases hf : U.2.2.2.1 + 20 ≤ 400
  · rw [if_pos hf]
    generalize hn : U.2.2.2.1 = n at *
    have hg4 : (upR (upR R 5 (fv5 (R 5) a b c d e)) 4 (fdT (R 4) (fv5 (R 5) a b c d e) n 0)) = upR R 5 (fv5 (R 5) a b c d e) := by rw [fdT_0]; exact upR_id (upR_n (by omega))
    have hz9' : upd z 0 (nI 0) 9 = nI n := (md_u (by omega)).trans hz9
    have loop : ∀ nq j : Nat, j + nq = 20 → ∀ (h1 : ab_H) (hM : mo_at h1 (upd z 0 (nI 0)) w (upR (upR R 5 (fv5 (R 5) a b c d e)) 4 (fdT (R 4) (fv5 (R 5) a b c d e) n j))) (hR : mo_rest h h1), ab_V mX12_feed (md_R nx h (0, nI (n + 20), (U.1, U.2.1, fed U.2.2.1 n a b c d e, n + 20, U.2.2.2.2))) 0 0 60 [some (.ref 3174), some (.int a), some (.int b), some (.int c), some (.int d), some (.int e), some (.int (nI j))] [] nx h1 := by
      intro nq
      induction nq with
      | zero =>
        intro j hj h1 hM hR
        have e_o := hM.1
        have e_w := hM.2.1
        obtain ⟨e_4, e_5⟩ := fe5 hM
        refine ab_g_v okX12_feed (cut := [60]) 60 _ _ _ _ _ _ _ _ (ab_sq_b0 okX12_feed [60] 60) ?_
        have hb_s : ab_b0 iX12_feed [60] 60 = [(60, .iload 6, 2, 0, 0), (62, .bipush 20, 2, 0, 0), (64, .if_icmp .ge 42, 3, 0, 106), (67, .aload_n 0, 1, 0, 0), (68, .getfield 29, 3, 10, 8), (71, .aload_n 0, 1, 0, 0), (72, .getfield 97, 3, 10, 9), (75, .iload 6, 2, 0, 0), (77, .iadd, 1, 0, 0), (78, .aload_n 0, 1, 0, 0), (79, .getfield 36, 3, 10, 15), (82, .iload 6, 2, 0, 0), (84, .iconst 4, 1, 0, 0), (85, .idiv, 1, 0, 0), (86, .iaload, 1, 0, 0), (87, .bipush 24, 2, 0, 0), (89, .bipush 8, 2, 0, 0), (91, .iload 6, 2, 0, 0), (93, .iconst 4, 1, 0, 0), (94, .irem, 1, 0, 0), (95, .imul, 1, 0, 0), (96, .isub, 1, 0, 0), (97, .ishr, 1, 0, 0), (98, .i2b, 1, 0, 0), (99, .bastore, 1, 0, 0), (100, .iinc 6 1, 3, 0, 0), (103, .goto (-43), 3, 0, 60), (106, .aload_n 0, 1, 0, 0), (107, .dup, 1, 0, 0), (108, .getfield 97, 3, 10, 9), (111, .bipush 20, 2, 0, 0), (113, .iadd, 1, 0, 0), (114, .putfield 97, 3, 10, 9), (117, .aload_n 0, 1, 0, 0), (118, .getfield 97, 3, 10, 9), (121, .ireturn, 1, 0, 0)] := rfl
        have hb_106 : ab_b iX12_feed [60] 106 = [(106, .aload_n 0, 1, 0, 0), (107, .dup, 1, 0, 0), (108, .getfield 97, 3, 10, 9), (111, .bipush 20, 2, 0, 0), (113, .iadd, 1, 0, 0), (114, .putfield 97, 3, 10, 9), (117, .aload_n 0, 1, 0, 0), (118, .getfield 97, 3, 10, 9), (121, .ireturn, 1, 0, 0)] := rfl
        have hb_60 : ab_b iX12_feed [60] 60 = [(60, .nop, 0, 0, 0)] := rfl
        repeat' (first | (simp (disch := omega) only [hb_s, hb_106, hb_60, mX12_feed, Nat.beq, ab_l0, List.map_cons, List.map_nil, List.length_cons, List.length_nil, List.cons_append, List.nil_append, List.replicate, Nat.reduceAdd, Nat.reduceSub, List.getElem?_cons_zero, List.getElem?_cons_succ, List.getElem?_nil, List.set_cons_zero, List.set_cons_succ, true_and, and_true, ab_cst0, ab_cst1, ab_cst2, ab_cst3, ab_cst4, ab_cst5, ab_up_s, Nat.le_refl, Nat.reduceLT, Nat.reduceLeDiff, Nat.lt_add_one, Nat.zero_le, nz, n1, nI_add, pk_mul, pk_sub, ab_dec1, ab_vin, nI_clamp, ab_m1a, ab_m1b, ab_m1c, ab_m1d, ab_m1e, ab_m1f, ab_up_n, reduceIte, Nat.add_eq_left, Nat.left_eq_add, Nat.add_left_cancel_iff, Nat.reduceEqDiff, not_true_eq_false, not_false_eq_true, ne_eq, or_true, true_or, false_implies, forall_const, if_true, if_false, Nat.reduceMul, Bool.false_eq_true, reduceCtorEq, true_implies, ab_br_t, ab_br_f, ab_br_n, nd_ltT, nd_ltF, nd_leT, nd_leF, nd_eqT, nd_eqF, nM_eq, nM_ltM, nM_leM, Bool.toNat_true, Bool.toNat_false, gq_iconst, gq_bipush, gq_sipush, gq_iload, gq_aload, gq_istore, gq_astore, gq_iinc, gq_iadd, gq_isub, gq_imul, gq_iand, gq_ior, gq_ixor, gq_ishl, gq_ishr, gq_iushr, gq_idiv, gq_irem, gq_ineg, gq_i2l, gq_i2b, gq_dup, gq_dupr, gq_pop, gq_popr, gq_dup2, gq_goto, gq_getfield, gq_putfield, gq_iaload, gq_iastore, gq_baload, gq_ireturn, gq_return_, gq_invokevirtual, gq_invokestatic, gq_invokespecial, gq_nop, gq_new, gq_ldc, gq_ldc_w, gq_newarray, gq_anewarray, gq_getstatic, gq_aaload, gq_aastore, gq_bastore, gq_laload, gq_lastore, gq_lcmp, gq_athrow, gq_arraylength, gq_areturn, gq_if_acmp, gq_lconst, gq_tableswitch, gq_iload_n0, gq_iload_n1, gq_iload_n2, gq_iload_n3, gq_aload_n0, gq_aload_n1, gq_aload_n2, gq_aload_n3, gq_istore_n0, gq_istore_n1, gq_istore_n2, gq_istore_n3, gq_astore_n0, gq_astore_n1, gq_astore_n2, gq_astore_n3, gq_ifCond_eq, gq_ifCond_ne, gq_ifCond_lt, gq_ifCond_ge, gq_ifCond_gt, gq_ifCond_le, gq_if_icmp_eq, gq_if_icmp_ne, gq_if_icmp_lt, gq_if_icmp_ge, gq_if_icmp_gt, gq_if_icmp_le, tb_0, tb_1, tb_k0, tb_k1, Option.toList_none, Option.toList_some, e_o, e_w, mo_g0, mo_g1, mo_g2, mo_g3, mo_g4, mo_g5, mo_g6, mo_g7, mo_g8, mo_g9, mo_g10, mo_g11, mo_g12, mo_g13, mo_g14, mo_g15, mo_g16, mo_g17, mo_g18, mo_g19, mo_g20, mo_g21, mo_g22, mo_g23, mo_g24, mo_p0, mo_p6, mo_p7, mo_p9, mo_p10, mo_p11, mo_p12, mo_p13, mo_p14, mo_p16, mo_p18, mo_len, md_us, md_u, wC_0, wC_1, wC_2, wC_3, wC_4, wC_5, wC_6, wC_7, wC_ut, wC_usd, wC_u4, wC_u5, Option.isNone_none, Option.isNone_some, Option.isSome_none, Option.isSome_some, fo_sr_1, fo_s1_1, fo_sd_1, la_n_0, la_n_s, mq, List.append_nil, rgn_d, decide_true, decide_false, false_and, and_false, e_5, e_4, hz9, pk_div, pk_irem, i2b_s, nar_b, fdT_s]) | (with_reducible refine ab_br_i ?_ ?_ <;> intro q <;> (try simp (disch := omega) only [ab_leI, ab_ltI, ab_eqI, Nat.not_lt, Nat.not_le, n1, nz, Bool.not_eq_false, Bool.not_eq_true, decide_eq_true_eq, decide_eq_false_iff_not, Decidable.not_not] at q)) | ((with_reducible refine mo_gz hM hR ?_); clear hM hR e_o e_w; intro h1 hM hR; have e_o := hM.1; have e_w := hM.2.1) | ((with_reducible refine mo_gw hM hR ?_); clear hM hR e_o e_w; intro h1 hM hR; have e_o := hM.1; have e_w := hM.2.1) | ((with_reducible refine mo_gz hM.upw (hR.up _ (by omega) (by omega)) ?_); clear hM hR e_o e_w; intro h1 hM hR; have e_o := hM.1; have e_w := hM.2.1) | ((with_reducible refine mo_gw hM.up0 (hR.up _ (by omega) (by omega)) ?_); clear hM hR e_o e_w; intro h1 hM hR; have e_o := hM.1; have e_w := hM.2.1))
        all_goals try clear hb_s hb_106 hb_60
        obtain rfl : j = 20 := by omega
        obtain ⟨d1, d2, d3, d4, d5, d6, d7, d8⟩ := hd
        refine mdr ?_ hM.up0 (hR.up _ (by omega) (by omega)) rfl (fun _ => rfl)
        exact ⟨d1, fun i hi => fdT_fed (d2 i hi), md_us _ _ _, d4, d5, d6, d7, d8⟩
      | succ nq ih =>
        intro j hj h1 hM hR
        have ih1 := ih (j + 1) (by omega)
        have e_o := hM.1
        have e_w := hM.2.1
        obtain ⟨e_4, e_5⟩ := fe5 hM
        refine ab_g_v okX12_feed (cut := [60]) 60 _ _ _ _ _ _ _ _ (ab_sq_b0 okX12_feed [60] 60) ?_
        have hb_s : ab_b0 iX12_feed [60] 60 = [(60, .iload 6, 2, 0, 0), (62, .bipush 20, 2, 0, 0), (64, .if_icmp .ge 42, 3, 0, 106), (67, .aload_n 0, 1, 0, 0), (68, .getfield 29, 3, 10, 8), (71, .aload_n 0, 1, 0, 0), (72, .getfield 97, 3, 10, 9), (75, .iload 6, 2, 0, 0), (77, .iadd, 1, 0, 0), (78, .aload_n 0, 1, 0, 0), (79, .getfield 36, 3, 10, 15), (82, .iload 6, 2, 0, 0), (84, .iconst 4, 1, 0, 0), (85, .idiv, 1, 0, 0), (86, .iaload, 1, 0, 0), (87, .bipush 24, 2, 0, 0), (89, .bipush 8, 2, 0, 0), (91, .iload 6, 2, 0, 0), (93, .iconst 4, 1, 0, 0), (94, .irem, 1, 0, 0), (95, .imul, 1, 0, 0), (96, .isub, 1, 0, 0), (97, .ishr, 1, 0, 0), (98, .i2b, 1, 0, 0), (99, .bastore, 1, 0, 0), (100, .iinc 6 1, 3, 0, 0), (103, .goto (-43), 3, 0, 60), (106, .aload_n 0, 1, 0, 0), (107, .dup, 1, 0, 0), (108, .getfield 97, 3, 10, 9), (111, .bipush 20, 2, 0, 0), (113, .iadd, 1, 0, 0), (114, .putfield 97, 3, 10, 9), (117, .aload_n 0, 1, 0, 0), (118, .getfield 97, 3, 10, 9), (121, .ireturn, 1, 0, 0)] := rfl
        have hb_106 : ab_b iX12_feed [60] 106 = [(106, .aload_n 0, 1, 0, 0), (107, .dup, 1, 0, 0), (108, .getfield 97, 3, 10, 9), (111, .bipush 20, 2, 0, 0), (113, .iadd, 1, 0, 0), (114, .putfield 97, 3, 10, 9), (117, .aload_n 0, 1, 0, 0), (118, .getfield 97, 3, 10, 9), (121, .ireturn, 1, 0, 0)] := rfl
        have hb_60 : ab_b iX12_feed [60] 60 = [(60, .nop, 0, 0, 0)] := rfl
        repeat' (first | (simp (disch := omega) only [hb_s, hb_106, hb_60, mX12_feed, Nat.beq, ab_l0, List.map_cons, List.map_nil, List.length_cons, List.length_nil, List.cons_append, List.nil_append, List.replicate, Nat.reduceAdd, Nat.reduceSub, List.getElem?_cons_zero, List.getElem?_cons_succ, List.getElem?_nil, List.set_cons_zero, List.set_cons_succ, true_and, and_true, ab_cst0, ab_cst1, ab_cst2, ab_cst3, ab_cst4, ab_cst5, ab_up_s, Nat.le_refl, Nat.reduceLT, Nat.reduceLeDiff, Nat.lt_add_one, Nat.zero_le, nz, n1, nI_add, pk_mul, pk_sub, ab_dec1, ab_vin, nI_clamp, ab_m1a, ab_m1b, ab_m1c, ab_m1d, ab_m1e, ab_m1f, ab_up_n, reduceIte, Nat.add_eq_left, Nat.left_eq_add, Nat.add_left_cancel_iff, Nat.reduceEqDiff, not_true_eq_false, not_false_eq_true, ne_eq, or_true, true_or, false_implies, forall_const, if_true, if_false, Nat.reduceMul, Bool.false_eq_true, reduceCtorEq, true_implies, ab_br_t, ab_br_f, ab_br_n, nd_ltT, nd_ltF, nd_leT, nd_leF, nd_eqT, nd_eqF, nM_eq, nM_ltM, nM_leM, Bool.toNat_true, Bool.toNat_false, gq_iconst, gq_bipush, gq_sipush, gq_iload, gq_aload, gq_istore, gq_astore, gq_iinc, gq_iadd, gq_isub, gq_imul, gq_iand, gq_ior, gq_ixor, gq_ishl, gq_ishr, gq_iushr, gq_idiv, gq_irem, gq_ineg, gq_i2l, gq_i2b, gq_dup, gq_dupr, gq_pop, gq_popr, gq_dup2, gq_goto, gq_getfield, gq_putfield, gq_iaload, gq_iastore, gq_baload, gq_ireturn, gq_return_, gq_invokevirtual, gq_invokestatic, gq_invokespecial, gq_nop, gq_new, gq_ldc, gq_ldc_w, gq_newarray, gq_anewarray, gq_getstatic, gq_aaload, gq_aastore, gq_bastore, gq_laload, gq_lastore, gq_lcmp, gq_athrow, gq_arraylength, gq_areturn, gq_if_acmp, gq_lconst, gq_tableswitch, gq_iload_n0, gq_iload_n1, gq_iload_n2, gq_iload_n3, gq_aload_n0, gq_aload_n1, gq_aload_n2, gq_aload_n3, gq_istore_n0, gq_istore_n1, gq_istore_n2, gq_istore_n3, gq_astore_n0, gq_astore_n1, gq_astore_n2, gq_astore_n3, gq_ifCond_eq, gq_ifCond_ne, gq_ifCond_lt, gq_ifCond_ge, gq_ifCond_gt, gq_ifCond_le, gq_if_icmp_eq, gq_if_icmp_ne, gq_if_icmp_lt, gq_if_icmp_ge, gq_if_icmp_gt, gq_if_icmp_le, tb_0, tb_1, tb_k0, tb_k1, Option.toList_none, Option.toList_some, e_o, e_w, mo_g0, mo_g1, mo_g2, mo_g3, mo_g4, mo_g5, mo_g6, mo_g7, mo_g8, mo_g9, mo_g10, mo_g11, mo_g12, mo_g13, mo_g14, mo_g15, mo_g16, mo_g17, mo_g18, mo_g19, mo_g20, mo_g21, mo_g22, mo_g23, mo_g24, mo_p0, mo_p6, mo_p7, mo_p9, mo_p10, mo_p11, mo_p12, mo_p13, mo_p14, mo_p16, mo_p18, mo_len, md_us, md_u, wC_0, wC_1, wC_2, wC_3, wC_4, wC_5, wC_6, wC_7, wC_ut, wC_usd, wC_u4, wC_u5, Option.isNone_none, Option.isNone_some, Option.isSome_none, Option.isSome_some, fo_sr_1, fo_s1_1, fo_sd_1, la_n_0, la_n_s, mq, List.append_nil, rgn_d, decide_true, decide_false, false_and, and_false, e_5, e_4, hz9, pk_div, pk_irem, i2b_s, nar_b, fdT_s]) | (with_reducible refine ab_br_i ?_ ?_ <;> intro q <;> (try simp (disch := omega) only [ab_leI, ab_ltI, ab_eqI, Nat.not_lt, Nat.not_le, n1, nz, Bool.not_eq_false, Bool.not_eq_true, decide_eq_true_eq, decide_eq_false_iff_not, Decidable.not_not] at q)) | ((with_reducible refine mo_gz hM hR ?_); clear hM hR e_o e_w; intro h1 hM hR; have e_o := hM.1; have e_w := hM.2.1) | ((with_reducible refine mo_gw hM hR ?_); clear hM hR e_o e_w; intro h1 hM hR; have e_o := hM.1; have e_w := hM.2.1) | ((with_reducible refine mo_gz hM.upw (hR.up _ (by omega) (by omega)) ?_); clear hM hR e_o e_w; intro h1 hM hR; have e_o := hM.1; have e_w := hM.2.1) | ((with_reducible refine mo_gw hM.up0 (hR.up _ (by omega) (by omega)) ?_); clear hM hR e_o e_w; intro h1 hM hR; have e_o := hM.1; have e_w := hM.2.1))
        all_goals try clear hb_s hb_106 hb_60
        have hM2 := hM.sr4 (g := fdT (R 4) (fv5 (R 5) a b c d e) n (j + 1))
        have hR2 : mo_rest h (ab_up h1 3180 (.inr (1, 400, .inl (fdT (R 4) (fv5 (R 5) a b c d e) n (j + 1))))) := hR.up _ (by omega) (by omega)
        refine bv_bas okX12_feed rfl e_4 (by omega) (by omega) ?_
        rw [nar_b, fdT_s]
        refine ab_g_v okX12_feed (cut := [60]) 60 _ _ _ _ _ _ _ _ (ab_sq_b okX12_feed [60] 100) ?_
        have hb_100 : ab_b iX12_feed [60] 100 = [(100, .iinc 6 1, 3, 0, 0), (103, .goto (-43), 3, 0, 60), (106, .aload_n 0, 1, 0, 0), (107, .dup, 1, 0, 0), (108, .getfield 97, 3, 10, 9), (111, .bipush 20, 2, 0, 0), (113, .iadd, 1, 0, 0), (114, .putfield 97, 3, 10, 9), (117, .aload_n 0, 1, 0, 0), (118, .getfield 97, 3, 10, 9), (121, .ireturn, 1, 0, 0)] := rfl
        have hb_60 : ab_b iX12_feed [60] 60 = [(60, .nop, 0, 0, 0)] := rfl
        repeat' (first | (simp (disch := omega) only [hb_100, hb_60, mX12_feed, Nat.beq, ab_l0, List.map_cons, List.map_nil, List.length_cons, List.length_nil, List.cons_append, List.nil_append, List.replicate, Nat.reduceAdd, Nat.reduceSub, List.getElem?_cons_zero, List.getElem?_cons_succ, List.getElem?_nil, List.set_cons_zero, List.set_cons_succ, true_and, and_true, ab_cst0, ab_cst1, ab_cst2, ab_cst3, ab_cst4, ab_cst5, ab_up_s, Nat.le_refl, Nat.reduceLT, Nat.reduceLeDiff, Nat.lt_add_one, Nat.zero_le, nz, n1, nI_add, pk_mul, pk_sub, ab_dec1, ab_vin, nI_clamp, ab_m1a, ab_m1b, ab_m1c, ab_m1d, ab_m1e, ab_m1f, ab_up_n, reduceIte, Nat.add_eq_left, Nat.left_eq_add, Nat.add_left_cancel_iff, Nat.reduceEqDiff, not_true_eq_false, not_false_eq_true, ne_eq, or_true, true_or, false_implies, forall_const, if_true, if_false, Nat.reduceMul, Bool.false_eq_true, reduceCtorEq, true_implies, ab_br_t, ab_br_f, ab_br_n, nd_ltT, nd_ltF, nd_leT, nd_leF, nd_eqT, nd_eqF, nM_eq, nM_ltM, nM_leM, Bool.toNat_true, Bool.toNat_false, gq_iconst, gq_bipush, gq_sipush, gq_iload, gq_aload, gq_istore, gq_astore, gq_iinc, gq_iadd, gq_isub, gq_imul, gq_iand, gq_ior, gq_ixor, gq_ishl, gq_ishr, gq_iushr, gq_idiv, gq_irem, gq_ineg, gq_i2l, gq_i2b, gq_dup, gq_dupr, gq_pop, gq_popr, gq_dup2, gq_goto, gq_getfield, gq_putfield, gq_iaload, gq_iastore, gq_baload, gq_ireturn, gq_return_, gq_invokevirtual, gq_invokestatic, gq_invokespecial, gq_nop, gq_new, gq_ldc, gq_ldc_w, gq_newarray, gq_anewarray, gq_getstatic, gq_aaload, gq_aastore, gq_bastore, gq_laload, gq_lastore, gq_lcmp, gq_athrow, gq_arraylength, gq_areturn, gq_if_acmp, gq_lconst, gq_tableswitch, gq_iload_n0, gq_iload_n1, gq_iload_n2, gq_iload_n3, gq_aload_n0, gq_aload_n1, gq_aload_n2, gq_aload_n3, gq_istore_n0, gq_istore_n1, gq_istore_n2, gq_istore_n3, gq_astore_n0, gq_astore_n1, gq_astore_n2, gq_astore_n3, gq_ifCond_eq, gq_ifCond_ne, gq_ifCond_lt, gq_ifCond_ge, gq_ifCond_gt, gq_ifCond_le, gq_if_icmp_eq, gq_if_icmp_ne, gq_if_icmp_lt, gq_if_icmp_ge, gq_if_icmp_gt, gq_if_icmp_le, tb_0, tb_1, tb_k0, tb_k1, Option.toList_none, Option.toList_some, e_o, e_w, mo_g0, mo_g1, mo_g2, mo_g3, mo_g4, mo_g5, mo_g6, mo_g7, mo_g8, mo_g9, mo_g10, mo_g11, mo_g12, mo_g13, mo_g14, mo_g15, mo_g16, mo_g17, mo_g18, mo_g19, mo_g20, mo_g21, mo_g22, mo_g23, mo_g24, mo_p0, mo_p6, mo_p7, mo_p9, mo_p10, mo_p11, mo_p12, mo_p13, mo_p14, mo_p16, mo_p18, mo_len, md_us, md_u, wC_0, wC_1, wC_2, wC_3, wC_4, wC_5, wC_6, wC_7, wC_ut, wC_usd, wC_u4, wC_u5, Option.isNone_none, Option.isNone_some, Option.isSome_none, Option.isSome_some, fo_sr_1, fo_s1_1, fo_sd_1, la_n_0, la_n_s, mq, List.append_nil, rgn_d, decide_true, decide_false, false_and, and_false]) | (with_reducible refine ab_br_i ?_ ?_ <;> intro q <;> (try simp (disch := omega) only [ab_leI, ab_ltI, ab_eqI, Nat.not_lt, Nat.not_le, n1, nz, Bool.not_eq_false, Bool.not_eq_true, decide_eq_true_eq, decide_eq_false_iff_not, Decidable.not_not] at q)) | ((with_reducible refine mo_gz hM hR ?_); clear hM hR e_o e_w; intro h1 hM hR; have e_o := hM.1; have e_w := hM.2.1) | ((with_reducible refine mo_gw hM hR ?_); clear hM hR e_o e_w; intro h1 hM hR; have e_o := hM.1; have e_w := hM.2.1) | ((with_reducible refine mo_gz hM.upw (hR.up _ (by omega) (by omega)) ?_); clear hM hR e_o e_w; intro h1 hM hR; have e_o := hM.1; have e_w := hM.2.1) | ((with_reducible refine mo_gw hM.up0 (hR.up _ (by omega) (by omega)) ?_); clear hM hR e_o e_w; intro h1 hM hR; have e_o := hM.1; have e_w := hM.2.1))
        all_goals try clear hb_100 hb_60
        exact ih1 _ hM2 hR2
    refine ab_g_v okX12_feed (cut := [60]) 60 _ _ _ _ _ _ _ _ (ab_sq_b okX12_feed [60] 0) ?_
    have hb_0 : ab_b iX12_feed [60] 0 = [(0, .aload_n 0, 1, 0, 0), (1, .iconst 0, 1, 0, 0), (2, .putfield 3, 3, 10, 0), (5, .aload_n 0, 1, 0, 0), (6, .getfield 97, 3, 10, 9), (9, .bipush 20, 2, 0, 0), (11, .iadd, 1, 0, 0), (12, .sipush 400, 3, 0, 0), (15, .if_icmp .le 5, 3, 0, 20), (18, .iconst (-1), 1, 0, 0), (19, .ireturn, 1, 0, 0), (20, .aload_n 0, 1, 0, 0), (21, .getfield 36, 3, 10, 15), (24, .iconst 0, 1, 0, 0), (25, .iload_n 1, 1, 0, 0), (26, .iastore, 1, 0, 0), (27, .aload_n 0, 1, 0, 0), (28, .getfield 36, 3, 10, 15), (31, .iconst 1, 1, 0, 0), (32, .iload_n 2, 1, 0, 0), (33, .iastore, 1, 0, 0), (34, .aload_n 0, 1, 0, 0), (35, .getfield 36, 3, 10, 15), (38, .iconst 2, 1, 0, 0), (39, .iload_n 3, 1, 0, 0), (40, .iastore, 1, 0, 0), (41, .aload_n 0, 1, 0, 0), (42, .getfield 36, 3, 10, 15), (45, .iconst 3, 1, 0, 0), (46, .iload 4, 2, 0, 0), (48, .iastore, 1, 0, 0), (49, .aload_n 0, 1, 0, 0), (50, .getfield 36, 3, 10, 15), (53, .iconst 4, 1, 0, 0), (54, .iload 5, 2, 0, 0), (56, .iastore, 1, 0, 0), (57, .iconst 0, 1, 0, 0), (58, .istore 6, 2, 0, 0), (60, .nop, 0, 0, 0)] := rfl
    have hb_20 : ab_b iX12_feed [60] 20 = [(20, .aload_n 0, 1, 0, 0), (21, .getfield 36, 3, 10, 15), (24, .iconst 0, 1, 0, 0), (25, .iload_n 1, 1, 0, 0), (26, .iastore, 1, 0, 0), (27, .aload_n 0, 1, 0, 0), (28, .getfield 36, 3, 10, 15), (31, .iconst 1, 1, 0, 0), (32, .iload_n 2, 1, 0, 0), (33, .iastore, 1, 0, 0), (34, .aload_n 0, 1, 0, 0), (35, .getfield 36, 3, 10, 15), (38, .iconst 2, 1, 0, 0), (39, .iload_n 3, 1, 0, 0), (40, .iastore, 1, 0, 0), (41, .aload_n 0, 1, 0, 0), (42, .getfield 36, 3, 10, 15), (45, .iconst 3, 1, 0, 0), (46, .iload 4, 2, 0, 0), (48, .iastore, 1, 0, 0), (49, .aload_n 0, 1, 0, 0), (50, .getfield 36, 3, 10, 15), (53, .iconst 4, 1, 0, 0), (54, .iload 5, 2, 0, 0), (56, .iastore, 1, 0, 0), (57, .iconst 0, 1, 0, 0), (58, .istore 6, 2, 0, 0), (60, .nop, 0, 0, 0)] := rfl
    repeat' (first | (simp (disch := omega) only [hb_0, hb_20, mX12_feed, Nat.beq, ab_l0, List.map_cons, List.map_nil, List.length_cons, List.length_nil, List.cons_append, List.nil_append, List.replicate, Nat.reduceAdd, Nat.reduceSub, List.getElem?_cons_zero, List.getElem?_cons_succ, List.getElem?_nil, List.set_cons_zero, List.set_cons_succ, true_and, and_true, ab_cst0, ab_cst1, ab_cst2, ab_cst3, ab_cst4, ab_cst5, ab_up_s, Nat.le_refl, Nat.reduceLT, Nat.reduceLeDiff, Nat.lt_add_one, Nat.zero_le, nz, n1, nI_add, pk_mul, pk_sub, ab_dec1, ab_vin, nI_clamp, ab_m1a, ab_m1b, ab_m1c, ab_m1d, ab_m1e, ab_m1f, ab_up_n, reduceIte, Nat.add_eq_left, Nat.left_eq_add, Nat.add_left_cancel_iff, Nat.reduceEqDiff, not_true_eq_false, not_false_eq_true, ne_eq, or_true, true_or, false_implies, forall_const, if_true, if_false, Nat.reduceMul, Bool.false_eq_true, reduceCtorEq, true_implies, ab_br_t, ab_br_f, ab_br_n, nd_ltT, nd_ltF, nd_leT, nd_leF, nd_eqT, nd_eqF, nM_eq, nM_ltM, nM_leM, Bool.toNat_true, Bool.toNat_false, gq_iconst, gq_bipush, gq_sipush, gq_iload, gq_aload, gq_istore, gq_astore, gq_iinc, gq_iadd, gq_isub, gq_imul, gq_iand, gq_ior, gq_ixor, gq_ishl, gq_ishr, gq_iushr, gq_idiv, gq_irem, gq_ineg, gq_i2l, gq_i2b, gq_dup, gq_dupr, gq_pop, gq_popr, gq_dup2, gq_goto, gq_getfield, gq_putfield, gq_iaload, gq_iastore, gq_baload, gq_ireturn, gq_return_, gq_invokevirtual, gq_invokestatic, gq_invokespecial, gq_nop, gq_new, gq_ldc, gq_ldc_w, gq_newarray, gq_anewarray, gq_getstatic, gq_aaload, gq_aastore, gq_bastore, gq_laload, gq_lastore, gq_lcmp, gq_athrow, gq_arraylength, gq_areturn, gq_if_acmp, gq_lconst, gq_tableswitch, gq_iload_n0, gq_iload_n1, gq_iload_n2, gq_iload_n3, gq_aload_n0, gq_aload_n1, gq_aload_n2, gq_aload_n3, gq_istore_n0, gq_istore_n1, gq_istore_n2, gq_istore_n3, gq_astore_n0, gq_astore_n1, gq_astore_n2, gq_astore_n3, gq_ifCond_eq, gq_ifCond_ne, gq_ifCond_lt, gq_ifCond_ge, gq_ifCond_gt, gq_ifCond_le, gq_if_icmp_eq, gq_if_icmp_ne, gq_if_icmp_lt, gq_if_icmp_ge, gq_if_icmp_gt, gq_if_icmp_le, tb_0, tb_1, tb_k0, tb_k1, Option.toList_none, Option.toList_some, e_o, e_w, mo_g0, mo_g1, mo_g2, mo_g3, mo_g4, mo_g5, mo_g6, mo_g7, mo_g8, mo_g9, mo_g10, mo_g11, mo_g12, mo_g13, mo_g14, mo_g15, mo_g16, mo_g17, mo_g18, mo_g19, mo_g20, mo_g21, mo_g22, mo_g23, mo_g24, mo_p0, mo_p6, mo_p7, mo_p9, mo_p10, mo_p11, mo_p12, mo_p13, mo_p14, mo_p16, mo_p18, mo_len, md_us, md_u, wC_0, wC_1, wC_2, wC_3, wC_4, wC_5, wC_6, wC_7, wC_ut, wC_usd, wC_u4, wC_u5, Option.isNone_none, Option.isNone_some, Option.isSome_none, Option.isSome_some, fo_sr_1, fo_s1_1, fo_sd_1, la_n_0, la_n_s, mq, List.append_nil, rgn_d, decide_true, decide_false, false_and, and_false, hz9, e_5, ab_up_u]) | (with_reducible refine ab_br_i ?_ ?_ <;> intro q <;> (try simp (disch := omega) only [ab_leI, ab_ltI, ab_eqI, Nat.not_lt, Nat.not_le, n1, nz, Bool.not_eq_false, Bool.not_eq_true, decide_eq_true_eq, decide_eq_false_iff_not, Decidable.not_not] at q)) | ((with_reducible refine mo_gz hM hR ?_); clear hM hR e_o e_w; intro h1 hM hR; have e_o := hM.1; have e_w := hM.2.1) | ((with_reducible refine mo_gw hM hR ?_); clear hM hR e_o e_w; intro h1 hM hR; have e_o := hM.1; have e_w := hM.2.1) | ((with_reducible refine mo_gz hM.upw (hR.up _ (by omega) (by omega)) ?_); clear hM hR e_o e_w; intro h1 hM hR; have e_o := hM.1; have e_w := hM.2.1) | ((with_reducible refine mo_gw hM.up0 (hR.up _ (by omega) (by omega)) ?_); clear hM hR e_o e_w; intro h1 hM hR; have e_o := hM.1; have e_w := hM.2.1))
    all_goals try clear hb_0 hb_20
    refine loop 20 0 (by omega) _ ?_ ((hR.up _ (by omega) (by omega)).up _ (by omega) (by omega))
    rw [hg4]
    exact hM.up0.up_r5
  · rw [if_neg hf]
    refine ab_g_v okX12_feed (cut := [60]) 60 _ _ _ _ _ _ _ _ (ab_sq_b okX12_feed [60] 0) ?_
    have hb_0 : ab_b iX12_feed [60] 0 = [(0, .aload_n 0, 1, 0, 0), (1, .iconst 0, 1, 0, 0), (2, .putfield 3, 3, 10, 0), (5, .aload_n 0, 1, 0, 0), (6, .getfield 97, 3, 10, 9), (9, .bipush 20, 2, 0, 0), (11, .iadd, 1, 0, 0), (12, .sipush 400, 3, 0, 0), (15, .if_icmp .le 5, 3, 0, 20), (18, .iconst (-1), 1, 0, 0), (19, .ireturn, 1, 0, 0), (20, .aload_n 0, 1, 0, 0), (21, .getfield 36, 3, 10, 15), (24, .iconst 0, 1, 0, 0), (25, .iload_n 1, 1, 0, 0), (26, .iastore, 1, 0, 0), (27, .aload_n 0, 1, 0, 0), (28, .getfield 36, 3, 10, 15), (31, .iconst 1, 1, 0, 0), (32, .iload_n 2, 1, 0, 0), (33, .iastore, 1, 0, 0), (34, .aload_n 0, 1, 0, 0), (35, .getfield 36, 3, 10, 15), (38, .iconst 2, 1, 0, 0), (39, .iload_n 3, 1, 0, 0), (40, .iastore, 1, 0, 0), (41, .aload_n 0, 1, 0, 0), (42, .getfield 36, 3, 10, 15), (45, .iconst 3, 1, 0, 0), (46, .iload 4, 2, 0, 0), (48, .iastore, 1, 0, 0), (49, .aload_n 0, 1, 0, 0), (50, .getfield 36, 3, 10, 15), (53, .iconst 4, 1, 0, 0), (54, .iload 5, 2, 0, 0), (56, .iastore, 1, 0, 0), (57, .iconst 0, 1, 0, 0), (58, .istore 6, 2, 0, 0), (60, .nop, 0, 0, 0)] := rfl
    have hb_20 : ab_b iX12_feed [60] 20 = [(20, .aload_n 0, 1, 0, 0), (21, .getfield 36, 3, 10, 15), (24, .iconst 0, 1, 0, 0), (25, .iload_n 1, 1, 0, 0), (26, .iastore, 1, 0, 0), (27, .aload_n 0, 1, 0, 0), (28, .getfield 36, 3, 10, 15), (31, .iconst 1, 1, 0, 0), (32, .iload_n 2, 1, 0, 0), (33, .iastore, 1, 0, 0), (34, .aload_n 0, 1, 0, 0), (35, .getfield 36, 3, 10, 15), (38, .iconst 2, 1, 0, 0), (39, .iload_n 3, 1, 0, 0), (40, .iastore, 1, 0, 0), (41, .aload_n 0, 1, 0, 0), (42, .getfield 36, 3, 10, 15), (45, .iconst 3, 1, 0, 0), (46, .iload 4, 2, 0, 0), (48, .iastore, 1, 0, 0), (49, .aload_n 0, 1, 0, 0), (50, .getfield 36, 3, 10, 15), (53, .iconst 4, 1, 0, 0), (54, .iload 5, 2, 0, 0), (56, .iastore, 1, 0, 0), (57, .iconst 0, 1, 0, 0), (58, .istore 6, 2, 0, 0), (60, .nop, 0, 0, 0)] := rfl
    repeat' (first | (simp (disch := omega) only [hb_0, hb_20, mX12_feed, Nat.beq, ab_l0, List.map_cons, List.map_nil, List.length_cons, List.length_nil, List.cons_append, List.nil_append, List.replicate, Nat.reduceAdd, Nat.reduceSub, List.getElem?_cons_zero, List.getElem?_cons_succ, List.getElem?_nil, List.set_cons_zero, List.set_cons_succ, true_and, and_true, ab_cst0, ab_cst1, ab_cst2, ab_cst3, ab_cst4, ab_cst5, ab_up_s, Nat.le_refl, Nat.reduceLT, Nat.reduceLeDiff, Nat.lt_add_one, Nat.zero_le, nz, n1, nI_add, pk_mul, pk_sub, ab_dec1, ab_vin, nI_clamp, ab_m1a, ab_m1b, ab_m1c, ab_m1d, ab_m1e, ab_m1f, ab_up_n, reduceIte, Nat.add_eq_left, Nat.left_eq_add, Nat.add_left_cancel_iff, Nat.reduceEqDiff, not_true_eq_false, not_false_eq_true, ne_eq, or_true, true_or, false_implies, forall_const, if_true, if_false, Nat.reduceMul, Bool.false_eq_true, reduceCtorEq, true_implies, ab_br_t, ab_br_f, ab_br_n, nd_ltT, nd_ltF, nd_leT, nd_leF, nd_eqT, nd_eqF, nM_eq, nM_ltM, nM_leM, Bool.toNat_true, Bool.toNat_false, gq_iconst, gq_bipush, gq_sipush, gq_iload, gq_aload, gq_istore, gq_astore, gq_iinc, gq_iadd, gq_isub, gq_imul, gq_iand, gq_ior, gq_ixor, gq_ishl, gq_ishr, gq_iushr, gq_idiv, gq_irem, gq_ineg, gq_i2l, gq_i2b, gq_dup, gq_dupr, gq_pop, gq_popr, gq_dup2, gq_goto, gq_getfield, gq_putfield, gq_iaload, gq_iastore, gq_baload, gq_ireturn, gq_return_, gq_invokevirtual, gq_invokestatic, gq_invokespecial, gq_nop, gq_new, gq_ldc, gq_ldc_w, gq_newarray, gq_anewarray, gq_getstatic, gq_aaload, gq_aastore, gq_bastore, gq_laload, gq_lastore, gq_lcmp, gq_athrow, gq_arraylength, gq_areturn, gq_if_acmp, gq_lconst, gq_tableswitch, gq_iload_n0, gq_iload_n1, gq_iload_n2, gq_iload_n3, gq_aload_n0, gq_aload_n1, gq_aload_n2, gq_aload_n3, gq_istore_n0, gq_istore_n1, gq_istore_n2, gq_istore_n3, gq_astore_n0, gq_astore_n1, gq_astore_n2, gq_astore_n3, gq_ifCond_eq, gq_ifCond_ne, gq_ifCond_lt, gq_ifCond_ge, gq_ifCond_gt, gq_ifCond_le, gq_if_icmp_eq, gq_if_icmp_ne, gq_if_icmp_lt, gq_if_icmp_ge, gq_if_icmp_gt, gq_if_icmp_le, tb_0, tb_1, tb_k0, tb_k1, Option.toList_none, Option.toList_some, e_o, e_w, mo_g0, mo_g1, mo_g2, mo_g3, mo_g4, mo_g5, mo_g6, mo_g7, mo_g8, mo_g9, mo_g10, mo_g11, mo_g12, mo_g13, mo_g14, mo_g15, mo_g16, mo_g17, mo_g18, mo_g19, mo_g20, mo_g21, mo_g22, mo_g23, mo_g24, mo_p0, mo_p6, mo_p7, mo_p9, mo_p10, mo_p11, mo_p12, mo_p13, mo_p14, mo_p16, mo_p18, mo_len, md_us, md_u, wC_0, wC_1, wC_2, wC_3, wC_4, wC_5, wC_6, wC_7, wC_ut, wC_usd, wC_u4, wC_u5, Option.isNone_none, Option.isNone_some, Option.isSome_none, Option.isSome_some, fo_sr_1, fo_s1_1, fo_sd_1, la_n_0, la_n_s, mq, List.append_nil, rgn_d, decide_true, decide_false, false_and, and_false, hz9, e_5]) | (with_reducible refine ab_br_i ?_ ?_ <;> intro q <;> (try simp (disch := omega) only [ab_leI, ab_ltI, ab_eqI, Nat.not_lt, Nat.not_le, n1, nz, Bool.not_eq_false, Bool.not_eq_true, decide_eq_true_eq, decide_eq_false_iff_not, Decidable.not_not] at q)) | ((with_reducible refine mo_gz hM hR ?_); clear hM hR e_o e_w; intro h1 hM hR; have e_o := hM.1; have e_w := hM.2.1) | ((with_reducible refine mo_gw hM hR ?_); clear hM hR e_o e_w; intro h1 hM hR; have e_o := hM.1; have e_w := hM.2.1) | ((with_reducible refine mo_gz hM.upw (hR.up _ (by omega) (by omega)) ?_); clear hM hR e_o e_w; intro h1 hM hR; have e_o := hM.1; have e_w := hM.2.1) | ((with_reducible refine mo_gw hM.up0 (hR.up _ (by omega) (by omega)) ?_); clear hM hR e_o e_w; intro h1 hM hR; have e_o := hM.1; have e_w := hM.2.1))
    all_goals try clear hb_0 hb_20
    exact mdr0 hd hM.up0 (hR.up _ (by omega) (by omega)) rfl
end MO
