/-! ===== a law's lines are well formed ===== -/
def lok (W : lw) : Prop := W.1 ≤ 13 ∧ 1 ≤ W.1 ∧ W.2.1 ≤ 400 ∧ wb W ∧ ∀ i, i + 1 < W.1 → W.2.2 1 i ≤ 2 ∧ W.2.2 2 i ≤ 100 ∧ W.2.2 3 i ≤ W.2.2 4 i ∧ W.2.2 4 i ≤ W.2.1 ∧ (W.2.2 1 i = 2 → W.2.2 2 i = 1) ∧ la_wf (W.2.2 5) (W.2.2 3 i) (W.2.2 4 i - W.2.2 3 i)
theorem lok.ok {W : lw} (h : lok W) : la_ok W := by
  obtain ⟨h1, h2, h3, h4, h5⟩ := h
  refine ⟨h1, h3, fun i hi => ?_⟩
  obtain ⟨a1, a2, a3, a4, a5, a6⟩ := h5 i hi
  exact ⟨a1, a2, a3, by omega, h4, a6⟩
theorem la_wf_c {cd cd' : Nat → Nat} {b n : Nat} (h : ∀ i, i < n → cd (b + i) = cd' (b + i)) (hw : la_wf cd b n) : la_wf cd' b n := by
  have e : ∀ k, k ≤ n → tyN cd b k = tyN cd' b k := fun k hk => by
    rw [← tyF_N, ← tyF_N]
    exact tyF_c (fun i hi => h i (by omega))
  refine ⟨fun k hk => ?_, ?_⟩
  · rw [← e k hk]; exact hw.1 k hk
  · rw [← e n (Nat.le_refl _)]; exact hw.2
theorem addL_e {W : lw} {n kd am b : Nat} (hw : W.1 = n + 1) : addL W kd am b = (n + 2, W.2.1, fun j i => if i = n then (if j = 1 then kd else if j = 2 then am else if j = 3 then b else if j = 4 then W.2.1 else W.2.2 j i) else W.2.2 j i) := by
  unfold addL
  rw [hw]
theorem addL_ok {W W1 : lw} {n kd am : Nat} (hW : lok W) (hw : W.1 = n + 1) (hn : n < 12) (e1 : W1.1 = W.1) (hsz : W.2.1 ≤ W1.2.1) (h4 : W1.2.1 ≤ 400) (hrow : ∀ j i, (j ≠ 5 ∨ i < W.2.1) → W1.2.2 j i = W.2.2 j i) (hb : wb W1) (hkd : kd ≤ 2) (ham : am ≤ 100) (h2 : kd = 2 → am = 1) (hwf : la_wf (W1.2.2 5) W.2.1 (W1.2.1 - W.2.1)) : lok (addL W1 kd am W.2.1) ∧ (addL W1 kd am W.2.1).1 = n + 2 ∧ (addL W1 kd am W.2.1).2.1 = W1.2.1 := by
  rw [addL_e (e1.trans hw)]
  obtain ⟨a1, a2, a3, a4, a5⟩ := hW
  have r5 : ∀ i, (if i = n then (if (5 : Nat) = 1 then kd else if (5 : Nat) = 2 then am else if (5 : Nat) = 3 then W.2.1 else if (5 : Nat) = 4 then W1.2.1 else W1.2.2 5 i) else W1.2.2 5 i) = W1.2.2 5 i := fun i => by simp
  refine ⟨⟨by show n + 2 ≤ 13; omega, by show 1 ≤ n + 2; omega, h4, fun k => ?_, fun i hi => ?_⟩, rfl, rfl⟩
  · show (if k = n then _ else _) < 1016
    rw [r5]; exact hb k
  · have hi : i + 1 < n + 2 := hi
    dsimp only
    simp only [r5]
    by_cases q : i = n
    · subst q
      simp only [if_true]
      exact ⟨hkd, ham, hsz, Nat.le_refl _, h2, hwf⟩
    · simp only [if_neg q]
      obtain ⟨b1, b2, b3, b4, b5, b6⟩ := a5 i (by omega)
      rw [hrow 1 i (by omega), hrow 2 i (by omega), hrow 3 i (by omega), hrow 4 i (by omega)]
      exact ⟨b1, b2, b3, by omega, b5, la_wf_c (fun k hk => (hrow 5 _ (Or.inr (by omega))).symm) b6⟩
theorem ext_wf {W W1 : lw} (h : ext W W1 true 17) : la_wf (W1.2.2 5) W.2.1 (W1.2.1 - W.2.1) := by
  obtain ⟨h1, h2, h3, h4⟩ := h
  refine ⟨fun k hk => ?_, Or.inr ?_⟩
  · obtain ⟨T, a1, a2⟩ := (h4 []).2 k hk
    exact ⟨T, by rw [← tyF_N]; exact a1, by simp at a2; omega⟩
  · rw [← tyF_N]; exact (h4 []).1
theorem rdW2_ok {K : Tk} (hK : tk_ok K) {W : lw} {n kd am b : Nat} (hW : lok W) (hw : W.1 = n + 1) (hn : n < 12) (hkd : kd ≤ 2) (ham : am ≤ 100) (h2 : kd = 2 → am = 1) (hb : b ≤ K.1) (hsz : W.2.1 < b) : (rdW2 K W kd am b).1 ≤ K.1 ∧ ∀ W1, (rdW2 K W kd am b).2 = some W1 → lok W1 ∧ W1.1 = n + 2 ∧ W1.2.1 ≤ (rdW2 K W kd am b).1 := by
  have h4 := hK.1
  unfold rdW2
  by_cases q : K.2.1 b = 25
  · rw [if_pos q]
    have hlt := tk_lt hK hb (by omega)
    obtain ⟨g1, g2⟩ := rgo_rcd hK 6 W (b + 1) hlt
    cases hx : rcd K 6 W (b + 1) with
    | mk c o =>
      rw [hx] at g1 g2
      cases o with
      | none => exact ⟨g1, fun W1 h => by cases h⟩
      | some W1 =>
        obtain ⟨g3, g4, g5, g6⟩ := g2 W1 rfl
        dsimp only at g1 g3 g4 ⊢
        refine ⟨g1, fun W2 h => ?_⟩
        cases h
        have hx2 := addL_ok (kd := kd) (am := am) hW hw hn g5.1 g5.2.1 (by omega) g5.2.2.1 (g6 hW.2.2.2.1) hkd ham h2 (ext_wf g5)
        exact ⟨hx2.1, hx2.2.1, by rw [hx2.2.2]; omega⟩
  · rw [if_neg q]
    refine ⟨hb, fun W2 h => ?_⟩
    cases h
    have hx2 := addL_ok (W1 := W) (kd := kd) (am := am) hW hw hn rfl (Nat.le_refl _) hW.2.2.1 (fun _ _ _ => rfl) hW.2.2.2.1 hkd ham h2 ⟨fun k hk => ⟨[], by rw [show k = 0 by omega]; rfl, by simp⟩, Or.inl (by omega)⟩
    exact ⟨hx2.1, hx2.2.1, by rw [hx2.2.2]; dsimp only; omega⟩
theorem rdW_ok {K : Tk} (hK : tk_ok K) {W : lw} {n a : Nat} (hW : lok W) (hw : W.1 = n + 1) (hn : n < 12) (ha : a ≤ K.1) (hsz : W.2.1 ≤ a) : (rdW K W a).1 ≤ K.1 ∧ ∀ W1, (rdW K W a).2 = some W1 → lok W1 ∧ W1.1 = n + 2 ∧ W1.2.1 ≤ (rdW K W a).1 := by
  have hnb := nbr_le K (a + 1) 0 101
  unfold rdW
  by_cases q : K.2.1 a = 22
  · rw [if_pos q]
    have hlt := tk_lt hK ha (by omega)
    by_cases q2 : nbr K (a + 1) 0 101 = 0
    · rw [if_pos q2]
      exact ⟨hlt, fun W1 h => by cases h⟩
    · rw [if_neg q2]
      exact rdW2_ok hK hW hw hn (by omega) (by omega) (by omega) (tk_lt hK hlt (nbr_k q2)) (by omega)
  · rw [if_neg q]
    by_cases q1 : K.2.1 a = 23
    · rw [if_pos q1]
      have hlt := tk_lt hK ha (by omega)
      by_cases q2 : nbr K (a + 1) 0 101 = 0
      · rw [if_pos q2]
        exact ⟨hlt, fun W1 h => by cases h⟩
      · rw [if_neg q2]
        exact rdW2_ok hK hW hw hn (by omega) (by omega) (by omega) (tk_lt hK hlt (nbr_k q2)) (by omega)
    · rw [if_neg q1]
      by_cases q3 : K.2.1 a = 24
      · rw [if_pos q3]
        have hlt := tk_lt hK ha (by omega)
        exact rdW2_ok hK hW hw hn (by omega) (by omega) (by omega) hlt (by omega)
      · rw [if_neg q3]
        exact ⟨ha, fun W1 h => by cases h⟩
/-! a fortress's lines keep bounds -/
theorem rdF_ok {K : Tk} (hK : tk_ok K) (hz : tk_z K) {S : fs} {a : Nat} (hS : fo_ok S) (ha : a ≤ K.1) : (rdF K S a).1 ≤ K.1 ∧ ∀ S1, (rdF K S a).2 = some S1 → fo_ok S1 := by
  have hn0 := hS.1
  have hn1 := hS.2.1
  unfold rdF
  by_cases q0 : K.2.1 a = 10
  · rw [if_pos q0]
    by_cases q1 : S.1 0 < 6
    · rw [if_pos q1]
      unfold rdP
      rw [if_pos q0]
      have a1 := tk_lt hK ha (by omega)
      by_cases q2 : K.2.1 (a + 1) = 14
      · rw [if_pos q2]
        have a2 := tk_lt hK a1 (show K.2.1 (a + 1) ≠ 0 by omega)
        have hb := nbr_le K (a + 2) 0 100
        by_cases q3 : nbr K (a + 2) 0 100 = 0
        · rw [if_pos q3]; exact ⟨a2, fun _ h => by cases h⟩
        · rw [if_neg q3]
          have a3 := tk_lt hK a2 (nbr_k q3)
          by_cases q4 : K.2.1 (a + 3) = 15
          · rw [if_pos q4]
            have a4 := tk_lt hK a3 (show K.2.1 (a + 3) ≠ 0 by omega)
            have hm := mks_le hK (a + 4) 63
            by_cases q5 : mks K (a + 4) 63 = 0
            · rw [if_pos q5]; exact ⟨a4, fun _ h => by cases h⟩
            · rw [if_neg q5]
              exact ⟨tk_lt hK a4 (mks_k hK a4 q5 hz), fun _ h => by cases h; exact addP_ok hS q1 (by omega) (by omega)⟩
          · rw [if_neg q4]
            exact ⟨a3, fun _ h => by cases h; exact addP_ok hS q1 (by omega) (by omega)⟩
      · rw [if_neg q2]; exact ⟨a1, fun _ h => by cases h⟩
    · rw [if_neg q1]; exact ⟨ha, fun _ h => by cases h⟩
  · rw [if_neg q0]
    by_cases q1 : K.2.1 a = 11
    · rw [if_pos q1]
      by_cases q2 : S.1 1 < 6
      · rw [if_pos q2]
        have s3 : ∀ sl ch me b, sl ≤ 100 → ch ≤ 9 → me < 64 → b ≤ K.1 → (rdS3 K S sl ch me b).1 ≤ K.1 ∧ ∀ S1, (rdS3 K S sl ch me b).2 = some S1 → fo_ok S1 := by
          intro sl ch me b h1 h2 h3 hb
          unfold rdS3
          by_cases z : K.2.1 b = 19
          · rw [if_pos z]; exact ⟨tk_lt hK hb (by omega), fun _ h => by cases h; exact addS_ok hS q2 h1 h2 h3 true⟩
          · rw [if_neg z]; exact ⟨hb, fun _ h => by cases h; exact addS_ok hS q2 h1 h2 h3 false⟩
        have s2 : ∀ sl ch b, sl ≤ 100 → ch ≤ 9 → b ≤ K.1 → (rdS2 K S sl ch b).1 ≤ K.1 ∧ ∀ S1, (rdS2 K S sl ch b).2 = some S1 → fo_ok S1 := by
          intro sl ch b h1 h2 hb
          unfold rdS2
          by_cases z : K.2.1 b = 17
          · rw [if_pos z]
            have b1 := tk_lt hK hb (by omega)
            have hnb := nbr_le K (b + 1) 0 (S.1 0)
            by_cases z2 : nbr K (b + 1) 0 (S.1 0) = 0
            · rw [if_pos z2]; exact ⟨b1, fun _ h => by cases h⟩
            · rw [if_neg z2]
              exact s3 _ _ _ _ h1 h2 (two6 (by omega)) (tk_lt hK b1 (nbr_k z2))
          · rw [if_neg z]; exact s3 _ _ _ _ h1 h2 (by omega) hb
        unfold rdS
        rw [if_pos q1]
        have a1 := tk_lt hK ha (by omega)
        by_cases q3 : K.2.1 (a + 1) = 12
        · rw [if_pos q3]
          have a2 := tk_lt hK a1 (show K.2.1 (a + 1) ≠ 0 by omega)
          have hb := nbr_le K (a + 2) 0 101
          by_cases q4 : nbr K (a + 2) 0 101 = 0
          · rw [if_pos q4]; exact ⟨a2, fun _ h => by cases h⟩
          · rw [if_neg q4]
            have a3 := tk_lt hK a2 (nbr_k q4)
            by_cases q5 : K.2.1 (a + 3) = 13
            · rw [if_pos q5]
              have a4 := tk_lt hK a3 (show K.2.1 (a + 3) ≠ 0 by omega)
              have hb2 := nbr_le K (a + 4) 0 10
              by_cases q6 : nbr K (a + 4) 0 10 = 0
              · rw [if_pos q6]; exact ⟨a4, fun _ h => by cases h⟩
              · rw [if_neg q6]
                exact s2 _ _ _ (by omega) (by omega) (tk_lt hK a4 (nbr_k q6))
            · rw [if_neg q5]
              exact s2 _ _ _ (by omega) (by omega) a3
        · rw [if_neg q3]; exact ⟨a1, fun _ h => by cases h⟩
      · rw [if_neg q2]; exact ⟨ha, fun _ h => by cases h⟩
    · rw [if_neg q1]
      by_cases q2 : K.2.1 a = 16
      · rw [if_pos q2]
        have a1 := tk_lt hK ha (by omega)
        have b1 := nbr_le K (a + 1) 0 (S.1 1)
        have b2 := nbr_le K (a + 1 + 1) 0 (S.1 0)
        unfold rdT
        by_cases q3 : nbr K (a + 1) 0 (S.1 1) = 0
        · rw [if_pos q3]; exact ⟨a1, fun _ h => by cases h⟩
        · rw [if_neg q3]
          have a2 := tk_lt hK a1 (nbr_k q3)
          by_cases q4 : nbr K (a + 1 + 1) 0 (S.1 0) = 0
          · rw [if_pos q4]; exact ⟨a2, fun _ h => by cases h⟩
          · rw [if_neg q4]
            have a3 := tk_lt hK a2 (nbr_k q4)
            have hm := mks_le hK (a + 1 + 2) (S.2.1 9 (nbr K (a + 1 + 1) 0 (S.1 0) - 1))
            by_cases q5 : mks K (a + 1 + 2) (S.2.1 9 (nbr K (a + 1 + 1) 0 (S.1 0) - 1)) = 0
            · rw [if_pos q5]; exact ⟨a3, fun _ h => by cases h⟩
            · rw [if_neg q5]
              refine ⟨tk_lt hK a3 (mks_k hK a3 q5 hz), fun _ h => ?_⟩
              cases h
              exact fo_ok_told hS _ _ (nb_lt (hS.2.2.2.2.2.2.2.2.2.2.2.2.2.2.1 _) (by omega))
      · rw [if_neg q2]
        by_cases q3 : K.2.1 a = 20
        · rw [if_pos q3]
          have a1 := tk_lt hK ha (by omega)
          have b1 := nbr_le K (a + 1) 1 7
          by_cases q4 : nbr K (a + 1) 1 7 = 0
          · rw [if_pos q4]; exact ⟨a1, fun _ h => by cases h⟩
          · rw [if_neg q4]
            have b2 := nbr_lo q4
            refine ⟨tk_lt hK a1 (nbr_k q4), fun _ h => ?_⟩
            cases h
            exact fo_ok_n3 hS (by omega) (by omega)
        · rw [if_neg q3]
          by_cases q4 : K.2.1 a = 21
          · rw [if_pos q4]
            have a1 := tk_lt hK ha (by omega)
            have b1 := nbr_le K (a + 1) 0 1000
            by_cases q5 : nbr K (a + 1) 0 1000 = 0
            · rw [if_pos q5]; exact ⟨a1, fun _ h => by cases h⟩
            · rw [if_neg q5]
              refine ⟨tk_lt hK a1 (nbr_k q5), fun _ h => ?_⟩
              cases h
              exact fo_ok_n4 hS (by omega)
          · rw [if_neg q4]; exact ⟨ha, fun _ h => by cases h⟩
section LR
variable {h : ab_H} {nx T R : Nat} {K : Tk} {Rr : Nat → Int32}
/-- a line's kind (0: none; v + 1: v) -/
def lkd (K : Tk) (a : Nat) : Nat := if K.2.1 a = 22 then 1 else if K.2.1 a = 23 then 2 else if K.2.1 a = 24 then 3 else 0
theorem c_takeLineKind {a : Nat} {h1 : ab_H} (hX : tx_g h1 T K a) (hK : tk_ok K) (ha : a ≤ K.1) : ab_Con mX5_takeLineKind [.ref T] nx h1 (tt_po T nx h1 K (la_n (lkd K a)) (adv a (lkd K a))) := by
  refine ab_Con.of (by decide) rfl (Nat.le_of_ble_eq_true rfl) ?_
  obtain ⟨sz, t0, -⟩ := hX.nx
  refine ab_g_v okX5_takeLineKind (cut := [1]) 20 _ _ _ _ _ _ _ _ (ab_sq_b okX5_takeLineKind [1] 0) ?_
  have hb_s : ab_b iX5_takeLineKind [1] 0 = [(0, .aload_n 0, 1, 0, 0), (1, .nop, 0, 0, 0)] := rfl
  repeat' (first | (simp (disch := omega) only [hb_s, mX5_takeLineKind, Nat.beq, ab_l0, List.map_cons, List.map_nil, List.length_cons, List.length_nil, List.cons_append, List.nil_append, List.replicate, Nat.reduceAdd, Nat.reduceSub, List.getElem?_cons_zero, List.getElem?_cons_succ, List.getElem?_nil, List.set_cons_zero, List.set_cons_succ, true_and, and_true, ab_cst0, ab_cst1, ab_cst2, ab_cst3, ab_cst4, ab_cst5, ab_up_s, Nat.le_refl, Nat.reduceLT, Nat.reduceLeDiff, Nat.lt_add_one, Nat.zero_le, nz, n1, nI_add, pk_mul, pk_sub, ab_dec1, ab_vin, nI_clamp, ab_m1a, ab_m1b, ab_m1c, ab_m1d, ab_m1e, ab_m1f, ab_up_n, reduceIte, Nat.add_eq_left, Nat.left_eq_add, Nat.add_left_cancel_iff, Nat.reduceEqDiff, not_true_eq_false, not_false_eq_true, ne_eq, or_true, true_or, false_implies, forall_const, if_true, if_false, Nat.reduceMul, Bool.false_eq_true, reduceCtorEq, true_implies, ab_br_t, ab_br_f, ab_br_n, nd_ltT, nd_ltF, nd_leT, nd_leF, nd_eqT, nd_eqF, nM_eq, nM_ltM, nM_leM, Bool.toNat_true, Bool.toNat_false, gq_iconst, gq_bipush, gq_sipush, gq_iload, gq_aload, gq_istore, gq_astore, gq_iinc, gq_iadd, gq_isub, gq_imul, gq_iand, gq_ior, gq_ixor, gq_ishl, gq_ishr, gq_iushr, gq_idiv, gq_irem, gq_ineg, gq_i2l, gq_i2b, gq_dup, gq_dupr, gq_pop, gq_popr, gq_dup2, gq_goto, gq_getfield, gq_putfield, gq_iaload, gq_iastore, gq_baload, gq_ireturn, gq_return_, gq_invokevirtual, gq_invokestatic, gq_invokespecial, gq_nop, gq_new, gq_ldc, gq_ldc_w, gq_newarray, gq_anewarray, gq_getstatic, gq_aaload, gq_aastore, gq_bastore, gq_laload, gq_lastore, gq_lcmp, gq_athrow, gq_arraylength, gq_areturn, gq_if_acmp, gq_lconst, gq_tableswitch, gq_iload_n0, gq_iload_n1, gq_iload_n2, gq_iload_n3, gq_aload_n0, gq_aload_n1, gq_aload_n2, gq_aload_n3, gq_istore_n0, gq_istore_n1, gq_istore_n2, gq_istore_n3, gq_astore_n0, gq_astore_n1, gq_astore_n2, gq_astore_n3, gq_ifCond_eq, gq_ifCond_ne, gq_ifCond_lt, gq_ifCond_ge, gq_ifCond_gt, gq_ifCond_le, gq_if_icmp_eq, gq_if_icmp_ne, gq_if_icmp_lt, gq_if_icmp_ge, gq_if_icmp_gt, gq_if_icmp_le]) | (with_reducible refine ab_br_i ?_ ?_ <;> intro q <;> (try simp (disch := omega) only [ab_leI, ab_ltI, ab_eqI, Nat.not_lt, Nat.not_le, n1, nz] at q)))
  all_goals try clear hb_s
  refine bv_gsK 22 okX5_takeLineKind rfl (by omega) gK_X5_50 ?_
  by_cases q0 : K.2.1 a = 22
  · refine bv_v (c_takeY hX hK ha (by omega) (by omega) q0) okX5_takeLineKind rfl lX5_38 (t0) rfl rfl rfl ?_
    rintro _ _ h2 ⟨rfl, rfl, hg2, hq2⟩
    show ab_V _ _ 0 0 7 _ [_] _ _
    have e : lkd K a = 1 := if_pos q0
    rw [e]
    refine ab_g_v okX5_takeLineKind (cut := []) 20 _ _ _ _ _ _ _ _ (ab_sq_b okX5_takeLineKind [] 7) ?_
    have hb_s : ab_b iX5_takeLineKind [] 7 = [(7, .ifCond .eq 5, 3, 0, 12), (10, .iconst 0, 1, 0, 0), (11, .ireturn, 1, 0, 0), (12, .aload_n 0, 1, 0, 0), (13, .getstatic 53, 3, 0, 0), (16, .invokevirtual 38, 3, 0, 0), (19, .ifCond .eq 5, 3, 0, 24), (22, .iconst 1, 1, 0, 0), (23, .ireturn, 1, 0, 0), (24, .aload_n 0, 1, 0, 0), (25, .getstatic 56, 3, 0, 0), (28, .invokevirtual 38, 3, 0, 0), (31, .ifCond .eq 7, 3, 0, 38), (34, .iconst 2, 1, 0, 0), (35, .goto 4, 3, 0, 39), (38, .iconst (-1), 1, 0, 0), (39, .ireturn, 1, 0, 0)] := rfl
    have hb_12 : ab_b iX5_takeLineKind [] 12 = [(12, .aload_n 0, 1, 0, 0), (13, .getstatic 53, 3, 0, 0), (16, .invokevirtual 38, 3, 0, 0), (19, .ifCond .eq 5, 3, 0, 24), (22, .iconst 1, 1, 0, 0), (23, .ireturn, 1, 0, 0), (24, .aload_n 0, 1, 0, 0), (25, .getstatic 56, 3, 0, 0), (28, .invokevirtual 38, 3, 0, 0), (31, .ifCond .eq 7, 3, 0, 38), (34, .iconst 2, 1, 0, 0), (35, .goto 4, 3, 0, 39), (38, .iconst (-1), 1, 0, 0), (39, .ireturn, 1, 0, 0)] := rfl
    repeat' (first | (simp (disch := omega) only [hb_s, hb_12, mX5_takeLineKind, Nat.beq, ab_l0, List.map_cons, List.map_nil, List.length_cons, List.length_nil, List.cons_append, List.nil_append, List.replicate, Nat.reduceAdd, Nat.reduceSub, List.getElem?_cons_zero, List.getElem?_cons_succ, List.getElem?_nil, List.set_cons_zero, List.set_cons_succ, true_and, and_true, ab_cst0, ab_cst1, ab_cst2, ab_cst3, ab_cst4, ab_cst5, ab_up_s, Nat.le_refl, Nat.reduceLT, Nat.reduceLeDiff, Nat.lt_add_one, Nat.zero_le, nz, n1, nI_add, pk_mul, pk_sub, ab_dec1, ab_vin, nI_clamp, ab_m1a, ab_m1b, ab_m1c, ab_m1d, ab_m1e, ab_m1f, ab_up_n, reduceIte, Nat.add_eq_left, Nat.left_eq_add, Nat.add_left_cancel_iff, Nat.reduceEqDiff, not_true_eq_false, not_false_eq_true, ne_eq, or_true, true_or, false_implies, forall_const, if_true, if_false, Nat.reduceMul, Bool.false_eq_true, reduceCtorEq, true_implies, ab_br_t, ab_br_f, ab_br_n, nd_ltT, nd_ltF, nd_leT, nd_leF, nd_eqT, nd_eqF, nM_eq, nM_ltM, nM_leM, Bool.toNat_true, Bool.toNat_false, gq_iconst, gq_bipush, gq_sipush, gq_iload, gq_aload, gq_istore, gq_astore, gq_iinc, gq_iadd, gq_isub, gq_imul, gq_iand, gq_ior, gq_ixor, gq_ishl, gq_ishr, gq_iushr, gq_idiv, gq_irem, gq_ineg, gq_i2l, gq_i2b, gq_dup, gq_dupr, gq_pop, gq_popr, gq_dup2, gq_goto, gq_getfield, gq_putfield, gq_iaload, gq_iastore, gq_baload, gq_ireturn, gq_return_, gq_invokevirtual, gq_invokestatic, gq_invokespecial, gq_nop, gq_new, gq_ldc, gq_ldc_w, gq_newarray, gq_anewarray, gq_getstatic, gq_aaload, gq_aastore, gq_bastore, gq_laload, gq_lastore, gq_lcmp, gq_athrow, gq_arraylength, gq_areturn, gq_if_acmp, gq_lconst, gq_tableswitch, gq_iload_n0, gq_iload_n1, gq_iload_n2, gq_iload_n3, gq_aload_n0, gq_aload_n1, gq_aload_n2, gq_aload_n3, gq_istore_n0, gq_istore_n1, gq_istore_n2, gq_istore_n3, gq_astore_n0, gq_astore_n1, gq_astore_n2, gq_astore_n3, gq_ifCond_eq, gq_ifCond_ne, gq_ifCond_lt, gq_ifCond_ge, gq_ifCond_gt, gq_ifCond_le, gq_if_icmp_eq, gq_if_icmp_ne, gq_if_icmp_lt, gq_if_icmp_ge, gq_if_icmp_gt, gq_if_icmp_le]) | (with_reducible refine ab_br_i ?_ ?_ <;> intro q <;> (try simp (disch := omega) only [ab_leI, ab_ltI, ab_eqI, Nat.not_lt, Nat.not_le, n1, nz] at q)))
    all_goals try clear hb_s hb_12
    exact ⟨rfl, rfl, hg2, hq2⟩
  · refine bv_v (c_takeN hX hK ha (by omega) (by omega) q0) okX5_takeLineKind rfl lX5_38 (t0) rfl rfl rfl ?_
    rintro _ _ h2 ⟨rfl, rfl, hg2, hq2⟩
    show ab_V _ _ 0 0 7 _ [_] _ _
    obtain ⟨sz, t0, -⟩ := hg2.nx
    refine ab_g_v okX5_takeLineKind (cut := [13]) 20 _ _ _ _ _ _ _ _ (ab_sq_b okX5_takeLineKind [13] 7) ?_
    have hb_s : ab_b iX5_takeLineKind [13] 7 = [(7, .ifCond .eq 5, 3, 0, 12), (10, .iconst 0, 1, 0, 0), (11, .ireturn, 1, 0, 0), (12, .aload_n 0, 1, 0, 0), (13, .nop, 0, 0, 0)] := rfl
    have hb_12 : ab_b iX5_takeLineKind [13] 12 = [(12, .aload_n 0, 1, 0, 0), (13, .nop, 0, 0, 0)] := rfl
    repeat' (first | (simp (disch := omega) only [hb_s, hb_12, mX5_takeLineKind, Nat.beq, ab_l0, List.map_cons, List.map_nil, List.length_cons, List.length_nil, List.cons_append, List.nil_append, List.replicate, Nat.reduceAdd, Nat.reduceSub, List.getElem?_cons_zero, List.getElem?_cons_succ, List.getElem?_nil, List.set_cons_zero, List.set_cons_succ, true_and, and_true, ab_cst0, ab_cst1, ab_cst2, ab_cst3, ab_cst4, ab_cst5, ab_up_s, Nat.le_refl, Nat.reduceLT, Nat.reduceLeDiff, Nat.lt_add_one, Nat.zero_le, nz, n1, nI_add, pk_mul, pk_sub, ab_dec1, ab_vin, nI_clamp, ab_m1a, ab_m1b, ab_m1c, ab_m1d, ab_m1e, ab_m1f, ab_up_n, reduceIte, Nat.add_eq_left, Nat.left_eq_add, Nat.add_left_cancel_iff, Nat.reduceEqDiff, not_true_eq_false, not_false_eq_true, ne_eq, or_true, true_or, false_implies, forall_const, if_true, if_false, Nat.reduceMul, Bool.false_eq_true, reduceCtorEq, true_implies, ab_br_t, ab_br_f, ab_br_n, nd_ltT, nd_ltF, nd_leT, nd_leF, nd_eqT, nd_eqF, nM_eq, nM_ltM, nM_leM, Bool.toNat_true, Bool.toNat_false, gq_iconst, gq_bipush, gq_sipush, gq_iload, gq_aload, gq_istore, gq_astore, gq_iinc, gq_iadd, gq_isub, gq_imul, gq_iand, gq_ior, gq_ixor, gq_ishl, gq_ishr, gq_iushr, gq_idiv, gq_irem, gq_ineg, gq_i2l, gq_i2b, gq_dup, gq_dupr, gq_pop, gq_popr, gq_dup2, gq_goto, gq_getfield, gq_putfield, gq_iaload, gq_iastore, gq_baload, gq_ireturn, gq_return_, gq_invokevirtual, gq_invokestatic, gq_invokespecial, gq_nop, gq_new, gq_ldc, gq_ldc_w, gq_newarray, gq_anewarray, gq_getstatic, gq_aaload, gq_aastore, gq_bastore, gq_laload, gq_lastore, gq_lcmp, gq_athrow, gq_arraylength, gq_areturn, gq_if_acmp, gq_lconst, gq_tableswitch, gq_iload_n0, gq_iload_n1, gq_iload_n2, gq_iload_n3, gq_aload_n0, gq_aload_n1, gq_aload_n2, gq_aload_n3, gq_istore_n0, gq_istore_n1, gq_istore_n2, gq_istore_n3, gq_astore_n0, gq_astore_n1, gq_astore_n2, gq_astore_n3, gq_ifCond_eq, gq_ifCond_ne, gq_ifCond_lt, gq_ifCond_ge, gq_ifCond_gt, gq_ifCond_le, gq_if_icmp_eq, gq_if_icmp_ne, gq_if_icmp_lt, gq_if_icmp_ge, gq_if_icmp_gt, gq_if_icmp_le]) | (with_reducible refine ab_br_i ?_ ?_ <;> intro q <;> (try simp (disch := omega) only [ab_leI, ab_ltI, ab_eqI, Nat.not_lt, Nat.not_le, n1, nz] at q)))
    all_goals try clear hb_s hb_12
    refine bv_gsK 23 okX5_takeLineKind rfl (by omega) gK_X5_53 ?_
    by_cases q1 : K.2.1 a = 23
    · refine bv_v (c_takeY hg2 hK ha (by omega) (by omega) q1) okX5_takeLineKind rfl lX5_38 (t0) rfl rfl rfl ?_
      rintro _ _ h3 ⟨rfl, rfl, hg3, hq3⟩
      show ab_V _ _ 0 0 19 _ [_] _ _
      have e : lkd K a = 2 := by unfold lkd; rw [if_neg q0, if_pos q1]
      rw [e]
      refine ab_g_v okX5_takeLineKind (cut := []) 20 _ _ _ _ _ _ _ _ (ab_sq_b okX5_takeLineKind [] 19) ?_
      have hb_s : ab_b iX5_takeLineKind [] 19 = [(19, .ifCond .eq 5, 3, 0, 24), (22, .iconst 1, 1, 0, 0), (23, .ireturn, 1, 0, 0), (24, .aload_n 0, 1, 0, 0), (25, .getstatic 56, 3, 0, 0), (28, .invokevirtual 38, 3, 0, 0), (31, .ifCond .eq 7, 3, 0, 38), (34, .iconst 2, 1, 0, 0), (35, .goto 4, 3, 0, 39), (38, .iconst (-1), 1, 0, 0), (39, .ireturn, 1, 0, 0)] := rfl
      have hb_24 : ab_b iX5_takeLineKind [] 24 = [(24, .aload_n 0, 1, 0, 0), (25, .getstatic 56, 3, 0, 0), (28, .invokevirtual 38, 3, 0, 0), (31, .ifCond .eq 7, 3, 0, 38), (34, .iconst 2, 1, 0, 0), (35, .goto 4, 3, 0, 39), (38, .iconst (-1), 1, 0, 0), (39, .ireturn, 1, 0, 0)] := rfl
      repeat' (first | (simp (disch := omega) only [hb_s, hb_24, mX5_takeLineKind, Nat.beq, ab_l0, List.map_cons, List.map_nil, List.length_cons, List.length_nil, List.cons_append, List.nil_append, List.replicate, Nat.reduceAdd, Nat.reduceSub, List.getElem?_cons_zero, List.getElem?_cons_succ, List.getElem?_nil, List.set_cons_zero, List.set_cons_succ, true_and, and_true, ab_cst0, ab_cst1, ab_cst2, ab_cst3, ab_cst4, ab_cst5, ab_up_s, Nat.le_refl, Nat.reduceLT, Nat.reduceLeDiff, Nat.lt_add_one, Nat.zero_le, nz, n1, nI_add, pk_mul, pk_sub, ab_dec1, ab_vin, nI_clamp, ab_m1a, ab_m1b, ab_m1c, ab_m1d, ab_m1e, ab_m1f, ab_up_n, reduceIte, Nat.add_eq_left, Nat.left_eq_add, Nat.add_left_cancel_iff, Nat.reduceEqDiff, not_true_eq_false, not_false_eq_true, ne_eq, or_true, true_or, false_implies, forall_const, if_true, if_false, Nat.reduceMul, Bool.false_eq_true, reduceCtorEq, true_implies, ab_br_t, ab_br_f, ab_br_n, nd_ltT, nd_ltF, nd_leT, nd_leF, nd_eqT, nd_eqF, nM_eq, nM_ltM, nM_leM, Bool.toNat_true, Bool.toNat_false, gq_iconst, gq_bipush, gq_sipush, gq_iload, gq_aload, gq_istore, gq_astore, gq_iinc, gq_iadd, gq_isub, gq_imul, gq_iand, gq_ior, gq_ixor, gq_ishl, gq_ishr, gq_iushr, gq_idiv, gq_irem, gq_ineg, gq_i2l, gq_i2b, gq_dup, gq_dupr, gq_pop, gq_popr, gq_dup2, gq_goto, gq_getfield, gq_putfield, gq_iaload, gq_iastore, gq_baload, gq_ireturn, gq_return_, gq_invokevirtual, gq_invokestatic, gq_invokespecial, gq_nop, gq_new, gq_ldc, gq_ldc_w, gq_newarray, gq_anewarray, gq_getstatic, gq_aaload, gq_aastore, gq_bastore, gq_laload, gq_lastore, gq_lcmp, gq_athrow, gq_arraylength, gq_areturn, gq_if_acmp, gq_lconst, gq_tableswitch, gq_iload_n0, gq_iload_n1, gq_iload_n2, gq_iload_n3, gq_aload_n0, gq_aload_n1, gq_aload_n2, gq_aload_n3, gq_istore_n0, gq_istore_n1, gq_istore_n2, gq_istore_n3, gq_astore_n0, gq_astore_n1, gq_astore_n2, gq_astore_n3, gq_ifCond_eq, gq_ifCond_ne, gq_ifCond_lt, gq_ifCond_ge, gq_ifCond_gt, gq_ifCond_le, gq_if_icmp_eq, gq_if_icmp_ne, gq_if_icmp_lt, gq_if_icmp_ge, gq_if_icmp_gt, gq_if_icmp_le]) | (with_reducible refine ab_br_i ?_ ?_ <;> intro q <;> (try simp (disch := omega) only [ab_leI, ab_ltI, ab_eqI, Nat.not_lt, Nat.not_le, n1, nz] at q)))
      all_goals try clear hb_s hb_24
      exact ⟨rfl, rfl, hg3, fun z hz => (hq3 z hz).trans (hq2 z hz)⟩
    · refine bv_v (c_takeN hg2 hK ha (by omega) (by omega) q1) okX5_takeLineKind rfl lX5_38 (t0) rfl rfl rfl ?_
      rintro _ _ h3 ⟨rfl, rfl, hg3, hq3⟩
      show ab_V _ _ 0 0 19 _ [_] _ _
      obtain ⟨sz, t0, -⟩ := hg3.nx
      refine ab_g_v okX5_takeLineKind (cut := [25]) 20 _ _ _ _ _ _ _ _ (ab_sq_b okX5_takeLineKind [25] 19) ?_
      have hb_s : ab_b iX5_takeLineKind [25] 19 = [(19, .ifCond .eq 5, 3, 0, 24), (22, .iconst 1, 1, 0, 0), (23, .ireturn, 1, 0, 0), (24, .aload_n 0, 1, 0, 0), (25, .nop, 0, 0, 0)] := rfl
      have hb_24 : ab_b iX5_takeLineKind [25] 24 = [(24, .aload_n 0, 1, 0, 0), (25, .nop, 0, 0, 0)] := rfl
      repeat' (first | (simp (disch := omega) only [hb_s, hb_24, mX5_takeLineKind, Nat.beq, ab_l0, List.map_cons, List.map_nil, List.length_cons, List.length_nil, List.cons_append, List.nil_append, List.replicate, Nat.reduceAdd, Nat.reduceSub, List.getElem?_cons_zero, List.getElem?_cons_succ, List.getElem?_nil, List.set_cons_zero, List.set_cons_succ, true_and, and_true, ab_cst0, ab_cst1, ab_cst2, ab_cst3, ab_cst4, ab_cst5, ab_up_s, Nat.le_refl, Nat.reduceLT, Nat.reduceLeDiff, Nat.lt_add_one, Nat.zero_le, nz, n1, nI_add, pk_mul, pk_sub, ab_dec1, ab_vin, nI_clamp, ab_m1a, ab_m1b, ab_m1c, ab_m1d, ab_m1e, ab_m1f, ab_up_n, reduceIte, Nat.add_eq_left, Nat.left_eq_add, Nat.add_left_cancel_iff, Nat.reduceEqDiff, not_true_eq_false, not_false_eq_true, ne_eq, or_true, true_or, false_implies, forall_const, if_true, if_false, Nat.reduceMul, Bool.false_eq_true, reduceCtorEq, true_implies, ab_br_t, ab_br_f, ab_br_n, nd_ltT, nd_ltF, nd_leT, nd_leF, nd_eqT, nd_eqF, nM_eq, nM_ltM, nM_leM, Bool.toNat_true, Bool.toNat_false, gq_iconst, gq_bipush, gq_sipush, gq_iload, gq_aload, gq_istore, gq_astore, gq_iinc, gq_iadd, gq_isub, gq_imul, gq_iand, gq_ior, gq_ixor, gq_ishl, gq_ishr, gq_iushr, gq_idiv, gq_irem, gq_ineg, gq_i2l, gq_i2b, gq_dup, gq_dupr, gq_pop, gq_popr, gq_dup2, gq_goto, gq_getfield, gq_putfield, gq_iaload, gq_iastore, gq_baload, gq_ireturn, gq_return_, gq_invokevirtual, gq_invokestatic, gq_invokespecial, gq_nop, gq_new, gq_ldc, gq_ldc_w, gq_newarray, gq_anewarray, gq_getstatic, gq_aaload, gq_aastore, gq_bastore, gq_laload, gq_lastore, gq_lcmp, gq_athrow, gq_arraylength, gq_areturn, gq_if_acmp, gq_lconst, gq_tableswitch, gq_iload_n0, gq_iload_n1, gq_iload_n2, gq_iload_n3, gq_aload_n0, gq_aload_n1, gq_aload_n2, gq_aload_n3, gq_istore_n0, gq_istore_n1, gq_istore_n2, gq_istore_n3, gq_astore_n0, gq_astore_n1, gq_astore_n2, gq_astore_n3, gq_ifCond_eq, gq_ifCond_ne, gq_ifCond_lt, gq_ifCond_ge, gq_ifCond_gt, gq_ifCond_le, gq_if_icmp_eq, gq_if_icmp_ne, gq_if_icmp_lt, gq_if_icmp_ge, gq_if_icmp_gt, gq_if_icmp_le]) | (with_reducible refine ab_br_i ?_ ?_ <;> intro q <;> (try simp (disch := omega) only [ab_leI, ab_ltI, ab_eqI, Nat.not_lt, Nat.not_le, n1, nz] at q)))
      all_goals try clear hb_s hb_24
      refine bv_gsK 24 okX5_takeLineKind rfl (by omega) gK_X5_56 ?_
      by_cases q2 : K.2.1 a = 24
      · refine bv_v (c_takeY hg3 hK ha (by omega) (by omega) q2) okX5_takeLineKind rfl lX5_38 (t0) rfl rfl rfl ?_
        rintro _ _ h4 ⟨rfl, rfl, hg4, hq4⟩
        show ab_V _ _ 0 0 31 _ [_] _ _
        have e : lkd K a = 3 := by unfold lkd; rw [if_neg q0, if_neg q1, if_pos q2]
        rw [e]
        refine ab_g_v okX5_takeLineKind (cut := []) 20 _ _ _ _ _ _ _ _ (ab_sq_b okX5_takeLineKind [] 31) ?_
        have hb_s : ab_b iX5_takeLineKind [] 31 = [(31, .ifCond .eq 7, 3, 0, 38), (34, .iconst 2, 1, 0, 0), (35, .goto 4, 3, 0, 39), (38, .iconst (-1), 1, 0, 0), (39, .ireturn, 1, 0, 0)] := rfl
        have hb_38 : ab_b iX5_takeLineKind [] 38 = [(38, .iconst (-1), 1, 0, 0), (39, .ireturn, 1, 0, 0)] := rfl
        have hb_39 : ab_b iX5_takeLineKind [] 39 = [(39, .ireturn, 1, 0, 0)] := rfl
        repeat' (first | (simp (disch := omega) only [hb_s, hb_38, hb_39, mX5_takeLineKind, Nat.beq, ab_l0, List.map_cons, List.map_nil, List.length_cons, List.length_nil, List.cons_append, List.nil_append, List.replicate, Nat.reduceAdd, Nat.reduceSub, List.getElem?_cons_zero, List.getElem?_cons_succ, List.getElem?_nil, List.set_cons_zero, List.set_cons_succ, true_and, and_true, ab_cst0, ab_cst1, ab_cst2, ab_cst3, ab_cst4, ab_cst5, ab_up_s, Nat.le_refl, Nat.reduceLT, Nat.reduceLeDiff, Nat.lt_add_one, Nat.zero_le, nz, n1, nI_add, pk_mul, pk_sub, ab_dec1, ab_vin, nI_clamp, ab_m1a, ab_m1b, ab_m1c, ab_m1d, ab_m1e, ab_m1f, ab_up_n, reduceIte, Nat.add_eq_left, Nat.left_eq_add, Nat.add_left_cancel_iff, Nat.reduceEqDiff, not_true_eq_false, not_false_eq_true, ne_eq, or_true, true_or, false_implies, forall_const, if_true, if_false, Nat.reduceMul, Bool.false_eq_true, reduceCtorEq, true_implies, ab_br_t, ab_br_f, ab_br_n, nd_ltT, nd_ltF, nd_leT, nd_leF, nd_eqT, nd_eqF, nM_eq, nM_ltM, nM_leM, Bool.toNat_true, Bool.toNat_false, gq_iconst, gq_bipush, gq_sipush, gq_iload, gq_aload, gq_istore, gq_astore, gq_iinc, gq_iadd, gq_isub, gq_imul, gq_iand, gq_ior, gq_ixor, gq_ishl, gq_ishr, gq_iushr, gq_idiv, gq_irem, gq_ineg, gq_i2l, gq_i2b, gq_dup, gq_dupr, gq_pop, gq_popr, gq_dup2, gq_goto, gq_getfield, gq_putfield, gq_iaload, gq_iastore, gq_baload, gq_ireturn, gq_return_, gq_invokevirtual, gq_invokestatic, gq_invokespecial, gq_nop, gq_new, gq_ldc, gq_ldc_w, gq_newarray, gq_anewarray, gq_getstatic, gq_aaload, gq_aastore, gq_bastore, gq_laload, gq_lastore, gq_lcmp, gq_athrow, gq_arraylength, gq_areturn, gq_if_acmp, gq_lconst, gq_tableswitch, gq_iload_n0, gq_iload_n1, gq_iload_n2, gq_iload_n3, gq_aload_n0, gq_aload_n1, gq_aload_n2, gq_aload_n3, gq_istore_n0, gq_istore_n1, gq_istore_n2, gq_istore_n3, gq_astore_n0, gq_astore_n1, gq_astore_n2, gq_astore_n3, gq_ifCond_eq, gq_ifCond_ne, gq_ifCond_lt, gq_ifCond_ge, gq_ifCond_gt, gq_ifCond_le, gq_if_icmp_eq, gq_if_icmp_ne, gq_if_icmp_lt, gq_if_icmp_ge, gq_if_icmp_gt, gq_if_icmp_le]) | (with_reducible refine ab_br_i ?_ ?_ <;> intro q <;> (try simp (disch := omega) only [ab_leI, ab_ltI, ab_eqI, Nat.not_lt, Nat.not_le, n1, nz] at q)))
        all_goals try clear hb_s hb_38 hb_39
        exact ⟨rfl, rfl, hg4, fun z hz => (hq4 z hz).trans ((hq3 z hz).trans (hq2 z hz))⟩
      · refine bv_v (c_takeN hg3 hK ha (by omega) (by omega) q2) okX5_takeLineKind rfl lX5_38 (t0) rfl rfl rfl ?_
        rintro _ _ h4 ⟨rfl, rfl, hg4, hq4⟩
        show ab_V _ _ 0 0 31 _ [_] _ _
        have e : lkd K a = 0 := by unfold lkd; rw [if_neg q0, if_neg q1, if_neg q2]
        rw [e]
        refine ab_g_v okX5_takeLineKind (cut := []) 20 _ _ _ _ _ _ _ _ (ab_sq_b okX5_takeLineKind [] 31) ?_
        have hb_s : ab_b iX5_takeLineKind [] 31 = [(31, .ifCond .eq 7, 3, 0, 38), (34, .iconst 2, 1, 0, 0), (35, .goto 4, 3, 0, 39), (38, .iconst (-1), 1, 0, 0), (39, .ireturn, 1, 0, 0)] := rfl
        have hb_38 : ab_b iX5_takeLineKind [] 38 = [(38, .iconst (-1), 1, 0, 0), (39, .ireturn, 1, 0, 0)] := rfl
        have hb_39 : ab_b iX5_takeLineKind [] 39 = [(39, .ireturn, 1, 0, 0)] := rfl
        repeat' (first | (simp (disch := omega) only [hb_s, hb_38, hb_39, mX5_takeLineKind, Nat.beq, ab_l0, List.map_cons, List.map_nil, List.length_cons, List.length_nil, List.cons_append, List.nil_append, List.replicate, Nat.reduceAdd, Nat.reduceSub, List.getElem?_cons_zero, List.getElem?_cons_succ, List.getElem?_nil, List.set_cons_zero, List.set_cons_succ, true_and, and_true, ab_cst0, ab_cst1, ab_cst2, ab_cst3, ab_cst4, ab_cst5, ab_up_s, Nat.le_refl, Nat.reduceLT, Nat.reduceLeDiff, Nat.lt_add_one, Nat.zero_le, nz, n1, nI_add, pk_mul, pk_sub, ab_dec1, ab_vin, nI_clamp, ab_m1a, ab_m1b, ab_m1c, ab_m1d, ab_m1e, ab_m1f, ab_up_n, reduceIte, Nat.add_eq_left, Nat.left_eq_add, Nat.add_left_cancel_iff, Nat.reduceEqDiff, not_true_eq_false, not_false_eq_true, ne_eq, or_true, true_or, false_implies, forall_const, if_true, if_false, Nat.reduceMul, Bool.false_eq_true, reduceCtorEq, true_implies, ab_br_t, ab_br_f, ab_br_n, nd_ltT, nd_ltF, nd_leT, nd_leF, nd_eqT, nd_eqF, nM_eq, nM_ltM, nM_leM, Bool.toNat_true, Bool.toNat_false, gq_iconst, gq_bipush, gq_sipush, gq_iload, gq_aload, gq_istore, gq_astore, gq_iinc, gq_iadd, gq_isub, gq_imul, gq_iand, gq_ior, gq_ixor, gq_ishl, gq_ishr, gq_iushr, gq_idiv, gq_irem, gq_ineg, gq_i2l, gq_i2b, gq_dup, gq_dupr, gq_pop, gq_popr, gq_dup2, gq_goto, gq_getfield, gq_putfield, gq_iaload, gq_iastore, gq_baload, gq_ireturn, gq_return_, gq_invokevirtual, gq_invokestatic, gq_invokespecial, gq_nop, gq_new, gq_ldc, gq_ldc_w, gq_newarray, gq_anewarray, gq_getstatic, gq_aaload, gq_aastore, gq_bastore, gq_laload, gq_lastore, gq_lcmp, gq_athrow, gq_arraylength, gq_areturn, gq_if_acmp, gq_lconst, gq_tableswitch, gq_iload_n0, gq_iload_n1, gq_iload_n2, gq_iload_n3, gq_aload_n0, gq_aload_n1, gq_aload_n2, gq_aload_n3, gq_istore_n0, gq_istore_n1, gq_istore_n2, gq_istore_n3, gq_astore_n0, gq_astore_n1, gq_astore_n2, gq_astore_n3, gq_ifCond_eq, gq_ifCond_ne, gq_ifCond_lt, gq_ifCond_ge, gq_ifCond_gt, gq_ifCond_le, gq_if_icmp_eq, gq_if_icmp_ne, gq_if_icmp_lt, gq_if_icmp_ge, gq_if_icmp_gt, gq_if_icmp_le]) | (with_reducible refine ab_br_i ?_ ?_ <;> intro q <;> (try simp (disch := omega) only [ab_leI, ab_ltI, ab_eqI, Nat.not_lt, Nat.not_le, n1, nz] at q)))
        all_goals try clear hb_s hb_38 hb_39
        exact ⟨rfl, rfl, hg4, fun z hz => (hq4 z hz).trans ((hq3 z hz).trans (hq2 z hz))⟩
/-- the rest of a line: its condition -/
theorem rl_2 {W : lw} {b n kd am : Nat} {h1 : ab_H} {x4 : Option Value} {pr : PL} (hK : tk_ok K) (hTR : T + 4 ≤ R) (hk : lkt h T R K Rr (la_of W) h1 b) (hW : lok W) (hw : W.1 = n + 1) (hn : n < 12) (hsz : W.2.1 < b) (hb : b ≤ K.1) (hkd : kd ≤ 2) (ham : am ≤ 100) (e : pr = rdW2 K W kd am b) : ab_V mX5_readLine (rl_po h T R K nx Rr pr) 0 0 36 [some (.ref R), some (.ref T), some (.int (nI kd)), some (.int (nI am)), x4] [] nx h1 := by
  have h4 := hK.1
  obtain ⟨sz, t0, -⟩ := hk.1.nx
  have k1 := hk.2.2.1
  have l0 := hk.2.1.1
  have fin : ∀ (h2 : ab_H) (c : Nat) (W1 : lw), lkt h T R K Rr (la_of W1) h2 c → W1.1 = n + 1 → pr = (c, some (addL W1 kd am W.2.1)) → ab_V mX5_readLine (rl_po h T R K nx Rr pr) 0 0 66 [some (.ref R), some (.ref T), some (.int (nI kd)), some (.int (nI am)), some (.int (nI W.2.1))] [] nx h2 := by
    intro h2 c W1 hk2 hw1 e2
    have k2 := hk2.2.2.1
    have l2 := hk2.2.1
    refine ab_g_v okX5_readLine (cut := []) 20 _ _ _ _ _ _ _ _ (ab_sq_b okX5_readLine [] 66) ?_
    have hb_s : ab_b iX5_readLine [] 66 = [(66, .aload_n 0, 1, 0, 0), (67, .getfield 12, 3, 4, 0), (70, .iload_n 2, 1, 0, 0), (71, .iload_n 3, 1, 0, 0), (72, .iload 4, 2, 0, 0), (74, .invokevirtual 46, 3, 0, 0), (77, .iconst 1, 1, 0, 0), (78, .ireturn, 1, 0, 0)] := rfl
    repeat' (first | (simp (disch := omega) only [hb_s, mX5_readLine, Nat.beq, ab_l0, List.map_cons, List.map_nil, List.length_cons, List.length_nil, List.cons_append, List.nil_append, List.replicate, Nat.reduceAdd, Nat.reduceSub, List.getElem?_cons_zero, List.getElem?_cons_succ, List.getElem?_nil, List.set_cons_zero, List.set_cons_succ, true_and, and_true, ab_cst0, ab_cst1, ab_cst2, ab_cst3, ab_cst4, ab_cst5, ab_up_s, Nat.le_refl, Nat.reduceLT, Nat.reduceLeDiff, Nat.lt_add_one, Nat.zero_le, nz, n1, nI_add, pk_mul, pk_sub, ab_dec1, ab_vin, nI_clamp, ab_m1a, ab_m1b, ab_m1c, ab_m1d, ab_m1e, ab_m1f, ab_up_n, reduceIte, Nat.add_eq_left, Nat.left_eq_add, Nat.add_left_cancel_iff, Nat.reduceEqDiff, not_true_eq_false, not_false_eq_true, ne_eq, or_true, true_or, false_implies, forall_const, if_true, if_false, Nat.reduceMul, Bool.false_eq_true, reduceCtorEq, true_implies, ab_br_t, ab_br_f, ab_br_n, nd_ltT, nd_ltF, nd_leT, nd_leF, nd_eqT, nd_eqF, nM_eq, nM_ltM, nM_leM, Bool.toNat_true, Bool.toNat_false, gq_iconst, gq_bipush, gq_sipush, gq_iload, gq_aload, gq_istore, gq_astore, gq_iinc, gq_iadd, gq_isub, gq_imul, gq_iand, gq_ior, gq_ixor, gq_ishl, gq_ishr, gq_iushr, gq_idiv, gq_irem, gq_ineg, gq_i2l, gq_i2b, gq_dup, gq_dupr, gq_pop, gq_popr, gq_dup2, gq_goto, gq_getfield, gq_putfield, gq_iaload, gq_iastore, gq_baload, gq_ireturn, gq_return_, gq_invokevirtual, gq_invokestatic, gq_invokespecial, gq_nop, gq_new, gq_ldc, gq_ldc_w, gq_newarray, gq_anewarray, gq_getstatic, gq_aaload, gq_aastore, gq_bastore, gq_laload, gq_lastore, gq_lcmp, gq_athrow, gq_arraylength, gq_areturn, gq_if_acmp, gq_lconst, gq_tableswitch, gq_iload_n0, gq_iload_n1, gq_iload_n2, gq_iload_n3, gq_aload_n0, gq_aload_n1, gq_aload_n2, gq_aload_n3, gq_istore_n0, gq_istore_n1, gq_istore_n2, gq_istore_n3, gq_astore_n0, gq_astore_n1, gq_astore_n2, gq_astore_n3, gq_ifCond_eq, gq_ifCond_ne, gq_ifCond_lt, gq_ifCond_ge, gq_ifCond_gt, gq_ifCond_le, gq_if_icmp_eq, gq_if_icmp_ne, gq_if_icmp_lt, gq_if_icmp_ge, gq_if_icmp_gt, gq_if_icmp_le, k2]) | (with_reducible refine ab_br_i ?_ ?_ <;> intro q <;> (try simp (disch := omega) only [ab_leI, ab_ltI, ab_eqI, Nat.not_lt, Nat.not_le, n1, nz] at q)))
    all_goals try clear hb_s
    refine bv_v (c_addLine l2 hw1 hn) okX5_readLine rfl lX5_46 (l2.1) rfl rfl rfl ?_
    rintro _ _ h3 ⟨rfl, rfl, l3, r3⟩
    show ab_V _ _ 0 0 77 _ [] _ _
    refine ab_g_v okX5_readLine (cut := []) 20 _ _ _ _ _ _ _ _ (ab_sq_b okX5_readLine [] 77) ?_
    have hb_s : ab_b iX5_readLine [] 77 = [(77, .iconst 1, 1, 0, 0), (78, .ireturn, 1, 0, 0)] := rfl
    repeat' (first | (simp (disch := omega) only [hb_s, mX5_readLine, Nat.beq, ab_l0, List.map_cons, List.map_nil, List.length_cons, List.length_nil, List.cons_append, List.nil_append, List.replicate, Nat.reduceAdd, Nat.reduceSub, List.getElem?_cons_zero, List.getElem?_cons_succ, List.getElem?_nil, List.set_cons_zero, List.set_cons_succ, true_and, and_true, ab_cst0, ab_cst1, ab_cst2, ab_cst3, ab_cst4, ab_cst5, ab_up_s, Nat.le_refl, Nat.reduceLT, Nat.reduceLeDiff, Nat.lt_add_one, Nat.zero_le, nz, n1, nI_add, pk_mul, pk_sub, ab_dec1, ab_vin, nI_clamp, ab_m1a, ab_m1b, ab_m1c, ab_m1d, ab_m1e, ab_m1f, ab_up_n, reduceIte, Nat.add_eq_left, Nat.left_eq_add, Nat.add_left_cancel_iff, Nat.reduceEqDiff, not_true_eq_false, not_false_eq_true, ne_eq, or_true, true_or, false_implies, forall_const, if_true, if_false, Nat.reduceMul, Bool.false_eq_true, reduceCtorEq, true_implies, ab_br_t, ab_br_f, ab_br_n, nd_ltT, nd_ltF, nd_leT, nd_leF, nd_eqT, nd_eqF, nM_eq, nM_ltM, nM_leM, Bool.toNat_true, Bool.toNat_false, gq_iconst, gq_bipush, gq_sipush, gq_iload, gq_aload, gq_istore, gq_astore, gq_iinc, gq_iadd, gq_isub, gq_imul, gq_iand, gq_ior, gq_ixor, gq_ishl, gq_ishr, gq_iushr, gq_idiv, gq_irem, gq_ineg, gq_i2l, gq_i2b, gq_dup, gq_dupr, gq_pop, gq_popr, gq_dup2, gq_goto, gq_getfield, gq_putfield, gq_iaload, gq_iastore, gq_baload, gq_ireturn, gq_return_, gq_invokevirtual, gq_invokestatic, gq_invokespecial, gq_nop, gq_new, gq_ldc, gq_ldc_w, gq_newarray, gq_anewarray, gq_getstatic, gq_aaload, gq_aastore, gq_bastore, gq_laload, gq_lastore, gq_lcmp, gq_athrow, gq_arraylength, gq_areturn, gq_if_acmp, gq_lconst, gq_tableswitch, gq_iload_n0, gq_iload_n1, gq_iload_n2, gq_iload_n3, gq_aload_n0, gq_aload_n1, gq_aload_n2, gq_aload_n3, gq_istore_n0, gq_istore_n1, gq_istore_n2, gq_istore_n3, gq_astore_n0, gq_astore_n1, gq_astore_n2, gq_astore_n3, gq_ifCond_eq, gq_ifCond_ne, gq_ifCond_lt, gq_ifCond_ge, gq_ifCond_gt, gq_ifCond_le, gq_if_icmp_eq, gq_if_icmp_ne, gq_if_icmp_lt, gq_if_icmp_ge, gq_if_icmp_gt, gq_if_icmp_le]) | (with_reducible refine ab_br_i ?_ ?_ <;> intro q <;> (try simp (disch := omega) only [ab_leI, ab_ltI, ab_eqI, Nat.not_lt, Nat.not_le, n1, nz] at q)))
    all_goals try clear hb_s
    rw [← addL_e hw1] at l3
    exact rl_yes (hk2.la hTR l3 r3) e2
  refine ab_g_v okX5_readLine (cut := [46]) 20 _ _ _ _ _ _ _ _ (ab_sq_b okX5_readLine [46] 36) ?_
  have hb_s : ab_b iX5_readLine [46] 36 = [(36, .aload_n 0, 1, 0, 0), (37, .getfield 12, 3, 4, 0), (40, .getfield 28, 3, 3, 6), (43, .istore 4, 2, 0, 0), (45, .aload_n 1, 1, 0, 0), (46, .nop, 0, 0, 0)] := rfl
  repeat' (first | (simp (disch := omega) only [hb_s, mX5_readLine, Nat.beq, ab_l0, List.map_cons, List.map_nil, List.length_cons, List.length_nil, List.cons_append, List.nil_append, List.replicate, Nat.reduceAdd, Nat.reduceSub, List.getElem?_cons_zero, List.getElem?_cons_succ, List.getElem?_nil, List.set_cons_zero, List.set_cons_succ, true_and, and_true, ab_cst0, ab_cst1, ab_cst2, ab_cst3, ab_cst4, ab_cst5, ab_up_s, Nat.le_refl, Nat.reduceLT, Nat.reduceLeDiff, Nat.lt_add_one, Nat.zero_le, nz, n1, nI_add, pk_mul, pk_sub, ab_dec1, ab_vin, nI_clamp, ab_m1a, ab_m1b, ab_m1c, ab_m1d, ab_m1e, ab_m1f, ab_up_n, reduceIte, Nat.add_eq_left, Nat.left_eq_add, Nat.add_left_cancel_iff, Nat.reduceEqDiff, not_true_eq_false, not_false_eq_true, ne_eq, or_true, true_or, false_implies, forall_const, if_true, if_false, Nat.reduceMul, Bool.false_eq_true, reduceCtorEq, true_implies, ab_br_t, ab_br_f, ab_br_n, nd_ltT, nd_ltF, nd_leT, nd_leF, nd_eqT, nd_eqF, nM_eq, nM_ltM, nM_leM, Bool.toNat_true, Bool.toNat_false, gq_iconst, gq_bipush, gq_sipush, gq_iload, gq_aload, gq_istore, gq_astore, gq_iinc, gq_iadd, gq_isub, gq_imul, gq_iand, gq_ior, gq_ixor, gq_ishl, gq_ishr, gq_iushr, gq_idiv, gq_irem, gq_ineg, gq_i2l, gq_i2b, gq_dup, gq_dupr, gq_pop, gq_popr, gq_dup2, gq_goto, gq_getfield, gq_putfield, gq_iaload, gq_iastore, gq_baload, gq_ireturn, gq_return_, gq_invokevirtual, gq_invokestatic, gq_invokespecial, gq_nop, gq_new, gq_ldc, gq_ldc_w, gq_newarray, gq_anewarray, gq_getstatic, gq_aaload, gq_aastore, gq_bastore, gq_laload, gq_lastore, gq_lcmp, gq_athrow, gq_arraylength, gq_areturn, gq_if_acmp, gq_lconst, gq_tableswitch, gq_iload_n0, gq_iload_n1, gq_iload_n2, gq_iload_n3, gq_aload_n0, gq_aload_n1, gq_aload_n2, gq_aload_n3, gq_istore_n0, gq_istore_n1, gq_istore_n2, gq_istore_n3, gq_astore_n0, gq_astore_n1, gq_astore_n2, gq_astore_n3, gq_ifCond_eq, gq_ifCond_ne, gq_ifCond_lt, gq_ifCond_ge, gq_ifCond_gt, gq_ifCond_le, gq_if_icmp_eq, gq_if_icmp_ne, gq_if_icmp_lt, gq_if_icmp_ge, gq_if_icmp_gt, gq_if_icmp_le, k1, l0, la_fs, la_of]) | (with_reducible refine ab_br_i ?_ ?_ <;> intro q <;> (try simp (disch := omega) only [ab_leI, ab_ltI, ab_eqI, Nat.not_lt, Nat.not_le, n1, nz] at q)))
  all_goals try clear hb_s
  refine bv_gsK 25 okX5_readLine rfl (by omega) gK_X5_32 ?_
  by_cases q : K.2.1 b = 25
  · refine bv_v (c_takeY hk.1 hK hb (by omega) (by omega) q) okX5_readLine rfl lX5_38 (t0) rfl rfl rfl ?_
    rintro _ _ h2 ⟨rfl, rfl, hg2, hq2⟩
    show ab_V _ _ 0 0 52 _ [_] _ _
    have hk2 := hk.tk hTR hg2 hq2
    have hlt := tk_lt hK hb (by omega)
    have k2 := hk2.2.2.1
    obtain ⟨g1, g2⟩ := rgo_rcd hK 6 W (b + 1) hlt
    refine ab_g_v okX5_readLine (cut := [66]) 20 _ _ _ _ _ _ _ _ (ab_sq_b okX5_readLine [66] 52) ?_
    have hb_s : ab_b iX5_readLine [66] 52 = [(52, .ifCond .eq 14, 3, 0, 66), (55, .aload_n 0, 1, 0, 0), (56, .aload_n 1, 1, 0, 0), (57, .iconst 0, 1, 0, 0), (58, .invokevirtual 42, 3, 0, 0), (61, .ifCond .ne 5, 3, 0, 66), (64, .iconst 0, 1, 0, 0), (65, .ireturn, 1, 0, 0), (66, .nop, 0, 0, 0)] := rfl
    have hb_66 : ab_b iX5_readLine [66] 66 = [(66, .nop, 0, 0, 0)] := rfl
    repeat' (first | (simp (disch := omega) only [hb_s, hb_66, mX5_readLine, Nat.beq, ab_l0, List.map_cons, List.map_nil, List.length_cons, List.length_nil, List.cons_append, List.nil_append, List.replicate, Nat.reduceAdd, Nat.reduceSub, List.getElem?_cons_zero, List.getElem?_cons_succ, List.getElem?_nil, List.set_cons_zero, List.set_cons_succ, true_and, and_true, ab_cst0, ab_cst1, ab_cst2, ab_cst3, ab_cst4, ab_cst5, ab_up_s, Nat.le_refl, Nat.reduceLT, Nat.reduceLeDiff, Nat.lt_add_one, Nat.zero_le, nz, n1, nI_add, pk_mul, pk_sub, ab_dec1, ab_vin, nI_clamp, ab_m1a, ab_m1b, ab_m1c, ab_m1d, ab_m1e, ab_m1f, ab_up_n, reduceIte, Nat.add_eq_left, Nat.left_eq_add, Nat.add_left_cancel_iff, Nat.reduceEqDiff, not_true_eq_false, not_false_eq_true, ne_eq, or_true, true_or, false_implies, forall_const, if_true, if_false, Nat.reduceMul, Bool.false_eq_true, reduceCtorEq, true_implies, ab_br_t, ab_br_f, ab_br_n, nd_ltT, nd_ltF, nd_leT, nd_leF, nd_eqT, nd_eqF, nM_eq, nM_ltM, nM_leM, Bool.toNat_true, Bool.toNat_false, gq_iconst, gq_bipush, gq_sipush, gq_iload, gq_aload, gq_istore, gq_astore, gq_iinc, gq_iadd, gq_isub, gq_imul, gq_iand, gq_ior, gq_ixor, gq_ishl, gq_ishr, gq_iushr, gq_idiv, gq_irem, gq_ineg, gq_i2l, gq_i2b, gq_dup, gq_dupr, gq_pop, gq_popr, gq_dup2, gq_goto, gq_getfield, gq_putfield, gq_iaload, gq_iastore, gq_baload, gq_ireturn, gq_return_, gq_invokevirtual, gq_invokestatic, gq_invokespecial, gq_nop, gq_new, gq_ldc, gq_ldc_w, gq_newarray, gq_anewarray, gq_getstatic, gq_aaload, gq_aastore, gq_bastore, gq_laload, gq_lastore, gq_lcmp, gq_athrow, gq_arraylength, gq_areturn, gq_if_acmp, gq_lconst, gq_tableswitch, gq_iload_n0, gq_iload_n1, gq_iload_n2, gq_iload_n3, gq_aload_n0, gq_aload_n1, gq_aload_n2, gq_aload_n3, gq_istore_n0, gq_istore_n1, gq_istore_n2, gq_istore_n3, gq_astore_n0, gq_astore_n1, gq_astore_n2, gq_astore_n3, gq_ifCond_eq, gq_ifCond_ne, gq_ifCond_lt, gq_ifCond_ge, gq_ifCond_gt, gq_ifCond_le, gq_if_icmp_eq, gq_if_icmp_ne, gq_if_icmp_lt, gq_if_icmp_ge, gq_if_icmp_gt, gq_if_icmp_le]) | (with_reducible refine ab_br_i ?_ ?_ <;> intro q <;> (try simp (disch := omega) only [ab_leI, ab_ltI, ab_eqI, Nat.not_lt, Nat.not_le, n1, nz] at q)))
    all_goals try clear hb_s hb_66
    refine bv_v (c_readCondition hK hTR hk2 (by omega) hlt hW.2.2.2.1) okX5_readLine rfl lX5_42 (k2) rfl rfl rfl ?_
    cases hx : rcd K 6 W (b + 1) with
    | mk c o =>
      have e2 : pr = (match ((c, o) : PL) with
        | (c, none) => (c, none)
        | (c, some W1) => (c, some (addL W1 kd am W.2.1))) := by rw [e, ← hx]; unfold rdW2; rw [if_pos q]; rfl
      rw [hx] at g1 g2
      cases o with
      | none =>
        rintro _ _ h3 ⟨rfl, rfl, W9, hw9, hk3⟩
        show ab_V _ _ 0 0 61 _ [_] _ _
        refine ab_g_v okX5_readLine (cut := [66]) 20 _ _ _ _ _ _ _ _ (ab_sq_b okX5_readLine [66] 61) ?_
        have hb_s : ab_b iX5_readLine [66] 61 = [(61, .ifCond .ne 5, 3, 0, 66), (64, .iconst 0, 1, 0, 0), (65, .ireturn, 1, 0, 0), (66, .nop, 0, 0, 0)] := rfl
        have hb_66 : ab_b iX5_readLine [66] 66 = [(66, .nop, 0, 0, 0)] := rfl
        repeat' (first | (simp (disch := omega) only [hb_s, hb_66, mX5_readLine, Nat.beq, ab_l0, List.map_cons, List.map_nil, List.length_cons, List.length_nil, List.cons_append, List.nil_append, List.replicate, Nat.reduceAdd, Nat.reduceSub, List.getElem?_cons_zero, List.getElem?_cons_succ, List.getElem?_nil, List.set_cons_zero, List.set_cons_succ, true_and, and_true, ab_cst0, ab_cst1, ab_cst2, ab_cst3, ab_cst4, ab_cst5, ab_up_s, Nat.le_refl, Nat.reduceLT, Nat.reduceLeDiff, Nat.lt_add_one, Nat.zero_le, nz, n1, nI_add, pk_mul, pk_sub, ab_dec1, ab_vin, nI_clamp, ab_m1a, ab_m1b, ab_m1c, ab_m1d, ab_m1e, ab_m1f, ab_up_n, reduceIte, Nat.add_eq_left, Nat.left_eq_add, Nat.add_left_cancel_iff, Nat.reduceEqDiff, not_true_eq_false, not_false_eq_true, ne_eq, or_true, true_or, false_implies, forall_const, if_true, if_false, Nat.reduceMul, Bool.false_eq_true, reduceCtorEq, true_implies, ab_br_t, ab_br_f, ab_br_n, nd_ltT, nd_ltF, nd_leT, nd_leF, nd_eqT, nd_eqF, nM_eq, nM_ltM, nM_leM, Bool.toNat_true, Bool.toNat_false, gq_iconst, gq_bipush, gq_sipush, gq_iload, gq_aload, gq_istore, gq_astore, gq_iinc, gq_iadd, gq_isub, gq_imul, gq_iand, gq_ior, gq_ixor, gq_ishl, gq_ishr, gq_iushr, gq_idiv, gq_irem, gq_ineg, gq_i2l, gq_i2b, gq_dup, gq_dupr, gq_pop, gq_popr, gq_dup2, gq_goto, gq_getfield, gq_putfield, gq_iaload, gq_iastore, gq_baload, gq_ireturn, gq_return_, gq_invokevirtual, gq_invokestatic, gq_invokespecial, gq_nop, gq_new, gq_ldc, gq_ldc_w, gq_newarray, gq_anewarray, gq_getstatic, gq_aaload, gq_aastore, gq_bastore, gq_laload, gq_lastore, gq_lcmp, gq_athrow, gq_arraylength, gq_areturn, gq_if_acmp, gq_lconst, gq_tableswitch, gq_iload_n0, gq_iload_n1, gq_iload_n2, gq_iload_n3, gq_aload_n0, gq_aload_n1, gq_aload_n2, gq_aload_n3, gq_istore_n0, gq_istore_n1, gq_istore_n2, gq_istore_n3, gq_astore_n0, gq_astore_n1, gq_astore_n2, gq_astore_n3, gq_ifCond_eq, gq_ifCond_ne, gq_ifCond_lt, gq_ifCond_ge, gq_ifCond_gt, gq_ifCond_le, gq_if_icmp_eq, gq_if_icmp_ne, gq_if_icmp_lt, gq_if_icmp_ge, gq_if_icmp_gt, gq_if_icmp_le]) | (with_reducible refine ab_br_i ?_ ?_ <;> intro q <;> (try simp (disch := omega) only [ab_leI, ab_ltI, ab_eqI, Nat.not_lt, Nat.not_le, n1, nz] at q)))
        all_goals try clear hb_s hb_66
        exact rl_no hk3 hw9 e2
      | some W1 =>
        obtain ⟨g3, g4, g5, g6⟩ := g2 W1 rfl
        rintro _ _ h3 ⟨rfl, rfl, hk3⟩
        show ab_V _ _ 0 0 61 _ [_] _ _
        refine ab_g_v okX5_readLine (cut := [66]) 20 _ _ _ _ _ _ _ _ (ab_sq_b okX5_readLine [66] 61) ?_
        have hb_s : ab_b iX5_readLine [66] 61 = [(61, .ifCond .ne 5, 3, 0, 66), (64, .iconst 0, 1, 0, 0), (65, .ireturn, 1, 0, 0), (66, .nop, 0, 0, 0)] := rfl
        have hb_66 : ab_b iX5_readLine [66] 66 = [(66, .nop, 0, 0, 0)] := rfl
        repeat' (first | (simp (disch := omega) only [hb_s, hb_66, mX5_readLine, Nat.beq, ab_l0, List.map_cons, List.map_nil, List.length_cons, List.length_nil, List.cons_append, List.nil_append, List.replicate, Nat.reduceAdd, Nat.reduceSub, List.getElem?_cons_zero, List.getElem?_cons_succ, List.getElem?_nil, List.set_cons_zero, List.set_cons_succ, true_and, and_true, ab_cst0, ab_cst1, ab_cst2, ab_cst3, ab_cst4, ab_cst5, ab_up_s, Nat.le_refl, Nat.reduceLT, Nat.reduceLeDiff, Nat.lt_add_one, Nat.zero_le, nz, n1, nI_add, pk_mul, pk_sub, ab_dec1, ab_vin, nI_clamp, ab_m1a, ab_m1b, ab_m1c, ab_m1d, ab_m1e, ab_m1f, ab_up_n, reduceIte, Nat.add_eq_left, Nat.left_eq_add, Nat.add_left_cancel_iff, Nat.reduceEqDiff, not_true_eq_false, not_false_eq_true, ne_eq, or_true, true_or, false_implies, forall_const, if_true, if_false, Nat.reduceMul, Bool.false_eq_true, reduceCtorEq, true_implies, ab_br_t, ab_br_f, ab_br_n, nd_ltT, nd_ltF, nd_leT, nd_leF, nd_eqT, nd_eqF, nM_eq, nM_ltM, nM_leM, Bool.toNat_true, Bool.toNat_false, gq_iconst, gq_bipush, gq_sipush, gq_iload, gq_aload, gq_istore, gq_astore, gq_iinc, gq_iadd, gq_isub, gq_imul, gq_iand, gq_ior, gq_ixor, gq_ishl, gq_ishr, gq_iushr, gq_idiv, gq_irem, gq_ineg, gq_i2l, gq_i2b, gq_dup, gq_dupr, gq_pop, gq_popr, gq_dup2, gq_goto, gq_getfield, gq_putfield, gq_iaload, gq_iastore, gq_baload, gq_ireturn, gq_return_, gq_invokevirtual, gq_invokestatic, gq_invokespecial, gq_nop, gq_new, gq_ldc, gq_ldc_w, gq_newarray, gq_anewarray, gq_getstatic, gq_aaload, gq_aastore, gq_bastore, gq_laload, gq_lastore, gq_lcmp, gq_athrow, gq_arraylength, gq_areturn, gq_if_acmp, gq_lconst, gq_tableswitch, gq_iload_n0, gq_iload_n1, gq_iload_n2, gq_iload_n3, gq_aload_n0, gq_aload_n1, gq_aload_n2, gq_aload_n3, gq_istore_n0, gq_istore_n1, gq_istore_n2, gq_istore_n3, gq_astore_n0, gq_astore_n1, gq_astore_n2, gq_astore_n3, gq_ifCond_eq, gq_ifCond_ne, gq_ifCond_lt, gq_ifCond_ge, gq_ifCond_gt, gq_ifCond_le, gq_if_icmp_eq, gq_if_icmp_ne, gq_if_icmp_lt, gq_if_icmp_ge, gq_if_icmp_gt, gq_if_icmp_le]) | (with_reducible refine ab_br_i ?_ ?_ <;> intro q <;> (try simp (disch := omega) only [ab_leI, ab_ltI, ab_eqI, Nat.not_lt, Nat.not_le, n1, nz] at q)))
        all_goals try clear hb_s hb_66
        exact fin h3 c W1 hk3 (g5.1.trans hw) e2
  · refine bv_v (c_takeN hk.1 hK hb (by omega) (by omega) q) okX5_readLine rfl lX5_38 (t0) rfl rfl rfl ?_
    rintro _ _ h2 ⟨rfl, rfl, hg2, hq2⟩
    show ab_V _ _ 0 0 52 _ [_] _ _
    refine ab_g_v okX5_readLine (cut := [66]) 20 _ _ _ _ _ _ _ _ (ab_sq_b okX5_readLine [66] 52) ?_
    have hb_s : ab_b iX5_readLine [66] 52 = [(52, .ifCond .eq 14, 3, 0, 66), (55, .aload_n 0, 1, 0, 0), (56, .aload_n 1, 1, 0, 0), (57, .iconst 0, 1, 0, 0), (58, .invokevirtual 42, 3, 0, 0), (61, .ifCond .ne 5, 3, 0, 66), (64, .iconst 0, 1, 0, 0), (65, .ireturn, 1, 0, 0), (66, .nop, 0, 0, 0)] := rfl
    have hb_66 : ab_b iX5_readLine [66] 66 = [(66, .nop, 0, 0, 0)] := rfl
    repeat' (first | (simp (disch := omega) only [hb_s, hb_66, mX5_readLine, Nat.beq, ab_l0, List.map_cons, List.map_nil, List.length_cons, List.length_nil, List.cons_append, List.nil_append, List.replicate, Nat.reduceAdd, Nat.reduceSub, List.getElem?_cons_zero, List.getElem?_cons_succ, List.getElem?_nil, List.set_cons_zero, List.set_cons_succ, true_and, and_true, ab_cst0, ab_cst1, ab_cst2, ab_cst3, ab_cst4, ab_cst5, ab_up_s, Nat.le_refl, Nat.reduceLT, Nat.reduceLeDiff, Nat.lt_add_one, Nat.zero_le, nz, n1, nI_add, pk_mul, pk_sub, ab_dec1, ab_vin, nI_clamp, ab_m1a, ab_m1b, ab_m1c, ab_m1d, ab_m1e, ab_m1f, ab_up_n, reduceIte, Nat.add_eq_left, Nat.left_eq_add, Nat.add_left_cancel_iff, Nat.reduceEqDiff, not_true_eq_false, not_false_eq_true, ne_eq, or_true, true_or, false_implies, forall_const, if_true, if_false, Nat.reduceMul, Bool.false_eq_true, reduceCtorEq, true_implies, ab_br_t, ab_br_f, ab_br_n, nd_ltT, nd_ltF, nd_leT, nd_leF, nd_eqT, nd_eqF, nM_eq, nM_ltM, nM_leM, Bool.toNat_true, Bool.toNat_false, gq_iconst, gq_bipush, gq_sipush, gq_iload, gq_aload, gq_istore, gq_astore, gq_iinc, gq_iadd, gq_isub, gq_imul, gq_iand, gq_ior, gq_ixor, gq_ishl, gq_ishr, gq_iushr, gq_idiv, gq_irem, gq_ineg, gq_i2l, gq_i2b, gq_dup, gq_dupr, gq_pop, gq_popr, gq_dup2, gq_goto, gq_getfield, gq_putfield, gq_iaload, gq_iastore, gq_baload, gq_ireturn, gq_return_, gq_invokevirtual, gq_invokestatic, gq_invokespecial, gq_nop, gq_new, gq_ldc, gq_ldc_w, gq_newarray, gq_anewarray, gq_getstatic, gq_aaload, gq_aastore, gq_bastore, gq_laload, gq_lastore, gq_lcmp, gq_athrow, gq_arraylength, gq_areturn, gq_if_acmp, gq_lconst, gq_tableswitch, gq_iload_n0, gq_iload_n1, gq_iload_n2, gq_iload_n3, gq_aload_n0, gq_aload_n1, gq_aload_n2, gq_aload_n3, gq_istore_n0, gq_istore_n1, gq_istore_n2, gq_istore_n3, gq_astore_n0, gq_astore_n1, gq_astore_n2, gq_astore_n3, gq_ifCond_eq, gq_ifCond_ne, gq_ifCond_lt, gq_ifCond_ge, gq_ifCond_gt, gq_ifCond_le, gq_if_icmp_eq, gq_if_icmp_ne, gq_if_icmp_lt, gq_if_icmp_ge, gq_if_icmp_gt, gq_if_icmp_le]) | (with_reducible refine ab_br_i ?_ ?_ <;> intro q <;> (try simp (disch := omega) only [ab_leI, ab_ltI, ab_eqI, Nat.not_lt, Nat.not_le, n1, nz] at q)))
    all_goals try clear hb_s hb_66
    exact fin h2 b W (hk.tk hTR hg2 hq2) hw (by rw [e]; unfold rdW2; rw [if_neg q])
theorem c_lreadLine {W : lw} {a n : Nat} {h1 : ab_H} (hK : tk_ok K) (hTR : T + 4 ≤ R) (hk : lkt h T R K Rr (la_of W) h1 a) (hW : lok W) (hw : W.1 = n + 1) (hn : n < 12) (hsz : W.2.1 ≤ a) (ha : a ≤ K.1) : ab_Con mX5_readLine [.ref R, .ref T] nx h1 (rl_po h T R K nx Rr (rdW K W a)) := by
  refine ab_Con.of (by decide) rfl (Nat.le_of_ble_eq_true rfl) ?_
  have h4 := hK.1
  have hnb := nbr_le K (a + 1) 0 101
  refine ab_g_v okX5_readLine (cut := []) 20 _ _ _ _ _ _ _ _ (ab_sq_b okX5_readLine [] 0) ?_
  have hb_s : ab_b iX5_readLine [] 0 = [(0, .aload_n 1, 1, 0, 0), (1, .invokestatic 18, 3, 0, 0), (4, .istore_n 2, 1, 0, 0), (5, .iload_n 2, 1, 0, 0), (6, .iconst (-1), 1, 0, 0), (7, .if_icmp .ne 5, 3, 0, 12), (10, .iconst 0, 1, 0, 0), (11, .ireturn, 1, 0, 0), (12, .iload_n 2, 1, 0, 0), (13, .iconst 2, 1, 0, 0), (14, .if_icmp .ne 7, 3, 0, 21), (17, .iconst 1, 1, 0, 0), (18, .goto 10, 3, 0, 28), (21, .aload_n 1, 1, 0, 0), (22, .iconst 0, 1, 0, 0), (23, .bipush 100, 2, 0, 0), (25, .invokevirtual 22, 3, 0, 0), (28, .istore_n 3, 1, 0, 0), (29, .iload_n 3, 1, 0, 0), (30, .iconst (-1), 1, 0, 0), (31, .if_icmp .ne 5, 3, 0, 36), (34, .iconst 0, 1, 0, 0), (35, .ireturn, 1, 0, 0), (36, .aload_n 0, 1, 0, 0), (37, .getfield 12, 3, 4, 0), (40, .getfield 28, 3, 3, 6), (43, .istore 4, 2, 0, 0), (45, .aload_n 1, 1, 0, 0), (46, .getstatic 32, 3, 0, 0), (49, .invokevirtual 38, 3, 0, 0), (52, .ifCond .eq 14, 3, 0, 66), (55, .aload_n 0, 1, 0, 0), (56, .aload_n 1, 1, 0, 0), (57, .iconst 0, 1, 0, 0), (58, .invokevirtual 42, 3, 0, 0), (61, .ifCond .ne 5, 3, 0, 66), (64, .iconst 0, 1, 0, 0), (65, .ireturn, 1, 0, 0), (66, .aload_n 0, 1, 0, 0), (67, .getfield 12, 3, 4, 0), (70, .iload_n 2, 1, 0, 0), (71, .iload_n 3, 1, 0, 0), (72, .iload 4, 2, 0, 0), (74, .invokevirtual 46, 3, 0, 0), (77, .iconst 1, 1, 0, 0), (78, .ireturn, 1, 0, 0)] := rfl
  repeat' (first | (simp (disch := omega) only [hb_s, mX5_readLine, Nat.beq, ab_l0, List.map_cons, List.map_nil, List.length_cons, List.length_nil, List.cons_append, List.nil_append, List.replicate, Nat.reduceAdd, Nat.reduceSub, List.getElem?_cons_zero, List.getElem?_cons_succ, List.getElem?_nil, List.set_cons_zero, List.set_cons_succ, true_and, and_true, ab_cst0, ab_cst1, ab_cst2, ab_cst3, ab_cst4, ab_cst5, ab_up_s, Nat.le_refl, Nat.reduceLT, Nat.reduceLeDiff, Nat.lt_add_one, Nat.zero_le, nz, n1, nI_add, pk_mul, pk_sub, ab_dec1, ab_vin, nI_clamp, ab_m1a, ab_m1b, ab_m1c, ab_m1d, ab_m1e, ab_m1f, ab_up_n, reduceIte, Nat.add_eq_left, Nat.left_eq_add, Nat.add_left_cancel_iff, Nat.reduceEqDiff, not_true_eq_false, not_false_eq_true, ne_eq, or_true, true_or, false_implies, forall_const, if_true, if_false, Nat.reduceMul, Bool.false_eq_true, reduceCtorEq, true_implies, ab_br_t, ab_br_f, ab_br_n, nd_ltT, nd_ltF, nd_leT, nd_leF, nd_eqT, nd_eqF, nM_eq, nM_ltM, nM_leM, Bool.toNat_true, Bool.toNat_false, gq_iconst, gq_bipush, gq_sipush, gq_iload, gq_aload, gq_istore, gq_astore, gq_iinc, gq_iadd, gq_isub, gq_imul, gq_iand, gq_ior, gq_ixor, gq_ishl, gq_ishr, gq_iushr, gq_idiv, gq_irem, gq_ineg, gq_i2l, gq_i2b, gq_dup, gq_dupr, gq_pop, gq_popr, gq_dup2, gq_goto, gq_getfield, gq_putfield, gq_iaload, gq_iastore, gq_baload, gq_ireturn, gq_return_, gq_invokevirtual, gq_invokestatic, gq_invokespecial, gq_nop, gq_new, gq_ldc, gq_ldc_w, gq_newarray, gq_anewarray, gq_getstatic, gq_aaload, gq_aastore, gq_bastore, gq_laload, gq_lastore, gq_lcmp, gq_athrow, gq_arraylength, gq_areturn, gq_if_acmp, gq_lconst, gq_tableswitch, gq_iload_n0, gq_iload_n1, gq_iload_n2, gq_iload_n3, gq_aload_n0, gq_aload_n1, gq_aload_n2, gq_aload_n3, gq_istore_n0, gq_istore_n1, gq_istore_n2, gq_istore_n3, gq_astore_n0, gq_astore_n1, gq_astore_n2, gq_astore_n3, gq_ifCond_eq, gq_ifCond_ne, gq_ifCond_lt, gq_ifCond_ge, gq_ifCond_gt, gq_ifCond_le, gq_if_icmp_eq, gq_if_icmp_ne, gq_if_icmp_lt, gq_if_icmp_ge, gq_if_icmp_gt, gq_if_icmp_le]) | (with_reducible refine ab_br_i ?_ ?_ <;> intro q <;> (try simp (disch := omega) only [ab_leI, ab_ltI, ab_eqI, Nat.not_lt, Nat.not_le, n1, nz] at q)))
  all_goals try clear hb_s
  refine bv_s (c_takeLineKind hk.1 hK ha) okX5_readLine rfl lX5_18 rfl rfl ?_
  rintro _ nx h2 ⟨rfl, rfl, hg2, hq2⟩
  show ab_V _ _ 0 0 4 _ [_] _ _
  have hk2 := hk.tk hTR hg2 hq2
  have num : ∀ kd, kd < 2 → (la_n (lkd K a)) = nI kd → K.2.1 a ≠ 0 → adv a (lkd K a) = a + 1 → rdW K W a = (if nbr K (a + 1) 0 101 = 0 then (a + 1, none) else rdW2 K W kd (nbr K (a + 1) 0 101 - 1) (a + 2)) → ab_V mX5_readLine (rl_po h T R K nx Rr (rdW K W a)) 0 0 4 [some (.ref R), some (.ref T), none, none, none] [.int (la_n (lkd K a))] nx h2 := by
    intro kd hkd e1 hk0 e3 e4
    rw [e3] at hk2
    rw [e1]
    have hlt := tk_lt hK ha hk0
    obtain ⟨sz, t0, -⟩ := hk2.1.nx
    have hne : (nI kd = nI 2) = False := nd_eqF (by omega) (by omega) (by omega)
    refine ab_g_v okX5_readLine (cut := []) 20 _ _ _ _ _ _ _ _ (ab_sq_b okX5_readLine [] 4) ?_
    have hb_s : ab_b iX5_readLine [] 4 = [(4, .istore_n 2, 1, 0, 0), (5, .iload_n 2, 1, 0, 0), (6, .iconst (-1), 1, 0, 0), (7, .if_icmp .ne 5, 3, 0, 12), (10, .iconst 0, 1, 0, 0), (11, .ireturn, 1, 0, 0), (12, .iload_n 2, 1, 0, 0), (13, .iconst 2, 1, 0, 0), (14, .if_icmp .ne 7, 3, 0, 21), (17, .iconst 1, 1, 0, 0), (18, .goto 10, 3, 0, 28), (21, .aload_n 1, 1, 0, 0), (22, .iconst 0, 1, 0, 0), (23, .bipush 100, 2, 0, 0), (25, .invokevirtual 22, 3, 0, 0), (28, .istore_n 3, 1, 0, 0), (29, .iload_n 3, 1, 0, 0), (30, .iconst (-1), 1, 0, 0), (31, .if_icmp .ne 5, 3, 0, 36), (34, .iconst 0, 1, 0, 0), (35, .ireturn, 1, 0, 0), (36, .aload_n 0, 1, 0, 0), (37, .getfield 12, 3, 4, 0), (40, .getfield 28, 3, 3, 6), (43, .istore 4, 2, 0, 0), (45, .aload_n 1, 1, 0, 0), (46, .getstatic 32, 3, 0, 0), (49, .invokevirtual 38, 3, 0, 0), (52, .ifCond .eq 14, 3, 0, 66), (55, .aload_n 0, 1, 0, 0), (56, .aload_n 1, 1, 0, 0), (57, .iconst 0, 1, 0, 0), (58, .invokevirtual 42, 3, 0, 0), (61, .ifCond .ne 5, 3, 0, 66), (64, .iconst 0, 1, 0, 0), (65, .ireturn, 1, 0, 0), (66, .aload_n 0, 1, 0, 0), (67, .getfield 12, 3, 4, 0), (70, .iload_n 2, 1, 0, 0), (71, .iload_n 3, 1, 0, 0), (72, .iload 4, 2, 0, 0), (74, .invokevirtual 46, 3, 0, 0), (77, .iconst 1, 1, 0, 0), (78, .ireturn, 1, 0, 0)] := rfl
    have hb_12 : ab_b iX5_readLine [] 12 = [(12, .iload_n 2, 1, 0, 0), (13, .iconst 2, 1, 0, 0), (14, .if_icmp .ne 7, 3, 0, 21), (17, .iconst 1, 1, 0, 0), (18, .goto 10, 3, 0, 28), (21, .aload_n 1, 1, 0, 0), (22, .iconst 0, 1, 0, 0), (23, .bipush 100, 2, 0, 0), (25, .invokevirtual 22, 3, 0, 0), (28, .istore_n 3, 1, 0, 0), (29, .iload_n 3, 1, 0, 0), (30, .iconst (-1), 1, 0, 0), (31, .if_icmp .ne 5, 3, 0, 36), (34, .iconst 0, 1, 0, 0), (35, .ireturn, 1, 0, 0), (36, .aload_n 0, 1, 0, 0), (37, .getfield 12, 3, 4, 0), (40, .getfield 28, 3, 3, 6), (43, .istore 4, 2, 0, 0), (45, .aload_n 1, 1, 0, 0), (46, .getstatic 32, 3, 0, 0), (49, .invokevirtual 38, 3, 0, 0), (52, .ifCond .eq 14, 3, 0, 66), (55, .aload_n 0, 1, 0, 0), (56, .aload_n 1, 1, 0, 0), (57, .iconst 0, 1, 0, 0), (58, .invokevirtual 42, 3, 0, 0), (61, .ifCond .ne 5, 3, 0, 66), (64, .iconst 0, 1, 0, 0), (65, .ireturn, 1, 0, 0), (66, .aload_n 0, 1, 0, 0), (67, .getfield 12, 3, 4, 0), (70, .iload_n 2, 1, 0, 0), (71, .iload_n 3, 1, 0, 0), (72, .iload 4, 2, 0, 0), (74, .invokevirtual 46, 3, 0, 0), (77, .iconst 1, 1, 0, 0), (78, .ireturn, 1, 0, 0)] := rfl
    have hb_21 : ab_b iX5_readLine [] 21 = [(21, .aload_n 1, 1, 0, 0), (22, .iconst 0, 1, 0, 0), (23, .bipush 100, 2, 0, 0), (25, .invokevirtual 22, 3, 0, 0), (28, .istore_n 3, 1, 0, 0), (29, .iload_n 3, 1, 0, 0), (30, .iconst (-1), 1, 0, 0), (31, .if_icmp .ne 5, 3, 0, 36), (34, .iconst 0, 1, 0, 0), (35, .ireturn, 1, 0, 0), (36, .aload_n 0, 1, 0, 0), (37, .getfield 12, 3, 4, 0), (40, .getfield 28, 3, 3, 6), (43, .istore 4, 2, 0, 0), (45, .aload_n 1, 1, 0, 0), (46, .getstatic 32, 3, 0, 0), (49, .invokevirtual 38, 3, 0, 0), (52, .ifCond .eq 14, 3, 0, 66), (55, .aload_n 0, 1, 0, 0), (56, .aload_n 1, 1, 0, 0), (57, .iconst 0, 1, 0, 0), (58, .invokevirtual 42, 3, 0, 0), (61, .ifCond .ne 5, 3, 0, 66), (64, .iconst 0, 1, 0, 0), (65, .ireturn, 1, 0, 0), (66, .aload_n 0, 1, 0, 0), (67, .getfield 12, 3, 4, 0), (70, .iload_n 2, 1, 0, 0), (71, .iload_n 3, 1, 0, 0), (72, .iload 4, 2, 0, 0), (74, .invokevirtual 46, 3, 0, 0), (77, .iconst 1, 1, 0, 0), (78, .ireturn, 1, 0, 0)] := rfl
    have hb_28 : ab_b iX5_readLine [] 28 = [(28, .istore_n 3, 1, 0, 0), (29, .iload_n 3, 1, 0, 0), (30, .iconst (-1), 1, 0, 0), (31, .if_icmp .ne 5, 3, 0, 36), (34, .iconst 0, 1, 0, 0), (35, .ireturn, 1, 0, 0), (36, .aload_n 0, 1, 0, 0), (37, .getfield 12, 3, 4, 0), (40, .getfield 28, 3, 3, 6), (43, .istore 4, 2, 0, 0), (45, .aload_n 1, 1, 0, 0), (46, .getstatic 32, 3, 0, 0), (49, .invokevirtual 38, 3, 0, 0), (52, .ifCond .eq 14, 3, 0, 66), (55, .aload_n 0, 1, 0, 0), (56, .aload_n 1, 1, 0, 0), (57, .iconst 0, 1, 0, 0), (58, .invokevirtual 42, 3, 0, 0), (61, .ifCond .ne 5, 3, 0, 66), (64, .iconst 0, 1, 0, 0), (65, .ireturn, 1, 0, 0), (66, .aload_n 0, 1, 0, 0), (67, .getfield 12, 3, 4, 0), (70, .iload_n 2, 1, 0, 0), (71, .iload_n 3, 1, 0, 0), (72, .iload 4, 2, 0, 0), (74, .invokevirtual 46, 3, 0, 0), (77, .iconst 1, 1, 0, 0), (78, .ireturn, 1, 0, 0)] := rfl
    have hb_36 : ab_b iX5_readLine [] 36 = [(36, .aload_n 0, 1, 0, 0), (37, .getfield 12, 3, 4, 0), (40, .getfield 28, 3, 3, 6), (43, .istore 4, 2, 0, 0), (45, .aload_n 1, 1, 0, 0), (46, .getstatic 32, 3, 0, 0), (49, .invokevirtual 38, 3, 0, 0), (52, .ifCond .eq 14, 3, 0, 66), (55, .aload_n 0, 1, 0, 0), (56, .aload_n 1, 1, 0, 0), (57, .iconst 0, 1, 0, 0), (58, .invokevirtual 42, 3, 0, 0), (61, .ifCond .ne 5, 3, 0, 66), (64, .iconst 0, 1, 0, 0), (65, .ireturn, 1, 0, 0), (66, .aload_n 0, 1, 0, 0), (67, .getfield 12, 3, 4, 0), (70, .iload_n 2, 1, 0, 0), (71, .iload_n 3, 1, 0, 0), (72, .iload 4, 2, 0, 0), (74, .invokevirtual 46, 3, 0, 0), (77, .iconst 1, 1, 0, 0), (78, .ireturn, 1, 0, 0)] := rfl
    repeat' (first | (simp (disch := omega) only [hb_s, hb_12, hb_21, hb_28, hb_36, mX5_readLine, Nat.beq, ab_l0, List.map_cons, List.map_nil, List.length_cons, List.length_nil, List.cons_append, List.nil_append, List.replicate, Nat.reduceAdd, Nat.reduceSub, List.getElem?_cons_zero, List.getElem?_cons_succ, List.getElem?_nil, List.set_cons_zero, List.set_cons_succ, true_and, and_true, ab_cst0, ab_cst1, ab_cst2, ab_cst3, ab_cst4, ab_cst5, ab_up_s, Nat.le_refl, Nat.reduceLT, Nat.reduceLeDiff, Nat.lt_add_one, Nat.zero_le, nz, n1, nI_add, pk_mul, pk_sub, ab_dec1, ab_vin, nI_clamp, ab_m1a, ab_m1b, ab_m1c, ab_m1d, ab_m1e, ab_m1f, ab_up_n, reduceIte, Nat.add_eq_left, Nat.left_eq_add, Nat.add_left_cancel_iff, Nat.reduceEqDiff, not_true_eq_false, not_false_eq_true, ne_eq, or_true, true_or, false_implies, forall_const, if_true, if_false, Nat.reduceMul, Bool.false_eq_true, reduceCtorEq, true_implies, ab_br_t, ab_br_f, ab_br_n, nd_ltT, nd_ltF, nd_leT, nd_leF, nd_eqT, nd_eqF, nM_eq, nM_ltM, nM_leM, Bool.toNat_true, Bool.toNat_false, gq_iconst, gq_bipush, gq_sipush, gq_iload, gq_aload, gq_istore, gq_astore, gq_iinc, gq_iadd, gq_isub, gq_imul, gq_iand, gq_ior, gq_ixor, gq_ishl, gq_ishr, gq_iushr, gq_idiv, gq_irem, gq_ineg, gq_i2l, gq_i2b, gq_dup, gq_dupr, gq_pop, gq_popr, gq_dup2, gq_goto, gq_getfield, gq_putfield, gq_iaload, gq_iastore, gq_baload, gq_ireturn, gq_return_, gq_invokevirtual, gq_invokestatic, gq_invokespecial, gq_nop, gq_new, gq_ldc, gq_ldc_w, gq_newarray, gq_anewarray, gq_getstatic, gq_aaload, gq_aastore, gq_bastore, gq_laload, gq_lastore, gq_lcmp, gq_athrow, gq_arraylength, gq_areturn, gq_if_acmp, gq_lconst, gq_tableswitch, gq_iload_n0, gq_iload_n1, gq_iload_n2, gq_iload_n3, gq_aload_n0, gq_aload_n1, gq_aload_n2, gq_aload_n3, gq_istore_n0, gq_istore_n1, gq_istore_n2, gq_istore_n3, gq_astore_n0, gq_astore_n1, gq_astore_n2, gq_astore_n3, gq_ifCond_eq, gq_ifCond_ne, gq_ifCond_lt, gq_ifCond_ge, gq_ifCond_gt, gq_ifCond_le, gq_if_icmp_eq, gq_if_icmp_ne, gq_if_icmp_lt, gq_if_icmp_ge, gq_if_icmp_gt, gq_if_icmp_le]) | (with_reducible refine ab_br_i ?_ ?_ <;> intro q <;> (try simp (disch := omega) only [ab_leI, ab_ltI, ab_eqI, Nat.not_lt, Nat.not_le, n1, nz] at q)))
    all_goals try clear hb_s hb_12 hb_21 hb_28 hb_36
    refine bv_v (c_takeNumber (lo := 0) (hi := 101) hk2.1 hK hlt (by omega) (by omega)) okX5_readLine rfl lX5_22 (t0) rfl rfl rfl ?_
    rintro _ _ h3 ⟨rfl, rfl, hg3, hq3⟩
    show ab_V _ _ 0 0 28 _ [_] _ _
    have hk3 := hk2.tk hTR hg3 hq3
    by_cases q : nbr K (a + 1) 0 101 = 0
    · rw [adv_n q] at hk3
      rw [if_pos q] at e4
      rw [q]
      refine ab_g_v okX5_readLine (cut := [36]) 20 _ _ _ _ _ _ _ _ (ab_sq_b okX5_readLine [36] 28) ?_
      have hb_s : ab_b iX5_readLine [36] 28 = [(28, .istore_n 3, 1, 0, 0), (29, .iload_n 3, 1, 0, 0), (30, .iconst (-1), 1, 0, 0), (31, .if_icmp .ne 5, 3, 0, 36), (34, .iconst 0, 1, 0, 0), (35, .ireturn, 1, 0, 0), (36, .nop, 0, 0, 0)] := rfl
      have hb_36 : ab_b iX5_readLine [36] 36 = [(36, .nop, 0, 0, 0)] := rfl
      repeat' (first | (simp (disch := omega) only [hb_s, hb_36, mX5_readLine, Nat.beq, ab_l0, List.map_cons, List.map_nil, List.length_cons, List.length_nil, List.cons_append, List.nil_append, List.replicate, Nat.reduceAdd, Nat.reduceSub, List.getElem?_cons_zero, List.getElem?_cons_succ, List.getElem?_nil, List.set_cons_zero, List.set_cons_succ, true_and, and_true, ab_cst0, ab_cst1, ab_cst2, ab_cst3, ab_cst4, ab_cst5, ab_up_s, Nat.le_refl, Nat.reduceLT, Nat.reduceLeDiff, Nat.lt_add_one, Nat.zero_le, nz, n1, nI_add, pk_mul, pk_sub, ab_dec1, ab_vin, nI_clamp, ab_m1a, ab_m1b, ab_m1c, ab_m1d, ab_m1e, ab_m1f, ab_up_n, reduceIte, Nat.add_eq_left, Nat.left_eq_add, Nat.add_left_cancel_iff, Nat.reduceEqDiff, not_true_eq_false, not_false_eq_true, ne_eq, or_true, true_or, false_implies, forall_const, if_true, if_false, Nat.reduceMul, Bool.false_eq_true, reduceCtorEq, true_implies, ab_br_t, ab_br_f, ab_br_n, nd_ltT, nd_ltF, nd_leT, nd_leF, nd_eqT, nd_eqF, nM_eq, nM_ltM, nM_leM, Bool.toNat_true, Bool.toNat_false, gq_iconst, gq_bipush, gq_sipush, gq_iload, gq_aload, gq_istore, gq_astore, gq_iinc, gq_iadd, gq_isub, gq_imul, gq_iand, gq_ior, gq_ixor, gq_ishl, gq_ishr, gq_iushr, gq_idiv, gq_irem, gq_ineg, gq_i2l, gq_i2b, gq_dup, gq_dupr, gq_pop, gq_popr, gq_dup2, gq_goto, gq_getfield, gq_putfield, gq_iaload, gq_iastore, gq_baload, gq_ireturn, gq_return_, gq_invokevirtual, gq_invokestatic, gq_invokespecial, gq_nop, gq_new, gq_ldc, gq_ldc_w, gq_newarray, gq_anewarray, gq_getstatic, gq_aaload, gq_aastore, gq_bastore, gq_laload, gq_lastore, gq_lcmp, gq_athrow, gq_arraylength, gq_areturn, gq_if_acmp, gq_lconst, gq_tableswitch, gq_iload_n0, gq_iload_n1, gq_iload_n2, gq_iload_n3, gq_aload_n0, gq_aload_n1, gq_aload_n2, gq_aload_n3, gq_istore_n0, gq_istore_n1, gq_istore_n2, gq_istore_n3, gq_astore_n0, gq_astore_n1, gq_astore_n2, gq_astore_n3, gq_ifCond_eq, gq_ifCond_ne, gq_ifCond_lt, gq_ifCond_ge, gq_ifCond_gt, gq_ifCond_le, gq_if_icmp_eq, gq_if_icmp_ne, gq_if_icmp_lt, gq_if_icmp_ge, gq_if_icmp_gt, gq_if_icmp_le, la_n]) | (with_reducible refine ab_br_i ?_ ?_ <;> intro q <;> (try simp (disch := omega) only [ab_leI, ab_ltI, ab_eqI, Nat.not_lt, Nat.not_le, n1, nz] at q)))
      all_goals try clear hb_s hb_36
      exact rl_no hk3 hW.2.2.2.1 e4
    · rw [adv_y q] at hk3
      rw [if_neg q] at e4
      rw [la_p1 q]
      refine ab_g_v okX5_readLine (cut := [36]) 20 _ _ _ _ _ _ _ _ (ab_sq_b okX5_readLine [36] 28) ?_
      have hb_s : ab_b iX5_readLine [36] 28 = [(28, .istore_n 3, 1, 0, 0), (29, .iload_n 3, 1, 0, 0), (30, .iconst (-1), 1, 0, 0), (31, .if_icmp .ne 5, 3, 0, 36), (34, .iconst 0, 1, 0, 0), (35, .ireturn, 1, 0, 0), (36, .nop, 0, 0, 0)] := rfl
      have hb_36 : ab_b iX5_readLine [36] 36 = [(36, .nop, 0, 0, 0)] := rfl
      repeat' (first | (simp (disch := omega) only [hb_s, hb_36, mX5_readLine, Nat.beq, ab_l0, List.map_cons, List.map_nil, List.length_cons, List.length_nil, List.cons_append, List.nil_append, List.replicate, Nat.reduceAdd, Nat.reduceSub, List.getElem?_cons_zero, List.getElem?_cons_succ, List.getElem?_nil, List.set_cons_zero, List.set_cons_succ, true_and, and_true, ab_cst0, ab_cst1, ab_cst2, ab_cst3, ab_cst4, ab_cst5, ab_up_s, Nat.le_refl, Nat.reduceLT, Nat.reduceLeDiff, Nat.lt_add_one, Nat.zero_le, nz, n1, nI_add, pk_mul, pk_sub, ab_dec1, ab_vin, nI_clamp, ab_m1a, ab_m1b, ab_m1c, ab_m1d, ab_m1e, ab_m1f, ab_up_n, reduceIte, Nat.add_eq_left, Nat.left_eq_add, Nat.add_left_cancel_iff, Nat.reduceEqDiff, not_true_eq_false, not_false_eq_true, ne_eq, or_true, true_or, false_implies, forall_const, if_true, if_false, Nat.reduceMul, Bool.false_eq_true, reduceCtorEq, true_implies, ab_br_t, ab_br_f, ab_br_n, nd_ltT, nd_ltF, nd_leT, nd_leF, nd_eqT, nd_eqF, nM_eq, nM_ltM, nM_leM, Bool.toNat_true, Bool.toNat_false, gq_iconst, gq_bipush, gq_sipush, gq_iload, gq_aload, gq_istore, gq_astore, gq_iinc, gq_iadd, gq_isub, gq_imul, gq_iand, gq_ior, gq_ixor, gq_ishl, gq_ishr, gq_iushr, gq_idiv, gq_irem, gq_ineg, gq_i2l, gq_i2b, gq_dup, gq_dupr, gq_pop, gq_popr, gq_dup2, gq_goto, gq_getfield, gq_putfield, gq_iaload, gq_iastore, gq_baload, gq_ireturn, gq_return_, gq_invokevirtual, gq_invokestatic, gq_invokespecial, gq_nop, gq_new, gq_ldc, gq_ldc_w, gq_newarray, gq_anewarray, gq_getstatic, gq_aaload, gq_aastore, gq_bastore, gq_laload, gq_lastore, gq_lcmp, gq_athrow, gq_arraylength, gq_areturn, gq_if_acmp, gq_lconst, gq_tableswitch, gq_iload_n0, gq_iload_n1, gq_iload_n2, gq_iload_n3, gq_aload_n0, gq_aload_n1, gq_aload_n2, gq_aload_n3, gq_istore_n0, gq_istore_n1, gq_istore_n2, gq_istore_n3, gq_astore_n0, gq_astore_n1, gq_astore_n2, gq_astore_n3, gq_ifCond_eq, gq_ifCond_ne, gq_ifCond_lt, gq_ifCond_ge, gq_ifCond_gt, gq_ifCond_le, gq_if_icmp_eq, gq_if_icmp_ne, gq_if_icmp_lt, gq_if_icmp_ge, gq_if_icmp_gt, gq_if_icmp_le]) | (with_reducible refine ab_br_i ?_ ?_ <;> intro q <;> (try simp (disch := omega) only [ab_leI, ab_ltI, ab_eqI, Nat.not_lt, Nat.not_le, n1, nz] at q)))
      all_goals try clear hb_s hb_36
      exact rl_2 hK hTR hk3 hW hw hn (by omega) (tk_lt hK hlt (nbr_k q)) (by omega) (by omega) e4
  by_cases q0 : K.2.1 a = 22
  · have e : lkd K a = 1 := if_pos q0
    exact num 0 (by omega) (by rw [e]; rfl) (by omega) (by rw [e]; rfl) (by unfold rdW; rw [if_pos q0])
  · by_cases q1 : K.2.1 a = 23
    · have e : lkd K a = 2 := by unfold lkd; rw [if_neg q0, if_pos q1]
      exact num 1 (by omega) (by rw [e]; rfl) (by omega) (by rw [e]; rfl) (by unfold rdW; rw [if_neg q0, if_pos q1])
    · by_cases q2 : K.2.1 a = 24
      · have e : lkd K a = 3 := by unfold lkd; rw [if_neg q0, if_neg q1, if_pos q2]
        have hlt := tk_lt hK ha (by omega)
        rw [e] at hk2
        rw [e]
        have e9 : la_n 3 = nI 2 := rfl
        rw [e9]
        refine ab_g_v okX5_readLine (cut := [36]) 20 _ _ _ _ _ _ _ _ (ab_sq_b okX5_readLine [36] 4) ?_
        have hb_s : ab_b iX5_readLine [36] 4 = [(4, .istore_n 2, 1, 0, 0), (5, .iload_n 2, 1, 0, 0), (6, .iconst (-1), 1, 0, 0), (7, .if_icmp .ne 5, 3, 0, 12), (10, .iconst 0, 1, 0, 0), (11, .ireturn, 1, 0, 0), (12, .iload_n 2, 1, 0, 0), (13, .iconst 2, 1, 0, 0), (14, .if_icmp .ne 7, 3, 0, 21), (17, .iconst 1, 1, 0, 0), (18, .goto 10, 3, 0, 28), (21, .aload_n 1, 1, 0, 0), (22, .iconst 0, 1, 0, 0), (23, .bipush 100, 2, 0, 0), (25, .invokevirtual 22, 3, 0, 0), (28, .istore_n 3, 1, 0, 0), (29, .iload_n 3, 1, 0, 0), (30, .iconst (-1), 1, 0, 0), (31, .if_icmp .ne 5, 3, 0, 36), (34, .iconst 0, 1, 0, 0), (35, .ireturn, 1, 0, 0), (36, .nop, 0, 0, 0)] := rfl
        have hb_12 : ab_b iX5_readLine [36] 12 = [(12, .iload_n 2, 1, 0, 0), (13, .iconst 2, 1, 0, 0), (14, .if_icmp .ne 7, 3, 0, 21), (17, .iconst 1, 1, 0, 0), (18, .goto 10, 3, 0, 28), (21, .aload_n 1, 1, 0, 0), (22, .iconst 0, 1, 0, 0), (23, .bipush 100, 2, 0, 0), (25, .invokevirtual 22, 3, 0, 0), (28, .istore_n 3, 1, 0, 0), (29, .iload_n 3, 1, 0, 0), (30, .iconst (-1), 1, 0, 0), (31, .if_icmp .ne 5, 3, 0, 36), (34, .iconst 0, 1, 0, 0), (35, .ireturn, 1, 0, 0), (36, .nop, 0, 0, 0)] := rfl
        have hb_21 : ab_b iX5_readLine [36] 21 = [(21, .aload_n 1, 1, 0, 0), (22, .iconst 0, 1, 0, 0), (23, .bipush 100, 2, 0, 0), (25, .invokevirtual 22, 3, 0, 0), (28, .istore_n 3, 1, 0, 0), (29, .iload_n 3, 1, 0, 0), (30, .iconst (-1), 1, 0, 0), (31, .if_icmp .ne 5, 3, 0, 36), (34, .iconst 0, 1, 0, 0), (35, .ireturn, 1, 0, 0), (36, .nop, 0, 0, 0)] := rfl
        have hb_28 : ab_b iX5_readLine [36] 28 = [(28, .istore_n 3, 1, 0, 0), (29, .iload_n 3, 1, 0, 0), (30, .iconst (-1), 1, 0, 0), (31, .if_icmp .ne 5, 3, 0, 36), (34, .iconst 0, 1, 0, 0), (35, .ireturn, 1, 0, 0), (36, .nop, 0, 0, 0)] := rfl
        have hb_36 : ab_b iX5_readLine [36] 36 = [(36, .nop, 0, 0, 0)] := rfl
        repeat' (first | (simp (disch := omega) only [hb_s, hb_12, hb_21, hb_28, hb_36, mX5_readLine, Nat.beq, ab_l0, List.map_cons, List.map_nil, List.length_cons, List.length_nil, List.cons_append, List.nil_append, List.replicate, Nat.reduceAdd, Nat.reduceSub, List.getElem?_cons_zero, List.getElem?_cons_succ, List.getElem?_nil, List.set_cons_zero, List.set_cons_succ, true_and, and_true, ab_cst0, ab_cst1, ab_cst2, ab_cst3, ab_cst4, ab_cst5, ab_up_s, Nat.le_refl, Nat.reduceLT, Nat.reduceLeDiff, Nat.lt_add_one, Nat.zero_le, nz, n1, nI_add, pk_mul, pk_sub, ab_dec1, ab_vin, nI_clamp, ab_m1a, ab_m1b, ab_m1c, ab_m1d, ab_m1e, ab_m1f, ab_up_n, reduceIte, Nat.add_eq_left, Nat.left_eq_add, Nat.add_left_cancel_iff, Nat.reduceEqDiff, not_true_eq_false, not_false_eq_true, ne_eq, or_true, true_or, false_implies, forall_const, if_true, if_false, Nat.reduceMul, Bool.false_eq_true, reduceCtorEq, true_implies, ab_br_t, ab_br_f, ab_br_n, nd_ltT, nd_ltF, nd_leT, nd_leF, nd_eqT, nd_eqF, nM_eq, nM_ltM, nM_leM, Bool.toNat_true, Bool.toNat_false, gq_iconst, gq_bipush, gq_sipush, gq_iload, gq_aload, gq_istore, gq_astore, gq_iinc, gq_iadd, gq_isub, gq_imul, gq_iand, gq_ior, gq_ixor, gq_ishl, gq_ishr, gq_iushr, gq_idiv, gq_irem, gq_ineg, gq_i2l, gq_i2b, gq_dup, gq_dupr, gq_pop, gq_popr, gq_dup2, gq_goto, gq_getfield, gq_putfield, gq_iaload, gq_iastore, gq_baload, gq_ireturn, gq_return_, gq_invokevirtual, gq_invokestatic, gq_invokespecial, gq_nop, gq_new, gq_ldc, gq_ldc_w, gq_newarray, gq_anewarray, gq_getstatic, gq_aaload, gq_aastore, gq_bastore, gq_laload, gq_lastore, gq_lcmp, gq_athrow, gq_arraylength, gq_areturn, gq_if_acmp, gq_lconst, gq_tableswitch, gq_iload_n0, gq_iload_n1, gq_iload_n2, gq_iload_n3, gq_aload_n0, gq_aload_n1, gq_aload_n2, gq_aload_n3, gq_istore_n0, gq_istore_n1, gq_istore_n2, gq_istore_n3, gq_astore_n0, gq_astore_n1, gq_astore_n2, gq_astore_n3, gq_ifCond_eq, gq_ifCond_ne, gq_ifCond_lt, gq_ifCond_ge, gq_ifCond_gt, gq_ifCond_le, gq_if_icmp_eq, gq_if_icmp_ne, gq_if_icmp_lt, gq_if_icmp_ge, gq_if_icmp_gt, gq_if_icmp_le]) | (with_reducible refine ab_br_i ?_ ?_ <;> intro q <;> (try simp (disch := omega) only [ab_leI, ab_ltI, ab_eqI, Nat.not_lt, Nat.not_le, n1, nz] at q)))
        all_goals try clear hb_s hb_12 hb_21 hb_28 hb_36
        exact rl_2 (kd := 2) (am := 1) hK hTR hk2 hW hw hn (by show W.2.1 < a + 1; omega) hlt (by omega) (by omega) (by unfold rdW; rw [if_neg q0, if_neg q1, if_pos q2]; rfl)
      · have e : lkd K a = 0 := by unfold lkd; rw [if_neg q0, if_neg q1, if_neg q2]
        rw [e] at hk2
        rw [e]
        refine ab_g_v okX5_readLine (cut := [36]) 20 _ _ _ _ _ _ _ _ (ab_sq_b okX5_readLine [36] 4) ?_
        have hb_s : ab_b iX5_readLine [36] 4 = [(4, .istore_n 2, 1, 0, 0), (5, .iload_n 2, 1, 0, 0), (6, .iconst (-1), 1, 0, 0), (7, .if_icmp .ne 5, 3, 0, 12), (10, .iconst 0, 1, 0, 0), (11, .ireturn, 1, 0, 0), (12, .iload_n 2, 1, 0, 0), (13, .iconst 2, 1, 0, 0), (14, .if_icmp .ne 7, 3, 0, 21), (17, .iconst 1, 1, 0, 0), (18, .goto 10, 3, 0, 28), (21, .aload_n 1, 1, 0, 0), (22, .iconst 0, 1, 0, 0), (23, .bipush 100, 2, 0, 0), (25, .invokevirtual 22, 3, 0, 0), (28, .istore_n 3, 1, 0, 0), (29, .iload_n 3, 1, 0, 0), (30, .iconst (-1), 1, 0, 0), (31, .if_icmp .ne 5, 3, 0, 36), (34, .iconst 0, 1, 0, 0), (35, .ireturn, 1, 0, 0), (36, .nop, 0, 0, 0)] := rfl
        have hb_12 : ab_b iX5_readLine [36] 12 = [(12, .iload_n 2, 1, 0, 0), (13, .iconst 2, 1, 0, 0), (14, .if_icmp .ne 7, 3, 0, 21), (17, .iconst 1, 1, 0, 0), (18, .goto 10, 3, 0, 28), (21, .aload_n 1, 1, 0, 0), (22, .iconst 0, 1, 0, 0), (23, .bipush 100, 2, 0, 0), (25, .invokevirtual 22, 3, 0, 0), (28, .istore_n 3, 1, 0, 0), (29, .iload_n 3, 1, 0, 0), (30, .iconst (-1), 1, 0, 0), (31, .if_icmp .ne 5, 3, 0, 36), (34, .iconst 0, 1, 0, 0), (35, .ireturn, 1, 0, 0), (36, .nop, 0, 0, 0)] := rfl
        have hb_21 : ab_b iX5_readLine [36] 21 = [(21, .aload_n 1, 1, 0, 0), (22, .iconst 0, 1, 0, 0), (23, .bipush 100, 2, 0, 0), (25, .invokevirtual 22, 3, 0, 0), (28, .istore_n 3, 1, 0, 0), (29, .iload_n 3, 1, 0, 0), (30, .iconst (-1), 1, 0, 0), (31, .if_icmp .ne 5, 3, 0, 36), (34, .iconst 0, 1, 0, 0), (35, .ireturn, 1, 0, 0), (36, .nop, 0, 0, 0)] := rfl
        have hb_28 : ab_b iX5_readLine [36] 28 = [(28, .istore_n 3, 1, 0, 0), (29, .iload_n 3, 1, 0, 0), (30, .iconst (-1), 1, 0, 0), (31, .if_icmp .ne 5, 3, 0, 36), (34, .iconst 0, 1, 0, 0), (35, .ireturn, 1, 0, 0), (36, .nop, 0, 0, 0)] := rfl
        have hb_36 : ab_b iX5_readLine [36] 36 = [(36, .nop, 0, 0, 0)] := rfl
        repeat' (first | (simp (disch := omega) only [hb_s, hb_12, hb_21, hb_28, hb_36, mX5_readLine, Nat.beq, ab_l0, List.map_cons, List.map_nil, List.length_cons, List.length_nil, List.cons_append, List.nil_append, List.replicate, Nat.reduceAdd, Nat.reduceSub, List.getElem?_cons_zero, List.getElem?_cons_succ, List.getElem?_nil, List.set_cons_zero, List.set_cons_succ, true_and, and_true, ab_cst0, ab_cst1, ab_cst2, ab_cst3, ab_cst4, ab_cst5, ab_up_s, Nat.le_refl, Nat.reduceLT, Nat.reduceLeDiff, Nat.lt_add_one, Nat.zero_le, nz, n1, nI_add, pk_mul, pk_sub, ab_dec1, ab_vin, nI_clamp, ab_m1a, ab_m1b, ab_m1c, ab_m1d, ab_m1e, ab_m1f, ab_up_n, reduceIte, Nat.add_eq_left, Nat.left_eq_add, Nat.add_left_cancel_iff, Nat.reduceEqDiff, not_true_eq_false, not_false_eq_true, ne_eq, or_true, true_or, false_implies, forall_const, if_true, if_false, Nat.reduceMul, Bool.false_eq_true, reduceCtorEq, true_implies, ab_br_t, ab_br_f, ab_br_n, nd_ltT, nd_ltF, nd_leT, nd_leF, nd_eqT, nd_eqF, nM_eq, nM_ltM, nM_leM, Bool.toNat_true, Bool.toNat_false, gq_iconst, gq_bipush, gq_sipush, gq_iload, gq_aload, gq_istore, gq_astore, gq_iinc, gq_iadd, gq_isub, gq_imul, gq_iand, gq_ior, gq_ixor, gq_ishl, gq_ishr, gq_iushr, gq_idiv, gq_irem, gq_ineg, gq_i2l, gq_i2b, gq_dup, gq_dupr, gq_pop, gq_popr, gq_dup2, gq_goto, gq_getfield, gq_putfield, gq_iaload, gq_iastore, gq_baload, gq_ireturn, gq_return_, gq_invokevirtual, gq_invokestatic, gq_invokespecial, gq_nop, gq_new, gq_ldc, gq_ldc_w, gq_newarray, gq_anewarray, gq_getstatic, gq_aaload, gq_aastore, gq_bastore, gq_laload, gq_lastore, gq_lcmp, gq_athrow, gq_arraylength, gq_areturn, gq_if_acmp, gq_lconst, gq_tableswitch, gq_iload_n0, gq_iload_n1, gq_iload_n2, gq_iload_n3, gq_aload_n0, gq_aload_n1, gq_aload_n2, gq_aload_n3, gq_istore_n0, gq_istore_n1, gq_istore_n2, gq_istore_n3, gq_astore_n0, gq_astore_n1, gq_astore_n2, gq_astore_n3, gq_ifCond_eq, gq_ifCond_ne, gq_ifCond_lt, gq_ifCond_ge, gq_ifCond_gt, gq_ifCond_le, gq_if_icmp_eq, gq_if_icmp_ne, gq_if_icmp_lt, gq_if_icmp_ge, gq_if_icmp_gt, gq_if_icmp_le, la_n]) | (with_reducible refine ab_br_i ?_ ?_ <;> intro q <;> (try simp (disch := omega) only [ab_leI, ab_ltI, ab_eqI, Nat.not_lt, Nat.not_le, n1, nz] at q)))
        all_goals try clear hb_s hb_12 hb_21 hb_28 hb_36
        exact rl_no hk2 hW.2.2.2.1 (by unfold rdW; rw [if_neg q0, if_neg q1, if_neg q2]; rfl)
theorem c_readLinesF {S : fs} {h1 : ab_H} (hK : tk_ok K) (hz : tk_z K) (hTR : T + 4 ≤ R) (hk : rkt h T R K (fo_of S) h1 0) (hS : fo_ok S) : ab_Con mX6_readLines [.ref R, .ref T, .int (nI 14)] nx h1 (rn_po (fun S h1 a => rkt h T R K (fo_of S) h1 a) (fun h1 a => ∃ F : fo_F, rkt h T R K F h1 a) nx (rdA K (rdF K) 14 S)) := by
  refine c_readLines (ci := 2) (fs := [.ref (R + 1)]) (C0 := "DreamFort$FortressReader") (Mr := mX2_readLine) (inv := fun _ S _ => fo_ok S) hK (fun S h1 a hk => ⟨hk.1, hk.2.2.1⟩) (fun S h1 h2 a b hk hg hq => hk.tk hTR hg hq) (fun S h1 a hk n _ => ⟨_, hk⟩) (fun n S a _ hi ha => ?_) (fun n S a h1 _ hi ha hk => ?_) lu_F rfl (by decide) (by decide) rfl (by decide) hk hS
  · obtain ⟨g1, g2⟩ := rdF_ok hK hz hi ha
    exact ⟨g1, fun S1 h => ⟨g2 S1 h, g2 S1 h⟩⟩
  · refine (c_freadLine hk hK hz hi hTR ha).imp (fun r nx' h' hp => ?_)
    obtain ⟨e, -, hp⟩ := hp
    refine ⟨e, ?_⟩
    revert hp
    cases (rdF K S a).2 <;> exact id
theorem c_readLinesL {W : lw} {h1 : ab_H} (hK : tk_ok K) (hTR : T + 4 ≤ R) (hk : lkt h T R K Rr (la_of W) h1 0) (hW : lok W) (hw : W.1 = 1) (hw2 : W.2.1 = 0) : ab_Con mX6_readLines [.ref R, .ref T, .int (nI 12)] nx h1 (rn_po (fun W h1 a => lkt h T R K Rr (la_of W) h1 a) (fun h1 a => ∃ W9 : lw, wb W9 ∧ lkt h T R K Rr (la_of W9) h1 a) nx (rdA K (rdW K) 12 W)) := by
  refine c_readLines (ci := 4) (fs := [.ref (R + 1)]) (C0 := "DreamFort$LawReader") (Mr := mX5_readLine) (inv := fun n W a => lok W ∧ W.1 = n + 1 ∧ W.2.1 ≤ a) hK (fun S h1 a hk => ⟨hk.1, hk.2.2.1⟩) (fun S h1 h2 a b hk hg hq => hk.tk hTR hg hq) (fun S h1 a hk n hi => ⟨_, hi.1.2.2.2.1, hk⟩) (fun n S a hn hi ha => ?_) (fun n S a h1 hn hi ha hk => ?_) lu_L rfl (by decide) (by decide) rfl (by decide) hk ⟨hW, hw, by omega⟩
  · obtain ⟨g1, g2⟩ := rdW_ok hK hi.1 hi.2.1 hn ha hi.2.2
    exact ⟨g1, fun S1 h => ⟨⟨(g2 S1 h).1, (g2 S1 h).2.1, (g2 S1 h).2.2⟩, ⟨(g2 S1 h).1, (g2 S1 h).2.1, by have := (g2 S1 h).2.2; omega⟩⟩⟩
  · refine (c_lreadLine hK hTR hk hi.1 hi.2.1 hn hi.2.2 ha).imp (fun r nx' h' hp => ?_)
    obtain ⟨e, hp⟩ := hp
    refine ⟨e, ?_⟩
    revert hp
    cases (rdW K S a).2 <;> exact id
end LR
