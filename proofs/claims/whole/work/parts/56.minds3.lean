/-! ===== what is seen of the sleepers' heads ===== -/
def sty (nx : Nat) (h : ab_H) (U : ST) : ab_P := fun r nx' h' => r = .inl none ∧ nx' = nx ∧ df_at h' U ∧ df_rest h h' ∧ ∃ X : mi_F, mi_at h' 3062 X ∧ mi_st U.1 U.2.1 X
theorem st_ok.fo {U : ST} (hU : st_ok U) : fo_ok U.1 := hU.1.1
theorem st_ok.la {U : ST} (hU : st_ok U) : la_ok U.2.1 := hU.2.1.1
def wiN (m : Nat) : Nat → Nat
  | 0 => 10000
  | k + 1 => wiN m k * m / 10000
theorem wiN_le {m : Nat} (hm : m ≤ 10000) : ∀ k, wiN m k ≤ 10000
  | 0 => Nat.le_refl _
  | k + 1 => by
    have h1 := wiN_le hm k
    show wiN m k * m / 10000 ≤ 10000
    have h2 : wiN m k * m ≤ 10000 * 10000 := Nat.mul_le_mul h1 hm
    omega
def oth (S : fs) (p : Nat) : Nat → Nat
  | 0 => 0
  | o + 1 => if o ≠ p ∧ (S.1 6).testBit o = false then oth S p o ||| S.2.1 9 o else oth S p o
theorem oth_lt {S : fs} (hS : fo_ok S) (p : Nat) : ∀ n, oth S p n < 64
  | 0 => by show 0 < 64; omega
  | n + 1 => by
    have h1 := oth_lt hS p n
    have h2 := hS.2.2.2.2.2.2.2.2.2.2.1 n
    unfold oth
    split
    · exact Nat.or_lt_two_pow (n := 6) h1 h2
    · exact h1
def strk (S : fs) (p : Nat) : Nat := po (S.2.1 9 p &&& (63 ^^^ oth S p (S.1 0)))
def mist (S : fs) (p n : Nat) : Nat := bst (fun a b => decide (b < a)) (fun o => decide (o ≠ p ∧ (S.1 6).testBit o = false)) (fun o => po (S.2.1 9 o &&& S.2.1 9 p)) n
def drm (S : fs) (W : lw) (p n : Nat) : Nat := st6 (fun s => decide (dr S W s = p + 1)) n
def enm (S : fs) (W : lw) (p n : Nat) : Nat := bst (fun a b => decide (a < b)) (fun _ => true) (fun s => od S W p (s + 1)) n
def wrth (S : fs) (W : lw) (p : Nat) : Int32 := if enm S W p (S.1 1) = 0 then nI 0 else nI (od S W p 0) - nI (od S W p (enm S W p (S.1 1)))
def shr (S : fs) (s : Nat) : Nat := if su (tms S) (S.1 1) = 0 then 0 else 100 * tms S s / su (tms S) (S.1 1)
def tw2 (S : fs) (W : lw) : Nat → Nat × Nat
  | 0 => (0, 0)
  | s + 1 => match dr S W s with
    | 0 => tw2 S W s
    | p + 1 => ((tw2 S W s).1 ||| 2 ^ p, (tw2 S W s).2 ||| ((tw2 S W s).1 &&& 2 ^ p))
theorem tw2_lt {S : fs} {W : lw} (hS : fo_ok S) : ∀ n, (tw2 S W n).1 < 64 ∧ (tw2 S W n).2 < 64
  | 0 => ⟨by show 0 < 64; omega, by show 0 < 64; omega⟩
  | n + 1 => by
    obtain ⟨h1, h2⟩ := tw2_lt (W := W) hS n
    have hd := dr_le S W n
    have h0 := hS.1
    unfold tw2
    cases e : dr S W n with
    | zero => exact ⟨h1, h2⟩
    | succ p =>
      have h3 : 2 ^ p < 64 := two6 (by omega)
      exact ⟨Nat.or_lt_two_pow (n := 6) h1 h3, Nat.or_lt_two_pow (n := 6) h2 (and_lt64 h1)⟩
def vnN (S : fs) (W : lw) (n : Nat) : Nat := st6 (fun s => decide (dr S W s ≠ 0) && !(gd S W s)) n
def sndN (S : fs) (W : lw) (n : Nat) : Nat := bst (fun a b => decide (b < a)) (fun _ => true) (ch S W) n
def tH (t e c : Nat) (g : Bool) : Int32 := if t = 0 then (if e = 0 then nM2 else nI (c / 10)) else (if e = 1 ∧ g = true then nI (c / 20) else nI 0)
def eH (t e y : Nat) : Int32 := if t = 0 then (if e = 0 then nI 1 else -nI (y / 10)) else (if e = 0 then nM else nI 0)
def rstB (c y : Nat) (g : Bool) (i : Nat) : Bool := decide (tH (1 - i / 2) (i % 2) c g ≤ tH (i / 2) (i % 2) c g) && decide (eH (i / 2) (1 - i % 2) y ≤ eH (i / 2) (i % 2) y)
def rst4 (S : fs) (W : lw) (s p : Nat) : Nat := st6 (rstB (ch S W s) (S.2.1 8 p) (decide (dr S W s = p + 1) && gd S W s)) 4
def sp_sp (U : ST) (a b : Int32) (f : Nat → Nat → Int32) : RS := match ixn a (U.1.1 1), ixn b (U.1.1 0) with
  | some s, some p => (0, f s p, U)
  | _, _ => (1, 0, U)
def sp_pull (U : ST) (a b : Int32) : RS := sp_sp U a b (fun s p => nI (pl U.1 U.2.1 s p))
def sp_need (U : ST) (a b : Int32) : RS := sp_sp U a b (fun s p => la_n (nd U.1 U.2.1 s p))
def sp_rests (U : ST) (a b : Int32) : RS := sp_sp U a b (fun s p => nI (rst4 U.1 U.2.1 s p))
def sp_twice (U : ST) : RS := (0, nI (tw2 U.1 U.2.1 (U.1.1 1)).2, U)
def sp_vain (U : ST) : RS := (0, nI (vnN U.1 U.2.1 (U.1.1 1)), U)
def sp_sound (U : ST) : RS := (0, la_n (sndN U.1 U.2.1 (U.1.1 1)), U)
def sp_within (U : ST) (a b : Int32) : RS := match ixn a (U.1.1 0) with
  | none => (1, 0, U)
  | some p => match rgn b 0 60 with
    | none => (2, 0, U)
    | some n => (0, nI (10000 - wiN (10000 - od U.1 U.2.1 p 0) n), U)
def soonN (m x n : Nat) : Nat := frs (fun k => decide (x ≤ 10000 - wiN m k)) n
def sp_soon (U : ST) (a b : Int32) : RS := match ixn a (U.1.1 0) with
  | none => (1, 0, U)
  | some p => match rgn b 0 10000 with
    | none => (2, 0, U)
    | some x => (0, (if soonN (10000 - od U.1 U.2.1 p 0) x 61 < 61 then nI (soonN (10000 - od U.1 U.2.1 p 0) x 61) else nM), U)
def sp_prisoner (U : ST) (a b : Int32) : RS := match ixn a (U.1.1 0) with
  | none => (1, 0, U)
  | some p => match rgn b 0 8 with
    | none => (2, 0, U)
    | some 0 => (0, nI (U.1.2.1 8 p), U)
    | some 1 => (0, nI (U.1.2.1 9 p), U)
    | some 2 => (0, nI ((U.1.1 6).testBit p).toNat, U)
    | some 3 => (0, nI (od U.1 U.2.1 p 0), U)
    | some 4 => (0, nI (strk U.1 p), U)
    | some 5 => (0, la_n (mist U.1 p (U.1.1 0)), U)
    | some 6 => (0, nI (drm U.1 U.2.1 p (U.1.1 1)), U)
    | some 7 => (0, la_n (enm U.1 U.2.1 p (U.1.1 1)), U)
    | some _ => (0, wrth U.1 U.2.1 p, U)
def sp_sleeper (U : ST) (a b : Int32) : RS := match ixn a (U.1.1 1) with
  | none => (1, 0, U)
  | some s => match rgn b 0 7 with
    | none => (2, 0, U)
    | some 0 => (0, nI (U.1.2.1 10 s), U)
    | some 1 => (0, nI (U.1.2.1 11 s), U)
    | some 2 => (0, nI ((U.1.1 7).testBit s).toNat, U)
    | some 3 => (0, nI (U.1.2.1 12 s), U)
    | some 4 => (0, nI (ch U.1 U.2.1 s), U)
    | some 5 => (0, la_n (dr U.1 U.2.1 s), U)
    | some 6 => (0, nI (gd U.1 U.2.1 s).toNat, U)
    | some _ => (0, nI (shr U.1 s), U)
section MD
variable {h : ab_H} {U : ST} {nx : Nat}
theorem c_stu (hd : df_at h U) (hU : st_ok U) : ab_Con mX7_study [.ref 3062, .ref 3023, .ref 3039] nx h (sty nx h U) := by
  obtain ⟨R, hL⟩ := hd.law
  obtain ⟨X0, hX0⟩ := hd.mnd
  refine (c_study hd.fort hL hX0 hU.fo hU.la (by omega) (by omega)).imp ?_
  rintro _ _ h' ⟨rfl, rfl, hR, ⟨X, hX, hst, -⟩, hr⟩
  exact ⟨rfl, rfl, hd.mi hr hR ⟨X, hX⟩, hr.df, X, hX, hst⟩
theorem df_at.mn0 (hd : df_at h U) : ∃ fs : List Value, h 3062 = some (.inl (5, fs)) := by
  obtain ⟨X, hX⟩ := hd.mnd
  exact ⟨_, hX.1⟩
theorem c_pull {a b : Int32} (hd : df_at h U) (hU : st_ok U) : ab_Con mX11_pull [.ref 3000, .int a, .int b] nx h (df_R [xIO] nx h (sp_pull U a b)) := by
  refine ab_Con.of (by decide) rfl (Nat.le_of_ble_eq_true rfl) ?_
  obtain ⟨im, pn, pc, ho⟩ := hd.obj
  have hS := hU.fo
  have hn0 : U.1.1 0 ≤ 6 := hS.1
  have hn1 : U.1.1 1 ≤ 6 := hS.2.1
  unfold sp_pull sp_sp
  cases e : ixn a (U.1.1 1) with
  | none =>
    refine ab_g_v okX11_pull (cut := []) 20 _ _ _ _ _ _ _ _ (ab_sq_b okX11_pull [] 0) ?_
    have hb_0 : ab_b iX11_pull [] 0 = [(0, .aload_n 0, 1, 0, 0), (1, .iload_n 1, 1, 0, 0), (2, .invokevirtual 191, 3, 0, 0), (5, .aload_n 0, 1, 0, 0), (6, .iload_n 2, 1, 0, 0), (7, .invokevirtual 154, 3, 0, 0), (10, .aload_n 0, 1, 0, 0), (11, .getfield 68, 3, 9, 15), (14, .aload_n 0, 1, 0, 0), (15, .getfield 41, 3, 9, 6), (18, .aload_n 0, 1, 0, 0), (19, .getfield 51, 3, 9, 8), (22, .iload_n 1, 1, 0, 0), (23, .iload_n 2, 1, 0, 0), (24, .invokevirtual 229, 3, 0, 0), (27, .ireturn, 1, 0, 0)] := rfl
    repeat' (first | (simp (disch := omega) only [hb_0, mX11_pull, Nat.beq, ab_l0, List.map_cons, List.map_nil, List.length_cons, List.length_nil, List.cons_append, List.nil_append, List.replicate, Nat.reduceAdd, Nat.reduceSub, List.getElem?_cons_zero, List.getElem?_cons_succ, List.getElem?_nil, List.set_cons_zero, List.set_cons_succ, true_and, and_true, ab_cst0, ab_cst1, ab_cst2, ab_cst3, ab_cst4, ab_cst5, ab_up_s, Nat.le_refl, Nat.reduceLT, Nat.reduceLeDiff, Nat.lt_add_one, Nat.zero_le, nz, n1, nI_add, pk_mul, pk_sub, ab_dec1, ab_vin, nI_clamp, ab_m1a, ab_m1b, ab_m1c, ab_m1d, ab_m1e, ab_m1f, ab_up_n, reduceIte, Nat.add_eq_left, Nat.left_eq_add, Nat.add_left_cancel_iff, Nat.reduceEqDiff, not_true_eq_false, not_false_eq_true, ne_eq, or_true, true_or, false_implies, forall_const, if_true, if_false, Nat.reduceMul, Bool.false_eq_true, reduceCtorEq, true_implies, ab_br_t, ab_br_f, ab_br_n, nd_ltT, nd_ltF, nd_leT, nd_leF, nd_eqT, nd_eqF, nM_eq, nM_ltM, nM_leM, Bool.toNat_true, Bool.toNat_false, gq_iconst, gq_bipush, gq_sipush, gq_iload, gq_aload, gq_istore, gq_astore, gq_iinc, gq_iadd, gq_isub, gq_imul, gq_iand, gq_ior, gq_ixor, gq_ishl, gq_ishr, gq_iushr, gq_idiv, gq_irem, gq_ineg, gq_i2l, gq_i2b, gq_dup, gq_dupr, gq_pop, gq_popr, gq_dup2, gq_goto, gq_getfield, gq_putfield, gq_iaload, gq_iastore, gq_baload, gq_ireturn, gq_return_, gq_invokevirtual, gq_invokestatic, gq_invokespecial, gq_nop, gq_new, gq_ldc, gq_ldc_w, gq_newarray, gq_anewarray, gq_getstatic, gq_aaload, gq_aastore, gq_bastore, gq_laload, gq_lastore, gq_lcmp, gq_athrow, gq_arraylength, gq_areturn, gq_if_acmp, gq_lconst, gq_tableswitch, gq_iload_n0, gq_iload_n1, gq_iload_n2, gq_iload_n3, gq_aload_n0, gq_aload_n1, gq_aload_n2, gq_aload_n3, gq_istore_n0, gq_istore_n1, gq_istore_n2, gq_istore_n3, gq_astore_n0, gq_astore_n1, gq_astore_n2, gq_astore_n3, gq_ifCond_eq, gq_ifCond_ne, gq_ifCond_lt, gq_ifCond_ge, gq_ifCond_gt, gq_ifCond_le, gq_if_icmp_eq, gq_if_icmp_ne, gq_if_icmp_lt, gq_if_icmp_ge, gq_if_icmp_gt, gq_if_icmp_le, tb_0, tb_1, tb_k0, tb_k1, Option.toList_none, Option.toList_some, ho, df_fs]) | (with_reducible refine ab_br_i ?_ ?_ <;> intro q <;> (try simp (disch := omega) only [ab_leI, ab_ltI, ab_eqI, Nat.not_lt, Nat.not_le, n1, nz, Bool.not_eq_false, Bool.not_eq_true, decide_eq_true_eq, decide_eq_false_iff_not, Decidable.not_not] at q)) | ((with_reducible show ab_V _ _ _ _ 2 _ _ _ _); refine bv_vX (c_reqSx hd e) okX11_pull rfl lX11_191 (ho) rfl rfl rfl ?_))
    all_goals try clear hb_0
    exact fun nx' hn => dfr1 hd (df_rest.refl h) hn
  | some j =>
    obtain ⟨rfl, hj⟩ := ixn_s e (by omega)
    cases e2 : ixn b (U.1.1 0) with
    | none =>
      refine ab_g_v okX11_pull (cut := []) 20 _ _ _ _ _ _ _ _ (ab_sq_b okX11_pull [] 0) ?_
      have hb_0 : ab_b iX11_pull [] 0 = [(0, .aload_n 0, 1, 0, 0), (1, .iload_n 1, 1, 0, 0), (2, .invokevirtual 191, 3, 0, 0), (5, .aload_n 0, 1, 0, 0), (6, .iload_n 2, 1, 0, 0), (7, .invokevirtual 154, 3, 0, 0), (10, .aload_n 0, 1, 0, 0), (11, .getfield 68, 3, 9, 15), (14, .aload_n 0, 1, 0, 0), (15, .getfield 41, 3, 9, 6), (18, .aload_n 0, 1, 0, 0), (19, .getfield 51, 3, 9, 8), (22, .iload_n 1, 1, 0, 0), (23, .iload_n 2, 1, 0, 0), (24, .invokevirtual 229, 3, 0, 0), (27, .ireturn, 1, 0, 0)] := rfl
      have hb_5 : ab_b iX11_pull [] 5 = [(5, .aload_n 0, 1, 0, 0), (6, .iload_n 2, 1, 0, 0), (7, .invokevirtual 154, 3, 0, 0), (10, .aload_n 0, 1, 0, 0), (11, .getfield 68, 3, 9, 15), (14, .aload_n 0, 1, 0, 0), (15, .getfield 41, 3, 9, 6), (18, .aload_n 0, 1, 0, 0), (19, .getfield 51, 3, 9, 8), (22, .iload_n 1, 1, 0, 0), (23, .iload_n 2, 1, 0, 0), (24, .invokevirtual 229, 3, 0, 0), (27, .ireturn, 1, 0, 0)] := rfl
      repeat' (first | (simp (disch := omega) only [hb_0, hb_5, mX11_pull, Nat.beq, ab_l0, List.map_cons, List.map_nil, List.length_cons, List.length_nil, List.cons_append, List.nil_append, List.replicate, Nat.reduceAdd, Nat.reduceSub, List.getElem?_cons_zero, List.getElem?_cons_succ, List.getElem?_nil, List.set_cons_zero, List.set_cons_succ, true_and, and_true, ab_cst0, ab_cst1, ab_cst2, ab_cst3, ab_cst4, ab_cst5, ab_up_s, Nat.le_refl, Nat.reduceLT, Nat.reduceLeDiff, Nat.lt_add_one, Nat.zero_le, nz, n1, nI_add, pk_mul, pk_sub, ab_dec1, ab_vin, nI_clamp, ab_m1a, ab_m1b, ab_m1c, ab_m1d, ab_m1e, ab_m1f, ab_up_n, reduceIte, Nat.add_eq_left, Nat.left_eq_add, Nat.add_left_cancel_iff, Nat.reduceEqDiff, not_true_eq_false, not_false_eq_true, ne_eq, or_true, true_or, false_implies, forall_const, if_true, if_false, Nat.reduceMul, Bool.false_eq_true, reduceCtorEq, true_implies, ab_br_t, ab_br_f, ab_br_n, nd_ltT, nd_ltF, nd_leT, nd_leF, nd_eqT, nd_eqF, nM_eq, nM_ltM, nM_leM, Bool.toNat_true, Bool.toNat_false, gq_iconst, gq_bipush, gq_sipush, gq_iload, gq_aload, gq_istore, gq_astore, gq_iinc, gq_iadd, gq_isub, gq_imul, gq_iand, gq_ior, gq_ixor, gq_ishl, gq_ishr, gq_iushr, gq_idiv, gq_irem, gq_ineg, gq_i2l, gq_i2b, gq_dup, gq_dupr, gq_pop, gq_popr, gq_dup2, gq_goto, gq_getfield, gq_putfield, gq_iaload, gq_iastore, gq_baload, gq_ireturn, gq_return_, gq_invokevirtual, gq_invokestatic, gq_invokespecial, gq_nop, gq_new, gq_ldc, gq_ldc_w, gq_newarray, gq_anewarray, gq_getstatic, gq_aaload, gq_aastore, gq_bastore, gq_laload, gq_lastore, gq_lcmp, gq_athrow, gq_arraylength, gq_areturn, gq_if_acmp, gq_lconst, gq_tableswitch, gq_iload_n0, gq_iload_n1, gq_iload_n2, gq_iload_n3, gq_aload_n0, gq_aload_n1, gq_aload_n2, gq_aload_n3, gq_istore_n0, gq_istore_n1, gq_istore_n2, gq_istore_n3, gq_astore_n0, gq_astore_n1, gq_astore_n2, gq_astore_n3, gq_ifCond_eq, gq_ifCond_ne, gq_ifCond_lt, gq_ifCond_ge, gq_ifCond_gt, gq_ifCond_le, gq_if_icmp_eq, gq_if_icmp_ne, gq_if_icmp_lt, gq_if_icmp_ge, gq_if_icmp_gt, gq_if_icmp_le, tb_0, tb_1, tb_k0, tb_k1, Option.toList_none, Option.toList_some, ho, df_fs]) | (with_reducible refine ab_br_i ?_ ?_ <;> intro q <;> (try simp (disch := omega) only [ab_leI, ab_ltI, ab_eqI, Nat.not_lt, Nat.not_le, n1, nz, Bool.not_eq_false, Bool.not_eq_true, decide_eq_true_eq, decide_eq_false_iff_not, Decidable.not_not] at q)) | ((with_reducible show ab_V _ _ _ _ 2 _ _ _ _); refine bv_vO (c_reqS hd hS hj) okX11_pull rfl lX11_191 (ho) rfl rfl rfl ?_; refine ab_g_v okX11_pull (cut := []) 20 _ _ _ _ _ _ _ _ (ab_sq_b okX11_pull [] 5) ?_) | ((with_reducible show ab_V _ _ _ _ 7 _ _ _ _); refine bv_vX (c_reqPx hd e2) okX11_pull rfl lX11_154 (ho) rfl rfl rfl ?_))
      all_goals try clear hb_0 hb_5
      exact fun nx' hn => dfr1 hd (df_rest.refl h) hn
    | some i =>
      obtain ⟨rfl, hi⟩ := ixn_s e2 (by omega)
      obtain ⟨R, hL⟩ := hd.law
      obtain ⟨X0, hX0⟩ := hd.mnd
      refine ab_g_v okX11_pull (cut := [24]) 20 _ _ _ _ _ _ _ _ (ab_sq_b okX11_pull [24] 0) ?_
      have hb_0 : ab_b iX11_pull [24] 0 = [(0, .aload_n 0, 1, 0, 0), (1, .iload_n 1, 1, 0, 0), (2, .invokevirtual 191, 3, 0, 0), (5, .aload_n 0, 1, 0, 0), (6, .iload_n 2, 1, 0, 0), (7, .invokevirtual 154, 3, 0, 0), (10, .aload_n 0, 1, 0, 0), (11, .getfield 68, 3, 9, 15), (14, .aload_n 0, 1, 0, 0), (15, .getfield 41, 3, 9, 6), (18, .aload_n 0, 1, 0, 0), (19, .getfield 51, 3, 9, 8), (22, .iload_n 1, 1, 0, 0), (23, .iload_n 2, 1, 0, 0), (24, .nop, 0, 0, 0)] := rfl
      have hb_5 : ab_b iX11_pull [24] 5 = [(5, .aload_n 0, 1, 0, 0), (6, .iload_n 2, 1, 0, 0), (7, .invokevirtual 154, 3, 0, 0), (10, .aload_n 0, 1, 0, 0), (11, .getfield 68, 3, 9, 15), (14, .aload_n 0, 1, 0, 0), (15, .getfield 41, 3, 9, 6), (18, .aload_n 0, 1, 0, 0), (19, .getfield 51, 3, 9, 8), (22, .iload_n 1, 1, 0, 0), (23, .iload_n 2, 1, 0, 0), (24, .nop, 0, 0, 0)] := rfl
      have hb_10 : ab_b iX11_pull [24] 10 = [(10, .aload_n 0, 1, 0, 0), (11, .getfield 68, 3, 9, 15), (14, .aload_n 0, 1, 0, 0), (15, .getfield 41, 3, 9, 6), (18, .aload_n 0, 1, 0, 0), (19, .getfield 51, 3, 9, 8), (22, .iload_n 1, 1, 0, 0), (23, .iload_n 2, 1, 0, 0), (24, .nop, 0, 0, 0)] := rfl
      repeat' (first | (simp (disch := omega) only [hb_0, hb_5, hb_10, mX11_pull, Nat.beq, ab_l0, List.map_cons, List.map_nil, List.length_cons, List.length_nil, List.cons_append, List.nil_append, List.replicate, Nat.reduceAdd, Nat.reduceSub, List.getElem?_cons_zero, List.getElem?_cons_succ, List.getElem?_nil, List.set_cons_zero, List.set_cons_succ, true_and, and_true, ab_cst0, ab_cst1, ab_cst2, ab_cst3, ab_cst4, ab_cst5, ab_up_s, Nat.le_refl, Nat.reduceLT, Nat.reduceLeDiff, Nat.lt_add_one, Nat.zero_le, nz, n1, nI_add, pk_mul, pk_sub, ab_dec1, ab_vin, nI_clamp, ab_m1a, ab_m1b, ab_m1c, ab_m1d, ab_m1e, ab_m1f, ab_up_n, reduceIte, Nat.add_eq_left, Nat.left_eq_add, Nat.add_left_cancel_iff, Nat.reduceEqDiff, not_true_eq_false, not_false_eq_true, ne_eq, or_true, true_or, false_implies, forall_const, if_true, if_false, Nat.reduceMul, Bool.false_eq_true, reduceCtorEq, true_implies, ab_br_t, ab_br_f, ab_br_n, nd_ltT, nd_ltF, nd_leT, nd_leF, nd_eqT, nd_eqF, nM_eq, nM_ltM, nM_leM, Bool.toNat_true, Bool.toNat_false, gq_iconst, gq_bipush, gq_sipush, gq_iload, gq_aload, gq_istore, gq_astore, gq_iinc, gq_iadd, gq_isub, gq_imul, gq_iand, gq_ior, gq_ixor, gq_ishl, gq_ishr, gq_iushr, gq_idiv, gq_irem, gq_ineg, gq_i2l, gq_i2b, gq_dup, gq_dupr, gq_pop, gq_popr, gq_dup2, gq_goto, gq_getfield, gq_putfield, gq_iaload, gq_iastore, gq_baload, gq_ireturn, gq_return_, gq_invokevirtual, gq_invokestatic, gq_invokespecial, gq_nop, gq_new, gq_ldc, gq_ldc_w, gq_newarray, gq_anewarray, gq_getstatic, gq_aaload, gq_aastore, gq_bastore, gq_laload, gq_lastore, gq_lcmp, gq_athrow, gq_arraylength, gq_areturn, gq_if_acmp, gq_lconst, gq_tableswitch, gq_iload_n0, gq_iload_n1, gq_iload_n2, gq_iload_n3, gq_aload_n0, gq_aload_n1, gq_aload_n2, gq_aload_n3, gq_istore_n0, gq_istore_n1, gq_istore_n2, gq_istore_n3, gq_astore_n0, gq_astore_n1, gq_astore_n2, gq_astore_n3, gq_ifCond_eq, gq_ifCond_ne, gq_ifCond_lt, gq_ifCond_ge, gq_ifCond_gt, gq_ifCond_le, gq_if_icmp_eq, gq_if_icmp_ne, gq_if_icmp_lt, gq_if_icmp_ge, gq_if_icmp_gt, gq_if_icmp_le, tb_0, tb_1, tb_k0, tb_k1, Option.toList_none, Option.toList_some, ho, df_fs]) | (with_reducible refine ab_br_i ?_ ?_ <;> intro q <;> (try simp (disch := omega) only [ab_leI, ab_ltI, ab_eqI, Nat.not_lt, Nat.not_le, n1, nz, Bool.not_eq_false, Bool.not_eq_true, decide_eq_true_eq, decide_eq_false_iff_not, Decidable.not_not] at q)) | ((with_reducible show ab_V _ _ _ _ 2 _ _ _ _); refine bv_vO (c_reqS hd hS hj) okX11_pull rfl lX11_191 (ho) rfl rfl rfl ?_; refine ab_g_v okX11_pull (cut := [24]) 20 _ _ _ _ _ _ _ _ (ab_sq_b okX11_pull [24] 5) ?_) | ((with_reducible show ab_V _ _ _ _ 7 _ _ _ _); refine bv_vO (c_reqP hd hS hi) okX11_pull rfl lX11_154 (ho) rfl rfl rfl ?_; refine ab_g_v okX11_pull (cut := [24]) 20 _ _ _ _ _ _ _ _ (ab_sq_b okX11_pull [24] 10) ?_))
      all_goals try clear hb_0 hb_5 hb_10
      refine bv_v (c_pullOf hd.fort hL hX0 hS hU.la (by omega) (by omega) (by omega) (by omega)) okX11_pull rfl lX11_229 (hX0.1) rfl rfl rfl ?_
      rintro _ _ h1 ⟨rfl, rfl, hR, ⟨X, hX, -⟩, hr⟩
      refine ab_g_v okX11_pull (cut := []) 20 _ _ _ _ _ _ _ _ (ab_sq_b okX11_pull [] 27) ?_
      have hb_27 : ab_b iX11_pull [] 27 = [(27, .ireturn, 1, 0, 0)] := rfl
      repeat' (first | (simp (disch := omega) only [hb_27, mX11_pull, Nat.beq, ab_l0, List.map_cons, List.map_nil, List.length_cons, List.length_nil, List.cons_append, List.nil_append, List.replicate, Nat.reduceAdd, Nat.reduceSub, List.getElem?_cons_zero, List.getElem?_cons_succ, List.getElem?_nil, List.set_cons_zero, List.set_cons_succ, true_and, and_true, ab_cst0, ab_cst1, ab_cst2, ab_cst3, ab_cst4, ab_cst5, ab_up_s, Nat.le_refl, Nat.reduceLT, Nat.reduceLeDiff, Nat.lt_add_one, Nat.zero_le, nz, n1, nI_add, pk_mul, pk_sub, ab_dec1, ab_vin, nI_clamp, ab_m1a, ab_m1b, ab_m1c, ab_m1d, ab_m1e, ab_m1f, ab_up_n, reduceIte, Nat.add_eq_left, Nat.left_eq_add, Nat.add_left_cancel_iff, Nat.reduceEqDiff, not_true_eq_false, not_false_eq_true, ne_eq, or_true, true_or, false_implies, forall_const, if_true, if_false, Nat.reduceMul, Bool.false_eq_true, reduceCtorEq, true_implies, ab_br_t, ab_br_f, ab_br_n, nd_ltT, nd_ltF, nd_leT, nd_leF, nd_eqT, nd_eqF, nM_eq, nM_ltM, nM_leM, Bool.toNat_true, Bool.toNat_false, gq_iconst, gq_bipush, gq_sipush, gq_iload, gq_aload, gq_istore, gq_astore, gq_iinc, gq_iadd, gq_isub, gq_imul, gq_iand, gq_ior, gq_ixor, gq_ishl, gq_ishr, gq_iushr, gq_idiv, gq_irem, gq_ineg, gq_i2l, gq_i2b, gq_dup, gq_dupr, gq_pop, gq_popr, gq_dup2, gq_goto, gq_getfield, gq_putfield, gq_iaload, gq_iastore, gq_baload, gq_ireturn, gq_return_, gq_invokevirtual, gq_invokestatic, gq_invokespecial, gq_nop, gq_new, gq_ldc, gq_ldc_w, gq_newarray, gq_anewarray, gq_getstatic, gq_aaload, gq_aastore, gq_bastore, gq_laload, gq_lastore, gq_lcmp, gq_athrow, gq_arraylength, gq_areturn, gq_if_acmp, gq_lconst, gq_tableswitch, gq_iload_n0, gq_iload_n1, gq_iload_n2, gq_iload_n3, gq_aload_n0, gq_aload_n1, gq_aload_n2, gq_aload_n3, gq_istore_n0, gq_istore_n1, gq_istore_n2, gq_istore_n3, gq_astore_n0, gq_astore_n1, gq_astore_n2, gq_astore_n3, gq_ifCond_eq, gq_ifCond_ne, gq_ifCond_lt, gq_ifCond_ge, gq_ifCond_gt, gq_ifCond_le, gq_if_icmp_eq, gq_if_icmp_ne, gq_if_icmp_lt, gq_if_icmp_ge, gq_if_icmp_gt, gq_if_icmp_le, tb_0, tb_1, tb_k0, tb_k1, Option.toList_none, Option.toList_some]) | (with_reducible refine ab_br_i ?_ ?_ <;> intro q <;> (try simp (disch := omega) only [ab_leI, ab_ltI, ab_eqI, Nat.not_lt, Nat.not_le, n1, nz, Bool.not_eq_false, Bool.not_eq_true, decide_eq_true_eq, decide_eq_false_iff_not, Decidable.not_not] at q)))
      all_goals try clear hb_27
      exact dfr0 (hd.mi hr hR ⟨X, hX⟩) hr.df
end MD
