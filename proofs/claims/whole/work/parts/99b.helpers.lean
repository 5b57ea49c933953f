/-! ===== the law's own methods ===== -/
/-- out of what is left by a call of the class: kept cells, the answer, the number -/
def lh_rest (h h' : ab_H) : Prop := ∀ k, (k < 3000 ∨ 3174 ≤ k) → k ≠ 3189 → h' k = h k
def lh_P (nx : Nat) (h : ab_H) (o : RS) : ab_P := fun r nx' h' => r = .inl (some (.int (nI o.1))) ∧ nx ≤ nx' ∧ df_at h' o.2.2 ∧ lh_rest h h' ∧ ∃ g : Nat → Int64, h' 3189 = some (.inr (3, 1, .inr (.inl g))) ∧ (o.1 = 0 → g 0 = o.2.1.toInt64)
theorem df_at.kept {h h' : ab_H} {U : ST} (hd : df_at h U) (hk : ∀ k, 3000 ≤ k → k < 3174 → h' k = h k) : df_at h' U := by
  obtain ⟨pn, hpn, d0, d1, d2, d3, d4, d5, ⟨F6, d6⟩, ⟨R7, d7⟩, d8, d9, d10, ⟨X11, d11⟩, ⟨Y12, d12⟩, ⟨T13, H13, d13⟩, d14⟩ := hd
  exact ⟨pn, hpn, d0.kp (hk _ (by omega) (by omega)), d1.kp (hk _ (by omega) (by omega)), d2.kp (fun k a b => hk k (by omega) (by omega)), d3.kp (fun k a b => hk k (by omega) (by omega)), d4.kp (fun k a b => hk k (by omega) (by omega)), d5.kp (fun k a b => hk k (by omega) (by omega)), ⟨F6, d6.kp (fun k a b => hk k (by omega) (by omega))⟩, ⟨R7, d7.kp (fun k a b => hk k (by omega) (by omega))⟩, d8.kp (fun k a b => hk k (by omega) (by omega)), d9.kp (hk _ (by omega) (by omega)), d10.kp (fun k a b => hk k (by omega) (by omega)), ⟨X11, d11.kp (fun k a b => hk k (by omega) (by omega))⟩, ⟨Y12, d12.kp (fun k a b => hk k (by omega) (by omega))⟩, ⟨T13, H13, d13.kp (fun k a b => hk k (by omega) (by omega))⟩, d14.kp (fun k a b => hk k (by omega) (by omega))⟩
theorem mo_at.kept {h h' : ab_H} {z w : Nat → Int32} {R : Nat → Nat → Int32} (hM : mo_at h z w R) (hk : ∀ k, 3174 ≤ k → k < 3189 → h' k = h k) : mo_at h' z w R := by
  obtain ⟨a0, a1, ⟨V, a2⟩, a3, a4, a5, a6, a7, a8, a9, a10, a11, a12, a13, a14⟩ := hM
  have k := fun {n : Nat} {c : Option ab_C} (hn : h n = c) (p1 : 3174 ≤ n) (p2 : n < 3189) => (hk n p1 p2).trans hn
  exact ⟨k a0 (by omega) (by omega), k a1 (by omega) (by omega), ⟨V, k a2 (by omega) (by omega)⟩, k a3 (by omega) (by omega), k a4 (by omega) (by omega), k a5 (by omega) (by omega), k a6 (by omega) (by omega), k a7 (by omega) (by omega), k a8 (by omega) (by omega), k a9 (by omega) (by omega), k a10 (by omega) (by omega), k a11 (by omega) (by omega), k a12 (by omega) (by omega), k a13 (by omega) (by omega), k a14 (by omega) (by omega)⟩
theorem df_at.up9 {h : ab_H} {U : ST} (hd : df_at h U) (c : ab_C) : df_at (ab_up h 3189 c) U := hd.kept (fun k a b => ab_up_n _ _ (by omega))
section LF
variable {M M' : ab_M} {hh : lh_H} {post : ab_P} {cu su pc : Nat} {ls : List (Option Value)} {rest : List Value} {nx nx1 : Nat} {h h1 : ab_H} {o : RS} {r : ab_R} {g : Nat → Int64} {X1 X2 : String}
theorem df_rest.lh (hr : df_rest h h1) : lh_rest h h1 := fun k a _ => hr k a
theorem lh_fin1 (hq : df_R [X1] nx h o r nx1 h1) (hk : spk 1 o) (hg : h 3189 = some (.inr (3, 1, .inr (.inl g)))) (x1 : lh_X M hh pc X1 1) (himp : ∀ r nx' h', lh_P nx h o r nx' h' → post r nx' h')
    (tail : o.1 = 0 → ∀ h1, df_at h1 o.2.2 → df_rest h h1 → lh_V M hh post (cu + M'.2.2.2.2.2.1) (su + M'.2.2.2.2.2.2) (pc + 3) ls (.int o.2.1 :: rest) nx h1) : lh_K1 M M' hh post cu su pc ls rest r nx1 h1 := by
  obtain ⟨o1, o2, o3⟩ := o
  match o1, hq, hk with
  | 0, hq, _ =>
    obtain ⟨⟨rfl, rfl⟩, hd1, hr1⟩ := hq
    exact tail rfl h1 hd1 hr1
  | 1, hq, _ =>
    obtain ⟨⟨rfl, hn⟩, hd1, hr1⟩ := hq
    exact ⟨1, x1, himp _ _ _ ⟨rfl, hn, hd1, hr1.lh, g, (hr1 3189 (by omega)).trans hg, fun q => absurd q (Nat.succ_ne_zero _)⟩⟩
  | n + 2, _, hk => exact absurd hk.1 (by show ¬ n + 2 ≤ 1; omega)
theorem lh_fin2 (hq : df_R [X1, X2] nx h o r nx1 h1) (hk : spk 2 o) (hg : h 3189 = some (.inr (3, 1, .inr (.inl g)))) (x1 : lh_X M hh pc X1 1) (x2 : lh_X M hh pc X2 2) (himp : ∀ r nx' h', lh_P nx h o r nx' h' → post r nx' h')
    (tail : o.1 = 0 → ∀ h1, df_at h1 o.2.2 → df_rest h h1 → lh_V M hh post (cu + M'.2.2.2.2.2.1) (su + M'.2.2.2.2.2.2) (pc + 3) ls (.int o.2.1 :: rest) nx h1) : lh_K1 M M' hh post cu su pc ls rest r nx1 h1 := by
  obtain ⟨o1, o2, o3⟩ := o
  match o1, hq, hk with
  | 0, hq, _ =>
    obtain ⟨⟨rfl, rfl⟩, hd1, hr1⟩ := hq
    exact tail rfl h1 hd1 hr1
  | 1, hq, _ =>
    obtain ⟨⟨rfl, hn⟩, hd1, hr1⟩ := hq
    exact ⟨1, x1, himp _ _ _ ⟨rfl, hn, hd1, hr1.lh, g, (hr1 3189 (by omega)).trans hg, fun q => absurd q (Nat.succ_ne_zero _)⟩⟩
  | 2, hq, _ =>
    obtain ⟨⟨rfl, hn⟩, hd1, hr1⟩ := hq
    exact ⟨2, x2, himp _ _ _ ⟨rfl, hn, hd1, hr1.lh, g, (hr1 3189 (by omega)).trans hg, fun q => absurd q (Nat.succ_ne_zero _)⟩⟩
  | n + 3, _, hk => exact absurd hk.1 (by show ¬ n + 3 ≤ 2; omega)
theorem lh_upr (hr : df_rest h h1) (c : ab_C) : lh_rest h (ab_up h1 3189 c) := fun k a b => (ab_up_n _ _ b).trans (hr k a)
theorem lh_tl {off : Int} {tgt : Nat} (d1 : decode M.2.1 pc = .ok (.i2l, 1)) (d2 : decode M.2.1 (pc + 1) = .ok (.lastore, 1)) (d3 : decode M.2.1 (pc + 1 + 1) = .ok (.goto off, 3)) (ht : ((pc + 1 + 1 : Nat) : Int) + off = (tgt : Int)) (d4 : decode M.2.1 tgt = .ok (.iconst 0, 1)) (d5 : decode M.2.1 (tgt + 1) = .ok (.ireturn, 1)) (hr : M.2.2.2.1 = some .int) (hc : cu ≤ M.2.2.2.2.2.1) (hs : su ≤ M.2.2.2.2.2.2) (hg : h 3189 = some (.inr (3, 1, .inr (.inl g)))) (himp : ∀ r nx' h', lh_P nx h o r nx' h' → post r nx' h') (h0 : o.1 = 0) (hd1 : df_at h1 o.2.2) (hr1 : df_rest h h1) : lh_V M hh post cu su pc ls [.int o.2.1, .int (Int32.ofInt 0), .ref 3189] nx h1 := by
  refine lh_i2l d1 (lh_last (n := 1) (f := g) d2 ((hr1 3189 (by omega)).trans hg) (vp_in_nI (n := 0) (by omega) (by omega)) (lh_goto d3 ht (lh_iconst d4 (lh_iret d5 hr hc hs (himp _ _ _ ?_)))))
  refine ⟨by rw [h0]; rfl, Nat.le_refl _, hd1.up9 _, lh_upr hr1 _, _, ab_up_s _ _ _, fun _ => ?_⟩
  exact if_pos rfl
theorem lh_tz {off off1 off2 : Int} {tgt : Nat} (d0 : decode M.2.1 pc = .ok (.ifCond .eq off1, 3)) (e1 : (pc : Int) + off1 = ((pc + 7 : Nat) : Int)) (d01 : decode M.2.1 (pc + 3) = .ok (.lconst 1, 1)) (d02 : decode M.2.1 (pc + 3 + 1) = .ok (.goto off2, 3)) (e2 : ((pc + 3 + 1 : Nat) : Int) + off2 = ((pc + 8 : Nat) : Int)) (d03 : decode M.2.1 (pc + 7) = .ok (.lconst 0, 1)) (d2 : decode M.2.1 (pc + 8) = .ok (.lastore, 1)) (d3 : decode M.2.1 (pc + 8 + 1) = .ok (.goto off, 3)) (ht : ((pc + 8 + 1 : Nat) : Int) + off = (tgt : Int)) (d4 : decode M.2.1 tgt = .ok (.iconst 0, 1)) (d5 : decode M.2.1 (tgt + 1) = .ok (.ireturn, 1)) (hr : M.2.2.2.1 = some .int) (hc : cu ≤ M.2.2.2.2.2.1) (hs : su ≤ M.2.2.2.2.2.2) (hg : h 3189 = some (.inr (3, 1, .inr (.inl g)))) (himp : ∀ r nx' h', lh_P nx h o r nx' h' → post r nx' h') (hz : o.2.1 = 0 ∨ o.2.1 = 1) (h0 : o.1 = 0) (hd1 : df_at h1 o.2.2) (hr1 : df_rest h h1) : lh_V M hh post cu su pc ls [.int o.2.1, .int (Int32.ofInt 0), .ref 3189] nx h1 := by
  have fin : ∀ x : Int64, x = o.2.1.toInt64 → lh_V M hh post cu su (pc + 8) ls [.long x, .int (Int32.ofInt 0), .ref 3189] nx h1 := by
    intro x hx
    refine lh_last (n := 1) (f := g) d2 ((hr1 3189 (by omega)).trans hg) (vp_in_nI (n := 0) (by omega) (by omega)) (lh_goto d3 ht (lh_iconst d4 (lh_iret d5 hr hc hs (himp _ _ _ ?_))))
    refine ⟨by rw [h0]; rfl, Nat.le_refl _, hd1.up9 _, lh_upr hr1 _, _, ab_up_s _ _ _, fun _ => ?_⟩
    rw [← hx]
    exact if_pos rfl
  refine lh_if_eq d0 e1 (fun q => lh_lconst d03 (fin _ (by rw [q]; rfl))) (fun q => lh_lconst d01 (lh_goto d02 e2 (fin _ ?_)))
  rw [hz.resolve_left q]
  rfl
end LF
theorem z_meet {U : ST} {a b : Int32} : (sp_meet U a b).2.1 = 0 ∨ (sp_meet U a b).2.1 = 1 := by
  unfold sp_meet
  split
  · rename_i s p e1 e2
    show nI (!((U.1.2.1 12 s).testBit p)).toNat = 0 ∨ _
    cases (U.1.2.1 12 s).testBit p
    · exact Or.inr rfl
    · exact Or.inl rfl
  · exact Or.inl rfl
theorem z_wake {U : ST} {a : Int32} : (sp_wake U a).2.1 = 0 ∨ (sp_wake U a).2.1 = 1 := by
  unfold sp_wake
  split
  · exact Or.inl rfl
  · rename_i s e1
    show nI (!((U.1.1 7).testBit s)).toNat = 0 ∨ _
    cases (U.1.1 7).testBit s
    · exact Or.inr rfl
    · exact Or.inl rfl
def iL_fortress : List ab_E := [(0, .aload_n 1, 1, 0, 0), (1, .iconst 0, 1, 0, 0), (2, .aload_n 0, 1, 0, 0), (3, .invokevirtual 7, 3, 0, 0), (6, .i2l, 1, 0, 0), (7, .lastore, 1, 0, 0), (8, .goto 9, 3, 0, 17), (11, .astore_n 2, 1, 0, 0), (12, .iconst 1, 1, 0, 0), (13, .ireturn, 1, 0, 0), (14, .astore_n 2, 1, 0, 0), (15, .iconst 2, 1, 0, 0), (16, .ireturn, 1, 0, 0), (17, .iconst 0, 1, 0, 0), (18, .ireturn, 1, 0, 0)]
abbrev mL_fortress : ab_M := (yL_fortress, cL_fortress, 3, some .int, 63, 2, 12)
theorem okL_fortress : ab_cd mL_fortress 0 iL_fortress := ab_cd_of (F := []) (P := []) (fun _ h => absurd h List.not_mem_nil) (fun _ h => absurd h List.not_mem_nil) _ _ (by decide +kernel)
def hL_fortress : lh_H := [(0, 8, 11, 13), (0, 8, 14, 15)]
theorem sL_fortress : lh_ls RL 148 mL_fortress hL_fortress 2 := ⟨⟨ab_mem 566 (by decide +kernel) rfl, ab_mem 567 (by decide +kernel) rfl, ab_mem 0 (by decide +kernel) rfl, ab_mem 568 (by decide +kernel) rfl⟩, by decide +kernel, by decide +kernel, by decide +kernel⟩
theorem xL_fortress_1 : lh_X mL_fortress hL_fortress 3 xIA 1 := ⟨[], ⟨0, 8, 11, 13⟩, [⟨0, 8, 14, 15⟩], rfl, fun z hz => absurd hz List.not_mem_nil, by decide, by decide, ab_mem 569 (by decide +kernel) rfl, ab_memN 810 (by decide +kernel) rfl, Or.inl ⟨2, by decide, ab_dec okL_fortress rfl, ab_dec okL_fortress rfl, ab_dec okL_fortress rfl⟩⟩
theorem xL_fortress_2 : lh_X mL_fortress hL_fortress 3 xUO 2 := ⟨[⟨0, 8, 11, 13⟩], ⟨0, 8, 14, 15⟩, [], rfl, fun z hz => by rw [List.mem_singleton.mp hz]; exact ⟨by decide, by decide, xIA, ab_mem 569 (by decide +kernel) rfl, by decide +kernel⟩, by decide, by decide, ab_mem 570 (by decide +kernel) rfl, ab_memN 880 (by decide +kernel) rfl, Or.inl ⟨2, by decide, ab_dec okL_fortress rfl, ab_dec okL_fortress rfl, ab_dec okL_fortress rfl⟩⟩
theorem a_fortress {h : ab_H} {U : ST} {nx : Nat} {g : Nat → Int64} (hd : df_at h U) (hU : st_ok U) (hg : h 3189 = some (.inr (3, 1, .inr (.inl g)))) : lh_Con mL_fortress hL_fortress [.ref 3000, .ref 3189] nx h (lh_P nx h (sp_fortress U)) := by
  refine lh_Con.of (by decide) rfl (Nat.le_of_ble_eq_true rfl) ?_
  obtain ⟨im, pn, pc, hob⟩ := hd.obj
  refine lh_aload_n (ab_dec okL_fortress rfl) rfl ?_
  refine lh_iconst (ab_dec okL_fortress rfl) ?_
  refine lh_aload_n (ab_dec okL_fortress rfl) rfl ?_
  refine lh_callV (As := []) (c_fortress hd hU) (ab_dec okL_fortress rfl) lL_7 hob rfl (ab_fit_of rfl) rfl rfl ?_
  intro r nx1 h1 hq
  exact lh_fin2 hq (k_fortress hU) hg xL_fortress_1 xL_fortress_2 (fun _ _ _ w => w) (fun h0 h1 hd1 hr1 => lh_tl (ab_dec okL_fortress rfl) (ab_dec okL_fortress rfl) (ab_dec okL_fortress rfl) rfl (ab_dec okL_fortress rfl) (ab_dec okL_fortress rfl) rfl (Nat.le_of_ble_eq_true rfl) (Nat.le_of_ble_eq_true rfl) hg (fun _ _ _ w => w) h0 hd1 hr1)
def iL_law : List ab_E := [(0, .aload_n 1, 1, 0, 0), (1, .iconst 0, 1, 0, 0), (2, .aload_n 0, 1, 0, 0), (3, .invokevirtual 17, 3, 0, 0), (6, .i2l, 1, 0, 0), (7, .lastore, 1, 0, 0), (8, .goto 6, 3, 0, 14), (11, .astore_n 2, 1, 0, 0), (12, .iconst 1, 1, 0, 0), (13, .ireturn, 1, 0, 0), (14, .iconst 0, 1, 0, 0), (15, .ireturn, 1, 0, 0)]
abbrev mL_law : ab_M := (yL_law, cL_law, 3, some .int, 63, 1, 6)
theorem okL_law : ab_cd mL_law 0 iL_law := ab_cd_of (F := []) (P := []) (fun _ h => absurd h List.not_mem_nil) (fun _ h => absurd h List.not_mem_nil) _ _ (by decide +kernel)
def hL_law : lh_H := [(0, 8, 11, 13)]
theorem sL_law : lh_ls RL 157 mL_law hL_law 2 := ⟨⟨ab_mem 894 (by decide +kernel) rfl, ab_mem 895 (by decide +kernel) rfl, ab_mem 0 (by decide +kernel) rfl, ab_mem 896 (by decide +kernel) rfl⟩, by decide +kernel, by decide +kernel, by decide +kernel⟩
theorem xL_law_1 : lh_X mL_law hL_law 3 xIA 1 := ⟨[], ⟨0, 8, 11, 13⟩, [], rfl, fun z hz => absurd hz List.not_mem_nil, by decide, by decide, ab_mem 569 (by decide +kernel) rfl, ab_memN 810 (by decide +kernel) rfl, Or.inl ⟨2, by decide, ab_dec okL_law rfl, ab_dec okL_law rfl, ab_dec okL_law rfl⟩⟩
theorem a_law {h : ab_H} {U : ST} {nx : Nat} {g : Nat → Int64} (hd : df_at h U) (hU : st_ok U) (hg : h 3189 = some (.inr (3, 1, .inr (.inl g)))) : lh_Con mL_law hL_law [.ref 3000, .ref 3189] nx h (fun r nx' h' => ∃ q : Nat → Nat → Nat, wbr q ∧ lh_P nx h (sp_law U q) r nx' h') := by
  refine lh_Con.of (by decide) rfl (Nat.le_of_ble_eq_true rfl) ?_
  obtain ⟨im, pn, pc, hob⟩ := hd.obj
  refine lh_aload_n (ab_dec okL_law rfl) rfl ?_
  refine lh_iconst (ab_dec okL_law rfl) ?_
  refine lh_aload_n (ab_dec okL_law rfl) rfl ?_
  refine lh_callV (As := []) (c_lawD hd hU) (ab_dec okL_law rfl) lL_17 hob rfl (ab_fit_of rfl) rfl rfl ?_
  rintro r nx1 h1 ⟨q, hw, hq⟩
  exact lh_fin1 hq (k_law hw hU) hg xL_law_1 (fun r nx' h' w => ⟨q, hw, w⟩) (fun h0 h1 hd1 hr1 => lh_tl (ab_dec okL_law rfl) (ab_dec okL_law rfl) (ab_dec okL_law rfl) rfl (ab_dec okL_law rfl) (ab_dec okL_law rfl) rfl (Nat.le_of_ble_eq_true rfl) (Nat.le_of_ble_eq_true rfl) hg (fun r nx' h' w => ⟨q, hw, w⟩) h0 hd1 hr1)
def iL_prisoner : List ab_E := [(0, .aload_n 3, 1, 0, 0), (1, .iconst 0, 1, 0, 0), (2, .aload_n 0, 1, 0, 0), (3, .iload_n 1, 1, 0, 0), (4, .iload_n 2, 1, 0, 0), (5, .invokevirtual 20, 3, 0, 0), (8, .i2l, 1, 0, 0), (9, .lastore, 1, 0, 0), (10, .goto 11, 3, 0, 21), (13, .astore 4, 2, 0, 0), (15, .iconst 1, 1, 0, 0), (16, .ireturn, 1, 0, 0), (17, .astore 4, 2, 0, 0), (19, .iconst 2, 1, 0, 0), (20, .ireturn, 1, 0, 0), (21, .iconst 0, 1, 0, 0), (22, .ireturn, 1, 0, 0)]
abbrev mL_prisoner : ab_M := (yL_prisoner, cL_prisoner, 5, some .int, 8, 2, 12)
theorem okL_prisoner : ab_cd mL_prisoner 0 iL_prisoner := ab_cd_of (F := []) (P := []) (fun _ h => absurd h List.not_mem_nil) (fun _ h => absurd h List.not_mem_nil) _ _ (by decide +kernel)
def hL_prisoner : lh_H := [(0, 10, 13, 24), (0, 10, 17, 26)]
theorem sL_prisoner : lh_ls RL 164 mL_prisoner hL_prisoner 4 := ⟨⟨ab_mem 909 (by decide +kernel) rfl, ab_mem 910 (by decide +kernel) rfl, ab_mem 0 (by decide +kernel) rfl, ab_mem 911 (by decide +kernel) rfl⟩, by decide +kernel, by decide +kernel, by decide +kernel⟩
theorem xL_prisoner_1 : lh_X mL_prisoner hL_prisoner 5 xIO 1 := ⟨[], ⟨0, 10, 13, 24⟩, [⟨0, 10, 17, 26⟩], rfl, fun z hz => absurd hz List.not_mem_nil, by decide, by decide, ab_mem 912 (by decide +kernel) rfl, ab_memN 924 (by decide +kernel) rfl, Or.inr ⟨4, by decide, ab_dec okL_prisoner rfl, ab_dec okL_prisoner rfl, ab_dec okL_prisoner rfl⟩⟩
theorem xL_prisoner_2 : lh_X mL_prisoner hL_prisoner 5 xNS 2 := ⟨[⟨0, 10, 13, 24⟩], ⟨0, 10, 17, 26⟩, [], rfl, fun z hz => by rw [List.mem_singleton.mp hz]; exact ⟨by decide, by decide, xIO, ab_mem 912 (by decide +kernel) rfl, by decide +kernel⟩, by decide, by decide, ab_mem 913 (by decide +kernel) rfl, ab_memN 970 (by decide +kernel) rfl, Or.inr ⟨4, by decide, ab_dec okL_prisoner rfl, ab_dec okL_prisoner rfl, ab_dec okL_prisoner rfl⟩⟩
theorem a_prisoner {h : ab_H} {U : ST} {nx : Nat} {g : Nat → Int64} {a b : Int32} (hd : df_at h U) (hU : st_ok U) (hg : h 3189 = some (.inr (3, 1, .inr (.inl g)))) : lh_Con mL_prisoner hL_prisoner [.ref 3000, .int a, .int b, .ref 3189] nx h (lh_P nx h (sp_prisoner U a b)) := by
  refine lh_Con.of (by decide) rfl (Nat.le_of_ble_eq_true rfl) ?_
  obtain ⟨im, pn, pc, hob⟩ := hd.obj
  refine lh_aload_n (ab_dec okL_prisoner rfl) rfl ?_
  refine lh_iconst (ab_dec okL_prisoner rfl) ?_
  refine lh_aload_n (ab_dec okL_prisoner rfl) rfl ?_
  refine lh_iload_n (ab_dec okL_prisoner rfl) rfl ?_
  refine lh_iload_n (ab_dec okL_prisoner rfl) rfl ?_
  refine lh_callV (As := [.int a, .int b]) (c_prisoner hd hU) (ab_dec okL_prisoner rfl) lL_20 hob rfl (ab_fit_of rfl) rfl rfl ?_
  intro r nx1 h1 hq
  exact lh_fin2 hq (k_prisoner hU) hg xL_prisoner_1 xL_prisoner_2 (fun _ _ _ w => w) (fun h0 h1 hd1 hr1 => lh_tl (ab_dec okL_prisoner rfl) (ab_dec okL_prisoner rfl) (ab_dec okL_prisoner rfl) rfl (ab_dec okL_prisoner rfl) (ab_dec okL_prisoner rfl) rfl (Nat.le_of_ble_eq_true rfl) (Nat.le_of_ble_eq_true rfl) hg (fun _ _ _ w => w) h0 hd1 hr1)
def iL_sleeper : List ab_E := [(0, .aload_n 3, 1, 0, 0), (1, .iconst 0, 1, 0, 0), (2, .aload_n 0, 1, 0, 0), (3, .iload_n 1, 1, 0, 0), (4, .iload_n 2, 1, 0, 0), (5, .invokevirtual 28, 3, 0, 0), (8, .i2l, 1, 0, 0), (9, .lastore, 1, 0, 0), (10, .goto 11, 3, 0, 21), (13, .astore 4, 2, 0, 0), (15, .iconst 1, 1, 0, 0), (16, .ireturn, 1, 0, 0), (17, .astore 4, 2, 0, 0), (19, .iconst 2, 1, 0, 0), (20, .ireturn, 1, 0, 0), (21, .iconst 0, 1, 0, 0), (22, .ireturn, 1, 0, 0)]
abbrev mL_sleeper : ab_M := (yL_sleeper, cL_sleeper, 5, some .int, 8, 2, 12)
theorem okL_sleeper : ab_cd mL_sleeper 0 iL_sleeper := ab_cd_of (F := []) (P := []) (fun _ h => absurd h List.not_mem_nil) (fun _ h => absurd h List.not_mem_nil) _ _ (by decide +kernel)
def hL_sleeper : lh_H := [(0, 10, 13, 24), (0, 10, 17, 26)]
theorem sL_sleeper : lh_ls RL 168 mL_sleeper hL_sleeper 4 := ⟨⟨ab_mem 984 (by decide +kernel) rfl, ab_mem 985 (by decide +kernel) rfl, ab_mem 0 (by decide +kernel) rfl, ab_mem 986 (by decide +kernel) rfl⟩, by decide +kernel, by decide +kernel, by decide +kernel⟩
theorem xL_sleeper_1 : lh_X mL_sleeper hL_sleeper 5 xIO 1 := ⟨[], ⟨0, 10, 13, 24⟩, [⟨0, 10, 17, 26⟩], rfl, fun z hz => absurd hz List.not_mem_nil, by decide, by decide, ab_mem 912 (by decide +kernel) rfl, ab_memN 924 (by decide +kernel) rfl, Or.inr ⟨4, by decide, ab_dec okL_sleeper rfl, ab_dec okL_sleeper rfl, ab_dec okL_sleeper rfl⟩⟩
theorem xL_sleeper_2 : lh_X mL_sleeper hL_sleeper 5 xNS 2 := ⟨[⟨0, 10, 13, 24⟩], ⟨0, 10, 17, 26⟩, [], rfl, fun z hz => by rw [List.mem_singleton.mp hz]; exact ⟨by decide, by decide, xIO, ab_mem 912 (by decide +kernel) rfl, by decide +kernel⟩, by decide, by decide, ab_mem 913 (by decide +kernel) rfl, ab_memN 970 (by decide +kernel) rfl, Or.inr ⟨4, by decide, ab_dec okL_sleeper rfl, ab_dec okL_sleeper rfl, ab_dec okL_sleeper rfl⟩⟩
theorem a_sleeper {h : ab_H} {U : ST} {nx : Nat} {g : Nat → Int64} {a b : Int32} (hd : df_at h U) (hU : st_ok U) (hg : h 3189 = some (.inr (3, 1, .inr (.inl g)))) : lh_Con mL_sleeper hL_sleeper [.ref 3000, .int a, .int b, .ref 3189] nx h (lh_P nx h (sp_sleeper U a b)) := by
  refine lh_Con.of (by decide) rfl (Nat.le_of_ble_eq_true rfl) ?_
  obtain ⟨im, pn, pc, hob⟩ := hd.obj
  refine lh_aload_n (ab_dec okL_sleeper rfl) rfl ?_
  refine lh_iconst (ab_dec okL_sleeper rfl) ?_
  refine lh_aload_n (ab_dec okL_sleeper rfl) rfl ?_
  refine lh_iload_n (ab_dec okL_sleeper rfl) rfl ?_
  refine lh_iload_n (ab_dec okL_sleeper rfl) rfl ?_
  refine lh_callV (As := [.int a, .int b]) (c_sleeper hd hU) (ab_dec okL_sleeper rfl) lL_28 hob rfl (ab_fit_of rfl) rfl rfl ?_
  intro r nx1 h1 hq
  exact lh_fin2 hq (k_sleeper hU) hg xL_sleeper_1 xL_sleeper_2 (fun _ _ _ w => w) (fun h0 h1 hd1 hr1 => lh_tl (ab_dec okL_sleeper rfl) (ab_dec okL_sleeper rfl) (ab_dec okL_sleeper rfl) rfl (ab_dec okL_sleeper rfl) (ab_dec okL_sleeper rfl) rfl (Nat.le_of_ble_eq_true rfl) (Nat.le_of_ble_eq_true rfl) hg (fun _ _ _ w => w) h0 hd1 hr1)
def iL_told : List ab_E := [(0, .aload_n 3, 1, 0, 0), (1, .iconst 0, 1, 0, 0), (2, .aload_n 0, 1, 0, 0), (3, .iload_n 1, 1, 0, 0), (4, .iload_n 2, 1, 0, 0), (5, .invokevirtual 31, 3, 0, 0), (8, .i2l, 1, 0, 0), (9, .lastore, 1, 0, 0), (10, .goto 7, 3, 0, 17), (13, .astore 4, 2, 0, 0), (15, .iconst 1, 1, 0, 0), (16, .ireturn, 1, 0, 0), (17, .iconst 0, 1, 0, 0), (18, .ireturn, 1, 0, 0)]
abbrev mL_told : ab_M := (yL_told, cL_told, 5, some .int, 8, 2, 12)
theorem okL_told : ab_cd mL_told 0 iL_told := ab_cd_of (F := []) (P := []) (fun _ h => absurd h List.not_mem_nil) (fun _ h => absurd h List.not_mem_nil) _ _ (by decide +kernel)
def hL_told : lh_H := [(0, 10, 13, 24)]
theorem sL_told : lh_ls RL 171 mL_told hL_told 4 := ⟨⟨ab_mem 1003 (by decide +kernel) rfl, ab_mem 1004 (by decide +kernel) rfl, ab_mem 0 (by decide +kernel) rfl, ab_mem 1005 (by decide +kernel) rfl⟩, by decide +kernel, by decide +kernel, by decide +kernel⟩
theorem xL_told_1 : lh_X mL_told hL_told 5 xIO 1 := ⟨[], ⟨0, 10, 13, 24⟩, [], rfl, fun z hz => absurd hz List.not_mem_nil, by decide, by decide, ab_mem 912 (by decide +kernel) rfl, ab_memN 924 (by decide +kernel) rfl, Or.inr ⟨4, by decide, ab_dec okL_told rfl, ab_dec okL_told rfl, ab_dec okL_told rfl⟩⟩
theorem a_told {h : ab_H} {U : ST} {nx : Nat} {g : Nat → Int64} {a b : Int32} (hd : df_at h U) (hU : st_ok U) (hg : h 3189 = some (.inr (3, 1, .inr (.inl g)))) : lh_Con mL_told hL_told [.ref 3000, .int a, .int b, .ref 3189] nx h (lh_P nx h (sp_told U a b)) := by
  refine lh_Con.of (by decide) rfl (Nat.le_of_ble_eq_true rfl) ?_
  obtain ⟨im, pn, pc, hob⟩ := hd.obj
  refine lh_aload_n (ab_dec okL_told rfl) rfl ?_
  refine lh_iconst (ab_dec okL_told rfl) ?_
  refine lh_aload_n (ab_dec okL_told rfl) rfl ?_
  refine lh_iload_n (ab_dec okL_told rfl) rfl ?_
  refine lh_iload_n (ab_dec okL_told rfl) rfl ?_
  refine lh_callV (As := [.int a, .int b]) (c_told hd hU.1.1) (ab_dec okL_told rfl) lL_31 hob rfl (ab_fit_of rfl) rfl rfl ?_
  intro r nx1 h1 hq
  exact lh_fin1 hq (k_told hU) hg xL_told_1 (fun _ _ _ w => w) (fun h0 h1 hd1 hr1 => lh_tl (ab_dec okL_told rfl) (ab_dec okL_told rfl) (ab_dec okL_told rfl) rfl (ab_dec okL_told rfl) (ab_dec okL_told rfl) rfl (Nat.le_of_ble_eq_true rfl) (Nat.le_of_ble_eq_true rfl) hg (fun _ _ _ w => w) h0 hd1 hr1)
def iL_pull : List ab_E := [(0, .aload_n 3, 1, 0, 0), (1, .iconst 0, 1, 0, 0), (2, .aload_n 0, 1, 0, 0), (3, .iload_n 1, 1, 0, 0), (4, .iload_n 2, 1, 0, 0), (5, .invokevirtual 34, 3, 0, 0), (8, .i2l, 1, 0, 0), (9, .lastore, 1, 0, 0), (10, .goto 7, 3, 0, 17), (13, .astore 4, 2, 0, 0), (15, .iconst 1, 1, 0, 0), (16, .ireturn, 1, 0, 0), (17, .iconst 0, 1, 0, 0), (18, .ireturn, 1, 0, 0)]
abbrev mL_pull : ab_M := (yL_pull, cL_pull, 5, some .int, 8, 2, 12)
theorem okL_pull : ab_cd mL_pull 0 iL_pull := ab_cd_of (F := []) (P := []) (fun _ h => absurd h List.not_mem_nil) (fun _ h => absurd h List.not_mem_nil) _ _ (by decide +kernel)
def hL_pull : lh_H := [(0, 10, 13, 24)]
theorem sL_pull : lh_ls RL 174 mL_pull hL_pull 4 := ⟨⟨ab_mem 1011 (by decide +kernel) rfl, ab_mem 1012 (by decide +kernel) rfl, ab_mem 0 (by decide +kernel) rfl, ab_mem 1013 (by decide +kernel) rfl⟩, by decide +kernel, by decide +kernel, by decide +kernel⟩
theorem xL_pull_1 : lh_X mL_pull hL_pull 5 xIO 1 := ⟨[], ⟨0, 10, 13, 24⟩, [], rfl, fun z hz => absurd hz List.not_mem_nil, by decide, by decide, ab_mem 912 (by decide +kernel) rfl, ab_memN 924 (by decide +kernel) rfl, Or.inr ⟨4, by decide, ab_dec okL_pull rfl, ab_dec okL_pull rfl, ab_dec okL_pull rfl⟩⟩
theorem a_pull {h : ab_H} {U : ST} {nx : Nat} {g : Nat → Int64} {a b : Int32} (hd : df_at h U) (hU : st_ok U) (hg : h 3189 = some (.inr (3, 1, .inr (.inl g)))) : lh_Con mL_pull hL_pull [.ref 3000, .int a, .int b, .ref 3189] nx h (lh_P nx h (sp_pull U a b)) := by
  refine lh_Con.of (by decide) rfl (Nat.le_of_ble_eq_true rfl) ?_
  obtain ⟨im, pn, pc, hob⟩ := hd.obj
  refine lh_aload_n (ab_dec okL_pull rfl) rfl ?_
  refine lh_iconst (ab_dec okL_pull rfl) ?_
  refine lh_aload_n (ab_dec okL_pull rfl) rfl ?_
  refine lh_iload_n (ab_dec okL_pull rfl) rfl ?_
  refine lh_iload_n (ab_dec okL_pull rfl) rfl ?_
  refine lh_callV (As := [.int a, .int b]) (c_pull hd hU) (ab_dec okL_pull rfl) lL_34 hob rfl (ab_fit_of rfl) rfl rfl ?_
  intro r nx1 h1 hq
  exact lh_fin1 hq (k_pull hU) hg xL_pull_1 (fun _ _ _ w => w) (fun h0 h1 hd1 hr1 => lh_tl (ab_dec okL_pull rfl) (ab_dec okL_pull rfl) (ab_dec okL_pull rfl) rfl (ab_dec okL_pull rfl) (ab_dec okL_pull rfl) rfl (Nat.le_of_ble_eq_true rfl) (Nat.le_of_ble_eq_true rfl) hg (fun _ _ _ w => w) h0 hd1 hr1)
def iL_nights : List ab_E := [(0, .aload_n 2, 1, 0, 0), (1, .iconst 0, 1, 0, 0), (2, .aload_n 0, 1, 0, 0), (3, .iload_n 1, 1, 0, 0), (4, .invokevirtual 37, 3, 0, 0), (7, .i2l, 1, 0, 0), (8, .lastore, 1, 0, 0), (9, .goto 6, 3, 0, 15), (12, .astore_n 3, 1, 0, 0), (13, .iconst 1, 1, 0, 0), (14, .ireturn, 1, 0, 0), (15, .iconst 0, 1, 0, 0), (16, .ireturn, 1, 0, 0)]
abbrev mL_nights : ab_M := (yL_nights, cL_nights, 4, some .int, 7, 1, 6)
theorem okL_nights : ab_cd mL_nights 0 iL_nights := ab_cd_of (F := []) (P := []) (fun _ h => absurd h List.not_mem_nil) (fun _ h => absurd h List.not_mem_nil) _ _ (by decide +kernel)
def hL_nights : lh_H := [(0, 9, 12, 13)]
theorem sL_nights : lh_ls RL 177 mL_nights hL_nights 3 := ⟨⟨ab_mem 1019 (by decide +kernel) rfl, ab_mem 1020 (by decide +kernel) rfl, ab_mem 0 (by decide +kernel) rfl, ab_mem 1021 (by decide +kernel) rfl⟩, by decide +kernel, by decide +kernel, by decide +kernel⟩
theorem xL_nights_1 : lh_X mL_nights hL_nights 4 xIA 1 := ⟨[], ⟨0, 9, 12, 13⟩, [], rfl, fun z hz => absurd hz List.not_mem_nil, by decide, by decide, ab_mem 569 (by decide +kernel) rfl, ab_memN 810 (by decide +kernel) rfl, Or.inl ⟨3, by decide, ab_dec okL_nights rfl, ab_dec okL_nights rfl, ab_dec okL_nights rfl⟩⟩
theorem a_nights {h : ab_H} {U : ST} {nx : Nat} {g : Nat → Int64} {a : Int32} (hd : df_at h U) (hU : st_ok U) (hg : h 3189 = some (.inr (3, 1, .inr (.inl g)))) : lh_Con mL_nights hL_nights [.ref 3000, .int a, .ref 3189] nx h (lh_P nx h (sp_nights U a)) := by
  refine lh_Con.of (by decide) rfl (Nat.le_of_ble_eq_true rfl) ?_
  obtain ⟨im, pn, pc, hob⟩ := hd.obj
  refine lh_aload_n (ab_dec okL_nights rfl) rfl ?_
  refine lh_iconst (ab_dec okL_nights rfl) ?_
  refine lh_aload_n (ab_dec okL_nights rfl) rfl ?_
  refine lh_iload_n (ab_dec okL_nights rfl) rfl ?_
  refine lh_callV (As := [.int a]) (c_nights hd hU) (ab_dec okL_nights rfl) lL_37 hob rfl (ab_fit_of rfl) rfl rfl ?_
  intro r nx1 h1 hq
  exact lh_fin1 hq (k_nights hU) hg xL_nights_1 (fun _ _ _ w => w) (fun h0 h1 hd1 hr1 => lh_tl (ab_dec okL_nights rfl) (ab_dec okL_nights rfl) (ab_dec okL_nights rfl) rfl (ab_dec okL_nights rfl) (ab_dec okL_nights rfl) rfl (Nat.le_of_ble_eq_true rfl) (Nat.le_of_ble_eq_true rfl) hg (fun _ _ _ w => w) h0 hd1 hr1)
def iL_tell : List ab_E := [(0, .aload 4, 2, 0, 0), (2, .iconst 0, 1, 0, 0), (3, .aload_n 0, 1, 0, 0), (4, .iload_n 1, 1, 0, 0), (5, .iload_n 2, 1, 0, 0), (6, .iload_n 3, 1, 0, 0), (7, .invokevirtual 41, 3, 0, 0), (10, .i2l, 1, 0, 0), (11, .lastore, 1, 0, 0), (12, .goto 11, 3, 0, 23), (15, .astore 5, 2, 0, 0), (17, .iconst 1, 1, 0, 0), (18, .ireturn, 1, 0, 0), (19, .astore 5, 2, 0, 0), (21, .iconst 2, 1, 0, 0), (22, .ireturn, 1, 0, 0), (23, .iconst 0, 1, 0, 0), (24, .ireturn, 1, 0, 0)]
abbrev mL_tell : ab_M := (yL_tell, cL_tell, 6, some .int, 8, 4, 24)
theorem okL_tell : ab_cd mL_tell 0 iL_tell := ab_cd_of (F := []) (P := []) (fun _ h => absurd h List.not_mem_nil) (fun _ h => absurd h List.not_mem_nil) _ _ (by decide +kernel)
def hL_tell : lh_H := [(0, 12, 15, 24), (0, 12, 19, 45)]
theorem sL_tell : lh_ls RL 181 mL_tell hL_tell 5 := ⟨⟨ab_mem 1059 (by decide +kernel) rfl, ab_mem 1060 (by decide +kernel) rfl, ab_mem 0 (by decide +kernel) rfl, ab_mem 1061 (by decide +kernel) rfl⟩, by decide +kernel, by decide +kernel, by decide +kernel⟩
theorem xL_tell_1 : lh_X mL_tell hL_tell 7 xIO 1 := ⟨[], ⟨0, 12, 15, 24⟩, [⟨0, 12, 19, 45⟩], rfl, fun z hz => absurd hz List.not_mem_nil, by decide, by decide, ab_mem 912 (by decide +kernel) rfl, ab_memN 924 (by decide +kernel) rfl, Or.inr ⟨5, by decide, ab_dec okL_tell rfl, ab_dec okL_tell rfl, ab_dec okL_tell rfl⟩⟩
theorem xL_tell_2 : lh_X mL_tell hL_tell 7 xIS 2 := ⟨[⟨0, 12, 15, 24⟩], ⟨0, 12, 19, 45⟩, [], rfl, fun z hz => by rw [List.mem_singleton.mp hz]; exact ⟨by decide, by decide, xIO, ab_mem 912 (by decide +kernel) rfl, by decide +kernel⟩, by decide, by decide, ab_mem 1062 (by decide +kernel) rfl, ab_memN 1073 (by decide +kernel) rfl, Or.inr ⟨5, by decide, ab_dec okL_tell rfl, ab_dec okL_tell rfl, ab_dec okL_tell rfl⟩⟩
theorem a_tell {h : ab_H} {U : ST} {nx : Nat} {g : Nat → Int64} {a b c : Int32} (hd : df_at h U) (hU : st_ok U) (hg : h 3189 = some (.inr (3, 1, .inr (.inl g)))) : lh_Con mL_tell hL_tell [.ref 3000, .int a, .int b, .int c, .ref 3189] nx h (lh_P nx h (sp_tell U a b c)) := by
  refine lh_Con.of (by decide) rfl (Nat.le_of_ble_eq_true rfl) ?_
  obtain ⟨im, pn, pc, hob⟩ := hd.obj
  refine lh_aload (ab_dec okL_tell rfl) rfl ?_
  refine lh_iconst (ab_dec okL_tell rfl) ?_
  refine lh_aload_n (ab_dec okL_tell rfl) rfl ?_
  refine lh_iload_n (ab_dec okL_tell rfl) rfl ?_
  refine lh_iload_n (ab_dec okL_tell rfl) rfl ?_
  refine lh_iload_n (ab_dec okL_tell rfl) rfl ?_
  refine lh_callV (As := [.int a, .int b, .int c]) (c_tell hd hU) (ab_dec okL_tell rfl) lL_41 hob rfl (ab_fit_of rfl) rfl rfl ?_
  intro r nx1 h1 hq
  exact lh_fin2 hq (k_tell hU) hg xL_tell_1 xL_tell_2 (fun _ _ _ w => w) (fun h0 h1 hd1 hr1 => lh_tl (ab_dec okL_tell rfl) (ab_dec okL_tell rfl) (ab_dec okL_tell rfl) rfl (ab_dec okL_tell rfl) (ab_dec okL_tell rfl) rfl (Nat.le_of_ble_eq_true rfl) (Nat.le_of_ble_eq_true rfl) hg (fun _ _ _ w => w) h0 hd1 hr1)
def iL_cheese : List ab_E := [(0, .aload_n 3, 1, 0, 0), (1, .iconst 0, 1, 0, 0), (2, .aload_n 0, 1, 0, 0), (3, .iload_n 1, 1, 0, 0), (4, .iload_n 2, 1, 0, 0), (5, .invokevirtual 47, 3, 0, 0), (8, .i2l, 1, 0, 0), (9, .lastore, 1, 0, 0), (10, .goto 11, 3, 0, 21), (13, .astore 4, 2, 0, 0), (15, .iconst 1, 1, 0, 0), (16, .ireturn, 1, 0, 0), (17, .astore 4, 2, 0, 0), (19, .iconst 2, 1, 0, 0), (20, .ireturn, 1, 0, 0), (21, .iconst 0, 1, 0, 0), (22, .ireturn, 1, 0, 0)]
abbrev mL_cheese : ab_M := (yL_cheese, cL_cheese, 5, some .int, 8, 2, 12)
theorem okL_cheese : ab_cd mL_cheese 0 iL_cheese := ab_cd_of (F := []) (P := []) (fun _ h => absurd h List.not_mem_nil) (fun _ h => absurd h List.not_mem_nil) _ _ (by decide +kernel)
def hL_cheese : lh_H := [(0, 10, 13, 24), (0, 10, 17, 13)]
theorem sL_cheese : lh_ls RL 185 mL_cheese hL_cheese 4 := ⟨⟨ab_mem 1088 (by decide +kernel) rfl, ab_mem 1089 (by decide +kernel) rfl, ab_mem 0 (by decide +kernel) rfl, ab_mem 1090 (by decide +kernel) rfl⟩, by decide +kernel, by decide +kernel, by decide +kernel⟩
theorem xL_cheese_1 : lh_X mL_cheese hL_cheese 5 xIO 1 := ⟨[], ⟨0, 10, 13, 24⟩, [⟨0, 10, 17, 13⟩], rfl, fun z hz => absurd hz List.not_mem_nil, by decide, by decide, ab_mem 912 (by decide +kernel) rfl, ab_memN 924 (by decide +kernel) rfl, Or.inr ⟨4, by decide, ab_dec okL_cheese rfl, ab_dec okL_cheese rfl, ab_dec okL_cheese rfl⟩⟩
theorem xL_cheese_2 : lh_X mL_cheese hL_cheese 5 xIA 2 := ⟨[⟨0, 10, 13, 24⟩], ⟨0, 10, 17, 13⟩, [], rfl, fun z hz => by rw [List.mem_singleton.mp hz]; exact ⟨by decide, by decide, xIO, ab_mem 912 (by decide +kernel) rfl, by decide +kernel⟩, by decide, by decide, ab_mem 569 (by decide +kernel) rfl, ab_memN 810 (by decide +kernel) rfl, Or.inr ⟨4, by decide, ab_dec okL_cheese rfl, ab_dec okL_cheese rfl, ab_dec okL_cheese rfl⟩⟩
theorem a_cheese {h : ab_H} {U : ST} {nx : Nat} {g : Nat → Int64} {a b : Int32} (hd : df_at h U) (hU : st_ok U) (hg : h 3189 = some (.inr (3, 1, .inr (.inl g)))) : lh_Con mL_cheese hL_cheese [.ref 3000, .int a, .int b, .ref 3189] nx h (lh_P nx h (sp_cheese U a b)) := by
  refine lh_Con.of (by decide) rfl (Nat.le_of_ble_eq_true rfl) ?_
  obtain ⟨im, pn, pc, hob⟩ := hd.obj
  refine lh_aload_n (ab_dec okL_cheese rfl) rfl ?_
  refine lh_iconst (ab_dec okL_cheese rfl) ?_
  refine lh_aload_n (ab_dec okL_cheese rfl) rfl ?_
  refine lh_iload_n (ab_dec okL_cheese rfl) rfl ?_
  refine lh_iload_n (ab_dec okL_cheese rfl) rfl ?_
  refine lh_callV (As := [.int a, .int b]) (c_cheese hd hU) (ab_dec okL_cheese rfl) lL_47 hob rfl (ab_fit_of rfl) rfl rfl ?_
  intro r nx1 h1 hq
  exact lh_fin2 hq (k_cheese hU) hg xL_cheese_1 xL_cheese_2 (fun _ _ _ w => w) (fun h0 h1 hd1 hr1 => lh_tl (ab_dec okL_cheese rfl) (ab_dec okL_cheese rfl) (ab_dec okL_cheese rfl) rfl (ab_dec okL_cheese rfl) (ab_dec okL_cheese rfl) rfl (Nat.le_of_ble_eq_true rfl) (Nat.le_of_ble_eq_true rfl) hg (fun _ _ _ w => w) h0 hd1 hr1)
def iL_meet : List ab_E := [(0, .aload_n 3, 1, 0, 0), (1, .iconst 0, 1, 0, 0), (2, .aload_n 0, 1, 0, 0), (3, .iload_n 1, 1, 0, 0), (4, .iload_n 2, 1, 0, 0), (5, .invokevirtual 50, 3, 0, 0), (8, .ifCond .eq 7, 3, 0, 15), (11, .lconst 1, 1, 0, 0), (12, .goto 4, 3, 0, 16), (15, .lconst 0, 1, 0, 0), (16, .lastore, 1, 0, 0), (17, .goto 7, 3, 0, 24), (20, .astore 4, 2, 0, 0), (22, .iconst 1, 1, 0, 0), (23, .ireturn, 1, 0, 0), (24, .iconst 0, 1, 0, 0), (25, .ireturn, 1, 0, 0)]
abbrev mL_meet : ab_M := (yL_meet, cL_meet, 5, some .int, 8, 2, 12)
theorem okL_meet : ab_cd mL_meet 0 iL_meet := ab_cd_of (F := []) (P := []) (fun _ h => absurd h List.not_mem_nil) (fun _ h => absurd h List.not_mem_nil) _ _ (by decide +kernel)
def hL_meet : lh_H := [(0, 17, 20, 24)]
theorem sL_meet : lh_ls RL 188 mL_meet hL_meet 4 := ⟨⟨ab_mem 1096 (by decide +kernel) rfl, ab_mem 1097 (by decide +kernel) rfl, ab_mem 0 (by decide +kernel) rfl, ab_mem 1098 (by decide +kernel) rfl⟩, by decide +kernel, by decide +kernel, by decide +kernel⟩
theorem xL_meet_1 : lh_X mL_meet hL_meet 5 xIO 1 := ⟨[], ⟨0, 17, 20, 24⟩, [], rfl, fun z hz => absurd hz List.not_mem_nil, by decide, by decide, ab_mem 912 (by decide +kernel) rfl, ab_memN 924 (by decide +kernel) rfl, Or.inr ⟨4, by decide, ab_dec okL_meet rfl, ab_dec okL_meet rfl, ab_dec okL_meet rfl⟩⟩
theorem a_meet {h : ab_H} {U : ST} {nx : Nat} {g : Nat → Int64} {a b : Int32} (hd : df_at h U) (hU : st_ok U) (hg : h 3189 = some (.inr (3, 1, .inr (.inl g)))) : lh_Con mL_meet hL_meet [.ref 3000, .int a, .int b, .ref 3189] nx h (lh_P nx h (sp_meet U a b)) := by
  refine lh_Con.of (by decide) rfl (Nat.le_of_ble_eq_true rfl) ?_
  obtain ⟨im, pn, pc, hob⟩ := hd.obj
  refine lh_aload_n (ab_dec okL_meet rfl) rfl ?_
  refine lh_iconst (ab_dec okL_meet rfl) ?_
  refine lh_aload_n (ab_dec okL_meet rfl) rfl ?_
  refine lh_iload_n (ab_dec okL_meet rfl) rfl ?_
  refine lh_iload_n (ab_dec okL_meet rfl) rfl ?_
  refine lh_callV (As := [.int a, .int b]) (c_meet hd hU) (ab_dec okL_meet rfl) lL_50 hob rfl (ab_fit_of rfl) rfl rfl ?_
  intro r nx1 h1 hq
  exact lh_fin1 hq (k_meet hU) hg xL_meet_1 (fun _ _ _ w => w) (fun h0 h1 hd1 hr1 => lh_tz (ab_dec okL_meet rfl) rfl (ab_dec okL_meet rfl) (ab_dec okL_meet rfl) rfl (ab_dec okL_meet rfl) (ab_dec okL_meet rfl) (ab_dec okL_meet rfl) rfl (ab_dec okL_meet rfl) (ab_dec okL_meet rfl) rfl (Nat.le_of_ble_eq_true rfl) (Nat.le_of_ble_eq_true rfl) hg (fun _ _ _ w => w) z_meet h0 hd1 hr1)
def iL_wake : List ab_E := [(0, .aload_n 2, 1, 0, 0), (1, .iconst 0, 1, 0, 0), (2, .aload_n 0, 1, 0, 0), (3, .iload_n 1, 1, 0, 0), (4, .invokevirtual 54, 3, 0, 0), (7, .ifCond .eq 7, 3, 0, 14), (10, .lconst 1, 1, 0, 0), (11, .goto 4, 3, 0, 15), (14, .lconst 0, 1, 0, 0), (15, .lastore, 1, 0, 0), (16, .goto 6, 3, 0, 22), (19, .astore_n 3, 1, 0, 0), (20, .iconst 1, 1, 0, 0), (21, .ireturn, 1, 0, 0), (22, .iconst 0, 1, 0, 0), (23, .ireturn, 1, 0, 0)]
abbrev mL_wake : ab_M := (yL_wake, cL_wake, 4, some .int, 8, 1, 6)
theorem okL_wake : ab_cd mL_wake 0 iL_wake := ab_cd_of (F := []) (P := []) (fun _ h => absurd h List.not_mem_nil) (fun _ h => absurd h List.not_mem_nil) _ _ (by decide +kernel)
def hL_wake : lh_H := [(0, 16, 19, 24)]
theorem sL_wake : lh_ls RL 191 mL_wake hL_wake 3 := ⟨⟨ab_mem 1104 (by decide +kernel) rfl, ab_mem 1105 (by decide +kernel) rfl, ab_mem 0 (by decide +kernel) rfl, ab_mem 1106 (by decide +kernel) rfl⟩, by decide +kernel, by decide +kernel, by decide +kernel⟩
theorem xL_wake_1 : lh_X mL_wake hL_wake 4 xIO 1 := ⟨[], ⟨0, 16, 19, 24⟩, [], rfl, fun z hz => absurd hz List.not_mem_nil, by decide, by decide, ab_mem 912 (by decide +kernel) rfl, ab_memN 924 (by decide +kernel) rfl, Or.inl ⟨3, by decide, ab_dec okL_wake rfl, ab_dec okL_wake rfl, ab_dec okL_wake rfl⟩⟩
theorem a_wake {h : ab_H} {U : ST} {nx : Nat} {g : Nat → Int64} {a : Int32} (hd : df_at h U) (hU : st_ok U) (hg : h 3189 = some (.inr (3, 1, .inr (.inl g)))) : lh_Con mL_wake hL_wake [.ref 3000, .int a, .ref 3189] nx h (lh_P nx h (sp_wake U a)) := by
  refine lh_Con.of (by decide) rfl (Nat.le_of_ble_eq_true rfl) ?_
  obtain ⟨im, pn, pc, hob⟩ := hd.obj
  refine lh_aload_n (ab_dec okL_wake rfl) rfl ?_
  refine lh_iconst (ab_dec okL_wake rfl) ?_
  refine lh_aload_n (ab_dec okL_wake rfl) rfl ?_
  refine lh_iload_n (ab_dec okL_wake rfl) rfl ?_
  refine lh_callV (As := [.int a]) (c_wake hd hU) (ab_dec okL_wake rfl) lL_54 hob rfl (ab_fit_of rfl) rfl rfl ?_
  intro r nx1 h1 hq
  exact lh_fin1 hq (k_wake hU) hg xL_wake_1 (fun _ _ _ w => w) (fun h0 h1 hd1 hr1 => lh_tz (ab_dec okL_wake rfl) rfl (ab_dec okL_wake rfl) (ab_dec okL_wake rfl) rfl (ab_dec okL_wake rfl) (ab_dec okL_wake rfl) (ab_dec okL_wake rfl) rfl (ab_dec okL_wake rfl) (ab_dec okL_wake rfl) rfl (Nat.le_of_ble_eq_true rfl) (Nat.le_of_ble_eq_true rfl) hg (fun _ _ _ w => w) z_wake h0 hd1 hr1)
def iL_strict : List ab_E := [(0, .aload_n 2, 1, 0, 0), (1, .iconst 0, 1, 0, 0), (2, .aload_n 0, 1, 0, 0), (3, .iload_n 1, 1, 0, 0), (4, .invokevirtual 58, 3, 0, 0), (7, .i2l, 1, 0, 0), (8, .lastore, 1, 0, 0), (9, .goto 6, 3, 0, 15), (12, .astore_n 3, 1, 0, 0), (13, .iconst 1, 1, 0, 0), (14, .ireturn, 1, 0, 0), (15, .iconst 0, 1, 0, 0), (16, .ireturn, 1, 0, 0)]
abbrev mL_strict : ab_M := (yL_strict, cL_strict, 4, some .int, 7, 1, 6)
theorem okL_strict : ab_cd mL_strict 0 iL_strict := ab_cd_of (F := []) (P := []) (fun _ h => absurd h List.not_mem_nil) (fun _ h => absurd h List.not_mem_nil) _ _ (by decide +kernel)
def hL_strict : lh_H := [(0, 9, 12, 13)]
theorem sL_strict : lh_ls RL 194 mL_strict hL_strict 3 := ⟨⟨ab_mem 1111 (by decide +kernel) rfl, ab_mem 1112 (by decide +kernel) rfl, ab_mem 0 (by decide +kernel) rfl, ab_mem 1113 (by decide +kernel) rfl⟩, by decide +kernel, by decide +kernel, by decide +kernel⟩
theorem xL_strict_1 : lh_X mL_strict hL_strict 4 xIA 1 := ⟨[], ⟨0, 9, 12, 13⟩, [], rfl, fun z hz => absurd hz List.not_mem_nil, by decide, by decide, ab_mem 569 (by decide +kernel) rfl, ab_memN 810 (by decide +kernel) rfl, Or.inl ⟨3, by decide, ab_dec okL_strict rfl, ab_dec okL_strict rfl, ab_dec okL_strict rfl⟩⟩
theorem a_strict {h : ab_H} {U : ST} {nx : Nat} {g : Nat → Int64} {a : Int32} (hd : df_at h U) (hU : st_ok U) (hg : h 3189 = some (.inr (3, 1, .inr (.inl g)))) : lh_Con mL_strict hL_strict [.ref 3000, .int a, .ref 3189] nx h (lh_P nx h (sp_strict U a)) := by
  refine lh_Con.of (by decide) rfl (Nat.le_of_ble_eq_true rfl) ?_
  obtain ⟨im, pn, pc, hob⟩ := hd.obj
  refine lh_aload_n (ab_dec okL_strict rfl) rfl ?_
  refine lh_iconst (ab_dec okL_strict rfl) ?_
  refine lh_aload_n (ab_dec okL_strict rfl) rfl ?_
  refine lh_iload_n (ab_dec okL_strict rfl) rfl ?_
  refine lh_callV (As := [.int a]) (c_strict hd hU) (ab_dec okL_strict rfl) lL_58 hob rfl (ab_fit_of rfl) rfl rfl ?_
  intro r nx1 h1 hq
  exact lh_fin1 hq (k_strict hU) hg xL_strict_1 (fun _ _ _ w => w) (fun h0 h1 hd1 hr1 => lh_tl (ab_dec okL_strict rfl) (ab_dec okL_strict rfl) (ab_dec okL_strict rfl) rfl (ab_dec okL_strict rfl) (ab_dec okL_strict rfl) rfl (Nat.le_of_ble_eq_true rfl) (Nat.le_of_ble_eq_true rfl) hg (fun _ _ _ w => w) h0 hd1 hr1)
def iL_retake : List ab_E := [(0, .aload_n 2, 1, 0, 0), (1, .iconst 0, 1, 0, 0), (2, .aload_n 0, 1, 0, 0), (3, .iload_n 1, 1, 0, 0), (4, .invokevirtual 61, 3, 0, 0), (7, .i2l, 1, 0, 0), (8, .lastore, 1, 0, 0), (9, .goto 9, 3, 0, 18), (12, .astore_n 3, 1, 0, 0), (13, .iconst 1, 1, 0, 0), (14, .ireturn, 1, 0, 0), (15, .astore_n 3, 1, 0, 0), (16, .iconst 2, 1, 0, 0), (17, .ireturn, 1, 0, 0), (18, .iconst 0, 1, 0, 0), (19, .ireturn, 1, 0, 0)]
abbrev mL_retake : ab_M := (yL_retake, cL_retake, 4, some .int, 8, 2, 12)
theorem okL_retake : ab_cd mL_retake 0 iL_retake := ab_cd_of (F := []) (P := []) (fun _ h => absurd h List.not_mem_nil) (fun _ h => absurd h List.not_mem_nil) _ _ (by decide +kernel)
def hL_retake : lh_H := [(0, 9, 12, 24), (0, 9, 15, 45)]
theorem sL_retake : lh_ls RL 197 mL_retake hL_retake 3 := ⟨⟨ab_mem 1119 (by decide +kernel) rfl, ab_mem 1120 (by decide +kernel) rfl, ab_mem 0 (by decide +kernel) rfl, ab_mem 1121 (by decide +kernel) rfl⟩, by decide +kernel, by decide +kernel, by decide +kernel⟩
theorem xL_retake_1 : lh_X mL_retake hL_retake 4 xIO 1 := ⟨[], ⟨0, 9, 12, 24⟩, [⟨0, 9, 15, 45⟩], rfl, fun z hz => absurd hz List.not_mem_nil, by decide, by decide, ab_mem 912 (by decide +kernel) rfl, ab_memN 924 (by decide +kernel) rfl, Or.inl ⟨3, by decide, ab_dec okL_retake rfl, ab_dec okL_retake rfl, ab_dec okL_retake rfl⟩⟩
theorem xL_retake_2 : lh_X mL_retake hL_retake 4 xIS 2 := ⟨[⟨0, 9, 12, 24⟩], ⟨0, 9, 15, 45⟩, [], rfl, fun z hz => by rw [List.mem_singleton.mp hz]; exact ⟨by decide, by decide, xIO, ab_mem 912 (by decide +kernel) rfl, by decide +kernel⟩, by decide, by decide, ab_mem 1062 (by decide +kernel) rfl, ab_memN 1073 (by decide +kernel) rfl, Or.inl ⟨3, by decide, ab_dec okL_retake rfl, ab_dec okL_retake rfl, ab_dec okL_retake rfl⟩⟩
theorem a_retake {h : ab_H} {U : ST} {nx : Nat} {g : Nat → Int64} {a : Int32} (hd : df_at h U) (hU : st_ok U) (hg : h 3189 = some (.inr (3, 1, .inr (.inl g)))) : lh_Con mL_retake hL_retake [.ref 3000, .int a, .ref 3189] nx h (lh_P nx h (sp_retake U a)) := by
  refine lh_Con.of (by decide) rfl (Nat.le_of_ble_eq_true rfl) ?_
  obtain ⟨im, pn, pc, hob⟩ := hd.obj
  refine lh_aload_n (ab_dec okL_retake rfl) rfl ?_
  refine lh_iconst (ab_dec okL_retake rfl) ?_
  refine lh_aload_n (ab_dec okL_retake rfl) rfl ?_
  refine lh_iload_n (ab_dec okL_retake rfl) rfl ?_
  refine lh_callV (As := [.int a]) (c_retake hd hU) (ab_dec okL_retake rfl) lL_61 hob rfl (ab_fit_of rfl) rfl rfl ?_
  intro r nx1 h1 hq
  exact lh_fin2 hq (k_retake hU) hg xL_retake_1 xL_retake_2 (fun _ _ _ w => w) (fun h0 h1 hd1 hr1 => lh_tl (ab_dec okL_retake rfl) (ab_dec okL_retake rfl) (ab_dec okL_retake rfl) rfl (ab_dec okL_retake rfl) (ab_dec okL_retake rfl) rfl (Nat.le_of_ble_eq_true rfl) (Nat.le_of_ble_eq_true rfl) hg (fun _ _ _ w => w) h0 hd1 hr1)
def iL_forget : List ab_E := [(0, .aload_n 2, 1, 0, 0), (1, .iconst 0, 1, 0, 0), (2, .aload_n 0, 1, 0, 0), (3, .iload_n 1, 1, 0, 0), (4, .invokevirtual 64, 3, 0, 0), (7, .i2l, 1, 0, 0), (8, .lastore, 1, 0, 0), (9, .goto 6, 3, 0, 15), (12, .astore_n 3, 1, 0, 0), (13, .iconst 1, 1, 0, 0), (14, .ireturn, 1, 0, 0), (15, .iconst 0, 1, 0, 0), (16, .ireturn, 1, 0, 0)]
abbrev mL_forget : ab_M := (yL_forget, cL_forget, 4, some .int, 8, 1, 6)
theorem okL_forget : ab_cd mL_forget 0 iL_forget := ab_cd_of (F := []) (P := []) (fun _ h => absurd h List.not_mem_nil) (fun _ h => absurd h List.not_mem_nil) _ _ (by decide +kernel)
def hL_forget : lh_H := [(0, 9, 12, 24)]
theorem sL_forget : lh_ls RL 200 mL_forget hL_forget 3 := ⟨⟨ab_mem 1127 (by decide +kernel) rfl, ab_mem 1128 (by decide +kernel) rfl, ab_mem 0 (by decide +kernel) rfl, ab_mem 1129 (by decide +kernel) rfl⟩, by decide +kernel, by decide +kernel, by decide +kernel⟩
theorem xL_forget_1 : lh_X mL_forget hL_forget 4 xIO 1 := ⟨[], ⟨0, 9, 12, 24⟩, [], rfl, fun z hz => absurd hz List.not_mem_nil, by decide, by decide, ab_mem 912 (by decide +kernel) rfl, ab_memN 924 (by decide +kernel) rfl, Or.inl ⟨3, by decide, ab_dec okL_forget rfl, ab_dec okL_forget rfl, ab_dec okL_forget rfl⟩⟩
theorem a_forget {h : ab_H} {U : ST} {nx : Nat} {g : Nat → Int64} {a : Int32} (hd : df_at h U) (hU : st_ok U) (hg : h 3189 = some (.inr (3, 1, .inr (.inl g)))) : lh_Con mL_forget hL_forget [.ref 3000, .int a, .ref 3189] nx h (lh_P nx h (sp_forget U a)) := by
  refine lh_Con.of (by decide) rfl (Nat.le_of_ble_eq_true rfl) ?_
  obtain ⟨im, pn, pc, hob⟩ := hd.obj
  refine lh_aload_n (ab_dec okL_forget rfl) rfl ?_
  refine lh_iconst (ab_dec okL_forget rfl) ?_
  refine lh_aload_n (ab_dec okL_forget rfl) rfl ?_
  refine lh_iload_n (ab_dec okL_forget rfl) rfl ?_
  refine lh_callV (As := [.int a]) (c_forget hd hU) (ab_dec okL_forget rfl) lL_64 hob rfl (ab_fit_of rfl) rfl rfl ?_
  intro r nx1 h1 hq
  exact lh_fin1 hq (k_forget hU) hg xL_forget_1 (fun _ _ _ w => w) (fun h0 h1 hd1 hr1 => lh_tl (ab_dec okL_forget rfl) (ab_dec okL_forget rfl) (ab_dec okL_forget rfl) rfl (ab_dec okL_forget rfl) (ab_dec okL_forget rfl) rfl (Nat.le_of_ble_eq_true rfl) (Nat.le_of_ble_eq_true rfl) hg (fun _ _ _ w => w) h0 hd1 hr1)
def iL_within : List ab_E := [(0, .aload_n 3, 1, 0, 0), (1, .iconst 0, 1, 0, 0), (2, .aload_n 0, 1, 0, 0), (3, .iload_n 1, 1, 0, 0), (4, .iload_n 2, 1, 0, 0), (5, .invokevirtual 67, 3, 0, 0), (8, .i2l, 1, 0, 0), (9, .lastore, 1, 0, 0), (10, .goto 11, 3, 0, 21), (13, .astore 4, 2, 0, 0), (15, .iconst 1, 1, 0, 0), (16, .ireturn, 1, 0, 0), (17, .astore 4, 2, 0, 0), (19, .iconst 2, 1, 0, 0), (20, .ireturn, 1, 0, 0), (21, .iconst 0, 1, 0, 0), (22, .ireturn, 1, 0, 0)]
abbrev mL_within : ab_M := (yL_within, cL_within, 5, some .int, 8, 2, 12)
theorem okL_within : ab_cd mL_within 0 iL_within := ab_cd_of (F := []) (P := []) (fun _ h => absurd h List.not_mem_nil) (fun _ h => absurd h List.not_mem_nil) _ _ (by decide +kernel)
def hL_within : lh_H := [(0, 10, 13, 24), (0, 10, 17, 13)]
theorem sL_within : lh_ls RL 203 mL_within hL_within 4 := ⟨⟨ab_mem 1138 (by decide +kernel) rfl, ab_mem 1139 (by decide +kernel) rfl, ab_mem 0 (by decide +kernel) rfl, ab_mem 1140 (by decide +kernel) rfl⟩, by decide +kernel, by decide +kernel, by decide +kernel⟩
theorem xL_within_1 : lh_X mL_within hL_within 5 xIO 1 := ⟨[], ⟨0, 10, 13, 24⟩, [⟨0, 10, 17, 13⟩], rfl, fun z hz => absurd hz List.not_mem_nil, by decide, by decide, ab_mem 912 (by decide +kernel) rfl, ab_memN 924 (by decide +kernel) rfl, Or.inr ⟨4, by decide, ab_dec okL_within rfl, ab_dec okL_within rfl, ab_dec okL_within rfl⟩⟩
theorem xL_within_2 : lh_X mL_within hL_within 5 xIA 2 := ⟨[⟨0, 10, 13, 24⟩], ⟨0, 10, 17, 13⟩, [], rfl, fun z hz => by rw [List.mem_singleton.mp hz]; exact ⟨by decide, by decide, xIO, ab_mem 912 (by decide +kernel) rfl, by decide +kernel⟩, by decide, by decide, ab_mem 569 (by decide +kernel) rfl, ab_memN 810 (by decide +kernel) rfl, Or.inr ⟨4, by decide, ab_dec okL_within rfl, ab_dec okL_within rfl, ab_dec okL_within rfl⟩⟩
theorem a_within {h : ab_H} {U : ST} {nx : Nat} {g : Nat → Int64} {a b : Int32} (hd : df_at h U) (hU : st_ok U) (hg : h 3189 = some (.inr (3, 1, .inr (.inl g)))) : lh_Con mL_within hL_within [.ref 3000, .int a, .int b, .ref 3189] nx h (lh_P nx h (sp_within U a b)) := by
  refine lh_Con.of (by decide) rfl (Nat.le_of_ble_eq_true rfl) ?_
  obtain ⟨im, pn, pc, hob⟩ := hd.obj
  refine lh_aload_n (ab_dec okL_within rfl) rfl ?_
  refine lh_iconst (ab_dec okL_within rfl) ?_
  refine lh_aload_n (ab_dec okL_within rfl) rfl ?_
  refine lh_iload_n (ab_dec okL_within rfl) rfl ?_
  refine lh_iload_n (ab_dec okL_within rfl) rfl ?_
  refine lh_callV (As := [.int a, .int b]) (c_within hd hU) (ab_dec okL_within rfl) lL_67 hob rfl (ab_fit_of rfl) rfl rfl ?_
  intro r nx1 h1 hq
  exact lh_fin2 hq (k_within hU) hg xL_within_1 xL_within_2 (fun _ _ _ w => w) (fun h0 h1 hd1 hr1 => lh_tl (ab_dec okL_within rfl) (ab_dec okL_within rfl) (ab_dec okL_within rfl) rfl (ab_dec okL_within rfl) (ab_dec okL_within rfl) rfl (Nat.le_of_ble_eq_true rfl) (Nat.le_of_ble_eq_true rfl) hg (fun _ _ _ w => w) h0 hd1 hr1)
def iL_soon : List ab_E := [(0, .aload_n 3, 1, 0, 0), (1, .iconst 0, 1, 0, 0), (2, .aload_n 0, 1, 0, 0), (3, .iload_n 1, 1, 0, 0), (4, .iload_n 2, 1, 0, 0), (5, .invokevirtual 70, 3, 0, 0), (8, .i2l, 1, 0, 0), (9, .lastore, 1, 0, 0), (10, .goto 11, 3, 0, 21), (13, .astore 4, 2, 0, 0), (15, .iconst 1, 1, 0, 0), (16, .ireturn, 1, 0, 0), (17, .astore 4, 2, 0, 0), (19, .iconst 2, 1, 0, 0), (20, .ireturn, 1, 0, 0), (21, .iconst 0, 1, 0, 0), (22, .ireturn, 1, 0, 0)]
abbrev mL_soon : ab_M := (yL_soon, cL_soon, 5, some .int, 8, 2, 12)
theorem okL_soon : ab_cd mL_soon 0 iL_soon := ab_cd_of (F := []) (P := []) (fun _ h => absurd h List.not_mem_nil) (fun _ h => absurd h List.not_mem_nil) _ _ (by decide +kernel)
def hL_soon : lh_H := [(0, 10, 13, 24), (0, 10, 17, 13)]
theorem sL_soon : lh_ls RL 206 mL_soon hL_soon 4 := ⟨⟨ab_mem 1148 (by decide +kernel) rfl, ab_mem 1149 (by decide +kernel) rfl, ab_mem 0 (by decide +kernel) rfl, ab_mem 1150 (by decide +kernel) rfl⟩, by decide +kernel, by decide +kernel, by decide +kernel⟩
theorem xL_soon_1 : lh_X mL_soon hL_soon 5 xIO 1 := ⟨[], ⟨0, 10, 13, 24⟩, [⟨0, 10, 17, 13⟩], rfl, fun z hz => absurd hz List.not_mem_nil, by decide, by decide, ab_mem 912 (by decide +kernel) rfl, ab_memN 924 (by decide +kernel) rfl, Or.inr ⟨4, by decide, ab_dec okL_soon rfl, ab_dec okL_soon rfl, ab_dec okL_soon rfl⟩⟩
theorem xL_soon_2 : lh_X mL_soon hL_soon 5 xIA 2 := ⟨[⟨0, 10, 13, 24⟩], ⟨0, 10, 17, 13⟩, [], rfl, fun z hz => by rw [List.mem_singleton.mp hz]; exact ⟨by decide, by decide, xIO, ab_mem 912 (by decide +kernel) rfl, by decide +kernel⟩, by decide, by decide, ab_mem 569 (by decide +kernel) rfl, ab_memN 810 (by decide +kernel) rfl, Or.inr ⟨4, by decide, ab_dec okL_soon rfl, ab_dec okL_soon rfl, ab_dec okL_soon rfl⟩⟩
theorem a_soon {h : ab_H} {U : ST} {nx : Nat} {g : Nat → Int64} {a b : Int32} (hd : df_at h U) (hU : st_ok U) (hg : h 3189 = some (.inr (3, 1, .inr (.inl g)))) : lh_Con mL_soon hL_soon [.ref 3000, .int a, .int b, .ref 3189] nx h (lh_P nx h (sp_soon U a b)) := by
  refine lh_Con.of (by decide) rfl (Nat.le_of_ble_eq_true rfl) ?_
  obtain ⟨im, pn, pc, hob⟩ := hd.obj
  refine lh_aload_n (ab_dec okL_soon rfl) rfl ?_
  refine lh_iconst (ab_dec okL_soon rfl) ?_
  refine lh_aload_n (ab_dec okL_soon rfl) rfl ?_
  refine lh_iload_n (ab_dec okL_soon rfl) rfl ?_
  refine lh_iload_n (ab_dec okL_soon rfl) rfl ?_
  refine lh_callV (As := [.int a, .int b]) (c_soon hd hU) (ab_dec okL_soon rfl) lL_70 hob rfl (ab_fit_of rfl) rfl rfl ?_
  intro r nx1 h1 hq
  exact lh_fin2 hq (k_soon hU) hg xL_soon_1 xL_soon_2 (fun _ _ _ w => w) (fun h0 h1 hd1 hr1 => lh_tl (ab_dec okL_soon rfl) (ab_dec okL_soon rfl) (ab_dec okL_soon rfl) rfl (ab_dec okL_soon rfl) (ab_dec okL_soon rfl) rfl (Nat.le_of_ble_eq_true rfl) (Nat.le_of_ble_eq_true rfl) hg (fun _ _ _ w => w) h0 hd1 hr1)
def iL_need : List ab_E := [(0, .aload_n 3, 1, 0, 0), (1, .iconst 0, 1, 0, 0), (2, .aload_n 0, 1, 0, 0), (3, .iload_n 1, 1, 0, 0), (4, .iload_n 2, 1, 0, 0), (5, .invokevirtual 73, 3, 0, 0), (8, .i2l, 1, 0, 0), (9, .lastore, 1, 0, 0), (10, .goto 7, 3, 0, 17), (13, .astore 4, 2, 0, 0), (15, .iconst 1, 1, 0, 0), (16, .ireturn, 1, 0, 0), (17, .iconst 0, 1, 0, 0), (18, .ireturn, 1, 0, 0)]
abbrev mL_need : ab_M := (yL_need, cL_need, 5, some .int, 8, 2, 12)
theorem okL_need : ab_cd mL_need 0 iL_need := ab_cd_of (F := []) (P := []) (fun _ h => absurd h List.not_mem_nil) (fun _ h => absurd h List.not_mem_nil) _ _ (by decide +kernel)
def hL_need : lh_H := [(0, 10, 13, 24)]
theorem sL_need : lh_ls RL 209 mL_need hL_need 4 := ⟨⟨ab_mem 1156 (by decide +kernel) rfl, ab_mem 1157 (by decide +kernel) rfl, ab_mem 0 (by decide +kernel) rfl, ab_mem 1158 (by decide +kernel) rfl⟩, by decide +kernel, by decide +kernel, by decide +kernel⟩
theorem xL_need_1 : lh_X mL_need hL_need 5 xIO 1 := ⟨[], ⟨0, 10, 13, 24⟩, [], rfl, fun z hz => absurd hz List.not_mem_nil, by decide, by decide, ab_mem 912 (by decide +kernel) rfl, ab_memN 924 (by decide +kernel) rfl, Or.inr ⟨4, by decide, ab_dec okL_need rfl, ab_dec okL_need rfl, ab_dec okL_need rfl⟩⟩
theorem a_need {h : ab_H} {U : ST} {nx : Nat} {g : Nat → Int64} {a b : Int32} (hd : df_at h U) (hU : st_ok U) (hg : h 3189 = some (.inr (3, 1, .inr (.inl g)))) : lh_Con mL_need hL_need [.ref 3000, .int a, .int b, .ref 3189] nx h (lh_P nx h (sp_need U a b)) := by
  refine lh_Con.of (by decide) rfl (Nat.le_of_ble_eq_true rfl) ?_
  obtain ⟨im, pn, pc, hob⟩ := hd.obj
  refine lh_aload_n (ab_dec okL_need rfl) rfl ?_
  refine lh_iconst (ab_dec okL_need rfl) ?_
  refine lh_aload_n (ab_dec okL_need rfl) rfl ?_
  refine lh_iload_n (ab_dec okL_need rfl) rfl ?_
  refine lh_iload_n (ab_dec okL_need rfl) rfl ?_
  refine lh_callV (As := [.int a, .int b]) (c_need hd hU) (ab_dec okL_need rfl) lL_73 hob rfl (ab_fit_of rfl) rfl rfl ?_
  intro r nx1 h1 hq
  exact lh_fin1 hq (k_need hU) hg xL_need_1 (fun _ _ _ w => w) (fun h0 h1 hd1 hr1 => lh_tl (ab_dec okL_need rfl) (ab_dec okL_need rfl) (ab_dec okL_need rfl) rfl (ab_dec okL_need rfl) (ab_dec okL_need rfl) rfl (Nat.le_of_ble_eq_true rfl) (Nat.le_of_ble_eq_true rfl) hg (fun _ _ _ w => w) h0 hd1 hr1)
def iL_cover : List ab_E := [(0, .aload_n 3, 1, 0, 0), (1, .iconst 0, 1, 0, 0), (2, .aload_n 0, 1, 0, 0), (3, .iload_n 1, 1, 0, 0), (4, .iload_n 2, 1, 0, 0), (5, .invokevirtual 76, 3, 0, 0), (8, .i2l, 1, 0, 0), (9, .lastore, 1, 0, 0), (10, .goto 11, 3, 0, 21), (13, .astore 4, 2, 0, 0), (15, .iconst 1, 1, 0, 0), (16, .ireturn, 1, 0, 0), (17, .astore 4, 2, 0, 0), (19, .iconst 2, 1, 0, 0), (20, .ireturn, 1, 0, 0), (21, .iconst 0, 1, 0, 0), (22, .ireturn, 1, 0, 0)]
abbrev mL_cover : ab_M := (yL_cover, cL_cover, 5, some .int, 8, 2, 12)
theorem okL_cover : ab_cd mL_cover 0 iL_cover := ab_cd_of (F := []) (P := []) (fun _ h => absurd h List.not_mem_nil) (fun _ h => absurd h List.not_mem_nil) _ _ (by decide +kernel)
def hL_cover : lh_H := [(0, 10, 13, 24), (0, 10, 17, 13)]
theorem sL_cover : lh_ls RL 212 mL_cover hL_cover 4 := ⟨⟨ab_mem 1164 (by decide +kernel) rfl, ab_mem 1165 (by decide +kernel) rfl, ab_mem 0 (by decide +kernel) rfl, ab_mem 1166 (by decide +kernel) rfl⟩, by decide +kernel, by decide +kernel, by decide +kernel⟩
theorem xL_cover_1 : lh_X mL_cover hL_cover 5 xIO 1 := ⟨[], ⟨0, 10, 13, 24⟩, [⟨0, 10, 17, 13⟩], rfl, fun z hz => absurd hz List.not_mem_nil, by decide, by decide, ab_mem 912 (by decide +kernel) rfl, ab_memN 924 (by decide +kernel) rfl, Or.inr ⟨4, by decide, ab_dec okL_cover rfl, ab_dec okL_cover rfl, ab_dec okL_cover rfl⟩⟩
theorem xL_cover_2 : lh_X mL_cover hL_cover 5 xIA 2 := ⟨[⟨0, 10, 13, 24⟩], ⟨0, 10, 17, 13⟩, [], rfl, fun z hz => by rw [List.mem_singleton.mp hz]; exact ⟨by decide, by decide, xIO, ab_mem 912 (by decide +kernel) rfl, by decide +kernel⟩, by decide, by decide, ab_mem 569 (by decide +kernel) rfl, ab_memN 810 (by decide +kernel) rfl, Or.inr ⟨4, by decide, ab_dec okL_cover rfl, ab_dec okL_cover rfl, ab_dec okL_cover rfl⟩⟩
theorem a_cover {h : ab_H} {U : ST} {nx : Nat} {g : Nat → Int64} {a b : Int32} (hd : df_at h U) (hU : st_ok U) (hg : h 3189 = some (.inr (3, 1, .inr (.inl g)))) : lh_Con mL_cover hL_cover [.ref 3000, .int a, .int b, .ref 3189] nx h (lh_P nx h (sp_cover U a b)) := by
  refine lh_Con.of (by decide) rfl (Nat.le_of_ble_eq_true rfl) ?_
  obtain ⟨im, pn, pc, hob⟩ := hd.obj
  refine lh_aload_n (ab_dec okL_cover rfl) rfl ?_
  refine lh_iconst (ab_dec okL_cover rfl) ?_
  refine lh_aload_n (ab_dec okL_cover rfl) rfl ?_
  refine lh_iload_n (ab_dec okL_cover rfl) rfl ?_
  refine lh_iload_n (ab_dec okL_cover rfl) rfl ?_
  refine lh_callV (As := [.int a, .int b]) (c_cover hd hU) (ab_dec okL_cover rfl) lL_76 hob rfl (ab_fit_of rfl) rfl rfl ?_
  intro r nx1 h1 hq
  exact lh_fin2 hq (k_cover hU) hg xL_cover_1 xL_cover_2 (fun _ _ _ w => w) (fun h0 h1 hd1 hr1 => lh_tl (ab_dec okL_cover rfl) (ab_dec okL_cover rfl) (ab_dec okL_cover rfl) rfl (ab_dec okL_cover rfl) (ab_dec okL_cover rfl) rfl (Nat.le_of_ble_eq_true rfl) (Nat.le_of_ble_eq_true rfl) hg (fun _ _ _ w => w) h0 hd1 hr1)
def iL_whom : List ab_E := [(0, .aload_n 3, 1, 0, 0), (1, .iconst 0, 1, 0, 0), (2, .aload_n 0, 1, 0, 0), (3, .iload_n 1, 1, 0, 0), (4, .iload_n 2, 1, 0, 0), (5, .invokevirtual 79, 3, 0, 0), (8, .i2l, 1, 0, 0), (9, .lastore, 1, 0, 0), (10, .goto 11, 3, 0, 21), (13, .astore 4, 2, 0, 0), (15, .iconst 1, 1, 0, 0), (16, .ireturn, 1, 0, 0), (17, .astore 4, 2, 0, 0), (19, .iconst 2, 1, 0, 0), (20, .ireturn, 1, 0, 0), (21, .iconst 0, 1, 0, 0), (22, .ireturn, 1, 0, 0)]
abbrev mL_whom : ab_M := (yL_whom, cL_whom, 5, some .int, 8, 2, 12)
theorem okL_whom : ab_cd mL_whom 0 iL_whom := ab_cd_of (F := []) (P := []) (fun _ h => absurd h List.not_mem_nil) (fun _ h => absurd h List.not_mem_nil) _ _ (by decide +kernel)
def hL_whom : lh_H := [(0, 10, 13, 24), (0, 10, 17, 13)]
theorem sL_whom : lh_ls RL 215 mL_whom hL_whom 4 := ⟨⟨ab_mem 1185 (by decide +kernel) rfl, ab_mem 1186 (by decide +kernel) rfl, ab_mem 0 (by decide +kernel) rfl, ab_mem 1187 (by decide +kernel) rfl⟩, by decide +kernel, by decide +kernel, by decide +kernel⟩
theorem xL_whom_1 : lh_X mL_whom hL_whom 5 xIO 1 := ⟨[], ⟨0, 10, 13, 24⟩, [⟨0, 10, 17, 13⟩], rfl, fun z hz => absurd hz List.not_mem_nil, by decide, by decide, ab_mem 912 (by decide +kernel) rfl, ab_memN 924 (by decide +kernel) rfl, Or.inr ⟨4, by decide, ab_dec okL_whom rfl, ab_dec okL_whom rfl, ab_dec okL_whom rfl⟩⟩
theorem xL_whom_2 : lh_X mL_whom hL_whom 5 xIA 2 := ⟨[⟨0, 10, 13, 24⟩], ⟨0, 10, 17, 13⟩, [], rfl, fun z hz => by rw [List.mem_singleton.mp hz]; exact ⟨by decide, by decide, xIO, ab_mem 912 (by decide +kernel) rfl, by decide +kernel⟩, by decide, by decide, ab_mem 569 (by decide +kernel) rfl, ab_memN 810 (by decide +kernel) rfl, Or.inr ⟨4, by decide, ab_dec okL_whom rfl, ab_dec okL_whom rfl, ab_dec okL_whom rfl⟩⟩
theorem a_whom {h : ab_H} {U : ST} {nx : Nat} {g : Nat → Int64} {a b : Int32} (hd : df_at h U) (hU : st_ok U) (hg : h 3189 = some (.inr (3, 1, .inr (.inl g)))) : lh_Con mL_whom hL_whom [.ref 3000, .int a, .int b, .ref 3189] nx h (lh_P nx h (sp_whom U a b)) := by
  refine lh_Con.of (by decide) rfl (Nat.le_of_ble_eq_true rfl) ?_
  obtain ⟨im, pn, pc, hob⟩ := hd.obj
  refine lh_aload_n (ab_dec okL_whom rfl) rfl ?_
  refine lh_iconst (ab_dec okL_whom rfl) ?_
  refine lh_aload_n (ab_dec okL_whom rfl) rfl ?_
  refine lh_iload_n (ab_dec okL_whom rfl) rfl ?_
  refine lh_iload_n (ab_dec okL_whom rfl) rfl ?_
  refine lh_callV (As := [.int a, .int b]) (c_whom hd hU) (ab_dec okL_whom rfl) lL_79 hob rfl (ab_fit_of rfl) rfl rfl ?_
  intro r nx1 h1 hq
  exact lh_fin2 hq (k_whom hU) hg xL_whom_1 xL_whom_2 (fun _ _ _ w => w) (fun h0 h1 hd1 hr1 => lh_tl (ab_dec okL_whom rfl) (ab_dec okL_whom rfl) (ab_dec okL_whom rfl) rfl (ab_dec okL_whom rfl) (ab_dec okL_whom rfl) rfl (Nat.le_of_ble_eq_true rfl) (Nat.le_of_ble_eq_true rfl) hg (fun _ _ _ w => w) h0 hd1 hr1)
def iL_outs : List ab_E := [(0, .aload_n 3, 1, 0, 0), (1, .iconst 0, 1, 0, 0), (2, .aload_n 0, 1, 0, 0), (3, .iload_n 1, 1, 0, 0), (4, .iload_n 2, 1, 0, 0), (5, .invokevirtual 82, 3, 0, 0), (8, .i2l, 1, 0, 0), (9, .lastore, 1, 0, 0), (10, .goto 11, 3, 0, 21), (13, .astore 4, 2, 0, 0), (15, .iconst 1, 1, 0, 0), (16, .ireturn, 1, 0, 0), (17, .astore 4, 2, 0, 0), (19, .iconst 2, 1, 0, 0), (20, .ireturn, 1, 0, 0), (21, .iconst 0, 1, 0, 0), (22, .ireturn, 1, 0, 0)]
abbrev mL_outs : ab_M := (yL_outs, cL_outs, 5, some .int, 14, 2, 12)
theorem okL_outs : ab_cd mL_outs 0 iL_outs := ab_cd_of (F := []) (P := []) (fun _ h => absurd h List.not_mem_nil) (fun _ h => absurd h List.not_mem_nil) _ _ (by decide +kernel)
def hL_outs : lh_H := [(0, 10, 13, 24), (0, 10, 17, 13)]
theorem sL_outs : lh_ls RL 218 mL_outs hL_outs 4 := ⟨⟨ab_mem 1192 (by decide +kernel) rfl, ab_mem 1193 (by decide +kernel) rfl, ab_mem 0 (by decide +kernel) rfl, ab_mem 1194 (by decide +kernel) rfl⟩, by decide +kernel, by decide +kernel, by decide +kernel⟩
theorem xL_outs_1 : lh_X mL_outs hL_outs 5 xIO 1 := ⟨[], ⟨0, 10, 13, 24⟩, [⟨0, 10, 17, 13⟩], rfl, fun z hz => absurd hz List.not_mem_nil, by decide, by decide, ab_mem 912 (by decide +kernel) rfl, ab_memN 924 (by decide +kernel) rfl, Or.inr ⟨4, by decide, ab_dec okL_outs rfl, ab_dec okL_outs rfl, ab_dec okL_outs rfl⟩⟩
theorem xL_outs_2 : lh_X mL_outs hL_outs 5 xIA 2 := ⟨[⟨0, 10, 13, 24⟩], ⟨0, 10, 17, 13⟩, [], rfl, fun z hz => by rw [List.mem_singleton.mp hz]; exact ⟨by decide, by decide, xIO, ab_mem 912 (by decide +kernel) rfl, by decide +kernel⟩, by decide, by decide, ab_mem 569 (by decide +kernel) rfl, ab_memN 810 (by decide +kernel) rfl, Or.inr ⟨4, by decide, ab_dec okL_outs rfl, ab_dec okL_outs rfl, ab_dec okL_outs rfl⟩⟩
theorem a_outs {h : ab_H} {U : ST} {nx : Nat} {g : Nat → Int64} {a b : Int32} (hd : df_at h U) (hU : st_ok U) (hg : h 3189 = some (.inr (3, 1, .inr (.inl g)))) : lh_Con mL_outs hL_outs [.ref 3000, .int a, .int b, .ref 3189] nx h (lh_P nx h (sp_outs U a b)) := by
  refine lh_Con.of (by decide) rfl (Nat.le_of_ble_eq_true rfl) ?_
  obtain ⟨im, pn, pc, hob⟩ := hd.obj
  refine lh_aload_n (ab_dec okL_outs rfl) rfl ?_
  refine lh_iconst (ab_dec okL_outs rfl) ?_
  refine lh_aload_n (ab_dec okL_outs rfl) rfl ?_
  refine lh_iload_n (ab_dec okL_outs rfl) rfl ?_
  refine lh_iload_n (ab_dec okL_outs rfl) rfl ?_
  refine lh_callV (As := [.int a, .int b]) (c_outs hd hU) (ab_dec okL_outs rfl) lL_82 hob rfl (ab_fit_of rfl) rfl rfl ?_
  intro r nx1 h1 hq
  exact lh_fin2 hq (k_outs hU) hg xL_outs_1 xL_outs_2 (fun _ _ _ w => w) (fun h0 h1 hd1 hr1 => lh_tl (ab_dec okL_outs rfl) (ab_dec okL_outs rfl) (ab_dec okL_outs rfl) rfl (ab_dec okL_outs rfl) (ab_dec okL_outs rfl) rfl (Nat.le_of_ble_eq_true rfl) (Nat.le_of_ble_eq_true rfl) hg (fun _ _ _ w => w) h0 hd1 hr1)
def iL_sworn : List ab_E := [(0, .aload_n 1, 1, 0, 0), (1, .iconst 0, 1, 0, 0), (2, .aload_n 0, 1, 0, 0), (3, .invokevirtual 85, 3, 0, 0), (6, .i2l, 1, 0, 0), (7, .lastore, 1, 0, 0), (8, .goto 6, 3, 0, 14), (11, .astore_n 2, 1, 0, 0), (12, .iconst 1, 1, 0, 0), (13, .ireturn, 1, 0, 0), (14, .iconst 0, 1, 0, 0), (15, .ireturn, 1, 0, 0)]
abbrev mL_sworn : ab_M := (yL_sworn, cL_sworn, 3, some .int, 8, 1, 6)
theorem okL_sworn : ab_cd mL_sworn 0 iL_sworn := ab_cd_of (F := []) (P := []) (fun _ h => absurd h List.not_mem_nil) (fun _ h => absurd h List.not_mem_nil) _ _ (by decide +kernel)
def hL_sworn : lh_H := [(0, 8, 11, 13)]
theorem sL_sworn : lh_ls RL 221 mL_sworn hL_sworn 2 := ⟨⟨ab_mem 1212 (by decide +kernel) rfl, ab_mem 1213 (by decide +kernel) rfl, ab_mem 0 (by decide +kernel) rfl, ab_mem 1214 (by decide +kernel) rfl⟩, by decide +kernel, by decide +kernel, by decide +kernel⟩
theorem xL_sworn_1 : lh_X mL_sworn hL_sworn 3 xIA 1 := ⟨[], ⟨0, 8, 11, 13⟩, [], rfl, fun z hz => absurd hz List.not_mem_nil, by decide, by decide, ab_mem 569 (by decide +kernel) rfl, ab_memN 810 (by decide +kernel) rfl, Or.inl ⟨2, by decide, ab_dec okL_sworn rfl, ab_dec okL_sworn rfl, ab_dec okL_sworn rfl⟩⟩
theorem a_sworn {h : ab_H} {U : ST} {nx : Nat} {g : Nat → Int64} (hd : df_at h U) (hU : st_ok U) (hg : h 3189 = some (.inr (3, 1, .inr (.inl g)))) : lh_Con mL_sworn hL_sworn [.ref 3000, .ref 3189] nx h (lh_P nx h (sp_sworn U)) := by
  refine lh_Con.of (by decide) rfl (Nat.le_of_ble_eq_true rfl) ?_
  obtain ⟨im, pn, pc, hob⟩ := hd.obj
  refine lh_aload_n (ab_dec okL_sworn rfl) rfl ?_
  refine lh_iconst (ab_dec okL_sworn rfl) ?_
  refine lh_aload_n (ab_dec okL_sworn rfl) rfl ?_
  refine lh_callV (As := []) (c_sworn hd hU) (ab_dec okL_sworn rfl) lL_85 hob rfl (ab_fit_of rfl) rfl rfl ?_
  intro r nx1 h1 hq
  exact lh_fin1 hq (k_sworn hU) hg xL_sworn_1 (fun _ _ _ w => w) (fun h0 h1 hd1 hr1 => lh_tl (ab_dec okL_sworn rfl) (ab_dec okL_sworn rfl) (ab_dec okL_sworn rfl) rfl (ab_dec okL_sworn rfl) (ab_dec okL_sworn rfl) rfl (Nat.le_of_ble_eq_true rfl) (Nat.le_of_ble_eq_true rfl) hg (fun _ _ _ w => w) h0 hd1 hr1)
def iL_likely : List ab_E := [(0, .aload_n 1, 1, 0, 0), (1, .iconst 0, 1, 0, 0), (2, .aload_n 0, 1, 0, 0), (3, .invokevirtual 88, 3, 0, 0), (6, .i2l, 1, 0, 0), (7, .lastore, 1, 0, 0), (8, .goto 6, 3, 0, 14), (11, .astore_n 2, 1, 0, 0), (12, .iconst 1, 1, 0, 0), (13, .ireturn, 1, 0, 0), (14, .iconst 0, 1, 0, 0), (15, .ireturn, 1, 0, 0)]
abbrev mL_likely : ab_M := (yL_likely, cL_likely, 3, some .int, 8, 1, 6)
theorem okL_likely : ab_cd mL_likely 0 iL_likely := ab_cd_of (F := []) (P := []) (fun _ h => absurd h List.not_mem_nil) (fun _ h => absurd h List.not_mem_nil) _ _ (by decide +kernel)
def hL_likely : lh_H := [(0, 8, 11, 13)]
theorem sL_likely : lh_ls RL 224 mL_likely hL_likely 2 := ⟨⟨ab_mem 1235 (by decide +kernel) rfl, ab_mem 1236 (by decide +kernel) rfl, ab_mem 0 (by decide +kernel) rfl, ab_mem 1237 (by decide +kernel) rfl⟩, by decide +kernel, by decide +kernel, by decide +kernel⟩
theorem xL_likely_1 : lh_X mL_likely hL_likely 3 xIA 1 := ⟨[], ⟨0, 8, 11, 13⟩, [], rfl, fun z hz => absurd hz List.not_mem_nil, by decide, by decide, ab_mem 569 (by decide +kernel) rfl, ab_memN 810 (by decide +kernel) rfl, Or.inl ⟨2, by decide, ab_dec okL_likely rfl, ab_dec okL_likely rfl, ab_dec okL_likely rfl⟩⟩
theorem a_likely {h : ab_H} {U : ST} {nx : Nat} {g : Nat → Int64} (hd : df_at h U) (hU : st_ok U) (hg : h 3189 = some (.inr (3, 1, .inr (.inl g)))) : lh_Con mL_likely hL_likely [.ref 3000, .ref 3189] nx h (lh_P nx h (sp_likely U)) := by
  refine lh_Con.of (by decide) rfl (Nat.le_of_ble_eq_true rfl) ?_
  obtain ⟨im, pn, pc, hob⟩ := hd.obj
  refine lh_aload_n (ab_dec okL_likely rfl) rfl ?_
  refine lh_iconst (ab_dec okL_likely rfl) ?_
  refine lh_aload_n (ab_dec okL_likely rfl) rfl ?_
  refine lh_callV (As := []) (c_likely hd hU) (ab_dec okL_likely rfl) lL_88 hob rfl (ab_fit_of rfl) rfl rfl ?_
  intro r nx1 h1 hq
  exact lh_fin1 hq (k_likely hU) hg xL_likely_1 (fun _ _ _ w => w) (fun h0 h1 hd1 hr1 => lh_tl (ab_dec okL_likely rfl) (ab_dec okL_likely rfl) (ab_dec okL_likely rfl) rfl (ab_dec okL_likely rfl) (ab_dec okL_likely rfl) rfl (Nat.le_of_ble_eq_true rfl) (Nat.le_of_ble_eq_true rfl) hg (fun _ _ _ w => w) h0 hd1 hr1)
def iL_ask : List ab_E := [(0, .aload_n 1, 1, 0, 0), (1, .iconst 0, 1, 0, 0), (2, .aload_n 0, 1, 0, 0), (3, .invokevirtual 91, 3, 0, 0), (6, .i2l, 1, 0, 0), (7, .lastore, 1, 0, 0), (8, .goto 6, 3, 0, 14), (11, .astore_n 2, 1, 0, 0), (12, .iconst 1, 1, 0, 0), (13, .ireturn, 1, 0, 0), (14, .iconst 0, 1, 0, 0), (15, .ireturn, 1, 0, 0)]
abbrev mL_ask : ab_M := (yL_ask, cL_ask, 3, some .int, 8, 1, 6)
theorem okL_ask : ab_cd mL_ask 0 iL_ask := ab_cd_of (F := []) (P := []) (fun _ h => absurd h List.not_mem_nil) (fun _ h => absurd h List.not_mem_nil) _ _ (by decide +kernel)
def hL_ask : lh_H := [(0, 8, 11, 13)]
theorem sL_ask : lh_ls RL 227 mL_ask hL_ask 2 := ⟨⟨ab_mem 1242 (by decide +kernel) rfl, ab_mem 1243 (by decide +kernel) rfl, ab_mem 0 (by decide +kernel) rfl, ab_mem 1244 (by decide +kernel) rfl⟩, by decide +kernel, by decide +kernel, by decide +kernel⟩
theorem xL_ask_1 : lh_X mL_ask hL_ask 3 xIA 1 := ⟨[], ⟨0, 8, 11, 13⟩, [], rfl, fun z hz => absurd hz List.not_mem_nil, by decide, by decide, ab_mem 569 (by decide +kernel) rfl, ab_memN 810 (by decide +kernel) rfl, Or.inl ⟨2, by decide, ab_dec okL_ask rfl, ab_dec okL_ask rfl, ab_dec okL_ask rfl⟩⟩
theorem a_ask {h : ab_H} {U : ST} {nx : Nat} {g : Nat → Int64} (hd : df_at h U) (hU : st_ok U) (hg : h 3189 = some (.inr (3, 1, .inr (.inl g)))) : lh_Con mL_ask hL_ask [.ref 3000, .ref 3189] nx h (lh_P nx h (sp_ask U)) := by
  refine lh_Con.of (by decide) rfl (Nat.le_of_ble_eq_true rfl) ?_
  obtain ⟨im, pn, pc, hob⟩ := hd.obj
  refine lh_aload_n (ab_dec okL_ask rfl) rfl ?_
  refine lh_iconst (ab_dec okL_ask rfl) ?_
  refine lh_aload_n (ab_dec okL_ask rfl) rfl ?_
  refine lh_callV (As := []) (c_ask hd hU) (ab_dec okL_ask rfl) lL_91 hob rfl (ab_fit_of rfl) rfl rfl ?_
  intro r nx1 h1 hq
  exact lh_fin1 hq (k_ask hU) hg xL_ask_1 (fun _ _ _ w => w) (fun h0 h1 hd1 hr1 => lh_tl (ab_dec okL_ask rfl) (ab_dec okL_ask rfl) (ab_dec okL_ask rfl) rfl (ab_dec okL_ask rfl) (ab_dec okL_ask rfl) rfl (Nat.le_of_ble_eq_true rfl) (Nat.le_of_ble_eq_true rfl) hg (fun _ _ _ w => w) h0 hd1 hr1)
def iL_rumour : List ab_E := [(0, .aload_n 2, 1, 0, 0), (1, .iconst 0, 1, 0, 0), (2, .aload_n 0, 1, 0, 0), (3, .iload_n 1, 1, 0, 0), (4, .invokevirtual 94, 3, 0, 0), (7, .i2l, 1, 0, 0), (8, .lastore, 1, 0, 0), (9, .goto 6, 3, 0, 15), (12, .astore_n 3, 1, 0, 0), (13, .iconst 1, 1, 0, 0), (14, .ireturn, 1, 0, 0), (15, .iconst 0, 1, 0, 0), (16, .ireturn, 1, 0, 0)]
abbrev mL_rumour : ab_M := (yL_rumour, cL_rumour, 4, some .int, 8, 1, 6)
theorem okL_rumour : ab_cd mL_rumour 0 iL_rumour := ab_cd_of (F := []) (P := []) (fun _ h => absurd h List.not_mem_nil) (fun _ h => absurd h List.not_mem_nil) _ _ (by decide +kernel)
def hL_rumour : lh_H := [(0, 9, 12, 13)]
theorem sL_rumour : lh_ls RL 230 mL_rumour hL_rumour 3 := ⟨⟨ab_mem 1254 (by decide +kernel) rfl, ab_mem 1255 (by decide +kernel) rfl, ab_mem 0 (by decide +kernel) rfl, ab_mem 1256 (by decide +kernel) rfl⟩, by decide +kernel, by decide +kernel, by decide +kernel⟩
theorem xL_rumour_1 : lh_X mL_rumour hL_rumour 4 xIA 1 := ⟨[], ⟨0, 9, 12, 13⟩, [], rfl, fun z hz => absurd hz List.not_mem_nil, by decide, by decide, ab_mem 569 (by decide +kernel) rfl, ab_memN 810 (by decide +kernel) rfl, Or.inl ⟨3, by decide, ab_dec okL_rumour rfl, ab_dec okL_rumour rfl, ab_dec okL_rumour rfl⟩⟩
theorem a_rumour {h : ab_H} {U : ST} {nx : Nat} {g : Nat → Int64} {f : Bool} (hd : df_at h U) (hU : st_ok U) (hg : h 3189 = some (.inr (3, 1, .inr (.inl g)))) : lh_Con mL_rumour hL_rumour [.ref 3000, .int (nI f.toNat), .ref 3189] nx h (lh_P nx h (sp_rumour U f)) := by
  refine lh_Con.of (by decide) rfl (Nat.le_of_ble_eq_true rfl) ?_
  obtain ⟨im, pn, pc, hob⟩ := hd.obj
  refine lh_aload_n (ab_dec okL_rumour rfl) rfl ?_
  refine lh_iconst (ab_dec okL_rumour rfl) ?_
  refine lh_aload_n (ab_dec okL_rumour rfl) rfl ?_
  refine lh_iload_n (ab_dec okL_rumour rfl) rfl ?_
  refine lh_callV (As := [.int (nI f.toNat)]) (c_rumour hd hU) (ab_dec okL_rumour rfl) lL_94 hob rfl (ab_fit_of rfl) rfl rfl ?_
  intro r nx1 h1 hq
  exact lh_fin1 hq (k_rumour hU) hg xL_rumour_1 (fun _ _ _ w => w) (fun h0 h1 hd1 hr1 => lh_tl (ab_dec okL_rumour rfl) (ab_dec okL_rumour rfl) (ab_dec okL_rumour rfl) rfl (ab_dec okL_rumour rfl) (ab_dec okL_rumour rfl) rfl (Nat.le_of_ble_eq_true rfl) (Nat.le_of_ble_eq_true rfl) hg (fun _ _ _ w => w) h0 hd1 hr1)
def iL_next : List ab_E := [(0, .aload_n 1, 1, 0, 0), (1, .iconst 0, 1, 0, 0), (2, .aload_n 0, 1, 0, 0), (3, .invokevirtual 98, 3, 0, 0), (6, .i2l, 1, 0, 0), (7, .lastore, 1, 0, 0), (8, .goto 6, 3, 0, 14), (11, .astore_n 2, 1, 0, 0), (12, .iconst 1, 1, 0, 0), (13, .ireturn, 1, 0, 0), (14, .iconst 0, 1, 0, 0), (15, .ireturn, 1, 0, 0)]
abbrev mL_next : ab_M := (yL_next, cL_next, 3, some .int, 8, 1, 6)
theorem okL_next : ab_cd mL_next 0 iL_next := ab_cd_of (F := []) (P := []) (fun _ h => absurd h List.not_mem_nil) (fun _ h => absurd h List.not_mem_nil) _ _ (by decide +kernel)
def hL_next : lh_H := [(0, 8, 11, 13)]
theorem sL_next : lh_ls RL 234 mL_next hL_next 2 := ⟨⟨ab_mem 1283 (by decide +kernel) rfl, ab_mem 1284 (by decide +kernel) rfl, ab_mem 0 (by decide +kernel) rfl, ab_mem 1285 (by decide +kernel) rfl⟩, by decide +kernel, by decide +kernel, by decide +kernel⟩
theorem xL_next_1 : lh_X mL_next hL_next 3 xIA 1 := ⟨[], ⟨0, 8, 11, 13⟩, [], rfl, fun z hz => absurd hz List.not_mem_nil, by decide, by decide, ab_mem 569 (by decide +kernel) rfl, ab_memN 810 (by decide +kernel) rfl, Or.inl ⟨2, by decide, ab_dec okL_next rfl, ab_dec okL_next rfl, ab_dec okL_next rfl⟩⟩
theorem a_next {h : ab_H} {U : ST} {nx : Nat} {g : Nat → Int64} (hd : df_at h U) (hU : st_ok U) (hg : h 3189 = some (.inr (3, 1, .inr (.inl g)))) : lh_Con mL_next hL_next [.ref 3000, .ref 3189] nx h (lh_P nx h (sp_next U)) := by
  refine lh_Con.of (by decide) rfl (Nat.le_of_ble_eq_true rfl) ?_
  obtain ⟨im, pn, pc, hob⟩ := hd.obj
  refine lh_aload_n (ab_dec okL_next rfl) rfl ?_
  refine lh_iconst (ab_dec okL_next rfl) ?_
  refine lh_aload_n (ab_dec okL_next rfl) rfl ?_
  refine lh_callV (As := []) (c_next hd hU) (ab_dec okL_next rfl) lL_98 hob rfl (ab_fit_of rfl) rfl rfl ?_
  intro r nx1 h1 hq
  exact lh_fin1 hq (k_next hU) hg xL_next_1 (fun _ _ _ w => w) (fun h0 h1 hd1 hr1 => lh_tl (ab_dec okL_next rfl) (ab_dec okL_next rfl) (ab_dec okL_next rfl) rfl (ab_dec okL_next rfl) (ab_dec okL_next rfl) rfl (Nat.le_of_ble_eq_true rfl) (Nat.le_of_ble_eq_true rfl) hg (fun _ _ _ w => w) h0 hd1 hr1)
def iL_like : List ab_E := [(0, .aload_n 3, 1, 0, 0), (1, .iconst 0, 1, 0, 0), (2, .aload_n 0, 1, 0, 0), (3, .iload_n 1, 1, 0, 0), (4, .iload_n 2, 1, 0, 0), (5, .invokevirtual 101, 3, 0, 0), (8, .i2l, 1, 0, 0), (9, .lastore, 1, 0, 0), (10, .goto 11, 3, 0, 21), (13, .astore 4, 2, 0, 0), (15, .iconst 1, 1, 0, 0), (16, .ireturn, 1, 0, 0), (17, .astore 4, 2, 0, 0), (19, .iconst 2, 1, 0, 0), (20, .ireturn, 1, 0, 0), (21, .iconst 0, 1, 0, 0), (22, .ireturn, 1, 0, 0)]
abbrev mL_like : ab_M := (yL_like, cL_like, 5, some .int, 8, 3, 18)
theorem okL_like : ab_cd mL_like 0 iL_like := ab_cd_of (F := []) (P := []) (fun _ h => absurd h List.not_mem_nil) (fun _ h => absurd h List.not_mem_nil) _ _ (by decide +kernel)
def hL_like : lh_H := [(0, 10, 13, 24), (0, 10, 17, 13)]
theorem sL_like : lh_ls RL 237 mL_like hL_like 4 := ⟨⟨ab_mem 1299 (by decide +kernel) rfl, ab_mem 1300 (by decide +kernel) rfl, ab_mem 0 (by decide +kernel) rfl, ab_mem 1301 (by decide +kernel) rfl⟩, by decide +kernel, by decide +kernel, by decide +kernel⟩
theorem xL_like_1 : lh_X mL_like hL_like 5 xIO 1 := ⟨[], ⟨0, 10, 13, 24⟩, [⟨0, 10, 17, 13⟩], rfl, fun z hz => absurd hz List.not_mem_nil, by decide, by decide, ab_mem 912 (by decide +kernel) rfl, ab_memN 924 (by decide +kernel) rfl, Or.inr ⟨4, by decide, ab_dec okL_like rfl, ab_dec okL_like rfl, ab_dec okL_like rfl⟩⟩
theorem xL_like_2 : lh_X mL_like hL_like 5 xIA 2 := ⟨[⟨0, 10, 13, 24⟩], ⟨0, 10, 17, 13⟩, [], rfl, fun z hz => by rw [List.mem_singleton.mp hz]; exact ⟨by decide, by decide, xIO, ab_mem 912 (by decide +kernel) rfl, by decide +kernel⟩, by decide, by decide, ab_mem 569 (by decide +kernel) rfl, ab_memN 810 (by decide +kernel) rfl, Or.inr ⟨4, by decide, ab_dec okL_like rfl, ab_dec okL_like rfl, ab_dec okL_like rfl⟩⟩
theorem a_like {h : ab_H} {U : ST} {nx : Nat} {g : Nat → Int64} {a b : Int32} (hd : df_at h U) (hU : st_ok U) (hg : h 3189 = some (.inr (3, 1, .inr (.inl g)))) : lh_Con mL_like hL_like [.ref 3000, .int a, .int b, .ref 3189] nx h (lh_P nx h (sp_like U a b)) := by
  refine lh_Con.of (by decide) rfl (Nat.le_of_ble_eq_true rfl) ?_
  obtain ⟨im, pn, pc, hob⟩ := hd.obj
  refine lh_aload_n (ab_dec okL_like rfl) rfl ?_
  refine lh_iconst (ab_dec okL_like rfl) ?_
  refine lh_aload_n (ab_dec okL_like rfl) rfl ?_
  refine lh_iload_n (ab_dec okL_like rfl) rfl ?_
  refine lh_iload_n (ab_dec okL_like rfl) rfl ?_
  refine lh_callV (As := [.int a, .int b]) (c_like hd hU.1.1) (ab_dec okL_like rfl) lL_101 hob rfl (ab_fit_of rfl) rfl rfl ?_
  intro r nx1 h1 hq
  exact lh_fin2 hq (k_like hU) hg xL_like_1 xL_like_2 (fun _ _ _ w => w) (fun h0 h1 hd1 hr1 => lh_tl (ab_dec okL_like rfl) (ab_dec okL_like rfl) (ab_dec okL_like rfl) rfl (ab_dec okL_like rfl) (ab_dec okL_like rfl) rfl (Nat.le_of_ble_eq_true rfl) (Nat.le_of_ble_eq_true rfl) hg (fun _ _ _ w => w) h0 hd1 hr1)
def iL_beds : List ab_E := [(0, .aload_n 3, 1, 0, 0), (1, .iconst 0, 1, 0, 0), (2, .aload_n 0, 1, 0, 0), (3, .iload_n 1, 1, 0, 0), (4, .iload_n 2, 1, 0, 0), (5, .invokevirtual 104, 3, 0, 0), (8, .i2l, 1, 0, 0), (9, .lastore, 1, 0, 0), (10, .goto 11, 3, 0, 21), (13, .astore 4, 2, 0, 0), (15, .iconst 1, 1, 0, 0), (16, .ireturn, 1, 0, 0), (17, .astore 4, 2, 0, 0), (19, .iconst 2, 1, 0, 0), (20, .ireturn, 1, 0, 0), (21, .iconst 0, 1, 0, 0), (22, .ireturn, 1, 0, 0)]
abbrev mL_beds : ab_M := (yL_beds, cL_beds, 5, some .int, 8, 2, 12)
theorem okL_beds : ab_cd mL_beds 0 iL_beds := ab_cd_of (F := []) (P := []) (fun _ h => absurd h List.not_mem_nil) (fun _ h => absurd h List.not_mem_nil) _ _ (by decide +kernel)
def hL_beds : lh_H := [(0, 10, 13, 24), (0, 10, 17, 13)]
theorem sL_beds : lh_ls RL 252 mL_beds hL_beds 4 := ⟨⟨ab_mem 1307 (by decide +kernel) rfl, ab_mem 1308 (by decide +kernel) rfl, ab_mem 0 (by decide +kernel) rfl, ab_mem 1309 (by decide +kernel) rfl⟩, by decide +kernel, by decide +kernel, by decide +kernel⟩
theorem xL_beds_1 : lh_X mL_beds hL_beds 5 xIO 1 := ⟨[], ⟨0, 10, 13, 24⟩, [⟨0, 10, 17, 13⟩], rfl, fun z hz => absurd hz List.not_mem_nil, by decide, by decide, ab_mem 912 (by decide +kernel) rfl, ab_memN 924 (by decide +kernel) rfl, Or.inr ⟨4, by decide, ab_dec okL_beds rfl, ab_dec okL_beds rfl, ab_dec okL_beds rfl⟩⟩
theorem xL_beds_2 : lh_X mL_beds hL_beds 5 xIA 2 := ⟨[⟨0, 10, 13, 24⟩], ⟨0, 10, 17, 13⟩, [], rfl, fun z hz => by rw [List.mem_singleton.mp hz]; exact ⟨by decide, by decide, xIO, ab_mem 912 (by decide +kernel) rfl, by decide +kernel⟩, by decide, by decide, ab_mem 569 (by decide +kernel) rfl, ab_memN 810 (by decide +kernel) rfl, Or.inr ⟨4, by decide, ab_dec okL_beds rfl, ab_dec okL_beds rfl, ab_dec okL_beds rfl⟩⟩
theorem a_beds {h : ab_H} {U : ST} {nx : Nat} {g : Nat → Int64} {a b : Int32} (hd : df_at h U) (hU : st_ok U) (hg : h 3189 = some (.inr (3, 1, .inr (.inl g)))) : lh_Con mL_beds hL_beds [.ref 3000, .int a, .int b, .ref 3189] nx h (lh_P nx h (sp_beds U a b)) := by
  refine lh_Con.of (by decide) rfl (Nat.le_of_ble_eq_true rfl) ?_
  obtain ⟨im, pn, pc, hob⟩ := hd.obj
  refine lh_aload_n (ab_dec okL_beds rfl) rfl ?_
  refine lh_iconst (ab_dec okL_beds rfl) ?_
  refine lh_aload_n (ab_dec okL_beds rfl) rfl ?_
  refine lh_iload_n (ab_dec okL_beds rfl) rfl ?_
  refine lh_iload_n (ab_dec okL_beds rfl) rfl ?_
  refine lh_callV (As := [.int a, .int b]) (c_beds hd hU) (ab_dec okL_beds rfl) lL_104 hob rfl (ab_fit_of rfl) rfl rfl ?_
  intro r nx1 h1 hq
  exact lh_fin2 hq (k_beds hU) hg xL_beds_1 xL_beds_2 (fun _ _ _ w => w) (fun h0 h1 hd1 hr1 => lh_tl (ab_dec okL_beds rfl) (ab_dec okL_beds rfl) (ab_dec okL_beds rfl) rfl (ab_dec okL_beds rfl) (ab_dec okL_beds rfl) rfl (Nat.le_of_ble_eq_true rfl) (Nat.le_of_ble_eq_true rfl) hg (fun _ _ _ w => w) h0 hd1 hr1)
def iL_couples : List ab_E := [(0, .aload_n 2, 1, 0, 0), (1, .iconst 0, 1, 0, 0), (2, .aload_n 0, 1, 0, 0), (3, .iload_n 1, 1, 0, 0), (4, .invokevirtual 107, 3, 0, 0), (7, .i2l, 1, 0, 0), (8, .lastore, 1, 0, 0), (9, .goto 6, 3, 0, 15), (12, .astore_n 3, 1, 0, 0), (13, .iconst 1, 1, 0, 0), (14, .ireturn, 1, 0, 0), (15, .iconst 0, 1, 0, 0), (16, .ireturn, 1, 0, 0)]
abbrev mL_couples : ab_M := (yL_couples, cL_couples, 4, some .int, 14, 1, 6)
theorem okL_couples : ab_cd mL_couples 0 iL_couples := ab_cd_of (F := []) (P := []) (fun _ h => absurd h List.not_mem_nil) (fun _ h => absurd h List.not_mem_nil) _ _ (by decide +kernel)
def hL_couples : lh_H := [(0, 9, 12, 24)]
theorem sL_couples : lh_ls RL 255 mL_couples hL_couples 3 := ⟨⟨ab_mem 1324 (by decide +kernel) rfl, ab_mem 1325 (by decide +kernel) rfl, ab_mem 0 (by decide +kernel) rfl, ab_mem 1326 (by decide +kernel) rfl⟩, by decide +kernel, by decide +kernel, by decide +kernel⟩
theorem xL_couples_1 : lh_X mL_couples hL_couples 4 xIO 1 := ⟨[], ⟨0, 9, 12, 24⟩, [], rfl, fun z hz => absurd hz List.not_mem_nil, by decide, by decide, ab_mem 912 (by decide +kernel) rfl, ab_memN 924 (by decide +kernel) rfl, Or.inl ⟨3, by decide, ab_dec okL_couples rfl, ab_dec okL_couples rfl, ab_dec okL_couples rfl⟩⟩
theorem a_couples {h : ab_H} {U : ST} {nx : Nat} {g : Nat → Int64} {a : Int32} (hd : df_at h U) (hU : st_ok U) (hg : h 3189 = some (.inr (3, 1, .inr (.inl g)))) : lh_Con mL_couples hL_couples [.ref 3000, .int a, .ref 3189] nx h (lh_P nx h (sp_couples U a)) := by
  refine lh_Con.of (by decide) rfl (Nat.le_of_ble_eq_true rfl) ?_
  obtain ⟨im, pn, pc, hob⟩ := hd.obj
  refine lh_aload_n (ab_dec okL_couples rfl) rfl ?_
  refine lh_iconst (ab_dec okL_couples rfl) ?_
  refine lh_aload_n (ab_dec okL_couples rfl) rfl ?_
  refine lh_iload_n (ab_dec okL_couples rfl) rfl ?_
  refine lh_callV (As := [.int a]) (c_couples hd hU) (ab_dec okL_couples rfl) lL_107 hob rfl (ab_fit_of rfl) rfl rfl ?_
  intro r nx1 h1 hq
  exact lh_fin1 hq (k_couples hU) hg xL_couples_1 (fun _ _ _ w => w) (fun h0 h1 hd1 hr1 => lh_tl (ab_dec okL_couples rfl) (ab_dec okL_couples rfl) (ab_dec okL_couples rfl) rfl (ab_dec okL_couples rfl) (ab_dec okL_couples rfl) rfl (Nat.le_of_ble_eq_true rfl) (Nat.le_of_ble_eq_true rfl) hg (fun _ _ _ w => w) h0 hd1 hr1)
def iL_friends : List ab_E := [(0, .aload_n 3, 1, 0, 0), (1, .iconst 0, 1, 0, 0), (2, .aload_n 0, 1, 0, 0), (3, .iload_n 1, 1, 0, 0), (4, .iload_n 2, 1, 0, 0), (5, .invokevirtual 110, 3, 0, 0), (8, .i2l, 1, 0, 0), (9, .lastore, 1, 0, 0), (10, .goto 11, 3, 0, 21), (13, .astore 4, 2, 0, 0), (15, .iconst 1, 1, 0, 0), (16, .ireturn, 1, 0, 0), (17, .astore 4, 2, 0, 0), (19, .iconst 2, 1, 0, 0), (20, .ireturn, 1, 0, 0), (21, .iconst 0, 1, 0, 0), (22, .ireturn, 1, 0, 0)]
abbrev mL_friends : ab_M := (yL_friends, cL_friends, 5, some .int, 8, 3, 18)
theorem okL_friends : ab_cd mL_friends 0 iL_friends := ab_cd_of (F := []) (P := []) (fun _ h => absurd h List.not_mem_nil) (fun _ h => absurd h List.not_mem_nil) _ _ (by decide +kernel)
def hL_friends : lh_H := [(0, 10, 13, 24), (0, 10, 17, 13)]
theorem sL_friends : lh_ls RL 262 mL_friends hL_friends 4 := ⟨⟨ab_mem 1345 (by decide +kernel) rfl, ab_mem 1346 (by decide +kernel) rfl, ab_mem 0 (by decide +kernel) rfl, ab_mem 1347 (by decide +kernel) rfl⟩, by decide +kernel, by decide +kernel, by decide +kernel⟩
theorem xL_friends_1 : lh_X mL_friends hL_friends 5 xIO 1 := ⟨[], ⟨0, 10, 13, 24⟩, [⟨0, 10, 17, 13⟩], rfl, fun z hz => absurd hz List.not_mem_nil, by decide, by decide, ab_mem 912 (by decide +kernel) rfl, ab_memN 924 (by decide +kernel) rfl, Or.inr ⟨4, by decide, ab_dec okL_friends rfl, ab_dec okL_friends rfl, ab_dec okL_friends rfl⟩⟩
theorem xL_friends_2 : lh_X mL_friends hL_friends 5 xIA 2 := ⟨[⟨0, 10, 13, 24⟩], ⟨0, 10, 17, 13⟩, [], rfl, fun z hz => by rw [List.mem_singleton.mp hz]; exact ⟨by decide, by decide, xIO, ab_mem 912 (by decide +kernel) rfl, by decide +kernel⟩, by decide, by decide, ab_mem 569 (by decide +kernel) rfl, ab_memN 810 (by decide +kernel) rfl, Or.inr ⟨4, by decide, ab_dec okL_friends rfl, ab_dec okL_friends rfl, ab_dec okL_friends rfl⟩⟩
theorem a_friends {h : ab_H} {U : ST} {nx : Nat} {g : Nat → Int64} {a b : Int32} (hd : df_at h U) (hU : st_ok U) (hg : h 3189 = some (.inr (3, 1, .inr (.inl g)))) : lh_Con mL_friends hL_friends [.ref 3000, .int a, .int b, .ref 3189] nx h (lh_P nx h (sp_friends U a b)) := by
  refine lh_Con.of (by decide) rfl (Nat.le_of_ble_eq_true rfl) ?_
  obtain ⟨im, pn, pc, hob⟩ := hd.obj
  refine lh_aload_n (ab_dec okL_friends rfl) rfl ?_
  refine lh_iconst (ab_dec okL_friends rfl) ?_
  refine lh_aload_n (ab_dec okL_friends rfl) rfl ?_
  refine lh_iload_n (ab_dec okL_friends rfl) rfl ?_
  refine lh_iload_n (ab_dec okL_friends rfl) rfl ?_
  refine lh_callV (As := [.int a, .int b]) (c_friends hd hU.1.1) (ab_dec okL_friends rfl) lL_110 hob rfl (ab_fit_of rfl) rfl rfl ?_
  intro r nx1 h1 hq
  exact lh_fin2 hq (k_friends hU) hg xL_friends_1 xL_friends_2 (fun _ _ _ w => w) (fun h0 h1 hd1 hr1 => lh_tl (ab_dec okL_friends rfl) (ab_dec okL_friends rfl) (ab_dec okL_friends rfl) rfl (ab_dec okL_friends rfl) (ab_dec okL_friends rfl) rfl (Nat.le_of_ble_eq_true rfl) (Nat.le_of_ble_eq_true rfl) hg (fun _ _ _ w => w) h0 hd1 hr1)
def iL_rests : List ab_E := [(0, .aload_n 3, 1, 0, 0), (1, .iconst 0, 1, 0, 0), (2, .aload_n 0, 1, 0, 0), (3, .iload_n 1, 1, 0, 0), (4, .iload_n 2, 1, 0, 0), (5, .invokevirtual 113, 3, 0, 0), (8, .i2l, 1, 0, 0), (9, .lastore, 1, 0, 0), (10, .goto 7, 3, 0, 17), (13, .astore 4, 2, 0, 0), (15, .iconst 1, 1, 0, 0), (16, .ireturn, 1, 0, 0), (17, .iconst 0, 1, 0, 0), (18, .ireturn, 1, 0, 0)]
abbrev mL_rests : ab_M := (yL_rests, cL_rests, 5, some .int, 8, 2, 12)
theorem okL_rests : ab_cd mL_rests 0 iL_rests := ab_cd_of (F := []) (P := []) (fun _ h => absurd h List.not_mem_nil) (fun _ h => absurd h List.not_mem_nil) _ _ (by decide +kernel)
def hL_rests : lh_H := [(0, 10, 13, 24)]
theorem sL_rests : lh_ls RL 265 mL_rests hL_rests 4 := ⟨⟨ab_mem 1353 (by decide +kernel) rfl, ab_mem 1354 (by decide +kernel) rfl, ab_mem 0 (by decide +kernel) rfl, ab_mem 1355 (by decide +kernel) rfl⟩, by decide +kernel, by decide +kernel, by decide +kernel⟩
theorem xL_rests_1 : lh_X mL_rests hL_rests 5 xIO 1 := ⟨[], ⟨0, 10, 13, 24⟩, [], rfl, fun z hz => absurd hz List.not_mem_nil, by decide, by decide, ab_mem 912 (by decide +kernel) rfl, ab_memN 924 (by decide +kernel) rfl, Or.inr ⟨4, by decide, ab_dec okL_rests rfl, ab_dec okL_rests rfl, ab_dec okL_rests rfl⟩⟩
theorem a_rests {h : ab_H} {U : ST} {nx : Nat} {g : Nat → Int64} {a b : Int32} (hd : df_at h U) (hU : st_ok U) (hg : h 3189 = some (.inr (3, 1, .inr (.inl g)))) : lh_Con mL_rests hL_rests [.ref 3000, .int a, .int b, .ref 3189] nx h (lh_P nx h (sp_rests U a b)) := by
  refine lh_Con.of (by decide) rfl (Nat.le_of_ble_eq_true rfl) ?_
  obtain ⟨im, pn, pc, hob⟩ := hd.obj
  refine lh_aload_n (ab_dec okL_rests rfl) rfl ?_
  refine lh_iconst (ab_dec okL_rests rfl) ?_
  refine lh_aload_n (ab_dec okL_rests rfl) rfl ?_
  refine lh_iload_n (ab_dec okL_rests rfl) rfl ?_
  refine lh_iload_n (ab_dec okL_rests rfl) rfl ?_
  refine lh_callV (As := [.int a, .int b]) (c_rests hd hU) (ab_dec okL_rests rfl) lL_113 hob rfl (ab_fit_of rfl) rfl rfl ?_
  intro r nx1 h1 hq
  exact lh_fin1 hq (k_rests hU) hg xL_rests_1 (fun _ _ _ w => w) (fun h0 h1 hd1 hr1 => lh_tl (ab_dec okL_rests rfl) (ab_dec okL_rests rfl) (ab_dec okL_rests rfl) rfl (ab_dec okL_rests rfl) (ab_dec okL_rests rfl) rfl (Nat.le_of_ble_eq_true rfl) (Nat.le_of_ble_eq_true rfl) hg (fun _ _ _ w => w) h0 hd1 hr1)
def iL_mark : List ab_E := [(0, .aload_n 2, 1, 0, 0), (1, .iconst 0, 1, 0, 0), (2, .aload_n 0, 1, 0, 0), (3, .iload_n 1, 1, 0, 0), (4, .invokevirtual 116, 3, 0, 0), (7, .i2l, 1, 0, 0), (8, .lastore, 1, 0, 0), (9, .goto 6, 3, 0, 15), (12, .astore_n 3, 1, 0, 0), (13, .iconst 1, 1, 0, 0), (14, .ireturn, 1, 0, 0), (15, .iconst 0, 1, 0, 0), (16, .ireturn, 1, 0, 0)]
abbrev mL_mark : ab_M := (yL_mark, cL_mark, 4, some .int, 8, 1, 6)
theorem okL_mark : ab_cd mL_mark 0 iL_mark := ab_cd_of (F := []) (P := []) (fun _ h => absurd h List.not_mem_nil) (fun _ h => absurd h List.not_mem_nil) _ _ (by decide +kernel)
def hL_mark : lh_H := [(0, 9, 12, 24)]
theorem sL_mark : lh_ls RL 284 mL_mark hL_mark 3 := ⟨⟨ab_mem 1366 (by decide +kernel) rfl, ab_mem 1367 (by decide +kernel) rfl, ab_mem 0 (by decide +kernel) rfl, ab_mem 1368 (by decide +kernel) rfl⟩, by decide +kernel, by decide +kernel, by decide +kernel⟩
theorem xL_mark_1 : lh_X mL_mark hL_mark 4 xIO 1 := ⟨[], ⟨0, 9, 12, 24⟩, [], rfl, fun z hz => absurd hz List.not_mem_nil, by decide, by decide, ab_mem 912 (by decide +kernel) rfl, ab_memN 924 (by decide +kernel) rfl, Or.inl ⟨3, by decide, ab_dec okL_mark rfl, ab_dec okL_mark rfl, ab_dec okL_mark rfl⟩⟩
theorem a_mark {h : ab_H} {U : ST} {nx : Nat} {g : Nat → Int64} {a : Int32} (hd : df_at h U) (hU : st_ok U) (hg : h 3189 = some (.inr (3, 1, .inr (.inl g)))) : lh_Con mL_mark hL_mark [.ref 3000, .int a, .ref 3189] nx h (lh_P nx h (sp_mark U a)) := by
  refine lh_Con.of (by decide) rfl (Nat.le_of_ble_eq_true rfl) ?_
  obtain ⟨im, pn, pc, hob⟩ := hd.obj
  refine lh_aload_n (ab_dec okL_mark rfl) rfl ?_
  refine lh_iconst (ab_dec okL_mark rfl) ?_
  refine lh_aload_n (ab_dec okL_mark rfl) rfl ?_
  refine lh_iload_n (ab_dec okL_mark rfl) rfl ?_
  refine lh_callV (As := [.int a]) (c_mark hd hU.1.1) (ab_dec okL_mark rfl) lL_116 hob rfl (ab_fit_of rfl) rfl rfl ?_
  intro r nx1 h1 hq
  exact lh_fin1 hq (k_mark hU) hg xL_mark_1 (fun _ _ _ w => w) (fun h0 h1 hd1 hr1 => lh_tl (ab_dec okL_mark rfl) (ab_dec okL_mark rfl) (ab_dec okL_mark rfl) rfl (ab_dec okL_mark rfl) (ab_dec okL_mark rfl) rfl (Nat.le_of_ble_eq_true rfl) (Nat.le_of_ble_eq_true rfl) hg (fun _ _ _ w => w) h0 hd1 hr1)
def iL_ahead : List ab_E := [(0, .aload 4, 2, 0, 0), (2, .iconst 0, 1, 0, 0), (3, .aload_n 0, 1, 0, 0), (4, .iload_n 1, 1, 0, 0), (5, .iload_n 2, 1, 0, 0), (6, .iload_n 3, 1, 0, 0), (7, .invokevirtual 119, 3, 0, 0), (10, .i2l, 1, 0, 0), (11, .lastore, 1, 0, 0), (12, .goto 11, 3, 0, 23), (15, .astore 5, 2, 0, 0), (17, .iconst 1, 1, 0, 0), (18, .ireturn, 1, 0, 0), (19, .astore 5, 2, 0, 0), (21, .iconst 2, 1, 0, 0), (22, .ireturn, 1, 0, 0), (23, .iconst 0, 1, 0, 0), (24, .ireturn, 1, 0, 0)]
abbrev mL_ahead : ab_M := (yL_ahead, cL_ahead, 6, some .int, 8, 3, 18)
theorem okL_ahead : ab_cd mL_ahead 0 iL_ahead := ab_cd_of (F := []) (P := []) (fun _ h => absurd h List.not_mem_nil) (fun _ h => absurd h List.not_mem_nil) _ _ (by decide +kernel)
def hL_ahead : lh_H := [(0, 12, 15, 24), (0, 12, 19, 13)]
theorem sL_ahead : lh_ls RL 291 mL_ahead hL_ahead 5 := ⟨⟨ab_mem 1373 (by decide +kernel) rfl, ab_mem 1374 (by decide +kernel) rfl, ab_mem 0 (by decide +kernel) rfl, ab_mem 1375 (by decide +kernel) rfl⟩, by decide +kernel, by decide +kernel, by decide +kernel⟩
theorem xL_ahead_1 : lh_X mL_ahead hL_ahead 7 xIO 1 := ⟨[], ⟨0, 12, 15, 24⟩, [⟨0, 12, 19, 13⟩], rfl, fun z hz => absurd hz List.not_mem_nil, by decide, by decide, ab_mem 912 (by decide +kernel) rfl, ab_memN 924 (by decide +kernel) rfl, Or.inr ⟨5, by decide, ab_dec okL_ahead rfl, ab_dec okL_ahead rfl, ab_dec okL_ahead rfl⟩⟩
theorem xL_ahead_2 : lh_X mL_ahead hL_ahead 7 xIA 2 := ⟨[⟨0, 12, 15, 24⟩], ⟨0, 12, 19, 13⟩, [], rfl, fun z hz => by rw [List.mem_singleton.mp hz]; exact ⟨by decide, by decide, xIO, ab_mem 912 (by decide +kernel) rfl, by decide +kernel⟩, by decide, by decide, ab_mem 569 (by decide +kernel) rfl, ab_memN 810 (by decide +kernel) rfl, Or.inr ⟨5, by decide, ab_dec okL_ahead rfl, ab_dec okL_ahead rfl, ab_dec okL_ahead rfl⟩⟩
theorem a_ahead {h : ab_H} {U : ST} {nx : Nat} {g : Nat → Int64} {a b c : Int32} (hd : df_at h U) (hU : st_ok U) (hg : h 3189 = some (.inr (3, 1, .inr (.inl g)))) : lh_Con mL_ahead hL_ahead [.ref 3000, .int a, .int b, .int c, .ref 3189] nx h (lh_P nx h (sp_ahead U a b c)) := by
  refine lh_Con.of (by decide) rfl (Nat.le_of_ble_eq_true rfl) ?_
  obtain ⟨im, pn, pc, hob⟩ := hd.obj
  refine lh_aload (ab_dec okL_ahead rfl) rfl ?_
  refine lh_iconst (ab_dec okL_ahead rfl) ?_
  refine lh_aload_n (ab_dec okL_ahead rfl) rfl ?_
  refine lh_iload_n (ab_dec okL_ahead rfl) rfl ?_
  refine lh_iload_n (ab_dec okL_ahead rfl) rfl ?_
  refine lh_iload_n (ab_dec okL_ahead rfl) rfl ?_
  refine lh_callV (As := [.int a, .int b, .int c]) (c_ahead hd hU) (ab_dec okL_ahead rfl) lL_119 hob rfl (ab_fit_of rfl) rfl rfl ?_
  intro r nx1 h1 hq
  exact lh_fin2 hq (k_ahead hU) hg xL_ahead_1 xL_ahead_2 (fun _ _ _ w => w) (fun h0 h1 hd1 hr1 => lh_tl (ab_dec okL_ahead rfl) (ab_dec okL_ahead rfl) (ab_dec okL_ahead rfl) rfl (ab_dec okL_ahead rfl) (ab_dec okL_ahead rfl) rfl (Nat.le_of_ble_eq_true rfl) (Nat.le_of_ble_eq_true rfl) hg (fun _ _ _ w => w) h0 hd1 hr1)
def iL_trial : List ab_E := [(0, .aload_n 3, 1, 0, 0), (1, .iconst 0, 1, 0, 0), (2, .aload_n 0, 1, 0, 0), (3, .iload_n 1, 1, 0, 0), (4, .iload_n 2, 1, 0, 0), (5, .invokevirtual 122, 3, 0, 0), (8, .i2l, 1, 0, 0), (9, .lastore, 1, 0, 0), (10, .goto 7, 3, 0, 17), (13, .astore 4, 2, 0, 0), (15, .iconst 1, 1, 0, 0), (16, .ireturn, 1, 0, 0), (17, .iconst 0, 1, 0, 0), (18, .ireturn, 1, 0, 0)]
abbrev mL_trial : ab_M := (yL_trial, cL_trial, 5, some .int, 8, 1, 6)
theorem okL_trial : ab_cd mL_trial 0 iL_trial := ab_cd_of (F := []) (P := []) (fun _ h => absurd h List.not_mem_nil) (fun _ h => absurd h List.not_mem_nil) _ _ (by decide +kernel)
def hL_trial : lh_H := [(0, 10, 13, 13)]
theorem sL_trial : lh_ls RL 294 mL_trial hL_trial 4 := ⟨⟨ab_mem 1381 (by decide +kernel) rfl, ab_mem 1382 (by decide +kernel) rfl, ab_mem 0 (by decide +kernel) rfl, ab_mem 1383 (by decide +kernel) rfl⟩, by decide +kernel, by decide +kernel, by decide +kernel⟩
theorem xL_trial_1 : lh_X mL_trial hL_trial 5 xIA 1 := ⟨[], ⟨0, 10, 13, 13⟩, [], rfl, fun z hz => absurd hz List.not_mem_nil, by decide, by decide, ab_mem 569 (by decide +kernel) rfl, ab_memN 810 (by decide +kernel) rfl, Or.inr ⟨4, by decide, ab_dec okL_trial rfl, ab_dec okL_trial rfl, ab_dec okL_trial rfl⟩⟩
theorem a_trial {h : ab_H} {U : ST} {nx : Nat} {g : Nat → Int64} {a : Int32} {f : Bool} (hd : df_at h U) (hU : st_ok U) (hg : h 3189 = some (.inr (3, 1, .inr (.inl g)))) : lh_Con mL_trial hL_trial [.ref 3000, .int a, .int (nI f.toNat), .ref 3189] nx h (lh_P nx h (sp_trial U a f)) := by
  refine lh_Con.of (by decide) rfl (Nat.le_of_ble_eq_true rfl) ?_
  obtain ⟨im, pn, pc, hob⟩ := hd.obj
  refine lh_aload_n (ab_dec okL_trial rfl) rfl ?_
  refine lh_iconst (ab_dec okL_trial rfl) ?_
  refine lh_aload_n (ab_dec okL_trial rfl) rfl ?_
  refine lh_iload_n (ab_dec okL_trial rfl) rfl ?_
  refine lh_iload_n (ab_dec okL_trial rfl) rfl ?_
  refine lh_callV (As := [.int a, .int (nI f.toNat)]) (c_trial hd hU) (ab_dec okL_trial rfl) lL_122 hob rfl (ab_fit_of rfl) rfl rfl ?_
  intro r nx1 h1 hq
  exact lh_fin1 hq (k_trial hU) hg xL_trial_1 (fun _ _ _ w => w) (fun h0 h1 hd1 hr1 => lh_tl (ab_dec okL_trial rfl) (ab_dec okL_trial rfl) (ab_dec okL_trial rfl) rfl (ab_dec okL_trial rfl) (ab_dec okL_trial rfl) rfl (Nat.le_of_ble_eq_true rfl) (Nat.le_of_ble_eq_true rfl) hg (fun _ _ _ w => w) h0 hd1 hr1)
def iL_span : List ab_E := [(0, .aload_n 3, 1, 0, 0), (1, .iconst 0, 1, 0, 0), (2, .aload_n 0, 1, 0, 0), (3, .iload_n 1, 1, 0, 0), (4, .iload_n 2, 1, 0, 0), (5, .invokevirtual 126, 3, 0, 0), (8, .i2l, 1, 0, 0), (9, .lastore, 1, 0, 0), (10, .goto 7, 3, 0, 17), (13, .astore 4, 2, 0, 0), (15, .iconst 1, 1, 0, 0), (16, .ireturn, 1, 0, 0), (17, .iconst 0, 1, 0, 0), (18, .ireturn, 1, 0, 0)]
abbrev mL_span : ab_M := (yL_span, cL_span, 5, some .int, 8, 1, 6)
theorem okL_span : ab_cd mL_span 0 iL_span := ab_cd_of (F := []) (P := []) (fun _ h => absurd h List.not_mem_nil) (fun _ h => absurd h List.not_mem_nil) _ _ (by decide +kernel)
def hL_span : lh_H := [(0, 10, 13, 13)]
theorem sL_span : lh_ls RL 298 mL_span hL_span 4 := ⟨⟨ab_mem 1392 (by decide +kernel) rfl, ab_mem 1393 (by decide +kernel) rfl, ab_mem 0 (by decide +kernel) rfl, ab_mem 1394 (by decide +kernel) rfl⟩, by decide +kernel, by decide +kernel, by decide +kernel⟩
theorem xL_span_1 : lh_X mL_span hL_span 5 xIA 1 := ⟨[], ⟨0, 10, 13, 13⟩, [], rfl, fun z hz => absurd hz List.not_mem_nil, by decide, by decide, ab_mem 569 (by decide +kernel) rfl, ab_memN 810 (by decide +kernel) rfl, Or.inr ⟨4, by decide, ab_dec okL_span rfl, ab_dec okL_span rfl, ab_dec okL_span rfl⟩⟩
theorem a_span {h : ab_H} {U : ST} {nx : Nat} {g : Nat → Int64} {a : Int32} {f : Bool} (hd : df_at h U) (hU : st_ok U) (hg : h 3189 = some (.inr (3, 1, .inr (.inl g)))) : lh_Con mL_span hL_span [.ref 3000, .int a, .int (nI f.toNat), .ref 3189] nx h (lh_P nx h (sp_span U a f)) := by
  refine lh_Con.of (by decide) rfl (Nat.le_of_ble_eq_true rfl) ?_
  obtain ⟨im, pn, pc, hob⟩ := hd.obj
  refine lh_aload_n (ab_dec okL_span rfl) rfl ?_
  refine lh_iconst (ab_dec okL_span rfl) ?_
  refine lh_aload_n (ab_dec okL_span rfl) rfl ?_
  refine lh_iload_n (ab_dec okL_span rfl) rfl ?_
  refine lh_iload_n (ab_dec okL_span rfl) rfl ?_
  refine lh_callV (As := [.int a, .int (nI f.toNat)]) (c_span hd hU) (ab_dec okL_span rfl) lL_126 hob rfl (ab_fit_of rfl) rfl rfl ?_
  intro r nx1 h1 hq
  exact lh_fin1 hq (k_span hU) hg xL_span_1 (fun _ _ _ w => w) (fun h0 h1 hd1 hr1 => lh_tl (ab_dec okL_span rfl) (ab_dec okL_span rfl) (ab_dec okL_span rfl) rfl (ab_dec okL_span rfl) (ab_dec okL_span rfl) rfl (Nat.le_of_ble_eq_true rfl) (Nat.le_of_ble_eq_true rfl) hg (fun _ _ _ w => w) h0 hd1 hr1)
def iL_led : List ab_E := [(0, .aload_n 3, 1, 0, 0), (1, .iconst 0, 1, 0, 0), (2, .aload_n 0, 1, 0, 0), (3, .iload_n 1, 1, 0, 0), (4, .iload_n 2, 1, 0, 0), (5, .invokevirtual 129, 3, 0, 0), (8, .i2l, 1, 0, 0), (9, .lastore, 1, 0, 0), (10, .goto 7, 3, 0, 17), (13, .astore 4, 2, 0, 0), (15, .iconst 1, 1, 0, 0), (16, .ireturn, 1, 0, 0), (17, .iconst 0, 1, 0, 0), (18, .ireturn, 1, 0, 0)]
abbrev mL_led : ab_M := (yL_led, cL_led, 5, some .int, 8, 1, 6)
theorem okL_led : ab_cd mL_led 0 iL_led := ab_cd_of (F := []) (P := []) (fun _ h => absurd h List.not_mem_nil) (fun _ h => absurd h List.not_mem_nil) _ _ (by decide +kernel)
def hL_led : lh_H := [(0, 10, 13, 24)]
theorem sL_led : lh_ls RL 301 mL_led hL_led 4 := ⟨⟨ab_mem 1399 (by decide +kernel) rfl, ab_mem 1400 (by decide +kernel) rfl, ab_mem 0 (by decide +kernel) rfl, ab_mem 1401 (by decide +kernel) rfl⟩, by decide +kernel, by decide +kernel, by decide +kernel⟩
theorem xL_led_1 : lh_X mL_led hL_led 5 xIO 1 := ⟨[], ⟨0, 10, 13, 24⟩, [], rfl, fun z hz => absurd hz List.not_mem_nil, by decide, by decide, ab_mem 912 (by decide +kernel) rfl, ab_memN 924 (by decide +kernel) rfl, Or.inr ⟨4, by decide, ab_dec okL_led rfl, ab_dec okL_led rfl, ab_dec okL_led rfl⟩⟩
theorem a_led {h : ab_H} {U : ST} {nx : Nat} {g : Nat → Int64} {a : Int32} {f : Bool} (hd : df_at h U) (hU : st_ok U) (hg : h 3189 = some (.inr (3, 1, .inr (.inl g)))) : lh_Con mL_led hL_led [.ref 3000, .int a, .int (nI f.toNat), .ref 3189] nx h (lh_P nx h (sp_led U a f)) := by
  refine lh_Con.of (by decide) rfl (Nat.le_of_ble_eq_true rfl) ?_
  obtain ⟨im, pn, pc, hob⟩ := hd.obj
  refine lh_aload_n (ab_dec okL_led rfl) rfl ?_
  refine lh_iconst (ab_dec okL_led rfl) ?_
  refine lh_aload_n (ab_dec okL_led rfl) rfl ?_
  refine lh_iload_n (ab_dec okL_led rfl) rfl ?_
  refine lh_iload_n (ab_dec okL_led rfl) rfl ?_
  refine lh_callV (As := [.int a, .int (nI f.toNat)]) (c_led hd hU) (ab_dec okL_led rfl) lL_129 hob rfl (ab_fit_of rfl) rfl rfl ?_
  intro r nx1 h1 hq
  exact lh_fin1 hq (k_led hU) hg xL_led_1 (fun _ _ _ w => w) (fun h0 h1 hd1 hr1 => lh_tl (ab_dec okL_led rfl) (ab_dec okL_led rfl) (ab_dec okL_led rfl) rfl (ab_dec okL_led rfl) (ab_dec okL_led rfl) rfl (Nat.le_of_ble_eq_true rfl) (Nat.le_of_ble_eq_true rfl) hg (fun _ _ _ w => w) h0 hd1 hr1)
def iL_log : List ab_E := [(0, .aload_n 3, 1, 0, 0), (1, .iconst 0, 1, 0, 0), (2, .aload_n 0, 1, 0, 0), (3, .iload_n 1, 1, 0, 0), (4, .iload_n 2, 1, 0, 0), (5, .invokevirtual 132, 3, 0, 0), (8, .i2l, 1, 0, 0), (9, .lastore, 1, 0, 0), (10, .goto 7, 3, 0, 17), (13, .astore 4, 2, 0, 0), (15, .iconst 1, 1, 0, 0), (16, .ireturn, 1, 0, 0), (17, .iconst 0, 1, 0, 0), (18, .ireturn, 1, 0, 0)]
abbrev mL_log : ab_M := (yL_log, cL_log, 5, some .int, 7, 1, 6)
theorem okL_log : ab_cd mL_log 0 iL_log := ab_cd_of (F := []) (P := []) (fun _ h => absurd h List.not_mem_nil) (fun _ h => absurd h List.not_mem_nil) _ _ (by decide +kernel)
def hL_log : lh_H := [(0, 10, 13, 26)]
theorem sL_log : lh_ls RL 304 mL_log hL_log 4 := ⟨⟨ab_mem 1410 (by decide +kernel) rfl, ab_mem 1411 (by decide +kernel) rfl, ab_mem 0 (by decide +kernel) rfl, ab_mem 1412 (by decide +kernel) rfl⟩, by decide +kernel, by decide +kernel, by decide +kernel⟩
theorem xL_log_1 : lh_X mL_log hL_log 5 xNS 1 := ⟨[], ⟨0, 10, 13, 26⟩, [], rfl, fun z hz => absurd hz List.not_mem_nil, by decide, by decide, ab_mem 913 (by decide +kernel) rfl, ab_memN 970 (by decide +kernel) rfl, Or.inr ⟨4, by decide, ab_dec okL_log rfl, ab_dec okL_log rfl, ab_dec okL_log rfl⟩⟩
theorem a_log {h : ab_H} {U : ST} {nx : Nat} {g : Nat → Int64} {a b : Int32} (hd : df_at h U) (hU : st_ok U) (hg : h 3189 = some (.inr (3, 1, .inr (.inl g)))) : lh_Con mL_log hL_log [.ref 3000, .int a, .int b, .ref 3189] nx h (lh_P nx h (sp_log U a b)) := by
  refine lh_Con.of (by decide) rfl (Nat.le_of_ble_eq_true rfl) ?_
  obtain ⟨im, pn, pc, hob⟩ := hd.obj
  refine lh_aload_n (ab_dec okL_log rfl) rfl ?_
  refine lh_iconst (ab_dec okL_log rfl) ?_
  refine lh_aload_n (ab_dec okL_log rfl) rfl ?_
  refine lh_iload_n (ab_dec okL_log rfl) rfl ?_
  refine lh_iload_n (ab_dec okL_log rfl) rfl ?_
  refine lh_callV (As := [.int a, .int b]) (c_log hd hU) (ab_dec okL_log rfl) lL_132 hob rfl (ab_fit_of rfl) rfl rfl ?_
  intro r nx1 h1 hq
  exact lh_fin1 hq (k_log hU) hg xL_log_1 (fun _ _ _ w => w) (fun h0 h1 hd1 hr1 => lh_tl (ab_dec okL_log rfl) (ab_dec okL_log rfl) (ab_dec okL_log rfl) rfl (ab_dec okL_log rfl) (ab_dec okL_log rfl) rfl (Nat.le_of_ble_eq_true rfl) (Nat.le_of_ble_eq_true rfl) hg (fun _ _ _ w => w) h0 hd1 hr1)
