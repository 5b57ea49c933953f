/-! ===== the law, from its start to its end ===== -/
def iL_law0 : List ab_E := [(0, .new 8, 3, 0, 0), (3, .dup, 1, 0, 0), (4, .invokespecial 135, 3, 0, 0), (7, .astore_n 1, 1, 0, 0), (8, .new 136, 3, 0, 0), (11, .dup, 1, 0, 0), (12, .invokespecial 138, 3, 0, 0), (15, .astore_n 2, 1, 0, 0), (16, .iconst 1, 1, 0, 0), (17, .newarray .long, 2, 0, 0), (19, .astore_n 3, 1, 0, 0), (20, .iconst 0, 1, 0, 0), (21, .istore 4, 2, 0, 0), (23, .iload 4, 2, 0, 0)]
theorem okL_law0 : ab_cd mL_law_ 0 iL_law0 := ab_cd_of (F := []) (P := []) (fun _ h => absurd h List.not_mem_nil) (fun _ h => absurd h List.not_mem_nil) _ _ (by decide +kernel)
theorem and63 (x : Int32) : ∃ j, j < 64 ∧ x &&& nI 63 = nI j := by
  refine ⟨(x.toBitVec &&& 63#32).toNat, ?_, ?_⟩
  · rw [BitVec.toNat_and]
    exact Nat.lt_of_le_of_lt Nat.and_le_right (by decide)
  · apply Int32.toBitVec_inj.mp
    show x.toBitVec &&& 63#32 = BitVec.ofNat 32 _
    rw [BitVec.ofNat_toNat]
    simp
theorem la_gt {n i : Nat} (hn : n ≤ 3072) (hi : i ≤ 4000) : (nI n - nI 6 < nI i) ↔ n < i + 6 := by
  have e1 := nI_toInt (n := n) (by omega)
  have e2 := nI_toInt (n := 6) (by omega)
  have e3 := nI_toInt (n := i) (by omega)
  rw [fa_lt, Int32.toInt_sub, e1, e2, e3, Int.bmod_eq_of_le (by omega) (by omega)]
  omega
section LP
variable {n : Nat} {xs : Nat → Int32}
theorem la_head {i cu su nx : Nat} {U : ST} {h : ab_H} {x5 x6 : Option Value} (hn : n ≤ 3072) (hI : la_I U n xs h) (hi : i ≤ n + 6) (hc : cu ≤ 601024) (hsu : su ≤ 7293034) (k : i + 6 ≤ n → ab_V mL_law_ la_P cu su 33 (la_L i x5 x6) [] nx h) : ab_V mL_law_ la_P cu su 23 (la_L i x5 x6) [] nx h := by
  have hs := hI.2.2.2.1
  refine bv_iload (i := 4) (by decide +kernel) rfl (bv_aload_n (i := 0) (by decide +kernel) rfl (bv_lenD (by decide +kernel) hs (bv_bipush (n := 6) (by decide +kernel) (bv_isub (by decide +kernel) (bv_icmp_gt (off := 2869) (tgt := 2899) (by decide +kernel) rfl ⟨fun q => ?_, fun q => ?_⟩)))))
  · exact bv_iconst (n := 1) (by decide +kernel) (bv_zret (by decide +kernel) rfl (Or.inr rfl) hc hsu rfl)
  · refine k ?_
    have q : ¬ (nI n - nI 6 < nI i) := q
    rw [la_gt hn (by omega)] at q
    omega
theorem la_body {i cu su nx : Nat} {U : ST} {h : ab_H} {x5 x6 : Option Value} (hn : n ≤ 3072) (hI : la_I U n xs h) (hi : i + 6 ≤ n) (hc : cu + 10 ≤ 601024) (hsu : su + 60 ≤ 7293034) (E : la_E i cu su n xs) : ab_V mL_law_ la_P cu su 33 (la_L i x5 x6) [] nx h := by
  have hs := hI.2.2.2.1
  refine bv_aload_n (i := 0) (by decide +kernel) rfl (bv_iload (i := 4) (by decide +kernel) rfl (bv_ldD (by decide +kernel) hs (by omega) (by omega) (bv_bipush (n := 63) (by decide +kernel) (bv_iand (by decide +kernel) ?_))))
  obtain ⟨j, hj, e⟩ := and63 (xs i)
  rw [show (Int8.ofInt 63).toInt32 = nI 63 from rfl, e]
  exact la_sw hj hI hi hn hc hsu E
theorem la_loop (hn : n ≤ 3072) : ∀ (m i cu su : Nat) (U : ST) (nx : Nat) (h : ab_H) (x5 x6 : Option Value), la_I U n xs h → n < i + 6 * m + 6 → i ≤ n + 6 → cu + 10 * m ≤ 601024 → su + 60 * m ≤ 7293034 → ab_V mL_law_ la_P cu su 23 (la_L i x5 x6) [] nx h := by
  intro m
  induction m with
  | zero =>
    intro i cu su U nx h x5 x6 hI h1 h2 h3 h4
    exact la_head hn hI h2 (by omega) (by omega) (fun q => absurd q (by omega))
  | succ m ih =>
    intro i cu su U nx h x5 x6 hI h1 h2 h3 h4
    refine la_head hn hI h2 (by omega) (by omega) (fun q => la_body hn hI q (by omega) (by omega) ?_)
    intro U nx h x5 x6 cu' su' hI h5 h6
    have e6 : (la_L i x5 x6).set 4 (some (.int (nI i + Int32.ofInt 6))) = la_L (i + 6) x5 x6 := by
      have e : nI i + Int32.ofInt 6 = nI (i + 6) := nI_add i 6
      rw [e]
      rfl
    refine bv_iinc (i := 4) (n := 6) (x := nI i) (by decide +kernel) (by decide) rfl ?_
    rw [e6]
    exact bv_goto (off := -2873) (tgt := 23) (by decide +kernel) rfl (ih (i + 6) cu' su' U nx h x5 x6 hI (by omega) (by omega) (by omega) (by omega))
theorem la_start {h : ab_H} (hn : n ≤ 3072) (hs : h 2300 = some (.inr (7, n, .inl xs))) : ab_V mL_law_ la_P 0 0 0 [some (.ref 2300), none, none, none, none, none, none] [] 3000 h := by
  refine bv_new (fs := [.null, .int 0, .int 0, .null, .null, .null, .null, .null, .null, .null, .null, .int 0, .null, .int 0, .int 0, .null, .null, .null, .null]) okL_law0 rfl (show vwCl[9]? = some (RX11, TX11, 19) from rfl) (ab_mem 30 (by decide +kernel) rfl) (ab_mem 31 (by decide +kernel) rfl) (ab_mem 1 (by decide +kernel) rfl) tyX11 tyX11_ok (by decide +kernel) (fun _ => rfl) rfl rfl ?_
  refine bv_dup (ab_dec okL_law0 rfl) rfl ?_
  refine bv_I (As := []) (c_I11 (ab_up_s _ _ _)) (fun _ _ _ q => by cases q.1) okL_law0 rfl (ab_li_of (ab_mem 33 (by decide +kernel) rfl) (ab_mem 1 (by decide +kernel) rfl) (ab_mem 34 (by decide +kernel) rfl) ⟨by decide +kernel, by decide +kernel, by decide +kernel⟩ rfl rfl (Or.inl (ab_mem 32 (by decide +kernel) rfl))) rfl rfl ?_
  rintro _ nx1 h1 ⟨rfl, rfl, hd1, hr1⟩
  show ab_V mL_law_ la_P 174 8463 7 _ [.ref 3000] 3174 h1
  refine bv_astore_n (ab_dec okL_law0 rfl) (by decide) ?_
  refine bv_new (fs := [.int 0, .null, .null, .null, .null, .null, .int 0, .int 0, .null, .int 0, .int 0, .int 0, .int 0, .int 0, .int 0, .null, .int 0, .null, .int 0, .null, .null, .null, .null, .null, .null]) okL_law0 rfl (show vwCl[10]? = some (RX12, TX12, 25) from rfl) (ab_mem 1422 (by decide +kernel) rfl) (ab_mem 1423 (by decide +kernel) rfl) (ab_mem 12 (by decide +kernel) rfl) tyX12 tyX12_ok (by decide +kernel) (fun _ => rfl) rfl rfl ?_
  refine bv_dup (ab_dec okL_law0 rfl) rfl ?_
  refine bv_I (As := []) (c_I12 ((ab_up_s _ _ _).trans rfl)) (fun _ _ _ q => by cases q.1) okL_law0 rfl (ab_li_of (ab_mem 1425 (by decide +kernel) rfl) (ab_mem 12 (by decide +kernel) rfl) (ab_mem 1426 (by decide +kernel) rfl) ⟨by decide +kernel, by decide +kernel, by decide +kernel⟩ rfl rfl (Or.inl (ab_mem 1424 (by decide +kernel) rfl))) rfl rfl ?_
  rintro _ nx2 h2 ⟨rfl, rfl, ⟨z, w, R, hM2, hm2⟩, hr2⟩
  show ab_V mL_law_ la_P 189 34839 15 _ [.ref 3174] 3189 h2
  refine bv_astore_n (ab_dec okL_law0 rfl) (by decide) ?_
  refine bv_iconst (ab_dec okL_law0 rfl) ?_
  refine bv_newL (n := 1) okL_law0 rfl (ab_mem 2127 (by decide +kernel) rfl) (by omega) rfl rfl ?_
  refine bv_astore_n (ab_dec okL_law0 rfl) (by decide) ?_
  refine bv_iconst (ab_dec okL_law0 rfl) ?_
  refine bv_istore (ab_dec okL_law0 rfl) (by decide) ?_
  have hd2 : df_at (ab_up h2 3189 (.inr (3, 1, .inr (.inl (fun _ => 0))))) U0 := hd1.kept (fun k a b => (ab_up_n _ _ (by omega)).trans ((hr2 k (by omega)).trans (ab_up_n _ _ (by omega))))
  have hM3 : mo_at (ab_up h2 3189 (.inr (3, 1, .inr (.inl (fun _ => 0))))) z w R := hM2.kept (fun k a b => ab_up_n _ _ (by omega))
  have hs3 : (ab_up h2 3189 (.inr (3, 1, .inr (.inl (fun _ => 0))))) 2300 = some (.inr (7, n, .inl xs)) := (ab_up_n _ _ (by omega)).trans ((hr2 2300 (by omega)).trans ((ab_up_n _ _ (by omega)).trans ((hr1 2300 (by omega)).trans ((ab_up_n _ _ (by omega)).trans hs))))
  exact la_loop hn 512 0 190 34840 U0 3190 _ none none ⟨st0, hd2, ⟨z, w, R, hM3, hm2⟩, hs3, _, ab_up_s _ _ _⟩ (by omega) (by omega) (by omega) (by omega)
end LP
