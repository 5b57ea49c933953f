/-! ===== the cases of the law's loop ===== -/
section CD
variable {U : ST} {n i cu su nx : Nat} {xs : Nat → Int32} {h : ab_H} {x5 x6 : Option Value}
theorem e_18 (hI : la_I U n xs h) (hi : i + 6 ≤ n) (hn : n ≤ 3072) (hc : cu + 10 ≤ 601024) (hsu : su + 60 ≤ 7293034) (E : la_E i cu su n xs) : ab_V mL_law_ la_P cu su 1317 (la_L i x5 x6) [] nx h :=
  la_case (Mh := mL_soon) (Mm := mX12_soon) (hh := hL_soon) (idx := 206) (idx2 := 208) (p0 := 1317) (q1 := 1330) (q2 := 1349) (vs := [.int (xs (i + 1)), .int (xs (i + 2))]) (fun o => o = sp_soon U (xs (i + 1)) (xs (i + 2))) hI hc hsu E (by decide +kernel) (Psh.arg hi hn (k := 1) (kz := 1) (by omega) rfl (by decide +kernel) (Psh.arg hi hn (k := 2) (kz := 2) (by omega) rfl (by decide +kernel) (Psh.nil))) (by decide +kernel) (by decide +kernel) (by decide +kernel) (by decide +kernel) (Psh.arg hi hn (k := 1) (kz := 1) (by omega) rfl (by decide +kernel) (Psh.arg hi hn (k := 2) (kz := 2) (by omega) rfl (by decide +kernel) (Psh.nil))) (by decide +kernel) (by decide +kernel)
    (fun g hg => (a_soon hI.2.1 hI.1 hg).imp (fun r nx' h' w => ⟨_, rfl, w⟩))
    (fun o hQ nx' h' z w R hM hm => by cases hQ; exact m_soon hM hm hI.1)
    (fun o hQ => by cases hQ; exact ⟨Nat.le_trans (k_soon hI.1).1 (by decide), (k_soon hI.1).2⟩) sL_soon lL_208 rfl rfl rfl rfl rfl rfl rfl rfl
    (fun o hQ cu su nx h z w R v g => la_tl (p := 1354) (off := 1511) (by decide +kernel) rfl)
theorem e_19 (hI : la_I U n xs h) (hi : i + 6 ≤ n) (hn : n ≤ 3072) (hc : cu + 10 ≤ 601024) (hsu : su + 60 ≤ 7293034) (E : la_E i cu su n xs) : ab_V mL_law_ la_P cu su 1385 (la_L i x5 x6) [] nx h :=
  la_case (Mh := mL_need) (Mm := mX12_need) (hh := hL_need) (idx := 209) (idx2 := 211) (p0 := 1385) (q1 := 1398) (q2 := 1417) (vs := [.int (xs (i + 1)), .int (xs (i + 2))]) (fun o => o = sp_need U (xs (i + 1)) (xs (i + 2))) hI hc hsu E (by decide +kernel) (Psh.arg hi hn (k := 1) (kz := 1) (by omega) rfl (by decide +kernel) (Psh.arg hi hn (k := 2) (kz := 2) (by omega) rfl (by decide +kernel) (Psh.nil))) (by decide +kernel) (by decide +kernel) (by decide +kernel) (by decide +kernel) (Psh.arg hi hn (k := 1) (kz := 1) (by omega) rfl (by decide +kernel) (Psh.arg hi hn (k := 2) (kz := 2) (by omega) rfl (by decide +kernel) (Psh.nil))) (by decide +kernel) (by decide +kernel)
    (fun g hg => (a_need hI.2.1 hI.1 hg).imp (fun r nx' h' w => ⟨_, rfl, w⟩))
    (fun o hQ nx' h' z w R hM hm => by cases hQ; exact m_need hM hm hI.1)
    (fun o hQ => by cases hQ; exact ⟨Nat.le_trans (k_need hI.1).1 (by decide), (k_need hI.1).2⟩) sL_need lL_211 rfl rfl rfl rfl rfl rfl rfl rfl
    (fun o hQ cu su nx h z w R v g => la_tl (p := 1422) (off := 1443) (by decide +kernel) rfl)
theorem e_20 (hI : la_I U n xs h) (hi : i + 6 ≤ n) (hn : n ≤ 3072) (hc : cu + 10 ≤ 601024) (hsu : su + 60 ≤ 7293034) (E : la_E i cu su n xs) : ab_V mL_law_ la_P cu su 1453 (la_L i x5 x6) [] nx h :=
  la_case (Mh := mL_cover) (Mm := mX12_cover) (hh := hL_cover) (idx := 212) (idx2 := 214) (p0 := 1453) (q1 := 1466) (q2 := 1485) (vs := [.int (xs (i + 1)), .int (xs (i + 2))]) (fun o => o = sp_cover U (xs (i + 1)) (xs (i + 2))) hI hc hsu E (by decide +kernel) (Psh.arg hi hn (k := 1) (kz := 1) (by omega) rfl (by decide +kernel) (Psh.arg hi hn (k := 2) (kz := 2) (by omega) rfl (by decide +kernel) (Psh.nil))) (by decide +kernel) (by decide +kernel) (by decide +kernel) (by decide +kernel) (Psh.arg hi hn (k := 1) (kz := 1) (by omega) rfl (by decide +kernel) (Psh.arg hi hn (k := 2) (kz := 2) (by omega) rfl (by decide +kernel) (Psh.nil))) (by decide +kernel) (by decide +kernel)
    (fun g hg => (a_cover hI.2.1 hI.1 hg).imp (fun r nx' h' w => ⟨_, rfl, w⟩))
    (fun o hQ nx' h' z w R hM hm => by cases hQ; exact m_cover hM hm hI.1)
    (fun o hQ => by cases hQ; exact ⟨Nat.le_trans (k_cover hI.1).1 (by decide), (k_cover hI.1).2⟩) sL_cover lL_214 rfl rfl rfl rfl rfl rfl rfl rfl
    (fun o hQ cu su nx h z w R v g => la_tl (p := 1490) (off := 1375) (by decide +kernel) rfl)
theorem e_21 (hI : la_I U n xs h) (hi : i + 6 ≤ n) (hn : n ≤ 3072) (hc : cu + 10 ≤ 601024) (hsu : su + 60 ≤ 7293034) (E : la_E i cu su n xs) : ab_V mL_law_ la_P cu su 1521 (la_L i x5 x6) [] nx h :=
  la_case (Mh := mL_whom) (Mm := mX12_whom) (hh := hL_whom) (idx := 215) (idx2 := 217) (p0 := 1521) (q1 := 1534) (q2 := 1553) (vs := [.int (xs (i + 1)), .int (xs (i + 2))]) (fun o => o = sp_whom U (xs (i + 1)) (xs (i + 2))) hI hc hsu E (by decide +kernel) (Psh.arg hi hn (k := 1) (kz := 1) (by omega) rfl (by decide +kernel) (Psh.arg hi hn (k := 2) (kz := 2) (by omega) rfl (by decide +kernel) (Psh.nil))) (by decide +kernel) (by decide +kernel) (by decide +kernel) (by decide +kernel) (Psh.arg hi hn (k := 1) (kz := 1) (by omega) rfl (by decide +kernel) (Psh.arg hi hn (k := 2) (kz := 2) (by omega) rfl (by decide +kernel) (Psh.nil))) (by decide +kernel) (by decide +kernel)
    (fun g hg => (a_whom hI.2.1 hI.1 hg).imp (fun r nx' h' w => ⟨_, rfl, w⟩))
    (fun o hQ nx' h' z w R hM hm => by cases hQ; exact m_whom hM hm hI.1)
    (fun o hQ => by cases hQ; exact ⟨Nat.le_trans (k_whom hI.1).1 (by decide), (k_whom hI.1).2⟩) sL_whom lL_217 rfl rfl rfl rfl rfl rfl rfl rfl
    (fun o hQ cu su nx h z w R v g => la_tl (p := 1558) (off := 1307) (by decide +kernel) rfl)
theorem e_22 (hI : la_I U n xs h) (hi : i + 6 ≤ n) (hn : n ≤ 3072) (hc : cu + 10 ≤ 601024) (hsu : su + 60 ≤ 7293034) (E : la_E i cu su n xs) : ab_V mL_law_ la_P cu su 1589 (la_L i x5 x6) [] nx h :=
  la_case (Mh := mL_outs) (Mm := mX12_outs) (hh := hL_outs) (idx := 218) (idx2 := 220) (p0 := 1589) (q1 := 1602) (q2 := 1621) (vs := [.int (xs (i + 1)), .int (xs (i + 2))]) (fun o => o = sp_outs U (xs (i + 1)) (xs (i + 2))) hI hc hsu E (by decide +kernel) (Psh.arg hi hn (k := 1) (kz := 1) (by omega) rfl (by decide +kernel) (Psh.arg hi hn (k := 2) (kz := 2) (by omega) rfl (by decide +kernel) (Psh.nil))) (by decide +kernel) (by decide +kernel) (by decide +kernel) (by decide +kernel) (Psh.arg hi hn (k := 1) (kz := 1) (by omega) rfl (by decide +kernel) (Psh.arg hi hn (k := 2) (kz := 2) (by omega) rfl (by decide +kernel) (Psh.nil))) (by decide +kernel) (by decide +kernel)
    (fun g hg => (a_outs hI.2.1 hI.1 hg).imp (fun r nx' h' w => ⟨_, rfl, w⟩))
    (fun o hQ nx' h' z w R hM hm => by cases hQ; exact m_outs hM hm hI.1)
    (fun o hQ => by cases hQ; exact ⟨Nat.le_trans (k_outs hI.1).1 (by decide), (k_outs hI.1).2⟩) sL_outs lL_220 rfl rfl rfl rfl rfl rfl rfl rfl
    (fun o hQ cu su nx h z w R v g => la_tl (p := 1626) (off := 1239) (by decide +kernel) rfl)
theorem e_23 (hI : la_I U n xs h) (hi : i + 6 ≤ n) (hn : n ≤ 3072) (hc : cu + 10 ≤ 601024) (hsu : su + 60 ≤ 7293034) (E : la_E i cu su n xs) : ab_V mL_law_ la_P cu su 1657 (la_L i x5 x6) [] nx h :=
  la_case (Mh := mL_sworn) (Mm := mX12_sworn) (hh := hL_sworn) (idx := 221) (idx2 := 223) (p0 := 1657) (q1 := 1658) (q2 := 1665) (vs := []) (fun o => o = sp_sworn U) hI hc hsu E (by decide +kernel) (Psh.nil) (by decide +kernel) (by decide +kernel) (by decide +kernel) (by decide +kernel) (Psh.nil) (by decide +kernel) (by decide +kernel)
    (fun g hg => (a_sworn hI.2.1 hI.1 hg).imp (fun r nx' h' w => ⟨_, rfl, w⟩))
    (fun o hQ nx' h' z w R hM hm => by cases hQ; exact m_sworn hM hm hI.1)
    (fun o hQ => by cases hQ; exact ⟨Nat.le_trans (k_sworn hI.1).1 (by decide), (k_sworn hI.1).2⟩) sL_sworn lL_223 rfl rfl rfl rfl rfl rfl rfl rfl
    (fun o hQ cu su nx h z w R v g => la_tl (p := 1670) (off := 1195) (by decide +kernel) rfl)
theorem e_24 (hI : la_I U n xs h) (hi : i + 6 ≤ n) (hn : n ≤ 3072) (hc : cu + 10 ≤ 601024) (hsu : su + 60 ≤ 7293034) (E : la_E i cu su n xs) : ab_V mL_law_ la_P cu su 1701 (la_L i x5 x6) [] nx h :=
  la_case (Mh := mL_likely) (Mm := mX12_likely) (hh := hL_likely) (idx := 224) (idx2 := 226) (p0 := 1701) (q1 := 1702) (q2 := 1709) (vs := []) (fun o => o = sp_likely U) hI hc hsu E (by decide +kernel) (Psh.nil) (by decide +kernel) (by decide +kernel) (by decide +kernel) (by decide +kernel) (Psh.nil) (by decide +kernel) (by decide +kernel)
    (fun g hg => (a_likely hI.2.1 hI.1 hg).imp (fun r nx' h' w => ⟨_, rfl, w⟩))
    (fun o hQ nx' h' z w R hM hm => by cases hQ; exact m_likely hM hm hI.1)
    (fun o hQ => by cases hQ; exact ⟨Nat.le_trans (k_likely hI.1).1 (by decide), (k_likely hI.1).2⟩) sL_likely lL_226 rfl rfl rfl rfl rfl rfl rfl rfl
    (fun o hQ cu su nx h z w R v g => la_tl (p := 1714) (off := 1151) (by decide +kernel) rfl)
theorem e_25 (hI : la_I U n xs h) (hi : i + 6 ≤ n) (hn : n ≤ 3072) (hc : cu + 10 ≤ 601024) (hsu : su + 60 ≤ 7293034) (E : la_E i cu su n xs) : ab_V mL_law_ la_P cu su 1745 (la_L i x5 x6) [] nx h :=
  la_case (Mh := mL_ask) (Mm := mX12_ask) (hh := hL_ask) (idx := 227) (idx2 := 229) (p0 := 1745) (q1 := 1746) (q2 := 1753) (vs := []) (fun o => o = sp_ask U) hI hc hsu E (by decide +kernel) (Psh.nil) (by decide +kernel) (by decide +kernel) (by decide +kernel) (by decide +kernel) (Psh.nil) (by decide +kernel) (by decide +kernel)
    (fun g hg => (a_ask hI.2.1 hI.1 hg).imp (fun r nx' h' w => ⟨_, rfl, w⟩))
    (fun o hQ nx' h' z w R hM hm => by cases hQ; exact m_ask hM hm hI.1)
    (fun o hQ => by cases hQ; exact ⟨Nat.le_trans (k_ask hI.1).1 (by decide), (k_ask hI.1).2⟩) sL_ask lL_229 rfl rfl rfl rfl rfl rfl rfl rfl
    (fun o hQ cu su nx h z w R v g => la_tl (p := 1758) (off := 1107) (by decide +kernel) rfl)
theorem e_26 (hI : la_I U n xs h) (hi : i + 6 ≤ n) (hn : n ≤ 3072) (hc : cu + 10 ≤ 601024) (hsu : su + 60 ≤ 7293034) (E : la_E i cu su n xs) : ab_V mL_law_ la_P cu su 1789 (la_L i x5 x6) [] nx h :=
  la_case (Mh := mL_rumour) (Mm := mX12_rumour) (hh := hL_rumour) (idx := 230) (idx2 := 233) (p0 := 1789) (q1 := 1804) (q2 := 1825) (vs := [.int (nI (decide (xs (i + 1) ≠ 0)).toNat)]) (fun o => o = sp_rumour U (decide (xs (i + 1) ≠ 0))) hI hc hsu E (by decide +kernel) (Psh.bool hi hn (k := 1) (kz := 1) (by omega) rfl (by decide +kernel) (by decide +kernel) (Psh.nil)) (by decide +kernel) (by decide +kernel) (by decide +kernel) (by decide +kernel) (Psh.bool hi hn (k := 1) (kz := 1) (by omega) rfl (by decide +kernel) (by decide +kernel) (Psh.nil)) (by decide +kernel) (by decide +kernel)
    (fun g hg => (a_rumour hI.2.1 hI.1 hg).imp (fun r nx' h' w => ⟨_, rfl, w⟩))
    (fun o hQ nx' h' z w R hM hm => by cases hQ; exact m_rumour hM hm hI.1)
    (fun o hQ => by cases hQ; exact ⟨Nat.le_trans (k_rumour hI.1).1 (by decide), (k_rumour hI.1).2⟩) sL_rumour lL_233 rfl rfl rfl rfl rfl rfl rfl rfl
    (fun o hQ cu su nx h z w R v g => la_tl (p := 1830) (off := 1035) (by decide +kernel) rfl)
theorem e_27 (hI : la_I U n xs h) (hi : i + 6 ≤ n) (hn : n ≤ 3072) (hc : cu + 10 ≤ 601024) (hsu : su + 60 ≤ 7293034) (E : la_E i cu su n xs) : ab_V mL_law_ la_P cu su 1861 (la_L i x5 x6) [] nx h :=
  la_case (Mh := mL_next) (Mm := mX12_next) (hh := hL_next) (idx := 234) (idx2 := 236) (p0 := 1861) (q1 := 1862) (q2 := 1869) (vs := []) (fun o => o = sp_next U) hI hc hsu E (by decide +kernel) (Psh.nil) (by decide +kernel) (by decide +kernel) (by decide +kernel) (by decide +kernel) (Psh.nil) (by decide +kernel) (by decide +kernel)
    (fun g hg => (a_next hI.2.1 hI.1 hg).imp (fun r nx' h' w => ⟨_, rfl, w⟩))
    (fun o hQ nx' h' z w R hM hm => by cases hQ; exact m_next hM hm hI.1)
    (fun o hQ => by cases hQ; exact ⟨Nat.le_trans (k_next hI.1).1 (by decide), (k_next hI.1).2⟩) sL_next lL_236 rfl rfl rfl rfl rfl rfl rfl rfl
    (fun o hQ cu su nx h z w R v g => la_tl (p := 1874) (off := 991) (by decide +kernel) rfl)
theorem e_28 (hI : la_I U n xs h) (hi : i + 6 ≤ n) (hn : n ≤ 3072) (hc : cu + 10 ≤ 601024) (hsu : su + 60 ≤ 7293034) (E : la_E i cu su n xs) : ab_V mL_law_ la_P cu su 1905 (la_L i x5 x6) [] nx h :=
  la_case (Mh := mL_like) (Mm := mX12_like) (hh := hL_like) (idx := 237) (idx2 := 239) (p0 := 1905) (q1 := 1918) (q2 := 1937) (vs := [.int (xs (i + 1)), .int (xs (i + 2))]) (fun o => o = sp_like U (xs (i + 1)) (xs (i + 2))) hI hc hsu E (by decide +kernel) (Psh.arg hi hn (k := 1) (kz := 1) (by omega) rfl (by decide +kernel) (Psh.arg hi hn (k := 2) (kz := 2) (by omega) rfl (by decide +kernel) (Psh.nil))) (by decide +kernel) (by decide +kernel) (by decide +kernel) (by decide +kernel) (Psh.arg hi hn (k := 1) (kz := 1) (by omega) rfl (by decide +kernel) (Psh.arg hi hn (k := 2) (kz := 2) (by omega) rfl (by decide +kernel) (Psh.nil))) (by decide +kernel) (by decide +kernel)
    (fun g hg => (a_like hI.2.1 hI.1 hg).imp (fun r nx' h' w => ⟨_, rfl, w⟩))
    (fun o hQ nx' h' z w R hM hm => by cases hQ; exact m_like hM hm hI.1)
    (fun o hQ => by cases hQ; exact ⟨Nat.le_trans (k_like hI.1).1 (by decide), (k_like hI.1).2⟩) sL_like lL_239 rfl rfl rfl rfl rfl rfl rfl rfl
    (fun o hQ cu su nx h z w R v g => la_tl (p := 1942) (off := 923) (by decide +kernel) rfl)
theorem e_29 (hI : la_I U n xs h) (hi : i + 6 ≤ n) (hn : n ≤ 3072) (hc : cu + 10 ≤ 601024) (hsu : su + 60 ≤ 7293034) (E : la_E i cu su n xs) : ab_V mL_law_ la_P cu su 1973 (la_L i x5 x6) [] nx h :=
  la_dir (Md := mX11_twice) (Mm := mX12_twice) (idx := 240) (idx2 := 243) (p0 := 1973) (q1 := 1974) (q2 := 1978) (vs := []) (off := 912) hI hc hsu E (by decide +kernel) (Psh.nil) (by decide +kernel) (by decide +kernel) (Psh.nil) (by decide +kernel) (by decide +kernel) rfl (c_twice hI.2.1 hI.1)
    (fun nx' h' z w R hM hm => m_twice hM hm hI.1) (k_twice hI.1) lL_240 lL_243 rfl rfl rfl rfl rfl rfl rfl rfl
theorem e_30 (hI : la_I U n xs h) (hi : i + 6 ≤ n) (hn : n ≤ 3072) (hc : cu + 10 ≤ 601024) (hsu : su + 60 ≤ 7293034) (E : la_E i cu su n xs) : ab_V mL_law_ la_P cu su 1986 (la_L i x5 x6) [] nx h :=
  la_dir (Md := mX11_vain) (Mm := mX12_vain) (idx := 244) (idx2 := 247) (p0 := 1986) (q1 := 1987) (q2 := 1991) (vs := []) (off := 899) hI hc hsu E (by decide +kernel) (Psh.nil) (by decide +kernel) (by decide +kernel) (Psh.nil) (by decide +kernel) (by decide +kernel) rfl (c_vain hI.2.1 hI.1)
    (fun nx' h' z w R hM hm => m_vain hM hm hI.1) (k_vain hI.1) lL_244 lL_247 rfl rfl rfl rfl rfl rfl rfl rfl
theorem e_31 (hI : la_I U n xs h) (hi : i + 6 ≤ n) (hn : n ≤ 3072) (hc : cu + 10 ≤ 601024) (hsu : su + 60 ≤ 7293034) (E : la_E i cu su n xs) : ab_V mL_law_ la_P cu su 1999 (la_L i x5 x6) [] nx h :=
  la_dir (Md := mX11_never) (Mm := mX12_never) (idx := 248) (idx2 := 251) (p0 := 1999) (q1 := 2000) (q2 := 2004) (vs := []) (off := 886) hI hc hsu E (by decide +kernel) (Psh.nil) (by decide +kernel) (by decide +kernel) (Psh.nil) (by decide +kernel) (by decide +kernel) rfl (c_never hI.2.1 hI.1)
    (fun nx' h' z w R hM hm => m_never hM hm hI.1) (k_never hI.1) lL_248 lL_251 rfl rfl rfl rfl rfl rfl rfl rfl
theorem e_32 (hI : la_I U n xs h) (hi : i + 6 ≤ n) (hn : n ≤ 3072) (hc : cu + 10 ≤ 601024) (hsu : su + 60 ≤ 7293034) (E : la_E i cu su n xs) : ab_V mL_law_ la_P cu su 2012 (la_L i x5 x6) [] nx h :=
  la_case (Mh := mL_beds) (Mm := mX12_beds) (hh := hL_beds) (idx := 252) (idx2 := 254) (p0 := 2012) (q1 := 2025) (q2 := 2044) (vs := [.int (xs (i + 1)), .int (xs (i + 2))]) (fun o => o = sp_beds U (xs (i + 1)) (xs (i + 2))) hI hc hsu E (by decide +kernel) (Psh.arg hi hn (k := 1) (kz := 1) (by omega) rfl (by decide +kernel) (Psh.arg hi hn (k := 2) (kz := 2) (by omega) rfl (by decide +kernel) (Psh.nil))) (by decide +kernel) (by decide +kernel) (by decide +kernel) (by decide +kernel) (Psh.arg hi hn (k := 1) (kz := 1) (by omega) rfl (by decide +kernel) (Psh.arg hi hn (k := 2) (kz := 2) (by omega) rfl (by decide +kernel) (Psh.nil))) (by decide +kernel) (by decide +kernel)
    (fun g hg => (a_beds hI.2.1 hI.1 hg).imp (fun r nx' h' w => ⟨_, rfl, w⟩))
    (fun o hQ nx' h' z w R hM hm => by cases hQ; exact m_beds hM hm hI.1)
    (fun o hQ => by cases hQ; exact ⟨Nat.le_trans (k_beds hI.1).1 (by decide), (k_beds hI.1).2⟩) sL_beds lL_254 rfl rfl rfl rfl rfl rfl rfl rfl
    (fun o hQ cu su nx h z w R v g => la_tl (p := 2049) (off := 816) (by decide +kernel) rfl)
theorem e_33 (hI : la_I U n xs h) (hi : i + 6 ≤ n) (hn : n ≤ 3072) (hc : cu + 10 ≤ 601024) (hsu : su + 60 ≤ 7293034) (E : la_E i cu su n xs) : ab_V mL_law_ la_P cu su 2080 (la_L i x5 x6) [] nx h :=
  la_case (Mh := mL_couples) (Mm := mX12_couples) (hh := hL_couples) (idx := 255) (idx2 := 257) (p0 := 2080) (q1 := 2087) (q2 := 2100) (vs := [.int (xs (i + 1))]) (fun o => o = sp_couples U (xs (i + 1))) hI hc hsu E (by decide +kernel) (Psh.arg hi hn (k := 1) (kz := 1) (by omega) rfl (by decide +kernel) (Psh.nil)) (by decide +kernel) (by decide +kernel) (by decide +kernel) (by decide +kernel) (Psh.arg hi hn (k := 1) (kz := 1) (by omega) rfl (by decide +kernel) (Psh.nil)) (by decide +kernel) (by decide +kernel)
    (fun g hg => (a_couples hI.2.1 hI.1 hg).imp (fun r nx' h' w => ⟨_, rfl, w⟩))
    (fun o hQ nx' h' z w R hM hm => by cases hQ; exact m_couples hM hm hI.1)
    (fun o hQ => by cases hQ; exact ⟨Nat.le_trans (k_couples hI.1).1 (by decide), (k_couples hI.1).2⟩) sL_couples lL_257 rfl rfl rfl rfl rfl rfl rfl rfl
    (fun o hQ cu su nx h z w R v g => la_tl (p := 2105) (off := 760) (by decide +kernel) rfl)
theorem e_34 (hI : la_I U n xs h) (hi : i + 6 ≤ n) (hn : n ≤ 3072) (hc : cu + 10 ≤ 601024) (hsu : su + 60 ≤ 7293034) (E : la_E i cu su n xs) : ab_V mL_law_ la_P cu su 2136 (la_L i x5 x6) [] nx h :=
  la_dir (Md := mX11_gossip) (Mm := mX12_gossip) (idx := 258) (idx2 := 261) (p0 := 2136) (q1 := 2137) (q2 := 2141) (vs := []) (off := 749) hI hc hsu E (by decide +kernel) (Psh.nil) (by decide +kernel) (by decide +kernel) (Psh.nil) (by decide +kernel) (by decide +kernel) rfl (c_gossip hI.2.1 hI.1.1.1)
    (fun nx' h' z w R hM hm => m_gossip hM hm hI.1) (k_gossip hI.1) lL_258 lL_261 rfl rfl rfl rfl rfl rfl rfl rfl
theorem e_35 (hI : la_I U n xs h) (hi : i + 6 ≤ n) (hn : n ≤ 3072) (hc : cu + 10 ≤ 601024) (hsu : su + 60 ≤ 7293034) (E : la_E i cu su n xs) : ab_V mL_law_ la_P cu su 2149 (la_L i x5 x6) [] nx h :=
  la_case (Mh := mL_friends) (Mm := mX12_friends) (hh := hL_friends) (idx := 262) (idx2 := 264) (p0 := 2149) (q1 := 2162) (q2 := 2181) (vs := [.int (xs (i + 1)), .int (xs (i + 2))]) (fun o => o = sp_friends U (xs (i + 1)) (xs (i + 2))) hI hc hsu E (by decide +kernel) (Psh.arg hi hn (k := 1) (kz := 1) (by omega) rfl (by decide +kernel) (Psh.arg hi hn (k := 2) (kz := 2) (by omega) rfl (by decide +kernel) (Psh.nil))) (by decide +kernel) (by decide +kernel) (by decide +kernel) (by decide +kernel) (Psh.arg hi hn (k := 1) (kz := 1) (by omega) rfl (by decide +kernel) (Psh.arg hi hn (k := 2) (kz := 2) (by omega) rfl (by decide +kernel) (Psh.nil))) (by decide +kernel) (by decide +kernel)
    (fun g hg => (a_friends hI.2.1 hI.1 hg).imp (fun r nx' h' w => ⟨_, rfl, w⟩))
    (fun o hQ nx' h' z w R hM hm => by cases hQ; exact m_friends hM hm hI.1)
    (fun o hQ => by cases hQ; exact ⟨Nat.le_trans (k_friends hI.1).1 (by decide), (k_friends hI.1).2⟩) sL_friends lL_264 rfl rfl rfl rfl rfl rfl rfl rfl
    (fun o hQ cu su nx h z w R v g => la_tl (p := 2186) (off := 679) (by decide +kernel) rfl)
end CD
