/-! ===== an exception is made and thrown ===== -/
def xn : List String := ["java/lang/RuntimeException", "java/lang/Exception"]
def xw (own : String) (ik ic : Nat) (X : String) : Prop := Cond.classLink own ik X ∈ ab_T ∧ Cond.initialized X ∈ ab_T ∧ Bundle.fit X = true ∧ ∃ L : List Nat, (∀ w ∈ vx_atS own ic X xn, w ∈ L.filterMap (fun i => tables_1[i]?)) ∧ (vx_atS own ic X xn).all (fun w => vx_ot w && (goodWord w || ab_nw w)) = true
theorem xw_at {own X : String} {ik ic : Nat} (h : xw own ik ic X) : ∀ w ∈ vx_atS own ic X xn, vx_ot w = true ∧ (w ∈ ab_T ∨ w ∈ ab_N) := by
  obtain ⟨-, -, -, L, h1, h2⟩ := h
  intro w hw
  have hg := List.all_eq_true.mp h2 w hw
  rw [Bool.and_eq_true, Bool.or_eq_true] at hg
  obtain ⟨i, -, hi⟩ := List.mem_filterMap.mp (h1 w hw)
  exact ⟨hg.1, hg.2.imp (fun q => ab_mem i hi q) (fun q => ab_memN i hi q)⟩
theorem ab_T_ot {w : Cond} (h : w ∈ ab_T) : vx_ot w = true := by
  unfold vx_ot
  rw [(List.mem_filter.mp h).2, Bool.or_true]
section BV
variable {M M' : ab_M} {post post' : ab_P} {cu su pc : Nat} {ls : List (Option Value)} {st rest : List Value} {nx : Nat} {h : ab_H} {J t0 t1 t2 t3 t4 : List ab_E} {c0 f0 c1 f1 c2 f2 c3 f3 c4 f4 : Nat}
theorem bv_thr (tx : String) (i : Nat) {ik is ic : Nat} {X : String} (hx : xw M.1.cls ik ic X) (hok : ab_cd M 0 J) (hs : (M.1.cls, is, tx, i) ∈ kcS) (hJ0 : ab_dr pc J = (pc, .new ik, 3, c0, f0) :: t0) (hJ1 : ab_dr (pc + 3) J = (pc + 3, .dup, 1, c1, f1) :: t1) (hJ2 : ab_dr (pc + 4) J = (pc + 4, .ldc is, 2, c2, f2) :: t2) (hJ3 : ab_dr (pc + 6) J = (pc + 6, .invokespecial ic, 3, c3, f3) :: t3) (hJ4 : ab_dr (pc + 9) J = (pc + 9, .athrow, 1, c4, f4) :: t4) (hd : Nat.ble 6 M.2.2.2.2.1 = true) (hc : Nat.ble (cu + 1) M.2.2.2.2.2.1 = true) (hs6 : Nat.ble (su + 6) M.2.2.2.2.2.2 = true) (hr : Nat.ble (st.map fun v => v.category).sum 8 = true)
    (k : ∀ nx', nx ≤ nx' → post (.inr X) nx' h) : ab_V M post cu su pc ls st nx h := by
  intro p l e s m args below meth c G D H locs A C hW hS hB hL
  have hd := Nat.le_of_ble_eq_true hd
  have hc := Nat.le_of_ble_eq_true hc
  have hs6 := Nat.le_of_ble_eq_true hs6
  have hr := Nat.le_of_ble_eq_true hr
  have hts := C.2.2.2.2.2.1
  have hK := C.2.2.2.2.2.2.2.2.2.2
  have hT : ∀ w, w ∈ ab_T → w.before args s = true := fun w hw => hts w (List.mem_cons_of_mem _ hw)
  have hat := xw_at hx
  refine vx_throwS (names := xn) (text := tx) (sa := G.2 i) (A := ab_A G) C.1 C.2.1 C.2.2.2.2.2.2.2.2.2.1 C.2.2.2.2.1 hx.2.2.1 (by decide +kernel) (hT _ hx.1) (hT _ hx.2.1) (hK.2.2.2.2.1 _ hs) (fun w hw => ?_) (fun w hw => ?_) hK.2.2.1 hK.2.2.2.1 hS (hL.1.trans C.2.2.2.1.symm) (ab_dec hok hJ0) (ab_dec hok hJ1) (ab_dec hok hJ2) (ab_dec hok hJ3) (ab_dec hok hJ4) (fun x hx => (C.2.2.2.2.2.2.2.2.1 x hx).elim) ?_ ?_ ?_ ?_ C.2.2.2.2.2.2.1 (fun t hal hz hq => ?_) hS.2.2 hc hs6
  · rcases (hat w hw).2 with q | q
    · exact hT w q
    · exact va_Nw.use (ab_nw_on (List.mem_filter.mp q).2) (hK.1 w q)
  · rcases List.mem_cons.mp hw with q | hw
    · rw [q]; exact ab_T_ot hx.1
    · rcases List.mem_cons.mp hw with q | hw
      · rw [q]; exact ab_T_ot hx.2.1
      · exact (hat w hw).1
  · show 2 + 3 < M.2.2.2.2.1
    omega
  · rw [ab_cat]
    show _ + (13 * (2 + 1) + 43) ≤ 100 * M.2.2.2.2.1
    omega
  · exact hc
  · exact hs6
  · obtain ⟨w1, w2, w3, w4⟩ := hW
    refine ⟨⟨t.heap.size + 3000 - G.1, h, k _ (by omega), by omega, by omega, fun j d hj hj0 => ?_, w4⟩, ⟨Nat.le_trans hS.1 hz, fun q h1 h2 => (hq q (Nat.lt_of_lt_of_le h1 hS.1)).trans (hS.2.1 q h1 h2)⟩⟩
    obtain ⟨a1, a2, a3⟩ := w3 j d hj hj0
    refine ⟨a1, by omega, a3.kept (hq _ ?_)⟩
    rw [ab_ad_own G a1]
    omega
theorem bv_thrW (tx : String) (i : Nat) {ik is ic : Nat} {X : String} (hx : xw M.1.cls ik ic X) (hok : ab_cd M 0 J) (hs : (M.1.cls, is, tx, i) ∈ kcS) (hJ0 : ab_dr pc J = (pc, .new ik, 3, c0, f0) :: t0) (hJ1 : ab_dr (pc + 3) J = (pc + 3, .dup, 1, c1, f1) :: t1) (hJ2 : ab_dr (pc + 4) J = (pc + 4, .ldc_w is, 3, c2, f2) :: t2) (hJ3 : ab_dr (pc + 7) J = (pc + 7, .invokespecial ic, 3, c3, f3) :: t3) (hJ4 : ab_dr (pc + 10) J = (pc + 10, .athrow, 1, c4, f4) :: t4) (hd : Nat.ble 6 M.2.2.2.2.1 = true) (hc : Nat.ble (cu + 1) M.2.2.2.2.2.1 = true) (hs6 : Nat.ble (su + 6) M.2.2.2.2.2.2 = true) (hr : Nat.ble (st.map fun v => v.category).sum 8 = true)
    (k : ∀ nx', nx ≤ nx' → post (.inr X) nx' h) : ab_V M post cu su pc ls st nx h := by
  intro p l e s m args below meth c G D H locs A C hW hS hB hL
  have hd := Nat.le_of_ble_eq_true hd
  have hc := Nat.le_of_ble_eq_true hc
  have hs6 := Nat.le_of_ble_eq_true hs6
  have hr := Nat.le_of_ble_eq_true hr
  have hts := C.2.2.2.2.2.1
  have hK := C.2.2.2.2.2.2.2.2.2.2
  have hT : ∀ w, w ∈ ab_T → w.before args s = true := fun w hw => hts w (List.mem_cons_of_mem _ hw)
  have hat := xw_at hx
  refine vx_throwSW (names := xn) (text := tx) (sa := G.2 i) (A := ab_A G) C.1 C.2.1 C.2.2.2.2.2.2.2.2.2.1 C.2.2.2.2.1 hx.2.2.1 (by decide +kernel) (hT _ hx.1) (hT _ hx.2.1) (hK.2.2.2.2.1 _ hs) (fun w hw => ?_) (fun w hw => ?_) hK.2.2.1 hK.2.2.2.1 hS (hL.1.trans C.2.2.2.1.symm) (ab_dec hok hJ0) (ab_dec hok hJ1) (ab_dec hok hJ2) (ab_dec hok hJ3) (ab_dec hok hJ4) (fun x hx => (C.2.2.2.2.2.2.2.2.1 x hx).elim) ?_ ?_ ?_ ?_ C.2.2.2.2.2.2.1 (fun t hal hz hq => ?_) hS.2.2 hc hs6
  · rcases (hat w hw).2 with q | q
    · exact hT w q
    · exact va_Nw.use (ab_nw_on (List.mem_filter.mp q).2) (hK.1 w q)
  · rcases List.mem_cons.mp hw with q | hw
    · rw [q]; exact ab_T_ot hx.1
    · rcases List.mem_cons.mp hw with q | hw
      · rw [q]; exact ab_T_ot hx.2.1
      · exact (hat w hw).1
  · show 2 + 3 < M.2.2.2.2.1
    omega
  · rw [ab_cat]
    show _ + (13 * (2 + 1) + 43) ≤ 100 * M.2.2.2.2.1
    omega
  · exact hc
  · exact hs6
  · obtain ⟨w1, w2, w3, w4⟩ := hW
    refine ⟨⟨t.heap.size + 3000 - G.1, h, k _ (by omega), by omega, by omega, fun j d hj hj0 => ?_, w4⟩, ⟨Nat.le_trans hS.1 hz, fun q h1 h2 => (hq q (Nat.lt_of_lt_of_le h1 hS.1)).trans (hS.2.1 q h1 h2)⟩⟩
    obtain ⟨a1, a2, a3⟩ := w3 j d hj hj0
    refine ⟨a1, by omega, a3.kept (hq _ ?_)⟩
    rw [ab_ad_own G a1]
    omega
end BV
theorem xw_IO : xw RX11 446 450 "java/lang/IndexOutOfBoundsException" := ⟨ab_mem 922 (by decide +kernel) rfl, ab_mem 25 (by decide +kernel) rfl, by decide +kernel, [20, 830, 839, 845, 848, 850, 831, 832, 36, 37, 833, 838, 846, 866, 820, 867, 822, 868, 824, 834, 836, 826, 862, 863, 865, 826, 933, 934, 935, 856, 812, 856, 857, 858, 859, 814, 859, 860, 861, 862, 816, 932, 923, 924, 925, 842, 926, 927, 928, 929, 829, 828, 930], by decide +kernel, by decide +kernel⟩
theorem xw_IA : xw RX11 122 126 "java/lang/IllegalArgumentException" := ⟨ab_mem 808 (by decide +kernel) rfl, ab_mem 23 (by decide +kernel) rfl, by decide +kernel, [20, 830, 839, 845, 848, 850, 831, 832, 36, 37, 833, 838, 846, 866, 820, 867, 822, 868, 824, 834, 836, 826, 862, 863, 865, 826, 853, 854, 855, 856, 812, 856, 857, 858, 859, 814, 859, 860, 861, 862, 816, 852, 809, 810, 817, 818, 819, 821, 823, 825, 829, 828, 827], by decide +kernel, by decide +kernel⟩
theorem xw_UO : xw RX11 132 136 "java/lang/UnsupportedOperationException" := ⟨ab_mem 878 (by decide +kernel) rfl, ab_mem 24 (by decide +kernel) rfl, by decide +kernel, [20, 830, 839, 845, 848, 850, 831, 832, 36, 37, 833, 838, 846, 866, 820, 867, 822, 868, 824, 834, 836, 826, 862, 863, 865, 826, 889, 890, 891, 856, 812, 856, 857, 858, 859, 814, 859, 860, 861, 862, 816, 888, 879, 880, 881, 843, 882, 883, 884, 885, 829, 828, 886], by decide +kernel, by decide +kernel⟩
theorem xw_IS : xw RX11 268 272 "java/lang/IllegalStateException" := ⟨ab_mem 1071 (by decide +kernel) rfl, ab_mem 29 (by decide +kernel) rfl, by decide +kernel, [20, 830, 839, 845, 848, 850, 831, 832, 36, 37, 833, 838, 846, 866, 820, 867, 822, 868, 824, 834, 836, 826, 862, 863, 865, 826, 1082, 1083, 1084, 856, 812, 856, 857, 858, 859, 814, 859, 860, 861, 862, 816, 1081, 1072, 1073, 1074, 841, 1075, 1076, 1077, 1078, 829, 828, 1079], by decide +kernel, by decide +kernel⟩
