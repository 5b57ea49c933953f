/-! ===== constants: strings, kinds, their statics ===== -/
theorem ab_vk (G : ab_G) {k : Nat} (h : k < 3000) : ab_v G (.ref k) = .ref (G.2 k) := by
  show Value.ref (ab_ad G k) = _
  unfold ab_ad
  rw [if_pos h]
section BV
variable {M M' : ab_M} {post post' : ab_P} {cu su pc : Nat} {ls : List (Option Value)} {st rest : List Value} {nx : Nat} {h : ab_H} {J t : List ab_E} {c0 f0 : Nat}
/-- a kind by its static field -/
theorem bv_gsK (i : Nat) {idx : Nat} (hok : ab_cd M 0 J) (hJ : ab_dr pc J = (pc, .getstatic idx, 3, c0, f0) :: t) (hi : i < 29) (hl : Cond.fieldLink M.1.cls idx "DreamFort$Kind" (kcN.getD i "") "LDreamFort$Kind;" ∈ ab_T) (k : ab_V M post cu su (pc + 3) ls (.ref (2000 + i) :: st) nx h) : ab_V M post cu su pc ls st nx h := by
  intro p l e s m args below meth c G D H locs A C hW hS hB hL
  have hK := C.2.2.2.2.2.2.2.2.2.2.2.2.2.2
  have hZ := (hK.2.2.1.1 i hi).1
  have k9 := k p l e s m args below meth c G D H locs A C hW hS hB hL
  rw [List.map_cons, ab_vk G (by omega)] at k9
  exact va_gets C.1 C.2.1 hZ hS C.2.2.2.2.1 (C.2.2.2.2.2.1 _ (List.mem_cons_of_mem _ hl)) (fun _ hx => hx) (ab_dec hok hJ) k9
/-- all kinds -/
theorem bv_gsA {idx : Nat} (hok : ab_cd M 0 J) (hJ : ab_dr pc J = (pc, .getstatic idx, 3, c0, f0) :: t) (hl : Cond.fieldLinkNest M.1.cls idx "DreamFort" "KINDS" "[LDreamFort$Kind;" "DreamFort" ∈ ab_N) (k : ab_V M post cu su (pc + 3) ls (.ref 2100 :: st) nx h) : ab_V M post cu su pc ls st nx h := by
  intro p l e s m args below meth c G D H locs A C hW hS hB hL
  have hK := C.2.2.2.2.2.2.2.2.2.2.2.2.2.2
  have hZ := hK.2.2.2.2.1
  have k9 := k p l e s m args below meth c G D H locs A C hW hS hB hL
  rw [List.map_cons, ab_vk G (by omega)] at k9
  exact va_getsN C.1 C.2.1 hZ hS C.2.2.2.2.1 (va_Nw.use (A := args) rfl (C.2.2.2.2.2.2.2.2.2.2.1 _ hl)) (fun _ hx => hx) (ab_dec hok hJ) k9
theorem bv_lenA (hok : ab_cd M 0 J) (hJ : ab_dr pc J = (pc, .arraylength, 1, c0, f0) :: t) (k : ab_V M post cu su (pc + 1) ls (.int (nI 29) :: st) nx h) : ab_V M post cu su pc ls (.ref 2100 :: st) nx h := by
  intro p l e s m args below meth c G D H locs A C hW hS hB hL
  have hK := C.2.2.2.2.2.2.2.2.2.2.2.2.2.2
  have hT := hK.2.2.2.2.2.1
  rw [List.map_cons, ab_vk G (by omega)]
  exact va_tlen C.1 C.2.1 hT hS rfl (ab_dec hok hJ) (k p l e s m args below meth c G D H locs A C hW hS hB hL)
theorem bv_ldA {i : Nat} (hok : ab_cd M 0 J) (hJ : ab_dr pc J = (pc, .aaload, 1, c0, f0) :: t) (hi : i < 29) (k : ab_V M post cu su (pc + 1) ls (.ref (2000 + i) :: st) nx h) : ab_V M post cu su pc ls (.int (nI i) :: .ref 2100 :: st) nx h := by
  intro p l e s m args below meth c G D H locs A C hW hS hB hL
  have hK := C.2.2.2.2.2.2.2.2.2.2.2.2.2.2
  have hT := hK.2.2.2.2.2.1
  have k9 := k p l e s m args below meth c G D H locs A C hW hS hB hL
  rw [List.map_cons, ab_vk G (by omega)] at k9
  rw [List.map_cons, List.map_cons, ab_vk G (by omega)]
  exact vb_tq C.1 C.2.1 hT hS (i := nI i) (vp_in_nI hi (by omega)) (by rw [nI_clamp (by omega)]) (ab_dec hok hJ) k9
/-- a kind's spelling, its fact -/
theorem bv_gfS {i idx : Nat} (hok : ab_cd M 0 J) (hJ : ab_dr pc J = (pc, .getfield idx, 3, c0, f0) :: t) (hi : i < 29) (hl : Cond.fieldLink M.1.cls idx "DreamFort$Kind" "spelling" "Ljava/lang/String;" ∈ ab_T) (hp : kcP.getD i 0 < 3000) (k : ab_V M post cu su (pc + 3) ls (.ref (kcP.getD i 0) :: st) nx h) : ab_V M post cu su pc ls (.ref (2000 + i) :: st) nx h := by
  intro p l e s m args below meth c G D H locs A C hW hS hB hL
  have hK := C.2.2.2.2.2.2.2.2.2.2.2.2.2.2
  have hE := hK.2.2.2.1
  have k9 := k p l e s m args below meth c G D H locs A C hW hS hB hL
  rw [List.map_cons, ab_vk G hp] at k9
  rw [List.map_cons, ab_vk G (by omega)]
  exact va_getX (ad := fun i => G.2 (2000 + i)) C.1 C.2.1 hE hi hS C.2.2.2.2.1 (C.2.2.2.2.2.1 _ (List.mem_cons_of_mem _ hl)) (fun _ hx => hx) (ab_dec hok hJ) k9
theorem bv_gfF {i idx : Nat} (hok : ab_cd M 0 J) (hJ : ab_dr pc J = (pc, .getfield idx, 3, c0, f0) :: t) (hi : i < 29) (hl : Cond.fieldLinkNest M.1.cls idx "DreamFort$Kind" "fact" "I" "DreamFort" ∈ ab_N) (k : ab_V M post cu su (pc + 3) ls (.int ((kcF.getD 1 ("", "", "", [])).2.2.2.getD i 0) :: st) nx h) : ab_V M post cu su pc ls (.ref (2000 + i) :: st) nx h := by
  intro p l e s m args below meth c G D H locs A C hW hS hB hL
  have hK := C.2.2.2.2.2.2.2.2.2.2.2.2.2.2
  have hE := (hK.2.2.1.1 i hi).2.2 (kcF.getD 1 ("", "", "", [])) (by decide)
  rw [List.map_cons, ab_vk G (by omega)]
  obtain ⟨cf, kk, fi, f, cell, h1, h2, h3, h4, h5, h6⟩ := hE.kept hS.2.1
  exact va_Wgetf C.1 C.2.1 C.2.2.2.2.1 (va_Nw.use (A := args) rfl (C.2.2.2.2.2.2.2.2.2.2.1 _ hl)) h1 h2 h3 h4 h5 rfl rfl (ab_dec hok hJ) (k p l e s m args below meth c G D H locs A C hW hS hB hL)
/-- two kinds are one only if their numbers are -/
theorem bv_acne {i j : Nat} {off : Int} {tgt : Nat} (hok : ab_cd M 0 J) (hJ : ab_dr pc J = (pc, .if_acmp .ne off, 3, c0, f0) :: t) (ht : (pc : Int) + off = (tgt : Int)) (hi : i < 29) (hj : j < 29) (kt : i ≠ j → ab_V M post cu su tgt ls st nx h) (kf : i = j → ab_V M post cu su (pc + 3) ls st nx h) : ab_V M post cu su pc ls (.ref (2000 + j) :: .ref (2000 + i) :: st) nx h := by
  intro p l e s m args below meth c G D H locs A C hW hS hB hL
  have hK := C.2.2.2.2.2.2.2.2.2.2.2.2.2.2
  rw [List.map_cons, List.map_cons, ab_vk G (by omega), ab_vk G (by omega)]
  refine lv_acmp_ne (rx := some (G.2 (2000 + i))) (ry := some (G.2 (2000 + j))) C.1 C.2.1 (ab_dec hok hJ) ht (fun q => kt (fun z => q (by rw [z])) p l e s m args below meth c G D H locs A C hW hS hB hL) (fun q => kf (hK.2.2.1.2 i j hi hj (Option.some.inj q)) p l e s m args below meth c G D H locs A C hW hS hB hL)
theorem bv_aceq {i j : Nat} {off : Int} {tgt : Nat} (hok : ab_cd M 0 J) (hJ : ab_dr pc J = (pc, .if_acmp .eq off, 3, c0, f0) :: t) (ht : (pc : Int) + off = (tgt : Int)) (hi : i < 29) (hj : j < 29) (kt : i = j → ab_V M post cu su tgt ls st nx h) (kf : i ≠ j → ab_V M post cu su (pc + 3) ls st nx h) : ab_V M post cu su pc ls (.ref (2000 + j) :: .ref (2000 + i) :: st) nx h := by
  intro p l e s m args below meth c G D H locs A C hW hS hB hL
  have hK := C.2.2.2.2.2.2.2.2.2.2.2.2.2.2
  rw [List.map_cons, List.map_cons, ab_vk G (by omega), ab_vk G (by omega)]
  refine lv_acmp_eq (rx := some (G.2 (2000 + i))) (ry := some (G.2 (2000 + j))) C.1 C.2.1 (ab_dec hok hJ) ht (fun q => kt (hK.2.2.1.2 i j hi hj (Option.some.inj q)) p l e s m args below meth c G D H locs A C hW hS hB hL) (fun q => kf (fun z => q (by rw [z])) p l e s m args below meth c G D H locs A C hW hS hB hL)
/-- rows of references -/
theorem bv_aald {a kd n i b : Nat} {f : Nat → Option Nat} (hok : ab_cd M 0 J) (hJ : ab_dr pc J = (pc, .aaload, 1, c0, f0) :: t) (hkd : kd = 4 ∨ kd = 5) (ha : h a = some (.inr (kd, n, .inr (.inr f)))) (hi : i < n) (hn : n < 2 ^ 31) (hf : f i = some b) (k : ab_V M post cu su (pc + 1) ls (.ref b :: st) nx h) : ab_V M post cu su pc ls (.int (nI i) :: .ref a :: st) nx h := by
  intro p l e s m args below meth c G D H locs A C hW hS hB hL
  obtain ⟨a1, a2, a3⟩ := hW.own ha (by rcases hkd with rfl | rfl <;> rfl)
  have hK := C.2.2.2.2.2.2.2.2.2.2.2.1
  have hlt : (nI i).toNatClampNeg < n := by rw [nI_clamp (by omega)]; exact hi
  have hin : vp_in (nI i) n := vp_in_nI hi hn
  have k9 := k p l e s m args below meth c G D H locs A C hW hS hB hL
  have hv : va_rf ((f (nI i).toNatClampNeg).map (ab_ad G)) = .ref (ab_ad G b) := by rw [nI_clamp (by omega), hf]; rfl
  rcases hkd with rfl | rfl
  · exact W.aald (v := .ref (ab_ad G b)) (ty := .object "DreamFort$Kind") C.1 C.2.1 a3 ((hK.2 4 _ rfl).1 n (fun j => va_rf ((f j).map (ab_ad G)))) rfl (fun q => by cases q) (by rw [arrV_size]; exact hin) (by rw [arrV_read _ _ hlt, hv]) rfl rfl (ab_dec hok hJ) k9
  · exact W.aald (v := .ref (ab_ad G b)) (ty := .object "DreamFort$Fort") C.1 C.2.1 a3 ((hK.2 5 _ rfl).1 n (fun j => va_rf ((f j).map (ab_ad G)))) rfl (fun q => by cases q) (by rw [arrV_size]; exact hin) (by rw [arrV_read _ _ hlt, hv]) rfl rfl (ab_dec hok hJ) k9
def updQ (f : Nat → Option Nat) (i : Nat) (v : Option Nat) : Nat → Option Nat := fun j => if j = i then v else f j
theorem ab_storeQ (G : ab_G) {cA : ClassId} {n i v : Nat} {f : Nat → Option Nat} : (arrV cA n (fun j => va_rf ((f j).map (ab_ad G)))).setSlot i (.ref (ab_ad G v)) = arrV cA n (fun j => va_rf ((updQ f i (some v) j).map (ab_ad G))) := by
  rw [arrV_store]
  congr 2
  funext q
  by_cases hq : q = i
  · subst hq
    simp [updV, updQ, va_rf]
  · simp [updV, updQ, hq]
/-- a kind into a row of kinds -/
theorem bv_aastK {a n i v : Nat} {f : Nat → Option Nat} (hok : ab_cd M 0 J) (hJ : ab_dr pc J = (pc, .aastore, 1, c0, f0) :: t) (ha : h a = some (.inr (4, n, .inr (.inr f)))) (hi : i < n) (hn : n < 2 ^ 31) (hv : v < 29) (k : ab_V M post cu su (pc + 1) ls st nx (ab_up h a (.inr (4, n, .inr (.inr (updQ f i (some (2000 + v)))))))) : ab_V M post cu su pc ls (.ref (2000 + v) :: .int (nI i) :: .ref a :: st) nx h := by
  intro p l e s m args below meth c G D H locs A C hW hS hB hL
  obtain ⟨a1, a2, a3⟩ := hW.own ha rfl
  have hK := C.2.2.2.2.2.2.2.2.2.2.2.1
  have hC := C.2.2.2.2.2.2.2.2.2.2.2.2.2.2
  have hlt : (nI i).toNatClampNeg < n := by rw [nI_clamp (by omega)]; exact hi
  obtain ⟨cellV, g1, g3, g4⟩ := va_recvE hC.2.2.1 (i := v) hv hS
  have g1 : H[ab_ad G (2000 + v)]? = some cellV := by unfold ab_ad; rw [if_pos (by omega)]; exact g1
  obtain ⟨kA, comp, k1, k2, k3, -⟩ := (hK.2 4 _ rfl).2
  obtain ⟨kE, hkE, -⟩ := Vm.findClass_spec k3
  have ecl : cellV.cls = comp := Option.some.inj (g4.symm.trans k3)
  have hAa : ab_A G (ab_ad G a) := by rw [ab_ad_own G a1]; exact Nat.le_add_right _ _
  refine W.aast C.1 C.2.1 a3 (fun q h => by cases h) (fun h => by cases h) k1 k2 rfl hkE ⟨nI_pos (by omega), by rw [arrV_size]; exact hlt⟩ g1 (fun q h => by rw [h] at g3; cases g3) (by rw [ecl]; exact hkE) (by rw [ecl]; exact va_asg _ _) rfl rfl (ab_dec hok hJ) fun H1 e1 z oq => ?_
  rw [nI_clamp (by omega), ab_storeQ] at e1
  exact k p l e s m args below meth c G D H1 _ A C (hW.up a1 a2 z oq e1) (hS.put z oq hAa) hB hL
/-- an answer of some other narrow type -/
theorem bv_nret {v : Int32} {ty : FieldType} (hok : ab_cd M 0 J) (hJ : ab_dr pc J = (pc, .ireturn, 1, c0, f0) :: t) (hr : M.2.2.2.1 = some ty) (hv : narrow ty (.int v) = .int v) (hc : cu ≤ M.2.2.2.2.2.1) (hs : su ≤ M.2.2.2.2.2.2) (k : post (.inl (some (.int v))) nx h) : ab_V M post cu su pc ls [.int v] nx h := by
  intro p l e s m args below meth c G D H locs A C hW hS hB hL
  refine W.widen (k := M.2.2.2.2.2.1) (n := M.2.2.2.2.2.2) hc hs ?_
  have hlocks := C.2.2.2.2.2.2.1
  exact vx_ret (W.zret (v := v) C.1 C.2.1 (C.2.2.1.trans hr) hv (fun t ht hWm => ⟨⟨some (.int v), nx, h, rfl, k, by rw [ht]; exact hW⟩, hS.F ht⟩) hS.2.2 (ab_dec hok hJ))
/-- a call upon a constant that changes nothing -/
theorem bv_vC {idx b : Nat} {As : List Value} {v : Value} (hcon : ab_Con M' (.ref b :: As) nx h (ab_an v nx h)) (hok : ab_cd M 0 J) (hJ : ab_dr pc J = (pc, .invokevirtual idx, 3, c0, f0) :: t) (hl : ab_lv M.1.cls idx M' As.length) (hb : b < 48 ∧ M'.1.cls = "java/lang/String" ∨ ∃ i, i < 29 ∧ b = 2000 + i ∧ M'.1.cls = "DreamFort$Kind") (hf : ab_fitb M M' cu su rest = true) (hz : M'.2.2.2.2.2 = (0, 0)) (hst : st = As.reverse ++ .ref b :: rest)
    (k : ab_V M post cu su (pc + 3) ls (v :: rest) nx h) : ab_V M post cu su pc ls st nx h := by
  subst hst
  intro p l e s m args below meth c G D H locs A C hW hS hB hL
  obtain ⟨f1, f2, f3, f4, f5⟩ := ab_fit_of hf
  have kk : ∀ r nx' h', ab_an v nx h r nx' h' → ab_K1 M M' post cu su pc ls rest r nx' h' := by
    rintro _ _ _ ⟨rfl, rfl, rfl⟩
    show ab_V M post (cu + M'.2.2.2.2.2.1) (su + M'.2.2.2.2.2.2) (pc + 3) ls (v :: rest) _ _
    rw [hz]
    exact k
  refine ab_back (a := #[]) C hS hB hL f3 f4 ?_ kk
  obtain ⟨hw, hy1, hy2, hy3⟩ := hl
  have hw := ab_all hw
  have hts := C.2.2.2.2.2.1
  have hTs : GoodIn (ab_ws M.1 M.2.1 M.2.2.1 M.2.2.2.1) (wsV M.1.cls idx M'.1.cls M'.1 (ab_ws M'.1 M'.2.1 M'.2.2.1 M'.2.2.2.1)) := ab_good (fun w hw' => by
    rcases List.mem_append.mp hw' with q | q
    · exact hw w (by simp only [List.mem_cons, List.not_mem_nil, or_false] at q ⊢; rcases q with q | q | q | q <;> simp [q])
    · exact ab_ws_sub (hw _ (by simp)) w q)
  have cw := cwV (R := ab_rm M) (rm := ab_rm M') (mc := M'.2.2.2.2.2.1) (ms := M'.2.2.2.2.2.2) (args := args) (s := s) As.length hts hTs rfl rfl rfl ⟨rfl, hy1, hy2, hy3⟩ ⟨f1, by show 8 + (M'.2.2.1 + 11) + 100 * M'.2.2.2.2.1 ≤ 100 * M.2.2.2.2.1; omega⟩
  have hK := C.2.2.2.2.2.2.2.2.2.2
  have hrc : ∃ cellB : Cell, H[ab_ad G b]? = some cellB ∧ cellB.vm.isStatics = false ∧ s.vm.findClass M'.1.cls = some cellB.cls := by
    rcases hb with ⟨hb, hc⟩ | ⟨i, hi, rfl, hc⟩
    · rw [hc]
      unfold ab_ad
      rw [if_pos (by omega)]
      exact va_Orecv (hK.2.2.2.2.2.1 b hb).1 hS
    · rw [hc]
      unfold ab_ad
      rw [if_pos (by omega)]
      exact va_Orecv (hK.2.2.2.2.2.2.1.1 i hi).2.1 hS
  have hpre : PreV s H M'.1.cls (ab_ad G b) (ab_Pc G D (.ref b :: As) nx h) (As.map (ab_v G)) := ⟨ab_blind _ _ _ _ _, hrc, fun U hU hWm => ⟨rfl, by rw [hU]; exact hW, hK.next hWm (fun a h1 h2 => by rw [hU]; exact hS.2.1 a h1 h2)⟩⟩
  have hr9 := vx_runV (e := e) (below := below) (meth := meth) (locs := locs) (cells := cu) (slots := su) (g := F0 m pc A ((As.reverse ++ .ref b :: rest).map (ab_v G))) (As := As.map (ab_v G)) (rest := rest.map (ab_v G)) (b := ab_ad G b) (Ts := ab_ws M.1 M.2.1 M.2.2.1 M.2.2.2.1) ⟨C.1, C.2.1, C.2.2.2.1, C.2.2.2.2.1, hts⟩ (hcon l G D C.2.2.2.2.2.2.2.2.2.1) cw hpre rfl (by simp) hL.1 (by simp; rfl) (lv_room (by rw [ab_cat]; exact f5)) (ab_dec hok hJ) ⟨f3, f4⟩
  exact hr9
/-- strings: the statics of the JDK, the fields -/
theorem bv_gsC {idx : Nat} (hok : ab_cd M 0 J) (hJ : ab_dr pc J = (pc, .getstatic idx, 3, c0, f0) :: t) (hl : Cond.fieldLink M.1.cls idx "java/lang/String" "COMPACT_STRINGS" "Z" ∈ ab_T) (k : ab_V M post cu su (pc + 3) ls (.int (nI 1) :: st) nx h) : ab_V M post cu su pc ls st nx h := by
  intro p l e s m args below meth c G D H locs A C hW hS hB hL
  have hK := C.2.2.2.2.2.2.2.2.2.2.2.2.2.2
  exact va_gets C.1 C.2.1 hK.2.2.2.2.2.2.1 hS C.2.2.2.2.1 (C.2.2.2.2.2.1 _ (List.mem_cons_of_mem _ hl)) (fun _ hx => hx) (ab_dec hok hJ) (k p l e s m args below meth c G D H locs A C hW hS hB hL)
theorem bv_gsF {idx : Nat} (hok : ab_cd M 0 J) (hJ : ab_dr pc J = (pc, .getstatic idx, 3, c0, f0) :: t) (hl : Cond.fieldLink M.1.cls idx "jdk/internal/util/Preconditions" "SIOOBE_FORMATTER" "Ljava/util/function/BiFunction;" ∈ ab_T) (k0 : ab_V M post cu su (pc + 3) ls (.null :: st) nx h) (k1 : ab_V M post cu su (pc + 3) ls (.ref 2200 :: st) nx h) : ab_V M post cu su pc ls st nx h := by
  intro p l e s m args below meth c G D H locs A C hW hS hB hL
  have hK := C.2.2.2.2.2.2.2.2.2.2.2.2.2.2
  rcases hK.2.2.2.2.2.2.2.2.1 with hZ | hZ
  · exact va_gets C.1 C.2.1 hZ hS C.2.2.2.2.1 (C.2.2.2.2.2.1 _ (List.mem_cons_of_mem _ hl)) (fun _ hx => hx) (ab_dec hok hJ) (k0 p l e s m args below meth c G D H locs A C hW hS hB hL)
  · have k9 := k1 p l e s m args below meth c G D H locs A C hW hS hB hL
    rw [List.map_cons, ab_vk G (by omega)] at k9
    exact va_gets C.1 C.2.1 hZ hS C.2.2.2.2.1 (C.2.2.2.2.2.1 _ (List.mem_cons_of_mem _ hl)) (fun _ hx => hx) (ab_dec hok hJ) k9
theorem bv_gfV {i idx : Nat} (hok : ab_cd M 0 J) (hJ : ab_dr pc J = (pc, .getfield idx, 3, c0, f0) :: t) (hi : i < 48) (hl : Cond.fieldLink M.1.cls idx "java/lang/String" "value" "[B" ∈ ab_T) (k : ab_V M post cu su (pc + 3) ls (.ref (1000 + i) :: st) nx h) : ab_V M post cu su pc ls (.ref i :: st) nx h := by
  intro p l e s m args below meth c G D H locs A C hW hS hB hL
  have hK := C.2.2.2.2.2.2.2.2.2.2.2.2.2.2
  have k9 := k p l e s m args below meth c G D H locs A C hW hS hB hL
  rw [List.map_cons, ab_vk G (by omega)] at k9
  rw [List.map_cons, ab_vk G (by omega)]
  obtain ⟨cf, kk, fi, f, cell, h1, h2, h3, h4, h5, h6⟩ := (hK.2.1 i hi).2.2.1.kept hS.2.1
  exact W.getf C.1 C.2.1 C.2.2.2.2.1 (C.2.2.2.2.2.1 _ (List.mem_cons_of_mem _ hl)) h1 h2 h3 h4 (v := .ref (G.2 (1000 + i))) h5 rfl rfl (ab_dec hok hJ) k9
theorem bv_gfC {i idx : Nat} (hok : ab_cd M 0 J) (hJ : ab_dr pc J = (pc, .getfield idx, 3, c0, f0) :: t) (hi : i < 48) (hl : Cond.fieldLink M.1.cls idx "java/lang/String" "coder" "B" ∈ ab_T) (k : ab_V M post cu su (pc + 3) ls (.int (nI 0) :: st) nx h) : ab_V M post cu su pc ls (.ref i :: st) nx h := by
  intro p l e s m args below meth c G D H locs A C hW hS hB hL
  have hK := C.2.2.2.2.2.2.2.2.2.2.2.2.2.2
  rw [List.map_cons, ab_vk G (by omega)]
  obtain ⟨cf, kk, fi, f, cell, h1, h2, h3, h4, h5, h6⟩ := (hK.2.1 i hi).2.1.kept hS.2.1
  exact W.getf C.1 C.2.1 C.2.2.2.2.1 (C.2.2.2.2.2.1 _ (List.mem_cons_of_mem _ hl)) h1 h2 h3 h4 (v := .int 0) h5 rfl rfl (ab_dec hok hJ) (k p l e s m args below meth c G D H locs A C hW hS hB hL)
theorem bv_lenB {i : Nat} (hok : ab_cd M 0 J) (hJ : ab_dr pc J = (pc, .arraylength, 1, c0, f0) :: t) (hi : i < 48) (k : ab_V M post cu su (pc + 1) ls (.int (nI (kcT.getD i []).length) :: st) nx h) : ab_V M post cu su pc ls (.ref (1000 + i) :: st) nx h := by
  intro p l e s m args below meth c G D H locs A C hW hS hB hL
  have hK := C.2.2.2.2.2.2.2.2.2.2.2.2.2.2
  rw [List.map_cons, ab_vk G (by omega)]
  exact va_tlen C.1 C.2.1 (hK.2.1 i hi).2.2.2 hS rfl (ab_dec hok hJ) (k p l e s m args below meth c G D H locs A C hW hS hB hL)
theorem bv_ldB {i j : Nat} (hok : ab_cd M 0 J) (hJ : ab_dr pc J = (pc, .baload, 1, c0, f0) :: t) (hi : i < 48) (hj : j < (kcT.getD i []).length) (hj2 : (kcT.getD i []).length < 2 ^ 31) (k : ab_V M post cu su (pc + 1) ls (.int ((kcT.getD i []).getD j 0) :: st) nx h) : ab_V M post cu su pc ls (.int (nI j) :: .ref (1000 + i) :: st) nx h := by
  intro p l e s m args below meth c G D H locs A C hW hS hB hL
  have hK := C.2.2.2.2.2.2.2.2.2.2.2.2.2.2
  rw [List.map_cons, List.map_cons, ab_vk G (by omega)]
  exact va_tb C.1 C.2.1 (hK.2.1 i hi).2.2.2 hS (i := nI j) (v := .int ((kcT.getD i []).getD j 0)) (vp_in_nI hj hj2) (by rw [nI_clamp (by omega)]) (ab_dec hok hJ) (k p l e s m args below meth c G D H locs A C hW hS hB hL)
/-- a string by its place -/
theorem bv_ldS (tx : String) (i : Nat) {idx : Nat} (hok : ab_cd M 0 J) (hJ : ab_dr pc J = (pc, .ldc idx, 2, c0, f0) :: t) (hi : i < 3000) (hl : (M.1.cls, idx, tx, i) ∈ kcS) (k : ab_V M post cu su (pc + 2) ls (.ref i :: st) nx h) : ab_V M post cu su pc ls st nx h := by
  intro p l e s m args below meth c G D H locs A C hW hS hB hL
  have hK := C.2.2.2.2.2.2.2.2.2.2.2.2.2.2
  have k9 := k p l e s m args below meth c G D H locs A C hW hS hB hL
  rw [List.map_cons, ab_vk G hi] at k9
  exact va_ldcS C.1 C.2.1 C.2.2.2.2.1 (hK.1 _ hl) (ab_dec hok hJ) k9
/-- the script: how long, what it holds -/
theorem bv_ldX {n i : Nat} {f : Nat → Int32} (hok : ab_cd M 0 J) (hJ : ab_dr pc J = (pc, .iaload, 1, c0, f0) :: t) (ha : h 2300 = some (.inr (7, n, .inl f))) (hi : i < n) (hn : n < 2 ^ 31) (k : ab_V M post cu su (pc + 1) ls (.int (f i) :: st) nx h) : ab_V M post cu su pc ls (.int (nI i) :: .ref 2300 :: st) nx h := by
  intro p l e s m args below meth c G D H locs A C hW hS hB hL
  have hK := C.2.2.2.2.2.2.2.2.2.2.2.2.2.2
  have hX := hK.2.2.2.2.2.2.2.2.2.2.2
  have e9 := hW.2.2.2 _ ha
  unfold ab_scr at e9
  injection e9 with e9
  injection e9 with e8 e9
  injection e9 with e7 e9
  injection e9 with e9
  have k9 := k p l e s m args below meth c G D H locs A C hW hS hB hL
  rw [List.map_cons, List.map_cons, ab_vk G (by omega)]
  have hi' : i < G.2 3000 := by omega
  rw [List.map_cons, e9] at k9
  refine va_sld C.1 C.2.1 hX.1 hX.2.1 hX.2.2 hS (i := nI i) (vp_in_nI hi' (by omega)) (ab_dec hok hJ) ?_
  rw [nI_clamp (by omega)]
  exact k9
theorem bv_lenX {n : Nat} {f : Nat → Int32} (hok : ab_cd M 0 J) (hJ : ab_dr pc J = (pc, .arraylength, 1, c0, f0) :: t) (ha : h 2300 = some (.inr (7, n, .inl f))) (k : ab_V M post cu su (pc + 1) ls (.int (nI n) :: st) nx h) : ab_V M post cu su pc ls (.ref 2300 :: st) nx h := by
  intro p l e s m args below meth c G D H locs A C hW hS hB hL
  have hK := C.2.2.2.2.2.2.2.2.2.2.2.2.2.2
  have hX := hK.2.2.2.2.2.2.2.2.2.2.2
  have e9 := hW.2.2.2 _ ha
  unfold ab_scr at e9
  injection e9 with e9
  injection e9 with e8 e9
  injection e9 with e7 e9
  have k9 := k p l e s m args below meth c G D H locs A C hW hS hB hL
  rw [e7] at k9
  rw [List.map_cons, ab_vk G (by omega)]
  exact va_slen C.1 C.2.1 hX.1 hX.2.1 hX.2.2 hS (ab_dec hok hJ) k9
end BV
