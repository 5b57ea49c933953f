/-! ===== what constructors do ===== -/
section BV
variable {M M' : ab_M} {post post' : ab_P} {cu su pc : Nat} {ls : List (Option Value)} {st rest : List Value} {nx : Nat} {h : ab_H} {J t : List ab_E} {c0 f0 : Nat}
theorem ab_ad_nx {G : ab_G} {D : ab_D} {H : Heap} (hW : ab_W G D nx h H) : ab_ad G nx = H.size := by
  have h1 := hW.1
  have h2 := hW.2.1
  rw [ab_ad_own G h1]
  omega
theorem va_S_new {A : Nat → Prop} {H0 H H1 : Heap} {locs : List Loc} (hS : va_S A H0 H locs) (z1 : H1.size = H.size + 1) (o1 : ∀ q : Nat, q < H.size → H1[q]? = H[q]?) : va_S A H0 H1 locs :=
  ⟨Nat.le_trans hS.1 (by omega), fun x h1 h2 => (o1 x (Nat.lt_of_lt_of_le h1 hS.1)).trans (hS.2.1 x h1 h2), hS.2.2⟩
theorem bv_new {idx ci N : Nat} {C0 : String} {T : u_T} {fs : List Value} (hok : ab_cd M 0 J) (hJ : ab_dr pc J = (pc, .new idx, 3, c0, f0) :: t) (hci : vwCl[ci]? = some (C0, T, N)) (hl : Cond.classLink M.1.cls idx C0 ∈ ab_T) (hi : Cond.instantiable C0 N ∈ ab_T) (hn : Cond.initialized C0 ∈ ab_T) (ty : Nat → FieldType) (hty : ∀ k, k < N → parseFieldDescriptor (T k).2.2.1 = some (ty k)) (hfs : ∀ j, j < N → defaultValue (ty j) = vp_V fs j) (hz : ∀ G : ab_G, fs.map (ab_v G) = fs) (hc : Nat.ble (cu + 1) M.2.2.2.2.2.1 = true) (hs : Nat.ble (su + N) M.2.2.2.2.2.2 = true)
    (k : ab_V M post (cu + 1) (su + N) (pc + 3) ls (.ref nx :: st) (nx + 1) (ab_up h nx (.inl (ci, fs)))) : ab_V M post cu su pc ls st nx h := by
  intro p l e s m args below meth c G D H locs A C hW hS hB hL
  have hts := C.2.2.2.2.2.1
  have hK := C.2.2.2.2.2.2.2.2.2.2
  have hT : ∀ w, w ∈ ab_T → w.before args s = true := fun w hw => hts w (List.mem_cons_of_mem _ hw)
  have hKn := hK.2.1.1 ci _ hci
  refine W.newcK C.1 C.2.1 C.2.2.2.2.1 (hT _ hl) (hT _ hi) (hT _ hn) rfl (ab_dec hok hJ) (Nat.le_of_ble_eq_true hc) (Nat.le_of_ble_eq_true hs) hKn.2.1 rfl fun H1 kC hkC e1 z1 o1 => ?_
  have e2 : (Value.ref H.size :: st.map (ab_v G)) = (.ref nx :: st).map (ab_v G) := by rw [List.map_cons, ab_v_ref, ab_ad_nx hW]
  show W p l e (ab_rm M) s m args below meth c H1 locs (cu + 1) (su + N) _ (F0 m (pc + 3) A (Value.ref H.size :: st.map (ab_v G)))
  rw [e2]
  refine k p l e s m args below meth c G D H1 locs A C (hW.new z1 o1 ⟨_, hci, ?_⟩) (va_S_new hS z1 o1) hB hL
  show t_OB H.size (D.1.1 ci) N (D.1.2 ci) H1 (vp_V (fs.map (ab_v G)))
  rw [hz G]
  exact (u_born ty hts (fun w hw => List.mem_cons_of_mem _ ((ab_cls hci).1 w hw)) hKn hkC e1 hty).to hfs
theorem bv_newI {n : Nat} (hok : ab_cd M 0 J) (hJ : ab_dr pc J = (pc, .newarray .int, 2, c0, f0) :: t) (hl : Cond.arrayClass .int ∈ ab_T) (hn : n < 2 ^ 20) (hc : Nat.ble (cu + 1) M.2.2.2.2.2.1 = true) (hs : Nat.ble (su + n) M.2.2.2.2.2.2 = true)
    (k : ab_V M post (cu + 1) (su + n) (pc + 2) ls (.ref nx :: st) (nx + 1) (ab_up h nx (.inr (0, n, .inl (fun _ => nI 0))))) : ab_V M post cu su pc ls (.int (nI n) :: st) nx h := by
  intro p l e s m args below meth c G D H locs A C hW hS hB hL
  have hts := C.2.2.2.2.2.1
  have hK := C.2.2.2.2.2.2.2.2.2.2
  refine va_newaK (atype := .int) C.1 C.2.1 (hts _ (List.mem_cons_of_mem _ hl)) rfl (ab_dec hok hJ) rfl (nI_pos (by omega)) (nI_clamp (by omega)) (by show n * 4 ≤ _; omega) (Nat.le_of_ble_eq_true hc) (Nat.le_of_ble_eq_true hs) rfl fun H1 cA e1 z1 o1 hAr hNm => ?_
  have hcA : cA = D.2 0 := Option.some.inj (hNm.symm.trans (hK.2.1.2 0 (D.2 0, .int) rfl).2)
  subst hcA
  have e2 : (Value.ref H.size :: st.map (ab_v G)) = (.ref nx :: st).map (ab_v G) := by rw [List.map_cons, ab_v_ref, ab_ad_nx hW]
  show W p l e (ab_rm M) s m args below meth c H1 locs (cu + 1) (su + n) _ (F0 m (pc + 2) A (Value.ref H.size :: st.map (ab_v G)))
  rw [e2]
  exact k p l e s m args below meth c G D H1 locs A C (hW.new z1 o1 e1) (va_S_new hS z1 o1) hB hL
theorem bv_newB {n : Nat} (hok : ab_cd M 0 J) (hJ : ab_dr pc J = (pc, .newarray .byte, 2, c0, f0) :: t) (hl : Cond.arrayClass .byte ∈ ab_T) (hn : n < 2 ^ 20) (hc : Nat.ble (cu + 1) M.2.2.2.2.2.1 = true) (hs : Nat.ble (su + n) M.2.2.2.2.2.2 = true)
    (k : ab_V M post (cu + 1) (su + n) (pc + 2) ls (.ref nx :: st) (nx + 1) (ab_up h nx (.inr (1, n, .inl (fun _ => nI 0))))) : ab_V M post cu su pc ls (.int (nI n) :: st) nx h := by
  intro p l e s m args below meth c G D H locs A C hW hS hB hL
  have hts := C.2.2.2.2.2.1
  have hK := C.2.2.2.2.2.2.2.2.2.2
  refine va_newaK (atype := .byte) C.1 C.2.1 (hts _ (List.mem_cons_of_mem _ hl)) rfl (ab_dec hok hJ) rfl (nI_pos (by omega)) (nI_clamp (by omega)) (by show n * 1 ≤ _; omega) (Nat.le_of_ble_eq_true hc) (Nat.le_of_ble_eq_true hs) rfl fun H1 cA e1 z1 o1 hAr hNm => ?_
  have hcA : cA = D.2 1 := Option.some.inj (hNm.symm.trans (hK.2.1.2 1 (D.2 1, .byte) rfl).2)
  subst hcA
  have e2 : (Value.ref H.size :: st.map (ab_v G)) = (.ref nx :: st).map (ab_v G) := by rw [List.map_cons, ab_v_ref, ab_ad_nx hW]
  show W p l e (ab_rm M) s m args below meth c H1 locs (cu + 1) (su + n) _ (F0 m (pc + 2) A (Value.ref H.size :: st.map (ab_v G)))
  rw [e2]
  exact k p l e s m args below meth c G D H1 locs A C (hW.new z1 o1 e1) (va_S_new hS z1 o1) hB hL
theorem bv_newZ {n : Nat} (hok : ab_cd M 0 J) (hJ : ab_dr pc J = (pc, .newarray .boolean, 2, c0, f0) :: t) (hl : Cond.arrayClass .boolean ∈ ab_T) (hn : n < 2 ^ 20) (hc : Nat.ble (cu + 1) M.2.2.2.2.2.1 = true) (hs : Nat.ble (su + n) M.2.2.2.2.2.2 = true)
    (k : ab_V M post (cu + 1) (su + n) (pc + 2) ls (.ref nx :: st) (nx + 1) (ab_up h nx (.inr (2, n, .inl (fun _ => nI 0))))) : ab_V M post cu su pc ls (.int (nI n) :: st) nx h := by
  intro p l e s m args below meth c G D H locs A C hW hS hB hL
  have hts := C.2.2.2.2.2.1
  have hK := C.2.2.2.2.2.2.2.2.2.2
  refine va_newaK (atype := .boolean) C.1 C.2.1 (hts _ (List.mem_cons_of_mem _ hl)) rfl (ab_dec hok hJ) rfl (nI_pos (by omega)) (nI_clamp (by omega)) (by show n * 1 ≤ _; omega) (Nat.le_of_ble_eq_true hc) (Nat.le_of_ble_eq_true hs) rfl fun H1 cA e1 z1 o1 hAr hNm => ?_
  have hcA : cA = D.2 2 := Option.some.inj (hNm.symm.trans (hK.2.1.2 2 (D.2 2, .boolean) rfl).2)
  subst hcA
  have e2 : (Value.ref H.size :: st.map (ab_v G)) = (.ref nx :: st).map (ab_v G) := by rw [List.map_cons, ab_v_ref, ab_ad_nx hW]
  show W p l e (ab_rm M) s m args below meth c H1 locs (cu + 1) (su + n) _ (F0 m (pc + 2) A (Value.ref H.size :: st.map (ab_v G)))
  rw [e2]
  exact k p l e s m args below meth c G D H1 locs A C (hW.new z1 o1 e1) (va_S_new hS z1 o1) hB hL
theorem bv_newL {n : Nat} (hok : ab_cd M 0 J) (hJ : ab_dr pc J = (pc, .newarray .long, 2, c0, f0) :: t) (hl : Cond.arrayClass .long ∈ ab_T) (hn : n < 2 ^ 20) (hc : Nat.ble (cu + 1) M.2.2.2.2.2.1 = true) (hs : Nat.ble (su + n) M.2.2.2.2.2.2 = true)
    (k : ab_V M post (cu + 1) (su + n) (pc + 2) ls (.ref nx :: st) (nx + 1) (ab_up h nx (.inr (3, n, .inr (.inl (fun _ => 0)))))) : ab_V M post cu su pc ls (.int (nI n) :: st) nx h := by
  intro p l e s m args below meth c G D H locs A C hW hS hB hL
  have hts := C.2.2.2.2.2.1
  have hK := C.2.2.2.2.2.2.2.2.2.2
  refine va_newaK (atype := .long) C.1 C.2.1 (hts _ (List.mem_cons_of_mem _ hl)) rfl (ab_dec hok hJ) rfl (nI_pos (by omega)) (nI_clamp (by omega)) (by show n * 8 ≤ _; omega) (Nat.le_of_ble_eq_true hc) (Nat.le_of_ble_eq_true hs) rfl fun H1 cA e1 z1 o1 hAr hNm => ?_
  have hcA : cA = D.2 3 := Option.some.inj (hNm.symm.trans (hK.2.1.2 3 (D.2 3, .long) rfl).2)
  subst hcA
  have e2 : (Value.ref H.size :: st.map (ab_v G)) = (.ref nx :: st).map (ab_v G) := by rw [List.map_cons, ab_v_ref, ab_ad_nx hW]
  show W p l e (ab_rm M) s m args below meth c H1 locs (cu + 1) (su + n) _ (F0 m (pc + 2) A (Value.ref H.size :: st.map (ab_v G)))
  rw [e2]
  exact k p l e s m args below meth c G D H1 locs A C (hW.new z1 o1 e1) (va_S_new hS z1 o1) hB hL
theorem bv_newQ {n idx kd : Nat} {C0 : String} (hkd : (kd = 4 ∧ C0 = "DreamFort$Kind") ∨ (kd = 5 ∧ C0 = "DreamFort$Fort")) (hok : ab_cd M 0 J) (hJ : ab_dr pc J = (pc, .anewarray idx, 3, c0, f0) :: t) (hl : Cond.classLink M.1.cls idx C0 ∈ ab_T) (hn : n < 2 ^ 20) (hc : Nat.ble (cu + 1) M.2.2.2.2.2.1 = true) (hs : Nat.ble (su + n) M.2.2.2.2.2.2 = true)
    (k : ab_V M post (cu + 1) (su + n) (pc + 3) ls (.ref nx :: st) (nx + 1) (ab_up h nx (.inr (kd, n, .inr (.inr (fun _ => none)))))) : ab_V M post cu su pc ls (.int (nI n) :: st) nx h := by
  intro p l e s m args below meth c G D H locs A C hW hS hB hL
  have hts := C.2.2.2.2.2.1
  have hK := C.2.2.2.2.2.2.2.2.2.2
  have hao : va_AO C0 s := by
    rcases hkd with ⟨-, rfl⟩ | ⟨-, rfl⟩
    · exact hK.2.2.2.2.2.2.2.2.2.2.2.2.2.1
    · exact hK.2.2.2.2.2.2.2.2.2.2.2.2.2.2.1
  have ecl : (nI n).toNatClampNeg = n := nI_clamp (by omega)
  refine W.anew C.1 C.2.1 C.2.2.2.2.1 (hts _ (List.mem_cons_of_mem _ hl)) (va_AO.use hao) rfl (ab_dec hok hJ) rfl (nI_pos (by omega)) (by rw [ecl]; omega) (Nat.le_of_ble_eq_true hc) (by rw [ecl]; exact Nat.le_of_ble_eq_true hs) fun cA kA comp f1 f2 f3 f4 => ?_
  rw [ecl]
  generalize hH1 : H.push ({ cls := cA, slots := Array.replicate n .null, vm := .none } : Cell) = H1
  have z1 : H1.size = H.size + 1 := by rw [← hH1, Array.size_push]
  have e1 : H1[H.size]? = some (arrV cA n (fun _ => .null)) := by rw [← hH1, Array.getElem?_push_size, ← arrV_new]
  have o1 : ∀ q : Nat, q < H.size → H1[q]? = H[q]? := fun q hq => by rw [← hH1, Array.getElem?_push, if_neg (Nat.ne_of_lt hq)]
  have hcA : cA = D.2 kd := by
    rcases hkd with ⟨rfl, rfl⟩ | ⟨rfl, rfl⟩
    · obtain ⟨-, -, -, -, -, -, q⟩ := hK.2.1.2 4 (D.2 4, .object "DreamFort$Kind") rfl
      exact Option.some.inj (f1.symm.trans q)
    · obtain ⟨-, -, -, -, -, -, q⟩ := hK.2.1.2 5 (D.2 5, .object "DreamFort$Fort") rfl
      exact Option.some.inj (f1.symm.trans q)
  subst hcA
  have e2 : (Value.ref H.size :: st.map (ab_v G)) = (.ref nx :: st).map (ab_v G) := by rw [List.map_cons, ab_v_ref, ab_ad_nx hW]
  show W p l e (ab_rm M) s m args below meth c H1 locs (cu + 1) (su + n) _ (F0 m (pc + 3) A (Value.ref H.size :: st.map (ab_v G)))
  rw [e2]
  exact k p l e s m args below meth c G D H1 locs A C (hW.new z1 o1 e1) (va_S_new hS z1 o1) hB hL
/-- a final field, in the constructor -/
def ab_lq (own : String) (idx ci k : Nat) (ty : FieldType) : Prop := ∃ (C : String) (T : u_T) (N : Nat), vwCl[ci]? = some (C, T, N) ∧ k < N ∧ Cond.fieldLink own idx (T k).1 (T k).2.1 (T k).2.2.1 ∈ ab_T ∧ (T k).2.2.2 = true ∧ (T k).1 = own ∧ parseFieldDescriptor (T k).2.2.1 = some ty
theorem bv_putQ {idx ci f a : Nat} {fs : List Value} {v : Nat} {ty : FieldType} (hok : ab_cd M 0 J) (hJ : ab_dr pc J = (pc, .putfield idx, 3, c0, f0) :: t) (hl : ab_lq M.1.cls idx ci f ty) (hi : M.1.name = "<init>") (ha : h a = some (.inl (ci, fs))) (hf : f < fs.length) (hn : ∀ q : Nat, narrow ty (.ref q) = .ref q ∧ fits ty (.ref q) = true) (k : ab_V M post cu su (pc + 3) ls st nx (ab_up h a (.inl (ci, fs.set f (.ref v))))) : ab_V M post cu su pc ls (.ref v :: .ref a :: st) nx h := by
  intro p l e s m args below meth c G D H locs A C hW hS hB hL
  obtain ⟨CC, T, N, h1, h2, h3, g2, g4, g3⟩ := hl
  obtain ⟨a1, a2, r, r1, r2⟩ := hW.own ha rfl
  cases h1.symm.trans r1
  have hts := C.2.2.2.2.2.1
  obtain ⟨t1, ⟨ty0, t2⟩, t3⟩ := ab_cls h1
  have hAa : ab_A G (ab_ad G a) := by rw [ab_ad_own G a1]; exact Nat.le_add_right _ _
  refine bw_putF (D := D.1) (tys := ab_tys D) C.1 C.2.1 hts (fun w hw => List.mem_cons_of_mem _ (t1 w hw)) ty0 t2 t3 C.2.2.2.2.1 C.2.2.2.2.2.2.2.2.2.2.2.1 r2 hAa hS h1 f h2 (hts _ (List.mem_cons_of_mem _ h3)) g2 (C.2.2.2.2.2.2.2.1.trans hi) g4 g3 (hn _).1 (hn _).2 (by simpa using hf) (ab_dec hok hJ) (fun H1 locs1 e1 e2 e3 e4 => ?_)
  refine k p l e s m args below meth c G D H1 locs1 A C (hW.up a1 a2 e2 e3 ⟨_, h1, ?_⟩) e4 hB hL
  rw [ab_map_set]
  exact e1
/-- Object's constructor -/
theorem bv_oi {idx a : Nat} (hok : ab_cd M 0 J) (hJ : ab_dr pc J = (pc, .invokespecial idx, 3, c0, f0) :: t) (hl : Cond.methodLink M.1.cls idx Lib.objectInit ∈ ab_T ∧ Cond.instanceMethod Lib.objectInit ∈ ab_T ∧ Cond.code Lib.objectInit ⟨#[0xb1]⟩ 1 none ∈ ab_T) (hd : Nat.ble 1 M.2.2.2.2.1 = true) (hr : Nat.ble (st.map fun v => v.category).sum 8 = true)
    (k : ab_V M post cu su (pc + 3) ls st nx h) : ab_V M post cu su pc ls (.ref a :: st) nx h := by
  intro p l e s m args below meth c G D H locs A C hW hS hB hL
  have hd := Nat.le_of_ble_eq_true hd
  have hr := Nat.le_of_ble_eq_true hr
  have hts := C.2.2.2.2.2.1
  have hT : ∀ w, w ∈ ab_T → w.before args s = true := fun w hw => hts w (List.mem_cons_of_mem _ hw)
  refine W.objInit C.1 C.2.1 C.2.2.2.2.1 (hT _ hl.1) (hT _ hl.2.1) (hT _ hl.2.2) rfl (hL.1.trans C.2.2.2.1.symm) rfl (ab_dec hok hJ) hd ?_ (k p l e s m args below meth c G D H locs A C hW hS hB hL)
  have hr2 : ((st.map (ab_v G)).map fun v => v.category).sum ≤ 8 := by rw [ab_cat]; exact hr
  have hm0 : (F0 m pc A ((.ref a :: st).map (ab_v G))).monitorRoom = 0 := rfl
  show 2 * (F0 m pc A ((.ref a :: st).map (ab_v G))).monitorRoom + _ + 12 ≤ 100 * M.2.2.2.2.1
  rw [hm0]
  omega
/-- a constructor of another class -/
theorem bv_I {idx b : Nat} {As : List Value} (hcon : ab_Con M' (.ref b :: As) nx h post') (hno : ∀ E nx' h', ¬ post' (.inr E) nx' h') (hok : ab_cd M 0 J) (hJ : ab_dr pc J = (pc, .invokespecial idx, 3, c0, f0) :: t) (hl : ab_li M.1.cls idx M' As.length) (hf : ab_fitb M M' cu su rest = true) (hst : st = As.reverse ++ .ref b :: rest)
    (k : ∀ r nx' h', post' r nx' h' → ab_K1 M M' post cu su pc ls rest r nx' h') : ab_V M post cu su pc ls st nx h := by
  subst hst
  intro p l e s m args below meth c G D H locs A C hW hS hB hL
  obtain ⟨f1, f2, f3, f4, f5⟩ := ab_fit_of hf
  refine ab_back (a := #[]) C hS hB hL f3 f4 ?_ k
  obtain ⟨⟨hw, hy1, hy2, hy3⟩, hin, hret, hlk⟩ := hl
  have hw := ab_all hw
  have hts := C.2.2.2.2.2.1
  have hK := C.2.2.2.2.2.2.2.2.2.2
  have hT : ∀ w, w ∈ ab_T → w.before args s = true := fun w hw => hts w (List.mem_cons_of_mem _ hw)
  have hG : GoodIn (ab_ws M.1 M.2.1 M.2.2.1 M.2.2.2.1) (ab_ws M'.1 M'.2.1 M'.2.2.1 M'.2.2.2.1) := ab_good (ab_ws_sub (hw _ (by simp)))
  have hpre : PreS s H (ab_Pc G D (.ref b :: As) nx h) (.ref (ab_ad G b) :: As.map (ab_v G)) := ⟨ab_blind _ _ _ _ _, fun U hU hWm => ⟨rfl, by rw [hU]; exact hW, hK.next hWm (fun a h1 h2 => by rw [hU]; exact hS.2.1 a h1 h2)⟩⟩
  have hR : (ab_rm M').frames + 1 ≤ (ab_rm M).frames ∧ 8 + (M'.2.2.1 + 11) + (ab_rm M').locals ≤ (ab_rm M).locals := ⟨f1, by show 8 + (M'.2.2.1 + 11) + 100 * M'.2.2.2.2.1 ≤ 100 * M.2.2.2.2.1; omega⟩
  have hini := hT _ (hw (.initialized M'.1.cls) (by simp))
  have hins := hT _ (hw (.instanceMethod M'.1) (by simp))
  have hM := hcon.met hno G D C.2.2.2.2.2.2.2.2.2.1
  rw [hret] at hG hM
  rcases hlk with hlk | ⟨host, hlk⟩
  · have cw := cwI (R := ab_rm M) (rm := ab_rm M') (mc := M'.2.2.2.2.2.1) (ms := M'.2.2.2.2.2.2) (args := args) (s := s) As.length hts hG rfl rfl rfl hini (hT _ hlk) hins hin ⟨hy1, hy2, hy3⟩ hR
    have hr9 := va_runI (e := e) (below := below) (meth := meth) (locs := locs) (cells := cu) (slots := su) (g := F0 m pc A ((As.reverse ++ .ref b :: rest).map (ab_v G))) (As := As.map (ab_v G)) (rest := rest.map (ab_v G)) (b := ab_ad G b) (Ts := ab_ws M.1 M.2.1 M.2.2.1 M.2.2.2.1) ⟨C.1, C.2.1, C.2.2.2.1, C.2.2.2.2.1, hts⟩ hM cw hpre rfl (by simp) hL.1 (by simp; rfl) (lv_room (by rw [ab_cat]; exact f5)) (ab_dec hok hJ) ⟨f3, f4⟩
    exact fun T hT X => Or.inl (hr9 T hT X)
  · have cw := va_cnB (R := ab_rm M) (rm := ab_rm M') (mc := M'.2.2.2.2.2.1) (ms := M'.2.2.2.2.2.2) (args := args) (s := s) As.length hts hG rfl rfl rfl (hK.1 _ hlk) hini ⟨hy1, hy2, hy3⟩ hR
    have hr9 := va_runIN (e := e) (below := below) (meth := meth) (locs := locs) (cells := cu) (slots := su) (g := F0 m pc A ((As.reverse ++ .ref b :: rest).map (ab_v G))) (As := As.map (ab_v G)) (rest := rest.map (ab_v G)) (b := ab_ad G b) (Ts := ab_ws M.1 M.2.1 M.2.2.1 M.2.2.2.1) ⟨C.1, C.2.1, C.2.2.2.1, C.2.2.2.2.1, hts⟩ hM ⟨cw, hin, hins⟩ hpre rfl (by simp) hL.1 (by simp; rfl) (lv_room (by rw [ab_cat]; exact f5)) (ab_dec hok hJ) ⟨f3, f4⟩
    exact fun T hT X => Or.inl (hr9 T hT X)
/-- a Fort into a row of them -/
theorem bv_aastF {a n i v : Nat} {f : Nat → Option Nat} {fs : List Value} (hok : ab_cd M 0 J) (hJ : ab_dr pc J = (pc, .aastore, 1, c0, f0) :: t) (ha : h a = some (.inr (5, n, .inr (.inr f)))) (hv : h v = some (.inl (1, fs))) (hi : i < n) (hn : n < 2 ^ 31) (k : ab_V M post cu su (pc + 1) ls st nx (ab_up h a (.inr (5, n, .inr (.inr (updQ f i (some v))))))) : ab_V M post cu su pc ls (.ref v :: .int (nI i) :: .ref a :: st) nx h := by
  intro p l e s m args below meth c G D H locs A C hW hS hB hL
  obtain ⟨a1, a2, a3⟩ := hW.own ha rfl
  obtain ⟨b1, b2, r, r1, cellV, q1, q2, q3, -⟩ := hW.own hv rfl
  have hK := C.2.2.2.2.2.2.2.2.2.2.2.1
  have hlt : (nI i).toNatClampNeg < n := by rw [nI_clamp (by omega)]; exact hi
  obtain ⟨kA, comp, k1, k2, k3, -⟩ := (hK.2 5 _ rfl).2
  obtain ⟨kE, hkE, -⟩ := Vm.findClass_spec k3
  have hKn := hK.1 1 _ rfl
  have ecl : cellV.cls = comp := q2.trans (Option.some.inj (hKn.2.1.symm.trans k3))
  have hAa : ab_A G (ab_ad G a) := by rw [ab_ad_own G a1]; exact Nat.le_add_right _ _
  refine W.aast C.1 C.2.1 a3 (fun q h => by cases h) (fun h => by cases h) k1 k2 rfl hkE ⟨nI_pos (by omega), by rw [arrV_size]; exact hlt⟩ q1 (fun q h => by rw [h] at q3; cases q3) (by rw [ecl]; exact hkE) (by rw [ecl]; exact va_asg _ _) rfl rfl (ab_dec hok hJ) fun H1 e1 z oq => ?_
  rw [nI_clamp (by omega), ab_storeQ] at e1
  exact k p l e s m args below meth c G D H1 _ A C (hW.up a1 a2 z oq e1) (hS.put z oq hAa) hB hL
end BV
