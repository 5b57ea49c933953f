/-! ===== the law's own methods: what is thrown is caught ===== -/
abbrev lh_H : Type := List (Nat × Nat × Nat × Nat)
def lh_ws (M : ab_M) (hh : lh_H) : List Cond := Cond.codeWith M.1 M.2.1 M.2.2.1 M.2.2.2.1 hh :: ab_T
def lh_Con (M : ab_M) (hh : lh_H) (av : List Value) (nx : Nat) (h : ab_H) (post : ab_P) : Prop := ∀ (l : Launch) (G : ab_G) (D : ab_D), l.stackTraces = false → vx_Met l M.1 (lh_ws M hh) (ab_rm M) (ab_Pc G D av nx h) (ab_Q G D post) (ab_X G D post) M.2.2.2.2.2.1 M.2.2.2.2.2.2 (ab_A G)
def lh_Cx (M : ab_M) (hh : lh_H) (p : Program) (l : Launch) (s : State) (m : MethodId) (args : Array Value) (meth : Method) (c : Code) (G : ab_G) (D : ab_D) : Prop :=
  p.tables.exec = Jvm.exec ∧ c.code = M.2.1 ∧ meth.sig.returnType = M.2.2.2.1 ∧ c.maxLocals = M.2.2.1 ∧ s.vm.findClass M.1.cls = some m.cls ∧ (∀ w ∈ lh_ws M hh, w.before args s = true) ∧ meth.locks = false ∧ c.exceptionTable.toList = tableOf hh ∧ l.stackTraces = false ∧ ab_K G D s
def lh_V (M : ab_M) (hh : lh_H) (post : ab_P) (cu su pc : Nat) (ls : List (Option Value)) (st : List Value) (nx : Nat) (h : ab_H) : Prop :=
  ∀ (p : Program) (l : Launch) (e : Env) (s : State) (m : MethodId) (args : Array Value) (below : List Frame) (meth : Method) (c : Code) (G : ab_G) (D : ab_D) (H : Heap) (locs : List Loc) (A : Array Slot),
    lh_Cx M hh p l s m args meth c G D → ab_W G D nx h H → va_S (ab_A G) s.heap H locs → G.1 ≤ s.heap.size → ab_L G M.2.2.1 ls A →
    W p l e (ab_rm M) s m args below meth c H locs cu su (vx_MQ below (ab_Q G D post) (ab_X G D post) args s M.2.2.2.2.2.1 M.2.2.2.2.2.2 (ab_A G)) (F0 m pc A (st.map (ab_v G)))
/-- a contract out of a walk from the entry -/
theorem lh_Con.of {M : ab_M} {hh : lh_H} {av : List Value} {nx : Nat} {h : ab_H} {post : ab_P} (hy : plainName M.1.cls = true) (hav : av.all (fun v => v.category == 1) = true) (hn : av.length ≤ M.2.2.1)
    (k : lh_V M hh post 0 0 0 (ab_l0 M.2.2.1 av) [] nx h) : lh_Con M hh av nx h post := by
  intro l G D hl
  refine vx_ofWH (cc := M.2.1) (maxL := M.2.2.1) (ret := M.2.2.2.1) hy rfl ?_
  intro p e s m args below meth c s₁ B hml hv
  obtain ⟨hv1, hv2, hv3⟩ := hv
  have hts := atoms_spec (ws := lh_ws M hh) B.pre
  have ht : c.exceptionTable.toList = tableOf hh := vx_table (x := M.1) B (hts _ List.mem_cons_self)
  have hown : s.vm.findClass M.1.cls = some m.cls := findClass_of_methodNamed B.named
  have hcat : ∀ v ∈ av.map (ab_v G), v.category = 1 := by
    intro v hv
    obtain ⟨w, hw, rfl⟩ := List.mem_map.mp hv
    rw [ab_v_cat]
    have := List.all_eq_true.mp hav w hw
    simpa using this
  have hsl := ab_sl1 hcat
  subst hv1
  have hen := lv_entry (av.map (ab_v G)) (n := M.2.2.1) (by rw [hsl]; simpa using hn)
  rw [lg_entry_eq]
  refine k p l e s m _ below meth c G D s.heap [] _ ⟨B.exec, B.bytes, B.returns, hml, hown, hts, B.notSynchronized, ht, hl, hv3⟩ hv2 va_S.rf hv2.base ?_
  refine ⟨hen.1, by simp [ab_l0]; omega, hen.2.1, fun i v hi => ?_⟩
  have hi2 : i < av.length := by
    rcases Nat.lt_or_ge i av.length with q | q
    · exact q
    · exfalso
      unfold ab_l0 at hi
      rw [List.getElem?_append_right (by simpa using q), List.getElem?_replicate] at hi
      split at hi <;> cases hi
  have hi3 : av[i]? = some v := by
    unfold ab_l0 at hi
    rw [List.getElem?_append_left (by simpa using hi2), List.getElem?_map] at hi
    cases e : av[i]? with
    | none => rw [e] at hi; cases hi
    | some w => rw [e] at hi; cases hi; rfl
  refine ⟨?_, ?_⟩
  · have := List.all_eq_true.mp hav v (List.mem_of_getElem? hi3)
    simpa using this
  · rw [hsl]
    simp only [List.getElem?_toArray]
    rw [List.getElem?_append_left (by simpa using hi2), List.getElem?_map, List.getElem?_map, hi3]
    rfl
theorem lh_Con.imp {M : ab_M} {hh : lh_H} {av : List Value} {nx : Nat} {h : ab_H} {post post' : ab_P} (hc : lh_Con M hh av nx h post) (hi : ∀ r nx' h', post r nx' h' → post' r nx' h') : lh_Con M hh av nx h post' := by
  intro l G D hl p e h1 h2 h3 s m args below h4 h5 h6 h7
  obtain ⟨n, o, q1, q2, q3, q4⟩ := hc l G D hl p e h1 h2 h3 s m args below h4 h5 h6 h7
  refine ⟨n, o, q1, q2, q3, ?_⟩
  rcases q4 with ⟨⟨⟨r, nx', h', a1, a2, a3⟩, a4⟩, a5⟩ | ⟨q, a1, E, ce, L, ⟨⟨nx', h', a2, a3⟩, a4⟩, a5⟩
  · exact Or.inl ⟨⟨⟨r, nx', h', a1, hi _ _ _ a2, a3⟩, a4⟩, a5⟩
  · exact Or.inr ⟨q, a1, E, ce, L, ⟨⟨nx', h', hi _ _ _ a2, a3⟩, a4⟩, a5⟩
section LH
variable {M M' : ab_M} {hh : lh_H} {post post' : ab_P} {cu su pc : Nat} {ls : List (Option Value)} {st rest : List Value} {nx : Nat} {h : ab_H}
theorem lh_iconst {n : Int} (hd : decode M.2.1 pc = .ok (.iconst n, 1)) (k : lh_V M hh post cu su (pc + 1) ls (.int (Int32.ofInt n) :: st) nx h) : lh_V M hh post cu su pc ls st nx h := by
  intro p l e s m args below meth c G D H locs A C hW hS hB hL
  exact lv_iconst C.1 C.2.1 hd rfl (k p l e s m args below meth c G D H locs A C hW hS hB hL)
theorem lh_iload_n {i : Fin 4} {x : Int32} (hd : decode M.2.1 pc = .ok (.iload_n i, 1)) (hx : ls[i.val]? = some (some (.int x))) (k : lh_V M hh post cu su (pc + 1) ls (.int x :: st) nx h) : lh_V M hh post cu su pc ls st nx h := by
  intro p l e s m args below meth c G D H locs A C hW hS hB hL
  exact lv_iload_n C.1 C.2.1 hd rfl (hL.2.2.2 _ _ hx).2 (k p l e s m args below meth c G D H locs A C hW hS hB hL)
theorem lh_aload_n {i : Fin 4} {x : Nat} (hd : decode M.2.1 pc = .ok (.aload_n i, 1)) (hx : ls[i.val]? = some (some (.ref x))) (k : lh_V M hh post cu su (pc + 1) ls (.ref x :: st) nx h) : lh_V M hh post cu su pc ls st nx h := by
  intro p l e s m args below meth c G D H locs A C hW hS hB hL
  exact lv_aload_n C.1 C.2.1 hd rfl (hL.2.2.2 _ _ hx).2 (k p l e s m args below meth c G D H locs A C hW hS hB hL)
theorem lh_aload {i : Nat} {x : Nat} (hd : decode M.2.1 pc = .ok (.aload i, 2)) (hx : ls[i]? = some (some (.ref x))) (k : lh_V M hh post cu su (pc + 2) ls (.ref x :: st) nx h) : lh_V M hh post cu su pc ls st nx h := by
  intro p l e s m args below meth c G D H locs A C hW hS hB hL
  exact lv_aload C.1 C.2.1 hd (hL.2.2.2 _ _ hx).2 (k p l e s m args below meth c G D H locs A C hW hS hB hL)
theorem lh_i2l {x : Int32} (hd : decode M.2.1 pc = .ok (.i2l, 1)) (k : lh_V M hh post cu su (pc + 1) ls (.long x.toInt64 :: st) nx h) : lh_V M hh post cu su pc ls (.int x :: st) nx h := by
  intro p l e s m args below meth c G D H locs A C hW hS hB hL
  exact lv_i2l C.1 C.2.1 hd rfl (k p l e s m args below meth c G D H locs A C hW hS hB hL)
theorem lh_lconst {n : Fin 2} (hd : decode M.2.1 pc = .ok (.lconst n, 1)) (k : lh_V M hh post cu su (pc + 1) ls (.long (Int64.ofNat n.val) :: st) nx h) : lh_V M hh post cu su pc ls st nx h := by
  intro p l e s m args below meth c G D H locs A C hW hS hB hL
  exact lv_lconst C.1 C.2.1 hd rfl (k p l e s m args below meth c G D H locs A C hW hS hB hL)
theorem lh_goto {off : Int} {tgt : Nat} (hd : decode M.2.1 pc = .ok (.goto off, 3)) (ht : (pc : Int) + off = (tgt : Int)) (k : lh_V M hh post cu su tgt ls st nx h) : lh_V M hh post cu su pc ls st nx h := by
  intro p l e s m args below meth c G D H locs A C hW hS hB hL
  exact lv_goto C.1 C.2.1 hd ht (k p l e s m args below meth c G D H locs A C hW hS hB hL)
theorem lh_if_eq {x : Int32} {off : Int} {tgt : Nat} (hd : decode M.2.1 pc = .ok (.ifCond .eq off, 3)) (ht : (pc : Int) + off = (tgt : Int)) (k1 : x = 0 → lh_V M hh post cu su tgt ls st nx h) (k2 : ¬ (x = 0) → lh_V M hh post cu su (pc + 3) ls st nx h) : lh_V M hh post cu su pc ls (.int x :: st) nx h := by
  intro p l e s m args below meth c G D H locs A C hW hS hB hL
  exact lv_if_eq C.1 C.2.1 hd ht (fun q => k1 q p l e s m args below meth c G D H locs A C hW hS hB hL) (fun q => k2 q p l e s m args below meth c G D H locs A C hW hS hB hL)
theorem lh_iret {v : Int32} (hd : decode M.2.1 pc = .ok (.ireturn, 1)) (hr : M.2.2.2.1 = some .int) (hc : cu ≤ M.2.2.2.2.2.1) (hs : su ≤ M.2.2.2.2.2.2) (k : post (.inl (some (.int v))) nx h) : lh_V M hh post cu su pc ls [.int v] nx h := by
  intro p l e s m args below meth c G D H locs A C hW hS hB hL
  refine W.widen (k := M.2.2.2.2.2.1) (n := M.2.2.2.2.2.2) hc hs ?_
  have hlocks := C.2.2.2.2.2.2.1
  exact vx_ret (W.iret (v := v) C.1 C.2.1 (C.2.2.1.trans hr) (fun t ht hWm => ⟨⟨some (.int v), nx, h, rfl, k, by rw [ht]; exact hW⟩, hS.F ht⟩) hS.2.2 hd)
theorem lh_last {a n : Nat} {f : Nat → Int64} {i : Int32} {x : Int64} (hd : decode M.2.1 pc = .ok (.lastore, 1)) (ha : h a = some (.inr (3, n, .inr (.inl f)))) (hi : vp_in i n) (k : lh_V M hh post cu su (pc + 1) ls st nx (ab_up h a (.inr (3, n, .inr (.inl (vp_updL f i.toNatClampNeg x)))))) : lh_V M hh post cu su pc ls (.long x :: .int i :: .ref a :: st) nx h := by
  intro p l e s m args below meth c G D H locs A C hW hS hB hL
  obtain ⟨a1, a2, a3⟩ := hW.own ha rfl
  have hAa : ab_A G (ab_ad G a) := by rw [ab_ad_own G a1]; exact Nat.le_add_right _ _
  refine W.last C.1 C.2.1 a3 ((C.2.2.2.2.2.2.2.2.2.2.1.2 3 _ rfl).1 n (fun j => .long (f j))) (fun q => by cases q) (by rw [arrV_size]; exact hi) rfl rfl hd fun H1 e z oq => ?_
  refine k p _ _ s m args below meth c G D H1 _ A C (hW.up a1 a2 z oq ?_) (hS.put z oq hAa) hB hL
  show H1[_]? = some _
  rw [e, arrV_store]
  congr 2
  funext q
  by_cases hq : q = i.toNatClampNeg
  · subst hq; simp [updV, vp_updL]
  · simp [updV, vp_updL, hq]
/-- a handler: the thrown one is laid aside, a number is the answer -/
def lh_hd (M : ab_M) (hp : Nat) (v : Int) : Prop := (∃ i : Fin 4, i.val < M.2.2.1 ∧ decode M.2.1 hp = .ok (.astore_n i, 1) ∧ decode M.2.1 (hp + 1) = .ok (.iconst v, 1) ∧ decode M.2.1 (hp + 2) = .ok (.ireturn, 1)) ∨ (∃ i : Nat, i < M.2.2.1 ∧ decode M.2.1 hp = .ok (.astore i, 2) ∧ decode M.2.1 (hp + 2) = .ok (.iconst v, 1) ∧ decode M.2.1 (hp + 3) = .ok (.ireturn, 1))
theorem lh_hdW {hp : Nat} {v : Int} (hh' : lh_hd M hp v) (hr : M.2.2.2.1 = some .int) (hc : cu ≤ M.2.2.2.2.2.1) (hs : su ≤ M.2.2.2.2.2.2) (k : post (.inl (some (.int (Int32.ofInt v)))) nx h)
    {p : Program} {l : Launch} {e : Env} {s : State} {m : MethodId} {args : Array Value} {below : List Frame} {meth : Method} {c : Code} {G : ab_G} {D : ab_D} {H : Heap} {locs : List Loc} {A : Array Slot} (C : lh_Cx M hh p l s m args meth c G D) (hW : ab_W G D nx h H) (hS : va_S (ab_A G) s.heap H locs) (hL : ab_L G M.2.2.1 ls A) (q : Nat) :
    W p l e (ab_rm M) s m args below meth c H locs cu su (vx_MQ below (ab_Q G D post) (ab_X G D post) args s M.2.2.2.2.2.1 M.2.2.2.2.2.2 (ab_A G)) (F0 m hp A [.ref q]) := by
  refine W.widen (k := M.2.2.2.2.2.1) (n := M.2.2.2.2.2.2) hc hs ?_
  have hlocks := C.2.2.2.2.2.2.1
  rcases hh' with ⟨i, hi, d1, d2, d3⟩ | ⟨i, hi, d1, d2, d3⟩
  · obtain ⟨A', e', -⟩ := lv_store1 (ls := A) (nL := M.2.2.1) (l := []) (v := .ref q) ⟨hL.1, hL.2.2.1, fun q hq => by cases hq⟩ hi rfl
    exact bw_astore_n C.1 C.2.1 d1 e' (lv_iconst C.1 C.2.1 d2 rfl (vx_ret (W.iret (v := Int32.ofInt v) C.1 C.2.1 (C.2.2.1.trans hr) (fun t ht hWm => ⟨⟨some (.int (Int32.ofInt v)), nx, h, rfl, k, by rw [ht]; exact hW⟩, hS.F ht⟩) hS.2.2 d3)))
  · obtain ⟨A', e', -⟩ := lv_store1 (ls := A) (nL := M.2.2.1) (l := []) (v := .ref q) ⟨hL.1, hL.2.2.1, fun q hq => by cases hq⟩ hi rfl
    exact bw_astore C.1 C.2.1 d1 e' (lv_iconst C.1 C.2.1 d2 rfl (vx_ret (W.iret (v := Int32.ofInt v) C.1 C.2.1 (C.2.2.1.trans hr) (fun t ht hWm => ⟨⟨some (.int (Int32.ofInt v)), nx, h, rfl, k, by rw [ht]; exact hW⟩, hS.F ht⟩) hS.2.2 d3)))
/-- E, thrown at pc, is answered by v -/
def lh_X (M : ab_M) (hh : lh_H) (pc : Nat) (E : String) (v : Int) : Prop := ∃ (pre : List ExceptionTableEntry) (x : ExceptionTableEntry) (suf : List ExceptionTableEntry), tableOf hh = pre ++ x :: suf ∧ (∀ z ∈ pre, covers z pc = true ∧ z.catchType ≠ 0 ∧ ∃ nm : String, Cond.classLink M.1.cls z.catchType nm ∈ ab_T ∧ (E, nm) ∈ kcX) ∧ covers x pc = true ∧ x.catchType ≠ 0 ∧ Cond.classLink M.1.cls x.catchType E ∈ ab_T ∧ Cond.castable E E ∈ ab_N ∧ lh_hd M x.handlerPc v
theorem lh_good {L : List Cond} (h : ∀ w ∈ L, w ∈ ab_T) : GoodIn (lh_ws M hh) L := fun w hw => ⟨List.mem_cons_of_mem _ (h w hw), ab_T_good (h w hw)⟩
/-- what comes behind a call -/
def lh_K1 (M M' : ab_M) (hh : lh_H) (post : ab_P) (cu su pc : Nat) (ls : List (Option Value)) (rest : List Value) : ab_P := fun r nx h => match r with
  | .inl v => lh_V M hh post (cu + M'.2.2.2.2.2.1) (su + M'.2.2.2.2.2.2) (pc + 3) ls (v.toList ++ rest) nx h
  | .inr E => ∃ v : Int, lh_X M hh pc E v ∧ post (.inl (some (.int (Int32.ofInt v)))) nx h
theorem lh_callV {idx b ci : Nat} {fs As : List Value} (hcon : ab_Con M' (.ref b :: As) nx h post') (hd : decode M.2.1 pc = .ok (.invokevirtual idx, 3)) (hl : ab_lv M.1.cls idx M' As.length) (hb : h b = some (.inl (ci, fs))) (hci : vwCl[ci]?.map (fun q => q.1) = some M'.1.cls) (hf : ab_fit M M' cu su rest) (hr : M.2.2.2.1 = some .int) (hst : st = As.reverse ++ .ref b :: rest)
    (k : ∀ r nx' h', post' r nx' h' → lh_K1 M M' hh post cu su pc ls rest r nx' h') : lh_V M hh post cu su pc ls st nx h := by
  subst hst
  intro p l e s m args below meth c G D H locs A C hW hS hB hL
  obtain ⟨f1, f2, f3, f4, f5⟩ := hf
  obtain ⟨hw, hy1, hy2, hy3⟩ := hl
  have hw := ab_all hw
  have hts := C.2.2.2.2.2.1
  have hT : ∀ w, w ∈ ab_T → w.before args s = true := fun w hw => hts w (List.mem_cons_of_mem _ hw)
  have hTs : GoodIn (lh_ws M hh) (wsV M.1.cls idx M'.1.cls M'.1 (ab_ws M'.1 M'.2.1 M'.2.2.1 M'.2.2.2.1)) := lh_good (fun w hw' => by
    rcases List.mem_append.mp hw' with q | q
    · exact hw w (by simp only [List.mem_cons, List.not_mem_nil, or_false] at q ⊢; rcases q with q | q | q | q <;> simp [q])
    · exact ab_ws_sub (hw _ (by simp)) w q)
  have cw := cwV (R := ab_rm M) (rm := ab_rm M') (mc := M'.2.2.2.2.2.1) (ms := M'.2.2.2.2.2.2) (args := args) (s := s) As.length hts hTs rfl rfl rfl ⟨rfl, hy1, hy2, hy3⟩ ⟨f1, by show 8 + (M'.2.2.1 + 11) + 100 * M'.2.2.2.2.1 ≤ 100 * M.2.2.2.2.1; omega⟩
  obtain ⟨a1, a2, r, r1, cell, q1, q2, q3, -⟩ := hW.own hb rfl
  have hK := C.2.2.2.2.2.2.2.2.2
  have hrc : ∃ cellB : Cell, H[ab_ad G b]? = some cellB ∧ cellB.vm.isStatics = false ∧ s.vm.findClass M'.1.cls = some cellB.cls := by
    refine ⟨cell, q1, by rw [q3]; rfl, ?_⟩
    obtain ⟨-, hfc, -⟩ := hK.2.1.1 ci _ r1
    rw [r1] at hci
    rw [q2, ← Option.some.inj hci]
    exact hfc
  have hpre : PreV s H M'.1.cls (ab_ad G b) (ab_Pc G D (.ref b :: As) nx h) (As.map (ab_v G)) := ⟨ab_blind _ _ _ _ _, hrc, fun U hU hWm => ⟨rfl, by rw [hU]; exact hW, hK.next hWm (fun a h1 h2 => by rw [hU]; exact hS.2.1 a h1 h2)⟩⟩
  have hr9 := vx_runV (e := e) (below := below) (meth := meth) (locs := locs) (cells := cu) (slots := su) (g := F0 m pc A ((As.reverse ++ .ref b :: rest).map (ab_v G))) (As := As.map (ab_v G)) (rest := rest.map (ab_v G)) (b := ab_ad G b) (Ts := lh_ws M hh) ⟨C.1, C.2.1, C.2.2.2.1, C.2.2.2.2.1, hts⟩ (hcon l G D C.2.2.2.2.2.2.2.2.1) cw hpre rfl (by simp) hL.1 (by simp; rfl) (lv_room (by rw [ab_cat]; exact f5)) hd ⟨f3, f4⟩
  intro T hT9 X
  rcases hr9 T hT9 X with ⟨v, st₀, t, T', L, h0, X', hL', e1, e2, ⟨⟨r, nx', h', hv, hp', hW'⟩, hF⟩, stp⟩ | ⟨q, st₀, t, T', L, E, ce, h0, X', hL', e1, e2, ⟨⟨nx', h', hp', hW'⟩, hF⟩, hce, hcv, hcl, stp⟩
  · cases hv
    obtain ⟨k1, k2, k3⟩ := vx_keep h0 e1 hS (fun _ _ q => q) (fun _ q => q) hL' hF
    have hst : (r.map (ab_v G)).toList ++ rest.map (ab_v G) = (r.toList ++ rest).map (ab_v G) := by cases r <;> simp
    have hk := k _ _ _ hp' p l e s m args below meth c G D T'.heap (locs ++ L) A C (by rw [e1]; exact hW') k3 hB hL T' rfl X'
    obtain ⟨t2, a1, b1⟩ := hk
    refine ⟨t2, stp t2 ?_, b1⟩
    show Steps p.tables e below (T'.setTop (F0 m (pc + 3) A ((r.map (ab_v G)).toList ++ rest.map (ab_v G)))) t2
    rw [hst]
    exact a1
  · obtain ⟨k1, k2, k3⟩ := vx_keep h0 e1 hS (fun _ _ q => q) (fun _ q => q) hL' hF
    obtain ⟨v, ⟨pre, x, suf, x1, x2, x3, x4, x5, x6, x7⟩, hpo⟩ := k _ _ _ hp'
    have hkc : ∀ q ∈ kcX, va_Nc q.1 q.2 s := hK.2.2.2.2.2.2.2.2.2.2.2.1
    have hcat := hx_catch (p := p) (l := l) (e := e) (R := ab_rm M) (below := below) (meth := meth) (locs := locs ++ L) (cells := cu + M'.2.2.2.2.2.1) (slots := su + M'.2.2.2.2.2.2) (ls := A) (rest := rest.map (ab_v G)) (H := T'.heap) (args := args) (c := c) (pc := pc) (E := E) (name := E) (q := q) C.2.2.2.2.1 pre x suf (C.2.2.2.2.2.2.2.1.trans x1)
      (fun z hz => by
        obtain ⟨z1, z2, nm, z3, z4⟩ := x2 z hz
        exact ⟨z1, z2, nm, hT _ z3, hkc _ z4⟩) x3 x4 (hT _ x5) (va_Nw.use (ab_nw_on (List.mem_filter.mp x6).2) (hK.1 _ x6)) (by rw [e1]; exact hce) hcv hcl
      (lh_hdW x7 hr f3 f4 hpo C (by rw [e1]; exact hW') k3 hL q)
    obtain ⟨t2, a1, b1⟩ := hcat T' rfl X'
    exact ⟨t2, stp.trans a1, b1⟩
end LH
/-- a static call of a method with handlers -/
def lh_ls (own : String) (idx : Nat) (M : ab_M) (hh : lh_H) (n : Nat) : Prop := (Cond.methodLink own idx M.1 ∈ ab_T ∧ Cond.static M.1 ∈ ab_T ∧ Cond.initialized M.1.cls ∈ ab_T ∧ Cond.codeWith M.1 M.2.1 M.2.2.1 M.2.2.2.1 hh ∈ ab_T) ∧ M.1.cls ≠ "java/lang/invoke/MethodHandle" ∧ M.1.cls ≠ "java/lang/invoke/VarHandle" ∧ (parseMethodDescriptor M.1.desc).map (fun d => d.parameters.length) = some n
section LH2
variable {M M' : ab_M} {hh : lh_H} {post post' : ab_P} {cu su pc : Nat} {ls : List (Option Value)} {st rest : List Value} {nx : Nat} {h : ab_H}
theorem bv_sHd {idx : Nat} {As : List Value} (hcon : lh_Con M' hh As nx h post') (hd : decode M.2.1 pc = .ok (.invokestatic idx, 3)) (hl : lh_ls M.1.cls idx M' hh As.length) (hf : ab_fit M M' cu su rest) (hst : st = As.reverse ++ rest)
    (k : ∀ r nx' h', post' r nx' h' → ab_K1 M M' post cu su pc ls rest r nx' h') : ab_V M post cu su pc ls st nx h := by
  subst hst
  intro p l e s m args below meth c G D H locs A C hW hS hB hL
  obtain ⟨f1, f2, f3, f4, f5⟩ := hf
  refine ab_back (a := #[]) C hS hB hL f3 f4 ?_ k
  obtain ⟨⟨w1, w2, w3, w4⟩, hy1, hy2, hy3⟩ := hl
  have hts := C.2.2.2.2.2.1
  have hTs : GoodIn (ab_ws M.1 M.2.1 M.2.2.1 M.2.2.2.1) (va_wsS M.1.cls idx M'.1 (lh_ws M' hh)) := ab_good (fun w hw' => by
    rcases List.mem_append.mp hw' with q | q
    · simp only [List.mem_cons, List.not_mem_nil, or_false] at q
      rcases q with q | q | q
      · rw [q]; exact w1
      · rw [q]; exact w2
      · rw [q]; exact w3
    · rcases List.mem_cons.mp q with q | q
      · rw [q]; exact w4
      · exact q)
  have cw := vx_cwSW (R := ab_rm M) (rm := ab_rm M') (mc := M'.2.2.2.2.2.1) (ms := M'.2.2.2.2.2.2) (args := args) (s := s) (hh := hh) As.length hts hTs rfl rfl rfl ⟨hy1, hy2, hy3⟩ ⟨f1, by show 8 + (M'.2.2.1 + 11) + 100 * M'.2.2.2.2.1 ≤ 100 * M.2.2.2.2.1; omega⟩
  have hK := C.2.2.2.2.2.2.2.2.2.2
  have hpre : PreS s H (ab_Pc G D As nx h) (As.map (ab_v G)) := ⟨ab_blind _ _ _ _ _, fun U hU hWm => ⟨rfl, by rw [hU]; exact hW, hK.next hWm (fun a h1 h2 => by rw [hU]; exact hS.2.1 a h1 h2)⟩⟩
  have hr9 := vx_runSX (e := e) (below := below) (meth := meth) (locs := locs) (cells := cu) (slots := su) (g := F0 m pc A ((As.reverse ++ rest).map (ab_v G))) (As := As.map (ab_v G)) (rest := rest.map (ab_v G)) (Ts := ab_ws M.1 M.2.1 M.2.2.1 M.2.2.2.1) ⟨C.1, C.2.1, C.2.2.2.1, C.2.2.2.2.1, hts⟩ (hcon l G D C.2.2.2.2.2.2.2.2.2.1) cw hpre rfl (by simp) hL.1 (by simp) (lv_room (by rw [ab_cat]; exact f5)) hd ⟨f3, f4⟩
  exact hr9
end LH2
