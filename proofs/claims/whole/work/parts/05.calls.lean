/-! ===== ends and calls ===== -/
theorem ab_T_good {w : Cond} (h : w ∈ ab_T) : (w.onTables && w.keeps) = true ∨ ∃ ty, w = .arrayClass ty := good_of_word (List.mem_filter.mp h).2
theorem ab_blind (G : ab_G) (D : ab_D) (av : List Value) (nx : Nat) (h : ab_H) : FrameBlind (ab_Pc G D av nx h) := fun a U g mk q => ⟨q.1, q.2.1, q.2.2.next (State.WarmedH.refl U) (fun _ _ _ => rfl)⟩
/-- a contract of which nothing is thrown -/
theorem ab_Con.met {M : ab_M} {av : List Value} {nx : Nat} {h : ab_H} {post : ab_P} (hc : ab_Con M av nx h post) (hn : ∀ E nx' h', ¬ post (.inr E) nx' h') {l : Launch} (G : ab_G) (D : ab_D) (hl : l.stackTraces = false) : Met l M.1 (ab_ws M.1 M.2.1 M.2.2.1 M.2.2.2.1) (ab_rm M) (ab_Pc G D av nx h) (ab_Q G D post) M.2.2.2.2.2.1 M.2.2.2.2.2.2 (ab_A G) := by
  intro p e h1 h2 h3 s m args below h4 h5 h6 h7
  obtain ⟨n, o, q1, q2, q3, q4⟩ := hc l G D hl p e h1 h2 h3 s m args below h4 h5 h6 h7
  refine ⟨n, o, q1, q2, q3, ?_⟩
  rcases q4 with q4 | ⟨q, -, E, ce, L, ⟨⟨nx', h', q5, -⟩, -⟩, -⟩
  · exact q4
  · exact absurd q5 (hn _ _ _)
theorem ab_Con.imp {M : ab_M} {av : List Value} {nx : Nat} {h : ab_H} {post post' : ab_P} (hc : ab_Con M av nx h post) (hi : ∀ r nx' h', post r nx' h' → post' r nx' h') : ab_Con M av nx h post' := by
  intro l G D hl p e h1 h2 h3 s m args below h4 h5 h6 h7
  obtain ⟨n, o, q1, q2, q3, q4⟩ := hc l G D hl p e h1 h2 h3 s m args below h4 h5 h6 h7
  refine ⟨n, o, q1, q2, q3, ?_⟩
  rcases q4 with ⟨⟨⟨r, nx', h', a1, a2, a3⟩, a4⟩, a5⟩ | ⟨q, a1, E, ce, L, ⟨⟨nx', h', a2, a3⟩, a4⟩, a5⟩
  · exact Or.inl ⟨⟨⟨r, nx', h', a1, hi _ _ _ a2, a3⟩, a4⟩, a5⟩
  · exact Or.inr ⟨q, a1, E, ce, L, ⟨⟨nx', h', hi _ _ _ a2, a3⟩, a4⟩, a5⟩
/-- the words of a call of an instance's method; of a static one; of a constructor -/
def ab_lv (own : String) (idx : Nat) (M : ab_M) (n : Nat) : Prop := ([.methodLink own idx M.1, .instanceMethod M.1, .selects M.1.cls M.1 M.1, .initialized M.1.cls, .code M.1 M.2.1 M.2.2.1 M.2.2.2.1] : List Cond).all (fun w => decide (w ∈ ab_T)) = true ∧ M.1.cls ≠ "java/lang/invoke/MethodHandle" ∧ M.1.cls ≠ "java/lang/invoke/VarHandle" ∧ (parseMethodDescriptor M.1.desc).map (fun d => d.parameters.length) = some n
def ab_ls (own : String) (idx : Nat) (M : ab_M) (n : Nat) : Prop := ([.methodLink own idx M.1, .static M.1, .initialized M.1.cls, .code M.1 M.2.1 M.2.2.1 M.2.2.2.1] : List Cond).all (fun w => decide (w ∈ ab_T)) = true ∧ M.1.cls ≠ "java/lang/invoke/MethodHandle" ∧ M.1.cls ≠ "java/lang/invoke/VarHandle" ∧ (parseMethodDescriptor M.1.desc).map (fun d => d.parameters.length) = some n
def ab_li (own : String) (idx : Nat) (M : ab_M) (n : Nat) : Prop := (([.instanceMethod M.1, .initialized M.1.cls, .code M.1 M.2.1 M.2.2.1 M.2.2.2.1] : List Cond).all (fun w => decide (w ∈ ab_T)) = true ∧ M.1.cls ≠ "java/lang/invoke/MethodHandle" ∧ M.1.cls ≠ "java/lang/invoke/VarHandle" ∧ (parseMethodDescriptor M.1.desc).map (fun d => d.parameters.length) = some n) ∧ M.1.name = "<init>" ∧ M.2.2.2.1 = none ∧ (Cond.methodLink own idx M.1 ∈ ab_T ∨ ∃ host : String, Cond.methodLinkNest own idx M.1 host ∈ ab_N)
/-- the callee's room fits the caller's -/
def ab_fit (M M' : ab_M) (cu su : Nat) (rest : List Value) : Prop := M'.2.2.2.2.1 + 1 ≤ M.2.2.2.2.1 ∧ M'.2.2.1 ≤ 81 ∧ cu + M'.2.2.2.2.2.1 ≤ M.2.2.2.2.2.1 ∧ su + M'.2.2.2.2.2.2 ≤ M.2.2.2.2.2.2 ∧ (rest.map fun v => v.category).sum ≤ 8
theorem ab_cat (G : ab_G) (rest : List Value) : ((rest.map (ab_v G)).map fun v => v.category).sum = (rest.map fun v => v.category).sum := by
  rw [List.map_map]
  congr 1
  exact List.map_congr_left (fun v _ => ab_v_cat G v)
theorem ab_all {L : List Cond} (h : L.all (fun w => decide (w ∈ ab_T)) = true) : ∀ w ∈ L, w ∈ ab_T := fun w hw => by simpa using List.all_eq_true.mp h w hw
theorem ab_ws_sub {M' : ab_M} (h : Cond.code M'.1 M'.2.1 M'.2.2.1 M'.2.2.2.1 ∈ ab_T) : ∀ w ∈ ab_ws M'.1 M'.2.1 M'.2.2.1 M'.2.2.2.1, w ∈ ab_T := fun w hw => (List.mem_cons.mp hw).elim (fun e => e ▸ h) (fun q => q)
theorem ab_good {M : ab_M} {L : List Cond} (h : ∀ w ∈ L, w ∈ ab_T) : GoodIn (ab_ws M.1 M.2.1 M.2.2.1 M.2.2.2.1) L := fun w hw => ⟨List.mem_cons_of_mem _ (h w hw), ab_T_good (h w hw)⟩
section BV
variable {M M' : ab_M} {post post' : ab_P} {cu su pc : Nat} {ls : List (Option Value)} {st rest : List Value} {nx : Nat} {h : ab_H}
theorem bv_iret {v : Int32} (hd : decode M.2.1 pc = .ok (.ireturn, 1)) (hr : M.2.2.2.1 = some .int) (hc : cu ≤ M.2.2.2.2.2.1) (hs : su ≤ M.2.2.2.2.2.2) (k : post (.inl (some (.int v))) nx h) : ab_V M post cu su pc ls [.int v] nx h := by
  intro p l e s m args below meth c G D H locs A C hW hS hB hL
  refine W.widen (k := M.2.2.2.2.2.1) (n := M.2.2.2.2.2.2) hc hs ?_
  have hlocks := C.2.2.2.2.2.2.1
  exact vx_ret (W.iret (v := v) C.1 C.2.1 (C.2.2.1.trans hr) (fun t ht hWm => ⟨⟨some (.int v), nx, h, rfl, k, by rw [ht]; exact hW⟩, hS.F ht⟩) hS.2.2 hd)
theorem bv_zret {v : Int32} (hd : decode M.2.1 pc = .ok (.ireturn, 1)) (hr : M.2.2.2.1 = some .boolean) (hv : v = 0 ∨ v = 1) (hc : cu ≤ M.2.2.2.2.2.1) (hs : su ≤ M.2.2.2.2.2.2) (k : post (.inl (some (.int v))) nx h) : ab_V M post cu su pc ls [.int v] nx h := by
  intro p l e s m args below meth c G D H locs A C hW hS hB hL
  refine W.widen (k := M.2.2.2.2.2.1) (n := M.2.2.2.2.2.2) hc hs ?_
  have hlocks := C.2.2.2.2.2.2.1
  exact vx_ret (W.zret (v := v) C.1 C.2.1 (C.2.2.1.trans hr) (by rcases hv with rfl | rfl <;> rfl) (fun t ht hWm => ⟨⟨some (.int v), nx, h, rfl, k, by rw [ht]; exact hW⟩, hS.F ht⟩) hS.2.2 hd)
theorem bv_vret (hd : decode M.2.1 pc = .ok (.return_, 1)) (hr : M.2.2.2.1 = none) (hc : cu ≤ M.2.2.2.2.2.1) (hs : su ≤ M.2.2.2.2.2.2) (k : post (.inl none) nx h) : ab_V M post cu su pc ls [] nx h := by
  intro p l e s m args below meth c G D H locs A C hW hS hB hL
  refine W.widen (k := M.2.2.2.2.2.1) (n := M.2.2.2.2.2.2) hc hs ?_
  have hlocks := C.2.2.2.2.2.2.1
  exact vx_ret (W.vret C.1 C.2.1 (C.2.2.1.trans hr) (fun t ht hWm => ⟨⟨none, nx, h, rfl, k, by rw [ht]; exact hW⟩, hS.F ht⟩) hS.2.2 hd)
theorem bv_aret {v : Nat} {rt : String} (hd : decode M.2.1 pc = .ok (.areturn, 1)) (hr : M.2.2.2.1 = some (.object rt)) (hc : cu ≤ M.2.2.2.2.2.1) (hs : su ≤ M.2.2.2.2.2.2) (k : post (.inl (some (.ref v))) nx h) : ab_V M post cu su pc ls [.ref v] nx h := by
  intro p l e s m args below meth c G D H locs A C hW hS hB hL
  refine W.widen (k := M.2.2.2.2.2.1) (n := M.2.2.2.2.2.2) hc hs ?_
  have hlocks := C.2.2.2.2.2.2.1
  exact vx_ret (W.aret (v := .ref (ab_ad G v)) C.1 C.2.1 (C.2.2.1.trans hr) (Or.inl ⟨_, rfl⟩) (Or.inr ⟨_, rfl⟩) (fun t ht hWm => ⟨⟨some (.ref v), nx, h, rfl, k, by rw [ht]; exact hW⟩, hS.F ht⟩) hS.2.2 hd)
/-- what comes behind a call -/
def ab_K1 (M M' : ab_M) (post : ab_P) (cu su pc : Nat) (ls : List (Option Value)) (rest : List Value) : ab_P := fun r nx h => match r with
  | .inl v => ab_V M post (cu + M'.2.2.2.2.2.1) (su + M'.2.2.2.2.2.2) (pc + 3) ls (v.toList ++ rest) nx h
  | .inr E => post (.inr E) nx h
theorem ab_back {p : Program} {l : Launch} {e : Env} {s : State} {m : MethodId} {args : Array Value} {below : List Frame} {meth : Method} {c : Code} {G : ab_G} {D : ab_D} {H : Heap} {locs : List Loc} {A : Array Slot} {st0 : List Value} {a : Array Value}
    (C : ab_Cx M p l s m args meth c G D) (hS : va_S (ab_A G) s.heap H locs) (hB : G.1 ≤ s.heap.size) (hL : ab_L G M.2.2.1 ls A) (hc : cu + M'.2.2.2.2.2.1 ≤ M.2.2.2.2.2.1) (hs : su + M'.2.2.2.2.2.2 ≤ M.2.2.2.2.2.2)
    (hr : vx_Run p l e (ab_rm M) s m args below meth c H locs cu su M'.2.2.2.2.2.1 M'.2.2.2.2.2.2 (F0 m pc A st0) (rest.map (ab_v G)) (ab_Q G D post' a) (ab_X G D post') (ab_A G))
    (k : ∀ r nx' h', post' r nx' h' → ab_K1 M M' post cu su pc ls rest r nx' h') :
    W p l e (ab_rm M) s m args below meth c H locs cu su (vx_MQ below (ab_Q G D post) (ab_X G D post) args s M.2.2.2.2.2.1 M.2.2.2.2.2.2 (ab_A G)) (F0 m pc A st0) := by
  intro T hT X
  rcases hr T hT X with ⟨v, st₀, t, T', L, h0, X', hL', e1, e2, ⟨⟨r, nx', h', hv, hp', hW'⟩, hF⟩, stp⟩ | ⟨q, st₀, t, T', L, E, ce, h0, X', hL', e1, e2, ⟨⟨nx', h', hp', hW'⟩, hF⟩, hce, hcv, hcl, stp⟩
  · cases hv
    obtain ⟨k1, k2, k3⟩ := vx_keep h0 e1 hS (fun _ _ q => q) (fun _ q => q) hL' hF
    have hst : (r.map (ab_v G)).toList ++ rest.map (ab_v G) = (r.toList ++ rest).map (ab_v G) := by cases r <;> simp
    have hk := k _ _ _ hp' p l e s m args below meth c G D T'.heap (locs ++ L) A C (by rw [e1]; exact hW') k3 hB hL T' rfl X'
    obtain ⟨t2, a1, b1⟩ := hk
    refine ⟨t2, stp t2 ?_, b1⟩
    show Steps p.tables e below (T'.setTop (F0 m (pc + 3) A ((r.map (ab_v G)).toList ++ rest.map (ab_v G)))) t2
    rw [hst]
    exact a1
  · obtain ⟨k1, k2, k3⟩ := vx_keep h0 e1 hS (fun _ _ q => q) (fun _ q => q) hL' hF
    have hk : post (.inr E) nx' h' := k _ _ _ hp'
    have hlocks := C.2.2.2.2.2.2.1
    obtain ⟨t2, a1, b1⟩ := vx_out (Qc := ab_Q G D post) (XC := ab_X G D post) (free := ab_A G) (mc := M.2.2.2.2.2.1) (ms := M.2.2.2.2.2.2) (ls := A) (rest := rest.map (ab_v G)) (pc := pc) (fun x hx => (C.2.2.2.2.2.2.2.2.1 x hx).elim) hlocks (by rw [e1]; exact hce) hcv hcl
      (fun t' ht' _ => ⟨⟨nx', h', hk, by rw [ht', e1]; exact hW'⟩, k3.F ht'⟩) k3.2.2 hc hs T' rfl X'
    exact ⟨t2, stp.trans a1, b1⟩
theorem bv_callV {idx b ci : Nat} {fs As : List Value} (hd : decode M.2.1 pc = .ok (.invokevirtual idx, 3)) (hl : ab_lv M.1.cls idx M' As.length) (hb : h b = some (.inl (ci, fs))) (hci : vwCl[ci]?.map (fun q => q.1) = some M'.1.cls) (hf : ab_fit M M' cu su rest) (hst : st = As.reverse ++ .ref b :: rest)
    (hcon : ab_Con M' (.ref b :: As) nx h post') (k : ∀ r nx' h', post' r nx' h' → ab_K1 M M' post cu su pc ls rest r nx' h') : ab_V M post cu su pc ls st nx h := by
  subst hst
  intro p l e s m args below meth c G D H locs A C hW hS hB hL
  obtain ⟨f1, f2, f3, f4, f5⟩ := hf
  refine ab_back (a := #[]) C hS hB hL f3 f4 ?_ k
  obtain ⟨hw, hy1, hy2, hy3⟩ := hl
  have hw := ab_all hw
  have hts := C.2.2.2.2.2.1
  have hTs : GoodIn (ab_ws M.1 M.2.1 M.2.2.1 M.2.2.2.1) (wsV M.1.cls idx M'.1.cls M'.1 (ab_ws M'.1 M'.2.1 M'.2.2.1 M'.2.2.2.1)) := ab_good (fun w hw' => by
    rcases List.mem_append.mp hw' with q | q
    · exact hw w (by simp only [List.mem_cons, List.not_mem_nil, or_false] at q ⊢; rcases q with q | q | q | q <;> simp [q])
    · exact ab_ws_sub (hw _ (by simp)) w q)
  have cw := cwV (R := ab_rm M) (rm := ab_rm M') (mc := M'.2.2.2.2.2.1) (ms := M'.2.2.2.2.2.2) (args := args) (s := s) As.length hts hTs rfl rfl rfl ⟨rfl, hy1, hy2, hy3⟩ ⟨f1, by show 8 + (M'.2.2.1 + 11) + 100 * M'.2.2.2.2.1 ≤ 100 * M.2.2.2.2.1; omega⟩
  obtain ⟨a1, a2, r, r1, cell, q1, q2, q3, -⟩ := hW.own hb rfl
  have hK := C.2.2.2.2.2.2.2.2.2.2
  have hrc : ∃ cellB : Cell, H[ab_ad G b]? = some cellB ∧ cellB.vm.isStatics = false ∧ s.vm.findClass M'.1.cls = some cellB.cls := by
    refine ⟨cell, q1, by rw [q3]; rfl, ?_⟩
    obtain ⟨-, hfc, -⟩ := hK.2.1.1 ci _ r1
    rw [r1] at hci
    rw [q2, ← Option.some.inj hci]
    exact hfc
  have hpre : PreV s H M'.1.cls (ab_ad G b) (ab_Pc G D (.ref b :: As) nx h) (As.map (ab_v G)) := ⟨ab_blind _ _ _ _ _, hrc, fun U hU hWm => ⟨rfl, by rw [hU]; exact hW, hK.next hWm (fun a h1 h2 => by rw [hU]; exact hS.2.1 a h1 h2)⟩⟩
  have hr9 := vx_runV (e := e) (below := below) (meth := meth) (locs := locs) (cells := cu) (slots := su) (g := F0 m pc A ((As.reverse ++ .ref b :: rest).map (ab_v G))) (As := As.map (ab_v G)) (rest := rest.map (ab_v G)) (b := ab_ad G b) (Ts := ab_ws M.1 M.2.1 M.2.2.1 M.2.2.2.1) ⟨C.1, C.2.1, C.2.2.2.1, C.2.2.2.2.1, hts⟩ (hcon l G D C.2.2.2.2.2.2.2.2.2.1) cw hpre rfl (by simp) hL.1 (by simp; rfl) (lv_room (by rw [ab_cat]; exact f5)) hd ⟨f3, f4⟩
  exact hr9
theorem bv_callS {idx : Nat} {As : List Value} (hd : decode M.2.1 pc = .ok (.invokestatic idx, 3)) (hl : ab_ls M.1.cls idx M' As.length) (hf : ab_fit M M' cu su rest) (hst : st = As.reverse ++ rest)
    (hcon : ab_Con M' As nx h post') (k : ∀ r nx' h', post' r nx' h' → ab_K1 M M' post cu su pc ls rest r nx' h') : ab_V M post cu su pc ls st nx h := by
  subst hst
  intro p l e s m args below meth c G D H locs A C hW hS hB hL
  obtain ⟨f1, f2, f3, f4, f5⟩ := hf
  refine ab_back (a := #[]) C hS hB hL f3 f4 ?_ k
  obtain ⟨hw, hy1, hy2, hy3⟩ := hl
  have hw := ab_all hw
  have hts := C.2.2.2.2.2.1
  have hTs : GoodIn (ab_ws M.1 M.2.1 M.2.2.1 M.2.2.2.1) (va_wsS M.1.cls idx M'.1 (ab_ws M'.1 M'.2.1 M'.2.2.1 M'.2.2.2.1)) := ab_good (fun w hw' => by
    rcases List.mem_append.mp hw' with q | q
    · exact hw w (by simp only [List.mem_cons, List.not_mem_nil, or_false] at q ⊢; rcases q with q | q | q <;> simp [q])
    · exact ab_ws_sub (hw _ (by simp)) w q)
  have cw := va_cwS (R := ab_rm M) (rm := ab_rm M') (mc := M'.2.2.2.2.2.1) (ms := M'.2.2.2.2.2.2) (args := args) (s := s) As.length hts hTs rfl rfl rfl ⟨hy1, hy2, hy3⟩ ⟨f1, by show 8 + (M'.2.2.1 + 11) + 100 * M'.2.2.2.2.1 ≤ 100 * M.2.2.2.2.1; omega⟩
  have hK := C.2.2.2.2.2.2.2.2.2.2
  have hpre : PreS s H (ab_Pc G D As nx h) (As.map (ab_v G)) := ⟨ab_blind _ _ _ _ _, fun U hU hWm => ⟨rfl, by rw [hU]; exact hW, hK.next hWm (fun a h1 h2 => by rw [hU]; exact hS.2.1 a h1 h2)⟩⟩
  have hr9 := vx_runS (e := e) (below := below) (meth := meth) (locs := locs) (cells := cu) (slots := su) (g := F0 m pc A ((As.reverse ++ rest).map (ab_v G))) (As := As.map (ab_v G)) (rest := rest.map (ab_v G)) (Ts := ab_ws M.1 M.2.1 M.2.2.1 M.2.2.2.1) ⟨C.1, C.2.1, C.2.2.2.1, C.2.2.2.2.1, hts⟩ (hcon l G D C.2.2.2.2.2.2.2.2.2.1) cw hpre rfl (by simp) hL.1 (by simp) (lv_room (by rw [ab_cat]; exact f5)) hd ⟨f3, f4⟩
  exact hr9
end BV
