/-! ===== the classes' tables ===== -/
section BT
theorem ab_in0 : ∀ w ∈ u_ws RX0 TX0 4, w ∈ ab_T := by decide +kernel
theorem ab_in1 : ∀ w ∈ u_ws RX1 TX1 17, w ∈ ab_T := by decide +kernel
theorem ab_in2 : ∀ w ∈ u_ws RX2 TX2 1, w ∈ ab_T := by decide +kernel
theorem ab_in3 : ∀ w ∈ u_ws RX4 TX4 8, w ∈ ab_T := by decide +kernel
theorem ab_in4 : ∀ w ∈ u_ws RX5 TX5 1, w ∈ ab_T := by decide +kernel
theorem ab_in5 : ∀ w ∈ u_ws RX7 TX7 6, w ∈ ab_T := by decide +kernel
theorem ab_in6 : ∀ w ∈ u_ws RX8 TX8 5, w ∈ ab_T := by decide +kernel
theorem ab_in7 : ∀ w ∈ u_ws RX9 TX9 3, w ∈ ab_T := by decide +kernel
theorem ab_in8 : ∀ w ∈ u_ws RX10 TX10 5, w ∈ ab_T := by decide +kernel
theorem ab_in9 : ∀ w ∈ u_ws RX11 TX11 19, w ∈ ab_T := by decide +kernel
theorem ab_in10 : ∀ w ∈ u_ws RX12 TX12 25, w ∈ ab_T := by decide +kernel
theorem ab_cls {ci : Nat} {C : String} {T : u_T} {N : Nat} (h : vwCl[ci]? = some (C, T, N)) : (∀ w ∈ u_ws C T N, w ∈ ab_T) ∧ (∃ ty : Nat → FieldType, ∀ k, k < N → parseFieldDescriptor (T k).2.2.1 = some (ty k)) ∧ ∀ a, a < N → ∀ b, b < N → a ≠ b → (T a).2.1 ≠ (T b).2.1 := by
  match ci, h with
  | 0, h => cases h; exact ⟨ab_in0, ⟨tyX0, tyX0_ok⟩, nmX0⟩
  | 1, h => cases h; exact ⟨ab_in1, ⟨tyX1, tyX1_ok⟩, nmX1⟩
  | 2, h => cases h; exact ⟨ab_in2, ⟨tyX2, tyX2_ok⟩, nmX2⟩
  | 3, h => cases h; exact ⟨ab_in3, ⟨tyX4, tyX4_ok⟩, nmX4⟩
  | 4, h => cases h; exact ⟨ab_in4, ⟨tyX5, tyX5_ok⟩, nmX5⟩
  | 5, h => cases h; exact ⟨ab_in5, ⟨tyX7, tyX7_ok⟩, nmX7⟩
  | 6, h => cases h; exact ⟨ab_in6, ⟨tyX8, tyX8_ok⟩, nmX8⟩
  | 7, h => cases h; exact ⟨ab_in7, ⟨tyX9, tyX9_ok⟩, nmX9⟩
  | 8, h => cases h; exact ⟨ab_in8, ⟨tyX10, tyX10_ok⟩, nmX10⟩
  | 9, h => cases h; exact ⟨ab_in9, ⟨tyX11, tyX11_ok⟩, nmX11⟩
  | 10, h => cases h; exact ⟨ab_in10, ⟨tyX12, tyX12_ok⟩, nmX12⟩
  | ci + 11, h => simp [vwCl] at h
end BT
/-- a field's link: of the class's own pool, or of a nest mate's -/
def ab_lf (own : String) (idx ci k : Nat) : Prop := ∃ (C : String) (T : u_T) (N : Nat), vwCl[ci]? = some (C, T, N) ∧ k < N ∧ (Cond.fieldLink own idx (T k).1 (T k).2.1 (T k).2.2.1 ∈ ab_T ∨ ∃ host : String, Cond.fieldLinkNest own idx (T k).1 (T k).2.1 (T k).2.2.1 host ∈ ab_N)
/-- .. of a field that isn't final -/
def ab_lp (own : String) (idx ci k : Nat) (ty : FieldType) : Prop := ab_lf own idx ci k ∧ ∃ (C : String) (T : u_T) (N : Nat), vwCl[ci]? = some (C, T, N) ∧ (T k).2.2.2 = false ∧ parseFieldDescriptor (T k).2.2.1 = some ty
section BW
variable {p : Program} {l : Launch} {e : Env} {R : Room} {s : State} {m : MethodId} {args : Array Value} {below : List Frame} {meth : Method} {c : Code} {H : Heap} {locs : List Loc} {cells slots : Nat} {Q : State → Prop}
variable {cc : ByteArray} {pc : Nat} {ls : Array Slot} {rest : List Value} {D : va_G} {cl : List vw_C} {A : Nat → Prop} {a : Nat} {tys : List (ClassId × FieldType)} {H0 : Heap}
theorem bw_istore_n (hexec : p.tables.exec = Jvm.exec) (hb : c.code = cc) {k : Fin 4} {x : Int32} {ls' : Array Slot} (hdg : decode cc pc = .ok (.istore_n k, 1)) (e' : storeLocals ls k.val (.int x) = some ls') (kk : W p l e R s m args below meth c H locs cells slots Q (F0 m (pc + 1) ls' rest)) : W p l e R s m args below meth c H locs cells slots Q (F0 m pc ls (.int x :: rest)) := by
  intro T hT X
  obtain ⟨t, a, b⟩ := kk T hT X
  refine ⟨t, ?_, b⟩
  jvm_step X.here [X.here.top, ↓top_set X.here.top, hexec, hb, hdg, e']
  exact a
theorem bw_istore (hexec : p.tables.exec = Jvm.exec) (hb : c.code = cc) {i : Nat} {x : Int32} {ls' : Array Slot} (hdg : decode cc pc = .ok (.istore i, 2)) (e' : storeLocals ls i (.int x) = some ls') (kk : W p l e R s m args below meth c H locs cells slots Q (F0 m (pc + 2) ls' rest)) : W p l e R s m args below meth c H locs cells slots Q (F0 m pc ls (.int x :: rest)) := by
  intro T hT X
  obtain ⟨t, a, b⟩ := kk T hT X
  refine ⟨t, ?_, b⟩
  jvm_step X.here [X.here.top, ↓top_set X.here.top, hexec, hb, hdg, e']
  exact a
theorem bw_astore_n (hexec : p.tables.exec = Jvm.exec) (hb : c.code = cc) {k : Fin 4} {x : Nat} {ls' : Array Slot} (hdg : decode cc pc = .ok (.astore_n k, 1)) (e' : storeLocals ls k.val (.ref x) = some ls') (kk : W p l e R s m args below meth c H locs cells slots Q (F0 m (pc + 1) ls' rest)) : W p l e R s m args below meth c H locs cells slots Q (F0 m pc ls (.ref x :: rest)) := by
  intro T hT X
  obtain ⟨t, a, b⟩ := kk T hT X
  refine ⟨t, ?_, b⟩
  jvm_step X.here [X.here.top, ↓top_set X.here.top, hexec, hb, hdg, e', Value.isRef]
  exact a
theorem bw_astore (hexec : p.tables.exec = Jvm.exec) (hb : c.code = cc) {i : Nat} {x : Nat} {ls' : Array Slot} (hdg : decode cc pc = .ok (.astore i, 2)) (e' : storeLocals ls i (.ref x) = some ls') (kk : W p l e R s m args below meth c H locs cells slots Q (F0 m (pc + 2) ls' rest)) : W p l e R s m args below meth c H locs cells slots Q (F0 m pc ls (.ref x :: rest)) := by
  intro T hT X
  obtain ⟨t, a, b⟩ := kk T hT X
  refine ⟨t, ?_, b⟩
  jvm_step X.here [X.here.top, ↓top_set X.here.top, hexec, hb, hdg, e', Value.isRef]
  exact a
theorem bw_iinc (hexec : p.tables.exec = Jvm.exec) (hb : c.code = cc) {i : Nat} {n : Int} {x : Int32} {ls' : Array Slot} (hdg : decode cc pc = .ok (.iinc i n, 3)) (hg : ls[i]? = some (.val (.int x))) (e' : storeLocals ls i (.int (x + Int32.ofInt n)) = some ls') (kk : W p l e R s m args below meth c H locs cells slots Q (F0 m (pc + 3) ls' rest)) : W p l e R s m args below meth c H locs cells slots Q (F0 m pc ls rest) := by
  intro T hT X
  obtain ⟨t, a, b⟩ := kk T hT X
  refine ⟨t, ?_, b⟩
  jvm_step X.here [X.here.top, ↓top_set X.here.top, hexec, hb, hdg, hg, e']
  exact a
/-- a field is written: what its object is then, and all else as it was -/
theorem bw_put (hexec : p.tables.exec = Jvm.exec) (hb : c.code = cc) {own C : String} {T : u_T} {N ci index : Nat} {Ts : List Cond} (hts : ∀ w ∈ Ts, w.before args s = true) (hin : ∀ w ∈ u_ws C T N, w ∈ Ts) (ty0 : Nat → FieldType) (hty : ∀ k, k < N → parseFieldDescriptor (T k).2.2.1 = some (ty0 k)) (hnm : ∀ a, a < N → ∀ b, b < N → a ≠ b → (T a).2.1 ≠ (T b).2.1) (hown : s.vm.findClass own = some m.cls) (hK : va_K D cl tys s) {fs : List Value} (hP : t_OB a (D.1 ci) N (D.2 ci) H (vp_V fs)) (hA : A a) (hS0 : va_S A H0 H locs) (hc : cl[ci]? = some (C, T, N)) (k : Nat) (hk : k < N)
    (hlink : (Cond.fieldLink own index (T k).1 (T k).2.1 (T k).2.2.1).before args s = true ∨ ∃ host : String, (Cond.fieldLinkNest own index (T k).1 (T k).2.1 (T k).2.2.1 host).before args s = true) (hfin : (T k).2.2.2 = false) {ty : FieldType} {v : Value} (hd : parseFieldDescriptor (T k).2.2.1 = some ty) (hn : narrow ty v = v) (hfit : fits ty v = true) (hl : k < fs.length)
    (hdg : decode cc pc = .ok (.putfield index, 3)) (kk : ∀ (H1 : Heap) (locs1 : List Loc), t_OB a (D.1 ci) N (D.2 ci) H1 (vp_V (fs.set k v)) → H1.size = H.size → (∀ q : Nat, q ≠ a → H1[q]? = H[q]?) → va_S A H0 H1 locs1 → W p l e R s m args below meth c H1 locs1 cells slots Q (F0 m (pc + 3) ls rest)) : W p l e R s m args below meth c H locs cells slots Q (F0 m pc ls (v :: .ref a :: rest)) := by
  have hap := va_apart (own := own) hts hin ty0 hty hnm hK hc
  obtain ⟨cell, q1, q2, q3, q4⟩ := hP
  obtain ⟨hS, hfc, kC, hkC, hkind⟩ := hK.1 ci _ hc
  obtain ⟨cf, kf, fi, f, hi, hsl⟩ := hS k hk
  have hlay := hts _ (hin _ (u_in_lay hk))
  unfold u_lay at hlay
  rw [if_neg (by rw [hfin]; decide)] at hlay
  have hst := (u_facts hfc hkC (u_lays hts hin hk) hi).1
  have h6 := u_store hfc hkC hkind hlay hi hd hn hfit
  have go : ∀ H' : Heap, H'[a]? = some (cell.setSlot f.slot v) → H'.size = H.size → (∀ q, q ≠ a → H'[q]? = H[q]?) → W p l e R s m args below meth c H' (locs ++ [⟨a, f.slot⟩]) cells slots Q (F0 m (pc + 3) ls rest) := by
    intro H' e1 e2 e3
    rw [hsl] at e1 ⊢
    exact kk H' _ (t_OB.to (V := updV (vp_V fs) k v) ⟨_, e1, q2, q3, t_set q4 hap hk v⟩ (fun j _ => vp_updV_set hl v j)) e2 e3 (hS0.put e2 e3 hA)
  rcases hlink with hlink | ⟨host, hlink⟩
  · exact W.putK hexec hb (f := f) ⟨hown, hlink, ⟨_, _, _, hi⟩, hst⟩ (by rw [q2]; exact h6) q1 q3 (by rw [hsl]; exact k2_hasslot (q4 k hk)) rfl rfl hdg go
  · exact va_WputK hexec hb (f := f) hown hlink hi hst (by rw [q2]; exact h6) q1 q3 (by rw [hsl]; exact k2_hasslot (q4 k hk)) rfl rfl hdg go
/-- .. a final one, in a constructor -/
theorem bw_putF (hexec : p.tables.exec = Jvm.exec) (hb : c.code = cc) {own C : String} {T : u_T} {N ci index : Nat} {Ts : List Cond} (hts : ∀ w ∈ Ts, w.before args s = true) (hin : ∀ w ∈ u_ws C T N, w ∈ Ts) (ty0 : Nat → FieldType) (hty : ∀ k, k < N → parseFieldDescriptor (T k).2.2.1 = some (ty0 k)) (hnm : ∀ a, a < N → ∀ b, b < N → a ≠ b → (T a).2.1 ≠ (T b).2.1) (hown : s.vm.findClass own = some m.cls) (hK : va_K D cl tys s) {fs : List Value} (hP : t_OB a (D.1 ci) N (D.2 ci) H (vp_V fs)) (hA : A a) (hS0 : va_S A H0 H locs) (hc : cl[ci]? = some (C, T, N)) (k : Nat) (hk : k < N)
    (hlink : (Cond.fieldLink own index (T k).1 (T k).2.1 (T k).2.2.1).before args s = true) (hfin : (T k).2.2.2 = true) (hin2 : meth.name = "<init>") (hdecl : (T k).1 = own) {ty : FieldType} {v : Value} (hd : parseFieldDescriptor (T k).2.2.1 = some ty) (hn : narrow ty v = v) (hfit : fits ty v = true) (hl : k < fs.length)
    (hdg : decode cc pc = .ok (.putfield index, 3)) (kk : ∀ (H1 : Heap) (locs1 : List Loc), t_OB a (D.1 ci) N (D.2 ci) H1 (vp_V (fs.set k v)) → H1.size = H.size → (∀ q : Nat, q ≠ a → H1[q]? = H[q]?) → va_S A H0 H1 locs1 → W p l e R s m args below meth c H1 locs1 cells slots Q (F0 m (pc + 3) ls rest)) : W p l e R s m args below meth c H locs cells slots Q (F0 m pc ls (v :: .ref a :: rest)) := by
  have hap := va_apart (own := own) hts hin ty0 hty hnm hK hc
  obtain ⟨cell, q1, q2, q3, q4⟩ := hP
  obtain ⟨hS, hfc, kC, hkC, hkind⟩ := hK.1 ci _ hc
  obtain ⟨cf, kf, fi, f, hi, hsl⟩ := hS k hk
  have hlay := hts _ (hin _ (u_in_lay hk))
  unfold u_lay at hlay
  rw [if_pos hfin] at hlay
  have hst := (u_facts hfc hkC (u_lays hts hin hk) hi).1
  have hcf : m.cls = cf := by
    obtain ⟨_, _, c', _, _, _, -, -, hf', -, -, -, hown2, -⟩ := Cond.laysFinal_spec hlay
    have e1 : c' = cf := by have := hi.symm.trans hf'; simp at this; exact this.1.symm
    rw [hdecl] at hown2
    rw [← e1]; exact Option.some.inj (hown.symm.trans hown2)
  have h6 := u_fits hfc hkC hkind (Or.inr hlay) hi hd hn hfit
  refine W.putFinK hexec hb hown hlink hi hst hcf hin2 (by rw [q2]; exact h6) q1 q3 (by rw [hsl]; exact k2_hasslot (q4 k hk)) rfl rfl hdg fun H' e1 e2 e3 => ?_
  rw [hsl] at e1 ⊢
  exact kk H' _ (t_OB.to (V := updV (vp_V fs) k v) ⟨_, e1, q2, q3, t_set q4 hap hk v⟩ (fun j _ => vp_updV_set hl v j)) e2 e3 (hS0.put e2 e3 hA)
end BW
theorem ab_L.store {G : ab_G} {n : Nat} {ls : List (Option Value)} {A : Array Slot} {i : Nat} {v : Value} (h : ab_L G n ls A) (hi : i < n) (hc : v.category = 1) : ∃ A', storeLocals A i (ab_v G v) = some A' ∧ ab_L G n (ls.set i (some v)) A' := by
  obtain ⟨h1, h2, h3, h4⟩ := h
  have hc' : (ab_v G v).category = 1 := by rw [ab_v_cat]; exact hc
  obtain ⟨A', e, hA⟩ := lv_store1 (ls := A) (nL := n) (l := []) (v := ab_v G v) ⟨h1, h3, fun q hq => by cases hq⟩ hi hc'
  refine ⟨A', e, hA.1, by simpa using h2, hA.2.1, fun j w hj => ?_⟩
  by_cases ej : i = j
  · subst ej
    rw [List.getElem?_set_self (by omega)] at hj
    cases hj
    exact ⟨hc, hA.2.2 (i, _) List.mem_cons_self⟩
  · rw [List.getElem?_set_ne ej] at hj
    obtain ⟨a1, a2⟩ := h4 j w hj
    refine ⟨a1, ?_⟩
    obtain ⟨A2, e2, hA2⟩ := lv_store1 (ls := A) (nL := n) (l := [(j, ab_v G w)]) (v := ab_v G v) ⟨h1, h3, fun q hq => by simp at hq; subst hq; exact a2⟩ hi hc'
    cases e.symm.trans e2
    refine hA2.2.2 (j, ab_v G w) (List.mem_cons_of_mem _ (List.mem_filter.mpr ⟨List.mem_cons_self, ?_⟩))
    have e3 : (ab_v G w).category = 1 := by rw [ab_v_cat]; exact a1
    simp [e3, Ne.symm ej]
section BV
variable {M : ab_M} {post : ab_P} {cu su pc : Nat} {ls : List (Option Value)} {st : List Value} {nx : Nat} {h : ab_H}
theorem bv_istore_n {i : Fin 4} {x : Int32} (hd : decode M.2.1 pc = .ok (.istore_n i, 1)) (hi : i.val < M.2.2.1) (k : ab_V M post cu su (pc + 1) (ls.set i.val (some (.int x))) st nx h) : ab_V M post cu su pc ls (.int x :: st) nx h := by
  intro p l e s m args below meth c G D H locs A C hW hS hB hL
  obtain ⟨A', e', hL'⟩ := hL.store (v := .int x) hi rfl
  exact bw_istore_n C.1 C.2.1 hd e' (k p l e s m args below meth c G D H locs A' C hW hS hB hL')
theorem bv_istore {i : Nat} {x : Int32} (hd : decode M.2.1 pc = .ok (.istore i, 2)) (hi : i < M.2.2.1) (k : ab_V M post cu su (pc + 2) (ls.set i (some (.int x))) st nx h) : ab_V M post cu su pc ls (.int x :: st) nx h := by
  intro p l e s m args below meth c G D H locs A C hW hS hB hL
  obtain ⟨A', e', hL'⟩ := hL.store (v := .int x) hi rfl
  exact bw_istore C.1 C.2.1 hd e' (k p l e s m args below meth c G D H locs A' C hW hS hB hL')
theorem bv_astore_n {i : Fin 4} {x : Nat} (hd : decode M.2.1 pc = .ok (.astore_n i, 1)) (hi : i.val < M.2.2.1) (k : ab_V M post cu su (pc + 1) (ls.set i.val (some (.ref x))) st nx h) : ab_V M post cu su pc ls (.ref x :: st) nx h := by
  intro p l e s m args below meth c G D H locs A C hW hS hB hL
  obtain ⟨A', e', hL'⟩ := hL.store (v := .ref x) hi rfl
  exact bw_astore_n C.1 C.2.1 hd e' (k p l e s m args below meth c G D H locs A' C hW hS hB hL')
theorem bv_astore {i : Nat} {x : Nat} (hd : decode M.2.1 pc = .ok (.astore i, 2)) (hi : i < M.2.2.1) (k : ab_V M post cu su (pc + 2) (ls.set i (some (.ref x))) st nx h) : ab_V M post cu su pc ls (.ref x :: st) nx h := by
  intro p l e s m args below meth c G D H locs A C hW hS hB hL
  obtain ⟨A', e', hL'⟩ := hL.store (v := .ref x) hi rfl
  exact bw_astore C.1 C.2.1 hd e' (k p l e s m args below meth c G D H locs A' C hW hS hB hL')
theorem bv_iinc {i : Nat} {n : Int} {x : Int32} (hd : decode M.2.1 pc = .ok (.iinc i n, 3)) (hi : i < M.2.2.1) (hx : ls[i]? = some (some (.int x))) (k : ab_V M post cu su (pc + 3) (ls.set i (some (.int (x + Int32.ofInt n)))) st nx h) : ab_V M post cu su pc ls st nx h := by
  intro p l e s m args below meth c G D H locs A C hW hS hB hL
  obtain ⟨A', e', hL'⟩ := hL.store (v := .int (x + Int32.ofInt n)) hi rfl
  exact bw_iinc C.1 C.2.1 hd (hL.2.2.2 _ _ hx).2 e' (k p l e s m args below meth c G D H locs A' C hW hS hB hL')
theorem bv_get {idx ci f a : Nat} {fs : List Value} {v : Value} (hd : decode M.2.1 pc = .ok (.getfield idx, 3)) (hl : ab_lf M.1.cls idx ci f) (ha : h a = some (.inl (ci, fs))) (hv : fs[f]? = some v) (k : ab_V M post cu su (pc + 3) ls (v :: st) nx h) : ab_V M post cu su pc ls (.ref a :: st) nx h := by
  intro p l e s m args below meth c G D H locs A C hW hS hB hL
  obtain ⟨CC, T, N, h1, h2, h3⟩ := hl
  obtain ⟨a1, a2, r, r1, r2⟩ := hW.own ha rfl
  cases h1.symm.trans r1
  have hP : va_P D.1 vwCl [(ab_ad G a, .inr (ci, fs.map (ab_v G)))] H := fun j q hq => by
    match j, hq with
    | 0, hq => cases hq; exact ⟨_, h1, r2⟩
    | j + 1, hq => simp at hq
  have hts := C.2.2.2.2.2.1
  have hv' : (fs.map (ab_v G))[f]? = some (ab_v G v) := by rw [List.getElem?_map, hv]; rfl
  rcases h3 with h3 | ⟨host, h3⟩
  · exact va_get (D := D.1) (tys := ab_tys D) C.1 C.2.1 hts (fun w hw => List.mem_cons_of_mem _ ((ab_cls h1).1 w hw)) C.2.2.2.2.1 C.2.2.2.2.2.2.2.2.2.2.2.1 hP 0 rfl h1 f h2 (hts _ (List.mem_cons_of_mem _ h3)) (fun _ h9 => h9) hv' hd (k p l e s m args below meth c G D H locs A C hW hS hB hL)
  · exact va_getN (D := D.1) (tys := ab_tys D) C.1 C.2.1 hts (fun w hw => List.mem_cons_of_mem _ ((ab_cls h1).1 w hw)) C.2.2.2.2.1 C.2.2.2.2.2.2.2.2.2.2.2.1 hP 0 rfl h1 f h2 (va_Nw.use (ab_nw_on (List.mem_filter.mp h3).2) (C.2.2.2.2.2.2.2.2.2.2.1 _ h3)) (fun _ h9 => h9) hv' hd (k p l e s m args below meth c G D H locs A C hW hS hB hL)
theorem ab_map_set (G : ab_G) (fs : List Value) (k : Nat) (v : Value) : (fs.set k v).map (ab_v G) = (fs.map (ab_v G)).set k (ab_v G v) := by
  rw [List.map_set]
theorem bv_put {idx ci f a : Nat} {fs : List Value} {v : Value} {ty : FieldType} (hd : decode M.2.1 pc = .ok (.putfield idx, 3)) (hl : ab_lp M.1.cls idx ci f ty) (ha : h a = some (.inl (ci, fs))) (hf : f < fs.length) (hn : ∀ G : ab_G, narrow ty (ab_v G v) = ab_v G v ∧ fits ty (ab_v G v) = true) (k : ab_V M post cu su (pc + 3) ls st nx (ab_up h a (.inl (ci, fs.set f v)))) : ab_V M post cu su pc ls (v :: .ref a :: st) nx h := by
  intro p l e s m args below meth c G D H locs A C hW hS hB hL
  obtain ⟨⟨CC, T, N, h1, h2, h3⟩, C2, T2, N2, g1, g2, g3⟩ := hl
  cases h1.symm.trans g1
  obtain ⟨a1, a2, r, r1, r2⟩ := hW.own ha rfl
  cases h1.symm.trans r1
  have hts := C.2.2.2.2.2.1
  obtain ⟨t1, ⟨ty0, t2⟩, t3⟩ := ab_cls h1
  have hAa : ab_A G (ab_ad G a) := by rw [ab_ad_own G a1]; exact Nat.le_add_right _ _
  have hlk : (Cond.fieldLink M.1.cls idx (T f).1 (T f).2.1 (T f).2.2.1).before args s = true ∨ ∃ host : String, (Cond.fieldLinkNest M.1.cls idx (T f).1 (T f).2.1 (T f).2.2.1 host).before args s = true := by
    rcases h3 with h3 | ⟨host, h3⟩
    · exact Or.inl (hts _ (List.mem_cons_of_mem _ h3))
    · exact Or.inr ⟨host, va_Nw.use (ab_nw_on (List.mem_filter.mp h3).2) (C.2.2.2.2.2.2.2.2.2.2.1 _ h3)⟩
  refine bw_put (D := D.1) (tys := ab_tys D) C.1 C.2.1 hts (fun w hw => List.mem_cons_of_mem _ (t1 w hw)) ty0 t2 t3 C.2.2.2.2.1 C.2.2.2.2.2.2.2.2.2.2.2.1 r2 hAa hS h1 f h2 hlk g2 g3 (hn G).1 (hn G).2 (by simpa using hf) hd (fun H1 locs1 e1 e2 e3 e4 => ?_)
  refine k p l e s m args below meth c G D H1 locs1 A C (hW.up a1 a2 e2 e3 ⟨_, h1, ?_⟩) e4 hB hL
  show t_OB _ _ _ _ _ (vp_V ((fs.set f v).map (ab_v G)))
  rw [ab_map_set]
  exact e1
theorem bv_iald {a n : Nat} {f : Nat → Int32} {i : Int32} (hd : decode M.2.1 pc = .ok (.iaload, 1)) (ha : h a = some (.inr (0, n, .inl f))) (hi : vp_in i n) (k : ab_V M post cu su (pc + 1) ls (.int (f i.toNatClampNeg) :: st) nx h) : ab_V M post cu su pc ls (.int i :: .ref a :: st) nx h := by
  intro p l e s m args below meth c G D H locs A C hW hS hB hL
  obtain ⟨a1, a2, a3⟩ := hW.own ha rfl
  have hlt : i.toNatClampNeg < n := Nat.not_le.mp fun q => hi (Or.inr q)
  exact W.iald (v := .int (f i.toNatClampNeg)) C.1 C.2.1 a3 ((C.2.2.2.2.2.2.2.2.2.2.2.1.2 0 _ rfl).1 n (fun j => .int (f j))) (fun q => by cases q) (by rw [arrV_size]; exact hi) (by rw [arrV_read _ _ hlt]) rfl rfl hd (k p l e s m args below meth c G D H locs A C hW hS hB hL)
theorem bv_bald {a n : Nat} {f : Nat → Int32} {i : Int32} (hd : decode M.2.1 pc = .ok (.baload, 1)) (ha : h a = some (.inr (1, n, .inl f))) (hi : vp_in i n) (k : ab_V M post cu su (pc + 1) ls (.int (f i.toNatClampNeg) :: st) nx h) : ab_V M post cu su pc ls (.int i :: .ref a :: st) nx h := by
  intro p l e s m args below meth c G D H locs A C hW hS hB hL
  obtain ⟨a1, a2, a3⟩ := hW.own ha rfl
  have hlt : i.toNatClampNeg < n := Nat.not_le.mp fun q => hi (Or.inr q)
  exact W.bald (v := .int (f i.toNatClampNeg)) C.1 C.2.1 a3 ((C.2.2.2.2.2.2.2.2.2.2.2.1.2 1 _ rfl).1 n (fun j => .int (f j))) (fun q => by cases q) (by rw [arrV_size]; exact hi) (by rw [arrV_read _ _ hlt]) rfl rfl hd (k p l e s m args below meth c G D H locs A C hW hS hB hL)
theorem bv_zald {a n : Nat} {f : Nat → Int32} {i : Int32} (hd : decode M.2.1 pc = .ok (.baload, 1)) (ha : h a = some (.inr (2, n, .inl f))) (hi : vp_in i n) (k : ab_V M post cu su (pc + 1) ls (.int (f i.toNatClampNeg) :: st) nx h) : ab_V M post cu su pc ls (.int i :: .ref a :: st) nx h := by
  intro p l e s m args below meth c G D H locs A C hW hS hB hL
  obtain ⟨a1, a2, a3⟩ := hW.own ha rfl
  have hlt : i.toNatClampNeg < n := Nat.not_le.mp fun q => hi (Or.inr q)
  exact W.zald (v := .int (f i.toNatClampNeg)) C.1 C.2.1 a3 ((C.2.2.2.2.2.2.2.2.2.2.2.1.2 2 _ rfl).1 n (fun j => .int (f j))) (fun q => by cases q) (by rw [arrV_size]; exact hi) (by rw [arrV_read _ _ hlt]) rfl rfl hd (k p l e s m args below meth c G D H locs A C hW hS hB hL)
theorem bv_lald {a n : Nat} {f : Nat → Int64} {i : Int32} (hd : decode M.2.1 pc = .ok (.laload, 1)) (ha : h a = some (.inr (3, n, .inr (.inl f)))) (hi : vp_in i n) (k : ab_V M post cu su (pc + 1) ls (.long (f i.toNatClampNeg) :: st) nx h) : ab_V M post cu su pc ls (.int i :: .ref a :: st) nx h := by
  intro p l e s m args below meth c G D H locs A C hW hS hB hL
  obtain ⟨a1, a2, a3⟩ := hW.own ha rfl
  have hlt : i.toNatClampNeg < n := Nat.not_le.mp fun q => hi (Or.inr q)
  exact W.lald (v := .long (f i.toNatClampNeg)) C.1 C.2.1 a3 ((C.2.2.2.2.2.2.2.2.2.2.2.1.2 3 _ rfl).1 n (fun j => .long (f j))) (fun q => by cases q) (by rw [arrV_size]; exact hi) (by rw [arrV_read _ _ hlt]) rfl rfl hd (k p l e s m args below meth c G D H locs A C hW hS hB hL)
theorem ab_updV_i (f : Nat → Int32) (k : Nat) (x : Int32) : updV (fun j => Value.int (f j)) k (.int x) = fun j => .int (upd f k x j) := by
  funext q
  by_cases hq : q = k
  · subst hq; simp [updV, upd]
  · simp [updV, upd, hq]
theorem bv_iast {a n : Nat} {f : Nat → Int32} {i x : Int32} (hd : decode M.2.1 pc = .ok (.iastore, 1)) (ha : h a = some (.inr (0, n, .inl f))) (hi : vp_in i n) (k : ab_V M post cu su (pc + 1) ls st nx (ab_up h a (.inr (0, n, .inl (upd f i.toNatClampNeg x))))) : ab_V M post cu su pc ls (.int x :: .int i :: .ref a :: st) nx h := by
  intro p l e s m args below meth c G D H locs A C hW hS hB hL
  obtain ⟨a1, a2, a3⟩ := hW.own ha rfl
  have hAa : ab_A G (ab_ad G a) := by rw [ab_ad_own G a1]; exact Nat.le_add_right _ _
  refine W.iast C.1 C.2.1 a3 ((C.2.2.2.2.2.2.2.2.2.2.2.1.2 0 _ rfl).1 n (fun j => .int (f j))) (fun q => by cases q) (by rw [arrV_size]; exact hi) rfl rfl hd fun H1 e z oq => ?_
  refine k p _ _ s m args below meth c G D H1 _ A C (hW.up a1 a2 z oq ?_) (hS.put z oq hAa) hB hL
  show H1[_]? = some _
  rw [e, arrV_store, ab_updV_i]
theorem bv_bast {a n : Nat} {f : Nat → Int32} {i x : Int32} (hd : decode M.2.1 pc = .ok (.bastore, 1)) (ha : h a = some (.inr (1, n, .inl f))) (hi : vp_in i n) (k : ab_V M post cu su (pc + 1) ls st nx (ab_up h a (.inr (1, n, .inl (upd f i.toNatClampNeg (vp_nar .byte x)))))) : ab_V M post cu su pc ls (.int x :: .int i :: .ref a :: st) nx h := by
  intro p l e s m args below meth c G D H locs A C hW hS hB hL
  obtain ⟨a1, a2, a3⟩ := hW.own ha rfl
  have hAa : ab_A G (ab_ad G a) := by rw [ab_ad_own G a1]; exact Nat.le_add_right _ _
  refine W.bast C.1 C.2.1 a3 ((C.2.2.2.2.2.2.2.2.2.2.2.1.2 1 _ rfl).1 n (fun j => .int (f j))) (fun q => by cases q) (by rw [arrV_size]; exact hi) rfl rfl hd fun H1 e z oq => ?_
  refine k p _ _ s m args below meth c G D H1 _ A C (hW.up a1 a2 z oq ?_) (hS.put z oq hAa) hB hL
  show H1[_]? = some _
  rw [e, arrV_store, show narrow .byte (.int x) = .int (vp_nar .byte x) from rfl, ab_updV_i]
theorem bv_zast {a n : Nat} {f : Nat → Int32} {i x : Int32} (hd : decode M.2.1 pc = .ok (.bastore, 1)) (ha : h a = some (.inr (2, n, .inl f))) (hi : vp_in i n) (k : ab_V M post cu su (pc + 1) ls st nx (ab_up h a (.inr (2, n, .inl (upd f i.toNatClampNeg (vp_nar .boolean x)))))) : ab_V M post cu su pc ls (.int x :: .int i :: .ref a :: st) nx h := by
  intro p l e s m args below meth c G D H locs A C hW hS hB hL
  obtain ⟨a1, a2, a3⟩ := hW.own ha rfl
  have hAa : ab_A G (ab_ad G a) := by rw [ab_ad_own G a1]; exact Nat.le_add_right _ _
  refine W.zast C.1 C.2.1 a3 ((C.2.2.2.2.2.2.2.2.2.2.2.1.2 2 _ rfl).1 n (fun j => .int (f j))) (fun q => by cases q) (by rw [arrV_size]; exact hi) rfl rfl hd fun H1 e z oq => ?_
  refine k p _ _ s m args below meth c G D H1 _ A C (hW.up a1 a2 z oq ?_) (hS.put z oq hAa) hB hL
  show H1[_]? = some _
  rw [e, arrV_store, show narrow .boolean (.int x) = .int (vp_nar .boolean x) from rfl, ab_updV_i]
theorem bv_last {a n : Nat} {f : Nat → Int64} {i : Int32} {x : Int64} (hd : decode M.2.1 pc = .ok (.lastore, 1)) (ha : h a = some (.inr (3, n, .inr (.inl f)))) (hi : vp_in i n) (k : ab_V M post cu su (pc + 1) ls st nx (ab_up h a (.inr (3, n, .inr (.inl (vp_updL f i.toNatClampNeg x)))))) : ab_V M post cu su pc ls (.long x :: .int i :: .ref a :: st) nx h := by
  intro p l e s m args below meth c G D H locs A C hW hS hB hL
  obtain ⟨a1, a2, a3⟩ := hW.own ha rfl
  have hAa : ab_A G (ab_ad G a) := by rw [ab_ad_own G a1]; exact Nat.le_add_right _ _
  refine W.last C.1 C.2.1 a3 ((C.2.2.2.2.2.2.2.2.2.2.2.1.2 3 _ rfl).1 n (fun j => .long (f j))) (fun q => by cases q) (by rw [arrV_size]; exact hi) rfl rfl hd fun H1 e z oq => ?_
  refine k p _ _ s m args below meth c G D H1 _ A C (hW.up a1 a2 z oq ?_) (hS.put z oq hAa) hB hL
  show H1[_]? = some _
  rw [e, arrV_store]
  congr 2
  funext q
  by_cases hq : q = i.toNatClampNeg
  · subst hq; simp [updV, vp_updL]
  · simp [updV, vp_updL, hq]
theorem bv_alen {a kd n : Nat} {f : Nat → Int32} (hd : decode M.2.1 pc = .ok (.arraylength, 1)) (hk : kd < 3) (ha : h a = some (.inr (kd, n, .inl f))) (k : ab_V M post cu su (pc + 1) ls (.int (nI n) :: st) nx h) : ab_V M post cu su pc ls (.ref a :: st) nx h := by
  intro p l e s m args below meth c G D H locs A C hW hS hB hL
  obtain ⟨a1, a2, a3⟩ := hW.own ha (by rcases (show kd = 0 ∨ kd = 1 ∨ kd = 2 by omega) with rfl | rfl | rfl <;> rfl)
  obtain ⟨ty, hty⟩ : ∃ ty, (ab_tys D)[kd]? = some (D.2 kd, ty) := by
    match kd, hk with
    | 0, _ => exact ⟨_, rfl⟩
    | 1, _ => exact ⟨_, rfl⟩
    | 2, _ => exact ⟨_, rfl⟩
  exact W.alen (n := nI n) C.1 C.2.1 a3 ((C.2.2.2.2.2.2.2.2.2.2.2.1.2 kd _ hty).1 n (fun j => .int (f j))) (by rw [arrV_size]; rfl) rfl rfl hd (k p l e s m args below meth c G D H locs A C hW hS hB hL)
end BV
