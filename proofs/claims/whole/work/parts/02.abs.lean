/-! ===== the abstract machine: pointers, values, cells, heaps ===== -/
/-- the base of the run's own cells, and where the constants lie -/
abbrev ab_G : Type := Nat × (Nat → Nat)
def ab_ad (G : ab_G) (k : Nat) : Nat := if k < 3000 then G.2 k else G.1 + (k - 3000)
def ab_v (G : ab_G) (v : Value) : Value := match v with
  | .ref k => .ref (ab_ad G k)
  | v => v
theorem ab_v_int (G : ab_G) (x : Int32) : ab_v G (.int x) = .int x := rfl
theorem ab_v_long (G : ab_G) (x : Int64) : ab_v G (.long x) = .long x := rfl
theorem ab_v_null (G : ab_G) : ab_v G .null = .null := rfl
theorem ab_v_ref (G : ab_G) (k : Nat) : ab_v G (.ref k) = .ref (ab_ad G k) := rfl
theorem ab_v_cat (G : ab_G) (v : Value) : (ab_v G v).category = v.category := by cases v <;> rfl
/-- an object (its class's place in vwCl, its fields); a row (its kind, its length, what it holds) -/
abbrev ab_C : Type := (Nat × List Value) ⊕ (Nat × Nat × ((Nat → Int32) ⊕ (Nat → Int64) ⊕ (Nat → Option Nat)))
abbrev ab_H : Type := Nat → Option ab_C
/-- classes by their places in vwCl, their slots; rows' classes by their kinds -/
abbrev ab_D : Type := va_G × (Nat → ClassId)
def ab_tys (D : ab_D) : List (ClassId × FieldType) := [(D.2 0, .int), (D.2 1, .byte), (D.2 2, .boolean), (D.2 3, .long), (D.2 4, .object "DreamFort$Kind"), (D.2 5, .object "DreamFort$Fort")]
def ab_at (G : ab_G) (D : ab_D) (a : Nat) (c : ab_C) (H : Heap) : Prop := match c with
  | .inl o => ∃ r : vw_C, vwCl[o.1]? = some r ∧ t_OB a (D.1.1 o.1) r.2.2 (D.1.2 o.1) H (vp_V (o.2.map (ab_v G)))
  | .inr (k, n, .inl f) => H[a]? = some (arrV (D.2 k) n (fun j => .int (f j)))
  | .inr (k, n, .inr (.inl f)) => H[a]? = some (arrV (D.2 k) n (fun j => .long (f j)))
  | .inr (k, n, .inr (.inr f)) => H[a]? = some (arrV (D.2 k) n (fun j => va_rf ((f j).map (ab_ad G))))
/-- the script's cell (its number 2300): its length and its ints, as G has them -/
def ab_scr (G : ab_G) : ab_C := .inr (7, G.2 3000, .inl (fun j => Int32.ofNat (G.2 (3001 + j))))
def ab_sp (c : ab_C) : Bool := match c with
  | .inl _ => false
  | .inr q => Nat.beq q.1 7
def ab_W (G : ab_G) (D : ab_D) (nx : Nat) (h : ab_H) (H : Heap) : Prop := 3000 ≤ nx ∧ H.size + 3000 = G.1 + nx ∧ (∀ (k : Nat) (c : ab_C), h k = some c → k ≠ 2300 → 3000 ≤ k ∧ k < nx ∧ ab_at G D (ab_ad G k) c H) ∧ ∀ c : ab_C, h 2300 = some c → c = ab_scr G
theorem ab_W.own {G : ab_G} {D : ab_D} {nx : Nat} {h : ab_H} {H : Heap} {k : Nat} {c : ab_C} (hW : ab_W G D nx h H) (hk : h k = some c) (hs : ab_sp c = false) : 3000 ≤ k ∧ k < nx ∧ ab_at G D (ab_ad G k) c H := by
  refine hW.2.2.1 k c hk (fun e => ?_)
  subst e
  rw [hW.2.2.2 c hk] at hs
  cases hs
/-- what may be written: all that the run has made -/
def ab_A (G : ab_G) : Nat → Prop := fun q => G.1 ≤ q
theorem ab_ad_own (G : ab_G) {k : Nat} (h : 3000 ≤ k) : ab_ad G k = G.1 + (k - 3000) := by
  unfold ab_ad
  rw [if_neg (by omega)]
theorem ab_ad_inj (G : ab_G) {j k : Nat} (hj : 3000 ≤ j) (hk : 3000 ≤ k) (h : ab_ad G j = ab_ad G k) : j = k := by
  rw [ab_ad_own G hj, ab_ad_own G hk] at h
  omega
theorem ab_at.kept {G : ab_G} {D : ab_D} {a : Nat} {c : ab_C} {H H1 : Heap} (h : ab_at G D a c H) (hq : H1[a]? = H[a]?) : ab_at G D a c H1 := by
  rcases c with o | ⟨k, n, f | f | f⟩
  · obtain ⟨r, h1, h2⟩ := h
    exact ⟨r, h1, h2.kept hq⟩
  · exact hq.trans h
  · exact hq.trans h
  · exact hq.trans h
/-- one cell more, or another in its place -/
def ab_up (h : ab_H) (k : Nat) (c : ab_C) : ab_H := fun j => if j = k then some c else h j
theorem ab_up_s (h : ab_H) (k : Nat) (c : ab_C) : ab_up h k c k = some c := if_pos rfl
theorem ab_up_n (h : ab_H) {k j : Nat} (c : ab_C) (hj : j ≠ k) : ab_up h k c j = h j := if_neg hj
theorem ab_W.up {G : ab_G} {D : ab_D} {nx : Nat} {h : ab_H} {H H1 : Heap} {k : Nat} {c : ab_C} (hW : ab_W G D nx h H) (hk : 3000 ≤ k) (hk2 : k < nx) (hz : H1.size = H.size) (ho : ∀ q : Nat, q ≠ ab_ad G k → H1[q]? = H[q]?) (hc : ab_at G D (ab_ad G k) c H1) : ab_W G D nx (ab_up h k c) H1 := by
  obtain ⟨h1, h2, h3, h4⟩ := hW
  refine ⟨h1, by omega, fun j d hj hj0 => ?_, fun d hd => h4 d (by rw [ab_up_n _ _ (by omega)] at hd; exact hd)⟩
  by_cases e : j = k
  · subst e
    rw [ab_up_s] at hj
    cases hj
    exact ⟨hk, hk2, hc⟩
  · rw [ab_up_n _ _ e] at hj
    obtain ⟨a1, a2, a3⟩ := h3 j d hj hj0
    exact ⟨a1, a2, a3.kept (ho _ (fun q => e (ab_ad_inj G a1 hk q)))⟩
theorem ab_W.new {G : ab_G} {D : ab_D} {nx : Nat} {h : ab_H} {H H1 : Heap} {c : ab_C} (hW : ab_W G D nx h H) (hz : H1.size = H.size + 1) (ho : ∀ q : Nat, q < H.size → H1[q]? = H[q]?) (hc : ab_at G D H.size c H1) : ab_W G D (nx + 1) (ab_up h nx c) H1 := by
  obtain ⟨h1, h2, h3, h4⟩ := hW
  refine ⟨by omega, by omega, fun j d hj hj0 => ?_, fun d hd => h4 d (by rw [ab_up_n _ _ (by omega)] at hd; exact hd)⟩
  by_cases e : j = nx
  · subst e
    rw [ab_up_s] at hj
    cases hj
    refine ⟨h1, by omega, ?_⟩
    rw [ab_ad_own G h1, show G.1 + (j - 3000) = H.size by omega]
    exact hc
  · rw [ab_up_n _ _ e] at hj
    obtain ⟨a1, a2, a3⟩ := h3 j d hj hj0
    refine ⟨a1, by omega, a3.kept (ho _ ?_)⟩
    rw [ab_ad_own G a1]
    omega
theorem ab_W.base {G : ab_G} {D : ab_D} {nx : Nat} {h : ab_H} {H : Heap} (hW : ab_W G D nx h H) : G.1 ≤ H.size := by
  obtain ⟨h1, h2, -⟩ := hW
  omega
/-- fewer cells are known -/
theorem ab_W.less {G : ab_G} {D : ab_D} {nx : Nat} {h h' : ab_H} {H : Heap} (hW : ab_W G D nx h H) (hh : ∀ k c, h' k = some c → h k = some c) : ab_W G D nx h' H := ⟨hW.1, hW.2.1, fun k c hc hk => hW.2.2.1 k c (hh k c hc) hk, fun c hc => hW.2.2.2 c (hh 2300 c hc)⟩
/-! what the tables and the constants say -/
def ab_T : List Cond := lw_tbl.filter goodWord
def ab_ws (y : MethodName) (cc : ByteArray) (maxL : Nat) (ret : Option FieldType) : List Cond := Cond.code y cc maxL ret :: ab_T
/-- words of nest mates, of what is declared, of casts: they are kept too, but by rows of their own -/
def ab_nw : Cond → Bool
  | .fieldLinkNest .. => true
  | .methodLinkNest .. => true
  | .declares _ => true
  | .castable .. => true
  | _ => false
def ab_N : List Cond := lw_tbl.filter ab_nw
theorem ab_nw_on {w : Cond} (h : ab_nw w = true) : w.onTables = true := by
  cases w <;> first | rfl | cases h
theorem ab_nw_warm {w : Cond} (h : ab_nw w = true) {s U : State} (hW : s.WarmedH U.vm) (hz : va_Nw w s) : va_Nw w U := by
  cases w <;> first | exact va_Nw.warmF hW hz | exact va_Nw.warmM hW hz | exact va_Nw.warmD hW hz | exact va_Nw.warmC hW hz | cases h
def ab_K (G : ab_G) (D : ab_D) (U : State) : Prop := (∀ w ∈ ab_N, va_Nw w U) ∧ va_K D.1 vwCl (ab_tys D) U ∧ vx_Zq "java/lang/Throwable" "UNASSIGNED_STACK" "[Ljava/lang/StackTraceElement;" (ab_A G) U U.heap ∧ vx_Zq "java/lang/Throwable" "SUPPRESSED_SENTINEL" "Ljava/util/List;" (ab_A G) U U.heap ∧ kc G.2 (ab_A G) U
theorem ab_K.next {G : ab_G} {D : ab_D} {s U : State} (h : ab_K G D s) (hW : s.WarmedH U.vm) (hq : ∀ a : Nat, a < s.heap.size → ¬ ab_A G a → U.heap[a]? = s.heap[a]?) : ab_K G D U := by
  obtain ⟨h0, h1, h2, h3, h4⟩ := h
  exact ⟨fun w hw => ab_nw_warm (List.mem_filter.mp hw).2 hW (h0 w hw), h1.moved hW.alike, (h2.kept hq).moved hW.alike, (h3.kept hq).moved hW.alike, h4.next hW hq⟩
/-! ===== a method, its contract, its walk ===== -/
/-- name, bytes, locals, answer; how deep it calls; how many cells of how many slots it makes at most -/
abbrev ab_M : Type := MethodName × ByteArray × Nat × Option FieldType × Nat × Nat × Nat
abbrev ab_R : Type := Option Value ⊕ String
abbrev ab_P : Type := ab_R → Nat → ab_H → Prop
def ab_rm (M : ab_M) : Room := { frames := M.2.2.2.2.1, cells := M.2.2.2.2.2.1, slots := M.2.2.2.2.2.2, locals := 100 * M.2.2.2.2.1 }
def ab_Q (G : ab_G) (D : ab_D) (post : ab_P) : Array Value → State → Outcome → State → Prop := fun _ st o t => (∃ (r : Option Value) (nx : Nat) (h : ab_H), o = .returned (r.map (ab_v G)) ∧ post (.inl r) nx h ∧ ab_W G D nx h t.heap) ∧ va_F (ab_A G) st t
def ab_X (G : ab_G) (D : ab_D) (post : ab_P) : String → State → State → Prop := fun E st t => (∃ (nx : Nat) (h : ab_H), post (.inr E) nx h ∧ ab_W G D nx h t.heap) ∧ va_F (ab_A G) st t
def ab_Pc (G : ab_G) (D : ab_D) (av : List Value) (nx : Nat) (h : ab_H) : Array Value → State → Prop := fun a U => a = (av.map (ab_v G)).toArray ∧ ab_W G D nx h U.heap ∧ ab_K G D U
def ab_Con (M : ab_M) (av : List Value) (nx : Nat) (h : ab_H) (post : ab_P) : Prop := ∀ (l : Launch) (G : ab_G) (D : ab_D), l.stackTraces = false → vx_Met l M.1 (ab_ws M.1 M.2.1 M.2.2.1 M.2.2.2.1) (ab_rm M) (ab_Pc G D av nx h) (ab_Q G D post) (ab_X G D post) M.2.2.2.2.2.1 M.2.2.2.2.2.2 (ab_A G)
/-- locals: of some what they hold -/
def ab_L (G : ab_G) (n : Nat) (ls : List (Option Value)) (A : Array Slot) : Prop := A.size = n ∧ ls.length = n ∧ lv_wf A ∧ ∀ (i : Nat) (v : Value), ls[i]? = some (some v) → v.category = 1 ∧ A[i]? = some (.val (ab_v G v))
/-- what is fixed in a body -/
def ab_Cx (M : ab_M) (p : Program) (l : Launch) (s : State) (m : MethodId) (args : Array Value) (meth : Method) (c : Code) (G : ab_G) (D : ab_D) : Prop :=
  p.tables.exec = Jvm.exec ∧ c.code = M.2.1 ∧ meth.sig.returnType = M.2.2.2.1 ∧ c.maxLocals = M.2.2.1 ∧ s.vm.findClass M.1.cls = some m.cls ∧ (∀ w ∈ ab_ws M.1 M.2.1 M.2.2.1 M.2.2.2.1, w.before args s = true) ∧ meth.locks = false ∧ meth.name = M.1.name ∧ (∀ x ∈ c.exceptionTable.toList, False) ∧ l.stackTraces = false ∧ ab_K G D s
def ab_V (M : ab_M) (post : ab_P) (cu su pc : Nat) (ls : List (Option Value)) (st : List Value) (nx : Nat) (h : ab_H) : Prop :=
  ∀ (p : Program) (l : Launch) (e : Env) (s : State) (m : MethodId) (args : Array Value) (below : List Frame) (meth : Method) (c : Code) (G : ab_G) (D : ab_D) (H : Heap) (locs : List Loc) (A : Array Slot),
    ab_Cx M p l s m args meth c G D → ab_W G D nx h H → va_S (ab_A G) s.heap H locs → G.1 ≤ s.heap.size → ab_L G M.2.2.1 ls A →
    W p l e (ab_rm M) s m args below meth c H locs cu su (vx_MQ below (ab_Q G D post) (ab_X G D post) args s M.2.2.2.2.2.1 M.2.2.2.2.2.2 (ab_A G)) (F0 m pc A (st.map (ab_v G)))
def ab_l0 (n : Nat) (av : List Value) : List (Option Value) := av.map some ++ List.replicate (n - av.length) none
theorem ab_sl1 {vs : List Value} (h : ∀ v ∈ vs, v.category = 1) : lg_sl vs = vs.map Slot.val := by
  induction vs with
  | nil => rfl
  | cons v t ih =>
    have e1 : v.category = 1 := h v List.mem_cons_self
    have e2 := ih (fun w hw => h w (List.mem_cons_of_mem _ hw))
    simp only [lg_sl, List.flatMap_cons, List.map_cons] at e2 ⊢
    rw [e2]
    cases v <;> first | rfl | exact absurd e1 (by simp [Value.category])
/-- a contract out of a walk from the entry -/
theorem ab_Con.of {M : ab_M} {av : List Value} {nx : Nat} {h : ab_H} {post : ab_P} (hy : plainName M.1.cls = true) (hav : av.all (fun v => v.category == 1) = true) (hn : av.length ≤ M.2.2.1)
    (k : ab_V M post 0 0 0 (ab_l0 M.2.2.1 av) [] nx h) : ab_Con M av nx h post := by
  intro l G D hl
  refine vx_ofW (cc := M.2.1) (maxL := M.2.2.1) (ret := M.2.2.2.1) hy rfl ?_
  intro p e s m args below meth c s₁ B hml ht hv
  obtain ⟨hv1, hv2, hv3⟩ := hv
  have hts := atoms_spec (ws := ab_ws M.1 M.2.1 M.2.2.1 M.2.2.2.1) B.pre
  have hown : s.vm.findClass M.1.cls = some m.cls := findClass_of_methodNamed B.named
  have hcat : ∀ v ∈ av.map (ab_v G), v.category = 1 := by
    intro v hv
    obtain ⟨w, hw, rfl⟩ := List.mem_map.mp hv
    rw [ab_v_cat]
    have := List.all_eq_true.mp hav w hw
    simpa using this
  have hsl := ab_sl1 hcat
  subst hv1
  have hen := lv_entry (av.map (ab_v G)) (n := M.2.2.1) (by rw [hsl]; simpa using hn)
  rw [lg_entry_eq]
  refine k p l e s m _ below meth c G D s.heap [] _ ⟨B.exec, B.bytes, B.returns, hml, hown, hts, B.notSynchronized, (name_of_methodNamed B.named B.method).1, ht, hl, hv3⟩ hv2 va_S.rf hv2.base ?_
  refine ⟨hen.1, by simp [ab_l0]; omega, hen.2.1, fun i v hi => ?_⟩
  have hi2 : i < av.length := by
    rcases Nat.lt_or_ge i av.length with q | q
    · exact q
    · exfalso
      unfold ab_l0 at hi
      rw [List.getElem?_append_right (by simpa using q), List.getElem?_replicate] at hi
      split at hi <;> cases hi
  have hi3 : av[i]? = some v := by
    unfold ab_l0 at hi
    rw [List.getElem?_append_left (by simpa using hi2), List.getElem?_map] at hi
    cases e : av[i]? with
    | none => rw [e] at hi; cases hi
    | some w => rw [e] at hi; cases hi; rfl
  refine ⟨?_, ?_⟩
  · have := List.all_eq_true.mp hav v (List.mem_of_getElem? hi3)
    simpa using this
  · rw [hsl]
    simp only [List.getElem?_toArray]
    rw [List.getElem?_append_left (by simpa using hi2), List.getElem?_map, List.getElem?_map, hi3]
    rfl
