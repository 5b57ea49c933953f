/-! ===== the start ===== -/
def fN : List Cond := flatC (Cond.and given_1 narrow_1)
def kcB : List (String × Nat × Nat) := [("DreamFort", 124, 277), ("DreamFort", 134, 314), ("DreamFort", 146, 352), ("DreamFort", 448, 384), ("DreamFort", 188, 413), ("DreamFort", 451, 452), ("DreamFort", 223, 480), ("DreamFort", 254, 518), ("DreamFort", 453, 545), ("DreamFort", 270, 570), ("DreamFort", 277, 600), ("DreamFort", 291, 626), ("DreamFort", 296, 649), ("DreamFort", 304, 666), ("DreamFort", 455, 688), ("DreamFort", 322, 717), ("DreamFort", 381, 743), ("DreamFort", 383, 776), ("DreamFort", 385, 810), ("DreamFort", 334, 836), ("DreamFort", 396, 861), ("DreamFort", 431, 886), ("DreamFort$Kind", 158, 1083), ("DreamFort$Kind", 172, 1096), ("DreamFort$Kind", 175, 1106), ("DreamFort$Kind", 163, 1116), ("DreamFort$Kind", 166, 1128), ("DreamFort$Kind", 169, 1138), ("DreamFort$Kind", 181, 1149), ("DreamFort$Kind", 187, 1157), ("DreamFort$Kind", 178, 1167), ("DreamFort$Kind", 190, 1176), ("DreamFort$Kind", 193, 1187), ("DreamFort$Kind", 196, 1197), ("DreamFort$Kind", 199, 1206), ("DreamFort$Kind", 202, 1215), ("DreamFort$Kind", 205, 1224), ("DreamFort$Kind", 214, 1231), ("DreamFort$Kind", 184, 1284), ("DreamFort$Kind", 211, 1264), ("DreamFort$Kind", 208, 1272), ("DreamFort$Kind", 131, 1079), ("DreamFort$Kind", 143, 1239), ("DreamFort$Kind", 146, 1244), ("DreamFort$Kind", 155, 1249), ("DreamFort$Kind", 149, 1254), ("DreamFort$Kind", 152, 1259), ("DreamFort$Kind", 140, 1279)]
def kcb (i : Nat) : String × Nat × Nat := kcB.getD i ("", 0, 0)
def kct (i : Nat) : Term := .string (kcb i).1 (kcb i).2.1
def kcE (i : Nat) : List Cond := Cond.exactly (kct i) "java/lang/String" :: Cond.eq (.field (kct i) "java/lang/String" "coder" "B") (.int 0) :: Cond.arrayOf (.field (kct i) "java/lang/String" "value" "[B") .byte :: Cond.eq (.length (.field (kct i) "java/lang/String" "value" "[B")) (.int (Int32.ofNat (kcT.getD i []).length)) :: (List.range (kcT.getD i []).length).map (fun j => Cond.eq (.elem (.field (kct i) "java/lang/String" "value" "[B") (.int (Int32.ofNat j))) (.int ((kcT.getD i []).getD j 0)))
theorem kcE_ok : ∀ i, i < 48 → (fN.drop (kcb i).2.2).take (kcE i).length = kcE i := by decide +kernel
theorem kcE_in {i : Nat} (hi : i < 48) {w : Cond} (hw : w ∈ kcE i) : w ∈ fN := by
  rw [← kcE_ok i hi] at hw
  exact List.mem_of_mem_drop (List.mem_of_mem_take hw)
theorem kcQ_ok : kcS.all (fun q => decide ((q.1, q.2.1) = ((kcb q.2.2.2).1, (kcb q.2.2.2).2.1)) || decide (Cond.eq (.string q.1 q.2.1) (kct q.2.2.2) ∈ fN)) = true := by decide +kernel
theorem kcR_ok : kcS.all (fun q => decide (Cond.stringRef q.1 q.2.1 q.2.2.1 ∈ tables_1) && decide (q.2.2.2 < 48)) = true := by decide +kernel
theorem kcT_ok : ∀ i, i < 48 → (kcT.getD i []).length < 1000 := by decide +kernel
def kKd : String := "DreamFort$Kind"
def kKD : String := "LDreamFort$Kind;"
def kst (i : Nat) : Term := .static "DreamFort$Kind" (kcN.getD i "") "LDreamFort$Kind;"
def kcK (i : Nat) : List Cond := [Cond.exactly (kst i) "DreamFort$Kind", Cond.eq (.field (kst i) "java/lang/Enum" "ordinal" "I") (.int ((kcF.getD 0 ("", "", "", [])).2.2.2.getD i 0)), Cond.eq (.field (kst i) "DreamFort$Kind" "fact" "I") (.int ((kcF.getD 1 ("", "", "", [])).2.2.2.getD i 0)), Cond.eq (.field (kst i) "DreamFort$Kind" "spelling" "Ljava/lang/String;") (kct (kcP.getD i 0)), Cond.eq (.elem (.static "DreamFort" "KINDS" "[LDreamFort$Kind;") (.int (Int32.ofNat i))) (kst i)]
theorem kcK_ok : ∀ i, i < 29 → (kcK i).all (fun w => decide (w ∈ fN)) = true ∧ kcP.getD i 0 < 48 ∧ decide (Cond.laysStatic "DreamFort$Kind" (kcN.getD i "") "LDreamFort$Kind;" ∈ tables_1) = true := by decide +kernel
theorem kcK_in {i : Nat} (hi : i < 29) {w : Cond} (hw : w ∈ kcK i) : w ∈ fN := by simpa using List.all_eq_true.mp (kcK_ok i hi).1 w hw
theorem kcO_ok : ∀ i, i < 29 → (kcF.getD 0 ("", "", "", [])).2.2.2.getD i 0 = Int32.ofNat i := by decide +kernel
theorem kcX_ok : kcX.all (fun q => decide (Cond.not (.castable q.1 q.2) ∈ fN)) = true := by decide +kernel
/-- of every class of the world: its fields' words, and that it can be made -/
def wCk (q : vw_C) : Bool := (List.range q.2.2).all (fun k => decide (Cond.lays q.1 (q.2.1 k).1 (q.2.1 k).2.1 (q.2.1 k).2.2.1 ∈ tables_1) || decide (Cond.laysFinal q.1 (q.2.1 k).1 (q.2.1 k).2.1 (q.2.1 k).2.2.1 ∈ tables_1)) && decide (Cond.instantiable q.1 q.2.2 ∈ tables_1)
theorem wCk_ok : vwCl.all wCk = true := by decide +kernel
section ST
variable {s : State} {args : Array Value}
theorem va_OF.one {o n d : String} {v v' : Value} {t : Nat} {A : Nat → Prop} {U : State} {H : Heap} (h : va_OF o n d v t A U H) (h' : va_OF o n d v' t A U H) : v = v' := by
  obtain ⟨cf, k, i, f, cell, a1, a2, a3, a4, a5, a6⟩ := h
  obtain ⟨cf', k', i', f', cell', b1, b2, b3, b4, b5, b6⟩ := h'
  cases Option.some.inj (a1.symm.trans b1)
  cases Option.some.inj (a3.symm.trans b3)
  exact Option.some.inj (a5.symm.trans b5)
/-- the strings -/
theorem st_str (hn : ∀ w ∈ fN, w.before args s = true) {A : Nat → Prop} (hA : ∀ a : Nat, a < s.heap.size → ¬ A a) : ∃ adK adV : Nat → Nat, ∀ i, i < 48 → (kct i).eval args s none [] s = some (.ref (adK i)) ∧ va_O "java/lang/String" (adK i) A s s.heap ∧ va_OF "java/lang/String" "coder" "B" (.int 0) (adK i) A s s.heap ∧ va_OF "java/lang/String" "value" "[B" (.ref (adV i)) (adK i) A s s.heap ∧ va_T .byte (adV i) (kcT.getD i []).length (fun j => .int ((kcT.getD i []).getD j 0)) A s s.heap := by
  have h0 : ∀ i : Nat, ∃ q : Nat × Nat, i < 48 → (kct i).eval args s none [] s = some (.ref q.1) ∧ va_O "java/lang/String" q.1 A s s.heap ∧ va_OF "java/lang/String" "coder" "B" (.int 0) q.1 A s s.heap ∧ va_OF "java/lang/String" "value" "[B" (.ref q.2) q.1 A s s.heap ∧ va_T .byte q.2 (kcT.getD i []).length (fun j => .int ((kcT.getD i []).getD j 0)) A s s.heap := by
    intro i
    by_cases hi : i < 48
    · have hin : ∀ w ∈ kcE i, w.before args s = true := fun w hw => hn w (kcE_in hi hw)
      have w1 := hin (Cond.exactly (kct i) "java/lang/String") (by unfold kcE; simp)
      have w2 := hin (Cond.eq (.field (kct i) "java/lang/String" "coder" "B") (.int 0)) (by unfold kcE; simp)
      have w3 := hin (Cond.arrayOf (.field (kct i) "java/lang/String" "value" "[B") .byte) (by unfold kcE; simp)
      have w4 := hin (Cond.eq (.length (.field (kct i) "java/lang/String" "value" "[B")) (.int (Int32.ofNat (kcT.getD i []).length))) (by unfold kcE; simp)
      have w5 : ∀ j, j < (kcT.getD i []).length → (Cond.eq (.elem (.field (kct i) "java/lang/String" "value" "[B") (.int (Int32.ofNat j))) (.int ((kcT.getD i []).getD j 0))).before args s = true := fun j hj => hin _ (by
        unfold kcE
        exact List.mem_cons_of_mem _ (List.mem_cons_of_mem _ (List.mem_cons_of_mem _ (List.mem_cons_of_mem _ (List.mem_map.mpr ⟨j, List.mem_range.mpr hj, rfl⟩)))))
      obtain ⟨a, c, cA, kA, q1, q2, q3, q4, q5, q6, -⟩ := Cond.exactly_spec (args := args) (first := s) (o := none) (s := s) (idx := []) (t := kct i) (cls := "java/lang/String") w1
      have hl := kcT_ok i hi
      obtain ⟨t, ht, hT⟩ := va_Tof (f := fun j => .int ((kcT.getD i []).getD j 0)) (A := A) (by omega) w3 (va_eqt w4) (fun j hj => va_eqt (w5 j hj)) hA
      exact ⟨(a, t), fun _ => ⟨q1, ⟨cA, q3, q5, by rw [q6]; exact q2, hA a (Array.getElem?_eq_some_iff.mp q3).1⟩, vk_OFof q1 (va_eqt w2) hA, vk_OFof q1 ht hA, hT⟩⟩
    · exact ⟨(0, 0), fun h => absurd h hi⟩
  obtain ⟨f, hf⟩ := Classical.axiomOfChoice h0
  exact ⟨fun i => (f i).1, fun i => (f i).2, hf⟩
/-- the kinds -/
theorem st_knd (hn : ∀ w ∈ fN, w.before args s = true) (ht : ∀ w ∈ tables_1, w.before args s = true) {A : Nat → Prop} (hA : ∀ a : Nat, a < s.heap.size → ¬ A a) : ∃ ad : Nat → Nat, va_En "DreamFort$Kind" "LDreamFort$Kind;" kcN kcF ad A s s.heap ∧ ∀ i, i < 29 → (kst i).eval args s none [] s = some (.ref (ad i)) := by
  have hini : (Cond.initialized "DreamFort$Kind").before args s = true := ht _ (by decide +kernel)
  have h0 : ∀ i : Nat, ∃ t : Nat, i < 29 → (kst i).eval args s none [] s = some (.ref t) ∧ va_O "DreamFort$Kind" t A s s.heap := by
    intro i
    by_cases hi : i < 29
    · obtain ⟨a, c, cell, k, q1, q2, q3, q4, q5, q6, -⟩ := Cond.exactly_spec (args := args) (first := s) (o := none) (s := s) (idx := []) (hn (Cond.exactly (kst i) "DreamFort$Kind") (kcK_in hi (by unfold kcK; simp)))
      exact ⟨a, fun _ => ⟨q1, cell, q3, q5, by rw [q6]; exact q2, hA a (Array.getElem?_eq_some_iff.mp q3).1⟩⟩
    · exact ⟨0, fun h => absurd h hi⟩
  obtain ⟨ad, had⟩ := Classical.axiomOfChoice h0
  have ord : ∀ i, i < 29 → va_OF "java/lang/Enum" "ordinal" "I" (.int ((kcF.getD 0 ("", "", "", [])).2.2.2.getD i 0)) (ad i) A s s.heap := fun i hi => vk_OFof (had i hi).1 (va_eqt (hn _ (kcK_in hi (by unfold kcK; simp)))) hA
  have fct : ∀ i, i < 29 → va_OF "DreamFort$Kind" "fact" "I" (.int ((kcF.getD 1 ("", "", "", [])).2.2.2.getD i 0)) (ad i) A s s.heap := fun i hi => vk_OFof (had i hi).1 (va_eqt (hn _ (kcK_in hi (by unfold kcK; simp)))) hA
  refine ⟨ad, ⟨fun i hi => ⟨va_Zref (ht _ (of_decide_eq_true (kcK_ok i hi).2.2)) hini (had i hi).1 hA, (had i hi).2, fun q hq => ?_⟩, fun i j hi hj e => ?_⟩, fun i hi => (had i hi).1⟩
  · rcases List.mem_cons.mp hq with rfl | hq
    · exact ord i hi
    · rcases List.mem_cons.mp hq with rfl | hq
      · exact fct i hi
      · cases hq
  · have h1 := ord i hi
    rw [e] at h1
    have h2 := h1.one (ord j hj)
    rw [kcO_ok i hi, kcO_ok j hj] at h2
    have h3 : nI i = nI j := Value.int.inj h2
    have hi : i < 29 := hi
    have hj : j < 29 := hj
    rw [ab_eqI (by omega) (by omega)] at h3
    exact h3
/-- the classes -/
theorem st_cls (ht : ∀ w ∈ tables_1, w.before args s = true) : ∃ D : ab_D, va_K D.1 vwCl (ab_tys D) s := by
  have hc : ∀ c : Nat, ∃ r : ClassId × (Nat → Nat), ∀ q, vwCl[c]? = some q → u_Kn s q.1 q.2.1 q.2.2 r.1 r.2 := by
    intro c
    cases e : vwCl[c]? with
    | none => exact ⟨(0, fun _ => 0), fun q h => by cases h⟩
    | some q =>
      have hq := List.all_eq_true.mp wCk_ok q (List.mem_of_getElem? e)
      unfold wCk at hq
      rw [Bool.and_eq_true] at hq
      obtain ⟨cC, hC⟩ := classAt_of (ht _ (of_decide_eq_true hq.2))
      have hs : ∀ k : Nat, ∃ i : Nat, k < q.2.2 → SlotIs s (q.2.1 k).1 (q.2.1 k).2.1 (q.2.1 k).2.2.1 i := by
        intro k
        by_cases hk : k < q.2.2
        · have hw := List.all_eq_true.mp hq.1 k (List.mem_range.mpr hk)
          rw [Bool.or_eq_true] at hw
          obtain ⟨i, hi⟩ := u_found (args := args) (s := s) (hw.imp (fun z => ht _ (of_decide_eq_true z)) (fun z => ht _ (of_decide_eq_true z)))
          exact ⟨i, fun _ => hi⟩
        · exact ⟨0, fun h => absurd h hk⟩
      obtain ⟨iS, hS⟩ := Classical.axiomOfChoice hs
      exact ⟨(cC, iS), fun q' h => by cases h; exact ⟨hS, hC⟩⟩
  obtain ⟨r, hr⟩ := Classical.axiomOfChoice hc
  have ha : ∀ ty : FieldType, (Cond.arrayClass ty).before args s = true → (∀ C, ty ≠ .object C) → ∃ cA, ArrOfT s cA ty ∧ va_RA s cA ty := by
    intro ty h hne
    obtain ⟨cA, k, comp, h1, h2, h3⟩ := Cond.arrayClass_spec (args := args) (first := s) (o := none) (s := s) (idx := []) h
    refine ⟨cA, fun n z => ⟨fun k h => (by cases h), k, h2, comp, h3⟩, ?_⟩
    cases ty with
    | object C => exact absurd rfl (hne C)
    | _ => exact h1
  have hb : ∀ C : String, va_AO C s → ∃ cA, ArrOfT s cA (.object C) ∧ va_RA s cA (.object C) := by
    intro C h
    obtain ⟨comp, c, k, h1, h2, h3, h4, h5⟩ := Cond.arrayOver_spec (args := #[]) (first := s) (o := none) (s := s) (idx := []) h
    exact ⟨c, fun n z => ⟨fun k h => (by cases h), k, h3, comp, h4⟩, k, comp, h3, h4, h1, h5⟩
  obtain ⟨c0, x0⟩ := ha .int (ht _ (by decide +kernel)) (fun _ q => by cases q)
  obtain ⟨c1, x1⟩ := ha .byte (ht _ (by decide +kernel)) (fun _ q => by cases q)
  obtain ⟨c2, x2⟩ := ha .boolean (ht _ (by decide +kernel)) (fun _ q => by cases q)
  obtain ⟨c3, x3⟩ := ha .long (ht _ (by decide +kernel)) (fun _ q => by cases q)
  obtain ⟨c4, x4⟩ := hb "DreamFort$Kind" (va_AO.of (ht _ (by decide +kernel)))
  obtain ⟨c5, x5⟩ := hb "DreamFort$Fort" (va_AO.of (ht _ (by decide +kernel)))
  refine ⟨((fun c => (r c).1, fun c => (r c).2), fun k => match k with | 0 => c0 | 1 => c1 | 2 => c2 | 3 => c3 | 4 => c4 | _ => c5), fun c q hq => hr c q hq, fun k q hk => ?_⟩
  match k, hk with
  | 0, hk => cases hk; exact x0
  | 1, hk => cases hk; exact x1
  | 2, hk => cases hk; exact x2
  | 3, hk => cases hk; exact x3
  | 4, hk => cases hk; exact x4
  | 5, hk => cases hk; exact x5
/-- the constants, all -/
theorem st_kc (hn : ∀ w ∈ fN, w.before args s = true) (ht : ∀ w ∈ tables_1, w.before args s = true) {b L : Nat} {xs : Nat → Int32} (hX : va_X b L xs s s.heap) (hb : b < s.heap.size) : ∃ G : ab_G, G.1 = s.heap.size ∧ kc G.2 (ab_A G) s ∧ G.2 2300 = b ∧ G.2 3000 = L := by
  have hA : ∀ a : Nat, a < s.heap.size → ¬ (fun q => s.heap.size ≤ q) a := fun a h => Nat.not_le.mpr h
  obtain ⟨adK, adV, hk⟩ := st_str hn hA
  obtain ⟨adE, hE, hEe⟩ := st_knd hn ht hA
  have wl := hn (Cond.eq (.length (.static "DreamFort" "KINDS" "[LDreamFort$Kind;")) (.int 29)) (by decide +kernel)
  obtain ⟨tK, htK, hTK⟩ := va_Tof (N := 29) (f := fun j => .ref (adE j)) (A := fun q => s.heap.size ≤ q) (by omega) (hn (Cond.arrayOf (.static "DreamFort" "KINDS" "[LDreamFort$Kind;") (.object "DreamFort$Kind")) (by decide +kernel)) (va_eqt wl) (fun j hj => va_eqv (hn _ (kcK_in hj (by unfold kcK; simp))) (hEe j hj)) hA
  have hZK := va_Zref (ht (Cond.laysStatic "DreamFort" "KINDS" "[LDreamFort$Kind;") (by decide +kernel)) (ht (Cond.initialized "DreamFort") (by decide +kernel)) htK hA
  have hZC := va_Zof (ht (Cond.laysStatic "java/lang/String" "COMPACT_STRINGS" "Z") (by decide +kernel)) (ht (Cond.initialized "java/lang/String") (by decide +kernel)) (va_eqi (hn (Cond.eq (.static "java/lang/String" "COMPACT_STRINGS" "Z") (.int 1)) (by decide +kernel))) hA
  have hF : ∃ tF : Nat, va_Z "jdk/internal/util/Preconditions" "SIOOBE_FORMATTER" "Ljava/util/function/BiFunction;" .null (fun q => s.heap.size ≤ q) s s.heap ∨ va_Z "jdk/internal/util/Preconditions" "SIOOBE_FORMATTER" "Ljava/util/function/BiFunction;" (.ref tF) (fun q => s.heap.size ≤ q) s s.heap := by
    have w := hn (Cond.isRef (.static "jdk/internal/util/Preconditions" "SIOOBE_FORMATTER" "Ljava/util/function/BiFunction;")) (by decide +kernel)
    have hl := ht (Cond.laysStatic "jdk/internal/util/Preconditions" "SIOOBE_FORMATTER" "Ljava/util/function/BiFunction;") (by decide +kernel)
    have hi := ht (Cond.initialized "jdk/internal/util/Preconditions") (by decide +kernel)
    cases hv : (Term.static "jdk/internal/util/Preconditions" "SIOOBE_FORMATTER" "Ljava/util/function/BiFunction;").eval args s none [] s with
    | none => simp [Cond.before, Cond.holds, Cond.value, hv] at w
    | some v =>
      cases v with
      | null => exact ⟨0, Or.inl (va_Zof hl hi hv hA)⟩
      | ref t => exact ⟨t, Or.inr (va_Zof hl hi hv hA)⟩
      | _ => simp [Cond.before, Cond.holds, Cond.value, hv, Value.isRef] at w
  obtain ⟨tF, hF⟩ := hF
  obtain ⟨ad, had⟩ : ∃ ad : Nat → Nat, ad = fun k => if k < 1000 then adK k else if k < 2000 then adV (k - 1000) else if k < 2100 then adE (k - 2000) else if k = 2100 then tK else if k = 2200 then tF else if k = 2300 then b else if k = 3000 then L else (xs (k - 3001)).toBitVec.toNat := ⟨_, rfl⟩
  have e1 : ∀ i, i < 1000 → ad i = adK i := fun i hi => by rw [had]; exact if_pos hi
  have e2 : ∀ i, i < 1000 → ad (1000 + i) = adV i := fun i hi => by
    rw [had]
    show (if 1000 + i < 1000 then _ else if 1000 + i < 2000 then adV (1000 + i - 1000) else _) = _
    rw [if_neg (by omega), if_pos (by omega), show 1000 + i - 1000 = i by omega]
  have e3 : ∀ i, i < 100 → ad (2000 + i) = adE i := fun i hi => by
    rw [had]
    show (if 2000 + i < 1000 then _ else if 2000 + i < 2000 then _ else if 2000 + i < 2100 then adE (2000 + i - 2000) else _) = _
    rw [if_neg (by omega), if_neg (by omega), if_pos (by omega), show 2000 + i - 2000 = i by omega]
  have e4 : ad 2100 = tK := by rw [had]; rfl
  have e5 : ad 2200 = tF := by rw [had]; rfl
  have e6 : ad 2300 = b := by rw [had]; rfl
  have e7 : ad 3000 = L := by rw [had]; rfl
  have e8 : ∀ j, Int32.ofNat (ad (3001 + j)) = xs j := fun j => by
    rw [had]
    show Int32.ofNat (if 3001 + j < 1000 then _ else if 3001 + j < 2000 then _ else if 3001 + j < 2100 then _ else if 3001 + j = 2100 then _ else if 3001 + j = 2200 then _ else if 3001 + j = 2300 then _ else if 3001 + j = 3000 then _ else (xs (3001 + j - 3001)).toBitVec.toNat) = _
    rw [if_neg (by omega), if_neg (by omega), if_neg (by omega), if_neg (by omega), if_neg (by omega), if_neg (by omega), if_neg (by omega), show 3001 + j - 3001 = j by omega]
    apply Int32.toBitVec_inj.mp
    show BitVec.ofNat 32 _ = _
    exact BitVec.ofNat_toNat _ _ |>.trans (BitVec.setWidth_eq _)
  have hts : ∀ q ∈ kcS, Cond.stringRef q.1 q.2.1 q.2.2.1 ∈ tables_1 ∧ q.2.2.2 < 48 := fun q hq => by
    have := List.all_eq_true.mp kcR_ok q hq
    rw [Bool.and_eq_true, decide_eq_true_eq, decide_eq_true_eq] at this
    exact this
  refine ⟨(s.heap.size, ad), rfl, ⟨fun q hq => ?_, fun i hi => ?_, ?_, fun i hi => ?_, ?_, ?_, hZC, fun q hq => ?_, ?_, ?_, ?_, ?_, ?_, ?_⟩, e6, e7⟩
  · obtain ⟨h1, h2⟩ := hts q hq
    have h3 := List.all_eq_true.mp kcQ_ok q hq
    rw [Bool.or_eq_true, decide_eq_true_eq, decide_eq_true_eq] at h3
    refine vk_R.of (ht _ h1) ?_
    show _ = some (Value.ref (ad q.2.2.2))
    rw [e1 _ (by omega)]
    rcases h3 with h3 | h3
    · rw [Prod.mk.injEq] at h3
      rw [h3.1, h3.2]
      exact (hk _ h2).1
    · exact va_eqv (hn _ h3) (hk _ h2).1
  · show va_O _ (ad i) _ _ _ ∧ va_OF _ _ _ _ (ad i) _ _ _ ∧ va_OF _ _ _ (.ref (ad (1000 + i))) (ad i) _ _ _ ∧ va_T _ (ad (1000 + i)) _ _ _ _ _
    rw [e1 i (by omega), e2 i (by omega)]
    exact (hk i hi).2
  · obtain ⟨g1, g2⟩ := hE
    refine ⟨fun i hi => ?_, fun i j hi hj e => g2 i j hi hj ?_⟩
    · have hi' : i < 29 := hi
      show va_Z _ _ _ (.ref (ad (2000 + i))) _ _ _ ∧ va_O _ (ad (2000 + i)) _ _ _ ∧ ∀ q ∈ kcF, va_OF q.1 q.2.1 q.2.2.1 _ (ad (2000 + i)) _ _ _
      rw [e3 i (by omega)]
      exact g1 i hi
    · have hi : i < 29 := hi
      have hj : j < 29 := hj
      have e : ad (2000 + i) = ad (2000 + j) := e
      rw [e3 i (by omega), e3 j (by omega)] at e
      exact e
  · have hp := (kcK_ok i hi).2.1
    show va_OF _ _ _ (.ref (ad (kcP.getD i 0))) (ad (2000 + i)) _ _ _
    rw [e3 i (by omega), e1 _ (by omega)]
    exact vk_OFof (hEe i hi) (va_eqv (hn _ (kcK_in hi (by unfold kcK; simp))) (hk _ hp).1) hA
  · show va_Z _ _ _ (.ref (ad 2100)) _ _ _
    rw [e4]
    exact hZK
  · show va_T _ (ad 2100) _ _ _ _ _
    rw [e4]
    obtain ⟨cell, a1, a2, a3, a4, a5, a6, a7⟩ := hTK
    exact ⟨cell, a1, a2, a3, a4, a5, fun j hj => by rw [a6 j hj]; show _ = some (Value.ref (ad (2000 + j))); rw [e3 j (by omega)], a7⟩
  · exact va_Nc.of (hn _ (of_decide_eq_true (List.all_eq_true.mp kcX_ok q hq)))
  · show va_Z _ _ _ _ _ _ _ ∨ va_Z _ _ _ (.ref (ad 2200)) _ _ _
    rw [e5]
    exact hF
  · exact va_AO.of (ht _ (by decide +kernel))
  · exact va_AO.of (ht _ (by decide +kernel))
  · show va_X (ad 2300) (ad 3000) (fun j => Int32.ofNat (ad (3001 + j))) s s.heap
    rw [e6, e7, show (fun j => Int32.ofNat (ad (3001 + j))) = xs from funext e8]
    exact hX
  · show ad 2300 < _
    rw [e6]
    exact hb
  · show ¬ s.heap.size ≤ ad 2300
    rw [e6]
    omega
end ST
