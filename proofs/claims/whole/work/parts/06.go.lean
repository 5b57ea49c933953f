/-! ===== straight stretches and branches by reckoning ===== -/
/-- the next place: if it is cut off, the walk stops there -/
def ab_nx (M : ab_M) (post : ab_P) (cut : List Nat) (g : Nat → Nat → Nat → List (Option Value) → List Value → Nat → ab_H → Prop) (cu su pc : Nat) (ls : List (Option Value)) (st : List Value) (nx : Nat) (h : ab_H) : Prop := match cut.contains pc with
  | true => ab_V M post cu su pc ls st nx h
  | false => g cu su pc ls st nx h
theorem ab_nx_v {M : ab_M} {post : ab_P} {cut : List Nat} {g : Nat → Nat → Nat → List (Option Value) → List Value → Nat → ab_H → Prop} (hg : ∀ cu su pc ls st nx h, g cu su pc ls st nx h → ab_V M post cu su pc ls st nx h) {cu su pc : Nat} {ls : List (Option Value)} {st : List Value} {nx : Nat} {h : ab_H} (k : ab_nx M post cut g cu su pc ls st nx h) : ab_V M post cu su pc ls st nx h := by
  unfold ab_nx at k
  split at k
  · exact k
  · exact hg _ _ _ _ _ _ _ k
/-- where a jump goes -/
def ab_tg (pc : Nat) (off : Int) : Nat := ((pc : Int) + off).toNat
def ab_go (M : ab_M) (post : ab_P) (I : List (Nat × Instr × Nat)) (F : Nat → Option (Nat × Nat)) (P : Nat → Option (Nat × Nat × FieldType)) (cut : List Nat) : Nat → Nat → Nat → Nat → List (Option Value) → List Value → Nat → ab_H → Prop
  | 0, cu, su, pc, ls, st, nx, h => ab_V M post cu su pc ls st nx h
  | n + 1, cu, su, pc, ls, st, nx, h => match I.lookup pc, st with
    | some (.iconst z, 1), r => ab_nx M post cut (ab_go M post I F P cut n) cu su (pc + 1) ls (.int (Int32.ofInt z) :: r) nx h
    | some (.bipush z, 2), r => ab_nx M post cut (ab_go M post I F P cut n) cu su (pc + 2) ls (.int (Int8.ofInt z).toInt32 :: r) nx h
    | some (.sipush z, 3), r => ab_nx M post cut (ab_go M post I F P cut n) cu su (pc + 3) ls (.int (Int16.ofInt z).toInt32 :: r) nx h
    | some (.iload_n i, 1), r => (match ls[i.val]? with
      | some (some (.int x)) => ab_nx M post cut (ab_go M post I F P cut n) cu su (pc + 1) ls (.int x :: r) nx h
      | _ => ab_V M post cu su pc ls r nx h)
    | some (.iload i, 2), r => (match ls[i]? with
      | some (some (.int x)) => ab_nx M post cut (ab_go M post I F P cut n) cu su (pc + 2) ls (.int x :: r) nx h
      | _ => ab_V M post cu su pc ls r nx h)
    | some (.aload_n i, 1), r => (match ls[i.val]? with
      | some (some (.ref x)) => ab_nx M post cut (ab_go M post I F P cut n) cu su (pc + 1) ls (.ref x :: r) nx h
      | _ => ab_V M post cu su pc ls r nx h)
    | some (.aload i, 2), r => (match ls[i]? with
      | some (some (.ref x)) => ab_nx M post cut (ab_go M post I F P cut n) cu su (pc + 2) ls (.ref x :: r) nx h
      | _ => ab_V M post cu su pc ls r nx h)
    | some (.istore_n i, 1), .int x :: r => i.val < M.2.2.1 ∧ ab_nx M post cut (ab_go M post I F P cut n) cu su (pc + 1) (ls.set i.val (some (.int x))) r nx h
    | some (.istore i, 2), .int x :: r => i < M.2.2.1 ∧ ab_nx M post cut (ab_go M post I F P cut n) cu su (pc + 2) (ls.set i (some (.int x))) r nx h
    | some (.astore_n i, 1), .ref x :: r => i.val < M.2.2.1 ∧ ab_nx M post cut (ab_go M post I F P cut n) cu su (pc + 1) (ls.set i.val (some (.ref x))) r nx h
    | some (.astore i, 2), .ref x :: r => i < M.2.2.1 ∧ ab_nx M post cut (ab_go M post I F P cut n) cu su (pc + 2) (ls.set i (some (.ref x))) r nx h
    | some (.iinc i z, 3), r => (match ls[i]? with
      | some (some (.int x)) => i < M.2.2.1 ∧ ab_nx M post cut (ab_go M post I F P cut n) cu su (pc + 3) (ls.set i (some (.int (x + Int32.ofInt z)))) r nx h
      | _ => ab_V M post cu su pc ls r nx h)
    | some (.iadd, 1), .int y :: .int x :: r => ab_nx M post cut (ab_go M post I F P cut n) cu su (pc + 1) ls (.int (x + y) :: r) nx h
    | some (.isub, 1), .int y :: .int x :: r => ab_nx M post cut (ab_go M post I F P cut n) cu su (pc + 1) ls (.int (x - y) :: r) nx h
    | some (.imul, 1), .int y :: .int x :: r => ab_nx M post cut (ab_go M post I F P cut n) cu su (pc + 1) ls (.int (x * y) :: r) nx h
    | some (.iand, 1), .int y :: .int x :: r => ab_nx M post cut (ab_go M post I F P cut n) cu su (pc + 1) ls (.int (x &&& y) :: r) nx h
    | some (.ior, 1), .int y :: .int x :: r => ab_nx M post cut (ab_go M post I F P cut n) cu su (pc + 1) ls (.int (x ||| y) :: r) nx h
    | some (.ixor, 1), .int y :: .int x :: r => ab_nx M post cut (ab_go M post I F P cut n) cu su (pc + 1) ls (.int (x ^^^ y) :: r) nx h
    | some (.ishl, 1), .int y :: .int x :: r => ab_nx M post cut (ab_go M post I F P cut n) cu su (pc + 1) ls (.int (x <<< (y &&& 31)) :: r) nx h
    | some (.ishr, 1), .int y :: .int x :: r => ab_nx M post cut (ab_go M post I F P cut n) cu su (pc + 1) ls (.int (x >>> (y &&& 31)) :: r) nx h
    | some (.iushr, 1), .int y :: .int x :: r => ab_nx M post cut (ab_go M post I F P cut n) cu su (pc + 1) ls (.int ((x.toUInt32 >>> (y.toUInt32 &&& Int32.toUInt32 31)).toInt32) :: r) nx h
    | some (.idiv, 1), .int y :: .int x :: r => ¬ y = 0 ∧ ab_nx M post cut (ab_go M post I F P cut n) cu su (pc + 1) ls (.int (x / y) :: r) nx h
    | some (.irem, 1), .int y :: .int x :: r => ¬ y = 0 ∧ ab_nx M post cut (ab_go M post I F P cut n) cu su (pc + 1) ls (.int (x - x / y * y) :: r) nx h
    | some (.ineg, 1), .int x :: r => ab_nx M post cut (ab_go M post I F P cut n) cu su (pc + 1) ls (.int (-x) :: r) nx h
    | some (.i2l, 1), .int x :: r => ab_nx M post cut (ab_go M post I F P cut n) cu su (pc + 1) ls (.long x.toInt64 :: r) nx h
    | some (.i2b, 1), .int x :: r => ab_nx M post cut (ab_go M post I F P cut n) cu su (pc + 1) ls (.int x.toInt8.toInt32 :: r) nx h
    | some (.dup, 1), .int x :: r => ab_nx M post cut (ab_go M post I F P cut n) cu su (pc + 1) ls (.int x :: .int x :: r) nx h
    | some (.dup, 1), .ref x :: r => ab_nx M post cut (ab_go M post I F P cut n) cu su (pc + 1) ls (.ref x :: .ref x :: r) nx h
    | some (.pop, 1), .int x :: r => ab_nx M post cut (ab_go M post I F P cut n) cu su (pc + 1) ls r nx h
    | some (.pop, 1), .ref x :: r => ab_nx M post cut (ab_go M post I F P cut n) cu su (pc + 1) ls r nx h
    | some (.dup2, 1), .int x :: .ref y :: r => ab_nx M post cut (ab_go M post I F P cut n) cu su (pc + 1) ls (.int x :: .ref y :: .int x :: .ref y :: r) nx h
    | some (.goto off, 3), r => 0 ≤ (pc : Int) + off ∧ ab_nx M post cut (ab_go M post I F P cut n) cu su (ab_tg pc off) ls r nx h
    | some (.ifCond .eq off, 3), .int x :: r => 0 ≤ (pc : Int) + off ∧ (x = 0 → ab_nx M post cut (ab_go M post I F P cut n) cu su (ab_tg pc off) ls r nx h) ∧ (¬ (x = 0) → ab_nx M post cut (ab_go M post I F P cut n) cu su (pc + 3) ls r nx h)
    | some (.if_icmp .eq off, 3), .int y :: .int x :: r => 0 ≤ (pc : Int) + off ∧ (x = y → ab_nx M post cut (ab_go M post I F P cut n) cu su (ab_tg pc off) ls r nx h) ∧ (¬ (x = y) → ab_nx M post cut (ab_go M post I F P cut n) cu su (pc + 3) ls r nx h)
    | some (.ifCond .ne off, 3), .int x :: r => 0 ≤ (pc : Int) + off ∧ (x ≠ 0 → ab_nx M post cut (ab_go M post I F P cut n) cu su (ab_tg pc off) ls r nx h) ∧ (x = 0 → ab_nx M post cut (ab_go M post I F P cut n) cu su (pc + 3) ls r nx h)
    | some (.if_icmp .ne off, 3), .int y :: .int x :: r => 0 ≤ (pc : Int) + off ∧ (x ≠ y → ab_nx M post cut (ab_go M post I F P cut n) cu su (ab_tg pc off) ls r nx h) ∧ (x = y → ab_nx M post cut (ab_go M post I F P cut n) cu su (pc + 3) ls r nx h)
    | some (.ifCond .lt off, 3), .int x :: r => 0 ≤ (pc : Int) + off ∧ (x < 0 → ab_nx M post cut (ab_go M post I F P cut n) cu su (ab_tg pc off) ls r nx h) ∧ (¬ (x < 0) → ab_nx M post cut (ab_go M post I F P cut n) cu su (pc + 3) ls r nx h)
    | some (.if_icmp .lt off, 3), .int y :: .int x :: r => 0 ≤ (pc : Int) + off ∧ (x < y → ab_nx M post cut (ab_go M post I F P cut n) cu su (ab_tg pc off) ls r nx h) ∧ (¬ (x < y) → ab_nx M post cut (ab_go M post I F P cut n) cu su (pc + 3) ls r nx h)
    | some (.ifCond .ge off, 3), .int x :: r => 0 ≤ (pc : Int) + off ∧ (0 ≤ x → ab_nx M post cut (ab_go M post I F P cut n) cu su (ab_tg pc off) ls r nx h) ∧ (¬ (0 ≤ x) → ab_nx M post cut (ab_go M post I F P cut n) cu su (pc + 3) ls r nx h)
    | some (.if_icmp .ge off, 3), .int y :: .int x :: r => 0 ≤ (pc : Int) + off ∧ (y ≤ x → ab_nx M post cut (ab_go M post I F P cut n) cu su (ab_tg pc off) ls r nx h) ∧ (¬ (y ≤ x) → ab_nx M post cut (ab_go M post I F P cut n) cu su (pc + 3) ls r nx h)
    | some (.ifCond .gt off, 3), .int x :: r => 0 ≤ (pc : Int) + off ∧ (0 < x → ab_nx M post cut (ab_go M post I F P cut n) cu su (ab_tg pc off) ls r nx h) ∧ (¬ (0 < x) → ab_nx M post cut (ab_go M post I F P cut n) cu su (pc + 3) ls r nx h)
    | some (.if_icmp .gt off, 3), .int y :: .int x :: r => 0 ≤ (pc : Int) + off ∧ (y < x → ab_nx M post cut (ab_go M post I F P cut n) cu su (ab_tg pc off) ls r nx h) ∧ (¬ (y < x) → ab_nx M post cut (ab_go M post I F P cut n) cu su (pc + 3) ls r nx h)
    | some (.ifCond .le off, 3), .int x :: r => 0 ≤ (pc : Int) + off ∧ (x ≤ 0 → ab_nx M post cut (ab_go M post I F P cut n) cu su (ab_tg pc off) ls r nx h) ∧ (¬ (x ≤ 0) → ab_nx M post cut (ab_go M post I F P cut n) cu su (pc + 3) ls r nx h)
    | some (.if_icmp .le off, 3), .int y :: .int x :: r => 0 ≤ (pc : Int) + off ∧ (x ≤ y → ab_nx M post cut (ab_go M post I F P cut n) cu su (ab_tg pc off) ls r nx h) ∧ (¬ (x ≤ y) → ab_nx M post cut (ab_go M post I F P cut n) cu su (pc + 3) ls r nx h)
    | some (.getfield i, 3), .ref a :: r => (match F i, h a with
      | some (ci, f), some (.inl (cj, fs)) => (match fs[f]? with
        | some v => ci = cj ∧ ab_nx M post cut (ab_go M post I F P cut n) cu su (pc + 3) ls (v :: r) nx h
        | none => ab_V M post cu su pc ls (.ref a :: r) nx h)
      | _, _ => ab_V M post cu su pc ls (.ref a :: r) nx h)
    | some (.putfield i, 3), .int v :: .ref a :: r => (match P i, h a with
      | some (ci, f, .int), some (.inl (cj, fs)) => ci = cj ∧ f < fs.length ∧ ab_nx M post cut (ab_go M post I F P cut n) cu su (pc + 3) ls r nx (ab_up h a (.inl (ci, fs.set f (.int v))))
      | _, _ => ab_V M post cu su pc ls (.int v :: .ref a :: r) nx h)
    | some (.iaload, 1), .int i :: .ref a :: r => (match h a with
      | some (.inr (0, m, .inl f)) => vp_in i m ∧ ab_nx M post cut (ab_go M post I F P cut n) cu su (pc + 1) ls (.int (f i.toNatClampNeg) :: r) nx h
      | _ => ab_V M post cu su pc ls (.int i :: .ref a :: r) nx h)
    | some (.iastore, 1), .int x :: .int i :: .ref a :: r => (match h a with
      | some (.inr (0, m, .inl f)) => vp_in i m ∧ ab_nx M post cut (ab_go M post I F P cut n) cu su (pc + 1) ls r nx (ab_up h a (.inr (0, m, .inl (upd f i.toNatClampNeg x))))
      | _ => ab_V M post cu su pc ls (.int x :: .int i :: .ref a :: r) nx h)
    | some (.baload, 1), .int i :: .ref a :: r => (match h a with
      | some (.inr (1, m, .inl f)) => vp_in i m ∧ ab_nx M post cut (ab_go M post I F P cut n) cu su (pc + 1) ls (.int (f i.toNatClampNeg) :: r) nx h
      | some (.inr (2, m, .inl f)) => vp_in i m ∧ ab_nx M post cut (ab_go M post I F P cut n) cu su (pc + 1) ls (.int (f i.toNatClampNeg) :: r) nx h
      | _ => ab_V M post cu su pc ls (.int i :: .ref a :: r) nx h)
    | some (.ireturn, 1), [.int v] => (match M.2.2.2.1 with
      | some .int => cu ≤ M.2.2.2.2.2.1 ∧ su ≤ M.2.2.2.2.2.2 ∧ post (.inl (some (.int v))) nx h
      | some .boolean => (v = 0 ∨ v = 1) ∧ cu ≤ M.2.2.2.2.2.1 ∧ su ≤ M.2.2.2.2.2.2 ∧ post (.inl (some (.int v))) nx h
      | _ => ab_V M post cu su pc ls [.int v] nx h)
    | some (.return_, 1), [] => (match M.2.2.2.1 with
      | none => cu ≤ M.2.2.2.2.2.1 ∧ su ≤ M.2.2.2.2.2.2 ∧ post (.inl none) nx h
      | _ => ab_V M post cu su pc ls [] nx h)
    | _, r => ab_V M post cu su pc ls r nx h
/-- what the tables of a method must be -/
def ab_ok (M : ab_M) (I : List (Nat × Instr × Nat)) (F : Nat → Option (Nat × Nat)) (P : Nat → Option (Nat × Nat × FieldType)) : Prop := (∀ pc i len, I.lookup pc = some (i, len) → decode M.2.1 pc = .ok (i, len)) ∧ (∀ i ci f, F i = some (ci, f) → ab_lf M.1.cls i ci f) ∧ ∀ i ci f ty, P i = some (ci, f, ty) → ab_lp M.1.cls i ci f ty
theorem ab_tg_ok {pc : Nat} {off : Int} (h : 0 ≤ (pc : Int) + off) : (pc : Int) + off = (ab_tg pc off : Int) := by
  unfold ab_tg
  omega
