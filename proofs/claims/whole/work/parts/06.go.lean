/-! ===== straight stretches and branches by reckoning ===== -/
/-- a place: its number, the instruction, its length; of a field the class and which -/
abbrev ab_E : Type := Nat × Instr × Nat × Nat × Nat
/-- up to the next place that is cut off -/
def ab_tk (cut : List Nat) : List ab_E → List ab_E
  | [] => []
  | e :: t => match cut.contains e.1 with
    | true => [(e.1, .nop, 0, 0, 0)]
    | false => e :: ab_tk cut t
def ab_dr (tgt : Nat) : List ab_E → List ab_E
  | [] => []
  | e :: t => match Nat.beq e.1 tgt with
    | true => e :: t
    | false => ab_dr tgt t
def ab_b (I : List ab_E) (cut : List Nat) (tgt : Nat) : List ab_E := ab_tk cut (ab_dr tgt I)
/-- .. from a place on, though it is cut off -/
def ab_b0 (I : List ab_E) (cut : List Nat) (tgt : Nat) : List ab_E := match ab_dr tgt I with
  | [] => []
  | e :: t => e :: ab_tk cut t
/-- the walk from the first place of a stretch on -/
def ab_g (M : ab_M) (post : ab_P) (J : List ab_E) (cut : List Nat) : Nat → List ab_E → Nat → Nat → List (Option Value) → List Value → Nat → ab_H → Prop
  | 0, (pc, _) :: _, cu, su, ls, st, nx, h => ab_V M post cu su pc ls st nx h
  | n + 1, (pc, ins) :: I, cu, su, ls, st, nx, h => match ins, st with
    | (.iconst z, 1, _, _), r => ab_g M post J cut n I cu su ls (.int (Int32.ofInt z) :: r) nx h
    | (.bipush z, 2, _, _), r => ab_g M post J cut n I cu su ls (.int (Int8.ofInt z).toInt32 :: r) nx h
    | (.sipush z, 3, _, _), r => ab_g M post J cut n I cu su ls (.int (Int16.ofInt z).toInt32 :: r) nx h
    | (.iload_n i, 1, _, _), r => (match ls[i.val]? with
      | some (some (.int x)) => ab_g M post J cut n I cu su ls (.int x :: r) nx h
      | _ => False)
    | (.iload i, 2, _, _), r => (match ls[i]? with
      | some (some (.int x)) => ab_g M post J cut n I cu su ls (.int x :: r) nx h
      | _ => False)
    | (.aload_n i, 1, _, _), r => (match ls[i.val]? with
      | some (some (.ref x)) => ab_g M post J cut n I cu su ls (.ref x :: r) nx h
      | _ => False)
    | (.aload i, 2, _, _), r => (match ls[i]? with
      | some (some (.ref x)) => ab_g M post J cut n I cu su ls (.ref x :: r) nx h
      | _ => False)
    | (.istore_n i, 1, _, _), .int x :: r => i.val < M.2.2.1 ∧ ab_g M post J cut n I cu su (ls.set i.val (some (.int x))) r nx h
    | (.istore i, 2, _, _), .int x :: r => i < M.2.2.1 ∧ ab_g M post J cut n I cu su (ls.set i (some (.int x))) r nx h
    | (.astore_n i, 1, _, _), .ref x :: r => i.val < M.2.2.1 ∧ ab_g M post J cut n I cu su (ls.set i.val (some (.ref x))) r nx h
    | (.astore i, 2, _, _), .ref x :: r => i < M.2.2.1 ∧ ab_g M post J cut n I cu su (ls.set i (some (.ref x))) r nx h
    | (.iinc i z, 3, _, _), r => (match ls[i]? with
      | some (some (.int x)) => i < M.2.2.1 ∧ ab_g M post J cut n I cu su (ls.set i (some (.int (x + Int32.ofInt z)))) r nx h
      | _ => False)
    | (.iadd, 1, _, _), .int y :: .int x :: r => ab_g M post J cut n I cu su ls (.int (x + y) :: r) nx h
    | (.isub, 1, _, _), .int y :: .int x :: r => ab_g M post J cut n I cu su ls (.int (x - y) :: r) nx h
    | (.imul, 1, _, _), .int y :: .int x :: r => ab_g M post J cut n I cu su ls (.int (x * y) :: r) nx h
    | (.iand, 1, _, _), .int y :: .int x :: r => ab_g M post J cut n I cu su ls (.int (x &&& y) :: r) nx h
    | (.ior, 1, _, _), .int y :: .int x :: r => ab_g M post J cut n I cu su ls (.int (x ||| y) :: r) nx h
    | (.ixor, 1, _, _), .int y :: .int x :: r => ab_g M post J cut n I cu su ls (.int (x ^^^ y) :: r) nx h
    | (.ishl, 1, _, _), .int y :: .int x :: r => ab_g M post J cut n I cu su ls (.int (x <<< (y &&& 31)) :: r) nx h
    | (.ishr, 1, _, _), .int y :: .int x :: r => ab_g M post J cut n I cu su ls (.int (x >>> (y &&& 31)) :: r) nx h
    | (.iushr, 1, _, _), .int y :: .int x :: r => ab_g M post J cut n I cu su ls (.int ((x.toUInt32 >>> (y.toUInt32 &&& Int32.toUInt32 31)).toInt32) :: r) nx h
    | (.idiv, 1, _, _), .int y :: .int x :: r => ¬ y = 0 ∧ ab_g M post J cut n I cu su ls (.int (x / y) :: r) nx h
    | (.irem, 1, _, _), .int y :: .int x :: r => ¬ y = 0 ∧ ab_g M post J cut n I cu su ls (.int (x - x / y * y) :: r) nx h
    | (.ineg, 1, _, _), .int x :: r => ab_g M post J cut n I cu su ls (.int (-x) :: r) nx h
    | (.i2l, 1, _, _), .int x :: r => ab_g M post J cut n I cu su ls (.long x.toInt64 :: r) nx h
    | (.i2b, 1, _, _), .int x :: r => ab_g M post J cut n I cu su ls (.int x.toInt8.toInt32 :: r) nx h
    | (.dup, 1, _, _), .int x :: r => ab_g M post J cut n I cu su ls (.int x :: .int x :: r) nx h
    | (.dup, 1, _, _), .ref x :: r => ab_g M post J cut n I cu su ls (.ref x :: .ref x :: r) nx h
    | (.pop, 1, _, _), .int x :: r => ab_g M post J cut n I cu su ls r nx h
    | (.pop, 1, _, _), .ref x :: r => ab_g M post J cut n I cu su ls r nx h
    | (.dup2, 1, _, _), .int x :: .ref y :: r => ab_g M post J cut n I cu su ls (.int x :: .ref y :: .int x :: .ref y :: r) nx h
    | (.goto off, 3, _, fd), r => ab_g M post J cut n (ab_b J cut fd) cu su ls r nx h
    | (.ifCond .eq off, 3, _, fd), .int x :: r => (x = 0 → ab_g M post J cut n (ab_b J cut fd) cu su ls r nx h) ∧ (¬ (x = 0) → ab_g M post J cut n I cu su ls r nx h)
    | (.if_icmp .eq off, 3, _, fd), .int y :: .int x :: r => (x = y → ab_g M post J cut n (ab_b J cut fd) cu su ls r nx h) ∧ (¬ (x = y) → ab_g M post J cut n I cu su ls r nx h)
    | (.ifCond .ne off, 3, _, fd), .int x :: r => (x ≠ 0 → ab_g M post J cut n (ab_b J cut fd) cu su ls r nx h) ∧ (x = 0 → ab_g M post J cut n I cu su ls r nx h)
    | (.if_icmp .ne off, 3, _, fd), .int y :: .int x :: r => (x ≠ y → ab_g M post J cut n (ab_b J cut fd) cu su ls r nx h) ∧ (x = y → ab_g M post J cut n I cu su ls r nx h)
    | (.ifCond .lt off, 3, _, fd), .int x :: r => (x < 0 → ab_g M post J cut n (ab_b J cut fd) cu su ls r nx h) ∧ (¬ (x < 0) → ab_g M post J cut n I cu su ls r nx h)
    | (.if_icmp .lt off, 3, _, fd), .int y :: .int x :: r => (x < y → ab_g M post J cut n (ab_b J cut fd) cu su ls r nx h) ∧ (¬ (x < y) → ab_g M post J cut n I cu su ls r nx h)
    | (.ifCond .ge off, 3, _, fd), .int x :: r => (0 ≤ x → ab_g M post J cut n (ab_b J cut fd) cu su ls r nx h) ∧ (¬ (0 ≤ x) → ab_g M post J cut n I cu su ls r nx h)
    | (.if_icmp .ge off, 3, _, fd), .int y :: .int x :: r => (y ≤ x → ab_g M post J cut n (ab_b J cut fd) cu su ls r nx h) ∧ (¬ (y ≤ x) → ab_g M post J cut n I cu su ls r nx h)
    | (.ifCond .gt off, 3, _, fd), .int x :: r => (0 < x → ab_g M post J cut n (ab_b J cut fd) cu su ls r nx h) ∧ (¬ (0 < x) → ab_g M post J cut n I cu su ls r nx h)
    | (.if_icmp .gt off, 3, _, fd), .int y :: .int x :: r => (y < x → ab_g M post J cut n (ab_b J cut fd) cu su ls r nx h) ∧ (¬ (y < x) → ab_g M post J cut n I cu su ls r nx h)
    | (.ifCond .le off, 3, _, fd), .int x :: r => (x ≤ 0 → ab_g M post J cut n (ab_b J cut fd) cu su ls r nx h) ∧ (¬ (x ≤ 0) → ab_g M post J cut n I cu su ls r nx h)
    | (.if_icmp .le off, 3, _, fd), .int y :: .int x :: r => (x ≤ y → ab_g M post J cut n (ab_b J cut fd) cu su ls r nx h) ∧ (¬ (x ≤ y) → ab_g M post J cut n I cu su ls r nx h)
    | (.getfield i, 3, ci, fd), .ref a :: r => (match h a with
      | some (.inl (cj, fs)) => (match fs[fd]? with
        | some v => (match Nat.beq ci cj with
          | true => ab_g M post J cut n I cu su ls (v :: r) nx h
          | false => ab_V M post cu su pc ls (.ref a :: r) nx h)
        | none => False)
      | _ => ab_V M post cu su pc ls (.ref a :: r) nx h)
    | (.putfield i, 3, ci, fd), .int v :: .ref a :: r => (match h a with
      | some (.inl (cj, fs)) => (match Nat.beq ci cj with
        | true => fd < fs.length ∧ ab_g M post J cut n I cu su ls r nx (ab_up h a (.inl (cj, fs.set fd (.int v))))
        | false => ab_V M post cu su pc ls (.int v :: .ref a :: r) nx h)
      | _ => False)
    | (.iaload, 1, _, _), .int i :: .ref a :: r => (match h a with
      | some (.inr (0, m, .inl f)) => vp_in i m ∧ ab_g M post J cut n I cu su ls (.int (f i.toNatClampNeg) :: r) nx h
      | _ => ab_V M post cu su pc ls (.int i :: .ref a :: r) nx h)
    | (.iastore, 1, _, _), .int x :: .int i :: .ref a :: r => (match h a with
      | some (.inr (0, m, .inl f)) => vp_in i m ∧ ab_g M post J cut n I cu su ls r nx (ab_up h a (.inr (0, m, .inl (upd f i.toNatClampNeg x))))
      | _ => False)
    | (.baload, 1, _, _), .int i :: .ref a :: r => (match h a with
      | some (.inr (1, m, .inl f)) => vp_in i m ∧ ab_g M post J cut n I cu su ls (.int (f i.toNatClampNeg) :: r) nx h
      | some (.inr (2, m, .inl f)) => vp_in i m ∧ ab_g M post J cut n I cu su ls (.int (f i.toNatClampNeg) :: r) nx h
      | _ => False)
    | (.ireturn, 1, _, _), [.int v] => (match M.2.2.2.1 with
      | some .int => cu ≤ M.2.2.2.2.2.1 ∧ su ≤ M.2.2.2.2.2.2 ∧ post (.inl (some (.int v))) nx h
      | some .boolean => (v = 0 ∨ v = 1) ∧ cu ≤ M.2.2.2.2.2.1 ∧ su ≤ M.2.2.2.2.2.2 ∧ post (.inl (some (.int v))) nx h
      | _ => False)
    | (.return_, 1, _, _), [] => (match M.2.2.2.1 with
      | none => cu ≤ M.2.2.2.2.2.1 ∧ su ≤ M.2.2.2.2.2.2 ∧ post (.inl none) nx h
      | _ => False)
    | _, r => ab_V M post cu su pc ls r nx h
  | _, [], _, _, _, _, _, _ => False
theorem ge_iconst {M : ab_M} {post : ab_P} {J I : List ab_E} {cut : List Nat} {n pc ci fd cu su nx : Nat} {ls : List (Option Value)} {r : List Value} {h : ab_H} {z : Int} : ab_g M post J cut (n + 1) ((pc, .iconst z, 1, ci, fd) :: I) cu su ls r nx h = (ab_g M post J cut n I cu su ls (.int (Int32.ofInt z) :: r) nx h) := rfl
theorem ge_bipush {M : ab_M} {post : ab_P} {J I : List ab_E} {cut : List Nat} {n pc ci fd cu su nx : Nat} {ls : List (Option Value)} {r : List Value} {h : ab_H} {z : Int} : ab_g M post J cut (n + 1) ((pc, .bipush z, 2, ci, fd) :: I) cu su ls r nx h = (ab_g M post J cut n I cu su ls (.int (Int8.ofInt z).toInt32 :: r) nx h) := rfl
theorem ge_sipush {M : ab_M} {post : ab_P} {J I : List ab_E} {cut : List Nat} {n pc ci fd cu su nx : Nat} {ls : List (Option Value)} {r : List Value} {h : ab_H} {z : Int} : ab_g M post J cut (n + 1) ((pc, .sipush z, 3, ci, fd) :: I) cu su ls r nx h = (ab_g M post J cut n I cu su ls (.int (Int16.ofInt z).toInt32 :: r) nx h) := rfl
theorem ge_iload_n {M : ab_M} {post : ab_P} {J I : List ab_E} {cut : List Nat} {n pc ci fd cu su nx : Nat} {ls : List (Option Value)} {r : List Value} {h : ab_H} {i : Fin 4} : ab_g M post J cut (n + 1) ((pc, .iload_n i, 1, ci, fd) :: I) cu su ls r nx h = ((match ls[i.val]? with
      | some (some (.int x)) => ab_g M post J cut n I cu su ls (.int x :: r) nx h
      | _ => False)) := rfl
theorem ge_iload {M : ab_M} {post : ab_P} {J I : List ab_E} {cut : List Nat} {n pc ci fd cu su nx : Nat} {ls : List (Option Value)} {r : List Value} {h : ab_H} {i : Nat} : ab_g M post J cut (n + 1) ((pc, .iload i, 2, ci, fd) :: I) cu su ls r nx h = ((match ls[i]? with
      | some (some (.int x)) => ab_g M post J cut n I cu su ls (.int x :: r) nx h
      | _ => False)) := rfl
theorem ge_aload_n {M : ab_M} {post : ab_P} {J I : List ab_E} {cut : List Nat} {n pc ci fd cu su nx : Nat} {ls : List (Option Value)} {r : List Value} {h : ab_H} {i : Fin 4} : ab_g M post J cut (n + 1) ((pc, .aload_n i, 1, ci, fd) :: I) cu su ls r nx h = ((match ls[i.val]? with
      | some (some (.ref x)) => ab_g M post J cut n I cu su ls (.ref x :: r) nx h
      | _ => False)) := rfl
theorem ge_aload {M : ab_M} {post : ab_P} {J I : List ab_E} {cut : List Nat} {n pc ci fd cu su nx : Nat} {ls : List (Option Value)} {r : List Value} {h : ab_H} {i : Nat} : ab_g M post J cut (n + 1) ((pc, .aload i, 2, ci, fd) :: I) cu su ls r nx h = ((match ls[i]? with
      | some (some (.ref x)) => ab_g M post J cut n I cu su ls (.ref x :: r) nx h
      | _ => False)) := rfl
theorem ge_istore_n {M : ab_M} {post : ab_P} {J I : List ab_E} {cut : List Nat} {n pc ci fd cu su nx : Nat} {ls : List (Option Value)} {r : List Value} {h : ab_H} {i : Fin 4} {x : Int32} : ab_g M post J cut (n + 1) ((pc, .istore_n i, 1, ci, fd) :: I) cu su ls (.int x :: r) nx h = (i.val < M.2.2.1 ∧ ab_g M post J cut n I cu su (ls.set i.val (some (.int x))) r nx h) := rfl
theorem ge_istore {M : ab_M} {post : ab_P} {J I : List ab_E} {cut : List Nat} {n pc ci fd cu su nx : Nat} {ls : List (Option Value)} {r : List Value} {h : ab_H} {i : Nat} {x : Int32} : ab_g M post J cut (n + 1) ((pc, .istore i, 2, ci, fd) :: I) cu su ls (.int x :: r) nx h = (i < M.2.2.1 ∧ ab_g M post J cut n I cu su (ls.set i (some (.int x))) r nx h) := rfl
theorem ge_astore_n {M : ab_M} {post : ab_P} {J I : List ab_E} {cut : List Nat} {n pc ci fd cu su nx : Nat} {ls : List (Option Value)} {r : List Value} {h : ab_H} {i : Fin 4} {x : Nat} : ab_g M post J cut (n + 1) ((pc, .astore_n i, 1, ci, fd) :: I) cu su ls (.ref x :: r) nx h = (i.val < M.2.2.1 ∧ ab_g M post J cut n I cu su (ls.set i.val (some (.ref x))) r nx h) := rfl
theorem ge_astore {M : ab_M} {post : ab_P} {J I : List ab_E} {cut : List Nat} {n pc ci fd cu su nx : Nat} {ls : List (Option Value)} {r : List Value} {h : ab_H} {i : Nat} {x : Nat} : ab_g M post J cut (n + 1) ((pc, .astore i, 2, ci, fd) :: I) cu su ls (.ref x :: r) nx h = (i < M.2.2.1 ∧ ab_g M post J cut n I cu su (ls.set i (some (.ref x))) r nx h) := rfl
theorem ge_iinc {M : ab_M} {post : ab_P} {J I : List ab_E} {cut : List Nat} {n pc ci fd cu su nx : Nat} {ls : List (Option Value)} {r : List Value} {h : ab_H} {i : Nat} {z : Int} : ab_g M post J cut (n + 1) ((pc, .iinc i z, 3, ci, fd) :: I) cu su ls r nx h = ((match ls[i]? with
      | some (some (.int x)) => i < M.2.2.1 ∧ ab_g M post J cut n I cu su (ls.set i (some (.int (x + Int32.ofInt z)))) r nx h
      | _ => False)) := rfl
theorem ge_iadd {M : ab_M} {post : ab_P} {J I : List ab_E} {cut : List Nat} {n pc ci fd cu su nx : Nat} {ls : List (Option Value)} {r : List Value} {h : ab_H} {y : Int32} {x : Int32} : ab_g M post J cut (n + 1) ((pc, .iadd, 1, ci, fd) :: I) cu su ls (.int y :: .int x :: r) nx h = (ab_g M post J cut n I cu su ls (.int (x + y) :: r) nx h) := rfl
theorem ge_isub {M : ab_M} {post : ab_P} {J I : List ab_E} {cut : List Nat} {n pc ci fd cu su nx : Nat} {ls : List (Option Value)} {r : List Value} {h : ab_H} {y : Int32} {x : Int32} : ab_g M post J cut (n + 1) ((pc, .isub, 1, ci, fd) :: I) cu su ls (.int y :: .int x :: r) nx h = (ab_g M post J cut n I cu su ls (.int (x - y) :: r) nx h) := rfl
theorem ge_imul {M : ab_M} {post : ab_P} {J I : List ab_E} {cut : List Nat} {n pc ci fd cu su nx : Nat} {ls : List (Option Value)} {r : List Value} {h : ab_H} {y : Int32} {x : Int32} : ab_g M post J cut (n + 1) ((pc, .imul, 1, ci, fd) :: I) cu su ls (.int y :: .int x :: r) nx h = (ab_g M post J cut n I cu su ls (.int (x * y) :: r) nx h) := rfl
theorem ge_iand {M : ab_M} {post : ab_P} {J I : List ab_E} {cut : List Nat} {n pc ci fd cu su nx : Nat} {ls : List (Option Value)} {r : List Value} {h : ab_H} {y : Int32} {x : Int32} : ab_g M post J cut (n + 1) ((pc, .iand, 1, ci, fd) :: I) cu su ls (.int y :: .int x :: r) nx h = (ab_g M post J cut n I cu su ls (.int (x &&& y) :: r) nx h) := rfl
theorem ge_ior {M : ab_M} {post : ab_P} {J I : List ab_E} {cut : List Nat} {n pc ci fd cu su nx : Nat} {ls : List (Option Value)} {r : List Value} {h : ab_H} {y : Int32} {x : Int32} : ab_g M post J cut (n + 1) ((pc, .ior, 1, ci, fd) :: I) cu su ls (.int y :: .int x :: r) nx h = (ab_g M post J cut n I cu su ls (.int (x ||| y) :: r) nx h) := rfl
theorem ge_ixor {M : ab_M} {post : ab_P} {J I : List ab_E} {cut : List Nat} {n pc ci fd cu su nx : Nat} {ls : List (Option Value)} {r : List Value} {h : ab_H} {y : Int32} {x : Int32} : ab_g M post J cut (n + 1) ((pc, .ixor, 1, ci, fd) :: I) cu su ls (.int y :: .int x :: r) nx h = (ab_g M post J cut n I cu su ls (.int (x ^^^ y) :: r) nx h) := rfl
theorem ge_ishl {M : ab_M} {post : ab_P} {J I : List ab_E} {cut : List Nat} {n pc ci fd cu su nx : Nat} {ls : List (Option Value)} {r : List Value} {h : ab_H} {y : Int32} {x : Int32} : ab_g M post J cut (n + 1) ((pc, .ishl, 1, ci, fd) :: I) cu su ls (.int y :: .int x :: r) nx h = (ab_g M post J cut n I cu su ls (.int (x <<< (y &&& 31)) :: r) nx h) := rfl
theorem ge_ishr {M : ab_M} {post : ab_P} {J I : List ab_E} {cut : List Nat} {n pc ci fd cu su nx : Nat} {ls : List (Option Value)} {r : List Value} {h : ab_H} {y : Int32} {x : Int32} : ab_g M post J cut (n + 1) ((pc, .ishr, 1, ci, fd) :: I) cu su ls (.int y :: .int x :: r) nx h = (ab_g M post J cut n I cu su ls (.int (x >>> (y &&& 31)) :: r) nx h) := rfl
theorem ge_iushr {M : ab_M} {post : ab_P} {J I : List ab_E} {cut : List Nat} {n pc ci fd cu su nx : Nat} {ls : List (Option Value)} {r : List Value} {h : ab_H} {y : Int32} {x : Int32} : ab_g M post J cut (n + 1) ((pc, .iushr, 1, ci, fd) :: I) cu su ls (.int y :: .int x :: r) nx h = (ab_g M post J cut n I cu su ls (.int ((x.toUInt32 >>> (y.toUInt32 &&& Int32.toUInt32 31)).toInt32) :: r) nx h) := rfl
theorem ge_idiv {M : ab_M} {post : ab_P} {J I : List ab_E} {cut : List Nat} {n pc ci fd cu su nx : Nat} {ls : List (Option Value)} {r : List Value} {h : ab_H} {y : Int32} {x : Int32} : ab_g M post J cut (n + 1) ((pc, .idiv, 1, ci, fd) :: I) cu su ls (.int y :: .int x :: r) nx h = (¬ y = 0 ∧ ab_g M post J cut n I cu su ls (.int (x / y) :: r) nx h) := rfl
theorem ge_irem {M : ab_M} {post : ab_P} {J I : List ab_E} {cut : List Nat} {n pc ci fd cu su nx : Nat} {ls : List (Option Value)} {r : List Value} {h : ab_H} {y : Int32} {x : Int32} : ab_g M post J cut (n + 1) ((pc, .irem, 1, ci, fd) :: I) cu su ls (.int y :: .int x :: r) nx h = (¬ y = 0 ∧ ab_g M post J cut n I cu su ls (.int (x - x / y * y) :: r) nx h) := rfl
theorem ge_ineg {M : ab_M} {post : ab_P} {J I : List ab_E} {cut : List Nat} {n pc ci fd cu su nx : Nat} {ls : List (Option Value)} {r : List Value} {h : ab_H} {x : Int32} : ab_g M post J cut (n + 1) ((pc, .ineg, 1, ci, fd) :: I) cu su ls (.int x :: r) nx h = (ab_g M post J cut n I cu su ls (.int (-x) :: r) nx h) := rfl
theorem ge_i2l {M : ab_M} {post : ab_P} {J I : List ab_E} {cut : List Nat} {n pc ci fd cu su nx : Nat} {ls : List (Option Value)} {r : List Value} {h : ab_H} {x : Int32} : ab_g M post J cut (n + 1) ((pc, .i2l, 1, ci, fd) :: I) cu su ls (.int x :: r) nx h = (ab_g M post J cut n I cu su ls (.long x.toInt64 :: r) nx h) := rfl
theorem ge_i2b {M : ab_M} {post : ab_P} {J I : List ab_E} {cut : List Nat} {n pc ci fd cu su nx : Nat} {ls : List (Option Value)} {r : List Value} {h : ab_H} {x : Int32} : ab_g M post J cut (n + 1) ((pc, .i2b, 1, ci, fd) :: I) cu su ls (.int x :: r) nx h = (ab_g M post J cut n I cu su ls (.int x.toInt8.toInt32 :: r) nx h) := rfl
theorem ge_dup {M : ab_M} {post : ab_P} {J I : List ab_E} {cut : List Nat} {n pc ci fd cu su nx : Nat} {ls : List (Option Value)} {r : List Value} {h : ab_H} {x : Int32} : ab_g M post J cut (n + 1) ((pc, .dup, 1, ci, fd) :: I) cu su ls (.int x :: r) nx h = (ab_g M post J cut n I cu su ls (.int x :: .int x :: r) nx h) := rfl
theorem ge_dupr {M : ab_M} {post : ab_P} {J I : List ab_E} {cut : List Nat} {n pc ci fd cu su nx : Nat} {ls : List (Option Value)} {r : List Value} {h : ab_H} {x : Nat} : ab_g M post J cut (n + 1) ((pc, .dup, 1, ci, fd) :: I) cu su ls (.ref x :: r) nx h = (ab_g M post J cut n I cu su ls (.ref x :: .ref x :: r) nx h) := rfl
theorem ge_pop {M : ab_M} {post : ab_P} {J I : List ab_E} {cut : List Nat} {n pc ci fd cu su nx : Nat} {ls : List (Option Value)} {r : List Value} {h : ab_H} {x : Int32} : ab_g M post J cut (n + 1) ((pc, .pop, 1, ci, fd) :: I) cu su ls (.int x :: r) nx h = (ab_g M post J cut n I cu su ls r nx h) := rfl
theorem ge_popr {M : ab_M} {post : ab_P} {J I : List ab_E} {cut : List Nat} {n pc ci fd cu su nx : Nat} {ls : List (Option Value)} {r : List Value} {h : ab_H} {x : Nat} : ab_g M post J cut (n + 1) ((pc, .pop, 1, ci, fd) :: I) cu su ls (.ref x :: r) nx h = (ab_g M post J cut n I cu su ls r nx h) := rfl
theorem ge_dup2 {M : ab_M} {post : ab_P} {J I : List ab_E} {cut : List Nat} {n pc ci fd cu su nx : Nat} {ls : List (Option Value)} {r : List Value} {h : ab_H} {x : Int32} {y : Nat} : ab_g M post J cut (n + 1) ((pc, .dup2, 1, ci, fd) :: I) cu su ls (.int x :: .ref y :: r) nx h = (ab_g M post J cut n I cu su ls (.int x :: .ref y :: .int x :: .ref y :: r) nx h) := rfl
theorem ge_goto {M : ab_M} {post : ab_P} {J I : List ab_E} {cut : List Nat} {n pc ci fd cu su nx : Nat} {ls : List (Option Value)} {r : List Value} {h : ab_H} {off : Int} : ab_g M post J cut (n + 1) ((pc, .goto off, 3, ci, fd) :: I) cu su ls r nx h = (ab_g M post J cut n (ab_b J cut fd) cu su ls r nx h) := rfl
theorem ge_ifCond_eq {M : ab_M} {post : ab_P} {J I : List ab_E} {cut : List Nat} {n pc ci fd cu su nx : Nat} {ls : List (Option Value)} {r : List Value} {h : ab_H} {off : Int} {x : Int32} : ab_g M post J cut (n + 1) ((pc, .ifCond .eq off, 3, ci, fd) :: I) cu su ls (.int x :: r) nx h = ((x = 0 → ab_g M post J cut n (ab_b J cut fd) cu su ls r nx h) ∧ (¬ (x = 0) → ab_g M post J cut n I cu su ls r nx h)) := rfl
theorem ge_if_icmp_eq {M : ab_M} {post : ab_P} {J I : List ab_E} {cut : List Nat} {n pc ci fd cu su nx : Nat} {ls : List (Option Value)} {r : List Value} {h : ab_H} {off : Int} {y : Int32} {x : Int32} : ab_g M post J cut (n + 1) ((pc, .if_icmp .eq off, 3, ci, fd) :: I) cu su ls (.int y :: .int x :: r) nx h = ((x = y → ab_g M post J cut n (ab_b J cut fd) cu su ls r nx h) ∧ (¬ (x = y) → ab_g M post J cut n I cu su ls r nx h)) := rfl
theorem ge_ifCond_ne {M : ab_M} {post : ab_P} {J I : List ab_E} {cut : List Nat} {n pc ci fd cu su nx : Nat} {ls : List (Option Value)} {r : List Value} {h : ab_H} {off : Int} {x : Int32} : ab_g M post J cut (n + 1) ((pc, .ifCond .ne off, 3, ci, fd) :: I) cu su ls (.int x :: r) nx h = ((x ≠ 0 → ab_g M post J cut n (ab_b J cut fd) cu su ls r nx h) ∧ (x = 0 → ab_g M post J cut n I cu su ls r nx h)) := rfl
theorem ge_if_icmp_ne {M : ab_M} {post : ab_P} {J I : List ab_E} {cut : List Nat} {n pc ci fd cu su nx : Nat} {ls : List (Option Value)} {r : List Value} {h : ab_H} {off : Int} {y : Int32} {x : Int32} : ab_g M post J cut (n + 1) ((pc, .if_icmp .ne off, 3, ci, fd) :: I) cu su ls (.int y :: .int x :: r) nx h = ((x ≠ y → ab_g M post J cut n (ab_b J cut fd) cu su ls r nx h) ∧ (x = y → ab_g M post J cut n I cu su ls r nx h)) := rfl
theorem ge_ifCond_lt {M : ab_M} {post : ab_P} {J I : List ab_E} {cut : List Nat} {n pc ci fd cu su nx : Nat} {ls : List (Option Value)} {r : List Value} {h : ab_H} {off : Int} {x : Int32} : ab_g M post J cut (n + 1) ((pc, .ifCond .lt off, 3, ci, fd) :: I) cu su ls (.int x :: r) nx h = ((x < 0 → ab_g M post J cut n (ab_b J cut fd) cu su ls r nx h) ∧ (¬ (x < 0) → ab_g M post J cut n I cu su ls r nx h)) := rfl
theorem ge_if_icmp_lt {M : ab_M} {post : ab_P} {J I : List ab_E} {cut : List Nat} {n pc ci fd cu su nx : Nat} {ls : List (Option Value)} {r : List Value} {h : ab_H} {off : Int} {y : Int32} {x : Int32} : ab_g M post J cut (n + 1) ((pc, .if_icmp .lt off, 3, ci, fd) :: I) cu su ls (.int y :: .int x :: r) nx h = ((x < y → ab_g M post J cut n (ab_b J cut fd) cu su ls r nx h) ∧ (¬ (x < y) → ab_g M post J cut n I cu su ls r nx h)) := rfl
theorem ge_ifCond_ge {M : ab_M} {post : ab_P} {J I : List ab_E} {cut : List Nat} {n pc ci fd cu su nx : Nat} {ls : List (Option Value)} {r : List Value} {h : ab_H} {off : Int} {x : Int32} : ab_g M post J cut (n + 1) ((pc, .ifCond .ge off, 3, ci, fd) :: I) cu su ls (.int x :: r) nx h = ((0 ≤ x → ab_g M post J cut n (ab_b J cut fd) cu su ls r nx h) ∧ (¬ (0 ≤ x) → ab_g M post J cut n I cu su ls r nx h)) := rfl
theorem ge_if_icmp_ge {M : ab_M} {post : ab_P} {J I : List ab_E} {cut : List Nat} {n pc ci fd cu su nx : Nat} {ls : List (Option Value)} {r : List Value} {h : ab_H} {off : Int} {y : Int32} {x : Int32} : ab_g M post J cut (n + 1) ((pc, .if_icmp .ge off, 3, ci, fd) :: I) cu su ls (.int y :: .int x :: r) nx h = ((y ≤ x → ab_g M post J cut n (ab_b J cut fd) cu su ls r nx h) ∧ (¬ (y ≤ x) → ab_g M post J cut n I cu su ls r nx h)) := rfl
theorem ge_ifCond_gt {M : ab_M} {post : ab_P} {J I : List ab_E} {cut : List Nat} {n pc ci fd cu su nx : Nat} {ls : List (Option Value)} {r : List Value} {h : ab_H} {off : Int} {x : Int32} : ab_g M post J cut (n + 1) ((pc, .ifCond .gt off, 3, ci, fd) :: I) cu su ls (.int x :: r) nx h = ((0 < x → ab_g M post J cut n (ab_b J cut fd) cu su ls r nx h) ∧ (¬ (0 < x) → ab_g M post J cut n I cu su ls r nx h)) := rfl
theorem ge_if_icmp_gt {M : ab_M} {post : ab_P} {J I : List ab_E} {cut : List Nat} {n pc ci fd cu su nx : Nat} {ls : List (Option Value)} {r : List Value} {h : ab_H} {off : Int} {y : Int32} {x : Int32} : ab_g M post J cut (n + 1) ((pc, .if_icmp .gt off, 3, ci, fd) :: I) cu su ls (.int y :: .int x :: r) nx h = ((y < x → ab_g M post J cut n (ab_b J cut fd) cu su ls r nx h) ∧ (¬ (y < x) → ab_g M post J cut n I cu su ls r nx h)) := rfl
theorem ge_ifCond_le {M : ab_M} {post : ab_P} {J I : List ab_E} {cut : List Nat} {n pc ci fd cu su nx : Nat} {ls : List (Option Value)} {r : List Value} {h : ab_H} {off : Int} {x : Int32} : ab_g M post J cut (n + 1) ((pc, .ifCond .le off, 3, ci, fd) :: I) cu su ls (.int x :: r) nx h = ((x ≤ 0 → ab_g M post J cut n (ab_b J cut fd) cu su ls r nx h) ∧ (¬ (x ≤ 0) → ab_g M post J cut n I cu su ls r nx h)) := rfl
theorem ge_if_icmp_le {M : ab_M} {post : ab_P} {J I : List ab_E} {cut : List Nat} {n pc ci fd cu su nx : Nat} {ls : List (Option Value)} {r : List Value} {h : ab_H} {off : Int} {y : Int32} {x : Int32} : ab_g M post J cut (n + 1) ((pc, .if_icmp .le off, 3, ci, fd) :: I) cu su ls (.int y :: .int x :: r) nx h = ((x ≤ y → ab_g M post J cut n (ab_b J cut fd) cu su ls r nx h) ∧ (¬ (x ≤ y) → ab_g M post J cut n I cu su ls r nx h)) := rfl
theorem ge_getfield {M : ab_M} {post : ab_P} {J I : List ab_E} {cut : List Nat} {n pc ci fd cu su nx : Nat} {ls : List (Option Value)} {r : List Value} {h : ab_H} {i : Nat} {a : Nat} : ab_g M post J cut (n + 1) ((pc, .getfield i, 3, ci, fd) :: I) cu su ls (.ref a :: r) nx h = ((match h a with
      | some (.inl (cj, fs)) => (match fs[fd]? with
        | some v => (match Nat.beq ci cj with
          | true => ab_g M post J cut n I cu su ls (v :: r) nx h
          | false => ab_V M post cu su pc ls (.ref a :: r) nx h)
        | none => False)
      | _ => ab_V M post cu su pc ls (.ref a :: r) nx h)) := rfl
theorem ge_putfield {M : ab_M} {post : ab_P} {J I : List ab_E} {cut : List Nat} {n pc ci fd cu su nx : Nat} {ls : List (Option Value)} {r : List Value} {h : ab_H} {i : Nat} {v : Int32} {a : Nat} : ab_g M post J cut (n + 1) ((pc, .putfield i, 3, ci, fd) :: I) cu su ls (.int v :: .ref a :: r) nx h = ((match h a with
      | some (.inl (cj, fs)) => (match Nat.beq ci cj with
        | true => fd < fs.length ∧ ab_g M post J cut n I cu su ls r nx (ab_up h a (.inl (cj, fs.set fd (.int v))))
        | false => ab_V M post cu su pc ls (.int v :: .ref a :: r) nx h)
      | _ => False)) := rfl
theorem ge_iaload {M : ab_M} {post : ab_P} {J I : List ab_E} {cut : List Nat} {n pc ci fd cu su nx : Nat} {ls : List (Option Value)} {r : List Value} {h : ab_H} {i : Int32} {a : Nat} : ab_g M post J cut (n + 1) ((pc, .iaload, 1, ci, fd) :: I) cu su ls (.int i :: .ref a :: r) nx h = ((match h a with
      | some (.inr (0, m, .inl f)) => vp_in i m ∧ ab_g M post J cut n I cu su ls (.int (f i.toNatClampNeg) :: r) nx h
      | _ => ab_V M post cu su pc ls (.int i :: .ref a :: r) nx h)) := rfl
theorem ge_iastore {M : ab_M} {post : ab_P} {J I : List ab_E} {cut : List Nat} {n pc ci fd cu su nx : Nat} {ls : List (Option Value)} {r : List Value} {h : ab_H} {x : Int32} {i : Int32} {a : Nat} : ab_g M post J cut (n + 1) ((pc, .iastore, 1, ci, fd) :: I) cu su ls (.int x :: .int i :: .ref a :: r) nx h = ((match h a with
      | some (.inr (0, m, .inl f)) => vp_in i m ∧ ab_g M post J cut n I cu su ls r nx (ab_up h a (.inr (0, m, .inl (upd f i.toNatClampNeg x))))
      | _ => False)) := rfl
theorem ge_baload {M : ab_M} {post : ab_P} {J I : List ab_E} {cut : List Nat} {n pc ci fd cu su nx : Nat} {ls : List (Option Value)} {r : List Value} {h : ab_H} {i : Int32} {a : Nat} : ab_g M post J cut (n + 1) ((pc, .baload, 1, ci, fd) :: I) cu su ls (.int i :: .ref a :: r) nx h = ((match h a with
      | some (.inr (1, m, .inl f)) => vp_in i m ∧ ab_g M post J cut n I cu su ls (.int (f i.toNatClampNeg) :: r) nx h
      | some (.inr (2, m, .inl f)) => vp_in i m ∧ ab_g M post J cut n I cu su ls (.int (f i.toNatClampNeg) :: r) nx h
      | _ => False)) := rfl
theorem ge_ireturn {M : ab_M} {post : ab_P} {J I : List ab_E} {cut : List Nat} {n pc ci fd cu su nx : Nat} {ls : List (Option Value)} {r : List Value} {h : ab_H} {v : Int32} : ab_g M post J cut (n + 1) ((pc, .ireturn, 1, ci, fd) :: I) cu su ls [.int v] nx h = ((match M.2.2.2.1 with
      | some .int => cu ≤ M.2.2.2.2.2.1 ∧ su ≤ M.2.2.2.2.2.2 ∧ post (.inl (some (.int v))) nx h
      | some .boolean => (v = 0 ∨ v = 1) ∧ cu ≤ M.2.2.2.2.2.1 ∧ su ≤ M.2.2.2.2.2.2 ∧ post (.inl (some (.int v))) nx h
      | _ => False)) := rfl
theorem ge_return_ {M : ab_M} {post : ab_P} {J I : List ab_E} {cut : List Nat} {n pc ci fd cu su nx : Nat} {ls : List (Option Value)} {r : List Value} {h : ab_H}  : ab_g M post J cut (n + 1) ((pc, .return_, 1, ci, fd) :: I) cu su ls [] nx h = ((match M.2.2.2.1 with
      | none => cu ≤ M.2.2.2.2.2.1 ∧ su ≤ M.2.2.2.2.2.2 ∧ post (.inl none) nx h
      | _ => False)) := rfl
theorem ge_invokevirtual {M : ab_M} {post : ab_P} {J I : List ab_E} {cut : List Nat} {n pc ci fd cu su nx : Nat} {ls : List (Option Value)} {r : List Value} {h : ab_H} {i : Nat} : ab_g M post J cut (n + 1) ((pc, .invokevirtual i, 3, ci, fd) :: I) cu su ls r nx h = ab_V M post cu su pc ls r nx h := rfl
theorem ge_invokestatic {M : ab_M} {post : ab_P} {J I : List ab_E} {cut : List Nat} {n pc ci fd cu su nx : Nat} {ls : List (Option Value)} {r : List Value} {h : ab_H} {i : Nat} : ab_g M post J cut (n + 1) ((pc, .invokestatic i, 3, ci, fd) :: I) cu su ls r nx h = ab_V M post cu su pc ls r nx h := rfl
theorem ge_invokespecial {M : ab_M} {post : ab_P} {J I : List ab_E} {cut : List Nat} {n pc ci fd cu su nx : Nat} {ls : List (Option Value)} {r : List Value} {h : ab_H} {i : Nat} : ab_g M post J cut (n + 1) ((pc, .invokespecial i, 3, ci, fd) :: I) cu su ls r nx h = ab_V M post cu su pc ls r nx h := rfl
theorem ge_nop {M : ab_M} {post : ab_P} {J I : List ab_E} {cut : List Nat} {n pc ci fd cu su nx : Nat} {ls : List (Option Value)} {r : List Value} {h : ab_H}  : ab_g M post J cut (n + 1) ((pc, .nop, 0, ci, fd) :: I) cu su ls r nx h = ab_V M post cu su pc ls r nx h := rfl
theorem ge_new {M : ab_M} {post : ab_P} {J I : List ab_E} {cut : List Nat} {n pc ci fd cu su nx : Nat} {ls : List (Option Value)} {r : List Value} {h : ab_H} {i : Nat} : ab_g M post J cut (n + 1) ((pc, .new i, 3, ci, fd) :: I) cu su ls r nx h = ab_V M post cu su pc ls r nx h := rfl
