/-! ===== the equations of the walk, as facts that are used by their proofs ===== -/
theorem gq_iconst {M : ab_M} {post : ab_P} {J I : List ab_E} {cut : List Nat} {n pc ci fd cu su nx : Nat} {ls : List (Option Value)} {r : List Value} {h : ab_H} {z : Int} : ab_g M post J cut (n + 1) ((pc, .iconst z, 1, ci, fd) :: I) cu su ls r nx h = (ab_g M post J cut n I cu su ls (.int (Int32.ofInt z) :: r) nx h) := ge_iconst
theorem gq_bipush {M : ab_M} {post : ab_P} {J I : List ab_E} {cut : List Nat} {n pc ci fd cu su nx : Nat} {ls : List (Option Value)} {r : List Value} {h : ab_H} {z : Int} : ab_g M post J cut (n + 1) ((pc, .bipush z, 2, ci, fd) :: I) cu su ls r nx h = (ab_g M post J cut n I cu su ls (.int (Int8.ofInt z).toInt32 :: r) nx h) := ge_bipush
theorem gq_sipush {M : ab_M} {post : ab_P} {J I : List ab_E} {cut : List Nat} {n pc ci fd cu su nx : Nat} {ls : List (Option Value)} {r : List Value} {h : ab_H} {z : Int} : ab_g M post J cut (n + 1) ((pc, .sipush z, 3, ci, fd) :: I) cu su ls r nx h = (ab_g M post J cut n I cu su ls (.int (Int16.ofInt z).toInt32 :: r) nx h) := ge_sipush
theorem gq_iload_n {M : ab_M} {post : ab_P} {J I : List ab_E} {cut : List Nat} {n pc ci fd cu su nx : Nat} {ls : List (Option Value)} {r : List Value} {h : ab_H} {i : Fin 4} : ab_g M post J cut (n + 1) ((pc, .iload_n i, 1, ci, fd) :: I) cu su ls r nx h = ((match ls[i.val]? with
      | some (some (.int x)) => ab_g M post J cut n I cu su ls (.int x :: r) nx h
      | _ => False)) := ge_iload_n
theorem gq_iload {M : ab_M} {post : ab_P} {J I : List ab_E} {cut : List Nat} {n pc ci fd cu su nx : Nat} {ls : List (Option Value)} {r : List Value} {h : ab_H} {i : Nat} : ab_g M post J cut (n + 1) ((pc, .iload i, 2, ci, fd) :: I) cu su ls r nx h = ((match ls[i]? with
      | some (some (.int x)) => ab_g M post J cut n I cu su ls (.int x :: r) nx h
      | _ => False)) := ge_iload
theorem gq_aload_n {M : ab_M} {post : ab_P} {J I : List ab_E} {cut : List Nat} {n pc ci fd cu su nx : Nat} {ls : List (Option Value)} {r : List Value} {h : ab_H} {i : Fin 4} : ab_g M post J cut (n + 1) ((pc, .aload_n i, 1, ci, fd) :: I) cu su ls r nx h = ((match ls[i.val]? with
      | some (some (.ref x)) => ab_g M post J cut n I cu su ls (.ref x :: r) nx h
      | _ => False)) := ge_aload_n
theorem gq_aload {M : ab_M} {post : ab_P} {J I : List ab_E} {cut : List Nat} {n pc ci fd cu su nx : Nat} {ls : List (Option Value)} {r : List Value} {h : ab_H} {i : Nat} : ab_g M post J cut (n + 1) ((pc, .aload i, 2, ci, fd) :: I) cu su ls r nx h = ((match ls[i]? with
      | some (some (.ref x)) => ab_g M post J cut n I cu su ls (.ref x :: r) nx h
      | _ => False)) := ge_aload
theorem gq_istore_n {M : ab_M} {post : ab_P} {J I : List ab_E} {cut : List Nat} {n pc ci fd cu su nx : Nat} {ls : List (Option Value)} {r : List Value} {h : ab_H} {i : Fin 4} {x : Int32} : ab_g M post J cut (n + 1) ((pc, .istore_n i, 1, ci, fd) :: I) cu su ls (.int x :: r) nx h = (i.val < M.2.2.1 ∧ ab_g M post J cut n I cu su (ls.set i.val (some (.int x))) r nx h) := ge_istore_n
theorem gq_istore {M : ab_M} {post : ab_P} {J I : List ab_E} {cut : List Nat} {n pc ci fd cu su nx : Nat} {ls : List (Option Value)} {r : List Value} {h : ab_H} {i : Nat} {x : Int32} : ab_g M post J cut (n + 1) ((pc, .istore i, 2, ci, fd) :: I) cu su ls (.int x :: r) nx h = (i < M.2.2.1 ∧ ab_g M post J cut n I cu su (ls.set i (some (.int x))) r nx h) := ge_istore
theorem gq_astore_n {M : ab_M} {post : ab_P} {J I : List ab_E} {cut : List Nat} {n pc ci fd cu su nx : Nat} {ls : List (Option Value)} {r : List Value} {h : ab_H} {i : Fin 4} {x : Nat} : ab_g M post J cut (n + 1) ((pc, .astore_n i, 1, ci, fd) :: I) cu su ls (.ref x :: r) nx h = (i.val < M.2.2.1 ∧ ab_g M post J cut n I cu su (ls.set i.val (some (.ref x))) r nx h) := ge_astore_n
theorem gq_astore {M : ab_M} {post : ab_P} {J I : List ab_E} {cut : List Nat} {n pc ci fd cu su nx : Nat} {ls : List (Option Value)} {r : List Value} {h : ab_H} {i : Nat} {x : Nat} : ab_g M post J cut (n + 1) ((pc, .astore i, 2, ci, fd) :: I) cu su ls (.ref x :: r) nx h = (i < M.2.2.1 ∧ ab_g M post J cut n I cu su (ls.set i (some (.ref x))) r nx h) := ge_astore
theorem gq_iinc {M : ab_M} {post : ab_P} {J I : List ab_E} {cut : List Nat} {n pc ci fd cu su nx : Nat} {ls : List (Option Value)} {r : List Value} {h : ab_H} {i : Nat} {z : Int} : ab_g M post J cut (n + 1) ((pc, .iinc i z, 3, ci, fd) :: I) cu su ls r nx h = ((match ls[i]? with
      | some (some (.int x)) => i < M.2.2.1 ∧ ab_g M post J cut n I cu su (ls.set i (some (.int (x + Int32.ofInt z)))) r nx h
      | _ => False)) := ge_iinc
theorem gq_iadd {M : ab_M} {post : ab_P} {J I : List ab_E} {cut : List Nat} {n pc ci fd cu su nx : Nat} {ls : List (Option Value)} {r : List Value} {h : ab_H} {y : Int32} {x : Int32} : ab_g M post J cut (n + 1) ((pc, .iadd, 1, ci, fd) :: I) cu su ls (.int y :: .int x :: r) nx h = (ab_g M post J cut n I cu su ls (.int (x + y) :: r) nx h) := ge_iadd
theorem gq_isub {M : ab_M} {post : ab_P} {J I : List ab_E} {cut : List Nat} {n pc ci fd cu su nx : Nat} {ls : List (Option Value)} {r : List Value} {h : ab_H} {y : Int32} {x : Int32} : ab_g M post J cut (n + 1) ((pc, .isub, 1, ci, fd) :: I) cu su ls (.int y :: .int x :: r) nx h = (ab_g M post J cut n I cu su ls (.int (x - y) :: r) nx h) := ge_isub
theorem gq_imul {M : ab_M} {post : ab_P} {J I : List ab_E} {cut : List Nat} {n pc ci fd cu su nx : Nat} {ls : List (Option Value)} {r : List Value} {h : ab_H} {y : Int32} {x : Int32} : ab_g M post J cut (n + 1) ((pc, .imul, 1, ci, fd) :: I) cu su ls (.int y :: .int x :: r) nx h = (ab_g M post J cut n I cu su ls (.int (x * y) :: r) nx h) := ge_imul
theorem gq_iand {M : ab_M} {post : ab_P} {J I : List ab_E} {cut : List Nat} {n pc ci fd cu su nx : Nat} {ls : List (Option Value)} {r : List Value} {h : ab_H} {y : Int32} {x : Int32} : ab_g M post J cut (n + 1) ((pc, .iand, 1, ci, fd) :: I) cu su ls (.int y :: .int x :: r) nx h = (ab_g M post J cut n I cu su ls (.int (x &&& y) :: r) nx h) := ge_iand
theorem gq_ior {M : ab_M} {post : ab_P} {J I : List ab_E} {cut : List Nat} {n pc ci fd cu su nx : Nat} {ls : List (Option Value)} {r : List Value} {h : ab_H} {y : Int32} {x : Int32} : ab_g M post J cut (n + 1) ((pc, .ior, 1, ci, fd) :: I) cu su ls (.int y :: .int x :: r) nx h = (ab_g M post J cut n I cu su ls (.int (x ||| y) :: r) nx h) := ge_ior
theorem gq_ixor {M : ab_M} {post : ab_P} {J I : List ab_E} {cut : List Nat} {n pc ci fd cu su nx : Nat} {ls : List (Option Value)} {r : List Value} {h : ab_H} {y : Int32} {x : Int32} : ab_g M post J cut (n + 1) ((pc, .ixor, 1, ci, fd) :: I) cu su ls (.int y :: .int x :: r) nx h = (ab_g M post J cut n I cu su ls (.int (x ^^^ y) :: r) nx h) := ge_ixor
theorem gq_ishl {M : ab_M} {post : ab_P} {J I : List ab_E} {cut : List Nat} {n pc ci fd cu su nx : Nat} {ls : List (Option Value)} {r : List Value} {h : ab_H} {y : Int32} {x : Int32} : ab_g M post J cut (n + 1) ((pc, .ishl, 1, ci, fd) :: I) cu su ls (.int y :: .int x :: r) nx h = (ab_g M post J cut n I cu su ls (.int (x <<< (y &&& 31)) :: r) nx h) := ge_ishl
theorem gq_ishr {M : ab_M} {post : ab_P} {J I : List ab_E} {cut : List Nat} {n pc ci fd cu su nx : Nat} {ls : List (Option Value)} {r : List Value} {h : ab_H} {y : Int32} {x : Int32} : ab_g M post J cut (n + 1) ((pc, .ishr, 1, ci, fd) :: I) cu su ls (.int y :: .int x :: r) nx h = (ab_g M post J cut n I cu su ls (.int (x >>> (y &&& 31)) :: r) nx h) := ge_ishr
theorem gq_iushr {M : ab_M} {post : ab_P} {J I : List ab_E} {cut : List Nat} {n pc ci fd cu su nx : Nat} {ls : List (Option Value)} {r : List Value} {h : ab_H} {y : Int32} {x : Int32} : ab_g M post J cut (n + 1) ((pc, .iushr, 1, ci, fd) :: I) cu su ls (.int y :: .int x :: r) nx h = (ab_g M post J cut n I cu su ls (.int ((x.toUInt32 >>> (y.toUInt32 &&& Int32.toUInt32 31)).toInt32) :: r) nx h) := ge_iushr
theorem gq_idiv {M : ab_M} {post : ab_P} {J I : List ab_E} {cut : List Nat} {n pc ci fd cu su nx : Nat} {ls : List (Option Value)} {r : List Value} {h : ab_H} {y : Int32} {x : Int32} : ab_g M post J cut (n + 1) ((pc, .idiv, 1, ci, fd) :: I) cu su ls (.int y :: .int x :: r) nx h = (¬ y = 0 ∧ ab_g M post J cut n I cu su ls (.int (x / y) :: r) nx h) := ge_idiv
theorem gq_irem {M : ab_M} {post : ab_P} {J I : List ab_E} {cut : List Nat} {n pc ci fd cu su nx : Nat} {ls : List (Option Value)} {r : List Value} {h : ab_H} {y : Int32} {x : Int32} : ab_g M post J cut (n + 1) ((pc, .irem, 1, ci, fd) :: I) cu su ls (.int y :: .int x :: r) nx h = (¬ y = 0 ∧ ab_g M post J cut n I cu su ls (.int (x - x / y * y) :: r) nx h) := ge_irem
theorem gq_ineg {M : ab_M} {post : ab_P} {J I : List ab_E} {cut : List Nat} {n pc ci fd cu su nx : Nat} {ls : List (Option Value)} {r : List Value} {h : ab_H} {x : Int32} : ab_g M post J cut (n + 1) ((pc, .ineg, 1, ci, fd) :: I) cu su ls (.int x :: r) nx h = (ab_g M post J cut n I cu su ls (.int (-x) :: r) nx h) := ge_ineg
theorem gq_i2l {M : ab_M} {post : ab_P} {J I : List ab_E} {cut : List Nat} {n pc ci fd cu su nx : Nat} {ls : List (Option Value)} {r : List Value} {h : ab_H} {x : Int32} : ab_g M post J cut (n + 1) ((pc, .i2l, 1, ci, fd) :: I) cu su ls (.int x :: r) nx h = (ab_g M post J cut n I cu su ls (.long x.toInt64 :: r) nx h) := ge_i2l
theorem gq_i2b {M : ab_M} {post : ab_P} {J I : List ab_E} {cut : List Nat} {n pc ci fd cu su nx : Nat} {ls : List (Option Value)} {r : List Value} {h : ab_H} {x : Int32} : ab_g M post J cut (n + 1) ((pc, .i2b, 1, ci, fd) :: I) cu su ls (.int x :: r) nx h = (ab_g M post J cut n I cu su ls (.int x.toInt8.toInt32 :: r) nx h) := ge_i2b
theorem gq_dup {M : ab_M} {post : ab_P} {J I : List ab_E} {cut : List Nat} {n pc ci fd cu su nx : Nat} {ls : List (Option Value)} {r : List Value} {h : ab_H} {x : Int32} : ab_g M post J cut (n + 1) ((pc, .dup, 1, ci, fd) :: I) cu su ls (.int x :: r) nx h = (ab_g M post J cut n I cu su ls (.int x :: .int x :: r) nx h) := ge_dup
theorem gq_dupr {M : ab_M} {post : ab_P} {J I : List ab_E} {cut : List Nat} {n pc ci fd cu su nx : Nat} {ls : List (Option Value)} {r : List Value} {h : ab_H} {x : Nat} : ab_g M post J cut (n + 1) ((pc, .dup, 1, ci, fd) :: I) cu su ls (.ref x :: r) nx h = (ab_g M post J cut n I cu su ls (.ref x :: .ref x :: r) nx h) := ge_dupr
theorem gq_pop {M : ab_M} {post : ab_P} {J I : List ab_E} {cut : List Nat} {n pc ci fd cu su nx : Nat} {ls : List (Option Value)} {r : List Value} {h : ab_H} {x : Int32} : ab_g M post J cut (n + 1) ((pc, .pop, 1, ci, fd) :: I) cu su ls (.int x :: r) nx h = (ab_g M post J cut n I cu su ls r nx h) := ge_pop
theorem gq_popr {M : ab_M} {post : ab_P} {J I : List ab_E} {cut : List Nat} {n pc ci fd cu su nx : Nat} {ls : List (Option Value)} {r : List Value} {h : ab_H} {x : Nat} : ab_g M post J cut (n + 1) ((pc, .pop, 1, ci, fd) :: I) cu su ls (.ref x :: r) nx h = (ab_g M post J cut n I cu su ls r nx h) := ge_popr
theorem gq_dup2 {M : ab_M} {post : ab_P} {J I : List ab_E} {cut : List Nat} {n pc ci fd cu su nx : Nat} {ls : List (Option Value)} {r : List Value} {h : ab_H} {x : Int32} {y : Nat} : ab_g M post J cut (n + 1) ((pc, .dup2, 1, ci, fd) :: I) cu su ls (.int x :: .ref y :: r) nx h = (ab_g M post J cut n I cu su ls (.int x :: .ref y :: .int x :: .ref y :: r) nx h) := ge_dup2
theorem gq_goto {M : ab_M} {post : ab_P} {J I : List ab_E} {cut : List Nat} {n pc ci fd cu su nx : Nat} {ls : List (Option Value)} {r : List Value} {h : ab_H} {off : Int} : ab_g M post J cut (n + 1) ((pc, .goto off, 3, ci, fd) :: I) cu su ls r nx h = (ab_g M post J cut n (ab_b J cut fd) cu su ls r nx h) := ge_goto
theorem gq_getfield {M : ab_M} {post : ab_P} {J I : List ab_E} {cut : List Nat} {n pc ci fd cu su nx : Nat} {ls : List (Option Value)} {r : List Value} {h : ab_H} {i : Nat} {a : Nat} : ab_g M post J cut (n + 1) ((pc, .getfield i, 3, ci, fd) :: I) cu su ls (.ref a :: r) nx h = ((match h a with
      | some (.inl (cj, fs)) => (match fs[fd]? with
        | some v => (match Nat.beq ci cj with
          | true => ab_g M post J cut n I cu su ls (v :: r) nx h
          | false => ab_V M post cu su pc ls (.ref a :: r) nx h)
        | none => False)
      | _ => ab_V M post cu su pc ls (.ref a :: r) nx h)) := ge_getfield
theorem gq_putfield {M : ab_M} {post : ab_P} {J I : List ab_E} {cut : List Nat} {n pc ci fd cu su nx : Nat} {ls : List (Option Value)} {r : List Value} {h : ab_H} {i : Nat} {v : Int32} {a : Nat} : ab_g M post J cut (n + 1) ((pc, .putfield i, 3, ci, fd) :: I) cu su ls (.int v :: .ref a :: r) nx h = ((match h a with
      | some (.inl (cj, fs)) => (match Nat.beq ci cj with
        | true => fd < fs.length ∧ ab_g M post J cut n I cu su ls r nx (ab_up h a (.inl (cj, fs.set fd (.int v))))
        | false => ab_V M post cu su pc ls (.int v :: .ref a :: r) nx h)
      | _ => False)) := ge_putfield
theorem gq_iaload {M : ab_M} {post : ab_P} {J I : List ab_E} {cut : List Nat} {n pc ci fd cu su nx : Nat} {ls : List (Option Value)} {r : List Value} {h : ab_H} {i : Int32} {a : Nat} : ab_g M post J cut (n + 1) ((pc, .iaload, 1, ci, fd) :: I) cu su ls (.int i :: .ref a :: r) nx h = ((match h a with
      | some (.inr (0, m, .inl f)) => vp_in i m ∧ ab_g M post J cut n I cu su ls (.int (f i.toNatClampNeg) :: r) nx h
      | _ => ab_V M post cu su pc ls (.int i :: .ref a :: r) nx h)) := ge_iaload
theorem gq_iastore {M : ab_M} {post : ab_P} {J I : List ab_E} {cut : List Nat} {n pc ci fd cu su nx : Nat} {ls : List (Option Value)} {r : List Value} {h : ab_H} {x : Int32} {i : Int32} {a : Nat} : ab_g M post J cut (n + 1) ((pc, .iastore, 1, ci, fd) :: I) cu su ls (.int x :: .int i :: .ref a :: r) nx h = ((match h a with
      | some (.inr (0, m, .inl f)) => vp_in i m ∧ ab_g M post J cut n I cu su ls r nx (ab_up h a (.inr (0, m, .inl (upd f i.toNatClampNeg x))))
      | _ => False)) := ge_iastore
theorem gq_baload {M : ab_M} {post : ab_P} {J I : List ab_E} {cut : List Nat} {n pc ci fd cu su nx : Nat} {ls : List (Option Value)} {r : List Value} {h : ab_H} {i : Int32} {a : Nat} : ab_g M post J cut (n + 1) ((pc, .baload, 1, ci, fd) :: I) cu su ls (.int i :: .ref a :: r) nx h = ((match h a with
      | some (.inr (1, m, .inl f)) => vp_in i m ∧ ab_g M post J cut n I cu su ls (.int (f i.toNatClampNeg) :: r) nx h
      | some (.inr (2, m, .inl f)) => vp_in i m ∧ ab_g M post J cut n I cu su ls (.int (f i.toNatClampNeg) :: r) nx h
      | _ => False)) := ge_baload
theorem gq_ireturn {M : ab_M} {post : ab_P} {J I : List ab_E} {cut : List Nat} {n pc ci fd cu su nx : Nat} {ls : List (Option Value)} {h : ab_H} {v : Int32} : ab_g M post J cut (n + 1) ((pc, .ireturn, 1, ci, fd) :: I) cu su ls [.int v] nx h = ((match M.2.2.2.1 with
      | some .int => cu ≤ M.2.2.2.2.2.1 ∧ su ≤ M.2.2.2.2.2.2 ∧ post (.inl (some (.int v))) nx h
      | some .boolean => (v = 0 ∨ v = 1) ∧ cu ≤ M.2.2.2.2.2.1 ∧ su ≤ M.2.2.2.2.2.2 ∧ post (.inl (some (.int v))) nx h
      | _ => False)) := ge_ireturn (r := [])
theorem gq_return_ {M : ab_M} {post : ab_P} {J I : List ab_E} {cut : List Nat} {n pc ci fd cu su nx : Nat} {ls : List (Option Value)} {h : ab_H}  : ab_g M post J cut (n + 1) ((pc, .return_, 1, ci, fd) :: I) cu su ls [] nx h = ((match M.2.2.2.1 with
      | none => cu ≤ M.2.2.2.2.2.1 ∧ su ≤ M.2.2.2.2.2.2 ∧ post (.inl none) nx h
      | _ => False)) := ge_return_ (r := [])
theorem gq_invokevirtual {M : ab_M} {post : ab_P} {J I : List ab_E} {cut : List Nat} {n pc ci fd cu su nx : Nat} {ls : List (Option Value)} {r : List Value} {h : ab_H} {i : Nat} : ab_g M post J cut (n + 1) ((pc, .invokevirtual i, 3, ci, fd) :: I) cu su ls r nx h = ab_V M post cu su pc ls r nx h := ge_invokevirtual
theorem gq_invokestatic {M : ab_M} {post : ab_P} {J I : List ab_E} {cut : List Nat} {n pc ci fd cu su nx : Nat} {ls : List (Option Value)} {r : List Value} {h : ab_H} {i : Nat} : ab_g M post J cut (n + 1) ((pc, .invokestatic i, 3, ci, fd) :: I) cu su ls r nx h = ab_V M post cu su pc ls r nx h := ge_invokestatic
theorem gq_invokespecial {M : ab_M} {post : ab_P} {J I : List ab_E} {cut : List Nat} {n pc ci fd cu su nx : Nat} {ls : List (Option Value)} {r : List Value} {h : ab_H} {i : Nat} : ab_g M post J cut (n + 1) ((pc, .invokespecial i, 3, ci, fd) :: I) cu su ls r nx h = ab_V M post cu su pc ls r nx h := ge_invokespecial
theorem gq_nop {M : ab_M} {post : ab_P} {J I : List ab_E} {cut : List Nat} {n pc ci fd cu su nx : Nat} {ls : List (Option Value)} {r : List Value} {h : ab_H}  : ab_g M post J cut (n + 1) ((pc, .nop, 0, ci, fd) :: I) cu su ls r nx h = ab_V M post cu su pc ls r nx h := ge_nop
theorem gq_new {M : ab_M} {post : ab_P} {J I : List ab_E} {cut : List Nat} {n pc ci fd cu su nx : Nat} {ls : List (Option Value)} {r : List Value} {h : ab_H} {i : Nat} : ab_g M post J cut (n + 1) ((pc, .new i, 3, ci, fd) :: I) cu su ls r nx h = ab_V M post cu su pc ls r nx h := ge_new
section GQ1
variable {M : ab_M} {post : ab_P} {J I : List ab_E} {cut : List Nat} {n pc ci fd cu su nx : Nat} {ls : List (Option Value)} {r : List Value} {h : ab_H}
theorem gq_iload_n0 : ab_g M post J cut (n + 1) ((pc, .iload_n 0, 1, ci, fd) :: I) cu su ls r nx h = (match (ls[0]? : Option (Option Value)) with
      | some (some (.int x)) => ab_g M post J cut n I cu su ls (.int x :: r) nx h
      | _ => False) := ge_iload_n0
theorem gq_aload_n0 : ab_g M post J cut (n + 1) ((pc, .aload_n 0, 1, ci, fd) :: I) cu su ls r nx h = (match (ls[0]? : Option (Option Value)) with
      | some (some (.ref x)) => ab_g M post J cut n I cu su ls (.ref x :: r) nx h
      | _ => False) := ge_aload_n0
theorem gq_istore_n0 {x : Int32} : ab_g M post J cut (n + 1) ((pc, .istore_n 0, 1, ci, fd) :: I) cu su ls (.int x :: r) nx h = (0 < M.2.2.1 ∧ ab_g M post J cut n I cu su (ls.set 0 (some (.int x))) r nx h) := ge_istore_n0
theorem gq_astore_n0 {x : Nat} : ab_g M post J cut (n + 1) ((pc, .astore_n 0, 1, ci, fd) :: I) cu su ls (.ref x :: r) nx h = (0 < M.2.2.1 ∧ ab_g M post J cut n I cu su (ls.set 0 (some (.ref x))) r nx h) := ge_astore_n0
theorem gq_iload_n1 : ab_g M post J cut (n + 1) ((pc, .iload_n 1, 1, ci, fd) :: I) cu su ls r nx h = (match (ls[1]? : Option (Option Value)) with
      | some (some (.int x)) => ab_g M post J cut n I cu su ls (.int x :: r) nx h
      | _ => False) := ge_iload_n1
theorem gq_aload_n1 : ab_g M post J cut (n + 1) ((pc, .aload_n 1, 1, ci, fd) :: I) cu su ls r nx h = (match (ls[1]? : Option (Option Value)) with
      | some (some (.ref x)) => ab_g M post J cut n I cu su ls (.ref x :: r) nx h
      | _ => False) := ge_aload_n1
theorem gq_istore_n1 {x : Int32} : ab_g M post J cut (n + 1) ((pc, .istore_n 1, 1, ci, fd) :: I) cu su ls (.int x :: r) nx h = (1 < M.2.2.1 ∧ ab_g M post J cut n I cu su (ls.set 1 (some (.int x))) r nx h) := ge_istore_n1
theorem gq_astore_n1 {x : Nat} : ab_g M post J cut (n + 1) ((pc, .astore_n 1, 1, ci, fd) :: I) cu su ls (.ref x :: r) nx h = (1 < M.2.2.1 ∧ ab_g M post J cut n I cu su (ls.set 1 (some (.ref x))) r nx h) := ge_astore_n1
theorem gq_iload_n2 : ab_g M post J cut (n + 1) ((pc, .iload_n 2, 1, ci, fd) :: I) cu su ls r nx h = (match (ls[2]? : Option (Option Value)) with
      | some (some (.int x)) => ab_g M post J cut n I cu su ls (.int x :: r) nx h
      | _ => False) := ge_iload_n2
theorem gq_aload_n2 : ab_g M post J cut (n + 1) ((pc, .aload_n 2, 1, ci, fd) :: I) cu su ls r nx h = (match (ls[2]? : Option (Option Value)) with
      | some (some (.ref x)) => ab_g M post J cut n I cu su ls (.ref x :: r) nx h
      | _ => False) := ge_aload_n2
theorem gq_istore_n2 {x : Int32} : ab_g M post J cut (n + 1) ((pc, .istore_n 2, 1, ci, fd) :: I) cu su ls (.int x :: r) nx h = (2 < M.2.2.1 ∧ ab_g M post J cut n I cu su (ls.set 2 (some (.int x))) r nx h) := ge_istore_n2
theorem gq_astore_n2 {x : Nat} : ab_g M post J cut (n + 1) ((pc, .astore_n 2, 1, ci, fd) :: I) cu su ls (.ref x :: r) nx h = (2 < M.2.2.1 ∧ ab_g M post J cut n I cu su (ls.set 2 (some (.ref x))) r nx h) := ge_astore_n2
theorem gq_iload_n3 : ab_g M post J cut (n + 1) ((pc, .iload_n 3, 1, ci, fd) :: I) cu su ls r nx h = (match (ls[3]? : Option (Option Value)) with
      | some (some (.int x)) => ab_g M post J cut n I cu su ls (.int x :: r) nx h
      | _ => False) := ge_iload_n3
theorem gq_aload_n3 : ab_g M post J cut (n + 1) ((pc, .aload_n 3, 1, ci, fd) :: I) cu su ls r nx h = (match (ls[3]? : Option (Option Value)) with
      | some (some (.ref x)) => ab_g M post J cut n I cu su ls (.ref x :: r) nx h
      | _ => False) := ge_aload_n3
theorem gq_istore_n3 {x : Int32} : ab_g M post J cut (n + 1) ((pc, .istore_n 3, 1, ci, fd) :: I) cu su ls (.int x :: r) nx h = (3 < M.2.2.1 ∧ ab_g M post J cut n I cu su (ls.set 3 (some (.int x))) r nx h) := ge_istore_n3
theorem gq_astore_n3 {x : Nat} : ab_g M post J cut (n + 1) ((pc, .astore_n 3, 1, ci, fd) :: I) cu su ls (.ref x :: r) nx h = (3 < M.2.2.1 ∧ ab_g M post J cut n I cu su (ls.set 3 (some (.ref x))) r nx h) := ge_astore_n3
theorem gq_ldc {i : Nat} : ab_g M post J cut (n + 1) ((pc, .ldc i, 2, ci, fd) :: I) cu su ls r nx h = ab_V M post cu su pc ls r nx h := ge_ldc
theorem gq_ldc_w {i : Nat} : ab_g M post J cut (n + 1) ((pc, .ldc_w i, 3, ci, fd) :: I) cu su ls r nx h = ab_V M post cu su pc ls r nx h := ge_ldc_w
theorem gq_newarray {i : ArrayType} : ab_g M post J cut (n + 1) ((pc, .newarray i, 2, ci, fd) :: I) cu su ls r nx h = ab_V M post cu su pc ls r nx h := ge_newarray
theorem gq_anewarray {i : Nat} : ab_g M post J cut (n + 1) ((pc, .anewarray i, 3, ci, fd) :: I) cu su ls r nx h = ab_V M post cu su pc ls r nx h := ge_anewarray
theorem gq_getstatic {i : Nat} : ab_g M post J cut (n + 1) ((pc, .getstatic i, 3, ci, fd) :: I) cu su ls r nx h = ab_V M post cu su pc ls r nx h := ge_getstatic
theorem gq_aaload  : ab_g M post J cut (n + 1) ((pc, .aaload, 1, ci, fd) :: I) cu su ls r nx h = ab_V M post cu su pc ls r nx h := ge_aaload
theorem gq_aastore  : ab_g M post J cut (n + 1) ((pc, .aastore, 1, ci, fd) :: I) cu su ls r nx h = ab_V M post cu su pc ls r nx h := ge_aastore
theorem gq_bastore  : ab_g M post J cut (n + 1) ((pc, .bastore, 1, ci, fd) :: I) cu su ls r nx h = ab_V M post cu su pc ls r nx h := ge_bastore
theorem gq_laload  : ab_g M post J cut (n + 1) ((pc, .laload, 1, ci, fd) :: I) cu su ls r nx h = ab_V M post cu su pc ls r nx h := ge_laload
theorem gq_lastore  : ab_g M post J cut (n + 1) ((pc, .lastore, 1, ci, fd) :: I) cu su ls r nx h = ab_V M post cu su pc ls r nx h := ge_lastore
theorem gq_lcmp  : ab_g M post J cut (n + 1) ((pc, .lcmp, 1, ci, fd) :: I) cu su ls r nx h = ab_V M post cu su pc ls r nx h := ge_lcmp
theorem gq_athrow  : ab_g M post J cut (n + 1) ((pc, .athrow, 1, ci, fd) :: I) cu su ls r nx h = ab_V M post cu su pc ls r nx h := ge_athrow
theorem gq_arraylength  : ab_g M post J cut (n + 1) ((pc, .arraylength, 1, ci, fd) :: I) cu su ls r nx h = ab_V M post cu su pc ls r nx h := ge_arraylength
theorem gq_areturn  : ab_g M post J cut (n + 1) ((pc, .areturn, 1, ci, fd) :: I) cu su ls r nx h = ab_V M post cu su pc ls r nx h := ge_areturn
theorem gq_if_acmp {i : ACond} {j : Int} : ab_g M post J cut (n + 1) ((pc, .if_acmp i j, 3, ci, fd) :: I) cu su ls r nx h = ab_V M post cu su pc ls r nx h := ge_if_acmp
theorem gq_lconst {i : Fin 2} : ab_g M post J cut (n + 1) ((pc, .lconst i, 1, ci, fd) :: I) cu su ls r nx h = ab_V M post cu su pc ls r nx h := ge_lconst
theorem gq_tableswitch {i j k : Int} {l : Array Int} {m : Nat} : ab_g M post J cut (n + 1) ((pc, .tableswitch i j k l, m, ci, fd) :: I) cu su ls r nx h = ab_V M post cu su pc ls r nx h := ge_tableswitch
end GQ1
section GQ2
variable {M : ab_M} {post : ab_P} {J I : List ab_E} {cut : List Nat} {n pc ci fd cu su nx : Nat} {ls : List (Option Value)} {r : List Value} {h : ab_H} {off : Int} {x y : Int32}
theorem gq_ifCond_eq : ab_g M post J cut (n + 1) ((pc, .ifCond .eq off, 3, ci, fd) :: I) cu su ls (.int x :: r) nx h = ab_br (x = 0) (ab_s M post J cut n (ab_b J cut fd) cu su ls r nx h) (ab_s M post J cut n I cu su ls r nx h) := gl_ifCond_eq
theorem gq_if_icmp_eq : ab_g M post J cut (n + 1) ((pc, .if_icmp .eq off, 3, ci, fd) :: I) cu su ls (.int y :: .int x :: r) nx h = ab_br (x = y) (ab_s M post J cut n (ab_b J cut fd) cu su ls r nx h) (ab_s M post J cut n I cu su ls r nx h) := gl_if_icmp_eq
theorem gq_ifCond_ne : ab_g M post J cut (n + 1) ((pc, .ifCond .ne off, 3, ci, fd) :: I) cu su ls (.int x :: r) nx h = ab_br (x = 0) (ab_s M post J cut n I cu su ls r nx h) (ab_s M post J cut n (ab_b J cut fd) cu su ls r nx h) := gl_ifCond_ne
theorem gq_if_icmp_ne : ab_g M post J cut (n + 1) ((pc, .if_icmp .ne off, 3, ci, fd) :: I) cu su ls (.int y :: .int x :: r) nx h = ab_br (x = y) (ab_s M post J cut n I cu su ls r nx h) (ab_s M post J cut n (ab_b J cut fd) cu su ls r nx h) := gl_if_icmp_ne
theorem gq_ifCond_lt : ab_g M post J cut (n + 1) ((pc, .ifCond .lt off, 3, ci, fd) :: I) cu su ls (.int x :: r) nx h = ab_br (x < 0) (ab_s M post J cut n (ab_b J cut fd) cu su ls r nx h) (ab_s M post J cut n I cu su ls r nx h) := gl_ifCond_lt
theorem gq_if_icmp_lt : ab_g M post J cut (n + 1) ((pc, .if_icmp .lt off, 3, ci, fd) :: I) cu su ls (.int y :: .int x :: r) nx h = ab_br (x < y) (ab_s M post J cut n (ab_b J cut fd) cu su ls r nx h) (ab_s M post J cut n I cu su ls r nx h) := gl_if_icmp_lt
theorem gq_ifCond_ge : ab_g M post J cut (n + 1) ((pc, .ifCond .ge off, 3, ci, fd) :: I) cu su ls (.int x :: r) nx h = ab_br (0 ≤ x) (ab_s M post J cut n (ab_b J cut fd) cu su ls r nx h) (ab_s M post J cut n I cu su ls r nx h) := gl_ifCond_ge
theorem gq_if_icmp_ge : ab_g M post J cut (n + 1) ((pc, .if_icmp .ge off, 3, ci, fd) :: I) cu su ls (.int y :: .int x :: r) nx h = ab_br (y ≤ x) (ab_s M post J cut n (ab_b J cut fd) cu su ls r nx h) (ab_s M post J cut n I cu su ls r nx h) := gl_if_icmp_ge
theorem gq_ifCond_gt : ab_g M post J cut (n + 1) ((pc, .ifCond .gt off, 3, ci, fd) :: I) cu su ls (.int x :: r) nx h = ab_br (0 < x) (ab_s M post J cut n (ab_b J cut fd) cu su ls r nx h) (ab_s M post J cut n I cu su ls r nx h) := gl_ifCond_gt
theorem gq_if_icmp_gt : ab_g M post J cut (n + 1) ((pc, .if_icmp .gt off, 3, ci, fd) :: I) cu su ls (.int y :: .int x :: r) nx h = ab_br (y < x) (ab_s M post J cut n (ab_b J cut fd) cu su ls r nx h) (ab_s M post J cut n I cu su ls r nx h) := gl_if_icmp_gt
theorem gq_ifCond_le : ab_g M post J cut (n + 1) ((pc, .ifCond .le off, 3, ci, fd) :: I) cu su ls (.int x :: r) nx h = ab_br (x ≤ 0) (ab_s M post J cut n (ab_b J cut fd) cu su ls r nx h) (ab_s M post J cut n I cu su ls r nx h) := gl_ifCond_le
theorem gq_if_icmp_le : ab_g M post J cut (n + 1) ((pc, .if_icmp .le off, 3, ci, fd) :: I) cu su ls (.int y :: .int x :: r) nx h = ab_br (x ≤ y) (ab_s M post J cut n (ab_b J cut fd) cu su ls r nx h) (ab_s M post J cut n I cu su ls r nx h) := gl_if_icmp_le
end GQ2
