/-! ===== rows of the abstract machine ===== -/
section BV
variable {M : ab_M} {post : ab_P} {cu su pc : Nat} {ls : List (Option Value)} {st : List Value} {nx : Nat} {h : ab_H}
theorem bv_iconst {n : Int} (hd : decode M.2.1 pc = .ok (.iconst n, 1)) (k : ab_V M post cu su (pc + 1) ls (.int (Int32.ofInt n) :: st) nx h) : ab_V M post cu su pc ls st nx h := by
  intro p l e s m args below meth c G D H locs A C hW hS hB hL
  exact lv_iconst C.1 C.2.1 hd rfl (k p l e s m args below meth c G D H locs A C hW hS hB hL)
theorem bv_bipush {n : Int} (hd : decode M.2.1 pc = .ok (.bipush n, 2)) (k : ab_V M post cu su (pc + 2) ls (.int (Int8.ofInt n).toInt32 :: st) nx h) : ab_V M post cu su pc ls st nx h := by
  intro p l e s m args below meth c G D H locs A C hW hS hB hL
  exact lv_bipush C.1 C.2.1 hd rfl (k p l e s m args below meth c G D H locs A C hW hS hB hL)
theorem bv_sipush {n : Int} (hd : decode M.2.1 pc = .ok (.sipush n, 3)) (k : ab_V M post cu su (pc + 3) ls (.int (Int16.ofInt n).toInt32 :: st) nx h) : ab_V M post cu su pc ls st nx h := by
  intro p l e s m args below meth c G D H locs A C hW hS hB hL
  exact lv_sipush C.1 C.2.1 hd rfl (k p l e s m args below meth c G D H locs A C hW hS hB hL)
theorem bv_iload_n {i : Fin 4} {x : Int32} (hd : decode M.2.1 pc = .ok (.iload_n i, 1)) (hx : ls[i.val]? = some (some (.int x))) (k : ab_V M post cu su (pc + 1) ls (.int x :: st) nx h) : ab_V M post cu su pc ls st nx h := by
  intro p l e s m args below meth c G D H locs A C hW hS hB hL
  exact lv_iload_n C.1 C.2.1 hd rfl (hL.2.2.2 _ _ hx).2 (k p l e s m args below meth c G D H locs A C hW hS hB hL)
theorem bv_iload {i : Nat} {x : Int32} (hd : decode M.2.1 pc = .ok (.iload i, 2)) (hx : ls[i]? = some (some (.int x))) (k : ab_V M post cu su (pc + 2) ls (.int x :: st) nx h) : ab_V M post cu su pc ls st nx h := by
  intro p l e s m args below meth c G D H locs A C hW hS hB hL
  exact lv_iload C.1 C.2.1 hd (hL.2.2.2 _ _ hx).2 (k p l e s m args below meth c G D H locs A C hW hS hB hL)
theorem bv_aload_n {i : Fin 4} {x : Nat} (hd : decode M.2.1 pc = .ok (.aload_n i, 1)) (hx : ls[i.val]? = some (some (.ref x))) (k : ab_V M post cu su (pc + 1) ls (.ref x :: st) nx h) : ab_V M post cu su pc ls st nx h := by
  intro p l e s m args below meth c G D H locs A C hW hS hB hL
  exact lv_aload_n C.1 C.2.1 hd rfl (hL.2.2.2 _ _ hx).2 (k p l e s m args below meth c G D H locs A C hW hS hB hL)
theorem bv_aload {i : Nat} {x : Nat} (hd : decode M.2.1 pc = .ok (.aload i, 2)) (hx : ls[i]? = some (some (.ref x))) (k : ab_V M post cu su (pc + 2) ls (.ref x :: st) nx h) : ab_V M post cu su pc ls st nx h := by
  intro p l e s m args below meth c G D H locs A C hW hS hB hL
  exact lv_aload C.1 C.2.1 hd (hL.2.2.2 _ _ hx).2 (k p l e s m args below meth c G D H locs A C hW hS hB hL)
theorem bv_iadd {x y : Int32} (hd : decode M.2.1 pc = .ok (.iadd, 1)) (k : ab_V M post cu su (pc + 1) ls (.int (x + y) :: st) nx h) : ab_V M post cu su pc ls (.int y :: .int x :: st) nx h := by
  intro p l e s m args below meth c G D H locs A C hW hS hB hL
  exact lv_iadd C.1 C.2.1 hd (k p l e s m args below meth c G D H locs A C hW hS hB hL)
theorem bv_isub {x y : Int32} (hd : decode M.2.1 pc = .ok (.isub, 1)) (k : ab_V M post cu su (pc + 1) ls (.int (x - y) :: st) nx h) : ab_V M post cu su pc ls (.int y :: .int x :: st) nx h := by
  intro p l e s m args below meth c G D H locs A C hW hS hB hL
  exact lv_isub C.1 C.2.1 hd (k p l e s m args below meth c G D H locs A C hW hS hB hL)
theorem bv_imul {x y : Int32} (hd : decode M.2.1 pc = .ok (.imul, 1)) (k : ab_V M post cu su (pc + 1) ls (.int (x * y) :: st) nx h) : ab_V M post cu su pc ls (.int y :: .int x :: st) nx h := by
  intro p l e s m args below meth c G D H locs A C hW hS hB hL
  exact lv_imul C.1 C.2.1 hd (k p l e s m args below meth c G D H locs A C hW hS hB hL)
theorem bv_iand {x y : Int32} (hd : decode M.2.1 pc = .ok (.iand, 1)) (k : ab_V M post cu su (pc + 1) ls (.int (x &&& y) :: st) nx h) : ab_V M post cu su pc ls (.int y :: .int x :: st) nx h := by
  intro p l e s m args below meth c G D H locs A C hW hS hB hL
  exact lv_iand C.1 C.2.1 hd (k p l e s m args below meth c G D H locs A C hW hS hB hL)
theorem bv_ior {x y : Int32} (hd : decode M.2.1 pc = .ok (.ior, 1)) (k : ab_V M post cu su (pc + 1) ls (.int (x ||| y) :: st) nx h) : ab_V M post cu su pc ls (.int y :: .int x :: st) nx h := by
  intro p l e s m args below meth c G D H locs A C hW hS hB hL
  exact lv_ior C.1 C.2.1 hd (k p l e s m args below meth c G D H locs A C hW hS hB hL)
theorem bv_ixor {x y : Int32} (hd : decode M.2.1 pc = .ok (.ixor, 1)) (k : ab_V M post cu su (pc + 1) ls (.int (x ^^^ y) :: st) nx h) : ab_V M post cu su pc ls (.int y :: .int x :: st) nx h := by
  intro p l e s m args below meth c G D H locs A C hW hS hB hL
  exact lv_ixor C.1 C.2.1 hd (k p l e s m args below meth c G D H locs A C hW hS hB hL)
theorem bv_ishl {x y : Int32} (hd : decode M.2.1 pc = .ok (.ishl, 1)) (k : ab_V M post cu su (pc + 1) ls (.int (x <<< (y &&& 31)) :: st) nx h) : ab_V M post cu su pc ls (.int y :: .int x :: st) nx h := by
  intro p l e s m args below meth c G D H locs A C hW hS hB hL
  exact lv_ishl C.1 C.2.1 hd (k p l e s m args below meth c G D H locs A C hW hS hB hL)
theorem bv_ishr {x y : Int32} (hd : decode M.2.1 pc = .ok (.ishr, 1)) (k : ab_V M post cu su (pc + 1) ls (.int (x >>> (y &&& 31)) :: st) nx h) : ab_V M post cu su pc ls (.int y :: .int x :: st) nx h := by
  intro p l e s m args below meth c G D H locs A C hW hS hB hL
  exact lv_ishr C.1 C.2.1 hd (k p l e s m args below meth c G D H locs A C hW hS hB hL)
theorem bv_iushr {x y : Int32} (hd : decode M.2.1 pc = .ok (.iushr, 1)) (k : ab_V M post cu su (pc + 1) ls (.int (x.toUInt32 >>> (y.toUInt32 &&& Int32.toUInt32 31)).toInt32 :: st) nx h) : ab_V M post cu su pc ls (.int y :: .int x :: st) nx h := by
  intro p l e s m args below meth c G D H locs A C hW hS hB hL
  exact lv_iushr C.1 C.2.1 hd rfl (k p l e s m args below meth c G D H locs A C hW hS hB hL)
theorem bv_ineg {x : Int32} (hd : decode M.2.1 pc = .ok (.ineg, 1)) (k : ab_V M post cu su (pc + 1) ls (.int (-x) :: st) nx h) : ab_V M post cu su pc ls (.int x :: st) nx h := by
  intro p l e s m args below meth c G D H locs A C hW hS hB hL
  exact lv_ineg C.1 C.2.1 hd (k p l e s m args below meth c G D H locs A C hW hS hB hL)
theorem bv_idiv {x y : Int32} (hd : decode M.2.1 pc = .ok (.idiv, 1)) (hy : ¬ y = 0) (k : ab_V M post cu su (pc + 1) ls (.int (x / y) :: st) nx h) : ab_V M post cu su pc ls (.int y :: .int x :: st) nx h := by
  intro p l e s m args below meth c G D H locs A C hW hS hB hL
  exact lv_idiv C.1 C.2.1 hd hy (k p l e s m args below meth c G D H locs A C hW hS hB hL)
theorem bv_irem {x y : Int32} (hd : decode M.2.1 pc = .ok (.irem, 1)) (hy : ¬ y = 0) (k : ab_V M post cu su (pc + 1) ls (.int (x - x / y * y) :: st) nx h) : ab_V M post cu su pc ls (.int y :: .int x :: st) nx h := by
  intro p l e s m args below meth c G D H locs A C hW hS hB hL
  exact lv_irem C.1 C.2.1 hd hy (k p l e s m args below meth c G D H locs A C hW hS hB hL)
theorem bv_i2l {x : Int32} (hd : decode M.2.1 pc = .ok (.i2l, 1)) (k : ab_V M post cu su (pc + 1) ls (.long x.toInt64 :: st) nx h) : ab_V M post cu su pc ls (.int x :: st) nx h := by
  intro p l e s m args below meth c G D H locs A C hW hS hB hL
  exact lv_i2l C.1 C.2.1 hd rfl (k p l e s m args below meth c G D H locs A C hW hS hB hL)
theorem bv_i2b {x : Int32} (hd : decode M.2.1 pc = .ok (.i2b, 1)) (k : ab_V M post cu su (pc + 1) ls (.int x.toInt8.toInt32 :: st) nx h) : ab_V M post cu su pc ls (.int x :: st) nx h := by
  intro p l e s m args below meth c G D H locs A C hW hS hB hL
  exact lv_i2b C.1 C.2.1 hd rfl (k p l e s m args below meth c G D H locs A C hW hS hB hL)
theorem bv_i2c {x : Int32} (hd : decode M.2.1 pc = .ok (.i2c, 1)) (k : ab_V M post cu su (pc + 1) ls (.int (x.toUInt32 % 65536).toInt32 :: st) nx h) : ab_V M post cu su pc ls (.int x :: st) nx h := by
  intro p l e s m args below meth c G D H locs A C hW hS hB hL
  exact lv_i2c C.1 C.2.1 hd rfl (k p l e s m args below meth c G D H locs A C hW hS hB hL)
theorem bv_dup {v : Value} (hd : decode M.2.1 pc = .ok (.dup, 1)) (hv : v.category = 1) (k : ab_V M post cu su (pc + 1) ls (v :: v :: st) nx h) : ab_V M post cu su pc ls (v :: st) nx h := by
  intro p l e s m args below meth c G D H locs A C hW hS hB hL
  exact lv_dup C.1 C.2.1 hd (by rw [ab_v_cat]; exact hv) (k p l e s m args below meth c G D H locs A C hW hS hB hL)
theorem bv_pop {v : Value} (hd : decode M.2.1 pc = .ok (.pop, 1)) (hv : v.category = 1) (k : ab_V M post cu su (pc + 1) ls st nx h) : ab_V M post cu su pc ls (v :: st) nx h := by
  intro p l e s m args below meth c G D H locs A C hW hS hB hL
  exact lv_pop C.1 C.2.1 hd (by rw [ab_v_cat]; exact hv) (k p l e s m args below meth c G D H locs A C hW hS hB hL)
theorem bv_dup2 {v w : Value} (hd : decode M.2.1 pc = .ok (.dup2, 1)) (hv : v.category = 1) (hw : w.category = 1) (k : ab_V M post cu su (pc + 1) ls (v :: w :: v :: w :: st) nx h) : ab_V M post cu su pc ls (v :: w :: st) nx h := by
  intro p l e s m args below meth c G D H locs A C hW hS hB hL
  exact lv_dup2_11 C.1 C.2.1 hd (by rw [ab_v_cat]; exact hv) (by rw [ab_v_cat]; exact hw) (k p l e s m args below meth c G D H locs A C hW hS hB hL)
theorem bv_goto {off : Int} {tgt : Nat} (hd : decode M.2.1 pc = .ok (.goto off, 3)) (ht : (pc : Int) + off = (tgt : Int)) (k : ab_V M post cu su tgt ls st nx h) : ab_V M post cu su pc ls st nx h := by
  intro p l e s m args below meth c G D H locs A C hW hS hB hL
  exact lv_goto C.1 C.2.1 hd ht (k p l e s m args below meth c G D H locs A C hW hS hB hL)
theorem bv_if_eq {x : Int32} {off : Int} {tgt : Nat} (hd : decode M.2.1 pc = .ok (.ifCond .eq off, 3)) (ht : (pc : Int) + off = (tgt : Int)) (k : (x = 0 → ab_V M post cu su tgt ls st nx h) ∧ (¬ (x = 0) → ab_V M post cu su (pc + 3) ls st nx h)) : ab_V M post cu su pc ls (.int x :: st) nx h := by
  intro p l e s m args below meth c G D H locs A C hW hS hB hL
  exact lv_if_eq C.1 C.2.1 hd ht (fun q => k.1 q p l e s m args below meth c G D H locs A C hW hS hB hL) (fun q => k.2 q p l e s m args below meth c G D H locs A C hW hS hB hL)
theorem bv_icmp_eq {x y : Int32} {off : Int} {tgt : Nat} (hd : decode M.2.1 pc = .ok (.if_icmp .eq off, 3)) (ht : (pc : Int) + off = (tgt : Int)) (k : (x = y → ab_V M post cu su tgt ls st nx h) ∧ (¬ (x = y) → ab_V M post cu su (pc + 3) ls st nx h)) : ab_V M post cu su pc ls (.int y :: .int x :: st) nx h := by
  intro p l e s m args below meth c G D H locs A C hW hS hB hL
  exact lv_icmp_eq C.1 C.2.1 hd ht (fun q => k.1 q p l e s m args below meth c G D H locs A C hW hS hB hL) (fun q => k.2 q p l e s m args below meth c G D H locs A C hW hS hB hL)
theorem bv_if_ne {x : Int32} {off : Int} {tgt : Nat} (hd : decode M.2.1 pc = .ok (.ifCond .ne off, 3)) (ht : (pc : Int) + off = (tgt : Int)) (k : (x ≠ 0 → ab_V M post cu su tgt ls st nx h) ∧ (x = 0 → ab_V M post cu su (pc + 3) ls st nx h)) : ab_V M post cu su pc ls (.int x :: st) nx h := by
  intro p l e s m args below meth c G D H locs A C hW hS hB hL
  exact lv_if_ne C.1 C.2.1 hd ht (fun q => k.1 q p l e s m args below meth c G D H locs A C hW hS hB hL) (fun q => k.2 q p l e s m args below meth c G D H locs A C hW hS hB hL)
theorem bv_icmp_ne {x y : Int32} {off : Int} {tgt : Nat} (hd : decode M.2.1 pc = .ok (.if_icmp .ne off, 3)) (ht : (pc : Int) + off = (tgt : Int)) (k : (x ≠ y → ab_V M post cu su tgt ls st nx h) ∧ (x = y → ab_V M post cu su (pc + 3) ls st nx h)) : ab_V M post cu su pc ls (.int y :: .int x :: st) nx h := by
  intro p l e s m args below meth c G D H locs A C hW hS hB hL
  exact lv_icmp_ne C.1 C.2.1 hd ht (fun q => k.1 q p l e s m args below meth c G D H locs A C hW hS hB hL) (fun q => k.2 q p l e s m args below meth c G D H locs A C hW hS hB hL)
theorem bv_if_lt {x : Int32} {off : Int} {tgt : Nat} (hd : decode M.2.1 pc = .ok (.ifCond .lt off, 3)) (ht : (pc : Int) + off = (tgt : Int)) (k : (x < 0 → ab_V M post cu su tgt ls st nx h) ∧ (¬ (x < 0) → ab_V M post cu su (pc + 3) ls st nx h)) : ab_V M post cu su pc ls (.int x :: st) nx h := by
  intro p l e s m args below meth c G D H locs A C hW hS hB hL
  exact lv_if_lt C.1 C.2.1 hd ht (fun q => k.1 q p l e s m args below meth c G D H locs A C hW hS hB hL) (fun q => k.2 q p l e s m args below meth c G D H locs A C hW hS hB hL)
theorem bv_icmp_lt {x y : Int32} {off : Int} {tgt : Nat} (hd : decode M.2.1 pc = .ok (.if_icmp .lt off, 3)) (ht : (pc : Int) + off = (tgt : Int)) (k : (x < y → ab_V M post cu su tgt ls st nx h) ∧ (¬ (x < y) → ab_V M post cu su (pc + 3) ls st nx h)) : ab_V M post cu su pc ls (.int y :: .int x :: st) nx h := by
  intro p l e s m args below meth c G D H locs A C hW hS hB hL
  exact lv_icmp_lt C.1 C.2.1 hd ht (fun q => k.1 q p l e s m args below meth c G D H locs A C hW hS hB hL) (fun q => k.2 q p l e s m args below meth c G D H locs A C hW hS hB hL)
theorem bv_if_ge {x : Int32} {off : Int} {tgt : Nat} (hd : decode M.2.1 pc = .ok (.ifCond .ge off, 3)) (ht : (pc : Int) + off = (tgt : Int)) (k : (0 ≤ x → ab_V M post cu su tgt ls st nx h) ∧ (¬ (0 ≤ x) → ab_V M post cu su (pc + 3) ls st nx h)) : ab_V M post cu su pc ls (.int x :: st) nx h := by
  intro p l e s m args below meth c G D H locs A C hW hS hB hL
  exact lv_if_ge C.1 C.2.1 hd ht (fun q => k.1 q p l e s m args below meth c G D H locs A C hW hS hB hL) (fun q => k.2 q p l e s m args below meth c G D H locs A C hW hS hB hL)
theorem bv_icmp_ge {x y : Int32} {off : Int} {tgt : Nat} (hd : decode M.2.1 pc = .ok (.if_icmp .ge off, 3)) (ht : (pc : Int) + off = (tgt : Int)) (k : (y ≤ x → ab_V M post cu su tgt ls st nx h) ∧ (¬ (y ≤ x) → ab_V M post cu su (pc + 3) ls st nx h)) : ab_V M post cu su pc ls (.int y :: .int x :: st) nx h := by
  intro p l e s m args below meth c G D H locs A C hW hS hB hL
  exact lv_icmp_ge C.1 C.2.1 hd ht (fun q => k.1 q p l e s m args below meth c G D H locs A C hW hS hB hL) (fun q => k.2 q p l e s m args below meth c G D H locs A C hW hS hB hL)
theorem bv_if_gt {x : Int32} {off : Int} {tgt : Nat} (hd : decode M.2.1 pc = .ok (.ifCond .gt off, 3)) (ht : (pc : Int) + off = (tgt : Int)) (k : (0 < x → ab_V M post cu su tgt ls st nx h) ∧ (¬ (0 < x) → ab_V M post cu su (pc + 3) ls st nx h)) : ab_V M post cu su pc ls (.int x :: st) nx h := by
  intro p l e s m args below meth c G D H locs A C hW hS hB hL
  exact lv_if_gt C.1 C.2.1 hd ht (fun q => k.1 q p l e s m args below meth c G D H locs A C hW hS hB hL) (fun q => k.2 q p l e s m args below meth c G D H locs A C hW hS hB hL)
theorem bv_icmp_gt {x y : Int32} {off : Int} {tgt : Nat} (hd : decode M.2.1 pc = .ok (.if_icmp .gt off, 3)) (ht : (pc : Int) + off = (tgt : Int)) (k : (y < x → ab_V M post cu su tgt ls st nx h) ∧ (¬ (y < x) → ab_V M post cu su (pc + 3) ls st nx h)) : ab_V M post cu su pc ls (.int y :: .int x :: st) nx h := by
  intro p l e s m args below meth c G D H locs A C hW hS hB hL
  exact lv_icmp_gt C.1 C.2.1 hd ht (fun q => k.1 q p l e s m args below meth c G D H locs A C hW hS hB hL) (fun q => k.2 q p l e s m args below meth c G D H locs A C hW hS hB hL)
theorem bv_if_le {x : Int32} {off : Int} {tgt : Nat} (hd : decode M.2.1 pc = .ok (.ifCond .le off, 3)) (ht : (pc : Int) + off = (tgt : Int)) (k : (x ≤ 0 → ab_V M post cu su tgt ls st nx h) ∧ (¬ (x ≤ 0) → ab_V M post cu su (pc + 3) ls st nx h)) : ab_V M post cu su pc ls (.int x :: st) nx h := by
  intro p l e s m args below meth c G D H locs A C hW hS hB hL
  exact lv_if_le C.1 C.2.1 hd ht (fun q => k.1 q p l e s m args below meth c G D H locs A C hW hS hB hL) (fun q => k.2 q p l e s m args below meth c G D H locs A C hW hS hB hL)
theorem bv_icmp_le {x y : Int32} {off : Int} {tgt : Nat} (hd : decode M.2.1 pc = .ok (.if_icmp .le off, 3)) (ht : (pc : Int) + off = (tgt : Int)) (k : (x ≤ y → ab_V M post cu su tgt ls st nx h) ∧ (¬ (x ≤ y) → ab_V M post cu su (pc + 3) ls st nx h)) : ab_V M post cu su pc ls (.int y :: .int x :: st) nx h := by
  intro p l e s m args below meth c G D H locs A C hW hS hB hL
  exact lv_icmp_le C.1 C.2.1 hd ht (fun q => k.1 q p l e s m args below meth c G D H locs A C hW hS hB hL) (fun q => k.2 q p l e s m args below meth c G D H locs A C hW hS hB hL)
end BV
