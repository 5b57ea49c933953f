/-! ===== equations for the small numbers ===== -/
section BE
variable {M : ab_M} {post : ab_P} {J I : List ab_E} {cut : List Nat} {n pc ci fd cu su nx : Nat} {ls : List (Option Value)} {r : List Value} {h : ab_H}
theorem ge_iload_n0 : ab_g M post J cut (n + 1) ((pc, .iload_n 0, 1, ci, fd) :: I) cu su ls r nx h = (match (ls[0]? : Option (Option Value)) with
      | some (some (.int x)) => ab_g M post J cut n I cu su ls (.int x :: r) nx h
      | _ => False) := rfl
theorem ge_aload_n0 : ab_g M post J cut (n + 1) ((pc, .aload_n 0, 1, ci, fd) :: I) cu su ls r nx h = (match (ls[0]? : Option (Option Value)) with
      | some (some (.ref x)) => ab_g M post J cut n I cu su ls (.ref x :: r) nx h
      | _ => False) := rfl
theorem ge_istore_n0 {x : Int32} : ab_g M post J cut (n + 1) ((pc, .istore_n 0, 1, ci, fd) :: I) cu su ls (.int x :: r) nx h = (0 < M.2.2.1 ∧ ab_g M post J cut n I cu su (ls.set 0 (some (.int x))) r nx h) := rfl
theorem ge_astore_n0 {x : Nat} : ab_g M post J cut (n + 1) ((pc, .astore_n 0, 1, ci, fd) :: I) cu su ls (.ref x :: r) nx h = (0 < M.2.2.1 ∧ ab_g M post J cut n I cu su (ls.set 0 (some (.ref x))) r nx h) := rfl
theorem ge_iload_n1 : ab_g M post J cut (n + 1) ((pc, .iload_n 1, 1, ci, fd) :: I) cu su ls r nx h = (match (ls[1]? : Option (Option Value)) with
      | some (some (.int x)) => ab_g M post J cut n I cu su ls (.int x :: r) nx h
      | _ => False) := rfl
theorem ge_aload_n1 : ab_g M post J cut (n + 1) ((pc, .aload_n 1, 1, ci, fd) :: I) cu su ls r nx h = (match (ls[1]? : Option (Option Value)) with
      | some (some (.ref x)) => ab_g M post J cut n I cu su ls (.ref x :: r) nx h
      | _ => False) := rfl
theorem ge_istore_n1 {x : Int32} : ab_g M post J cut (n + 1) ((pc, .istore_n 1, 1, ci, fd) :: I) cu su ls (.int x :: r) nx h = (1 < M.2.2.1 ∧ ab_g M post J cut n I cu su (ls.set 1 (some (.int x))) r nx h) := rfl
theorem ge_astore_n1 {x : Nat} : ab_g M post J cut (n + 1) ((pc, .astore_n 1, 1, ci, fd) :: I) cu su ls (.ref x :: r) nx h = (1 < M.2.2.1 ∧ ab_g M post J cut n I cu su (ls.set 1 (some (.ref x))) r nx h) := rfl
theorem ge_iload_n2 : ab_g M post J cut (n + 1) ((pc, .iload_n 2, 1, ci, fd) :: I) cu su ls r nx h = (match (ls[2]? : Option (Option Value)) with
      | some (some (.int x)) => ab_g M post J cut n I cu su ls (.int x :: r) nx h
      | _ => False) := rfl
theorem ge_aload_n2 : ab_g M post J cut (n + 1) ((pc, .aload_n 2, 1, ci, fd) :: I) cu su ls r nx h = (match (ls[2]? : Option (Option Value)) with
      | some (some (.ref x)) => ab_g M post J cut n I cu su ls (.ref x :: r) nx h
      | _ => False) := rfl
theorem ge_istore_n2 {x : Int32} : ab_g M post J cut (n + 1) ((pc, .istore_n 2, 1, ci, fd) :: I) cu su ls (.int x :: r) nx h = (2 < M.2.2.1 ∧ ab_g M post J cut n I cu su (ls.set 2 (some (.int x))) r nx h) := rfl
theorem ge_astore_n2 {x : Nat} : ab_g M post J cut (n + 1) ((pc, .astore_n 2, 1, ci, fd) :: I) cu su ls (.ref x :: r) nx h = (2 < M.2.2.1 ∧ ab_g M post J cut n I cu su (ls.set 2 (some (.ref x))) r nx h) := rfl
theorem ge_iload_n3 : ab_g M post J cut (n + 1) ((pc, .iload_n 3, 1, ci, fd) :: I) cu su ls r nx h = (match (ls[3]? : Option (Option Value)) with
      | some (some (.int x)) => ab_g M post J cut n I cu su ls (.int x :: r) nx h
      | _ => False) := rfl
theorem ge_aload_n3 : ab_g M post J cut (n + 1) ((pc, .aload_n 3, 1, ci, fd) :: I) cu su ls r nx h = (match (ls[3]? : Option (Option Value)) with
      | some (some (.ref x)) => ab_g M post J cut n I cu su ls (.ref x :: r) nx h
      | _ => False) := rfl
theorem ge_istore_n3 {x : Int32} : ab_g M post J cut (n + 1) ((pc, .istore_n 3, 1, ci, fd) :: I) cu su ls (.int x :: r) nx h = (3 < M.2.2.1 ∧ ab_g M post J cut n I cu su (ls.set 3 (some (.int x))) r nx h) := rfl
theorem ge_astore_n3 {x : Nat} : ab_g M post J cut (n + 1) ((pc, .astore_n 3, 1, ci, fd) :: I) cu su ls (.ref x :: r) nx h = (3 < M.2.2.1 ∧ ab_g M post J cut n I cu su (ls.set 3 (some (.ref x))) r nx h) := rfl
end BE
/-- none; and two more numbers below 0 -/
def nM : Int32 := -1
def nM2 : Int32 := -2
def nM8 : Int32 := -8
theorem ab_cst0 : (Int32.ofInt (-8) = nM8) ∧ (Int32.ofInt (-1) = nM) ∧ (Int32.ofInt 0 = nI 0) ∧ (Int32.ofInt 1 = nI 1) ∧ (Int32.ofInt 2 = nI 2) ∧ (Int32.ofInt 3 = nI 3) ∧ (Int32.ofInt 4 = nI 4) ∧ (Int32.ofInt 5 = nI 5) ∧ (Int32.ofInt 8 = nI 8) ∧ (Int32.ofInt 16 = nI 16) ∧ ((Int8.ofInt (-2)).toInt32 = nM2) ∧ ((Int8.ofInt 6).toInt32 = nI 6) := by decide +kernel
theorem ab_cst1 : ((Int8.ofInt 7).toInt32 = nI 7) ∧ ((Int8.ofInt 8).toInt32 = nI 8) ∧ ((Int8.ofInt 9).toInt32 = nI 9) ∧ ((Int8.ofInt 10).toInt32 = nI 10) ∧ ((Int8.ofInt 11).toInt32 = nI 11) ∧ ((Int8.ofInt 12).toInt32 = nI 12) ∧ ((Int8.ofInt 13).toInt32 = nI 13) ∧ ((Int8.ofInt 14).toInt32 = nI 14) ∧ ((Int8.ofInt 15).toInt32 = nI 15) ∧ ((Int8.ofInt 16).toInt32 = nI 16) ∧ ((Int8.ofInt 20).toInt32 = nI 20) ∧ ((Int8.ofInt 24).toInt32 = nI 24) := by decide +kernel
theorem ab_cst2 : ((Int8.ofInt 32).toInt32 = nI 32) ∧ ((Int8.ofInt 35).toInt32 = nI 35) ∧ ((Int8.ofInt 36).toInt32 = nI 36) ∧ ((Int8.ofInt 37).toInt32 = nI 37) ∧ ((Int8.ofInt 40).toInt32 = nI 40) ∧ ((Int8.ofInt 41).toInt32 = nI 41) ∧ ((Int8.ofInt 42).toInt32 = nI 42) ∧ ((Int8.ofInt 43).toInt32 = nI 43) ∧ ((Int8.ofInt 44).toInt32 = nI 44) ∧ ((Int8.ofInt 48).toInt32 = nI 48) ∧ ((Int8.ofInt 57).toInt32 = nI 57) ∧ ((Int8.ofInt 59).toInt32 = nI 59) := by decide +kernel
theorem ab_cst3 : ((Int8.ofInt 60).toInt32 = nI 60) ∧ ((Int8.ofInt 62).toInt32 = nI 62) ∧ ((Int8.ofInt 63).toInt32 = nI 63) ∧ ((Int8.ofInt 64).toInt32 = nI 64) ∧ ((Int8.ofInt 86).toInt32 = nI 86) ∧ ((Int8.ofInt 87).toInt32 = nI 87) ∧ ((Int8.ofInt 88).toInt32 = nI 88) ∧ ((Int8.ofInt 89).toInt32 = nI 89) ∧ ((Int8.ofInt 97).toInt32 = nI 97) ∧ ((Int8.ofInt 99).toInt32 = nI 99) ∧ ((Int8.ofInt 100).toInt32 = nI 100) ∧ ((Int8.ofInt 122).toInt32 = nI 122) := by decide +kernel
theorem ab_cst4 : ((Int16.ofInt 216).toInt32 = nI 216) ∧ ((Int16.ofInt 239).toInt32 = nI 239) ∧ ((Int16.ofInt 240).toInt32 = nI 240) ∧ ((Int16.ofInt 255).toInt32 = nI 255) ∧ ((Int16.ofInt 256).toInt32 = nI 256) ∧ ((Int16.ofInt 326).toInt32 = nI 326) ∧ ((Int16.ofInt 327).toInt32 = nI 327) ∧ ((Int16.ofInt 375).toInt32 = nI 375) ∧ ((Int16.ofInt 400).toInt32 = nI 400) ∧ ((Int16.ofInt 401).toInt32 = nI 401) ∧ ((Int16.ofInt 849).toInt32 = nI 849) ∧ ((Int16.ofInt 999).toInt32 = nI 999) := by decide +kernel
theorem ab_cst5 : ((Int16.ofInt 1000).toInt32 = nI 1000) ∧ ((Int16.ofInt 1175).toInt32 = nI 1175) ∧ ((Int16.ofInt 1176).toInt32 = nI 1176) ∧ ((Int16.ofInt 1224).toInt32 = nI 1224) ∧ ((Int16.ofInt 2024).toInt32 = nI 2024) ∧ ((Int16.ofInt 3586).toInt32 = nI 3586) ∧ ((Int16.ofInt 3912).toInt32 = nI 3912) ∧ ((Int16.ofInt 9999).toInt32 = nI 9999) ∧ ((Int16.ofInt 10000).toInt32 = nI 10000) ∧ ((Int16.ofInt 12345).toInt32 = nI 12345) ∧ ((Int16.ofInt 16576).toInt32 = nI 16576) ∧ ((Int16.ofInt 32767).toInt32 = nI 32767) := by decide +kernel
