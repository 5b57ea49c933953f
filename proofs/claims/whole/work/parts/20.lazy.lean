/-! ===== branches that are walked only where they are taken ===== -/
def ab_s (M : ab_M) (post : ab_P) (J : List ab_E) (cut : List Nat) (n : Nat) (I : List ab_E) (cu su : Nat) (ls : List (Option Value)) (st : List Value) (nx : Nat) (h : ab_H) : Prop := ab_g M post J cut n I cu su ls st nx h
def ab_br (p A B : Prop) : Prop := (p → A) ∧ (¬ p → B)
section GL0
variable {M : ab_M} {post : ab_P} {J I I2 : List ab_E} {cut : List Nat} {n cu su nx : Nat} {ls : List (Option Value)} {r : List Value} {h : ab_H} {p A B : Prop}
theorem ab_br_t : ab_br True (ab_s M post J cut n I cu su ls r nx h) B = ab_g M post J cut n I cu su ls r nx h := by simp [ab_br, ab_s]
theorem ab_br_f : ab_br False A (ab_s M post J cut n I cu su ls r nx h) = ab_g M post J cut n I cu su ls r nx h := by simp [ab_br, ab_s]
theorem ab_br_n : ab_br (¬ p) A B = ab_br p B A := by
  refine propext ⟨fun h => ⟨fun q => ?_, fun q => h.1 q⟩, fun h => ⟨fun q => h.2 q, fun q => ?_⟩⟩
  · exact h.2 (fun f => f q)
  · exact h.1 (Classical.not_not.mp q)
theorem ab_br_i (h1 : p → ab_g M post J cut n I cu su ls r nx h) (h2 : ¬ p → ab_g M post J cut n I2 cu su ls r nx h) : ab_br p (ab_s M post J cut n I cu su ls r nx h) (ab_s M post J cut n I2 cu su ls r nx h) := ⟨h1, h2⟩
end GL0
section GL
variable {M : ab_M} {post : ab_P} {J I : List ab_E} {cut : List Nat} {n pc ci fd cu su nx : Nat} {ls : List (Option Value)} {r : List Value} {h : ab_H} {off : Int} {x y : Int32}
theorem gl_ifCond_eq : ab_g M post J cut (n + 1) ((pc, .ifCond .eq off, 3, ci, fd) :: I) cu su ls (.int x :: r) nx h = ab_br (x = 0) (ab_s M post J cut n (ab_b J cut fd) cu su ls r nx h) (ab_s M post J cut n I cu su ls r nx h) := rfl
theorem gl_if_icmp_eq : ab_g M post J cut (n + 1) ((pc, .if_icmp .eq off, 3, ci, fd) :: I) cu su ls (.int y :: .int x :: r) nx h = ab_br (x = y) (ab_s M post J cut n (ab_b J cut fd) cu su ls r nx h) (ab_s M post J cut n I cu su ls r nx h) := rfl
theorem gl_ifCond_ne : ab_g M post J cut (n + 1) ((pc, .ifCond .ne off, 3, ci, fd) :: I) cu su ls (.int x :: r) nx h = ab_br (x = 0) (ab_s M post J cut n I cu su ls r nx h) (ab_s M post J cut n (ab_b J cut fd) cu su ls r nx h) := propext And.comm
theorem gl_if_icmp_ne : ab_g M post J cut (n + 1) ((pc, .if_icmp .ne off, 3, ci, fd) :: I) cu su ls (.int y :: .int x :: r) nx h = ab_br (x = y) (ab_s M post J cut n I cu su ls r nx h) (ab_s M post J cut n (ab_b J cut fd) cu su ls r nx h) := propext And.comm
theorem gl_ifCond_lt : ab_g M post J cut (n + 1) ((pc, .ifCond .lt off, 3, ci, fd) :: I) cu su ls (.int x :: r) nx h = ab_br (x < 0) (ab_s M post J cut n (ab_b J cut fd) cu su ls r nx h) (ab_s M post J cut n I cu su ls r nx h) := rfl
theorem gl_if_icmp_lt : ab_g M post J cut (n + 1) ((pc, .if_icmp .lt off, 3, ci, fd) :: I) cu su ls (.int y :: .int x :: r) nx h = ab_br (x < y) (ab_s M post J cut n (ab_b J cut fd) cu su ls r nx h) (ab_s M post J cut n I cu su ls r nx h) := rfl
theorem gl_ifCond_ge : ab_g M post J cut (n + 1) ((pc, .ifCond .ge off, 3, ci, fd) :: I) cu su ls (.int x :: r) nx h = ab_br (0 ≤ x) (ab_s M post J cut n (ab_b J cut fd) cu su ls r nx h) (ab_s M post J cut n I cu su ls r nx h) := rfl
theorem gl_if_icmp_ge : ab_g M post J cut (n + 1) ((pc, .if_icmp .ge off, 3, ci, fd) :: I) cu su ls (.int y :: .int x :: r) nx h = ab_br (y ≤ x) (ab_s M post J cut n (ab_b J cut fd) cu su ls r nx h) (ab_s M post J cut n I cu su ls r nx h) := rfl
theorem gl_ifCond_gt : ab_g M post J cut (n + 1) ((pc, .ifCond .gt off, 3, ci, fd) :: I) cu su ls (.int x :: r) nx h = ab_br (0 < x) (ab_s M post J cut n (ab_b J cut fd) cu su ls r nx h) (ab_s M post J cut n I cu su ls r nx h) := rfl
theorem gl_if_icmp_gt : ab_g M post J cut (n + 1) ((pc, .if_icmp .gt off, 3, ci, fd) :: I) cu su ls (.int y :: .int x :: r) nx h = ab_br (y < x) (ab_s M post J cut n (ab_b J cut fd) cu su ls r nx h) (ab_s M post J cut n I cu su ls r nx h) := rfl
theorem gl_ifCond_le : ab_g M post J cut (n + 1) ((pc, .ifCond .le off, 3, ci, fd) :: I) cu su ls (.int x :: r) nx h = ab_br (x ≤ 0) (ab_s M post J cut n (ab_b J cut fd) cu su ls r nx h) (ab_s M post J cut n I cu su ls r nx h) := rfl
theorem gl_if_icmp_le : ab_g M post J cut (n + 1) ((pc, .if_icmp .le off, 3, ci, fd) :: I) cu su ls (.int y :: .int x :: r) nx h = ab_br (x ≤ y) (ab_s M post J cut n (ab_b J cut fd) cu su ls r nx h) (ab_s M post J cut n I cu su ls r nx h) := rfl
end GL
section ND
variable {a b : Nat}
theorem nd_ltT (h : a < b) (hb : b < 2 ^ 31) : (nI a < nI b) = True := eq_true ((nI_ltI (by omega) hb).mpr h)
theorem nd_ltF (h : b ≤ a) (ha : a < 2 ^ 31) : (nI a < nI b) = False := eq_false (fun q => absurd ((nI_ltI ha (by omega)).mp q) (by omega))
theorem nd_leT (h : a ≤ b) (hb : b < 2 ^ 31) : (nI a ≤ nI b) = True := eq_true ((nI_leI (by omega) hb).mpr h)
theorem nd_leF (h : b < a) (ha : a < 2 ^ 31) : (nI a ≤ nI b) = False := eq_false (fun q => absurd ((nI_leI ha (by omega)).mp q) (by omega))
theorem nd_eqT (h : a = b) : (nI a = nI b) = True := eq_true (by rw [h])
theorem nd_eqF (h : a ≠ b) (ha : a < 2 ^ 31) (hb : b < 2 ^ 31) : (nI a = nI b) = False := eq_false (fun q => absurd ((nI_eq ha hb).mp q) h)
end ND
theorem nM_eq : (nM = nM) = True := eq_self _
theorem nM_lt : (nM < nI 0) = True := eq_true (by decide)
theorem nM_ltM : (nM < nM) = False := eq_false (by decide)
theorem nM_leM : (nM ≤ nM) = True := eq_true (by decide)
