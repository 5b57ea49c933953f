/-- what a place must be -/
def ab_e1 (M : ab_M) (e : ab_E) : Prop := decode M.2.1 e.1 = .ok (e.2.1, e.2.2.1) ∧ match e.2.1 with
  | .getfield i => e.2.2.2.1 < 50 → ab_lf M.1.cls i e.2.2.2.1 e.2.2.2.2
  | .putfield i => e.2.2.2.1 < 50 → ab_lp M.1.cls i e.2.2.2.1 e.2.2.2.2 .int
  | .goto off => (e.1 : Int) + off = (e.2.2.2.2 : Int)
  | .ifCond _ off => (e.1 : Int) + off = (e.2.2.2.2 : Int)
  | .if_icmp _ off => (e.1 : Int) + off = (e.2.2.2.2 : Int)
  | _ => True
/-- a method's whole text -/
def ab_cd (M : ab_M) : Nat → List ab_E → Prop
  | _, [] => True
  | p, e :: t => e.1 = p ∧ ab_e1 M e ∧ ab_cd M (p + e.2.2.1) t
/-- a stretch of it -/
def ab_sq (M : ab_M) : Nat → List ab_E → Prop
  | _, [] => True
  | p, e :: t => e.1 = p ∧ ((ab_e1 M e ∧ ab_sq M (p + e.2.2.1) t) ∨ e.2.1 = .nop)
theorem ab_cd_dr {M : ab_M} {tgt : Nat} : ∀ {I : List ab_E} {p : Nat}, ab_cd M p I → ab_cd M tgt (ab_dr tgt I)
  | [], _, _ => trivial
  | e :: t, p, h => by
    unfold ab_dr
    split
    · rename_i q
      have q := Nat.eq_of_beq_eq_true q
      obtain ⟨h1, h2⟩ := h
      subst h1
      subst q
      exact ⟨rfl, h2⟩
    · exact ab_cd_dr h.2.2
theorem ab_sq_tk {M : ab_M} {cut : List Nat} : ∀ {I : List ab_E} {p : Nat}, ab_cd M p I → ab_sq M p (ab_tk cut I)
  | [], _, _ => trivial
  | e :: t, p, h => by
    unfold ab_tk
    split
    · exact ⟨h.1, Or.inr rfl⟩
    · exact ⟨h.1, Or.inl ⟨h.2.1, ab_sq_tk h.2.2⟩⟩
theorem ab_sq_b {M : ab_M} {J : List ab_E} (h : ab_cd M 0 J) (cut : List Nat) (tgt : Nat) : ab_sq M tgt (ab_b J cut tgt) := ab_sq_tk (ab_cd_dr h)
theorem ab_sq_b0 {M : ab_M} {J : List ab_E} (h : ab_cd M 0 J) (cut : List Nat) (tgt : Nat) : ab_sq M tgt (ab_b0 J cut tgt) := by
  have h1 := ab_cd_dr (tgt := tgt) h
  unfold ab_b0
  split
  · trivial
  · rename_i e t q
    rw [q] at h1
    exact ⟨h1.1, Or.inl ⟨h1.2.1, ab_sq_tk h1.2.2⟩⟩
/-- an object's class is one of ours -/
theorem ab_lt50 {M : ab_M} {post : ab_P} {cu su pc : Nat} {ls : List (Option Value)} {st : List Value} {nx : Nat} {h : ab_H} {a ci : Nat} {fs : List Value} (ha : h a = some (.inl (ci, fs))) (k : ci < 50 → ab_V M post cu su pc ls st nx h) : ab_V M post cu su pc ls st nx h := by
  intro p l e s m args below meth c G D H locs A C hW hS hB hL
  obtain ⟨a1, a2, r, r1, r2⟩ := hW.own ha rfl
  have h1 : ci < vwCl.length := (List.getElem?_eq_some_iff.mp r1).1
  have h2 : vwCl.length = 11 := rfl
  exact k (by omega) p l e s m args below meth c G D H locs A C hW hS hB hL
section BG
variable {M : ab_M} {post : ab_P} {J : List ab_E} {cut : List Nat}
set_option maxHeartbeats 4000000 in
theorem ab_g_v (hok : ab_cd M 0 J) : ∀ (n : Nat) (I : List ab_E) (cu su p : Nat) (ls : List (Option Value)) (st : List Value) (nx : Nat) (h : ab_H), ab_sq M p I → ab_g M post J cut n I cu su ls st nx h → ab_V M post cu su p ls st nx h := by
  intro n
  induction n with
  | zero =>
    intro I cu su p ls st nx h hI k
    cases I with
    | nil => exact k.elim
    | cons e t => obtain ⟨rfl, -⟩ := hI; exact k
  | succ n ih =>
    intro I cu su p ls st nx h hI k
    cases I with
    | nil => exact k.elim
    | cons e t =>
      obtain ⟨pc, ins, len, ci, fd⟩ := e
      obtain ⟨h1, h2⟩ := hI
      dsimp only at h1
      subst h1
      rcases h2 with ⟨he, ht⟩ | hnop
      · unfold ab_g at k
        split at k
        · rename_i q; cases q; exact bv_iconst he.1 (ih _ _ _ _ _ _ _ _ ht k)
        · rename_i q; cases q; exact bv_bipush he.1 (ih _ _ _ _ _ _ _ _ ht k)
        · rename_i q; cases q; exact bv_sipush he.1 (ih _ _ _ _ _ _ _ _ ht k)
        · rename_i q
          cases q
          split at k
          · rename_i hx; exact bv_iload_n he.1 hx (ih _ _ _ _ _ _ _ _ ht k)
          · exact k.elim
        · rename_i q
          cases q
          split at k
          · rename_i hx; exact bv_iload he.1 hx (ih _ _ _ _ _ _ _ _ ht k)
          · exact k.elim
        · rename_i q
          cases q
          split at k
          · rename_i hx; exact bv_aload_n he.1 hx (ih _ _ _ _ _ _ _ _ ht k)
          · exact k.elim
        · rename_i q
          cases q
          split at k
          · rename_i hx; exact bv_aload he.1 hx (ih _ _ _ _ _ _ _ _ ht k)
          · exact k.elim
        · rename_i q; cases q; exact bv_istore_n he.1 k.1 (ih _ _ _ _ _ _ _ _ ht k.2)
        · rename_i q; cases q; exact bv_istore he.1 k.1 (ih _ _ _ _ _ _ _ _ ht k.2)
        · rename_i q; cases q; exact bv_astore_n he.1 k.1 (ih _ _ _ _ _ _ _ _ ht k.2)
        · rename_i q; cases q; exact bv_astore he.1 k.1 (ih _ _ _ _ _ _ _ _ ht k.2)
        · rename_i q
          cases q
          split at k
          · rename_i hx; exact bv_iinc he.1 k.1 hx (ih _ _ _ _ _ _ _ _ ht k.2)
          · exact k.elim
        · rename_i q; cases q; exact bv_iadd he.1 (ih _ _ _ _ _ _ _ _ ht k)
        · rename_i q; cases q; exact bv_isub he.1 (ih _ _ _ _ _ _ _ _ ht k)
        · rename_i q; cases q; exact bv_imul he.1 (ih _ _ _ _ _ _ _ _ ht k)
        · rename_i q; cases q; exact bv_iand he.1 (ih _ _ _ _ _ _ _ _ ht k)
        · rename_i q; cases q; exact bv_ior he.1 (ih _ _ _ _ _ _ _ _ ht k)
        · rename_i q; cases q; exact bv_ixor he.1 (ih _ _ _ _ _ _ _ _ ht k)
        · rename_i q; cases q; exact bv_ishl he.1 (ih _ _ _ _ _ _ _ _ ht k)
        · rename_i q; cases q; exact bv_ishr he.1 (ih _ _ _ _ _ _ _ _ ht k)
        · rename_i q; cases q; exact bv_iushr he.1 (ih _ _ _ _ _ _ _ _ ht k)
        · rename_i q; cases q; exact bv_idiv he.1 k.1 (ih _ _ _ _ _ _ _ _ ht k.2)
        · rename_i q; cases q; exact bv_irem he.1 k.1 (ih _ _ _ _ _ _ _ _ ht k.2)
        · rename_i q; cases q; exact bv_ineg he.1 (ih _ _ _ _ _ _ _ _ ht k)
        · rename_i q; cases q; exact bv_i2l he.1 (ih _ _ _ _ _ _ _ _ ht k)
        · rename_i q; cases q; exact bv_i2b he.1 (ih _ _ _ _ _ _ _ _ ht k)
        · rename_i q; cases q; exact bv_dup he.1 rfl (ih _ _ _ _ _ _ _ _ ht k)
        · rename_i q; cases q; exact bv_dup he.1 rfl (ih _ _ _ _ _ _ _ _ ht k)
        · rename_i q; cases q; exact bv_pop he.1 rfl (ih _ _ _ _ _ _ _ _ ht k)
        · rename_i q; cases q; exact bv_pop he.1 rfl (ih _ _ _ _ _ _ _ _ ht k)
        · rename_i q; cases q; exact bv_dup2 he.1 rfl rfl (ih _ _ _ _ _ _ _ _ ht k)
        · rename_i q; cases q; exact bv_goto he.1 he.2 (ih _ _ _ _ _ _ _ _ (ab_sq_b hok _ _) k)
        · rename_i q; cases q; exact bv_if_eq he.1 he.2 ⟨fun q => ih _ _ _ _ _ _ _ _ (ab_sq_b hok _ _) (k.1 q), fun q => ih _ _ _ _ _ _ _ _ ht (k.2 q)⟩
        · rename_i q; cases q; exact bv_icmp_eq he.1 he.2 ⟨fun q => ih _ _ _ _ _ _ _ _ (ab_sq_b hok _ _) (k.1 q), fun q => ih _ _ _ _ _ _ _ _ ht (k.2 q)⟩
        · rename_i q; cases q; exact bv_if_ne he.1 he.2 ⟨fun q => ih _ _ _ _ _ _ _ _ (ab_sq_b hok _ _) (k.1 q), fun q => ih _ _ _ _ _ _ _ _ ht (k.2 q)⟩
        · rename_i q; cases q; exact bv_icmp_ne he.1 he.2 ⟨fun q => ih _ _ _ _ _ _ _ _ (ab_sq_b hok _ _) (k.1 q), fun q => ih _ _ _ _ _ _ _ _ ht (k.2 q)⟩
        · rename_i q; cases q; exact bv_if_lt he.1 he.2 ⟨fun q => ih _ _ _ _ _ _ _ _ (ab_sq_b hok _ _) (k.1 q), fun q => ih _ _ _ _ _ _ _ _ ht (k.2 q)⟩
        · rename_i q; cases q; exact bv_icmp_lt he.1 he.2 ⟨fun q => ih _ _ _ _ _ _ _ _ (ab_sq_b hok _ _) (k.1 q), fun q => ih _ _ _ _ _ _ _ _ ht (k.2 q)⟩
        · rename_i q; cases q; exact bv_if_ge he.1 he.2 ⟨fun q => ih _ _ _ _ _ _ _ _ (ab_sq_b hok _ _) (k.1 q), fun q => ih _ _ _ _ _ _ _ _ ht (k.2 q)⟩
        · rename_i q; cases q; exact bv_icmp_ge he.1 he.2 ⟨fun q => ih _ _ _ _ _ _ _ _ (ab_sq_b hok _ _) (k.1 q), fun q => ih _ _ _ _ _ _ _ _ ht (k.2 q)⟩
        · rename_i q; cases q; exact bv_if_gt he.1 he.2 ⟨fun q => ih _ _ _ _ _ _ _ _ (ab_sq_b hok _ _) (k.1 q), fun q => ih _ _ _ _ _ _ _ _ ht (k.2 q)⟩
        · rename_i q; cases q; exact bv_icmp_gt he.1 he.2 ⟨fun q => ih _ _ _ _ _ _ _ _ (ab_sq_b hok _ _) (k.1 q), fun q => ih _ _ _ _ _ _ _ _ ht (k.2 q)⟩
        · rename_i q; cases q; exact bv_if_le he.1 he.2 ⟨fun q => ih _ _ _ _ _ _ _ _ (ab_sq_b hok _ _) (k.1 q), fun q => ih _ _ _ _ _ _ _ _ ht (k.2 q)⟩
        · rename_i q; cases q; exact bv_icmp_le he.1 he.2 ⟨fun q => ih _ _ _ _ _ _ _ _ (ab_sq_b hok _ _) (k.1 q), fun q => ih _ _ _ _ _ _ _ _ ht (k.2 q)⟩
        · rename_i q
          cases q
          split at k
          · rename_i ha
            split at k
            · rename_i hv
              split at k
              · rename_i hc
                have hc := Nat.eq_of_beq_eq_true hc
                subst hc
                exact ab_lt50 ha fun h50 => bv_get he.1 (he.2 h50) ha hv (ih _ _ _ _ _ _ _ _ ht k)
              · exact k
            · exact k.elim
          · exact k
        · rename_i q
          cases q
          split at k
          · rename_i ha
            split at k
            · rename_i hc
              have hc := Nat.eq_of_beq_eq_true hc
              subst hc
              exact ab_lt50 ha fun h50 => bv_put he.1 (he.2 h50) ha k.1 (fun G => ⟨rfl, rfl⟩) (ih _ _ _ _ _ _ _ _ ht k.2)
            · exact k
          · exact k.elim
        · rename_i q
          cases q
          split at k
          · rename_i ha; exact bv_iald he.1 ha k.1 (ih _ _ _ _ _ _ _ _ ht k.2)
          · exact k
        · rename_i q
          cases q
          split at k
          · rename_i ha; exact bv_iast he.1 ha k.1 (ih _ _ _ _ _ _ _ _ ht k.2)
          · exact k.elim
        · rename_i q
          cases q
          split at k
          · rename_i ha; exact bv_bald he.1 ha k.1 (ih _ _ _ _ _ _ _ _ ht k.2)
          · rename_i ha; exact bv_zald he.1 ha k.1 (ih _ _ _ _ _ _ _ _ ht k.2)
          · exact k.elim
        · rename_i q
          cases q
          split at k
          · rename_i hr; exact bv_iret he.1 hr k.1 k.2.1 k.2.2
          · rename_i hr; exact bv_zret he.1 hr k.1 k.2.1 k.2.2.1 k.2.2.2
          · exact k.elim
        · rename_i q
          cases q
          split at k
          · rename_i hr; exact bv_vret he.1 hr k.1 k.2.1 k.2.2
          · exact k.elim
        · exact k
      · dsimp only at hnop
        subst hnop
        exact k
end BG
