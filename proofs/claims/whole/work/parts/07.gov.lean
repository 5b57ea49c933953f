section BG
variable {M : ab_M} {post : ab_P} {I : List (Nat × Instr × Nat)} {F : Nat → Option (Nat × Nat)} {P : Nat → Option (Nat × Nat × FieldType)} {cut : List Nat}
set_option maxHeartbeats 4000000 in
theorem ab_go_v (hok : ab_ok M I F P) : ∀ (n cu su pc : Nat) (ls : List (Option Value)) (st : List Value) (nx : Nat) (h : ab_H), ab_go M post I F P cut n cu su pc ls st nx h → ab_V M post cu su pc ls st nx h := by
  intro n
  induction n with
  | zero => intro cu su pc ls st nx h k; exact k
  | succ n ih =>
    intro cu su pc ls st nx h k
    unfold ab_go at k
    split at k
    · rename_i he; exact bv_iconst (hok.1 _ _ _ he) (ab_nx_v ih k)
    · rename_i he; exact bv_bipush (hok.1 _ _ _ he) (ab_nx_v ih k)
    · rename_i he; exact bv_sipush (hok.1 _ _ _ he) (ab_nx_v ih k)
    · rename_i he
      split at k
      · rename_i hx; exact bv_iload_n (hok.1 _ _ _ he) hx (ab_nx_v ih k)
      · exact k
    · rename_i he
      split at k
      · rename_i hx; exact bv_iload (hok.1 _ _ _ he) hx (ab_nx_v ih k)
      · exact k
    · rename_i he
      split at k
      · rename_i hx; exact bv_aload_n (hok.1 _ _ _ he) hx (ab_nx_v ih k)
      · exact k
    · rename_i he
      split at k
      · rename_i hx; exact bv_aload (hok.1 _ _ _ he) hx (ab_nx_v ih k)
      · exact k
    · rename_i he; exact bv_istore_n (hok.1 _ _ _ he) k.1 (ab_nx_v ih k.2)
    · rename_i he; exact bv_istore (hok.1 _ _ _ he) k.1 (ab_nx_v ih k.2)
    · rename_i he; exact bv_astore_n (hok.1 _ _ _ he) k.1 (ab_nx_v ih k.2)
    · rename_i he; exact bv_astore (hok.1 _ _ _ he) k.1 (ab_nx_v ih k.2)
    · rename_i he
      split at k
      · rename_i hx; exact bv_iinc (hok.1 _ _ _ he) k.1 hx (ab_nx_v ih k.2)
      · exact k
    · rename_i he; exact bv_iadd (hok.1 _ _ _ he) (ab_nx_v ih k)
    · rename_i he; exact bv_isub (hok.1 _ _ _ he) (ab_nx_v ih k)
    · rename_i he; exact bv_imul (hok.1 _ _ _ he) (ab_nx_v ih k)
    · rename_i he; exact bv_iand (hok.1 _ _ _ he) (ab_nx_v ih k)
    · rename_i he; exact bv_ior (hok.1 _ _ _ he) (ab_nx_v ih k)
    · rename_i he; exact bv_ixor (hok.1 _ _ _ he) (ab_nx_v ih k)
    · rename_i he; exact bv_ishl (hok.1 _ _ _ he) (ab_nx_v ih k)
    · rename_i he; exact bv_ishr (hok.1 _ _ _ he) (ab_nx_v ih k)
    · rename_i he; exact bv_iushr (hok.1 _ _ _ he) (ab_nx_v ih k)
    · rename_i he; exact bv_idiv (hok.1 _ _ _ he) k.1 (ab_nx_v ih k.2)
    · rename_i he; exact bv_irem (hok.1 _ _ _ he) k.1 (ab_nx_v ih k.2)
    · rename_i he; exact bv_ineg (hok.1 _ _ _ he) (ab_nx_v ih k)
    · rename_i he; exact bv_i2l (hok.1 _ _ _ he) (ab_nx_v ih k)
    · rename_i he; exact bv_i2b (hok.1 _ _ _ he) (ab_nx_v ih k)
    · rename_i he; exact bv_dup (hok.1 _ _ _ he) rfl (ab_nx_v ih k)
    · rename_i he; exact bv_dup (hok.1 _ _ _ he) rfl (ab_nx_v ih k)
    · rename_i he; exact bv_pop (hok.1 _ _ _ he) rfl (ab_nx_v ih k)
    · rename_i he; exact bv_pop (hok.1 _ _ _ he) rfl (ab_nx_v ih k)
    · rename_i he; exact bv_dup2 (hok.1 _ _ _ he) rfl rfl (ab_nx_v ih k)
    · rename_i he; exact bv_goto (hok.1 _ _ _ he) (ab_tg_ok k.1) (ab_nx_v ih k.2)
    · rename_i he; exact bv_if_eq (hok.1 _ _ _ he) (ab_tg_ok k.1) ⟨fun q => ab_nx_v ih (k.2.1 q), fun q => ab_nx_v ih (k.2.2 q)⟩
    · rename_i he; exact bv_icmp_eq (hok.1 _ _ _ he) (ab_tg_ok k.1) ⟨fun q => ab_nx_v ih (k.2.1 q), fun q => ab_nx_v ih (k.2.2 q)⟩
    · rename_i he; exact bv_if_ne (hok.1 _ _ _ he) (ab_tg_ok k.1) ⟨fun q => ab_nx_v ih (k.2.1 q), fun q => ab_nx_v ih (k.2.2 q)⟩
    · rename_i he; exact bv_icmp_ne (hok.1 _ _ _ he) (ab_tg_ok k.1) ⟨fun q => ab_nx_v ih (k.2.1 q), fun q => ab_nx_v ih (k.2.2 q)⟩
    · rename_i he; exact bv_if_lt (hok.1 _ _ _ he) (ab_tg_ok k.1) ⟨fun q => ab_nx_v ih (k.2.1 q), fun q => ab_nx_v ih (k.2.2 q)⟩
    · rename_i he; exact bv_icmp_lt (hok.1 _ _ _ he) (ab_tg_ok k.1) ⟨fun q => ab_nx_v ih (k.2.1 q), fun q => ab_nx_v ih (k.2.2 q)⟩
    · rename_i he; exact bv_if_ge (hok.1 _ _ _ he) (ab_tg_ok k.1) ⟨fun q => ab_nx_v ih (k.2.1 q), fun q => ab_nx_v ih (k.2.2 q)⟩
    · rename_i he; exact bv_icmp_ge (hok.1 _ _ _ he) (ab_tg_ok k.1) ⟨fun q => ab_nx_v ih (k.2.1 q), fun q => ab_nx_v ih (k.2.2 q)⟩
    · rename_i he; exact bv_if_gt (hok.1 _ _ _ he) (ab_tg_ok k.1) ⟨fun q => ab_nx_v ih (k.2.1 q), fun q => ab_nx_v ih (k.2.2 q)⟩
    · rename_i he; exact bv_icmp_gt (hok.1 _ _ _ he) (ab_tg_ok k.1) ⟨fun q => ab_nx_v ih (k.2.1 q), fun q => ab_nx_v ih (k.2.2 q)⟩
    · rename_i he; exact bv_if_le (hok.1 _ _ _ he) (ab_tg_ok k.1) ⟨fun q => ab_nx_v ih (k.2.1 q), fun q => ab_nx_v ih (k.2.2 q)⟩
    · rename_i he; exact bv_icmp_le (hok.1 _ _ _ he) (ab_tg_ok k.1) ⟨fun q => ab_nx_v ih (k.2.1 q), fun q => ab_nx_v ih (k.2.2 q)⟩
    · rename_i he
      split at k
      · rename_i hF ha
        split at k
        · rename_i hv
          obtain ⟨rfl, k⟩ := k
          exact bv_get (hok.1 _ _ _ he) (hok.2.1 _ _ _ hF) ha hv (ab_nx_v ih k)
        · exact k
      · exact k
    · rename_i he
      split at k
      · rename_i hF ha
        obtain ⟨rfl, k1, k⟩ := k
        exact bv_put (hok.1 _ _ _ he) (hok.2.2 _ _ _ _ hF) ha k1 (fun G => ⟨rfl, rfl⟩) (ab_nx_v ih k)
      · exact k
    · rename_i he
      split at k
      · rename_i ha; exact bv_iald (hok.1 _ _ _ he) ha k.1 (ab_nx_v ih k.2)
      · exact k
    · rename_i he
      split at k
      · rename_i ha; exact bv_iast (hok.1 _ _ _ he) ha k.1 (ab_nx_v ih k.2)
      · exact k
    · rename_i he
      split at k
      · rename_i ha; exact bv_bald (hok.1 _ _ _ he) ha k.1 (ab_nx_v ih k.2)
      · rename_i ha; exact bv_zald (hok.1 _ _ _ he) ha k.1 (ab_nx_v ih k.2)
      · exact k
    · rename_i he
      split at k
      · rename_i hr; exact bv_iret (hok.1 _ _ _ he) hr k.1 k.2.1 k.2.2
      · rename_i hr; exact bv_zret (hok.1 _ _ _ he) hr k.1 k.2.1 k.2.2.1 k.2.2.2
      · exact k
    · rename_i he
      split at k
      · rename_i hr; exact bv_vret (hok.1 _ _ _ he) hr k.1 k.2.1 k.2.2
      · exact k
    · exact k
end BG
