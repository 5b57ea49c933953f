/-! ===== Fort ===== -/
abbrev fo_F : Type := (Nat → Int32) × (Nat → Nat → Int32)
def fo_fs (f : Nat) (F : fo_F) : List Value := [.int (F.1 0), .int (F.1 1), .int (F.1 2), .int (F.1 3), .int (F.1 4), .int (F.1 5), .int (F.1 6), .int (F.1 7), .ref (f + 1), .ref (f + 2), .ref (f + 3), .ref (f + 4), .ref (f + 5), .ref (f + 6), .ref (f + 7), .int (F.1 15), .int (F.1 16)]
def fo_at (h : ab_H) (f : Nat) (F : fo_F) : Prop := h f = some (.inl (1, fo_fs f F)) ∧ h (f + 1) = some (.inr (0, 6, .inl (F.2 8))) ∧ h (f + 2) = some (.inr (0, 6, .inl (F.2 9))) ∧ h (f + 3) = some (.inr (0, 6, .inl (F.2 10))) ∧ h (f + 4) = some (.inr (0, 6, .inl (F.2 11))) ∧ h (f + 5) = some (.inr (0, 6, .inl (F.2 12))) ∧ h (f + 6) = some (.inr (0, 36, .inl (F.2 13))) ∧ h (f + 7) = some (.inr (0, 240, .inl (F.2 14)))
/-- an answer that leaves all as it was -/
def ab_an (v : Value) (nx : Nat) (h : ab_H) : ab_P := fun r nx' h' => r = .inl (some v) ∧ nx' = nx ∧ h' = h
theorem t_isOut {h : ab_H} {f nx : Nat} {F : fo_F} {p : Int32} (hF : fo_at h f F) : ab_Con mX1_isOut [.ref f, .int p] nx h (ab_an (.int (if F.1 6 >>> (p &&& 31) &&& 1 = 1 then 1 else 0)) nx h) := by
  refine ab_Con.of rfl rfl (Nat.le_of_ble_eq_true rfl) ?_
  refine ab_g_v okX1_isOut (cut := []) 20 _ _ _ _ _ _ _ _ (ab_sq_b okX1_isOut [] 0) ?_
  obtain ⟨h0, h1, h2, h3, h4, h5, h6, h7⟩ := hF
  simp only [ab_b, iX1_isOut, ab_dr, ab_tk, Nat.beq, List.contains, List.elem, ge_aload_n, ge_getfield, ge_iload_n, ge_ishr, ge_iconst, ge_iand, ge_if_icmp_ne, ge_goto, ge_ireturn, h0, fo_fs, ab_l0, ab_tg]
  trace_state
  sorry
