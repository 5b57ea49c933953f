/-! ===== links, by their places in the tables ===== -/
theorem ab_mem {w : Cond} (i : Nat) (h : tables_1[i]? = some w) (hg : goodWord w = true) : w ∈ ab_T := List.mem_filter.mpr ⟨List.mem_append_right _ (List.mem_of_getElem? h), hg⟩
theorem ab_memN {w : Cond} (i : Nat) (h : tables_1[i]? = some w) (hg : ab_nw w = true) : w ∈ ab_N := List.mem_filter.mpr ⟨List.mem_append_right _ (List.mem_of_getElem? h), hg⟩
theorem ab_memS (i : Nat) {q : MethodName × Nat} (h : lw_privs[i]? = some q) : Cond.selects q.1.cls q.1 q.1 ∈ ab_T := List.mem_filter.mpr ⟨List.mem_append_left _ (List.mem_map.mpr ⟨q, List.mem_of_getElem? h, rfl⟩), rfl⟩
theorem ab_lkm {α : Type} {l : List (Nat × α)} {a : Nat} {b : α} (h : l.lookup a = some b) : (a, b) ∈ l := by
  induction l with
  | nil => cases h
  | cons x t ih =>
    obtain ⟨x1, x2⟩ := x
    rw [List.lookup_cons] at h
    split at h
    · rename_i q
      cases h
      rw [beq_iff_eq] at q
      subst q
      exact List.mem_cons_self
    · exact List.mem_cons_of_mem _ (ih h)
def ab_ckd (cc : ByteArray) (F : List (Nat × Nat × Nat)) (P : List (Nat × Nat × Nat × FieldType)) : Nat → List ab_E → Bool
  | _, [] => true
  | p, e :: t => Nat.beq e.1 p && decide (decode cc e.1 = .ok (e.2.1, e.2.2.1)) && (match e.2.1 with
    | .getfield i => Nat.ble 50 e.2.2.2.1 || decide ((i, e.2.2.2.1, e.2.2.2.2) ∈ F)
    | .putfield i => Nat.ble 50 e.2.2.2.1 || decide ((i, e.2.2.2.1, e.2.2.2.2, FieldType.int) ∈ P)
    | .goto off => decide ((e.1 : Int) + off = (e.2.2.2.2 : Int))
    | .ifCond _ off => decide ((e.1 : Int) + off = (e.2.2.2.2 : Int))
    | .if_icmp _ off => decide ((e.1 : Int) + off = (e.2.2.2.2 : Int))
    | _ => true) && ab_ckd cc F P (p + e.2.2.1) t
theorem ab_cd_of {M : ab_M} {F : List (Nat × Nat × Nat)} {P : List (Nat × Nat × Nat × FieldType)} (h2 : ∀ e ∈ F, ab_lf M.1.cls e.1 e.2.1 e.2.2) (h3 : ∀ e ∈ P, ab_lp M.1.cls e.1 e.2.1 e.2.2.1 e.2.2.2) : ∀ (J : List ab_E) (p : Nat), ab_ckd M.2.1 F P p J = true → ab_cd M p J
  | [], _, _ => trivial
  | e :: t, p, h => by
    obtain ⟨pc, ins, len, ci, fd⟩ := e
    unfold ab_ckd at h
    simp only [Bool.and_eq_true, decide_eq_true_eq] at h
    obtain ⟨⟨⟨a1, a2⟩, a3⟩, a4⟩ := h
    refine ⟨Nat.eq_of_beq_eq_true a1, ⟨a2, ?_⟩, ab_cd_of h2 h3 t _ a4⟩
    cases ins <;> first | trivial | exact of_decide_eq_true a3 | skip
    · intro h50
      simp only [Bool.or_eq_true, decide_eq_true_eq] at a3
      rcases a3 with a3 | a3
      · have := Nat.le_of_ble_eq_true a3
        exact absurd h50 (by dsimp only at this ⊢; omega)
      · exact h2 _ a3
    · intro h50
      simp only [Bool.or_eq_true, decide_eq_true_eq] at a3
      rcases a3 with a3 | a3
      · have := Nat.le_of_ble_eq_true a3
        exact absurd h50 (by dsimp only at this ⊢; omega)
      · exact h3 _ a3
theorem lfX11_9 : ab_lf RX11 9 9 0 := ⟨RX11, TX11, 19, rfl, by decide, Or.inl (ab_mem 319 (by decide +kernel) rfl)⟩
theorem lfX11_13 : ab_lf RX11 13 9 2 := ⟨RX11, TX11, 19, rfl, by decide, Or.inl (ab_mem 321 (by decide +kernel) rfl)⟩
theorem lpX11_13 : ab_lp RX11 13 9 2 .int := ⟨lfX11_13, RX11, TX11, 19, rfl, rfl, by decide +kernel⟩
theorem lfX11_20 : ab_lf RX11 20 9 3 := ⟨RX11, TX11, 19, rfl, by decide, Or.inl (ab_mem 322 (by decide +kernel) rfl)⟩
theorem lfX11_27 : ab_lf RX11 27 9 4 := ⟨RX11, TX11, 19, rfl, by decide, Or.inl (ab_mem 323 (by decide +kernel) rfl)⟩
theorem lfX11_34 : ab_lf RX11 34 9 5 := ⟨RX11, TX11, 19, rfl, by decide, Or.inl (ab_mem 324 (by decide +kernel) rfl)⟩
theorem lfX11_41 : ab_lf RX11 41 9 6 := ⟨RX11, TX11, 19, rfl, by decide, Or.inl (ab_mem 325 (by decide +kernel) rfl)⟩
theorem lfX11_45 : ab_lf RX11 45 9 7 := ⟨RX11, TX11, 19, rfl, by decide, Or.inl (ab_mem 326 (by decide +kernel) rfl)⟩
theorem lfX11_51 : ab_lf RX11 51 9 8 := ⟨RX11, TX11, 19, rfl, by decide, Or.inl (ab_mem 327 (by decide +kernel) rfl)⟩
theorem lfX11_55 : ab_lf RX11 55 9 9 := ⟨RX11, TX11, 19, rfl, by decide, Or.inl (ab_mem 328 (by decide +kernel) rfl)⟩
theorem lfX11_58 : ab_lf RX11 58 9 10 := ⟨RX11, TX11, 19, rfl, by decide, Or.inl (ab_mem 329 (by decide +kernel) rfl)⟩
theorem lfX11_61 : ab_lf RX11 61 9 12 := ⟨RX11, TX11, 19, rfl, by decide, Or.inl (ab_mem 331 (by decide +kernel) rfl)⟩
theorem lfX11_68 : ab_lf RX11 68 9 15 := ⟨RX11, TX11, 19, rfl, by decide, Or.inl (ab_mem 334 (by decide +kernel) rfl)⟩
theorem lfX11_75 : ab_lf RX11 75 9 16 := ⟨RX11, TX11, 19, rfl, by decide, Or.inl (ab_mem 335 (by decide +kernel) rfl)⟩
theorem lfX11_82 : ab_lf RX11 82 9 17 := ⟨RX11, TX11, 19, rfl, by decide, Or.inl (ab_mem 336 (by decide +kernel) rfl)⟩
theorem lfX11_89 : ab_lf RX11 89 9 18 := ⟨RX11, TX11, 19, rfl, by decide, Or.inl (ab_mem 337 (by decide +kernel) rfl)⟩
theorem lfX11_93 : ab_lf RX11 93 9 1 := ⟨RX11, TX11, 19, rfl, by decide, Or.inl (ab_mem 320 (by decide +kernel) rfl)⟩
theorem lpX11_93 : ab_lp RX11 93 9 1 .int := ⟨lfX11_93, RX11, TX11, 19, rfl, rfl, by decide +kernel⟩
theorem lfX11_108 : ab_lf RX11 108 2 0 := ⟨RX2, TX2, 1, rfl, by decide, Or.inr ⟨"DreamFort", ab_memN 173 (by decide +kernel) rfl⟩⟩
theorem lfX11_129 : ab_lf RX11 129 1 2 := ⟨RX1, TX1, 17, rfl, by decide, Or.inr ⟨"DreamFort", ab_memN 92 (by decide +kernel) rfl⟩⟩
theorem lpX11_129 : ab_lp RX11 129 1 2 .int := ⟨lfX11_129, RX1, TX1, 17, rfl, rfl, by decide +kernel⟩
theorem lfX11_140 : ab_lf RX11 140 4 0 := ⟨RX5, TX5, 1, rfl, by decide, Or.inr ⟨"DreamFort", ab_memN 217 (by decide +kernel) rfl⟩⟩
theorem lfX11_151 : ab_lf RX11 151 3 0 := ⟨RX4, TX4, 8, rfl, by decide, Or.inr ⟨"DreamFort", ab_memN 190 (by decide +kernel) rfl⟩⟩
theorem lpX11_151 : ab_lp RX11 151 3 0 .int := ⟨lfX11_151, RX4, TX4, 8, rfl, rfl, by decide +kernel⟩
theorem lfX11_157 : ab_lf RX11 157 1 8 := ⟨RX1, TX1, 17, rfl, by decide, Or.inr ⟨"DreamFort", ab_memN 114 (by decide +kernel) rfl⟩⟩
theorem lfX11_160 : ab_lf RX11 160 1 9 := ⟨RX1, TX1, 17, rfl, by decide, Or.inr ⟨"DreamFort", ab_memN 119 (by decide +kernel) rfl⟩⟩
theorem lfX11_194 : ab_lf RX11 194 1 10 := ⟨RX1, TX1, 17, rfl, by decide, Or.inr ⟨"DreamFort", ab_memN 123 (by decide +kernel) rfl⟩⟩
theorem lfX11_197 : ab_lf RX11 197 1 11 := ⟨RX1, TX1, 17, rfl, by decide, Or.inr ⟨"DreamFort", ab_memN 127 (by decide +kernel) rfl⟩⟩
theorem lfX11_203 : ab_lf RX11 203 1 12 := ⟨RX1, TX1, 17, rfl, by decide, Or.inr ⟨"DreamFort", ab_memN 130 (by decide +kernel) rfl⟩⟩
theorem lfX11_214 : ab_lf RX11 214 5 1 := ⟨RX7, TX7, 6, rfl, by decide, Or.inr ⟨"DreamFort", ab_memN 235 (by decide +kernel) rfl⟩⟩
theorem lfX11_233 : ab_lf RX11 233 1 0 := ⟨RX1, TX1, 17, rfl, by decide, Or.inr ⟨"DreamFort", ab_memN 83 (by decide +kernel) rfl⟩⟩
theorem lpX11_233 : ab_lp RX11 233 1 0 .int := ⟨lfX11_233, RX1, TX1, 17, rfl, rfl, by decide +kernel⟩
theorem lfX11_241 : ab_lf RX11 241 1 1 := ⟨RX1, TX1, 17, rfl, by decide, Or.inr ⟨"DreamFort", ab_memN 90 (by decide +kernel) rfl⟩⟩
theorem lpX11_241 : ab_lp RX11 241 1 1 .int := ⟨lfX11_241, RX1, TX1, 17, rfl, rfl, by decide +kernel⟩
theorem lfX11_259 : ab_lf RX11 259 1 6 := ⟨RX1, TX1, 17, rfl, by decide, Or.inr ⟨"DreamFort", ab_memN 105 (by decide +kernel) rfl⟩⟩
theorem lpX11_259 : ab_lp RX11 259 1 6 .int := ⟨lfX11_259, RX1, TX1, 17, rfl, rfl, by decide +kernel⟩
theorem lfX11_288 : ab_lf RX11 288 1 7 := ⟨RX1, TX1, 17, rfl, by decide, Or.inr ⟨"DreamFort", ab_memN 109 (by decide +kernel) rfl⟩⟩
theorem lpX11_288 : ab_lp RX11 288 1 7 .int := ⟨lfX11_288, RX1, TX1, 17, rfl, rfl, by decide +kernel⟩
theorem lfX11_293 : ab_lf RX11 293 1 3 := ⟨RX1, TX1, 17, rfl, by decide, Or.inr ⟨"DreamFort", ab_memN 96 (by decide +kernel) rfl⟩⟩
theorem lpX11_293 : ab_lp RX11 293 1 3 .int := ⟨lfX11_293, RX1, TX1, 17, rfl, rfl, by decide +kernel⟩
theorem lfX11_328 : ab_lf RX11 328 6 1 := ⟨RX8, TX8, 5, rfl, by decide, Or.inr ⟨"DreamFort", ab_memN 263 (by decide +kernel) rfl⟩⟩
theorem lpX11_328 : ab_lp RX11 328 6 1 .int := ⟨lfX11_328, RX8, TX8, 5, rfl, rfl, by decide +kernel⟩
theorem lfX11_331 : ab_lf RX11 331 6 2 := ⟨RX8, TX8, 5, rfl, by decide, Or.inr ⟨"DreamFort", ab_memN 265 (by decide +kernel) rfl⟩⟩
theorem lfX11_339 : ab_lf RX11 339 6 4 := ⟨RX8, TX8, 5, rfl, by decide, Or.inr ⟨"DreamFort", ab_memN 268 (by decide +kernel) rfl⟩⟩
theorem lfX11_368 : ab_lf RX11 368 7 1 := ⟨RX9, TX9, 3, rfl, by decide, Or.inr ⟨"DreamFort", ab_memN 310 (by decide +kernel) rfl⟩⟩
theorem lpX11_368 : ab_lp RX11 368 7 1 .int := ⟨lfX11_368, RX9, TX9, 3, rfl, rfl, by decide +kernel⟩
theorem lfX11_371 : ab_lf RX11 371 7 0 := ⟨RX9, TX9, 3, rfl, by decide, Or.inr ⟨"DreamFort", ab_memN 308 (by decide +kernel) rfl⟩⟩
theorem lpX11_371 : ab_lp RX11 371 7 0 .int := ⟨lfX11_371, RX9, TX9, 3, rfl, rfl, by decide +kernel⟩
theorem lfX11_390 : ab_lf RX11 390 0 0 := ⟨RX0, TX0, 4, rfl, by decide, Or.inr ⟨"DreamFort", ab_memN 287 (by decide +kernel) rfl⟩⟩
theorem lpX11_390 : ab_lp RX11 390 0 0 .int := ⟨lfX11_390, RX0, TX0, 4, rfl, rfl, by decide +kernel⟩
theorem lfX11_393 : ab_lf RX11 393 0 1 := ⟨RX0, TX0, 4, rfl, by decide, Or.inr ⟨"DreamFort", ab_memN 289 (by decide +kernel) rfl⟩⟩
theorem lfX11_398 : ab_lf RX11 398 5 2 := ⟨RX7, TX7, 6, rfl, by decide, Or.inr ⟨"DreamFort", ab_memN 237 (by decide +kernel) rfl⟩⟩
theorem lfX11_412 : ab_lf RX11 412 1 5 := ⟨RX1, TX1, 17, rfl, by decide, Or.inr ⟨"DreamFort", ab_memN 102 (by decide +kernel) rfl⟩⟩
theorem lpX11_412 : ab_lp RX11 412 1 5 .int := ⟨lfX11_412, RX1, TX1, 17, rfl, rfl, by decide +kernel⟩
theorem lfX11_419 : ab_lf RX11 419 5 5 := ⟨RX7, TX7, 6, rfl, by decide, Or.inr ⟨"DreamFort", ab_memN 241 (by decide +kernel) rfl⟩⟩
theorem lpX11_419 : ab_lp RX11 419 5 5 .int := ⟨lfX11_419, RX7, TX7, 6, rfl, rfl, by decide +kernel⟩
theorem lfX11_425 : ab_lf RX11 425 1 16 := ⟨RX1, TX1, 17, rfl, by decide, Or.inr ⟨"DreamFort", ab_memN 136 (by decide +kernel) rfl⟩⟩
theorem lpX11_425 : ab_lp RX11 425 1 16 .int := ⟨lfX11_425, RX1, TX1, 17, rfl, rfl, by decide +kernel⟩
theorem lfX11_433 : ab_lf RX11 433 9 14 := ⟨RX11, TX11, 19, rfl, by decide, Or.inl (ab_mem 333 (by decide +kernel) rfl)⟩
theorem lpX11_433 : ab_lp RX11 433 9 14 .int := ⟨lfX11_433, RX11, TX11, 19, rfl, rfl, by decide +kernel⟩
theorem lfX11_436 : ab_lf RX11 436 9 13 := ⟨RX11, TX11, 19, rfl, by decide, Or.inl (ab_mem 332 (by decide +kernel) rfl)⟩
theorem lpX11_436 : ab_lp RX11 436 9 13 .int := ⟨lfX11_436, RX11, TX11, 19, rfl, rfl, by decide +kernel⟩
theorem lfX11_439 : ab_lf RX11 439 9 11 := ⟨RX11, TX11, 19, rfl, by decide, Or.inl (ab_mem 330 (by decide +kernel) rfl)⟩
theorem lpX11_439 : ab_lp RX11 439 9 11 .boolean := ⟨lfX11_439, RX11, TX11, 19, rfl, rfl, by decide +kernel⟩
theorem lfX11_443 : ab_lf RX11 443 1 4 := ⟨RX1, TX1, 17, rfl, by decide, Or.inr ⟨"DreamFort", ab_memN 100 (by decide +kernel) rfl⟩⟩
theorem lpX11_443 : ab_lp RX11 443 1 4 .int := ⟨lfX11_443, RX1, TX1, 17, rfl, rfl, by decide +kernel⟩
def fX11l : List (Nat × Nat × Nat) := [(9, 9, 0), (13, 9, 2), (20, 9, 3), (27, 9, 4), (34, 9, 5), (41, 9, 6), (45, 9, 7), (51, 9, 8), (55, 9, 9), (58, 9, 10), (61, 9, 12), (68, 9, 15), (75, 9, 16), (82, 9, 17), (89, 9, 18), (93, 9, 1), (108, 2, 0), (129, 1, 2), (140, 4, 0), (151, 3, 0), (157, 1, 8), (160, 1, 9), (194, 1, 10), (197, 1, 11), (203, 1, 12), (214, 5, 1), (233, 1, 0), (241, 1, 1), (259, 1, 6), (288, 1, 7), (293, 1, 3), (328, 6, 1), (331, 6, 2), (339, 6, 4), (368, 7, 1), (371, 7, 0), (390, 0, 0), (393, 0, 1), (398, 5, 2), (412, 1, 5), (419, 5, 5), (425, 1, 16), (433, 9, 14), (436, 9, 13), (439, 9, 11), (443, 1, 4)]
theorem fX11_ok : ∀ e ∈ fX11l, ab_lf RX11 e.1 e.2.1 e.2.2 := List.forall_mem_cons.mpr ⟨lfX11_9, List.forall_mem_cons.mpr ⟨lfX11_13, List.forall_mem_cons.mpr ⟨lfX11_20, List.forall_mem_cons.mpr ⟨lfX11_27, List.forall_mem_cons.mpr ⟨lfX11_34, List.forall_mem_cons.mpr ⟨lfX11_41, List.forall_mem_cons.mpr ⟨lfX11_45, List.forall_mem_cons.mpr ⟨lfX11_51, List.forall_mem_cons.mpr ⟨lfX11_55, List.forall_mem_cons.mpr ⟨lfX11_58, List.forall_mem_cons.mpr ⟨lfX11_61, List.forall_mem_cons.mpr ⟨lfX11_68, List.forall_mem_cons.mpr ⟨lfX11_75, List.forall_mem_cons.mpr ⟨lfX11_82, List.forall_mem_cons.mpr ⟨lfX11_89, List.forall_mem_cons.mpr ⟨lfX11_93, List.forall_mem_cons.mpr ⟨lfX11_108, List.forall_mem_cons.mpr ⟨lfX11_129, List.forall_mem_cons.mpr ⟨lfX11_140, List.forall_mem_cons.mpr ⟨lfX11_151, List.forall_mem_cons.mpr ⟨lfX11_157, List.forall_mem_cons.mpr ⟨lfX11_160, List.forall_mem_cons.mpr ⟨lfX11_194, List.forall_mem_cons.mpr ⟨lfX11_197, List.forall_mem_cons.mpr ⟨lfX11_203, List.forall_mem_cons.mpr ⟨lfX11_214, List.forall_mem_cons.mpr ⟨lfX11_233, List.forall_mem_cons.mpr ⟨lfX11_241, List.forall_mem_cons.mpr ⟨lfX11_259, List.forall_mem_cons.mpr ⟨lfX11_288, List.forall_mem_cons.mpr ⟨lfX11_293, List.forall_mem_cons.mpr ⟨lfX11_328, List.forall_mem_cons.mpr ⟨lfX11_331, List.forall_mem_cons.mpr ⟨lfX11_339, List.forall_mem_cons.mpr ⟨lfX11_368, List.forall_mem_cons.mpr ⟨lfX11_371, List.forall_mem_cons.mpr ⟨lfX11_390, List.forall_mem_cons.mpr ⟨lfX11_393, List.forall_mem_cons.mpr ⟨lfX11_398, List.forall_mem_cons.mpr ⟨lfX11_412, List.forall_mem_cons.mpr ⟨lfX11_419, List.forall_mem_cons.mpr ⟨lfX11_425, List.forall_mem_cons.mpr ⟨lfX11_433, List.forall_mem_cons.mpr ⟨lfX11_436, List.forall_mem_cons.mpr ⟨lfX11_439, List.forall_mem_cons.mpr ⟨lfX11_443, fun _ h => absurd h List.not_mem_nil⟩⟩⟩⟩⟩⟩⟩⟩⟩⟩⟩⟩⟩⟩⟩⟩⟩⟩⟩⟩⟩⟩⟩⟩⟩⟩⟩⟩⟩⟩⟩⟩⟩⟩⟩⟩⟩⟩⟩⟩⟩⟩⟩⟩⟩⟩
def pX11l : List (Nat × Nat × Nat × FieldType) := [(13, 9, 2, .int), (93, 9, 1, .int), (129, 1, 2, .int), (151, 3, 0, .int), (233, 1, 0, .int), (241, 1, 1, .int), (259, 1, 6, .int), (288, 1, 7, .int), (293, 1, 3, .int), (328, 6, 1, .int), (368, 7, 1, .int), (371, 7, 0, .int), (390, 0, 0, .int), (412, 1, 5, .int), (419, 5, 5, .int), (425, 1, 16, .int), (433, 9, 14, .int), (436, 9, 13, .int), (439, 9, 11, .boolean), (443, 1, 4, .int)]
theorem pX11_ok : ∀ e ∈ pX11l, ab_lp RX11 e.1 e.2.1 e.2.2.1 e.2.2.2 := List.forall_mem_cons.mpr ⟨lpX11_13, List.forall_mem_cons.mpr ⟨lpX11_93, List.forall_mem_cons.mpr ⟨lpX11_129, List.forall_mem_cons.mpr ⟨lpX11_151, List.forall_mem_cons.mpr ⟨lpX11_233, List.forall_mem_cons.mpr ⟨lpX11_241, List.forall_mem_cons.mpr ⟨lpX11_259, List.forall_mem_cons.mpr ⟨lpX11_288, List.forall_mem_cons.mpr ⟨lpX11_293, List.forall_mem_cons.mpr ⟨lpX11_328, List.forall_mem_cons.mpr ⟨lpX11_368, List.forall_mem_cons.mpr ⟨lpX11_371, List.forall_mem_cons.mpr ⟨lpX11_390, List.forall_mem_cons.mpr ⟨lpX11_412, List.forall_mem_cons.mpr ⟨lpX11_419, List.forall_mem_cons.mpr ⟨lpX11_425, List.forall_mem_cons.mpr ⟨lpX11_433, List.forall_mem_cons.mpr ⟨lpX11_436, List.forall_mem_cons.mpr ⟨lpX11_439, List.forall_mem_cons.mpr ⟨lpX11_443, fun _ h => absurd h List.not_mem_nil⟩⟩⟩⟩⟩⟩⟩⟩⟩⟩⟩⟩⟩⟩⟩⟩⟩⟩⟩⟩
theorem lfX0_9 : ab_lf RX0 9 0 1 := ⟨RX0, TX0, 4, rfl, by decide, Or.inl (ab_mem 288 (by decide +kernel) rfl)⟩
theorem lfX0_15 : ab_lf RX0 15 0 2 := ⟨RX0, TX0, 4, rfl, by decide, Or.inl (ab_mem 290 (by decide +kernel) rfl)⟩
theorem lfX0_18 : ab_lf RX0 18 0 3 := ⟨RX0, TX0, 4, rfl, by decide, Or.inl (ab_mem 291 (by decide +kernel) rfl)⟩
theorem lfX0_21 : ab_lf RX0 21 0 0 := ⟨RX0, TX0, 4, rfl, by decide, Or.inl (ab_mem 286 (by decide +kernel) rfl)⟩
theorem lpX0_21 : ab_lp RX0 21 0 0 .int := ⟨lfX0_21, RX0, TX0, 4, rfl, rfl, by decide +kernel⟩
theorem lfX0_25 : ab_lf RX0 25 1 1 := ⟨RX1, TX1, 17, rfl, by decide, Or.inr ⟨"DreamFort", ab_memN 85 (by decide +kernel) rfl⟩⟩
theorem lpX0_25 : ab_lp RX0 25 1 1 .int := ⟨lfX0_25, RX1, TX1, 17, rfl, rfl, by decide +kernel⟩
def fX0l : List (Nat × Nat × Nat) := [(9, 0, 1), (15, 0, 2), (18, 0, 3), (21, 0, 0), (25, 1, 1)]
theorem fX0_ok : ∀ e ∈ fX0l, ab_lf RX0 e.1 e.2.1 e.2.2 := List.forall_mem_cons.mpr ⟨lfX0_9, List.forall_mem_cons.mpr ⟨lfX0_15, List.forall_mem_cons.mpr ⟨lfX0_18, List.forall_mem_cons.mpr ⟨lfX0_21, List.forall_mem_cons.mpr ⟨lfX0_25, fun _ h => absurd h List.not_mem_nil⟩⟩⟩⟩⟩
def pX0l : List (Nat × Nat × Nat × FieldType) := [(21, 0, 0, .int), (25, 1, 1, .int)]
theorem pX0_ok : ∀ e ∈ pX0l, ab_lp RX0 e.1 e.2.1 e.2.2.1 e.2.2.2 := List.forall_mem_cons.mpr ⟨lpX0_21, List.forall_mem_cons.mpr ⟨lpX0_25, fun _ h => absurd h List.not_mem_nil⟩⟩
theorem lfX1_9 : ab_lf RX1 9 1 3 := ⟨RX1, TX1, 17, rfl, by decide, Or.inl (ab_mem 93 (by decide +kernel) rfl)⟩
theorem lpX1_9 : ab_lp RX1 9 1 3 .int := ⟨lfX1_9, RX1, TX1, 17, rfl, rfl, by decide +kernel⟩
theorem lfX1_15 : ab_lf RX1 15 1 5 := ⟨RX1, TX1, 17, rfl, by decide, Or.inl (ab_mem 101 (by decide +kernel) rfl)⟩
theorem lpX1_15 : ab_lp RX1 15 1 5 .int := ⟨lfX1_15, RX1, TX1, 17, rfl, rfl, by decide +kernel⟩
theorem lfX1_18 : ab_lf RX1 18 1 8 := ⟨RX1, TX1, 17, rfl, by decide, Or.inl (ab_mem 110 (by decide +kernel) rfl)⟩
theorem lfX1_22 : ab_lf RX1 22 1 9 := ⟨RX1, TX1, 17, rfl, by decide, Or.inl (ab_mem 115 (by decide +kernel) rfl)⟩
theorem lfX1_25 : ab_lf RX1 25 1 10 := ⟨RX1, TX1, 17, rfl, by decide, Or.inl (ab_mem 120 (by decide +kernel) rfl)⟩
theorem lfX1_28 : ab_lf RX1 28 1 11 := ⟨RX1, TX1, 17, rfl, by decide, Or.inl (ab_mem 124 (by decide +kernel) rfl)⟩
theorem lfX1_31 : ab_lf RX1 31 1 12 := ⟨RX1, TX1, 17, rfl, by decide, Or.inl (ab_mem 128 (by decide +kernel) rfl)⟩
theorem lfX1_34 : ab_lf RX1 34 1 13 := ⟨RX1, TX1, 17, rfl, by decide, Or.inl (ab_mem 131 (by decide +kernel) rfl)⟩
theorem lfX1_37 : ab_lf RX1 37 1 14 := ⟨RX1, TX1, 17, rfl, by decide, Or.inl (ab_mem 133 (by decide +kernel) rfl)⟩
theorem lfX1_40 : ab_lf RX1 40 1 0 := ⟨RX1, TX1, 17, rfl, by decide, Or.inl (ab_mem 78 (by decide +kernel) rfl)⟩
theorem lpX1_40 : ab_lp RX1 40 1 0 .int := ⟨lfX1_40, RX1, TX1, 17, rfl, rfl, by decide +kernel⟩
theorem lfX1_43 : ab_lf RX1 43 1 1 := ⟨RX1, TX1, 17, rfl, by decide, Or.inl (ab_mem 86 (by decide +kernel) rfl)⟩
theorem lpX1_43 : ab_lp RX1 43 1 1 .int := ⟨lfX1_43, RX1, TX1, 17, rfl, rfl, by decide +kernel⟩
theorem lfX1_46 : ab_lf RX1 46 1 2 := ⟨RX1, TX1, 17, rfl, by decide, Or.inl (ab_mem 91 (by decide +kernel) rfl)⟩
theorem lpX1_46 : ab_lp RX1 46 1 2 .int := ⟨lfX1_46, RX1, TX1, 17, rfl, rfl, by decide +kernel⟩
theorem lfX1_49 : ab_lf RX1 49 1 4 := ⟨RX1, TX1, 17, rfl, by decide, Or.inl (ab_mem 97 (by decide +kernel) rfl)⟩
theorem lpX1_49 : ab_lp RX1 49 1 4 .int := ⟨lfX1_49, RX1, TX1, 17, rfl, rfl, by decide +kernel⟩
theorem lfX1_52 : ab_lf RX1 52 1 6 := ⟨RX1, TX1, 17, rfl, by decide, Or.inl (ab_mem 103 (by decide +kernel) rfl)⟩
theorem lpX1_52 : ab_lp RX1 52 1 6 .int := ⟨lfX1_52, RX1, TX1, 17, rfl, rfl, by decide +kernel⟩
theorem lfX1_55 : ab_lf RX1 55 1 7 := ⟨RX1, TX1, 17, rfl, by decide, Or.inl (ab_mem 106 (by decide +kernel) rfl)⟩
theorem lpX1_55 : ab_lp RX1 55 1 7 .int := ⟨lfX1_55, RX1, TX1, 17, rfl, rfl, by decide +kernel⟩
theorem lfX1_64 : ab_lf RX1 64 1 15 := ⟨RX1, TX1, 17, rfl, by decide, Or.inl (ab_mem 134 (by decide +kernel) rfl)⟩
theorem lpX1_64 : ab_lp RX1 64 1 15 .int := ⟨lfX1_64, RX1, TX1, 17, rfl, rfl, by decide +kernel⟩
theorem lfX1_67 : ab_lf RX1 67 1 16 := ⟨RX1, TX1, 17, rfl, by decide, Or.inl (ab_mem 135 (by decide +kernel) rfl)⟩
theorem lpX1_67 : ab_lp RX1 67 1 16 .int := ⟨lfX1_67, RX1, TX1, 17, rfl, rfl, by decide +kernel⟩
def fX1l : List (Nat × Nat × Nat) := [(9, 1, 3), (15, 1, 5), (18, 1, 8), (22, 1, 9), (25, 1, 10), (28, 1, 11), (31, 1, 12), (34, 1, 13), (37, 1, 14), (40, 1, 0), (43, 1, 1), (46, 1, 2), (49, 1, 4), (52, 1, 6), (55, 1, 7), (64, 1, 15), (67, 1, 16)]
theorem fX1_ok : ∀ e ∈ fX1l, ab_lf RX1 e.1 e.2.1 e.2.2 := List.forall_mem_cons.mpr ⟨lfX1_9, List.forall_mem_cons.mpr ⟨lfX1_15, List.forall_mem_cons.mpr ⟨lfX1_18, List.forall_mem_cons.mpr ⟨lfX1_22, List.forall_mem_cons.mpr ⟨lfX1_25, List.forall_mem_cons.mpr ⟨lfX1_28, List.forall_mem_cons.mpr ⟨lfX1_31, List.forall_mem_cons.mpr ⟨lfX1_34, List.forall_mem_cons.mpr ⟨lfX1_37, List.forall_mem_cons.mpr ⟨lfX1_40, List.forall_mem_cons.mpr ⟨lfX1_43, List.forall_mem_cons.mpr ⟨lfX1_46, List.forall_mem_cons.mpr ⟨lfX1_49, List.forall_mem_cons.mpr ⟨lfX1_52, List.forall_mem_cons.mpr ⟨lfX1_55, List.forall_mem_cons.mpr ⟨lfX1_64, List.forall_mem_cons.mpr ⟨lfX1_67, fun _ h => absurd h List.not_mem_nil⟩⟩⟩⟩⟩⟩⟩⟩⟩⟩⟩⟩⟩⟩⟩⟩⟩
def pX1l : List (Nat × Nat × Nat × FieldType) := [(9, 1, 3, .int), (15, 1, 5, .int), (40, 1, 0, .int), (43, 1, 1, .int), (46, 1, 2, .int), (49, 1, 4, .int), (52, 1, 6, .int), (55, 1, 7, .int), (64, 1, 15, .int), (67, 1, 16, .int)]
theorem pX1_ok : ∀ e ∈ pX1l, ab_lp RX1 e.1 e.2.1 e.2.2.1 e.2.2.2 := List.forall_mem_cons.mpr ⟨lpX1_9, List.forall_mem_cons.mpr ⟨lpX1_15, List.forall_mem_cons.mpr ⟨lpX1_40, List.forall_mem_cons.mpr ⟨lpX1_43, List.forall_mem_cons.mpr ⟨lpX1_46, List.forall_mem_cons.mpr ⟨lpX1_49, List.forall_mem_cons.mpr ⟨lpX1_52, List.forall_mem_cons.mpr ⟨lpX1_55, List.forall_mem_cons.mpr ⟨lpX1_64, List.forall_mem_cons.mpr ⟨lpX1_67, fun _ h => absurd h List.not_mem_nil⟩⟩⟩⟩⟩⟩⟩⟩⟩⟩
theorem lfX2_12 : ab_lf RX2 12 2 0 := ⟨RX2, TX2, 1, rfl, by decide, Or.inl (ab_mem 172 (by decide +kernel) rfl)⟩
theorem lfX2_30 : ab_lf RX2 30 1 0 := ⟨RX1, TX1, 17, rfl, by decide, Or.inr ⟨"DreamFort", ab_memN 79 (by decide +kernel) rfl⟩⟩
theorem lpX2_30 : ab_lp RX2 30 1 0 .int := ⟨lfX2_30, RX1, TX1, 17, rfl, rfl, by decide +kernel⟩
theorem lfX2_41 : ab_lf RX2 41 1 1 := ⟨RX1, TX1, 17, rfl, by decide, Or.inr ⟨"DreamFort", ab_memN 88 (by decide +kernel) rfl⟩⟩
theorem lpX2_41 : ab_lp RX2 41 1 1 .int := ⟨lfX2_41, RX1, TX1, 17, rfl, rfl, by decide +kernel⟩
theorem lfX2_63 : ab_lf RX2 63 1 3 := ⟨RX1, TX1, 17, rfl, by decide, Or.inr ⟨"DreamFort", ab_memN 94 (by decide +kernel) rfl⟩⟩
theorem lpX2_63 : ab_lp RX2 63 1 3 .int := ⟨lfX2_63, RX1, TX1, 17, rfl, rfl, by decide +kernel⟩
theorem lfX2_69 : ab_lf RX2 69 1 4 := ⟨RX1, TX1, 17, rfl, by decide, Or.inr ⟨"DreamFort", ab_memN 98 (by decide +kernel) rfl⟩⟩
theorem lpX2_69 : ab_lp RX2 69 1 4 .int := ⟨lfX2_69, RX1, TX1, 17, rfl, rfl, by decide +kernel⟩
theorem lfX2_82 : ab_lf RX2 82 1 8 := ⟨RX1, TX1, 17, rfl, by decide, Or.inr ⟨"DreamFort", ab_memN 111 (by decide +kernel) rfl⟩⟩
theorem lfX2_86 : ab_lf RX2 86 1 9 := ⟨RX1, TX1, 17, rfl, by decide, Or.inr ⟨"DreamFort", ab_memN 117 (by decide +kernel) rfl⟩⟩
theorem lfX2_101 : ab_lf RX2 101 1 7 := ⟨RX1, TX1, 17, rfl, by decide, Or.inr ⟨"DreamFort", ab_memN 107 (by decide +kernel) rfl⟩⟩
theorem lpX2_101 : ab_lp RX2 101 1 7 .int := ⟨lfX2_101, RX1, TX1, 17, rfl, rfl, by decide +kernel⟩
theorem lfX2_104 : ab_lf RX2 104 1 10 := ⟨RX1, TX1, 17, rfl, by decide, Or.inr ⟨"DreamFort", ab_memN 121 (by decide +kernel) rfl⟩⟩
theorem lfX2_107 : ab_lf RX2 107 1 11 := ⟨RX1, TX1, 17, rfl, by decide, Or.inr ⟨"DreamFort", ab_memN 125 (by decide +kernel) rfl⟩⟩
theorem lfX2_110 : ab_lf RX2 110 1 12 := ⟨RX1, TX1, 17, rfl, by decide, Or.inr ⟨"DreamFort", ab_memN 129 (by decide +kernel) rfl⟩⟩
def fX2l : List (Nat × Nat × Nat) := [(12, 2, 0), (30, 1, 0), (41, 1, 1), (63, 1, 3), (69, 1, 4), (82, 1, 8), (86, 1, 9), (101, 1, 7), (104, 1, 10), (107, 1, 11), (110, 1, 12)]
theorem fX2_ok : ∀ e ∈ fX2l, ab_lf RX2 e.1 e.2.1 e.2.2 := List.forall_mem_cons.mpr ⟨lfX2_12, List.forall_mem_cons.mpr ⟨lfX2_30, List.forall_mem_cons.mpr ⟨lfX2_41, List.forall_mem_cons.mpr ⟨lfX2_63, List.forall_mem_cons.mpr ⟨lfX2_69, List.forall_mem_cons.mpr ⟨lfX2_82, List.forall_mem_cons.mpr ⟨lfX2_86, List.forall_mem_cons.mpr ⟨lfX2_101, List.forall_mem_cons.mpr ⟨lfX2_104, List.forall_mem_cons.mpr ⟨lfX2_107, List.forall_mem_cons.mpr ⟨lfX2_110, fun _ h => absurd h List.not_mem_nil⟩⟩⟩⟩⟩⟩⟩⟩⟩⟩⟩
def pX2l : List (Nat × Nat × Nat × FieldType) := [(30, 1, 0, .int), (41, 1, 1, .int), (63, 1, 3, .int), (69, 1, 4, .int), (101, 1, 7, .int)]
theorem pX2_ok : ∀ e ∈ pX2l, ab_lp RX2 e.1 e.2.1 e.2.2.1 e.2.2.2 := List.forall_mem_cons.mpr ⟨lpX2_30, List.forall_mem_cons.mpr ⟨lpX2_41, List.forall_mem_cons.mpr ⟨lpX2_63, List.forall_mem_cons.mpr ⟨lpX2_69, List.forall_mem_cons.mpr ⟨lpX2_101, fun _ h => absurd h List.not_mem_nil⟩⟩⟩⟩⟩
def fX3l : List (Nat × Nat × Nat) := []
theorem fX3_ok : ∀ e ∈ fX3l, ab_lf RX3 e.1 e.2.1 e.2.2 := fun _ h => absurd h List.not_mem_nil
def pX3l : List (Nat × Nat × Nat × FieldType) := []
theorem pX3_ok : ∀ e ∈ pX3l, ab_lp RX3 e.1 e.2.1 e.2.2.1 e.2.2.2 := fun _ h => absurd h List.not_mem_nil
theorem lfX4_9 : ab_lf RX4 9 3 0 := ⟨RX4, TX4, 8, rfl, by decide, Or.inl (ab_mem 189 (by decide +kernel) rfl)⟩
theorem lpX4_9 : ab_lp RX4 9 3 0 .int := ⟨lfX4_9, RX4, TX4, 8, rfl, rfl, by decide +kernel⟩
theorem lfX4_15 : ab_lf RX4 15 3 1 := ⟨RX4, TX4, 8, rfl, by decide, Or.inl (ab_mem 191 (by decide +kernel) rfl)⟩
theorem lfX4_19 : ab_lf RX4 19 3 2 := ⟨RX4, TX4, 8, rfl, by decide, Or.inl (ab_mem 192 (by decide +kernel) rfl)⟩
theorem lfX4_22 : ab_lf RX4 22 3 3 := ⟨RX4, TX4, 8, rfl, by decide, Or.inl (ab_mem 193 (by decide +kernel) rfl)⟩
theorem lfX4_25 : ab_lf RX4 25 3 4 := ⟨RX4, TX4, 8, rfl, by decide, Or.inl (ab_mem 194 (by decide +kernel) rfl)⟩
theorem lfX4_28 : ab_lf RX4 28 3 5 := ⟨RX4, TX4, 8, rfl, by decide, Or.inl (ab_mem 195 (by decide +kernel) rfl)⟩
theorem lfX4_31 : ab_lf RX4 31 3 7 := ⟨RX4, TX4, 8, rfl, by decide, Or.inl (ab_mem 198 (by decide +kernel) rfl)⟩
theorem lfX4_34 : ab_lf RX4 34 3 6 := ⟨RX4, TX4, 8, rfl, by decide, Or.inl (ab_mem 196 (by decide +kernel) rfl)⟩
theorem lpX4_34 : ab_lp RX4 34 3 6 .int := ⟨lfX4_34, RX4, TX4, 8, rfl, rfl, by decide +kernel⟩
def fX4l : List (Nat × Nat × Nat) := [(9, 3, 0), (15, 3, 1), (19, 3, 2), (22, 3, 3), (25, 3, 4), (28, 3, 5), (31, 3, 7), (34, 3, 6)]
theorem fX4_ok : ∀ e ∈ fX4l, ab_lf RX4 e.1 e.2.1 e.2.2 := List.forall_mem_cons.mpr ⟨lfX4_9, List.forall_mem_cons.mpr ⟨lfX4_15, List.forall_mem_cons.mpr ⟨lfX4_19, List.forall_mem_cons.mpr ⟨lfX4_22, List.forall_mem_cons.mpr ⟨lfX4_25, List.forall_mem_cons.mpr ⟨lfX4_28, List.forall_mem_cons.mpr ⟨lfX4_31, List.forall_mem_cons.mpr ⟨lfX4_34, fun _ h => absurd h List.not_mem_nil⟩⟩⟩⟩⟩⟩⟩⟩
def pX4l : List (Nat × Nat × Nat × FieldType) := [(9, 3, 0, .int), (34, 3, 6, .int)]
theorem pX4_ok : ∀ e ∈ pX4l, ab_lp RX4 e.1 e.2.1 e.2.2.1 e.2.2.2 := List.forall_mem_cons.mpr ⟨lpX4_9, List.forall_mem_cons.mpr ⟨lpX4_34, fun _ h => absurd h List.not_mem_nil⟩⟩
theorem lfX5_12 : ab_lf RX5 12 4 0 := ⟨RX5, TX5, 1, rfl, by decide, Or.inl (ab_mem 216 (by decide +kernel) rfl)⟩
theorem lfX5_28 : ab_lf RX5 28 3 6 := ⟨RX4, TX4, 8, rfl, by decide, Or.inr ⟨"DreamFort", ab_memN 197 (by decide +kernel) rfl⟩⟩
theorem lpX5_28 : ab_lp RX5 28 3 6 .int := ⟨lfX5_28, RX4, TX4, 8, rfl, rfl, by decide +kernel⟩
def fX5l : List (Nat × Nat × Nat) := [(12, 4, 0), (28, 3, 6)]
theorem fX5_ok : ∀ e ∈ fX5l, ab_lf RX5 e.1 e.2.1 e.2.2 := List.forall_mem_cons.mpr ⟨lfX5_12, List.forall_mem_cons.mpr ⟨lfX5_28, fun _ h => absurd h List.not_mem_nil⟩⟩
def pX5l : List (Nat × Nat × Nat × FieldType) := [(28, 3, 6, .int)]
theorem pX5_ok : ∀ e ∈ pX5l, ab_lp RX5 e.1 e.2.1 e.2.2.1 e.2.2.2 := List.forall_mem_cons.mpr ⟨lpX5_28, fun _ h => absurd h List.not_mem_nil⟩
def fX6l : List (Nat × Nat × Nat) := []
theorem fX6_ok : ∀ e ∈ fX6l, ab_lf RX6 e.1 e.2.1 e.2.2 := fun _ h => absurd h List.not_mem_nil
def pX6l : List (Nat × Nat × Nat × FieldType) := []
theorem pX6_ok : ∀ e ∈ pX6l, ab_lp RX6 e.1 e.2.1 e.2.2.1 e.2.2.2 := fun _ h => absurd h List.not_mem_nil
theorem lfX7_9 : ab_lf RX7 9 5 0 := ⟨RX7, TX7, 6, rfl, by decide, Or.inl (ab_mem 232 (by decide +kernel) rfl)⟩
theorem lfX7_15 : ab_lf RX7 15 5 1 := ⟨RX7, TX7, 6, rfl, by decide, Or.inl (ab_mem 233 (by decide +kernel) rfl)⟩
theorem lfX7_18 : ab_lf RX7 18 5 2 := ⟨RX7, TX7, 6, rfl, by decide, Or.inl (ab_mem 236 (by decide +kernel) rfl)⟩
theorem lfX7_23 : ab_lf RX7 23 5 4 := ⟨RX7, TX7, 6, rfl, by decide, Or.inl (ab_mem 239 (by decide +kernel) rfl)⟩
theorem lfX7_26 : ab_lf RX7 26 5 3 := ⟨RX7, TX7, 6, rfl, by decide, Or.inl (ab_mem 238 (by decide +kernel) rfl)⟩
theorem lpX7_26 : ab_lp RX7 26 5 3 .int := ⟨lfX7_26, RX7, TX7, 6, rfl, rfl, by decide +kernel⟩
theorem lfX7_30 : ab_lf RX7 30 1 1 := ⟨RX1, TX1, 17, rfl, by decide, Or.inr ⟨"DreamFort", ab_memN 84 (by decide +kernel) rfl⟩⟩
theorem lpX7_30 : ab_lp RX7 30 1 1 .int := ⟨lfX7_30, RX1, TX1, 17, rfl, rfl, by decide +kernel⟩
theorem lfX7_35 : ab_lf RX7 35 1 0 := ⟨RX1, TX1, 17, rfl, by decide, Or.inr ⟨"DreamFort", ab_memN 81 (by decide +kernel) rfl⟩⟩
theorem lpX7_35 : ab_lp RX7 35 1 0 .int := ⟨lfX7_35, RX1, TX1, 17, rfl, rfl, by decide +kernel⟩
theorem lfX7_56 : ab_lf RX7 56 1 3 := ⟨RX1, TX1, 17, rfl, by decide, Or.inr ⟨"DreamFort", ab_memN 95 (by decide +kernel) rfl⟩⟩
theorem lpX7_56 : ab_lp RX7 56 1 3 .int := ⟨lfX7_56, RX1, TX1, 17, rfl, rfl, by decide +kernel⟩
theorem lfX7_82 : ab_lf RX7 82 1 10 := ⟨RX1, TX1, 17, rfl, by decide, Or.inr ⟨"DreamFort", ab_memN 122 (by decide +kernel) rfl⟩⟩
theorem lfX7_85 : ab_lf RX7 85 1 11 := ⟨RX1, TX1, 17, rfl, by decide, Or.inr ⟨"DreamFort", ab_memN 126 (by decide +kernel) rfl⟩⟩
theorem lfX7_96 : ab_lf RX7 96 1 8 := ⟨RX1, TX1, 17, rfl, by decide, Or.inr ⟨"DreamFort", ab_memN 112 (by decide +kernel) rfl⟩⟩
theorem lfX7_99 : ab_lf RX7 99 1 9 := ⟨RX1, TX1, 17, rfl, by decide, Or.inr ⟨"DreamFort", ab_memN 118 (by decide +kernel) rfl⟩⟩
theorem lfX7_113 : ab_lf RX7 113 5 5 := ⟨RX7, TX7, 6, rfl, by decide, Or.inl (ab_mem 240 (by decide +kernel) rfl)⟩
theorem lpX7_113 : ab_lp RX7 113 5 5 .int := ⟨lfX7_113, RX7, TX7, 6, rfl, rfl, by decide +kernel⟩
theorem lfX7_123 : ab_lf RX7 123 1 6 := ⟨RX1, TX1, 17, rfl, by decide, Or.inr ⟨"DreamFort", ab_memN 104 (by decide +kernel) rfl⟩⟩
theorem lpX7_123 : ab_lp RX7 123 1 6 .int := ⟨lfX7_123, RX1, TX1, 17, rfl, rfl, by decide +kernel⟩
theorem lfX7_137 : ab_lf RX7 137 1 7 := ⟨RX1, TX1, 17, rfl, by decide, Or.inr ⟨"DreamFort", ab_memN 108 (by decide +kernel) rfl⟩⟩
theorem lpX7_137 : ab_lp RX7 137 1 7 .int := ⟨lfX7_137, RX1, TX1, 17, rfl, rfl, by decide +kernel⟩
theorem lfX7_140 : ab_lf RX7 140 1 4 := ⟨RX1, TX1, 17, rfl, by decide, Or.inr ⟨"DreamFort", ab_memN 99 (by decide +kernel) rfl⟩⟩
theorem lpX7_140 : ab_lp RX7 140 1 4 .int := ⟨lfX7_140, RX1, TX1, 17, rfl, rfl, by decide +kernel⟩
def fX7l : List (Nat × Nat × Nat) := [(9, 5, 0), (15, 5, 1), (18, 5, 2), (23, 5, 4), (26, 5, 3), (30, 1, 1), (35, 1, 0), (56, 1, 3), (82, 1, 10), (85, 1, 11), (96, 1, 8), (99, 1, 9), (113, 5, 5), (123, 1, 6), (137, 1, 7), (140, 1, 4)]
theorem fX7_ok : ∀ e ∈ fX7l, ab_lf RX7 e.1 e.2.1 e.2.2 := List.forall_mem_cons.mpr ⟨lfX7_9, List.forall_mem_cons.mpr ⟨lfX7_15, List.forall_mem_cons.mpr ⟨lfX7_18, List.forall_mem_cons.mpr ⟨lfX7_23, List.forall_mem_cons.mpr ⟨lfX7_26, List.forall_mem_cons.mpr ⟨lfX7_30, List.forall_mem_cons.mpr ⟨lfX7_35, List.forall_mem_cons.mpr ⟨lfX7_56, List.forall_mem_cons.mpr ⟨lfX7_82, List.forall_mem_cons.mpr ⟨lfX7_85, List.forall_mem_cons.mpr ⟨lfX7_96, List.forall_mem_cons.mpr ⟨lfX7_99, List.forall_mem_cons.mpr ⟨lfX7_113, List.forall_mem_cons.mpr ⟨lfX7_123, List.forall_mem_cons.mpr ⟨lfX7_137, List.forall_mem_cons.mpr ⟨lfX7_140, fun _ h => absurd h List.not_mem_nil⟩⟩⟩⟩⟩⟩⟩⟩⟩⟩⟩⟩⟩⟩⟩⟩
def pX7l : List (Nat × Nat × Nat × FieldType) := [(26, 5, 3, .int), (30, 1, 1, .int), (35, 1, 0, .int), (56, 1, 3, .int), (113, 5, 5, .int), (123, 1, 6, .int), (137, 1, 7, .int), (140, 1, 4, .int)]
theorem pX7_ok : ∀ e ∈ pX7l, ab_lp RX7 e.1 e.2.1 e.2.2.1 e.2.2.2 := List.forall_mem_cons.mpr ⟨lpX7_26, List.forall_mem_cons.mpr ⟨lpX7_30, List.forall_mem_cons.mpr ⟨lpX7_35, List.forall_mem_cons.mpr ⟨lpX7_56, List.forall_mem_cons.mpr ⟨lpX7_113, List.forall_mem_cons.mpr ⟨lpX7_123, List.forall_mem_cons.mpr ⟨lpX7_137, List.forall_mem_cons.mpr ⟨lpX7_140, fun _ h => absurd h List.not_mem_nil⟩⟩⟩⟩⟩⟩⟩⟩
theorem lfX8_9 : ab_lf RX8 9 6 0 := ⟨RX8, TX8, 5, rfl, by decide, Or.inl (ab_mem 261 (by decide +kernel) rfl)⟩
theorem lfX8_15 : ab_lf RX8 15 6 2 := ⟨RX8, TX8, 5, rfl, by decide, Or.inl (ab_mem 264 (by decide +kernel) rfl)⟩
theorem lfX8_18 : ab_lf RX8 18 6 3 := ⟨RX8, TX8, 5, rfl, by decide, Or.inl (ab_mem 266 (by decide +kernel) rfl)⟩
theorem lfX8_21 : ab_lf RX8 21 6 4 := ⟨RX8, TX8, 5, rfl, by decide, Or.inl (ab_mem 267 (by decide +kernel) rfl)⟩
theorem lfX8_30 : ab_lf RX8 30 1 1 := ⟨RX1, TX1, 17, rfl, by decide, Or.inr ⟨"DreamFort", ab_memN 87 (by decide +kernel) rfl⟩⟩
theorem lpX8_30 : ab_lp RX8 30 1 1 .int := ⟨lfX8_30, RX1, TX1, 17, rfl, rfl, by decide +kernel⟩
theorem lfX8_36 : ab_lf RX8 36 1 0 := ⟨RX1, TX1, 17, rfl, by decide, Or.inr ⟨"DreamFort", ab_memN 80 (by decide +kernel) rfl⟩⟩
theorem lpX8_36 : ab_lp RX8 36 1 0 .int := ⟨lfX8_36, RX1, TX1, 17, rfl, rfl, by decide +kernel⟩
theorem lfX8_53 : ab_lf RX8 53 6 1 := ⟨RX8, TX8, 5, rfl, by decide, Or.inl (ab_mem 262 (by decide +kernel) rfl)⟩
theorem lpX8_53 : ab_lp RX8 53 6 1 .int := ⟨lfX8_53, RX8, TX8, 5, rfl, rfl, by decide +kernel⟩
theorem lfX8_70 : ab_lf RX8 70 1 8 := ⟨RX1, TX1, 17, rfl, by decide, Or.inr ⟨"DreamFort", ab_memN 113 (by decide +kernel) rfl⟩⟩
def fX8l : List (Nat × Nat × Nat) := [(9, 6, 0), (15, 6, 2), (18, 6, 3), (21, 6, 4), (30, 1, 1), (36, 1, 0), (53, 6, 1), (70, 1, 8)]
theorem fX8_ok : ∀ e ∈ fX8l, ab_lf RX8 e.1 e.2.1 e.2.2 := List.forall_mem_cons.mpr ⟨lfX8_9, List.forall_mem_cons.mpr ⟨lfX8_15, List.forall_mem_cons.mpr ⟨lfX8_18, List.forall_mem_cons.mpr ⟨lfX8_21, List.forall_mem_cons.mpr ⟨lfX8_30, List.forall_mem_cons.mpr ⟨lfX8_36, List.forall_mem_cons.mpr ⟨lfX8_53, List.forall_mem_cons.mpr ⟨lfX8_70, fun _ h => absurd h List.not_mem_nil⟩⟩⟩⟩⟩⟩⟩⟩
def pX8l : List (Nat × Nat × Nat × FieldType) := [(30, 1, 1, .int), (36, 1, 0, .int), (53, 6, 1, .int)]
theorem pX8_ok : ∀ e ∈ pX8l, ab_lp RX8 e.1 e.2.1 e.2.2.1 e.2.2.2 := List.forall_mem_cons.mpr ⟨lpX8_30, List.forall_mem_cons.mpr ⟨lpX8_36, List.forall_mem_cons.mpr ⟨lpX8_53, fun _ h => absurd h List.not_mem_nil⟩⟩⟩
theorem lfX9_11 : ab_lf RX9 11 7 2 := ⟨RX9, TX9, 3, rfl, by decide, Or.inl (ab_mem 311 (by decide +kernel) rfl)⟩
theorem lfX9_15 : ab_lf RX9 15 7 0 := ⟨RX9, TX9, 3, rfl, by decide, Or.inl (ab_mem 307 (by decide +kernel) rfl)⟩
theorem lpX9_15 : ab_lp RX9 15 7 0 .int := ⟨lfX9_15, RX9, TX9, 3, rfl, rfl, by decide +kernel⟩
theorem lfX9_19 : ab_lf RX9 19 7 1 := ⟨RX9, TX9, 3, rfl, by decide, Or.inl (ab_mem 309 (by decide +kernel) rfl)⟩
theorem lpX9_19 : ab_lp RX9 19 7 1 .int := ⟨lfX9_19, RX9, TX9, 3, rfl, rfl, by decide +kernel⟩
theorem lfX9_28 : ab_lf RX9 28 1 0 := ⟨RX1, TX1, 17, rfl, by decide, Or.inr ⟨"DreamFort", ab_memN 82 (by decide +kernel) rfl⟩⟩
theorem lpX9_28 : ab_lp RX9 28 1 0 .int := ⟨lfX9_28, RX1, TX1, 17, rfl, rfl, by decide +kernel⟩
theorem lfX9_31 : ab_lf RX9 31 1 9 := ⟨RX1, TX1, 17, rfl, by decide, Or.inr ⟨"DreamFort", ab_memN 116 (by decide +kernel) rfl⟩⟩
theorem lfX9_48 : ab_lf RX9 48 1 1 := ⟨RX1, TX1, 17, rfl, by decide, Or.inr ⟨"DreamFort", ab_memN 89 (by decide +kernel) rfl⟩⟩
theorem lpX9_48 : ab_lp RX9 48 1 1 .int := ⟨lfX9_48, RX1, TX1, 17, rfl, rfl, by decide +kernel⟩
theorem lfX9_55 : ab_lf RX9 55 1 13 := ⟨RX1, TX1, 17, rfl, by decide, Or.inr ⟨"DreamFort", ab_memN 132 (by decide +kernel) rfl⟩⟩
theorem lfX9_62 : ab_lf RX9 62 5 1 := ⟨RX7, TX7, 6, rfl, by decide, Or.inr ⟨"DreamFort", ab_memN 234 (by decide +kernel) rfl⟩⟩
def fX9l : List (Nat × Nat × Nat) := [(11, 7, 2), (15, 7, 0), (19, 7, 1), (28, 1, 0), (31, 1, 9), (48, 1, 1), (55, 1, 13), (62, 5, 1)]
theorem fX9_ok : ∀ e ∈ fX9l, ab_lf RX9 e.1 e.2.1 e.2.2 := List.forall_mem_cons.mpr ⟨lfX9_11, List.forall_mem_cons.mpr ⟨lfX9_15, List.forall_mem_cons.mpr ⟨lfX9_19, List.forall_mem_cons.mpr ⟨lfX9_28, List.forall_mem_cons.mpr ⟨lfX9_31, List.forall_mem_cons.mpr ⟨lfX9_48, List.forall_mem_cons.mpr ⟨lfX9_55, List.forall_mem_cons.mpr ⟨lfX9_62, fun _ h => absurd h List.not_mem_nil⟩⟩⟩⟩⟩⟩⟩⟩
def pX9l : List (Nat × Nat × Nat × FieldType) := [(15, 7, 0, .int), (19, 7, 1, .int), (28, 1, 0, .int), (48, 1, 1, .int)]
theorem pX9_ok : ∀ e ∈ pX9l, ab_lp RX9 e.1 e.2.1 e.2.2.1 e.2.2.2 := List.forall_mem_cons.mpr ⟨lpX9_15, List.forall_mem_cons.mpr ⟨lpX9_19, List.forall_mem_cons.mpr ⟨lpX9_28, List.forall_mem_cons.mpr ⟨lpX9_48, fun _ h => absurd h List.not_mem_nil⟩⟩⟩⟩
theorem lfX10_11 : ab_lf RX10 11 8 0 := ⟨RX10, TX10, 5, rfl, by decide, Or.inl (ab_mem 46 (by decide +kernel) rfl)⟩
theorem lfX10_17 : ab_lf RX10 17 8 1 := ⟨RX10, TX10, 5, rfl, by decide, Or.inl (ab_mem 47 (by decide +kernel) rfl)⟩
theorem lfX10_21 : ab_lf RX10 21 8 2 := ⟨RX10, TX10, 5, rfl, by decide, Or.inl (ab_mem 48 (by decide +kernel) rfl)⟩
theorem lfX10_24 : ab_lf RX10 24 8 3 := ⟨RX10, TX10, 5, rfl, by decide, Or.inl (ab_mem 49 (by decide +kernel) rfl)⟩
theorem lpX10_24 : ab_lp RX10 24 8 3 .int := ⟨lfX10_24, RX10, TX10, 5, rfl, rfl, by decide +kernel⟩
theorem lfX10_28 : ab_lf RX10 28 8 4 := ⟨RX10, TX10, 5, rfl, by decide, Or.inl (ab_mem 50 (by decide +kernel) rfl)⟩
theorem lpX10_28 : ab_lp RX10 28 8 4 .int := ⟨lfX10_28, RX10, TX10, 5, rfl, rfl, by decide +kernel⟩
def fX10l : List (Nat × Nat × Nat) := [(11, 8, 0), (17, 8, 1), (21, 8, 2), (24, 8, 3), (28, 8, 4)]
theorem fX10_ok : ∀ e ∈ fX10l, ab_lf RX10 e.1 e.2.1 e.2.2 := List.forall_mem_cons.mpr ⟨lfX10_11, List.forall_mem_cons.mpr ⟨lfX10_17, List.forall_mem_cons.mpr ⟨lfX10_21, List.forall_mem_cons.mpr ⟨lfX10_24, List.forall_mem_cons.mpr ⟨lfX10_28, fun _ h => absurd h List.not_mem_nil⟩⟩⟩⟩⟩
def pX10l : List (Nat × Nat × Nat × FieldType) := [(24, 8, 3, .int), (28, 8, 4, .int)]
theorem pX10_ok : ∀ e ∈ pX10l, ab_lp RX10 e.1 e.2.1 e.2.2.1 e.2.2.2 := List.forall_mem_cons.mpr ⟨lpX10_24, List.forall_mem_cons.mpr ⟨lpX10_28, fun _ h => absurd h List.not_mem_nil⟩⟩
theorem lfX12_3 : ab_lf RX12 3 10 0 := ⟨RX12, TX12, 25, rfl, by decide, Or.inl (ab_mem 1428 (by decide +kernel) rfl)⟩
theorem lpX12_3 : ab_lp RX12 3 10 0 .int := ⟨lfX12_3, RX12, TX12, 25, rfl, rfl, by decide +kernel⟩
theorem lfX12_13 : ab_lf RX12 13 10 1 := ⟨RX12, TX12, 25, rfl, by decide, Or.inl (ab_mem 1429 (by decide +kernel) rfl)⟩
theorem lfX12_17 : ab_lf RX12 17 10 2 := ⟨RX12, TX12, 25, rfl, by decide, Or.inl (ab_mem 1430 (by decide +kernel) rfl)⟩
theorem lfX12_20 : ab_lf RX12 20 10 3 := ⟨RX12, TX12, 25, rfl, by decide, Or.inl (ab_mem 1431 (by decide +kernel) rfl)⟩
theorem lfX12_23 : ab_lf RX12 23 10 4 := ⟨RX12, TX12, 25, rfl, by decide, Or.inl (ab_mem 1432 (by decide +kernel) rfl)⟩
theorem lfX12_26 : ab_lf RX12 26 10 5 := ⟨RX12, TX12, 25, rfl, by decide, Or.inl (ab_mem 1433 (by decide +kernel) rfl)⟩
theorem lfX12_29 : ab_lf RX12 29 10 8 := ⟨RX12, TX12, 25, rfl, by decide, Or.inl (ab_mem 1436 (by decide +kernel) rfl)⟩
theorem lfX12_33 : ab_lf RX12 33 10 14 := ⟨RX12, TX12, 25, rfl, by decide, Or.inl (ab_mem 1442 (by decide +kernel) rfl)⟩
theorem lpX12_33 : ab_lp RX12 33 10 14 .int := ⟨lfX12_33, RX12, TX12, 25, rfl, rfl, by decide +kernel⟩
theorem lfX12_36 : ab_lf RX12 36 10 15 := ⟨RX12, TX12, 25, rfl, by decide, Or.inl (ab_mem 1443 (by decide +kernel) rfl)⟩
theorem lfX12_39 : ab_lf RX12 39 10 17 := ⟨RX12, TX12, 25, rfl, by decide, Or.inl (ab_mem 1445 (by decide +kernel) rfl)⟩
theorem lfX12_42 : ab_lf RX12 42 10 19 := ⟨RX12, TX12, 25, rfl, by decide, Or.inl (ab_mem 1447 (by decide +kernel) rfl)⟩
theorem lfX12_45 : ab_lf RX12 45 10 20 := ⟨RX12, TX12, 25, rfl, by decide, Or.inl (ab_mem 1448 (by decide +kernel) rfl)⟩
theorem lfX12_48 : ab_lf RX12 48 10 21 := ⟨RX12, TX12, 25, rfl, by decide, Or.inl (ab_mem 1449 (by decide +kernel) rfl)⟩
theorem lfX12_52 : ab_lf RX12 52 10 22 := ⟨RX12, TX12, 25, rfl, by decide, Or.inl (ab_mem 1450 (by decide +kernel) rfl)⟩
theorem lfX12_55 : ab_lf RX12 55 10 23 := ⟨RX12, TX12, 25, rfl, by decide, Or.inl (ab_mem 1451 (by decide +kernel) rfl)⟩
theorem lfX12_58 : ab_lf RX12 58 10 24 := ⟨RX12, TX12, 25, rfl, by decide, Or.inl (ab_mem 1452 (by decide +kernel) rfl)⟩
theorem lfX12_61 : ab_lf RX12 61 10 6 := ⟨RX12, TX12, 25, rfl, by decide, Or.inl (ab_mem 1434 (by decide +kernel) rfl)⟩
theorem lpX12_61 : ab_lp RX12 61 10 6 .boolean := ⟨lfX12_61, RX12, TX12, 25, rfl, rfl, by decide +kernel⟩
theorem lfX12_65 : ab_lf RX12 65 10 7 := ⟨RX12, TX12, 25, rfl, by decide, Or.inl (ab_mem 1435 (by decide +kernel) rfl)⟩
theorem lpX12_65 : ab_lp RX12 65 10 7 .int := ⟨lfX12_65, RX12, TX12, 25, rfl, rfl, by decide +kernel⟩
theorem lfX12_97 : ab_lf RX12 97 10 9 := ⟨RX12, TX12, 25, rfl, by decide, Or.inl (ab_mem 1437 (by decide +kernel) rfl)⟩
theorem lpX12_97 : ab_lp RX12 97 10 9 .int := ⟨lfX12_97, RX12, TX12, 25, rfl, rfl, by decide +kernel⟩
theorem lfX12_100 : ab_lf RX12 100 10 10 := ⟨RX12, TX12, 25, rfl, by decide, Or.inl (ab_mem 1438 (by decide +kernel) rfl)⟩
theorem lpX12_100 : ab_lp RX12 100 10 10 .int := ⟨lfX12_100, RX12, TX12, 25, rfl, rfl, by decide +kernel⟩
theorem lfX12_103 : ab_lf RX12 103 10 11 := ⟨RX12, TX12, 25, rfl, by decide, Or.inl (ab_mem 1439 (by decide +kernel) rfl)⟩
theorem lpX12_103 : ab_lp RX12 103 10 11 .int := ⟨lfX12_103, RX12, TX12, 25, rfl, rfl, by decide +kernel⟩
theorem lfX12_110 : ab_lf RX12 110 10 12 := ⟨RX12, TX12, 25, rfl, by decide, Or.inl (ab_mem 1440 (by decide +kernel) rfl)⟩
theorem lpX12_110 : ab_lp RX12 110 10 12 .int := ⟨lfX12_110, RX12, TX12, 25, rfl, rfl, by decide +kernel⟩
theorem lfX12_183 : ab_lf RX12 183 10 16 := ⟨RX12, TX12, 25, rfl, by decide, Or.inl (ab_mem 1444 (by decide +kernel) rfl)⟩
theorem lpX12_183 : ab_lp RX12 183 10 16 .int := ⟨lfX12_183, RX12, TX12, 25, rfl, rfl, by decide +kernel⟩
theorem lfX12_201 : ab_lf RX12 201 10 13 := ⟨RX12, TX12, 25, rfl, by decide, Or.inl (ab_mem 1441 (by decide +kernel) rfl)⟩
theorem lpX12_201 : ab_lp RX12 201 10 13 .int := ⟨lfX12_201, RX12, TX12, 25, rfl, rfl, by decide +kernel⟩
theorem lfX12_302 : ab_lf RX12 302 10 18 := ⟨RX12, TX12, 25, rfl, by decide, Or.inl (ab_mem 1446 (by decide +kernel) rfl)⟩
theorem lpX12_302 : ab_lp RX12 302 10 18 .int := ⟨lfX12_302, RX12, TX12, 25, rfl, rfl, by decide +kernel⟩
def fX12l : List (Nat × Nat × Nat) := [(3, 10, 0), (13, 10, 1), (17, 10, 2), (20, 10, 3), (23, 10, 4), (26, 10, 5), (29, 10, 8), (33, 10, 14), (36, 10, 15), (39, 10, 17), (42, 10, 19), (45, 10, 20), (48, 10, 21), (52, 10, 22), (55, 10, 23), (58, 10, 24), (61, 10, 6), (65, 10, 7), (97, 10, 9), (100, 10, 10), (103, 10, 11), (110, 10, 12), (183, 10, 16), (201, 10, 13), (302, 10, 18)]
theorem fX12_ok : ∀ e ∈ fX12l, ab_lf RX12 e.1 e.2.1 e.2.2 := List.forall_mem_cons.mpr ⟨lfX12_3, List.forall_mem_cons.mpr ⟨lfX12_13, List.forall_mem_cons.mpr ⟨lfX12_17, List.forall_mem_cons.mpr ⟨lfX12_20, List.forall_mem_cons.mpr ⟨lfX12_23, List.forall_mem_cons.mpr ⟨lfX12_26, List.forall_mem_cons.mpr ⟨lfX12_29, List.forall_mem_cons.mpr ⟨lfX12_33, List.forall_mem_cons.mpr ⟨lfX12_36, List.forall_mem_cons.mpr ⟨lfX12_39, List.forall_mem_cons.mpr ⟨lfX12_42, List.forall_mem_cons.mpr ⟨lfX12_45, List.forall_mem_cons.mpr ⟨lfX12_48, List.forall_mem_cons.mpr ⟨lfX12_52, List.forall_mem_cons.mpr ⟨lfX12_55, List.forall_mem_cons.mpr ⟨lfX12_58, List.forall_mem_cons.mpr ⟨lfX12_61, List.forall_mem_cons.mpr ⟨lfX12_65, List.forall_mem_cons.mpr ⟨lfX12_97, List.forall_mem_cons.mpr ⟨lfX12_100, List.forall_mem_cons.mpr ⟨lfX12_103, List.forall_mem_cons.mpr ⟨lfX12_110, List.forall_mem_cons.mpr ⟨lfX12_183, List.forall_mem_cons.mpr ⟨lfX12_201, List.forall_mem_cons.mpr ⟨lfX12_302, fun _ h => absurd h List.not_mem_nil⟩⟩⟩⟩⟩⟩⟩⟩⟩⟩⟩⟩⟩⟩⟩⟩⟩⟩⟩⟩⟩⟩⟩⟩⟩
def pX12l : List (Nat × Nat × Nat × FieldType) := [(3, 10, 0, .int), (33, 10, 14, .int), (61, 10, 6, .boolean), (65, 10, 7, .int), (97, 10, 9, .int), (100, 10, 10, .int), (103, 10, 11, .int), (110, 10, 12, .int), (183, 10, 16, .int), (201, 10, 13, .int), (302, 10, 18, .int)]
theorem pX12_ok : ∀ e ∈ pX12l, ab_lp RX12 e.1 e.2.1 e.2.2.1 e.2.2.2 := List.forall_mem_cons.mpr ⟨lpX12_3, List.forall_mem_cons.mpr ⟨lpX12_33, List.forall_mem_cons.mpr ⟨lpX12_61, List.forall_mem_cons.mpr ⟨lpX12_65, List.forall_mem_cons.mpr ⟨lpX12_97, List.forall_mem_cons.mpr ⟨lpX12_100, List.forall_mem_cons.mpr ⟨lpX12_103, List.forall_mem_cons.mpr ⟨lpX12_110, List.forall_mem_cons.mpr ⟨lpX12_183, List.forall_mem_cons.mpr ⟨lpX12_201, List.forall_mem_cons.mpr ⟨lpX12_302, fun _ h => absurd h List.not_mem_nil⟩⟩⟩⟩⟩⟩⟩⟩⟩⟩⟩
def fJ0l : List (Nat × Nat × Nat) := []
theorem fJ0_ok : ∀ e ∈ fJ0l, ab_lf RJ0 e.1 e.2.1 e.2.2 := fun _ h => absurd h List.not_mem_nil
def pJ0l : List (Nat × Nat × Nat × FieldType) := []
theorem pJ0_ok : ∀ e ∈ pJ0l, ab_lp RJ0 e.1 e.2.1 e.2.2.1 e.2.2.2 := fun _ h => absurd h List.not_mem_nil
def fJ2l : List (Nat × Nat × Nat) := []
theorem fJ2_ok : ∀ e ∈ fJ2l, ab_lf RJ2 e.1 e.2.1 e.2.2 := fun _ h => absurd h List.not_mem_nil
def pJ2l : List (Nat × Nat × Nat × FieldType) := []
theorem pJ2_ok : ∀ e ∈ pJ2l, ab_lp RJ2 e.1 e.2.1 e.2.2.1 e.2.2.2 := fun _ h => absurd h List.not_mem_nil
