/-! ===== DreamFortModel: its cells ===== -/
def mo_fs (z : Nat → Int32) : List Value := [.int (z 0), .ref 3175, .ref 3176, .ref 3177, .ref 3178, .ref 3179, .int (z 6), .int (z 7), .ref 3180, .int (z 9), .int (z 10), .int (z 11), .int (z 12), .int (z 13), .int (z 14), .ref 3181, .int (z 16), .ref 3182, .int (z 18), .ref 3183, .ref 3184, .ref 3185, .ref 3186, .ref 3187, .ref 3188]
theorem mo_g0 (z : Nat → Int32) : (mo_fs z)[0]? = some (.int (z 0)) := rfl
theorem mo_g1 (z : Nat → Int32) : (mo_fs z)[1]? = some (.ref 3175) := rfl
theorem mo_g2 (z : Nat → Int32) : (mo_fs z)[2]? = some (.ref 3176) := rfl
theorem mo_g3 (z : Nat → Int32) : (mo_fs z)[3]? = some (.ref 3177) := rfl
theorem mo_g4 (z : Nat → Int32) : (mo_fs z)[4]? = some (.ref 3178) := rfl
theorem mo_g5 (z : Nat → Int32) : (mo_fs z)[5]? = some (.ref 3179) := rfl
theorem mo_g6 (z : Nat → Int32) : (mo_fs z)[6]? = some (.int (z 6)) := rfl
theorem mo_g7 (z : Nat → Int32) : (mo_fs z)[7]? = some (.int (z 7)) := rfl
theorem mo_g8 (z : Nat → Int32) : (mo_fs z)[8]? = some (.ref 3180) := rfl
theorem mo_g9 (z : Nat → Int32) : (mo_fs z)[9]? = some (.int (z 9)) := rfl
theorem mo_g10 (z : Nat → Int32) : (mo_fs z)[10]? = some (.int (z 10)) := rfl
theorem mo_g11 (z : Nat → Int32) : (mo_fs z)[11]? = some (.int (z 11)) := rfl
theorem mo_g12 (z : Nat → Int32) : (mo_fs z)[12]? = some (.int (z 12)) := rfl
theorem mo_g13 (z : Nat → Int32) : (mo_fs z)[13]? = some (.int (z 13)) := rfl
theorem mo_g14 (z : Nat → Int32) : (mo_fs z)[14]? = some (.int (z 14)) := rfl
theorem mo_g15 (z : Nat → Int32) : (mo_fs z)[15]? = some (.ref 3181) := rfl
theorem mo_g16 (z : Nat → Int32) : (mo_fs z)[16]? = some (.int (z 16)) := rfl
theorem mo_g17 (z : Nat → Int32) : (mo_fs z)[17]? = some (.ref 3182) := rfl
theorem mo_g18 (z : Nat → Int32) : (mo_fs z)[18]? = some (.int (z 18)) := rfl
theorem mo_g19 (z : Nat → Int32) : (mo_fs z)[19]? = some (.ref 3183) := rfl
theorem mo_g20 (z : Nat → Int32) : (mo_fs z)[20]? = some (.ref 3184) := rfl
theorem mo_g21 (z : Nat → Int32) : (mo_fs z)[21]? = some (.ref 3185) := rfl
theorem mo_g22 (z : Nat → Int32) : (mo_fs z)[22]? = some (.ref 3186) := rfl
theorem mo_g23 (z : Nat → Int32) : (mo_fs z)[23]? = some (.ref 3187) := rfl
theorem mo_g24 (z : Nat → Int32) : (mo_fs z)[24]? = some (.ref 3188) := rfl
theorem mo_p0 (z : Nat → Int32) (v : Int32) : (mo_fs z).set 0 (.int v) = mo_fs (upd z 0 v) := rfl
theorem mo_p6 (z : Nat → Int32) (v : Int32) : (mo_fs z).set 6 (.int v) = mo_fs (upd z 6 v) := rfl
theorem mo_p7 (z : Nat → Int32) (v : Int32) : (mo_fs z).set 7 (.int v) = mo_fs (upd z 7 v) := rfl
theorem mo_p9 (z : Nat → Int32) (v : Int32) : (mo_fs z).set 9 (.int v) = mo_fs (upd z 9 v) := rfl
theorem mo_p10 (z : Nat → Int32) (v : Int32) : (mo_fs z).set 10 (.int v) = mo_fs (upd z 10 v) := rfl
theorem mo_p11 (z : Nat → Int32) (v : Int32) : (mo_fs z).set 11 (.int v) = mo_fs (upd z 11 v) := rfl
theorem mo_p12 (z : Nat → Int32) (v : Int32) : (mo_fs z).set 12 (.int v) = mo_fs (upd z 12 v) := rfl
theorem mo_p13 (z : Nat → Int32) (v : Int32) : (mo_fs z).set 13 (.int v) = mo_fs (upd z 13 v) := rfl
theorem mo_p14 (z : Nat → Int32) (v : Int32) : (mo_fs z).set 14 (.int v) = mo_fs (upd z 14 v) := rfl
theorem mo_p16 (z : Nat → Int32) (v : Int32) : (mo_fs z).set 16 (.int v) = mo_fs (upd z 16 v) := rfl
theorem mo_p18 (z : Nat → Int32) (v : Int32) : (mo_fs z).set 18 (.int v) = mo_fs (upd z 18 v) := rfl
theorem mo_len (z : Nat → Int32) : (mo_fs z).length = 25 := rfl
theorem md_us (f : Nat → Int32) (k : Nat) (v : Int32) : upd f k v k = v := if_pos rfl
theorem md_u {f : Nat → Int32} {j k : Nat} {v : Int32} (h : j ≠ k) : upd f k v j = f j := if_neg h
/-- numbers by their fields; the world; the rows: 0 image, 1 earlier, 2 trial, 3 acts, 4 tape, 5 five, 6 needs, 7 yearsMost, 8 canBe, 9 dreams, 10 bedsOf, 11 paired (value: whatever) -/
def mo_at (h : ab_H) (z w : Nat → Int32) (R : Nat → Nat → Int32) : Prop := h 3174 = some (.inl (10, mo_fs z)) ∧ h 3175 = some (.inr (0, 2024, .inl w)) ∧ (∃ V : Nat → Int32, h 3182 = some (.inr (0, 400, .inl V))) ∧ h 3176 = some (.inr (0, 1175, .inl (R 0))) ∧ h 3177 = some (.inr (0, 1175, .inl (R 1))) ∧ h 3178 = some (.inr (0, 326, .inl (R 2))) ∧ h 3179 = some (.inr (0, 3912, .inl (R 3))) ∧ h 3180 = some (.inr (1, 400, .inl (R 4))) ∧ h 3181 = some (.inr (0, 5, .inl (R 5))) ∧ h 3183 = some (.inr (0, 36, .inl (R 6))) ∧ h 3184 = some (.inr (0, 16576, .inl (R 7))) ∧ h 3185 = some (.inr (2, 36, .inl (R 8))) ∧ h 3186 = some (.inr (0, 216, .inl (R 9))) ∧ h 3187 = some (.inr (0, 6, .inl (R 10))) ∧ h 3188 = some (.inr (0, 64, .inl (R 11)))
def mo_rest (h h' : ab_H) : Prop := ∀ k, k < 3174 ∨ 3189 ≤ k → h' k = h k
theorem mo_rest.refl (h : ab_H) : mo_rest h h := fun _ _ => rfl
theorem mo_rest.trans {h h1 h2 : ab_H} (a : mo_rest h h1) (b : mo_rest h1 h2) : mo_rest h h2 := fun k hk => (b k hk).trans (a k hk)
theorem mo_rest.up {h h1 : ab_H} (a : mo_rest h h1) {k : Nat} (c : ab_C) (h2 : 3174 ≤ k) (h3 : k < 3189) : mo_rest h (ab_up h1 k c) := fun j hj => (ab_up_n _ _ (by omega)).trans (a j hj)
def upR (R : Nat → Nat → Int32) (j : Nat) (g : Nat → Int32) : Nat → Nat → Int32 := fun a => if a = j then g else R a
theorem upR_s (R : Nat → Nat → Int32) (j : Nat) (g : Nat → Int32) : upR R j g j = g := if_pos rfl
theorem upR_n {R : Nat → Nat → Int32} {j k : Nat} {g : Nat → Int32} (h : k ≠ j) : upR R j g k = R k := if_neg h
section MO
variable {h : ab_H} {z w : Nat → Int32} {R : Nat → Nat → Int32}
theorem mo_at.up0 (hM : mo_at h z w R) {z' : Nat → Int32} : mo_at (ab_up h 3174 (.inl (10, mo_fs z'))) z' w R := by
  obtain ⟨d0, d1, d2, d3, d4, d5, d6, d7, d8, d9, d10, d11, d12, d13, d14⟩ := hM
  exact ⟨ab_up_s _ _ _, (ab_up_n _ _ (by omega)).trans d1, (let ⟨V, q⟩ := d2; ⟨V, (ab_up_n _ _ (by omega)).trans q⟩), (ab_up_n _ _ (by omega)).trans d3, (ab_up_n _ _ (by omega)).trans d4, (ab_up_n _ _ (by omega)).trans d5, (ab_up_n _ _ (by omega)).trans d6, (ab_up_n _ _ (by omega)).trans d7, (ab_up_n _ _ (by omega)).trans d8, (ab_up_n _ _ (by omega)).trans d9, (ab_up_n _ _ (by omega)).trans d10, (ab_up_n _ _ (by omega)).trans d11, (ab_up_n _ _ (by omega)).trans d12, (ab_up_n _ _ (by omega)).trans d13, (ab_up_n _ _ (by omega)).trans d14⟩
theorem mo_at.upw (hM : mo_at h z w R) {w' : Nat → Int32} : mo_at (ab_up h 3175 (.inr (0, 2024, .inl w'))) z w' R := by
  obtain ⟨d0, d1, d2, d3, d4, d5, d6, d7, d8, d9, d10, d11, d12, d13, d14⟩ := hM
  exact ⟨(ab_up_n _ _ (by omega)).trans d0, ab_up_s _ _ _, (let ⟨V, q⟩ := d2; ⟨V, (ab_up_n _ _ (by omega)).trans q⟩), (ab_up_n _ _ (by omega)).trans d3, (ab_up_n _ _ (by omega)).trans d4, (ab_up_n _ _ (by omega)).trans d5, (ab_up_n _ _ (by omega)).trans d6, (ab_up_n _ _ (by omega)).trans d7, (ab_up_n _ _ (by omega)).trans d8, (ab_up_n _ _ (by omega)).trans d9, (ab_up_n _ _ (by omega)).trans d10, (ab_up_n _ _ (by omega)).trans d11, (ab_up_n _ _ (by omega)).trans d12, (ab_up_n _ _ (by omega)).trans d13, (ab_up_n _ _ (by omega)).trans d14⟩
theorem mo_at.upv (hM : mo_at h z w R) {V : Nat → Int32} : mo_at (ab_up h 3182 (.inr (0, 400, .inl V))) z w R := by
  obtain ⟨d0, d1, d2, d3, d4, d5, d6, d7, d8, d9, d10, d11, d12, d13, d14⟩ := hM
  exact ⟨(ab_up_n _ _ (by omega)).trans d0, (ab_up_n _ _ (by omega)).trans d1, ⟨V, ab_up_s _ _ _⟩, (ab_up_n _ _ (by omega)).trans d3, (ab_up_n _ _ (by omega)).trans d4, (ab_up_n _ _ (by omega)).trans d5, (ab_up_n _ _ (by omega)).trans d6, (ab_up_n _ _ (by omega)).trans d7, (ab_up_n _ _ (by omega)).trans d8, (ab_up_n _ _ (by omega)).trans d9, (ab_up_n _ _ (by omega)).trans d10, (ab_up_n _ _ (by omega)).trans d11, (ab_up_n _ _ (by omega)).trans d12, (ab_up_n _ _ (by omega)).trans d13, (ab_up_n _ _ (by omega)).trans d14⟩
theorem mo_at.r0 (hM : mo_at h z w R) : h 3176 = some (.inr (0, 1175, .inl (R 0))) := by
  obtain ⟨d0, d1, d2, d3, d4, d5, d6, d7, d8, d9, d10, d11, d12, d13, d14⟩ := hM
  exact d3
theorem mo_at.up_r0 (hM : mo_at h z w R) {g : Nat → Int32} : mo_at (ab_up h 3176 (.inr (0, 1175, .inl g))) z w (upR R 0 g) := by
  obtain ⟨d0, d1, d2, d3, d4, d5, d6, d7, d8, d9, d10, d11, d12, d13, d14⟩ := hM
  exact ⟨(ab_up_n _ _ (by omega)).trans d0, (ab_up_n _ _ (by omega)).trans d1, (let ⟨V, q⟩ := d2; ⟨V, (ab_up_n _ _ (by omega)).trans q⟩), ab_up_s _ _ _, (ab_up_n _ _ (by omega)).trans d4, (ab_up_n _ _ (by omega)).trans d5, (ab_up_n _ _ (by omega)).trans d6, (ab_up_n _ _ (by omega)).trans d7, (ab_up_n _ _ (by omega)).trans d8, (ab_up_n _ _ (by omega)).trans d9, (ab_up_n _ _ (by omega)).trans d10, (ab_up_n _ _ (by omega)).trans d11, (ab_up_n _ _ (by omega)).trans d12, (ab_up_n _ _ (by omega)).trans d13, (ab_up_n _ _ (by omega)).trans d14⟩
theorem mo_at.r1 (hM : mo_at h z w R) : h 3177 = some (.inr (0, 1175, .inl (R 1))) := by
  obtain ⟨d0, d1, d2, d3, d4, d5, d6, d7, d8, d9, d10, d11, d12, d13, d14⟩ := hM
  exact d4
theorem mo_at.up_r1 (hM : mo_at h z w R) {g : Nat → Int32} : mo_at (ab_up h 3177 (.inr (0, 1175, .inl g))) z w (upR R 1 g) := by
  obtain ⟨d0, d1, d2, d3, d4, d5, d6, d7, d8, d9, d10, d11, d12, d13, d14⟩ := hM
  exact ⟨(ab_up_n _ _ (by omega)).trans d0, (ab_up_n _ _ (by omega)).trans d1, (let ⟨V, q⟩ := d2; ⟨V, (ab_up_n _ _ (by omega)).trans q⟩), (ab_up_n _ _ (by omega)).trans d3, ab_up_s _ _ _, (ab_up_n _ _ (by omega)).trans d5, (ab_up_n _ _ (by omega)).trans d6, (ab_up_n _ _ (by omega)).trans d7, (ab_up_n _ _ (by omega)).trans d8, (ab_up_n _ _ (by omega)).trans d9, (ab_up_n _ _ (by omega)).trans d10, (ab_up_n _ _ (by omega)).trans d11, (ab_up_n _ _ (by omega)).trans d12, (ab_up_n _ _ (by omega)).trans d13, (ab_up_n _ _ (by omega)).trans d14⟩
theorem mo_at.r2 (hM : mo_at h z w R) : h 3178 = some (.inr (0, 326, .inl (R 2))) := by
  obtain ⟨d0, d1, d2, d3, d4, d5, d6, d7, d8, d9, d10, d11, d12, d13, d14⟩ := hM
  exact d5
theorem mo_at.up_r2 (hM : mo_at h z w R) {g : Nat → Int32} : mo_at (ab_up h 3178 (.inr (0, 326, .inl g))) z w (upR R 2 g) := by
  obtain ⟨d0, d1, d2, d3, d4, d5, d6, d7, d8, d9, d10, d11, d12, d13, d14⟩ := hM
  exact ⟨(ab_up_n _ _ (by omega)).trans d0, (ab_up_n _ _ (by omega)).trans d1, (let ⟨V, q⟩ := d2; ⟨V, (ab_up_n _ _ (by omega)).trans q⟩), (ab_up_n _ _ (by omega)).trans d3, (ab_up_n _ _ (by omega)).trans d4, ab_up_s _ _ _, (ab_up_n _ _ (by omega)).trans d6, (ab_up_n _ _ (by omega)).trans d7, (ab_up_n _ _ (by omega)).trans d8, (ab_up_n _ _ (by omega)).trans d9, (ab_up_n _ _ (by omega)).trans d10, (ab_up_n _ _ (by omega)).trans d11, (ab_up_n _ _ (by omega)).trans d12, (ab_up_n _ _ (by omega)).trans d13, (ab_up_n _ _ (by omega)).trans d14⟩
theorem mo_at.r3 (hM : mo_at h z w R) : h 3179 = some (.inr (0, 3912, .inl (R 3))) := by
  obtain ⟨d0, d1, d2, d3, d4, d5, d6, d7, d8, d9, d10, d11, d12, d13, d14⟩ := hM
  exact d6
theorem mo_at.up_r3 (hM : mo_at h z w R) {g : Nat → Int32} : mo_at (ab_up h 3179 (.inr (0, 3912, .inl g))) z w (upR R 3 g) := by
  obtain ⟨d0, d1, d2, d3, d4, d5, d6, d7, d8, d9, d10, d11, d12, d13, d14⟩ := hM
  exact ⟨(ab_up_n _ _ (by omega)).trans d0, (ab_up_n _ _ (by omega)).trans d1, (let ⟨V, q⟩ := d2; ⟨V, (ab_up_n _ _ (by omega)).trans q⟩), (ab_up_n _ _ (by omega)).trans d3, (ab_up_n _ _ (by omega)).trans d4, (ab_up_n _ _ (by omega)).trans d5, ab_up_s _ _ _, (ab_up_n _ _ (by omega)).trans d7, (ab_up_n _ _ (by omega)).trans d8, (ab_up_n _ _ (by omega)).trans d9, (ab_up_n _ _ (by omega)).trans d10, (ab_up_n _ _ (by omega)).trans d11, (ab_up_n _ _ (by omega)).trans d12, (ab_up_n _ _ (by omega)).trans d13, (ab_up_n _ _ (by omega)).trans d14⟩
theorem mo_at.r4 (hM : mo_at h z w R) : h 3180 = some (.inr (1, 400, .inl (R 4))) := by
  obtain ⟨d0, d1, d2, d3, d4, d5, d6, d7, d8, d9, d10, d11, d12, d13, d14⟩ := hM
  exact d7
theorem mo_at.up_r4 (hM : mo_at h z w R) {g : Nat → Int32} : mo_at (ab_up h 3180 (.inr (1, 400, .inl g))) z w (upR R 4 g) := by
  obtain ⟨d0, d1, d2, d3, d4, d5, d6, d7, d8, d9, d10, d11, d12, d13, d14⟩ := hM
  exact ⟨(ab_up_n _ _ (by omega)).trans d0, (ab_up_n _ _ (by omega)).trans d1, (let ⟨V, q⟩ := d2; ⟨V, (ab_up_n _ _ (by omega)).trans q⟩), (ab_up_n _ _ (by omega)).trans d3, (ab_up_n _ _ (by omega)).trans d4, (ab_up_n _ _ (by omega)).trans d5, (ab_up_n _ _ (by omega)).trans d6, ab_up_s _ _ _, (ab_up_n _ _ (by omega)).trans d8, (ab_up_n _ _ (by omega)).trans d9, (ab_up_n _ _ (by omega)).trans d10, (ab_up_n _ _ (by omega)).trans d11, (ab_up_n _ _ (by omega)).trans d12, (ab_up_n _ _ (by omega)).trans d13, (ab_up_n _ _ (by omega)).trans d14⟩
theorem mo_at.r5 (hM : mo_at h z w R) : h 3181 = some (.inr (0, 5, .inl (R 5))) := by
  obtain ⟨d0, d1, d2, d3, d4, d5, d6, d7, d8, d9, d10, d11, d12, d13, d14⟩ := hM
  exact d8
theorem mo_at.up_r5 (hM : mo_at h z w R) {g : Nat → Int32} : mo_at (ab_up h 3181 (.inr (0, 5, .inl g))) z w (upR R 5 g) := by
  obtain ⟨d0, d1, d2, d3, d4, d5, d6, d7, d8, d9, d10, d11, d12, d13, d14⟩ := hM
  exact ⟨(ab_up_n _ _ (by omega)).trans d0, (ab_up_n _ _ (by omega)).trans d1, (let ⟨V, q⟩ := d2; ⟨V, (ab_up_n _ _ (by omega)).trans q⟩), (ab_up_n _ _ (by omega)).trans d3, (ab_up_n _ _ (by omega)).trans d4, (ab_up_n _ _ (by omega)).trans d5, (ab_up_n _ _ (by omega)).trans d6, (ab_up_n _ _ (by omega)).trans d7, ab_up_s _ _ _, (ab_up_n _ _ (by omega)).trans d9, (ab_up_n _ _ (by omega)).trans d10, (ab_up_n _ _ (by omega)).trans d11, (ab_up_n _ _ (by omega)).trans d12, (ab_up_n _ _ (by omega)).trans d13, (ab_up_n _ _ (by omega)).trans d14⟩
theorem mo_at.r6 (hM : mo_at h z w R) : h 3183 = some (.inr (0, 36, .inl (R 6))) := by
  obtain ⟨d0, d1, d2, d3, d4, d5, d6, d7, d8, d9, d10, d11, d12, d13, d14⟩ := hM
  exact d9
theorem mo_at.up_r6 (hM : mo_at h z w R) {g : Nat → Int32} : mo_at (ab_up h 3183 (.inr (0, 36, .inl g))) z w (upR R 6 g) := by
  obtain ⟨d0, d1, d2, d3, d4, d5, d6, d7, d8, d9, d10, d11, d12, d13, d14⟩ := hM
  exact ⟨(ab_up_n _ _ (by omega)).trans d0, (ab_up_n _ _ (by omega)).trans d1, (let ⟨V, q⟩ := d2; ⟨V, (ab_up_n _ _ (by omega)).trans q⟩), (ab_up_n _ _ (by omega)).trans d3, (ab_up_n _ _ (by omega)).trans d4, (ab_up_n _ _ (by omega)).trans d5, (ab_up_n _ _ (by omega)).trans d6, (ab_up_n _ _ (by omega)).trans d7, (ab_up_n _ _ (by omega)).trans d8, ab_up_s _ _ _, (ab_up_n _ _ (by omega)).trans d10, (ab_up_n _ _ (by omega)).trans d11, (ab_up_n _ _ (by omega)).trans d12, (ab_up_n _ _ (by omega)).trans d13, (ab_up_n _ _ (by omega)).trans d14⟩
theorem mo_at.r7 (hM : mo_at h z w R) : h 3184 = some (.inr (0, 16576, .inl (R 7))) := by
  obtain ⟨d0, d1, d2, d3, d4, d5, d6, d7, d8, d9, d10, d11, d12, d13, d14⟩ := hM
  exact d10
theorem mo_at.up_r7 (hM : mo_at h z w R) {g : Nat → Int32} : mo_at (ab_up h 3184 (.inr (0, 16576, .inl g))) z w (upR R 7 g) := by
  obtain ⟨d0, d1, d2, d3, d4, d5, d6, d7, d8, d9, d10, d11, d12, d13, d14⟩ := hM
  exact ⟨(ab_up_n _ _ (by omega)).trans d0, (ab_up_n _ _ (by omega)).trans d1, (let ⟨V, q⟩ := d2; ⟨V, (ab_up_n _ _ (by omega)).trans q⟩), (ab_up_n _ _ (by omega)).trans d3, (ab_up_n _ _ (by omega)).trans d4, (ab_up_n _ _ (by omega)).trans d5, (ab_up_n _ _ (by omega)).trans d6, (ab_up_n _ _ (by omega)).trans d7, (ab_up_n _ _ (by omega)).trans d8, (ab_up_n _ _ (by omega)).trans d9, ab_up_s _ _ _, (ab_up_n _ _ (by omega)).trans d11, (ab_up_n _ _ (by omega)).trans d12, (ab_up_n _ _ (by omega)).trans d13, (ab_up_n _ _ (by omega)).trans d14⟩
theorem mo_at.r8 (hM : mo_at h z w R) : h 3185 = some (.inr (2, 36, .inl (R 8))) := by
  obtain ⟨d0, d1, d2, d3, d4, d5, d6, d7, d8, d9, d10, d11, d12, d13, d14⟩ := hM
  exact d11
theorem mo_at.up_r8 (hM : mo_at h z w R) {g : Nat → Int32} : mo_at (ab_up h 3185 (.inr (2, 36, .inl g))) z w (upR R 8 g) := by
  obtain ⟨d0, d1, d2, d3, d4, d5, d6, d7, d8, d9, d10, d11, d12, d13, d14⟩ := hM
  exact ⟨(ab_up_n _ _ (by omega)).trans d0, (ab_up_n _ _ (by omega)).trans d1, (let ⟨V, q⟩ := d2; ⟨V, (ab_up_n _ _ (by omega)).trans q⟩), (ab_up_n _ _ (by omega)).trans d3, (ab_up_n _ _ (by omega)).trans d4, (ab_up_n _ _ (by omega)).trans d5, (ab_up_n _ _ (by omega)).trans d6, (ab_up_n _ _ (by omega)).trans d7, (ab_up_n _ _ (by omega)).trans d8, (ab_up_n _ _ (by omega)).trans d9, (ab_up_n _ _ (by omega)).trans d10, ab_up_s _ _ _, (ab_up_n _ _ (by omega)).trans d12, (ab_up_n _ _ (by omega)).trans d13, (ab_up_n _ _ (by omega)).trans d14⟩
theorem mo_at.r9 (hM : mo_at h z w R) : h 3186 = some (.inr (0, 216, .inl (R 9))) := by
  obtain ⟨d0, d1, d2, d3, d4, d5, d6, d7, d8, d9, d10, d11, d12, d13, d14⟩ := hM
  exact d12
theorem mo_at.up_r9 (hM : mo_at h z w R) {g : Nat → Int32} : mo_at (ab_up h 3186 (.inr (0, 216, .inl g))) z w (upR R 9 g) := by
  obtain ⟨d0, d1, d2, d3, d4, d5, d6, d7, d8, d9, d10, d11, d12, d13, d14⟩ := hM
  exact ⟨(ab_up_n _ _ (by omega)).trans d0, (ab_up_n _ _ (by omega)).trans d1, (let ⟨V, q⟩ := d2; ⟨V, (ab_up_n _ _ (by omega)).trans q⟩), (ab_up_n _ _ (by omega)).trans d3, (ab_up_n _ _ (by omega)).trans d4, (ab_up_n _ _ (by omega)).trans d5, (ab_up_n _ _ (by omega)).trans d6, (ab_up_n _ _ (by omega)).trans d7, (ab_up_n _ _ (by omega)).trans d8, (ab_up_n _ _ (by omega)).trans d9, (ab_up_n _ _ (by omega)).trans d10, (ab_up_n _ _ (by omega)).trans d11, ab_up_s _ _ _, (ab_up_n _ _ (by omega)).trans d13, (ab_up_n _ _ (by omega)).trans d14⟩
theorem mo_at.r10 (hM : mo_at h z w R) : h 3187 = some (.inr (0, 6, .inl (R 10))) := by
  obtain ⟨d0, d1, d2, d3, d4, d5, d6, d7, d8, d9, d10, d11, d12, d13, d14⟩ := hM
  exact d13
theorem mo_at.up_r10 (hM : mo_at h z w R) {g : Nat → Int32} : mo_at (ab_up h 3187 (.inr (0, 6, .inl g))) z w (upR R 10 g) := by
  obtain ⟨d0, d1, d2, d3, d4, d5, d6, d7, d8, d9, d10, d11, d12, d13, d14⟩ := hM
  exact ⟨(ab_up_n _ _ (by omega)).trans d0, (ab_up_n _ _ (by omega)).trans d1, (let ⟨V, q⟩ := d2; ⟨V, (ab_up_n _ _ (by omega)).trans q⟩), (ab_up_n _ _ (by omega)).trans d3, (ab_up_n _ _ (by omega)).trans d4, (ab_up_n _ _ (by omega)).trans d5, (ab_up_n _ _ (by omega)).trans d6, (ab_up_n _ _ (by omega)).trans d7, (ab_up_n _ _ (by omega)).trans d8, (ab_up_n _ _ (by omega)).trans d9, (ab_up_n _ _ (by omega)).trans d10, (ab_up_n _ _ (by omega)).trans d11, (ab_up_n _ _ (by omega)).trans d12, ab_up_s _ _ _, (ab_up_n _ _ (by omega)).trans d14⟩
theorem mo_at.r11 (hM : mo_at h z w R) : h 3188 = some (.inr (0, 64, .inl (R 11))) := by
  obtain ⟨d0, d1, d2, d3, d4, d5, d6, d7, d8, d9, d10, d11, d12, d13, d14⟩ := hM
  exact d14
theorem mo_at.up_r11 (hM : mo_at h z w R) {g : Nat → Int32} : mo_at (ab_up h 3188 (.inr (0, 64, .inl g))) z w (upR R 11 g) := by
  obtain ⟨d0, d1, d2, d3, d4, d5, d6, d7, d8, d9, d10, d11, d12, d13, d14⟩ := hM
  exact ⟨(ab_up_n _ _ (by omega)).trans d0, (ab_up_n _ _ (by omega)).trans d1, (let ⟨V, q⟩ := d2; ⟨V, (ab_up_n _ _ (by omega)).trans q⟩), (ab_up_n _ _ (by omega)).trans d3, (ab_up_n _ _ (by omega)).trans d4, (ab_up_n _ _ (by omega)).trans d5, (ab_up_n _ _ (by omega)).trans d6, (ab_up_n _ _ (by omega)).trans d7, (ab_up_n _ _ (by omega)).trans d8, (ab_up_n _ _ (by omega)).trans d9, (ab_up_n _ _ (by omega)).trans d10, (ab_up_n _ _ (by omega)).trans d11, (ab_up_n _ _ (by omega)).trans d12, (ab_up_n _ _ (by omega)).trans d13, ab_up_s _ _ _⟩
end MO
/-- what a method of the Model leaves -/
def mq (nx : Nat) (h : ab_H) (v : Option Value) (z w : Nat → Int32) (R : Nat → Nat → Int32) : ab_P := fun r nx' h' => r = .inl v ∧ nx' = nx ∧ mo_at h' z w R ∧ mo_rest h h'
section BV
variable {M M' : ab_M} {post post' : ab_P} {cu su pc : Nat} {ls : List (Option Value)} {st rest : List Value} {nx : Nat} {h h0 : ab_H} {J t : List ab_E} {c0 f0 : Nat} {z w z' w' : Nat → Int32} {R R' : Nat → Nat → Int32}
theorem bv_q {idx : Nat} {As : List Value} {v : Option Value} (hcon : ab_Con M' (.ref 3174 :: As) nx h (mq nx h v z' w' R')) (hok : ab_cd M 0 J) (hJ : ab_dr pc J = (pc, .invokevirtual idx, 3, c0, f0) :: t) (hl : ab_lv M.1.cls idx M' As.length) (hb : h 3174 = some (.inl (10, mo_fs z))) (hci : vwCl[10]?.map (fun q => q.1) = some M'.1.cls) (hf : ab_fitb M M' cu su rest = true) (hz : M'.2.2.2.2.2 = (0, 0)) (hst : st = As.reverse ++ .ref 3174 :: rest) (hR : mo_rest h0 h)
    (k : ∀ h1, mo_at h1 z' w' R' → mo_rest h0 h1 → ab_V M post cu su (pc + 3) ls (v.toList ++ rest) nx h1) : ab_V M post cu su pc ls st nx h := by
  refine bv_v hcon hok hJ hl hb hci hf hst ?_
  rintro _ nx1 h1 ⟨rfl, rfl, q1, q2⟩
  have hz1 : M'.2.2.2.2.2.1 = 0 := by rw [hz]
  have hz2 : M'.2.2.2.2.2.2 = 0 := by rw [hz]
  show ab_V M post (cu + M'.2.2.2.2.2.1) (su + M'.2.2.2.2.2.2) (pc + 3) ls _ _ _
  rw [hz1, hz2]
  exact k h1 q1 (hR.trans q2)
theorem mo_gz (hM : mo_at h z w R) (hR : mo_rest h0 h) (k : ∀ h1, mo_at h1 z' w R → mo_rest h0 h1 → ab_V M post cu su pc ls st nx h1) : ab_V M post cu su pc ls st nx (ab_up h 3174 (.inl (10, mo_fs z'))) := k _ hM.up0 (hR.up _ (by omega) (by omega))
theorem mo_gw (hM : mo_at h z w R) (hR : mo_rest h0 h) (k : ∀ h1, mo_at h1 z w' R → mo_rest h0 h1 → ab_V M post cu su pc ls st nx h1) : ab_V M post cu su pc ls st nx (ab_up h 3175 (.inr (0, 2024, .inl w'))) := k _ hM.upw (hR.up _ (by omega) (by omega))
theorem mo_gen (hM : mo_at h z w R) (hR : mo_rest h0 h) (k : ∀ h1, mo_at h1 z w R → mo_rest h0 h1 → ab_V M post cu su pc ls st nx h1) : ab_V M post cu su pc ls st nx h := k h hM hR
end BV
/-! the world: a Fort laid in one row -/
def wA (b : Nat) (S : fs) (k : Nat) : Int32 := if k = 0 then nI (S.1 0) else if k = 1 then nI (S.1 1) else if k = 2 then nI (S.1 2) else if k = 3 then nI b else if k = 4 then nI (S.1 4) else if k = 5 then nI (S.1 3) else if k = 6 then nI (S.1 16) else S.2.2
def wP (S : fs) (p c : Nat) : Int32 := if c = 0 then nI (S.2.1 8 p) else if c = 1 then nI (S.2.1 9 p) else nI ((S.1 6).testBit p).toNat
def wS (S : fs) (s c : Nat) : Int32 := if c = 0 then nI (S.2.1 10 s) else if c = 1 then nI (S.2.1 11 s) else if c = 2 then nI ((S.1 7).testBit s).toNat else nI (S.2.1 12 s)
def wC (b : Nat) (S : fs) (B : Nat → Int32) (k : Nat) : Int32 := if k < 8 then wA b S k else if k < 44 then nI (S.2.1 13 (k - 8)) else if k < 62 then wP S ((k - 44) / 3) ((k - 44) % 3) else if k < 86 then wS S ((k - 62) / 4) ((k - 62) % 4) else if k < 326 then nI (lgE S ((k - 86) / 4) ((k - 86) % 4)) else B k
section WC
variable {b : Nat} {S : fs} {B : Nat → Int32}
theorem wC_0 : wC b S B 0 = nI (S.1 0) := rfl
theorem wC_1 : wC b S B 1 = nI (S.1 1) := rfl
theorem wC_2 : wC b S B 2 = nI (S.1 2) := rfl
theorem wC_3 : wC b S B 3 = nI b := rfl
theorem wC_4 : wC b S B 4 = nI (S.1 4) := rfl
theorem wC_5 : wC b S B 5 = nI (S.1 3) := rfl
theorem wC_6 : wC b S B 6 = nI (S.1 16) := rfl
theorem wC_7 : wC b S B 7 = S.2.2 := rfl
theorem wC_t {s p : Nat} (hs : s < 6) (hp : p < 6) : wC b S B (8 + 6 * s + p) = nI (fo_told S s p) := by
  unfold wC
  rw [if_neg (by omega), if_pos (by omega), show 8 + 6 * s + p - 8 = s * 6 + p by omega]
  rfl
theorem wC_p {p c : Nat} (hp : p < 6) (hc : c < 3) : wC b S B (44 + 3 * p + c) = wP S p c := by
  unfold wC
  rw [if_neg (by omega), if_neg (by omega), if_pos (by omega), show (44 + 3 * p + c - 44) / 3 = p by omega, show (44 + 3 * p + c - 44) % 3 = c by omega]
theorem wC_s {s c : Nat} (hs : s < 6) (hc : c < 4) : wC b S B (62 + 4 * s + c) = wS S s c := by
  unfold wC
  rw [if_neg (by omega), if_neg (by omega), if_neg (by omega), if_pos (by omega), show (62 + 4 * s + c - 62) / 4 = s by omega, show (62 + 4 * s + c - 62) % 4 = c by omega]
theorem wC_l {r c : Nat} (hr : r < 60) (hc : c < 4) : wC b S B (86 + 4 * r + c) = nI (lgE S r c) := by
  unfold wC
  rw [if_neg (by omega), if_neg (by omega), if_neg (by omega), if_neg (by omega), if_pos (by omega), show (86 + 4 * r + c - 86) / 4 = r by omega, show (86 + 4 * r + c - 86) % 4 = c by omega]
theorem wC_B {k : Nat} (hk : 326 ≤ k) : wC b S B k = B k := by
  unfold wC
  rw [if_neg (by omega), if_neg (by omega), if_neg (by omega), if_neg (by omega), if_neg (by omega)]
theorem wC_lt {k : Nat} (hk : k < 326) {B' : Nat → Int32} : wC b S B k = wC b S B' k := by
  unfold wC
  by_cases h1 : k < 8
  · rw [if_pos h1, if_pos h1]
  by_cases h2 : k < 44
  · rw [if_neg h1, if_neg h1, if_pos h2, if_pos h2]
  by_cases h3 : k < 62
  · rw [if_neg h1, if_neg h1, if_neg h2, if_neg h2, if_pos h3, if_pos h3]
  by_cases h4 : k < 86
  · rw [if_neg h1, if_neg h1, if_neg h2, if_neg h2, if_neg h3, if_neg h3, if_pos h4, if_pos h4]
  · rw [if_neg h1, if_neg h1, if_neg h2, if_neg h2, if_neg h3, if_neg h3, if_neg h4, if_neg h4, if_pos hk, if_pos hk]
/-! writing into it -/
/-- two worlds alike but for one cell -/
theorem wC_upd {S' : fs} {B' : Nat → Int32} {b' i : Nat} {v : Int32} (hi : wC b' S' B' i = v) (h1 : ∀ k, k < 8 → k ≠ i → wA b S k = wA b' S' k) (h2 : ∀ k, k < 36 → k + 8 ≠ i → S.2.1 13 k = S'.2.1 13 k) (h3 : ∀ p c, p < 6 → c < 3 → 44 + 3 * p + c ≠ i → wP S p c = wP S' p c) (h4 : ∀ s c, s < 6 → c < 4 → 62 + 4 * s + c ≠ i → wS S s c = wS S' s c) (h5 : ∀ r c, r < 60 → c < 4 → 86 + 4 * r + c ≠ i → lgE S r c = lgE S' r c) (h6 : ∀ k, 326 ≤ k → k ≠ i → B k = B' k) : upd (wC b S B) i v = wC b' S' B' := by
  funext k
  unfold upd
  by_cases hk : k = i
  · rw [if_pos hk, hk, hi]
  rw [if_neg hk]
  unfold wC
  by_cases g1 : k < 8
  · rw [if_pos g1, if_pos g1, h1 k g1 hk]
  rw [if_neg g1, if_neg g1]
  by_cases g2 : k < 44
  · rw [if_pos g2, if_pos g2, h2 (k - 8) (by omega) (by omega)]
  rw [if_neg g2, if_neg g2]
  by_cases g3 : k < 62
  · rw [if_pos g3, if_pos g3, h3 ((k - 44) / 3) ((k - 44) % 3) (by omega) (by omega) (by omega)]
  rw [if_neg g3, if_neg g3]
  by_cases g4 : k < 86
  · rw [if_pos g4, if_pos g4, h4 ((k - 62) / 4) ((k - 62) % 4) (by omega) (by omega) (by omega)]
  rw [if_neg g4, if_neg g4]
  by_cases g5 : k < 326
  · rw [if_pos g5, if_pos g5, h5 ((k - 86) / 4) ((k - 86) % 4) (by omega) (by omega) (by omega)]
  rw [if_neg g5, if_neg g5, h6 k (by omega) hk]
theorem wC_ut {s p v : Nat} (hs : s < 6) (hp : p < 6) : upd (wC b S B) (8 + 6 * s + p) (nI v) = wC b (fo_sr S 13 (s * 6 + p) v) B := by
  refine wC_upd ?_ (fun _ _ _ => rfl) (fun k h1 h2 => ?_) (fun _ _ _ _ _ => rfl) (fun _ _ _ _ _ => rfl) (fun _ _ _ _ _ => rfl) (fun _ _ _ => rfl)
  · rw [wC_t hs hp]
    show nI (if (13 : Nat) = 13 ∧ s * 6 + p = s * 6 + p then v else _) = nI v
    rw [if_pos ⟨rfl, rfl⟩]
  · show _ = if (13 : Nat) = 13 ∧ k = s * 6 + p then v else _
    rw [if_neg (by omega)]
theorem wC_usd {x : Int32} : upd (wC b S B) 7 x = wC b (fo_sd S x) B := by
  refine wC_upd rfl (fun k h1 h2 => ?_) (fun k h1 h2 => rfl) (fun _ _ _ _ _ => rfl) (fun _ _ _ _ _ => rfl) (fun _ _ _ _ _ => rfl) (fun _ _ _ => rfl)
  rcases (show k = 0 ∨ k = 1 ∨ k = 2 ∨ k = 3 ∨ k = 4 ∨ k = 5 ∨ k = 6 by omega) with rfl | rfl | rfl | rfl | rfl | rfl | rfl <;> rfl
theorem wC_u4 {v : Nat} : upd (wC b S B) 4 (nI v) = wC b (fo_s1 S 4 v) B := by
  refine wC_upd rfl (fun k h1 h2 => ?_) (fun k h1 h2 => rfl) (fun _ _ _ _ _ => rfl) (fun _ _ _ _ _ => rfl) (fun _ _ _ _ _ => rfl) (fun _ _ _ => rfl)
  rcases (show k = 0 ∨ k = 1 ∨ k = 2 ∨ k = 3 ∨ k = 5 ∨ k = 6 ∨ k = 7 by omega) with rfl | rfl | rfl | rfl | rfl | rfl | rfl <;> rfl
theorem wC_u5 {v : Nat} : upd (wC b S B) 5 (nI v) = wC b (fo_s1 S 3 v) B := by
  refine wC_upd rfl (fun k h1 h2 => ?_) (fun k h1 h2 => rfl) (fun _ _ _ _ _ => rfl) (fun _ _ _ _ _ => rfl) (fun _ _ _ _ _ => rfl) (fun _ _ _ => rfl)
  rcases (show k = 0 ∨ k = 1 ∨ k = 2 ∨ k = 3 ∨ k = 4 ∨ k = 6 ∨ k = 7 by omega) with rfl | rfl | rfl | rfl | rfl | rfl | rfl <;> rfl
theorem wC_u2 {v : Nat} : upd (wC b S B) 2 (nI v) = wC b (fo_s1 S 2 v) B := by
  refine wC_upd rfl (fun k h1 h2 => ?_) (fun k h1 h2 => rfl) (fun _ _ _ _ _ => rfl) (fun _ _ _ _ _ => rfl) (fun _ _ _ _ _ => rfl) (fun _ _ _ => rfl)
  rcases (show k = 0 ∨ k = 1 ∨ k = 3 ∨ k = 4 ∨ k = 5 ∨ k = 6 ∨ k = 7 by omega) with rfl | rfl | rfl | rfl | rfl | rfl | rfl <;> rfl
theorem wC_u3 {v : Nat} : upd (wC b S B) 3 (nI v) = wC v S B := by
  refine wC_upd rfl (fun k h1 h2 => ?_) (fun k h1 h2 => rfl) (fun _ _ _ _ _ => rfl) (fun _ _ _ _ _ => rfl) (fun _ _ _ _ _ => rfl) (fun _ _ _ => rfl)
  rcases (show k = 0 ∨ k = 1 ∨ k = 2 ∨ k = 4 ∨ k = 5 ∨ k = 6 ∨ k = 7 by omega) with rfl | rfl | rfl | rfl | rfl | rfl | rfl <;> rfl
theorem wC_u0 {v : Nat} : upd (wC b S B) 0 (nI v) = wC b (fo_s1 S 0 v) B := by
  refine wC_upd rfl (fun k h1 h2 => ?_) (fun k h1 h2 => rfl) (fun _ _ _ _ _ => rfl) (fun _ _ _ _ _ => rfl) (fun _ _ _ _ _ => rfl) (fun _ _ _ => rfl)
  rcases (show k = 1 ∨ k = 2 ∨ k = 3 ∨ k = 4 ∨ k = 5 ∨ k = 6 ∨ k = 7 by omega) with rfl | rfl | rfl | rfl | rfl | rfl | rfl <;> rfl
theorem wC_u1 {v : Nat} : upd (wC b S B) 1 (nI v) = wC b (fo_s1 S 1 v) B := by
  refine wC_upd rfl (fun k h1 h2 => ?_) (fun k h1 h2 => rfl) (fun _ _ _ _ _ => rfl) (fun _ _ _ _ _ => rfl) (fun _ _ _ _ _ => rfl) (fun _ _ _ => rfl)
  rcases (show k = 0 ∨ k = 2 ∨ k = 3 ∨ k = 4 ∨ k = 5 ∨ k = 6 ∨ k = 7 by omega) with rfl | rfl | rfl | rfl | rfl | rfl | rfl <;> rfl
/-- years, marks -/
theorem wC_uy {p v : Nat} (hp : p < 6) : upd (wC b S B) (44 + 3 * p + 0) (nI v) = wC b (fo_sr S 8 p v) B := by
  refine wC_upd ?_ (fun _ _ _ => rfl) (fun k h1 h2 => rfl) (fun q c h1 h2 h3 => ?_) (fun _ _ _ _ _ => rfl) (fun _ _ _ _ _ => rfl) (fun _ _ _ => rfl)
  · rw [wC_p hp (by omega)]
    show nI (if (8 : Nat) = 8 ∧ p = p then v else _) = nI v
    rw [if_pos ⟨rfl, rfl⟩]
  · rcases (show c = 0 ∨ c = 1 ∨ c = 2 by omega) with rfl | rfl | rfl
    · show _ = nI (if (8 : Nat) = 8 ∧ q = p then v else _)
      rw [if_neg (by omega)]
      rfl
    · rfl
    · rfl
theorem wC_um {p v : Nat} (hp : p < 6) : upd (wC b S B) (44 + 3 * p + 1) (nI v) = wC b (fo_sr S 9 p v) B := by
  refine wC_upd ?_ (fun _ _ _ => rfl) (fun k h1 h2 => rfl) (fun q c h1 h2 h3 => ?_) (fun _ _ _ _ _ => rfl) (fun _ _ _ _ _ => rfl) (fun _ _ _ => rfl)
  · rw [wC_p hp (by omega)]
    show nI (if (9 : Nat) = 9 ∧ p = p then v else _) = nI v
    rw [if_pos ⟨rfl, rfl⟩]
  · rcases (show c = 0 ∨ c = 1 ∨ c = 2 by omega) with rfl | rfl | rfl
    · rfl
    · show _ = nI (if (9 : Nat) = 9 ∧ q = p then v else _)
      rw [if_neg (by omega)]
      rfl
    · rfl
theorem wC_uo {p v x : Nat} (hp : p < 6) (hx : ∀ q, q < 6 → x.testBit q = if q = p then decide (v = 1) else (S.1 6).testBit q) (hv : v ≤ 1) : upd (wC b S B) (44 + 3 * p + 2) (nI v) = wC b (fo_s1 S 6 x) B := by
  refine wC_upd ?_ (fun k h1 h2 => ?_) (fun k h1 h2 => rfl) (fun q c h1 h2 h3 => ?_) (fun _ _ _ _ _ => rfl) (fun _ _ _ _ _ => rfl) (fun _ _ _ => rfl)
  · rw [wC_p hp (by omega)]
    show nI (x.testBit p).toNat = nI v
    rw [hx p hp, if_pos rfl]
    rcases (show v = 0 ∨ v = 1 by omega) with rfl | rfl <;> rfl
  · rcases (show k = 0 ∨ k = 1 ∨ k = 2 ∨ k = 3 ∨ k = 4 ∨ k = 5 ∨ k = 6 ∨ k = 7 by omega) with rfl | rfl | rfl | rfl | rfl | rfl | rfl | rfl <;> rfl
  · rcases (show c = 0 ∨ c = 1 ∨ c = 2 by omega) with rfl | rfl | rfl
    · rfl
    · rfl
    · show nI ((S.1 6).testBit q).toNat = nI (x.testBit q).toNat
      rw [hx q h1, if_neg (by omega)]
theorem wC_us {s v : Nat} (hs : s < 6) : upd (wC b S B) (62 + 4 * s + 0) (nI v) = wC b (fo_sr S 10 s v) B := by
  refine wC_upd ?_ (fun _ _ _ => rfl) (fun k h1 h2 => rfl) (fun _ _ _ _ _ => rfl) (fun q c h1 h2 h3 => ?_) (fun _ _ _ _ _ => rfl) (fun _ _ _ => rfl)
  · rw [wC_s hs (by omega)]
    show nI (if (10 : Nat) = 10 ∧ s = s then v else _) = nI v
    rw [if_pos ⟨rfl, rfl⟩]
  · rcases (show c = 0 ∨ c = 1 ∨ c = 2 ∨ c = 3 by omega) with rfl | rfl | rfl | rfl
    · show _ = nI (if (10 : Nat) = 10 ∧ q = s then v else _)
      rw [if_neg (by omega)]
      rfl
    · rfl
    · rfl
    · rfl
theorem wC_uc {s v : Nat} (hs : s < 6) : upd (wC b S B) (62 + 4 * s + 1) (nI v) = wC b (fo_sr S 11 s v) B := by
  refine wC_upd ?_ (fun _ _ _ => rfl) (fun k h1 h2 => rfl) (fun _ _ _ _ _ => rfl) (fun q c h1 h2 h3 => ?_) (fun _ _ _ _ _ => rfl) (fun _ _ _ => rfl)
  · rw [wC_s hs (by omega)]
    show nI (if (11 : Nat) = 11 ∧ s = s then v else _) = nI v
    rw [if_pos ⟨rfl, rfl⟩]
  · rcases (show c = 0 ∨ c = 1 ∨ c = 2 ∨ c = 3 by omega) with rfl | rfl | rfl | rfl
    · rfl
    · show _ = nI (if (11 : Nat) = 11 ∧ q = s then v else _)
      rw [if_neg (by omega)]
      rfl
    · rfl
    · rfl
theorem wC_ue {s v : Nat} (hs : s < 6) : upd (wC b S B) (62 + 4 * s + 3) (nI v) = wC b (fo_sr S 12 s v) B := by
  refine wC_upd ?_ (fun _ _ _ => rfl) (fun k h1 h2 => rfl) (fun _ _ _ _ _ => rfl) (fun q c h1 h2 h3 => ?_) (fun _ _ _ _ _ => rfl) (fun _ _ _ => rfl)
  · rw [wC_s hs (by omega)]
    show nI (if (12 : Nat) = 12 ∧ s = s then v else _) = nI v
    rw [if_pos ⟨rfl, rfl⟩]
  · rcases (show c = 0 ∨ c = 1 ∨ c = 2 ∨ c = 3 by omega) with rfl | rfl | rfl | rfl
    · rfl
    · rfl
    · rfl
    · show _ = nI (if (12 : Nat) = 12 ∧ q = s then v else _)
      rw [if_neg (by omega)]
      rfl
theorem wC_ua {s v x : Nat} (hs : s < 6) (hx : ∀ q, q < 6 → x.testBit q = if q = s then decide (v = 1) else (S.1 7).testBit q) (hv : v ≤ 1) : upd (wC b S B) (62 + 4 * s + 2) (nI v) = wC b (fo_s1 S 7 x) B := by
  refine wC_upd ?_ (fun k h1 h2 => ?_) (fun k h1 h2 => rfl) (fun _ _ _ _ _ => rfl) (fun q c h1 h2 h3 => ?_) (fun _ _ _ _ _ => rfl) (fun _ _ _ => rfl)
  · rw [wC_s hs (by omega)]
    show nI (x.testBit s).toNat = nI v
    rw [hx s hs, if_pos rfl]
    rcases (show v = 0 ∨ v = 1 by omega) with rfl | rfl <;> rfl
  · rcases (show k = 0 ∨ k = 1 ∨ k = 2 ∨ k = 3 ∨ k = 4 ∨ k = 5 ∨ k = 6 ∨ k = 7 by omega) with rfl | rfl | rfl | rfl | rfl | rfl | rfl | rfl <;> rfl
  · rcases (show c = 0 ∨ c = 1 ∨ c = 2 ∨ c = 3 by omega) with rfl | rfl | rfl | rfl
    · rfl
    · rfl
    · show nI ((S.1 7).testBit q).toNat = nI (x.testBit q).toNat
      rw [hx q h1, if_neg (by omega)]
    · rfl
theorem wC_uB {k : Nat} {v : Int32} (hk : 326 ≤ k) : upd (wC b S B) k v = wC b S (upd B k v) := by
  refine wC_upd ?_ (fun _ _ _ => rfl) (fun _ _ _ => rfl) (fun _ _ _ _ _ => rfl) (fun _ _ _ _ _ => rfl) (fun _ _ _ _ _ => rfl) (fun j h1 h2 => ?_)
  · rw [wC_B hk, md_us]
  · rw [md_u h2]
end WC
/-- the law's text laid in the world (326 on) -/
def cdM (c : Nat) : Nat := if c < 10 then c else if 16 ≤ c then 10 else if c = 15 then 14 else if c = 10 then 11 else if c = 11 then 12 else if c = 12 then 13 else if c = 13 then 15 else 16
def lb (W : lw) : Nat := if W.1 = 0 then 0 else 1
def lwR (W : lw) (B : Nat → Int32) : Prop := W.1 = 0 ∨ (B 326 = nI (W.1 - 1) ∧ (∀ i, i + 1 < W.1 → B (327 + 4 * i) = nI (W.2.2 1 i) ∧ (W.2.2 1 i ≠ 2 → B (327 + 4 * i + 1) = nI (W.2.2 2 i)) ∧ B (327 + 4 * i + 2) = nI (W.2.2 3 i) ∧ B (327 + 4 * i + 3) = nI (W.2.2 4 i)) ∧ ∀ k, k < W.2.1 → B (375 + 2 * k) = nI (cdM (W.2.2 5 k)) ∧ (16 ≤ W.2.2 5 k → B (375 + 2 * k + 1) = nI (W.2.2 5 k - 16)))
/-- a byte as the Model keeps it -/
def sx (b : Nat) : Int32 := if b < 128 then nI b else nI b - nI 256
/-- the DreamFort's state and the Model's, alike -/
def md (U : ST) (z w : Nat → Int32) (R : Nat → Nat → Int32) : Prop := (∃ B : Nat → Int32, w = wC (lb U.2.1) U.1 B ∧ lwR U.2.1 B) ∧ (∀ i, i < 400 → R 4 i = sx (U.2.2.1 i)) ∧ z 9 = nI U.2.2.2.1 ∧ z 14 = la_n U.2.2.2.2.1 ∧ z 7 = nI U.2.2.2.2.2.1.1 ∧ (∀ k, k < U.2.2.2.2.2.1.1 → ∀ i, i < 326 → R 3 (326 * (U.2.2.2.2.2.1.1 - 1 - k) + i) = wC (lb U.2.1) (U.2.2.2.2.2.1.2 k) (fun _ => nI 0) i) ∧ z 6 = nI U.2.2.2.2.2.2.isSome.toNat ∧ ∀ I, U.2.2.2.2.2.2 = some I → ∃ B : Nat → Int32, (∀ k, k < 1175 → R 0 k = wC (lb I.2) I.1 B k) ∧ lwR I.2 B
/-- an answer of the Model: which exception (0: none), the answer, the state -/
def md_R (nx : Nat) (h : ab_H) (o : RS) : ab_P := fun r nx' h' => nx' = nx ∧ ∃ (v : Int32) (z w : Nat → Int32) (R : Nat → Nat → Int32), r = .inl (some (.int v)) ∧ mo_at h' z w R ∧ mo_rest h h' ∧ md o.2.2 z w R ∧ z 0 = nI o.1 ∧ (o.1 = 0 → v = o.2.1)
