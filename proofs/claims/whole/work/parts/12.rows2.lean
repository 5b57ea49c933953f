/-! ===== calls made short; constants; rows copied; switches ===== -/
/-- an answer that leaves all as it was -/
def ab_an (v : Value) (nx : Nat) (h : ab_H) : ab_P := fun r nx' h' => r = .inl (some v) ∧ nx' = nx ∧ h' = h
theorem ab_dec {M : ab_M} {J : List ab_E} (hok : ab_cd M 0 J) {pc len ci fd : Nat} {ins : Instr} {t : List ab_E} (hJ : ab_dr pc J = (pc, ins, len, ci, fd) :: t) : decode M.2.1 pc = .ok (ins, len) := by
  have h := ab_cd_dr (tgt := pc) hok
  rw [hJ] at h
  exact h.2.1.1
def ab_fitb (M M' : ab_M) (cu su : Nat) (rest : List Value) : Bool := Nat.ble (M'.2.2.2.2.1 + 1) M.2.2.2.2.1 && Nat.ble M'.2.2.1 81 && Nat.ble (cu + M'.2.2.2.2.2.1) M.2.2.2.2.2.1 && Nat.ble (su + M'.2.2.2.2.2.2) M.2.2.2.2.2.2 && Nat.ble (rest.map fun v => v.category).sum 8
theorem ab_fit_of {M M' : ab_M} {cu su : Nat} {rest : List Value} (h : ab_fitb M M' cu su rest = true) : ab_fit M M' cu su rest := by
  unfold ab_fitb at h
  simp only [Bool.and_eq_true] at h
  obtain ⟨⟨⟨⟨a1, a2⟩, a3⟩, a4⟩, a5⟩ := h
  exact ⟨Nat.le_of_ble_eq_true a1, Nat.le_of_ble_eq_true a2, Nat.le_of_ble_eq_true a3, Nat.le_of_ble_eq_true a4, Nat.le_of_ble_eq_true a5⟩
section BV
variable {M M' : ab_M} {post post' : ab_P} {cu su pc : Nat} {ls : List (Option Value)} {st rest : List Value} {nx : Nat} {h : ab_H} {J t : List ab_E} {c0 f0 : Nat}
theorem bv_cV {idx b ci : Nat} {fs As : List Value} (hok : ab_cd M 0 J) (hJ : ab_dr pc J = (pc, .invokevirtual idx, 3, c0, f0) :: t) (hl : ab_lv M.1.cls idx M' As.length) (hb : h b = some (.inl (ci, fs))) (hci : vwCl[ci]?.map (fun q => q.1) = some M'.1.cls) (hf : ab_fitb M M' cu su rest = true) (hst : st = As.reverse ++ .ref b :: rest)
    (hcon : ab_Con M' (.ref b :: As) nx h post') (k : ∀ r nx' h', post' r nx' h' → ab_K1 M M' post cu su pc ls rest r nx' h') : ab_V M post cu su pc ls st nx h := bv_callV (ab_dec hok hJ) hl hb hci (ab_fit_of hf) hst hcon k
theorem bv_cS {idx : Nat} {As : List Value} (hok : ab_cd M 0 J) (hJ : ab_dr pc J = (pc, .invokestatic idx, 3, c0, f0) :: t) (hl : ab_ls M.1.cls idx M' As.length) (hf : ab_fitb M M' cu su rest = true) (hst : st = As.reverse ++ rest)
    (hcon : ab_Con M' As nx h post') (k : ∀ r nx' h', post' r nx' h' → ab_K1 M M' post cu su pc ls rest r nx' h') : ab_V M post cu su pc ls st nx h := bv_callS (ab_dec hok hJ) hl (ab_fit_of hf) hst hcon k
/-- .. of a method that changes nothing -/
theorem bv_cVa {idx b ci : Nat} {fs As : List Value} {v : Value} (hok : ab_cd M 0 J) (hJ : ab_dr pc J = (pc, .invokevirtual idx, 3, c0, f0) :: t) (hl : ab_lv M.1.cls idx M' As.length) (hb : h b = some (.inl (ci, fs))) (hci : vwCl[ci]?.map (fun q => q.1) = some M'.1.cls) (hf : ab_fitb M M' cu su rest = true) (hz : M'.2.2.2.2.2 = (0, 0)) (hst : st = As.reverse ++ .ref b :: rest)
    (hcon : ab_Con M' (.ref b :: As) nx h (ab_an v nx h)) (k : ab_V M post cu su (pc + 3) ls (v :: rest) nx h) : ab_V M post cu su pc ls st nx h := by
  refine bv_cV hok hJ hl hb hci hf hst hcon ?_
  rintro _ _ _ ⟨rfl, rfl, rfl⟩
  show ab_V M post (cu + M'.2.2.2.2.2.1) (su + M'.2.2.2.2.2.2) (pc + 3) ls (v :: rest) _ _
  rw [hz]
  exact k
theorem bv_cSa {idx : Nat} {As : List Value} {v : Value} (hok : ab_cd M 0 J) (hJ : ab_dr pc J = (pc, .invokestatic idx, 3, c0, f0) :: t) (hl : ab_ls M.1.cls idx M' As.length) (hf : ab_fitb M M' cu su rest = true) (hz : M'.2.2.2.2.2 = (0, 0)) (hst : st = As.reverse ++ rest)
    (hcon : ab_Con M' As nx h (ab_an v nx h)) (k : ab_V M post cu su (pc + 3) ls (v :: rest) nx h) : ab_V M post cu su pc ls st nx h := by
  refine bv_cS hok hJ hl hf hst hcon ?_
  rintro _ _ _ ⟨rfl, rfl, rfl⟩
  show ab_V M post (cu + M'.2.2.2.2.2.1) (su + M'.2.2.2.2.2.2) (pc + 3) ls (v :: rest) _ _
  rw [hz]
  exact k
theorem bv_ldc {i : Nat} {v : Int32} (hok : ab_cd M 0 J) (hJ : ab_dr pc J = (pc, .ldc i, 2, c0, f0) :: t) (hc : Cond.constant M.1.cls i v ∈ ab_T) (k : ab_V M post cu su (pc + 2) ls (.int v :: st) nx h) : ab_V M post cu su pc ls st nx h := by
  intro p l e s m args below meth c G D H locs A C hW hS hB hL
  exact lv_ldc C.1 C.2.1 C.2.2.2.2.1 (C.2.2.2.2.2.1 _ (List.mem_cons_of_mem _ hc)) (ab_dec hok hJ) (k p l e s m args below meth c G D H locs A C hW hS hB hL)
theorem bv_ldcw {i : Nat} {v : Int32} (hok : ab_cd M 0 J) (hJ : ab_dr pc J = (pc, .ldc_w i, 3, c0, f0) :: t) (hc : Cond.constant M.1.cls i v ∈ ab_T) (k : ab_V M post cu su (pc + 3) ls (.int v :: st) nx h) : ab_V M post cu su pc ls st nx h := by
  intro p l e s m args below meth c G D H locs A C hW hS hB hL
  exact lv_ldcw C.1 C.2.1 C.2.2.2.2.1 (C.2.2.2.2.2.1 _ (List.mem_cons_of_mem _ hc)) (ab_dec hok hJ) (k p l e s m args below meth c G D H locs A C hW hS hB hL)
theorem bv_tswI {dflt lo hi : Int} {offs : Array Int} {len : Nat} {x : Int32} {off : Int} {tgt : Nat} (hok : ab_cd M 0 J) (hJ : ab_dr pc J = (pc, .tableswitch dflt lo hi offs, len, c0, f0) :: t) (h1 : ¬ x.toInt < lo) (h2 : ¬ hi < x.toInt) (ho : offs[(x.toInt - lo).toNat]? = some off) (ht : (pc : Int) + off = (tgt : Int)) (k : ab_V M post cu su tgt ls st nx h) : ab_V M post cu su pc ls (.int x :: st) nx h := by
  intro p l e s m args below meth c G D H locs A C hW hS hB hL
  exact lv_tableIn C.1 C.2.1 (ab_dec hok hJ) h1 h2 ho ht (k p l e s m args below meth c G D H locs A C hW hS hB hL)
theorem bv_tswO {dflt lo hi : Int} {offs : Array Int} {len : Nat} {x : Int32} {tgt : Nat} (hok : ab_cd M 0 J) (hJ : ab_dr pc J = (pc, .tableswitch dflt lo hi offs, len, c0, f0) :: t) (h1 : x.toInt < lo ∨ hi < x.toInt) (ht : (pc : Int) + dflt = (tgt : Int)) (k : ab_V M post cu su tgt ls st nx h) : ab_V M post cu su pc ls (.int x :: st) nx h := by
  intro p l e s m args below meth c G D H locs A C hW hS hB hL
  exact lv_tableOut C.1 C.2.1 (ab_dec hok hJ) h1 ht (k p l e s m args below meth c G D H locs A C hW hS hB hL)
/-- a field that says yes or no -/
theorem bv_putZ {idx ci f a : Nat} {fs : List Value} {v : Int32} (hok : ab_cd M 0 J) (hJ : ab_dr pc J = (pc, .putfield idx, 3, c0, f0) :: t) (hl : ab_lp M.1.cls idx ci f .boolean) (ha : h a = some (.inl (ci, fs))) (hf : f < fs.length) (hv : v = 0 ∨ v = 1) (k : ab_V M post cu su (pc + 3) ls st nx (ab_up h a (.inl (ci, fs.set f (.int v))))) : ab_V M post cu su pc ls (.int v :: .ref a :: st) nx h :=
  bv_put (ab_dec hok hJ) hl ha hf (fun G => by rcases hv with rfl | rfl <;> exact ⟨rfl, rfl⟩) k
def ab_cpw (own : String) (idx : Nat) : Prop := ([.methodLink own idx arraycopyName, .native arraycopyName, .static arraycopyName, .initialized "java/lang/System"] : List Cond).all (fun w => decide (w ∈ ab_T)) = true
/-- System.arraycopy of ints, from a row to another one -/
theorem bv_copy {idx a b na nb : Nat} {f g : Nat → Int32} {sp dp n : Int32} (hok : ab_cd M 0 J) (hJ : ab_dr pc J = (pc, .invokestatic idx, 3, c0, f0) :: t) (hl : ab_cpw M.1.cls idx) (ha : h a = some (.inr (0, na, .inl f))) (hb : h b = some (.inr (0, nb, .inl g))) (hab : a ≠ b) (h1 : ¬ sp < 0) (h2 : ¬ dp < 0) (h3 : ¬ n < 0) (h4 : sp.toNatClampNeg + n.toNatClampNeg ≤ na) (h5 : dp.toNatClampNeg + n.toNatClampNeg ≤ nb) (hd : 1 ≤ M.2.2.2.2.1) (hr : (st.map fun v => v.category).sum ≤ 8)
    (k : ab_V M post cu su (pc + 3) ls st nx (ab_up h b (.inr (0, nb, .inl (va_cpy f g sp.toNatClampNeg dp.toNatClampNeg n.toNatClampNeg))))) : ab_V M post cu su pc ls (.int n :: .int dp :: .ref b :: .int sp :: .ref a :: st) nx h := by
  intro p l e s m args below meth c G D H locs A C hW hS hB hL
  obtain ⟨a1, a2, a3⟩ := hW.own ha rfl
  obtain ⟨b1, b2, b3⟩ := hW.own hb rfl
  have hw := ab_all hl
  have hts := C.2.2.2.2.2.1
  have ok : ∀ w ∈ ([.methodLink M.1.cls idx arraycopyName, .native arraycopyName, .static arraycopyName, .initialized "java/lang/System"] : List Cond), w.before args s = true := fun w q => hts w (List.mem_cons_of_mem _ (hw w q))
  have hK := C.2.2.2.2.2.2.2.2.2.2.2.1
  have nn : ∀ z : Int32, ¬ z < 0 → z.toInt = (z.toNatClampNeg : Int) := by
    intro z hz
    have hz0 : (0 : Int) ≤ z.toInt := by
      have := Int32.not_lt.mp hz
      simpa using Int32.le_iff_toInt_le.mp this
    show z.toInt = ((z.toInt.toNat : Nat) : Int)
    omega
  intro T hT X
  obtain ⟨-, k0, hk0, cm0, hkk0⟩ := (hK.2 0 _ rfl).1 na (fun j => .int (f j))
  obtain ⟨-, k1, hk1, cm1, hkk1⟩ := (hK.2 0 _ rfl).1 nb (fun j => .int (g j))
  obtain ⟨vm', X', step⟩ := X.arraycopy C.1 C.2.2.2.2.1 (index := idx) (ok (.methodLink M.1.cls idx arraycopyName) (by simp)) (ok (.native arraycopyName) (by simp)) (ok (.static arraycopyName) (by simp)) (ok (.initialized "java/lang/System") (by simp)) (src := ab_ad G a) (dst := ab_ad G b) (cs := arrV (D.2 0) na (fun j => .int (f j))) (cd := arrV (D.2 0) nb (fun j => .int (g j))) (srcPos := sp) (destPos := dp) (n := n) (by rw [hT]; exact a3) (by rw [hT]; exact b3)
    (fun _ h => by cases h) (fun _ h => by cases h) (fun h => by cases h) (fun h => by cases h) hk0 hk1 hkk0 hkk1 (by simp [refKind]) h1 h2 h3
    (by rw [nn sp h1, nn n h3, arrV_size]; omega)
    (by rw [nn dp h2, nn n h3, arrV_size]; omega)
    (fun vm₁ _ i hi => by
      have e : (arrV (D.2 0) na (fun j => Value.int (f j))).slots.getD (sp.toNatClampNeg + i) .null = .int (f (sp.toNatClampNeg + i)) := by
        rw [Array.getD_eq_getD_getElem?, arrV_read _ _ (by omega)]
        rfl
      refine ⟨?_, ?_⟩
      · rw [e]; rfl
      · rw [e]; exact trivial)
    (g := F0 m pc A ((.int n :: .int dp :: .ref b :: .int sp :: .ref a :: st).map (ab_v G))) rfl (by rw [C.2.2.2.1]; exact hL.1) (rest := st.map (ab_v G)) rfl (by rw [C.2.1]; exact ab_dec hok hJ) hd (by
      show 2 * 0 + _ + _ ≤ 100 * M.2.2.2.2.1
      rw [ab_cat]
      have : nativeFrameWords "java/lang/System" "arraycopy" 5 ≤ 60 := by decide
      omega)
  have e1 : copied (arrV (D.2 0) na (fun j => Value.int (f j))) (arrV (D.2 0) nb (fun j => Value.int (g j))) sp dp n = arrV (D.2 0) nb (fun j => .int (va_cpy f g sp.toNatClampNeg dp.toNatClampNeg n.toNatClampNeg j)) := va_copiedX (fun z => Value.int z) (arrV (D.2 0) na (fun j => Value.int (f j))) (D.2 0) f g (fun j hj => arrV_read _ _ hj) h4
  rw [e1] at X' step
  have hl9 : ab_ad G b < H.size := (Array.getElem?_eq_some_iff.mp b3).1
  have hAb : ab_A G (ab_ad G b) := by rw [ab_ad_own G b1]; exact Nat.le_add_right _ _
  have hheap : ((T.setVm vm').setCell (ab_ad G b) (arrV (D.2 0) nb (fun j => .int (va_cpy f g sp.toNatClampNeg dp.toNatClampNeg n.toNatClampNeg j)))).heap = H.setIfInBounds (ab_ad G b) (arrV (D.2 0) nb (fun j => .int (va_cpy f g sp.toNatClampNeg dp.toNatClampNeg n.toNatClampNeg j))) := by rw [← hT]; rfl
  have oq : ∀ q : Nat, q ≠ ab_ad G b → (H.setIfInBounds (ab_ad G b) (arrV (D.2 0) nb (fun j => .int (va_cpy f g sp.toNatClampNeg dp.toNatClampNeg n.toNatClampNeg j))))[q]? = H[q]? := fun q hq => by simp [Array.getElem?_setIfInBounds, Ne.symm hq]
  obtain ⟨t9, q1, q2⟩ := k p l e s m args below meth c G D _ _ A C (hW.up b1 b2 (by simp) oq (show (H.setIfInBounds (ab_ad G b) _)[ab_ad G b]? = some _ by simp [Array.getElem?_setIfInBounds, hl9])) ⟨by simp; exact hS.1, fun q g1 g2 => by
      rw [oq q (fun e => g2 (by rw [e]; exact hAb))]
      exact hS.2.1 q g1 g2, fun q hq => by
      rcases List.mem_append.mp hq with h | h
      · exact hS.2.2 q h
      · obtain ⟨z, -, hz⟩ := List.mem_map.mp h
        rw [← hz]
        exact hAb⟩ hB hL _ hheap X'
  exact ⟨t9, step t9 q1, q2⟩
end BV
