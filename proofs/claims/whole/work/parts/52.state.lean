/-! ===== the DreamFort's cells: its state ===== -/
theorem fo_at.kp {h h' : ab_H} {f : Nat} {F : fo_F} (hF : fo_at h f F) (hk : ∀ k, f ≤ k → k < f + 8 → h' k = h k) : fo_at h' f F := by
  obtain ⟨h0, h1, h2, h3, h4, h5, h6, h7⟩ := hF
  refine ⟨?_, ?_, ?_, ?_, ?_, ?_, ?_, ?_⟩ <;> (rw [hk _ (by omega) (by omega)]; assumption)
theorem la_at.kp {h h' : ab_H} {l : Nat} {L : la_F} {R : Nat → Int32} (hF : la_at h l L R) (hk : ∀ k, l ≤ k → k < l + 7 → h' k = h k) : la_at h' l L R := by
  obtain ⟨h0, h1, h2, h3, h4, h5, h6⟩ := hF
  refine ⟨?_, ?_, ?_, ?_, ?_, ?_, ?_⟩ <;> (rw [hk _ (by omega) (by omega)]; assumption)
theorem mi_at.kp {h h' : ab_H} {m : Nat} {X : mi_F} (hF : mi_at h m X) (hk : ∀ k, m ≤ k → k < m + 5 → h' k = h k) : mi_at h' m X := by
  obtain ⟨h0, h1, h2, h3, h4⟩ := hF
  refine ⟨?_, ?_, ?_, ?_, ?_⟩ <;> (rw [hk _ (by omega) (by omega)]; assumption)
theorem ps_at.kp {h h' : ab_H} {m : Nat} {X : ps_F} (hF : ps_at h m X) (hk : ∀ k, m ≤ k → k < m + 5 → h' k = h k) : ps_at h' m X := by
  obtain ⟨h0, h1, h2, h3, h4⟩ := hF
  refine ⟨?_, ?_, ?_, ?_, ?_⟩ <;> (rw [hk _ (by omega) (by omega)]; assumption)
theorem co_at.kp {h h' : ab_H} {m : Nat} {T : pT} {H : Nat → Int32} (hF : co_at h m T H) (hk : ∀ k, m ≤ k → k < m + 4 → h' k = h k) : co_at h' m T H := by
  obtain ⟨h0, h1, h2, h3⟩ := hF
  refine ⟨?_, ?_, ?_, ?_⟩ <;> (rw [hk _ (by omega) (by omega)]; assumption)
theorem tx_s.kp {h h' : ab_H} {T sz a : Nat} {KK : Nat → Option Nat} {B V : Nat → Int32} (hF : tx_s h T sz a KK B V) (hk : ∀ k, T ≤ k → k < T + 4 → h' k = h k) : tx_s h' T sz a KK B V := by
  obtain ⟨h0, h1, h2, h3⟩ := hF
  refine ⟨?_, ?_, ?_, ?_⟩ <;> (rw [hk _ (by omega) (by omega)]; assumption)
/-- the fortress, the law, the tape's bytes, how many, where a text was wrong (0: nowhere), what is remembered (how many; the k-th newest), the image -/
abbrev ST : Type := fs × lw × (Nat → Nat) × Nat × Nat × (Nat × (Nat → fs)) × Option (fs × lw)
def df_fs (tl wb im pn pc : Int32) : List Value := [.ref 3001, .int tl, .int wb, .ref 3002, .ref 3006, .ref 3015, .ref 3023, .ref 3031, .ref 3039, .ref 3046, .ref 3054, .int im, .ref 3061, .int pn, .int pc, .ref 3062, .ref 3067, .ref 3072, .ref 3076]
def dfO (h : ab_H) (U : ST) (pn : Nat) : Prop := h 3000 = some (.inl (9, df_fs (nI U.2.2.2.1) (la_n U.2.2.2.2.1) (nI U.2.2.2.2.2.2.isSome.toNat) (nI pn) (nI U.2.2.2.2.2.1.1)))
def dfT (h : ab_H) (U : ST) : Prop := h 3001 = some (.inr (0, 400, .inl (fun i => nI (U.2.2.1 i))))
def dfX (h : ab_H) : Prop := ∃ (sz a : Nat) (KK : Nat → Option Nat) (B V : Nat → Int32), tx_s h 3002 sz a KK B V
def dfF (h : ab_H) : Prop := h 3006 = some (.inl (2, [.ref 3007])) ∧ ∃ F : fo_F, fo_at h 3007 F
def dfL (h : ab_H) : Prop := h 3015 = some (.inl (4, [.ref 3016])) ∧ ∃ (W9 : lw) (R : Nat → Int32), wb W9 ∧ la_at h 3016 (la_of W9) R
def dfI (h : ab_H) (U : ST) : Prop := ∃ (F : fo_F) (L : la_F) (R : Nat → Int32), fo_at h 3046 F ∧ la_at h 3054 L R ∧ ∀ I, U.2.2.2.2.2.2 = some I → F = fo_of I.1 ∧ L = la_of I.2
def dfQ (h : ab_H) : Prop := h 3061 = some (.inr (5, 12, .inr (.inr (fun i => if i < 12 then some (3078 + 8 * i) else none))))
def dfP (h : ab_H) (U : ST) (pn : Nat) : Prop := (∀ i, i < 12 → ∃ F : fo_F, fo_at h (3078 + 8 * i) F) ∧ ∀ k, k < U.2.2.2.2.2.1.1 → fo_at h (3078 + 8 * ((pn + 11 - k) % 12)) (fo_of (U.2.2.2.2.2.1.2 k))
def dfR (h : ab_H) : Prop := ∃ (v1 v2 : Int32) (P : Nat → Int32), h 3076 = some (.inl (7, [.int v1, .int v2, .ref 3077])) ∧ h 3077 = some (.inr (0, 42, .inl P))
def df_at (h : ab_H) (U : ST) : Prop := ∃ pn : Nat, pn < 12 ∧ dfO h U pn ∧ dfT h U ∧ dfX h ∧ dfF h ∧ dfL h ∧ fo_at h 3023 (fo_of U.1) ∧ (∃ F : fo_F, fo_at h 3031 F) ∧ (∃ R : Nat → Int32, la_at h 3039 (la_of U.2.1) R) ∧ dfI h U ∧ dfQ h ∧ dfP h U pn ∧ (∃ X : mi_F, mi_at h 3062 X) ∧ (∃ Y : ps_F, ps_at h 3067 Y) ∧ (∃ (T : pT) (H : Nat → Int32), co_at h 3072 T H) ∧ dfR h
def df_rest (h h' : ab_H) : Prop := ∀ k, k < 3000 ∨ 3174 ≤ k → h' k = h k
theorem df_rest.refl (h : ab_H) : df_rest h h := fun _ _ => rfl
theorem df_rest.trans {h h1 h2 : ab_H} (a : df_rest h h1) (b : df_rest h1 h2) : df_rest h h2 := fun k hk => (b k hk).trans (a k hk)
section KP
variable {h h' : ab_H} {U : ST} {pn : Nat}
theorem dfO.kp (hd : dfO h U pn) (hk : h' 3000 = h 3000) : dfO h' U pn := hk.trans hd
theorem dfT.kp (hd : dfT h U) (hk : h' 3001 = h 3001) : dfT h' U := hk.trans hd
theorem dfX.kp (hd : dfX h) (hk : ∀ k, 3002 ≤ k → k < 3006 → h' k = h k) : dfX h' := by
  obtain ⟨sz, a, KK, B, V, q⟩ := hd
  exact ⟨sz, a, KK, B, V, q.kp hk⟩
theorem dfF.kp (hd : dfF h) (hk : ∀ k, 3006 ≤ k → k < 3015 → h' k = h k) : dfF h' := by
  obtain ⟨q0, F, q⟩ := hd
  exact ⟨(hk _ (by omega) (by omega)).trans q0, F, q.kp (fun k a b => hk k (by omega) (by omega))⟩
theorem dfL.kp (hd : dfL h) (hk : ∀ k, 3015 ≤ k → k < 3023 → h' k = h k) : dfL h' := by
  obtain ⟨q0, W9, R, q1, q⟩ := hd
  exact ⟨(hk _ (by omega) (by omega)).trans q0, W9, R, q1, q.kp (fun k a b => hk k (by omega) (by omega))⟩
theorem dfI.kp (hd : dfI h U) (hk : ∀ k, 3046 ≤ k → k < 3061 → h' k = h k) : dfI h' U := by
  obtain ⟨F, L, R, q1, q2, q3⟩ := hd
  exact ⟨F, L, R, q1.kp (fun k a b => hk k (by omega) (by omega)), q2.kp (fun k a b => hk k (by omega) (by omega)), q3⟩
theorem dfQ.kp (hd : dfQ h) (hk : h' 3061 = h 3061) : dfQ h' := hk.trans hd
theorem dfP.kp (hd : dfP h U pn) (hk : ∀ k, 3078 ≤ k → k < 3174 → h' k = h k) : dfP h' U pn := by
  refine ⟨fun i hi => ?_, fun k hk' => ?_⟩
  · obtain ⟨F, q⟩ := hd.1 i hi
    exact ⟨F, q.kp (fun k a b => hk k (by omega) (by omega))⟩
  · exact (hd.2 k hk').kp (fun k a b => hk k (by omega) (by omega))
theorem dfR.kp (hd : dfR h) (hk : ∀ k, 3076 ≤ k → k < 3078 → h' k = h k) : dfR h' := by
  obtain ⟨v1, v2, P, q1, q2⟩ := hd
  exact ⟨v1, v2, P, (hk _ (by omega) (by omega)).trans q1, (hk _ (by omega) (by omega)).trans q2⟩
theorem ex1.kp {α : Type} {P Q : α → Prop} (hd : ∃ x, P x) (hk : ∀ x, P x → Q x) : ∃ x, Q x := hd.imp hk
end KP
/-! ===== its frame (written by dfm.py) ===== -/
theorem df_at.mi {h h' : ab_H} {U : ST} (hd : df_at h U) (hr : mi_rest 3039 3062 h h') (hR : ∃ R : Nat → Int32, h' (3039 + 6) = some (.inr (0, 32, .inl R))) (hX : ∃ X : mi_F, mi_at h' 3062 X) : df_at h' U := by
  obtain ⟨pn, hpn, d0, d1, d2, d3, d4, d5, d6, d7, d8, d9, d10, d11, d12, d13, d14⟩ := hd
  exact ⟨pn, hpn, d0.kp (hr _ (by omega) (by omega)), d1.kp (hr _ (by omega) (by omega)), d2.kp (fun k a b => hr k (by omega) (by omega)), d3.kp (fun k a b => hr k (by omega) (by omega)), d4.kp (fun k a b => hr k (by omega) (by omega)), d5.kp (fun k a b => hr k (by omega) (by omega)), d6.imp (fun _ z => z.kp (fun k a b => hr k (by omega) (by omega))), (let ⟨R9, hR9⟩ := hR; d7.elim (fun R8 z => ⟨R9, z.mi hr (by omega) hR9⟩)), d8.kp (fun k a b => hr k (by omega) (by omega)), d9.kp (hr _ (by omega) (by omega)), d10.kp (fun k a b => hr k (by omega) (by omega)), hX, d12.imp (fun _ z => z.kp (fun k a b => hr k (by omega) (by omega))), d13.imp (fun _ z => z.imp (fun _ y => y.kp (fun k a b => hr k (by omega) (by omega)))), d14.kp (fun k a b => hr k (by omega) (by omega))⟩
theorem mi_rest.df {h h' : ab_H} (hr : mi_rest 3039 3062 h h') : df_rest h h' := fun k a => hr k (by omega) (by omega)
theorem df_at.fo {h h' : ab_H} {U : ST} (hd : df_at h U) {S' : fs} (hF : fo_at h' 3023 (fo_of S')) (hr : fo_rest 3023 h h') : df_at h' (S', U.2) := by
  obtain ⟨pn, hpn, d0, d1, d2, d3, d4, d5, d6, d7, d8, d9, d10, d11, d12, d13, d14⟩ := hd
  exact ⟨pn, hpn, d0.kp (hr _ (by omega)), d1.kp (hr _ (by omega)), d2.kp (fun k a b => hr k (by omega)), d3.kp (fun k a b => hr k (by omega)), d4.kp (fun k a b => hr k (by omega)), hF, d6.imp (fun _ z => z.kp (fun k a b => hr k (by omega))), d7.imp (fun _ z => z.kp (fun k a b => hr k (by omega))), d8.kp (fun k a b => hr k (by omega)), d9.kp (hr _ (by omega)), d10.kp (fun k a b => hr k (by omega)), d11.imp (fun _ z => z.kp (fun k a b => hr k (by omega))), d12.imp (fun _ z => z.kp (fun k a b => hr k (by omega))), d13.imp (fun _ z => z.imp (fun _ y => y.kp (fun k a b => hr k (by omega)))), d14.kp (fun k a b => hr k (by omega))⟩
theorem fo_rest.df {h h' : ab_H} {f : Nat} (hf : 3000 ≤ f ∧ f + 8 ≤ 3174) (hr : fo_rest f h h') : df_rest h h' := fun k a => hr k (by omega)
theorem df_at.fm {h h' : ab_H} {U : ST} (hd : df_at h U) {S' : fs} (hF : fo_at h' 3023 (fo_of S')) (hr : fm_rest 3023 3039 3062 h h') (hR : ∃ R : Nat → Int32, h' (3039 + 6) = some (.inr (0, 32, .inl R))) (hX : ∃ X : mi_F, mi_at h' 3062 X) : df_at h' (S', U.2) := by
  obtain ⟨pn, hpn, d0, d1, d2, d3, d4, d5, d6, d7, d8, d9, d10, d11, d12, d13, d14⟩ := hd
  exact ⟨pn, hpn, d0.kp (hr _ (by omega) (by omega) (by omega)), d1.kp (hr _ (by omega) (by omega) (by omega)), d2.kp (fun k a b => hr k (by omega) (by omega) (by omega)), d3.kp (fun k a b => hr k (by omega) (by omega) (by omega)), d4.kp (fun k a b => hr k (by omega) (by omega) (by omega)), hF, d6.imp (fun _ z => z.kp (fun k a b => hr k (by omega) (by omega) (by omega))), (let ⟨R9, hR9⟩ := hR; d7.elim (fun R8 z => ⟨R9, z.fm hr (by omega) (by omega) hR9⟩)), d8.kp (fun k a b => hr k (by omega) (by omega) (by omega)), d9.kp (hr _ (by omega) (by omega) (by omega)), d10.kp (fun k a b => hr k (by omega) (by omega) (by omega)), hX, d12.imp (fun _ z => z.kp (fun k a b => hr k (by omega) (by omega) (by omega))), d13.imp (fun _ z => z.imp (fun _ y => y.kp (fun k a b => hr k (by omega) (by omega) (by omega)))), d14.kp (fun k a b => hr k (by omega) (by omega) (by omega))⟩
theorem fm_rest.df {h h' : ab_H} {f : Nat} (hf : 3000 ≤ f ∧ f + 8 ≤ 3174) (hr : fm_rest f 3039 3062 h h') : df_rest h h' := fun k a => hr k (by omega) (by omega) (by omega)
theorem df_at.sc {h h' : ab_H} {U : ST} (hd : df_at h U) {F : fo_F} (hF : fo_at h' 3031 F) (hr : fo_rest 3031 h h') : df_at h' U := by
  obtain ⟨pn, hpn, d0, d1, d2, d3, d4, d5, d6, d7, d8, d9, d10, d11, d12, d13, d14⟩ := hd
  exact ⟨pn, hpn, d0.kp (hr _ (by omega)), d1.kp (hr _ (by omega)), d2.kp (fun k a b => hr k (by omega)), d3.kp (fun k a b => hr k (by omega)), d4.kp (fun k a b => hr k (by omega)), d5.kp (fun k a b => hr k (by omega)), ⟨F, hF⟩, d7.imp (fun _ z => z.kp (fun k a b => hr k (by omega))), d8.kp (fun k a b => hr k (by omega)), d9.kp (hr _ (by omega)), d10.kp (fun k a b => hr k (by omega)), d11.imp (fun _ z => z.kp (fun k a b => hr k (by omega))), d12.imp (fun _ z => z.kp (fun k a b => hr k (by omega))), d13.imp (fun _ z => z.imp (fun _ y => y.kp (fun k a b => hr k (by omega)))), d14.kp (fun k a b => hr k (by omega))⟩
theorem df_at.sm {h h' : ab_H} {U : ST} (hd : df_at h U) {F : fo_F} (hF : fo_at h' 3031 F) (hr : fm_rest 3031 3039 3062 h h') (hR : ∃ R : Nat → Int32, h' (3039 + 6) = some (.inr (0, 32, .inl R))) (hX : ∃ X : mi_F, mi_at h' 3062 X) : df_at h' U := by
  obtain ⟨pn, hpn, d0, d1, d2, d3, d4, d5, d6, d7, d8, d9, d10, d11, d12, d13, d14⟩ := hd
  exact ⟨pn, hpn, d0.kp (hr _ (by omega) (by omega) (by omega)), d1.kp (hr _ (by omega) (by omega) (by omega)), d2.kp (fun k a b => hr k (by omega) (by omega) (by omega)), d3.kp (fun k a b => hr k (by omega) (by omega) (by omega)), d4.kp (fun k a b => hr k (by omega) (by omega) (by omega)), d5.kp (fun k a b => hr k (by omega) (by omega) (by omega)), ⟨F, hF⟩, (let ⟨R9, hR9⟩ := hR; d7.elim (fun R8 z => ⟨R9, z.fm hr (by omega) (by omega) hR9⟩)), d8.kp (fun k a b => hr k (by omega) (by omega) (by omega)), d9.kp (hr _ (by omega) (by omega) (by omega)), d10.kp (fun k a b => hr k (by omega) (by omega) (by omega)), hX, d12.imp (fun _ z => z.kp (fun k a b => hr k (by omega) (by omega) (by omega))), d13.imp (fun _ z => z.imp (fun _ y => y.kp (fun k a b => hr k (by omega) (by omega) (by omega)))), d14.kp (fun k a b => hr k (by omega) (by omega) (by omega))⟩
theorem df_at.mp {h h' : ab_H} {U : ST} (hd : df_at h U) (hr : mp_rest 3039 3062 (3067 + 1) h h') (hR : ∃ R : Nat → Int32, h' (3039 + 6) = some (.inr (0, 32, .inl R))) (hX : ∃ X : mi_F, mi_at h' 3062 X) (hY : ∃ Y : ps_F, ps_at h' 3067 Y) : df_at h' U := by
  obtain ⟨pn, hpn, d0, d1, d2, d3, d4, d5, d6, d7, d8, d9, d10, d11, d12, d13, d14⟩ := hd
  exact ⟨pn, hpn, d0.kp (hr _ (by omega) (by omega) (by omega)), d1.kp (hr _ (by omega) (by omega) (by omega)), d2.kp (fun k a b => hr k (by omega) (by omega) (by omega)), d3.kp (fun k a b => hr k (by omega) (by omega) (by omega)), d4.kp (fun k a b => hr k (by omega) (by omega) (by omega)), d5.kp (fun k a b => hr k (by omega) (by omega) (by omega)), d6.imp (fun _ z => z.kp (fun k a b => hr k (by omega) (by omega) (by omega))), (let ⟨R9, hR9⟩ := hR; d7.elim (fun R8 z => ⟨R9, z.mp hr (by omega) (by omega) hR9⟩)), d8.kp (fun k a b => hr k (by omega) (by omega) (by omega)), d9.kp (hr _ (by omega) (by omega) (by omega)), d10.kp (fun k a b => hr k (by omega) (by omega) (by omega)), hX, hY, d13.imp (fun _ z => z.imp (fun _ y => y.kp (fun k a b => hr k (by omega) (by omega) (by omega)))), d14.kp (fun k a b => hr k (by omega) (by omega) (by omega))⟩
theorem mp_rest.df {h h' : ab_H} (hr : mp_rest 3039 3062 (3067 + 1) h h') : df_rest h h' := fun k a => hr k (by omega) (by omega) (by omega)
theorem df_at.pt {h h' : ab_H} {U : ST} (hd : df_at h U) (hr : pt_rest 3067 h h') (hY : ∃ Y : ps_F, ps_at h' 3067 Y) : df_at h' U := by
  obtain ⟨pn, hpn, d0, d1, d2, d3, d4, d5, d6, d7, d8, d9, d10, d11, d12, d13, d14⟩ := hd
  exact ⟨pn, hpn, d0.kp (hr _ (by omega) (by omega) (by omega)), d1.kp (hr _ (by omega) (by omega) (by omega)), d2.kp (fun k a b => hr k (by omega) (by omega) (by omega)), d3.kp (fun k a b => hr k (by omega) (by omega) (by omega)), d4.kp (fun k a b => hr k (by omega) (by omega) (by omega)), d5.kp (fun k a b => hr k (by omega) (by omega) (by omega)), d6.imp (fun _ z => z.kp (fun k a b => hr k (by omega) (by omega) (by omega))), d7.imp (fun _ z => z.kp (fun k a b => hr k (by omega) (by omega) (by omega))), d8.kp (fun k a b => hr k (by omega) (by omega) (by omega)), d9.kp (hr _ (by omega) (by omega) (by omega)), d10.kp (fun k a b => hr k (by omega) (by omega) (by omega)), d11.imp (fun _ z => z.kp (fun k a b => hr k (by omega) (by omega) (by omega))), hY, d13.imp (fun _ z => z.imp (fun _ y => y.kp (fun k a b => hr k (by omega) (by omega) (by omega)))), d14.kp (fun k a b => hr k (by omega) (by omega) (by omega))⟩
theorem pt_rest.df {h h' : ab_H} (hr : pt_rest 3067 h h') : df_rest h h' := fun k a => hr k (by omega) (by omega) (by omega)
theorem df_at.ct {h h' : ab_H} {U : ST} (hd : df_at h U) (hr : ct_rest 3072 h h') (hY : ∃ (T : pT) (H : Nat → Int32), co_at h' 3072 T H) : df_at h' U := by
  obtain ⟨pn, hpn, d0, d1, d2, d3, d4, d5, d6, d7, d8, d9, d10, d11, d12, d13, d14⟩ := hd
  exact ⟨pn, hpn, d0.kp (hr _ (by omega)), d1.kp (hr _ (by omega)), d2.kp (fun k a b => hr k (by omega)), d3.kp (fun k a b => hr k (by omega)), d4.kp (fun k a b => hr k (by omega)), d5.kp (fun k a b => hr k (by omega)), d6.imp (fun _ z => z.kp (fun k a b => hr k (by omega))), d7.imp (fun _ z => z.kp (fun k a b => hr k (by omega))), d8.kp (fun k a b => hr k (by omega)), d9.kp (hr _ (by omega)), d10.kp (fun k a b => hr k (by omega)), d11.imp (fun _ z => z.kp (fun k a b => hr k (by omega))), d12.imp (fun _ z => z.kp (fun k a b => hr k (by omega))), hY, d14.kp (fun k a b => hr k (by omega))⟩
theorem ct_rest.df {h h' : ab_H} (hr : ct_rest 3072 h h') : df_rest h h' := fun k a => hr k (by omega)
theorem df_at.hr {h h' : ab_H} {U : ST} (hd : df_at h U) {F : fo_F} (hr : hr_rest 3031 3039 3062 3076 h h') (hF : fo_at h' 3031 F) (hR : ∃ R : Nat → Int32, h' (3039 + 6) = some (.inr (0, 32, .inl R))) (hX : ∃ X : mi_F, mi_at h' 3062 X) (hQ : dfR h') : df_at h' U := by
  obtain ⟨pn, hpn, d0, d1, d2, d3, d4, d5, d6, d7, d8, d9, d10, d11, d12, d13, d14⟩ := hd
  exact ⟨pn, hpn, d0.kp (hr _ (by omega) (by omega) (by omega) (by omega) (by omega)), d1.kp (hr _ (by omega) (by omega) (by omega) (by omega) (by omega)), d2.kp (fun k a b => hr k (by omega) (by omega) (by omega) (by omega) (by omega)), d3.kp (fun k a b => hr k (by omega) (by omega) (by omega) (by omega) (by omega)), d4.kp (fun k a b => hr k (by omega) (by omega) (by omega) (by omega) (by omega)), d5.kp (fun k a b => hr k (by omega) (by omega) (by omega) (by omega) (by omega)), ⟨F, hF⟩, (let ⟨R9, hR9⟩ := hR; d7.elim (fun R8 z => ⟨R9, z.hr hr (by omega) (by omega) (by omega) hR9⟩)), d8.kp (fun k a b => hr k (by omega) (by omega) (by omega) (by omega) (by omega)), d9.kp (hr _ (by omega) (by omega) (by omega) (by omega) (by omega)), d10.kp (fun k a b => hr k (by omega) (by omega) (by omega) (by omega) (by omega)), hX, d12.imp (fun _ z => z.kp (fun k a b => hr k (by omega) (by omega) (by omega) (by omega) (by omega))), d13.imp (fun _ z => z.imp (fun _ y => y.kp (fun k a b => hr k (by omega) (by omega) (by omega) (by omega) (by omega)))), hQ⟩
theorem hr_rest.df {h h' : ab_H} (hr : hr_rest 3031 3039 3062 3076 h h') : df_rest h h' := fun k a => hr k (by omega) (by omega) (by omega) (by omega) (by omega)
theorem df_at.tx {h h' : ab_H} {U : ST} (hd : df_at h U) (hr : tx_rest 3002 h h') (hX : dfX h') : df_at h' U := by
  obtain ⟨pn, hpn, d0, d1, d2, d3, d4, d5, d6, d7, d8, d9, d10, d11, d12, d13, d14⟩ := hd
  exact ⟨pn, hpn, d0.kp (hr _ (by omega)), d1.kp (hr _ (by omega)), hX, d3.kp (fun k a b => hr k (by omega)), d4.kp (fun k a b => hr k (by omega)), d5.kp (fun k a b => hr k (by omega)), d6.imp (fun _ z => z.kp (fun k a b => hr k (by omega))), d7.imp (fun _ z => z.kp (fun k a b => hr k (by omega))), d8.kp (fun k a b => hr k (by omega)), d9.kp (hr _ (by omega)), d10.kp (fun k a b => hr k (by omega)), d11.imp (fun _ z => z.kp (fun k a b => hr k (by omega))), d12.imp (fun _ z => z.kp (fun k a b => hr k (by omega))), d13.imp (fun _ z => z.imp (fun _ y => y.kp (fun k a b => hr k (by omega)))), d14.kp (fun k a b => hr k (by omega))⟩
theorem tx_rest.df {h h' : ab_H} (hr : tx_rest 3002 h h') : df_rest h h' := fun k a => hr k (by omega)
theorem df_at.n1 {h : ab_H} {U : ST} {v : Nat} (hd : df_at h U) : ∃ im pn pc : Int32, h 3000 = some (.inl (9, df_fs (nI U.2.2.2.1) (la_n U.2.2.2.2.1) im pn pc)) ∧ df_at (ab_up h 3000 (.inl (9, df_fs (nI v) (la_n U.2.2.2.2.1) im pn pc))) (U.1, U.2.1, U.2.2.1, v, U.2.2.2.2) := by
  obtain ⟨pn, hpn, d0, d1, d2, d3, d4, d5, d6, d7, d8, d9, d10, d11, d12, d13, d14⟩ := hd
  exact ⟨_, _, _, d0, pn, hpn, ab_up_s _ _ _, d1.kp (ab_up_n _ _ (by omega)), d2.kp (fun k a b => ab_up_n _ _ (by omega)), d3.kp (fun k a b => ab_up_n _ _ (by omega)), d4.kp (fun k a b => ab_up_n _ _ (by omega)), d5.kp (fun k a b => ab_up_n _ _ (by omega)), d6.imp (fun _ z => z.kp (fun k a b => ab_up_n _ _ (by omega))), d7.imp (fun _ z => z.kp (fun k a b => ab_up_n _ _ (by omega))), d8.kp (fun k a b => ab_up_n _ _ (by omega)), d9.kp (ab_up_n _ _ (by omega)), d10.kp (fun k a b => ab_up_n _ _ (by omega)), d11.imp (fun _ z => z.kp (fun k a b => ab_up_n _ _ (by omega))), d12.imp (fun _ z => z.kp (fun k a b => ab_up_n _ _ (by omega))), d13.imp (fun _ z => z.imp (fun _ y => y.kp (fun k a b => ab_up_n _ _ (by omega)))), d14.kp (fun k a b => ab_up_n _ _ (by omega))⟩
theorem df_at.n2 {h : ab_H} {U : ST} {v : Nat} (hd : df_at h U) : ∃ im pn pc : Int32, h 3000 = some (.inl (9, df_fs (nI U.2.2.2.1) (la_n U.2.2.2.2.1) im pn pc)) ∧ df_at (ab_up h 3000 (.inl (9, df_fs (nI U.2.2.2.1) (la_n v) im pn pc))) (U.1, U.2.1, U.2.2.1, U.2.2.2.1, v, U.2.2.2.2.2) := by
  obtain ⟨pn, hpn, d0, d1, d2, d3, d4, d5, d6, d7, d8, d9, d10, d11, d12, d13, d14⟩ := hd
  exact ⟨_, _, _, d0, pn, hpn, ab_up_s _ _ _, d1.kp (ab_up_n _ _ (by omega)), d2.kp (fun k a b => ab_up_n _ _ (by omega)), d3.kp (fun k a b => ab_up_n _ _ (by omega)), d4.kp (fun k a b => ab_up_n _ _ (by omega)), d5.kp (fun k a b => ab_up_n _ _ (by omega)), d6.imp (fun _ z => z.kp (fun k a b => ab_up_n _ _ (by omega))), d7.imp (fun _ z => z.kp (fun k a b => ab_up_n _ _ (by omega))), d8.kp (fun k a b => ab_up_n _ _ (by omega)), d9.kp (ab_up_n _ _ (by omega)), d10.kp (fun k a b => ab_up_n _ _ (by omega)), d11.imp (fun _ z => z.kp (fun k a b => ab_up_n _ _ (by omega))), d12.imp (fun _ z => z.kp (fun k a b => ab_up_n _ _ (by omega))), d13.imp (fun _ z => z.imp (fun _ y => y.kp (fun k a b => ab_up_n _ _ (by omega)))), d14.kp (fun k a b => ab_up_n _ _ (by omega))⟩
theorem df_at.tp {h : ab_H} {U : ST} {bt : Nat → Nat} (hd : df_at h U) : df_at (ab_up h 3001 (.inr (0, 400, .inl (fun i => nI (bt i))))) (U.1, U.2.1, bt, U.2.2.2) := by
  obtain ⟨pn, hpn, d0, d1, d2, d3, d4, d5, d6, d7, d8, d9, d10, d11, d12, d13, d14⟩ := hd
  exact ⟨pn, hpn, d0.kp (ab_up_n _ _ (by omega)), ab_up_s _ _ _, d2.kp (fun k a b => ab_up_n _ _ (by omega)), d3.kp (fun k a b => ab_up_n _ _ (by omega)), d4.kp (fun k a b => ab_up_n _ _ (by omega)), d5.kp (fun k a b => ab_up_n _ _ (by omega)), d6.imp (fun _ z => z.kp (fun k a b => ab_up_n _ _ (by omega))), d7.imp (fun _ z => z.kp (fun k a b => ab_up_n _ _ (by omega))), d8.kp (fun k a b => ab_up_n _ _ (by omega)), d9.kp (ab_up_n _ _ (by omega)), d10.kp (fun k a b => ab_up_n _ _ (by omega)), d11.imp (fun _ z => z.kp (fun k a b => ab_up_n _ _ (by omega))), d12.imp (fun _ z => z.kp (fun k a b => ab_up_n _ _ (by omega))), d13.imp (fun _ z => z.imp (fun _ y => y.kp (fun k a b => ab_up_n _ _ (by omega)))), d14.kp (fun k a b => ab_up_n _ _ (by omega))⟩
theorem df_at.up0 {h : ab_H} (c : ab_C) : df_rest h (ab_up h 3000 c) := fun k a => ab_up_n _ _ (by omega)
theorem df_at.up1 {h : ab_H} (c : ab_C) : df_rest h (ab_up h 3001 c) := fun k a => ab_up_n _ _ (by omega)
