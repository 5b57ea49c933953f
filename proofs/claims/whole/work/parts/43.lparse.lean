/-! ===== lines of a law: pure ===== -/
def stp (W : lw) (c : Nat) : lw := (W.1, W.2.1 + 1, fun j i => if j = 5 ∧ i = W.2.1 then c else W.2.2 j i)
abbrev PL : Type := Nat × Option lw
def tpv (K : Tk) (a : Nat) : Nat := if nbr K a 0 1000 = 0 then fct K a 0 6 else nbr K a 0 1000 + 16
def prt (K : Tk) (W : lw) (a : Nat) : PL := if tpv K a = 0 then (a, none) else (a + 1, some (stp W (tpv K a - 1)))
/-- more of them, each behind a sign or word k; the step c joins two -/
def lpO (K : Tk) (f : lw → Nat → PL) (k c : Nat) : Nat → lw → Nat → PL
  | 0, W, a => (a, some W)
  | n + 1, W, a => if K.2.1 a = k then (match f W (a + 1) with
    | (b, none) => (b, none)
    | (b, some W1) => lpO K f k c n (stp W1 c) b) else (a, some W)
def bn1 (K : Tk) (f : lw → Nat → PL) (k c : Nat) (W : lw) (a : Nat) : PL := match f W a with
  | (b, none) => (b, none)
  | (b, some W1) => lpO K f k c 400 W1 b
def rsm (K : Tk) (W : lw) (a : Nat) : PL := bn1 K (prt K) 9 10 W a
def rcp2 (K : Tk) (c : Nat) (W : lw) (a : Nat) : PL := match rsm K W a with
  | (b, none) => (b, none)
  | (b, some W1) => (b, some (stp W1 c))
def rcp (K : Tk) (W : lw) (a : Nat) : PL := match rsm K W a with
  | (b, none) => (b, none)
  | (b, some W1) => if K.2.1 b = 7 then rcp2 K 11 W1 (b + 1) else if K.2.1 b = 8 then rcp2 K 12 W1 (b + 1) else (b, none)
def rbs (K : Tk) (W : lw) (a : Nat) : PL := if fct K a 7 9 = 0 then rcp K W a else (a + 1, some (stp W (fct K a 7 9 - 1)))
def ntP (p : PL) : PL := match p with
  | (b, none) => (b, none)
  | (b, some W1) => (b, some (stp W1 15))
def clP (K : Tk) (p : PL) : PL := match p with
  | (b, none) => (b, none)
  | (b, some W1) => if K.2.1 b = 6 then (b + 1, some W1) else (b, none)
def rat (K : Tk) : Nat → lw → Nat → PL
  | 0, W, a => if K.2.1 a = 28 ∨ K.2.1 a = 5 then (a, none) else rbs K W a
  | e + 1, W, a => if K.2.1 a = 28 then ntP (rat K e W (a + 1)) else if K.2.1 a = 5 then clP K (bn1 K (bn1 K (rat K e) 27 13) 26 14 W (a + 1)) else rbs K W a
def rcd (K : Tk) (e : Nat) (W : lw) (a : Nat) : PL := bn1 K (bn1 K (rat K e) 27 13) 26 14 W a
def addL (W : lw) (kd am b : Nat) : lw := match W.1 with
  | 0 => W
  | n + 1 => (n + 2, W.2.1, fun j i => if i = n then (if j = 1 then kd else if j = 2 then am else if j = 3 then b else if j = 4 then W.2.1 else W.2.2 j i) else W.2.2 j i)
def rdW2 (K : Tk) (W : lw) (kd am b : Nat) : PL := if K.2.1 b = 25 then (match rcd K 6 W (b + 1) with
    | (c, none) => (c, none)
    | (c, some W1) => (c, some (addL W1 kd am W.2.1))) else (b, some (addL W kd am W.2.1))
def rdW (K : Tk) (W : lw) (a : Nat) : PL :=
  if K.2.1 a = 22 then (if nbr K (a + 1) 0 101 = 0 then (a + 1, none) else rdW2 K W 0 (nbr K (a + 1) 0 101 - 1) (a + 2))
  else if K.2.1 a = 23 then (if nbr K (a + 1) 0 101 = 0 then (a + 1, none) else rdW2 K W 1 (nbr K (a + 1) 0 101 - 1) (a + 2))
  else if K.2.1 a = 24 then rdW2 K W 2 1 (a + 1) else (a, none)
/-! how kinds lie on the stack behind some steps -/
def tyF (cd : Nat → Nat) (b : Nat) (T0 : List Bool) : Nat → Option (List Bool)
  | 0 => some T0
  | k + 1 => (tyF cd b T0 k).bind fun T => tstep T (cd (b + k))
theorem tyF_N (cd : Nat → Nat) (b : Nat) : ∀ k, tyF cd b [] k = tyN cd b k
  | 0 => rfl
  | k + 1 => by unfold tyF tyN; rw [tyF_N cd b k]
theorem tyF_c {cd cd' : Nat → Nat} {b : Nat} {T0 : List Bool} : ∀ {k : Nat}, (∀ i, i < k → cd (b + i) = cd' (b + i)) → tyF cd b T0 k = tyF cd' b T0 k
  | 0, _ => rfl
  | k + 1, h => by
    unfold tyF
    rw [tyF_c (k := k) (fun i hi => h i (by omega)), h k (by omega)]
theorem tyF_a {cd : Nat → Nat} {b : Nat} {T0 T1 : List Bool} {k1 : Nat} (h : tyF cd b T0 k1 = some T1) : ∀ k2, tyF cd b T0 (k1 + k2) = tyF cd (b + k1) T1 k2
  | 0 => by rw [Nat.add_zero, h]; rfl
  | k + 1 => by
    rw [← Nat.add_assoc]
    unfold tyF
    rw [tyF_a h k, Nat.add_assoc]
/-- some steps more: one thing more of the kind t on the stack, at most B above what lay there -/
def ext (W W1 : lw) (t : Bool) (B : Nat) : Prop := W1.1 = W.1 ∧ W.2.1 ≤ W1.2.1 ∧ (∀ j i, (j ≠ 5 ∨ i < W.2.1) → W1.2.2 j i = W.2.2 j i) ∧ ∀ T0 : List Bool, tyF (W1.2.2 5) W.2.1 T0 (W1.2.1 - W.2.1) = some (t :: T0) ∧ ∀ k, k ≤ W1.2.1 - W.2.1 → ∃ T, tyF (W1.2.2 5) W.2.1 T0 k = some T ∧ T.length ≤ T0.length + B
theorem ext.weak {W W1 : lw} {t : Bool} {B B' : Nat} (h : ext W W1 t B) (hB : B ≤ B') : ext W W1 t B' := by
  obtain ⟨h1, h2, h3, h4⟩ := h
  refine ⟨h1, h2, h3, fun T0 => ⟨(h4 T0).1, fun k hk => ?_⟩⟩
  obtain ⟨T, a1, a2⟩ := (h4 T0).2 k hk
  exact ⟨T, a1, by omega⟩
theorem stp_5 (W : lw) (c i : Nat) : (stp W c).2.2 5 i = if i = W.2.1 then c else W.2.2 5 i := by
  show (if 5 = 5 ∧ i = W.2.1 then c else W.2.2 5 i) = _
  simp
theorem stp_o (W : lw) (c : Nat) {j i : Nat} (h : j ≠ 5 ∨ i < W.2.1) : (stp W c).2.2 j i = W.2.2 j i := by
  show (if j = 5 ∧ i = W.2.1 then c else W.2.2 j i) = _
  rw [if_neg (by omega)]
theorem ext_one {W : lw} {c : Nat} {t : Bool} (h : ∀ T, tstep T c = some (t :: T)) : ext W (stp W c) t 1 := by
  refine ⟨rfl, Nat.le_succ _, fun j i hj => stp_o W c hj, fun T0 => ?_⟩
  have e1 : (stp W c).2.1 - W.2.1 = 1 := by show W.2.1 + 1 - W.2.1 = 1; omega
  have e2 : tyF ((stp W c).2.2 5) W.2.1 T0 1 = some (t :: T0) := by
    show (some T0).bind _ = _
    rw [Option.bind_some, Nat.add_zero, stp_5, if_pos rfl]
    exact h T0
  rw [e1]
  refine ⟨e2, fun k hk => ?_⟩
  rcases (show k = 0 ∨ k = 1 by omega) with rfl | rfl
  · exact ⟨T0, rfl, by omega⟩
  · exact ⟨t :: T0, e2, by simp⟩
/-- behind two such: joined -/
theorem ext_bin {W W1 W2 : lw} {c B1 B2 B : Nat} {t1 t : Bool} (h1 : ext W W1 t1 B1) (h2 : ext W1 W2 t1 B2) (h : ∀ T, tstep (t1 :: t1 :: T) c = some (t :: T)) (hB1 : B1 ≤ B) (hB2 : B2 + 1 ≤ B) : ext W (stp W2 c) t B := by
  obtain ⟨a1, a2, a3, a4⟩ := h1
  obtain ⟨b1, b2, b3, b4⟩ := h2
  refine ⟨b1.trans a1, by show W.2.1 ≤ W2.2.1 + 1; omega, fun j i hj => ?_, fun T0 => ?_⟩
  · rw [stp_o W2 c (by omega), b3 j i (by omega), a3 j i hj]
  · have cA : ∀ k, k ≤ W1.2.1 - W.2.1 → tyF ((stp W2 c).2.2 5) W.2.1 T0 k = tyF (W1.2.2 5) W.2.1 T0 k := fun k hk => tyF_c (fun i hi => by rw [stp_o W2 c (Or.inr (by omega)), b3 5 _ (Or.inr (by omega))])
    have cB : ∀ k T, k ≤ W2.2.1 - W1.2.1 → tyF ((stp W2 c).2.2 5) W1.2.1 T k = tyF (W2.2.2 5) W1.2.1 T k := fun k T hk => tyF_c (fun i hi => by rw [stp_o W2 c (Or.inr (by omega))])
    have e1 : tyF ((stp W2 c).2.2 5) W.2.1 T0 (W1.2.1 - W.2.1) = some (t1 :: T0) := by rw [cA _ (Nat.le_refl _)]; exact (a4 T0).1
    have e2 : ∀ k, tyF ((stp W2 c).2.2 5) W.2.1 T0 (W1.2.1 - W.2.1 + k) = tyF ((stp W2 c).2.2 5) W1.2.1 (t1 :: T0) k := fun k => by
      rw [tyF_a e1 k, show W.2.1 + (W1.2.1 - W.2.1) = W1.2.1 by omega]
    have e3 : tyF ((stp W2 c).2.2 5) W1.2.1 (t1 :: T0) (W2.2.1 - W1.2.1) = some (t1 :: t1 :: T0) := by rw [cB _ _ (Nat.le_refl _)]; exact (b4 (t1 :: T0)).1
    have e4 : tyF ((stp W2 c).2.2 5) W1.2.1 (t1 :: T0) (W2.2.1 - W1.2.1 + 1) = some (t :: T0) := by
      show (tyF _ _ _ (W2.2.1 - W1.2.1)).bind _ = _
      rw [e3, Option.bind_some, show W1.2.1 + (W2.2.1 - W1.2.1) = W2.2.1 by omega, stp_5, if_pos rfl]
      exact h T0
    have eL : (stp W2 c).2.1 - W.2.1 = W1.2.1 - W.2.1 + (W2.2.1 - W1.2.1 + 1) := by show W2.2.1 + 1 - W.2.1 = _; omega
    rw [eL]
    refine ⟨by rw [e2]; exact e4, fun k hk => ?_⟩
    rcases Nat.lt_or_ge k (W1.2.1 - W.2.1 + 1) with q | q
    · obtain ⟨T, x1, x2⟩ := (a4 T0).2 k (by omega)
      exact ⟨T, by rw [cA k (by omega)]; exact x1, by omega⟩
    · obtain ⟨k', rfl⟩ : ∃ k', k = W1.2.1 - W.2.1 + k' := ⟨k - (W1.2.1 - W.2.1), by omega⟩
      rw [e2]
      rcases Nat.lt_or_ge k' (W2.2.1 - W1.2.1 + 1) with q2 | q2
      · obtain ⟨T, x1, x2⟩ := (b4 (t1 :: T0)).2 k' (by omega)
        exact ⟨T, by rw [cB k' _ (by omega)]; exact x1, by simp at x2; omega⟩
      · rw [show k' = W2.2.1 - W1.2.1 + 1 by omega]
        exact ⟨t :: T0, e4, by simp; omega⟩
theorem ext_not {W W1 : lw} {B : Nat} (h1 : ext W W1 true B) (hB : 1 ≤ B) : ext W (stp W1 15) true B := by
  obtain ⟨a1, a2, a3, a4⟩ := h1
  refine ⟨a1, by show W.2.1 ≤ W1.2.1 + 1; omega, fun j i hj => ?_, fun T0 => ?_⟩
  · rw [stp_o W1 15 (by omega), a3 j i hj]
  · have cA : ∀ k, k ≤ W1.2.1 - W.2.1 → tyF ((stp W1 15).2.2 5) W.2.1 T0 k = tyF (W1.2.2 5) W.2.1 T0 k := fun k hk => tyF_c (fun i hi => by rw [stp_o W1 15 (Or.inr (by omega))])
    have e1 : tyF ((stp W1 15).2.2 5) W.2.1 T0 (W1.2.1 - W.2.1) = some (true :: T0) := by rw [cA _ (Nat.le_refl _)]; exact (a4 T0).1
    have e4 : tyF ((stp W1 15).2.2 5) W.2.1 T0 (W1.2.1 - W.2.1 + 1) = some (true :: T0) := by
      show (tyF _ _ _ (W1.2.1 - W.2.1)).bind _ = _
      rw [e1, Option.bind_some, show W.2.1 + (W1.2.1 - W.2.1) = W1.2.1 by omega, stp_5, if_pos rfl]
      rfl
    have eL : (stp W1 15).2.1 - W.2.1 = W1.2.1 - W.2.1 + 1 := by show W1.2.1 + 1 - W.2.1 = _; omega
    rw [eL]
    refine ⟨e4, fun k hk => ?_⟩
    rcases Nat.lt_or_ge k (W1.2.1 - W.2.1 + 1) with q | q
    · obtain ⟨T, x1, x2⟩ := (a4 T0).2 k (by omega)
      exact ⟨T, by rw [cA k (by omega)]; exact x1, x2⟩
    · rw [show k = W1.2.1 - W.2.1 + 1 by omega]
      exact ⟨true :: T0, e4, by simp; omega⟩
/-- what a reader of such things does: it goes on, not behind the last, with no more steps than things; steps within bounds -/
def wb (W : lw) : Prop := ∀ k, W.2.2 5 k < 1016
def rgo (K : Tk) (f : lw → Nat → PL) (t : Bool) (B : Nat) : Prop := ∀ W a, a ≤ K.1 → (f W a).1 ≤ K.1 ∧ ∀ W1, (f W a).2 = some W1 → a < (f W a).1 ∧ W1.2.1 + a ≤ W.2.1 + (f W a).1 ∧ ext W W1 t B ∧ (wb W → wb W1)
theorem wb_stp {W : lw} {c : Nat} (h : wb W) (hc : c < 1016) : wb (stp W c) := fun k => by
  rw [stp_5]
  split
  · exact hc
  · exact h k
theorem tpv_le (K : Tk) (a : Nat) (hK : tk_ok K) : tpv K a ≤ 1016 := by
  unfold tpv
  have h1 := nbr_le K a 0 1000
  split
  · unfold fct
    have := ftk_le (K.2.1 a) (hK.2.2.1 a)
    split <;> omega
  · omega
theorem fct_le (K : Tk) {a lo hi : Nat} : fct K a lo hi ≤ hi + 1 ∧ (fct K a lo hi ≠ 0 → lo + 1 ≤ fct K a lo hi) := by
  unfold fct
  split
  · rename_i q; exact ⟨q.2, fun _ => q.1⟩
  · exact ⟨by omega, fun h => absurd rfl h⟩
theorem tst_push {c : Nat} (h : c < 7 ∨ (16 ≤ c ∧ c < 1016)) (T : List Bool) : tstep T c = some (false :: T) := by
  unfold tstep
  rcases h with h | h
  · rw [if_pos h]
  · rw [if_neg (by omega), if_neg (by omega), if_pos h.1, if_pos h.2]
theorem tst_tag {c : Nat} (h1 : 7 ≤ c) (h2 : c < 10) (T : List Bool) : tstep T c = some (true :: T) := by
  unfold tstep
  rw [if_neg (by omega), if_pos h2]
theorem rgo_prt {K : Tk} (hK : tk_ok K) : rgo K (prt K) false 1 := by
  intro W a ha
  unfold prt
  by_cases q : tpv K a = 0
  · rw [if_pos q]
    exact ⟨ha, fun W1 h => by cases h⟩
  · rw [if_neg q]
    have hk0 : K.2.1 a ≠ 0 := by
      unfold tpv at q
      split at q
      · exact fct_k q
      · rename_i z; exact nbr_k z
    have hlt := tk_lt hK ha hk0
    have hle := tpv_le K a hK
    refine ⟨hlt, fun W1 h => ?_⟩
    cases h
    refine ⟨Nat.lt_succ_self a, by show W.2.1 + 1 + a ≤ W.2.1 + (a + 1); omega, ext_one (fun T => tst_push ?_ T), fun h => wb_stp h (by omega)⟩
    unfold tpv
    unfold tpv at q hle
    split
    · rename_i z
      have := (fct_le K (a := a) (lo := 0) (hi := 6)).1
      rw [if_pos z] at q
      omega
    · rename_i z
      rw [if_neg z] at hle
      omega
theorem rgo_lpO {K : Tk} (hK : tk_ok K) {f : lw → Nat → PL} {t : Bool} {B k c : Nat} (hf : rgo K f t B) (hk : k ≠ 0) (hc : ∀ T, tstep (t :: t :: T) c = some (t :: T)) (hc2 : c < 1016) {W0 : lw} {a0 : Nat} : ∀ (n : Nat) (W : lw) (a : Nat), a ≤ K.1 → a0 < a → W.2.1 + a0 ≤ W0.2.1 + a → ext W0 W t (B + 1) → (wb W0 → wb W) →
    (lpO K f k c n W a).1 ≤ K.1 ∧ ∀ W1, (lpO K f k c n W a).2 = some W1 → a0 < (lpO K f k c n W a).1 ∧ W1.2.1 + a0 ≤ W0.2.1 + (lpO K f k c n W a).1 ∧ ext W0 W1 t (B + 1) ∧ (wb W0 → wb W1) := by
  intro n
  induction n with
  | zero =>
    intro W a ha h1 h2 h3 h4
    exact ⟨ha, fun W1 h => by cases h; exact ⟨h1, h2, h3, h4⟩⟩
  | succ n ih =>
    intro W a ha h1 h2 h3 h4
    unfold lpO
    by_cases q : K.2.1 a = k
    · rw [if_pos q]
      have hlt := tk_lt hK ha (by omega)
      obtain ⟨g1, g2⟩ := hf W (a + 1) hlt
      cases hx : f W (a + 1) with
      | mk b o =>
        rw [hx] at g1 g2
        cases o with
        | none => exact ⟨g1, fun W1 h => by cases h⟩
        | some W1 =>
          obtain ⟨g3, g4, g5, g6⟩ := g2 W1 rfl
          dsimp only at g1 g3 g4
          exact ih (stp W1 c) b g1 (by omega) (by show W1.2.1 + 1 + a0 ≤ W0.2.1 + b; omega) (ext_bin h3 g5 hc (Nat.le_refl _) (Nat.le_refl _)) (fun z => wb_stp (g6 (h4 z)) hc2)
    · rw [if_neg q]
      exact ⟨ha, fun W1 h => by cases h; exact ⟨h1, h2, h3, h4⟩⟩
theorem rgo_bn1 {K : Tk} (hK : tk_ok K) {f : lw → Nat → PL} {t : Bool} {B k c : Nat} (hf : rgo K f t B) (hk : k ≠ 0) (hc : ∀ T, tstep (t :: t :: T) c = some (t :: T)) (hc2 : c < 1016) : rgo K (bn1 K f k c) t (B + 1) := by
  intro W a ha
  obtain ⟨g1, g2⟩ := hf W a ha
  unfold bn1
  cases hx : f W a with
  | mk b o =>
    rw [hx] at g1 g2
    cases o with
    | none => exact ⟨g1, fun W1 h => by cases h⟩
    | some W1 =>
      obtain ⟨g3, g4, g5, g6⟩ := g2 W1 rfl
      exact rgo_lpO hK hf hk hc hc2 400 W1 b g1 g3 g4 (g5.weak (by omega)) g6
theorem tst_add (T : List Bool) : tstep (false :: false :: T) 10 = some (false :: T) := rfl
theorem tst_lt (T : List Bool) : tstep (false :: false :: T) 11 = some (true :: T) := rfl
theorem tst_gt (T : List Bool) : tstep (false :: false :: T) 12 = some (true :: T) := rfl
theorem tst_and (T : List Bool) : tstep (true :: true :: T) 13 = some (true :: T) := rfl
theorem tst_or (T : List Bool) : tstep (true :: true :: T) 14 = some (true :: T) := rfl
theorem rgo_rsm {K : Tk} (hK : tk_ok K) : rgo K (rsm K) false 2 := rgo_bn1 hK (rgo_prt hK) (by omega) tst_add (by omega)
theorem rgo_rcp2 {K : Tk} (hK : tk_ok K) {c a0 : Nat} (hc : ∀ T, tstep (false :: false :: T) c = some (true :: T)) (hc2 : c < 1016) {W0 W : lw} {a : Nat} (ha : a ≤ K.1) (h1 : a0 < a) (h2 : W.2.1 + 1 + a0 ≤ W0.2.1 + a) (h3 : ext W0 W false 2) (h4 : wb W0 → wb W) : (rcp2 K c W a).1 ≤ K.1 ∧ ∀ W1, (rcp2 K c W a).2 = some W1 → a0 < (rcp2 K c W a).1 ∧ W1.2.1 + a0 ≤ W0.2.1 + (rcp2 K c W a).1 ∧ ext W0 W1 true 3 ∧ (wb W0 → wb W1) := by
  obtain ⟨g1, g2⟩ := rgo_rsm hK W a ha
  unfold rcp2
  cases hx : rsm K W a with
  | mk b o =>
    rw [hx] at g1 g2
    cases o with
    | none => exact ⟨g1, fun W1 h => by cases h⟩
    | some W1 =>
      obtain ⟨g3, g4, g5, g6⟩ := g2 W1 rfl
      dsimp only at g1 g3 g4
      refine ⟨g1, fun W2 h => ?_⟩
      cases h
      exact ⟨by dsimp only; omega, by show W1.2.1 + 1 + a0 ≤ W0.2.1 + b; omega, ext_bin h3 g5 hc (by omega) (by omega), fun z => wb_stp (g6 (h4 z)) hc2⟩
theorem rgo_rcp {K : Tk} (hK : tk_ok K) : rgo K (rcp K) true 3 := by
  intro W a ha
  obtain ⟨g1, g2⟩ := rgo_rsm hK W a ha
  unfold rcp
  cases hx : rsm K W a with
  | mk b o =>
    rw [hx] at g1 g2
    cases o with
    | none => exact ⟨g1, fun W1 h => by cases h⟩
    | some W1 =>
      obtain ⟨g3, g4, g5, g6⟩ := g2 W1 rfl
      dsimp only at g1 g3 g4 ⊢
      by_cases q : K.2.1 b = 7
      · rw [if_pos q]
        exact rgo_rcp2 hK tst_lt (by omega) (tk_lt hK g1 (by omega)) (by omega) (by omega) g5 g6
      · rw [if_neg q]
        by_cases q2 : K.2.1 b = 8
        · rw [if_pos q2]
          exact rgo_rcp2 hK tst_gt (by omega) (tk_lt hK g1 (by omega)) (by omega) (by omega) g5 g6
        · rw [if_neg q2]
          exact ⟨g1, fun W1 h => by cases h⟩
theorem rgo_rbs {K : Tk} (hK : tk_ok K) : rgo K (rbs K) true 3 := by
  intro W a ha
  unfold rbs
  by_cases q : fct K a 7 9 = 0
  · rw [if_pos q]
    exact rgo_rcp hK W a ha
  · rw [if_neg q]
    obtain ⟨l1, l2⟩ := fct_le K (a := a) (lo := 7) (hi := 9)
    have l2 := l2 q
    refine ⟨tk_lt hK ha (fct_k q), fun W1 h => ?_⟩
    cases h
    exact ⟨Nat.lt_succ_self a, by show W.2.1 + 1 + a ≤ W.2.1 + (a + 1); omega, (ext_one (fun T => tst_tag (by omega) (by omega) T)).weak (by omega), fun h => wb_stp h (by omega)⟩
theorem rgo_rat {K : Tk} (hK : tk_ok K) : ∀ e, rgo K (rat K e) true (3 + 2 * e)
  | 0 => by
    intro W a ha
    unfold rat
    split
    · exact ⟨ha, fun W1 h => by cases h⟩
    · exact rgo_rbs hK W a ha
  | e + 1 => by
    have ih := rgo_rat hK e
    have ihc := rgo_bn1 hK (rgo_bn1 hK ih (k := 27) (by omega) tst_and (by omega)) (k := 26) (by omega) tst_or (by omega)
    intro W a ha
    unfold rat
    by_cases q : K.2.1 a = 28
    · rw [if_pos q]
      have hlt := tk_lt hK ha (by omega)
      obtain ⟨g1, g2⟩ := ih W (a + 1) hlt
      cases hx : rat K e W (a + 1) with
      | mk b o =>
        rw [hx] at g1 g2
        cases o with
        | none => exact ⟨g1, fun W1 h => by cases h⟩
        | some W1 =>
          obtain ⟨g3, g4, g5, g6⟩ := g2 W1 rfl
          dsimp only at g1 g3 g4
          refine ⟨g1, fun W2 h => ?_⟩
          cases h
          exact ⟨by show a < b; omega, by show W1.2.1 + 1 + a ≤ W.2.1 + b; omega, (ext_not g5 (by omega)).weak (by omega), fun z => wb_stp (g6 z) (by omega)⟩
    · rw [if_neg q]
      by_cases q2 : K.2.1 a = 5
      · rw [if_pos q2]
        have hlt := tk_lt hK ha (by omega)
        obtain ⟨g1, g2⟩ := ihc W (a + 1) hlt
        cases hx : bn1 K (bn1 K (rat K e) 27 13) 26 14 W (a + 1) with
        | mk b o =>
          rw [hx] at g1 g2
          cases o with
          | none => exact ⟨g1, fun W1 h => by cases h⟩
          | some W1 =>
            obtain ⟨g3, g4, g5, g6⟩ := g2 W1 rfl
            dsimp only at g1 g3 g4
            unfold clP
            dsimp only
            by_cases q3 : K.2.1 b = 6
            · rw [if_pos q3]
              refine ⟨tk_lt hK g1 (by omega), fun W2 h => ?_⟩
              cases h
              exact ⟨by dsimp only; omega, by dsimp only; omega, g5.weak (by omega), g6⟩
            · rw [if_neg q3]
              exact ⟨g1, fun W1 h => by cases h⟩
      · rw [if_neg q2]
        obtain ⟨g1, g2⟩ := rgo_rbs hK W a ha
        refine ⟨g1, fun W1 h => ?_⟩
        obtain ⟨g3, g4, g5, g6⟩ := g2 W1 h
        exact ⟨g3, g4, g5.weak (by omega), g6⟩
theorem rgo_rcd {K : Tk} (hK : tk_ok K) (e : Nat) : rgo K (rcd K e) true (5 + 2 * e) := by
  have h := rgo_bn1 hK (rgo_bn1 hK (rgo_rat hK e) (k := 27) (by omega) tst_and (by omega)) (k := 26) (by omega) tst_or (by omega)
  intro W a ha
  obtain ⟨g1, g2⟩ := h W a ha
  refine ⟨g1, fun W1 h => ?_⟩
  obtain ⟨g3, g4, g5, g6⟩ := g2 W1 h
  exact ⟨g3, g4, g5.weak (by omega), g6⟩
