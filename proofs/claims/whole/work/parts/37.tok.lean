/-! ===== a text parted into things: pure ===== -/
/-- the first place from i on, below n, that isn't so; n -/
def scnF (p : Nat → Bool) : Nat → Nat → Nat
  | 0, i => i
  | f + 1, i => if p i = true then scnF p f (i + 1) else i
def scn (p : Nat → Bool) (n i : Nat) : Nat := scnF p (n - i) i
theorem scn_y {p : Nat → Bool} {n i : Nat} (h : i < n) (hp : p i = true) : scn p n i = scn p n (i + 1) := by
  unfold scn
  rw [show n - i = (n - (i + 1)) + 1 by omega]
  show (if p i = true then scnF p (n - (i + 1)) (i + 1) else i) = _
  rw [if_pos hp]
theorem scn_n {p : Nat → Bool} {n i : Nat} (hp : p i = false) : scn p n i = i := by
  unfold scn
  cases n - i with
  | zero => rfl
  | succ k => unfold scnF; rw [if_neg (by rw [hp]; decide)]
theorem scn_e {p : Nat → Bool} {n i : Nat} (h : n ≤ i) : scn p n i = i := by
  unfold scn
  rw [show n - i = 0 by omega]
  rfl
theorem scnF_ge (p : Nat → Bool) : ∀ f i, i ≤ scnF p f i
  | 0, i => Nat.le_refl _
  | f + 1, i => by
    unfold scnF
    split
    · have := scnF_ge p f (i + 1); omega
    · exact Nat.le_refl _
theorem scnF_le (p : Nat → Bool) : ∀ f i, scnF p f i ≤ i + f
  | 0, i => Nat.le_refl _
  | f + 1, i => by
    unfold scnF
    split
    · have := scnF_le p f (i + 1); omega
    · omega
theorem scn_ge (p : Nat → Bool) (n i : Nat) : i ≤ scn p n i := scnF_ge p _ i
theorem scn_le (p : Nat → Bool) {n i : Nat} (h : i ≤ n) : scn p n i ≤ n := by
  have := scnF_le p (n - i) i
  unfold scn
  omega
theorem scnF_all (p : Nat → Bool) : ∀ f i q, i ≤ q → q < scnF p f i → p q = true
  | 0, i, q, h1, h2 => by unfold scnF at h2; omega
  | f + 1, i, q, h1, h2 => by
    unfold scnF at h2
    split at h2
    · rename_i hp
      rcases Nat.eq_or_lt_of_le h1 with e | e
      · rw [← e]; exact hp
      · exact scnF_all p f (i + 1) q e h2
    · omega
theorem scn_all (p : Nat → Bool) (n i q : Nat) (h1 : i ≤ q) (h2 : q < scn p n i) : p q = true := scnF_all p _ i q h1 h2
theorem scnF_end (p : Nat → Bool) : ∀ f i, scnF p f i < i + f → p (scnF p f i) = false
  | 0, i, h => by unfold scnF at h; omega
  | f + 1, i, h => by
    unfold scnF at h ⊢
    split
    · rename_i hp
      rw [if_pos hp] at h
      exact scnF_end p f (i + 1) (by omega)
    · rename_i hp
      simpa using hp
theorem scn_end (p : Nat → Bool) {n i : Nat} (h : scn p n i < n) : p (scn p n i) = false := by
  refine scnF_end p _ i ?_
  have := scn_ge p n i
  unfold scn at h this
  omega
theorem scn_idem (p : Nat → Bool) {n i q : Nat} (h1 : i ≤ q) (h2 : q ≤ scn p n i) (hi : i ≤ n) : scn p n q = scn p n i := by
  induction q with
  | zero => rw [show i = 0 by omega]
  | succ q ih =>
    rcases Nat.eq_or_lt_of_le h1 with e | e
    · rw [e]
    · have hq := scn_all p n i q (by omega) (by omega)
      have hl := scn_le p hi
      rw [← scn_y (by omega) hq]
      exact ih (by omega) (by omega)
/-! bytes -/
def isD (x : Nat) : Bool := decide (48 ≤ x) && decide (x ≤ 57)
def isL (x : Nat) : Bool := decide (97 ≤ x) && decide (x ≤ 122)
def isB (x : Nat) : Bool := decide (x = 32)
/-- where the thing that begins at p ends -/
def ted (bt : Nat → Nat) (n p : Nat) : Nat := if isD (bt p) = true then scn (fun q => isD (bt q)) n (p + 1) else if isL (bt p) = true then scn (fun q => isL (bt q)) n (p + 1) else p + 1
theorem ted_gt (bt : Nat → Nat) (n p : Nat) : p < ted bt n p := by
  unfold ted
  split
  · exact scn_ge _ _ _
  · split
    · exact scn_ge _ _ _
    · omega
theorem ted_le {bt : Nat → Nat} {n p : Nat} (h : p < n) : ted bt n p ≤ n := by
  unfold ted
  split
  · exact scn_le _ h
  · split
    · exact scn_le _ h
    · omega
/-- behind the a-th thing; where the a-th begins -/
def tE (bt : Nat → Nat) (n : Nat) : Nat → Nat
  | 0 => 0
  | a + 1 => ted bt n (scn (fun q => isB (bt q)) n (tE bt n a))
def tP (bt : Nat → Nat) (n a : Nat) : Nat := scn (fun q => isB (bt q)) n (tE bt n a)
theorem tE_s (bt : Nat → Nat) (n a : Nat) : tE bt n (a + 1) = ted bt n (tP bt n a) := rfl
theorem tE_ge (bt : Nat → Nat) (n : Nat) : ∀ a, a ≤ tE bt n a
  | 0 => Nat.le_refl _
  | a + 1 => by
    have h1 := tE_ge bt n a
    have h2 := ted_gt bt n (tP bt n a)
    have h3 := scn_ge (fun q => isB (bt q)) n (tE bt n a)
    rw [tE_s]
    unfold tP at h2 ⊢
    omega
/-- the first that is so -/
def frs (p : Nat → Bool) : Nat → Nat
  | 0 => 0
  | n + 1 => if frs p n < n then frs p n else if p n = true then n else n + 1
theorem frs_le (p : Nat → Bool) : ∀ n, frs p n ≤ n
  | 0 => Nat.le_refl _
  | n + 1 => by
    have := frs_le p n
    unfold frs
    split
    · omega
    · split <;> omega
theorem frs_no {p : Nat → Bool} : ∀ {n i : Nat}, i < frs p n → p i = false
  | 0, i, h => by unfold frs at h; omega
  | n + 1, i, h => by
    unfold frs at h
    split at h
    · exact frs_no h
    · rename_i q
      have hn := frs_le p n
      split at h
      · exact frs_no (n := n) (by omega)
      · rename_i q2
        rcases Nat.lt_or_ge i n with z | z
        · exact frs_no (n := n) (by omega)
        · rw [show i = n by omega]; simpa using q2
theorem frs_yes {p : Nat → Bool} : ∀ {n : Nat}, frs p n < n → p (frs p n) = true
  | 0, h => by unfold frs at h; omega
  | n + 1, h => by
    have e : frs p (n + 1) = if frs p n < n then frs p n else if p n = true then n else n + 1 := rfl
    by_cases q : frs p n < n
    · rw [if_pos q] at e
      rw [e]; exact frs_yes q
    · rw [if_neg q] at e
      by_cases q2 : p n = true
      · rw [if_pos q2] at e
        rw [e]; exact q2
      · rw [if_neg q2] at e
        omega
theorem frs_at {p : Nat → Bool} {n i : Nat} (hi : i < n) (hp : p i = true) (hn : ∀ j, j < i → p j = false) : frs p n = i := by
  have h1 : ¬ i < frs p n := fun q => by have := frs_no q; rw [hp] at this; cases this
  have h2 : ¬ frs p n < i := fun q => by
    have := frs_yes (p := p) (n := n) (by omega)
    rw [hn _ q] at this; cases this
  omega
theorem frs_all {p : Nat → Bool} {n : Nat} (hn : ∀ j, j < n → p j = false) : frs p n = n := by
  have h0 := frs_le p n
  rcases Nat.lt_or_ge (frs p n) n with q | q
  · have := frs_yes q
    rw [hn _ q] at this; cases this
  · omega
/-- how many things -/
def tC (bt : Nat → Nat) (n : Nat) : Nat := frs (fun a => decide (n ≤ tP bt n a)) n
theorem tC_le (bt : Nat → Nat) (n : Nat) : tC bt n ≤ n := frs_le _ _
theorem tC_lt {bt : Nat → Nat} {n a : Nat} (h : a < tC bt n) : tP bt n a < n := by
  have := frs_no h
  simpa using this
theorem tE_le {bt : Nat → Nat} {n : Nat} : ∀ {a : Nat}, a ≤ tC bt n → tE bt n a ≤ n
  | 0, _ => Nat.zero_le _
  | a + 1, h => by rw [tE_s]; exact ted_le (tC_lt (by omega))
theorem tP_le {bt : Nat → Nat} {n a : Nat} (h : a ≤ tC bt n) : tP bt n a ≤ n := scn_le _ (tE_le h)
theorem tC_end (bt : Nat → Nat) (n : Nat) : tP bt n (tC bt n) = n := by
  refine Nat.le_antisymm (tP_le (Nat.le_refl _)) ?_
  rcases Nat.lt_or_ge (tC bt n) n with q | q
  · have := frs_yes q
    exact of_decide_eq_true this
  · have h1 := tE_ge bt n (tC bt n)
    have h2 := scn_ge (fun q => isB (bt q)) n (tE bt n (tC bt n))
    unfold tP
    omega
theorem tC_of {bt : Nat → Nat} {n c : Nat} (h1 : ∀ a, a < c → tP bt n a < n) (h2 : tP bt n c = n) (hc : c ≤ n) : tC bt n = c := by
  rcases Nat.lt_or_ge c n with q | q
  · exact frs_at q (by simp [h2]) (fun j hj => by have := h1 j hj; simp; omega)
  · have e : c = n := by omega
    subst e
    exact frs_all (fun j hj => by have := h1 j hj; simp; omega)
/-! what the things are -/
def kb (t j : Nat) : Nat := ((kcT.getD t []).getD j 0).toNatClampNeg
def kln (t : Nat) : Nat := (kcT.getD t []).length
theorem kb_e : ∀ t, t < 48 → ∀ j, j < kln t → (kcT.getD t []).getD j 0 = nI (kb t j) ∧ kb t j < 128 := by decide +kernel
theorem kln_lt : ∀ t, t < 48 → kln t < 40 := by decide +kernel
theorem kcP_lt : ∀ k, k < 29 → kcP.getD k 0 < 48 := by decide +kernel
/-- whether a text t is spelled from b up to e -/
def spl (bt : Nat → Nat) (b e t : Nat) : Bool := decide (e - b = kln t) && !(exb (fun j => decide (bt (b + j) ≠ kb t j)) (kln t))
def kdo (bt : Nat → Nat) (b e o : Nat) : Nat := if frs (fun k => spl bt b e (kcP.getD k 0)) 29 < 29 then frs (fun k => spl bt b e (kcP.getD k 0)) 29 else o
def nmv (bt : Nat → Nat) (b : Nat) : Nat → Nat
  | 0 => 0
  | k + 1 => nmv bt b k * 10 + (bt (b + k) - 48)
/-- letters as marks: 0 they are none; m + 1 they are the set m -/
def mkv (bt : Nat → Nat) (b : Nat) : Nat → Nat
  | 0 => 1
  | k + 1 => match mkv bt b k with
    | 0 => 0
    | m + 1 => if bt (b + k) < 103 ∧ m.testBit (bt (b + k) - 97) = false then (m ||| 2 ^ (bt (b + k) - 97)) + 1 else 0
def tkk (bt : Nat → Nat) (p e : Nat) : Nat := if isD (bt p) = true then 1 else if isL (bt p) = true then kdo bt p e 2 else kdo bt p e 3
def tkv (bt : Nat → Nat) (p e : Nat) : Nat := if isD (bt p) = true then (if 3 < e - p then 1001 else nmv bt p (e - p) + 1) else if isL (bt p) = true then mkv bt p (e - p) else 0
/-- how many; kinds, begins, values (0: none; v + 1: v) -/
abbrev Tk : Type := Nat × (Nat → Nat) × (Nat → Nat) × (Nat → Nat)
def tkD (bt : Nat → Nat) (n : Nat) : Tk := (tC bt n, (fun a => if a < tC bt n then tkk bt (tP bt n a) (tE bt n (a + 1)) else 0), tP bt n, fun a => if a < tC bt n then tkv bt (tP bt n a) (tE bt n (a + 1)) else 0)
def tk_ok (K : Tk) : Prop := K.1 ≤ 400 ∧ K.2.1 K.1 = 0 ∧ (∀ i, K.2.1 i < 29) ∧ (∀ i, i < K.1 → K.2.1 i ≠ 0) ∧ (∀ i, K.2.2.1 i < 2 ^ 31 ∨ K.1 < i) ∧ (∀ i, K.2.2.2 i ≤ 1001) ∧ ∀ i, K.2.1 i ≠ 1 → K.2.2.2 i ≤ 64
theorem kdo_lt {bt : Nat → Nat} {b e o : Nat} (ho : o < 29) : kdo bt b e o < 29 := by
  unfold kdo
  split <;> omega
theorem spl_0 {bt : Nat → Nat} {b e : Nat} (h : b < e) : spl bt b e 41 = false := by
  unfold spl
  rw [show kln 41 = 0 by decide]
  have : decide (e - b = 0) = false := by simp; omega
  rw [this]
  rfl
theorem kcP_4 : ∀ k, k < 4 → kcP.getD k 0 = 41 := by decide
theorem kdo_ge {bt : Nat → Nat} {b e o : Nat} (h : b < e) (ho : 2 ≤ o) : 2 ≤ kdo bt b e o := by
  unfold kdo
  split
  · rename_i q
    rcases Nat.lt_or_ge (frs (fun k => spl bt b e (kcP.getD k 0)) 29) 4 with z | z
    · have := frs_yes q
      rw [kcP_4 _ z, spl_0 h] at this
      cases this
    · omega
  · omega
theorem mkv_le {bt : Nat → Nat} {b : Nat} : ∀ k, mkv bt b k ≤ 64
  | 0 => by unfold mkv; omega
  | k + 1 => by
    have h := mkv_le (bt := bt) (b := b) k
    unfold mkv
    split
    · omega
    · rename_i m e
      split
      · rename_i q
        have h6 : bt (b + k) - 97 < 6 := by omega
        have := nb_lt (a := m) (b := 2 ^ (bt (b + k) - 97)) (by omega) (two6 h6)
        omega
      · omega
theorem nmv_le {bt : Nat → Nat} {b : Nat} : ∀ k, (∀ q, b ≤ q → q < b + k → isD (bt q) = true) → nmv bt b k < 10 ^ k
  | 0, _ => by unfold nmv; decide
  | k + 1, h => by
    have h1 := nmv_le (bt := bt) (b := b) k (fun q a c => h q a (by omega))
    have h2 := h (b + k) (by omega) (by omega)
    unfold isD at h2
    simp at h2
    unfold nmv
    rw [Nat.pow_succ]
    omega
theorem ted_D {bt : Nat → Nat} {n p : Nat} (h : isD (bt p) = true) : ∀ q, p ≤ q → q < ted bt n p → isD (bt q) = true := by
  intro q h1 h2
  unfold ted at h2
  rw [if_pos h] at h2
  rcases Nat.eq_or_lt_of_le h1 with e | e
  · rw [← e]; exact h
  · exact scn_all (fun q => isD (bt q)) n (p + 1) q e h2
theorem ted_L {bt : Nat → Nat} {n p : Nat} (hd : isD (bt p) = false) (h : isL (bt p) = true) : ∀ q, p ≤ q → q < ted bt n p → isL (bt q) = true := by
  intro q h1 h2
  unfold ted at h2
  rw [if_neg (by rw [hd]; decide), if_pos h] at h2
  rcases Nat.eq_or_lt_of_le h1 with e | e
  · rw [← e]; exact h
  · exact scn_all (fun q => isL (bt q)) n (p + 1) q e h2
theorem tkD_ok {bt : Nat → Nat} {n : Nat} (hn : n ≤ 400) : tk_ok (tkD bt n) := by
  have hc := tC_le bt n
  refine ⟨by show tC bt n ≤ 400; omega, ?_, fun i => ?_, fun i hi => ?_, fun i => ?_, fun i => ?_, fun i hi => ?_⟩
  · show (if tC bt n < tC bt n then _ else 0) = 0
    rw [if_neg (by omega)]
  · show (if i < tC bt n then tkk bt (tP bt n i) (tE bt n (i + 1)) else 0) < 29
    split
    · unfold tkk
      split
      · omega
      · split
        · exact kdo_lt (by omega)
        · exact kdo_lt (by omega)
    · omega
  · show (if i < tC bt n then tkk bt (tP bt n i) (tE bt n (i + 1)) else 0) ≠ 0
    have hi : i < tC bt n := hi
    rw [if_pos hi]
    have hg : tP bt n i < tE bt n (i + 1) := by rw [tE_s]; exact ted_gt _ _ _
    unfold tkk
    split
    · omega
    · split
      · have := kdo_ge (bt := bt) (o := 2) hg (by omega); omega
      · have := kdo_ge (bt := bt) (o := 3) hg (by omega); omega
  · show tP bt n i < 2 ^ 31 ∨ tC bt n < i
    rcases Nat.lt_or_ge (tC bt n) i with q | q
    · exact Or.inr q
    · have := tP_le q; omega
  · show (if i < tC bt n then tkv bt (tP bt n i) (tE bt n (i + 1)) else 0) ≤ 1001
    split
    · unfold tkv
      split
      · rename_i hd
        split
        · omega
        · rename_i h3
          have h1 := nmv_le (bt := bt) (b := tP bt n i) (tE bt n (i + 1) - tP bt n i) (fun q a c => ted_D (n := n) hd q a (by rw [tE_s] at c; have := ted_gt bt n (tP bt n i); omega))
          have h2 : 10 ^ (tE bt n (i + 1) - tP bt n i) ≤ 10 ^ 3 := Nat.pow_le_pow_right (by decide) (by omega)
          omega
      · split
        · have := mkv_le (bt := bt) (b := tP bt n i) (tE bt n (i + 1) - tP bt n i); omega
        · omega
    · omega
  · show (if i < tC bt n then tkv bt (tP bt n i) (tE bt n (i + 1)) else 0) ≤ 64
    split
    · rename_i hi2
      have hi3 : tkk bt (tP bt n i) (tE bt n (i + 1)) ≠ 1 := by
        have : (if i < tC bt n then tkk bt (tP bt n i) (tE bt n (i + 1)) else 0) ≠ 1 := hi
        rwa [if_pos hi2] at this
      unfold tkv
      split
      · rename_i hd
        unfold tkk at hi3
        rw [if_pos hd] at hi3
        exact absurd rfl hi3
      · split
        · exact mkv_le _
        · omega
    · omega
