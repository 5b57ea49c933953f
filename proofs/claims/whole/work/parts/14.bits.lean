/-! ===== small numbers: sets of six bits ===== -/
/-- how many of the six lowest bits are set -/
def po (a : Nat) : Nat := (a.testBit 0).toNat + (a.testBit 1).toNat + (a.testBit 2).toNat + (a.testBit 3).toNat + (a.testBit 4).toNat + (a.testBit 5).toNat
theorem po_le (a : Nat) : po a ≤ 6 := by
  unfold po
  have h (b : Bool) : b.toNat ≤ 1 := by cases b <;> decide
  have := h (a.testBit 0); have := h (a.testBit 1); have := h (a.testBit 2); have := h (a.testBit 3); have := h (a.testBit 4); have := h (a.testBit 5)
  omega
theorem nz : (0 : Int32) = nI 0 := rfl
theorem nb_bit : ∀ a, a < 64 → ∀ j, j < 6 → ((nI a >>> (nI j &&& 31) &&& nI 1 = nI 1) = (a.testBit j = true)) := by
  have h : ∀ a, a < 64 → ∀ j, j < 6 → ((nI a >>> (nI j &&& 31) &&& nI 1 = nI 1) ↔ (a.testBit j = true)) := by decide +kernel
  exact fun a ha j hj => propext (h a ha j hj)
theorem nb_bitn : ∀ a, a < 64 → ∀ j, j < 6 → ((nI a >>> (nI j &&& 31) &&& nI 1 = nI 0) = (a.testBit j = false)) := by
  have h : ∀ a, a < 64 → ∀ j, j < 6 → ((nI a >>> (nI j &&& 31) &&& nI 1 = nI 0) ↔ (a.testBit j = false)) := by decide +kernel
  exact fun a ha j hj => propext (h a ha j hj)
theorem nb_sh : ∀ j, j < 6 → nI 1 <<< (nI j &&& 31) = nI (2 ^ j) := by decide +kernel
theorem nb_or (a b : Nat) : nI a ||| nI b = nI (a ||| b) := fa_or a b
theorem nb_and (a b : Nat) : nI a &&& nI b = nI (a &&& b) := fa_and a b
theorem nb_lt {a b : Nat} (ha : a < 64) (hb : b < 64) : a ||| b < 64 := Nat.or_lt_two_pow (n := 6) ha hb
theorem ab_vin {k n : Nat} (h : k < n) (hn : n < 2 ^ 31) : vp_in (nI k) n = True := eq_true (vp_in_nI h hn)
theorem ab_leI {a b : Nat} (ha : a < 2 ^ 31) (hb : b < 2 ^ 31) : (nI a ≤ nI b) = (a ≤ b) := propext (nI_leI ha hb)
theorem ab_ltI {a b : Nat} (ha : a < 2 ^ 31) (hb : b < 2 ^ 31) : (nI a < nI b) = (a < b) := propext (nI_ltI ha hb)
theorem ab_eqI {a b : Nat} (ha : a < 2 ^ 31) (hb : b < 2 ^ 31) : (nI a = nI b) = (a = b) := propext (nI_eq ha hb)
theorem ab_neI {a b : Nat} (ha : a < 2 ^ 31) (hb : b < 2 ^ 31) : (nI a ≠ nI b) = (a ≠ b) := propext (not_congr (nI_eq ha hb))
theorem ab_up_e (h : ab_H) (k j : Nat) (c : ab_C) : ab_up h k c j = if j = k then some c else h j := rfl
/-- a sum -/
def su (f : Nat → Nat) : Nat → Nat
  | 0 => 0
  | n + 1 => su f n + f n
theorem su_le {f : Nat → Nat} {c : Nat} (h : ∀ i, f i ≤ c) : ∀ n, su f n ≤ n * c
  | 0 => Nat.zero_le _
  | n + 1 => by
    have h1 := su_le h n
    have h2 := h n
    have h3 : (n + 1) * c = n * c + c := Nat.succ_mul n c
    unfold su
    omega
