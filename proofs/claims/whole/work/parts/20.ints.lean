/-! Int32 by whole numbers -/
def ci_i (z : Int) : Int32 := Int32.ofInt z
theorem ci_nat (n : Nat) : ci_i (n : Int) = nI n := Int32.ofInt_eq_ofNat
theorem ci_to {z : Int} (h : -2147483648 ≤ z) (h2 : z < 2147483648) : (ci_i z).toInt = z := Int32.toInt_ofInt_of_le (by omega) (by omega)
theorem ci_of (x : Int32) : x = ci_i x.toInt := (Int32.ofInt_toInt x).symm
theorem ci_rng (x : Int32) : -2147483648 ≤ x.toInt ∧ x.toInt < 2147483648 := by
  have h1 := Int32.le_toInt x
  have h2 := Int32.toInt_lt x
  omega
theorem ci_add (a b : Int) : ci_i a + ci_i b = ci_i (a + b) := (Int32.ofInt_add a b).symm
theorem ci_sub (a b : Int) : ci_i a - ci_i b = ci_i (a - b) := (Int32.ofInt_sub a b).symm
theorem ci_mul (a b : Int) : ci_i a * ci_i b = ci_i (a * b) := (Int32.ofInt_mul a b).symm
theorem ci_eq {a b : Int} (ha : -2147483648 ≤ a ∧ a < 2147483648) (hb : -2147483648 ≤ b ∧ b < 2147483648) : ci_i a = ci_i b ↔ a = b := by
  constructor
  · intro h
    have := congrArg Int32.toInt h
    rwa [ci_to ha.1 ha.2, ci_to hb.1 hb.2] at this
  · intro h
    rw [h]
theorem ci_lt {a b : Int} (ha : -2147483648 ≤ a ∧ a < 2147483648) (hb : -2147483648 ≤ b ∧ b < 2147483648) : ci_i a < ci_i b ↔ a < b := by
  rw [Int32.lt_iff_toInt_lt, ci_to ha.1 ha.2, ci_to hb.1 hb.2]
theorem ci_le {a b : Int} (ha : -2147483648 ≤ a ∧ a < 2147483648) (hb : -2147483648 ≤ b ∧ b < 2147483648) : ci_i a ≤ ci_i b ↔ a ≤ b := by
  rw [Int32.le_iff_toInt_le, ci_to ha.1 ha.2, ci_to hb.1 hb.2]
theorem ci_0 : (0 : Int32) = ci_i 0 := by decide
theorem ci_1 : (1 : Int32) = ci_i 1 := by decide
theorem ci_2 : (2 : Int32) = ci_i 2 := by decide
theorem ci_m1 : (-1 : Int32) = ci_i (-1) := by decide
theorem ci_m2 : (-2 : Int32) = ci_i (-2) := by decide
theorem ci_99 : (99 : Int32) = ci_i 99 := by decide
theorem ci_100 : (100 : Int32) = ci_i 100 := by decide
theorem ci_1000 : (1000 : Int32) = ci_i 1000 := by decide
theorem ci_2000 : (2000 : Int32) = ci_i 2000 := by decide
theorem ci_cl {n : Nat} (h : n < 2147483648) : (ci_i (n : Int)).toNatClampNeg = n := by
  rw [ci_nat]
  exact nI_clamp (by omega)
theorem ci_in {n N : Nat} (h : n < N) (hN : N < 2147483648) : vp_in (ci_i (n : Int)) N := by
  rw [ci_nat]
  exact vp_in_nI h (by omega)
