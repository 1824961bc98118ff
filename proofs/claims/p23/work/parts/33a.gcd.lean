-- ==================== numbers without a sign behind ints
theorem zMulN {x y : Int32} {a b : Nat} (hx : x.toInt = a) (hy : y.toInt = b) (h : a * b < 2147483648) : (x * y).toInt = ((a * b : Nat) : Int) := by
  rw [Int32.toInt_mul, hx, hy, ← Int.natCast_mul]
  exact Int.bmod_eq_of_le (by omega) (by omega)
theorem zDivN {x y : Int32} {a b : Nat} (hx : x.toInt = a) (hy : y.toInt = b) (h : 1 ≤ b) : (x / y).toInt = ((a / b : Nat) : Int) := by
  rw [zdvv (by omega) (by omega), hx, hy]
  rfl
theorem zDvdN {x y : Int32} {a b : Nat} (hx : x.toInt = a) (hy : y.toInt = b) (h : 1 ≤ b) : zr x y = 0 ↔ b ∣ a := by
  rw [zr0 (by omega) (by omega), hx, hy]
  exact Int.natCast_dvd_natCast
theorem zAddN {x : Int32} {a : Nat} (hx : x.toInt = a) (h : a < 2000000000) : (x + (1 : Int32)).toInt = ((a + 1 : Nat) : Int) := by
  have o1 : (1 : Int32).toInt = 1 := by decide
  rw [zad (x := x) (c := (1 : Int32)) (by omega) (by omega), o1, hx]
  rfl
theorem zNn {x : Int32} (h : 0 ≤ x.toInt) : ∃ a : Nat, x.toInt = a := ⟨x.toInt.toNat, by omega⟩
/-- both tests of a range answer alike -/
theorem zni (x lo hi : Int32) : (p_X7_need x lo hi = some 0 ∧ p_X9_isIn x lo hi = some true ∧ lo.toInt ≤ x.toInt ∧ x.toInt ≤ hi.toInt) ∨ (p_X7_need x lo hi = some 2 ∧ p_X9_isIn x lo hi = some false) := by
  unfold p_X7_need p_X9_isIn
  by_cases h1 : x < lo
  · right
    rw [if_pos h1, if_pos h1]
    exact ⟨rfl, rfl⟩
  · rw [if_neg h1, if_neg h1]
    by_cases h2 : x ≤ hi
    · left
      rw [if_pos h2, if_neg (Int32.not_lt.mpr h2)]
      exact ⟨rfl, rfl, Int32.le_iff_toInt_le.mp (Int32.not_lt.mp h1), Int32.le_iff_toInt_le.mp h2⟩
    · right
      rw [if_neg h2, if_pos (Int32.not_le.mp h2)]
      exact ⟨rfl, rfl⟩
-- ==================== the greatest common divisor, both ways
