theorem zgi2 {x : Int32} {n : Nat} {v : Int} (e : x.toInt = v) (h0 : 0 ≤ v) (h1 : v < n) : ¬ (x < 0 ∨ n ≤ x.toNatClampNeg) := zgi (by rw [e]; exact h0) (by rw [e]; exact h1)
theorem zam2 {x : Int32} (h : 0 ≤ x.toInt) : (x + (-1 : Int32)).toInt = x.toInt - 1 ∧ ((x + (-1 : Int32)) + (-1 : Int32)).toInt = x.toInt - 2 ∧ (((x + (-1 : Int32)) + (-1 : Int32)) + (-1 : Int32)).toInt = x.toInt - 3 := by
  have g1 : -2147483647 ≤ x.toInt := by omega
  have g2 : -2147483647 ≤ x.toInt - 1 := by omega
  have g3 : -2147483647 ≤ x.toInt - 1 - 1 := by omega
  have e1 := zam (x := x) g1
  have e2 := zam (x := x + (-1 : Int32)) (by rw [e1]; exact g2)
  rw [e1] at e2
  have e3 := zam (x := (x + (-1 : Int32)) + (-1 : Int32)) (by rw [e2]; exact g3)
  rw [e2] at e3
  exact ⟨e1, e2.trans (Int.sub_sub _ 1 1), e3.trans (by rw [Int.sub_sub, Int.sub_sub]; rfl)⟩
theorem zlt2 {x : Int32} {v : Int} {n : Nat} (e : x.toInt = v) (h : v.toNat < n) : x.toInt.toNat < n := by rw [e]; exact h
theorem z100 {v : Int32} : ((-100 : Int32) < v → -100 < v.toInt) ∧ (¬ (-100 : Int32) < v → v.toInt ≤ -100) ∧ (¬ (-9 : Int32) ≤ v → v.toInt ≤ -10) := by
  rw [Int32.lt_iff_toInt_lt, Int32.le_iff_toInt_le, show (-100 : Int32).toInt = -100 from by decide, show (-9 : Int32).toInt = -9 from by decide]
  omega
/-- digits of -v are left to write, from place base up to p -/
def zGc (n2 : Nat) (base v p : Int) (f : Nat → Int32) : Prop := v ≤ 0 ∧ p ≤ n2 ∧ zBy f ∧ ∃ j : Nat, p = base + j ∧ 1 ≤ j ∧ -((10 ^ j : Nat) : Int) < v
theorem zgcS {n2 : Nat} {base v p : Int} {f g : Nat → Int32} (h : zGc n2 base v p f) (hv : v ≤ -100) (hg : zBy g) : zGc n2 base (v.tdiv 100) (p - 2) g := by
  obtain ⟨h1, h2, h3, j, h4, h5, h6⟩ := h
  have t := ztd h1
  match j, h4, h5, h6 with
  | 0, _, h5, _ => omega
  | 1, _, _, h6 => exact absurd h6 (by rw [show (10 ^ 1 : Nat) = 10 from rfl]; omega)
  | i + 2, h4, _, h6 =>
    rw [Nat.pow_succ, Nat.pow_succ] at h6
    refine ⟨by omega, by omega, hg, i, by omega, ?_, by omega⟩
    cases i with
    | zero => rw [show (10 ^ 0 : Nat) = 1 from rfl] at h6; omega
    | succ i => omega
theorem zgcE {n2 : Nat} {base v p : Int} {f : Nat → Int32} (h : zGc n2 base v p f) : base + 1 ≤ p ∧ (v ≤ -10 → base + 2 ≤ p) := by
  obtain ⟨h1, h2, h3, j, h4, h5, h6⟩ := h
  refine ⟨by omega, fun hv => ?_⟩
  match j, h4, h5, h6 with
  | 0, _, h5, _ => omega
  | 1, _, _, h6 => exact absurd h6 (by rw [show (10 ^ 1 : Nat) = 10 from rfl]; omega)
  | i + 2, h4, _, h6 => omega

