-- ==================== numbers without a sign behind ints
theorem zDivN {x y : Int32} {a b : Nat} (hx : x.toInt = a) (hy : y.toInt = b) (h : 1 ≤ b) : (x / y).toInt = ((a / b : Nat) : Int) := by
  rw [zdvv (by omega) (by omega), hx, hy]
  rfl
theorem zModN {x y : Int32} {a b : Nat} (hx : x.toInt = a) (hy : y.toInt = b) (h : 1 ≤ b) : (zr x y).toInt = ((a % b : Nat) : Int) := by
  rw [zrv (by omega) (by omega), hx, hy]
  rfl
theorem zDvdN {x y : Int32} {a b : Nat} (hx : x.toInt = a) (hy : y.toInt = b) (h : 1 ≤ b) : zr x y = 0 ↔ b ∣ a := by
  rw [zr0 (by omega) (by omega), hx, hy]
  exact Int.natCast_dvd_natCast
theorem zAddN {x : Int32} {a : Nat} (hx : x.toInt = a) (h : a < 2000000000) : (x + (1 : Int32)).toInt = ((a + 1 : Nat) : Int) := by
  have o1 : (1 : Int32).toInt = 1 := by decide
  rw [zad (x := x) (c := (1 : Int32)) (by omega) (by omega), o1, hx]
  rfl
theorem zNn {x : Int32} (h : 0 ≤ x.toInt) : ∃ a : Nat, x.toInt = a := ⟨x.toInt.toNat, by omega⟩
/-- both tests of a range answer alike -/
theorem zni (x lo hi : Int32) : (p_X7_need x lo hi = some 0 ∧ p_X9_isIn x lo hi = some true ∧ lo.toInt ≤ x.toInt ∧ x.toInt ≤ hi.toInt) ∨ (p_X7_need x lo hi = some 2 ∧ p_X9_isIn x lo hi = some false) := by
  unfold p_X7_need p_X9_isIn
  by_cases h1 : x < lo
  · right
    rw [if_pos h1, if_pos h1]
    exact ⟨rfl, rfl⟩
  · rw [if_neg h1, if_neg h1]
    by_cases h2 : x ≤ hi
    · left
      rw [if_pos h2, if_neg (Int32.not_lt.mpr h2)]
      exact ⟨rfl, rfl, Int32.le_iff_toInt_le.mp (Int32.not_lt.mp h1), Int32.le_iff_toInt_le.mp h2⟩
    · right
      rw [if_neg h2, if_pos (Int32.not_le.mp h2)]
      exact ⟨rfl, rfl⟩
-- ==================== the greatest common divisor, both ways
set_option maxHeartbeats 2000000 in
theorem zGcdL {P : Int32 → Prop} (F : Nat) (g : Nat) (k : Int32 → Int32 → Int32 → Option Int32) (hk : ∀ v2 v3 v4 : Int32, v2.toInt = g → ZE P (k v2 v3 v4)) : ∀ (n : Nat) (v2_0 v3_0 v4_0 : Int32) (a b j : Nat), v2_0.toInt = a → v3_0.toInt = b → v4_0.toInt = j → a ≤ 1000 → b ≤ 1000 → Nat.gcd a b = g → (j = 0 ∨ (b ≤ a ∧ a * b * 2 ^ (j - 1) ≤ 1000000)) → j ≤ 30 → 31 - j < n → ZE P (p_X1_commonOf_L0 F k n v2_0 v3_0 v4_0) := by
  intro n
  induction n with
  | zero => intro _ _ _ _ _ _ _ _ _ _ _ _ _ _ hm; exact absurd hm (Nat.not_lt_zero _)
  | succ n ih =>
    intro v2_0 v3_0 v4_0 a b j ha hb hj ha1 hb1 hg hw hj1 hm
    show ZE P (if (100 : Int32) ≤ v4_0 then (k v2_0 v3_0 v4_0) else (if v3_0 = 0 then (k v2_0 v3_0 v4_0) else (zg (v3_0 = 0) (p_X1_commonOf_L0 F k n v3_0 (zr v2_0 v3_0) (v4_0 + (1 : Int32))))))
    have o100 : (100 : Int32).toInt = 100 := by decide
    have o0 : (0 : Int32).toInt = 0 := by decide
    refine ZE_if (fun c => ?_) (fun _ => ZE_if (fun c => ?_) (fun c => ?_))
    · rw [Int32.le_iff_toInt_le, o100] at c
      omega
    · refine hk _ _ _ ?_
      rw [c, o0] at hb
      have hb0 : b = 0 := by omega
      rw [hb0, Nat.gcd_zero_right] at hg
      rw [ha, hg]
    · have hb2 : 1 ≤ b := by
        rcases Nat.eq_zero_or_pos b with h | h
        · exact absurd (Int32.toInt_inj.mp (by rw [hb, h, o0]; rfl)) c
        · exact h
      refine ZE_zg c ?_
      have e1 := zModN ha hb hb2
      have e2 := zAddN hj (by omega)
      have hlt : a % b < b := Nat.mod_lt _ hb2
      have hg2 : Nat.gcd b (a % b) = g := by
        rw [← hg, Nat.gcd_comm a b, Nat.gcd_rec b a, Nat.gcd_comm]
      have hw2 : b * (a % b) * 2 ^ j ≤ 1000000 ∧ j ≤ 25 := by
        rcases hw with h | ⟨h1, h2⟩
        · subst h
          have : b * (a % b) ≤ 1000 * 1000 := Nat.mul_le_mul hb1 (by omega)
          exact ⟨by rw [Nat.pow_zero, Nat.mul_one]; exact this, by omega⟩
        · rcases j with _ | i
          · have : b * (a % b) ≤ 1000 * 1000 := Nat.mul_le_mul hb1 (by omega)
            exact ⟨by rw [Nat.pow_zero, Nat.mul_one]; exact this, by omega⟩
          · rw [Nat.add_sub_cancel] at h2
            have d1 := Nat.div_add_mod a b
            have d2 : 1 ≤ a / b := Nat.div_pos h1 hb2
            have d3 : b * 1 ≤ b * (a / b) := Nat.mul_le_mul_left b d2
            have d4 : 2 * (a % b) ≤ a := by omega
            have d5 : b * (a % b) * 2 ^ (i + 1) = b * (2 * (a % b)) * 2 ^ i := by
              rw [Nat.pow_succ, Nat.mul_comm (2 ^ i) 2, ← Nat.mul_assoc, Nat.mul_assoc b, Nat.mul_comm (a % b) 2]
            have d6 : b * (2 * (a % b)) * 2 ^ i ≤ b * a * 2 ^ i := Nat.mul_le_mul_right _ (Nat.mul_le_mul_left b d4)
            have d7 : b * a * 2 ^ i = a * b * 2 ^ i := by rw [Nat.mul_comm b a]
            refine ⟨by omega, ?_⟩
            rcases Nat.lt_or_ge i 20 with h | h
            · omega
            · have p1 : 2 ^ 20 ≤ 2 ^ i := Nat.pow_le_pow_right (by omega) h
              have p2 : 1 * 1 ≤ a * b := Nat.mul_le_mul (by omega) hb2
              have p3 : 1 * 2 ^ 20 ≤ a * b * 2 ^ i := Nat.mul_le_mul (by omega) p1
              rw [show (2 ^ 20 : Nat) = 1048576 from rfl] at p3
              omega
      exact ih _ _ _ b (a % b) (j + 1) hb e1 e2 hb1 (by omega) hg2 (Or.inr ⟨by omega, by rw [Nat.add_sub_cancel]; exact hw2.1⟩) (by omega) (by omega)
theorem zGcd7 (F : Nat) (p0 p1 : Int32) (a b : Nat) (hF : 2000 ≤ F) (ha : p0.toInt = a) (hb : p1.toInt = b) (ha1 : a ≤ 1000) (hb1 : b ≤ 1000) : ZE (fun (r : Int32) => r.toInt = (Nat.gcd a b : Nat)) (p_X1_commonOf F p0 p1) := by
  unfold p_X1_commonOf
  exact zGcdL F (Nat.gcd a b) _ (fun v2 v3 v4 h => ⟨_, rfl, h⟩) F p0 p1 0 a b 0 ha hb (by decide) ha1 hb1 rfl (Or.inl rfl) (by omega) (by omega)
set_option maxHeartbeats 2000000 in
theorem zComL {P : Int32 → Prop} (F : Nat) (p0 p1 : Int32) (a b : Nat) (ha : p0.toInt = a) (hb : p1.toInt = b) (ha1 : 1 ≤ a) (hb1 : 1 ≤ b) (k : Int32 → Option Int32) (hk : ∀ v : Int32, v.toInt = (Nat.gcd a b : Nat) → ZE P (k v)) : ∀ (n : Nat) (v2_0 : Int32) (m : Nat), v2_0.toInt = m → Nat.gcd a b ≤ m → m < n → ZE P (p_X9_common_L0 F p0 p1 k n v2_0) := by
  intro n
  induction n with
  | zero => intro _ _ _ _ hm; exact absurd hm (Nat.not_lt_zero _)
  | succ n ih =>
    intro v2_0 m hv hg hm
    show ZE P (zg (v2_0 = 0) (if ¬ (zr p0 v2_0) = 0 then (p_X9_common_L0 F p0 p1 k n (v2_0 + (-1 : Int32))) else (zg (v2_0 = 0) (if (zr p1 v2_0) = 0 then (k v2_0) else (p_X9_common_L0 F p0 p1 k n (v2_0 + (-1 : Int32)))))))
    have g0 : 1 ≤ Nat.gcd a b := Nat.gcd_pos_of_pos_left _ ha1
    have hm1 : 1 ≤ m := by omega
    have rcl : Nat.gcd a b ≠ m → ZE P (p_X9_common_L0 F p0 p1 k n (v2_0 + (-1 : Int32))) := by
      intro h
      have M0 : v2_0.toInt - 1 = ((m - 1 : Nat) : Int) := by omega
      have M1 : Nat.gcd a b ≤ m - 1 := by omega
      have M2 : m - 1 < n := by omega
      have M3 : -2147483647 ≤ v2_0.toInt := by omega
      exact ih _ (m - 1) ((zam M3).trans M0) M1 M2
    refine ZE_zg (zne0 (by omega)) (ZE_if (fun c => ?_) (fun c => ZE_zg (zne0 (by omega)) (ZE_if (fun d => ?_) (fun d => ?_))))
    · refine rcl (fun e => c ((zDvdN ha hv hm1).mpr ?_))
      rw [← e]; exact Nat.gcd_dvd_left a b
    · have c1 := (zDvdN ha hv hm1).mp (Decidable.not_not.mp c)
      have d1 := (zDvdN hb hv hm1).mp d
      have := Nat.le_of_dvd g0 (Nat.dvd_gcd c1 d1)
      exact hk _ (by rw [hv]; congr 1; omega)
    · refine rcl (fun e => d ((zDvdN hb hv hm1).mpr ?_))
      rw [← e]; exact Nat.gcd_dvd_right a b
theorem zGcd9 (F : Nat) (p0 p1 : Int32) (a b : Nat) (hF : 2000 ≤ F) (ha : p0.toInt = a) (hb : p1.toInt = b) (ha1 : 1 ≤ a) (hb1 : 1 ≤ b) (ha2 : a ≤ 1000) (hb2 : b ≤ 1000) : ZE (fun (r : Int32) => r.toInt = (Nat.gcd a b : Nat)) (p_X9_common F p0 p1) := by
  unfold p_X9_common
  have ga := Nat.le_of_dvd ha1 (Nat.gcd_dvd_left a b)
  have gb := Nat.le_of_dvd hb1 (Nat.gcd_dvd_right a b)
  by_cases c : p1 < p0
  · rw [if_pos c]
    exact zComL F p0 p1 a b ha hb ha1 hb1 _ (fun v h => ⟨_, rfl, h⟩) F p1 b hb gb (by omega)
  · rw [if_neg c]
    exact zComL F p0 p1 a b ha hb ha1 hb1 _ (fun v h => ⟨_, rfl, h⟩) F p0 a ha ga (by omega)
