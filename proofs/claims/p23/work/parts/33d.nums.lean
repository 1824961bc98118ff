-- ==================== what is known of numbers: the loops answer so
theorem zOf {x : Int32} {a : Int} (h : x.toInt = a) : x = Int32.ofInt a := by rw [← h, Int32.ofInt_toInt]
theorem zAcc {v c : Int32} {x t y : Int} (hv : v = Int32.ofInt x) (hc : c = Int32.ofInt t) (hy : y = x + t) : v + c = Int32.ofInt y := by rw [hy, Int32.ofInt_add, hv, hc]
theorem zMlc {v c : Int32} {x t y : Int} (hv : v = Int32.ofInt x) (hc : c = Int32.ofInt t) (hy : y = x * t) : v * c = Int32.ofInt y := by rw [hy, Int32.ofInt_mul, hv, hc]
theorem zof0 : (0 : Int32) = Int32.ofInt 0 := rfl
theorem zof1 : (1 : Int32) = Int32.ofInt 1 := rfl
theorem zsq32 {d n : Nat} (h : d * d ≤ n) (hn : n ≤ 1000) : d ≤ 31 := by
  rcases Nat.lt_or_ge d 32 with h1 | h1
  · omega
  · have : 32 * 32 ≤ d * d := Nat.mul_le_mul h1 h1
    omega
theorem zSqrUp {n d : Nat} (h1 : 1 ≤ n) (hd : n < (d + 1) * (d + 1)) : ∀ e, nSqr n (d + e) = nSqr n d := by
  intro e
  induction e with
  | zero => rfl
  | succ e ih =>
    rw [← ih]
    show (if n % ((d + e + 1) * (d + e + 1)) = 0 then (d + e + 1) * (d + e + 1) else nSqr n (d + e)) = nSqr n (d + e)
    have : (d + 1) * (d + 1) ≤ (d + e + 1) * (d + e + 1) := Nat.mul_le_mul (by omega) (by omega)
    rw [Nat.mod_eq_of_lt (by omega), if_neg (by omega)]

set_option maxHeartbeats 2000000 in
theorem zSqr9L {P : Int32 → Prop} (F : Nat) (p0 : Int32) (n : Nat) (hn : p0.toInt = n) (h1 : 1 ≤ n) (h2 : n ≤ 1000) (k : Int32 → Int32 → Option Int32) (hk : ∀ a b : Int32, a.toInt = ((nSqr n 31 : Nat) : Int) → ZE P (k a b)) : ∀ (f : Nat) (va vd : Int32) (d : Nat), vd.toInt = ((d + 1 : Nat) : Int) → d ≤ 31 → va.toInt = ((nSqr n d : Nat) : Int) → 32 - d < f → ZE P (p_X9_squareOf_L0 F p0 k f va vd) := by
  intro f
  induction f with
  | zero => intro _ _ _ _ _ _ hm; exact absurd hm (Nat.not_lt_zero _)
  | succ f ih =>
    intro va vd d hd hdn ha hm
    show ZE P (if p0 < (vd * vd) then (k va vd) else (zg ((vd * vd) = 0) (if ¬ (zr p0 (vd * vd)) = 0 then (p_X9_squareOf_L0 F p0 k f va (vd + (1 : Int32))) else (p_X9_squareOf_L0 F p0 k f (vd * vd) (vd + (1 : Int32))))))
    have e1 := zAddN hd (by omega)
    have hb : (d + 1) * (d + 1) ≤ 32 * 32 := Nat.mul_le_mul (by omega) (by omega)
    have hb1 : 1 * 1 ≤ (d + 1) * (d + 1) := Nat.mul_le_mul (by omega) (by omega)
    have em := zMulN hd hd (by omega)
    refine ZE_if (fun c => ?_) (fun c => ?_)
    · rw [Int32.lt_iff_toInt_lt, em, hn] at c
      have hlt : n < (d + 1) * (d + 1) := by omega
      have := zSqrUp h1 hlt (31 - d)
      rw [show d + (31 - d) = 31 by omega] at this
      exact hk _ _ (by rw [ha, this])
    · rw [Int32.lt_iff_toInt_lt, em, hn] at c
      have hle : (d + 1) * (d + 1) ≤ n := by omega
      have h31 := zsq32 hle h2
      refine ZE_zg (zne0 (by omega)) (ZE_if (fun c2 => ?_) (fun c2 => ?_))
      · have nd : ¬ n % ((d + 1) * (d + 1)) = 0 := fun h => c2 ((zDvdN hn em (by omega)).mpr (Nat.dvd_of_mod_eq_zero h))
        exact ih _ _ (d + 1) e1 (by omega) (by rw [ha]; show _ = (((if n % ((d + 1) * (d + 1)) = 0 then (d + 1) * (d + 1) else nSqr n d : Nat)) : Int); rw [if_neg nd]) (by omega)
      · have nd : n % ((d + 1) * (d + 1)) = 0 := Nat.mod_eq_zero_of_dvd ((zDvdN hn em (by omega)).mp (Decidable.not_not.mp c2))
        exact ih _ _ (d + 1) e1 (by omega) (by rw [em]; show _ = (((if n % ((d + 1) * (d + 1)) = 0 then (d + 1) * (d + 1) else nSqr n d : Nat)) : Int); rw [if_pos nd]) (by omega)
theorem zSqr9 (F : Nat) (p0 : Int32) (n : Nat) (hF : 2000 ≤ F) (hn : p0.toInt = n) (h1 : 1 ≤ n) (h2 : n ≤ 1000) : ZE (fun (r : Int32) => r.toInt = ((nSqr n 31 : Nat) : Int)) (p_X9_squareOf F p0) := by
  unfold p_X9_squareOf
  exact zSqr9L F p0 n hn h1 h2 _ (fun a b h => ⟨_, rfl, h⟩) F 1 1 0 (by decide) (by omega) (show (1 : Int32).toInt = ((1 : Nat) : Int) from by decide) (by omega)

set_option maxHeartbeats 2000000 in
theorem zSqr7L {P : Int32 → Prop} (F : Nat) (p0 : Int32) (n : Nat) (hn : p0.toInt = n) (h1 : 1 ≤ n) (h2 : n ≤ 1000) (k : Int32 → Int32 → Option Int32) (hk : ∀ a b : Int32, a.toInt = ((nSqr n 31 : Nat) : Int) → ZE P (k a b)) : ∀ (f : Nat) (va vd : Int32) (d : Nat), vd.toInt = ((d + 1 : Nat) : Int) → d ≤ 31 → va.toInt = ((nSqr n d : Nat) : Int) → 32 - d < f → ZE P (p_X1_squareOneByOne_L0 F p0 k f va vd) := by
  intro f
  induction f with
  | zero => intro _ _ _ _ _ _ hm; exact absurd hm (Nat.not_lt_zero _)
  | succ f ih =>
    intro va vd d hd hdn ha hm
    show ZE P (if (31 : Int32) < vd then (k va vd) else (if p0 < (vd * vd) then (k va vd) else (zg ((vd * vd) = 0) (if ¬ (zr p0 (vd * vd)) = 0 then (p_X1_squareOneByOne_L0 F p0 k f va (vd + (1 : Int32))) else (p_X1_squareOneByOne_L0 F p0 k f (vd * vd) (vd + (1 : Int32)))))))
    have e1 := zAddN hd (by omega)
    have hb : (d + 1) * (d + 1) ≤ 32 * 32 := Nat.mul_le_mul (by omega) (by omega)
    have hb1 : 1 * 1 ≤ (d + 1) * (d + 1) := Nat.mul_le_mul (by omega) (by omega)
    have em := zMulN hd hd (by omega)
    refine ZE_if (fun c => ?_) (fun _ => ?_)
    · rw [Int32.lt_iff_toInt_lt, show (31 : Int32).toInt = 31 from by decide] at c
      have : d = 31 := by omega
      subst this
      exact hk _ _ ha
    refine ZE_if (fun c => ?_) (fun c => ?_)
    · rw [Int32.lt_iff_toInt_lt, em, hn] at c
      have hlt : n < (d + 1) * (d + 1) := by omega
      have := zSqrUp h1 hlt (31 - d)
      rw [show d + (31 - d) = 31 by omega] at this
      exact hk _ _ (by rw [ha, this])
    · rw [Int32.lt_iff_toInt_lt, em, hn] at c
      have hle : (d + 1) * (d + 1) ≤ n := by omega
      have h31 := zsq32 hle h2
      refine ZE_zg (zne0 (by omega)) (ZE_if (fun c2 => ?_) (fun c2 => ?_))
      · have nd : ¬ n % ((d + 1) * (d + 1)) = 0 := fun h => c2 ((zDvdN hn em (by omega)).mpr (Nat.dvd_of_mod_eq_zero h))
        exact ih _ _ (d + 1) e1 (by omega) (by rw [ha]; show _ = (((if n % ((d + 1) * (d + 1)) = 0 then (d + 1) * (d + 1) else nSqr n d : Nat)) : Int); rw [if_neg nd]) (by omega)
      · have nd : n % ((d + 1) * (d + 1)) = 0 := Nat.mod_eq_zero_of_dvd ((zDvdN hn em (by omega)).mp (Decidable.not_not.mp c2))
        exact ih _ _ (d + 1) e1 (by omega) (by rw [em]; show _ = (((if n % ((d + 1) * (d + 1)) = 0 then (d + 1) * (d + 1) else nSqr n d : Nat)) : Int); rw [if_pos nd]) (by omega)
theorem zSqr7 (F : Nat) (p0 : Int32) (n : Nat) (hF : 2000 ≤ F) (hn : p0.toInt = n) (h1 : 1 ≤ n) (h2 : n ≤ 1000) : ZE (fun (r : Int32) => r.toInt = ((nSqr n 31 : Nat) : Int)) (p_X1_squareOneByOne F p0) := by
  unfold p_X1_squareOneByOne
  exact zSqr7L F p0 n hn h1 h2 _ (fun a b h => ⟨_, rfl, h⟩) F 1 1 0 (by decide) (by omega) (show (1 : Int32).toInt = ((1 : Nat) : Int) from by decide) (by omega)
