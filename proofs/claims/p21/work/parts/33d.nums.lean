-- ==================== what is known of numbers: the loops answer so
theorem zAcc {v c : Int32} {x t y : Int} (hv : v = Int32.ofInt x) (hc : c = Int32.ofInt t) (hy : y = x + t) : v + c = Int32.ofInt y := by rw [hy, Int32.ofInt_add, hv, hc]
theorem zof0 : (0 : Int32) = Int32.ofInt 0 := rfl
theorem zsq32 {d n : Nat} (h : d * d ≤ n) (hn : n ≤ 1000) : d ≤ 31 := by
  rcases Nat.lt_or_ge d 32 with h1 | h1
  · omega
  · have : 32 * 32 ≤ d * d := Nat.mul_le_mul h1 h1
    omega
theorem zSqrUp {n d : Nat} (h1 : 1 ≤ n) (hd : n < (d + 1) * (d + 1)) : ∀ e, nSqr n (d + e) = nSqr n d := by
  intro e
  induction e with
  | zero => rfl
  | succ e ih =>
    rw [← ih]
    show (if n % ((d + e + 1) * (d + e + 1)) = 0 then (d + e + 1) * (d + e + 1) else nSqr n (d + e)) = nSqr n (d + e)
    have : (d + 1) * (d + 1) ≤ (d + e + 1) * (d + e + 1) := Nat.mul_le_mul (by omega) (by omega)
    rw [Nat.mod_eq_of_lt (by omega), if_neg (by omega)]

set_option maxHeartbeats 2000000 in
theorem zSqr9L {P : Int32 → Prop} (F : Nat) (p0 : Int32) (n : Nat) (hn : p0.toInt = n) (h1 : 1 ≤ n) (h2 : n ≤ 1000) (k : Int32 → Int32 → Option Int32) (hk : ∀ a b : Int32, a.toInt = ((nSqr n 31 : Nat) : Int) → ZE P (k a b)) : ∀ (f : Nat) (va vd : Int32) (d : Nat), vd.toInt = ((d + 1 : Nat) : Int) → d ≤ 31 → va.toInt = ((nSqr n d : Nat) : Int) → 32 - d < f → ZE P (p_X9_squareOf_L0 F p0 k f va vd) := by
  intro f
  induction f with
  | zero => intro _ _ _ _ _ _ hm; exact absurd hm (Nat.not_lt_zero _)
  | succ f ih =>
    intro va vd d hd hdn ha hm
    show ZE P (if p0 < (vd * vd) then (k va vd) else (zg ((vd * vd) = 0) (if ¬ (zr p0 (vd * vd)) = 0 then (p_X9_squareOf_L0 F p0 k f va (vd + (1 : Int32))) else (p_X9_squareOf_L0 F p0 k f (vd * vd) (vd + (1 : Int32))))))
    have e1 := zAddN hd (by omega)
    have hb : (d + 1) * (d + 1) ≤ 32 * 32 := Nat.mul_le_mul (by omega) (by omega)
    have hb1 : 1 * 1 ≤ (d + 1) * (d + 1) := Nat.mul_le_mul (by omega) (by omega)
    have em := zMulN hd hd (by omega)
    refine ZE_if (fun c => ?_) (fun c => ?_)
    · rw [Int32.lt_iff_toInt_lt, em, hn] at c
      have hlt : n < (d + 1) * (d + 1) := by omega
      have := zSqrUp h1 hlt (31 - d)
      rw [show d + (31 - d) = 31 by omega] at this
      exact hk _ _ (by rw [ha, this])
    · rw [Int32.lt_iff_toInt_lt, em, hn] at c
      have hle : (d + 1) * (d + 1) ≤ n := by omega
      have h31 := zsq32 hle h2
      refine ZE_zg (zne0 (by omega)) (ZE_if (fun c2 => ?_) (fun c2 => ?_))
      · have nd : ¬ n % ((d + 1) * (d + 1)) = 0 := fun h => c2 ((zDvdN hn em (by omega)).mpr (Nat.dvd_of_mod_eq_zero h))
        exact ih _ _ (d + 1) e1 (by omega) (by rw [ha]; show _ = (((if n % ((d + 1) * (d + 1)) = 0 then (d + 1) * (d + 1) else nSqr n d : Nat)) : Int); rw [if_neg nd]) (by omega)
      · have nd : n % ((d + 1) * (d + 1)) = 0 := Nat.mod_eq_zero_of_dvd ((zDvdN hn em (by omega)).mp (Decidable.not_not.mp c2))
        exact ih _ _ (d + 1) e1 (by omega) (by rw [em]; show _ = (((if n % ((d + 1) * (d + 1)) = 0 then (d + 1) * (d + 1) else nSqr n d : Nat)) : Int); rw [if_pos nd]) (by omega)
theorem zSqr9 (F : Nat) (p0 : Int32) (n : Nat) (hF : 2000 ≤ F) (hn : p0.toInt = n) (h1 : 1 ≤ n) (h2 : n ≤ 1000) : ZE (fun (r : Int32) => r.toInt = ((nSqr n 31 : Nat) : Int)) (p_X9_squareOf F p0) := by
  unfold p_X9_squareOf
  exact zSqr9L F p0 n hn h1 h2 _ (fun a b h => ⟨_, rfl, h⟩) F 1 1 0 (by decide) (by omega) (show (1 : Int32).toInt = ((1 : Nat) : Int) from by decide) (by omega)

set_option maxHeartbeats 2000000 in
theorem zLst9L {P : Int32 → Prop} (F : Nat) (p0 : Int32) (n T : Nat) (hn : p0.toInt = n) (h1 : 2 ≤ n) (h2 : n ≤ 1000) (k : Int32 → Option Int32) (hk : ∀ a : Int32, a.toInt = (T : Int) → 2 ≤ T → T ≤ n → ZE P (k a)) : ∀ (f : Nat) (vd : Int32) (d g : Nat), vd.toInt = (d : Int) → 2 ≤ d → d ≤ n → n < d + g → nLst n g d = T → n + 1 - d < f → ZE P (p_X9_least_L0 F p0 k f vd) := by
  intro f
  induction f with
  | zero => intro _ _ _ _ _ _ _ _ hm; exact absurd hm (Nat.not_lt_zero _)
  | succ f ih =>
    intro vd d g hd h3 h4 h5 hT hm
    show ZE P (zg (vd = 0) (if (zr p0 vd) = 0 then (k vd) else (p_X9_least_L0 F p0 k f (vd + (1 : Int32)))))
    have e1 := zAddN hd (by omega)
    obtain ⟨g, rfl⟩ : ∃ g', g = g' + 1 := ⟨g - 1, by omega⟩
    refine ZE_zg (zne0 (by omega)) (ZE_if (fun c => ?_) (fun c => ?_))
    · have nd : n % d = 0 := Nat.mod_eq_zero_of_dvd ((zDvdN hn hd (by omega)).mp c)
      have : d = T := by
        rw [← hT]
        show d = if n % d = 0 then d else nLst n g (d + 1)
        rw [if_pos nd]
      exact hk _ (by rw [hd, this]) (by omega) (by omega)
    · have nd : ¬ n % d = 0 := fun h => c ((zDvdN hn hd (by omega)).mpr (Nat.dvd_of_mod_eq_zero h))
      have ne : d ≠ n := fun e => nd (by rw [e]; exact Nat.mod_self n)
      refine ih _ (d + 1) g e1 (by omega) (by omega) (by omega) ?_ (by omega)
      rw [← hT]
      show _ = if n % d = 0 then d else nLst n g (d + 1)
      rw [if_neg nd]
theorem zLst9 (F : Nat) (p0 : Int32) (n : Nat) (hF : 2000 ≤ F) (hn : p0.toInt = n) (h1 : 2 ≤ n) (h2 : n ≤ 1000) : ZE (fun (r : Int32) => r.toInt = ((nLst n 1000 2 : Nat) : Int) ∧ 2 ≤ nLst n 1000 2 ∧ nLst n 1000 2 ≤ n) (p_X9_least F p0) := by
  unfold p_X9_least
  exact zLst9L F p0 n _ hn h1 h2 _ (fun a h3 h4 h5 => ⟨_, rfl, h3, h4, h5⟩) F 2 2 1000 (by decide) (by omega) h1 (by omega) rfl (by omega)
set_option maxHeartbeats 2000000 in
theorem zAll9L {P : Int32 → Prop} (F : Nat) (hF : 2000 ≤ F) (S : Nat) (hS : S ≤ 100) (k : Int32 → Int32 → Option Int32) (hk : ∀ a b : Int32, a.toInt = (S : Int) → ZE P (k a b)) : ∀ (f : Nat) (va vd : Int32) (c m g : Nat), va.toInt = (c : Int) → vd.toInt = (m : Int) → 1 ≤ m → m ≤ 1000 → m < 2 ^ g → c + nAll g m = S → m < f → ZE P (p_X9_all_L0 F k f va vd) := by
  intro f
  induction f with
  | zero => intro _ _ _ _ _ _ _ _ _ _ _ hm; exact absurd hm (Nat.not_lt_zero _)
  | succ f ih =>
    intro va vd c m g ha hd h1 h2 hg hS2 hm
    show ZE P (if vd ≤ (1 : Int32) then (k va vd) else (zb1 (p_X9_least F vd) (fun r1 => (zg (r1 = 0) (p_X9_all_L0 F k f (va + (1 : Int32)) (vd / r1))))))
    have o1 : (1 : Int32).toInt = 1 := by decide
    refine ZE_if (fun q => ?_) (fun q => ?_)
    · rw [Int32.le_iff_toInt_le, o1] at q
      have hm1 : m ≤ 1 := by omega
      have h0 : nAll g m = 0 := by
        cases g with
        | zero => rfl
        | succ g =>
          show (if m ≤ 1 then 0 else _) = 0
          rw [if_pos hm1]
      exact hk _ _ (by rw [ha, ← hS2, h0]; rfl)
    · rw [Int32.le_iff_toInt_le, o1] at q
      have hm2 : 2 ≤ m := by omega
      cases g with
      | zero => exact absurd hg (by rw [Nat.pow_zero]; omega)
      | succ g =>
        refine ZE_b1 (zLst9 F vd m hF hd hm2 h2) (fun r1 hr => ?_)
        obtain ⟨r1a, r1b, r1c⟩ := hr
        have hdv := zDivN hd r1a (by omega)
        have hS3 : c + (nAll g (m / nLst m 1000 2) + 1) = S := by
          rw [← hS2]
          show _ = c + (if m ≤ 1 then 0 else nF (m / nLst m 1000 2) (fun q => nAll g q + 1))
          rw [if_neg (by omega), nF_eq]
        have hle : m / nLst m 1000 2 ≤ m / 2 := Nat.div_le_div_left r1b (by omega)
        have hpos : 1 ≤ m / nLst m 1000 2 := Nat.div_pos r1c (by omega)
        rw [Nat.pow_succ] at hg
        exact ZE_zg (zne0 (by omega)) (ih _ _ (c + 1) _ g (zAddN ha (by omega)) hdv hpos (by omega) (by omega) (by omega) (by omega))
theorem zAllB : ∀ (g m : Nat), nAll g m ≤ g := by
  intro g
  induction g with
  | zero => intro m; exact Nat.le_refl 0
  | succ g ih =>
    intro m
    show (if m ≤ 1 then 0 else nF (m / nLst m 1000 2) (fun q => nAll g q + 1)) ≤ g + 1
    split
    · omega
    · rw [nF_eq]
      have := ih (m / nLst m 1000 2)
      omega
theorem zAll9 (F : Nat) (p0 : Int32) (n : Nat) (hF : 2000 ≤ F) (hn : p0.toInt = n) (h1 : 1 ≤ n) (h2 : n ≤ 1000) : ZE (fun (r : Int32) => r.toInt = ((nAll 12 n : Nat) : Int)) (p_X9_all F p0) := by
  unfold p_X9_all
  have hb := zAllB 12 n
  exact zAll9L F hF (nAll 12 n) (by omega) _ (fun a b h => ⟨_, rfl, h⟩) F 0 p0 0 n 12 (by decide) hn h1 h2 (by rw [show (2 ^ 12 : Nat) = 4096 from rfl]; omega) (Nat.zero_add _) (by omega)
theorem zSgn9 (F : Nat) (p0 : Int32) (n : Nat) (hF : 2000 ≤ F) (hn : p0.toInt = n) (h1 : 1 ≤ n) (h2 : n ≤ 1000) : ZE (fun (r : Int32) => r = Int32.ofInt (nSgn n)) (p_X9_signOf F p0) := by
  unfold p_X9_signOf nSgn
  have o1 : (1 : Int32).toInt = 1 := by decide
  refine ZE_b1 (zSqr9 F p0 n hF hn h1 h2) (fun r1 hr => ?_)
  refine ZE_if (fun c => ?_) (fun c => ?_)
  · rw [Int32.le_iff_toInt_le, o1, hr] at c
    rw [if_neg (by omega)]
    refine ZE_b1 (zAll9 F p0 n hF hn h1 h2) (fun r3 h3 => ?_)
    refine ZE_if (fun c2 => ?_) (fun c2 => ?_)
    · rw [if_neg (fun h => c2 ((zDvdN h3 (by decide : (2 : Int32).toInt = ((2 : Nat) : Int)) (by omega)).mpr (Nat.dvd_of_mod_eq_zero h)))]
      exact ⟨_, rfl, by decide⟩
    · rw [if_pos (Nat.mod_eq_zero_of_dvd ((zDvdN h3 (by decide : (2 : Int32).toInt = ((2 : Nat) : Int)) (by omega)).mp (Decidable.not_not.mp c2)))]
      exact ⟨_, rfl, by decide⟩
  · rw [Int32.le_iff_toInt_le, o1, hr] at c
    rw [if_pos (by omega)]
    exact ⟨_, rfl, by decide⟩
