theorem zPairUp {n d : Nat} (hd : n < (d + 1) * (d + 1)) : ∀ e, nPair n (d + e) = nPair n d := by
  intro e
  induction e with
  | zero => rfl
  | succ e ih =>
    rw [← ih]
    show nPair n (d + e) + (if n < (d + e + 1) * (d + e + 1) then 0 else if n % (d + e + 1) = 0 then (if n ≤ (d + e + 1) * (d + e + 1) then 1 else 2) else 0) = nPair n (d + e)
    have : (d + 1) * (d + 1) ≤ (d + e + 1) * (d + e + 1) := Nat.mul_le_mul (by omega) (by omega)
    rw [if_pos (by omega)]
    rfl

set_option maxHeartbeats 2000000 in
theorem zPair7L {P : Int32 → Prop} (F : Nat) (p0 : Int32) (n : Nat) (hn : p0.toInt = n) (h1 : 1 ≤ n) (h2 : n ≤ 1000) (k : Int32 → Int32 → Option Int32) (hk : ∀ a b : Int32, a = Int32.ofInt ((nPair n 31 : Nat) : Int) → ZE P (k a b)) : ∀ (f : Nat) (va vd : Int32) (d : Nat), vd.toInt = ((d + 1 : Nat) : Int) → d ≤ 31 → va = Int32.ofInt ((nPair n d : Nat) : Int) → 32 - d < f → ZE P (p_X1_tauByPairs_L0 F p0 k f va vd) := by
  intro f
  induction f with
  | zero => intro _ _ _ _ _ _ hm; exact absurd hm (Nat.not_lt_zero _)
  | succ f ih =>
    intro va vd d hd hdn ha hm
    show ZE P (if (31 : Int32) < vd then (k va vd) else (if p0 < (vd * vd) then (k va vd) else (zg (vd = 0) (if ¬ (zr p0 vd) = 0 then (p_X1_tauByPairs_L0 F p0 k f va (vd + (1 : Int32))) else (if p0 ≤ (vd * vd) then (p_X1_tauByPairs_L0 F p0 k f (va + (1 : Int32)) (vd + (1 : Int32))) else (p_X1_tauByPairs_L0 F p0 k f (va + (2 : Int32)) (vd + (1 : Int32))))))))
    have e1 := zAddN hd (by omega)
    have hb : (d + 1) * (d + 1) ≤ 32 * 32 := Nat.mul_le_mul (by omega) (by omega)
    have em := zMulN hd hd (by omega)
    refine ZE_if (fun c => ?_) (fun _ => ZE_if (fun c => ?_) (fun c => ?_))
    · rw [Int32.lt_iff_toInt_lt, show (31 : Int32).toInt = 31 from by decide] at c
      have : d = 31 := by omega
      subst this
      exact hk _ _ ha
    · rw [Int32.lt_iff_toInt_lt, em, hn] at c
      have := zPairUp (n := n) (d := d) (by omega) (31 - d)
      rw [show d + (31 - d) = 31 by omega] at this
      exact hk _ _ (by rw [ha, this])
    · rw [Int32.lt_iff_toInt_lt, em, hn] at c
      have hle : (d + 1) * (d + 1) ≤ n := by omega
      have h31 := zsq32 hle h2
      have hs : nPair n (d + 1) = nPair n d + (if n < (d + 1) * (d + 1) then 0 else if n % (d + 1) = 0 then (if n ≤ (d + 1) * (d + 1) then 1 else 2) else 0) := rfl
      rw [if_neg (by omega)] at hs
      refine ZE_zg (zne0 (by omega)) (ZE_if (fun c2 => ?_) (fun c2 => ?_))
      · rw [if_neg (fun h => c2 ((zDvdN hn hd (by omega)).mpr (Nat.dvd_of_mod_eq_zero h)))] at hs
        exact ih _ _ (d + 1) e1 (by omega) (by rw [ha, hs]; rfl) (by omega)
      · rw [if_pos (Nat.mod_eq_zero_of_dvd ((zDvdN hn hd (by omega)).mp (Decidable.not_not.mp c2)))] at hs
        refine ZE_if (fun c3 => ?_) (fun c3 => ?_)
        · rw [Int32.le_iff_toInt_le, em, hn] at c3
          rw [if_pos (by omega)] at hs
          exact ih _ _ (d + 1) e1 (by omega) (zAcc ha zof1 (by rw [hs]; rfl)) (by omega)
        · rw [Int32.le_iff_toInt_le, em, hn] at c3
          rw [if_neg (by omega)] at hs
          exact ih _ _ (d + 1) e1 (by omega) (zAcc ha zof2 (by rw [hs]; rfl)) (by omega)
theorem zPair7 (F : Nat) (p0 : Int32) (n : Nat) (hF : 2000 ≤ F) (hn : p0.toInt = n) (h1 : 1 ≤ n) (h3 : n ≤ 999) : ZE (fun (r : Int32) => r = Int32.ofInt ((nTau n n : Nat) : Int)) (p_X1_tauByPairs F p0) := by
  unfold p_X1_tauByPairs
  rw [← cPair n h1 h3]
  exact zPair7L F p0 n hn h1 (by omega) _ (fun a b h => ⟨_, rfl, h⟩) F 0 1 0 (by decide) (by omega) rfl (by omega)
