-- ==================== what is known of numbers: the loops answer so
theorem zOf {x : Int32} {a : Int} (h : x.toInt = a) : x = Int32.ofInt a := by rw [← h, Int32.ofInt_toInt]
theorem zAcc {v c : Int32} {x t y : Int} (hv : v = Int32.ofInt x) (hc : c = Int32.ofInt t) (hy : y = x + t) : v + c = Int32.ofInt y := by rw [hy, Int32.ofInt_add, hv, hc]
theorem zMlc {v c : Int32} {x t y : Int} (hv : v = Int32.ofInt x) (hc : c = Int32.ofInt t) (hy : y = x * t) : v * c = Int32.ofInt y := by rw [hy, Int32.ofInt_mul, hv, hc]
theorem zof0 : (0 : Int32) = Int32.ofInt 0 := rfl
set_option maxHeartbeats 2000000 in
theorem zSig9L {P : Int32 → Prop} (F : Nat) (p0 : Int32) (n : Nat) (hF : 2000 ≤ F) (hn : p0.toInt = n) (h1 : 1 ≤ n) (h2 : n ≤ 1000) (k : Int32 → Int32 → Option Int32) (hk : ∀ a b : Int32, a = Int32.ofInt (((nSig n n : Nat) : Int)) → ZE P (k a b)) : ∀ (f : Nat) (va vd : Int32) (d : Nat), vd.toInt = ((d + 1 : Nat) : Int) → d ≤ n → va = Int32.ofInt (((nSig n d : Nat) : Int)) → n + 1 - d < f → ZE P (p_X9_sigmaOf_L0 F p0 k f va vd) := by
  intro f
  induction f with
  | zero => intro _ _ _ _ _ _ hm; exact absurd hm (Nat.not_lt_zero _)
  | succ f ih =>
    intro va vd d hd hdn ha hm
    show ZE P (if p0 < vd then (k va vd) else (zg (vd = 0) (if ¬ (zr p0 vd) = 0 then (p_X9_sigmaOf_L0 F p0 k f (va + (0 : Int32)) (vd + (1 : Int32))) else (p_X9_sigmaOf_L0 F p0 k f (va + vd) (vd + (1 : Int32))))))
    have e1 := zAddN hd (by omega)
    refine ZE_if (fun c => ?_) (fun c => ?_)
    · rw [Int32.lt_iff_toInt_lt] at c
      have : d = n := by omega
      subst this
      exact hk _ _ ha
    · rw [Int32.lt_iff_toInt_lt] at c
      have hlt : d < n := by omega
      refine ZE_zg (zne0 (by omega)) (ZE_if (fun c2 => ?_) (fun c2 => ?_))
      · have nd : ¬ n % (d + 1) = 0 := fun h => c2 ((zDvdN hn hd (by omega)).mpr (Nat.dvd_of_mod_eq_zero h))
        have hs : ((nSig n (d + 1) : Nat) : Int) = ((nSig n d : Nat) : Int) + 0 := by
          show ((nSig n d + (if n % (d + 1) = 0 then d + 1 else 0) : Nat) : Int) = _
          rw [if_neg nd]
          rfl
        exact ih _ _ (d + 1) e1 hlt (zAcc ha zof0 hs) (by omega)
      · have nd : n % (d + 1) = 0 := Nat.mod_eq_zero_of_dvd ((zDvdN hn hd (by omega)).mp (Decidable.not_not.mp c2))
        have hs : ((nSig n (d + 1) : Nat) : Int) = ((nSig n d : Nat) : Int) + ((d + 1 : Nat) : Int) := by
          show ((nSig n d + (if n % (d + 1) = 0 then d + 1 else 0) : Nat) : Int) = _
          rw [if_pos nd]
          rfl
        exact ih _ _ (d + 1) e1 hlt (zAcc ha (zOf hd) hs) (by omega)

set_option maxHeartbeats 2000000 in
theorem zSig7L {P : Int32 → Prop} (F : Nat) (p0 : Int32) (n : Nat) (hF : 2000 ≤ F) (hn : p0.toInt = n) (h1 : 1 ≤ n) (h2 : n ≤ 1000) (k : Int32 → Int32 → Option Int32) (hk : ∀ a b : Int32, a = Int32.ofInt (((nSig n n : Nat) : Int)) → ZE P (k a b)) : ∀ (f : Nat) (va vd : Int32) (d : Nat), vd.toInt = ((d + 1 : Nat) : Int) → d ≤ n → va = Int32.ofInt (((nSig n d : Nat) : Int)) → n + 1 - d < f → ZE P (p_X1_sigmaOneByOne_L0 F p0 k f va vd) := by
  intro f
  induction f with
  | zero => intro _ _ _ _ _ _ hm; exact absurd hm (Nat.not_lt_zero _)
  | succ f ih =>
    intro va vd d hd hdn ha hm
    show ZE P (if p0 < vd then (k va vd) else (zg (vd = 0) (if ¬ (zr p0 vd) = 0 then (p_X1_sigmaOneByOne_L0 F p0 k f (va + (0 : Int32)) (vd + (1 : Int32))) else (p_X1_sigmaOneByOne_L0 F p0 k f (va + vd) (vd + (1 : Int32))))))
    have e1 := zAddN hd (by omega)
    refine ZE_if (fun c => ?_) (fun c => ?_)
    · rw [Int32.lt_iff_toInt_lt] at c
      have : d = n := by omega
      subst this
      exact hk _ _ ha
    · rw [Int32.lt_iff_toInt_lt] at c
      have hlt : d < n := by omega
      refine ZE_zg (zne0 (by omega)) (ZE_if (fun c2 => ?_) (fun c2 => ?_))
      · have nd : ¬ n % (d + 1) = 0 := fun h => c2 ((zDvdN hn hd (by omega)).mpr (Nat.dvd_of_mod_eq_zero h))
        have hs : ((nSig n (d + 1) : Nat) : Int) = ((nSig n d : Nat) : Int) + 0 := by
          show ((nSig n d + (if n % (d + 1) = 0 then d + 1 else 0) : Nat) : Int) = _
          rw [if_neg nd]
          rfl
        exact ih _ _ (d + 1) e1 hlt (zAcc ha zof0 hs) (by omega)
      · have nd : n % (d + 1) = 0 := Nat.mod_eq_zero_of_dvd ((zDvdN hn hd (by omega)).mp (Decidable.not_not.mp c2))
        have hs : ((nSig n (d + 1) : Nat) : Int) = ((nSig n d : Nat) : Int) + ((d + 1 : Nat) : Int) := by
          show ((nSig n d + (if n % (d + 1) = 0 then d + 1 else 0) : Nat) : Int) = _
          rw [if_pos nd]
          rfl
        exact ih _ _ (d + 1) e1 hlt (zAcc ha (zOf hd) hs) (by omega)

theorem zSig9 (F : Nat) (p0 : Int32) (n : Nat) (hF : 2000 ≤ F) (hn : p0.toInt = n) (h1 : 1 ≤ n) (h2 : n ≤ 1000) : ZE (fun (r : Int32) => r = Int32.ofInt (((nSig n n : Nat) : Int))) (p_X9_sigmaOf F p0) := by
  unfold p_X9_sigmaOf
  exact zSig9L F p0 n hF hn h1 h2 _ (fun a b h => ⟨_, rfl, h⟩) F 0 1 0 (by decide) (by omega) rfl (by omega)

theorem zSig7 (F : Nat) (p0 : Int32) (n : Nat) (hF : 2000 ≤ F) (hn : p0.toInt = n) (h1 : 1 ≤ n) (h2 : n ≤ 1000) : ZE (fun (r : Int32) => r = Int32.ofInt (((nSig n n : Nat) : Int))) (p_X1_sigmaOneByOne F p0) := by
  unfold p_X1_sigmaOneByOne
  exact zSig7L F p0 n hF hn h1 h2 _ (fun a b h => ⟨_, rfl, h⟩) F 0 1 0 (by decide) (by omega) rfl (by omega)
