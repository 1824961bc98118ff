-- ==================== what is known of numbers: the loops answer so
theorem zOf {x : Int32} {a : Int} (h : x.toInt = a) : x = Int32.ofInt a := by rw [← h, Int32.ofInt_toInt]
theorem zAcc {v c : Int32} {x t y : Int} (hv : v = Int32.ofInt x) (hc : c = Int32.ofInt t) (hy : y = x + t) : v + c = Int32.ofInt y := by rw [hy, Int32.ofInt_add, hv, hc]
theorem zMlc {v c : Int32} {x t y : Int} (hv : v = Int32.ofInt x) (hc : c = Int32.ofInt t) (hy : y = x * t) : v * c = Int32.ofInt y := by rw [hy, Int32.ofInt_mul, hv, hc]
theorem zof0 : (0 : Int32) = Int32.ofInt 0 := rfl
theorem zof1 : (1 : Int32) = Int32.ofInt 1 := rfl
set_option maxHeartbeats 2000000 in
theorem zPhi9L {P : Int32 → Prop} (F : Nat) (p0 : Int32) (n : Nat) (hF : 2000 ≤ F) (hn : p0.toInt = n) (h1 : 1 ≤ n) (h2 : n ≤ 1000) (k : Int32 → Int32 → Option Int32) (hk : ∀ a b : Int32, a = Int32.ofInt (((nPhi n n : Nat) : Int)) → ZE P (k a b)) : ∀ (f : Nat) (va vd : Int32) (d : Nat), vd.toInt = ((d + 1 : Nat) : Int) → d ≤ n → va = Int32.ofInt (((nPhi n d : Nat) : Int)) → n + 1 - d < f → ZE P (p_X9_phiOf_L0 F p0 k f va vd) := by
  intro f
  induction f with
  | zero => intro _ _ _ _ _ _ hm; exact absurd hm (Nat.not_lt_zero _)
  | succ f ih =>
    intro va vd d hd hdn ha hm
    show ZE P (if p0 < vd then (k va vd) else (zb1 (p_X9_common F vd p0) (fun r1 => (if ¬ r1 = (1 : Int32) then (p_X9_phiOf_L0 F p0 k f (va + (0 : Int32)) (vd + (1 : Int32))) else (p_X9_phiOf_L0 F p0 k f (va + (1 : Int32)) (vd + (1 : Int32)))))))
    have e1 := zAddN hd (by omega)
    refine ZE_if (fun c => ?_) (fun c => ?_)
    · rw [Int32.lt_iff_toInt_lt] at c
      have : d = n := by omega
      subst this
      exact hk _ _ ha
    · rw [Int32.lt_iff_toInt_lt] at c
      have hlt : d < n := by omega
      refine ZE_b1 (zGcd9 F vd p0 (d + 1) n hF hd hn (by omega) h1 (by omega) (by omega)) (fun r1 hr => ?_)
      refine ZE_if (fun c2 => ?_) (fun c2 => ?_)
      · have nd : ¬ Nat.gcd (d + 1) n = 1 := fun h => c2 (Int32.toInt_inj.mp (by rw [hr, h]; decide))
        have hs : ((nPhi n (d + 1) : Nat) : Int) = ((nPhi n d : Nat) : Int) + 0 := by
          show ((nPhi n d + (if Nat.gcd (d + 1) n = 1 then 1 else 0) : Nat) : Int) = _
          rw [if_neg nd]
          rfl
        exact ih _ _ (d + 1) e1 hlt (zAcc ha zof0 hs) (by omega)
      · have nd : Nat.gcd (d + 1) n = 1 := by
          have h := congrArg Int32.toInt (Decidable.not_not.mp c2)
          rw [hr, show (1 : Int32).toInt = 1 from by decide] at h
          omega
        have hs : ((nPhi n (d + 1) : Nat) : Int) = ((nPhi n d : Nat) : Int) + ((1 : Nat) : Int) := by
          show ((nPhi n d + (if Nat.gcd (d + 1) n = 1 then 1 else 0) : Nat) : Int) = _
          rw [if_pos nd]
          rfl
        exact ih _ _ (d + 1) e1 hlt (zAcc ha zof1 hs) (by omega)

set_option maxHeartbeats 2000000 in
theorem zPhi7L {P : Int32 → Prop} (F : Nat) (p0 : Int32) (n : Nat) (hF : 2000 ≤ F) (hn : p0.toInt = n) (h1 : 1 ≤ n) (h2 : n ≤ 1000) (k : Int32 → Int32 → Option Int32) (hk : ∀ a b : Int32, a = Int32.ofInt (((nPhi n n : Nat) : Int)) → ZE P (k a b)) : ∀ (f : Nat) (va vd : Int32) (d : Nat), vd.toInt = ((d + 1 : Nat) : Int) → d ≤ n → va = Int32.ofInt (((nPhi n d : Nat) : Int)) → n + 1 - d < f → ZE P (p_X1_phiOneByOne_L0 F p0 k f va vd) := by
  intro f
  induction f with
  | zero => intro _ _ _ _ _ _ hm; exact absurd hm (Nat.not_lt_zero _)
  | succ f ih =>
    intro va vd d hd hdn ha hm
    show ZE P (if p0 < vd then (k va vd) else (zb1 (p_X1_commonOf F vd p0) (fun r1 => (if ¬ r1 = (1 : Int32) then (p_X1_phiOneByOne_L0 F p0 k f (va + (0 : Int32)) (vd + (1 : Int32))) else (p_X1_phiOneByOne_L0 F p0 k f (va + (1 : Int32)) (vd + (1 : Int32)))))))
    have e1 := zAddN hd (by omega)
    refine ZE_if (fun c => ?_) (fun c => ?_)
    · rw [Int32.lt_iff_toInt_lt] at c
      have : d = n := by omega
      subst this
      exact hk _ _ ha
    · rw [Int32.lt_iff_toInt_lt] at c
      have hlt : d < n := by omega
      refine ZE_b1 (zGcd7 F vd p0 (d + 1) n hF hd hn (by omega) (by omega)) (fun r1 hr => ?_)
      refine ZE_if (fun c2 => ?_) (fun c2 => ?_)
      · have nd : ¬ Nat.gcd (d + 1) n = 1 := fun h => c2 (Int32.toInt_inj.mp (by rw [hr, h]; decide))
        have hs : ((nPhi n (d + 1) : Nat) : Int) = ((nPhi n d : Nat) : Int) + 0 := by
          show ((nPhi n d + (if Nat.gcd (d + 1) n = 1 then 1 else 0) : Nat) : Int) = _
          rw [if_neg nd]
          rfl
        exact ih _ _ (d + 1) e1 hlt (zAcc ha zof0 hs) (by omega)
      · have nd : Nat.gcd (d + 1) n = 1 := by
          have h := congrArg Int32.toInt (Decidable.not_not.mp c2)
          rw [hr, show (1 : Int32).toInt = 1 from by decide] at h
          omega
        have hs : ((nPhi n (d + 1) : Nat) : Int) = ((nPhi n d : Nat) : Int) + ((1 : Nat) : Int) := by
          show ((nPhi n d + (if Nat.gcd (d + 1) n = 1 then 1 else 0) : Nat) : Int) = _
          rw [if_pos nd]
          rfl
        exact ih _ _ (d + 1) e1 hlt (zAcc ha zof1 hs) (by omega)

theorem zPhi9 (F : Nat) (p0 : Int32) (n : Nat) (hF : 2000 ≤ F) (hn : p0.toInt = n) (h1 : 1 ≤ n) (h2 : n ≤ 1000) : ZE (fun (r : Int32) => r = Int32.ofInt (((nPhi n n : Nat) : Int))) (p_X9_phiOf F p0) := by
  unfold p_X9_phiOf
  exact zPhi9L F p0 n hF hn h1 h2 _ (fun a b h => ⟨_, rfl, h⟩) F 0 1 0 (by decide) (by omega) rfl (by omega)

theorem zPhi7 (F : Nat) (p0 : Int32) (n : Nat) (hF : 2000 ≤ F) (hn : p0.toInt = n) (h1 : 1 ≤ n) (h2 : n ≤ 1000) : ZE (fun (r : Int32) => r = Int32.ofInt (((nPhi n n : Nat) : Int))) (p_X1_phiOneByOne F p0) := by
  unfold p_X1_phiOneByOne
  exact zPhi7L F p0 n hF hn h1 h2 _ (fun a b h => ⟨_, rfl, h⟩) F 0 1 0 (by decide) (by omega) rfl (by omega)
