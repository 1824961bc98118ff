set_option maxHeartbeats 2000000 in
theorem t_J13_getChars_11360_L1 {P : (Int32 × (Nat → Int32)) → Prop} (F n2 : Nat) (base : Int) (hb : 0 ≤ base) (hn : n2 ≤ 130) (k : Int32 → Int32 → (Nat → Int32) → Option (Int32 × (Nat → Int32))) (hk : ∀ (v7_1 v10_1 : Int32) (f0_1 : Nat → Int32), zGc n2 base v10_1.toInt v7_1.toInt f0_1 → -100 < v10_1.toInt → ZE P (k v7_1 v10_1 f0_1)) : ∀ (n : Nat) (v7_1 v10_1 : Int32) (f0_1 : Nat → Int32), zGc n2 base v10_1.toInt v7_1.toInt f0_1 → v7_1.toInt.toNat < n → ZE P (p_J13_getChars_11360_L1 F n2 k n v7_1 v10_1 f0_1) := by
  intro n
  induction n with
  | zero => intro v7_1 v10_1 f0_1 _ hm; exact absurd hm (Nat.not_lt_zero _)
  | succ n ih =>
    intro v7_1 v10_1 f0_1 hI hm
    show ZE P (if (-100 : Int32) < v10_1 then (k v7_1 v10_1 f0_1) else (zg ((((v10_1 / (100 : Int32)) * (100 : Int32)) - v10_1) < 0 ∨ 100 ≤ (((v10_1 / (100 : Int32)) * (100 : Int32)) - v10_1).toNatClampNeg) (zg ((v7_1 + (-1 : Int32)) < 0 ∨ n2 ≤ (v7_1 + (-1 : Int32)).toNatClampNeg) (zg ((((v10_1 / (100 : Int32)) * (100 : Int32)) - v10_1) < 0 ∨ 100 ≤ (((v10_1 / (100 : Int32)) * (100 : Int32)) - v10_1).toNatClampNeg) (zg (((v7_1 + (-1 : Int32)) + (-1 : Int32)) < 0 ∨ n2 ≤ ((v7_1 + (-1 : Int32)) + (-1 : Int32)).toNatClampNeg) (p_J13_getChars_11360_L1 F n2 k n ((v7_1 + (-1 : Int32)) + (-1 : Int32)) (v10_1 / (100 : Int32)) (upd (upd f0_1 (v7_1 + (-1 : Int32)).toNatClampNeg (vp_nar .byte (zDO (((v10_1 / (100 : Int32)) * (100 : Int32)) - v10_1).toNatClampNeg))) ((v7_1 + (-1 : Int32)) + (-1 : Int32)).toNatClampNeg (vp_nar .byte (zDT (((v10_1 / (100 : Int32)) * (100 : Int32)) - v10_1).toNatClampNeg)))))))))
    have h1 := hI.1
    have h2 := hI.2.1
    have h3 := hI.2.2.1
    refine ZE_if (fun c => ?_) (fun c => ?_)
    · exact hk _ _ _ hI (z100.1 c)
    · have c' : v10_1.toInt ≤ -100 := z100.2.1 c
      have t := ztd h1
      obtain ⟨E1, E2⟩ := zgcE hI
      have E3 := (zgcE (zgcS hI c' h3)).1
      have hp0 : 0 ≤ v7_1.toInt := by omega
      have A1 : 0 ≤ v7_1.toInt - 1 := by omega
      have A2 : v7_1.toInt - 1 < n2 := by omega
      have A3 : 0 ≤ v7_1.toInt - 2 := by omega
      have A4 : v7_1.toInt - 2 < n2 := by omega
      have Q1 : 0 ≤ v10_1.toInt.tdiv 100 * 100 - v10_1.toInt := by omega
      have Q2 : v10_1.toInt.tdiv 100 * 100 - v10_1.toInt < (100 : Nat) := by omega
      have M : (v7_1.toInt - 2).toNat < n := by omega
      obtain ⟨q1, q2⟩ := zq32 h1
      obtain ⟨e1, e2, e3⟩ := zam2 hp0
      refine ZE_zg (zgi2 q2 Q1 Q2) ?_
      refine ZE_zg (zgi2 e1 A1 A2) ?_
      refine ZE_zg (zgi2 q2 Q1 Q2) ?_
      refine ZE_zg (zgi2 e2 A3 A4) ?_
      exact ih _ _ _ (by rw [q1, e2]; exact zgcS hI c' (zBy_upd (zBy_upd h3 _ _) _ _)) (zlt2 e2 M)

set_option maxHeartbeats 2000000 in
theorem t_J13_getChars_11360_L3 {P : (Int32 × (Nat → Int32)) → Prop} (F n2 : Nat) (base : Int) (hb : 0 ≤ base) (hn : n2 ≤ 130) (k : Int32 → Int32 → (Nat → Int32) → Option (Int32 × (Nat → Int32))) (hk : ∀ (v7_3 v10_3 : Int32) (f0_3 : Nat → Int32), zGc n2 base v10_3.toInt v7_3.toInt f0_3 → -100 < v10_3.toInt → ZE P (k v7_3 v10_3 f0_3)) : ∀ (n : Nat) (v7_3 v10_3 : Int32) (f0_3 : Nat → Int32), zGc n2 base v10_3.toInt v7_3.toInt f0_3 → v7_3.toInt.toNat < n → ZE P (p_J13_getChars_11360_L3 F n2 k n v7_3 v10_3 f0_3) := by
  intro n
  induction n with
  | zero => intro v7_3 v10_3 f0_3 _ hm; exact absurd hm (Nat.not_lt_zero _)
  | succ n ih =>
    intro v7_3 v10_3 f0_3 hI hm
    show ZE P (if (-100 : Int32) < v10_3 then (k v7_3 v10_3 f0_3) else (zg ((((v10_3 / (100 : Int32)) * (100 : Int32)) - v10_3) < 0 ∨ 100 ≤ (((v10_3 / (100 : Int32)) * (100 : Int32)) - v10_3).toNatClampNeg) (zg ((v7_3 + (-1 : Int32)) < 0 ∨ n2 ≤ (v7_3 + (-1 : Int32)).toNatClampNeg) (zg ((((v10_3 / (100 : Int32)) * (100 : Int32)) - v10_3) < 0 ∨ 100 ≤ (((v10_3 / (100 : Int32)) * (100 : Int32)) - v10_3).toNatClampNeg) (zg (((v7_3 + (-1 : Int32)) + (-1 : Int32)) < 0 ∨ n2 ≤ ((v7_3 + (-1 : Int32)) + (-1 : Int32)).toNatClampNeg) (p_J13_getChars_11360_L3 F n2 k n ((v7_3 + (-1 : Int32)) + (-1 : Int32)) (v10_3 / (100 : Int32)) (upd (upd f0_3 (v7_3 + (-1 : Int32)).toNatClampNeg (vp_nar .byte (zDO (((v10_3 / (100 : Int32)) * (100 : Int32)) - v10_3).toNatClampNeg))) ((v7_3 + (-1 : Int32)) + (-1 : Int32)).toNatClampNeg (vp_nar .byte (zDT (((v10_3 / (100 : Int32)) * (100 : Int32)) - v10_3).toNatClampNeg)))))))))
    have h1 := hI.1
    have h2 := hI.2.1
    have h3 := hI.2.2.1
    refine ZE_if (fun c => ?_) (fun c => ?_)
    · exact hk _ _ _ hI (z100.1 c)
    · have c' : v10_3.toInt ≤ -100 := z100.2.1 c
      have t := ztd h1
      obtain ⟨E1, E2⟩ := zgcE hI
      have E3 := (zgcE (zgcS hI c' h3)).1
      have hp0 : 0 ≤ v7_3.toInt := by omega
      have A1 : 0 ≤ v7_3.toInt - 1 := by omega
      have A2 : v7_3.toInt - 1 < n2 := by omega
      have A3 : 0 ≤ v7_3.toInt - 2 := by omega
      have A4 : v7_3.toInt - 2 < n2 := by omega
      have Q1 : 0 ≤ v10_3.toInt.tdiv 100 * 100 - v10_3.toInt := by omega
      have Q2 : v10_3.toInt.tdiv 100 * 100 - v10_3.toInt < (100 : Nat) := by omega
      have M : (v7_3.toInt - 2).toNat < n := by omega
      obtain ⟨q1, q2⟩ := zq32 h1
      obtain ⟨e1, e2, e3⟩ := zam2 hp0
      refine ZE_zg (zgi2 q2 Q1 Q2) ?_
      refine ZE_zg (zgi2 e1 A1 A2) ?_
      refine ZE_zg (zgi2 q2 Q1 Q2) ?_
      refine ZE_zg (zgi2 e2 A3 A4) ?_
      exact ih _ _ _ (by rw [q1, e2]; exact zgcS hI c' (zBy_upd (zBy_upd h3 _ _) _ _)) (zlt2 e2 M)

set_option maxHeartbeats 2000000 in
theorem t_J6_getChars_ba4f3_L0 {P : (Int32 × (Nat → Int32)) → Prop} (F n2 : Nat) (base : Int) (hb : 0 ≤ base) (hn : n2 ≤ 130) (k : Int32 → Int32 → (Nat → Int32) → Option (Int32 × (Nat → Int32))) (hk : ∀ (v0_0 v5_0 : Int32) (f0_0 : Nat → Int32), zGc n2 base v0_0.toInt v5_0.toInt f0_0 → -100 < v0_0.toInt → ZE P (k v0_0 v5_0 f0_0)) : ∀ (n : Nat) (v0_0 v5_0 : Int32) (f0_0 : Nat → Int32), zGc n2 base v0_0.toInt v5_0.toInt f0_0 → v5_0.toInt.toNat < n → ZE P (p_J6_getChars_ba4f3_L0 F n2 k n v0_0 v5_0 f0_0) := by
  intro n
  induction n with
  | zero => intro v0_0 v5_0 f0_0 _ hm; exact absurd hm (Nat.not_lt_zero _)
  | succ n ih =>
    intro v0_0 v5_0 f0_0 hI hm
    show ZE P (if (-100 : Int32) < v0_0 then (k v0_0 v5_0 f0_0) else (zg ((((v0_0 / (100 : Int32)) * (100 : Int32)) - v0_0) < 0 ∨ 100 ≤ (((v0_0 / (100 : Int32)) * (100 : Int32)) - v0_0).toNatClampNeg) (zg ((v5_0 + (-1 : Int32)) < 0 ∨ n2 ≤ (v5_0 + (-1 : Int32)).toNatClampNeg) (zg ((((v0_0 / (100 : Int32)) * (100 : Int32)) - v0_0) < 0 ∨ 100 ≤ (((v0_0 / (100 : Int32)) * (100 : Int32)) - v0_0).toNatClampNeg) (zg (((v5_0 + (-1 : Int32)) + (-1 : Int32)) < 0 ∨ n2 ≤ ((v5_0 + (-1 : Int32)) + (-1 : Int32)).toNatClampNeg) (p_J6_getChars_ba4f3_L0 F n2 k n (v0_0 / (100 : Int32)) ((v5_0 + (-1 : Int32)) + (-1 : Int32)) (upd (upd f0_0 (v5_0 + (-1 : Int32)).toNatClampNeg (vp_nar .byte (zDO (((v0_0 / (100 : Int32)) * (100 : Int32)) - v0_0).toNatClampNeg))) ((v5_0 + (-1 : Int32)) + (-1 : Int32)).toNatClampNeg (vp_nar .byte (zDT (((v0_0 / (100 : Int32)) * (100 : Int32)) - v0_0).toNatClampNeg)))))))))
    have h1 := hI.1
    have h2 := hI.2.1
    have h3 := hI.2.2.1
    refine ZE_if (fun c => ?_) (fun c => ?_)
    · exact hk _ _ _ hI (z100.1 c)
    · have c' : v0_0.toInt ≤ -100 := z100.2.1 c
      have t := ztd h1
      obtain ⟨E1, E2⟩ := zgcE hI
      have E3 := (zgcE (zgcS hI c' h3)).1
      have hp0 : 0 ≤ v5_0.toInt := by omega
      have A1 : 0 ≤ v5_0.toInt - 1 := by omega
      have A2 : v5_0.toInt - 1 < n2 := by omega
      have A3 : 0 ≤ v5_0.toInt - 2 := by omega
      have A4 : v5_0.toInt - 2 < n2 := by omega
      have Q1 : 0 ≤ v0_0.toInt.tdiv 100 * 100 - v0_0.toInt := by omega
      have Q2 : v0_0.toInt.tdiv 100 * 100 - v0_0.toInt < (100 : Nat) := by omega
      have M : (v5_0.toInt - 2).toNat < n := by omega
      obtain ⟨q1, q2⟩ := zq32 h1
      obtain ⟨e1, e2, e3⟩ := zam2 hp0
      refine ZE_zg (zgi2 q2 Q1 Q2) ?_
      refine ZE_zg (zgi2 e1 A1 A2) ?_
      refine ZE_zg (zgi2 q2 Q1 Q2) ?_
      refine ZE_zg (zgi2 e2 A3 A4) ?_
      exact ih _ _ _ (by rw [q1, e2]; exact zgcS hI c' (zBy_upd (zBy_upd h3 _ _) _ _)) (zlt2 e2 M)

set_option maxHeartbeats 2000000 in
theorem t_J6_getChars_ba4f3_L1 {P : (Int32 × (Nat → Int32)) → Prop} (F n2 : Nat) (base : Int) (hb : 0 ≤ base) (hn : n2 ≤ 130) (k : Int32 → Int32 → (Nat → Int32) → Option (Int32 × (Nat → Int32))) (hk : ∀ (v0_1 v5_1 : Int32) (f0_1 : Nat → Int32), zGc n2 base v0_1.toInt v5_1.toInt f0_1 → -100 < v0_1.toInt → ZE P (k v0_1 v5_1 f0_1)) : ∀ (n : Nat) (v0_1 v5_1 : Int32) (f0_1 : Nat → Int32), zGc n2 base v0_1.toInt v5_1.toInt f0_1 → v5_1.toInt.toNat < n → ZE P (p_J6_getChars_ba4f3_L1 F n2 k n v0_1 v5_1 f0_1) := by
  intro n
  induction n with
  | zero => intro v0_1 v5_1 f0_1 _ hm; exact absurd hm (Nat.not_lt_zero _)
  | succ n ih =>
    intro v0_1 v5_1 f0_1 hI hm
    show ZE P (if (-100 : Int32) < v0_1 then (k v0_1 v5_1 f0_1) else (zg ((((v0_1 / (100 : Int32)) * (100 : Int32)) - v0_1) < 0 ∨ 100 ≤ (((v0_1 / (100 : Int32)) * (100 : Int32)) - v0_1).toNatClampNeg) (zg ((v5_1 + (-1 : Int32)) < 0 ∨ n2 ≤ (v5_1 + (-1 : Int32)).toNatClampNeg) (zg ((((v0_1 / (100 : Int32)) * (100 : Int32)) - v0_1) < 0 ∨ 100 ≤ (((v0_1 / (100 : Int32)) * (100 : Int32)) - v0_1).toNatClampNeg) (zg (((v5_1 + (-1 : Int32)) + (-1 : Int32)) < 0 ∨ n2 ≤ ((v5_1 + (-1 : Int32)) + (-1 : Int32)).toNatClampNeg) (p_J6_getChars_ba4f3_L1 F n2 k n (v0_1 / (100 : Int32)) ((v5_1 + (-1 : Int32)) + (-1 : Int32)) (upd (upd f0_1 (v5_1 + (-1 : Int32)).toNatClampNeg (vp_nar .byte (zDO (((v0_1 / (100 : Int32)) * (100 : Int32)) - v0_1).toNatClampNeg))) ((v5_1 + (-1 : Int32)) + (-1 : Int32)).toNatClampNeg (vp_nar .byte (zDT (((v0_1 / (100 : Int32)) * (100 : Int32)) - v0_1).toNatClampNeg)))))))))
    have h1 := hI.1
    have h2 := hI.2.1
    have h3 := hI.2.2.1
    refine ZE_if (fun c => ?_) (fun c => ?_)
    · exact hk _ _ _ hI (z100.1 c)
    · have c' : v0_1.toInt ≤ -100 := z100.2.1 c
      have t := ztd h1
      obtain ⟨E1, E2⟩ := zgcE hI
      have E3 := (zgcE (zgcS hI c' h3)).1
      have hp0 : 0 ≤ v5_1.toInt := by omega
      have A1 : 0 ≤ v5_1.toInt - 1 := by omega
      have A2 : v5_1.toInt - 1 < n2 := by omega
      have A3 : 0 ≤ v5_1.toInt - 2 := by omega
      have A4 : v5_1.toInt - 2 < n2 := by omega
      have Q1 : 0 ≤ v0_1.toInt.tdiv 100 * 100 - v0_1.toInt := by omega
      have Q2 : v0_1.toInt.tdiv 100 * 100 - v0_1.toInt < (100 : Nat) := by omega
      have M : (v5_1.toInt - 2).toNat < n := by omega
      obtain ⟨q1, q2⟩ := zq32 h1
      obtain ⟨e1, e2, e3⟩ := zam2 hp0
      refine ZE_zg (zgi2 q2 Q1 Q2) ?_
      refine ZE_zg (zgi2 e1 A1 A2) ?_
      refine ZE_zg (zgi2 q2 Q1 Q2) ?_
      refine ZE_zg (zgi2 e2 A3 A4) ?_
      exact ih _ _ _ (by rw [q1, e2]; exact zgcS hI c' (zBy_upd (zBy_upd h3 _ _) _ _)) (zlt2 e2 M)

set_option maxHeartbeats 2000000 in
theorem t_J13_getChars_11360_L0 {P : (Int32 × (Nat → Int32)) → Prop} (F n2 : Nat) (base : Int) (hb : 0 ≤ base) (hn : n2 ≤ 130) (k : Int64 → Int32 → (Nat → Int32) → Option (Int32 × (Nat → Int32))) (hk : ∀ (v0_0 : Int64) (v7_0 : Int32) (f0_0 : Nat → Int32), zGc n2 base v0_0.toInt v7_0.toInt f0_0 → -2147483648 < v0_0.toInt → ZE P (k v0_0 v7_0 f0_0)) : ∀ (n : Nat) (v0_0 : Int64) (v7_0 : Int32) (f0_0 : Nat → Int32), zGc n2 base v0_0.toInt v7_0.toInt f0_0 → v7_0.toInt.toNat < n → ZE P (p_J13_getChars_11360_L0 F n2 k n v0_0 v7_0 f0_0) := by
  intro n
  induction n with
  | zero => intro v0_0 v7_0 f0_0 _ hm; exact absurd hm (Nat.not_lt_zero _)
  | succ n ih =>
    intro v0_0 v7_0 f0_0 hI hm
    show ZE P (if 0 < (lg_cmp v0_0 (-2147483648 : Int64)) then (k v0_0 v7_0 f0_0) else (zg (((((v0_0 / (100 : Int64)) * (100 : Int64)) - v0_0).toInt32) < 0 ∨ 100 ≤ ((((v0_0 / (100 : Int64)) * (100 : Int64)) - v0_0).toInt32).toNatClampNeg) (zg ((v7_0 + (-1 : Int32)) < 0 ∨ n2 ≤ (v7_0 + (-1 : Int32)).toNatClampNeg) (zg (((((v0_0 / (100 : Int64)) * (100 : Int64)) - v0_0).toInt32) < 0 ∨ 100 ≤ ((((v0_0 / (100 : Int64)) * (100 : Int64)) - v0_0).toInt32).toNatClampNeg) (zg (((v7_0 + (-1 : Int32)) + (-1 : Int32)) < 0 ∨ n2 ≤ ((v7_0 + (-1 : Int32)) + (-1 : Int32)).toNatClampNeg) (p_J13_getChars_11360_L0 F n2 k n (v0_0 / (100 : Int64)) ((v7_0 + (-1 : Int32)) + (-1 : Int32)) (upd (upd f0_0 (v7_0 + (-1 : Int32)).toNatClampNeg (vp_nar .byte (zDO ((((v0_0 / (100 : Int64)) * (100 : Int64)) - v0_0).toInt32).toNatClampNeg))) ((v7_0 + (-1 : Int32)) + (-1 : Int32)).toNatClampNeg (vp_nar .byte (zDT ((((v0_0 / (100 : Int64)) * (100 : Int64)) - v0_0).toInt32).toNatClampNeg)))))))))
    have h1 := hI.1
    have h2 := hI.2.1
    have h3 := hI.2.2.1
    refine ZE_if (fun c => ?_) (fun c => ?_)
    · refine hk _ _ _ hI ?_
      have d := zcmp_gt (x := v0_0) (y := (-2147483648 : Int64)) (fun h => Int32.not_le.mpr c h)
      rw [show (-2147483648 : Int64).toInt = -2147483648 from by decide] at d
      exact d
    · have c' : v0_0.toInt ≤ -100 := by
        have d := zcmp_le (x := v0_0) (y := (-2147483648 : Int64)) (Int32.not_lt.mp c)
        rw [show (-2147483648 : Int64).toInt = -2147483648 from by decide] at d
        omega
      have t := ztd h1
      obtain ⟨E1, E2⟩ := zgcE hI
      have E3 := (zgcE (zgcS hI c' h3)).1
      have hp0 : 0 ≤ v7_0.toInt := by omega
      have A1 : 0 ≤ v7_0.toInt - 1 := by omega
      have A2 : v7_0.toInt - 1 < n2 := by omega
      have A3 : 0 ≤ v7_0.toInt - 2 := by omega
      have A4 : v7_0.toInt - 2 < n2 := by omega
      have Q1 : 0 ≤ v0_0.toInt.tdiv 100 * 100 - v0_0.toInt := by omega
      have Q2 : v0_0.toInt.tdiv 100 * 100 - v0_0.toInt < (100 : Nat) := by omega
      have M : (v7_0.toInt - 2).toNat < n := by omega
      obtain ⟨q1, q2⟩ := zq64 h1
      obtain ⟨e1, e2, e3⟩ := zam2 hp0
      refine ZE_zg (zgi2 q2 Q1 Q2) ?_
      refine ZE_zg (zgi2 e1 A1 A2) ?_
      refine ZE_zg (zgi2 q2 Q1 Q2) ?_
      refine ZE_zg (zgi2 e2 A3 A4) ?_
      exact ih _ _ _ (by rw [q1, e2]; exact zgcS hI c' (zBy_upd (zBy_upd h3 _ _) _ _)) (zlt2 e2 M)

set_option maxHeartbeats 2000000 in
theorem t_J13_getChars_11360_L2 {P : (Int32 × (Nat → Int32)) → Prop} (F n2 : Nat) (base : Int) (hb : 0 ≤ base) (hn : n2 ≤ 130) (k : Int64 → Int32 → (Nat → Int32) → Option (Int32 × (Nat → Int32))) (hk : ∀ (v0_2 : Int64) (v7_2 : Int32) (f0_2 : Nat → Int32), zGc n2 base v0_2.toInt v7_2.toInt f0_2 → -2147483648 < v0_2.toInt → ZE P (k v0_2 v7_2 f0_2)) : ∀ (n : Nat) (v0_2 : Int64) (v7_2 : Int32) (f0_2 : Nat → Int32), zGc n2 base v0_2.toInt v7_2.toInt f0_2 → v7_2.toInt.toNat < n → ZE P (p_J13_getChars_11360_L2 F n2 k n v0_2 v7_2 f0_2) := by
  intro n
  induction n with
  | zero => intro v0_2 v7_2 f0_2 _ hm; exact absurd hm (Nat.not_lt_zero _)
  | succ n ih =>
    intro v0_2 v7_2 f0_2 hI hm
    show ZE P (if 0 < (lg_cmp v0_2 (-2147483648 : Int64)) then (k v0_2 v7_2 f0_2) else (zg (((((v0_2 / (100 : Int64)) * (100 : Int64)) - v0_2).toInt32) < 0 ∨ 100 ≤ ((((v0_2 / (100 : Int64)) * (100 : Int64)) - v0_2).toInt32).toNatClampNeg) (zg ((v7_2 + (-1 : Int32)) < 0 ∨ n2 ≤ (v7_2 + (-1 : Int32)).toNatClampNeg) (zg (((((v0_2 / (100 : Int64)) * (100 : Int64)) - v0_2).toInt32) < 0 ∨ 100 ≤ ((((v0_2 / (100 : Int64)) * (100 : Int64)) - v0_2).toInt32).toNatClampNeg) (zg (((v7_2 + (-1 : Int32)) + (-1 : Int32)) < 0 ∨ n2 ≤ ((v7_2 + (-1 : Int32)) + (-1 : Int32)).toNatClampNeg) (p_J13_getChars_11360_L2 F n2 k n (v0_2 / (100 : Int64)) ((v7_2 + (-1 : Int32)) + (-1 : Int32)) (upd (upd f0_2 (v7_2 + (-1 : Int32)).toNatClampNeg (vp_nar .byte (zDO ((((v0_2 / (100 : Int64)) * (100 : Int64)) - v0_2).toInt32).toNatClampNeg))) ((v7_2 + (-1 : Int32)) + (-1 : Int32)).toNatClampNeg (vp_nar .byte (zDT ((((v0_2 / (100 : Int64)) * (100 : Int64)) - v0_2).toInt32).toNatClampNeg)))))))))
    have h1 := hI.1
    have h2 := hI.2.1
    have h3 := hI.2.2.1
    refine ZE_if (fun c => ?_) (fun c => ?_)
    · refine hk _ _ _ hI ?_
      have d := zcmp_gt (x := v0_2) (y := (-2147483648 : Int64)) (fun h => Int32.not_le.mpr c h)
      rw [show (-2147483648 : Int64).toInt = -2147483648 from by decide] at d
      exact d
    · have c' : v0_2.toInt ≤ -100 := by
        have d := zcmp_le (x := v0_2) (y := (-2147483648 : Int64)) (Int32.not_lt.mp c)
        rw [show (-2147483648 : Int64).toInt = -2147483648 from by decide] at d
        omega
      have t := ztd h1
      obtain ⟨E1, E2⟩ := zgcE hI
      have E3 := (zgcE (zgcS hI c' h3)).1
      have hp0 : 0 ≤ v7_2.toInt := by omega
      have A1 : 0 ≤ v7_2.toInt - 1 := by omega
      have A2 : v7_2.toInt - 1 < n2 := by omega
      have A3 : 0 ≤ v7_2.toInt - 2 := by omega
      have A4 : v7_2.toInt - 2 < n2 := by omega
      have Q1 : 0 ≤ v0_2.toInt.tdiv 100 * 100 - v0_2.toInt := by omega
      have Q2 : v0_2.toInt.tdiv 100 * 100 - v0_2.toInt < (100 : Nat) := by omega
      have M : (v7_2.toInt - 2).toNat < n := by omega
      obtain ⟨q1, q2⟩ := zq64 h1
      obtain ⟨e1, e2, e3⟩ := zam2 hp0
      refine ZE_zg (zgi2 q2 Q1 Q2) ?_
      refine ZE_zg (zgi2 e1 A1 A2) ?_
      refine ZE_zg (zgi2 q2 Q1 Q2) ?_
      refine ZE_zg (zgi2 e2 A3 A4) ?_
      exact ih _ _ _ (by rw [q1, e2]; exact zgcS hI c' (zBy_upd (zBy_upd h3 _ _) _ _)) (zlt2 e2 M)

