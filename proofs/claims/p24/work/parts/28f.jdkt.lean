theorem zJ8 {a b c : Int32} (ha : 0 ≤ a.toInt) (ha2 : a.toInt ≤ 1000) (hb : 1 ≤ b.toInt) (hb2 : b.toInt ≤ 1000) (hc : 1 ≤ c.toInt) (hc2 : c.toInt ≤ 1000) : ZE (fun (r : Int32) => a.toInt + b.toInt ≤ r.toInt ∧ a.toInt + c.toInt ≤ r.toInt ∧ (r.toInt = a.toInt + b.toInt ∨ r.toInt = a.toInt + c.toInt)) (p_J8_newLength_cabcc a b c) := by
  unfold p_J8_newLength_cabcc
  by_cases h : b < c
  · simp only [if_pos h]
    rw [Int32.lt_iff_toInt_lt] at h
    have e := zad (x := a) (c := c) (by omega) (by omega)
    refine ZE_if (fun c1 => ?_) (fun c1 => ZE_if (fun c2 => ?_) (fun c2 => ?_))
    · exfalso; (first | omega | ((try simp only [Int32.lt_iff_toInt_lt, Int32.le_iff_toInt_le, ← Int32.toInt_inj, zcl, Int32.reduceToInt] at *) <;> omega))
    · exfalso; (first | omega | ((try simp only [Int32.lt_iff_toInt_lt, Int32.le_iff_toInt_le, ← Int32.toInt_inj, zcl, Int32.reduceToInt] at *) <;> omega))
    · exact ⟨_, rfl, by omega, by omega, by omega⟩
  · simp only [if_neg h]
    rw [Int32.lt_iff_toInt_lt] at h
    have e := zad (x := a) (c := b) (by omega) (by omega)
    refine ZE_if (fun c1 => ?_) (fun c1 => ZE_if (fun c2 => ?_) (fun c2 => ?_))
    · exfalso; (first | omega | ((try simp only [Int32.lt_iff_toInt_lt, Int32.le_iff_toInt_le, ← Int32.toInt_inj, zcl, Int32.reduceToInt] at *) <;> omega))
    · exfalso; (first | omega | ((try simp only [Int32.lt_iff_toInt_lt, Int32.le_iff_toInt_le, ← Int32.toInt_inj, zcl, Int32.reduceToInt] at *) <;> omega))
    · exact ⟨_, rfl, by omega, by omega, by omega⟩
theorem zNewCap (bc : Nat) (p0 : Int32) (h1 : 16 ≤ bc) (h2 : (bc : Int) < p0.toInt) (h3 : p0.toInt ≤ 64) : ZE (fun (r : Int32) => p0.toInt ≤ r.toInt ∧ (bc : Int) < r.toInt ∧ r.toInt ≤ 130) (p_J5_newCapacity_0f7a4 bc p0) := by
  unfold p_J5_newCapacity_0f7a4
  simp only [zsh0, zsl0]
  have eb := zon (n := bc) (by omega)
  have e1 := zsb (x := p0) (y := Int32.ofNat bc) (by omega) (by omega)
  have e2 : (Int32.ofNat bc + (2 : Int32)).toInt = bc + 2 := by
    rw [zad (x := Int32.ofNat bc) (c := (2 : Int32)) (by rw [show (2 : Int32).toInt = 2 from by decide]; omega) (by rw [show (2 : Int32).toInt = 2 from by decide]; omega), eb, show (2 : Int32).toInt = 2 from by decide]
  refine ZE_b1 (zJ8 (by omega) (by omega) (by omega) (by omega) (by omega) (by omega)) (fun r1 q => ?_)
  obtain ⟨q1, q2, q3⟩ := q
  refine ZE_if (fun c => ?_) (fun c => ?_)
  · exact ⟨_, rfl, by omega, by omega, by omega⟩
  · exfalso
    have c' : r1 = (2147483647 : Int32) := Decidable.not_not.mp c
    have := congrArg Int32.toInt c'
    rw [show (2147483647 : Int32).toInt = 2147483647 from by decide] at this
    omega
theorem zCopyOf (n0 : Nat) (p0 : Nat → Int32) (p1 : Int32) (hy : zBy p0) (h1 : (n0 : Int) < p1.toInt) (h2 : p1.toInt ≤ 130) : ZE (fun (r : Nat × (Nat → Int32)) => zBy r.2 ∧ (r.1 : Int) = p1.toInt) (p_J7_copyOf_9075b n0 p0 p1) := by
  unfold p_J7_copyOf_9075b
  have eb := zon (n := n0) (by omega)
  have hlt : ¬ p1 < Int32.ofNat n0 := by rw [Int32.lt_iff_toInt_lt]; omega
  simp only [if_neg hlt]
  refine ZE_if (fun c => ?_) (fun c => ?_)
  · refine ZE_zg ?_ (ZE_zg ?_ ⟨_, rfl, zBy_cpy hy zBy0 _ _ _, ?_⟩)
    · rw [Int32.lt_iff_toInt_lt, show (0 : Int32).toInt = 0 from by decide, zcl]; omega
    · exact zcp_mk hy (by decide) (by decide) (by omega) (by rw [show (0 : Int32).toInt = 0 from by decide]; omega) (by rw [show (0 : Int32).toInt = 0 from by decide, zcl]; omega)
    · show ((p1.toNatClampNeg : Nat) : Int) = p1.toInt
      rw [zcl]; omega
  · exfalso
    have c' : p1 = Int32.ofNat n0 := Decidable.not_not.mp c
    rw [c'] at h1
    omega
theorem zEns (bc : Nat) (bf : Nat → Int32) (p0 : Int32) (hy : zBy bf) (h1 : 16 ≤ bc) (h2 : bc ≤ 130) (h3 : 0 ≤ p0.toInt) (h4 : p0.toInt ≤ 64) : ZE (fun (r : Nat × (Nat → Int32)) => zBy r.2 ∧ 16 ≤ r.1 ∧ r.1 ≤ 130 ∧ p0.toInt ≤ r.1) (p_J5_ensureCapacityInternal_d00df bc bf p0) := by
  unfold p_J5_ensureCapacityInternal_d00df
  simp only [zsh0, zsl0]
  have eb := zon (n := bc) (by omega)
  have e1 := zsb (x := p0) (y := Int32.ofNat bc) (by omega) (by omega)
  refine ZE_if (fun c => ?_) (fun c => ?_)
  · rw [Int32.le_iff_toInt_le, e1, show (0 : Int32).toInt = 0 from by decide] at c
    exact ⟨_, rfl, hy, h1, h2, (by omega : p0.toInt ≤ (bc : Int))⟩
  · rw [Int32.le_iff_toInt_le, e1, show (0 : Int32).toInt = 0 from by decide] at c
    refine ZE_b1 (zNewCap bc p0 h1 (by omega) h4) (fun r1 q => ?_)
    obtain ⟨q1, q2, q3⟩ := q
    refine ZE_b2 (zCopyOf bc bf r1 hy q2 q3) (fun r3 r4 q => ?_)
    obtain ⟨s1, s2⟩ := q
    have s2' : (r3 : Int) = r1.toInt := s2
    exact ⟨_, rfl, s1, (by omega : 16 ≤ r3), (by omega : r3 ≤ 130), (by omega : p0.toInt ≤ (r3 : Int))⟩
theorem t_J4_append_cf468 (bc : Nat) (bf : Nat → Int32) (bn : Int32) (p0 : Int32) (hy : zBy bf) (h1 : 16 ≤ bc) (h2 : bc ≤ 130) (h3 : 0 ≤ bn.toInt) (h4 : bn.toInt ≤ bc) (h5 : bn.toInt ≤ 63) (hc : p0.toInt ≤ 255) : ZE (fun (r : Nat × (Nat → Int32) × Int32) => zBy r.2.1 ∧ 16 ≤ r.1 ∧ r.1 ≤ 130 ∧ 0 ≤ r.2.2.toInt ∧ r.2.2.toInt ≤ r.1 ∧ r.2.2.toInt = bn.toInt + 1) (p_J4_append_cf468 bc bf bn p0) := by
  unfold p_J4_append_cf468
  have o1 : (1 : Int32).toInt = 1 := by decide
  have e1 : (bn + (1 : Int32)).toInt = bn.toInt + 1 := by rw [zad (x := bn) (c := (1 : Int32)) (by omega) (by omega), o1]
  refine ZE_b3 (Q := fun (r : Nat × (Nat → Int32) × Int32) => zBy r.2.1 ∧ 16 ≤ r.1 ∧ r.1 ≤ 130 ∧ 0 ≤ r.2.2.toInt ∧ r.2.2.toInt ≤ r.1 ∧ r.2.2.toInt = bn.toInt + 1) ?_ (fun a b c q => ⟨_, rfl, q⟩)
  unfold p_J5_append_3fe6f
  refine ZE_b2 (zEns bc bf _ hy h1 h2 (by omega) (by omega)) (fun bc_1 bf_2 q => ?_)
  obtain ⟨q1, q2, q3, q4⟩ := q
  have q4' : (bn + (1 : Int32)).toInt ≤ (bc_1 : Int) := q4
  refine ZE_b1 (Q := fun r => r = true) ⟨_, rfl, rfl⟩ (fun r5 h5' => ?_)
  subst h5'
  refine ZE_lta (ZE_if (fun c => absurd c (by decide)) (fun _ => ?_))
  refine ZE_b1 (Q := fun r => r = true) ?_ (fun r9 h9 => ?_)
  · unfold p_J1_canEncode_fc78d
    rw [if_neg (by rw [Int32.lt_iff_toInt_lt, show (255 : Int32).toInt = 255 from by decide]; omega)]
    exact ⟨_, rfl, rfl⟩
  · subst h9
    refine ZE_if (fun c => absurd c (by decide)) (fun _ => ?_)
    refine ZE_zg (zgi h3 (by omega)) ⟨_, rfl, zBy_upd q1 _ _, q2, q3, ?_, ?_, e1⟩
    · show 0 ≤ (bn + (1 : Int32)).toInt
      omega
    · exact q4'
theorem t_J4_append_bf812 (F bc : Nat) (bf : Nat → Int32) (bn : Int32) (p0 : Int32) (hF : 2000 ≤ F) (hy : zBy bf) (h1 : 16 ≤ bc) (h2 : bc ≤ 130) (h3 : 0 ≤ bn.toInt) (h4 : bn.toInt ≤ bc) (h5 : bn.toInt ≤ 53 ∨ (bn.toInt ≤ 61 ∧ 0 ≤ p0.toInt ∧ p0.toInt ≤ 9)) : ZE (fun (r : Nat × (Nat → Int32) × Int32) => zBy r.2.1 ∧ 16 ≤ r.1 ∧ r.1 ≤ 130 ∧ 0 ≤ r.2.2.toInt ∧ r.2.2.toInt ≤ r.1 ∧ bn.toInt + 1 ≤ r.2.2.toInt ∧ r.2.2.toInt ≤ bn.toInt + 11 ∧ (0 ≤ p0.toInt → p0.toInt ≤ 9 → r.2.2.toInt = bn.toInt + 1) ∧ (0 ≤ p0.toInt → p0.toInt ≤ 999 → r.2.2.toInt ≤ bn.toInt + 3)) (p_J4_append_bf812 F bc bf bn p0) := by
  unfold p_J4_append_bf812
  refine ZE_b3 (Q := fun (r : Nat × (Nat → Int32) × Int32) => zBy r.2.1 ∧ 16 ≤ r.1 ∧ r.1 ≤ 130 ∧ 0 ≤ r.2.2.toInt ∧ r.2.2.toInt ≤ r.1 ∧ bn.toInt + 1 ≤ r.2.2.toInt ∧ r.2.2.toInt ≤ bn.toInt + 11 ∧ (0 ≤ p0.toInt → p0.toInt ≤ 9 → r.2.2.toInt = bn.toInt + 1) ∧ (0 ≤ p0.toInt → p0.toInt ≤ 999 → r.2.2.toInt ≤ bn.toInt + 3)) ?_ (fun a b c q => ⟨_, rfl, q⟩)
  unfold p_J5_append_c97b9
  refine ZE_b1 (t_J6_stringSize_0f7a4 F p0 hF) (fun r1 z => ?_)
  obtain ⟨z1, z2, z3, z4⟩ := zSz_b z
  have e1 : (bn + r1).toInt = bn.toInt + r1.toInt := zad (by omega) (by omega)
  refine ZE_b2 (zEns bc bf _ hy h1 h2 (by omega) (by omega)) (fun bc_3 bf_4 q => ?_)
  obtain ⟨q1, q2, q3, q4⟩ := q
  have q4' : (bn + r1).toInt ≤ (bc_3 : Int) := q4
  refine ZE_b1 (Q := fun r => r = true) ⟨_, rfl, rfl⟩ (fun r7 h7 => ?_)
  subst h7
  refine ZE_if (fun c => absurd c (by decide)) (fun _ => ?_)
  have g := zSz_g (p := bn.toInt) (n2 := bc_3) z (by omega) q1
  have hq : (0 : Int) ≤ (if p0.toInt < 0 then 1 else 0) := by split <;> omega
  refine ZE_b2 (t_J6_getChars_ba4f3 F p0 (bn + r1) bc_3 bf_4 hF q3 q4' q1 (bn.toInt + (if p0.toInt < 0 then 1 else 0)) (by omega) (fun h => by rw [if_pos h]; omega) (by rw [e1]; exact g)) (fun r9 T0 y => ⟨_, rfl, y, q2, q3, ?_⟩)
  show 0 ≤ (bn + r1).toInt ∧ (bn + r1).toInt ≤ (bc_3 : Int) ∧ bn.toInt + 1 ≤ (bn + r1).toInt ∧ (bn + r1).toInt ≤ bn.toInt + 11 ∧ (0 ≤ p0.toInt → p0.toInt ≤ 9 → (bn + r1).toInt = bn.toInt + 1) ∧ (0 ≤ p0.toInt → p0.toInt ≤ 999 → (bn + r1).toInt ≤ bn.toInt + 3)
  refine ⟨by omega, q4', by omega, by omega, fun a b => ?_, fun a b => ?_⟩
  · have := z3 a b; omega
  · have := z4 a b; omega
theorem t_J4_append_f7089 (F bc : Nat) (bf : Nat → Int32) (bn : Int32) (p0 : Int64) (hF : 2000 ≤ F) (hy : zBy bf) (h1 : 16 ≤ bc) (h2 : bc ≤ 130) (h3 : 0 ≤ bn.toInt) (h4 : bn.toInt ≤ bc) (h5 : bn.toInt ≤ 44) : ZE (fun (r : Nat × (Nat → Int32) × Int32) => zBy r.2.1 ∧ 16 ≤ r.1 ∧ r.1 ≤ 130 ∧ 0 ≤ r.2.2.toInt ∧ r.2.2.toInt ≤ r.1 ∧ r.2.2.toInt ≤ bn.toInt + 20) (p_J4_append_f7089 F bc bf bn p0) := by
  unfold p_J4_append_f7089
  refine ZE_b3 (Q := fun (r : Nat × (Nat → Int32) × Int32) => zBy r.2.1 ∧ 16 ≤ r.1 ∧ r.1 ≤ 130 ∧ 0 ≤ r.2.2.toInt ∧ r.2.2.toInt ≤ r.1 ∧ r.2.2.toInt ≤ bn.toInt + 20) ?_ (fun a b c q => ⟨_, rfl, q⟩)
  unfold p_J5_append_66267
  refine ZE_b1 (t_J13_stringSize_95d88 F p0 hF) (fun r1 z => ?_)
  obtain ⟨z1, z2, z3, z4⟩ := zSz_b z
  have e1 : (bn + r1).toInt = bn.toInt + r1.toInt := zad (by omega) (by omega)
  refine ZE_b2 (zEns bc bf _ hy h1 h2 (by omega) (by omega)) (fun bc_3 bf_4 q => ?_)
  obtain ⟨q1, q2, q3, q4⟩ := q
  have q4' : (bn + r1).toInt ≤ (bc_3 : Int) := q4
  refine ZE_b1 (Q := fun r => r = true) ⟨_, rfl, rfl⟩ (fun r7 h7 => ?_)
  subst h7
  refine ZE_if (fun c => absurd c (by decide)) (fun _ => ?_)
  have g := zSz_g (p := bn.toInt) (n2 := bc_3) z (by omega) q1
  have hq : (0 : Int) ≤ (if p0.toInt < 0 then 1 else 0) := by split <;> omega
  refine ZE_b2 (t_J13_getChars_11360 F p0 (bn + r1) bc_3 bf_4 hF q3 q4' q1 (bn.toInt + (if p0.toInt < 0 then 1 else 0)) (by omega) (fun h => by rw [if_pos h]; omega) (by rw [e1]; exact g)) (fun r9 T0 y => ⟨_, rfl, y, q2, q3, ?_⟩)
  show 0 ≤ (bn + r1).toInt ∧ (bn + r1).toInt ≤ (bc_3 : Int) ∧ (bn + r1).toInt ≤ bn.toInt + 20
  exact ⟨by omega, q4', by omega⟩
theorem t_J4_append_15ec4 (bc : Nat) (bf : Nat → Int32) (bn : Int32) (sn : Nat) (sf : Nat → Int32) (hy : zBy bf) (h1 : 16 ≤ bc) (h2 : bc ≤ 130) (h3 : 0 ≤ bn.toInt) (h4 : bn.toInt ≤ bc) (h5 : bn.toInt + sn ≤ 64) (hz : zBy sf) : ZE (fun (r : Nat × (Nat → Int32) × Int32) => zBy r.2.1 ∧ 16 ≤ r.1 ∧ r.1 ≤ 130 ∧ 0 ≤ r.2.2.toInt ∧ r.2.2.toInt ≤ r.1 ∧ r.2.2.toInt = bn.toInt + sn) (p_J4_append_15ec4 bc bf bn sn sf) := by
  unfold p_J4_append_15ec4
  refine ZE_b3 (Q := fun (r : Nat × (Nat → Int32) × Int32) => zBy r.2.1 ∧ 16 ≤ r.1 ∧ r.1 ≤ 130 ∧ 0 ≤ r.2.2.toInt ∧ r.2.2.toInt ≤ r.1 ∧ r.2.2.toInt = bn.toInt + sn) ?_ (fun a b c q => ⟨_, rfl, q⟩)
  unfold p_J5_append_cf1ce
  have es := zon (n := sn) (by omega)
  refine ZE_b1 (Q := fun r => r = Int32.ofNat sn) ⟨_, rfl, zsh0 _⟩ (fun r1 hr => ?_)
  subst hr
  have e1 : (bn + Int32.ofNat sn).toInt = bn.toInt + sn := by rw [zad (x := bn) (c := Int32.ofNat sn) (by omega) (by omega), es]
  refine ZE_b2 (zEns bc bf _ hy h1 h2 (by omega) (by omega)) (fun bc_3 bf_4 q => ?_)
  obtain ⟨q1, q2, q3, q4⟩ := q
  have q4' : (bn + Int32.ofNat sn).toInt ≤ (bc_3 : Int) := q4
  refine ZE_b1 (Q := fun r => zBy r) ?_ (fun bf_7 y => ⟨_, rfl, y, q2, q3, ?_⟩)
  · unfold p_J5_putStringAt_47b60
    refine ZE_b0 (Q := fun _ => True) ⟨_, rfl, trivial⟩ ?_
    refine ZE_b1 (Q := fun r => zBy r) ?_ (fun T y => ⟨_, rfl, y⟩)
    unfold p_J0_getBytes_840e7
    refine ZE_b1 (Q := fun r => r = 0) ⟨_, rfl, rfl⟩ (fun r1 hr => ?_)
    subst hr
    refine ZE_if (fun c => absurd rfl c) (fun _ => ?_)
    rw [zsl0]
    exact ZE_zg (zcp_mk hz (by decide) h3 (by omega) (by rw [show (0 : Int32).toInt = 0 from by decide]; omega) (by omega)) ⟨_, rfl, zBy_cpy hz q1 _ _ _⟩
  · show 0 ≤ (bn + Int32.ofNat sn).toInt ∧ (bn + Int32.ofNat sn).toInt ≤ (bc_3 : Int) ∧ (bn + Int32.ofNat sn).toInt = bn.toInt + sn
    exact ⟨by omega, q4', e1⟩
theorem z01f : (z01 false).toInt = 0 := by decide
theorem z01t : (z01 true).toInt = 1 := by decide
theorem t_J0_isEmpty_aae02 (sn : Nat) (sf : Nat → Int32) (h : sn ≤ 1000) : ZE (fun (r : Bool) => ((z01 r).toInt = 0 ∧ 1 ≤ sn) ∨ ((z01 r).toInt = 1 ∧ sn = 0)) (p_J0_isEmpty_aae02 sn sf) := by
  unfold p_J0_isEmpty_aae02
  have es := zon (n := sn) (by omega)
  refine ZE_if (fun c => ⟨_, rfl, Or.inl ⟨z01f, ?_⟩⟩) (fun c => ⟨_, rfl, Or.inr ⟨z01t, ?_⟩⟩)
  · rcases Nat.eq_zero_or_pos sn with e | e
    · exact absurd (by rw [e]; rfl) c
    · exact e
  · have c' := congrArg Int32.toInt (Decidable.not_not.mp c)
    rw [es, show (0 : Int32).toInt = 0 from by decide] at c'
    omega
theorem zCopyRg (n0 : Nat) (p0 : Nat → Int32) (p2 : Int32) (hy : zBy p0) (h0 : 0 ≤ p2.toInt) (h1 : p2.toInt ≤ n0) (h2 : n0 ≤ 130) : ZE (fun (r : Nat × (Nat → Int32)) => zBy r.2 ∧ (r.1 : Int) = p2.toInt) (p_J7_copyOfRangeByte_39247 n0 p0 (0 : Int32) p2) := by
  unfold p_J7_copyOfRangeByte_39247
  have o0 : (0 : Int32).toInt = 0 := by decide
  have eb := zon (n := n0) (by omega)
  have e1 : (p2 - (0 : Int32)).toInt = p2.toInt := by rw [zsb (x := p2) (y := (0 : Int32)) (by omega) (by omega), o0]; omega
  have e2 : (Int32.ofNat n0 - (0 : Int32)).toInt = n0 := by rw [zsb (x := Int32.ofNat n0) (y := (0 : Int32)) (by omega) (by omega), o0, eb]; omega
  have em : (if (p2 - (0 : Int32)) < ((Int32.ofNat n0) - (0 : Int32)) then (p2 - (0 : Int32)) else ((Int32.ofNat n0) - (0 : Int32))).toInt = p2.toInt := by
    split
    · exact e1
    · rename_i c
      rw [Int32.lt_iff_toInt_lt, e1, e2] at c
      rw [e2]; omega
  refine ZE_b0 (Q := fun _ => True) ?_ ?_
  · unfold p_J7_checkLength_df160
    rw [if_pos (by rw [Int32.le_iff_toInt_le, o0]; exact h0)]
    exact ⟨_, rfl, trivial⟩
  · refine ZE_zg ?_ (ZE_zg (zcp_mk hy (by omega) (by omega) (by omega) (by omega) ?_) ⟨_, rfl, zBy_cpy hy zBy0 _ _ _, ?_⟩)
    · rw [Int32.lt_iff_toInt_lt, e1, o0, zcl, e1]; omega
    · rw [em, o0, zcl, e1]; omega
    · show (((p2 - (0 : Int32)).toNatClampNeg : Nat) : Int) = p2.toInt
      rw [zcl, e1]; omega
theorem t_J7_copyOfRange_39247 (n0 : Nat) (p0 : Nat → Int32) (p1 p2 : Int32) (hp : p1.toInt = 0) (hy : zBy p0) (h0 : 0 ≤ p2.toInt) (h1 : p2.toInt ≤ n0) (h2 : n0 ≤ 130) : ZE (fun (r : Nat × (Nat → Int32)) => zBy r.2 ∧ (r.1 : Int) = p2.toInt) (p_J7_copyOfRange_39247 n0 p0 p1 p2) := by
  unfold p_J7_copyOfRange_39247
  have e0 : p1 = 0 := Int32.toInt_inj.mp (by rw [hp]; decide)
  subst e0
  refine ZE_if (fun c => absurd rfl c) (fun _ => ZE_if (fun c => ?_) (fun c => ?_))
  · refine ZE_zg (by omega) (ZE_zg (zbf_mk hy) ⟨_, rfl, hy, ?_⟩)
    rw [c]
    exact (zon (by omega)).symm
  · exact ZE_b2 (zCopyRg n0 p0 p2 hy h0 h1 h2) (fun a b q => ⟨_, rfl, q⟩)

set_option maxHeartbeats 2000000 in
theorem zRev {P : (Nat → Int32) → Prop} (F bc : Nat) (bn : Int32) (h1 : bc ≤ 130) (h2 : 0 ≤ bn.toInt) (h3 : bn.toInt ≤ bc) (k : Int32 → (Nat → Int32) → Option ((Nat → Int32))) (hk : ∀ (v4_0 : Int32) (bfL0 : Nat → Int32), zBy bfL0 → ZE P (k v4_0 bfL0)) : ∀ (n : Nat) (v4_0 : Int32) (bfL0 : Nat → Int32), (-1 ≤ v4_0.toInt ∧ 2 * v4_0.toInt ≤ bn.toInt - 2 ∧ zBy bfL0) → (v4_0.toInt + 1).toNat < n → ZE P (p_J5_reverse_278bc_L0 F bc bn k n v4_0 bfL0) := by
  intro n
  induction n with
  | zero => intro v4_0 bfL0 _ hm; exact absurd hm (Nat.not_lt_zero _)
  | succ n ih =>
    intro v4_0 bfL0 hI hm
    show ZE P (if v4_0 < 0 then (k v4_0 bfL0) else (zg (v4_0 < 0 ∨ bc ≤ v4_0.toNatClampNeg) (zg (((bn - (1 : Int32)) - v4_0) < 0 ∨ bc ≤ ((bn - (1 : Int32)) - v4_0).toNatClampNeg) (zg (v4_0 < 0 ∨ bc ≤ v4_0.toNatClampNeg) (zg (((bn - (1 : Int32)) - v4_0) < 0 ∨ bc ≤ ((bn - (1 : Int32)) - v4_0).toNatClampNeg) (p_J5_reverse_278bc_L0 F bc bn k n (v4_0 + (-1 : Int32)) (upd (upd bfL0 v4_0.toNatClampNeg (vp_nar .byte (bfL0 ((bn - (1 : Int32)) - v4_0).toNatClampNeg))) ((bn - (1 : Int32)) - v4_0).toNatClampNeg (vp_nar .byte (bfL0 v4_0.toNatClampNeg)))))))))
    obtain ⟨i1, i2, i3⟩ := hI
    have o1 : (1 : Int32).toInt = 1 := by decide
    refine ZE_if (fun c => hk _ _ i3) (fun c => ?_)
    rw [Int32.lt_iff_toInt_lt, show (0 : Int32).toInt = 0 from by decide] at c
    have B0 : -2147483648 ≤ bn.toInt - 1 := by omega
    have B1 : bn.toInt - 1 < 2147483648 := by omega
    have B2 : -2147483648 ≤ bn.toInt - 1 - v4_0.toInt := by omega
    have B3 : bn.toInt - 1 - v4_0.toInt < 2147483648 := by omega
    have B4 : -2147483647 ≤ v4_0.toInt := by omega
    have A1 : v4_0.toInt < bc := by omega
    have A2 : 0 ≤ v4_0.toInt := by omega
    have A3 : 0 ≤ bn.toInt - 1 - v4_0.toInt := by omega
    have A4 : bn.toInt - 1 - v4_0.toInt < bc := by omega
    have M0 : -1 ≤ v4_0.toInt - 1 := by omega
    have M1 : 2 * (v4_0.toInt - 1) ≤ bn.toInt - 2 := by omega
    have M2 : (v4_0.toInt - 1 + 1).toNat < n := by omega
    have e0 : (bn - (1 : Int32)).toInt = bn.toInt - 1 := by rw [zsb (x := bn) (y := (1 : Int32)) (by rw [o1]; exact B0) (by rw [o1]; exact B1), o1]
    have e1 : ((bn - (1 : Int32)) - v4_0).toInt = bn.toInt - 1 - v4_0.toInt := by rw [zsb (x := (bn - (1 : Int32))) (y := v4_0) (by rw [e0]; exact B2) (by rw [e0]; exact B3), e0]
    have e2 := zam (x := v4_0) B4
    refine ZE_zg (zgi A2 A1) ?_
    refine ZE_zg (zgi2 e1 A3 A4) ?_
    refine ZE_zg (zgi A2 A1) ?_
    refine ZE_zg (zgi2 e1 A3 A4) ?_
    exact ih _ _ ⟨by rw [e2]; exact M0, by rw [e2]; exact M1, zBy_upd (zBy_upd i3 _ _) _ _⟩ (by rw [e2]; exact M2)
theorem t_J4_reverse_43fcb (F bc : Nat) (bf : Nat → Int32) (bn : Int32) (hF : 2000 ≤ F) (hy : zBy bf) (h1 : bc ≤ 130) (h2 : 0 ≤ bn.toInt) (h3 : bn.toInt ≤ bc) : ZE (fun (r : Nat → Int32) => zBy r) (p_J4_reverse_43fcb F bc bf bn) := by
  unfold p_J4_reverse_43fcb
  refine ZE_b1 (Q := fun r => zBy r) ?_ (fun T y => ⟨_, rfl, y⟩)
  unfold p_J5_reverse_278bc
  refine ZE_b1 (Q := fun r => r = true) ⟨_, rfl, rfl⟩ (fun r1 h => ?_)
  subst h
  refine ZE_if (fun c => absurd c (by decide)) (fun _ => ?_)
  have o1 : (1 : Int32).toInt = 1 := by decide
  have e0 : (bn - (1 : Int32)).toInt = bn.toInt - 1 := by rw [zsb (x := bn) (y := (1 : Int32)) (by omega) (by omega), o1]
  have e1 : ((bn - (1 : Int32)) - (1 : Int32)).toInt = bn.toInt - 2 := by rw [zsb (x := (bn - (1 : Int32))) (y := (1 : Int32)) (by omega) (by omega), e0, o1]; omega
  have e2 : (((bn - (1 : Int32)) - (1 : Int32)) >>> ((1 : Int32) &&& 31)).toInt = (bn.toInt - 2) / 2 := by
    rw [pk_shr _ _ 1 (by decide), e1, Int.shiftRight_eq_div_pow]
    rfl
  exact zRev F bc bn h1 h2 h3 _ (fun _ _ y => ⟨_, rfl, y⟩) F _ bf ⟨by omega, by omega, hy⟩ (by omega)
