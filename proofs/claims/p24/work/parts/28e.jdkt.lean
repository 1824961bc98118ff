theorem zpw {i m : Nat} (h : i ≤ m) : 10 ^ i ≤ 10 ^ m := Nat.pow_le_pow_right (by omega) h

set_option maxHeartbeats 2000000 in
theorem t_J6_stringSize_0f7a4_L0 {P : Int32 → Prop} (F : Nat) (l0j0 l1j0 : Int32) (hl : l0j0.toInt ≤ 0) (hd : 0 ≤ l1j0.toInt) (hd1 : l1j0.toInt ≤ 1) (hP : ∀ (r : Int32) (j : Nat), r.toInt = j + l1j0.toInt → 1 ≤ j → j ≤ 10 → -((10 ^ j : Nat) : Int) < l0j0.toInt → (j = 1 ∨ l0j0.toInt ≤ -((10 ^ (j - 1) : Nat) : Int)) → P r) (k : Int32 → Int32 → Option Int32) (hk : ∀ v2_0 v3_0 : Int32, l0j0.toInt ≤ -((10 ^ 9 : Nat) : Int) → ZE P (k v2_0 v3_0)) : ∀ (n : Nat) (v2_0 v3_0 : Int32), (∃ i : Nat, v3_0.toInt = i ∧ 1 ≤ i ∧ i ≤ 10 ∧ (i ≤ 9 → v2_0.toInt = -((10 ^ i : Nat) : Int)) ∧ (i = 1 ∨ l0j0.toInt ≤ -((10 ^ (i - 1) : Nat) : Int))) → (20 - v3_0.toInt).toNat < n → ZE P (p_J6_stringSize_0f7a4_L0 F l0j0 l1j0 k n v2_0 v3_0) := by
  intro n
  induction n with
  | zero => intro v2_0 v3_0 _ hm; exact absurd hm (Nat.not_lt_zero _)
  | succ n ih =>
    intro v2_0 v3_0 hI hm
    show ZE P (if (10 : Int32) ≤ v3_0 then (k v2_0 v3_0) else (if l0j0 ≤ v2_0 then (p_J6_stringSize_0f7a4_L0 F l0j0 l1j0 k n ((10 : Int32) * v2_0) (v3_0 + (1 : Int32))) else (some (v3_0 + l1j0))))
    obtain ⟨i, h1, h2, h3, h4, h5⟩ := hI
    have e1 : (v3_0 + (1 : Int32)).toInt = v3_0.toInt + 1 := zad (by rw [show (1 : Int32).toInt = 1 from by decide]; omega) (by rw [show (1 : Int32).toInt = 1 from by decide]; omega)
    refine ZE_if (fun c => ?_) (fun c => ?_)
    · have : i = 10 := by (first | omega | ((try simp only [Int32.lt_iff_toInt_lt, Int32.le_iff_toInt_le, ← Int32.toInt_inj, zcl, Int32.reduceToInt] at *) <;> omega))
      subst this
      exact hk _ _ (by omega)
    · have i9 : i ≤ 9 := by (first | omega | ((try simp only [Int32.lt_iff_toInt_lt, Int32.le_iff_toInt_le, ← Int32.toInt_inj, zcl, Int32.reduceToInt] at *) <;> omega))
      have ha := h4 i9
      have hz := zpw i9
      have hz0 : 0 < 10 ^ i := Nat.pow_pos (by omega)
      rw [show (10 ^ 9 : Nat) = 1000000000 from rfl] at hz
      refine ZE_if (fun d => ?_) (fun d => ?_)
      · refine ih _ _ ⟨i + 1, by omega, by omega, by omega, fun h => ?_, Or.inr ?_⟩ (by omega)
        · have hz8 := zpw (show i ≤ 8 by omega)
          rw [show (10 ^ 8 : Nat) = 100000000 from rfl] at hz8
          rw [Int32.toInt_mul, ha, show (10 : Int32).toInt = 10 from by decide, Nat.pow_succ]
          rw [Int.bmod_eq_of_le (by omega) (by omega)]
          omega
        · rw [show i + 1 - 1 = i by omega, ← ha]
          exact Int32.le_iff_toInt_le.mp d
      · have d' : v2_0.toInt < l0j0.toInt := by (first | omega | ((try simp only [Int32.lt_iff_toInt_lt, Int32.le_iff_toInt_le, ← Int32.toInt_inj, zcl, Int32.reduceToInt] at *) <;> omega))
        refine ⟨_, rfl, hP _ i ?_ h2 h3 (by omega) h5⟩
        rw [zad (x := v3_0) (c := l1j0) (by omega) (by omega), h1]

/-- what stringSize tells of x: digits and sign -/
def zSz (x : Int) (r : Int) (m : Nat) : Prop := ∃ j : Nat, r = j + (if x < 0 then 1 else 0) ∧ 1 ≤ j ∧ j ≤ m ∧ -((10 ^ j : Nat) : Int) < (if x < 0 then x else -x) ∧ (j = 1 ∨ (if x < 0 then x else -x) ≤ -((10 ^ (j - 1) : Nat) : Int))
set_option maxHeartbeats 2000000 in
theorem t_J6_stringSize_0f7a4 (F : Nat) (p0 : Int32) (hF : 2000 ≤ F) : ZE (fun (r : Int32) => zSz p0.toInt r.toInt 10) (p_J6_stringSize_0f7a4 F p0) := by
  unfold p_J6_stringSize_0f7a4
  have r0 := zrg p0
  refine ZE_ltn (fun jf0 => ∀ l0j0 l1j0 : Int32, l0j0.toInt = (if p0.toInt < 0 then p0.toInt else -p0.toInt) → l1j0.toInt = (if p0.toInt < 0 then 1 else 0) → ZE (fun (r : Int32) => zSz p0.toInt r.toInt 10) (jf0 l0j0 l1j0)) (fun l0j0 l1j0 ha hb => ?_) (fun jf0 hj => ?_)
  · have hl : l0j0.toInt ≤ 0 := by rw [ha]; split <;> omega
    have hb0 : 0 ≤ l1j0.toInt ∧ l1j0.toInt ≤ 1 := by rw [hb]; split <;> omega
    refine t_J6_stringSize_0f7a4_L0 (P := fun (r : Int32) => zSz p0.toInt r.toInt 10) F l0j0 l1j0 hl hb0.1 hb0.2 (fun r j h1 h2 h3 h4 h5 => ?_) _ (fun _ _ hx => ?_) F (-10 : Int32) (1 : Int32) ⟨1, by decide, by omega, by omega, fun _ => by decide, Or.inl rfl⟩ (by rw [show (1 : Int32).toInt = 1 from by decide]; omega)
    · exact ⟨j, by rw [h1, hb], h2, h3, by rw [← ha]; exact h4, by rw [← ha]; exact h5⟩
    · refine ⟨_, rfl, 10, ?_, by omega, by omega, ?_, Or.inr ?_⟩
      · rw [zad (x := (10 : Int32)) (c := l1j0) (by rw [show (10 : Int32).toInt = 10 from by decide]; omega) (by rw [show (10 : Int32).toInt = 10 from by decide]; omega), hb, show (10 : Int32).toInt = 10 from by decide]
        rfl
      · rw [← ha, show (10 ^ 10 : Nat) = 10000000000 from rfl]
        have r1 := zrg l0j0
        omega
      · rw [← ha]
        exact hx
  · refine ZE_if (fun c => ?_) (fun c => ?_)
    · have c' : p0.toInt < 0 := by (first | omega | ((try simp only [Int32.lt_iff_toInt_lt, Int32.le_iff_toInt_le, ← Int32.toInt_inj, zcl, Int32.reduceToInt] at *) <;> omega))
      exact hj _ _ (by rw [if_pos c']) (by rw [if_pos c']; decide)
    · have c' : ¬ p0.toInt < 0 := by (first | omega | ((try simp only [Int32.lt_iff_toInt_lt, Int32.le_iff_toInt_le, ← Int32.toInt_inj, zcl, Int32.reduceToInt] at *) <;> omega))
      exact hj _ _ (by rw [if_neg c', zng (by omega)]) (by rw [if_neg c']; decide)

set_option maxHeartbeats 2000000 in
theorem t_J13_stringSize_95d88_L0 {P : Int32 → Prop} (F : Nat) (l0j0 : Int64) (l2j0 : Int32) (hl : l0j0.toInt ≤ 0) (hd : 0 ≤ l2j0.toInt) (hd1 : l2j0.toInt ≤ 1) (hP : ∀ (r : Int32) (j : Nat), r.toInt = j + l2j0.toInt → 1 ≤ j → j ≤ 19 → -((10 ^ j : Nat) : Int) < l0j0.toInt → (j = 1 ∨ l0j0.toInt ≤ -((10 ^ (j - 1) : Nat) : Int)) → P r) (k : Int64 → Int32 → Option Int32) (hk : ∀ (v3_0 : Int64) (v5_0 : Int32), l0j0.toInt ≤ -((10 ^ 18 : Nat) : Int) → ZE P (k v3_0 v5_0)) : ∀ (n : Nat) (v3_0 : Int64) (v5_0 : Int32), (∃ i : Nat, v5_0.toInt = i ∧ 1 ≤ i ∧ i ≤ 19 ∧ (i ≤ 18 → v3_0.toInt = -((10 ^ i : Nat) : Int)) ∧ (i = 1 ∨ l0j0.toInt ≤ -((10 ^ (i - 1) : Nat) : Int))) → (20 - v5_0.toInt).toNat < n → ZE P (p_J13_stringSize_95d88_L0 F l0j0 l2j0 k n v3_0 v5_0) := by
  intro n
  induction n with
  | zero => intro v3_0 v5_0 _ hm; exact absurd hm (Nat.not_lt_zero _)
  | succ n ih =>
    intro v3_0 v5_0 hI hm
    show ZE P (if (19 : Int32) ≤ v5_0 then (k v3_0 v5_0) else (if (lg_cmp l0j0 v3_0) ≤ 0 then (p_J13_stringSize_95d88_L0 F l0j0 l2j0 k n ((10 : Int64) * v3_0) (v5_0 + (1 : Int32))) else (some (v5_0 + l2j0))))
    obtain ⟨i, h1, h2, h3, h4, h5⟩ := hI
    have e1 : (v5_0 + (1 : Int32)).toInt = v5_0.toInt + 1 := zad (by rw [show (1 : Int32).toInt = 1 from by decide]; omega) (by rw [show (1 : Int32).toInt = 1 from by decide]; omega)
    refine ZE_if (fun c => ?_) (fun c => ?_)
    · have : i = 19 := by (first | omega | ((try simp only [Int32.lt_iff_toInt_lt, Int32.le_iff_toInt_le, ← Int32.toInt_inj, zcl, Int32.reduceToInt] at *) <;> omega))
      subst this
      exact hk _ _ (by omega)
    · have i18 : i ≤ 18 := by (first | omega | ((try simp only [Int32.lt_iff_toInt_lt, Int32.le_iff_toInt_le, ← Int32.toInt_inj, zcl, Int32.reduceToInt] at *) <;> omega))
      have ha := h4 i18
      have hz := zpw i18
      have hz0 : 0 < 10 ^ i := Nat.pow_pos (by omega)
      rw [show (10 ^ 18 : Nat) = 1000000000000000000 from rfl] at hz
      refine ZE_if (fun d => ?_) (fun d => ?_)
      · refine ih _ _ ⟨i + 1, by omega, by omega, by omega, fun h => ?_, Or.inr ?_⟩ (by omega)
        · have hz8 := zpw (show i ≤ 17 by omega)
          rw [show (10 ^ 17 : Nat) = 100000000000000000 from rfl] at hz8
          rw [Int64.toInt_mul, ha, show (10 : Int64).toInt = 10 from by decide, Nat.pow_succ]
          rw [Int.bmod_eq_of_le (by omega) (by omega)]
          omega
        · rw [show i + 1 - 1 = i by omega, ← ha]
          exact zcmp_le d
      · have d' : v3_0.toInt < l0j0.toInt := zcmp_gt d
        refine ⟨_, rfl, hP _ i ?_ h2 h3 (by omega) h5⟩
        rw [zad (x := v5_0) (c := l2j0) (by omega) (by omega), h1]

set_option maxHeartbeats 2000000 in
theorem t_J13_stringSize_95d88 (F : Nat) (p0 : Int64) (hF : 2000 ≤ F) : ZE (fun (r : Int32) => zSz p0.toInt r.toInt 19) (p_J13_stringSize_95d88 F p0) := by
  unfold p_J13_stringSize_95d88
  have r0 := Int64.le_toInt p0
  have r1 := Int64.toInt_lt p0
  refine ZE_ltn (fun jf0 => ∀ (l0j0 : Int64) (l2j0 : Int32), l0j0.toInt = (if p0.toInt < 0 then p0.toInt else -p0.toInt) → l2j0.toInt = (if p0.toInt < 0 then 1 else 0) → ZE (fun (r : Int32) => zSz p0.toInt r.toInt 19) (jf0 l0j0 l2j0)) (fun l0j0 l2j0 ha hb => ?_) (fun jf0 hj => ?_)
  · have hl : l0j0.toInt ≤ 0 := by rw [ha]; split <;> omega
    have hb0 : 0 ≤ l2j0.toInt ∧ l2j0.toInt ≤ 1 := by rw [hb]; split <;> omega
    refine t_J13_stringSize_95d88_L0 (P := fun (r : Int32) => zSz p0.toInt r.toInt 19) F l0j0 l2j0 hl hb0.1 hb0.2 (fun r j h1 h2 h3 h4 h5 => ?_) _ (fun _ _ hx => ?_) F (-10 : Int64) (1 : Int32) ⟨1, by decide, by omega, by omega, fun _ => by decide, Or.inl rfl⟩ (by rw [show (1 : Int32).toInt = 1 from by decide]; omega)
    · exact ⟨j, by rw [h1, hb], h2, h3, by rw [← ha]; exact h4, by rw [← ha]; exact h5⟩
    · refine ⟨_, rfl, 19, ?_, by omega, by omega, ?_, Or.inr ?_⟩
      · rw [zad (x := (19 : Int32)) (c := l2j0) (by rw [show (19 : Int32).toInt = 19 from by decide]; omega) (by rw [show (19 : Int32).toInt = 19 from by decide]; omega), hb, show (19 : Int32).toInt = 19 from by decide]
        rfl
      · rw [← ha, show (10 ^ 19 : Nat) = 10000000000000000000 from rfl]
        have r2 := Int64.le_toInt l0j0
        omega
      · rw [← ha]
        exact hx
  · refine ZE_if (fun c => ?_) (fun c => ?_)
    · have c' := zcmp_lt c
      rw [show (0 : Int64).toInt = 0 from by decide] at c'
      exact hj _ _ (by rw [if_pos c']) (by rw [if_pos c']; decide)
    · have c' := zcmp_ge c
      rw [show (0 : Int64).toInt = 0 from by decide] at c'
      exact hj _ _ (by rw [if_neg (by omega), zngl c']) (by rw [if_neg (by omega)]; decide)
theorem zSz_b {x r : Int} {m : Nat} (h : zSz x r m) : 1 ≤ r ∧ r ≤ m + 1 ∧ (0 ≤ x → x ≤ 9 → r = 1) ∧ (0 ≤ x → x ≤ 999 → r ≤ 3) := by
  obtain ⟨j, h1, h2, h3, h4, h5⟩ := h
  have e : (if x < 0 then (1 : Int) else 0) = 0 ∨ (if x < 0 then (1 : Int) else 0) = 1 := by split <;> simp
  refine ⟨by omega, by omega, fun a b => ?_, fun a b => ?_⟩
  · rw [if_neg (by omega)] at h1 h5
    rcases h5 with h5 | h5
    · omega
    · rcases Nat.lt_or_ge j 2 with q | q
      · omega
      · have := zpw (show 1 ≤ j - 1 by omega)
        rw [show (10 ^ 1 : Nat) = 10 from rfl] at this
        omega
  · rw [if_neg (by omega)] at h1 h5
    rcases h5 with h5 | h5
    · omega
    · rcases Nat.lt_or_ge j 4 with q | q
      · omega
      · have := zpw (show 3 ≤ j - 1 by omega)
        rw [show (10 ^ 3 : Nat) = 1000 from rfl] at this
        omega
theorem zSz_g {x r p : Int} {m n2 : Nat} {f : Nat → Int32} (h : zSz x r m) (hp : p + r ≤ n2) (hy : zBy f) : zGc n2 (p + (if x < 0 then 1 else 0)) (if x < 0 then x else -x) (p + r) f := by
  obtain ⟨j, h1, h2, h3, h4, h5⟩ := h
  refine ⟨by split <;> omega, hp, hy, j, by rw [h1]; omega, h2, h4⟩

