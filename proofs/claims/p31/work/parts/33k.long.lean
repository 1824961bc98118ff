-- ==================== longs: compared, added, multiplied; what goes beyond
theorem lgc3 (x y : Int64) : (x.toInt < y.toInt ∧ lg_cmp x y = -1) ∨ (x = y ∧ lg_cmp x y = 0) ∨ (y.toInt < x.toInt ∧ lg_cmp x y = 1) := by
  unfold lg_cmp
  by_cases h1 : x > y
  · rw [if_pos h1]
    exact Or.inr (Or.inr ⟨Int64.lt_iff_toInt_lt.mp h1, rfl⟩)
  · rw [if_neg h1]
    by_cases h2 : x = y
    · rw [if_pos h2]
      exact Or.inr (Or.inl ⟨h2, rfl⟩)
    · rw [if_neg h2]
      refine Or.inl ⟨?_, rfl⟩
      have a : ¬ y.toInt < x.toInt := fun h => h1 (Int64.lt_iff_toInt_lt.mpr h)
      have b : x.toInt ≠ y.toInt := fun h => h2 (Int64.toInt_inj.mp h)
      omega
theorem lgc0 {x y : Int64} : lg_cmp x y = 0 ↔ x = y := by
  rcases lgc3 x y with ⟨h, e⟩ | ⟨h, e⟩ | ⟨h, e⟩
  · rw [e]
    exact ⟨fun q => absurd q (by decide), fun q => absurd (congrArg Int64.toInt q) (by omega)⟩
  · rw [e]
    exact ⟨fun _ => h, fun _ => rfl⟩
  · rw [e]
    exact ⟨fun q => absurd q (by decide), fun q => absurd (congrArg Int64.toInt q) (by omega)⟩
theorem lgcn {x y : Int64} : lg_cmp x y < 0 ↔ x.toInt < y.toInt := by
  rcases lgc3 x y with ⟨h, e⟩ | ⟨h, e⟩ | ⟨h, e⟩
  · rw [e]
    exact ⟨fun _ => h, fun _ => by decide⟩
  · rw [e, h]
    exact ⟨fun q => absurd q (by decide), fun q => absurd q (Int.lt_irrefl _)⟩
  · rw [e]
    exact ⟨fun q => absurd q (by decide), fun q => absurd q (by omega)⟩
theorem lgcl {x y : Int64} : lg_cmp x y ≤ 0 ↔ x.toInt ≤ y.toInt := by
  rcases lgc3 x y with ⟨h, e⟩ | ⟨h, e⟩ | ⟨h, e⟩
  · rw [e]
    exact ⟨fun _ => by omega, fun _ => by decide⟩
  · rw [e, h]
    exact ⟨fun _ => Int.le_refl _, fun _ => by decide⟩
  · rw [e]
    exact ⟨fun q => absurd q (by decide), fun q => absurd q (by omega)⟩
theorem lgz {x : Int64} : 0 ≤ lg_cmp x 0 ↔ ¬ x.toInt < 0 := by
  rw [← Int32.not_lt, lgcn]
  exact Iff.rfl
theorem lgzn {x : Int64} : lg_cmp x 0 < 0 ↔ x.toInt < 0 := lgcn
theorem lgzl {x : Int64} : lg_cmp x 0 ≤ 0 ↔ x.toInt ≤ 0 := lgcl
theorem zms (x : Int64) : x.toInt < 0 ↔ x.toBitVec.msb = true := by
  show x.toBitVec.toInt < 0 ↔ _
  rw [BitVec.msb_eq_toInt, decide_eq_true_iff]
theorem zsx (x y : Int64) : (x ^^^ y).toInt < 0 ↔ ¬ (x.toInt < 0 ↔ y.toInt < 0) := by
  rw [zms, zms, zms, Int64.toBitVec_xor, BitVec.msb_xor]
  cases x.toBitVec.msb <;> cases y.toBitVec.msb <;> decide
theorem zsa (x y : Int64) : (x &&& y).toInt < 0 ↔ (x.toInt < 0 ∧ y.toInt < 0) := by
  rw [zms, zms, zms, Int64.toBitVec_and, BitVec.msb_and]
  cases x.toBitVec.msb <;> cases y.toBitVec.msb <;> decide
def ovA (a b : Int64) : Bool := decide (¬ (a.toInt < 0 ↔ (a + b).toInt < 0) ∧ ¬ (b.toInt < 0 ↔ (a + b).toInt < 0))
def ovM (a b : Int64) : Bool := decide (¬ (a.toInt < 0 ↔ b.toInt < 0) ∧ ¬ (a.toInt < 0 ↔ (a - b).toInt < 0))
theorem zPl7 (b : Bool) (a c : Int64) : p_X3_plus b a c = some (a + c, b || ovA a c) := by
  unfold p_X3_plus ovA
  by_cases h : ¬ (a.toInt < 0 ↔ (a + c).toInt < 0) ∧ ¬ (c.toInt < 0 ↔ (a + c).toInt < 0)
  · rw [if_neg (by rw [lgz, zsa, zsx, zsx]; exact fun q => q h), decide_eq_true h, Bool.or_true]
  · rw [if_pos (by rw [lgz, zsa, zsx, zsx]; exact h), decide_eq_false h, Bool.or_false]
theorem zMi7 (b : Bool) (a c : Int64) : p_X3_minus b a c = some (a - c, b || ovM a c) := by
  unfold p_X3_minus ovM
  by_cases h : ¬ (a.toInt < 0 ↔ c.toInt < 0) ∧ ¬ (a.toInt < 0 ↔ (a - c).toInt < 0)
  · rw [if_neg (by rw [lgz, zsa, zsx, zsx]; exact fun q => q h), decide_eq_true h, Bool.or_true]
  · rw [if_pos (by rw [lgz, zsa, zsx, zsx]; exact h), decide_eq_false h, Bool.or_false]
set_option maxHeartbeats 2000000 in
theorem zPl9 (b : Bool) (a c : Int64) : p_X9_plus b a c = some (a + c, b || ovA a c) := by
  have z0 : a.toInt = 0 → (a + c).toInt = c.toInt := fun h => by rw [show a = 0 from Int64.toInt_inj.mp (by rw [h]; rfl), Int64.zero_add]
  have z1 : c.toInt = 0 → (a + c).toInt = a.toInt := fun h => by rw [show c = 0 from Int64.toInt_inj.mp (by rw [h]; rfl), Int64.add_zero]
  unfold p_X9_plus ovA zlt
  simp only [lgz, lgzn, lgzl]
  generalize a + c = s at z0 z1 ⊢
  by_cases ha : a.toInt < 0 <;> by_cases hc : c.toInt < 0 <;> by_cases hs : s.toInt < 0 <;> by_cases ha0 : a.toInt ≤ 0 <;> by_cases hc0 : c.toInt ≤ 0 <;> first | omega | simp [ha, hc, hs, ha0, hc0]
/-- the reference's two tests behind a difference -/
theorem zMi9 (a c : Int64) : ((¬ a.toInt < 0 ∧ c.toInt < 0 ∧ (a - c).toInt < 0) ∨ (a.toInt < 0 ∧ ¬ c.toInt ≤ 0 ∧ ¬ (a - c).toInt < 0)) ↔ ovM a c = true := by
  have z1 : c.toInt = 0 → (a - c).toInt = a.toInt := fun h => by rw [show c = 0 from Int64.toInt_inj.mp (by rw [h]; rfl), Int64.sub_zero]
  unfold ovM
  rw [decide_eq_true_iff]
  omega
/-- a product is within the longs -/
def letp (a b : Int64) : Bool := decide (-9223372036854775808 ≤ a.toInt * b.toInt ∧ a.toInt * b.toInt ≤ 9223372036854775807)
theorem letp_comm (a b : Int64) : letp a b = letp b a := by
  unfold letp
  rw [Int.mul_comm]
theorem zrl64 (x : Int64) : -9223372036854775808 ≤ x.toInt ∧ x.toInt ≤ 9223372036854775807 := by
  have h1 := Int64.le_toInt x
  have h2 := Int64.toInt_lt x
  omega
theorem zbm {n : Int} (h1 : -9223372036854775808 ≤ n) (h2 : n ≤ 9223372036854775807) : n.bmod (2 ^ 64) = n := Int.bmod_eq_of_le (by omega) (by omega)
theorem zqo64 (a b : Int64) (hb : ¬ b = 0) : ((a * b) / b = a ∧ ¬ (a = -9223372036854775808 ∧ b = -1)) ↔ letp a b = true := by
  have hb0 : b.toInt ≠ 0 := fun h => hb (Int64.toInt_inj.mp h)
  have m63 : (-9223372036854775808 : Int64).toInt = -9223372036854775808 := by decide
  have m1 : (-1 : Int64).toInt = -1 := by decide
  have ra := zrl64 a
  have rb := zrl64 b
  unfold letp
  rw [decide_eq_true_iff]
  constructor
  · rintro ⟨h, ns⟩
    have e := congrArg Int64.toInt h
    rw [Int64.toInt_div] at e
    have rx := zrl64 (a * b)
    have ex : (a * b).toInt = a.toInt * b.toInt - (2 ^ 64 : Nat) * Int.bdiv (a.toInt * b.toInt) (2 ^ 64) := by
      rw [Int64.toInt_mul]
      exact Int.bmod_eq_self_sub_mul_bdiv _ _
    generalize (a * b).toInt = x at e rx ex
    generalize Int.bdiv (a.toInt * b.toInt) (2 ^ 64) = k at ex
    have ex' : x = a.toInt * b.toInt - 18446744073709551616 * k := ex
    by_cases sp : x = -9223372036854775808 ∧ b.toInt = -1
    · exfalso
      obtain ⟨s1, s2⟩ := sp
      have s3 : a.toInt * b.toInt = - a.toInt := by rw [s2]; omega
      have ha : a.toInt = -9223372036854775808 := by omega
      exact ns ⟨Int64.toInt_inj.mp (by rw [ha, m63]), Int64.toInt_inj.mp (by rw [s2, m1])⟩
    · have dm := Int.mul_tdiv_add_tmod x b.toInt
      have hq : -9223372036854775808 ≤ x.tdiv b.toInt ∧ x.tdiv b.toInt ≤ 9223372036854775807 := by
        have n1 : (x.tdiv b.toInt).natAbs = x.natAbs / b.toInt.natAbs := Int.natAbs_tdiv _ _
        have n2 : x.natAbs / b.toInt.natAbs ≤ x.natAbs := Nat.div_le_self _ _
        rcases Nat.lt_or_ge 1 b.toInt.natAbs with g | g
        · have n3 : x.natAbs / b.toInt.natAbs ≤ x.natAbs / 2 := Nat.div_le_div_left g (by omega)
          omega
        · rcases (by omega : b.toInt = 1 ∨ b.toInt = -1) with g1 | g1
          · rw [g1, Int.tdiv_one]
            omega
          · rw [g1] at n1 n2 ⊢
            have : x ≠ -9223372036854775808 := fun h => sp ⟨h, g1⟩
            omega
      rw [zbm hq.1 hq.2] at e
      rw [e] at dm
      have t1 : (x.tmod b.toInt).natAbs = x.natAbs % b.toInt.natAbs := Int.natAbs_tmod _ _
      have t2 : x.natAbs % b.toInt.natAbs < b.toInt.natAbs := Nat.mod_lt _ (by omega)
      have cm : b.toInt * a.toInt = a.toInt * b.toInt := Int.mul_comm _ _
      rw [cm] at dm
      generalize a.toInt * b.toInt = P at dm ex' ⊢
      generalize x.tmod b.toInt = r at dm t1
      have k0 : k = 0 := by omega
      omega
  · rintro ⟨h1, h2⟩
    have ex : (a * b).toInt = a.toInt * b.toInt := by
      rw [Int64.toInt_mul]
      exact zbm h1 h2
    refine ⟨Int64.toInt_inj.mp ?_, ?_⟩
    · rw [Int64.toInt_div, ex, Int.mul_tdiv_cancel _ hb0]
      exact zbm ra.1 ra.2
    · rintro ⟨rfl, rfl⟩
      rw [m63, m1] at h2
      omega
theorem letp_0 (a : Int64) : letp a 0 = true := by
  unfold letp
  rw [show (0 : Int64).toInt = 0 from rfl, Int.mul_zero]
  decide
theorem zLp7 (a b : Int64) : p_X3_isLetProduct a b = some (letp a b) := by
  unfold p_X3_isLetProduct
  by_cases hb : b = 0
  · rw [if_neg (fun h => h (lgc0.mpr hb)), hb, letp_0]
  · have q := zqo64 a b hb
    rw [if_pos (fun h => hb (lgc0.mp h)), zg_n hb]
    by_cases h1 : (a * b) / b = a
    · rw [if_neg (fun h => h (lgc0.mpr h1))]
      by_cases h2 : a = -9223372036854775808
      · rw [if_neg (fun h => h (lgc0.mpr h2))]
        by_cases h3 : b = -1
        · rw [if_pos (lgc0.mpr h3)]
          cases hl : letp a b with
          | false => rfl
          | true => exact absurd ⟨h2, h3⟩ (q.mpr hl).2
        · rw [if_neg (fun h => h3 (lgc0.mp h)), q.mp ⟨h1, fun h => h3 h.2⟩]
      · rw [if_pos (fun h => h2 (lgc0.mp h)), q.mp ⟨h1, fun h => h2 h.1⟩]
    · rw [if_pos (fun h => h1 (lgc0.mp h))]
      cases hl : letp a b with
      | false => rfl
      | true => exact absurd (q.mpr hl).1 h1
theorem zTi7 (c : Bool) (a b : Int64) : p_X3_times c a b = some (a * b, c || !letp a b) := by
  unfold p_X3_times
  rw [zLp7]
  show (if ¬ (z01 (letp a b)) = 0 then some (a * b, c) else some (a * b, true)) = _
  cases letp a b with
  | false => rw [if_neg (fun h => h rfl), Bool.not_false, Bool.or_true]
  | true => rw [if_pos (by decide), Bool.not_true, Bool.or_false]
theorem zTi9 (c : Bool) (a b : Int64) : p_X9_times c a b = some (a * b, c || !letp a b) := by
  have m63 : (-9223372036854775808 : Int64).toInt = -9223372036854775808 := by decide
  have m1 : (-1 : Int64).toInt = -1 := by decide
  unfold p_X9_times
  by_cases h1 : a = -1
  · rw [if_neg (fun h => h (lgc0.mpr h1))]
    have rb := zrl64 b
    have e : letp a b = decide (¬ b = -9223372036854775808) := by
      unfold letp
      rw [h1, m1]
      refine decide_eq_decide.mpr ⟨fun h e => ?_, fun h => ?_⟩
      · rw [e, m63] at h
        omega
      · have : b.toInt ≠ -9223372036854775808 := fun q => h (Int64.toInt_inj.mp (by rw [q, m63]))
        omega
    rw [e]
    by_cases h2 : b = -9223372036854775808
    · rw [if_neg (fun h => h (lgc0.mpr h2)), decide_eq_false (fun h => h h2), Bool.not_false, Bool.or_true]
    · rw [if_pos (fun h => h2 (lgc0.mp h)), decide_eq_true h2, Bool.not_true, Bool.or_false]
  · rw [if_pos (fun h => h1 (lgc0.mp h))]
    by_cases h2 : a = 0
    · rw [if_pos (lgc0.mpr h2), h2, letp_comm, letp_0, Bool.not_true, Bool.or_false]
    · rw [if_neg (fun h => h2 (lgc0.mp h)), zg_n h2]
      have q := zqo64 b a h2
      rw [Int64.mul_comm b a, letp_comm b a] at q
      by_cases h3 : (a * b) / a = b
      · rw [if_pos (lgc0.mpr h3), q.mp ⟨h3, fun h => h1 h.2⟩, Bool.not_true, Bool.or_false]
      · rw [if_neg (fun h => h3 (lgc0.mp h))]
        have : letp a b = false := by
          cases hl : letp a b with
          | false => rfl
          | true => exact absurd (q.mpr hl).1 h3
        rw [this, Bool.not_false, Bool.or_true]
/-- the value turned: 0 less it, or -1 by it -/
theorem zTurnV (f : Int64) : (0 : Int64) - f = -1 * f := by rw [Int64.zero_sub, Int64.neg_eq_neg_one_mul]
theorem zbeq {a b : Bool} (h : a = true ↔ b = false) : a = !b := by
  cases a <;> cases b <;> first | rfl | exact absurd (h.mp rfl) (by decide) | exact absurd (h.mpr rfl) (by decide)
theorem zTurnB (f : Int64) : ovM 0 f = !letp (-1) f := by
  have m1 : (-1 : Int64).toInt = -1 := by decide
  have rf := zrl64 f
  have e0 : (0 : Int64).toInt = 0 := rfl
  refine zbeq ?_
  unfold ovM letp
  rw [decide_eq_true_iff, decide_eq_false_iff_not, m1, e0, Int64.zero_sub, Int64.toInt_neg]
  by_cases h : f.toInt = -9223372036854775808
  · rw [h, show Int.bmod (- -9223372036854775808) (2 ^ 64) = -9223372036854775808 from by decide]
    omega
  · rw [zbm (by omega) (by omega)]
    omega
