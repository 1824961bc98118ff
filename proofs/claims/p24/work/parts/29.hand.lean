-- ==================== totality: the class's text of a long
theorem zdg {x : Int64} : (0 ≤ (zrl x (10 : Int64)).toInt32 → 0 ≤ ((zrl x (10 : Int64)).toInt32).toInt ∧ ((zrl x (10 : Int64)).toInt32).toInt ≤ 9) ∧ (¬ 0 ≤ (zrl x (10 : Int64)).toInt32 → 0 ≤ (-((zrl x (10 : Int64)).toInt32)).toInt ∧ (-((zrl x (10 : Int64)).toInt32)).toInt ≤ 9) := by
  have r0 := Int64.le_toInt x
  have r1 := Int64.toInt_lt x
  have o10 : (10 : Int64).toInt = 10 := by decide
  have e : (x / (10 : Int64)).toInt = x.toInt.tdiv 10 := by rw [Int64.toInt_div_of_ne_right _ _ (by decide), o10]
  have b : -9 ≤ x.toInt - x.toInt.tdiv 10 * 10 ∧ x.toInt - x.toInt.tdiv 10 * 10 ≤ 9 := by
    rcases Int.le_total 0 x.toInt with h | h
    · rw [Int.tdiv_eq_ediv_of_nonneg h]; omega
    · have t := Int.neg_tdiv (-x.toInt) 10
      rw [Int.neg_neg] at t
      rw [t, Int.tdiv_eq_ediv_of_nonneg (by omega)]
      omega
  have m : ((x / (10 : Int64)) * (10 : Int64)).toInt = x.toInt.tdiv 10 * 10 := by
    rw [Int64.toInt_mul, e, o10]
    rcases Int.le_total 0 x.toInt with h | h
    · rw [Int.tdiv_eq_ediv_of_nonneg h]; exact Int.bmod_eq_of_le (by omega) (by omega)
    · have t := Int.neg_tdiv (-x.toInt) 10
      rw [Int.neg_neg] at t
      rw [t, Int.tdiv_eq_ediv_of_nonneg (by omega)]
      exact Int.bmod_eq_of_le (by omega) (by omega)
  have s : ((zrl x (10 : Int64)).toInt32).toInt = x.toInt - x.toInt.tdiv 10 * 10 := by
    show ((x - x / (10 : Int64) * (10 : Int64)).toInt32).toInt = _
    have u : (x - x / (10 : Int64) * (10 : Int64)).toInt = x.toInt - x.toInt.tdiv 10 * 10 := by
      rw [Int64.toInt_sub, m]
      exact Int.bmod_eq_of_le (by omega) (by omega)
    rw [Int64.toInt_toInt32, u]
    exact Int.bmod_eq_of_le (by omega) (by omega)
  generalize (zrl x (10 : Int64)).toInt32 = d at s ⊢
  have o0 : (0 : Int32).toInt = 0 := by decide
  refine ⟨fun h => ?_, fun h => ?_⟩
  · rw [Int32.le_iff_toInt_le, o0] at h; omega
  · rw [Int32.le_iff_toInt_le, o0] at h; rw [zng (x := d) (by omega)]; omega
theorem zch {s : Int32} (h0 : 0 ≤ s.toInt) (h1 : s.toInt ≤ 9) : ((((48 : Int32) + s).toUInt32 % 65536).toInt32).toInt ≤ 255 := by
  have e : s = nI s.toInt.toNat := Int32.toInt_inj.mp (by rw [nI_toInt (by omega)]; omega)
  have hk : s.toInt.toNat ≤ 9 := by omega
  generalize s.toInt.toNat = k at e hk
  subst e
  match k, hk with
  | 0, _ => decide
  | 1, _ => decide
  | 2, _ => decide
  | 3, _ => decide
  | 4, _ => decide
  | 5, _ => decide
  | 6, _ => decide
  | 7, _ => decide
  | 8, _ => decide
  | 9, _ => decide
  | k + 10, h => omega
theorem zFin1 (F bc : Nat) (bf : Nat → Int32) (bn : Int32) (hF : 2000 ≤ F) (hy : zBy bf) (h2 : bc ≤ 130) (h3 : 0 ≤ bn.toInt) (h4 : bn.toInt ≤ bc) : ZE (fun (_ : Unit) => True) (zb1 (p_J4_reverse_43fcb F bc bf bn) (fun bf' => (zb2 (p_J7_copyOfRange_39247 bc bf' (0 : Int32) bn) (fun _ _ => (some ()))))) := by
  refine ZE_b1 (t_J4_reverse_43fcb F bc bf bn hF hy h2 h3 h4) (fun bf' y => ?_)
  exact ZE_b2 (t_J7_copyOfRange_39247 bc bf' 0 bn (by decide) y h3 h4 h2) (fun _ _ _ => ⟨_, rfl, trivial⟩)
theorem zFin (F : Nat) (p0 : Int64) (bc : Nat) (bf : Nat → Int32) (bn : Int32) (hF : 2000 ≤ F) (hy : zBy bf) (h1 : 16 ≤ bc) (h2 : bc ≤ 130) (h3 : 0 ≤ bn.toInt) (h4 : bn.toInt ≤ bc) (h5 : bn.toInt ≤ 63) : ZE (fun (_ : Unit) => True) (if 0 ≤ (lg_cmp p0 (0 : Int64)) then (zb1 (p_J4_reverse_43fcb F bc bf bn) (fun bf' => (zb2 (p_J7_copyOfRange_39247 bc bf' (0 : Int32) bn) (fun _ _ => (some ()))))) else (zb3 (p_J4_append_cf468 bc bf bn (45 : Int32)) (fun bc' bf' bn' => (zb1 (p_J4_reverse_43fcb F bc' bf' bn') (fun bf'' => (zb2 (p_J7_copyOfRange_39247 bc' bf'' (0 : Int32) bn') (fun _ _ => (some ())))))))) := by
  refine ZE_if (fun _ => zFin1 F bc bf bn hF hy h2 h3 h4) (fun _ => ?_)
  refine ZE_b3 (t_J4_append_cf468 bc bf bn (45 : Int32) hy h1 h2 h3 h4 h5 (by decide)) (fun bc' bf' bn' q => ?_)
  obtain ⟨q1, q2, q3, q4, q5, q6⟩ := q
  exact zFin1 F bc' bf' bn' hF q1 q3 q4 q5
theorem zLev {bc : Nat} {bf : Nat → Int32} {bn : Int32} (x : Int64) (m : Int) (hy : zBy bf) (h1 : 16 ≤ bc) (h2 : bc ≤ 130) (h3 : 0 ≤ bn.toInt) (h4 : bn.toInt ≤ bc) (h5 : bn.toInt ≤ m) (hm : m ≤ 62) (g : Nat → (Nat → Int32) → Int32 → Option Unit) (hg : ∀ (bc : Nat) (bf : Nat → Int32) (bn : Int32), zBy bf → 16 ≤ bc → bc ≤ 130 → 0 ≤ bn.toInt → bn.toInt ≤ bc → bn.toInt ≤ m + 1 → ZE (fun (_ : Unit) => True) (g bc bf bn)) : ZE (fun (_ : Unit) => True) (zlt (fun (s : Int32) => (zb3 (p_J4_append_cf468 bc bf bn ((((48 : Int32) + s).toUInt32 % 65536).toInt32)) g)) (fun jf => (if 0 ≤ ((zrl x (10 : Int64)).toInt32) then (jf ((zrl x (10 : Int64)).toInt32)) else (jf (-((zrl x (10 : Int64)).toInt32)))))) := by
  refine ZE_lt (fun s => 0 ≤ s.toInt ∧ s.toInt ≤ 9) (fun s hs => ?_) (fun jf hj => ?_)
  · refine ZE_b3 (t_J4_append_cf468 bc bf bn _ hy h1 h2 h3 h4 (by omega) (zch hs.1 hs.2)) (fun bc' bf' bn' q => ?_)
    obtain ⟨q1, q2, q3, q4, q5, q6⟩ := q
    have q6' : bn'.toInt = bn.toInt + 1 := q6
    exact hg bc' bf' bn' q1 q2 q3 q4 q5 (by omega)
  · exact ZE_if (fun c => hj _ (zdg.1 c)) (fun c => hj _ (zdg.2 c))

set_option maxHeartbeats 4000000 in
set_option maxRecDepth 100000 in
theorem t_X7_textOf (F : Nat) (p0 : Int64) (hF : 2000 ≤ F) : ZE (fun (r : Unit) => True) (p_X7_textOf F p0) := by
  unfold p_X7_textOf
  refine zLev _ 0 zBy0 (by omega) (by omega) (by decide) (by decide) (by decide) (by omega) _ (fun bc bf bn y a1 a2 a3 a4 a5 => ?_)
  refine ZE_if (fun _ => zFin F p0 bc bf bn hF y a1 a2 a3 a4 (by omega)) (fun _ => ?_)
  refine zLev _ 1 y a1 a2 a3 a4 a5 (by omega) _ (fun bc bf bn y a1 a2 a3 a4 a5 => ?_)
  refine ZE_if (fun _ => zFin F p0 bc bf bn hF y a1 a2 a3 a4 (by omega)) (fun _ => ?_)
  refine zLev _ 2 y a1 a2 a3 a4 a5 (by omega) _ (fun bc bf bn y a1 a2 a3 a4 a5 => ?_)
  refine ZE_if (fun _ => zFin F p0 bc bf bn hF y a1 a2 a3 a4 (by omega)) (fun _ => ?_)
  refine zLev _ 3 y a1 a2 a3 a4 a5 (by omega) _ (fun bc bf bn y a1 a2 a3 a4 a5 => ?_)
  refine ZE_if (fun _ => zFin F p0 bc bf bn hF y a1 a2 a3 a4 (by omega)) (fun _ => ?_)
  refine zLev _ 4 y a1 a2 a3 a4 a5 (by omega) _ (fun bc bf bn y a1 a2 a3 a4 a5 => ?_)
  refine ZE_if (fun _ => zFin F p0 bc bf bn hF y a1 a2 a3 a4 (by omega)) (fun _ => ?_)
  refine zLev _ 5 y a1 a2 a3 a4 a5 (by omega) _ (fun bc bf bn y a1 a2 a3 a4 a5 => ?_)
  refine ZE_if (fun _ => zFin F p0 bc bf bn hF y a1 a2 a3 a4 (by omega)) (fun _ => ?_)
  refine zLev _ 6 y a1 a2 a3 a4 a5 (by omega) _ (fun bc bf bn y a1 a2 a3 a4 a5 => ?_)
  refine ZE_if (fun _ => zFin F p0 bc bf bn hF y a1 a2 a3 a4 (by omega)) (fun _ => ?_)
  refine zLev _ 7 y a1 a2 a3 a4 a5 (by omega) _ (fun bc bf bn y a1 a2 a3 a4 a5 => ?_)
  refine ZE_if (fun _ => zFin F p0 bc bf bn hF y a1 a2 a3 a4 (by omega)) (fun _ => ?_)
  refine zLev _ 8 y a1 a2 a3 a4 a5 (by omega) _ (fun bc bf bn y a1 a2 a3 a4 a5 => ?_)
  refine ZE_if (fun _ => zFin F p0 bc bf bn hF y a1 a2 a3 a4 (by omega)) (fun _ => ?_)
  refine zLev _ 9 y a1 a2 a3 a4 a5 (by omega) _ (fun bc bf bn y a1 a2 a3 a4 a5 => ?_)
  refine ZE_if (fun _ => zFin F p0 bc bf bn hF y a1 a2 a3 a4 (by omega)) (fun _ => ?_)
  refine zLev _ 10 y a1 a2 a3 a4 a5 (by omega) _ (fun bc bf bn y a1 a2 a3 a4 a5 => ?_)
  refine ZE_if (fun _ => zFin F p0 bc bf bn hF y a1 a2 a3 a4 (by omega)) (fun _ => ?_)
  refine zLev _ 11 y a1 a2 a3 a4 a5 (by omega) _ (fun bc bf bn y a1 a2 a3 a4 a5 => ?_)
  refine ZE_if (fun _ => zFin F p0 bc bf bn hF y a1 a2 a3 a4 (by omega)) (fun _ => ?_)
  refine zLev _ 12 y a1 a2 a3 a4 a5 (by omega) _ (fun bc bf bn y a1 a2 a3 a4 a5 => ?_)
  refine ZE_if (fun _ => zFin F p0 bc bf bn hF y a1 a2 a3 a4 (by omega)) (fun _ => ?_)
  refine zLev _ 13 y a1 a2 a3 a4 a5 (by omega) _ (fun bc bf bn y a1 a2 a3 a4 a5 => ?_)
  refine ZE_if (fun _ => zFin F p0 bc bf bn hF y a1 a2 a3 a4 (by omega)) (fun _ => ?_)
  refine zLev _ 14 y a1 a2 a3 a4 a5 (by omega) _ (fun bc bf bn y a1 a2 a3 a4 a5 => ?_)
  refine ZE_if (fun _ => zFin F p0 bc bf bn hF y a1 a2 a3 a4 (by omega)) (fun _ => ?_)
  refine zLev _ 15 y a1 a2 a3 a4 a5 (by omega) _ (fun bc bf bn y a1 a2 a3 a4 a5 => ?_)
  refine ZE_if (fun _ => zFin F p0 bc bf bn hF y a1 a2 a3 a4 (by omega)) (fun _ => ?_)
  refine zLev _ 16 y a1 a2 a3 a4 a5 (by omega) _ (fun bc bf bn y a1 a2 a3 a4 a5 => ?_)
  refine ZE_if (fun _ => zFin F p0 bc bf bn hF y a1 a2 a3 a4 (by omega)) (fun _ => ?_)
  refine zLev _ 17 y a1 a2 a3 a4 a5 (by omega) _ (fun bc bf bn y a1 a2 a3 a4 a5 => ?_)
  refine ZE_if (fun _ => zFin F p0 bc bf bn hF y a1 a2 a3 a4 (by omega)) (fun _ => ?_)
  refine zLev _ 18 y a1 a2 a3 a4 a5 (by omega) _ (fun bc bf bn y a1 a2 a3 a4 a5 => ?_)
  exact zFin F p0 bc bf bn hF y a1 a2 a3 a4 (by omega)

-- ==================== totality: the reference's numbers
theorem t_X9_isOne (p0 : Int32) : ZE (fun (r : Bool) => (z01 r).toInt = 0 ∨ ((z01 r).toInt = 1 ∧ 0 ≤ p0.toInt ∧ p0.toInt ≤ 3)) (p_X9_isOne p0) := by
  unfold p_X9_isOne
  refine ZE_if (fun c => ⟨_, rfl, Or.inl z01f⟩) (fun c => ZE_if (fun d => ⟨_, rfl, Or.inl z01f⟩) (fun d => ⟨_, rfl, Or.inr ⟨z01t, ?_, ?_⟩⟩))
  · (first | omega | ((try simp only [Int32.lt_iff_toInt_lt, Int32.le_iff_toInt_le, ← Int32.toInt_inj, zcl, Int32.reduceToInt] at *) <;> omega))
  · (first | omega | ((try simp only [Int32.lt_iff_toInt_lt, Int32.le_iff_toInt_le, ← Int32.toInt_inj, zcl, Int32.reduceToInt] at *) <;> omega))
theorem t_X9_isIn (p0 p1 p2 : Int32) : ZE (fun (r : Bool) => (z01 r).toInt = 0 ∨ ((z01 r).toInt = 1 ∧ p1.toInt ≤ p0.toInt ∧ p0.toInt ≤ p2.toInt)) (p_X9_isIn p0 p1 p2) := by
  unfold p_X9_isIn
  refine ZE_if (fun c => ⟨_, rfl, Or.inl z01f⟩) (fun c => ZE_if (fun d => ⟨_, rfl, Or.inl z01f⟩) (fun d => ⟨_, rfl, Or.inr ⟨z01t, ?_, ?_⟩⟩))
  · (first | omega | ((try simp only [Int32.lt_iff_toInt_lt, Int32.le_iff_toInt_le, ← Int32.toInt_inj, zcl, Int32.reduceToInt] at *) <;> omega))
  · (first | omega | ((try simp only [Int32.lt_iff_toInt_lt, Int32.le_iff_toInt_le, ← Int32.toInt_inj, zcl, Int32.reduceToInt] at *) <;> omega))
theorem t_X9_isThrown (p0 p1 : Bool) : ZE (fun (r : Bool × Int32) => (z01 r.1).toInt = 1 ∨ ((z01 r.1).toInt = 0 ∧ (z01 p0).toInt = 1 ∧ (z01 p1).toInt = 1)) (p_X9_isThrown p0 p1) := by
  cases p0 <;> cases p1
  · exact ⟨_, rfl, Or.inl z01t⟩
  · exact ⟨_, rfl, Or.inl z01t⟩
  · exact ⟨_, rfl, Or.inl z01t⟩
  · exact ⟨_, rfl, Or.inr ⟨z01f, z01t, z01t⟩⟩
theorem t_X9_isNo (p0 : Bool) : ZE (fun (r : Bool × Int32) => (z01 r.1).toInt + (z01 p0).toInt = 1) (p_X9_isNo p0) := by
  cases p0
  · exact ⟨_, rfl, by decide⟩
  · exact ⟨_, rfl, by decide⟩
theorem zatg {x y : Int32} (h0 : 0 ≤ x.toInt) (h1 : x.toInt ≤ 3) (h2 : 0 ≤ y.toInt) (h3 : y.toInt ≤ 120) : ¬ ((((121 : Int32) * x) + y) < 0 ∨ 484 ≤ (((121 : Int32) * x) + y).toNatClampNeg) := by
  have o : (121 : Int32).toInt = 121 := by decide
  have e : ((121 : Int32) * x).toInt = 121 * x.toInt := by
    rw [Int32.toInt_mul, o]
    exact Int.bmod_eq_of_le (by omega) (by omega)
  have e2 : (((121 : Int32) * x) + y).toInt = 121 * x.toInt + y.toInt := by rw [zad (x := ((121 : Int32) * x)) (c := y) (by omega) (by omega), e]
  exact zgi (by omega) (by omega)
theorem zdvv {x y : Int32} (hx : 0 ≤ x.toInt) (hy : 1 ≤ y.toInt) : (x / y).toInt = x.toInt / y.toInt := by
  rw [Int32.toInt_div_of_ne_right _ _ (fun e => by rw [e] at hy; exact absurd hy (by decide)), Int.tdiv_eq_ediv_of_nonneg hx]
theorem zrv {x y : Int32} (hx : 0 ≤ x.toInt) (hy : 1 ≤ y.toInt) : (zr x y).toInt = x.toInt % y.toInt := by
  have rx := zrg x
  have q0 : 0 ≤ x.toInt / y.toInt := Int.ediv_nonneg hx (by omega)
  have q1 : x.toInt / y.toInt * y.toInt ≤ x.toInt := Int.ediv_mul_le _ (by omega)
  have q2 : 0 ≤ x.toInt / y.toInt * y.toInt := Int.mul_nonneg q0 (by omega)
  have m : (x / y * y).toInt = x.toInt / y.toInt * y.toInt := by
    rw [Int32.toInt_mul, zdvv hx hy]
    exact Int.bmod_eq_of_le (by omega) (by omega)
  show (x - x / y * y).toInt = _
  rw [zsb (x := x) (y := x / y * y) (by omega) (by omega), m, Int.emod_def, Int.mul_comm]
theorem zr0 {x y : Int32} (hx : 0 ≤ x.toInt) (hy : 1 ≤ y.toInt) : zr x y = 0 ↔ y.toInt ∣ x.toInt := by
  have e := zrv hx hy
  constructor
  · intro h
    rw [h, show (0 : Int32).toInt = 0 from by decide] at e
    exact Int.dvd_of_emod_eq_zero e.symm
  · intro h
    refine Int32.toInt_inj.mp ?_
    rw [e, show (0 : Int32).toInt = 0 from by decide]
    exact Int.emod_eq_zero_of_dvd h
theorem zne0 {x : Int32} (h : 1 ≤ x.toInt) : ¬ x = 0 := fun e => by rw [e] at h; exact absurd h (by decide)
theorem zdvk2 {x y : Int32} {G : Prop} (hy : 1 ≤ y.toInt) (hxy : y.toInt ≤ x.toInt) (k : 1 ≤ (x / y).toInt ∧ (x / y).toInt ≤ x.toInt → G) : G := by
  refine k ⟨?_, (zdv (by omega) hy).2⟩
  rw [zdvv (by omega) hy]
  exact Int.le_ediv_of_mul_le (by omega) (by omega)
/-- the least divisor from 2 on; a number without a prime -/
def zLe (n d : Int) : Prop := d ∣ n ∧ ∀ e : Int, 2 ≤ e → e < d → ¬ e ∣ n
def zWi (n p r : Int) : Prop := r ∣ n ∧ ¬ p ∣ r ∧ (p ∣ n → p * r ≤ n)
theorem zincp {n p m q : Int} (l : zLe n p) (w : zWi n p m) (hq : 2 ≤ q) (hd : q ∣ m) : p < q := by
  rcases Int.lt_trichotomy p q with h | h | h
  · exact h
  · rw [← h] at hd; exact absurd hd w.2.1
  · exact absurd (Int.dvd_trans hd w.1) (l.2 q hq h)
theorem zfive {n0 p1 n1 p2 n2 p3 n3 p4 n4 : Int} (h0 : n0 ≤ 999) (a1 : 2 ≤ p1) (l1 : zLe n0 p1) (w1 : zWi n0 p1 n1) (a2 : 2 ≤ p2) (l2 : zLe n1 p2) (w2 : zWi n1 p2 n2) (a3 : 2 ≤ p3) (l3 : zLe n2 p3) (w3 : zWi n2 p3 n3) (a4 : 2 ≤ p4) (l4 : zLe n3 p4) (w4 : zWi n3 p4 n4) : n4 ≤ 1 := by
  rcases Int.lt_or_le n4 2 with h | h
  · omega
  · have b1 := zincp l1 w1 a2 l2.1
    have b2 := zincp l2 w2 a3 l3.1
    have b3 := zincp l3 w3 a4 l4.1
    have b4 := zincp l4 w4 h (Int.dvd_refl n4)
    have b5 : p3 ≠ 4 := by
      intro e
      have d : (2 : Int) ∣ n2 := Int.dvd_trans (by rw [e]; exact ⟨2, rfl⟩) l3.1
      exact l3.2 2 (by omega) (by omega) d
    have m4 := w4.2.2 l4.1
    have m3 := w3.2.2 l3.1
    have m2 := w2.2.2 l2.1
    have m1 := w1.2.2 l1.1
    have c4 : 6 * 7 ≤ p4 * n4 := Int.mul_le_mul (by omega) (by omega) (by omega) (by omega)
    have c3 : 5 * 42 ≤ p3 * n3 := Int.mul_le_mul (by omega) (by omega) (by omega) (by omega)
    have c2 : 3 * 210 ≤ p2 * n2 := Int.mul_le_mul (by omega) (by omega) (by omega) (by omega)
    have c1 : 2 * 630 ≤ p1 * n1 := Int.mul_le_mul (by omega) (by omega) (by omega) (by omega)
    omega
theorem zwk {n d r : Int} {G : Prop} (h : 2 ≤ d) (l : zLe n d) (w : zWi n d r) (hr : 1 ≤ r) (k : 2 * r ≤ n → G) : G := by
  refine k ?_
  have m := w.2.2 l.1
  have : 2 * r ≤ d * r := Int.mul_le_mul_of_nonneg_right h (by omega)
  omega

theorem t_X9_least_L0 {P : Int32 → Prop} (F : Nat) (p0 : Int32) (hp1 : 2 ≤ p0.toInt) (hp2 : p0.toInt ≤ 1000) (k : Int32 → Option Int32) (hk : ∀ v : Int32, 2 ≤ v.toInt → v.toInt ≤ p0.toInt → zLe p0.toInt v.toInt → ZE P (k v)) : ∀ (n : Nat) (v1_0 : Int32), (2 ≤ v1_0.toInt ∧ v1_0.toInt ≤ p0.toInt ∧ ∀ e : Int, 2 ≤ e → e < v1_0.toInt → ¬ e ∣ p0.toInt) → (1001 - v1_0.toInt).toNat < n → ZE P (p_X9_least_L0 F p0 k n v1_0) := by
  intro n
  induction n with
  | zero => intro v1_0 _ hm; exact absurd hm (Nat.not_lt_zero _)
  | succ n ih =>
    intro v1_0 hI hm
    show ZE P (zg (v1_0 = 0) (if (zr p0 v1_0) = 0 then (k v1_0) else (p_X9_least_L0 F p0 k n (v1_0 + (1 : Int32)))))
    obtain ⟨i1, i2, i3⟩ := hI
    have o1 : (1 : Int32).toInt = 1 := by decide
    refine ZE_zg (zne0 (by omega)) (ZE_if (fun c => ?_) (fun c => ?_))
    · exact hk _ i1 i2 ⟨(zr0 (by omega) (by omega)).mp c, i3⟩
    · have nd := mt (zr0 (x := p0) (y := v1_0) (by omega) (by omega)).mpr c
      have ne : v1_0.toInt ≠ p0.toInt := fun e => nd (by rw [e]; exact Int.dvd_refl _)
      have e1 : (v1_0 + (1 : Int32)).toInt = v1_0.toInt + 1 := by rw [zad (x := v1_0) (c := (1 : Int32)) (by omega) (by omega), o1]
      refine ih _ ⟨by omega, by omega, fun e he1 he2 => ?_⟩ (by omega)
      rcases Int.lt_or_le e v1_0.toInt with h | h
      · exact i3 e he1 h
      · rw [show e = v1_0.toInt by omega]; exact nd
theorem t_X9_least (F : Nat) (p0 : Int32) (hF : 2000 ≤ F) (hp1 : 2 ≤ p0.toInt) (hp2 : p0.toInt ≤ 1000) : ZE (fun (r : Int32) => 2 ≤ r.toInt ∧ r.toInt ≤ p0.toInt ∧ zLe p0.toInt r.toInt) (p_X9_least F p0) := by
  unfold p_X9_least
  have o : (2 : Int32).toInt = 2 := by decide
  exact t_X9_least_L0 F p0 hp1 hp2 _ (fun v a b c => ⟨_, rfl, a, b, c⟩) F 2 ⟨by omega, by omega, fun e h1 h2 => by omega⟩ (by omega)

theorem t_X9_without_L0 {P : Int32 → Prop} (F : Nat) (p1 : Int32) (m : Int) (hm1 : 1 ≤ m) (hp : 2 ≤ p1.toInt) (k : Int32 → Option Int32) (hk : ∀ v : Int32, 1 ≤ v.toInt → v.toInt ≤ m → zWi m p1.toInt v.toInt → ZE P (k v)) : ∀ (n : Nat) (v2_0 : Int32), (1 ≤ v2_0.toInt ∧ v2_0.toInt ∣ m ∧ (v2_0.toInt = m ∨ p1.toInt * v2_0.toInt ≤ m)) → v2_0.toInt.toNat < n → ZE P (p_X9_without_L0 F p1 k n v2_0) := by
  intro n
  induction n with
  | zero => intro v2_0 _ hm; exact absurd hm (Nat.not_lt_zero _)
  | succ n ih =>
    intro v2_0 hI hm
    show ZE P (zg (p1 = 0) (if ¬ (zr v2_0 p1) = 0 then (k v2_0) else (zg (p1 = 0) (p_X9_without_L0 F p1 k n (v2_0 / p1)))))
    obtain ⟨i1, i2, i3⟩ := hI
    have hle := Int.le_of_dvd (by omega) i2
    refine ZE_zg (zne0 (by omega)) (ZE_if (fun c => ?_) (fun c => ZE_zg (zne0 (by omega)) ?_))
    · have nd := mt (zr0 (x := v2_0) (y := p1) (by omega) (by omega)).mpr c
      refine hk _ i1 hle ⟨i2, nd, fun h => ?_⟩
      rcases i3 with e | e
      · rw [e] at nd; exact absurd h nd
      · exact e
    · have d := (zr0 (x := v2_0) (y := p1) (by omega) (by omega)).mp (Decidable.not_not.mp c)
      have e := zdvv (x := v2_0) (y := p1) (by omega) (by omega)
      obtain ⟨q, hq⟩ := d
      have eq : v2_0.toInt / p1.toInt = q := by rw [hq]; exact Int.mul_ediv_cancel_left _ (by omega)
      have q0 : 1 ≤ q := by
        rcases Int.lt_or_le q 1 with h | h
        · have := Int.mul_nonpos_of_nonneg_of_nonpos (a := p1.toInt) (b := q) (by omega) (by omega); omega
        · exact h
      have q1 : 2 * q ≤ p1.toInt * q := Int.mul_le_mul_of_nonneg_right hp (by omega)
      rw [eq] at e
      refine ih _ ⟨by omega, ?_, Or.inr ?_⟩ (by omega)
      · rw [e]; exact Int.dvd_trans ⟨p1.toInt, by rw [hq, Int.mul_comm]⟩ i2
      · rw [e, ← hq]; exact hle
theorem t_X9_without (F : Nat) (p0 p1 : Int32) (hF : 2000 ≤ F) (hp1 : 1 ≤ p0.toInt) (hp2 : p0.toInt ≤ 1000) (hp3 : 2 ≤ p1.toInt) : ZE (fun (r : Int32) => 1 ≤ r.toInt ∧ r.toInt ≤ p0.toInt ∧ zWi p0.toInt p1.toInt r.toInt) (p_X9_without F p0 p1) := by
  unfold p_X9_without
  exact t_X9_without_L0 F p1 p0.toInt hp1 hp3 _ (fun v a b c => ⟨_, rfl, a, b, c⟩) F p0 ⟨hp1, Int.dvd_refl _, Or.inl rfl⟩ (by omega)

theorem t_X9_common_L0 {P : Int32 → Prop} (F : Nat) (p0 p1 : Int32) (h0 : 1 ≤ p0.toInt) (h1 : 1 ≤ p1.toInt) (k : Int32 → Option Int32) (hk : ∀ v : Int32, 1 ≤ v.toInt → v.toInt ≤ p0.toInt → ZE P (k v)) : ∀ (n : Nat) (v2_0 : Int32), (1 ≤ v2_0.toInt ∧ v2_0.toInt ≤ p0.toInt) → v2_0.toInt.toNat < n → ZE P (p_X9_common_L0 F p0 p1 k n v2_0) := by
  intro n
  induction n with
  | zero => intro v2_0 _ hm; exact absurd hm (Nat.not_lt_zero _)
  | succ n ih =>
    intro v2_0 hI hm
    show ZE P (zg (v2_0 = 0) (if ¬ (zr p0 v2_0) = 0 then (p_X9_common_L0 F p0 p1 k n (v2_0 + (-1 : Int32))) else (zg (v2_0 = 0) (if (zr p1 v2_0) = 0 then (k v2_0) else (p_X9_common_L0 F p0 p1 k n (v2_0 + (-1 : Int32)))))))
    obtain ⟨i1, i2⟩ := hI
    have nx : ∀ x : Int32, 1 ≤ x.toInt → ¬ zr x v2_0 = 0 → 2 ≤ v2_0.toInt := by
      intro x hx c
      rcases Int.lt_or_le v2_0.toInt 2 with h | h
      · exact absurd ((zr0 (x := x) (y := v2_0) (by omega) (by omega)).mpr (by rw [show v2_0.toInt = 1 by omega]; exact Int.one_dvd _)) c
      · exact h
    have rcl : 2 ≤ v2_0.toInt → ZE P (p_X9_common_L0 F p0 p1 k n (v2_0 + (-1 : Int32))) := by
      intro h
      have M0 : 1 ≤ v2_0.toInt - 1 := by omega
      have M1 : v2_0.toInt - 1 ≤ p0.toInt := by omega
      have M2 : (v2_0.toInt - 1).toNat < n := by omega
      have M3 : -2147483647 ≤ v2_0.toInt := by omega
      have e1 := zam (x := v2_0) M3
      exact ih _ ⟨by rw [e1]; exact M0, by rw [e1]; exact M1⟩ (by rw [e1]; exact M2)
    refine ZE_zg (zne0 (by omega)) (ZE_if (fun c => ?_) (fun c => ZE_zg (zne0 (by omega)) (ZE_if (fun d => ?_) (fun d => ?_))))
    · exact rcl (nx p0 h0 c)
    · exact hk _ i1 i2
    · exact rcl (nx p1 h1 d)
theorem t_X9_common (F : Nat) (p0 p1 : Int32) (hF : 2000 ≤ F) (h0 : 1 ≤ p0.toInt) (h2 : p0.toInt ≤ 1000) (h1 : 1 ≤ p1.toInt) : ZE (fun (r : Int32) => 1 ≤ r.toInt ∧ r.toInt ≤ p0.toInt) (p_X9_common F p0 p1) := by
  unfold p_X9_common
  refine t_X9_common_L0 F p0 p1 h0 h1 _ (fun v a b => ⟨_, rfl, a, b⟩) F _ ?_ ?_
  · split
    · rename_i c; rw [Int32.lt_iff_toInt_lt] at c; exact ⟨by omega, by omega⟩
    · exact ⟨by omega, by omega⟩
  · split
    · rename_i c; rw [Int32.lt_iff_toInt_lt] at c; omega
    · omega

theorem t_X9_all_L0 {P : Int32 → Prop} (F : Nat) (hF : 2000 ≤ F) (k : Int32 → Int32 → Option Int32) (hk : ∀ v w : Int32, 0 ≤ v.toInt → v.toInt ≤ 999 → ZE P (k v w)) : ∀ (n : Nat) (v1_0 v2_0 : Int32), (0 ≤ v1_0.toInt ∧ 1 ≤ v2_0.toInt ∧ v1_0.toInt + v2_0.toInt ≤ 1000) → v2_0.toInt.toNat < n → ZE P (p_X9_all_L0 F k n v1_0 v2_0) := by
  intro n
  induction n with
  | zero => intro v1_0 v2_0 _ hm; exact absurd hm (Nat.not_lt_zero _)
  | succ n ih =>
    intro v1_0 v2_0 hI hm
    show ZE P (if v2_0 ≤ (1 : Int32) then (k v1_0 v2_0) else (zb1 (p_X9_least F v2_0) (fun r1 => (zg (r1 = 0) (p_X9_all_L0 F k n (v1_0 + (1 : Int32)) (v2_0 / r1))))))
    obtain ⟨i1, i2, i3⟩ := hI
    have o1 : (1 : Int32).toInt = 1 := by decide
    refine ZE_if (fun c => hk _ _ i1 (by omega)) (fun c => ?_)
    rw [Int32.le_iff_toInt_le, o1] at c
    refine ZE_b1 (t_X9_least F v2_0 hF (by omega) (by omega)) (fun r1 q => ?_)
    obtain ⟨q1, q2, q3⟩ := q
    have e1 : (v1_0 + (1 : Int32)).toInt = v1_0.toInt + 1 := by rw [zad (x := v1_0) (c := (1 : Int32)) (by omega) (by omega), o1]
    have e2 := zdvv (x := v2_0) (y := r1) (by omega) (by omega)
    have g0 : 1 ≤ v2_0.toInt / r1.toInt := Int.le_ediv_of_mul_le (by omega) (by omega)
    have g1 : v2_0.toInt / r1.toInt * r1.toInt ≤ v2_0.toInt := Int.ediv_mul_le _ (by omega)
    have g2 : v2_0.toInt / r1.toInt * 2 ≤ v2_0.toInt / r1.toInt * r1.toInt := Int.mul_le_mul_of_nonneg_left q1 (by omega)
    exact ZE_zg (zne0 (by omega)) (ih _ _ ⟨by omega, by omega, by omega⟩ (by omega))
theorem t_X9_all (F : Nat) (p0 : Int32) (hF : 2000 ≤ F) (h0 : 1 ≤ p0.toInt) (h1 : p0.toInt ≤ 1000) : ZE (fun (r : Int32) => 0 ≤ r.toInt ∧ r.toInt ≤ 999) (p_X9_all F p0) := by
  unfold p_X9_all
  have o0 : (0 : Int32).toInt = 0 := by decide
  exact t_X9_all_L0 F hF _ (fun v w a b => ⟨_, rfl, a, b⟩) F 0 p0 ⟨by omega, h0, by omega⟩ (by omega)

-- ==================== totality: the two that call themselves
set_option maxHeartbeats 2000000 in
theorem t_X9_determinantOf_L0 {P : Int64 → Prop} (F : Nat) (rc : (Nat → Int64) → Int32 → Int32 → Int32 → Option Int64) (p0 : Nat → Int64) (p1 p2 p3 : Int32) (hF : 2000 ≤ F) (h1 : p1.toInt ≤ 6) (h2 : 1 ≤ p2.toInt) (h3 : p2.toInt ≤ 6) (hrc : ∀ x : Int32, ZE (fun _ => True) (rc p0 p1 (p2 + (1 : Int32)) x)) (k : Int64 → Int32 → Int32 → Option Int64) (hk : ∀ (a : Int64) (b c : Int32), ZE P (k a b c)) : ∀ (n : Nat) (v4_0 : Int64) (v6_0 v7_0 : Int32), (1 ≤ v7_0.toInt ∧ v7_0.toInt ≤ 7) → (20 - v7_0.toInt).toNat < n → ZE P (p_X9_determinantOf_L0 F rc p0 p1 p2 p3 k n v4_0 v6_0 v7_0) := by
  intro n
  induction n with
  | zero => intro v4_0 v6_0 v7_0 _ hm; exact absurd hm (Nat.not_lt_zero _)
  | succ n ih =>
    intro v4_0 v6_0 v7_0 hI hm
    show ZE P (if p1 < v7_0 then (k v4_0 v6_0 v7_0) else (if ¬ ((p3 >>> (v7_0 &&& 31)) &&& (1 : Int32)) = (1 : Int32) then (p_X9_determinantOf_L0 F rc p0 p1 p2 p3 k n v4_0 v6_0 (v7_0 + (1 : Int32))) else (zb1 (p_X9_common F p2 v7_0) (fun r1 => (zg (r1 < 0 ∨ 121 ≤ r1.toNatClampNeg) (zb1 (rc p0 p1 (p2 + (1 : Int32)) (p3 &&& (((1 : Int32) <<< (v7_0 &&& 31)) ^^^ (-1 : Int32)))) (fun r3 => (p_X9_determinantOf_L0 F rc p0 p1 p2 p3 k n (v4_0 + (((v6_0.toInt64) * (p0 r1.toNatClampNeg)) * r3)) (-v6_0) (v7_0 + (1 : Int32))))))))))
    obtain ⟨i1, i2⟩ := hI
    have o1 : (1 : Int32).toInt = 1 := by decide
    have e1 : (v7_0 + (1 : Int32)).toInt = v7_0.toInt + 1 := by rw [zad (x := v7_0) (c := (1 : Int32)) (by omega) (by omega), o1]
    refine ZE_if (fun c => hk _ _ _) (fun c => ?_)
    rw [Int32.lt_iff_toInt_lt] at c
    refine ZE_if (fun _ => ih _ _ _ ⟨by omega, by omega⟩ (by omega)) (fun _ => ?_)
    refine ZE_b1 (t_X9_common F p2 v7_0 hF h2 (by omega) i1) (fun r1 q => ?_)
    refine ZE_zg (zgi (by omega) (by omega)) ?_
    exact ZE_b1 (hrc _) (fun r3 _ => ih _ _ _ ⟨by omega, by omega⟩ (by omega))
theorem zDet (F : Nat) (p0 : Nat → Int64) (p1 : Int32) (hF : 2000 ≤ F) (h1 : p1.toInt ≤ 6) : ∀ (dp : Nat) (p2 p3 : Int32), 1 ≤ p2.toInt → p2.toInt ≤ 7 → 8 - p2.toInt ≤ dp → ZE (fun _ => True) (p_X9_determinantOf dp F p0 p1 p2 p3) := by
  intro dp
  induction dp with
  | zero => intro p2 p3 a b c; omega
  | succ dp ih =>
    intro p2 p3 a b c
    show ZE _ (if p2 ≤ p1 then (p_X9_determinantOf_L0 F (p_X9_determinantOf dp F) p0 p1 p2 p3 (fun v4_0 v6_0 v7_0 => (some v4_0)) F (0 : Int64) (1 : Int32) (1 : Int32)) else (some (1 : Int64)))
    have o1 : (1 : Int32).toInt = 1 := by decide
    refine ZE_if (fun d => ?_) (fun _ => ⟨_, rfl, trivial⟩)
    rw [Int32.le_iff_toInt_le] at d
    have e1 : (p2 + (1 : Int32)).toInt = p2.toInt + 1 := by rw [zad (x := p2) (c := (1 : Int32)) (by omega) (by omega), o1]
    exact t_X9_determinantOf_L0 F _ p0 p1 p2 p3 hF h1 a (by omega) (fun x => ih _ _ (by omega) (by omega) (by omega)) _ (fun _ _ _ => ⟨_, rfl, trivial⟩) F 0 1 1 ⟨by omega, by omega⟩ (by omega)
theorem t_X9_determinantOf (dp F : Nat) (p0 : Nat → Int64) (p1 p2 p3 : Int32) (hF : 2000 ≤ F) (h1 : p1.toInt ≤ 6) (a : 1 ≤ p2.toInt) (b : p2.toInt ≤ 7) (c : 8 - p2.toInt ≤ dp) : ZE (fun (r : Int64) => True) (p_X9_determinantOf dp F p0 p1 p2 p3) := zDet F p0 p1 hF h1 dp p2 p3 a b c

set_option maxHeartbeats 2000000 in
theorem t_X5_sumOfSequences_L0 {P : Int64 → Prop} (F : Nat) (rc : (Nat → Nat → Int64) → Nat → Int32 → Int32 → Int32 → Option Int64) (R : Nat → Nat → Int64) (p0 : Nat) (p1 p2 p3 : Int32) (hF : 2000 ≤ F) (h1 : p1.toInt ≤ 6) (h2 : 1 ≤ p2.toInt) (h3 : p2.toInt ≤ 6) (hrc : ∀ x : Int32, ZE (fun _ => True) (rc R p0 p1 (p2 + (1 : Int32)) x)) (k : Int64 → Int32 → Option Int64) (hk : ∀ (a : Int64) (b : Int32), ZE P (k a b)) : ∀ (n : Nat) (v4_0 : Int64) (v6_0 : Int32), (1 ≤ v6_0.toInt ∧ v6_0.toInt ≤ 7) → (20 - v6_0.toInt).toNat < n → ZE P (p_X5_sumOfSequences_L0 F rc R p0 p1 p2 p3 k n v4_0 v6_0) := by
  intro n
  induction n with
  | zero => intro v4_0 v6_0 _ hm; exact absurd hm (Nat.not_lt_zero _)
  | succ n ih =>
    intro v4_0 v6_0 hI hm
    show ZE P (if p1 < v6_0 then (k v4_0 v6_0) else (if ¬ ((p3 >>> (v6_0 &&& 31)) &&& (1 : Int32)) = 0 then (p_X5_sumOfSequences_L0 F rc R p0 p1 p2 p3 k n v4_0 (v6_0 + (1 : Int32))) else (zb1 (p_X1_commonOf F p2 v6_0) (fun r1 => (zb1 (p_X4_at R p0 r1) (fun r3 => (zb1 (rc R p0 p1 (p2 + (1 : Int32)) (p3 ||| ((1 : Int32) <<< (v6_0 &&& 31)))) (fun r5 => (zb1 (p_J6_bitCount_0f7a4 (p3 >>> (v6_0 &&& 31))) (fun r7 => (if ¬ (r7 &&& (1 : Int32)) = (1 : Int32) then (p_X5_sumOfSequences_L0 F rc R p0 p1 p2 p3 k n (v4_0 + (r3 * r5)) (v6_0 + (1 : Int32))) else (p_X5_sumOfSequences_L0 F rc R p0 p1 p2 p3 k n (v4_0 + (-(r3 * r5))) (v6_0 + (1 : Int32))))))))))))))
    obtain ⟨i1, i2⟩ := hI
    have o1 : (1 : Int32).toInt = 1 := by decide
    have e1 : (v6_0 + (1 : Int32)).toInt = v6_0.toInt + 1 := by rw [zad (x := v6_0) (c := (1 : Int32)) (by omega) (by omega), o1]
    refine ZE_if (fun c => hk _ _) (fun c => ?_)
    rw [Int32.lt_iff_toInt_lt] at c
    refine ZE_if (fun _ => ih _ _ ⟨by omega, by omega⟩ (by omega)) (fun _ => ?_)
    refine ZE_b1 (t_X1_commonOf F p2 v6_0 hF (by omega) (by omega) (by omega) (by omega)) (fun r1 q => ?_)
    refine ZE_b1 (t_X4_at R p0 r1) (fun r3 _ => ?_)
    refine ZE_b1 (hrc _) (fun r5 _ => ?_)
    refine ZE_b1 (t_J6_bitCount_0f7a4 _) (fun r7 _ => ?_)
    exact ZE_if (fun _ => ih _ _ ⟨by omega, by omega⟩ (by omega)) (fun _ => ih _ _ ⟨by omega, by omega⟩ (by omega))
theorem zSum (F : Nat) (R : Nat → Nat → Int64) (p0 : Nat) (p1 : Int32) (hF : 2000 ≤ F) (h1 : p1.toInt ≤ 6) : ∀ (dp : Nat) (p2 p3 : Int32), 1 ≤ p2.toInt → p2.toInt ≤ 7 → 8 - p2.toInt ≤ dp → ZE (fun _ => True) (p_X5_sumOfSequences dp F R p0 p1 p2 p3) := by
  intro dp
  induction dp with
  | zero => intro p2 p3 a b c; omega
  | succ dp ih =>
    intro p2 p3 a b c
    show ZE _ (if p1 < p2 then (some (1 : Int64)) else (if p2 ≤ (6 : Int32) then (p_X5_sumOfSequences_L0 F (p_X5_sumOfSequences dp F) R p0 p1 p2 p3 (fun v4_0 v6_0 => (some v4_0)) F (0 : Int64) (1 : Int32)) else (some (1 : Int64))))
    have o1 : (1 : Int32).toInt = 1 := by decide
    refine ZE_if (fun _ => ⟨_, rfl, trivial⟩) (fun d => ?_)
    refine ZE_if (fun _ => ?_) (fun _ => ⟨_, rfl, trivial⟩)
    rw [Int32.lt_iff_toInt_lt] at d
    have e1 : (p2 + (1 : Int32)).toInt = p2.toInt + 1 := by rw [zad (x := p2) (c := (1 : Int32)) (by omega) (by omega), o1]
    exact t_X5_sumOfSequences_L0 F _ R p0 p1 p2 p3 hF h1 a (by omega) (fun x => ih _ _ (by omega) (by omega) (by omega)) _ (fun _ _ => ⟨_, rfl, trivial⟩) F 0 1 ⟨by omega, by omega⟩ (by omega)
theorem t_X5_sumOfSequences (dp F : Nat) (R : Nat → Nat → Int64) (p0 : Nat) (p1 p2 p3 : Int32) (hF : 2000 ≤ F) (h1 : p1.toInt ≤ 6) (a : 1 ≤ p2.toInt) (b : p2.toInt ≤ 7) (c : 8 - p2.toInt ≤ dp) : ZE (fun (r : Int64) => True) (p_X5_sumOfSequences dp F R p0 p1 p2 p3) := zSum F R p0 p1 hF h1 dp p2 p3 a b c
