-- ==================== the least common multiple, both ways
theorem zLcm (a b : Nat) (ha : 1 ≤ a) (hb : 1 ≤ b) : 1 ≤ b / Nat.gcd a b ∧ b / Nat.gcd a b ≤ b ∧ b ∣ a * (b / Nat.gcd a b) ∧ a / Nat.gcd a b * b = a * (b / Nat.gcd a b) ∧ ∀ m, 1 ≤ m → b ∣ a * m → b / Nat.gcd a b ≤ m := by
  have g0 : 1 ≤ Nat.gcd a b := Nat.gcd_pos_of_pos_left _ ha
  have l : Nat.lcm a b = a * (b / Nat.gcd a b) := by
    unfold Nat.lcm
    exact Nat.mul_div_assoc a (Nat.gcd_dvd_right a b)
  have l2 : a / Nat.gcd a b * b = a * (b / Nat.gcd a b) := by
    rw [← l]
    unfold Nat.lcm
    rw [Nat.mul_comm, Nat.mul_comm a b]
    exact (Nat.mul_div_assoc b (Nat.gcd_dvd_left a b)).symm
  refine ⟨Nat.div_pos (Nat.le_of_dvd hb (Nat.gcd_dvd_right a b)) g0, Nat.div_le_self _ _, ?_, l2, fun m hm h => ?_⟩
  · rw [← l]; exact Nat.dvd_lcm_right a b
  · have d : Nat.lcm a b ∣ a * m := Nat.lcm_dvd ⟨m, rfl⟩ h
    rw [l] at d
    have := Nat.le_of_dvd (Nat.mul_pos ha hm) d
    exact Nat.le_of_mul_le_mul_left this ha
set_option maxHeartbeats 2000000 in
theorem zLstL {P : Int32 → Prop} (F : Nat) (p0 p1 : Int32) (a b : Nat) (ha : p0.toInt = a) (hb : p1.toInt = b) (ha1 : 1 ≤ a) (hb1 : 1 ≤ b) (ha2 : a ≤ 1000) (hb2 : b ≤ 1000) (k : Int32 → Option Int32) (hP : ∀ r : Int32, r.toInt = ((a * (b / Nat.gcd a b) : Nat) : Int) → P r) : ∀ (n : Nat) (v2_0 : Int32) (m : Nat), v2_0.toInt = m → 1 ≤ m → m ≤ b / Nat.gcd a b → 1001 - m < n → ZE P (p_X1_leastOf_L0 F p0 p1 k n v2_0) := by
  intro n
  induction n with
  | zero => intro _ _ _ _ _ hm; exact absurd hm (Nat.not_lt_zero _)
  | succ n ih =>
    intro v2_0 m hv h1 h2 hm
    show ZE P (if p1 < v2_0 then (k v2_0) else (zg (p1 = 0) (if ¬ (zr (p0 * v2_0) p1) = 0 then (p_X1_leastOf_L0 F p0 p1 k n (v2_0 + (1 : Int32))) else (some (p0 * v2_0)))))
    obtain ⟨z1, z2, z3, z4, z5⟩ := zLcm a b ha1 hb1
    have hab : a * m ≤ 1000 * 1000 := Nat.mul_le_mul ha2 (by omega)
    have em := zMulN ha hv (by omega)
    refine ZE_if (fun c => ?_) (fun _ => ZE_zg (zne0 (by omega)) (ZE_if (fun c => ?_) (fun c => ?_)))
    · rw [Int32.lt_iff_toInt_lt] at c
      omega
    · have ne : m ≠ b / Nat.gcd a b := fun e => c ((zDvdN em hb hb1).mpr (by rw [e]; exact z3))
      exact ih _ (m + 1) (zAddN hv (by omega)) (by omega) (by omega) (by omega)
    · have d := (zDvdN em hb hb1).mp (Decidable.not_not.mp c)
      have e : m = b / Nat.gcd a b := by have := z5 m h1 d; omega
      exact ⟨_, rfl, hP _ (by rw [em, e])⟩
theorem zLst7 (F : Nat) (p0 p1 : Int32) (a b : Nat) (hF : 2000 ≤ F) (ha : p0.toInt = a) (hb : p1.toInt = b) (ha1 : 1 ≤ a) (hb1 : 1 ≤ b) (ha2 : a ≤ 1000) (hb2 : b ≤ 1000) : ZE (fun (r : Int32) => r.toInt = ((a * (b / Nat.gcd a b) : Nat) : Int)) (p_X1_leastOf F p0 p1) := by
  unfold p_X1_leastOf
  obtain ⟨z1, z2, z3, z4, z5⟩ := zLcm a b ha1 hb1
  exact zLstL F p0 p1 a b ha hb ha1 hb1 ha2 hb2 _ (fun r h => h) F 1 1 (by decide) (by omega) z1 (by omega)
/-- both answer alike -/
theorem zSh (F : Nat) (p0 p1 : Int32) (c : Bool) (hF : 2000 ≤ F) : (∃ q : Int32, ZE (fun r => r = (0, q)) (p_X7_shared F p0 p1 c) ∧ ZE (fun r => r = (q, (0 : Int32))) (p_X9_shared F p0 p1 c)) ∨ (ZE (fun r => r = (2, (0 : Int32))) (p_X7_shared F p0 p1 c) ∧ ZE (fun r => r = ((0 : Int32), (1 : Int32))) (p_X9_shared F p0 p1 c)) := by
  have o1 : (1 : Int32).toInt = 1 := by decide
  have o9 : (999 : Int32).toInt = 999 := by decide
  have no : ¬ (z01 true) = 0 := by decide
  have nf : (z01 false) = 0 := by decide
  rcases zni p0 1 999 with ⟨n7, i9, l0, u0⟩ | ⟨n7, i9⟩
  case inr =>
    right
    constructor
    · unfold p_X7_shared
      refine ZE_b1 (Q := fun r => r = 2) ⟨2, n7, rfl⟩ (fun cd h => ?_)
      subst h
      exact ZE_if (fun c => absurd c (by decide)) (fun _ => ⟨_, rfl, rfl⟩)
    · unfold p_X9_shared
      refine ZE_b1 (Q := fun r => r = false) ⟨false, i9, rfl⟩ (fun r1 h => ?_)
      subst h
      refine ZE_lta (ZE_if (fun _ => ?_) (fun c => absurd nf c))
      refine ZE_b2 (Q := fun r => r = (true, 1)) ⟨_, rfl, rfl⟩ (fun r3 th h => ?_)
      obtain ⟨rfl, rfl⟩ := Prod.mk.inj h
      exact ZE_if (fun c => absurd c no) (fun _ => ⟨_, rfl, rfl⟩)
  rcases zni p1 1 999 with ⟨n7b, i9b, l1, u1⟩ | ⟨n7b, i9b⟩
  case inr =>
    right
    constructor
    · unfold p_X7_shared
      refine ZE_b1 (Q := fun r => r = 0) ⟨0, n7, rfl⟩ (fun cd h => ?_)
      subst h
      refine ZE_if (fun _ => ?_) (fun c => absurd rfl c)
      refine ZE_b1 (Q := fun r => r = 2) ⟨2, n7b, rfl⟩ (fun cd h => ?_)
      subst h
      exact ZE_if (fun c => absurd c (by decide)) (fun _ => ⟨_, rfl, rfl⟩)
    · unfold p_X9_shared
      refine ZE_b1 (Q := fun r => r = true) ⟨true, i9, rfl⟩ (fun r1 h => ?_)
      subst h
      refine ZE_lta (ZE_if (fun c => absurd c no) (fun _ => ?_))
      refine ZE_b1 (Q := fun r => r = false) ⟨false, i9b, rfl⟩ (fun r1 h => ?_)
      subst h
      refine ZE_if (fun _ => ?_) (fun c => absurd nf c)
      refine ZE_b2 (Q := fun r => r = (true, 1)) ⟨_, rfl, rfl⟩ (fun r3 th h => ?_)
      obtain ⟨rfl, rfl⟩ := Prod.mk.inj h
      exact ZE_if (fun c => absurd c no) (fun _ => ⟨_, rfl, rfl⟩)
  left
  rw [o1] at l0 l1
  rw [o9] at u0 u1
  obtain ⟨a, ha⟩ := zNn (x := p0) (by omega)
  obtain ⟨b, hb⟩ := zNn (x := p1) (by omega)
  have a1 : 1 ≤ a := by omega
  have a2 : a ≤ 1000 := by omega
  have b1 : 1 ≤ b := by omega
  have b2 : b ≤ 1000 := by omega
  obtain ⟨g7, eg7, hg7⟩ := zGcd7 F p0 p1 a b hF ha hb a2 b2
  obtain ⟨g9, eg9, hg9⟩ := zGcd9 F p0 p1 a b hF ha hb a1 b1 a2 b2
  obtain ⟨l7, el7, hl7⟩ := zLst7 F p0 p1 a b hF ha hb a1 b1 a2 b2
  have g0 : 1 ≤ Nat.gcd a b := Nat.gcd_pos_of_pos_left _ a1
  have hg : g7 = g9 := Int32.toInt_inj.mp (by rw [hg7, hg9])
  have hab : a / Nat.gcd a b * b ≤ 1000 * 1000 := Nat.mul_le_mul (Nat.le_trans (Nat.div_le_self _ _) a2) b2
  have hl : l7 = p0 / g9 * p1 := Int32.toInt_inj.mp (by rw [hl7, zMulN (zDivN ha hg9 g0) hb (by omega), (zLcm a b a1 b1).2.2.2.1])
  subst hg
  refine ⟨if z01 c = 0 then g7 else l7, ?_, ?_⟩
  · unfold p_X7_shared
    refine ZE_b1 (Q := fun r => r = 0) ⟨0, n7, rfl⟩ (fun cd h => ?_)
    subst h
    refine ZE_if (fun _ => ?_) (fun c => absurd rfl c)
    refine ZE_b1 (Q := fun r => r = 0) ⟨0, n7b, rfl⟩ (fun cd h => ?_)
    subst h
    refine ZE_if (fun _ => ?_) (fun c => absurd rfl c)
    refine ZE_if (fun h => ?_) (fun h => ?_)
    · rw [if_pos h]
      exact ZE_b1 (Q := fun r => r = g7) ⟨_, eg7, rfl⟩ (fun r h => ⟨_, rfl, by rw [h]⟩)
    · rw [if_neg h]
      exact ZE_b1 (Q := fun r => r = l7) ⟨_, el7, rfl⟩ (fun r h => ⟨_, rfl, by rw [h]⟩)
  · unfold p_X9_shared
    refine ZE_b1 (Q := fun r => r = true) ⟨true, i9, rfl⟩ (fun r1 h => ?_)
    subst h
    refine ZE_lta (ZE_if (fun c => absurd c no) (fun _ => ?_))
    refine ZE_b1 (Q := fun r => r = true) ⟨true, i9b, rfl⟩ (fun r1 h => ?_)
    subst h
    refine ZE_if (fun c => absurd c no) (fun _ => ?_)
    refine ZE_b2 (Q := fun r => r = (false, 0)) ⟨_, rfl, rfl⟩ (fun r3 th h => ?_)
    obtain ⟨rfl, rfl⟩ := Prod.mk.inj h
    refine ZE_if (fun _ => ?_) (fun c => absurd nf c)
    refine ZE_if (fun h => ?_) (fun h => ?_)
    · rw [if_pos h]
      exact ZE_b1 (Q := fun r => r = g7) ⟨_, eg9, rfl⟩ (fun r h => ⟨_, rfl, by rw [h]⟩)
    · rw [if_neg h, hl]
      refine ZE_b1 (Q := fun r => r = g7) ⟨_, eg9, rfl⟩ (fun r h => ?_)
      subst h
      exact ZE_zg (zne0 (by omega)) ⟨_, rfl, rfl⟩
theorem zlc0 (x : Int64) : lg_cmp x x = 0 := by
  unfold lg_cmp
  rw [if_neg (fun h => Int64.lt_irrefl h), if_pos rfl]
set_option maxHeartbeats 2000000 in
theorem t_law_23 (F : Nat) (R : Nat → Nat → Int64) (b : Bool) (pr : Nat → Int32) (tm : Nat → Int32) (cn : Int32) (sm : Nat → Int32) (ac : Int32) (re : Int32) (kn : Int32) (V : Nat → Int64) (ib : Bool) (dn : Int32) (rf : Int32) (mk : Int32) (th : Int32) (xs : Nat → Int32) (i : Int32) (on : Int64) (hp0 : 2000 ≤ F) (hp1 : zTm tm) (hp2 : 0 ≤ cn.toInt) (hp3 : cn.toInt ≤ 4) (hp4 : kn = mk) : ZE (fun (r : ((Nat → Nat → Int64) × Bool × (Nat → Int32) × (Nat → Int32) × Int32 × (Nat → Int32) × Int32 × Int32 × Int32 × (Nat → Int64) × Bool × Int32 × Int32 × Int32 × Int32 × Int64)) => zTm r.2.2.2.1 ∧ 0 ≤ r.2.2.2.2.1.toInt ∧ r.2.2.2.2.1.toInt ≤ 4 ∧ r.2.2.2.2.2.2.2.2.1 = r.2.2.2.2.2.2.2.2.2.2.2.2.2.1) (p_law_23 F R b pr tm cn sm ac re kn V ib dn rf mk th xs i on) := by
  unfold p_law_23
  generalize xs (i + (1 : Int32)).toNatClampNeg = p0
  generalize xs (i + (2 : Int32)).toNatClampNeg = p1
  generalize xs (i + (3 : Int32)).toNatClampNeg = p2
  refine ZE_lta (ZE_if (fun h3 => ?_) (fun h3 => ?_))
  · rcases zSh F p0 p1 false hp0 with ⟨q, a7, a9⟩ | ⟨a7, a9⟩
    · refine ZE_b2 (Q := fun r => r = ((0 : Int32), q.toInt64)) ?_ (fun r1 on2 h => ?_)
      · unfold p_L_shared
        refine ZE_b2 a7 (fun cd1 r2 h => ?_)
        simp only [Prod.mk.injEq] at h
        obtain ⟨rfl, rfl⟩ := h
        exact ZE_if (fun _ => ⟨_, rfl, rfl⟩) (fun c => absurd rfl c)
      simp only [Prod.mk.injEq] at h
      obtain ⟨rfl, rfl⟩ := h
      refine ZE_if (fun _ => ?_) (fun c => absurd h3 c)
      · skip
        refine ZE_b2 a9 (fun r5 th_6 h => ?_)
        simp only [Prod.mk.injEq] at h
        obtain ⟨rfl, rfl⟩ := h
        refine ZE_b1 (t_X9_thrown _) (fun r22 h => ?_)
        subst h
        refine ZE_if (fun _ => ?_) (fun c => absurd rfl c)
        refine ZE_if (fun c => absurd rfl c) (fun _ => ?_)
        exact ZE_if (fun _ => ⟨_, rfl, hp1, hp2, hp3, hp4⟩) (fun c => absurd (zlc0 _) c)
    · refine ZE_b2 (Q := fun r => r = ((1 : Int32), on)) ?_ (fun r1 on2 h => ?_)
      · unfold p_L_shared
        refine ZE_b2 a7 (fun cd1 r2 h => ?_)
        simp only [Prod.mk.injEq] at h
        obtain ⟨rfl, rfl⟩ := h
        exact ZE_if (fun c => absurd c (by decide)) (fun _ => ZE_if (fun _ => ⟨_, rfl, rfl⟩) (fun c => absurd rfl c))
      simp only [Prod.mk.injEq] at h
      obtain ⟨rfl, rfl⟩ := h
      refine ZE_if (fun _ => ?_) (fun c => absurd h3 c)
      · skip
        refine ZE_b2 a9 (fun r5 th_6 h => ?_)
        simp only [Prod.mk.injEq] at h
        obtain ⟨rfl, rfl⟩ := h
        refine ZE_b1 (t_X9_thrown _) (fun r22 h => ?_)
        subst h
        refine ZE_if (fun _ => ?_) (fun c => absurd rfl c)
        exact ZE_if (fun _ => ⟨_, rfl, hp1, hp2, hp3, hp4⟩) (fun c => absurd (show ¬ (1 : Int32) = 0 by decide) c)
  · rcases zSh F p0 p1 true hp0 with ⟨q, a7, a9⟩ | ⟨a7, a9⟩
    · refine ZE_b2 (Q := fun r => r = ((0 : Int32), q.toInt64)) ?_ (fun r1 on2 h => ?_)
      · unfold p_L_shared
        refine ZE_b2 a7 (fun cd1 r2 h => ?_)
        simp only [Prod.mk.injEq] at h
        obtain ⟨rfl, rfl⟩ := h
        exact ZE_if (fun _ => ⟨_, rfl, rfl⟩) (fun c => absurd rfl c)
      simp only [Prod.mk.injEq] at h
      obtain ⟨rfl, rfl⟩ := h
      refine ZE_if (fun c => absurd c h3) (fun _ => ?_)
      · skip
        refine ZE_b2 a9 (fun r5 th_6 h => ?_)
        simp only [Prod.mk.injEq] at h
        obtain ⟨rfl, rfl⟩ := h
        refine ZE_b1 (t_X9_thrown _) (fun r22 h => ?_)
        subst h
        refine ZE_if (fun _ => ?_) (fun c => absurd rfl c)
        refine ZE_if (fun c => absurd rfl c) (fun _ => ?_)
        exact ZE_if (fun _ => ⟨_, rfl, hp1, hp2, hp3, hp4⟩) (fun c => absurd (zlc0 _) c)
    · refine ZE_b2 (Q := fun r => r = ((1 : Int32), on)) ?_ (fun r1 on2 h => ?_)
      · unfold p_L_shared
        refine ZE_b2 a7 (fun cd1 r2 h => ?_)
        simp only [Prod.mk.injEq] at h
        obtain ⟨rfl, rfl⟩ := h
        exact ZE_if (fun c => absurd c (by decide)) (fun _ => ZE_if (fun _ => ⟨_, rfl, rfl⟩) (fun c => absurd rfl c))
      simp only [Prod.mk.injEq] at h
      obtain ⟨rfl, rfl⟩ := h
      refine ZE_if (fun c => absurd c h3) (fun _ => ?_)
      · skip
        refine ZE_b2 a9 (fun r5 th_6 h => ?_)
        simp only [Prod.mk.injEq] at h
        obtain ⟨rfl, rfl⟩ := h
        refine ZE_b1 (t_X9_thrown _) (fun r22 h => ?_)
        subst h
        refine ZE_if (fun _ => ?_) (fun c => absurd rfl c)
        exact ZE_if (fun _ => ⟨_, rfl, hp1, hp2, hp3, hp4⟩) (fun c => absurd (show ¬ (1 : Int32) = 0 by decide) c)
