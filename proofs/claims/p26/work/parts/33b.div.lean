-- ==================== divisor: the class's and the reference's, step by step
theorem zg_n {ρ : Type} {c : Prop} [Decidable c] {x : Option ρ} (h : ¬ c) : zg c x = x := by
  unfold zg
  rw [if_neg h]
set_option maxHeartbeats 2000000 in
theorem zDvL (F : Nat) (R : Nat → Nat → Int64) (b : Bool) (pr : Nat → Int32) (tm : Nat → Int32) (cn : Int32) (sm : Nat → Int32) (ac : Int32) (re : Int32) (kn : Int32) (V : Nat → Int64) (ib : Bool) (dn : Int32) (rf : Int32) (mk : Int32) (p0 p1 th_7 : Int32) (hp0 : p0.toInt ≤ 999) : ∀ (n : Nat) (v3_0 v3_1 v4_0 : Int32), 1 ≤ v4_0.toInt → v4_0.toInt ≤ 1000 → 0 ≤ v3_0.toInt → v3_0.toInt ≤ p1.toInt → v3_0.toInt + 1 ≤ v4_0.toInt → v3_1.toInt = p1.toInt - v3_0.toInt → (1001 - v4_0.toInt).toNat < n → ∃ q : Int32, p_X7_divisor_L0 F R b pr tm cn sm ac re kn p0 p1 (fun v3_0 v4_0 => (some (0, (-1 : Int32), R, b, pr, tm, cn, sm, ac, re, kn))) n v3_0 v4_0 = some (0, q, R, b, pr, tm, cn, sm, ac, re, kn) ∧ p_X9_divisor_L1 F V ib dn rf mk p0 th_7 (fun v3_1 v4_1 => (some ((-1 : Int32), V, ib, dn, rf, mk, th_7))) n v3_1 v4_0 = some (q, V, ib, dn, rf, mk, th_7) := by
  intro n
  generalize hk7 : (fun (v3_0 v4_0 : Int32) => (some (0, (-1 : Int32), R, b, pr, tm, cn, sm, ac, re, kn) : Option (Nat × Int32 × (Nat → Nat → Int64) × Bool × (Nat → Int32) × (Nat → Int32) × Int32 × (Nat → Int32) × Int32 × Int32 × Int32))) = k7
  generalize hk9 : (fun (v3_1 v4_1 : Int32) => (some ((-1 : Int32), V, ib, dn, rf, mk, th_7) : Option (Int32 × (Nat → Int64) × Bool × Int32 × Int32 × Int32 × Int32))) = k9
  induction n with
  | zero => intro _ _ _ _ _ _ _ _ _ hm; exact absurd hm (Nat.not_lt_zero _)
  | succ n ih =>
    intro v3_0 v3_1 v4_0 i1 i2 i3 i4 i5 i6 hm
    have E1 : p_X7_divisor_L0 F R b pr tm cn sm ac re kn p0 p1 k7 (n + 1) v3_0 v4_0 = (if p0 < v4_0 then (k7 v3_0 v4_0) else (zg (v4_0 = 0) (if ¬ (zr p0 v4_0) = 0 then (p_X7_divisor_L0 F R b pr tm cn sm ac re kn p0 p1 k7 n v3_0 (v4_0 + (1 : Int32))) else (if ¬ v3_0 = p1 then (p_X7_divisor_L0 F R b pr tm cn sm ac re kn p0 p1 k7 n (v3_0 + (1 : Int32)) (v4_0 + (1 : Int32))) else (some (0, v4_0, R, b, pr, tm, cn, sm, ac, re, kn)))))) := rfl
    have E2 : p_X9_divisor_L1 F V ib dn rf mk p0 th_7 k9 (n + 1) v3_1 v4_0 = (if p0 < v4_0 then (k9 v3_1 v4_0) else (zg (v4_0 = 0) (if (zr p0 v4_0) = 0 then (if ¬ v3_1 = 0 then (p_X9_divisor_L1 F V ib dn rf mk p0 th_7 k9 n (v3_1 + (-1 : Int32)) (v4_0 + (1 : Int32))) else (some (v4_0, V, ib, dn, rf, mk, th_7))) else (p_X9_divisor_L1 F V ib dn rf mk p0 th_7 k9 n v3_1 (v4_0 + (1 : Int32)))))) := rfl
    rw [E1, E2]
    have o1 : (1 : Int32).toInt = 1 := by decide
    have o0 : (0 : Int32).toInt = 0 := by decide
    have hne : ¬ v4_0 = 0 := zne0 i1
    by_cases c : p0 < v4_0
    · rw [if_pos c, if_pos c]
      exact ⟨-1, by rw [← hk7], by rw [← hk9]⟩
    · rw [if_neg c, if_neg c, zg_n hne, zg_n hne]
      rw [Int32.lt_iff_toInt_lt] at c
      have A1 : 1 ≤ v4_0.toInt + 1 := by omega
      have A2 : v4_0.toInt + 1 ≤ 1000 := by omega
      have A3 : 0 ≤ v3_0.toInt + 1 := by omega
      have A4 : v3_0.toInt + 1 + 1 ≤ v4_0.toInt + 1 := by omega
      have A5 : v3_0.toInt + 1 ≤ v4_0.toInt + 1 := by omega
      have A6 : v3_1.toInt - 1 = p1.toInt - (v3_0.toInt + 1) := by omega
      have A7 : (1001 - (v4_0.toInt + 1)).toNat < n := by omega
      have A8 : -2147483647 ≤ v3_1.toInt := by omega
      have e4 : (v4_0 + (1 : Int32)).toInt = v4_0.toInt + 1 := by rw [zad (x := v4_0) (c := (1 : Int32)) (by omega) (by omega), o1]
      have e3 : (v3_0 + (1 : Int32)).toInt = v3_0.toInt + 1 := by rw [zad (x := v3_0) (c := (1 : Int32)) (by omega) (by omega), o1]
      by_cases d : zr p0 v4_0 = 0
      · rw [if_neg (fun h => h d), if_pos d]
        by_cases e : v3_0 = p1
        · have e' : v3_1 = 0 := Int32.toInt_inj.mp (by rw [i6, e, o0]; omega)
          rw [if_neg (fun h => h e), if_neg (fun h => h e')]
          exact ⟨_, rfl, rfl⟩
        · have e' : ¬ v3_1 = 0 := fun h => e (Int32.toInt_inj.mp (by rw [h, o0] at i6; omega))
          have A9 : v3_0.toInt + 1 ≤ p1.toInt := by
            have : v3_0.toInt ≠ p1.toInt := fun h => e (Int32.toInt_inj.mp h)
            omega
          rw [if_pos e, if_pos e']
          have e9 := zam (x := v3_1) A8
          exact ih _ _ _ (by rw [e4]; exact A1) (by rw [e4]; exact A2) (by rw [e3]; exact A3) (by rw [e3]; exact A9) (by rw [e3, e4]; exact A4) (by rw [e9, e3]; exact A6) (by rw [e4]; exact A7)
      · rw [if_pos d, if_neg d]
        exact ih _ _ _ (by rw [e4]; exact A1) (by rw [e4]; exact A2) i3 i4 (by rw [e4]; exact A5) i6 (by rw [e4]; exact A7)
/-- both answer alike -/
theorem zDiv (F : Nat) (R : Nat → Nat → Int64) (b : Bool) (pr : Nat → Int32) (tm : Nat → Int32) (cn : Int32) (sm : Nat → Int32) (ac : Int32) (re : Int32) (kn : Int32) (V : Nat → Int64) (ib : Bool) (dn : Int32) (rf : Int32) (mk : Int32) (p0 p1 : Int32) (hF : 2000 ≤ F) : (∃ q : Int32, ZE (fun r => r = (0, q, R, b, pr, tm, cn, sm, ac, re, kn)) (p_X7_divisor F R b pr tm cn sm ac re kn p0 p1) ∧ ZE (fun r => r = (q, V, ib, dn, rf, mk, (0 : Int32))) (p_X9_divisor F V ib dn rf mk p0 p1)) ∨ (ZE (fun r => r = (2, (0 : Int32), R, b, pr, tm, cn, sm, ac, re, kn)) (p_X7_divisor F R b pr tm cn sm ac re kn p0 p1) ∧ ZE (fun r => r = ((0 : Int32), V, ib, dn, rf, mk, (1 : Int32))) (p_X9_divisor F V ib dn rf mk p0 p1)) := by
  have o1 : (1 : Int32).toInt = 1 := by decide
  have o0 : (0 : Int32).toInt = 0 := by decide
  have o9 : (999 : Int32).toInt = 999 := by decide
  have no : ¬ (z01 true) = 0 := by decide
  have nf : (z01 false) = 0 := by decide
  have bad9 : p_X9_isNo false = some (true, 1) := rfl
  have good9 : p_X9_isNo true = some (false, 0) := rfl
  by_cases h1 : p0 < 1
  · right
    constructor
    · unfold p_X7_divisor
      refine ZE_b1 (Q := fun r => r = 2) ⟨2, by unfold p_X7_need; rw [if_pos h1], rfl⟩ (fun cd h => ?_)
      subst h
      exact ZE_if (fun c => absurd c (by decide)) (fun _ => ⟨_, rfl, rfl⟩)
    · unfold p_X9_divisor
      refine ZE_b1 (Q := fun r => r = false) ⟨false, by unfold p_X9_isIn; rw [if_pos h1], rfl⟩ (fun r1 h => ?_)
      subst h
      refine ZE_lta (ZE_if (fun _ => ?_) (fun c => absurd nf c))
      refine ZE_b2 (Q := fun r => r = (true, 1)) ⟨_, bad9, rfl⟩ (fun r3 th h => ?_)
      obtain ⟨rfl, rfl⟩ := Prod.mk.inj h
      exact ZE_if (fun c => absurd c no) (fun _ => ⟨_, rfl, rfl⟩)
  · by_cases h2 : p0 ≤ 999
    · have n7 : p_X7_need p0 1 999 = some 0 := by unfold p_X7_need; rw [if_neg h1, if_pos h2]
      have h2' : ¬ (999 : Int32) < p0 := Int32.not_lt.mpr h2
      have i9 : p_X9_isIn p0 1 999 = some true := by unfold p_X9_isIn; rw [if_neg h1, if_neg h2']
      by_cases h3 : 0 ≤ p1
      · left
        have h3' : ¬ p1 < 0 := Int32.not_lt.mpr h3
        have g1 : p0.toInt ≤ 999 := by rw [Int32.le_iff_toInt_le, o9] at h2; exact h2
        have g3 : 0 ≤ p1.toInt := by rw [Int32.le_iff_toInt_le, o0] at h3; exact h3
        obtain ⟨q, q1, q2⟩ := zDvL F R b pr tm cn sm ac re kn V ib dn rf mk p0 p1 0 g1 F 0 p1 1 (by omega) (by omega) (by omega) (by omega) (by omega) (by rw [o0]; omega) (by omega)
        refine ⟨q, ?_, ?_⟩
        · unfold p_X7_divisor
          refine ZE_b1 (Q := fun r => r = 0) ⟨0, n7, rfl⟩ (fun cd h => ?_)
          subst h
          exact ZE_if (fun _ => ZE_if (fun _ => ⟨_, q1, rfl⟩) (fun c => absurd h3 c)) (fun c => absurd rfl c)
        · unfold p_X9_divisor
          refine ZE_b1 (Q := fun r => r = true) ⟨true, i9, rfl⟩ (fun r1 h => ?_)
          subst h
          refine ZE_lta (ZE_if (fun c => absurd c no) (fun _ => ZE_if (fun c => absurd c h3') (fun _ => ?_)))
          refine ZE_b2 (Q := fun r => r = (false, 0)) ⟨_, good9, rfl⟩ (fun r3 th h => ?_)
          obtain ⟨rfl, rfl⟩ := Prod.mk.inj h
          exact ZE_if (fun _ => ⟨_, q2, rfl⟩) (fun c => absurd nf c)
      · right
        have h3' : p1 < 0 := Int32.not_le.mp h3
        constructor
        · unfold p_X7_divisor
          refine ZE_b1 (Q := fun r => r = 0) ⟨0, n7, rfl⟩ (fun cd h => ?_)
          subst h
          exact ZE_if (fun _ => ZE_if (fun c => absurd c h3) (fun _ => ⟨_, rfl, rfl⟩)) (fun c => absurd rfl c)
        · unfold p_X9_divisor
          refine ZE_b1 (Q := fun r => r = true) ⟨true, i9, rfl⟩ (fun r1 h => ?_)
          subst h
          refine ZE_lta (ZE_if (fun c => absurd c no) (fun _ => ZE_if (fun _ => ?_) (fun c => absurd h3' c)))
          refine ZE_b2 (Q := fun r => r = (true, 1)) ⟨_, bad9, rfl⟩ (fun r3 th h => ?_)
          obtain ⟨rfl, rfl⟩ := Prod.mk.inj h
          exact ZE_if (fun c => absurd c no) (fun _ => ⟨_, rfl, rfl⟩)
    · right
      have h2' : (999 : Int32) < p0 := Int32.not_le.mp h2
      constructor
      · unfold p_X7_divisor
        refine ZE_b1 (Q := fun r => r = 2) ⟨2, by unfold p_X7_need; rw [if_neg h1, if_neg h2], rfl⟩ (fun cd h => ?_)
        subst h
        exact ZE_if (fun c => absurd c (by decide)) (fun _ => ⟨_, rfl, rfl⟩)
      · unfold p_X9_divisor
        refine ZE_b1 (Q := fun r => r = false) ⟨false, by unfold p_X9_isIn; rw [if_neg h1, if_pos h2'], rfl⟩ (fun r1 h => ?_)
        subst h
        refine ZE_lta (ZE_if (fun _ => ?_) (fun c => absurd nf c))
        refine ZE_b2 (Q := fun r => r = (true, 1)) ⟨_, bad9, rfl⟩ (fun r3 th h => ?_)
        obtain ⟨rfl, rfl⟩ := Prod.mk.inj h
        exact ZE_if (fun c => absurd c no) (fun _ => ⟨_, rfl, rfl⟩)
theorem zlc0 (x : Int64) : lg_cmp x x = 0 := by
  unfold lg_cmp
  rw [if_neg (fun h => Int64.lt_irrefl h), if_pos rfl]
set_option maxHeartbeats 2000000 in
theorem t_law_24 (F : Nat) (R : Nat → Nat → Int64) (b : Bool) (pr : Nat → Int32) (tm : Nat → Int32) (cn : Int32) (sm : Nat → Int32) (ac : Int32) (re : Int32) (kn : Int32) (V : Nat → Int64) (ib : Bool) (dn : Int32) (rf : Int32) (mk : Int32) (th : Int32) (xs : Nat → Int32) (i : Int32) (on : Int64) (hp0 : 2000 ≤ F) (hp1 : zTm tm) (hp2 : 0 ≤ cn.toInt) (hp3 : cn.toInt ≤ 4) (hp4 : kn = mk) : ZE (fun (r : ((Nat → Nat → Int64) × Bool × (Nat → Int32) × (Nat → Int32) × Int32 × (Nat → Int32) × Int32 × Int32 × Int32 × (Nat → Int64) × Bool × Int32 × Int32 × Int32 × Int32 × Int64)) => zTm r.2.2.2.1 ∧ 0 ≤ r.2.2.2.2.1.toInt ∧ r.2.2.2.2.1.toInt ≤ 4 ∧ r.2.2.2.2.2.2.2.2.1 = r.2.2.2.2.2.2.2.2.2.2.2.2.2.1) (p_law_24 F R b pr tm cn sm ac re kn V ib dn rf mk th xs i on) := by
  unfold p_law_24
  generalize xs (i + (1 : Int32)).toNatClampNeg = p0
  generalize xs (i + (2 : Int32)).toNatClampNeg = p1
  rcases zDiv F R b pr tm cn sm ac re kn V ib dn rf mk p0 p1 hp0 with ⟨q, a7, a9⟩ | ⟨a7, a9⟩
  · refine ZE_b11 (Q := fun r => r = ((0 : Int32), q.toInt64, R, b, pr, tm, cn, sm, ac, re, kn)) ?_ (fun r1 on2 R_4 b_5 pr_6 tm_7 cn_8 sm_9 ac_10 re_11 kn_12 h => ?_)
    · unfold p_L_divisor
      refine ZE_b11 a7 (fun cd1 r2 R_3 b_4 pr_5 tm_6 cn_7 sm_8 ac_9 re_10 kn_11 h => ?_)
      simp only [Prod.mk.injEq] at h
      obtain ⟨rfl, rfl, rfl, rfl, rfl, rfl, rfl, rfl, rfl, rfl, rfl⟩ := h
      exact ZE_if (fun _ => ⟨_, rfl, rfl⟩) (fun c => absurd rfl c)
    · simp only [Prod.mk.injEq] at h
      obtain ⟨rfl, rfl, rfl, rfl, rfl, rfl, rfl, rfl, rfl, rfl, rfl⟩ := h
      refine ZE_b7 a9 (fun r14 V_15 ib_16 dn_17 rf_18 mk_19 th_20 h => ?_)
      simp only [Prod.mk.injEq] at h
      obtain ⟨rfl, rfl, rfl, rfl, rfl, rfl, rfl⟩ := h
      refine ZE_b1 (t_X9_thrown _) (fun r22 h => ?_)
      subst h
      refine ZE_if (fun _ => ?_) (fun c => absurd rfl c)
      refine ZE_if (fun c => absurd rfl c) (fun _ => ?_)
      exact ZE_if (fun _ => ⟨_, rfl, hp1, hp2, hp3, hp4⟩) (fun c => absurd (zlc0 _) c)
  · refine ZE_b11 (Q := fun r => r = ((1 : Int32), on, R, b, pr, tm, cn, sm, ac, re, kn)) ?_ (fun r1 on2 R_4 b_5 pr_6 tm_7 cn_8 sm_9 ac_10 re_11 kn_12 h => ?_)
    · unfold p_L_divisor
      refine ZE_b11 a7 (fun cd1 r2 R_3 b_4 pr_5 tm_6 cn_7 sm_8 ac_9 re_10 kn_11 h => ?_)
      simp only [Prod.mk.injEq] at h
      obtain ⟨rfl, rfl, rfl, rfl, rfl, rfl, rfl, rfl, rfl, rfl, rfl⟩ := h
      exact ZE_if (fun c => absurd c (by decide)) (fun _ => ZE_if (fun _ => ⟨_, rfl, rfl⟩) (fun c => absurd rfl c))
    · simp only [Prod.mk.injEq] at h
      obtain ⟨rfl, rfl, rfl, rfl, rfl, rfl, rfl, rfl, rfl, rfl, rfl⟩ := h
      refine ZE_b7 a9 (fun r14 V_15 ib_16 dn_17 rf_18 mk_19 th_20 h => ?_)
      simp only [Prod.mk.injEq] at h
      obtain ⟨rfl, rfl, rfl, rfl, rfl, rfl, rfl⟩ := h
      refine ZE_b1 (t_X9_thrown _) (fun r22 h => ?_)
      subst h
      refine ZE_if (fun _ => ?_) (fun c => absurd rfl c)
      exact ZE_if (fun _ => ⟨_, rfl, hp1, hp2, hp3, hp4⟩) (fun c => absurd (show ¬ (1 : Int32) = 0 by decide) c)
