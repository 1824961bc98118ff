def nSqS (n : Nat) : Nat → Int
  | 0 => 0
  | d + 1 => nSqS n d + (if n < (d + 1) * (d + 1) then 0 else nSgn (d + 1) * ((n / ((d + 1) * (d + 1)) : Nat) : Int))
def nSql : Nat → Nat
  | 0 => 0
  | n + 1 => nSql n + (if nSqr (n + 1) 31 = 1 then 1 else 0)
def cSn (n : Nat) : Bool := nSqS n 31 == nSqS (n - 1) 31 + (if nSqr n 31 = 1 then 1 else 0)
theorem cSn_0 : (List.range 100).all (fun i => cSn (0 + i + 1)) = true := by decide +kernel
theorem cSn_1 : (List.range 100).all (fun i => cSn (100 + i + 1)) = true := by decide +kernel
theorem cSn_2 : (List.range 100).all (fun i => cSn (200 + i + 1)) = true := by decide +kernel
theorem cSn_3 : (List.range 100).all (fun i => cSn (300 + i + 1)) = true := by decide +kernel
theorem cSn_4 : (List.range 100).all (fun i => cSn (400 + i + 1)) = true := by decide +kernel
theorem cSn_5 : (List.range 100).all (fun i => cSn (500 + i + 1)) = true := by decide +kernel
theorem cSn_6 : (List.range 100).all (fun i => cSn (600 + i + 1)) = true := by decide +kernel
theorem cSn_7 : (List.range 100).all (fun i => cSn (700 + i + 1)) = true := by decide +kernel
theorem cSn_8 : (List.range 100).all (fun i => cSn (800 + i + 1)) = true := by decide +kernel
theorem cSn_9 : (List.range 99).all (fun i => cSn (900 + i + 1)) = true := by decide +kernel
theorem cSnOf {m lo : Nat} (h : (List.range m).all (fun i => cSn (lo + i + 1)) = true) {n : Nat} (a : lo < n) (b : n ≤ lo + m) : cSn n = true := by
  have := List.all_eq_true.mp h (n - lo - 1) (List.mem_range.mpr (by omega))
  rw [show lo + (n - lo - 1) + 1 = n by omega] at this
  exact this
theorem cSnAll (n : Nat) (h1 : 1 ≤ n) (h3 : n ≤ 999) : cSn n = true := by
  by_cases g0 : n ≤ 100
  · exact cSnOf (lo := 0) cSn_0 (by omega) (by omega)
  by_cases g1 : n ≤ 200
  · exact cSnOf (lo := 100) cSn_1 (by omega) (by omega)
  by_cases g2 : n ≤ 300
  · exact cSnOf (lo := 200) cSn_2 (by omega) (by omega)
  by_cases g3 : n ≤ 400
  · exact cSnOf (lo := 300) cSn_3 (by omega) (by omega)
  by_cases g4 : n ≤ 500
  · exact cSnOf (lo := 400) cSn_4 (by omega) (by omega)
  by_cases g5 : n ≤ 600
  · exact cSnOf (lo := 500) cSn_5 (by omega) (by omega)
  by_cases g6 : n ≤ 700
  · exact cSnOf (lo := 600) cSn_6 (by omega) (by omega)
  by_cases g7 : n ≤ 800
  · exact cSnOf (lo := 700) cSn_7 (by omega) (by omega)
  by_cases g8 : n ≤ 900
  · exact cSnOf (lo := 800) cSn_8 (by omega) (by omega)
  exact cSnOf (lo := 900) cSn_9 (by omega) (by omega)
theorem cSqR (n : Nat) (h1 : 1 ≤ n) (h3 : n ≤ 999) : nSqS n 31 = nSqS (n - 1) 31 + (if nSqr n 31 = 1 then 1 else 0) := eq_of_beq (cSnAll n h1 h3)
theorem nSqS0 : ∀ d, nSqS 0 d = 0 := by
  intro d
  induction d with
  | zero => rfl
  | succ d ih =>
    show nSqS 0 d + (if 0 < (d + 1) * (d + 1) then 0 else _) = 0
    rw [if_pos (Nat.mul_pos (by omega) (by omega)), ih]
    rfl
theorem cSqS : ∀ n, n ≤ 999 → nSqS n 31 = ((nSql n : Nat) : Int) := by
  intro n
  induction n with
  | zero => intro _; exact nSqS0 31
  | succ n ih =>
    intro h
    rw [(cSqR (n + 1) (by omega) h), Nat.add_sub_cancel, ih (by omega)]
    show _ = ((nSql n + (if nSqr (n + 1) 31 = 1 then 1 else 0) : Nat) : Int)
    split <;> rfl
theorem zSqSUp {n d : Nat} (hd : n < (d + 1) * (d + 1)) : ∀ e, nSqS n (d + e) = nSqS n d := by
  intro e
  induction e with
  | zero => rfl
  | succ e ih =>
    rw [← ih]
    show nSqS n (d + e) + (if n < (d + e + 1) * (d + e + 1) then 0 else _) = nSqS n (d + e)
    have : (d + 1) * (d + 1) ≤ (d + e + 1) * (d + e + 1) := Nat.mul_le_mul (by omega) (by omega)
    rw [if_pos (by omega)]
    exact Int.add_zero _

set_option maxHeartbeats 2000000 in
theorem zSqlSL {P : (Int32 × (Nat → Int32) × (Nat → Int32) × Int32) → Prop} (F : Nat) (p0 : Int32) (n : Nat) (hF : 2000 ≤ F) (hn : p0.toInt = n) (h1 : 1 ≤ n) (h3 : n ≤ 999) (k : Int32 → Int32 → (Nat → Int32) → (Nat → Int32) → Int32 → Option (Int32 × (Nat → Int32) × (Nat → Int32) × Int32)) (hk : ∀ (a b : Int32) (x y : Nat → Int32) (z : Int32), a = Int32.ofInt (nSqS n 31) → ZE P (k a b x y z)) : ∀ (f : Nat) (va vd : Int32) (prL0 tmL0 : Nat → Int32) (cnL0 : Int32) (d : Nat), vd.toInt = ((d + 1 : Nat) : Int) → d ≤ 31 → va = Int32.ofInt (nSqS n d) → 31 + 1 - d < f → ZE P (p_X1_squarelessBySigns_L0 F p0 k f va vd prL0 tmL0 cnL0) := by
  intro f
  induction f with
  | zero => intro _ _ _ _ _ _ _ _ _ hm; exact absurd hm (Nat.not_lt_zero _)
  | succ f ih =>
    intro va vd prL0 tmL0 cnL0 d hd hdn ha hm
    show ZE P (if (31 : Int32) < vd then (k va vd prL0 tmL0 cnL0) else (if p0 < (vd * vd) then (k va vd prL0 tmL0 cnL0) else (zb4 (p_X1_signByPowers F prL0 tmL0 vd) (fun r1 pr_2 tm_3 cn_4 => (zg ((vd * vd) = 0) (p_X1_squarelessBySigns_L0 F p0 k f (va + (r1 * (p0 / (vd * vd)))) (vd + (1 : Int32)) pr_2 tm_3 cn_4))))))
    have e1 := zAddN hd (by omega)
    have hb : (d + 1) * (d + 1) ≤ 32 * 32 := Nat.mul_le_mul (by omega) (by omega)
    have hb1 : 1 * 1 ≤ (d + 1) * (d + 1) := Nat.mul_le_mul (by omega) (by omega)
    have em := zMulN hd hd (by omega)
    refine ZE_if (fun c => ?_) (fun _ => ZE_if (fun c => ?_) (fun c => ?_))
    · rw [Int32.lt_iff_toInt_lt, show (31 : Int32).toInt = 31 from by decide] at c
      have : d = 31 := by omega
      subst this
      exact hk _ _ _ _ _ ha
    · rw [Int32.lt_iff_toInt_lt, em, hn] at c
      have := zSqSUp (n := n) (d := d) (by omega) (31 - d)
      rw [show d + (31 - d) = 31 by omega] at this
      exact hk _ _ _ _ _ (by rw [ha, this])
    · rw [Int32.lt_iff_toInt_lt, em, hn] at c
      have hle : (d + 1) * (d + 1) ≤ n := by omega
      have h31 := zsq32 hle (by omega)
      have hs : nSqS n (d + 1) = nSqS n d + (if n < (d + 1) * (d + 1) then 0 else nSgn (d + 1) * ((n / ((d + 1) * (d + 1)) : Nat) : Int)) := rfl
      rw [if_neg (by omega)] at hs
      refine ZE_b4 (zSgnP F prL0 tmL0 vd (d + 1) hF hd (by omega) (by omega)) (fun r1 x y z hr => ?_)
      dsimp only at hr
      rw [cSgn (d + 1) (by omega) (by omega)] at hr
      refine ZE_zg (zne0 (by omega)) ?_
      exact ih _ _ _ _ _ (d + 1) e1 (by omega) (zAcc ha (zMlc hr (zOf (zDivN hn em (by omega))) rfl) hs) (by omega)

theorem zSqlS (F : Nat) (pr tm : Nat → Int32) (cn p0 : Int32) (n : Nat) (hF : 2000 ≤ F) (hn : p0.toInt = n) (h1 : 1 ≤ n) (h3 : n ≤ 999) : ZE (fun (r : (Int32 × (Nat → Int32) × (Nat → Int32) × Int32)) => r.1 = Int32.ofInt ((nSql n : Nat) : Int)) (p_X1_squarelessBySigns F pr tm cn p0) := by
  unfold p_X1_squarelessBySigns
  rw [← cSqS n h3]
  exact zSqlSL F p0 n hF hn h1 h3 _ (fun a b x y z h => ⟨_, rfl, h⟩) F 0 1 pr tm cn 0 (by decide) (by omega) rfl (by omega)

set_option maxHeartbeats 2000000 in
theorem zSql9L {P : (Int32 × Int32) → Prop} (F : Nat) (p0 : Int32) (n : Nat) (hF : 2000 ≤ F) (hn : p0.toInt = n) (h1 : 1 ≤ n) (h2 : n ≤ 1000) (k : Int32 → Int32 → Option (Int32 × Int32)) (hk : ∀ a b : Int32, a = Int32.ofInt (((nSql n : Nat) : Int)) → ZE P (k a b)) : ∀ (f : Nat) (va vd : Int32) (d : Nat), vd.toInt = ((d + 1 : Nat) : Int) → d ≤ n → va = Int32.ofInt (((nSql d : Nat) : Int)) → n + 1 - d < f → ZE P (p_X9_squareless_L1 F p0 k f va vd) := by
  intro f
  induction f with
  | zero => intro _ _ _ _ _ _ hm; exact absurd hm (Nat.not_lt_zero _)
  | succ f ih =>
    intro va vd d hd hdn ha hm
    show ZE P (if p0 < vd then (k va vd) else (zb1 (p_X9_squareOf F vd) (fun r13 => (if ¬ r13 = (1 : Int32) then (p_X9_squareless_L1 F p0 k f (va + (0 : Int32)) (vd + (1 : Int32))) else (p_X9_squareless_L1 F p0 k f (va + (1 : Int32)) (vd + (1 : Int32)))))))
    have e1 := zAddN hd (by omega)
    refine ZE_if (fun c => ?_) (fun c => ?_)
    · rw [Int32.lt_iff_toInt_lt] at c
      have : d = n := by omega
      subst this
      exact hk _ _ ha
    · rw [Int32.lt_iff_toInt_lt] at c
      have hlt : d < n := by omega
      refine ZE_b1 (zSqr9 F vd (d + 1) hF hd (by omega) (by omega)) (fun r1 hr => ?_)
      refine ZE_if (fun c2 => ?_) (fun c2 => ?_)
      · have nd : ¬ nSqr (d + 1) 31 = 1 := fun h => c2 (Int32.toInt_inj.mp (by rw [hr, h]; decide))
        have hs : ((nSql (d + 1) : Nat) : Int) = ((nSql d : Nat) : Int) + 0 := by
          show ((nSql d + (if nSqr (d + 1) 31 = 1 then 1 else 0) : Nat) : Int) = _
          rw [if_neg nd]
          rfl
        exact ih _ _ (d + 1) e1 hlt (zAcc ha zof0 hs) (by omega)
      · have nd : nSqr (d + 1) 31 = 1 := by
          have h := congrArg Int32.toInt (Decidable.not_not.mp c2)
          rw [hr, show (1 : Int32).toInt = 1 from by decide] at h
          omega
        have hs : ((nSql (d + 1) : Nat) : Int) = ((nSql d : Nat) : Int) + ((1 : Nat) : Int) := by
          show ((nSql d + (if nSqr (d + 1) 31 = 1 then 1 else 0) : Nat) : Int) = _
          rw [if_pos nd]
          rfl
        exact ih _ _ (d + 1) e1 hlt (zAcc ha zof1 hs) (by omega)

set_option maxHeartbeats 2000000 in
theorem zSql7L {P : Int32 → Prop} (F : Nat) (p0 : Int32) (n : Nat) (hF : 2000 ≤ F) (hn : p0.toInt = n) (h1 : 1 ≤ n) (h2 : n ≤ 1000) (k : Int32 → Int32 → Option Int32) (hk : ∀ a b : Int32, a = Int32.ofInt (((nSql n : Nat) : Int)) → ZE P (k a b)) : ∀ (f : Nat) (va vd : Int32) (d : Nat), vd.toInt = ((d + 1 : Nat) : Int) → d ≤ n → va = Int32.ofInt (((nSql d : Nat) : Int)) → n + 1 - d < f → ZE P (p_X1_squarelessOneByOne_L0 F p0 k f va vd) := by
  intro f
  induction f with
  | zero => intro _ _ _ _ _ _ hm; exact absurd hm (Nat.not_lt_zero _)
  | succ f ih =>
    intro va vd d hd hdn ha hm
    show ZE P (if p0 < vd then (k va vd) else (zb1 (p_X1_squareOneByOne F vd) (fun r1 => (if ¬ r1 = (1 : Int32) then (p_X1_squarelessOneByOne_L0 F p0 k f (va + (0 : Int32)) (vd + (1 : Int32))) else (p_X1_squarelessOneByOne_L0 F p0 k f (va + (1 : Int32)) (vd + (1 : Int32)))))))
    have e1 := zAddN hd (by omega)
    refine ZE_if (fun c => ?_) (fun c => ?_)
    · rw [Int32.lt_iff_toInt_lt] at c
      have : d = n := by omega
      subst this
      exact hk _ _ ha
    · rw [Int32.lt_iff_toInt_lt] at c
      have hlt : d < n := by omega
      refine ZE_b1 (zSqr7 F vd (d + 1) hF hd (by omega) (by omega)) (fun r1 hr => ?_)
      refine ZE_if (fun c2 => ?_) (fun c2 => ?_)
      · have nd : ¬ nSqr (d + 1) 31 = 1 := fun h => c2 (Int32.toInt_inj.mp (by rw [hr, h]; decide))
        have hs : ((nSql (d + 1) : Nat) : Int) = ((nSql d : Nat) : Int) + 0 := by
          show ((nSql d + (if nSqr (d + 1) 31 = 1 then 1 else 0) : Nat) : Int) = _
          rw [if_neg nd]
          rfl
        exact ih _ _ (d + 1) e1 hlt (zAcc ha zof0 hs) (by omega)
      · have nd : nSqr (d + 1) 31 = 1 := by
          have h := congrArg Int32.toInt (Decidable.not_not.mp c2)
          rw [hr, show (1 : Int32).toInt = 1 from by decide] at h
          omega
        have hs : ((nSql (d + 1) : Nat) : Int) = ((nSql d : Nat) : Int) + ((1 : Nat) : Int) := by
          show ((nSql d + (if nSqr (d + 1) 31 = 1 then 1 else 0) : Nat) : Int) = _
          rw [if_pos nd]
          rfl
        exact ih _ _ (d + 1) e1 hlt (zAcc ha zof1 hs) (by omega)

theorem zSql7 (F : Nat) (p0 : Int32) (n : Nat) (hF : 2000 ≤ F) (hn : p0.toInt = n) (h1 : 1 ≤ n) (h2 : n ≤ 1000) : ZE (fun (r : Int32) => r = Int32.ofInt ((nSql n : Nat) : Int)) (p_X1_squarelessOneByOne F p0) := by
  unfold p_X1_squarelessOneByOne
  exact zSql7L F p0 n hF hn h1 h2 _ (fun a b h => ⟨_, rfl, h⟩) F 0 1 0 (by decide) (by omega) rfl (by omega)

