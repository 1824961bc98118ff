def nSub (n : Nat) : Nat → Int
  | 0 => 0
  | d + 1 => nSub n d + (if n % (d + 1) = 0 then nSgn (d + 1) else 0)
def cSn (n : Nat) : Bool := (n == 1 || nSub n (n - 1) == - nSgn n)
theorem cSn_0 : (List.range 100).all (fun i => cSn (0 + i + 1)) = true := by decide +kernel
theorem cSn_1 : (List.range 100).all (fun i => cSn (100 + i + 1)) = true := by decide +kernel
theorem cSn_2 : (List.range 100).all (fun i => cSn (200 + i + 1)) = true := by decide +kernel
theorem cSn_3 : (List.range 100).all (fun i => cSn (300 + i + 1)) = true := by decide +kernel
theorem cSn_4 : (List.range 100).all (fun i => cSn (400 + i + 1)) = true := by decide +kernel
theorem cSn_5 : (List.range 100).all (fun i => cSn (500 + i + 1)) = true := by decide +kernel
theorem cSn_6 : (List.range 100).all (fun i => cSn (600 + i + 1)) = true := by decide +kernel
theorem cSn_7 : (List.range 100).all (fun i => cSn (700 + i + 1)) = true := by decide +kernel
theorem cSn_8 : (List.range 100).all (fun i => cSn (800 + i + 1)) = true := by decide +kernel
theorem cSn_9 : (List.range 99).all (fun i => cSn (900 + i + 1)) = true := by decide +kernel
theorem cSnOf {m lo : Nat} (h : (List.range m).all (fun i => cSn (lo + i + 1)) = true) {n : Nat} (a : lo < n) (b : n ≤ lo + m) : cSn n = true := by
  have := List.all_eq_true.mp h (n - lo - 1) (List.mem_range.mpr (by omega))
  rw [show lo + (n - lo - 1) + 1 = n by omega] at this
  exact this
theorem cSnAll (n : Nat) (h1 : 1 ≤ n) (h3 : n ≤ 999) : cSn n = true := by
  by_cases g0 : n ≤ 100
  · exact cSnOf (lo := 0) cSn_0 (by omega) (by omega)
  by_cases g1 : n ≤ 200
  · exact cSnOf (lo := 100) cSn_1 (by omega) (by omega)
  by_cases g2 : n ≤ 300
  · exact cSnOf (lo := 200) cSn_2 (by omega) (by omega)
  by_cases g3 : n ≤ 400
  · exact cSnOf (lo := 300) cSn_3 (by omega) (by omega)
  by_cases g4 : n ≤ 500
  · exact cSnOf (lo := 400) cSn_4 (by omega) (by omega)
  by_cases g5 : n ≤ 600
  · exact cSnOf (lo := 500) cSn_5 (by omega) (by omega)
  by_cases g6 : n ≤ 700
  · exact cSnOf (lo := 600) cSn_6 (by omega) (by omega)
  by_cases g7 : n ≤ 800
  · exact cSnOf (lo := 700) cSn_7 (by omega) (by omega)
  by_cases g8 : n ≤ 900
  · exact cSnOf (lo := 800) cSn_8 (by omega) (by omega)
  exact cSnOf (lo := 900) cSn_9 (by omega) (by omega)
theorem cSub (n : Nat) (h1 : 1 ≤ n) (h3 : n ≤ 999) : n = 1 ∨ nSub n (n - 1) = - nSgn n := by
  have h := cSnAll n h1 h3
  simp only [cSn, Bool.or_eq_true, beq_iff_eq] at h
  exact h
set_option maxHeartbeats 2000000 in
theorem zSmlL {P : Int32 → Prop} (F : Nat) (sm : Nat → Int32) (p0 : Int32) (n : Nat) (hn : p0.toInt = n) (h1 : 1 ≤ n) (h3 : n ≤ 999) (hsm : ∀ e, 1 ≤ e → e < n → e ∣ n → sm e = Int32.ofInt (nSgn e)) (k : Int32 → Int32 → Option Int32) (hk : ∀ a b : Int32, a = Int32.ofInt (nSub n (n - 1)) → ZE P (k a b)) : ∀ (f : Nat) (va vd : Int32) (d : Nat), vd.toInt = ((d + 1 : Nat) : Int) → d ≤ n - 1 → va = Int32.ofInt (nSub n d) → n + 1 - d < f → ZE P (p_X1_sumOfSmallerDivisors_L0 F sm p0 k f va vd) := by
  intro f
  induction f with
  | zero => intro _ _ _ _ _ _ hm; exact absurd hm (Nat.not_lt_zero _)
  | succ f ih =>
    intro va vd d hd hdn ha hm
    show ZE P (if p0 ≤ vd then (k va vd) else (if (999 : Int32) < vd then (k va vd) else (zg (vd = 0) (if ¬ (zr p0 vd) = 0 then (p_X1_sumOfSmallerDivisors_L0 F sm p0 k f (va + (0 : Int32)) (vd + (1 : Int32))) else (zg (vd < 0 ∨ 1000 ≤ vd.toNatClampNeg) (p_X1_sumOfSmallerDivisors_L0 F sm p0 k f (va + (sm vd.toNatClampNeg)) (vd + (1 : Int32))))))))
    have e1 := zAddN hd (by omega)
    refine ZE_if (fun c => ?_) (fun c => ZE_if (fun c0 => ?_) (fun _ => ?_))
    · rw [Int32.le_iff_toInt_le] at c
      have : d = n - 1 := by omega
      rw [this] at ha
      exact hk _ _ ha
    · rw [Int32.le_iff_toInt_le] at c
      rw [Int32.lt_iff_toInt_lt, show (999 : Int32).toInt = 999 from by decide] at c0
      omega
    · rw [Int32.le_iff_toInt_le] at c
      have hs : nSub n (d + 1) = nSub n d + (if n % (d + 1) = 0 then nSgn (d + 1) else 0) := rfl
      refine ZE_zg (zne0 (by omega)) (ZE_if (fun c2 => ?_) (fun c2 => ?_))
      · rw [if_neg (fun h => c2 ((zDvdN hn hd (by omega)).mpr (Nat.dvd_of_mod_eq_zero h)))] at hs
        exact ih _ _ (d + 1) e1 (by omega) (zAcc ha zof0 hs) (by omega)
      · have dv := (zDvdN hn hd (by omega)).mp (Decidable.not_not.mp c2)
        rw [if_pos (Nat.mod_eq_zero_of_dvd dv)] at hs
        refine ZE_zg (zgi (by omega) (by omega)) ?_
        have ei : vd.toNatClampNeg = d + 1 := by rw [zcl, hd]; rfl
        exact ih _ _ (d + 1) e1 (by omega) (zAcc ha (by rw [ei]; exact hsm (d + 1) (by omega) (by omega) dv) hs) (by omega)
theorem zSml (F : Nat) (sm : Nat → Int32) (p0 : Int32) (n : Nat) (hF : 2000 ≤ F) (hn : p0.toInt = n) (h1 : 2 ≤ n) (h3 : n ≤ 999) (hsm : ∀ e, 1 ≤ e → e < n → e ∣ n → sm e = Int32.ofInt (nSgn e)) : ZE (fun (r : Int32) => -r = Int32.ofInt (nSgn n)) (p_X1_sumOfSmallerDivisors F sm p0) := by
  unfold p_X1_sumOfSmallerDivisors
  refine zSmlL F sm p0 n hn (by omega) h3 hsm _ (fun a b h => ⟨_, rfl, ?_⟩) F 0 1 0 (by decide) (by omega) rfl (by omega)
  rcases (cSub n (by omega) h3) with e | e
  · omega
  · rw [h, ← Int32.ofInt_neg, e, Int.neg_neg]

set_option maxHeartbeats 2000000 in
theorem zSgSL {P : (Int32 × (Nat → Int32)) → Prop} (F : Nat) (p0 : Int32) (n : Nat) (hF : 2000 ≤ F) (hn : p0.toInt = n) (h1 : 1 ≤ n) (h3 : n ≤ 999) (k : Int32 → (Nat → Int32) → Option (Int32 × (Nat → Int32))) (hk : ∀ (a : Int32) (sm : Nat → Int32), sm n = Int32.ofInt (nSgn n) → ZE P (k a sm)) : ∀ (f : Nat) (vd : Int32) (smL0 : Nat → Int32) (d : Nat), vd.toInt = ((d + 1 : Nat) : Int) → d ≤ n → (∀ e, 1 ≤ e → e ≤ d → e ∣ n → smL0 e = Int32.ofInt (nSgn e)) → n + 1 - d < f → ZE P (p_X1_signBySums_L0 F p0 k f vd smL0) := by
  intro f
  induction f with
  | zero => intro _ _ _ _ _ _ hm; exact absurd hm (Nat.not_lt_zero _)
  | succ f ih =>
    intro vd smL0 d hd hdn ha hm
    show ZE P (if p0 < vd then (k vd smL0) else (if (999 : Int32) < vd then (k vd smL0) else (zg (vd = 0) (if ¬ (zr p0 vd) = 0 then (p_X1_signBySums_L0 F p0 k f (vd + (1 : Int32)) smL0) else (if ¬ vd = (1 : Int32) then (zb1 (p_X1_sumOfSmallerDivisors F smL0 vd) (fun r1 => (zg (vd < 0 ∨ 1000 ≤ vd.toNatClampNeg) (p_X1_signBySums_L0 F p0 k f (vd + (1 : Int32)) (upd smL0 vd.toNatClampNeg (-r1)))))) else (zg (vd < 0 ∨ 1000 ≤ vd.toNatClampNeg) (p_X1_signBySums_L0 F p0 k f (vd + (1 : Int32)) (upd smL0 vd.toNatClampNeg (1 : Int32)))))))))
    have e1 := zAddN hd (by omega)
    refine ZE_if (fun c => ?_) (fun c => ZE_if (fun c0 => ?_) (fun _ => ?_))
    · rw [Int32.lt_iff_toInt_lt] at c
      have : d = n := by omega
      subst this
      exact hk _ _ (ha d h1 (Nat.le_refl _) (Nat.dvd_refl _))
    · rw [Int32.lt_iff_toInt_lt] at c
      rw [Int32.lt_iff_toInt_lt, show (999 : Int32).toInt = 999 from by decide] at c0
      omega
    · rw [Int32.lt_iff_toInt_lt] at c
      have hlt : d < n := by omega
      have ei : vd.toNatClampNeg = d + 1 := by rw [zcl, hd]; rfl
      refine ZE_zg (zne0 (by omega)) (ZE_if (fun c2 => ?_) (fun c2 => ?_))
      · have nd : ¬ (d + 1) ∣ n := fun h => c2 ((zDvdN hn hd (by omega)).mpr h)
        refine ih _ _ (d + 1) e1 hlt (fun e a1 a2 a3 => ?_) (by omega)
        rcases Nat.lt_or_ge d e with h | h
        · exact absurd a3 (by rw [show e = d + 1 by omega]; exact nd)
        · exact ha e a1 h a3
      · have dv := (zDvdN hn hd (by omega)).mp (Decidable.not_not.mp c2)
        refine ZE_if (fun c3 => ?_) (fun c3 => ?_)
        · have hd2 : 2 ≤ d + 1 := by
            rcases Nat.lt_or_ge (d + 1) 2 with h | h
            · exact absurd (Int32.toInt_inj.mp (by rw [hd, show d + 1 = 1 by omega]; decide)) c3
            · exact h
          refine ZE_b1 (zSml F smL0 vd (d + 1) hF hd hd2 (by omega) (fun e a1 a2 a3 => ha e a1 (by omega) (Nat.dvd_trans a3 dv))) (fun r1 hr => ?_)
          refine ZE_zg (zgi (by omega) (by omega)) ?_
          refine ih _ _ (d + 1) e1 hlt (fun e a1 a2 a3 => ?_) (by omega)
          rw [ei]
          unfold upd
          by_cases h : e = d + 1
          · rw [if_pos h, hr, h]
          · rw [if_neg h]
            exact ha e a1 (by omega) a3
        · have d0 : d = 0 := by
            have h := congrArg Int32.toInt (Decidable.not_not.mp c3)
            rw [hd, show (1 : Int32).toInt = 1 from by decide] at h
            omega
          refine ZE_zg (zgi (by omega) (by omega)) ?_
          refine ih _ _ (d + 1) e1 hlt (fun e a1 a2 a3 => ?_) (by omega)
          rw [ei]
          unfold upd
          have h : e = d + 1 := by omega
          rw [if_pos h, h, d0]
          decide +kernel
theorem zSgS (F : Nat) (sm : Nat → Int32) (p0 : Int32) (n : Nat) (hF : 2000 ≤ F) (hn : p0.toInt = n) (h1 : 1 ≤ n) (h3 : n ≤ 999) : ZE (fun (r : (Int32 × (Nat → Int32))) => r.1 = Int32.ofInt (nSgn n)) (p_X1_signBySums F sm p0) := by
  unfold p_X1_signBySums
  refine zSgSL F p0 n hF hn h1 h3 _ (fun a s h => ?_) F 1 sm 0 (by decide) (by omega) (fun e a1 a2 => by omega) (by omega)
  rw [if_neg (by rw [Int32.lt_iff_toInt_lt, show (1 : Int32).toInt = 1 from by decide]; omega), if_neg (by rw [Int32.lt_iff_toInt_lt, show (999 : Int32).toInt = 999 from by decide]; omega)]
  refine ZE_zg (zgi (by omega) (by omega)) ⟨_, rfl, ?_⟩
  show s p0.toNatClampNeg = _
  rw [show p0.toNatClampNeg = n by rw [zcl, hn]; rfl]
  exact h

