-- ==================== by signs
def nPhS (n : Nat) : Nat → Int
  | 0 => 0
  | d + 1 => nPhS n d + (if n % (d + 1) = 0 then nSgn (d + 1) * ((n / (d + 1) : Nat) : Int) else 0)
def cSn (n : Nat) : Bool := nPhS n n == ((nPhi n n : Nat) : Int)
theorem cSn_0 : (List.range 100).all (fun i => cSn (0 + i + 1)) = true := by decide +kernel
theorem cSn_1 : (List.range 100).all (fun i => cSn (100 + i + 1)) = true := by decide +kernel
theorem cSn_2 : (List.range 100).all (fun i => cSn (200 + i + 1)) = true := by decide +kernel
theorem cSn_3 : (List.range 100).all (fun i => cSn (300 + i + 1)) = true := by decide +kernel
theorem cSn_4 : (List.range 100).all (fun i => cSn (400 + i + 1)) = true := by decide +kernel
theorem cSn_5 : (List.range 100).all (fun i => cSn (500 + i + 1)) = true := by decide +kernel
theorem cSn_6 : (List.range 100).all (fun i => cSn (600 + i + 1)) = true := by decide +kernel
theorem cSn_7 : (List.range 100).all (fun i => cSn (700 + i + 1)) = true := by decide +kernel
theorem cSn_8 : (List.range 100).all (fun i => cSn (800 + i + 1)) = true := by decide +kernel
theorem cSn_9 : (List.range 99).all (fun i => cSn (900 + i + 1)) = true := by decide +kernel
theorem cSnOf {m lo : Nat} (h : (List.range m).all (fun i => cSn (lo + i + 1)) = true) {n : Nat} (a : lo < n) (b : n ≤ lo + m) : cSn n = true := by
  have := List.all_eq_true.mp h (n - lo - 1) (List.mem_range.mpr (by omega))
  rw [show lo + (n - lo - 1) + 1 = n by omega] at this
  exact this
theorem cSnAll (n : Nat) (h1 : 1 ≤ n) (h3 : n ≤ 999) : cSn n = true := by
  by_cases g0 : n ≤ 100
  · exact cSnOf (lo := 0) cSn_0 (by omega) (by omega)
  by_cases g1 : n ≤ 200
  · exact cSnOf (lo := 100) cSn_1 (by omega) (by omega)
  by_cases g2 : n ≤ 300
  · exact cSnOf (lo := 200) cSn_2 (by omega) (by omega)
  by_cases g3 : n ≤ 400
  · exact cSnOf (lo := 300) cSn_3 (by omega) (by omega)
  by_cases g4 : n ≤ 500
  · exact cSnOf (lo := 400) cSn_4 (by omega) (by omega)
  by_cases g5 : n ≤ 600
  · exact cSnOf (lo := 500) cSn_5 (by omega) (by omega)
  by_cases g6 : n ≤ 700
  · exact cSnOf (lo := 600) cSn_6 (by omega) (by omega)
  by_cases g7 : n ≤ 800
  · exact cSnOf (lo := 700) cSn_7 (by omega) (by omega)
  by_cases g8 : n ≤ 900
  · exact cSnOf (lo := 800) cSn_8 (by omega) (by omega)
  exact cSnOf (lo := 900) cSn_9 (by omega) (by omega)
theorem cPhS (n : Nat) (h1 : 1 ≤ n) (h3 : n ≤ 999) : nPhS n n = ((nPhi n n : Nat) : Int) := eq_of_beq (cSnAll n h1 h3)
set_option maxHeartbeats 2000000 in
theorem zPhiSL {P : (Int32 × (Nat → Int32) × (Nat → Int32) × Int32) → Prop} (F : Nat) (p0 : Int32) (n : Nat) (hF : 2000 ≤ F) (hn : p0.toInt = n) (h1 : 1 ≤ n) (h3 : n ≤ 999) (k : Int32 → Int32 → (Nat → Int32) → (Nat → Int32) → Int32 → Option (Int32 × (Nat → Int32) × (Nat → Int32) × Int32)) (hk : ∀ (a b : Int32) (x y : Nat → Int32) (z : Int32), a = Int32.ofInt (nPhS n n) → ZE P (k a b x y z)) : ∀ (f : Nat) (va vd : Int32) (prL0 tmL0 : Nat → Int32) (cnL0 : Int32) (d : Nat), vd.toInt = ((d + 1 : Nat) : Int) → d ≤ n → va = Int32.ofInt (nPhS n d) → n + 1 - d < f → ZE P (p_X1_phiBySigns_L0 F p0 k f va vd prL0 tmL0 cnL0) := by
  intro f
  induction f with
  | zero => intro _ _ _ _ _ _ _ _ _ hm; exact absurd hm (Nat.not_lt_zero _)
  | succ f ih =>
    intro va vd prL0 tmL0 cnL0 d hd hdn ha hm
    show ZE P (if p0 < vd then (k va vd prL0 tmL0 cnL0) else (zg (vd = 0) (if ¬ (zr p0 vd) = 0 then (p_X1_phiBySigns_L0 F p0 k f va (vd + (1 : Int32)) prL0 tmL0 cnL0) else (zb4 (p_X1_signByPowers F prL0 tmL0 vd) (fun r1 pr_2 tm_3 cn_4 => (zg (vd = 0) (p_X1_phiBySigns_L0 F p0 k f (va + (r1 * (p0 / vd))) (vd + (1 : Int32)) pr_2 tm_3 cn_4)))))))
    have e1 := zAddN hd (by omega)
    refine ZE_if (fun c => ?_) (fun c => ?_)
    · rw [Int32.lt_iff_toInt_lt] at c
      have : d = n := by omega
      subst this
      exact hk _ _ _ _ _ ha
    rw [Int32.lt_iff_toInt_lt] at c
    have hlt : d < n := by omega
    refine ZE_zg (zne0 (by omega)) (ZE_if (fun c2 => ?_) (fun c2 => ?_))
    · have hs : nPhS n (d + 1) = nPhS n d + (if n % (d + 1) = 0 then nSgn (d + 1) * ((n / (d + 1) : Nat) : Int) else 0) := rfl
      rw [if_neg (fun h => c2 ((zDvdN hn hd (by omega)).mpr (Nat.dvd_of_mod_eq_zero h))), Int.add_zero] at hs
      exact ih _ _ _ _ _ (d + 1) e1 hlt (by rw [hs]; exact ha) (by omega)
    · have hs : nPhS n (d + 1) = nPhS n d + (if n % (d + 1) = 0 then nSgn (d + 1) * ((n / (d + 1) : Nat) : Int) else 0) := rfl
      rw [if_pos (Nat.mod_eq_zero_of_dvd ((zDvdN hn hd (by omega)).mp (Decidable.not_not.mp c2)))] at hs
      refine ZE_b4 (zSgnP F prL0 tmL0 vd (d + 1) hF hd (by omega) (by omega)) (fun r1 x y z hr => ?_)
      dsimp only at hr
      rw [cSgn (d + 1) (by omega) (by omega)] at hr
      refine ZE_zg (zne0 (by omega)) ?_
      exact ih _ _ _ _ _ (d + 1) e1 hlt (zAcc ha (zMlc hr (zOf (zDivN hn hd (by omega))) rfl) hs) (by omega)

theorem zPhiS (F : Nat) (pr tm : Nat → Int32) (cn p0 : Int32) (n : Nat) (hF : 2000 ≤ F) (hn : p0.toInt = n) (h1 : 1 ≤ n) (h3 : n ≤ 999) : ZE (fun (r : (Int32 × (Nat → Int32) × (Nat → Int32) × Int32)) => r.1 = Int32.ofInt ((nPhi n n : Nat) : Int)) (p_X1_phiBySigns F pr tm cn p0) := by
  unfold p_X1_phiBySigns
  rw [← (cPhS n h1 h3)]
  exact zPhiSL F p0 n hF hn h1 h3 _ (fun a b x y z h => ⟨_, rfl, h⟩) F 0 1 pr tm cn 0 (by decide) (by omega) rfl (by omega)

