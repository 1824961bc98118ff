-- ==================== pairs that are apart
def nCp (a : Nat) : Nat → Nat
  | 0 => 0
  | b + 1 => nCp a b + (if Nat.gcd a (b + 1) = 1 then 1 else 0)
def nApt (n : Nat) : Nat → Nat
  | 0 => 0
  | a + 1 => nApt n a + nCp (a + 1) n
theorem nCpP (a : Nat) : ∀ b, nCp a b = nPhi a b := by
  intro b
  induction b with
  | zero => rfl
  | succ b ih =>
    show nCp a b + (if Nat.gcd a (b + 1) = 1 then 1 else 0) = nPhi a b + (if Nat.gcd (b + 1) a = 1 then 1 else 0)
    rw [ih]
    by_cases g : Nat.gcd a (b + 1) = 1
    · have g2 : Nat.gcd (b + 1) a = 1 := (Nat.gcd_comm (b + 1) a).trans g
      rw [if_pos g, if_pos g2]
    · have g2 : ¬ Nat.gcd (b + 1) a = 1 := fun q => g ((Nat.gcd_comm a (b + 1)).trans q)
      rw [if_neg g, if_neg g2]
theorem nAptU (n : Nat) : ∀ d, nApt (n + 1) d = nApt n d + nPhi (n + 1) d := by
  intro d
  induction d with
  | zero => rfl
  | succ d ih =>
    show nApt (n + 1) d + (nCp (d + 1) n + (if Nat.gcd (d + 1) (n + 1) = 1 then 1 else 0)) = nApt n d + nCp (d + 1) n + (nPhi (n + 1) d + (if Nat.gcd (d + 1) (n + 1) = 1 then 1 else 0))
    rw [ih]
    omega
theorem nAptE (n : Nat) : nApt (n + 1) (n + 1) + (if n = 0 then 1 else 0) = nApt n n + 2 * nPhi (n + 1) (n + 1) := by
  rw [nAptU]
  show nApt n n + nCp (n + 1) n + nPhi (n + 1) (n + 1) + (if n = 0 then 1 else 0) = _
  rw [nCpP]
  have e : nPhi (n + 1) (n + 1) = nPhi (n + 1) n + (if n = 0 then 1 else 0) := by
    show nPhi (n + 1) n + (if Nat.gcd (n + 1) (n + 1) = 1 then 1 else 0) = _
    by_cases h : n = 0
    · have g : Nat.gcd (n + 1) (n + 1) = 1 := by rw [Nat.gcd_self]; omega
      rw [if_pos g, if_pos h]
    · have g : ¬ Nat.gcd (n + 1) (n + 1) = 1 := by rw [Nat.gcd_self]; omega
      rw [if_neg g, if_neg h]
  omega
def nSmP : Nat → Nat
  | 0 => 0
  | n + 1 => nSmP n + nPhi (n + 1) (n + 1)
theorem nSmPE : ∀ n, 2 * nSmP (n + 1) = nApt (n + 1) (n + 1) + 1 := by
  intro n
  induction n with
  | zero => rfl
  | succ n ih =>
    have h := nAptE (n + 1)
    rw [if_neg (by omega)] at h
    have g : nSmP (n + 1 + 1) = nSmP (n + 1) + nPhi (n + 1 + 1) (n + 1 + 1) := rfl
    omega
def nApS (n : Nat) : Nat → Int
  | 0 => 0
  | d + 1 => nApS n d + nSgn (d + 1) * ((n / (d + 1) : Nat) : Int) * ((n / (d + 1) : Nat) : Int)
def cAp (n : Nat) : Bool := nApS (n + 1) (n + 1) + (if n = 0 then 1 else 0) == nApS n n + 2 * ((nPhi (n + 1) (n + 1) : Nat) : Int)
theorem cApA : (List.range 120).all cAp = true := by decide +kernel
theorem cApS : ∀ n, n ≤ 120 → nApS n n = ((nApt n n : Nat) : Int) := by
  intro n
  induction n with
  | zero => intro _; rfl
  | succ n ih =>
    intro h
    have a : cAp n = true := List.all_eq_true.mp cApA n (List.mem_range.mpr (by omega))
    have b : nApS (n + 1) (n + 1) + (if n = 0 then 1 else 0) = nApS n n + 2 * ((nPhi (n + 1) (n + 1) : Nat) : Int) := eq_of_beq a
    have c := nAptE n
    rw [ih (by omega)] at b
    by_cases q : n = 0
    · rw [if_pos q] at b c
      omega
    · rw [if_neg q] at b c
      omega

set_option maxHeartbeats 2000000 in
theorem zAptSL {P : (Int32 × (Nat → Int32) × (Nat → Int32) × Int32) → Prop} (F : Nat) (p0 : Int32) (n : Nat) (hF : 2000 ≤ F) (hn : p0.toInt = n) (h1 : 1 ≤ n) (h3 : n ≤ 120) (k : Int32 → Int32 → (Nat → Int32) → (Nat → Int32) → Int32 → Option (Int32 × (Nat → Int32) × (Nat → Int32) × Int32)) (hk : ∀ (a b : Int32) (x y : Nat → Int32) (z : Int32), a = Int32.ofInt (nApS n n) → ZE P (k a b x y z)) : ∀ (f : Nat) (va vd : Int32) (prL0 tmL0 : Nat → Int32) (cnL0 : Int32) (d : Nat), vd.toInt = ((d + 1 : Nat) : Int) → d ≤ n → va = Int32.ofInt (nApS n d) → n + 1 - d < f → ZE P (p_X1_apartBySigns_L0 F p0 k f va vd prL0 tmL0 cnL0) := by
  intro f
  induction f with
  | zero => intro _ _ _ _ _ _ _ _ _ hm; exact absurd hm (Nat.not_lt_zero _)
  | succ f ih =>
    intro va vd prL0 tmL0 cnL0 d hd hdn ha hm
    show ZE P (if p0 < vd then (k va vd prL0 tmL0 cnL0) else (zg (vd = 0) (zb4 (p_X1_signByPowers F prL0 tmL0 vd) (fun r1 pr_2 tm_3 cn_4 => (p_X1_apartBySigns_L0 F p0 k f (va + ((r1 * (p0 / vd)) * (p0 / vd))) (vd + (1 : Int32)) pr_2 tm_3 cn_4)))))
    have e1 := zAddN hd (by omega)
    refine ZE_if (fun c => ?_) (fun c => ?_)
    · rw [Int32.lt_iff_toInt_lt] at c
      have : d = n := by omega
      subst this
      exact hk _ _ _ _ _ ha
    rw [Int32.lt_iff_toInt_lt] at c
    have hlt : d < n := by omega
    refine ZE_zg (zne0 (by omega)) ?_
    refine ZE_b4 (zSgnP F prL0 tmL0 vd (d + 1) hF hd (by omega) (by omega)) (fun r1 x y z hr => ?_)
    dsimp only at hr
    rw [cSgn (d + 1) (by omega) (by omega)] at hr
    have hs : nApS n (d + 1) = nApS n d + nSgn (d + 1) * ((n / (d + 1) : Nat) : Int) * ((n / (d + 1) : Nat) : Int) := rfl
    exact ih _ _ _ _ _ (d + 1) e1 hlt (zAcc ha (zMlc (zMlc hr (zOf (zDivN hn hd (by omega))) rfl) (zOf (zDivN hn hd (by omega))) rfl) hs) (by omega)

theorem zAptS (F : Nat) (pr tm : Nat → Int32) (cn p0 : Int32) (n : Nat) (hF : 2000 ≤ F) (hn : p0.toInt = n) (h1 : 1 ≤ n) (h3 : n ≤ 120) : ZE (fun (r : (Int32 × (Nat → Int32) × (Nat → Int32) × Int32)) => r.1 = Int32.ofInt ((nApt n n : Nat) : Int)) (p_X1_apartBySigns F pr tm cn p0) := by
  unfold p_X1_apartBySigns
  rw [← cApS n h3]
  exact zAptSL F p0 n hF hn h1 h3 _ (fun a b x y z h => ⟨_, rfl, h⟩) F 0 1 pr tm cn 0 (by decide) (by omega) rfl (by omega)

set_option maxHeartbeats 2000000 in
theorem zAptPL {P : (Int32 × (Nat → Int32) × (Nat → Int32) × Int32) → Prop} (F : Nat) (p0 : Int32) (n : Nat) (hF : 2000 ≤ F) (hn : p0.toInt = n) (h1 : 1 ≤ n) (h3 : n ≤ 120) (k : Int32 → Int32 → (Nat → Int32) → (Nat → Int32) → Int32 → Option (Int32 × (Nat → Int32) × (Nat → Int32) × Int32)) (hk : ∀ (a b : Int32) (x y : Nat → Int32) (z : Int32), a = Int32.ofInt (((nSmP n : Nat) : Int)) → ZE P (k a b x y z)) : ∀ (f : Nat) (va vd : Int32) (prL0 tmL0 : Nat → Int32) (cnL0 : Int32) (d : Nat), vd.toInt = ((d + 1 : Nat) : Int) → d ≤ n → va = Int32.ofInt (((nSmP d : Nat) : Int)) → n + 1 - d < f → ZE P (p_X1_apartByPhi_L0 F p0 k f va vd prL0 tmL0 cnL0) := by
  intro f
  induction f with
  | zero => intro _ _ _ _ _ _ _ _ _ hm; exact absurd hm (Nat.not_lt_zero _)
  | succ f ih =>
    intro va vd prL0 tmL0 cnL0 d hd hdn ha hm
    show ZE P (if p0 < vd then (k va vd prL0 tmL0 cnL0) else (zb4 (p_X1_phiByPowers F prL0 tmL0 vd) (fun r1 pr_2 tm_3 cn_4 => (p_X1_apartByPhi_L0 F p0 k f (va + r1) (vd + (1 : Int32)) pr_2 tm_3 cn_4))))
    have e1 := zAddN hd (by omega)
    refine ZE_if (fun c => ?_) (fun c => ?_)
    · rw [Int32.lt_iff_toInt_lt] at c
      have : d = n := by omega
      subst this
      exact hk _ _ _ _ _ ha
    rw [Int32.lt_iff_toInt_lt] at c
    have hlt : d < n := by omega
    refine ZE_b4 (zPhiP F prL0 tmL0 vd (d + 1) hF hd (by omega) (by omega)) (fun r1 x y z hr => ?_)
    dsimp only at hr
    rw [cPhi (d + 1) (by omega) (by omega)] at hr
    have hs : ((nSmP (d + 1) : Nat) : Int) = ((nSmP d : Nat) : Int) + ((nPhi (d + 1) (d + 1) : Nat) : Int) := rfl
    exact ih _ _ _ _ _ (d + 1) e1 hlt (zAcc ha hr hs) (by omega)

theorem zAptP (F : Nat) (pr tm : Nat → Int32) (cn p0 : Int32) (n : Nat) (hF : 2000 ≤ F) (hn : p0.toInt = n) (h1 : 1 ≤ n) (h3 : n ≤ 120) : ZE (fun (r : (Int32 × (Nat → Int32) × (Nat → Int32) × Int32)) => r.1 = Int32.ofInt ((nApt n n : Nat) : Int)) (p_X1_apartByPhi F pr tm cn p0) := by
  unfold p_X1_apartByPhi
  refine zAptPL F p0 n hF hn h1 h3 _ (fun a b x y z h => ⟨_, rfl, ?_⟩) F 0 1 pr tm cn 0 (by decide) (by omega) rfl (by omega)
  show (2 : Int32) * a - (1 : Int32) = _
  have e : 2 * nSmP n = nApt n n + 1 := by
    rcases n with _ | m
    · omega
    · exact nSmPE m
  rw [h, zof2, zof1, ← Int32.ofInt_mul, ← Int32.ofInt_sub]
  congr 1
  omega

set_option maxHeartbeats 2000000 in
theorem zApt9I {P : (Int32 × Int32) → Prop} (F : Nat) (p0 v4_2 : Int32) (n m : Nat) (hF : 2000 ≤ F) (hn : p0.toInt = n) (h1 : 1 ≤ n) (h2 : n ≤ 120) (hm0 : v4_2.toInt = m) (hm1 : 1 ≤ m) (hm2 : m ≤ 120) (s : Int) (k : Int32 → Int32 → Option (Int32 × Int32)) (hk : ∀ a b : Int32, a = Int32.ofInt (s + ((nCp m n : Nat) : Int)) → ZE P (k a b)) : ∀ (f : Nat) (va vd : Int32) (d : Nat), vd.toInt = ((d + 1 : Nat) : Int) → d ≤ n → va = Int32.ofInt (s + ((nCp m d : Nat) : Int)) → n + 1 - d < f → ZE P (p_X9_apart_L3 F p0 v4_2 k f va vd) := by
  intro f
  induction f with
  | zero => intro _ _ _ _ _ _ hm; exact absurd hm (Nat.not_lt_zero _)
  | succ f ih =>
    intro va vd d hd hdn ha hm
    show ZE P (if p0 < vd then (k va vd) else (zb1 (p_X9_common F v4_2 vd) (fun r13 => (if ¬ r13 = (1 : Int32) then (p_X9_apart_L3 F p0 v4_2 k f (va + (0 : Int32)) (vd + (1 : Int32))) else (p_X9_apart_L3 F p0 v4_2 k f (va + (1 : Int32)) (vd + (1 : Int32)))))))
    have e1 := zAddN hd (by omega)
    refine ZE_if (fun c => ?_) (fun c => ?_)
    · rw [Int32.lt_iff_toInt_lt] at c
      have : d = n := by omega
      subst this
      exact hk _ _ ha
    · rw [Int32.lt_iff_toInt_lt] at c
      have hlt : d < n := by omega
      refine ZE_b1 (zGcd9 F v4_2 vd m (d + 1) hF hm0 hd hm1 (by omega) (by omega) (by omega)) (fun r1 hr => ?_)
      refine ZE_if (fun c2 => ?_) (fun c2 => ?_)
      · have nd : ¬ Nat.gcd m (d + 1) = 1 := fun h => c2 (Int32.toInt_inj.mp (by rw [hr, h]; decide))
        have hs : s + ((nCp m (d + 1) : Nat) : Int) = (s + ((nCp m d : Nat) : Int)) + 0 := by
          show s + ((nCp m d + (if Nat.gcd m (d + 1) = 1 then 1 else 0) : Nat) : Int) = _
          rw [if_neg nd]
          omega
        exact ih _ _ (d + 1) e1 hlt (zAcc ha zof0 hs) (by omega)
      · have nd : Nat.gcd m (d + 1) = 1 := by
          have h := congrArg Int32.toInt (Decidable.not_not.mp c2)
          rw [hr, show (1 : Int32).toInt = 1 from by decide] at h
          omega
        have hs : s + ((nCp m (d + 1) : Nat) : Int) = (s + ((nCp m d : Nat) : Int)) + 1 := by
          show s + ((nCp m d + (if Nat.gcd m (d + 1) = 1 then 1 else 0) : Nat) : Int) = _
          rw [if_pos nd]
          omega
        exact ih _ _ (d + 1) e1 hlt (zAcc ha zof1 hs) (by omega)

set_option maxHeartbeats 2000000 in
theorem zApt9L {P : (Int32 × Int32) → Prop} (F : Nat) (p0 : Int32) (n : Nat) (hF : 2000 ≤ F) (hn : p0.toInt = n) (h1 : 1 ≤ n) (h2 : n ≤ 120) (k : Int32 → Int32 → Option (Int32 × Int32)) (hk : ∀ a b : Int32, a = Int32.ofInt ((nApt n n : Nat) : Int) → ZE P (k a b)) : ∀ (f : Nat) (va vd : Int32) (d : Nat), vd.toInt = ((d + 1 : Nat) : Int) → d ≤ n → va = Int32.ofInt ((nApt n d : Nat) : Int) → n + 1 - d < f → ZE P (p_X9_apart_L2 F p0 k f va vd) := by
  intro f
  induction f with
  | zero => intro _ _ _ _ _ _ hm; exact absurd hm (Nat.not_lt_zero _)
  | succ f ih =>
    intro va vd d hd hdn ha hm
    show ZE P (if p0 < vd then (k va vd) else (p_X9_apart_L3 F p0 vd (fun v3_3 v5_3 => (p_X9_apart_L2 F p0 k f v3_3 (vd + (1 : Int32)))) F va (1 : Int32)))
    have e1 := zAddN hd (by omega)
    refine ZE_if (fun c => ?_) (fun c => ?_)
    · rw [Int32.lt_iff_toInt_lt] at c
      have : d = n := by omega
      subst this
      exact hk _ _ ha
    · rw [Int32.lt_iff_toInt_lt] at c
      have hlt : d < n := by omega
      refine zApt9I F p0 vd n (d + 1) hF hn h1 h2 hd (by omega) (by omega) ((nApt n d : Nat) : Int) _ (fun vb ve hb => ?_) F va 1 0 (by decide) (by omega) ?_ (by omega)
      · exact ih _ _ (d + 1) e1 hlt (by rw [hb]; rfl) (by omega)
      · rw [ha]
        rfl

set_option maxHeartbeats 2000000 in
theorem zApt7I {P : Int32 → Prop} (F : Nat) (p0 v3_0 : Int32) (n m : Nat) (hF : 2000 ≤ F) (hn : p0.toInt = n) (h1 : 1 ≤ n) (h2 : n ≤ 120) (hm0 : v3_0.toInt = m) (hm1 : 1 ≤ m) (hm2 : m ≤ 120) (s : Int) (k : Int32 → Int32 → Option Int32) (hk : ∀ a b : Int32, a = Int32.ofInt (s + ((nCp m n : Nat) : Int)) → ZE P (k a b)) : ∀ (f : Nat) (va vd : Int32) (d : Nat), vd.toInt = ((d + 1 : Nat) : Int) → d ≤ n → va = Int32.ofInt (s + ((nCp m d : Nat) : Int)) → n + 1 - d < f → ZE P (p_X1_apartOneByOne_L1 F p0 v3_0 k f va vd) := by
  intro f
  induction f with
  | zero => intro _ _ _ _ _ _ hm; exact absurd hm (Nat.not_lt_zero _)
  | succ f ih =>
    intro va vd d hd hdn ha hm
    show ZE P (if p0 < vd then (k va vd) else (zb1 (p_X1_commonOf F v3_0 vd) (fun r1 => (if ¬ r1 = (1 : Int32) then (p_X1_apartOneByOne_L1 F p0 v3_0 k f (va + (0 : Int32)) (vd + (1 : Int32))) else (p_X1_apartOneByOne_L1 F p0 v3_0 k f (va + (1 : Int32)) (vd + (1 : Int32)))))))
    have e1 := zAddN hd (by omega)
    refine ZE_if (fun c => ?_) (fun c => ?_)
    · rw [Int32.lt_iff_toInt_lt] at c
      have : d = n := by omega
      subst this
      exact hk _ _ ha
    · rw [Int32.lt_iff_toInt_lt] at c
      have hlt : d < n := by omega
      refine ZE_b1 (zGcd7 F v3_0 vd m (d + 1) hF hm0 hd (by omega) (by omega)) (fun r1 hr => ?_)
      refine ZE_if (fun c2 => ?_) (fun c2 => ?_)
      · have nd : ¬ Nat.gcd m (d + 1) = 1 := fun h => c2 (Int32.toInt_inj.mp (by rw [hr, h]; decide))
        have hs : s + ((nCp m (d + 1) : Nat) : Int) = (s + ((nCp m d : Nat) : Int)) + 0 := by
          show s + ((nCp m d + (if Nat.gcd m (d + 1) = 1 then 1 else 0) : Nat) : Int) = _
          rw [if_neg nd]
          omega
        exact ih _ _ (d + 1) e1 hlt (zAcc ha zof0 hs) (by omega)
      · have nd : Nat.gcd m (d + 1) = 1 := by
          have h := congrArg Int32.toInt (Decidable.not_not.mp c2)
          rw [hr, show (1 : Int32).toInt = 1 from by decide] at h
          omega
        have hs : s + ((nCp m (d + 1) : Nat) : Int) = (s + ((nCp m d : Nat) : Int)) + 1 := by
          show s + ((nCp m d + (if Nat.gcd m (d + 1) = 1 then 1 else 0) : Nat) : Int) = _
          rw [if_pos nd]
          omega
        exact ih _ _ (d + 1) e1 hlt (zAcc ha zof1 hs) (by omega)

set_option maxHeartbeats 2000000 in
theorem zApt7L {P : Int32 → Prop} (F : Nat) (p0 : Int32) (n : Nat) (hF : 2000 ≤ F) (hn : p0.toInt = n) (h1 : 1 ≤ n) (h2 : n ≤ 120) (k : Int32 → Int32 → Option Int32) (hk : ∀ a b : Int32, a = Int32.ofInt ((nApt n n : Nat) : Int) → ZE P (k a b)) : ∀ (f : Nat) (va vd : Int32) (d : Nat), vd.toInt = ((d + 1 : Nat) : Int) → d ≤ n → va = Int32.ofInt ((nApt n d : Nat) : Int) → n + 1 - d < f → ZE P (p_X1_apartOneByOne_L0 F p0 k f va vd) := by
  intro f
  induction f with
  | zero => intro _ _ _ _ _ _ hm; exact absurd hm (Nat.not_lt_zero _)
  | succ f ih =>
    intro va vd d hd hdn ha hm
    show ZE P (if p0 < vd then (k va vd) else (p_X1_apartOneByOne_L1 F p0 vd (fun v2_1 v4_1 => (p_X1_apartOneByOne_L0 F p0 k f v2_1 (vd + (1 : Int32)))) F va (1 : Int32)))
    have e1 := zAddN hd (by omega)
    refine ZE_if (fun c => ?_) (fun c => ?_)
    · rw [Int32.lt_iff_toInt_lt] at c
      have : d = n := by omega
      subst this
      exact hk _ _ ha
    · rw [Int32.lt_iff_toInt_lt] at c
      have hlt : d < n := by omega
      refine zApt7I F p0 vd n (d + 1) hF hn h1 h2 hd (by omega) (by omega) ((nApt n d : Nat) : Int) _ (fun vb ve hb => ?_) F va 1 0 (by decide) (by omega) ?_ (by omega)
      · exact ih _ _ (d + 1) e1 hlt (by rw [hb]; rfl) (by omega)
      · rw [ha]
        rfl

theorem zApt7 (F : Nat) (p0 : Int32) (n : Nat) (hF : 2000 ≤ F) (hn : p0.toInt = n) (h1 : 1 ≤ n) (h2 : n ≤ 120) : ZE (fun (r : Int32) => r = Int32.ofInt ((nApt n n : Nat) : Int)) (p_X1_apartOneByOne F p0) := by
  unfold p_X1_apartOneByOne
  exact zApt7L F p0 n hF hn h1 h2 _ (fun a b h => ⟨_, rfl, h⟩) F 0 1 0 (by decide) (by omega) rfl (by omega)
