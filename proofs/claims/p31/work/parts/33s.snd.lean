-- ==================== sums, exchanged
def hS (a : Nat → Int64) : Nat → Int64
  | 0 => 0
  | n + 1 => hS a n + a (n + 1)
theorem hS_congr {a b : Nat → Int64} : ∀ n, (∀ j, 1 ≤ j → j ≤ n → a j = b j) → hS a n = hS b n := by
  intro n
  induction n with
  | zero => intro _; rfl
  | succ n ih =>
    intro h
    show hS a n + a (n + 1) = hS b n + b (n + 1)
    rw [ih (fun j p q => h j p (by omega)), h (n + 1) (by omega) (by omega)]
theorem hS_0 : ∀ n, hS (fun _ => 0) n = 0 := by
  intro n
  induction n with
  | zero => rfl
  | succ n ih =>
    show hS (fun _ => 0) n + 0 = 0
    rw [ih, Int64.add_zero]
theorem hS_add (a b : Nat → Int64) : ∀ n, hS (fun j => a j + b j) n = hS a n + hS b n := by
  intro n
  induction n with
  | zero => rfl
  | succ n ih =>
    show hS (fun j => a j + b j) n + (a (n + 1) + b (n + 1)) = (hS a n + a (n + 1)) + (hS b n + b (n + 1))
    rw [ih, Int64.add_assoc, Int64.add_assoc, ← Int64.add_assoc (hS b n), Int64.add_comm (hS b n) (a (n + 1)), Int64.add_assoc]
theorem hS_mul (c : Int64) (a : Nat → Int64) : ∀ n, hS (fun j => c * a j) n = c * hS a n := by
  intro n
  induction n with
  | zero => exact (Int64.mul_zero).symm
  | succ n ih =>
    show hS (fun j => c * a j) n + c * a (n + 1) = c * (hS a n + a (n + 1))
    rw [ih, Int64.mul_add]
theorem hS_swap (a : Nat → Nat → Int64) (m : Nat) : ∀ n, hS (fun i => hS (fun j => a i j) m) n = hS (fun j => hS (fun i => a i j) n) m := by
  intro n
  induction n with
  | zero => exact (hS_0 m).symm
  | succ n ih =>
    show hS (fun i => hS (fun j => a i j) m) n + hS (fun j => a (n + 1) j) m = hS (fun j => hS (fun i => a i j) n + a (n + 1) j) m
    rw [hS_add, ih]
theorem hS_up {a : Nat → Int64} {n : Nat} : ∀ k, (∀ j, n < j → j ≤ n + k → a j = 0) → hS a (n + k) = hS a n := by
  intro k
  induction k with
  | zero => intro _; rfl
  | succ k ih =>
    intro h
    show hS a (n + k) + a (n + k + 1) = hS a n
    rw [ih (fun j p q => h j p (by omega)), h (n + k + 1) (by omega) (by omega), Int64.add_zero]
theorem hS_one {a : Nat → Int64} {e : Nat} (h1 : 1 ≤ e) : ∀ n, (∀ j, 1 ≤ j → j ≤ n → j ≠ e → a j = 0) → hS a n = if e ≤ n then a e else 0 := by
  intro n
  induction n with
  | zero => intro _; rw [if_neg (by omega)]; rfl
  | succ n ih =>
    intro h
    show hS a n + a (n + 1) = _
    rw [ih (fun j p q r => h j p (by omega) r)]
    by_cases c : e ≤ n
    · rw [if_pos c, if_pos (by omega), h (n + 1) (by omega) (by omega) (by omega), Int64.add_zero]
    · rw [if_neg c, Int64.zero_add]
      by_cases d : e = n + 1
      · rw [if_pos (by omega), d]
      · rw [if_neg (by omega), h (n + 1) (by omega) (by omega) (fun q => d q.symm)]
theorem gAcc_S (T : Nat → Int64 × Bool) (n : Nat) : ∀ d, (gAcc T 1 n d).1 = hS (fun e => if n % e = 0 then (T e).1 else 0) d := by
  intro d
  induction d with
  | zero => rfl
  | succ d ih =>
    show (gAcc T 1 n (d + 1)).1 = hS (fun e => if n % e = 0 then (T e).1 else 0) d + (if n % (d + 1) = 0 then (T (d + 1)).1 else 0)
    by_cases c : n % (d + 1) = 0
    · rw [gAcc_y (by omega) c, if_pos c, ← ih]
    · rw [gAcc_n c, if_neg c, ← ih, Int64.add_zero]
/-- a sum over the divisors of n, taken to 120 -/
theorem gAcc_120 (T : Nat → Int64 × Bool) (n : Nat) (h1 : 1 ≤ n) (h2 : n ≤ 120) : (gAcc T 1 n n).1 = hS (fun e => if n % e = 0 then (T e).1 else 0) 120 := by
  rw [gAcc_S]
  have := hS_up (a := fun e => if n % e = 0 then (T e).1 else 0) (n := n) (120 - n) (fun j p q => by
    show (if n % j = 0 then (T j).1 else 0) = 0
    rw [Nat.mod_eq_of_lt p, if_neg (by omega)])
  rw [show n + (120 - n) = 120 by omega] at this
  exact this.symm
def cMb (m : Nat) : Bool := hS (fun d => if m % d = 0 then sgL d else 0) 120 == (if m = 1 then 1 else 0)
theorem cMbA : (List.range 120).all (fun i => cMb (i + 1)) = true := by decide +kernel
theorem cMbS (m : Nat) (h1 : 1 ≤ m) (h2 : m ≤ 120) : hS (fun d => if m % d = 0 then sgL d else 0) 120 = (if m = 1 then 1 else 0) := by
  have h := List.all_eq_true.mp cMbA (m - 1) (List.mem_range.mpr (by omega))
  rw [show m - 1 + 1 = m by omega] at h
  exact eq_of_beq h
theorem zdd {n d e : Nat} (hd : n % d = 0) : (n / d) % e = 0 ↔ (d * e) ∣ n := by
  have hdn := Nat.dvd_of_mod_eq_zero hd
  obtain ⟨q, rfl⟩ := hdn
  constructor
  · intro h
    by_cases z : d = 0
    · subst z; rw [Nat.zero_mul, Nat.zero_mul]; exact Nat.dvd_refl 0
    · rw [Nat.mul_div_cancel_left q (by omega)] at h
      exact Nat.mul_dvd_mul_left d (Nat.dvd_of_mod_eq_zero h)
  · intro h
    by_cases z : d = 0
    · subst z; rw [Nat.div_zero]; exact Nat.zero_mod e
    · rw [Nat.mul_div_cancel_left q (by omega)]
      exact Nat.mod_eq_zero_of_dvd (Nat.dvd_of_mul_dvd_mul_left (by omega) h)
set_option maxHeartbeats 2000000 in
theorem zMoeb (u w : Nat → Int64) (hw : ∀ m, 1 ≤ m → m ≤ 120 → w m = (sSum u m).1) (n : Nat) (h1 : 1 ≤ n) (h2 : n ≤ 120) : (sSig w n).1 = u n := by
  show (gAcc (tSig w n) 1 n n).1 = u n
  rw [gAcc_120 _ n h1 h2]
  have e1 : hS (fun d => if n % d = 0 then (tSig w n d).1 else 0) 120 = hS (fun d => hS (fun e => if n % d = 0 ∧ (n / d) % e = 0 then sgL d * u e else 0) 120) 120 := by
    refine hS_congr 120 (fun d d1 d2 => ?_)
    by_cases c : n % d = 0
    · rw [if_pos c]
      have hq1 : 1 ≤ n / d := Nat.div_pos (Nat.le_of_dvd h1 (Nat.dvd_of_mod_eq_zero c)) d1
      have hq2 : n / d ≤ 120 := Nat.le_trans (Nat.div_le_self _ _) h2
      show sgL d * w (n / d) = _
      rw [hw _ hq1 hq2]
      show sgL d * (gAcc (tSum u) 1 (n / d) (n / d)).1 = _
      rw [gAcc_120 _ _ hq1 hq2, ← hS_mul]
      refine hS_congr 120 (fun e _ _ => ?_)
      by_cases q : (n / d) % e = 0
      · rw [if_pos q, if_pos ⟨c, q⟩]; rfl
      · rw [if_neg q, if_neg (fun h => q h.2), Int64.mul_zero]
    · rw [if_neg c]
      rw [hS_congr (b := fun _ => 0) 120 (fun e _ _ => if_neg (fun h => c h.1)), hS_0]
  rw [e1, hS_swap (fun d e => if n % d = 0 ∧ (n / d) % e = 0 then sgL d * u e else 0) 120 120]
  have e2 : hS (fun e => hS (fun d => if n % d = 0 ∧ (n / d) % e = 0 then sgL d * u e else 0) 120) 120 = hS (fun e => if e = n then u n else 0) 120 := by
    refine hS_congr 120 (fun e x1 x2 => ?_)
    by_cases c : n % e = 0
    · have hq1 : 1 ≤ n / e := Nat.div_pos (Nat.le_of_dvd h1 (Nat.dvd_of_mod_eq_zero c)) x1
      have hq2 : n / e ≤ 120 := Nat.le_trans (Nat.div_le_self _ _) h2
      have e3 : hS (fun d => if n % d = 0 ∧ (n / d) % e = 0 then sgL d * u e else 0) 120 = hS (fun d => u e * (if (n / e) % d = 0 then sgL d else 0)) 120 := by
        refine hS_congr 120 (fun d d1 d2 => ?_)
        have iff : (n % d = 0 ∧ (n / d) % e = 0) ↔ (n / e) % d = 0 := by
          constructor
          · rintro ⟨p, q⟩
            have := (zdd p).mp q
            rw [Nat.mul_comm] at this
            exact (zdd c).mpr this
          · intro p
            have q := (zdd c).mp p
            have hd : n % d = 0 := Nat.mod_eq_zero_of_dvd (Nat.dvd_trans (Nat.dvd_mul_left d e) q)
            rw [Nat.mul_comm] at q
            exact ⟨hd, (zdd hd).mpr q⟩
        by_cases q : (n / e) % d = 0
        · rw [if_pos (iff.mpr q), if_pos q, Int64.mul_comm]
        · rw [if_neg (fun h => q (iff.mp h)), if_neg q, Int64.mul_zero]
      show hS (fun d => if n % d = 0 ∧ (n / d) % e = 0 then sgL d * u e else 0) 120 = _
      rw [e3, hS_mul, cMbS _ hq1 hq2]
      by_cases q : e = n
      · rw [if_pos q, if_pos (by rw [q]; exact Nat.div_self h1), Int64.mul_one, q]
      · rw [if_neg q, if_neg (fun h => q ?_), Int64.mul_zero]
        have := Nat.div_mul_cancel (Nat.dvd_of_mod_eq_zero c)
        rw [h, Nat.one_mul] at this
        exact this
    · show hS (fun d => if n % d = 0 ∧ (n / d) % e = 0 then sgL d * u e else 0) 120 = _
      rw [if_neg (fun h => c (by rw [h]; exact Nat.mod_self n))]
      rw [hS_congr (b := fun _ => 0) 120 (fun d _ _ => if_neg (fun h => c ?_)), hS_0]
      have := (zdd h.1).mp h.2
      exact Nat.mod_eq_zero_of_dvd (Nat.dvd_trans (Nat.dvd_mul_left e d) this)
  rw [e2, hS_one h1 120 (fun j _ _ q => if_neg q), if_pos h2]
  exact if_pos rfl
set_option maxHeartbeats 2000000 in
theorem zPrS (u w : Nat → Int64) (n : Nat) (h1 : 1 ≤ n) (h2 : n ≤ 120) : (sProd u w n).1 = hS (fun d => hS (fun e => if d * e = n then u d * w e else 0) 120) 120 := by
  show (gAcc (tProd u w n) 1 n n).1 = _
  rw [gAcc_120 _ n h1 h2]
  refine hS_congr 120 (fun d d1 d2 => ?_)
  by_cases c : n % d = 0
  · rw [if_pos c]
    have hq1 : 1 ≤ n / d := Nat.div_pos (Nat.le_of_dvd h1 (Nat.dvd_of_mod_eq_zero c)) d1
    have hq2 : n / d ≤ 120 := Nat.le_trans (Nat.div_le_self _ _) h2
    have hm : d * (n / d) = n := Nat.mul_div_cancel' (Nat.dvd_of_mod_eq_zero c)
    rw [hS_one hq1 120 (fun j _ _ q => if_neg (fun h => q ?_)), if_pos hq2]
    · exact (if_pos hm).symm
    · rw [← h]
      exact (Nat.mul_div_cancel_left j d1).symm
  · rw [if_neg c]
    rw [hS_congr (b := fun _ => 0) 120 (fun e _ _ => if_neg (fun h => c ?_)), hS_0]
    rw [← h]
    exact Nat.mul_mod_right d e
theorem zPrC (u w : Nat → Int64) (n : Nat) (h1 : 1 ≤ n) (h2 : n ≤ 120) : (sProd u w n).1 = (sProd w u n).1 := by
  rw [zPrS u w n h1 h2, zPrS w u n h1 h2, hS_swap (fun d e => if d * e = n then u d * w e else 0) 120 120]
  refine hS_congr 120 (fun e _ _ => hS_congr 120 (fun d _ _ => ?_))
  rw [Nat.mul_comm, Int64.mul_comm]
def cCh (n : Nat) : List Nat → Nat → Bool
  | [], a => a == n
  | q :: r, a => decide (1 ≤ q ∧ Nat.gcd a q = 1 ∧ a * q ≤ 120) && cCh n r (a * q)
theorem cChA : (List.range 120).all (fun i => cCh (i + 1) (nPq (i + 1)) 1) = true := by decide +kernel
theorem zCh (u : Nat → Int64) (hb : gBp false u) (n : Nat) : ∀ (L : List Nat) (a : Nat), 1 ≤ a → cCh n L a = true → gFold u (u a, false) L = (u n, false) := by
  intro L
  induction L with
  | nil =>
    intro a _ h
    have e : a = n := eq_of_beq h
    rw [e]
    rfl
  | cons q r ih =>
    intro a a1 h
    have h' : (decide (1 ≤ q ∧ Nat.gcd a q = 1 ∧ a * q ≤ 120) && cCh n r (a * q)) = true := h
    rw [Bool.and_eq_true, decide_eq_true_eq] at h'
    obtain ⟨⟨q1, q2, q3⟩, h4⟩ := h'
    obtain ⟨g1, g2⟩ := hb.2 a q a1 q1 q3 (Or.inr q2)
    show gFold u (u a * u q, false || !letp (u a) (u q)) r = _
    rw [g1, g2]
    exact ih (a * q) (Nat.mul_pos a1 q1) h4
theorem zPrB (u : Nat → Int64) (hb : gBp false u) (n : Nat) (h1 : 1 ≤ n) (h2 : n ≤ 120) : sPri u n = (u n, false) := by
  have h := List.all_eq_true.mp cChA (n - 1) (List.mem_range.mpr (by omega))
  rw [show n - 1 + 1 = n by omega] at h
  have := zCh u hb n (nPq n) 1 (by omega) h
  rw [hb.1] at this
  exact this
theorem gOr_0 {B : Nat → Bool} : ∀ n, (∀ j, 1 ≤ j → j ≤ n → B j = false) → gOr B n = false := by
  intro n
  induction n with
  | zero => intro _; rfl
  | succ n ih =>
    intro h
    show (gOr B n || B (n + 1)) = false
    rw [ih (fun j p q => h j p (by omega)), h (n + 1) (by omega) (by omega)]
    rfl

-- ==================== it is always sound
set_option maxHeartbeats 4000000 in
theorem zSnd (F : Nat) (R : Nat → Nat → Int64) (pr : Nat → Int32) (tm : Nat → Int32) (cn : Int32) (sm : Nat → Int32) (ac : Int32) (re : Int32) (kn : Int32) (hF : 2000 ≤ F) : ZE (fun (r : (Bool × (Nat → Nat → Int64) × Bool × (Nat → Int32) × (Nat → Int32) × Int32 × (Nat → Int32) × Int32 × Int32 × Int32)) => r.1 = true ∧ (∀ i, i ≤ 3 → r.2.1 i = R i) ∧ r.2.2.2.2.2.2.2 = (ac, re, kn)) (p_X7_isSound F R pr tm cn sm ac re kn) := by
  unfold p_X7_isSound
  rw [show (0 : Int32).toNatClampNeg = 0 from rfl, show (1 : Int32).toNatClampNeg = 1 from rfl]
  refine ZE_b3 (zSu7 F R 0 4 hF (by decide) (R 0) (fun _ _ _ => rfl)) (fun r1 R1 b1 hL => ?_)
  have A1 : ∀ i, i ≤ 3 → R1 i = R i := fun i i3 => hL.1 i (by omega)
  refine ZE_ltn (fun g => ∀ (cR : Nat → Nat → Int64) (cb : Bool) (cpr ctm : Nat → Int32) (ccn : Int32) (csm : Nat → Int32) (cac cre ckn : Int32), (∀ i, i ≤ 3 → cR i = R i) → cac = ac → cre = re → ckn = kn → ZE (fun r => r.1 = true ∧ (∀ i, i ≤ 3 → r.2.1 i = R i) ∧ r.2.2.2.2.2.2.2 = (ac, re, kn)) (g cR cb cpr ctm ccn csm cac cre ckn)) (fun cR cb cpr ctm ccn csm cac cre ckn hA e1 e2 e3 => ?_) (fun jf0 hj0 => ?_)
  · refine ZE_b3 (zPr7 F cR 0 1 4 hF (by decide) (by decide) (R 0) (R 1) (fun j _ _ => by rw [hA 0 (by omega)]) (fun j _ _ => by rw [hA 1 (by omega)])) (fun r5 R6 b6 hP => ?_)
    have A6 : ∀ i, i ≤ 3 → R6 i = R i := fun i i3 => (hP.1 i (by omega)).trans (hA i i3)
    refine ZE_ltn (fun g => ∀ (cR : Nat → Nat → Int64) (cb : Bool) (cpr ctm : Nat → Int32) (ccn : Int32) (csm : Nat → Int32) (cac cre ckn : Int32), (∀ i, i ≤ 3 → cR i = R i) → cac = ac → cre = re → ckn = kn → ZE (fun r => r.1 = true ∧ (∀ i, i ≤ 3 → r.2.1 i = R i) ∧ r.2.2.2.2.2.2.2 = (ac, re, kn)) (g cR cb cpr ctm ccn csm cac cre ckn)) (fun cR cb cpr ctm ccn csm cac cre ckn hA e1 e2 e3 => ?_) (fun jf1 hj1 => ?_)
    · refine ZE_b10 (zBp7 F cR cb cpr ctm ccn csm cac cre ckn 0 false hF (R 0) (fun j _ _ => by rw [hA 0 (by omega)])) (fun r9 a2 a3 a4 a5 a6 a7 a8 a9 a10 h => ?_)
      obtain ⟨hb, h⟩ := h
      dsimp only at hb
      simp only [Prod.mk.injEq] at h
      obtain ⟨rfl, rfl, rfl, rfl, rfl, rfl, rfl, rfl, rfl⟩ := h
      refine ZE_if (fun _ => ⟨_, rfl, rfl, hA, by rw [e1, e2, e3]⟩) (fun c => ?_)
      have hg := hb.mp (zb01 c)
      refine ZE_b6 (zBy7 F a2 a4 a5 a6 0 4 hF (by decide) (R 0) (fun j _ _ => by rw [hA 0 (by omega)])) (fun r20 R2 b2 p2 t2 c2 hQ => ?_)
      have hok : r20 = true := hQ.2.2.trans (by rw [gOr_0 120 (fun j j1 j2 => by rw [zPrB (R 0) hg j j1 j2])]; rfl)
      refine ZE_if (fun q => ?_) (fun _ => ?_)
      · rw [hok] at q
        exact absurd q (by decide)
      · have hR0 : ∀ j, 1 ≤ j → j ≤ 120 → R2 0 j = R 0 j := fun j _ _ => (congrFun (hQ.1 0 (by decide)) j).trans (congrFun (hA 0 (by omega)) j)
        refine ZE_b10 (zFi7 F R2 b2 p2 t2 c2 a7 a8 a9 a10 4 0 hF (R 0) (R 0) (fun j j1 j2 => (hQ.2.1 j j1 j2).trans (congrArg Prod.fst (zPrB (R 0) hg j j1 j2))) hR0) (fun d1 d2 d3 d4 d5 d6 d7 d8 d9 d10 h => ?_)
        simp only [Prod.mk.injEq] at h
        obtain ⟨h0, rfl, rfl, rfl, rfl, rfl, rfl, rfl, rfl, rfl⟩ := h
        refine ZE_if (fun q => ?_) (fun _ => ⟨_, rfl, rfl, fun i i3 => (hQ.1 i (by omega)).trans (hA i i3), by rw [e1, e2, e3]⟩)
        exact absurd (h0.trans (gFst_eq 120 1 (by omega) (by omega) (fun _ _ _ => rfl))) q
    · refine ZE_if (fun _ => hj1 _ _ _ _ _ _ _ _ _ A6 e1 e2 e3) (fun _ => ?_)
      refine ZE_b3 (zPr7 F R6 1 0 5 hF (by decide) (by decide) (R 1) (R 0) (fun j _ _ => by rw [A6 1 (by omega)]) (fun j _ _ => by rw [A6 0 (by omega)])) (fun r38 R39 b39 hP2 => ?_)
      have A9 : ∀ i, i ≤ 3 → R39 i = R i := fun i i3 => (hP2.1 i (by omega)).trans (A6 i i3)
      refine ZE_if (fun _ => hj1 _ _ _ _ _ _ _ _ _ A9 e1 e2 e3) (fun _ => ?_)
      refine ZE_b10 (zFi7 F R39 b39 cpr ctm ccn csm cac cre ckn 5 4 hF (fun j => (sProd (R 1) (R 0) j).1) (fun j => (sProd (R 1) (R 0) j).1) hP2.2.1 (fun j j1 j2 => (congrFun (hP2.1 4 (by decide)) j).trans ((hP.2.1 j j1 j2).trans (zPrC (R 0) (R 1) j j1 j2)))) (fun d1 d2 d3 d4 d5 d6 d7 d8 d9 d10 h => ?_)
      simp only [Prod.mk.injEq] at h
      obtain ⟨h0, rfl, rfl, rfl, rfl, rfl, rfl, rfl, rfl, rfl⟩ := h
      refine ZE_if (fun _ => hj1 _ _ _ _ _ _ _ _ _ A9 e1 e2 e3) (fun q => ?_)
      exact absurd (h0.trans (gFst_eq 120 1 (by omega) (by omega) (fun _ _ _ => rfl))) q
  · refine ZE_if (fun _ => hj0 _ _ _ _ _ _ _ _ _ A1 rfl rfl rfl) (fun _ => ?_)
    refine ZE_b6 (zSg7 F R1 pr tm cn 4 5 hF (by decide) (fun j => (sSum (R 0) j).1) hL.2.1) (fun r53 R2 b2 p2 t2 c2 hQ => ?_)
    have A2 : ∀ i, i ≤ 3 → R2 i = R i := fun i i3 => (hQ.1 i (by omega)).trans (A1 i i3)
    refine ZE_if (fun _ => hj0 _ _ _ _ _ _ _ _ _ A2 rfl rfl rfl) (fun _ => ?_)
    refine ZE_b10 (zFi7 F R2 b2 p2 t2 c2 sm ac re kn 5 0 hF (R 0) (R 0) (fun j j1 j2 => (hQ.2.1 j j1 j2).trans (zMoeb (R 0) _ (fun _ _ _ => rfl) j j1 j2)) (fun j _ _ => by rw [A2 0 (by omega)])) (fun d1 d2 d3 d4 d5 d6 d7 d8 d9 d10 h => ?_)
    simp only [Prod.mk.injEq] at h
    obtain ⟨h0, rfl, rfl, rfl, rfl, rfl, rfl, rfl, rfl, rfl⟩ := h
    refine ZE_if (fun _ => hj0 _ _ _ _ _ _ _ _ _ A2 rfl rfl rfl) (fun q => ?_)
    exact absurd (h0.trans (gFst_eq 120 1 (by omega) (by omega) (fun _ _ _ => rfl))) q
