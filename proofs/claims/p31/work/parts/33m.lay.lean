-- ==================== what the class lays: the inner loops
set_option maxHeartbeats 2000000 in
theorem zPrL1 {P : (Bool × (Nat → Nat → Int64) × Bool) → Prop} (F : Nat) (p0 : Nat) (p1 : Nat) (v4_0 : Int32) (RL0 : Nat → Nat → Int64) (n : Nat) (hF : 2000 ≤ F) (hn : v4_0.toInt = n) (h1 : 1 ≤ n) (h2 : n ≤ 120) (u w : Nat → Int64) (hfu : ∀ j, 1 ≤ j → j ≤ 120 → RL0 p0 j = u j) (hfw : ∀ j, 1 ≤ j → j ≤ 120 → RL0 p1 j = w j) (b0 : Bool) (k : Int64 → Int32 → Bool → Option (Bool × (Nat → Nat → Int64) × Bool)) (hk : ∀ (va : Int64) (vd : Int32) (bb : Bool), va = (gAcc (tProd u w n) 1 n n).1 → bb = (b0 || (gAcc (tProd u w n) 1 n n).2) → ZE P (k va vd bb)) : ∀ (f : Nat) (va : Int64) (vd : Int32) (bb : Bool) (d : Nat), vd.toInt = ((d + 1 : Nat) : Int) → d ≤ n → 1 ≤ d + 1 → va = (gAcc (tProd u w n) 1 n d).1 → bb = (b0 || (gAcc (tProd u w n) 1 n d).2) → n + 1 - d < f → ZE P (p_X0_layProduct_L1 F p0 p1 v4_0 RL0 k f va vd bb) := by
  intro f
  induction f with
  | zero => intros; rename_i hm; exact absurd hm (Nat.not_lt_zero _)
  | succ f ih =>
    intro va vd bb d hd hdn hlo ha hb hm
    subst ha
    subst hb
    generalize hva : (gAcc (tProd u w n) 1 n d).1 = va
    generalize hvb : (gAcc (tProd u w n) 1 n d).2 = vb
    show ZE P (if v4_0 < vd then (k va vd (b0 || vb)) else (zg (vd = 0) (if ¬ (zr v4_0 vd) = 0 then (p_X0_layProduct_L1 F p0 p1 v4_0 RL0 k f va (vd + (1 : Int32)) (b0 || vb)) else (zb1 (p_X4_at RL0 p0 vd) (fun r7 => (zg (vd = 0) (zb1 (p_X4_at RL0 p1 (v4_0 / vd)) (fun r9 => (zb2 (p_X3_times (b0 || vb) r7 r9) (fun r11 b_12 => (zb2 (p_X3_plus b_12 va r11) (fun r14 b_15 => (p_X0_layProduct_L1 F p0 p1 v4_0 RL0 k f r14 (vd + (1 : Int32)) b_15)))))))))))))
    have e1 := zAddN hd (by omega)
    refine ZE_if (fun c => ?_) (fun c => ?_)
    · rw [Int32.lt_iff_toInt_lt] at c
      have : d = n := by omega
      subst this
      exact hk _ _ _ hva.symm (by rw [hvb])
    · rw [Int32.lt_iff_toInt_lt] at c
      have hlt : d < n := by omega
      have hq1 : 1 ≤ n / (d + 1) := Nat.div_pos hlt (by omega)
      have hq2 : n / (d + 1) ≤ 120 := Nat.le_trans (Nat.div_le_self _ _) h2
      refine ZE_zg (zne0 (by omega)) (ZE_if (fun c2 => ?_) (fun c2 => ?_))
      · have nd : ¬ n % (d + 1) = 0 := fun h => c2 ((zDvdN hn hd (by omega)).mpr (Nat.dvd_of_mod_eq_zero h))
        have hs := gAcc_n (T := tProd u w n) (lo := 1) nd
        exact ih _ _ _ (d + 1) e1 hlt (by omega) (by rw [hs, hva]) (by rw [hs, hvb]) (by omega)
      · have nd : n % (d + 1) = 0 := Nat.mod_eq_zero_of_dvd ((zDvdN hn hd (by omega)).mp (Decidable.not_not.mp c2))
        have hs := gAcc_y (T := tProd u w n) (lo := 1) (by omega) nd
        rw [hva, hvb] at hs
        refine ZE_b1e (zAt7 RL0 p0 hd (by omega) (by omega)) ?_
        refine ZE_zg (zne0 (by omega)) ?_
        refine ZE_b1e (zAt7 RL0 p1 (zDivN hn hd (by omega)) hq1 hq2) ?_
        rw [hfu (d + 1) (by omega) (by omega), hfw (n / (d + 1)) hq1 hq2]
        refine ZE_b2e (zTi7 _ _ _) (ZE_b2e (zPl7 _ _ _) ?_)
        exact ih _ _ _ (d + 1) e1 hlt (by omega) (congrArg Prod.fst hs).symm ((zor4 _ _ _ _).trans (congrArg (fun s => b0 || s.2) hs).symm) (by omega)

set_option maxHeartbeats 2000000 in
theorem zInL1 {P : (Bool × (Nat → Nat → Int64) × Bool) → Prop} (F : Nat) (p0 : Nat) (p1 : Nat) (v3_0 : Int32) (RL0 : Nat → Nat → Int64) (n : Nat) (hF : 2000 ≤ F) (hn : v3_0.toInt = n) (h1 : 1 ≤ n) (h2 : n ≤ 120) (u w : Nat → Int64) (hfu : ∀ j, 1 ≤ j → j ≤ 120 → RL0 p0 j = u j) (hfw : ∀ j, 1 ≤ j → j < n → RL0 p1 j = w j) (b0 : Bool) (k : Int64 → Int32 → Bool → Option (Bool × (Nat → Nat → Int64) × Bool)) (hk : ∀ (va : Int64) (vd : Int32) (bb : Bool), va = (gAcc (tProd u w n) 2 n n).1 → bb = (b0 || (gAcc (tProd u w n) 2 n n).2) → ZE P (k va vd bb)) : ∀ (f : Nat) (va : Int64) (vd : Int32) (bb : Bool) (d : Nat), vd.toInt = ((d + 1 : Nat) : Int) → d ≤ n → 2 ≤ d + 1 → va = (gAcc (tProd u w n) 2 n d).1 → bb = (b0 || (gAcc (tProd u w n) 2 n d).2) → n + 1 - d < f → ZE P (p_X0_layInverse_L1 F p0 p1 v3_0 RL0 k f va vd bb) := by
  intro f
  induction f with
  | zero => intros; rename_i hm; exact absurd hm (Nat.not_lt_zero _)
  | succ f ih =>
    intro va vd bb d hd hdn hlo ha hb hm
    subst ha
    subst hb
    generalize hva : (gAcc (tProd u w n) 2 n d).1 = va
    generalize hvb : (gAcc (tProd u w n) 2 n d).2 = vb
    show ZE P (if v3_0 < vd then (k va vd (b0 || vb)) else (zg (vd = 0) (if ¬ (zr v3_0 vd) = 0 then (p_X0_layInverse_L1 F p0 p1 v3_0 RL0 k f va (vd + (1 : Int32)) (b0 || vb)) else (zb1 (p_X4_at RL0 p0 vd) (fun r18 => (zg (vd = 0) (zb1 (p_X4_at RL0 p1 (v3_0 / vd)) (fun r20 => (zb2 (p_X3_times (b0 || vb) r18 r20) (fun r22 b_23 => (zb2 (p_X3_plus b_23 va r22) (fun r25 b_26 => (p_X0_layInverse_L1 F p0 p1 v3_0 RL0 k f r25 (vd + (1 : Int32)) b_26)))))))))))))
    have e1 := zAddN hd (by omega)
    refine ZE_if (fun c => ?_) (fun c => ?_)
    · rw [Int32.lt_iff_toInt_lt] at c
      have : d = n := by omega
      subst this
      exact hk _ _ _ hva.symm (by rw [hvb])
    · rw [Int32.lt_iff_toInt_lt] at c
      have hlt : d < n := by omega
      have hq1 : 1 ≤ n / (d + 1) := Nat.div_pos hlt (by omega)
      have hq2 : n / (d + 1) ≤ 120 := Nat.le_trans (Nat.div_le_self _ _) h2
      refine ZE_zg (zne0 (by omega)) (ZE_if (fun c2 => ?_) (fun c2 => ?_))
      · have nd : ¬ n % (d + 1) = 0 := fun h => c2 ((zDvdN hn hd (by omega)).mpr (Nat.dvd_of_mod_eq_zero h))
        have hs := gAcc_n (T := tProd u w n) (lo := 2) nd
        exact ih _ _ _ (d + 1) e1 hlt (by omega) (by rw [hs, hva]) (by rw [hs, hvb]) (by omega)
      · have nd : n % (d + 1) = 0 := Nat.mod_eq_zero_of_dvd ((zDvdN hn hd (by omega)).mp (Decidable.not_not.mp c2))
        have hs := gAcc_y (T := tProd u w n) (lo := 2) (by omega) nd
        rw [hva, hvb] at hs
        refine ZE_b1e (zAt7 RL0 p0 hd (by omega) (by omega)) ?_
        refine ZE_zg (zne0 (by omega)) ?_
        refine ZE_b1e (zAt7 RL0 p1 (zDivN hn hd (by omega)) hq1 hq2) ?_
        rw [hfu (d + 1) (by omega) (by omega), hfw (n / (d + 1)) hq1 (Nat.div_lt_self h1 (by omega))]
        refine ZE_b2e (zTi7 _ _ _) (ZE_b2e (zPl7 _ _ _) ?_)
        exact ih _ _ _ (d + 1) e1 hlt (by omega) (congrArg Prod.fst hs).symm ((zor4 _ _ _ _).trans (congrArg (fun s => b0 || s.2) hs).symm) (by omega)

set_option maxHeartbeats 2000000 in
theorem zSuL1 {P : (Bool × (Nat → Nat → Int64) × Bool) → Prop} (F : Nat) (p0 : Nat) (v3_0 : Int32) (RL0 : Nat → Nat → Int64) (n : Nat) (hF : 2000 ≤ F) (hn : v3_0.toInt = n) (h1 : 1 ≤ n) (h2 : n ≤ 120) (u : Nat → Int64) (hfu : ∀ j, 1 ≤ j → j ≤ 120 → RL0 p0 j = u j) (b0 : Bool) (k : Int64 → Int32 → Bool → Option (Bool × (Nat → Nat → Int64) × Bool)) (hk : ∀ (va : Int64) (vd : Int32) (bb : Bool), va = (gAcc (tSum u) 1 n n).1 → bb = (b0 || (gAcc (tSum u) 1 n n).2) → ZE P (k va vd bb)) : ∀ (f : Nat) (va : Int64) (vd : Int32) (bb : Bool) (d : Nat), vd.toInt = ((d + 1 : Nat) : Int) → d ≤ n → 1 ≤ d + 1 → va = (gAcc (tSum u) 1 n d).1 → bb = (b0 || (gAcc (tSum u) 1 n d).2) → n + 1 - d < f → ZE P (p_X0_laySummed_L1 F p0 v3_0 RL0 k f va vd bb) := by
  intro f
  induction f with
  | zero => intros; rename_i hm; exact absurd hm (Nat.not_lt_zero _)
  | succ f ih =>
    intro va vd bb d hd hdn hlo ha hb hm
    subst ha
    subst hb
    generalize hva : (gAcc (tSum u) 1 n d).1 = va
    generalize hvb : (gAcc (tSum u) 1 n d).2 = vb
    show ZE P (if v3_0 < vd then (k va vd (b0 || vb)) else (zg (vd = 0) (if ¬ (zr v3_0 vd) = 0 then (p_X0_laySummed_L1 F p0 v3_0 RL0 k f va (vd + (1 : Int32)) (b0 || vb)) else (zb1 (p_X4_at RL0 p0 vd) (fun r7 => (zb2 (p_X3_plus (b0 || vb) va r7) (fun r9 b_10 => (p_X0_laySummed_L1 F p0 v3_0 RL0 k f r9 (vd + (1 : Int32)) b_10))))))))
    have e1 := zAddN hd (by omega)
    refine ZE_if (fun c => ?_) (fun c => ?_)
    · rw [Int32.lt_iff_toInt_lt] at c
      have : d = n := by omega
      subst this
      exact hk _ _ _ hva.symm (by rw [hvb])
    · rw [Int32.lt_iff_toInt_lt] at c
      have hlt : d < n := by omega
      have hq1 : 1 ≤ n / (d + 1) := Nat.div_pos hlt (by omega)
      have hq2 : n / (d + 1) ≤ 120 := Nat.le_trans (Nat.div_le_self _ _) h2
      refine ZE_zg (zne0 (by omega)) (ZE_if (fun c2 => ?_) (fun c2 => ?_))
      · have nd : ¬ n % (d + 1) = 0 := fun h => c2 ((zDvdN hn hd (by omega)).mpr (Nat.dvd_of_mod_eq_zero h))
        have hs := gAcc_n (T := tSum u) (lo := 1) nd
        exact ih _ _ _ (d + 1) e1 hlt (by omega) (by rw [hs, hva]) (by rw [hs, hvb]) (by omega)
      · have nd : n % (d + 1) = 0 := Nat.mod_eq_zero_of_dvd ((zDvdN hn hd (by omega)).mp (Decidable.not_not.mp c2))
        have hs := gAcc_y (T := tSum u) (lo := 1) (by omega) nd
        rw [hva, hvb] at hs
        refine ZE_b1e (zAt7 RL0 p0 hd (by omega) (by omega)) ?_
        rw [hfu (d + 1) (by omega) (by omega)]
        refine ZE_b2e (zPl7 _ _ _) ?_
        exact ih _ _ _ (d + 1) e1 hlt (by omega) (congrArg Prod.fst hs).symm ((zor3 _ _ _).trans (congrArg (fun s => b0 || s.2) hs).symm) (by omega)

set_option maxHeartbeats 2000000 in
theorem zSiL0 {P : (Int64 × Bool × (Nat → Int32) × (Nat → Int32) × Int32) → Prop} (F : Nat) (R : Nat → Nat → Int64) (p0 : Nat) (p1 : Int32) (n : Nat) (hF : 2000 ≤ F) (hn : p1.toInt = n) (h1 : 1 ≤ n) (h2 : n ≤ 120) (u : Nat → Int64) (hfu : ∀ j, 1 ≤ j → j ≤ 120 → R p0 j = u j) (b0 : Bool) (k : Int64 → Int32 → Bool → (Nat → Int32) → (Nat → Int32) → Int32 → Option (Int64 × Bool × (Nat → Int32) × (Nat → Int32) × Int32)) (hk : ∀ (va : Int64) (vd : Int32) (bb : Bool) (prL0 tmL0 : Nat → Int32) (cnL0 : Int32), va = (gAcc (tSig u n) 1 n n).1 → bb = (b0 || (gAcc (tSig u n) 1 n n).2) → ZE P (k va vd bb prL0 tmL0 cnL0)) : ∀ (f : Nat) (va : Int64) (vd : Int32) (bb : Bool) (prL0 tmL0 : Nat → Int32) (cnL0 : Int32) (d : Nat), vd.toInt = ((d + 1 : Nat) : Int) → d ≤ n → 1 ≤ d + 1 → va = (gAcc (tSig u n) 1 n d).1 → bb = (b0 || (gAcc (tSig u n) 1 n d).2) → n + 1 - d < f → ZE P (p_X0_signedAt_L0 F R p0 p1 k f va vd bb prL0 tmL0 cnL0) := by
  intro f
  induction f with
  | zero => intros; rename_i hm; exact absurd hm (Nat.not_lt_zero _)
  | succ f ih =>
    intro va vd bb prL0 tmL0 cnL0 d hd hdn hlo ha hb hm
    subst ha
    subst hb
    generalize hva : (gAcc (tSig u n) 1 n d).1 = va
    generalize hvb : (gAcc (tSig u n) 1 n d).2 = vb
    show ZE P (if p1 < vd then (k va vd (b0 || vb) prL0 tmL0 cnL0) else (zg (vd = 0) (if ¬ (zr p1 vd) = 0 then (p_X0_signedAt_L0 F R p0 p1 k f va (vd + (1 : Int32)) (b0 || vb) prL0 tmL0 cnL0) else (zb4 (p_X1_signByPowers F prL0 tmL0 vd) (fun r1 pr_2 tm_3 cn_4 => (zg (vd = 0) (zb1 (p_X4_at R p0 (p1 / vd)) (fun r6 => (zb2 (p_X3_times (b0 || vb) (r1.toInt64) r6) (fun r8 b_9 => (zb2 (p_X3_plus b_9 va r8) (fun r11 b_12 => (p_X0_signedAt_L0 F R p0 p1 k f r11 (vd + (1 : Int32)) b_12 pr_2 tm_3 cn_4)))))))))))))
    have e1 := zAddN hd (by omega)
    refine ZE_if (fun c => ?_) (fun c => ?_)
    · rw [Int32.lt_iff_toInt_lt] at c
      have : d = n := by omega
      subst this
      exact hk _ _ _ _ _ _ hva.symm (by rw [hvb])
    · rw [Int32.lt_iff_toInt_lt] at c
      have hlt : d < n := by omega
      have hq1 : 1 ≤ n / (d + 1) := Nat.div_pos hlt (by omega)
      have hq2 : n / (d + 1) ≤ 120 := Nat.le_trans (Nat.div_le_self _ _) h2
      refine ZE_zg (zne0 (by omega)) (ZE_if (fun c2 => ?_) (fun c2 => ?_))
      · have nd : ¬ n % (d + 1) = 0 := fun h => c2 ((zDvdN hn hd (by omega)).mpr (Nat.dvd_of_mod_eq_zero h))
        have hs := gAcc_n (T := tSig u n) (lo := 1) nd
        exact ih _ _ _ _ _ _ (d + 1) e1 hlt (by omega) (by rw [hs, hva]) (by rw [hs, hvb]) (by omega)
      · have nd : n % (d + 1) = 0 := Nat.mod_eq_zero_of_dvd ((zDvdN hn hd (by omega)).mp (Decidable.not_not.mp c2))
        have hs := gAcc_y (T := tSig u n) (lo := 1) (by omega) nd
        rw [hva, hvb] at hs
        refine ZE_b4 (zSgnP F prL0 tmL0 vd (d + 1) hF hd (by omega) (by omega)) (fun r1 x y z hr => ?_)
        dsimp only at hr
        rw [cSgn (d + 1) (by omega) (by omega)] at hr
        subst hr
        refine ZE_zg (zne0 (by omega)) ?_
        refine ZE_b1e (zAt7 R p0 (zDivN hn hd (by omega)) hq1 hq2) ?_
        rw [hfu (n / (d + 1)) hq1 hq2]
        refine ZE_b2e (zTi7 _ _ _) (ZE_b2e (zPl7 _ _ _) ?_)
        exact ih _ _ _ _ _ _ (d + 1) e1 hlt (by omega) (congrArg Prod.fst hs).symm ((zor4 _ _ _ _).trans (congrArg (fun s => b0 || s.2) hs).symm) (by omega)

theorem zSiAt (F : Nat) (R : Nat → Nat → Int64) (b : Bool) (pr tm : Nat → Int32) (cn : Int32) (p0 : Nat) (p1 : Int32) (n : Nat) (hF : 2000 ≤ F) (hn : p1.toInt = n) (h1 : 1 ≤ n) (h2 : n ≤ 120) (u : Nat → Int64) (hfu : ∀ j, 1 ≤ j → j ≤ 120 → R p0 j = u j) : ZE (fun (r : (Int64 × Bool × (Nat → Int32) × (Nat → Int32) × Int32)) => r.1 = (sSig u n).1 ∧ r.2.1 = (b || (sSig u n).2)) (p_X0_signedAt F R b pr tm cn p0 p1) := by
  unfold p_X0_signedAt
  exact zSiL0 F R p0 p1 n hF hn h1 h2 u hfu b _ (fun va vd bb _ _ _ ha hb => ⟨_, rfl, ha, hb⟩) F 0 1 b pr tm cn 0 (by decide) (by omega) (by omega) rfl (Bool.or_false _).symm (by omega)

set_option maxHeartbeats 2000000 in
theorem zPoL0 {P : Int32 → Prop} (F : Nat) (pr tm : Nat → Int32) (p0 : Int32) (cn : Int32) (L : List (Nat × Nat)) (i : Nat) (q : Nat × Nat) (hR : zRep L pr tm cn) (hi : p0.toInt = i) (hlt : i < L.length) (hq : L[i]? = some q) (hq9 : q.2 ≤ 9) (k : Int32 → Int32 → Option Int32) (hk : ∀ a b : Int32, a = Int32.ofInt ((q.1 ^ q.2 : Nat) : Int) → ZE P (k a b)) : ∀ (f : Nat) (va vb : Int32) (j : Nat), vb.toInt = j → j ≤ q.2 → va = Int32.ofInt ((q.1 ^ j : Nat) : Int) → 10 - j < f → ZE P (p_X2_powerAt_L0 F pr tm p0 k f va vb) := by
  intro f
  induction f with
  | zero => intros; rename_i hm; exact absurd hm (Nat.not_lt_zero _)
  | succ f ih =>
    intro va vb j hj hle ha hm
    show ZE P (zb1 (p_X2_timesAt tm p0) (fun r1 => (if r1 ≤ vb then (k va vb) else (zb1 (p_X2_primeAt pr p0) (fun r3 => (p_X2_powerAt_L0 F pr tm p0 k f (va * r3) (vb + (1 : Int32))))))))
    have e1 := zAddN hj (by omega)
    refine ZE_b1 (zTmA hR hi hlt hq) (fun r9 h9 => ?_)
    refine ZE_if (fun c => ?_) (fun c => ?_)
    · rw [Int32.le_iff_toInt_le] at c
      have : j = q.2 := by omega
      subst this
      exact hk _ _ ha
    · rw [Int32.le_iff_toInt_le] at c
      refine ZE_b1 (zPrA hR hi hlt hq) (fun r11 h11 => ?_)
      exact ih _ _ (j + 1) e1 (by omega) (zMlc ha (zOf h11) (y := ((q.1 ^ (j + 1) : Nat) : Int)) (by rw [Nat.pow_succ, Int.natCast_mul])) (by omega)
theorem zPoA (F : Nat) (hF : 2000 ≤ F) (pr tm : Nat → Int32) (p0 : Int32) (cn : Int32) (L : List (Nat × Nat)) (i : Nat) (q : Nat × Nat) (hR : zRep L pr tm cn) (hi : p0.toInt = i) (hlt : i < L.length) (hq : L[i]? = some q) (hq9 : q.2 ≤ 9) (hv : q.1 ^ q.2 ≤ 120) : ZE (fun (r : Int32) => r.toInt = ((q.1 ^ q.2 : Nat) : Int)) (p_X2_powerAt F pr tm p0) := by
  unfold p_X2_powerAt
  refine zPoL0 F pr tm p0 cn L i q hR hi hlt hq hq9 _ (fun a b h => ⟨_, rfl, ?_⟩) F 1 0 0 (by decide) (by omega) (by rw [Nat.pow_zero]; rfl) (by omega)
  rw [h, Int32.toInt_ofInt, show Int32.size = 4294967296 from rfl]
  exact Int.bmod_eq_of_le (by omega) (by omega)
def gStep (u : Nat → Int64) (s : Int64 × Bool) (q : Nat × Nat) : Int64 × Bool := (s.1 * u (q.1 ^ q.2), s.2 || !letp s.1 (u (q.1 ^ q.2)))
theorem sPri_eq (u : Nat → Int64) (n : Nat) : sPri u n = (nPw n).foldl (gStep u) (1, false) := List.foldl_map
def cPq (n : Nat) : Bool := (nPw n).all (fun q => decide (1 ≤ q.1 ^ q.2 ∧ q.1 ^ q.2 ≤ 120))
theorem cPqA : (List.range 120).all (fun i => cPq (i + 1)) = true := by decide +kernel
theorem cPqS (n : Nat) (h1 : 1 ≤ n) (h2 : n ≤ 120) (q : Nat × Nat) (hq : q ∈ nPw n) : 1 ≤ q.1 ^ q.2 ∧ q.1 ^ q.2 ≤ 120 := by
  have h := List.all_eq_true.mp cPqA (n - 1) (List.mem_range.mpr (by omega))
  rw [show n - 1 + 1 = n by omega] at h
  exact of_decide_eq_true (List.all_eq_true.mp h q hq)

set_option maxHeartbeats 2000000 in
theorem zByL1 {P : (Bool × (Nat → Nat → Int64) × Bool × (Nat → Int32) × (Nat → Int32) × Int32) → Prop} (F : Nat) (p0 : Nat) (RL0 : Nat → Nat → Int64) (pr_5 tm_6 : Nat → Int32) (cn_7 : Int32) (n : Nat) (hF : 2000 ≤ F) (h1 : 1 ≤ n) (h2 : n ≤ 120) (hR : zRep (nPw n) pr_5 tm_6 cn_7) (u : Nat → Int64) (hfu : ∀ j, 1 ≤ j → j ≤ 120 → RL0 p0 j = u j) (b0 : Bool) (k : Int64 → Int32 → Bool → Option (Bool × (Nat → Nat → Int64) × Bool × (Nat → Int32) × (Nat → Int32) × Int32)) (hk : ∀ (va : Int64) (vd : Int32) (bb : Bool), va = (sPri u n).1 → bb = (b0 || (sPri u n).2) → ZE P (k va vd bb)) : ∀ (f : Nat) (va : Int64) (vd : Int32) (bb : Bool) (i : Nat), vd.toInt = i → i ≤ (nPw n).length → va = (((nPw n).take i).foldl (gStep u) (1, false)).1 → bb = (b0 || (((nPw n).take i).foldl (gStep u) (1, false)).2) → 5 - i < f → ZE P (p_X0_layByPrimes_L1 F p0 RL0 pr_5 tm_6 cn_7 k f va vd bb) := by
  intro f
  induction f with
  | zero => intros; rename_i hm; exact absurd hm (Nat.not_lt_zero _)
  | succ f ih =>
    intro va vd bb i hi hle ha hb hm
    show ZE P (zb1 (p_X2_count cn_7) (fun r11 => (if r11 ≤ vd then (k va vd bb) else (zb1 (p_X2_powerAt F pr_5 tm_6 vd) (fun r13 => (zb1 (p_X4_at RL0 p0 r13) (fun r15 => (zb2 (p_X3_times bb va r15) (fun r17 b_18 => (p_X0_layByPrimes_L1 F p0 RL0 pr_5 tm_6 cn_7 k f r17 (vd + (1 : Int32)) b_18))))))))))
    have hR0 := hR
    obtain ⟨b1, b2, b3⟩ := hR0
    have e1 := zAddN hi (by omega)
    refine ZE_b1 (Q := fun r => r = cn_7) ⟨_, rfl, rfl⟩ (fun r5 h5 => ?_)
    subst h5
    refine ZE_if (fun c => ?_) (fun c => ?_)
    · rw [Int32.le_iff_toInt_le] at c
      have hil : i = (nPw n).length := by omega
      rw [List.take_of_length_le (by omega), ← sPri_eq] at ha hb
      exact hk _ _ _ ha hb
    · rw [Int32.le_iff_toInt_le] at c
      have hlt : i < (nPw n).length := by omega
      have hq := List.getElem?_eq_getElem hlt
      generalize hqq : (nPw n)[i] = q at hq
      have hmem : q ∈ nPw n := by rw [← hqq]; exact List.getElem_mem hlt
      have hfs := zFoldS (gStep u) (1, false) (nPw n) i q hq
      obtain ⟨c1, c2, c3, c4⟩ := b3 i q hq
      obtain ⟨v1, v2⟩ := cPqS n h1 h2 q hmem
      refine ZE_b1 (zPoA F hF pr_5 tm_6 vd r5 (nPw n) i q hR hi hlt hq c4 v2) (fun r13 h13 => ?_)
      refine ZE_b1e (zAt7 RL0 p0 h13 v1 v2) ?_
      rw [hfu _ v1 v2]
      refine ZE_b2e (zTi7 _ _ _) ?_
      refine ih _ _ _ (i + 1) e1 (by omega) ?_ ?_ (by omega)
      · rw [hfs, ha]
        rfl
      · rw [hfs, ha, hb, Bool.or_assoc]
        rfl

-- ==================== what the class lays: row by row
set_option maxHeartbeats 2000000 in
theorem zPrL0 {P : (Bool × (Nat → Nat → Int64) × Bool) → Prop} (F : Nat) (p0 : Nat) (p1 : Nat) (p2 : Nat) (hF : 2000 ≤ F) (R : Nat → Nat → Int64) (np0 : p0 ≠ p2) (np1 : p1 ≠ p2) (u w : Nat → Int64) (hfu : ∀ j, 1 ≤ j → j ≤ 120 → R p0 j = u j) (hfw : ∀ j, 1 ≤ j → j ≤ 120 → R p1 j = w j) (b0 : Bool) (k : Int32 → (Nat → Nat → Int64) → Bool → Option (Bool × (Nat → Nat → Int64) × Bool)) (hk : ∀ (vd : Int32) (RL : Nat → Nat → Int64) (bb : Bool), (∀ i, i ≠ p2 → RL i = R i) → (∀ j, 1 ≤ j → j ≤ 120 → RL p2 j = (sProd u w j).1) → bb = (b0 || gOr (fun j => (sProd u w j).2) 120) → ZE P (k vd RL bb)) : ∀ (f : Nat) (vd : Int32) (RL : Nat → Nat → Int64) (bb : Bool) (d : Nat), vd.toInt = ((d + 1 : Nat) : Int) → d ≤ 120 → (∀ i, i ≠ p2 → RL i = R i) → (∀ j, 1 ≤ j → j ≤ d → RL p2 j = (sProd u w j).1) → bb = (b0 || gOr (fun j => (sProd u w j).2) d) → 121 - d < f → ZE P (p_X0_layProduct_L0 F p0 p1 p2 k f vd RL bb) := by
  intro f
  induction f with
  | zero => intros; rename_i hm; exact absurd hm (Nat.not_lt_zero _)
  | succ f ih =>
    intro vd RL bb d hd hdn hA hB hC hm
    show ZE P (if (120 : Int32) < vd then (k vd RL bb) else (p_X0_layProduct_L1 F p0 p1 vd RL (fun v5_1 v7_1 bL1 => (zb1 (p_X4_lay RL p2 vd v5_1) (fun R_5 => (p_X0_layProduct_L0 F p0 p1 p2 k f (vd + (1 : Int32)) R_5 bL1)))) F (0 : Int64) (1 : Int32) bb))
    have e1 := zAddN hd (by omega)
    have o120 : (120 : Int32).toInt = 120 := by decide
    refine ZE_if (fun c => ?_) (fun c => ?_)
    · rw [Int32.lt_iff_toInt_lt, o120] at c
      have hde : d = 120 := by omega
      subst hde
      exact hk _ _ _ hA hB hC
    · rw [Int32.lt_iff_toInt_lt, o120] at c
      have hlt : d < 120 := by omega
      have hru : ∀ j, 1 ≤ j → j ≤ 120 → RL p0 j = u j := fun j j1 j2 => by rw [hA p0 np0]; exact hfu j j1 j2
      have hrw : ∀ j, 1 ≤ j → j ≤ 120 → RL p1 j = w j := fun j j1 j2 => by rw [hA p1 np1]; exact hfw j j1 j2
      refine zPrL1 F p0 p1 vd RL (d + 1) hF hd (by omega) (by omega) u w hru hrw bb _ (fun va vd2 b2 ha hb => ?_) F 0 1 bb 0 (by decide) (by omega) (by omega) rfl (Bool.or_false _).symm (by omega)
      refine ZE_b1e (zLay7 RL p2 va hd (by omega) (by omega)) ?_
      exact ih _ _ _ (d + 1) e1 hlt (zRowA hA) (zRowB hB (by rw [ha]; rfl)) (by rw [hb, hC]; exact Bool.or_assoc _ _ _) (by omega)

set_option maxHeartbeats 2000000 in
theorem zSuL0 {P : (Bool × (Nat → Nat → Int64) × Bool) → Prop} (F : Nat) (p0 : Nat) (p1 : Nat) (hF : 2000 ≤ F) (R : Nat → Nat → Int64) (np0 : p0 ≠ p1) (u : Nat → Int64) (hfu : ∀ j, 1 ≤ j → j ≤ 120 → R p0 j = u j) (b0 : Bool) (k : Int32 → (Nat → Nat → Int64) → Bool → Option (Bool × (Nat → Nat → Int64) × Bool)) (hk : ∀ (vd : Int32) (RL : Nat → Nat → Int64) (bb : Bool), (∀ i, i ≠ p1 → RL i = R i) → (∀ j, 1 ≤ j → j ≤ 120 → RL p1 j = (sSum u j).1) → bb = (b0 || gOr (fun j => (sSum u j).2) 120) → ZE P (k vd RL bb)) : ∀ (f : Nat) (vd : Int32) (RL : Nat → Nat → Int64) (bb : Bool) (d : Nat), vd.toInt = ((d + 1 : Nat) : Int) → d ≤ 120 → (∀ i, i ≠ p1 → RL i = R i) → (∀ j, 1 ≤ j → j ≤ d → RL p1 j = (sSum u j).1) → bb = (b0 || gOr (fun j => (sSum u j).2) d) → 121 - d < f → ZE P (p_X0_laySummed_L0 F p0 p1 k f vd RL bb) := by
  intro f
  induction f with
  | zero => intros; rename_i hm; exact absurd hm (Nat.not_lt_zero _)
  | succ f ih =>
    intro vd RL bb d hd hdn hA hB hC hm
    show ZE P (if (120 : Int32) < vd then (k vd RL bb) else (p_X0_laySummed_L1 F p0 vd RL (fun v4_1 v6_1 bL1 => (zb1 (p_X4_lay RL p1 vd v4_1) (fun R_5 => (p_X0_laySummed_L0 F p0 p1 k f (vd + (1 : Int32)) R_5 bL1)))) F (0 : Int64) (1 : Int32) bb))
    have e1 := zAddN hd (by omega)
    have o120 : (120 : Int32).toInt = 120 := by decide
    refine ZE_if (fun c => ?_) (fun c => ?_)
    · rw [Int32.lt_iff_toInt_lt, o120] at c
      have hde : d = 120 := by omega
      subst hde
      exact hk _ _ _ hA hB hC
    · rw [Int32.lt_iff_toInt_lt, o120] at c
      have hlt : d < 120 := by omega
      have hru : ∀ j, 1 ≤ j → j ≤ 120 → RL p0 j = u j := fun j j1 j2 => by rw [hA p0 np0]; exact hfu j j1 j2
      refine zSuL1 F p0 vd RL (d + 1) hF hd (by omega) (by omega) u hru bb _ (fun va vd2 b2 ha hb => ?_) F 0 1 bb 0 (by decide) (by omega) (by omega) rfl (Bool.or_false _).symm (by omega)
      refine ZE_b1e (zLay7 RL p1 va hd (by omega) (by omega)) ?_
      exact ih _ _ _ (d + 1) e1 hlt (zRowA hA) (zRowB hB (by rw [ha]; rfl)) (by rw [hb, hC]; exact Bool.or_assoc _ _ _) (by omega)

set_option maxHeartbeats 2000000 in
theorem zSgL0 {P : (Bool × (Nat → Nat → Int64) × Bool × (Nat → Int32) × (Nat → Int32) × Int32) → Prop} (F : Nat) (p0 : Nat) (p1 : Nat) (hF : 2000 ≤ F) (R : Nat → Nat → Int64) (np0 : p0 ≠ p1) (u : Nat → Int64) (hfu : ∀ j, 1 ≤ j → j ≤ 120 → R p0 j = u j) (b0 : Bool) (k : Int32 → (Nat → Nat → Int64) → Bool → (Nat → Int32) → (Nat → Int32) → Int32 → Option (Bool × (Nat → Nat → Int64) × Bool × (Nat → Int32) × (Nat → Int32) × Int32)) (hk : ∀ (vd : Int32) (RL : Nat → Nat → Int64) (bb : Bool) (prL0 tmL0 : Nat → Int32) (cnL0 : Int32), (∀ i, i ≠ p1 → RL i = R i) → (∀ j, 1 ≤ j → j ≤ 120 → RL p1 j = (sSig u j).1) → bb = (b0 || gOr (fun j => (sSig u j).2) 120) → ZE P (k vd RL bb prL0 tmL0 cnL0)) : ∀ (f : Nat) (vd : Int32) (RL : Nat → Nat → Int64) (bb : Bool) (prL0 tmL0 : Nat → Int32) (cnL0 : Int32) (d : Nat), vd.toInt = ((d + 1 : Nat) : Int) → d ≤ 120 → (∀ i, i ≠ p1 → RL i = R i) → (∀ j, 1 ≤ j → j ≤ d → RL p1 j = (sSig u j).1) → bb = (b0 || gOr (fun j => (sSig u j).2) d) → 121 - d < f → ZE P (p_X0_laySigned_L0 F p0 p1 k f vd RL bb prL0 tmL0 cnL0) := by
  intro f
  induction f with
  | zero => intros; rename_i hm; exact absurd hm (Nat.not_lt_zero _)
  | succ f ih =>
    intro vd RL bb prL0 tmL0 cnL0 d hd hdn hA hB hC hm
    show ZE P (if (120 : Int32) < vd then (k vd RL bb prL0 tmL0 cnL0) else (zb5 (p_X0_signedAt F RL bb prL0 tmL0 cnL0 p0 vd) (fun r5 b_6 pr_7 tm_8 cn_9 => (zb1 (p_X4_lay RL p1 vd r5) (fun R_11 => (p_X0_laySigned_L0 F p0 p1 k f (vd + (1 : Int32)) R_11 b_6 pr_7 tm_8 cn_9))))))
    have e1 := zAddN hd (by omega)
    have o120 : (120 : Int32).toInt = 120 := by decide
    refine ZE_if (fun c => ?_) (fun c => ?_)
    · rw [Int32.lt_iff_toInt_lt, o120] at c
      have hde : d = 120 := by omega
      subst hde
      exact hk _ _ _ _ _ _ hA hB hC
    · rw [Int32.lt_iff_toInt_lt, o120] at c
      have hlt : d < 120 := by omega
      have hru : ∀ j, 1 ≤ j → j ≤ 120 → RL p0 j = u j := fun j j1 j2 => by rw [hA p0 np0]; exact hfu j j1 j2
      refine ZE_b5 (zSiAt F RL bb prL0 tmL0 cnL0 p0 vd (d + 1) hF hd (by omega) (by omega) u hru) (fun va b2 x y z hab => ?_)
      obtain ⟨ha, hb⟩ := hab
      dsimp only at ha hb
      refine ZE_b1e (zLay7 RL p1 va hd (by omega) (by omega)) ?_
      exact ih _ _ _ _ _ _ (d + 1) e1 hlt (zRowA hA) (zRowB hB (ha)) (by rw [hb, hC]; exact Bool.or_assoc _ _ _) (by omega)

theorem zPwOf (F : Nat) (pr tm : Nat → Int32) (p0 : Int32) (n : Nat) (hF : 2000 ≤ F) (hn : p0.toInt = n) (h1 : 1 ≤ n) (h2 : n ≤ 1000) : ZE (fun (r : ((Nat → Int32) × (Nat → Int32) × Int32)) => zRep (nPw n) r.1 r.2.1 r.2.2) (p_X1_powersOf F pr tm p0) := by
  unfold p_X1_powersOf
  exact ZE_b3 (zLay F pr tm p0 n hF hn h1 h2) (fun a b c h => ⟨_, rfl, h⟩)
set_option maxHeartbeats 2000000 in
theorem zByL0 {P : (Bool × (Nat → Nat → Int64) × Bool × (Nat → Int32) × (Nat → Int32) × Int32) → Prop} (F : Nat) (p0 : Nat) (p1 : Nat) (hF : 2000 ≤ F) (R : Nat → Nat → Int64) (np0 : p0 ≠ p1) (u : Nat → Int64) (hfu : ∀ j, 1 ≤ j → j ≤ 120 → R p0 j = u j) (b0 : Bool) (k : Int32 → (Nat → Nat → Int64) → Bool → (Nat → Int32) → (Nat → Int32) → Int32 → Option (Bool × (Nat → Nat → Int64) × Bool × (Nat → Int32) × (Nat → Int32) × Int32)) (hk : ∀ (vd : Int32) (RL : Nat → Nat → Int64) (bb : Bool) (prL0 tmL0 : Nat → Int32) (cnL0 : Int32), (∀ i, i ≠ p1 → RL i = R i) → (∀ j, 1 ≤ j → j ≤ 120 → RL p1 j = (sPri u j).1) → bb = (b0 || gOr (fun j => (sPri u j).2) 120) → ZE P (k vd RL bb prL0 tmL0 cnL0)) : ∀ (f : Nat) (vd : Int32) (RL : Nat → Nat → Int64) (bb : Bool) (prL0 tmL0 : Nat → Int32) (cnL0 : Int32) (d : Nat), vd.toInt = ((d + 1 : Nat) : Int) → d ≤ 120 → (∀ i, i ≠ p1 → RL i = R i) → (∀ j, 1 ≤ j → j ≤ d → RL p1 j = (sPri u j).1) → bb = (b0 || gOr (fun j => (sPri u j).2) d) → 121 - d < f → ZE P (p_X0_layByPrimes_L0 F p0 p1 k f vd RL bb prL0 tmL0 cnL0) := by
  intro f
  induction f with
  | zero => intros; rename_i hm; exact absurd hm (Nat.not_lt_zero _)
  | succ f ih =>
    intro vd RL bb prL0 tmL0 cnL0 d hd hdn hA hB hC hm
    show ZE P (if (120 : Int32) < vd then (k vd RL bb prL0 tmL0 cnL0) else (zb3 (p_X1_powersOf F prL0 tmL0 vd) (fun pr_5 tm_6 cn_7 => (p_X0_layByPrimes_L1 F p0 RL pr_5 tm_6 cn_7 (fun v5_1 v7_1 bL1 => (zb1 (p_X4_lay RL p1 vd v5_1) (fun R_9 => (p_X0_layByPrimes_L0 F p0 p1 k f (vd + (1 : Int32)) R_9 bL1 pr_5 tm_6 cn_7)))) F (1 : Int64) (0 : Int32) bb))))
    have e1 := zAddN hd (by omega)
    have o120 : (120 : Int32).toInt = 120 := by decide
    refine ZE_if (fun c => ?_) (fun c => ?_)
    · rw [Int32.lt_iff_toInt_lt, o120] at c
      have hde : d = 120 := by omega
      subst hde
      exact hk _ _ _ _ _ _ hA hB hC
    · rw [Int32.lt_iff_toInt_lt, o120] at c
      have hlt : d < 120 := by omega
      have hru : ∀ j, 1 ≤ j → j ≤ 120 → RL p0 j = u j := fun j j1 j2 => by rw [hA p0 np0]; exact hfu j j1 j2
      refine ZE_b3 (zPwOf F prL0 tmL0 vd (d + 1) hF hd (by omega) (by omega)) (fun x y z hR => ?_)
      refine zByL1 F p0 RL x y z (d + 1) hF (by omega) (by omega) hR u hru bb _ (fun va vd2 b2 ha hb => ?_) F 1 0 bb 0 (by decide) (by omega) rfl (Bool.or_false _).symm (by omega)
      refine ZE_b1e (zLay7 RL p1 va hd (by omega) (by omega)) ?_
      exact ih _ _ _ _ _ _ (d + 1) e1 hlt (zRowA hA) (zRowB hB (ha)) (by rw [hb, hC]; exact Bool.or_assoc _ _ _) (by omega)

set_option maxHeartbeats 2000000 in
theorem zTuL0 {P : (Bool × (Nat → Nat → Int64) × Bool) → Prop} (F : Nat) (p0 : Nat) (p1 : Nat) (hF : 2000 ≤ F) (R : Nat → Nat → Int64) (np0 : p0 ≠ p1) (u : Nat → Int64) (hfu : ∀ j, 1 ≤ j → j ≤ 120 → R p0 j = u j) (b0 : Bool) (k : Int32 → (Nat → Nat → Int64) → Bool → Option (Bool × (Nat → Nat → Int64) × Bool)) (hk : ∀ (vd : Int32) (RL : Nat → Nat → Int64) (bb : Bool), (∀ i, i ≠ p1 → RL i = R i) → (∀ j, 1 ≤ j → j ≤ 120 → RL p1 j = (sTur u j).1) → bb = (b0 || gOr (fun j => (sTur u j).2) 120) → ZE P (k vd RL bb)) : ∀ (f : Nat) (vd : Int32) (RL : Nat → Nat → Int64) (bb : Bool) (d : Nat), vd.toInt = ((d + 1 : Nat) : Int) → d ≤ 120 → (∀ i, i ≠ p1 → RL i = R i) → (∀ j, 1 ≤ j → j ≤ d → RL p1 j = (sTur u j).1) → bb = (b0 || gOr (fun j => (sTur u j).2) d) → 121 - d < f → ZE P (p_X0_layTurned_L0 F p0 p1 k f vd RL bb) := by
  intro f
  induction f with
  | zero => intros; rename_i hm; exact absurd hm (Nat.not_lt_zero _)
  | succ f ih =>
    intro vd RL bb d hd hdn hA hB hC hm
    show ZE P (if (120 : Int32) < vd then (k vd RL bb) else (zb1 (p_X4_at RL p0 vd) (fun r5 => (zb2 (p_X3_minus bb (0 : Int64) r5) (fun r7 b_8 => (zb1 (p_X4_lay RL p1 vd r7) (fun R_10 => (p_X0_layTurned_L0 F p0 p1 k f (vd + (1 : Int32)) R_10 b_8))))))))
    have e1 := zAddN hd (by omega)
    have o120 : (120 : Int32).toInt = 120 := by decide
    refine ZE_if (fun c => ?_) (fun c => ?_)
    · rw [Int32.lt_iff_toInt_lt, o120] at c
      have hde : d = 120 := by omega
      subst hde
      exact hk _ _ _ hA hB hC
    · rw [Int32.lt_iff_toInt_lt, o120] at c
      have hlt : d < 120 := by omega
      have hru : ∀ j, 1 ≤ j → j ≤ 120 → RL p0 j = u j := fun j j1 j2 => by rw [hA p0 np0]; exact hfu j j1 j2
      refine ZE_b1e (zAt7 RL p0 hd (by omega) (by omega)) ?_
      rw [hru (d + 1) (by omega) (by omega)]
      refine ZE_b2e (zMi7 _ _ _) ?_
      refine ZE_b1e (zLay7 RL p1 _ hd (by omega) (by omega)) ?_
      exact ih _ _ _ (d + 1) e1 hlt (zRowA hA) (zRowB hB (zTurnV _)) (by rw [hC]; rw [zTurnB]; exact Bool.or_assoc _ _ _) (by omega)

set_option maxHeartbeats 2000000 in
theorem zPlL0 {P : (Bool × (Nat → Nat → Int64) × Bool) → Prop} (F : Nat) (p0 : Nat) (p1 : Nat) (hF : 2000 ≤ F) (R : Nat → Nat → Int64) (np0 : p0 ≠ p1) (u : Nat → Int64) (hfu : ∀ j, 1 ≤ j → j ≤ 120 → R p0 j = u j) (b0 : Bool) (k : Int32 → (Nat → Nat → Int64) → Bool → Option (Bool × (Nat → Nat → Int64) × Bool)) (hk : ∀ (vd : Int32) (RL : Nat → Nat → Int64) (bb : Bool), (∀ i, i ≠ p1 → RL i = R i) → (∀ j, 1 ≤ j → j ≤ 120 → RL p1 j = (sPla u j).1) → bb = (b0 || gOr (fun j => (sPla u j).2) 120) → ZE P (k vd RL bb)) : ∀ (f : Nat) (vd : Int32) (RL : Nat → Nat → Int64) (bb : Bool) (d : Nat), vd.toInt = ((d + 1 : Nat) : Int) → d ≤ 120 → (∀ i, i ≠ p1 → RL i = R i) → (∀ j, 1 ≤ j → j ≤ d → RL p1 j = (sPla u j).1) → bb = (b0 || gOr (fun j => (sPla u j).2) d) → 121 - d < f → ZE P (p_X0_layByPlace_L0 F p0 p1 k f vd RL bb) := by
  intro f
  induction f with
  | zero => intros; rename_i hm; exact absurd hm (Nat.not_lt_zero _)
  | succ f ih =>
    intro vd RL bb d hd hdn hA hB hC hm
    show ZE P (if (120 : Int32) < vd then (k vd RL bb) else (zb1 (p_X4_at RL p0 vd) (fun r5 => (zb2 (p_X3_times bb r5 (vd.toInt64)) (fun r7 b_8 => (zb1 (p_X4_lay RL p1 vd r7) (fun R_10 => (p_X0_layByPlace_L0 F p0 p1 k f (vd + (1 : Int32)) R_10 b_8))))))))
    have e1 := zAddN hd (by omega)
    have o120 : (120 : Int32).toInt = 120 := by decide
    refine ZE_if (fun c => ?_) (fun c => ?_)
    · rw [Int32.lt_iff_toInt_lt, o120] at c
      have hde : d = 120 := by omega
      subst hde
      exact hk _ _ _ hA hB hC
    · rw [Int32.lt_iff_toInt_lt, o120] at c
      have hlt : d < 120 := by omega
      have hru : ∀ j, 1 ≤ j → j ≤ 120 → RL p0 j = u j := fun j j1 j2 => by rw [hA p0 np0]; exact hfu j j1 j2
      refine ZE_b1e (zAt7 RL p0 hd (by omega) (by omega)) ?_
      rw [hru (d + 1) (by omega) (by omega)]
      refine ZE_b2e (zTi7 _ _ _) ?_
      refine ZE_b1e (zLay7 RL p1 _ hd (by omega) (by omega)) ?_
      have hv : vd.toInt64 = nL (d + 1) := by rw [zOf hd]; rfl
      rw [hv]
      exact ih _ _ _ (d + 1) e1 hlt (zRowA hA) (zRowB hB (Int64.mul_comm _ _)) (by rw [hC]; rw [letp_comm]; exact Bool.or_assoc _ _ _) (by omega)

set_option maxHeartbeats 2000000 in
theorem zMeL0 {P : (Bool × (Nat → Nat → Int64) × Bool) → Prop} (F : Nat) (p0 : Int32) (p1 : Nat) (p2 : Nat) (p3 : Nat) (hF : 2000 ≤ F) (R : Nat → Nat → Int64) (np1 : p1 ≠ p3) (np2 : p2 ≠ p3) (u w : Nat → Int64) (hfu : ∀ j, 1 ≤ j → j ≤ 120 → R p1 j = u j) (hfw : ∀ j, 1 ≤ j → j ≤ 120 → R p2 j = w j) (b0 : Bool) (k : Int32 → (Nat → Nat → Int64) → Bool → Option (Bool × (Nat → Nat → Int64) × Bool)) (hk : ∀ (vd : Int32) (RL : Nat → Nat → Int64) (bb : Bool), (∀ i, i ≠ p3 → RL i = R i) → (∀ j, 1 ≤ j → j ≤ 120 → RL p3 j = (sMet p0 u w j).1) → bb = (b0 || gOr (fun j => (sMet p0 u w j).2) 120) → ZE P (k vd RL bb)) : ∀ (f : Nat) (vd : Int32) (RL : Nat → Nat → Int64) (bb : Bool) (d : Nat), vd.toInt = ((d + 1 : Nat) : Int) → d ≤ 120 → (∀ i, i ≠ p3 → RL i = R i) → (∀ j, 1 ≤ j → j ≤ d → RL p3 j = (sMet p0 u w j).1) → bb = (b0 || gOr (fun j => (sMet p0 u w j).2) d) → 121 - d < f → ZE P (p_X0_layMet_L0 F p0 p1 p2 p3 k f vd RL bb) := by
  intro f
  induction f with
  | zero => intros; rename_i hm; exact absurd hm (Nat.not_lt_zero _)
  | succ f ih =>
    intro vd RL bb d hd hdn hA hB hC hm
    show ZE P (if (120 : Int32) < vd then (k vd RL bb) else (if ¬ p0 = 0 then (if ¬ p0 = (1 : Int32) then (zb1 (p_X4_at RL p1 vd) (fun r5 => (zb1 (p_X4_at RL p2 vd) (fun r7 => (zb2 (p_X3_times bb r5 r7) (fun r9 b_10 => (zb1 (p_X4_lay RL p3 vd r9) (fun R_12 => (p_X0_layMet_L0 F p0 p1 p2 p3 k f (vd + (1 : Int32)) R_12 b_10))))))))) else (zb1 (p_X4_at RL p1 vd) (fun r14 => (zb1 (p_X4_at RL p2 vd) (fun r16 => (zb2 (p_X3_minus bb r14 r16) (fun r18 b_19 => (zb1 (p_X4_lay RL p3 vd r18) (fun R_21 => (p_X0_layMet_L0 F p0 p1 p2 p3 k f (vd + (1 : Int32)) R_21 b_19)))))))))) else (zb1 (p_X4_at RL p1 vd) (fun r23 => (zb1 (p_X4_at RL p2 vd) (fun r25 => (zb2 (p_X3_plus bb r23 r25) (fun r27 b_28 => (zb1 (p_X4_lay RL p3 vd r27) (fun R_30 => (p_X0_layMet_L0 F p0 p1 p2 p3 k f (vd + (1 : Int32)) R_30 b_28)))))))))))
    have e1 := zAddN hd (by omega)
    have o120 : (120 : Int32).toInt = 120 := by decide
    refine ZE_if (fun c => ?_) (fun c => ?_)
    · rw [Int32.lt_iff_toInt_lt, o120] at c
      have hde : d = 120 := by omega
      subst hde
      exact hk _ _ _ hA hB hC
    · rw [Int32.lt_iff_toInt_lt, o120] at c
      have hlt : d < 120 := by omega
      have hru : ∀ j, 1 ≤ j → j ≤ 120 → RL p1 j = u j := fun j j1 j2 => by rw [hA p1 np1]; exact hfu j j1 j2
      have hrw : ∀ j, 1 ≤ j → j ≤ 120 → RL p2 j = w j := fun j j1 j2 => by rw [hA p2 np2]; exact hfw j j1 j2
      refine ZE_if (fun c1 => ZE_if (fun c2 => ?_) (fun c2 => ?_)) (fun c1 => ?_)
      · refine ZE_b1e (zAt7 RL p1 hd (by omega) (by omega)) (ZE_b1e (zAt7 RL p2 hd (by omega) (by omega)) ?_)
        rw [hru (d + 1) (by omega) (by omega), hrw (d + 1) (by omega) (by omega)]
        refine ZE_b2e (zTi7 _ _ _) ?_
        refine ZE_b1e (zLay7 RL p3 _ hd (by omega) (by omega)) ?_
        have hs : sMet p0 u w (d + 1) = (u (d + 1) * w (d + 1), !letp (u (d + 1)) (w (d + 1))) := (if_pos c1).trans (if_pos c2)
        exact ih _ _ _ (d + 1) e1 hlt (zRowA hA) (zRowB hB (congrArg Prod.fst hs).symm) (by rw [hC, Bool.or_assoc]; exact (congrArg (fun s => b0 || (gOr (fun j => (sMet p0 u w j).2) d || s.2)) hs).symm) (by omega)
      · refine ZE_b1e (zAt7 RL p1 hd (by omega) (by omega)) (ZE_b1e (zAt7 RL p2 hd (by omega) (by omega)) ?_)
        rw [hru (d + 1) (by omega) (by omega), hrw (d + 1) (by omega) (by omega)]
        refine ZE_b2e (zMi7 _ _ _) ?_
        refine ZE_b1e (zLay7 RL p3 _ hd (by omega) (by omega)) ?_
        have hs : sMet p0 u w (d + 1) = (u (d + 1) - w (d + 1), ovM (u (d + 1)) (w (d + 1))) := (if_pos c1).trans (if_neg c2)
        exact ih _ _ _ (d + 1) e1 hlt (zRowA hA) (zRowB hB (congrArg Prod.fst hs).symm) (by rw [hC, Bool.or_assoc]; exact (congrArg (fun s => b0 || (gOr (fun j => (sMet p0 u w j).2) d || s.2)) hs).symm) (by omega)
      · refine ZE_b1e (zAt7 RL p1 hd (by omega) (by omega)) (ZE_b1e (zAt7 RL p2 hd (by omega) (by omega)) ?_)
        rw [hru (d + 1) (by omega) (by omega), hrw (d + 1) (by omega) (by omega)]
        refine ZE_b2e (zPl7 _ _ _) ?_
        refine ZE_b1e (zLay7 RL p3 _ hd (by omega) (by omega)) ?_
        have hs : sMet p0 u w (d + 1) = (u (d + 1) + w (d + 1), ovA (u (d + 1)) (w (d + 1))) := if_neg c1
        exact ih _ _ _ (d + 1) e1 hlt (zRowA hA) (zRowB hB (congrArg Prod.fst hs).symm) (by rw [hC, Bool.or_assoc]; exact (congrArg (fun s => b0 || (gOr (fun j => (sMet p0 u w j).2) d || s.2)) hs).symm) (by omega)

theorem iRow_s {u : Nat → Int64} {d : Nat} (h : ¬ d = 0) : iRow u (d + 1) (d + 1) = (gAcc (tProd u (iRow u d) (d + 1)) 2 (d + 1) (d + 1)).1 * -(u 1) := (if_pos rfl).trans (if_neg h)
theorem iRow_o {u : Nat → Int64} {d j : Nat} (h : ¬ j = d + 1) : iRow u (d + 1) j = iRow u d j := if_neg h
theorem iFl_s {u : Nat → Int64} {d : Nat} (h : ¬ d = 0) : iFl u (d + 1) = ((gAcc (tProd u (iRow u d) (d + 1)) 2 (d + 1) (d + 1)).2 || !letp (gAcc (tProd u (iRow u d) (d + 1)) 2 (d + 1) (d + 1)).1 (-(u 1))) := if_neg h
theorem gAcc_2 (T : Nat → Int64 × Bool) (n : Nat) : gAcc T 2 n 1 = (0, false) := if_neg (fun h => absurd h.1 (by decide))

set_option maxHeartbeats 2000000 in
theorem zInL0 {P : (Bool × (Nat → Nat → Int64) × Bool) → Prop} (F : Nat) (p0 : Nat) (p1 : Nat) (hF : 2000 ≤ F) (R : Nat → Nat → Int64) (np0 : p0 ≠ p1) (u : Nat → Int64) (hfu : ∀ j, 1 ≤ j → j ≤ 120 → R p0 j = u j) (b0 : Bool) (k : Int32 → (Nat → Nat → Int64) → Bool → Option (Bool × (Nat → Nat → Int64) × Bool)) (hk : ∀ (vd : Int32) (RL : Nat → Nat → Int64) (bb : Bool), (∀ i, i ≠ p1 → RL i = R i) → (∀ j, 1 ≤ j → j ≤ 120 → RL p1 j = iRow u 120 j) → bb = (b0 || gOr (iFl u) 120) → ZE P (k vd RL bb)) : ∀ (f : Nat) (vd : Int32) (RL : Nat → Nat → Int64) (bb : Bool) (d : Nat), vd.toInt = ((d + 1 : Nat) : Int) → d ≤ 120 → 1 ≤ d → (∀ i, i ≠ p1 → RL i = R i) → (∀ j, 1 ≤ j → j ≤ d → RL p1 j = iRow u d j) → bb = (b0 || gOr (iFl u) d) → 121 - d < f → ZE P (p_X0_layInverse_L0 F p0 p1 k f vd RL bb) := by
  intro f
  induction f with
  | zero => intros; rename_i hm; exact absurd hm (Nat.not_lt_zero _)
  | succ f ih =>
    intro vd RL bb d hd hdn hlo hA hB hC hm
    show ZE P (if (120 : Int32) < vd then (k vd RL bb) else (p_X0_layInverse_L1 F p0 p1 vd RL (fun v4_1 v6_1 bL1 => (zb1 (p_X4_at RL p0 (1 : Int32)) (fun r11 => (zb2 (p_X3_times bL1 v4_1 (-r11)) (fun r13 b_14 => (zb1 (p_X4_lay RL p1 vd r13) (fun R_16 => (p_X0_layInverse_L0 F p0 p1 k f (vd + (1 : Int32)) R_16 b_14)))))))) F (0 : Int64) (2 : Int32) bb))
    have e1 := zAddN hd (by omega)
    have o120 : (120 : Int32).toInt = 120 := by decide
    refine ZE_if (fun c => ?_) (fun c => ?_)
    · rw [Int32.lt_iff_toInt_lt, o120] at c
      have hde : d = 120 := by omega
      subst hde
      exact hk _ _ _ hA hB hC
    · rw [Int32.lt_iff_toInt_lt, o120] at c
      have hlt : d < 120 := by omega
      have hru : ∀ j, 1 ≤ j → j ≤ 120 → RL p0 j = u j := fun j j1 j2 => by rw [hA p0 np0]; exact hfu j j1 j2
      have hg := gAcc_2 (tProd u (iRow u d) (d + 1)) (d + 1)
      refine zInL1 F p0 p1 vd RL (d + 1) hF hd (by omega) (by omega) u (iRow u d) hru (fun j j1 j2 => hB j j1 (by omega)) bb _ (fun va vd2 b2 ha hb => ?_) F 0 2 bb 1 (by decide) (by omega) (by omega) (by rw [hg]) (by rw [hg, Bool.or_false]) (by omega)
      refine ZE_b1e (zAt7 RL p0 (v := 1) (n := 1) (by decide) (by omega) (by omega)) ?_
      rw [hru 1 (by omega) (by omega)]
      refine ZE_b2e (zTi7 _ _ _) ?_
      refine ZE_b1e (zLay7 RL p1 _ hd (by omega) (by omega)) ?_
      refine ih _ _ _ (d + 1) e1 hlt (by omega) (zRowA hA) (zRowB (s := iRow u (d + 1)) (fun j j1 j2 => (hB j j1 j2).trans (iRow_o (by omega)).symm) (by rw [ha, iRow_s (by omega)])) ?_ (by omega)
      rw [hb, hC, ha, zor4]
      show (b0 || (gOr (iFl u) d || (_ || _))) = (b0 || (gOr (iFl u) d || iFl u (d + 1)))
      rw [iFl_s (by omega)]
