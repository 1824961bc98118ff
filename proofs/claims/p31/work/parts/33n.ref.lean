-- ==================== what the reference makes: sums in cells
set_option maxHeartbeats 2000000 in
theorem zPr9L1 {P : ((Nat → Int64) × Bool) → Prop} (F : Nat) (p0 : Nat → Int64) (p1 : Nat → Int64) (v4_0 : Int32) (n : Nat) (hF : 2000 ≤ F) (hn : v4_0.toInt = n) (h1 : 1 ≤ n) (h2 : n ≤ 120) (u w : Nat → Int64) (hfu : ∀ j, 1 ≤ j → j ≤ 120 → p0 j = u j) (hfw : ∀ j, 1 ≤ j → j ≤ 120 → p1 j = w j) (b0 : Bool) (g0 : Nat → Int64) (k : Int32 → Bool → (Nat → Int64) → Option ((Nat → Int64) × Bool)) (hk : ∀ (vd : Int32) (bb : Bool) (fr : Nat → Int64), fr n = (gAcc (tProd u w n) 1 n n).1 → (∀ j, j ≠ n → fr j = g0 j) → bb = (b0 || (gAcc (tProd u w n) 1 n n).2) → ZE P (k vd bb fr)) : ∀ (f : Nat) (vd : Int32) (bb : Bool) (fr : Nat → Int64) (d : Nat), vd.toInt = ((d + 1 : Nat) : Int) → d ≤ n → fr n = (gAcc (tProd u w n) 1 n d).1 → (∀ j, j ≠ n → fr j = g0 j) → bb = (b0 || (gAcc (tProd u w n) 1 n d).2) → n + 1 - d < f → ZE P (p_X9_product_L1 F p0 p1 v4_0 k f vd bb fr) := by
  intro f
  induction f with
  | zero => intros; rename_i hm; exact absurd hm (Nat.not_lt_zero _)
  | succ f ih =>
    intro vd bb fr d hd hdn ha ho hb hm
    subst hb
    generalize hva : (gAcc (tProd u w n) 1 n d).1 = va at ha
    generalize hvb : (gAcc (tProd u w n) 1 n d).2 = vb
    show ZE P (if v4_0 < vd then (k vd (b0 || vb) fr) else (zg (vd = 0) (if ¬ (zr v4_0 vd) = 0 then (p_X9_product_L1 F p0 p1 v4_0 k f (vd + (1 : Int32)) (b0 || vb) fr) else (zg (v4_0 < 0 ∨ 121 ≤ v4_0.toNatClampNeg) (zg (vd < 0 ∨ 121 ≤ vd.toNatClampNeg) (zg (vd = 0) (zg ((v4_0 / vd) < 0 ∨ 121 ≤ (v4_0 / vd).toNatClampNeg) (zb2 (p_X9_times (b0 || vb) (p0 vd.toNatClampNeg) (p1 (v4_0 / vd).toNatClampNeg)) (fun r2 ib_3 => (zb2 (p_X9_plus ib_3 (fr v4_0.toNatClampNeg) r2) (fun r5 ib_6 => (zg (v4_0 < 0 ∨ 121 ≤ v4_0.toNatClampNeg) (p_X9_product_L1 F p0 p1 v4_0 k f (vd + (1 : Int32)) ib_6 (vp_updL fr v4_0.toNatClampNeg r5))))))))))))))
    have e1 := zAddN hd (by omega)
    refine ZE_if (fun c => ?_) (fun c => ?_)
    · rw [Int32.lt_iff_toInt_lt] at c
      have : d = n := by omega
      subst this
      exact hk _ _ _ (ha.trans hva.symm) ho (by rw [hvb])
    · rw [Int32.lt_iff_toInt_lt] at c
      have hlt : d < n := by omega
      have hq1 : 1 ≤ n / (d + 1) := Nat.div_pos hlt (by omega)
      have hq2 : n / (d + 1) ≤ 120 := Nat.le_trans (Nat.div_le_self _ _) h2
      have hdv := zDivN hn hd (by omega)
      refine ZE_zg (zne0 (by omega)) (ZE_if (fun c2 => ?_) (fun c2 => ?_))
      · have nd : ¬ n % (d + 1) = 0 := fun h => c2 ((zDvdN hn hd (by omega)).mpr (Nat.dvd_of_mod_eq_zero h))
        have hs := gAcc_n (T := tProd u w n) (lo := 1) nd
        exact ih _ _ _ (d + 1) e1 hlt (by rw [hs, hva]; exact ha) ho (by rw [hs, hvb]) (by omega)
      · have nd : n % (d + 1) = 0 := Nat.mod_eq_zero_of_dvd ((zDvdN hn hd (by omega)).mp (Decidable.not_not.mp c2))
        have hs := gAcc_y (T := tProd u w n) (lo := 1) (by omega) nd
        rw [hva, hvb] at hs
        generalize hqe : n / (d + 1) = q at hq1 hq2 hdv
        refine ZE_zg (zgi (by omega) (by omega)) (ZE_zg (zgi (by omega) (by omega)) (ZE_zg (zne0 (by omega)) (ZE_zg (zgi (by omega) (by omega)) ?_)))
        refine ZE_b2e (zTi9 _ _ _) (ZE_b2e (zPl9 _ _ _) (ZE_zg (zgi (by omega) (by omega)) ?_))
        rw [zClN hd, zClN hdv, hfu (d + 1) (by omega) (by omega), hfw q hq1 hq2, ← hqe]
        rw [zClN hn, ha]
        exact ih _ _ _ (d + 1) e1 hlt (zluS.trans (congrArg Prod.fst hs).symm) (fun j hj => (zluN hj).trans (ho j hj)) ((zor4 _ _ _ _).trans (congrArg (fun s => b0 || s.2) hs).symm) (by omega)

def tMd (p : Int32) (u : Nat → Int64) (n d : Nat) : Int64 × Bool := if ¬ p = 1 then tSig u n d else tSum u d
theorem tMd_y {p : Int32} {u : Nat → Int64} {n d : Nat} (h : ¬ p = 1) : tMd p u n d = tSig u n d := if_pos h
theorem tMd_n {p : Int32} {u : Nat → Int64} {n d : Nat} (h : ¬ ¬ p = 1) : tMd p u n d = tSum u d := if_neg h

set_option maxHeartbeats 2000000 in
theorem zMd9L1 {P : ((Nat → Int64) × Bool) → Prop} (F : Nat) (p0 : Nat → Int64) (p1 : Int32) (v4_0 : Int32) (n : Nat) (hF : 2000 ≤ F) (hn : v4_0.toInt = n) (h1 : 1 ≤ n) (h2 : n ≤ 120) (u : Nat → Int64) (hfu : ∀ j, 1 ≤ j → j ≤ 120 → p0 j = u j) (h3 : ¬ (3 : Int32) ≤ p1) (b0 : Bool) (g0 : Nat → Int64) (k : Int32 → Bool → (Nat → Int64) → Option ((Nat → Int64) × Bool)) (hk : ∀ (vd : Int32) (bb : Bool) (fr : Nat → Int64), fr n = (gAcc (tMd p1 u n) 1 n n).1 → (∀ j, j ≠ n → fr j = g0 j) → bb = (b0 || (gAcc (tMd p1 u n) 1 n n).2) → ZE P (k vd bb fr)) : ∀ (f : Nat) (vd : Int32) (bb : Bool) (fr : Nat → Int64) (d : Nat), vd.toInt = ((d + 1 : Nat) : Int) → d ≤ n → fr n = (gAcc (tMd p1 u n) 1 n d).1 → (∀ j, j ≠ n → fr j = g0 j) → bb = (b0 || (gAcc (tMd p1 u n) 1 n d).2) → n + 1 - d < f → ZE P (p_X9_made_L1 F p0 p1 v4_0 k f vd bb fr) := by
  intro f
  induction f with
  | zero => intros; rename_i hm; exact absurd hm (Nat.not_lt_zero _)
  | succ f ih =>
    intro vd bb fr d hd hdn ha ho hb hm
    subst hb
    generalize hva : (gAcc (tMd p1 u n) 1 n d).1 = va at ha
    generalize hvb : (gAcc (tMd p1 u n) 1 n d).2 = vb
    show ZE P (if v4_0 < vd then (k vd (b0 || vb) fr) else (if (3 : Int32) ≤ p1 then (k vd (b0 || vb) fr) else (zg (vd = 0) (if ¬ (zr v4_0 vd) = 0 then (p_X9_made_L1 F p0 p1 v4_0 k f (vd + (1 : Int32)) (b0 || vb) fr) else (zg (v4_0 < 0 ∨ 121 ≤ v4_0.toNatClampNeg) (if ¬ p1 = (1 : Int32) then (zb1 (p_X9_signOf F vd) (fun r2 => (zg (vd = 0) (zg ((v4_0 / vd) < 0 ∨ 121 ≤ (v4_0 / vd).toNatClampNeg) (zb2 (p_X9_times (b0 || vb) (r2.toInt64) (p0 (v4_0 / vd).toNatClampNeg)) (fun r4 ib_5 => (zb2 (p_X9_plus ib_5 (fr v4_0.toNatClampNeg) r4) (fun r7 ib_8 => (zg (v4_0 < 0 ∨ 121 ≤ v4_0.toNatClampNeg) (p_X9_made_L1 F p0 p1 v4_0 k f (vd + (1 : Int32)) ib_8 (vp_updL fr v4_0.toNatClampNeg r7))))))))))) else (zg (vd < 0 ∨ 121 ≤ vd.toNatClampNeg) (zb2 (p_X9_plus (b0 || vb) (fr v4_0.toNatClampNeg) (p0 vd.toNatClampNeg)) (fun r10 ib_11 => (zg (v4_0 < 0 ∨ 121 ≤ v4_0.toNatClampNeg) (p_X9_made_L1 F p0 p1 v4_0 k f (vd + (1 : Int32)) ib_11 (vp_updL fr v4_0.toNatClampNeg r10))))))))))))
    have e1 := zAddN hd (by omega)
    refine ZE_if (fun c => ?_) (fun c => ?_)
    · rw [Int32.lt_iff_toInt_lt] at c
      have : d = n := by omega
      subst this
      exact hk _ _ _ (ha.trans hva.symm) ho (by rw [hvb])
    · rw [Int32.lt_iff_toInt_lt] at c
      have hlt : d < n := by omega
      have hq1 : 1 ≤ n / (d + 1) := Nat.div_pos hlt (by omega)
      have hq2 : n / (d + 1) ≤ 120 := Nat.le_trans (Nat.div_le_self _ _) h2
      have hdv := zDivN hn hd (by omega)
      refine ZE_if (fun c9 => absurd c9 h3) (fun _ => ?_)
      refine ZE_zg (zne0 (by omega)) (ZE_if (fun c2 => ?_) (fun c2 => ?_))
      · have nd : ¬ n % (d + 1) = 0 := fun h => c2 ((zDvdN hn hd (by omega)).mpr (Nat.dvd_of_mod_eq_zero h))
        have hs := gAcc_n (T := tMd p1 u n) (lo := 1) nd
        exact ih _ _ _ (d + 1) e1 hlt (by rw [hs, hva]; exact ha) ho (by rw [hs, hvb]) (by omega)
      · have nd : n % (d + 1) = 0 := Nat.mod_eq_zero_of_dvd ((zDvdN hn hd (by omega)).mp (Decidable.not_not.mp c2))
        have hs := gAcc_y (T := tMd p1 u n) (lo := 1) (by omega) nd
        rw [hva, hvb] at hs
        generalize hqe : n / (d + 1) = q at hq1 hq2 hdv
        refine ZE_zg (zgi (by omega) (by omega)) (ZE_if (fun c3 => ?_) (fun c3 => ?_))
        · rw [tMd_y c3] at hs
          refine ZE_b1 (zSgn9 F vd (d + 1) hF hd (by omega) (by omega)) (fun r1 hr => ?_)
          subst hr
          refine ZE_zg (zne0 (by omega)) (ZE_zg (zgi (by omega) (by omega)) ?_)
          refine ZE_b2e (zTi9 _ _ _) (ZE_b2e (zPl9 _ _ _) (ZE_zg (zgi (by omega) (by omega)) ?_))
          rw [zClN hdv, hfu q hq1 hq2, ← hqe]
          rw [zClN hn, ha]
          exact ih _ _ _ (d + 1) e1 hlt (zluS.trans (congrArg Prod.fst hs).symm) (fun j hj => (zluN hj).trans (ho j hj)) ((zor4 _ _ _ _).trans (congrArg (fun s => b0 || s.2) hs).symm) (by omega)
        · rw [tMd_n c3] at hs
          refine ZE_zg (zgi (by omega) (by omega)) ?_
          refine ZE_b2e (zPl9 _ _ _) (ZE_zg (zgi (by omega) (by omega)) ?_)
          rw [zClN hd, hfu (d + 1) (by omega) (by omega)]
          rw [zClN hn, ha]
          exact ih _ _ _ (d + 1) e1 hlt (zluS.trans (congrArg Prod.fst hs).symm) (fun j hj => (zluN hj).trans (ho j hj)) ((zor3 _ _ _).trans (congrArg (fun s => b0 || s.2) hs).symm) (by omega)

set_option maxHeartbeats 2000000 in
theorem zIn9L1 {P : ((Nat → Int64) × Bool) → Prop} (F : Nat) (p0 : Nat → Int64) (v3_0 : Int32) (f1_0 : Nat → Int64) (n : Nat) (hF : 2000 ≤ F) (hn : v3_0.toInt = n) (h1 : 1 ≤ n) (h2 : n ≤ 120) (u w : Nat → Int64) (hfu : ∀ j, 1 ≤ j → j ≤ 120 → p0 j = u j) (hfw : ∀ j, 1 ≤ j → j < n → f1_0 j = w j) (b0 : Bool) (k : Int64 → Int32 → Bool → Option ((Nat → Int64) × Bool)) (hk : ∀ (va : Int64) (vd : Int32) (bb : Bool), va = (gAcc (tProd u w n) 2 n n).1 → bb = (b0 || (gAcc (tProd u w n) 2 n n).2) → ZE P (k va vd bb)) : ∀ (f : Nat) (va : Int64) (vd : Int32) (bb : Bool) (d : Nat), vd.toInt = ((d + 1 : Nat) : Int) → d ≤ n → 2 ≤ d + 1 → va = (gAcc (tProd u w n) 2 n d).1 → bb = (b0 || (gAcc (tProd u w n) 2 n d).2) → n + 1 - d < f → ZE P (p_X9_inverse_L1 F p0 v3_0 f1_0 k f va vd bb) := by
  intro f
  induction f with
  | zero => intros; rename_i hm; exact absurd hm (Nat.not_lt_zero _)
  | succ f ih =>
    intro va vd bb d hd hdn hlo ha hb hm
    subst ha
    subst hb
    generalize hva : (gAcc (tProd u w n) 2 n d).1 = va
    generalize hvb : (gAcc (tProd u w n) 2 n d).2 = vb
    show ZE P (if v3_0 < vd then (k va vd (b0 || vb)) else (zg (vd = 0) (if ¬ (zr v3_0 vd) = 0 then (p_X9_inverse_L1 F p0 v3_0 f1_0 k f va (vd + (1 : Int32)) (b0 || vb)) else (zg (vd < 0 ∨ 121 ≤ vd.toNatClampNeg) (zg (vd = 0) (zg ((v3_0 / vd) < 0 ∨ 121 ≤ (v3_0 / vd).toNatClampNeg) (zb2 (p_X9_times (b0 || vb) (p0 vd.toNatClampNeg) (f1_0 (v3_0 / vd).toNatClampNeg)) (fun r5 ib_6 => (zb2 (p_X9_plus ib_6 va r5) (fun r8 ib_9 => (p_X9_inverse_L1 F p0 v3_0 f1_0 k f r8 (vd + (1 : Int32)) ib_9)))))))))))
    have e1 := zAddN hd (by omega)
    refine ZE_if (fun c => ?_) (fun c => ?_)
    · rw [Int32.lt_iff_toInt_lt] at c
      have : d = n := by omega
      subst this
      exact hk _ _ _ hva.symm (by rw [hvb])
    · rw [Int32.lt_iff_toInt_lt] at c
      have hlt : d < n := by omega
      have hq1 : 1 ≤ n / (d + 1) := Nat.div_pos hlt (by omega)
      have hq2 : n / (d + 1) < n := Nat.div_lt_self h1 (by omega)
      have hdv := zDivN hn hd (by omega)
      refine ZE_zg (zne0 (by omega)) (ZE_if (fun c2 => ?_) (fun c2 => ?_))
      · have nd : ¬ n % (d + 1) = 0 := fun h => c2 ((zDvdN hn hd (by omega)).mpr (Nat.dvd_of_mod_eq_zero h))
        have hs := gAcc_n (T := tProd u w n) (lo := 2) nd
        exact ih _ _ _ (d + 1) e1 hlt (by omega) (by rw [hs, hva]) (by rw [hs, hvb]) (by omega)
      · have nd : n % (d + 1) = 0 := Nat.mod_eq_zero_of_dvd ((zDvdN hn hd (by omega)).mp (Decidable.not_not.mp c2))
        have hs := gAcc_y (T := tProd u w n) (lo := 2) (by omega) nd
        rw [hva, hvb] at hs
        generalize hqe : n / (d + 1) = q at hq1 hq2 hdv
        refine ZE_zg (zgi (by omega) (by omega)) (ZE_zg (zne0 (by omega)) (ZE_zg (zgi (by omega) (by omega)) ?_))
        refine ZE_b2e (zTi9 _ _ _) (ZE_b2e (zPl9 _ _ _) ?_)
        rw [zClN hd, zClN hdv, hfu (d + 1) (by omega) (by omega), hfw q hq1 hq2, ← hqe]
        exact ih _ _ _ (d + 1) e1 hlt (by omega) (congrArg Prod.fst hs).symm ((zor4 _ _ _ _).trans (congrArg (fun s => b0 || s.2) hs).symm) (by omega)

/-- an array with one cell more: from the cell's value and the others -/
theorem zArrC {f g : Nat → Int64} {d : Nat} {s : Nat → Int64} (h : ∀ j, 1 ≤ j → j ≤ d → g j = s j) (ho : ∀ j, j ≠ d + 1 → f j = g j) (hx : f (d + 1) = s (d + 1)) : ∀ j, 1 ≤ j → j ≤ d + 1 → f j = s j := by
  intro j j1 j2
  by_cases e : j = d + 1
  · rw [e, hx]
  · rw [ho j e]
    exact h j j1 (by omega)

set_option maxHeartbeats 2000000 in
theorem zPr9L0 {P : ((Nat → Int64) × Bool) → Prop} (F : Nat) (p0 : Nat → Int64) (p1 : Nat → Int64) (hF : 2000 ≤ F) (u w : Nat → Int64) (hfu : ∀ j, 1 ≤ j → j ≤ 120 → p0 j = u j) (hfw : ∀ j, 1 ≤ j → j ≤ 120 → p1 j = w j) (b0 : Bool) (k : Int32 → Bool → (Nat → Int64) → Option ((Nat → Int64) × Bool)) (hk : ∀ (vd : Int32) (bb : Bool) (fr : Nat → Int64), (∀ j, 1 ≤ j → j ≤ 120 → fr j = (sProd u w j).1) → bb = (b0 || gOr (fun j => (sProd u w j).2) 120) → ZE P (k vd bb fr)) : ∀ (f : Nat) (vd : Int32) (bb : Bool) (fr : Nat → Int64) (d : Nat), vd.toInt = ((d + 1 : Nat) : Int) → d ≤ 120 → (∀ j, d < j → fr j = 0) → (∀ j, 1 ≤ j → j ≤ d → fr j = (sProd u w j).1) → bb = (b0 || gOr (fun j => (sProd u w j).2) d) → 121 - d < f → ZE P (p_X9_product_L0 F p0 p1 k f vd bb fr) := by
  intro f
  induction f with
  | zero => intros; rename_i hm; exact absurd hm (Nat.not_lt_zero _)
  | succ f ih =>
    intro vd bb fr d hd hdn hZ hB hC hm
    show ZE P (if (120 : Int32) < vd then (k vd bb fr) else (p_X9_product_L1 F p0 p1 vd (fun v5_1 ibL1 f2_1 => (p_X9_product_L0 F p0 p1 k f (vd + (1 : Int32)) ibL1 f2_1)) F (1 : Int32) bb fr))
    have e1 := zAddN hd (by omega)
    have o120 : (120 : Int32).toInt = 120 := by decide
    refine ZE_if (fun c => ?_) (fun c => ?_)
    · rw [Int32.lt_iff_toInt_lt, o120] at c
      have hde : d = 120 := by omega
      subst hde
      exact hk _ _ _ hB hC
    · rw [Int32.lt_iff_toInt_lt, o120] at c
      have hlt : d < 120 := by omega
      refine zPr9L1 F p0 p1 vd (d + 1) hF hd (by omega) (by omega) u w hfu hfw bb fr _ (fun vd2 b2 fr2 ha ho hb => ?_) F 1 bb fr 0 (by decide) (by omega) (hZ (d + 1) (by omega)) (fun _ _ => rfl) (Bool.or_false _).symm (by omega)
      exact ih _ _ _ (d + 1) e1 hlt (fun j hj => (ho j (by omega)).trans (hZ j (by omega))) (zArrC hB ho ha) (by rw [hb, hC]; exact Bool.or_assoc _ _ _) (by omega)

def sMd (p : Int32) (u : Nat → Int64) (n : Nat) : Int64 × Bool := gAcc (tMd p u n) 1 n n
def sMe (p : Int32) (u : Nat → Int64) (n : Nat) : Int64 × Bool := if ¬ p = 4 then sPla u n else sTur u n

set_option maxHeartbeats 2000000 in
theorem zMd9L0 {P : ((Nat → Int64) × Bool) → Prop} (F : Nat) (p0 : Nat → Int64) (p1 : Int32) (hF : 2000 ≤ F) (u : Nat → Int64) (hfu : ∀ j, 1 ≤ j → j ≤ 120 → p0 j = u j) (h3 : ¬ (3 : Int32) ≤ p1) (b0 : Bool) (k : Int32 → Bool → (Nat → Int64) → Option ((Nat → Int64) × Bool)) (hk : ∀ (vd : Int32) (bb : Bool) (fr : Nat → Int64), (∀ j, 1 ≤ j → j ≤ 120 → fr j = (sMd p1 u j).1) → bb = (b0 || gOr (fun j => (sMd p1 u j).2) 120) → ZE P (k vd bb fr)) : ∀ (f : Nat) (vd : Int32) (bb : Bool) (fr : Nat → Int64) (d : Nat), vd.toInt = ((d + 1 : Nat) : Int) → d ≤ 120 → (∀ j, d < j → fr j = 0) → (∀ j, 1 ≤ j → j ≤ d → fr j = (sMd p1 u j).1) → bb = (b0 || gOr (fun j => (sMd p1 u j).2) d) → 121 - d < f → ZE P (p_X9_made_L0 F p0 p1 k f vd bb fr) := by
  intro f
  induction f with
  | zero => intros; rename_i hm; exact absurd hm (Nat.not_lt_zero _)
  | succ f ih =>
    intro vd bb fr d hd hdn hZ hB hC hm
    show ZE P (if (120 : Int32) < vd then (k vd bb fr) else (zlt (fun (cibj0 : Bool) (t1j0 : Nat → Int64) => (p_X9_made_L1 F p0 p1 vd (fun v5_1 ibL1 f1_1 => (p_X9_made_L0 F p0 p1 k f (vd + (1 : Int32)) ibL1 f1_1)) F (1 : Int32) cibj0 t1j0)) (fun jf0 => (if p1 ≤ (3 : Int32) then (jf0 bb fr) else (if ¬ p1 = (4 : Int32) then (zg (vd < 0 ∨ 121 ≤ vd.toNatClampNeg) (zb2 (p_X9_times bb (vd.toInt64) (p0 vd.toNatClampNeg)) (fun r13 ib_14 => (zg (vd < 0 ∨ 121 ≤ vd.toNatClampNeg) (jf0 ib_14 (vp_updL fr vd.toNatClampNeg r13)))))) else (zg (vd < 0 ∨ 121 ≤ vd.toNatClampNeg) (zb2 (p_X9_times bb (-1 : Int64) (p0 vd.toNatClampNeg)) (fun r16 ib_17 => (zg (vd < 0 ∨ 121 ≤ vd.toNatClampNeg) (jf0 ib_17 (vp_updL fr vd.toNatClampNeg r16)))))))))))
    have e1 := zAddN hd (by omega)
    have o120 : (120 : Int32).toInt = 120 := by decide
    refine ZE_if (fun c => ?_) (fun c => ?_)
    · rw [Int32.lt_iff_toInt_lt, o120] at c
      have hde : d = 120 := by omega
      subst hde
      exact hk _ _ _ hB hC
    · rw [Int32.lt_iff_toInt_lt, o120] at c
      have hlt : d < 120 := by omega
      have h3' : p1 ≤ 3 := by
        rw [Int32.le_iff_toInt_le] at h3 ⊢
        omega
      refine ZE_lta (ZE_if (fun _ => ?_) (fun q => absurd h3' q))
      refine zMd9L1 F p0 p1 vd (d + 1) hF hd (by omega) (by omega) u hfu h3 bb fr _ (fun vd2 b2 fr2 ha ho hb => ?_) F 1 bb fr 0 (by decide) (by omega) (hZ (d + 1) (by omega)) (fun _ _ => rfl) (Bool.or_false _).symm (by omega)
      exact ih _ _ _ (d + 1) e1 hlt (fun j hj => (ho j (by omega)).trans (hZ j (by omega))) (zArrC hB ho ha) (by rw [hb, hC]; exact Bool.or_assoc _ _ _) (by omega)

theorem zMe9K {P : ((Nat → Int64) × Bool) → Prop} (F : Nat) (p0 : Nat → Int64) (p1 v4_0 : Int32) (n : Nat) (hF : 2000 ≤ F) (hn : v4_0.toInt = n) (h1 : 1 ≤ n) (h4 : 4 ≤ p1) (k : Int32 → Bool → (Nat → Int64) → Option ((Nat → Int64) × Bool)) (bb : Bool) (fr : Nat → Int64) (h : ZE P (k 1 bb fr)) : ZE P (p_X9_made_L1 F p0 p1 v4_0 k F 1 bb fr) := by
  obtain ⟨F', rfl⟩ : ∃ F', F = F' + 1 := ⟨F - 1, by omega⟩
  show ZE P (if v4_0 < (1 : Int32) then (k (1 : Int32) bb fr) else (if (3 : Int32) ≤ p1 then (k (1 : Int32) bb fr) else (zg ((1 : Int32) = 0) (if ¬ (zr v4_0 (1 : Int32)) = 0 then (p_X9_made_L1 (F' + 1) p0 p1 v4_0 k F' ((1 : Int32) + (1 : Int32)) bb fr) else (zg (v4_0 < 0 ∨ 121 ≤ v4_0.toNatClampNeg) (if ¬ p1 = (1 : Int32) then (zb1 (p_X9_signOf (F' + 1) (1 : Int32)) (fun r2 => (zg ((1 : Int32) = 0) (zg ((v4_0 / (1 : Int32)) < 0 ∨ 121 ≤ (v4_0 / (1 : Int32)).toNatClampNeg) (zb2 (p_X9_times bb (r2.toInt64) (p0 (v4_0 / (1 : Int32)).toNatClampNeg)) (fun r4 ib_5 => (zb2 (p_X9_plus ib_5 (fr v4_0.toNatClampNeg) r4) (fun r7 ib_8 => (zg (v4_0 < 0 ∨ 121 ≤ v4_0.toNatClampNeg) (p_X9_made_L1 (F' + 1) p0 p1 v4_0 k F' ((1 : Int32) + (1 : Int32)) ib_8 (vp_updL fr v4_0.toNatClampNeg r7))))))))))) else (zg ((1 : Int32) < 0 ∨ 121 ≤ (1 : Int32).toNatClampNeg) (zb2 (p_X9_plus bb (fr v4_0.toNatClampNeg) (p0 (1 : Int32).toNatClampNeg)) (fun r10 ib_11 => (zg (v4_0 < 0 ∨ 121 ≤ v4_0.toNatClampNeg) (p_X9_made_L1 (F' + 1) p0 p1 v4_0 k F' ((1 : Int32) + (1 : Int32)) ib_11 (vp_updL fr v4_0.toNatClampNeg r10))))))))))))
  have o1 : (1 : Int32).toInt = 1 := by decide
  have o4 : (4 : Int32).toInt = 4 := by decide
  have o3 : (3 : Int32).toInt = 3 := by decide
  refine ZE_if (fun _ => h) (fun _ => ZE_if (fun _ => h) (fun c => absurd ?_ c))
  rw [Int32.le_iff_toInt_le] at h4 ⊢
  omega

set_option maxHeartbeats 2000000 in
theorem zMe9L0 {P : ((Nat → Int64) × Bool) → Prop} (F : Nat) (p0 : Nat → Int64) (p1 : Int32) (hF : 2000 ≤ F) (u : Nat → Int64) (hfu : ∀ j, 1 ≤ j → j ≤ 120 → p0 j = u j) (h4 : (4 : Int32) ≤ p1) (b0 : Bool) (k : Int32 → Bool → (Nat → Int64) → Option ((Nat → Int64) × Bool)) (hk : ∀ (vd : Int32) (bb : Bool) (fr : Nat → Int64), (∀ j, 1 ≤ j → j ≤ 120 → fr j = (sMe p1 u j).1) → bb = (b0 || gOr (fun j => (sMe p1 u j).2) 120) → ZE P (k vd bb fr)) : ∀ (f : Nat) (vd : Int32) (bb : Bool) (fr : Nat → Int64) (d : Nat), vd.toInt = ((d + 1 : Nat) : Int) → d ≤ 120 → (∀ j, 1 ≤ j → j ≤ d → fr j = (sMe p1 u j).1) → bb = (b0 || gOr (fun j => (sMe p1 u j).2) d) → 121 - d < f → ZE P (p_X9_made_L0 F p0 p1 k f vd bb fr) := by
  intro f
  induction f with
  | zero => intros; rename_i hm; exact absurd hm (Nat.not_lt_zero _)
  | succ f ih =>
    intro vd bb fr d hd hdn hB hC hm
    show ZE P (if (120 : Int32) < vd then (k vd bb fr) else (zlt (fun (cibj0 : Bool) (t1j0 : Nat → Int64) => (p_X9_made_L1 F p0 p1 vd (fun v5_1 ibL1 f1_1 => (p_X9_made_L0 F p0 p1 k f (vd + (1 : Int32)) ibL1 f1_1)) F (1 : Int32) cibj0 t1j0)) (fun jf0 => (if p1 ≤ (3 : Int32) then (jf0 bb fr) else (if ¬ p1 = (4 : Int32) then (zg (vd < 0 ∨ 121 ≤ vd.toNatClampNeg) (zb2 (p_X9_times bb (vd.toInt64) (p0 vd.toNatClampNeg)) (fun r13 ib_14 => (zg (vd < 0 ∨ 121 ≤ vd.toNatClampNeg) (jf0 ib_14 (vp_updL fr vd.toNatClampNeg r13)))))) else (zg (vd < 0 ∨ 121 ≤ vd.toNatClampNeg) (zb2 (p_X9_times bb (-1 : Int64) (p0 vd.toNatClampNeg)) (fun r16 ib_17 => (zg (vd < 0 ∨ 121 ≤ vd.toNatClampNeg) (jf0 ib_17 (vp_updL fr vd.toNatClampNeg r16)))))))))))
    have e1 := zAddN hd (by omega)
    have o120 : (120 : Int32).toInt = 120 := by decide
    refine ZE_if (fun c => ?_) (fun c => ?_)
    · rw [Int32.lt_iff_toInt_lt, o120] at c
      have hde : d = 120 := by omega
      subst hde
      exact hk _ _ _ hB hC
    · rw [Int32.lt_iff_toInt_lt, o120] at c
      have hlt : d < 120 := by omega
      have h4' : ¬ p1 ≤ 3 := by
        rw [Int32.le_iff_toInt_le] at h4 ⊢
        have o4 : (4 : Int32).toInt = 4 := by decide
        have o3 : (3 : Int32).toInt = 3 := by decide
        omega
      refine ZE_lta (ZE_if (fun q => absurd q h4') (fun _ => ZE_if (fun c4 => ?_) (fun c4 => ?_)))
      · have he : sMe p1 u (d + 1) = sPla u (d + 1) := if_pos c4
        have hv : vd.toInt64 = nL (d + 1) := by rw [zOf hd]; rfl
        refine ZE_zg (zgi (by omega) (by omega)) (ZE_b2e (zTi9 _ _ _) (ZE_zg (zgi (by omega) (by omega)) ?_))
        refine zMe9K F p0 p1 vd (d + 1) hF hd (by omega) h4 _ _ _ ?_
        rw [zClN hd, hfu (d + 1) (by omega) (by omega), hv]
        exact ih _ _ _ (d + 1) e1 hlt (zArrB hB (congrArg Prod.fst he).symm) (by rw [hC, Bool.or_assoc]; exact (congrArg (fun s => b0 || (gOr (fun j => (sMe p1 u j).2) d || s.2)) he).symm) (by omega)
      · have he : sMe p1 u (d + 1) = sTur u (d + 1) := if_neg c4
        refine ZE_zg (zgi (by omega) (by omega)) (ZE_b2e (zTi9 _ _ _) (ZE_zg (zgi (by omega) (by omega)) ?_))
        refine zMe9K F p0 p1 vd (d + 1) hF hd (by omega) h4 _ _ _ ?_
        rw [zClN hd, hfu (d + 1) (by omega) (by omega)]
        exact ih _ _ _ (d + 1) e1 hlt (zArrB hB (congrArg Prod.fst he).symm) (by rw [hC, Bool.or_assoc]; exact (congrArg (fun s => b0 || (gOr (fun j => (sMe p1 u j).2) d || s.2)) he).symm) (by omega)

set_option maxHeartbeats 2000000 in
theorem zIn9L0 {P : ((Nat → Int64) × Bool) → Prop} (F : Nat) (p0 : Nat → Int64) (hF : 2000 ≤ F) (u : Nat → Int64) (hfu : ∀ j, 1 ≤ j → j ≤ 120 → p0 j = u j) (b0 : Bool) (k : Int32 → Bool → (Nat → Int64) → Option ((Nat → Int64) × Bool)) (hk : ∀ (vd : Int32) (bb : Bool) (fr : Nat → Int64), (∀ j, 1 ≤ j → j ≤ 120 → fr j = iRow u 120 j) → bb = (b0 || gOr (iFl u) 120) → ZE P (k vd bb fr)) : ∀ (f : Nat) (vd : Int32) (bb : Bool) (fr : Nat → Int64) (d : Nat), vd.toInt = ((d + 1 : Nat) : Int) → d ≤ 120 → 1 ≤ d → (∀ j, 1 ≤ j → j ≤ d → fr j = iRow u d j) → bb = (b0 || gOr (iFl u) d) → 121 - d < f → ZE P (p_X9_inverse_L0 F p0 k f vd bb fr) := by
  intro f
  induction f with
  | zero => intros; rename_i hm; exact absurd hm (Nat.not_lt_zero _)
  | succ f ih =>
    intro vd bb fr d hd hdn hlo hB hC hm
    show ZE P (if (120 : Int32) < vd then (k vd bb fr) else (p_X9_inverse_L1 F p0 vd fr (fun v4_1 v6_1 ibL1 => (zb2 (p_X9_times ibL1 v4_1 (-(p0 (1 : Int32).toNatClampNeg))) (fun r2 ib_3 => (zg (vd < 0 ∨ 121 ≤ vd.toNatClampNeg) (p_X9_inverse_L0 F p0 k f (vd + (1 : Int32)) ib_3 (vp_updL fr vd.toNatClampNeg r2)))))) F (0 : Int64) (2 : Int32) bb))
    have e1 := zAddN hd (by omega)
    have o120 : (120 : Int32).toInt = 120 := by decide
    refine ZE_if (fun c => ?_) (fun c => ?_)
    · rw [Int32.lt_iff_toInt_lt, o120] at c
      have hde : d = 120 := by omega
      subst hde
      exact hk _ _ _ hB hC
    · rw [Int32.lt_iff_toInt_lt, o120] at c
      have hlt : d < 120 := by omega
      have hg := gAcc_2 (tProd u (iRow u d) (d + 1)) (d + 1)
      refine zIn9L1 F p0 vd fr (d + 1) hF hd (by omega) (by omega) u (iRow u d) hfu (fun j j1 j2 => hB j j1 (by omega)) bb _ (fun va vd2 b2 ha hb => ?_) F 0 2 bb 1 (by decide) (by omega) (by omega) (by rw [hg]) (by rw [hg, Bool.or_false]) (by omega)
      refine ZE_b2e (zTi9 _ _ _) (ZE_zg (zgi (by omega) (by omega)) ?_)
      rw [zClN hd, show (1 : Int32).toNatClampNeg = 1 from rfl, hfu 1 (by omega) (by omega)]
      refine ih _ _ _ (d + 1) e1 hlt (by omega) (zArrB (s := iRow u (d + 1)) (fun j j1 j2 => (hB j j1 j2).trans (iRow_o (by omega)).symm) (by rw [ha, iRow_s (by omega)])) ?_ (by omega)
      rw [hb, hC, ha, zor4]
      show (b0 || (gOr (iFl u) d || (_ || _))) = (b0 || (gOr (iFl u) d || iFl u (d + 1)))
      rw [iFl_s (by omega)]

-- ==================== the one by primes, by the reference
def nWo (p : Nat) : Nat → Nat → Nat
  | 0, m => m
  | f + 1, m => if m % p = 0 then nF (m / p) (nWo p f) else m
def rPP : Nat → Nat → List Nat
  | 0, _ => []
  | f + 1, m => if m ≤ 1 then [] else nF (nLst m 1000 2) (fun p => nF (nWo p 12 m) (fun x => (m / x) :: rPP f x))
def cRp (n : Nat) : Bool := rPP 12 n == nPq n && (n ≤ 1 || decide (1 ≤ nWo (nLst n 1000 2) 12 n ∧ 2 * nWo (nLst n 1000 2) 12 n ≤ n ∧ 1 ≤ n / nWo (nLst n 1000 2) 12 n ∧ n / nWo (nLst n 1000 2) 12 n ≤ 120))
theorem cRpA : (List.range 120).all (fun i => cRp (i + 1)) = true := by decide +kernel
theorem cRpS (n : Nat) (h1 : 1 ≤ n) (h2 : n ≤ 120) : rPP 12 n = nPq n ∧ (2 ≤ n → 1 ≤ nWo (nLst n 1000 2) 12 n ∧ 2 * nWo (nLst n 1000 2) 12 n ≤ n ∧ 1 ≤ n / nWo (nLst n 1000 2) 12 n ∧ n / nWo (nLst n 1000 2) 12 n ≤ 120) := by
  have h := List.all_eq_true.mp cRpA (n - 1) (List.mem_range.mpr (by omega))
  rw [show n - 1 + 1 = n by omega] at h
  have h' : (rPP 12 n == nPq n && (n ≤ 1 || decide (1 ≤ nWo (nLst n 1000 2) 12 n ∧ 2 * nWo (nLst n 1000 2) 12 n ≤ n ∧ 1 ≤ n / nWo (nLst n 1000 2) 12 n ∧ n / nWo (nLst n 1000 2) 12 n ≤ 120))) = true := h
  simp only [Bool.and_eq_true, Bool.or_eq_true, beq_iff_eq, decide_eq_true_eq] at h'
  refine ⟨h'.1, fun h3 => ?_⟩
  rcases h'.2 with h4 | h4
  · omega
  · exact h4

set_option maxHeartbeats 2000000 in
theorem zWo9L {P : Int32 → Prop} (F : Nat) (p1 : Int32) (p T : Nat) (hp : p1.toInt = p) (hp2 : 2 ≤ p) (k : Int32 → Option Int32) (hk : ∀ a : Int32, a.toInt = (T : Int) → ZE P (k a)) : ∀ (f : Nat) (va : Int32) (m g : Nat), va.toInt = (m : Int) → 1 ≤ m → m < 2 ^ g → nWo p g m = T → m < f → ZE P (p_X9_without_L0 F p1 k f va) := by
  intro f
  induction f with
  | zero => intros; rename_i hm; exact absurd hm (Nat.not_lt_zero _)
  | succ f ih =>
    intro va m g ha h1 hg hT hm
    show ZE P (zg (p1 = 0) (if ¬ (zr va p1) = 0 then (k va) else (zg (p1 = 0) (p_X9_without_L0 F p1 k f (va / p1)))))
    cases g with
    | zero => exact absurd hg (by rw [Nat.pow_zero]; omega)
    | succ g =>
      have hT' : (if m % p = 0 then nF (m / p) (nWo p g) else m) = T := hT
      refine ZE_zg (zne0 (by omega)) (ZE_if (fun c => ?_) (fun c => ?_))
      · rw [if_neg (fun h => c ((zDvdN ha hp (by omega)).mpr (Nat.dvd_of_mod_eq_zero h)))] at hT'
        exact hk _ (by rw [ha, hT'])
      · have hd := (zDvdN ha hp (by omega)).mp (Decidable.not_not.mp c)
        rw [if_pos (Nat.mod_eq_zero_of_dvd hd), nF_eq] at hT'
        have hle : m / p ≤ m / 2 := Nat.div_le_div_left hp2 (by omega)
        rw [Nat.pow_succ] at hg
        exact ZE_zg (zne0 (by omega)) (ih _ (m / p) g (zDivN ha hp (by omega)) (Nat.div_pos (Nat.le_of_dvd h1 hd) (by omega)) (by omega) hT' (by omega))
theorem zWo9 (F : Nat) (p0 p1 : Int32) (m p : Nat) (hF : 2000 ≤ F) (hm : p0.toInt = m) (hp : p1.toInt = p) (h1 : 1 ≤ m) (h2 : m ≤ 1000) (hp2 : 2 ≤ p) : ZE (fun (r : Int32) => r.toInt = ((nWo p 12 m : Nat) : Int)) (p_X9_without F p0 p1) := by
  unfold p_X9_without
  exact zWo9L F p1 p _ hp hp2 _ (fun a h => ⟨_, rfl, h⟩) F p0 m 12 hm h1 (by rw [show (2 ^ 12 : Nat) = 4096 from rfl]; omega) rfl (by omega)

set_option maxHeartbeats 2000000 in
theorem zBy9L1 {P : ((Nat → Int64) × Bool) → Prop} (F : Nat) (p0 : Nat → Int64) (v3_0 : Int32) (n : Nat) (hF : 2000 ≤ F) (hn : v3_0.toInt = n) (h1 : 1 ≤ n) (h2 : n ≤ 120) (u : Nat → Int64) (hfu : ∀ j, 1 ≤ j → j ≤ 120 → p0 j = u j) (S : Int64 × Bool) (b0 : Bool) (g0 : Nat → Int64) (k : Int32 → Bool → (Nat → Int64) → Option ((Nat → Int64) × Bool)) (hk : ∀ (vd : Int32) (bb : Bool) (fr : Nat → Int64), fr n = S.1 → (∀ j, j ≠ n → fr j = g0 j) → bb = (b0 || S.2) → ZE P (k vd bb fr)) : ∀ (f : Nat) (vd : Int32) (bb : Bool) (fr : Nat → Int64) (m g : Nat) (s2 : Bool), vd.toInt = (m : Int) → 1 ≤ m → m ≤ 120 → m < 2 ^ g → (∀ j, j ≠ n → fr j = g0 j) → bb = (b0 || s2) → gFold u (fr n, s2) (rPP g m) = S → m < f → ZE P (p_X9_byPrimes_L1 F p0 v3_0 k f vd bb fr) := by
  intro f
  induction f with
  | zero => intros; rename_i hm; exact absurd hm (Nat.not_lt_zero _)
  | succ f ih =>
    intro vd bb fr m g s2 hd m1 m2 hg ho hb hS hm
    show ZE P (if vd ≤ (1 : Int32) then (k vd bb fr) else (zg (v3_0 < 0 ∨ 121 ≤ v3_0.toNatClampNeg) (zb1 (p_X9_least F vd) (fun r2 => (zb1 (p_X9_without F vd r2) (fun r4 => (zg (r4 = 0) (zg ((vd / r4) < 0 ∨ 121 ≤ (vd / r4).toNatClampNeg) (zb2 (p_X9_times bb (fr v3_0.toNatClampNeg) (p0 (vd / r4).toNatClampNeg)) (fun r6 ib_7 => (zg (v3_0 < 0 ∨ 121 ≤ v3_0.toNatClampNeg) (zb1 (p_X9_least F vd) (fun r9 => (zb1 (p_X9_without F vd r9) (fun r11 => (p_X9_byPrimes_L1 F p0 v3_0 k f r11 ib_7 (vp_updL fr v3_0.toNatClampNeg r6)))))))))))))))))
    have o1 : (1 : Int32).toInt = 1 := by decide
    refine ZE_if (fun c => ?_) (fun c => ?_)
    · rw [Int32.le_iff_toInt_le, o1] at c
      have hp0 : rPP g m = [] := by
        cases g with
        | zero => rfl
        | succ g => exact if_pos (by omega)
      rw [hp0] at hS
      have hS' : (fr n, s2) = S := hS
      exact hk _ _ _ (by rw [← hS']) ho (by rw [← hS', hb])
    · rw [Int32.le_iff_toInt_le, o1] at c
      have hm2 : 2 ≤ m := by omega
      cases g with
      | zero => exact absurd hg (by rw [Nat.pow_zero]; omega)
      | succ g =>
        have hr : rPP (g + 1) m = (m / nWo (nLst m 1000 2) 12 m) :: rPP g (nWo (nLst m 1000 2) 12 m) := by
          show (if m ≤ 1 then [] else nF (nLst m 1000 2) (fun p => nF (nWo p 12 m) (fun x => (m / x) :: rPP g x))) = _
          rw [if_neg (by omega), nF_eq, nF_eq]
        rw [hr] at hS
        obtain ⟨x1, x2, x3, x4⟩ := (cRpS m m1 m2).2 hm2
        rw [Nat.pow_succ] at hg
        refine ZE_zg (zgi (by omega) (by omega)) ?_
        refine ZE_b1 (zLst9 F vd m hF hd hm2 (by omega)) (fun r2 h2r => ?_)
        refine ZE_b1 (zWo9 F vd r2 m _ hF hd h2r.1 m1 (by omega) h2r.2.1) (fun r4 h4r => ?_)
        have hdv := zDivN hd h4r x1
        generalize hxe : nWo (nLst m 1000 2) 12 m = x at hS x1 x2 x3 x4 h4r hdv
        generalize hqe : m / x = q at hS x3 x4 hdv
        refine ZE_zg (zne0 (by omega)) (ZE_zg (zgi (by omega) (by omega)) ?_)
        refine ZE_b2e (zTi9 _ _ _) (ZE_zg (zgi (by omega) (by omega)) ?_)
        refine ZE_b1 (zLst9 F vd m hF hd hm2 (by omega)) (fun r9 h9r => ?_)
        refine ZE_b1 (zWo9 F vd r9 m _ hF hd h9r.1 m1 (by omega) h9r.2.1) (fun r11 h11r => ?_)
        rw [hxe] at h11r
        rw [zClN hn, zClN hdv, hfu q x3 x4]
        refine ih _ _ _ x g (s2 || !letp (fr n) (u q)) h11r x1 (by omega) (by omega) (fun j hj => (zluN hj).trans (ho j hj)) (by rw [hb, Bool.or_assoc]) ?_ (by omega)
        rw [zluS]
        exact hS

set_option maxHeartbeats 2000000 in
theorem zBy9L0 {P : ((Nat → Int64) × Bool) → Prop} (F : Nat) (p0 : Nat → Int64) (hF : 2000 ≤ F) (u : Nat → Int64) (hfu : ∀ j, 1 ≤ j → j ≤ 120 → p0 j = u j) (b0 : Bool) (k : Int32 → Bool → (Nat → Int64) → Option ((Nat → Int64) × Bool)) (hk : ∀ (vd : Int32) (bb : Bool) (fr : Nat → Int64), (∀ j, 1 ≤ j → j ≤ 120 → fr j = (sPri u j).1) → bb = (b0 || gOr (fun j => (sPri u j).2) 120) → ZE P (k vd bb fr)) : ∀ (f : Nat) (vd : Int32) (bb : Bool) (fr : Nat → Int64) (d : Nat), vd.toInt = ((d + 1 : Nat) : Int) → d ≤ 120 → (∀ j, 1 ≤ j → j ≤ d → fr j = (sPri u j).1) → bb = (b0 || gOr (fun j => (sPri u j).2) d) → 121 - d < f → ZE P (p_X9_byPrimes_L0 F p0 k f vd bb fr) := by
  intro f
  induction f with
  | zero => intros; rename_i hm; exact absurd hm (Nat.not_lt_zero _)
  | succ f ih =>
    intro vd bb fr d hd hdn hB hC hm
    show ZE P (if (120 : Int32) < vd then (k vd bb fr) else (zg (vd < 0 ∨ 121 ≤ vd.toNatClampNeg) (p_X9_byPrimes_L1 F p0 vd (fun v4_1 ibL1 f1_1 => (p_X9_byPrimes_L0 F p0 k f (vd + (1 : Int32)) ibL1 f1_1)) F vd bb (vp_updL fr vd.toNatClampNeg (1 : Int64)))))
    have e1 := zAddN hd (by omega)
    have o120 : (120 : Int32).toInt = 120 := by decide
    refine ZE_if (fun c => ?_) (fun c => ?_)
    · rw [Int32.lt_iff_toInt_lt, o120] at c
      have hde : d = 120 := by omega
      subst hde
      exact hk _ _ _ hB hC
    · rw [Int32.lt_iff_toInt_lt, o120] at c
      have hlt : d < 120 := by omega
      refine ZE_zg (zgi (by omega) (by omega)) ?_
      rw [zClN hd]
      refine zBy9L1 F p0 vd (d + 1) hF hd (by omega) (by omega) u hfu (sPri u (d + 1)) bb fr _ (fun vd2 b2 fr2 ha ho hb => ?_) F vd bb _ (d + 1) 12 false hd (by omega) (by omega) (by rw [show (2 ^ 12 : Nat) = 4096 from rfl]; omega) (fun j hj => zluN hj) (Bool.or_false _).symm (by rw [zluS, (cRpS (d + 1) (by omega) (by omega)).1]; rfl) (by omega)
      exact ih _ _ _ (d + 1) e1 hlt (zArrC hB ho ha) (by rw [hb, hC]; exact Bool.or_assoc _ _ _) (by omega)

-- ==================== the reference's cells as arrays, and back
set_option maxHeartbeats 2000000 in
theorem zOf9L {P : (Nat → Int64) → Prop} (F : Nat) (V : Nat → Int64) (p0 : Int32) (x : Nat) (hx : p0.toInt = x) (hx3 : x ≤ 3) (k : Int32 → (Nat → Int64) → Option ((Nat → Int64))) (hk : ∀ (vd : Int32) (fr : Nat → Int64), (∀ j, 1 ≤ j → j ≤ 120 → fr j = V (121 * x + j)) → ZE P (k vd fr)) : ∀ (f : Nat) (vd : Int32) (fr : Nat → Int64) (d : Nat), vd.toInt = ((d + 1 : Nat) : Int) → d ≤ 120 → (∀ j, 1 ≤ j → j ≤ d → fr j = V (121 * x + j)) → 121 - d < f → ZE P (p_X9_of_L0 F V p0 k f vd fr) := by
  intro f
  induction f with
  | zero => intros; rename_i hm; exact absurd hm (Nat.not_lt_zero _)
  | succ f ih =>
    intro vd fr d hd hdn hB hm
    show ZE P (if (120 : Int32) < vd then (k vd fr) else (zb1 (p_X9_at V p0 vd) (fun r2 => (zg (vd < 0 ∨ 121 ≤ vd.toNatClampNeg) (p_X9_of_L0 F V p0 k f (vd + (1 : Int32)) (vp_updL fr vd.toNatClampNeg r2))))))
    have e1 := zAddN hd (by omega)
    have o120 : (120 : Int32).toInt = 120 := by decide
    refine ZE_if (fun c => ?_) (fun c => ?_)
    · rw [Int32.lt_iff_toInt_lt, o120] at c
      have hde : d = 120 := by omega
      subst hde
      exact hk _ _ hB
    · rw [Int32.lt_iff_toInt_lt, o120] at c
      refine ZE_b1e (zAt9 V hx hx3 hd (by omega)) (ZE_zg (zgi (by omega) (by omega)) ?_)
      rw [zClN hd]
      exact ih _ _ (d + 1) e1 (by omega) (zArrB (s := fun j => V (121 * x + j)) hB rfl) (by omega)
theorem zOf9 (F : Nat) (V : Nat → Int64) (p0 : Int32) (x : Nat) (hF : 2000 ≤ F) (hx : p0.toInt = x) (hx3 : x ≤ 3) : ZE (fun (r : Nat → Int64) => ∀ j, 1 ≤ j → j ≤ 120 → r j = V (121 * x + j)) (p_X9_of F V p0) := by
  unfold p_X9_of
  exact zOf9L F V p0 x hx hx3 _ (fun vd fr h => ⟨_, rfl, h⟩) F 1 _ 0 (by decide) (by omega) (fun j j1 j2 => by omega) (by omega)

set_option maxHeartbeats 2000000 in
theorem zBe9L {P : (Int32 × (Nat → Int64) × Int32) → Prop} (F : Nat) (p0 : Int32) (p1 : Nat → Int64) (x : Nat) (hx : p0.toInt = x) (hx3 : x ≤ 3) (V : Nat → Int64) (u : Nat → Int64) (hfu : ∀ j, 1 ≤ j → j ≤ 120 → p1 j = u j) (k : Int32 → Int32 → (Nat → Int64) → Option (Int32 × (Nat → Int64) × Int32)) (hk : ∀ (va vd : Int32) (VL : Nat → Int64), va = Int32.ofInt ((gCnt (fun j => V (121 * x + j)) u 120 : Nat) : Int) → (∀ i, (∀ j, 1 ≤ j → j ≤ 120 → i ≠ 121 * x + j) → VL i = V i) → (∀ j, 1 ≤ j → j ≤ 120 → VL (121 * x + j) = u j) → ZE P (k va vd VL)) : ∀ (f : Nat) (va vd : Int32) (VL : Nat → Int64) (d : Nat), vd.toInt = ((d + 1 : Nat) : Int) → d ≤ 120 → va = Int32.ofInt ((gCnt (fun j => V (121 * x + j)) u d : Nat) : Int) → (∀ i, (∀ j, 1 ≤ j → j ≤ d → i ≠ 121 * x + j) → VL i = V i) → (∀ j, 1 ≤ j → j ≤ d → VL (121 * x + j) = u j) → 121 - d < f → ZE P (p_X9_become_L0 F p0 p1 k f va vd VL) := by
  intro f
  induction f with
  | zero => intros; rename_i hm; exact absurd hm (Nat.not_lt_zero _)
  | succ f ih =>
    intro va vd VL d hd hdn ha hA hB hm
    show ZE P (if (120 : Int32) < vd then (k va vd VL) else (zb1 (p_X9_at VL p0 vd) (fun r1 => (zg (vd < 0 ∨ 121 ≤ vd.toNatClampNeg) (if (lg_cmp r1 (p1 vd.toNatClampNeg)) = 0 then (zg (vd < 0 ∨ 121 ≤ vd.toNatClampNeg) (zg ((((121 : Int32) * p0) + vd) < 0 ∨ 484 ≤ (((121 : Int32) * p0) + vd).toNatClampNeg) (p_X9_become_L0 F p0 p1 k f (va + (0 : Int32)) (vd + (1 : Int32)) (vp_updL VL (((121 : Int32) * p0) + vd).toNatClampNeg (p1 vd.toNatClampNeg))))) else (zg (vd < 0 ∨ 121 ≤ vd.toNatClampNeg) (zg ((((121 : Int32) * p0) + vd) < 0 ∨ 484 ≤ (((121 : Int32) * p0) + vd).toNatClampNeg) (p_X9_become_L0 F p0 p1 k f (va + (1 : Int32)) (vd + (1 : Int32)) (vp_updL VL (((121 : Int32) * p0) + vd).toNatClampNeg (p1 vd.toNatClampNeg))))))))))
    have e1 := zAddN hd (by omega)
    have o120 : (120 : Int32).toInt = 120 := by decide
    refine ZE_if (fun c => ?_) (fun c => ?_)
    · rw [Int32.lt_iff_toInt_lt, o120] at c
      have hde : d = 120 := by omega
      subst hde
      exact hk _ _ _ ha hA hB
    · rw [Int32.lt_iff_toInt_lt, o120] at c
      have hV : VL (121 * x + (d + 1)) = V (121 * x + (d + 1)) := hA _ (fun j j1 j2 => by omega)
      have hA' : ∀ y : Int64, ∀ i, (∀ j, 1 ≤ j → j ≤ d + 1 → i ≠ 121 * x + j) → vp_updL VL (121 * x + (d + 1)) y i = V i := fun y i hi => (zluN (hi (d + 1) (by omega) (by omega))).trans (hA i (fun j j1 j2 => hi j j1 (by omega)))
      have hB' : ∀ j, 1 ≤ j → j ≤ d + 1 → vp_updL VL (121 * x + (d + 1)) (u (d + 1)) (121 * x + j) = u j := by
        intro j j1 j2
        by_cases e : j = d + 1
        · rw [e, zluS]
        · rw [zluN (by omega)]
          exact hB j j1 (by omega)
      refine ZE_b1e (zAt9 VL hx hx3 hd (by omega)) (ZE_zg (zgi (by omega) (by omega)) ?_)
      rw [zClN hd, zIxN hx hx3 hd (by omega), hV, hfu (d + 1) (by omega) (by omega)]
      refine ZE_if (fun c2 => ?_) (fun c2 => ?_)
      · refine ZE_zg (by show ¬ (vd < 0 ∨ 121 ≤ d + 1); rw [← zClN hd]; exact zgi (by omega) (by omega)) (ZE_zg (by rw [← zIxN hx hx3 hd (by omega)]; exact zatg (by omega) (by omega) (by omega) (by omega)) ?_)
        have hs : ((gCnt (fun j => V (121 * x + j)) u (d + 1) : Nat) : Int) = ((gCnt (fun j => V (121 * x + j)) u d : Nat) : Int) + 0 := by
          show ((gCnt (fun j => V (121 * x + j)) u d + (if V (121 * x + (d + 1)) = u (d + 1) then 0 else 1) : Nat) : Int) = _
          rw [if_pos (lgc0.mp c2)]
          rfl
        exact ih _ _ _ (d + 1) e1 (by omega) (zAcc ha zof0 hs) (hA' _) hB' (by omega)
      · refine ZE_zg (by show ¬ (vd < 0 ∨ 121 ≤ d + 1); rw [← zClN hd]; exact zgi (by omega) (by omega)) (ZE_zg (by rw [← zIxN hx hx3 hd (by omega)]; exact zatg (by omega) (by omega) (by omega) (by omega)) ?_)
        have hs : ((gCnt (fun j => V (121 * x + j)) u (d + 1) : Nat) : Int) = ((gCnt (fun j => V (121 * x + j)) u d : Nat) : Int) + ((1 : Nat) : Int) := by
          show ((gCnt (fun j => V (121 * x + j)) u d + (if V (121 * x + (d + 1)) = u (d + 1) then 0 else 1) : Nat) : Int) = _
          rw [if_neg (fun h => c2 (lgc0.mpr h))]
          rfl
        exact ih _ _ _ (d + 1) e1 (by omega) (zAcc ha zof1 hs) (hA' _) hB' (by omega)
/-- what a function becomes, on both sides -/
def zBec (V V' : Nat → Int64) (x : Nat) (u : Nat → Int64) : Prop := (∀ i, (∀ j, 1 ≤ j → j ≤ 120 → i ≠ 121 * x + j) → V' i = V i) ∧ (∀ j, 1 ≤ j → j ≤ 120 → V' (121 * x + j) = u j)
theorem zBe9 (F : Nat) (V : Nat → Int64) (dn p0 : Int32) (p1 : Nat → Int64) (x : Nat) (hF : 2000 ≤ F) (hx : p0.toInt = x) (hx3 : x ≤ 3) (u : Nat → Int64) (hfu : ∀ j, 1 ≤ j → j ≤ 120 → p1 j = u j) : ZE (fun (r : (Int32 × (Nat → Int64) × Int32)) => r.1 = Int32.ofInt ((gCnt (fun j => V (121 * x + j)) u 120 : Nat) : Int) ∧ zBec V r.2.1 x u ∧ r.2.2 = dn + 1) (p_X9_become F V dn p0 p1) := by
  unfold p_X9_become
  exact zBe9L F p0 p1 x hx hx3 V u hfu _ (fun va vd VL ha hA hB => ⟨_, rfl, ha, ⟨hA, hB⟩, rfl⟩) F 0 1 V 0 (by decide) (by omega) rfl (fun i _ => rfl) (fun j j1 j2 => by omega) (by omega)
