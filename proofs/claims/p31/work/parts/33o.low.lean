-- ==================== counts of unlike places
theorem gCnt_comm (f g : Nat → Int64) : ∀ n, gCnt f g n = gCnt g f n := by
  intro n
  induction n with
  | zero => rfl
  | succ n ih =>
    show gCnt f g n + (if f (n + 1) = g (n + 1) then 0 else 1) = gCnt g f n + (if g (n + 1) = f (n + 1) then 0 else 1)
    rw [ih]
    by_cases h : f (n + 1) = g (n + 1)
    · rw [if_pos h, if_pos h.symm]
    · rw [if_neg h, if_neg (fun q => h q.symm)]
set_option maxHeartbeats 2000000 in
theorem zCu7L {P : Int32 → Prop} (F : Nat) (R : Nat → Nat → Int64) (i0 p0 : Nat) (u w : Nat → Int64) (hfu : ∀ j, 1 ≤ j → j ≤ 120 → R i0 j = u j) (hfw : ∀ j, 1 ≤ j → j ≤ 120 → R p0 j = w j) (k : Int32 → Int32 → Option Int32) (hk : ∀ va vd : Int32, va = Int32.ofInt ((gCnt u w 120 : Nat) : Int) → ZE P (k va vd)) : ∀ (f : Nat) (va vd : Int32) (d : Nat), vd.toInt = ((d + 1 : Nat) : Int) → d ≤ 120 → va = Int32.ofInt ((gCnt u w d : Nat) : Int) → 121 - d < f → ZE P (p_X4_countUnlike_L0 F R i0 p0 k f va vd) := by
  intro f
  induction f with
  | zero => intros; rename_i hm; exact absurd hm (Nat.not_lt_zero _)
  | succ f ih =>
    intro va vd d hd hdn ha hm
    show ZE P (if (120 : Int32) < vd then (k va vd) else (zg (vd < 0 ∨ 121 ≤ vd.toNatClampNeg) (zg (vd < 0 ∨ 121 ≤ vd.toNatClampNeg) (if ¬ (lg_cmp (R i0 vd.toNatClampNeg) (R p0 vd.toNatClampNeg)) = 0 then (p_X4_countUnlike_L0 F R i0 p0 k f (va + (1 : Int32)) (vd + (1 : Int32))) else (p_X4_countUnlike_L0 F R i0 p0 k f (va + (0 : Int32)) (vd + (1 : Int32)))))))
    have e1 := zAddN hd (by omega)
    have o120 : (120 : Int32).toInt = 120 := by decide
    refine ZE_if (fun c => ?_) (fun c => ?_)
    · rw [Int32.lt_iff_toInt_lt, o120] at c
      have hde : d = 120 := by omega
      subst hde
      exact hk _ _ ha
    · rw [Int32.lt_iff_toInt_lt, o120] at c
      refine ZE_zg (zgi (by omega) (by omega)) (ZE_zg (zgi (by omega) (by omega)) ?_)
      rw [zClN hd, hfu (d + 1) (by omega) (by omega), hfw (d + 1) (by omega) (by omega)]
      refine ZE_if (fun c2 => ?_) (fun c2 => ?_)
      · have hs : ((gCnt u w (d + 1) : Nat) : Int) = ((gCnt u w d : Nat) : Int) + ((1 : Nat) : Int) := by
          show ((gCnt u w d + (if u (d + 1) = w (d + 1) then 0 else 1) : Nat) : Int) = _
          rw [if_neg (fun h => c2 (lgc0.mpr h))]
          rfl
        exact ih _ _ (d + 1) e1 (by omega) (zAcc ha zof1 hs) (by omega)
      · have hs : ((gCnt u w (d + 1) : Nat) : Int) = ((gCnt u w d : Nat) : Int) + 0 := by
          show ((gCnt u w d + (if u (d + 1) = w (d + 1) then 0 else 1) : Nat) : Int) = _
          rw [if_pos (lgc0.mp (Decidable.not_not.mp c2))]
          rfl
        exact ih _ _ (d + 1) e1 (by omega) (zAcc ha zof0 hs) (by omega)
theorem zCu7 (F : Nat) (R : Nat → Nat → Int64) (i0 p0 : Nat) (hF : 2000 ≤ F) (u w : Nat → Int64) (hfu : ∀ j, 1 ≤ j → j ≤ 120 → R i0 j = u j) (hfw : ∀ j, 1 ≤ j → j ≤ 120 → R p0 j = w j) : ZE (fun (r : Int32) => r = Int32.ofInt ((gCnt u w 120 : Nat) : Int)) (p_X4_countUnlike F R i0 p0) := by
  unfold p_X4_countUnlike
  exact zCu7L F R i0 p0 u w hfu hfw _ (fun va vd h => ⟨_, rfl, h⟩) F 0 1 0 (by decide) (by omega) rfl (by omega)

set_option maxHeartbeats 2000000 in
theorem zTf7L {P : (Int32 × (Nat → Nat → Int64)) → Prop} (F : Nat) (i0 p0 : Nat) (R : Nat → Nat → Int64) (k : Int32 → (Nat → Nat → Int64) → Option (Int32 × (Nat → Nat → Int64))) (hk : ∀ (vd : Int32) (RL : Nat → Nat → Int64), (∀ i, i ≠ i0 → RL i = R i) → (∀ j, 1 ≤ j → j ≤ 120 → RL i0 j = R p0 j) → ZE P (k vd RL)) : ∀ (f : Nat) (vd : Int32) (RL : Nat → Nat → Int64) (d : Nat), vd.toInt = ((d + 1 : Nat) : Int) → d ≤ 120 → (∀ i, i ≠ i0 → RL i = R i) → (∀ j, 1 ≤ j → j ≤ d → RL i0 j = R p0 j) → (∀ j, d < j → RL i0 j = R i0 j) → 121 - d < f → ZE P (p_X4_takeFrom_L0 F i0 p0 k f vd RL) := by
  intro f
  induction f with
  | zero => intros; rename_i hm; exact absurd hm (Nat.not_lt_zero _)
  | succ f ih =>
    intro vd RL d hd hdn hA hB hZ hm
    show ZE P (if (120 : Int32) < vd then (k vd RL) else (zg (vd < 0 ∨ 121 ≤ vd.toNatClampNeg) (zg (vd < 0 ∨ 121 ≤ vd.toNatClampNeg) (p_X4_takeFrom_L0 F i0 p0 k f (vd + (1 : Int32)) (va_up RL i0 (vp_updL (RL i0) vd.toNatClampNeg (RL p0 vd.toNatClampNeg)))))))
    have e1 := zAddN hd (by omega)
    have o120 : (120 : Int32).toInt = 120 := by decide
    refine ZE_if (fun c => ?_) (fun c => ?_)
    · rw [Int32.lt_iff_toInt_lt, o120] at c
      have hde : d = 120 := by omega
      subst hde
      exact hk _ _ hA hB
    · rw [Int32.lt_iff_toInt_lt, o120] at c
      refine ZE_zg (zgi (by omega) (by omega)) (ZE_zg (zgi (by omega) (by omega)) ?_)
      have hr : RL p0 (d + 1) = R p0 (d + 1) := by
        by_cases h : p0 = i0
        · rw [h, hZ (d + 1) (by omega)]
        · rw [hA p0 h]
      rw [zClN hd]
      exact ih _ _ (d + 1) e1 (by omega) (zRowA hA) (zRowB hB hr) (fun j hj => by rw [zupS, zluN (by omega)]; exact hZ j (by omega)) (by omega)
theorem zTf7 (F : Nat) (R : Nat → Nat → Int64) (i0 p0 : Nat) (hF : 2000 ≤ F) (u w : Nat → Int64) (hfu : ∀ j, 1 ≤ j → j ≤ 120 → R i0 j = u j) (hfw : ∀ j, 1 ≤ j → j ≤ 120 → R p0 j = w j) : ZE (fun (r : (Int32 × (Nat → Nat → Int64))) => r.1 = Int32.ofInt ((gCnt u w 120 : Nat) : Int) ∧ (∀ i, i ≠ i0 → r.2 i = R i) ∧ (∀ j, 1 ≤ j → j ≤ 120 → r.2 i0 j = w j)) (p_X4_takeFrom F R i0 p0) := by
  unfold p_X4_takeFrom
  refine ZE_b1 (zCu7 F R i0 p0 hF u w hfu hfw) (fun r1 hr => ?_)
  exact zTf7L F i0 p0 R _ (fun vd RL hA hB => ⟨_, rfl, hr, hA, fun j j1 j2 => (hB j j1 j2).trans (hfw j j1 j2)⟩) F 1 R 0 (by decide) (by omega) (fun _ _ => rfl) (fun j j1 j2 => by omega) (fun _ _ => rfl) (by omega)
theorem zBe7 (F : Nat) (R : Nat → Nat → Int64) (ac : Int32) (p0 : Nat) (hF : 2000 ≤ F) (u w : Nat → Int64) (hfu : ∀ j, 1 ≤ j → j ≤ 120 → R p0 j = u j) (hfw : ∀ j, 1 ≤ j → j ≤ 120 → R 4 j = w j) : ZE (fun (r : (Int32 × (Nat → Nat → Int64) × Int32)) => r.1 = Int32.ofInt ((gCnt u w 120 : Nat) : Int) ∧ ((∀ i, i ≠ p0 → r.2.1 i = R i) ∧ (∀ j, 1 ≤ j → j ≤ 120 → r.2.1 p0 j = w j)) ∧ r.2.2 = ac + 1) (p_X7_become F R ac p0) := by
  unfold p_X7_become
  exact ZE_b2 (zTf7 F R p0 4 hF u w hfu hfw) (fun a b h => ⟨_, rfl, h.1, h.2, rfl⟩)

set_option maxHeartbeats 2000000 in
theorem zEx7L {P : (Nat → Nat → Int64) → Prop} (F : Nat) (i0 p0 : Nat) (R : Nat → Nat → Int64) (k : Int32 → (Nat → Nat → Int64) → Option ((Nat → Nat → Int64))) (hk : ∀ (vd : Int32) (RL : Nat → Nat → Int64), (∀ i, i ≠ i0 → i ≠ p0 → RL i = R i) → (∀ j, 1 ≤ j → j ≤ 120 → RL i0 j = R p0 j ∧ RL p0 j = R i0 j) → ZE P (k vd RL)) : ∀ (f : Nat) (vd : Int32) (RL : Nat → Nat → Int64) (d : Nat), vd.toInt = ((d + 1 : Nat) : Int) → d ≤ 120 → (∀ i, i ≠ i0 → i ≠ p0 → RL i = R i) → (∀ j, 1 ≤ j → j ≤ d → RL i0 j = R p0 j ∧ RL p0 j = R i0 j) → (∀ j, d < j → RL i0 j = R i0 j ∧ RL p0 j = R p0 j) → 121 - d < f → ZE P (p_X4_exchange_L0 F i0 p0 k f vd RL) := by
  intro f
  induction f with
  | zero => intros; rename_i hm; exact absurd hm (Nat.not_lt_zero _)
  | succ f ih =>
    intro vd RL d hd hdn hA hB hZ hm
    show ZE P (if (120 : Int32) < vd then (k vd RL) else (zg (vd < 0 ∨ 121 ≤ vd.toNatClampNeg) (zg (vd < 0 ∨ 121 ≤ vd.toNatClampNeg) (zg (vd < 0 ∨ 121 ≤ vd.toNatClampNeg) (zg (vd < 0 ∨ 121 ≤ vd.toNatClampNeg) (p_X4_exchange_L0 F i0 p0 k f (vd + (1 : Int32)) (va_up (va_up RL i0 (vp_updL (RL i0) vd.toNatClampNeg (RL p0 vd.toNatClampNeg))) p0 (vp_updL ((va_up RL i0 (vp_updL (RL i0) vd.toNatClampNeg (RL p0 vd.toNatClampNeg))) p0) vd.toNatClampNeg (RL i0 vd.toNatClampNeg)))))))))
    have e1 := zAddN hd (by omega)
    have o120 : (120 : Int32).toInt = 120 := by decide
    refine ZE_if (fun c => ?_) (fun c => ?_)
    · rw [Int32.lt_iff_toInt_lt, o120] at c
      have hde : d = 120 := by omega
      subst hde
      exact hk _ _ hA hB
    · rw [Int32.lt_iff_toInt_lt, o120] at c
      refine ZE_zg (zgi (by omega) (by omega)) (ZE_zg (zgi (by omega) (by omega)) (ZE_zg (zgi (by omega) (by omega)) (ZE_zg (zgi (by omega) (by omega)) ?_)))
      rw [zClN hd]
      obtain ⟨z1, z2⟩ := hZ (d + 1) (by omega)
      by_cases e : p0 = i0
      · subst e
        refine ih _ _ (d + 1) e1 (by omega) (fun i h1 h2 => ?_) (fun j j1 j2 => ?_) (fun j hj => ?_) (by omega)
        · rw [zupN h1, zupN h1]
          exact hA i h1 h2
        · rw [zupS, zupS]
          by_cases q : j = d + 1
          · rw [q, zluS, z1]
            exact ⟨rfl, rfl⟩
          · rw [zluN q, zluN q]
            exact hB j j1 (by omega)
        · rw [zupS, zupS, zluN (by omega), zluN (by omega)]
          exact hZ j (by omega)
      · have e' : i0 ≠ p0 := fun h => e h.symm
        refine ih _ _ (d + 1) e1 (by omega) (fun i h1 h2 => ?_) (fun j j1 j2 => ?_) (fun j hj => ?_) (by omega)
        · rw [zupN h2, zupN h1]
          exact hA i h1 h2
        · rw [zupN e', zupS, zupS, zupN e]
          by_cases q : j = d + 1
          · rw [q, zluS, zluS, z1, z2]
            exact ⟨rfl, rfl⟩
          · rw [zluN q, zluN q]
            exact hB j j1 (by omega)
        · rw [zupN e', zupS, zupS, zupN e, zluN (by omega), zluN (by omega)]
          exact hZ j (by omega)
theorem zEx7 (F : Nat) (R : Nat → Nat → Int64) (i0 p0 : Nat) (hF : 2000 ≤ F) : ZE (fun (r : Nat → Nat → Int64) => (∀ i, i ≠ i0 → i ≠ p0 → r i = R i) ∧ (∀ j, 1 ≤ j → j ≤ 120 → r i0 j = R p0 j ∧ r p0 j = R i0 j)) (p_X4_exchange F R i0 p0) := by
  unfold p_X4_exchange
  exact zEx7L F i0 p0 R _ (fun vd RL hA hB => ⟨_, rfl, hA, hB⟩) F 1 R 0 (by decide) (by omega) (fun _ _ _ => rfl) (fun j j1 j2 => by omega) (fun _ _ => ⟨rfl, rfl⟩) (by omega)
-- ==================== the first unlike place
def gFst (u w : Nat → Int64) : Nat → Nat → Int32
  | 0, _ => -1
  | g + 1, d => if u d = w d then gFst u w g (d + 1) else Int32.ofInt (d : Int)
theorem gFst_eq {u w : Nat → Int64} : ∀ (g d : Nat), 1 ≤ d → d + g = 121 → (∀ j, 1 ≤ j → j ≤ 120 → u j = w j) → gFst u w g d = -1 := by
  intro g
  induction g with
  | zero => intros; rfl
  | succ g ih =>
    intro d h1 h2 h
    show (if u d = w d then gFst u w g (d + 1) else Int32.ofInt (d : Int)) = -1
    rw [if_pos (h d h1 (by omega))]
    exact ih (d + 1) (by omega) (by omega) h

set_option maxHeartbeats 2000000 in
theorem zFi7L {P : (Int32 × (Nat → Nat → Int64) × Bool × (Nat → Int32) × (Nat → Int32) × Int32 × (Nat → Int32) × Int32 × Int32 × Int32) → Prop} (F : Nat) (R : Nat → Nat → Int64) (b : Bool) (pr : Nat → Int32) (tm : Nat → Int32) (cn : Int32) (sm : Nat → Int32) (ac : Int32) (re : Int32) (kn : Int32) (i0 : Nat) (p0 : Nat) (u w : Nat → Int64) (hfu : ∀ j, 1 ≤ j → j ≤ 120 → R i0 j = u j) (hfw : ∀ j, 1 ≤ j → j ≤ 120 → R p0 j = w j) (T : Int32) (hP : P (T, R, b, pr, tm, cn, sm, ac, re, kn)) (k : Int32 → Option (Int32 × (Nat → Nat → Int64) × Bool × (Nat → Int32) × (Nat → Int32) × Int32 × (Nat → Int32) × Int32 × Int32 × Int32)) (hk : ∀ vd : Int32, T = -1 → ZE P (k vd)) : ∀ (f : Nat) (vd : Int32) (d g : Nat), vd.toInt = (d : Int) → 1 ≤ d → d + g = 121 → gFst u w g d = T → g < f → ZE P (p_X4_firstUnlike_L0 F R b pr tm cn sm ac re kn i0 p0 k f vd) := by
  intro f
  induction f with
  | zero => intros; rename_i hm; exact absurd hm (Nat.not_lt_zero _)
  | succ f ih =>
    intro vd d g hd h1 hg hT hm
    show ZE P (if (120 : Int32) < vd then (k vd) else (zg (vd < 0 ∨ 121 ≤ vd.toNatClampNeg) (zg (vd < 0 ∨ 121 ≤ vd.toNatClampNeg) (if (lg_cmp (R i0 vd.toNatClampNeg) (R p0 vd.toNatClampNeg)) = 0 then (p_X4_firstUnlike_L0 F R b pr tm cn sm ac re kn i0 p0 k f (vd + (1 : Int32))) else (some (vd, R, b, pr, tm, cn, sm, ac, re, kn))))))
    have e1 := zAddN hd (by omega)
    have o120 : (120 : Int32).toInt = 120 := by decide
    refine ZE_if (fun c => ?_) (fun c => ?_)
    · rw [Int32.lt_iff_toInt_lt, o120] at c
      have hg0 : g = 0 := by omega
      subst hg0
      exact hk _ hT.symm
    · rw [Int32.lt_iff_toInt_lt, o120] at c
      obtain ⟨g, rfl⟩ : ∃ g', g = g' + 1 := ⟨g - 1, by omega⟩
      have hT' : (if u d = w d then gFst u w g (d + 1) else Int32.ofInt (d : Int)) = T := hT
      refine ZE_zg (zgi (by omega) (by omega)) (ZE_zg (zgi (by omega) (by omega)) ?_)
      rw [zClN hd, hfu d (by omega) (by omega), hfw d (by omega) (by omega)]
      refine ZE_if (fun c2 => ?_) (fun c2 => ?_)
      · rw [if_pos (lgc0.mp c2)] at hT'
        exact ih _ (d + 1) g e1 (by omega) (by omega) hT' (by omega)
      · rw [if_neg (fun h => c2 (lgc0.mpr h))] at hT'
        refine ⟨_, rfl, ?_⟩
        rw [zOf hd, hT']
        exact hP

set_option maxHeartbeats 2000000 in
theorem zFi9L1 {P : (Int32 × (Nat → Int64) × Bool × Int32 × Int32 × Int32 × Int32) → Prop} (F : Nat) (V : Nat → Int64) (ib : Bool) (dn : Int32) (rf : Int32) (mk : Int32) (p0 : Int32) (p1 : Int32) (th_13 : Int32) (x y : Nat) (hx : p0.toInt = x) (hx3 : x ≤ 3) (hy : p1.toInt = y) (hy3 : y ≤ 3) (T : Int32) (hP : P (T, V, ib, dn, rf, mk, th_13)) (k : Int32 → Option (Int32 × (Nat → Int64) × Bool × Int32 × Int32 × Int32 × Int32)) (hk : ∀ vd : Int32, T = -1 → ZE P (k vd)) : ∀ (f : Nat) (vd : Int32) (d g : Nat), vd.toInt = (d : Int) → 1 ≤ d → d + g = 121 → gFst (fun j => V (121 * x + j)) (fun j => V (121 * y + j)) g d = T → g < f → ZE P (p_X9_differ_L1 F V ib dn rf mk p0 p1 th_13 k f vd) := by
  intro f
  induction f with
  | zero => intros; rename_i hm; exact absurd hm (Nat.not_lt_zero _)
  | succ f ih =>
    intro vd d g hd h1 hg hT hm
    show ZE P (if (120 : Int32) < vd then (k vd) else (zb1 (p_X9_at V p0 vd) (fun r15 => (zb1 (p_X9_at V p1 vd) (fun r17 => (if (lg_cmp r15 r17) = 0 then (p_X9_differ_L1 F V ib dn rf mk p0 p1 th_13 k f (vd + (1 : Int32))) else (some (vd, V, ib, dn, rf, mk, th_13))))))))
    have e1 := zAddN hd (by omega)
    have o120 : (120 : Int32).toInt = 120 := by decide
    refine ZE_if (fun c => ?_) (fun c => ?_)
    · rw [Int32.lt_iff_toInt_lt, o120] at c
      have hg0 : g = 0 := by omega
      subst hg0
      exact hk _ hT.symm
    · rw [Int32.lt_iff_toInt_lt, o120] at c
      obtain ⟨g, rfl⟩ : ∃ g', g = g' + 1 := ⟨g - 1, by omega⟩
      have hT' : (if V (121 * x + d) = V (121 * y + d) then gFst (fun j => V (121 * x + j)) (fun j => V (121 * y + j)) g (d + 1) else Int32.ofInt (d : Int)) = T := hT
      refine ZE_b1e (zAt9 V hx hx3 hd (by omega)) (ZE_b1e (zAt9 V hy hy3 hd (by omega)) ?_)
      refine ZE_if (fun c2 => ?_) (fun c2 => ?_)
      · rw [if_pos (lgc0.mp c2)] at hT'
        exact ih _ (d + 1) g e1 (by omega) (by omega) hT' (by omega)
      · rw [if_neg (fun h => c2 (lgc0.mpr h))] at hT'
        refine ⟨_, rfl, ?_⟩
        rw [zOf hd, hT']
        exact hP

theorem zFi7 (F : Nat) (R : Nat → Nat → Int64) (b : Bool) (pr : Nat → Int32) (tm : Nat → Int32) (cn : Int32) (sm : Nat → Int32) (ac : Int32) (re : Int32) (kn : Int32) (i0 : Nat) (p0 : Nat) (hF : 2000 ≤ F) (u w : Nat → Int64) (hfu : ∀ j, 1 ≤ j → j ≤ 120 → R i0 j = u j) (hfw : ∀ j, 1 ≤ j → j ≤ 120 → R p0 j = w j) : ZE (fun (r : (Int32 × (Nat → Nat → Int64) × Bool × (Nat → Int32) × (Nat → Int32) × Int32 × (Nat → Int32) × Int32 × Int32 × Int32)) => r = (gFst u w 120 1, R, b, pr, tm, cn, sm, ac, re, kn)) (p_X4_firstUnlike F R b pr tm cn sm ac re kn i0 p0) := by
  unfold p_X4_firstUnlike
  exact zFi7L (P := fun (r : (Int32 × (Nat → Nat → Int64) × Bool × (Nat → Int32) × (Nat → Int32) × Int32 × (Nat → Int32) × Int32 × Int32 × Int32)) => r = (gFst u w 120 1, R, b, pr, tm, cn, sm, ac, re, kn)) F R b pr tm cn sm ac re kn i0 p0 u w hfu hfw _ rfl _ (fun vd h => ⟨_, rfl, by rw [h]⟩) F 1 1 120 (by decide) (by omega) (by omega) rfl (by omega)

-- ==================== what asks and changes nothing
set_option maxHeartbeats 2000000 in
theorem zWi7L {P : (Bool × (Nat → Nat → Int64) × Bool × (Nat → Int32) × (Nat → Int32) × Int32 × (Nat → Int32) × Int32 × Int32 × Int32) → Prop} (F : Nat) (R : Nat → Nat → Int64) (b : Bool) (pr : Nat → Int32) (tm : Nat → Int32) (cn : Int32) (sm : Nat → Int32) (ac : Int32) (re : Int32) (kn : Int32) (i0 : Nat) (p0 : Int32) (p1 : Int64) (n : Nat) (hn : p0.toInt = n) (h2 : n ≤ 120) (hP : ∀ q : Bool, P (q, R, b, pr, tm, cn, sm, ac, re, kn)) (k : Int32 → Option (Bool × (Nat → Nat → Int64) × Bool × (Nat → Int32) × (Nat → Int32) × Int32 × (Nat → Int32) × Int32 × Int32 × Int32)) (hk : ∀ vd : Int32, ZE P (k vd)) : ∀ (f : Nat) (vd : Int32) (d : Nat), vd.toInt = ((d + 1 : Nat) : Int) → d ≤ n → n + 1 - d < f → ZE P (p_X4_isWithin_L0 F R b pr tm cn sm ac re kn i0 p0 p1 k f vd) := by
  intro f
  induction f with
  | zero => intros; rename_i hm; exact absurd hm (Nat.not_lt_zero _)
  | succ f ih =>
    intro vd d hd hdn hm
    show ZE P (if p0 < vd then (k vd) else (zb1 (p_X4_at R i0 vd) (fun r1 => (if 0 < (lg_cmp r1 p1) then (some (false, R, b, pr, tm, cn, sm, ac, re, kn)) else (zb1 (p_X4_at R i0 vd) (fun r3 => (if 0 ≤ (lg_cmp r3 (-p1)) then (p_X4_isWithin_L0 F R b pr tm cn sm ac re kn i0 p0 p1 k f (vd + (1 : Int32))) else (some (false, R, b, pr, tm, cn, sm, ac, re, kn)))))))))
    have e1 := zAddN hd (by omega)
    refine ZE_if (fun c => hk _) (fun c => ?_)
    rw [Int32.lt_iff_toInt_lt] at c
    refine ZE_b1e (zAt7 R i0 hd (by omega) (by omega)) (ZE_if (fun _ => ⟨_, rfl, hP _⟩) (fun _ => ?_))
    refine ZE_b1e (zAt7 R i0 hd (by omega) (by omega)) (ZE_if (fun _ => ?_) (fun _ => ⟨_, rfl, hP _⟩))
    exact ih _ (d + 1) e1 (by omega) (by omega)

theorem zWi7 (F : Nat) (R : Nat → Nat → Int64) (b : Bool) (pr : Nat → Int32) (tm : Nat → Int32) (cn : Int32) (sm : Nat → Int32) (ac : Int32) (re : Int32) (kn : Int32) (i0 : Nat) (p0 : Int32) (p1 : Int64) (n : Nat) (hF : 2000 ≤ F) (hn : p0.toInt = n) (h2 : n ≤ 120) : ZE (fun (r : (Bool × (Nat → Nat → Int64) × Bool × (Nat → Int32) × (Nat → Int32) × Int32 × (Nat → Int32) × Int32 × Int32 × Int32)) => r.2 = (R, b, pr, tm, cn, sm, ac, re, kn)) (p_X4_isWithin F R b pr tm cn sm ac re kn i0 p0 p1) := by
  unfold p_X4_isWithin
  exact zWi7L (P := fun (r : (Bool × (Nat → Nat → Int64) × Bool × (Nat → Int32) × (Nat → Int32) × Int32 × (Nat → Int32) × Int32 × Int32 × Int32)) => r.2 = (R, b, pr, tm, cn, sm, ac, re, kn)) F R b pr tm cn sm ac re kn i0 p0 p1 n hn h2 (fun q => rfl) _ (fun vd => ⟨_, rfl, rfl⟩) F 1 0 (by decide) (by omega) (by omega)

theorem zNs7 (F : Nat) (R : Nat → Nat → Int64) (b : Bool) (pr : Nat → Int32) (tm : Nat → Int32) (cn : Int32) (sm : Nat → Int32) (ac : Int32) (re : Int32) (kn : Int32) (p0 : Nat) (p1 : Int32) (p2 : Int32) (n : Nat) (hF : 2000 ≤ F) (hn : p1.toInt = n) (h2 : n ≤ 120) : ZE (fun (r : (Nat × (Nat → Nat → Int64) × Bool × (Nat → Int32) × (Nat → Int32) × Int32 × (Nat → Int32) × Int32 × Int32 × Int32)) => (r.1 = 0 ∨ r.1 = 3) ∧ r.2 = (R, b, pr, tm, cn, sm, ac, re, kn)) (p_X7_needSizes F R b pr tm cn sm ac re kn p0 p1 p2) := by
  unfold p_X7_needSizes
  refine ZE_b10 (zWi7 F R b pr tm cn sm ac re kn p0 p1 p2.toInt64 n hF hn h2) (fun q R' b' pr' tm' cn' sm' ac' re' kn' h => ?_)
  dsimp only at h
  simp only [Prod.mk.injEq] at h
  obtain ⟨rfl, rfl, rfl, rfl, rfl, rfl, rfl, rfl, rfl⟩ := h
  exact ZE_if (fun _ => ⟨_, rfl, Or.inl rfl, rfl⟩) (fun _ => ⟨_, rfl, Or.inr rfl, rfl⟩)

-- ==================== by primes or not
def gOk (c : Bool) (u : Nat → Int64) (a b : Nat) : Prop := (c = true ∨ Nat.gcd a b = 1) → u a * u b = u (a * b) ∧ letp (u a) (u b) = true
def gBp (c : Bool) (u : Nat → Int64) : Prop := u 1 = 1 ∧ ∀ a b, 1 ≤ a → 1 ≤ b → a * b ≤ 120 → gOk c u a b
theorem gOk_comm {c : Bool} {u : Nat → Int64} {a b : Nat} (h : gOk c u a b) : gOk c u b a := by
  intro q
  rw [Nat.gcd_comm] at q
  obtain ⟨h1, h2⟩ := h q
  exact ⟨by rw [Int64.mul_comm, h1, Nat.mul_comm], by rw [letp_comm]; exact h2⟩
theorem zIp7 (a b c : Int64) : ZE (fun (r : Bool) => r = true ↔ (a * b = c ∧ letp a b = true)) (p_X0_isProduct a b c) := by
  unfold p_X0_isProduct
  refine ZE_if (fun h => ⟨_, rfl, ?_⟩) (fun h => ?_)
  · exact ⟨fun q => absurd q Bool.false_ne_true, fun q => absurd (lgc0.mpr q.1) h⟩
  · have h' := lgc0.mp (Decidable.not_not.mp h)
    refine ZE_b1e (zLp7 a b) ?_
    cases hl : letp a b with
    | false => exact ⟨_, if_pos rfl, fun q => absurd q Bool.false_ne_true, fun q => absurd q.2 (by decide)⟩
    | true => exact ⟨_, if_neg (by decide), fun _ => ⟨h', rfl⟩, fun _ => rfl⟩

theorem zb01 {b : Bool} (h : ¬ z01 b = 0) : b = true := by
  cases b with
  | false => exact absurd rfl h
  | true => rfl
theorem zbf0 {b : Bool} (h : z01 b = 0) : b = false := by
  cases b with
  | false => rfl
  | true => exact absurd h (by decide)

set_option maxHeartbeats 2000000 in
theorem zBp7L1 {P : (Bool × (Nat → Nat → Int64) × Bool × (Nat → Int32) × (Nat → Int32) × Int32 × (Nat → Int32) × Int32 × Int32 × Int32) → Prop} (F : Nat) (R : Nat → Nat → Int64) (b : Bool) (pr : Nat → Int32) (tm : Nat → Int32) (cn : Int32) (sm : Nat → Int32) (ac : Int32) (re : Int32) (kn : Int32) (p0 : Nat) (p1 : Bool) (v3_0 : Int32) (hF : 2000 ≤ F) (a : Nat) (ha : v3_0.toInt = a) (a1 : 1 ≤ a) (a2 : a ≤ 120) (u : Nat → Int64) (hfu : ∀ j, 1 ≤ j → j ≤ 120 → R p0 j = u j) (hN : ∀ x y, 1 ≤ x → 1 ≤ y → x * y ≤ 120 → ¬ gOk p1 u x y → P (false, R, b, pr, tm, cn, sm, ac, re, kn)) (k : Int32 → Option (Bool × (Nat → Nat → Int64) × Bool × (Nat → Int32) × (Nat → Int32) × Int32 × (Nat → Int32) × Int32 × Int32 × Int32)) (hk : ∀ (vd : Int32), (∀ y, a ≤ y → a * y ≤ 120 → gOk p1 u a y) → ZE P (k vd)) : ∀ (f : Nat) (vd : Int32) (d : Nat), vd.toInt = (d : Int) → a ≤ d → d ≤ 121 → (∀ y, a ≤ y → y < d → a * y ≤ 120 → gOk p1 u a y) → 122 - d < f → ZE P (p_X0_isByPrimes_L1 F R b pr tm cn sm ac re kn p0 p1 v3_0 k f vd) := by
  intro f
  induction f with
  | zero => intros; rename_i hm; exact absurd hm (Nat.not_lt_zero _)
  | succ f ih =>
    intro vd d hd had hd121 hI hm
    show ZE P (if (120 : Int32) < (v3_0 * vd) then (k vd) else (zlt (zb1 (p_X4_at R p0 v3_0) (fun r3 => (zb1 (p_X4_at R p0 vd) (fun r5 => (zb1 (p_X4_at R p0 (v3_0 * vd)) (fun r7 => (zb1 (p_X0_isProduct r3 r5 r7) (fun r9 => (if ¬ (z01 r9) = 0 then (p_X0_isByPrimes_L1 F R b pr tm cn sm ac re kn p0 p1 v3_0 k f (vd + (1 : Int32))) else (some (false, R, b, pr, tm, cn, sm, ac, re, kn))))))))))) (fun jf0 => (if ¬ (z01 p1) = 0 then (jf0 ) else (zb1 (p_X1_commonOf F v3_0 vd) (fun r11 => (if ¬ r11 = (1 : Int32) then (p_X0_isByPrimes_L1 F R b pr tm cn sm ac re kn p0 p1 v3_0 k f (vd + (1 : Int32))) else (jf0 ))))))))
    have e1 := zAddN hd (by omega)
    have o120 : (120 : Int32).toInt = 120 := by decide
    have hb : a * d ≤ 120 * 121 := Nat.mul_le_mul a2 hd121
    have em := zMulN ha hd (by omega)
    have hld : 1 * d ≤ a * d := Nat.mul_le_mul_right d a1
    refine ZE_if (fun c => ?_) (fun c => ?_)
    · rw [Int32.lt_iff_toInt_lt, o120, em] at c
      refine hk _ (fun y y1 y2 => hI y y1 ?_ y2)
      exact Nat.lt_of_mul_lt_mul_left (a := a) (by omega)
    · rw [Int32.lt_iff_toInt_lt, o120, em] at c
      have hd1 : 1 ≤ d := by omega
      have hd2 : a * d ≤ 120 := by omega
      have hnx : gOk p1 u a d → ZE P (p_X0_isByPrimes_L1 F R b pr tm cn sm ac re kn p0 p1 v3_0 k f (vd + (1 : Int32))) := by
        intro hg
        refine ih _ (d + 1) e1 (by omega) (by omega) (fun y y1 y2 y3 => ?_) (by omega)
        by_cases h : y = d
        · rw [h]; exact hg
        · exact hI y y1 (by omega) y3
      have hjf : (p1 = true ∨ Nat.gcd a d = 1) → ZE P (zb1 (p_X4_at R p0 v3_0) (fun r3 => (zb1 (p_X4_at R p0 vd) (fun r5 => (zb1 (p_X4_at R p0 (v3_0 * vd)) (fun r7 => (zb1 (p_X0_isProduct r3 r5 r7) (fun r9 => (if ¬ (z01 r9) = 0 then (p_X0_isByPrimes_L1 F R b pr tm cn sm ac re kn p0 p1 v3_0 k f (vd + (1 : Int32))) else (some (false, R, b, pr, tm, cn, sm, ac, re, kn))))))))))) := by
        intro hpr
        refine ZE_b1e (zAt7 R p0 ha a1 a2) (ZE_b1e (zAt7 R p0 hd hd1 (by omega)) (ZE_b1e (zAt7 R p0 em (by omega) hd2) ?_))
        rw [hfu a a1 a2, hfu d hd1 (by omega), hfu (a * d) (by omega) hd2]
        refine ZE_b1 (zIp7 _ _ _) (fun r9 hr => ?_)
        refine ZE_if (fun q => hnx (fun _ => hr.mp (zb01 q))) (fun q => ?_)
        have := zbf0 (Decidable.not_not.mp q)
        exact ⟨_, rfl, hN a d a1 hd1 hd2 (fun g => by rw [hr.mpr (g hpr)] at this; exact absurd this (by decide))⟩
      refine ZE_lta (ZE_if (fun c3 => hjf (Or.inl (zb01 c3))) (fun c3 => ?_))
      · have hp := zbf0 (Decidable.not_not.mp c3)
        refine ZE_b1 (zGcd7 F v3_0 vd a d hF ha hd (by omega) (by omega)) (fun r4 hr => ZE_if (fun c4 => hnx (fun g => ?_)) (fun c4 => hjf (Or.inr ?_)))
        · rcases g with g | g
          · rw [hp] at g; exact absurd g (by decide)
          · exact absurd (Int32.toInt_inj.mp (by rw [hr, g]; decide)) c4
        · have h := congrArg Int32.toInt (Decidable.not_not.mp c4)
          rw [hr, show (1 : Int32).toInt = 1 from by decide] at h
          omega

set_option maxHeartbeats 2000000 in
theorem zBp9L1 {P : (Bool × (Nat → Int64) × Bool × Int32 × Int32 × Int32 × Int32) → Prop} (F : Nat) (V : Nat → Int64) (dn : Int32) (rf : Int32) (mk : Int32) (th : Int32) (p0 : Nat → Int64) (p1 : Bool) (v3_0 : Int32) (hF : 2000 ≤ F) (a : Nat) (ha : v3_0.toInt = a) (a1 : 1 ≤ a) (a2 : a ≤ 120) (u : Nat → Int64) (hfu : ∀ j, 1 ≤ j → j ≤ 120 → p0 j = u j) (hN : ∀ x y, 1 ≤ x → 1 ≤ y → x * y ≤ 120 → ¬ gOk p1 u x y → ∀ q, P (false, V, q, dn, rf, mk, th)) (k : Int32 → Bool → Option (Bool × (Nat → Int64) × Bool × Int32 × Int32 × Int32 × Int32)) (hk : ∀ (vd : Int32) (q : Bool), (∀ y, 1 ≤ y → a * y ≤ 120 → gOk p1 u a y) → ZE P (k vd q)) : ∀ (f : Nat) (vd : Int32) (q : Bool) (d : Nat), vd.toInt = (d : Int) → 1 ≤ d → d ≤ 121 → (∀ y, 1 ≤ y → y < d → a * y ≤ 120 → gOk p1 u a y) → 122 - d < f → ZE P (p_X9_isByPrimes_L1 F V dn rf mk th p0 p1 v3_0 k f vd q) := by
  intro f
  induction f with
  | zero => intros; rename_i hm; exact absurd hm (Nat.not_lt_zero _)
  | succ f ih =>
    intro vd q d hd had hd121 hI hm
    show ZE P (if (120 : Int32) < (v3_0 * vd) then (k vd q) else (zlt (zg (v3_0 < 0 ∨ 121 ≤ v3_0.toNatClampNeg) (zg (vd < 0 ∨ 121 ≤ vd.toNatClampNeg) (zb2 (p_X9_times false (p0 v3_0.toNatClampNeg) (p0 vd.toNatClampNeg)) (fun r1 ib_2 => (if ¬ (z01 ib_2) = 0 then (some (false, V, ib_2, dn, rf, mk, th)) else (zg ((v3_0 * vd) < 0 ∨ 121 ≤ (v3_0 * vd).toNatClampNeg) (if (lg_cmp r1 (p0 (v3_0 * vd).toNatClampNeg)) = 0 then (p_X9_isByPrimes_L1 F V dn rf mk th p0 p1 v3_0 k f (vd + (1 : Int32)) ib_2) else (some (false, V, ib_2, dn, rf, mk, th))))))))) (fun jf0 => (if ¬ (z01 p1) = 0 then (jf0 ) else (zb1 (p_X9_common F v3_0 vd) (fun r4 => (if r4 ≤ (1 : Int32) then (jf0 ) else (p_X9_isByPrimes_L1 F V dn rf mk th p0 p1 v3_0 k f (vd + (1 : Int32)) q))))))))
    have e1 := zAddN hd (by omega)
    have o120 : (120 : Int32).toInt = 120 := by decide
    have hb : a * d ≤ 120 * 121 := Nat.mul_le_mul a2 hd121
    have em := zMulN ha hd (by omega)
    have hld : 1 * d ≤ a * d := Nat.mul_le_mul_right d a1
    refine ZE_if (fun c => ?_) (fun c => ?_)
    · rw [Int32.lt_iff_toInt_lt, o120, em] at c
      refine hk _ _ (fun y y1 y2 => hI y y1 ?_ y2)
      exact Nat.lt_of_mul_lt_mul_left (a := a) (by omega)
    · rw [Int32.lt_iff_toInt_lt, o120, em] at c
      have hd1 : 1 ≤ d := by omega
      have hd2 : a * d ≤ 120 := by omega
      have hnx : ∀ q2 : Bool, gOk p1 u a d → ZE P (p_X9_isByPrimes_L1 F V dn rf mk th p0 p1 v3_0 k f (vd + (1 : Int32)) q2) := by
        intro q2 hg
        refine ih _ _ (d + 1) e1 (by omega) (by omega) (fun y y1 y2 y3 => ?_) (by omega)
        by_cases h : y = d
        · rw [h]; exact hg
        · exact hI y y1 (by omega) y3
      have hjf : (p1 = true ∨ Nat.gcd a d = 1) → ZE P (zg (v3_0 < 0 ∨ 121 ≤ v3_0.toNatClampNeg) (zg (vd < 0 ∨ 121 ≤ vd.toNatClampNeg) (zb2 (p_X9_times false (p0 v3_0.toNatClampNeg) (p0 vd.toNatClampNeg)) (fun r1 ib_2 => (if ¬ (z01 ib_2) = 0 then (some (false, V, ib_2, dn, rf, mk, th)) else (zg ((v3_0 * vd) < 0 ∨ 121 ≤ (v3_0 * vd).toNatClampNeg) (if (lg_cmp r1 (p0 (v3_0 * vd).toNatClampNeg)) = 0 then (p_X9_isByPrimes_L1 F V dn rf mk th p0 p1 v3_0 k f (vd + (1 : Int32)) ib_2) else (some (false, V, ib_2, dn, rf, mk, th))))))))) := by
        intro hpr
        refine ZE_zg (zgi (by omega) (by omega)) (ZE_zg (zgi (by omega) (by omega)) (ZE_b2e (zTi9 _ _ _) ?_))
        rw [zClN ha, zClN hd, zClN em, hfu a a1 a2, hfu d hd1 (by omega), hfu (a * d) (by omega) hd2]
        refine ZE_if (fun q => ?_) (fun q => ZE_zg (by rw [← zClN em]; exact zgi (by omega) (by omega)) (ZE_if (fun q2 => hnx _ (fun _ => ⟨lgc0.mp q2, ?_⟩)) (fun q2 => ?_)))
        · refine ⟨_, rfl, hN a d a1 hd1 hd2 (fun g => ?_) _⟩
          have := zb01 q
          rw [(g hpr).2] at this
          exact absurd this (by decide)
        · have := zbf0 (Decidable.not_not.mp q)
          rw [Bool.false_or] at this
          cases hl : letp (u a) (u d) with
          | true => rfl
          | false => rw [hl] at this; exact absurd this (by decide)
        · exact ⟨_, rfl, hN a d a1 hd1 hd2 (fun g => q2 (lgc0.mpr (g hpr).1)) _⟩
      refine ZE_lta (ZE_if (fun c3 => hjf (Or.inl (zb01 c3))) (fun c3 => ?_))
      · have hp := zbf0 (Decidable.not_not.mp c3)
        refine ZE_b1 (zGcd9 F v3_0 vd a d hF ha hd a1 hd1 (by omega) (by omega)) (fun r4 hr => ZE_if (fun c4 => hjf (Or.inr ?_)) (fun c4 => hnx _ (fun g => ?_)))
        · rw [Int32.le_iff_toInt_le, hr, show (1 : Int32).toInt = 1 from by decide] at c4
          have := Nat.gcd_pos_of_pos_left d a1
          omega
        · rw [Int32.le_iff_toInt_le, hr, show (1 : Int32).toInt = 1 from by decide] at c4
          rcases g with g | g
          · rw [hp] at g; exact absurd g (by decide)
          · omega

set_option maxHeartbeats 2000000 in
theorem zBp7L0 {P : (Bool × (Nat → Nat → Int64) × Bool × (Nat → Int32) × (Nat → Int32) × Int32 × (Nat → Int32) × Int32 × Int32 × Int32) → Prop} (F : Nat) (R : Nat → Nat → Int64) (b : Bool) (pr : Nat → Int32) (tm : Nat → Int32) (cn : Int32) (sm : Nat → Int32) (ac : Int32) (re : Int32) (kn : Int32) (p0 : Nat) (p1 : Bool) (hF : 2000 ≤ F) (u : Nat → Int64) (hfu : ∀ j, 1 ≤ j → j ≤ 120 → R p0 j = u j) (hN : ∀ x y, 1 ≤ x → 1 ≤ y → x * y ≤ 120 → ¬ gOk p1 u x y → P (false, R, b, pr, tm, cn, sm, ac, re, kn)) (k : Int32 → Option (Bool × (Nat → Nat → Int64) × Bool × (Nat → Int32) × (Nat → Int32) × Int32 × (Nat → Int32) × Int32 × Int32 × Int32)) (hk : ∀ (vd : Int32), (∀ x y, 1 ≤ x → x ≤ 120 → 1 ≤ y → x ≤ y → x * y ≤ 120 → gOk p1 u x y) → ZE P (k vd)) : ∀ (f : Nat) (vd : Int32) (d : Nat), vd.toInt = ((d + 1 : Nat) : Int) → d ≤ 120 → (∀ x y, 1 ≤ x → x ≤ d → 1 ≤ y → x ≤ y → x * y ≤ 120 → gOk p1 u x y) → 121 - d < f → ZE P (p_X0_isByPrimes_L0 F R b pr tm cn sm ac re kn p0 p1 k f vd) := by
  intro f
  induction f with
  | zero => intros; rename_i hm; exact absurd hm (Nat.not_lt_zero _)
  | succ f ih =>
    intro vd d hd hdn hI hm
    show ZE P (if (120 : Int32) < vd then (k vd) else (p_X0_isByPrimes_L1 F R b pr tm cn sm ac re kn p0 p1 vd (fun v4_1 => (p_X0_isByPrimes_L0 F R b pr tm cn sm ac re kn p0 p1 k f (vd + (1 : Int32)))) F vd))
    have e1 := zAddN hd (by omega)
    have o120 : (120 : Int32).toInt = 120 := by decide
    refine ZE_if (fun c => ?_) (fun c => ?_)
    · rw [Int32.lt_iff_toInt_lt, o120] at c
      have hde : d = 120 := by omega
      subst hde
      exact hk _ hI
    · rw [Int32.lt_iff_toInt_lt, o120] at c
      refine zBp7L1 F R b pr tm cn sm ac re kn p0 p1 vd hF (d + 1) hd (by omega) (by omega) u hfu hN _ (fun vd2 hy => ?_) F vd (d + 1) hd (by omega) (by omega) (fun y y1 y2 => by omega) (by omega)
      refine ih _ (d + 1) e1 (by omega) (fun x y x1 x2 y1 x3 h => ?_) (by omega)
      by_cases q : x = d + 1
      · rw [q] at h x3 ⊢
        exact hy y x3 h
      · exact hI x y x1 (by omega) y1 x3 h

set_option maxHeartbeats 2000000 in
theorem zBp9L0 {P : (Bool × (Nat → Int64) × Bool × Int32 × Int32 × Int32 × Int32) → Prop} (F : Nat) (V : Nat → Int64) (dn : Int32) (rf : Int32) (mk : Int32) (th : Int32) (p0 : Nat → Int64) (p1 : Bool) (hF : 2000 ≤ F) (u : Nat → Int64) (hfu : ∀ j, 1 ≤ j → j ≤ 120 → p0 j = u j) (hN : ∀ x y, 1 ≤ x → 1 ≤ y → x * y ≤ 120 → ¬ gOk p1 u x y → ∀ q, P (false, V, q, dn, rf, mk, th)) (k : Int32 → Bool → Option (Bool × (Nat → Int64) × Bool × Int32 × Int32 × Int32 × Int32)) (hk : ∀ (vd : Int32) (q : Bool), (∀ x y, 1 ≤ x → x ≤ 120 → 1 ≤ y → x * y ≤ 120 → gOk p1 u x y) → ZE P (k vd q)) : ∀ (f : Nat) (vd : Int32) (q : Bool) (d : Nat), vd.toInt = ((d + 1 : Nat) : Int) → d ≤ 120 → (∀ x y, 1 ≤ x → x ≤ d → 1 ≤ y → x * y ≤ 120 → gOk p1 u x y) → 121 - d < f → ZE P (p_X9_isByPrimes_L0 F V dn rf mk th p0 p1 k f vd q) := by
  intro f
  induction f with
  | zero => intros; rename_i hm; exact absurd hm (Nat.not_lt_zero _)
  | succ f ih =>
    intro vd q d hd hdn hI hm
    show ZE P (if (120 : Int32) < vd then (k vd q) else (p_X9_isByPrimes_L1 F V dn rf mk th p0 p1 vd (fun v4_1 ibL1 => (p_X9_isByPrimes_L0 F V dn rf mk th p0 p1 k f (vd + (1 : Int32)) ibL1)) F (1 : Int32) q))
    have e1 := zAddN hd (by omega)
    have o120 : (120 : Int32).toInt = 120 := by decide
    refine ZE_if (fun c => ?_) (fun c => ?_)
    · rw [Int32.lt_iff_toInt_lt, o120] at c
      have hde : d = 120 := by omega
      subst hde
      exact hk _ _ hI
    · rw [Int32.lt_iff_toInt_lt, o120] at c
      refine zBp9L1 F V dn rf mk th p0 p1 vd hF (d + 1) hd (by omega) (by omega) u hfu hN _ (fun vd2 q2 hy => ?_) F 1 q 1 (by decide) (by omega) (by omega) (fun y y1 y2 => by omega) (by omega)
      refine ih _ _ (d + 1) e1 (by omega) (fun x y x1 x2 y1 h => ?_) (by omega)
      by_cases q : x = d + 1
      · rw [q] at h ⊢
        exact hy y y1 h
      · exact hI x y x1 (by omega) y1 h

theorem zBp7 (F : Nat) (R : Nat → Nat → Int64) (b : Bool) (pr : Nat → Int32) (tm : Nat → Int32) (cn : Int32) (sm : Nat → Int32) (ac : Int32) (re : Int32) (kn : Int32) (p0 : Nat) (p1 : Bool) (hF : 2000 ≤ F) (u : Nat → Int64) (hfu : ∀ j, 1 ≤ j → j ≤ 120 → R p0 j = u j) : ZE (fun (r : (Bool × (Nat → Nat → Int64) × Bool × (Nat → Int32) × (Nat → Int32) × Int32 × (Nat → Int32) × Int32 × Int32 × Int32)) => (r.1 = true ↔ gBp p1 u) ∧ r.2 = (R, b, pr, tm, cn, sm, ac, re, kn)) (p_X0_isByPrimes F R b pr tm cn sm ac re kn p0 p1) := by
  unfold p_X0_isByPrimes
  refine ZE_b1e (zAt7 R p0 (v := 1) (n := 1) (by decide) (by omega) (by omega)) ?_
  rw [hfu 1 (by omega) (by omega)]
  refine ZE_if (fun c => ?_) (fun c => ?_)
  · refine zBp7L0 F R b pr tm cn sm ac re kn p0 p1 hF u hfu (fun x y h1 h2 h3 hn => ⟨⟨fun q => absurd q Bool.false_ne_true, fun g => absurd (g.2 x y h1 h2 h3) hn⟩, rfl⟩) _ (fun vd h => ⟨_, rfl, ⟨fun _ => ⟨lgc0.mp c, fun x y h1 h2 h3 => ?_⟩, fun _ => rfl⟩, rfl⟩) F 1 0 (by decide) (by omega) (fun x y x1 x2 => by omega) (by omega)
    have hx : x * 1 ≤ x * y := Nat.mul_le_mul_left x h2
    have hy : 1 * y ≤ x * y := Nat.mul_le_mul_right y h1
    rcases Nat.le_total x y with g | g
    · exact h x y h1 (by omega) h2 g h3
    · exact gOk_comm (h y x h2 (by omega) h1 g (by rw [Nat.mul_comm]; exact h3))
  · exact ⟨_, rfl, ⟨fun q => absurd q Bool.false_ne_true, fun g => absurd (lgc0.mpr g.1) c⟩, rfl⟩

theorem zBp9 (F : Nat) (V : Nat → Int64) (ib : Bool) (dn : Int32) (rf : Int32) (mk : Int32) (th : Int32) (p0 : Nat → Int64) (p1 : Bool) (hF : 2000 ≤ F) (u : Nat → Int64) (hfu : ∀ j, 1 ≤ j → j ≤ 120 → p0 j = u j) : ZE (fun (r : (Bool × (Nat → Int64) × Bool × Int32 × Int32 × Int32 × Int32)) => (r.1 = true ↔ gBp p1 u) ∧ r.2.1 = V ∧ r.2.2.2 = (dn, rf, mk, th)) (p_X9_isByPrimes F V ib dn rf mk th p0 p1) := by
  unfold p_X9_isByPrimes
  rw [show (1 : Int32).toNatClampNeg = 1 from rfl, hfu 1 (by omega) (by omega)]
  refine ZE_if (fun c => ?_) (fun c => ?_)
  · refine zBp9L0 F V dn rf mk th p0 p1 hF u hfu (fun x y h1 h2 h3 hn q => ⟨⟨fun q => absurd q Bool.false_ne_true, fun g => absurd (g.2 x y h1 h2 h3) hn⟩, rfl, rfl⟩) _ (fun vd q h => ⟨_, rfl, ⟨fun _ => ⟨lgc0.mp c, fun x y h1 h2 h3 => ?_⟩, fun _ => rfl⟩, rfl, rfl⟩) F 1 ib 0 (by decide) (by omega) (fun x y x1 x2 => by omega) (by omega)
    have hx : x * 1 ≤ x * y := Nat.mul_le_mul_left x h2
    exact h x y h1 (by omega) h2 h3
  · exact ⟨_, rfl, ⟨fun q => absurd q Bool.false_ne_true, fun g => absurd (lgc0.mpr g.1) c⟩, rfl, rfl⟩

-- ==================== known ones
def knV (w : Int32) (n : Nat) : Int64 := if w = 0 then (if ¬ n = 1 then 0 else 1) else if w = 1 then 1 else if w = 2 then nL n else if w = 3 then (Int32.ofInt (nSgn n)).toInt64 else if w = 4 then (Int32.ofInt ((nPhi n n : Nat) : Int)).toInt64 else if w = 5 then (Int32.ofInt ((nTau n n : Nat) : Int)).toInt64 else if w = 6 then (Int32.ofInt ((nSig n n : Nat) : Int)).toInt64 else if w = 7 then (if ¬ nSqr n 31 = 1 then 0 else 1) else if w = 8 then (if nAll 12 n % 2 = 0 then 1 else -1) else if w = 9 then (if ¬ nSqr n 31 = n then 0 else 1) else (Int32.ofInt ((n * n : Nat) : Int)).toInt64
theorem zeqN {x y : Int32} {a b : Nat} (hx : x.toInt = a) (hy : y.toInt = b) : x = y ↔ a = b := by
  rw [← Int32.toInt_inj, hx, hy]
  omega

theorem zTurP (F : Nat) (pr tm : Nat → Int32) (p0 : Int32) (n : Nat) (hF : 2000 ≤ F) (hn : p0.toInt = n) (h1 : 1 ≤ n) (h3 : n ≤ 120) : ZE (fun (r : (Int32 × (Nat → Int32) × (Nat → Int32) × Int32)) => r.1.toInt64 = if nAll 12 n % 2 = 0 then 1 else -1) (p_X1_turnByPowers F pr tm p0) := by
  unfold p_X1_turnByPowers
  refine ZE_b3 (zLay F pr tm p0 n hF hn h1 (by omega)) (fun pr_1 tm_2 cn_3 hR => ?_)
  refine zTurnPL F tm_2 cn_3 pr_1 (nPw n) hF hR _ (fun a b h => ?_) F 0 0 0 (by decide) (by omega) rfl (by omega)
  have hl : lTurn (nPw n) = ((nAll 12 n : Nat) : Int) := by rw [lTurn_eq, cAll n h1 h3]
  have hb := zAllB 12 n
  have ha : a.toInt = ((nAll 12 n : Nat) : Int) := by
    rw [h, hl, Int32.toInt_ofInt, show Int32.size = 4294967296 from rfl]
    exact Int.bmod_eq_of_le (by omega) (by omega)
  have hd := zDvdN ha (show (2 : Int32).toInt = ((2 : Nat) : Int) by decide) (by omega)
  refine ZE_if (fun c => ⟨_, rfl, ?_⟩) (fun c => ⟨_, rfl, ?_⟩)
  · rw [if_neg (fun q => c (hd.mpr (Nat.dvd_of_mod_eq_zero q)))]
    show (-1 : Int32).toInt64 = -1
    decide
  · rw [if_pos (Nat.mod_eq_zero_of_dvd (hd.mp (Decidable.not_not.mp c)))]
    show (1 : Int32).toInt64 = 1
    decide

set_option maxHeartbeats 4000000 in
theorem zKn7 (F : Nat) (pr : Nat → Int32) (tm : Nat → Int32) (cn : Int32) (p0 : Int32) (p1 : Int32) (n : Nat) (hF : 2000 ≤ F) (hn : p1.toInt = n) (h1 : 1 ≤ n) (h2 : n ≤ 120) : ZE (fun (r : (Int64 × (Nat → Int32) × (Nat → Int32) × Int32)) => r.1 = knV p0 n) (p_X1_known F pr tm cn p0 p1) := by
  unfold p_X1_known knV
  by_cases c0 : p0 = (0 : Int32)
  · rw [if_pos c0, if_pos c0]
    refine ZE_if (fun c => ⟨_, rfl, ?_⟩) (fun c => ⟨_, rfl, ?_⟩)
    · rw [if_pos (fun q => c ((zeqN hn (show (1 : Int32).toInt = ((1 : Nat) : Int) by decide)).mpr q))]
    · rw [if_neg (fun q => q ((zeqN hn (show (1 : Int32).toInt = ((1 : Nat) : Int) by decide)).mp (Decidable.not_not.mp c)))]
  rw [if_neg c0, if_neg c0]
  by_cases c1 : p0 = (1 : Int32)
  · rw [if_pos c1, if_pos c1]
    exact ⟨_, rfl, rfl⟩
  rw [if_neg c1, if_neg c1]
  by_cases c2 : p0 = (2 : Int32)
  · rw [if_pos c2, if_pos c2]
    refine ⟨_, rfl, ?_⟩
    show p1.toInt64 = nL n
    rw [zOf hn]
    rfl
  rw [if_neg c2, if_neg c2]
  by_cases c3 : p0 = (3 : Int32)
  · rw [if_pos c3, if_pos c3]
    refine ZE_b4 (zSgnP F pr tm p1 n hF hn h1 (by omega)) (fun r1 x y z hr => ⟨_, rfl, ?_⟩)
    dsimp only at hr ⊢
    rw [hr, cSgn n h1 (by omega)]
  rw [if_neg c3, if_neg c3]
  by_cases c4 : p0 = (4 : Int32)
  · rw [if_pos c4, if_pos c4]
    refine ZE_b4 (zPhiP F pr tm p1 n hF hn h1 (by omega)) (fun r1 x y z hr => ⟨_, rfl, ?_⟩)
    dsimp only at hr ⊢
    rw [hr, cPhi n h1 (by omega)]
  rw [if_neg c4, if_neg c4]
  by_cases c5 : p0 = (5 : Int32)
  · rw [if_pos c5, if_pos c5]
    refine ZE_b4 (zTauP F pr tm p1 n hF hn h1 (by omega)) (fun r1 x y z hr => ⟨_, rfl, ?_⟩)
    dsimp only at hr ⊢
    rw [hr, cTau n h1 (by omega)]
  rw [if_neg c5, if_neg c5]
  by_cases c6 : p0 = (6 : Int32)
  · rw [if_pos c6, if_pos c6]
    refine ZE_b4 (zSigP F pr tm p1 n hF hn h1 (by omega)) (fun r1 x y z hr => ⟨_, rfl, ?_⟩)
    dsimp only at hr ⊢
    rw [hr, cSig n h1 (by omega)]
  rw [if_neg c6, if_neg c6]
  by_cases c7 : p0 = (7 : Int32)
  · rw [if_pos c7, if_pos c7]
    refine ZE_b1 (zSqr7 F p1 n hF hn h1 (by omega)) (fun r1 hr => ?_)
    have he := zeqN hr (show (1 : Int32).toInt = ((1 : Nat) : Int) by decide)
    refine ZE_if (fun c => ⟨_, rfl, ?_⟩) (fun c => ⟨_, rfl, ?_⟩)
    · rw [if_pos (fun q => c (he.mpr q))]
    · rw [if_neg (fun q => q (he.mp (Decidable.not_not.mp c)))]
  rw [if_neg c7, if_neg c7]
  by_cases c8 : p0 = (8 : Int32)
  · rw [if_pos c8, if_pos c8]
    refine ZE_b4 (zTurP F pr tm p1 n hF hn h1 (by omega)) (fun r1 x y z hr => ⟨_, rfl, hr⟩)
  rw [if_neg c8, if_neg c8]
  by_cases c9 : p0 = (9 : Int32)
  · rw [if_pos c9, if_pos c9]
    refine ZE_b1 (zSqr7 F p1 n hF hn h1 (by omega)) (fun r1 hr => ?_)
    have he := zeqN hr hn
    refine ZE_if (fun c => ⟨_, rfl, ?_⟩) (fun c => ⟨_, rfl, ?_⟩)
    · rw [if_pos (fun q => c (he.mpr q))]
    · rw [if_neg (fun q => q (he.mp (Decidable.not_not.mp c)))]
  rw [if_neg c9, if_neg c9]
  refine ⟨_, rfl, Int64.toInt_inj.mp ?_⟩
  have hb : n * n ≤ 120 * 120 := Nat.mul_le_mul h2 h2
  show (p1.toInt64 * p1.toInt64).toInt = _
  rw [Int64.toInt_mul, Int32.toInt_toInt64, Int32.toInt_toInt64, Int32.toInt_ofInt, hn, ← Int.natCast_mul]
  rw [zbm (by omega) (by omega), show Int32.size = 4294967296 from rfl]
  exact (Int.bmod_eq_of_le (by omega) (by omega)).symm

set_option maxHeartbeats 4000000 in
theorem zKn9 (F : Nat) (p0 : Int32) (p1 : Int32) (n : Nat) (hF : 2000 ≤ F) (hn : p1.toInt = n) (h1 : 1 ≤ n) (h2 : n ≤ 120) : ZE (fun (r : Int64) => r = knV p0 n) (p_X9_known F p0 p1) := by
  unfold p_X9_known knV
  by_cases c0 : p0 = (0 : Int32)
  · rw [if_pos c0, if_pos c0]
    refine ZE_if (fun c => ⟨_, rfl, ?_⟩) (fun c => ⟨_, rfl, ?_⟩)
    · rw [if_pos (fun q => c ((zeqN hn (show (1 : Int32).toInt = ((1 : Nat) : Int) by decide)).mpr q))]
    · rw [if_neg (fun q => q ((zeqN hn (show (1 : Int32).toInt = ((1 : Nat) : Int) by decide)).mp (Decidable.not_not.mp c)))]
  rw [if_neg c0, if_neg c0]
  by_cases c1 : p0 = (1 : Int32)
  · rw [if_pos c1, if_pos c1]
    exact ⟨_, rfl, rfl⟩
  rw [if_neg c1, if_neg c1]
  by_cases c2 : p0 = (2 : Int32)
  · rw [if_pos c2, if_pos c2]
    refine ⟨_, rfl, ?_⟩
    show p1.toInt64 = nL n
    rw [zOf hn]
    rfl
  rw [if_neg c2, if_neg c2]
  by_cases c3 : p0 = (3 : Int32)
  · rw [if_pos c3, if_pos c3]
    refine ZE_b1 (zSgn9 F p1 n hF hn h1 (by omega)) (fun r1 hr => ⟨_, rfl, ?_⟩)
    dsimp only at hr ⊢
    rw [hr]
  rw [if_neg c3, if_neg c3]
  by_cases c4 : p0 = (4 : Int32)
  · rw [if_pos c4, if_pos c4]
    refine ZE_b1 (zPhi9 F p1 n hF hn h1 (by omega)) (fun r1 hr => ⟨_, rfl, ?_⟩)
    dsimp only at hr ⊢
    rw [hr]
  rw [if_neg c4, if_neg c4]
  by_cases c5 : p0 = (5 : Int32)
  · rw [if_pos c5, if_pos c5]
    refine ZE_b1 (zTau9 F p1 n hF hn h1 (by omega)) (fun r1 hr => ⟨_, rfl, ?_⟩)
    dsimp only at hr ⊢
    rw [hr]
  rw [if_neg c5, if_neg c5]
  by_cases c6 : p0 = (6 : Int32)
  · rw [if_pos c6, if_pos c6]
    refine ZE_b1 (zSig9 F p1 n hF hn h1 (by omega)) (fun r1 hr => ⟨_, rfl, ?_⟩)
    dsimp only at hr ⊢
    rw [hr]
  rw [if_neg c6, if_neg c6]
  by_cases c7 : p0 = (7 : Int32)
  · rw [if_pos c7, if_pos c7]
    refine ZE_b1 (zSqr9 F p1 n hF hn h1 (by omega)) (fun r1 hr => ?_)
    have he := zeqN hr (show (1 : Int32).toInt = ((1 : Nat) : Int) by decide)
    refine ZE_if (fun c => ⟨_, rfl, ?_⟩) (fun c => ⟨_, rfl, ?_⟩)
    · rw [if_pos (fun q => c (he.mpr q))]
    · rw [if_neg (fun q => q (he.mp (Decidable.not_not.mp c)))]
  rw [if_neg c7, if_neg c7]
  by_cases c8 : p0 = (8 : Int32)
  · rw [if_pos c8, if_pos c8]
    refine ZE_b1 (zAll9 F p1 n hF hn h1 (by omega)) (fun r1 hr => ?_)
    have hd := zDvdN hr (show (2 : Int32).toInt = ((2 : Nat) : Int) by decide) (by omega)
    refine ZE_if (fun c => ⟨_, rfl, ?_⟩) (fun c => ⟨_, rfl, ?_⟩)
    · rw [if_neg (fun q => c (hd.mpr (Nat.dvd_of_mod_eq_zero q)))]
    · rw [if_pos (Nat.mod_eq_zero_of_dvd (hd.mp (Decidable.not_not.mp c)))]
  rw [if_neg c8, if_neg c8]
  by_cases c9 : p0 = (9 : Int32)
  · rw [if_pos c9, if_pos c9]
    refine ZE_b1 (zSqr9 F p1 n hF hn h1 (by omega)) (fun r1 hr => ?_)
    have he := zeqN hr hn
    refine ZE_if (fun c => ⟨_, rfl, ?_⟩) (fun c => ⟨_, rfl, ?_⟩)
    · rw [if_pos (fun q => c (he.mpr q))]
    · rw [if_neg (fun q => q (he.mp (Decidable.not_not.mp c)))]
  rw [if_neg c9, if_neg c9]
  refine ⟨_, rfl, ?_⟩
  show (p1 * p1).toInt64 = _
  have hb : n * n ≤ 120 * 120 := Nat.mul_le_mul h2 h2
  rw [zOf (zMulN hn hn (by omega))]

set_option maxHeartbeats 2000000 in
theorem zKw7 {P : (Nat × Int32 × (Nat → Nat → Int64) × (Nat → Int32) × (Nat → Int32) × Int32 × Int32) → Prop} (F : Nat) (p1 : Int32) (hF : 2000 ≤ F) (R : Nat → Nat → Int64) (k : Int32 → (Nat → Nat → Int64) → (Nat → Int32) → (Nat → Int32) → Int32 → Option (Nat × Int32 × (Nat → Nat → Int64) × (Nat → Int32) × (Nat → Int32) × Int32 × Int32)) (hk : ∀ (vd : Int32) (RL : Nat → Nat → Int64) (prL0 tmL0 : Nat → Int32) (cnL0 : Int32), (∀ i, i ≠ 4 → RL i = R i) → (∀ j, 1 ≤ j → j ≤ 120 → RL 4 j = knV p1 j) → ZE P (k vd RL prL0 tmL0 cnL0)) : ∀ (f : Nat) (vd : Int32) (RL : Nat → Nat → Int64) (prL0 tmL0 : Nat → Int32) (cnL0 : Int32) (d : Nat), vd.toInt = ((d + 1 : Nat) : Int) → d ≤ 120 → (∀ i, i ≠ 4 → RL i = R i) → (∀ j, 1 ≤ j → j ≤ d → RL 4 j = knV p1 j) → 121 - d < f → ZE P (p_X7_know_L0 F p1 k f vd RL prL0 tmL0 cnL0) := by
  intro f
  induction f with
  | zero => intros; rename_i hm; exact absurd hm (Nat.not_lt_zero _)
  | succ f ih =>
    intro vd RL prL0 tmL0 cnL0 d hd hdn hA hB hm
    show ZE P (if (120 : Int32) < vd then (k vd RL prL0 tmL0 cnL0) else (zb4 (p_X1_known F prL0 tmL0 cnL0 p1 vd) (fun r10 pr_11 tm_12 cn_13 => (zb1 (p_X4_lay RL 4 vd r10) (fun R_15 => (p_X7_know_L0 F p1 k f (vd + (1 : Int32)) R_15 pr_11 tm_12 cn_13))))))
    have e1 := zAddN hd (by omega)
    have o120 : (120 : Int32).toInt = 120 := by decide
    refine ZE_if (fun c => ?_) (fun c => ?_)
    · rw [Int32.lt_iff_toInt_lt, o120] at c
      have hde : d = 120 := by omega
      subst hde
      exact hk _ _ _ _ _ hA hB
    · rw [Int32.lt_iff_toInt_lt, o120] at c
      refine ZE_b4 (zKn7 F prL0 tmL0 cnL0 p1 vd (d + 1) hF hd (by omega) (by omega)) (fun r1 x y z hr => ?_)
      refine ZE_b1e (zLay7 RL 4 r1 hd (by omega) (by omega)) ?_
      exact ih _ _ _ _ _ (d + 1) e1 (by omega) (zRowA hA) (zRowB hB hr) (by omega)

set_option maxHeartbeats 2000000 in
theorem zKw9 {P : (Int32 × (Nat → Int64) × Int32 × Int32) → Prop} (F : Nat) (p1 : Int32) (hF : 2000 ≤ F) (k : Int32 → (Nat → Int64) → Option (Int32 × (Nat → Int64) × Int32 × Int32)) (hk : ∀ (vd : Int32) (fr : Nat → Int64), (∀ j, 1 ≤ j → j ≤ 120 → fr j = knV p1 j) → ZE P (k vd fr)) : ∀ (f : Nat) (vd : Int32) (fr : Nat → Int64) (d : Nat), vd.toInt = ((d + 1 : Nat) : Int) → d ≤ 120 → (∀ j, 1 ≤ j → j ≤ d → fr j = knV p1 j) → 121 - d < f → ZE P (p_X9_know_L0 F p1 k f vd fr) := by
  intro f
  induction f with
  | zero => intros; rename_i hm; exact absurd hm (Nat.not_lt_zero _)
  | succ f ih =>
    intro vd fr d hd hdn hB hm
    show ZE P (if (120 : Int32) < vd then (k vd fr) else (zb1 (p_X9_known F p1 vd) (fun r13 => (zg (vd < 0 ∨ 121 ≤ vd.toNatClampNeg) (p_X9_know_L0 F p1 k f (vd + (1 : Int32)) (vp_updL fr vd.toNatClampNeg r13))))))
    have e1 := zAddN hd (by omega)
    have o120 : (120 : Int32).toInt = 120 := by decide
    refine ZE_if (fun c => ?_) (fun c => ?_)
    · rw [Int32.lt_iff_toInt_lt, o120] at c
      have hde : d = 120 := by omega
      subst hde
      exact hk _ _ hB
    · rw [Int32.lt_iff_toInt_lt, o120] at c
      refine ZE_b1 (zKn9 F p1 vd (d + 1) hF hd (by omega) (by omega)) (fun r1 hr => ZE_zg (zgi (by omega) (by omega)) ?_)
      rw [zClN hd]
      exact ih _ _ (d + 1) e1 (by omega) (zArrB hB hr) (by omega)

-- ==================== sown
def swx (s : Int32) : Nat → Int32
  | 0 => s
  | n + 1 => zr ((swx s n * (25173 : Int32)) + (13849 : Int32)) (65536 : Int32)
def swv (s p : Int32) (n : Nat) : Int32 := (zr (swx s n / (64 : Int32)) (((2 : Int32) * p) + (1 : Int32))) - p
def swz (s p : Int32) : Nat → Int32
  | 0 => 0
  | n + 1 => swz s p n + (if ¬ swv s p (n + 1) = 0 then 0 else 1)
theorem zl0 {x : Int32} : x.toInt64 = 0 ↔ x = 0 := by
  rw [← Int64.toInt_inj, Int32.toInt_toInt64, ← Int32.toInt_inj]
  exact Iff.rfl
theorem zodd2 {p : Int32} (h0 : 0 ≤ p.toInt) (h1 : p.toInt ≤ 500) : ¬ (((2 : Int32) * p) + (1 : Int32)) ≤ 0 := by
  have o : (2 : Int32).toInt = 2 := by decide
  have o1 : (1 : Int32).toInt = 1 := by decide
  have e : ((2 : Int32) * p).toInt = 2 * p.toInt := by
    rw [Int32.toInt_mul, o]
    exact Int.bmod_eq_of_le (by omega) (by omega)
  rw [Int32.le_iff_toInt_le, zad (x := (2 : Int32) * p) (c := (1 : Int32)) (by omega) (by omega), e, o1, show (0 : Int32).toInt = 0 from by decide]
  omega

set_option maxHeartbeats 2000000 in
theorem zSw7 {P : (Nat × Int32 × (Nat → Nat → Int64) × Int32) → Prop} (F : Nat) (p2 : Int32) (r2 : Nat) (s : Int32) (hp0 : 0 ≤ p2.toInt) (hp1 : p2.toInt ≤ 500) (R : Nat → Nat → Int64) (k : Int32 → Int32 → Int32 → (Nat → Nat → Int64) → Option (Nat × Int32 × (Nat → Nat → Int64) × Int32)) (hk : ∀ (vx vz vd : Int32) (RL : Nat → Nat → Int64), vz = swz s p2 120 → (∀ i, i ≠ r2 → RL i = R i) → (∀ j, 1 ≤ j → j ≤ 120 → RL r2 j = (swv s p2 j).toInt64) → ZE P (k vx vz vd RL)) : ∀ (f : Nat) (vx vz vd : Int32) (RL : Nat → Nat → Int64) (d : Nat), vd.toInt = ((d + 1 : Nat) : Int) → d ≤ 120 → vx = swx s d → vz = swz s p2 d → (∀ i, i ≠ r2 → RL i = R i) → (∀ j, 1 ≤ j → j ≤ d → RL r2 j = (swv s p2 j).toInt64) → 121 - d < f → ZE P (p_X7_sow_L0 F p2 r2 k f vx vz vd RL) := by
  intro f
  induction f with
  | zero => intros; rename_i hm; exact absurd hm (Nat.not_lt_zero _)
  | succ f ih =>
    intro vx vz vd RL d hd hdn hx hz hA hB hm
    show ZE P (if (120 : Int32) < vd then (k vx vz vd RL) else (zlt (fun (s0j0 : Int32) => (if ¬ (s0j0 - p2) = 0 then (zb1 (p_X4_lay RL r2 vd ((s0j0 - p2).toInt64)) (fun R_8 => (p_X7_sow_L0 F p2 r2 k f (zr ((vx * (25173 : Int32)) + (13849 : Int32)) (65536 : Int32)) (vz + (0 : Int32)) (vd + (1 : Int32)) R_8))) else (zb1 (p_X4_lay RL r2 vd ((s0j0 - p2).toInt64)) (fun R_10 => (p_X7_sow_L0 F p2 r2 k f (zr ((vx * (25173 : Int32)) + (13849 : Int32)) (65536 : Int32)) (vz + (1 : Int32)) (vd + (1 : Int32)) R_10))))) (fun jf0 => (if (((2 : Int32) * p2) + (1 : Int32)) ≤ 0 then (jf0 (0 : Int32)) else (zg ((((2 : Int32) * p2) + (1 : Int32)) = 0) (jf0 (zr ((zr ((vx * (25173 : Int32)) + (13849 : Int32)) (65536 : Int32)) / (64 : Int32)) (((2 : Int32) * p2) + (1 : Int32)))))))))
    have e1 := zAddN hd (by omega)
    have o120 : (120 : Int32).toInt = 120 := by decide
    refine ZE_if (fun c => ?_) (fun c => ?_)
    · rw [Int32.lt_iff_toInt_lt, o120] at c
      have hde : d = 120 := by omega
      subst hde
      exact hk _ _ _ _ hz hA hB
    · rw [Int32.lt_iff_toInt_lt, o120] at c
      subst hx
      subst hz
      refine ZE_lta (ZE_if (fun c2 => absurd c2 (zodd2 hp0 hp1)) (fun _ => ZE_zg (zodd hp0 hp1) (ZE_if (fun c3 => ?_) (fun c3 => ?_))))
      · have c3' : ¬ swv s p2 (d + 1) = 0 := c3
        refine ZE_b1e (zLay7 RL r2 _ hd (by omega) (by omega)) ?_
        exact ih _ _ _ _ (d + 1) e1 (by omega) rfl (by show _ = swz s p2 d + (if ¬ swv s p2 (d + 1) = 0 then 0 else 1); rw [if_pos c3']) (zRowA hA) (zRowB (s := fun j => (swv s p2 j).toInt64) hB rfl) (by omega)
      · have c3' : ¬ ¬ swv s p2 (d + 1) = 0 := c3
        refine ZE_b1e (zLay7 RL r2 _ hd (by omega) (by omega)) ?_
        exact ih _ _ _ _ (d + 1) e1 (by omega) rfl (by show _ = swz s p2 d + (if ¬ swv s p2 (d + 1) = 0 then 0 else 1); rw [if_neg c3']) (zRowA hA) (zRowB (s := fun j => (swv s p2 j).toInt64) hB rfl) (by omega)

set_option maxHeartbeats 2000000 in
theorem zSw9L1 {P : (Int32 × (Nat → Int64) × Int32 × Int32) → Prop} (F : Nat) (p2 : Int32) (s : Int32) (hp0 : 0 ≤ p2.toInt) (hp1 : p2.toInt ≤ 500) (k : Int32 → Int32 → Int32 → (Nat → Int64) → Option (Int32 × (Nat → Int64) × Int32 × Int32)) (hk : ∀ (vx vz vd : Int32) (fr : Nat → Int64), vz = swz s p2 120 → (∀ j, 1 ≤ j → j ≤ 120 → fr j = (swv s p2 j).toInt64) → ZE P (k vx vz vd fr)) : ∀ (f : Nat) (vx vz vd : Int32) (fr : Nat → Int64) (d : Nat), vd.toInt = ((d + 1 : Nat) : Int) → d ≤ 120 → vx = swx s d → vz = swz s p2 d → (∀ j, 1 ≤ j → j ≤ d → fr j = (swv s p2 j).toInt64) → 121 - d < f → ZE P (p_X9_sow_L1 F p2 k f vx vz vd fr) := by
  intro f
  induction f with
  | zero => intros; rename_i hm; exact absurd hm (Nat.not_lt_zero _)
  | succ f ih =>
    intro vx vz vd fr d hd hdn hx hz hB hm
    show ZE P (if (120 : Int32) < vd then (k vx vz vd fr) else (zg ((((2 : Int32) * p2) + (1 : Int32)) = 0) (zg (vd < 0 ∨ 121 ≤ vd.toNatClampNeg) (zg (vd < 0 ∨ 121 ≤ vd.toNatClampNeg) (if ¬ (lg_cmp ((vp_updL fr vd.toNatClampNeg (((zr ((zr ((vx * (25173 : Int32)) + (13849 : Int32)) (65536 : Int32)) / (64 : Int32)) (((2 : Int32) * p2) + (1 : Int32))) - p2).toInt64)) vd.toNatClampNeg) (0 : Int64)) = 0 then (p_X9_sow_L1 F p2 k f (zr ((vx * (25173 : Int32)) + (13849 : Int32)) (65536 : Int32)) (vz + (0 : Int32)) (vd + (1 : Int32)) (vp_updL fr vd.toNatClampNeg (((zr ((zr ((vx * (25173 : Int32)) + (13849 : Int32)) (65536 : Int32)) / (64 : Int32)) (((2 : Int32) * p2) + (1 : Int32))) - p2).toInt64))) else (p_X9_sow_L1 F p2 k f (zr ((vx * (25173 : Int32)) + (13849 : Int32)) (65536 : Int32)) (vz + (1 : Int32)) (vd + (1 : Int32)) (vp_updL fr vd.toNatClampNeg (((zr ((zr ((vx * (25173 : Int32)) + (13849 : Int32)) (65536 : Int32)) / (64 : Int32)) (((2 : Int32) * p2) + (1 : Int32))) - p2).toInt64))))))))
    have e1 := zAddN hd (by omega)
    have o120 : (120 : Int32).toInt = 120 := by decide
    refine ZE_if (fun c => ?_) (fun c => ?_)
    · rw [Int32.lt_iff_toInt_lt, o120] at c
      have hde : d = 120 := by omega
      subst hde
      exact hk _ _ _ _ hz hB
    · rw [Int32.lt_iff_toInt_lt, o120] at c
      subst hx
      subst hz
      refine ZE_zg (zodd hp0 hp1) (ZE_zg (zgi (by omega) (by omega)) (ZE_zg (zgi (by omega) (by omega)) ?_))
      rw [zClN hd, zluS]
      refine ZE_if (fun c3 => ?_) (fun c3 => ?_)
      · have c3' : ¬ swv s p2 (d + 1) = 0 := fun q => c3 (lgc0.mpr (zl0.mpr q))
        exact ih _ _ _ _ (d + 1) e1 (by omega) rfl (by show _ = swz s p2 d + (if ¬ swv s p2 (d + 1) = 0 then 0 else 1); rw [if_pos c3']) (zArrB (s := fun j => (swv s p2 j).toInt64) hB rfl) (by omega)
      · have c3' : ¬ ¬ swv s p2 (d + 1) = 0 := fun q => q (zl0.mp (lgc0.mp (Decidable.not_not.mp c3)))
        exact ih _ _ _ _ (d + 1) e1 (by omega) rfl (by show _ = swz s p2 d + (if ¬ swv s p2 (d + 1) = 0 then 0 else 1); rw [if_neg c3']) (zArrB (s := fun j => (swv s p2 j).toInt64) hB rfl) (by omega)
