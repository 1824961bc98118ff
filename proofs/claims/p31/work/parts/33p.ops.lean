-- ==================== what is laid and made, whole methods
theorem zne20 : ¬ (2 : Nat) = 0 := by decide
theorem zne10 : ¬ (1 : Nat) = 0 := by decide
theorem iRow_11 (u : Nat → Int64) : iRow u 1 1 = u 1 := by
  show (if (1 : Nat) = 0 + 1 then (if (0 : Nat) = 0 then u 1 else (gAcc (tProd u (iRow u 0) (0 + 1)) 2 (0 + 1) (0 + 1)).1 * -(u 1)) else iRow u 0 1) = u 1
  rw [if_pos rfl, if_pos rfl]
def zLaid (R R' : Nat → Nat → Int64) (t : Nat) (s : Nat → Int64) (B : Nat → Bool) (ok : Bool) : Prop := (∀ i, i ≠ t → R' i = R i) ∧ (∀ j, 1 ≤ j → j ≤ 120 → R' t j = s j) ∧ ok = !gOr B 120

theorem zPr7 (F : Nat) (R : Nat → Nat → Int64) (p0 : Nat) (p1 : Nat) (p2 : Nat) (hF : 2000 ≤ F) (np0 : p0 ≠ p2) (np1 : p1 ≠ p2) (u w : Nat → Int64) (hfu : ∀ j, 1 ≤ j → j ≤ 120 → R p0 j = u j) (hfw : ∀ j, 1 ≤ j → j ≤ 120 → R p1 j = w j) : ZE (fun (r : (Bool × (Nat → Nat → Int64) × Bool)) => zLaid R r.2.1 p2 (fun j => (sProd u w j).1) (fun j => (sProd u w j).2) r.1) (p_X0_layProduct F R p0 p1 p2) := by
  unfold p_X0_layProduct
  refine ZE_b1 (Q := fun b => b = false) ⟨_, rfl, rfl⟩ (fun b hb => ?_)
  subst hb
  refine zPrL0 F p0 p1 p2 hF R np0 np1 u w hfu hfw false _ (fun vd RL bb hA hB hC => ?_) F 1 R false 0 (by decide) (by omega) (fun _ _ => rfl) (fun j j1 j2 => by omega) rfl (by omega)
  refine ZE_b1 (Q := fun r => r = bb) ⟨_, rfl, rfl⟩ (fun r hr => ?_)
  subst hr
  rw [Bool.false_or] at hC
  refine ZE_if (fun c => ⟨_, rfl, hA, hB, ?_⟩) (fun c => ⟨_, rfl, hA, hB, ?_⟩)
  · rw [← hC, zb01 c]
    rfl
  · rw [← hC, zbf0 (Decidable.not_not.mp c)]
    rfl

theorem zSu7 (F : Nat) (R : Nat → Nat → Int64) (p0 : Nat) (p1 : Nat) (hF : 2000 ≤ F) (np0 : p0 ≠ p1) (u : Nat → Int64) (hfu : ∀ j, 1 ≤ j → j ≤ 120 → R p0 j = u j) : ZE (fun (r : (Bool × (Nat → Nat → Int64) × Bool)) => zLaid R r.2.1 p1 (fun j => (sSum u j).1) (fun j => (sSum u j).2) r.1) (p_X0_laySummed F R p0 p1) := by
  unfold p_X0_laySummed
  refine ZE_b1 (Q := fun b => b = false) ⟨_, rfl, rfl⟩ (fun b hb => ?_)
  subst hb
  refine zSuL0 F p0 p1 hF R np0 u hfu false _ (fun vd RL bb hA hB hC => ?_) F 1 R false 0 (by decide) (by omega) (fun _ _ => rfl) (fun j j1 j2 => by omega) rfl (by omega)
  refine ZE_b1 (Q := fun r => r = bb) ⟨_, rfl, rfl⟩ (fun r hr => ?_)
  subst hr
  rw [Bool.false_or] at hC
  refine ZE_if (fun c => ⟨_, rfl, hA, hB, ?_⟩) (fun c => ⟨_, rfl, hA, hB, ?_⟩)
  · rw [← hC, zb01 c]
    rfl
  · rw [← hC, zbf0 (Decidable.not_not.mp c)]
    rfl

theorem zSg7 (F : Nat) (R : Nat → Nat → Int64) (pr : Nat → Int32) (tm : Nat → Int32) (cn : Int32) (p0 : Nat) (p1 : Nat) (hF : 2000 ≤ F) (np0 : p0 ≠ p1) (u : Nat → Int64) (hfu : ∀ j, 1 ≤ j → j ≤ 120 → R p0 j = u j) : ZE (fun (r : (Bool × (Nat → Nat → Int64) × Bool × (Nat → Int32) × (Nat → Int32) × Int32)) => zLaid R r.2.1 p1 (fun j => (sSig u j).1) (fun j => (sSig u j).2) r.1) (p_X0_laySigned F R pr tm cn p0 p1) := by
  unfold p_X0_laySigned
  refine ZE_b1 (Q := fun b => b = false) ⟨_, rfl, rfl⟩ (fun b hb => ?_)
  subst hb
  refine zSgL0 F p0 p1 hF R np0 u hfu false _ (fun vd RL bb x y z hA hB hC => ?_) F 1 R false pr tm cn 0 (by decide) (by omega) (fun _ _ => rfl) (fun j j1 j2 => by omega) rfl (by omega)
  refine ZE_b1 (Q := fun r => r = bb) ⟨_, rfl, rfl⟩ (fun r hr => ?_)
  subst hr
  rw [Bool.false_or] at hC
  refine ZE_if (fun c => ⟨_, rfl, hA, hB, ?_⟩) (fun c => ⟨_, rfl, hA, hB, ?_⟩)
  · rw [← hC, zb01 c]
    rfl
  · rw [← hC, zbf0 (Decidable.not_not.mp c)]
    rfl

theorem zBy7 (F : Nat) (R : Nat → Nat → Int64) (pr : Nat → Int32) (tm : Nat → Int32) (cn : Int32) (p0 : Nat) (p1 : Nat) (hF : 2000 ≤ F) (np0 : p0 ≠ p1) (u : Nat → Int64) (hfu : ∀ j, 1 ≤ j → j ≤ 120 → R p0 j = u j) : ZE (fun (r : (Bool × (Nat → Nat → Int64) × Bool × (Nat → Int32) × (Nat → Int32) × Int32)) => zLaid R r.2.1 p1 (fun j => (sPri u j).1) (fun j => (sPri u j).2) r.1) (p_X0_layByPrimes F R pr tm cn p0 p1) := by
  unfold p_X0_layByPrimes
  refine ZE_b1 (Q := fun b => b = false) ⟨_, rfl, rfl⟩ (fun b hb => ?_)
  subst hb
  refine zByL0 F p0 p1 hF R np0 u hfu false _ (fun vd RL bb x y z hA hB hC => ?_) F 1 R false pr tm cn 0 (by decide) (by omega) (fun _ _ => rfl) (fun j j1 j2 => by omega) rfl (by omega)
  refine ZE_b1 (Q := fun r => r = bb) ⟨_, rfl, rfl⟩ (fun r hr => ?_)
  subst hr
  rw [Bool.false_or] at hC
  refine ZE_if (fun c => ⟨_, rfl, hA, hB, ?_⟩) (fun c => ⟨_, rfl, hA, hB, ?_⟩)
  · rw [← hC, zb01 c]
    rfl
  · rw [← hC, zbf0 (Decidable.not_not.mp c)]
    rfl

theorem zTu7 (F : Nat) (R : Nat → Nat → Int64) (p0 : Nat) (p1 : Nat) (hF : 2000 ≤ F) (np0 : p0 ≠ p1) (u : Nat → Int64) (hfu : ∀ j, 1 ≤ j → j ≤ 120 → R p0 j = u j) : ZE (fun (r : (Bool × (Nat → Nat → Int64) × Bool)) => zLaid R r.2.1 p1 (fun j => (sTur u j).1) (fun j => (sTur u j).2) r.1) (p_X0_layTurned F R p0 p1) := by
  unfold p_X0_layTurned
  refine ZE_b1 (Q := fun b => b = false) ⟨_, rfl, rfl⟩ (fun b hb => ?_)
  subst hb
  refine zTuL0 F p0 p1 hF R np0 u hfu false _ (fun vd RL bb hA hB hC => ?_) F 1 R false 0 (by decide) (by omega) (fun _ _ => rfl) (fun j j1 j2 => by omega) rfl (by omega)
  refine ZE_b1 (Q := fun r => r = bb) ⟨_, rfl, rfl⟩ (fun r hr => ?_)
  subst hr
  rw [Bool.false_or] at hC
  refine ZE_if (fun c => ⟨_, rfl, hA, hB, ?_⟩) (fun c => ⟨_, rfl, hA, hB, ?_⟩)
  · rw [← hC, zb01 c]
    rfl
  · rw [← hC, zbf0 (Decidable.not_not.mp c)]
    rfl

theorem zPc7 (F : Nat) (R : Nat → Nat → Int64) (p0 : Nat) (p1 : Nat) (hF : 2000 ≤ F) (np0 : p0 ≠ p1) (u : Nat → Int64) (hfu : ∀ j, 1 ≤ j → j ≤ 120 → R p0 j = u j) : ZE (fun (r : (Bool × (Nat → Nat → Int64) × Bool)) => zLaid R r.2.1 p1 (fun j => (sPla u j).1) (fun j => (sPla u j).2) r.1) (p_X0_layByPlace F R p0 p1) := by
  unfold p_X0_layByPlace
  refine ZE_b1 (Q := fun b => b = false) ⟨_, rfl, rfl⟩ (fun b hb => ?_)
  subst hb
  refine zPlL0 F p0 p1 hF R np0 u hfu false _ (fun vd RL bb hA hB hC => ?_) F 1 R false 0 (by decide) (by omega) (fun _ _ => rfl) (fun j j1 j2 => by omega) rfl (by omega)
  refine ZE_b1 (Q := fun r => r = bb) ⟨_, rfl, rfl⟩ (fun r hr => ?_)
  subst hr
  rw [Bool.false_or] at hC
  refine ZE_if (fun c => ⟨_, rfl, hA, hB, ?_⟩) (fun c => ⟨_, rfl, hA, hB, ?_⟩)
  · rw [← hC, zb01 c]
    rfl
  · rw [← hC, zbf0 (Decidable.not_not.mp c)]
    rfl

theorem zMe7 (F : Nat) (R : Nat → Nat → Int64) (p0 : Int32) (p1 : Nat) (p2 : Nat) (p3 : Nat) (hF : 2000 ≤ F) (np1 : p1 ≠ p3) (np2 : p2 ≠ p3) (u w : Nat → Int64) (hfu : ∀ j, 1 ≤ j → j ≤ 120 → R p1 j = u j) (hfw : ∀ j, 1 ≤ j → j ≤ 120 → R p2 j = w j) : ZE (fun (r : (Bool × (Nat → Nat → Int64) × Bool)) => zLaid R r.2.1 p3 (fun j => (sMet p0 u w j).1) (fun j => (sMet p0 u w j).2) r.1) (p_X0_layMet F R p0 p1 p2 p3) := by
  unfold p_X0_layMet
  refine ZE_b1 (Q := fun b => b = false) ⟨_, rfl, rfl⟩ (fun b hb => ?_)
  subst hb
  refine zMeL0 F p0 p1 p2 p3 hF R np1 np2 u w hfu hfw false _ (fun vd RL bb hA hB hC => ?_) F 1 R false 0 (by decide) (by omega) (fun _ _ => rfl) (fun j j1 j2 => by omega) rfl (by omega)
  refine ZE_b1 (Q := fun r => r = bb) ⟨_, rfl, rfl⟩ (fun r hr => ?_)
  subst hr
  rw [Bool.false_or] at hC
  refine ZE_if (fun c => ⟨_, rfl, hA, hB, ?_⟩) (fun c => ⟨_, rfl, hA, hB, ?_⟩)
  · rw [← hC, zb01 c]
    rfl
  · rw [← hC, zbf0 (Decidable.not_not.mp c)]
    rfl

theorem zHi7 (R : Nat → Nat → Int64) (p0 : Nat) (u : Nat → Int64) (hfu : ∀ j, 1 ≤ j → j ≤ 120 → R p0 j = u j) : p_X0_hasInverse R p0 = some (decide (u 1 = 1 ∨ u 1 = -1)) := by
  unfold p_X0_hasInverse
  rw [zAt7 R p0 (v := 1) (n := 1) (by decide) (by omega) (by omega), hfu 1 (by omega) (by omega)]
  show (if lg_cmp (u 1) 1 = 0 then some true else (if ¬ lg_cmp (u 1) (-1) = 0 then some false else some true)) = _
  by_cases c : u 1 = 1
  · rw [if_pos (lgc0.mpr c), decide_eq_true (Or.inl c)]
  · rw [if_neg (fun h => c (lgc0.mp h))]
    by_cases d : u 1 = -1
    · rw [if_neg (fun h => h (lgc0.mpr d)), decide_eq_true (Or.inr d)]
    · rw [if_pos (fun h => d (lgc0.mp h)), decide_eq_false (fun h => h.elim c d)]
theorem zHi9 (p0 : Nat → Int64) (u : Nat → Int64) (hfu : ∀ j, 1 ≤ j → j ≤ 120 → p0 j = u j) : p_X9_hasInverse p0 = some (decide (u 1 = 1 ∨ u 1 = -1)) := by
  unfold p_X9_hasInverse
  rw [show (1 : Int32).toNatClampNeg = 1 from rfl, hfu 1 (by omega) (by omega)]
  by_cases c : u 1 = 1
  · rw [if_pos (lgc0.mpr c), decide_eq_true (Or.inl c)]
  · rw [if_neg (fun h => c (lgc0.mp h))]
    by_cases d : u 1 = -1
    · rw [if_neg (fun h => h (lgc0.mpr d)), decide_eq_true (Or.inr d)]
    · rw [if_pos (fun h => d (lgc0.mp h)), decide_eq_false (fun h => h.elim c d)]

theorem zIn7 (F : Nat) (R : Nat → Nat → Int64) (b : Bool) (p0 : Nat) (p1 : Nat) (hF : 2000 ≤ F) (np0 : p0 ≠ p1) (u : Nat → Int64) (hfu : ∀ j, 1 ≤ j → j ≤ 120 → R p0 j = u j) (hi : u 1 = 1 ∨ u 1 = -1) : ZE (fun (r : (Bool × (Nat → Nat → Int64) × Bool)) => zLaid R r.2.1 p1 (iRow u 120) (iFl u) r.1) (p_X0_layInverse F R b p0 p1) := by
  unfold p_X0_layInverse
  rw [zHi7 R p0 u hfu, decide_eq_true hi]
  refine ZE_b1e rfl (ZE_if (fun _ => ?_) (fun c => absurd (by decide) c))
  refine ZE_b1 (Q := fun b => b = false) ⟨_, rfl, rfl⟩ (fun b hb => ?_)
  subst hb
  refine ZE_b1e (zAt7 R p0 (v := 1) (n := 1) (by decide) (by omega) (by omega)) ?_
  refine ZE_b1e (zLay7 R p1 _ (v := 1) (n := 1) (by decide) (by omega) (by omega)) ?_
  rw [hfu 1 (by omega) (by omega)]
  refine zInL0 F p0 p1 hF R np0 u hfu false _ (fun vd RL bb hA hB hC => ?_) F 2 _ false 1 (by decide) (by omega) (by omega) (fun i hi => zupN hi) (fun j j1 j2 => ?_) rfl (by omega)
  · refine ZE_b1 (Q := fun r => r = bb) ⟨_, rfl, rfl⟩ (fun r hr => ?_)
    subst hr
    rw [Bool.false_or] at hC
    refine ZE_if (fun c => ⟨_, rfl, hA, hB, ?_⟩) (fun c => ⟨_, rfl, hA, hB, ?_⟩)
    · rw [← hC, zb01 c]
      rfl
    · rw [← hC, zbf0 (Decidable.not_not.mp c)]
      rfl
  · rw [show j = 1 by omega, zupS, zluS]
    exact (iRow_11 u).symm

def zMade (fr : Nat → Int64) (s : Nat → Int64) : Prop := ∀ j, 1 ≤ j → j ≤ 120 → fr j = s j
theorem zPr9 (F : Nat) (ib : Bool) (p0 p1 : Nat → Int64) (hF : 2000 ≤ F) (u w : Nat → Int64) (hfu : ∀ j, 1 ≤ j → j ≤ 120 → p0 j = u j) (hfw : ∀ j, 1 ≤ j → j ≤ 120 → p1 j = w j) : ZE (fun (r : ((Nat → Int64) × Bool)) => zMade r.1 (fun j => (sProd u w j).1) ∧ r.2 = (ib || gOr (fun j => (sProd u w j).2) 120)) (p_X9_product F ib p0 p1) := by
  unfold p_X9_product
  exact zPr9L0 F p0 p1 hF u w hfu hfw ib _ (fun vd bb fr hB hC => ⟨_, rfl, hB, hC⟩) F 1 ib _ 0 (by decide) (by omega) (fun _ _ => rfl) (fun j j1 j2 => by omega) (Bool.or_false _).symm (by omega)
theorem zIn9 (F : Nat) (ib : Bool) (p0 : Nat → Int64) (hF : 2000 ≤ F) (u : Nat → Int64) (hfu : ∀ j, 1 ≤ j → j ≤ 120 → p0 j = u j) : ZE (fun (r : ((Nat → Int64) × Bool)) => zMade r.1 (iRow u 120) ∧ r.2 = (ib || gOr (iFl u) 120)) (p_X9_inverse F ib p0) := by
  unfold p_X9_inverse
  refine zIn9L0 F p0 hF u hfu ib _ (fun vd bb fr hB hC => ⟨_, rfl, hB, hC⟩) F 2 ib _ 1 (by decide) (by omega) (by omega) (fun j j1 j2 => ?_) (Bool.or_false _).symm (by omega)
  rw [show j = 1 by omega, show (1 : Int32).toNatClampNeg = 1 from rfl, zluS, hfu 1 (by omega) (by omega)]
  exact (iRow_11 u).symm
theorem zBy9 (F : Nat) (ib : Bool) (p0 : Nat → Int64) (hF : 2000 ≤ F) (u : Nat → Int64) (hfu : ∀ j, 1 ≤ j → j ≤ 120 → p0 j = u j) : ZE (fun (r : ((Nat → Int64) × Bool)) => zMade r.1 (fun j => (sPri u j).1) ∧ r.2 = (ib || gOr (fun j => (sPri u j).2) 120)) (p_X9_byPrimes F ib p0) := by
  unfold p_X9_byPrimes
  exact zBy9L0 F p0 hF u hfu ib _ (fun vd bb fr hB hC => ⟨_, rfl, hB, hC⟩) F 1 ib _ 0 (by decide) (by omega) (fun j j1 j2 => by omega) (Bool.or_false _).symm (by omega)
/-- what is made of one, by its number -/
def sMk (p : Int32) (u : Nat → Int64) (j : Nat) : Int64 × Bool := if p = 0 then (iRow u 120 j, iFl u j) else if p = 1 then sSum u j else if p = 2 then sSig u j else if p = 3 then sPri u j else if p = 4 then sTur u j else sPla u j
theorem sMk_0 (u : Nat → Int64) : sMk 0 u = fun j => (iRow u 120 j, iFl u j) := funext fun j => by
  unfold sMk
  rw [if_pos (show (0 : Int32) = 0 from rfl)]
theorem sMk_1 (u : Nat → Int64) : sMk 1 u = sSum u := funext fun j => by
  unfold sMk
  rw [if_neg (show ¬ (1 : Int32) = 0 by decide), if_pos (show (1 : Int32) = 1 from rfl)]
theorem sMk_2 (u : Nat → Int64) : sMk 2 u = sSig u := funext fun j => by
  unfold sMk
  rw [if_neg (show ¬ (2 : Int32) = 0 by decide), if_neg (show ¬ (2 : Int32) = 1 by decide), if_pos (show (2 : Int32) = 2 from rfl)]
theorem sMk_3 (u : Nat → Int64) : sMk 3 u = sPri u := funext fun j => by
  unfold sMk
  rw [if_neg (show ¬ (3 : Int32) = 0 by decide), if_neg (show ¬ (3 : Int32) = 1 by decide), if_neg (show ¬ (3 : Int32) = 2 by decide), if_pos (show (3 : Int32) = 3 from rfl)]
theorem sMk_4 (u : Nat → Int64) : sMk 4 u = sTur u := funext fun j => by
  unfold sMk
  rw [if_neg (show ¬ (4 : Int32) = 0 by decide), if_neg (show ¬ (4 : Int32) = 1 by decide), if_neg (show ¬ (4 : Int32) = 2 by decide), if_neg (show ¬ (4 : Int32) = 3 by decide), if_pos (show (4 : Int32) = 4 from rfl)]
theorem sMk_5 (u : Nat → Int64) : sMk 5 u = sPla u := funext fun j => by
  unfold sMk
  rw [if_neg (show ¬ (5 : Int32) = 0 by decide), if_neg (show ¬ (5 : Int32) = 1 by decide), if_neg (show ¬ (5 : Int32) = 2 by decide), if_neg (show ¬ (5 : Int32) = 3 by decide), if_neg (show ¬ (5 : Int32) = 4 by decide)]
theorem sMe_4 (u : Nat → Int64) : sMe 4 u = sTur u := funext fun j => by
  unfold sMe
  rw [if_neg (show ¬ ¬ (4 : Int32) = 4 from fun h => h rfl)]
theorem sMe_5 (u : Nat → Int64) : sMe 5 u = sPla u := funext fun j => by
  unfold sMe
  rw [if_pos (show ¬ (5 : Int32) = 4 by decide)]
theorem gOr_congr {B C : Nat → Bool} : ∀ n, (∀ j, 1 ≤ j → j ≤ n → B j = C j) → gOr B n = gOr C n := by
  intro n
  induction n with
  | zero => intro _; rfl
  | succ n ih =>
    intro h
    show (gOr B n || B (n + 1)) = (gOr C n || C (n + 1))
    rw [ih (fun j a b => h j a (by omega)), h (n + 1) (by omega) (by omega)]
theorem sMd_1 (u : Nat → Int64) (n : Nat) : sMd 1 u n = sSum u n := by
  show gAcc (tMd 1 u n) 1 n n = gAcc (tSum u) 1 n n
  rw [show tMd 1 u n = tSum u from funext (fun d => tMd_n (by decide))]
theorem sMd_2 (u : Nat → Int64) (n : Nat) : sMd 2 u n = sSig u n := by
  show gAcc (tMd 2 u n) 1 n n = gAcc (tSig u n) 1 n n
  rw [show tMd 2 u n = tSig u n from funext (fun d => tMd_y (by decide))]
theorem zi6 {p : Int32} (h0 : 0 ≤ p.toInt) (h1 : p.toInt ≤ 5) : p = 0 ∨ p = 1 ∨ p = 2 ∨ p = 3 ∨ p = 4 ∨ p = 5 := by
  have e : ∀ k : Nat, k ≤ 5 → p.toInt = (k : Int) → p = Int32.ofInt (k : Int) := fun k _ h => zOf h
  obtain ⟨k, hk⟩ := zNn h0
  have h5 : k ≤ 5 := by omega
  rw [zOf hk]
  match k, h5 with
  | 0, _ => decide
  | 1, _ => decide
  | 2, _ => decide
  | 3, _ => decide
  | 4, _ => decide
  | 5, _ => decide
set_option maxHeartbeats 2000000 in
theorem zMk9 (F : Nat) (p0 : Nat → Int64) (p1 : Int32) (hF : 2000 ≤ F) (h0 : 0 ≤ p1.toInt) (h5 : p1.toInt ≤ 5) (u : Nat → Int64) (hfu : ∀ j, 1 ≤ j → j ≤ 120 → p0 j = u j) : ZE (fun (r : ((Nat → Int64) × Bool)) => zMade r.1 (fun j => (sMk p1 u j).1) ∧ r.2 = gOr (fun j => (sMk p1 u j).2) 120) (p_X9_made F false p0 p1) := by
  unfold p_X9_made
  rcases zi6 h0 h5 with e | e | e | e | e | e
  · subst e
    rw [sMk_0]
    refine ZE_if (fun c => absurd rfl c) (fun _ => ?_)
    exact ZE_b2 (zIn9 F false p0 hF u hfu) (fun a b h => ⟨_, rfl, h.1, h.2.trans (Bool.false_or _)⟩)
  · subst e
    rw [sMk_1]
    refine ZE_if (fun _ => ZE_if (fun _ => ?_) (fun c => absurd (by decide) c)) (fun c => absurd (by decide) c)
    refine zMd9L0 F p0 1 hF u hfu (by decide) false _ (fun vd bb fr hB hC => ⟨_, rfl, fun j j1 j2 => (hB j j1 j2).trans (congrArg Prod.fst (sMd_1 u j)), ?_⟩) F 1 false _ 0 (by decide) (by omega) (fun _ _ => rfl) (fun j j1 j2 => by omega) rfl (by omega)
    exact hC.trans ((Bool.false_or _).trans (gOr_congr 120 (fun j _ _ => congrArg Prod.snd (sMd_1 u j))))
  · subst e
    rw [sMk_2]
    refine ZE_if (fun _ => ZE_if (fun _ => ?_) (fun c => absurd (by decide) c)) (fun c => absurd (by decide) c)
    refine zMd9L0 F p0 2 hF u hfu (by decide) false _ (fun vd bb fr hB hC => ⟨_, rfl, fun j j1 j2 => (hB j j1 j2).trans (congrArg Prod.fst (sMd_2 u j)), ?_⟩) F 1 false _ 0 (by decide) (by omega) (fun _ _ => rfl) (fun j j1 j2 => by omega) rfl (by omega)
    exact hC.trans ((Bool.false_or _).trans (gOr_congr 120 (fun j _ _ => congrArg Prod.snd (sMd_2 u j))))
  · subst e
    rw [sMk_3]
    refine ZE_if (fun _ => ZE_if (fun c => absurd rfl c) (fun _ => ?_)) (fun c => absurd (by decide) c)
    exact ZE_b2 (zBy9 F false p0 hF u hfu) (fun a b h => ⟨_, rfl, h.1, h.2.trans (Bool.false_or _)⟩)
  · subst e
    rw [sMk_4, ← sMe_4]
    refine ZE_if (fun _ => ZE_if (fun _ => ?_) (fun c => absurd (by decide) c)) (fun c => absurd (by decide) c)
    exact zMe9L0 F p0 4 hF u hfu (by decide) false _ (fun vd bb fr hB hC => ⟨_, rfl, hB, hC.trans (Bool.false_or _)⟩) F 1 false _ 0 (by decide) (by omega) (fun j j1 j2 => by omega) rfl (by omega)
  · subst e
    rw [sMk_5, ← sMe_5]
    refine ZE_if (fun _ => ZE_if (fun _ => ?_) (fun c => absurd (by decide) c)) (fun c => absurd (by decide) c)
    exact zMe9L0 F p0 5 hF u hfu (by decide) false _ (fun vd bb fr hB hC => ⟨_, rfl, hB, hC.trans (Bool.false_or _)⟩) F 1 false _ 0 (by decide) (by omega) (fun j j1 j2 => by omega) rfl (by omega)

set_option maxHeartbeats 2000000 in
theorem zMk7 (F : Nat) (R : Nat → Nat → Int64) (b : Bool) (pr : Nat → Int32) (tm : Nat → Int32) (cn : Int32) (p0 : Int32) (p1 : Nat) (p2 : Nat) (hF : 2000 ≤ F) (h0 : 0 ≤ p0.toInt) (h5 : p0.toInt ≤ 5) (np1 : p1 ≠ p2) (u : Nat → Int64) (hfu : ∀ j, 1 ≤ j → j ≤ 120 → R p1 j = u j) (hi : p0 = 0 → (u 1 = 1 ∨ u 1 = -1)) : ZE (fun (r : (Bool × (Nat → Nat → Int64) × Bool × (Nat → Int32) × (Nat → Int32) × Int32)) => zLaid R r.2.1 p2 (fun j => (sMk p0 u j).1) (fun j => (sMk p0 u j).2) r.1) (p_X0_layMade F R b pr tm cn p0 p1 p2) := by
  unfold p_X0_layMade
  rcases zi6 h0 h5 with e | e | e | e | e | e
  · subst e
    refine ZE_if (fun _ => ?_) (fun c => absurd rfl c)
    exact ZE_b3 (zIn7 F R b p1 p2 hF np1 u hfu (hi rfl)) (fun a b c h => ⟨_, rfl, h⟩)
  · subst e
    refine ZE_if (fun c => absurd c (by decide)) (fun _ => ZE_if (fun _ => ?_) (fun c => absurd rfl c))
    exact ZE_b3 (zSu7 F R p1 p2 hF np1 u hfu) (fun a b c h => ⟨_, rfl, h⟩)
  · subst e
    refine ZE_if (fun c => absurd c (by decide)) (fun _ => ZE_if (fun c => absurd c (by decide)) (fun _ => ZE_if (fun _ => ?_) (fun c => absurd rfl c)))
    exact ZE_b6 (zSg7 F R pr tm cn p1 p2 hF np1 u hfu) (fun a b c x y z h => ⟨_, rfl, h⟩)
  · subst e
    refine ZE_if (fun c => absurd c (by decide)) (fun _ => ZE_if (fun c => absurd c (by decide)) (fun _ => ZE_if (fun c => absurd c (by decide)) (fun _ => ZE_if (fun _ => ?_) (fun c => absurd rfl c))))
    exact ZE_b6 (zBy7 F R pr tm cn p1 p2 hF np1 u hfu) (fun a b c x y z h => ⟨_, rfl, h⟩)
  · subst e
    refine ZE_if (fun c => absurd c (by decide)) (fun _ => ZE_if (fun c => absurd c (by decide)) (fun _ => ZE_if (fun c => absurd c (by decide)) (fun _ => ZE_if (fun c => absurd c (by decide)) (fun _ => ZE_if (fun _ => ?_) (fun c => absurd rfl c)))))
    exact ZE_b3 (zTu7 F R p1 p2 hF np1 u hfu) (fun a b c h => ⟨_, rfl, h⟩)
  · subst e
    refine ZE_if (fun c => absurd c (by decide)) (fun _ => ZE_if (fun c => absurd c (by decide)) (fun _ => ZE_if (fun c => absurd c (by decide)) (fun _ => ZE_if (fun c => absurd c (by decide)) (fun _ => ZE_if (fun c => absurd c (by decide)) (fun _ => ?_)))))
    exact ZE_b3 (zPc7 F R p1 p2 hF np1 u hfu) (fun a b c h => ⟨_, rfl, h⟩)

-- ==================== the state alike
def zEq (R : Nat → Nat → Int64) (V : Nat → Int64) : Prop := ∀ f n, f ≤ 3 → 1 ≤ n → n ≤ 120 → R f n = V (121 * f + n)
theorem zEq_set {R R' : Nat → Nat → Int64} {V V' : Nat → Int64} {x : Nat} {u : Nat → Int64} (h : zEq R V) (hA : ∀ i, i ≤ 3 → i ≠ x → R' i = R i) (hB : ∀ j, 1 ≤ j → j ≤ 120 → R' x j = u j) (hV : zBec V V' x u) : zEq R' V' := by
  intro f n hf h1 h2
  by_cases e : f = x
  · rw [e, hB n h1 h2, hV.2 n h1 h2]
  · rw [hA f hf e, h f n hf h1 h2, hV.1 _ (fun j j1 j2 => by omega)]
theorem zEq_same {R R' : Nat → Nat → Int64} {V : Nat → Int64} (h : zEq R V) (hA : ∀ i, i ≤ 3 → R' i = R i) : zEq R' V := fun f n hf h1 h2 => by rw [hA f hf]; exact h f n hf h1 h2
/-- which exception, on both sides, of a method on functions; of one on numbers -/
def zCf (c : Nat) (t : Int32) : Prop := (c = 0 ∧ t = 0) ∨ (c = 1 ∧ t = 1) ∨ (c = 2 ∧ t = 2)
theorem zCf0 : zCf 0 0 := Or.inl ⟨rfl, rfl⟩
theorem zCf1 : zCf 1 1 := Or.inr (Or.inl ⟨rfl, rfl⟩)
theorem zCf2 : zCf 2 2 := Or.inr (Or.inr ⟨rfl, rfl⟩)
theorem zro (x : Int32) : (∃ f : Nat, x.toInt = f ∧ f ≤ 3 ∧ p_X7_rowOf x = some (0, f) ∧ p_X9_isOne x = some true) ∨ (p_X7_rowOf x = some (1, 0) ∧ p_X9_isOne x = some false) := by
  have o0 : (0 : Int32).toInt = 0 := by decide
  have o4 : (4 : Int32).toInt = 4 := by decide
  unfold p_X7_rowOf p_X9_isOne
  by_cases h1 : x < 0
  · right
    rw [if_pos h1, if_pos h1]
    exact ⟨rfl, rfl⟩
  · rw [if_neg h1, if_neg h1]
    rw [Int32.lt_iff_toInt_lt, o0] at h1
    by_cases h2 : x < 4
    · left
      have h2' : ¬ 4 ≤ x := Int32.not_le.mpr h2
      rw [Int32.lt_iff_toInt_lt, o4] at h2
      obtain ⟨f, hf⟩ := zNn (x := x) (by omega)
      rw [if_pos (by rw [Int32.lt_iff_toInt_lt, o4]; exact h2), if_neg h2', zg_n (zgi (x := x) (n := 4) (by omega) (by omega)), zClN hf]
      exact ⟨f, hf, by omega, rfl, rfl⟩
    · right
      rw [if_neg h2, if_pos (Int32.not_lt.mp h2)]
      exact ⟨rfl, rfl⟩
theorem ZE_ok {ρ : Type} {P : ρ → Prop} {a b : Option ρ} (h : ZE P a) : ZE P (if (0 : Nat) = 0 then a else b) := h
theorem ZE_z0 {ρ : Type} {P : ρ → Prop} {a b : Option ρ} (h : ZE P a) : ZE P (if z01 false = 0 then a else b) := h
theorem ZE_z1 {ρ : Type} {P : ρ → Prop} {a b : Option ρ} (h : ZE P b) : ZE P (if z01 true = 0 then a else b) := by
  rw [if_neg (by decide)]
  exact h
def Z2 {α β : Type} (Q : α → β → Prop) (x : Option α) (y : Option β) : Prop := ∃ r s, x = some r ∧ y = some s ∧ Q r s
theorem Z2_of {α β : Type} {P : α → Prop} {P' : β → Prop} {Q : α → β → Prop} {x : Option α} {y : Option β} (h1 : ZE P x) (h2 : ZE P' y) (h : ∀ r s, P r → P' s → Q r s) : Z2 Q x y := by
  obtain ⟨r, e1, p1⟩ := h1
  obtain ⟨s, e2, p2⟩ := h2
  exact ⟨r, s, e1, e2, h r s p1 p2⟩

theorem zO_know (F : Nat) (R : Nat → Nat → Int64) (pr : Nat → Int32) (tm : Nat → Int32) (cn : Int32) (ac : Int32) (p0 : Int32) (p1 : Int32) (V : Nat → Int64) (dn : Int32) (hS : zEq R V) (ha : ac = dn) (hF : 2000 ≤ F) : Z2 (fun (r : (Nat × Int32 × (Nat → Nat → Int64) × (Nat → Int32) × (Nat → Int32) × Int32 × Int32)) (s : (Int32 × (Nat → Int64) × Int32 × Int32)) => zCf r.1 s.2.2.2 ∧ (r.1 = 0 → s.1 = r.2.1) ∧ zEq r.2.2.1 s.2.1 ∧ r.2.2.2.2.2.2 = s.2.2.1) (p_X7_know F R pr tm cn ac p0 p1) (p_X9_know F V dn p0 p1) := by
  subst ha
  rcases zro p0 with ⟨x, hx, hx3, r0, i0⟩ | ⟨r0, i0⟩
  · rcases zni p1 0 10 with ⟨n1, i1, l1, u1⟩ | ⟨n1, i1⟩
    · refine Z2_of (P := fun r => r.1 = 0 ∧ r.2.1 = Int32.ofInt ((gCnt (fun j => V (121 * x + j)) (knV p1) 120 : Nat) : Int) ∧ (∀ i, i ≤ 3 → i ≠ x → r.2.2.1 i = R i) ∧ (∀ j, 1 ≤ j → j ≤ 120 → r.2.2.1 x j = knV p1 j) ∧ r.2.2.2.2.2.2 = ac + 1) (P' := fun s => s.1 = Int32.ofInt ((gCnt (fun j => V (121 * x + j)) (knV p1) 120 : Nat) : Int) ∧ zBec V s.2.1 x (knV p1) ∧ s.2.2.1 = ac + 1 ∧ s.2.2.2 = 0) ?_ ?_ ?_
      · unfold p_X7_know
        refine ZE_b2e r0 (ZE_ok (ZE_b1e n1 (ZE_ok ?_)))
        refine zKw7 F p1 hF R _ (fun vd RL a b c hA hB => ?_) F 1 R pr tm cn 0 (by decide) (by omega) (fun _ _ => rfl) (fun j j1 j2 => by omega) (by omega)
        refine ZE_b3 (zBe7 F RL ac x hF (fun j => V (121 * x + j)) (knV p1) (fun j j1 j2 => by rw [hA x (by omega)]; exact hS x j hx3 j1 j2) hB) (fun q R2 ac2 h => ⟨_, rfl, rfl, h.1, fun i i3 ix => (h.2.1.1 i ix).trans (hA i (by omega)), h.2.1.2, h.2.2⟩)
      · unfold p_X9_know
        refine ZE_b1e i0 (ZE_b1e i1 (ZE_b2e rfl (ZE_z0 ?_)))
        refine zKw9 F p1 hF _ (fun vd fr hB => ?_) F 1 _ 0 (by decide) (by omega) (fun j j1 j2 => by omega) (by omega)
        exact ZE_b3 (zBe9 F V ac p0 fr x hF hx hx3 (knV p1) hB) (fun q V2 dn2 h => ⟨_, rfl, h.1, h.2.1, h.2.2, rfl⟩)
      · intro r s h g
        refine ⟨by rw [h.1, g.2.2.2]; exact zCf0, fun _ => by rw [g.1, h.2.1], zEq_set hS h.2.2.1 h.2.2.2.1 g.2.1, by rw [h.2.2.2.2, g.2.2.1]⟩
    · exact ⟨_, _, (by unfold p_X7_know; rw [r0]; show zb1 (p_X7_need p1 0 10) _ = _; rw [n1]; rfl), (by unfold p_X9_know; rw [i0, i1]; rfl), zCf2, fun c => absurd c zne20, hS, rfl⟩
  · rcases zni p1 0 10 with ⟨n1, i1, l1, u1⟩ | ⟨n1, i1⟩
    · exact ⟨_, _, (by unfold p_X7_know; rw [r0]; rfl), (by unfold p_X9_know; rw [i0, i1]; rfl), zCf1, fun c => absurd c zne10, hS, rfl⟩
    · exact ⟨_, _, (by unfold p_X7_know; rw [r0]; rfl), (by unfold p_X9_know; rw [i0, i1]; rfl), zCf1, fun c => absurd c zne10, hS, rfl⟩

theorem znt {b : Bool} (h : (!b) = false) : b = true := by
  cases b with
  | false => exact absurd h (by decide)
  | true => rfl
theorem znf {b : Bool} (h : (!b) = true) : b = false := by
  cases b with
  | false => rfl
  | true => exact absurd h (by decide)

theorem zWide (x y : Int32) : (x.toInt64 <<< ((32 : Int32).toInt64 &&& 63)) ||| (y.toInt64 &&& (4294967295 : Int64)) = (x.toInt64 * (4294967296 : Int64)) + (y.toInt64 &&& (4294967295 : Int64)) := by
  rw [show ((32 : Int32).toInt64 &&& 63) = (32 : Int64) from by decide]
  generalize x.toInt64 = a
  generalize y.toInt64 = b
  refine Int64.toBitVec_inj.1 ?_
  have em : (a * (4294967296 : Int64)).toBitVec = a.toBitVec <<< 32 := by
    rw [Int64.toBitVec_mul, BitVec.shiftLeft_eq_mul_twoPow]
    rfl
  have e : (a <<< (32 : Int64)).toBitVec = a.toBitVec <<< 32 := rfl
  rw [Int64.toBitVec_or, Int64.toBitVec_add, Int64.toBitVec_and, em, e]
  refine (BitVec.add_eq_or_of_and_eq_zero _ _ ?_).symm
  refine BitVec.eq_of_getLsbD_eq (fun i hi => ?_)
  rw [BitVec.getLsbD_and, BitVec.getLsbD_and, BitVec.getLsbD_shiftLeft, BitVec.getLsbD_zero]
  have hm : ∀ i : Fin 64, (decide (i.val < 32) || !(4294967295 : Int64).toBitVec.getLsbD i.val) = true := by decide
  have h := hm ⟨i, hi⟩
  dsimp only at h
  by_cases c : i < 32
  · rw [decide_eq_true c, Bool.not_true, Bool.and_false, Bool.false_and, Bool.false_and]
  · rw [decide_eq_false c, Bool.false_or] at h
    rw [znf h, Bool.and_false, Bool.and_false]
theorem zPut7 (R : Nat → Nat → Int64) (ac : Int32) (x : Nat) {v : Int32} {n : Nat} (hv : v.toInt = n) (h1 : 1 ≤ n) (h2 : n ≤ 120) (y : Int64) : p_X7_putLong R ac x v y = some (if R x n = y then 0 else 1, va_up R x (vp_updL (R x) n y), ac + 1) := by
  unfold p_X7_putLong
  rw [zAt7 R x hv h1 h2]
  show (if ¬ lg_cmp (R x n) y = 0 then zb1 (p_X4_lay R x v y) (fun R_3 => some (z01 true, R_3, ac + 1)) else zb1 (p_X4_lay R x v y) (fun R_3 => some (z01 false, R_3, ac + 1))) = _
  rw [zLay7 R x y hv h1 h2]
  by_cases c : R x n = y
  · rw [if_neg (fun h => h (lgc0.mpr c)), if_pos c]
    rfl
  · rw [if_pos (fun h => c (lgc0.mp h)), if_neg c]
    rfl
theorem zPut (R : Nat → Nat → Int64) (V : Nat → Int64) (ac p0 p1 : Int32) (y : Int64) (hS : zEq R V) : (∃ (x n : Nat), p_X7_rowOf p0 = some (0, x) ∧ p_X7_need p1 1 120 = some 0 ∧ p1.toInt = n ∧ 1 ≤ n ∧ n ≤ 120 ∧ p_X9_putAt V ac p0 p1 y = some (if R x n = y then 0 else 1, vp_updL V (121 * x + n) y, ac + 1, 0) ∧ zEq (va_up R x (vp_updL (R x) n y)) (vp_updL V (121 * x + n) y)) ∨ (∃ x, p_X7_rowOf p0 = some (0, x) ∧ p_X7_need p1 1 120 = some 2 ∧ p_X9_putAt V ac p0 p1 y = some (0, V, ac, 2)) ∨ (p_X7_rowOf p0 = some (1, 0) ∧ p_X9_putAt V ac p0 p1 y = some (0, V, ac, 1)) := by
  rcases zro p0 with ⟨x, hx, hx3, r0, i0⟩ | ⟨r0, i0⟩
  · rcases zni p1 1 120 with ⟨n1, i1, l1, u1⟩ | ⟨n1, i1⟩
    · rw [show (1 : Int32).toInt = 1 from by decide] at l1
      rw [show (120 : Int32).toInt = 120 from by decide] at u1
      obtain ⟨n, hn⟩ := zNn (x := p1) (by omega)
      refine Or.inl ⟨x, n, r0, n1, hn, by omega, by omega, ?_, ?_⟩
      · unfold p_X9_putAt
        rw [i0, i1, zAt9 V hx hx3 hn (by omega), ← hS x n hx3 (by omega) (by omega)]
        show (if ¬ lg_cmp (R x n) y = 0 then zg ((((121 : Int32) * p0) + p1) < 0 ∨ 484 ≤ (((121 : Int32) * p0) + p1).toNatClampNeg) (some (z01 true, vp_updL V (((121 : Int32) * p0) + p1).toNatClampNeg y, ac + 1, 0)) else zg ((((121 : Int32) * p0) + p1) < 0 ∨ 484 ≤ (((121 : Int32) * p0) + p1).toNatClampNeg) (some (z01 false, vp_updL V (((121 : Int32) * p0) + p1).toNatClampNeg y, ac + 1, 0))) = _
        have hz := zatg (x := p0) (y := p1) (by omega) (by omega) (by omega) (by omega)
        rw [zg_n hz, zg_n hz, zIxN hx hx3 hn (by omega)]
        by_cases c : R x n = y
        · rw [if_neg (fun h => h (lgc0.mpr c)), if_pos c]
          rfl
        · rw [if_pos (fun h => c (lgc0.mp h)), if_neg c]
          rfl
      · intro f j hf j1 j2
        by_cases e : f = x
        · subst e
          rw [zupS]
          by_cases q : j = n
          · rw [q, zluS, zluS]
          · rw [zluN q, zluN (by omega)]
            exact hS f j hf j1 j2
        · rw [zupN e, zluN (by omega)]
          exact hS f j hf j1 j2
    · exact Or.inr (Or.inl ⟨x, r0, n1, by unfold p_X9_putAt; rw [i0, i1]; rfl⟩)
  · refine Or.inr (Or.inr ⟨r0, ?_⟩)
    unfold p_X9_putAt
    rcases zni p1 1 120 with ⟨n1, i1, l1, u1⟩ | ⟨n1, i1⟩
    · rw [i0, i1]; rfl
    · rw [i0, i1]; rfl

theorem zO_put (R : Nat → Nat → Int64) (ac : Int32) (p0 : Int32) (p1 : Int32) (p2 : Int32) (V : Nat → Int64) (dn : Int32) (hS : zEq R V) (ha : ac = dn) : Z2 (fun (r : (Nat × Int32 × (Nat → Nat → Int64) × Int32)) (s : (Int32 × (Nat → Int64) × Int32 × Int32)) => zCf r.1 s.2.2.2 ∧ (r.1 = 0 → s.1 = r.2.1) ∧ zEq r.2.2.1 s.2.1 ∧ r.2.2.2 = s.2.2.1) (p_X7_put R ac p0 p1 p2) (p_X9_put V dn p0 p1 p2) := by
  subst ha
  rcases zPut R V ac p0 p1 (p2.toInt64) hS with ⟨x, n, r0, n1, hn, h1, h2, e9, hE⟩ | ⟨x, r0, n1, e9⟩ | ⟨r0, e9⟩
  · exact ⟨_, _, (by unfold p_X7_put; rw [r0]; show zb1 (p_X7_need p1 1 120) _ = _; rw [n1]; show zb3 (p_X7_putLong R ac x p1 (p2.toInt64)) _ = _; rw [zPut7 R ac x hn h1 h2]; rfl), (by unfold p_X9_put; rw [e9]; rfl), zCf0, fun _ => rfl, hE, rfl⟩
  · exact ⟨_, _, (by unfold p_X7_put; rw [r0]; show zb1 (p_X7_need p1 1 120) _ = _; rw [n1]; rfl), (by unfold p_X9_put; rw [e9]; rfl), zCf2, fun c => absurd c zne20, hS, rfl⟩
  · exact ⟨_, _, (by unfold p_X7_put; rw [r0]; rfl), (by unfold p_X9_put; rw [e9]; rfl), zCf1, fun c => absurd c zne10, hS, rfl⟩

theorem zO_putWide (R : Nat → Nat → Int64) (ac : Int32) (p0 : Int32) (p1 : Int32) (p2 : Int32) (p3 : Int32) (V : Nat → Int64) (dn : Int32) (hS : zEq R V) (ha : ac = dn) : Z2 (fun (r : (Nat × Int32 × (Nat → Nat → Int64) × Int32)) (s : (Int32 × (Nat → Int64) × Int32 × Int32)) => zCf r.1 s.2.2.2 ∧ (r.1 = 0 → s.1 = r.2.1) ∧ zEq r.2.2.1 s.2.1 ∧ r.2.2.2 = s.2.2.1) (p_X7_putWide R ac p0 p1 p2 p3) (p_X9_putWide V dn p0 p1 p2 p3) := by
  subst ha
  rcases zPut R V ac p0 p1 ((p2.toInt64 * (4294967296 : Int64)) + (p3.toInt64 &&& (4294967295 : Int64))) hS with ⟨x, n, r0, n1, hn, h1, h2, e9, hE⟩ | ⟨x, r0, n1, e9⟩ | ⟨r0, e9⟩
  · exact ⟨_, _, (by unfold p_X7_putWide; rw [zWide]; rw [r0]; show zb1 (p_X7_need p1 1 120) _ = _; rw [n1]; show zb3 (p_X7_putLong R ac x p1 ((p2.toInt64 * (4294967296 : Int64)) + (p3.toInt64 &&& (4294967295 : Int64)))) _ = _; rw [zPut7 R ac x hn h1 h2]; rfl), (by unfold p_X9_putWide; rw [e9]; rfl), zCf0, fun _ => rfl, hE, rfl⟩
  · exact ⟨_, _, (by unfold p_X7_putWide; rw [zWide]; rw [r0]; show zb1 (p_X7_need p1 1 120) _ = _; rw [n1]; rfl), (by unfold p_X9_putWide; rw [e9]; rfl), zCf2, fun c => absurd c zne20, hS, rfl⟩
  · exact ⟨_, _, (by unfold p_X7_putWide; rw [r0]; rfl), (by unfold p_X9_putWide; rw [e9]; rfl), zCf1, fun c => absurd c zne10, hS, rfl⟩

theorem zO_sow (F : Nat) (R : Nat → Nat → Int64) (ac : Int32) (p0 : Int32) (p1 : Int32) (p2 : Int32) (V : Nat → Int64) (dn : Int32) (hS : zEq R V) (ha : ac = dn) (hF : 2000 ≤ F) : Z2 (fun (r : (Nat × Int32 × (Nat → Nat → Int64) × Int32)) (s : (Int32 × (Nat → Int64) × Int32 × Int32)) => zCf r.1 s.2.2.2 ∧ (r.1 = 0 → s.1 = r.2.1) ∧ zEq r.2.2.1 s.2.1 ∧ r.2.2.2 = s.2.2.1) (p_X7_sow F R ac p0 p1 p2) (p_X9_sow F V dn p0 p1 p2) := by
  subst ha
  rcases zro p0 with ⟨x, hx, hx3, r0, i0⟩ | ⟨r0, i0⟩
  · rcases zni p1 0 65535 with ⟨n1, i1, l1, u1⟩ | ⟨n1, i1⟩
    · rcases zni p2 0 500 with ⟨n2, i2, l2, u2⟩ | ⟨n2, i2⟩
      · rw [show (0 : Int32).toInt = 0 from by decide] at l2
        rw [show (500 : Int32).toInt = 500 from by decide] at u2
        refine Z2_of (P := fun r => r.1 = 0 ∧ r.2.1 = swz p1 p2 120 ∧ (∀ i, i ≠ x → r.2.2.1 i = R i) ∧ (∀ j, 1 ≤ j → j ≤ 120 → r.2.2.1 x j = (swv p1 p2 j).toInt64) ∧ r.2.2.2 = ac + 1) (P' := fun s => s.1 = swz p1 p2 120 ∧ zBec V s.2.1 x (fun j => (swv p1 p2 j).toInt64) ∧ s.2.2.1 = ac + 1 ∧ s.2.2.2 = 0) ?_ ?_ ?_
        · unfold p_X7_sow
          refine ZE_b2e r0 (ZE_ok (ZE_b1e n1 (ZE_ok (ZE_b1e n2 (ZE_ok ?_)))))
          exact zSw7 F p2 x p1 l2 u2 R _ (fun vx vz vd RL hz hA hB => ⟨_, rfl, rfl, hz, hA, hB, rfl⟩) F p1 0 1 R 0 (by decide) (by omega) rfl rfl (fun _ _ => rfl) (fun j j1 j2 => by omega) (by omega)
        · unfold p_X9_sow
          refine ZE_b1e i0 (ZE_b1e i1 (ZE_lta (ZE_z1 (ZE_b1e i2 (ZE_z1 (ZE_b2e rfl (ZE_z0 ?_)))))))
          refine zSw9L1 F p2 p1 l2 u2 _ (fun vx vz vd fr hz hB => ?_) F p1 0 1 _ 0 (by decide) (by omega) rfl rfl (fun j j1 j2 => by omega) (by omega)
          exact ZE_b3 (zBe9 F V ac p0 fr x hF hx hx3 (fun j => (swv p1 p2 j).toInt64) hB) (fun q V2 dn2 h => ⟨_, rfl, hz, h.2.1, h.2.2, rfl⟩)
        · intro r s h g
          exact ⟨by rw [h.1, g.2.2.2]; exact zCf0, fun _ => by rw [g.1, h.2.1], zEq_set hS (fun i _ => h.2.2.1 i) h.2.2.2.1 g.2.1, by rw [h.2.2.2.2, g.2.2.1]⟩
      · exact ⟨_, _, (by unfold p_X7_sow; rw [r0]; show zb1 (p_X7_need p1 0 65535) _ = _; rw [n1]; show zb1 (p_X7_need p2 0 500) _ = _; rw [n2]; rfl), (by unfold p_X9_sow; rw [i0, i1, i2]; rfl), zCf2, fun c => absurd c zne20, hS, rfl⟩
    · exact ⟨_, _, (by unfold p_X7_sow; rw [r0]; show zb1 (p_X7_need p1 0 65535) _ = _; rw [n1]; rfl), (by unfold p_X9_sow; rw [i0, i1]; rfl), zCf2, fun c => absurd c zne20, hS, rfl⟩
  · have e7 : p_X7_sow F R ac p0 p1 p2 = some (1, 0, R, ac) := by unfold p_X7_sow; rw [r0]; rfl
    have e9 : p_X9_sow F V ac p0 p1 p2 = some (0, V, ac, 1) := by
      unfold p_X9_sow
      rcases zni p1 0 65535 with ⟨n1, i1, l1, u1⟩ | ⟨n1, i1⟩
      · rcases zni p2 0 500 with ⟨n2, i2, l2, u2⟩ | ⟨n2, i2⟩
        · rw [i0, i1, i2]; rfl
        · rw [i0, i1, i2]; rfl
      · rw [i0, i1]; rfl
    exact ⟨_, _, e7, e9, zCf1, fun c => absurd c zne10, hS, rfl⟩

theorem zO_copy (F : Nat) (R : Nat → Nat → Int64) (ac : Int32) (p0 : Int32) (p1 : Int32) (V : Nat → Int64) (dn : Int32) (hS : zEq R V) (ha : ac = dn) (hF : 2000 ≤ F) : Z2 (fun (r : (Nat × Int32 × (Nat → Nat → Int64) × Int32)) (s : (Int32 × (Nat → Int64) × Int32 × Int32)) => zCf r.1 s.2.2.2 ∧ (r.1 = 0 → s.1 = r.2.1) ∧ zEq r.2.2.1 s.2.1 ∧ r.2.2.2 = s.2.2.1) (p_X7_copy F R ac p0 p1) (p_X9_copy F V dn p0 p1) := by
  subst ha
  rcases zro p0 with ⟨x, hx, hx3, r0, i0⟩ | ⟨r0, i0⟩
  · rcases zro p1 with ⟨y, hy, hy3, r1, i1⟩ | ⟨r1, i1⟩
    · refine Z2_of (P := fun r => r.1 = 0 ∧ r.2.1 = Int32.ofInt ((gCnt (fun j => V (121 * y + j)) (fun j => V (121 * x + j)) 120 : Nat) : Int) ∧ (∀ i, i ≠ y → r.2.2.1 i = R i) ∧ (∀ j, 1 ≤ j → j ≤ 120 → r.2.2.1 y j = V (121 * x + j)) ∧ r.2.2.2 = ac + 1) (P' := fun s => s.1 = Int32.ofInt ((gCnt (fun j => V (121 * y + j)) (fun j => V (121 * x + j)) 120 : Nat) : Int) ∧ zBec V s.2.1 y (fun j => V (121 * x + j)) ∧ s.2.2.1 = ac + 1 ∧ s.2.2.2 = 0) ?_ ?_ ?_
      · unfold p_X7_copy
        refine ZE_b2e r0 (ZE_ok (ZE_b2e r1 (ZE_ok ?_)))
        exact ZE_b2 (zTf7 F R y x hF (fun j => V (121 * y + j)) (fun j => V (121 * x + j)) (fun j j1 j2 => hS y j hy3 j1 j2) (fun j j1 j2 => hS x j hx3 j1 j2)) (fun q R2 h => ⟨_, rfl, rfl, h.1, h.2.1, h.2.2, rfl⟩)
      · unfold p_X9_copy
        refine ZE_b1e i0 (ZE_lta (ZE_z1 (ZE_b1e i1 (ZE_z1 (ZE_b2e rfl (ZE_z0 ?_))))))
        refine ZE_b1 (zOf9 F V p0 x hF hx hx3) (fun fr hfr => ?_)
        exact ZE_b3 (zBe9 F V ac p1 fr y hF hy hy3 (fun j => V (121 * x + j)) hfr) (fun q V2 dn2 h => ⟨_, rfl, h.1, h.2.1, h.2.2, rfl⟩)
      · intro r s h g
        exact ⟨by rw [h.1, g.2.2.2]; exact zCf0, fun _ => by rw [g.1, h.2.1], zEq_set hS (fun i _ => h.2.2.1 i) h.2.2.2.1 g.2.1, by rw [h.2.2.2.2, g.2.2.1]⟩
    · exact ⟨_, _, (by unfold p_X7_copy; rw [r0]; show zb2 (p_X7_rowOf p1) _ = _; rw [r1]; rfl), (by unfold p_X9_copy; rw [i0, i1]; rfl), zCf1, fun c => absurd c zne10, hS, rfl⟩
  · exact ⟨_, _, (by unfold p_X7_copy; rw [r0]; rfl), (by unfold p_X9_copy; rw [i0]; rfl), zCf1, fun c => absurd c zne10, hS, rfl⟩

theorem zO_swap (F : Nat) (R : Nat → Nat → Int64) (ac : Int32) (p0 : Int32) (p1 : Int32) (V : Nat → Int64) (dn : Int32) (hS : zEq R V) (ha : ac = dn) (hF : 2000 ≤ F) : Z2 (fun (r : (Nat × Int32 × (Nat → Nat → Int64) × Int32)) (s : (Int32 × (Nat → Int64) × Int32 × Int32)) => zCf r.1 s.2.2.2 ∧ (r.1 = 0 → s.1 = r.2.1) ∧ zEq r.2.2.1 s.2.1 ∧ r.2.2.2 = s.2.2.1) (p_X7_swap F R ac p0 p1) (p_X9_swap F V dn p0 p1) := by
  subst ha
  rcases zro p0 with ⟨x, hx, hx3, r0, i0⟩ | ⟨r0, i0⟩
  · rcases zro p1 with ⟨y, hy, hy3, r1, i1⟩ | ⟨r1, i1⟩
    · refine Z2_of (P := fun r => r.1 = 0 ∧ r.2.1 = Int32.ofInt ((gCnt (fun j => V (121 * x + j)) (fun j => V (121 * y + j)) 120 : Nat) : Int) ∧ (∀ i, i ≠ x → i ≠ y → r.2.2.1 i = R i) ∧ (∀ j, 1 ≤ j → j ≤ 120 → r.2.2.1 x j = R y j ∧ r.2.2.1 y j = R x j) ∧ r.2.2.2 = ac + 1) (P' := fun s => s.1 = Int32.ofInt ((gCnt (fun j => V (121 * y + j)) (fun j => V (121 * x + j)) 120 : Nat) : Int) ∧ (∃ V1, zBec V V1 y (fun j => V (121 * x + j)) ∧ zBec V1 s.2.1 x (fun j => V (121 * y + j))) ∧ s.2.2.1 = ac + 1 ∧ s.2.2.2 = 0) ?_ ?_ ?_
      · unfold p_X7_swap
        refine ZE_b2e r0 (ZE_ok (ZE_b2e r1 (ZE_ok ?_)))
        refine ZE_b1 (zCu7 F R x y hF (fun j => V (121 * x + j)) (fun j => V (121 * y + j)) (fun j j1 j2 => hS x j hx3 j1 j2) (fun j j1 j2 => hS y j hy3 j1 j2)) (fun q hq => ?_)
        exact ZE_b1 (zEx7 F R x y hF) (fun R2 h => ⟨_, rfl, rfl, hq, h.1, h.2, rfl⟩)
      · unfold p_X9_swap
        refine ZE_b1e i0 (ZE_lta (ZE_z1 (ZE_b1e i1 (ZE_z1 (ZE_b2e rfl (ZE_z0 ?_))))))
        refine ZE_b1 (zOf9 F V p1 y hF hy hy3) (fun fy hfy => ?_)
        refine ZE_b1 (zOf9 F V p0 x hF hx hx3) (fun fx hfx => ?_)
        refine ZE_b3 (zBe9 F V ac p1 fx y hF hy hy3 (fun j => V (121 * x + j)) hfx) (fun q V1 dn1 h => ?_)
        refine ZE_b3 (zBe9 F V1 dn1 p0 fy x hF hx hx3 (fun j => V (121 * y + j)) hfy) (fun q2 V2 dn2 g => ⟨_, rfl, h.1, ⟨V1, h.2.1, g.2.1⟩, ?_, rfl⟩)
        have g2 : dn2 = dn1 + 1 := g.2.2
        have h2 : dn1 = ac + 1 := h.2.2
        rw [g2, h2, Int32.add_sub_cancel]
      · intro r s h g
        obtain ⟨h1, h2, hA, hB, h5⟩ := h
        obtain ⟨g1, ⟨V1, b1, b2⟩, g3, g4⟩ := g
        refine ⟨by rw [h1, g4]; exact zCf0, fun _ => by rw [g1, h2, gCnt_comm], ?_, by rw [h5, g3]⟩
        intro f n hf n1 n2
        by_cases e : f = x
        · rw [e, (hB n n1 n2).1, b2.2 n n1 n2]
          exact hS y n hy3 n1 n2
        · rw [b2.1 _ (fun j j1 j2 => by omega)]
          by_cases e2 : f = y
          · rw [e2, (hB n n1 n2).2, b1.2 n n1 n2]
            exact hS x n hx3 n1 n2
          · rw [hA f e e2, b1.1 _ (fun j j1 j2 => by omega)]
            exact hS f n hf n1 n2
    · exact ⟨_, _, (by unfold p_X7_swap; rw [r0]; show zb2 (p_X7_rowOf p1) _ = _; rw [r1]; rfl), (by unfold p_X9_swap; rw [i0, i1]; rfl), zCf1, fun c => absurd c zne10, hS, rfl⟩
  · exact ⟨_, _, (by unfold p_X7_swap; rw [r0]; rfl), (by unfold p_X9_swap; rw [i0]; rfl), zCf1, fun c => absurd c zne10, hS, rfl⟩

theorem zBn9 (F : Nat) (V : Nat → Int64) (ib : Bool) (dn rf p0 : Int32) (p1 : Nat → Int64) (x : Nat) (hF : 2000 ≤ F) (hx : p0.toInt = x) (hx3 : x ≤ 3) (u : Nat → Int64) (hfu : ∀ j, 1 ≤ j → j ≤ 120 → p1 j = u j) : ZE (fun (r : (Int32 × (Nat → Int64) × Int32 × Int32)) => (ib = true ∧ r = (-9, V, dn, rf + 1)) ∨ (ib = false ∧ r.1 = Int32.ofInt ((gCnt (fun j => V (121 * x + j)) u 120 : Nat) : Int) ∧ zBec V r.2.1 x u ∧ r.2.2.1 = dn + 1 ∧ r.2.2.2 = rf)) (p_X9_becomeOrNot F V ib dn rf p0 p1) := by
  unfold p_X9_becomeOrNot
  cases ib with
  | true => exact ZE_if (fun _ => ⟨_, rfl, Or.inl ⟨rfl, rfl⟩⟩) (fun c => absurd (by decide) c)
  | false =>
    refine ZE_if (fun c => absurd rfl c) (fun _ => ?_)
    exact ZE_b3 (zBe9 F V dn p0 p1 x hF hx hx3 u hfu) (fun q V2 dn2 h => ⟨_, rfl, Or.inr ⟨rfl, h.1, h.2.1, h.2.2, rfl⟩⟩)

theorem zO_multiply (F : Nat) (R : Nat → Nat → Int64) (b : Bool) (ac : Int32) (re : Int32) (p0 : Int32) (p1 : Int32) (p2 : Int32) (V : Nat → Int64) (ib : Bool) (dn : Int32) (rf : Int32) (hS : zEq R V) (ha : ac = dn) (hr : re = rf) (hF : 2000 ≤ F) : Z2 (fun (r : (Nat × Int32 × (Nat → Nat → Int64) × Bool × Int32 × Int32)) (s : (Int32 × (Nat → Int64) × Bool × Int32 × Int32 × Int32)) => zCf r.1 s.2.2.2.2.2 ∧ (r.1 = 0 → s.1 = r.2.1) ∧ zEq r.2.2.1 s.2.1 ∧ r.2.2.2.2.1 = s.2.2.2.1 ∧ r.2.2.2.2.2 = s.2.2.2.2.1) (p_X7_multiply F R b ac re p0 p1 p2) (p_X9_multiply F V ib dn rf p0 p1 p2) := by
  subst ha
  subst hr
  rcases zro p0 with ⟨x, hx, hx3, r0, i0⟩ | ⟨r0, i0⟩
  · rcases zro p1 with ⟨y, hy, hy3, r1, i1⟩ | ⟨r1, i1⟩
    · rcases zro p2 with ⟨z, hz, hz3, r2, i2⟩ | ⟨r2, i2⟩
      · refine Z2_of (P := fun r => r.1 = 0 ∧ ((gOr (fun j => (sProd (fun j => V (121 * x + j)) (fun j => V (121 * y + j)) j).2) 120 = true ∧ r.2.1 = -9 ∧ (∀ i, i ≤ 3 → r.2.2.1 i = R i) ∧ r.2.2.2.2.1 = ac ∧ r.2.2.2.2.2 = re + 1) ∨ (gOr (fun j => (sProd (fun j => V (121 * x + j)) (fun j => V (121 * y + j)) j).2) 120 = false ∧ r.2.1 = Int32.ofInt ((gCnt (fun j => V (121 * z + j)) (fun j => (sProd (fun j => V (121 * x + j)) (fun j => V (121 * y + j)) j).1) 120 : Nat) : Int) ∧ (∀ i, i ≤ 3 → i ≠ z → r.2.2.1 i = R i) ∧ (∀ j, 1 ≤ j → j ≤ 120 → r.2.2.1 z j = (fun j => (sProd (fun j => V (121 * x + j)) (fun j => V (121 * y + j)) j).1) j) ∧ r.2.2.2.2.1 = ac + 1 ∧ r.2.2.2.2.2 = re))) (P' := fun s => ((gOr (fun j => (sProd (fun j => V (121 * x + j)) (fun j => V (121 * y + j)) j).2) 120 = true ∧ (s.1, s.2.1, s.2.2.2.1, s.2.2.2.2.1) = (-9, V, ac, re + 1)) ∨ (gOr (fun j => (sProd (fun j => V (121 * x + j)) (fun j => V (121 * y + j)) j).2) 120 = false ∧ s.1 = Int32.ofInt ((gCnt (fun j => V (121 * z + j)) (fun j => (sProd (fun j => V (121 * x + j)) (fun j => V (121 * y + j)) j).1) 120 : Nat) : Int) ∧ zBec V s.2.1 z (fun j => (sProd (fun j => V (121 * x + j)) (fun j => V (121 * y + j)) j).1) ∧ s.2.2.2.1 = ac + 1 ∧ s.2.2.2.2.1 = re)) ∧ s.2.2.2.2.2 = 0) ?_ ?_ ?_
        · unfold p_X7_multiply
          refine ZE_b2e r0 (ZE_ok (ZE_b2e r1 (ZE_ok (ZE_b2e r2 (ZE_ok ?_)))))
          refine ZE_b3 (zPr7 F R x y 4 hF (by omega) (by omega) (fun j => V (121 * x + j)) (fun j => V (121 * y + j)) (fun j j1 j2 => hS x j hx3 j1 j2) (fun j j1 j2 => hS y j hy3 j1 j2)) (fun ok R1 b1 hL => ?_)
          refine ZE_if (fun c => ?_) (fun c => ?_)
          · have hok := hL.2.2.symm.trans (zbf0 c)
            refine ZE_b2 (Q := fun q => q = ((-9 : Int32), re + 1)) ⟨_, rfl, rfl⟩ (fun q re2 hq => ?_)
            obtain ⟨rfl, rfl⟩ := Prod.mk.inj hq
            exact ⟨_, rfl, rfl, Or.inl ⟨znt hok, rfl, fun i i3 => hL.1 i (by omega), rfl, rfl⟩⟩
          · have hok := hL.2.2.symm.trans (zb01 c)
            refine ZE_b3 (zBe7 F R1 ac z hF (fun j => V (121 * z + j)) (fun j => (sProd (fun j => V (121 * x + j)) (fun j => V (121 * y + j)) j).1) (fun j j1 j2 => (congrFun (hL.1 z (by omega)) j).trans (hS z j hz3 j1 j2)) hL.2.1) (fun q R2 ac2 h => ?_)
            exact ⟨_, rfl, rfl, Or.inr ⟨znf hok, h.1, fun i i3 ix => (h.2.1.1 i ix).trans (hL.1 i (by omega)), h.2.1.2, h.2.2, rfl⟩⟩
        · unfold p_X9_multiply
          refine ZE_b1e i0 (ZE_lta (ZE_z1 (ZE_b1e i1 (ZE_z1 (ZE_b1e i2 (ZE_z1 (ZE_b2e rfl (ZE_z0 ?_))))))))
          refine ZE_b1 (zOf9 F V p0 x hF hx hx3) (fun fx hfx => ?_)
          refine ZE_b1 (zOf9 F V p1 y hF hy hy3) (fun fy hfy => ?_)
          refine ZE_b2 (zPr9 F false fx fy hF (fun j => V (121 * x + j)) (fun j => V (121 * y + j)) hfx hfy) (fun fr ib2 hM => ?_)
          obtain ⟨hfr, hib⟩ := hM
          rw [Bool.false_or] at hib
          dsimp only at hib
          refine ZE_b4 (zBn9 F V ib2 ac re p2 fr z hF hz hz3 (fun j => (sProd (fun j => V (121 * x + j)) (fun j => V (121 * y + j)) j).1) hfr) (fun q V2 dn2 rf2 h => ⟨_, rfl, ?_, rfl⟩)
          rcases h with ⟨h1, h2⟩ | ⟨h1, h2⟩
          · exact Or.inl ⟨by rw [← hib]; exact h1, h2⟩
          · exact Or.inr ⟨by rw [← hib]; exact h1, h2⟩
        · intro r s h g
          obtain ⟨h0, h⟩ := h
          obtain ⟨g, gt⟩ := g
          rw [h0, gt]
          rcases h with ⟨hb, h1, h2, h3, h4⟩ | ⟨hb, h1, h2, h3, h4, h5⟩
          · rcases g with ⟨gb, g1⟩ | ⟨gb, g1⟩
            · simp only [Prod.mk.injEq] at g1
              obtain ⟨g1, g2, g3, g4⟩ := g1
              refine ⟨zCf0, fun _ => by rw [g1, h1], ?_, by rw [h3, g3], by rw [h4, g4]⟩
              rw [g2]
              exact zEq_same hS h2
            · rw [hb] at gb
              exact absurd gb (by decide)
          · rcases g with ⟨gb, g1⟩ | ⟨gb, g1, g2, g3, g4⟩
            · rw [hb] at gb
              exact absurd gb (by decide)
            · exact ⟨zCf0, fun _ => by rw [g1, h1], zEq_set hS h2 h3 g2, by rw [h4, g3], by rw [h5, g4]⟩
      · exact ⟨_, _, (by unfold p_X7_multiply; rw [r0]; show zb2 (p_X7_rowOf p1) _ = _; rw [r1]; show zb2 (p_X7_rowOf p2) _ = _; rw [r2]; rfl), (by unfold p_X9_multiply; rw [i0, i1, i2]; rfl), zCf1, fun c => absurd c zne10, hS, rfl, rfl⟩
    · exact ⟨_, _, (by unfold p_X7_multiply; rw [r0]; show zb2 (p_X7_rowOf p1) _ = _; rw [r1]; rfl), (by unfold p_X9_multiply; rw [i0, i1]; rfl), zCf1, fun c => absurd c zne10, hS, rfl, rfl⟩
  · exact ⟨_, _, (by unfold p_X7_multiply; rw [r0]; rfl), (by unfold p_X9_multiply; rw [i0]; rfl), zCf1, fun c => absurd c zne10, hS, rfl, rfl⟩

set_option maxHeartbeats 4000000 in
theorem zMt9 {P : (Int32 × (Nat → Int64) × Bool × Int32 × Int32 × Int32) → Prop} (F : Nat) (V : Nat → Int64) (p0 : Int32) (p1 : Int32) (p2 : Int32) (x y : Nat) (hx : p0.toInt = x) (hx3 : x ≤ 3) (hy : p1.toInt = y) (hy3 : y ≤ 3) (b0 : Bool) (k : Int32 → Bool → (Nat → Int64) → Option (Int32 × (Nat → Int64) × Bool × Int32 × Int32 × Int32)) (hk : ∀ (vd : Int32) (bb : Bool) (fr : Nat → Int64), (∀ j, 1 ≤ j → j ≤ 120 → fr j = (fun j => (sMet p2 (fun j => V (121 * x + j)) (fun j => V (121 * y + j)) j).1) j) → bb = (b0 || gOr (fun j => (sMet p2 (fun j => V (121 * x + j)) (fun j => V (121 * y + j)) j).2) 120) → ZE P (k vd bb fr)) : ∀ (f : Nat) (vd : Int32) (bb : Bool) (fr : Nat → Int64) (d : Nat), vd.toInt = ((d + 1 : Nat) : Int) → d ≤ 120 → (∀ j, 1 ≤ j → j ≤ d → fr j = (fun j => (sMet p2 (fun j => V (121 * x + j)) (fun j => V (121 * y + j)) j).1) j) → bb = (b0 || gOr (fun j => (sMet p2 (fun j => V (121 * x + j)) (fun j => V (121 * y + j)) j).2) d) → 121 - d < f → ZE P (p_X9_meet_L1 F V p0 p1 p2 k f vd bb fr) := by
  intro f
  induction f with
  | zero => intros; rename_i hm; exact absurd hm (Nat.not_lt_zero _)
  | succ f ih =>
    intro vd bb fr d hd hdn hB hC hm
    show ZE P (if (120 : Int32) < vd then (k vd bb fr) else (zb1 (p_X9_at V p0 vd) (fun r39 => (zb1 (p_X9_at V p1 vd) (fun r41 => (zlt (fun (s0j3 : Int64) (cibj3 : Bool) => (zg (vd < 0 ∨ 121 ≤ vd.toNatClampNeg) (if ¬ p2 = (1 : Int32) then (p_X9_meet_L1 F V p0 p1 p2 k f (vd + (1 : Int32)) cibj3 (vp_updL fr vd.toNatClampNeg s0j3)) else (zlt (if 0 ≤ (lg_cmp r39 (0 : Int64)) then (p_X9_meet_L1 F V p0 p1 p2 k f (vd + (1 : Int32)) cibj3 (vp_updL fr vd.toNatClampNeg s0j3)) else (if (lg_cmp r41 (0 : Int64)) ≤ 0 then (p_X9_meet_L1 F V p0 p1 p2 k f (vd + (1 : Int32)) cibj3 (vp_updL fr vd.toNatClampNeg s0j3)) else (zg (vd < 0 ∨ 121 ≤ vd.toNatClampNeg) (if (lg_cmp ((vp_updL fr vd.toNatClampNeg s0j3) vd.toNatClampNeg) (0 : Int64)) < 0 then (p_X9_meet_L1 F V p0 p1 p2 k f (vd + (1 : Int32)) cibj3 (vp_updL fr vd.toNatClampNeg s0j3)) else (p_X9_meet_L1 F V p0 p1 p2 k f (vd + (1 : Int32)) true (vp_updL fr vd.toNatClampNeg s0j3)))))) (fun jf4 => (if (lg_cmp r39 (0 : Int64)) < 0 then (jf4 ) else (if 0 ≤ (lg_cmp r41 (0 : Int64)) then (jf4 ) else (zg (vd < 0 ∨ 121 ≤ vd.toNatClampNeg) (if (lg_cmp ((vp_updL fr vd.toNatClampNeg s0j3) vd.toNatClampNeg) (0 : Int64)) < 0 then (p_X9_meet_L1 F V p0 p1 p2 k f (vd + (1 : Int32)) true (vp_updL fr vd.toNatClampNeg s0j3)) else (jf4 )))))))))) (fun jf3 => (if ¬ p2 = 0 then (if ¬ p2 = (1 : Int32) then (zb2 (p_X9_times bb r39 r41) (fun r43 ib_44 => (jf3 r43 ib_44))) else (jf3 (r39 - r41) bb)) else (zb2 (p_X9_plus bb r39 r41) (fun r46 ib_47 => (jf3 r46 ib_47)))))))))))
    have e1 := zAddN hd (by omega)
    have o120 : (120 : Int32).toInt = 120 := by decide
    refine ZE_if (fun c => ?_) (fun c => ?_)
    · rw [Int32.lt_iff_toInt_lt, o120] at c
      have hde : d = 120 := by omega
      subst hde
      exact hk _ _ _ hB hC
    · rw [Int32.lt_iff_toInt_lt, o120] at c
      have hzg : ¬ (vd < 0 ∨ 121 ≤ vd.toNatClampNeg) := zgi (by omega) (by omega)
      refine ZE_b1e (zAt9 V hx hx3 hd (by omega)) (ZE_b1e (zAt9 V hy hy3 hd (by omega)) ?_)
      refine ZE_lta (ZE_if (fun c1 => ZE_if (fun c2 => ?_) (fun c2 => ?_)) (fun c1 => ?_))
      · refine ZE_b2e (zTi9 _ _ _) (ZE_zg hzg (ZE_if (fun _ => ?_) (fun q => absurd c2 q)))
        rw [zClN hd]
        have hs : sMet p2 (fun j => V (121 * x + j)) (fun j => V (121 * y + j)) (d + 1) = (V (121 * x + (d + 1)) * V (121 * y + (d + 1)), !letp (V (121 * x + (d + 1))) (V (121 * y + (d + 1)))) := (if_pos c1).trans (if_pos c2)
        exact ih _ _ _ (d + 1) e1 (by omega) (zArrB (s := fun j => (sMet p2 (fun j => V (121 * x + j)) (fun j => V (121 * y + j)) j).1) hB (congrArg Prod.fst hs).symm) (by rw [hC, Bool.or_assoc]; exact (congrArg (fun (s : Int64 × Bool) => b0 || (gOr (fun j => (sMet p2 (fun j => V (121 * x + j)) (fun j => V (121 * y + j)) j).2) d || s.2)) hs).symm) (by omega)
      · have hs : sMet p2 (fun j => V (121 * x + j)) (fun j => V (121 * y + j)) (d + 1) = (V (121 * x + (d + 1)) - V (121 * y + (d + 1)), ovM (V (121 * x + (d + 1))) (V (121 * y + (d + 1)))) := (if_pos c1).trans (if_neg c2)
        have hv := zMi9 (V (121 * x + (d + 1))) (V (121 * y + (d + 1)))
        have hyes : ovM (V (121 * x + (d + 1))) (V (121 * y + (d + 1))) = true → ZE P (p_X9_meet_L1 F V p0 p1 p2 k f (vd + (1 : Int32)) true (vp_updL fr (d + 1) (V (121 * x + (d + 1)) - V (121 * y + (d + 1))))) := by
          intro ho
          rw [ho] at hs
          exact ih _ _ _ (d + 1) e1 (by omega) (zArrB (s := fun j => (sMet p2 (fun j => V (121 * x + j)) (fun j => V (121 * y + j)) j).1) hB (congrArg Prod.fst hs).symm) (by rw [show gOr (fun j => (sMet p2 (fun j => V (121 * x + j)) (fun j => V (121 * y + j)) j).2) (d + 1) = true from (congrArg (fun (s : Int64 × Bool) => gOr (fun j => (sMet p2 (fun j => V (121 * x + j)) (fun j => V (121 * y + j)) j).2) d || s.2) hs).trans (Bool.or_true _), Bool.or_true]) (by omega)
        have hno : ¬ ovM (V (121 * x + (d + 1))) (V (121 * y + (d + 1))) = true → ZE P (p_X9_meet_L1 F V p0 p1 p2 k f (vd + (1 : Int32)) bb (vp_updL fr (d + 1) (V (121 * x + (d + 1)) - V (121 * y + (d + 1))))) := by
          intro ho
          rw [Bool.eq_false_iff.mpr ho] at hs
          exact ih _ _ _ (d + 1) e1 (by omega) (zArrB (s := fun j => (sMet p2 (fun j => V (121 * x + j)) (fun j => V (121 * y + j)) j).1) hB (congrArg Prod.fst hs).symm) (by rw [show gOr (fun j => (sMet p2 (fun j => V (121 * x + j)) (fun j => V (121 * y + j)) j).2) (d + 1) = gOr (fun j => (sMet p2 (fun j => V (121 * x + j)) (fun j => V (121 * y + j)) j).2) d from (congrArg (fun (s : Int64 × Bool) => gOr (fun j => (sMet p2 (fun j => V (121 * x + j)) (fun j => V (121 * y + j)) j).2) d || s.2) hs).trans (Bool.or_false _)]; exact hC) (by omega)
        refine ZE_zg hzg (ZE_if (fun q => absurd q c2) (fun _ => ZE_lta ?_))
        rw [zClN hd, zluS]
        have hzg' : ¬ (vd < 0 ∨ 121 ≤ d + 1) := by rw [← zClN hd]; exact hzg
        simp only [lgz, lgzn, lgzl]
        refine ZE_if (fun a1 => ?_) (fun a1 => ZE_if (fun a2 => ?_) (fun a2 => ZE_zg hzg' (ZE_if (fun a3 => hyes (hv.mp (Or.inl ⟨a1, Decidable.not_not.mp a2, a3⟩))) (fun a3 => ?_))))
        · refine ZE_if (fun g1 => hno (fun o => absurd (hv.mpr o) (by omega))) (fun g1 => ZE_if (fun g2 => hno (fun o => absurd (hv.mpr o) (by omega))) (fun g2 => ZE_zg hzg' (ZE_if (fun g3 => hno (fun o => absurd (hv.mpr o) (by omega))) (fun g3 => hyes (hv.mp (Or.inr ⟨a1, g2, g3⟩))))))
        · refine ZE_if (fun g1 => hno (fun o => absurd (hv.mpr o) (by omega))) (fun g1 => ZE_if (fun g2 => hno (fun o => absurd (hv.mpr o) (by omega))) (fun g2 => ZE_zg hzg' (ZE_if (fun g3 => hno (fun o => absurd (hv.mpr o) (by omega))) (fun g3 => absurd a1 g1))))
        · refine ZE_if (fun g1 => hno (fun o => absurd (hv.mpr o) (by omega))) (fun g1 => ZE_if (fun g2 => hno (fun o => absurd (hv.mpr o) (by omega))) (fun g2 => ZE_zg hzg' (ZE_if (fun g3 => hno (fun o => absurd (hv.mpr o) (by omega))) (fun g3 => absurd a1 g1))))
      · refine ZE_b2e (zPl9 _ _ _) (ZE_zg hzg (ZE_if (fun _ => ?_) (fun q => absurd (fun h => absurd (Decidable.not_not.mp c1) (by rw [h]; decide)) q)))
        rw [zClN hd]
        have hs : sMet p2 (fun j => V (121 * x + j)) (fun j => V (121 * y + j)) (d + 1) = (V (121 * x + (d + 1)) + V (121 * y + (d + 1)), ovA (V (121 * x + (d + 1))) (V (121 * y + (d + 1)))) := if_neg c1
        exact ih _ _ _ (d + 1) e1 (by omega) (zArrB (s := fun j => (sMet p2 (fun j => V (121 * x + j)) (fun j => V (121 * y + j)) j).1) hB (congrArg Prod.fst hs).symm) (by rw [hC, Bool.or_assoc]; exact (congrArg (fun (s : Int64 × Bool) => b0 || (gOr (fun j => (sMet p2 (fun j => V (121 * x + j)) (fun j => V (121 * y + j)) j).2) d || s.2)) hs).symm) (by omega)

theorem zO_meet (F : Nat) (R : Nat → Nat → Int64) (b : Bool) (ac : Int32) (re : Int32) (p0 : Int32) (p1 : Int32) (p2 : Int32) (p3 : Int32) (V : Nat → Int64) (ib : Bool) (dn : Int32) (rf : Int32) (hS : zEq R V) (ha : ac = dn) (hr : re = rf) (hF : 2000 ≤ F) : Z2 (fun (r : (Nat × Int32 × (Nat → Nat → Int64) × Bool × Int32 × Int32)) (s : (Int32 × (Nat → Int64) × Bool × Int32 × Int32 × Int32)) => zCf r.1 s.2.2.2.2.2 ∧ (r.1 = 0 → s.1 = r.2.1) ∧ zEq r.2.2.1 s.2.1 ∧ r.2.2.2.2.1 = s.2.2.2.1 ∧ r.2.2.2.2.2 = s.2.2.2.2.1) (p_X7_meet F R b ac re p0 p1 p2 p3) (p_X9_meet F V ib dn rf p0 p1 p2 p3) := by
  subst ha
  subst hr
  rcases zro p0 with ⟨x, hx, hx3, r0, i0⟩ | ⟨r0, i0⟩
  · rcases zro p1 with ⟨y, hy, hy3, r1, i1⟩ | ⟨r1, i1⟩
    · rcases zro p3 with ⟨z, hz, hz3, r2, i2⟩ | ⟨r2, i2⟩
      · rcases zni p2 0 2 with ⟨n1, j1, l1, u1⟩ | ⟨n1, j1⟩
        · refine Z2_of (P := fun r => r.1 = 0 ∧ ((gOr (fun j => (sMet p2 (fun j => V (121 * x + j)) (fun j => V (121 * y + j)) j).2) 120 = true ∧ r.2.1 = -9 ∧ (∀ i, i ≤ 3 → r.2.2.1 i = R i) ∧ r.2.2.2.2.1 = ac ∧ r.2.2.2.2.2 = re + 1) ∨ (gOr (fun j => (sMet p2 (fun j => V (121 * x + j)) (fun j => V (121 * y + j)) j).2) 120 = false ∧ r.2.1 = Int32.ofInt ((gCnt (fun j => V (121 * z + j)) (fun j => (sMet p2 (fun j => V (121 * x + j)) (fun j => V (121 * y + j)) j).1) 120 : Nat) : Int) ∧ (∀ i, i ≤ 3 → i ≠ z → r.2.2.1 i = R i) ∧ (∀ j, 1 ≤ j → j ≤ 120 → r.2.2.1 z j = (fun j => (sMet p2 (fun j => V (121 * x + j)) (fun j => V (121 * y + j)) j).1) j) ∧ r.2.2.2.2.1 = ac + 1 ∧ r.2.2.2.2.2 = re))) (P' := fun s => ((gOr (fun j => (sMet p2 (fun j => V (121 * x + j)) (fun j => V (121 * y + j)) j).2) 120 = true ∧ (s.1, s.2.1, s.2.2.2.1, s.2.2.2.2.1) = (-9, V, ac, re + 1)) ∨ (gOr (fun j => (sMet p2 (fun j => V (121 * x + j)) (fun j => V (121 * y + j)) j).2) 120 = false ∧ s.1 = Int32.ofInt ((gCnt (fun j => V (121 * z + j)) (fun j => (sMet p2 (fun j => V (121 * x + j)) (fun j => V (121 * y + j)) j).1) 120 : Nat) : Int) ∧ zBec V s.2.1 z (fun j => (sMet p2 (fun j => V (121 * x + j)) (fun j => V (121 * y + j)) j).1) ∧ s.2.2.2.1 = ac + 1 ∧ s.2.2.2.2.1 = re)) ∧ s.2.2.2.2.2 = 0) ?_ ?_ ?_
          · unfold p_X7_meet
            refine ZE_b2e r0 (ZE_ok (ZE_b2e r1 (ZE_ok (ZE_b2e r2 (ZE_ok (ZE_b1e n1 (ZE_ok ?_)))))))
            refine ZE_b3 (zMe7 F R p2 x y 4 hF (by omega) (by omega) (fun j => V (121 * x + j)) (fun j => V (121 * y + j)) (fun j j1 j2 => hS x j hx3 j1 j2) (fun j j1 j2 => hS y j hy3 j1 j2)) (fun ok R1 b1 hL => ?_)
            refine ZE_if (fun c => ?_) (fun c => ?_)
            · have hok := hL.2.2.symm.trans (zbf0 c)
              refine ZE_b2 (Q := fun q => q = ((-9 : Int32), re + 1)) ⟨_, rfl, rfl⟩ (fun q re2 hq => ?_)
              obtain ⟨rfl, rfl⟩ := Prod.mk.inj hq
              exact ⟨_, rfl, rfl, Or.inl ⟨znt hok, rfl, fun i i3 => hL.1 i (by omega), rfl, rfl⟩⟩
            · have hok := hL.2.2.symm.trans (zb01 c)
              refine ZE_b3 (zBe7 F R1 ac z hF (fun j => V (121 * z + j)) (fun j => (sMet p2 (fun j => V (121 * x + j)) (fun j => V (121 * y + j)) j).1) (fun j j1 j2 => (congrFun (hL.1 z (by omega)) j).trans (hS z j hz3 j1 j2)) hL.2.1) (fun q R2 ac2 h => ?_)
              exact ⟨_, rfl, rfl, Or.inr ⟨znf hok, h.1, fun i i3 ix => (h.2.1.1 i ix).trans (hL.1 i (by omega)), h.2.1.2, h.2.2, rfl⟩⟩
          · unfold p_X9_meet
            refine ZE_b1e i0 (ZE_lta (ZE_z1 (ZE_b1e i1 (ZE_z1 (ZE_b1e i2 (ZE_z1 (ZE_b1e j1 (ZE_b2e rfl (ZE_z0 ?_)))))))))
            refine zMt9 F V p0 p1 p2 x y hx hx3 hy hy3 false _ (fun vd ib2 fr hfr hib => ?_) F 1 false _ 0 (by decide) (by omega) (fun j j1 j2 => by omega) rfl (by omega)
            rw [Bool.false_or] at hib
            refine ZE_b4 (zBn9 F V ib2 ac re p3 fr z hF hz hz3 (fun j => (sMet p2 (fun j => V (121 * x + j)) (fun j => V (121 * y + j)) j).1) hfr) (fun q V2 dn2 rf2 h => ⟨_, rfl, ?_, rfl⟩)
            rcases h with ⟨h1, h2⟩ | ⟨h1, h2⟩
            · exact Or.inl ⟨by rw [← hib]; exact h1, h2⟩
            · exact Or.inr ⟨by rw [← hib]; exact h1, h2⟩
          · intro r s h g
            obtain ⟨h0, h⟩ := h
            obtain ⟨g, gt⟩ := g
            rw [h0, gt]
            rcases h with ⟨hb, h1, h2, h3, h4⟩ | ⟨hb, h1, h2, h3, h4, h5⟩
            · rcases g with ⟨gb, g1⟩ | ⟨gb, g1⟩
              · simp only [Prod.mk.injEq] at g1
                obtain ⟨g1, g2, g3, g4⟩ := g1
                refine ⟨zCf0, fun _ => by rw [g1, h1], ?_, by rw [h3, g3], by rw [h4, g4]⟩
                rw [g2]
                exact zEq_same hS h2
              · rw [hb] at gb
                exact absurd gb (by decide)
            · rcases g with ⟨gb, g1⟩ | ⟨gb, g1, g2, g3, g4⟩
              · rw [hb] at gb
                exact absurd gb (by decide)
              · exact ⟨zCf0, fun _ => by rw [g1, h1], zEq_set hS h2 h3 g2, by rw [h4, g3], by rw [h5, g4]⟩
        · exact ⟨_, _, (by unfold p_X7_meet; rw [r0]; show zb2 (p_X7_rowOf p1) _ = _; rw [r1]; show zb2 (p_X7_rowOf p3) _ = _; rw [r2]; show zb1 (p_X7_need p2 0 2) _ = _; rw [n1]; rfl), (by unfold p_X9_meet; rw [i0, i1, i2, j1]; rfl), zCf2, fun c => absurd c zne20, hS, rfl, rfl⟩
      · have e9 : p_X9_meet F V ib ac re p0 p1 p2 p3 = some (0, V, ib, ac, re, 1) := by
          unfold p_X9_meet
          rcases zni p2 0 2 with ⟨n1, j1, l1, u1⟩ | ⟨n1, j1⟩
          · rw [i0, i1, i2, j1]; rfl
          · rw [i0, i1, i2, j1]; rfl
        exact ⟨_, _, (by unfold p_X7_meet; rw [r0]; show zb2 (p_X7_rowOf p1) _ = _; rw [r1]; show zb2 (p_X7_rowOf p3) _ = _; rw [r2]; rfl), e9, zCf1, fun c => absurd c zne10, hS, rfl, rfl⟩
    · have e9 : p_X9_meet F V ib ac re p0 p1 p2 p3 = some (0, V, ib, ac, re, 1) := by
        unfold p_X9_meet
        rcases zni p2 0 2 with ⟨n1, j1, l1, u1⟩ | ⟨n1, j1⟩
        · rw [i0, i1, j1]; rfl
        · rw [i0, i1, j1]; rfl
      exact ⟨_, _, (by unfold p_X7_meet; rw [r0]; show zb2 (p_X7_rowOf p1) _ = _; rw [r1]; rfl), e9, zCf1, fun c => absurd c zne10, hS, rfl, rfl⟩
  · have e9 : p_X9_meet F V ib ac re p0 p1 p2 p3 = some (0, V, ib, ac, re, 1) := by
      unfold p_X9_meet
      rcases zni p2 0 2 with ⟨n1, j1, l1, u1⟩ | ⟨n1, j1⟩
      · rw [i0, j1]; rfl
      · rw [i0, j1]; rfl
    exact ⟨_, _, (by unfold p_X7_meet; rw [r0]; rfl), e9, zCf1, fun c => absurd c zne10, hS, rfl, rfl⟩
