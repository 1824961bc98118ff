-- ==================== totality: the JDK's texts
def zBy (f : Nat → Int32) : Prop := ∀ i, fits .byte (.int (f i)) = true
theorem zBy_of {x : Int32} (h0 : -128 ≤ x.toInt) (h1 : x.toInt ≤ 127) : fits .byte (.int x) = true := by
  simp only [fits, Bool.and_eq_true, decide_eq_true_eq, Int32.le_iff_toInt_le, show (-128 : Int32).toInt = -128 from by decide, show (127 : Int32).toInt = 127 from by decide]
  exact ⟨h0, h1⟩
theorem zBy_n8 (x : Int32) : fits .byte (.int (vp_nar .byte x)) = true := by
  rw [vp_nar_byte]
  have h := Int8.le_toInt x.toInt8
  have h2 := Int8.toInt_lt x.toInt8
  refine zBy_of ?_ ?_
  · rw [Int8.toInt_toInt32]; omega
  · rw [Int8.toInt_toInt32]; omega
theorem zBy0 : zBy (fun _ => 0) := fun _ => show fits .byte (.int (0 : Int32)) = true from zBy_of (by decide) (by decide)
theorem zBy_bt (k : Nat) : zBy (zbt k) := by
  intro j
  show fits .byte (.int (if k = 176 then 32 else 94)) = true
  split
  · exact zBy_of (by decide) (by decide)
  · exact zBy_of (by decide) (by decide)
theorem zBy_upd {f : Nat → Int32} (h : zBy f) (i : Nat) (x : Int32) : zBy (upd f i (vp_nar .byte x)) := by
  intro j
  unfold upd
  split
  · exact zBy_n8 x
  · exact h j
theorem zBy_cpy {f g : Nat → Int32} (hf : zBy f) (hg : zBy g) (a b n : Nat) : zBy (va_cpy f g a b n) := by
  intro j
  unfold va_cpy
  split
  · exact hf _
  · exact hg _
theorem zbf_mk {f : Nat → Int32} {n : Nat} (h : zBy f) : ¬ zbf f n = false := by
  have e : zbf f n = true := by
    simp only [zbf, List.all_eq_true, List.mem_range]
    exact fun i _ => h i
  rw [e]
  decide
theorem zcp_mk {f : Nat → Int32} {n0 n1 : Nat} {sp dp n : Int32} (h : zBy f) (h1 : 0 ≤ sp.toInt) (h2 : 0 ≤ dp.toInt) (h3 : 0 ≤ n.toInt) (h4 : sp.toInt + n.toInt ≤ n0) (h5 : dp.toInt + n.toInt ≤ n1) : ¬ zcp f n0 n1 sp dp n = false := by
  have e : zcp f n0 n1 sp dp n = true := by
    simp only [zcp, Bool.and_eq_true, decide_eq_true_eq, List.all_eq_true, List.mem_range, Int32.lt_iff_toInt_lt, show (0 : Int32).toInt = 0 from by decide, zcl]
    exact ⟨⟨by omega, by omega, by omega, by omega, by omega⟩, fun i _ => h _⟩
  rw [e]
  decide
theorem zsh0 (x : Int32) : x >>> ((0 : Int32) &&& 31) = x := by
  rw [show ((0 : Int32) &&& 31) = 0 from by decide]
  exact Int32.shiftRight_zero
theorem zsl0 (x : Int32) : x <<< ((0 : Int32) &&& 31) = x := by
  rw [show ((0 : Int32) &&& 31) = 0 from by decide]
  exact Int32.shiftLeft_zero
theorem zsb {x y : Int32} (h1 : -2147483648 ≤ x.toInt - y.toInt) (h2 : x.toInt - y.toInt < 2147483648) : (x - y).toInt = x.toInt - y.toInt := by
  rw [Int32.toInt_sub]
  exact Int.bmod_eq_of_le (by omega) (by omega)
theorem zam {x : Int32} (h1 : -2147483647 ≤ x.toInt) : (x + (-1 : Int32)).toInt = x.toInt - 1 := by
  have e : (-1 : Int32).toInt = -1 := by decide
  have r := zrg x
  rw [zad (by rw [e]; omega) (by rw [e]; omega), e]
  omega
theorem zng {x : Int32} (h1 : -2147483647 ≤ x.toInt) : (-x).toInt = -x.toInt := by
  have r := zrg x
  rw [Int32.toInt_neg]
  exact Int.bmod_eq_of_le (by omega) (by omega)
theorem zngl {x : Int64} (h1 : 0 ≤ x.toInt) : (-x).toInt = -x.toInt := by
  have r := Int64.toInt_lt x
  rw [Int64.toInt_neg]
  exact Int.bmod_eq_of_le (by omega) (by omega)
theorem zon {n : Nat} (h : n < 2147483648) : (Int32.ofNat n).toInt = n := nI_toInt (by omega)
theorem zgi {x : Int32} {n : Nat} (h0 : 0 ≤ x.toInt) (h1 : x.toInt < n) : ¬ (x < 0 ∨ n ≤ x.toNatClampNeg) := by
  rw [Int32.lt_iff_toInt_lt, show (0 : Int32).toInt = 0 from by decide, zcl]
  omega
theorem zcmp_gt {x y : Int64} (h : ¬ lg_cmp x y ≤ 0) : y.toInt < x.toInt := by
  unfold lg_cmp at h
  by_cases c : x > y
  · exact Int64.lt_iff_toInt_lt.mp c
  · rw [if_neg c] at h
    by_cases d : x = y
    · rw [if_pos d] at h; exact absurd h (by decide)
    · rw [if_neg d] at h; exact absurd h (by decide)
theorem zcmp_le {x y : Int64} (h : lg_cmp x y ≤ 0) : x.toInt ≤ y.toInt := by
  unfold lg_cmp at h
  by_cases c : x > y
  · rw [if_pos c] at h; exact absurd h (by decide)
  · have := mt Int64.lt_iff_toInt_lt.mpr c; omega
theorem zcmp_lt {x y : Int64} (h : lg_cmp x y < 0) : x.toInt < y.toInt := by
  unfold lg_cmp at h
  by_cases c : x > y
  · rw [if_pos c] at h; exact absurd h (by decide)
  · rw [if_neg c] at h
    by_cases d : x = y
    · rw [if_pos d] at h; exact absurd h (by decide)
    · have h1 := mt Int64.lt_iff_toInt_lt.mpr c
      have h2 : ¬ x.toInt = y.toInt := fun e => d (Int64.toInt_inj.mp e)
      omega
theorem zcmp_ge {x y : Int64} (h : ¬ lg_cmp x y < 0) : y.toInt ≤ x.toInt := by
  unfold lg_cmp at h
  by_cases c : x > y
  · have := Int64.lt_iff_toInt_lt.mp c; omega
  · rw [if_neg c] at h
    by_cases d : x = y
    · rw [d]; exact Int.le_refl _
    · rw [if_neg d] at h; exact absurd (by decide) h
theorem zcmp_ge' {x y : Int64} (h : 0 ≤ lg_cmp x y) : y.toInt ≤ x.toInt := by
  unfold lg_cmp at h
  by_cases c : x > y
  · have := Int64.lt_iff_toInt_lt.mp c; omega
  · rw [if_neg c] at h
    by_cases d : x = y
    · rw [d]; exact Int.le_refl _
    · rw [if_neg d] at h; exact absurd h (by decide)
theorem zcmp_lt' {x y : Int64} (h : ¬ 0 ≤ lg_cmp x y) : x.toInt < y.toInt := by
  unfold lg_cmp at h
  by_cases c : x > y
  · rw [if_pos c] at h; exact absurd (by decide) h
  · rw [if_neg c] at h
    by_cases d : x = y
    · rw [if_pos d] at h; exact absurd (by decide) h
    · have h1 := mt Int64.lt_iff_toInt_lt.mpr c
      have h2 : ¬ x.toInt = y.toInt := fun e => d (Int64.toInt_inj.mp e)
      omega
theorem ZE_lta {ρ τ : Type} {P : ρ → Prop} {f : τ} {t : τ → Option ρ} (h : ZE P (t f)) : ZE P (zlt f t) := h
theorem ztd {a : Int} (h : a ≤ 0) : a.tdiv 100 = -((-a) / 100) := by
  have e := Int.neg_tdiv (-a) 100
  rw [Int.neg_neg] at e
  rw [e, Int.tdiv_eq_ediv_of_nonneg (by omega)]
theorem zq32 {v : Int32} (h : v.toInt ≤ 0) : (v / (100 : Int32)).toInt = v.toInt.tdiv 100 ∧ (((v / (100 : Int32)) * (100 : Int32)) - v).toInt = v.toInt.tdiv 100 * 100 - v.toInt := by
  have r := zrg v
  have e : (v / (100 : Int32)).toInt = v.toInt.tdiv 100 := by
    rw [Int32.toInt_div_of_ne_right _ _ (by decide), show (100 : Int32).toInt = 100 from by decide]
  have t := ztd h
  have m : ((v / (100 : Int32)) * (100 : Int32)).toInt = v.toInt.tdiv 100 * 100 := by
    rw [Int32.toInt_mul, e, show (100 : Int32).toInt = 100 from by decide]
    exact Int.bmod_eq_of_le (by omega) (by omega)
  refine ⟨e, ?_⟩
  rw [zsb (by rw [m]; omega) (by rw [m]; omega), m]
theorem zq64 {v : Int64} (h : v.toInt ≤ 0) : (v / (100 : Int64)).toInt = v.toInt.tdiv 100 ∧ ((((v / (100 : Int64)) * (100 : Int64)) - v).toInt32).toInt = v.toInt.tdiv 100 * 100 - v.toInt := by
  have r := Int64.le_toInt v
  have e : (v / (100 : Int64)).toInt = v.toInt.tdiv 100 := by
    rw [Int64.toInt_div_of_ne_right _ _ (by decide), show (100 : Int64).toInt = 100 from by decide]
  have t := ztd h
  have m : ((v / (100 : Int64)) * (100 : Int64)).toInt = v.toInt.tdiv 100 * 100 := by
    rw [Int64.toInt_mul, e, show (100 : Int64).toInt = 100 from by decide]
    exact Int.bmod_eq_of_le (by omega) (by omega)
  have s : (((v / (100 : Int64)) * (100 : Int64)) - v).toInt = v.toInt.tdiv 100 * 100 - v.toInt := by
    rw [Int64.toInt_sub, m]
    exact Int.bmod_eq_of_le (by omega) (by omega)
  refine ⟨e, ?_⟩
  rw [Int64.toInt_toInt32, s]
  exact Int.bmod_eq_of_le (by omega) (by omega)
theorem zn32 {v : Int64} (h : v.toInt ≤ 0) (h2 : -2147483648 ≤ v.toInt) : (v.toInt32).toInt = v.toInt := by
  rw [Int64.toInt_toInt32]
  exact Int.bmod_eq_of_le (by omega) (by omega)
