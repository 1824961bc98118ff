set_option maxHeartbeats 2000000 in
theorem t_J6_getChars_ba4f3 (F : Nat) (p0 p1 : Int32) (n2 : Nat) (p2 : Nat → Int32) (hF : 2000 ≤ F) (hn : n2 ≤ 130) (hp1 : p1.toInt ≤ n2) (hy : zBy p2) (base : Int) (hb : 0 ≤ base) (hbs : p0.toInt < 0 → 1 ≤ base) (hG : zGc n2 base (if p0.toInt < 0 then p0.toInt else -p0.toInt) p1.toInt p2) : ZE (fun (r : (Int32 × (Nat → Int32))) => zBy r.2) (p_J6_getChars_ba4f3 F p0 p1 n2 p2) := by
  unfold p_J6_getChars_ba4f3
  refine ZE_lt (fun (s : Bool) => s = true ↔ p0.toInt < 0) (fun s0j0 hJ => ?_) (fun jf0 hj => ?_)
  · have hs : ¬ (z01 s0j0) = 0 → 1 ≤ base := fun h => hbs (hJ.mp (by cases s0j0 with | true => rfl | false => exact absurd rfl h))
    refine ZE_if (fun c => ?_) (fun c => ?_)
    · have hneg : p0.toInt < 0 := hJ.mp (by cases s0j0 with | true => rfl | false => exact absurd rfl c)
      rw [if_pos hneg] at hG
      refine t_J6_getChars_ba4f3_L0 F n2 base hb hn _ (fun v0_0 v5_0 f0_0 hI hx => ?_) F p0 p1 p2 hG (by omega)
      have h1 := hI.1
      have h2 := hI.2.1
      have h3 := hI.2.2.1
      obtain ⟨E1, E2⟩ := zgcE hI
      have hp0 : 0 ≤ v5_0.toInt := by omega
      have hv0 : -2147483647 ≤ v0_0.toInt := by omega
      have N1 : 0 ≤ -v0_0.toInt := by omega
      have N2 : -v0_0.toInt < (100 : Nat) := by omega
      have A1 : 0 ≤ v5_0.toInt - 1 := by omega
      have A2 : v5_0.toInt - 1 < n2 := by omega
      have A4 : v5_0.toInt - 2 < n2 := by omega
      have A6 : v5_0.toInt - 3 < n2 := by omega
      have B2 : 1 ≤ base → 0 ≤ v5_0.toInt - 2 := by omega
      have C2 : v0_0.toInt ≤ -10 → 0 ≤ v5_0.toInt - 2 := by omega
      have C3 : v0_0.toInt ≤ -10 → 1 ≤ base → 0 ≤ v5_0.toInt - 3 := by omega
      have en : (-v0_0).toInt = -v0_0.toInt := zng hv0
      obtain ⟨e1, e2, e3⟩ := zam2 hp0
      refine ZE_zg (zgi2 en N1 N2) ?_
      refine ZE_zg (zgi2 e1 A1 A2) ?_
      refine ZE_if (fun c => ?_) (fun c => ?_)
      · refine ZE_if (fun cs => ?_) (fun cs => ?_)
        · exact ⟨_, rfl, zBy_upd h3 _ _⟩
        · refine ZE_zg (zgi2 e2 (B2 (hs cs)) A4) ?_
          exact ⟨_, rfl, zBy_upd (zBy_upd h3 _ _) _ _⟩
      · have c' : v0_0.toInt ≤ -10 := z100.2.2 c
        refine ZE_zg (zgi2 en N1 N2) ?_
        refine ZE_zg (zgi2 e2 (C2 c') A4) ?_
        refine ZE_if (fun cs => ?_) (fun cs => ?_)
        · exact ⟨_, rfl, zBy_upd (zBy_upd h3 _ _) _ _⟩
        · refine ZE_zg (zgi2 e3 (C3 c' (hs cs)) A6) ?_
          exact ⟨_, rfl, zBy_upd (zBy_upd (zBy_upd h3 _ _) _ _) _ _⟩
    · have hpos : ¬ p0.toInt < 0 := fun h => c (by rw [hJ.mpr h]; decide)
      rw [if_neg hpos] at hG
      refine t_J6_getChars_ba4f3_L1 F n2 base hb hn _ (fun v0_1 v5_1 f0_1 hI hx => ?_) F (-p0) p1 p2 (by rw [zng (x := p0) (by omega)]; exact hG) (by omega)
      have h1 := hI.1
      have h2 := hI.2.1
      have h3 := hI.2.2.1
      obtain ⟨E1, E2⟩ := zgcE hI
      have hp0 : 0 ≤ v5_1.toInt := by omega
      have hv0 : -2147483647 ≤ v0_1.toInt := by omega
      have N1 : 0 ≤ -v0_1.toInt := by omega
      have N2 : -v0_1.toInt < (100 : Nat) := by omega
      have A1 : 0 ≤ v5_1.toInt - 1 := by omega
      have A2 : v5_1.toInt - 1 < n2 := by omega
      have A4 : v5_1.toInt - 2 < n2 := by omega
      have A6 : v5_1.toInt - 3 < n2 := by omega
      have B2 : 1 ≤ base → 0 ≤ v5_1.toInt - 2 := by omega
      have C2 : v0_1.toInt ≤ -10 → 0 ≤ v5_1.toInt - 2 := by omega
      have C3 : v0_1.toInt ≤ -10 → 1 ≤ base → 0 ≤ v5_1.toInt - 3 := by omega
      have en : (-v0_1).toInt = -v0_1.toInt := zng hv0
      obtain ⟨e1, e2, e3⟩ := zam2 hp0
      refine ZE_zg (zgi2 en N1 N2) ?_
      refine ZE_zg (zgi2 e1 A1 A2) ?_
      refine ZE_if (fun c => ?_) (fun c => ?_)
      · refine ZE_if (fun cs => ?_) (fun cs => ?_)
        · exact ⟨_, rfl, zBy_upd h3 _ _⟩
        · refine ZE_zg (zgi2 e2 (B2 (hs cs)) A4) ?_
          exact ⟨_, rfl, zBy_upd (zBy_upd h3 _ _) _ _⟩
      · have c' : v0_1.toInt ≤ -10 := z100.2.2 c
        refine ZE_zg (zgi2 en N1 N2) ?_
        refine ZE_zg (zgi2 e2 (C2 c') A4) ?_
        refine ZE_if (fun cs => ?_) (fun cs => ?_)
        · exact ⟨_, rfl, zBy_upd (zBy_upd h3 _ _) _ _⟩
        · refine ZE_zg (zgi2 e3 (C3 c' (hs cs)) A6) ?_
          exact ⟨_, rfl, zBy_upd (zBy_upd (zBy_upd h3 _ _) _ _) _ _⟩
  · refine ZE_if (fun c => hj _ ?_) (fun c => hj _ ?_)
    · have : 0 ≤ p0.toInt := by (first | omega | ((try simp only [Int32.lt_iff_toInt_lt, Int32.le_iff_toInt_le, ← Int32.toInt_inj, zcl, Int32.reduceToInt] at *) <;> omega))
      exact ⟨fun h => (by cases h), fun h => (by omega)⟩
    · have : p0.toInt < 0 := by (first | omega | ((try simp only [Int32.lt_iff_toInt_lt, Int32.le_iff_toInt_le, ← Int32.toInt_inj, zcl, Int32.reduceToInt] at *) <;> omega))
      exact ⟨fun _ => this, fun _ => rfl⟩

set_option maxHeartbeats 2000000 in
theorem t_J13_getChars_11360 (F : Nat) (p0 : Int64) (p1 : Int32) (n2 : Nat) (p2 : Nat → Int32) (hF : 2000 ≤ F) (hn : n2 ≤ 130) (hp1 : p1.toInt ≤ n2) (hy : zBy p2) (base : Int) (hb : 0 ≤ base) (hbs : p0.toInt < 0 → 1 ≤ base) (hG : zGc n2 base (if p0.toInt < 0 then p0.toInt else -p0.toInt) p1.toInt p2) : ZE (fun (r : (Int32 × (Nat → Int32))) => zBy r.2) (p_J13_getChars_11360 F p0 p1 n2 p2) := by
  unfold p_J13_getChars_11360
  refine ZE_lt (fun (s : Bool) => s = true ↔ p0.toInt < 0) (fun s0j0 hJ => ?_) (fun jf0 hj => ?_)
  · have hs : ¬ (z01 s0j0) = 0 → 1 ≤ base := fun h => hbs (hJ.mp (by cases s0j0 with | true => rfl | false => exact absurd rfl h))
    refine ZE_if (fun c => ?_) (fun c => ?_)
    · have hneg : p0.toInt < 0 := hJ.mp (by cases s0j0 with | true => rfl | false => exact absurd rfl c)
      rw [if_pos hneg] at hG
      refine t_J13_getChars_11360_L0 F n2 base hb hn _ (fun v0_0 v7_0 f0_0 hI hx => ?_) F p0 p1 p2 hG (by omega)
      refine t_J13_getChars_11360_L1 F n2 base hb hn _ (fun v7_1 v10_1 f0_1 hI hx => ?_) F v7_0 (v0_0.toInt32) f0_0 (by rw [zn32 hI.1 (by omega)]; exact hI) (by have := hI.2.1; omega)
      have h1 := hI.1
      have h2 := hI.2.1
      have h3 := hI.2.2.1
      obtain ⟨E1, E2⟩ := zgcE hI
      have hp0 : 0 ≤ v7_1.toInt := by omega
      have hv0 : -2147483647 ≤ v10_1.toInt := by omega
      have N1 : 0 ≤ -v10_1.toInt := by omega
      have N2 : -v10_1.toInt < (100 : Nat) := by omega
      have A1 : 0 ≤ v7_1.toInt - 1 := by omega
      have A2 : v7_1.toInt - 1 < n2 := by omega
      have A4 : v7_1.toInt - 2 < n2 := by omega
      have A6 : v7_1.toInt - 3 < n2 := by omega
      have B2 : 1 ≤ base → 0 ≤ v7_1.toInt - 2 := by omega
      have C2 : v10_1.toInt ≤ -10 → 0 ≤ v7_1.toInt - 2 := by omega
      have C3 : v10_1.toInt ≤ -10 → 1 ≤ base → 0 ≤ v7_1.toInt - 3 := by omega
      have en : (-v10_1).toInt = -v10_1.toInt := zng hv0
      obtain ⟨e1, e2, e3⟩ := zam2 hp0
      refine ZE_zg (zgi2 en N1 N2) ?_
      refine ZE_zg (zgi2 e1 A1 A2) ?_
      refine ZE_if (fun c => ?_) (fun c => ?_)
      · refine ZE_if (fun cs => ?_) (fun cs => ?_)
        · exact ⟨_, rfl, zBy_upd h3 _ _⟩
        · refine ZE_zg (zgi2 e2 (B2 (hs cs)) A4) ?_
          exact ⟨_, rfl, zBy_upd (zBy_upd h3 _ _) _ _⟩
      · have c' : v10_1.toInt ≤ -10 := z100.2.2 c
        refine ZE_zg (zgi2 en N1 N2) ?_
        refine ZE_zg (zgi2 e2 (C2 c') A4) ?_
        refine ZE_if (fun cs => ?_) (fun cs => ?_)
        · exact ⟨_, rfl, zBy_upd (zBy_upd h3 _ _) _ _⟩
        · refine ZE_zg (zgi2 e3 (C3 c' (hs cs)) A6) ?_
          exact ⟨_, rfl, zBy_upd (zBy_upd (zBy_upd h3 _ _) _ _) _ _⟩
    · have hpos : ¬ p0.toInt < 0 := fun h => c (by rw [hJ.mpr h]; decide)
      rw [if_neg hpos] at hG
      refine t_J13_getChars_11360_L2 F n2 base hb hn _ (fun v0_2 v7_2 f0_2 hI hx => ?_) F (-p0) p1 p2 (by rw [zngl (x := p0) (by omega)]; exact hG) (by omega)
      refine t_J13_getChars_11360_L3 F n2 base hb hn _ (fun v7_3 v10_3 f0_3 hI hx => ?_) F v7_2 (v0_2.toInt32) f0_2 (by rw [zn32 hI.1 (by omega)]; exact hI) (by have := hI.2.1; omega)
      have h1 := hI.1
      have h2 := hI.2.1
      have h3 := hI.2.2.1
      obtain ⟨E1, E2⟩ := zgcE hI
      have hp0 : 0 ≤ v7_3.toInt := by omega
      have hv0 : -2147483647 ≤ v10_3.toInt := by omega
      have N1 : 0 ≤ -v10_3.toInt := by omega
      have N2 : -v10_3.toInt < (100 : Nat) := by omega
      have A1 : 0 ≤ v7_3.toInt - 1 := by omega
      have A2 : v7_3.toInt - 1 < n2 := by omega
      have A4 : v7_3.toInt - 2 < n2 := by omega
      have A6 : v7_3.toInt - 3 < n2 := by omega
      have B2 : 1 ≤ base → 0 ≤ v7_3.toInt - 2 := by omega
      have C2 : v10_3.toInt ≤ -10 → 0 ≤ v7_3.toInt - 2 := by omega
      have C3 : v10_3.toInt ≤ -10 → 1 ≤ base → 0 ≤ v7_3.toInt - 3 := by omega
      have en : (-v10_3).toInt = -v10_3.toInt := zng hv0
      obtain ⟨e1, e2, e3⟩ := zam2 hp0
      refine ZE_zg (zgi2 en N1 N2) ?_
      refine ZE_zg (zgi2 e1 A1 A2) ?_
      refine ZE_if (fun c => ?_) (fun c => ?_)
      · refine ZE_if (fun cs => ?_) (fun cs => ?_)
        · exact ⟨_, rfl, zBy_upd h3 _ _⟩
        · refine ZE_zg (zgi2 e2 (B2 (hs cs)) A4) ?_
          exact ⟨_, rfl, zBy_upd (zBy_upd h3 _ _) _ _⟩
      · have c' : v10_3.toInt ≤ -10 := z100.2.2 c
        refine ZE_zg (zgi2 en N1 N2) ?_
        refine ZE_zg (zgi2 e2 (C2 c') A4) ?_
        refine ZE_if (fun cs => ?_) (fun cs => ?_)
        · exact ⟨_, rfl, zBy_upd (zBy_upd h3 _ _) _ _⟩
        · refine ZE_zg (zgi2 e3 (C3 c' (hs cs)) A6) ?_
          exact ⟨_, rfl, zBy_upd (zBy_upd (zBy_upd h3 _ _) _ _) _ _⟩
  · refine ZE_if (fun c => hj _ ?_) (fun c => hj _ ?_)
    · have d := zcmp_ge' c
      rw [show (0 : Int64).toInt = 0 from by decide] at d
      exact ⟨fun h => (by cases h), fun h => (by omega)⟩
    · have d := zcmp_lt' c
      rw [show (0 : Int64).toInt = 0 from by decide] at d
      exact ⟨fun _ => d, fun _ => rfl⟩

