-- ==================== the law's cases: the state stays alike
theorem ZE_of {ρ : Type} {P : ρ → Prop} {x : Option ρ} {r : ρ} (h : ZE P x) (e : x = some r) : P r := by
  obtain ⟨q, e2, hq⟩ := h
  rw [e] at e2
  cases e2
  exact hq
theorem ZE_b3e {ρ α0 α1 α2 : Type} {P : ρ → Prop} {x : Option (α0 × α1 × α2)} {a0 : α0} {a1 : α1} {a2 : α2} {f : α0 → α1 → α2 → Option ρ} (hx : x = some (a0, a1, a2)) (h : ZE P (f a0 a1 a2)) : ZE P (zb3 x f) := by
  subst hx
  exact h
theorem ZE_b4e {ρ α0 α1 α2 α3 : Type} {P : ρ → Prop} {x : Option (α0 × α1 × α2 × α3)} {a0 : α0} {a1 : α1} {a2 : α2} {a3 : α3} {f : α0 → α1 → α2 → α3 → Option ρ} (hx : x = some (a0, a1, a2, a3)) (h : ZE P (f a0 a1 a2 a3)) : ZE P (zb4 x f) := by
  subst hx
  exact h
theorem ZE_b5e {ρ α0 α1 α2 α3 α4 : Type} {P : ρ → Prop} {x : Option (α0 × α1 × α2 × α3 × α4)} {a0 : α0} {a1 : α1} {a2 : α2} {a3 : α3} {a4 : α4} {f : α0 → α1 → α2 → α3 → α4 → Option ρ} (hx : x = some (a0, a1, a2, a3, a4)) (h : ZE P (f a0 a1 a2 a3 a4)) : ZE P (zb5 x f) := by
  subst hx
  exact h
theorem ZE_b6e {ρ α0 α1 α2 α3 α4 α5 : Type} {P : ρ → Prop} {x : Option (α0 × α1 × α2 × α3 × α4 × α5)} {a0 : α0} {a1 : α1} {a2 : α2} {a3 : α3} {a4 : α4} {a5 : α5} {f : α0 → α1 → α2 → α3 → α4 → α5 → Option ρ} (hx : x = some (a0, a1, a2, a3, a4, a5)) (h : ZE P (f a0 a1 a2 a3 a4 a5)) : ZE P (zb6 x f) := by
  subst hx
  exact h
theorem ZE_b7e {ρ α0 α1 α2 α3 α4 α5 α6 : Type} {P : ρ → Prop} {x : Option (α0 × α1 × α2 × α3 × α4 × α5 × α6)} {a0 : α0} {a1 : α1} {a2 : α2} {a3 : α3} {a4 : α4} {a5 : α5} {a6 : α6} {f : α0 → α1 → α2 → α3 → α4 → α5 → α6 → Option ρ} (hx : x = some (a0, a1, a2, a3, a4, a5, a6)) (h : ZE P (f a0 a1 a2 a3 a4 a5 a6)) : ZE P (zb7 x f) := by
  subst hx
  exact h
theorem ZE_b10e {ρ α0 α1 α2 α3 α4 α5 α6 α7 α8 α9 : Type} {P : ρ → Prop} {x : Option (α0 × α1 × α2 × α3 × α4 × α5 × α6 × α7 × α8 × α9)} {a0 : α0} {a1 : α1} {a2 : α2} {a3 : α3} {a4 : α4} {a5 : α5} {a6 : α6} {a7 : α7} {a8 : α8} {a9 : α9} {f : α0 → α1 → α2 → α3 → α4 → α5 → α6 → α7 → α8 → α9 → Option ρ} (hx : x = some (a0, a1, a2, a3, a4, a5, a6, a7, a8, a9)) (h : ZE P (f a0 a1 a2 a3 a4 a5 a6 a7 a8 a9)) : ZE P (zb10 x f) := by
  subst hx
  exact h
theorem ZE_b11e {ρ α0 α1 α2 α3 α4 α5 α6 α7 α8 α9 α10 : Type} {P : ρ → Prop} {x : Option (α0 × α1 × α2 × α3 × α4 × α5 × α6 × α7 × α8 × α9 × α10)} {a0 : α0} {a1 : α1} {a2 : α2} {a3 : α3} {a4 : α4} {a5 : α5} {a6 : α6} {a7 : α7} {a8 : α8} {a9 : α9} {a10 : α10} {f : α0 → α1 → α2 → α3 → α4 → α5 → α6 → α7 → α8 → α9 → α10 → Option ρ} (hx : x = some (a0, a1, a2, a3, a4, a5, a6, a7, a8, a9, a10)) (h : ZE P (f a0 a1 a2 a3 a4 a5 a6 a7 a8 a9 a10)) : ZE P (zb11 x f) := by
  subst hx
  exact h
theorem zlc0 (x : Int64) : lg_cmp x x = 0 := by
  unfold lg_cmp
  rw [if_neg (fun h => Int64.lt_irrefl h), if_pos rfl]
set_option maxHeartbeats 4000000 in
theorem t_law_0 (F : Nat) (R : Nat → Nat → Int64) (b : Bool) (pr : Nat → Int32) (tm : Nat → Int32) (cn : Int32) (sm : Nat → Int32) (ac : Int32) (re : Int32) (kn : Int32) (V : Nat → Int64) (ib : Bool) (dn : Int32) (rf : Int32) (mk : Int32) (th : Int32) (xs : Nat → Int32) (i : Int32) (on : Int64) (hp0 : 2000 ≤ F) (hp1 : zTm tm) (hp2 : 0 ≤ cn.toInt) (hp3 : cn.toInt ≤ 4) (hp4 : kn = mk) (hS : zEq R V) (ha : ac = dn) (hr : re = rf) : ZE (fun (r : ((Nat → Nat → Int64) × Bool × (Nat → Int32) × (Nat → Int32) × Int32 × (Nat → Int32) × Int32 × Int32 × Int32 × (Nat → Int64) × Bool × Int32 × Int32 × Int32 × Int32 × Int64)) => zTm r.2.2.2.1 ∧ 0 ≤ r.2.2.2.2.1.toInt ∧ r.2.2.2.2.1.toInt ≤ 4 ∧ r.2.2.2.2.2.2.2.2.1 = r.2.2.2.2.2.2.2.2.2.2.2.2.2.1 ∧ zEq r.1 r.2.2.2.2.2.2.2.2.2.1 ∧ r.2.2.2.2.2.2.1 = r.2.2.2.2.2.2.2.2.2.2.2.1 ∧ r.2.2.2.2.2.2.2.1 = r.2.2.2.2.2.2.2.2.2.2.2.2.1) (p_law_0 F R b pr tm cn sm ac re kn V ib dn rf mk th xs i on) := by
  unfold p_law_0
  generalize xs (i + (1 : Int32)).toNatClampNeg = q1
  generalize xs (i + (2 : Int32)).toNatClampNeg = q2
  obtain ⟨⟨cd7, r7, R7, pr7, tm7, cn7, ac7⟩, ⟨r9, V9, dn9, th9⟩, e7, e9, hQ⟩ := zO_know F R pr tm cn ac q1 q2 V dn hS ha hp0
  dsimp only at hQ
  obtain ⟨hc, hq, u2, u3⟩ := hQ
  have hT := ZE_of (t_X7_know F R pr tm cn ac q1 q2 hp0 hp1 hp2 hp3) e7
  dsimp only at hT
  obtain ⟨g0, g1, g2, g3⟩ := hT
  rcases hc with ⟨rfl, rfl⟩ | ⟨rfl, rfl⟩ | ⟨rfl, rfl⟩
  · have hL : p_L_know F R pr tm cn ac q1 q2 on = some ((0 : Int32), r7.toInt64, R7, pr7, tm7, cn7, ac7) := by
      unfold p_L_know
      rw [e7]; rfl
    refine ZE_b7e hL ?_
    refine ZE_b4e e9 ?_
    exact ⟨_, rfl, by (dsimp only; (repeat' apply And.intro) <;> assumption)⟩
  · have hL : p_L_know F R pr tm cn ac q1 q2 on = some ((1 : Int32), on, R7, pr7, tm7, cn7, ac7) := by
      unfold p_L_know
      rw [e7]; rfl
    refine ZE_b7e hL ?_
    refine ZE_b4e e9 ?_
    exact ⟨_, rfl, by (dsimp only; (repeat' apply And.intro) <;> assumption)⟩
  · have hL : p_L_know F R pr tm cn ac q1 q2 on = some ((2 : Int32), on, R7, pr7, tm7, cn7, ac7) := by
      unfold p_L_know
      rw [e7]; rfl
    refine ZE_b7e hL ?_
    refine ZE_b4e e9 ?_
    exact ⟨_, rfl, by (dsimp only; (repeat' apply And.intro) <;> assumption)⟩

set_option maxHeartbeats 4000000 in
theorem t_law_1 (F : Nat) (R : Nat → Nat → Int64) (b : Bool) (pr : Nat → Int32) (tm : Nat → Int32) (cn : Int32) (sm : Nat → Int32) (ac : Int32) (re : Int32) (kn : Int32) (V : Nat → Int64) (ib : Bool) (dn : Int32) (rf : Int32) (mk : Int32) (th : Int32) (xs : Nat → Int32) (i : Int32) (on : Int64) (hp0 : 2000 ≤ F) (hp1 : zTm tm) (hp2 : 0 ≤ cn.toInt) (hp3 : cn.toInt ≤ 4) (hp4 : kn = mk) (hS : zEq R V) (ha : ac = dn) (hr : re = rf) : ZE (fun (r : ((Nat → Nat → Int64) × Bool × (Nat → Int32) × (Nat → Int32) × Int32 × (Nat → Int32) × Int32 × Int32 × Int32 × (Nat → Int64) × Bool × Int32 × Int32 × Int32 × Int32 × Int64)) => zTm r.2.2.2.1 ∧ 0 ≤ r.2.2.2.2.1.toInt ∧ r.2.2.2.2.1.toInt ≤ 4 ∧ r.2.2.2.2.2.2.2.2.1 = r.2.2.2.2.2.2.2.2.2.2.2.2.2.1 ∧ zEq r.1 r.2.2.2.2.2.2.2.2.2.1 ∧ r.2.2.2.2.2.2.1 = r.2.2.2.2.2.2.2.2.2.2.2.1 ∧ r.2.2.2.2.2.2.2.1 = r.2.2.2.2.2.2.2.2.2.2.2.2.1) (p_law_1 F R b pr tm cn sm ac re kn V ib dn rf mk th xs i on) := by
  unfold p_law_1
  generalize xs (i + (1 : Int32)).toNatClampNeg = q1
  generalize xs (i + (2 : Int32)).toNatClampNeg = q2
  generalize xs (i + (3 : Int32)).toNatClampNeg = q3
  obtain ⟨⟨cd7, r7, R7, ac7⟩, ⟨r9, V9, dn9, th9⟩, e7, e9, hQ⟩ := zO_put R ac q1 q2 q3 V dn hS ha
  dsimp only at hQ
  obtain ⟨hc, hq, u2, u3⟩ := hQ
  have hT := ZE_of (t_X7_put R ac q1 q2 q3 ) e7
  dsimp only at hT
  rcases hc with ⟨rfl, rfl⟩ | ⟨rfl, rfl⟩ | ⟨rfl, rfl⟩
  · have hL : p_L_put R ac q1 q2 q3 on = some ((0 : Int32), r7.toInt64, R7, ac7) := by
      unfold p_L_put
      rw [e7]; rfl
    refine ZE_b4e hL ?_
    refine ZE_b4e e9 ?_
    exact ⟨_, rfl, by (dsimp only; (repeat' apply And.intro) <;> assumption)⟩
  · have hL : p_L_put R ac q1 q2 q3 on = some ((1 : Int32), on, R7, ac7) := by
      unfold p_L_put
      rw [e7]; rfl
    refine ZE_b4e hL ?_
    refine ZE_b4e e9 ?_
    exact ⟨_, rfl, by (dsimp only; (repeat' apply And.intro) <;> assumption)⟩
  · have hL : p_L_put R ac q1 q2 q3 on = some ((2 : Int32), on, R7, ac7) := by
      unfold p_L_put
      rw [e7]; rfl
    refine ZE_b4e hL ?_
    refine ZE_b4e e9 ?_
    exact ⟨_, rfl, by (dsimp only; (repeat' apply And.intro) <;> assumption)⟩

set_option maxHeartbeats 4000000 in
theorem t_law_2 (F : Nat) (R : Nat → Nat → Int64) (b : Bool) (pr : Nat → Int32) (tm : Nat → Int32) (cn : Int32) (sm : Nat → Int32) (ac : Int32) (re : Int32) (kn : Int32) (V : Nat → Int64) (ib : Bool) (dn : Int32) (rf : Int32) (mk : Int32) (th : Int32) (xs : Nat → Int32) (i : Int32) (on : Int64) (hp0 : 2000 ≤ F) (hp1 : zTm tm) (hp2 : 0 ≤ cn.toInt) (hp3 : cn.toInt ≤ 4) (hp4 : kn = mk) (hS : zEq R V) (ha : ac = dn) (hr : re = rf) : ZE (fun (r : ((Nat → Nat → Int64) × Bool × (Nat → Int32) × (Nat → Int32) × Int32 × (Nat → Int32) × Int32 × Int32 × Int32 × (Nat → Int64) × Bool × Int32 × Int32 × Int32 × Int32 × Int64)) => zTm r.2.2.2.1 ∧ 0 ≤ r.2.2.2.2.1.toInt ∧ r.2.2.2.2.1.toInt ≤ 4 ∧ r.2.2.2.2.2.2.2.2.1 = r.2.2.2.2.2.2.2.2.2.2.2.2.2.1 ∧ zEq r.1 r.2.2.2.2.2.2.2.2.2.1 ∧ r.2.2.2.2.2.2.1 = r.2.2.2.2.2.2.2.2.2.2.2.1 ∧ r.2.2.2.2.2.2.2.1 = r.2.2.2.2.2.2.2.2.2.2.2.2.1) (p_law_2 F R b pr tm cn sm ac re kn V ib dn rf mk th xs i on) := by
  unfold p_law_2
  generalize xs (i + (1 : Int32)).toNatClampNeg = q1
  generalize xs (i + (2 : Int32)).toNatClampNeg = q2
  generalize xs (i + (3 : Int32)).toNatClampNeg = q3
  generalize xs (i + (4 : Int32)).toNatClampNeg = q4
  obtain ⟨⟨cd7, r7, R7, ac7⟩, ⟨r9, V9, dn9, th9⟩, e7, e9, hQ⟩ := zO_putWide R ac q1 q2 q3 q4 V dn hS ha
  dsimp only at hQ
  obtain ⟨hc, hq, u2, u3⟩ := hQ
  have hT := ZE_of (t_X7_putWide R ac q1 q2 q3 q4 ) e7
  dsimp only at hT
  rcases hc with ⟨rfl, rfl⟩ | ⟨rfl, rfl⟩ | ⟨rfl, rfl⟩
  · have hL : p_L_putWide R ac q1 q2 q3 q4 on = some ((0 : Int32), r7.toInt64, R7, ac7) := by
      unfold p_L_putWide
      rw [e7]; rfl
    refine ZE_b4e hL ?_
    refine ZE_b4e e9 ?_
    exact ⟨_, rfl, by (dsimp only; (repeat' apply And.intro) <;> assumption)⟩
  · have hL : p_L_putWide R ac q1 q2 q3 q4 on = some ((1 : Int32), on, R7, ac7) := by
      unfold p_L_putWide
      rw [e7]; rfl
    refine ZE_b4e hL ?_
    refine ZE_b4e e9 ?_
    exact ⟨_, rfl, by (dsimp only; (repeat' apply And.intro) <;> assumption)⟩
  · have hL : p_L_putWide R ac q1 q2 q3 q4 on = some ((2 : Int32), on, R7, ac7) := by
      unfold p_L_putWide
      rw [e7]; rfl
    refine ZE_b4e hL ?_
    refine ZE_b4e e9 ?_
    exact ⟨_, rfl, by (dsimp only; (repeat' apply And.intro) <;> assumption)⟩

set_option maxHeartbeats 4000000 in
theorem t_law_3 (F : Nat) (R : Nat → Nat → Int64) (b : Bool) (pr : Nat → Int32) (tm : Nat → Int32) (cn : Int32) (sm : Nat → Int32) (ac : Int32) (re : Int32) (kn : Int32) (V : Nat → Int64) (ib : Bool) (dn : Int32) (rf : Int32) (mk : Int32) (th : Int32) (xs : Nat → Int32) (i : Int32) (on : Int64) (hp0 : 2000 ≤ F) (hp1 : zTm tm) (hp2 : 0 ≤ cn.toInt) (hp3 : cn.toInt ≤ 4) (hp4 : kn = mk) (hS : zEq R V) (ha : ac = dn) (hr : re = rf) : ZE (fun (r : ((Nat → Nat → Int64) × Bool × (Nat → Int32) × (Nat → Int32) × Int32 × (Nat → Int32) × Int32 × Int32 × Int32 × (Nat → Int64) × Bool × Int32 × Int32 × Int32 × Int32 × Int64)) => zTm r.2.2.2.1 ∧ 0 ≤ r.2.2.2.2.1.toInt ∧ r.2.2.2.2.1.toInt ≤ 4 ∧ r.2.2.2.2.2.2.2.2.1 = r.2.2.2.2.2.2.2.2.2.2.2.2.2.1 ∧ zEq r.1 r.2.2.2.2.2.2.2.2.2.1 ∧ r.2.2.2.2.2.2.1 = r.2.2.2.2.2.2.2.2.2.2.2.1 ∧ r.2.2.2.2.2.2.2.1 = r.2.2.2.2.2.2.2.2.2.2.2.2.1) (p_law_3 F R b pr tm cn sm ac re kn V ib dn rf mk th xs i on) := by
  unfold p_law_3
  generalize xs (i + (1 : Int32)).toNatClampNeg = q1
  generalize xs (i + (2 : Int32)).toNatClampNeg = q2
  generalize xs (i + (3 : Int32)).toNatClampNeg = q3
  obtain ⟨⟨cd7, r7, R7, ac7⟩, ⟨r9, V9, dn9, th9⟩, e7, e9, hQ⟩ := zO_sow F R ac q1 q2 q3 V dn hS ha hp0
  dsimp only at hQ
  obtain ⟨hc, hq, u2, u3⟩ := hQ
  have hT := ZE_of (t_X7_sow F R ac q1 q2 q3 hp0) e7
  dsimp only at hT
  rcases hc with ⟨rfl, rfl⟩ | ⟨rfl, rfl⟩ | ⟨rfl, rfl⟩
  · have hL : p_L_sow F R ac q1 q2 q3 on = some ((0 : Int32), r7.toInt64, R7, ac7) := by
      unfold p_L_sow
      rw [e7]; rfl
    refine ZE_b4e hL ?_
    refine ZE_b4e e9 ?_
    exact ⟨_, rfl, by (dsimp only; (repeat' apply And.intro) <;> assumption)⟩
  · have hL : p_L_sow F R ac q1 q2 q3 on = some ((1 : Int32), on, R7, ac7) := by
      unfold p_L_sow
      rw [e7]; rfl
    refine ZE_b4e hL ?_
    refine ZE_b4e e9 ?_
    exact ⟨_, rfl, by (dsimp only; (repeat' apply And.intro) <;> assumption)⟩
  · have hL : p_L_sow F R ac q1 q2 q3 on = some ((2 : Int32), on, R7, ac7) := by
      unfold p_L_sow
      rw [e7]; rfl
    refine ZE_b4e hL ?_
    refine ZE_b4e e9 ?_
    exact ⟨_, rfl, by (dsimp only; (repeat' apply And.intro) <;> assumption)⟩

set_option maxHeartbeats 4000000 in
theorem t_law_4 (F : Nat) (R : Nat → Nat → Int64) (b : Bool) (pr : Nat → Int32) (tm : Nat → Int32) (cn : Int32) (sm : Nat → Int32) (ac : Int32) (re : Int32) (kn : Int32) (V : Nat → Int64) (ib : Bool) (dn : Int32) (rf : Int32) (mk : Int32) (th : Int32) (xs : Nat → Int32) (i : Int32) (on : Int64) (hp0 : 2000 ≤ F) (hp1 : zTm tm) (hp2 : 0 ≤ cn.toInt) (hp3 : cn.toInt ≤ 4) (hp4 : kn = mk) (hS : zEq R V) (ha : ac = dn) (hr : re = rf) : ZE (fun (r : ((Nat → Nat → Int64) × Bool × (Nat → Int32) × (Nat → Int32) × Int32 × (Nat → Int32) × Int32 × Int32 × Int32 × (Nat → Int64) × Bool × Int32 × Int32 × Int32 × Int32 × Int64)) => zTm r.2.2.2.1 ∧ 0 ≤ r.2.2.2.2.1.toInt ∧ r.2.2.2.2.1.toInt ≤ 4 ∧ r.2.2.2.2.2.2.2.2.1 = r.2.2.2.2.2.2.2.2.2.2.2.2.2.1 ∧ zEq r.1 r.2.2.2.2.2.2.2.2.2.1 ∧ r.2.2.2.2.2.2.1 = r.2.2.2.2.2.2.2.2.2.2.2.1 ∧ r.2.2.2.2.2.2.2.1 = r.2.2.2.2.2.2.2.2.2.2.2.2.1) (p_law_4 F R b pr tm cn sm ac re kn V ib dn rf mk th xs i on) := by
  unfold p_law_4
  generalize xs (i + (1 : Int32)).toNatClampNeg = q1
  generalize xs (i + (2 : Int32)).toNatClampNeg = q2
  obtain ⟨⟨cd7, r7, R7, ac7⟩, ⟨r9, V9, dn9, th9⟩, e7, e9, hQ⟩ := zO_copy F R ac q1 q2 V dn hS ha hp0
  dsimp only at hQ
  obtain ⟨hc, hq, u2, u3⟩ := hQ
  have hT := ZE_of (t_X7_copy F R ac q1 q2 hp0) e7
  dsimp only at hT
  rcases hc with ⟨rfl, rfl⟩ | ⟨rfl, rfl⟩ | ⟨rfl, rfl⟩
  · have hL : p_L_copy F R ac q1 q2 on = some ((0 : Int32), r7.toInt64, R7, ac7) := by
      unfold p_L_copy
      rw [e7]; rfl
    refine ZE_b4e hL ?_
    refine ZE_b4e e9 ?_
    exact ⟨_, rfl, by (dsimp only; (repeat' apply And.intro) <;> assumption)⟩
  · have hL : p_L_copy F R ac q1 q2 on = some ((1 : Int32), on, R7, ac7) := by
      unfold p_L_copy
      rw [e7]; rfl
    refine ZE_b4e hL ?_
    refine ZE_b4e e9 ?_
    exact ⟨_, rfl, by (dsimp only; (repeat' apply And.intro) <;> assumption)⟩
  · have hL : p_L_copy F R ac q1 q2 on = some ((2 : Int32), on, R7, ac7) := by
      unfold p_L_copy
      rw [e7]; rfl
    refine ZE_b4e hL ?_
    refine ZE_b4e e9 ?_
    exact ⟨_, rfl, by (dsimp only; (repeat' apply And.intro) <;> assumption)⟩

set_option maxHeartbeats 4000000 in
theorem t_law_5 (F : Nat) (R : Nat → Nat → Int64) (b : Bool) (pr : Nat → Int32) (tm : Nat → Int32) (cn : Int32) (sm : Nat → Int32) (ac : Int32) (re : Int32) (kn : Int32) (V : Nat → Int64) (ib : Bool) (dn : Int32) (rf : Int32) (mk : Int32) (th : Int32) (xs : Nat → Int32) (i : Int32) (on : Int64) (hp0 : 2000 ≤ F) (hp1 : zTm tm) (hp2 : 0 ≤ cn.toInt) (hp3 : cn.toInt ≤ 4) (hp4 : kn = mk) (hS : zEq R V) (ha : ac = dn) (hr : re = rf) : ZE (fun (r : ((Nat → Nat → Int64) × Bool × (Nat → Int32) × (Nat → Int32) × Int32 × (Nat → Int32) × Int32 × Int32 × Int32 × (Nat → Int64) × Bool × Int32 × Int32 × Int32 × Int32 × Int64)) => zTm r.2.2.2.1 ∧ 0 ≤ r.2.2.2.2.1.toInt ∧ r.2.2.2.2.1.toInt ≤ 4 ∧ r.2.2.2.2.2.2.2.2.1 = r.2.2.2.2.2.2.2.2.2.2.2.2.2.1 ∧ zEq r.1 r.2.2.2.2.2.2.2.2.2.1 ∧ r.2.2.2.2.2.2.1 = r.2.2.2.2.2.2.2.2.2.2.2.1 ∧ r.2.2.2.2.2.2.2.1 = r.2.2.2.2.2.2.2.2.2.2.2.2.1) (p_law_5 F R b pr tm cn sm ac re kn V ib dn rf mk th xs i on) := by
  unfold p_law_5
  generalize xs (i + (1 : Int32)).toNatClampNeg = q1
  generalize xs (i + (2 : Int32)).toNatClampNeg = q2
  obtain ⟨⟨cd7, r7, R7, ac7⟩, ⟨r9, V9, dn9, th9⟩, e7, e9, hQ⟩ := zO_swap F R ac q1 q2 V dn hS ha hp0
  dsimp only at hQ
  obtain ⟨hc, hq, u2, u3⟩ := hQ
  have hT := ZE_of (t_X7_swap F R ac q1 q2 hp0) e7
  dsimp only at hT
  rcases hc with ⟨rfl, rfl⟩ | ⟨rfl, rfl⟩ | ⟨rfl, rfl⟩
  · have hL : p_L_swap F R ac q1 q2 on = some ((0 : Int32), r7.toInt64, R7, ac7) := by
      unfold p_L_swap
      rw [e7]; rfl
    refine ZE_b4e hL ?_
    refine ZE_b4e e9 ?_
    exact ⟨_, rfl, by (dsimp only; (repeat' apply And.intro) <;> assumption)⟩
  · have hL : p_L_swap F R ac q1 q2 on = some ((1 : Int32), on, R7, ac7) := by
      unfold p_L_swap
      rw [e7]; rfl
    refine ZE_b4e hL ?_
    refine ZE_b4e e9 ?_
    exact ⟨_, rfl, by (dsimp only; (repeat' apply And.intro) <;> assumption)⟩
  · have hL : p_L_swap F R ac q1 q2 on = some ((2 : Int32), on, R7, ac7) := by
      unfold p_L_swap
      rw [e7]; rfl
    refine ZE_b4e hL ?_
    refine ZE_b4e e9 ?_
    exact ⟨_, rfl, by (dsimp only; (repeat' apply And.intro) <;> assumption)⟩

set_option maxHeartbeats 4000000 in
theorem t_law_6 (F : Nat) (R : Nat → Nat → Int64) (b : Bool) (pr : Nat → Int32) (tm : Nat → Int32) (cn : Int32) (sm : Nat → Int32) (ac : Int32) (re : Int32) (kn : Int32) (V : Nat → Int64) (ib : Bool) (dn : Int32) (rf : Int32) (mk : Int32) (th : Int32) (xs : Nat → Int32) (i : Int32) (on : Int64) (hp0 : 2000 ≤ F) (hp1 : zTm tm) (hp2 : 0 ≤ cn.toInt) (hp3 : cn.toInt ≤ 4) (hp4 : kn = mk) (hS : zEq R V) (ha : ac = dn) (hr : re = rf) : ZE (fun (r : ((Nat → Nat → Int64) × Bool × (Nat → Int32) × (Nat → Int32) × Int32 × (Nat → Int32) × Int32 × Int32 × Int32 × (Nat → Int64) × Bool × Int32 × Int32 × Int32 × Int32 × Int64)) => zTm r.2.2.2.1 ∧ 0 ≤ r.2.2.2.2.1.toInt ∧ r.2.2.2.2.1.toInt ≤ 4 ∧ r.2.2.2.2.2.2.2.2.1 = r.2.2.2.2.2.2.2.2.2.2.2.2.2.1 ∧ zEq r.1 r.2.2.2.2.2.2.2.2.2.1 ∧ r.2.2.2.2.2.2.1 = r.2.2.2.2.2.2.2.2.2.2.2.1 ∧ r.2.2.2.2.2.2.2.1 = r.2.2.2.2.2.2.2.2.2.2.2.2.1) (p_law_6 F R b pr tm cn sm ac re kn V ib dn rf mk th xs i on) := by
  unfold p_law_6
  generalize xs (i + (1 : Int32)).toNatClampNeg = q1
  generalize xs (i + (2 : Int32)).toNatClampNeg = q2
  generalize xs (i + (3 : Int32)).toNatClampNeg = q3
  generalize xs (i + (4 : Int32)).toNatClampNeg = q4
  obtain ⟨⟨cd7, r7, R7, b7, ac7, re7⟩, ⟨r9, V9, ib9, dn9, rf9, th9⟩, e7, e9, hQ⟩ := zO_meet F R b ac re q1 q2 q3 q4 V ib dn rf hS ha hr hp0
  dsimp only at hQ
  obtain ⟨hc, hq, u2, u3, u4⟩ := hQ
  have hT := ZE_of (t_X7_meet F R b ac re q1 q2 q3 q4 hp0) e7
  dsimp only at hT
  rcases hc with ⟨rfl, rfl⟩ | ⟨rfl, rfl⟩ | ⟨rfl, rfl⟩
  · have hL : p_L_meet F R b ac re q1 q2 q3 q4 on = some ((0 : Int32), r7.toInt64, R7, b7, ac7, re7) := by
      unfold p_L_meet
      rw [e7]; rfl
    refine ZE_b6e hL ?_
    refine ZE_b6e e9 ?_
    exact ⟨_, rfl, by (dsimp only; (repeat' apply And.intro) <;> assumption)⟩
  · have hL : p_L_meet F R b ac re q1 q2 q3 q4 on = some ((1 : Int32), on, R7, b7, ac7, re7) := by
      unfold p_L_meet
      rw [e7]; rfl
    refine ZE_b6e hL ?_
    refine ZE_b6e e9 ?_
    exact ⟨_, rfl, by (dsimp only; (repeat' apply And.intro) <;> assumption)⟩
  · have hL : p_L_meet F R b ac re q1 q2 q3 q4 on = some ((2 : Int32), on, R7, b7, ac7, re7) := by
      unfold p_L_meet
      rw [e7]; rfl
    refine ZE_b6e hL ?_
    refine ZE_b6e e9 ?_
    exact ⟨_, rfl, by (dsimp only; (repeat' apply And.intro) <;> assumption)⟩

set_option maxHeartbeats 4000000 in
theorem t_law_7 (F : Nat) (R : Nat → Nat → Int64) (b : Bool) (pr : Nat → Int32) (tm : Nat → Int32) (cn : Int32) (sm : Nat → Int32) (ac : Int32) (re : Int32) (kn : Int32) (V : Nat → Int64) (ib : Bool) (dn : Int32) (rf : Int32) (mk : Int32) (th : Int32) (xs : Nat → Int32) (i : Int32) (on : Int64) (hp0 : 2000 ≤ F) (hp1 : zTm tm) (hp2 : 0 ≤ cn.toInt) (hp3 : cn.toInt ≤ 4) (hp4 : kn = mk) (hS : zEq R V) (ha : ac = dn) (hr : re = rf) : ZE (fun (r : ((Nat → Nat → Int64) × Bool × (Nat → Int32) × (Nat → Int32) × Int32 × (Nat → Int32) × Int32 × Int32 × Int32 × (Nat → Int64) × Bool × Int32 × Int32 × Int32 × Int32 × Int64)) => zTm r.2.2.2.1 ∧ 0 ≤ r.2.2.2.2.1.toInt ∧ r.2.2.2.2.1.toInt ≤ 4 ∧ r.2.2.2.2.2.2.2.2.1 = r.2.2.2.2.2.2.2.2.2.2.2.2.2.1 ∧ zEq r.1 r.2.2.2.2.2.2.2.2.2.1 ∧ r.2.2.2.2.2.2.1 = r.2.2.2.2.2.2.2.2.2.2.2.1 ∧ r.2.2.2.2.2.2.2.1 = r.2.2.2.2.2.2.2.2.2.2.2.2.1) (p_law_7 F R b pr tm cn sm ac re kn V ib dn rf mk th xs i on) := by
  unfold p_law_7
  generalize xs (i + (1 : Int32)).toNatClampNeg = q1
  generalize xs (i + (2 : Int32)).toNatClampNeg = q2
  generalize xs (i + (3 : Int32)).toNatClampNeg = q3
  obtain ⟨⟨cd7, r7, R7, b7, ac7, re7⟩, ⟨r9, V9, ib9, dn9, rf9, th9⟩, e7, e9, hQ⟩ := zO_multiply F R b ac re q1 q2 q3 V ib dn rf hS ha hr hp0
  dsimp only at hQ
  obtain ⟨hc, hq, u2, u3, u4⟩ := hQ
  have hT := ZE_of (t_X7_multiply F R b ac re q1 q2 q3 hp0) e7
  dsimp only at hT
  rcases hc with ⟨rfl, rfl⟩ | ⟨rfl, rfl⟩ | ⟨rfl, rfl⟩
  · have hL : p_L_multiply F R b ac re q1 q2 q3 on = some ((0 : Int32), r7.toInt64, R7, b7, ac7, re7) := by
      unfold p_L_multiply
      rw [e7]; rfl
    refine ZE_b6e hL ?_
    refine ZE_b6e e9 ?_
    exact ⟨_, rfl, by (dsimp only; (repeat' apply And.intro) <;> assumption)⟩
  · have hL : p_L_multiply F R b ac re q1 q2 q3 on = some ((1 : Int32), on, R7, b7, ac7, re7) := by
      unfold p_L_multiply
      rw [e7]; rfl
    refine ZE_b6e hL ?_
    refine ZE_b6e e9 ?_
    exact ⟨_, rfl, by (dsimp only; (repeat' apply And.intro) <;> assumption)⟩
  · have hL : p_L_multiply F R b ac re q1 q2 q3 on = some ((2 : Int32), on, R7, b7, ac7, re7) := by
      unfold p_L_multiply
      rw [e7]; rfl
    refine ZE_b6e hL ?_
    refine ZE_b6e e9 ?_
    exact ⟨_, rfl, by (dsimp only; (repeat' apply And.intro) <;> assumption)⟩

set_option maxHeartbeats 4000000 in
theorem t_law_8 (F : Nat) (R : Nat → Nat → Int64) (b : Bool) (pr : Nat → Int32) (tm : Nat → Int32) (cn : Int32) (sm : Nat → Int32) (ac : Int32) (re : Int32) (kn : Int32) (V : Nat → Int64) (ib : Bool) (dn : Int32) (rf : Int32) (mk : Int32) (th : Int32) (xs : Nat → Int32) (i : Int32) (on : Int64) (hp0 : 2000 ≤ F) (hp1 : zTm tm) (hp2 : 0 ≤ cn.toInt) (hp3 : cn.toInt ≤ 4) (hp4 : kn = mk) (hS : zEq R V) (ha : ac = dn) (hr : re = rf) : ZE (fun (r : ((Nat → Nat → Int64) × Bool × (Nat → Int32) × (Nat → Int32) × Int32 × (Nat → Int32) × Int32 × Int32 × Int32 × (Nat → Int64) × Bool × Int32 × Int32 × Int32 × Int32 × Int64)) => zTm r.2.2.2.1 ∧ 0 ≤ r.2.2.2.2.1.toInt ∧ r.2.2.2.2.1.toInt ≤ 4 ∧ r.2.2.2.2.2.2.2.2.1 = r.2.2.2.2.2.2.2.2.2.2.2.2.2.1 ∧ zEq r.1 r.2.2.2.2.2.2.2.2.2.1 ∧ r.2.2.2.2.2.2.1 = r.2.2.2.2.2.2.2.2.2.2.2.1 ∧ r.2.2.2.2.2.2.2.1 = r.2.2.2.2.2.2.2.2.2.2.2.2.1) (p_law_8 F R b pr tm cn sm ac re kn V ib dn rf mk th xs i on) := by
  unfold p_law_8
  generalize xs (i + (1 : Int32)).toNatClampNeg = q1
  generalize xs (i + (2 : Int32)).toNatClampNeg = q2
  generalize xs (i + (3 : Int32)).toNatClampNeg = q3
  obtain ⟨⟨cd7, r7, R7, b7, pr7, tm7, cn7, ac7, re7⟩, ⟨r9, V9, ib9, dn9, rf9, th9⟩, e7, e9, hQ⟩ := zO_make F R b pr tm cn ac re q1 q2 q3 V ib dn rf hS ha hr hp0
  dsimp only at hQ
  obtain ⟨hc, hq, u2, u3, u4⟩ := hQ
  have hT := ZE_of (t_X7_make F R b pr tm cn ac re q1 q2 q3 hp0 hp1 hp2 hp3) e7
  dsimp only at hT
  obtain ⟨g0, g1, g2, g3⟩ := hT
  rcases hc with ⟨rfl, rfl⟩ | ⟨rfl, rfl⟩ | ⟨rfl, rfl⟩
  · have hL : p_L_make F R b pr tm cn ac re q1 q2 q3 on = some ((0 : Int32), r7.toInt64, R7, b7, pr7, tm7, cn7, ac7, re7) := by
      unfold p_L_make
      rw [e7]; rfl
    refine ZE_b9e hL ?_
    refine ZE_b6e e9 ?_
    exact ⟨_, rfl, by (dsimp only; (repeat' apply And.intro) <;> assumption)⟩
  · have hL : p_L_make F R b pr tm cn ac re q1 q2 q3 on = some ((1 : Int32), on, R7, b7, pr7, tm7, cn7, ac7, re7) := by
      unfold p_L_make
      rw [e7]; rfl
    refine ZE_b9e hL ?_
    refine ZE_b6e e9 ?_
    exact ⟨_, rfl, by (dsimp only; (repeat' apply And.intro) <;> assumption)⟩
  · have hL : p_L_make F R b pr tm cn ac re q1 q2 q3 on = some ((2 : Int32), on, R7, b7, pr7, tm7, cn7, ac7, re7) := by
      unfold p_L_make
      rw [e7]; rfl
    refine ZE_b9e hL ?_
    refine ZE_b6e e9 ?_
    exact ⟨_, rfl, by (dsimp only; (repeat' apply And.intro) <;> assumption)⟩

set_option maxHeartbeats 4000000 in
theorem t_law_10 (F : Nat) (R : Nat → Nat → Int64) (b : Bool) (pr : Nat → Int32) (tm : Nat → Int32) (cn : Int32) (sm : Nat → Int32) (ac : Int32) (re : Int32) (kn : Int32) (V : Nat → Int64) (ib : Bool) (dn : Int32) (rf : Int32) (mk : Int32) (th : Int32) (xs : Nat → Int32) (i : Int32) (on : Int64) (hp0 : 2000 ≤ F) (hp1 : zTm tm) (hp2 : 0 ≤ cn.toInt) (hp3 : cn.toInt ≤ 4) (hp4 : kn = mk) (hS : zEq R V) (ha : ac = dn) (hr : re = rf) : ZE (fun (r : ((Nat → Nat → Int64) × Bool × (Nat → Int32) × (Nat → Int32) × Int32 × (Nat → Int32) × Int32 × Int32 × Int32 × (Nat → Int64) × Bool × Int32 × Int32 × Int32 × Int32 × Int64)) => zTm r.2.2.2.1 ∧ 0 ≤ r.2.2.2.2.1.toInt ∧ r.2.2.2.2.1.toInt ≤ 4 ∧ r.2.2.2.2.2.2.2.2.1 = r.2.2.2.2.2.2.2.2.2.2.2.2.2.1 ∧ zEq r.1 r.2.2.2.2.2.2.2.2.2.1 ∧ r.2.2.2.2.2.2.1 = r.2.2.2.2.2.2.2.2.2.2.2.1 ∧ r.2.2.2.2.2.2.2.1 = r.2.2.2.2.2.2.2.2.2.2.2.2.1) (p_law_10 F R b pr tm cn sm ac re kn V ib dn rf mk th xs i on) := by
  unfold p_law_10
  generalize xs (i + (1 : Int32)).toNatClampNeg = q1
  generalize xs (i + (2 : Int32)).toNatClampNeg = q2
  generalize xs (i + (3 : Int32)).toNatClampNeg = q3
  refine ZE_lta (ZE_if (fun h3 => ?_) (fun h3 => ?_))
  · obtain ⟨⟨cd7, r7⟩, ⟨r9, th9⟩, e7, e9, hQ⟩ := zO_half R q1 q2 false V hS
    dsimp only at hQ
    obtain ⟨hc, hq⟩ := hQ
    rcases hc with ⟨rfl, rfl⟩ | ⟨rfl, rfl⟩ | ⟨rfl, rfl⟩
    · have hL : p_L_half R q1 q2 false on = some ((0 : Int32), r7.toInt64) := by
        unfold p_L_half
        rw [e7]; rfl
      refine ZE_b2e hL ?_
      refine ZE_if (fun _ => ?_) (fun c => absurd h3 c)
      refine ZE_b2e e9 ?_
      refine ZE_b1 (t_X9_thrown _) (fun r8 h => ?_)
      subst h
      refine ZE_if (fun _ => ?_) (fun c => absurd rfl c)
      refine ZE_if (fun c => absurd rfl c) (fun _ => ?_)
      refine ZE_if (fun _ => ?_) (fun c => absurd (by rw [hq rfl]; exact zlc0 _) c)
      exact ⟨_, rfl, by (dsimp only; (repeat' apply And.intro) <;> assumption)⟩
    · have hL : p_L_half R q1 q2 false on = some ((1 : Int32), on) := by
        unfold p_L_half
        rw [e7]; rfl
      refine ZE_b2e hL ?_
      refine ZE_if (fun _ => ?_) (fun c => absurd h3 c)
      refine ZE_b2e e9 ?_
      refine ZE_b1 (t_X9_thrown _) (fun r8 h => ?_)
      subst h
      refine ZE_if (fun _ => ?_) (fun c => absurd rfl c)
      refine ZE_if (fun _ => ?_) (fun c => absurd (show ¬ (1 : Int32) = 0 by decide) c)
      exact ⟨_, rfl, by (dsimp only; (repeat' apply And.intro) <;> assumption)⟩
    · have hL : p_L_half R q1 q2 false on = some ((2 : Int32), on) := by
        unfold p_L_half
        rw [e7]; rfl
      refine ZE_b2e hL ?_
      refine ZE_if (fun _ => ?_) (fun c => absurd h3 c)
      refine ZE_b2e e9 ?_
      refine ZE_b1 (t_X9_thrown _) (fun r8 h => ?_)
      subst h
      refine ZE_if (fun _ => ?_) (fun c => absurd rfl c)
      refine ZE_if (fun _ => ?_) (fun c => absurd (show ¬ (2 : Int32) = 0 by decide) c)
      exact ⟨_, rfl, by (dsimp only; (repeat' apply And.intro) <;> assumption)⟩
  · obtain ⟨⟨cd7, r7⟩, ⟨r9, th9⟩, e7, e9, hQ⟩ := zO_half R q1 q2 true V hS
    dsimp only at hQ
    obtain ⟨hc, hq⟩ := hQ
    rcases hc with ⟨rfl, rfl⟩ | ⟨rfl, rfl⟩ | ⟨rfl, rfl⟩
    · have hL : p_L_half R q1 q2 true on = some ((0 : Int32), r7.toInt64) := by
        unfold p_L_half
        rw [e7]; rfl
      refine ZE_b2e hL ?_
      refine ZE_if (fun c => absurd c h3) (fun _ => ?_)
      refine ZE_b2e e9 ?_
      refine ZE_b1 (t_X9_thrown _) (fun r8 h => ?_)
      subst h
      refine ZE_if (fun _ => ?_) (fun c => absurd rfl c)
      refine ZE_if (fun c => absurd rfl c) (fun _ => ?_)
      refine ZE_if (fun _ => ?_) (fun c => absurd (by rw [hq rfl]; exact zlc0 _) c)
      exact ⟨_, rfl, by (dsimp only; (repeat' apply And.intro) <;> assumption)⟩
    · have hL : p_L_half R q1 q2 true on = some ((1 : Int32), on) := by
        unfold p_L_half
        rw [e7]; rfl
      refine ZE_b2e hL ?_
      refine ZE_if (fun c => absurd c h3) (fun _ => ?_)
      refine ZE_b2e e9 ?_
      refine ZE_b1 (t_X9_thrown _) (fun r8 h => ?_)
      subst h
      refine ZE_if (fun _ => ?_) (fun c => absurd rfl c)
      refine ZE_if (fun _ => ?_) (fun c => absurd (show ¬ (1 : Int32) = 0 by decide) c)
      exact ⟨_, rfl, by (dsimp only; (repeat' apply And.intro) <;> assumption)⟩
    · have hL : p_L_half R q1 q2 true on = some ((2 : Int32), on) := by
        unfold p_L_half
        rw [e7]; rfl
      refine ZE_b2e hL ?_
      refine ZE_if (fun c => absurd c h3) (fun _ => ?_)
      refine ZE_b2e e9 ?_
      refine ZE_b1 (t_X9_thrown _) (fun r8 h => ?_)
      subst h
      refine ZE_if (fun _ => ?_) (fun c => absurd rfl c)
      refine ZE_if (fun _ => ?_) (fun c => absurd (show ¬ (2 : Int32) = 0 by decide) c)
      exact ⟨_, rfl, by (dsimp only; (repeat' apply And.intro) <;> assumption)⟩

set_option maxHeartbeats 4000000 in
theorem t_law_11 (F : Nat) (R : Nat → Nat → Int64) (b : Bool) (pr : Nat → Int32) (tm : Nat → Int32) (cn : Int32) (sm : Nat → Int32) (ac : Int32) (re : Int32) (kn : Int32) (V : Nat → Int64) (ib : Bool) (dn : Int32) (rf : Int32) (mk : Int32) (th : Int32) (xs : Nat → Int32) (i : Int32) (on : Int64) (hp0 : 2000 ≤ F) (hp1 : zTm tm) (hp2 : 0 ≤ cn.toInt) (hp3 : cn.toInt ≤ 4) (hp4 : kn = mk) (hS : zEq R V) (ha : ac = dn) (hr : re = rf) : ZE (fun (r : ((Nat → Nat → Int64) × Bool × (Nat → Int32) × (Nat → Int32) × Int32 × (Nat → Int32) × Int32 × Int32 × Int32 × (Nat → Int64) × Bool × Int32 × Int32 × Int32 × Int32 × Int64)) => zTm r.2.2.2.1 ∧ 0 ≤ r.2.2.2.2.1.toInt ∧ r.2.2.2.2.1.toInt ≤ 4 ∧ r.2.2.2.2.2.2.2.2.1 = r.2.2.2.2.2.2.2.2.2.2.2.2.2.1 ∧ zEq r.1 r.2.2.2.2.2.2.2.2.2.1 ∧ r.2.2.2.2.2.2.1 = r.2.2.2.2.2.2.2.2.2.2.2.1 ∧ r.2.2.2.2.2.2.2.1 = r.2.2.2.2.2.2.2.2.2.2.2.2.1) (p_law_11 F R b pr tm cn sm ac re kn V ib dn rf mk th xs i on) := by
  unfold p_law_11
  generalize xs (i + (1 : Int32)).toNatClampNeg = q1
  generalize xs (i + (2 : Int32)).toNatClampNeg = q2
  obtain ⟨⟨cd7, r7, R7, b7, pr7, tm7, cn7, sm7, ac7, re7, kn7⟩, ⟨r9, V9, ib9, dn9, rf9, mk9, th9⟩, e7, e9, hQ⟩ := zO_differ F R b pr tm cn sm ac re kn q1 q2 V ib dn rf mk hS ha hr hp4 hp0
  dsimp only at hQ
  obtain ⟨hc, hq, u2, u3, u4, u5⟩ := hQ
  have hT := ZE_of (t_X7_differ F R b pr tm cn sm ac re kn q1 q2 hp0 hp1 hp2 hp3) e7
  dsimp only at hT
  obtain ⟨g0, g1, g2, g3, g4⟩ := hT
  rcases hc with ⟨rfl, rfl⟩ | ⟨rfl, rfl⟩ | ⟨rfl, rfl⟩
  · have hL : p_L_differ F R b pr tm cn sm ac re kn q1 q2 on = some ((0 : Int32), r7.toInt64, R7, b7, pr7, tm7, cn7, sm7, ac7, re7, kn7) := by
      unfold p_L_differ
      rw [e7]; rfl
    refine ZE_b11e hL ?_
    refine ZE_b7e e9 ?_
    exact ⟨_, rfl, by (dsimp only; (repeat' apply And.intro) <;> assumption)⟩
  · have hL : p_L_differ F R b pr tm cn sm ac re kn q1 q2 on = some ((1 : Int32), on, R7, b7, pr7, tm7, cn7, sm7, ac7, re7, kn7) := by
      unfold p_L_differ
      rw [e7]; rfl
    refine ZE_b11e hL ?_
    refine ZE_b7e e9 ?_
    exact ⟨_, rfl, by (dsimp only; (repeat' apply And.intro) <;> assumption)⟩
  · have hL : p_L_differ F R b pr tm cn sm ac re kn q1 q2 on = some ((2 : Int32), on, R7, b7, pr7, tm7, cn7, sm7, ac7, re7, kn7) := by
      unfold p_L_differ
      rw [e7]; rfl
    refine ZE_b11e hL ?_
    refine ZE_b7e e9 ?_
    exact ⟨_, rfl, by (dsimp only; (repeat' apply And.intro) <;> assumption)⟩

set_option maxHeartbeats 4000000 in
theorem t_law_12 (F : Nat) (R : Nat → Nat → Int64) (b : Bool) (pr : Nat → Int32) (tm : Nat → Int32) (cn : Int32) (sm : Nat → Int32) (ac : Int32) (re : Int32) (kn : Int32) (V : Nat → Int64) (ib : Bool) (dn : Int32) (rf : Int32) (mk : Int32) (th : Int32) (xs : Nat → Int32) (i : Int32) (on : Int64) (hp0 : 2000 ≤ F) (hp1 : zTm tm) (hp2 : 0 ≤ cn.toInt) (hp3 : cn.toInt ≤ 4) (hp4 : kn = mk) (hS : zEq R V) (ha : ac = dn) (hr : re = rf) : ZE (fun (r : ((Nat → Nat → Int64) × Bool × (Nat → Int32) × (Nat → Int32) × Int32 × (Nat → Int32) × Int32 × Int32 × Int32 × (Nat → Int64) × Bool × Int32 × Int32 × Int32 × Int32 × Int64)) => zTm r.2.2.2.1 ∧ 0 ≤ r.2.2.2.2.1.toInt ∧ r.2.2.2.2.1.toInt ≤ 4 ∧ r.2.2.2.2.2.2.2.2.1 = r.2.2.2.2.2.2.2.2.2.2.2.2.2.1 ∧ zEq r.1 r.2.2.2.2.2.2.2.2.2.1 ∧ r.2.2.2.2.2.2.1 = r.2.2.2.2.2.2.2.2.2.2.2.1 ∧ r.2.2.2.2.2.2.2.1 = r.2.2.2.2.2.2.2.2.2.2.2.2.1) (p_law_12 F R b pr tm cn sm ac re kn V ib dn rf mk th xs i on) := by
  unfold p_law_12
  generalize xs (i + (1 : Int32)).toNatClampNeg = q1
  generalize xs (i + (2 : Int32)).toNatClampNeg = q2
  obtain ⟨⟨cd7, r7, R7, b7, pr7, tm7, cn7, sm7, ac7, re7, kn7⟩, ⟨r9, V9, ib9, dn9, rf9, mk9, th9⟩, e7, e9, hQ⟩ := zO_is F R b pr tm cn sm ac re kn q1 q2 V ib dn rf mk hS ha hr hp4 hp0
  dsimp only at hQ
  obtain ⟨hc, hq, u2, u3, u4, u5⟩ := hQ
  have hT := ZE_of (t_X7_is F R b pr tm cn sm ac re kn q1 q2 hp0 hp1 hp2 hp3) e7
  dsimp only at hT
  obtain ⟨g0, g1, g2, g3, g4⟩ := hT
  rcases hc with ⟨rfl, rfl⟩ | ⟨rfl, rfl⟩ | ⟨rfl, rfl⟩
  · have hL : p_L_is F R b pr tm cn sm ac re kn q1 q2 on = some ((0 : Int32), (if z01 r7 = 0 then (0 : Int64) else 1), R7, b7, pr7, tm7, cn7, sm7, ac7, re7, kn7) := by
      unfold p_L_is
      rw [e7]; cases r7 <;> rfl
    refine ZE_b11e hL ?_
    refine ZE_b7e e9 ?_
    exact ⟨_, rfl, by (dsimp only; (repeat' apply And.intro) <;> assumption)⟩
  · have hL : p_L_is F R b pr tm cn sm ac re kn q1 q2 on = some ((1 : Int32), on, R7, b7, pr7, tm7, cn7, sm7, ac7, re7, kn7) := by
      unfold p_L_is
      rw [e7]; rfl
    refine ZE_b11e hL ?_
    refine ZE_b7e e9 ?_
    exact ⟨_, rfl, by (dsimp only; (repeat' apply And.intro) <;> assumption)⟩
  · have hL : p_L_is F R b pr tm cn sm ac re kn q1 q2 on = some ((2 : Int32), on, R7, b7, pr7, tm7, cn7, sm7, ac7, re7, kn7) := by
      unfold p_L_is
      rw [e7]; rfl
    refine ZE_b11e hL ?_
    refine ZE_b7e e9 ?_
    exact ⟨_, rfl, by (dsimp only; (repeat' apply And.intro) <;> assumption)⟩

set_option maxHeartbeats 4000000 in
theorem t_law_14 (F : Nat) (R : Nat → Nat → Int64) (b : Bool) (pr : Nat → Int32) (tm : Nat → Int32) (cn : Int32) (sm : Nat → Int32) (ac : Int32) (re : Int32) (kn : Int32) (V : Nat → Int64) (ib : Bool) (dn : Int32) (rf : Int32) (mk : Int32) (th : Int32) (xs : Nat → Int32) (i : Int32) (on : Int64) (hp0 : 2000 ≤ F) (hp1 : zTm tm) (hp2 : 0 ≤ cn.toInt) (hp3 : cn.toInt ≤ 4) (hp4 : kn = mk) (hS : zEq R V) (ha : ac = dn) (hr : re = rf) : ZE (fun (r : ((Nat → Nat → Int64) × Bool × (Nat → Int32) × (Nat → Int32) × Int32 × (Nat → Int32) × Int32 × Int32 × Int32 × (Nat → Int64) × Bool × Int32 × Int32 × Int32 × Int32 × Int64)) => zTm r.2.2.2.1 ∧ 0 ≤ r.2.2.2.2.1.toInt ∧ r.2.2.2.2.1.toInt ≤ 4 ∧ r.2.2.2.2.2.2.2.2.1 = r.2.2.2.2.2.2.2.2.2.2.2.2.2.1 ∧ zEq r.1 r.2.2.2.2.2.2.2.2.2.1 ∧ r.2.2.2.2.2.2.1 = r.2.2.2.2.2.2.2.2.2.2.2.1 ∧ r.2.2.2.2.2.2.2.1 = r.2.2.2.2.2.2.2.2.2.2.2.2.1) (p_law_14 F R b pr tm cn sm ac re kn V ib dn rf mk th xs i on) := by
  unfold p_law_14
  generalize xs (i + (1 : Int32)).toNatClampNeg = q1
  generalize xs (i + (2 : Int32)).toNatClampNeg = q2
  generalize xs (i + (3 : Int32)).toNatClampNeg = q3
  generalize xs (i + (4 : Int32)).toNatClampNeg = q4
  refine ZE_b11 (Q := fun (r : (Int32 × Int64 × (Nat → Nat → Int64) × Bool × (Nat → Int32) × (Nat → Int32) × Int32 × (Nat → Int32) × Int32 × Int32 × Int32)) => r.2.2.1 = R ∧ r.2.2.2.1 = b ∧ r.2.2.2.2.1 = pr ∧ r.2.2.2.2.2.1 = tm ∧ r.2.2.2.2.2.2.1 = cn ∧ r.2.2.2.2.2.2.2.1 = sm ∧ r.2.2.2.2.2.2.2.2.1 = ac ∧ r.2.2.2.2.2.2.2.2.2.1 = re ∧ r.2.2.2.2.2.2.2.2.2.2 = kn ∧ 0 ≤ r.2.2.2.2.2.2.1.toInt ∧ r.2.2.2.2.2.2.1.toInt ≤ 4 ∧ r.2.2.2.2.2.2.2.2.2.2 = kn) ?_ (fun r1 on2 R7 b7 pr7 tm7 cn7 sm7 ac7 re7 kn7 h => ?_)
  · unfold p_L_totalOfProduct
    refine ZE_b10 (ZE_and (zTp7 F R b pr tm cn sm ac re kn q1 q2 q3 q4 hp0) (t_X7_totalOfProduct F R b pr tm cn sm ac re kn q1 q2 q3 q4 hp0 hp1 hp2 hp3)) (fun cd7 R7 b7 pr7 tm7 cn7 sm7 ac7 re7 kn7 h => ?_)
    obtain ⟨h1, g0, g1, g2, g3, g4⟩ := h
    dsimp only at h1 g0
    simp only [Prod.mk.injEq] at h1
    obtain ⟨rfl, rfl, rfl, rfl, rfl, rfl, rfl, rfl, rfl⟩ := h1
    rcases g0 with rfl | rfl | rfl | rfl
    · exact ZE_if (fun _ => ⟨_, rfl, rfl, rfl, rfl, rfl, rfl, rfl, rfl, rfl, rfl, g1, g2, g3, g4⟩) (fun c => absurd rfl c)
    · exact ZE_if (fun c => absurd c (by decide)) (fun _ => ZE_if (fun _ => ⟨_, rfl, rfl, rfl, rfl, rfl, rfl, rfl, rfl, rfl, rfl, g1, g2, g3, g4⟩) (fun c => absurd rfl c))
    · exact ZE_if (fun c => absurd c (by decide)) (fun _ => ZE_if (fun c => absurd c (by decide)) (fun _ => ZE_if (fun _ => ⟨_, rfl, rfl, rfl, rfl, rfl, rfl, rfl, rfl, rfl, rfl, g1, g2, g3, g4⟩) (fun c => absurd rfl c)))
    · exact ZE_if (fun c => absurd c (by decide)) (fun _ => ZE_if (fun c => absurd c (by decide)) (fun _ => ZE_if (fun c => absurd c (by decide)) (fun _ => ZE_if (fun _ => ⟨_, rfl, rfl, rfl, rfl, rfl, rfl, rfl, rfl, rfl, rfl, g1, g2, g3, g4⟩) (fun c => absurd rfl c))))
  dsimp only at h
  obtain ⟨rfl, rfl, rfl, rfl, rfl, rfl, rfl, rfl, rfl, g1, g2, g3, g4⟩ := h
  refine ZE_b2 (t_X9_totalOfProduct F V ib q1 q2 q3 q4 hp0) (fun ib9 th9 _ => ?_)
  exact ⟨_, rfl, by (dsimp only; (repeat' apply And.intro) <;> assumption)⟩

set_option maxHeartbeats 4000000 in
theorem t_law_15 (F : Nat) (R : Nat → Nat → Int64) (b : Bool) (pr : Nat → Int32) (tm : Nat → Int32) (cn : Int32) (sm : Nat → Int32) (ac : Int32) (re : Int32) (kn : Int32) (V : Nat → Int64) (ib : Bool) (dn : Int32) (rf : Int32) (mk : Int32) (th : Int32) (xs : Nat → Int32) (i : Int32) (on : Int64) (hp0 : 2000 ≤ F) (hp1 : zTm tm) (hp2 : 0 ≤ cn.toInt) (hp3 : cn.toInt ≤ 4) (hp4 : kn = mk) (hS : zEq R V) (ha : ac = dn) (hr : re = rf) : ZE (fun (r : ((Nat → Nat → Int64) × Bool × (Nat → Int32) × (Nat → Int32) × Int32 × (Nat → Int32) × Int32 × Int32 × Int32 × (Nat → Int64) × Bool × Int32 × Int32 × Int32 × Int32 × Int64)) => zTm r.2.2.2.1 ∧ 0 ≤ r.2.2.2.2.1.toInt ∧ r.2.2.2.2.1.toInt ≤ 4 ∧ r.2.2.2.2.2.2.2.2.1 = r.2.2.2.2.2.2.2.2.2.2.2.2.2.1 ∧ zEq r.1 r.2.2.2.2.2.2.2.2.2.1 ∧ r.2.2.2.2.2.2.1 = r.2.2.2.2.2.2.2.2.2.2.2.1 ∧ r.2.2.2.2.2.2.2.1 = r.2.2.2.2.2.2.2.2.2.2.2.2.1) (p_law_15 F R b pr tm cn sm ac re kn V ib dn rf mk th xs i on) := by
  unfold p_law_15
  generalize xs (i + (1 : Int32)).toNatClampNeg = q1
  generalize xs (i + (2 : Int32)).toNatClampNeg = q2
  generalize xs (i + (3 : Int32)).toNatClampNeg = q3
  refine ZE_b11 (Q := fun (r : (Int32 × Int64 × (Nat → Nat → Int64) × Bool × (Nat → Int32) × (Nat → Int32) × Int32 × (Nat → Int32) × Int32 × Int32 × Int32)) => r.2.2.1 = R ∧ r.2.2.2.2.2.2.2.1 = sm ∧ r.2.2.2.2.2.2.2.2.1 = ac ∧ r.2.2.2.2.2.2.2.2.2.1 = re ∧ r.2.2.2.2.2.2.2.2.2.2 = kn ∧ 0 ≤ r.2.2.2.2.2.2.1.toInt ∧ r.2.2.2.2.2.2.1.toInt ≤ 4 ∧ r.2.2.2.2.2.2.2.2.2.2 = kn) ?_ (fun r1 on2 R7 b7 pr7 tm7 cn7 sm7 ac7 re7 kn7 h => ?_)
  · unfold p_L_determinant
    refine ZE_b10 (ZE_and (zDe7 F R b pr tm cn sm ac re kn q1 q2 q3 hp0) (t_X7_determinant F R b pr tm cn sm ac re kn q1 q2 q3 hp0 hp1 hp2 hp3)) (fun cd7 R7 b7 pr7 tm7 cn7 sm7 ac7 re7 kn7 h => ?_)
    obtain ⟨h1, g0, g1, g2, g3, g4⟩ := h
    dsimp only at h1 g0
    simp only [Prod.mk.injEq] at h1
    obtain ⟨rfl, rfl, rfl, rfl, rfl⟩ := h1
    rcases g0 with rfl | rfl | rfl | rfl
    · exact ZE_if (fun _ => ⟨_, rfl, rfl, rfl, rfl, rfl, rfl, g1, g2, g3, g4⟩) (fun c => absurd rfl c)
    · exact ZE_if (fun c => absurd c (by decide)) (fun _ => ZE_if (fun _ => ⟨_, rfl, rfl, rfl, rfl, rfl, rfl, g1, g2, g3, g4⟩) (fun c => absurd rfl c))
    · exact ZE_if (fun c => absurd c (by decide)) (fun _ => ZE_if (fun c => absurd c (by decide)) (fun _ => ZE_if (fun _ => ⟨_, rfl, rfl, rfl, rfl, rfl, rfl, g1, g2, g3, g4⟩) (fun c => absurd rfl c)))
    · exact ZE_if (fun c => absurd c (by decide)) (fun _ => ZE_if (fun c => absurd c (by decide)) (fun _ => ZE_if (fun c => absurd c (by decide)) (fun _ => ZE_if (fun _ => ⟨_, rfl, rfl, rfl, rfl, rfl, rfl, g1, g2, g3, g4⟩) (fun c => absurd rfl c))))
  dsimp only at h
  obtain ⟨rfl, rfl, rfl, rfl, rfl, g1, g2, g3, g4⟩ := h
  refine ZE_b1 (t_X9_determinant F V q1 q2 q3 hp0) (fun th9 _ => ?_)
  exact ⟨_, rfl, by (dsimp only; (repeat' apply And.intro) <;> assumption)⟩

set_option maxHeartbeats 4000000 in
theorem t_law_27 (F : Nat) (R : Nat → Nat → Int64) (b : Bool) (pr : Nat → Int32) (tm : Nat → Int32) (cn : Int32) (sm : Nat → Int32) (ac : Int32) (re : Int32) (kn : Int32) (V : Nat → Int64) (ib : Bool) (dn : Int32) (rf : Int32) (mk : Int32) (th : Int32) (xs : Nat → Int32) (i : Int32) (on : Int64) (hp0 : 2000 ≤ F) (hp1 : zTm tm) (hp2 : 0 ≤ cn.toInt) (hp3 : cn.toInt ≤ 4) (hp4 : kn = mk) (hS : zEq R V) (ha : ac = dn) (hr : re = rf) : ZE (fun (r : ((Nat → Nat → Int64) × Bool × (Nat → Int32) × (Nat → Int32) × Int32 × (Nat → Int32) × Int32 × Int32 × Int32 × (Nat → Int64) × Bool × Int32 × Int32 × Int32 × Int32 × Int64)) => zTm r.2.2.2.1 ∧ 0 ≤ r.2.2.2.2.1.toInt ∧ r.2.2.2.2.1.toInt ≤ 4 ∧ r.2.2.2.2.2.2.2.2.1 = r.2.2.2.2.2.2.2.2.2.2.2.2.2.1 ∧ zEq r.1 r.2.2.2.2.2.2.2.2.2.1 ∧ r.2.2.2.2.2.2.1 = r.2.2.2.2.2.2.2.2.2.2.2.1 ∧ r.2.2.2.2.2.2.2.1 = r.2.2.2.2.2.2.2.2.2.2.2.2.1) (p_law_27 F R b pr tm cn sm ac re kn V ib dn rf mk th xs i on) := by
  subst hp4
  exact ⟨_, rfl, hp1, hp2, hp3, rfl, hS, ha, hr⟩

set_option maxHeartbeats 4000000 in
theorem t_law_28 (F : Nat) (R : Nat → Nat → Int64) (b : Bool) (pr : Nat → Int32) (tm : Nat → Int32) (cn : Int32) (sm : Nat → Int32) (ac : Int32) (re : Int32) (kn : Int32) (V : Nat → Int64) (ib : Bool) (dn : Int32) (rf : Int32) (mk : Int32) (th : Int32) (xs : Nat → Int32) (i : Int32) (on : Int64) (hp0 : 2000 ≤ F) (hp1 : zTm tm) (hp2 : 0 ≤ cn.toInt) (hp3 : cn.toInt ≤ 4) (hp4 : kn = mk) (hS : zEq R V) (ha : ac = dn) (hr : re = rf) : ZE (fun (r : ((Nat → Nat → Int64) × Bool × (Nat → Int32) × (Nat → Int32) × Int32 × (Nat → Int32) × Int32 × Int32 × Int32 × (Nat → Int64) × Bool × Int32 × Int32 × Int32 × Int32 × Int64)) => zTm r.2.2.2.1 ∧ 0 ≤ r.2.2.2.2.1.toInt ∧ r.2.2.2.2.1.toInt ≤ 4 ∧ r.2.2.2.2.2.2.2.2.1 = r.2.2.2.2.2.2.2.2.2.2.2.2.2.1 ∧ zEq r.1 r.2.2.2.2.2.2.2.2.2.1 ∧ r.2.2.2.2.2.2.1 = r.2.2.2.2.2.2.2.2.2.2.2.1 ∧ r.2.2.2.2.2.2.2.1 = r.2.2.2.2.2.2.2.2.2.2.2.2.1) (p_law_28 F R b pr tm cn sm ac re kn V ib dn rf mk th xs i on) := by
  unfold p_law_28

  refine ZE_b10 (ZE_and (zSnd F R pr tm cn sm ac re kn hp0) (t_X7_isSound F R pr tm cn sm ac re kn hp0 hp1 hp2 hp3)) (fun r7 R7 b7 pr7 tm7 cn7 sm7 ac7 re7 kn7 h => ?_)
  obtain ⟨⟨h1, hA, h3⟩, g0, g1, g2, g3⟩ := h
  dsimp only at h1 hA h3 g0 g1 g2 g3
  simp only [Prod.mk.injEq] at h3
  obtain ⟨rfl, rfl, rfl⟩ := h3
  have hS7 := zEq_same hS hA
  refine ZE_b2e rfl ?_
  exact ⟨_, rfl, by (dsimp only; (repeat' apply And.intro) <;> assumption)⟩

set_option maxHeartbeats 4000000 in
theorem t_law_29 (F : Nat) (R : Nat → Nat → Int64) (b : Bool) (pr : Nat → Int32) (tm : Nat → Int32) (cn : Int32) (sm : Nat → Int32) (ac : Int32) (re : Int32) (kn : Int32) (V : Nat → Int64) (ib : Bool) (dn : Int32) (rf : Int32) (mk : Int32) (th : Int32) (xs : Nat → Int32) (i : Int32) (on : Int64) (hp0 : 2000 ≤ F) (hp1 : zTm tm) (hp2 : 0 ≤ cn.toInt) (hp3 : cn.toInt ≤ 4) (hp4 : kn = mk) (hS : zEq R V) (ha : ac = dn) (hr : re = rf) : ZE (fun (r : ((Nat → Nat → Int64) × Bool × (Nat → Int32) × (Nat → Int32) × Int32 × (Nat → Int32) × Int32 × Int32 × Int32 × (Nat → Int64) × Bool × Int32 × Int32 × Int32 × Int32 × Int64)) => zTm r.2.2.2.1 ∧ 0 ≤ r.2.2.2.2.1.toInt ∧ r.2.2.2.2.1.toInt ≤ 4 ∧ r.2.2.2.2.2.2.2.2.1 = r.2.2.2.2.2.2.2.2.2.2.2.2.2.1 ∧ zEq r.1 r.2.2.2.2.2.2.2.2.2.1 ∧ r.2.2.2.2.2.2.1 = r.2.2.2.2.2.2.2.2.2.2.2.1 ∧ r.2.2.2.2.2.2.2.1 = r.2.2.2.2.2.2.2.2.2.2.2.2.1) (p_law_29 F R b pr tm cn sm ac re kn V ib dn rf mk th xs i on) := by
  unfold p_law_29

  refine ZE_b10 (ZE_and (zDg7 F R pr tm cn sm ac re kn hp0) (t_X7_digest F R pr tm cn sm ac re kn hp0 hp1 hp2 hp3)) (fun r7 R7 b7 pr7 tm7 cn7 sm7 ac7 re7 kn7 h => ?_)
  obtain ⟨⟨h1, hA, h3⟩, g0, g1, g2, g3⟩ := h
  dsimp only at h1 hA h3 g0 g1 g2 g3
  simp only [Prod.mk.injEq] at h3
  obtain ⟨rfl, rfl, rfl⟩ := h3
  have hS7 := zEq_same hS hA
  refine ZE_b2 (zDg9 F V dn rf mk hp0) (fun r9 th9 h => ?_)
  exact ⟨_, rfl, by (dsimp only; (repeat' apply And.intro) <;> assumption)⟩
