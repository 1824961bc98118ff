-- ==================== the law's cases: the state stays alike
theorem ZE_of {ρ : Type} {P : ρ → Prop} {x : Option ρ} {r : ρ} (h : ZE P x) (e : x = some r) : P r := by
  obtain ⟨q, e2, hq⟩ := h
  rw [e] at e2
  cases e2
  exact hq
theorem ZE_b4e {ρ α0 α1 α2 α3 : Type} {P : ρ → Prop} {x : Option (α0 × α1 × α2 × α3)} {a0 : α0} {a1 : α1} {a2 : α2} {a3 : α3} {f : α0 → α1 → α2 → α3 → Option ρ} (hx : x = some (a0, a1, a2, a3)) (h : ZE P (f a0 a1 a2 a3)) : ZE P (zb4 x f) := by
  subst hx
  exact h
theorem ZE_b6e {ρ α0 α1 α2 α3 α4 α5 : Type} {P : ρ → Prop} {x : Option (α0 × α1 × α2 × α3 × α4 × α5)} {a0 : α0} {a1 : α1} {a2 : α2} {a3 : α3} {a4 : α4} {a5 : α5} {f : α0 → α1 → α2 → α3 → α4 → α5 → Option ρ} (hx : x = some (a0, a1, a2, a3, a4, a5)) (h : ZE P (f a0 a1 a2 a3 a4 a5)) : ZE P (zb6 x f) := by
  subst hx
  exact h
theorem ZE_b7e {ρ α0 α1 α2 α3 α4 α5 α6 : Type} {P : ρ → Prop} {x : Option (α0 × α1 × α2 × α3 × α4 × α5 × α6)} {a0 : α0} {a1 : α1} {a2 : α2} {a3 : α3} {a4 : α4} {a5 : α5} {a6 : α6} {f : α0 → α1 → α2 → α3 → α4 → α5 → α6 → Option ρ} (hx : x = some (a0, a1, a2, a3, a4, a5, a6)) (h : ZE P (f a0 a1 a2 a3 a4 a5 a6)) : ZE P (zb7 x f) := by
  subst hx
  exact h
theorem ZE_b9e {ρ α0 α1 α2 α3 α4 α5 α6 α7 α8 : Type} {P : ρ → Prop} {x : Option (α0 × α1 × α2 × α3 × α4 × α5 × α6 × α7 × α8)} {a0 : α0} {a1 : α1} {a2 : α2} {a3 : α3} {a4 : α4} {a5 : α5} {a6 : α6} {a7 : α7} {a8 : α8} {f : α0 → α1 → α2 → α3 → α4 → α5 → α6 → α7 → α8 → Option ρ} (hx : x = some (a0, a1, a2, a3, a4, a5, a6, a7, a8)) (h : ZE P (f a0 a1 a2 a3 a4 a5 a6 a7 a8)) : ZE P (zb9 x f) := by
  subst hx
  exact h
theorem ZE_b11e {ρ α0 α1 α2 α3 α4 α5 α6 α7 α8 α9 α10 : Type} {P : ρ → Prop} {x : Option (α0 × α1 × α2 × α3 × α4 × α5 × α6 × α7 × α8 × α9 × α10)} {a0 : α0} {a1 : α1} {a2 : α2} {a3 : α3} {a4 : α4} {a5 : α5} {a6 : α6} {a7 : α7} {a8 : α8} {a9 : α9} {a10 : α10} {f : α0 → α1 → α2 → α3 → α4 → α5 → α6 → α7 → α8 → α9 → α10 → Option ρ} (hx : x = some (a0, a1, a2, a3, a4, a5, a6, a7, a8, a9, a10)) (h : ZE P (f a0 a1 a2 a3 a4 a5 a6 a7 a8 a9 a10)) : ZE P (zb11 x f) := by
  subst hx
  exact h
-- where it has a value, that is so
def ZI {ρ : Type} (Q : ρ → Prop) (x : Option ρ) : Prop := ∀ r, x = some r → Q r
theorem ZI_if {ρ : Type} {Q : ρ → Prop} {c : Prop} [Decidable c] {a b : Option ρ} (ha : c → ZI Q a) (hb : ¬ c → ZI Q b) : ZI Q (if c then a else b) := by
  by_cases h : c
  · rw [if_pos h]; exact ha h
  · rw [if_neg h]; exact hb h
theorem ZI_zg {ρ : Type} {Q : ρ → Prop} {c : Prop} [Decidable c] {x : Option ρ} (h : ZI Q x) : ZI Q (zg c x) := fun r e => h r (zg_some e).2
theorem ZI_b1 {ρ α : Type} {Q : ρ → Prop} {x : Option α} {f : α → Option ρ} (h : ∀ a, ZI Q (f a)) : ZI Q (zb1 x f) := fun r e => by
  obtain ⟨a, _, e2⟩ := zb1_some e
  exact h a r e2
theorem ZI_b2 {ρ α β : Type} {Q : ρ → Prop} {x : Option (α × β)} {f : α → β → Option ρ} (h : ∀ a b, ZI Q (f a b)) : ZI Q (zb2 x f) := fun r e => by
  obtain ⟨a, b, _, e2⟩ := zb2_some e
  exact h a b r e2
theorem ZI_lta {ρ σ : Type} {Q : ρ → Prop} {f : σ} {t : σ → Option ρ} (h : ZI Q (t f)) : ZI Q (zlt f t) := h
theorem ZI_some {ρ : Type} {Q : ρ → Prop} {r : ρ} (h : Q r) : ZI Q (some r) := fun s e => by
  cases e
  exact h
theorem ZI_none {ρ : Type} {Q : ρ → Prop} {x : Option ρ} (h : x = none) : ZI Q x := fun s e => by
  rw [h] at e
  cases e
theorem zDv7L (F : Nat) (R : Nat → Nat → Int64) (b : Bool) (pr : Nat → Int32) (tm : Nat → Int32) (cn : Int32) (sm : Nat → Int32) (ac : Int32) (re : Int32) (kn : Int32) (p0 : Int32) (p1 : Int32) (k : Int32 → Int32 → Option (Nat × Int32 × (Nat → Nat → Int64) × Bool × (Nat → Int32) × (Nat → Int32) × Int32 × (Nat → Int32) × Int32 × Int32 × Int32)) (hk : ∀ x y, ZI (fun (r : (Nat × Int32 × (Nat → Nat → Int64) × Bool × (Nat → Int32) × (Nat → Int32) × Int32 × (Nat → Int32) × Int32 × Int32 × Int32)) => r.2.2 = (R, b, pr, tm, cn, sm, ac, re, kn)) (k x y)) : ∀ (f : Nat) (x y : Int32), ZI (fun (r : (Nat × Int32 × (Nat → Nat → Int64) × Bool × (Nat → Int32) × (Nat → Int32) × Int32 × (Nat → Int32) × Int32 × Int32 × Int32)) => r.2.2 = (R, b, pr, tm, cn, sm, ac, re, kn)) (p_X7_divisor_L0 F R b pr tm cn sm ac re kn p0 p1 k f x y) := by
  intro f
  induction f with
  | zero => intro x y; exact ZI_none rfl
  | succ f ih =>
    intro x y
    show ZI _ (if p0 < y then (k x y) else (zg (y = 0) (if ¬ (zr p0 y) = 0 then (p_X7_divisor_L0 F R b pr tm cn sm ac re kn p0 p1 k f x (y + (1 : Int32))) else (if ¬ x = p1 then (p_X7_divisor_L0 F R b pr tm cn sm ac re kn p0 p1 k f (x + (1 : Int32)) (y + (1 : Int32))) else (some (0, y, R, b, pr, tm, cn, sm, ac, re, kn))))))
    exact ZI_if (fun _ => hk _ _) (fun _ => ZI_zg (ZI_if (fun _ => ih _ _) (fun _ => ZI_if (fun _ => ih _ _) (fun _ => ZI_some rfl))))
theorem zDv9L0 (F : Nat) (V : Nat → Int64) (ib : Bool) (dn : Int32) (rf : Int32) (mk : Int32) (p0 : Int32) (th_4 : Int32) (k : Int32 → Int32 → Option (Int32 × (Nat → Int64) × Bool × Int32 × Int32 × Int32 × Int32)) (hk : ∀ x y, ZI (fun (r : (Int32 × (Nat → Int64) × Bool × Int32 × Int32 × Int32 × Int32)) => (r.2.1, r.2.2.2.1, r.2.2.2.2.1) = (V, dn, rf)) (k x y)) : ∀ (f : Nat) (x y : Int32), ZI (fun (r : (Int32 × (Nat → Int64) × Bool × Int32 × Int32 × Int32 × Int32)) => (r.2.1, r.2.2.2.1, r.2.2.2.2.1) = (V, dn, rf)) (p_X9_divisor_L0 F V ib dn rf mk p0 th_4 k f x y) := by
  intro f
  induction f with
  | zero => intro x y; exact ZI_none rfl
  | succ f ih =>
    intro x y
    show ZI _ (if p0 < y then (k x y) else (zg (y = 0) (if (zr p0 y) = 0 then (if ¬ x = 0 then (p_X9_divisor_L0 F V ib dn rf mk p0 th_4 k f (x + (-1 : Int32)) (y + (1 : Int32))) else (some (y, V, ib, dn, rf, mk, th_4))) else (p_X9_divisor_L0 F V ib dn rf mk p0 th_4 k f x (y + (1 : Int32))))))
    exact ZI_if (fun _ => hk _ _) (fun _ => ZI_zg (ZI_if (fun _ => ZI_if (fun _ => ih _ _) (fun _ => ZI_some rfl)) (fun _ => ih _ _)))
theorem zDv9L1 (F : Nat) (V : Nat → Int64) (ib : Bool) (dn : Int32) (rf : Int32) (mk : Int32) (p0 : Int32) (th_7 : Int32) (k : Int32 → Int32 → Option (Int32 × (Nat → Int64) × Bool × Int32 × Int32 × Int32 × Int32)) (hk : ∀ x y, ZI (fun (r : (Int32 × (Nat → Int64) × Bool × Int32 × Int32 × Int32 × Int32)) => (r.2.1, r.2.2.2.1, r.2.2.2.2.1) = (V, dn, rf)) (k x y)) : ∀ (f : Nat) (x y : Int32), ZI (fun (r : (Int32 × (Nat → Int64) × Bool × Int32 × Int32 × Int32 × Int32)) => (r.2.1, r.2.2.2.1, r.2.2.2.2.1) = (V, dn, rf)) (p_X9_divisor_L1 F V ib dn rf mk p0 th_7 k f x y) := by
  intro f
  induction f with
  | zero => intro x y; exact ZI_none rfl
  | succ f ih =>
    intro x y
    show ZI _ (if p0 < y then (k x y) else (zg (y = 0) (if (zr p0 y) = 0 then (if ¬ x = 0 then (p_X9_divisor_L1 F V ib dn rf mk p0 th_7 k f (x + (-1 : Int32)) (y + (1 : Int32))) else (some (y, V, ib, dn, rf, mk, th_7))) else (p_X9_divisor_L1 F V ib dn rf mk p0 th_7 k f x (y + (1 : Int32))))))
    exact ZI_if (fun _ => hk _ _) (fun _ => ZI_zg (ZI_if (fun _ => ZI_if (fun _ => ih _ _) (fun _ => ZI_some rfl)) (fun _ => ih _ _)))
theorem zDv7 (F : Nat) (R : Nat → Nat → Int64) (b : Bool) (pr : Nat → Int32) (tm : Nat → Int32) (cn : Int32) (sm : Nat → Int32) (ac : Int32) (re : Int32) (kn : Int32) (p0 : Int32) (p1 : Int32) : ZI (fun (r : (Nat × Int32 × (Nat → Nat → Int64) × Bool × (Nat → Int32) × (Nat → Int32) × Int32 × (Nat → Int32) × Int32 × Int32 × Int32)) => r.2.2 = (R, b, pr, tm, cn, sm, ac, re, kn)) (p_X7_divisor F R b pr tm cn sm ac re kn p0 p1) := by
  unfold p_X7_divisor
  exact ZI_b1 (fun _ => ZI_if (fun _ => ZI_if (fun _ => zDv7L F R b pr tm cn sm ac re kn p0 p1 _ (fun _ _ => by exact ZI_some rfl) _ _ _) (fun _ => ZI_some rfl)) (fun _ => ZI_some rfl))
theorem zDv9 (F : Nat) (V : Nat → Int64) (ib : Bool) (dn : Int32) (rf : Int32) (mk : Int32) (p0 : Int32) (p1 : Int32) : ZI (fun (r : (Int32 × (Nat → Int64) × Bool × Int32 × Int32 × Int32 × Int32)) => (r.2.1, r.2.2.2.1, r.2.2.2.2.1) = (V, dn, rf)) (p_X9_divisor F V ib dn rf mk p0 p1) := by
  unfold p_X9_divisor
  exact ZI_b1 (fun _ => ZI_lta (ZI_if (fun _ => ZI_b2 (fun _ _ => ZI_if (fun _ => zDv9L0 F V ib dn rf mk p0 _ _ (fun _ _ => by exact ZI_some rfl) _ _ _) (fun _ => ZI_some rfl))) (fun _ => ZI_if (fun _ => ZI_b2 (fun _ _ => ZI_if (fun _ => zDv9L0 F V ib dn rf mk p0 _ _ (fun _ _ => by exact ZI_some rfl) _ _ _) (fun _ => ZI_some rfl))) (fun _ => ZI_b2 (fun _ _ => ZI_if (fun _ => zDv9L1 F V ib dn rf mk p0 _ _ (fun _ _ => by exact ZI_some rfl) _ _ _) (fun _ => ZI_some rfl))))))
theorem zlc0 (x : Int64) : lg_cmp x x = 0 := by
  unfold lg_cmp
  rw [if_neg (fun h => Int64.lt_irrefl h), if_pos rfl]
set_option maxHeartbeats 4000000 in
theorem t_law_0 (F : Nat) (R : Nat → Nat → Int64) (b : Bool) (pr : Nat → Int32) (tm : Nat → Int32) (cn : Int32) (sm : Nat → Int32) (ac : Int32) (re : Int32) (kn : Int32) (V : Nat → Int64) (ib : Bool) (dn : Int32) (rf : Int32) (mk : Int32) (th : Int32) (xs : Nat → Int32) (i : Int32) (on : Int64) (hp0 : 2000 ≤ F) (hp1 : zTm tm) (hp2 : 0 ≤ cn.toInt) (hp3 : cn.toInt ≤ 4) (hp4 : kn = mk) (hS : zEq R V) (ha : ac = dn) (hr : re = rf) : ZE (fun (r : ((Nat → Nat → Int64) × Bool × (Nat → Int32) × (Nat → Int32) × Int32 × (Nat → Int32) × Int32 × Int32 × Int32 × (Nat → Int64) × Bool × Int32 × Int32 × Int32 × Int32 × Int64)) => zTm r.2.2.2.1 ∧ 0 ≤ r.2.2.2.2.1.toInt ∧ r.2.2.2.2.1.toInt ≤ 4 ∧ r.2.2.2.2.2.2.2.2.1 = r.2.2.2.2.2.2.2.2.2.2.2.2.2.1 ∧ zEq r.1 r.2.2.2.2.2.2.2.2.2.1 ∧ r.2.2.2.2.2.2.1 = r.2.2.2.2.2.2.2.2.2.2.2.1 ∧ r.2.2.2.2.2.2.2.1 = r.2.2.2.2.2.2.2.2.2.2.2.2.1) (p_law_0 F R b pr tm cn sm ac re kn V ib dn rf mk th xs i on) := by
  unfold p_law_0
  generalize xs (i + (1 : Int32)).toNatClampNeg = q1
  generalize xs (i + (2 : Int32)).toNatClampNeg = q2
  obtain ⟨⟨cd7, r7, R7, pr7, tm7, cn7, ac7⟩, ⟨r9, V9, dn9, th9⟩, e7, e9, hQ⟩ := zO_know F R pr tm cn ac q1 q2 V dn hS ha hp0
  dsimp only at hQ
  obtain ⟨hc, hq, u2, u3⟩ := hQ
  have hT := ZE_of (t_X7_know F R pr tm cn ac q1 q2 hp0 hp1 hp2 hp3) e7
  dsimp only at hT
  obtain ⟨g0, g1, g2, g3⟩ := hT
  rcases hc with ⟨rfl, rfl⟩ | ⟨rfl, rfl⟩ | ⟨rfl, rfl⟩
  · have hL : p_L_know F R pr tm cn ac q1 q2 on = some ((0 : Int32), r7.toInt64, R7, pr7, tm7, cn7, ac7) := by
      unfold p_L_know
      rw [e7]; rfl
    refine ZE_b7e hL ?_
    refine ZE_b4e e9 ?_
    exact ⟨_, rfl, by (dsimp only; (repeat' apply And.intro) <;> assumption)⟩
  · have hL : p_L_know F R pr tm cn ac q1 q2 on = some ((1 : Int32), on, R7, pr7, tm7, cn7, ac7) := by
      unfold p_L_know
      rw [e7]; rfl
    refine ZE_b7e hL ?_
    refine ZE_b4e e9 ?_
    exact ⟨_, rfl, by (dsimp only; (repeat' apply And.intro) <;> assumption)⟩
  · have hL : p_L_know F R pr tm cn ac q1 q2 on = some ((2 : Int32), on, R7, pr7, tm7, cn7, ac7) := by
      unfold p_L_know
      rw [e7]; rfl
    refine ZE_b7e hL ?_
    refine ZE_b4e e9 ?_
    exact ⟨_, rfl, by (dsimp only; (repeat' apply And.intro) <;> assumption)⟩

set_option maxHeartbeats 4000000 in
theorem t_law_1 (F : Nat) (R : Nat → Nat → Int64) (b : Bool) (pr : Nat → Int32) (tm : Nat → Int32) (cn : Int32) (sm : Nat → Int32) (ac : Int32) (re : Int32) (kn : Int32) (V : Nat → Int64) (ib : Bool) (dn : Int32) (rf : Int32) (mk : Int32) (th : Int32) (xs : Nat → Int32) (i : Int32) (on : Int64) (hp0 : 2000 ≤ F) (hp1 : zTm tm) (hp2 : 0 ≤ cn.toInt) (hp3 : cn.toInt ≤ 4) (hp4 : kn = mk) (hS : zEq R V) (ha : ac = dn) (hr : re = rf) : ZE (fun (r : ((Nat → Nat → Int64) × Bool × (Nat → Int32) × (Nat → Int32) × Int32 × (Nat → Int32) × Int32 × Int32 × Int32 × (Nat → Int64) × Bool × Int32 × Int32 × Int32 × Int32 × Int64)) => zTm r.2.2.2.1 ∧ 0 ≤ r.2.2.2.2.1.toInt ∧ r.2.2.2.2.1.toInt ≤ 4 ∧ r.2.2.2.2.2.2.2.2.1 = r.2.2.2.2.2.2.2.2.2.2.2.2.2.1 ∧ zEq r.1 r.2.2.2.2.2.2.2.2.2.1 ∧ r.2.2.2.2.2.2.1 = r.2.2.2.2.2.2.2.2.2.2.2.1 ∧ r.2.2.2.2.2.2.2.1 = r.2.2.2.2.2.2.2.2.2.2.2.2.1) (p_law_1 F R b pr tm cn sm ac re kn V ib dn rf mk th xs i on) := by
  unfold p_law_1
  generalize xs (i + (1 : Int32)).toNatClampNeg = q1
  generalize xs (i + (2 : Int32)).toNatClampNeg = q2
  generalize xs (i + (3 : Int32)).toNatClampNeg = q3
  obtain ⟨⟨cd7, r7, R7, ac7⟩, ⟨r9, V9, dn9, th9⟩, e7, e9, hQ⟩ := zO_put R ac q1 q2 q3 V dn hS ha
  dsimp only at hQ
  obtain ⟨hc, hq, u2, u3⟩ := hQ
  have hT := ZE_of (t_X7_put R ac q1 q2 q3 ) e7
  dsimp only at hT
  rcases hc with ⟨rfl, rfl⟩ | ⟨rfl, rfl⟩ | ⟨rfl, rfl⟩
  · have hL : p_L_put R ac q1 q2 q3 on = some ((0 : Int32), r7.toInt64, R7, ac7) := by
      unfold p_L_put
      rw [e7]; rfl
    refine ZE_b4e hL ?_
    refine ZE_b4e e9 ?_
    exact ⟨_, rfl, by (dsimp only; (repeat' apply And.intro) <;> assumption)⟩
  · have hL : p_L_put R ac q1 q2 q3 on = some ((1 : Int32), on, R7, ac7) := by
      unfold p_L_put
      rw [e7]; rfl
    refine ZE_b4e hL ?_
    refine ZE_b4e e9 ?_
    exact ⟨_, rfl, by (dsimp only; (repeat' apply And.intro) <;> assumption)⟩
  · have hL : p_L_put R ac q1 q2 q3 on = some ((2 : Int32), on, R7, ac7) := by
      unfold p_L_put
      rw [e7]; rfl
    refine ZE_b4e hL ?_
    refine ZE_b4e e9 ?_
    exact ⟨_, rfl, by (dsimp only; (repeat' apply And.intro) <;> assumption)⟩

set_option maxHeartbeats 4000000 in
theorem t_law_2 (F : Nat) (R : Nat → Nat → Int64) (b : Bool) (pr : Nat → Int32) (tm : Nat → Int32) (cn : Int32) (sm : Nat → Int32) (ac : Int32) (re : Int32) (kn : Int32) (V : Nat → Int64) (ib : Bool) (dn : Int32) (rf : Int32) (mk : Int32) (th : Int32) (xs : Nat → Int32) (i : Int32) (on : Int64) (hp0 : 2000 ≤ F) (hp1 : zTm tm) (hp2 : 0 ≤ cn.toInt) (hp3 : cn.toInt ≤ 4) (hp4 : kn = mk) (hS : zEq R V) (ha : ac = dn) (hr : re = rf) : ZE (fun (r : ((Nat → Nat → Int64) × Bool × (Nat → Int32) × (Nat → Int32) × Int32 × (Nat → Int32) × Int32 × Int32 × Int32 × (Nat → Int64) × Bool × Int32 × Int32 × Int32 × Int32 × Int64)) => zTm r.2.2.2.1 ∧ 0 ≤ r.2.2.2.2.1.toInt ∧ r.2.2.2.2.1.toInt ≤ 4 ∧ r.2.2.2.2.2.2.2.2.1 = r.2.2.2.2.2.2.2.2.2.2.2.2.2.1 ∧ zEq r.1 r.2.2.2.2.2.2.2.2.2.1 ∧ r.2.2.2.2.2.2.1 = r.2.2.2.2.2.2.2.2.2.2.2.1 ∧ r.2.2.2.2.2.2.2.1 = r.2.2.2.2.2.2.2.2.2.2.2.2.1) (p_law_2 F R b pr tm cn sm ac re kn V ib dn rf mk th xs i on) := by
  unfold p_law_2
  generalize xs (i + (1 : Int32)).toNatClampNeg = q1
  generalize xs (i + (2 : Int32)).toNatClampNeg = q2
  generalize xs (i + (3 : Int32)).toNatClampNeg = q3
  generalize xs (i + (4 : Int32)).toNatClampNeg = q4
  obtain ⟨⟨cd7, r7, R7, ac7⟩, ⟨r9, V9, dn9, th9⟩, e7, e9, hQ⟩ := zO_putWide R ac q1 q2 q3 q4 V dn hS ha
  dsimp only at hQ
  obtain ⟨hc, hq, u2, u3⟩ := hQ
  have hT := ZE_of (t_X7_putWide R ac q1 q2 q3 q4 ) e7
  dsimp only at hT
  rcases hc with ⟨rfl, rfl⟩ | ⟨rfl, rfl⟩ | ⟨rfl, rfl⟩
  · have hL : p_L_putWide R ac q1 q2 q3 q4 on = some ((0 : Int32), r7.toInt64, R7, ac7) := by
      unfold p_L_putWide
      rw [e7]; rfl
    refine ZE_b4e hL ?_
    refine ZE_b4e e9 ?_
    exact ⟨_, rfl, by (dsimp only; (repeat' apply And.intro) <;> assumption)⟩
  · have hL : p_L_putWide R ac q1 q2 q3 q4 on = some ((1 : Int32), on, R7, ac7) := by
      unfold p_L_putWide
      rw [e7]; rfl
    refine ZE_b4e hL ?_
    refine ZE_b4e e9 ?_
    exact ⟨_, rfl, by (dsimp only; (repeat' apply And.intro) <;> assumption)⟩
  · have hL : p_L_putWide R ac q1 q2 q3 q4 on = some ((2 : Int32), on, R7, ac7) := by
      unfold p_L_putWide
      rw [e7]; rfl
    refine ZE_b4e hL ?_
    refine ZE_b4e e9 ?_
    exact ⟨_, rfl, by (dsimp only; (repeat' apply And.intro) <;> assumption)⟩

set_option maxHeartbeats 4000000 in
theorem t_law_3 (F : Nat) (R : Nat → Nat → Int64) (b : Bool) (pr : Nat → Int32) (tm : Nat → Int32) (cn : Int32) (sm : Nat → Int32) (ac : Int32) (re : Int32) (kn : Int32) (V : Nat → Int64) (ib : Bool) (dn : Int32) (rf : Int32) (mk : Int32) (th : Int32) (xs : Nat → Int32) (i : Int32) (on : Int64) (hp0 : 2000 ≤ F) (hp1 : zTm tm) (hp2 : 0 ≤ cn.toInt) (hp3 : cn.toInt ≤ 4) (hp4 : kn = mk) (hS : zEq R V) (ha : ac = dn) (hr : re = rf) : ZE (fun (r : ((Nat → Nat → Int64) × Bool × (Nat → Int32) × (Nat → Int32) × Int32 × (Nat → Int32) × Int32 × Int32 × Int32 × (Nat → Int64) × Bool × Int32 × Int32 × Int32 × Int32 × Int64)) => zTm r.2.2.2.1 ∧ 0 ≤ r.2.2.2.2.1.toInt ∧ r.2.2.2.2.1.toInt ≤ 4 ∧ r.2.2.2.2.2.2.2.2.1 = r.2.2.2.2.2.2.2.2.2.2.2.2.2.1 ∧ zEq r.1 r.2.2.2.2.2.2.2.2.2.1 ∧ r.2.2.2.2.2.2.1 = r.2.2.2.2.2.2.2.2.2.2.2.1 ∧ r.2.2.2.2.2.2.2.1 = r.2.2.2.2.2.2.2.2.2.2.2.2.1) (p_law_3 F R b pr tm cn sm ac re kn V ib dn rf mk th xs i on) := by
  unfold p_law_3
  generalize xs (i + (1 : Int32)).toNatClampNeg = q1
  generalize xs (i + (2 : Int32)).toNatClampNeg = q2
  generalize xs (i + (3 : Int32)).toNatClampNeg = q3
  obtain ⟨⟨cd7, r7, R7, ac7⟩, ⟨r9, V9, dn9, th9⟩, e7, e9, hQ⟩ := zO_sow F R ac q1 q2 q3 V dn hS ha hp0
  dsimp only at hQ
  obtain ⟨hc, hq, u2, u3⟩ := hQ
  have hT := ZE_of (t_X7_sow F R ac q1 q2 q3 hp0) e7
  dsimp only at hT
  rcases hc with ⟨rfl, rfl⟩ | ⟨rfl, rfl⟩ | ⟨rfl, rfl⟩
  · have hL : p_L_sow F R ac q1 q2 q3 on = some ((0 : Int32), r7.toInt64, R7, ac7) := by
      unfold p_L_sow
      rw [e7]; rfl
    refine ZE_b4e hL ?_
    refine ZE_b4e e9 ?_
    exact ⟨_, rfl, by (dsimp only; (repeat' apply And.intro) <;> assumption)⟩
  · have hL : p_L_sow F R ac q1 q2 q3 on = some ((1 : Int32), on, R7, ac7) := by
      unfold p_L_sow
      rw [e7]; rfl
    refine ZE_b4e hL ?_
    refine ZE_b4e e9 ?_
    exact ⟨_, rfl, by (dsimp only; (repeat' apply And.intro) <;> assumption)⟩
  · have hL : p_L_sow F R ac q1 q2 q3 on = some ((2 : Int32), on, R7, ac7) := by
      unfold p_L_sow
      rw [e7]; rfl
    refine ZE_b4e hL ?_
    refine ZE_b4e e9 ?_
    exact ⟨_, rfl, by (dsimp only; (repeat' apply And.intro) <;> assumption)⟩

set_option maxHeartbeats 4000000 in
theorem t_law_4 (F : Nat) (R : Nat → Nat → Int64) (b : Bool) (pr : Nat → Int32) (tm : Nat → Int32) (cn : Int32) (sm : Nat → Int32) (ac : Int32) (re : Int32) (kn : Int32) (V : Nat → Int64) (ib : Bool) (dn : Int32) (rf : Int32) (mk : Int32) (th : Int32) (xs : Nat → Int32) (i : Int32) (on : Int64) (hp0 : 2000 ≤ F) (hp1 : zTm tm) (hp2 : 0 ≤ cn.toInt) (hp3 : cn.toInt ≤ 4) (hp4 : kn = mk) (hS : zEq R V) (ha : ac = dn) (hr : re = rf) : ZE (fun (r : ((Nat → Nat → Int64) × Bool × (Nat → Int32) × (Nat → Int32) × Int32 × (Nat → Int32) × Int32 × Int32 × Int32 × (Nat → Int64) × Bool × Int32 × Int32 × Int32 × Int32 × Int64)) => zTm r.2.2.2.1 ∧ 0 ≤ r.2.2.2.2.1.toInt ∧ r.2.2.2.2.1.toInt ≤ 4 ∧ r.2.2.2.2.2.2.2.2.1 = r.2.2.2.2.2.2.2.2.2.2.2.2.2.1 ∧ zEq r.1 r.2.2.2.2.2.2.2.2.2.1 ∧ r.2.2.2.2.2.2.1 = r.2.2.2.2.2.2.2.2.2.2.2.1 ∧ r.2.2.2.2.2.2.2.1 = r.2.2.2.2.2.2.2.2.2.2.2.2.1) (p_law_4 F R b pr tm cn sm ac re kn V ib dn rf mk th xs i on) := by
  unfold p_law_4
  generalize xs (i + (1 : Int32)).toNatClampNeg = q1
  generalize xs (i + (2 : Int32)).toNatClampNeg = q2
  obtain ⟨⟨cd7, r7, R7, ac7⟩, ⟨r9, V9, dn9, th9⟩, e7, e9, hQ⟩ := zO_copy F R ac q1 q2 V dn hS ha hp0
  dsimp only at hQ
  obtain ⟨hc, hq, u2, u3⟩ := hQ
  have hT := ZE_of (t_X7_copy F R ac q1 q2 hp0) e7
  dsimp only at hT
  rcases hc with ⟨rfl, rfl⟩ | ⟨rfl, rfl⟩ | ⟨rfl, rfl⟩
  · have hL : p_L_copy F R ac q1 q2 on = some ((0 : Int32), r7.toInt64, R7, ac7) := by
      unfold p_L_copy
      rw [e7]; rfl
    refine ZE_b4e hL ?_
    refine ZE_b4e e9 ?_
    exact ⟨_, rfl, by (dsimp only; (repeat' apply And.intro) <;> assumption)⟩
  · have hL : p_L_copy F R ac q1 q2 on = some ((1 : Int32), on, R7, ac7) := by
      unfold p_L_copy
      rw [e7]; rfl
    refine ZE_b4e hL ?_
    refine ZE_b4e e9 ?_
    exact ⟨_, rfl, by (dsimp only; (repeat' apply And.intro) <;> assumption)⟩
  · exact absurd hT (by decide)

set_option maxHeartbeats 4000000 in
theorem t_law_5 (F : Nat) (R : Nat → Nat → Int64) (b : Bool) (pr : Nat → Int32) (tm : Nat → Int32) (cn : Int32) (sm : Nat → Int32) (ac : Int32) (re : Int32) (kn : Int32) (V : Nat → Int64) (ib : Bool) (dn : Int32) (rf : Int32) (mk : Int32) (th : Int32) (xs : Nat → Int32) (i : Int32) (on : Int64) (hp0 : 2000 ≤ F) (hp1 : zTm tm) (hp2 : 0 ≤ cn.toInt) (hp3 : cn.toInt ≤ 4) (hp4 : kn = mk) (hS : zEq R V) (ha : ac = dn) (hr : re = rf) : ZE (fun (r : ((Nat → Nat → Int64) × Bool × (Nat → Int32) × (Nat → Int32) × Int32 × (Nat → Int32) × Int32 × Int32 × Int32 × (Nat → Int64) × Bool × Int32 × Int32 × Int32 × Int32 × Int64)) => zTm r.2.2.2.1 ∧ 0 ≤ r.2.2.2.2.1.toInt ∧ r.2.2.2.2.1.toInt ≤ 4 ∧ r.2.2.2.2.2.2.2.2.1 = r.2.2.2.2.2.2.2.2.2.2.2.2.2.1 ∧ zEq r.1 r.2.2.2.2.2.2.2.2.2.1 ∧ r.2.2.2.2.2.2.1 = r.2.2.2.2.2.2.2.2.2.2.2.1 ∧ r.2.2.2.2.2.2.2.1 = r.2.2.2.2.2.2.2.2.2.2.2.2.1) (p_law_5 F R b pr tm cn sm ac re kn V ib dn rf mk th xs i on) := by
  unfold p_law_5
  generalize xs (i + (1 : Int32)).toNatClampNeg = q1
  generalize xs (i + (2 : Int32)).toNatClampNeg = q2
  obtain ⟨⟨cd7, r7, R7, ac7⟩, ⟨r9, V9, dn9, th9⟩, e7, e9, hQ⟩ := zO_swap F R ac q1 q2 V dn hS ha hp0
  dsimp only at hQ
  obtain ⟨hc, hq, u2, u3⟩ := hQ
  have hT := ZE_of (t_X7_swap F R ac q1 q2 hp0) e7
  dsimp only at hT
  rcases hc with ⟨rfl, rfl⟩ | ⟨rfl, rfl⟩ | ⟨rfl, rfl⟩
  · have hL : p_L_swap F R ac q1 q2 on = some ((0 : Int32), r7.toInt64, R7, ac7) := by
      unfold p_L_swap
      rw [e7]; rfl
    refine ZE_b4e hL ?_
    refine ZE_b4e e9 ?_
    exact ⟨_, rfl, by (dsimp only; (repeat' apply And.intro) <;> assumption)⟩
  · have hL : p_L_swap F R ac q1 q2 on = some ((1 : Int32), on, R7, ac7) := by
      unfold p_L_swap
      rw [e7]; rfl
    refine ZE_b4e hL ?_
    refine ZE_b4e e9 ?_
    exact ⟨_, rfl, by (dsimp only; (repeat' apply And.intro) <;> assumption)⟩
  · exact absurd hT (by decide)

set_option maxHeartbeats 4000000 in
theorem t_law_6 (F : Nat) (R : Nat → Nat → Int64) (b : Bool) (pr : Nat → Int32) (tm : Nat → Int32) (cn : Int32) (sm : Nat → Int32) (ac : Int32) (re : Int32) (kn : Int32) (V : Nat → Int64) (ib : Bool) (dn : Int32) (rf : Int32) (mk : Int32) (th : Int32) (xs : Nat → Int32) (i : Int32) (on : Int64) (hp0 : 2000 ≤ F) (hp1 : zTm tm) (hp2 : 0 ≤ cn.toInt) (hp3 : cn.toInt ≤ 4) (hp4 : kn = mk) (hS : zEq R V) (ha : ac = dn) (hr : re = rf) : ZE (fun (r : ((Nat → Nat → Int64) × Bool × (Nat → Int32) × (Nat → Int32) × Int32 × (Nat → Int32) × Int32 × Int32 × Int32 × (Nat → Int64) × Bool × Int32 × Int32 × Int32 × Int32 × Int64)) => zTm r.2.2.2.1 ∧ 0 ≤ r.2.2.2.2.1.toInt ∧ r.2.2.2.2.1.toInt ≤ 4 ∧ r.2.2.2.2.2.2.2.2.1 = r.2.2.2.2.2.2.2.2.2.2.2.2.2.1 ∧ zEq r.1 r.2.2.2.2.2.2.2.2.2.1 ∧ r.2.2.2.2.2.2.1 = r.2.2.2.2.2.2.2.2.2.2.2.1 ∧ r.2.2.2.2.2.2.2.1 = r.2.2.2.2.2.2.2.2.2.2.2.2.1) (p_law_6 F R b pr tm cn sm ac re kn V ib dn rf mk th xs i on) := by
  unfold p_law_6
  generalize xs (i + (1 : Int32)).toNatClampNeg = q1
  generalize xs (i + (2 : Int32)).toNatClampNeg = q2
  generalize xs (i + (3 : Int32)).toNatClampNeg = q3
  generalize xs (i + (4 : Int32)).toNatClampNeg = q4
  obtain ⟨⟨cd7, r7, R7, b7, ac7, re7⟩, ⟨r9, V9, ib9, dn9, rf9, th9⟩, e7, e9, hQ⟩ := zO_meet F R b ac re q1 q2 q3 q4 V ib dn rf hS ha hr hp0
  dsimp only at hQ
  obtain ⟨hc, hq, u2, u3, u4⟩ := hQ
  have hT := ZE_of (t_X7_meet F R b ac re q1 q2 q3 q4 hp0) e7
  dsimp only at hT
  rcases hc with ⟨rfl, rfl⟩ | ⟨rfl, rfl⟩ | ⟨rfl, rfl⟩
  · have hL : p_L_meet F R b ac re q1 q2 q3 q4 on = some ((0 : Int32), r7.toInt64, R7, b7, ac7, re7) := by
      unfold p_L_meet
      rw [e7]; rfl
    refine ZE_b6e hL ?_
    refine ZE_b6e e9 ?_
    exact ⟨_, rfl, by (dsimp only; (repeat' apply And.intro) <;> assumption)⟩
  · have hL : p_L_meet F R b ac re q1 q2 q3 q4 on = some ((1 : Int32), on, R7, b7, ac7, re7) := by
      unfold p_L_meet
      rw [e7]; rfl
    refine ZE_b6e hL ?_
    refine ZE_b6e e9 ?_
    exact ⟨_, rfl, by (dsimp only; (repeat' apply And.intro) <;> assumption)⟩
  · have hL : p_L_meet F R b ac re q1 q2 q3 q4 on = some ((2 : Int32), on, R7, b7, ac7, re7) := by
      unfold p_L_meet
      rw [e7]; rfl
    refine ZE_b6e hL ?_
    refine ZE_b6e e9 ?_
    exact ⟨_, rfl, by (dsimp only; (repeat' apply And.intro) <;> assumption)⟩

set_option maxHeartbeats 4000000 in
theorem t_law_7 (F : Nat) (R : Nat → Nat → Int64) (b : Bool) (pr : Nat → Int32) (tm : Nat → Int32) (cn : Int32) (sm : Nat → Int32) (ac : Int32) (re : Int32) (kn : Int32) (V : Nat → Int64) (ib : Bool) (dn : Int32) (rf : Int32) (mk : Int32) (th : Int32) (xs : Nat → Int32) (i : Int32) (on : Int64) (hp0 : 2000 ≤ F) (hp1 : zTm tm) (hp2 : 0 ≤ cn.toInt) (hp3 : cn.toInt ≤ 4) (hp4 : kn = mk) (hS : zEq R V) (ha : ac = dn) (hr : re = rf) : ZE (fun (r : ((Nat → Nat → Int64) × Bool × (Nat → Int32) × (Nat → Int32) × Int32 × (Nat → Int32) × Int32 × Int32 × Int32 × (Nat → Int64) × Bool × Int32 × Int32 × Int32 × Int32 × Int64)) => zTm r.2.2.2.1 ∧ 0 ≤ r.2.2.2.2.1.toInt ∧ r.2.2.2.2.1.toInt ≤ 4 ∧ r.2.2.2.2.2.2.2.2.1 = r.2.2.2.2.2.2.2.2.2.2.2.2.2.1 ∧ zEq r.1 r.2.2.2.2.2.2.2.2.2.1 ∧ r.2.2.2.2.2.2.1 = r.2.2.2.2.2.2.2.2.2.2.2.1 ∧ r.2.2.2.2.2.2.2.1 = r.2.2.2.2.2.2.2.2.2.2.2.2.1) (p_law_7 F R b pr tm cn sm ac re kn V ib dn rf mk th xs i on) := by
  unfold p_law_7
  generalize xs (i + (1 : Int32)).toNatClampNeg = q1
  generalize xs (i + (2 : Int32)).toNatClampNeg = q2
  generalize xs (i + (3 : Int32)).toNatClampNeg = q3
  obtain ⟨⟨cd7, r7, R7, b7, ac7, re7⟩, ⟨r9, V9, ib9, dn9, rf9, th9⟩, e7, e9, hQ⟩ := zO_multiply F R b ac re q1 q2 q3 V ib dn rf hS ha hr hp0
  dsimp only at hQ
  obtain ⟨hc, hq, u2, u3, u4⟩ := hQ
  have hT := ZE_of (t_X7_multiply F R b ac re q1 q2 q3 hp0) e7
  dsimp only at hT
  rcases hc with ⟨rfl, rfl⟩ | ⟨rfl, rfl⟩ | ⟨rfl, rfl⟩
  · have hL : p_L_multiply F R b ac re q1 q2 q3 on = some ((0 : Int32), r7.toInt64, R7, b7, ac7, re7) := by
      unfold p_L_multiply
      rw [e7]; rfl
    refine ZE_b6e hL ?_
    refine ZE_b6e e9 ?_
    exact ⟨_, rfl, by (dsimp only; (repeat' apply And.intro) <;> assumption)⟩
  · have hL : p_L_multiply F R b ac re q1 q2 q3 on = some ((1 : Int32), on, R7, b7, ac7, re7) := by
      unfold p_L_multiply
      rw [e7]; rfl
    refine ZE_b6e hL ?_
    refine ZE_b6e e9 ?_
    exact ⟨_, rfl, by (dsimp only; (repeat' apply And.intro) <;> assumption)⟩
  · exact absurd hT (by decide)

set_option maxHeartbeats 4000000 in
theorem t_law_8 (F : Nat) (R : Nat → Nat → Int64) (b : Bool) (pr : Nat → Int32) (tm : Nat → Int32) (cn : Int32) (sm : Nat → Int32) (ac : Int32) (re : Int32) (kn : Int32) (V : Nat → Int64) (ib : Bool) (dn : Int32) (rf : Int32) (mk : Int32) (th : Int32) (xs : Nat → Int32) (i : Int32) (on : Int64) (hp0 : 2000 ≤ F) (hp1 : zTm tm) (hp2 : 0 ≤ cn.toInt) (hp3 : cn.toInt ≤ 4) (hp4 : kn = mk) (hS : zEq R V) (ha : ac = dn) (hr : re = rf) : ZE (fun (r : ((Nat → Nat → Int64) × Bool × (Nat → Int32) × (Nat → Int32) × Int32 × (Nat → Int32) × Int32 × Int32 × Int32 × (Nat → Int64) × Bool × Int32 × Int32 × Int32 × Int32 × Int64)) => zTm r.2.2.2.1 ∧ 0 ≤ r.2.2.2.2.1.toInt ∧ r.2.2.2.2.1.toInt ≤ 4 ∧ r.2.2.2.2.2.2.2.2.1 = r.2.2.2.2.2.2.2.2.2.2.2.2.2.1 ∧ zEq r.1 r.2.2.2.2.2.2.2.2.2.1 ∧ r.2.2.2.2.2.2.1 = r.2.2.2.2.2.2.2.2.2.2.2.1 ∧ r.2.2.2.2.2.2.2.1 = r.2.2.2.2.2.2.2.2.2.2.2.2.1) (p_law_8 F R b pr tm cn sm ac re kn V ib dn rf mk th xs i on) := by
  unfold p_law_8
  generalize xs (i + (1 : Int32)).toNatClampNeg = q1
  generalize xs (i + (2 : Int32)).toNatClampNeg = q2
  generalize xs (i + (3 : Int32)).toNatClampNeg = q3
  obtain ⟨⟨cd7, r7, R7, b7, pr7, tm7, cn7, ac7, re7⟩, ⟨r9, V9, ib9, dn9, rf9, th9⟩, e7, e9, hQ⟩ := zO_make F R b pr tm cn ac re q1 q2 q3 V ib dn rf hS ha hr hp0
  dsimp only at hQ
  obtain ⟨hc, hq, u2, u3, u4⟩ := hQ
  have hT := ZE_of (t_X7_make F R b pr tm cn ac re q1 q2 q3 hp0 hp1 hp2 hp3) e7
  dsimp only at hT
  obtain ⟨g0, g1, g2, g3⟩ := hT
  rcases hc with ⟨rfl, rfl⟩ | ⟨rfl, rfl⟩ | ⟨rfl, rfl⟩
  · have hL : p_L_make F R b pr tm cn ac re q1 q2 q3 on = some ((0 : Int32), r7.toInt64, R7, b7, pr7, tm7, cn7, ac7, re7) := by
      unfold p_L_make
      rw [e7]; rfl
    refine ZE_b9e hL ?_
    refine ZE_b6e e9 ?_
    exact ⟨_, rfl, by (dsimp only; (repeat' apply And.intro) <;> assumption)⟩
  · have hL : p_L_make F R b pr tm cn ac re q1 q2 q3 on = some ((1 : Int32), on, R7, b7, pr7, tm7, cn7, ac7, re7) := by
      unfold p_L_make
      rw [e7]; rfl
    refine ZE_b9e hL ?_
    refine ZE_b6e e9 ?_
    exact ⟨_, rfl, by (dsimp only; (repeat' apply And.intro) <;> assumption)⟩
  · have hL : p_L_make F R b pr tm cn ac re q1 q2 q3 on = some ((2 : Int32), on, R7, b7, pr7, tm7, cn7, ac7, re7) := by
      unfold p_L_make
      rw [e7]; rfl
    refine ZE_b9e hL ?_
    refine ZE_b6e e9 ?_
    exact ⟨_, rfl, by (dsimp only; (repeat' apply And.intro) <;> assumption)⟩

set_option maxHeartbeats 4000000 in
theorem t_law_11 (F : Nat) (R : Nat → Nat → Int64) (b : Bool) (pr : Nat → Int32) (tm : Nat → Int32) (cn : Int32) (sm : Nat → Int32) (ac : Int32) (re : Int32) (kn : Int32) (V : Nat → Int64) (ib : Bool) (dn : Int32) (rf : Int32) (mk : Int32) (th : Int32) (xs : Nat → Int32) (i : Int32) (on : Int64) (hp0 : 2000 ≤ F) (hp1 : zTm tm) (hp2 : 0 ≤ cn.toInt) (hp3 : cn.toInt ≤ 4) (hp4 : kn = mk) (hS : zEq R V) (ha : ac = dn) (hr : re = rf) : ZE (fun (r : ((Nat → Nat → Int64) × Bool × (Nat → Int32) × (Nat → Int32) × Int32 × (Nat → Int32) × Int32 × Int32 × Int32 × (Nat → Int64) × Bool × Int32 × Int32 × Int32 × Int32 × Int64)) => zTm r.2.2.2.1 ∧ 0 ≤ r.2.2.2.2.1.toInt ∧ r.2.2.2.2.1.toInt ≤ 4 ∧ r.2.2.2.2.2.2.2.2.1 = r.2.2.2.2.2.2.2.2.2.2.2.2.2.1 ∧ zEq r.1 r.2.2.2.2.2.2.2.2.2.1 ∧ r.2.2.2.2.2.2.1 = r.2.2.2.2.2.2.2.2.2.2.2.1 ∧ r.2.2.2.2.2.2.2.1 = r.2.2.2.2.2.2.2.2.2.2.2.2.1) (p_law_11 F R b pr tm cn sm ac re kn V ib dn rf mk th xs i on) := by
  unfold p_law_11
  generalize xs (i + (1 : Int32)).toNatClampNeg = q1
  generalize xs (i + (2 : Int32)).toNatClampNeg = q2
  obtain ⟨⟨cd7, r7, R7, b7, pr7, tm7, cn7, sm7, ac7, re7, kn7⟩, ⟨r9, V9, ib9, dn9, rf9, mk9, th9⟩, e7, e9, hQ⟩ := zO_differ F R b pr tm cn sm ac re kn q1 q2 V ib dn rf mk hS ha hr hp4 hp0
  dsimp only at hQ
  obtain ⟨hc, hq, u2, u3, u4, u5⟩ := hQ
  have hT := ZE_of (t_X7_differ F R b pr tm cn sm ac re kn q1 q2 hp0 hp1 hp2 hp3) e7
  dsimp only at hT
  obtain ⟨g0, g1, g2, g3, g4⟩ := hT
  rcases hc with ⟨rfl, rfl⟩ | ⟨rfl, rfl⟩ | ⟨rfl, rfl⟩
  · have hL : p_L_differ F R b pr tm cn sm ac re kn q1 q2 on = some ((0 : Int32), r7.toInt64, R7, b7, pr7, tm7, cn7, sm7, ac7, re7, kn7) := by
      unfold p_L_differ
      rw [e7]; rfl
    refine ZE_b11e hL ?_
    refine ZE_b7e e9 ?_
    exact ⟨_, rfl, by (dsimp only; (repeat' apply And.intro) <;> assumption)⟩
  · have hL : p_L_differ F R b pr tm cn sm ac re kn q1 q2 on = some ((1 : Int32), on, R7, b7, pr7, tm7, cn7, sm7, ac7, re7, kn7) := by
      unfold p_L_differ
      rw [e7]; rfl
    refine ZE_b11e hL ?_
    refine ZE_b7e e9 ?_
    exact ⟨_, rfl, by (dsimp only; (repeat' apply And.intro) <;> assumption)⟩
  · exact absurd g0 (by decide)

set_option maxHeartbeats 4000000 in
theorem t_law_12 (F : Nat) (R : Nat → Nat → Int64) (b : Bool) (pr : Nat → Int32) (tm : Nat → Int32) (cn : Int32) (sm : Nat → Int32) (ac : Int32) (re : Int32) (kn : Int32) (V : Nat → Int64) (ib : Bool) (dn : Int32) (rf : Int32) (mk : Int32) (th : Int32) (xs : Nat → Int32) (i : Int32) (on : Int64) (hp0 : 2000 ≤ F) (hp1 : zTm tm) (hp2 : 0 ≤ cn.toInt) (hp3 : cn.toInt ≤ 4) (hp4 : kn = mk) (hS : zEq R V) (ha : ac = dn) (hr : re = rf) : ZE (fun (r : ((Nat → Nat → Int64) × Bool × (Nat → Int32) × (Nat → Int32) × Int32 × (Nat → Int32) × Int32 × Int32 × Int32 × (Nat → Int64) × Bool × Int32 × Int32 × Int32 × Int32 × Int64)) => zTm r.2.2.2.1 ∧ 0 ≤ r.2.2.2.2.1.toInt ∧ r.2.2.2.2.1.toInt ≤ 4 ∧ r.2.2.2.2.2.2.2.2.1 = r.2.2.2.2.2.2.2.2.2.2.2.2.2.1 ∧ zEq r.1 r.2.2.2.2.2.2.2.2.2.1 ∧ r.2.2.2.2.2.2.1 = r.2.2.2.2.2.2.2.2.2.2.2.1 ∧ r.2.2.2.2.2.2.2.1 = r.2.2.2.2.2.2.2.2.2.2.2.2.1) (p_law_12 F R b pr tm cn sm ac re kn V ib dn rf mk th xs i on) := by
  unfold p_law_12
  generalize xs (i + (1 : Int32)).toNatClampNeg = q1
  generalize xs (i + (2 : Int32)).toNatClampNeg = q2
  obtain ⟨⟨cd7, r7, R7, b7, pr7, tm7, cn7, sm7, ac7, re7, kn7⟩, ⟨r9, V9, ib9, dn9, rf9, mk9, th9⟩, e7, e9, hQ⟩ := zO_is F R b pr tm cn sm ac re kn q1 q2 V ib dn rf mk hS ha hr hp4 hp0
  dsimp only at hQ
  obtain ⟨hc, hq, u2, u3, u4, u5⟩ := hQ
  have hT := ZE_of (t_X7_is F R b pr tm cn sm ac re kn q1 q2 hp0 hp1 hp2 hp3) e7
  dsimp only at hT
  obtain ⟨g0, g1, g2, g3, g4⟩ := hT
  rcases hc with ⟨rfl, rfl⟩ | ⟨rfl, rfl⟩ | ⟨rfl, rfl⟩
  · have hL : p_L_is F R b pr tm cn sm ac re kn q1 q2 on = some ((0 : Int32), (if z01 r7 = 0 then (0 : Int64) else 1), R7, b7, pr7, tm7, cn7, sm7, ac7, re7, kn7) := by
      unfold p_L_is
      rw [e7]; cases r7 <;> rfl
    refine ZE_b11e hL ?_
    refine ZE_b7e e9 ?_
    exact ⟨_, rfl, by (dsimp only; (repeat' apply And.intro) <;> assumption)⟩
  · have hL : p_L_is F R b pr tm cn sm ac re kn q1 q2 on = some ((1 : Int32), on, R7, b7, pr7, tm7, cn7, sm7, ac7, re7, kn7) := by
      unfold p_L_is
      rw [e7]; rfl
    refine ZE_b11e hL ?_
    refine ZE_b7e e9 ?_
    exact ⟨_, rfl, by (dsimp only; (repeat' apply And.intro) <;> assumption)⟩
  · have hL : p_L_is F R b pr tm cn sm ac re kn q1 q2 on = some ((2 : Int32), on, R7, b7, pr7, tm7, cn7, sm7, ac7, re7, kn7) := by
      unfold p_L_is
      rw [e7]; rfl
    refine ZE_b11e hL ?_
    refine ZE_b7e e9 ?_
    exact ⟨_, rfl, by (dsimp only; (repeat' apply And.intro) <;> assumption)⟩

set_option maxHeartbeats 4000000 in
theorem t_law_14 (F : Nat) (R : Nat → Nat → Int64) (b : Bool) (pr : Nat → Int32) (tm : Nat → Int32) (cn : Int32) (sm : Nat → Int32) (ac : Int32) (re : Int32) (kn : Int32) (V : Nat → Int64) (ib : Bool) (dn : Int32) (rf : Int32) (mk : Int32) (th : Int32) (xs : Nat → Int32) (i : Int32) (on : Int64) (hp0 : 2000 ≤ F) (hp1 : zTm tm) (hp2 : 0 ≤ cn.toInt) (hp3 : cn.toInt ≤ 4) (hp4 : kn = mk) (hS : zEq R V) (ha : ac = dn) (hr : re = rf) : ZE (fun (r : ((Nat → Nat → Int64) × Bool × (Nat → Int32) × (Nat → Int32) × Int32 × (Nat → Int32) × Int32 × Int32 × Int32 × (Nat → Int64) × Bool × Int32 × Int32 × Int32 × Int32 × Int64)) => zTm r.2.2.2.1 ∧ 0 ≤ r.2.2.2.2.1.toInt ∧ r.2.2.2.2.1.toInt ≤ 4 ∧ r.2.2.2.2.2.2.2.2.1 = r.2.2.2.2.2.2.2.2.2.2.2.2.2.1 ∧ zEq r.1 r.2.2.2.2.2.2.2.2.2.1 ∧ r.2.2.2.2.2.2.1 = r.2.2.2.2.2.2.2.2.2.2.2.1 ∧ r.2.2.2.2.2.2.2.1 = r.2.2.2.2.2.2.2.2.2.2.2.2.1) (p_law_14 F R b pr tm cn sm ac re kn V ib dn rf mk th xs i on) := by
  unfold p_law_14
  generalize xs (i + (1 : Int32)).toNatClampNeg = q1
  generalize xs (i + (2 : Int32)).toNatClampNeg = q2
  generalize xs (i + (3 : Int32)).toNatClampNeg = q3
  generalize xs (i + (4 : Int32)).toNatClampNeg = q4
  refine ZE_b11 (Q := fun (r : (Int32 × Int64 × (Nat → Nat → Int64) × Bool × (Nat → Int32) × (Nat → Int32) × Int32 × (Nat → Int32) × Int32 × Int32 × Int32)) => r.2.2.1 = R ∧ r.2.2.2.1 = b ∧ r.2.2.2.2.1 = pr ∧ r.2.2.2.2.2.1 = tm ∧ r.2.2.2.2.2.2.1 = cn ∧ r.2.2.2.2.2.2.2.1 = sm ∧ r.2.2.2.2.2.2.2.2.1 = ac ∧ r.2.2.2.2.2.2.2.2.2.1 = re ∧ r.2.2.2.2.2.2.2.2.2.2 = kn ∧ zTm r.2.2.2.2.2.1 ∧ 0 ≤ r.2.2.2.2.2.2.1.toInt ∧ r.2.2.2.2.2.2.1.toInt ≤ 4 ∧ r.2.2.2.2.2.2.2.2.2.2 = kn) ?_ (fun r1 on2 R7 b7 pr7 tm7 cn7 sm7 ac7 re7 kn7 h => ?_)
  · unfold p_L_totalOfProduct
    refine ZE_b10 (ZE_and (zTp7 F R b pr tm cn sm ac re kn q1 q2 q3 q4 hp0) (t_X7_totalOfProduct F R b pr tm cn sm ac re kn q1 q2 q3 q4 hp0 hp1 hp2 hp3)) (fun cd7 R7 b7 pr7 tm7 cn7 sm7 ac7 re7 kn7 h => ?_)
    obtain ⟨h1, g0, g1, g2, g3, g4⟩ := h
    dsimp only at h1 g0
    simp only [Prod.mk.injEq] at h1
    obtain ⟨rfl, rfl, rfl, rfl, rfl, rfl, rfl, rfl, rfl⟩ := h1
    rcases g0 with rfl | rfl | rfl | rfl
    · exact ZE_if (fun _ => ⟨_, rfl, rfl, rfl, rfl, rfl, rfl, rfl, rfl, rfl, rfl, g1, g2, g3, g4⟩) (fun c => absurd rfl c)
    · exact ZE_if (fun c => absurd c (by decide)) (fun _ => ZE_if (fun _ => ⟨_, rfl, rfl, rfl, rfl, rfl, rfl, rfl, rfl, rfl, rfl, g1, g2, g3, g4⟩) (fun c => absurd rfl c))
    · exact ZE_if (fun c => absurd c (by decide)) (fun _ => ZE_if (fun c => absurd c (by decide)) (fun _ => ZE_if (fun _ => ⟨_, rfl, rfl, rfl, rfl, rfl, rfl, rfl, rfl, rfl, rfl, g1, g2, g3, g4⟩) (fun c => absurd rfl c)))
    · exact ZE_if (fun c => absurd c (by decide)) (fun _ => ZE_if (fun c => absurd c (by decide)) (fun _ => ZE_if (fun c => absurd c (by decide)) (fun _ => ZE_if (fun _ => ⟨_, rfl, rfl, rfl, rfl, rfl, rfl, rfl, rfl, rfl, rfl, g1, g2, g3, g4⟩) (fun c => absurd rfl c))))
  dsimp only at h
  obtain ⟨rfl, rfl, rfl, rfl, rfl, rfl, rfl, rfl, rfl, g1, g2, g3, g4⟩ := h
  refine ZE_b2 (t_X9_totalOfProduct F V ib q1 q2 q3 q4 hp0) (fun ib9 th9 _ => ?_)
  exact ⟨_, rfl, by (dsimp only; (repeat' apply And.intro) <;> assumption)⟩

set_option maxHeartbeats 4000000 in
theorem t_law_15 (F : Nat) (R : Nat → Nat → Int64) (b : Bool) (pr : Nat → Int32) (tm : Nat → Int32) (cn : Int32) (sm : Nat → Int32) (ac : Int32) (re : Int32) (kn : Int32) (V : Nat → Int64) (ib : Bool) (dn : Int32) (rf : Int32) (mk : Int32) (th : Int32) (xs : Nat → Int32) (i : Int32) (on : Int64) (hp0 : 2000 ≤ F) (hp1 : zTm tm) (hp2 : 0 ≤ cn.toInt) (hp3 : cn.toInt ≤ 4) (hp4 : kn = mk) (hS : zEq R V) (ha : ac = dn) (hr : re = rf) : ZE (fun (r : ((Nat → Nat → Int64) × Bool × (Nat → Int32) × (Nat → Int32) × Int32 × (Nat → Int32) × Int32 × Int32 × Int32 × (Nat → Int64) × Bool × Int32 × Int32 × Int32 × Int32 × Int64)) => zTm r.2.2.2.1 ∧ 0 ≤ r.2.2.2.2.1.toInt ∧ r.2.2.2.2.1.toInt ≤ 4 ∧ r.2.2.2.2.2.2.2.2.1 = r.2.2.2.2.2.2.2.2.2.2.2.2.2.1 ∧ zEq r.1 r.2.2.2.2.2.2.2.2.2.1 ∧ r.2.2.2.2.2.2.1 = r.2.2.2.2.2.2.2.2.2.2.2.1 ∧ r.2.2.2.2.2.2.2.1 = r.2.2.2.2.2.2.2.2.2.2.2.2.1) (p_law_15 F R b pr tm cn sm ac re kn V ib dn rf mk th xs i on) := by
  unfold p_law_15
  generalize xs (i + (1 : Int32)).toNatClampNeg = q1
  generalize xs (i + (2 : Int32)).toNatClampNeg = q2
  generalize xs (i + (3 : Int32)).toNatClampNeg = q3
  refine ZE_b11 (Q := fun (r : (Int32 × Int64 × (Nat → Nat → Int64) × Bool × (Nat → Int32) × (Nat → Int32) × Int32 × (Nat → Int32) × Int32 × Int32 × Int32)) => r.2.2.1 = R ∧ r.2.2.2.2.2.2.2.1 = sm ∧ r.2.2.2.2.2.2.2.2.1 = ac ∧ r.2.2.2.2.2.2.2.2.2.1 = re ∧ r.2.2.2.2.2.2.2.2.2.2 = kn ∧ zTm r.2.2.2.2.2.1 ∧ 0 ≤ r.2.2.2.2.2.2.1.toInt ∧ r.2.2.2.2.2.2.1.toInt ≤ 4 ∧ r.2.2.2.2.2.2.2.2.2.2 = kn) ?_ (fun r1 on2 R7 b7 pr7 tm7 cn7 sm7 ac7 re7 kn7 h => ?_)
  · unfold p_L_determinant
    refine ZE_b10 (ZE_and (zDe7 F R b pr tm cn sm ac re kn q1 q2 q3 hp0) (t_X7_determinant F R b pr tm cn sm ac re kn q1 q2 q3 hp0 hp1 hp2 hp3)) (fun cd7 R7 b7 pr7 tm7 cn7 sm7 ac7 re7 kn7 h => ?_)
    obtain ⟨h1, g0, g1, g2, g3, g4⟩ := h
    dsimp only at h1 g0
    simp only [Prod.mk.injEq] at h1
    obtain ⟨rfl, rfl, rfl, rfl, rfl⟩ := h1
    rcases g0 with rfl | rfl | rfl | rfl
    · exact ZE_if (fun _ => ⟨_, rfl, rfl, rfl, rfl, rfl, rfl, g1, g2, g3, g4⟩) (fun c => absurd rfl c)
    · exact ZE_if (fun c => absurd c (by decide)) (fun _ => ZE_if (fun _ => ⟨_, rfl, rfl, rfl, rfl, rfl, rfl, g1, g2, g3, g4⟩) (fun c => absurd rfl c))
    · exact ZE_if (fun c => absurd c (by decide)) (fun _ => ZE_if (fun c => absurd c (by decide)) (fun _ => ZE_if (fun _ => ⟨_, rfl, rfl, rfl, rfl, rfl, rfl, g1, g2, g3, g4⟩) (fun c => absurd rfl c)))
    · exact ZE_if (fun c => absurd c (by decide)) (fun _ => ZE_if (fun c => absurd c (by decide)) (fun _ => ZE_if (fun c => absurd c (by decide)) (fun _ => ZE_if (fun _ => ⟨_, rfl, rfl, rfl, rfl, rfl, rfl, g1, g2, g3, g4⟩) (fun c => absurd rfl c))))
  dsimp only at h
  obtain ⟨rfl, rfl, rfl, rfl, rfl, g1, g2, g3, g4⟩ := h
  refine ZE_b1 (t_X9_determinant F V q1 q2 q3 hp0) (fun th9 _ => ?_)
  exact ⟨_, rfl, by (dsimp only; (repeat' apply And.intro) <;> assumption)⟩

set_option maxHeartbeats 4000000 in
theorem t_law_24 (F : Nat) (R : Nat → Nat → Int64) (b : Bool) (pr : Nat → Int32) (tm : Nat → Int32) (cn : Int32) (sm : Nat → Int32) (ac : Int32) (re : Int32) (kn : Int32) (V : Nat → Int64) (ib : Bool) (dn : Int32) (rf : Int32) (mk : Int32) (th : Int32) (xs : Nat → Int32) (i : Int32) (on : Int64) (hp0 : 2000 ≤ F) (hp1 : zTm tm) (hp2 : 0 ≤ cn.toInt) (hp3 : cn.toInt ≤ 4) (hp4 : kn = mk) (hS : zEq R V) (ha : ac = dn) (hr : re = rf) : ZE (fun (r : ((Nat → Nat → Int64) × Bool × (Nat → Int32) × (Nat → Int32) × Int32 × (Nat → Int32) × Int32 × Int32 × Int32 × (Nat → Int64) × Bool × Int32 × Int32 × Int32 × Int32 × Int64)) => zTm r.2.2.2.1 ∧ 0 ≤ r.2.2.2.2.1.toInt ∧ r.2.2.2.2.1.toInt ≤ 4 ∧ r.2.2.2.2.2.2.2.2.1 = r.2.2.2.2.2.2.2.2.2.2.2.2.2.1 ∧ zEq r.1 r.2.2.2.2.2.2.2.2.2.1 ∧ r.2.2.2.2.2.2.1 = r.2.2.2.2.2.2.2.2.2.2.2.1 ∧ r.2.2.2.2.2.2.2.1 = r.2.2.2.2.2.2.2.2.2.2.2.2.1) (p_law_24 F R b pr tm cn sm ac re kn V ib dn rf mk th xs i on) := by
  unfold p_law_24
  generalize xs (i + (1 : Int32)).toNatClampNeg = q1
  generalize xs (i + (2 : Int32)).toNatClampNeg = q2
  obtain ⟨⟨cd7, r7, R7, b7, pr7, tm7, cn7, sm7, ac7, re7, kn7⟩, e7, hT⟩ := (t_X7_divisor F R b pr tm cn sm ac re kn q1 q2 hp0 hp1 hp2 hp3)
  obtain ⟨⟨r9, V9, ib9, dn9, rf9, mk9, th9⟩, e9, hM⟩ := (t_X9_divisor F V ib dn rf mk q1 q2 hp0)
  have s7 := zDv7 F R b pr tm cn sm ac re kn q1 q2 _ e7
  have s9 := zDv9 F V ib dn rf mk q1 q2 _ e9
  dsimp only at s7 s9 hT hM
  simp only [Prod.mk.injEq] at s7 s9
  obtain ⟨rfl, rfl, rfl, rfl, rfl, rfl, rfl, rfl, rfl⟩ := s7
  obtain ⟨rfl, rfl, rfl⟩ := s9
  subst hM
  obtain ⟨g0, _⟩ := hT
  rcases g0 with rfl | rfl
  · have hL : p_L_divisor F R7 b7 pr7 tm7 cn7 sm7 ac7 re7 kn7 q1 q2 on = some ((0 : Int32), r7.toInt64, R7, b7, pr7, tm7, cn7, sm7, ac7, re7, kn7) := by
      unfold p_L_divisor
      rw [e7]; rfl
    refine ZE_b11e hL (ZE_b7e e9 ?_)
    exact ⟨_, rfl, by (dsimp only; (repeat' apply And.intro) <;> assumption)⟩
  · have hL : p_L_divisor F R7 b7 pr7 tm7 cn7 sm7 ac7 re7 kn7 q1 q2 on = some ((1 : Int32), on, R7, b7, pr7, tm7, cn7, sm7, ac7, re7, kn7) := by
      unfold p_L_divisor
      rw [e7]; rfl
    refine ZE_b11e hL (ZE_b7e e9 ?_)
    exact ⟨_, rfl, by (dsimp only; (repeat' apply And.intro) <;> assumption)⟩

set_option maxHeartbeats 4000000 in
theorem t_law_27 (F : Nat) (R : Nat → Nat → Int64) (b : Bool) (pr : Nat → Int32) (tm : Nat → Int32) (cn : Int32) (sm : Nat → Int32) (ac : Int32) (re : Int32) (kn : Int32) (V : Nat → Int64) (ib : Bool) (dn : Int32) (rf : Int32) (mk : Int32) (th : Int32) (xs : Nat → Int32) (i : Int32) (on : Int64) (hp0 : 2000 ≤ F) (hp1 : zTm tm) (hp2 : 0 ≤ cn.toInt) (hp3 : cn.toInt ≤ 4) (hp4 : kn = mk) (hS : zEq R V) (ha : ac = dn) (hr : re = rf) : ZE (fun (r : ((Nat → Nat → Int64) × Bool × (Nat → Int32) × (Nat → Int32) × Int32 × (Nat → Int32) × Int32 × Int32 × Int32 × (Nat → Int64) × Bool × Int32 × Int32 × Int32 × Int32 × Int64)) => zTm r.2.2.2.1 ∧ 0 ≤ r.2.2.2.2.1.toInt ∧ r.2.2.2.2.1.toInt ≤ 4 ∧ r.2.2.2.2.2.2.2.2.1 = r.2.2.2.2.2.2.2.2.2.2.2.2.2.1 ∧ zEq r.1 r.2.2.2.2.2.2.2.2.2.1 ∧ r.2.2.2.2.2.2.1 = r.2.2.2.2.2.2.2.2.2.2.2.1 ∧ r.2.2.2.2.2.2.2.1 = r.2.2.2.2.2.2.2.2.2.2.2.2.1) (p_law_27 F R b pr tm cn sm ac re kn V ib dn rf mk th xs i on) := by
  subst hp4
  exact ⟨_, rfl, hp1, hp2, hp3, rfl, hS, ha, hr⟩

set_option maxHeartbeats 4000000 in
theorem t_law_28 (F : Nat) (R : Nat → Nat → Int64) (b : Bool) (pr : Nat → Int32) (tm : Nat → Int32) (cn : Int32) (sm : Nat → Int32) (ac : Int32) (re : Int32) (kn : Int32) (V : Nat → Int64) (ib : Bool) (dn : Int32) (rf : Int32) (mk : Int32) (th : Int32) (xs : Nat → Int32) (i : Int32) (on : Int64) (hp0 : 2000 ≤ F) (hp1 : zTm tm) (hp2 : 0 ≤ cn.toInt) (hp3 : cn.toInt ≤ 4) (hp4 : kn = mk) (hS : zEq R V) (ha : ac = dn) (hr : re = rf) : ZE (fun (r : ((Nat → Nat → Int64) × Bool × (Nat → Int32) × (Nat → Int32) × Int32 × (Nat → Int32) × Int32 × Int32 × Int32 × (Nat → Int64) × Bool × Int32 × Int32 × Int32 × Int32 × Int64)) => zTm r.2.2.2.1 ∧ 0 ≤ r.2.2.2.2.1.toInt ∧ r.2.2.2.2.1.toInt ≤ 4 ∧ r.2.2.2.2.2.2.2.2.1 = r.2.2.2.2.2.2.2.2.2.2.2.2.2.1 ∧ zEq r.1 r.2.2.2.2.2.2.2.2.2.1 ∧ r.2.2.2.2.2.2.1 = r.2.2.2.2.2.2.2.2.2.2.2.1 ∧ r.2.2.2.2.2.2.2.1 = r.2.2.2.2.2.2.2.2.2.2.2.2.1) (p_law_28 F R b pr tm cn sm ac re kn V ib dn rf mk th xs i on) := by
  unfold p_law_28

  refine ZE_b10 (ZE_and (zSnd F R pr tm cn sm ac re kn hp0) (t_X7_isSound F R pr tm cn sm ac re kn hp0 hp1 hp2 hp3)) (fun r7 R7 b7 pr7 tm7 cn7 sm7 ac7 re7 kn7 h => ?_)
  obtain ⟨⟨h1, hA, h3⟩, g0, g1, g2, g3⟩ := h
  dsimp only at h1 hA h3 g0 g1 g2 g3
  simp only [Prod.mk.injEq] at h3
  obtain ⟨rfl, rfl, rfl⟩ := h3
  have hS7 := zEq_same hS hA
  refine ZE_b2e rfl ?_
  exact ⟨_, rfl, by (dsimp only; (repeat' apply And.intro) <;> assumption)⟩

set_option maxHeartbeats 4000000 in
theorem t_law_29 (F : Nat) (R : Nat → Nat → Int64) (b : Bool) (pr : Nat → Int32) (tm : Nat → Int32) (cn : Int32) (sm : Nat → Int32) (ac : Int32) (re : Int32) (kn : Int32) (V : Nat → Int64) (ib : Bool) (dn : Int32) (rf : Int32) (mk : Int32) (th : Int32) (xs : Nat → Int32) (i : Int32) (on : Int64) (hp0 : 2000 ≤ F) (hp1 : zTm tm) (hp2 : 0 ≤ cn.toInt) (hp3 : cn.toInt ≤ 4) (hp4 : kn = mk) (hS : zEq R V) (ha : ac = dn) (hr : re = rf) : ZE (fun (r : ((Nat → Nat → Int64) × Bool × (Nat → Int32) × (Nat → Int32) × Int32 × (Nat → Int32) × Int32 × Int32 × Int32 × (Nat → Int64) × Bool × Int32 × Int32 × Int32 × Int32 × Int64)) => zTm r.2.2.2.1 ∧ 0 ≤ r.2.2.2.2.1.toInt ∧ r.2.2.2.2.1.toInt ≤ 4 ∧ r.2.2.2.2.2.2.2.2.1 = r.2.2.2.2.2.2.2.2.2.2.2.2.2.1 ∧ zEq r.1 r.2.2.2.2.2.2.2.2.2.1 ∧ r.2.2.2.2.2.2.1 = r.2.2.2.2.2.2.2.2.2.2.2.1 ∧ r.2.2.2.2.2.2.2.1 = r.2.2.2.2.2.2.2.2.2.2.2.2.1) (p_law_29 F R b pr tm cn sm ac re kn V ib dn rf mk th xs i on) := by
  unfold p_law_29

  refine ZE_b10 (ZE_and (zDg7 F R pr tm cn sm ac re kn hp0) (t_X7_digest F R pr tm cn sm ac re kn hp0 hp1 hp2 hp3)) (fun r7 R7 b7 pr7 tm7 cn7 sm7 ac7 re7 kn7 h => ?_)
  obtain ⟨⟨h1, hA, h3⟩, g0, g1, g2, g3⟩ := h
  dsimp only at h1 hA h3 g0 g1 g2 g3
  simp only [Prod.mk.injEq] at h3
  obtain ⟨rfl, rfl, rfl⟩ := h3
  have hS7 := zEq_same hS hA
  refine ZE_b2 (zDg9 F V dn rf mk hp0) (fun r9 th9 h => ?_)
  simp only [Prod.mk.injEq] at h
  obtain ⟨rfl, rfl⟩ := h
  rw [zDgE hS, ha, hr, hp4] at h1
  subst h1
  refine ZE_if (fun _ => ?_) (fun c => absurd (zlc0 _) c)
  exact ⟨_, rfl, by (dsimp only; (repeat' apply And.intro) <;> assumption)⟩
