-- ==================== the digest
def dgI (u : Nat → Int64) (s : Int64) : Nat → Int64
  | 0 => s
  | n + 1 => dgI u s n * (31 : Int64) + u (n + 1)
def dgA (W : Nat → Nat → Int64) : Nat → Int64
  | 0 => 8027
  | i + 1 => dgI (W i) (dgA W i) 120
theorem dgI_eq {u w : Nat → Int64} {s : Int64} (n : Nat) (h : ∀ j, 1 ≤ j → j ≤ n → u j = w j) : dgI u s n = dgI w s n := by
  induction n with
  | zero => rfl
  | succ n ih =>
    show dgI u s n * (31 : Int64) + u (n + 1) = dgI w s n * (31 : Int64) + w (n + 1)
    rw [ih (fun j p q => h j p (by omega)), h (n + 1) (by omega) (by omega)]
theorem dgA_eq {U W : Nat → Nat → Int64} (n : Nat) (h : ∀ i j, i < n → 1 ≤ j → j ≤ 120 → U i j = W i j) : dgA U n = dgA W n := by
  induction n with
  | zero => rfl
  | succ n ih =>
    show dgI (U n) (dgA U n) 120 = dgI (W n) (dgA W n) 120
    rw [ih (fun i j p q r => h i j (by omega) q r), dgI_eq 120 (fun j p q => h n j (by omega) p q)]

set_option maxHeartbeats 2000000 in
theorem zDg7I {P : (Int64 × (Nat → Nat → Int64) × Bool × (Nat → Int32) × (Nat → Int32) × Int32 × (Nat → Int32) × Int32 × Int32 × Int32) → Prop} (F : Nat) (R : Nat → Nat → Int64) (v3_0 : Int32) (hF : 2000 ≤ F) (x : Nat) (hx : v3_0.toInt = x) (hx3 : x ≤ 3) (s : Int64) (k : Int64 → Int32 → Option (Int64 × (Nat → Nat → Int64) × Bool × (Nat → Int32) × (Nat → Int32) × Int32 × (Nat → Int32) × Int32 × Int32 × Int32)) (hk : ∀ (va : Int64) (vd : Int32), va = dgI (R x) s 120 → ZE P (k va vd)) : ∀ (f : Nat) (va : Int64) (vd : Int32) (d : Nat), vd.toInt = ((d + 1 : Nat) : Int) → d ≤ 120 → va = dgI (R x) s d → 121 - d < f → ZE P (p_X7_digest_L1 F R v3_0 k f va vd) := by
  intro f
  induction f with
  | zero => intros; rename_i hm; exact absurd hm (Nat.not_lt_zero _)
  | succ f ih =>
    intro va vd d hd hdn ha hm
    show ZE P (if (120 : Int32) < vd then (k va vd) else (zg (v3_0 < 0 ∨ 4 ≤ v3_0.toNatClampNeg) (zb1 (p_X4_at R (v3_0.toNatClampNeg) vd) (fun r12 => (p_X7_digest_L1 F R v3_0 k f ((va * (31 : Int64)) + r12) (vd + (1 : Int32)))))))
    have e1 := zAddN hd (by omega)
    have o120 : (120 : Int32).toInt = 120 := by decide
    refine ZE_if (fun c => ?_) (fun c => ?_)
    · rw [Int32.lt_iff_toInt_lt, o120] at c
      have hde : d = 120 := by omega
      subst hde
      exact hk _ _ ha
    · rw [Int32.lt_iff_toInt_lt, o120] at c
      refine ZE_zg (zgi (x := v3_0) (n := 4) (by omega) (by omega)) ?_
      rw [zClN hx]
      refine ZE_b1e (zAt7 R x hd (by omega) (by omega)) ?_
      exact ih _ _ (d + 1) e1 (by omega) (by rw [ha]; rfl) (by omega)

set_option maxHeartbeats 2000000 in
theorem zDg9I {P : (Int64 × Int32) → Prop} (F : Nat) (V : Nat → Int64) (v3_0 : Int32) (hF : 2000 ≤ F) (x : Nat) (hx : v3_0.toInt = x) (hx3 : x ≤ 3) (s : Int64) (k : Int64 → Int32 → Option (Int64 × Int32)) (hk : ∀ (va : Int64) (vd : Int32), va = dgI (fun j => V (121 * x + j)) s 120 → ZE P (k va vd)) : ∀ (f : Nat) (va : Int64) (vd : Int32) (d : Nat), vd.toInt = ((d + 1 : Nat) : Int) → d ≤ 120 → va = dgI (fun j => V (121 * x + j)) s d → 121 - d < f → ZE P (p_X9_digest_L1 F V v3_0 k f va vd) := by
  intro f
  induction f with
  | zero => intros; rename_i hm; exact absurd hm (Nat.not_lt_zero _)
  | succ f ih =>
    intro va vd d hd hdn ha hm
    show ZE P (if (120 : Int32) < vd then (k va vd) else (zb1 (p_X9_at V v3_0 vd) (fun r1 => (p_X9_digest_L1 F V v3_0 k f ((va * (31 : Int64)) + r1) (vd + (1 : Int32))))))
    have e1 := zAddN hd (by omega)
    have o120 : (120 : Int32).toInt = 120 := by decide
    refine ZE_if (fun c => ?_) (fun c => ?_)
    · rw [Int32.lt_iff_toInt_lt, o120] at c
      have hde : d = 120 := by omega
      subst hde
      exact hk _ _ ha
    · rw [Int32.lt_iff_toInt_lt, o120] at c
      refine ZE_b1e (zAt9 V hx hx3 hd (by omega)) ?_
      exact ih _ _ (d + 1) e1 (by omega) (by rw [ha]; rfl) (by omega)

set_option maxHeartbeats 2000000 in
theorem zDg7O {P : (Int64 × (Nat → Nat → Int64) × Bool × (Nat → Int32) × (Nat → Int32) × Int32 × (Nat → Int32) × Int32 × Int32 × Int32) → Prop} (F : Nat) (R : Nat → Nat → Int64) (hF : 2000 ≤ F) (k : Int64 → Int32 → Option (Int64 × (Nat → Nat → Int64) × Bool × (Nat → Int32) × (Nat → Int32) × Int32 × (Nat → Int32) × Int32 × Int32 × Int32)) (hk : ∀ (va : Int64) (vd : Int32), va = dgA (R) 4 → ZE P (k va vd)) : ∀ (f : Nat) (va : Int64) (vd : Int32) (d : Nat), vd.toInt = (d : Int) → d ≤ 4 → va = dgA (R) d → 5 - d < f → ZE P (p_X7_digest_L0 F R k f va vd) := by
  intro f
  induction f with
  | zero => intros; rename_i hm; exact absurd hm (Nat.not_lt_zero _)
  | succ f ih =>
    intro va vd d hd hdn ha hm
    show ZE P (if (4 : Int32) ≤ vd then (k va vd) else (p_X7_digest_L1 F R vd (fun v1_1 v4_1 => (p_X7_digest_L0 F R k f v1_1 (vd + (1 : Int32)))) F va (1 : Int32)))
    have e1 := zAddN hd (by omega)
    have o4 : (4 : Int32).toInt = 4 := by decide
    refine ZE_if (fun c => ?_) (fun c => ?_)
    · rw [Int32.le_iff_toInt_le, o4] at c
      have hde : d = 4 := by omega
      subst hde
      exact hk _ _ ha
    · rw [Int32.le_iff_toInt_le, o4] at c
      exact zDg7I F R vd hF d hd (by omega) va _ (fun vb ve hb => ih _ _ (d + 1) e1 (by omega) (by rw [hb, ha]; rfl) (by omega)) F va 1 0 (by decide) (by omega) rfl (by omega)

set_option maxHeartbeats 2000000 in
theorem zDg9O {P : (Int64 × Int32) → Prop} (F : Nat) (V : Nat → Int64) (hF : 2000 ≤ F) (k : Int64 → Int32 → Option (Int64 × Int32)) (hk : ∀ (va : Int64) (vd : Int32), va = dgA (fun x j => V (121 * x + j)) 4 → ZE P (k va vd)) : ∀ (f : Nat) (va : Int64) (vd : Int32) (d : Nat), vd.toInt = (d : Int) → d ≤ 4 → va = dgA (fun x j => V (121 * x + j)) d → 5 - d < f → ZE P (p_X9_digest_L0 F V k f va vd) := by
  intro f
  induction f with
  | zero => intros; rename_i hm; exact absurd hm (Nat.not_lt_zero _)
  | succ f ih =>
    intro va vd d hd hdn ha hm
    show ZE P (if (4 : Int32) ≤ vd then (k va vd) else (p_X9_digest_L1 F V vd (fun v1_1 v4_1 => (p_X9_digest_L0 F V k f v1_1 (vd + (1 : Int32)))) F va (1 : Int32)))
    have e1 := zAddN hd (by omega)
    have o4 : (4 : Int32).toInt = 4 := by decide
    refine ZE_if (fun c => ?_) (fun c => ?_)
    · rw [Int32.le_iff_toInt_le, o4] at c
      have hde : d = 4 := by omega
      subst hde
      exact hk _ _ ha
    · rw [Int32.le_iff_toInt_le, o4] at c
      exact zDg9I F V vd hF d hd (by omega) va _ (fun vb ve hb => ih _ _ (d + 1) e1 (by omega) (by rw [hb, ha]; rfl) (by omega)) F va 1 0 (by decide) (by omega) rfl (by omega)

def dgE (s : Int64) (a b c : Int32) : Int64 := ((((((s * (31 : Int64)) + (a.toInt64)) * (31 : Int64)) + (b.toInt64)) * (31 : Int64)) + (c.toInt64)) * (31 : Int64) + (1 : Int64)
theorem zDg7 (F : Nat) (R : Nat → Nat → Int64) (pr : Nat → Int32) (tm : Nat → Int32) (cn : Int32) (sm : Nat → Int32) (ac : Int32) (re : Int32) (kn : Int32) (hF : 2000 ≤ F) : ZE (fun (r : (Int64 × (Nat → Nat → Int64) × Bool × (Nat → Int32) × (Nat → Int32) × Int32 × (Nat → Int32) × Int32 × Int32 × Int32)) => r.1 = dgE (dgA R 4) ac re kn ∧ (∀ i, i ≤ 3 → r.2.1 i = R i) ∧ r.2.2.2.2.2.2.2 = (ac, re, kn)) (p_X7_digest F R pr tm cn sm ac re kn) := by
  unfold p_X7_digest
  refine zDg7O F R hF _ (fun va vd ha => ?_) F 8027 0 0 (by decide) (by omega) rfl (by omega)
  subst ha
  refine ZE_b10 (zSnd F R pr tm cn sm ac re kn hF) (fun d1 d2 d3 d4 d5 d6 d7 d8 d9 d10 h => ?_)
  obtain ⟨h1, h2, h3⟩ := h
  dsimp only at h1 h2 h3
  subst h1
  refine ZE_if (fun c => absurd c (by decide)) (fun _ => ⟨_, rfl, rfl, h2, h3⟩)
theorem zDg9 (F : Nat) (V : Nat → Int64) (dn rf mk : Int32) (hF : 2000 ≤ F) : ZE (fun (r : Int64 × Int32) => r = (dgE (dgA (fun x j => V (121 * x + j)) 4) dn rf mk, (0 : Int32))) (p_X9_digest F V dn rf mk) := by
  unfold p_X9_digest
  refine zDg9O F V hF _ (fun va vd ha => ?_) F 8027 0 0 (by decide) (by omega) rfl (by omega)
  subst ha
  exact ⟨_, rfl, rfl⟩
theorem zDgE {R : Nat → Nat → Int64} {V : Nat → Int64} (hS : zEq R V) : dgA R 4 = dgA (fun x j => V (121 * x + j)) 4 := dgA_eq 4 (fun i j hi j1 j2 => hS i j (by omega) j1 j2)
