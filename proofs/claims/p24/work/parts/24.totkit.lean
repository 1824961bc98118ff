-- ==================== totality: every plain function has a value
def ZE {ρ : Type} (P : ρ → Prop) (x : Option ρ) : Prop := ∃ r, x = some r ∧ P r
theorem ZE.mono {ρ : Type} {P Q : ρ → Prop} {x : Option ρ} (h : ZE P x) (hq : ∀ r, P r → Q r) : ZE Q x := by
  obtain ⟨r, h1, h2⟩ := h
  exact ⟨r, h1, hq r h2⟩
theorem ZE_if {ρ : Type} {P : ρ → Prop} {c : Prop} [Decidable c] {a b : Option ρ} (ha : c → ZE P a) (hb : ¬ c → ZE P b) : ZE P (if c then a else b) := by
  by_cases h : c
  · rw [if_pos h]; exact ha h
  · rw [if_neg h]; exact hb h
theorem ZE_zg {ρ : Type} {P : ρ → Prop} {c : Prop} [Decidable c] {x : Option ρ} (hc : ¬ c) (h : ZE P x) : ZE P (zg c x) := by
  unfold zg
  rw [if_neg hc]
  exact h
theorem ZE_b0 {ρ : Type} {P : ρ → Prop} {Q : Unit → Prop} {x : Option Unit} {f : Option ρ} (hx : ZE Q x) (h : ZE P f) : ZE P (zb0 x f) := by
  obtain ⟨r, e, q⟩ := hx
  subst e
  exact h
theorem ZE_b1 {ρ α : Type} {P : ρ → Prop} {Q : α → Prop} {x : Option α} {f : α → Option ρ} (hx : ZE Q x) (h : ∀ a, Q a → ZE P (f a)) : ZE P (zb1 x f) := by
  obtain ⟨r, e, q⟩ := hx
  subst e
  exact h r q
theorem ZE_b2 {ρ α β : Type} {P : ρ → Prop} {Q : α × β → Prop} {x : Option (α × β)} {f : α → β → Option ρ} (hx : ZE Q x) (h : ∀ a b, Q (a, b) → ZE P (f a b)) : ZE P (zb2 x f) := by
  obtain ⟨⟨r1, r2⟩, e, q⟩ := hx
  subst e
  exact h r1 r2 q
theorem ZE_b3 {ρ α β γ : Type} {P : ρ → Prop} {Q : α × β × γ → Prop} {x : Option (α × β × γ)} {f : α → β → γ → Option ρ} (hx : ZE Q x) (h : ∀ a b c, Q (a, b, c) → ZE P (f a b c)) : ZE P (zb3 x f) := by
  obtain ⟨⟨r1, r2, r3⟩, e, q⟩ := hx
  subst e
  exact h r1 r2 r3 q
theorem ZE_b4 {ρ α β γ δ : Type} {P : ρ → Prop} {Q : α × β × γ × δ → Prop} {x : Option (α × β × γ × δ)} {f : α → β → γ → δ → Option ρ} (hx : ZE Q x) (h : ∀ a b c d, Q (a, b, c, d) → ZE P (f a b c d)) : ZE P (zb4 x f) := by
  obtain ⟨⟨r1, r2, r3, r4⟩, e, q⟩ := hx
  subst e
  exact h r1 r2 r3 r4 q
theorem ZE_b5 {ρ α0 α1 α2 α3 α4 : Type} {P : ρ → Prop} {Q : α0 × α1 × α2 × α3 × α4 → Prop} {x : Option (α0 × α1 × α2 × α3 × α4)} {f : α0 → α1 → α2 → α3 → α4 → Option ρ} (hx : ZE Q x) (h : ∀ x0 x1 x2 x3 x4, Q (x0, x1, x2, x3, x4) → ZE P (f x0 x1 x2 x3 x4)) : ZE P (zb5 x f) := by
  obtain ⟨⟨r0, r1, r2, r3, r4⟩, e, q⟩ := hx
  subst e
  exact h r0 r1 r2 r3 r4 q
theorem ZE_b6 {ρ α0 α1 α2 α3 α4 α5 : Type} {P : ρ → Prop} {Q : α0 × α1 × α2 × α3 × α4 × α5 → Prop} {x : Option (α0 × α1 × α2 × α3 × α4 × α5)} {f : α0 → α1 → α2 → α3 → α4 → α5 → Option ρ} (hx : ZE Q x) (h : ∀ x0 x1 x2 x3 x4 x5, Q (x0, x1, x2, x3, x4, x5) → ZE P (f x0 x1 x2 x3 x4 x5)) : ZE P (zb6 x f) := by
  obtain ⟨⟨r0, r1, r2, r3, r4, r5⟩, e, q⟩ := hx
  subst e
  exact h r0 r1 r2 r3 r4 r5 q
theorem ZE_b7 {ρ α0 α1 α2 α3 α4 α5 α6 : Type} {P : ρ → Prop} {Q : α0 × α1 × α2 × α3 × α4 × α5 × α6 → Prop} {x : Option (α0 × α1 × α2 × α3 × α4 × α5 × α6)} {f : α0 → α1 → α2 → α3 → α4 → α5 → α6 → Option ρ} (hx : ZE Q x) (h : ∀ x0 x1 x2 x3 x4 x5 x6, Q (x0, x1, x2, x3, x4, x5, x6) → ZE P (f x0 x1 x2 x3 x4 x5 x6)) : ZE P (zb7 x f) := by
  obtain ⟨⟨r0, r1, r2, r3, r4, r5, r6⟩, e, q⟩ := hx
  subst e
  exact h r0 r1 r2 r3 r4 r5 r6 q
theorem ZE_b9 {ρ α0 α1 α2 α3 α4 α5 α6 α7 α8 : Type} {P : ρ → Prop} {Q : α0 × α1 × α2 × α3 × α4 × α5 × α6 × α7 × α8 → Prop} {x : Option (α0 × α1 × α2 × α3 × α4 × α5 × α6 × α7 × α8)} {f : α0 → α1 → α2 → α3 → α4 → α5 → α6 → α7 → α8 → Option ρ} (hx : ZE Q x) (h : ∀ x0 x1 x2 x3 x4 x5 x6 x7 x8, Q (x0, x1, x2, x3, x4, x5, x6, x7, x8) → ZE P (f x0 x1 x2 x3 x4 x5 x6 x7 x8)) : ZE P (zb9 x f) := by
  obtain ⟨⟨r0, r1, r2, r3, r4, r5, r6, r7, r8⟩, e, q⟩ := hx
  subst e
  exact h r0 r1 r2 r3 r4 r5 r6 r7 r8 q
theorem ZE_b10 {ρ α0 α1 α2 α3 α4 α5 α6 α7 α8 α9 : Type} {P : ρ → Prop} {Q : α0 × α1 × α2 × α3 × α4 × α5 × α6 × α7 × α8 × α9 → Prop} {x : Option (α0 × α1 × α2 × α3 × α4 × α5 × α6 × α7 × α8 × α9)} {f : α0 → α1 → α2 → α3 → α4 → α5 → α6 → α7 → α8 → α9 → Option ρ} (hx : ZE Q x) (h : ∀ x0 x1 x2 x3 x4 x5 x6 x7 x8 x9, Q (x0, x1, x2, x3, x4, x5, x6, x7, x8, x9) → ZE P (f x0 x1 x2 x3 x4 x5 x6 x7 x8 x9)) : ZE P (zb10 x f) := by
  obtain ⟨⟨r0, r1, r2, r3, r4, r5, r6, r7, r8, r9⟩, e, q⟩ := hx
  subst e
  exact h r0 r1 r2 r3 r4 r5 r6 r7 r8 r9 q
theorem ZE_b11 {ρ α0 α1 α2 α3 α4 α5 α6 α7 α8 α9 α10 : Type} {P : ρ → Prop} {Q : α0 × α1 × α2 × α3 × α4 × α5 × α6 × α7 × α8 × α9 × α10 → Prop} {x : Option (α0 × α1 × α2 × α3 × α4 × α5 × α6 × α7 × α8 × α9 × α10)} {f : α0 → α1 → α2 → α3 → α4 → α5 → α6 → α7 → α8 → α9 → α10 → Option ρ} (hx : ZE Q x) (h : ∀ x0 x1 x2 x3 x4 x5 x6 x7 x8 x9 x10, Q (x0, x1, x2, x3, x4, x5, x6, x7, x8, x9, x10) → ZE P (f x0 x1 x2 x3 x4 x5 x6 x7 x8 x9 x10)) : ZE P (zb11 x f) := by
  obtain ⟨⟨r0, r1, r2, r3, r4, r5, r6, r7, r8, r9, r10⟩, e, q⟩ := hx
  subst e
  exact h r0 r1 r2 r3 r4 r5 r6 r7 r8 r9 r10 q
theorem ZE_lt {ρ σ : Type} {P : ρ → Prop} {f : σ → Option ρ} {t : (σ → Option ρ) → Option ρ} (J : σ → Prop) (hf : ∀ x, J x → ZE P (f x)) (ht : ∀ g : σ → Option ρ, (∀ x, J x → ZE P (g x)) → ZE P (t g)) : ZE P (zlt f t) := ht f hf
theorem ZE_lt0 {ρ : Type} {P : ρ → Prop} {f : Option ρ} {t : Option ρ → Option ρ} (hf : ZE P f) (ht : ∀ g : Option ρ, ZE P g → ZE P (t g)) : ZE P (zlt f t) := ht f hf
theorem zad {x c : Int32} (h1 : -2147483648 ≤ x.toInt + c.toInt) (h2 : x.toInt + c.toInt < 2147483648) : (x + c).toInt = x.toInt + c.toInt := by
  rw [Int32.toInt_add]
  exact Int.bmod_eq_of_le (by omega) (by omega)
theorem zcl (x : Int32) : x.toNatClampNeg = x.toInt.toNat := rfl
theorem zrg (x : Int32) : -2147483648 ≤ x.toInt ∧ x.toInt < 2147483648 := ⟨Int32.le_toInt x, Int32.toInt_lt x⟩
theorem ZE_ltn {ρ τ : Type} {P : ρ → Prop} {f : τ} {t : τ → Option ρ} (J : τ → Prop) (hf : J f) (ht : ∀ g : τ, J g → ZE P (t g)) : ZE P (zlt f t) := ht f hf
theorem zdv {x y : Int32} (hx : 0 ≤ x.toInt) (hy : 1 ≤ y.toInt) : 0 ≤ (x / y).toInt ∧ (x / y).toInt ≤ x.toInt := by
  have h1 : (x / y).toInt = x.toInt.tdiv y.toInt := by
    rw [Int32.toInt_div]
    refine Int.bmod_eq_of_le ?_ ?_
    · have := Int.tdiv_nonneg hx (by omega : 0 ≤ y.toInt); omega
    · have := Int.tdiv_le_self y.toInt hx; have := zrg x; omega
  rw [h1]
  exact ⟨Int.tdiv_nonneg hx (by omega), Int.tdiv_le_self _ hx⟩
theorem zadk {x c : Int32} {G : Prop} (h1 : -2147483648 ≤ x.toInt + c.toInt) (h2 : x.toInt + c.toInt < 2147483648) (k : (x + c).toInt = x.toInt + c.toInt → G) : G := k (zad h1 h2)
theorem zdvk {x y : Int32} {G : Prop} (hx : 0 ≤ x.toInt) (hy : 1 ≤ y.toInt) (k : 0 ≤ (x / y).toInt ∧ (x / y).toInt ≤ x.toInt → G) : G := k (zdv hx hy)
theorem zlg0 {x : Int64} (h : ¬ lg_cmp x 0 = 0) : ¬ x = 0 := fun e => h (by rw [e]; decide)
/-- the times in the table of powers, and their count -/
def zTm (tm : Nat → Int32) : Prop := ∀ j, 0 ≤ (tm j).toInt ∧ (tm j).toInt ≤ 9
theorem zTm_upd {tm : Nat → Int32} (h : zTm tm) {i : Nat} {x : Int32} (h0 : 0 ≤ x.toInt) (h1 : x.toInt ≤ 9) : zTm (upd tm i x) := by
  intro j
  unfold upd
  split
  · exact ⟨h0, h1⟩
  · exact h j
theorem zmk {x y : Int32} {G : Prop} (h1 : 1 ≤ x.toInt) (h2 : x.toInt ≤ 1000) (h3 : 1 ≤ y.toInt) (h4 : y.toInt ≤ 1000) (k : 1 ≤ (x * y).toInt ∧ x.toInt ≤ (x * y).toInt ∧ y.toInt ≤ (x * y).toInt ∧ (x * y).toInt ≤ 1000000 → G) : G := by
  have a1 : x.toInt * 1 ≤ x.toInt * y.toInt := Int.mul_le_mul_of_nonneg_left h3 (by omega)
  have a2 : 1 * y.toInt ≤ x.toInt * y.toInt := Int.mul_le_mul_of_nonneg_right h1 (by omega)
  have a3 : x.toInt * y.toInt ≤ 1000 * 1000 := Int.mul_le_mul h2 h4 (by omega) (by omega)
  have e : (x * y).toInt = x.toInt * y.toInt := by
    rw [Int32.toInt_mul]
    exact Int.bmod_eq_of_le (by omega) (by omega)
  exact k (by rw [e]; omega)
