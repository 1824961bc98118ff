/-! the worlds of the class and of the reference; contracts over a whole world; the way of a call -/
abbrev z01 (b : Bool) : Int32 := if b then 1 else 0
theorem z01_nar (b : Bool) : narrow .boolean (.int (z01 b)) = .int (z01 b) := by cases b <;> rfl
theorem z01_fit (b : Bool) : fits .boolean (.int (z01 b)) = true := by cases b <;> rfl
abbrev zr (x y : Int32) : Int32 := x - x / y * y
abbrev zrl (x y : Int64) : Int64 := x - x / y * y
/-- a road that the machine itself would not take to its end -/
def zg {α : Type} (c : Prop) [Decidable c] (x : Option α) : Option α := if c then none else x
theorem zg_some {α : Type} {c : Prop} [Decidable c] {x : Option α} {r : α} (h : zg c x = some r) : ¬ c ∧ x = some r := by
  unfold zg at h
  by_cases hc : c
  · rw [if_pos hc] at h; cases h
  · rw [if_neg hc] at h; exact ⟨hc, h⟩
def zb0 {β : Type} (x : Option Unit) (f : Option β) : Option β := match x with | none => none | some _ => f
def zb1 {α β : Type} (x : Option α) (f : α → Option β) : Option β := match x with | none => none | some a => f a
def zb2 {α α2 β : Type} (x : Option (α × α2)) (f : α → α2 → Option β) : Option β := match x with | none => none | some (a, b) => f a b
def zb3 {α α2 α3 β : Type} (x : Option (α × α2 × α3)) (f : α → α2 → α3 → Option β) : Option β := match x with | none => none | some (a, b, c) => f a b c
def zb4 {α α2 α3 α4 β : Type} (x : Option (α × α2 × α3 × α4)) (f : α → α2 → α3 → α4 → Option β) : Option β := match x with | none => none | some (a, b, c, d) => f a b c d
def zb5 {α α2 α3 α4 α5 β : Type} (x : Option (α × α2 × α3 × α4 × α5)) (f : α → α2 → α3 → α4 → α5 → Option β) : Option β := match x with | none => none | some (a, b, c, d, e) => f a b c d e
def zb6 {α α2 α3 α4 α5 α6 β : Type} (x : Option (α × α2 × α3 × α4 × α5 × α6)) (f : α → α2 → α3 → α4 → α5 → α6 → Option β) : Option β := match x with | none => none | some (a, b, c, d, e, g) => f a b c d e g
theorem zb0_some {β : Type} {x : Option Unit} {f : Option β} {r : β} (h : zb0 x f = some r) : x = some () ∧ f = some r := by
  cases x with | none => cases h | some q => exact ⟨rfl, h⟩
theorem zb1_some {α β : Type} {x : Option α} {f : α → Option β} {r : β} (h : zb1 x f = some r) : ∃ a, x = some a ∧ f a = some r := by
  cases x with | none => cases h | some q => exact ⟨q, rfl, h⟩
theorem zb2_some {α α2 β : Type} {x : Option (α × α2)} {f : α → α2 → Option β} {r : β} (h : zb2 x f = some r) : ∃ a b, x = some (a, b) ∧ f a b = some r := by
  cases x with | none => cases h | some q => exact ⟨q.1, q.2, rfl, h⟩
theorem zb3_some {α α2 α3 β : Type} {x : Option (α × α2 × α3)} {f : α → α2 → α3 → Option β} {r : β} (h : zb3 x f = some r) : ∃ a b c, x = some (a, b, c) ∧ f a b c = some r := by
  cases x with | none => cases h | some q => exact ⟨q.1, q.2.1, q.2.2, rfl, h⟩
theorem zb4_some {α α2 α3 α4 β : Type} {x : Option (α × α2 × α3 × α4)} {f : α → α2 → α3 → α4 → Option β} {r : β} (h : zb4 x f = some r) : ∃ a b c d, x = some (a, b, c, d) ∧ f a b c d = some r := by
  cases x with | none => cases h | some q => exact ⟨q.1, q.2.1, q.2.2.1, q.2.2.2, rfl, h⟩
theorem zb5_some {α α2 α3 α4 α5 β : Type} {x : Option (α × α2 × α3 × α4 × α5)} {f : α → α2 → α3 → α4 → α5 → Option β} {r : β} (h : zb5 x f = some r) : ∃ a b c d e, x = some (a, b, c, d, e) ∧ f a b c d e = some r := by
  cases x with | none => cases h | some q => exact ⟨q.1, q.2.1, q.2.2.1, q.2.2.2.1, q.2.2.2.2, rfl, h⟩
theorem zb6_some {α α2 α3 α4 α5 α6 β : Type} {x : Option (α × α2 × α3 × α4 × α5 × α6)} {f : α → α2 → α3 → α4 → α5 → α6 → Option β} {r : β} (h : zb6 x f = some r) : ∃ a b c d e g, x = some (a, b, c, d, e, g) ∧ f a b c d e g = some r := by
  cases x with | none => cases h | some q => exact ⟨q.1, q.2.1, q.2.2.1, q.2.2.2.1, q.2.2.2.2.1, q.2.2.2.2.2, rfl, h⟩
def zb7 {α0 α1 α2 α3 α4 α5 α6 β : Type} (x : Option (α0 × α1 × α2 × α3 × α4 × α5 × α6)) (f : α0 → α1 → α2 → α3 → α4 → α5 → α6 → Option β) : Option β := match x with | none => none | some (x0, x1, x2, x3, x4, x5, x6) => f x0 x1 x2 x3 x4 x5 x6
theorem zb7_some {α0 α1 α2 α3 α4 α5 α6 β : Type} {x : Option (α0 × α1 × α2 × α3 × α4 × α5 × α6)} {f : α0 → α1 → α2 → α3 → α4 → α5 → α6 → Option β} {r : β} (h : zb7 x f = some r) : ∃ x0 x1 x2 x3 x4 x5 x6, x = some (x0, x1, x2, x3, x4, x5, x6) ∧ f x0 x1 x2 x3 x4 x5 x6 = some r := by
  cases x with | none => cases h | some q => exact ⟨q.1, q.2.1, q.2.2.1, q.2.2.2.1, q.2.2.2.2.1, q.2.2.2.2.2.1, q.2.2.2.2.2.2, rfl, h⟩
def zb9 {α0 α1 α2 α3 α4 α5 α6 α7 α8 β : Type} (x : Option (α0 × α1 × α2 × α3 × α4 × α5 × α6 × α7 × α8)) (f : α0 → α1 → α2 → α3 → α4 → α5 → α6 → α7 → α8 → Option β) : Option β := match x with | none => none | some (x0, x1, x2, x3, x4, x5, x6, x7, x8) => f x0 x1 x2 x3 x4 x5 x6 x7 x8
theorem zb9_some {α0 α1 α2 α3 α4 α5 α6 α7 α8 β : Type} {x : Option (α0 × α1 × α2 × α3 × α4 × α5 × α6 × α7 × α8)} {f : α0 → α1 → α2 → α3 → α4 → α5 → α6 → α7 → α8 → Option β} {r : β} (h : zb9 x f = some r) : ∃ x0 x1 x2 x3 x4 x5 x6 x7 x8, x = some (x0, x1, x2, x3, x4, x5, x6, x7, x8) ∧ f x0 x1 x2 x3 x4 x5 x6 x7 x8 = some r := by
  cases x with | none => cases h | some q => exact ⟨q.1, q.2.1, q.2.2.1, q.2.2.2.1, q.2.2.2.2.1, q.2.2.2.2.2.1, q.2.2.2.2.2.2.1, q.2.2.2.2.2.2.2.1, q.2.2.2.2.2.2.2.2, rfl, h⟩
def zb10 {α0 α1 α2 α3 α4 α5 α6 α7 α8 α9 β : Type} (x : Option (α0 × α1 × α2 × α3 × α4 × α5 × α6 × α7 × α8 × α9)) (f : α0 → α1 → α2 → α3 → α4 → α5 → α6 → α7 → α8 → α9 → Option β) : Option β := match x with | none => none | some (x0, x1, x2, x3, x4, x5, x6, x7, x8, x9) => f x0 x1 x2 x3 x4 x5 x6 x7 x8 x9
theorem zb10_some {α0 α1 α2 α3 α4 α5 α6 α7 α8 α9 β : Type} {x : Option (α0 × α1 × α2 × α3 × α4 × α5 × α6 × α7 × α8 × α9)} {f : α0 → α1 → α2 → α3 → α4 → α5 → α6 → α7 → α8 → α9 → Option β} {r : β} (h : zb10 x f = some r) : ∃ x0 x1 x2 x3 x4 x5 x6 x7 x8 x9, x = some (x0, x1, x2, x3, x4, x5, x6, x7, x8, x9) ∧ f x0 x1 x2 x3 x4 x5 x6 x7 x8 x9 = some r := by
  cases x with | none => cases h | some q => exact ⟨q.1, q.2.1, q.2.2.1, q.2.2.2.1, q.2.2.2.2.1, q.2.2.2.2.2.1, q.2.2.2.2.2.2.1, q.2.2.2.2.2.2.2.1, q.2.2.2.2.2.2.2.2.1, q.2.2.2.2.2.2.2.2.2, rfl, h⟩
def zb11 {α0 α1 α2 α3 α4 α5 α6 α7 α8 α9 α10 β : Type} (x : Option (α0 × α1 × α2 × α3 × α4 × α5 × α6 × α7 × α8 × α9 × α10)) (f : α0 → α1 → α2 → α3 → α4 → α5 → α6 → α7 → α8 → α9 → α10 → Option β) : Option β := match x with | none => none | some (x0, x1, x2, x3, x4, x5, x6, x7, x8, x9, x10) => f x0 x1 x2 x3 x4 x5 x6 x7 x8 x9 x10
theorem zb11_some {α0 α1 α2 α3 α4 α5 α6 α7 α8 α9 α10 β : Type} {x : Option (α0 × α1 × α2 × α3 × α4 × α5 × α6 × α7 × α8 × α9 × α10)} {f : α0 → α1 → α2 → α3 → α4 → α5 → α6 → α7 → α8 → α9 → α10 → Option β} {r : β} (h : zb11 x f = some r) : ∃ x0 x1 x2 x3 x4 x5 x6 x7 x8 x9 x10, x = some (x0, x1, x2, x3, x4, x5, x6, x7, x8, x9, x10) ∧ f x0 x1 x2 x3 x4 x5 x6 x7 x8 x9 x10 = some r := by
  cases x with | none => cases h | some q => exact ⟨q.1, q.2.1, q.2.2.1, q.2.2.2.1, q.2.2.2.2.1, q.2.2.2.2.2.1, q.2.2.2.2.2.2.1, q.2.2.2.2.2.2.2.1, q.2.2.2.2.2.2.2.2.1, q.2.2.2.2.2.2.2.2.2.1, q.2.2.2.2.2.2.2.2.2.2, rfl, h⟩
theorem zif_t {c : Prop} [Decidable c] {α : Type} {a b r : α} (h : (if c then a else b) = r) (hc : c) : a = r := by rwa [if_pos hc] at h
theorem zif_f {c : Prop} [Decidable c] {α : Type} {a b r : α} (h : (if c then a else b) = r) (hc : ¬ c) : b = r := by rwa [if_neg hc] at h
def zlt {α β : Type} (f : α) (t : α → β) : β := t f
theorem zif_fn {c : Prop} [Decidable (¬ c)] {α : Type} {a b r : α} (h : (if ¬ c then a else b) = r) (hc : c) : b = r := by rwa [if_neg (fun n => n hc)] at h
theorem zlt_h {α β : Type} {f : α} {t : α → β} {r : β} (h : zlt f t = r) : t f = r := h
theorem zno {α : Type} {x : α} (h : (none : Option α) = some x) : False := by cases h
theorem zin {i : Int32} {n : Nat} (h : ¬ (i < 0 ∨ n ≤ i.toNatClampNeg)) : i.toNatClampNeg < n := Nat.not_le.mp fun q => h (Or.inr q)
theorem zinc {i : Int32} {n : Nat} (h : ¬ (i < 0 ∨ n ≤ i.toNatClampNeg)) : vp_in i n := h
theorem zlt4 : 4 < 6 := by decide
theorem zlt5 : 5 < 6 := by decide
/-- the class's cells: at a k the k-th; R the rows by their numbers -/
def cW (a : Nat → Nat) (cJ cI cO : ClassId) (R : Nat → Nat → Int64) (b : Bool) (pr tm : Nat → Int32) (cn : Int32) (sm : Nat → Int32) (ac re kn : Int32) : va_W :=
  [(a 0, .inr (7, [.ref (a 1), .ref (a 6), .ref (a 7), .ref (a 14), .ref (a 15), .ref (a 16), .int ac, .int re, .int kn])),
   (a 1, .inl (cO, 4, .inr (.inr (.inr (.inr (fun j => some (a (2 + j)))))))),
   (a 2, .inr (6, [.ref (a 8)])), (a 3, .inr (6, [.ref (a 9)])), (a 4, .inr (6, [.ref (a 10)])), (a 5, .inr (6, [.ref (a 11)])), (a 6, .inr (6, [.ref (a 12)])), (a 7, .inr (6, [.ref (a 13)])),
   (a 8, .inl (cJ, 121, .inr (.inl (R 0)))), (a 9, .inl (cJ, 121, .inr (.inl (R 1)))), (a 10, .inl (cJ, 121, .inr (.inl (R 2)))), (a 11, .inl (cJ, 121, .inr (.inl (R 3)))), (a 12, .inl (cJ, 121, .inr (.inl (R 4)))), (a 13, .inl (cJ, 121, .inr (.inl (R 5)))),
   (a 14, .inr (5, [.int (z01 b)])), (a 15, .inr (3, [.ref (a 17), .ref (a 20)])), (a 16, .inr (2, [.ref (a 14), .ref (a 15)])),
   (a 17, .inr (4, [.ref (a 18), .ref (a 19), .int cn])), (a 18, .inl (cI, 4, .inl pr)), (a 19, .inl (cI, 4, .inl tm)), (a 20, .inl (cI, 1000, .inl sm))]
section CW
variable {a : Nat → Nat} {cJ cI cO : ClassId} {R : Nat → Nat → Int64} {b : Bool} {pr tm : Nat → Int32} {cn : Int32} {sm : Nat → Int32} {ac re kn : Int32}
theorem cW_row {i : Nat} (hi : i < 6) : (cW a cJ cI cO R b pr tm cn sm ac re kn)[2 + i]? = some (a (2 + i), .inr (6, [.ref (a (8 + i))])) := by
  match i, hi with
  | 0, _ => rfl
  | 1, _ => rfl
  | 2, _ => rfl
  | 3, _ => rfl
  | 4, _ => rfl
  | 5, _ => rfl
theorem cW_arr {i : Nat} (hi : i < 6) : (cW a cJ cI cO R b pr tm cn sm ac re kn)[8 + i]? = some (a (8 + i), .inl (cJ, 121, .inr (.inl (R i)))) := by
  match i, hi with
  | 0, _ => rfl
  | 1, _ => rfl
  | 2, _ => rfl
  | 3, _ => rfl
  | 4, _ => rfl
  | 5, _ => rfl
theorem cW_set {i : Nat} (hi : i < 6) (f : Nat → Int64) : (cW a cJ cI cO R b pr tm cn sm ac re kn).set (8 + i) (a (8 + i), .inl (cJ, 121, .inr (.inl f))) = cW a cJ cI cO (va_up R i f) b pr tm cn sm ac re kn := by
  match i, hi with
  | 0, _ => rfl
  | 1, _ => rfl
  | 2, _ => rfl
  | 3, _ => rfl
  | 4, _ => rfl
  | 5, _ => rfl
end CW
/-- the reference's cells -/
def mW (q v : Nat) (cJ : ClassId) (V : Nat → Int64) (ib : Bool) (dn rf mk th : Int32) : va_W :=
  [(q, .inr (9, [.ref v, .int (z01 ib), .int dn, .int rf, .int mk, .int th])), (v, .inl (cJ, 484, .inr (.inl V)))]
abbrev zT (cJ cI cO cB : ClassId) : List (ClassId × FieldType) := [(cJ, .long), (cI, .int), (cO, .object RX4), (cB, .byte)]
def zP (D : va_G) (tys : List (ClassId × FieldType)) (ws : va_W) (sz : Nat) (U : State) : Prop := U.heap.size = sz ∧ va_P D vwCl ws U.heap ∧ va_K D vwCl tys U ∧ va_D (fun _ => True) ws
def zB (D : va_G) (tys : List (ClassId × FieldType)) (A : Nat → Prop) (ws : va_W) (t : State) : Prop := va_P D vwCl ws t.heap ∧ va_K D vwCl tys t ∧ va_D A ws
/-- a method that answers an int q, a long q, nothing, a cell of the world q -/
abbrev zQi (D : va_G) (tys : List (ClassId × FieldType)) (W0 W1 : va_W) (q : Int32) (sz : Nat) := va_Qi (fun (x : Int32) (_ : Unit) => x = q) (fun _ => zB D tys (va_A W0 sz) W1) (va_A W0 sz)
abbrev zQl (D : va_G) (tys : List (ClassId × FieldType)) (W0 W1 : va_W) (q : Int64) (sz : Nat) := va_Ql (fun (x : Int64) (_ : Unit) => x = q) (fun _ => zB D tys (va_A W0 sz) W1) (va_A W0 sz)
abbrev zQv (D : va_G) (tys : List (ClassId × FieldType)) (W0 W1 : va_W) (sz : Nat) := va_Qv (fun (_ : Unit) => True) (fun _ => zB D tys (va_A W0 sz) W1) (va_A W0 sz)
abbrev zQr (D : va_G) (tys : List (ClassId × FieldType)) (W0 W1 : va_W) (q : Nat) (sz : Nat) := va_Qr (fun (_ : Unit) => True) (fun _ x t => x = q ∧ zB D tys (va_A W0 sz) W1 t) (va_A W0 sz)
/-- .. a new cell -/
abbrev zQn (D : va_G) (tys : List (ClassId × FieldType)) (W0 : va_W) (W1 : Nat → va_W) (sz : Nat) := va_Qr (fun (_ : Unit) => True) (fun _ x t => zB D tys (va_A W0 sz) (W1 x) t) (va_A W0 sz)
abbrev zMi (l : Launch) (y : MethodName) (ws : List Cond) (fr lc mc ms : Nat) (D : va_G) (tys : List (ClassId × FieldType)) (av : List Value) (W0 W1 : va_W) (q : Int32) : Prop := ∀ sz, Met l y ws { frames := fr, cells := mc, slots := ms, locals := lc } (va_Pc av (zP D tys W0 sz)) (zQi D tys W0 W1 q sz) mc ms (va_A W0 sz)
abbrev zMl (l : Launch) (y : MethodName) (ws : List Cond) (fr lc mc ms : Nat) (D : va_G) (tys : List (ClassId × FieldType)) (av : List Value) (W0 W1 : va_W) (q : Int64) : Prop := ∀ sz, Met l y ws { frames := fr, cells := mc, slots := ms, locals := lc } (va_Pc av (zP D tys W0 sz)) (zQl D tys W0 W1 q sz) mc ms (va_A W0 sz)
abbrev zMv (l : Launch) (y : MethodName) (ws : List Cond) (fr lc mc ms : Nat) (D : va_G) (tys : List (ClassId × FieldType)) (av : List Value) (W0 W1 : va_W) : Prop := ∀ sz, Met l y ws { frames := fr, cells := mc, slots := ms, locals := lc } (va_Pc av (zP D tys W0 sz)) (zQv D tys W0 W1 sz) mc ms (va_A W0 sz)
abbrev zMr (l : Launch) (y : MethodName) (ws : List Cond) (fr lc mc ms : Nat) (D : va_G) (tys : List (ClassId × FieldType)) (av : List Value) (W0 W1 : va_W) (q : Nat) : Prop := ∀ sz, Met l y ws { frames := fr, cells := mc, slots := ms, locals := lc } (va_Pc av (zP D tys W0 sz)) (zQr D tys W0 W1 q sz) mc ms (va_A W0 sz)
abbrev zMn (l : Launch) (y : MethodName) (ws : List Cond) (fr lc mc ms : Nat) (D : va_G) (tys : List (ClassId × FieldType)) (av : List Value) (W0 : va_W) (W1 : Nat → va_W) : Prop := ∀ sz, Met l y ws { frames := fr, cells := mc, slots := ms, locals := lc } (va_Pc av (zP D tys W0 sz)) (zQn D tys W0 W1 sz) mc ms (va_A W0 sz)
/-- what the caller's world is behind the call: ws0 the callee's cells before, w1 behind, wn the caller's -/
def zJ (D : va_G) (A : Nat → Prop) (H : Heap) (wc w1 wn : va_W) : Prop := ∀ H1 : Heap, (∀ q : Nat, q < H.size → ¬ va_A wc H.size q → H1[q]? = H[q]?) → va_P D vwCl w1 H1 → va_D (va_A wc H.size) w1 → va_P D vwCl wn H1 ∧ va_D A wn
section ZJ
variable {D : va_G} {A : Nat → Prop} {H H0 : Heap} {ws wc wr w1 wn : va_W} {locs : List Loc} {tys : List (ClassId × FieldType)}
theorem zfree (hD : va_D A ws) (hS : va_S A H0 H locs) (hA : ∀ q : Nat, H0.size ≤ q → A q) : ∀ q, va_A ws H.size q → A q := fun q hq => by
  rcases hq with ⟨k, e, hk⟩ | hq
  · exact hD.2 k _ hk
  · exact hA q (Nat.le_trans hS.1 hq)
theorem zjW (hD : va_D A ws) (hS : va_S A H0 H locs) (hA : ∀ q : Nat, H0.size ≤ q → A q) : zJ D A H ws w1 w1 := fun _ _ hP hD1 => ⟨hP, hD1.weaken (fun _ q _ h => zfree hD hS hA q.1 h)⟩
theorem zjE (hP : va_P D vwCl ws H) (hD : va_D A ws) : zJ D A H [] [] ws := fun _ hk _ _ => ⟨hP.kept (fun k q hq => hk q.1 (hP k q hq).lt (fun h => by
  rcases h with ⟨k2, e, h2⟩ | h2
  · simp at h2
  · exact absurd (hP k q hq).lt (Nat.not_lt.mpr h2))), hD⟩
theorem zjF (hP : va_P D vwCl ws H) (hD : va_D A ws) (hS : va_S A H0 H locs) (hA : ∀ q : Nat, H0.size ≤ q → A q) (isC isR : List Nat) (hC : isC.map (fun i => ws[i]?) = wc.map some) (hR : isR.map (fun i => ws[i]?) = wr.map some) (hn : va_nd isR = true) (hdis : ∀ i ∈ isR, i ∉ isC) : zJ D A H wc w1 (wr ++ w1) := fun _ hk hP1 hD1 => va_join hP hD isC isR hC hR hn hdis hk (va_free hD hS hA isC hC) hP1 hD1
theorem zsub (hP : va_P D vwCl ws H) (is : List Nat) (hs : is.map (fun i => ws[i]?) = wn.map some) : va_P D vwCl wn H := by
  intro k q hk
  have h1 : (is.map (fun i => ws[i]?))[k]? = some (some q) := by rw [hs, List.getElem?_map, hk]; rfl
  rw [List.getElem?_map] at h1
  cases hi : is[k]? with
  | none => rw [hi] at h1; cases h1
  | some i => rw [hi] at h1; exact hP i q (Option.some.inj h1)
theorem zjs (is : List Nat) (h : zJ D A H wc w1 ws) (hs : is.map (fun i => ws[i]?) = wn.map some) (hn : va_nd is = true) : zJ D A H wc w1 wn := fun H1 hk hP hD1 => ⟨zsub (h H1 hk hP hD1).1 is hs, (h H1 hk hP hD1).2.sub is hn hs⟩
end ZJ

section ZABS
variable {p : Program} {l : Launch} {e : Env} {R : Room} {s : State} {m : MethodId} {args : Array Value} {below : List Frame} {meth : Method} {c : Code} {H H0 : Heap} {locs : List Loc} {cells slots : Nat} {Q : State → Prop} {g : JFrame}
theorem zabs (k : ∀ (G : Heap → List Loc → Nat → Nat → JFrame → Prop), (∀ H locs cs sl g, W p l e R s m args below meth c H locs cs sl Q g → G H locs cs sl g) → (∀ H locs cs sl g, G H locs cs sl g → W p l e R s m args below meth c H locs cs sl Q g) → W p l e R s m args below meth c H locs cells slots Q g) : W p l e R s m args below meth c H locs cells slots Q g := k (fun H locs cs sl g => W p l e R s m args below meth c H locs cs sl Q g) (fun _ _ _ _ _ h => h) (fun _ _ _ _ _ h => h)
theorem zheap (hH : H = s.heap) (k : W p l e R s m args below meth c H locs cells slots Q g) : W p l e R s m args below meth c s.heap locs cells slots Q g := by
  subst hH
  exact k
variable {cc : ByteArray} {pc : Nat} {ls : Array Slot} {rest : List Value} {D : va_G} {A : Nat → Prop} {ws : va_W} {cJ cI cO cB : ClassId}
theorem zP0 : va_P D vwCl [] H := fun k q hk => by simp at hk
theorem zD0 : va_D A [] := ⟨fun i j p q hi => by simp at hi, fun k q hk => by simp at hk⟩
theorem zf0 (hS : va_S A H0 H locs) (hA : ∀ q : Nat, H0.size ≤ q → A q) : ∀ q, va_A [] H.size q → A q := fun q hq => by
  rcases hq with ⟨k, e, hk⟩ | hq
  · simp at hk
  · exact hA q (Nat.le_trans hS.1 hq)
theorem znewJ (hx : p.tables.exec = Jvm.exec) (hb : c.code = cc) (harr : (Cond.arrayClass .long).before args s = true) (hK : va_K D vwCl (zT cJ cI cO cB) s) (hP : va_P D vwCl ws H) (hD : va_D A ws) (hS : va_S A H0 H locs) (hA : ∀ q, H0.size ≤ q → A q)
    {n : Int32} {N : Nat} (hn : ¬ n < 0) (hN : n.toNatClampNeg = N) (hbytes : N * componentBytes .long ≤ 536870912) (hcells : cells + 1 ≤ R.cells) (hslots : slots + N ≤ R.slots) (hdg : decode cc pc = .ok (.newarray .long, 2))
    (kk : ∀ (q : Nat) (H1 : Heap), va_P D vwCl (ws ++ [(q, .inl (cJ, N, .inr (.inl (fun _ => 0))))]) H1 → va_D A (ws ++ [(q, .inl (cJ, N, .inr (.inl (fun _ => 0))))]) → va_S A H0 H1 locs →
      W p l e R s m args below meth c H1 locs (cells + 1) (slots + N) Q (F0 m (pc + 2) ls (.ref q :: rest))) : W p l e R s m args below meth c H locs cells slots Q (F0 m pc ls (.int n :: rest)) := by
  refine va_newa (atype := .long) (ty := .long) (a0 := (N, .inr (.inl (fun _ => 0)))) hx hb harr rfl hK hP hD hS hA (fun _ => rfl) hn hN hbytes hcells hslots hdg (fun q cA H1 hK1 hP1 hD1 hS1 => ?_)
  have e1 : s.vm.findClass ("[" ++ FieldType.long.toString) = some cA := (hK1.2 4 (cA, .long) rfl).2
  have e2 : s.vm.findClass ("[" ++ FieldType.long.toString) = some cJ := (hK.2 0 (cJ, .long) rfl).2
  have e : cA = cJ := Option.some.inj (e1.symm.trans e2)
  subst e
  exact kk q H1 hP1 hD1 hS1
end ZABS
section ZCALL
variable {p : Program} {l : Launch} {e : Env} {R : Room} {s : State} {m : MethodId} {args : Array Value} {below : List Frame} {meth : Method} {c : Code} {H : Heap} {locs : List Loc} {cells slots : Nat} {Q : State → Prop}
variable {pc : Nat} {ls : Array Slot} {rest st0 : List Value} {av : Array Value} {A : Nat → Prop} {H0 : Heap} {mc ms : Nat} {D : va_G} {tys : List (ClassId × FieldType)} {wc w1 wn : va_W}
theorem zpreV (hK : va_K D vwCl tys s) (hP : va_P D vwCl wc H) (hD : va_D A wc) {C : String} {T : u_T} {N b q0 ci : Nat} {fs : List Value} (he : wc[q0]? = some (b, .inr (ci, fs))) (hc : vwCl[ci]? = some (C, T, N)) (As : List Value) : PreV s H C b (va_Pc (.ref b :: As) (zP D tys wc H.size)) As :=
  ⟨fun a U g mk q => by obtain ⟨q0, q1, qP, qK, qD⟩ := q; exact ⟨q0, q1, qP, va_K.moved (u := U) (U := U.calling g mk a) (Vm.Alike.refl U.vm) qK, qD⟩, va_recv hK hP hc he, fun U hU hW => ⟨rfl, by rw [hU], by rw [hU]; exact hP, va_K.moved hW.alike hK, hD.weaken (fun _ _ _ _ => trivial)⟩⟩
theorem zpreS (hK : va_K D vwCl tys s) (hP : va_P D vwCl wc H) (hD : va_D A wc) (As : List Value) : PreS s H (va_Pc As (zP D tys wc H.size)) As :=
  ⟨fun a U g mk q => by obtain ⟨q0, q1, qP, qK, qD⟩ := q; exact ⟨q0, q1, qP, va_K.moved (u := U) (U := U.calling g mk a) (Vm.Alike.refl U.vm) qK, qD⟩, fun U hU hW => ⟨rfl, by rw [hU], by rw [hU]; exact hP, va_K.moved hW.alike hK, hD.weaken (fun _ _ _ _ => trivial)⟩⟩
theorem zgoi {q : Int32} (hr : va_Run p l e R s m args below meth c H locs cells slots mc ms (F0 m pc ls st0) rest (zQi D tys wc w1 q H.size av) (va_A wc H.size)) (hf : ∀ q, va_A wc H.size q → A q) (hj : zJ D A H wc w1 wn) (hS : va_S A H0 H locs)
    (kk : ∀ (H1 : Heap) (locs1 : List Loc), va_P D vwCl wn H1 → va_D A wn → va_S A H0 H1 locs1 → W p l e R s m args below meth c H1 locs1 (cells + mc) (slots + ms) Q (F0 m (pc + 3) ls (.int q :: rest))) : W p l e R s m args below meth c H locs cells slots Q (F0 m pc ls st0) := by
  refine va_calli hr hS (fun q _ h => hf q h) hf (fun r u t H1 locs1 ht hvm hw hB hz hk hS1 => ?_)
  subst ht; subst hw
  obtain ⟨g1, g2⟩ := hj _ hk hB.1 hB.2.2
  exact kk _ _ g1 g2 hS1
theorem zgol {q : Int64} (hr : va_Run p l e R s m args below meth c H locs cells slots mc ms (F0 m pc ls st0) rest (zQl D tys wc w1 q H.size av) (va_A wc H.size)) (hf : ∀ q, va_A wc H.size q → A q) (hj : zJ D A H wc w1 wn) (hS : va_S A H0 H locs)
    (kk : ∀ (H1 : Heap) (locs1 : List Loc), va_P D vwCl wn H1 → va_D A wn → va_S A H0 H1 locs1 → W p l e R s m args below meth c H1 locs1 (cells + mc) (slots + ms) Q (F0 m (pc + 3) ls (.long q :: rest))) : W p l e R s m args below meth c H locs cells slots Q (F0 m pc ls st0) := by
  refine va_calll hr hS (fun q _ h => hf q h) hf (fun r u t H1 locs1 ht hvm hw hB hz hk hS1 => ?_)
  subst ht; subst hw
  obtain ⟨g1, g2⟩ := hj _ hk hB.1 hB.2.2
  exact kk _ _ g1 g2 hS1
theorem zgov (hr : va_Run p l e R s m args below meth c H locs cells slots mc ms (F0 m pc ls st0) rest (zQv D tys wc w1 H.size av) (va_A wc H.size)) (hf : ∀ q, va_A wc H.size q → A q) (hj : zJ D A H wc w1 wn) (hS : va_S A H0 H locs)
    (kk : ∀ (H1 : Heap) (locs1 : List Loc), va_P D vwCl wn H1 → va_D A wn → va_S A H0 H1 locs1 → W p l e R s m args below meth c H1 locs1 (cells + mc) (slots + ms) Q (F0 m (pc + 3) ls rest)) : W p l e R s m args below meth c H locs cells slots Q (F0 m pc ls st0) := by
  refine va_callv hr hS (fun q _ h => hf q h) hf (fun u t H1 locs1 ht hvm hw hB hz hk hS1 => ?_)
  subst ht
  obtain ⟨g1, g2⟩ := hj _ hk hB.1 hB.2.2
  exact kk _ _ g1 g2 hS1
theorem zgor {q : Nat} (hr : va_Run p l e R s m args below meth c H locs cells slots mc ms (F0 m pc ls st0) rest (zQr D tys wc w1 q H.size av) (va_A wc H.size)) (hf : ∀ q, va_A wc H.size q → A q) (hj : zJ D A H wc w1 wn) (hS : va_S A H0 H locs)
    (kk : ∀ (H1 : Heap) (locs1 : List Loc), va_P D vwCl wn H1 → va_D A wn → va_S A H0 H1 locs1 → W p l e R s m args below meth c H1 locs1 (cells + mc) (slots + ms) Q (F0 m (pc + 3) ls (.ref q :: rest))) : W p l e R s m args below meth c H locs cells slots Q (F0 m pc ls st0) := by
  refine va_callr hr hS (fun q _ h => hf q h) hf (fun u ra t H1 locs1 ht hvm hw hB hz hk hS1 => ?_)
  obtain ⟨e1, hB⟩ := hB
  subst ht; subst e1
  obtain ⟨g1, g2⟩ := hj _ hk hB.1 hB.2.2
  exact kk _ _ g1 g2 hS1
theorem zgon {w1 wn : Nat → va_W} (hr : va_Run p l e R s m args below meth c H locs cells slots mc ms (F0 m pc ls st0) rest (zQn D tys wc w1 H.size av) (va_A wc H.size)) (hf : ∀ q, va_A wc H.size q → A q) (hj : ∀ x, zJ D A H wc (w1 x) (wn x)) (hS : va_S A H0 H locs)
    (kk : ∀ (x : Nat) (H1 : Heap) (locs1 : List Loc), va_P D vwCl (wn x) H1 → va_D A (wn x) → va_S A H0 H1 locs1 → W p l e R s m args below meth c H1 locs1 (cells + mc) (slots + ms) Q (F0 m (pc + 3) ls (.ref x :: rest))) : W p l e R s m args below meth c H locs cells slots Q (F0 m pc ls st0) := by
  refine va_callr hr hS (fun q _ h => hf q h) hf (fun u ra t H1 locs1 ht hvm hw hB hz hk hS1 => ?_)
  subst ht
  obtain ⟨g1, g2⟩ := hj ra _ hk hB.1 hB.2.2
  exact kk _ _ _ g1 g2 hS1
end ZCALL
/-- the exceptions by their numbers -/
def zxn (cd : Nat) : String := if cd = 1 then "java/lang/IndexOutOfBoundsException" else if cd = 2 then "java/lang/IllegalArgumentException" else "java/lang/IllegalStateException"
/-- what every world stands on: the statics that a throw reads, the texts of the throws -/
def zx_s1 : String := "no such function"
def zx_s2 : String := "a number is not among those allowed"
def zx_s3 : String := "a value has too great a size"
def zx_s4 : String := "the total goes beyond"
def zx_s5 : String := "k is below 0"
theorem zdc_moved {y : MethodName} {u U : State} (hvm : u.vm.Alike U.vm) (h : va_Nw (.declares y) u) : va_Nw (.declares y) U := by
  have h1 : (Cond.declares y).before #[] (u.setVm U.vm) = true := by
    rw [Cond.declares_setVm hvm]
    exact h
  have e := Cond.onTables_vm (A := #[]) (A' := #[]) (U := u) (U' := U) U.vm (Cond.declares y) rfl
  have hU : U.setVm U.vm = U := rfl
  rw [hU] at e
  show (Cond.declares y).before #[] U = true
  rw [← e]
  exact h1
theorem zalike {u U : State} (h : U.vm = u.vm) : u.vm.Alike U.vm := by rw [h]; exact Vm.Alike.refl _
def zS (U : State) : Prop := (∃ sa, vk_R RX7 264 zx_s1 sa U) ∧ (∃ sa, vk_R RX7 267 zx_s2 sa U) ∧ (∃ sa, vk_R RX7 273 zx_s3 sa U) ∧ (∃ sa, vk_R RX7 140 zx_s4 sa U) ∧ (∃ sa, vk_R RX7 233 zx_s5 sa U) ∧ va_Nw (.castable (zxn 1) (zxn 1)) U ∧ va_Nw (.castable (zxn 2) (zxn 2)) U ∧ va_Nw (.castable (zxn 3) (zxn 3)) U ∧ va_Nw (.castable "[B" "java/lang/Cloneable") U ∧ va_Nw (.declares (Bundle.initS "java/lang/RuntimeException")) U ∧ va_Nw (.declares (Bundle.initS "java/lang/Exception")) U ∧ va_Nw (.declares (Bundle.initS Bundle.tN)) U
/-- the two tables of digits, and that texts are held in bytes -/
def zDT (j : Nat) : Int32 := nI (48 + j / 10)
def zDO (j : Nat) : Int32 := nI (48 + j % 10)
def zF (A : Nat → Prop) (U : State) (H : Heap) : Prop := va_Z "java/lang/String" "COMPACT_STRINGS" "Z" (.int 1) A U H ∧ ∃ tT tO : Nat, va_Z "java/lang/Integer" "DigitTens" "[B" (.ref tT) A U H ∧ va_T .byte tT 100 (fun j => .int (zDT j)) A U H ∧ va_Z "java/lang/Integer" "DigitOnes" "[B" (.ref tO) A U H ∧ va_T .byte tO 100 (fun j => .int (zDO j)) A U H
theorem zF.moved {A : Nat → Prop} {u U : State} {H : Heap} (hvm : u.vm.Alike U.vm) (h : zF A u H) : zF A U H := by
  obtain ⟨h1, tT, tO, h2, h3, h4, h5⟩ := h
  exact ⟨va_Z.moved hvm h1, tT, tO, va_Z.moved hvm h2, va_T.moved hvm h3, va_Z.moved hvm h4, va_T.moved hvm h5⟩
theorem zF.kept {A : Nat → Prop} {U : State} {H H1 : Heap} (h : zF A U H) (hq : ∀ a : Nat, a < H.size → ¬ A a → H1[a]? = H[a]?) : zF A U H1 := by
  obtain ⟨h1, tT, tO, h2, h3, h4, h5⟩ := h
  exact ⟨h1.kept hq, tT, tO, h2.kept hq, h3.kept hq, h4.kept hq, h5.kept hq⟩
theorem zF.narrow {A B : Nat → Prop} {U : State} {H : Heap} (h : zF A U H) (hAB : ∀ q, B q → A q) : zF B U H := by
  obtain ⟨h1, tT, tO, h2, h3, h4, h5⟩ := h
  exact ⟨h1.narrow hAB, tT, tO, h2.narrow hAB, h3.narrow hAB, h4.narrow hAB, h5.narrow hAB⟩
def zE (A : Nat → Prop) (U : State) (H : Heap) : Prop := vx_Zq Bundle.tN "UNASSIGNED_STACK" Bundle.steD A U H ∧ vx_Zq Bundle.tN "SUPPRESSED_SENTINEL" Bundle.listD A U H ∧ zS U ∧ zF A U H
theorem zS.warm {s U : State} (hW : s.WarmedH U.vm) (h : zS s) : zS U := by
  obtain ⟨⟨a1, h1⟩, ⟨a2, h2⟩, ⟨a3, h3⟩, ⟨a4, h4⟩, ⟨a5, h5⟩, h6, h7, h8, h9, h10, h11, h12⟩ := h
  exact ⟨⟨a1, h1.warm hW⟩, ⟨a2, h2.warm hW⟩, ⟨a3, h3.warm hW⟩, ⟨a4, h4.warm hW⟩, ⟨a5, h5.warm hW⟩, h6.warmC hW, h7.warmC hW, h8.warmC hW, h9.warmC hW, zdc_moved hW.alike h10, zdc_moved hW.alike h11, zdc_moved hW.alike h12⟩
theorem zS.same {u U : State} (hv : U.vm = u.vm) (h : zS u) : zS U := by
  obtain ⟨⟨a1, h1⟩, ⟨a2, h2⟩, ⟨a3, h3⟩, ⟨a4, h4⟩, ⟨a5, h5⟩, h6, h7, h8, h9, h10, h11, h12⟩ := h
  exact ⟨⟨a1, h1.same hv⟩, ⟨a2, h2.same hv⟩, ⟨a3, h3.same hv⟩, ⟨a4, h4.same hv⟩, ⟨a5, h5.same hv⟩, va_Nw.same rfl hv.symm h6, va_Nw.same rfl hv.symm h7, va_Nw.same rfl hv.symm h8, va_Nw.same rfl hv.symm h9, va_Nw.same rfl hv.symm h10, va_Nw.same rfl hv.symm h11, va_Nw.same rfl hv.symm h12⟩
/-- for a callee: its cells are among the caller's, its heap is the heap now -/
theorem zE.call {A B : Nat → Prop} {s U : State} {H0 H : Heap} {locs : List Loc} (h : zE A s H0) (hS : va_S A H0 H locs) (hB : ∀ q, B q → A q) (hU : U.heap = H) (hW : s.WarmedH U.vm) : zE B U U.heap := by
  obtain ⟨h1, h2, h3, h4⟩ := h
  rw [hU]
  exact ⟨vx_Zq.moved hW.alike ((h1.kept hS.2.1).narrow hB), vx_Zq.moved hW.alike ((h2.kept hS.2.1).narrow hB), h3.warm hW, zF.moved hW.alike ((h4.kept hS.2.1).narrow hB)⟩
theorem zE.calling {A : Nat → Prop} {U : State} {H : Heap} {g : JFrame} {mk : MethodId} {a : Array Value} (h : zE A U H) : zE A (U.calling g mk a) H := ⟨vx_Zq.moved (u := U) (U := U.calling g mk a) (Vm.Alike.refl U.vm) h.1, vx_Zq.moved (u := U) (U := U.calling g mk a) (Vm.Alike.refl U.vm) h.2.1, h.2.2.1.same rfl, zF.moved (u := U) (U := U.calling g mk a) (Vm.Alike.refl U.vm) h.2.2.2⟩
abbrev zPx (D : va_G) (tys : List (ClassId × FieldType)) (ws : va_W) (sz : Nat) (U : State) : Prop := (U.heap.size = sz ∧ va_P D vwCl ws U.heap ∧ va_K D vwCl tys U ∧ va_D (fun _ => True) ws) ∧ zE (va_A ws sz) U U.heap
abbrev zXA (D : va_G) (tys : List (ClassId × FieldType)) (A : Nat → Prop) (W1 : va_W) (cd : Nat) := vx_X (fun (_ : Unit) => cd ≠ 0) (fun E _ t => E = zxn cd ∧ zB D tys A W1 t) A
abbrev zX (D : va_G) (tys : List (ClassId × FieldType)) (W0 W1 : va_W) (cd sz : Nat) := zXA D tys (va_A W0 sz) W1 cd
abbrev zQxi (D : va_G) (tys : List (ClassId × FieldType)) (W0 W1 : va_W) (cd : Nat) (q : Int32) (sz : Nat) := va_Qi (fun (x : Int32) (_ : Unit) => cd = 0 ∧ x = q) (fun _ => zB D tys (va_A W0 sz) W1) (va_A W0 sz)
abbrev zQxv (D : va_G) (tys : List (ClassId × FieldType)) (W0 W1 : va_W) (cd : Nat) (sz : Nat) := va_Qv (fun (_ : Unit) => cd = 0) (fun _ => zB D tys (va_A W0 sz) W1) (va_A W0 sz)
abbrev zQxr (D : va_G) (tys : List (ClassId × FieldType)) (W0 W1 : va_W) (cd : Nat) (q : Nat) (sz : Nat) := va_Qr (fun (_ : Unit) => cd = 0) (fun _ x t => x = q ∧ zB D tys (va_A W0 sz) W1 t) (va_A W0 sz)
abbrev zQxs (D : va_G) (tys : List (ClassId × FieldType)) (W0 W1 : va_W) (cd : Nat) (sz : Nat) := va_Qr (fun (_ : Unit) => cd = 0) (fun _ _ t => zB D tys (va_A W0 sz) W1 t) (va_A W0 sz)
abbrev zMxi (l : Launch) (y : MethodName) (ws : List Cond) (fr lc mc ms : Nat) (D : va_G) (tys : List (ClassId × FieldType)) (av : List Value) (W0 W1 : va_W) (cd : Nat) (q : Int32) : Prop := ∀ sz, vx_Met l y ws { frames := fr, cells := mc, slots := ms, locals := lc } (va_Pc av (zPx D tys W0 sz)) (zQxi D tys W0 W1 cd q sz) (zX D tys W0 W1 cd sz) mc ms (va_A W0 sz)
abbrev zMxv (l : Launch) (y : MethodName) (ws : List Cond) (fr lc mc ms : Nat) (D : va_G) (tys : List (ClassId × FieldType)) (av : List Value) (W0 W1 : va_W) (cd : Nat) : Prop := ∀ sz, vx_Met l y ws { frames := fr, cells := mc, slots := ms, locals := lc } (va_Pc av (zPx D tys W0 sz)) (zQxv D tys W0 W1 cd sz) (zX D tys W0 W1 cd sz) mc ms (va_A W0 sz)
abbrev zMxr (l : Launch) (y : MethodName) (ws : List Cond) (fr lc mc ms : Nat) (D : va_G) (tys : List (ClassId × FieldType)) (av : List Value) (W0 W1 : va_W) (cd : Nat) (q : Nat) : Prop := ∀ sz, vx_Met l y ws { frames := fr, cells := mc, slots := ms, locals := lc } (va_Pc av (zPx D tys W0 sz)) (zQxr D tys W0 W1 cd q sz) (zX D tys W0 W1 cd sz) mc ms (va_A W0 sz)
abbrev zMxs (l : Launch) (y : MethodName) (ws : List Cond) (fr lc mc ms : Nat) (D : va_G) (tys : List (ClassId × FieldType)) (av : List Value) (W0 W1 : va_W) (cd : Nat) : Prop := ∀ sz, vx_Met l y ws { frames := fr, cells := mc, slots := ms, locals := lc } (va_Pc av (zPx D tys W0 sz)) (zQxs D tys W0 W1 cd sz) (zX D tys W0 W1 cd sz) mc ms (va_A W0 sz)
section ZXC
variable {p : Program} {l : Launch} {e : Env} {R : Room} {s : State} {m : MethodId} {args : Array Value} {below : List Frame} {meth : Method} {c : Code} {H : Heap} {locs : List Loc} {cells slots : Nat} {Q : State → Prop}
variable {pc : Nat} {ls : Array Slot} {rest st0 : List Value} {av : Array Value} {A : Nat → Prop} {H0 : Heap} {mc ms : Nat} {D : va_G} {tys : List (ClassId × FieldType)} {wc w1 wn : va_W} {cd : Nat}
theorem zxblind {As : List Value} {sz : Nat} : FrameBlind (va_Pc As (zPx D tys wc sz)) := fun a U g mk q => by
  obtain ⟨q0, ⟨q1, qP, qK, qD⟩, qE⟩ := q
  exact ⟨q0, ⟨q1, qP, va_K.moved (u := U) (U := U.calling g mk a) (Vm.Alike.refl U.vm) qK, qD⟩, qE.calling⟩
theorem zxpreV (hE : zE A s H0) (hS : va_S A H0 H locs) (hf : ∀ q, va_A wc H.size q → A q) (hK : va_K D vwCl tys s) (hP : va_P D vwCl wc H) (hD : va_D A wc) {C : String} {T : u_T} {N b q0 ci : Nat} {fs : List Value} (he : wc[q0]? = some (b, .inr (ci, fs))) (hc : vwCl[ci]? = some (C, T, N)) (As : List Value) : PreV s H C b (va_Pc (.ref b :: As) (zPx D tys wc H.size)) As :=
  ⟨zxblind, va_recv hK hP hc he, fun U hU hW => ⟨rfl, ⟨by rw [hU], by rw [hU]; exact hP, va_K.moved hW.alike hK, hD.weaken (fun _ _ _ _ => trivial)⟩, hE.call hS hf hU hW⟩⟩
theorem zxpreS (hE : zE A s H0) (hS : va_S A H0 H locs) (hf : ∀ q, va_A wc H.size q → A q) (hK : va_K D vwCl tys s) (hP : va_P D vwCl wc H) (hD : va_D A wc) (As : List Value) : PreS s H (va_Pc As (zPx D tys wc H.size)) As :=
  ⟨zxblind, fun U hU hW => ⟨rfl, ⟨by rw [hU], by rw [hU]; exact hP, va_K.moved hW.alike hK, hD.weaken (fun _ _ _ _ => trivial)⟩, hE.call hS hf hU hW⟩⟩
/-- the road of an exception that the callee throws -/
abbrev zxr (p : Program) (l : Launch) (e : Env) (R : Room) (s : State) (m : MethodId) (args : Array Value) (below : List Frame) (meth : Method) (c : Code) (cells slots : Nat) (Q : State → Prop) (D : va_G) (A : Nat → Prop) (H0 : Heap) (wn : va_W) (cd pc : Nat) (ls : Array Slot) (rest : List Value) : Prop :=
  cd ≠ 0 → ∀ (ce : Cell) (q9 : Addr) (H1 : Heap) (locs1 : List Loc), va_P D vwCl wn H1 → va_D A wn → va_S A H0 H1 locs1 → H1[q9]? = some ce → ce.vm = .none → s.vm.findClass (zxn cd) = some ce.cls → vx_W p l e R s m args below meth c H1 locs1 cells slots Q (F0 m pc ls rest) q9
theorem zxgoi {q : Int32} (hr : vx_Run p l e R s m args below meth c H locs cells slots mc ms (F0 m pc ls st0) rest (zQxi D tys wc w1 cd q H.size av) (zX D tys wc w1 cd H.size) (va_A wc H.size)) (hf : ∀ q, va_A wc H.size q → A q) (hj : zJ D A H wc w1 wn) (hS : va_S A H0 H locs)
    (kx : zxr p l e R s m args below meth c (cells + mc) (slots + ms) Q D A H0 wn cd pc ls rest)
    (kk : cd = 0 → ∀ (H1 : Heap) (locs1 : List Loc), va_P D vwCl wn H1 → va_D A wn → va_S A H0 H1 locs1 → W p l e R s m args below meth c H1 locs1 (cells + mc) (slots + ms) Q (F0 m (pc + 3) ls (.int q :: rest))) : W p l e R s m args below meth c H locs cells slots Q (F0 m pc ls st0) := by
  refine vx_calli hr hS (fun q _ h => hf q h) hf (fun q _ h => hf q h) (fun E ce q9 u t H1 locs1 ht hvm hw hB hz hk hS1 b1 b2 b3 => ?_) (fun r u t H1 locs1 ht hvm hw hB hz hk hS1 => ?_)
  · obtain ⟨e1, hB⟩ := hB
    subst ht; subst e1
    obtain ⟨g1, g2⟩ := hj _ hk hB.1 hB.2.2
    exact kx hw ce q9 _ _ g1 g2 hS1 b1 b2 b3
  · subst ht
    obtain ⟨e0, rfl⟩ := hw
    obtain ⟨g1, g2⟩ := hj _ hk hB.1 hB.2.2
    exact kk e0 _ _ g1 g2 hS1
theorem zxgov (hr : vx_Run p l e R s m args below meth c H locs cells slots mc ms (F0 m pc ls st0) rest (zQxv D tys wc w1 cd H.size av) (zX D tys wc w1 cd H.size) (va_A wc H.size)) (hf : ∀ q, va_A wc H.size q → A q) (hj : zJ D A H wc w1 wn) (hS : va_S A H0 H locs)
    (kx : zxr p l e R s m args below meth c (cells + mc) (slots + ms) Q D A H0 wn cd pc ls rest)
    (kk : cd = 0 → ∀ (H1 : Heap) (locs1 : List Loc), va_P D vwCl wn H1 → va_D A wn → va_S A H0 H1 locs1 → W p l e R s m args below meth c H1 locs1 (cells + mc) (slots + ms) Q (F0 m (pc + 3) ls rest)) : W p l e R s m args below meth c H locs cells slots Q (F0 m pc ls st0) := by
  refine vx_callv hr hS (fun q _ h => hf q h) hf (fun q _ h => hf q h) (fun E ce q9 u t H1 locs1 ht hvm hw hB hz hk hS1 b1 b2 b3 => ?_) (fun u t H1 locs1 ht hvm hw hB hz hk hS1 => ?_)
  · obtain ⟨e1, hB⟩ := hB
    subst ht; subst e1
    obtain ⟨g1, g2⟩ := hj _ hk hB.1 hB.2.2
    exact kx hw ce q9 _ _ g1 g2 hS1 b1 b2 b3
  · subst ht
    obtain ⟨g1, g2⟩ := hj _ hk hB.1 hB.2.2
    exact kk hw _ _ g1 g2 hS1
/-- a callee that answers a cell, or throws -/
theorem vx_callr {S SX : Type} {a : Array Value} {A0 A1 : Nat → Prop} {free : Addr → Prop} {post : S → Prop} {px : SX → Prop} {B : S → Nat → State → Prop} {BX : String → SX → State → Prop} {AX : Nat → Prop} (hr : vx_Run p l e R s m args below meth c H locs cells slots mc ms (F0 m pc ls st0) rest (va_Qr post B A1 a) (vx_X px BX AX) free) (hS : va_S A0 H0 H locs) (hA : ∀ q, q < H.size → A1 q → A0 q) (hf : ∀ q, free q → A0 q) (hAX : ∀ q, q < H.size → AX q → A0 q)
    (kx : ∀ (E : String) (ce : Cell) (q9 : Addr) (u : SX) (t : State) (H1 : Heap) (locs1 : List Loc), t.heap = H1 → s.vm.Alike t.vm → px u → BX E u t → H.size ≤ H1.size → (∀ q : Nat, q < H.size → ¬ AX q → H1[q]? = H[q]?) → va_S A0 H0 H1 locs1 → H1[q9]? = some ce → ce.vm = .none → s.vm.findClass E = some ce.cls → vx_W p l e R s m args below meth c H1 locs1 (cells + mc) (slots + ms) Q (F0 m pc ls rest) q9)
    (kk : ∀ (u : S) (r : Nat) (t : State) (H1 : Heap) (locs1 : List Loc), t.heap = H1 → s.vm.Alike t.vm → post u → B u r t → H.size ≤ H1.size → (∀ q : Nat, q < H.size → ¬ A1 q → H1[q]? = H[q]?) → va_S A0 H0 H1 locs1 → W p l e R s m args below meth c H1 locs1 (cells + mc) (slots + ms) Q (F0 m (pc + 3) ls (.ref r :: rest))) : W p l e R s m args below meth c H locs cells slots Q (F0 m pc ls st0) := by
  intro T hT X
  rcases hr T hT X with ⟨v, st₀, t, T', L, h0, X', hL, e1, e2, ⟨⟨u, r, hv, hp, hb⟩, hF⟩, st⟩ | ⟨q, st₀, t, T', L, E, ce, h0, X', hL, e1, e2, ⟨u, hp, hb, hF⟩, hce, hcv, hcl, st⟩
  · cases hv
    obtain ⟨k1, k2, k3⟩ := vx_keep h0 e1 hS hA hf hL hF
    obtain ⟨t2, a1, b1⟩ := kk u r t T'.heap (locs ++ L) e1.symm (by rw [← e2]; exact X'.warmed.alike) hp hb k1 k2 k3 T' rfl X'
    exact ⟨t2, st t2 a1, b1⟩
  · obtain ⟨k1, k2, k3⟩ := vx_keep h0 e1 hS hAX hf hL hF
    obtain ⟨t2, a1, b1⟩ := kx E ce q u t T'.heap (locs ++ L) e1.symm (by rw [← e2]; exact X'.warmed.alike) hp hb k1 k2 k3 (by rw [e1]; exact hce) hcv hcl T' rfl X'
    exact ⟨t2, st.trans a1, b1⟩
theorem zxgor {q : Nat} (hr : vx_Run p l e R s m args below meth c H locs cells slots mc ms (F0 m pc ls st0) rest (zQxr D tys wc w1 cd q H.size av) (zX D tys wc w1 cd H.size) (va_A wc H.size)) (hf : ∀ q, va_A wc H.size q → A q) (hj : zJ D A H wc w1 wn) (hS : va_S A H0 H locs)
    (kx : zxr p l e R s m args below meth c (cells + mc) (slots + ms) Q D A H0 wn cd pc ls rest)
    (kk : cd = 0 → ∀ (H1 : Heap) (locs1 : List Loc), va_P D vwCl wn H1 → va_D A wn → va_S A H0 H1 locs1 → W p l e R s m args below meth c H1 locs1 (cells + mc) (slots + ms) Q (F0 m (pc + 3) ls (.ref q :: rest))) : W p l e R s m args below meth c H locs cells slots Q (F0 m pc ls st0) := by
  refine vx_callr hr hS (fun q _ h => hf q h) hf (fun q _ h => hf q h) (fun E ce q9 u t H1 locs1 ht hvm hw hB hz hk hS1 b1 b2 b3 => ?_) (fun u r t H1 locs1 ht hvm hw hB hz hk hS1 => ?_)
  · obtain ⟨e1, hB⟩ := hB
    subst ht; subst e1
    obtain ⟨g1, g2⟩ := hj _ hk hB.1 hB.2.2
    exact kx hw ce q9 _ _ g1 g2 hS1 b1 b2 b3
  · subst ht
    obtain ⟨rfl, hB⟩ := hB
    obtain ⟨g1, g2⟩ := hj _ hk hB.1 hB.2.2
    exact kk hw _ _ g1 g2 hS1
theorem zxgos (hr : vx_Run p l e R s m args below meth c H locs cells slots mc ms (F0 m pc ls st0) rest (zQxs D tys wc w1 cd H.size av) (zX D tys wc w1 cd H.size) (va_A wc H.size)) (hf : ∀ q, va_A wc H.size q → A q) (hj : zJ D A H wc w1 wn) (hS : va_S A H0 H locs)
    (kx : zxr p l e R s m args below meth c (cells + mc) (slots + ms) Q D A H0 wn cd pc ls rest)
    (kk : cd = 0 → ∀ (q : Nat) (H1 : Heap) (locs1 : List Loc), va_P D vwCl wn H1 → va_D A wn → va_S A H0 H1 locs1 → W p l e R s m args below meth c H1 locs1 (cells + mc) (slots + ms) Q (F0 m (pc + 3) ls (.ref q :: rest))) : W p l e R s m args below meth c H locs cells slots Q (F0 m pc ls st0) := by
  refine vx_callr hr hS (fun q _ h => hf q h) hf (fun q _ h => hf q h) (fun E ce q9 u t H1 locs1 ht hvm hw hB hz hk hS1 b1 b2 b3 => ?_) (fun u r t H1 locs1 ht hvm hw hB hz hk hS1 => ?_)
  · obtain ⟨e1, hB⟩ := hB
    subst ht; subst e1
    obtain ⟨g1, g2⟩ := hj _ hk hB.1 hB.2.2
    exact kx hw ce q9 _ _ g1 g2 hS1 b1 b2 b3
  · subst ht
    obtain ⟨g1, g2⟩ := hj _ hk hB.1 hB.2.2
    exact kk hw _ _ _ g1 g2 hS1
variable {Qc : Array Value → State → Outcome → State → Prop}
/-- a throw of one's own leaves the world -/
theorem zxthrow (hcd : cd ≠ 0) (hP : va_P D vwCl w1 H) (hK : va_K D vwCl tys s) (hD : va_D A w1) (hS : va_S A s.heap H locs) : ∀ t : State, s.vm.Alike t.vm → H.size ≤ t.heap.size → (∀ q : Nat, q < H.size → t.heap[q]? = H[q]?) → zXA D tys A w1 cd (zxn cd) s t :=
  fun t hal hz hk => ⟨(), hcd, ⟨rfl, hP.kept (fun k q hq => hk q.1 (hP k q hq).lt), va_K.moved hal hK, hD⟩, Nat.le_trans hS.1 hz, fun q h1 h2 => (hk q (Nat.lt_of_lt_of_le h1 hS.1)).trans (hS.2.1 q h1 h2)⟩
/-- an exception of the callee's goes on to the caller -/
theorem zxout (hnt : ∀ x ∈ c.exceptionTable.toList, False) (hlocks : meth.locks = false) (hcd : cd ≠ 0) (hK : va_K D vwCl tys s) (hc : cells ≤ mc) (hs : slots ≤ ms) : zxr p l e R s m args below meth c cells slots (vx_MQ below Qc (zXA D tys A wn cd) args s mc ms A) D A s.heap wn cd pc ls rest :=
  fun _ ce q9 H1 locs1 hP hD hS b1 b2 b3 => vx_out (fun x hx => (hnt x hx).elim) hlocks b1 b2 b3 (fun t ht hal => ⟨(), hcd, ⟨rfl, by rw [ht]; exact hP, va_K.moved hal hK, hD⟩, by rw [ht]; exact hS.1, fun q h1 h2 => by rw [ht]; exact hS.2.1 q h1 h2⟩) hS.2.2 hc hs
end ZXC

