-- ==================== rows and the reference's cells
theorem ZE_b1e {ρ α : Type} {P : ρ → Prop} {x : Option α} {a : α} {f : α → Option ρ} (hx : x = some a) (h : ZE P (f a)) : ZE P (zb1 x f) := by
  subst hx
  exact h
theorem ZE_b2e {ρ α β : Type} {P : ρ → Prop} {x : Option (α × β)} {a : α} {b : β} {f : α → β → Option ρ} (hx : x = some (a, b)) (h : ZE P (f a b)) : ZE P (zb2 x f) := by
  subst hx
  exact h
theorem zClN {x : Int32} {n : Nat} (h : x.toInt = n) : x.toNatClampNeg = n := by
  rw [zcl, h]
  rfl
theorem zAt7 (R : Nat → Nat → Int64) (i : Nat) {v : Int32} {n : Nat} (hv : v.toInt = n) (h1 : 1 ≤ n) (h2 : n ≤ 120) : p_X4_at R i v = some (R i n) := by
  have o1 : (1 : Int32).toInt = 1 := by decide
  have o120 : (120 : Int32).toInt = 120 := by decide
  unfold p_X4_at
  rw [if_neg (by rw [Int32.lt_iff_toInt_lt, o1]; omega), if_neg (by rw [Int32.lt_iff_toInt_lt, o120]; omega), zg_n (zgi (x := v) (n := 121) (by omega) (by omega)), zClN hv]
theorem zLay7 (R : Nat → Nat → Int64) (i : Nat) (x : Int64) {v : Int32} {n : Nat} (hv : v.toInt = n) (h1 : 1 ≤ n) (h2 : n ≤ 120) : p_X4_lay R i v x = some (va_up R i (vp_updL (R i) n x)) := by
  have o1 : (1 : Int32).toInt = 1 := by decide
  have o120 : (120 : Int32).toInt = 120 := by decide
  unfold p_X4_lay
  rw [if_neg (by rw [Int32.lt_iff_toInt_lt, o1]; omega), if_neg (by rw [Int32.lt_iff_toInt_lt, o120]; omega), zg_n (zgi (x := v) (n := 121) (by omega) (by omega)), zClN hv]
theorem zIxN {p v : Int32} {f n : Nat} (hp : p.toInt = f) (hf : f ≤ 3) (hv : v.toInt = n) (h2 : n ≤ 120) : (((121 : Int32) * p) + v).toNatClampNeg = 121 * f + n := by
  have e : ((121 : Int32) * p).toInt = ((121 * f : Nat) : Int) := zMulN (by decide) hp (by omega)
  refine zClN ?_
  rw [zad (x := (121 : Int32) * p) (c := v) (by omega) (by omega), e, hv]
  rfl
theorem zAt9 (V : Nat → Int64) {p v : Int32} {f n : Nat} (hp : p.toInt = f) (hf : f ≤ 3) (hv : v.toInt = n) (h2 : n ≤ 120) : p_X9_at V p v = some (V (121 * f + n)) := by
  unfold p_X9_at
  rw [zg_n (zatg (x := p) (y := v) (by omega) (by omega) (by omega) (by omega)), zIxN hp hf hv h2]
theorem zupS {α : Type} {R : Nat → α} {i : Nat} {f : α} : va_up R i f i = f := if_pos rfl
theorem zupN {α : Type} {R : Nat → α} {i j : Nat} {f : α} (h : j ≠ i) : va_up R i f j = R j := if_neg h
theorem zluS {f : Nat → Int64} {k : Nat} {x : Int64} : vp_updL f k x k = x := if_pos rfl
theorem zluN {f : Nat → Int64} {k j : Nat} {x : Int64} (h : j ≠ k) : vp_updL f k x j = f j := if_neg h
/-- a row laid up to d, one more -/
theorem zRowB {RL : Nat → Nat → Int64} {t d : Nat} {s : Nat → Int64} {x : Int64} (h : ∀ j, 1 ≤ j → j ≤ d → RL t j = s j) (hx : x = s (d + 1)) : ∀ j, 1 ≤ j → j ≤ d + 1 → va_up RL t (vp_updL (RL t) (d + 1) x) t j = s j := by
  intro j j1 j2
  rw [zupS]
  by_cases e : j = d + 1
  · rw [e, zluS, hx]
  · rw [zluN e]
    exact h j j1 (by omega)
theorem zRowA {R RL : Nat → Nat → Int64} {t : Nat} {r : Nat → Int64} (h : ∀ i, i ≠ t → RL i = R i) : ∀ i, i ≠ t → va_up RL t r i = R i := fun i hi => (zupN hi).trans (h i hi)
/-- an array laid up to d, one more -/
theorem zArrB {f : Nat → Int64} {d : Nat} {s : Nat → Int64} {x : Int64} (h : ∀ j, 1 ≤ j → j ≤ d → f j = s j) (hx : x = s (d + 1)) : ∀ j, 1 ≤ j → j ≤ d + 1 → vp_updL f (d + 1) x j = s j := by
  intro j j1 j2
  by_cases e : j = d + 1
  · rw [e, zluS, hx]
  · rw [zluN e]
    exact h j j1 (by omega)
-- ==================== what is made of functions: plain functions
def gAcc (T : Nat → Int64 × Bool) (lo n : Nat) : Nat → Int64 × Bool
  | 0 => (0, false)
  | d + 1 => if lo ≤ d + 1 ∧ n % (d + 1) = 0 then ((gAcc T lo n d).1 + (T (d + 1)).1, (gAcc T lo n d).2 || ((T (d + 1)).2 || ovA (gAcc T lo n d).1 (T (d + 1)).1)) else gAcc T lo n d
theorem gAcc_y {T : Nat → Int64 × Bool} {lo n d : Nat} (h1 : lo ≤ d + 1) (h2 : n % (d + 1) = 0) : gAcc T lo n (d + 1) = ((gAcc T lo n d).1 + (T (d + 1)).1, (gAcc T lo n d).2 || ((T (d + 1)).2 || ovA (gAcc T lo n d).1 (T (d + 1)).1)) := if_pos ⟨h1, h2⟩
theorem gAcc_n {T : Nat → Int64 × Bool} {lo n d : Nat} (h2 : ¬ n % (d + 1) = 0) : gAcc T lo n (d + 1) = gAcc T lo n d := if_neg (fun h => h2 h.2)
def gOr (B : Nat → Bool) : Nat → Bool
  | 0 => false
  | n + 1 => gOr B n || B (n + 1)
def tProd (f g : Nat → Int64) (n d : Nat) : Int64 × Bool := (f d * g (n / d), !letp (f d) (g (n / d)))
def tSum (f : Nat → Int64) (d : Nat) : Int64 × Bool := (f d, false)
def sgL (d : Nat) : Int64 := (Int32.ofInt (nSgn d)).toInt64
def tSig (f : Nat → Int64) (n d : Nat) : Int64 × Bool := (sgL d * f (n / d), !letp (sgL d) (f (n / d)))
def sProd (f g : Nat → Int64) (n : Nat) : Int64 × Bool := gAcc (tProd f g n) 1 n n
def sSum (f : Nat → Int64) (n : Nat) : Int64 × Bool := gAcc (tSum f) 1 n n
def sSig (f : Nat → Int64) (n : Nat) : Int64 × Bool := gAcc (tSig f n) 1 n n
def sMet (w : Int32) (f g : Nat → Int64) (n : Nat) : Int64 × Bool := if ¬ w = 0 then (if ¬ w = 1 then (f n * g n, !letp (f n) (g n)) else (f n - g n, ovM (f n) (g n))) else (f n + g n, ovA (f n) (g n))
def nL (n : Nat) : Int64 := (Int32.ofInt (n : Int)).toInt64
def sTur (f : Nat → Int64) (n : Nat) : Int64 × Bool := (-1 * f n, !letp (-1) (f n))
def sPla (f : Nat → Int64) (n : Nat) : Int64 × Bool := (nL n * f n, !letp (nL n) (f n))
def nPq (n : Nat) : List Nat := (nPw n).map (fun q => q.1 ^ q.2)
def gFold (f : Nat → Int64) (s : Int64 × Bool) (L : List Nat) : Int64 × Bool := L.foldl (fun s q => (s.1 * f q, s.2 || !letp s.1 (f q))) s
def sPri (f : Nat → Int64) (n : Nat) : Int64 × Bool := gFold f (1, false) (nPq n)
def iRow (f : Nat → Int64) : Nat → Nat → Int64
  | 0 => fun _ => 0
  | m + 1 => fun j => if j = m + 1 then (if m = 0 then f 1 else (gAcc (tProd f (iRow f m) (m + 1)) 2 (m + 1) (m + 1)).1 * -(f 1)) else iRow f m j
def iFl (f : Nat → Int64) : Nat → Bool
  | 0 => false
  | m + 1 => if m = 0 then false else ((gAcc (tProd f (iRow f m) (m + 1)) 2 (m + 1) (m + 1)).2 || !letp (gAcc (tProd f (iRow f m) (m + 1)) 2 (m + 1) (m + 1)).1 (-(f 1)))
def gCnt (f g : Nat → Int64) : Nat → Nat
  | 0 => 0
  | n + 1 => gCnt f g n + (if f (n + 1) = g (n + 1) then 0 else 1)
theorem zor3 (a b c : Bool) : ((a || b) || c) = (a || (b || (false || c))) := by rw [Bool.false_or, Bool.or_assoc]
theorem zor4 (a b c d : Bool) : (((a || b) || c) || d) = (a || (b || (c || d))) := by rw [Bool.or_assoc, Bool.or_assoc]
