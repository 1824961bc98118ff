-- ==================== what is known of numbers: plain functions
def nF {α : Type} (x : Nat) (f : Nat → α) : α := match x with
  | 0 => f 0
  | y + 1 => f (y + 1)
theorem nF_eq {α : Type} (x : Nat) (f : Nat → α) : nF x f = f x := by
  cases x <;> rfl
def nSqr (n : Nat) : Nat → Nat
  | 0 => 1
  | d + 1 => if n % ((d + 1) * (d + 1)) = 0 then (d + 1) * (d + 1) else nSqr n d
def nDv (p : Nat) : Nat → Nat → Nat → Nat × Nat
  | 0, r, k => (r, k)
  | f + 1, r, k => if r % p = 0 then nF (r / p) (fun q => nDv p f q (k + 1)) else (r, k)
def nLay : Nat → Nat → Nat → List (Nat × Nat) → List (Nat × Nat)
  | 0, _, _, L => L
  | f + 1, p, r, L => if r < p then L else nF (nDv p 9 r 0).1 (fun q => nF (nDv p 9 r 0).2 (fun k => if k = 0 then nF (p + 1) (fun p' => nLay f p' q L) else if L.length < 4 then nF (p + 1) (fun p' => nLay f p' q (L ++ [(p, k)])) else nF (p + 1) (fun p' => nLay f p' q L)))
def nPw (n : Nat) : List (Nat × Nat) := nLay 1000 2 n []
def lSqr (L : List (Nat × Nat)) : Int := L.foldl (fun a q => a * (((q.1 * q.1) ^ (q.2 / 2) : Nat) : Int)) 1
def cPw (n : Nat) : Bool := lSqr (nPw n) == ((nSqr n 31 : Nat) : Int)
theorem cPw_0 : (List.range 100).all (fun i => cPw (0 + i + 1)) = true := by decide +kernel
theorem cPw_1 : (List.range 100).all (fun i => cPw (100 + i + 1)) = true := by decide +kernel
theorem cPw_2 : (List.range 100).all (fun i => cPw (200 + i + 1)) = true := by decide +kernel
theorem cPw_3 : (List.range 100).all (fun i => cPw (300 + i + 1)) = true := by decide +kernel
theorem cPw_4 : (List.range 100).all (fun i => cPw (400 + i + 1)) = true := by decide +kernel
theorem cPw_5 : (List.range 100).all (fun i => cPw (500 + i + 1)) = true := by decide +kernel
theorem cPw_6 : (List.range 100).all (fun i => cPw (600 + i + 1)) = true := by decide +kernel
theorem cPw_7 : (List.range 100).all (fun i => cPw (700 + i + 1)) = true := by decide +kernel
theorem cPw_8 : (List.range 100).all (fun i => cPw (800 + i + 1)) = true := by decide +kernel
theorem cPw_9 : (List.range 99).all (fun i => cPw (900 + i + 1)) = true := by decide +kernel
theorem cPwOf {m lo : Nat} (h : (List.range m).all (fun i => cPw (lo + i + 1)) = true) {n : Nat} (a : lo < n) (b : n ≤ lo + m) : cPw n = true := by
  have := List.all_eq_true.mp h (n - lo - 1) (List.mem_range.mpr (by omega))
  rw [show lo + (n - lo - 1) + 1 = n by omega] at this
  exact this
theorem cPwAll (n : Nat) (h1 : 1 ≤ n) (h3 : n ≤ 999) : cPw n = true := by
  by_cases g0 : n ≤ 100
  · exact cPwOf (lo := 0) cPw_0 (by omega) (by omega)
  by_cases g1 : n ≤ 200
  · exact cPwOf (lo := 100) cPw_1 (by omega) (by omega)
  by_cases g2 : n ≤ 300
  · exact cPwOf (lo := 200) cPw_2 (by omega) (by omega)
  by_cases g3 : n ≤ 400
  · exact cPwOf (lo := 300) cPw_3 (by omega) (by omega)
  by_cases g4 : n ≤ 500
  · exact cPwOf (lo := 400) cPw_4 (by omega) (by omega)
  by_cases g5 : n ≤ 600
  · exact cPwOf (lo := 500) cPw_5 (by omega) (by omega)
  by_cases g6 : n ≤ 700
  · exact cPwOf (lo := 600) cPw_6 (by omega) (by omega)
  by_cases g7 : n ≤ 800
  · exact cPwOf (lo := 700) cPw_7 (by omega) (by omega)
  by_cases g8 : n ≤ 900
  · exact cPwOf (lo := 800) cPw_8 (by omega) (by omega)
  exact cPwOf (lo := 900) cPw_9 (by omega) (by omega)
theorem cSqr (n : Nat) (h1 : 1 ≤ n) (h3 : n ≤ 999) : lSqr (nPw n) = ((nSqr n 31 : Nat) : Int) := eq_of_beq (cPwAll n h1 h3)
