-- ==================== what is known of numbers: plain functions
def nF {α : Type} (x : Nat) (f : Nat → α) : α := match x with
  | 0 => f 0
  | y + 1 => f (y + 1)
theorem nF_eq {α : Type} (x : Nat) (f : Nat → α) : nF x f = f x := by
  cases x <;> rfl
def nPhi (n : Nat) : Nat → Nat
  | 0 => 0
  | d + 1 => nPhi n d + (if Nat.gcd (d + 1) n = 1 then 1 else 0)
def nSqr (n : Nat) : Nat → Nat
  | 0 => 1
  | d + 1 => if n % ((d + 1) * (d + 1)) = 0 then (d + 1) * (d + 1) else nSqr n d
def nLst (n : Nat) : Nat → Nat → Nat
  | 0, d => d
  | f + 1, d => if n % d = 0 then d else nLst n f (d + 1)
def nAll : Nat → Nat → Nat
  | 0, _ => 0
  | f + 1, n => if n ≤ 1 then 0 else nF (n / nLst n 1000 2) (fun m => nAll f m + 1)
def nSgn (n : Nat) : Int := if 1 < nSqr n 31 then 0 else if nAll 12 n % 2 = 0 then 1 else -1
def nDv (p : Nat) : Nat → Nat → Nat → Nat × Nat
  | 0, r, k => (r, k)
  | f + 1, r, k => if r % p = 0 then nF (r / p) (fun q => nDv p f q (k + 1)) else (r, k)
def nLay : Nat → Nat → Nat → List (Nat × Nat) → List (Nat × Nat)
  | 0, _, _, L => L
  | f + 1, p, r, L => if r < p then L else nF (nDv p 9 r 0).1 (fun q => nF (nDv p 9 r 0).2 (fun k => if k = 0 then nF (p + 1) (fun p' => nLay f p' q L) else if L.length < 4 then nF (p + 1) (fun p' => nLay f p' q (L ++ [(p, k)])) else nF (p + 1) (fun p' => nLay f p' q L)))
def nPw (n : Nat) : List (Nat × Nat) := nLay 1000 2 n []
def lPhi (L : List (Nat × Nat)) : Int := L.foldl (fun a q => a * (((q.1 ^ (q.2 - 1) : Nat) : Int) * q.1 - ((q.1 ^ (q.2 - 1) : Nat) : Int))) 1
def lSgn (L : List (Nat × Nat)) : Int := L.foldl (fun a q => if q.2 < 2 then -a else 0) 1
def cPw (n : Nat) : Bool := lPhi (nPw n) == ((nPhi n n : Nat) : Int) && lSgn (nPw n) == nSgn n
theorem cPw_0 : (List.range 100).all (fun i => cPw (0 + i + 1)) = true := by decide +kernel
theorem cPw_1 : (List.range 20).all (fun i => cPw (100 + i + 1)) = true := by decide +kernel
theorem cPwOf {m lo : Nat} (h : (List.range m).all (fun i => cPw (lo + i + 1)) = true) {n : Nat} (a : lo < n) (b : n ≤ lo + m) : cPw n = true := by
  have := List.all_eq_true.mp h (n - lo - 1) (List.mem_range.mpr (by omega))
  rw [show lo + (n - lo - 1) + 1 = n by omega] at this
  exact this
theorem cPwAll (n : Nat) (h1 : 1 ≤ n) (h3 : n ≤ 120) : cPw n = true := by
  by_cases g0 : n ≤ 100
  · exact cPwOf (lo := 0) cPw_0 (by omega) (by omega)
  exact cPwOf (lo := 100) cPw_1 (by omega) (by omega)
theorem cPwS (n : Nat) (h1 : 1 ≤ n) (h3 : n ≤ 120) : lPhi (nPw n) = ((nPhi n n : Nat) : Int) ∧ lSgn (nPw n) = nSgn n := by
  have h := cPwAll n h1 h3
  simp only [cPw, Bool.and_eq_true, beq_iff_eq] at h
  obtain ⟨a0, a1⟩ := h
  exact ⟨a0, a1⟩
theorem cPhi (n : Nat) (h1 : 1 ≤ n) (h3 : n ≤ 120) : lPhi (nPw n) = ((nPhi n n : Nat) : Int) := (cPwS n h1 h3).1
theorem cSgn (n : Nat) (h1 : 1 ≤ n) (h3 : n ≤ 120) : lSgn (nPw n) = nSgn n := (cPwS n h1 h3).2
