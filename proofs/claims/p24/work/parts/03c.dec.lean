-- ==================== decode rows by lists
def dcOk (c : ByteArray) : List (Nat × Instr × Nat) → Bool
  | [] => true
  | a :: r => decide (decode c a.1 = .ok a.2) && dcOk c r
def dcAll (c : ByteArray) : List (Nat × Instr × Nat) → Prop
  | [] => True
  | a :: r => decode c a.1 = .ok a.2 ∧ dcAll c r
theorem dcAll_of {c : ByteArray} : ∀ {L : List (Nat × Instr × Nat)}, dcOk c L = true → dcAll c L
  | [], _ => trivial
  | a :: r, h => by
    have h' : (decide (decode c a.1 = .ok a.2) && dcOk c r) = true := h
    rw [Bool.and_eq_true, decide_eq_true_eq] at h'
    exact ⟨h'.1, dcAll_of h'.2⟩
theorem zmem {big : List Cond} {w : Cond} (i : Nat) (h : big[i]? = some w) : w ∈ big := List.mem_of_getElem? h
