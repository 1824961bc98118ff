-- ==================== apart: both answer alike
set_option maxHeartbeats 2000000 in
theorem zAl (F : Nat) (pr : Nat → Int32) (tm : Nat → Int32) (cn : Int32) (p0 : Int32) (p1 : Int32) (hF : 2000 ≤ F) (hp1 : zTm tm) : (∃ q : Int32, ZE (fun (r : (Nat × Int32 × (Nat → Int32) × (Nat → Int32) × Int32)) => r.1 = 0 ∧ r.2.1 = q) (p_X7_apart F pr tm cn p0 p1) ∧ ZE (fun r => r = (q, (0 : Int32))) (p_X9_apart F p0 p1)) ∨ (ZE (fun (r : (Nat × Int32 × (Nat → Int32) × (Nat → Int32) × Int32)) => r.1 = 2) (p_X7_apart F pr tm cn p0 p1) ∧ ZE (fun r => r = ((0 : Int32), (1 : Int32))) (p_X9_apart F p0 p1)) := by
  have o1 : (1 : Int32).toInt = 1 := by decide
  have o9 : (120 : Int32).toInt = 120 := by decide
  have no : ¬ (z01 true) = 0 := by decide
  have nf : (z01 false) = 0 := by decide
  rcases zni p0 1 120 with ⟨n7, i9, l0, u0⟩ | ⟨n7, i9⟩
  case inr =>
    right
    constructor
    · unfold p_X7_apart
      refine ZE_b1 (Q := fun r => r = 2) ⟨2, n7, rfl⟩ (fun cd h => ?_)
      subst h
      exact ZE_if (fun c => absurd c (by decide)) (fun _ => ⟨_, rfl, rfl⟩)
    · unfold p_X9_apart
      refine ZE_b1 (Q := fun r => r = false) ⟨false, i9, rfl⟩ (fun r1 h => ?_)
      subst h
      refine ZE_lta (ZE_if (fun _ => ?_) (fun c => absurd nf c))
      refine ZE_b2 (Q := fun r => r = (true, 1)) ⟨_, rfl, rfl⟩ (fun r3 th h => ?_)
      obtain ⟨rfl, rfl⟩ := Prod.mk.inj h
      exact ZE_if (fun c => absurd c no) (fun _ => ⟨_, rfl, rfl⟩)
  rcases zni p1 0 2 with ⟨n7b, i9b, l1, u1⟩ | ⟨n7b, i9b⟩
  case inr =>
    right
    constructor
    · unfold p_X7_apart
      refine ZE_b1 (Q := fun r => r = 0) ⟨0, n7, rfl⟩ (fun cd h => ?_)
      subst h
      refine ZE_if (fun _ => ?_) (fun c => absurd rfl c)
      refine ZE_b1 (Q := fun r => r = 2) ⟨2, n7b, rfl⟩ (fun cd h => ?_)
      subst h
      exact ZE_if (fun c => absurd c (by decide)) (fun _ => ⟨_, rfl, rfl⟩)
    · unfold p_X9_apart
      refine ZE_b1 (Q := fun r => r = true) ⟨true, i9, rfl⟩ (fun r1 h => ?_)
      subst h
      refine ZE_lta (ZE_if (fun c => absurd c no) (fun _ => ?_))
      refine ZE_b1 (Q := fun r => r = false) ⟨false, i9b, rfl⟩ (fun r1 h => ?_)
      subst h
      refine ZE_if (fun _ => ?_) (fun c => absurd nf c)
      refine ZE_b2 (Q := fun r => r = (true, 1)) ⟨_, rfl, rfl⟩ (fun r3 th h => ?_)
      obtain ⟨rfl, rfl⟩ := Prod.mk.inj h
      exact ZE_if (fun c => absurd c no) (fun _ => ⟨_, rfl, rfl⟩)
  left
  rw [o1] at l0
  rw [o9] at u0
  obtain ⟨n, hn⟩ := zNn (x := p0) (by omega)
  have h1 : 1 ≤ n := by omega
  have h3 : n ≤ 120 := by omega
  have h2 : n ≤ 1000 := by omega
  refine ⟨Int32.ofInt (((nApt n n : Nat) : Int)), ?_, ?_⟩
  · unfold p_X7_apart
    refine ZE_b1 (Q := fun r => r = 0) ⟨0, n7, rfl⟩ (fun cd h => ?_)
    subst h
    refine ZE_if (fun _ => ?_) (fun c => absurd rfl c)
    refine ZE_b1 (Q := fun r => r = 0) ⟨0, n7b, rfl⟩ (fun cd h => ?_)
    subst h
    refine ZE_if (fun _ => ?_) (fun c => absurd rfl c)
    refine ZE_if (fun c => ?_) (fun c => ?_)
    · refine ZE_if (fun c => ?_) (fun c => ?_)
      · exact ZE_b4 (zAptP F pr tm cn p0 n hF hn h1 h3) (fun r a b c h => ⟨_, rfl, rfl, h⟩)
      · exact ZE_b4 (zAptS F pr tm cn p0 n hF hn h1 h3) (fun r a b c h => ⟨_, rfl, rfl, h⟩)
    · exact ZE_b1 (zApt7 F p0 n hF hn h1 h3) (fun r h => ⟨_, rfl, rfl, h⟩)
  · unfold p_X9_apart
    refine ZE_b1 (Q := fun r => r = true) ⟨true, i9, rfl⟩ (fun r1 h => ?_)
    subst h
    refine ZE_lta (ZE_if (fun c => absurd c no) (fun _ => ?_))
    refine ZE_b1 (Q := fun r => r = true) ⟨true, i9b, rfl⟩ (fun r1 h => ?_)
    subst h
    refine ZE_if (fun c => absurd c no) (fun _ => ?_)
    refine ZE_b2 (Q := fun r => r = (false, 0)) ⟨_, rfl, rfl⟩ (fun r3 th h => ?_)
    obtain ⟨rfl, rfl⟩ := Prod.mk.inj h
    refine ZE_if (fun _ => ?_) (fun c => absurd nf c)
    exact zApt9L F p0 n hF hn h1 h3 _ (fun a b h => ⟨_, rfl, by rw [h]⟩) F 0 1 0 (by decide) (by omega) rfl (by omega)
theorem zlc0 (x : Int64) : lg_cmp x x = 0 := by
  unfold lg_cmp
  rw [if_neg (fun h => Int64.lt_irrefl h), if_pos rfl]
set_option maxHeartbeats 2000000 in
theorem t_law_22 (F : Nat) (R : Nat → Nat → Int64) (b : Bool) (pr : Nat → Int32) (tm : Nat → Int32) (cn : Int32) (sm : Nat → Int32) (ac : Int32) (re : Int32) (kn : Int32) (V : Nat → Int64) (ib : Bool) (dn : Int32) (rf : Int32) (mk : Int32) (th : Int32) (xs : Nat → Int32) (i : Int32) (on : Int64) (hp0 : 2000 ≤ F) (hp1 : zTm tm) (hp2 : 0 ≤ cn.toInt) (hp3 : cn.toInt ≤ 4) (hp4 : kn = mk) : ZE (fun (r : ((Nat → Nat → Int64) × Bool × (Nat → Int32) × (Nat → Int32) × Int32 × (Nat → Int32) × Int32 × Int32 × Int32 × (Nat → Int64) × Bool × Int32 × Int32 × Int32 × Int32 × Int64)) => zTm r.2.2.2.1 ∧ 0 ≤ r.2.2.2.2.1.toInt ∧ r.2.2.2.2.1.toInt ≤ 4 ∧ r.2.2.2.2.2.2.2.2.1 = r.2.2.2.2.2.2.2.2.2.2.2.2.2.1) (p_law_22 F R b pr tm cn sm ac re kn V ib dn rf mk th xs i on) := by
  unfold p_law_22
  generalize xs (i + (1 : Int32)).toNatClampNeg = p0
  generalize xs (i + (2 : Int32)).toNatClampNeg = p1
  rcases zAl F pr tm cn p0 p1 hp0 hp1 with ⟨q, a7, a9⟩ | ⟨a7, a9⟩
  · skip
    refine ZE_b5 (Q := fun (r : (Int32 × Int64 × (Nat → Int32) × (Nat → Int32) × Int32)) => r.1 = (0 : Int32) ∧ r.2.1 = q.toInt64 ∧ zTm r.2.2.2.1 ∧ 0 ≤ r.2.2.2.2.toInt ∧ r.2.2.2.2.toInt ≤ 4) ?_ (fun r1 on2 w0 w1 w2 h => ?_)
    · unfold p_L_apart
      refine ZE_b5 (ZE_and a7 (t_X7_apart F pr tm cn p0 p1 hp0 hp1 hp2 hp3)) (fun cd1 r2 w0 w1 w2 h => ?_)
      obtain ⟨⟨k1, k2⟩, _, g0, g1, g2⟩ := h
      dsimp only at k1 k2
      subst k1
      subst k2
      exact ZE_if (fun _ => ⟨_, rfl, rfl, rfl, g0, g1, g2⟩) (fun c => absurd rfl c)
    obtain ⟨k1, k2, g0, g1, g2⟩ := h
    dsimp only at k1 k2
    subst k1
    subst k2
    refine ZE_b2 a9 (fun r14 th_20 h => ?_)
    simp only [Prod.mk.injEq] at h
    obtain ⟨rfl, rfl⟩ := h
    refine ZE_b1 (t_X9_thrown _) (fun r22 h => ?_)
    subst h
    refine ZE_if (fun _ => ?_) (fun c => absurd rfl c)
    refine ZE_if (fun c => absurd rfl c) (fun _ => ?_)
    exact ZE_if (fun _ => ⟨_, rfl, g0, g1, g2, hp4⟩) (fun c => absurd (zlc0 _) c)
  · skip
    refine ZE_b5 (Q := fun (r : (Int32 × Int64 × (Nat → Int32) × (Nat → Int32) × Int32)) => r.1 = (1 : Int32) ∧ r.2.1 = on ∧ zTm r.2.2.2.1 ∧ 0 ≤ r.2.2.2.2.toInt ∧ r.2.2.2.2.toInt ≤ 4) ?_ (fun r1 on2 w0 w1 w2 h => ?_)
    · unfold p_L_apart
      refine ZE_b5 (ZE_and a7 (t_X7_apart F pr tm cn p0 p1 hp0 hp1 hp2 hp3)) (fun cd1 r2 w0 w1 w2 h => ?_)
      obtain ⟨k1, _, g0, g1, g2⟩ := h
      dsimp only at k1
      subst k1
      exact ZE_if (fun c => absurd c (by decide)) (fun _ => ZE_if (fun _ => ⟨_, rfl, rfl, rfl, g0, g1, g2⟩) (fun c => absurd rfl c))
    obtain ⟨k1, k2, g0, g1, g2⟩ := h
    dsimp only at k1 k2
    subst k1
    subst k2
    refine ZE_b2 a9 (fun r14 th_20 h => ?_)
    simp only [Prod.mk.injEq] at h
    obtain ⟨rfl, rfl⟩ := h
    refine ZE_b1 (t_X9_thrown _) (fun r22 h => ?_)
    subst h
    refine ZE_if (fun _ => ?_) (fun c => absurd rfl c)
    exact ZE_if (fun _ => ⟨_, rfl, g0, g1, g2, hp4⟩) (fun c => absurd (show ¬ (1 : Int32) = 0 by decide) c)
