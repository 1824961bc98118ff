theorem zO_make (F : Nat) (R : Nat → Nat → Int64) (b : Bool) (pr : Nat → Int32) (tm : Nat → Int32) (cn : Int32) (ac : Int32) (re : Int32) (p0 : Int32) (p1 : Int32) (p2 : Int32) (V : Nat → Int64) (ib : Bool) (dn : Int32) (rf : Int32) (hS : zEq R V) (ha : ac = dn) (hr : re = rf) (hF : 2000 ≤ F) : Z2 (fun (r : (Nat × Int32 × (Nat → Nat → Int64) × Bool × (Nat → Int32) × (Nat → Int32) × Int32 × Int32 × Int32)) (s : (Int32 × (Nat → Int64) × Bool × Int32 × Int32 × Int32)) => zCf r.1 s.2.2.2.2.2 ∧ (r.1 = 0 → s.1 = r.2.1) ∧ zEq r.2.2.1 s.2.1 ∧ r.2.2.2.2.2.2.2.1 = s.2.2.2.1 ∧ r.2.2.2.2.2.2.2.2 = s.2.2.2.2.1) (p_X7_make F R b pr tm cn ac re p0 p1 p2) (p_X9_make F V ib dn rf p0 p1 p2) := by
  subst ha
  subst hr
  rcases zro p0 with ⟨x, hx, hx3, r0, i0⟩ | ⟨r0, i0⟩
  · rcases zro p2 with ⟨z, hz, hz3, r2, i2⟩ | ⟨r2, i2⟩
    · rcases zni p1 0 5 with ⟨n1, j1, l1, u1⟩ | ⟨n1, j1⟩
      · rw [show (0 : Int32).toInt = 0 from by decide] at l1
        rw [show (5 : Int32).toInt = 5 from by decide] at u1
        by_cases hi : p1 = 0 → (V (121 * x + 1) = 1 ∨ V (121 * x + 1) = -1)
        · refine Z2_of (P := fun r => r.1 = 0 ∧ ((gOr (fun j => (sMk p1 (fun j => V (121 * x + j)) j).2) 120 = true ∧ r.2.1 = -9 ∧ (∀ i, i ≤ 3 → r.2.2.1 i = R i) ∧ r.2.2.2.2.2.2.2.1 = ac ∧ r.2.2.2.2.2.2.2.2 = re + 1) ∨ (gOr (fun j => (sMk p1 (fun j => V (121 * x + j)) j).2) 120 = false ∧ r.2.1 = Int32.ofInt ((gCnt (fun j => V (121 * z + j)) (fun j => (sMk p1 (fun j => V (121 * x + j)) j).1) 120 : Nat) : Int) ∧ (∀ i, i ≤ 3 → i ≠ z → r.2.2.1 i = R i) ∧ (∀ j, 1 ≤ j → j ≤ 120 → r.2.2.1 z j = (fun j => (sMk p1 (fun j => V (121 * x + j)) j).1) j) ∧ r.2.2.2.2.2.2.2.1 = ac + 1 ∧ r.2.2.2.2.2.2.2.2 = re))) (P' := fun s => ((gOr (fun j => (sMk p1 (fun j => V (121 * x + j)) j).2) 120 = true ∧ (s.1, s.2.1, s.2.2.2.1, s.2.2.2.2.1) = (-9, V, ac, re + 1)) ∨ (gOr (fun j => (sMk p1 (fun j => V (121 * x + j)) j).2) 120 = false ∧ s.1 = Int32.ofInt ((gCnt (fun j => V (121 * z + j)) (fun j => (sMk p1 (fun j => V (121 * x + j)) j).1) 120 : Nat) : Int) ∧ zBec V s.2.1 z (fun j => (sMk p1 (fun j => V (121 * x + j)) j).1) ∧ s.2.2.2.1 = ac + 1 ∧ s.2.2.2.2.1 = re)) ∧ s.2.2.2.2.2 = 0) ?_ ?_ ?_
          · unfold p_X7_make
            refine ZE_b2e r0 (ZE_ok (ZE_b2e r2 (ZE_ok (ZE_b1e n1 (ZE_ok ?_)))))
            refine ZE_b6 (zMk7 F R b pr tm cn p1 x 4 hF l1 u1 (by omega) (fun j => V (121 * x + j)) (fun j j1 j2 => hS x j hx3 j1 j2) hi) (fun ok R1 b1 q1 q2 q3 hL => ?_)
            refine ZE_if (fun c => ?_) (fun c => ?_)
            · have hok := hL.2.2.symm.trans (zbf0 c)
              refine ZE_b2 (Q := fun q => q = ((-9 : Int32), re + 1)) ⟨_, rfl, rfl⟩ (fun q re2 hq => ?_)
              obtain ⟨rfl, rfl⟩ := Prod.mk.inj hq
              exact ⟨_, rfl, rfl, Or.inl ⟨znt hok, rfl, fun i i3 => hL.1 i (by omega), rfl, rfl⟩⟩
            · have hok := hL.2.2.symm.trans (zb01 c)
              refine ZE_b3 (zBe7 F R1 ac z hF (fun j => V (121 * z + j)) (fun j => (sMk p1 (fun j => V (121 * x + j)) j).1) (fun j j1 j2 => (congrFun (hL.1 z (by omega)) j).trans (hS z j hz3 j1 j2)) hL.2.1) (fun q R2 ac2 h => ?_)
              exact ⟨_, rfl, rfl, Or.inr ⟨znf hok, h.1, fun i i3 ix => (h.2.1.1 i ix).trans (hL.1 i (by omega)), h.2.1.2, h.2.2, rfl⟩⟩
          · unfold p_X9_make
            refine ZE_b1e i0 (ZE_lta (ZE_z1 (ZE_b1e i2 (ZE_z1 (ZE_b1e j1 (ZE_b2e rfl (ZE_z0 ?_)))))))
            refine ZE_if (fun c => ?_) (fun c => ?_)
            · refine ZE_b1 (zOf9 F V p0 x hF hx hx3) (fun fx hfx => ?_)
              refine ZE_b2 (zMk9 F fx p1 hF l1 u1 (fun j => V (121 * x + j)) hfx) (fun fr ib2 hM => ?_)
              obtain ⟨hfr, hib⟩ := hM
              dsimp only at hib
              refine ZE_b4 (zBn9 F V ib2 ac re p2 fr z hF hz hz3 (fun j => (sMk p1 (fun j => V (121 * x + j)) j).1) hfr) (fun q V2 dn2 rf2 h => ⟨_, rfl, ?_, rfl⟩)
              rcases h with ⟨h1, h2⟩ | ⟨h1, h2⟩
              · exact Or.inl ⟨by rw [← hib]; exact h1, h2⟩
              · exact Or.inr ⟨by rw [← hib]; exact h1, h2⟩
            · have c0 : p1 = 0 := Decidable.not_not.mp c
              refine ZE_b1 (zOf9 F V p0 x hF hx hx3) (fun fh hfh => ?_)
              refine ZE_b1e (zHi9 fh (fun j => V (121 * x + j)) hfh) ?_
              rw [decide_eq_true (hi c0)]
              refine ZE_if (fun _ => ?_) (fun q => absurd (by decide) q)
              refine ZE_b1 (zOf9 F V p0 x hF hx hx3) (fun fx hfx => ?_)
              refine ZE_b2 (zMk9 F fx p1 hF l1 u1 (fun j => V (121 * x + j)) hfx) (fun fr ib2 hM => ?_)
              obtain ⟨hfr, hib⟩ := hM
              dsimp only at hib
              refine ZE_b4 (zBn9 F V ib2 ac re p2 fr z hF hz hz3 (fun j => (sMk p1 (fun j => V (121 * x + j)) j).1) hfr) (fun q V2 dn2 rf2 h => ⟨_, rfl, ?_, rfl⟩)
              rcases h with ⟨h1, h2⟩ | ⟨h1, h2⟩
              · exact Or.inl ⟨by rw [← hib]; exact h1, h2⟩
              · exact Or.inr ⟨by rw [← hib]; exact h1, h2⟩
          · intro r s h g
            obtain ⟨h0, h⟩ := h
            obtain ⟨g, gt⟩ := g
            rw [h0, gt]
            rcases h with ⟨hb, h1, h2, h3, h4⟩ | ⟨hb, h1, h2, h3, h4, h5⟩
            · rcases g with ⟨gb, g1⟩ | ⟨gb, g1⟩
              · simp only [Prod.mk.injEq] at g1
                obtain ⟨g1, g2, g3, g4⟩ := g1
                refine ⟨zCf0, fun _ => by rw [g1, h1], ?_, by rw [h3, g3], by rw [h4, g4]⟩
                rw [g2]
                exact zEq_same hS h2
              · rw [hb] at gb
                exact absurd gb (by decide)
            · rcases g with ⟨gb, g1⟩ | ⟨gb, g1, g2, g3, g4⟩
              · rw [hb] at gb
                exact absurd gb (by decide)
              · exact ⟨zCf0, fun _ => by rw [g1, h1], zEq_set hS h2 h3 g2, by rw [h4, g3], by rw [h5, g4]⟩
        · have h0 : p1 = 0 := Decidable.not_not.mp (fun h => hi (fun q => absurd q h))
          have hn : ¬ (V (121 * x + 1) = 1 ∨ V (121 * x + 1) = -1) := fun h => hi (fun _ => h)
          refine Z2_of (P := fun r => r = (0, -9, R, b, pr, tm, cn, ac, re + 1)) (P' := fun s => s = (-9, V, true, ac, re + 1, 0)) ?_ ?_ (fun r s h g => by rw [h, g]; exact ⟨zCf0, fun _ => rfl, hS, rfl, rfl⟩)
          · unfold p_X7_make
            refine ZE_b2e r0 (ZE_ok (ZE_b2e r2 (ZE_ok (ZE_b1e n1 (ZE_ok ?_)))))
            refine ZE_b6 (Q := fun q => q = (false, R, b, pr, tm, cn)) ?_ (fun ok R1 b1 q1 q2 q3 hL => ?_)
            · unfold p_X0_layMade p_X0_layInverse
              refine ZE_if (fun _ => ?_) (fun c => absurd h0 c)
              rw [zHi7 R x (fun j => V (121 * x + j)) (fun j j1 j2 => hS x j hx3 j1 j2), decide_eq_false hn]
              exact ⟨_, rfl, rfl⟩
            · simp only [Prod.mk.injEq] at hL
              obtain ⟨rfl, rfl, rfl, rfl, rfl, rfl⟩ := hL
              exact ⟨_, rfl, rfl⟩
          · unfold p_X9_make
            refine ZE_b1e i0 (ZE_lta (ZE_z1 (ZE_b1e i2 (ZE_z1 (ZE_b1e j1 (ZE_b2e rfl (ZE_z0 ?_)))))))
            refine ZE_if (fun c => absurd h0 c) (fun _ => ?_)
            refine ZE_b1 (zOf9 F V p0 x hF hx hx3) (fun fh hfh => ?_)
            refine ZE_b1e (zHi9 fh (fun j => V (121 * x + j)) hfh) ?_
            rw [decide_eq_false hn]
            refine ZE_if (fun q => absurd rfl q) (fun _ => ?_)
            refine ZE_b1 (zOf9 F V p2 z hF hz hz3) (fun fz hfz => ?_)
            exact ⟨_, rfl, rfl⟩
      · exact ⟨_, _, (by unfold p_X7_make; rw [r0]; show zb2 (p_X7_rowOf p2) _ = _; rw [r2]; show zb1 (p_X7_need p1 0 5) _ = _; rw [n1]; rfl), (by unfold p_X9_make; rw [i0, i2, j1]; rfl), zCf2, fun c => absurd c zne20, hS, rfl, rfl⟩
    · have e9 : p_X9_make F V ib ac re p0 p1 p2 = some (0, V, ib, ac, re, 1) := by
        unfold p_X9_make
        rcases zni p1 0 5 with ⟨n1, j1, l1, u1⟩ | ⟨n1, j1⟩
        · rw [i0, i2, j1]; rfl
        · rw [i0, i2, j1]; rfl
      exact ⟨_, _, (by unfold p_X7_make; rw [r0]; show zb2 (p_X7_rowOf p2) _ = _; rw [r2]; rfl), e9, zCf1, fun c => absurd c zne10, hS, rfl, rfl⟩
  · have e9 : p_X9_make F V ib ac re p0 p1 p2 = some (0, V, ib, ac, re, 1) := by
      unfold p_X9_make
      rcases zni p1 0 5 with ⟨n1, j1, l1, u1⟩ | ⟨n1, j1⟩
      · rw [i0, j1]; rfl
      · rw [i0, j1]; rfl
    exact ⟨_, _, (by unfold p_X7_make; rw [r0]; rfl), e9, zCf1, fun c => absurd c zne10, hS, rfl, rfl⟩

theorem zO_differ (F : Nat) (R : Nat → Nat → Int64) (b : Bool) (pr : Nat → Int32) (tm : Nat → Int32) (cn : Int32) (sm : Nat → Int32) (ac : Int32) (re : Int32) (kn : Int32) (p0 : Int32) (p1 : Int32) (V : Nat → Int64) (ib : Bool) (dn : Int32) (rf : Int32) (mk : Int32) (hS : zEq R V) (ha : ac = dn) (hr : re = rf) (hk : kn = mk) (hF : 2000 ≤ F) : Z2 (fun (r : (Nat × Int32 × (Nat → Nat → Int64) × Bool × (Nat → Int32) × (Nat → Int32) × Int32 × (Nat → Int32) × Int32 × Int32 × Int32)) (s : (Int32 × (Nat → Int64) × Bool × Int32 × Int32 × Int32 × Int32)) => zCf r.1 s.2.2.2.2.2.2 ∧ (r.1 = 0 → s.1 = r.2.1) ∧ zEq r.2.2.1 s.2.1 ∧ r.2.2.2.2.2.2.2.2.1 = s.2.2.2.1 ∧ r.2.2.2.2.2.2.2.2.2.1 = s.2.2.2.2.1 ∧ r.2.2.2.2.2.2.2.2.2.2 = s.2.2.2.2.2.1) (p_X7_differ F R b pr tm cn sm ac re kn p0 p1) (p_X9_differ F V ib dn rf mk p0 p1) := by
  subst ha
  subst hr
  subst hk
  rcases zro p0 with ⟨x, hx, hx3, r0, i0⟩ | ⟨r0, i0⟩
  · rcases zro p1 with ⟨y, hy, hy3, r1, i1⟩ | ⟨r1, i1⟩
    · refine Z2_of (P := fun r => r = (0, gFst (fun j => V (121 * x + j)) (fun j => V (121 * y + j)) 120 1, R, b, pr, tm, cn, sm, ac, re, kn)) (P' := fun s => s = (gFst (fun j => V (121 * x + j)) (fun j => V (121 * y + j)) 120 1, V, ib, ac, re, kn, 0)) ?_ ?_ (fun r s h g => by rw [h, g]; exact ⟨zCf0, fun _ => rfl, hS, rfl, rfl, rfl⟩)
      · unfold p_X7_differ
        refine ZE_b2e r0 (ZE_ok (ZE_b2e r1 (ZE_ok ?_)))
        refine ZE_b10 (zFi7 F R b pr tm cn sm ac re kn x y hF (fun j => V (121 * x + j)) (fun j => V (121 * y + j)) (fun j j1 j2 => hS x j hx3 j1 j2) (fun j j1 j2 => hS y j hy3 j1 j2)) (fun a1 a2 a3 a4 a5 a6 a7 a8 a9 a10 h => ⟨_, rfl, ?_⟩)
        rw [h]
      · unfold p_X9_differ
        refine ZE_b1e i0 (ZE_lta (ZE_z1 (ZE_b1e i1 (ZE_z1 (ZE_b2e rfl (ZE_z0 ?_))))))
        exact zFi9L1 (P := fun s => s = (gFst (fun j => V (121 * x + j)) (fun j => V (121 * y + j)) 120 1, V, ib, ac, re, kn, 0)) F V ib ac re kn p0 p1 0 x y hx hx3 hy hy3 _ rfl _ (fun vd h => ⟨_, rfl, by rw [h]⟩) F 1 1 120 (by decide) (by omega) (by omega) rfl (by omega)
    · exact ⟨_, _, (by unfold p_X7_differ; rw [r0]; show zb2 (p_X7_rowOf p1) _ = _; rw [r1]; rfl), (by unfold p_X9_differ; rw [i0, i1]; rfl), zCf1, fun c => absurd c zne10, hS, rfl, rfl, rfl⟩
  · exact ⟨_, _, (by unfold p_X7_differ; rw [r0]; rfl), (by unfold p_X9_differ; rw [i0]; rfl), zCf1, fun c => absurd c zne10, hS, rfl, rfl, rfl⟩

theorem zO_is (F : Nat) (R : Nat → Nat → Int64) (b : Bool) (pr : Nat → Int32) (tm : Nat → Int32) (cn : Int32) (sm : Nat → Int32) (ac : Int32) (re : Int32) (kn : Int32) (p0 : Int32) (p1 : Int32) (V : Nat → Int64) (ib : Bool) (dn : Int32) (rf : Int32) (mk : Int32) (hS : zEq R V) (ha : ac = dn) (hr : re = rf) (hk : kn = mk) (hF : 2000 ≤ F) : Z2 (fun (r : (Nat × Bool × (Nat → Nat → Int64) × Bool × (Nat → Int32) × (Nat → Int32) × Int32 × (Nat → Int32) × Int32 × Int32 × Int32)) (s : (Bool × (Nat → Int64) × Bool × Int32 × Int32 × Int32 × Int32)) => zCf r.1 s.2.2.2.2.2.2 ∧ (r.1 = 0 → s.1 = r.2.1) ∧ zEq r.2.2.1 s.2.1 ∧ r.2.2.2.2.2.2.2.2.1 = s.2.2.2.1 ∧ r.2.2.2.2.2.2.2.2.2.1 = s.2.2.2.2.1 ∧ r.2.2.2.2.2.2.2.2.2.2 = s.2.2.2.2.2.1) (p_X7_is F R b pr tm cn sm ac re kn p0 p1) (p_X9_is F V ib dn rf mk p0 p1) := by
  subst ha
  subst hr
  subst hk
  rcases zro p0 with ⟨x, hx, hx3, r0, i0⟩ | ⟨r0, i0⟩
  · rcases zni p1 0 3 with ⟨n1, j1, l1, u1⟩ | ⟨n1, j1⟩
    · rw [show (0 : Int32).toInt = 0 from by decide] at l1
      rw [show (3 : Int32).toInt = 3 from by decide] at u1
      rcases (show p1 = 0 ∨ p1 = 1 ∨ p1 = 2 ∨ p1 = 3 by rcases zi6 l1 (by omega) with e | e | e | e | e | e <;> first | exact Or.inl e | exact Or.inr (Or.inl e) | exact Or.inr (Or.inr (Or.inl e)) | exact Or.inr (Or.inr (Or.inr e)) | (subst e; exact absurd u1 (by decide))) with e | e | e | e
      · subst e
        refine Z2_of (P := (fun r => r.1 = 0 ∧ (r.2.1 = true ↔ gBp false (fun j => V (121 * x + j))) ∧ (∀ i, i ≤ 3 → r.2.2.1 i = R i) ∧ r.2.2.2.2.2.2.2.2 = (ac, re, kn))) (P' := (fun s => (s.1 = true ↔ gBp false (fun j => V (121 * x + j))) ∧ s.2.1 = V ∧ s.2.2.2 = (ac, re, kn, 0))) ?_ ?_ ?_
        · unfold p_X7_is
          refine ZE_b2e r0 (ZE_ok (ZE_b1e n1 (ZE_ok (ZE_if (fun _ => ?_) (fun c => absurd rfl c)))))
          refine ZE_b10 (zBp7 F R b pr tm cn sm ac re kn x false hF (fun j => V (121 * x + j)) (fun j j1 j2 => hS x j hx3 j1 j2)) (fun a1 a2 a3 a4 a5 a6 a7 a8 a9 a10 h => ⟨_, rfl, rfl, h.1, ?_, ?_⟩)
          · have h2 := h.2
            simp only [Prod.mk.injEq] at h2
            intro i i3
            rw [← h2.1]
          · have h2 := h.2
            simp only [Prod.mk.injEq] at h2
            obtain ⟨_, _, _, _, _, _, q1, q2, q3⟩ := h2
            rw [← q1, ← q2, ← q3]
        · unfold p_X9_is
          refine ZE_b1e i0 (ZE_b1e j1 (ZE_b2e rfl (ZE_z0 ?_)))
          refine ZE_b1 (zOf9 F V p0 x hF hx hx3) (fun fr hfr => ?_)
          refine ZE_if (fun c => absurd c (by decide)) (fun _ => ZE_if (fun _ => ?_) (fun c => absurd (by decide) c))
          refine ZE_b7 (zBp9 F V ib ac re kn 0 fr false hF (fun j => V (121 * x + j)) hfr) (fun a1 a2 a3 a4 a5 a6 a7 h => ⟨_, rfl, h⟩)
        · intro r s h g
          obtain ⟨h0, h1, h2, h3⟩ := h
          obtain ⟨g1, g2, g3⟩ := g
          simp only [Prod.ext_iff] at h3 g3
          obtain ⟨h3, h4, h5⟩ := h3
          obtain ⟨g3, g4, g5, g6⟩ := g3
          refine ⟨by rw [h0, g6]; exact zCf0, fun _ => Bool.eq_iff_iff.mpr (g1.trans h1.symm), ?_, by rw [h3, g3], by rw [h4, g4], by rw [h5, g5]⟩
          rw [g2]
          exact zEq_same hS h2
      · subst e
        refine Z2_of (P := (fun r => r.1 = 0 ∧ (r.2.1 = true ↔ gBp true (fun j => V (121 * x + j))) ∧ (∀ i, i ≤ 3 → r.2.2.1 i = R i) ∧ r.2.2.2.2.2.2.2.2 = (ac, re, kn))) (P' := (fun s => (s.1 = true ↔ gBp true (fun j => V (121 * x + j))) ∧ s.2.1 = V ∧ s.2.2.2 = (ac, re, kn, 0))) ?_ ?_ ?_
        · unfold p_X7_is
          refine ZE_b2e r0 (ZE_ok (ZE_b1e n1 (ZE_ok (ZE_if (fun c => absurd c (by decide)) (fun _ => ZE_if (fun _ => ?_) (fun c => absurd rfl c))))))
          refine ZE_b10 (zBp7 F R b pr tm cn sm ac re kn x true hF (fun j => V (121 * x + j)) (fun j j1 j2 => hS x j hx3 j1 j2)) (fun a1 a2 a3 a4 a5 a6 a7 a8 a9 a10 h => ⟨_, rfl, rfl, h.1, ?_, ?_⟩)
          · have h2 := h.2
            simp only [Prod.mk.injEq] at h2
            intro i i3
            rw [← h2.1]
          · have h2 := h.2
            simp only [Prod.mk.injEq] at h2
            obtain ⟨_, _, _, _, _, _, q1, q2, q3⟩ := h2
            rw [← q1, ← q2, ← q3]
        · unfold p_X9_is
          refine ZE_b1e i0 (ZE_b1e j1 (ZE_b2e rfl (ZE_z0 ?_)))
          refine ZE_b1 (zOf9 F V p0 x hF hx hx3) (fun fr hfr => ?_)
          refine ZE_if (fun c => absurd c (by decide)) (fun _ => ZE_if (fun c => absurd rfl c) (fun _ => ?_))
          refine ZE_b7 (zBp9 F V ib ac re kn 0 fr true hF (fun j => V (121 * x + j)) hfr) (fun a1 a2 a3 a4 a5 a6 a7 h => ⟨_, rfl, h⟩)
        · intro r s h g
          obtain ⟨h0, h1, h2, h3⟩ := h
          obtain ⟨g1, g2, g3⟩ := g
          simp only [Prod.ext_iff] at h3 g3
          obtain ⟨h3, h4, h5⟩ := h3
          obtain ⟨g3, g4, g5, g6⟩ := g3
          refine ⟨by rw [h0, g6]; exact zCf0, fun _ => Bool.eq_iff_iff.mpr (g1.trans h1.symm), ?_, by rw [h3, g3], by rw [h4, g4], by rw [h5, g5]⟩
          rw [g2]
          exact zEq_same hS h2
      · subst e
        refine Z2_of (P := (fun r => r.1 = 0 ∧ (r.2.1 = true ↔ (V (121 * x + 1) = 1 ∨ V (121 * x + 1) = -1)) ∧ (∀ i, i ≤ 3 → r.2.2.1 i = R i) ∧ r.2.2.2.2.2.2.2.2 = (ac, re, kn))) (P' := (fun s => (s.1 = true ↔ (V (121 * x + 1) = 1 ∨ V (121 * x + 1) = -1)) ∧ s.2.1 = V ∧ s.2.2.2 = (ac, re, kn, 0))) ?_ ?_ ?_
        · unfold p_X7_is
          refine ZE_b2e r0 (ZE_ok (ZE_b1e n1 (ZE_ok (ZE_if (fun c => absurd c (by decide)) (fun _ => ZE_if (fun c => absurd c (by decide)) (fun _ => ZE_if (fun _ => ?_) (fun c => absurd rfl c)))))))
          exact ZE_b1e (zHi7 R x (fun j => V (121 * x + j)) (fun j j1 j2 => hS x j hx3 j1 j2)) ⟨_, rfl, rfl, decide_eq_true_iff, fun _ _ => rfl, rfl⟩
        · unfold p_X9_is
          refine ZE_b1e i0 (ZE_b1e j1 (ZE_b2e rfl (ZE_z0 ?_)))
          refine ZE_b1 (zOf9 F V p0 x hF hx hx3) (fun fr hfr => ?_)
          refine ZE_if (fun _ => ?_) (fun c => absurd (by decide) c)
          refine ZE_b1e (zHi9 fr (fun j => V (121 * x + j)) hfr) (ZE_lta ?_)
          by_cases hi : (V (121 * x + 1) = 1 ∨ V (121 * x + 1) = -1)
          · rw [decide_eq_true hi]
            exact ⟨_, rfl, ⟨fun _ => hi, fun _ => rfl⟩, rfl, rfl⟩
          · rw [decide_eq_false hi]
            exact ⟨_, rfl, ⟨fun q => absurd q Bool.false_ne_true, fun q => absurd q hi⟩, rfl, rfl⟩
        · intro r s h g
          obtain ⟨h0, h1, h2, h3⟩ := h
          obtain ⟨g1, g2, g3⟩ := g
          simp only [Prod.ext_iff] at h3 g3
          obtain ⟨h3, h4, h5⟩ := h3
          obtain ⟨g3, g4, g5, g6⟩ := g3
          refine ⟨by rw [h0, g6]; exact zCf0, fun _ => Bool.eq_iff_iff.mpr (g1.trans h1.symm), ?_, by rw [h3, g3], by rw [h4, g4], by rw [h5, g5]⟩
          rw [g2]
          exact zEq_same hS h2
      · subst e
        refine Z2_of (P := (fun r => r.1 = 0 ∧ (r.2.1 = true ↔ ((V (121 * x + 1) = 1 ∨ V (121 * x + 1) = -1) ∧ gOr (iFl (fun j => V (121 * x + j))) 120 = false)) ∧ (∀ i, i ≤ 3 → r.2.2.1 i = R i) ∧ r.2.2.2.2.2.2.2.2 = (ac, re, kn))) (P' := (fun s => (s.1 = true ↔ ((V (121 * x + 1) = 1 ∨ V (121 * x + 1) = -1) ∧ gOr (iFl (fun j => V (121 * x + j))) 120 = false)) ∧ s.2.1 = V ∧ s.2.2.2 = (ac, re, kn, 0))) ?_ ?_ ?_
        · unfold p_X7_is
          refine ZE_b2e r0 (ZE_ok (ZE_b1e n1 (ZE_ok (ZE_if (fun c => absurd c (by decide)) (fun _ => ZE_if (fun c => absurd c (by decide)) (fun _ => ZE_if (fun c => absurd c (by decide)) (fun _ => ?_)))))))
          by_cases hi : (V (121 * x + 1) = 1 ∨ V (121 * x + 1) = -1)
          · refine ZE_b3 (zIn7 F R b x 4 hF (by omega) (fun j => V (121 * x + j)) (fun j j1 j2 => hS x j hx3 j1 j2) hi) (fun ok R1 b1 h => ⟨_, rfl, rfl, ?_, fun i i3 => h.1 i (by omega), rfl⟩)
            have h3 := h.2.2
            dsimp only at h3 ⊢
            rw [h3]
            exact ⟨fun q => ⟨hi, znf q⟩, fun q => by rw [q.2]; rfl⟩
          · refine ZE_b3 (Q := fun q => q = (false, R, b)) ?_ (fun ok R1 b1 h => ?_)
            · unfold p_X0_layInverse
              rw [zHi7 R x (fun j => V (121 * x + j)) (fun j j1 j2 => hS x j hx3 j1 j2), decide_eq_false hi]
              exact ⟨_, rfl, rfl⟩
            · simp only [Prod.mk.injEq] at h
              obtain ⟨rfl, rfl, rfl⟩ := h
              exact ⟨_, rfl, rfl, ⟨fun q => absurd q Bool.false_ne_true, fun q => absurd q.1 hi⟩, fun _ _ => rfl, rfl⟩
        · unfold p_X9_is
          refine ZE_b1e i0 (ZE_b1e j1 (ZE_b2e rfl (ZE_z0 ?_)))
          refine ZE_b1 (zOf9 F V p0 x hF hx hx3) (fun fr hfr => ?_)
          refine ZE_if (fun _ => ?_) (fun c => absurd (by decide) c)
          refine ZE_b1e (zHi9 fr (fun j => V (121 * x + j)) hfr) (ZE_lta ?_)
          by_cases hi : (V (121 * x + 1) = 1 ∨ V (121 * x + 1) = -1)
          · rw [decide_eq_true hi]
            refine ZE_if (fun _ => ?_) (fun c => absurd (by decide) c)
            refine ZE_if (fun c => absurd rfl c) (fun _ => ZE_if (fun c => absurd rfl c) (fun _ => ?_))
            refine ZE_b2 (zIn9 F false fr hF (fun j => V (121 * x + j)) hfr) (fun a1 ib2 h => ?_)
            have h2 := h.2
            rw [Bool.false_or] at h2
            dsimp only at h2
            refine ZE_if (fun c => ⟨_, rfl, ⟨fun q => absurd q Bool.false_ne_true, fun q => ?_⟩, rfl, rfl⟩) (fun c => ⟨_, rfl, ⟨fun _ => ⟨hi, ?_⟩, fun _ => rfl⟩, rfl, rfl⟩)
            · rw [← h2, zb01 c] at q
              exact absurd q.2 (by decide)
            · rw [← h2]
              exact zbf0 (Decidable.not_not.mp c)
          · rw [decide_eq_false hi]
            exact ⟨_, rfl, ⟨fun q => absurd q Bool.false_ne_true, fun q => absurd q.1 hi⟩, rfl, rfl⟩
        · intro r s h g
          obtain ⟨h0, h1, h2, h3⟩ := h
          obtain ⟨g1, g2, g3⟩ := g
          simp only [Prod.ext_iff] at h3 g3
          obtain ⟨h3, h4, h5⟩ := h3
          obtain ⟨g3, g4, g5, g6⟩ := g3
          refine ⟨by rw [h0, g6]; exact zCf0, fun _ => Bool.eq_iff_iff.mpr (g1.trans h1.symm), ?_, by rw [h3, g3], by rw [h4, g4], by rw [h5, g5]⟩
          rw [g2]
          exact zEq_same hS h2
    · exact ⟨_, _, (by unfold p_X7_is; rw [r0]; show zb1 (p_X7_need p1 0 3) _ = _; rw [n1]; rfl), (by unfold p_X9_is; rw [i0, j1]; rfl), zCf2, fun c => absurd c zne20, hS, rfl, rfl, rfl⟩
  · rcases zni p1 0 3 with ⟨n1, j1, l1, u1⟩ | ⟨n1, j1⟩
    · exact ⟨_, _, (by unfold p_X7_is; rw [r0]; rfl), (by unfold p_X9_is; rw [i0, j1]; rfl), zCf1, fun c => absurd c zne10, hS, rfl, rfl, rfl⟩
    · exact ⟨_, _, (by unfold p_X7_is; rw [r0]; rfl), (by unfold p_X9_is; rw [i0, j1]; rfl), zCf1, fun c => absurd c zne10, hS, rfl, rfl, rfl⟩

theorem zTp7 (F : Nat) (R : Nat → Nat → Int64) (b : Bool) (pr : Nat → Int32) (tm : Nat → Int32) (cn : Int32) (sm : Nat → Int32) (ac : Int32) (re : Int32) (kn : Int32) (p0 : Int32) (p1 : Int32) (p2 : Int32) (p3 : Int32) (hF : 2000 ≤ F) : ZE (fun (r : (Nat × (Nat → Nat → Int64) × Bool × (Nat → Int32) × (Nat → Int32) × Int32 × (Nat → Int32) × Int32 × Int32 × Int32)) => r.2 = (R, b, pr, tm, cn, sm, ac, re, kn)) (p_X7_totalOfProduct F R b pr tm cn sm ac re kn p0 p1 p2 p3) := by
  unfold p_X7_totalOfProduct
  rcases zro p0 with ⟨x, hx, hx3, r0, i0⟩ | ⟨r0, i0⟩
  case inr => exact ZE_b2e r0 ⟨_, rfl, rfl⟩
  refine ZE_b2e r0 (ZE_ok ?_)
  rcases zro p1 with ⟨y, hy, hy3, r1, i1⟩ | ⟨r1, i1⟩
  case inr => exact ZE_b2e r1 ⟨_, rfl, rfl⟩
  refine ZE_b2e r1 (ZE_ok ?_)
  rcases zni p2 1 120 with ⟨n1, j1, l1, u1⟩ | ⟨n1, j1⟩
  case inr => exact ZE_b1e n1 ⟨_, rfl, rfl⟩
  rw [show (1 : Int32).toInt = 1 from by decide] at l1
  rw [show (120 : Int32).toInt = 120 from by decide] at u1
  refine ZE_b1e n1 (ZE_ok ?_)
  rcases zni p3 0 2 with ⟨n2, j2, l2, u2⟩ | ⟨n2, j2⟩
  case inr => exact ZE_b1e n2 ⟨_, rfl, rfl⟩
  refine ZE_b1e n2 (ZE_ok ?_)
  obtain ⟨n, hn⟩ := zNn (x := p2) (by omega)
  refine ZE_b10 (zNs7 F R b pr tm cn sm ac re kn x p2 1000000 n hF hn (by omega)) (fun c1 a2 a3 a4 a5 a6 a7 a8 a9 a10 h => ?_)
  obtain ⟨_, h⟩ := h
  simp only [Prod.mk.injEq] at h
  obtain ⟨rfl, rfl, rfl, rfl, rfl, rfl, rfl, rfl, rfl⟩ := h
  refine ZE_if (fun _ => ?_) (fun _ => ⟨_, rfl, rfl⟩)
  refine ZE_b10 (zNs7 F a2 a3 a4 a5 a6 a7 a8 a9 a10 y p2 1000000 n hF hn (by omega)) (fun c1 b2 b3 b4 b5 b6 b7 b8 b9 b10 h => ?_)
  obtain ⟨_, h⟩ := h
  simp only [Prod.mk.injEq] at h
  obtain ⟨rfl, rfl, rfl, rfl, rfl, rfl, rfl, rfl, rfl⟩ := h
  refine ZE_if (fun _ => ?_) (fun _ => ⟨_, rfl, rfl⟩)
  refine ZE_if (fun _ => ZE_if (fun _ => ?_) (fun _ => ?_)) (fun _ => ?_)
  · exact ZE_b1 (t_X6_byRoot F _ x y p2 hF (by omega) (by omega)) (fun q _ => ZE_b0 (t_X7_textOf F q hF) ⟨_, rfl, rfl⟩)
  · exact ZE_b1 (t_X6_byQuotients F _ x y p2 hF (by omega) (by omega)) (fun q _ => ZE_b0 (t_X7_textOf F q hF) ⟨_, rfl, rfl⟩)
  · exact ZE_b1 (t_X6_plainly F _ x y p2 hF (by omega) (by omega)) (fun q _ => ZE_b0 (t_X7_textOf F q hF) ⟨_, rfl, rfl⟩)

set_option maxHeartbeats 2000000 in
theorem zDe7L {P : (Nat × (Nat → Nat → Int64) × Bool × (Nat → Int32) × (Nat → Int32) × Int32 × (Nat → Int32) × Int32 × Int32 × Int32) → Prop} (F : Nat) (p1 : Int32) (r2 : Nat) (R_9 : Nat → Nat → Int64) (hF : 2000 ≤ F) (n : Nat) (hn : p1.toInt = n) (h2 : n ≤ 120) (k : Int64 → Int32 → Bool → (Nat → Int32) → (Nat → Int32) → Int32 → Option (Nat × (Nat → Nat → Int64) × Bool × (Nat → Int32) × (Nat → Int32) × Int32 × (Nat → Int32) × Int32 × Int32 × Int32)) (hk : ∀ (va : Int64) (vd : Int32) (bb : Bool) (prL0 tmL0 : Nat → Int32) (cnL0 : Int32), ZE P (k va vd bb prL0 tmL0 cnL0)) : ∀ (f : Nat) (va : Int64) (vd : Int32) (bb : Bool) (prL0 tmL0 : Nat → Int32) (cnL0 : Int32) (d : Nat), vd.toInt = ((d + 1 : Nat) : Int) → d ≤ n → n + 1 - d < f → ZE P (p_X7_determinant_L0 F p1 r2 R_9 k f va vd bb prL0 tmL0 cnL0) := by
  intro f
  induction f with
  | zero => intros; rename_i hm; exact absurd hm (Nat.not_lt_zero _)
  | succ f ih =>
    intro va vd bb prL0 tmL0 cnL0 d hd hdn hm
    show ZE P (if p1 < vd then (k va vd bb prL0 tmL0 cnL0) else (zb5 (p_X0_signedAt F R_9 bb prL0 tmL0 cnL0 r2 vd) (fun r21 b_22 pr_23 tm_24 cn_25 => (p_X7_determinant_L0 F p1 r2 R_9 k f (va * r21) (vd + (1 : Int32)) b_22 pr_23 tm_24 cn_25))))
    have e1 := zAddN hd (by omega)
    refine ZE_if (fun c => hk _ _ _ _ _ _) (fun c => ?_)
    rw [Int32.lt_iff_toInt_lt] at c
    refine ZE_b5 (zSiAt F R_9 bb prL0 tmL0 cnL0 r2 vd (d + 1) hF hd (by omega) (by omega) (R_9 r2) (fun _ _ _ => rfl)) (fun q b2 x y z _ => ?_)
    exact ih _ _ _ _ _ _ (d + 1) e1 (by omega) (by omega)

theorem zDe7 (F : Nat) (R : Nat → Nat → Int64) (b : Bool) (pr : Nat → Int32) (tm : Nat → Int32) (cn : Int32) (sm : Nat → Int32) (ac : Int32) (re : Int32) (kn : Int32) (p0 : Int32) (p1 : Int32) (p2 : Int32) (hF : 2000 ≤ F) : ZE (fun (r : (Nat × (Nat → Nat → Int64) × Bool × (Nat → Int32) × (Nat → Int32) × Int32 × (Nat → Int32) × Int32 × Int32 × Int32)) => r.2.1 = R ∧ r.2.2.2.2.2.2 = (sm, ac, re, kn)) (p_X7_determinant F R b pr tm cn sm ac re kn p0 p1 p2) := by
  unfold p_X7_determinant
  rcases zro p0 with ⟨x, hx, hx3, r0, i0⟩ | ⟨r0, i0⟩
  case inr => exact ZE_b2e r0 ⟨_, rfl, rfl, rfl⟩
  refine ZE_b2e r0 (ZE_ok ?_)
  rcases zni p1 1 6 with ⟨n1, j1, l1, u1⟩ | ⟨n1, j1⟩
  case inr => exact ZE_b1e n1 ⟨_, rfl, rfl, rfl⟩
  rw [show (1 : Int32).toInt = 1 from by decide] at l1
  rw [show (6 : Int32).toInt = 6 from by decide] at u1
  refine ZE_b1e n1 (ZE_ok ?_)
  rcases zni p2 0 1 with ⟨n2, j2, l2, u2⟩ | ⟨n2, j2⟩
  case inr => exact ZE_b1e n2 ⟨_, rfl, rfl, rfl⟩
  refine ZE_b1e n2 (ZE_ok ?_)
  obtain ⟨n, hn⟩ := zNn (x := p1) (by omega)
  refine ZE_b10 (zNs7 F R b pr tm cn sm ac re kn x p1 100 n hF hn (by omega)) (fun c1 a2 a3 a4 a5 a6 a7 a8 a9 a10 h => ?_)
  obtain ⟨_, h⟩ := h
  simp only [Prod.mk.injEq] at h
  obtain ⟨rfl, rfl, rfl, rfl, rfl, rfl, rfl, rfl, rfl⟩ := h
  refine ZE_if (fun _ => ?_) (fun _ => ⟨_, rfl, rfl, rfl⟩)
  refine ZE_if (fun _ => ?_) (fun _ => ?_)
  · exact zDe7L F p1 x a2 hF n hn (by omega) _ (fun va vd bb q1 q2 q3 => ZE_b0 (t_X7_textOf F va hF) ⟨_, rfl, rfl, rfl⟩) F 1 1 a3 a4 a5 a6 0 (by decide) (by omega) (by omega)
  · exact ZE_b1 (t_X5_sumOfSequences 8 F a2 x p1 1 0 hF (by omega) (by decide) (by decide) (by decide)) (fun q _ => ZE_b0 (t_X7_textOf F q hF) ⟨_, rfl, rfl, rfl⟩)
