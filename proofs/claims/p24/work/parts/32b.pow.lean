-- ==================== totality: the reference's text of powers, a step at a time
set_option maxHeartbeats 2000000 in
theorem zStage0 {P : Int32 → Prop} (F : Nat) (hF : 2000 ≤ F) (left th : Int32) (hl : 2 ≤ left.toInt) (hl2 : left.toInt ≤ 999) (hP : P th) (K : Int32 → Nat → (Nat → Int32) → Option Int32) (hK : ∀ (p r : Int32) (n : Nat) (f : Nat → Int32), 2 ≤ p.toInt → zLe left.toInt p.toInt → zWi left.toInt p.toInt r.toInt → 2 ≤ r.toInt → r.toInt ≤ left.toInt → zBy f → 1 ≤ n → n ≤ 8 → ZE P (K r n f)) : ZE P (zb1 (p_X9_least F left) (fun rp => (zb3 (p_J4_append_15ec4 16 (fun _ => 0) 0 0 (zbt 133)) (fun bc0 bf0 bn0 => (zb1 (p_J0_isEmpty_aae02 0 (zbt 133)) (fun re => (if (z01 re) = 0 then none else (zb3 (p_J4_append_15ec4 bc0 bf0 bn0 0 (zbt 133)) (fun bc1 bf1 bn1 => (zb3 (p_J4_append_bf812 F bc1 bf1 bn1 rp) (fun bc2 bf2 bn2 => (zb3 (p_J4_append_15ec4 bc2 bf2 bn2 1 (zbt 181)) (fun bc3 bf3 bn3 => (zb1 (p_X9_without F left rp) (fun rw1 => (zg (rw1 = 0) (zb1 (p_X9_all F (left / rw1)) (fun ra => (zb3 (p_J4_append_bf812 F bc3 bf3 bn3 ra) (fun bc4 bf4 bn4 => (zb2 (p_J7_copyOfRange_39247 bc4 bf4 (0 : Int32) bn4) (fun tn tf => (zb1 (p_X9_least F left) (fun rq => (zb1 (p_X9_without F left rq) (fun rw2 => (if rw2 ≤ (1 : Int32) then (some th) else (K rw2 tn tf)))))))))))))))))))))))))))) := by
  have o0 : (0 : Int32).toInt = 0 := by decide
  refine ZE_b1 (t_X9_least F left hF hl (by omega)) (fun rp q => ?_)
  obtain ⟨p1, p2, p3⟩ := q
  refine ZE_b3 (t_J4_append_15ec4 16 (fun _ => 0) 0 0 (zbt 133) zBy0 (by omega) (by omega) (by omega) (by omega) (by omega) (zBy_bt 133)) (fun bc0 bf0 bn0 q => ?_)
  obtain ⟨a1, a2, a3, a4, a5, a6⟩ := q
  dsimp only at a1 a2 a3 a4 a5 a6
  refine ZE_b1 (t_J0_isEmpty_aae02 0 (zbt 133) (by omega)) (fun re q => ?_)
  refine ZE_if (fun c => ?_) (fun c => ?_)
  · exfalso
    rw [← Int32.toInt_inj, o0] at c
    omega
  clear c q
  refine ZE_b3 (t_J4_append_15ec4 bc0 bf0 bn0 0 (zbt 133) a1 a2 a3 a4 a5 (by omega) (zBy_bt 133)) (fun bc1 bf1 bn1 q => ?_)
  obtain ⟨b1, b2, b3, b4, b5, b6⟩ := q
  dsimp only at b1 b2 b3 b4 b5 b6
  refine ZE_b3 (t_J4_append_bf812 F bc1 bf1 bn1 rp hF b1 b2 b3 b4 b5 (by omega)) (fun bc2 bf2 bn2 q => ?_)
  obtain ⟨d1, d2, d3, d4, d5, d6, d7, d8, d9⟩ := q
  dsimp only at d1 d2 d3 d4 d5 d6 d7 d8 d9
  have d9 := d9 (by omega) (by omega)
  clear d8
  refine ZE_b3 (t_J4_append_15ec4 bc2 bf2 bn2 1 (zbt 181) d1 d2 d3 d4 d5 (by omega) (zBy_bt 181)) (fun bc3 bf3 bn3 q => ?_)
  obtain ⟨e1, e2, e3, e4, e5, e6⟩ := q
  dsimp only at e1 e2 e3 e4 e5 e6
  have hb3 : bn3.toInt ≤ 0 + 5 := by omega
  have hb3' : 1 ≤ bn3.toInt := by omega
  clear a1 a2 a3 a4 a5 a6 b1 b2 b3 b4 b5 b6 d1 d2 d3 d4 d5 d6 d7 d9 e6
  refine ZE_b1 (t_X9_without F left rp hF (by omega) (by omega) p1) (fun rw1 q => ?_)
  obtain ⟨w1, w2, w3⟩ := q
  refine ZE_zg (zne0 w1) ?_
  refine zdvk2 (x := left) (y := rw1) w1 w2 (fun g => ?_)
  refine ZE_b1 (t_X9_all F (left / rw1) hF g.1 (by omega)) (fun ra q => ?_)
  obtain ⟨l1, l2⟩ := q
  refine ZE_b3 (t_J4_append_bf812 F bc3 bf3 bn3 ra hF e1 e2 e3 e4 e5 (by omega)) (fun bc4 bf4 bn4 q => ?_)
  obtain ⟨d1, d2, d3, d4, d5, d6, d7, d8, d9⟩ := q
  dsimp only at d1 d2 d3 d4 d5 d6 d7 d8 d9
  have d9 := d9 l1 l2
  clear d8
  refine ZE_b2 (t_J7_copyOfRange_39247 bc4 bf4 0 bn4 o0 d1 d4 d5 d3) (fun tn tf q => ?_)
  obtain ⟨t1, t2⟩ := q
  dsimp only at t1 t2
  refine ZE_b1 (t_X9_least F left hF hl (by omega)) (fun rq q => ?_)
  obtain ⟨u1, u2, u3⟩ := q
  refine ZE_b1 (t_X9_without F left rq hF (by omega) (by omega) u1) (fun rw2 q => ?_)
  obtain ⟨v1, v2, v3⟩ := q
  refine ZE_if (fun c => ⟨_, rfl, hP⟩) (fun c => ?_)
  rw [Int32.le_iff_toInt_le, show (1 : Int32).toInt = 1 from by decide] at c
  exact hK rq rw2 tn tf u1 u3 v3 (by omega) v2 t1 (by omega) (by omega)
set_option maxHeartbeats 2000000 in
theorem zStage {P : Int32 → Prop} (F : Nat) (hF : 2000 ≤ F) (left th : Int32) (sn : Nat) (sf : Nat → Int32) (hl : 2 ≤ left.toInt) (hl2 : left.toInt ≤ 999) (hs : zBy sf) (hs1 : 1 ≤ sn) (hs2 : sn ≤ 40) (hP : P th) (K : Int32 → Nat → (Nat → Int32) → Option Int32) (hK : ∀ (p r : Int32) (n : Nat) (f : Nat → Int32), 2 ≤ p.toInt → zLe left.toInt p.toInt → zWi left.toInt p.toInt r.toInt → 2 ≤ r.toInt → r.toInt ≤ left.toInt → zBy f → 1 ≤ n → n ≤ sn + 8 → ZE P (K r n f)) : ZE P (zb1 (p_X9_least F left) (fun rp => (zb3 (p_J4_append_15ec4 16 (fun _ => 0) 0 sn sf) (fun bc0 bf0 bn0 => (zb1 (p_J0_isEmpty_aae02 sn sf) (fun re => (if (z01 re) = 0 then (zb3 (p_J4_append_15ec4 bc0 bf0 bn0 1 (zbt 176)) (fun bc1 bf1 bn1 => (zb3 (p_J4_append_bf812 F bc1 bf1 bn1 rp) (fun bc2 bf2 bn2 => (zb3 (p_J4_append_15ec4 bc2 bf2 bn2 1 (zbt 181)) (fun bc3 bf3 bn3 => (zb1 (p_X9_without F left rp) (fun rw1 => (zg (rw1 = 0) (zb1 (p_X9_all F (left / rw1)) (fun ra => (zb3 (p_J4_append_bf812 F bc3 bf3 bn3 ra) (fun bc4 bf4 bn4 => (zb2 (p_J7_copyOfRange_39247 bc4 bf4 (0 : Int32) bn4) (fun tn tf => (zb1 (p_X9_least F left) (fun rq => (zb1 (p_X9_without F left rq) (fun rw2 => (if rw2 ≤ (1 : Int32) then (some th) else (K rw2 tn tf))))))))))))))))))))) else none))))))) := by
  have o0 : (0 : Int32).toInt = 0 := by decide
  refine ZE_b1 (t_X9_least F left hF hl (by omega)) (fun rp q => ?_)
  obtain ⟨p1, p2, p3⟩ := q
  refine ZE_b3 (t_J4_append_15ec4 16 (fun _ => 0) 0 sn sf zBy0 (by omega) (by omega) (by omega) (by omega) (by omega) hs) (fun bc0 bf0 bn0 q => ?_)
  obtain ⟨a1, a2, a3, a4, a5, a6⟩ := q
  dsimp only at a1 a2 a3 a4 a5 a6
  refine ZE_b1 (t_J0_isEmpty_aae02 sn sf (by omega)) (fun re q => ?_)
  refine ZE_if (fun c => ?_) (fun c => ?_)
  case refine_2 =>
    exfalso
    rw [← Int32.toInt_inj, o0] at c
    omega
  clear c q
  refine ZE_b3 (t_J4_append_15ec4 bc0 bf0 bn0 1 (zbt 176) a1 a2 a3 a4 a5 (by omega) (zBy_bt 176)) (fun bc1 bf1 bn1 q => ?_)
  obtain ⟨b1, b2, b3, b4, b5, b6⟩ := q
  dsimp only at b1 b2 b3 b4 b5 b6
  refine ZE_b3 (t_J4_append_bf812 F bc1 bf1 bn1 rp hF b1 b2 b3 b4 b5 (by omega)) (fun bc2 bf2 bn2 q => ?_)
  obtain ⟨d1, d2, d3, d4, d5, d6, d7, d8, d9⟩ := q
  dsimp only at d1 d2 d3 d4 d5 d6 d7 d8 d9
  have d9 := d9 (by omega) (by omega)
  clear d8
  refine ZE_b3 (t_J4_append_15ec4 bc2 bf2 bn2 1 (zbt 181) d1 d2 d3 d4 d5 (by omega) (zBy_bt 181)) (fun bc3 bf3 bn3 q => ?_)
  obtain ⟨e1, e2, e3, e4, e5, e6⟩ := q
  dsimp only at e1 e2 e3 e4 e5 e6
  have hb3 : bn3.toInt ≤ sn + 5 := by omega
  have hb3' : 1 ≤ bn3.toInt := by omega
  clear a1 a2 a3 a4 a5 a6 b1 b2 b3 b4 b5 b6 d1 d2 d3 d4 d5 d6 d7 d9 e6
  refine ZE_b1 (t_X9_without F left rp hF (by omega) (by omega) p1) (fun rw1 q => ?_)
  obtain ⟨w1, w2, w3⟩ := q
  refine ZE_zg (zne0 w1) ?_
  refine zdvk2 (x := left) (y := rw1) w1 w2 (fun g => ?_)
  refine ZE_b1 (t_X9_all F (left / rw1) hF g.1 (by omega)) (fun ra q => ?_)
  obtain ⟨l1, l2⟩ := q
  refine ZE_b3 (t_J4_append_bf812 F bc3 bf3 bn3 ra hF e1 e2 e3 e4 e5 (by omega)) (fun bc4 bf4 bn4 q => ?_)
  obtain ⟨d1, d2, d3, d4, d5, d6, d7, d8, d9⟩ := q
  dsimp only at d1 d2 d3 d4 d5 d6 d7 d8 d9
  have d9 := d9 l1 l2
  clear d8
  refine ZE_b2 (t_J7_copyOfRange_39247 bc4 bf4 0 bn4 o0 d1 d4 d5 d3) (fun tn tf q => ?_)
  obtain ⟨t1, t2⟩ := q
  dsimp only at t1 t2
  refine ZE_b1 (t_X9_least F left hF hl (by omega)) (fun rq q => ?_)
  obtain ⟨u1, u2, u3⟩ := q
  refine ZE_b1 (t_X9_without F left rq hF (by omega) (by omega) u1) (fun rw2 q => ?_)
  obtain ⟨v1, v2, v3⟩ := q
  refine ZE_if (fun c => ⟨_, rfl, hP⟩) (fun c => ?_)
  rw [Int32.le_iff_toInt_le, show (1 : Int32).toInt = 1 from by decide] at c
  exact hK rq rw2 tn tf u1 u3 v3 (by omega) v2 t1 (by omega) (by omega)
set_option maxHeartbeats 4000000 in
set_option maxRecDepth 100000 in
theorem t_X9_powers (F : Nat) (p0 : Int32) (hF : 2000 ≤ F) : ZE (fun (r : Int32) => True) (p_X9_powers F p0) := by
  unfold p_X9_powers
  have o0 : (0 : Int32).toInt = 0 := by decide
  have o1 : (1 : Int32).toInt = 1 := by decide
  have o9 : (999 : Int32).toInt = 999 := by decide
  refine ZE_b1 (t_X9_isIn p0 1 999) (fun r1 q1 => ?_)
  refine ZE_b2 (t_X9_isNo r1) (fun r3 th_4 q2 => ?_)
  dsimp only at q1 q2
  refine ZE_if (fun c => ?_) (fun c => ⟨_, rfl, trivial⟩)
  rw [← Int32.toInt_inj, o0] at c
  have hp : p0.toInt ≤ 999 := by omega
  refine ZE_if (fun c => ⟨_, rfl, trivial⟩) (fun c => ?_)
  rw [Int32.le_iff_toInt_le, o1] at c
  have hp2 : 2 ≤ p0.toInt := by omega
  clear q1 q2 c
  refine zStage0 (P := fun _ => True) F hF p0 th_4 hp2 hp trivial _ (fun p1 n1 s1 f1 a1 l1 w1 g1 m1 y1 x1 z1 => ?_)
  refine zStage (P := fun _ => True) F hF n1 th_4 s1 f1 g1 (by omega) y1 x1 (by omega) trivial _ (fun p2 n2 s2 f2 a2 l2 w2 g2 m2 y2 x2 z2 => ?_)
  refine zStage (P := fun _ => True) F hF n2 th_4 s2 f2 g2 (by omega) y2 x2 (by omega) trivial _ (fun p3 n3 s3 f3 a3 l3 w3 g3 m3 y3 x3 z3 => ?_)
  refine zStage (P := fun _ => True) F hF n3 th_4 s3 f3 g3 (by omega) y3 x3 (by omega) trivial _ (fun p4 n4 s4 f4 a4 l4 w4 g4 m4 y4 x4 z4 => ?_)
  have z := zfive hp a1 l1 w1 a2 l2 w2 a3 l3 w3 a4 l4 w4
  omega
