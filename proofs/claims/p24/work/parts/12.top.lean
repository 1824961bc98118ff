noncomputable def p_X7_rowOf (p0 : Int32) : Option (Nat × Nat) := (if p0 < 0 then (some (1, 0)) else (if p0 < (4 : Int32) then (zg (p0 < 0 ∨ 4 ≤ p0.toNatClampNeg) (some (0, p0.toNatClampNeg))) else (some (1, 0))))
theorem hdV_X7_rowOf : yX7_rowOf.cls = RX7 ∧ yX7_rowOf.cls ≠ "java/lang/invoke/MethodHandle" ∧ yX7_rowOf.cls ≠ "java/lang/invoke/VarHandle" ∧ (parseMethodDescriptor yX7_rowOf.desc).map (fun d => d.parameters.length) = some 1 := by decide +kernel
set_option maxHeartbeats 4000000 in
set_option maxRecDepth 100000 in
theorem c_X7_rowOf (l : Launch) (D : va_G) (a : Nat → Nat) (cJ cI cO cB : ClassId) (R : Nat → Nat → Int64) (b : Bool) (pr : Nat → Int32) (tm : Nat → Int32) (cn : Int32) (sm : Nat → Int32) (ac : Int32) (re : Int32) (kn : Int32) (p0 : Int32) (cd : Nat) (r : Nat) (hlt : l.stackTraces = false) (h : p_X7_rowOf p0 = some (cd, r)) : zMxr l yX7_rowOf wsX7_rowOf 6 90 1 6 D (zT cJ cI cO cB) [.ref (a 0), .int p0] (cW a cJ cI cO R b pr tm cn sm ac re kn) (cW a cJ cI cO R b pr tm cn sm ac re kn) cd (a (2 + r)) := by
  intro sz
  delta zQxr zX
  refine vx_ofW (cc := cX7_rowOf) (maxL := 2) (ret := (some (.object "Divisorwork$Row"))) (by decide) rfl ?_
  intro p e s m args below meth c s₁ B hml hnt hv
  obtain ⟨rfl, ⟨hsz, hP, hK, hD0⟩, hE⟩ := hv
  have hx := B.exec
  have hb := B.bytes
  have hr := B.returns
  have hts := atoms_spec (ws := wsX7_rowOf) B.pre
  have hown : s.vm.findClass RX7 = some m.cls := findClass_of_methodNamed B.named
  have hlocks := B.notSynchronized
  subst hsz
  have hD := hD0.self (sz := s.heap.size)
  generalize hAe : va_A (cW a cJ cI cO R b pr tm cn sm ac re kn) s.heap.size = A at hD hE ⊢
  have hA : ∀ q : Nat, s.heap.size ≤ q → A q := fun q h => by rw [← hAe]; exact Or.inr h
  have hS : va_S A s.heap s.heap [] := va_S.rf
  have hl := lv_entry ([.ref (a 0), .int p0]) (n := 2) (Nat.le_of_ble_eq_true rfl)
  rw [lg_entry_eq]
  generalize (lg_sl ([.ref (a 0), .int p0]) ++ List.replicate (2 - (lg_sl ([.ref (a 0), .int p0])).length) Slot.unset).toArray = ls at hl ⊢
  replace hl : lv_has ls 2 [(0, .ref (a 0)), (1, .int p0)] := hl
  have kc_262 := hts (.classLink RX7 262 "java/lang/IndexOutOfBoundsException") (zmem 1 rfl)
  have kini1 := hts (.initialized "java/lang/IndexOutOfBoundsException") (zmem 2 rfl)
  have kwX7 : ∀ w ∈ u_ws RX7 TX7 9, w ∈ wsX7_rowOf := fun w h => List.mem_cons_of_mem _ (List.mem_append_left _ (List.mem_append_right _ h))
  have kf_11 := hts (.fieldLink RX7 11 "Divisorwork" "functions" "[LDivisorwork$Row;") (zmem 3 rfl)
  replace h : (if p0 < 0 then (some (1, 0)) else (if p0 < (4 : Int32) then (zg (p0 < 0 ∨ 4 ≤ p0.toNatClampNeg) (some (0, p0.toNatClampNeg))) else (some (1, 0)))) = some (cd, r) := h
  obtain ⟨H, hHe⟩ : ∃ H, H = s.heap := ⟨_, rfl⟩
  rw [← hHe] at hP
  replace hS : va_S A s.heap H [] := by rw [hHe]; exact hS
  refine zheap hHe ?_
  refine lv_iload_n hx hb dX7_rowOf_0 rfl (lv_at hl 1 rfl) ?_
  refine lv_if_lt (tgt := 9) hx hb dX7_rowOf_1 (by decide) (fun c1 => ?_) (fun c1 => ?_)
  · replace h := zif_t h c1
    have g0 := Option.some.inj h
    obtain ⟨h1, g1⟩ := Prod.mk.inj g0
    subst h1
    subst g1
    obtain ⟨sa, hstr⟩ := hE.2.2.1.1
    refine vx_throwSW (own := RX7) (cls := "java/lang/IndexOutOfBoundsException") (text := zx_s1) (names := ["java/lang/RuntimeException", "java/lang/Exception"]) (ik := 262) (is := 264) (ic := 266) (mc := 1) (ms := 6) (sa := sa) hx hb hlt hown (by decide +kernel) (by decide +kernel) kc_262 kini1 hstr (vx_hat (L := vx_atS RX7 266 "java/lang/IndexOutOfBoundsException" ["java/lang/RuntimeException", "java/lang/Exception"]) (B := [.castable (zxn 1) (zxn 1), .declares (Bundle.initS "java/lang/RuntimeException"), .declares (Bundle.initS "java/lang/Exception"), .declares (Bundle.initS Bundle.tN)]) (fun w hw => hts w ((by decide +kernel : ∀ w ∈ (vx_atS RX7 266 "java/lang/IndexOutOfBoundsException" ["java/lang/RuntimeException", "java/lang/Exception"]).filter goodWord, w ∈ wsX7_rowOf) w hw)) (by decide +kernel) (vx_c (va_Nw.use rfl hE.2.2.1.2.2.2.2.2.1) (vx_c (va_Nw.use rfl hE.2.2.1.2.2.2.2.2.2.2.2.2.1) (vx_c (va_Nw.use rfl hE.2.2.1.2.2.2.2.2.2.2.2.2.2.1) (vx_c (va_Nw.use rfl hE.2.2.1.2.2.2.2.2.2.2.2.2.2.2) vx_n))))) (by decide +kernel) hE.1 hE.2.1 hS (hl.1.trans hml.symm) dX7_rowOf_9 dX7_rowOf_12 dX7_rowOf_13 dX7_rowOf_16 dX7_rowOf_19 (fun x hx => (hnt x hx).elim) (Nat.le_of_ble_eq_true rfl) (Nat.le_of_ble_eq_true rfl) (Nat.le_of_ble_eq_true rfl) (Nat.le_of_ble_eq_true rfl) hlocks (zxthrow (by decide) hP hK hD hS) hS.2.2 (Nat.le_of_ble_eq_true rfl) (Nat.le_of_ble_eq_true rfl)
  · replace h := zif_f h c1
    refine lv_iload_n hx hb dX7_rowOf_4 rfl (lv_at hl 1 rfl) ?_
    refine lv_iconst (v := (4 : Int32)) hx hb dX7_rowOf_5 (by decide) ?_
    refine lv_icmp_lt (tgt := 20) hx hb dX7_rowOf_6 (by decide) (fun c6 => ?_) (fun c6 => ?_)
    · replace h := zif_t h c6
      refine lv_aload_n hx hb dX7_rowOf_20 rfl (lv_at hl 0 rfl) ?_
      refine va_get (D := D) (ci := 7) (v := .ref (a 1)) (C := RX7) (T := TX7) (N := 9) hx hb hts kwX7 hown hK hP 0 rfl rfl 0 (by decide) kf_11 (fun _ h9 => h9) rfl dX7_rowOf_21 ?_
      refine lv_iload_n hx hb dX7_rowOf_24 rfl (lv_at hl 1 rfl) ?_
      obtain ⟨z25, h⟩ := zg_some h
      refine va_aldq hx hb hK hP 1 2 (C := RX4) (n := 4) (f := fun j => some (a (2 + j))) rfl rfl z25 dX7_rowOf_25 ?_
      have g0 := Option.some.inj h
      obtain ⟨h1, g1⟩ := Prod.mk.inj g0
      subst h1
      subst g1
      refine W.widen (k := 1) (n := 6) (by decide) (by decide) ?_
      refine vx_ret ?_
      exact W.aret (v := .ref (a (2 + p0.toNatClampNeg))) hx hb hr (Or.inl ⟨_, rfl⟩) (Or.inr ⟨_, rfl⟩) (fun t ht hW => ⟨⟨(), (a (2 + p0.toNatClampNeg)), rfl, rfl, rfl, by rw [ht]; exact hP, va_K.moved hW.alike hK, hD⟩, hS.F ht⟩) hS.2.2 dX7_rowOf_26
    · replace h := zif_f h c6
      have g0 := Option.some.inj h
      obtain ⟨h1, g1⟩ := Prod.mk.inj g0
      subst h1
      subst g1
      obtain ⟨sa, hstr⟩ := hE.2.2.1.1
      refine vx_throwSW (own := RX7) (cls := "java/lang/IndexOutOfBoundsException") (text := zx_s1) (names := ["java/lang/RuntimeException", "java/lang/Exception"]) (ik := 262) (is := 264) (ic := 266) (mc := 1) (ms := 6) (sa := sa) hx hb hlt hown (by decide +kernel) (by decide +kernel) kc_262 kini1 hstr (vx_hat (L := vx_atS RX7 266 "java/lang/IndexOutOfBoundsException" ["java/lang/RuntimeException", "java/lang/Exception"]) (B := [.castable (zxn 1) (zxn 1), .declares (Bundle.initS "java/lang/RuntimeException"), .declares (Bundle.initS "java/lang/Exception"), .declares (Bundle.initS Bundle.tN)]) (fun w hw => hts w ((by decide +kernel : ∀ w ∈ (vx_atS RX7 266 "java/lang/IndexOutOfBoundsException" ["java/lang/RuntimeException", "java/lang/Exception"]).filter goodWord, w ∈ wsX7_rowOf) w hw)) (by decide +kernel) (vx_c (va_Nw.use rfl hE.2.2.1.2.2.2.2.2.1) (vx_c (va_Nw.use rfl hE.2.2.1.2.2.2.2.2.2.2.2.2.1) (vx_c (va_Nw.use rfl hE.2.2.1.2.2.2.2.2.2.2.2.2.2.1) (vx_c (va_Nw.use rfl hE.2.2.1.2.2.2.2.2.2.2.2.2.2.2) vx_n))))) (by decide +kernel) hE.1 hE.2.1 hS (hl.1.trans hml.symm) dX7_rowOf_9 dX7_rowOf_12 dX7_rowOf_13 dX7_rowOf_16 dX7_rowOf_19 (fun x hx => (hnt x hx).elim) (Nat.le_of_ble_eq_true rfl) (Nat.le_of_ble_eq_true rfl) (Nat.le_of_ble_eq_true rfl) (Nat.le_of_ble_eq_true rfl) hlocks (zxthrow (by decide) hP hK hD hS) hS.2.2 (Nat.le_of_ble_eq_true rfl) (Nat.le_of_ble_eq_true rfl)
theorem zrow_lt {p0 : Int32} {cd r : Nat} (h : p_X7_rowOf p0 = some (cd, r)) (h0 : cd = 0) : r < 6 := by
  unfold p_X7_rowOf at h
  subst h0
  split at h
  · cases h
  · split at h
    · obtain ⟨z, h⟩ := zg_some h
      cases h
      exact Nat.lt_trans (zin z) (by decide)
    · cases h

noncomputable def p_X7_need (p0 : Int32) (p1 : Int32) (p2 : Int32) : Option Nat := (if p0 < p1 then (some 2) else (if p0 ≤ p2 then (some 0) else (some 2)))
theorem hdS_X7_need : yX7_need.cls ≠ "java/lang/invoke/MethodHandle" ∧ yX7_need.cls ≠ "java/lang/invoke/VarHandle" ∧ (parseMethodDescriptor yX7_need.desc).map (fun d => d.parameters.length) = some 3 := by decide +kernel
set_option maxHeartbeats 4000000 in
set_option maxRecDepth 100000 in
theorem c_X7_need (l : Launch) (D : va_G) (cJ cI cO cB : ClassId) (p0 : Int32) (p1 : Int32) (p2 : Int32) (cd : Nat) (hlt : l.stackTraces = false) (h : p_X7_need p0 p1 p2 = some cd) : zMxv l yX7_need wsX7_need 6 90 1 6 D (zT cJ cI cO cB) [.int p0, .int p1, .int p2] ([] : va_W) ([] : va_W) cd := by
  intro sz
  delta zQxv zX
  refine vx_ofW (cc := cX7_need) (maxL := 3) (ret := none) (by decide) rfl ?_
  intro p e s m args below meth c s₁ B hml hnt hv
  obtain ⟨rfl, ⟨hsz, hP, hK, hD0⟩, hE⟩ := hv
  have hx := B.exec
  have hb := B.bytes
  have hr := B.returns
  have hts := atoms_spec (ws := wsX7_need) B.pre
  have hown : s.vm.findClass RX7 = some m.cls := findClass_of_methodNamed B.named
  have hlocks := B.notSynchronized
  subst hsz
  have hD := hD0.self (sz := s.heap.size)
  generalize hAe : va_A ([] : va_W) s.heap.size = A at hD hE ⊢
  have hA : ∀ q : Nat, s.heap.size ≤ q → A q := fun q h => by rw [← hAe]; exact Or.inr h
  have hS : va_S A s.heap s.heap [] := va_S.rf
  have hl := lv_entry ([.int p0, .int p1, .int p2]) (n := 3) (Nat.le_of_ble_eq_true rfl)
  rw [lg_entry_eq]
  generalize (lg_sl ([.int p0, .int p1, .int p2]) ++ List.replicate (3 - (lg_sl ([.int p0, .int p1, .int p2])).length) Slot.unset).toArray = ls at hl ⊢
  replace hl : lv_has ls 3 [(0, .int p0), (1, .int p1), (2, .int p2)] := hl
  have kc_231 := hts (.classLink RX7 231 "java/lang/IllegalArgumentException") (zmem 1 rfl)
  have kini2 := hts (.initialized "java/lang/IllegalArgumentException") (zmem 2 rfl)
  replace h : (if p0 < p1 then (some 2) else (if p0 ≤ p2 then (some 0) else (some 2))) = some cd := h
  obtain ⟨H, hHe⟩ : ∃ H, H = s.heap := ⟨_, rfl⟩
  rw [← hHe] at hP
  replace hS : va_S A s.heap H [] := by rw [hHe]; exact hS
  refine zheap hHe ?_
  refine lv_iload_n hx hb dX7_need_0 rfl (lv_at hl 0 rfl) ?_
  refine lv_iload_n hx hb dX7_need_1 rfl (lv_at hl 1 rfl) ?_
  refine lv_icmp_lt (tgt := 10) hx hb dX7_need_2 (by decide) (fun c2 => ?_) (fun c2 => ?_)
  · replace h := zif_t h c2
    have h1 := Option.some.inj h
    subst h1
    obtain ⟨sa, hstr⟩ := hE.2.2.1.2.1
    refine vx_throwSW (own := RX7) (cls := "java/lang/IllegalArgumentException") (text := zx_s2) (names := ["java/lang/RuntimeException", "java/lang/Exception"]) (ik := 231) (is := 267) (ic := 235) (mc := 1) (ms := 6) (sa := sa) hx hb hlt hown (by decide +kernel) (by decide +kernel) kc_231 kini2 hstr (vx_hat (L := vx_atS RX7 235 "java/lang/IllegalArgumentException" ["java/lang/RuntimeException", "java/lang/Exception"]) (B := [.castable (zxn 2) (zxn 2), .declares (Bundle.initS "java/lang/RuntimeException"), .declares (Bundle.initS "java/lang/Exception"), .declares (Bundle.initS Bundle.tN)]) (fun w hw => hts w ((by decide +kernel : ∀ w ∈ (vx_atS RX7 235 "java/lang/IllegalArgumentException" ["java/lang/RuntimeException", "java/lang/Exception"]).filter goodWord, w ∈ wsX7_need) w hw)) (by decide +kernel) (vx_c (va_Nw.use rfl hE.2.2.1.2.2.2.2.2.2.1) (vx_c (va_Nw.use rfl hE.2.2.1.2.2.2.2.2.2.2.2.2.1) (vx_c (va_Nw.use rfl hE.2.2.1.2.2.2.2.2.2.2.2.2.2.1) (vx_c (va_Nw.use rfl hE.2.2.1.2.2.2.2.2.2.2.2.2.2.2) vx_n))))) (by decide +kernel) hE.1 hE.2.1 hS (hl.1.trans hml.symm) dX7_need_10 dX7_need_13 dX7_need_14 dX7_need_17 dX7_need_20 (fun x hx => (hnt x hx).elim) (Nat.le_of_ble_eq_true rfl) (Nat.le_of_ble_eq_true rfl) (Nat.le_of_ble_eq_true rfl) (Nat.le_of_ble_eq_true rfl) hlocks (zxthrow (by decide) hP hK hD hS) hS.2.2 (Nat.le_of_ble_eq_true rfl) (Nat.le_of_ble_eq_true rfl)
  · replace h := zif_f h c2
    refine lv_iload_n hx hb dX7_need_5 rfl (lv_at hl 0 rfl) ?_
    refine lv_iload_n hx hb dX7_need_6 rfl (lv_at hl 2 rfl) ?_
    refine lv_icmp_le (tgt := 21) hx hb dX7_need_7 (by decide) (fun c7 => ?_) (fun c7 => ?_)
    · replace h := zif_t h c7
      have h1 := Option.some.inj h
      subst h1
      refine W.widen (k := 1) (n := 6) (by decide) (by decide) ?_
      refine vx_ret ?_
      exact W.vret hx hb hr (fun t ht hW => ⟨⟨(), rfl, rfl, by rw [ht]; exact hP, va_K.moved hW.alike hK, hD⟩, hS.F ht⟩) hS.2.2 dX7_need_21
    · replace h := zif_f h c7
      have h1 := Option.some.inj h
      subst h1
      obtain ⟨sa, hstr⟩ := hE.2.2.1.2.1
      refine vx_throwSW (own := RX7) (cls := "java/lang/IllegalArgumentException") (text := zx_s2) (names := ["java/lang/RuntimeException", "java/lang/Exception"]) (ik := 231) (is := 267) (ic := 235) (mc := 1) (ms := 6) (sa := sa) hx hb hlt hown (by decide +kernel) (by decide +kernel) kc_231 kini2 hstr (vx_hat (L := vx_atS RX7 235 "java/lang/IllegalArgumentException" ["java/lang/RuntimeException", "java/lang/Exception"]) (B := [.castable (zxn 2) (zxn 2), .declares (Bundle.initS "java/lang/RuntimeException"), .declares (Bundle.initS "java/lang/Exception"), .declares (Bundle.initS Bundle.tN)]) (fun w hw => hts w ((by decide +kernel : ∀ w ∈ (vx_atS RX7 235 "java/lang/IllegalArgumentException" ["java/lang/RuntimeException", "java/lang/Exception"]).filter goodWord, w ∈ wsX7_need) w hw)) (by decide +kernel) (vx_c (va_Nw.use rfl hE.2.2.1.2.2.2.2.2.2.1) (vx_c (va_Nw.use rfl hE.2.2.1.2.2.2.2.2.2.2.2.2.1) (vx_c (va_Nw.use rfl hE.2.2.1.2.2.2.2.2.2.2.2.2.2.1) (vx_c (va_Nw.use rfl hE.2.2.1.2.2.2.2.2.2.2.2.2.2.2) vx_n))))) (by decide +kernel) hE.1 hE.2.1 hS (hl.1.trans hml.symm) dX7_need_10 dX7_need_13 dX7_need_14 dX7_need_17 dX7_need_20 (fun x hx => (hnt x hx).elim) (Nat.le_of_ble_eq_true rfl) (Nat.le_of_ble_eq_true rfl) (Nat.le_of_ble_eq_true rfl) (Nat.le_of_ble_eq_true rfl) hlocks (zxthrow (by decide) hP hK hD hS) hS.2.2 (Nat.le_of_ble_eq_true rfl) (Nat.le_of_ble_eq_true rfl)

noncomputable def p_X7_become (F : Nat) (R : Nat → Nat → Int64) (ac : Int32) (p0 : Nat) : Option (Int32 × (Nat → Nat → Int64) × Int32) := (zb2 (p_X4_takeFrom F R p0 4) (fun r1 R_2 => (some (r1, R_2, (ac + (1 : Int32))))))
theorem hdV_X7_become : yX7_become.cls = RX7 ∧ yX7_become.cls ≠ "java/lang/invoke/MethodHandle" ∧ yX7_become.cls ≠ "java/lang/invoke/VarHandle" ∧ (parseMethodDescriptor yX7_become.desc).map (fun d => d.parameters.length) = some 1 := by decide +kernel
set_option maxHeartbeats 4000000 in
set_option maxRecDepth 100000 in
theorem c_X7_become (l : Launch) (D : va_G) (a : Nat → Nat) (cJ cI cO cB : ClassId) (R : Nat → Nat → Int64) (b : Bool) (pr : Nat → Int32) (tm : Nat → Int32) (cn : Int32) (sm : Nat → Int32) (ac : Int32) (re : Int32) (kn : Int32) (F : Nat) (p0 : Nat) (hp0 : p0 < 6) (r : Int32) (R' : Nat → Nat → Int64) (ac' : Int32) (h : p_X7_become F R ac p0 = some (r, R', ac')) : zMi l yX7_become wsX7_become 2 46 0 0 D (zT cJ cI cO cB) [.ref (a 0), .ref (a (2 + p0))] (cW a cJ cI cO R b pr tm cn sm ac re kn) (cW a cJ cI cO R' b pr tm cn sm ac' re kn) r := by
  intro sz
  delta zQi
  refine Met.ofW (cc := cX7_become) (maxL := 2) (ret := (some .int)) (by decide) rfl ?_
  intro p e s m args below meth c s₁ B hml hv
  obtain ⟨rfl, hsz, hP, hK, hD0⟩ := hv
  have hx := B.exec
  have hb := B.bytes
  have hr := B.returns
  have hts := atoms_spec (ws := wsX7_become) B.pre
  have hown : s.vm.findClass RX7 = some m.cls := findClass_of_methodNamed B.named
  have hlocks := B.notSynchronized
  subst hsz
  have hD := hD0.self (sz := s.heap.size)
  generalize hAe : va_A (cW a cJ cI cO R b pr tm cn sm ac re kn) s.heap.size = A at hD ⊢
  have hA : ∀ q : Nat, s.heap.size ≤ q → A q := fun q h => by rw [← hAe]; exact Or.inr h
  have hS : va_S A s.heap s.heap [] := va_S.rf
  have hl := lv_entry ([.ref (a 0), .ref (a (2 + p0))]) (n := 2) (Nat.le_of_ble_eq_true rfl)
  rw [lg_entry_eq]
  generalize (lg_sl ([.ref (a 0), .ref (a (2 + p0))]) ++ List.replicate (2 - (lg_sl ([.ref (a 0), .ref (a (2 + p0))])).length) Slot.unset).toArray = ls at hl ⊢
  replace hl : lv_has ls 2 [(0, .ref (a 0)), (1, .ref (a (2 + p0)))] := hl
  have kwX7 : ∀ w ∈ u_ws RX7 TX7 9, w ∈ wsX7_become := fun w h => List.mem_cons_of_mem _ (List.mem_append_left _ (List.mem_append_right _ h))
  have kf_16 := hts (.fieldLink RX7 16 "Divisorwork" "scratch" "LDivisorwork$Row;") (zmem 2 rfl)
  have kf_74 := hts (.fieldLink RX7 74 "Divisorwork" "acts" "I") (zmem 1 rfl)
  replace h : (zb2 (p_X4_takeFrom F R p0 4) (fun r1 R_2 => (some (r1, R_2, (ac + (1 : Int32)))))) = some (r, R', ac') := h
  obtain ⟨H, hHe⟩ : ∃ H, H = s.heap := ⟨_, rfl⟩
  rw [← hHe] at hP
  replace hS : va_S A s.heap H [] := by rw [hHe]; exact hS
  refine zheap hHe ?_
  refine lv_aload_n hx hb dX7_become_0 rfl (lv_at hl 0 rfl) ?_
  refine lv_dup hx hb dX7_become_1 rfl ?_
  refine va_get (D := D) (ci := 7) (v := .int ac) (C := RX7) (T := TX7) (N := 9) hx hb hts kwX7 hown hK hP 0 rfl rfl 6 (by decide) kf_74 (fun _ h9 => h9) rfl dX7_become_2 ?_
  refine lv_iconst (v := (1 : Int32)) hx hb dX7_become_5 (by decide) ?_
  refine lv_iadd hx hb dX7_become_6 ?_
  refine va_put (D := D) (ci := 7) (v := .int (ac + (1 : Int32))) (ty := .int) (C := RX7) (T := TX7) (N := 9) hx hb hts kwX7 tyX7 tyX7_ok nmX7 hown hK hP hD hS 0 rfl rfl 6 (by decide) kf_74 (fun _ h9 => h9) rfl rfl rfl rfl (Nat.le_of_ble_eq_true rfl) dX7_become_7 (fun H locs hP hD hS => ?_)
  replace hP : va_P D vwCl (cW a cJ cI cO R b pr tm cn sm (ac + (1 : Int32)) re kn) H := hP
  replace hD : va_D A (cW a cJ cI cO R b pr tm cn sm (ac + (1 : Int32)) re kn) := hD
  refine lv_aload_n hx hb dX7_become_10 rfl (lv_at hl 1 rfl) ?_
  refine lv_aload_n hx hb dX7_become_11 rfl (lv_at hl 0 rfl) ?_
  refine va_get (D := D) (ci := 7) (v := .ref (a 6)) (C := RX7) (T := TX7) (N := 9) hx hb hts kwX7 hown hK hP 0 rfl rfl 1 (by decide) kf_16 (fun _ h9 => h9) rfl dX7_become_12 ?_
  obtain ⟨r1, R_2, e3, h⟩ := zb2_some h
  refine zgoi (va_runV (As := [.ref (a 6)]) (rest := []) ⟨hx, hb, hml, hown, hts⟩ (c_X4_takeFrom l D a cJ cI cO cB R b pr tm cn sm (ac + (1 : Int32)) re kn F p0 4 hp0 zlt4 r1 R_2 e3 H.size) (cwV 1 hts gX7_become_X4_takeFrom rfl rfl rfl hdV_X4_takeFrom ⟨Nat.le_of_ble_eq_true rfl, Nat.le_of_ble_eq_true rfl⟩) (zpreV (q0 := 2 + p0) (ci := 6) (T := TX4) (N := 1) hK hP hD (cW_row hp0) rfl [.ref (a 6)]) rfl rfl hl.1 rfl (lv_room (Nat.le_of_ble_eq_true rfl)) dX7_become_15 ⟨Nat.le_of_ble_eq_true rfl, Nat.le_of_ble_eq_true rfl⟩) (zfree hD hS hA) (zjW hD hS hA) hS (fun H locs hP hD hS => ?_)
  replace hP : va_P D vwCl (cW a cJ cI cO R_2 b pr tm cn sm (ac + (1 : Int32)) re kn) H := hP
  replace hD : va_D A (cW a cJ cI cO R_2 b pr tm cn sm (ac + (1 : Int32)) re kn) := hD
  have g0 := Option.some.inj h
  obtain ⟨h1, g1⟩ := Prod.mk.inj g0
  obtain ⟨h2, g2⟩ := Prod.mk.inj g1
  subst h1
  subst h2
  subst g2
  exact W.iret (v := r1) hx hb hr (fun t ht hW => ⟨⟨r1, (), rfl, rfl, by rw [ht]; exact hP, va_K.moved hW.alike hK, hD⟩, hS.F ht⟩) hS.2.2 dX7_become_18

noncomputable def p_X7_know_L0 (F : Nat) (p1 : Int32) (k : Int32 → (Nat → Nat → Int64) → (Nat → Int32) → (Nat → Int32) → Int32 → Option (Nat × Int32 × (Nat → Nat → Int64) × (Nat → Int32) × (Nat → Int32) × Int32 × Int32)) : Nat → Int32 → (Nat → Nat → Int64) → (Nat → Int32) → (Nat → Int32) → Int32 → Option (Nat × Int32 × (Nat → Nat → Int64) × (Nat → Int32) × (Nat → Int32) × Int32 × Int32)
  | 0, _, _, _, _, _ => none
  | n + 1, v4_0, RL0, prL0, tmL0, cnL0 => (if (120 : Int32) < v4_0 then (k v4_0 RL0 prL0 tmL0 cnL0) else (zb4 (p_X1_known F prL0 tmL0 cnL0 p1 v4_0) (fun r10 pr_11 tm_12 cn_13 => (zb1 (p_X4_lay RL0 4 v4_0 r10) (fun R_15 => (p_X7_know_L0 F p1 k n (v4_0 + (1 : Int32)) R_15 pr_11 tm_12 cn_13))))))
noncomputable def p_X7_know (F : Nat) (R : Nat → Nat → Int64) (pr : Nat → Int32) (tm : Nat → Int32) (cn : Int32) (ac : Int32) (p0 : Int32) (p1 : Int32) : Option (Nat × Int32 × (Nat → Nat → Int64) × (Nat → Int32) × (Nat → Int32) × Int32 × Int32) := (zb2 (p_X7_rowOf p0) (fun cd1 r2 => (if cd1 = 0 then (zb1 (p_X7_need p1 (0 : Int32) (10 : Int32)) (fun cd4 => (if cd4 = 0 then (p_X7_know_L0 F p1 (fun v4_0 RL0 prL0 tmL0 cnL0 => (zb3 (p_X7_become F RL0 ac r2) (fun r6 R_7 ac_8 => (some (0, r6, R_7, prL0, tmL0, cnL0, ac_8))))) F (1 : Int32) R pr tm cn) else (some (cd4, (0 : Int32), R, pr, tm, cn, ac))))) else (some (cd1, (0 : Int32), R, pr, tm, cn, ac)))))
theorem hdV_X7_know : yX7_know.cls = RX7 ∧ yX7_know.cls ≠ "java/lang/invoke/MethodHandle" ∧ yX7_know.cls ≠ "java/lang/invoke/VarHandle" ∧ (parseMethodDescriptor yX7_know.desc).map (fun d => d.parameters.length) = some 2 := by decide +kernel
set_option maxHeartbeats 4000000 in
set_option maxRecDepth 100000 in
theorem c_X7_know (l : Launch) (D : va_G) (a : Nat → Nat) (cJ cI cO cB : ClassId) (R : Nat → Nat → Int64) (b : Bool) (pr : Nat → Int32) (tm : Nat → Int32) (cn : Int32) (sm : Nat → Int32) (ac : Int32) (re : Int32) (kn : Int32) (F : Nat) (p0 : Int32) (p1 : Int32) (cd : Nat) (r : Int32) (R' : Nat → Nat → Int64) (pr' : Nat → Int32) (tm' : Nat → Int32) (cn' : Int32) (ac' : Int32) (hlt : l.stackTraces = false) (h : p_X7_know F R pr tm cn ac p0 p1 = some (cd, r, R', pr', tm', cn', ac')) : zMxi l yX7_know wsX7_know 7 112 2 12 D (zT cJ cI cO cB) [.ref (a 0), .int p0, .int p1] (cW a cJ cI cO R b pr tm cn sm ac re kn) (cW a cJ cI cO R' b pr' tm' cn' sm ac' re kn) cd r := by
  intro sz
  delta zQxi zX
  refine vx_ofW (cc := cX7_know) (maxL := 5) (ret := (some .int)) (by decide) rfl ?_
  intro p e s m args below meth c s₁ B hml hnt hv
  obtain ⟨rfl, ⟨hsz, hP, hK, hD0⟩, hE⟩ := hv
  have hx := B.exec
  have hb := B.bytes
  have hr := B.returns
  have hts := atoms_spec (ws := wsX7_know) B.pre
  have hown : s.vm.findClass RX7 = some m.cls := findClass_of_methodNamed B.named
  have hlocks := B.notSynchronized
  subst hsz
  have hD := hD0.self (sz := s.heap.size)
  generalize hAe : va_A (cW a cJ cI cO R b pr tm cn sm ac re kn) s.heap.size = A at hD hE ⊢
  have hA : ∀ q : Nat, s.heap.size ≤ q → A q := fun q h => by rw [← hAe]; exact Or.inr h
  have hS : va_S A s.heap s.heap [] := va_S.rf
  have hl := lv_entry ([.ref (a 0), .int p0, .int p1]) (n := 5) (Nat.le_of_ble_eq_true rfl)
  rw [lg_entry_eq]
  generalize (lg_sl ([.ref (a 0), .int p0, .int p1]) ++ List.replicate (5 - (lg_sl ([.ref (a 0), .int p0, .int p1])).length) Slot.unset).toArray = ls at hl ⊢
  replace hl : lv_has ls 5 [(0, .ref (a 0)), (1, .int p0), (2, .int p1)] := hl
  have kwX7 : ∀ w ∈ u_ws RX7 TX7 9, w ∈ wsX7_know := fun w h => List.mem_cons_of_mem _ (List.mem_append_left _ (List.mem_append_left _ (List.mem_append_left _ (List.mem_append_left _ (List.mem_append_right _ (List.mem_cons_of_mem _ (List.mem_append_left _ (List.mem_append_right _ h))))))))
  have kf_33 := hts (.fieldLink RX7 33 "Divisorwork" "numbers" "LDivisorwork$Numbers;") (zmem 1 rfl)
  have kf_16 := hts (.fieldLink RX7 16 "Divisorwork" "scratch" "LDivisorwork$Row;") (List.mem_cons_of_mem _ (List.mem_append_right _ (zmem 2 rfl)))
  replace h : (zb2 (p_X7_rowOf p0) (fun cd1 r2 => (if cd1 = 0 then (zb1 (p_X7_need p1 (0 : Int32) (10 : Int32)) (fun cd4 => (if cd4 = 0 then (p_X7_know_L0 F p1 (fun v4_0 RL0 prL0 tmL0 cnL0 => (zb3 (p_X7_become F RL0 ac r2) (fun r6 R_7 ac_8 => (some (0, r6, R_7, prL0, tmL0, cnL0, ac_8))))) F (1 : Int32) R pr tm cn) else (some (cd4, (0 : Int32), R, pr, tm, cn, ac))))) else (some (cd1, (0 : Int32), R, pr, tm, cn, ac))))) = some (cd, r, R', pr', tm', cn', ac') := h
  refine zabs (fun G hG hGW => ?_)
  obtain ⟨H, hHe⟩ : ∃ H, H = s.heap := ⟨_, rfl⟩
  rw [← hHe] at hP
  replace hS : va_S A s.heap H [] := by rw [hHe]; exact hS
  refine zheap hHe ?_
  refine lv_aload_n hx hb dX7_know_0 rfl (lv_at hl 0 rfl) ?_
  refine lv_iload_n hx hb dX7_know_1 rfl (lv_at hl 1 rfl) ?_
  obtain ⟨cd1, r2, e3, h⟩ := zb2_some h
  refine zxgor (vx_runV (As := [.int p0]) (rest := []) ⟨hx, hb, hml, hown, hts⟩ (c_X7_rowOf l D a cJ cI cO cB R b pr tm cn sm ac re kn p0 cd1 r2 hlt e3 H.size) (cwV 1 hts gX7_know_X7_rowOf rfl rfl rfl hdV_X7_rowOf ⟨Nat.le_of_ble_eq_true rfl, Nat.le_of_ble_eq_true rfl⟩) (zxpreV hE hS (zfree hD hS hA) (q0 := 0) (ci := 7) (T := TX7) (N := 9) hK hP hD rfl rfl [.int p0]) rfl rfl hl.1 rfl (lv_room (Nat.le_of_ble_eq_true rfl)) dX7_know_2 ⟨Nat.le_of_ble_eq_true rfl, Nat.le_of_ble_eq_true rfl⟩) (zfree hD hS hA) (zjW hD hS hA) hS (fun k02 => ?_) (fun k02 H locs hP hD hS => ?_)
  · replace h := zif_f h k02
    have g0 := Option.some.inj h
    obtain ⟨h1, g1⟩ := Prod.mk.inj g0
    obtain ⟨h2, g2⟩ := Prod.mk.inj g1
    obtain ⟨h3, g3⟩ := Prod.mk.inj g2
    obtain ⟨h4, g4⟩ := Prod.mk.inj g3
    obtain ⟨h5, g5⟩ := Prod.mk.inj g4
    obtain ⟨h6, g6⟩ := Prod.mk.inj g5
    subst h1
    subst h2
    subst h3
    subst h4
    subst h5
    subst h6
    subst g6
    exact zxout hnt hlocks k02 hK (Nat.le_of_ble_eq_true rfl) (Nat.le_of_ble_eq_true rfl) k02
  · replace h := zif_t h k02
    replace hP : va_P D vwCl (cW a cJ cI cO R b pr tm cn sm ac re kn) H := hP
    replace hD : va_D A (cW a cJ cI cO R b pr tm cn sm ac re kn) := hD
    refine lv_astore_n (lv' := [(3, .ref (a (2 + r2))), (0, .ref (a 0)), (1, .int p0), (2, .int p1)]) hx hb dX7_know_5 rfl hl (by decide) rfl (fun ls hl => ?_)
    refine lv_iload_n hx hb dX7_know_6 rfl (lv_at hl 3 rfl) ?_
    refine lv_iconst (v := (0 : Int32)) hx hb dX7_know_7 (by decide) ?_
    refine lv_bipush (v := (10 : Int32)) hx hb dX7_know_8 (by decide) ?_
    obtain ⟨cd4, e5, h⟩ := zb1_some h
    refine zxgov (vx_runS (As := [.int p1, .int (0 : Int32), .int (10 : Int32)]) (rest := []) ⟨hx, hb, hml, hown, hts⟩ (c_X7_need l D cJ cI cO cB p1 (0 : Int32) (10 : Int32) cd4 hlt e5 H.size) (va_cwS 3 hts gX7_know_X7_need rfl rfl rfl hdS_X7_need ⟨Nat.le_of_ble_eq_true rfl, Nat.le_of_ble_eq_true rfl⟩) (zxpreS hE hS (zf0 hS hA) hK zP0 (zD0 (A := A)) [.int p1, .int (0 : Int32), .int (10 : Int32)]) rfl rfl hl.1 rfl (lv_room (Nat.le_of_ble_eq_true rfl)) dX7_know_10 ⟨Nat.le_of_ble_eq_true rfl, Nat.le_of_ble_eq_true rfl⟩) (zf0 hS hA) (zjE hP hD) hS (fun k010 => ?_) (fun k010 H locs hP hD hS => ?_)
    · replace h := zif_f h k010
      have g0 := Option.some.inj h
      obtain ⟨h1, g1⟩ := Prod.mk.inj g0
      obtain ⟨h2, g2⟩ := Prod.mk.inj g1
      obtain ⟨h3, g3⟩ := Prod.mk.inj g2
      obtain ⟨h4, g4⟩ := Prod.mk.inj g3
      obtain ⟨h5, g5⟩ := Prod.mk.inj g4
      obtain ⟨h6, g6⟩ := Prod.mk.inj g5
      subst h1
      subst h2
      subst h3
      subst h4
      subst h5
      subst h6
      subst g6
      exact zxout hnt hlocks k010 hK (Nat.le_of_ble_eq_true rfl) (Nat.le_of_ble_eq_true rfl) k010
    · replace h := zif_t h k010
      refine lv_iconst (v := (1 : Int32)) hx hb dX7_know_13 (by decide) ?_
      refine lv_istore (lv' := [(4, .int (1 : Int32)), (3, .ref (a (2 + r2))), (0, .ref (a 0)), (1, .int p0), (2, .int p1)]) hx hb dX7_know_14 hl (by decide) rfl (fun ls hl => ?_)
      have X0 : ∀ (v4_0 : Int32) (RL0 : Nat → Nat → Int64) (prL0 : Nat → Int32) (tmL0 : Nat → Int32) (cnL0 : Int32) (H : Heap) (locs : List Loc) (ls : Array Slot), va_P D vwCl (cW a cJ cI cO RL0 b prL0 tmL0 cnL0 sm ac re kn) H → va_D A (cW a cJ cI cO RL0 b prL0 tmL0 cnL0 sm ac re kn) → va_S A s.heap H locs → lv_has ls 5 [(0, .ref (a 0)), (1, .int p0), (2, .int p1), (3, .ref (a (2 + r2))), (4, .int v4_0)] → (zb3 (p_X7_become F RL0 ac r2) (fun r6 R_7 ac_8 => (some (0, r6, R_7, prL0, tmL0, cnL0, ac_8)))) = some (cd, r, R', pr', tm', cn', ac') → G H locs 2 12 (F0 m 48 ls []) := by
        intro v4_0 RL0 prL0 tmL0 cnL0 H locs ls hP hD hS hl h
        refine hG _ _ _ _ _ ?_
        refine lv_aload_n hx hb dX7_know_48 rfl (lv_at hl 0 rfl) ?_
        refine lv_aload_n hx hb dX7_know_49 rfl (lv_at hl 3 rfl) ?_
        obtain ⟨r6, R_7, ac_8, e9, h⟩ := zb3_some h
        refine zgoi (va_runV (As := [.ref (a (2 + r2))]) (rest := []) ⟨hx, hb, hml, hown, hts⟩ (c_X7_become l D a cJ cI cO cB RL0 b prL0 tmL0 cnL0 sm ac re kn F r2 (zrow_lt e3 k02) r6 R_7 ac_8 e9 H.size) (cwV 1 hts gX7_know_X7_become rfl rfl rfl hdV_X7_become ⟨Nat.le_of_ble_eq_true rfl, Nat.le_of_ble_eq_true rfl⟩) (zpreV (q0 := 0) (ci := 7) (T := TX7) (N := 9) hK hP hD rfl rfl [.ref (a (2 + r2))]) rfl rfl hl.1 rfl (lv_room (Nat.le_of_ble_eq_true rfl)) dX7_know_50 ⟨Nat.le_of_ble_eq_true rfl, Nat.le_of_ble_eq_true rfl⟩) (zfree hD hS hA) (zjW hD hS hA) hS (fun H locs hP hD hS => ?_)
        replace hP : va_P D vwCl (cW a cJ cI cO R_7 b prL0 tmL0 cnL0 sm ac_8 re kn) H := hP
        replace hD : va_D A (cW a cJ cI cO R_7 b prL0 tmL0 cnL0 sm ac_8 re kn) := hD
        have g0 := Option.some.inj h
        obtain ⟨h1, g1⟩ := Prod.mk.inj g0
        obtain ⟨h2, g2⟩ := Prod.mk.inj g1
        obtain ⟨h3, g3⟩ := Prod.mk.inj g2
        obtain ⟨h4, g4⟩ := Prod.mk.inj g3
        obtain ⟨h5, g5⟩ := Prod.mk.inj g4
        obtain ⟨h6, g6⟩ := Prod.mk.inj g5
        subst h1
        subst h2
        subst h3
        subst h4
        subst h5
        subst h6
        subst g6
        refine vx_ret ?_
        exact W.iret (v := r6) hx hb hr (fun t ht hW => ⟨⟨r6, (), rfl, ⟨rfl, rfl⟩, by rw [ht]; exact hP, va_K.moved hW.alike hK, hD⟩, hS.F ht⟩) hS.2.2 dX7_know_53
      have L0 : ∀ (K0 : Int32 → (Nat → Nat → Int64) → (Nat → Int32) → (Nat → Int32) → Int32 → Option (Nat × Int32 × (Nat → Nat → Int64) × (Nat → Int32) × (Nat → Int32) × Int32 × Int32)) (HX0 : ∀ (v4_0 : Int32) (RL0 : Nat → Nat → Int64) (prL0 : Nat → Int32) (tmL0 : Nat → Int32) (cnL0 : Int32) (H : Heap) (locs : List Loc) (ls : Array Slot), va_P D vwCl (cW a cJ cI cO RL0 b prL0 tmL0 cnL0 sm ac re kn) H → va_D A (cW a cJ cI cO RL0 b prL0 tmL0 cnL0 sm ac re kn) → va_S A s.heap H locs → lv_has ls 5 [(0, .ref (a 0)), (1, .int p0), (2, .int p1), (3, .ref (a (2 + r2))), (4, .int v4_0)] → K0 v4_0 RL0 prL0 tmL0 cnL0 = some (cd, r, R', pr', tm', cn', ac') → G H locs 2 12 (F0 m 48 ls [])) (fu0 : Nat) (v4_0 : Int32) (RL0 : Nat → Nat → Int64) (prL0 : Nat → Int32) (tmL0 : Nat → Int32) (cnL0 : Int32) (H : Heap) (locs : List Loc) (ls : Array Slot), va_P D vwCl (cW a cJ cI cO RL0 b prL0 tmL0 cnL0 sm ac re kn) H → va_D A (cW a cJ cI cO RL0 b prL0 tmL0 cnL0 sm ac re kn) → va_S A s.heap H locs → lv_has ls 5 [(0, .ref (a 0)), (1, .int p0), (2, .int p1), (3, .ref (a (2 + r2))), (4, .int v4_0)] → p_X7_know_L0 F p1 K0 fu0 v4_0 RL0 prL0 tmL0 cnL0 = some (cd, r, R', pr', tm', cn', ac') → G H locs 2 12 (F0 m 16 ls []) := by
        intro K0 HX0 fu0
        induction fu0 with
        | zero =>
          intro v4_0 RL0 prL0 tmL0 cnL0 H locs ls hP hD hS hl h
          exact (zno h).elim
        | succ fu0 ih0 =>
          intro v4_0 RL0 prL0 tmL0 cnL0 H locs ls hP hD hS hl h
          refine hG _ _ _ _ _ ?_
          unfold p_X7_know_L0 at h
          refine lv_iload hx hb dX7_know_16 (lv_at hl 4 rfl) ?_
          refine lv_bipush (v := (120 : Int32)) hx hb dX7_know_18 (by decide) ?_
          refine lv_icmp_gt (tgt := 48) hx hb dX7_know_20 (by decide) (fun c20 => ?_) (fun c20 => ?_)
          · replace h := zif_t h c20
            exact hGW _ _ _ _ _ (HX0 v4_0 RL0 prL0 tmL0 cnL0 _ _ ls hP hD hS (lv_sub hl [0, 1, 2, 3, 4] rfl) h)
          · replace h := zif_f h c20
            refine lv_aload_n hx hb dX7_know_23 rfl (lv_at hl 0 rfl) ?_
            refine va_get (D := D) (ci := 7) (v := .ref (a 6)) (C := RX7) (T := TX7) (N := 9) hx hb hts kwX7 hown hK hP 0 rfl rfl 1 (by decide) kf_16 (fun _ h9 => h9) rfl dX7_know_24 ?_
            refine lv_iload hx hb dX7_know_27 (lv_at hl 4 rfl) ?_
            refine lv_aload_n hx hb dX7_know_29 rfl (lv_at hl 0 rfl) ?_
            refine va_get (D := D) (ci := 7) (v := .ref (a 15)) (C := RX7) (T := TX7) (N := 9) hx hb hts kwX7 hown hK hP 0 rfl rfl 4 (by decide) kf_33 (fun _ h9 => h9) rfl dX7_know_30 ?_
            refine lv_iload_n hx hb dX7_know_33 rfl (lv_at hl 2 rfl) ?_
            refine lv_iload hx hb dX7_know_34 (lv_at hl 4 rfl) ?_
            obtain ⟨r10, pr_11, tm_12, cn_13, e14, h⟩ := zb4_some h
            refine zgol (va_runV (As := [.int p1, .int v4_0]) (rest := [.int v4_0, .ref (a 6)]) ⟨hx, hb, hml, hown, hts⟩ (c_X1_known l D a cJ cI cO cB RL0 b prL0 tmL0 cnL0 sm ac re kn F p1 v4_0 r10 pr_11 tm_12 cn_13 e14 H.size) (cwV 2 hts gX7_know_X1_known rfl rfl rfl hdV_X1_known ⟨Nat.le_of_ble_eq_true rfl, Nat.le_of_ble_eq_true rfl⟩) (zpreV (q0 := 15) (ci := 3) (T := TX1) (N := 2) hK hP hD rfl rfl [.int p1, .int v4_0]) rfl rfl hl.1 rfl (lv_room (Nat.le_of_ble_eq_true rfl)) dX7_know_36 ⟨Nat.le_of_ble_eq_true rfl, Nat.le_of_ble_eq_true rfl⟩) (zfree hD hS hA) (zjW hD hS hA) hS (fun H locs hP hD hS => ?_)
            replace hP : va_P D vwCl (cW a cJ cI cO RL0 b pr_11 tm_12 cn_13 sm ac re kn) H := hP
            replace hD : va_D A (cW a cJ cI cO RL0 b pr_11 tm_12 cn_13 sm ac re kn) := hD
            obtain ⟨R_15, e16, h⟩ := zb1_some h
            refine zgov (va_runV (As := [.int v4_0, .long r10]) (rest := []) ⟨hx, hb, hml, hown, hts⟩ (c_X4_lay l D a cJ cI cO cB RL0 b pr_11 tm_12 cn_13 sm ac re kn 4 v4_0 r10 zlt4 R_15 e16 H.size) (cwV 2 hts gX7_know_X4_lay rfl rfl rfl hdV_X4_lay ⟨Nat.le_of_ble_eq_true rfl, Nat.le_of_ble_eq_true rfl⟩) (zpreV (q0 := 2 + 4) (ci := 6) (T := TX4) (N := 1) hK hP hD (cW_row zlt4) rfl [.int v4_0, .long r10]) rfl rfl hl.1 rfl (lv_room (Nat.le_of_ble_eq_true rfl)) dX7_know_39 ⟨Nat.le_of_ble_eq_true rfl, Nat.le_of_ble_eq_true rfl⟩) (zfree hD hS hA) (zjW hD hS hA) hS (fun H locs hP hD hS => ?_)
            replace hP : va_P D vwCl (cW a cJ cI cO R_15 b pr_11 tm_12 cn_13 sm ac re kn) H := hP
            replace hD : va_D A (cW a cJ cI cO R_15 b pr_11 tm_12 cn_13 sm ac re kn) := hD
            refine lv_iinc (v := (v4_0 + (1 : Int32))) (lv' := [(4, .int (v4_0 + (1 : Int32))), (0, .ref (a 0)), (1, .int p0), (2, .int p1), (3, .ref (a (2 + r2)))]) hx hb dX7_know_42 hl (k := 4) rfl rfl (by decide) rfl (fun ls hl => ?_)
            refine lv_goto (tgt := 16) hx hb dX7_know_45 (by decide) ?_
            exact hGW _ _ _ _ _ (ih0 (v4_0 + (1 : Int32)) R_15 pr_11 tm_12 cn_13 _ _ ls hP hD hS (lv_sub hl [1, 2, 3, 4, 0] rfl) h)
      exact hGW _ _ _ _ _ (L0 _ X0 F (1 : Int32) R pr tm cn _ _ ls hP hD hS (lv_sub hl [2, 3, 4, 1, 0] rfl) h)

noncomputable def p_X7_putLong (R : Nat → Nat → Int64) (ac : Int32) (p0 : Nat) (p1 : Int32) (p2 : Int64) : Option (Int32 × (Nat → Nat → Int64) × Int32) := (zb1 (p_X4_at R p0 p1) (fun r1 => (zlt (fun (s0j0 : Bool) => (zb1 (p_X4_lay R p0 p1 p2) (fun R_3 => (some ((z01 s0j0), R_3, (ac + (1 : Int32))))))) (fun jf0 => (if ¬ (lg_cmp r1 p2) = 0 then (jf0 true) else (jf0 false))))))
theorem hdV_X7_putLong : yX7_putLong.cls = RX7 ∧ yX7_putLong.cls ≠ "java/lang/invoke/MethodHandle" ∧ yX7_putLong.cls ≠ "java/lang/invoke/VarHandle" ∧ (parseMethodDescriptor yX7_putLong.desc).map (fun d => d.parameters.length) = some 3 := by decide +kernel
set_option maxHeartbeats 4000000 in
set_option maxRecDepth 100000 in
theorem c_X7_putLong (l : Launch) (D : va_G) (a : Nat → Nat) (cJ cI cO cB : ClassId) (R : Nat → Nat → Int64) (b : Bool) (pr : Nat → Int32) (tm : Nat → Int32) (cn : Int32) (sm : Nat → Int32) (ac : Int32) (re : Int32) (kn : Int32) (p0 : Nat) (p1 : Int32) (p2 : Int64) (hp0 : p0 < 6) (r : Int32) (R' : Nat → Nat → Int64) (ac' : Int32) (h : p_X7_putLong R ac p0 p1 p2 = some (r, R', ac')) : zMi l yX7_putLong wsX7_putLong 1 23 0 0 D (zT cJ cI cO cB) [.ref (a 0), .ref (a (2 + p0)), .int p1, .long p2] (cW a cJ cI cO R b pr tm cn sm ac re kn) (cW a cJ cI cO R' b pr tm cn sm ac' re kn) r := by
  intro sz
  delta zQi
  refine Met.ofW (cc := cX7_putLong) (maxL := 6) (ret := (some .int)) (by decide) rfl ?_
  intro p e s m args below meth c s₁ B hml hv
  obtain ⟨rfl, hsz, hP, hK, hD0⟩ := hv
  have hx := B.exec
  have hb := B.bytes
  have hr := B.returns
  have hts := atoms_spec (ws := wsX7_putLong) B.pre
  have hown : s.vm.findClass RX7 = some m.cls := findClass_of_methodNamed B.named
  have hlocks := B.notSynchronized
  subst hsz
  have hD := hD0.self (sz := s.heap.size)
  generalize hAe : va_A (cW a cJ cI cO R b pr tm cn sm ac re kn) s.heap.size = A at hD ⊢
  have hA : ∀ q : Nat, s.heap.size ≤ q → A q := fun q h => by rw [← hAe]; exact Or.inr h
  have hS : va_S A s.heap s.heap [] := va_S.rf
  have hl := lv_entry ([.ref (a 0), .ref (a (2 + p0)), .int p1, .long p2]) (n := 6) (Nat.le_of_ble_eq_true rfl)
  rw [lg_entry_eq]
  generalize (lg_sl ([.ref (a 0), .ref (a (2 + p0)), .int p1, .long p2]) ++ List.replicate (6 - (lg_sl ([.ref (a 0), .ref (a (2 + p0)), .int p1, .long p2])).length) Slot.unset).toArray = ls at hl ⊢
  replace hl : lv_has ls 6 [(0, .ref (a 0)), (1, .ref (a (2 + p0))), (2, .int p1), (3, .long p2)] := hl
  have kwX7 : ∀ w ∈ u_ws RX7 TX7 9, w ∈ wsX7_putLong := fun w h => List.mem_cons_of_mem _ (List.mem_append_left _ (List.mem_append_left _ (List.mem_append_right _ h)))
  have kf_74 := hts (.fieldLink RX7 74 "Divisorwork" "acts" "I") (zmem 1 rfl)
  replace h : (zb1 (p_X4_at R p0 p1) (fun r1 => (zlt (fun (s0j0 : Bool) => (zb1 (p_X4_lay R p0 p1 p2) (fun R_3 => (some ((z01 s0j0), R_3, (ac + (1 : Int32))))))) (fun jf0 => (if ¬ (lg_cmp r1 p2) = 0 then (jf0 true) else (jf0 false)))))) = some (r, R', ac') := h
  refine zabs (fun G hG hGW => ?_)
  obtain ⟨H, hHe⟩ : ∃ H, H = s.heap := ⟨_, rfl⟩
  rw [← hHe] at hP
  replace hS : va_S A s.heap H [] := by rw [hHe]; exact hS
  refine zheap hHe ?_
  refine lv_aload_n hx hb dX7_putLong_0 rfl (lv_at hl 1 rfl) ?_
  refine lv_iload_n hx hb dX7_putLong_1 rfl (lv_at hl 2 rfl) ?_
  obtain ⟨r1, e2, h⟩ := zb1_some h
  refine zgol (va_runV (As := [.int p1]) (rest := []) ⟨hx, hb, hml, hown, hts⟩ (c_X4_at l D a cJ cI cO cB R b pr tm cn sm ac re kn p0 p1 hp0 r1 e2 H.size) (cwV 1 hts gX7_putLong_X4_at rfl rfl rfl hdV_X4_at ⟨Nat.le_of_ble_eq_true rfl, Nat.le_of_ble_eq_true rfl⟩) (zpreV (q0 := 2 + p0) (ci := 6) (T := TX4) (N := 1) hK hP hD (cW_row hp0) rfl [.int p1]) rfl rfl hl.1 rfl (lv_room (Nat.le_of_ble_eq_true rfl)) dX7_putLong_2 ⟨Nat.le_of_ble_eq_true rfl, Nat.le_of_ble_eq_true rfl⟩) (zfree hD hS hA) (zjW hD hS hA) hS (fun H locs hP hD hS => ?_)
  replace hP : va_P D vwCl (cW a cJ cI cO R b pr tm cn sm ac re kn) H := hP
  replace hD : va_D A (cW a cJ cI cO R b pr tm cn sm ac re kn) := hD
  refine lv_lload_n hx hb dX7_putLong_5 rfl (lv_at hl 3 rfl) ?_
  refine W.lcmp hx hb dX7_putLong_6 ?_
  have J0 : ∀ (s0j0 : Bool) (H : Heap) (locs : List Loc) (ls : Array Slot), va_P D vwCl (cW a cJ cI cO R b pr tm cn sm ac re kn) H → va_D A (cW a cJ cI cO R b pr tm cn sm ac re kn) → va_S A s.heap H locs → lv_has ls 6 [(0, .ref (a 0)), (1, .ref (a (2 + p0))), (2, .int p1), (3, .long p2)] → (zb1 (p_X4_lay R p0 p1 p2) (fun R_3 => (some ((z01 s0j0), R_3, (ac + (1 : Int32)))))) = some (r, R', ac') → G H locs 0 0 (F0 m 15 ls [.int (z01 s0j0)]) := by
    intro s0j0 H locs ls hP hD hS hl h
    refine hG _ _ _ _ _ ?_
    refine lv_istore (lv' := [(5, .int (z01 s0j0)), (0, .ref (a 0)), (1, .ref (a (2 + p0))), (2, .int p1), (3, .long p2)]) hx hb dX7_putLong_15 hl (by decide) rfl (fun ls hl => ?_)
    refine lv_aload_n hx hb dX7_putLong_17 rfl (lv_at hl 2 rfl) ?_
    refine lv_iload_n hx hb dX7_putLong_18 rfl (lv_at hl 3 rfl) ?_
    refine lv_lload_n hx hb dX7_putLong_19 rfl (lv_at hl 4 rfl) ?_
    obtain ⟨R_3, e4, h⟩ := zb1_some h
    refine zgov (va_runV (As := [.int p1, .long p2]) (rest := []) ⟨hx, hb, hml, hown, hts⟩ (c_X4_lay l D a cJ cI cO cB R b pr tm cn sm ac re kn p0 p1 p2 hp0 R_3 e4 H.size) (cwV 2 hts gX7_putLong_X4_lay rfl rfl rfl hdV_X4_lay ⟨Nat.le_of_ble_eq_true rfl, Nat.le_of_ble_eq_true rfl⟩) (zpreV (q0 := 2 + p0) (ci := 6) (T := TX4) (N := 1) hK hP hD (cW_row hp0) rfl [.int p1, .long p2]) rfl rfl hl.1 rfl (lv_room (Nat.le_of_ble_eq_true rfl)) dX7_putLong_20 ⟨Nat.le_of_ble_eq_true rfl, Nat.le_of_ble_eq_true rfl⟩) (zfree hD hS hA) (zjW hD hS hA) hS (fun H locs hP hD hS => ?_)
    replace hP : va_P D vwCl (cW a cJ cI cO R_3 b pr tm cn sm ac re kn) H := hP
    replace hD : va_D A (cW a cJ cI cO R_3 b pr tm cn sm ac re kn) := hD
    refine lv_aload_n hx hb dX7_putLong_23 rfl (lv_at hl 1 rfl) ?_
    refine lv_dup hx hb dX7_putLong_24 rfl ?_
    refine va_get (D := D) (ci := 7) (v := .int ac) (C := RX7) (T := TX7) (N := 9) hx hb hts kwX7 hown hK hP 0 rfl rfl 6 (by decide) kf_74 (fun _ h9 => h9) rfl dX7_putLong_25 ?_
    refine lv_iconst (v := (1 : Int32)) hx hb dX7_putLong_28 (by decide) ?_
    refine lv_iadd hx hb dX7_putLong_29 ?_
    refine va_put (D := D) (ci := 7) (v := .int (ac + (1 : Int32))) (ty := .int) (C := RX7) (T := TX7) (N := 9) hx hb hts kwX7 tyX7 tyX7_ok nmX7 hown hK hP hD hS 0 rfl rfl 6 (by decide) kf_74 (fun _ h9 => h9) rfl rfl rfl rfl (Nat.le_of_ble_eq_true rfl) dX7_putLong_30 (fun H locs hP hD hS => ?_)
    replace hP : va_P D vwCl (cW a cJ cI cO R_3 b pr tm cn sm (ac + (1 : Int32)) re kn) H := hP
    replace hD : va_D A (cW a cJ cI cO R_3 b pr tm cn sm (ac + (1 : Int32)) re kn) := hD
    refine lv_iload hx hb dX7_putLong_33 (lv_at hl 0 rfl) ?_
    have g0 := Option.some.inj h
    obtain ⟨h1, g1⟩ := Prod.mk.inj g0
    obtain ⟨h2, g2⟩ := Prod.mk.inj g1
    subst h1
    subst h2
    subst g2
    exact W.iret (v := (z01 s0j0)) hx hb hr (fun t ht hW => ⟨⟨(z01 s0j0), (), rfl, rfl, by rw [ht]; exact hP, va_K.moved hW.alike hK, hD⟩, hS.F ht⟩) hS.2.2 dX7_putLong_35
  replace h := zlt_h h
  refine lv_if_ne (tgt := 14) hx hb dX7_putLong_7 (by decide) (fun c7 => ?_) (fun c7 => ?_)
  · replace h := zif_t h c7
    refine lv_iconst (v := (1 : Int32)) hx hb dX7_putLong_14 (by decide) ?_
    exact hGW _ _ _ _ _ (J0 true _ _ ls hP hD hS (lv_sub hl [0, 1, 2, 3] rfl) h)
  · replace h := zif_fn h c7
    refine lv_iconst (v := (0 : Int32)) hx hb dX7_putLong_10 (by decide) ?_
    refine lv_goto (tgt := 15) hx hb dX7_putLong_11 (by decide) ?_
    exact hGW _ _ _ _ _ (J0 false _ _ ls hP hD hS (lv_sub hl [0, 1, 2, 3] rfl) h)

noncomputable def p_X7_put (R : Nat → Nat → Int64) (ac : Int32) (p0 : Int32) (p1 : Int32) (p2 : Int32) : Option (Nat × Int32 × (Nat → Nat → Int64) × Int32) := (zb2 (p_X7_rowOf p0) (fun cd1 r2 => (if cd1 = 0 then (zb1 (p_X7_need p1 (1 : Int32) (120 : Int32)) (fun cd4 => (if cd4 = 0 then (zb3 (p_X7_putLong R ac r2 p1 (p2.toInt64)) (fun r6 R_7 ac_8 => (some (0, r6, R_7, ac_8)))) else (some (cd4, (0 : Int32), R, ac))))) else (some (cd1, (0 : Int32), R, ac)))))
theorem hdV_X7_put : yX7_put.cls = RX7 ∧ yX7_put.cls ≠ "java/lang/invoke/MethodHandle" ∧ yX7_put.cls ≠ "java/lang/invoke/VarHandle" ∧ (parseMethodDescriptor yX7_put.desc).map (fun d => d.parameters.length) = some 3 := by decide +kernel
set_option maxHeartbeats 4000000 in
set_option maxRecDepth 100000 in
theorem c_X7_put (l : Launch) (D : va_G) (a : Nat → Nat) (cJ cI cO cB : ClassId) (R : Nat → Nat → Int64) (b : Bool) (pr : Nat → Int32) (tm : Nat → Int32) (cn : Int32) (sm : Nat → Int32) (ac : Int32) (re : Int32) (kn : Int32) (p0 : Int32) (p1 : Int32) (p2 : Int32) (cd : Nat) (r : Int32) (R' : Nat → Nat → Int64) (ac' : Int32) (hlt : l.stackTraces = false) (h : p_X7_put R ac p0 p1 p2 = some (cd, r, R', ac')) : zMxi l yX7_put wsX7_put 7 112 2 12 D (zT cJ cI cO cB) [.ref (a 0), .int p0, .int p1, .int p2] (cW a cJ cI cO R b pr tm cn sm ac re kn) (cW a cJ cI cO R' b pr tm cn sm ac' re kn) cd r := by
  intro sz
  delta zQxi zX
  refine vx_ofW (cc := cX7_put) (maxL := 5) (ret := (some .int)) (by decide) rfl ?_
  intro p e s m args below meth c s₁ B hml hnt hv
  obtain ⟨rfl, ⟨hsz, hP, hK, hD0⟩, hE⟩ := hv
  have hx := B.exec
  have hb := B.bytes
  have hr := B.returns
  have hts := atoms_spec (ws := wsX7_put) B.pre
  have hown : s.vm.findClass RX7 = some m.cls := findClass_of_methodNamed B.named
  have hlocks := B.notSynchronized
  subst hsz
  have hD := hD0.self (sz := s.heap.size)
  generalize hAe : va_A (cW a cJ cI cO R b pr tm cn sm ac re kn) s.heap.size = A at hD hE ⊢
  have hA : ∀ q : Nat, s.heap.size ≤ q → A q := fun q h => by rw [← hAe]; exact Or.inr h
  have hS : va_S A s.heap s.heap [] := va_S.rf
  have hl := lv_entry ([.ref (a 0), .int p0, .int p1, .int p2]) (n := 5) (Nat.le_of_ble_eq_true rfl)
  rw [lg_entry_eq]
  generalize (lg_sl ([.ref (a 0), .int p0, .int p1, .int p2]) ++ List.replicate (5 - (lg_sl ([.ref (a 0), .int p0, .int p1, .int p2])).length) Slot.unset).toArray = ls at hl ⊢
  replace hl : lv_has ls 5 [(0, .ref (a 0)), (1, .int p0), (2, .int p1), (3, .int p2)] := hl
  replace h : (zb2 (p_X7_rowOf p0) (fun cd1 r2 => (if cd1 = 0 then (zb1 (p_X7_need p1 (1 : Int32) (120 : Int32)) (fun cd4 => (if cd4 = 0 then (zb3 (p_X7_putLong R ac r2 p1 (p2.toInt64)) (fun r6 R_7 ac_8 => (some (0, r6, R_7, ac_8)))) else (some (cd4, (0 : Int32), R, ac))))) else (some (cd1, (0 : Int32), R, ac))))) = some (cd, r, R', ac') := h
  obtain ⟨H, hHe⟩ : ∃ H, H = s.heap := ⟨_, rfl⟩
  rw [← hHe] at hP
  replace hS : va_S A s.heap H [] := by rw [hHe]; exact hS
  refine zheap hHe ?_
  refine lv_aload_n hx hb dX7_put_0 rfl (lv_at hl 0 rfl) ?_
  refine lv_iload_n hx hb dX7_put_1 rfl (lv_at hl 1 rfl) ?_
  obtain ⟨cd1, r2, e3, h⟩ := zb2_some h
  refine zxgor (vx_runV (As := [.int p0]) (rest := []) ⟨hx, hb, hml, hown, hts⟩ (c_X7_rowOf l D a cJ cI cO cB R b pr tm cn sm ac re kn p0 cd1 r2 hlt e3 H.size) (cwV 1 hts gX7_put_X7_rowOf rfl rfl rfl hdV_X7_rowOf ⟨Nat.le_of_ble_eq_true rfl, Nat.le_of_ble_eq_true rfl⟩) (zxpreV hE hS (zfree hD hS hA) (q0 := 0) (ci := 7) (T := TX7) (N := 9) hK hP hD rfl rfl [.int p0]) rfl rfl hl.1 rfl (lv_room (Nat.le_of_ble_eq_true rfl)) dX7_put_2 ⟨Nat.le_of_ble_eq_true rfl, Nat.le_of_ble_eq_true rfl⟩) (zfree hD hS hA) (zjW hD hS hA) hS (fun k02 => ?_) (fun k02 H locs hP hD hS => ?_)
  · replace h := zif_f h k02
    have g0 := Option.some.inj h
    obtain ⟨h1, g1⟩ := Prod.mk.inj g0
    obtain ⟨h2, g2⟩ := Prod.mk.inj g1
    obtain ⟨h3, g3⟩ := Prod.mk.inj g2
    subst h1
    subst h2
    subst h3
    subst g3
    exact zxout hnt hlocks k02 hK (Nat.le_of_ble_eq_true rfl) (Nat.le_of_ble_eq_true rfl) k02
  · replace h := zif_t h k02
    replace hP : va_P D vwCl (cW a cJ cI cO R b pr tm cn sm ac re kn) H := hP
    replace hD : va_D A (cW a cJ cI cO R b pr tm cn sm ac re kn) := hD
    refine lv_astore (lv' := [(4, .ref (a (2 + r2))), (0, .ref (a 0)), (1, .int p0), (2, .int p1), (3, .int p2)]) hx hb dX7_put_5 hl (by decide) rfl (fun ls hl => ?_)
    refine lv_iload_n hx hb dX7_put_7 rfl (lv_at hl 3 rfl) ?_
    refine lv_iconst (v := (1 : Int32)) hx hb dX7_put_8 (by decide) ?_
    refine lv_bipush (v := (120 : Int32)) hx hb dX7_put_9 (by decide) ?_
    obtain ⟨cd4, e5, h⟩ := zb1_some h
    refine zxgov (vx_runS (As := [.int p1, .int (1 : Int32), .int (120 : Int32)]) (rest := []) ⟨hx, hb, hml, hown, hts⟩ (c_X7_need l D cJ cI cO cB p1 (1 : Int32) (120 : Int32) cd4 hlt e5 H.size) (va_cwS 3 hts gX7_put_X7_need rfl rfl rfl hdS_X7_need ⟨Nat.le_of_ble_eq_true rfl, Nat.le_of_ble_eq_true rfl⟩) (zxpreS hE hS (zf0 hS hA) hK zP0 (zD0 (A := A)) [.int p1, .int (1 : Int32), .int (120 : Int32)]) rfl rfl hl.1 rfl (lv_room (Nat.le_of_ble_eq_true rfl)) dX7_put_11 ⟨Nat.le_of_ble_eq_true rfl, Nat.le_of_ble_eq_true rfl⟩) (zf0 hS hA) (zjE hP hD) hS (fun k011 => ?_) (fun k011 H locs hP hD hS => ?_)
    · replace h := zif_f h k011
      have g0 := Option.some.inj h
      obtain ⟨h1, g1⟩ := Prod.mk.inj g0
      obtain ⟨h2, g2⟩ := Prod.mk.inj g1
      obtain ⟨h3, g3⟩ := Prod.mk.inj g2
      subst h1
      subst h2
      subst h3
      subst g3
      exact zxout hnt hlocks k011 hK (Nat.le_of_ble_eq_true rfl) (Nat.le_of_ble_eq_true rfl) k011
    · replace h := zif_t h k011
      refine lv_aload_n hx hb dX7_put_14 rfl (lv_at hl 1 rfl) ?_
      refine lv_aload hx hb dX7_put_15 (lv_at hl 0 rfl) ?_
      refine lv_iload_n hx hb dX7_put_17 rfl (lv_at hl 3 rfl) ?_
      refine lv_iload_n hx hb dX7_put_18 rfl (lv_at hl 4 rfl) ?_
      refine lv_i2l (v := p2.toInt64) hx hb dX7_put_19 rfl ?_
      obtain ⟨r6, R_7, ac_8, e9, h⟩ := zb3_some h
      refine zgoi (va_runV (As := [.ref (a (2 + r2)), .int p1, .long (p2.toInt64)]) (rest := []) ⟨hx, hb, hml, hown, hts⟩ (c_X7_putLong l D a cJ cI cO cB R b pr tm cn sm ac re kn r2 p1 (p2.toInt64) (zrow_lt e3 k02) r6 R_7 ac_8 e9 H.size) (cwV 3 hts gX7_put_X7_putLong rfl rfl rfl hdV_X7_putLong ⟨Nat.le_of_ble_eq_true rfl, Nat.le_of_ble_eq_true rfl⟩) (zpreV (q0 := 0) (ci := 7) (T := TX7) (N := 9) hK hP hD rfl rfl [.ref (a (2 + r2)), .int p1, .long (p2.toInt64)]) rfl rfl hl.1 rfl (lv_room (Nat.le_of_ble_eq_true rfl)) dX7_put_20 ⟨Nat.le_of_ble_eq_true rfl, Nat.le_of_ble_eq_true rfl⟩) (zfree hD hS hA) (zjW hD hS hA) hS (fun H locs hP hD hS => ?_)
      replace hP : va_P D vwCl (cW a cJ cI cO R_7 b pr tm cn sm ac_8 re kn) H := hP
      replace hD : va_D A (cW a cJ cI cO R_7 b pr tm cn sm ac_8 re kn) := hD
      have g0 := Option.some.inj h
      obtain ⟨h1, g1⟩ := Prod.mk.inj g0
      obtain ⟨h2, g2⟩ := Prod.mk.inj g1
      obtain ⟨h3, g3⟩ := Prod.mk.inj g2
      subst h1
      subst h2
      subst h3
      subst g3
      refine vx_ret ?_
      exact W.iret (v := r6) hx hb hr (fun t ht hW => ⟨⟨r6, (), rfl, ⟨rfl, rfl⟩, by rw [ht]; exact hP, va_K.moved hW.alike hK, hD⟩, hS.F ht⟩) hS.2.2 dX7_put_23

noncomputable def p_X7_putWide (R : Nat → Nat → Int64) (ac : Int32) (p0 : Int32) (p1 : Int32) (p2 : Int32) (p3 : Int32) : Option (Nat × Int32 × (Nat → Nat → Int64) × Int32) := (zb2 (p_X7_rowOf p0) (fun cd1 r2 => (if cd1 = 0 then (zb1 (p_X7_need p1 (1 : Int32) (120 : Int32)) (fun cd4 => (if cd4 = 0 then (zb3 (p_X7_putLong R ac r2 p1 (((p2.toInt64) <<< ((32 : Int32).toInt64 &&& 63)) ||| ((p3.toInt64) &&& (4294967295 : Int64)))) (fun r6 R_7 ac_8 => (some (0, r6, R_7, ac_8)))) else (some (cd4, (0 : Int32), R, ac))))) else (some (cd1, (0 : Int32), R, ac)))))
theorem hdV_X7_putWide : yX7_putWide.cls = RX7 ∧ yX7_putWide.cls ≠ "java/lang/invoke/MethodHandle" ∧ yX7_putWide.cls ≠ "java/lang/invoke/VarHandle" ∧ (parseMethodDescriptor yX7_putWide.desc).map (fun d => d.parameters.length) = some 4 := by decide +kernel
set_option maxHeartbeats 4000000 in
set_option maxRecDepth 100000 in
theorem c_X7_putWide (l : Launch) (D : va_G) (a : Nat → Nat) (cJ cI cO cB : ClassId) (R : Nat → Nat → Int64) (b : Bool) (pr : Nat → Int32) (tm : Nat → Int32) (cn : Int32) (sm : Nat → Int32) (ac : Int32) (re : Int32) (kn : Int32) (p0 : Int32) (p1 : Int32) (p2 : Int32) (p3 : Int32) (cd : Nat) (r : Int32) (R' : Nat → Nat → Int64) (ac' : Int32) (hlt : l.stackTraces = false) (h : p_X7_putWide R ac p0 p1 p2 p3 = some (cd, r, R', ac')) : zMxi l yX7_putWide wsX7_putWide 7 112 2 12 D (zT cJ cI cO cB) [.ref (a 0), .int p0, .int p1, .int p2, .int p3] (cW a cJ cI cO R b pr tm cn sm ac re kn) (cW a cJ cI cO R' b pr tm cn sm ac' re kn) cd r := by
  intro sz
  delta zQxi zX
  refine vx_ofW (cc := cX7_putWide) (maxL := 6) (ret := (some .int)) (by decide) rfl ?_
  intro p e s m args below meth c s₁ B hml hnt hv
  obtain ⟨rfl, ⟨hsz, hP, hK, hD0⟩, hE⟩ := hv
  have hx := B.exec
  have hb := B.bytes
  have hr := B.returns
  have hts := atoms_spec (ws := wsX7_putWide) B.pre
  have hown : s.vm.findClass RX7 = some m.cls := findClass_of_methodNamed B.named
  have hlocks := B.notSynchronized
  subst hsz
  have hD := hD0.self (sz := s.heap.size)
  generalize hAe : va_A (cW a cJ cI cO R b pr tm cn sm ac re kn) s.heap.size = A at hD hE ⊢
  have hA : ∀ q : Nat, s.heap.size ≤ q → A q := fun q h => by rw [← hAe]; exact Or.inr h
  have hS : va_S A s.heap s.heap [] := va_S.rf
  have hl := lv_entry ([.ref (a 0), .int p0, .int p1, .int p2, .int p3]) (n := 6) (Nat.le_of_ble_eq_true rfl)
  rw [lg_entry_eq]
  generalize (lg_sl ([.ref (a 0), .int p0, .int p1, .int p2, .int p3]) ++ List.replicate (6 - (lg_sl ([.ref (a 0), .int p0, .int p1, .int p2, .int p3])).length) Slot.unset).toArray = ls at hl ⊢
  replace hl : lv_has ls 6 [(0, .ref (a 0)), (1, .int p0), (2, .int p1), (3, .int p2), (4, .int p3)] := hl
  have kc_70 := hts (.constantLong RX7 70 (4294967295)) (zmem 1 rfl)
  replace h : (zb2 (p_X7_rowOf p0) (fun cd1 r2 => (if cd1 = 0 then (zb1 (p_X7_need p1 (1 : Int32) (120 : Int32)) (fun cd4 => (if cd4 = 0 then (zb3 (p_X7_putLong R ac r2 p1 (((p2.toInt64) <<< ((32 : Int32).toInt64 &&& 63)) ||| ((p3.toInt64) &&& (4294967295 : Int64)))) (fun r6 R_7 ac_8 => (some (0, r6, R_7, ac_8)))) else (some (cd4, (0 : Int32), R, ac))))) else (some (cd1, (0 : Int32), R, ac))))) = some (cd, r, R', ac') := h
  obtain ⟨H, hHe⟩ : ∃ H, H = s.heap := ⟨_, rfl⟩
  rw [← hHe] at hP
  replace hS : va_S A s.heap H [] := by rw [hHe]; exact hS
  refine zheap hHe ?_
  refine lv_aload_n hx hb dX7_putWide_0 rfl (lv_at hl 0 rfl) ?_
  refine lv_iload_n hx hb dX7_putWide_1 rfl (lv_at hl 1 rfl) ?_
  obtain ⟨cd1, r2, e3, h⟩ := zb2_some h
  refine zxgor (vx_runV (As := [.int p0]) (rest := []) ⟨hx, hb, hml, hown, hts⟩ (c_X7_rowOf l D a cJ cI cO cB R b pr tm cn sm ac re kn p0 cd1 r2 hlt e3 H.size) (cwV 1 hts gX7_putWide_X7_rowOf rfl rfl rfl hdV_X7_rowOf ⟨Nat.le_of_ble_eq_true rfl, Nat.le_of_ble_eq_true rfl⟩) (zxpreV hE hS (zfree hD hS hA) (q0 := 0) (ci := 7) (T := TX7) (N := 9) hK hP hD rfl rfl [.int p0]) rfl rfl hl.1 rfl (lv_room (Nat.le_of_ble_eq_true rfl)) dX7_putWide_2 ⟨Nat.le_of_ble_eq_true rfl, Nat.le_of_ble_eq_true rfl⟩) (zfree hD hS hA) (zjW hD hS hA) hS (fun k02 => ?_) (fun k02 H locs hP hD hS => ?_)
  · replace h := zif_f h k02
    have g0 := Option.some.inj h
    obtain ⟨h1, g1⟩ := Prod.mk.inj g0
    obtain ⟨h2, g2⟩ := Prod.mk.inj g1
    obtain ⟨h3, g3⟩ := Prod.mk.inj g2
    subst h1
    subst h2
    subst h3
    subst g3
    exact zxout hnt hlocks k02 hK (Nat.le_of_ble_eq_true rfl) (Nat.le_of_ble_eq_true rfl) k02
  · replace h := zif_t h k02
    replace hP : va_P D vwCl (cW a cJ cI cO R b pr tm cn sm ac re kn) H := hP
    replace hD : va_D A (cW a cJ cI cO R b pr tm cn sm ac re kn) := hD
    refine lv_astore (lv' := [(5, .ref (a (2 + r2))), (0, .ref (a 0)), (1, .int p0), (2, .int p1), (3, .int p2), (4, .int p3)]) hx hb dX7_putWide_5 hl (by decide) rfl (fun ls hl => ?_)
    refine lv_iload_n hx hb dX7_putWide_7 rfl (lv_at hl 3 rfl) ?_
    refine lv_iconst (v := (1 : Int32)) hx hb dX7_putWide_8 (by decide) ?_
    refine lv_bipush (v := (120 : Int32)) hx hb dX7_putWide_9 (by decide) ?_
    obtain ⟨cd4, e5, h⟩ := zb1_some h
    refine zxgov (vx_runS (As := [.int p1, .int (1 : Int32), .int (120 : Int32)]) (rest := []) ⟨hx, hb, hml, hown, hts⟩ (c_X7_need l D cJ cI cO cB p1 (1 : Int32) (120 : Int32) cd4 hlt e5 H.size) (va_cwS 3 hts gX7_putWide_X7_need rfl rfl rfl hdS_X7_need ⟨Nat.le_of_ble_eq_true rfl, Nat.le_of_ble_eq_true rfl⟩) (zxpreS hE hS (zf0 hS hA) hK zP0 (zD0 (A := A)) [.int p1, .int (1 : Int32), .int (120 : Int32)]) rfl rfl hl.1 rfl (lv_room (Nat.le_of_ble_eq_true rfl)) dX7_putWide_11 ⟨Nat.le_of_ble_eq_true rfl, Nat.le_of_ble_eq_true rfl⟩) (zf0 hS hA) (zjE hP hD) hS (fun k011 => ?_) (fun k011 H locs hP hD hS => ?_)
    · replace h := zif_f h k011
      have g0 := Option.some.inj h
      obtain ⟨h1, g1⟩ := Prod.mk.inj g0
      obtain ⟨h2, g2⟩ := Prod.mk.inj g1
      obtain ⟨h3, g3⟩ := Prod.mk.inj g2
      subst h1
      subst h2
      subst h3
      subst g3
      exact zxout hnt hlocks k011 hK (Nat.le_of_ble_eq_true rfl) (Nat.le_of_ble_eq_true rfl) k011
    · replace h := zif_t h k011
      refine lv_aload_n hx hb dX7_putWide_14 rfl (lv_at hl 1 rfl) ?_
      refine lv_aload hx hb dX7_putWide_15 (lv_at hl 0 rfl) ?_
      refine lv_iload_n hx hb dX7_putWide_17 rfl (lv_at hl 3 rfl) ?_
      refine lv_iload_n hx hb dX7_putWide_18 rfl (lv_at hl 4 rfl) ?_
      refine lv_i2l (v := p2.toInt64) hx hb dX7_putWide_19 rfl ?_
      refine lv_bipush (v := (32 : Int32)) hx hb dX7_putWide_20 (by decide) ?_
      refine lv_lshl (v := ((p2.toInt64) <<< ((32 : Int32).toInt64 &&& 63))) hx hb dX7_putWide_22 rfl ?_
      refine lv_iload hx hb dX7_putWide_23 (lv_at hl 5 rfl) ?_
      refine lv_i2l (v := p3.toInt64) hx hb dX7_putWide_25 rfl ?_
      refine lv_ldc2 hx hb hown kc_70 dX7_putWide_26 ?_
      refine lv_land hx hb dX7_putWide_29 ?_
      refine lv_lor hx hb dX7_putWide_30 ?_
      obtain ⟨r6, R_7, ac_8, e9, h⟩ := zb3_some h
      refine zgoi (va_runV (As := [.ref (a (2 + r2)), .int p1, .long (((p2.toInt64) <<< ((32 : Int32).toInt64 &&& 63)) ||| ((p3.toInt64) &&& (4294967295 : Int64)))]) (rest := []) ⟨hx, hb, hml, hown, hts⟩ (c_X7_putLong l D a cJ cI cO cB R b pr tm cn sm ac re kn r2 p1 (((p2.toInt64) <<< ((32 : Int32).toInt64 &&& 63)) ||| ((p3.toInt64) &&& (4294967295 : Int64))) (zrow_lt e3 k02) r6 R_7 ac_8 e9 H.size) (cwV 3 hts gX7_putWide_X7_putLong rfl rfl rfl hdV_X7_putLong ⟨Nat.le_of_ble_eq_true rfl, Nat.le_of_ble_eq_true rfl⟩) (zpreV (q0 := 0) (ci := 7) (T := TX7) (N := 9) hK hP hD rfl rfl [.ref (a (2 + r2)), .int p1, .long (((p2.toInt64) <<< ((32 : Int32).toInt64 &&& 63)) ||| ((p3.toInt64) &&& (4294967295 : Int64)))]) rfl rfl hl.1 rfl (lv_room (Nat.le_of_ble_eq_true rfl)) dX7_putWide_31 ⟨Nat.le_of_ble_eq_true rfl, Nat.le_of_ble_eq_true rfl⟩) (zfree hD hS hA) (zjW hD hS hA) hS (fun H locs hP hD hS => ?_)
      replace hP : va_P D vwCl (cW a cJ cI cO R_7 b pr tm cn sm ac_8 re kn) H := hP
      replace hD : va_D A (cW a cJ cI cO R_7 b pr tm cn sm ac_8 re kn) := hD
      have g0 := Option.some.inj h
      obtain ⟨h1, g1⟩ := Prod.mk.inj g0
      obtain ⟨h2, g2⟩ := Prod.mk.inj g1
      obtain ⟨h3, g3⟩ := Prod.mk.inj g2
      subst h1
      subst h2
      subst h3
      subst g3
      refine vx_ret ?_
      exact W.iret (v := r6) hx hb hr (fun t ht hW => ⟨⟨r6, (), rfl, ⟨rfl, rfl⟩, by rw [ht]; exact hP, va_K.moved hW.alike hK, hD⟩, hS.F ht⟩) hS.2.2 dX7_putWide_34

noncomputable def p_X7_sow_L0 (F : Nat) (p2 : Int32) (r2 : Nat) (k : Int32 → Int32 → Int32 → (Nat → Nat → Int64) → Option (Nat × Int32 × (Nat → Nat → Int64) × Int32)) : Nat → Int32 → Int32 → Int32 → (Nat → Nat → Int64) → Option (Nat × Int32 × (Nat → Nat → Int64) × Int32)
  | 0, _, _, _, _ => none
  | n + 1, v6_0, v7_0, v8_0, RL0 => (if (120 : Int32) < v8_0 then (k v6_0 v7_0 v8_0 RL0) else (zlt (fun (s0j0 : Int32) => (if ¬ (s0j0 - p2) = 0 then (zb1 (p_X4_lay RL0 r2 v8_0 ((s0j0 - p2).toInt64)) (fun R_8 => (p_X7_sow_L0 F p2 r2 k n (zr ((v6_0 * (25173 : Int32)) + (13849 : Int32)) (65536 : Int32)) (v7_0 + (0 : Int32)) (v8_0 + (1 : Int32)) R_8))) else (zb1 (p_X4_lay RL0 r2 v8_0 ((s0j0 - p2).toInt64)) (fun R_10 => (p_X7_sow_L0 F p2 r2 k n (zr ((v6_0 * (25173 : Int32)) + (13849 : Int32)) (65536 : Int32)) (v7_0 + (1 : Int32)) (v8_0 + (1 : Int32)) R_10))))) (fun jf0 => (if (((2 : Int32) * p2) + (1 : Int32)) ≤ 0 then (jf0 (0 : Int32)) else (zg ((((2 : Int32) * p2) + (1 : Int32)) = 0) (jf0 (zr ((zr ((v6_0 * (25173 : Int32)) + (13849 : Int32)) (65536 : Int32)) / (64 : Int32)) (((2 : Int32) * p2) + (1 : Int32)))))))))
noncomputable def p_X7_sow (F : Nat) (R : Nat → Nat → Int64) (ac : Int32) (p0 : Int32) (p1 : Int32) (p2 : Int32) : Option (Nat × Int32 × (Nat → Nat → Int64) × Int32) := (zb2 (p_X7_rowOf p0) (fun cd1 r2 => (if cd1 = 0 then (zb1 (p_X7_need p1 (0 : Int32) (65535 : Int32)) (fun cd4 => (if cd4 = 0 then (zb1 (p_X7_need p2 (0 : Int32) (500 : Int32)) (fun cd6 => (if cd6 = 0 then (p_X7_sow_L0 F p2 r2 (fun v6_0 v7_0 v8_0 RL0 => (some (0, v7_0, RL0, (ac + (1 : Int32))))) F p1 (0 : Int32) (1 : Int32) R) else (some (cd6, (0 : Int32), R, ac))))) else (some (cd4, (0 : Int32), R, ac))))) else (some (cd1, (0 : Int32), R, ac)))))
theorem hdV_X7_sow : yX7_sow.cls = RX7 ∧ yX7_sow.cls ≠ "java/lang/invoke/MethodHandle" ∧ yX7_sow.cls ≠ "java/lang/invoke/VarHandle" ∧ (parseMethodDescriptor yX7_sow.desc).map (fun d => d.parameters.length) = some 3 := by decide +kernel
set_option maxHeartbeats 4000000 in
set_option maxRecDepth 100000 in
theorem c_X7_sow (l : Launch) (D : va_G) (a : Nat → Nat) (cJ cI cO cB : ClassId) (R : Nat → Nat → Int64) (b : Bool) (pr : Nat → Int32) (tm : Nat → Int32) (cn : Int32) (sm : Nat → Int32) (ac : Int32) (re : Int32) (kn : Int32) (F : Nat) (p0 : Int32) (p1 : Int32) (p2 : Int32) (cd : Nat) (r : Int32) (R' : Nat → Nat → Int64) (ac' : Int32) (hlt : l.stackTraces = false) (h : p_X7_sow F R ac p0 p1 p2 = some (cd, r, R', ac')) : zMxi l yX7_sow wsX7_sow 7 112 3 18 D (zT cJ cI cO cB) [.ref (a 0), .int p0, .int p1, .int p2] (cW a cJ cI cO R b pr tm cn sm ac re kn) (cW a cJ cI cO R' b pr tm cn sm ac' re kn) cd r := by
  intro sz
  delta zQxi zX
  refine vx_ofW (cc := cX7_sow) (maxL := 10) (ret := (some .int)) (by decide) rfl ?_
  intro p e s m args below meth c s₁ B hml hnt hv
  obtain ⟨rfl, ⟨hsz, hP, hK, hD0⟩, hE⟩ := hv
  have hx := B.exec
  have hb := B.bytes
  have hr := B.returns
  have hts := atoms_spec (ws := wsX7_sow) B.pre
  have hown : s.vm.findClass RX7 = some m.cls := findClass_of_methodNamed B.named
  have hlocks := B.notSynchronized
  subst hsz
  have hD := hD0.self (sz := s.heap.size)
  generalize hAe : va_A (cW a cJ cI cO R b pr tm cn sm ac re kn) s.heap.size = A at hD hE ⊢
  have hA : ∀ q : Nat, s.heap.size ≤ q → A q := fun q h => by rw [← hAe]; exact Or.inr h
  have hS : va_S A s.heap s.heap [] := va_S.rf
  have hl := lv_entry ([.ref (a 0), .int p0, .int p1, .int p2]) (n := 10) (Nat.le_of_ble_eq_true rfl)
  rw [lg_entry_eq]
  generalize (lg_sl ([.ref (a 0), .int p0, .int p1, .int p2]) ++ List.replicate (10 - (lg_sl ([.ref (a 0), .int p0, .int p1, .int p2])).length) Slot.unset).toArray = ls at hl ⊢
  replace hl : lv_has ls 10 [(0, .ref (a 0)), (1, .int p0), (2, .int p1), (3, .int p2)] := hl
  have kc_72 := hts (.constant RX7 72 (65535)) (zmem 1 rfl)
  have kwX7 : ∀ w ∈ u_ws RX7 TX7 9, w ∈ wsX7_sow := fun w h => List.mem_cons_of_mem _ (List.mem_append_left _ (List.mem_append_left _ (List.mem_append_right _ (List.mem_cons_of_mem _ (List.mem_append_left _ (List.mem_append_right _ h))))))
  have kf_74 := hts (.fieldLink RX7 74 "Divisorwork" "acts" "I") (zmem 3 rfl)
  have kc_73 := hts (.constant RX7 73 (65536)) (zmem 2 rfl)
  replace h : (zb2 (p_X7_rowOf p0) (fun cd1 r2 => (if cd1 = 0 then (zb1 (p_X7_need p1 (0 : Int32) (65535 : Int32)) (fun cd4 => (if cd4 = 0 then (zb1 (p_X7_need p2 (0 : Int32) (500 : Int32)) (fun cd6 => (if cd6 = 0 then (p_X7_sow_L0 F p2 r2 (fun v6_0 v7_0 v8_0 RL0 => (some (0, v7_0, RL0, (ac + (1 : Int32))))) F p1 (0 : Int32) (1 : Int32) R) else (some (cd6, (0 : Int32), R, ac))))) else (some (cd4, (0 : Int32), R, ac))))) else (some (cd1, (0 : Int32), R, ac))))) = some (cd, r, R', ac') := h
  refine zabs (fun G hG hGW => ?_)
  obtain ⟨H, hHe⟩ : ∃ H, H = s.heap := ⟨_, rfl⟩
  rw [← hHe] at hP
  replace hS : va_S A s.heap H [] := by rw [hHe]; exact hS
  refine zheap hHe ?_
  refine lv_aload_n hx hb dX7_sow_0 rfl (lv_at hl 0 rfl) ?_
  refine lv_iload_n hx hb dX7_sow_1 rfl (lv_at hl 1 rfl) ?_
  obtain ⟨cd1, r2, e3, h⟩ := zb2_some h
  refine zxgor (vx_runV (As := [.int p0]) (rest := []) ⟨hx, hb, hml, hown, hts⟩ (c_X7_rowOf l D a cJ cI cO cB R b pr tm cn sm ac re kn p0 cd1 r2 hlt e3 H.size) (cwV 1 hts gX7_sow_X7_rowOf rfl rfl rfl hdV_X7_rowOf ⟨Nat.le_of_ble_eq_true rfl, Nat.le_of_ble_eq_true rfl⟩) (zxpreV hE hS (zfree hD hS hA) (q0 := 0) (ci := 7) (T := TX7) (N := 9) hK hP hD rfl rfl [.int p0]) rfl rfl hl.1 rfl (lv_room (Nat.le_of_ble_eq_true rfl)) dX7_sow_2 ⟨Nat.le_of_ble_eq_true rfl, Nat.le_of_ble_eq_true rfl⟩) (zfree hD hS hA) (zjW hD hS hA) hS (fun k02 => ?_) (fun k02 H locs hP hD hS => ?_)
  · replace h := zif_f h k02
    have g0 := Option.some.inj h
    obtain ⟨h1, g1⟩ := Prod.mk.inj g0
    obtain ⟨h2, g2⟩ := Prod.mk.inj g1
    obtain ⟨h3, g3⟩ := Prod.mk.inj g2
    subst h1
    subst h2
    subst h3
    subst g3
    exact zxout hnt hlocks k02 hK (Nat.le_of_ble_eq_true rfl) (Nat.le_of_ble_eq_true rfl) k02
  · replace h := zif_t h k02
    replace hP : va_P D vwCl (cW a cJ cI cO R b pr tm cn sm ac re kn) H := hP
    replace hD : va_D A (cW a cJ cI cO R b pr tm cn sm ac re kn) := hD
    refine lv_astore (lv' := [(4, .ref (a (2 + r2))), (0, .ref (a 0)), (1, .int p0), (2, .int p1), (3, .int p2)]) hx hb dX7_sow_5 hl (by decide) rfl (fun ls hl => ?_)
    refine lv_iload_n hx hb dX7_sow_7 rfl (lv_at hl 3 rfl) ?_
    refine lv_iconst (v := (0 : Int32)) hx hb dX7_sow_8 (by decide) ?_
    refine lv_ldc hx hb hown kc_72 dX7_sow_9 ?_
    obtain ⟨cd4, e5, h⟩ := zb1_some h
    refine zxgov (vx_runS (As := [.int p1, .int (0 : Int32), .int (65535 : Int32)]) (rest := []) ⟨hx, hb, hml, hown, hts⟩ (c_X7_need l D cJ cI cO cB p1 (0 : Int32) (65535 : Int32) cd4 hlt e5 H.size) (va_cwS 3 hts gX7_sow_X7_need rfl rfl rfl hdS_X7_need ⟨Nat.le_of_ble_eq_true rfl, Nat.le_of_ble_eq_true rfl⟩) (zxpreS hE hS (zf0 hS hA) hK zP0 (zD0 (A := A)) [.int p1, .int (0 : Int32), .int (65535 : Int32)]) rfl rfl hl.1 rfl (lv_room (Nat.le_of_ble_eq_true rfl)) dX7_sow_11 ⟨Nat.le_of_ble_eq_true rfl, Nat.le_of_ble_eq_true rfl⟩) (zf0 hS hA) (zjE hP hD) hS (fun k011 => ?_) (fun k011 H locs hP hD hS => ?_)
    · replace h := zif_f h k011
      have g0 := Option.some.inj h
      obtain ⟨h1, g1⟩ := Prod.mk.inj g0
      obtain ⟨h2, g2⟩ := Prod.mk.inj g1
      obtain ⟨h3, g3⟩ := Prod.mk.inj g2
      subst h1
      subst h2
      subst h3
      subst g3
      exact zxout hnt hlocks k011 hK (Nat.le_of_ble_eq_true rfl) (Nat.le_of_ble_eq_true rfl) k011
    · replace h := zif_t h k011
      refine lv_iload_n hx hb dX7_sow_14 rfl (lv_at hl 4 rfl) ?_
      refine lv_iconst (v := (0 : Int32)) hx hb dX7_sow_15 (by decide) ?_
      refine lv_sipush (v := (500 : Int32)) hx hb dX7_sow_16 (by decide) ?_
      obtain ⟨cd6, e7, h⟩ := zb1_some h
      refine zxgov (vx_runS (As := [.int p2, .int (0 : Int32), .int (500 : Int32)]) (rest := []) ⟨hx, hb, hml, hown, hts⟩ (c_X7_need l D cJ cI cO cB p2 (0 : Int32) (500 : Int32) cd6 hlt e7 H.size) (va_cwS 3 hts gX7_sow_X7_need rfl rfl rfl hdS_X7_need ⟨Nat.le_of_ble_eq_true rfl, Nat.le_of_ble_eq_true rfl⟩) (zxpreS hE hS (zf0 hS hA) hK zP0 (zD0 (A := A)) [.int p2, .int (0 : Int32), .int (500 : Int32)]) rfl rfl hl.1 rfl (lv_room (Nat.le_of_ble_eq_true rfl)) dX7_sow_19 ⟨Nat.le_of_ble_eq_true rfl, Nat.le_of_ble_eq_true rfl⟩) (zf0 hS hA) (zjE hP hD) hS (fun k019 => ?_) (fun k019 H locs hP hD hS => ?_)
      · replace h := zif_f h k019
        have g0 := Option.some.inj h
        obtain ⟨h1, g1⟩ := Prod.mk.inj g0
        obtain ⟨h2, g2⟩ := Prod.mk.inj g1
        obtain ⟨h3, g3⟩ := Prod.mk.inj g2
        subst h1
        subst h2
        subst h3
        subst g3
        exact zxout hnt hlocks k019 hK (Nat.le_of_ble_eq_true rfl) (Nat.le_of_ble_eq_true rfl) k019
      · replace h := zif_t h k019
        refine lv_iconst (v := (2 : Int32)) hx hb dX7_sow_22 (by decide) ?_
        refine lv_iload_n hx hb dX7_sow_23 rfl (lv_at hl 4 rfl) ?_
        refine lv_imul hx hb dX7_sow_24 ?_
        refine lv_iconst (v := (1 : Int32)) hx hb dX7_sow_25 (by decide) ?_
        refine lv_iadd hx hb dX7_sow_26 ?_
        refine lv_istore (lv' := [(5, .int (((2 : Int32) * p2) + (1 : Int32))), (4, .ref (a (2 + r2))), (0, .ref (a 0)), (1, .int p0), (2, .int p1), (3, .int p2)]) hx hb dX7_sow_27 hl (by decide) rfl (fun ls hl => ?_)
        refine lv_iload_n hx hb dX7_sow_29 rfl (lv_at hl 4 rfl) ?_
        refine lv_istore (lv' := [(6, .int p1), (5, .int (((2 : Int32) * p2) + (1 : Int32))), (4, .ref (a (2 + r2))), (0, .ref (a 0)), (1, .int p0), (2, .int p1), (3, .int p2)]) hx hb dX7_sow_30 hl (by decide) rfl (fun ls hl => ?_)
        refine lv_iconst (v := (0 : Int32)) hx hb dX7_sow_32 (by decide) ?_
        refine lv_istore (lv' := [(7, .int (0 : Int32)), (6, .int p1), (5, .int (((2 : Int32) * p2) + (1 : Int32))), (4, .ref (a (2 + r2))), (0, .ref (a 0)), (1, .int p0), (2, .int p1), (3, .int p2)]) hx hb dX7_sow_33 hl (by decide) rfl (fun ls hl => ?_)
        refine lv_iconst (v := (1 : Int32)) hx hb dX7_sow_35 (by decide) ?_
        refine lv_istore (lv' := [(8, .int (1 : Int32)), (7, .int (0 : Int32)), (6, .int p1), (5, .int (((2 : Int32) * p2) + (1 : Int32))), (4, .ref (a (2 + r2))), (0, .ref (a 0)), (1, .int p0), (2, .int p1), (3, .int p2)]) hx hb dX7_sow_36 hl (by decide) rfl (fun ls hl => ?_)
        have X0 : ∀ (v6_0 : Int32) (v7_0 : Int32) (v8_0 : Int32) (RL0 : Nat → Nat → Int64) (H : Heap) (locs : List Loc) (ls : Array Slot), va_P D vwCl (cW a cJ cI cO RL0 b pr tm cn sm ac re kn) H → va_D A (cW a cJ cI cO RL0 b pr tm cn sm ac re kn) → va_S A s.heap H locs → lv_has ls 10 [(0, .ref (a 0)), (1, .int p0), (2, .int p1), (3, .int p2), (4, .ref (a (2 + r2))), (5, .int (((2 : Int32) * p2) + (1 : Int32))), (6, .int v6_0), (7, .int v7_0), (8, .int v8_0)] → (some (0, v7_0, RL0, (ac + (1 : Int32)))) = some (cd, r, R', ac') → G H locs 3 18 (F0 m 112 ls []) := by
          intro v6_0 v7_0 v8_0 RL0 H locs ls hP hD hS hl h
          refine hG _ _ _ _ _ ?_
          refine lv_aload_n hx hb dX7_sow_112 rfl (lv_at hl 0 rfl) ?_
          refine lv_dup hx hb dX7_sow_113 rfl ?_
          refine va_get (D := D) (ci := 7) (v := .int ac) (C := RX7) (T := TX7) (N := 9) hx hb hts kwX7 hown hK hP 0 rfl rfl 6 (by decide) kf_74 (fun _ h9 => h9) rfl dX7_sow_114 ?_
          refine lv_iconst (v := (1 : Int32)) hx hb dX7_sow_117 (by decide) ?_
          refine lv_iadd hx hb dX7_sow_118 ?_
          refine va_put (D := D) (ci := 7) (v := .int (ac + (1 : Int32))) (ty := .int) (C := RX7) (T := TX7) (N := 9) hx hb hts kwX7 tyX7 tyX7_ok nmX7 hown hK hP hD hS 0 rfl rfl 6 (by decide) kf_74 (fun _ h9 => h9) rfl rfl rfl rfl (Nat.le_of_ble_eq_true rfl) dX7_sow_119 (fun H locs hP hD hS => ?_)
          replace hP : va_P D vwCl (cW a cJ cI cO RL0 b pr tm cn sm (ac + (1 : Int32)) re kn) H := hP
          replace hD : va_D A (cW a cJ cI cO RL0 b pr tm cn sm (ac + (1 : Int32)) re kn) := hD
          refine lv_iload hx hb dX7_sow_122 (lv_at hl 7 rfl) ?_
          have g0 := Option.some.inj h
          obtain ⟨h1, g1⟩ := Prod.mk.inj g0
          obtain ⟨h2, g2⟩ := Prod.mk.inj g1
          obtain ⟨h3, g3⟩ := Prod.mk.inj g2
          subst h1
          subst h2
          subst h3
          subst g3
          refine vx_ret ?_
          exact W.iret (v := v7_0) hx hb hr (fun t ht hW => ⟨⟨v7_0, (), rfl, ⟨rfl, rfl⟩, by rw [ht]; exact hP, va_K.moved hW.alike hK, hD⟩, hS.F ht⟩) hS.2.2 dX7_sow_124
        have L0 : ∀ (K0 : Int32 → Int32 → Int32 → (Nat → Nat → Int64) → Option (Nat × Int32 × (Nat → Nat → Int64) × Int32)) (HX0 : ∀ (v6_0 : Int32) (v7_0 : Int32) (v8_0 : Int32) (RL0 : Nat → Nat → Int64) (H : Heap) (locs : List Loc) (ls : Array Slot), va_P D vwCl (cW a cJ cI cO RL0 b pr tm cn sm ac re kn) H → va_D A (cW a cJ cI cO RL0 b pr tm cn sm ac re kn) → va_S A s.heap H locs → lv_has ls 10 [(0, .ref (a 0)), (1, .int p0), (2, .int p1), (3, .int p2), (4, .ref (a (2 + r2))), (5, .int (((2 : Int32) * p2) + (1 : Int32))), (6, .int v6_0), (7, .int v7_0), (8, .int v8_0)] → K0 v6_0 v7_0 v8_0 RL0 = some (cd, r, R', ac') → G H locs 3 18 (F0 m 112 ls [])) (fu0 : Nat) (v6_0 : Int32) (v7_0 : Int32) (v8_0 : Int32) (RL0 : Nat → Nat → Int64) (H : Heap) (locs : List Loc) (ls : Array Slot), va_P D vwCl (cW a cJ cI cO RL0 b pr tm cn sm ac re kn) H → va_D A (cW a cJ cI cO RL0 b pr tm cn sm ac re kn) → va_S A s.heap H locs → lv_has ls 10 [(0, .ref (a 0)), (1, .int p0), (2, .int p1), (3, .int p2), (4, .ref (a (2 + r2))), (5, .int (((2 : Int32) * p2) + (1 : Int32))), (6, .int v6_0), (7, .int v7_0), (8, .int v8_0)] → p_X7_sow_L0 F p2 r2 K0 fu0 v6_0 v7_0 v8_0 RL0 = some (cd, r, R', ac') → G H locs 3 18 (F0 m 38 ls []) := by
          intro K0 HX0 fu0
          induction fu0 with
          | zero =>
            intro v6_0 v7_0 v8_0 RL0 H locs ls hP hD hS hl h
            exact (zno h).elim
          | succ fu0 ih0 =>
            intro v6_0 v7_0 v8_0 RL0 H locs ls hP hD hS hl h
            refine hG _ _ _ _ _ ?_
            unfold p_X7_sow_L0 at h
            refine lv_iload hx hb dX7_sow_38 (lv_at hl 8 rfl) ?_
            refine lv_bipush (v := (120 : Int32)) hx hb dX7_sow_40 (by decide) ?_
            refine lv_icmp_gt (tgt := 112) hx hb dX7_sow_42 (by decide) (fun c42 => ?_) (fun c42 => ?_)
            · replace h := zif_t h c42
              exact hGW _ _ _ _ _ (HX0 v6_0 v7_0 v8_0 RL0 _ _ ls hP hD hS (lv_sub hl [0, 1, 2, 3, 4, 5, 6, 7, 8] rfl) h)
            · replace h := zif_f h c42
              refine lv_iload hx hb dX7_sow_45 (lv_at hl 6 rfl) ?_
              refine lv_sipush (v := (25173 : Int32)) hx hb dX7_sow_47 (by decide) ?_
              refine lv_imul hx hb dX7_sow_50 ?_
              refine lv_sipush (v := (13849 : Int32)) hx hb dX7_sow_51 (by decide) ?_
              refine lv_iadd hx hb dX7_sow_54 ?_
              refine lv_ldc hx hb hown kc_73 dX7_sow_55 ?_
              refine lv_irem hx hb dX7_sow_57 (by decide) ?_
              refine lv_istore (lv' := [(6, .int (zr ((v6_0 * (25173 : Int32)) + (13849 : Int32)) (65536 : Int32))), (0, .ref (a 0)), (1, .int p0), (2, .int p1), (3, .int p2), (4, .ref (a (2 + r2))), (5, .int (((2 : Int32) * p2) + (1 : Int32))), (7, .int v7_0), (8, .int v8_0)]) hx hb dX7_sow_58 hl (by decide) rfl (fun ls hl => ?_)
              refine lv_iload hx hb dX7_sow_60 (lv_at hl 6 rfl) ?_
              have J0 : ∀ (s0j0 : Int32) (H : Heap) (locs : List Loc) (ls : Array Slot), va_P D vwCl (cW a cJ cI cO RL0 b pr tm cn sm ac re kn) H → va_D A (cW a cJ cI cO RL0 b pr tm cn sm ac re kn) → va_S A s.heap H locs → lv_has ls 10 [(0, .ref (a 0)), (1, .int p0), (2, .int p1), (3, .int p2), (4, .ref (a (2 + r2))), (5, .int (((2 : Int32) * p2) + (1 : Int32))), (6, .int (zr ((v6_0 * (25173 : Int32)) + (13849 : Int32)) (65536 : Int32))), (7, .int v7_0), (8, .int v8_0)] → (if ¬ (s0j0 - p2) = 0 then (zb1 (p_X4_lay RL0 r2 v8_0 ((s0j0 - p2).toInt64)) (fun R_8 => (p_X7_sow_L0 F p2 r2 K0 fu0 (zr ((v6_0 * (25173 : Int32)) + (13849 : Int32)) (65536 : Int32)) (v7_0 + (0 : Int32)) (v8_0 + (1 : Int32)) R_8))) else (zb1 (p_X4_lay RL0 r2 v8_0 ((s0j0 - p2).toInt64)) (fun R_10 => (p_X7_sow_L0 F p2 r2 K0 fu0 (zr ((v6_0 * (25173 : Int32)) + (13849 : Int32)) (65536 : Int32)) (v7_0 + (1 : Int32)) (v8_0 + (1 : Int32)) R_10)))) = some (cd, r, R', ac') → G H locs 3 18 (F0 m 77 ls [.int s0j0]) := by
                intro s0j0 H locs ls hP hD hS hl h
                refine hG _ _ _ _ _ ?_
                refine lv_iload_n hx hb dX7_sow_77 rfl (lv_at hl 3 rfl) ?_
                refine lv_isub hx hb dX7_sow_78 ?_
                refine lv_istore (lv' := [(9, .int (s0j0 - p2)), (0, .ref (a 0)), (1, .int p0), (2, .int p1), (3, .int p2), (4, .ref (a (2 + r2))), (5, .int (((2 : Int32) * p2) + (1 : Int32))), (6, .int (zr ((v6_0 * (25173 : Int32)) + (13849 : Int32)) (65536 : Int32))), (7, .int v7_0), (8, .int v8_0)]) hx hb dX7_sow_79 hl (by decide) rfl (fun ls hl => ?_)
                refine lv_iload hx hb dX7_sow_81 (lv_at hl 8 rfl) ?_
                refine lv_iload hx hb dX7_sow_83 (lv_at hl 0 rfl) ?_
                refine lv_if_ne (tgt := 92) hx hb dX7_sow_85 (by decide) (fun c85 => ?_) (fun c85 => ?_)
                · replace h := zif_t h c85
                  refine lv_iconst (v := (0 : Int32)) hx hb dX7_sow_92 (by decide) ?_
                  refine lv_iadd hx hb dX7_sow_93 ?_
                  refine lv_istore (lv' := [(7, .int (v7_0 + (0 : Int32))), (9, .int (s0j0 - p2)), (0, .ref (a 0)), (1, .int p0), (2, .int p1), (3, .int p2), (4, .ref (a (2 + r2))), (5, .int (((2 : Int32) * p2) + (1 : Int32))), (6, .int (zr ((v6_0 * (25173 : Int32)) + (13849 : Int32)) (65536 : Int32))), (8, .int v8_0)]) hx hb dX7_sow_94 hl (by decide) rfl (fun ls hl => ?_)
                  refine lv_aload hx hb dX7_sow_96 (lv_at hl 6 rfl) ?_
                  refine lv_iload hx hb dX7_sow_98 (lv_at hl 9 rfl) ?_
                  refine lv_iload hx hb dX7_sow_100 (lv_at hl 1 rfl) ?_
                  refine lv_i2l (v := (s0j0 - p2).toInt64) hx hb dX7_sow_102 rfl ?_
                  obtain ⟨R_8, e9, h⟩ := zb1_some h
                  refine zgov (va_runV (As := [.int v8_0, .long ((s0j0 - p2).toInt64)]) (rest := []) ⟨hx, hb, hml, hown, hts⟩ (c_X4_lay l D a cJ cI cO cB RL0 b pr tm cn sm ac re kn r2 v8_0 ((s0j0 - p2).toInt64) (zrow_lt e3 k02) R_8 e9 H.size) (cwV 2 hts gX7_sow_X4_lay rfl rfl rfl hdV_X4_lay ⟨Nat.le_of_ble_eq_true rfl, Nat.le_of_ble_eq_true rfl⟩) (zpreV (q0 := 2 + r2) (ci := 6) (T := TX4) (N := 1) hK hP hD (cW_row (zrow_lt e3 k02)) rfl [.int v8_0, .long ((s0j0 - p2).toInt64)]) rfl rfl hl.1 rfl (lv_room (Nat.le_of_ble_eq_true rfl)) dX7_sow_103 ⟨Nat.le_of_ble_eq_true rfl, Nat.le_of_ble_eq_true rfl⟩) (zfree hD hS hA) (zjW hD hS hA) hS (fun H locs hP hD hS => ?_)
                  replace hP : va_P D vwCl (cW a cJ cI cO R_8 b pr tm cn sm ac re kn) H := hP
                  replace hD : va_D A (cW a cJ cI cO R_8 b pr tm cn sm ac re kn) := hD
                  refine lv_iinc (v := (v8_0 + (1 : Int32))) (lv' := [(8, .int (v8_0 + (1 : Int32))), (7, .int (v7_0 + (0 : Int32))), (9, .int (s0j0 - p2)), (0, .ref (a 0)), (1, .int p0), (2, .int p1), (3, .int p2), (4, .ref (a (2 + r2))), (5, .int (((2 : Int32) * p2) + (1 : Int32))), (6, .int (zr ((v6_0 * (25173 : Int32)) + (13849 : Int32)) (65536 : Int32)))]) hx hb dX7_sow_106 hl (k := 9) rfl rfl (by decide) rfl (fun ls hl => ?_)
                  refine lv_goto (tgt := 38) hx hb dX7_sow_109 (by decide) ?_
                  exact hGW _ _ _ _ _ (ih0 (zr ((v6_0 * (25173 : Int32)) + (13849 : Int32)) (65536 : Int32)) (v7_0 + (0 : Int32)) (v8_0 + (1 : Int32)) R_8 _ _ ls hP hD hS (lv_sub hl [3, 4, 5, 6, 7, 8, 9, 1, 0] rfl) h)
                · replace h := zif_fn h c85
                  refine lv_iconst (v := (1 : Int32)) hx hb dX7_sow_88 (by decide) ?_
                  refine lv_goto (tgt := 93) hx hb dX7_sow_89 (by decide) ?_
                  refine lv_iadd hx hb dX7_sow_93 ?_
                  refine lv_istore (lv' := [(7, .int (v7_0 + (1 : Int32))), (9, .int (s0j0 - p2)), (0, .ref (a 0)), (1, .int p0), (2, .int p1), (3, .int p2), (4, .ref (a (2 + r2))), (5, .int (((2 : Int32) * p2) + (1 : Int32))), (6, .int (zr ((v6_0 * (25173 : Int32)) + (13849 : Int32)) (65536 : Int32))), (8, .int v8_0)]) hx hb dX7_sow_94 hl (by decide) rfl (fun ls hl => ?_)
                  refine lv_aload hx hb dX7_sow_96 (lv_at hl 6 rfl) ?_
                  refine lv_iload hx hb dX7_sow_98 (lv_at hl 9 rfl) ?_
                  refine lv_iload hx hb dX7_sow_100 (lv_at hl 1 rfl) ?_
                  refine lv_i2l (v := (s0j0 - p2).toInt64) hx hb dX7_sow_102 rfl ?_
                  obtain ⟨R_10, e11, h⟩ := zb1_some h
                  refine zgov (va_runV (As := [.int v8_0, .long ((s0j0 - p2).toInt64)]) (rest := []) ⟨hx, hb, hml, hown, hts⟩ (c_X4_lay l D a cJ cI cO cB RL0 b pr tm cn sm ac re kn r2 v8_0 ((s0j0 - p2).toInt64) (zrow_lt e3 k02) R_10 e11 H.size) (cwV 2 hts gX7_sow_X4_lay rfl rfl rfl hdV_X4_lay ⟨Nat.le_of_ble_eq_true rfl, Nat.le_of_ble_eq_true rfl⟩) (zpreV (q0 := 2 + r2) (ci := 6) (T := TX4) (N := 1) hK hP hD (cW_row (zrow_lt e3 k02)) rfl [.int v8_0, .long ((s0j0 - p2).toInt64)]) rfl rfl hl.1 rfl (lv_room (Nat.le_of_ble_eq_true rfl)) dX7_sow_103 ⟨Nat.le_of_ble_eq_true rfl, Nat.le_of_ble_eq_true rfl⟩) (zfree hD hS hA) (zjW hD hS hA) hS (fun H locs hP hD hS => ?_)
                  replace hP : va_P D vwCl (cW a cJ cI cO R_10 b pr tm cn sm ac re kn) H := hP
                  replace hD : va_D A (cW a cJ cI cO R_10 b pr tm cn sm ac re kn) := hD
                  refine lv_iinc (v := (v8_0 + (1 : Int32))) (lv' := [(8, .int (v8_0 + (1 : Int32))), (7, .int (v7_0 + (1 : Int32))), (9, .int (s0j0 - p2)), (0, .ref (a 0)), (1, .int p0), (2, .int p1), (3, .int p2), (4, .ref (a (2 + r2))), (5, .int (((2 : Int32) * p2) + (1 : Int32))), (6, .int (zr ((v6_0 * (25173 : Int32)) + (13849 : Int32)) (65536 : Int32)))]) hx hb dX7_sow_106 hl (k := 9) rfl rfl (by decide) rfl (fun ls hl => ?_)
                  refine lv_goto (tgt := 38) hx hb dX7_sow_109 (by decide) ?_
                  exact hGW _ _ _ _ _ (ih0 (zr ((v6_0 * (25173 : Int32)) + (13849 : Int32)) (65536 : Int32)) (v7_0 + (1 : Int32)) (v8_0 + (1 : Int32)) R_10 _ _ ls hP hD hS (lv_sub hl [3, 4, 5, 6, 7, 8, 9, 1, 0] rfl) h)
              replace h := zlt_h h
              refine lv_if_le (tgt := 76) hx hb dX7_sow_62 (by decide) (fun c62 => ?_) (fun c62 => ?_)
              · replace h := zif_t h c62
                refine lv_iconst (v := (0 : Int32)) hx hb dX7_sow_76 (by decide) ?_
                exact hGW _ _ _ _ _ (J0 (0 : Int32) _ _ ls hP hD hS (lv_sub hl [1, 2, 3, 4, 5, 6, 0, 7, 8] rfl) h)
              · replace h := zif_f h c62
                refine lv_iload hx hb dX7_sow_65 (lv_at hl 0 rfl) ?_
                refine lv_bipush (v := (64 : Int32)) hx hb dX7_sow_67 (by decide) ?_
                refine lv_idiv hx hb dX7_sow_69 (by decide) ?_
                refine lv_iload hx hb dX7_sow_70 (lv_at hl 6 rfl) ?_
                obtain ⟨z72, h⟩ := zg_some h
                refine lv_irem hx hb dX7_sow_72 z72 ?_
                refine lv_goto (tgt := 77) hx hb dX7_sow_73 (by decide) ?_
                exact hGW _ _ _ _ _ (J0 (zr ((zr ((v6_0 * (25173 : Int32)) + (13849 : Int32)) (65536 : Int32)) / (64 : Int32)) (((2 : Int32) * p2) + (1 : Int32))) _ _ ls hP hD hS (lv_sub hl [1, 2, 3, 4, 5, 6, 0, 7, 8] rfl) h)
        exact hGW _ _ _ _ _ (L0 _ X0 F p1 (0 : Int32) (1 : Int32) R _ _ ls hP hD hS (lv_sub hl [5, 6, 7, 8, 4, 3, 2, 1, 0] rfl) h)

noncomputable def p_X7_copy (F : Nat) (R : Nat → Nat → Int64) (ac : Int32) (p0 : Int32) (p1 : Int32) : Option (Nat × Int32 × (Nat → Nat → Int64) × Int32) := (zb2 (p_X7_rowOf p0) (fun cd1 r2 => (if cd1 = 0 then (zb2 (p_X7_rowOf p1) (fun cd4 r5 => (if cd4 = 0 then (zb2 (p_X4_takeFrom F R r5 r2) (fun r7 R_8 => (some (0, r7, R_8, (ac + (1 : Int32)))))) else (some (cd4, (0 : Int32), R, ac))))) else (some (cd1, (0 : Int32), R, ac)))))
theorem hdV_X7_copy : yX7_copy.cls = RX7 ∧ yX7_copy.cls ≠ "java/lang/invoke/MethodHandle" ∧ yX7_copy.cls ≠ "java/lang/invoke/VarHandle" ∧ (parseMethodDescriptor yX7_copy.desc).map (fun d => d.parameters.length) = some 2 := by decide +kernel
set_option maxHeartbeats 4000000 in
set_option maxRecDepth 100000 in
theorem c_X7_copy (l : Launch) (D : va_G) (a : Nat → Nat) (cJ cI cO cB : ClassId) (R : Nat → Nat → Int64) (b : Bool) (pr : Nat → Int32) (tm : Nat → Int32) (cn : Int32) (sm : Nat → Int32) (ac : Int32) (re : Int32) (kn : Int32) (F : Nat) (p0 : Int32) (p1 : Int32) (cd : Nat) (r : Int32) (R' : Nat → Nat → Int64) (ac' : Int32) (hlt : l.stackTraces = false) (h : p_X7_copy F R ac p0 p1 = some (cd, r, R', ac')) : zMxi l yX7_copy wsX7_copy 7 111 2 12 D (zT cJ cI cO cB) [.ref (a 0), .int p0, .int p1] (cW a cJ cI cO R b pr tm cn sm ac re kn) (cW a cJ cI cO R' b pr tm cn sm ac' re kn) cd r := by
  intro sz
  delta zQxi zX
  refine vx_ofW (cc := cX7_copy) (maxL := 5) (ret := (some .int)) (by decide) rfl ?_
  intro p e s m args below meth c s₁ B hml hnt hv
  obtain ⟨rfl, ⟨hsz, hP, hK, hD0⟩, hE⟩ := hv
  have hx := B.exec
  have hb := B.bytes
  have hr := B.returns
  have hts := atoms_spec (ws := wsX7_copy) B.pre
  have hown : s.vm.findClass RX7 = some m.cls := findClass_of_methodNamed B.named
  have hlocks := B.notSynchronized
  subst hsz
  have hD := hD0.self (sz := s.heap.size)
  generalize hAe : va_A (cW a cJ cI cO R b pr tm cn sm ac re kn) s.heap.size = A at hD hE ⊢
  have hA : ∀ q : Nat, s.heap.size ≤ q → A q := fun q h => by rw [← hAe]; exact Or.inr h
  have hS : va_S A s.heap s.heap [] := va_S.rf
  have hl := lv_entry ([.ref (a 0), .int p0, .int p1]) (n := 5) (Nat.le_of_ble_eq_true rfl)
  rw [lg_entry_eq]
  generalize (lg_sl ([.ref (a 0), .int p0, .int p1]) ++ List.replicate (5 - (lg_sl ([.ref (a 0), .int p0, .int p1])).length) Slot.unset).toArray = ls at hl ⊢
  replace hl : lv_has ls 5 [(0, .ref (a 0)), (1, .int p0), (2, .int p1)] := hl
  have kwX7 : ∀ w ∈ u_ws RX7 TX7 9, w ∈ wsX7_copy := fun w h => List.mem_cons_of_mem _ (List.mem_append_left _ (List.mem_append_right _ (List.mem_cons_of_mem _ (List.mem_append_left _ (List.mem_append_right _ h)))))
  have kf_74 := hts (.fieldLink RX7 74 "Divisorwork" "acts" "I") (zmem 1 rfl)
  replace h : (zb2 (p_X7_rowOf p0) (fun cd1 r2 => (if cd1 = 0 then (zb2 (p_X7_rowOf p1) (fun cd4 r5 => (if cd4 = 0 then (zb2 (p_X4_takeFrom F R r5 r2) (fun r7 R_8 => (some (0, r7, R_8, (ac + (1 : Int32)))))) else (some (cd4, (0 : Int32), R, ac))))) else (some (cd1, (0 : Int32), R, ac))))) = some (cd, r, R', ac') := h
  obtain ⟨H, hHe⟩ : ∃ H, H = s.heap := ⟨_, rfl⟩
  rw [← hHe] at hP
  replace hS : va_S A s.heap H [] := by rw [hHe]; exact hS
  refine zheap hHe ?_
  refine lv_aload_n hx hb dX7_copy_0 rfl (lv_at hl 0 rfl) ?_
  refine lv_iload_n hx hb dX7_copy_1 rfl (lv_at hl 1 rfl) ?_
  obtain ⟨cd1, r2, e3, h⟩ := zb2_some h
  refine zxgor (vx_runV (As := [.int p0]) (rest := []) ⟨hx, hb, hml, hown, hts⟩ (c_X7_rowOf l D a cJ cI cO cB R b pr tm cn sm ac re kn p0 cd1 r2 hlt e3 H.size) (cwV 1 hts gX7_copy_X7_rowOf rfl rfl rfl hdV_X7_rowOf ⟨Nat.le_of_ble_eq_true rfl, Nat.le_of_ble_eq_true rfl⟩) (zxpreV hE hS (zfree hD hS hA) (q0 := 0) (ci := 7) (T := TX7) (N := 9) hK hP hD rfl rfl [.int p0]) rfl rfl hl.1 rfl (lv_room (Nat.le_of_ble_eq_true rfl)) dX7_copy_2 ⟨Nat.le_of_ble_eq_true rfl, Nat.le_of_ble_eq_true rfl⟩) (zfree hD hS hA) (zjW hD hS hA) hS (fun k02 => ?_) (fun k02 H locs hP hD hS => ?_)
  · replace h := zif_f h k02
    have g0 := Option.some.inj h
    obtain ⟨h1, g1⟩ := Prod.mk.inj g0
    obtain ⟨h2, g2⟩ := Prod.mk.inj g1
    obtain ⟨h3, g3⟩ := Prod.mk.inj g2
    subst h1
    subst h2
    subst h3
    subst g3
    exact zxout hnt hlocks k02 hK (Nat.le_of_ble_eq_true rfl) (Nat.le_of_ble_eq_true rfl) k02
  · replace h := zif_t h k02
    replace hP : va_P D vwCl (cW a cJ cI cO R b pr tm cn sm ac re kn) H := hP
    replace hD : va_D A (cW a cJ cI cO R b pr tm cn sm ac re kn) := hD
    refine lv_astore_n (lv' := [(3, .ref (a (2 + r2))), (0, .ref (a 0)), (1, .int p0), (2, .int p1)]) hx hb dX7_copy_5 rfl hl (by decide) rfl (fun ls hl => ?_)
    refine lv_aload_n hx hb dX7_copy_6 rfl (lv_at hl 1 rfl) ?_
    refine lv_iload_n hx hb dX7_copy_7 rfl (lv_at hl 3 rfl) ?_
    obtain ⟨cd4, r5, e6, h⟩ := zb2_some h
    refine zxgor (vx_runV (As := [.int p1]) (rest := []) ⟨hx, hb, hml, hown, hts⟩ (c_X7_rowOf l D a cJ cI cO cB R b pr tm cn sm ac re kn p1 cd4 r5 hlt e6 H.size) (cwV 1 hts gX7_copy_X7_rowOf rfl rfl rfl hdV_X7_rowOf ⟨Nat.le_of_ble_eq_true rfl, Nat.le_of_ble_eq_true rfl⟩) (zxpreV hE hS (zfree hD hS hA) (q0 := 0) (ci := 7) (T := TX7) (N := 9) hK hP hD rfl rfl [.int p1]) rfl rfl hl.1 rfl (lv_room (Nat.le_of_ble_eq_true rfl)) dX7_copy_8 ⟨Nat.le_of_ble_eq_true rfl, Nat.le_of_ble_eq_true rfl⟩) (zfree hD hS hA) (zjW hD hS hA) hS (fun k08 => ?_) (fun k08 H locs hP hD hS => ?_)
    · replace h := zif_f h k08
      have g0 := Option.some.inj h
      obtain ⟨h1, g1⟩ := Prod.mk.inj g0
      obtain ⟨h2, g2⟩ := Prod.mk.inj g1
      obtain ⟨h3, g3⟩ := Prod.mk.inj g2
      subst h1
      subst h2
      subst h3
      subst g3
      exact zxout hnt hlocks k08 hK (Nat.le_of_ble_eq_true rfl) (Nat.le_of_ble_eq_true rfl) k08
    · replace h := zif_t h k08
      replace hP : va_P D vwCl (cW a cJ cI cO R b pr tm cn sm ac re kn) H := hP
      replace hD : va_D A (cW a cJ cI cO R b pr tm cn sm ac re kn) := hD
      refine lv_astore (lv' := [(4, .ref (a (2 + r5))), (3, .ref (a (2 + r2))), (0, .ref (a 0)), (1, .int p0), (2, .int p1)]) hx hb dX7_copy_11 hl (by decide) rfl (fun ls hl => ?_)
      refine lv_aload_n hx hb dX7_copy_13 rfl (lv_at hl 2 rfl) ?_
      refine lv_dup hx hb dX7_copy_14 rfl ?_
      refine va_get (D := D) (ci := 7) (v := .int ac) (C := RX7) (T := TX7) (N := 9) hx hb hts kwX7 hown hK hP 0 rfl rfl 6 (by decide) kf_74 (fun _ h9 => h9) rfl dX7_copy_15 ?_
      refine lv_iconst (v := (1 : Int32)) hx hb dX7_copy_18 (by decide) ?_
      refine lv_iadd hx hb dX7_copy_19 ?_
      refine va_put (D := D) (ci := 7) (v := .int (ac + (1 : Int32))) (ty := .int) (C := RX7) (T := TX7) (N := 9) hx hb hts kwX7 tyX7 tyX7_ok nmX7 hown hK hP hD hS 0 rfl rfl 6 (by decide) kf_74 (fun _ h9 => h9) rfl rfl rfl rfl (Nat.le_of_ble_eq_true rfl) dX7_copy_20 (fun H locs hP hD hS => ?_)
      replace hP : va_P D vwCl (cW a cJ cI cO R b pr tm cn sm (ac + (1 : Int32)) re kn) H := hP
      replace hD : va_D A (cW a cJ cI cO R b pr tm cn sm (ac + (1 : Int32)) re kn) := hD
      refine lv_aload hx hb dX7_copy_23 (lv_at hl 0 rfl) ?_
      refine lv_aload_n hx hb dX7_copy_25 rfl (lv_at hl 1 rfl) ?_
      obtain ⟨r7, R_8, e9, h⟩ := zb2_some h
      refine zgoi (va_runV (As := [.ref (a (2 + r2))]) (rest := []) ⟨hx, hb, hml, hown, hts⟩ (c_X4_takeFrom l D a cJ cI cO cB R b pr tm cn sm (ac + (1 : Int32)) re kn F r5 r2 (zrow_lt e6 k08) (zrow_lt e3 k02) r7 R_8 e9 H.size) (cwV 1 hts gX7_copy_X4_takeFrom rfl rfl rfl hdV_X4_takeFrom ⟨Nat.le_of_ble_eq_true rfl, Nat.le_of_ble_eq_true rfl⟩) (zpreV (q0 := 2 + r5) (ci := 6) (T := TX4) (N := 1) hK hP hD (cW_row (zrow_lt e6 k08)) rfl [.ref (a (2 + r2))]) rfl rfl hl.1 rfl (lv_room (Nat.le_of_ble_eq_true rfl)) dX7_copy_26 ⟨Nat.le_of_ble_eq_true rfl, Nat.le_of_ble_eq_true rfl⟩) (zfree hD hS hA) (zjW hD hS hA) hS (fun H locs hP hD hS => ?_)
      replace hP : va_P D vwCl (cW a cJ cI cO R_8 b pr tm cn sm (ac + (1 : Int32)) re kn) H := hP
      replace hD : va_D A (cW a cJ cI cO R_8 b pr tm cn sm (ac + (1 : Int32)) re kn) := hD
      have g0 := Option.some.inj h
      obtain ⟨h1, g1⟩ := Prod.mk.inj g0
      obtain ⟨h2, g2⟩ := Prod.mk.inj g1
      obtain ⟨h3, g3⟩ := Prod.mk.inj g2
      subst h1
      subst h2
      subst h3
      subst g3
      refine vx_ret ?_
      exact W.iret (v := r7) hx hb hr (fun t ht hW => ⟨⟨r7, (), rfl, ⟨rfl, rfl⟩, by rw [ht]; exact hP, va_K.moved hW.alike hK, hD⟩, hS.F ht⟩) hS.2.2 dX7_copy_29

noncomputable def p_X7_swap (F : Nat) (R : Nat → Nat → Int64) (ac : Int32) (p0 : Int32) (p1 : Int32) : Option (Nat × Int32 × (Nat → Nat → Int64) × Int32) := (zb2 (p_X7_rowOf p0) (fun cd1 r2 => (if cd1 = 0 then (zb2 (p_X7_rowOf p1) (fun cd4 r5 => (if cd4 = 0 then (zb1 (p_X4_countUnlike F R r2 r5) (fun r7 => (zb1 (p_X4_exchange F R r2 r5) (fun R_9 => (some (0, r7, R_9, (ac + (1 : Int32)))))))) else (some (cd4, (0 : Int32), R, ac))))) else (some (cd1, (0 : Int32), R, ac)))))
theorem hdV_X7_swap : yX7_swap.cls = RX7 ∧ yX7_swap.cls ≠ "java/lang/invoke/MethodHandle" ∧ yX7_swap.cls ≠ "java/lang/invoke/VarHandle" ∧ (parseMethodDescriptor yX7_swap.desc).map (fun d => d.parameters.length) = some 2 := by decide +kernel
set_option maxHeartbeats 4000000 in
set_option maxRecDepth 100000 in
theorem c_X7_swap (l : Launch) (D : va_G) (a : Nat → Nat) (cJ cI cO cB : ClassId) (R : Nat → Nat → Int64) (b : Bool) (pr : Nat → Int32) (tm : Nat → Int32) (cn : Int32) (sm : Nat → Int32) (ac : Int32) (re : Int32) (kn : Int32) (F : Nat) (p0 : Int32) (p1 : Int32) (cd : Nat) (r : Int32) (R' : Nat → Nat → Int64) (ac' : Int32) (hlt : l.stackTraces = false) (h : p_X7_swap F R ac p0 p1 = some (cd, r, R', ac')) : zMxi l yX7_swap wsX7_swap 7 111 2 12 D (zT cJ cI cO cB) [.ref (a 0), .int p0, .int p1] (cW a cJ cI cO R b pr tm cn sm ac re kn) (cW a cJ cI cO R' b pr tm cn sm ac' re kn) cd r := by
  intro sz
  delta zQxi zX
  refine vx_ofW (cc := cX7_swap) (maxL := 6) (ret := (some .int)) (by decide) rfl ?_
  intro p e s m args below meth c s₁ B hml hnt hv
  obtain ⟨rfl, ⟨hsz, hP, hK, hD0⟩, hE⟩ := hv
  have hx := B.exec
  have hb := B.bytes
  have hr := B.returns
  have hts := atoms_spec (ws := wsX7_swap) B.pre
  have hown : s.vm.findClass RX7 = some m.cls := findClass_of_methodNamed B.named
  have hlocks := B.notSynchronized
  subst hsz
  have hD := hD0.self (sz := s.heap.size)
  generalize hAe : va_A (cW a cJ cI cO R b pr tm cn sm ac re kn) s.heap.size = A at hD hE ⊢
  have hA : ∀ q : Nat, s.heap.size ≤ q → A q := fun q h => by rw [← hAe]; exact Or.inr h
  have hS : va_S A s.heap s.heap [] := va_S.rf
  have hl := lv_entry ([.ref (a 0), .int p0, .int p1]) (n := 6) (Nat.le_of_ble_eq_true rfl)
  rw [lg_entry_eq]
  generalize (lg_sl ([.ref (a 0), .int p0, .int p1]) ++ List.replicate (6 - (lg_sl ([.ref (a 0), .int p0, .int p1])).length) Slot.unset).toArray = ls at hl ⊢
  replace hl : lv_has ls 6 [(0, .ref (a 0)), (1, .int p0), (2, .int p1)] := hl
  have kwX7 : ∀ w ∈ u_ws RX7 TX7 9, w ∈ wsX7_swap := fun w h => List.mem_cons_of_mem _ (List.mem_append_left _ (List.mem_append_left _ (List.mem_append_right _ (List.mem_cons_of_mem _ (List.mem_append_left _ (List.mem_append_right _ h))))))
  have kf_74 := hts (.fieldLink RX7 74 "Divisorwork" "acts" "I") (zmem 1 rfl)
  replace h : (zb2 (p_X7_rowOf p0) (fun cd1 r2 => (if cd1 = 0 then (zb2 (p_X7_rowOf p1) (fun cd4 r5 => (if cd4 = 0 then (zb1 (p_X4_countUnlike F R r2 r5) (fun r7 => (zb1 (p_X4_exchange F R r2 r5) (fun R_9 => (some (0, r7, R_9, (ac + (1 : Int32)))))))) else (some (cd4, (0 : Int32), R, ac))))) else (some (cd1, (0 : Int32), R, ac))))) = some (cd, r, R', ac') := h
  obtain ⟨H, hHe⟩ : ∃ H, H = s.heap := ⟨_, rfl⟩
  rw [← hHe] at hP
  replace hS : va_S A s.heap H [] := by rw [hHe]; exact hS
  refine zheap hHe ?_
  refine lv_aload_n hx hb dX7_swap_0 rfl (lv_at hl 0 rfl) ?_
  refine lv_iload_n hx hb dX7_swap_1 rfl (lv_at hl 1 rfl) ?_
  obtain ⟨cd1, r2, e3, h⟩ := zb2_some h
  refine zxgor (vx_runV (As := [.int p0]) (rest := []) ⟨hx, hb, hml, hown, hts⟩ (c_X7_rowOf l D a cJ cI cO cB R b pr tm cn sm ac re kn p0 cd1 r2 hlt e3 H.size) (cwV 1 hts gX7_swap_X7_rowOf rfl rfl rfl hdV_X7_rowOf ⟨Nat.le_of_ble_eq_true rfl, Nat.le_of_ble_eq_true rfl⟩) (zxpreV hE hS (zfree hD hS hA) (q0 := 0) (ci := 7) (T := TX7) (N := 9) hK hP hD rfl rfl [.int p0]) rfl rfl hl.1 rfl (lv_room (Nat.le_of_ble_eq_true rfl)) dX7_swap_2 ⟨Nat.le_of_ble_eq_true rfl, Nat.le_of_ble_eq_true rfl⟩) (zfree hD hS hA) (zjW hD hS hA) hS (fun k02 => ?_) (fun k02 H locs hP hD hS => ?_)
  · replace h := zif_f h k02
    have g0 := Option.some.inj h
    obtain ⟨h1, g1⟩ := Prod.mk.inj g0
    obtain ⟨h2, g2⟩ := Prod.mk.inj g1
    obtain ⟨h3, g3⟩ := Prod.mk.inj g2
    subst h1
    subst h2
    subst h3
    subst g3
    exact zxout hnt hlocks k02 hK (Nat.le_of_ble_eq_true rfl) (Nat.le_of_ble_eq_true rfl) k02
  · replace h := zif_t h k02
    replace hP : va_P D vwCl (cW a cJ cI cO R b pr tm cn sm ac re kn) H := hP
    replace hD : va_D A (cW a cJ cI cO R b pr tm cn sm ac re kn) := hD
    refine lv_astore_n (lv' := [(3, .ref (a (2 + r2))), (0, .ref (a 0)), (1, .int p0), (2, .int p1)]) hx hb dX7_swap_5 rfl hl (by decide) rfl (fun ls hl => ?_)
    refine lv_aload_n hx hb dX7_swap_6 rfl (lv_at hl 1 rfl) ?_
    refine lv_iload_n hx hb dX7_swap_7 rfl (lv_at hl 3 rfl) ?_
    obtain ⟨cd4, r5, e6, h⟩ := zb2_some h
    refine zxgor (vx_runV (As := [.int p1]) (rest := []) ⟨hx, hb, hml, hown, hts⟩ (c_X7_rowOf l D a cJ cI cO cB R b pr tm cn sm ac re kn p1 cd4 r5 hlt e6 H.size) (cwV 1 hts gX7_swap_X7_rowOf rfl rfl rfl hdV_X7_rowOf ⟨Nat.le_of_ble_eq_true rfl, Nat.le_of_ble_eq_true rfl⟩) (zxpreV hE hS (zfree hD hS hA) (q0 := 0) (ci := 7) (T := TX7) (N := 9) hK hP hD rfl rfl [.int p1]) rfl rfl hl.1 rfl (lv_room (Nat.le_of_ble_eq_true rfl)) dX7_swap_8 ⟨Nat.le_of_ble_eq_true rfl, Nat.le_of_ble_eq_true rfl⟩) (zfree hD hS hA) (zjW hD hS hA) hS (fun k08 => ?_) (fun k08 H locs hP hD hS => ?_)
    · replace h := zif_f h k08
      have g0 := Option.some.inj h
      obtain ⟨h1, g1⟩ := Prod.mk.inj g0
      obtain ⟨h2, g2⟩ := Prod.mk.inj g1
      obtain ⟨h3, g3⟩ := Prod.mk.inj g2
      subst h1
      subst h2
      subst h3
      subst g3
      exact zxout hnt hlocks k08 hK (Nat.le_of_ble_eq_true rfl) (Nat.le_of_ble_eq_true rfl) k08
    · replace h := zif_t h k08
      replace hP : va_P D vwCl (cW a cJ cI cO R b pr tm cn sm ac re kn) H := hP
      replace hD : va_D A (cW a cJ cI cO R b pr tm cn sm ac re kn) := hD
      refine lv_astore (lv' := [(4, .ref (a (2 + r5))), (3, .ref (a (2 + r2))), (0, .ref (a 0)), (1, .int p0), (2, .int p1)]) hx hb dX7_swap_11 hl (by decide) rfl (fun ls hl => ?_)
      refine lv_aload_n hx hb dX7_swap_13 rfl (lv_at hl 1 rfl) ?_
      refine lv_aload hx hb dX7_swap_14 (lv_at hl 0 rfl) ?_
      obtain ⟨r7, e8, h⟩ := zb1_some h
      refine zgoi (va_runV (As := [.ref (a (2 + r5))]) (rest := []) ⟨hx, hb, hml, hown, hts⟩ (c_X4_countUnlike l D a cJ cI cO cB R b pr tm cn sm ac re kn F r2 r5 (zrow_lt e3 k02) (zrow_lt e6 k08) r7 e8 H.size) (cwV 1 hts gX7_swap_X4_countUnlike rfl rfl rfl hdV_X4_countUnlike ⟨Nat.le_of_ble_eq_true rfl, Nat.le_of_ble_eq_true rfl⟩) (zpreV (q0 := 2 + r2) (ci := 6) (T := TX4) (N := 1) hK hP hD (cW_row (zrow_lt e3 k02)) rfl [.ref (a (2 + r5))]) rfl rfl hl.1 rfl (lv_room (Nat.le_of_ble_eq_true rfl)) dX7_swap_16 ⟨Nat.le_of_ble_eq_true rfl, Nat.le_of_ble_eq_true rfl⟩) (zfree hD hS hA) (zjW hD hS hA) hS (fun H locs hP hD hS => ?_)
      replace hP : va_P D vwCl (cW a cJ cI cO R b pr tm cn sm ac re kn) H := hP
      replace hD : va_D A (cW a cJ cI cO R b pr tm cn sm ac re kn) := hD
      refine lv_istore (lv' := [(5, .int r7), (4, .ref (a (2 + r5))), (3, .ref (a (2 + r2))), (0, .ref (a 0)), (1, .int p0), (2, .int p1)]) hx hb dX7_swap_19 hl (by decide) rfl (fun ls hl => ?_)
      refine lv_aload_n hx hb dX7_swap_21 rfl (lv_at hl 2 rfl) ?_
      refine lv_aload hx hb dX7_swap_22 (lv_at hl 1 rfl) ?_
      obtain ⟨R_9, e10, h⟩ := zb1_some h
      refine zgov (va_runV (As := [.ref (a (2 + r5))]) (rest := []) ⟨hx, hb, hml, hown, hts⟩ (c_X4_exchange l D a cJ cI cO cB R b pr tm cn sm ac re kn F r2 r5 (zrow_lt e3 k02) (zrow_lt e6 k08) R_9 e10 H.size) (cwV 1 hts gX7_swap_X4_exchange rfl rfl rfl hdV_X4_exchange ⟨Nat.le_of_ble_eq_true rfl, Nat.le_of_ble_eq_true rfl⟩) (zpreV (q0 := 2 + r2) (ci := 6) (T := TX4) (N := 1) hK hP hD (cW_row (zrow_lt e3 k02)) rfl [.ref (a (2 + r5))]) rfl rfl hl.1 rfl (lv_room (Nat.le_of_ble_eq_true rfl)) dX7_swap_24 ⟨Nat.le_of_ble_eq_true rfl, Nat.le_of_ble_eq_true rfl⟩) (zfree hD hS hA) (zjW hD hS hA) hS (fun H locs hP hD hS => ?_)
      replace hP : va_P D vwCl (cW a cJ cI cO R_9 b pr tm cn sm ac re kn) H := hP
      replace hD : va_D A (cW a cJ cI cO R_9 b pr tm cn sm ac re kn) := hD
      refine lv_aload_n hx hb dX7_swap_27 rfl (lv_at hl 3 rfl) ?_
      refine lv_dup hx hb dX7_swap_28 rfl ?_
      refine va_get (D := D) (ci := 7) (v := .int ac) (C := RX7) (T := TX7) (N := 9) hx hb hts kwX7 hown hK hP 0 rfl rfl 6 (by decide) kf_74 (fun _ h9 => h9) rfl dX7_swap_29 ?_
      refine lv_iconst (v := (1 : Int32)) hx hb dX7_swap_32 (by decide) ?_
      refine lv_iadd hx hb dX7_swap_33 ?_
      refine va_put (D := D) (ci := 7) (v := .int (ac + (1 : Int32))) (ty := .int) (C := RX7) (T := TX7) (N := 9) hx hb hts kwX7 tyX7 tyX7_ok nmX7 hown hK hP hD hS 0 rfl rfl 6 (by decide) kf_74 (fun _ h9 => h9) rfl rfl rfl rfl (Nat.le_of_ble_eq_true rfl) dX7_swap_34 (fun H locs hP hD hS => ?_)
      replace hP : va_P D vwCl (cW a cJ cI cO R_9 b pr tm cn sm (ac + (1 : Int32)) re kn) H := hP
      replace hD : va_D A (cW a cJ cI cO R_9 b pr tm cn sm (ac + (1 : Int32)) re kn) := hD
      refine lv_iload hx hb dX7_swap_37 (lv_at hl 0 rfl) ?_
      have g0 := Option.some.inj h
      obtain ⟨h1, g1⟩ := Prod.mk.inj g0
      obtain ⟨h2, g2⟩ := Prod.mk.inj g1
      obtain ⟨h3, g3⟩ := Prod.mk.inj g2
      subst h1
      subst h2
      subst h3
      subst g3
      refine vx_ret ?_
      exact W.iret (v := r7) hx hb hr (fun t ht hW => ⟨⟨r7, (), rfl, ⟨rfl, rfl⟩, by rw [ht]; exact hP, va_K.moved hW.alike hK, hD⟩, hS.F ht⟩) hS.2.2 dX7_swap_39

noncomputable def p_X7_refuse (re : Int32) : Option (Int32 × Int32) := (some ((-9 : Int32), (re + (1 : Int32))))
theorem hdV_X7_refuse : yX7_refuse.cls = RX7 ∧ yX7_refuse.cls ≠ "java/lang/invoke/MethodHandle" ∧ yX7_refuse.cls ≠ "java/lang/invoke/VarHandle" ∧ (parseMethodDescriptor yX7_refuse.desc).map (fun d => d.parameters.length) = some 0 := by decide +kernel
set_option maxHeartbeats 4000000 in
set_option maxRecDepth 100000 in
theorem c_X7_refuse (l : Launch) (D : va_G) (a : Nat → Nat) (cJ cI cO cB : ClassId) (R : Nat → Nat → Int64) (b : Bool) (pr : Nat → Int32) (tm : Nat → Int32) (cn : Int32) (sm : Nat → Int32) (ac : Int32) (re : Int32) (kn : Int32) (r : Int32) (re' : Int32) (h : p_X7_refuse re = some (r, re')) : zMi l yX7_refuse wsX7_refuse 0 0 0 0 D (zT cJ cI cO cB) [.ref (a 0)] (cW a cJ cI cO R b pr tm cn sm ac re kn) (cW a cJ cI cO R b pr tm cn sm ac re' kn) r := by
  intro sz
  delta zQi
  refine Met.ofW (cc := cX7_refuse) (maxL := 1) (ret := (some .int)) (by decide) rfl ?_
  intro p e s m args below meth c s₁ B hml hv
  obtain ⟨rfl, hsz, hP, hK, hD0⟩ := hv
  have hx := B.exec
  have hb := B.bytes
  have hr := B.returns
  have hts := atoms_spec (ws := wsX7_refuse) B.pre
  have hown : s.vm.findClass RX7 = some m.cls := findClass_of_methodNamed B.named
  have hlocks := B.notSynchronized
  subst hsz
  have hD := hD0.self (sz := s.heap.size)
  generalize hAe : va_A (cW a cJ cI cO R b pr tm cn sm ac re kn) s.heap.size = A at hD ⊢
  have hA : ∀ q : Nat, s.heap.size ≤ q → A q := fun q h => by rw [← hAe]; exact Or.inr h
  have hS : va_S A s.heap s.heap [] := va_S.rf
  have hl := lv_entry ([.ref (a 0)]) (n := 1) (Nat.le_of_ble_eq_true rfl)
  rw [lg_entry_eq]
  generalize (lg_sl ([.ref (a 0)]) ++ List.replicate (1 - (lg_sl ([.ref (a 0)])).length) Slot.unset).toArray = ls at hl ⊢
  replace hl : lv_has ls 1 [(0, .ref (a 0))] := hl
  have kwX7 : ∀ w ∈ u_ws RX7 TX7 9, w ∈ wsX7_refuse := fun w h => List.mem_cons_of_mem _ (List.mem_append_right _ h)
  have kf_240 := hts (.fieldLink RX7 240 "Divisorwork" "refusals" "I") (zmem 1 rfl)
  replace h : (some ((-9 : Int32), (re + (1 : Int32)))) = some (r, re') := h
  obtain ⟨H, hHe⟩ : ∃ H, H = s.heap := ⟨_, rfl⟩
  rw [← hHe] at hP
  replace hS : va_S A s.heap H [] := by rw [hHe]; exact hS
  refine zheap hHe ?_
  refine lv_aload_n hx hb dX7_refuse_0 rfl (lv_at hl 0 rfl) ?_
  refine lv_dup hx hb dX7_refuse_1 rfl ?_
  refine va_get (D := D) (ci := 7) (v := .int re) (C := RX7) (T := TX7) (N := 9) hx hb hts kwX7 hown hK hP 0 rfl rfl 7 (by decide) kf_240 (fun _ h9 => h9) rfl dX7_refuse_2 ?_
  refine lv_iconst (v := (1 : Int32)) hx hb dX7_refuse_5 (by decide) ?_
  refine lv_iadd hx hb dX7_refuse_6 ?_
  refine va_put (D := D) (ci := 7) (v := .int (re + (1 : Int32))) (ty := .int) (C := RX7) (T := TX7) (N := 9) hx hb hts kwX7 tyX7 tyX7_ok nmX7 hown hK hP hD hS 0 rfl rfl 7 (by decide) kf_240 (fun _ h9 => h9) rfl rfl rfl rfl (Nat.le_of_ble_eq_true rfl) dX7_refuse_7 (fun H locs hP hD hS => ?_)
  replace hP : va_P D vwCl (cW a cJ cI cO R b pr tm cn sm ac (re + (1 : Int32)) kn) H := hP
  replace hD : va_D A (cW a cJ cI cO R b pr tm cn sm ac (re + (1 : Int32)) kn) := hD
  refine lv_bipush (v := (-9 : Int32)) hx hb dX7_refuse_10 (by decide) ?_
  have g0 := Option.some.inj h
  obtain ⟨h1, g1⟩ := Prod.mk.inj g0
  subst h1
  subst g1
  exact W.iret (v := (-9 : Int32)) hx hb hr (fun t ht hW => ⟨⟨(-9 : Int32), (), rfl, rfl, by rw [ht]; exact hP, va_K.moved hW.alike hK, hD⟩, hS.F ht⟩) hS.2.2 dX7_refuse_12

noncomputable def p_X7_meet (F : Nat) (R : Nat → Nat → Int64) (b : Bool) (ac : Int32) (re : Int32) (p0 : Int32) (p1 : Int32) (p2 : Int32) (p3 : Int32) : Option (Nat × Int32 × (Nat → Nat → Int64) × Bool × Int32 × Int32) := (zb2 (p_X7_rowOf p0) (fun cd1 r2 => (if cd1 = 0 then (zb2 (p_X7_rowOf p1) (fun cd4 r5 => (if cd4 = 0 then (zb2 (p_X7_rowOf p3) (fun cd7 r8 => (if cd7 = 0 then (zb1 (p_X7_need p2 (0 : Int32) (2 : Int32)) (fun cd10 => (if cd10 = 0 then (zb3 (p_X0_layMet F R p2 r2 r5 4) (fun r12 R_13 b_14 => (if (z01 r12) = 0 then (zb2 (p_X7_refuse re) (fun r16 re_17 => (some (0, r16, R_13, b_14, ac, re_17)))) else (zb3 (p_X7_become F R_13 ac r8) (fun r19 R_20 ac_21 => (some (0, r19, R_20, b_14, ac_21, re))))))) else (some (cd10, (0 : Int32), R, b, ac, re))))) else (some (cd7, (0 : Int32), R, b, ac, re))))) else (some (cd4, (0 : Int32), R, b, ac, re))))) else (some (cd1, (0 : Int32), R, b, ac, re)))))
theorem hdV_X7_meet : yX7_meet.cls = RX7 ∧ yX7_meet.cls ≠ "java/lang/invoke/MethodHandle" ∧ yX7_meet.cls ≠ "java/lang/invoke/VarHandle" ∧ (parseMethodDescriptor yX7_meet.desc).map (fun d => d.parameters.length) = some 4 := by decide +kernel
set_option maxHeartbeats 4000000 in
set_option maxRecDepth 100000 in
theorem c_X7_meet (l : Launch) (D : va_G) (a : Nat → Nat) (cJ cI cO cB : ClassId) (R : Nat → Nat → Int64) (b : Bool) (pr : Nat → Int32) (tm : Nat → Int32) (cn : Int32) (sm : Nat → Int32) (ac : Int32) (re : Int32) (kn : Int32) (F : Nat) (p0 : Int32) (p1 : Int32) (p2 : Int32) (p3 : Int32) (cd : Nat) (r : Int32) (R' : Nat → Nat → Int64) (b' : Bool) (ac' : Int32) (re' : Int32) (hlt : l.stackTraces = false) (h : p_X7_meet F R b ac re p0 p1 p2 p3 = some (cd, r, R', b', ac', re')) : zMxi l yX7_meet wsX7_meet 7 112 4 24 D (zT cJ cI cO cB) [.ref (a 0), .int p0, .int p1, .int p2, .int p3] (cW a cJ cI cO R b pr tm cn sm ac re kn) (cW a cJ cI cO R' b' pr tm cn sm ac' re' kn) cd r := by
  intro sz
  delta zQxi zX
  refine vx_ofW (cc := cX7_meet) (maxL := 8) (ret := (some .int)) (by decide) rfl ?_
  intro p e s m args below meth c s₁ B hml hnt hv
  obtain ⟨rfl, ⟨hsz, hP, hK, hD0⟩, hE⟩ := hv
  have hx := B.exec
  have hb := B.bytes
  have hr := B.returns
  have hts := atoms_spec (ws := wsX7_meet) B.pre
  have hown : s.vm.findClass RX7 = some m.cls := findClass_of_methodNamed B.named
  have hlocks := B.notSynchronized
  subst hsz
  have hD := hD0.self (sz := s.heap.size)
  generalize hAe : va_A (cW a cJ cI cO R b pr tm cn sm ac re kn) s.heap.size = A at hD hE ⊢
  have hA : ∀ q : Nat, s.heap.size ≤ q → A q := fun q h => by rw [← hAe]; exact Or.inr h
  have hS : va_S A s.heap s.heap [] := va_S.rf
  have hl := lv_entry ([.ref (a 0), .int p0, .int p1, .int p2, .int p3]) (n := 8) (Nat.le_of_ble_eq_true rfl)
  rw [lg_entry_eq]
  generalize (lg_sl ([.ref (a 0), .int p0, .int p1, .int p2, .int p3]) ++ List.replicate (8 - (lg_sl ([.ref (a 0), .int p0, .int p1, .int p2, .int p3])).length) Slot.unset).toArray = ls at hl ⊢
  replace hl : lv_has ls 8 [(0, .ref (a 0)), (1, .int p0), (2, .int p1), (3, .int p2), (4, .int p3)] := hl
  have kwX7 : ∀ w ∈ u_ws RX7 TX7 9, w ∈ wsX7_meet := fun w h => List.mem_cons_of_mem _ (List.mem_append_left _ (List.mem_append_left _ (List.mem_append_left _ (List.mem_append_left _ (List.mem_append_right _ (List.mem_cons_of_mem _ (List.mem_append_left _ (List.mem_append_right _ h))))))))
  have kf_16 := hts (.fieldLink RX7 16 "Divisorwork" "scratch" "LDivisorwork$Row;") (List.mem_cons_of_mem _ (List.mem_append_left _ (List.mem_append_right _ (zmem 2 rfl))))
  have kf_42 := hts (.fieldLink RX7 42 "Divisorwork" "maker" "LDivisorwork$Maker;") (zmem 1 rfl)
  replace h : (zb2 (p_X7_rowOf p0) (fun cd1 r2 => (if cd1 = 0 then (zb2 (p_X7_rowOf p1) (fun cd4 r5 => (if cd4 = 0 then (zb2 (p_X7_rowOf p3) (fun cd7 r8 => (if cd7 = 0 then (zb1 (p_X7_need p2 (0 : Int32) (2 : Int32)) (fun cd10 => (if cd10 = 0 then (zb3 (p_X0_layMet F R p2 r2 r5 4) (fun r12 R_13 b_14 => (if (z01 r12) = 0 then (zb2 (p_X7_refuse re) (fun r16 re_17 => (some (0, r16, R_13, b_14, ac, re_17)))) else (zb3 (p_X7_become F R_13 ac r8) (fun r19 R_20 ac_21 => (some (0, r19, R_20, b_14, ac_21, re))))))) else (some (cd10, (0 : Int32), R, b, ac, re))))) else (some (cd7, (0 : Int32), R, b, ac, re))))) else (some (cd4, (0 : Int32), R, b, ac, re))))) else (some (cd1, (0 : Int32), R, b, ac, re))))) = some (cd, r, R', b', ac', re') := h
  obtain ⟨H, hHe⟩ : ∃ H, H = s.heap := ⟨_, rfl⟩
  rw [← hHe] at hP
  replace hS : va_S A s.heap H [] := by rw [hHe]; exact hS
  refine zheap hHe ?_
  refine lv_aload_n hx hb dX7_meet_0 rfl (lv_at hl 0 rfl) ?_
  refine lv_iload_n hx hb dX7_meet_1 rfl (lv_at hl 1 rfl) ?_
  obtain ⟨cd1, r2, e3, h⟩ := zb2_some h
  refine zxgor (vx_runV (As := [.int p0]) (rest := []) ⟨hx, hb, hml, hown, hts⟩ (c_X7_rowOf l D a cJ cI cO cB R b pr tm cn sm ac re kn p0 cd1 r2 hlt e3 H.size) (cwV 1 hts gX7_meet_X7_rowOf rfl rfl rfl hdV_X7_rowOf ⟨Nat.le_of_ble_eq_true rfl, Nat.le_of_ble_eq_true rfl⟩) (zxpreV hE hS (zfree hD hS hA) (q0 := 0) (ci := 7) (T := TX7) (N := 9) hK hP hD rfl rfl [.int p0]) rfl rfl hl.1 rfl (lv_room (Nat.le_of_ble_eq_true rfl)) dX7_meet_2 ⟨Nat.le_of_ble_eq_true rfl, Nat.le_of_ble_eq_true rfl⟩) (zfree hD hS hA) (zjW hD hS hA) hS (fun k02 => ?_) (fun k02 H locs hP hD hS => ?_)
  · replace h := zif_f h k02
    have g0 := Option.some.inj h
    obtain ⟨h1, g1⟩ := Prod.mk.inj g0
    obtain ⟨h2, g2⟩ := Prod.mk.inj g1
    obtain ⟨h3, g3⟩ := Prod.mk.inj g2
    obtain ⟨h4, g4⟩ := Prod.mk.inj g3
    obtain ⟨h5, g5⟩ := Prod.mk.inj g4
    subst h1
    subst h2
    subst h3
    subst h4
    subst h5
    subst g5
    exact zxout hnt hlocks k02 hK (Nat.le_of_ble_eq_true rfl) (Nat.le_of_ble_eq_true rfl) k02
  · replace h := zif_t h k02
    replace hP : va_P D vwCl (cW a cJ cI cO R b pr tm cn sm ac re kn) H := hP
    replace hD : va_D A (cW a cJ cI cO R b pr tm cn sm ac re kn) := hD
    refine lv_astore (lv' := [(5, .ref (a (2 + r2))), (0, .ref (a 0)), (1, .int p0), (2, .int p1), (3, .int p2), (4, .int p3)]) hx hb dX7_meet_5 hl (by decide) rfl (fun ls hl => ?_)
    refine lv_aload_n hx hb dX7_meet_7 rfl (lv_at hl 1 rfl) ?_
    refine lv_iload_n hx hb dX7_meet_8 rfl (lv_at hl 3 rfl) ?_
    obtain ⟨cd4, r5, e6, h⟩ := zb2_some h
    refine zxgor (vx_runV (As := [.int p1]) (rest := []) ⟨hx, hb, hml, hown, hts⟩ (c_X7_rowOf l D a cJ cI cO cB R b pr tm cn sm ac re kn p1 cd4 r5 hlt e6 H.size) (cwV 1 hts gX7_meet_X7_rowOf rfl rfl rfl hdV_X7_rowOf ⟨Nat.le_of_ble_eq_true rfl, Nat.le_of_ble_eq_true rfl⟩) (zxpreV hE hS (zfree hD hS hA) (q0 := 0) (ci := 7) (T := TX7) (N := 9) hK hP hD rfl rfl [.int p1]) rfl rfl hl.1 rfl (lv_room (Nat.le_of_ble_eq_true rfl)) dX7_meet_9 ⟨Nat.le_of_ble_eq_true rfl, Nat.le_of_ble_eq_true rfl⟩) (zfree hD hS hA) (zjW hD hS hA) hS (fun k09 => ?_) (fun k09 H locs hP hD hS => ?_)
    · replace h := zif_f h k09
      have g0 := Option.some.inj h
      obtain ⟨h1, g1⟩ := Prod.mk.inj g0
      obtain ⟨h2, g2⟩ := Prod.mk.inj g1
      obtain ⟨h3, g3⟩ := Prod.mk.inj g2
      obtain ⟨h4, g4⟩ := Prod.mk.inj g3
      obtain ⟨h5, g5⟩ := Prod.mk.inj g4
      subst h1
      subst h2
      subst h3
      subst h4
      subst h5
      subst g5
      exact zxout hnt hlocks k09 hK (Nat.le_of_ble_eq_true rfl) (Nat.le_of_ble_eq_true rfl) k09
    · replace h := zif_t h k09
      replace hP : va_P D vwCl (cW a cJ cI cO R b pr tm cn sm ac re kn) H := hP
      replace hD : va_D A (cW a cJ cI cO R b pr tm cn sm ac re kn) := hD
      refine lv_astore (lv' := [(6, .ref (a (2 + r5))), (5, .ref (a (2 + r2))), (0, .ref (a 0)), (1, .int p0), (2, .int p1), (3, .int p2), (4, .int p3)]) hx hb dX7_meet_12 hl (by decide) rfl (fun ls hl => ?_)
      refine lv_aload_n hx hb dX7_meet_14 rfl (lv_at hl 2 rfl) ?_
      refine lv_iload hx hb dX7_meet_15 (lv_at hl 6 rfl) ?_
      obtain ⟨cd7, r8, e9, h⟩ := zb2_some h
      refine zxgor (vx_runV (As := [.int p3]) (rest := []) ⟨hx, hb, hml, hown, hts⟩ (c_X7_rowOf l D a cJ cI cO cB R b pr tm cn sm ac re kn p3 cd7 r8 hlt e9 H.size) (cwV 1 hts gX7_meet_X7_rowOf rfl rfl rfl hdV_X7_rowOf ⟨Nat.le_of_ble_eq_true rfl, Nat.le_of_ble_eq_true rfl⟩) (zxpreV hE hS (zfree hD hS hA) (q0 := 0) (ci := 7) (T := TX7) (N := 9) hK hP hD rfl rfl [.int p3]) rfl rfl hl.1 rfl (lv_room (Nat.le_of_ble_eq_true rfl)) dX7_meet_17 ⟨Nat.le_of_ble_eq_true rfl, Nat.le_of_ble_eq_true rfl⟩) (zfree hD hS hA) (zjW hD hS hA) hS (fun k017 => ?_) (fun k017 H locs hP hD hS => ?_)
      · replace h := zif_f h k017
        have g0 := Option.some.inj h
        obtain ⟨h1, g1⟩ := Prod.mk.inj g0
        obtain ⟨h2, g2⟩ := Prod.mk.inj g1
        obtain ⟨h3, g3⟩ := Prod.mk.inj g2
        obtain ⟨h4, g4⟩ := Prod.mk.inj g3
        obtain ⟨h5, g5⟩ := Prod.mk.inj g4
        subst h1
        subst h2
        subst h3
        subst h4
        subst h5
        subst g5
        exact zxout hnt hlocks k017 hK (Nat.le_of_ble_eq_true rfl) (Nat.le_of_ble_eq_true rfl) k017
      · replace h := zif_t h k017
        replace hP : va_P D vwCl (cW a cJ cI cO R b pr tm cn sm ac re kn) H := hP
        replace hD : va_D A (cW a cJ cI cO R b pr tm cn sm ac re kn) := hD
        refine lv_astore (lv' := [(7, .ref (a (2 + r8))), (6, .ref (a (2 + r5))), (5, .ref (a (2 + r2))), (0, .ref (a 0)), (1, .int p0), (2, .int p1), (3, .int p2), (4, .int p3)]) hx hb dX7_meet_20 hl (by decide) rfl (fun ls hl => ?_)
        refine lv_iload_n hx hb dX7_meet_22 rfl (lv_at hl 6 rfl) ?_
        refine lv_iconst (v := (0 : Int32)) hx hb dX7_meet_23 (by decide) ?_
        refine lv_iconst (v := (2 : Int32)) hx hb dX7_meet_24 (by decide) ?_
        obtain ⟨cd10, e11, h⟩ := zb1_some h
        refine zxgov (vx_runS (As := [.int p2, .int (0 : Int32), .int (2 : Int32)]) (rest := []) ⟨hx, hb, hml, hown, hts⟩ (c_X7_need l D cJ cI cO cB p2 (0 : Int32) (2 : Int32) cd10 hlt e11 H.size) (va_cwS 3 hts gX7_meet_X7_need rfl rfl rfl hdS_X7_need ⟨Nat.le_of_ble_eq_true rfl, Nat.le_of_ble_eq_true rfl⟩) (zxpreS hE hS (zf0 hS hA) hK zP0 (zD0 (A := A)) [.int p2, .int (0 : Int32), .int (2 : Int32)]) rfl rfl hl.1 rfl (lv_room (Nat.le_of_ble_eq_true rfl)) dX7_meet_25 ⟨Nat.le_of_ble_eq_true rfl, Nat.le_of_ble_eq_true rfl⟩) (zf0 hS hA) (zjE hP hD) hS (fun k025 => ?_) (fun k025 H locs hP hD hS => ?_)
        · replace h := zif_f h k025
          have g0 := Option.some.inj h
          obtain ⟨h1, g1⟩ := Prod.mk.inj g0
          obtain ⟨h2, g2⟩ := Prod.mk.inj g1
          obtain ⟨h3, g3⟩ := Prod.mk.inj g2
          obtain ⟨h4, g4⟩ := Prod.mk.inj g3
          obtain ⟨h5, g5⟩ := Prod.mk.inj g4
          subst h1
          subst h2
          subst h3
          subst h4
          subst h5
          subst g5
          exact zxout hnt hlocks k025 hK (Nat.le_of_ble_eq_true rfl) (Nat.le_of_ble_eq_true rfl) k025
        · replace h := zif_t h k025
          refine lv_aload_n hx hb dX7_meet_28 rfl (lv_at hl 3 rfl) ?_
          refine va_get (D := D) (ci := 7) (v := .ref (a 16)) (C := RX7) (T := TX7) (N := 9) hx hb hts kwX7 hown hK hP 0 rfl rfl 5 (by decide) kf_42 (fun _ h9 => h9) rfl dX7_meet_29 ?_
          refine lv_iload_n hx hb dX7_meet_32 rfl (lv_at hl 6 rfl) ?_
          refine lv_aload hx hb dX7_meet_33 (lv_at hl 2 rfl) ?_
          refine lv_aload hx hb dX7_meet_35 (lv_at hl 1 rfl) ?_
          refine lv_aload_n hx hb dX7_meet_37 rfl (lv_at hl 3 rfl) ?_
          refine va_get (D := D) (ci := 7) (v := .ref (a 6)) (C := RX7) (T := TX7) (N := 9) hx hb hts kwX7 hown hK hP 0 rfl rfl 1 (by decide) kf_16 (fun _ h9 => h9) rfl dX7_meet_38 ?_
          obtain ⟨r12, R_13, b_14, e15, h⟩ := zb3_some h
          refine zgoi (va_runV (As := [.int p2, .ref (a (2 + r2)), .ref (a (2 + r5)), .ref (a 6)]) (rest := []) ⟨hx, hb, hml, hown, hts⟩ (c_X0_layMet l D a cJ cI cO cB R b pr tm cn sm ac re kn F p2 r2 r5 4 (zrow_lt e3 k02) (zrow_lt e6 k09) zlt4 r12 R_13 b_14 e15 H.size) (cwV 4 hts gX7_meet_X0_layMet rfl rfl rfl hdV_X0_layMet ⟨Nat.le_of_ble_eq_true rfl, Nat.le_of_ble_eq_true rfl⟩) (zpreV (q0 := 16) (ci := 2) (T := TX0) (N := 2) hK hP hD rfl rfl [.int p2, .ref (a (2 + r2)), .ref (a (2 + r5)), .ref (a 6)]) rfl rfl hl.1 rfl (lv_room (Nat.le_of_ble_eq_true rfl)) dX7_meet_41 ⟨Nat.le_of_ble_eq_true rfl, Nat.le_of_ble_eq_true rfl⟩) (zfree hD hS hA) (zjW hD hS hA) hS (fun H locs hP hD hS => ?_)
          replace hP : va_P D vwCl (cW a cJ cI cO R_13 b_14 pr tm cn sm ac re kn) H := hP
          replace hD : va_D A (cW a cJ cI cO R_13 b_14 pr tm cn sm ac re kn) := hD
          refine lv_if_eq (tgt := 56) hx hb dX7_meet_44 (by decide) (fun c44 => ?_) (fun c44 => ?_)
          · replace h := zif_t h c44
            refine lv_aload_n hx hb dX7_meet_56 rfl (lv_at hl 3 rfl) ?_
            obtain ⟨r16, re_17, e18, h⟩ := zb2_some h
            refine zgoi (va_runV (As := []) (rest := []) ⟨hx, hb, hml, hown, hts⟩ (c_X7_refuse l D a cJ cI cO cB R_13 b_14 pr tm cn sm ac re kn r16 re_17 e18 H.size) (cwV 0 hts gX7_meet_X7_refuse rfl rfl rfl hdV_X7_refuse ⟨Nat.le_of_ble_eq_true rfl, Nat.le_of_ble_eq_true rfl⟩) (zpreV (q0 := 0) (ci := 7) (T := TX7) (N := 9) hK hP hD rfl rfl []) rfl rfl hl.1 rfl (lv_room (Nat.le_of_ble_eq_true rfl)) dX7_meet_57 ⟨Nat.le_of_ble_eq_true rfl, Nat.le_of_ble_eq_true rfl⟩) (zfree hD hS hA) (zjW hD hS hA) hS (fun H locs hP hD hS => ?_)
            replace hP : va_P D vwCl (cW a cJ cI cO R_13 b_14 pr tm cn sm ac re_17 kn) H := hP
            replace hD : va_D A (cW a cJ cI cO R_13 b_14 pr tm cn sm ac re_17 kn) := hD
            have g0 := Option.some.inj h
            obtain ⟨h1, g1⟩ := Prod.mk.inj g0
            obtain ⟨h2, g2⟩ := Prod.mk.inj g1
            obtain ⟨h3, g3⟩ := Prod.mk.inj g2
            obtain ⟨h4, g4⟩ := Prod.mk.inj g3
            obtain ⟨h5, g5⟩ := Prod.mk.inj g4
            subst h1
            subst h2
            subst h3
            subst h4
            subst h5
            subst g5
            refine vx_ret ?_
            exact W.iret (v := r16) hx hb hr (fun t ht hW => ⟨⟨r16, (), rfl, ⟨rfl, rfl⟩, by rw [ht]; exact hP, va_K.moved hW.alike hK, hD⟩, hS.F ht⟩) hS.2.2 dX7_meet_60
          · replace h := zif_f h c44
            refine lv_aload_n hx hb dX7_meet_47 rfl (lv_at hl 3 rfl) ?_
            refine lv_aload hx hb dX7_meet_48 (lv_at hl 0 rfl) ?_
            obtain ⟨r19, R_20, ac_21, e22, h⟩ := zb3_some h
            refine zgoi (va_runV (As := [.ref (a (2 + r8))]) (rest := []) ⟨hx, hb, hml, hown, hts⟩ (c_X7_become l D a cJ cI cO cB R_13 b_14 pr tm cn sm ac re kn F r8 (zrow_lt e9 k017) r19 R_20 ac_21 e22 H.size) (cwV 1 hts gX7_meet_X7_become rfl rfl rfl hdV_X7_become ⟨Nat.le_of_ble_eq_true rfl, Nat.le_of_ble_eq_true rfl⟩) (zpreV (q0 := 0) (ci := 7) (T := TX7) (N := 9) hK hP hD rfl rfl [.ref (a (2 + r8))]) rfl rfl hl.1 rfl (lv_room (Nat.le_of_ble_eq_true rfl)) dX7_meet_50 ⟨Nat.le_of_ble_eq_true rfl, Nat.le_of_ble_eq_true rfl⟩) (zfree hD hS hA) (zjW hD hS hA) hS (fun H locs hP hD hS => ?_)
            replace hP : va_P D vwCl (cW a cJ cI cO R_20 b_14 pr tm cn sm ac_21 re kn) H := hP
            replace hD : va_D A (cW a cJ cI cO R_20 b_14 pr tm cn sm ac_21 re kn) := hD
            refine lv_goto (tgt := 60) hx hb dX7_meet_53 (by decide) ?_
            have g0 := Option.some.inj h
            obtain ⟨h1, g1⟩ := Prod.mk.inj g0
            obtain ⟨h2, g2⟩ := Prod.mk.inj g1
            obtain ⟨h3, g3⟩ := Prod.mk.inj g2
            obtain ⟨h4, g4⟩ := Prod.mk.inj g3
            obtain ⟨h5, g5⟩ := Prod.mk.inj g4
            subst h1
            subst h2
            subst h3
            subst h4
            subst h5
            subst g5
            refine vx_ret ?_
            exact W.iret (v := r19) hx hb hr (fun t ht hW => ⟨⟨r19, (), rfl, ⟨rfl, rfl⟩, by rw [ht]; exact hP, va_K.moved hW.alike hK, hD⟩, hS.F ht⟩) hS.2.2 dX7_meet_60

noncomputable def p_X7_multiply (F : Nat) (R : Nat → Nat → Int64) (b : Bool) (ac : Int32) (re : Int32) (p0 : Int32) (p1 : Int32) (p2 : Int32) : Option (Nat × Int32 × (Nat → Nat → Int64) × Bool × Int32 × Int32) := (zb2 (p_X7_rowOf p0) (fun cd1 r2 => (if cd1 = 0 then (zb2 (p_X7_rowOf p1) (fun cd4 r5 => (if cd4 = 0 then (zb2 (p_X7_rowOf p2) (fun cd7 r8 => (if cd7 = 0 then (zb3 (p_X0_layProduct F R r2 r5 4) (fun r10 R_11 b_12 => (if (z01 r10) = 0 then (zb2 (p_X7_refuse re) (fun r14 re_15 => (some (0, r14, R_11, b_12, ac, re_15)))) else (zb3 (p_X7_become F R_11 ac r8) (fun r17 R_18 ac_19 => (some (0, r17, R_18, b_12, ac_19, re))))))) else (some (cd7, (0 : Int32), R, b, ac, re))))) else (some (cd4, (0 : Int32), R, b, ac, re))))) else (some (cd1, (0 : Int32), R, b, ac, re)))))
theorem hdV_X7_multiply : yX7_multiply.cls = RX7 ∧ yX7_multiply.cls ≠ "java/lang/invoke/MethodHandle" ∧ yX7_multiply.cls ≠ "java/lang/invoke/VarHandle" ∧ (parseMethodDescriptor yX7_multiply.desc).map (fun d => d.parameters.length) = some 3 := by decide +kernel
set_option maxHeartbeats 4000000 in
set_option maxRecDepth 100000 in
theorem c_X7_multiply (l : Launch) (D : va_G) (a : Nat → Nat) (cJ cI cO cB : ClassId) (R : Nat → Nat → Int64) (b : Bool) (pr : Nat → Int32) (tm : Nat → Int32) (cn : Int32) (sm : Nat → Int32) (ac : Int32) (re : Int32) (kn : Int32) (F : Nat) (p0 : Int32) (p1 : Int32) (p2 : Int32) (cd : Nat) (r : Int32) (R' : Nat → Nat → Int64) (b' : Bool) (ac' : Int32) (re' : Int32) (hlt : l.stackTraces = false) (h : p_X7_multiply F R b ac re p0 p1 p2 = some (cd, r, R', b', ac', re')) : zMxi l yX7_multiply wsX7_multiply 7 111 3 18 D (zT cJ cI cO cB) [.ref (a 0), .int p0, .int p1, .int p2] (cW a cJ cI cO R b pr tm cn sm ac re kn) (cW a cJ cI cO R' b' pr tm cn sm ac' re' kn) cd r := by
  intro sz
  delta zQxi zX
  refine vx_ofW (cc := cX7_multiply) (maxL := 7) (ret := (some .int)) (by decide) rfl ?_
  intro p e s m args below meth c s₁ B hml hnt hv
  obtain ⟨rfl, ⟨hsz, hP, hK, hD0⟩, hE⟩ := hv
  have hx := B.exec
  have hb := B.bytes
  have hr := B.returns
  have hts := atoms_spec (ws := wsX7_multiply) B.pre
  have hown : s.vm.findClass RX7 = some m.cls := findClass_of_methodNamed B.named
  have hlocks := B.notSynchronized
  subst hsz
  have hD := hD0.self (sz := s.heap.size)
  generalize hAe : va_A (cW a cJ cI cO R b pr tm cn sm ac re kn) s.heap.size = A at hD hE ⊢
  have hA : ∀ q : Nat, s.heap.size ≤ q → A q := fun q h => by rw [← hAe]; exact Or.inr h
  have hS : va_S A s.heap s.heap [] := va_S.rf
  have hl := lv_entry ([.ref (a 0), .int p0, .int p1, .int p2]) (n := 7) (Nat.le_of_ble_eq_true rfl)
  rw [lg_entry_eq]
  generalize (lg_sl ([.ref (a 0), .int p0, .int p1, .int p2]) ++ List.replicate (7 - (lg_sl ([.ref (a 0), .int p0, .int p1, .int p2])).length) Slot.unset).toArray = ls at hl ⊢
  replace hl : lv_has ls 7 [(0, .ref (a 0)), (1, .int p0), (2, .int p1), (3, .int p2)] := hl
  have kwX7 : ∀ w ∈ u_ws RX7 TX7 9, w ∈ wsX7_multiply := fun w h => List.mem_cons_of_mem _ (List.mem_append_left _ (List.mem_append_left _ (List.mem_append_left _ (List.mem_append_right _ (List.mem_cons_of_mem _ (List.mem_append_left _ (List.mem_append_right _ h)))))))
  have kf_16 := hts (.fieldLink RX7 16 "Divisorwork" "scratch" "LDivisorwork$Row;") (List.mem_cons_of_mem _ (List.mem_append_left _ (List.mem_append_right _ (zmem 2 rfl))))
  have kf_42 := hts (.fieldLink RX7 42 "Divisorwork" "maker" "LDivisorwork$Maker;") (zmem 1 rfl)
  replace h : (zb2 (p_X7_rowOf p0) (fun cd1 r2 => (if cd1 = 0 then (zb2 (p_X7_rowOf p1) (fun cd4 r5 => (if cd4 = 0 then (zb2 (p_X7_rowOf p2) (fun cd7 r8 => (if cd7 = 0 then (zb3 (p_X0_layProduct F R r2 r5 4) (fun r10 R_11 b_12 => (if (z01 r10) = 0 then (zb2 (p_X7_refuse re) (fun r14 re_15 => (some (0, r14, R_11, b_12, ac, re_15)))) else (zb3 (p_X7_become F R_11 ac r8) (fun r17 R_18 ac_19 => (some (0, r17, R_18, b_12, ac_19, re))))))) else (some (cd7, (0 : Int32), R, b, ac, re))))) else (some (cd4, (0 : Int32), R, b, ac, re))))) else (some (cd1, (0 : Int32), R, b, ac, re))))) = some (cd, r, R', b', ac', re') := h
  obtain ⟨H, hHe⟩ : ∃ H, H = s.heap := ⟨_, rfl⟩
  rw [← hHe] at hP
  replace hS : va_S A s.heap H [] := by rw [hHe]; exact hS
  refine zheap hHe ?_
  refine lv_aload_n hx hb dX7_multiply_0 rfl (lv_at hl 0 rfl) ?_
  refine lv_iload_n hx hb dX7_multiply_1 rfl (lv_at hl 1 rfl) ?_
  obtain ⟨cd1, r2, e3, h⟩ := zb2_some h
  refine zxgor (vx_runV (As := [.int p0]) (rest := []) ⟨hx, hb, hml, hown, hts⟩ (c_X7_rowOf l D a cJ cI cO cB R b pr tm cn sm ac re kn p0 cd1 r2 hlt e3 H.size) (cwV 1 hts gX7_multiply_X7_rowOf rfl rfl rfl hdV_X7_rowOf ⟨Nat.le_of_ble_eq_true rfl, Nat.le_of_ble_eq_true rfl⟩) (zxpreV hE hS (zfree hD hS hA) (q0 := 0) (ci := 7) (T := TX7) (N := 9) hK hP hD rfl rfl [.int p0]) rfl rfl hl.1 rfl (lv_room (Nat.le_of_ble_eq_true rfl)) dX7_multiply_2 ⟨Nat.le_of_ble_eq_true rfl, Nat.le_of_ble_eq_true rfl⟩) (zfree hD hS hA) (zjW hD hS hA) hS (fun k02 => ?_) (fun k02 H locs hP hD hS => ?_)
  · replace h := zif_f h k02
    have g0 := Option.some.inj h
    obtain ⟨h1, g1⟩ := Prod.mk.inj g0
    obtain ⟨h2, g2⟩ := Prod.mk.inj g1
    obtain ⟨h3, g3⟩ := Prod.mk.inj g2
    obtain ⟨h4, g4⟩ := Prod.mk.inj g3
    obtain ⟨h5, g5⟩ := Prod.mk.inj g4
    subst h1
    subst h2
    subst h3
    subst h4
    subst h5
    subst g5
    exact zxout hnt hlocks k02 hK (Nat.le_of_ble_eq_true rfl) (Nat.le_of_ble_eq_true rfl) k02
  · replace h := zif_t h k02
    replace hP : va_P D vwCl (cW a cJ cI cO R b pr tm cn sm ac re kn) H := hP
    replace hD : va_D A (cW a cJ cI cO R b pr tm cn sm ac re kn) := hD
    refine lv_astore (lv' := [(4, .ref (a (2 + r2))), (0, .ref (a 0)), (1, .int p0), (2, .int p1), (3, .int p2)]) hx hb dX7_multiply_5 hl (by decide) rfl (fun ls hl => ?_)
    refine lv_aload_n hx hb dX7_multiply_7 rfl (lv_at hl 1 rfl) ?_
    refine lv_iload_n hx hb dX7_multiply_8 rfl (lv_at hl 3 rfl) ?_
    obtain ⟨cd4, r5, e6, h⟩ := zb2_some h
    refine zxgor (vx_runV (As := [.int p1]) (rest := []) ⟨hx, hb, hml, hown, hts⟩ (c_X7_rowOf l D a cJ cI cO cB R b pr tm cn sm ac re kn p1 cd4 r5 hlt e6 H.size) (cwV 1 hts gX7_multiply_X7_rowOf rfl rfl rfl hdV_X7_rowOf ⟨Nat.le_of_ble_eq_true rfl, Nat.le_of_ble_eq_true rfl⟩) (zxpreV hE hS (zfree hD hS hA) (q0 := 0) (ci := 7) (T := TX7) (N := 9) hK hP hD rfl rfl [.int p1]) rfl rfl hl.1 rfl (lv_room (Nat.le_of_ble_eq_true rfl)) dX7_multiply_9 ⟨Nat.le_of_ble_eq_true rfl, Nat.le_of_ble_eq_true rfl⟩) (zfree hD hS hA) (zjW hD hS hA) hS (fun k09 => ?_) (fun k09 H locs hP hD hS => ?_)
    · replace h := zif_f h k09
      have g0 := Option.some.inj h
      obtain ⟨h1, g1⟩ := Prod.mk.inj g0
      obtain ⟨h2, g2⟩ := Prod.mk.inj g1
      obtain ⟨h3, g3⟩ := Prod.mk.inj g2
      obtain ⟨h4, g4⟩ := Prod.mk.inj g3
      obtain ⟨h5, g5⟩ := Prod.mk.inj g4
      subst h1
      subst h2
      subst h3
      subst h4
      subst h5
      subst g5
      exact zxout hnt hlocks k09 hK (Nat.le_of_ble_eq_true rfl) (Nat.le_of_ble_eq_true rfl) k09
    · replace h := zif_t h k09
      replace hP : va_P D vwCl (cW a cJ cI cO R b pr tm cn sm ac re kn) H := hP
      replace hD : va_D A (cW a cJ cI cO R b pr tm cn sm ac re kn) := hD
      refine lv_astore (lv' := [(5, .ref (a (2 + r5))), (4, .ref (a (2 + r2))), (0, .ref (a 0)), (1, .int p0), (2, .int p1), (3, .int p2)]) hx hb dX7_multiply_12 hl (by decide) rfl (fun ls hl => ?_)
      refine lv_aload_n hx hb dX7_multiply_14 rfl (lv_at hl 2 rfl) ?_
      refine lv_iload_n hx hb dX7_multiply_15 rfl (lv_at hl 5 rfl) ?_
      obtain ⟨cd7, r8, e9, h⟩ := zb2_some h
      refine zxgor (vx_runV (As := [.int p2]) (rest := []) ⟨hx, hb, hml, hown, hts⟩ (c_X7_rowOf l D a cJ cI cO cB R b pr tm cn sm ac re kn p2 cd7 r8 hlt e9 H.size) (cwV 1 hts gX7_multiply_X7_rowOf rfl rfl rfl hdV_X7_rowOf ⟨Nat.le_of_ble_eq_true rfl, Nat.le_of_ble_eq_true rfl⟩) (zxpreV hE hS (zfree hD hS hA) (q0 := 0) (ci := 7) (T := TX7) (N := 9) hK hP hD rfl rfl [.int p2]) rfl rfl hl.1 rfl (lv_room (Nat.le_of_ble_eq_true rfl)) dX7_multiply_16 ⟨Nat.le_of_ble_eq_true rfl, Nat.le_of_ble_eq_true rfl⟩) (zfree hD hS hA) (zjW hD hS hA) hS (fun k016 => ?_) (fun k016 H locs hP hD hS => ?_)
      · replace h := zif_f h k016
        have g0 := Option.some.inj h
        obtain ⟨h1, g1⟩ := Prod.mk.inj g0
        obtain ⟨h2, g2⟩ := Prod.mk.inj g1
        obtain ⟨h3, g3⟩ := Prod.mk.inj g2
        obtain ⟨h4, g4⟩ := Prod.mk.inj g3
        obtain ⟨h5, g5⟩ := Prod.mk.inj g4
        subst h1
        subst h2
        subst h3
        subst h4
        subst h5
        subst g5
        exact zxout hnt hlocks k016 hK (Nat.le_of_ble_eq_true rfl) (Nat.le_of_ble_eq_true rfl) k016
      · replace h := zif_t h k016
        replace hP : va_P D vwCl (cW a cJ cI cO R b pr tm cn sm ac re kn) H := hP
        replace hD : va_D A (cW a cJ cI cO R b pr tm cn sm ac re kn) := hD
        refine lv_astore (lv' := [(6, .ref (a (2 + r8))), (5, .ref (a (2 + r5))), (4, .ref (a (2 + r2))), (0, .ref (a 0)), (1, .int p0), (2, .int p1), (3, .int p2)]) hx hb dX7_multiply_19 hl (by decide) rfl (fun ls hl => ?_)
        refine lv_aload_n hx hb dX7_multiply_21 rfl (lv_at hl 3 rfl) ?_
        refine va_get (D := D) (ci := 7) (v := .ref (a 16)) (C := RX7) (T := TX7) (N := 9) hx hb hts kwX7 hown hK hP 0 rfl rfl 5 (by decide) kf_42 (fun _ h9 => h9) rfl dX7_multiply_22 ?_
        refine lv_aload hx hb dX7_multiply_25 (lv_at hl 2 rfl) ?_
        refine lv_aload hx hb dX7_multiply_27 (lv_at hl 1 rfl) ?_
        refine lv_aload_n hx hb dX7_multiply_29 rfl (lv_at hl 3 rfl) ?_
        refine va_get (D := D) (ci := 7) (v := .ref (a 6)) (C := RX7) (T := TX7) (N := 9) hx hb hts kwX7 hown hK hP 0 rfl rfl 1 (by decide) kf_16 (fun _ h9 => h9) rfl dX7_multiply_30 ?_
        obtain ⟨r10, R_11, b_12, e13, h⟩ := zb3_some h
        refine zgoi (va_runV (As := [.ref (a (2 + r2)), .ref (a (2 + r5)), .ref (a 6)]) (rest := []) ⟨hx, hb, hml, hown, hts⟩ (c_X0_layProduct l D a cJ cI cO cB R b pr tm cn sm ac re kn F r2 r5 4 (zrow_lt e3 k02) (zrow_lt e6 k09) zlt4 r10 R_11 b_12 e13 H.size) (cwV 3 hts gX7_multiply_X0_layProduct rfl rfl rfl hdV_X0_layProduct ⟨Nat.le_of_ble_eq_true rfl, Nat.le_of_ble_eq_true rfl⟩) (zpreV (q0 := 16) (ci := 2) (T := TX0) (N := 2) hK hP hD rfl rfl [.ref (a (2 + r2)), .ref (a (2 + r5)), .ref (a 6)]) rfl rfl hl.1 rfl (lv_room (Nat.le_of_ble_eq_true rfl)) dX7_multiply_33 ⟨Nat.le_of_ble_eq_true rfl, Nat.le_of_ble_eq_true rfl⟩) (zfree hD hS hA) (zjW hD hS hA) hS (fun H locs hP hD hS => ?_)
        replace hP : va_P D vwCl (cW a cJ cI cO R_11 b_12 pr tm cn sm ac re kn) H := hP
        replace hD : va_D A (cW a cJ cI cO R_11 b_12 pr tm cn sm ac re kn) := hD
        refine lv_if_eq (tgt := 48) hx hb dX7_multiply_36 (by decide) (fun c36 => ?_) (fun c36 => ?_)
        · replace h := zif_t h c36
          refine lv_aload_n hx hb dX7_multiply_48 rfl (lv_at hl 3 rfl) ?_
          obtain ⟨r14, re_15, e16, h⟩ := zb2_some h
          refine zgoi (va_runV (As := []) (rest := []) ⟨hx, hb, hml, hown, hts⟩ (c_X7_refuse l D a cJ cI cO cB R_11 b_12 pr tm cn sm ac re kn r14 re_15 e16 H.size) (cwV 0 hts gX7_multiply_X7_refuse rfl rfl rfl hdV_X7_refuse ⟨Nat.le_of_ble_eq_true rfl, Nat.le_of_ble_eq_true rfl⟩) (zpreV (q0 := 0) (ci := 7) (T := TX7) (N := 9) hK hP hD rfl rfl []) rfl rfl hl.1 rfl (lv_room (Nat.le_of_ble_eq_true rfl)) dX7_multiply_49 ⟨Nat.le_of_ble_eq_true rfl, Nat.le_of_ble_eq_true rfl⟩) (zfree hD hS hA) (zjW hD hS hA) hS (fun H locs hP hD hS => ?_)
          replace hP : va_P D vwCl (cW a cJ cI cO R_11 b_12 pr tm cn sm ac re_15 kn) H := hP
          replace hD : va_D A (cW a cJ cI cO R_11 b_12 pr tm cn sm ac re_15 kn) := hD
          have g0 := Option.some.inj h
          obtain ⟨h1, g1⟩ := Prod.mk.inj g0
          obtain ⟨h2, g2⟩ := Prod.mk.inj g1
          obtain ⟨h3, g3⟩ := Prod.mk.inj g2
          obtain ⟨h4, g4⟩ := Prod.mk.inj g3
          obtain ⟨h5, g5⟩ := Prod.mk.inj g4
          subst h1
          subst h2
          subst h3
          subst h4
          subst h5
          subst g5
          refine vx_ret ?_
          exact W.iret (v := r14) hx hb hr (fun t ht hW => ⟨⟨r14, (), rfl, ⟨rfl, rfl⟩, by rw [ht]; exact hP, va_K.moved hW.alike hK, hD⟩, hS.F ht⟩) hS.2.2 dX7_multiply_52
        · replace h := zif_f h c36
          refine lv_aload_n hx hb dX7_multiply_39 rfl (lv_at hl 3 rfl) ?_
          refine lv_aload hx hb dX7_multiply_40 (lv_at hl 0 rfl) ?_
          obtain ⟨r17, R_18, ac_19, e20, h⟩ := zb3_some h
          refine zgoi (va_runV (As := [.ref (a (2 + r8))]) (rest := []) ⟨hx, hb, hml, hown, hts⟩ (c_X7_become l D a cJ cI cO cB R_11 b_12 pr tm cn sm ac re kn F r8 (zrow_lt e9 k016) r17 R_18 ac_19 e20 H.size) (cwV 1 hts gX7_multiply_X7_become rfl rfl rfl hdV_X7_become ⟨Nat.le_of_ble_eq_true rfl, Nat.le_of_ble_eq_true rfl⟩) (zpreV (q0 := 0) (ci := 7) (T := TX7) (N := 9) hK hP hD rfl rfl [.ref (a (2 + r8))]) rfl rfl hl.1 rfl (lv_room (Nat.le_of_ble_eq_true rfl)) dX7_multiply_42 ⟨Nat.le_of_ble_eq_true rfl, Nat.le_of_ble_eq_true rfl⟩) (zfree hD hS hA) (zjW hD hS hA) hS (fun H locs hP hD hS => ?_)
          replace hP : va_P D vwCl (cW a cJ cI cO R_18 b_12 pr tm cn sm ac_19 re kn) H := hP
          replace hD : va_D A (cW a cJ cI cO R_18 b_12 pr tm cn sm ac_19 re kn) := hD
          refine lv_goto (tgt := 52) hx hb dX7_multiply_45 (by decide) ?_
          have g0 := Option.some.inj h
          obtain ⟨h1, g1⟩ := Prod.mk.inj g0
          obtain ⟨h2, g2⟩ := Prod.mk.inj g1
          obtain ⟨h3, g3⟩ := Prod.mk.inj g2
          obtain ⟨h4, g4⟩ := Prod.mk.inj g3
          obtain ⟨h5, g5⟩ := Prod.mk.inj g4
          subst h1
          subst h2
          subst h3
          subst h4
          subst h5
          subst g5
          refine vx_ret ?_
          exact W.iret (v := r17) hx hb hr (fun t ht hW => ⟨⟨r17, (), rfl, ⟨rfl, rfl⟩, by rw [ht]; exact hP, va_K.moved hW.alike hK, hD⟩, hS.F ht⟩) hS.2.2 dX7_multiply_52

noncomputable def p_X7_make (F : Nat) (R : Nat → Nat → Int64) (b : Bool) (pr : Nat → Int32) (tm : Nat → Int32) (cn : Int32) (ac : Int32) (re : Int32) (p0 : Int32) (p1 : Int32) (p2 : Int32) : Option (Nat × Int32 × (Nat → Nat → Int64) × Bool × (Nat → Int32) × (Nat → Int32) × Int32 × Int32 × Int32) := (zb2 (p_X7_rowOf p0) (fun cd1 r2 => (if cd1 = 0 then (zb2 (p_X7_rowOf p2) (fun cd4 r5 => (if cd4 = 0 then (zb1 (p_X7_need p1 (0 : Int32) (5 : Int32)) (fun cd7 => (if cd7 = 0 then (zb6 (p_X0_layMade F R b pr tm cn p1 r2 4) (fun r9 R_10 b_11 pr_12 tm_13 cn_14 => (if (z01 r9) = 0 then (zb2 (p_X7_refuse re) (fun r16 re_17 => (some (0, r16, R_10, b_11, pr_12, tm_13, cn_14, ac, re_17)))) else (zb3 (p_X7_become F R_10 ac r5) (fun r19 R_20 ac_21 => (some (0, r19, R_20, b_11, pr_12, tm_13, cn_14, ac_21, re))))))) else (some (cd7, (0 : Int32), R, b, pr, tm, cn, ac, re))))) else (some (cd4, (0 : Int32), R, b, pr, tm, cn, ac, re))))) else (some (cd1, (0 : Int32), R, b, pr, tm, cn, ac, re)))))
theorem hdV_X7_make : yX7_make.cls = RX7 ∧ yX7_make.cls ≠ "java/lang/invoke/MethodHandle" ∧ yX7_make.cls ≠ "java/lang/invoke/VarHandle" ∧ (parseMethodDescriptor yX7_make.desc).map (fun d => d.parameters.length) = some 3 := by decide +kernel
set_option maxHeartbeats 4000000 in
set_option maxRecDepth 100000 in
theorem c_X7_make (l : Launch) (D : va_G) (a : Nat → Nat) (cJ cI cO cB : ClassId) (R : Nat → Nat → Int64) (b : Bool) (pr : Nat → Int32) (tm : Nat → Int32) (cn : Int32) (sm : Nat → Int32) (ac : Int32) (re : Int32) (kn : Int32) (F : Nat) (p0 : Int32) (p1 : Int32) (p2 : Int32) (cd : Nat) (r : Int32) (R' : Nat → Nat → Int64) (b' : Bool) (pr' : Nat → Int32) (tm' : Nat → Int32) (cn' : Int32) (ac' : Int32) (re' : Int32) (hlt : l.stackTraces = false) (h : p_X7_make F R b pr tm cn ac re p0 p1 p2 = some (cd, r, R', b', pr', tm', cn', ac', re')) : zMxi l yX7_make wsX7_make 7 118 3 18 D (zT cJ cI cO cB) [.ref (a 0), .int p0, .int p1, .int p2] (cW a cJ cI cO R b pr tm cn sm ac re kn) (cW a cJ cI cO R' b' pr' tm' cn' sm ac' re' kn) cd r := by
  intro sz
  delta zQxi zX
  refine vx_ofW (cc := cX7_make) (maxL := 6) (ret := (some .int)) (by decide) rfl ?_
  intro p e s m args below meth c s₁ B hml hnt hv
  obtain ⟨rfl, ⟨hsz, hP, hK, hD0⟩, hE⟩ := hv
  have hx := B.exec
  have hb := B.bytes
  have hr := B.returns
  have hts := atoms_spec (ws := wsX7_make) B.pre
  have hown : s.vm.findClass RX7 = some m.cls := findClass_of_methodNamed B.named
  have hlocks := B.notSynchronized
  subst hsz
  have hD := hD0.self (sz := s.heap.size)
  generalize hAe : va_A (cW a cJ cI cO R b pr tm cn sm ac re kn) s.heap.size = A at hD hE ⊢
  have hA : ∀ q : Nat, s.heap.size ≤ q → A q := fun q h => by rw [← hAe]; exact Or.inr h
  have hS : va_S A s.heap s.heap [] := va_S.rf
  have hl := lv_entry ([.ref (a 0), .int p0, .int p1, .int p2]) (n := 6) (Nat.le_of_ble_eq_true rfl)
  rw [lg_entry_eq]
  generalize (lg_sl ([.ref (a 0), .int p0, .int p1, .int p2]) ++ List.replicate (6 - (lg_sl ([.ref (a 0), .int p0, .int p1, .int p2])).length) Slot.unset).toArray = ls at hl ⊢
  replace hl : lv_has ls 6 [(0, .ref (a 0)), (1, .int p0), (2, .int p1), (3, .int p2)] := hl
  have kwX7 : ∀ w ∈ u_ws RX7 TX7 9, w ∈ wsX7_make := fun w h => List.mem_cons_of_mem _ (List.mem_append_left _ (List.mem_append_left _ (List.mem_append_left _ (List.mem_append_left _ (List.mem_append_right _ (List.mem_cons_of_mem _ (List.mem_append_left _ (List.mem_append_right _ h))))))))
  have kf_16 := hts (.fieldLink RX7 16 "Divisorwork" "scratch" "LDivisorwork$Row;") (List.mem_cons_of_mem _ (List.mem_append_left _ (List.mem_append_right _ (zmem 2 rfl))))
  have kf_42 := hts (.fieldLink RX7 42 "Divisorwork" "maker" "LDivisorwork$Maker;") (zmem 1 rfl)
  replace h : (zb2 (p_X7_rowOf p0) (fun cd1 r2 => (if cd1 = 0 then (zb2 (p_X7_rowOf p2) (fun cd4 r5 => (if cd4 = 0 then (zb1 (p_X7_need p1 (0 : Int32) (5 : Int32)) (fun cd7 => (if cd7 = 0 then (zb6 (p_X0_layMade F R b pr tm cn p1 r2 4) (fun r9 R_10 b_11 pr_12 tm_13 cn_14 => (if (z01 r9) = 0 then (zb2 (p_X7_refuse re) (fun r16 re_17 => (some (0, r16, R_10, b_11, pr_12, tm_13, cn_14, ac, re_17)))) else (zb3 (p_X7_become F R_10 ac r5) (fun r19 R_20 ac_21 => (some (0, r19, R_20, b_11, pr_12, tm_13, cn_14, ac_21, re))))))) else (some (cd7, (0 : Int32), R, b, pr, tm, cn, ac, re))))) else (some (cd4, (0 : Int32), R, b, pr, tm, cn, ac, re))))) else (some (cd1, (0 : Int32), R, b, pr, tm, cn, ac, re))))) = some (cd, r, R', b', pr', tm', cn', ac', re') := h
  obtain ⟨H, hHe⟩ : ∃ H, H = s.heap := ⟨_, rfl⟩
  rw [← hHe] at hP
  replace hS : va_S A s.heap H [] := by rw [hHe]; exact hS
  refine zheap hHe ?_
  refine lv_aload_n hx hb dX7_make_0 rfl (lv_at hl 0 rfl) ?_
  refine lv_iload_n hx hb dX7_make_1 rfl (lv_at hl 1 rfl) ?_
  obtain ⟨cd1, r2, e3, h⟩ := zb2_some h
  refine zxgor (vx_runV (As := [.int p0]) (rest := []) ⟨hx, hb, hml, hown, hts⟩ (c_X7_rowOf l D a cJ cI cO cB R b pr tm cn sm ac re kn p0 cd1 r2 hlt e3 H.size) (cwV 1 hts gX7_make_X7_rowOf rfl rfl rfl hdV_X7_rowOf ⟨Nat.le_of_ble_eq_true rfl, Nat.le_of_ble_eq_true rfl⟩) (zxpreV hE hS (zfree hD hS hA) (q0 := 0) (ci := 7) (T := TX7) (N := 9) hK hP hD rfl rfl [.int p0]) rfl rfl hl.1 rfl (lv_room (Nat.le_of_ble_eq_true rfl)) dX7_make_2 ⟨Nat.le_of_ble_eq_true rfl, Nat.le_of_ble_eq_true rfl⟩) (zfree hD hS hA) (zjW hD hS hA) hS (fun k02 => ?_) (fun k02 H locs hP hD hS => ?_)
  · replace h := zif_f h k02
    have g0 := Option.some.inj h
    obtain ⟨h1, g1⟩ := Prod.mk.inj g0
    obtain ⟨h2, g2⟩ := Prod.mk.inj g1
    obtain ⟨h3, g3⟩ := Prod.mk.inj g2
    obtain ⟨h4, g4⟩ := Prod.mk.inj g3
    obtain ⟨h5, g5⟩ := Prod.mk.inj g4
    obtain ⟨h6, g6⟩ := Prod.mk.inj g5
    obtain ⟨h7, g7⟩ := Prod.mk.inj g6
    obtain ⟨h8, g8⟩ := Prod.mk.inj g7
    subst h1
    subst h2
    subst h3
    subst h4
    subst h5
    subst h6
    subst h7
    subst h8
    subst g8
    exact zxout hnt hlocks k02 hK (Nat.le_of_ble_eq_true rfl) (Nat.le_of_ble_eq_true rfl) k02
  · replace h := zif_t h k02
    replace hP : va_P D vwCl (cW a cJ cI cO R b pr tm cn sm ac re kn) H := hP
    replace hD : va_D A (cW a cJ cI cO R b pr tm cn sm ac re kn) := hD
    refine lv_astore (lv' := [(4, .ref (a (2 + r2))), (0, .ref (a 0)), (1, .int p0), (2, .int p1), (3, .int p2)]) hx hb dX7_make_5 hl (by decide) rfl (fun ls hl => ?_)
    refine lv_aload_n hx hb dX7_make_7 rfl (lv_at hl 1 rfl) ?_
    refine lv_iload_n hx hb dX7_make_8 rfl (lv_at hl 4 rfl) ?_
    obtain ⟨cd4, r5, e6, h⟩ := zb2_some h
    refine zxgor (vx_runV (As := [.int p2]) (rest := []) ⟨hx, hb, hml, hown, hts⟩ (c_X7_rowOf l D a cJ cI cO cB R b pr tm cn sm ac re kn p2 cd4 r5 hlt e6 H.size) (cwV 1 hts gX7_make_X7_rowOf rfl rfl rfl hdV_X7_rowOf ⟨Nat.le_of_ble_eq_true rfl, Nat.le_of_ble_eq_true rfl⟩) (zxpreV hE hS (zfree hD hS hA) (q0 := 0) (ci := 7) (T := TX7) (N := 9) hK hP hD rfl rfl [.int p2]) rfl rfl hl.1 rfl (lv_room (Nat.le_of_ble_eq_true rfl)) dX7_make_9 ⟨Nat.le_of_ble_eq_true rfl, Nat.le_of_ble_eq_true rfl⟩) (zfree hD hS hA) (zjW hD hS hA) hS (fun k09 => ?_) (fun k09 H locs hP hD hS => ?_)
    · replace h := zif_f h k09
      have g0 := Option.some.inj h
      obtain ⟨h1, g1⟩ := Prod.mk.inj g0
      obtain ⟨h2, g2⟩ := Prod.mk.inj g1
      obtain ⟨h3, g3⟩ := Prod.mk.inj g2
      obtain ⟨h4, g4⟩ := Prod.mk.inj g3
      obtain ⟨h5, g5⟩ := Prod.mk.inj g4
      obtain ⟨h6, g6⟩ := Prod.mk.inj g5
      obtain ⟨h7, g7⟩ := Prod.mk.inj g6
      obtain ⟨h8, g8⟩ := Prod.mk.inj g7
      subst h1
      subst h2
      subst h3
      subst h4
      subst h5
      subst h6
      subst h7
      subst h8
      subst g8
      exact zxout hnt hlocks k09 hK (Nat.le_of_ble_eq_true rfl) (Nat.le_of_ble_eq_true rfl) k09
    · replace h := zif_t h k09
      replace hP : va_P D vwCl (cW a cJ cI cO R b pr tm cn sm ac re kn) H := hP
      replace hD : va_D A (cW a cJ cI cO R b pr tm cn sm ac re kn) := hD
      refine lv_astore (lv' := [(5, .ref (a (2 + r5))), (4, .ref (a (2 + r2))), (0, .ref (a 0)), (1, .int p0), (2, .int p1), (3, .int p2)]) hx hb dX7_make_12 hl (by decide) rfl (fun ls hl => ?_)
      refine lv_iload_n hx hb dX7_make_14 rfl (lv_at hl 4 rfl) ?_
      refine lv_iconst (v := (0 : Int32)) hx hb dX7_make_15 (by decide) ?_
      refine lv_iconst (v := (5 : Int32)) hx hb dX7_make_16 (by decide) ?_
      obtain ⟨cd7, e8, h⟩ := zb1_some h
      refine zxgov (vx_runS (As := [.int p1, .int (0 : Int32), .int (5 : Int32)]) (rest := []) ⟨hx, hb, hml, hown, hts⟩ (c_X7_need l D cJ cI cO cB p1 (0 : Int32) (5 : Int32) cd7 hlt e8 H.size) (va_cwS 3 hts gX7_make_X7_need rfl rfl rfl hdS_X7_need ⟨Nat.le_of_ble_eq_true rfl, Nat.le_of_ble_eq_true rfl⟩) (zxpreS hE hS (zf0 hS hA) hK zP0 (zD0 (A := A)) [.int p1, .int (0 : Int32), .int (5 : Int32)]) rfl rfl hl.1 rfl (lv_room (Nat.le_of_ble_eq_true rfl)) dX7_make_17 ⟨Nat.le_of_ble_eq_true rfl, Nat.le_of_ble_eq_true rfl⟩) (zf0 hS hA) (zjE hP hD) hS (fun k017 => ?_) (fun k017 H locs hP hD hS => ?_)
      · replace h := zif_f h k017
        have g0 := Option.some.inj h
        obtain ⟨h1, g1⟩ := Prod.mk.inj g0
        obtain ⟨h2, g2⟩ := Prod.mk.inj g1
        obtain ⟨h3, g3⟩ := Prod.mk.inj g2
        obtain ⟨h4, g4⟩ := Prod.mk.inj g3
        obtain ⟨h5, g5⟩ := Prod.mk.inj g4
        obtain ⟨h6, g6⟩ := Prod.mk.inj g5
        obtain ⟨h7, g7⟩ := Prod.mk.inj g6
        obtain ⟨h8, g8⟩ := Prod.mk.inj g7
        subst h1
        subst h2
        subst h3
        subst h4
        subst h5
        subst h6
        subst h7
        subst h8
        subst g8
        exact zxout hnt hlocks k017 hK (Nat.le_of_ble_eq_true rfl) (Nat.le_of_ble_eq_true rfl) k017
      · replace h := zif_t h k017
        refine lv_aload_n hx hb dX7_make_20 rfl (lv_at hl 2 rfl) ?_
        refine va_get (D := D) (ci := 7) (v := .ref (a 16)) (C := RX7) (T := TX7) (N := 9) hx hb hts kwX7 hown hK hP 0 rfl rfl 5 (by decide) kf_42 (fun _ h9 => h9) rfl dX7_make_21 ?_
        refine lv_iload_n hx hb dX7_make_24 rfl (lv_at hl 4 rfl) ?_
        refine lv_aload hx hb dX7_make_25 (lv_at hl 1 rfl) ?_
        refine lv_aload_n hx hb dX7_make_27 rfl (lv_at hl 2 rfl) ?_
        refine va_get (D := D) (ci := 7) (v := .ref (a 6)) (C := RX7) (T := TX7) (N := 9) hx hb hts kwX7 hown hK hP 0 rfl rfl 1 (by decide) kf_16 (fun _ h9 => h9) rfl dX7_make_28 ?_
        obtain ⟨r9, R_10, b_11, pr_12, tm_13, cn_14, e15, h⟩ := zb6_some h
        refine zgoi (va_runV (As := [.int p1, .ref (a (2 + r2)), .ref (a 6)]) (rest := []) ⟨hx, hb, hml, hown, hts⟩ (c_X0_layMade l D a cJ cI cO cB R b pr tm cn sm ac re kn F p1 r2 4 (zrow_lt e3 k02) zlt4 r9 R_10 b_11 pr_12 tm_13 cn_14 e15 H.size) (cwV 3 hts gX7_make_X0_layMade rfl rfl rfl hdV_X0_layMade ⟨Nat.le_of_ble_eq_true rfl, Nat.le_of_ble_eq_true rfl⟩) (zpreV (q0 := 16) (ci := 2) (T := TX0) (N := 2) hK hP hD rfl rfl [.int p1, .ref (a (2 + r2)), .ref (a 6)]) rfl rfl hl.1 rfl (lv_room (Nat.le_of_ble_eq_true rfl)) dX7_make_31 ⟨Nat.le_of_ble_eq_true rfl, Nat.le_of_ble_eq_true rfl⟩) (zfree hD hS hA) (zjW hD hS hA) hS (fun H locs hP hD hS => ?_)
        replace hP : va_P D vwCl (cW a cJ cI cO R_10 b_11 pr_12 tm_13 cn_14 sm ac re kn) H := hP
        replace hD : va_D A (cW a cJ cI cO R_10 b_11 pr_12 tm_13 cn_14 sm ac re kn) := hD
        refine lv_if_eq (tgt := 46) hx hb dX7_make_34 (by decide) (fun c34 => ?_) (fun c34 => ?_)
        · replace h := zif_t h c34
          refine lv_aload_n hx hb dX7_make_46 rfl (lv_at hl 2 rfl) ?_
          obtain ⟨r16, re_17, e18, h⟩ := zb2_some h
          refine zgoi (va_runV (As := []) (rest := []) ⟨hx, hb, hml, hown, hts⟩ (c_X7_refuse l D a cJ cI cO cB R_10 b_11 pr_12 tm_13 cn_14 sm ac re kn r16 re_17 e18 H.size) (cwV 0 hts gX7_make_X7_refuse rfl rfl rfl hdV_X7_refuse ⟨Nat.le_of_ble_eq_true rfl, Nat.le_of_ble_eq_true rfl⟩) (zpreV (q0 := 0) (ci := 7) (T := TX7) (N := 9) hK hP hD rfl rfl []) rfl rfl hl.1 rfl (lv_room (Nat.le_of_ble_eq_true rfl)) dX7_make_47 ⟨Nat.le_of_ble_eq_true rfl, Nat.le_of_ble_eq_true rfl⟩) (zfree hD hS hA) (zjW hD hS hA) hS (fun H locs hP hD hS => ?_)
          replace hP : va_P D vwCl (cW a cJ cI cO R_10 b_11 pr_12 tm_13 cn_14 sm ac re_17 kn) H := hP
          replace hD : va_D A (cW a cJ cI cO R_10 b_11 pr_12 tm_13 cn_14 sm ac re_17 kn) := hD
          have g0 := Option.some.inj h
          obtain ⟨h1, g1⟩ := Prod.mk.inj g0
          obtain ⟨h2, g2⟩ := Prod.mk.inj g1
          obtain ⟨h3, g3⟩ := Prod.mk.inj g2
          obtain ⟨h4, g4⟩ := Prod.mk.inj g3
          obtain ⟨h5, g5⟩ := Prod.mk.inj g4
          obtain ⟨h6, g6⟩ := Prod.mk.inj g5
          obtain ⟨h7, g7⟩ := Prod.mk.inj g6
          obtain ⟨h8, g8⟩ := Prod.mk.inj g7
          subst h1
          subst h2
          subst h3
          subst h4
          subst h5
          subst h6
          subst h7
          subst h8
          subst g8
          refine vx_ret ?_
          exact W.iret (v := r16) hx hb hr (fun t ht hW => ⟨⟨r16, (), rfl, ⟨rfl, rfl⟩, by rw [ht]; exact hP, va_K.moved hW.alike hK, hD⟩, hS.F ht⟩) hS.2.2 dX7_make_50
        · replace h := zif_f h c34
          refine lv_aload_n hx hb dX7_make_37 rfl (lv_at hl 2 rfl) ?_
          refine lv_aload hx hb dX7_make_38 (lv_at hl 0 rfl) ?_
          obtain ⟨r19, R_20, ac_21, e22, h⟩ := zb3_some h
          refine zgoi (va_runV (As := [.ref (a (2 + r5))]) (rest := []) ⟨hx, hb, hml, hown, hts⟩ (c_X7_become l D a cJ cI cO cB R_10 b_11 pr_12 tm_13 cn_14 sm ac re kn F r5 (zrow_lt e6 k09) r19 R_20 ac_21 e22 H.size) (cwV 1 hts gX7_make_X7_become rfl rfl rfl hdV_X7_become ⟨Nat.le_of_ble_eq_true rfl, Nat.le_of_ble_eq_true rfl⟩) (zpreV (q0 := 0) (ci := 7) (T := TX7) (N := 9) hK hP hD rfl rfl [.ref (a (2 + r5))]) rfl rfl hl.1 rfl (lv_room (Nat.le_of_ble_eq_true rfl)) dX7_make_40 ⟨Nat.le_of_ble_eq_true rfl, Nat.le_of_ble_eq_true rfl⟩) (zfree hD hS hA) (zjW hD hS hA) hS (fun H locs hP hD hS => ?_)
          replace hP : va_P D vwCl (cW a cJ cI cO R_20 b_11 pr_12 tm_13 cn_14 sm ac_21 re kn) H := hP
          replace hD : va_D A (cW a cJ cI cO R_20 b_11 pr_12 tm_13 cn_14 sm ac_21 re kn) := hD
          refine lv_goto (tgt := 50) hx hb dX7_make_43 (by decide) ?_
          have g0 := Option.some.inj h
          obtain ⟨h1, g1⟩ := Prod.mk.inj g0
          obtain ⟨h2, g2⟩ := Prod.mk.inj g1
          obtain ⟨h3, g3⟩ := Prod.mk.inj g2
          obtain ⟨h4, g4⟩ := Prod.mk.inj g3
          obtain ⟨h5, g5⟩ := Prod.mk.inj g4
          obtain ⟨h6, g6⟩ := Prod.mk.inj g5
          obtain ⟨h7, g7⟩ := Prod.mk.inj g6
          obtain ⟨h8, g8⟩ := Prod.mk.inj g7
          subst h1
          subst h2
          subst h3
          subst h4
          subst h5
          subst h6
          subst h7
          subst h8
          subst g8
          refine vx_ret ?_
          exact W.iret (v := r19) hx hb hr (fun t ht hW => ⟨⟨r19, (), rfl, ⟨rfl, rfl⟩, by rw [ht]; exact hP, va_K.moved hW.alike hK, hD⟩, hS.F ht⟩) hS.2.2 dX7_make_50

noncomputable def p_X7_half (R : Nat → Nat → Int64) (p0 : Int32) (p1 : Int32) (p2 : Bool) : Option (Nat × Int32) := (zb2 (p_X7_rowOf p0) (fun cd1 r2 => (if cd1 = 0 then (zb1 (p_X7_need p1 (1 : Int32) (120 : Int32)) (fun cd4 => (if cd4 = 0 then (if (z01 p2) = 0 then (zb1 (p_X4_at R r2 p1) (fun r6 => (some (0, (r6.toInt32))))) else (zb1 (p_X4_at R r2 p1) (fun r8 => (some (0, ((r8 >>> ((32 : Int32).toInt64 &&& 63)).toInt32)))))) else (some (cd4, (0 : Int32)))))) else (some (cd1, (0 : Int32))))))
theorem hdV_X7_half : yX7_half.cls = RX7 ∧ yX7_half.cls ≠ "java/lang/invoke/MethodHandle" ∧ yX7_half.cls ≠ "java/lang/invoke/VarHandle" ∧ (parseMethodDescriptor yX7_half.desc).map (fun d => d.parameters.length) = some 3 := by decide +kernel
set_option maxHeartbeats 4000000 in
set_option maxRecDepth 100000 in
theorem c_X7_half (l : Launch) (D : va_G) (a : Nat → Nat) (cJ cI cO cB : ClassId) (R : Nat → Nat → Int64) (b : Bool) (pr : Nat → Int32) (tm : Nat → Int32) (cn : Int32) (sm : Nat → Int32) (ac : Int32) (re : Int32) (kn : Int32) (p0 : Int32) (p1 : Int32) (p2 : Bool) (cd : Nat) (r : Int32) (hlt : l.stackTraces = false) (h : p_X7_half R p0 p1 p2 = some (cd, r)) : zMxi l yX7_half wsX7_half 7 112 2 12 D (zT cJ cI cO cB) [.ref (a 0), .int p0, .int p1, .int (z01 p2)] (cW a cJ cI cO R b pr tm cn sm ac re kn) (cW a cJ cI cO R b pr tm cn sm ac re kn) cd r := by
  intro sz
  delta zQxi zX
  refine vx_ofW (cc := cX7_half) (maxL := 5) (ret := (some .int)) (by decide) rfl ?_
  intro p e s m args below meth c s₁ B hml hnt hv
  obtain ⟨rfl, ⟨hsz, hP, hK, hD0⟩, hE⟩ := hv
  have hx := B.exec
  have hb := B.bytes
  have hr := B.returns
  have hts := atoms_spec (ws := wsX7_half) B.pre
  have hown : s.vm.findClass RX7 = some m.cls := findClass_of_methodNamed B.named
  have hlocks := B.notSynchronized
  subst hsz
  have hD := hD0.self (sz := s.heap.size)
  generalize hAe : va_A (cW a cJ cI cO R b pr tm cn sm ac re kn) s.heap.size = A at hD hE ⊢
  have hA : ∀ q : Nat, s.heap.size ≤ q → A q := fun q h => by rw [← hAe]; exact Or.inr h
  have hS : va_S A s.heap s.heap [] := va_S.rf
  have hl := lv_entry ([.ref (a 0), .int p0, .int p1, .int (z01 p2)]) (n := 5) (Nat.le_of_ble_eq_true rfl)
  rw [lg_entry_eq]
  generalize (lg_sl ([.ref (a 0), .int p0, .int p1, .int (z01 p2)]) ++ List.replicate (5 - (lg_sl ([.ref (a 0), .int p0, .int p1, .int (z01 p2)])).length) Slot.unset).toArray = ls at hl ⊢
  replace hl : lv_has ls 5 [(0, .ref (a 0)), (1, .int p0), (2, .int p1), (3, .int (z01 p2))] := hl
  replace h : (zb2 (p_X7_rowOf p0) (fun cd1 r2 => (if cd1 = 0 then (zb1 (p_X7_need p1 (1 : Int32) (120 : Int32)) (fun cd4 => (if cd4 = 0 then (if (z01 p2) = 0 then (zb1 (p_X4_at R r2 p1) (fun r6 => (some (0, (r6.toInt32))))) else (zb1 (p_X4_at R r2 p1) (fun r8 => (some (0, ((r8 >>> ((32 : Int32).toInt64 &&& 63)).toInt32)))))) else (some (cd4, (0 : Int32)))))) else (some (cd1, (0 : Int32)))))) = some (cd, r) := h
  obtain ⟨H, hHe⟩ : ∃ H, H = s.heap := ⟨_, rfl⟩
  rw [← hHe] at hP
  replace hS : va_S A s.heap H [] := by rw [hHe]; exact hS
  refine zheap hHe ?_
  refine lv_aload_n hx hb dX7_half_0 rfl (lv_at hl 0 rfl) ?_
  refine lv_iload_n hx hb dX7_half_1 rfl (lv_at hl 1 rfl) ?_
  obtain ⟨cd1, r2, e3, h⟩ := zb2_some h
  refine zxgor (vx_runV (As := [.int p0]) (rest := []) ⟨hx, hb, hml, hown, hts⟩ (c_X7_rowOf l D a cJ cI cO cB R b pr tm cn sm ac re kn p0 cd1 r2 hlt e3 H.size) (cwV 1 hts gX7_half_X7_rowOf rfl rfl rfl hdV_X7_rowOf ⟨Nat.le_of_ble_eq_true rfl, Nat.le_of_ble_eq_true rfl⟩) (zxpreV hE hS (zfree hD hS hA) (q0 := 0) (ci := 7) (T := TX7) (N := 9) hK hP hD rfl rfl [.int p0]) rfl rfl hl.1 rfl (lv_room (Nat.le_of_ble_eq_true rfl)) dX7_half_2 ⟨Nat.le_of_ble_eq_true rfl, Nat.le_of_ble_eq_true rfl⟩) (zfree hD hS hA) (zjW hD hS hA) hS (fun k02 => ?_) (fun k02 H locs hP hD hS => ?_)
  · replace h := zif_f h k02
    have g0 := Option.some.inj h
    obtain ⟨h1, g1⟩ := Prod.mk.inj g0
    subst h1
    subst g1
    exact zxout hnt hlocks k02 hK (Nat.le_of_ble_eq_true rfl) (Nat.le_of_ble_eq_true rfl) k02
  · replace h := zif_t h k02
    replace hP : va_P D vwCl (cW a cJ cI cO R b pr tm cn sm ac re kn) H := hP
    replace hD : va_D A (cW a cJ cI cO R b pr tm cn sm ac re kn) := hD
    refine lv_astore (lv' := [(4, .ref (a (2 + r2))), (0, .ref (a 0)), (1, .int p0), (2, .int p1), (3, .int (z01 p2))]) hx hb dX7_half_5 hl (by decide) rfl (fun ls hl => ?_)
    refine lv_iload_n hx hb dX7_half_7 rfl (lv_at hl 3 rfl) ?_
    refine lv_iconst (v := (1 : Int32)) hx hb dX7_half_8 (by decide) ?_
    refine lv_bipush (v := (120 : Int32)) hx hb dX7_half_9 (by decide) ?_
    obtain ⟨cd4, e5, h⟩ := zb1_some h
    refine zxgov (vx_runS (As := [.int p1, .int (1 : Int32), .int (120 : Int32)]) (rest := []) ⟨hx, hb, hml, hown, hts⟩ (c_X7_need l D cJ cI cO cB p1 (1 : Int32) (120 : Int32) cd4 hlt e5 H.size) (va_cwS 3 hts gX7_half_X7_need rfl rfl rfl hdS_X7_need ⟨Nat.le_of_ble_eq_true rfl, Nat.le_of_ble_eq_true rfl⟩) (zxpreS hE hS (zf0 hS hA) hK zP0 (zD0 (A := A)) [.int p1, .int (1 : Int32), .int (120 : Int32)]) rfl rfl hl.1 rfl (lv_room (Nat.le_of_ble_eq_true rfl)) dX7_half_11 ⟨Nat.le_of_ble_eq_true rfl, Nat.le_of_ble_eq_true rfl⟩) (zf0 hS hA) (zjE hP hD) hS (fun k011 => ?_) (fun k011 H locs hP hD hS => ?_)
    · replace h := zif_f h k011
      have g0 := Option.some.inj h
      obtain ⟨h1, g1⟩ := Prod.mk.inj g0
      subst h1
      subst g1
      exact zxout hnt hlocks k011 hK (Nat.le_of_ble_eq_true rfl) (Nat.le_of_ble_eq_true rfl) k011
    · replace h := zif_t h k011
      refine lv_iload_n hx hb dX7_half_14 rfl (lv_at hl 4 rfl) ?_
      refine lv_if_eq (tgt := 30) hx hb dX7_half_15 (by decide) (fun c15 => ?_) (fun c15 => ?_)
      · replace h := zif_t h c15
        refine lv_aload hx hb dX7_half_30 (lv_at hl 0 rfl) ?_
        refine lv_iload_n hx hb dX7_half_32 rfl (lv_at hl 3 rfl) ?_
        obtain ⟨r6, e7, h⟩ := zb1_some h
        refine zgol (va_runV (As := [.int p1]) (rest := []) ⟨hx, hb, hml, hown, hts⟩ (c_X4_at l D a cJ cI cO cB R b pr tm cn sm ac re kn r2 p1 (zrow_lt e3 k02) r6 e7 H.size) (cwV 1 hts gX7_half_X4_at rfl rfl rfl hdV_X4_at ⟨Nat.le_of_ble_eq_true rfl, Nat.le_of_ble_eq_true rfl⟩) (zpreV (q0 := 2 + r2) (ci := 6) (T := TX4) (N := 1) hK hP hD (cW_row (zrow_lt e3 k02)) rfl [.int p1]) rfl rfl hl.1 rfl (lv_room (Nat.le_of_ble_eq_true rfl)) dX7_half_33 ⟨Nat.le_of_ble_eq_true rfl, Nat.le_of_ble_eq_true rfl⟩) (zfree hD hS hA) (zjW hD hS hA) hS (fun H locs hP hD hS => ?_)
        replace hP : va_P D vwCl (cW a cJ cI cO R b pr tm cn sm ac re kn) H := hP
        replace hD : va_D A (cW a cJ cI cO R b pr tm cn sm ac re kn) := hD
        refine lv_l2i (v := r6.toInt32) hx hb dX7_half_36 rfl ?_
        have g0 := Option.some.inj h
        obtain ⟨h1, g1⟩ := Prod.mk.inj g0
        subst h1
        subst g1
        refine vx_ret ?_
        exact W.iret (v := (r6.toInt32)) hx hb hr (fun t ht hW => ⟨⟨(r6.toInt32), (), rfl, ⟨rfl, rfl⟩, by rw [ht]; exact hP, va_K.moved hW.alike hK, hD⟩, hS.F ht⟩) hS.2.2 dX7_half_37
      · replace h := zif_f h c15
        refine lv_aload hx hb dX7_half_18 (lv_at hl 0 rfl) ?_
        refine lv_iload_n hx hb dX7_half_20 rfl (lv_at hl 3 rfl) ?_
        obtain ⟨r8, e9, h⟩ := zb1_some h
        refine zgol (va_runV (As := [.int p1]) (rest := []) ⟨hx, hb, hml, hown, hts⟩ (c_X4_at l D a cJ cI cO cB R b pr tm cn sm ac re kn r2 p1 (zrow_lt e3 k02) r8 e9 H.size) (cwV 1 hts gX7_half_X4_at rfl rfl rfl hdV_X4_at ⟨Nat.le_of_ble_eq_true rfl, Nat.le_of_ble_eq_true rfl⟩) (zpreV (q0 := 2 + r2) (ci := 6) (T := TX4) (N := 1) hK hP hD (cW_row (zrow_lt e3 k02)) rfl [.int p1]) rfl rfl hl.1 rfl (lv_room (Nat.le_of_ble_eq_true rfl)) dX7_half_21 ⟨Nat.le_of_ble_eq_true rfl, Nat.le_of_ble_eq_true rfl⟩) (zfree hD hS hA) (zjW hD hS hA) hS (fun H locs hP hD hS => ?_)
        replace hP : va_P D vwCl (cW a cJ cI cO R b pr tm cn sm ac re kn) H := hP
        replace hD : va_D A (cW a cJ cI cO R b pr tm cn sm ac re kn) := hD
        refine lv_bipush (v := (32 : Int32)) hx hb dX7_half_24 (by decide) ?_
        refine lv_lshr (v := (r8 >>> ((32 : Int32).toInt64 &&& 63))) hx hb dX7_half_26 rfl ?_
        refine lv_goto (tgt := 36) hx hb dX7_half_27 (by decide) ?_
        refine lv_l2i (v := (r8 >>> ((32 : Int32).toInt64 &&& 63)).toInt32) hx hb dX7_half_36 rfl ?_
        have g0 := Option.some.inj h
        obtain ⟨h1, g1⟩ := Prod.mk.inj g0
        subst h1
        subst g1
        refine vx_ret ?_
        exact W.iret (v := ((r8 >>> ((32 : Int32).toInt64 &&& 63)).toInt32)) hx hb hr (fun t ht hW => ⟨⟨((r8 >>> ((32 : Int32).toInt64 &&& 63)).toInt32), (), rfl, ⟨rfl, rfl⟩, by rw [ht]; exact hP, va_K.moved hW.alike hK, hD⟩, hS.F ht⟩) hS.2.2 dX7_half_37

noncomputable def p_X7_differ (F : Nat) (R : Nat → Nat → Int64) (b : Bool) (pr : Nat → Int32) (tm : Nat → Int32) (cn : Int32) (sm : Nat → Int32) (ac : Int32) (re : Int32) (kn : Int32) (p0 : Int32) (p1 : Int32) : Option (Nat × Int32 × (Nat → Nat → Int64) × Bool × (Nat → Int32) × (Nat → Int32) × Int32 × (Nat → Int32) × Int32 × Int32 × Int32) := (zb2 (p_X7_rowOf p0) (fun cd1 r2 => (if cd1 = 0 then (zb2 (p_X7_rowOf p1) (fun cd4 r5 => (if cd4 = 0 then (zb10 (p_X4_firstUnlike F R b pr tm cn sm ac re kn r2 r5) (fun r7 R_8 b_9 pr_10 tm_11 cn_12 sm_13 ac_14 re_15 kn_16 => (some (0, r7, R_8, b_9, pr_10, tm_11, cn_12, sm_13, ac_14, re_15, kn_16)))) else (some (cd4, (0 : Int32), R, b, pr, tm, cn, sm, ac, re, kn))))) else (some (cd1, (0 : Int32), R, b, pr, tm, cn, sm, ac, re, kn)))))
theorem hdV_X7_differ : yX7_differ.cls = RX7 ∧ yX7_differ.cls ≠ "java/lang/invoke/MethodHandle" ∧ yX7_differ.cls ≠ "java/lang/invoke/VarHandle" ∧ (parseMethodDescriptor yX7_differ.desc).map (fun d => d.parameters.length) = some 2 := by decide +kernel
set_option maxHeartbeats 4000000 in
set_option maxRecDepth 100000 in
theorem c_X7_differ (l : Launch) (D : va_G) (a : Nat → Nat) (cJ cI cO cB : ClassId) (R : Nat → Nat → Int64) (b : Bool) (pr : Nat → Int32) (tm : Nat → Int32) (cn : Int32) (sm : Nat → Int32) (ac : Int32) (re : Int32) (kn : Int32) (F : Nat) (p0 : Int32) (p1 : Int32) (cd : Nat) (r : Int32) (R' : Nat → Nat → Int64) (b' : Bool) (pr' : Nat → Int32) (tm' : Nat → Int32) (cn' : Int32) (sm' : Nat → Int32) (ac' : Int32) (re' : Int32) (kn' : Int32) (hlt : l.stackTraces = false) (h : p_X7_differ F R b pr tm cn sm ac re kn p0 p1 = some (cd, r, R', b', pr', tm', cn', sm', ac', re', kn')) : zMxi l yX7_differ wsX7_differ 7 111 2 12 D (zT cJ cI cO cB) [.ref (a 0), .int p0, .int p1] (cW a cJ cI cO R b pr tm cn sm ac re kn) (cW a cJ cI cO R' b' pr' tm' cn' sm' ac' re' kn') cd r := by
  intro sz
  delta zQxi zX
  refine vx_ofW (cc := cX7_differ) (maxL := 5) (ret := (some .int)) (by decide) rfl ?_
  intro p e s m args below meth c s₁ B hml hnt hv
  obtain ⟨rfl, ⟨hsz, hP, hK, hD0⟩, hE⟩ := hv
  have hx := B.exec
  have hb := B.bytes
  have hr := B.returns
  have hts := atoms_spec (ws := wsX7_differ) B.pre
  have hown : s.vm.findClass RX7 = some m.cls := findClass_of_methodNamed B.named
  have hlocks := B.notSynchronized
  subst hsz
  have hD := hD0.self (sz := s.heap.size)
  generalize hAe : va_A (cW a cJ cI cO R b pr tm cn sm ac re kn) s.heap.size = A at hD hE ⊢
  have hA : ∀ q : Nat, s.heap.size ≤ q → A q := fun q h => by rw [← hAe]; exact Or.inr h
  have hS : va_S A s.heap s.heap [] := va_S.rf
  have hl := lv_entry ([.ref (a 0), .int p0, .int p1]) (n := 5) (Nat.le_of_ble_eq_true rfl)
  rw [lg_entry_eq]
  generalize (lg_sl ([.ref (a 0), .int p0, .int p1]) ++ List.replicate (5 - (lg_sl ([.ref (a 0), .int p0, .int p1])).length) Slot.unset).toArray = ls at hl ⊢
  replace hl : lv_has ls 5 [(0, .ref (a 0)), (1, .int p0), (2, .int p1)] := hl
  replace h : (zb2 (p_X7_rowOf p0) (fun cd1 r2 => (if cd1 = 0 then (zb2 (p_X7_rowOf p1) (fun cd4 r5 => (if cd4 = 0 then (zb10 (p_X4_firstUnlike F R b pr tm cn sm ac re kn r2 r5) (fun r7 R_8 b_9 pr_10 tm_11 cn_12 sm_13 ac_14 re_15 kn_16 => (some (0, r7, R_8, b_9, pr_10, tm_11, cn_12, sm_13, ac_14, re_15, kn_16)))) else (some (cd4, (0 : Int32), R, b, pr, tm, cn, sm, ac, re, kn))))) else (some (cd1, (0 : Int32), R, b, pr, tm, cn, sm, ac, re, kn))))) = some (cd, r, R', b', pr', tm', cn', sm', ac', re', kn') := h
  obtain ⟨H, hHe⟩ : ∃ H, H = s.heap := ⟨_, rfl⟩
  rw [← hHe] at hP
  replace hS : va_S A s.heap H [] := by rw [hHe]; exact hS
  refine zheap hHe ?_
  refine lv_aload_n hx hb dX7_differ_0 rfl (lv_at hl 0 rfl) ?_
  refine lv_iload_n hx hb dX7_differ_1 rfl (lv_at hl 1 rfl) ?_
  obtain ⟨cd1, r2, e3, h⟩ := zb2_some h
  refine zxgor (vx_runV (As := [.int p0]) (rest := []) ⟨hx, hb, hml, hown, hts⟩ (c_X7_rowOf l D a cJ cI cO cB R b pr tm cn sm ac re kn p0 cd1 r2 hlt e3 H.size) (cwV 1 hts gX7_differ_X7_rowOf rfl rfl rfl hdV_X7_rowOf ⟨Nat.le_of_ble_eq_true rfl, Nat.le_of_ble_eq_true rfl⟩) (zxpreV hE hS (zfree hD hS hA) (q0 := 0) (ci := 7) (T := TX7) (N := 9) hK hP hD rfl rfl [.int p0]) rfl rfl hl.1 rfl (lv_room (Nat.le_of_ble_eq_true rfl)) dX7_differ_2 ⟨Nat.le_of_ble_eq_true rfl, Nat.le_of_ble_eq_true rfl⟩) (zfree hD hS hA) (zjW hD hS hA) hS (fun k02 => ?_) (fun k02 H locs hP hD hS => ?_)
  · replace h := zif_f h k02
    have g0 := Option.some.inj h
    obtain ⟨h1, g1⟩ := Prod.mk.inj g0
    obtain ⟨h2, g2⟩ := Prod.mk.inj g1
    obtain ⟨h3, g3⟩ := Prod.mk.inj g2
    obtain ⟨h4, g4⟩ := Prod.mk.inj g3
    obtain ⟨h5, g5⟩ := Prod.mk.inj g4
    obtain ⟨h6, g6⟩ := Prod.mk.inj g5
    obtain ⟨h7, g7⟩ := Prod.mk.inj g6
    obtain ⟨h8, g8⟩ := Prod.mk.inj g7
    obtain ⟨h9, g9⟩ := Prod.mk.inj g8
    obtain ⟨h10, g10⟩ := Prod.mk.inj g9
    subst h1
    subst h2
    subst h3
    subst h4
    subst h5
    subst h6
    subst h7
    subst h8
    subst h9
    subst h10
    subst g10
    exact zxout hnt hlocks k02 hK (Nat.le_of_ble_eq_true rfl) (Nat.le_of_ble_eq_true rfl) k02
  · replace h := zif_t h k02
    replace hP : va_P D vwCl (cW a cJ cI cO R b pr tm cn sm ac re kn) H := hP
    replace hD : va_D A (cW a cJ cI cO R b pr tm cn sm ac re kn) := hD
    refine lv_astore_n (lv' := [(3, .ref (a (2 + r2))), (0, .ref (a 0)), (1, .int p0), (2, .int p1)]) hx hb dX7_differ_5 rfl hl (by decide) rfl (fun ls hl => ?_)
    refine lv_aload_n hx hb dX7_differ_6 rfl (lv_at hl 1 rfl) ?_
    refine lv_iload_n hx hb dX7_differ_7 rfl (lv_at hl 3 rfl) ?_
    obtain ⟨cd4, r5, e6, h⟩ := zb2_some h
    refine zxgor (vx_runV (As := [.int p1]) (rest := []) ⟨hx, hb, hml, hown, hts⟩ (c_X7_rowOf l D a cJ cI cO cB R b pr tm cn sm ac re kn p1 cd4 r5 hlt e6 H.size) (cwV 1 hts gX7_differ_X7_rowOf rfl rfl rfl hdV_X7_rowOf ⟨Nat.le_of_ble_eq_true rfl, Nat.le_of_ble_eq_true rfl⟩) (zxpreV hE hS (zfree hD hS hA) (q0 := 0) (ci := 7) (T := TX7) (N := 9) hK hP hD rfl rfl [.int p1]) rfl rfl hl.1 rfl (lv_room (Nat.le_of_ble_eq_true rfl)) dX7_differ_8 ⟨Nat.le_of_ble_eq_true rfl, Nat.le_of_ble_eq_true rfl⟩) (zfree hD hS hA) (zjW hD hS hA) hS (fun k08 => ?_) (fun k08 H locs hP hD hS => ?_)
    · replace h := zif_f h k08
      have g0 := Option.some.inj h
      obtain ⟨h1, g1⟩ := Prod.mk.inj g0
      obtain ⟨h2, g2⟩ := Prod.mk.inj g1
      obtain ⟨h3, g3⟩ := Prod.mk.inj g2
      obtain ⟨h4, g4⟩ := Prod.mk.inj g3
      obtain ⟨h5, g5⟩ := Prod.mk.inj g4
      obtain ⟨h6, g6⟩ := Prod.mk.inj g5
      obtain ⟨h7, g7⟩ := Prod.mk.inj g6
      obtain ⟨h8, g8⟩ := Prod.mk.inj g7
      obtain ⟨h9, g9⟩ := Prod.mk.inj g8
      obtain ⟨h10, g10⟩ := Prod.mk.inj g9
      subst h1
      subst h2
      subst h3
      subst h4
      subst h5
      subst h6
      subst h7
      subst h8
      subst h9
      subst h10
      subst g10
      exact zxout hnt hlocks k08 hK (Nat.le_of_ble_eq_true rfl) (Nat.le_of_ble_eq_true rfl) k08
    · replace h := zif_t h k08
      replace hP : va_P D vwCl (cW a cJ cI cO R b pr tm cn sm ac re kn) H := hP
      replace hD : va_D A (cW a cJ cI cO R b pr tm cn sm ac re kn) := hD
      refine lv_astore (lv' := [(4, .ref (a (2 + r5))), (3, .ref (a (2 + r2))), (0, .ref (a 0)), (1, .int p0), (2, .int p1)]) hx hb dX7_differ_11 hl (by decide) rfl (fun ls hl => ?_)
      refine lv_aload_n hx hb dX7_differ_13 rfl (lv_at hl 1 rfl) ?_
      refine lv_aload hx hb dX7_differ_14 (lv_at hl 0 rfl) ?_
      obtain ⟨r7, R_8, b_9, pr_10, tm_11, cn_12, sm_13, ac_14, re_15, kn_16, e17, h⟩ := zb10_some h
      refine zgoi (va_runV (As := [.ref (a (2 + r5))]) (rest := []) ⟨hx, hb, hml, hown, hts⟩ (c_X4_firstUnlike l D a cJ cI cO cB R b pr tm cn sm ac re kn F r2 r5 (zrow_lt e3 k02) (zrow_lt e6 k08) r7 R_8 b_9 pr_10 tm_11 cn_12 sm_13 ac_14 re_15 kn_16 e17 H.size) (cwV 1 hts gX7_differ_X4_firstUnlike rfl rfl rfl hdV_X4_firstUnlike ⟨Nat.le_of_ble_eq_true rfl, Nat.le_of_ble_eq_true rfl⟩) (zpreV (q0 := 2 + r2) (ci := 6) (T := TX4) (N := 1) hK hP hD (cW_row (zrow_lt e3 k02)) rfl [.ref (a (2 + r5))]) rfl rfl hl.1 rfl (lv_room (Nat.le_of_ble_eq_true rfl)) dX7_differ_16 ⟨Nat.le_of_ble_eq_true rfl, Nat.le_of_ble_eq_true rfl⟩) (zfree hD hS hA) (zjW hD hS hA) hS (fun H locs hP hD hS => ?_)
      replace hP : va_P D vwCl (cW a cJ cI cO R_8 b_9 pr_10 tm_11 cn_12 sm_13 ac_14 re_15 kn_16) H := hP
      replace hD : va_D A (cW a cJ cI cO R_8 b_9 pr_10 tm_11 cn_12 sm_13 ac_14 re_15 kn_16) := hD
      have g0 := Option.some.inj h
      obtain ⟨h1, g1⟩ := Prod.mk.inj g0
      obtain ⟨h2, g2⟩ := Prod.mk.inj g1
      obtain ⟨h3, g3⟩ := Prod.mk.inj g2
      obtain ⟨h4, g4⟩ := Prod.mk.inj g3
      obtain ⟨h5, g5⟩ := Prod.mk.inj g4
      obtain ⟨h6, g6⟩ := Prod.mk.inj g5
      obtain ⟨h7, g7⟩ := Prod.mk.inj g6
      obtain ⟨h8, g8⟩ := Prod.mk.inj g7
      obtain ⟨h9, g9⟩ := Prod.mk.inj g8
      obtain ⟨h10, g10⟩ := Prod.mk.inj g9
      subst h1
      subst h2
      subst h3
      subst h4
      subst h5
      subst h6
      subst h7
      subst h8
      subst h9
      subst h10
      subst g10
      refine vx_ret ?_
      exact W.iret (v := r7) hx hb hr (fun t ht hW => ⟨⟨r7, (), rfl, ⟨rfl, rfl⟩, by rw [ht]; exact hP, va_K.moved hW.alike hK, hD⟩, hS.F ht⟩) hS.2.2 dX7_differ_19

noncomputable def p_X7_is (F : Nat) (R : Nat → Nat → Int64) (b : Bool) (pr : Nat → Int32) (tm : Nat → Int32) (cn : Int32) (sm : Nat → Int32) (ac : Int32) (re : Int32) (kn : Int32) (p0 : Int32) (p1 : Int32) : Option (Nat × Bool × (Nat → Nat → Int64) × Bool × (Nat → Int32) × (Nat → Int32) × Int32 × (Nat → Int32) × Int32 × Int32 × Int32) := (zb2 (p_X7_rowOf p0) (fun cd1 r2 => (if cd1 = 0 then (zb1 (p_X7_need p1 (0 : Int32) (3 : Int32)) (fun cd4 => (if cd4 = 0 then (if p1 = (0 : Int32) then (zb10 (p_X0_isByPrimes F R b pr tm cn sm ac re kn r2 false) (fun r6 R_7 b_8 pr_9 tm_10 cn_11 sm_12 ac_13 re_14 kn_15 => (some (0, r6, R_7, b_8, pr_9, tm_10, cn_11, sm_12, ac_13, re_14, kn_15)))) else (if p1 = (1 : Int32) then (zb10 (p_X0_isByPrimes F R b pr tm cn sm ac re kn r2 true) (fun r17 R_18 b_19 pr_20 tm_21 cn_22 sm_23 ac_24 re_25 kn_26 => (some (0, r17, R_18, b_19, pr_20, tm_21, cn_22, sm_23, ac_24, re_25, kn_26)))) else (if p1 = (2 : Int32) then (zb1 (p_X0_hasInverse R r2) (fun r28 => (some (0, r28, R, b, pr, tm, cn, sm, ac, re, kn)))) else (zb3 (p_X0_layInverse F R b r2 4) (fun r30 R_31 b_32 => (some (0, r30, R_31, b_32, pr, tm, cn, sm, ac, re, kn))))))) else (some (cd4, false, R, b, pr, tm, cn, sm, ac, re, kn))))) else (some (cd1, false, R, b, pr, tm, cn, sm, ac, re, kn)))))
theorem hdV_X7_is : yX7_is.cls = RX7 ∧ yX7_is.cls ≠ "java/lang/invoke/MethodHandle" ∧ yX7_is.cls ≠ "java/lang/invoke/VarHandle" ∧ (parseMethodDescriptor yX7_is.desc).map (fun d => d.parameters.length) = some 2 := by decide +kernel
set_option maxHeartbeats 4000000 in
set_option maxRecDepth 100000 in
theorem c_X7_is (l : Launch) (D : va_G) (a : Nat → Nat) (cJ cI cO cB : ClassId) (R : Nat → Nat → Int64) (b : Bool) (pr : Nat → Int32) (tm : Nat → Int32) (cn : Int32) (sm : Nat → Int32) (ac : Int32) (re : Int32) (kn : Int32) (F : Nat) (p0 : Int32) (p1 : Int32) (cd : Nat) (r : Bool) (R' : Nat → Nat → Int64) (b' : Bool) (pr' : Nat → Int32) (tm' : Nat → Int32) (cn' : Int32) (sm' : Nat → Int32) (ac' : Int32) (re' : Int32) (kn' : Int32) (hlt : l.stackTraces = false) (h : p_X7_is F R b pr tm cn sm ac re kn p0 p1 = some (cd, r, R', b', pr', tm', cn', sm', ac', re', kn')) : zMxi l yX7_is wsX7_is 7 112 2 12 D (zT cJ cI cO cB) [.ref (a 0), .int p0, .int p1] (cW a cJ cI cO R b pr tm cn sm ac re kn) (cW a cJ cI cO R' b' pr' tm' cn' sm' ac' re' kn') cd (z01 r) := by
  intro sz
  delta zQxi zX
  refine vx_ofW (cc := cX7_is) (maxL := 4) (ret := (some .boolean)) (by decide) rfl ?_
  intro p e s m args below meth c s₁ B hml hnt hv
  obtain ⟨rfl, ⟨hsz, hP, hK, hD0⟩, hE⟩ := hv
  have hx := B.exec
  have hb := B.bytes
  have hr := B.returns
  have hts := atoms_spec (ws := wsX7_is) B.pre
  have hown : s.vm.findClass RX7 = some m.cls := findClass_of_methodNamed B.named
  have hlocks := B.notSynchronized
  subst hsz
  have hD := hD0.self (sz := s.heap.size)
  generalize hAe : va_A (cW a cJ cI cO R b pr tm cn sm ac re kn) s.heap.size = A at hD hE ⊢
  have hA : ∀ q : Nat, s.heap.size ≤ q → A q := fun q h => by rw [← hAe]; exact Or.inr h
  have hS : va_S A s.heap s.heap [] := va_S.rf
  have hl := lv_entry ([.ref (a 0), .int p0, .int p1]) (n := 4) (Nat.le_of_ble_eq_true rfl)
  rw [lg_entry_eq]
  generalize (lg_sl ([.ref (a 0), .int p0, .int p1]) ++ List.replicate (4 - (lg_sl ([.ref (a 0), .int p0, .int p1])).length) Slot.unset).toArray = ls at hl ⊢
  replace hl : lv_has ls 4 [(0, .ref (a 0)), (1, .int p0), (2, .int p1)] := hl
  have kwX7 : ∀ w ∈ u_ws RX7 TX7 9, w ∈ wsX7_is := fun w h => List.mem_cons_of_mem _ (List.mem_append_left _ (List.mem_append_left _ (List.mem_append_left _ (List.mem_append_left _ (List.mem_append_right _ (List.mem_cons_of_mem _ (List.mem_append_left _ (List.mem_append_right _ h))))))))
  have kf_42 := hts (.fieldLink RX7 42 "Divisorwork" "maker" "LDivisorwork$Maker;") (zmem 1 rfl)
  have kf_16 := hts (.fieldLink RX7 16 "Divisorwork" "scratch" "LDivisorwork$Row;") (zmem 2 rfl)
  replace h : (zb2 (p_X7_rowOf p0) (fun cd1 r2 => (if cd1 = 0 then (zb1 (p_X7_need p1 (0 : Int32) (3 : Int32)) (fun cd4 => (if cd4 = 0 then (if p1 = (0 : Int32) then (zb10 (p_X0_isByPrimes F R b pr tm cn sm ac re kn r2 false) (fun r6 R_7 b_8 pr_9 tm_10 cn_11 sm_12 ac_13 re_14 kn_15 => (some (0, r6, R_7, b_8, pr_9, tm_10, cn_11, sm_12, ac_13, re_14, kn_15)))) else (if p1 = (1 : Int32) then (zb10 (p_X0_isByPrimes F R b pr tm cn sm ac re kn r2 true) (fun r17 R_18 b_19 pr_20 tm_21 cn_22 sm_23 ac_24 re_25 kn_26 => (some (0, r17, R_18, b_19, pr_20, tm_21, cn_22, sm_23, ac_24, re_25, kn_26)))) else (if p1 = (2 : Int32) then (zb1 (p_X0_hasInverse R r2) (fun r28 => (some (0, r28, R, b, pr, tm, cn, sm, ac, re, kn)))) else (zb3 (p_X0_layInverse F R b r2 4) (fun r30 R_31 b_32 => (some (0, r30, R_31, b_32, pr, tm, cn, sm, ac, re, kn))))))) else (some (cd4, false, R, b, pr, tm, cn, sm, ac, re, kn))))) else (some (cd1, false, R, b, pr, tm, cn, sm, ac, re, kn))))) = some (cd, r, R', b', pr', tm', cn', sm', ac', re', kn') := h
  obtain ⟨H, hHe⟩ : ∃ H, H = s.heap := ⟨_, rfl⟩
  rw [← hHe] at hP
  replace hS : va_S A s.heap H [] := by rw [hHe]; exact hS
  refine zheap hHe ?_
  refine lv_aload_n hx hb dX7_is_0 rfl (lv_at hl 0 rfl) ?_
  refine lv_iload_n hx hb dX7_is_1 rfl (lv_at hl 1 rfl) ?_
  obtain ⟨cd1, r2, e3, h⟩ := zb2_some h
  refine zxgor (vx_runV (As := [.int p0]) (rest := []) ⟨hx, hb, hml, hown, hts⟩ (c_X7_rowOf l D a cJ cI cO cB R b pr tm cn sm ac re kn p0 cd1 r2 hlt e3 H.size) (cwV 1 hts gX7_is_X7_rowOf rfl rfl rfl hdV_X7_rowOf ⟨Nat.le_of_ble_eq_true rfl, Nat.le_of_ble_eq_true rfl⟩) (zxpreV hE hS (zfree hD hS hA) (q0 := 0) (ci := 7) (T := TX7) (N := 9) hK hP hD rfl rfl [.int p0]) rfl rfl hl.1 rfl (lv_room (Nat.le_of_ble_eq_true rfl)) dX7_is_2 ⟨Nat.le_of_ble_eq_true rfl, Nat.le_of_ble_eq_true rfl⟩) (zfree hD hS hA) (zjW hD hS hA) hS (fun k02 => ?_) (fun k02 H locs hP hD hS => ?_)
  · replace h := zif_f h k02
    have g0 := Option.some.inj h
    obtain ⟨h1, g1⟩ := Prod.mk.inj g0
    obtain ⟨h2, g2⟩ := Prod.mk.inj g1
    obtain ⟨h3, g3⟩ := Prod.mk.inj g2
    obtain ⟨h4, g4⟩ := Prod.mk.inj g3
    obtain ⟨h5, g5⟩ := Prod.mk.inj g4
    obtain ⟨h6, g6⟩ := Prod.mk.inj g5
    obtain ⟨h7, g7⟩ := Prod.mk.inj g6
    obtain ⟨h8, g8⟩ := Prod.mk.inj g7
    obtain ⟨h9, g9⟩ := Prod.mk.inj g8
    obtain ⟨h10, g10⟩ := Prod.mk.inj g9
    subst h1
    subst h2
    subst h3
    subst h4
    subst h5
    subst h6
    subst h7
    subst h8
    subst h9
    subst h10
    subst g10
    exact zxout hnt hlocks k02 hK (Nat.le_of_ble_eq_true rfl) (Nat.le_of_ble_eq_true rfl) k02
  · replace h := zif_t h k02
    replace hP : va_P D vwCl (cW a cJ cI cO R b pr tm cn sm ac re kn) H := hP
    replace hD : va_D A (cW a cJ cI cO R b pr tm cn sm ac re kn) := hD
    refine lv_astore_n (lv' := [(3, .ref (a (2 + r2))), (0, .ref (a 0)), (1, .int p0), (2, .int p1)]) hx hb dX7_is_5 rfl hl (by decide) rfl (fun ls hl => ?_)
    refine lv_iload_n hx hb dX7_is_6 rfl (lv_at hl 3 rfl) ?_
    refine lv_iconst (v := (0 : Int32)) hx hb dX7_is_7 (by decide) ?_
    refine lv_iconst (v := (3 : Int32)) hx hb dX7_is_8 (by decide) ?_
    obtain ⟨cd4, e5, h⟩ := zb1_some h
    refine zxgov (vx_runS (As := [.int p1, .int (0 : Int32), .int (3 : Int32)]) (rest := []) ⟨hx, hb, hml, hown, hts⟩ (c_X7_need l D cJ cI cO cB p1 (0 : Int32) (3 : Int32) cd4 hlt e5 H.size) (va_cwS 3 hts gX7_is_X7_need rfl rfl rfl hdS_X7_need ⟨Nat.le_of_ble_eq_true rfl, Nat.le_of_ble_eq_true rfl⟩) (zxpreS hE hS (zf0 hS hA) hK zP0 (zD0 (A := A)) [.int p1, .int (0 : Int32), .int (3 : Int32)]) rfl rfl hl.1 rfl (lv_room (Nat.le_of_ble_eq_true rfl)) dX7_is_9 ⟨Nat.le_of_ble_eq_true rfl, Nat.le_of_ble_eq_true rfl⟩) (zf0 hS hA) (zjE hP hD) hS (fun k09 => ?_) (fun k09 H locs hP hD hS => ?_)
    · replace h := zif_f h k09
      have g0 := Option.some.inj h
      obtain ⟨h1, g1⟩ := Prod.mk.inj g0
      obtain ⟨h2, g2⟩ := Prod.mk.inj g1
      obtain ⟨h3, g3⟩ := Prod.mk.inj g2
      obtain ⟨h4, g4⟩ := Prod.mk.inj g3
      obtain ⟨h5, g5⟩ := Prod.mk.inj g4
      obtain ⟨h6, g6⟩ := Prod.mk.inj g5
      obtain ⟨h7, g7⟩ := Prod.mk.inj g6
      obtain ⟨h8, g8⟩ := Prod.mk.inj g7
      obtain ⟨h9, g9⟩ := Prod.mk.inj g8
      obtain ⟨h10, g10⟩ := Prod.mk.inj g9
      subst h1
      subst h2
      subst h3
      subst h4
      subst h5
      subst h6
      subst h7
      subst h8
      subst h9
      subst h10
      subst g10
      exact zxout hnt hlocks k09 hK (Nat.le_of_ble_eq_true rfl) (Nat.le_of_ble_eq_true rfl) k09
    · replace h := zif_t h k09
      refine lv_iload_n hx hb dX7_is_12 rfl (lv_at hl 3 rfl) ?_
      by_cases c13_0 : p1 = (0 : Int32)
      · replace h := zif_t h c13_0
        refine lv_tableIn (off := 27) (tgt := 40) hx hb dX7_is_13 (by rw [c13_0]; decide) (by rw [c13_0]; decide) (by rw [c13_0]; rfl) (by decide) ?_
        refine lv_aload_n hx hb dX7_is_40 rfl (lv_at hl 1 rfl) ?_
        refine va_get (D := D) (ci := 7) (v := .ref (a 16)) (C := RX7) (T := TX7) (N := 9) hx hb hts kwX7 hown hK hP 0 rfl rfl 5 (by decide) kf_42 (fun _ h9 => h9) rfl dX7_is_41 ?_
        refine lv_aload_n hx hb dX7_is_44 rfl (lv_at hl 0 rfl) ?_
        refine lv_iconst (v := (0 : Int32)) hx hb dX7_is_45 (by decide) ?_
        obtain ⟨r6, R_7, b_8, pr_9, tm_10, cn_11, sm_12, ac_13, re_14, kn_15, e16, h⟩ := zb10_some h
        refine zgoi (va_runV (As := [.ref (a (2 + r2)), .int (0 : Int32)]) (rest := []) ⟨hx, hb, hml, hown, hts⟩ (c_X0_isByPrimes l D a cJ cI cO cB R b pr tm cn sm ac re kn F r2 false (zrow_lt e3 k02) r6 R_7 b_8 pr_9 tm_10 cn_11 sm_12 ac_13 re_14 kn_15 e16 H.size) (cwV 2 hts gX7_is_X0_isByPrimes rfl rfl rfl hdV_X0_isByPrimes ⟨Nat.le_of_ble_eq_true rfl, Nat.le_of_ble_eq_true rfl⟩) (zpreV (q0 := 16) (ci := 2) (T := TX0) (N := 2) hK hP hD rfl rfl [.ref (a (2 + r2)), .int (0 : Int32)]) rfl rfl hl.1 rfl (lv_room (Nat.le_of_ble_eq_true rfl)) dX7_is_46 ⟨Nat.le_of_ble_eq_true rfl, Nat.le_of_ble_eq_true rfl⟩) (zfree hD hS hA) (zjW hD hS hA) hS (fun H locs hP hD hS => ?_)
        replace hP : va_P D vwCl (cW a cJ cI cO R_7 b_8 pr_9 tm_10 cn_11 sm_12 ac_13 re_14 kn_15) H := hP
        replace hD : va_D A (cW a cJ cI cO R_7 b_8 pr_9 tm_10 cn_11 sm_12 ac_13 re_14 kn_15) := hD
        have g0 := Option.some.inj h
        obtain ⟨h1, g1⟩ := Prod.mk.inj g0
        obtain ⟨h2, g2⟩ := Prod.mk.inj g1
        obtain ⟨h3, g3⟩ := Prod.mk.inj g2
        obtain ⟨h4, g4⟩ := Prod.mk.inj g3
        obtain ⟨h5, g5⟩ := Prod.mk.inj g4
        obtain ⟨h6, g6⟩ := Prod.mk.inj g5
        obtain ⟨h7, g7⟩ := Prod.mk.inj g6
        obtain ⟨h8, g8⟩ := Prod.mk.inj g7
        obtain ⟨h9, g9⟩ := Prod.mk.inj g8
        obtain ⟨h10, g10⟩ := Prod.mk.inj g9
        subst h1
        subst h2
        subst h3
        subst h4
        subst h5
        subst h6
        subst h7
        subst h8
        subst h9
        subst h10
        subst g10
        refine vx_ret ?_
        exact W.zret (v := (z01 r6)) hx hb hr (z01_nar r6) (fun t ht hW => ⟨⟨(z01 r6), (), rfl, ⟨rfl, rfl⟩, by rw [ht]; exact hP, va_K.moved hW.alike hK, hD⟩, hS.F ht⟩) hS.2.2 dX7_is_49
      · replace h := zif_f h c13_0
        by_cases c13_1 : p1 = (1 : Int32)
        · replace h := zif_t h c13_1
          refine lv_tableIn (off := 37) (tgt := 50) hx hb dX7_is_13 (by rw [c13_1]; decide) (by rw [c13_1]; decide) (by rw [c13_1]; rfl) (by decide) ?_
          refine lv_aload_n hx hb dX7_is_50 rfl (lv_at hl 1 rfl) ?_
          refine va_get (D := D) (ci := 7) (v := .ref (a 16)) (C := RX7) (T := TX7) (N := 9) hx hb hts kwX7 hown hK hP 0 rfl rfl 5 (by decide) kf_42 (fun _ h9 => h9) rfl dX7_is_51 ?_
          refine lv_aload_n hx hb dX7_is_54 rfl (lv_at hl 0 rfl) ?_
          refine lv_iconst (v := (1 : Int32)) hx hb dX7_is_55 (by decide) ?_
          obtain ⟨r17, R_18, b_19, pr_20, tm_21, cn_22, sm_23, ac_24, re_25, kn_26, e27, h⟩ := zb10_some h
          refine zgoi (va_runV (As := [.ref (a (2 + r2)), .int (1 : Int32)]) (rest := []) ⟨hx, hb, hml, hown, hts⟩ (c_X0_isByPrimes l D a cJ cI cO cB R b pr tm cn sm ac re kn F r2 true (zrow_lt e3 k02) r17 R_18 b_19 pr_20 tm_21 cn_22 sm_23 ac_24 re_25 kn_26 e27 H.size) (cwV 2 hts gX7_is_X0_isByPrimes rfl rfl rfl hdV_X0_isByPrimes ⟨Nat.le_of_ble_eq_true rfl, Nat.le_of_ble_eq_true rfl⟩) (zpreV (q0 := 16) (ci := 2) (T := TX0) (N := 2) hK hP hD rfl rfl [.ref (a (2 + r2)), .int (1 : Int32)]) rfl rfl hl.1 rfl (lv_room (Nat.le_of_ble_eq_true rfl)) dX7_is_56 ⟨Nat.le_of_ble_eq_true rfl, Nat.le_of_ble_eq_true rfl⟩) (zfree hD hS hA) (zjW hD hS hA) hS (fun H locs hP hD hS => ?_)
          replace hP : va_P D vwCl (cW a cJ cI cO R_18 b_19 pr_20 tm_21 cn_22 sm_23 ac_24 re_25 kn_26) H := hP
          replace hD : va_D A (cW a cJ cI cO R_18 b_19 pr_20 tm_21 cn_22 sm_23 ac_24 re_25 kn_26) := hD
          have g0 := Option.some.inj h
          obtain ⟨h1, g1⟩ := Prod.mk.inj g0
          obtain ⟨h2, g2⟩ := Prod.mk.inj g1
          obtain ⟨h3, g3⟩ := Prod.mk.inj g2
          obtain ⟨h4, g4⟩ := Prod.mk.inj g3
          obtain ⟨h5, g5⟩ := Prod.mk.inj g4
          obtain ⟨h6, g6⟩ := Prod.mk.inj g5
          obtain ⟨h7, g7⟩ := Prod.mk.inj g6
          obtain ⟨h8, g8⟩ := Prod.mk.inj g7
          obtain ⟨h9, g9⟩ := Prod.mk.inj g8
          obtain ⟨h10, g10⟩ := Prod.mk.inj g9
          subst h1
          subst h2
          subst h3
          subst h4
          subst h5
          subst h6
          subst h7
          subst h8
          subst h9
          subst h10
          subst g10
          refine vx_ret ?_
          exact W.zret (v := (z01 r17)) hx hb hr (z01_nar r17) (fun t ht hW => ⟨⟨(z01 r17), (), rfl, ⟨rfl, rfl⟩, by rw [ht]; exact hP, va_K.moved hW.alike hK, hD⟩, hS.F ht⟩) hS.2.2 dX7_is_59
        · replace h := zif_f h c13_1
          by_cases c13_2 : p1 = (2 : Int32)
          · replace h := zif_t h c13_2
            refine lv_tableIn (off := 47) (tgt := 60) hx hb dX7_is_13 (by rw [c13_2]; decide) (by rw [c13_2]; decide) (by rw [c13_2]; rfl) (by decide) ?_
            refine lv_aload_n hx hb dX7_is_60 rfl (lv_at hl 1 rfl) ?_
            refine va_get (D := D) (ci := 7) (v := .ref (a 16)) (C := RX7) (T := TX7) (N := 9) hx hb hts kwX7 hown hK hP 0 rfl rfl 5 (by decide) kf_42 (fun _ h9 => h9) rfl dX7_is_61 ?_
            refine lv_aload_n hx hb dX7_is_64 rfl (lv_at hl 0 rfl) ?_
            obtain ⟨r28, e29, h⟩ := zb1_some h
            refine zgoi (va_runV (As := [.ref (a (2 + r2))]) (rest := []) ⟨hx, hb, hml, hown, hts⟩ (c_X0_hasInverse l D a cJ cI cO cB R b pr tm cn sm ac re kn r2 (zrow_lt e3 k02) r28 e29 H.size) (cwV 1 hts gX7_is_X0_hasInverse rfl rfl rfl hdV_X0_hasInverse ⟨Nat.le_of_ble_eq_true rfl, Nat.le_of_ble_eq_true rfl⟩) (zpreV (q0 := 16) (ci := 2) (T := TX0) (N := 2) hK hP hD rfl rfl [.ref (a (2 + r2))]) rfl rfl hl.1 rfl (lv_room (Nat.le_of_ble_eq_true rfl)) dX7_is_65 ⟨Nat.le_of_ble_eq_true rfl, Nat.le_of_ble_eq_true rfl⟩) (zfree hD hS hA) (zjW hD hS hA) hS (fun H locs hP hD hS => ?_)
            replace hP : va_P D vwCl (cW a cJ cI cO R b pr tm cn sm ac re kn) H := hP
            replace hD : va_D A (cW a cJ cI cO R b pr tm cn sm ac re kn) := hD
            have g0 := Option.some.inj h
            obtain ⟨h1, g1⟩ := Prod.mk.inj g0
            obtain ⟨h2, g2⟩ := Prod.mk.inj g1
            obtain ⟨h3, g3⟩ := Prod.mk.inj g2
            obtain ⟨h4, g4⟩ := Prod.mk.inj g3
            obtain ⟨h5, g5⟩ := Prod.mk.inj g4
            obtain ⟨h6, g6⟩ := Prod.mk.inj g5
            obtain ⟨h7, g7⟩ := Prod.mk.inj g6
            obtain ⟨h8, g8⟩ := Prod.mk.inj g7
            obtain ⟨h9, g9⟩ := Prod.mk.inj g8
            obtain ⟨h10, g10⟩ := Prod.mk.inj g9
            subst h1
            subst h2
            subst h3
            subst h4
            subst h5
            subst h6
            subst h7
            subst h8
            subst h9
            subst h10
            subst g10
            refine vx_ret ?_
            exact W.zret (v := (z01 r28)) hx hb hr (z01_nar r28) (fun t ht hW => ⟨⟨(z01 r28), (), rfl, ⟨rfl, rfl⟩, by rw [ht]; exact hP, va_K.moved hW.alike hK, hD⟩, hS.F ht⟩) hS.2.2 dX7_is_68
          · replace h := zif_f h c13_2
            have t0 := lv_neT c13_0 (a := 0) (by decide)
            have t1 := lv_neT c13_1 (a := 1) (by decide)
            have t2 := lv_neT c13_2 (a := 2) (by decide)
            refine lv_tableOut (tgt := 69) hx hb dX7_is_13 (by omega) (by decide) ?_
            refine lv_aload_n hx hb dX7_is_69 rfl (lv_at hl 1 rfl) ?_
            refine va_get (D := D) (ci := 7) (v := .ref (a 16)) (C := RX7) (T := TX7) (N := 9) hx hb hts kwX7 hown hK hP 0 rfl rfl 5 (by decide) kf_42 (fun _ h9 => h9) rfl dX7_is_70 ?_
            refine lv_aload_n hx hb dX7_is_73 rfl (lv_at hl 0 rfl) ?_
            refine lv_aload_n hx hb dX7_is_74 rfl (lv_at hl 1 rfl) ?_
            refine va_get (D := D) (ci := 7) (v := .ref (a 6)) (C := RX7) (T := TX7) (N := 9) hx hb hts kwX7 hown hK hP 0 rfl rfl 1 (by decide) kf_16 (fun _ h9 => h9) rfl dX7_is_75 ?_
            obtain ⟨r30, R_31, b_32, e33, h⟩ := zb3_some h
            refine zgoi (va_runV (As := [.ref (a (2 + r2)), .ref (a 6)]) (rest := []) ⟨hx, hb, hml, hown, hts⟩ (c_X0_layInverse l D a cJ cI cO cB R b pr tm cn sm ac re kn F r2 4 (zrow_lt e3 k02) zlt4 r30 R_31 b_32 e33 H.size) (cwV 2 hts gX7_is_X0_layInverse rfl rfl rfl hdV_X0_layInverse ⟨Nat.le_of_ble_eq_true rfl, Nat.le_of_ble_eq_true rfl⟩) (zpreV (q0 := 16) (ci := 2) (T := TX0) (N := 2) hK hP hD rfl rfl [.ref (a (2 + r2)), .ref (a 6)]) rfl rfl hl.1 rfl (lv_room (Nat.le_of_ble_eq_true rfl)) dX7_is_78 ⟨Nat.le_of_ble_eq_true rfl, Nat.le_of_ble_eq_true rfl⟩) (zfree hD hS hA) (zjW hD hS hA) hS (fun H locs hP hD hS => ?_)
            replace hP : va_P D vwCl (cW a cJ cI cO R_31 b_32 pr tm cn sm ac re kn) H := hP
            replace hD : va_D A (cW a cJ cI cO R_31 b_32 pr tm cn sm ac re kn) := hD
            have g0 := Option.some.inj h
            obtain ⟨h1, g1⟩ := Prod.mk.inj g0
            obtain ⟨h2, g2⟩ := Prod.mk.inj g1
            obtain ⟨h3, g3⟩ := Prod.mk.inj g2
            obtain ⟨h4, g4⟩ := Prod.mk.inj g3
            obtain ⟨h5, g5⟩ := Prod.mk.inj g4
            obtain ⟨h6, g6⟩ := Prod.mk.inj g5
            obtain ⟨h7, g7⟩ := Prod.mk.inj g6
            obtain ⟨h8, g8⟩ := Prod.mk.inj g7
            obtain ⟨h9, g9⟩ := Prod.mk.inj g8
            obtain ⟨h10, g10⟩ := Prod.mk.inj g9
            subst h1
            subst h2
            subst h3
            subst h4
            subst h5
            subst h6
            subst h7
            subst h8
            subst h9
            subst h10
            subst g10
            refine vx_ret ?_
            exact W.zret (v := (z01 r30)) hx hb hr (z01_nar r30) (fun t ht hW => ⟨⟨(z01 r30), (), rfl, ⟨rfl, rfl⟩, by rw [ht]; exact hP, va_K.moved hW.alike hK, hD⟩, hS.F ht⟩) hS.2.2 dX7_is_81

noncomputable def p_X7_needSizes (F : Nat) (R : Nat → Nat → Int64) (b : Bool) (pr : Nat → Int32) (tm : Nat → Int32) (cn : Int32) (sm : Nat → Int32) (ac : Int32) (re : Int32) (kn : Int32) (p0 : Nat) (p1 : Int32) (p2 : Int32) : Option (Nat × (Nat → Nat → Int64) × Bool × (Nat → Int32) × (Nat → Int32) × Int32 × (Nat → Int32) × Int32 × Int32 × Int32) := (zb10 (p_X4_isWithin F R b pr tm cn sm ac re kn p0 p1 (p2.toInt64)) (fun r1 R_2 b_3 pr_4 tm_5 cn_6 sm_7 ac_8 re_9 kn_10 => (if ¬ (z01 r1) = 0 then (some (0, R_2, b_3, pr_4, tm_5, cn_6, sm_7, ac_8, re_9, kn_10)) else (some (3, R_2, b_3, pr_4, tm_5, cn_6, sm_7, ac_8, re_9, kn_10)))))
theorem hdS_X7_needSizes : yX7_needSizes.cls ≠ "java/lang/invoke/MethodHandle" ∧ yX7_needSizes.cls ≠ "java/lang/invoke/VarHandle" ∧ (parseMethodDescriptor yX7_needSizes.desc).map (fun d => d.parameters.length) = some 3 := by decide +kernel
set_option maxHeartbeats 4000000 in
set_option maxRecDepth 100000 in
theorem c_X7_needSizes (l : Launch) (D : va_G) (a : Nat → Nat) (cJ cI cO cB : ClassId) (R : Nat → Nat → Int64) (b : Bool) (pr : Nat → Int32) (tm : Nat → Int32) (cn : Int32) (sm : Nat → Int32) (ac : Int32) (re : Int32) (kn : Int32) (F : Nat) (p0 : Nat) (p1 : Int32) (p2 : Int32) (hp0 : p0 < 6) (cd : Nat) (R' : Nat → Nat → Int64) (b' : Bool) (pr' : Nat → Int32) (tm' : Nat → Int32) (cn' : Int32) (sm' : Nat → Int32) (ac' : Int32) (re' : Int32) (kn' : Int32) (hlt : l.stackTraces = false) (h : p_X7_needSizes F R b pr tm cn sm ac re kn p0 p1 p2 = some (cd, R', b', pr', tm', cn', sm', ac', re', kn')) : zMxv l yX7_needSizes wsX7_needSizes 6 90 1 6 D (zT cJ cI cO cB) [.ref (a (2 + p0)), .int p1, .int p2] (cW a cJ cI cO R b pr tm cn sm ac re kn) (cW a cJ cI cO R' b' pr' tm' cn' sm' ac' re' kn') cd := by
  intro sz
  delta zQxv zX
  refine vx_ofW (cc := cX7_needSizes) (maxL := 3) (ret := none) (by decide) rfl ?_
  intro p e s m args below meth c s₁ B hml hnt hv
  obtain ⟨rfl, ⟨hsz, hP, hK, hD0⟩, hE⟩ := hv
  have hx := B.exec
  have hb := B.bytes
  have hr := B.returns
  have hts := atoms_spec (ws := wsX7_needSizes) B.pre
  have hown : s.vm.findClass RX7 = some m.cls := findClass_of_methodNamed B.named
  have hlocks := B.notSynchronized
  subst hsz
  have hD := hD0.self (sz := s.heap.size)
  generalize hAe : va_A (cW a cJ cI cO R b pr tm cn sm ac re kn) s.heap.size = A at hD hE ⊢
  have hA : ∀ q : Nat, s.heap.size ≤ q → A q := fun q h => by rw [← hAe]; exact Or.inr h
  have hS : va_S A s.heap s.heap [] := va_S.rf
  have hl := lv_entry ([.ref (a (2 + p0)), .int p1, .int p2]) (n := 3) (Nat.le_of_ble_eq_true rfl)
  rw [lg_entry_eq]
  generalize (lg_sl ([.ref (a (2 + p0)), .int p1, .int p2]) ++ List.replicate (3 - (lg_sl ([.ref (a (2 + p0)), .int p1, .int p2])).length) Slot.unset).toArray = ls at hl ⊢
  replace hl : lv_has ls 3 [(0, .ref (a (2 + p0))), (1, .int p1), (2, .int p2)] := hl
  have kc_138 := hts (.classLink RX7 138 "java/lang/IllegalStateException") (zmem 1 rfl)
  have kini3 := hts (.initialized "java/lang/IllegalStateException") (zmem 2 rfl)
  replace h : (zb10 (p_X4_isWithin F R b pr tm cn sm ac re kn p0 p1 (p2.toInt64)) (fun r1 R_2 b_3 pr_4 tm_5 cn_6 sm_7 ac_8 re_9 kn_10 => (if ¬ (z01 r1) = 0 then (some (0, R_2, b_3, pr_4, tm_5, cn_6, sm_7, ac_8, re_9, kn_10)) else (some (3, R_2, b_3, pr_4, tm_5, cn_6, sm_7, ac_8, re_9, kn_10))))) = some (cd, R', b', pr', tm', cn', sm', ac', re', kn') := h
  obtain ⟨H, hHe⟩ : ∃ H, H = s.heap := ⟨_, rfl⟩
  rw [← hHe] at hP
  replace hS : va_S A s.heap H [] := by rw [hHe]; exact hS
  refine zheap hHe ?_
  refine lv_aload_n hx hb dX7_needSizes_0 rfl (lv_at hl 0 rfl) ?_
  refine lv_iload_n hx hb dX7_needSizes_1 rfl (lv_at hl 1 rfl) ?_
  refine lv_iload_n hx hb dX7_needSizes_2 rfl (lv_at hl 2 rfl) ?_
  refine lv_i2l (v := p2.toInt64) hx hb dX7_needSizes_3 rfl ?_
  obtain ⟨r1, R_2, b_3, pr_4, tm_5, cn_6, sm_7, ac_8, re_9, kn_10, e11, h⟩ := zb10_some h
  refine zgoi (va_runV (As := [.int p1, .long (p2.toInt64)]) (rest := []) ⟨hx, hb, hml, hown, hts⟩ (c_X4_isWithin l D a cJ cI cO cB R b pr tm cn sm ac re kn F p0 p1 (p2.toInt64) hp0 r1 R_2 b_3 pr_4 tm_5 cn_6 sm_7 ac_8 re_9 kn_10 e11 H.size) (cwV 2 hts gX7_needSizes_X4_isWithin rfl rfl rfl hdV_X4_isWithin ⟨Nat.le_of_ble_eq_true rfl, Nat.le_of_ble_eq_true rfl⟩) (zpreV (q0 := 2 + p0) (ci := 6) (T := TX4) (N := 1) hK hP hD (cW_row hp0) rfl [.int p1, .long (p2.toInt64)]) rfl rfl hl.1 rfl (lv_room (Nat.le_of_ble_eq_true rfl)) dX7_needSizes_4 ⟨Nat.le_of_ble_eq_true rfl, Nat.le_of_ble_eq_true rfl⟩) (zfree hD hS hA) (zjW hD hS hA) hS (fun H locs hP hD hS => ?_)
  replace hP : va_P D vwCl (cW a cJ cI cO R_2 b_3 pr_4 tm_5 cn_6 sm_7 ac_8 re_9 kn_10) H := hP
  replace hD : va_D A (cW a cJ cI cO R_2 b_3 pr_4 tm_5 cn_6 sm_7 ac_8 re_9 kn_10) := hD
  refine lv_if_ne (tgt := 21) hx hb dX7_needSizes_7 (by decide) (fun c7 => ?_) (fun c7 => ?_)
  · replace h := zif_t h c7
    have g0 := Option.some.inj h
    obtain ⟨h1, g1⟩ := Prod.mk.inj g0
    obtain ⟨h2, g2⟩ := Prod.mk.inj g1
    obtain ⟨h3, g3⟩ := Prod.mk.inj g2
    obtain ⟨h4, g4⟩ := Prod.mk.inj g3
    obtain ⟨h5, g5⟩ := Prod.mk.inj g4
    obtain ⟨h6, g6⟩ := Prod.mk.inj g5
    obtain ⟨h7, g7⟩ := Prod.mk.inj g6
    obtain ⟨h8, g8⟩ := Prod.mk.inj g7
    obtain ⟨h9, g9⟩ := Prod.mk.inj g8
    subst h1
    subst h2
    subst h3
    subst h4
    subst h5
    subst h6
    subst h7
    subst h8
    subst h9
    subst g9
    refine W.widen (k := 1) (n := 6) (by decide) (by decide) ?_
    refine vx_ret ?_
    exact W.vret hx hb hr (fun t ht hW => ⟨⟨(), rfl, rfl, by rw [ht]; exact hP, va_K.moved hW.alike hK, hD⟩, hS.F ht⟩) hS.2.2 dX7_needSizes_21
  · replace h := zif_fn h c7
    have g0 := Option.some.inj h
    obtain ⟨h1, g1⟩ := Prod.mk.inj g0
    obtain ⟨h2, g2⟩ := Prod.mk.inj g1
    obtain ⟨h3, g3⟩ := Prod.mk.inj g2
    obtain ⟨h4, g4⟩ := Prod.mk.inj g3
    obtain ⟨h5, g5⟩ := Prod.mk.inj g4
    obtain ⟨h6, g6⟩ := Prod.mk.inj g5
    obtain ⟨h7, g7⟩ := Prod.mk.inj g6
    obtain ⟨h8, g8⟩ := Prod.mk.inj g7
    obtain ⟨h9, g9⟩ := Prod.mk.inj g8
    subst h1
    subst h2
    subst h3
    subst h4
    subst h5
    subst h6
    subst h7
    subst h8
    subst h9
    subst g9
    obtain ⟨sa, hstr⟩ := hE.2.2.1.2.2.1
    refine vx_throwSW (own := RX7) (cls := "java/lang/IllegalStateException") (text := zx_s3) (names := ["java/lang/RuntimeException", "java/lang/Exception"]) (ik := 138) (is := 273) (ic := 142) (mc := 1) (ms := 6) (sa := sa) hx hb hlt hown (by decide +kernel) (by decide +kernel) kc_138 kini3 hstr (vx_hat (L := vx_atS RX7 142 "java/lang/IllegalStateException" ["java/lang/RuntimeException", "java/lang/Exception"]) (B := [.castable (zxn 3) (zxn 3), .declares (Bundle.initS "java/lang/RuntimeException"), .declares (Bundle.initS "java/lang/Exception"), .declares (Bundle.initS Bundle.tN)]) (fun w hw => hts w ((by decide +kernel : ∀ w ∈ (vx_atS RX7 142 "java/lang/IllegalStateException" ["java/lang/RuntimeException", "java/lang/Exception"]).filter goodWord, w ∈ wsX7_needSizes) w hw)) (by decide +kernel) (vx_c (va_Nw.use rfl hE.2.2.1.2.2.2.2.2.2.2.1) (vx_c (va_Nw.use rfl hE.2.2.1.2.2.2.2.2.2.2.2.2.1) (vx_c (va_Nw.use rfl hE.2.2.1.2.2.2.2.2.2.2.2.2.2.1) (vx_c (va_Nw.use rfl hE.2.2.1.2.2.2.2.2.2.2.2.2.2.2) vx_n))))) (by decide +kernel) hE.1 hE.2.1 hS (hl.1.trans hml.symm) dX7_needSizes_10 dX7_needSizes_13 dX7_needSizes_14 dX7_needSizes_17 dX7_needSizes_20 (fun x hx => (hnt x hx).elim) (Nat.le_of_ble_eq_true rfl) (Nat.le_of_ble_eq_true rfl) (Nat.le_of_ble_eq_true rfl) (Nat.le_of_ble_eq_true rfl) hlocks (zxthrow (by decide) hP hK hD hS) hS.2.2 (Nat.le_of_ble_eq_true rfl) (Nat.le_of_ble_eq_true rfl)

noncomputable def p_X7_tau (F : Nat) (pr : Nat → Int32) (tm : Nat → Int32) (cn : Int32) (p0 : Int32) (p1 : Int32) : Option (Nat × Int32 × (Nat → Int32) × (Nat → Int32) × Int32) := (zb1 (p_X7_need p0 (1 : Int32) (999 : Int32)) (fun cd1 => (if cd1 = 0 then (zb1 (p_X7_need p1 (0 : Int32) (2 : Int32)) (fun cd3 => (if cd3 = 0 then (if ¬ p1 = 0 then (if ¬ p1 = (1 : Int32) then (zb1 (p_X1_tauByPairs F p0) (fun r5 => (some (0, r5, pr, tm, cn)))) else (zb4 (p_X1_tauByPowers F pr tm p0) (fun r7 pr_8 tm_9 cn_10 => (some (0, r7, pr_8, tm_9, cn_10))))) else (zb1 (p_X1_tauOneByOne F p0) (fun r12 => (some (0, r12, pr, tm, cn))))) else (some (cd3, (0 : Int32), pr, tm, cn))))) else (some (cd1, (0 : Int32), pr, tm, cn)))))
theorem hdV_X7_tau : yX7_tau.cls = RX7 ∧ yX7_tau.cls ≠ "java/lang/invoke/MethodHandle" ∧ yX7_tau.cls ≠ "java/lang/invoke/VarHandle" ∧ (parseMethodDescriptor yX7_tau.desc).map (fun d => d.parameters.length) = some 2 := by decide +kernel
set_option maxHeartbeats 4000000 in
set_option maxRecDepth 100000 in
theorem c_X7_tau (l : Launch) (D : va_G) (a : Nat → Nat) (cJ cI cO cB : ClassId) (R : Nat → Nat → Int64) (b : Bool) (pr : Nat → Int32) (tm : Nat → Int32) (cn : Int32) (sm : Nat → Int32) (ac : Int32) (re : Int32) (kn : Int32) (F : Nat) (p0 : Int32) (p1 : Int32) (cd : Nat) (r : Int32) (pr' : Nat → Int32) (tm' : Nat → Int32) (cn' : Int32) (hlt : l.stackTraces = false) (h : p_X7_tau F pr tm cn p0 p1 = some (cd, r, pr', tm', cn')) : zMxi l yX7_tau wsX7_tau 7 112 2 12 D (zT cJ cI cO cB) [.ref (a 0), .int p0, .int p1] (cW a cJ cI cO R b pr tm cn sm ac re kn) (cW a cJ cI cO R b pr' tm' cn' sm ac re kn) cd r := by
  intro sz
  delta zQxi zX
  refine vx_ofW (cc := cX7_tau) (maxL := 3) (ret := (some .int)) (by decide) rfl ?_
  intro p e s m args below meth c s₁ B hml hnt hv
  obtain ⟨rfl, ⟨hsz, hP, hK, hD0⟩, hE⟩ := hv
  have hx := B.exec
  have hb := B.bytes
  have hr := B.returns
  have hts := atoms_spec (ws := wsX7_tau) B.pre
  have hown : s.vm.findClass RX7 = some m.cls := findClass_of_methodNamed B.named
  have hlocks := B.notSynchronized
  subst hsz
  have hD := hD0.self (sz := s.heap.size)
  generalize hAe : va_A (cW a cJ cI cO R b pr tm cn sm ac re kn) s.heap.size = A at hD hE ⊢
  have hA : ∀ q : Nat, s.heap.size ≤ q → A q := fun q h => by rw [← hAe]; exact Or.inr h
  have hS : va_S A s.heap s.heap [] := va_S.rf
  have hl := lv_entry ([.ref (a 0), .int p0, .int p1]) (n := 3) (Nat.le_of_ble_eq_true rfl)
  rw [lg_entry_eq]
  generalize (lg_sl ([.ref (a 0), .int p0, .int p1]) ++ List.replicate (3 - (lg_sl ([.ref (a 0), .int p0, .int p1])).length) Slot.unset).toArray = ls at hl ⊢
  replace hl : lv_has ls 3 [(0, .ref (a 0)), (1, .int p0), (2, .int p1)] := hl
  have kwX7 : ∀ w ∈ u_ws RX7 TX7 9, w ∈ wsX7_tau := fun w h => List.mem_cons_of_mem _ (List.mem_append_left _ (List.mem_append_left _ (List.mem_append_left _ (List.mem_append_left _ (List.mem_append_right _ h)))))
  have kf_33 := hts (.fieldLink RX7 33 "Divisorwork" "numbers" "LDivisorwork$Numbers;") (zmem 1 rfl)
  replace h : (zb1 (p_X7_need p0 (1 : Int32) (999 : Int32)) (fun cd1 => (if cd1 = 0 then (zb1 (p_X7_need p1 (0 : Int32) (2 : Int32)) (fun cd3 => (if cd3 = 0 then (if ¬ p1 = 0 then (if ¬ p1 = (1 : Int32) then (zb1 (p_X1_tauByPairs F p0) (fun r5 => (some (0, r5, pr, tm, cn)))) else (zb4 (p_X1_tauByPowers F pr tm p0) (fun r7 pr_8 tm_9 cn_10 => (some (0, r7, pr_8, tm_9, cn_10))))) else (zb1 (p_X1_tauOneByOne F p0) (fun r12 => (some (0, r12, pr, tm, cn))))) else (some (cd3, (0 : Int32), pr, tm, cn))))) else (some (cd1, (0 : Int32), pr, tm, cn))))) = some (cd, r, pr', tm', cn') := h
  obtain ⟨H, hHe⟩ : ∃ H, H = s.heap := ⟨_, rfl⟩
  rw [← hHe] at hP
  replace hS : va_S A s.heap H [] := by rw [hHe]; exact hS
  refine zheap hHe ?_
  refine lv_iload_n hx hb dX7_tau_0 rfl (lv_at hl 1 rfl) ?_
  refine lv_iconst (v := (1 : Int32)) hx hb dX7_tau_1 (by decide) ?_
  refine lv_sipush (v := (999 : Int32)) hx hb dX7_tau_2 (by decide) ?_
  obtain ⟨cd1, e2, h⟩ := zb1_some h
  refine zxgov (vx_runS (As := [.int p0, .int (1 : Int32), .int (999 : Int32)]) (rest := []) ⟨hx, hb, hml, hown, hts⟩ (c_X7_need l D cJ cI cO cB p0 (1 : Int32) (999 : Int32) cd1 hlt e2 H.size) (va_cwS 3 hts gX7_tau_X7_need rfl rfl rfl hdS_X7_need ⟨Nat.le_of_ble_eq_true rfl, Nat.le_of_ble_eq_true rfl⟩) (zxpreS hE hS (zf0 hS hA) hK zP0 (zD0 (A := A)) [.int p0, .int (1 : Int32), .int (999 : Int32)]) rfl rfl hl.1 rfl (lv_room (Nat.le_of_ble_eq_true rfl)) dX7_tau_5 ⟨Nat.le_of_ble_eq_true rfl, Nat.le_of_ble_eq_true rfl⟩) (zf0 hS hA) (zjE hP hD) hS (fun k05 => ?_) (fun k05 H locs hP hD hS => ?_)
  · replace h := zif_f h k05
    have g0 := Option.some.inj h
    obtain ⟨h1, g1⟩ := Prod.mk.inj g0
    obtain ⟨h2, g2⟩ := Prod.mk.inj g1
    obtain ⟨h3, g3⟩ := Prod.mk.inj g2
    obtain ⟨h4, g4⟩ := Prod.mk.inj g3
    subst h1
    subst h2
    subst h3
    subst h4
    subst g4
    exact zxout hnt hlocks k05 hK (Nat.le_of_ble_eq_true rfl) (Nat.le_of_ble_eq_true rfl) k05
  · replace h := zif_t h k05
    refine lv_iload_n hx hb dX7_tau_8 rfl (lv_at hl 2 rfl) ?_
    refine lv_iconst (v := (0 : Int32)) hx hb dX7_tau_9 (by decide) ?_
    refine lv_iconst (v := (2 : Int32)) hx hb dX7_tau_10 (by decide) ?_
    obtain ⟨cd3, e4, h⟩ := zb1_some h
    refine zxgov (vx_runS (As := [.int p1, .int (0 : Int32), .int (2 : Int32)]) (rest := []) ⟨hx, hb, hml, hown, hts⟩ (c_X7_need l D cJ cI cO cB p1 (0 : Int32) (2 : Int32) cd3 hlt e4 H.size) (va_cwS 3 hts gX7_tau_X7_need rfl rfl rfl hdS_X7_need ⟨Nat.le_of_ble_eq_true rfl, Nat.le_of_ble_eq_true rfl⟩) (zxpreS hE hS (zf0 hS hA) hK zP0 (zD0 (A := A)) [.int p1, .int (0 : Int32), .int (2 : Int32)]) rfl rfl hl.1 rfl (lv_room (Nat.le_of_ble_eq_true rfl)) dX7_tau_11 ⟨Nat.le_of_ble_eq_true rfl, Nat.le_of_ble_eq_true rfl⟩) (zf0 hS hA) (zjE hP hD) hS (fun k011 => ?_) (fun k011 H locs hP hD hS => ?_)
    · replace h := zif_f h k011
      have g0 := Option.some.inj h
      obtain ⟨h1, g1⟩ := Prod.mk.inj g0
      obtain ⟨h2, g2⟩ := Prod.mk.inj g1
      obtain ⟨h3, g3⟩ := Prod.mk.inj g2
      obtain ⟨h4, g4⟩ := Prod.mk.inj g3
      subst h1
      subst h2
      subst h3
      subst h4
      subst g4
      exact zxout hnt hlocks k011 hK (Nat.le_of_ble_eq_true rfl) (Nat.le_of_ble_eq_true rfl) k011
    · replace h := zif_t h k011
      refine lv_iload_n hx hb dX7_tau_14 rfl (lv_at hl 2 rfl) ?_
      refine lv_if_ne (tgt := 27) hx hb dX7_tau_15 (by decide) (fun c15 => ?_) (fun c15 => ?_)
      · replace h := zif_t h c15
        refine lv_iload_n hx hb dX7_tau_27 rfl (lv_at hl 2 rfl) ?_
        refine lv_iconst (v := (1 : Int32)) hx hb dX7_tau_28 (by decide) ?_
        refine lv_icmp_ne (tgt := 43) hx hb dX7_tau_29 (by decide) (fun c29 => ?_) (fun c29 => ?_)
        · replace h := zif_t h c29
          refine lv_aload_n hx hb dX7_tau_43 rfl (lv_at hl 0 rfl) ?_
          refine va_get (D := D) (ci := 7) (v := .ref (a 15)) (C := RX7) (T := TX7) (N := 9) hx hb hts kwX7 hown hK hP 0 rfl rfl 4 (by decide) kf_33 (fun _ h9 => h9) rfl dX7_tau_44 ?_
          refine lv_iload_n hx hb dX7_tau_47 rfl (lv_at hl 1 rfl) ?_
          obtain ⟨r5, e6, h⟩ := zb1_some h
          refine zgoi (va_runV (As := [.int p0]) (rest := []) ⟨hx, hb, hml, hown, hts⟩ (c_X1_tauByPairs l D a cJ cI cO cB R b pr tm cn sm ac re kn F p0 r5 e6 H.size) (cwV 1 hts gX7_tau_X1_tauByPairs rfl rfl rfl hdV_X1_tauByPairs ⟨Nat.le_of_ble_eq_true rfl, Nat.le_of_ble_eq_true rfl⟩) (zpreV (q0 := 15) (ci := 3) (T := TX1) (N := 2) hK hP hD rfl rfl [.int p0]) rfl rfl hl.1 rfl (lv_room (Nat.le_of_ble_eq_true rfl)) dX7_tau_48 ⟨Nat.le_of_ble_eq_true rfl, Nat.le_of_ble_eq_true rfl⟩) (zfree hD hS hA) (zjW hD hS hA) hS (fun H locs hP hD hS => ?_)
          replace hP : va_P D vwCl (cW a cJ cI cO R b pr tm cn sm ac re kn) H := hP
          replace hD : va_D A (cW a cJ cI cO R b pr tm cn sm ac re kn) := hD
          have g0 := Option.some.inj h
          obtain ⟨h1, g1⟩ := Prod.mk.inj g0
          obtain ⟨h2, g2⟩ := Prod.mk.inj g1
          obtain ⟨h3, g3⟩ := Prod.mk.inj g2
          obtain ⟨h4, g4⟩ := Prod.mk.inj g3
          subst h1
          subst h2
          subst h3
          subst h4
          subst g4
          refine vx_ret ?_
          exact W.iret (v := r5) hx hb hr (fun t ht hW => ⟨⟨r5, (), rfl, ⟨rfl, rfl⟩, by rw [ht]; exact hP, va_K.moved hW.alike hK, hD⟩, hS.F ht⟩) hS.2.2 dX7_tau_51
        · replace h := zif_fn h c29
          refine lv_aload_n hx hb dX7_tau_32 rfl (lv_at hl 0 rfl) ?_
          refine va_get (D := D) (ci := 7) (v := .ref (a 15)) (C := RX7) (T := TX7) (N := 9) hx hb hts kwX7 hown hK hP 0 rfl rfl 4 (by decide) kf_33 (fun _ h9 => h9) rfl dX7_tau_33 ?_
          refine lv_iload_n hx hb dX7_tau_36 rfl (lv_at hl 1 rfl) ?_
          obtain ⟨r7, pr_8, tm_9, cn_10, e11, h⟩ := zb4_some h
          refine zgoi (va_runV (As := [.int p0]) (rest := []) ⟨hx, hb, hml, hown, hts⟩ (c_X1_tauByPowers l D a cJ cI cO cB R b pr tm cn sm ac re kn F p0 r7 pr_8 tm_9 cn_10 e11 H.size) (cwV 1 hts gX7_tau_X1_tauByPowers rfl rfl rfl hdV_X1_tauByPowers ⟨Nat.le_of_ble_eq_true rfl, Nat.le_of_ble_eq_true rfl⟩) (zpreV (q0 := 15) (ci := 3) (T := TX1) (N := 2) hK hP hD rfl rfl [.int p0]) rfl rfl hl.1 rfl (lv_room (Nat.le_of_ble_eq_true rfl)) dX7_tau_37 ⟨Nat.le_of_ble_eq_true rfl, Nat.le_of_ble_eq_true rfl⟩) (zfree hD hS hA) (zjW hD hS hA) hS (fun H locs hP hD hS => ?_)
          replace hP : va_P D vwCl (cW a cJ cI cO R b pr_8 tm_9 cn_10 sm ac re kn) H := hP
          replace hD : va_D A (cW a cJ cI cO R b pr_8 tm_9 cn_10 sm ac re kn) := hD
          refine lv_goto (tgt := 51) hx hb dX7_tau_40 (by decide) ?_
          have g0 := Option.some.inj h
          obtain ⟨h1, g1⟩ := Prod.mk.inj g0
          obtain ⟨h2, g2⟩ := Prod.mk.inj g1
          obtain ⟨h3, g3⟩ := Prod.mk.inj g2
          obtain ⟨h4, g4⟩ := Prod.mk.inj g3
          subst h1
          subst h2
          subst h3
          subst h4
          subst g4
          refine vx_ret ?_
          exact W.iret (v := r7) hx hb hr (fun t ht hW => ⟨⟨r7, (), rfl, ⟨rfl, rfl⟩, by rw [ht]; exact hP, va_K.moved hW.alike hK, hD⟩, hS.F ht⟩) hS.2.2 dX7_tau_51
      · replace h := zif_fn h c15
        refine lv_aload_n hx hb dX7_tau_18 rfl (lv_at hl 0 rfl) ?_
        refine va_get (D := D) (ci := 7) (v := .ref (a 15)) (C := RX7) (T := TX7) (N := 9) hx hb hts kwX7 hown hK hP 0 rfl rfl 4 (by decide) kf_33 (fun _ h9 => h9) rfl dX7_tau_19 ?_
        refine lv_iload_n hx hb dX7_tau_22 rfl (lv_at hl 1 rfl) ?_
        obtain ⟨r12, e13, h⟩ := zb1_some h
        refine zgoi (va_runV (As := [.int p0]) (rest := []) ⟨hx, hb, hml, hown, hts⟩ (c_X1_tauOneByOne l D a cJ cI cO cB R b pr tm cn sm ac re kn F p0 r12 e13 H.size) (cwV 1 hts gX7_tau_X1_tauOneByOne rfl rfl rfl hdV_X1_tauOneByOne ⟨Nat.le_of_ble_eq_true rfl, Nat.le_of_ble_eq_true rfl⟩) (zpreV (q0 := 15) (ci := 3) (T := TX1) (N := 2) hK hP hD rfl rfl [.int p0]) rfl rfl hl.1 rfl (lv_room (Nat.le_of_ble_eq_true rfl)) dX7_tau_23 ⟨Nat.le_of_ble_eq_true rfl, Nat.le_of_ble_eq_true rfl⟩) (zfree hD hS hA) (zjW hD hS hA) hS (fun H locs hP hD hS => ?_)
        replace hP : va_P D vwCl (cW a cJ cI cO R b pr tm cn sm ac re kn) H := hP
        replace hD : va_D A (cW a cJ cI cO R b pr tm cn sm ac re kn) := hD
        have g0 := Option.some.inj h
        obtain ⟨h1, g1⟩ := Prod.mk.inj g0
        obtain ⟨h2, g2⟩ := Prod.mk.inj g1
        obtain ⟨h3, g3⟩ := Prod.mk.inj g2
        obtain ⟨h4, g4⟩ := Prod.mk.inj g3
        subst h1
        subst h2
        subst h3
        subst h4
        subst g4
        refine vx_ret ?_
        exact W.iret (v := r12) hx hb hr (fun t ht hW => ⟨⟨r12, (), rfl, ⟨rfl, rfl⟩, by rw [ht]; exact hP, va_K.moved hW.alike hK, hD⟩, hS.F ht⟩) hS.2.2 dX7_tau_26

noncomputable def p_X7_sigma (F : Nat) (pr : Nat → Int32) (tm : Nat → Int32) (cn : Int32) (p0 : Int32) (p1 : Int32) : Option (Nat × Int32 × (Nat → Int32) × (Nat → Int32) × Int32) := (zb1 (p_X7_need p0 (1 : Int32) (999 : Int32)) (fun cd1 => (if cd1 = 0 then (zb1 (p_X7_need p1 (0 : Int32) (1 : Int32)) (fun cd3 => (if cd3 = 0 then (if ¬ p1 = 0 then (zb4 (p_X1_sigmaByPowers F pr tm p0) (fun r5 pr_6 tm_7 cn_8 => (some (0, r5, pr_6, tm_7, cn_8)))) else (zb1 (p_X1_sigmaOneByOne F p0) (fun r10 => (some (0, r10, pr, tm, cn))))) else (some (cd3, (0 : Int32), pr, tm, cn))))) else (some (cd1, (0 : Int32), pr, tm, cn)))))
theorem hdV_X7_sigma : yX7_sigma.cls = RX7 ∧ yX7_sigma.cls ≠ "java/lang/invoke/MethodHandle" ∧ yX7_sigma.cls ≠ "java/lang/invoke/VarHandle" ∧ (parseMethodDescriptor yX7_sigma.desc).map (fun d => d.parameters.length) = some 2 := by decide +kernel
set_option maxHeartbeats 4000000 in
set_option maxRecDepth 100000 in
theorem c_X7_sigma (l : Launch) (D : va_G) (a : Nat → Nat) (cJ cI cO cB : ClassId) (R : Nat → Nat → Int64) (b : Bool) (pr : Nat → Int32) (tm : Nat → Int32) (cn : Int32) (sm : Nat → Int32) (ac : Int32) (re : Int32) (kn : Int32) (F : Nat) (p0 : Int32) (p1 : Int32) (cd : Nat) (r : Int32) (pr' : Nat → Int32) (tm' : Nat → Int32) (cn' : Int32) (hlt : l.stackTraces = false) (h : p_X7_sigma F pr tm cn p0 p1 = some (cd, r, pr', tm', cn')) : zMxi l yX7_sigma wsX7_sigma 7 112 2 12 D (zT cJ cI cO cB) [.ref (a 0), .int p0, .int p1] (cW a cJ cI cO R b pr tm cn sm ac re kn) (cW a cJ cI cO R b pr' tm' cn' sm ac re kn) cd r := by
  intro sz
  delta zQxi zX
  refine vx_ofW (cc := cX7_sigma) (maxL := 3) (ret := (some .int)) (by decide) rfl ?_
  intro p e s m args below meth c s₁ B hml hnt hv
  obtain ⟨rfl, ⟨hsz, hP, hK, hD0⟩, hE⟩ := hv
  have hx := B.exec
  have hb := B.bytes
  have hr := B.returns
  have hts := atoms_spec (ws := wsX7_sigma) B.pre
  have hown : s.vm.findClass RX7 = some m.cls := findClass_of_methodNamed B.named
  have hlocks := B.notSynchronized
  subst hsz
  have hD := hD0.self (sz := s.heap.size)
  generalize hAe : va_A (cW a cJ cI cO R b pr tm cn sm ac re kn) s.heap.size = A at hD hE ⊢
  have hA : ∀ q : Nat, s.heap.size ≤ q → A q := fun q h => by rw [← hAe]; exact Or.inr h
  have hS : va_S A s.heap s.heap [] := va_S.rf
  have hl := lv_entry ([.ref (a 0), .int p0, .int p1]) (n := 3) (Nat.le_of_ble_eq_true rfl)
  rw [lg_entry_eq]
  generalize (lg_sl ([.ref (a 0), .int p0, .int p1]) ++ List.replicate (3 - (lg_sl ([.ref (a 0), .int p0, .int p1])).length) Slot.unset).toArray = ls at hl ⊢
  replace hl : lv_has ls 3 [(0, .ref (a 0)), (1, .int p0), (2, .int p1)] := hl
  have kwX7 : ∀ w ∈ u_ws RX7 TX7 9, w ∈ wsX7_sigma := fun w h => List.mem_cons_of_mem _ (List.mem_append_left _ (List.mem_append_left _ (List.mem_append_left _ (List.mem_append_right _ h))))
  have kf_33 := hts (.fieldLink RX7 33 "Divisorwork" "numbers" "LDivisorwork$Numbers;") (zmem 1 rfl)
  replace h : (zb1 (p_X7_need p0 (1 : Int32) (999 : Int32)) (fun cd1 => (if cd1 = 0 then (zb1 (p_X7_need p1 (0 : Int32) (1 : Int32)) (fun cd3 => (if cd3 = 0 then (if ¬ p1 = 0 then (zb4 (p_X1_sigmaByPowers F pr tm p0) (fun r5 pr_6 tm_7 cn_8 => (some (0, r5, pr_6, tm_7, cn_8)))) else (zb1 (p_X1_sigmaOneByOne F p0) (fun r10 => (some (0, r10, pr, tm, cn))))) else (some (cd3, (0 : Int32), pr, tm, cn))))) else (some (cd1, (0 : Int32), pr, tm, cn))))) = some (cd, r, pr', tm', cn') := h
  obtain ⟨H, hHe⟩ : ∃ H, H = s.heap := ⟨_, rfl⟩
  rw [← hHe] at hP
  replace hS : va_S A s.heap H [] := by rw [hHe]; exact hS
  refine zheap hHe ?_
  refine lv_iload_n hx hb dX7_sigma_0 rfl (lv_at hl 1 rfl) ?_
  refine lv_iconst (v := (1 : Int32)) hx hb dX7_sigma_1 (by decide) ?_
  refine lv_sipush (v := (999 : Int32)) hx hb dX7_sigma_2 (by decide) ?_
  obtain ⟨cd1, e2, h⟩ := zb1_some h
  refine zxgov (vx_runS (As := [.int p0, .int (1 : Int32), .int (999 : Int32)]) (rest := []) ⟨hx, hb, hml, hown, hts⟩ (c_X7_need l D cJ cI cO cB p0 (1 : Int32) (999 : Int32) cd1 hlt e2 H.size) (va_cwS 3 hts gX7_sigma_X7_need rfl rfl rfl hdS_X7_need ⟨Nat.le_of_ble_eq_true rfl, Nat.le_of_ble_eq_true rfl⟩) (zxpreS hE hS (zf0 hS hA) hK zP0 (zD0 (A := A)) [.int p0, .int (1 : Int32), .int (999 : Int32)]) rfl rfl hl.1 rfl (lv_room (Nat.le_of_ble_eq_true rfl)) dX7_sigma_5 ⟨Nat.le_of_ble_eq_true rfl, Nat.le_of_ble_eq_true rfl⟩) (zf0 hS hA) (zjE hP hD) hS (fun k05 => ?_) (fun k05 H locs hP hD hS => ?_)
  · replace h := zif_f h k05
    have g0 := Option.some.inj h
    obtain ⟨h1, g1⟩ := Prod.mk.inj g0
    obtain ⟨h2, g2⟩ := Prod.mk.inj g1
    obtain ⟨h3, g3⟩ := Prod.mk.inj g2
    obtain ⟨h4, g4⟩ := Prod.mk.inj g3
    subst h1
    subst h2
    subst h3
    subst h4
    subst g4
    exact zxout hnt hlocks k05 hK (Nat.le_of_ble_eq_true rfl) (Nat.le_of_ble_eq_true rfl) k05
  · replace h := zif_t h k05
    refine lv_iload_n hx hb dX7_sigma_8 rfl (lv_at hl 2 rfl) ?_
    refine lv_iconst (v := (0 : Int32)) hx hb dX7_sigma_9 (by decide) ?_
    refine lv_iconst (v := (1 : Int32)) hx hb dX7_sigma_10 (by decide) ?_
    obtain ⟨cd3, e4, h⟩ := zb1_some h
    refine zxgov (vx_runS (As := [.int p1, .int (0 : Int32), .int (1 : Int32)]) (rest := []) ⟨hx, hb, hml, hown, hts⟩ (c_X7_need l D cJ cI cO cB p1 (0 : Int32) (1 : Int32) cd3 hlt e4 H.size) (va_cwS 3 hts gX7_sigma_X7_need rfl rfl rfl hdS_X7_need ⟨Nat.le_of_ble_eq_true rfl, Nat.le_of_ble_eq_true rfl⟩) (zxpreS hE hS (zf0 hS hA) hK zP0 (zD0 (A := A)) [.int p1, .int (0 : Int32), .int (1 : Int32)]) rfl rfl hl.1 rfl (lv_room (Nat.le_of_ble_eq_true rfl)) dX7_sigma_11 ⟨Nat.le_of_ble_eq_true rfl, Nat.le_of_ble_eq_true rfl⟩) (zf0 hS hA) (zjE hP hD) hS (fun k011 => ?_) (fun k011 H locs hP hD hS => ?_)
    · replace h := zif_f h k011
      have g0 := Option.some.inj h
      obtain ⟨h1, g1⟩ := Prod.mk.inj g0
      obtain ⟨h2, g2⟩ := Prod.mk.inj g1
      obtain ⟨h3, g3⟩ := Prod.mk.inj g2
      obtain ⟨h4, g4⟩ := Prod.mk.inj g3
      subst h1
      subst h2
      subst h3
      subst h4
      subst g4
      exact zxout hnt hlocks k011 hK (Nat.le_of_ble_eq_true rfl) (Nat.le_of_ble_eq_true rfl) k011
    · replace h := zif_t h k011
      refine lv_iload_n hx hb dX7_sigma_14 rfl (lv_at hl 2 rfl) ?_
      refine lv_if_ne (tgt := 29) hx hb dX7_sigma_15 (by decide) (fun c15 => ?_) (fun c15 => ?_)
      · replace h := zif_t h c15
        refine lv_aload_n hx hb dX7_sigma_29 rfl (lv_at hl 0 rfl) ?_
        refine va_get (D := D) (ci := 7) (v := .ref (a 15)) (C := RX7) (T := TX7) (N := 9) hx hb hts kwX7 hown hK hP 0 rfl rfl 4 (by decide) kf_33 (fun _ h9 => h9) rfl dX7_sigma_30 ?_
        refine lv_iload_n hx hb dX7_sigma_33 rfl (lv_at hl 1 rfl) ?_
        obtain ⟨r5, pr_6, tm_7, cn_8, e9, h⟩ := zb4_some h
        refine zgoi (va_runV (As := [.int p0]) (rest := []) ⟨hx, hb, hml, hown, hts⟩ (c_X1_sigmaByPowers l D a cJ cI cO cB R b pr tm cn sm ac re kn F p0 r5 pr_6 tm_7 cn_8 e9 H.size) (cwV 1 hts gX7_sigma_X1_sigmaByPowers rfl rfl rfl hdV_X1_sigmaByPowers ⟨Nat.le_of_ble_eq_true rfl, Nat.le_of_ble_eq_true rfl⟩) (zpreV (q0 := 15) (ci := 3) (T := TX1) (N := 2) hK hP hD rfl rfl [.int p0]) rfl rfl hl.1 rfl (lv_room (Nat.le_of_ble_eq_true rfl)) dX7_sigma_34 ⟨Nat.le_of_ble_eq_true rfl, Nat.le_of_ble_eq_true rfl⟩) (zfree hD hS hA) (zjW hD hS hA) hS (fun H locs hP hD hS => ?_)
        replace hP : va_P D vwCl (cW a cJ cI cO R b pr_6 tm_7 cn_8 sm ac re kn) H := hP
        replace hD : va_D A (cW a cJ cI cO R b pr_6 tm_7 cn_8 sm ac re kn) := hD
        have g0 := Option.some.inj h
        obtain ⟨h1, g1⟩ := Prod.mk.inj g0
        obtain ⟨h2, g2⟩ := Prod.mk.inj g1
        obtain ⟨h3, g3⟩ := Prod.mk.inj g2
        obtain ⟨h4, g4⟩ := Prod.mk.inj g3
        subst h1
        subst h2
        subst h3
        subst h4
        subst g4
        refine vx_ret ?_
        exact W.iret (v := r5) hx hb hr (fun t ht hW => ⟨⟨r5, (), rfl, ⟨rfl, rfl⟩, by rw [ht]; exact hP, va_K.moved hW.alike hK, hD⟩, hS.F ht⟩) hS.2.2 dX7_sigma_37
      · replace h := zif_fn h c15
        refine lv_aload_n hx hb dX7_sigma_18 rfl (lv_at hl 0 rfl) ?_
        refine va_get (D := D) (ci := 7) (v := .ref (a 15)) (C := RX7) (T := TX7) (N := 9) hx hb hts kwX7 hown hK hP 0 rfl rfl 4 (by decide) kf_33 (fun _ h9 => h9) rfl dX7_sigma_19 ?_
        refine lv_iload_n hx hb dX7_sigma_22 rfl (lv_at hl 1 rfl) ?_
        obtain ⟨r10, e11, h⟩ := zb1_some h
        refine zgoi (va_runV (As := [.int p0]) (rest := []) ⟨hx, hb, hml, hown, hts⟩ (c_X1_sigmaOneByOne l D a cJ cI cO cB R b pr tm cn sm ac re kn F p0 r10 e11 H.size) (cwV 1 hts gX7_sigma_X1_sigmaOneByOne rfl rfl rfl hdV_X1_sigmaOneByOne ⟨Nat.le_of_ble_eq_true rfl, Nat.le_of_ble_eq_true rfl⟩) (zpreV (q0 := 15) (ci := 3) (T := TX1) (N := 2) hK hP hD rfl rfl [.int p0]) rfl rfl hl.1 rfl (lv_room (Nat.le_of_ble_eq_true rfl)) dX7_sigma_23 ⟨Nat.le_of_ble_eq_true rfl, Nat.le_of_ble_eq_true rfl⟩) (zfree hD hS hA) (zjW hD hS hA) hS (fun H locs hP hD hS => ?_)
        replace hP : va_P D vwCl (cW a cJ cI cO R b pr tm cn sm ac re kn) H := hP
        replace hD : va_D A (cW a cJ cI cO R b pr tm cn sm ac re kn) := hD
        refine lv_goto (tgt := 37) hx hb dX7_sigma_26 (by decide) ?_
        have g0 := Option.some.inj h
        obtain ⟨h1, g1⟩ := Prod.mk.inj g0
        obtain ⟨h2, g2⟩ := Prod.mk.inj g1
        obtain ⟨h3, g3⟩ := Prod.mk.inj g2
        obtain ⟨h4, g4⟩ := Prod.mk.inj g3
        subst h1
        subst h2
        subst h3
        subst h4
        subst g4
        refine vx_ret ?_
        exact W.iret (v := r10) hx hb hr (fun t ht hW => ⟨⟨r10, (), rfl, ⟨rfl, rfl⟩, by rw [ht]; exact hP, va_K.moved hW.alike hK, hD⟩, hS.F ht⟩) hS.2.2 dX7_sigma_37

noncomputable def p_X7_phi (F : Nat) (pr : Nat → Int32) (tm : Nat → Int32) (cn : Int32) (p0 : Int32) (p1 : Int32) : Option (Nat × Int32 × (Nat → Int32) × (Nat → Int32) × Int32) := (zb1 (p_X7_need p0 (1 : Int32) (999 : Int32)) (fun cd1 => (if cd1 = 0 then (zb1 (p_X7_need p1 (0 : Int32) (2 : Int32)) (fun cd3 => (if cd3 = 0 then (if ¬ p1 = 0 then (if ¬ p1 = (1 : Int32) then (zb4 (p_X1_phiBySigns F pr tm cn p0) (fun r5 pr_6 tm_7 cn_8 => (some (0, r5, pr_6, tm_7, cn_8)))) else (zb4 (p_X1_phiByPowers F pr tm p0) (fun r10 pr_11 tm_12 cn_13 => (some (0, r10, pr_11, tm_12, cn_13))))) else (zb1 (p_X1_phiOneByOne F p0) (fun r15 => (some (0, r15, pr, tm, cn))))) else (some (cd3, (0 : Int32), pr, tm, cn))))) else (some (cd1, (0 : Int32), pr, tm, cn)))))
theorem hdV_X7_phi : yX7_phi.cls = RX7 ∧ yX7_phi.cls ≠ "java/lang/invoke/MethodHandle" ∧ yX7_phi.cls ≠ "java/lang/invoke/VarHandle" ∧ (parseMethodDescriptor yX7_phi.desc).map (fun d => d.parameters.length) = some 2 := by decide +kernel
set_option maxHeartbeats 4000000 in
set_option maxRecDepth 100000 in
theorem c_X7_phi (l : Launch) (D : va_G) (a : Nat → Nat) (cJ cI cO cB : ClassId) (R : Nat → Nat → Int64) (b : Bool) (pr : Nat → Int32) (tm : Nat → Int32) (cn : Int32) (sm : Nat → Int32) (ac : Int32) (re : Int32) (kn : Int32) (F : Nat) (p0 : Int32) (p1 : Int32) (cd : Nat) (r : Int32) (pr' : Nat → Int32) (tm' : Nat → Int32) (cn' : Int32) (hlt : l.stackTraces = false) (h : p_X7_phi F pr tm cn p0 p1 = some (cd, r, pr', tm', cn')) : zMxi l yX7_phi wsX7_phi 7 112 2 12 D (zT cJ cI cO cB) [.ref (a 0), .int p0, .int p1] (cW a cJ cI cO R b pr tm cn sm ac re kn) (cW a cJ cI cO R b pr' tm' cn' sm ac re kn) cd r := by
  intro sz
  delta zQxi zX
  refine vx_ofW (cc := cX7_phi) (maxL := 3) (ret := (some .int)) (by decide) rfl ?_
  intro p e s m args below meth c s₁ B hml hnt hv
  obtain ⟨rfl, ⟨hsz, hP, hK, hD0⟩, hE⟩ := hv
  have hx := B.exec
  have hb := B.bytes
  have hr := B.returns
  have hts := atoms_spec (ws := wsX7_phi) B.pre
  have hown : s.vm.findClass RX7 = some m.cls := findClass_of_methodNamed B.named
  have hlocks := B.notSynchronized
  subst hsz
  have hD := hD0.self (sz := s.heap.size)
  generalize hAe : va_A (cW a cJ cI cO R b pr tm cn sm ac re kn) s.heap.size = A at hD hE ⊢
  have hA : ∀ q : Nat, s.heap.size ≤ q → A q := fun q h => by rw [← hAe]; exact Or.inr h
  have hS : va_S A s.heap s.heap [] := va_S.rf
  have hl := lv_entry ([.ref (a 0), .int p0, .int p1]) (n := 3) (Nat.le_of_ble_eq_true rfl)
  rw [lg_entry_eq]
  generalize (lg_sl ([.ref (a 0), .int p0, .int p1]) ++ List.replicate (3 - (lg_sl ([.ref (a 0), .int p0, .int p1])).length) Slot.unset).toArray = ls at hl ⊢
  replace hl : lv_has ls 3 [(0, .ref (a 0)), (1, .int p0), (2, .int p1)] := hl
  have kwX7 : ∀ w ∈ u_ws RX7 TX7 9, w ∈ wsX7_phi := fun w h => List.mem_cons_of_mem _ (List.mem_append_left _ (List.mem_append_left _ (List.mem_append_left _ (List.mem_append_left _ (List.mem_append_right _ h)))))
  have kf_33 := hts (.fieldLink RX7 33 "Divisorwork" "numbers" "LDivisorwork$Numbers;") (zmem 1 rfl)
  replace h : (zb1 (p_X7_need p0 (1 : Int32) (999 : Int32)) (fun cd1 => (if cd1 = 0 then (zb1 (p_X7_need p1 (0 : Int32) (2 : Int32)) (fun cd3 => (if cd3 = 0 then (if ¬ p1 = 0 then (if ¬ p1 = (1 : Int32) then (zb4 (p_X1_phiBySigns F pr tm cn p0) (fun r5 pr_6 tm_7 cn_8 => (some (0, r5, pr_6, tm_7, cn_8)))) else (zb4 (p_X1_phiByPowers F pr tm p0) (fun r10 pr_11 tm_12 cn_13 => (some (0, r10, pr_11, tm_12, cn_13))))) else (zb1 (p_X1_phiOneByOne F p0) (fun r15 => (some (0, r15, pr, tm, cn))))) else (some (cd3, (0 : Int32), pr, tm, cn))))) else (some (cd1, (0 : Int32), pr, tm, cn))))) = some (cd, r, pr', tm', cn') := h
  obtain ⟨H, hHe⟩ : ∃ H, H = s.heap := ⟨_, rfl⟩
  rw [← hHe] at hP
  replace hS : va_S A s.heap H [] := by rw [hHe]; exact hS
  refine zheap hHe ?_
  refine lv_iload_n hx hb dX7_phi_0 rfl (lv_at hl 1 rfl) ?_
  refine lv_iconst (v := (1 : Int32)) hx hb dX7_phi_1 (by decide) ?_
  refine lv_sipush (v := (999 : Int32)) hx hb dX7_phi_2 (by decide) ?_
  obtain ⟨cd1, e2, h⟩ := zb1_some h
  refine zxgov (vx_runS (As := [.int p0, .int (1 : Int32), .int (999 : Int32)]) (rest := []) ⟨hx, hb, hml, hown, hts⟩ (c_X7_need l D cJ cI cO cB p0 (1 : Int32) (999 : Int32) cd1 hlt e2 H.size) (va_cwS 3 hts gX7_phi_X7_need rfl rfl rfl hdS_X7_need ⟨Nat.le_of_ble_eq_true rfl, Nat.le_of_ble_eq_true rfl⟩) (zxpreS hE hS (zf0 hS hA) hK zP0 (zD0 (A := A)) [.int p0, .int (1 : Int32), .int (999 : Int32)]) rfl rfl hl.1 rfl (lv_room (Nat.le_of_ble_eq_true rfl)) dX7_phi_5 ⟨Nat.le_of_ble_eq_true rfl, Nat.le_of_ble_eq_true rfl⟩) (zf0 hS hA) (zjE hP hD) hS (fun k05 => ?_) (fun k05 H locs hP hD hS => ?_)
  · replace h := zif_f h k05
    have g0 := Option.some.inj h
    obtain ⟨h1, g1⟩ := Prod.mk.inj g0
    obtain ⟨h2, g2⟩ := Prod.mk.inj g1
    obtain ⟨h3, g3⟩ := Prod.mk.inj g2
    obtain ⟨h4, g4⟩ := Prod.mk.inj g3
    subst h1
    subst h2
    subst h3
    subst h4
    subst g4
    exact zxout hnt hlocks k05 hK (Nat.le_of_ble_eq_true rfl) (Nat.le_of_ble_eq_true rfl) k05
  · replace h := zif_t h k05
    refine lv_iload_n hx hb dX7_phi_8 rfl (lv_at hl 2 rfl) ?_
    refine lv_iconst (v := (0 : Int32)) hx hb dX7_phi_9 (by decide) ?_
    refine lv_iconst (v := (2 : Int32)) hx hb dX7_phi_10 (by decide) ?_
    obtain ⟨cd3, e4, h⟩ := zb1_some h
    refine zxgov (vx_runS (As := [.int p1, .int (0 : Int32), .int (2 : Int32)]) (rest := []) ⟨hx, hb, hml, hown, hts⟩ (c_X7_need l D cJ cI cO cB p1 (0 : Int32) (2 : Int32) cd3 hlt e4 H.size) (va_cwS 3 hts gX7_phi_X7_need rfl rfl rfl hdS_X7_need ⟨Nat.le_of_ble_eq_true rfl, Nat.le_of_ble_eq_true rfl⟩) (zxpreS hE hS (zf0 hS hA) hK zP0 (zD0 (A := A)) [.int p1, .int (0 : Int32), .int (2 : Int32)]) rfl rfl hl.1 rfl (lv_room (Nat.le_of_ble_eq_true rfl)) dX7_phi_11 ⟨Nat.le_of_ble_eq_true rfl, Nat.le_of_ble_eq_true rfl⟩) (zf0 hS hA) (zjE hP hD) hS (fun k011 => ?_) (fun k011 H locs hP hD hS => ?_)
    · replace h := zif_f h k011
      have g0 := Option.some.inj h
      obtain ⟨h1, g1⟩ := Prod.mk.inj g0
      obtain ⟨h2, g2⟩ := Prod.mk.inj g1
      obtain ⟨h3, g3⟩ := Prod.mk.inj g2
      obtain ⟨h4, g4⟩ := Prod.mk.inj g3
      subst h1
      subst h2
      subst h3
      subst h4
      subst g4
      exact zxout hnt hlocks k011 hK (Nat.le_of_ble_eq_true rfl) (Nat.le_of_ble_eq_true rfl) k011
    · replace h := zif_t h k011
      refine lv_iload_n hx hb dX7_phi_14 rfl (lv_at hl 2 rfl) ?_
      refine lv_if_ne (tgt := 27) hx hb dX7_phi_15 (by decide) (fun c15 => ?_) (fun c15 => ?_)
      · replace h := zif_t h c15
        refine lv_iload_n hx hb dX7_phi_27 rfl (lv_at hl 2 rfl) ?_
        refine lv_iconst (v := (1 : Int32)) hx hb dX7_phi_28 (by decide) ?_
        refine lv_icmp_ne (tgt := 43) hx hb dX7_phi_29 (by decide) (fun c29 => ?_) (fun c29 => ?_)
        · replace h := zif_t h c29
          refine lv_aload_n hx hb dX7_phi_43 rfl (lv_at hl 0 rfl) ?_
          refine va_get (D := D) (ci := 7) (v := .ref (a 15)) (C := RX7) (T := TX7) (N := 9) hx hb hts kwX7 hown hK hP 0 rfl rfl 4 (by decide) kf_33 (fun _ h9 => h9) rfl dX7_phi_44 ?_
          refine lv_iload_n hx hb dX7_phi_47 rfl (lv_at hl 1 rfl) ?_
          obtain ⟨r5, pr_6, tm_7, cn_8, e9, h⟩ := zb4_some h
          refine zgoi (va_runV (As := [.int p0]) (rest := []) ⟨hx, hb, hml, hown, hts⟩ (c_X1_phiBySigns l D a cJ cI cO cB R b pr tm cn sm ac re kn F p0 r5 pr_6 tm_7 cn_8 e9 H.size) (cwV 1 hts gX7_phi_X1_phiBySigns rfl rfl rfl hdV_X1_phiBySigns ⟨Nat.le_of_ble_eq_true rfl, Nat.le_of_ble_eq_true rfl⟩) (zpreV (q0 := 15) (ci := 3) (T := TX1) (N := 2) hK hP hD rfl rfl [.int p0]) rfl rfl hl.1 rfl (lv_room (Nat.le_of_ble_eq_true rfl)) dX7_phi_48 ⟨Nat.le_of_ble_eq_true rfl, Nat.le_of_ble_eq_true rfl⟩) (zfree hD hS hA) (zjW hD hS hA) hS (fun H locs hP hD hS => ?_)
          replace hP : va_P D vwCl (cW a cJ cI cO R b pr_6 tm_7 cn_8 sm ac re kn) H := hP
          replace hD : va_D A (cW a cJ cI cO R b pr_6 tm_7 cn_8 sm ac re kn) := hD
          have g0 := Option.some.inj h
          obtain ⟨h1, g1⟩ := Prod.mk.inj g0
          obtain ⟨h2, g2⟩ := Prod.mk.inj g1
          obtain ⟨h3, g3⟩ := Prod.mk.inj g2
          obtain ⟨h4, g4⟩ := Prod.mk.inj g3
          subst h1
          subst h2
          subst h3
          subst h4
          subst g4
          refine vx_ret ?_
          exact W.iret (v := r5) hx hb hr (fun t ht hW => ⟨⟨r5, (), rfl, ⟨rfl, rfl⟩, by rw [ht]; exact hP, va_K.moved hW.alike hK, hD⟩, hS.F ht⟩) hS.2.2 dX7_phi_51
        · replace h := zif_fn h c29
          refine lv_aload_n hx hb dX7_phi_32 rfl (lv_at hl 0 rfl) ?_
          refine va_get (D := D) (ci := 7) (v := .ref (a 15)) (C := RX7) (T := TX7) (N := 9) hx hb hts kwX7 hown hK hP 0 rfl rfl 4 (by decide) kf_33 (fun _ h9 => h9) rfl dX7_phi_33 ?_
          refine lv_iload_n hx hb dX7_phi_36 rfl (lv_at hl 1 rfl) ?_
          obtain ⟨r10, pr_11, tm_12, cn_13, e14, h⟩ := zb4_some h
          refine zgoi (va_runV (As := [.int p0]) (rest := []) ⟨hx, hb, hml, hown, hts⟩ (c_X1_phiByPowers l D a cJ cI cO cB R b pr tm cn sm ac re kn F p0 r10 pr_11 tm_12 cn_13 e14 H.size) (cwV 1 hts gX7_phi_X1_phiByPowers rfl rfl rfl hdV_X1_phiByPowers ⟨Nat.le_of_ble_eq_true rfl, Nat.le_of_ble_eq_true rfl⟩) (zpreV (q0 := 15) (ci := 3) (T := TX1) (N := 2) hK hP hD rfl rfl [.int p0]) rfl rfl hl.1 rfl (lv_room (Nat.le_of_ble_eq_true rfl)) dX7_phi_37 ⟨Nat.le_of_ble_eq_true rfl, Nat.le_of_ble_eq_true rfl⟩) (zfree hD hS hA) (zjW hD hS hA) hS (fun H locs hP hD hS => ?_)
          replace hP : va_P D vwCl (cW a cJ cI cO R b pr_11 tm_12 cn_13 sm ac re kn) H := hP
          replace hD : va_D A (cW a cJ cI cO R b pr_11 tm_12 cn_13 sm ac re kn) := hD
          refine lv_goto (tgt := 51) hx hb dX7_phi_40 (by decide) ?_
          have g0 := Option.some.inj h
          obtain ⟨h1, g1⟩ := Prod.mk.inj g0
          obtain ⟨h2, g2⟩ := Prod.mk.inj g1
          obtain ⟨h3, g3⟩ := Prod.mk.inj g2
          obtain ⟨h4, g4⟩ := Prod.mk.inj g3
          subst h1
          subst h2
          subst h3
          subst h4
          subst g4
          refine vx_ret ?_
          exact W.iret (v := r10) hx hb hr (fun t ht hW => ⟨⟨r10, (), rfl, ⟨rfl, rfl⟩, by rw [ht]; exact hP, va_K.moved hW.alike hK, hD⟩, hS.F ht⟩) hS.2.2 dX7_phi_51
      · replace h := zif_fn h c15
        refine lv_aload_n hx hb dX7_phi_18 rfl (lv_at hl 0 rfl) ?_
        refine va_get (D := D) (ci := 7) (v := .ref (a 15)) (C := RX7) (T := TX7) (N := 9) hx hb hts kwX7 hown hK hP 0 rfl rfl 4 (by decide) kf_33 (fun _ h9 => h9) rfl dX7_phi_19 ?_
        refine lv_iload_n hx hb dX7_phi_22 rfl (lv_at hl 1 rfl) ?_
        obtain ⟨r15, e16, h⟩ := zb1_some h
        refine zgoi (va_runV (As := [.int p0]) (rest := []) ⟨hx, hb, hml, hown, hts⟩ (c_X1_phiOneByOne l D a cJ cI cO cB R b pr tm cn sm ac re kn F p0 r15 e16 H.size) (cwV 1 hts gX7_phi_X1_phiOneByOne rfl rfl rfl hdV_X1_phiOneByOne ⟨Nat.le_of_ble_eq_true rfl, Nat.le_of_ble_eq_true rfl⟩) (zpreV (q0 := 15) (ci := 3) (T := TX1) (N := 2) hK hP hD rfl rfl [.int p0]) rfl rfl hl.1 rfl (lv_room (Nat.le_of_ble_eq_true rfl)) dX7_phi_23 ⟨Nat.le_of_ble_eq_true rfl, Nat.le_of_ble_eq_true rfl⟩) (zfree hD hS hA) (zjW hD hS hA) hS (fun H locs hP hD hS => ?_)
        replace hP : va_P D vwCl (cW a cJ cI cO R b pr tm cn sm ac re kn) H := hP
        replace hD : va_D A (cW a cJ cI cO R b pr tm cn sm ac re kn) := hD
        have g0 := Option.some.inj h
        obtain ⟨h1, g1⟩ := Prod.mk.inj g0
        obtain ⟨h2, g2⟩ := Prod.mk.inj g1
        obtain ⟨h3, g3⟩ := Prod.mk.inj g2
        obtain ⟨h4, g4⟩ := Prod.mk.inj g3
        subst h1
        subst h2
        subst h3
        subst h4
        subst g4
        refine vx_ret ?_
        exact W.iret (v := r15) hx hb hr (fun t ht hW => ⟨⟨r15, (), rfl, ⟨rfl, rfl⟩, by rw [ht]; exact hP, va_K.moved hW.alike hK, hD⟩, hS.F ht⟩) hS.2.2 dX7_phi_26

noncomputable def p_X7_sign (F : Nat) (pr : Nat → Int32) (tm : Nat → Int32) (cn : Int32) (sm : Nat → Int32) (p0 : Int32) (p1 : Int32) : Option (Nat × Int32 × (Nat → Int32) × (Nat → Int32) × Int32 × (Nat → Int32)) := (zb1 (p_X7_need p0 (1 : Int32) (999 : Int32)) (fun cd1 => (if cd1 = 0 then (zb1 (p_X7_need p1 (0 : Int32) (1 : Int32)) (fun cd3 => (if cd3 = 0 then (if ¬ p1 = 0 then (zb2 (p_X1_signBySums F sm p0) (fun r5 sm_6 => (some (0, r5, pr, tm, cn, sm_6)))) else (zb4 (p_X1_signByPowers F pr tm p0) (fun r8 pr_9 tm_10 cn_11 => (some (0, r8, pr_9, tm_10, cn_11, sm))))) else (some (cd3, (0 : Int32), pr, tm, cn, sm))))) else (some (cd1, (0 : Int32), pr, tm, cn, sm)))))
theorem hdV_X7_sign : yX7_sign.cls = RX7 ∧ yX7_sign.cls ≠ "java/lang/invoke/MethodHandle" ∧ yX7_sign.cls ≠ "java/lang/invoke/VarHandle" ∧ (parseMethodDescriptor yX7_sign.desc).map (fun d => d.parameters.length) = some 2 := by decide +kernel
set_option maxHeartbeats 4000000 in
set_option maxRecDepth 100000 in
theorem c_X7_sign (l : Launch) (D : va_G) (a : Nat → Nat) (cJ cI cO cB : ClassId) (R : Nat → Nat → Int64) (b : Bool) (pr : Nat → Int32) (tm : Nat → Int32) (cn : Int32) (sm : Nat → Int32) (ac : Int32) (re : Int32) (kn : Int32) (F : Nat) (p0 : Int32) (p1 : Int32) (cd : Nat) (r : Int32) (pr' : Nat → Int32) (tm' : Nat → Int32) (cn' : Int32) (sm' : Nat → Int32) (hlt : l.stackTraces = false) (h : p_X7_sign F pr tm cn sm p0 p1 = some (cd, r, pr', tm', cn', sm')) : zMxi l yX7_sign wsX7_sign 7 112 2 12 D (zT cJ cI cO cB) [.ref (a 0), .int p0, .int p1] (cW a cJ cI cO R b pr tm cn sm ac re kn) (cW a cJ cI cO R b pr' tm' cn' sm' ac re kn) cd r := by
  intro sz
  delta zQxi zX
  refine vx_ofW (cc := cX7_sign) (maxL := 3) (ret := (some .int)) (by decide) rfl ?_
  intro p e s m args below meth c s₁ B hml hnt hv
  obtain ⟨rfl, ⟨hsz, hP, hK, hD0⟩, hE⟩ := hv
  have hx := B.exec
  have hb := B.bytes
  have hr := B.returns
  have hts := atoms_spec (ws := wsX7_sign) B.pre
  have hown : s.vm.findClass RX7 = some m.cls := findClass_of_methodNamed B.named
  have hlocks := B.notSynchronized
  subst hsz
  have hD := hD0.self (sz := s.heap.size)
  generalize hAe : va_A (cW a cJ cI cO R b pr tm cn sm ac re kn) s.heap.size = A at hD hE ⊢
  have hA : ∀ q : Nat, s.heap.size ≤ q → A q := fun q h => by rw [← hAe]; exact Or.inr h
  have hS : va_S A s.heap s.heap [] := va_S.rf
  have hl := lv_entry ([.ref (a 0), .int p0, .int p1]) (n := 3) (Nat.le_of_ble_eq_true rfl)
  rw [lg_entry_eq]
  generalize (lg_sl ([.ref (a 0), .int p0, .int p1]) ++ List.replicate (3 - (lg_sl ([.ref (a 0), .int p0, .int p1])).length) Slot.unset).toArray = ls at hl ⊢
  replace hl : lv_has ls 3 [(0, .ref (a 0)), (1, .int p0), (2, .int p1)] := hl
  have kwX7 : ∀ w ∈ u_ws RX7 TX7 9, w ∈ wsX7_sign := fun w h => List.mem_cons_of_mem _ (List.mem_append_left _ (List.mem_append_left _ (List.mem_append_left _ (List.mem_append_right _ h))))
  have kf_33 := hts (.fieldLink RX7 33 "Divisorwork" "numbers" "LDivisorwork$Numbers;") (zmem 1 rfl)
  replace h : (zb1 (p_X7_need p0 (1 : Int32) (999 : Int32)) (fun cd1 => (if cd1 = 0 then (zb1 (p_X7_need p1 (0 : Int32) (1 : Int32)) (fun cd3 => (if cd3 = 0 then (if ¬ p1 = 0 then (zb2 (p_X1_signBySums F sm p0) (fun r5 sm_6 => (some (0, r5, pr, tm, cn, sm_6)))) else (zb4 (p_X1_signByPowers F pr tm p0) (fun r8 pr_9 tm_10 cn_11 => (some (0, r8, pr_9, tm_10, cn_11, sm))))) else (some (cd3, (0 : Int32), pr, tm, cn, sm))))) else (some (cd1, (0 : Int32), pr, tm, cn, sm))))) = some (cd, r, pr', tm', cn', sm') := h
  obtain ⟨H, hHe⟩ : ∃ H, H = s.heap := ⟨_, rfl⟩
  rw [← hHe] at hP
  replace hS : va_S A s.heap H [] := by rw [hHe]; exact hS
  refine zheap hHe ?_
  refine lv_iload_n hx hb dX7_sign_0 rfl (lv_at hl 1 rfl) ?_
  refine lv_iconst (v := (1 : Int32)) hx hb dX7_sign_1 (by decide) ?_
  refine lv_sipush (v := (999 : Int32)) hx hb dX7_sign_2 (by decide) ?_
  obtain ⟨cd1, e2, h⟩ := zb1_some h
  refine zxgov (vx_runS (As := [.int p0, .int (1 : Int32), .int (999 : Int32)]) (rest := []) ⟨hx, hb, hml, hown, hts⟩ (c_X7_need l D cJ cI cO cB p0 (1 : Int32) (999 : Int32) cd1 hlt e2 H.size) (va_cwS 3 hts gX7_sign_X7_need rfl rfl rfl hdS_X7_need ⟨Nat.le_of_ble_eq_true rfl, Nat.le_of_ble_eq_true rfl⟩) (zxpreS hE hS (zf0 hS hA) hK zP0 (zD0 (A := A)) [.int p0, .int (1 : Int32), .int (999 : Int32)]) rfl rfl hl.1 rfl (lv_room (Nat.le_of_ble_eq_true rfl)) dX7_sign_5 ⟨Nat.le_of_ble_eq_true rfl, Nat.le_of_ble_eq_true rfl⟩) (zf0 hS hA) (zjE hP hD) hS (fun k05 => ?_) (fun k05 H locs hP hD hS => ?_)
  · replace h := zif_f h k05
    have g0 := Option.some.inj h
    obtain ⟨h1, g1⟩ := Prod.mk.inj g0
    obtain ⟨h2, g2⟩ := Prod.mk.inj g1
    obtain ⟨h3, g3⟩ := Prod.mk.inj g2
    obtain ⟨h4, g4⟩ := Prod.mk.inj g3
    obtain ⟨h5, g5⟩ := Prod.mk.inj g4
    subst h1
    subst h2
    subst h3
    subst h4
    subst h5
    subst g5
    exact zxout hnt hlocks k05 hK (Nat.le_of_ble_eq_true rfl) (Nat.le_of_ble_eq_true rfl) k05
  · replace h := zif_t h k05
    refine lv_iload_n hx hb dX7_sign_8 rfl (lv_at hl 2 rfl) ?_
    refine lv_iconst (v := (0 : Int32)) hx hb dX7_sign_9 (by decide) ?_
    refine lv_iconst (v := (1 : Int32)) hx hb dX7_sign_10 (by decide) ?_
    obtain ⟨cd3, e4, h⟩ := zb1_some h
    refine zxgov (vx_runS (As := [.int p1, .int (0 : Int32), .int (1 : Int32)]) (rest := []) ⟨hx, hb, hml, hown, hts⟩ (c_X7_need l D cJ cI cO cB p1 (0 : Int32) (1 : Int32) cd3 hlt e4 H.size) (va_cwS 3 hts gX7_sign_X7_need rfl rfl rfl hdS_X7_need ⟨Nat.le_of_ble_eq_true rfl, Nat.le_of_ble_eq_true rfl⟩) (zxpreS hE hS (zf0 hS hA) hK zP0 (zD0 (A := A)) [.int p1, .int (0 : Int32), .int (1 : Int32)]) rfl rfl hl.1 rfl (lv_room (Nat.le_of_ble_eq_true rfl)) dX7_sign_11 ⟨Nat.le_of_ble_eq_true rfl, Nat.le_of_ble_eq_true rfl⟩) (zf0 hS hA) (zjE hP hD) hS (fun k011 => ?_) (fun k011 H locs hP hD hS => ?_)
    · replace h := zif_f h k011
      have g0 := Option.some.inj h
      obtain ⟨h1, g1⟩ := Prod.mk.inj g0
      obtain ⟨h2, g2⟩ := Prod.mk.inj g1
      obtain ⟨h3, g3⟩ := Prod.mk.inj g2
      obtain ⟨h4, g4⟩ := Prod.mk.inj g3
      obtain ⟨h5, g5⟩ := Prod.mk.inj g4
      subst h1
      subst h2
      subst h3
      subst h4
      subst h5
      subst g5
      exact zxout hnt hlocks k011 hK (Nat.le_of_ble_eq_true rfl) (Nat.le_of_ble_eq_true rfl) k011
    · replace h := zif_t h k011
      refine lv_iload_n hx hb dX7_sign_14 rfl (lv_at hl 2 rfl) ?_
      refine lv_if_ne (tgt := 29) hx hb dX7_sign_15 (by decide) (fun c15 => ?_) (fun c15 => ?_)
      · replace h := zif_t h c15
        refine lv_aload_n hx hb dX7_sign_29 rfl (lv_at hl 0 rfl) ?_
        refine va_get (D := D) (ci := 7) (v := .ref (a 15)) (C := RX7) (T := TX7) (N := 9) hx hb hts kwX7 hown hK hP 0 rfl rfl 4 (by decide) kf_33 (fun _ h9 => h9) rfl dX7_sign_30 ?_
        refine lv_iload_n hx hb dX7_sign_33 rfl (lv_at hl 1 rfl) ?_
        obtain ⟨r5, sm_6, e7, h⟩ := zb2_some h
        refine zgoi (va_runV (As := [.int p0]) (rest := []) ⟨hx, hb, hml, hown, hts⟩ (c_X1_signBySums l D a cJ cI cO cB R b pr tm cn sm ac re kn F p0 r5 sm_6 e7 H.size) (cwV 1 hts gX7_sign_X1_signBySums rfl rfl rfl hdV_X1_signBySums ⟨Nat.le_of_ble_eq_true rfl, Nat.le_of_ble_eq_true rfl⟩) (zpreV (q0 := 15) (ci := 3) (T := TX1) (N := 2) hK hP hD rfl rfl [.int p0]) rfl rfl hl.1 rfl (lv_room (Nat.le_of_ble_eq_true rfl)) dX7_sign_34 ⟨Nat.le_of_ble_eq_true rfl, Nat.le_of_ble_eq_true rfl⟩) (zfree hD hS hA) (zjW hD hS hA) hS (fun H locs hP hD hS => ?_)
        replace hP : va_P D vwCl (cW a cJ cI cO R b pr tm cn sm_6 ac re kn) H := hP
        replace hD : va_D A (cW a cJ cI cO R b pr tm cn sm_6 ac re kn) := hD
        have g0 := Option.some.inj h
        obtain ⟨h1, g1⟩ := Prod.mk.inj g0
        obtain ⟨h2, g2⟩ := Prod.mk.inj g1
        obtain ⟨h3, g3⟩ := Prod.mk.inj g2
        obtain ⟨h4, g4⟩ := Prod.mk.inj g3
        obtain ⟨h5, g5⟩ := Prod.mk.inj g4
        subst h1
        subst h2
        subst h3
        subst h4
        subst h5
        subst g5
        refine vx_ret ?_
        exact W.iret (v := r5) hx hb hr (fun t ht hW => ⟨⟨r5, (), rfl, ⟨rfl, rfl⟩, by rw [ht]; exact hP, va_K.moved hW.alike hK, hD⟩, hS.F ht⟩) hS.2.2 dX7_sign_37
      · replace h := zif_fn h c15
        refine lv_aload_n hx hb dX7_sign_18 rfl (lv_at hl 0 rfl) ?_
        refine va_get (D := D) (ci := 7) (v := .ref (a 15)) (C := RX7) (T := TX7) (N := 9) hx hb hts kwX7 hown hK hP 0 rfl rfl 4 (by decide) kf_33 (fun _ h9 => h9) rfl dX7_sign_19 ?_
        refine lv_iload_n hx hb dX7_sign_22 rfl (lv_at hl 1 rfl) ?_
        obtain ⟨r8, pr_9, tm_10, cn_11, e12, h⟩ := zb4_some h
        refine zgoi (va_runV (As := [.int p0]) (rest := []) ⟨hx, hb, hml, hown, hts⟩ (c_X1_signByPowers l D a cJ cI cO cB R b pr tm cn sm ac re kn F p0 r8 pr_9 tm_10 cn_11 e12 H.size) (cwV 1 hts gX7_sign_X1_signByPowers rfl rfl rfl hdV_X1_signByPowers ⟨Nat.le_of_ble_eq_true rfl, Nat.le_of_ble_eq_true rfl⟩) (zpreV (q0 := 15) (ci := 3) (T := TX1) (N := 2) hK hP hD rfl rfl [.int p0]) rfl rfl hl.1 rfl (lv_room (Nat.le_of_ble_eq_true rfl)) dX7_sign_23 ⟨Nat.le_of_ble_eq_true rfl, Nat.le_of_ble_eq_true rfl⟩) (zfree hD hS hA) (zjW hD hS hA) hS (fun H locs hP hD hS => ?_)
        replace hP : va_P D vwCl (cW a cJ cI cO R b pr_9 tm_10 cn_11 sm ac re kn) H := hP
        replace hD : va_D A (cW a cJ cI cO R b pr_9 tm_10 cn_11 sm ac re kn) := hD
        refine lv_goto (tgt := 37) hx hb dX7_sign_26 (by decide) ?_
        have g0 := Option.some.inj h
        obtain ⟨h1, g1⟩ := Prod.mk.inj g0
        obtain ⟨h2, g2⟩ := Prod.mk.inj g1
        obtain ⟨h3, g3⟩ := Prod.mk.inj g2
        obtain ⟨h4, g4⟩ := Prod.mk.inj g3
        obtain ⟨h5, g5⟩ := Prod.mk.inj g4
        subst h1
        subst h2
        subst h3
        subst h4
        subst h5
        subst g5
        refine vx_ret ?_
        exact W.iret (v := r8) hx hb hr (fun t ht hW => ⟨⟨r8, (), rfl, ⟨rfl, rfl⟩, by rw [ht]; exact hP, va_K.moved hW.alike hK, hD⟩, hS.F ht⟩) hS.2.2 dX7_sign_37

noncomputable def p_X7_square (F : Nat) (pr : Nat → Int32) (tm : Nat → Int32) (cn : Int32) (p0 : Int32) (p1 : Int32) : Option (Nat × Int32 × (Nat → Int32) × (Nat → Int32) × Int32) := (zb1 (p_X7_need p0 (1 : Int32) (999 : Int32)) (fun cd1 => (if cd1 = 0 then (zb1 (p_X7_need p1 (0 : Int32) (1 : Int32)) (fun cd3 => (if cd3 = 0 then (if ¬ p1 = 0 then (zb4 (p_X1_squareByPowers F pr tm p0) (fun r5 pr_6 tm_7 cn_8 => (some (0, r5, pr_6, tm_7, cn_8)))) else (zb1 (p_X1_squareOneByOne F p0) (fun r10 => (some (0, r10, pr, tm, cn))))) else (some (cd3, (0 : Int32), pr, tm, cn))))) else (some (cd1, (0 : Int32), pr, tm, cn)))))
theorem hdV_X7_square : yX7_square.cls = RX7 ∧ yX7_square.cls ≠ "java/lang/invoke/MethodHandle" ∧ yX7_square.cls ≠ "java/lang/invoke/VarHandle" ∧ (parseMethodDescriptor yX7_square.desc).map (fun d => d.parameters.length) = some 2 := by decide +kernel
set_option maxHeartbeats 4000000 in
set_option maxRecDepth 100000 in
theorem c_X7_square (l : Launch) (D : va_G) (a : Nat → Nat) (cJ cI cO cB : ClassId) (R : Nat → Nat → Int64) (b : Bool) (pr : Nat → Int32) (tm : Nat → Int32) (cn : Int32) (sm : Nat → Int32) (ac : Int32) (re : Int32) (kn : Int32) (F : Nat) (p0 : Int32) (p1 : Int32) (cd : Nat) (r : Int32) (pr' : Nat → Int32) (tm' : Nat → Int32) (cn' : Int32) (hlt : l.stackTraces = false) (h : p_X7_square F pr tm cn p0 p1 = some (cd, r, pr', tm', cn')) : zMxi l yX7_square wsX7_square 7 112 2 12 D (zT cJ cI cO cB) [.ref (a 0), .int p0, .int p1] (cW a cJ cI cO R b pr tm cn sm ac re kn) (cW a cJ cI cO R b pr' tm' cn' sm ac re kn) cd r := by
  intro sz
  delta zQxi zX
  refine vx_ofW (cc := cX7_square) (maxL := 3) (ret := (some .int)) (by decide) rfl ?_
  intro p e s m args below meth c s₁ B hml hnt hv
  obtain ⟨rfl, ⟨hsz, hP, hK, hD0⟩, hE⟩ := hv
  have hx := B.exec
  have hb := B.bytes
  have hr := B.returns
  have hts := atoms_spec (ws := wsX7_square) B.pre
  have hown : s.vm.findClass RX7 = some m.cls := findClass_of_methodNamed B.named
  have hlocks := B.notSynchronized
  subst hsz
  have hD := hD0.self (sz := s.heap.size)
  generalize hAe : va_A (cW a cJ cI cO R b pr tm cn sm ac re kn) s.heap.size = A at hD hE ⊢
  have hA : ∀ q : Nat, s.heap.size ≤ q → A q := fun q h => by rw [← hAe]; exact Or.inr h
  have hS : va_S A s.heap s.heap [] := va_S.rf
  have hl := lv_entry ([.ref (a 0), .int p0, .int p1]) (n := 3) (Nat.le_of_ble_eq_true rfl)
  rw [lg_entry_eq]
  generalize (lg_sl ([.ref (a 0), .int p0, .int p1]) ++ List.replicate (3 - (lg_sl ([.ref (a 0), .int p0, .int p1])).length) Slot.unset).toArray = ls at hl ⊢
  replace hl : lv_has ls 3 [(0, .ref (a 0)), (1, .int p0), (2, .int p1)] := hl
  have kwX7 : ∀ w ∈ u_ws RX7 TX7 9, w ∈ wsX7_square := fun w h => List.mem_cons_of_mem _ (List.mem_append_left _ (List.mem_append_left _ (List.mem_append_left _ (List.mem_append_right _ h))))
  have kf_33 := hts (.fieldLink RX7 33 "Divisorwork" "numbers" "LDivisorwork$Numbers;") (zmem 1 rfl)
  replace h : (zb1 (p_X7_need p0 (1 : Int32) (999 : Int32)) (fun cd1 => (if cd1 = 0 then (zb1 (p_X7_need p1 (0 : Int32) (1 : Int32)) (fun cd3 => (if cd3 = 0 then (if ¬ p1 = 0 then (zb4 (p_X1_squareByPowers F pr tm p0) (fun r5 pr_6 tm_7 cn_8 => (some (0, r5, pr_6, tm_7, cn_8)))) else (zb1 (p_X1_squareOneByOne F p0) (fun r10 => (some (0, r10, pr, tm, cn))))) else (some (cd3, (0 : Int32), pr, tm, cn))))) else (some (cd1, (0 : Int32), pr, tm, cn))))) = some (cd, r, pr', tm', cn') := h
  obtain ⟨H, hHe⟩ : ∃ H, H = s.heap := ⟨_, rfl⟩
  rw [← hHe] at hP
  replace hS : va_S A s.heap H [] := by rw [hHe]; exact hS
  refine zheap hHe ?_
  refine lv_iload_n hx hb dX7_square_0 rfl (lv_at hl 1 rfl) ?_
  refine lv_iconst (v := (1 : Int32)) hx hb dX7_square_1 (by decide) ?_
  refine lv_sipush (v := (999 : Int32)) hx hb dX7_square_2 (by decide) ?_
  obtain ⟨cd1, e2, h⟩ := zb1_some h
  refine zxgov (vx_runS (As := [.int p0, .int (1 : Int32), .int (999 : Int32)]) (rest := []) ⟨hx, hb, hml, hown, hts⟩ (c_X7_need l D cJ cI cO cB p0 (1 : Int32) (999 : Int32) cd1 hlt e2 H.size) (va_cwS 3 hts gX7_square_X7_need rfl rfl rfl hdS_X7_need ⟨Nat.le_of_ble_eq_true rfl, Nat.le_of_ble_eq_true rfl⟩) (zxpreS hE hS (zf0 hS hA) hK zP0 (zD0 (A := A)) [.int p0, .int (1 : Int32), .int (999 : Int32)]) rfl rfl hl.1 rfl (lv_room (Nat.le_of_ble_eq_true rfl)) dX7_square_5 ⟨Nat.le_of_ble_eq_true rfl, Nat.le_of_ble_eq_true rfl⟩) (zf0 hS hA) (zjE hP hD) hS (fun k05 => ?_) (fun k05 H locs hP hD hS => ?_)
  · replace h := zif_f h k05
    have g0 := Option.some.inj h
    obtain ⟨h1, g1⟩ := Prod.mk.inj g0
    obtain ⟨h2, g2⟩ := Prod.mk.inj g1
    obtain ⟨h3, g3⟩ := Prod.mk.inj g2
    obtain ⟨h4, g4⟩ := Prod.mk.inj g3
    subst h1
    subst h2
    subst h3
    subst h4
    subst g4
    exact zxout hnt hlocks k05 hK (Nat.le_of_ble_eq_true rfl) (Nat.le_of_ble_eq_true rfl) k05
  · replace h := zif_t h k05
    refine lv_iload_n hx hb dX7_square_8 rfl (lv_at hl 2 rfl) ?_
    refine lv_iconst (v := (0 : Int32)) hx hb dX7_square_9 (by decide) ?_
    refine lv_iconst (v := (1 : Int32)) hx hb dX7_square_10 (by decide) ?_
    obtain ⟨cd3, e4, h⟩ := zb1_some h
    refine zxgov (vx_runS (As := [.int p1, .int (0 : Int32), .int (1 : Int32)]) (rest := []) ⟨hx, hb, hml, hown, hts⟩ (c_X7_need l D cJ cI cO cB p1 (0 : Int32) (1 : Int32) cd3 hlt e4 H.size) (va_cwS 3 hts gX7_square_X7_need rfl rfl rfl hdS_X7_need ⟨Nat.le_of_ble_eq_true rfl, Nat.le_of_ble_eq_true rfl⟩) (zxpreS hE hS (zf0 hS hA) hK zP0 (zD0 (A := A)) [.int p1, .int (0 : Int32), .int (1 : Int32)]) rfl rfl hl.1 rfl (lv_room (Nat.le_of_ble_eq_true rfl)) dX7_square_11 ⟨Nat.le_of_ble_eq_true rfl, Nat.le_of_ble_eq_true rfl⟩) (zf0 hS hA) (zjE hP hD) hS (fun k011 => ?_) (fun k011 H locs hP hD hS => ?_)
    · replace h := zif_f h k011
      have g0 := Option.some.inj h
      obtain ⟨h1, g1⟩ := Prod.mk.inj g0
      obtain ⟨h2, g2⟩ := Prod.mk.inj g1
      obtain ⟨h3, g3⟩ := Prod.mk.inj g2
      obtain ⟨h4, g4⟩ := Prod.mk.inj g3
      subst h1
      subst h2
      subst h3
      subst h4
      subst g4
      exact zxout hnt hlocks k011 hK (Nat.le_of_ble_eq_true rfl) (Nat.le_of_ble_eq_true rfl) k011
    · replace h := zif_t h k011
      refine lv_iload_n hx hb dX7_square_14 rfl (lv_at hl 2 rfl) ?_
      refine lv_if_ne (tgt := 29) hx hb dX7_square_15 (by decide) (fun c15 => ?_) (fun c15 => ?_)
      · replace h := zif_t h c15
        refine lv_aload_n hx hb dX7_square_29 rfl (lv_at hl 0 rfl) ?_
        refine va_get (D := D) (ci := 7) (v := .ref (a 15)) (C := RX7) (T := TX7) (N := 9) hx hb hts kwX7 hown hK hP 0 rfl rfl 4 (by decide) kf_33 (fun _ h9 => h9) rfl dX7_square_30 ?_
        refine lv_iload_n hx hb dX7_square_33 rfl (lv_at hl 1 rfl) ?_
        obtain ⟨r5, pr_6, tm_7, cn_8, e9, h⟩ := zb4_some h
        refine zgoi (va_runV (As := [.int p0]) (rest := []) ⟨hx, hb, hml, hown, hts⟩ (c_X1_squareByPowers l D a cJ cI cO cB R b pr tm cn sm ac re kn F p0 r5 pr_6 tm_7 cn_8 e9 H.size) (cwV 1 hts gX7_square_X1_squareByPowers rfl rfl rfl hdV_X1_squareByPowers ⟨Nat.le_of_ble_eq_true rfl, Nat.le_of_ble_eq_true rfl⟩) (zpreV (q0 := 15) (ci := 3) (T := TX1) (N := 2) hK hP hD rfl rfl [.int p0]) rfl rfl hl.1 rfl (lv_room (Nat.le_of_ble_eq_true rfl)) dX7_square_34 ⟨Nat.le_of_ble_eq_true rfl, Nat.le_of_ble_eq_true rfl⟩) (zfree hD hS hA) (zjW hD hS hA) hS (fun H locs hP hD hS => ?_)
        replace hP : va_P D vwCl (cW a cJ cI cO R b pr_6 tm_7 cn_8 sm ac re kn) H := hP
        replace hD : va_D A (cW a cJ cI cO R b pr_6 tm_7 cn_8 sm ac re kn) := hD
        have g0 := Option.some.inj h
        obtain ⟨h1, g1⟩ := Prod.mk.inj g0
        obtain ⟨h2, g2⟩ := Prod.mk.inj g1
        obtain ⟨h3, g3⟩ := Prod.mk.inj g2
        obtain ⟨h4, g4⟩ := Prod.mk.inj g3
        subst h1
        subst h2
        subst h3
        subst h4
        subst g4
        refine vx_ret ?_
        exact W.iret (v := r5) hx hb hr (fun t ht hW => ⟨⟨r5, (), rfl, ⟨rfl, rfl⟩, by rw [ht]; exact hP, va_K.moved hW.alike hK, hD⟩, hS.F ht⟩) hS.2.2 dX7_square_37
      · replace h := zif_fn h c15
        refine lv_aload_n hx hb dX7_square_18 rfl (lv_at hl 0 rfl) ?_
        refine va_get (D := D) (ci := 7) (v := .ref (a 15)) (C := RX7) (T := TX7) (N := 9) hx hb hts kwX7 hown hK hP 0 rfl rfl 4 (by decide) kf_33 (fun _ h9 => h9) rfl dX7_square_19 ?_
        refine lv_iload_n hx hb dX7_square_22 rfl (lv_at hl 1 rfl) ?_
        obtain ⟨r10, e11, h⟩ := zb1_some h
        refine zgoi (va_runV (As := [.int p0]) (rest := []) ⟨hx, hb, hml, hown, hts⟩ (c_X1_squareOneByOne l D a cJ cI cO cB R b pr tm cn sm ac re kn F p0 r10 e11 H.size) (cwV 1 hts gX7_square_X1_squareOneByOne rfl rfl rfl hdV_X1_squareOneByOne ⟨Nat.le_of_ble_eq_true rfl, Nat.le_of_ble_eq_true rfl⟩) (zpreV (q0 := 15) (ci := 3) (T := TX1) (N := 2) hK hP hD rfl rfl [.int p0]) rfl rfl hl.1 rfl (lv_room (Nat.le_of_ble_eq_true rfl)) dX7_square_23 ⟨Nat.le_of_ble_eq_true rfl, Nat.le_of_ble_eq_true rfl⟩) (zfree hD hS hA) (zjW hD hS hA) hS (fun H locs hP hD hS => ?_)
        replace hP : va_P D vwCl (cW a cJ cI cO R b pr tm cn sm ac re kn) H := hP
        replace hD : va_D A (cW a cJ cI cO R b pr tm cn sm ac re kn) := hD
        refine lv_goto (tgt := 37) hx hb dX7_square_26 (by decide) ?_
        have g0 := Option.some.inj h
        obtain ⟨h1, g1⟩ := Prod.mk.inj g0
        obtain ⟨h2, g2⟩ := Prod.mk.inj g1
        obtain ⟨h3, g3⟩ := Prod.mk.inj g2
        obtain ⟨h4, g4⟩ := Prod.mk.inj g3
        subst h1
        subst h2
        subst h3
        subst h4
        subst g4
        refine vx_ret ?_
        exact W.iret (v := r10) hx hb hr (fun t ht hW => ⟨⟨r10, (), rfl, ⟨rfl, rfl⟩, by rw [ht]; exact hP, va_K.moved hW.alike hK, hD⟩, hS.F ht⟩) hS.2.2 dX7_square_37

noncomputable def p_X7_squareless (F : Nat) (pr : Nat → Int32) (tm : Nat → Int32) (cn : Int32) (p0 : Int32) (p1 : Int32) : Option (Nat × Int32 × (Nat → Int32) × (Nat → Int32) × Int32) := (zb1 (p_X7_need p0 (1 : Int32) (999 : Int32)) (fun cd1 => (if cd1 = 0 then (zb1 (p_X7_need p1 (0 : Int32) (1 : Int32)) (fun cd3 => (if cd3 = 0 then (if ¬ p1 = 0 then (zb4 (p_X1_squarelessBySigns F pr tm cn p0) (fun r5 pr_6 tm_7 cn_8 => (some (0, r5, pr_6, tm_7, cn_8)))) else (zb1 (p_X1_squarelessOneByOne F p0) (fun r10 => (some (0, r10, pr, tm, cn))))) else (some (cd3, (0 : Int32), pr, tm, cn))))) else (some (cd1, (0 : Int32), pr, tm, cn)))))
theorem hdV_X7_squareless : yX7_squareless.cls = RX7 ∧ yX7_squareless.cls ≠ "java/lang/invoke/MethodHandle" ∧ yX7_squareless.cls ≠ "java/lang/invoke/VarHandle" ∧ (parseMethodDescriptor yX7_squareless.desc).map (fun d => d.parameters.length) = some 2 := by decide +kernel
set_option maxHeartbeats 4000000 in
set_option maxRecDepth 100000 in
theorem c_X7_squareless (l : Launch) (D : va_G) (a : Nat → Nat) (cJ cI cO cB : ClassId) (R : Nat → Nat → Int64) (b : Bool) (pr : Nat → Int32) (tm : Nat → Int32) (cn : Int32) (sm : Nat → Int32) (ac : Int32) (re : Int32) (kn : Int32) (F : Nat) (p0 : Int32) (p1 : Int32) (cd : Nat) (r : Int32) (pr' : Nat → Int32) (tm' : Nat → Int32) (cn' : Int32) (hlt : l.stackTraces = false) (h : p_X7_squareless F pr tm cn p0 p1 = some (cd, r, pr', tm', cn')) : zMxi l yX7_squareless wsX7_squareless 7 112 2 12 D (zT cJ cI cO cB) [.ref (a 0), .int p0, .int p1] (cW a cJ cI cO R b pr tm cn sm ac re kn) (cW a cJ cI cO R b pr' tm' cn' sm ac re kn) cd r := by
  intro sz
  delta zQxi zX
  refine vx_ofW (cc := cX7_squareless) (maxL := 3) (ret := (some .int)) (by decide) rfl ?_
  intro p e s m args below meth c s₁ B hml hnt hv
  obtain ⟨rfl, ⟨hsz, hP, hK, hD0⟩, hE⟩ := hv
  have hx := B.exec
  have hb := B.bytes
  have hr := B.returns
  have hts := atoms_spec (ws := wsX7_squareless) B.pre
  have hown : s.vm.findClass RX7 = some m.cls := findClass_of_methodNamed B.named
  have hlocks := B.notSynchronized
  subst hsz
  have hD := hD0.self (sz := s.heap.size)
  generalize hAe : va_A (cW a cJ cI cO R b pr tm cn sm ac re kn) s.heap.size = A at hD hE ⊢
  have hA : ∀ q : Nat, s.heap.size ≤ q → A q := fun q h => by rw [← hAe]; exact Or.inr h
  have hS : va_S A s.heap s.heap [] := va_S.rf
  have hl := lv_entry ([.ref (a 0), .int p0, .int p1]) (n := 3) (Nat.le_of_ble_eq_true rfl)
  rw [lg_entry_eq]
  generalize (lg_sl ([.ref (a 0), .int p0, .int p1]) ++ List.replicate (3 - (lg_sl ([.ref (a 0), .int p0, .int p1])).length) Slot.unset).toArray = ls at hl ⊢
  replace hl : lv_has ls 3 [(0, .ref (a 0)), (1, .int p0), (2, .int p1)] := hl
  have kwX7 : ∀ w ∈ u_ws RX7 TX7 9, w ∈ wsX7_squareless := fun w h => List.mem_cons_of_mem _ (List.mem_append_left _ (List.mem_append_left _ (List.mem_append_left _ (List.mem_append_right _ h))))
  have kf_33 := hts (.fieldLink RX7 33 "Divisorwork" "numbers" "LDivisorwork$Numbers;") (zmem 1 rfl)
  replace h : (zb1 (p_X7_need p0 (1 : Int32) (999 : Int32)) (fun cd1 => (if cd1 = 0 then (zb1 (p_X7_need p1 (0 : Int32) (1 : Int32)) (fun cd3 => (if cd3 = 0 then (if ¬ p1 = 0 then (zb4 (p_X1_squarelessBySigns F pr tm cn p0) (fun r5 pr_6 tm_7 cn_8 => (some (0, r5, pr_6, tm_7, cn_8)))) else (zb1 (p_X1_squarelessOneByOne F p0) (fun r10 => (some (0, r10, pr, tm, cn))))) else (some (cd3, (0 : Int32), pr, tm, cn))))) else (some (cd1, (0 : Int32), pr, tm, cn))))) = some (cd, r, pr', tm', cn') := h
  obtain ⟨H, hHe⟩ : ∃ H, H = s.heap := ⟨_, rfl⟩
  rw [← hHe] at hP
  replace hS : va_S A s.heap H [] := by rw [hHe]; exact hS
  refine zheap hHe ?_
  refine lv_iload_n hx hb dX7_squareless_0 rfl (lv_at hl 1 rfl) ?_
  refine lv_iconst (v := (1 : Int32)) hx hb dX7_squareless_1 (by decide) ?_
  refine lv_sipush (v := (999 : Int32)) hx hb dX7_squareless_2 (by decide) ?_
  obtain ⟨cd1, e2, h⟩ := zb1_some h
  refine zxgov (vx_runS (As := [.int p0, .int (1 : Int32), .int (999 : Int32)]) (rest := []) ⟨hx, hb, hml, hown, hts⟩ (c_X7_need l D cJ cI cO cB p0 (1 : Int32) (999 : Int32) cd1 hlt e2 H.size) (va_cwS 3 hts gX7_squareless_X7_need rfl rfl rfl hdS_X7_need ⟨Nat.le_of_ble_eq_true rfl, Nat.le_of_ble_eq_true rfl⟩) (zxpreS hE hS (zf0 hS hA) hK zP0 (zD0 (A := A)) [.int p0, .int (1 : Int32), .int (999 : Int32)]) rfl rfl hl.1 rfl (lv_room (Nat.le_of_ble_eq_true rfl)) dX7_squareless_5 ⟨Nat.le_of_ble_eq_true rfl, Nat.le_of_ble_eq_true rfl⟩) (zf0 hS hA) (zjE hP hD) hS (fun k05 => ?_) (fun k05 H locs hP hD hS => ?_)
  · replace h := zif_f h k05
    have g0 := Option.some.inj h
    obtain ⟨h1, g1⟩ := Prod.mk.inj g0
    obtain ⟨h2, g2⟩ := Prod.mk.inj g1
    obtain ⟨h3, g3⟩ := Prod.mk.inj g2
    obtain ⟨h4, g4⟩ := Prod.mk.inj g3
    subst h1
    subst h2
    subst h3
    subst h4
    subst g4
    exact zxout hnt hlocks k05 hK (Nat.le_of_ble_eq_true rfl) (Nat.le_of_ble_eq_true rfl) k05
  · replace h := zif_t h k05
    refine lv_iload_n hx hb dX7_squareless_8 rfl (lv_at hl 2 rfl) ?_
    refine lv_iconst (v := (0 : Int32)) hx hb dX7_squareless_9 (by decide) ?_
    refine lv_iconst (v := (1 : Int32)) hx hb dX7_squareless_10 (by decide) ?_
    obtain ⟨cd3, e4, h⟩ := zb1_some h
    refine zxgov (vx_runS (As := [.int p1, .int (0 : Int32), .int (1 : Int32)]) (rest := []) ⟨hx, hb, hml, hown, hts⟩ (c_X7_need l D cJ cI cO cB p1 (0 : Int32) (1 : Int32) cd3 hlt e4 H.size) (va_cwS 3 hts gX7_squareless_X7_need rfl rfl rfl hdS_X7_need ⟨Nat.le_of_ble_eq_true rfl, Nat.le_of_ble_eq_true rfl⟩) (zxpreS hE hS (zf0 hS hA) hK zP0 (zD0 (A := A)) [.int p1, .int (0 : Int32), .int (1 : Int32)]) rfl rfl hl.1 rfl (lv_room (Nat.le_of_ble_eq_true rfl)) dX7_squareless_11 ⟨Nat.le_of_ble_eq_true rfl, Nat.le_of_ble_eq_true rfl⟩) (zf0 hS hA) (zjE hP hD) hS (fun k011 => ?_) (fun k011 H locs hP hD hS => ?_)
    · replace h := zif_f h k011
      have g0 := Option.some.inj h
      obtain ⟨h1, g1⟩ := Prod.mk.inj g0
      obtain ⟨h2, g2⟩ := Prod.mk.inj g1
      obtain ⟨h3, g3⟩ := Prod.mk.inj g2
      obtain ⟨h4, g4⟩ := Prod.mk.inj g3
      subst h1
      subst h2
      subst h3
      subst h4
      subst g4
      exact zxout hnt hlocks k011 hK (Nat.le_of_ble_eq_true rfl) (Nat.le_of_ble_eq_true rfl) k011
    · replace h := zif_t h k011
      refine lv_iload_n hx hb dX7_squareless_14 rfl (lv_at hl 2 rfl) ?_
      refine lv_if_ne (tgt := 29) hx hb dX7_squareless_15 (by decide) (fun c15 => ?_) (fun c15 => ?_)
      · replace h := zif_t h c15
        refine lv_aload_n hx hb dX7_squareless_29 rfl (lv_at hl 0 rfl) ?_
        refine va_get (D := D) (ci := 7) (v := .ref (a 15)) (C := RX7) (T := TX7) (N := 9) hx hb hts kwX7 hown hK hP 0 rfl rfl 4 (by decide) kf_33 (fun _ h9 => h9) rfl dX7_squareless_30 ?_
        refine lv_iload_n hx hb dX7_squareless_33 rfl (lv_at hl 1 rfl) ?_
        obtain ⟨r5, pr_6, tm_7, cn_8, e9, h⟩ := zb4_some h
        refine zgoi (va_runV (As := [.int p0]) (rest := []) ⟨hx, hb, hml, hown, hts⟩ (c_X1_squarelessBySigns l D a cJ cI cO cB R b pr tm cn sm ac re kn F p0 r5 pr_6 tm_7 cn_8 e9 H.size) (cwV 1 hts gX7_squareless_X1_squarelessBySigns rfl rfl rfl hdV_X1_squarelessBySigns ⟨Nat.le_of_ble_eq_true rfl, Nat.le_of_ble_eq_true rfl⟩) (zpreV (q0 := 15) (ci := 3) (T := TX1) (N := 2) hK hP hD rfl rfl [.int p0]) rfl rfl hl.1 rfl (lv_room (Nat.le_of_ble_eq_true rfl)) dX7_squareless_34 ⟨Nat.le_of_ble_eq_true rfl, Nat.le_of_ble_eq_true rfl⟩) (zfree hD hS hA) (zjW hD hS hA) hS (fun H locs hP hD hS => ?_)
        replace hP : va_P D vwCl (cW a cJ cI cO R b pr_6 tm_7 cn_8 sm ac re kn) H := hP
        replace hD : va_D A (cW a cJ cI cO R b pr_6 tm_7 cn_8 sm ac re kn) := hD
        have g0 := Option.some.inj h
        obtain ⟨h1, g1⟩ := Prod.mk.inj g0
        obtain ⟨h2, g2⟩ := Prod.mk.inj g1
        obtain ⟨h3, g3⟩ := Prod.mk.inj g2
        obtain ⟨h4, g4⟩ := Prod.mk.inj g3
        subst h1
        subst h2
        subst h3
        subst h4
        subst g4
        refine vx_ret ?_
        exact W.iret (v := r5) hx hb hr (fun t ht hW => ⟨⟨r5, (), rfl, ⟨rfl, rfl⟩, by rw [ht]; exact hP, va_K.moved hW.alike hK, hD⟩, hS.F ht⟩) hS.2.2 dX7_squareless_37
      · replace h := zif_fn h c15
        refine lv_aload_n hx hb dX7_squareless_18 rfl (lv_at hl 0 rfl) ?_
        refine va_get (D := D) (ci := 7) (v := .ref (a 15)) (C := RX7) (T := TX7) (N := 9) hx hb hts kwX7 hown hK hP 0 rfl rfl 4 (by decide) kf_33 (fun _ h9 => h9) rfl dX7_squareless_19 ?_
        refine lv_iload_n hx hb dX7_squareless_22 rfl (lv_at hl 1 rfl) ?_
        obtain ⟨r10, e11, h⟩ := zb1_some h
        refine zgoi (va_runV (As := [.int p0]) (rest := []) ⟨hx, hb, hml, hown, hts⟩ (c_X1_squarelessOneByOne l D a cJ cI cO cB R b pr tm cn sm ac re kn F p0 r10 e11 H.size) (cwV 1 hts gX7_squareless_X1_squarelessOneByOne rfl rfl rfl hdV_X1_squarelessOneByOne ⟨Nat.le_of_ble_eq_true rfl, Nat.le_of_ble_eq_true rfl⟩) (zpreV (q0 := 15) (ci := 3) (T := TX1) (N := 2) hK hP hD rfl rfl [.int p0]) rfl rfl hl.1 rfl (lv_room (Nat.le_of_ble_eq_true rfl)) dX7_squareless_23 ⟨Nat.le_of_ble_eq_true rfl, Nat.le_of_ble_eq_true rfl⟩) (zfree hD hS hA) (zjW hD hS hA) hS (fun H locs hP hD hS => ?_)
        replace hP : va_P D vwCl (cW a cJ cI cO R b pr tm cn sm ac re kn) H := hP
        replace hD : va_D A (cW a cJ cI cO R b pr tm cn sm ac re kn) := hD
        refine lv_goto (tgt := 37) hx hb dX7_squareless_26 (by decide) ?_
        have g0 := Option.some.inj h
        obtain ⟨h1, g1⟩ := Prod.mk.inj g0
        obtain ⟨h2, g2⟩ := Prod.mk.inj g1
        obtain ⟨h3, g3⟩ := Prod.mk.inj g2
        obtain ⟨h4, g4⟩ := Prod.mk.inj g3
        subst h1
        subst h2
        subst h3
        subst h4
        subst g4
        refine vx_ret ?_
        exact W.iret (v := r10) hx hb hr (fun t ht hW => ⟨⟨r10, (), rfl, ⟨rfl, rfl⟩, by rw [ht]; exact hP, va_K.moved hW.alike hK, hD⟩, hS.F ht⟩) hS.2.2 dX7_squareless_37

noncomputable def p_X7_apart (F : Nat) (pr : Nat → Int32) (tm : Nat → Int32) (cn : Int32) (p0 : Int32) (p1 : Int32) : Option (Nat × Int32 × (Nat → Int32) × (Nat → Int32) × Int32) := (zb1 (p_X7_need p0 (1 : Int32) (120 : Int32)) (fun cd1 => (if cd1 = 0 then (zb1 (p_X7_need p1 (0 : Int32) (2 : Int32)) (fun cd3 => (if cd3 = 0 then (if ¬ p1 = 0 then (if ¬ p1 = (1 : Int32) then (zb4 (p_X1_apartByPhi F pr tm cn p0) (fun r5 pr_6 tm_7 cn_8 => (some (0, r5, pr_6, tm_7, cn_8)))) else (zb4 (p_X1_apartBySigns F pr tm cn p0) (fun r10 pr_11 tm_12 cn_13 => (some (0, r10, pr_11, tm_12, cn_13))))) else (zb1 (p_X1_apartOneByOne F p0) (fun r15 => (some (0, r15, pr, tm, cn))))) else (some (cd3, (0 : Int32), pr, tm, cn))))) else (some (cd1, (0 : Int32), pr, tm, cn)))))
theorem hdV_X7_apart : yX7_apart.cls = RX7 ∧ yX7_apart.cls ≠ "java/lang/invoke/MethodHandle" ∧ yX7_apart.cls ≠ "java/lang/invoke/VarHandle" ∧ (parseMethodDescriptor yX7_apart.desc).map (fun d => d.parameters.length) = some 2 := by decide +kernel
set_option maxHeartbeats 4000000 in
set_option maxRecDepth 100000 in
theorem c_X7_apart (l : Launch) (D : va_G) (a : Nat → Nat) (cJ cI cO cB : ClassId) (R : Nat → Nat → Int64) (b : Bool) (pr : Nat → Int32) (tm : Nat → Int32) (cn : Int32) (sm : Nat → Int32) (ac : Int32) (re : Int32) (kn : Int32) (F : Nat) (p0 : Int32) (p1 : Int32) (cd : Nat) (r : Int32) (pr' : Nat → Int32) (tm' : Nat → Int32) (cn' : Int32) (hlt : l.stackTraces = false) (h : p_X7_apart F pr tm cn p0 p1 = some (cd, r, pr', tm', cn')) : zMxi l yX7_apart wsX7_apart 7 112 2 12 D (zT cJ cI cO cB) [.ref (a 0), .int p0, .int p1] (cW a cJ cI cO R b pr tm cn sm ac re kn) (cW a cJ cI cO R b pr' tm' cn' sm ac re kn) cd r := by
  intro sz
  delta zQxi zX
  refine vx_ofW (cc := cX7_apart) (maxL := 3) (ret := (some .int)) (by decide) rfl ?_
  intro p e s m args below meth c s₁ B hml hnt hv
  obtain ⟨rfl, ⟨hsz, hP, hK, hD0⟩, hE⟩ := hv
  have hx := B.exec
  have hb := B.bytes
  have hr := B.returns
  have hts := atoms_spec (ws := wsX7_apart) B.pre
  have hown : s.vm.findClass RX7 = some m.cls := findClass_of_methodNamed B.named
  have hlocks := B.notSynchronized
  subst hsz
  have hD := hD0.self (sz := s.heap.size)
  generalize hAe : va_A (cW a cJ cI cO R b pr tm cn sm ac re kn) s.heap.size = A at hD hE ⊢
  have hA : ∀ q : Nat, s.heap.size ≤ q → A q := fun q h => by rw [← hAe]; exact Or.inr h
  have hS : va_S A s.heap s.heap [] := va_S.rf
  have hl := lv_entry ([.ref (a 0), .int p0, .int p1]) (n := 3) (Nat.le_of_ble_eq_true rfl)
  rw [lg_entry_eq]
  generalize (lg_sl ([.ref (a 0), .int p0, .int p1]) ++ List.replicate (3 - (lg_sl ([.ref (a 0), .int p0, .int p1])).length) Slot.unset).toArray = ls at hl ⊢
  replace hl : lv_has ls 3 [(0, .ref (a 0)), (1, .int p0), (2, .int p1)] := hl
  have kwX7 : ∀ w ∈ u_ws RX7 TX7 9, w ∈ wsX7_apart := fun w h => List.mem_cons_of_mem _ (List.mem_append_left _ (List.mem_append_left _ (List.mem_append_left _ (List.mem_append_left _ (List.mem_append_right _ h)))))
  have kf_33 := hts (.fieldLink RX7 33 "Divisorwork" "numbers" "LDivisorwork$Numbers;") (zmem 1 rfl)
  replace h : (zb1 (p_X7_need p0 (1 : Int32) (120 : Int32)) (fun cd1 => (if cd1 = 0 then (zb1 (p_X7_need p1 (0 : Int32) (2 : Int32)) (fun cd3 => (if cd3 = 0 then (if ¬ p1 = 0 then (if ¬ p1 = (1 : Int32) then (zb4 (p_X1_apartByPhi F pr tm cn p0) (fun r5 pr_6 tm_7 cn_8 => (some (0, r5, pr_6, tm_7, cn_8)))) else (zb4 (p_X1_apartBySigns F pr tm cn p0) (fun r10 pr_11 tm_12 cn_13 => (some (0, r10, pr_11, tm_12, cn_13))))) else (zb1 (p_X1_apartOneByOne F p0) (fun r15 => (some (0, r15, pr, tm, cn))))) else (some (cd3, (0 : Int32), pr, tm, cn))))) else (some (cd1, (0 : Int32), pr, tm, cn))))) = some (cd, r, pr', tm', cn') := h
  obtain ⟨H, hHe⟩ : ∃ H, H = s.heap := ⟨_, rfl⟩
  rw [← hHe] at hP
  replace hS : va_S A s.heap H [] := by rw [hHe]; exact hS
  refine zheap hHe ?_
  refine lv_iload_n hx hb dX7_apart_0 rfl (lv_at hl 1 rfl) ?_
  refine lv_iconst (v := (1 : Int32)) hx hb dX7_apart_1 (by decide) ?_
  refine lv_bipush (v := (120 : Int32)) hx hb dX7_apart_2 (by decide) ?_
  obtain ⟨cd1, e2, h⟩ := zb1_some h
  refine zxgov (vx_runS (As := [.int p0, .int (1 : Int32), .int (120 : Int32)]) (rest := []) ⟨hx, hb, hml, hown, hts⟩ (c_X7_need l D cJ cI cO cB p0 (1 : Int32) (120 : Int32) cd1 hlt e2 H.size) (va_cwS 3 hts gX7_apart_X7_need rfl rfl rfl hdS_X7_need ⟨Nat.le_of_ble_eq_true rfl, Nat.le_of_ble_eq_true rfl⟩) (zxpreS hE hS (zf0 hS hA) hK zP0 (zD0 (A := A)) [.int p0, .int (1 : Int32), .int (120 : Int32)]) rfl rfl hl.1 rfl (lv_room (Nat.le_of_ble_eq_true rfl)) dX7_apart_4 ⟨Nat.le_of_ble_eq_true rfl, Nat.le_of_ble_eq_true rfl⟩) (zf0 hS hA) (zjE hP hD) hS (fun k04 => ?_) (fun k04 H locs hP hD hS => ?_)
  · replace h := zif_f h k04
    have g0 := Option.some.inj h
    obtain ⟨h1, g1⟩ := Prod.mk.inj g0
    obtain ⟨h2, g2⟩ := Prod.mk.inj g1
    obtain ⟨h3, g3⟩ := Prod.mk.inj g2
    obtain ⟨h4, g4⟩ := Prod.mk.inj g3
    subst h1
    subst h2
    subst h3
    subst h4
    subst g4
    exact zxout hnt hlocks k04 hK (Nat.le_of_ble_eq_true rfl) (Nat.le_of_ble_eq_true rfl) k04
  · replace h := zif_t h k04
    refine lv_iload_n hx hb dX7_apart_7 rfl (lv_at hl 2 rfl) ?_
    refine lv_iconst (v := (0 : Int32)) hx hb dX7_apart_8 (by decide) ?_
    refine lv_iconst (v := (2 : Int32)) hx hb dX7_apart_9 (by decide) ?_
    obtain ⟨cd3, e4, h⟩ := zb1_some h
    refine zxgov (vx_runS (As := [.int p1, .int (0 : Int32), .int (2 : Int32)]) (rest := []) ⟨hx, hb, hml, hown, hts⟩ (c_X7_need l D cJ cI cO cB p1 (0 : Int32) (2 : Int32) cd3 hlt e4 H.size) (va_cwS 3 hts gX7_apart_X7_need rfl rfl rfl hdS_X7_need ⟨Nat.le_of_ble_eq_true rfl, Nat.le_of_ble_eq_true rfl⟩) (zxpreS hE hS (zf0 hS hA) hK zP0 (zD0 (A := A)) [.int p1, .int (0 : Int32), .int (2 : Int32)]) rfl rfl hl.1 rfl (lv_room (Nat.le_of_ble_eq_true rfl)) dX7_apart_10 ⟨Nat.le_of_ble_eq_true rfl, Nat.le_of_ble_eq_true rfl⟩) (zf0 hS hA) (zjE hP hD) hS (fun k010 => ?_) (fun k010 H locs hP hD hS => ?_)
    · replace h := zif_f h k010
      have g0 := Option.some.inj h
      obtain ⟨h1, g1⟩ := Prod.mk.inj g0
      obtain ⟨h2, g2⟩ := Prod.mk.inj g1
      obtain ⟨h3, g3⟩ := Prod.mk.inj g2
      obtain ⟨h4, g4⟩ := Prod.mk.inj g3
      subst h1
      subst h2
      subst h3
      subst h4
      subst g4
      exact zxout hnt hlocks k010 hK (Nat.le_of_ble_eq_true rfl) (Nat.le_of_ble_eq_true rfl) k010
    · replace h := zif_t h k010
      refine lv_iload_n hx hb dX7_apart_13 rfl (lv_at hl 2 rfl) ?_
      refine lv_if_ne (tgt := 26) hx hb dX7_apart_14 (by decide) (fun c14 => ?_) (fun c14 => ?_)
      · replace h := zif_t h c14
        refine lv_iload_n hx hb dX7_apart_26 rfl (lv_at hl 2 rfl) ?_
        refine lv_iconst (v := (1 : Int32)) hx hb dX7_apart_27 (by decide) ?_
        refine lv_icmp_ne (tgt := 42) hx hb dX7_apart_28 (by decide) (fun c28 => ?_) (fun c28 => ?_)
        · replace h := zif_t h c28
          refine lv_aload_n hx hb dX7_apart_42 rfl (lv_at hl 0 rfl) ?_
          refine va_get (D := D) (ci := 7) (v := .ref (a 15)) (C := RX7) (T := TX7) (N := 9) hx hb hts kwX7 hown hK hP 0 rfl rfl 4 (by decide) kf_33 (fun _ h9 => h9) rfl dX7_apart_43 ?_
          refine lv_iload_n hx hb dX7_apart_46 rfl (lv_at hl 1 rfl) ?_
          obtain ⟨r5, pr_6, tm_7, cn_8, e9, h⟩ := zb4_some h
          refine zgoi (va_runV (As := [.int p0]) (rest := []) ⟨hx, hb, hml, hown, hts⟩ (c_X1_apartByPhi l D a cJ cI cO cB R b pr tm cn sm ac re kn F p0 r5 pr_6 tm_7 cn_8 e9 H.size) (cwV 1 hts gX7_apart_X1_apartByPhi rfl rfl rfl hdV_X1_apartByPhi ⟨Nat.le_of_ble_eq_true rfl, Nat.le_of_ble_eq_true rfl⟩) (zpreV (q0 := 15) (ci := 3) (T := TX1) (N := 2) hK hP hD rfl rfl [.int p0]) rfl rfl hl.1 rfl (lv_room (Nat.le_of_ble_eq_true rfl)) dX7_apart_47 ⟨Nat.le_of_ble_eq_true rfl, Nat.le_of_ble_eq_true rfl⟩) (zfree hD hS hA) (zjW hD hS hA) hS (fun H locs hP hD hS => ?_)
          replace hP : va_P D vwCl (cW a cJ cI cO R b pr_6 tm_7 cn_8 sm ac re kn) H := hP
          replace hD : va_D A (cW a cJ cI cO R b pr_6 tm_7 cn_8 sm ac re kn) := hD
          have g0 := Option.some.inj h
          obtain ⟨h1, g1⟩ := Prod.mk.inj g0
          obtain ⟨h2, g2⟩ := Prod.mk.inj g1
          obtain ⟨h3, g3⟩ := Prod.mk.inj g2
          obtain ⟨h4, g4⟩ := Prod.mk.inj g3
          subst h1
          subst h2
          subst h3
          subst h4
          subst g4
          refine vx_ret ?_
          exact W.iret (v := r5) hx hb hr (fun t ht hW => ⟨⟨r5, (), rfl, ⟨rfl, rfl⟩, by rw [ht]; exact hP, va_K.moved hW.alike hK, hD⟩, hS.F ht⟩) hS.2.2 dX7_apart_50
        · replace h := zif_fn h c28
          refine lv_aload_n hx hb dX7_apart_31 rfl (lv_at hl 0 rfl) ?_
          refine va_get (D := D) (ci := 7) (v := .ref (a 15)) (C := RX7) (T := TX7) (N := 9) hx hb hts kwX7 hown hK hP 0 rfl rfl 4 (by decide) kf_33 (fun _ h9 => h9) rfl dX7_apart_32 ?_
          refine lv_iload_n hx hb dX7_apart_35 rfl (lv_at hl 1 rfl) ?_
          obtain ⟨r10, pr_11, tm_12, cn_13, e14, h⟩ := zb4_some h
          refine zgoi (va_runV (As := [.int p0]) (rest := []) ⟨hx, hb, hml, hown, hts⟩ (c_X1_apartBySigns l D a cJ cI cO cB R b pr tm cn sm ac re kn F p0 r10 pr_11 tm_12 cn_13 e14 H.size) (cwV 1 hts gX7_apart_X1_apartBySigns rfl rfl rfl hdV_X1_apartBySigns ⟨Nat.le_of_ble_eq_true rfl, Nat.le_of_ble_eq_true rfl⟩) (zpreV (q0 := 15) (ci := 3) (T := TX1) (N := 2) hK hP hD rfl rfl [.int p0]) rfl rfl hl.1 rfl (lv_room (Nat.le_of_ble_eq_true rfl)) dX7_apart_36 ⟨Nat.le_of_ble_eq_true rfl, Nat.le_of_ble_eq_true rfl⟩) (zfree hD hS hA) (zjW hD hS hA) hS (fun H locs hP hD hS => ?_)
          replace hP : va_P D vwCl (cW a cJ cI cO R b pr_11 tm_12 cn_13 sm ac re kn) H := hP
          replace hD : va_D A (cW a cJ cI cO R b pr_11 tm_12 cn_13 sm ac re kn) := hD
          refine lv_goto (tgt := 50) hx hb dX7_apart_39 (by decide) ?_
          have g0 := Option.some.inj h
          obtain ⟨h1, g1⟩ := Prod.mk.inj g0
          obtain ⟨h2, g2⟩ := Prod.mk.inj g1
          obtain ⟨h3, g3⟩ := Prod.mk.inj g2
          obtain ⟨h4, g4⟩ := Prod.mk.inj g3
          subst h1
          subst h2
          subst h3
          subst h4
          subst g4
          refine vx_ret ?_
          exact W.iret (v := r10) hx hb hr (fun t ht hW => ⟨⟨r10, (), rfl, ⟨rfl, rfl⟩, by rw [ht]; exact hP, va_K.moved hW.alike hK, hD⟩, hS.F ht⟩) hS.2.2 dX7_apart_50
      · replace h := zif_fn h c14
        refine lv_aload_n hx hb dX7_apart_17 rfl (lv_at hl 0 rfl) ?_
        refine va_get (D := D) (ci := 7) (v := .ref (a 15)) (C := RX7) (T := TX7) (N := 9) hx hb hts kwX7 hown hK hP 0 rfl rfl 4 (by decide) kf_33 (fun _ h9 => h9) rfl dX7_apart_18 ?_
        refine lv_iload_n hx hb dX7_apart_21 rfl (lv_at hl 1 rfl) ?_
        obtain ⟨r15, e16, h⟩ := zb1_some h
        refine zgoi (va_runV (As := [.int p0]) (rest := []) ⟨hx, hb, hml, hown, hts⟩ (c_X1_apartOneByOne l D a cJ cI cO cB R b pr tm cn sm ac re kn F p0 r15 e16 H.size) (cwV 1 hts gX7_apart_X1_apartOneByOne rfl rfl rfl hdV_X1_apartOneByOne ⟨Nat.le_of_ble_eq_true rfl, Nat.le_of_ble_eq_true rfl⟩) (zpreV (q0 := 15) (ci := 3) (T := TX1) (N := 2) hK hP hD rfl rfl [.int p0]) rfl rfl hl.1 rfl (lv_room (Nat.le_of_ble_eq_true rfl)) dX7_apart_22 ⟨Nat.le_of_ble_eq_true rfl, Nat.le_of_ble_eq_true rfl⟩) (zfree hD hS hA) (zjW hD hS hA) hS (fun H locs hP hD hS => ?_)
        replace hP : va_P D vwCl (cW a cJ cI cO R b pr tm cn sm ac re kn) H := hP
        replace hD : va_D A (cW a cJ cI cO R b pr tm cn sm ac re kn) := hD
        have g0 := Option.some.inj h
        obtain ⟨h1, g1⟩ := Prod.mk.inj g0
        obtain ⟨h2, g2⟩ := Prod.mk.inj g1
        obtain ⟨h3, g3⟩ := Prod.mk.inj g2
        obtain ⟨h4, g4⟩ := Prod.mk.inj g3
        subst h1
        subst h2
        subst h3
        subst h4
        subst g4
        refine vx_ret ?_
        exact W.iret (v := r15) hx hb hr (fun t ht hW => ⟨⟨r15, (), rfl, ⟨rfl, rfl⟩, by rw [ht]; exact hP, va_K.moved hW.alike hK, hD⟩, hS.F ht⟩) hS.2.2 dX7_apart_25

noncomputable def p_X7_shared (F : Nat) (p0 : Int32) (p1 : Int32) (p2 : Bool) : Option (Nat × Int32) := (zb1 (p_X7_need p0 (1 : Int32) (999 : Int32)) (fun cd1 => (if cd1 = 0 then (zb1 (p_X7_need p1 (1 : Int32) (999 : Int32)) (fun cd3 => (if cd3 = 0 then (if (z01 p2) = 0 then (zb1 (p_X1_commonOf F p0 p1) (fun r5 => (some (0, r5)))) else (zb1 (p_X1_leastOf F p0 p1) (fun r7 => (some (0, r7))))) else (some (cd3, (0 : Int32)))))) else (some (cd1, (0 : Int32))))))
theorem hdV_X7_shared : yX7_shared.cls = RX7 ∧ yX7_shared.cls ≠ "java/lang/invoke/MethodHandle" ∧ yX7_shared.cls ≠ "java/lang/invoke/VarHandle" ∧ (parseMethodDescriptor yX7_shared.desc).map (fun d => d.parameters.length) = some 3 := by decide +kernel
set_option maxHeartbeats 4000000 in
set_option maxRecDepth 100000 in
theorem c_X7_shared (l : Launch) (D : va_G) (a : Nat → Nat) (cJ cI cO cB : ClassId) (R : Nat → Nat → Int64) (b : Bool) (pr : Nat → Int32) (tm : Nat → Int32) (cn : Int32) (sm : Nat → Int32) (ac : Int32) (re : Int32) (kn : Int32) (F : Nat) (p0 : Int32) (p1 : Int32) (p2 : Bool) (cd : Nat) (r : Int32) (hlt : l.stackTraces = false) (h : p_X7_shared F p0 p1 p2 = some (cd, r)) : zMxi l yX7_shared wsX7_shared 7 112 2 12 D (zT cJ cI cO cB) [.ref (a 0), .int p0, .int p1, .int (z01 p2)] (cW a cJ cI cO R b pr tm cn sm ac re kn) (cW a cJ cI cO R b pr tm cn sm ac re kn) cd r := by
  intro sz
  delta zQxi zX
  refine vx_ofW (cc := cX7_shared) (maxL := 4) (ret := (some .int)) (by decide) rfl ?_
  intro p e s m args below meth c s₁ B hml hnt hv
  obtain ⟨rfl, ⟨hsz, hP, hK, hD0⟩, hE⟩ := hv
  have hx := B.exec
  have hb := B.bytes
  have hr := B.returns
  have hts := atoms_spec (ws := wsX7_shared) B.pre
  have hown : s.vm.findClass RX7 = some m.cls := findClass_of_methodNamed B.named
  have hlocks := B.notSynchronized
  subst hsz
  have hD := hD0.self (sz := s.heap.size)
  generalize hAe : va_A (cW a cJ cI cO R b pr tm cn sm ac re kn) s.heap.size = A at hD hE ⊢
  have hA : ∀ q : Nat, s.heap.size ≤ q → A q := fun q h => by rw [← hAe]; exact Or.inr h
  have hS : va_S A s.heap s.heap [] := va_S.rf
  have hl := lv_entry ([.ref (a 0), .int p0, .int p1, .int (z01 p2)]) (n := 4) (Nat.le_of_ble_eq_true rfl)
  rw [lg_entry_eq]
  generalize (lg_sl ([.ref (a 0), .int p0, .int p1, .int (z01 p2)]) ++ List.replicate (4 - (lg_sl ([.ref (a 0), .int p0, .int p1, .int (z01 p2)])).length) Slot.unset).toArray = ls at hl ⊢
  replace hl : lv_has ls 4 [(0, .ref (a 0)), (1, .int p0), (2, .int p1), (3, .int (z01 p2))] := hl
  replace h : (zb1 (p_X7_need p0 (1 : Int32) (999 : Int32)) (fun cd1 => (if cd1 = 0 then (zb1 (p_X7_need p1 (1 : Int32) (999 : Int32)) (fun cd3 => (if cd3 = 0 then (if (z01 p2) = 0 then (zb1 (p_X1_commonOf F p0 p1) (fun r5 => (some (0, r5)))) else (zb1 (p_X1_leastOf F p0 p1) (fun r7 => (some (0, r7))))) else (some (cd3, (0 : Int32)))))) else (some (cd1, (0 : Int32)))))) = some (cd, r) := h
  obtain ⟨H, hHe⟩ : ∃ H, H = s.heap := ⟨_, rfl⟩
  rw [← hHe] at hP
  replace hS : va_S A s.heap H [] := by rw [hHe]; exact hS
  refine zheap hHe ?_
  refine lv_iload_n hx hb dX7_shared_0 rfl (lv_at hl 1 rfl) ?_
  refine lv_iconst (v := (1 : Int32)) hx hb dX7_shared_1 (by decide) ?_
  refine lv_sipush (v := (999 : Int32)) hx hb dX7_shared_2 (by decide) ?_
  obtain ⟨cd1, e2, h⟩ := zb1_some h
  refine zxgov (vx_runS (As := [.int p0, .int (1 : Int32), .int (999 : Int32)]) (rest := []) ⟨hx, hb, hml, hown, hts⟩ (c_X7_need l D cJ cI cO cB p0 (1 : Int32) (999 : Int32) cd1 hlt e2 H.size) (va_cwS 3 hts gX7_shared_X7_need rfl rfl rfl hdS_X7_need ⟨Nat.le_of_ble_eq_true rfl, Nat.le_of_ble_eq_true rfl⟩) (zxpreS hE hS (zf0 hS hA) hK zP0 (zD0 (A := A)) [.int p0, .int (1 : Int32), .int (999 : Int32)]) rfl rfl hl.1 rfl (lv_room (Nat.le_of_ble_eq_true rfl)) dX7_shared_5 ⟨Nat.le_of_ble_eq_true rfl, Nat.le_of_ble_eq_true rfl⟩) (zf0 hS hA) (zjE hP hD) hS (fun k05 => ?_) (fun k05 H locs hP hD hS => ?_)
  · replace h := zif_f h k05
    have g0 := Option.some.inj h
    obtain ⟨h1, g1⟩ := Prod.mk.inj g0
    subst h1
    subst g1
    exact zxout hnt hlocks k05 hK (Nat.le_of_ble_eq_true rfl) (Nat.le_of_ble_eq_true rfl) k05
  · replace h := zif_t h k05
    refine lv_iload_n hx hb dX7_shared_8 rfl (lv_at hl 2 rfl) ?_
    refine lv_iconst (v := (1 : Int32)) hx hb dX7_shared_9 (by decide) ?_
    refine lv_sipush (v := (999 : Int32)) hx hb dX7_shared_10 (by decide) ?_
    obtain ⟨cd3, e4, h⟩ := zb1_some h
    refine zxgov (vx_runS (As := [.int p1, .int (1 : Int32), .int (999 : Int32)]) (rest := []) ⟨hx, hb, hml, hown, hts⟩ (c_X7_need l D cJ cI cO cB p1 (1 : Int32) (999 : Int32) cd3 hlt e4 H.size) (va_cwS 3 hts gX7_shared_X7_need rfl rfl rfl hdS_X7_need ⟨Nat.le_of_ble_eq_true rfl, Nat.le_of_ble_eq_true rfl⟩) (zxpreS hE hS (zf0 hS hA) hK zP0 (zD0 (A := A)) [.int p1, .int (1 : Int32), .int (999 : Int32)]) rfl rfl hl.1 rfl (lv_room (Nat.le_of_ble_eq_true rfl)) dX7_shared_13 ⟨Nat.le_of_ble_eq_true rfl, Nat.le_of_ble_eq_true rfl⟩) (zf0 hS hA) (zjE hP hD) hS (fun k013 => ?_) (fun k013 H locs hP hD hS => ?_)
    · replace h := zif_f h k013
      have g0 := Option.some.inj h
      obtain ⟨h1, g1⟩ := Prod.mk.inj g0
      subst h1
      subst g1
      exact zxout hnt hlocks k013 hK (Nat.le_of_ble_eq_true rfl) (Nat.le_of_ble_eq_true rfl) k013
    · replace h := zif_t h k013
      refine lv_iload_n hx hb dX7_shared_16 rfl (lv_at hl 3 rfl) ?_
      refine lv_if_eq (tgt := 28) hx hb dX7_shared_17 (by decide) (fun c17 => ?_) (fun c17 => ?_)
      · replace h := zif_t h c17
        refine lv_iload_n hx hb dX7_shared_28 rfl (lv_at hl 1 rfl) ?_
        refine lv_iload_n hx hb dX7_shared_29 rfl (lv_at hl 2 rfl) ?_
        obtain ⟨r5, e6, h⟩ := zb1_some h
        refine zgoi (va_runS (As := [.int p0, .int p1]) (rest := []) ⟨hx, hb, hml, hown, hts⟩ (c_X1_commonOf l D (zT cJ cI cO cB) F p0 p1 r5 e6 H.size) (va_cwS 2 hts gX7_shared_X1_commonOf rfl rfl rfl hdS_X1_commonOf ⟨Nat.le_of_ble_eq_true rfl, Nat.le_of_ble_eq_true rfl⟩) (zpreS hK zP0 (zD0 (A := A)) [.int p0, .int p1]) rfl rfl hl.1 rfl (lv_room (Nat.le_of_ble_eq_true rfl)) dX7_shared_30 ⟨Nat.le_of_ble_eq_true rfl, Nat.le_of_ble_eq_true rfl⟩) (zf0 hS hA) (zjE hP hD) hS (fun H locs hP hD hS => ?_)
        have g0 := Option.some.inj h
        obtain ⟨h1, g1⟩ := Prod.mk.inj g0
        subst h1
        subst g1
        refine vx_ret ?_
        exact W.iret (v := r5) hx hb hr (fun t ht hW => ⟨⟨r5, (), rfl, ⟨rfl, rfl⟩, by rw [ht]; exact hP, va_K.moved hW.alike hK, hD⟩, hS.F ht⟩) hS.2.2 dX7_shared_33
      · replace h := zif_f h c17
        refine lv_iload_n hx hb dX7_shared_20 rfl (lv_at hl 1 rfl) ?_
        refine lv_iload_n hx hb dX7_shared_21 rfl (lv_at hl 2 rfl) ?_
        obtain ⟨r7, e8, h⟩ := zb1_some h
        refine zgoi (va_runS (As := [.int p0, .int p1]) (rest := []) ⟨hx, hb, hml, hown, hts⟩ (c_X1_leastOf l D (zT cJ cI cO cB) F p0 p1 r7 e8 H.size) (va_cwS 2 hts gX7_shared_X1_leastOf rfl rfl rfl hdS_X1_leastOf ⟨Nat.le_of_ble_eq_true rfl, Nat.le_of_ble_eq_true rfl⟩) (zpreS hK zP0 (zD0 (A := A)) [.int p0, .int p1]) rfl rfl hl.1 rfl (lv_room (Nat.le_of_ble_eq_true rfl)) dX7_shared_22 ⟨Nat.le_of_ble_eq_true rfl, Nat.le_of_ble_eq_true rfl⟩) (zf0 hS hA) (zjE hP hD) hS (fun H locs hP hD hS => ?_)
        refine lv_goto (tgt := 33) hx hb dX7_shared_25 (by decide) ?_
        have g0 := Option.some.inj h
        obtain ⟨h1, g1⟩ := Prod.mk.inj g0
        subst h1
        subst g1
        refine vx_ret ?_
        exact W.iret (v := r7) hx hb hr (fun t ht hW => ⟨⟨r7, (), rfl, ⟨rfl, rfl⟩, by rw [ht]; exact hP, va_K.moved hW.alike hK, hD⟩, hS.F ht⟩) hS.2.2 dX7_shared_33

noncomputable def p_X7_divisor_L0 (F : Nat) (R : Nat → Nat → Int64) (b : Bool) (pr : Nat → Int32) (tm : Nat → Int32) (cn : Int32) (sm : Nat → Int32) (ac : Int32) (re : Int32) (kn : Int32) (p0 : Int32) (p1 : Int32) (k : Int32 → Int32 → Option (Nat × Int32 × (Nat → Nat → Int64) × Bool × (Nat → Int32) × (Nat → Int32) × Int32 × (Nat → Int32) × Int32 × Int32 × Int32)) : Nat → Int32 → Int32 → Option (Nat × Int32 × (Nat → Nat → Int64) × Bool × (Nat → Int32) × (Nat → Int32) × Int32 × (Nat → Int32) × Int32 × Int32 × Int32)
  | 0, _, _ => none
  | n + 1, v3_0, v4_0 => (if p0 < v4_0 then (k v3_0 v4_0) else (zg (v4_0 = 0) (if ¬ (zr p0 v4_0) = 0 then (p_X7_divisor_L0 F R b pr tm cn sm ac re kn p0 p1 k n v3_0 (v4_0 + (1 : Int32))) else (if ¬ v3_0 = p1 then (p_X7_divisor_L0 F R b pr tm cn sm ac re kn p0 p1 k n (v3_0 + (1 : Int32)) (v4_0 + (1 : Int32))) else (some (0, v4_0, R, b, pr, tm, cn, sm, ac, re, kn))))))
noncomputable def p_X7_divisor (F : Nat) (R : Nat → Nat → Int64) (b : Bool) (pr : Nat → Int32) (tm : Nat → Int32) (cn : Int32) (sm : Nat → Int32) (ac : Int32) (re : Int32) (kn : Int32) (p0 : Int32) (p1 : Int32) : Option (Nat × Int32 × (Nat → Nat → Int64) × Bool × (Nat → Int32) × (Nat → Int32) × Int32 × (Nat → Int32) × Int32 × Int32 × Int32) := (zb1 (p_X7_need p0 (1 : Int32) (999 : Int32)) (fun cd1 => (if cd1 = 0 then (if 0 ≤ p1 then (p_X7_divisor_L0 F R b pr tm cn sm ac re kn p0 p1 (fun v3_0 v4_0 => (some (0, (-1 : Int32), R, b, pr, tm, cn, sm, ac, re, kn))) F (0 : Int32) (1 : Int32)) else (some (2, (0 : Int32), R, b, pr, tm, cn, sm, ac, re, kn))) else (some (cd1, (0 : Int32), R, b, pr, tm, cn, sm, ac, re, kn)))))
theorem hdV_X7_divisor : yX7_divisor.cls = RX7 ∧ yX7_divisor.cls ≠ "java/lang/invoke/MethodHandle" ∧ yX7_divisor.cls ≠ "java/lang/invoke/VarHandle" ∧ (parseMethodDescriptor yX7_divisor.desc).map (fun d => d.parameters.length) = some 2 := by decide +kernel
set_option maxHeartbeats 4000000 in
set_option maxRecDepth 100000 in
theorem c_X7_divisor (l : Launch) (D : va_G) (a : Nat → Nat) (cJ cI cO cB : ClassId) (R : Nat → Nat → Int64) (b : Bool) (pr : Nat → Int32) (tm : Nat → Int32) (cn : Int32) (sm : Nat → Int32) (ac : Int32) (re : Int32) (kn : Int32) (F : Nat) (p0 : Int32) (p1 : Int32) (cd : Nat) (r : Int32) (R' : Nat → Nat → Int64) (b' : Bool) (pr' : Nat → Int32) (tm' : Nat → Int32) (cn' : Int32) (sm' : Nat → Int32) (ac' : Int32) (re' : Int32) (kn' : Int32) (hlt : l.stackTraces = false) (h : p_X7_divisor F R b pr tm cn sm ac re kn p0 p1 = some (cd, r, R', b', pr', tm', cn', sm', ac', re', kn')) : zMxi l yX7_divisor wsX7_divisor 7 112 2 12 D (zT cJ cI cO cB) [.ref (a 0), .int p0, .int p1] (cW a cJ cI cO R b pr tm cn sm ac re kn) (cW a cJ cI cO R' b' pr' tm' cn' sm' ac' re' kn') cd r := by
  intro sz
  delta zQxi zX
  refine vx_ofW (cc := cX7_divisor) (maxL := 5) (ret := (some .int)) (by decide) rfl ?_
  intro p e s m args below meth c s₁ B hml hnt hv
  obtain ⟨rfl, ⟨hsz, hP, hK, hD0⟩, hE⟩ := hv
  have hx := B.exec
  have hb := B.bytes
  have hr := B.returns
  have hts := atoms_spec (ws := wsX7_divisor) B.pre
  have hown : s.vm.findClass RX7 = some m.cls := findClass_of_methodNamed B.named
  have hlocks := B.notSynchronized
  subst hsz
  have hD := hD0.self (sz := s.heap.size)
  generalize hAe : va_A (cW a cJ cI cO R b pr tm cn sm ac re kn) s.heap.size = A at hD hE ⊢
  have hA : ∀ q : Nat, s.heap.size ≤ q → A q := fun q h => by rw [← hAe]; exact Or.inr h
  have hS : va_S A s.heap s.heap [] := va_S.rf
  have hl := lv_entry ([.ref (a 0), .int p0, .int p1]) (n := 5) (Nat.le_of_ble_eq_true rfl)
  rw [lg_entry_eq]
  generalize (lg_sl ([.ref (a 0), .int p0, .int p1]) ++ List.replicate (5 - (lg_sl ([.ref (a 0), .int p0, .int p1])).length) Slot.unset).toArray = ls at hl ⊢
  replace hl : lv_has ls 5 [(0, .ref (a 0)), (1, .int p0), (2, .int p1)] := hl
  have kc_231 := hts (.classLink RX7 231 "java/lang/IllegalArgumentException") (zmem 6 rfl)
  have kini2 := hts (.initialized "java/lang/IllegalArgumentException") (zmem 1 rfl)
  replace h : (zb1 (p_X7_need p0 (1 : Int32) (999 : Int32)) (fun cd1 => (if cd1 = 0 then (if 0 ≤ p1 then (p_X7_divisor_L0 F R b pr tm cn sm ac re kn p0 p1 (fun v3_0 v4_0 => (some (0, (-1 : Int32), R, b, pr, tm, cn, sm, ac, re, kn))) F (0 : Int32) (1 : Int32)) else (some (2, (0 : Int32), R, b, pr, tm, cn, sm, ac, re, kn))) else (some (cd1, (0 : Int32), R, b, pr, tm, cn, sm, ac, re, kn))))) = some (cd, r, R', b', pr', tm', cn', sm', ac', re', kn') := h
  refine zabs (fun G hG hGW => ?_)
  obtain ⟨H, hHe⟩ : ∃ H, H = s.heap := ⟨_, rfl⟩
  rw [← hHe] at hP
  replace hS : va_S A s.heap H [] := by rw [hHe]; exact hS
  refine zheap hHe ?_
  refine lv_iload_n hx hb dX7_divisor_0 rfl (lv_at hl 1 rfl) ?_
  refine lv_iconst (v := (1 : Int32)) hx hb dX7_divisor_1 (by decide) ?_
  refine lv_sipush (v := (999 : Int32)) hx hb dX7_divisor_2 (by decide) ?_
  obtain ⟨cd1, e2, h⟩ := zb1_some h
  refine zxgov (vx_runS (As := [.int p0, .int (1 : Int32), .int (999 : Int32)]) (rest := []) ⟨hx, hb, hml, hown, hts⟩ (c_X7_need l D cJ cI cO cB p0 (1 : Int32) (999 : Int32) cd1 hlt e2 H.size) (va_cwS 3 hts gX7_divisor_X7_need rfl rfl rfl hdS_X7_need ⟨Nat.le_of_ble_eq_true rfl, Nat.le_of_ble_eq_true rfl⟩) (zxpreS hE hS (zf0 hS hA) hK zP0 (zD0 (A := A)) [.int p0, .int (1 : Int32), .int (999 : Int32)]) rfl rfl hl.1 rfl (lv_room (Nat.le_of_ble_eq_true rfl)) dX7_divisor_5 ⟨Nat.le_of_ble_eq_true rfl, Nat.le_of_ble_eq_true rfl⟩) (zf0 hS hA) (zjE hP hD) hS (fun k05 => ?_) (fun k05 H locs hP hD hS => ?_)
  · replace h := zif_f h k05
    have g0 := Option.some.inj h
    obtain ⟨h1, g1⟩ := Prod.mk.inj g0
    obtain ⟨h2, g2⟩ := Prod.mk.inj g1
    obtain ⟨h3, g3⟩ := Prod.mk.inj g2
    obtain ⟨h4, g4⟩ := Prod.mk.inj g3
    obtain ⟨h5, g5⟩ := Prod.mk.inj g4
    obtain ⟨h6, g6⟩ := Prod.mk.inj g5
    obtain ⟨h7, g7⟩ := Prod.mk.inj g6
    obtain ⟨h8, g8⟩ := Prod.mk.inj g7
    obtain ⟨h9, g9⟩ := Prod.mk.inj g8
    obtain ⟨h10, g10⟩ := Prod.mk.inj g9
    subst h1
    subst h2
    subst h3
    subst h4
    subst h5
    subst h6
    subst h7
    subst h8
    subst h9
    subst h10
    subst g10
    exact zxout hnt hlocks k05 hK (Nat.le_of_ble_eq_true rfl) (Nat.le_of_ble_eq_true rfl) k05
  · replace h := zif_t h k05
    refine lv_iload_n hx hb dX7_divisor_8 rfl (lv_at hl 2 rfl) ?_
    refine lv_if_ge (tgt := 22) hx hb dX7_divisor_9 (by decide) (fun c9 => ?_) (fun c9 => ?_)
    · replace h := zif_t h c9
      refine lv_iconst (v := (0 : Int32)) hx hb dX7_divisor_22 (by decide) ?_
      refine lv_istore_n (lv' := [(3, .int (0 : Int32)), (0, .ref (a 0)), (1, .int p0), (2, .int p1)]) hx hb dX7_divisor_23 rfl hl (by decide) rfl (fun ls hl => ?_)
      refine lv_iconst (v := (1 : Int32)) hx hb dX7_divisor_24 (by decide) ?_
      refine lv_istore (lv' := [(4, .int (1 : Int32)), (3, .int (0 : Int32)), (0, .ref (a 0)), (1, .int p0), (2, .int p1)]) hx hb dX7_divisor_25 hl (by decide) rfl (fun ls hl => ?_)
      have X0 : ∀ (v3_0 : Int32) (v4_0 : Int32) (H : Heap) (locs : List Loc) (ls : Array Slot), va_P D vwCl (cW a cJ cI cO R b pr tm cn sm ac re kn) H → va_D A (cW a cJ cI cO R b pr tm cn sm ac re kn) → va_S A s.heap H locs → lv_has ls 5 [(0, .ref (a 0)), (1, .int p0), (2, .int p1), (3, .int v3_0), (4, .int v4_0)] → (some (0, (-1 : Int32), R, b, pr, tm, cn, sm, ac, re, kn)) = some (cd, r, R', b', pr', tm', cn', sm', ac', re', kn') → G H locs 1 6 (F0 m 57 ls []) := by
        intro v3_0 v4_0 H locs ls hP hD hS hl h
        refine hG _ _ _ _ _ ?_
        refine lv_iconst (v := (-1 : Int32)) hx hb dX7_divisor_57 (by decide) ?_
        have g0 := Option.some.inj h
        obtain ⟨h1, g1⟩ := Prod.mk.inj g0
        obtain ⟨h2, g2⟩ := Prod.mk.inj g1
        obtain ⟨h3, g3⟩ := Prod.mk.inj g2
        obtain ⟨h4, g4⟩ := Prod.mk.inj g3
        obtain ⟨h5, g5⟩ := Prod.mk.inj g4
        obtain ⟨h6, g6⟩ := Prod.mk.inj g5
        obtain ⟨h7, g7⟩ := Prod.mk.inj g6
        obtain ⟨h8, g8⟩ := Prod.mk.inj g7
        obtain ⟨h9, g9⟩ := Prod.mk.inj g8
        obtain ⟨h10, g10⟩ := Prod.mk.inj g9
        subst h1
        subst h2
        subst h3
        subst h4
        subst h5
        subst h6
        subst h7
        subst h8
        subst h9
        subst h10
        subst g10
        refine W.widen (k := 2) (n := 12) (by decide) (by decide) ?_
        refine vx_ret ?_
        exact W.iret (v := (-1 : Int32)) hx hb hr (fun t ht hW => ⟨⟨(-1 : Int32), (), rfl, ⟨rfl, rfl⟩, by rw [ht]; exact hP, va_K.moved hW.alike hK, hD⟩, hS.F ht⟩) hS.2.2 dX7_divisor_58
      have L0 : ∀ (K0 : Int32 → Int32 → Option (Nat × Int32 × (Nat → Nat → Int64) × Bool × (Nat → Int32) × (Nat → Int32) × Int32 × (Nat → Int32) × Int32 × Int32 × Int32)) (HX0 : ∀ (v3_0 : Int32) (v4_0 : Int32) (H : Heap) (locs : List Loc) (ls : Array Slot), va_P D vwCl (cW a cJ cI cO R b pr tm cn sm ac re kn) H → va_D A (cW a cJ cI cO R b pr tm cn sm ac re kn) → va_S A s.heap H locs → lv_has ls 5 [(0, .ref (a 0)), (1, .int p0), (2, .int p1), (3, .int v3_0), (4, .int v4_0)] → K0 v3_0 v4_0 = some (cd, r, R', b', pr', tm', cn', sm', ac', re', kn') → G H locs 1 6 (F0 m 57 ls [])) (fu0 : Nat) (v3_0 : Int32) (v4_0 : Int32) (H : Heap) (locs : List Loc) (ls : Array Slot), va_P D vwCl (cW a cJ cI cO R b pr tm cn sm ac re kn) H → va_D A (cW a cJ cI cO R b pr tm cn sm ac re kn) → va_S A s.heap H locs → lv_has ls 5 [(0, .ref (a 0)), (1, .int p0), (2, .int p1), (3, .int v3_0), (4, .int v4_0)] → p_X7_divisor_L0 F R b pr tm cn sm ac re kn p0 p1 K0 fu0 v3_0 v4_0 = some (cd, r, R', b', pr', tm', cn', sm', ac', re', kn') → G H locs 1 6 (F0 m 27 ls []) := by
        intro K0 HX0 fu0
        induction fu0 with
        | zero =>
          intro v3_0 v4_0 H locs ls hP hD hS hl h
          exact (zno h).elim
        | succ fu0 ih0 =>
          intro v3_0 v4_0 H locs ls hP hD hS hl h
          refine hG _ _ _ _ _ ?_
          unfold p_X7_divisor_L0 at h
          refine lv_iload hx hb dX7_divisor_27 (lv_at hl 4 rfl) ?_
          refine lv_iload_n hx hb dX7_divisor_29 rfl (lv_at hl 1 rfl) ?_
          refine lv_icmp_gt (tgt := 57) hx hb dX7_divisor_30 (by decide) (fun c30 => ?_) (fun c30 => ?_)
          · replace h := zif_t h c30
            exact hGW _ _ _ _ _ (HX0 v3_0 v4_0 _ _ ls hP hD hS (lv_sub hl [0, 1, 2, 3, 4] rfl) h)
          · replace h := zif_f h c30
            refine lv_iload_n hx hb dX7_divisor_33 rfl (lv_at hl 1 rfl) ?_
            refine lv_iload hx hb dX7_divisor_34 (lv_at hl 4 rfl) ?_
            obtain ⟨z36, h⟩ := zg_some h
            refine lv_irem hx hb dX7_divisor_36 z36 ?_
            refine lv_if_ne (tgt := 51) hx hb dX7_divisor_37 (by decide) (fun c37 => ?_) (fun c37 => ?_)
            · replace h := zif_t h c37
              refine lv_iinc (v := (v4_0 + (1 : Int32))) (lv' := [(4, .int (v4_0 + (1 : Int32))), (0, .ref (a 0)), (1, .int p0), (2, .int p1), (3, .int v3_0)]) hx hb dX7_divisor_51 hl (k := 4) rfl rfl (by decide) rfl (fun ls hl => ?_)
              refine lv_goto (tgt := 27) hx hb dX7_divisor_54 (by decide) ?_
              exact hGW _ _ _ _ _ (ih0 v3_0 (v4_0 + (1 : Int32)) _ _ ls hP hD hS (lv_sub hl [1, 2, 3, 4, 0] rfl) h)
            · replace h := zif_fn h c37
              refine lv_iload_n hx hb dX7_divisor_40 rfl (lv_at hl 3 rfl) ?_
              refine lv_iload_n hx hb dX7_divisor_41 rfl (lv_at hl 2 rfl) ?_
              refine lv_icmp_ne (tgt := 48) hx hb dX7_divisor_42 (by decide) (fun c42 => ?_) (fun c42 => ?_)
              · replace h := zif_t h c42
                refine lv_iinc (v := (v3_0 + (1 : Int32))) (lv' := [(3, .int (v3_0 + (1 : Int32))), (0, .ref (a 0)), (1, .int p0), (2, .int p1), (4, .int v4_0)]) hx hb dX7_divisor_48 hl (k := 3) rfl rfl (by decide) rfl (fun ls hl => ?_)
                refine lv_iinc (v := (v4_0 + (1 : Int32))) (lv' := [(4, .int (v4_0 + (1 : Int32))), (3, .int (v3_0 + (1 : Int32))), (0, .ref (a 0)), (1, .int p0), (2, .int p1)]) hx hb dX7_divisor_51 hl (k := 4) rfl rfl (by decide) rfl (fun ls hl => ?_)
                refine lv_goto (tgt := 27) hx hb dX7_divisor_54 (by decide) ?_
                exact hGW _ _ _ _ _ (ih0 (v3_0 + (1 : Int32)) (v4_0 + (1 : Int32)) _ _ ls hP hD hS (lv_sub hl [2, 3, 4, 1, 0] rfl) h)
              · replace h := zif_fn h c42
                refine lv_iload hx hb dX7_divisor_45 (lv_at hl 4 rfl) ?_
                have g0 := Option.some.inj h
                obtain ⟨h1, g1⟩ := Prod.mk.inj g0
                obtain ⟨h2, g2⟩ := Prod.mk.inj g1
                obtain ⟨h3, g3⟩ := Prod.mk.inj g2
                obtain ⟨h4, g4⟩ := Prod.mk.inj g3
                obtain ⟨h5, g5⟩ := Prod.mk.inj g4
                obtain ⟨h6, g6⟩ := Prod.mk.inj g5
                obtain ⟨h7, g7⟩ := Prod.mk.inj g6
                obtain ⟨h8, g8⟩ := Prod.mk.inj g7
                obtain ⟨h9, g9⟩ := Prod.mk.inj g8
                obtain ⟨h10, g10⟩ := Prod.mk.inj g9
                subst h1
                subst h2
                subst h3
                subst h4
                subst h5
                subst h6
                subst h7
                subst h8
                subst h9
                subst h10
                subst g10
                refine W.widen (k := 2) (n := 12) (by decide) (by decide) ?_
                refine vx_ret ?_
                exact W.iret (v := v4_0) hx hb hr (fun t ht hW => ⟨⟨v4_0, (), rfl, ⟨rfl, rfl⟩, by rw [ht]; exact hP, va_K.moved hW.alike hK, hD⟩, hS.F ht⟩) hS.2.2 dX7_divisor_47
      exact hGW _ _ _ _ _ (L0 _ X0 F (0 : Int32) (1 : Int32) _ _ ls hP hD hS (lv_sub hl [2, 3, 4, 1, 0] rfl) h)
    · replace h := zif_f h c9
      have g0 := Option.some.inj h
      obtain ⟨h1, g1⟩ := Prod.mk.inj g0
      obtain ⟨h2, g2⟩ := Prod.mk.inj g1
      obtain ⟨h3, g3⟩ := Prod.mk.inj g2
      obtain ⟨h4, g4⟩ := Prod.mk.inj g3
      obtain ⟨h5, g5⟩ := Prod.mk.inj g4
      obtain ⟨h6, g6⟩ := Prod.mk.inj g5
      obtain ⟨h7, g7⟩ := Prod.mk.inj g6
      obtain ⟨h8, g8⟩ := Prod.mk.inj g7
      obtain ⟨h9, g9⟩ := Prod.mk.inj g8
      obtain ⟨h10, g10⟩ := Prod.mk.inj g9
      subst h1
      subst h2
      subst h3
      subst h4
      subst h5
      subst h6
      subst h7
      subst h8
      subst h9
      subst h10
      subst g10
      obtain ⟨sa, hstr⟩ := hE.2.2.1.2.2.2.2.1
      refine vx_throwS (own := RX7) (cls := "java/lang/IllegalArgumentException") (text := zx_s5) (names := ["java/lang/RuntimeException", "java/lang/Exception"]) (ik := 231) (is := 233) (ic := 235) (mc := 2) (ms := 12) (sa := sa) hx hb hlt hown (by decide +kernel) (by decide +kernel) kc_231 kini2 hstr (vx_hat (L := vx_atS RX7 235 "java/lang/IllegalArgumentException" ["java/lang/RuntimeException", "java/lang/Exception"]) (B := [.castable (zxn 2) (zxn 2), .declares (Bundle.initS "java/lang/RuntimeException"), .declares (Bundle.initS "java/lang/Exception"), .declares (Bundle.initS Bundle.tN)]) (fun w hw => hts w ((by decide +kernel : ∀ w ∈ (vx_atS RX7 235 "java/lang/IllegalArgumentException" ["java/lang/RuntimeException", "java/lang/Exception"]).filter goodWord, w ∈ wsX7_divisor) w hw)) (by decide +kernel) (vx_c (va_Nw.use rfl hE.2.2.1.2.2.2.2.2.2.1) (vx_c (va_Nw.use rfl hE.2.2.1.2.2.2.2.2.2.2.2.2.1) (vx_c (va_Nw.use rfl hE.2.2.1.2.2.2.2.2.2.2.2.2.2.1) (vx_c (va_Nw.use rfl hE.2.2.1.2.2.2.2.2.2.2.2.2.2.2) vx_n))))) (by decide +kernel) hE.1 hE.2.1 hS (hl.1.trans hml.symm) dX7_divisor_12 dX7_divisor_15 dX7_divisor_16 dX7_divisor_18 dX7_divisor_21 (fun x hx => (hnt x hx).elim) (Nat.le_of_ble_eq_true rfl) (Nat.le_of_ble_eq_true rfl) (Nat.le_of_ble_eq_true rfl) (Nat.le_of_ble_eq_true rfl) hlocks (zxthrow (by decide) hP hK hD hS) hS.2.2 (Nat.le_of_ble_eq_true rfl) (Nat.le_of_ble_eq_true rfl)

noncomputable def p_X7_house (ac : Int32) (re : Int32) (kn : Int32) (p0 : Int32) : Option (Nat × Int32) := (zb1 (p_X7_need p0 (0 : Int32) (2 : Int32)) (fun cd1 => (if cd1 = 0 then (if ¬ p0 = 0 then (if ¬ p0 = (1 : Int32) then (some (0, kn)) else (some (0, re))) else (some (0, ac))) else (some (cd1, (0 : Int32))))))
theorem hdV_X7_house : yX7_house.cls = RX7 ∧ yX7_house.cls ≠ "java/lang/invoke/MethodHandle" ∧ yX7_house.cls ≠ "java/lang/invoke/VarHandle" ∧ (parseMethodDescriptor yX7_house.desc).map (fun d => d.parameters.length) = some 1 := by decide +kernel
set_option maxHeartbeats 4000000 in
set_option maxRecDepth 100000 in
theorem c_X7_house (l : Launch) (D : va_G) (a : Nat → Nat) (cJ cI cO cB : ClassId) (R : Nat → Nat → Int64) (b : Bool) (pr : Nat → Int32) (tm : Nat → Int32) (cn : Int32) (sm : Nat → Int32) (ac : Int32) (re : Int32) (kn : Int32) (p0 : Int32) (cd : Nat) (r : Int32) (hlt : l.stackTraces = false) (h : p_X7_house ac re kn p0 = some (cd, r)) : zMxi l yX7_house wsX7_house 7 112 1 6 D (zT cJ cI cO cB) [.ref (a 0), .int p0] (cW a cJ cI cO R b pr tm cn sm ac re kn) (cW a cJ cI cO R b pr tm cn sm ac re kn) cd r := by
  intro sz
  delta zQxi zX
  refine vx_ofW (cc := cX7_house) (maxL := 2) (ret := (some .int)) (by decide) rfl ?_
  intro p e s m args below meth c s₁ B hml hnt hv
  obtain ⟨rfl, ⟨hsz, hP, hK, hD0⟩, hE⟩ := hv
  have hx := B.exec
  have hb := B.bytes
  have hr := B.returns
  have hts := atoms_spec (ws := wsX7_house) B.pre
  have hown : s.vm.findClass RX7 = some m.cls := findClass_of_methodNamed B.named
  have hlocks := B.notSynchronized
  subst hsz
  have hD := hD0.self (sz := s.heap.size)
  generalize hAe : va_A (cW a cJ cI cO R b pr tm cn sm ac re kn) s.heap.size = A at hD hE ⊢
  have hA : ∀ q : Nat, s.heap.size ≤ q → A q := fun q h => by rw [← hAe]; exact Or.inr h
  have hS : va_S A s.heap s.heap [] := va_S.rf
  have hl := lv_entry ([.ref (a 0), .int p0]) (n := 2) (Nat.le_of_ble_eq_true rfl)
  rw [lg_entry_eq]
  generalize (lg_sl ([.ref (a 0), .int p0]) ++ List.replicate (2 - (lg_sl ([.ref (a 0), .int p0])).length) Slot.unset).toArray = ls at hl ⊢
  replace hl : lv_has ls 2 [(0, .ref (a 0)), (1, .int p0)] := hl
  have kwX7 : ∀ w ∈ u_ws RX7 TX7 9, w ∈ wsX7_house := fun w h => List.mem_cons_of_mem _ (List.mem_append_left _ (List.mem_append_right _ h))
  have kf_243 := hts (.fieldLink RX7 243 "Divisorwork" "knocks" "I") (zmem 3 rfl)
  have kf_240 := hts (.fieldLink RX7 240 "Divisorwork" "refusals" "I") (zmem 2 rfl)
  have kf_74 := hts (.fieldLink RX7 74 "Divisorwork" "acts" "I") (zmem 1 rfl)
  replace h : (zb1 (p_X7_need p0 (0 : Int32) (2 : Int32)) (fun cd1 => (if cd1 = 0 then (if ¬ p0 = 0 then (if ¬ p0 = (1 : Int32) then (some (0, kn)) else (some (0, re))) else (some (0, ac))) else (some (cd1, (0 : Int32)))))) = some (cd, r) := h
  obtain ⟨H, hHe⟩ : ∃ H, H = s.heap := ⟨_, rfl⟩
  rw [← hHe] at hP
  replace hS : va_S A s.heap H [] := by rw [hHe]; exact hS
  refine zheap hHe ?_
  refine lv_iload_n hx hb dX7_house_0 rfl (lv_at hl 1 rfl) ?_
  refine lv_iconst (v := (0 : Int32)) hx hb dX7_house_1 (by decide) ?_
  refine lv_iconst (v := (2 : Int32)) hx hb dX7_house_2 (by decide) ?_
  obtain ⟨cd1, e2, h⟩ := zb1_some h
  refine zxgov (vx_runS (As := [.int p0, .int (0 : Int32), .int (2 : Int32)]) (rest := []) ⟨hx, hb, hml, hown, hts⟩ (c_X7_need l D cJ cI cO cB p0 (0 : Int32) (2 : Int32) cd1 hlt e2 H.size) (va_cwS 3 hts gX7_house_X7_need rfl rfl rfl hdS_X7_need ⟨Nat.le_of_ble_eq_true rfl, Nat.le_of_ble_eq_true rfl⟩) (zxpreS hE hS (zf0 hS hA) hK zP0 (zD0 (A := A)) [.int p0, .int (0 : Int32), .int (2 : Int32)]) rfl rfl hl.1 rfl (lv_room (Nat.le_of_ble_eq_true rfl)) dX7_house_3 ⟨Nat.le_of_ble_eq_true rfl, Nat.le_of_ble_eq_true rfl⟩) (zf0 hS hA) (zjE hP hD) hS (fun k03 => ?_) (fun k03 H locs hP hD hS => ?_)
  · replace h := zif_f h k03
    have g0 := Option.some.inj h
    obtain ⟨h1, g1⟩ := Prod.mk.inj g0
    subst h1
    subst g1
    exact zxout hnt hlocks k03 hK (Nat.le_of_ble_eq_true rfl) (Nat.le_of_ble_eq_true rfl) k03
  · replace h := zif_t h k03
    refine lv_iload_n hx hb dX7_house_6 rfl (lv_at hl 1 rfl) ?_
    refine lv_if_ne (tgt := 15) hx hb dX7_house_7 (by decide) (fun c7 => ?_) (fun c7 => ?_)
    · replace h := zif_t h c7
      refine lv_iload_n hx hb dX7_house_15 rfl (lv_at hl 1 rfl) ?_
      refine lv_iconst (v := (1 : Int32)) hx hb dX7_house_16 (by decide) ?_
      refine lv_icmp_ne (tgt := 27) hx hb dX7_house_17 (by decide) (fun c17 => ?_) (fun c17 => ?_)
      · replace h := zif_t h c17
        refine lv_aload_n hx hb dX7_house_27 rfl (lv_at hl 0 rfl) ?_
        refine va_get (D := D) (ci := 7) (v := .int kn) (C := RX7) (T := TX7) (N := 9) hx hb hts kwX7 hown hK hP 0 rfl rfl 8 (by decide) kf_243 (fun _ h9 => h9) rfl dX7_house_28 ?_
        have g0 := Option.some.inj h
        obtain ⟨h1, g1⟩ := Prod.mk.inj g0
        subst h1
        subst g1
        refine vx_ret ?_
        exact W.iret (v := kn) hx hb hr (fun t ht hW => ⟨⟨kn, (), rfl, ⟨rfl, rfl⟩, by rw [ht]; exact hP, va_K.moved hW.alike hK, hD⟩, hS.F ht⟩) hS.2.2 dX7_house_31
      · replace h := zif_fn h c17
        refine lv_aload_n hx hb dX7_house_20 rfl (lv_at hl 0 rfl) ?_
        refine va_get (D := D) (ci := 7) (v := .int re) (C := RX7) (T := TX7) (N := 9) hx hb hts kwX7 hown hK hP 0 rfl rfl 7 (by decide) kf_240 (fun _ h9 => h9) rfl dX7_house_21 ?_
        refine lv_goto (tgt := 31) hx hb dX7_house_24 (by decide) ?_
        have g0 := Option.some.inj h
        obtain ⟨h1, g1⟩ := Prod.mk.inj g0
        subst h1
        subst g1
        refine vx_ret ?_
        exact W.iret (v := re) hx hb hr (fun t ht hW => ⟨⟨re, (), rfl, ⟨rfl, rfl⟩, by rw [ht]; exact hP, va_K.moved hW.alike hK, hD⟩, hS.F ht⟩) hS.2.2 dX7_house_31
    · replace h := zif_fn h c7
      refine lv_aload_n hx hb dX7_house_10 rfl (lv_at hl 0 rfl) ?_
      refine va_get (D := D) (ci := 7) (v := .int ac) (C := RX7) (T := TX7) (N := 9) hx hb hts kwX7 hown hK hP 0 rfl rfl 6 (by decide) kf_74 (fun _ h9 => h9) rfl dX7_house_11 ?_
      have g0 := Option.some.inj h
      obtain ⟨h1, g1⟩ := Prod.mk.inj g0
      subst h1
      subst g1
      refine vx_ret ?_
      exact W.iret (v := ac) hx hb hr (fun t ht hW => ⟨⟨ac, (), rfl, ⟨rfl, rfl⟩, by rw [ht]; exact hP, va_K.moved hW.alike hK, hD⟩, hS.F ht⟩) hS.2.2 dX7_house_14

noncomputable def p_X7_knock (kn : Int32) : Option (Int32 × Int32) := (some ((kn + (1 : Int32)), (kn + (1 : Int32))))
theorem hdV_X7_knock : yX7_knock.cls = RX7 ∧ yX7_knock.cls ≠ "java/lang/invoke/MethodHandle" ∧ yX7_knock.cls ≠ "java/lang/invoke/VarHandle" ∧ (parseMethodDescriptor yX7_knock.desc).map (fun d => d.parameters.length) = some 0 := by decide +kernel
set_option maxHeartbeats 4000000 in
set_option maxRecDepth 100000 in
theorem c_X7_knock (l : Launch) (D : va_G) (a : Nat → Nat) (cJ cI cO cB : ClassId) (R : Nat → Nat → Int64) (b : Bool) (pr : Nat → Int32) (tm : Nat → Int32) (cn : Int32) (sm : Nat → Int32) (ac : Int32) (re : Int32) (kn : Int32) (r : Int32) (kn' : Int32) (h : p_X7_knock kn = some (r, kn')) : zMi l yX7_knock wsX7_knock 0 0 0 0 D (zT cJ cI cO cB) [.ref (a 0)] (cW a cJ cI cO R b pr tm cn sm ac re kn) (cW a cJ cI cO R b pr tm cn sm ac re kn') r := by
  intro sz
  delta zQi
  refine Met.ofW (cc := cX7_knock) (maxL := 1) (ret := (some .int)) (by decide) rfl ?_
  intro p e s m args below meth c s₁ B hml hv
  obtain ⟨rfl, hsz, hP, hK, hD0⟩ := hv
  have hx := B.exec
  have hb := B.bytes
  have hr := B.returns
  have hts := atoms_spec (ws := wsX7_knock) B.pre
  have hown : s.vm.findClass RX7 = some m.cls := findClass_of_methodNamed B.named
  have hlocks := B.notSynchronized
  subst hsz
  have hD := hD0.self (sz := s.heap.size)
  generalize hAe : va_A (cW a cJ cI cO R b pr tm cn sm ac re kn) s.heap.size = A at hD ⊢
  have hA : ∀ q : Nat, s.heap.size ≤ q → A q := fun q h => by rw [← hAe]; exact Or.inr h
  have hS : va_S A s.heap s.heap [] := va_S.rf
  have hl := lv_entry ([.ref (a 0)]) (n := 1) (Nat.le_of_ble_eq_true rfl)
  rw [lg_entry_eq]
  generalize (lg_sl ([.ref (a 0)]) ++ List.replicate (1 - (lg_sl ([.ref (a 0)])).length) Slot.unset).toArray = ls at hl ⊢
  replace hl : lv_has ls 1 [(0, .ref (a 0))] := hl
  have kwX7 : ∀ w ∈ u_ws RX7 TX7 9, w ∈ wsX7_knock := fun w h => List.mem_cons_of_mem _ (List.mem_append_right _ h)
  have kf_243 := hts (.fieldLink RX7 243 "Divisorwork" "knocks" "I") (zmem 1 rfl)
  replace h : (some ((kn + (1 : Int32)), (kn + (1 : Int32)))) = some (r, kn') := h
  obtain ⟨H, hHe⟩ : ∃ H, H = s.heap := ⟨_, rfl⟩
  rw [← hHe] at hP
  replace hS : va_S A s.heap H [] := by rw [hHe]; exact hS
  refine zheap hHe ?_
  refine lv_aload_n hx hb dX7_knock_0 rfl (lv_at hl 0 rfl) ?_
  refine lv_dup hx hb dX7_knock_1 rfl ?_
  refine va_get (D := D) (ci := 7) (v := .int kn) (C := RX7) (T := TX7) (N := 9) hx hb hts kwX7 hown hK hP 0 rfl rfl 8 (by decide) kf_243 (fun _ h9 => h9) rfl dX7_knock_2 ?_
  refine lv_iconst (v := (1 : Int32)) hx hb dX7_knock_5 (by decide) ?_
  refine lv_iadd hx hb dX7_knock_6 ?_
  refine va_put (D := D) (ci := 7) (v := .int (kn + (1 : Int32))) (ty := .int) (C := RX7) (T := TX7) (N := 9) hx hb hts kwX7 tyX7 tyX7_ok nmX7 hown hK hP hD hS 0 rfl rfl 8 (by decide) kf_243 (fun _ h9 => h9) rfl rfl rfl rfl (Nat.le_of_ble_eq_true rfl) dX7_knock_7 (fun H locs hP hD hS => ?_)
  replace hP : va_P D vwCl (cW a cJ cI cO R b pr tm cn sm ac re (kn + (1 : Int32))) H := hP
  replace hD : va_D A (cW a cJ cI cO R b pr tm cn sm ac re (kn + (1 : Int32))) := hD
  refine lv_aload_n hx hb dX7_knock_10 rfl (lv_at hl 0 rfl) ?_
  refine va_get (D := D) (ci := 7) (v := .int (kn + (1 : Int32))) (C := RX7) (T := TX7) (N := 9) hx hb hts kwX7 hown hK hP 0 rfl rfl 8 (by decide) kf_243 (fun _ h9 => h9) rfl dX7_knock_11 ?_
  have g0 := Option.some.inj h
  obtain ⟨h1, g1⟩ := Prod.mk.inj g0
  subst h1
  subst g1
  exact W.iret (v := (kn + (1 : Int32))) hx hb hr (fun t ht hW => ⟨⟨(kn + (1 : Int32)), (), rfl, rfl, by rw [ht]; exact hP, va_K.moved hW.alike hK, hD⟩, hS.F ht⟩) hS.2.2 dX7_knock_14

noncomputable def p_X7_isSound (F : Nat) (R : Nat → Nat → Int64) (pr : Nat → Int32) (tm : Nat → Int32) (cn : Int32) (sm : Nat → Int32) (ac : Int32) (re : Int32) (kn : Int32) : Option (Bool × (Nat → Nat → Int64) × Bool × (Nat → Int32) × (Nat → Int32) × Int32 × (Nat → Int32) × Int32 × Int32 × Int32) := (zb3 (p_X0_laySummed F R ((0 : Int32).toNatClampNeg) 4) (fun r1 R_2 b_3 => (zlt (fun (cRj0 : Nat → Nat → Int64) (cbj0 : Bool) (cprj0 : Nat → Int32) (ctmj0 : Nat → Int32) (ccnj0 : Int32) (csmj0 : Nat → Int32) (cacj0 : Int32) (crej0 : Int32) (cknj0 : Int32) => (zb3 (p_X0_layProduct F cRj0 ((0 : Int32).toNatClampNeg) ((1 : Int32).toNatClampNeg) 4) (fun r5 R_6 b_7 => (zlt (fun (cRj1 : Nat → Nat → Int64) (cbj1 : Bool) (cprj1 : Nat → Int32) (ctmj1 : Nat → Int32) (ccnj1 : Int32) (csmj1 : Nat → Int32) (cacj1 : Int32) (crej1 : Int32) (cknj1 : Int32) => (zb10 (p_X0_isByPrimes F cRj1 cbj1 cprj1 ctmj1 ccnj1 csmj1 cacj1 crej1 cknj1 ((0 : Int32).toNatClampNeg) false) (fun r9 R_10 b_11 pr_12 tm_13 cn_14 sm_15 ac_16 re_17 kn_18 => (if (z01 r9) = 0 then (some (true, R_10, b_11, pr_12, tm_13, cn_14, sm_15, ac_16, re_17, kn_18)) else (zb6 (p_X0_layByPrimes F R_10 pr_12 tm_13 cn_14 ((0 : Int32).toNatClampNeg) 4) (fun r20 R_21 b_22 pr_23 tm_24 cn_25 => (if (z01 r20) = 0 then (some (false, R_21, b_22, pr_23, tm_24, cn_25, sm_15, ac_16, re_17, kn_18)) else (zb10 (p_X4_firstUnlike F R_21 b_22 pr_23 tm_24 cn_25 sm_15 ac_16 re_17 kn_18 4 ((0 : Int32).toNatClampNeg)) (fun r27 R_28 b_29 pr_30 tm_31 cn_32 sm_33 ac_34 re_35 kn_36 => (if ¬ r27 = (-1 : Int32) then (some (false, R_28, b_29, pr_30, tm_31, cn_32, sm_33, ac_34, re_35, kn_36)) else (some (true, R_28, b_29, pr_30, tm_31, cn_32, sm_33, ac_34, re_35, kn_36)))))))))))) (fun jf1 => (if (z01 r5) = 0 then (jf1 R_6 b_7 cprj0 ctmj0 ccnj0 csmj0 cacj0 crej0 cknj0) else (zb3 (p_X0_layProduct F R_6 ((1 : Int32).toNatClampNeg) ((0 : Int32).toNatClampNeg) 5) (fun r38 R_39 b_40 => (if (z01 r38) = 0 then (jf1 R_39 b_40 cprj0 ctmj0 ccnj0 csmj0 cacj0 crej0 cknj0) else (zb10 (p_X4_firstUnlike F R_39 b_40 cprj0 ctmj0 ccnj0 csmj0 cacj0 crej0 cknj0 5 4) (fun r42 R_43 b_44 pr_45 tm_46 cn_47 sm_48 ac_49 re_50 kn_51 => (if r42 = (-1 : Int32) then (jf1 R_43 b_44 pr_45 tm_46 cn_47 sm_48 ac_49 re_50 kn_51) else (some (false, R_43, b_44, pr_45, tm_46, cn_47, sm_48, ac_49, re_50, kn_51)))))))))))))) (fun jf0 => (if (z01 r1) = 0 then (jf0 R_2 b_3 pr tm cn sm ac re kn) else (zb6 (p_X0_laySigned F R_2 pr tm cn 4 5) (fun r53 R_54 b_55 pr_56 tm_57 cn_58 => (if (z01 r53) = 0 then (jf0 R_54 b_55 pr_56 tm_57 cn_58 sm ac re kn) else (zb10 (p_X4_firstUnlike F R_54 b_55 pr_56 tm_57 cn_58 sm ac re kn 5 ((0 : Int32).toNatClampNeg)) (fun r60 R_61 b_62 pr_63 tm_64 cn_65 sm_66 ac_67 re_68 kn_69 => (if r60 = (-1 : Int32) then (jf0 R_61 b_62 pr_63 tm_64 cn_65 sm_66 ac_67 re_68 kn_69) else (some (false, R_61, b_62, pr_63, tm_64, cn_65, sm_66, ac_67, re_68, kn_69)))))))))))))
theorem hdV_X7_isSound : yX7_isSound.cls = RX7 ∧ yX7_isSound.cls ≠ "java/lang/invoke/MethodHandle" ∧ yX7_isSound.cls ≠ "java/lang/invoke/VarHandle" ∧ (parseMethodDescriptor yX7_isSound.desc).map (fun d => d.parameters.length) = some 0 := by decide +kernel
set_option maxHeartbeats 4000000 in
set_option maxRecDepth 100000 in
theorem c_X7_isSound (l : Launch) (D : va_G) (a : Nat → Nat) (cJ cI cO cB : ClassId) (R : Nat → Nat → Int64) (b : Bool) (pr : Nat → Int32) (tm : Nat → Int32) (cn : Int32) (sm : Nat → Int32) (ac : Int32) (re : Int32) (kn : Int32) (F : Nat) (r : Bool) (R' : Nat → Nat → Int64) (b' : Bool) (pr' : Nat → Int32) (tm' : Nat → Int32) (cn' : Int32) (sm' : Nat → Int32) (ac' : Int32) (re' : Int32) (kn' : Int32) (h : p_X7_isSound F R pr tm cn sm ac re kn = some (r, R', b', pr', tm', cn', sm', ac', re', kn')) : zMi l yX7_isSound wsX7_isSound 4 95 0 0 D (zT cJ cI cO cB) [.ref (a 0)] (cW a cJ cI cO R b pr tm cn sm ac re kn) (cW a cJ cI cO R' b' pr' tm' cn' sm' ac' re' kn') (z01 r) := by
  intro sz
  delta zQi
  refine Met.ofW (cc := cX7_isSound) (maxL := 3) (ret := (some .boolean)) (by decide) rfl ?_
  intro p e s m args below meth c s₁ B hml hv
  obtain ⟨rfl, hsz, hP, hK, hD0⟩ := hv
  have hx := B.exec
  have hb := B.bytes
  have hr := B.returns
  have hts := atoms_spec (ws := wsX7_isSound) B.pre
  have hown : s.vm.findClass RX7 = some m.cls := findClass_of_methodNamed B.named
  have hlocks := B.notSynchronized
  subst hsz
  have hD := hD0.self (sz := s.heap.size)
  generalize hAe : va_A (cW a cJ cI cO R b pr tm cn sm ac re kn) s.heap.size = A at hD ⊢
  have hA : ∀ q : Nat, s.heap.size ≤ q → A q := fun q h => by rw [← hAe]; exact Or.inr h
  have hS : va_S A s.heap s.heap [] := va_S.rf
  have hl := lv_entry ([.ref (a 0)]) (n := 3) (Nat.le_of_ble_eq_true rfl)
  rw [lg_entry_eq]
  generalize (lg_sl ([.ref (a 0)]) ++ List.replicate (3 - (lg_sl ([.ref (a 0)])).length) Slot.unset).toArray = ls at hl ⊢
  replace hl : lv_has ls 3 [(0, .ref (a 0))] := hl
  have kwX7 : ∀ w ∈ u_ws RX7 TX7 9, w ∈ wsX7_isSound := fun w h => List.mem_cons_of_mem _ (List.mem_append_left _ (List.mem_append_left _ (List.mem_append_left _ (List.mem_append_left _ (List.mem_append_left _ (List.mem_append_left _ (List.mem_append_right _ h)))))))
  have kf_16 := hts (.fieldLink RX7 16 "Divisorwork" "scratch" "LDivisorwork$Row;") (zmem 3 rfl)
  have kf_42 := hts (.fieldLink RX7 42 "Divisorwork" "maker" "LDivisorwork$Maker;") (zmem 2 rfl)
  have kf_20 := hts (.fieldLink RX7 20 "Divisorwork" "spare" "LDivisorwork$Row;") (zmem 4 rfl)
  have kf_11 := hts (.fieldLink RX7 11 "Divisorwork" "functions" "[LDivisorwork$Row;") (zmem 1 rfl)
  replace h : (zb3 (p_X0_laySummed F R ((0 : Int32).toNatClampNeg) 4) (fun r1 R_2 b_3 => (zlt (fun (cRj0 : Nat → Nat → Int64) (cbj0 : Bool) (cprj0 : Nat → Int32) (ctmj0 : Nat → Int32) (ccnj0 : Int32) (csmj0 : Nat → Int32) (cacj0 : Int32) (crej0 : Int32) (cknj0 : Int32) => (zb3 (p_X0_layProduct F cRj0 ((0 : Int32).toNatClampNeg) ((1 : Int32).toNatClampNeg) 4) (fun r5 R_6 b_7 => (zlt (fun (cRj1 : Nat → Nat → Int64) (cbj1 : Bool) (cprj1 : Nat → Int32) (ctmj1 : Nat → Int32) (ccnj1 : Int32) (csmj1 : Nat → Int32) (cacj1 : Int32) (crej1 : Int32) (cknj1 : Int32) => (zb10 (p_X0_isByPrimes F cRj1 cbj1 cprj1 ctmj1 ccnj1 csmj1 cacj1 crej1 cknj1 ((0 : Int32).toNatClampNeg) false) (fun r9 R_10 b_11 pr_12 tm_13 cn_14 sm_15 ac_16 re_17 kn_18 => (if (z01 r9) = 0 then (some (true, R_10, b_11, pr_12, tm_13, cn_14, sm_15, ac_16, re_17, kn_18)) else (zb6 (p_X0_layByPrimes F R_10 pr_12 tm_13 cn_14 ((0 : Int32).toNatClampNeg) 4) (fun r20 R_21 b_22 pr_23 tm_24 cn_25 => (if (z01 r20) = 0 then (some (false, R_21, b_22, pr_23, tm_24, cn_25, sm_15, ac_16, re_17, kn_18)) else (zb10 (p_X4_firstUnlike F R_21 b_22 pr_23 tm_24 cn_25 sm_15 ac_16 re_17 kn_18 4 ((0 : Int32).toNatClampNeg)) (fun r27 R_28 b_29 pr_30 tm_31 cn_32 sm_33 ac_34 re_35 kn_36 => (if ¬ r27 = (-1 : Int32) then (some (false, R_28, b_29, pr_30, tm_31, cn_32, sm_33, ac_34, re_35, kn_36)) else (some (true, R_28, b_29, pr_30, tm_31, cn_32, sm_33, ac_34, re_35, kn_36)))))))))))) (fun jf1 => (if (z01 r5) = 0 then (jf1 R_6 b_7 cprj0 ctmj0 ccnj0 csmj0 cacj0 crej0 cknj0) else (zb3 (p_X0_layProduct F R_6 ((1 : Int32).toNatClampNeg) ((0 : Int32).toNatClampNeg) 5) (fun r38 R_39 b_40 => (if (z01 r38) = 0 then (jf1 R_39 b_40 cprj0 ctmj0 ccnj0 csmj0 cacj0 crej0 cknj0) else (zb10 (p_X4_firstUnlike F R_39 b_40 cprj0 ctmj0 ccnj0 csmj0 cacj0 crej0 cknj0 5 4) (fun r42 R_43 b_44 pr_45 tm_46 cn_47 sm_48 ac_49 re_50 kn_51 => (if r42 = (-1 : Int32) then (jf1 R_43 b_44 pr_45 tm_46 cn_47 sm_48 ac_49 re_50 kn_51) else (some (false, R_43, b_44, pr_45, tm_46, cn_47, sm_48, ac_49, re_50, kn_51)))))))))))))) (fun jf0 => (if (z01 r1) = 0 then (jf0 R_2 b_3 pr tm cn sm ac re kn) else (zb6 (p_X0_laySigned F R_2 pr tm cn 4 5) (fun r53 R_54 b_55 pr_56 tm_57 cn_58 => (if (z01 r53) = 0 then (jf0 R_54 b_55 pr_56 tm_57 cn_58 sm ac re kn) else (zb10 (p_X4_firstUnlike F R_54 b_55 pr_56 tm_57 cn_58 sm ac re kn 5 ((0 : Int32).toNatClampNeg)) (fun r60 R_61 b_62 pr_63 tm_64 cn_65 sm_66 ac_67 re_68 kn_69 => (if r60 = (-1 : Int32) then (jf0 R_61 b_62 pr_63 tm_64 cn_65 sm_66 ac_67 re_68 kn_69) else (some (false, R_61, b_62, pr_63, tm_64, cn_65, sm_66, ac_67, re_68, kn_69))))))))))))) = some (r, R', b', pr', tm', cn', sm', ac', re', kn') := h
  refine zabs (fun G hG hGW => ?_)
  obtain ⟨H, hHe⟩ : ∃ H, H = s.heap := ⟨_, rfl⟩
  rw [← hHe] at hP
  replace hS : va_S A s.heap H [] := by rw [hHe]; exact hS
  refine zheap hHe ?_
  refine lv_aload_n hx hb dX7_isSound_0 rfl (lv_at hl 0 rfl) ?_
  refine va_get (D := D) (ci := 7) (v := .ref (a 1)) (C := RX7) (T := TX7) (N := 9) hx hb hts kwX7 hown hK hP 0 rfl rfl 0 (by decide) kf_11 (fun _ h9 => h9) rfl dX7_isSound_1 ?_
  refine lv_iconst (v := (0 : Int32)) hx hb dX7_isSound_4 (by decide) ?_
  refine va_aldq hx hb hK hP 1 2 (C := RX4) (n := 4) (f := fun j => some (a (2 + j))) rfl rfl (zinc (by decide)) dX7_isSound_5 ?_
  refine lv_astore_n (lv' := [(1, .ref (a (2 + (0 : Int32).toNatClampNeg))), (0, .ref (a 0))]) hx hb dX7_isSound_6 rfl hl (by decide) rfl (fun ls hl => ?_)
  refine lv_aload_n hx hb dX7_isSound_7 rfl (lv_at hl 1 rfl) ?_
  refine va_get (D := D) (ci := 7) (v := .ref (a 1)) (C := RX7) (T := TX7) (N := 9) hx hb hts kwX7 hown hK hP 0 rfl rfl 0 (by decide) kf_11 (fun _ h9 => h9) rfl dX7_isSound_8 ?_
  refine lv_iconst (v := (1 : Int32)) hx hb dX7_isSound_11 (by decide) ?_
  refine va_aldq hx hb hK hP 1 2 (C := RX4) (n := 4) (f := fun j => some (a (2 + j))) rfl rfl (zinc (by decide)) dX7_isSound_12 ?_
  refine lv_astore_n (lv' := [(2, .ref (a (2 + (1 : Int32).toNatClampNeg))), (1, .ref (a (2 + (0 : Int32).toNatClampNeg))), (0, .ref (a 0))]) hx hb dX7_isSound_13 rfl hl (by decide) rfl (fun ls hl => ?_)
  refine lv_aload_n hx hb dX7_isSound_14 rfl (lv_at hl 2 rfl) ?_
  refine va_get (D := D) (ci := 7) (v := .ref (a 16)) (C := RX7) (T := TX7) (N := 9) hx hb hts kwX7 hown hK hP 0 rfl rfl 5 (by decide) kf_42 (fun _ h9 => h9) rfl dX7_isSound_15 ?_
  refine lv_aload_n hx hb dX7_isSound_18 rfl (lv_at hl 1 rfl) ?_
  refine lv_aload_n hx hb dX7_isSound_19 rfl (lv_at hl 2 rfl) ?_
  refine va_get (D := D) (ci := 7) (v := .ref (a 6)) (C := RX7) (T := TX7) (N := 9) hx hb hts kwX7 hown hK hP 0 rfl rfl 1 (by decide) kf_16 (fun _ h9 => h9) rfl dX7_isSound_20 ?_
  obtain ⟨r1, R_2, b_3, e4, h⟩ := zb3_some h
  refine zgoi (va_runV (As := [.ref (a (2 + (0 : Int32).toNatClampNeg)), .ref (a 6)]) (rest := []) ⟨hx, hb, hml, hown, hts⟩ (c_X0_laySummed l D a cJ cI cO cB R b pr tm cn sm ac re kn F ((0 : Int32).toNatClampNeg) 4 (by decide) zlt4 r1 R_2 b_3 e4 H.size) (cwV 2 hts gX7_isSound_X0_laySummed rfl rfl rfl hdV_X0_laySummed ⟨Nat.le_of_ble_eq_true rfl, Nat.le_of_ble_eq_true rfl⟩) (zpreV (q0 := 16) (ci := 2) (T := TX0) (N := 2) hK hP hD rfl rfl [.ref (a (2 + (0 : Int32).toNatClampNeg)), .ref (a 6)]) rfl rfl hl.1 rfl (lv_room (Nat.le_of_ble_eq_true rfl)) dX7_isSound_23 ⟨Nat.le_of_ble_eq_true rfl, Nat.le_of_ble_eq_true rfl⟩) (zfree hD hS hA) (zjW hD hS hA) hS (fun H locs hP hD hS => ?_)
  replace hP : va_P D vwCl (cW a cJ cI cO R_2 b_3 pr tm cn sm ac re kn) H := hP
  replace hD : va_D A (cW a cJ cI cO R_2 b_3 pr tm cn sm ac re kn) := hD
  have J0 : ∀ (cRj0 : Nat → Nat → Int64) (cbj0 : Bool) (cprj0 : Nat → Int32) (ctmj0 : Nat → Int32) (ccnj0 : Int32) (csmj0 : Nat → Int32) (cacj0 : Int32) (crej0 : Int32) (cknj0 : Int32) (H : Heap) (locs : List Loc) (ls : Array Slot), va_P D vwCl (cW a cJ cI cO cRj0 cbj0 cprj0 ctmj0 ccnj0 csmj0 cacj0 crej0 cknj0) H → va_D A (cW a cJ cI cO cRj0 cbj0 cprj0 ctmj0 ccnj0 csmj0 cacj0 crej0 cknj0) → va_S A s.heap H locs → lv_has ls 3 [(0, .ref (a 0)), (1, .ref (a (2 + (0 : Int32).toNatClampNeg))), (2, .ref (a (2 + (1 : Int32).toNatClampNeg)))] → (zb3 (p_X0_layProduct F cRj0 ((0 : Int32).toNatClampNeg) ((1 : Int32).toNatClampNeg) 4) (fun r5 R_6 b_7 => (zlt (fun (cRj1 : Nat → Nat → Int64) (cbj1 : Bool) (cprj1 : Nat → Int32) (ctmj1 : Nat → Int32) (ccnj1 : Int32) (csmj1 : Nat → Int32) (cacj1 : Int32) (crej1 : Int32) (cknj1 : Int32) => (zb10 (p_X0_isByPrimes F cRj1 cbj1 cprj1 ctmj1 ccnj1 csmj1 cacj1 crej1 cknj1 ((0 : Int32).toNatClampNeg) false) (fun r9 R_10 b_11 pr_12 tm_13 cn_14 sm_15 ac_16 re_17 kn_18 => (if (z01 r9) = 0 then (some (true, R_10, b_11, pr_12, tm_13, cn_14, sm_15, ac_16, re_17, kn_18)) else (zb6 (p_X0_layByPrimes F R_10 pr_12 tm_13 cn_14 ((0 : Int32).toNatClampNeg) 4) (fun r20 R_21 b_22 pr_23 tm_24 cn_25 => (if (z01 r20) = 0 then (some (false, R_21, b_22, pr_23, tm_24, cn_25, sm_15, ac_16, re_17, kn_18)) else (zb10 (p_X4_firstUnlike F R_21 b_22 pr_23 tm_24 cn_25 sm_15 ac_16 re_17 kn_18 4 ((0 : Int32).toNatClampNeg)) (fun r27 R_28 b_29 pr_30 tm_31 cn_32 sm_33 ac_34 re_35 kn_36 => (if ¬ r27 = (-1 : Int32) then (some (false, R_28, b_29, pr_30, tm_31, cn_32, sm_33, ac_34, re_35, kn_36)) else (some (true, R_28, b_29, pr_30, tm_31, cn_32, sm_33, ac_34, re_35, kn_36)))))))))))) (fun jf1 => (if (z01 r5) = 0 then (jf1 R_6 b_7 cprj0 ctmj0 ccnj0 csmj0 cacj0 crej0 cknj0) else (zb3 (p_X0_layProduct F R_6 ((1 : Int32).toNatClampNeg) ((0 : Int32).toNatClampNeg) 5) (fun r38 R_39 b_40 => (if (z01 r38) = 0 then (jf1 R_39 b_40 cprj0 ctmj0 ccnj0 csmj0 cacj0 crej0 cknj0) else (zb10 (p_X4_firstUnlike F R_39 b_40 cprj0 ctmj0 ccnj0 csmj0 cacj0 crej0 cknj0 5 4) (fun r42 R_43 b_44 pr_45 tm_46 cn_47 sm_48 ac_49 re_50 kn_51 => (if r42 = (-1 : Int32) then (jf1 R_43 b_44 pr_45 tm_46 cn_47 sm_48 ac_49 re_50 kn_51) else (some (false, R_43, b_44, pr_45, tm_46, cn_47, sm_48, ac_49, re_50, kn_51))))))))))))) = some (r, R', b', pr', tm', cn', sm', ac', re', kn') → G H locs 0 0 (F0 m 61 ls []) := by
    intro cRj0 cbj0 cprj0 ctmj0 ccnj0 csmj0 cacj0 crej0 cknj0 H locs ls hP hD hS hl h
    refine hG _ _ _ _ _ ?_
    refine lv_aload_n hx hb dX7_isSound_61 rfl (lv_at hl 0 rfl) ?_
    refine va_get (D := D) (ci := 7) (v := .ref (a 16)) (C := RX7) (T := TX7) (N := 9) hx hb hts kwX7 hown hK hP 0 rfl rfl 5 (by decide) kf_42 (fun _ h9 => h9) rfl dX7_isSound_62 ?_
    refine lv_aload_n hx hb dX7_isSound_65 rfl (lv_at hl 1 rfl) ?_
    refine lv_aload_n hx hb dX7_isSound_66 rfl (lv_at hl 2 rfl) ?_
    refine lv_aload_n hx hb dX7_isSound_67 rfl (lv_at hl 0 rfl) ?_
    refine va_get (D := D) (ci := 7) (v := .ref (a 6)) (C := RX7) (T := TX7) (N := 9) hx hb hts kwX7 hown hK hP 0 rfl rfl 1 (by decide) kf_16 (fun _ h9 => h9) rfl dX7_isSound_68 ?_
    obtain ⟨r5, R_6, b_7, e8, h⟩ := zb3_some h
    refine zgoi (va_runV (As := [.ref (a (2 + (0 : Int32).toNatClampNeg)), .ref (a (2 + (1 : Int32).toNatClampNeg)), .ref (a 6)]) (rest := []) ⟨hx, hb, hml, hown, hts⟩ (c_X0_layProduct l D a cJ cI cO cB cRj0 cbj0 cprj0 ctmj0 ccnj0 csmj0 cacj0 crej0 cknj0 F ((0 : Int32).toNatClampNeg) ((1 : Int32).toNatClampNeg) 4 (by decide) (by decide) zlt4 r5 R_6 b_7 e8 H.size) (cwV 3 hts gX7_isSound_X0_layProduct rfl rfl rfl hdV_X0_layProduct ⟨Nat.le_of_ble_eq_true rfl, Nat.le_of_ble_eq_true rfl⟩) (zpreV (q0 := 16) (ci := 2) (T := TX0) (N := 2) hK hP hD rfl rfl [.ref (a (2 + (0 : Int32).toNatClampNeg)), .ref (a (2 + (1 : Int32).toNatClampNeg)), .ref (a 6)]) rfl rfl hl.1 rfl (lv_room (Nat.le_of_ble_eq_true rfl)) dX7_isSound_71 ⟨Nat.le_of_ble_eq_true rfl, Nat.le_of_ble_eq_true rfl⟩) (zfree hD hS hA) (zjW hD hS hA) hS (fun H locs hP hD hS => ?_)
    replace hP : va_P D vwCl (cW a cJ cI cO R_6 b_7 cprj0 ctmj0 ccnj0 csmj0 cacj0 crej0 cknj0) H := hP
    replace hD : va_D A (cW a cJ cI cO R_6 b_7 cprj0 ctmj0 ccnj0 csmj0 cacj0 crej0 cknj0) := hD
    have J1 : ∀ (cRj1 : Nat → Nat → Int64) (cbj1 : Bool) (cprj1 : Nat → Int32) (ctmj1 : Nat → Int32) (ccnj1 : Int32) (csmj1 : Nat → Int32) (cacj1 : Int32) (crej1 : Int32) (cknj1 : Int32) (H : Heap) (locs : List Loc) (ls : Array Slot), va_P D vwCl (cW a cJ cI cO cRj1 cbj1 cprj1 ctmj1 ccnj1 csmj1 cacj1 crej1 cknj1) H → va_D A (cW a cJ cI cO cRj1 cbj1 cprj1 ctmj1 ccnj1 csmj1 cacj1 crej1 cknj1) → va_S A s.heap H locs → lv_has ls 3 [(0, .ref (a 0)), (1, .ref (a (2 + (0 : Int32).toNatClampNeg))), (2, .ref (a (2 + (1 : Int32).toNatClampNeg)))] → (zb10 (p_X0_isByPrimes F cRj1 cbj1 cprj1 ctmj1 ccnj1 csmj1 cacj1 crej1 cknj1 ((0 : Int32).toNatClampNeg) false) (fun r9 R_10 b_11 pr_12 tm_13 cn_14 sm_15 ac_16 re_17 kn_18 => (if (z01 r9) = 0 then (some (true, R_10, b_11, pr_12, tm_13, cn_14, sm_15, ac_16, re_17, kn_18)) else (zb6 (p_X0_layByPrimes F R_10 pr_12 tm_13 cn_14 ((0 : Int32).toNatClampNeg) 4) (fun r20 R_21 b_22 pr_23 tm_24 cn_25 => (if (z01 r20) = 0 then (some (false, R_21, b_22, pr_23, tm_24, cn_25, sm_15, ac_16, re_17, kn_18)) else (zb10 (p_X4_firstUnlike F R_21 b_22 pr_23 tm_24 cn_25 sm_15 ac_16 re_17 kn_18 4 ((0 : Int32).toNatClampNeg)) (fun r27 R_28 b_29 pr_30 tm_31 cn_32 sm_33 ac_34 re_35 kn_36 => (if ¬ r27 = (-1 : Int32) then (some (false, R_28, b_29, pr_30, tm_31, cn_32, sm_33, ac_34, re_35, kn_36)) else (some (true, R_28, b_29, pr_30, tm_31, cn_32, sm_33, ac_34, re_35, kn_36))))))))))) = some (r, R', b', pr', tm', cn', sm', ac', re', kn') → G H locs 0 0 (F0 m 110 ls []) := by
      intro cRj1 cbj1 cprj1 ctmj1 ccnj1 csmj1 cacj1 crej1 cknj1 H locs ls hP hD hS hl h
      refine hG _ _ _ _ _ ?_
      refine lv_aload_n hx hb dX7_isSound_110 rfl (lv_at hl 0 rfl) ?_
      refine va_get (D := D) (ci := 7) (v := .ref (a 16)) (C := RX7) (T := TX7) (N := 9) hx hb hts kwX7 hown hK hP 0 rfl rfl 5 (by decide) kf_42 (fun _ h9 => h9) rfl dX7_isSound_111 ?_
      refine lv_aload_n hx hb dX7_isSound_114 rfl (lv_at hl 1 rfl) ?_
      refine lv_iconst (v := (0 : Int32)) hx hb dX7_isSound_115 (by decide) ?_
      obtain ⟨r9, R_10, b_11, pr_12, tm_13, cn_14, sm_15, ac_16, re_17, kn_18, e19, h⟩ := zb10_some h
      refine zgoi (va_runV (As := [.ref (a (2 + (0 : Int32).toNatClampNeg)), .int (0 : Int32)]) (rest := []) ⟨hx, hb, hml, hown, hts⟩ (c_X0_isByPrimes l D a cJ cI cO cB cRj1 cbj1 cprj1 ctmj1 ccnj1 csmj1 cacj1 crej1 cknj1 F ((0 : Int32).toNatClampNeg) false (by decide) r9 R_10 b_11 pr_12 tm_13 cn_14 sm_15 ac_16 re_17 kn_18 e19 H.size) (cwV 2 hts gX7_isSound_X0_isByPrimes rfl rfl rfl hdV_X0_isByPrimes ⟨Nat.le_of_ble_eq_true rfl, Nat.le_of_ble_eq_true rfl⟩) (zpreV (q0 := 16) (ci := 2) (T := TX0) (N := 2) hK hP hD rfl rfl [.ref (a (2 + (0 : Int32).toNatClampNeg)), .int (0 : Int32)]) rfl rfl hl.1 rfl (lv_room (Nat.le_of_ble_eq_true rfl)) dX7_isSound_116 ⟨Nat.le_of_ble_eq_true rfl, Nat.le_of_ble_eq_true rfl⟩) (zfree hD hS hA) (zjW hD hS hA) hS (fun H locs hP hD hS => ?_)
      replace hP : va_P D vwCl (cW a cJ cI cO R_10 b_11 pr_12 tm_13 cn_14 sm_15 ac_16 re_17 kn_18) H := hP
      replace hD : va_D A (cW a cJ cI cO R_10 b_11 pr_12 tm_13 cn_14 sm_15 ac_16 re_17 kn_18) := hD
      refine lv_if_eq (tgt := 149) hx hb dX7_isSound_119 (by decide) (fun c119 => ?_) (fun c119 => ?_)
      · replace h := zif_t h c119
        refine lv_iconst (v := (1 : Int32)) hx hb dX7_isSound_149 (by decide) ?_
        refine lv_goto (tgt := 154) hx hb dX7_isSound_150 (by decide) ?_
        have g0 := Option.some.inj h
        obtain ⟨h1, g1⟩ := Prod.mk.inj g0
        obtain ⟨h2, g2⟩ := Prod.mk.inj g1
        obtain ⟨h3, g3⟩ := Prod.mk.inj g2
        obtain ⟨h4, g4⟩ := Prod.mk.inj g3
        obtain ⟨h5, g5⟩ := Prod.mk.inj g4
        obtain ⟨h6, g6⟩ := Prod.mk.inj g5
        obtain ⟨h7, g7⟩ := Prod.mk.inj g6
        obtain ⟨h8, g8⟩ := Prod.mk.inj g7
        obtain ⟨h9, g9⟩ := Prod.mk.inj g8
        subst h1
        subst h2
        subst h3
        subst h4
        subst h5
        subst h6
        subst h7
        subst h8
        subst h9
        subst g9
        exact W.zret (v := (1 : Int32)) hx hb hr (z01_nar true) (fun t ht hW => ⟨⟨(1 : Int32), (), rfl, rfl, by rw [ht]; exact hP, va_K.moved hW.alike hK, hD⟩, hS.F ht⟩) hS.2.2 dX7_isSound_154
      · replace h := zif_f h c119
        refine lv_aload_n hx hb dX7_isSound_122 rfl (lv_at hl 0 rfl) ?_
        refine va_get (D := D) (ci := 7) (v := .ref (a 16)) (C := RX7) (T := TX7) (N := 9) hx hb hts kwX7 hown hK hP 0 rfl rfl 5 (by decide) kf_42 (fun _ h9 => h9) rfl dX7_isSound_123 ?_
        refine lv_aload_n hx hb dX7_isSound_126 rfl (lv_at hl 1 rfl) ?_
        refine lv_aload_n hx hb dX7_isSound_127 rfl (lv_at hl 0 rfl) ?_
        refine va_get (D := D) (ci := 7) (v := .ref (a 6)) (C := RX7) (T := TX7) (N := 9) hx hb hts kwX7 hown hK hP 0 rfl rfl 1 (by decide) kf_16 (fun _ h9 => h9) rfl dX7_isSound_128 ?_
        obtain ⟨r20, R_21, b_22, pr_23, tm_24, cn_25, e26, h⟩ := zb6_some h
        refine zgoi (va_runV (As := [.ref (a (2 + (0 : Int32).toNatClampNeg)), .ref (a 6)]) (rest := []) ⟨hx, hb, hml, hown, hts⟩ (c_X0_layByPrimes l D a cJ cI cO cB R_10 b_11 pr_12 tm_13 cn_14 sm_15 ac_16 re_17 kn_18 F ((0 : Int32).toNatClampNeg) 4 (by decide) zlt4 r20 R_21 b_22 pr_23 tm_24 cn_25 e26 H.size) (cwV 2 hts gX7_isSound_X0_layByPrimes rfl rfl rfl hdV_X0_layByPrimes ⟨Nat.le_of_ble_eq_true rfl, Nat.le_of_ble_eq_true rfl⟩) (zpreV (q0 := 16) (ci := 2) (T := TX0) (N := 2) hK hP hD rfl rfl [.ref (a (2 + (0 : Int32).toNatClampNeg)), .ref (a 6)]) rfl rfl hl.1 rfl (lv_room (Nat.le_of_ble_eq_true rfl)) dX7_isSound_131 ⟨Nat.le_of_ble_eq_true rfl, Nat.le_of_ble_eq_true rfl⟩) (zfree hD hS hA) (zjW hD hS hA) hS (fun H locs hP hD hS => ?_)
        replace hP : va_P D vwCl (cW a cJ cI cO R_21 b_22 pr_23 tm_24 cn_25 sm_15 ac_16 re_17 kn_18) H := hP
        replace hD : va_D A (cW a cJ cI cO R_21 b_22 pr_23 tm_24 cn_25 sm_15 ac_16 re_17 kn_18) := hD
        refine lv_if_eq (tgt := 153) hx hb dX7_isSound_134 (by decide) (fun c134 => ?_) (fun c134 => ?_)
        · replace h := zif_t h c134
          refine lv_iconst (v := (0 : Int32)) hx hb dX7_isSound_153 (by decide) ?_
          have g0 := Option.some.inj h
          obtain ⟨h1, g1⟩ := Prod.mk.inj g0
          obtain ⟨h2, g2⟩ := Prod.mk.inj g1
          obtain ⟨h3, g3⟩ := Prod.mk.inj g2
          obtain ⟨h4, g4⟩ := Prod.mk.inj g3
          obtain ⟨h5, g5⟩ := Prod.mk.inj g4
          obtain ⟨h6, g6⟩ := Prod.mk.inj g5
          obtain ⟨h7, g7⟩ := Prod.mk.inj g6
          obtain ⟨h8, g8⟩ := Prod.mk.inj g7
          obtain ⟨h9, g9⟩ := Prod.mk.inj g8
          subst h1
          subst h2
          subst h3
          subst h4
          subst h5
          subst h6
          subst h7
          subst h8
          subst h9
          subst g9
          exact W.zret (v := (0 : Int32)) hx hb hr (z01_nar false) (fun t ht hW => ⟨⟨(0 : Int32), (), rfl, rfl, by rw [ht]; exact hP, va_K.moved hW.alike hK, hD⟩, hS.F ht⟩) hS.2.2 dX7_isSound_154
        · replace h := zif_f h c134
          refine lv_aload_n hx hb dX7_isSound_137 rfl (lv_at hl 0 rfl) ?_
          refine va_get (D := D) (ci := 7) (v := .ref (a 6)) (C := RX7) (T := TX7) (N := 9) hx hb hts kwX7 hown hK hP 0 rfl rfl 1 (by decide) kf_16 (fun _ h9 => h9) rfl dX7_isSound_138 ?_
          refine lv_aload_n hx hb dX7_isSound_141 rfl (lv_at hl 1 rfl) ?_
          obtain ⟨r27, R_28, b_29, pr_30, tm_31, cn_32, sm_33, ac_34, re_35, kn_36, e37, h⟩ := zb10_some h
          refine zgoi (va_runV (As := [.ref (a (2 + (0 : Int32).toNatClampNeg))]) (rest := []) ⟨hx, hb, hml, hown, hts⟩ (c_X4_firstUnlike l D a cJ cI cO cB R_21 b_22 pr_23 tm_24 cn_25 sm_15 ac_16 re_17 kn_18 F 4 ((0 : Int32).toNatClampNeg) zlt4 (by decide) r27 R_28 b_29 pr_30 tm_31 cn_32 sm_33 ac_34 re_35 kn_36 e37 H.size) (cwV 1 hts gX7_isSound_X4_firstUnlike rfl rfl rfl hdV_X4_firstUnlike ⟨Nat.le_of_ble_eq_true rfl, Nat.le_of_ble_eq_true rfl⟩) (zpreV (q0 := 2 + 4) (ci := 6) (T := TX4) (N := 1) hK hP hD (cW_row zlt4) rfl [.ref (a (2 + (0 : Int32).toNatClampNeg))]) rfl rfl hl.1 rfl (lv_room (Nat.le_of_ble_eq_true rfl)) dX7_isSound_142 ⟨Nat.le_of_ble_eq_true rfl, Nat.le_of_ble_eq_true rfl⟩) (zfree hD hS hA) (zjW hD hS hA) hS (fun H locs hP hD hS => ?_)
          replace hP : va_P D vwCl (cW a cJ cI cO R_28 b_29 pr_30 tm_31 cn_32 sm_33 ac_34 re_35 kn_36) H := hP
          replace hD : va_D A (cW a cJ cI cO R_28 b_29 pr_30 tm_31 cn_32 sm_33 ac_34 re_35 kn_36) := hD
          refine lv_iconst (v := (-1 : Int32)) hx hb dX7_isSound_145 (by decide) ?_
          refine lv_icmp_ne (tgt := 153) hx hb dX7_isSound_146 (by decide) (fun c146 => ?_) (fun c146 => ?_)
          · replace h := zif_t h c146
            refine lv_iconst (v := (0 : Int32)) hx hb dX7_isSound_153 (by decide) ?_
            have g0 := Option.some.inj h
            obtain ⟨h1, g1⟩ := Prod.mk.inj g0
            obtain ⟨h2, g2⟩ := Prod.mk.inj g1
            obtain ⟨h3, g3⟩ := Prod.mk.inj g2
            obtain ⟨h4, g4⟩ := Prod.mk.inj g3
            obtain ⟨h5, g5⟩ := Prod.mk.inj g4
            obtain ⟨h6, g6⟩ := Prod.mk.inj g5
            obtain ⟨h7, g7⟩ := Prod.mk.inj g6
            obtain ⟨h8, g8⟩ := Prod.mk.inj g7
            obtain ⟨h9, g9⟩ := Prod.mk.inj g8
            subst h1
            subst h2
            subst h3
            subst h4
            subst h5
            subst h6
            subst h7
            subst h8
            subst h9
            subst g9
            exact W.zret (v := (0 : Int32)) hx hb hr (z01_nar false) (fun t ht hW => ⟨⟨(0 : Int32), (), rfl, rfl, by rw [ht]; exact hP, va_K.moved hW.alike hK, hD⟩, hS.F ht⟩) hS.2.2 dX7_isSound_154
          · replace h := zif_fn h c146
            refine lv_iconst (v := (1 : Int32)) hx hb dX7_isSound_149 (by decide) ?_
            refine lv_goto (tgt := 154) hx hb dX7_isSound_150 (by decide) ?_
            have g0 := Option.some.inj h
            obtain ⟨h1, g1⟩ := Prod.mk.inj g0
            obtain ⟨h2, g2⟩ := Prod.mk.inj g1
            obtain ⟨h3, g3⟩ := Prod.mk.inj g2
            obtain ⟨h4, g4⟩ := Prod.mk.inj g3
            obtain ⟨h5, g5⟩ := Prod.mk.inj g4
            obtain ⟨h6, g6⟩ := Prod.mk.inj g5
            obtain ⟨h7, g7⟩ := Prod.mk.inj g6
            obtain ⟨h8, g8⟩ := Prod.mk.inj g7
            obtain ⟨h9, g9⟩ := Prod.mk.inj g8
            subst h1
            subst h2
            subst h3
            subst h4
            subst h5
            subst h6
            subst h7
            subst h8
            subst h9
            subst g9
            exact W.zret (v := (1 : Int32)) hx hb hr (z01_nar true) (fun t ht hW => ⟨⟨(1 : Int32), (), rfl, rfl, by rw [ht]; exact hP, va_K.moved hW.alike hK, hD⟩, hS.F ht⟩) hS.2.2 dX7_isSound_154
    replace h := zlt_h h
    refine lv_if_eq (tgt := 110) hx hb dX7_isSound_74 (by decide) (fun c74 => ?_) (fun c74 => ?_)
    · replace h := zif_t h c74
      exact hGW _ _ _ _ _ (J1 R_6 b_7 cprj0 ctmj0 ccnj0 csmj0 cacj0 crej0 cknj0 _ _ ls hP hD hS (lv_sub hl [0, 1, 2] rfl) h)
    · replace h := zif_f h c74
      refine lv_aload_n hx hb dX7_isSound_77 rfl (lv_at hl 0 rfl) ?_
      refine va_get (D := D) (ci := 7) (v := .ref (a 16)) (C := RX7) (T := TX7) (N := 9) hx hb hts kwX7 hown hK hP 0 rfl rfl 5 (by decide) kf_42 (fun _ h9 => h9) rfl dX7_isSound_78 ?_
      refine lv_aload_n hx hb dX7_isSound_81 rfl (lv_at hl 2 rfl) ?_
      refine lv_aload_n hx hb dX7_isSound_82 rfl (lv_at hl 1 rfl) ?_
      refine lv_aload_n hx hb dX7_isSound_83 rfl (lv_at hl 0 rfl) ?_
      refine va_get (D := D) (ci := 7) (v := .ref (a 7)) (C := RX7) (T := TX7) (N := 9) hx hb hts kwX7 hown hK hP 0 rfl rfl 2 (by decide) kf_20 (fun _ h9 => h9) rfl dX7_isSound_84 ?_
      obtain ⟨r38, R_39, b_40, e41, h⟩ := zb3_some h
      refine zgoi (va_runV (As := [.ref (a (2 + (1 : Int32).toNatClampNeg)), .ref (a (2 + (0 : Int32).toNatClampNeg)), .ref (a 7)]) (rest := []) ⟨hx, hb, hml, hown, hts⟩ (c_X0_layProduct l D a cJ cI cO cB R_6 b_7 cprj0 ctmj0 ccnj0 csmj0 cacj0 crej0 cknj0 F ((1 : Int32).toNatClampNeg) ((0 : Int32).toNatClampNeg) 5 (by decide) (by decide) zlt5 r38 R_39 b_40 e41 H.size) (cwV 3 hts gX7_isSound_X0_layProduct rfl rfl rfl hdV_X0_layProduct ⟨Nat.le_of_ble_eq_true rfl, Nat.le_of_ble_eq_true rfl⟩) (zpreV (q0 := 16) (ci := 2) (T := TX0) (N := 2) hK hP hD rfl rfl [.ref (a (2 + (1 : Int32).toNatClampNeg)), .ref (a (2 + (0 : Int32).toNatClampNeg)), .ref (a 7)]) rfl rfl hl.1 rfl (lv_room (Nat.le_of_ble_eq_true rfl)) dX7_isSound_87 ⟨Nat.le_of_ble_eq_true rfl, Nat.le_of_ble_eq_true rfl⟩) (zfree hD hS hA) (zjW hD hS hA) hS (fun H locs hP hD hS => ?_)
      replace hP : va_P D vwCl (cW a cJ cI cO R_39 b_40 cprj0 ctmj0 ccnj0 csmj0 cacj0 crej0 cknj0) H := hP
      replace hD : va_D A (cW a cJ cI cO R_39 b_40 cprj0 ctmj0 ccnj0 csmj0 cacj0 crej0 cknj0) := hD
      refine lv_if_eq (tgt := 110) hx hb dX7_isSound_90 (by decide) (fun c90 => ?_) (fun c90 => ?_)
      · replace h := zif_t h c90
        exact hGW _ _ _ _ _ (J1 R_39 b_40 cprj0 ctmj0 ccnj0 csmj0 cacj0 crej0 cknj0 _ _ ls hP hD hS (lv_sub hl [0, 1, 2] rfl) h)
      · replace h := zif_f h c90
        refine lv_aload_n hx hb dX7_isSound_93 rfl (lv_at hl 0 rfl) ?_
        refine va_get (D := D) (ci := 7) (v := .ref (a 7)) (C := RX7) (T := TX7) (N := 9) hx hb hts kwX7 hown hK hP 0 rfl rfl 2 (by decide) kf_20 (fun _ h9 => h9) rfl dX7_isSound_94 ?_
        refine lv_aload_n hx hb dX7_isSound_97 rfl (lv_at hl 0 rfl) ?_
        refine va_get (D := D) (ci := 7) (v := .ref (a 6)) (C := RX7) (T := TX7) (N := 9) hx hb hts kwX7 hown hK hP 0 rfl rfl 1 (by decide) kf_16 (fun _ h9 => h9) rfl dX7_isSound_98 ?_
        obtain ⟨r42, R_43, b_44, pr_45, tm_46, cn_47, sm_48, ac_49, re_50, kn_51, e52, h⟩ := zb10_some h
        refine zgoi (va_runV (As := [.ref (a 6)]) (rest := []) ⟨hx, hb, hml, hown, hts⟩ (c_X4_firstUnlike l D a cJ cI cO cB R_39 b_40 cprj0 ctmj0 ccnj0 csmj0 cacj0 crej0 cknj0 F 5 4 zlt5 zlt4 r42 R_43 b_44 pr_45 tm_46 cn_47 sm_48 ac_49 re_50 kn_51 e52 H.size) (cwV 1 hts gX7_isSound_X4_firstUnlike rfl rfl rfl hdV_X4_firstUnlike ⟨Nat.le_of_ble_eq_true rfl, Nat.le_of_ble_eq_true rfl⟩) (zpreV (q0 := 2 + 5) (ci := 6) (T := TX4) (N := 1) hK hP hD (cW_row zlt5) rfl [.ref (a 6)]) rfl rfl hl.1 rfl (lv_room (Nat.le_of_ble_eq_true rfl)) dX7_isSound_101 ⟨Nat.le_of_ble_eq_true rfl, Nat.le_of_ble_eq_true rfl⟩) (zfree hD hS hA) (zjW hD hS hA) hS (fun H locs hP hD hS => ?_)
        replace hP : va_P D vwCl (cW a cJ cI cO R_43 b_44 pr_45 tm_46 cn_47 sm_48 ac_49 re_50 kn_51) H := hP
        replace hD : va_D A (cW a cJ cI cO R_43 b_44 pr_45 tm_46 cn_47 sm_48 ac_49 re_50 kn_51) := hD
        refine lv_iconst (v := (-1 : Int32)) hx hb dX7_isSound_104 (by decide) ?_
        refine lv_icmp_eq (tgt := 110) hx hb dX7_isSound_105 (by decide) (fun c105 => ?_) (fun c105 => ?_)
        · replace h := zif_t h c105
          exact hGW _ _ _ _ _ (J1 R_43 b_44 pr_45 tm_46 cn_47 sm_48 ac_49 re_50 kn_51 _ _ ls hP hD hS (lv_sub hl [0, 1, 2] rfl) h)
        · replace h := zif_f h c105
          refine lv_iconst (v := (0 : Int32)) hx hb dX7_isSound_108 (by decide) ?_
          have g0 := Option.some.inj h
          obtain ⟨h1, g1⟩ := Prod.mk.inj g0
          obtain ⟨h2, g2⟩ := Prod.mk.inj g1
          obtain ⟨h3, g3⟩ := Prod.mk.inj g2
          obtain ⟨h4, g4⟩ := Prod.mk.inj g3
          obtain ⟨h5, g5⟩ := Prod.mk.inj g4
          obtain ⟨h6, g6⟩ := Prod.mk.inj g5
          obtain ⟨h7, g7⟩ := Prod.mk.inj g6
          obtain ⟨h8, g8⟩ := Prod.mk.inj g7
          obtain ⟨h9, g9⟩ := Prod.mk.inj g8
          subst h1
          subst h2
          subst h3
          subst h4
          subst h5
          subst h6
          subst h7
          subst h8
          subst h9
          subst g9
          exact W.zret (v := (0 : Int32)) hx hb hr (z01_nar false) (fun t ht hW => ⟨⟨(0 : Int32), (), rfl, rfl, by rw [ht]; exact hP, va_K.moved hW.alike hK, hD⟩, hS.F ht⟩) hS.2.2 dX7_isSound_109
  replace h := zlt_h h
  refine lv_if_eq (tgt := 61) hx hb dX7_isSound_26 (by decide) (fun c26 => ?_) (fun c26 => ?_)
  · replace h := zif_t h c26
    exact hGW _ _ _ _ _ (J0 R_2 b_3 pr tm cn sm ac re kn _ _ ls hP hD hS (lv_sub hl [2, 1, 0] rfl) h)
  · replace h := zif_f h c26
    refine lv_aload_n hx hb dX7_isSound_29 rfl (lv_at hl 2 rfl) ?_
    refine va_get (D := D) (ci := 7) (v := .ref (a 16)) (C := RX7) (T := TX7) (N := 9) hx hb hts kwX7 hown hK hP 0 rfl rfl 5 (by decide) kf_42 (fun _ h9 => h9) rfl dX7_isSound_30 ?_
    refine lv_aload_n hx hb dX7_isSound_33 rfl (lv_at hl 2 rfl) ?_
    refine va_get (D := D) (ci := 7) (v := .ref (a 6)) (C := RX7) (T := TX7) (N := 9) hx hb hts kwX7 hown hK hP 0 rfl rfl 1 (by decide) kf_16 (fun _ h9 => h9) rfl dX7_isSound_34 ?_
    refine lv_aload_n hx hb dX7_isSound_37 rfl (lv_at hl 2 rfl) ?_
    refine va_get (D := D) (ci := 7) (v := .ref (a 7)) (C := RX7) (T := TX7) (N := 9) hx hb hts kwX7 hown hK hP 0 rfl rfl 2 (by decide) kf_20 (fun _ h9 => h9) rfl dX7_isSound_38 ?_
    obtain ⟨r53, R_54, b_55, pr_56, tm_57, cn_58, e59, h⟩ := zb6_some h
    refine zgoi (va_runV (As := [.ref (a 6), .ref (a 7)]) (rest := []) ⟨hx, hb, hml, hown, hts⟩ (c_X0_laySigned l D a cJ cI cO cB R_2 b_3 pr tm cn sm ac re kn F 4 5 zlt4 zlt5 r53 R_54 b_55 pr_56 tm_57 cn_58 e59 H.size) (cwV 2 hts gX7_isSound_X0_laySigned rfl rfl rfl hdV_X0_laySigned ⟨Nat.le_of_ble_eq_true rfl, Nat.le_of_ble_eq_true rfl⟩) (zpreV (q0 := 16) (ci := 2) (T := TX0) (N := 2) hK hP hD rfl rfl [.ref (a 6), .ref (a 7)]) rfl rfl hl.1 rfl (lv_room (Nat.le_of_ble_eq_true rfl)) dX7_isSound_41 ⟨Nat.le_of_ble_eq_true rfl, Nat.le_of_ble_eq_true rfl⟩) (zfree hD hS hA) (zjW hD hS hA) hS (fun H locs hP hD hS => ?_)
    replace hP : va_P D vwCl (cW a cJ cI cO R_54 b_55 pr_56 tm_57 cn_58 sm ac re kn) H := hP
    replace hD : va_D A (cW a cJ cI cO R_54 b_55 pr_56 tm_57 cn_58 sm ac re kn) := hD
    refine lv_if_eq (tgt := 61) hx hb dX7_isSound_44 (by decide) (fun c44 => ?_) (fun c44 => ?_)
    · replace h := zif_t h c44
      exact hGW _ _ _ _ _ (J0 R_54 b_55 pr_56 tm_57 cn_58 sm ac re kn _ _ ls hP hD hS (lv_sub hl [2, 1, 0] rfl) h)
    · replace h := zif_f h c44
      refine lv_aload_n hx hb dX7_isSound_47 rfl (lv_at hl 2 rfl) ?_
      refine va_get (D := D) (ci := 7) (v := .ref (a 7)) (C := RX7) (T := TX7) (N := 9) hx hb hts kwX7 hown hK hP 0 rfl rfl 2 (by decide) kf_20 (fun _ h9 => h9) rfl dX7_isSound_48 ?_
      refine lv_aload_n hx hb dX7_isSound_51 rfl (lv_at hl 1 rfl) ?_
      obtain ⟨r60, R_61, b_62, pr_63, tm_64, cn_65, sm_66, ac_67, re_68, kn_69, e70, h⟩ := zb10_some h
      refine zgoi (va_runV (As := [.ref (a (2 + (0 : Int32).toNatClampNeg))]) (rest := []) ⟨hx, hb, hml, hown, hts⟩ (c_X4_firstUnlike l D a cJ cI cO cB R_54 b_55 pr_56 tm_57 cn_58 sm ac re kn F 5 ((0 : Int32).toNatClampNeg) zlt5 (by decide) r60 R_61 b_62 pr_63 tm_64 cn_65 sm_66 ac_67 re_68 kn_69 e70 H.size) (cwV 1 hts gX7_isSound_X4_firstUnlike rfl rfl rfl hdV_X4_firstUnlike ⟨Nat.le_of_ble_eq_true rfl, Nat.le_of_ble_eq_true rfl⟩) (zpreV (q0 := 2 + 5) (ci := 6) (T := TX4) (N := 1) hK hP hD (cW_row zlt5) rfl [.ref (a (2 + (0 : Int32).toNatClampNeg))]) rfl rfl hl.1 rfl (lv_room (Nat.le_of_ble_eq_true rfl)) dX7_isSound_52 ⟨Nat.le_of_ble_eq_true rfl, Nat.le_of_ble_eq_true rfl⟩) (zfree hD hS hA) (zjW hD hS hA) hS (fun H locs hP hD hS => ?_)
      replace hP : va_P D vwCl (cW a cJ cI cO R_61 b_62 pr_63 tm_64 cn_65 sm_66 ac_67 re_68 kn_69) H := hP
      replace hD : va_D A (cW a cJ cI cO R_61 b_62 pr_63 tm_64 cn_65 sm_66 ac_67 re_68 kn_69) := hD
      refine lv_iconst (v := (-1 : Int32)) hx hb dX7_isSound_55 (by decide) ?_
      refine lv_icmp_eq (tgt := 61) hx hb dX7_isSound_56 (by decide) (fun c56 => ?_) (fun c56 => ?_)
      · replace h := zif_t h c56
        exact hGW _ _ _ _ _ (J0 R_61 b_62 pr_63 tm_64 cn_65 sm_66 ac_67 re_68 kn_69 _ _ ls hP hD hS (lv_sub hl [2, 1, 0] rfl) h)
      · replace h := zif_f h c56
        refine lv_iconst (v := (0 : Int32)) hx hb dX7_isSound_59 (by decide) ?_
        have g0 := Option.some.inj h
        obtain ⟨h1, g1⟩ := Prod.mk.inj g0
        obtain ⟨h2, g2⟩ := Prod.mk.inj g1
        obtain ⟨h3, g3⟩ := Prod.mk.inj g2
        obtain ⟨h4, g4⟩ := Prod.mk.inj g3
        obtain ⟨h5, g5⟩ := Prod.mk.inj g4
        obtain ⟨h6, g6⟩ := Prod.mk.inj g5
        obtain ⟨h7, g7⟩ := Prod.mk.inj g6
        obtain ⟨h8, g8⟩ := Prod.mk.inj g7
        obtain ⟨h9, g9⟩ := Prod.mk.inj g8
        subst h1
        subst h2
        subst h3
        subst h4
        subst h5
        subst h6
        subst h7
        subst h8
        subst h9
        subst g9
        exact W.zret (v := (0 : Int32)) hx hb hr (z01_nar false) (fun t ht hW => ⟨⟨(0 : Int32), (), rfl, rfl, by rw [ht]; exact hP, va_K.moved hW.alike hK, hD⟩, hS.F ht⟩) hS.2.2 dX7_isSound_60

noncomputable def p_X7_digest_L1 (F : Nat) (R : Nat → Nat → Int64) (v3_0 : Int32) (k : Int64 → Int32 → Option (Int64 × (Nat → Nat → Int64) × Bool × (Nat → Int32) × (Nat → Int32) × Int32 × (Nat → Int32) × Int32 × Int32 × Int32)) : Nat → Int64 → Int32 → Option (Int64 × (Nat → Nat → Int64) × Bool × (Nat → Int32) × (Nat → Int32) × Int32 × (Nat → Int32) × Int32 × Int32 × Int32)
  | 0, _, _ => none
  | n + 1, v1_1, v4_1 => (if (120 : Int32) < v4_1 then (k v1_1 v4_1) else (zg (v3_0 < 0 ∨ 4 ≤ v3_0.toNatClampNeg) (zb1 (p_X4_at R (v3_0.toNatClampNeg) v4_1) (fun r12 => (p_X7_digest_L1 F R v3_0 k n ((v1_1 * (31 : Int64)) + r12) (v4_1 + (1 : Int32)))))))
noncomputable def p_X7_digest_L0 (F : Nat) (R : Nat → Nat → Int64) (k : Int64 → Int32 → Option (Int64 × (Nat → Nat → Int64) × Bool × (Nat → Int32) × (Nat → Int32) × Int32 × (Nat → Int32) × Int32 × Int32 × Int32)) : Nat → Int64 → Int32 → Option (Int64 × (Nat → Nat → Int64) × Bool × (Nat → Int32) × (Nat → Int32) × Int32 × (Nat → Int32) × Int32 × Int32 × Int32)
  | 0, _, _ => none
  | n + 1, v1_0, v3_0 => (if (4 : Int32) ≤ v3_0 then (k v1_0 v3_0) else (p_X7_digest_L1 F R v3_0 (fun v1_1 v4_1 => (p_X7_digest_L0 F R k n v1_1 (v3_0 + (1 : Int32)))) F v1_0 (1 : Int32)))
noncomputable def p_X7_digest (F : Nat) (R : Nat → Nat → Int64) (pr : Nat → Int32) (tm : Nat → Int32) (cn : Int32) (sm : Nat → Int32) (ac : Int32) (re : Int32) (kn : Int32) : Option (Int64 × (Nat → Nat → Int64) × Bool × (Nat → Int32) × (Nat → Int32) × Int32 × (Nat → Int32) × Int32 × Int32 × Int32) := (p_X7_digest_L0 F R (fun v1_0 v3_0 => (zb10 (p_X7_isSound F R pr tm cn sm ac re kn) (fun r1 R_2 b_3 pr_4 tm_5 cn_6 sm_7 ac_8 re_9 kn_10 => (if (z01 r1) = 0 then (some (((((((((v1_0 * (31 : Int64)) + (ac.toInt64)) * (31 : Int64)) + (re.toInt64)) * (31 : Int64)) + (kn.toInt64)) * (31 : Int64)) + ((0 : Int32).toInt64)), R_2, b_3, pr_4, tm_5, cn_6, sm_7, ac_8, re_9, kn_10)) else (some (((((((((v1_0 * (31 : Int64)) + (ac.toInt64)) * (31 : Int64)) + (re.toInt64)) * (31 : Int64)) + (kn.toInt64)) * (31 : Int64)) + ((1 : Int32).toInt64)), R_2, b_3, pr_4, tm_5, cn_6, sm_7, ac_8, re_9, kn_10)))))) F (8027 : Int64) (0 : Int32))
theorem hdV_X7_digest : yX7_digest.cls = RX7 ∧ yX7_digest.cls ≠ "java/lang/invoke/MethodHandle" ∧ yX7_digest.cls ≠ "java/lang/invoke/VarHandle" ∧ (parseMethodDescriptor yX7_digest.desc).map (fun d => d.parameters.length) = some 0 := by decide +kernel
set_option maxHeartbeats 4000000 in
set_option maxRecDepth 100000 in
theorem c_X7_digest (l : Launch) (D : va_G) (a : Nat → Nat) (cJ cI cO cB : ClassId) (R : Nat → Nat → Int64) (b : Bool) (pr : Nat → Int32) (tm : Nat → Int32) (cn : Int32) (sm : Nat → Int32) (ac : Int32) (re : Int32) (kn : Int32) (F : Nat) (r : Int64) (R' : Nat → Nat → Int64) (b' : Bool) (pr' : Nat → Int32) (tm' : Nat → Int32) (cn' : Int32) (sm' : Nat → Int32) (ac' : Int32) (re' : Int32) (kn' : Int32) (h : p_X7_digest F R pr tm cn sm ac re kn = some (r, R', b', pr', tm', cn', sm', ac', re', kn')) : zMl l yX7_digest wsX7_digest 5 117 0 0 D (zT cJ cI cO cB) [.ref (a 0)] (cW a cJ cI cO R b pr tm cn sm ac re kn) (cW a cJ cI cO R' b' pr' tm' cn' sm' ac' re' kn') r := by
  intro sz
  delta zQl
  refine Met.ofW (cc := cX7_digest) (maxL := 5) (ret := (some .long)) (by decide) rfl ?_
  intro p e s m args below meth c s₁ B hml hv
  obtain ⟨rfl, hsz, hP, hK, hD0⟩ := hv
  have hx := B.exec
  have hb := B.bytes
  have hr := B.returns
  have hts := atoms_spec (ws := wsX7_digest) B.pre
  have hown : s.vm.findClass RX7 = some m.cls := findClass_of_methodNamed B.named
  have hlocks := B.notSynchronized
  subst hsz
  have hD := hD0.self (sz := s.heap.size)
  generalize hAe : va_A (cW a cJ cI cO R b pr tm cn sm ac re kn) s.heap.size = A at hD ⊢
  have hA : ∀ q : Nat, s.heap.size ≤ q → A q := fun q h => by rw [← hAe]; exact Or.inr h
  have hS : va_S A s.heap s.heap [] := va_S.rf
  have hl := lv_entry ([.ref (a 0)]) (n := 5) (Nat.le_of_ble_eq_true rfl)
  rw [lg_entry_eq]
  generalize (lg_sl ([.ref (a 0)]) ++ List.replicate (5 - (lg_sl ([.ref (a 0)])).length) Slot.unset).toArray = ls at hl ⊢
  replace hl : lv_has ls 5 [(0, .ref (a 0))] := hl
  have kc_255 := hts (.constantLong RX7 255 (8027)) (zmem 1 rfl)
  have kc_257 := hts (.constantLong RX7 257 (31)) (zmem 2 rfl)
  have kwX7 : ∀ w ∈ u_ws RX7 TX7 9, w ∈ wsX7_digest := fun w h => List.mem_cons_of_mem _ (List.mem_append_right _ (List.mem_cons_of_mem _ (List.mem_append_left _ (List.mem_append_left _ (List.mem_append_left _ (List.mem_append_left _ (List.mem_append_left _ (List.mem_append_left _ (List.mem_append_right _ h)))))))))
  have kf_243 := hts (.fieldLink RX7 243 "Divisorwork" "knocks" "I") (zmem 5 rfl)
  have kf_240 := hts (.fieldLink RX7 240 "Divisorwork" "refusals" "I") (zmem 4 rfl)
  have kf_74 := hts (.fieldLink RX7 74 "Divisorwork" "acts" "I") (zmem 3 rfl)
  have kf_11 := hts (.fieldLink RX7 11 "Divisorwork" "functions" "[LDivisorwork$Row;") (List.mem_cons_of_mem _ (List.mem_append_right _ (zmem 1 rfl)))
  replace h : (p_X7_digest_L0 F R (fun v1_0 v3_0 => (zb10 (p_X7_isSound F R pr tm cn sm ac re kn) (fun r1 R_2 b_3 pr_4 tm_5 cn_6 sm_7 ac_8 re_9 kn_10 => (if (z01 r1) = 0 then (some (((((((((v1_0 * (31 : Int64)) + (ac.toInt64)) * (31 : Int64)) + (re.toInt64)) * (31 : Int64)) + (kn.toInt64)) * (31 : Int64)) + ((0 : Int32).toInt64)), R_2, b_3, pr_4, tm_5, cn_6, sm_7, ac_8, re_9, kn_10)) else (some (((((((((v1_0 * (31 : Int64)) + (ac.toInt64)) * (31 : Int64)) + (re.toInt64)) * (31 : Int64)) + (kn.toInt64)) * (31 : Int64)) + ((1 : Int32).toInt64)), R_2, b_3, pr_4, tm_5, cn_6, sm_7, ac_8, re_9, kn_10)))))) F (8027 : Int64) (0 : Int32)) = some (r, R', b', pr', tm', cn', sm', ac', re', kn') := h
  refine zabs (fun G hG hGW => ?_)
  obtain ⟨H, hHe⟩ : ∃ H, H = s.heap := ⟨_, rfl⟩
  rw [← hHe] at hP
  replace hS : va_S A s.heap H [] := by rw [hHe]; exact hS
  refine zheap hHe ?_
  refine lv_ldc2 hx hb hown kc_255 dX7_digest_0 ?_
  refine lv_lstore_n (lv' := [(1, .long (8027 : Int64)), (0, .ref (a 0))]) hx hb dX7_digest_3 rfl hl (by decide) rfl (fun ls hl => ?_)
  refine lv_iconst (v := (0 : Int32)) hx hb dX7_digest_4 (by decide) ?_
  refine lv_istore_n (lv' := [(3, .int (0 : Int32)), (1, .long (8027 : Int64)), (0, .ref (a 0))]) hx hb dX7_digest_5 rfl hl (by decide) rfl (fun ls hl => ?_)
  have X0 : ∀ (v1_0 : Int64) (v3_0 : Int32) (H : Heap) (locs : List Loc) (ls : Array Slot), va_P D vwCl (cW a cJ cI cO R b pr tm cn sm ac re kn) H → va_D A (cW a cJ cI cO R b pr tm cn sm ac re kn) → va_S A s.heap H locs → lv_has ls 5 [(0, .ref (a 0)), (1, .long v1_0), (3, .int v3_0)] → (zb10 (p_X7_isSound F R pr tm cn sm ac re kn) (fun r1 R_2 b_3 pr_4 tm_5 cn_6 sm_7 ac_8 re_9 kn_10 => (if (z01 r1) = 0 then (some (((((((((v1_0 * (31 : Int64)) + (ac.toInt64)) * (31 : Int64)) + (re.toInt64)) * (31 : Int64)) + (kn.toInt64)) * (31 : Int64)) + ((0 : Int32).toInt64)), R_2, b_3, pr_4, tm_5, cn_6, sm_7, ac_8, re_9, kn_10)) else (some (((((((((v1_0 * (31 : Int64)) + (ac.toInt64)) * (31 : Int64)) + (re.toInt64)) * (31 : Int64)) + (kn.toInt64)) * (31 : Int64)) + ((1 : Int32).toInt64)), R_2, b_3, pr_4, tm_5, cn_6, sm_7, ac_8, re_9, kn_10))))) = some (r, R', b', pr', tm', cn', sm', ac', re', kn') → G H locs 0 0 (F0 m 51 ls []) := by
    intro v1_0 v3_0 H locs ls hP hD hS hl h
    refine hG _ _ _ _ _ ?_
    refine lv_lload_n hx hb dX7_digest_51 rfl (lv_at hl 1 rfl) ?_
    refine lv_ldc2 hx hb hown kc_257 dX7_digest_52 ?_
    refine lv_lmul hx hb dX7_digest_55 ?_
    refine lv_aload_n hx hb dX7_digest_56 rfl (lv_at hl 0 rfl) ?_
    refine va_get (D := D) (ci := 7) (v := .int ac) (C := RX7) (T := TX7) (N := 9) hx hb hts kwX7 hown hK hP 0 rfl rfl 6 (by decide) kf_74 (fun _ h9 => h9) rfl dX7_digest_57 ?_
    refine lv_i2l (v := ac.toInt64) hx hb dX7_digest_60 rfl ?_
    refine lv_ladd hx hb dX7_digest_61 ?_
    refine lv_lstore_n (lv' := [(1, .long ((v1_0 * (31 : Int64)) + (ac.toInt64))), (0, .ref (a 0)), (3, .int v3_0)]) hx hb dX7_digest_62 rfl hl (by decide) rfl (fun ls hl => ?_)
    refine lv_lload_n hx hb dX7_digest_63 rfl (lv_at hl 0 rfl) ?_
    refine lv_ldc2 hx hb hown kc_257 dX7_digest_64 ?_
    refine lv_lmul hx hb dX7_digest_67 ?_
    refine lv_aload_n hx hb dX7_digest_68 rfl (lv_at hl 1 rfl) ?_
    refine va_get (D := D) (ci := 7) (v := .int re) (C := RX7) (T := TX7) (N := 9) hx hb hts kwX7 hown hK hP 0 rfl rfl 7 (by decide) kf_240 (fun _ h9 => h9) rfl dX7_digest_69 ?_
    refine lv_i2l (v := re.toInt64) hx hb dX7_digest_72 rfl ?_
    refine lv_ladd hx hb dX7_digest_73 ?_
    refine lv_lstore_n (lv' := [(1, .long ((((v1_0 * (31 : Int64)) + (ac.toInt64)) * (31 : Int64)) + (re.toInt64))), (0, .ref (a 0)), (3, .int v3_0)]) hx hb dX7_digest_74 rfl hl (by decide) rfl (fun ls hl => ?_)
    refine lv_lload_n hx hb dX7_digest_75 rfl (lv_at hl 0 rfl) ?_
    refine lv_ldc2 hx hb hown kc_257 dX7_digest_76 ?_
    refine lv_lmul hx hb dX7_digest_79 ?_
    refine lv_aload_n hx hb dX7_digest_80 rfl (lv_at hl 1 rfl) ?_
    refine va_get (D := D) (ci := 7) (v := .int kn) (C := RX7) (T := TX7) (N := 9) hx hb hts kwX7 hown hK hP 0 rfl rfl 8 (by decide) kf_243 (fun _ h9 => h9) rfl dX7_digest_81 ?_
    refine lv_i2l (v := kn.toInt64) hx hb dX7_digest_84 rfl ?_
    refine lv_ladd hx hb dX7_digest_85 ?_
    refine lv_lstore_n (lv' := [(1, .long ((((((v1_0 * (31 : Int64)) + (ac.toInt64)) * (31 : Int64)) + (re.toInt64)) * (31 : Int64)) + (kn.toInt64))), (0, .ref (a 0)), (3, .int v3_0)]) hx hb dX7_digest_86 rfl hl (by decide) rfl (fun ls hl => ?_)
    refine lv_lload_n hx hb dX7_digest_87 rfl (lv_at hl 0 rfl) ?_
    refine lv_ldc2 hx hb hown kc_257 dX7_digest_88 ?_
    refine lv_lmul hx hb dX7_digest_91 ?_
    refine lv_aload_n hx hb dX7_digest_92 rfl (lv_at hl 1 rfl) ?_
    obtain ⟨r1, R_2, b_3, pr_4, tm_5, cn_6, sm_7, ac_8, re_9, kn_10, e11, h⟩ := zb10_some h
    refine zgoi (va_runV (As := []) (rest := [.long (((((((v1_0 * (31 : Int64)) + (ac.toInt64)) * (31 : Int64)) + (re.toInt64)) * (31 : Int64)) + (kn.toInt64)) * (31 : Int64))]) ⟨hx, hb, hml, hown, hts⟩ (c_X7_isSound l D a cJ cI cO cB R b pr tm cn sm ac re kn F r1 R_2 b_3 pr_4 tm_5 cn_6 sm_7 ac_8 re_9 kn_10 e11 H.size) (cwV 0 hts gX7_digest_X7_isSound rfl rfl rfl hdV_X7_isSound ⟨Nat.le_of_ble_eq_true rfl, Nat.le_of_ble_eq_true rfl⟩) (zpreV (q0 := 0) (ci := 7) (T := TX7) (N := 9) hK hP hD rfl rfl []) rfl rfl hl.1 rfl (lv_room (Nat.le_of_ble_eq_true rfl)) dX7_digest_93 ⟨Nat.le_of_ble_eq_true rfl, Nat.le_of_ble_eq_true rfl⟩) (zfree hD hS hA) (zjW hD hS hA) hS (fun H locs hP hD hS => ?_)
    replace hP : va_P D vwCl (cW a cJ cI cO R_2 b_3 pr_4 tm_5 cn_6 sm_7 ac_8 re_9 kn_10) H := hP
    replace hD : va_D A (cW a cJ cI cO R_2 b_3 pr_4 tm_5 cn_6 sm_7 ac_8 re_9 kn_10) := hD
    refine lv_if_eq (tgt := 103) hx hb dX7_digest_96 (by decide) (fun c96 => ?_) (fun c96 => ?_)
    · replace h := zif_t h c96
      refine lv_iconst (v := (0 : Int32)) hx hb dX7_digest_103 (by decide) ?_
      refine lv_i2l (v := (0 : Int32).toInt64) hx hb dX7_digest_104 rfl ?_
      refine lv_ladd hx hb dX7_digest_105 ?_
      have g0 := Option.some.inj h
      obtain ⟨h1, g1⟩ := Prod.mk.inj g0
      obtain ⟨h2, g2⟩ := Prod.mk.inj g1
      obtain ⟨h3, g3⟩ := Prod.mk.inj g2
      obtain ⟨h4, g4⟩ := Prod.mk.inj g3
      obtain ⟨h5, g5⟩ := Prod.mk.inj g4
      obtain ⟨h6, g6⟩ := Prod.mk.inj g5
      obtain ⟨h7, g7⟩ := Prod.mk.inj g6
      obtain ⟨h8, g8⟩ := Prod.mk.inj g7
      obtain ⟨h9, g9⟩ := Prod.mk.inj g8
      subst h1
      subst h2
      subst h3
      subst h4
      subst h5
      subst h6
      subst h7
      subst h8
      subst h9
      subst g9
      exact W.lret (v := ((((((((v1_0 * (31 : Int64)) + (ac.toInt64)) * (31 : Int64)) + (re.toInt64)) * (31 : Int64)) + (kn.toInt64)) * (31 : Int64)) + ((0 : Int32).toInt64))) hx hb hr (fun t ht hW => ⟨⟨((((((((v1_0 * (31 : Int64)) + (ac.toInt64)) * (31 : Int64)) + (re.toInt64)) * (31 : Int64)) + (kn.toInt64)) * (31 : Int64)) + ((0 : Int32).toInt64)), (), rfl, rfl, by rw [ht]; exact hP, va_K.moved hW.alike hK, hD⟩, hS.F ht⟩) hS.2.2 dX7_digest_106
    · replace h := zif_f h c96
      refine lv_iconst (v := (1 : Int32)) hx hb dX7_digest_99 (by decide) ?_
      refine lv_goto (tgt := 104) hx hb dX7_digest_100 (by decide) ?_
      refine lv_i2l (v := (1 : Int32).toInt64) hx hb dX7_digest_104 rfl ?_
      refine lv_ladd hx hb dX7_digest_105 ?_
      have g0 := Option.some.inj h
      obtain ⟨h1, g1⟩ := Prod.mk.inj g0
      obtain ⟨h2, g2⟩ := Prod.mk.inj g1
      obtain ⟨h3, g3⟩ := Prod.mk.inj g2
      obtain ⟨h4, g4⟩ := Prod.mk.inj g3
      obtain ⟨h5, g5⟩ := Prod.mk.inj g4
      obtain ⟨h6, g6⟩ := Prod.mk.inj g5
      obtain ⟨h7, g7⟩ := Prod.mk.inj g6
      obtain ⟨h8, g8⟩ := Prod.mk.inj g7
      obtain ⟨h9, g9⟩ := Prod.mk.inj g8
      subst h1
      subst h2
      subst h3
      subst h4
      subst h5
      subst h6
      subst h7
      subst h8
      subst h9
      subst g9
      exact W.lret (v := ((((((((v1_0 * (31 : Int64)) + (ac.toInt64)) * (31 : Int64)) + (re.toInt64)) * (31 : Int64)) + (kn.toInt64)) * (31 : Int64)) + ((1 : Int32).toInt64))) hx hb hr (fun t ht hW => ⟨⟨((((((((v1_0 * (31 : Int64)) + (ac.toInt64)) * (31 : Int64)) + (re.toInt64)) * (31 : Int64)) + (kn.toInt64)) * (31 : Int64)) + ((1 : Int32).toInt64)), (), rfl, rfl, by rw [ht]; exact hP, va_K.moved hW.alike hK, hD⟩, hS.F ht⟩) hS.2.2 dX7_digest_106
  have L0 : ∀ (K0 : Int64 → Int32 → Option (Int64 × (Nat → Nat → Int64) × Bool × (Nat → Int32) × (Nat → Int32) × Int32 × (Nat → Int32) × Int32 × Int32 × Int32)) (HX0 : ∀ (v1_0 : Int64) (v3_0 : Int32) (H : Heap) (locs : List Loc) (ls : Array Slot), va_P D vwCl (cW a cJ cI cO R b pr tm cn sm ac re kn) H → va_D A (cW a cJ cI cO R b pr tm cn sm ac re kn) → va_S A s.heap H locs → lv_has ls 5 [(0, .ref (a 0)), (1, .long v1_0), (3, .int v3_0)] → K0 v1_0 v3_0 = some (r, R', b', pr', tm', cn', sm', ac', re', kn') → G H locs 0 0 (F0 m 51 ls [])) (fu0 : Nat) (v1_0 : Int64) (v3_0 : Int32) (H : Heap) (locs : List Loc) (ls : Array Slot), va_P D vwCl (cW a cJ cI cO R b pr tm cn sm ac re kn) H → va_D A (cW a cJ cI cO R b pr tm cn sm ac re kn) → va_S A s.heap H locs → lv_has ls 5 [(0, .ref (a 0)), (1, .long v1_0), (3, .int v3_0)] → p_X7_digest_L0 F R K0 fu0 v1_0 v3_0 = some (r, R', b', pr', tm', cn', sm', ac', re', kn') → G H locs 0 0 (F0 m 6 ls []) := by
    intro K0 HX0 fu0
    induction fu0 with
    | zero =>
      intro v1_0 v3_0 H locs ls hP hD hS hl h
      exact (zno h).elim
    | succ fu0 ih0 =>
      intro v1_0 v3_0 H locs ls hP hD hS hl h
      refine hG _ _ _ _ _ ?_
      unfold p_X7_digest_L0 at h
      refine lv_iload_n hx hb dX7_digest_6 rfl (lv_at hl 2 rfl) ?_
      refine lv_iconst (v := (4 : Int32)) hx hb dX7_digest_7 (by decide) ?_
      refine lv_icmp_ge (tgt := 51) hx hb dX7_digest_8 (by decide) (fun c8 => ?_) (fun c8 => ?_)
      · replace h := zif_t h c8
        exact hGW _ _ _ _ _ (HX0 v1_0 v3_0 _ _ ls hP hD hS (lv_sub hl [0, 1, 2] rfl) h)
      · replace h := zif_f h c8
        refine lv_iconst (v := (1 : Int32)) hx hb dX7_digest_11 (by decide) ?_
        refine lv_istore (lv' := [(4, .int (1 : Int32)), (0, .ref (a 0)), (1, .long v1_0), (3, .int v3_0)]) hx hb dX7_digest_12 hl (by decide) rfl (fun ls hl => ?_)
        have X1 : ∀ (v1_1 : Int64) (v4_1 : Int32) (H : Heap) (locs : List Loc) (ls : Array Slot), va_P D vwCl (cW a cJ cI cO R b pr tm cn sm ac re kn) H → va_D A (cW a cJ cI cO R b pr tm cn sm ac re kn) → va_S A s.heap H locs → lv_has ls 5 [(0, .ref (a 0)), (1, .long v1_1), (3, .int v3_0), (4, .int v4_1)] → (p_X7_digest_L0 F R K0 fu0 v1_1 (v3_0 + (1 : Int32))) = some (r, R', b', pr', tm', cn', sm', ac', re', kn') → G H locs 0 0 (F0 m 45 ls []) := by
          intro v1_1 v4_1 H locs ls hP hD hS hl h
          refine hG _ _ _ _ _ ?_
          refine lv_iinc (v := (v3_0 + (1 : Int32))) (lv' := [(3, .int (v3_0 + (1 : Int32))), (0, .ref (a 0)), (1, .long v1_1), (4, .int v4_1)]) hx hb dX7_digest_45 hl (k := 2) rfl rfl (by decide) rfl (fun ls hl => ?_)
          refine lv_goto (tgt := 6) hx hb dX7_digest_48 (by decide) ?_
          exact hGW _ _ _ _ _ (ih0 v1_1 (v3_0 + (1 : Int32)) _ _ ls hP hD hS (lv_sub hl [1, 2, 0] rfl) h)
        have L1 : ∀ (K1 : Int64 → Int32 → Option (Int64 × (Nat → Nat → Int64) × Bool × (Nat → Int32) × (Nat → Int32) × Int32 × (Nat → Int32) × Int32 × Int32 × Int32)) (HX1 : ∀ (v1_1 : Int64) (v4_1 : Int32) (H : Heap) (locs : List Loc) (ls : Array Slot), va_P D vwCl (cW a cJ cI cO R b pr tm cn sm ac re kn) H → va_D A (cW a cJ cI cO R b pr tm cn sm ac re kn) → va_S A s.heap H locs → lv_has ls 5 [(0, .ref (a 0)), (1, .long v1_1), (3, .int v3_0), (4, .int v4_1)] → K1 v1_1 v4_1 = some (r, R', b', pr', tm', cn', sm', ac', re', kn') → G H locs 0 0 (F0 m 45 ls [])) (fu1 : Nat) (v1_1 : Int64) (v4_1 : Int32) (H : Heap) (locs : List Loc) (ls : Array Slot), va_P D vwCl (cW a cJ cI cO R b pr tm cn sm ac re kn) H → va_D A (cW a cJ cI cO R b pr tm cn sm ac re kn) → va_S A s.heap H locs → lv_has ls 5 [(0, .ref (a 0)), (1, .long v1_1), (3, .int v3_0), (4, .int v4_1)] → p_X7_digest_L1 F R v3_0 K1 fu1 v1_1 v4_1 = some (r, R', b', pr', tm', cn', sm', ac', re', kn') → G H locs 0 0 (F0 m 14 ls []) := by
          intro K1 HX1 fu1
          induction fu1 with
          | zero =>
            intro v1_1 v4_1 H locs ls hP hD hS hl h
            exact (zno h).elim
          | succ fu1 ih1 =>
            intro v1_1 v4_1 H locs ls hP hD hS hl h
            refine hG _ _ _ _ _ ?_
            unfold p_X7_digest_L1 at h
            refine lv_iload hx hb dX7_digest_14 (lv_at hl 3 rfl) ?_
            refine lv_bipush (v := (120 : Int32)) hx hb dX7_digest_16 (by decide) ?_
            refine lv_icmp_gt (tgt := 45) hx hb dX7_digest_18 (by decide) (fun c18 => ?_) (fun c18 => ?_)
            · replace h := zif_t h c18
              exact hGW _ _ _ _ _ (HX1 v1_1 v4_1 _ _ ls hP hD hS (lv_sub hl [0, 1, 2, 3] rfl) h)
            · replace h := zif_f h c18
              refine lv_lload_n hx hb dX7_digest_21 rfl (lv_at hl 1 rfl) ?_
              refine lv_ldc2 hx hb hown kc_257 dX7_digest_22 ?_
              refine lv_lmul hx hb dX7_digest_25 ?_
              refine lv_aload_n hx hb dX7_digest_26 rfl (lv_at hl 0 rfl) ?_
              refine va_get (D := D) (ci := 7) (v := .ref (a 1)) (C := RX7) (T := TX7) (N := 9) hx hb hts kwX7 hown hK hP 0 rfl rfl 0 (by decide) kf_11 (fun _ h9 => h9) rfl dX7_digest_27 ?_
              refine lv_iload_n hx hb dX7_digest_30 rfl (lv_at hl 2 rfl) ?_
              obtain ⟨z31, h⟩ := zg_some h
              refine va_aldq hx hb hK hP 1 2 (C := RX4) (n := 4) (f := fun j => some (a (2 + j))) rfl rfl z31 dX7_digest_31 ?_
              refine lv_iload hx hb dX7_digest_32 (lv_at hl 3 rfl) ?_
              obtain ⟨r12, e13, h⟩ := zb1_some h
              refine zgol (va_runV (As := [.int v4_1]) (rest := [.long (v1_1 * (31 : Int64))]) ⟨hx, hb, hml, hown, hts⟩ (c_X4_at l D a cJ cI cO cB R b pr tm cn sm ac re kn (v3_0.toNatClampNeg) v4_1 (Nat.lt_trans (zin z31) (by decide)) r12 e13 H.size) (cwV 1 hts gX7_digest_X4_at rfl rfl rfl hdV_X4_at ⟨Nat.le_of_ble_eq_true rfl, Nat.le_of_ble_eq_true rfl⟩) (zpreV (q0 := 2 + v3_0.toNatClampNeg) (ci := 6) (T := TX4) (N := 1) hK hP hD (cW_row (Nat.lt_trans (zin z31) (by decide))) rfl [.int v4_1]) rfl rfl hl.1 rfl (lv_room (Nat.le_of_ble_eq_true rfl)) dX7_digest_34 ⟨Nat.le_of_ble_eq_true rfl, Nat.le_of_ble_eq_true rfl⟩) (zfree hD hS hA) (zjW hD hS hA) hS (fun H locs hP hD hS => ?_)
              replace hP : va_P D vwCl (cW a cJ cI cO R b pr tm cn sm ac re kn) H := hP
              replace hD : va_D A (cW a cJ cI cO R b pr tm cn sm ac re kn) := hD
              refine lv_ladd hx hb dX7_digest_37 ?_
              refine lv_lstore_n (lv' := [(1, .long ((v1_1 * (31 : Int64)) + r12)), (0, .ref (a 0)), (3, .int v3_0), (4, .int v4_1)]) hx hb dX7_digest_38 rfl hl (by decide) rfl (fun ls hl => ?_)
              refine lv_iinc (v := (v4_1 + (1 : Int32))) (lv' := [(4, .int (v4_1 + (1 : Int32))), (1, .long ((v1_1 * (31 : Int64)) + r12)), (0, .ref (a 0)), (3, .int v3_0)]) hx hb dX7_digest_39 hl (k := 3) rfl rfl (by decide) rfl (fun ls hl => ?_)
              refine lv_goto (tgt := 14) hx hb dX7_digest_42 (by decide) ?_
              exact hGW _ _ _ _ _ (ih1 ((v1_1 * (31 : Int64)) + r12) (v4_1 + (1 : Int32)) _ _ ls hP hD hS (lv_sub hl [2, 1, 3, 0] rfl) h)
        exact hGW _ _ _ _ _ (L1 _ X1 F v1_0 (1 : Int32) _ _ ls hP hD hS (lv_sub hl [1, 2, 3, 0] rfl) h)
  exact hGW _ _ _ _ _ (L0 _ X0 F (8027 : Int64) (0 : Int32) _ _ ls hP hD hS (lv_sub hl [2, 1, 0] rfl) h)
