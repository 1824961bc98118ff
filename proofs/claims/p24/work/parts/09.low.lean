noncomputable def p_X3_begin : Option Bool := (some false)
theorem hdV_X3_begin : yX3_begin.cls = RX3 ∧ yX3_begin.cls ≠ "java/lang/invoke/MethodHandle" ∧ yX3_begin.cls ≠ "java/lang/invoke/VarHandle" ∧ (parseMethodDescriptor yX3_begin.desc).map (fun d => d.parameters.length) = some 0 := by decide +kernel
set_option maxHeartbeats 4000000 in
set_option maxRecDepth 100000 in
theorem c_X3_begin (l : Launch) (D : va_G) (a : Nat → Nat) (cJ cI cO cB : ClassId) (R : Nat → Nat → Int64) (b : Bool) (pr : Nat → Int32) (tm : Nat → Int32) (cn : Int32) (sm : Nat → Int32) (ac : Int32) (re : Int32) (kn : Int32) (b' : Bool) (h : p_X3_begin = some b') : zMv l yX3_begin wsX3_begin 0 0 0 0 D (zT cJ cI cO cB) [.ref (a 14)] (cW a cJ cI cO R b pr tm cn sm ac re kn) (cW a cJ cI cO R b' pr tm cn sm ac re kn) := by
  intro sz
  delta zQv
  refine Met.ofW (cc := cX3_begin) (maxL := 1) (ret := none) (by decide) rfl ?_
  intro p e s m args below meth c s₁ B hml hv
  obtain ⟨rfl, hsz, hP, hK, hD0⟩ := hv
  have hx := B.exec
  have hb := B.bytes
  have hr := B.returns
  have hts := atoms_spec (ws := wsX3_begin) B.pre
  have hown : s.vm.findClass RX3 = some m.cls := findClass_of_methodNamed B.named
  have hlocks := B.notSynchronized
  subst hsz
  have hD := hD0.self (sz := s.heap.size)
  generalize hAe : va_A (cW a cJ cI cO R b pr tm cn sm ac re kn) s.heap.size = A at hD ⊢
  have hA : ∀ q : Nat, s.heap.size ≤ q → A q := fun q h => by rw [← hAe]; exact Or.inr h
  have hS : va_S A s.heap s.heap [] := va_S.rf
  have hl := lv_entry ([.ref (a 14)]) (n := 1) (Nat.le_of_ble_eq_true rfl)
  rw [lg_entry_eq]
  generalize (lg_sl ([.ref (a 14)]) ++ List.replicate (1 - (lg_sl ([.ref (a 14)])).length) Slot.unset).toArray = ls at hl ⊢
  replace hl : lv_has ls 1 [(0, .ref (a 14))] := hl
  have kwX3 : ∀ w ∈ u_ws RX3 TX3 1, w ∈ wsX3_begin := fun w h => List.mem_cons_of_mem _ (List.mem_append_right _ h)
  have kf_9 := hts (.fieldLink RX3 9 "Divisorwork$Reckoning" "beyond" "Z") (zmem 1 rfl)
  replace h : (some false) = some b' := h
  obtain ⟨H, hHe⟩ : ∃ H, H = s.heap := ⟨_, rfl⟩
  rw [← hHe] at hP
  replace hS : va_S A s.heap H [] := by rw [hHe]; exact hS
  refine zheap hHe ?_
  refine lv_aload_n hx hb dX3_begin_0 rfl (lv_at hl 0 rfl) ?_
  refine lv_iconst (v := (0 : Int32)) hx hb dX3_begin_1 (by decide) ?_
  refine va_put (D := D) (ci := 5) (v := .int (z01 false)) (ty := .boolean) (C := RX3) (T := TX3) (N := 1) hx hb hts kwX3 tyX3 tyX3_ok nmX3 hown hK hP hD hS 14 rfl rfl 0 (by decide) kf_9 (fun _ h9 => h9) rfl rfl (z01_nar false) (z01_fit false) (Nat.le_of_ble_eq_true rfl) dX3_begin_2 (fun H locs hP hD hS => ?_)
  replace hP : va_P D vwCl (cW a cJ cI cO R false pr tm cn sm ac re kn) H := hP
  replace hD : va_D A (cW a cJ cI cO R false pr tm cn sm ac re kn) := hD
  have h1 := Option.some.inj h
  subst h1
  exact W.vret hx hb hr (fun t ht hW => ⟨⟨(), rfl, trivial, by rw [ht]; exact hP, va_K.moved hW.alike hK, hD⟩, hS.F ht⟩) hS.2.2 dX3_begin_5

noncomputable def p_X4_at (R : Nat → Nat → Int64) (i0 : Nat) (p0 : Int32) : Option Int64 := (if p0 < (1 : Int32) then (some (0 : Int64)) else (if (120 : Int32) < p0 then (some (0 : Int64)) else (zg (p0 < 0 ∨ 121 ≤ p0.toNatClampNeg) (some (R i0 p0.toNatClampNeg)))))
theorem hdV_X4_at : yX4_at.cls = RX4 ∧ yX4_at.cls ≠ "java/lang/invoke/MethodHandle" ∧ yX4_at.cls ≠ "java/lang/invoke/VarHandle" ∧ (parseMethodDescriptor yX4_at.desc).map (fun d => d.parameters.length) = some 1 := by decide +kernel
set_option maxHeartbeats 4000000 in
set_option maxRecDepth 100000 in
theorem c_X4_at (l : Launch) (D : va_G) (a : Nat → Nat) (cJ cI cO cB : ClassId) (R : Nat → Nat → Int64) (b : Bool) (pr : Nat → Int32) (tm : Nat → Int32) (cn : Int32) (sm : Nat → Int32) (ac : Int32) (re : Int32) (kn : Int32) (i0 : Nat) (p0 : Int32) (hi0 : i0 < 6) (r : Int64) (h : p_X4_at R i0 p0 = some r) : zMl l yX4_at wsX4_at 0 0 0 0 D (zT cJ cI cO cB) [.ref (a (2 + i0)), .int p0] (cW a cJ cI cO R b pr tm cn sm ac re kn) (cW a cJ cI cO R b pr tm cn sm ac re kn) r := by
  intro sz
  delta zQl
  refine Met.ofW (cc := cX4_at) (maxL := 2) (ret := (some .long)) (by decide) rfl ?_
  intro p e s m args below meth c s₁ B hml hv
  obtain ⟨rfl, hsz, hP, hK, hD0⟩ := hv
  have hx := B.exec
  have hb := B.bytes
  have hr := B.returns
  have hts := atoms_spec (ws := wsX4_at) B.pre
  have hown : s.vm.findClass RX4 = some m.cls := findClass_of_methodNamed B.named
  have hlocks := B.notSynchronized
  subst hsz
  have hD := hD0.self (sz := s.heap.size)
  generalize hAe : va_A (cW a cJ cI cO R b pr tm cn sm ac re kn) s.heap.size = A at hD ⊢
  have hA : ∀ q : Nat, s.heap.size ≤ q → A q := fun q h => by rw [← hAe]; exact Or.inr h
  have hS : va_S A s.heap s.heap [] := va_S.rf
  have hl := lv_entry ([.ref (a (2 + i0)), .int p0]) (n := 2) (Nat.le_of_ble_eq_true rfl)
  rw [lg_entry_eq]
  generalize (lg_sl ([.ref (a (2 + i0)), .int p0]) ++ List.replicate (2 - (lg_sl ([.ref (a (2 + i0)), .int p0])).length) Slot.unset).toArray = ls at hl ⊢
  replace hl : lv_has ls 2 [(0, .ref (a (2 + i0))), (1, .int p0)] := hl
  have kwX4 : ∀ w ∈ u_ws RX4 TX4 1, w ∈ wsX4_at := fun w h => List.mem_cons_of_mem _ (List.mem_append_right _ h)
  have kf_9 := hts (.fieldLink RX4 9 "Divisorwork$Row" "cells" "[J") (zmem 1 rfl)
  replace h : (if p0 < (1 : Int32) then (some (0 : Int64)) else (if (120 : Int32) < p0 then (some (0 : Int64)) else (zg (p0 < 0 ∨ 121 ≤ p0.toNatClampNeg) (some (R i0 p0.toNatClampNeg))))) = some r := h
  obtain ⟨H, hHe⟩ : ∃ H, H = s.heap := ⟨_, rfl⟩
  rw [← hHe] at hP
  replace hS : va_S A s.heap H [] := by rw [hHe]; exact hS
  refine zheap hHe ?_
  refine lv_iload_n hx hb dX4_at_0 rfl (lv_at hl 1 rfl) ?_
  refine lv_iconst (v := (1 : Int32)) hx hb dX4_at_1 (by decide) ?_
  refine lv_icmp_lt (tgt := 20) hx hb dX4_at_2 (by decide) (fun c2 => ?_) (fun c2 => ?_)
  · replace h := zif_t h c2
    refine lv_lconst (v := (0 : Int64)) hx hb dX4_at_20 (by decide) ?_
    have h1 := Option.some.inj h
    subst h1
    exact W.lret (v := (0 : Int64)) hx hb hr (fun t ht hW => ⟨⟨(0 : Int64), (), rfl, rfl, by rw [ht]; exact hP, va_K.moved hW.alike hK, hD⟩, hS.F ht⟩) hS.2.2 dX4_at_21
  · replace h := zif_f h c2
    refine lv_iload_n hx hb dX4_at_5 rfl (lv_at hl 1 rfl) ?_
    refine lv_bipush (v := (120 : Int32)) hx hb dX4_at_6 (by decide) ?_
    refine lv_icmp_gt (tgt := 20) hx hb dX4_at_8 (by decide) (fun c8 => ?_) (fun c8 => ?_)
    · replace h := zif_t h c8
      refine lv_lconst (v := (0 : Int64)) hx hb dX4_at_20 (by decide) ?_
      have h1 := Option.some.inj h
      subst h1
      exact W.lret (v := (0 : Int64)) hx hb hr (fun t ht hW => ⟨⟨(0 : Int64), (), rfl, rfl, by rw [ht]; exact hP, va_K.moved hW.alike hK, hD⟩, hS.F ht⟩) hS.2.2 dX4_at_21
    · replace h := zif_f h c8
      refine lv_aload_n hx hb dX4_at_11 rfl (lv_at hl 0 rfl) ?_
      refine va_get (D := D) (ci := 6) (v := .ref (a (8 + i0))) (C := RX4) (T := TX4) (N := 1) hx hb hts kwX4 hown hK hP (2 + i0) (cW_row hi0) rfl 0 (by decide) kf_9 (fun _ h9 => h9) rfl dX4_at_12 ?_
      refine lv_iload_n hx hb dX4_at_15 rfl (lv_at hl 1 rfl) ?_
      obtain ⟨z16, h⟩ := zg_some h
      refine va_lald hx hb hK hP (8 + i0) 0 (cW_arr hi0) rfl z16 dX4_at_16 ?_
      refine lv_goto (tgt := 21) hx hb dX4_at_17 (by decide) ?_
      have h1 := Option.some.inj h
      subst h1
      exact W.lret (v := (R i0 p0.toNatClampNeg)) hx hb hr (fun t ht hW => ⟨⟨(R i0 p0.toNatClampNeg), (), rfl, rfl, by rw [ht]; exact hP, va_K.moved hW.alike hK, hD⟩, hS.F ht⟩) hS.2.2 dX4_at_21

noncomputable def p_X3_plus (b : Bool) (p0 : Int64) (p1 : Int64) : Option (Int64 × Bool) := (if 0 ≤ (lg_cmp ((p0 ^^^ (p0 + p1)) &&& (p1 ^^^ (p0 + p1))) (0 : Int64)) then (some ((p0 + p1), b)) else (some ((p0 + p1), true)))
theorem hdV_X3_plus : yX3_plus.cls = RX3 ∧ yX3_plus.cls ≠ "java/lang/invoke/MethodHandle" ∧ yX3_plus.cls ≠ "java/lang/invoke/VarHandle" ∧ (parseMethodDescriptor yX3_plus.desc).map (fun d => d.parameters.length) = some 2 := by decide +kernel
set_option maxHeartbeats 4000000 in
set_option maxRecDepth 100000 in
theorem c_X3_plus (l : Launch) (D : va_G) (a : Nat → Nat) (cJ cI cO cB : ClassId) (R : Nat → Nat → Int64) (b : Bool) (pr : Nat → Int32) (tm : Nat → Int32) (cn : Int32) (sm : Nat → Int32) (ac : Int32) (re : Int32) (kn : Int32) (p0 : Int64) (p1 : Int64) (r : Int64) (b' : Bool) (h : p_X3_plus b p0 p1 = some (r, b')) : zMl l yX3_plus wsX3_plus 0 0 0 0 D (zT cJ cI cO cB) [.ref (a 14), .long p0, .long p1] (cW a cJ cI cO R b pr tm cn sm ac re kn) (cW a cJ cI cO R b' pr tm cn sm ac re kn) r := by
  intro sz
  delta zQl
  refine Met.ofW (cc := cX3_plus) (maxL := 7) (ret := (some .long)) (by decide) rfl ?_
  intro p e s m args below meth c s₁ B hml hv
  obtain ⟨rfl, hsz, hP, hK, hD0⟩ := hv
  have hx := B.exec
  have hb := B.bytes
  have hr := B.returns
  have hts := atoms_spec (ws := wsX3_plus) B.pre
  have hown : s.vm.findClass RX3 = some m.cls := findClass_of_methodNamed B.named
  have hlocks := B.notSynchronized
  subst hsz
  have hD := hD0.self (sz := s.heap.size)
  generalize hAe : va_A (cW a cJ cI cO R b pr tm cn sm ac re kn) s.heap.size = A at hD ⊢
  have hA : ∀ q : Nat, s.heap.size ≤ q → A q := fun q h => by rw [← hAe]; exact Or.inr h
  have hS : va_S A s.heap s.heap [] := va_S.rf
  have hl := lv_entry ([.ref (a 14), .long p0, .long p1]) (n := 7) (Nat.le_of_ble_eq_true rfl)
  rw [lg_entry_eq]
  generalize (lg_sl ([.ref (a 14), .long p0, .long p1]) ++ List.replicate (7 - (lg_sl ([.ref (a 14), .long p0, .long p1])).length) Slot.unset).toArray = ls at hl ⊢
  replace hl : lv_has ls 7 [(0, .ref (a 14)), (1, .long p0), (3, .long p1)] := hl
  have kwX3 : ∀ w ∈ u_ws RX3 TX3 1, w ∈ wsX3_plus := fun w h => List.mem_cons_of_mem _ (List.mem_append_right _ h)
  have kf_9 := hts (.fieldLink RX3 9 "Divisorwork$Reckoning" "beyond" "Z") (zmem 1 rfl)
  replace h : (if 0 ≤ (lg_cmp ((p0 ^^^ (p0 + p1)) &&& (p1 ^^^ (p0 + p1))) (0 : Int64)) then (some ((p0 + p1), b)) else (some ((p0 + p1), true))) = some (r, b') := h
  obtain ⟨H, hHe⟩ : ∃ H, H = s.heap := ⟨_, rfl⟩
  rw [← hHe] at hP
  replace hS : va_S A s.heap H [] := by rw [hHe]; exact hS
  refine zheap hHe ?_
  refine lv_lload_n hx hb dX3_plus_0 rfl (lv_at hl 1 rfl) ?_
  refine lv_lload_n hx hb dX3_plus_1 rfl (lv_at hl 2 rfl) ?_
  refine lv_ladd hx hb dX3_plus_2 ?_
  refine lv_lstore (lv' := [(5, .long (p0 + p1)), (0, .ref (a 14)), (1, .long p0), (3, .long p1)]) hx hb dX3_plus_3 hl (by decide) rfl (fun ls hl => ?_)
  refine lv_lload_n hx hb dX3_plus_5 rfl (lv_at hl 2 rfl) ?_
  refine lv_lload hx hb dX3_plus_6 (lv_at hl 0 rfl) ?_
  refine lv_lxor hx hb dX3_plus_8 ?_
  refine lv_lload_n hx hb dX3_plus_9 rfl (lv_at hl 3 rfl) ?_
  refine lv_lload hx hb dX3_plus_10 (lv_at hl 0 rfl) ?_
  refine lv_lxor hx hb dX3_plus_12 ?_
  refine lv_land hx hb dX3_plus_13 ?_
  refine lv_lconst (v := (0 : Int64)) hx hb dX3_plus_14 (by decide) ?_
  refine W.lcmp hx hb dX3_plus_15 ?_
  refine lv_if_ge (tgt := 24) hx hb dX3_plus_16 (by decide) (fun c16 => ?_) (fun c16 => ?_)
  · replace h := zif_t h c16
    refine lv_lload hx hb dX3_plus_24 (lv_at hl 0 rfl) ?_
    have g0 := Option.some.inj h
    obtain ⟨h1, g1⟩ := Prod.mk.inj g0
    subst h1
    subst g1
    exact W.lret (v := (p0 + p1)) hx hb hr (fun t ht hW => ⟨⟨(p0 + p1), (), rfl, rfl, by rw [ht]; exact hP, va_K.moved hW.alike hK, hD⟩, hS.F ht⟩) hS.2.2 dX3_plus_26
  · replace h := zif_f h c16
    refine lv_aload_n hx hb dX3_plus_19 rfl (lv_at hl 1 rfl) ?_
    refine lv_iconst (v := (1 : Int32)) hx hb dX3_plus_20 (by decide) ?_
    refine va_put (D := D) (ci := 5) (v := .int (z01 true)) (ty := .boolean) (C := RX3) (T := TX3) (N := 1) hx hb hts kwX3 tyX3 tyX3_ok nmX3 hown hK hP hD hS 14 rfl rfl 0 (by decide) kf_9 (fun _ h9 => h9) rfl rfl (z01_nar true) (z01_fit true) (Nat.le_of_ble_eq_true rfl) dX3_plus_21 (fun H locs hP hD hS => ?_)
    replace hP : va_P D vwCl (cW a cJ cI cO R true pr tm cn sm ac re kn) H := hP
    replace hD : va_D A (cW a cJ cI cO R true pr tm cn sm ac re kn) := hD
    refine lv_lload hx hb dX3_plus_24 (lv_at hl 0 rfl) ?_
    have g0 := Option.some.inj h
    obtain ⟨h1, g1⟩ := Prod.mk.inj g0
    subst h1
    subst g1
    exact W.lret (v := (p0 + p1)) hx hb hr (fun t ht hW => ⟨⟨(p0 + p1), (), rfl, rfl, by rw [ht]; exact hP, va_K.moved hW.alike hK, hD⟩, hS.F ht⟩) hS.2.2 dX3_plus_26

noncomputable def p_X4_lay (R : Nat → Nat → Int64) (i0 : Nat) (p0 : Int32) (p1 : Int64) : Option ((Nat → Nat → Int64)) := (if p0 < (1 : Int32) then (some R) else (if (120 : Int32) < p0 then (some R) else (zg (p0 < 0 ∨ 121 ≤ p0.toNatClampNeg) (some (va_up R i0 (vp_updL (R i0) p0.toNatClampNeg p1))))))
theorem hdV_X4_lay : yX4_lay.cls = RX4 ∧ yX4_lay.cls ≠ "java/lang/invoke/MethodHandle" ∧ yX4_lay.cls ≠ "java/lang/invoke/VarHandle" ∧ (parseMethodDescriptor yX4_lay.desc).map (fun d => d.parameters.length) = some 2 := by decide +kernel
set_option maxHeartbeats 4000000 in
set_option maxRecDepth 100000 in
theorem c_X4_lay (l : Launch) (D : va_G) (a : Nat → Nat) (cJ cI cO cB : ClassId) (R : Nat → Nat → Int64) (b : Bool) (pr : Nat → Int32) (tm : Nat → Int32) (cn : Int32) (sm : Nat → Int32) (ac : Int32) (re : Int32) (kn : Int32) (i0 : Nat) (p0 : Int32) (p1 : Int64) (hi0 : i0 < 6) (R' : Nat → Nat → Int64) (h : p_X4_lay R i0 p0 p1 = some R') : zMv l yX4_lay wsX4_lay 0 0 0 0 D (zT cJ cI cO cB) [.ref (a (2 + i0)), .int p0, .long p1] (cW a cJ cI cO R b pr tm cn sm ac re kn) (cW a cJ cI cO R' b pr tm cn sm ac re kn) := by
  intro sz
  delta zQv
  refine Met.ofW (cc := cX4_lay) (maxL := 4) (ret := none) (by decide) rfl ?_
  intro p e s m args below meth c s₁ B hml hv
  obtain ⟨rfl, hsz, hP, hK, hD0⟩ := hv
  have hx := B.exec
  have hb := B.bytes
  have hr := B.returns
  have hts := atoms_spec (ws := wsX4_lay) B.pre
  have hown : s.vm.findClass RX4 = some m.cls := findClass_of_methodNamed B.named
  have hlocks := B.notSynchronized
  subst hsz
  have hD := hD0.self (sz := s.heap.size)
  generalize hAe : va_A (cW a cJ cI cO R b pr tm cn sm ac re kn) s.heap.size = A at hD ⊢
  have hA : ∀ q : Nat, s.heap.size ≤ q → A q := fun q h => by rw [← hAe]; exact Or.inr h
  have hS : va_S A s.heap s.heap [] := va_S.rf
  have hl := lv_entry ([.ref (a (2 + i0)), .int p0, .long p1]) (n := 4) (Nat.le_of_ble_eq_true rfl)
  rw [lg_entry_eq]
  generalize (lg_sl ([.ref (a (2 + i0)), .int p0, .long p1]) ++ List.replicate (4 - (lg_sl ([.ref (a (2 + i0)), .int p0, .long p1])).length) Slot.unset).toArray = ls at hl ⊢
  replace hl : lv_has ls 4 [(0, .ref (a (2 + i0))), (1, .int p0), (2, .long p1)] := hl
  have kwX4 : ∀ w ∈ u_ws RX4 TX4 1, w ∈ wsX4_lay := fun w h => List.mem_cons_of_mem _ (List.mem_append_right _ h)
  have kf_9 := hts (.fieldLink RX4 9 "Divisorwork$Row" "cells" "[J") (zmem 1 rfl)
  replace h : (if p0 < (1 : Int32) then (some R) else (if (120 : Int32) < p0 then (some R) else (zg (p0 < 0 ∨ 121 ≤ p0.toNatClampNeg) (some (va_up R i0 (vp_updL (R i0) p0.toNatClampNeg p1)))))) = some R' := h
  obtain ⟨H, hHe⟩ : ∃ H, H = s.heap := ⟨_, rfl⟩
  rw [← hHe] at hP
  replace hS : va_S A s.heap H [] := by rw [hHe]; exact hS
  refine zheap hHe ?_
  refine lv_iload_n hx hb dX4_lay_0 rfl (lv_at hl 1 rfl) ?_
  refine lv_iconst (v := (1 : Int32)) hx hb dX4_lay_1 (by decide) ?_
  refine lv_icmp_lt (tgt := 18) hx hb dX4_lay_2 (by decide) (fun c2 => ?_) (fun c2 => ?_)
  · replace h := zif_t h c2
    have h1 := Option.some.inj h
    subst h1
    exact W.vret hx hb hr (fun t ht hW => ⟨⟨(), rfl, trivial, by rw [ht]; exact hP, va_K.moved hW.alike hK, hD⟩, hS.F ht⟩) hS.2.2 dX4_lay_18
  · replace h := zif_f h c2
    refine lv_iload_n hx hb dX4_lay_5 rfl (lv_at hl 1 rfl) ?_
    refine lv_bipush (v := (120 : Int32)) hx hb dX4_lay_6 (by decide) ?_
    refine lv_icmp_gt (tgt := 18) hx hb dX4_lay_8 (by decide) (fun c8 => ?_) (fun c8 => ?_)
    · replace h := zif_t h c8
      have h1 := Option.some.inj h
      subst h1
      exact W.vret hx hb hr (fun t ht hW => ⟨⟨(), rfl, trivial, by rw [ht]; exact hP, va_K.moved hW.alike hK, hD⟩, hS.F ht⟩) hS.2.2 dX4_lay_18
    · replace h := zif_f h c8
      refine lv_aload_n hx hb dX4_lay_11 rfl (lv_at hl 0 rfl) ?_
      refine va_get (D := D) (ci := 6) (v := .ref (a (8 + i0))) (C := RX4) (T := TX4) (N := 1) hx hb hts kwX4 hown hK hP (2 + i0) (cW_row hi0) rfl 0 (by decide) kf_9 (fun _ h9 => h9) rfl dX4_lay_12 ?_
      refine lv_iload_n hx hb dX4_lay_15 rfl (lv_at hl 1 rfl) ?_
      refine lv_lload_n hx hb dX4_lay_16 rfl (lv_at hl 2 rfl) ?_
      obtain ⟨z17, h⟩ := zg_some h
      refine va_last hx hb hK hP hD hS (8 + i0) 0 (cW_arr hi0) rfl z17 dX4_lay_17 (fun H locs hP hD hS => ?_)
      rw [cW_set hi0] at hP hD
      have h1 := Option.some.inj h
      subst h1
      exact W.vret hx hb hr (fun t ht hW => ⟨⟨(), rfl, trivial, by rw [ht]; exact hP, va_K.moved hW.alike hK, hD⟩, hS.F ht⟩) hS.2.2 dX4_lay_18

noncomputable def p_X3_minus (b : Bool) (p0 : Int64) (p1 : Int64) : Option (Int64 × Bool) := (if 0 ≤ (lg_cmp ((p0 ^^^ p1) &&& (p0 ^^^ (p0 - p1))) (0 : Int64)) then (some ((p0 - p1), b)) else (some ((p0 - p1), true)))
theorem hdV_X3_minus : yX3_minus.cls = RX3 ∧ yX3_minus.cls ≠ "java/lang/invoke/MethodHandle" ∧ yX3_minus.cls ≠ "java/lang/invoke/VarHandle" ∧ (parseMethodDescriptor yX3_minus.desc).map (fun d => d.parameters.length) = some 2 := by decide +kernel
set_option maxHeartbeats 4000000 in
set_option maxRecDepth 100000 in
theorem c_X3_minus (l : Launch) (D : va_G) (a : Nat → Nat) (cJ cI cO cB : ClassId) (R : Nat → Nat → Int64) (b : Bool) (pr : Nat → Int32) (tm : Nat → Int32) (cn : Int32) (sm : Nat → Int32) (ac : Int32) (re : Int32) (kn : Int32) (p0 : Int64) (p1 : Int64) (r : Int64) (b' : Bool) (h : p_X3_minus b p0 p1 = some (r, b')) : zMl l yX3_minus wsX3_minus 0 0 0 0 D (zT cJ cI cO cB) [.ref (a 14), .long p0, .long p1] (cW a cJ cI cO R b pr tm cn sm ac re kn) (cW a cJ cI cO R b' pr tm cn sm ac re kn) r := by
  intro sz
  delta zQl
  refine Met.ofW (cc := cX3_minus) (maxL := 7) (ret := (some .long)) (by decide) rfl ?_
  intro p e s m args below meth c s₁ B hml hv
  obtain ⟨rfl, hsz, hP, hK, hD0⟩ := hv
  have hx := B.exec
  have hb := B.bytes
  have hr := B.returns
  have hts := atoms_spec (ws := wsX3_minus) B.pre
  have hown : s.vm.findClass RX3 = some m.cls := findClass_of_methodNamed B.named
  have hlocks := B.notSynchronized
  subst hsz
  have hD := hD0.self (sz := s.heap.size)
  generalize hAe : va_A (cW a cJ cI cO R b pr tm cn sm ac re kn) s.heap.size = A at hD ⊢
  have hA : ∀ q : Nat, s.heap.size ≤ q → A q := fun q h => by rw [← hAe]; exact Or.inr h
  have hS : va_S A s.heap s.heap [] := va_S.rf
  have hl := lv_entry ([.ref (a 14), .long p0, .long p1]) (n := 7) (Nat.le_of_ble_eq_true rfl)
  rw [lg_entry_eq]
  generalize (lg_sl ([.ref (a 14), .long p0, .long p1]) ++ List.replicate (7 - (lg_sl ([.ref (a 14), .long p0, .long p1])).length) Slot.unset).toArray = ls at hl ⊢
  replace hl : lv_has ls 7 [(0, .ref (a 14)), (1, .long p0), (3, .long p1)] := hl
  have kwX3 : ∀ w ∈ u_ws RX3 TX3 1, w ∈ wsX3_minus := fun w h => List.mem_cons_of_mem _ (List.mem_append_right _ h)
  have kf_9 := hts (.fieldLink RX3 9 "Divisorwork$Reckoning" "beyond" "Z") (zmem 1 rfl)
  replace h : (if 0 ≤ (lg_cmp ((p0 ^^^ p1) &&& (p0 ^^^ (p0 - p1))) (0 : Int64)) then (some ((p0 - p1), b)) else (some ((p0 - p1), true))) = some (r, b') := h
  obtain ⟨H, hHe⟩ : ∃ H, H = s.heap := ⟨_, rfl⟩
  rw [← hHe] at hP
  replace hS : va_S A s.heap H [] := by rw [hHe]; exact hS
  refine zheap hHe ?_
  refine lv_lload_n hx hb dX3_minus_0 rfl (lv_at hl 1 rfl) ?_
  refine lv_lload_n hx hb dX3_minus_1 rfl (lv_at hl 2 rfl) ?_
  refine lv_lsub hx hb dX3_minus_2 ?_
  refine lv_lstore (lv' := [(5, .long (p0 - p1)), (0, .ref (a 14)), (1, .long p0), (3, .long p1)]) hx hb dX3_minus_3 hl (by decide) rfl (fun ls hl => ?_)
  refine lv_lload_n hx hb dX3_minus_5 rfl (lv_at hl 2 rfl) ?_
  refine lv_lload_n hx hb dX3_minus_6 rfl (lv_at hl 3 rfl) ?_
  refine lv_lxor hx hb dX3_minus_7 ?_
  refine lv_lload_n hx hb dX3_minus_8 rfl (lv_at hl 2 rfl) ?_
  refine lv_lload hx hb dX3_minus_9 (lv_at hl 0 rfl) ?_
  refine lv_lxor hx hb dX3_minus_11 ?_
  refine lv_land hx hb dX3_minus_12 ?_
  refine lv_lconst (v := (0 : Int64)) hx hb dX3_minus_13 (by decide) ?_
  refine W.lcmp hx hb dX3_minus_14 ?_
  refine lv_if_ge (tgt := 23) hx hb dX3_minus_15 (by decide) (fun c15 => ?_) (fun c15 => ?_)
  · replace h := zif_t h c15
    refine lv_lload hx hb dX3_minus_23 (lv_at hl 0 rfl) ?_
    have g0 := Option.some.inj h
    obtain ⟨h1, g1⟩ := Prod.mk.inj g0
    subst h1
    subst g1
    exact W.lret (v := (p0 - p1)) hx hb hr (fun t ht hW => ⟨⟨(p0 - p1), (), rfl, rfl, by rw [ht]; exact hP, va_K.moved hW.alike hK, hD⟩, hS.F ht⟩) hS.2.2 dX3_minus_25
  · replace h := zif_f h c15
    refine lv_aload_n hx hb dX3_minus_18 rfl (lv_at hl 1 rfl) ?_
    refine lv_iconst (v := (1 : Int32)) hx hb dX3_minus_19 (by decide) ?_
    refine va_put (D := D) (ci := 5) (v := .int (z01 true)) (ty := .boolean) (C := RX3) (T := TX3) (N := 1) hx hb hts kwX3 tyX3 tyX3_ok nmX3 hown hK hP hD hS 14 rfl rfl 0 (by decide) kf_9 (fun _ h9 => h9) rfl rfl (z01_nar true) (z01_fit true) (Nat.le_of_ble_eq_true rfl) dX3_minus_20 (fun H locs hP hD hS => ?_)
    replace hP : va_P D vwCl (cW a cJ cI cO R true pr tm cn sm ac re kn) H := hP
    replace hD : va_D A (cW a cJ cI cO R true pr tm cn sm ac re kn) := hD
    refine lv_lload hx hb dX3_minus_23 (lv_at hl 0 rfl) ?_
    have g0 := Option.some.inj h
    obtain ⟨h1, g1⟩ := Prod.mk.inj g0
    subst h1
    subst g1
    exact W.lret (v := (p0 - p1)) hx hb hr (fun t ht hW => ⟨⟨(p0 - p1), (), rfl, rfl, by rw [ht]; exact hP, va_K.moved hW.alike hK, hD⟩, hS.F ht⟩) hS.2.2 dX3_minus_25

noncomputable def p_X3_isLetProduct (p0 : Int64) (p1 : Int64) : Option Bool := (if ¬ (lg_cmp p1 (0 : Int64)) = 0 then (zg (p1 = 0) (if ¬ (lg_cmp ((p0 * p1) / p1) p0) = 0 then (some false) else (if ¬ (lg_cmp p0 (-9223372036854775808 : Int64)) = 0 then (some true) else (if (lg_cmp p1 (-1 : Int64)) = 0 then (some false) else (some true))))) else (some true))
theorem hdS_X3_isLetProduct : yX3_isLetProduct.cls ≠ "java/lang/invoke/MethodHandle" ∧ yX3_isLetProduct.cls ≠ "java/lang/invoke/VarHandle" ∧ (parseMethodDescriptor yX3_isLetProduct.desc).map (fun d => d.parameters.length) = some 2 := by decide +kernel
set_option maxHeartbeats 4000000 in
set_option maxRecDepth 100000 in
theorem c_X3_isLetProduct (l : Launch) (D : va_G) (tys : List (ClassId × FieldType)) (p0 : Int64) (p1 : Int64) (r : Bool) (h : p_X3_isLetProduct p0 p1 = some r) : zMi l yX3_isLetProduct wsX3_isLetProduct 0 0 0 0 D tys [.long p0, .long p1] ([] : va_W) ([] : va_W) (z01 r) := by
  intro sz
  delta zQi
  refine Met.ofW (cc := cX3_isLetProduct) (maxL := 4) (ret := (some .boolean)) (by decide) rfl ?_
  intro p e s m args below meth c s₁ B hml hv
  obtain ⟨rfl, hsz, hP, hK, hD0⟩ := hv
  have hx := B.exec
  have hb := B.bytes
  have hr := B.returns
  have hts := atoms_spec (ws := wsX3_isLetProduct) B.pre
  have hown : s.vm.findClass RX3 = some m.cls := findClass_of_methodNamed B.named
  have hlocks := B.notSynchronized
  subst hsz
  have hD := hD0.self (sz := s.heap.size)
  generalize hAe : va_A ([] : va_W) s.heap.size = A at hD ⊢
  have hA : ∀ q : Nat, s.heap.size ≤ q → A q := fun q h => by rw [← hAe]; exact Or.inr h
  have hS : va_S A s.heap s.heap [] := va_S.rf
  have hl := lv_entry ([.long p0, .long p1]) (n := 4) (Nat.le_of_ble_eq_true rfl)
  rw [lg_entry_eq]
  generalize (lg_sl ([.long p0, .long p1]) ++ List.replicate (4 - (lg_sl ([.long p0, .long p1])).length) Slot.unset).toArray = ls at hl ⊢
  replace hl : lv_has ls 4 [(0, .long p0), (2, .long p1)] := hl
  have kc_19 := hts (.constantLong RX3 19 (-9223372036854775808)) (zmem 1 rfl)
  have kc_21 := hts (.constantLong RX3 21 (-1)) (zmem 2 rfl)
  replace h : (if ¬ (lg_cmp p1 (0 : Int64)) = 0 then (zg (p1 = 0) (if ¬ (lg_cmp ((p0 * p1) / p1) p0) = 0 then (some false) else (if ¬ (lg_cmp p0 (-9223372036854775808 : Int64)) = 0 then (some true) else (if (lg_cmp p1 (-1 : Int64)) = 0 then (some false) else (some true))))) else (some true)) = some r := h
  obtain ⟨H, hHe⟩ : ∃ H, H = s.heap := ⟨_, rfl⟩
  rw [← hHe] at hP
  replace hS : va_S A s.heap H [] := by rw [hHe]; exact hS
  refine zheap hHe ?_
  refine lv_lload_n hx hb dX3_isLetProduct_0 rfl (lv_at hl 1 rfl) ?_
  refine lv_lconst (v := (0 : Int64)) hx hb dX3_isLetProduct_1 (by decide) ?_
  refine W.lcmp hx hb dX3_isLetProduct_2 ?_
  refine lv_if_ne (tgt := 8) hx hb dX3_isLetProduct_3 (by decide) (fun c3 => ?_) (fun c3 => ?_)
  · replace h := zif_t h c3
    refine lv_lload_n hx hb dX3_isLetProduct_8 rfl (lv_at hl 0 rfl) ?_
    refine lv_lload_n hx hb dX3_isLetProduct_9 rfl (lv_at hl 1 rfl) ?_
    refine lv_lmul hx hb dX3_isLetProduct_10 ?_
    refine lv_lload_n hx hb dX3_isLetProduct_11 rfl (lv_at hl 1 rfl) ?_
    obtain ⟨z12, h⟩ := zg_some h
    refine lv_ldiv hx hb dX3_isLetProduct_12 z12 ?_
    refine lv_lload_n hx hb dX3_isLetProduct_13 rfl (lv_at hl 0 rfl) ?_
    refine W.lcmp hx hb dX3_isLetProduct_14 ?_
    refine lv_if_ne (tgt := 38) hx hb dX3_isLetProduct_15 (by decide) (fun c15 => ?_) (fun c15 => ?_)
    · replace h := zif_t h c15
      refine lv_iconst (v := (0 : Int32)) hx hb dX3_isLetProduct_38 (by decide) ?_
      have h1 := Option.some.inj h
      subst h1
      exact W.zret (v := (0 : Int32)) hx hb hr (z01_nar false) (fun t ht hW => ⟨⟨(0 : Int32), (), rfl, rfl, by rw [ht]; exact hP, va_K.moved hW.alike hK, hD⟩, hS.F ht⟩) hS.2.2 dX3_isLetProduct_39
    · replace h := zif_fn h c15
      refine lv_lload_n hx hb dX3_isLetProduct_18 rfl (lv_at hl 0 rfl) ?_
      refine lv_ldc2 hx hb hown kc_19 dX3_isLetProduct_19 ?_
      refine W.lcmp hx hb dX3_isLetProduct_22 ?_
      refine lv_if_ne (tgt := 34) hx hb dX3_isLetProduct_23 (by decide) (fun c23 => ?_) (fun c23 => ?_)
      · replace h := zif_t h c23
        refine lv_iconst (v := (1 : Int32)) hx hb dX3_isLetProduct_34 (by decide) ?_
        refine lv_goto (tgt := 39) hx hb dX3_isLetProduct_35 (by decide) ?_
        have h1 := Option.some.inj h
        subst h1
        exact W.zret (v := (1 : Int32)) hx hb hr (z01_nar true) (fun t ht hW => ⟨⟨(1 : Int32), (), rfl, rfl, by rw [ht]; exact hP, va_K.moved hW.alike hK, hD⟩, hS.F ht⟩) hS.2.2 dX3_isLetProduct_39
      · replace h := zif_fn h c23
        refine lv_lload_n hx hb dX3_isLetProduct_26 rfl (lv_at hl 1 rfl) ?_
        refine lv_ldc2 hx hb hown kc_21 dX3_isLetProduct_27 ?_
        refine W.lcmp hx hb dX3_isLetProduct_30 ?_
        refine lv_if_eq (tgt := 38) hx hb dX3_isLetProduct_31 (by decide) (fun c31 => ?_) (fun c31 => ?_)
        · replace h := zif_t h c31
          refine lv_iconst (v := (0 : Int32)) hx hb dX3_isLetProduct_38 (by decide) ?_
          have h1 := Option.some.inj h
          subst h1
          exact W.zret (v := (0 : Int32)) hx hb hr (z01_nar false) (fun t ht hW => ⟨⟨(0 : Int32), (), rfl, rfl, by rw [ht]; exact hP, va_K.moved hW.alike hK, hD⟩, hS.F ht⟩) hS.2.2 dX3_isLetProduct_39
        · replace h := zif_f h c31
          refine lv_iconst (v := (1 : Int32)) hx hb dX3_isLetProduct_34 (by decide) ?_
          refine lv_goto (tgt := 39) hx hb dX3_isLetProduct_35 (by decide) ?_
          have h1 := Option.some.inj h
          subst h1
          exact W.zret (v := (1 : Int32)) hx hb hr (z01_nar true) (fun t ht hW => ⟨⟨(1 : Int32), (), rfl, rfl, by rw [ht]; exact hP, va_K.moved hW.alike hK, hD⟩, hS.F ht⟩) hS.2.2 dX3_isLetProduct_39
  · replace h := zif_fn h c3
    refine lv_iconst (v := (1 : Int32)) hx hb dX3_isLetProduct_6 (by decide) ?_
    have h1 := Option.some.inj h
    subst h1
    exact W.zret (v := (1 : Int32)) hx hb hr (z01_nar true) (fun t ht hW => ⟨⟨(1 : Int32), (), rfl, rfl, by rw [ht]; exact hP, va_K.moved hW.alike hK, hD⟩, hS.F ht⟩) hS.2.2 dX3_isLetProduct_7

noncomputable def p_X3_times (b : Bool) (p0 : Int64) (p1 : Int64) : Option (Int64 × Bool) := (zb1 (p_X3_isLetProduct p0 p1) (fun r1 => (if ¬ (z01 r1) = 0 then (some ((p0 * p1), b)) else (some ((p0 * p1), true)))))
theorem hdV_X3_times : yX3_times.cls = RX3 ∧ yX3_times.cls ≠ "java/lang/invoke/MethodHandle" ∧ yX3_times.cls ≠ "java/lang/invoke/VarHandle" ∧ (parseMethodDescriptor yX3_times.desc).map (fun d => d.parameters.length) = some 2 := by decide +kernel
set_option maxHeartbeats 4000000 in
set_option maxRecDepth 100000 in
theorem c_X3_times (l : Launch) (D : va_G) (a : Nat → Nat) (cJ cI cO cB : ClassId) (R : Nat → Nat → Int64) (b : Bool) (pr : Nat → Int32) (tm : Nat → Int32) (cn : Int32) (sm : Nat → Int32) (ac : Int32) (re : Int32) (kn : Int32) (p0 : Int64) (p1 : Int64) (r : Int64) (b' : Bool) (h : p_X3_times b p0 p1 = some (r, b')) : zMl l yX3_times wsX3_times 1 23 0 0 D (zT cJ cI cO cB) [.ref (a 14), .long p0, .long p1] (cW a cJ cI cO R b pr tm cn sm ac re kn) (cW a cJ cI cO R b' pr tm cn sm ac re kn) r := by
  intro sz
  delta zQl
  refine Met.ofW (cc := cX3_times) (maxL := 5) (ret := (some .long)) (by decide) rfl ?_
  intro p e s m args below meth c s₁ B hml hv
  obtain ⟨rfl, hsz, hP, hK, hD0⟩ := hv
  have hx := B.exec
  have hb := B.bytes
  have hr := B.returns
  have hts := atoms_spec (ws := wsX3_times) B.pre
  have hown : s.vm.findClass RX3 = some m.cls := findClass_of_methodNamed B.named
  have hlocks := B.notSynchronized
  subst hsz
  have hD := hD0.self (sz := s.heap.size)
  generalize hAe : va_A (cW a cJ cI cO R b pr tm cn sm ac re kn) s.heap.size = A at hD ⊢
  have hA : ∀ q : Nat, s.heap.size ≤ q → A q := fun q h => by rw [← hAe]; exact Or.inr h
  have hS : va_S A s.heap s.heap [] := va_S.rf
  have hl := lv_entry ([.ref (a 14), .long p0, .long p1]) (n := 5) (Nat.le_of_ble_eq_true rfl)
  rw [lg_entry_eq]
  generalize (lg_sl ([.ref (a 14), .long p0, .long p1]) ++ List.replicate (5 - (lg_sl ([.ref (a 14), .long p0, .long p1])).length) Slot.unset).toArray = ls at hl ⊢
  replace hl : lv_has ls 5 [(0, .ref (a 14)), (1, .long p0), (3, .long p1)] := hl
  have kwX3 : ∀ w ∈ u_ws RX3 TX3 1, w ∈ wsX3_times := fun w h => List.mem_cons_of_mem _ (List.mem_append_left _ (List.mem_append_right _ h))
  have kf_9 := hts (.fieldLink RX3 9 "Divisorwork$Reckoning" "beyond" "Z") (zmem 1 rfl)
  replace h : (zb1 (p_X3_isLetProduct p0 p1) (fun r1 => (if ¬ (z01 r1) = 0 then (some ((p0 * p1), b)) else (some ((p0 * p1), true))))) = some (r, b') := h
  obtain ⟨H, hHe⟩ : ∃ H, H = s.heap := ⟨_, rfl⟩
  rw [← hHe] at hP
  replace hS : va_S A s.heap H [] := by rw [hHe]; exact hS
  refine zheap hHe ?_
  refine lv_lload_n hx hb dX3_times_0 rfl (lv_at hl 1 rfl) ?_
  refine lv_lload_n hx hb dX3_times_1 rfl (lv_at hl 2 rfl) ?_
  obtain ⟨r1, e2, h⟩ := zb1_some h
  refine zgoi (va_runS (As := [.long p0, .long p1]) (rest := []) ⟨hx, hb, hml, hown, hts⟩ (c_X3_isLetProduct l D (zT cJ cI cO cB) p0 p1 r1 e2 H.size) (va_cwS 2 hts gX3_times_X3_isLetProduct rfl rfl rfl hdS_X3_isLetProduct ⟨Nat.le_of_ble_eq_true rfl, Nat.le_of_ble_eq_true rfl⟩) (zpreS hK zP0 (zD0 (A := A)) [.long p0, .long p1]) rfl rfl hl.1 rfl (lv_room (Nat.le_of_ble_eq_true rfl)) dX3_times_2 ⟨Nat.le_of_ble_eq_true rfl, Nat.le_of_ble_eq_true rfl⟩) (zf0 hS hA) (zjE hP hD) hS (fun H locs hP hD hS => ?_)
  refine lv_if_ne (tgt := 13) hx hb dX3_times_5 (by decide) (fun c5 => ?_) (fun c5 => ?_)
  · replace h := zif_t h c5
    refine lv_lload_n hx hb dX3_times_13 rfl (lv_at hl 1 rfl) ?_
    refine lv_lload_n hx hb dX3_times_14 rfl (lv_at hl 2 rfl) ?_
    refine lv_lmul hx hb dX3_times_15 ?_
    have g0 := Option.some.inj h
    obtain ⟨h1, g1⟩ := Prod.mk.inj g0
    subst h1
    subst g1
    exact W.lret (v := (p0 * p1)) hx hb hr (fun t ht hW => ⟨⟨(p0 * p1), (), rfl, rfl, by rw [ht]; exact hP, va_K.moved hW.alike hK, hD⟩, hS.F ht⟩) hS.2.2 dX3_times_16
  · replace h := zif_fn h c5
    refine lv_aload_n hx hb dX3_times_8 rfl (lv_at hl 0 rfl) ?_
    refine lv_iconst (v := (1 : Int32)) hx hb dX3_times_9 (by decide) ?_
    refine va_put (D := D) (ci := 5) (v := .int (z01 true)) (ty := .boolean) (C := RX3) (T := TX3) (N := 1) hx hb hts kwX3 tyX3 tyX3_ok nmX3 hown hK hP hD hS 14 rfl rfl 0 (by decide) kf_9 (fun _ h9 => h9) rfl rfl (z01_nar true) (z01_fit true) (Nat.le_of_ble_eq_true rfl) dX3_times_10 (fun H locs hP hD hS => ?_)
    replace hP : va_P D vwCl (cW a cJ cI cO R true pr tm cn sm ac re kn) H := hP
    replace hD : va_D A (cW a cJ cI cO R true pr tm cn sm ac re kn) := hD
    refine lv_lload_n hx hb dX3_times_13 rfl (lv_at hl 1 rfl) ?_
    refine lv_lload_n hx hb dX3_times_14 rfl (lv_at hl 2 rfl) ?_
    refine lv_lmul hx hb dX3_times_15 ?_
    have g0 := Option.some.inj h
    obtain ⟨h1, g1⟩ := Prod.mk.inj g0
    subst h1
    subst g1
    exact W.lret (v := (p0 * p1)) hx hb hr (fun t ht hW => ⟨⟨(p0 * p1), (), rfl, rfl, by rw [ht]; exact hP, va_K.moved hW.alike hK, hD⟩, hS.F ht⟩) hS.2.2 dX3_times_16

noncomputable def p_X3_isBeyond (b : Bool) : Option Bool := (some b)
theorem hdV_X3_isBeyond : yX3_isBeyond.cls = RX3 ∧ yX3_isBeyond.cls ≠ "java/lang/invoke/MethodHandle" ∧ yX3_isBeyond.cls ≠ "java/lang/invoke/VarHandle" ∧ (parseMethodDescriptor yX3_isBeyond.desc).map (fun d => d.parameters.length) = some 0 := by decide +kernel
set_option maxHeartbeats 4000000 in
set_option maxRecDepth 100000 in
theorem c_X3_isBeyond (l : Launch) (D : va_G) (a : Nat → Nat) (cJ cI cO cB : ClassId) (R : Nat → Nat → Int64) (b : Bool) (pr : Nat → Int32) (tm : Nat → Int32) (cn : Int32) (sm : Nat → Int32) (ac : Int32) (re : Int32) (kn : Int32) (r : Bool) (h : p_X3_isBeyond b = some r) : zMi l yX3_isBeyond wsX3_isBeyond 0 0 0 0 D (zT cJ cI cO cB) [.ref (a 14)] (cW a cJ cI cO R b pr tm cn sm ac re kn) (cW a cJ cI cO R b pr tm cn sm ac re kn) (z01 r) := by
  intro sz
  delta zQi
  refine Met.ofW (cc := cX3_isBeyond) (maxL := 1) (ret := (some .boolean)) (by decide) rfl ?_
  intro p e s m args below meth c s₁ B hml hv
  obtain ⟨rfl, hsz, hP, hK, hD0⟩ := hv
  have hx := B.exec
  have hb := B.bytes
  have hr := B.returns
  have hts := atoms_spec (ws := wsX3_isBeyond) B.pre
  have hown : s.vm.findClass RX3 = some m.cls := findClass_of_methodNamed B.named
  have hlocks := B.notSynchronized
  subst hsz
  have hD := hD0.self (sz := s.heap.size)
  generalize hAe : va_A (cW a cJ cI cO R b pr tm cn sm ac re kn) s.heap.size = A at hD ⊢
  have hA : ∀ q : Nat, s.heap.size ≤ q → A q := fun q h => by rw [← hAe]; exact Or.inr h
  have hS : va_S A s.heap s.heap [] := va_S.rf
  have hl := lv_entry ([.ref (a 14)]) (n := 1) (Nat.le_of_ble_eq_true rfl)
  rw [lg_entry_eq]
  generalize (lg_sl ([.ref (a 14)]) ++ List.replicate (1 - (lg_sl ([.ref (a 14)])).length) Slot.unset).toArray = ls at hl ⊢
  replace hl : lv_has ls 1 [(0, .ref (a 14))] := hl
  have kwX3 : ∀ w ∈ u_ws RX3 TX3 1, w ∈ wsX3_isBeyond := fun w h => List.mem_cons_of_mem _ (List.mem_append_right _ h)
  have kf_9 := hts (.fieldLink RX3 9 "Divisorwork$Reckoning" "beyond" "Z") (zmem 1 rfl)
  replace h : (some b) = some r := h
  obtain ⟨H, hHe⟩ : ∃ H, H = s.heap := ⟨_, rfl⟩
  rw [← hHe] at hP
  replace hS : va_S A s.heap H [] := by rw [hHe]; exact hS
  refine zheap hHe ?_
  refine lv_aload_n hx hb dX3_isBeyond_0 rfl (lv_at hl 0 rfl) ?_
  refine va_get (D := D) (ci := 5) (v := .int (z01 b)) (C := RX3) (T := TX3) (N := 1) hx hb hts kwX3 hown hK hP 14 rfl rfl 0 (by decide) kf_9 (fun _ h9 => h9) rfl dX3_isBeyond_1 ?_
  have h1 := Option.some.inj h
  subst h1
  exact W.zret (v := (z01 b)) hx hb hr (z01_nar b) (fun t ht hW => ⟨⟨(z01 b), (), rfl, rfl, by rw [ht]; exact hP, va_K.moved hW.alike hK, hD⟩, hS.F ht⟩) hS.2.2 dX3_isBeyond_4

noncomputable def p_X2_lay_L1 (F : Nat) (v3_0 : Int32) (k : Int32 → Int32 → Option ((Nat → Int32) × (Nat → Int32) × Int32)) : Nat → Int32 → Int32 → Option ((Nat → Int32) × (Nat → Int32) × Int32)
  | 0, _, _ => none
  | n + 1, v2_1, v4_1 => (if (9 : Int32) ≤ v4_1 then (k v2_1 v4_1) else (zg (v3_0 = 0) (if ¬ (zr v2_1 v3_0) = 0 then (k v2_1 v4_1) else (zg (v3_0 = 0) (p_X2_lay_L1 F v3_0 k n (v2_1 / v3_0) (v4_1 + (1 : Int32)))))))
noncomputable def p_X2_lay_L0 (F : Nat) (k : Int32 → Int32 → (Nat → Int32) → (Nat → Int32) → Int32 → Option ((Nat → Int32) × (Nat → Int32) × Int32)) : Nat → Int32 → Int32 → (Nat → Int32) → (Nat → Int32) → Int32 → Option ((Nat → Int32) × (Nat → Int32) × Int32)
  | 0, _, _, _, _, _ => none
  | n + 1, v2_0, v3_0, prL0, tmL0, cnL0 => (if v2_0 < v3_0 then (k v2_0 v3_0 prL0 tmL0 cnL0) else (p_X2_lay_L1 F v3_0 (fun v2_1 v4_1 => (if v4_1 ≤ 0 then (p_X2_lay_L0 F k n v2_1 (v3_0 + (1 : Int32)) prL0 tmL0 cnL0) else (if cnL0 < 0 then (p_X2_lay_L0 F k n v2_1 (v3_0 + (1 : Int32)) prL0 tmL0 cnL0) else (if (4 : Int32) ≤ cnL0 then (p_X2_lay_L0 F k n v2_1 (v3_0 + (1 : Int32)) prL0 tmL0 cnL0) else (zg (cnL0 < 0 ∨ 4 ≤ cnL0.toNatClampNeg) (zg (cnL0 < 0 ∨ 4 ≤ cnL0.toNatClampNeg) (p_X2_lay_L0 F k n v2_1 (v3_0 + (1 : Int32)) (upd prL0 cnL0.toNatClampNeg v3_0) (upd tmL0 cnL0.toNatClampNeg v4_1) (cnL0 + (1 : Int32))))))))) F v2_0 (0 : Int32)))
noncomputable def p_X2_lay (F : Nat) (pr : Nat → Int32) (tm : Nat → Int32) (p0 : Int32) : Option ((Nat → Int32) × (Nat → Int32) × Int32) := (p_X2_lay_L0 F (fun v2_0 v3_0 prL0 tmL0 cnL0 => (some (prL0, tmL0, cnL0))) F p0 (2 : Int32) pr tm (0 : Int32))
theorem hdV_X2_lay : yX2_lay.cls = RX2 ∧ yX2_lay.cls ≠ "java/lang/invoke/MethodHandle" ∧ yX2_lay.cls ≠ "java/lang/invoke/VarHandle" ∧ (parseMethodDescriptor yX2_lay.desc).map (fun d => d.parameters.length) = some 1 := by decide +kernel
set_option maxHeartbeats 4000000 in
set_option maxRecDepth 100000 in
theorem c_X2_lay (l : Launch) (D : va_G) (a : Nat → Nat) (cJ cI cO cB : ClassId) (R : Nat → Nat → Int64) (b : Bool) (pr : Nat → Int32) (tm : Nat → Int32) (cn : Int32) (sm : Nat → Int32) (ac : Int32) (re : Int32) (kn : Int32) (F : Nat) (p0 : Int32) (pr' : Nat → Int32) (tm' : Nat → Int32) (cn' : Int32) (h : p_X2_lay F pr tm p0 = some (pr', tm', cn')) : zMv l yX2_lay wsX2_lay 0 0 0 0 D (zT cJ cI cO cB) [.ref (a 17), .int p0] (cW a cJ cI cO R b pr tm cn sm ac re kn) (cW a cJ cI cO R b pr' tm' cn' sm ac re kn) := by
  intro sz
  delta zQv
  refine Met.ofW (cc := cX2_lay) (maxL := 5) (ret := none) (by decide) rfl ?_
  intro p e s m args below meth c s₁ B hml hv
  obtain ⟨rfl, hsz, hP, hK, hD0⟩ := hv
  have hx := B.exec
  have hb := B.bytes
  have hr := B.returns
  have hts := atoms_spec (ws := wsX2_lay) B.pre
  have hown : s.vm.findClass RX2 = some m.cls := findClass_of_methodNamed B.named
  have hlocks := B.notSynchronized
  subst hsz
  have hD := hD0.self (sz := s.heap.size)
  generalize hAe : va_A (cW a cJ cI cO R b pr tm cn sm ac re kn) s.heap.size = A at hD ⊢
  have hA : ∀ q : Nat, s.heap.size ≤ q → A q := fun q h => by rw [← hAe]; exact Or.inr h
  have hS : va_S A s.heap s.heap [] := va_S.rf
  have hl := lv_entry ([.ref (a 17), .int p0]) (n := 5) (Nat.le_of_ble_eq_true rfl)
  rw [lg_entry_eq]
  generalize (lg_sl ([.ref (a 17), .int p0]) ++ List.replicate (5 - (lg_sl ([.ref (a 17), .int p0])).length) Slot.unset).toArray = ls at hl ⊢
  replace hl : lv_has ls 5 [(0, .ref (a 17)), (1, .int p0)] := hl
  have kwX2 : ∀ w ∈ u_ws RX2 TX2 3, w ∈ wsX2_lay := fun w h => List.mem_cons_of_mem _ (List.mem_append_right _ h)
  have kf_16 := hts (.fieldLink RX2 16 "Divisorwork$Powers" "count" "I") (zmem 1 rfl)
  have kf_13 := hts (.fieldLink RX2 13 "Divisorwork$Powers" "times" "[I") (zmem 3 rfl)
  have kf_9 := hts (.fieldLink RX2 9 "Divisorwork$Powers" "primes" "[I") (zmem 2 rfl)
  replace h : (p_X2_lay_L0 F (fun v2_0 v3_0 prL0 tmL0 cnL0 => (some (prL0, tmL0, cnL0))) F p0 (2 : Int32) pr tm (0 : Int32)) = some (pr', tm', cn') := h
  refine zabs (fun G hG hGW => ?_)
  obtain ⟨H, hHe⟩ : ∃ H, H = s.heap := ⟨_, rfl⟩
  rw [← hHe] at hP
  replace hS : va_S A s.heap H [] := by rw [hHe]; exact hS
  refine zheap hHe ?_
  refine lv_aload_n hx hb dX2_lay_0 rfl (lv_at hl 0 rfl) ?_
  refine lv_iconst (v := (0 : Int32)) hx hb dX2_lay_1 (by decide) ?_
  refine va_put (D := D) (ci := 4) (v := .int (0 : Int32)) (ty := .int) (C := RX2) (T := TX2) (N := 3) hx hb hts kwX2 tyX2 tyX2_ok nmX2 hown hK hP hD hS 17 rfl rfl 2 (by decide) kf_16 (fun _ h9 => h9) rfl rfl rfl rfl (Nat.le_of_ble_eq_true rfl) dX2_lay_2 (fun H locs hP hD hS => ?_)
  replace hP : va_P D vwCl (cW a cJ cI cO R b pr tm (0 : Int32) sm ac re kn) H := hP
  replace hD : va_D A (cW a cJ cI cO R b pr tm (0 : Int32) sm ac re kn) := hD
  refine lv_iload_n hx hb dX2_lay_5 rfl (lv_at hl 1 rfl) ?_
  refine lv_istore_n (lv' := [(2, .int p0), (0, .ref (a 17)), (1, .int p0)]) hx hb dX2_lay_6 rfl hl (by decide) rfl (fun ls hl => ?_)
  refine lv_iconst (v := (2 : Int32)) hx hb dX2_lay_7 (by decide) ?_
  refine lv_istore_n (lv' := [(3, .int (2 : Int32)), (2, .int p0), (0, .ref (a 17)), (1, .int p0)]) hx hb dX2_lay_8 rfl hl (by decide) rfl (fun ls hl => ?_)
  have X0 : ∀ (v2_0 : Int32) (v3_0 : Int32) (prL0 : Nat → Int32) (tmL0 : Nat → Int32) (cnL0 : Int32) (H : Heap) (locs : List Loc) (ls : Array Slot), va_P D vwCl (cW a cJ cI cO R b prL0 tmL0 cnL0 sm ac re kn) H → va_D A (cW a cJ cI cO R b prL0 tmL0 cnL0 sm ac re kn) → va_S A s.heap H locs → lv_has ls 5 [(0, .ref (a 17)), (1, .int p0), (2, .int v2_0), (3, .int v3_0)] → (some (prL0, tmL0, cnL0)) = some (pr', tm', cn') → G H locs 0 0 (F0 m 97 ls []) := by
    intro v2_0 v3_0 prL0 tmL0 cnL0 H locs ls hP hD hS hl h
    refine hG _ _ _ _ _ ?_
    have g0 := Option.some.inj h
    obtain ⟨h1, g1⟩ := Prod.mk.inj g0
    obtain ⟨h2, g2⟩ := Prod.mk.inj g1
    subst h1
    subst h2
    subst g2
    exact W.vret hx hb hr (fun t ht hW => ⟨⟨(), rfl, trivial, by rw [ht]; exact hP, va_K.moved hW.alike hK, hD⟩, hS.F ht⟩) hS.2.2 dX2_lay_97
  have L0 : ∀ (K0 : Int32 → Int32 → (Nat → Int32) → (Nat → Int32) → Int32 → Option ((Nat → Int32) × (Nat → Int32) × Int32)) (HX0 : ∀ (v2_0 : Int32) (v3_0 : Int32) (prL0 : Nat → Int32) (tmL0 : Nat → Int32) (cnL0 : Int32) (H : Heap) (locs : List Loc) (ls : Array Slot), va_P D vwCl (cW a cJ cI cO R b prL0 tmL0 cnL0 sm ac re kn) H → va_D A (cW a cJ cI cO R b prL0 tmL0 cnL0 sm ac re kn) → va_S A s.heap H locs → lv_has ls 5 [(0, .ref (a 17)), (1, .int p0), (2, .int v2_0), (3, .int v3_0)] → K0 v2_0 v3_0 prL0 tmL0 cnL0 = some (pr', tm', cn') → G H locs 0 0 (F0 m 97 ls [])) (fu0 : Nat) (v2_0 : Int32) (v3_0 : Int32) (prL0 : Nat → Int32) (tmL0 : Nat → Int32) (cnL0 : Int32) (H : Heap) (locs : List Loc) (ls : Array Slot), va_P D vwCl (cW a cJ cI cO R b prL0 tmL0 cnL0 sm ac re kn) H → va_D A (cW a cJ cI cO R b prL0 tmL0 cnL0 sm ac re kn) → va_S A s.heap H locs → lv_has ls 5 [(0, .ref (a 17)), (1, .int p0), (2, .int v2_0), (3, .int v3_0)] → p_X2_lay_L0 F K0 fu0 v2_0 v3_0 prL0 tmL0 cnL0 = some (pr', tm', cn') → G H locs 0 0 (F0 m 9 ls []) := by
    intro K0 HX0 fu0
    induction fu0 with
    | zero =>
      intro v2_0 v3_0 prL0 tmL0 cnL0 H locs ls hP hD hS hl h
      exact (zno h).elim
    | succ fu0 ih0 =>
      intro v2_0 v3_0 prL0 tmL0 cnL0 H locs ls hP hD hS hl h
      refine hG _ _ _ _ _ ?_
      unfold p_X2_lay_L0 at h
      refine lv_iload_n hx hb dX2_lay_9 rfl (lv_at hl 3 rfl) ?_
      refine lv_iload_n hx hb dX2_lay_10 rfl (lv_at hl 2 rfl) ?_
      refine lv_icmp_gt (tgt := 97) hx hb dX2_lay_11 (by decide) (fun c11 => ?_) (fun c11 => ?_)
      · replace h := zif_t h c11
        exact hGW _ _ _ _ _ (HX0 v2_0 v3_0 prL0 tmL0 cnL0 _ _ ls hP hD hS (lv_sub hl [0, 1, 2, 3] rfl) h)
      · replace h := zif_f h c11
        refine lv_iconst (v := (0 : Int32)) hx hb dX2_lay_14 (by decide) ?_
        refine lv_istore (lv' := [(4, .int (0 : Int32)), (0, .ref (a 17)), (1, .int p0), (2, .int v2_0), (3, .int v3_0)]) hx hb dX2_lay_15 hl (by decide) rfl (fun ls hl => ?_)
        have X1 : ∀ (v2_1 : Int32) (v4_1 : Int32) (H : Heap) (locs : List Loc) (ls : Array Slot), va_P D vwCl (cW a cJ cI cO R b prL0 tmL0 cnL0 sm ac re kn) H → va_D A (cW a cJ cI cO R b prL0 tmL0 cnL0 sm ac re kn) → va_S A s.heap H locs → lv_has ls 5 [(0, .ref (a 17)), (1, .int p0), (2, .int v2_1), (3, .int v3_0), (4, .int v4_1)] → (if v4_1 ≤ 0 then (p_X2_lay_L0 F K0 fu0 v2_1 (v3_0 + (1 : Int32)) prL0 tmL0 cnL0) else (if cnL0 < 0 then (p_X2_lay_L0 F K0 fu0 v2_1 (v3_0 + (1 : Int32)) prL0 tmL0 cnL0) else (if (4 : Int32) ≤ cnL0 then (p_X2_lay_L0 F K0 fu0 v2_1 (v3_0 + (1 : Int32)) prL0 tmL0 cnL0) else (zg (cnL0 < 0 ∨ 4 ≤ cnL0.toNatClampNeg) (zg (cnL0 < 0 ∨ 4 ≤ cnL0.toNatClampNeg) (p_X2_lay_L0 F K0 fu0 v2_1 (v3_0 + (1 : Int32)) (upd prL0 cnL0.toNatClampNeg v3_0) (upd tmL0 cnL0.toNatClampNeg v4_1) (cnL0 + (1 : Int32)))))))) = some (pr', tm', cn') → G H locs 0 0 (F0 m 40 ls []) := by
          intro v2_1 v4_1 H locs ls hP hD hS hl h
          refine hG _ _ _ _ _ ?_
          refine lv_iload hx hb dX2_lay_40 (lv_at hl 4 rfl) ?_
          refine lv_if_le (tgt := 91) hx hb dX2_lay_42 (by decide) (fun c42 => ?_) (fun c42 => ?_)
          · replace h := zif_t h c42
            refine lv_iinc (v := (v3_0 + (1 : Int32))) (lv' := [(3, .int (v3_0 + (1 : Int32))), (0, .ref (a 17)), (1, .int p0), (2, .int v2_1), (4, .int v4_1)]) hx hb dX2_lay_91 hl (k := 3) rfl rfl (by decide) rfl (fun ls hl => ?_)
            refine lv_goto (tgt := 9) hx hb dX2_lay_94 (by decide) ?_
            exact hGW _ _ _ _ _ (ih0 v2_1 (v3_0 + (1 : Int32)) prL0 tmL0 cnL0 _ _ ls hP hD hS (lv_sub hl [1, 2, 3, 0] rfl) h)
          · replace h := zif_f h c42
            refine lv_aload_n hx hb dX2_lay_45 rfl (lv_at hl 0 rfl) ?_
            refine va_get (D := D) (ci := 4) (v := .int cnL0) (C := RX2) (T := TX2) (N := 3) hx hb hts kwX2 hown hK hP 17 rfl rfl 2 (by decide) kf_16 (fun _ h9 => h9) rfl dX2_lay_46 ?_
            refine lv_if_lt (tgt := 91) hx hb dX2_lay_49 (by decide) (fun c49 => ?_) (fun c49 => ?_)
            · replace h := zif_t h c49
              refine lv_iinc (v := (v3_0 + (1 : Int32))) (lv' := [(3, .int (v3_0 + (1 : Int32))), (0, .ref (a 17)), (1, .int p0), (2, .int v2_1), (4, .int v4_1)]) hx hb dX2_lay_91 hl (k := 3) rfl rfl (by decide) rfl (fun ls hl => ?_)
              refine lv_goto (tgt := 9) hx hb dX2_lay_94 (by decide) ?_
              exact hGW _ _ _ _ _ (ih0 v2_1 (v3_0 + (1 : Int32)) prL0 tmL0 cnL0 _ _ ls hP hD hS (lv_sub hl [1, 2, 3, 0] rfl) h)
            · replace h := zif_f h c49
              refine lv_aload_n hx hb dX2_lay_52 rfl (lv_at hl 0 rfl) ?_
              refine va_get (D := D) (ci := 4) (v := .int cnL0) (C := RX2) (T := TX2) (N := 3) hx hb hts kwX2 hown hK hP 17 rfl rfl 2 (by decide) kf_16 (fun _ h9 => h9) rfl dX2_lay_53 ?_
              refine lv_iconst (v := (4 : Int32)) hx hb dX2_lay_56 (by decide) ?_
              refine lv_icmp_ge (tgt := 91) hx hb dX2_lay_57 (by decide) (fun c57 => ?_) (fun c57 => ?_)
              · replace h := zif_t h c57
                refine lv_iinc (v := (v3_0 + (1 : Int32))) (lv' := [(3, .int (v3_0 + (1 : Int32))), (0, .ref (a 17)), (1, .int p0), (2, .int v2_1), (4, .int v4_1)]) hx hb dX2_lay_91 hl (k := 3) rfl rfl (by decide) rfl (fun ls hl => ?_)
                refine lv_goto (tgt := 9) hx hb dX2_lay_94 (by decide) ?_
                exact hGW _ _ _ _ _ (ih0 v2_1 (v3_0 + (1 : Int32)) prL0 tmL0 cnL0 _ _ ls hP hD hS (lv_sub hl [1, 2, 3, 0] rfl) h)
              · replace h := zif_f h c57
                refine lv_aload_n hx hb dX2_lay_60 rfl (lv_at hl 0 rfl) ?_
                refine va_get (D := D) (ci := 4) (v := .ref (a 18)) (C := RX2) (T := TX2) (N := 3) hx hb hts kwX2 hown hK hP 17 rfl rfl 0 (by decide) kf_9 (fun _ h9 => h9) rfl dX2_lay_61 ?_
                refine lv_aload_n hx hb dX2_lay_64 rfl (lv_at hl 0 rfl) ?_
                refine va_get (D := D) (ci := 4) (v := .int cnL0) (C := RX2) (T := TX2) (N := 3) hx hb hts kwX2 hown hK hP 17 rfl rfl 2 (by decide) kf_16 (fun _ h9 => h9) rfl dX2_lay_65 ?_
                refine lv_iload_n hx hb dX2_lay_68 rfl (lv_at hl 3 rfl) ?_
                obtain ⟨z69, h⟩ := zg_some h
                refine va_iast hx hb hK hP hD hS 18 1 rfl rfl z69 dX2_lay_69 (fun H locs hP hD hS => ?_)
                replace hP : va_P D vwCl (cW a cJ cI cO R b (upd prL0 cnL0.toNatClampNeg v3_0) tmL0 cnL0 sm ac re kn) H := hP
                replace hD : va_D A (cW a cJ cI cO R b (upd prL0 cnL0.toNatClampNeg v3_0) tmL0 cnL0 sm ac re kn) := hD
                refine lv_aload_n hx hb dX2_lay_70 rfl (lv_at hl 0 rfl) ?_
                refine va_get (D := D) (ci := 4) (v := .ref (a 19)) (C := RX2) (T := TX2) (N := 3) hx hb hts kwX2 hown hK hP 17 rfl rfl 1 (by decide) kf_13 (fun _ h9 => h9) rfl dX2_lay_71 ?_
                refine lv_aload_n hx hb dX2_lay_74 rfl (lv_at hl 0 rfl) ?_
                refine va_get (D := D) (ci := 4) (v := .int cnL0) (C := RX2) (T := TX2) (N := 3) hx hb hts kwX2 hown hK hP 17 rfl rfl 2 (by decide) kf_16 (fun _ h9 => h9) rfl dX2_lay_75 ?_
                refine lv_iload hx hb dX2_lay_78 (lv_at hl 4 rfl) ?_
                obtain ⟨z80, h⟩ := zg_some h
                refine va_iast hx hb hK hP hD hS 19 1 rfl rfl z80 dX2_lay_80 (fun H locs hP hD hS => ?_)
                replace hP : va_P D vwCl (cW a cJ cI cO R b (upd prL0 cnL0.toNatClampNeg v3_0) (upd tmL0 cnL0.toNatClampNeg v4_1) cnL0 sm ac re kn) H := hP
                replace hD : va_D A (cW a cJ cI cO R b (upd prL0 cnL0.toNatClampNeg v3_0) (upd tmL0 cnL0.toNatClampNeg v4_1) cnL0 sm ac re kn) := hD
                refine lv_aload_n hx hb dX2_lay_81 rfl (lv_at hl 0 rfl) ?_
                refine lv_dup hx hb dX2_lay_82 rfl ?_
                refine va_get (D := D) (ci := 4) (v := .int cnL0) (C := RX2) (T := TX2) (N := 3) hx hb hts kwX2 hown hK hP 17 rfl rfl 2 (by decide) kf_16 (fun _ h9 => h9) rfl dX2_lay_83 ?_
                refine lv_iconst (v := (1 : Int32)) hx hb dX2_lay_86 (by decide) ?_
                refine lv_iadd hx hb dX2_lay_87 ?_
                refine va_put (D := D) (ci := 4) (v := .int (cnL0 + (1 : Int32))) (ty := .int) (C := RX2) (T := TX2) (N := 3) hx hb hts kwX2 tyX2 tyX2_ok nmX2 hown hK hP hD hS 17 rfl rfl 2 (by decide) kf_16 (fun _ h9 => h9) rfl rfl rfl rfl (Nat.le_of_ble_eq_true rfl) dX2_lay_88 (fun H locs hP hD hS => ?_)
                replace hP : va_P D vwCl (cW a cJ cI cO R b (upd prL0 cnL0.toNatClampNeg v3_0) (upd tmL0 cnL0.toNatClampNeg v4_1) (cnL0 + (1 : Int32)) sm ac re kn) H := hP
                replace hD : va_D A (cW a cJ cI cO R b (upd prL0 cnL0.toNatClampNeg v3_0) (upd tmL0 cnL0.toNatClampNeg v4_1) (cnL0 + (1 : Int32)) sm ac re kn) := hD
                refine lv_iinc (v := (v3_0 + (1 : Int32))) (lv' := [(3, .int (v3_0 + (1 : Int32))), (0, .ref (a 17)), (1, .int p0), (2, .int v2_1), (4, .int v4_1)]) hx hb dX2_lay_91 hl (k := 3) rfl rfl (by decide) rfl (fun ls hl => ?_)
                refine lv_goto (tgt := 9) hx hb dX2_lay_94 (by decide) ?_
                exact hGW _ _ _ _ _ (ih0 v2_1 (v3_0 + (1 : Int32)) (upd prL0 cnL0.toNatClampNeg v3_0) (upd tmL0 cnL0.toNatClampNeg v4_1) (cnL0 + (1 : Int32)) _ _ ls hP hD hS (lv_sub hl [1, 2, 3, 0] rfl) h)
        have L1 : ∀ (K1 : Int32 → Int32 → Option ((Nat → Int32) × (Nat → Int32) × Int32)) (HX1 : ∀ (v2_1 : Int32) (v4_1 : Int32) (H : Heap) (locs : List Loc) (ls : Array Slot), va_P D vwCl (cW a cJ cI cO R b prL0 tmL0 cnL0 sm ac re kn) H → va_D A (cW a cJ cI cO R b prL0 tmL0 cnL0 sm ac re kn) → va_S A s.heap H locs → lv_has ls 5 [(0, .ref (a 17)), (1, .int p0), (2, .int v2_1), (3, .int v3_0), (4, .int v4_1)] → K1 v2_1 v4_1 = some (pr', tm', cn') → G H locs 0 0 (F0 m 40 ls [])) (fu1 : Nat) (v2_1 : Int32) (v4_1 : Int32) (H : Heap) (locs : List Loc) (ls : Array Slot), va_P D vwCl (cW a cJ cI cO R b prL0 tmL0 cnL0 sm ac re kn) H → va_D A (cW a cJ cI cO R b prL0 tmL0 cnL0 sm ac re kn) → va_S A s.heap H locs → lv_has ls 5 [(0, .ref (a 17)), (1, .int p0), (2, .int v2_1), (3, .int v3_0), (4, .int v4_1)] → p_X2_lay_L1 F v3_0 K1 fu1 v2_1 v4_1 = some (pr', tm', cn') → G H locs 0 0 (F0 m 17 ls []) := by
          intro K1 HX1 fu1
          induction fu1 with
          | zero =>
            intro v2_1 v4_1 H locs ls hP hD hS hl h
            exact (zno h).elim
          | succ fu1 ih1 =>
            intro v2_1 v4_1 H locs ls hP hD hS hl h
            refine hG _ _ _ _ _ ?_
            unfold p_X2_lay_L1 at h
            refine lv_iload hx hb dX2_lay_17 (lv_at hl 4 rfl) ?_
            refine lv_bipush (v := (9 : Int32)) hx hb dX2_lay_19 (by decide) ?_
            refine lv_icmp_ge (tgt := 40) hx hb dX2_lay_21 (by decide) (fun c21 => ?_) (fun c21 => ?_)
            · replace h := zif_t h c21
              exact hGW _ _ _ _ _ (HX1 v2_1 v4_1 _ _ ls hP hD hS (lv_sub hl [0, 1, 2, 3, 4] rfl) h)
            · replace h := zif_f h c21
              refine lv_iload_n hx hb dX2_lay_24 rfl (lv_at hl 2 rfl) ?_
              refine lv_iload_n hx hb dX2_lay_25 rfl (lv_at hl 3 rfl) ?_
              obtain ⟨z26, h⟩ := zg_some h
              refine lv_irem hx hb dX2_lay_26 z26 ?_
              refine lv_if_ne (tgt := 40) hx hb dX2_lay_27 (by decide) (fun c27 => ?_) (fun c27 => ?_)
              · replace h := zif_t h c27
                exact hGW _ _ _ _ _ (HX1 v2_1 v4_1 _ _ ls hP hD hS (lv_sub hl [0, 1, 2, 3, 4] rfl) h)
              · replace h := zif_fn h c27
                refine lv_iload_n hx hb dX2_lay_30 rfl (lv_at hl 2 rfl) ?_
                refine lv_iload_n hx hb dX2_lay_31 rfl (lv_at hl 3 rfl) ?_
                obtain ⟨z32, h⟩ := zg_some h
                refine lv_idiv hx hb dX2_lay_32 z32 ?_
                refine lv_istore_n (lv' := [(2, .int (v2_1 / v3_0)), (0, .ref (a 17)), (1, .int p0), (3, .int v3_0), (4, .int v4_1)]) hx hb dX2_lay_33 rfl hl (by decide) rfl (fun ls hl => ?_)
                refine lv_iinc (v := (v4_1 + (1 : Int32))) (lv' := [(4, .int (v4_1 + (1 : Int32))), (2, .int (v2_1 / v3_0)), (0, .ref (a 17)), (1, .int p0), (3, .int v3_0)]) hx hb dX2_lay_34 hl (k := 4) rfl rfl (by decide) rfl (fun ls hl => ?_)
                refine lv_goto (tgt := 17) hx hb dX2_lay_37 (by decide) ?_
                exact hGW _ _ _ _ _ (ih1 (v2_1 / v3_0) (v4_1 + (1 : Int32)) _ _ ls hP hD hS (lv_sub hl [2, 3, 1, 4, 0] rfl) h)
        exact hGW _ _ _ _ _ (L1 _ X1 F v2_0 (0 : Int32) _ _ ls hP hD hS (lv_sub hl [1, 2, 3, 4, 0] rfl) h)
  exact hGW _ _ _ _ _ (L0 _ X0 F p0 (2 : Int32) pr tm (0 : Int32) _ _ ls hP hD hS (lv_sub hl [2, 3, 1, 0] rfl) h)

noncomputable def p_X2_count (cn : Int32) : Option Int32 := (some cn)
theorem hdV_X2_count : yX2_count.cls = RX2 ∧ yX2_count.cls ≠ "java/lang/invoke/MethodHandle" ∧ yX2_count.cls ≠ "java/lang/invoke/VarHandle" ∧ (parseMethodDescriptor yX2_count.desc).map (fun d => d.parameters.length) = some 0 := by decide +kernel
set_option maxHeartbeats 4000000 in
set_option maxRecDepth 100000 in
theorem c_X2_count (l : Launch) (D : va_G) (a : Nat → Nat) (cJ cI cO cB : ClassId) (R : Nat → Nat → Int64) (b : Bool) (pr : Nat → Int32) (tm : Nat → Int32) (cn : Int32) (sm : Nat → Int32) (ac : Int32) (re : Int32) (kn : Int32) (r : Int32) (h : p_X2_count cn = some r) : zMi l yX2_count wsX2_count 0 0 0 0 D (zT cJ cI cO cB) [.ref (a 17)] (cW a cJ cI cO R b pr tm cn sm ac re kn) (cW a cJ cI cO R b pr tm cn sm ac re kn) r := by
  intro sz
  delta zQi
  refine Met.ofW (cc := cX2_count) (maxL := 1) (ret := (some .int)) (by decide) rfl ?_
  intro p e s m args below meth c s₁ B hml hv
  obtain ⟨rfl, hsz, hP, hK, hD0⟩ := hv
  have hx := B.exec
  have hb := B.bytes
  have hr := B.returns
  have hts := atoms_spec (ws := wsX2_count) B.pre
  have hown : s.vm.findClass RX2 = some m.cls := findClass_of_methodNamed B.named
  have hlocks := B.notSynchronized
  subst hsz
  have hD := hD0.self (sz := s.heap.size)
  generalize hAe : va_A (cW a cJ cI cO R b pr tm cn sm ac re kn) s.heap.size = A at hD ⊢
  have hA : ∀ q : Nat, s.heap.size ≤ q → A q := fun q h => by rw [← hAe]; exact Or.inr h
  have hS : va_S A s.heap s.heap [] := va_S.rf
  have hl := lv_entry ([.ref (a 17)]) (n := 1) (Nat.le_of_ble_eq_true rfl)
  rw [lg_entry_eq]
  generalize (lg_sl ([.ref (a 17)]) ++ List.replicate (1 - (lg_sl ([.ref (a 17)])).length) Slot.unset).toArray = ls at hl ⊢
  replace hl : lv_has ls 1 [(0, .ref (a 17))] := hl
  have kwX2 : ∀ w ∈ u_ws RX2 TX2 3, w ∈ wsX2_count := fun w h => List.mem_cons_of_mem _ (List.mem_append_right _ h)
  have kf_16 := hts (.fieldLink RX2 16 "Divisorwork$Powers" "count" "I") (zmem 1 rfl)
  replace h : (some cn) = some r := h
  obtain ⟨H, hHe⟩ : ∃ H, H = s.heap := ⟨_, rfl⟩
  rw [← hHe] at hP
  replace hS : va_S A s.heap H [] := by rw [hHe]; exact hS
  refine zheap hHe ?_
  refine lv_aload_n hx hb dX2_count_0 rfl (lv_at hl 0 rfl) ?_
  refine va_get (D := D) (ci := 4) (v := .int cn) (C := RX2) (T := TX2) (N := 3) hx hb hts kwX2 hown hK hP 17 rfl rfl 2 (by decide) kf_16 (fun _ h9 => h9) rfl dX2_count_1 ?_
  have h1 := Option.some.inj h
  subst h1
  exact W.iret (v := cn) hx hb hr (fun t ht hW => ⟨⟨cn, (), rfl, rfl, by rw [ht]; exact hP, va_K.moved hW.alike hK, hD⟩, hS.F ht⟩) hS.2.2 dX2_count_4

noncomputable def p_X2_timesAt (tm : Nat → Int32) (p0 : Int32) : Option Int32 := (if p0 < 0 then (some (0 : Int32)) else (if (4 : Int32) ≤ p0 then (some (0 : Int32)) else (zg (p0 < 0 ∨ 4 ≤ p0.toNatClampNeg) (some (tm p0.toNatClampNeg)))))
theorem hdV_X2_timesAt : yX2_timesAt.cls = RX2 ∧ yX2_timesAt.cls ≠ "java/lang/invoke/MethodHandle" ∧ yX2_timesAt.cls ≠ "java/lang/invoke/VarHandle" ∧ (parseMethodDescriptor yX2_timesAt.desc).map (fun d => d.parameters.length) = some 1 := by decide +kernel
set_option maxHeartbeats 4000000 in
set_option maxRecDepth 100000 in
theorem c_X2_timesAt (l : Launch) (D : va_G) (a : Nat → Nat) (cJ cI cO cB : ClassId) (R : Nat → Nat → Int64) (b : Bool) (pr : Nat → Int32) (tm : Nat → Int32) (cn : Int32) (sm : Nat → Int32) (ac : Int32) (re : Int32) (kn : Int32) (p0 : Int32) (r : Int32) (h : p_X2_timesAt tm p0 = some r) : zMi l yX2_timesAt wsX2_timesAt 0 0 0 0 D (zT cJ cI cO cB) [.ref (a 17), .int p0] (cW a cJ cI cO R b pr tm cn sm ac re kn) (cW a cJ cI cO R b pr tm cn sm ac re kn) r := by
  intro sz
  delta zQi
  refine Met.ofW (cc := cX2_timesAt) (maxL := 2) (ret := (some .int)) (by decide) rfl ?_
  intro p e s m args below meth c s₁ B hml hv
  obtain ⟨rfl, hsz, hP, hK, hD0⟩ := hv
  have hx := B.exec
  have hb := B.bytes
  have hr := B.returns
  have hts := atoms_spec (ws := wsX2_timesAt) B.pre
  have hown : s.vm.findClass RX2 = some m.cls := findClass_of_methodNamed B.named
  have hlocks := B.notSynchronized
  subst hsz
  have hD := hD0.self (sz := s.heap.size)
  generalize hAe : va_A (cW a cJ cI cO R b pr tm cn sm ac re kn) s.heap.size = A at hD ⊢
  have hA : ∀ q : Nat, s.heap.size ≤ q → A q := fun q h => by rw [← hAe]; exact Or.inr h
  have hS : va_S A s.heap s.heap [] := va_S.rf
  have hl := lv_entry ([.ref (a 17), .int p0]) (n := 2) (Nat.le_of_ble_eq_true rfl)
  rw [lg_entry_eq]
  generalize (lg_sl ([.ref (a 17), .int p0]) ++ List.replicate (2 - (lg_sl ([.ref (a 17), .int p0])).length) Slot.unset).toArray = ls at hl ⊢
  replace hl : lv_has ls 2 [(0, .ref (a 17)), (1, .int p0)] := hl
  have kwX2 : ∀ w ∈ u_ws RX2 TX2 3, w ∈ wsX2_timesAt := fun w h => List.mem_cons_of_mem _ (List.mem_append_right _ h)
  have kf_13 := hts (.fieldLink RX2 13 "Divisorwork$Powers" "times" "[I") (zmem 1 rfl)
  replace h : (if p0 < 0 then (some (0 : Int32)) else (if (4 : Int32) ≤ p0 then (some (0 : Int32)) else (zg (p0 < 0 ∨ 4 ≤ p0.toNatClampNeg) (some (tm p0.toNatClampNeg))))) = some r := h
  obtain ⟨H, hHe⟩ : ∃ H, H = s.heap := ⟨_, rfl⟩
  rw [← hHe] at hP
  replace hS : va_S A s.heap H [] := by rw [hHe]; exact hS
  refine zheap hHe ?_
  refine lv_iload_n hx hb dX2_timesAt_0 rfl (lv_at hl 1 rfl) ?_
  refine lv_if_lt (tgt := 18) hx hb dX2_timesAt_1 (by decide) (fun c1 => ?_) (fun c1 => ?_)
  · replace h := zif_t h c1
    refine lv_iconst (v := (0 : Int32)) hx hb dX2_timesAt_18 (by decide) ?_
    have h1 := Option.some.inj h
    subst h1
    exact W.iret (v := (0 : Int32)) hx hb hr (fun t ht hW => ⟨⟨(0 : Int32), (), rfl, rfl, by rw [ht]; exact hP, va_K.moved hW.alike hK, hD⟩, hS.F ht⟩) hS.2.2 dX2_timesAt_19
  · replace h := zif_f h c1
    refine lv_iload_n hx hb dX2_timesAt_4 rfl (lv_at hl 1 rfl) ?_
    refine lv_iconst (v := (4 : Int32)) hx hb dX2_timesAt_5 (by decide) ?_
    refine lv_icmp_ge (tgt := 18) hx hb dX2_timesAt_6 (by decide) (fun c6 => ?_) (fun c6 => ?_)
    · replace h := zif_t h c6
      refine lv_iconst (v := (0 : Int32)) hx hb dX2_timesAt_18 (by decide) ?_
      have h1 := Option.some.inj h
      subst h1
      exact W.iret (v := (0 : Int32)) hx hb hr (fun t ht hW => ⟨⟨(0 : Int32), (), rfl, rfl, by rw [ht]; exact hP, va_K.moved hW.alike hK, hD⟩, hS.F ht⟩) hS.2.2 dX2_timesAt_19
    · replace h := zif_f h c6
      refine lv_aload_n hx hb dX2_timesAt_9 rfl (lv_at hl 0 rfl) ?_
      refine va_get (D := D) (ci := 4) (v := .ref (a 19)) (C := RX2) (T := TX2) (N := 3) hx hb hts kwX2 hown hK hP 17 rfl rfl 1 (by decide) kf_13 (fun _ h9 => h9) rfl dX2_timesAt_10 ?_
      refine lv_iload_n hx hb dX2_timesAt_13 rfl (lv_at hl 1 rfl) ?_
      obtain ⟨z14, h⟩ := zg_some h
      refine va_iald hx hb hK hP 19 1 rfl rfl z14 dX2_timesAt_14 ?_
      refine lv_goto (tgt := 19) hx hb dX2_timesAt_15 (by decide) ?_
      have h1 := Option.some.inj h
      subst h1
      exact W.iret (v := (tm p0.toNatClampNeg)) hx hb hr (fun t ht hW => ⟨⟨(tm p0.toNatClampNeg), (), rfl, rfl, by rw [ht]; exact hP, va_K.moved hW.alike hK, hD⟩, hS.F ht⟩) hS.2.2 dX2_timesAt_19

noncomputable def p_X2_primeAt (pr : Nat → Int32) (p0 : Int32) : Option Int32 := (if p0 < 0 then (some (0 : Int32)) else (if (4 : Int32) ≤ p0 then (some (0 : Int32)) else (zg (p0 < 0 ∨ 4 ≤ p0.toNatClampNeg) (some (pr p0.toNatClampNeg)))))
theorem hdV_X2_primeAt : yX2_primeAt.cls = RX2 ∧ yX2_primeAt.cls ≠ "java/lang/invoke/MethodHandle" ∧ yX2_primeAt.cls ≠ "java/lang/invoke/VarHandle" ∧ (parseMethodDescriptor yX2_primeAt.desc).map (fun d => d.parameters.length) = some 1 := by decide +kernel
set_option maxHeartbeats 4000000 in
set_option maxRecDepth 100000 in
theorem c_X2_primeAt (l : Launch) (D : va_G) (a : Nat → Nat) (cJ cI cO cB : ClassId) (R : Nat → Nat → Int64) (b : Bool) (pr : Nat → Int32) (tm : Nat → Int32) (cn : Int32) (sm : Nat → Int32) (ac : Int32) (re : Int32) (kn : Int32) (p0 : Int32) (r : Int32) (h : p_X2_primeAt pr p0 = some r) : zMi l yX2_primeAt wsX2_primeAt 0 0 0 0 D (zT cJ cI cO cB) [.ref (a 17), .int p0] (cW a cJ cI cO R b pr tm cn sm ac re kn) (cW a cJ cI cO R b pr tm cn sm ac re kn) r := by
  intro sz
  delta zQi
  refine Met.ofW (cc := cX2_primeAt) (maxL := 2) (ret := (some .int)) (by decide) rfl ?_
  intro p e s m args below meth c s₁ B hml hv
  obtain ⟨rfl, hsz, hP, hK, hD0⟩ := hv
  have hx := B.exec
  have hb := B.bytes
  have hr := B.returns
  have hts := atoms_spec (ws := wsX2_primeAt) B.pre
  have hown : s.vm.findClass RX2 = some m.cls := findClass_of_methodNamed B.named
  have hlocks := B.notSynchronized
  subst hsz
  have hD := hD0.self (sz := s.heap.size)
  generalize hAe : va_A (cW a cJ cI cO R b pr tm cn sm ac re kn) s.heap.size = A at hD ⊢
  have hA : ∀ q : Nat, s.heap.size ≤ q → A q := fun q h => by rw [← hAe]; exact Or.inr h
  have hS : va_S A s.heap s.heap [] := va_S.rf
  have hl := lv_entry ([.ref (a 17), .int p0]) (n := 2) (Nat.le_of_ble_eq_true rfl)
  rw [lg_entry_eq]
  generalize (lg_sl ([.ref (a 17), .int p0]) ++ List.replicate (2 - (lg_sl ([.ref (a 17), .int p0])).length) Slot.unset).toArray = ls at hl ⊢
  replace hl : lv_has ls 2 [(0, .ref (a 17)), (1, .int p0)] := hl
  have kwX2 : ∀ w ∈ u_ws RX2 TX2 3, w ∈ wsX2_primeAt := fun w h => List.mem_cons_of_mem _ (List.mem_append_right _ h)
  have kf_9 := hts (.fieldLink RX2 9 "Divisorwork$Powers" "primes" "[I") (zmem 1 rfl)
  replace h : (if p0 < 0 then (some (0 : Int32)) else (if (4 : Int32) ≤ p0 then (some (0 : Int32)) else (zg (p0 < 0 ∨ 4 ≤ p0.toNatClampNeg) (some (pr p0.toNatClampNeg))))) = some r := h
  obtain ⟨H, hHe⟩ : ∃ H, H = s.heap := ⟨_, rfl⟩
  rw [← hHe] at hP
  replace hS : va_S A s.heap H [] := by rw [hHe]; exact hS
  refine zheap hHe ?_
  refine lv_iload_n hx hb dX2_primeAt_0 rfl (lv_at hl 1 rfl) ?_
  refine lv_if_lt (tgt := 18) hx hb dX2_primeAt_1 (by decide) (fun c1 => ?_) (fun c1 => ?_)
  · replace h := zif_t h c1
    refine lv_iconst (v := (0 : Int32)) hx hb dX2_primeAt_18 (by decide) ?_
    have h1 := Option.some.inj h
    subst h1
    exact W.iret (v := (0 : Int32)) hx hb hr (fun t ht hW => ⟨⟨(0 : Int32), (), rfl, rfl, by rw [ht]; exact hP, va_K.moved hW.alike hK, hD⟩, hS.F ht⟩) hS.2.2 dX2_primeAt_19
  · replace h := zif_f h c1
    refine lv_iload_n hx hb dX2_primeAt_4 rfl (lv_at hl 1 rfl) ?_
    refine lv_iconst (v := (4 : Int32)) hx hb dX2_primeAt_5 (by decide) ?_
    refine lv_icmp_ge (tgt := 18) hx hb dX2_primeAt_6 (by decide) (fun c6 => ?_) (fun c6 => ?_)
    · replace h := zif_t h c6
      refine lv_iconst (v := (0 : Int32)) hx hb dX2_primeAt_18 (by decide) ?_
      have h1 := Option.some.inj h
      subst h1
      exact W.iret (v := (0 : Int32)) hx hb hr (fun t ht hW => ⟨⟨(0 : Int32), (), rfl, rfl, by rw [ht]; exact hP, va_K.moved hW.alike hK, hD⟩, hS.F ht⟩) hS.2.2 dX2_primeAt_19
    · replace h := zif_f h c6
      refine lv_aload_n hx hb dX2_primeAt_9 rfl (lv_at hl 0 rfl) ?_
      refine va_get (D := D) (ci := 4) (v := .ref (a 18)) (C := RX2) (T := TX2) (N := 3) hx hb hts kwX2 hown hK hP 17 rfl rfl 0 (by decide) kf_9 (fun _ h9 => h9) rfl dX2_primeAt_10 ?_
      refine lv_iload_n hx hb dX2_primeAt_13 rfl (lv_at hl 1 rfl) ?_
      obtain ⟨z14, h⟩ := zg_some h
      refine va_iald hx hb hK hP 18 1 rfl rfl z14 dX2_primeAt_14 ?_
      refine lv_goto (tgt := 19) hx hb dX2_primeAt_15 (by decide) ?_
      have h1 := Option.some.inj h
      subst h1
      exact W.iret (v := (pr p0.toNatClampNeg)) hx hb hr (fun t ht hW => ⟨⟨(pr p0.toNatClampNeg), (), rfl, rfl, by rw [ht]; exact hP, va_K.moved hW.alike hK, hD⟩, hS.F ht⟩) hS.2.2 dX2_primeAt_19

noncomputable def p_X2_powerAt_L0 (F : Nat) (pr : Nat → Int32) (tm : Nat → Int32) (p0 : Int32) (k : Int32 → Int32 → Option Int32) : Nat → Int32 → Int32 → Option Int32
  | 0, _, _ => none
  | n + 1, v2_0, v3_0 => (zb1 (p_X2_timesAt tm p0) (fun r1 => (if r1 ≤ v3_0 then (k v2_0 v3_0) else (zb1 (p_X2_primeAt pr p0) (fun r3 => (p_X2_powerAt_L0 F pr tm p0 k n (v2_0 * r3) (v3_0 + (1 : Int32))))))))
noncomputable def p_X2_powerAt (F : Nat) (pr : Nat → Int32) (tm : Nat → Int32) (p0 : Int32) : Option Int32 := (p_X2_powerAt_L0 F pr tm p0 (fun v2_0 v3_0 => (some v2_0)) F (1 : Int32) (0 : Int32))
theorem hdV_X2_powerAt : yX2_powerAt.cls = RX2 ∧ yX2_powerAt.cls ≠ "java/lang/invoke/MethodHandle" ∧ yX2_powerAt.cls ≠ "java/lang/invoke/VarHandle" ∧ (parseMethodDescriptor yX2_powerAt.desc).map (fun d => d.parameters.length) = some 1 := by decide +kernel
set_option maxHeartbeats 4000000 in
set_option maxRecDepth 100000 in
theorem c_X2_powerAt (l : Launch) (D : va_G) (a : Nat → Nat) (cJ cI cO cB : ClassId) (R : Nat → Nat → Int64) (b : Bool) (pr : Nat → Int32) (tm : Nat → Int32) (cn : Int32) (sm : Nat → Int32) (ac : Int32) (re : Int32) (kn : Int32) (F : Nat) (p0 : Int32) (r : Int32) (h : p_X2_powerAt F pr tm p0 = some r) : zMi l yX2_powerAt wsX2_powerAt 1 21 0 0 D (zT cJ cI cO cB) [.ref (a 17), .int p0] (cW a cJ cI cO R b pr tm cn sm ac re kn) (cW a cJ cI cO R b pr tm cn sm ac re kn) r := by
  intro sz
  delta zQi
  refine Met.ofW (cc := cX2_powerAt) (maxL := 4) (ret := (some .int)) (by decide) rfl ?_
  intro p e s m args below meth c s₁ B hml hv
  obtain ⟨rfl, hsz, hP, hK, hD0⟩ := hv
  have hx := B.exec
  have hb := B.bytes
  have hr := B.returns
  have hts := atoms_spec (ws := wsX2_powerAt) B.pre
  have hown : s.vm.findClass RX2 = some m.cls := findClass_of_methodNamed B.named
  have hlocks := B.notSynchronized
  subst hsz
  have hD := hD0.self (sz := s.heap.size)
  generalize hAe : va_A (cW a cJ cI cO R b pr tm cn sm ac re kn) s.heap.size = A at hD ⊢
  have hA : ∀ q : Nat, s.heap.size ≤ q → A q := fun q h => by rw [← hAe]; exact Or.inr h
  have hS : va_S A s.heap s.heap [] := va_S.rf
  have hl := lv_entry ([.ref (a 17), .int p0]) (n := 4) (Nat.le_of_ble_eq_true rfl)
  rw [lg_entry_eq]
  generalize (lg_sl ([.ref (a 17), .int p0]) ++ List.replicate (4 - (lg_sl ([.ref (a 17), .int p0])).length) Slot.unset).toArray = ls at hl ⊢
  replace hl : lv_has ls 4 [(0, .ref (a 17)), (1, .int p0)] := hl
  replace h : (p_X2_powerAt_L0 F pr tm p0 (fun v2_0 v3_0 => (some v2_0)) F (1 : Int32) (0 : Int32)) = some r := h
  refine zabs (fun G hG hGW => ?_)
  obtain ⟨H, hHe⟩ : ∃ H, H = s.heap := ⟨_, rfl⟩
  rw [← hHe] at hP
  replace hS : va_S A s.heap H [] := by rw [hHe]; exact hS
  refine zheap hHe ?_
  refine lv_iconst (v := (1 : Int32)) hx hb dX2_powerAt_0 (by decide) ?_
  refine lv_istore_n (lv' := [(2, .int (1 : Int32)), (0, .ref (a 17)), (1, .int p0)]) hx hb dX2_powerAt_1 rfl hl (by decide) rfl (fun ls hl => ?_)
  refine lv_iconst (v := (0 : Int32)) hx hb dX2_powerAt_2 (by decide) ?_
  refine lv_istore_n (lv' := [(3, .int (0 : Int32)), (2, .int (1 : Int32)), (0, .ref (a 17)), (1, .int p0)]) hx hb dX2_powerAt_3 rfl hl (by decide) rfl (fun ls hl => ?_)
  have X0 : ∀ (v2_0 : Int32) (v3_0 : Int32) (H : Heap) (locs : List Loc) (ls : Array Slot), va_P D vwCl (cW a cJ cI cO R b pr tm cn sm ac re kn) H → va_D A (cW a cJ cI cO R b pr tm cn sm ac re kn) → va_S A s.heap H locs → lv_has ls 4 [(0, .ref (a 17)), (1, .int p0), (2, .int v2_0), (3, .int v3_0)] → (some v2_0) = some r → G H locs 0 0 (F0 m 27 ls []) := by
    intro v2_0 v3_0 H locs ls hP hD hS hl h
    refine hG _ _ _ _ _ ?_
    refine lv_iload_n hx hb dX2_powerAt_27 rfl (lv_at hl 2 rfl) ?_
    have h1 := Option.some.inj h
    subst h1
    exact W.iret (v := v2_0) hx hb hr (fun t ht hW => ⟨⟨v2_0, (), rfl, rfl, by rw [ht]; exact hP, va_K.moved hW.alike hK, hD⟩, hS.F ht⟩) hS.2.2 dX2_powerAt_28
  have L0 : ∀ (K0 : Int32 → Int32 → Option Int32) (HX0 : ∀ (v2_0 : Int32) (v3_0 : Int32) (H : Heap) (locs : List Loc) (ls : Array Slot), va_P D vwCl (cW a cJ cI cO R b pr tm cn sm ac re kn) H → va_D A (cW a cJ cI cO R b pr tm cn sm ac re kn) → va_S A s.heap H locs → lv_has ls 4 [(0, .ref (a 17)), (1, .int p0), (2, .int v2_0), (3, .int v3_0)] → K0 v2_0 v3_0 = some r → G H locs 0 0 (F0 m 27 ls [])) (fu0 : Nat) (v2_0 : Int32) (v3_0 : Int32) (H : Heap) (locs : List Loc) (ls : Array Slot), va_P D vwCl (cW a cJ cI cO R b pr tm cn sm ac re kn) H → va_D A (cW a cJ cI cO R b pr tm cn sm ac re kn) → va_S A s.heap H locs → lv_has ls 4 [(0, .ref (a 17)), (1, .int p0), (2, .int v2_0), (3, .int v3_0)] → p_X2_powerAt_L0 F pr tm p0 K0 fu0 v2_0 v3_0 = some r → G H locs 0 0 (F0 m 4 ls []) := by
    intro K0 HX0 fu0
    induction fu0 with
    | zero =>
      intro v2_0 v3_0 H locs ls hP hD hS hl h
      exact (zno h).elim
    | succ fu0 ih0 =>
      intro v2_0 v3_0 H locs ls hP hD hS hl h
      refine hG _ _ _ _ _ ?_
      unfold p_X2_powerAt_L0 at h
      refine lv_iload_n hx hb dX2_powerAt_4 rfl (lv_at hl 3 rfl) ?_
      refine lv_aload_n hx hb dX2_powerAt_5 rfl (lv_at hl 0 rfl) ?_
      refine lv_iload_n hx hb dX2_powerAt_6 rfl (lv_at hl 1 rfl) ?_
      obtain ⟨r1, e2, h⟩ := zb1_some h
      refine zgoi (va_runV (As := [.int p0]) (rest := [.int v3_0]) ⟨hx, hb, hml, hown, hts⟩ (c_X2_timesAt l D a cJ cI cO cB R b pr tm cn sm ac re kn p0 r1 e2 H.size) (cwV 1 hts gX2_powerAt_X2_timesAt rfl rfl rfl hdV_X2_timesAt ⟨Nat.le_of_ble_eq_true rfl, Nat.le_of_ble_eq_true rfl⟩) (zpreV (q0 := 17) (ci := 4) (T := TX2) (N := 3) hK hP hD rfl rfl [.int p0]) rfl rfl hl.1 rfl (lv_room (Nat.le_of_ble_eq_true rfl)) dX2_powerAt_7 ⟨Nat.le_of_ble_eq_true rfl, Nat.le_of_ble_eq_true rfl⟩) (zfree hD hS hA) (zjW hD hS hA) hS (fun H locs hP hD hS => ?_)
      replace hP : va_P D vwCl (cW a cJ cI cO R b pr tm cn sm ac re kn) H := hP
      replace hD : va_D A (cW a cJ cI cO R b pr tm cn sm ac re kn) := hD
      refine lv_icmp_ge (tgt := 27) hx hb dX2_powerAt_10 (by decide) (fun c10 => ?_) (fun c10 => ?_)
      · replace h := zif_t h c10
        exact hGW _ _ _ _ _ (HX0 v2_0 v3_0 _ _ ls hP hD hS (lv_sub hl [0, 1, 2, 3] rfl) h)
      · replace h := zif_f h c10
        refine lv_iload_n hx hb dX2_powerAt_13 rfl (lv_at hl 2 rfl) ?_
        refine lv_aload_n hx hb dX2_powerAt_14 rfl (lv_at hl 0 rfl) ?_
        refine lv_iload_n hx hb dX2_powerAt_15 rfl (lv_at hl 1 rfl) ?_
        obtain ⟨r3, e4, h⟩ := zb1_some h
        refine zgoi (va_runV (As := [.int p0]) (rest := [.int v2_0]) ⟨hx, hb, hml, hown, hts⟩ (c_X2_primeAt l D a cJ cI cO cB R b pr tm cn sm ac re kn p0 r3 e4 H.size) (cwV 1 hts gX2_powerAt_X2_primeAt rfl rfl rfl hdV_X2_primeAt ⟨Nat.le_of_ble_eq_true rfl, Nat.le_of_ble_eq_true rfl⟩) (zpreV (q0 := 17) (ci := 4) (T := TX2) (N := 3) hK hP hD rfl rfl [.int p0]) rfl rfl hl.1 rfl (lv_room (Nat.le_of_ble_eq_true rfl)) dX2_powerAt_16 ⟨Nat.le_of_ble_eq_true rfl, Nat.le_of_ble_eq_true rfl⟩) (zfree hD hS hA) (zjW hD hS hA) hS (fun H locs hP hD hS => ?_)
        replace hP : va_P D vwCl (cW a cJ cI cO R b pr tm cn sm ac re kn) H := hP
        replace hD : va_D A (cW a cJ cI cO R b pr tm cn sm ac re kn) := hD
        refine lv_imul hx hb dX2_powerAt_19 ?_
        refine lv_istore_n (lv' := [(2, .int (v2_0 * r3)), (0, .ref (a 17)), (1, .int p0), (3, .int v3_0)]) hx hb dX2_powerAt_20 rfl hl (by decide) rfl (fun ls hl => ?_)
        refine lv_iinc (v := (v3_0 + (1 : Int32))) (lv' := [(3, .int (v3_0 + (1 : Int32))), (2, .int (v2_0 * r3)), (0, .ref (a 17)), (1, .int p0)]) hx hb dX2_powerAt_21 hl (k := 3) rfl rfl (by decide) rfl (fun ls hl => ?_)
        refine lv_goto (tgt := 4) hx hb dX2_powerAt_24 (by decide) ?_
        exact hGW _ _ _ _ _ (ih0 (v2_0 * r3) (v3_0 + (1 : Int32)) _ _ ls hP hD hS (lv_sub hl [2, 3, 1, 0] rfl) h)
  exact hGW _ _ _ _ _ (L0 _ X0 F (1 : Int32) (0 : Int32) _ _ ls hP hD hS (lv_sub hl [2, 3, 1, 0] rfl) h)

noncomputable def p_X4_countUnlike_L0 (F : Nat) (R : Nat → Nat → Int64) (i0 : Nat) (p0 : Nat) (k : Int32 → Int32 → Option Int32) : Nat → Int32 → Int32 → Option Int32
  | 0, _, _ => none
  | n + 1, v2_0, v3_0 => (if (120 : Int32) < v3_0 then (k v2_0 v3_0) else (zg (v3_0 < 0 ∨ 121 ≤ v3_0.toNatClampNeg) (zg (v3_0 < 0 ∨ 121 ≤ v3_0.toNatClampNeg) (if ¬ (lg_cmp (R i0 v3_0.toNatClampNeg) (R p0 v3_0.toNatClampNeg)) = 0 then (p_X4_countUnlike_L0 F R i0 p0 k n (v2_0 + (1 : Int32)) (v3_0 + (1 : Int32))) else (p_X4_countUnlike_L0 F R i0 p0 k n (v2_0 + (0 : Int32)) (v3_0 + (1 : Int32)))))))
noncomputable def p_X4_countUnlike (F : Nat) (R : Nat → Nat → Int64) (i0 : Nat) (p0 : Nat) : Option Int32 := (p_X4_countUnlike_L0 F R i0 p0 (fun v2_0 v3_0 => (some v2_0)) F (0 : Int32) (1 : Int32))
theorem hdV_X4_countUnlike : yX4_countUnlike.cls = RX4 ∧ yX4_countUnlike.cls ≠ "java/lang/invoke/MethodHandle" ∧ yX4_countUnlike.cls ≠ "java/lang/invoke/VarHandle" ∧ (parseMethodDescriptor yX4_countUnlike.desc).map (fun d => d.parameters.length) = some 1 := by decide +kernel
set_option maxHeartbeats 4000000 in
set_option maxRecDepth 100000 in
theorem c_X4_countUnlike (l : Launch) (D : va_G) (a : Nat → Nat) (cJ cI cO cB : ClassId) (R : Nat → Nat → Int64) (b : Bool) (pr : Nat → Int32) (tm : Nat → Int32) (cn : Int32) (sm : Nat → Int32) (ac : Int32) (re : Int32) (kn : Int32) (F : Nat) (i0 : Nat) (p0 : Nat) (hi0 : i0 < 6) (hp0 : p0 < 6) (r : Int32) (h : p_X4_countUnlike F R i0 p0 = some r) : zMi l yX4_countUnlike wsX4_countUnlike 0 0 0 0 D (zT cJ cI cO cB) [.ref (a (2 + i0)), .ref (a (2 + p0))] (cW a cJ cI cO R b pr tm cn sm ac re kn) (cW a cJ cI cO R b pr tm cn sm ac re kn) r := by
  intro sz
  delta zQi
  refine Met.ofW (cc := cX4_countUnlike) (maxL := 4) (ret := (some .int)) (by decide) rfl ?_
  intro p e s m args below meth c s₁ B hml hv
  obtain ⟨rfl, hsz, hP, hK, hD0⟩ := hv
  have hx := B.exec
  have hb := B.bytes
  have hr := B.returns
  have hts := atoms_spec (ws := wsX4_countUnlike) B.pre
  have hown : s.vm.findClass RX4 = some m.cls := findClass_of_methodNamed B.named
  have hlocks := B.notSynchronized
  subst hsz
  have hD := hD0.self (sz := s.heap.size)
  generalize hAe : va_A (cW a cJ cI cO R b pr tm cn sm ac re kn) s.heap.size = A at hD ⊢
  have hA : ∀ q : Nat, s.heap.size ≤ q → A q := fun q h => by rw [← hAe]; exact Or.inr h
  have hS : va_S A s.heap s.heap [] := va_S.rf
  have hl := lv_entry ([.ref (a (2 + i0)), .ref (a (2 + p0))]) (n := 4) (Nat.le_of_ble_eq_true rfl)
  rw [lg_entry_eq]
  generalize (lg_sl ([.ref (a (2 + i0)), .ref (a (2 + p0))]) ++ List.replicate (4 - (lg_sl ([.ref (a (2 + i0)), .ref (a (2 + p0))])).length) Slot.unset).toArray = ls at hl ⊢
  replace hl : lv_has ls 4 [(0, .ref (a (2 + i0))), (1, .ref (a (2 + p0)))] := hl
  have kwX4 : ∀ w ∈ u_ws RX4 TX4 1, w ∈ wsX4_countUnlike := fun w h => List.mem_cons_of_mem _ (List.mem_append_right _ h)
  have kf_9 := hts (.fieldLink RX4 9 "Divisorwork$Row" "cells" "[J") (zmem 1 rfl)
  replace h : (p_X4_countUnlike_L0 F R i0 p0 (fun v2_0 v3_0 => (some v2_0)) F (0 : Int32) (1 : Int32)) = some r := h
  refine zabs (fun G hG hGW => ?_)
  obtain ⟨H, hHe⟩ : ∃ H, H = s.heap := ⟨_, rfl⟩
  rw [← hHe] at hP
  replace hS : va_S A s.heap H [] := by rw [hHe]; exact hS
  refine zheap hHe ?_
  refine lv_iconst (v := (0 : Int32)) hx hb dX4_countUnlike_0 (by decide) ?_
  refine lv_istore_n (lv' := [(2, .int (0 : Int32)), (0, .ref (a (2 + i0))), (1, .ref (a (2 + p0)))]) hx hb dX4_countUnlike_1 rfl hl (by decide) rfl (fun ls hl => ?_)
  refine lv_iconst (v := (1 : Int32)) hx hb dX4_countUnlike_2 (by decide) ?_
  refine lv_istore_n (lv' := [(3, .int (1 : Int32)), (2, .int (0 : Int32)), (0, .ref (a (2 + i0))), (1, .ref (a (2 + p0)))]) hx hb dX4_countUnlike_3 rfl hl (by decide) rfl (fun ls hl => ?_)
  have X0 : ∀ (v2_0 : Int32) (v3_0 : Int32) (H : Heap) (locs : List Loc) (ls : Array Slot), va_P D vwCl (cW a cJ cI cO R b pr tm cn sm ac re kn) H → va_D A (cW a cJ cI cO R b pr tm cn sm ac re kn) → va_S A s.heap H locs → lv_has ls 4 [(0, .ref (a (2 + i0))), (1, .ref (a (2 + p0))), (2, .int v2_0), (3, .int v3_0)] → (some v2_0) = some r → G H locs 0 0 (F0 m 40 ls []) := by
    intro v2_0 v3_0 H locs ls hP hD hS hl h
    refine hG _ _ _ _ _ ?_
    refine lv_iload_n hx hb dX4_countUnlike_40 rfl (lv_at hl 2 rfl) ?_
    have h1 := Option.some.inj h
    subst h1
    exact W.iret (v := v2_0) hx hb hr (fun t ht hW => ⟨⟨v2_0, (), rfl, rfl, by rw [ht]; exact hP, va_K.moved hW.alike hK, hD⟩, hS.F ht⟩) hS.2.2 dX4_countUnlike_41
  have L0 : ∀ (K0 : Int32 → Int32 → Option Int32) (HX0 : ∀ (v2_0 : Int32) (v3_0 : Int32) (H : Heap) (locs : List Loc) (ls : Array Slot), va_P D vwCl (cW a cJ cI cO R b pr tm cn sm ac re kn) H → va_D A (cW a cJ cI cO R b pr tm cn sm ac re kn) → va_S A s.heap H locs → lv_has ls 4 [(0, .ref (a (2 + i0))), (1, .ref (a (2 + p0))), (2, .int v2_0), (3, .int v3_0)] → K0 v2_0 v3_0 = some r → G H locs 0 0 (F0 m 40 ls [])) (fu0 : Nat) (v2_0 : Int32) (v3_0 : Int32) (H : Heap) (locs : List Loc) (ls : Array Slot), va_P D vwCl (cW a cJ cI cO R b pr tm cn sm ac re kn) H → va_D A (cW a cJ cI cO R b pr tm cn sm ac re kn) → va_S A s.heap H locs → lv_has ls 4 [(0, .ref (a (2 + i0))), (1, .ref (a (2 + p0))), (2, .int v2_0), (3, .int v3_0)] → p_X4_countUnlike_L0 F R i0 p0 K0 fu0 v2_0 v3_0 = some r → G H locs 0 0 (F0 m 4 ls []) := by
    intro K0 HX0 fu0
    induction fu0 with
    | zero =>
      intro v2_0 v3_0 H locs ls hP hD hS hl h
      exact (zno h).elim
    | succ fu0 ih0 =>
      intro v2_0 v3_0 H locs ls hP hD hS hl h
      refine hG _ _ _ _ _ ?_
      unfold p_X4_countUnlike_L0 at h
      refine lv_iload_n hx hb dX4_countUnlike_4 rfl (lv_at hl 3 rfl) ?_
      refine lv_bipush (v := (120 : Int32)) hx hb dX4_countUnlike_5 (by decide) ?_
      refine lv_icmp_gt (tgt := 40) hx hb dX4_countUnlike_7 (by decide) (fun c7 => ?_) (fun c7 => ?_)
      · replace h := zif_t h c7
        exact hGW _ _ _ _ _ (HX0 v2_0 v3_0 _ _ ls hP hD hS (lv_sub hl [0, 1, 2, 3] rfl) h)
      · replace h := zif_f h c7
        refine lv_iload_n hx hb dX4_countUnlike_10 rfl (lv_at hl 2 rfl) ?_
        refine lv_aload_n hx hb dX4_countUnlike_11 rfl (lv_at hl 0 rfl) ?_
        refine va_get (D := D) (ci := 6) (v := .ref (a (8 + i0))) (C := RX4) (T := TX4) (N := 1) hx hb hts kwX4 hown hK hP (2 + i0) (cW_row hi0) rfl 0 (by decide) kf_9 (fun _ h9 => h9) rfl dX4_countUnlike_12 ?_
        refine lv_iload_n hx hb dX4_countUnlike_15 rfl (lv_at hl 3 rfl) ?_
        obtain ⟨z16, h⟩ := zg_some h
        refine va_lald hx hb hK hP (8 + i0) 0 (cW_arr hi0) rfl z16 dX4_countUnlike_16 ?_
        refine lv_aload_n hx hb dX4_countUnlike_17 rfl (lv_at hl 1 rfl) ?_
        refine va_get (D := D) (ci := 6) (v := .ref (a (8 + p0))) (C := RX4) (T := TX4) (N := 1) hx hb hts kwX4 hown hK hP (2 + p0) (cW_row hp0) rfl 0 (by decide) kf_9 (fun _ h9 => h9) rfl dX4_countUnlike_18 ?_
        refine lv_iload_n hx hb dX4_countUnlike_21 rfl (lv_at hl 3 rfl) ?_
        obtain ⟨z22, h⟩ := zg_some h
        refine va_lald hx hb hK hP (8 + p0) 0 (cW_arr hp0) rfl z22 dX4_countUnlike_22 ?_
        refine W.lcmp hx hb dX4_countUnlike_23 ?_
        refine lv_if_ne (tgt := 31) hx hb dX4_countUnlike_24 (by decide) (fun c24 => ?_) (fun c24 => ?_)
        · replace h := zif_t h c24
          refine lv_iconst (v := (1 : Int32)) hx hb dX4_countUnlike_31 (by decide) ?_
          refine lv_iadd hx hb dX4_countUnlike_32 ?_
          refine lv_istore_n (lv' := [(2, .int (v2_0 + (1 : Int32))), (0, .ref (a (2 + i0))), (1, .ref (a (2 + p0))), (3, .int v3_0)]) hx hb dX4_countUnlike_33 rfl hl (by decide) rfl (fun ls hl => ?_)
          refine lv_iinc (v := (v3_0 + (1 : Int32))) (lv' := [(3, .int (v3_0 + (1 : Int32))), (2, .int (v2_0 + (1 : Int32))), (0, .ref (a (2 + i0))), (1, .ref (a (2 + p0)))]) hx hb dX4_countUnlike_34 hl (k := 3) rfl rfl (by decide) rfl (fun ls hl => ?_)
          refine lv_goto (tgt := 4) hx hb dX4_countUnlike_37 (by decide) ?_
          exact hGW _ _ _ _ _ (ih0 (v2_0 + (1 : Int32)) (v3_0 + (1 : Int32)) _ _ ls hP hD hS (lv_sub hl [2, 3, 1, 0] rfl) h)
        · replace h := zif_fn h c24
          refine lv_iconst (v := (0 : Int32)) hx hb dX4_countUnlike_27 (by decide) ?_
          refine lv_goto (tgt := 32) hx hb dX4_countUnlike_28 (by decide) ?_
          refine lv_iadd hx hb dX4_countUnlike_32 ?_
          refine lv_istore_n (lv' := [(2, .int (v2_0 + (0 : Int32))), (0, .ref (a (2 + i0))), (1, .ref (a (2 + p0))), (3, .int v3_0)]) hx hb dX4_countUnlike_33 rfl hl (by decide) rfl (fun ls hl => ?_)
          refine lv_iinc (v := (v3_0 + (1 : Int32))) (lv' := [(3, .int (v3_0 + (1 : Int32))), (2, .int (v2_0 + (0 : Int32))), (0, .ref (a (2 + i0))), (1, .ref (a (2 + p0)))]) hx hb dX4_countUnlike_34 hl (k := 3) rfl rfl (by decide) rfl (fun ls hl => ?_)
          refine lv_goto (tgt := 4) hx hb dX4_countUnlike_37 (by decide) ?_
          exact hGW _ _ _ _ _ (ih0 (v2_0 + (0 : Int32)) (v3_0 + (1 : Int32)) _ _ ls hP hD hS (lv_sub hl [2, 3, 1, 0] rfl) h)
  exact hGW _ _ _ _ _ (L0 _ X0 F (0 : Int32) (1 : Int32) _ _ ls hP hD hS (lv_sub hl [2, 3, 1, 0] rfl) h)

noncomputable def p_X4_takeFrom_L0 (F : Nat) (i0 : Nat) (p0 : Nat) (k : Int32 → (Nat → Nat → Int64) → Option (Int32 × (Nat → Nat → Int64))) : Nat → Int32 → (Nat → Nat → Int64) → Option (Int32 × (Nat → Nat → Int64))
  | 0, _, _ => none
  | n + 1, v3_0, RL0 => (if (120 : Int32) < v3_0 then (k v3_0 RL0) else (zg (v3_0 < 0 ∨ 121 ≤ v3_0.toNatClampNeg) (zg (v3_0 < 0 ∨ 121 ≤ v3_0.toNatClampNeg) (p_X4_takeFrom_L0 F i0 p0 k n (v3_0 + (1 : Int32)) (va_up RL0 i0 (vp_updL (RL0 i0) v3_0.toNatClampNeg (RL0 p0 v3_0.toNatClampNeg)))))))
noncomputable def p_X4_takeFrom (F : Nat) (R : Nat → Nat → Int64) (i0 : Nat) (p0 : Nat) : Option (Int32 × (Nat → Nat → Int64)) := (zb1 (p_X4_countUnlike F R i0 p0) (fun r1 => (p_X4_takeFrom_L0 F i0 p0 (fun v3_0 RL0 => (some (r1, RL0))) F (1 : Int32) R)))
theorem hdV_X4_takeFrom : yX4_takeFrom.cls = RX4 ∧ yX4_takeFrom.cls ≠ "java/lang/invoke/MethodHandle" ∧ yX4_takeFrom.cls ≠ "java/lang/invoke/VarHandle" ∧ (parseMethodDescriptor yX4_takeFrom.desc).map (fun d => d.parameters.length) = some 1 := by decide +kernel
set_option maxHeartbeats 4000000 in
set_option maxRecDepth 100000 in
theorem c_X4_takeFrom (l : Launch) (D : va_G) (a : Nat → Nat) (cJ cI cO cB : ClassId) (R : Nat → Nat → Int64) (b : Bool) (pr : Nat → Int32) (tm : Nat → Int32) (cn : Int32) (sm : Nat → Int32) (ac : Int32) (re : Int32) (kn : Int32) (F : Nat) (i0 : Nat) (p0 : Nat) (hi0 : i0 < 6) (hp0 : p0 < 6) (r : Int32) (R' : Nat → Nat → Int64) (h : p_X4_takeFrom F R i0 p0 = some (r, R')) : zMi l yX4_takeFrom wsX4_takeFrom 1 23 0 0 D (zT cJ cI cO cB) [.ref (a (2 + i0)), .ref (a (2 + p0))] (cW a cJ cI cO R b pr tm cn sm ac re kn) (cW a cJ cI cO R' b pr tm cn sm ac re kn) r := by
  intro sz
  delta zQi
  refine Met.ofW (cc := cX4_takeFrom) (maxL := 4) (ret := (some .int)) (by decide) rfl ?_
  intro p e s m args below meth c s₁ B hml hv
  obtain ⟨rfl, hsz, hP, hK, hD0⟩ := hv
  have hx := B.exec
  have hb := B.bytes
  have hr := B.returns
  have hts := atoms_spec (ws := wsX4_takeFrom) B.pre
  have hown : s.vm.findClass RX4 = some m.cls := findClass_of_methodNamed B.named
  have hlocks := B.notSynchronized
  subst hsz
  have hD := hD0.self (sz := s.heap.size)
  generalize hAe : va_A (cW a cJ cI cO R b pr tm cn sm ac re kn) s.heap.size = A at hD ⊢
  have hA : ∀ q : Nat, s.heap.size ≤ q → A q := fun q h => by rw [← hAe]; exact Or.inr h
  have hS : va_S A s.heap s.heap [] := va_S.rf
  have hl := lv_entry ([.ref (a (2 + i0)), .ref (a (2 + p0))]) (n := 4) (Nat.le_of_ble_eq_true rfl)
  rw [lg_entry_eq]
  generalize (lg_sl ([.ref (a (2 + i0)), .ref (a (2 + p0))]) ++ List.replicate (4 - (lg_sl ([.ref (a (2 + i0)), .ref (a (2 + p0))])).length) Slot.unset).toArray = ls at hl ⊢
  replace hl : lv_has ls 4 [(0, .ref (a (2 + i0))), (1, .ref (a (2 + p0)))] := hl
  have kwX4 : ∀ w ∈ u_ws RX4 TX4 1, w ∈ wsX4_takeFrom := fun w h => List.mem_cons_of_mem _ (List.mem_append_right _ (List.mem_cons_of_mem _ (List.mem_append_right _ h)))
  have kf_9 := hts (.fieldLink RX4 9 "Divisorwork$Row" "cells" "[J") (zmem 6 rfl)
  replace h : (zb1 (p_X4_countUnlike F R i0 p0) (fun r1 => (p_X4_takeFrom_L0 F i0 p0 (fun v3_0 RL0 => (some (r1, RL0))) F (1 : Int32) R))) = some (r, R') := h
  refine zabs (fun G hG hGW => ?_)
  obtain ⟨H, hHe⟩ : ∃ H, H = s.heap := ⟨_, rfl⟩
  rw [← hHe] at hP
  replace hS : va_S A s.heap H [] := by rw [hHe]; exact hS
  refine zheap hHe ?_
  refine lv_aload_n hx hb dX4_takeFrom_0 rfl (lv_at hl 0 rfl) ?_
  refine lv_aload_n hx hb dX4_takeFrom_1 rfl (lv_at hl 1 rfl) ?_
  obtain ⟨r1, e2, h⟩ := zb1_some h
  refine zgoi (va_runV (As := [.ref (a (2 + p0))]) (rest := []) ⟨hx, hb, hml, hown, hts⟩ (c_X4_countUnlike l D a cJ cI cO cB R b pr tm cn sm ac re kn F i0 p0 hi0 hp0 r1 e2 H.size) (cwV 1 hts gX4_takeFrom_X4_countUnlike rfl rfl rfl hdV_X4_countUnlike ⟨Nat.le_of_ble_eq_true rfl, Nat.le_of_ble_eq_true rfl⟩) (zpreV (q0 := 2 + i0) (ci := 6) (T := TX4) (N := 1) hK hP hD (cW_row hi0) rfl [.ref (a (2 + p0))]) rfl rfl hl.1 rfl (lv_room (Nat.le_of_ble_eq_true rfl)) dX4_takeFrom_2 ⟨Nat.le_of_ble_eq_true rfl, Nat.le_of_ble_eq_true rfl⟩) (zfree hD hS hA) (zjW hD hS hA) hS (fun H locs hP hD hS => ?_)
  replace hP : va_P D vwCl (cW a cJ cI cO R b pr tm cn sm ac re kn) H := hP
  replace hD : va_D A (cW a cJ cI cO R b pr tm cn sm ac re kn) := hD
  refine lv_istore_n (lv' := [(2, .int r1), (0, .ref (a (2 + i0))), (1, .ref (a (2 + p0)))]) hx hb dX4_takeFrom_5 rfl hl (by decide) rfl (fun ls hl => ?_)
  refine lv_iconst (v := (1 : Int32)) hx hb dX4_takeFrom_6 (by decide) ?_
  refine lv_istore_n (lv' := [(3, .int (1 : Int32)), (2, .int r1), (0, .ref (a (2 + i0))), (1, .ref (a (2 + p0)))]) hx hb dX4_takeFrom_7 rfl hl (by decide) rfl (fun ls hl => ?_)
  have X0 : ∀ (v3_0 : Int32) (RL0 : Nat → Nat → Int64) (H : Heap) (locs : List Loc) (ls : Array Slot), va_P D vwCl (cW a cJ cI cO RL0 b pr tm cn sm ac re kn) H → va_D A (cW a cJ cI cO RL0 b pr tm cn sm ac re kn) → va_S A s.heap H locs → lv_has ls 4 [(0, .ref (a (2 + i0))), (1, .ref (a (2 + p0))), (2, .int r1), (3, .int v3_0)] → (some (r1, RL0)) = some (r, R') → G H locs 0 0 (F0 m 32 ls []) := by
    intro v3_0 RL0 H locs ls hP hD hS hl h
    refine hG _ _ _ _ _ ?_
    refine lv_iload_n hx hb dX4_takeFrom_32 rfl (lv_at hl 2 rfl) ?_
    have g0 := Option.some.inj h
    obtain ⟨h1, g1⟩ := Prod.mk.inj g0
    subst h1
    subst g1
    exact W.iret (v := r1) hx hb hr (fun t ht hW => ⟨⟨r1, (), rfl, rfl, by rw [ht]; exact hP, va_K.moved hW.alike hK, hD⟩, hS.F ht⟩) hS.2.2 dX4_takeFrom_33
  have L0 : ∀ (K0 : Int32 → (Nat → Nat → Int64) → Option (Int32 × (Nat → Nat → Int64))) (HX0 : ∀ (v3_0 : Int32) (RL0 : Nat → Nat → Int64) (H : Heap) (locs : List Loc) (ls : Array Slot), va_P D vwCl (cW a cJ cI cO RL0 b pr tm cn sm ac re kn) H → va_D A (cW a cJ cI cO RL0 b pr tm cn sm ac re kn) → va_S A s.heap H locs → lv_has ls 4 [(0, .ref (a (2 + i0))), (1, .ref (a (2 + p0))), (2, .int r1), (3, .int v3_0)] → K0 v3_0 RL0 = some (r, R') → G H locs 0 0 (F0 m 32 ls [])) (fu0 : Nat) (v3_0 : Int32) (RL0 : Nat → Nat → Int64) (H : Heap) (locs : List Loc) (ls : Array Slot), va_P D vwCl (cW a cJ cI cO RL0 b pr tm cn sm ac re kn) H → va_D A (cW a cJ cI cO RL0 b pr tm cn sm ac re kn) → va_S A s.heap H locs → lv_has ls 4 [(0, .ref (a (2 + i0))), (1, .ref (a (2 + p0))), (2, .int r1), (3, .int v3_0)] → p_X4_takeFrom_L0 F i0 p0 K0 fu0 v3_0 RL0 = some (r, R') → G H locs 0 0 (F0 m 8 ls []) := by
    intro K0 HX0 fu0
    induction fu0 with
    | zero =>
      intro v3_0 RL0 H locs ls hP hD hS hl h
      exact (zno h).elim
    | succ fu0 ih0 =>
      intro v3_0 RL0 H locs ls hP hD hS hl h
      refine hG _ _ _ _ _ ?_
      unfold p_X4_takeFrom_L0 at h
      refine lv_iload_n hx hb dX4_takeFrom_8 rfl (lv_at hl 3 rfl) ?_
      refine lv_bipush (v := (120 : Int32)) hx hb dX4_takeFrom_9 (by decide) ?_
      refine lv_icmp_gt (tgt := 32) hx hb dX4_takeFrom_11 (by decide) (fun c11 => ?_) (fun c11 => ?_)
      · replace h := zif_t h c11
        exact hGW _ _ _ _ _ (HX0 v3_0 RL0 _ _ ls hP hD hS (lv_sub hl [0, 1, 2, 3] rfl) h)
      · replace h := zif_f h c11
        refine lv_aload_n hx hb dX4_takeFrom_14 rfl (lv_at hl 0 rfl) ?_
        refine va_get (D := D) (ci := 6) (v := .ref (a (8 + i0))) (C := RX4) (T := TX4) (N := 1) hx hb hts kwX4 hown hK hP (2 + i0) (cW_row hi0) rfl 0 (by decide) kf_9 (fun _ h9 => h9) rfl dX4_takeFrom_15 ?_
        refine lv_iload_n hx hb dX4_takeFrom_18 rfl (lv_at hl 3 rfl) ?_
        refine lv_aload_n hx hb dX4_takeFrom_19 rfl (lv_at hl 1 rfl) ?_
        refine va_get (D := D) (ci := 6) (v := .ref (a (8 + p0))) (C := RX4) (T := TX4) (N := 1) hx hb hts kwX4 hown hK hP (2 + p0) (cW_row hp0) rfl 0 (by decide) kf_9 (fun _ h9 => h9) rfl dX4_takeFrom_20 ?_
        refine lv_iload_n hx hb dX4_takeFrom_23 rfl (lv_at hl 3 rfl) ?_
        obtain ⟨z24, h⟩ := zg_some h
        refine va_lald hx hb hK hP (8 + p0) 0 (cW_arr hp0) rfl z24 dX4_takeFrom_24 ?_
        obtain ⟨z25, h⟩ := zg_some h
        refine va_last hx hb hK hP hD hS (8 + i0) 0 (cW_arr hi0) rfl z25 dX4_takeFrom_25 (fun H locs hP hD hS => ?_)
        rw [cW_set hi0] at hP hD
        refine lv_iinc (v := (v3_0 + (1 : Int32))) (lv' := [(3, .int (v3_0 + (1 : Int32))), (0, .ref (a (2 + i0))), (1, .ref (a (2 + p0))), (2, .int r1)]) hx hb dX4_takeFrom_26 hl (k := 3) rfl rfl (by decide) rfl (fun ls hl => ?_)
        refine lv_goto (tgt := 8) hx hb dX4_takeFrom_29 (by decide) ?_
        exact hGW _ _ _ _ _ (ih0 (v3_0 + (1 : Int32)) (va_up RL0 i0 (vp_updL (RL0 i0) v3_0.toNatClampNeg (RL0 p0 v3_0.toNatClampNeg))) _ _ ls hP hD hS (lv_sub hl [1, 2, 3, 0] rfl) h)
  exact hGW _ _ _ _ _ (L0 _ X0 F (1 : Int32) R _ _ ls hP hD hS (lv_sub hl [2, 3, 1, 0] rfl) h)

noncomputable def p_X4_exchange_L0 (F : Nat) (i0 : Nat) (p0 : Nat) (k : Int32 → (Nat → Nat → Int64) → Option ((Nat → Nat → Int64))) : Nat → Int32 → (Nat → Nat → Int64) → Option ((Nat → Nat → Int64))
  | 0, _, _ => none
  | n + 1, v2_0, RL0 => (if (120 : Int32) < v2_0 then (k v2_0 RL0) else (zg (v2_0 < 0 ∨ 121 ≤ v2_0.toNatClampNeg) (zg (v2_0 < 0 ∨ 121 ≤ v2_0.toNatClampNeg) (zg (v2_0 < 0 ∨ 121 ≤ v2_0.toNatClampNeg) (zg (v2_0 < 0 ∨ 121 ≤ v2_0.toNatClampNeg) (p_X4_exchange_L0 F i0 p0 k n (v2_0 + (1 : Int32)) (va_up (va_up RL0 i0 (vp_updL (RL0 i0) v2_0.toNatClampNeg (RL0 p0 v2_0.toNatClampNeg))) p0 (vp_updL ((va_up RL0 i0 (vp_updL (RL0 i0) v2_0.toNatClampNeg (RL0 p0 v2_0.toNatClampNeg))) p0) v2_0.toNatClampNeg (RL0 i0 v2_0.toNatClampNeg)))))))))
noncomputable def p_X4_exchange (F : Nat) (R : Nat → Nat → Int64) (i0 : Nat) (p0 : Nat) : Option ((Nat → Nat → Int64)) := (p_X4_exchange_L0 F i0 p0 (fun v2_0 RL0 => (some RL0)) F (1 : Int32) R)
theorem hdV_X4_exchange : yX4_exchange.cls = RX4 ∧ yX4_exchange.cls ≠ "java/lang/invoke/MethodHandle" ∧ yX4_exchange.cls ≠ "java/lang/invoke/VarHandle" ∧ (parseMethodDescriptor yX4_exchange.desc).map (fun d => d.parameters.length) = some 1 := by decide +kernel
set_option maxHeartbeats 4000000 in
set_option maxRecDepth 100000 in
theorem c_X4_exchange (l : Launch) (D : va_G) (a : Nat → Nat) (cJ cI cO cB : ClassId) (R : Nat → Nat → Int64) (b : Bool) (pr : Nat → Int32) (tm : Nat → Int32) (cn : Int32) (sm : Nat → Int32) (ac : Int32) (re : Int32) (kn : Int32) (F : Nat) (i0 : Nat) (p0 : Nat) (hi0 : i0 < 6) (hp0 : p0 < 6) (R' : Nat → Nat → Int64) (h : p_X4_exchange F R i0 p0 = some R') : zMv l yX4_exchange wsX4_exchange 0 0 0 0 D (zT cJ cI cO cB) [.ref (a (2 + i0)), .ref (a (2 + p0))] (cW a cJ cI cO R b pr tm cn sm ac re kn) (cW a cJ cI cO R' b pr tm cn sm ac re kn) := by
  intro sz
  delta zQv
  refine Met.ofW (cc := cX4_exchange) (maxL := 5) (ret := none) (by decide) rfl ?_
  intro p e s m args below meth c s₁ B hml hv
  obtain ⟨rfl, hsz, hP, hK, hD0⟩ := hv
  have hx := B.exec
  have hb := B.bytes
  have hr := B.returns
  have hts := atoms_spec (ws := wsX4_exchange) B.pre
  have hown : s.vm.findClass RX4 = some m.cls := findClass_of_methodNamed B.named
  have hlocks := B.notSynchronized
  subst hsz
  have hD := hD0.self (sz := s.heap.size)
  generalize hAe : va_A (cW a cJ cI cO R b pr tm cn sm ac re kn) s.heap.size = A at hD ⊢
  have hA : ∀ q : Nat, s.heap.size ≤ q → A q := fun q h => by rw [← hAe]; exact Or.inr h
  have hS : va_S A s.heap s.heap [] := va_S.rf
  have hl := lv_entry ([.ref (a (2 + i0)), .ref (a (2 + p0))]) (n := 5) (Nat.le_of_ble_eq_true rfl)
  rw [lg_entry_eq]
  generalize (lg_sl ([.ref (a (2 + i0)), .ref (a (2 + p0))]) ++ List.replicate (5 - (lg_sl ([.ref (a (2 + i0)), .ref (a (2 + p0))])).length) Slot.unset).toArray = ls at hl ⊢
  replace hl : lv_has ls 5 [(0, .ref (a (2 + i0))), (1, .ref (a (2 + p0)))] := hl
  have kwX4 : ∀ w ∈ u_ws RX4 TX4 1, w ∈ wsX4_exchange := fun w h => List.mem_cons_of_mem _ (List.mem_append_right _ h)
  have kf_9 := hts (.fieldLink RX4 9 "Divisorwork$Row" "cells" "[J") (zmem 1 rfl)
  replace h : (p_X4_exchange_L0 F i0 p0 (fun v2_0 RL0 => (some RL0)) F (1 : Int32) R) = some R' := h
  refine zabs (fun G hG hGW => ?_)
  obtain ⟨H, hHe⟩ : ∃ H, H = s.heap := ⟨_, rfl⟩
  rw [← hHe] at hP
  replace hS : va_S A s.heap H [] := by rw [hHe]; exact hS
  refine zheap hHe ?_
  refine lv_iconst (v := (1 : Int32)) hx hb dX4_exchange_0 (by decide) ?_
  refine lv_istore_n (lv' := [(2, .int (1 : Int32)), (0, .ref (a (2 + i0))), (1, .ref (a (2 + p0)))]) hx hb dX4_exchange_1 rfl hl (by decide) rfl (fun ls hl => ?_)
  have X0 : ∀ (v2_0 : Int32) (RL0 : Nat → Nat → Int64) (H : Heap) (locs : List Loc) (ls : Array Slot), va_P D vwCl (cW a cJ cI cO RL0 b pr tm cn sm ac re kn) H → va_D A (cW a cJ cI cO RL0 b pr tm cn sm ac re kn) → va_S A s.heap H locs → lv_has ls 5 [(0, .ref (a (2 + i0))), (1, .ref (a (2 + p0))), (2, .int v2_0)] → (some RL0) = some R' → G H locs 0 0 (F0 m 40 ls []) := by
    intro v2_0 RL0 H locs ls hP hD hS hl h
    refine hG _ _ _ _ _ ?_
    have h1 := Option.some.inj h
    subst h1
    exact W.vret hx hb hr (fun t ht hW => ⟨⟨(), rfl, trivial, by rw [ht]; exact hP, va_K.moved hW.alike hK, hD⟩, hS.F ht⟩) hS.2.2 dX4_exchange_40
  have L0 : ∀ (K0 : Int32 → (Nat → Nat → Int64) → Option ((Nat → Nat → Int64))) (HX0 : ∀ (v2_0 : Int32) (RL0 : Nat → Nat → Int64) (H : Heap) (locs : List Loc) (ls : Array Slot), va_P D vwCl (cW a cJ cI cO RL0 b pr tm cn sm ac re kn) H → va_D A (cW a cJ cI cO RL0 b pr tm cn sm ac re kn) → va_S A s.heap H locs → lv_has ls 5 [(0, .ref (a (2 + i0))), (1, .ref (a (2 + p0))), (2, .int v2_0)] → K0 v2_0 RL0 = some R' → G H locs 0 0 (F0 m 40 ls [])) (fu0 : Nat) (v2_0 : Int32) (RL0 : Nat → Nat → Int64) (H : Heap) (locs : List Loc) (ls : Array Slot), va_P D vwCl (cW a cJ cI cO RL0 b pr tm cn sm ac re kn) H → va_D A (cW a cJ cI cO RL0 b pr tm cn sm ac re kn) → va_S A s.heap H locs → lv_has ls 5 [(0, .ref (a (2 + i0))), (1, .ref (a (2 + p0))), (2, .int v2_0)] → p_X4_exchange_L0 F i0 p0 K0 fu0 v2_0 RL0 = some R' → G H locs 0 0 (F0 m 2 ls []) := by
    intro K0 HX0 fu0
    induction fu0 with
    | zero =>
      intro v2_0 RL0 H locs ls hP hD hS hl h
      exact (zno h).elim
    | succ fu0 ih0 =>
      intro v2_0 RL0 H locs ls hP hD hS hl h
      refine hG _ _ _ _ _ ?_
      unfold p_X4_exchange_L0 at h
      refine lv_iload_n hx hb dX4_exchange_2 rfl (lv_at hl 2 rfl) ?_
      refine lv_bipush (v := (120 : Int32)) hx hb dX4_exchange_3 (by decide) ?_
      refine lv_icmp_gt (tgt := 40) hx hb dX4_exchange_5 (by decide) (fun c5 => ?_) (fun c5 => ?_)
      · replace h := zif_t h c5
        exact hGW _ _ _ _ _ (HX0 v2_0 RL0 _ _ ls hP hD hS (lv_sub hl [0, 1, 2] rfl) h)
      · replace h := zif_f h c5
        refine lv_aload_n hx hb dX4_exchange_8 rfl (lv_at hl 0 rfl) ?_
        refine va_get (D := D) (ci := 6) (v := .ref (a (8 + i0))) (C := RX4) (T := TX4) (N := 1) hx hb hts kwX4 hown hK hP (2 + i0) (cW_row hi0) rfl 0 (by decide) kf_9 (fun _ h9 => h9) rfl dX4_exchange_9 ?_
        refine lv_iload_n hx hb dX4_exchange_12 rfl (lv_at hl 2 rfl) ?_
        obtain ⟨z13, h⟩ := zg_some h
        refine va_lald hx hb hK hP (8 + i0) 0 (cW_arr hi0) rfl z13 dX4_exchange_13 ?_
        refine lv_lstore_n (lv' := [(3, .long (RL0 i0 v2_0.toNatClampNeg)), (0, .ref (a (2 + i0))), (1, .ref (a (2 + p0))), (2, .int v2_0)]) hx hb dX4_exchange_14 rfl hl (by decide) rfl (fun ls hl => ?_)
        refine lv_aload_n hx hb dX4_exchange_15 rfl (lv_at hl 1 rfl) ?_
        refine va_get (D := D) (ci := 6) (v := .ref (a (8 + i0))) (C := RX4) (T := TX4) (N := 1) hx hb hts kwX4 hown hK hP (2 + i0) (cW_row hi0) rfl 0 (by decide) kf_9 (fun _ h9 => h9) rfl dX4_exchange_16 ?_
        refine lv_iload_n hx hb dX4_exchange_19 rfl (lv_at hl 3 rfl) ?_
        refine lv_aload_n hx hb dX4_exchange_20 rfl (lv_at hl 2 rfl) ?_
        refine va_get (D := D) (ci := 6) (v := .ref (a (8 + p0))) (C := RX4) (T := TX4) (N := 1) hx hb hts kwX4 hown hK hP (2 + p0) (cW_row hp0) rfl 0 (by decide) kf_9 (fun _ h9 => h9) rfl dX4_exchange_21 ?_
        refine lv_iload_n hx hb dX4_exchange_24 rfl (lv_at hl 3 rfl) ?_
        obtain ⟨z25, h⟩ := zg_some h
        refine va_lald hx hb hK hP (8 + p0) 0 (cW_arr hp0) rfl z25 dX4_exchange_25 ?_
        obtain ⟨z26, h⟩ := zg_some h
        refine va_last hx hb hK hP hD hS (8 + i0) 0 (cW_arr hi0) rfl z26 dX4_exchange_26 (fun H locs hP hD hS => ?_)
        rw [cW_set hi0] at hP hD
        refine lv_aload_n hx hb dX4_exchange_27 rfl (lv_at hl 2 rfl) ?_
        refine va_get (D := D) (ci := 6) (v := .ref (a (8 + p0))) (C := RX4) (T := TX4) (N := 1) hx hb hts kwX4 hown hK hP (2 + p0) (cW_row hp0) rfl 0 (by decide) kf_9 (fun _ h9 => h9) rfl dX4_exchange_28 ?_
        refine lv_iload_n hx hb dX4_exchange_31 rfl (lv_at hl 3 rfl) ?_
        refine lv_lload_n hx hb dX4_exchange_32 rfl (lv_at hl 0 rfl) ?_
        obtain ⟨z33, h⟩ := zg_some h
        refine va_last hx hb hK hP hD hS (8 + p0) 0 (cW_arr hp0) rfl z33 dX4_exchange_33 (fun H locs hP hD hS => ?_)
        rw [cW_set hp0] at hP hD
        refine lv_iinc (v := (v2_0 + (1 : Int32))) (lv' := [(2, .int (v2_0 + (1 : Int32))), (3, .long (RL0 i0 v2_0.toNatClampNeg)), (0, .ref (a (2 + i0))), (1, .ref (a (2 + p0)))]) hx hb dX4_exchange_34 hl (k := 3) rfl rfl (by decide) rfl (fun ls hl => ?_)
        refine lv_goto (tgt := 2) hx hb dX4_exchange_37 (by decide) ?_
        exact hGW _ _ _ _ _ (ih0 (v2_0 + (1 : Int32)) (va_up (va_up RL0 i0 (vp_updL (RL0 i0) v2_0.toNatClampNeg (RL0 p0 v2_0.toNatClampNeg))) p0 (vp_updL ((va_up RL0 i0 (vp_updL (RL0 i0) v2_0.toNatClampNeg (RL0 p0 v2_0.toNatClampNeg))) p0) v2_0.toNatClampNeg (RL0 i0 v2_0.toNatClampNeg))) _ _ ls hP hD hS (lv_sub hl [2, 3, 0] rfl) h)
  exact hGW _ _ _ _ _ (L0 _ X0 F (1 : Int32) R _ _ ls hP hD hS (lv_sub hl [1, 2, 0] rfl) h)

noncomputable def p_X4_firstUnlike_L0 (F : Nat) (R : Nat → Nat → Int64) (b : Bool) (pr : Nat → Int32) (tm : Nat → Int32) (cn : Int32) (sm : Nat → Int32) (ac : Int32) (re : Int32) (kn : Int32) (i0 : Nat) (p0 : Nat) (k : Int32 → Option (Int32 × (Nat → Nat → Int64) × Bool × (Nat → Int32) × (Nat → Int32) × Int32 × (Nat → Int32) × Int32 × Int32 × Int32)) : Nat → Int32 → Option (Int32 × (Nat → Nat → Int64) × Bool × (Nat → Int32) × (Nat → Int32) × Int32 × (Nat → Int32) × Int32 × Int32 × Int32)
  | 0, _ => none
  | n + 1, v2_0 => (if (120 : Int32) < v2_0 then (k v2_0) else (zg (v2_0 < 0 ∨ 121 ≤ v2_0.toNatClampNeg) (zg (v2_0 < 0 ∨ 121 ≤ v2_0.toNatClampNeg) (if (lg_cmp (R i0 v2_0.toNatClampNeg) (R p0 v2_0.toNatClampNeg)) = 0 then (p_X4_firstUnlike_L0 F R b pr tm cn sm ac re kn i0 p0 k n (v2_0 + (1 : Int32))) else (some (v2_0, R, b, pr, tm, cn, sm, ac, re, kn))))))
noncomputable def p_X4_firstUnlike (F : Nat) (R : Nat → Nat → Int64) (b : Bool) (pr : Nat → Int32) (tm : Nat → Int32) (cn : Int32) (sm : Nat → Int32) (ac : Int32) (re : Int32) (kn : Int32) (i0 : Nat) (p0 : Nat) : Option (Int32 × (Nat → Nat → Int64) × Bool × (Nat → Int32) × (Nat → Int32) × Int32 × (Nat → Int32) × Int32 × Int32 × Int32) := (p_X4_firstUnlike_L0 F R b pr tm cn sm ac re kn i0 p0 (fun v2_0 => (some ((-1 : Int32), R, b, pr, tm, cn, sm, ac, re, kn))) F (1 : Int32))
theorem hdV_X4_firstUnlike : yX4_firstUnlike.cls = RX4 ∧ yX4_firstUnlike.cls ≠ "java/lang/invoke/MethodHandle" ∧ yX4_firstUnlike.cls ≠ "java/lang/invoke/VarHandle" ∧ (parseMethodDescriptor yX4_firstUnlike.desc).map (fun d => d.parameters.length) = some 1 := by decide +kernel
set_option maxHeartbeats 4000000 in
set_option maxRecDepth 100000 in
theorem c_X4_firstUnlike (l : Launch) (D : va_G) (a : Nat → Nat) (cJ cI cO cB : ClassId) (R : Nat → Nat → Int64) (b : Bool) (pr : Nat → Int32) (tm : Nat → Int32) (cn : Int32) (sm : Nat → Int32) (ac : Int32) (re : Int32) (kn : Int32) (F : Nat) (i0 : Nat) (p0 : Nat) (hi0 : i0 < 6) (hp0 : p0 < 6) (r : Int32) (R' : Nat → Nat → Int64) (b' : Bool) (pr' : Nat → Int32) (tm' : Nat → Int32) (cn' : Int32) (sm' : Nat → Int32) (ac' : Int32) (re' : Int32) (kn' : Int32) (h : p_X4_firstUnlike F R b pr tm cn sm ac re kn i0 p0 = some (r, R', b', pr', tm', cn', sm', ac', re', kn')) : zMi l yX4_firstUnlike wsX4_firstUnlike 0 0 0 0 D (zT cJ cI cO cB) [.ref (a (2 + i0)), .ref (a (2 + p0))] (cW a cJ cI cO R b pr tm cn sm ac re kn) (cW a cJ cI cO R' b' pr' tm' cn' sm' ac' re' kn') r := by
  intro sz
  delta zQi
  refine Met.ofW (cc := cX4_firstUnlike) (maxL := 3) (ret := (some .int)) (by decide) rfl ?_
  intro p e s m args below meth c s₁ B hml hv
  obtain ⟨rfl, hsz, hP, hK, hD0⟩ := hv
  have hx := B.exec
  have hb := B.bytes
  have hr := B.returns
  have hts := atoms_spec (ws := wsX4_firstUnlike) B.pre
  have hown : s.vm.findClass RX4 = some m.cls := findClass_of_methodNamed B.named
  have hlocks := B.notSynchronized
  subst hsz
  have hD := hD0.self (sz := s.heap.size)
  generalize hAe : va_A (cW a cJ cI cO R b pr tm cn sm ac re kn) s.heap.size = A at hD ⊢
  have hA : ∀ q : Nat, s.heap.size ≤ q → A q := fun q h => by rw [← hAe]; exact Or.inr h
  have hS : va_S A s.heap s.heap [] := va_S.rf
  have hl := lv_entry ([.ref (a (2 + i0)), .ref (a (2 + p0))]) (n := 3) (Nat.le_of_ble_eq_true rfl)
  rw [lg_entry_eq]
  generalize (lg_sl ([.ref (a (2 + i0)), .ref (a (2 + p0))]) ++ List.replicate (3 - (lg_sl ([.ref (a (2 + i0)), .ref (a (2 + p0))])).length) Slot.unset).toArray = ls at hl ⊢
  replace hl : lv_has ls 3 [(0, .ref (a (2 + i0))), (1, .ref (a (2 + p0)))] := hl
  have kwX4 : ∀ w ∈ u_ws RX4 TX4 1, w ∈ wsX4_firstUnlike := fun w h => List.mem_cons_of_mem _ (List.mem_append_right _ h)
  have kf_9 := hts (.fieldLink RX4 9 "Divisorwork$Row" "cells" "[J") (zmem 1 rfl)
  replace h : (p_X4_firstUnlike_L0 F R b pr tm cn sm ac re kn i0 p0 (fun v2_0 => (some ((-1 : Int32), R, b, pr, tm, cn, sm, ac, re, kn))) F (1 : Int32)) = some (r, R', b', pr', tm', cn', sm', ac', re', kn') := h
  refine zabs (fun G hG hGW => ?_)
  obtain ⟨H, hHe⟩ : ∃ H, H = s.heap := ⟨_, rfl⟩
  rw [← hHe] at hP
  replace hS : va_S A s.heap H [] := by rw [hHe]; exact hS
  refine zheap hHe ?_
  refine lv_iconst (v := (1 : Int32)) hx hb dX4_firstUnlike_0 (by decide) ?_
  refine lv_istore_n (lv' := [(2, .int (1 : Int32)), (0, .ref (a (2 + i0))), (1, .ref (a (2 + p0)))]) hx hb dX4_firstUnlike_1 rfl hl (by decide) rfl (fun ls hl => ?_)
  have X0 : ∀ (v2_0 : Int32) (H : Heap) (locs : List Loc) (ls : Array Slot), va_P D vwCl (cW a cJ cI cO R b pr tm cn sm ac re kn) H → va_D A (cW a cJ cI cO R b pr tm cn sm ac re kn) → va_S A s.heap H locs → lv_has ls 3 [(0, .ref (a (2 + i0))), (1, .ref (a (2 + p0))), (2, .int v2_0)] → (some ((-1 : Int32), R, b, pr, tm, cn, sm, ac, re, kn)) = some (r, R', b', pr', tm', cn', sm', ac', re', kn') → G H locs 0 0 (F0 m 32 ls []) := by
    intro v2_0 H locs ls hP hD hS hl h
    refine hG _ _ _ _ _ ?_
    refine lv_iconst (v := (-1 : Int32)) hx hb dX4_firstUnlike_32 (by decide) ?_
    have g0 := Option.some.inj h
    obtain ⟨h1, g1⟩ := Prod.mk.inj g0
    obtain ⟨h2, g2⟩ := Prod.mk.inj g1
    obtain ⟨h3, g3⟩ := Prod.mk.inj g2
    obtain ⟨h4, g4⟩ := Prod.mk.inj g3
    obtain ⟨h5, g5⟩ := Prod.mk.inj g4
    obtain ⟨h6, g6⟩ := Prod.mk.inj g5
    obtain ⟨h7, g7⟩ := Prod.mk.inj g6
    obtain ⟨h8, g8⟩ := Prod.mk.inj g7
    obtain ⟨h9, g9⟩ := Prod.mk.inj g8
    subst h1
    subst h2
    subst h3
    subst h4
    subst h5
    subst h6
    subst h7
    subst h8
    subst h9
    subst g9
    exact W.iret (v := (-1 : Int32)) hx hb hr (fun t ht hW => ⟨⟨(-1 : Int32), (), rfl, rfl, by rw [ht]; exact hP, va_K.moved hW.alike hK, hD⟩, hS.F ht⟩) hS.2.2 dX4_firstUnlike_33
  have L0 : ∀ (K0 : Int32 → Option (Int32 × (Nat → Nat → Int64) × Bool × (Nat → Int32) × (Nat → Int32) × Int32 × (Nat → Int32) × Int32 × Int32 × Int32)) (HX0 : ∀ (v2_0 : Int32) (H : Heap) (locs : List Loc) (ls : Array Slot), va_P D vwCl (cW a cJ cI cO R b pr tm cn sm ac re kn) H → va_D A (cW a cJ cI cO R b pr tm cn sm ac re kn) → va_S A s.heap H locs → lv_has ls 3 [(0, .ref (a (2 + i0))), (1, .ref (a (2 + p0))), (2, .int v2_0)] → K0 v2_0 = some (r, R', b', pr', tm', cn', sm', ac', re', kn') → G H locs 0 0 (F0 m 32 ls [])) (fu0 : Nat) (v2_0 : Int32) (H : Heap) (locs : List Loc) (ls : Array Slot), va_P D vwCl (cW a cJ cI cO R b pr tm cn sm ac re kn) H → va_D A (cW a cJ cI cO R b pr tm cn sm ac re kn) → va_S A s.heap H locs → lv_has ls 3 [(0, .ref (a (2 + i0))), (1, .ref (a (2 + p0))), (2, .int v2_0)] → p_X4_firstUnlike_L0 F R b pr tm cn sm ac re kn i0 p0 K0 fu0 v2_0 = some (r, R', b', pr', tm', cn', sm', ac', re', kn') → G H locs 0 0 (F0 m 2 ls []) := by
    intro K0 HX0 fu0
    induction fu0 with
    | zero =>
      intro v2_0 H locs ls hP hD hS hl h
      exact (zno h).elim
    | succ fu0 ih0 =>
      intro v2_0 H locs ls hP hD hS hl h
      refine hG _ _ _ _ _ ?_
      unfold p_X4_firstUnlike_L0 at h
      refine lv_iload_n hx hb dX4_firstUnlike_2 rfl (lv_at hl 2 rfl) ?_
      refine lv_bipush (v := (120 : Int32)) hx hb dX4_firstUnlike_3 (by decide) ?_
      refine lv_icmp_gt (tgt := 32) hx hb dX4_firstUnlike_5 (by decide) (fun c5 => ?_) (fun c5 => ?_)
      · replace h := zif_t h c5
        exact hGW _ _ _ _ _ (HX0 v2_0 _ _ ls hP hD hS (lv_sub hl [0, 1, 2] rfl) h)
      · replace h := zif_f h c5
        refine lv_aload_n hx hb dX4_firstUnlike_8 rfl (lv_at hl 0 rfl) ?_
        refine va_get (D := D) (ci := 6) (v := .ref (a (8 + i0))) (C := RX4) (T := TX4) (N := 1) hx hb hts kwX4 hown hK hP (2 + i0) (cW_row hi0) rfl 0 (by decide) kf_9 (fun _ h9 => h9) rfl dX4_firstUnlike_9 ?_
        refine lv_iload_n hx hb dX4_firstUnlike_12 rfl (lv_at hl 2 rfl) ?_
        obtain ⟨z13, h⟩ := zg_some h
        refine va_lald hx hb hK hP (8 + i0) 0 (cW_arr hi0) rfl z13 dX4_firstUnlike_13 ?_
        refine lv_aload_n hx hb dX4_firstUnlike_14 rfl (lv_at hl 1 rfl) ?_
        refine va_get (D := D) (ci := 6) (v := .ref (a (8 + p0))) (C := RX4) (T := TX4) (N := 1) hx hb hts kwX4 hown hK hP (2 + p0) (cW_row hp0) rfl 0 (by decide) kf_9 (fun _ h9 => h9) rfl dX4_firstUnlike_15 ?_
        refine lv_iload_n hx hb dX4_firstUnlike_18 rfl (lv_at hl 2 rfl) ?_
        obtain ⟨z19, h⟩ := zg_some h
        refine va_lald hx hb hK hP (8 + p0) 0 (cW_arr hp0) rfl z19 dX4_firstUnlike_19 ?_
        refine W.lcmp hx hb dX4_firstUnlike_20 ?_
        refine lv_if_eq (tgt := 26) hx hb dX4_firstUnlike_21 (by decide) (fun c21 => ?_) (fun c21 => ?_)
        · replace h := zif_t h c21
          refine lv_iinc (v := (v2_0 + (1 : Int32))) (lv' := [(2, .int (v2_0 + (1 : Int32))), (0, .ref (a (2 + i0))), (1, .ref (a (2 + p0)))]) hx hb dX4_firstUnlike_26 hl (k := 2) rfl rfl (by decide) rfl (fun ls hl => ?_)
          refine lv_goto (tgt := 2) hx hb dX4_firstUnlike_29 (by decide) ?_
          exact hGW _ _ _ _ _ (ih0 (v2_0 + (1 : Int32)) _ _ ls hP hD hS (lv_sub hl [1, 2, 0] rfl) h)
        · replace h := zif_f h c21
          refine lv_iload_n hx hb dX4_firstUnlike_24 rfl (lv_at hl 2 rfl) ?_
          have g0 := Option.some.inj h
          obtain ⟨h1, g1⟩ := Prod.mk.inj g0
          obtain ⟨h2, g2⟩ := Prod.mk.inj g1
          obtain ⟨h3, g3⟩ := Prod.mk.inj g2
          obtain ⟨h4, g4⟩ := Prod.mk.inj g3
          obtain ⟨h5, g5⟩ := Prod.mk.inj g4
          obtain ⟨h6, g6⟩ := Prod.mk.inj g5
          obtain ⟨h7, g7⟩ := Prod.mk.inj g6
          obtain ⟨h8, g8⟩ := Prod.mk.inj g7
          obtain ⟨h9, g9⟩ := Prod.mk.inj g8
          subst h1
          subst h2
          subst h3
          subst h4
          subst h5
          subst h6
          subst h7
          subst h8
          subst h9
          subst g9
          exact W.iret (v := v2_0) hx hb hr (fun t ht hW => ⟨⟨v2_0, (), rfl, rfl, by rw [ht]; exact hP, va_K.moved hW.alike hK, hD⟩, hS.F ht⟩) hS.2.2 dX4_firstUnlike_25
  exact hGW _ _ _ _ _ (L0 _ X0 F (1 : Int32) _ _ ls hP hD hS (lv_sub hl [1, 2, 0] rfl) h)

noncomputable def p_X4_isWithin_L0 (F : Nat) (R : Nat → Nat → Int64) (b : Bool) (pr : Nat → Int32) (tm : Nat → Int32) (cn : Int32) (sm : Nat → Int32) (ac : Int32) (re : Int32) (kn : Int32) (i0 : Nat) (p0 : Int32) (p1 : Int64) (k : Int32 → Option (Bool × (Nat → Nat → Int64) × Bool × (Nat → Int32) × (Nat → Int32) × Int32 × (Nat → Int32) × Int32 × Int32 × Int32)) : Nat → Int32 → Option (Bool × (Nat → Nat → Int64) × Bool × (Nat → Int32) × (Nat → Int32) × Int32 × (Nat → Int32) × Int32 × Int32 × Int32)
  | 0, _ => none
  | n + 1, v4_0 => (if p0 < v4_0 then (k v4_0) else (zb1 (p_X4_at R i0 v4_0) (fun r1 => (if 0 < (lg_cmp r1 p1) then (some (false, R, b, pr, tm, cn, sm, ac, re, kn)) else (zb1 (p_X4_at R i0 v4_0) (fun r3 => (if 0 ≤ (lg_cmp r3 (-p1)) then (p_X4_isWithin_L0 F R b pr tm cn sm ac re kn i0 p0 p1 k n (v4_0 + (1 : Int32))) else (some (false, R, b, pr, tm, cn, sm, ac, re, kn)))))))))
noncomputable def p_X4_isWithin (F : Nat) (R : Nat → Nat → Int64) (b : Bool) (pr : Nat → Int32) (tm : Nat → Int32) (cn : Int32) (sm : Nat → Int32) (ac : Int32) (re : Int32) (kn : Int32) (i0 : Nat) (p0 : Int32) (p1 : Int64) : Option (Bool × (Nat → Nat → Int64) × Bool × (Nat → Int32) × (Nat → Int32) × Int32 × (Nat → Int32) × Int32 × Int32 × Int32) := (p_X4_isWithin_L0 F R b pr tm cn sm ac re kn i0 p0 p1 (fun v4_0 => (some (true, R, b, pr, tm, cn, sm, ac, re, kn))) F (1 : Int32))
theorem hdV_X4_isWithin : yX4_isWithin.cls = RX4 ∧ yX4_isWithin.cls ≠ "java/lang/invoke/MethodHandle" ∧ yX4_isWithin.cls ≠ "java/lang/invoke/VarHandle" ∧ (parseMethodDescriptor yX4_isWithin.desc).map (fun d => d.parameters.length) = some 2 := by decide +kernel
set_option maxHeartbeats 4000000 in
set_option maxRecDepth 100000 in
theorem c_X4_isWithin (l : Launch) (D : va_G) (a : Nat → Nat) (cJ cI cO cB : ClassId) (R : Nat → Nat → Int64) (b : Bool) (pr : Nat → Int32) (tm : Nat → Int32) (cn : Int32) (sm : Nat → Int32) (ac : Int32) (re : Int32) (kn : Int32) (F : Nat) (i0 : Nat) (p0 : Int32) (p1 : Int64) (hi0 : i0 < 6) (r : Bool) (R' : Nat → Nat → Int64) (b' : Bool) (pr' : Nat → Int32) (tm' : Nat → Int32) (cn' : Int32) (sm' : Nat → Int32) (ac' : Int32) (re' : Int32) (kn' : Int32) (h : p_X4_isWithin F R b pr tm cn sm ac re kn i0 p0 p1 = some (r, R', b', pr', tm', cn', sm', ac', re', kn')) : zMi l yX4_isWithin wsX4_isWithin 1 21 0 0 D (zT cJ cI cO cB) [.ref (a (2 + i0)), .int p0, .long p1] (cW a cJ cI cO R b pr tm cn sm ac re kn) (cW a cJ cI cO R' b' pr' tm' cn' sm' ac' re' kn') (z01 r) := by
  intro sz
  delta zQi
  refine Met.ofW (cc := cX4_isWithin) (maxL := 5) (ret := (some .boolean)) (by decide) rfl ?_
  intro p e s m args below meth c s₁ B hml hv
  obtain ⟨rfl, hsz, hP, hK, hD0⟩ := hv
  have hx := B.exec
  have hb := B.bytes
  have hr := B.returns
  have hts := atoms_spec (ws := wsX4_isWithin) B.pre
  have hown : s.vm.findClass RX4 = some m.cls := findClass_of_methodNamed B.named
  have hlocks := B.notSynchronized
  subst hsz
  have hD := hD0.self (sz := s.heap.size)
  generalize hAe : va_A (cW a cJ cI cO R b pr tm cn sm ac re kn) s.heap.size = A at hD ⊢
  have hA : ∀ q : Nat, s.heap.size ≤ q → A q := fun q h => by rw [← hAe]; exact Or.inr h
  have hS : va_S A s.heap s.heap [] := va_S.rf
  have hl := lv_entry ([.ref (a (2 + i0)), .int p0, .long p1]) (n := 5) (Nat.le_of_ble_eq_true rfl)
  rw [lg_entry_eq]
  generalize (lg_sl ([.ref (a (2 + i0)), .int p0, .long p1]) ++ List.replicate (5 - (lg_sl ([.ref (a (2 + i0)), .int p0, .long p1])).length) Slot.unset).toArray = ls at hl ⊢
  replace hl : lv_has ls 5 [(0, .ref (a (2 + i0))), (1, .int p0), (2, .long p1)] := hl
  replace h : (p_X4_isWithin_L0 F R b pr tm cn sm ac re kn i0 p0 p1 (fun v4_0 => (some (true, R, b, pr, tm, cn, sm, ac, re, kn))) F (1 : Int32)) = some (r, R', b', pr', tm', cn', sm', ac', re', kn') := h
  refine zabs (fun G hG hGW => ?_)
  obtain ⟨H, hHe⟩ : ∃ H, H = s.heap := ⟨_, rfl⟩
  rw [← hHe] at hP
  replace hS : va_S A s.heap H [] := by rw [hHe]; exact hS
  refine zheap hHe ?_
  refine lv_iconst (v := (1 : Int32)) hx hb dX4_isWithin_0 (by decide) ?_
  refine lv_istore (lv' := [(4, .int (1 : Int32)), (0, .ref (a (2 + i0))), (1, .int p0), (2, .long p1)]) hx hb dX4_isWithin_1 hl (by decide) rfl (fun ls hl => ?_)
  have X0 : ∀ (v4_0 : Int32) (H : Heap) (locs : List Loc) (ls : Array Slot), va_P D vwCl (cW a cJ cI cO R b pr tm cn sm ac re kn) H → va_D A (cW a cJ cI cO R b pr tm cn sm ac re kn) → va_S A s.heap H locs → lv_has ls 5 [(0, .ref (a (2 + i0))), (1, .int p0), (2, .long p1), (4, .int v4_0)] → (some (true, R, b, pr, tm, cn, sm, ac, re, kn)) = some (r, R', b', pr', tm', cn', sm', ac', re', kn') → G H locs 0 0 (F0 m 40 ls []) := by
    intro v4_0 H locs ls hP hD hS hl h
    refine hG _ _ _ _ _ ?_
    refine lv_iconst (v := (1 : Int32)) hx hb dX4_isWithin_40 (by decide) ?_
    have g0 := Option.some.inj h
    obtain ⟨h1, g1⟩ := Prod.mk.inj g0
    obtain ⟨h2, g2⟩ := Prod.mk.inj g1
    obtain ⟨h3, g3⟩ := Prod.mk.inj g2
    obtain ⟨h4, g4⟩ := Prod.mk.inj g3
    obtain ⟨h5, g5⟩ := Prod.mk.inj g4
    obtain ⟨h6, g6⟩ := Prod.mk.inj g5
    obtain ⟨h7, g7⟩ := Prod.mk.inj g6
    obtain ⟨h8, g8⟩ := Prod.mk.inj g7
    obtain ⟨h9, g9⟩ := Prod.mk.inj g8
    subst h1
    subst h2
    subst h3
    subst h4
    subst h5
    subst h6
    subst h7
    subst h8
    subst h9
    subst g9
    exact W.zret (v := (1 : Int32)) hx hb hr (z01_nar true) (fun t ht hW => ⟨⟨(1 : Int32), (), rfl, rfl, by rw [ht]; exact hP, va_K.moved hW.alike hK, hD⟩, hS.F ht⟩) hS.2.2 dX4_isWithin_41
  have L0 : ∀ (K0 : Int32 → Option (Bool × (Nat → Nat → Int64) × Bool × (Nat → Int32) × (Nat → Int32) × Int32 × (Nat → Int32) × Int32 × Int32 × Int32)) (HX0 : ∀ (v4_0 : Int32) (H : Heap) (locs : List Loc) (ls : Array Slot), va_P D vwCl (cW a cJ cI cO R b pr tm cn sm ac re kn) H → va_D A (cW a cJ cI cO R b pr tm cn sm ac re kn) → va_S A s.heap H locs → lv_has ls 5 [(0, .ref (a (2 + i0))), (1, .int p0), (2, .long p1), (4, .int v4_0)] → K0 v4_0 = some (r, R', b', pr', tm', cn', sm', ac', re', kn') → G H locs 0 0 (F0 m 40 ls [])) (fu0 : Nat) (v4_0 : Int32) (H : Heap) (locs : List Loc) (ls : Array Slot), va_P D vwCl (cW a cJ cI cO R b pr tm cn sm ac re kn) H → va_D A (cW a cJ cI cO R b pr tm cn sm ac re kn) → va_S A s.heap H locs → lv_has ls 5 [(0, .ref (a (2 + i0))), (1, .int p0), (2, .long p1), (4, .int v4_0)] → p_X4_isWithin_L0 F R b pr tm cn sm ac re kn i0 p0 p1 K0 fu0 v4_0 = some (r, R', b', pr', tm', cn', sm', ac', re', kn') → G H locs 0 0 (F0 m 3 ls []) := by
    intro K0 HX0 fu0
    induction fu0 with
    | zero =>
      intro v4_0 H locs ls hP hD hS hl h
      exact (zno h).elim
    | succ fu0 ih0 =>
      intro v4_0 H locs ls hP hD hS hl h
      refine hG _ _ _ _ _ ?_
      unfold p_X4_isWithin_L0 at h
      refine lv_iload hx hb dX4_isWithin_3 (lv_at hl 3 rfl) ?_
      refine lv_iload_n hx hb dX4_isWithin_5 rfl (lv_at hl 1 rfl) ?_
      refine lv_icmp_gt (tgt := 40) hx hb dX4_isWithin_6 (by decide) (fun c6 => ?_) (fun c6 => ?_)
      · replace h := zif_t h c6
        exact hGW _ _ _ _ _ (HX0 v4_0 _ _ ls hP hD hS (lv_sub hl [0, 1, 2, 3] rfl) h)
      · replace h := zif_f h c6
        refine lv_aload_n hx hb dX4_isWithin_9 rfl (lv_at hl 0 rfl) ?_
        refine lv_iload hx hb dX4_isWithin_10 (lv_at hl 3 rfl) ?_
        obtain ⟨r1, e2, h⟩ := zb1_some h
        refine zgol (va_runV (As := [.int v4_0]) (rest := []) ⟨hx, hb, hml, hown, hts⟩ (c_X4_at l D a cJ cI cO cB R b pr tm cn sm ac re kn i0 v4_0 hi0 r1 e2 H.size) (cwV 1 hts gX4_isWithin_X4_at rfl rfl rfl hdV_X4_at ⟨Nat.le_of_ble_eq_true rfl, Nat.le_of_ble_eq_true rfl⟩) (zpreV (q0 := 2 + i0) (ci := 6) (T := TX4) (N := 1) hK hP hD (cW_row hi0) rfl [.int v4_0]) rfl rfl hl.1 rfl (lv_room (Nat.le_of_ble_eq_true rfl)) dX4_isWithin_12 ⟨Nat.le_of_ble_eq_true rfl, Nat.le_of_ble_eq_true rfl⟩) (zfree hD hS hA) (zjW hD hS hA) hS (fun H locs hP hD hS => ?_)
        replace hP : va_P D vwCl (cW a cJ cI cO R b pr tm cn sm ac re kn) H := hP
        replace hD : va_D A (cW a cJ cI cO R b pr tm cn sm ac re kn) := hD
        refine lv_lload_n hx hb dX4_isWithin_15 rfl (lv_at hl 2 rfl) ?_
        refine W.lcmp hx hb dX4_isWithin_16 ?_
        refine lv_if_gt (tgt := 32) hx hb dX4_isWithin_17 (by decide) (fun c17 => ?_) (fun c17 => ?_)
        · replace h := zif_t h c17
          refine lv_iconst (v := (0 : Int32)) hx hb dX4_isWithin_32 (by decide) ?_
          have g0 := Option.some.inj h
          obtain ⟨h1, g1⟩ := Prod.mk.inj g0
          obtain ⟨h2, g2⟩ := Prod.mk.inj g1
          obtain ⟨h3, g3⟩ := Prod.mk.inj g2
          obtain ⟨h4, g4⟩ := Prod.mk.inj g3
          obtain ⟨h5, g5⟩ := Prod.mk.inj g4
          obtain ⟨h6, g6⟩ := Prod.mk.inj g5
          obtain ⟨h7, g7⟩ := Prod.mk.inj g6
          obtain ⟨h8, g8⟩ := Prod.mk.inj g7
          obtain ⟨h9, g9⟩ := Prod.mk.inj g8
          subst h1
          subst h2
          subst h3
          subst h4
          subst h5
          subst h6
          subst h7
          subst h8
          subst h9
          subst g9
          exact W.zret (v := (0 : Int32)) hx hb hr (z01_nar false) (fun t ht hW => ⟨⟨(0 : Int32), (), rfl, rfl, by rw [ht]; exact hP, va_K.moved hW.alike hK, hD⟩, hS.F ht⟩) hS.2.2 dX4_isWithin_33
        · replace h := zif_f h c17
          refine lv_aload_n hx hb dX4_isWithin_20 rfl (lv_at hl 0 rfl) ?_
          refine lv_iload hx hb dX4_isWithin_21 (lv_at hl 3 rfl) ?_
          obtain ⟨r3, e4, h⟩ := zb1_some h
          refine zgol (va_runV (As := [.int v4_0]) (rest := []) ⟨hx, hb, hml, hown, hts⟩ (c_X4_at l D a cJ cI cO cB R b pr tm cn sm ac re kn i0 v4_0 hi0 r3 e4 H.size) (cwV 1 hts gX4_isWithin_X4_at rfl rfl rfl hdV_X4_at ⟨Nat.le_of_ble_eq_true rfl, Nat.le_of_ble_eq_true rfl⟩) (zpreV (q0 := 2 + i0) (ci := 6) (T := TX4) (N := 1) hK hP hD (cW_row hi0) rfl [.int v4_0]) rfl rfl hl.1 rfl (lv_room (Nat.le_of_ble_eq_true rfl)) dX4_isWithin_23 ⟨Nat.le_of_ble_eq_true rfl, Nat.le_of_ble_eq_true rfl⟩) (zfree hD hS hA) (zjW hD hS hA) hS (fun H locs hP hD hS => ?_)
          replace hP : va_P D vwCl (cW a cJ cI cO R b pr tm cn sm ac re kn) H := hP
          replace hD : va_D A (cW a cJ cI cO R b pr tm cn sm ac re kn) := hD
          refine lv_lload_n hx hb dX4_isWithin_26 rfl (lv_at hl 2 rfl) ?_
          refine lv_lneg hx hb dX4_isWithin_27 ?_
          refine W.lcmp hx hb dX4_isWithin_28 ?_
          refine lv_if_ge (tgt := 34) hx hb dX4_isWithin_29 (by decide) (fun c29 => ?_) (fun c29 => ?_)
          · replace h := zif_t h c29
            refine lv_iinc (v := (v4_0 + (1 : Int32))) (lv' := [(4, .int (v4_0 + (1 : Int32))), (0, .ref (a (2 + i0))), (1, .int p0), (2, .long p1)]) hx hb dX4_isWithin_34 hl (k := 3) rfl rfl (by decide) rfl (fun ls hl => ?_)
            refine lv_goto (tgt := 3) hx hb dX4_isWithin_37 (by decide) ?_
            exact hGW _ _ _ _ _ (ih0 (v4_0 + (1 : Int32)) _ _ ls hP hD hS (lv_sub hl [1, 2, 3, 0] rfl) h)
          · replace h := zif_f h c29
            refine lv_iconst (v := (0 : Int32)) hx hb dX4_isWithin_32 (by decide) ?_
            have g0 := Option.some.inj h
            obtain ⟨h1, g1⟩ := Prod.mk.inj g0
            obtain ⟨h2, g2⟩ := Prod.mk.inj g1
            obtain ⟨h3, g3⟩ := Prod.mk.inj g2
            obtain ⟨h4, g4⟩ := Prod.mk.inj g3
            obtain ⟨h5, g5⟩ := Prod.mk.inj g4
            obtain ⟨h6, g6⟩ := Prod.mk.inj g5
            obtain ⟨h7, g7⟩ := Prod.mk.inj g6
            obtain ⟨h8, g8⟩ := Prod.mk.inj g7
            obtain ⟨h9, g9⟩ := Prod.mk.inj g8
            subst h1
            subst h2
            subst h3
            subst h4
            subst h5
            subst h6
            subst h7
            subst h8
            subst h9
            subst g9
            exact W.zret (v := (0 : Int32)) hx hb hr (z01_nar false) (fun t ht hW => ⟨⟨(0 : Int32), (), rfl, rfl, by rw [ht]; exact hP, va_K.moved hW.alike hK, hD⟩, hS.F ht⟩) hS.2.2 dX4_isWithin_33
  exact hGW _ _ _ _ _ (L0 _ X0 F (1 : Int32) _ _ ls hP hD hS (lv_sub hl [1, 2, 3, 0] rfl) h)

noncomputable def p_X4_totalTo_L0 (F : Nat) (R : Nat → Nat → Int64) (i0 : Nat) (p0 : Int32) (k : Int64 → Int32 → Option Int64) : Nat → Int64 → Int32 → Option Int64
  | 0, _, _ => none
  | n + 1, v2_0, v4_0 => (if p0 < v4_0 then (k v2_0 v4_0) else (zb1 (p_X4_at R i0 v4_0) (fun r1 => (p_X4_totalTo_L0 F R i0 p0 k n (v2_0 + r1) (v4_0 + (1 : Int32))))))
noncomputable def p_X4_totalTo (F : Nat) (R : Nat → Nat → Int64) (i0 : Nat) (p0 : Int32) : Option Int64 := (p_X4_totalTo_L0 F R i0 p0 (fun v2_0 v4_0 => (some v2_0)) F (0 : Int64) (1 : Int32))
theorem hdV_X4_totalTo : yX4_totalTo.cls = RX4 ∧ yX4_totalTo.cls ≠ "java/lang/invoke/MethodHandle" ∧ yX4_totalTo.cls ≠ "java/lang/invoke/VarHandle" ∧ (parseMethodDescriptor yX4_totalTo.desc).map (fun d => d.parameters.length) = some 1 := by decide +kernel
set_option maxHeartbeats 4000000 in
set_option maxRecDepth 100000 in
theorem c_X4_totalTo (l : Launch) (D : va_G) (a : Nat → Nat) (cJ cI cO cB : ClassId) (R : Nat → Nat → Int64) (b : Bool) (pr : Nat → Int32) (tm : Nat → Int32) (cn : Int32) (sm : Nat → Int32) (ac : Int32) (re : Int32) (kn : Int32) (F : Nat) (i0 : Nat) (p0 : Int32) (hi0 : i0 < 6) (r : Int64) (h : p_X4_totalTo F R i0 p0 = some r) : zMl l yX4_totalTo wsX4_totalTo 1 21 0 0 D (zT cJ cI cO cB) [.ref (a (2 + i0)), .int p0] (cW a cJ cI cO R b pr tm cn sm ac re kn) (cW a cJ cI cO R b pr tm cn sm ac re kn) r := by
  intro sz
  delta zQl
  refine Met.ofW (cc := cX4_totalTo) (maxL := 5) (ret := (some .long)) (by decide) rfl ?_
  intro p e s m args below meth c s₁ B hml hv
  obtain ⟨rfl, hsz, hP, hK, hD0⟩ := hv
  have hx := B.exec
  have hb := B.bytes
  have hr := B.returns
  have hts := atoms_spec (ws := wsX4_totalTo) B.pre
  have hown : s.vm.findClass RX4 = some m.cls := findClass_of_methodNamed B.named
  have hlocks := B.notSynchronized
  subst hsz
  have hD := hD0.self (sz := s.heap.size)
  generalize hAe : va_A (cW a cJ cI cO R b pr tm cn sm ac re kn) s.heap.size = A at hD ⊢
  have hA : ∀ q : Nat, s.heap.size ≤ q → A q := fun q h => by rw [← hAe]; exact Or.inr h
  have hS : va_S A s.heap s.heap [] := va_S.rf
  have hl := lv_entry ([.ref (a (2 + i0)), .int p0]) (n := 5) (Nat.le_of_ble_eq_true rfl)
  rw [lg_entry_eq]
  generalize (lg_sl ([.ref (a (2 + i0)), .int p0]) ++ List.replicate (5 - (lg_sl ([.ref (a (2 + i0)), .int p0])).length) Slot.unset).toArray = ls at hl ⊢
  replace hl : lv_has ls 5 [(0, .ref (a (2 + i0))), (1, .int p0)] := hl
  replace h : (p_X4_totalTo_L0 F R i0 p0 (fun v2_0 v4_0 => (some v2_0)) F (0 : Int64) (1 : Int32)) = some r := h
  refine zabs (fun G hG hGW => ?_)
  obtain ⟨H, hHe⟩ : ∃ H, H = s.heap := ⟨_, rfl⟩
  rw [← hHe] at hP
  replace hS : va_S A s.heap H [] := by rw [hHe]; exact hS
  refine zheap hHe ?_
  refine lv_lconst (v := (0 : Int64)) hx hb dX4_totalTo_0 (by decide) ?_
  refine lv_lstore_n (lv' := [(2, .long (0 : Int64)), (0, .ref (a (2 + i0))), (1, .int p0)]) hx hb dX4_totalTo_1 rfl hl (by decide) rfl (fun ls hl => ?_)
  refine lv_iconst (v := (1 : Int32)) hx hb dX4_totalTo_2 (by decide) ?_
  refine lv_istore (lv' := [(4, .int (1 : Int32)), (2, .long (0 : Int64)), (0, .ref (a (2 + i0))), (1, .int p0)]) hx hb dX4_totalTo_3 hl (by decide) rfl (fun ls hl => ?_)
  have X0 : ∀ (v2_0 : Int64) (v4_0 : Int32) (H : Heap) (locs : List Loc) (ls : Array Slot), va_P D vwCl (cW a cJ cI cO R b pr tm cn sm ac re kn) H → va_D A (cW a cJ cI cO R b pr tm cn sm ac re kn) → va_S A s.heap H locs → lv_has ls 5 [(0, .ref (a (2 + i0))), (1, .int p0), (2, .long v2_0), (4, .int v4_0)] → (some v2_0) = some r → G H locs 0 0 (F0 m 26 ls []) := by
    intro v2_0 v4_0 H locs ls hP hD hS hl h
    refine hG _ _ _ _ _ ?_
    refine lv_lload_n hx hb dX4_totalTo_26 rfl (lv_at hl 2 rfl) ?_
    have h1 := Option.some.inj h
    subst h1
    exact W.lret (v := v2_0) hx hb hr (fun t ht hW => ⟨⟨v2_0, (), rfl, rfl, by rw [ht]; exact hP, va_K.moved hW.alike hK, hD⟩, hS.F ht⟩) hS.2.2 dX4_totalTo_27
  have L0 : ∀ (K0 : Int64 → Int32 → Option Int64) (HX0 : ∀ (v2_0 : Int64) (v4_0 : Int32) (H : Heap) (locs : List Loc) (ls : Array Slot), va_P D vwCl (cW a cJ cI cO R b pr tm cn sm ac re kn) H → va_D A (cW a cJ cI cO R b pr tm cn sm ac re kn) → va_S A s.heap H locs → lv_has ls 5 [(0, .ref (a (2 + i0))), (1, .int p0), (2, .long v2_0), (4, .int v4_0)] → K0 v2_0 v4_0 = some r → G H locs 0 0 (F0 m 26 ls [])) (fu0 : Nat) (v2_0 : Int64) (v4_0 : Int32) (H : Heap) (locs : List Loc) (ls : Array Slot), va_P D vwCl (cW a cJ cI cO R b pr tm cn sm ac re kn) H → va_D A (cW a cJ cI cO R b pr tm cn sm ac re kn) → va_S A s.heap H locs → lv_has ls 5 [(0, .ref (a (2 + i0))), (1, .int p0), (2, .long v2_0), (4, .int v4_0)] → p_X4_totalTo_L0 F R i0 p0 K0 fu0 v2_0 v4_0 = some r → G H locs 0 0 (F0 m 5 ls []) := by
    intro K0 HX0 fu0
    induction fu0 with
    | zero =>
      intro v2_0 v4_0 H locs ls hP hD hS hl h
      exact (zno h).elim
    | succ fu0 ih0 =>
      intro v2_0 v4_0 H locs ls hP hD hS hl h
      refine hG _ _ _ _ _ ?_
      unfold p_X4_totalTo_L0 at h
      refine lv_iload hx hb dX4_totalTo_5 (lv_at hl 3 rfl) ?_
      refine lv_iload_n hx hb dX4_totalTo_7 rfl (lv_at hl 1 rfl) ?_
      refine lv_icmp_gt (tgt := 26) hx hb dX4_totalTo_8 (by decide) (fun c8 => ?_) (fun c8 => ?_)
      · replace h := zif_t h c8
        exact hGW _ _ _ _ _ (HX0 v2_0 v4_0 _ _ ls hP hD hS (lv_sub hl [0, 1, 2, 3] rfl) h)
      · replace h := zif_f h c8
        refine lv_lload_n hx hb dX4_totalTo_11 rfl (lv_at hl 2 rfl) ?_
        refine lv_aload_n hx hb dX4_totalTo_12 rfl (lv_at hl 0 rfl) ?_
        refine lv_iload hx hb dX4_totalTo_13 (lv_at hl 3 rfl) ?_
        obtain ⟨r1, e2, h⟩ := zb1_some h
        refine zgol (va_runV (As := [.int v4_0]) (rest := [.long v2_0]) ⟨hx, hb, hml, hown, hts⟩ (c_X4_at l D a cJ cI cO cB R b pr tm cn sm ac re kn i0 v4_0 hi0 r1 e2 H.size) (cwV 1 hts gX4_totalTo_X4_at rfl rfl rfl hdV_X4_at ⟨Nat.le_of_ble_eq_true rfl, Nat.le_of_ble_eq_true rfl⟩) (zpreV (q0 := 2 + i0) (ci := 6) (T := TX4) (N := 1) hK hP hD (cW_row hi0) rfl [.int v4_0]) rfl rfl hl.1 rfl (lv_room (Nat.le_of_ble_eq_true rfl)) dX4_totalTo_15 ⟨Nat.le_of_ble_eq_true rfl, Nat.le_of_ble_eq_true rfl⟩) (zfree hD hS hA) (zjW hD hS hA) hS (fun H locs hP hD hS => ?_)
        replace hP : va_P D vwCl (cW a cJ cI cO R b pr tm cn sm ac re kn) H := hP
        replace hD : va_D A (cW a cJ cI cO R b pr tm cn sm ac re kn) := hD
        refine lv_ladd hx hb dX4_totalTo_18 ?_
        refine lv_lstore_n (lv' := [(2, .long (v2_0 + r1)), (0, .ref (a (2 + i0))), (1, .int p0), (4, .int v4_0)]) hx hb dX4_totalTo_19 rfl hl (by decide) rfl (fun ls hl => ?_)
        refine lv_iinc (v := (v4_0 + (1 : Int32))) (lv' := [(4, .int (v4_0 + (1 : Int32))), (2, .long (v2_0 + r1)), (0, .ref (a (2 + i0))), (1, .int p0)]) hx hb dX4_totalTo_20 hl (k := 3) rfl rfl (by decide) rfl (fun ls hl => ?_)
        refine lv_goto (tgt := 5) hx hb dX4_totalTo_23 (by decide) ?_
        exact hGW _ _ _ _ _ (ih0 (v2_0 + r1) (v4_0 + (1 : Int32)) _ _ ls hP hD hS (lv_sub hl [2, 3, 1, 0] rfl) h)
  exact hGW _ _ _ _ _ (L0 _ X0 F (0 : Int64) (1 : Int32) _ _ ls hP hD hS (lv_sub hl [2, 3, 1, 0] rfl) h)
