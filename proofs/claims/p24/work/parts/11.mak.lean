noncomputable def p_X0_layMet_L0 (F : Nat) (p0 : Int32) (p1 : Nat) (p2 : Nat) (p3 : Nat) (k : Int32 → (Nat → Nat → Int64) → Bool → Option (Bool × (Nat → Nat → Int64) × Bool)) : Nat → Int32 → (Nat → Nat → Int64) → Bool → Option (Bool × (Nat → Nat → Int64) × Bool)
  | 0, _, _, _ => none
  | n + 1, v5_0, RL0, bL0 => (if (120 : Int32) < v5_0 then (k v5_0 RL0 bL0) else (if ¬ p0 = 0 then (if ¬ p0 = (1 : Int32) then (zb1 (p_X4_at RL0 p1 v5_0) (fun r5 => (zb1 (p_X4_at RL0 p2 v5_0) (fun r7 => (zb2 (p_X3_times bL0 r5 r7) (fun r9 b_10 => (zb1 (p_X4_lay RL0 p3 v5_0 r9) (fun R_12 => (p_X0_layMet_L0 F p0 p1 p2 p3 k n (v5_0 + (1 : Int32)) R_12 b_10))))))))) else (zb1 (p_X4_at RL0 p1 v5_0) (fun r14 => (zb1 (p_X4_at RL0 p2 v5_0) (fun r16 => (zb2 (p_X3_minus bL0 r14 r16) (fun r18 b_19 => (zb1 (p_X4_lay RL0 p3 v5_0 r18) (fun R_21 => (p_X0_layMet_L0 F p0 p1 p2 p3 k n (v5_0 + (1 : Int32)) R_21 b_19)))))))))) else (zb1 (p_X4_at RL0 p1 v5_0) (fun r23 => (zb1 (p_X4_at RL0 p2 v5_0) (fun r25 => (zb2 (p_X3_plus bL0 r23 r25) (fun r27 b_28 => (zb1 (p_X4_lay RL0 p3 v5_0 r27) (fun R_30 => (p_X0_layMet_L0 F p0 p1 p2 p3 k n (v5_0 + (1 : Int32)) R_30 b_28)))))))))))
noncomputable def p_X0_layMet (F : Nat) (R : Nat → Nat → Int64) (p0 : Int32) (p1 : Nat) (p2 : Nat) (p3 : Nat) : Option (Bool × (Nat → Nat → Int64) × Bool) := (zb1 (p_X3_begin) (fun b_1 => (p_X0_layMet_L0 F p0 p1 p2 p3 (fun v5_0 RL0 bL0 => (zb1 (p_X3_isBeyond bL0) (fun r3 => (if ¬ (z01 r3) = 0 then (some (false, RL0, bL0)) else (some (true, RL0, bL0)))))) F (1 : Int32) R b_1)))
theorem hdV_X0_layMet : yX0_layMet.cls = RX0 ∧ yX0_layMet.cls ≠ "java/lang/invoke/MethodHandle" ∧ yX0_layMet.cls ≠ "java/lang/invoke/VarHandle" ∧ (parseMethodDescriptor yX0_layMet.desc).map (fun d => d.parameters.length) = some 4 := by decide +kernel
set_option maxHeartbeats 4000000 in
set_option maxRecDepth 100000 in
theorem c_X0_layMet (l : Launch) (D : va_G) (a : Nat → Nat) (cJ cI cO cB : ClassId) (R : Nat → Nat → Int64) (b : Bool) (pr : Nat → Int32) (tm : Nat → Int32) (cn : Int32) (sm : Nat → Int32) (ac : Int32) (re : Int32) (kn : Int32) (F : Nat) (p0 : Int32) (p1 : Nat) (p2 : Nat) (p3 : Nat) (hp1 : p1 < 6) (hp2 : p2 < 6) (hp3 : p3 < 6) (r : Bool) (R' : Nat → Nat → Int64) (b' : Bool) (h : p_X0_layMet F R p0 p1 p2 p3 = some (r, R', b')) : zMi l yX0_layMet wsX0_layMet 2 47 0 0 D (zT cJ cI cO cB) [.ref (a 16), .int p0, .ref (a (2 + p1)), .ref (a (2 + p2)), .ref (a (2 + p3))] (cW a cJ cI cO R b pr tm cn sm ac re kn) (cW a cJ cI cO R' b' pr tm cn sm ac re kn) (z01 r) := by
  intro sz
  delta zQi
  refine Met.ofW (cc := cX0_layMet) (maxL := 6) (ret := (some .boolean)) (by decide) rfl ?_
  intro p e s m args below meth c s₁ B hml hv
  obtain ⟨rfl, hsz, hP, hK, hD0⟩ := hv
  have hx := B.exec
  have hb := B.bytes
  have hr := B.returns
  have hts := atoms_spec (ws := wsX0_layMet) B.pre
  have hown : s.vm.findClass RX0 = some m.cls := findClass_of_methodNamed B.named
  have hlocks := B.notSynchronized
  subst hsz
  have hD := hD0.self (sz := s.heap.size)
  generalize hAe : va_A (cW a cJ cI cO R b pr tm cn sm ac re kn) s.heap.size = A at hD ⊢
  have hA : ∀ q : Nat, s.heap.size ≤ q → A q := fun q h => by rw [← hAe]; exact Or.inr h
  have hS : va_S A s.heap s.heap [] := va_S.rf
  have hl := lv_entry ([.ref (a 16), .int p0, .ref (a (2 + p1)), .ref (a (2 + p2)), .ref (a (2 + p3))]) (n := 6) (Nat.le_of_ble_eq_true rfl)
  rw [lg_entry_eq]
  generalize (lg_sl ([.ref (a 16), .int p0, .ref (a (2 + p1)), .ref (a (2 + p2)), .ref (a (2 + p3))]) ++ List.replicate (6 - (lg_sl ([.ref (a 16), .int p0, .ref (a (2 + p1)), .ref (a (2 + p2)), .ref (a (2 + p3))])).length) Slot.unset).toArray = ls at hl ⊢
  replace hl : lv_has ls 6 [(0, .ref (a 16)), (1, .int p0), (2, .ref (a (2 + p1))), (3, .ref (a (2 + p2))), (4, .ref (a (2 + p3)))] := hl
  have kwX0 : ∀ w ∈ u_ws RX0 TX0 2, w ∈ wsX0_layMet := fun w h => List.mem_cons_of_mem _ (List.mem_append_left _ (List.mem_append_left _ (List.mem_append_left _ (List.mem_append_left _ (List.mem_append_left _ (List.mem_append_left _ (List.mem_append_left _ (List.mem_append_right _ h))))))))
  have kf_9 := hts (.fieldLink RX0 9 "Divisorwork$Maker" "reckoning" "LDivisorwork$Reckoning;") (zmem 1 rfl)
  replace h : (zb1 (p_X3_begin) (fun b_1 => (p_X0_layMet_L0 F p0 p1 p2 p3 (fun v5_0 RL0 bL0 => (zb1 (p_X3_isBeyond bL0) (fun r3 => (if ¬ (z01 r3) = 0 then (some (false, RL0, bL0)) else (some (true, RL0, bL0)))))) F (1 : Int32) R b_1))) = some (r, R', b') := h
  refine zabs (fun G hG hGW => ?_)
  obtain ⟨H, hHe⟩ : ∃ H, H = s.heap := ⟨_, rfl⟩
  rw [← hHe] at hP
  replace hS : va_S A s.heap H [] := by rw [hHe]; exact hS
  refine zheap hHe ?_
  refine lv_aload_n hx hb dX0_layMet_0 rfl (lv_at hl 0 rfl) ?_
  refine va_get (D := D) (ci := 2) (v := .ref (a 14)) (C := RX0) (T := TX0) (N := 2) hx hb hts kwX0 hown hK hP 16 rfl rfl 0 (by decide) kf_9 (fun _ h9 => h9) rfl dX0_layMet_1 ?_
  obtain ⟨b_1, e2, h⟩ := zb1_some h
  refine zgov (va_runV (As := []) (rest := []) ⟨hx, hb, hml, hown, hts⟩ (c_X3_begin l D a cJ cI cO cB R b pr tm cn sm ac re kn b_1 e2 H.size) (cwV 0 hts gX0_layMet_X3_begin rfl rfl rfl hdV_X3_begin ⟨Nat.le_of_ble_eq_true rfl, Nat.le_of_ble_eq_true rfl⟩) (zpreV (q0 := 14) (ci := 5) (T := TX3) (N := 1) hK hP hD rfl rfl []) rfl rfl hl.1 rfl (lv_room (Nat.le_of_ble_eq_true rfl)) dX0_layMet_4 ⟨Nat.le_of_ble_eq_true rfl, Nat.le_of_ble_eq_true rfl⟩) (zfree hD hS hA) (zjW hD hS hA) hS (fun H locs hP hD hS => ?_)
  replace hP : va_P D vwCl (cW a cJ cI cO R b_1 pr tm cn sm ac re kn) H := hP
  replace hD : va_D A (cW a cJ cI cO R b_1 pr tm cn sm ac re kn) := hD
  refine lv_iconst (v := (1 : Int32)) hx hb dX0_layMet_7 (by decide) ?_
  refine lv_istore (lv' := [(5, .int (1 : Int32)), (0, .ref (a 16)), (1, .int p0), (2, .ref (a (2 + p1))), (3, .ref (a (2 + p2))), (4, .ref (a (2 + p3)))]) hx hb dX0_layMet_8 hl (by decide) rfl (fun ls hl => ?_)
  have X0 : ∀ (v5_0 : Int32) (RL0 : Nat → Nat → Int64) (bL0 : Bool) (H : Heap) (locs : List Loc) (ls : Array Slot), va_P D vwCl (cW a cJ cI cO RL0 bL0 pr tm cn sm ac re kn) H → va_D A (cW a cJ cI cO RL0 bL0 pr tm cn sm ac re kn) → va_S A s.heap H locs → lv_has ls 6 [(0, .ref (a 16)), (1, .int p0), (2, .ref (a (2 + p1))), (3, .ref (a (2 + p2))), (4, .ref (a (2 + p3))), (5, .int v5_0)] → (zb1 (p_X3_isBeyond bL0) (fun r3 => (if ¬ (z01 r3) = 0 then (some (false, RL0, bL0)) else (some (true, RL0, bL0))))) = some (r, R', b') → G H locs 0 0 (F0 m 116 ls []) := by
    intro v5_0 RL0 bL0 H locs ls hP hD hS hl h
    refine hG _ _ _ _ _ ?_
    refine lv_aload_n hx hb dX0_layMet_116 rfl (lv_at hl 0 rfl) ?_
    refine va_get (D := D) (ci := 2) (v := .ref (a 14)) (C := RX0) (T := TX0) (N := 2) hx hb hts kwX0 hown hK hP 16 rfl rfl 0 (by decide) kf_9 (fun _ h9 => h9) rfl dX0_layMet_117 ?_
    obtain ⟨r3, e4, h⟩ := zb1_some h
    refine zgoi (va_runV (As := []) (rest := []) ⟨hx, hb, hml, hown, hts⟩ (c_X3_isBeyond l D a cJ cI cO cB RL0 bL0 pr tm cn sm ac re kn r3 e4 H.size) (cwV 0 hts gX0_layMet_X3_isBeyond rfl rfl rfl hdV_X3_isBeyond ⟨Nat.le_of_ble_eq_true rfl, Nat.le_of_ble_eq_true rfl⟩) (zpreV (q0 := 14) (ci := 5) (T := TX3) (N := 1) hK hP hD rfl rfl []) rfl rfl hl.1 rfl (lv_room (Nat.le_of_ble_eq_true rfl)) dX0_layMet_120 ⟨Nat.le_of_ble_eq_true rfl, Nat.le_of_ble_eq_true rfl⟩) (zfree hD hS hA) (zjW hD hS hA) hS (fun H locs hP hD hS => ?_)
    replace hP : va_P D vwCl (cW a cJ cI cO RL0 bL0 pr tm cn sm ac re kn) H := hP
    replace hD : va_D A (cW a cJ cI cO RL0 bL0 pr tm cn sm ac re kn) := hD
    refine lv_if_ne (tgt := 130) hx hb dX0_layMet_123 (by decide) (fun c123 => ?_) (fun c123 => ?_)
    · replace h := zif_t h c123
      refine lv_iconst (v := (0 : Int32)) hx hb dX0_layMet_130 (by decide) ?_
      have g0 := Option.some.inj h
      obtain ⟨h1, g1⟩ := Prod.mk.inj g0
      obtain ⟨h2, g2⟩ := Prod.mk.inj g1
      subst h1
      subst h2
      subst g2
      exact W.zret (v := (0 : Int32)) hx hb hr (z01_nar false) (fun t ht hW => ⟨⟨(0 : Int32), (), rfl, rfl, by rw [ht]; exact hP, va_K.moved hW.alike hK, hD⟩, hS.F ht⟩) hS.2.2 dX0_layMet_131
    · replace h := zif_fn h c123
      refine lv_iconst (v := (1 : Int32)) hx hb dX0_layMet_126 (by decide) ?_
      refine lv_goto (tgt := 131) hx hb dX0_layMet_127 (by decide) ?_
      have g0 := Option.some.inj h
      obtain ⟨h1, g1⟩ := Prod.mk.inj g0
      obtain ⟨h2, g2⟩ := Prod.mk.inj g1
      subst h1
      subst h2
      subst g2
      exact W.zret (v := (1 : Int32)) hx hb hr (z01_nar true) (fun t ht hW => ⟨⟨(1 : Int32), (), rfl, rfl, by rw [ht]; exact hP, va_K.moved hW.alike hK, hD⟩, hS.F ht⟩) hS.2.2 dX0_layMet_131
  have L0 : ∀ (K0 : Int32 → (Nat → Nat → Int64) → Bool → Option (Bool × (Nat → Nat → Int64) × Bool)) (HX0 : ∀ (v5_0 : Int32) (RL0 : Nat → Nat → Int64) (bL0 : Bool) (H : Heap) (locs : List Loc) (ls : Array Slot), va_P D vwCl (cW a cJ cI cO RL0 bL0 pr tm cn sm ac re kn) H → va_D A (cW a cJ cI cO RL0 bL0 pr tm cn sm ac re kn) → va_S A s.heap H locs → lv_has ls 6 [(0, .ref (a 16)), (1, .int p0), (2, .ref (a (2 + p1))), (3, .ref (a (2 + p2))), (4, .ref (a (2 + p3))), (5, .int v5_0)] → K0 v5_0 RL0 bL0 = some (r, R', b') → G H locs 0 0 (F0 m 116 ls [])) (fu0 : Nat) (v5_0 : Int32) (RL0 : Nat → Nat → Int64) (bL0 : Bool) (H : Heap) (locs : List Loc) (ls : Array Slot), va_P D vwCl (cW a cJ cI cO RL0 bL0 pr tm cn sm ac re kn) H → va_D A (cW a cJ cI cO RL0 bL0 pr tm cn sm ac re kn) → va_S A s.heap H locs → lv_has ls 6 [(0, .ref (a 16)), (1, .int p0), (2, .ref (a (2 + p1))), (3, .ref (a (2 + p2))), (4, .ref (a (2 + p3))), (5, .int v5_0)] → p_X0_layMet_L0 F p0 p1 p2 p3 K0 fu0 v5_0 RL0 bL0 = some (r, R', b') → G H locs 0 0 (F0 m 10 ls []) := by
    intro K0 HX0 fu0
    induction fu0 with
    | zero =>
      intro v5_0 RL0 bL0 H locs ls hP hD hS hl h
      exact (zno h).elim
    | succ fu0 ih0 =>
      intro v5_0 RL0 bL0 H locs ls hP hD hS hl h
      refine hG _ _ _ _ _ ?_
      unfold p_X0_layMet_L0 at h
      refine lv_iload hx hb dX0_layMet_10 (lv_at hl 5 rfl) ?_
      refine lv_bipush (v := (120 : Int32)) hx hb dX0_layMet_12 (by decide) ?_
      refine lv_icmp_gt (tgt := 116) hx hb dX0_layMet_14 (by decide) (fun c14 => ?_) (fun c14 => ?_)
      · replace h := zif_t h c14
        exact hGW _ _ _ _ _ (HX0 v5_0 RL0 bL0 _ _ ls hP hD hS (lv_sub hl [0, 1, 2, 3, 4, 5] rfl) h)
      · replace h := zif_f h c14
        refine lv_iload_n hx hb dX0_layMet_17 rfl (lv_at hl 1 rfl) ?_
        refine lv_if_ne (tgt := 50) hx hb dX0_layMet_18 (by decide) (fun c18 => ?_) (fun c18 => ?_)
        · replace h := zif_t h c18
          refine lv_iload_n hx hb dX0_layMet_50 rfl (lv_at hl 1 rfl) ?_
          refine lv_iconst (v := (1 : Int32)) hx hb dX0_layMet_51 (by decide) ?_
          refine lv_icmp_ne (tgt := 84) hx hb dX0_layMet_52 (by decide) (fun c52 => ?_) (fun c52 => ?_)
          · replace h := zif_t h c52
            refine lv_aload hx hb dX0_layMet_84 (lv_at hl 4 rfl) ?_
            refine lv_iload hx hb dX0_layMet_86 (lv_at hl 5 rfl) ?_
            refine lv_aload_n hx hb dX0_layMet_88 rfl (lv_at hl 0 rfl) ?_
            refine va_get (D := D) (ci := 2) (v := .ref (a 14)) (C := RX0) (T := TX0) (N := 2) hx hb hts kwX0 hown hK hP 16 rfl rfl 0 (by decide) kf_9 (fun _ h9 => h9) rfl dX0_layMet_89 ?_
            refine lv_aload_n hx hb dX0_layMet_92 rfl (lv_at hl 2 rfl) ?_
            refine lv_iload hx hb dX0_layMet_93 (lv_at hl 5 rfl) ?_
            obtain ⟨r5, e6, h⟩ := zb1_some h
            refine zgol (va_runV (As := [.int v5_0]) (rest := [.ref (a 14), .int v5_0, .ref (a (2 + p3))]) ⟨hx, hb, hml, hown, hts⟩ (c_X4_at l D a cJ cI cO cB RL0 bL0 pr tm cn sm ac re kn p1 v5_0 hp1 r5 e6 H.size) (cwV 1 hts gX0_layMet_X4_at rfl rfl rfl hdV_X4_at ⟨Nat.le_of_ble_eq_true rfl, Nat.le_of_ble_eq_true rfl⟩) (zpreV (q0 := 2 + p1) (ci := 6) (T := TX4) (N := 1) hK hP hD (cW_row hp1) rfl [.int v5_0]) rfl rfl hl.1 rfl (lv_room (Nat.le_of_ble_eq_true rfl)) dX0_layMet_95 ⟨Nat.le_of_ble_eq_true rfl, Nat.le_of_ble_eq_true rfl⟩) (zfree hD hS hA) (zjW hD hS hA) hS (fun H locs hP hD hS => ?_)
            replace hP : va_P D vwCl (cW a cJ cI cO RL0 bL0 pr tm cn sm ac re kn) H := hP
            replace hD : va_D A (cW a cJ cI cO RL0 bL0 pr tm cn sm ac re kn) := hD
            refine lv_aload_n hx hb dX0_layMet_98 rfl (lv_at hl 3 rfl) ?_
            refine lv_iload hx hb dX0_layMet_99 (lv_at hl 5 rfl) ?_
            obtain ⟨r7, e8, h⟩ := zb1_some h
            refine zgol (va_runV (As := [.int v5_0]) (rest := [.long r5, .ref (a 14), .int v5_0, .ref (a (2 + p3))]) ⟨hx, hb, hml, hown, hts⟩ (c_X4_at l D a cJ cI cO cB RL0 bL0 pr tm cn sm ac re kn p2 v5_0 hp2 r7 e8 H.size) (cwV 1 hts gX0_layMet_X4_at rfl rfl rfl hdV_X4_at ⟨Nat.le_of_ble_eq_true rfl, Nat.le_of_ble_eq_true rfl⟩) (zpreV (q0 := 2 + p2) (ci := 6) (T := TX4) (N := 1) hK hP hD (cW_row hp2) rfl [.int v5_0]) rfl rfl hl.1 rfl (lv_room (Nat.le_of_ble_eq_true rfl)) dX0_layMet_101 ⟨Nat.le_of_ble_eq_true rfl, Nat.le_of_ble_eq_true rfl⟩) (zfree hD hS hA) (zjW hD hS hA) hS (fun H locs hP hD hS => ?_)
            replace hP : va_P D vwCl (cW a cJ cI cO RL0 bL0 pr tm cn sm ac re kn) H := hP
            replace hD : va_D A (cW a cJ cI cO RL0 bL0 pr tm cn sm ac re kn) := hD
            obtain ⟨r9, b_10, e11, h⟩ := zb2_some h
            refine zgol (va_runV (As := [.long r5, .long r7]) (rest := [.int v5_0, .ref (a (2 + p3))]) ⟨hx, hb, hml, hown, hts⟩ (c_X3_times l D a cJ cI cO cB RL0 bL0 pr tm cn sm ac re kn r5 r7 r9 b_10 e11 H.size) (cwV 2 hts gX0_layMet_X3_times rfl rfl rfl hdV_X3_times ⟨Nat.le_of_ble_eq_true rfl, Nat.le_of_ble_eq_true rfl⟩) (zpreV (q0 := 14) (ci := 5) (T := TX3) (N := 1) hK hP hD rfl rfl [.long r5, .long r7]) rfl rfl hl.1 rfl (lv_room (Nat.le_of_ble_eq_true rfl)) dX0_layMet_104 ⟨Nat.le_of_ble_eq_true rfl, Nat.le_of_ble_eq_true rfl⟩) (zfree hD hS hA) (zjW hD hS hA) hS (fun H locs hP hD hS => ?_)
            replace hP : va_P D vwCl (cW a cJ cI cO RL0 b_10 pr tm cn sm ac re kn) H := hP
            replace hD : va_D A (cW a cJ cI cO RL0 b_10 pr tm cn sm ac re kn) := hD
            obtain ⟨R_12, e13, h⟩ := zb1_some h
            refine zgov (va_runV (As := [.int v5_0, .long r9]) (rest := []) ⟨hx, hb, hml, hown, hts⟩ (c_X4_lay l D a cJ cI cO cB RL0 b_10 pr tm cn sm ac re kn p3 v5_0 r9 hp3 R_12 e13 H.size) (cwV 2 hts gX0_layMet_X4_lay rfl rfl rfl hdV_X4_lay ⟨Nat.le_of_ble_eq_true rfl, Nat.le_of_ble_eq_true rfl⟩) (zpreV (q0 := 2 + p3) (ci := 6) (T := TX4) (N := 1) hK hP hD (cW_row hp3) rfl [.int v5_0, .long r9]) rfl rfl hl.1 rfl (lv_room (Nat.le_of_ble_eq_true rfl)) dX0_layMet_107 ⟨Nat.le_of_ble_eq_true rfl, Nat.le_of_ble_eq_true rfl⟩) (zfree hD hS hA) (zjW hD hS hA) hS (fun H locs hP hD hS => ?_)
            replace hP : va_P D vwCl (cW a cJ cI cO R_12 b_10 pr tm cn sm ac re kn) H := hP
            replace hD : va_D A (cW a cJ cI cO R_12 b_10 pr tm cn sm ac re kn) := hD
            refine lv_iinc (v := (v5_0 + (1 : Int32))) (lv' := [(5, .int (v5_0 + (1 : Int32))), (0, .ref (a 16)), (1, .int p0), (2, .ref (a (2 + p1))), (3, .ref (a (2 + p2))), (4, .ref (a (2 + p3)))]) hx hb dX0_layMet_110 hl (k := 5) rfl rfl (by decide) rfl (fun ls hl => ?_)
            refine lv_goto (tgt := 10) hx hb dX0_layMet_113 (by decide) ?_
            exact hGW _ _ _ _ _ (ih0 (v5_0 + (1 : Int32)) R_12 b_10 _ _ ls hP hD hS (lv_sub hl [1, 2, 3, 4, 5, 0] rfl) h)
          · replace h := zif_fn h c52
            refine lv_aload hx hb dX0_layMet_55 (lv_at hl 4 rfl) ?_
            refine lv_iload hx hb dX0_layMet_57 (lv_at hl 5 rfl) ?_
            refine lv_aload_n hx hb dX0_layMet_59 rfl (lv_at hl 0 rfl) ?_
            refine va_get (D := D) (ci := 2) (v := .ref (a 14)) (C := RX0) (T := TX0) (N := 2) hx hb hts kwX0 hown hK hP 16 rfl rfl 0 (by decide) kf_9 (fun _ h9 => h9) rfl dX0_layMet_60 ?_
            refine lv_aload_n hx hb dX0_layMet_63 rfl (lv_at hl 2 rfl) ?_
            refine lv_iload hx hb dX0_layMet_64 (lv_at hl 5 rfl) ?_
            obtain ⟨r14, e15, h⟩ := zb1_some h
            refine zgol (va_runV (As := [.int v5_0]) (rest := [.ref (a 14), .int v5_0, .ref (a (2 + p3))]) ⟨hx, hb, hml, hown, hts⟩ (c_X4_at l D a cJ cI cO cB RL0 bL0 pr tm cn sm ac re kn p1 v5_0 hp1 r14 e15 H.size) (cwV 1 hts gX0_layMet_X4_at rfl rfl rfl hdV_X4_at ⟨Nat.le_of_ble_eq_true rfl, Nat.le_of_ble_eq_true rfl⟩) (zpreV (q0 := 2 + p1) (ci := 6) (T := TX4) (N := 1) hK hP hD (cW_row hp1) rfl [.int v5_0]) rfl rfl hl.1 rfl (lv_room (Nat.le_of_ble_eq_true rfl)) dX0_layMet_66 ⟨Nat.le_of_ble_eq_true rfl, Nat.le_of_ble_eq_true rfl⟩) (zfree hD hS hA) (zjW hD hS hA) hS (fun H locs hP hD hS => ?_)
            replace hP : va_P D vwCl (cW a cJ cI cO RL0 bL0 pr tm cn sm ac re kn) H := hP
            replace hD : va_D A (cW a cJ cI cO RL0 bL0 pr tm cn sm ac re kn) := hD
            refine lv_aload_n hx hb dX0_layMet_69 rfl (lv_at hl 3 rfl) ?_
            refine lv_iload hx hb dX0_layMet_70 (lv_at hl 5 rfl) ?_
            obtain ⟨r16, e17, h⟩ := zb1_some h
            refine zgol (va_runV (As := [.int v5_0]) (rest := [.long r14, .ref (a 14), .int v5_0, .ref (a (2 + p3))]) ⟨hx, hb, hml, hown, hts⟩ (c_X4_at l D a cJ cI cO cB RL0 bL0 pr tm cn sm ac re kn p2 v5_0 hp2 r16 e17 H.size) (cwV 1 hts gX0_layMet_X4_at rfl rfl rfl hdV_X4_at ⟨Nat.le_of_ble_eq_true rfl, Nat.le_of_ble_eq_true rfl⟩) (zpreV (q0 := 2 + p2) (ci := 6) (T := TX4) (N := 1) hK hP hD (cW_row hp2) rfl [.int v5_0]) rfl rfl hl.1 rfl (lv_room (Nat.le_of_ble_eq_true rfl)) dX0_layMet_72 ⟨Nat.le_of_ble_eq_true rfl, Nat.le_of_ble_eq_true rfl⟩) (zfree hD hS hA) (zjW hD hS hA) hS (fun H locs hP hD hS => ?_)
            replace hP : va_P D vwCl (cW a cJ cI cO RL0 bL0 pr tm cn sm ac re kn) H := hP
            replace hD : va_D A (cW a cJ cI cO RL0 bL0 pr tm cn sm ac re kn) := hD
            obtain ⟨r18, b_19, e20, h⟩ := zb2_some h
            refine zgol (va_runV (As := [.long r14, .long r16]) (rest := [.int v5_0, .ref (a (2 + p3))]) ⟨hx, hb, hml, hown, hts⟩ (c_X3_minus l D a cJ cI cO cB RL0 bL0 pr tm cn sm ac re kn r14 r16 r18 b_19 e20 H.size) (cwV 2 hts gX0_layMet_X3_minus rfl rfl rfl hdV_X3_minus ⟨Nat.le_of_ble_eq_true rfl, Nat.le_of_ble_eq_true rfl⟩) (zpreV (q0 := 14) (ci := 5) (T := TX3) (N := 1) hK hP hD rfl rfl [.long r14, .long r16]) rfl rfl hl.1 rfl (lv_room (Nat.le_of_ble_eq_true rfl)) dX0_layMet_75 ⟨Nat.le_of_ble_eq_true rfl, Nat.le_of_ble_eq_true rfl⟩) (zfree hD hS hA) (zjW hD hS hA) hS (fun H locs hP hD hS => ?_)
            replace hP : va_P D vwCl (cW a cJ cI cO RL0 b_19 pr tm cn sm ac re kn) H := hP
            replace hD : va_D A (cW a cJ cI cO RL0 b_19 pr tm cn sm ac re kn) := hD
            obtain ⟨R_21, e22, h⟩ := zb1_some h
            refine zgov (va_runV (As := [.int v5_0, .long r18]) (rest := []) ⟨hx, hb, hml, hown, hts⟩ (c_X4_lay l D a cJ cI cO cB RL0 b_19 pr tm cn sm ac re kn p3 v5_0 r18 hp3 R_21 e22 H.size) (cwV 2 hts gX0_layMet_X4_lay rfl rfl rfl hdV_X4_lay ⟨Nat.le_of_ble_eq_true rfl, Nat.le_of_ble_eq_true rfl⟩) (zpreV (q0 := 2 + p3) (ci := 6) (T := TX4) (N := 1) hK hP hD (cW_row hp3) rfl [.int v5_0, .long r18]) rfl rfl hl.1 rfl (lv_room (Nat.le_of_ble_eq_true rfl)) dX0_layMet_78 ⟨Nat.le_of_ble_eq_true rfl, Nat.le_of_ble_eq_true rfl⟩) (zfree hD hS hA) (zjW hD hS hA) hS (fun H locs hP hD hS => ?_)
            replace hP : va_P D vwCl (cW a cJ cI cO R_21 b_19 pr tm cn sm ac re kn) H := hP
            replace hD : va_D A (cW a cJ cI cO R_21 b_19 pr tm cn sm ac re kn) := hD
            refine lv_goto (tgt := 110) hx hb dX0_layMet_81 (by decide) ?_
            refine lv_iinc (v := (v5_0 + (1 : Int32))) (lv' := [(5, .int (v5_0 + (1 : Int32))), (0, .ref (a 16)), (1, .int p0), (2, .ref (a (2 + p1))), (3, .ref (a (2 + p2))), (4, .ref (a (2 + p3)))]) hx hb dX0_layMet_110 hl (k := 5) rfl rfl (by decide) rfl (fun ls hl => ?_)
            refine lv_goto (tgt := 10) hx hb dX0_layMet_113 (by decide) ?_
            exact hGW _ _ _ _ _ (ih0 (v5_0 + (1 : Int32)) R_21 b_19 _ _ ls hP hD hS (lv_sub hl [1, 2, 3, 4, 5, 0] rfl) h)
        · replace h := zif_fn h c18
          refine lv_aload hx hb dX0_layMet_21 (lv_at hl 4 rfl) ?_
          refine lv_iload hx hb dX0_layMet_23 (lv_at hl 5 rfl) ?_
          refine lv_aload_n hx hb dX0_layMet_25 rfl (lv_at hl 0 rfl) ?_
          refine va_get (D := D) (ci := 2) (v := .ref (a 14)) (C := RX0) (T := TX0) (N := 2) hx hb hts kwX0 hown hK hP 16 rfl rfl 0 (by decide) kf_9 (fun _ h9 => h9) rfl dX0_layMet_26 ?_
          refine lv_aload_n hx hb dX0_layMet_29 rfl (lv_at hl 2 rfl) ?_
          refine lv_iload hx hb dX0_layMet_30 (lv_at hl 5 rfl) ?_
          obtain ⟨r23, e24, h⟩ := zb1_some h
          refine zgol (va_runV (As := [.int v5_0]) (rest := [.ref (a 14), .int v5_0, .ref (a (2 + p3))]) ⟨hx, hb, hml, hown, hts⟩ (c_X4_at l D a cJ cI cO cB RL0 bL0 pr tm cn sm ac re kn p1 v5_0 hp1 r23 e24 H.size) (cwV 1 hts gX0_layMet_X4_at rfl rfl rfl hdV_X4_at ⟨Nat.le_of_ble_eq_true rfl, Nat.le_of_ble_eq_true rfl⟩) (zpreV (q0 := 2 + p1) (ci := 6) (T := TX4) (N := 1) hK hP hD (cW_row hp1) rfl [.int v5_0]) rfl rfl hl.1 rfl (lv_room (Nat.le_of_ble_eq_true rfl)) dX0_layMet_32 ⟨Nat.le_of_ble_eq_true rfl, Nat.le_of_ble_eq_true rfl⟩) (zfree hD hS hA) (zjW hD hS hA) hS (fun H locs hP hD hS => ?_)
          replace hP : va_P D vwCl (cW a cJ cI cO RL0 bL0 pr tm cn sm ac re kn) H := hP
          replace hD : va_D A (cW a cJ cI cO RL0 bL0 pr tm cn sm ac re kn) := hD
          refine lv_aload_n hx hb dX0_layMet_35 rfl (lv_at hl 3 rfl) ?_
          refine lv_iload hx hb dX0_layMet_36 (lv_at hl 5 rfl) ?_
          obtain ⟨r25, e26, h⟩ := zb1_some h
          refine zgol (va_runV (As := [.int v5_0]) (rest := [.long r23, .ref (a 14), .int v5_0, .ref (a (2 + p3))]) ⟨hx, hb, hml, hown, hts⟩ (c_X4_at l D a cJ cI cO cB RL0 bL0 pr tm cn sm ac re kn p2 v5_0 hp2 r25 e26 H.size) (cwV 1 hts gX0_layMet_X4_at rfl rfl rfl hdV_X4_at ⟨Nat.le_of_ble_eq_true rfl, Nat.le_of_ble_eq_true rfl⟩) (zpreV (q0 := 2 + p2) (ci := 6) (T := TX4) (N := 1) hK hP hD (cW_row hp2) rfl [.int v5_0]) rfl rfl hl.1 rfl (lv_room (Nat.le_of_ble_eq_true rfl)) dX0_layMet_38 ⟨Nat.le_of_ble_eq_true rfl, Nat.le_of_ble_eq_true rfl⟩) (zfree hD hS hA) (zjW hD hS hA) hS (fun H locs hP hD hS => ?_)
          replace hP : va_P D vwCl (cW a cJ cI cO RL0 bL0 pr tm cn sm ac re kn) H := hP
          replace hD : va_D A (cW a cJ cI cO RL0 bL0 pr tm cn sm ac re kn) := hD
          obtain ⟨r27, b_28, e29, h⟩ := zb2_some h
          refine zgol (va_runV (As := [.long r23, .long r25]) (rest := [.int v5_0, .ref (a (2 + p3))]) ⟨hx, hb, hml, hown, hts⟩ (c_X3_plus l D a cJ cI cO cB RL0 bL0 pr tm cn sm ac re kn r23 r25 r27 b_28 e29 H.size) (cwV 2 hts gX0_layMet_X3_plus rfl rfl rfl hdV_X3_plus ⟨Nat.le_of_ble_eq_true rfl, Nat.le_of_ble_eq_true rfl⟩) (zpreV (q0 := 14) (ci := 5) (T := TX3) (N := 1) hK hP hD rfl rfl [.long r23, .long r25]) rfl rfl hl.1 rfl (lv_room (Nat.le_of_ble_eq_true rfl)) dX0_layMet_41 ⟨Nat.le_of_ble_eq_true rfl, Nat.le_of_ble_eq_true rfl⟩) (zfree hD hS hA) (zjW hD hS hA) hS (fun H locs hP hD hS => ?_)
          replace hP : va_P D vwCl (cW a cJ cI cO RL0 b_28 pr tm cn sm ac re kn) H := hP
          replace hD : va_D A (cW a cJ cI cO RL0 b_28 pr tm cn sm ac re kn) := hD
          obtain ⟨R_30, e31, h⟩ := zb1_some h
          refine zgov (va_runV (As := [.int v5_0, .long r27]) (rest := []) ⟨hx, hb, hml, hown, hts⟩ (c_X4_lay l D a cJ cI cO cB RL0 b_28 pr tm cn sm ac re kn p3 v5_0 r27 hp3 R_30 e31 H.size) (cwV 2 hts gX0_layMet_X4_lay rfl rfl rfl hdV_X4_lay ⟨Nat.le_of_ble_eq_true rfl, Nat.le_of_ble_eq_true rfl⟩) (zpreV (q0 := 2 + p3) (ci := 6) (T := TX4) (N := 1) hK hP hD (cW_row hp3) rfl [.int v5_0, .long r27]) rfl rfl hl.1 rfl (lv_room (Nat.le_of_ble_eq_true rfl)) dX0_layMet_44 ⟨Nat.le_of_ble_eq_true rfl, Nat.le_of_ble_eq_true rfl⟩) (zfree hD hS hA) (zjW hD hS hA) hS (fun H locs hP hD hS => ?_)
          replace hP : va_P D vwCl (cW a cJ cI cO R_30 b_28 pr tm cn sm ac re kn) H := hP
          replace hD : va_D A (cW a cJ cI cO R_30 b_28 pr tm cn sm ac re kn) := hD
          refine lv_goto (tgt := 110) hx hb dX0_layMet_47 (by decide) ?_
          refine lv_iinc (v := (v5_0 + (1 : Int32))) (lv' := [(5, .int (v5_0 + (1 : Int32))), (0, .ref (a 16)), (1, .int p0), (2, .ref (a (2 + p1))), (3, .ref (a (2 + p2))), (4, .ref (a (2 + p3)))]) hx hb dX0_layMet_110 hl (k := 5) rfl rfl (by decide) rfl (fun ls hl => ?_)
          refine lv_goto (tgt := 10) hx hb dX0_layMet_113 (by decide) ?_
          exact hGW _ _ _ _ _ (ih0 (v5_0 + (1 : Int32)) R_30 b_28 _ _ ls hP hD hS (lv_sub hl [1, 2, 3, 4, 5, 0] rfl) h)
  exact hGW _ _ _ _ _ (L0 _ X0 F (1 : Int32) R b_1 _ _ ls hP hD hS (lv_sub hl [1, 2, 3, 4, 5, 0] rfl) h)

noncomputable def p_X0_hasInverse (R : Nat → Nat → Int64) (p0 : Nat) : Option Bool := (zb1 (p_X4_at R p0 (1 : Int32)) (fun r1 => (if (lg_cmp r1 (1 : Int64)) = 0 then (some true) else (zb1 (p_X4_at R p0 (1 : Int32)) (fun r3 => (if ¬ (lg_cmp r3 (-1 : Int64)) = 0 then (some false) else (some true)))))))
theorem hdV_X0_hasInverse : yX0_hasInverse.cls = RX0 ∧ yX0_hasInverse.cls ≠ "java/lang/invoke/MethodHandle" ∧ yX0_hasInverse.cls ≠ "java/lang/invoke/VarHandle" ∧ (parseMethodDescriptor yX0_hasInverse.desc).map (fun d => d.parameters.length) = some 1 := by decide +kernel
set_option maxHeartbeats 4000000 in
set_option maxRecDepth 100000 in
theorem c_X0_hasInverse (l : Launch) (D : va_G) (a : Nat → Nat) (cJ cI cO cB : ClassId) (R : Nat → Nat → Int64) (b : Bool) (pr : Nat → Int32) (tm : Nat → Int32) (cn : Int32) (sm : Nat → Int32) (ac : Int32) (re : Int32) (kn : Int32) (p0 : Nat) (hp0 : p0 < 6) (r : Bool) (h : p_X0_hasInverse R p0 = some r) : zMi l yX0_hasInverse wsX0_hasInverse 1 21 0 0 D (zT cJ cI cO cB) [.ref (a 16), .ref (a (2 + p0))] (cW a cJ cI cO R b pr tm cn sm ac re kn) (cW a cJ cI cO R b pr tm cn sm ac re kn) (z01 r) := by
  intro sz
  delta zQi
  refine Met.ofW (cc := cX0_hasInverse) (maxL := 2) (ret := (some .boolean)) (by decide) rfl ?_
  intro p e s m args below meth c s₁ B hml hv
  obtain ⟨rfl, hsz, hP, hK, hD0⟩ := hv
  have hx := B.exec
  have hb := B.bytes
  have hr := B.returns
  have hts := atoms_spec (ws := wsX0_hasInverse) B.pre
  have hown : s.vm.findClass RX0 = some m.cls := findClass_of_methodNamed B.named
  have hlocks := B.notSynchronized
  subst hsz
  have hD := hD0.self (sz := s.heap.size)
  generalize hAe : va_A (cW a cJ cI cO R b pr tm cn sm ac re kn) s.heap.size = A at hD ⊢
  have hA : ∀ q : Nat, s.heap.size ≤ q → A q := fun q h => by rw [← hAe]; exact Or.inr h
  have hS : va_S A s.heap s.heap [] := va_S.rf
  have hl := lv_entry ([.ref (a 16), .ref (a (2 + p0))]) (n := 2) (Nat.le_of_ble_eq_true rfl)
  rw [lg_entry_eq]
  generalize (lg_sl ([.ref (a 16), .ref (a (2 + p0))]) ++ List.replicate (2 - (lg_sl ([.ref (a 16), .ref (a (2 + p0))])).length) Slot.unset).toArray = ls at hl ⊢
  replace hl : lv_has ls 2 [(0, .ref (a 16)), (1, .ref (a (2 + p0)))] := hl
  have kc_67 := hts (.constantLong RX0 67 (-1)) (zmem 1 rfl)
  replace h : (zb1 (p_X4_at R p0 (1 : Int32)) (fun r1 => (if (lg_cmp r1 (1 : Int64)) = 0 then (some true) else (zb1 (p_X4_at R p0 (1 : Int32)) (fun r3 => (if ¬ (lg_cmp r3 (-1 : Int64)) = 0 then (some false) else (some true))))))) = some r := h
  obtain ⟨H, hHe⟩ : ∃ H, H = s.heap := ⟨_, rfl⟩
  rw [← hHe] at hP
  replace hS : va_S A s.heap H [] := by rw [hHe]; exact hS
  refine zheap hHe ?_
  refine lv_aload_n hx hb dX0_hasInverse_0 rfl (lv_at hl 1 rfl) ?_
  refine lv_iconst (v := (1 : Int32)) hx hb dX0_hasInverse_1 (by decide) ?_
  obtain ⟨r1, e2, h⟩ := zb1_some h
  refine zgol (va_runV (As := [.int (1 : Int32)]) (rest := []) ⟨hx, hb, hml, hown, hts⟩ (c_X4_at l D a cJ cI cO cB R b pr tm cn sm ac re kn p0 (1 : Int32) hp0 r1 e2 H.size) (cwV 1 hts gX0_hasInverse_X4_at rfl rfl rfl hdV_X4_at ⟨Nat.le_of_ble_eq_true rfl, Nat.le_of_ble_eq_true rfl⟩) (zpreV (q0 := 2 + p0) (ci := 6) (T := TX4) (N := 1) hK hP hD (cW_row hp0) rfl [.int (1 : Int32)]) rfl rfl hl.1 rfl (lv_room (Nat.le_of_ble_eq_true rfl)) dX0_hasInverse_2 ⟨Nat.le_of_ble_eq_true rfl, Nat.le_of_ble_eq_true rfl⟩) (zfree hD hS hA) (zjW hD hS hA) hS (fun H locs hP hD hS => ?_)
  replace hP : va_P D vwCl (cW a cJ cI cO R b pr tm cn sm ac re kn) H := hP
  replace hD : va_D A (cW a cJ cI cO R b pr tm cn sm ac re kn) := hD
  refine lv_lconst (v := (1 : Int64)) hx hb dX0_hasInverse_5 (by decide) ?_
  refine W.lcmp hx hb dX0_hasInverse_6 ?_
  refine lv_if_eq (tgt := 22) hx hb dX0_hasInverse_7 (by decide) (fun c7 => ?_) (fun c7 => ?_)
  · replace h := zif_t h c7
    refine lv_iconst (v := (1 : Int32)) hx hb dX0_hasInverse_22 (by decide) ?_
    refine lv_goto (tgt := 27) hx hb dX0_hasInverse_23 (by decide) ?_
    have h1 := Option.some.inj h
    subst h1
    exact W.zret (v := (1 : Int32)) hx hb hr (z01_nar true) (fun t ht hW => ⟨⟨(1 : Int32), (), rfl, rfl, by rw [ht]; exact hP, va_K.moved hW.alike hK, hD⟩, hS.F ht⟩) hS.2.2 dX0_hasInverse_27
  · replace h := zif_f h c7
    refine lv_aload_n hx hb dX0_hasInverse_10 rfl (lv_at hl 1 rfl) ?_
    refine lv_iconst (v := (1 : Int32)) hx hb dX0_hasInverse_11 (by decide) ?_
    obtain ⟨r3, e4, h⟩ := zb1_some h
    refine zgol (va_runV (As := [.int (1 : Int32)]) (rest := []) ⟨hx, hb, hml, hown, hts⟩ (c_X4_at l D a cJ cI cO cB R b pr tm cn sm ac re kn p0 (1 : Int32) hp0 r3 e4 H.size) (cwV 1 hts gX0_hasInverse_X4_at rfl rfl rfl hdV_X4_at ⟨Nat.le_of_ble_eq_true rfl, Nat.le_of_ble_eq_true rfl⟩) (zpreV (q0 := 2 + p0) (ci := 6) (T := TX4) (N := 1) hK hP hD (cW_row hp0) rfl [.int (1 : Int32)]) rfl rfl hl.1 rfl (lv_room (Nat.le_of_ble_eq_true rfl)) dX0_hasInverse_12 ⟨Nat.le_of_ble_eq_true rfl, Nat.le_of_ble_eq_true rfl⟩) (zfree hD hS hA) (zjW hD hS hA) hS (fun H locs hP hD hS => ?_)
    replace hP : va_P D vwCl (cW a cJ cI cO R b pr tm cn sm ac re kn) H := hP
    replace hD : va_D A (cW a cJ cI cO R b pr tm cn sm ac re kn) := hD
    refine lv_ldc2 hx hb hown kc_67 dX0_hasInverse_15 ?_
    refine W.lcmp hx hb dX0_hasInverse_18 ?_
    refine lv_if_ne (tgt := 26) hx hb dX0_hasInverse_19 (by decide) (fun c19 => ?_) (fun c19 => ?_)
    · replace h := zif_t h c19
      refine lv_iconst (v := (0 : Int32)) hx hb dX0_hasInverse_26 (by decide) ?_
      have h1 := Option.some.inj h
      subst h1
      exact W.zret (v := (0 : Int32)) hx hb hr (z01_nar false) (fun t ht hW => ⟨⟨(0 : Int32), (), rfl, rfl, by rw [ht]; exact hP, va_K.moved hW.alike hK, hD⟩, hS.F ht⟩) hS.2.2 dX0_hasInverse_27
    · replace h := zif_fn h c19
      refine lv_iconst (v := (1 : Int32)) hx hb dX0_hasInverse_22 (by decide) ?_
      refine lv_goto (tgt := 27) hx hb dX0_hasInverse_23 (by decide) ?_
      have h1 := Option.some.inj h
      subst h1
      exact W.zret (v := (1 : Int32)) hx hb hr (z01_nar true) (fun t ht hW => ⟨⟨(1 : Int32), (), rfl, rfl, by rw [ht]; exact hP, va_K.moved hW.alike hK, hD⟩, hS.F ht⟩) hS.2.2 dX0_hasInverse_27

noncomputable def p_X0_layInverse_L1 (F : Nat) (p0 : Nat) (p1 : Nat) (v3_0 : Int32) (RL0 : Nat → Nat → Int64) (k : Int64 → Int32 → Bool → Option (Bool × (Nat → Nat → Int64) × Bool)) : Nat → Int64 → Int32 → Bool → Option (Bool × (Nat → Nat → Int64) × Bool)
  | 0, _, _, _ => none
  | n + 1, v4_1, v6_1, bL1 => (if v3_0 < v6_1 then (k v4_1 v6_1 bL1) else (zg (v6_1 = 0) (if ¬ (zr v3_0 v6_1) = 0 then (p_X0_layInverse_L1 F p0 p1 v3_0 RL0 k n v4_1 (v6_1 + (1 : Int32)) bL1) else (zb1 (p_X4_at RL0 p0 v6_1) (fun r18 => (zg (v6_1 = 0) (zb1 (p_X4_at RL0 p1 (v3_0 / v6_1)) (fun r20 => (zb2 (p_X3_times bL1 r18 r20) (fun r22 b_23 => (zb2 (p_X3_plus b_23 v4_1 r22) (fun r25 b_26 => (p_X0_layInverse_L1 F p0 p1 v3_0 RL0 k n r25 (v6_1 + (1 : Int32)) b_26)))))))))))))
noncomputable def p_X0_layInverse_L0 (F : Nat) (p0 : Nat) (p1 : Nat) (k : Int32 → (Nat → Nat → Int64) → Bool → Option (Bool × (Nat → Nat → Int64) × Bool)) : Nat → Int32 → (Nat → Nat → Int64) → Bool → Option (Bool × (Nat → Nat → Int64) × Bool)
  | 0, _, _, _ => none
  | n + 1, v3_0, RL0, bL0 => (if (120 : Int32) < v3_0 then (k v3_0 RL0 bL0) else (p_X0_layInverse_L1 F p0 p1 v3_0 RL0 (fun v4_1 v6_1 bL1 => (zb1 (p_X4_at RL0 p0 (1 : Int32)) (fun r11 => (zb2 (p_X3_times bL1 v4_1 (-r11)) (fun r13 b_14 => (zb1 (p_X4_lay RL0 p1 v3_0 r13) (fun R_16 => (p_X0_layInverse_L0 F p0 p1 k n (v3_0 + (1 : Int32)) R_16 b_14)))))))) F (0 : Int64) (2 : Int32) bL0))
noncomputable def p_X0_layInverse (F : Nat) (R : Nat → Nat → Int64) (b : Bool) (p0 : Nat) (p1 : Nat) : Option (Bool × (Nat → Nat → Int64) × Bool) := (zb1 (p_X0_hasInverse R p0) (fun r1 => (if ¬ (z01 r1) = 0 then (zb1 (p_X3_begin) (fun b_3 => (zb1 (p_X4_at R p0 (1 : Int32)) (fun r5 => (zb1 (p_X4_lay R p1 (1 : Int32) r5) (fun R_7 => (p_X0_layInverse_L0 F p0 p1 (fun v3_0 RL0 bL0 => (zb1 (p_X3_isBeyond bL0) (fun r9 => (if ¬ (z01 r9) = 0 then (some (false, RL0, bL0)) else (some (true, RL0, bL0)))))) F (2 : Int32) R_7 b_3))))))) else (some (false, R, b)))))
theorem hdV_X0_layInverse : yX0_layInverse.cls = RX0 ∧ yX0_layInverse.cls ≠ "java/lang/invoke/MethodHandle" ∧ yX0_layInverse.cls ≠ "java/lang/invoke/VarHandle" ∧ (parseMethodDescriptor yX0_layInverse.desc).map (fun d => d.parameters.length) = some 2 := by decide +kernel
set_option maxHeartbeats 4000000 in
set_option maxRecDepth 100000 in
theorem c_X0_layInverse (l : Launch) (D : va_G) (a : Nat → Nat) (cJ cI cO cB : ClassId) (R : Nat → Nat → Int64) (b : Bool) (pr : Nat → Int32) (tm : Nat → Int32) (cn : Int32) (sm : Nat → Int32) (ac : Int32) (re : Int32) (kn : Int32) (F : Nat) (p0 : Nat) (p1 : Nat) (hp0 : p0 < 6) (hp1 : p1 < 6) (r : Bool) (R' : Nat → Nat → Int64) (b' : Bool) (h : p_X0_layInverse F R b p0 p1 = some (r, R', b')) : zMi l yX0_layInverse wsX0_layInverse 2 47 0 0 D (zT cJ cI cO cB) [.ref (a 16), .ref (a (2 + p0)), .ref (a (2 + p1))] (cW a cJ cI cO R b pr tm cn sm ac re kn) (cW a cJ cI cO R' b' pr tm cn sm ac re kn) (z01 r) := by
  intro sz
  delta zQi
  refine Met.ofW (cc := cX0_layInverse) (maxL := 7) (ret := (some .boolean)) (by decide) rfl ?_
  intro p e s m args below meth c s₁ B hml hv
  obtain ⟨rfl, hsz, hP, hK, hD0⟩ := hv
  have hx := B.exec
  have hb := B.bytes
  have hr := B.returns
  have hts := atoms_spec (ws := wsX0_layInverse) B.pre
  have hown : s.vm.findClass RX0 = some m.cls := findClass_of_methodNamed B.named
  have hlocks := B.notSynchronized
  subst hsz
  have hD := hD0.self (sz := s.heap.size)
  generalize hAe : va_A (cW a cJ cI cO R b pr tm cn sm ac re kn) s.heap.size = A at hD ⊢
  have hA : ∀ q : Nat, s.heap.size ≤ q → A q := fun q h => by rw [← hAe]; exact Or.inr h
  have hS : va_S A s.heap s.heap [] := va_S.rf
  have hl := lv_entry ([.ref (a 16), .ref (a (2 + p0)), .ref (a (2 + p1))]) (n := 7) (Nat.le_of_ble_eq_true rfl)
  rw [lg_entry_eq]
  generalize (lg_sl ([.ref (a 16), .ref (a (2 + p0)), .ref (a (2 + p1))]) ++ List.replicate (7 - (lg_sl ([.ref (a 16), .ref (a (2 + p0)), .ref (a (2 + p1))])).length) Slot.unset).toArray = ls at hl ⊢
  replace hl : lv_has ls 7 [(0, .ref (a 16)), (1, .ref (a (2 + p0))), (2, .ref (a (2 + p1)))] := hl
  have kwX0 : ∀ w ∈ u_ws RX0 TX0 2, w ∈ wsX0_layInverse := fun w h => List.mem_cons_of_mem _ (List.mem_append_left _ (List.mem_append_left _ (List.mem_append_left _ (List.mem_append_left _ (List.mem_append_left _ (List.mem_append_left _ (List.mem_append_left _ (List.mem_append_right _ h))))))))
  have kf_9 := hts (.fieldLink RX0 9 "Divisorwork$Maker" "reckoning" "LDivisorwork$Reckoning;") (zmem 1 rfl)
  replace h : (zb1 (p_X0_hasInverse R p0) (fun r1 => (if ¬ (z01 r1) = 0 then (zb1 (p_X3_begin) (fun b_3 => (zb1 (p_X4_at R p0 (1 : Int32)) (fun r5 => (zb1 (p_X4_lay R p1 (1 : Int32) r5) (fun R_7 => (p_X0_layInverse_L0 F p0 p1 (fun v3_0 RL0 bL0 => (zb1 (p_X3_isBeyond bL0) (fun r9 => (if ¬ (z01 r9) = 0 then (some (false, RL0, bL0)) else (some (true, RL0, bL0)))))) F (2 : Int32) R_7 b_3))))))) else (some (false, R, b))))) = some (r, R', b') := h
  refine zabs (fun G hG hGW => ?_)
  obtain ⟨H, hHe⟩ : ∃ H, H = s.heap := ⟨_, rfl⟩
  rw [← hHe] at hP
  replace hS : va_S A s.heap H [] := by rw [hHe]; exact hS
  refine zheap hHe ?_
  refine lv_aload_n hx hb dX0_layInverse_0 rfl (lv_at hl 0 rfl) ?_
  refine lv_aload_n hx hb dX0_layInverse_1 rfl (lv_at hl 1 rfl) ?_
  obtain ⟨r1, e2, h⟩ := zb1_some h
  refine zgoi (va_runV (As := [.ref (a (2 + p0))]) (rest := []) ⟨hx, hb, hml, hown, hts⟩ (c_X0_hasInverse l D a cJ cI cO cB R b pr tm cn sm ac re kn p0 hp0 r1 e2 H.size) (cwV 1 hts gX0_layInverse_X0_hasInverse rfl rfl rfl hdV_X0_hasInverse ⟨Nat.le_of_ble_eq_true rfl, Nat.le_of_ble_eq_true rfl⟩) (zpreV (q0 := 16) (ci := 2) (T := TX0) (N := 2) hK hP hD rfl rfl [.ref (a (2 + p0))]) rfl rfl hl.1 rfl (lv_room (Nat.le_of_ble_eq_true rfl)) dX0_layInverse_2 ⟨Nat.le_of_ble_eq_true rfl, Nat.le_of_ble_eq_true rfl⟩) (zfree hD hS hA) (zjW hD hS hA) hS (fun H locs hP hD hS => ?_)
  replace hP : va_P D vwCl (cW a cJ cI cO R b pr tm cn sm ac re kn) H := hP
  replace hD : va_D A (cW a cJ cI cO R b pr tm cn sm ac re kn) := hD
  refine lv_if_ne (tgt := 10) hx hb dX0_layInverse_5 (by decide) (fun c5 => ?_) (fun c5 => ?_)
  · replace h := zif_t h c5
    refine lv_aload_n hx hb dX0_layInverse_10 rfl (lv_at hl 0 rfl) ?_
    refine va_get (D := D) (ci := 2) (v := .ref (a 14)) (C := RX0) (T := TX0) (N := 2) hx hb hts kwX0 hown hK hP 16 rfl rfl 0 (by decide) kf_9 (fun _ h9 => h9) rfl dX0_layInverse_11 ?_
    obtain ⟨b_3, e4, h⟩ := zb1_some h
    refine zgov (va_runV (As := []) (rest := []) ⟨hx, hb, hml, hown, hts⟩ (c_X3_begin l D a cJ cI cO cB R b pr tm cn sm ac re kn b_3 e4 H.size) (cwV 0 hts gX0_layInverse_X3_begin rfl rfl rfl hdV_X3_begin ⟨Nat.le_of_ble_eq_true rfl, Nat.le_of_ble_eq_true rfl⟩) (zpreV (q0 := 14) (ci := 5) (T := TX3) (N := 1) hK hP hD rfl rfl []) rfl rfl hl.1 rfl (lv_room (Nat.le_of_ble_eq_true rfl)) dX0_layInverse_14 ⟨Nat.le_of_ble_eq_true rfl, Nat.le_of_ble_eq_true rfl⟩) (zfree hD hS hA) (zjW hD hS hA) hS (fun H locs hP hD hS => ?_)
    replace hP : va_P D vwCl (cW a cJ cI cO R b_3 pr tm cn sm ac re kn) H := hP
    replace hD : va_D A (cW a cJ cI cO R b_3 pr tm cn sm ac re kn) := hD
    refine lv_aload_n hx hb dX0_layInverse_17 rfl (lv_at hl 2 rfl) ?_
    refine lv_iconst (v := (1 : Int32)) hx hb dX0_layInverse_18 (by decide) ?_
    refine lv_aload_n hx hb dX0_layInverse_19 rfl (lv_at hl 1 rfl) ?_
    refine lv_iconst (v := (1 : Int32)) hx hb dX0_layInverse_20 (by decide) ?_
    obtain ⟨r5, e6, h⟩ := zb1_some h
    refine zgol (va_runV (As := [.int (1 : Int32)]) (rest := [.int (1 : Int32), .ref (a (2 + p1))]) ⟨hx, hb, hml, hown, hts⟩ (c_X4_at l D a cJ cI cO cB R b_3 pr tm cn sm ac re kn p0 (1 : Int32) hp0 r5 e6 H.size) (cwV 1 hts gX0_layInverse_X4_at rfl rfl rfl hdV_X4_at ⟨Nat.le_of_ble_eq_true rfl, Nat.le_of_ble_eq_true rfl⟩) (zpreV (q0 := 2 + p0) (ci := 6) (T := TX4) (N := 1) hK hP hD (cW_row hp0) rfl [.int (1 : Int32)]) rfl rfl hl.1 rfl (lv_room (Nat.le_of_ble_eq_true rfl)) dX0_layInverse_21 ⟨Nat.le_of_ble_eq_true rfl, Nat.le_of_ble_eq_true rfl⟩) (zfree hD hS hA) (zjW hD hS hA) hS (fun H locs hP hD hS => ?_)
    replace hP : va_P D vwCl (cW a cJ cI cO R b_3 pr tm cn sm ac re kn) H := hP
    replace hD : va_D A (cW a cJ cI cO R b_3 pr tm cn sm ac re kn) := hD
    obtain ⟨R_7, e8, h⟩ := zb1_some h
    refine zgov (va_runV (As := [.int (1 : Int32), .long r5]) (rest := []) ⟨hx, hb, hml, hown, hts⟩ (c_X4_lay l D a cJ cI cO cB R b_3 pr tm cn sm ac re kn p1 (1 : Int32) r5 hp1 R_7 e8 H.size) (cwV 2 hts gX0_layInverse_X4_lay rfl rfl rfl hdV_X4_lay ⟨Nat.le_of_ble_eq_true rfl, Nat.le_of_ble_eq_true rfl⟩) (zpreV (q0 := 2 + p1) (ci := 6) (T := TX4) (N := 1) hK hP hD (cW_row hp1) rfl [.int (1 : Int32), .long r5]) rfl rfl hl.1 rfl (lv_room (Nat.le_of_ble_eq_true rfl)) dX0_layInverse_24 ⟨Nat.le_of_ble_eq_true rfl, Nat.le_of_ble_eq_true rfl⟩) (zfree hD hS hA) (zjW hD hS hA) hS (fun H locs hP hD hS => ?_)
    replace hP : va_P D vwCl (cW a cJ cI cO R_7 b_3 pr tm cn sm ac re kn) H := hP
    replace hD : va_D A (cW a cJ cI cO R_7 b_3 pr tm cn sm ac re kn) := hD
    refine lv_iconst (v := (2 : Int32)) hx hb dX0_layInverse_27 (by decide) ?_
    refine lv_istore_n (lv' := [(3, .int (2 : Int32)), (0, .ref (a 16)), (1, .ref (a (2 + p0))), (2, .ref (a (2 + p1)))]) hx hb dX0_layInverse_28 rfl hl (by decide) rfl (fun ls hl => ?_)
    have X0 : ∀ (v3_0 : Int32) (RL0 : Nat → Nat → Int64) (bL0 : Bool) (H : Heap) (locs : List Loc) (ls : Array Slot), va_P D vwCl (cW a cJ cI cO RL0 bL0 pr tm cn sm ac re kn) H → va_D A (cW a cJ cI cO RL0 bL0 pr tm cn sm ac re kn) → va_S A s.heap H locs → lv_has ls 7 [(0, .ref (a 16)), (1, .ref (a (2 + p0))), (2, .ref (a (2 + p1))), (3, .int v3_0)] → (zb1 (p_X3_isBeyond bL0) (fun r9 => (if ¬ (z01 r9) = 0 then (some (false, RL0, bL0)) else (some (true, RL0, bL0))))) = some (r, R', b') → G H locs 0 0 (F0 m 118 ls []) := by
      intro v3_0 RL0 bL0 H locs ls hP hD hS hl h
      refine hG _ _ _ _ _ ?_
      refine lv_aload_n hx hb dX0_layInverse_118 rfl (lv_at hl 0 rfl) ?_
      refine va_get (D := D) (ci := 2) (v := .ref (a 14)) (C := RX0) (T := TX0) (N := 2) hx hb hts kwX0 hown hK hP 16 rfl rfl 0 (by decide) kf_9 (fun _ h9 => h9) rfl dX0_layInverse_119 ?_
      obtain ⟨r9, e10, h⟩ := zb1_some h
      refine zgoi (va_runV (As := []) (rest := []) ⟨hx, hb, hml, hown, hts⟩ (c_X3_isBeyond l D a cJ cI cO cB RL0 bL0 pr tm cn sm ac re kn r9 e10 H.size) (cwV 0 hts gX0_layInverse_X3_isBeyond rfl rfl rfl hdV_X3_isBeyond ⟨Nat.le_of_ble_eq_true rfl, Nat.le_of_ble_eq_true rfl⟩) (zpreV (q0 := 14) (ci := 5) (T := TX3) (N := 1) hK hP hD rfl rfl []) rfl rfl hl.1 rfl (lv_room (Nat.le_of_ble_eq_true rfl)) dX0_layInverse_122 ⟨Nat.le_of_ble_eq_true rfl, Nat.le_of_ble_eq_true rfl⟩) (zfree hD hS hA) (zjW hD hS hA) hS (fun H locs hP hD hS => ?_)
      replace hP : va_P D vwCl (cW a cJ cI cO RL0 bL0 pr tm cn sm ac re kn) H := hP
      replace hD : va_D A (cW a cJ cI cO RL0 bL0 pr tm cn sm ac re kn) := hD
      refine lv_if_ne (tgt := 132) hx hb dX0_layInverse_125 (by decide) (fun c125 => ?_) (fun c125 => ?_)
      · replace h := zif_t h c125
        refine lv_iconst (v := (0 : Int32)) hx hb dX0_layInverse_132 (by decide) ?_
        have g0 := Option.some.inj h
        obtain ⟨h1, g1⟩ := Prod.mk.inj g0
        obtain ⟨h2, g2⟩ := Prod.mk.inj g1
        subst h1
        subst h2
        subst g2
        exact W.zret (v := (0 : Int32)) hx hb hr (z01_nar false) (fun t ht hW => ⟨⟨(0 : Int32), (), rfl, rfl, by rw [ht]; exact hP, va_K.moved hW.alike hK, hD⟩, hS.F ht⟩) hS.2.2 dX0_layInverse_133
      · replace h := zif_fn h c125
        refine lv_iconst (v := (1 : Int32)) hx hb dX0_layInverse_128 (by decide) ?_
        refine lv_goto (tgt := 133) hx hb dX0_layInverse_129 (by decide) ?_
        have g0 := Option.some.inj h
        obtain ⟨h1, g1⟩ := Prod.mk.inj g0
        obtain ⟨h2, g2⟩ := Prod.mk.inj g1
        subst h1
        subst h2
        subst g2
        exact W.zret (v := (1 : Int32)) hx hb hr (z01_nar true) (fun t ht hW => ⟨⟨(1 : Int32), (), rfl, rfl, by rw [ht]; exact hP, va_K.moved hW.alike hK, hD⟩, hS.F ht⟩) hS.2.2 dX0_layInverse_133
    have L0 : ∀ (K0 : Int32 → (Nat → Nat → Int64) → Bool → Option (Bool × (Nat → Nat → Int64) × Bool)) (HX0 : ∀ (v3_0 : Int32) (RL0 : Nat → Nat → Int64) (bL0 : Bool) (H : Heap) (locs : List Loc) (ls : Array Slot), va_P D vwCl (cW a cJ cI cO RL0 bL0 pr tm cn sm ac re kn) H → va_D A (cW a cJ cI cO RL0 bL0 pr tm cn sm ac re kn) → va_S A s.heap H locs → lv_has ls 7 [(0, .ref (a 16)), (1, .ref (a (2 + p0))), (2, .ref (a (2 + p1))), (3, .int v3_0)] → K0 v3_0 RL0 bL0 = some (r, R', b') → G H locs 0 0 (F0 m 118 ls [])) (fu0 : Nat) (v3_0 : Int32) (RL0 : Nat → Nat → Int64) (bL0 : Bool) (H : Heap) (locs : List Loc) (ls : Array Slot), va_P D vwCl (cW a cJ cI cO RL0 bL0 pr tm cn sm ac re kn) H → va_D A (cW a cJ cI cO RL0 bL0 pr tm cn sm ac re kn) → va_S A s.heap H locs → lv_has ls 7 [(0, .ref (a 16)), (1, .ref (a (2 + p0))), (2, .ref (a (2 + p1))), (3, .int v3_0)] → p_X0_layInverse_L0 F p0 p1 K0 fu0 v3_0 RL0 bL0 = some (r, R', b') → G H locs 0 0 (F0 m 29 ls []) := by
      intro K0 HX0 fu0
      induction fu0 with
      | zero =>
        intro v3_0 RL0 bL0 H locs ls hP hD hS hl h
        exact (zno h).elim
      | succ fu0 ih0 =>
        intro v3_0 RL0 bL0 H locs ls hP hD hS hl h
        refine hG _ _ _ _ _ ?_
        unfold p_X0_layInverse_L0 at h
        refine lv_iload_n hx hb dX0_layInverse_29 rfl (lv_at hl 3 rfl) ?_
        refine lv_bipush (v := (120 : Int32)) hx hb dX0_layInverse_30 (by decide) ?_
        refine lv_icmp_gt (tgt := 118) hx hb dX0_layInverse_32 (by decide) (fun c32 => ?_) (fun c32 => ?_)
        · replace h := zif_t h c32
          exact hGW _ _ _ _ _ (HX0 v3_0 RL0 bL0 _ _ ls hP hD hS (lv_sub hl [0, 1, 2, 3] rfl) h)
        · replace h := zif_f h c32
          refine lv_lconst (v := (0 : Int64)) hx hb dX0_layInverse_35 (by decide) ?_
          refine lv_lstore (lv' := [(4, .long (0 : Int64)), (0, .ref (a 16)), (1, .ref (a (2 + p0))), (2, .ref (a (2 + p1))), (3, .int v3_0)]) hx hb dX0_layInverse_36 hl (by decide) rfl (fun ls hl => ?_)
          refine lv_iconst (v := (2 : Int32)) hx hb dX0_layInverse_38 (by decide) ?_
          refine lv_istore (lv' := [(6, .int (2 : Int32)), (4, .long (0 : Int64)), (0, .ref (a 16)), (1, .ref (a (2 + p0))), (2, .ref (a (2 + p1))), (3, .int v3_0)]) hx hb dX0_layInverse_39 hl (by decide) rfl (fun ls hl => ?_)
          have X1 : ∀ (v4_1 : Int64) (v6_1 : Int32) (bL1 : Bool) (H : Heap) (locs : List Loc) (ls : Array Slot), va_P D vwCl (cW a cJ cI cO RL0 bL1 pr tm cn sm ac re kn) H → va_D A (cW a cJ cI cO RL0 bL1 pr tm cn sm ac re kn) → va_S A s.heap H locs → lv_has ls 7 [(0, .ref (a 16)), (1, .ref (a (2 + p0))), (2, .ref (a (2 + p1))), (3, .int v3_0), (4, .long v4_1), (6, .int v6_1)] → (zb1 (p_X4_at RL0 p0 (1 : Int32)) (fun r11 => (zb2 (p_X3_times bL1 v4_1 (-r11)) (fun r13 b_14 => (zb1 (p_X4_lay RL0 p1 v3_0 r13) (fun R_16 => (p_X0_layInverse_L0 F p0 p1 K0 fu0 (v3_0 + (1 : Int32)) R_16 b_14))))))) = some (r, R', b') → G H locs 0 0 (F0 m 92 ls []) := by
            intro v4_1 v6_1 bL1 H locs ls hP hD hS hl h
            refine hG _ _ _ _ _ ?_
            refine lv_aload_n hx hb dX0_layInverse_92 rfl (lv_at hl 2 rfl) ?_
            refine lv_iload_n hx hb dX0_layInverse_93 rfl (lv_at hl 3 rfl) ?_
            refine lv_aload_n hx hb dX0_layInverse_94 rfl (lv_at hl 0 rfl) ?_
            refine va_get (D := D) (ci := 2) (v := .ref (a 14)) (C := RX0) (T := TX0) (N := 2) hx hb hts kwX0 hown hK hP 16 rfl rfl 0 (by decide) kf_9 (fun _ h9 => h9) rfl dX0_layInverse_95 ?_
            refine lv_lload hx hb dX0_layInverse_98 (lv_at hl 4 rfl) ?_
            refine lv_aload_n hx hb dX0_layInverse_100 rfl (lv_at hl 1 rfl) ?_
            refine lv_iconst (v := (1 : Int32)) hx hb dX0_layInverse_101 (by decide) ?_
            obtain ⟨r11, e12, h⟩ := zb1_some h
            refine zgol (va_runV (As := [.int (1 : Int32)]) (rest := [.long v4_1, .ref (a 14), .int v3_0, .ref (a (2 + p1))]) ⟨hx, hb, hml, hown, hts⟩ (c_X4_at l D a cJ cI cO cB RL0 bL1 pr tm cn sm ac re kn p0 (1 : Int32) hp0 r11 e12 H.size) (cwV 1 hts gX0_layInverse_X4_at rfl rfl rfl hdV_X4_at ⟨Nat.le_of_ble_eq_true rfl, Nat.le_of_ble_eq_true rfl⟩) (zpreV (q0 := 2 + p0) (ci := 6) (T := TX4) (N := 1) hK hP hD (cW_row hp0) rfl [.int (1 : Int32)]) rfl rfl hl.1 rfl (lv_room (Nat.le_of_ble_eq_true rfl)) dX0_layInverse_102 ⟨Nat.le_of_ble_eq_true rfl, Nat.le_of_ble_eq_true rfl⟩) (zfree hD hS hA) (zjW hD hS hA) hS (fun H locs hP hD hS => ?_)
            replace hP : va_P D vwCl (cW a cJ cI cO RL0 bL1 pr tm cn sm ac re kn) H := hP
            replace hD : va_D A (cW a cJ cI cO RL0 bL1 pr tm cn sm ac re kn) := hD
            refine lv_lneg hx hb dX0_layInverse_105 ?_
            obtain ⟨r13, b_14, e15, h⟩ := zb2_some h
            refine zgol (va_runV (As := [.long v4_1, .long (-r11)]) (rest := [.int v3_0, .ref (a (2 + p1))]) ⟨hx, hb, hml, hown, hts⟩ (c_X3_times l D a cJ cI cO cB RL0 bL1 pr tm cn sm ac re kn v4_1 (-r11) r13 b_14 e15 H.size) (cwV 2 hts gX0_layInverse_X3_times rfl rfl rfl hdV_X3_times ⟨Nat.le_of_ble_eq_true rfl, Nat.le_of_ble_eq_true rfl⟩) (zpreV (q0 := 14) (ci := 5) (T := TX3) (N := 1) hK hP hD rfl rfl [.long v4_1, .long (-r11)]) rfl rfl hl.1 rfl (lv_room (Nat.le_of_ble_eq_true rfl)) dX0_layInverse_106 ⟨Nat.le_of_ble_eq_true rfl, Nat.le_of_ble_eq_true rfl⟩) (zfree hD hS hA) (zjW hD hS hA) hS (fun H locs hP hD hS => ?_)
            replace hP : va_P D vwCl (cW a cJ cI cO RL0 b_14 pr tm cn sm ac re kn) H := hP
            replace hD : va_D A (cW a cJ cI cO RL0 b_14 pr tm cn sm ac re kn) := hD
            obtain ⟨R_16, e17, h⟩ := zb1_some h
            refine zgov (va_runV (As := [.int v3_0, .long r13]) (rest := []) ⟨hx, hb, hml, hown, hts⟩ (c_X4_lay l D a cJ cI cO cB RL0 b_14 pr tm cn sm ac re kn p1 v3_0 r13 hp1 R_16 e17 H.size) (cwV 2 hts gX0_layInverse_X4_lay rfl rfl rfl hdV_X4_lay ⟨Nat.le_of_ble_eq_true rfl, Nat.le_of_ble_eq_true rfl⟩) (zpreV (q0 := 2 + p1) (ci := 6) (T := TX4) (N := 1) hK hP hD (cW_row hp1) rfl [.int v3_0, .long r13]) rfl rfl hl.1 rfl (lv_room (Nat.le_of_ble_eq_true rfl)) dX0_layInverse_109 ⟨Nat.le_of_ble_eq_true rfl, Nat.le_of_ble_eq_true rfl⟩) (zfree hD hS hA) (zjW hD hS hA) hS (fun H locs hP hD hS => ?_)
            replace hP : va_P D vwCl (cW a cJ cI cO R_16 b_14 pr tm cn sm ac re kn) H := hP
            replace hD : va_D A (cW a cJ cI cO R_16 b_14 pr tm cn sm ac re kn) := hD
            refine lv_iinc (v := (v3_0 + (1 : Int32))) (lv' := [(3, .int (v3_0 + (1 : Int32))), (0, .ref (a 16)), (1, .ref (a (2 + p0))), (2, .ref (a (2 + p1))), (4, .long v4_1), (6, .int v6_1)]) hx hb dX0_layInverse_112 hl (k := 3) rfl rfl (by decide) rfl (fun ls hl => ?_)
            refine lv_goto (tgt := 29) hx hb dX0_layInverse_115 (by decide) ?_
            exact hGW _ _ _ _ _ (ih0 (v3_0 + (1 : Int32)) R_16 b_14 _ _ ls hP hD hS (lv_sub hl [1, 2, 3, 0] rfl) h)
          have L1 : ∀ (K1 : Int64 → Int32 → Bool → Option (Bool × (Nat → Nat → Int64) × Bool)) (HX1 : ∀ (v4_1 : Int64) (v6_1 : Int32) (bL1 : Bool) (H : Heap) (locs : List Loc) (ls : Array Slot), va_P D vwCl (cW a cJ cI cO RL0 bL1 pr tm cn sm ac re kn) H → va_D A (cW a cJ cI cO RL0 bL1 pr tm cn sm ac re kn) → va_S A s.heap H locs → lv_has ls 7 [(0, .ref (a 16)), (1, .ref (a (2 + p0))), (2, .ref (a (2 + p1))), (3, .int v3_0), (4, .long v4_1), (6, .int v6_1)] → K1 v4_1 v6_1 bL1 = some (r, R', b') → G H locs 0 0 (F0 m 92 ls [])) (fu1 : Nat) (v4_1 : Int64) (v6_1 : Int32) (bL1 : Bool) (H : Heap) (locs : List Loc) (ls : Array Slot), va_P D vwCl (cW a cJ cI cO RL0 bL1 pr tm cn sm ac re kn) H → va_D A (cW a cJ cI cO RL0 bL1 pr tm cn sm ac re kn) → va_S A s.heap H locs → lv_has ls 7 [(0, .ref (a 16)), (1, .ref (a (2 + p0))), (2, .ref (a (2 + p1))), (3, .int v3_0), (4, .long v4_1), (6, .int v6_1)] → p_X0_layInverse_L1 F p0 p1 v3_0 RL0 K1 fu1 v4_1 v6_1 bL1 = some (r, R', b') → G H locs 0 0 (F0 m 41 ls []) := by
            intro K1 HX1 fu1
            induction fu1 with
            | zero =>
              intro v4_1 v6_1 bL1 H locs ls hP hD hS hl h
              exact (zno h).elim
            | succ fu1 ih1 =>
              intro v4_1 v6_1 bL1 H locs ls hP hD hS hl h
              refine hG _ _ _ _ _ ?_
              unfold p_X0_layInverse_L1 at h
              refine lv_iload hx hb dX0_layInverse_41 (lv_at hl 5 rfl) ?_
              refine lv_iload_n hx hb dX0_layInverse_43 rfl (lv_at hl 3 rfl) ?_
              refine lv_icmp_gt (tgt := 92) hx hb dX0_layInverse_44 (by decide) (fun c44 => ?_) (fun c44 => ?_)
              · replace h := zif_t h c44
                exact hGW _ _ _ _ _ (HX1 v4_1 v6_1 bL1 _ _ ls hP hD hS (lv_sub hl [0, 1, 2, 3, 4, 5] rfl) h)
              · replace h := zif_f h c44
                refine lv_iload_n hx hb dX0_layInverse_47 rfl (lv_at hl 3 rfl) ?_
                refine lv_iload hx hb dX0_layInverse_48 (lv_at hl 5 rfl) ?_
                obtain ⟨z50, h⟩ := zg_some h
                refine lv_irem hx hb dX0_layInverse_50 z50 ?_
                refine lv_if_ne (tgt := 86) hx hb dX0_layInverse_51 (by decide) (fun c51 => ?_) (fun c51 => ?_)
                · replace h := zif_t h c51
                  refine lv_iinc (v := (v6_1 + (1 : Int32))) (lv' := [(6, .int (v6_1 + (1 : Int32))), (0, .ref (a 16)), (1, .ref (a (2 + p0))), (2, .ref (a (2 + p1))), (3, .int v3_0), (4, .long v4_1)]) hx hb dX0_layInverse_86 hl (k := 5) rfl rfl (by decide) rfl (fun ls hl => ?_)
                  refine lv_goto (tgt := 41) hx hb dX0_layInverse_89 (by decide) ?_
                  exact hGW _ _ _ _ _ (ih1 v4_1 (v6_1 + (1 : Int32)) bL1 _ _ ls hP hD hS (lv_sub hl [1, 2, 3, 4, 5, 0] rfl) h)
                · replace h := zif_fn h c51
                  refine lv_aload_n hx hb dX0_layInverse_54 rfl (lv_at hl 0 rfl) ?_
                  refine va_get (D := D) (ci := 2) (v := .ref (a 14)) (C := RX0) (T := TX0) (N := 2) hx hb hts kwX0 hown hK hP 16 rfl rfl 0 (by decide) kf_9 (fun _ h9 => h9) rfl dX0_layInverse_55 ?_
                  refine lv_lload hx hb dX0_layInverse_58 (lv_at hl 4 rfl) ?_
                  refine lv_aload_n hx hb dX0_layInverse_60 rfl (lv_at hl 0 rfl) ?_
                  refine va_get (D := D) (ci := 2) (v := .ref (a 14)) (C := RX0) (T := TX0) (N := 2) hx hb hts kwX0 hown hK hP 16 rfl rfl 0 (by decide) kf_9 (fun _ h9 => h9) rfl dX0_layInverse_61 ?_
                  refine lv_aload_n hx hb dX0_layInverse_64 rfl (lv_at hl 1 rfl) ?_
                  refine lv_iload hx hb dX0_layInverse_65 (lv_at hl 5 rfl) ?_
                  obtain ⟨r18, e19, h⟩ := zb1_some h
                  refine zgol (va_runV (As := [.int v6_1]) (rest := [.ref (a 14), .long v4_1, .ref (a 14)]) ⟨hx, hb, hml, hown, hts⟩ (c_X4_at l D a cJ cI cO cB RL0 bL1 pr tm cn sm ac re kn p0 v6_1 hp0 r18 e19 H.size) (cwV 1 hts gX0_layInverse_X4_at rfl rfl rfl hdV_X4_at ⟨Nat.le_of_ble_eq_true rfl, Nat.le_of_ble_eq_true rfl⟩) (zpreV (q0 := 2 + p0) (ci := 6) (T := TX4) (N := 1) hK hP hD (cW_row hp0) rfl [.int v6_1]) rfl rfl hl.1 rfl (lv_room (Nat.le_of_ble_eq_true rfl)) dX0_layInverse_67 ⟨Nat.le_of_ble_eq_true rfl, Nat.le_of_ble_eq_true rfl⟩) (zfree hD hS hA) (zjW hD hS hA) hS (fun H locs hP hD hS => ?_)
                  replace hP : va_P D vwCl (cW a cJ cI cO RL0 bL1 pr tm cn sm ac re kn) H := hP
                  replace hD : va_D A (cW a cJ cI cO RL0 bL1 pr tm cn sm ac re kn) := hD
                  refine lv_aload_n hx hb dX0_layInverse_70 rfl (lv_at hl 2 rfl) ?_
                  refine lv_iload_n hx hb dX0_layInverse_71 rfl (lv_at hl 3 rfl) ?_
                  refine lv_iload hx hb dX0_layInverse_72 (lv_at hl 5 rfl) ?_
                  obtain ⟨z74, h⟩ := zg_some h
                  refine lv_idiv hx hb dX0_layInverse_74 z74 ?_
                  obtain ⟨r20, e21, h⟩ := zb1_some h
                  refine zgol (va_runV (As := [.int (v3_0 / v6_1)]) (rest := [.long r18, .ref (a 14), .long v4_1, .ref (a 14)]) ⟨hx, hb, hml, hown, hts⟩ (c_X4_at l D a cJ cI cO cB RL0 bL1 pr tm cn sm ac re kn p1 (v3_0 / v6_1) hp1 r20 e21 H.size) (cwV 1 hts gX0_layInverse_X4_at rfl rfl rfl hdV_X4_at ⟨Nat.le_of_ble_eq_true rfl, Nat.le_of_ble_eq_true rfl⟩) (zpreV (q0 := 2 + p1) (ci := 6) (T := TX4) (N := 1) hK hP hD (cW_row hp1) rfl [.int (v3_0 / v6_1)]) rfl rfl hl.1 rfl (lv_room (Nat.le_of_ble_eq_true rfl)) dX0_layInverse_75 ⟨Nat.le_of_ble_eq_true rfl, Nat.le_of_ble_eq_true rfl⟩) (zfree hD hS hA) (zjW hD hS hA) hS (fun H locs hP hD hS => ?_)
                  replace hP : va_P D vwCl (cW a cJ cI cO RL0 bL1 pr tm cn sm ac re kn) H := hP
                  replace hD : va_D A (cW a cJ cI cO RL0 bL1 pr tm cn sm ac re kn) := hD
                  obtain ⟨r22, b_23, e24, h⟩ := zb2_some h
                  refine zgol (va_runV (As := [.long r18, .long r20]) (rest := [.long v4_1, .ref (a 14)]) ⟨hx, hb, hml, hown, hts⟩ (c_X3_times l D a cJ cI cO cB RL0 bL1 pr tm cn sm ac re kn r18 r20 r22 b_23 e24 H.size) (cwV 2 hts gX0_layInverse_X3_times rfl rfl rfl hdV_X3_times ⟨Nat.le_of_ble_eq_true rfl, Nat.le_of_ble_eq_true rfl⟩) (zpreV (q0 := 14) (ci := 5) (T := TX3) (N := 1) hK hP hD rfl rfl [.long r18, .long r20]) rfl rfl hl.1 rfl (lv_room (Nat.le_of_ble_eq_true rfl)) dX0_layInverse_78 ⟨Nat.le_of_ble_eq_true rfl, Nat.le_of_ble_eq_true rfl⟩) (zfree hD hS hA) (zjW hD hS hA) hS (fun H locs hP hD hS => ?_)
                  replace hP : va_P D vwCl (cW a cJ cI cO RL0 b_23 pr tm cn sm ac re kn) H := hP
                  replace hD : va_D A (cW a cJ cI cO RL0 b_23 pr tm cn sm ac re kn) := hD
                  obtain ⟨r25, b_26, e27, h⟩ := zb2_some h
                  refine zgol (va_runV (As := [.long v4_1, .long r22]) (rest := []) ⟨hx, hb, hml, hown, hts⟩ (c_X3_plus l D a cJ cI cO cB RL0 b_23 pr tm cn sm ac re kn v4_1 r22 r25 b_26 e27 H.size) (cwV 2 hts gX0_layInverse_X3_plus rfl rfl rfl hdV_X3_plus ⟨Nat.le_of_ble_eq_true rfl, Nat.le_of_ble_eq_true rfl⟩) (zpreV (q0 := 14) (ci := 5) (T := TX3) (N := 1) hK hP hD rfl rfl [.long v4_1, .long r22]) rfl rfl hl.1 rfl (lv_room (Nat.le_of_ble_eq_true rfl)) dX0_layInverse_81 ⟨Nat.le_of_ble_eq_true rfl, Nat.le_of_ble_eq_true rfl⟩) (zfree hD hS hA) (zjW hD hS hA) hS (fun H locs hP hD hS => ?_)
                  replace hP : va_P D vwCl (cW a cJ cI cO RL0 b_26 pr tm cn sm ac re kn) H := hP
                  replace hD : va_D A (cW a cJ cI cO RL0 b_26 pr tm cn sm ac re kn) := hD
                  refine lv_lstore (lv' := [(4, .long r25), (0, .ref (a 16)), (1, .ref (a (2 + p0))), (2, .ref (a (2 + p1))), (3, .int v3_0), (6, .int v6_1)]) hx hb dX0_layInverse_84 hl (by decide) rfl (fun ls hl => ?_)
                  refine lv_iinc (v := (v6_1 + (1 : Int32))) (lv' := [(6, .int (v6_1 + (1 : Int32))), (4, .long r25), (0, .ref (a 16)), (1, .ref (a (2 + p0))), (2, .ref (a (2 + p1))), (3, .int v3_0)]) hx hb dX0_layInverse_86 hl (k := 5) rfl rfl (by decide) rfl (fun ls hl => ?_)
                  refine lv_goto (tgt := 41) hx hb dX0_layInverse_89 (by decide) ?_
                  exact hGW _ _ _ _ _ (ih1 r25 (v6_1 + (1 : Int32)) b_26 _ _ ls hP hD hS (lv_sub hl [2, 3, 4, 5, 1, 0] rfl) h)
          exact hGW _ _ _ _ _ (L1 _ X1 F (0 : Int64) (2 : Int32) bL0 _ _ ls hP hD hS (lv_sub hl [2, 3, 4, 5, 1, 0] rfl) h)
    exact hGW _ _ _ _ _ (L0 _ X0 F (2 : Int32) R_7 b_3 _ _ ls hP hD hS (lv_sub hl [1, 2, 3, 0] rfl) h)
  · replace h := zif_fn h c5
    refine lv_iconst (v := (0 : Int32)) hx hb dX0_layInverse_8 (by decide) ?_
    have g0 := Option.some.inj h
    obtain ⟨h1, g1⟩ := Prod.mk.inj g0
    obtain ⟨h2, g2⟩ := Prod.mk.inj g1
    subst h1
    subst h2
    subst g2
    exact W.zret (v := (0 : Int32)) hx hb hr (z01_nar false) (fun t ht hW => ⟨⟨(0 : Int32), (), rfl, rfl, by rw [ht]; exact hP, va_K.moved hW.alike hK, hD⟩, hS.F ht⟩) hS.2.2 dX0_layInverse_9

noncomputable def p_X0_laySummed_L1 (F : Nat) (p0 : Nat) (v3_0 : Int32) (RL0 : Nat → Nat → Int64) (k : Int64 → Int32 → Bool → Option (Bool × (Nat → Nat → Int64) × Bool)) : Nat → Int64 → Int32 → Bool → Option (Bool × (Nat → Nat → Int64) × Bool)
  | 0, _, _, _ => none
  | n + 1, v4_1, v6_1, bL1 => (if v3_0 < v6_1 then (k v4_1 v6_1 bL1) else (zg (v6_1 = 0) (if ¬ (zr v3_0 v6_1) = 0 then (p_X0_laySummed_L1 F p0 v3_0 RL0 k n v4_1 (v6_1 + (1 : Int32)) bL1) else (zb1 (p_X4_at RL0 p0 v6_1) (fun r7 => (zb2 (p_X3_plus bL1 v4_1 r7) (fun r9 b_10 => (p_X0_laySummed_L1 F p0 v3_0 RL0 k n r9 (v6_1 + (1 : Int32)) b_10))))))))
noncomputable def p_X0_laySummed_L0 (F : Nat) (p0 : Nat) (p1 : Nat) (k : Int32 → (Nat → Nat → Int64) → Bool → Option (Bool × (Nat → Nat → Int64) × Bool)) : Nat → Int32 → (Nat → Nat → Int64) → Bool → Option (Bool × (Nat → Nat → Int64) × Bool)
  | 0, _, _, _ => none
  | n + 1, v3_0, RL0, bL0 => (if (120 : Int32) < v3_0 then (k v3_0 RL0 bL0) else (p_X0_laySummed_L1 F p0 v3_0 RL0 (fun v4_1 v6_1 bL1 => (zb1 (p_X4_lay RL0 p1 v3_0 v4_1) (fun R_5 => (p_X0_laySummed_L0 F p0 p1 k n (v3_0 + (1 : Int32)) R_5 bL1)))) F (0 : Int64) (1 : Int32) bL0))
noncomputable def p_X0_laySummed (F : Nat) (R : Nat → Nat → Int64) (p0 : Nat) (p1 : Nat) : Option (Bool × (Nat → Nat → Int64) × Bool) := (zb1 (p_X3_begin) (fun b_1 => (p_X0_laySummed_L0 F p0 p1 (fun v3_0 RL0 bL0 => (zb1 (p_X3_isBeyond bL0) (fun r3 => (if ¬ (z01 r3) = 0 then (some (false, RL0, bL0)) else (some (true, RL0, bL0)))))) F (1 : Int32) R b_1)))
theorem hdV_X0_laySummed : yX0_laySummed.cls = RX0 ∧ yX0_laySummed.cls ≠ "java/lang/invoke/MethodHandle" ∧ yX0_laySummed.cls ≠ "java/lang/invoke/VarHandle" ∧ (parseMethodDescriptor yX0_laySummed.desc).map (fun d => d.parameters.length) = some 2 := by decide +kernel
set_option maxHeartbeats 4000000 in
set_option maxRecDepth 100000 in
theorem c_X0_laySummed (l : Launch) (D : va_G) (a : Nat → Nat) (cJ cI cO cB : ClassId) (R : Nat → Nat → Int64) (b : Bool) (pr : Nat → Int32) (tm : Nat → Int32) (cn : Int32) (sm : Nat → Int32) (ac : Int32) (re : Int32) (kn : Int32) (F : Nat) (p0 : Nat) (p1 : Nat) (hp0 : p0 < 6) (hp1 : p1 < 6) (r : Bool) (R' : Nat → Nat → Int64) (b' : Bool) (h : p_X0_laySummed F R p0 p1 = some (r, R', b')) : zMi l yX0_laySummed wsX0_laySummed 1 26 0 0 D (zT cJ cI cO cB) [.ref (a 16), .ref (a (2 + p0)), .ref (a (2 + p1))] (cW a cJ cI cO R b pr tm cn sm ac re kn) (cW a cJ cI cO R' b' pr tm cn sm ac re kn) (z01 r) := by
  intro sz
  delta zQi
  refine Met.ofW (cc := cX0_laySummed) (maxL := 7) (ret := (some .boolean)) (by decide) rfl ?_
  intro p e s m args below meth c s₁ B hml hv
  obtain ⟨rfl, hsz, hP, hK, hD0⟩ := hv
  have hx := B.exec
  have hb := B.bytes
  have hr := B.returns
  have hts := atoms_spec (ws := wsX0_laySummed) B.pre
  have hown : s.vm.findClass RX0 = some m.cls := findClass_of_methodNamed B.named
  have hlocks := B.notSynchronized
  subst hsz
  have hD := hD0.self (sz := s.heap.size)
  generalize hAe : va_A (cW a cJ cI cO R b pr tm cn sm ac re kn) s.heap.size = A at hD ⊢
  have hA : ∀ q : Nat, s.heap.size ≤ q → A q := fun q h => by rw [← hAe]; exact Or.inr h
  have hS : va_S A s.heap s.heap [] := va_S.rf
  have hl := lv_entry ([.ref (a 16), .ref (a (2 + p0)), .ref (a (2 + p1))]) (n := 7) (Nat.le_of_ble_eq_true rfl)
  rw [lg_entry_eq]
  generalize (lg_sl ([.ref (a 16), .ref (a (2 + p0)), .ref (a (2 + p1))]) ++ List.replicate (7 - (lg_sl ([.ref (a 16), .ref (a (2 + p0)), .ref (a (2 + p1))])).length) Slot.unset).toArray = ls at hl ⊢
  replace hl : lv_has ls 7 [(0, .ref (a 16)), (1, .ref (a (2 + p0))), (2, .ref (a (2 + p1)))] := hl
  have kwX0 : ∀ w ∈ u_ws RX0 TX0 2, w ∈ wsX0_laySummed := fun w h => List.mem_cons_of_mem _ (List.mem_append_left _ (List.mem_append_left _ (List.mem_append_left _ (List.mem_append_left _ (List.mem_append_left _ (List.mem_append_right _ h))))))
  have kf_9 := hts (.fieldLink RX0 9 "Divisorwork$Maker" "reckoning" "LDivisorwork$Reckoning;") (zmem 1 rfl)
  replace h : (zb1 (p_X3_begin) (fun b_1 => (p_X0_laySummed_L0 F p0 p1 (fun v3_0 RL0 bL0 => (zb1 (p_X3_isBeyond bL0) (fun r3 => (if ¬ (z01 r3) = 0 then (some (false, RL0, bL0)) else (some (true, RL0, bL0)))))) F (1 : Int32) R b_1))) = some (r, R', b') := h
  refine zabs (fun G hG hGW => ?_)
  obtain ⟨H, hHe⟩ : ∃ H, H = s.heap := ⟨_, rfl⟩
  rw [← hHe] at hP
  replace hS : va_S A s.heap H [] := by rw [hHe]; exact hS
  refine zheap hHe ?_
  refine lv_aload_n hx hb dX0_laySummed_0 rfl (lv_at hl 0 rfl) ?_
  refine va_get (D := D) (ci := 2) (v := .ref (a 14)) (C := RX0) (T := TX0) (N := 2) hx hb hts kwX0 hown hK hP 16 rfl rfl 0 (by decide) kf_9 (fun _ h9 => h9) rfl dX0_laySummed_1 ?_
  obtain ⟨b_1, e2, h⟩ := zb1_some h
  refine zgov (va_runV (As := []) (rest := []) ⟨hx, hb, hml, hown, hts⟩ (c_X3_begin l D a cJ cI cO cB R b pr tm cn sm ac re kn b_1 e2 H.size) (cwV 0 hts gX0_laySummed_X3_begin rfl rfl rfl hdV_X3_begin ⟨Nat.le_of_ble_eq_true rfl, Nat.le_of_ble_eq_true rfl⟩) (zpreV (q0 := 14) (ci := 5) (T := TX3) (N := 1) hK hP hD rfl rfl []) rfl rfl hl.1 rfl (lv_room (Nat.le_of_ble_eq_true rfl)) dX0_laySummed_4 ⟨Nat.le_of_ble_eq_true rfl, Nat.le_of_ble_eq_true rfl⟩) (zfree hD hS hA) (zjW hD hS hA) hS (fun H locs hP hD hS => ?_)
  replace hP : va_P D vwCl (cW a cJ cI cO R b_1 pr tm cn sm ac re kn) H := hP
  replace hD : va_D A (cW a cJ cI cO R b_1 pr tm cn sm ac re kn) := hD
  refine lv_iconst (v := (1 : Int32)) hx hb dX0_laySummed_7 (by decide) ?_
  refine lv_istore_n (lv' := [(3, .int (1 : Int32)), (0, .ref (a 16)), (1, .ref (a (2 + p0))), (2, .ref (a (2 + p1)))]) hx hb dX0_laySummed_8 rfl hl (by decide) rfl (fun ls hl => ?_)
  have X0 : ∀ (v3_0 : Int32) (RL0 : Nat → Nat → Int64) (bL0 : Bool) (H : Heap) (locs : List Loc) (ls : Array Slot), va_P D vwCl (cW a cJ cI cO RL0 bL0 pr tm cn sm ac re kn) H → va_D A (cW a cJ cI cO RL0 bL0 pr tm cn sm ac re kn) → va_S A s.heap H locs → lv_has ls 7 [(0, .ref (a 16)), (1, .ref (a (2 + p0))), (2, .ref (a (2 + p1))), (3, .int v3_0)] → (zb1 (p_X3_isBeyond bL0) (fun r3 => (if ¬ (z01 r3) = 0 then (some (false, RL0, bL0)) else (some (true, RL0, bL0))))) = some (r, R', b') → G H locs 0 0 (F0 m 70 ls []) := by
    intro v3_0 RL0 bL0 H locs ls hP hD hS hl h
    refine hG _ _ _ _ _ ?_
    refine lv_aload_n hx hb dX0_laySummed_70 rfl (lv_at hl 0 rfl) ?_
    refine va_get (D := D) (ci := 2) (v := .ref (a 14)) (C := RX0) (T := TX0) (N := 2) hx hb hts kwX0 hown hK hP 16 rfl rfl 0 (by decide) kf_9 (fun _ h9 => h9) rfl dX0_laySummed_71 ?_
    obtain ⟨r3, e4, h⟩ := zb1_some h
    refine zgoi (va_runV (As := []) (rest := []) ⟨hx, hb, hml, hown, hts⟩ (c_X3_isBeyond l D a cJ cI cO cB RL0 bL0 pr tm cn sm ac re kn r3 e4 H.size) (cwV 0 hts gX0_laySummed_X3_isBeyond rfl rfl rfl hdV_X3_isBeyond ⟨Nat.le_of_ble_eq_true rfl, Nat.le_of_ble_eq_true rfl⟩) (zpreV (q0 := 14) (ci := 5) (T := TX3) (N := 1) hK hP hD rfl rfl []) rfl rfl hl.1 rfl (lv_room (Nat.le_of_ble_eq_true rfl)) dX0_laySummed_74 ⟨Nat.le_of_ble_eq_true rfl, Nat.le_of_ble_eq_true rfl⟩) (zfree hD hS hA) (zjW hD hS hA) hS (fun H locs hP hD hS => ?_)
    replace hP : va_P D vwCl (cW a cJ cI cO RL0 bL0 pr tm cn sm ac re kn) H := hP
    replace hD : va_D A (cW a cJ cI cO RL0 bL0 pr tm cn sm ac re kn) := hD
    refine lv_if_ne (tgt := 84) hx hb dX0_laySummed_77 (by decide) (fun c77 => ?_) (fun c77 => ?_)
    · replace h := zif_t h c77
      refine lv_iconst (v := (0 : Int32)) hx hb dX0_laySummed_84 (by decide) ?_
      have g0 := Option.some.inj h
      obtain ⟨h1, g1⟩ := Prod.mk.inj g0
      obtain ⟨h2, g2⟩ := Prod.mk.inj g1
      subst h1
      subst h2
      subst g2
      exact W.zret (v := (0 : Int32)) hx hb hr (z01_nar false) (fun t ht hW => ⟨⟨(0 : Int32), (), rfl, rfl, by rw [ht]; exact hP, va_K.moved hW.alike hK, hD⟩, hS.F ht⟩) hS.2.2 dX0_laySummed_85
    · replace h := zif_fn h c77
      refine lv_iconst (v := (1 : Int32)) hx hb dX0_laySummed_80 (by decide) ?_
      refine lv_goto (tgt := 85) hx hb dX0_laySummed_81 (by decide) ?_
      have g0 := Option.some.inj h
      obtain ⟨h1, g1⟩ := Prod.mk.inj g0
      obtain ⟨h2, g2⟩ := Prod.mk.inj g1
      subst h1
      subst h2
      subst g2
      exact W.zret (v := (1 : Int32)) hx hb hr (z01_nar true) (fun t ht hW => ⟨⟨(1 : Int32), (), rfl, rfl, by rw [ht]; exact hP, va_K.moved hW.alike hK, hD⟩, hS.F ht⟩) hS.2.2 dX0_laySummed_85
  have L0 : ∀ (K0 : Int32 → (Nat → Nat → Int64) → Bool → Option (Bool × (Nat → Nat → Int64) × Bool)) (HX0 : ∀ (v3_0 : Int32) (RL0 : Nat → Nat → Int64) (bL0 : Bool) (H : Heap) (locs : List Loc) (ls : Array Slot), va_P D vwCl (cW a cJ cI cO RL0 bL0 pr tm cn sm ac re kn) H → va_D A (cW a cJ cI cO RL0 bL0 pr tm cn sm ac re kn) → va_S A s.heap H locs → lv_has ls 7 [(0, .ref (a 16)), (1, .ref (a (2 + p0))), (2, .ref (a (2 + p1))), (3, .int v3_0)] → K0 v3_0 RL0 bL0 = some (r, R', b') → G H locs 0 0 (F0 m 70 ls [])) (fu0 : Nat) (v3_0 : Int32) (RL0 : Nat → Nat → Int64) (bL0 : Bool) (H : Heap) (locs : List Loc) (ls : Array Slot), va_P D vwCl (cW a cJ cI cO RL0 bL0 pr tm cn sm ac re kn) H → va_D A (cW a cJ cI cO RL0 bL0 pr tm cn sm ac re kn) → va_S A s.heap H locs → lv_has ls 7 [(0, .ref (a 16)), (1, .ref (a (2 + p0))), (2, .ref (a (2 + p1))), (3, .int v3_0)] → p_X0_laySummed_L0 F p0 p1 K0 fu0 v3_0 RL0 bL0 = some (r, R', b') → G H locs 0 0 (F0 m 9 ls []) := by
    intro K0 HX0 fu0
    induction fu0 with
    | zero =>
      intro v3_0 RL0 bL0 H locs ls hP hD hS hl h
      exact (zno h).elim
    | succ fu0 ih0 =>
      intro v3_0 RL0 bL0 H locs ls hP hD hS hl h
      refine hG _ _ _ _ _ ?_
      unfold p_X0_laySummed_L0 at h
      refine lv_iload_n hx hb dX0_laySummed_9 rfl (lv_at hl 3 rfl) ?_
      refine lv_bipush (v := (120 : Int32)) hx hb dX0_laySummed_10 (by decide) ?_
      refine lv_icmp_gt (tgt := 70) hx hb dX0_laySummed_12 (by decide) (fun c12 => ?_) (fun c12 => ?_)
      · replace h := zif_t h c12
        exact hGW _ _ _ _ _ (HX0 v3_0 RL0 bL0 _ _ ls hP hD hS (lv_sub hl [0, 1, 2, 3] rfl) h)
      · replace h := zif_f h c12
        refine lv_lconst (v := (0 : Int64)) hx hb dX0_laySummed_15 (by decide) ?_
        refine lv_lstore (lv' := [(4, .long (0 : Int64)), (0, .ref (a 16)), (1, .ref (a (2 + p0))), (2, .ref (a (2 + p1))), (3, .int v3_0)]) hx hb dX0_laySummed_16 hl (by decide) rfl (fun ls hl => ?_)
        refine lv_iconst (v := (1 : Int32)) hx hb dX0_laySummed_18 (by decide) ?_
        refine lv_istore (lv' := [(6, .int (1 : Int32)), (4, .long (0 : Int64)), (0, .ref (a 16)), (1, .ref (a (2 + p0))), (2, .ref (a (2 + p1))), (3, .int v3_0)]) hx hb dX0_laySummed_19 hl (by decide) rfl (fun ls hl => ?_)
        have X1 : ∀ (v4_1 : Int64) (v6_1 : Int32) (bL1 : Bool) (H : Heap) (locs : List Loc) (ls : Array Slot), va_P D vwCl (cW a cJ cI cO RL0 bL1 pr tm cn sm ac re kn) H → va_D A (cW a cJ cI cO RL0 bL1 pr tm cn sm ac re kn) → va_S A s.heap H locs → lv_has ls 7 [(0, .ref (a 16)), (1, .ref (a (2 + p0))), (2, .ref (a (2 + p1))), (3, .int v3_0), (4, .long v4_1), (6, .int v6_1)] → (zb1 (p_X4_lay RL0 p1 v3_0 v4_1) (fun R_5 => (p_X0_laySummed_L0 F p0 p1 K0 fu0 (v3_0 + (1 : Int32)) R_5 bL1))) = some (r, R', b') → G H locs 0 0 (F0 m 57 ls []) := by
          intro v4_1 v6_1 bL1 H locs ls hP hD hS hl h
          refine hG _ _ _ _ _ ?_
          refine lv_aload_n hx hb dX0_laySummed_57 rfl (lv_at hl 2 rfl) ?_
          refine lv_iload_n hx hb dX0_laySummed_58 rfl (lv_at hl 3 rfl) ?_
          refine lv_lload hx hb dX0_laySummed_59 (lv_at hl 4 rfl) ?_
          obtain ⟨R_5, e6, h⟩ := zb1_some h
          refine zgov (va_runV (As := [.int v3_0, .long v4_1]) (rest := []) ⟨hx, hb, hml, hown, hts⟩ (c_X4_lay l D a cJ cI cO cB RL0 bL1 pr tm cn sm ac re kn p1 v3_0 v4_1 hp1 R_5 e6 H.size) (cwV 2 hts gX0_laySummed_X4_lay rfl rfl rfl hdV_X4_lay ⟨Nat.le_of_ble_eq_true rfl, Nat.le_of_ble_eq_true rfl⟩) (zpreV (q0 := 2 + p1) (ci := 6) (T := TX4) (N := 1) hK hP hD (cW_row hp1) rfl [.int v3_0, .long v4_1]) rfl rfl hl.1 rfl (lv_room (Nat.le_of_ble_eq_true rfl)) dX0_laySummed_61 ⟨Nat.le_of_ble_eq_true rfl, Nat.le_of_ble_eq_true rfl⟩) (zfree hD hS hA) (zjW hD hS hA) hS (fun H locs hP hD hS => ?_)
          replace hP : va_P D vwCl (cW a cJ cI cO R_5 bL1 pr tm cn sm ac re kn) H := hP
          replace hD : va_D A (cW a cJ cI cO R_5 bL1 pr tm cn sm ac re kn) := hD
          refine lv_iinc (v := (v3_0 + (1 : Int32))) (lv' := [(3, .int (v3_0 + (1 : Int32))), (0, .ref (a 16)), (1, .ref (a (2 + p0))), (2, .ref (a (2 + p1))), (4, .long v4_1), (6, .int v6_1)]) hx hb dX0_laySummed_64 hl (k := 3) rfl rfl (by decide) rfl (fun ls hl => ?_)
          refine lv_goto (tgt := 9) hx hb dX0_laySummed_67 (by decide) ?_
          exact hGW _ _ _ _ _ (ih0 (v3_0 + (1 : Int32)) R_5 bL1 _ _ ls hP hD hS (lv_sub hl [1, 2, 3, 0] rfl) h)
        have L1 : ∀ (K1 : Int64 → Int32 → Bool → Option (Bool × (Nat → Nat → Int64) × Bool)) (HX1 : ∀ (v4_1 : Int64) (v6_1 : Int32) (bL1 : Bool) (H : Heap) (locs : List Loc) (ls : Array Slot), va_P D vwCl (cW a cJ cI cO RL0 bL1 pr tm cn sm ac re kn) H → va_D A (cW a cJ cI cO RL0 bL1 pr tm cn sm ac re kn) → va_S A s.heap H locs → lv_has ls 7 [(0, .ref (a 16)), (1, .ref (a (2 + p0))), (2, .ref (a (2 + p1))), (3, .int v3_0), (4, .long v4_1), (6, .int v6_1)] → K1 v4_1 v6_1 bL1 = some (r, R', b') → G H locs 0 0 (F0 m 57 ls [])) (fu1 : Nat) (v4_1 : Int64) (v6_1 : Int32) (bL1 : Bool) (H : Heap) (locs : List Loc) (ls : Array Slot), va_P D vwCl (cW a cJ cI cO RL0 bL1 pr tm cn sm ac re kn) H → va_D A (cW a cJ cI cO RL0 bL1 pr tm cn sm ac re kn) → va_S A s.heap H locs → lv_has ls 7 [(0, .ref (a 16)), (1, .ref (a (2 + p0))), (2, .ref (a (2 + p1))), (3, .int v3_0), (4, .long v4_1), (6, .int v6_1)] → p_X0_laySummed_L1 F p0 v3_0 RL0 K1 fu1 v4_1 v6_1 bL1 = some (r, R', b') → G H locs 0 0 (F0 m 21 ls []) := by
          intro K1 HX1 fu1
          induction fu1 with
          | zero =>
            intro v4_1 v6_1 bL1 H locs ls hP hD hS hl h
            exact (zno h).elim
          | succ fu1 ih1 =>
            intro v4_1 v6_1 bL1 H locs ls hP hD hS hl h
            refine hG _ _ _ _ _ ?_
            unfold p_X0_laySummed_L1 at h
            refine lv_iload hx hb dX0_laySummed_21 (lv_at hl 5 rfl) ?_
            refine lv_iload_n hx hb dX0_laySummed_23 rfl (lv_at hl 3 rfl) ?_
            refine lv_icmp_gt (tgt := 57) hx hb dX0_laySummed_24 (by decide) (fun c24 => ?_) (fun c24 => ?_)
            · replace h := zif_t h c24
              exact hGW _ _ _ _ _ (HX1 v4_1 v6_1 bL1 _ _ ls hP hD hS (lv_sub hl [0, 1, 2, 3, 4, 5] rfl) h)
            · replace h := zif_f h c24
              refine lv_iload_n hx hb dX0_laySummed_27 rfl (lv_at hl 3 rfl) ?_
              refine lv_iload hx hb dX0_laySummed_28 (lv_at hl 5 rfl) ?_
              obtain ⟨z30, h⟩ := zg_some h
              refine lv_irem hx hb dX0_laySummed_30 z30 ?_
              refine lv_if_ne (tgt := 51) hx hb dX0_laySummed_31 (by decide) (fun c31 => ?_) (fun c31 => ?_)
              · replace h := zif_t h c31
                refine lv_iinc (v := (v6_1 + (1 : Int32))) (lv' := [(6, .int (v6_1 + (1 : Int32))), (0, .ref (a 16)), (1, .ref (a (2 + p0))), (2, .ref (a (2 + p1))), (3, .int v3_0), (4, .long v4_1)]) hx hb dX0_laySummed_51 hl (k := 5) rfl rfl (by decide) rfl (fun ls hl => ?_)
                refine lv_goto (tgt := 21) hx hb dX0_laySummed_54 (by decide) ?_
                exact hGW _ _ _ _ _ (ih1 v4_1 (v6_1 + (1 : Int32)) bL1 _ _ ls hP hD hS (lv_sub hl [1, 2, 3, 4, 5, 0] rfl) h)
              · replace h := zif_fn h c31
                refine lv_aload_n hx hb dX0_laySummed_34 rfl (lv_at hl 0 rfl) ?_
                refine va_get (D := D) (ci := 2) (v := .ref (a 14)) (C := RX0) (T := TX0) (N := 2) hx hb hts kwX0 hown hK hP 16 rfl rfl 0 (by decide) kf_9 (fun _ h9 => h9) rfl dX0_laySummed_35 ?_
                refine lv_lload hx hb dX0_laySummed_38 (lv_at hl 4 rfl) ?_
                refine lv_aload_n hx hb dX0_laySummed_40 rfl (lv_at hl 1 rfl) ?_
                refine lv_iload hx hb dX0_laySummed_41 (lv_at hl 5 rfl) ?_
                obtain ⟨r7, e8, h⟩ := zb1_some h
                refine zgol (va_runV (As := [.int v6_1]) (rest := [.long v4_1, .ref (a 14)]) ⟨hx, hb, hml, hown, hts⟩ (c_X4_at l D a cJ cI cO cB RL0 bL1 pr tm cn sm ac re kn p0 v6_1 hp0 r7 e8 H.size) (cwV 1 hts gX0_laySummed_X4_at rfl rfl rfl hdV_X4_at ⟨Nat.le_of_ble_eq_true rfl, Nat.le_of_ble_eq_true rfl⟩) (zpreV (q0 := 2 + p0) (ci := 6) (T := TX4) (N := 1) hK hP hD (cW_row hp0) rfl [.int v6_1]) rfl rfl hl.1 rfl (lv_room (Nat.le_of_ble_eq_true rfl)) dX0_laySummed_43 ⟨Nat.le_of_ble_eq_true rfl, Nat.le_of_ble_eq_true rfl⟩) (zfree hD hS hA) (zjW hD hS hA) hS (fun H locs hP hD hS => ?_)
                replace hP : va_P D vwCl (cW a cJ cI cO RL0 bL1 pr tm cn sm ac re kn) H := hP
                replace hD : va_D A (cW a cJ cI cO RL0 bL1 pr tm cn sm ac re kn) := hD
                obtain ⟨r9, b_10, e11, h⟩ := zb2_some h
                refine zgol (va_runV (As := [.long v4_1, .long r7]) (rest := []) ⟨hx, hb, hml, hown, hts⟩ (c_X3_plus l D a cJ cI cO cB RL0 bL1 pr tm cn sm ac re kn v4_1 r7 r9 b_10 e11 H.size) (cwV 2 hts gX0_laySummed_X3_plus rfl rfl rfl hdV_X3_plus ⟨Nat.le_of_ble_eq_true rfl, Nat.le_of_ble_eq_true rfl⟩) (zpreV (q0 := 14) (ci := 5) (T := TX3) (N := 1) hK hP hD rfl rfl [.long v4_1, .long r7]) rfl rfl hl.1 rfl (lv_room (Nat.le_of_ble_eq_true rfl)) dX0_laySummed_46 ⟨Nat.le_of_ble_eq_true rfl, Nat.le_of_ble_eq_true rfl⟩) (zfree hD hS hA) (zjW hD hS hA) hS (fun H locs hP hD hS => ?_)
                replace hP : va_P D vwCl (cW a cJ cI cO RL0 b_10 pr tm cn sm ac re kn) H := hP
                replace hD : va_D A (cW a cJ cI cO RL0 b_10 pr tm cn sm ac re kn) := hD
                refine lv_lstore (lv' := [(4, .long r9), (0, .ref (a 16)), (1, .ref (a (2 + p0))), (2, .ref (a (2 + p1))), (3, .int v3_0), (6, .int v6_1)]) hx hb dX0_laySummed_49 hl (by decide) rfl (fun ls hl => ?_)
                refine lv_iinc (v := (v6_1 + (1 : Int32))) (lv' := [(6, .int (v6_1 + (1 : Int32))), (4, .long r9), (0, .ref (a 16)), (1, .ref (a (2 + p0))), (2, .ref (a (2 + p1))), (3, .int v3_0)]) hx hb dX0_laySummed_51 hl (k := 5) rfl rfl (by decide) rfl (fun ls hl => ?_)
                refine lv_goto (tgt := 21) hx hb dX0_laySummed_54 (by decide) ?_
                exact hGW _ _ _ _ _ (ih1 r9 (v6_1 + (1 : Int32)) b_10 _ _ ls hP hD hS (lv_sub hl [2, 3, 4, 5, 1, 0] rfl) h)
        exact hGW _ _ _ _ _ (L1 _ X1 F (0 : Int64) (1 : Int32) bL0 _ _ ls hP hD hS (lv_sub hl [2, 3, 4, 5, 1, 0] rfl) h)
  exact hGW _ _ _ _ _ (L0 _ X0 F (1 : Int32) R b_1 _ _ ls hP hD hS (lv_sub hl [1, 2, 3, 0] rfl) h)

noncomputable def p_X0_signedAt_L0 (F : Nat) (R : Nat → Nat → Int64) (p0 : Nat) (p1 : Int32) (k : Int64 → Int32 → Bool → (Nat → Int32) → (Nat → Int32) → Int32 → Option (Int64 × Bool × (Nat → Int32) × (Nat → Int32) × Int32)) : Nat → Int64 → Int32 → Bool → (Nat → Int32) → (Nat → Int32) → Int32 → Option (Int64 × Bool × (Nat → Int32) × (Nat → Int32) × Int32)
  | 0, _, _, _, _, _, _ => none
  | n + 1, v3_0, v5_0, bL0, prL0, tmL0, cnL0 => (if p1 < v5_0 then (k v3_0 v5_0 bL0 prL0 tmL0 cnL0) else (zg (v5_0 = 0) (if ¬ (zr p1 v5_0) = 0 then (p_X0_signedAt_L0 F R p0 p1 k n v3_0 (v5_0 + (1 : Int32)) bL0 prL0 tmL0 cnL0) else (zb4 (p_X1_signByPowers F prL0 tmL0 v5_0) (fun r1 pr_2 tm_3 cn_4 => (zg (v5_0 = 0) (zb1 (p_X4_at R p0 (p1 / v5_0)) (fun r6 => (zb2 (p_X3_times bL0 (r1.toInt64) r6) (fun r8 b_9 => (zb2 (p_X3_plus b_9 v3_0 r8) (fun r11 b_12 => (p_X0_signedAt_L0 F R p0 p1 k n r11 (v5_0 + (1 : Int32)) b_12 pr_2 tm_3 cn_4)))))))))))))
noncomputable def p_X0_signedAt (F : Nat) (R : Nat → Nat → Int64) (b : Bool) (pr : Nat → Int32) (tm : Nat → Int32) (cn : Int32) (p0 : Nat) (p1 : Int32) : Option (Int64 × Bool × (Nat → Int32) × (Nat → Int32) × Int32) := (p_X0_signedAt_L0 F R p0 p1 (fun v3_0 v5_0 bL0 prL0 tmL0 cnL0 => (some (v3_0, bL0, prL0, tmL0, cnL0))) F (0 : Int64) (1 : Int32) b pr tm cn)
theorem hdV_X0_signedAt : yX0_signedAt.cls = RX0 ∧ yX0_signedAt.cls ≠ "java/lang/invoke/MethodHandle" ∧ yX0_signedAt.cls ≠ "java/lang/invoke/VarHandle" ∧ (parseMethodDescriptor yX0_signedAt.desc).map (fun d => d.parameters.length) = some 2 := by decide +kernel
set_option maxHeartbeats 4000000 in
set_option maxRecDepth 100000 in
theorem c_X0_signedAt (l : Launch) (D : va_G) (a : Nat → Nat) (cJ cI cO cB : ClassId) (R : Nat → Nat → Int64) (b : Bool) (pr : Nat → Int32) (tm : Nat → Int32) (cn : Int32) (sm : Nat → Int32) (ac : Int32) (re : Int32) (kn : Int32) (F : Nat) (p0 : Nat) (p1 : Int32) (hp0 : p0 < 6) (r : Int64) (b' : Bool) (pr' : Nat → Int32) (tm' : Nat → Int32) (cn' : Int32) (h : p_X0_signedAt F R b pr tm cn p0 p1 = some (r, b', pr', tm', cn')) : zMl l yX0_signedAt wsX0_signedAt 2 47 0 0 D (zT cJ cI cO cB) [.ref (a 16), .ref (a (2 + p0)), .int p1] (cW a cJ cI cO R b pr tm cn sm ac re kn) (cW a cJ cI cO R b' pr' tm' cn' sm ac re kn) r := by
  intro sz
  delta zQl
  refine Met.ofW (cc := cX0_signedAt) (maxL := 6) (ret := (some .long)) (by decide) rfl ?_
  intro p e s m args below meth c s₁ B hml hv
  obtain ⟨rfl, hsz, hP, hK, hD0⟩ := hv
  have hx := B.exec
  have hb := B.bytes
  have hr := B.returns
  have hts := atoms_spec (ws := wsX0_signedAt) B.pre
  have hown : s.vm.findClass RX0 = some m.cls := findClass_of_methodNamed B.named
  have hlocks := B.notSynchronized
  subst hsz
  have hD := hD0.self (sz := s.heap.size)
  generalize hAe : va_A (cW a cJ cI cO R b pr tm cn sm ac re kn) s.heap.size = A at hD ⊢
  have hA : ∀ q : Nat, s.heap.size ≤ q → A q := fun q h => by rw [← hAe]; exact Or.inr h
  have hS : va_S A s.heap s.heap [] := va_S.rf
  have hl := lv_entry ([.ref (a 16), .ref (a (2 + p0)), .int p1]) (n := 6) (Nat.le_of_ble_eq_true rfl)
  rw [lg_entry_eq]
  generalize (lg_sl ([.ref (a 16), .ref (a (2 + p0)), .int p1]) ++ List.replicate (6 - (lg_sl ([.ref (a 16), .ref (a (2 + p0)), .int p1])).length) Slot.unset).toArray = ls at hl ⊢
  replace hl : lv_has ls 6 [(0, .ref (a 16)), (1, .ref (a (2 + p0))), (2, .int p1)] := hl
  have kwX0 : ∀ w ∈ u_ws RX0 TX0 2, w ∈ wsX0_signedAt := fun w h => List.mem_cons_of_mem _ (List.mem_append_left _ (List.mem_append_left _ (List.mem_append_left _ (List.mem_append_left _ (List.mem_append_right _ h)))))
  have kf_15 := hts (.fieldLink RX0 15 "Divisorwork$Maker" "numbers" "LDivisorwork$Numbers;") (zmem 2 rfl)
  have kf_9 := hts (.fieldLink RX0 9 "Divisorwork$Maker" "reckoning" "LDivisorwork$Reckoning;") (zmem 1 rfl)
  replace h : (p_X0_signedAt_L0 F R p0 p1 (fun v3_0 v5_0 bL0 prL0 tmL0 cnL0 => (some (v3_0, bL0, prL0, tmL0, cnL0))) F (0 : Int64) (1 : Int32) b pr tm cn) = some (r, b', pr', tm', cn') := h
  refine zabs (fun G hG hGW => ?_)
  obtain ⟨H, hHe⟩ : ∃ H, H = s.heap := ⟨_, rfl⟩
  rw [← hHe] at hP
  replace hS : va_S A s.heap H [] := by rw [hHe]; exact hS
  refine zheap hHe ?_
  refine lv_lconst (v := (0 : Int64)) hx hb dX0_signedAt_0 (by decide) ?_
  refine lv_lstore_n (lv' := [(3, .long (0 : Int64)), (0, .ref (a 16)), (1, .ref (a (2 + p0))), (2, .int p1)]) hx hb dX0_signedAt_1 rfl hl (by decide) rfl (fun ls hl => ?_)
  refine lv_iconst (v := (1 : Int32)) hx hb dX0_signedAt_2 (by decide) ?_
  refine lv_istore (lv' := [(5, .int (1 : Int32)), (3, .long (0 : Int64)), (0, .ref (a 16)), (1, .ref (a (2 + p0))), (2, .int p1)]) hx hb dX0_signedAt_3 hl (by decide) rfl (fun ls hl => ?_)
  have X0 : ∀ (v3_0 : Int64) (v5_0 : Int32) (bL0 : Bool) (prL0 : Nat → Int32) (tmL0 : Nat → Int32) (cnL0 : Int32) (H : Heap) (locs : List Loc) (ls : Array Slot), va_P D vwCl (cW a cJ cI cO R bL0 prL0 tmL0 cnL0 sm ac re kn) H → va_D A (cW a cJ cI cO R bL0 prL0 tmL0 cnL0 sm ac re kn) → va_S A s.heap H locs → lv_has ls 6 [(0, .ref (a 16)), (1, .ref (a (2 + p0))), (2, .int p1), (3, .long v3_0), (5, .int v5_0)] → (some (v3_0, bL0, prL0, tmL0, cnL0)) = some (r, b', pr', tm', cn') → G H locs 0 0 (F0 m 58 ls []) := by
    intro v3_0 v5_0 bL0 prL0 tmL0 cnL0 H locs ls hP hD hS hl h
    refine hG _ _ _ _ _ ?_
    refine lv_lload_n hx hb dX0_signedAt_58 rfl (lv_at hl 3 rfl) ?_
    have g0 := Option.some.inj h
    obtain ⟨h1, g1⟩ := Prod.mk.inj g0
    obtain ⟨h2, g2⟩ := Prod.mk.inj g1
    obtain ⟨h3, g3⟩ := Prod.mk.inj g2
    obtain ⟨h4, g4⟩ := Prod.mk.inj g3
    subst h1
    subst h2
    subst h3
    subst h4
    subst g4
    exact W.lret (v := v3_0) hx hb hr (fun t ht hW => ⟨⟨v3_0, (), rfl, rfl, by rw [ht]; exact hP, va_K.moved hW.alike hK, hD⟩, hS.F ht⟩) hS.2.2 dX0_signedAt_59
  have L0 : ∀ (K0 : Int64 → Int32 → Bool → (Nat → Int32) → (Nat → Int32) → Int32 → Option (Int64 × Bool × (Nat → Int32) × (Nat → Int32) × Int32)) (HX0 : ∀ (v3_0 : Int64) (v5_0 : Int32) (bL0 : Bool) (prL0 : Nat → Int32) (tmL0 : Nat → Int32) (cnL0 : Int32) (H : Heap) (locs : List Loc) (ls : Array Slot), va_P D vwCl (cW a cJ cI cO R bL0 prL0 tmL0 cnL0 sm ac re kn) H → va_D A (cW a cJ cI cO R bL0 prL0 tmL0 cnL0 sm ac re kn) → va_S A s.heap H locs → lv_has ls 6 [(0, .ref (a 16)), (1, .ref (a (2 + p0))), (2, .int p1), (3, .long v3_0), (5, .int v5_0)] → K0 v3_0 v5_0 bL0 prL0 tmL0 cnL0 = some (r, b', pr', tm', cn') → G H locs 0 0 (F0 m 58 ls [])) (fu0 : Nat) (v3_0 : Int64) (v5_0 : Int32) (bL0 : Bool) (prL0 : Nat → Int32) (tmL0 : Nat → Int32) (cnL0 : Int32) (H : Heap) (locs : List Loc) (ls : Array Slot), va_P D vwCl (cW a cJ cI cO R bL0 prL0 tmL0 cnL0 sm ac re kn) H → va_D A (cW a cJ cI cO R bL0 prL0 tmL0 cnL0 sm ac re kn) → va_S A s.heap H locs → lv_has ls 6 [(0, .ref (a 16)), (1, .ref (a (2 + p0))), (2, .int p1), (3, .long v3_0), (5, .int v5_0)] → p_X0_signedAt_L0 F R p0 p1 K0 fu0 v3_0 v5_0 bL0 prL0 tmL0 cnL0 = some (r, b', pr', tm', cn') → G H locs 0 0 (F0 m 5 ls []) := by
    intro K0 HX0 fu0
    induction fu0 with
    | zero =>
      intro v3_0 v5_0 bL0 prL0 tmL0 cnL0 H locs ls hP hD hS hl h
      exact (zno h).elim
    | succ fu0 ih0 =>
      intro v3_0 v5_0 bL0 prL0 tmL0 cnL0 H locs ls hP hD hS hl h
      refine hG _ _ _ _ _ ?_
      unfold p_X0_signedAt_L0 at h
      refine lv_iload hx hb dX0_signedAt_5 (lv_at hl 4 rfl) ?_
      refine lv_iload_n hx hb dX0_signedAt_7 rfl (lv_at hl 2 rfl) ?_
      refine lv_icmp_gt (tgt := 58) hx hb dX0_signedAt_8 (by decide) (fun c8 => ?_) (fun c8 => ?_)
      · replace h := zif_t h c8
        exact hGW _ _ _ _ _ (HX0 v3_0 v5_0 bL0 prL0 tmL0 cnL0 _ _ ls hP hD hS (lv_sub hl [0, 1, 2, 3, 4] rfl) h)
      · replace h := zif_f h c8
        refine lv_iload_n hx hb dX0_signedAt_11 rfl (lv_at hl 2 rfl) ?_
        refine lv_iload hx hb dX0_signedAt_12 (lv_at hl 4 rfl) ?_
        obtain ⟨z14, h⟩ := zg_some h
        refine lv_irem hx hb dX0_signedAt_14 z14 ?_
        refine lv_if_ne (tgt := 52) hx hb dX0_signedAt_15 (by decide) (fun c15 => ?_) (fun c15 => ?_)
        · replace h := zif_t h c15
          refine lv_iinc (v := (v5_0 + (1 : Int32))) (lv' := [(5, .int (v5_0 + (1 : Int32))), (0, .ref (a 16)), (1, .ref (a (2 + p0))), (2, .int p1), (3, .long v3_0)]) hx hb dX0_signedAt_52 hl (k := 4) rfl rfl (by decide) rfl (fun ls hl => ?_)
          refine lv_goto (tgt := 5) hx hb dX0_signedAt_55 (by decide) ?_
          exact hGW _ _ _ _ _ (ih0 v3_0 (v5_0 + (1 : Int32)) bL0 prL0 tmL0 cnL0 _ _ ls hP hD hS (lv_sub hl [1, 2, 3, 4, 0] rfl) h)
        · replace h := zif_fn h c15
          refine lv_aload_n hx hb dX0_signedAt_18 rfl (lv_at hl 0 rfl) ?_
          refine va_get (D := D) (ci := 2) (v := .ref (a 14)) (C := RX0) (T := TX0) (N := 2) hx hb hts kwX0 hown hK hP 16 rfl rfl 0 (by decide) kf_9 (fun _ h9 => h9) rfl dX0_signedAt_19 ?_
          refine lv_lload_n hx hb dX0_signedAt_22 rfl (lv_at hl 3 rfl) ?_
          refine lv_aload_n hx hb dX0_signedAt_23 rfl (lv_at hl 0 rfl) ?_
          refine va_get (D := D) (ci := 2) (v := .ref (a 14)) (C := RX0) (T := TX0) (N := 2) hx hb hts kwX0 hown hK hP 16 rfl rfl 0 (by decide) kf_9 (fun _ h9 => h9) rfl dX0_signedAt_24 ?_
          refine lv_aload_n hx hb dX0_signedAt_27 rfl (lv_at hl 0 rfl) ?_
          refine va_get (D := D) (ci := 2) (v := .ref (a 15)) (C := RX0) (T := TX0) (N := 2) hx hb hts kwX0 hown hK hP 16 rfl rfl 1 (by decide) kf_15 (fun _ h9 => h9) rfl dX0_signedAt_28 ?_
          refine lv_iload hx hb dX0_signedAt_31 (lv_at hl 4 rfl) ?_
          obtain ⟨r1, pr_2, tm_3, cn_4, e5, h⟩ := zb4_some h
          refine zgoi (va_runV (As := [.int v5_0]) (rest := [.ref (a 14), .long v3_0, .ref (a 14)]) ⟨hx, hb, hml, hown, hts⟩ (c_X1_signByPowers l D a cJ cI cO cB R bL0 prL0 tmL0 cnL0 sm ac re kn F v5_0 r1 pr_2 tm_3 cn_4 e5 H.size) (cwV 1 hts gX0_signedAt_X1_signByPowers rfl rfl rfl hdV_X1_signByPowers ⟨Nat.le_of_ble_eq_true rfl, Nat.le_of_ble_eq_true rfl⟩) (zpreV (q0 := 15) (ci := 3) (T := TX1) (N := 2) hK hP hD rfl rfl [.int v5_0]) rfl rfl hl.1 rfl (lv_room (Nat.le_of_ble_eq_true rfl)) dX0_signedAt_33 ⟨Nat.le_of_ble_eq_true rfl, Nat.le_of_ble_eq_true rfl⟩) (zfree hD hS hA) (zjW hD hS hA) hS (fun H locs hP hD hS => ?_)
          replace hP : va_P D vwCl (cW a cJ cI cO R bL0 pr_2 tm_3 cn_4 sm ac re kn) H := hP
          replace hD : va_D A (cW a cJ cI cO R bL0 pr_2 tm_3 cn_4 sm ac re kn) := hD
          refine lv_i2l (v := r1.toInt64) hx hb dX0_signedAt_36 rfl ?_
          refine lv_aload_n hx hb dX0_signedAt_37 rfl (lv_at hl 1 rfl) ?_
          refine lv_iload_n hx hb dX0_signedAt_38 rfl (lv_at hl 2 rfl) ?_
          refine lv_iload hx hb dX0_signedAt_39 (lv_at hl 4 rfl) ?_
          obtain ⟨z41, h⟩ := zg_some h
          refine lv_idiv hx hb dX0_signedAt_41 z41 ?_
          obtain ⟨r6, e7, h⟩ := zb1_some h
          refine zgol (va_runV (As := [.int (p1 / v5_0)]) (rest := [.long (r1.toInt64), .ref (a 14), .long v3_0, .ref (a 14)]) ⟨hx, hb, hml, hown, hts⟩ (c_X4_at l D a cJ cI cO cB R bL0 pr_2 tm_3 cn_4 sm ac re kn p0 (p1 / v5_0) hp0 r6 e7 H.size) (cwV 1 hts gX0_signedAt_X4_at rfl rfl rfl hdV_X4_at ⟨Nat.le_of_ble_eq_true rfl, Nat.le_of_ble_eq_true rfl⟩) (zpreV (q0 := 2 + p0) (ci := 6) (T := TX4) (N := 1) hK hP hD (cW_row hp0) rfl [.int (p1 / v5_0)]) rfl rfl hl.1 rfl (lv_room (Nat.le_of_ble_eq_true rfl)) dX0_signedAt_42 ⟨Nat.le_of_ble_eq_true rfl, Nat.le_of_ble_eq_true rfl⟩) (zfree hD hS hA) (zjW hD hS hA) hS (fun H locs hP hD hS => ?_)
          replace hP : va_P D vwCl (cW a cJ cI cO R bL0 pr_2 tm_3 cn_4 sm ac re kn) H := hP
          replace hD : va_D A (cW a cJ cI cO R bL0 pr_2 tm_3 cn_4 sm ac re kn) := hD
          obtain ⟨r8, b_9, e10, h⟩ := zb2_some h
          refine zgol (va_runV (As := [.long (r1.toInt64), .long r6]) (rest := [.long v3_0, .ref (a 14)]) ⟨hx, hb, hml, hown, hts⟩ (c_X3_times l D a cJ cI cO cB R bL0 pr_2 tm_3 cn_4 sm ac re kn (r1.toInt64) r6 r8 b_9 e10 H.size) (cwV 2 hts gX0_signedAt_X3_times rfl rfl rfl hdV_X3_times ⟨Nat.le_of_ble_eq_true rfl, Nat.le_of_ble_eq_true rfl⟩) (zpreV (q0 := 14) (ci := 5) (T := TX3) (N := 1) hK hP hD rfl rfl [.long (r1.toInt64), .long r6]) rfl rfl hl.1 rfl (lv_room (Nat.le_of_ble_eq_true rfl)) dX0_signedAt_45 ⟨Nat.le_of_ble_eq_true rfl, Nat.le_of_ble_eq_true rfl⟩) (zfree hD hS hA) (zjW hD hS hA) hS (fun H locs hP hD hS => ?_)
          replace hP : va_P D vwCl (cW a cJ cI cO R b_9 pr_2 tm_3 cn_4 sm ac re kn) H := hP
          replace hD : va_D A (cW a cJ cI cO R b_9 pr_2 tm_3 cn_4 sm ac re kn) := hD
          obtain ⟨r11, b_12, e13, h⟩ := zb2_some h
          refine zgol (va_runV (As := [.long v3_0, .long r8]) (rest := []) ⟨hx, hb, hml, hown, hts⟩ (c_X3_plus l D a cJ cI cO cB R b_9 pr_2 tm_3 cn_4 sm ac re kn v3_0 r8 r11 b_12 e13 H.size) (cwV 2 hts gX0_signedAt_X3_plus rfl rfl rfl hdV_X3_plus ⟨Nat.le_of_ble_eq_true rfl, Nat.le_of_ble_eq_true rfl⟩) (zpreV (q0 := 14) (ci := 5) (T := TX3) (N := 1) hK hP hD rfl rfl [.long v3_0, .long r8]) rfl rfl hl.1 rfl (lv_room (Nat.le_of_ble_eq_true rfl)) dX0_signedAt_48 ⟨Nat.le_of_ble_eq_true rfl, Nat.le_of_ble_eq_true rfl⟩) (zfree hD hS hA) (zjW hD hS hA) hS (fun H locs hP hD hS => ?_)
          replace hP : va_P D vwCl (cW a cJ cI cO R b_12 pr_2 tm_3 cn_4 sm ac re kn) H := hP
          replace hD : va_D A (cW a cJ cI cO R b_12 pr_2 tm_3 cn_4 sm ac re kn) := hD
          refine lv_lstore_n (lv' := [(3, .long r11), (0, .ref (a 16)), (1, .ref (a (2 + p0))), (2, .int p1), (5, .int v5_0)]) hx hb dX0_signedAt_51 rfl hl (by decide) rfl (fun ls hl => ?_)
          refine lv_iinc (v := (v5_0 + (1 : Int32))) (lv' := [(5, .int (v5_0 + (1 : Int32))), (3, .long r11), (0, .ref (a 16)), (1, .ref (a (2 + p0))), (2, .int p1)]) hx hb dX0_signedAt_52 hl (k := 4) rfl rfl (by decide) rfl (fun ls hl => ?_)
          refine lv_goto (tgt := 5) hx hb dX0_signedAt_55 (by decide) ?_
          exact hGW _ _ _ _ _ (ih0 r11 (v5_0 + (1 : Int32)) b_12 pr_2 tm_3 cn_4 _ _ ls hP hD hS (lv_sub hl [2, 3, 4, 1, 0] rfl) h)
  exact hGW _ _ _ _ _ (L0 _ X0 F (0 : Int64) (1 : Int32) b pr tm cn _ _ ls hP hD hS (lv_sub hl [2, 3, 4, 1, 0] rfl) h)

noncomputable def p_X0_laySigned_L0 (F : Nat) (p0 : Nat) (p1 : Nat) (k : Int32 → (Nat → Nat → Int64) → Bool → (Nat → Int32) → (Nat → Int32) → Int32 → Option (Bool × (Nat → Nat → Int64) × Bool × (Nat → Int32) × (Nat → Int32) × Int32)) : Nat → Int32 → (Nat → Nat → Int64) → Bool → (Nat → Int32) → (Nat → Int32) → Int32 → Option (Bool × (Nat → Nat → Int64) × Bool × (Nat → Int32) × (Nat → Int32) × Int32)
  | 0, _, _, _, _, _, _ => none
  | n + 1, v3_0, RL0, bL0, prL0, tmL0, cnL0 => (if (120 : Int32) < v3_0 then (k v3_0 RL0 bL0 prL0 tmL0 cnL0) else (zb5 (p_X0_signedAt F RL0 bL0 prL0 tmL0 cnL0 p0 v3_0) (fun r5 b_6 pr_7 tm_8 cn_9 => (zb1 (p_X4_lay RL0 p1 v3_0 r5) (fun R_11 => (p_X0_laySigned_L0 F p0 p1 k n (v3_0 + (1 : Int32)) R_11 b_6 pr_7 tm_8 cn_9))))))
noncomputable def p_X0_laySigned (F : Nat) (R : Nat → Nat → Int64) (pr : Nat → Int32) (tm : Nat → Int32) (cn : Int32) (p0 : Nat) (p1 : Nat) : Option (Bool × (Nat → Nat → Int64) × Bool × (Nat → Int32) × (Nat → Int32) × Int32) := (zb1 (p_X3_begin) (fun b_1 => (p_X0_laySigned_L0 F p0 p1 (fun v3_0 RL0 bL0 prL0 tmL0 cnL0 => (zb1 (p_X3_isBeyond bL0) (fun r3 => (if ¬ (z01 r3) = 0 then (some (false, RL0, bL0, prL0, tmL0, cnL0)) else (some (true, RL0, bL0, prL0, tmL0, cnL0)))))) F (1 : Int32) R b_1 pr tm cn)))
theorem hdV_X0_laySigned : yX0_laySigned.cls = RX0 ∧ yX0_laySigned.cls ≠ "java/lang/invoke/MethodHandle" ∧ yX0_laySigned.cls ≠ "java/lang/invoke/VarHandle" ∧ (parseMethodDescriptor yX0_laySigned.desc).map (fun d => d.parameters.length) = some 2 := by decide +kernel
set_option maxHeartbeats 4000000 in
set_option maxRecDepth 100000 in
theorem c_X0_laySigned (l : Launch) (D : va_G) (a : Nat → Nat) (cJ cI cO cB : ClassId) (R : Nat → Nat → Int64) (b : Bool) (pr : Nat → Int32) (tm : Nat → Int32) (cn : Int32) (sm : Nat → Int32) (ac : Int32) (re : Int32) (kn : Int32) (F : Nat) (p0 : Nat) (p1 : Nat) (hp0 : p0 < 6) (hp1 : p1 < 6) (r : Bool) (R' : Nat → Nat → Int64) (b' : Bool) (pr' : Nat → Int32) (tm' : Nat → Int32) (cn' : Int32) (h : p_X0_laySigned F R pr tm cn p0 p1 = some (r, R', b', pr', tm', cn')) : zMi l yX0_laySigned wsX0_laySigned 3 72 0 0 D (zT cJ cI cO cB) [.ref (a 16), .ref (a (2 + p0)), .ref (a (2 + p1))] (cW a cJ cI cO R b pr tm cn sm ac re kn) (cW a cJ cI cO R' b' pr' tm' cn' sm ac re kn) (z01 r) := by
  intro sz
  delta zQi
  refine Met.ofW (cc := cX0_laySigned) (maxL := 4) (ret := (some .boolean)) (by decide) rfl ?_
  intro p e s m args below meth c s₁ B hml hv
  obtain ⟨rfl, hsz, hP, hK, hD0⟩ := hv
  have hx := B.exec
  have hb := B.bytes
  have hr := B.returns
  have hts := atoms_spec (ws := wsX0_laySigned) B.pre
  have hown : s.vm.findClass RX0 = some m.cls := findClass_of_methodNamed B.named
  have hlocks := B.notSynchronized
  subst hsz
  have hD := hD0.self (sz := s.heap.size)
  generalize hAe : va_A (cW a cJ cI cO R b pr tm cn sm ac re kn) s.heap.size = A at hD ⊢
  have hA : ∀ q : Nat, s.heap.size ≤ q → A q := fun q h => by rw [← hAe]; exact Or.inr h
  have hS : va_S A s.heap s.heap [] := va_S.rf
  have hl := lv_entry ([.ref (a 16), .ref (a (2 + p0)), .ref (a (2 + p1))]) (n := 4) (Nat.le_of_ble_eq_true rfl)
  rw [lg_entry_eq]
  generalize (lg_sl ([.ref (a 16), .ref (a (2 + p0)), .ref (a (2 + p1))]) ++ List.replicate (4 - (lg_sl ([.ref (a 16), .ref (a (2 + p0)), .ref (a (2 + p1))])).length) Slot.unset).toArray = ls at hl ⊢
  replace hl : lv_has ls 4 [(0, .ref (a 16)), (1, .ref (a (2 + p0))), (2, .ref (a (2 + p1)))] := hl
  have kwX0 : ∀ w ∈ u_ws RX0 TX0 2, w ∈ wsX0_laySigned := fun w h => List.mem_cons_of_mem _ (List.mem_append_left _ (List.mem_append_left _ (List.mem_append_right _ (List.mem_cons_of_mem _ (List.mem_append_left _ (List.mem_append_left _ (List.mem_append_left _ (List.mem_append_left _ (List.mem_append_right _ h)))))))))
  have kf_9 := hts (.fieldLink RX0 9 "Divisorwork$Maker" "reckoning" "LDivisorwork$Reckoning;") (List.mem_cons_of_mem _ (List.mem_append_left _ (List.mem_append_left _ (List.mem_append_right _ (zmem 1 rfl)))))
  replace h : (zb1 (p_X3_begin) (fun b_1 => (p_X0_laySigned_L0 F p0 p1 (fun v3_0 RL0 bL0 prL0 tmL0 cnL0 => (zb1 (p_X3_isBeyond bL0) (fun r3 => (if ¬ (z01 r3) = 0 then (some (false, RL0, bL0, prL0, tmL0, cnL0)) else (some (true, RL0, bL0, prL0, tmL0, cnL0)))))) F (1 : Int32) R b_1 pr tm cn))) = some (r, R', b', pr', tm', cn') := h
  refine zabs (fun G hG hGW => ?_)
  obtain ⟨H, hHe⟩ : ∃ H, H = s.heap := ⟨_, rfl⟩
  rw [← hHe] at hP
  replace hS : va_S A s.heap H [] := by rw [hHe]; exact hS
  refine zheap hHe ?_
  refine lv_aload_n hx hb dX0_laySigned_0 rfl (lv_at hl 0 rfl) ?_
  refine va_get (D := D) (ci := 2) (v := .ref (a 14)) (C := RX0) (T := TX0) (N := 2) hx hb hts kwX0 hown hK hP 16 rfl rfl 0 (by decide) kf_9 (fun _ h9 => h9) rfl dX0_laySigned_1 ?_
  obtain ⟨b_1, e2, h⟩ := zb1_some h
  refine zgov (va_runV (As := []) (rest := []) ⟨hx, hb, hml, hown, hts⟩ (c_X3_begin l D a cJ cI cO cB R b pr tm cn sm ac re kn b_1 e2 H.size) (cwV 0 hts gX0_laySigned_X3_begin rfl rfl rfl hdV_X3_begin ⟨Nat.le_of_ble_eq_true rfl, Nat.le_of_ble_eq_true rfl⟩) (zpreV (q0 := 14) (ci := 5) (T := TX3) (N := 1) hK hP hD rfl rfl []) rfl rfl hl.1 rfl (lv_room (Nat.le_of_ble_eq_true rfl)) dX0_laySigned_4 ⟨Nat.le_of_ble_eq_true rfl, Nat.le_of_ble_eq_true rfl⟩) (zfree hD hS hA) (zjW hD hS hA) hS (fun H locs hP hD hS => ?_)
  replace hP : va_P D vwCl (cW a cJ cI cO R b_1 pr tm cn sm ac re kn) H := hP
  replace hD : va_D A (cW a cJ cI cO R b_1 pr tm cn sm ac re kn) := hD
  refine lv_iconst (v := (1 : Int32)) hx hb dX0_laySigned_7 (by decide) ?_
  refine lv_istore_n (lv' := [(3, .int (1 : Int32)), (0, .ref (a 16)), (1, .ref (a (2 + p0))), (2, .ref (a (2 + p1)))]) hx hb dX0_laySigned_8 rfl hl (by decide) rfl (fun ls hl => ?_)
  have X0 : ∀ (v3_0 : Int32) (RL0 : Nat → Nat → Int64) (bL0 : Bool) (prL0 : Nat → Int32) (tmL0 : Nat → Int32) (cnL0 : Int32) (H : Heap) (locs : List Loc) (ls : Array Slot), va_P D vwCl (cW a cJ cI cO RL0 bL0 prL0 tmL0 cnL0 sm ac re kn) H → va_D A (cW a cJ cI cO RL0 bL0 prL0 tmL0 cnL0 sm ac re kn) → va_S A s.heap H locs → lv_has ls 4 [(0, .ref (a 16)), (1, .ref (a (2 + p0))), (2, .ref (a (2 + p1))), (3, .int v3_0)] → (zb1 (p_X3_isBeyond bL0) (fun r3 => (if ¬ (z01 r3) = 0 then (some (false, RL0, bL0, prL0, tmL0, cnL0)) else (some (true, RL0, bL0, prL0, tmL0, cnL0))))) = some (r, R', b', pr', tm', cn') → G H locs 0 0 (F0 m 32 ls []) := by
    intro v3_0 RL0 bL0 prL0 tmL0 cnL0 H locs ls hP hD hS hl h
    refine hG _ _ _ _ _ ?_
    refine lv_aload_n hx hb dX0_laySigned_32 rfl (lv_at hl 0 rfl) ?_
    refine va_get (D := D) (ci := 2) (v := .ref (a 14)) (C := RX0) (T := TX0) (N := 2) hx hb hts kwX0 hown hK hP 16 rfl rfl 0 (by decide) kf_9 (fun _ h9 => h9) rfl dX0_laySigned_33 ?_
    obtain ⟨r3, e4, h⟩ := zb1_some h
    refine zgoi (va_runV (As := []) (rest := []) ⟨hx, hb, hml, hown, hts⟩ (c_X3_isBeyond l D a cJ cI cO cB RL0 bL0 prL0 tmL0 cnL0 sm ac re kn r3 e4 H.size) (cwV 0 hts gX0_laySigned_X3_isBeyond rfl rfl rfl hdV_X3_isBeyond ⟨Nat.le_of_ble_eq_true rfl, Nat.le_of_ble_eq_true rfl⟩) (zpreV (q0 := 14) (ci := 5) (T := TX3) (N := 1) hK hP hD rfl rfl []) rfl rfl hl.1 rfl (lv_room (Nat.le_of_ble_eq_true rfl)) dX0_laySigned_36 ⟨Nat.le_of_ble_eq_true rfl, Nat.le_of_ble_eq_true rfl⟩) (zfree hD hS hA) (zjW hD hS hA) hS (fun H locs hP hD hS => ?_)
    replace hP : va_P D vwCl (cW a cJ cI cO RL0 bL0 prL0 tmL0 cnL0 sm ac re kn) H := hP
    replace hD : va_D A (cW a cJ cI cO RL0 bL0 prL0 tmL0 cnL0 sm ac re kn) := hD
    refine lv_if_ne (tgt := 46) hx hb dX0_laySigned_39 (by decide) (fun c39 => ?_) (fun c39 => ?_)
    · replace h := zif_t h c39
      refine lv_iconst (v := (0 : Int32)) hx hb dX0_laySigned_46 (by decide) ?_
      have g0 := Option.some.inj h
      obtain ⟨h1, g1⟩ := Prod.mk.inj g0
      obtain ⟨h2, g2⟩ := Prod.mk.inj g1
      obtain ⟨h3, g3⟩ := Prod.mk.inj g2
      obtain ⟨h4, g4⟩ := Prod.mk.inj g3
      obtain ⟨h5, g5⟩ := Prod.mk.inj g4
      subst h1
      subst h2
      subst h3
      subst h4
      subst h5
      subst g5
      exact W.zret (v := (0 : Int32)) hx hb hr (z01_nar false) (fun t ht hW => ⟨⟨(0 : Int32), (), rfl, rfl, by rw [ht]; exact hP, va_K.moved hW.alike hK, hD⟩, hS.F ht⟩) hS.2.2 dX0_laySigned_47
    · replace h := zif_fn h c39
      refine lv_iconst (v := (1 : Int32)) hx hb dX0_laySigned_42 (by decide) ?_
      refine lv_goto (tgt := 47) hx hb dX0_laySigned_43 (by decide) ?_
      have g0 := Option.some.inj h
      obtain ⟨h1, g1⟩ := Prod.mk.inj g0
      obtain ⟨h2, g2⟩ := Prod.mk.inj g1
      obtain ⟨h3, g3⟩ := Prod.mk.inj g2
      obtain ⟨h4, g4⟩ := Prod.mk.inj g3
      obtain ⟨h5, g5⟩ := Prod.mk.inj g4
      subst h1
      subst h2
      subst h3
      subst h4
      subst h5
      subst g5
      exact W.zret (v := (1 : Int32)) hx hb hr (z01_nar true) (fun t ht hW => ⟨⟨(1 : Int32), (), rfl, rfl, by rw [ht]; exact hP, va_K.moved hW.alike hK, hD⟩, hS.F ht⟩) hS.2.2 dX0_laySigned_47
  have L0 : ∀ (K0 : Int32 → (Nat → Nat → Int64) → Bool → (Nat → Int32) → (Nat → Int32) → Int32 → Option (Bool × (Nat → Nat → Int64) × Bool × (Nat → Int32) × (Nat → Int32) × Int32)) (HX0 : ∀ (v3_0 : Int32) (RL0 : Nat → Nat → Int64) (bL0 : Bool) (prL0 : Nat → Int32) (tmL0 : Nat → Int32) (cnL0 : Int32) (H : Heap) (locs : List Loc) (ls : Array Slot), va_P D vwCl (cW a cJ cI cO RL0 bL0 prL0 tmL0 cnL0 sm ac re kn) H → va_D A (cW a cJ cI cO RL0 bL0 prL0 tmL0 cnL0 sm ac re kn) → va_S A s.heap H locs → lv_has ls 4 [(0, .ref (a 16)), (1, .ref (a (2 + p0))), (2, .ref (a (2 + p1))), (3, .int v3_0)] → K0 v3_0 RL0 bL0 prL0 tmL0 cnL0 = some (r, R', b', pr', tm', cn') → G H locs 0 0 (F0 m 32 ls [])) (fu0 : Nat) (v3_0 : Int32) (RL0 : Nat → Nat → Int64) (bL0 : Bool) (prL0 : Nat → Int32) (tmL0 : Nat → Int32) (cnL0 : Int32) (H : Heap) (locs : List Loc) (ls : Array Slot), va_P D vwCl (cW a cJ cI cO RL0 bL0 prL0 tmL0 cnL0 sm ac re kn) H → va_D A (cW a cJ cI cO RL0 bL0 prL0 tmL0 cnL0 sm ac re kn) → va_S A s.heap H locs → lv_has ls 4 [(0, .ref (a 16)), (1, .ref (a (2 + p0))), (2, .ref (a (2 + p1))), (3, .int v3_0)] → p_X0_laySigned_L0 F p0 p1 K0 fu0 v3_0 RL0 bL0 prL0 tmL0 cnL0 = some (r, R', b', pr', tm', cn') → G H locs 0 0 (F0 m 9 ls []) := by
    intro K0 HX0 fu0
    induction fu0 with
    | zero =>
      intro v3_0 RL0 bL0 prL0 tmL0 cnL0 H locs ls hP hD hS hl h
      exact (zno h).elim
    | succ fu0 ih0 =>
      intro v3_0 RL0 bL0 prL0 tmL0 cnL0 H locs ls hP hD hS hl h
      refine hG _ _ _ _ _ ?_
      unfold p_X0_laySigned_L0 at h
      refine lv_iload_n hx hb dX0_laySigned_9 rfl (lv_at hl 3 rfl) ?_
      refine lv_bipush (v := (120 : Int32)) hx hb dX0_laySigned_10 (by decide) ?_
      refine lv_icmp_gt (tgt := 32) hx hb dX0_laySigned_12 (by decide) (fun c12 => ?_) (fun c12 => ?_)
      · replace h := zif_t h c12
        exact hGW _ _ _ _ _ (HX0 v3_0 RL0 bL0 prL0 tmL0 cnL0 _ _ ls hP hD hS (lv_sub hl [0, 1, 2, 3] rfl) h)
      · replace h := zif_f h c12
        refine lv_aload_n hx hb dX0_laySigned_15 rfl (lv_at hl 2 rfl) ?_
        refine lv_iload_n hx hb dX0_laySigned_16 rfl (lv_at hl 3 rfl) ?_
        refine lv_aload_n hx hb dX0_laySigned_17 rfl (lv_at hl 0 rfl) ?_
        refine lv_aload_n hx hb dX0_laySigned_18 rfl (lv_at hl 1 rfl) ?_
        refine lv_iload_n hx hb dX0_laySigned_19 rfl (lv_at hl 3 rfl) ?_
        obtain ⟨r5, b_6, pr_7, tm_8, cn_9, e10, h⟩ := zb5_some h
        refine zgol (va_runV (As := [.ref (a (2 + p0)), .int v3_0]) (rest := [.int v3_0, .ref (a (2 + p1))]) ⟨hx, hb, hml, hown, hts⟩ (c_X0_signedAt l D a cJ cI cO cB RL0 bL0 prL0 tmL0 cnL0 sm ac re kn F p0 v3_0 hp0 r5 b_6 pr_7 tm_8 cn_9 e10 H.size) (cwV 2 hts gX0_laySigned_X0_signedAt rfl rfl rfl hdV_X0_signedAt ⟨Nat.le_of_ble_eq_true rfl, Nat.le_of_ble_eq_true rfl⟩) (zpreV (q0 := 16) (ci := 2) (T := TX0) (N := 2) hK hP hD rfl rfl [.ref (a (2 + p0)), .int v3_0]) rfl rfl hl.1 rfl (lv_room (Nat.le_of_ble_eq_true rfl)) dX0_laySigned_20 ⟨Nat.le_of_ble_eq_true rfl, Nat.le_of_ble_eq_true rfl⟩) (zfree hD hS hA) (zjW hD hS hA) hS (fun H locs hP hD hS => ?_)
        replace hP : va_P D vwCl (cW a cJ cI cO RL0 b_6 pr_7 tm_8 cn_9 sm ac re kn) H := hP
        replace hD : va_D A (cW a cJ cI cO RL0 b_6 pr_7 tm_8 cn_9 sm ac re kn) := hD
        obtain ⟨R_11, e12, h⟩ := zb1_some h
        refine zgov (va_runV (As := [.int v3_0, .long r5]) (rest := []) ⟨hx, hb, hml, hown, hts⟩ (c_X4_lay l D a cJ cI cO cB RL0 b_6 pr_7 tm_8 cn_9 sm ac re kn p1 v3_0 r5 hp1 R_11 e12 H.size) (cwV 2 hts gX0_laySigned_X4_lay rfl rfl rfl hdV_X4_lay ⟨Nat.le_of_ble_eq_true rfl, Nat.le_of_ble_eq_true rfl⟩) (zpreV (q0 := 2 + p1) (ci := 6) (T := TX4) (N := 1) hK hP hD (cW_row hp1) rfl [.int v3_0, .long r5]) rfl rfl hl.1 rfl (lv_room (Nat.le_of_ble_eq_true rfl)) dX0_laySigned_23 ⟨Nat.le_of_ble_eq_true rfl, Nat.le_of_ble_eq_true rfl⟩) (zfree hD hS hA) (zjW hD hS hA) hS (fun H locs hP hD hS => ?_)
        replace hP : va_P D vwCl (cW a cJ cI cO R_11 b_6 pr_7 tm_8 cn_9 sm ac re kn) H := hP
        replace hD : va_D A (cW a cJ cI cO R_11 b_6 pr_7 tm_8 cn_9 sm ac re kn) := hD
        refine lv_iinc (v := (v3_0 + (1 : Int32))) (lv' := [(3, .int (v3_0 + (1 : Int32))), (0, .ref (a 16)), (1, .ref (a (2 + p0))), (2, .ref (a (2 + p1)))]) hx hb dX0_laySigned_26 hl (k := 3) rfl rfl (by decide) rfl (fun ls hl => ?_)
        refine lv_goto (tgt := 9) hx hb dX0_laySigned_29 (by decide) ?_
        exact hGW _ _ _ _ _ (ih0 (v3_0 + (1 : Int32)) R_11 b_6 pr_7 tm_8 cn_9 _ _ ls hP hD hS (lv_sub hl [1, 2, 3, 0] rfl) h)
  exact hGW _ _ _ _ _ (L0 _ X0 F (1 : Int32) R b_1 pr tm cn _ _ ls hP hD hS (lv_sub hl [1, 2, 3, 0] rfl) h)

noncomputable def p_X0_layByPrimes_L1 (F : Nat) (p0 : Nat) (RL0 : Nat → Nat → Int64) (pr_5 : Nat → Int32) (tm_6 : Nat → Int32) (cn_7 : Int32) (k : Int64 → Int32 → Bool → Option (Bool × (Nat → Nat → Int64) × Bool × (Nat → Int32) × (Nat → Int32) × Int32)) : Nat → Int64 → Int32 → Bool → Option (Bool × (Nat → Nat → Int64) × Bool × (Nat → Int32) × (Nat → Int32) × Int32)
  | 0, _, _, _ => none
  | n + 1, v5_1, v7_1, bL1 => (zb1 (p_X2_count cn_7) (fun r11 => (if r11 ≤ v7_1 then (k v5_1 v7_1 bL1) else (zb1 (p_X2_powerAt F pr_5 tm_6 v7_1) (fun r13 => (zb1 (p_X4_at RL0 p0 r13) (fun r15 => (zb2 (p_X3_times bL1 v5_1 r15) (fun r17 b_18 => (p_X0_layByPrimes_L1 F p0 RL0 pr_5 tm_6 cn_7 k n r17 (v7_1 + (1 : Int32)) b_18))))))))))
noncomputable def p_X0_layByPrimes_L0 (F : Nat) (p0 : Nat) (p1 : Nat) (k : Int32 → (Nat → Nat → Int64) → Bool → (Nat → Int32) → (Nat → Int32) → Int32 → Option (Bool × (Nat → Nat → Int64) × Bool × (Nat → Int32) × (Nat → Int32) × Int32)) : Nat → Int32 → (Nat → Nat → Int64) → Bool → (Nat → Int32) → (Nat → Int32) → Int32 → Option (Bool × (Nat → Nat → Int64) × Bool × (Nat → Int32) × (Nat → Int32) × Int32)
  | 0, _, _, _, _, _, _ => none
  | n + 1, v3_0, RL0, bL0, prL0, tmL0, cnL0 => (if (120 : Int32) < v3_0 then (k v3_0 RL0 bL0 prL0 tmL0 cnL0) else (zb3 (p_X1_powersOf F prL0 tmL0 v3_0) (fun pr_5 tm_6 cn_7 => (p_X0_layByPrimes_L1 F p0 RL0 pr_5 tm_6 cn_7 (fun v5_1 v7_1 bL1 => (zb1 (p_X4_lay RL0 p1 v3_0 v5_1) (fun R_9 => (p_X0_layByPrimes_L0 F p0 p1 k n (v3_0 + (1 : Int32)) R_9 bL1 pr_5 tm_6 cn_7)))) F (1 : Int64) (0 : Int32) bL0))))
noncomputable def p_X0_layByPrimes (F : Nat) (R : Nat → Nat → Int64) (pr : Nat → Int32) (tm : Nat → Int32) (cn : Int32) (p0 : Nat) (p1 : Nat) : Option (Bool × (Nat → Nat → Int64) × Bool × (Nat → Int32) × (Nat → Int32) × Int32) := (zb1 (p_X3_begin) (fun b_1 => (p_X0_layByPrimes_L0 F p0 p1 (fun v3_0 RL0 bL0 prL0 tmL0 cnL0 => (zb1 (p_X3_isBeyond bL0) (fun r3 => (if ¬ (z01 r3) = 0 then (some (false, RL0, bL0, prL0, tmL0, cnL0)) else (some (true, RL0, bL0, prL0, tmL0, cnL0)))))) F (1 : Int32) R b_1 pr tm cn)))
theorem hdV_X0_layByPrimes : yX0_layByPrimes.cls = RX0 ∧ yX0_layByPrimes.cls ≠ "java/lang/invoke/MethodHandle" ∧ yX0_layByPrimes.cls ≠ "java/lang/invoke/VarHandle" ∧ (parseMethodDescriptor yX0_layByPrimes.desc).map (fun d => d.parameters.length) = some 2 := by decide +kernel
set_option maxHeartbeats 4000000 in
set_option maxRecDepth 100000 in
theorem c_X0_layByPrimes (l : Launch) (D : va_G) (a : Nat → Nat) (cJ cI cO cB : ClassId) (R : Nat → Nat → Int64) (b : Bool) (pr : Nat → Int32) (tm : Nat → Int32) (cn : Int32) (sm : Nat → Int32) (ac : Int32) (re : Int32) (kn : Int32) (F : Nat) (p0 : Nat) (p1 : Nat) (hp0 : p0 < 6) (hp1 : p1 < 6) (r : Bool) (R' : Nat → Nat → Int64) (b' : Bool) (pr' : Nat → Int32) (tm' : Nat → Int32) (cn' : Int32) (h : p_X0_layByPrimes F R pr tm cn p0 p1 = some (r, R', b', pr', tm', cn')) : zMi l yX0_layByPrimes wsX0_layByPrimes 2 47 0 0 D (zT cJ cI cO cB) [.ref (a 16), .ref (a (2 + p0)), .ref (a (2 + p1))] (cW a cJ cI cO R b pr tm cn sm ac re kn) (cW a cJ cI cO R' b' pr' tm' cn' sm ac re kn) (z01 r) := by
  intro sz
  delta zQi
  refine Met.ofW (cc := cX0_layByPrimes) (maxL := 8) (ret := (some .boolean)) (by decide) rfl ?_
  intro p e s m args below meth c s₁ B hml hv
  obtain ⟨rfl, hsz, hP, hK, hD0⟩ := hv
  have hx := B.exec
  have hb := B.bytes
  have hr := B.returns
  have hts := atoms_spec (ws := wsX0_layByPrimes) B.pre
  have hown : s.vm.findClass RX0 = some m.cls := findClass_of_methodNamed B.named
  have hlocks := B.notSynchronized
  subst hsz
  have hD := hD0.self (sz := s.heap.size)
  generalize hAe : va_A (cW a cJ cI cO R b pr tm cn sm ac re kn) s.heap.size = A at hD ⊢
  have hA : ∀ q : Nat, s.heap.size ≤ q → A q := fun q h => by rw [← hAe]; exact Or.inr h
  have hS : va_S A s.heap s.heap [] := va_S.rf
  have hl := lv_entry ([.ref (a 16), .ref (a (2 + p0)), .ref (a (2 + p1))]) (n := 8) (Nat.le_of_ble_eq_true rfl)
  rw [lg_entry_eq]
  generalize (lg_sl ([.ref (a 16), .ref (a (2 + p0)), .ref (a (2 + p1))]) ++ List.replicate (8 - (lg_sl ([.ref (a 16), .ref (a (2 + p0)), .ref (a (2 + p1))])).length) Slot.unset).toArray = ls at hl ⊢
  replace hl : lv_has ls 8 [(0, .ref (a 16)), (1, .ref (a (2 + p0))), (2, .ref (a (2 + p1)))] := hl
  have kwX0 : ∀ w ∈ u_ws RX0 TX0 2, w ∈ wsX0_layByPrimes := fun w h => List.mem_cons_of_mem _ (List.mem_append_left _ (List.mem_append_left _ (List.mem_append_left _ (List.mem_append_left _ (List.mem_append_left _ (List.mem_append_left _ (List.mem_append_left _ (List.mem_append_left _ (List.mem_append_right _ h)))))))))
  have kf_9 := hts (.fieldLink RX0 9 "Divisorwork$Maker" "reckoning" "LDivisorwork$Reckoning;") (zmem 1 rfl)
  have kf_15 := hts (.fieldLink RX0 15 "Divisorwork$Maker" "numbers" "LDivisorwork$Numbers;") (zmem 2 rfl)
  replace h : (zb1 (p_X3_begin) (fun b_1 => (p_X0_layByPrimes_L0 F p0 p1 (fun v3_0 RL0 bL0 prL0 tmL0 cnL0 => (zb1 (p_X3_isBeyond bL0) (fun r3 => (if ¬ (z01 r3) = 0 then (some (false, RL0, bL0, prL0, tmL0, cnL0)) else (some (true, RL0, bL0, prL0, tmL0, cnL0)))))) F (1 : Int32) R b_1 pr tm cn))) = some (r, R', b', pr', tm', cn') := h
  refine zabs (fun G hG hGW => ?_)
  obtain ⟨H, hHe⟩ : ∃ H, H = s.heap := ⟨_, rfl⟩
  rw [← hHe] at hP
  replace hS : va_S A s.heap H [] := by rw [hHe]; exact hS
  refine zheap hHe ?_
  refine lv_aload_n hx hb dX0_layByPrimes_0 rfl (lv_at hl 0 rfl) ?_
  refine va_get (D := D) (ci := 2) (v := .ref (a 14)) (C := RX0) (T := TX0) (N := 2) hx hb hts kwX0 hown hK hP 16 rfl rfl 0 (by decide) kf_9 (fun _ h9 => h9) rfl dX0_layByPrimes_1 ?_
  obtain ⟨b_1, e2, h⟩ := zb1_some h
  refine zgov (va_runV (As := []) (rest := []) ⟨hx, hb, hml, hown, hts⟩ (c_X3_begin l D a cJ cI cO cB R b pr tm cn sm ac re kn b_1 e2 H.size) (cwV 0 hts gX0_layByPrimes_X3_begin rfl rfl rfl hdV_X3_begin ⟨Nat.le_of_ble_eq_true rfl, Nat.le_of_ble_eq_true rfl⟩) (zpreV (q0 := 14) (ci := 5) (T := TX3) (N := 1) hK hP hD rfl rfl []) rfl rfl hl.1 rfl (lv_room (Nat.le_of_ble_eq_true rfl)) dX0_layByPrimes_4 ⟨Nat.le_of_ble_eq_true rfl, Nat.le_of_ble_eq_true rfl⟩) (zfree hD hS hA) (zjW hD hS hA) hS (fun H locs hP hD hS => ?_)
  replace hP : va_P D vwCl (cW a cJ cI cO R b_1 pr tm cn sm ac re kn) H := hP
  replace hD : va_D A (cW a cJ cI cO R b_1 pr tm cn sm ac re kn) := hD
  refine lv_iconst (v := (1 : Int32)) hx hb dX0_layByPrimes_7 (by decide) ?_
  refine lv_istore_n (lv' := [(3, .int (1 : Int32)), (0, .ref (a 16)), (1, .ref (a (2 + p0))), (2, .ref (a (2 + p1)))]) hx hb dX0_layByPrimes_8 rfl hl (by decide) rfl (fun ls hl => ?_)
  have X0 : ∀ (v3_0 : Int32) (RL0 : Nat → Nat → Int64) (bL0 : Bool) (prL0 : Nat → Int32) (tmL0 : Nat → Int32) (cnL0 : Int32) (H : Heap) (locs : List Loc) (ls : Array Slot), va_P D vwCl (cW a cJ cI cO RL0 bL0 prL0 tmL0 cnL0 sm ac re kn) H → va_D A (cW a cJ cI cO RL0 bL0 prL0 tmL0 cnL0 sm ac re kn) → va_S A s.heap H locs → lv_has ls 8 [(0, .ref (a 16)), (1, .ref (a (2 + p0))), (2, .ref (a (2 + p1))), (3, .int v3_0)] → (zb1 (p_X3_isBeyond bL0) (fun r3 => (if ¬ (z01 r3) = 0 then (some (false, RL0, bL0, prL0, tmL0, cnL0)) else (some (true, RL0, bL0, prL0, tmL0, cnL0))))) = some (r, R', b', pr', tm', cn') → G H locs 0 0 (F0 m 82 ls []) := by
    intro v3_0 RL0 bL0 prL0 tmL0 cnL0 H locs ls hP hD hS hl h
    refine hG _ _ _ _ _ ?_
    refine lv_aload_n hx hb dX0_layByPrimes_82 rfl (lv_at hl 0 rfl) ?_
    refine va_get (D := D) (ci := 2) (v := .ref (a 14)) (C := RX0) (T := TX0) (N := 2) hx hb hts kwX0 hown hK hP 16 rfl rfl 0 (by decide) kf_9 (fun _ h9 => h9) rfl dX0_layByPrimes_83 ?_
    obtain ⟨r3, e4, h⟩ := zb1_some h
    refine zgoi (va_runV (As := []) (rest := []) ⟨hx, hb, hml, hown, hts⟩ (c_X3_isBeyond l D a cJ cI cO cB RL0 bL0 prL0 tmL0 cnL0 sm ac re kn r3 e4 H.size) (cwV 0 hts gX0_layByPrimes_X3_isBeyond rfl rfl rfl hdV_X3_isBeyond ⟨Nat.le_of_ble_eq_true rfl, Nat.le_of_ble_eq_true rfl⟩) (zpreV (q0 := 14) (ci := 5) (T := TX3) (N := 1) hK hP hD rfl rfl []) rfl rfl hl.1 rfl (lv_room (Nat.le_of_ble_eq_true rfl)) dX0_layByPrimes_86 ⟨Nat.le_of_ble_eq_true rfl, Nat.le_of_ble_eq_true rfl⟩) (zfree hD hS hA) (zjW hD hS hA) hS (fun H locs hP hD hS => ?_)
    replace hP : va_P D vwCl (cW a cJ cI cO RL0 bL0 prL0 tmL0 cnL0 sm ac re kn) H := hP
    replace hD : va_D A (cW a cJ cI cO RL0 bL0 prL0 tmL0 cnL0 sm ac re kn) := hD
    refine lv_if_ne (tgt := 96) hx hb dX0_layByPrimes_89 (by decide) (fun c89 => ?_) (fun c89 => ?_)
    · replace h := zif_t h c89
      refine lv_iconst (v := (0 : Int32)) hx hb dX0_layByPrimes_96 (by decide) ?_
      have g0 := Option.some.inj h
      obtain ⟨h1, g1⟩ := Prod.mk.inj g0
      obtain ⟨h2, g2⟩ := Prod.mk.inj g1
      obtain ⟨h3, g3⟩ := Prod.mk.inj g2
      obtain ⟨h4, g4⟩ := Prod.mk.inj g3
      obtain ⟨h5, g5⟩ := Prod.mk.inj g4
      subst h1
      subst h2
      subst h3
      subst h4
      subst h5
      subst g5
      exact W.zret (v := (0 : Int32)) hx hb hr (z01_nar false) (fun t ht hW => ⟨⟨(0 : Int32), (), rfl, rfl, by rw [ht]; exact hP, va_K.moved hW.alike hK, hD⟩, hS.F ht⟩) hS.2.2 dX0_layByPrimes_97
    · replace h := zif_fn h c89
      refine lv_iconst (v := (1 : Int32)) hx hb dX0_layByPrimes_92 (by decide) ?_
      refine lv_goto (tgt := 97) hx hb dX0_layByPrimes_93 (by decide) ?_
      have g0 := Option.some.inj h
      obtain ⟨h1, g1⟩ := Prod.mk.inj g0
      obtain ⟨h2, g2⟩ := Prod.mk.inj g1
      obtain ⟨h3, g3⟩ := Prod.mk.inj g2
      obtain ⟨h4, g4⟩ := Prod.mk.inj g3
      obtain ⟨h5, g5⟩ := Prod.mk.inj g4
      subst h1
      subst h2
      subst h3
      subst h4
      subst h5
      subst g5
      exact W.zret (v := (1 : Int32)) hx hb hr (z01_nar true) (fun t ht hW => ⟨⟨(1 : Int32), (), rfl, rfl, by rw [ht]; exact hP, va_K.moved hW.alike hK, hD⟩, hS.F ht⟩) hS.2.2 dX0_layByPrimes_97
  have L0 : ∀ (K0 : Int32 → (Nat → Nat → Int64) → Bool → (Nat → Int32) → (Nat → Int32) → Int32 → Option (Bool × (Nat → Nat → Int64) × Bool × (Nat → Int32) × (Nat → Int32) × Int32)) (HX0 : ∀ (v3_0 : Int32) (RL0 : Nat → Nat → Int64) (bL0 : Bool) (prL0 : Nat → Int32) (tmL0 : Nat → Int32) (cnL0 : Int32) (H : Heap) (locs : List Loc) (ls : Array Slot), va_P D vwCl (cW a cJ cI cO RL0 bL0 prL0 tmL0 cnL0 sm ac re kn) H → va_D A (cW a cJ cI cO RL0 bL0 prL0 tmL0 cnL0 sm ac re kn) → va_S A s.heap H locs → lv_has ls 8 [(0, .ref (a 16)), (1, .ref (a (2 + p0))), (2, .ref (a (2 + p1))), (3, .int v3_0)] → K0 v3_0 RL0 bL0 prL0 tmL0 cnL0 = some (r, R', b', pr', tm', cn') → G H locs 0 0 (F0 m 82 ls [])) (fu0 : Nat) (v3_0 : Int32) (RL0 : Nat → Nat → Int64) (bL0 : Bool) (prL0 : Nat → Int32) (tmL0 : Nat → Int32) (cnL0 : Int32) (H : Heap) (locs : List Loc) (ls : Array Slot), va_P D vwCl (cW a cJ cI cO RL0 bL0 prL0 tmL0 cnL0 sm ac re kn) H → va_D A (cW a cJ cI cO RL0 bL0 prL0 tmL0 cnL0 sm ac re kn) → va_S A s.heap H locs → lv_has ls 8 [(0, .ref (a 16)), (1, .ref (a (2 + p0))), (2, .ref (a (2 + p1))), (3, .int v3_0)] → p_X0_layByPrimes_L0 F p0 p1 K0 fu0 v3_0 RL0 bL0 prL0 tmL0 cnL0 = some (r, R', b', pr', tm', cn') → G H locs 0 0 (F0 m 9 ls []) := by
    intro K0 HX0 fu0
    induction fu0 with
    | zero =>
      intro v3_0 RL0 bL0 prL0 tmL0 cnL0 H locs ls hP hD hS hl h
      exact (zno h).elim
    | succ fu0 ih0 =>
      intro v3_0 RL0 bL0 prL0 tmL0 cnL0 H locs ls hP hD hS hl h
      refine hG _ _ _ _ _ ?_
      unfold p_X0_layByPrimes_L0 at h
      refine lv_iload_n hx hb dX0_layByPrimes_9 rfl (lv_at hl 3 rfl) ?_
      refine lv_bipush (v := (120 : Int32)) hx hb dX0_layByPrimes_10 (by decide) ?_
      refine lv_icmp_gt (tgt := 82) hx hb dX0_layByPrimes_12 (by decide) (fun c12 => ?_) (fun c12 => ?_)
      · replace h := zif_t h c12
        exact hGW _ _ _ _ _ (HX0 v3_0 RL0 bL0 prL0 tmL0 cnL0 _ _ ls hP hD hS (lv_sub hl [0, 1, 2, 3] rfl) h)
      · replace h := zif_f h c12
        refine lv_aload_n hx hb dX0_layByPrimes_15 rfl (lv_at hl 0 rfl) ?_
        refine va_get (D := D) (ci := 2) (v := .ref (a 15)) (C := RX0) (T := TX0) (N := 2) hx hb hts kwX0 hown hK hP 16 rfl rfl 1 (by decide) kf_15 (fun _ h9 => h9) rfl dX0_layByPrimes_16 ?_
        refine lv_iload_n hx hb dX0_layByPrimes_19 rfl (lv_at hl 3 rfl) ?_
        obtain ⟨pr_5, tm_6, cn_7, e8, h⟩ := zb3_some h
        refine zgor (va_runV (As := [.int v3_0]) (rest := []) ⟨hx, hb, hml, hown, hts⟩ (c_X1_powersOf l D a cJ cI cO cB RL0 bL0 prL0 tmL0 cnL0 sm ac re kn F v3_0 pr_5 tm_6 cn_7 e8 H.size) (cwV 1 hts gX0_layByPrimes_X1_powersOf rfl rfl rfl hdV_X1_powersOf ⟨Nat.le_of_ble_eq_true rfl, Nat.le_of_ble_eq_true rfl⟩) (zpreV (q0 := 15) (ci := 3) (T := TX1) (N := 2) hK hP hD rfl rfl [.int v3_0]) rfl rfl hl.1 rfl (lv_room (Nat.le_of_ble_eq_true rfl)) dX0_layByPrimes_20 ⟨Nat.le_of_ble_eq_true rfl, Nat.le_of_ble_eq_true rfl⟩) (zfree hD hS hA) (zjW hD hS hA) hS (fun H locs hP hD hS => ?_)
        replace hP : va_P D vwCl (cW a cJ cI cO RL0 bL0 pr_5 tm_6 cn_7 sm ac re kn) H := hP
        replace hD : va_D A (cW a cJ cI cO RL0 bL0 pr_5 tm_6 cn_7 sm ac re kn) := hD
        refine lv_astore (lv' := [(4, .ref (a 17)), (0, .ref (a 16)), (1, .ref (a (2 + p0))), (2, .ref (a (2 + p1))), (3, .int v3_0)]) hx hb dX0_layByPrimes_23 hl (by decide) rfl (fun ls hl => ?_)
        refine lv_lconst (v := (1 : Int64)) hx hb dX0_layByPrimes_25 (by decide) ?_
        refine lv_lstore (lv' := [(5, .long (1 : Int64)), (4, .ref (a 17)), (0, .ref (a 16)), (1, .ref (a (2 + p0))), (2, .ref (a (2 + p1))), (3, .int v3_0)]) hx hb dX0_layByPrimes_26 hl (by decide) rfl (fun ls hl => ?_)
        refine lv_iconst (v := (0 : Int32)) hx hb dX0_layByPrimes_28 (by decide) ?_
        refine lv_istore (lv' := [(7, .int (0 : Int32)), (5, .long (1 : Int64)), (4, .ref (a 17)), (0, .ref (a 16)), (1, .ref (a (2 + p0))), (2, .ref (a (2 + p1))), (3, .int v3_0)]) hx hb dX0_layByPrimes_29 hl (by decide) rfl (fun ls hl => ?_)
        have X1 : ∀ (v5_1 : Int64) (v7_1 : Int32) (bL1 : Bool) (H : Heap) (locs : List Loc) (ls : Array Slot), va_P D vwCl (cW a cJ cI cO RL0 bL1 pr_5 tm_6 cn_7 sm ac re kn) H → va_D A (cW a cJ cI cO RL0 bL1 pr_5 tm_6 cn_7 sm ac re kn) → va_S A s.heap H locs → lv_has ls 8 [(0, .ref (a 16)), (1, .ref (a (2 + p0))), (2, .ref (a (2 + p1))), (3, .int v3_0), (4, .ref (a 17)), (5, .long v5_1), (7, .int v7_1)] → (zb1 (p_X4_lay RL0 p1 v3_0 v5_1) (fun R_9 => (p_X0_layByPrimes_L0 F p0 p1 K0 fu0 (v3_0 + (1 : Int32)) R_9 bL1 pr_5 tm_6 cn_7))) = some (r, R', b', pr', tm', cn') → G H locs 0 0 (F0 m 69 ls []) := by
          intro v5_1 v7_1 bL1 H locs ls hP hD hS hl h
          refine hG _ _ _ _ _ ?_
          refine lv_aload_n hx hb dX0_layByPrimes_69 rfl (lv_at hl 2 rfl) ?_
          refine lv_iload_n hx hb dX0_layByPrimes_70 rfl (lv_at hl 3 rfl) ?_
          refine lv_lload hx hb dX0_layByPrimes_71 (lv_at hl 5 rfl) ?_
          obtain ⟨R_9, e10, h⟩ := zb1_some h
          refine zgov (va_runV (As := [.int v3_0, .long v5_1]) (rest := []) ⟨hx, hb, hml, hown, hts⟩ (c_X4_lay l D a cJ cI cO cB RL0 bL1 pr_5 tm_6 cn_7 sm ac re kn p1 v3_0 v5_1 hp1 R_9 e10 H.size) (cwV 2 hts gX0_layByPrimes_X4_lay rfl rfl rfl hdV_X4_lay ⟨Nat.le_of_ble_eq_true rfl, Nat.le_of_ble_eq_true rfl⟩) (zpreV (q0 := 2 + p1) (ci := 6) (T := TX4) (N := 1) hK hP hD (cW_row hp1) rfl [.int v3_0, .long v5_1]) rfl rfl hl.1 rfl (lv_room (Nat.le_of_ble_eq_true rfl)) dX0_layByPrimes_73 ⟨Nat.le_of_ble_eq_true rfl, Nat.le_of_ble_eq_true rfl⟩) (zfree hD hS hA) (zjW hD hS hA) hS (fun H locs hP hD hS => ?_)
          replace hP : va_P D vwCl (cW a cJ cI cO R_9 bL1 pr_5 tm_6 cn_7 sm ac re kn) H := hP
          replace hD : va_D A (cW a cJ cI cO R_9 bL1 pr_5 tm_6 cn_7 sm ac re kn) := hD
          refine lv_iinc (v := (v3_0 + (1 : Int32))) (lv' := [(3, .int (v3_0 + (1 : Int32))), (0, .ref (a 16)), (1, .ref (a (2 + p0))), (2, .ref (a (2 + p1))), (4, .ref (a 17)), (5, .long v5_1), (7, .int v7_1)]) hx hb dX0_layByPrimes_76 hl (k := 3) rfl rfl (by decide) rfl (fun ls hl => ?_)
          refine lv_goto (tgt := 9) hx hb dX0_layByPrimes_79 (by decide) ?_
          exact hGW _ _ _ _ _ (ih0 (v3_0 + (1 : Int32)) R_9 bL1 pr_5 tm_6 cn_7 _ _ ls hP hD hS (lv_sub hl [1, 2, 3, 0] rfl) h)
        have L1 : ∀ (K1 : Int64 → Int32 → Bool → Option (Bool × (Nat → Nat → Int64) × Bool × (Nat → Int32) × (Nat → Int32) × Int32)) (HX1 : ∀ (v5_1 : Int64) (v7_1 : Int32) (bL1 : Bool) (H : Heap) (locs : List Loc) (ls : Array Slot), va_P D vwCl (cW a cJ cI cO RL0 bL1 pr_5 tm_6 cn_7 sm ac re kn) H → va_D A (cW a cJ cI cO RL0 bL1 pr_5 tm_6 cn_7 sm ac re kn) → va_S A s.heap H locs → lv_has ls 8 [(0, .ref (a 16)), (1, .ref (a (2 + p0))), (2, .ref (a (2 + p1))), (3, .int v3_0), (4, .ref (a 17)), (5, .long v5_1), (7, .int v7_1)] → K1 v5_1 v7_1 bL1 = some (r, R', b', pr', tm', cn') → G H locs 0 0 (F0 m 69 ls [])) (fu1 : Nat) (v5_1 : Int64) (v7_1 : Int32) (bL1 : Bool) (H : Heap) (locs : List Loc) (ls : Array Slot), va_P D vwCl (cW a cJ cI cO RL0 bL1 pr_5 tm_6 cn_7 sm ac re kn) H → va_D A (cW a cJ cI cO RL0 bL1 pr_5 tm_6 cn_7 sm ac re kn) → va_S A s.heap H locs → lv_has ls 8 [(0, .ref (a 16)), (1, .ref (a (2 + p0))), (2, .ref (a (2 + p1))), (3, .int v3_0), (4, .ref (a 17)), (5, .long v5_1), (7, .int v7_1)] → p_X0_layByPrimes_L1 F p0 RL0 pr_5 tm_6 cn_7 K1 fu1 v5_1 v7_1 bL1 = some (r, R', b', pr', tm', cn') → G H locs 0 0 (F0 m 31 ls []) := by
          intro K1 HX1 fu1
          induction fu1 with
          | zero =>
            intro v5_1 v7_1 bL1 H locs ls hP hD hS hl h
            exact (zno h).elim
          | succ fu1 ih1 =>
            intro v5_1 v7_1 bL1 H locs ls hP hD hS hl h
            refine hG _ _ _ _ _ ?_
            unfold p_X0_layByPrimes_L1 at h
            refine lv_iload hx hb dX0_layByPrimes_31 (lv_at hl 6 rfl) ?_
            refine lv_aload hx hb dX0_layByPrimes_33 (lv_at hl 4 rfl) ?_
            obtain ⟨r11, e12, h⟩ := zb1_some h
            refine zgoi (va_runV (As := []) (rest := [.int v7_1]) ⟨hx, hb, hml, hown, hts⟩ (c_X2_count l D a cJ cI cO cB RL0 bL1 pr_5 tm_6 cn_7 sm ac re kn r11 e12 H.size) (cwV 0 hts gX0_layByPrimes_X2_count rfl rfl rfl hdV_X2_count ⟨Nat.le_of_ble_eq_true rfl, Nat.le_of_ble_eq_true rfl⟩) (zpreV (q0 := 17) (ci := 4) (T := TX2) (N := 3) hK hP hD rfl rfl []) rfl rfl hl.1 rfl (lv_room (Nat.le_of_ble_eq_true rfl)) dX0_layByPrimes_35 ⟨Nat.le_of_ble_eq_true rfl, Nat.le_of_ble_eq_true rfl⟩) (zfree hD hS hA) (zjW hD hS hA) hS (fun H locs hP hD hS => ?_)
            replace hP : va_P D vwCl (cW a cJ cI cO RL0 bL1 pr_5 tm_6 cn_7 sm ac re kn) H := hP
            replace hD : va_D A (cW a cJ cI cO RL0 bL1 pr_5 tm_6 cn_7 sm ac re kn) := hD
            refine lv_icmp_ge (tgt := 69) hx hb dX0_layByPrimes_38 (by decide) (fun c38 => ?_) (fun c38 => ?_)
            · replace h := zif_t h c38
              exact hGW _ _ _ _ _ (HX1 v5_1 v7_1 bL1 _ _ ls hP hD hS (lv_sub hl [0, 1, 2, 3, 4, 5, 6] rfl) h)
            · replace h := zif_f h c38
              refine lv_aload_n hx hb dX0_layByPrimes_41 rfl (lv_at hl 0 rfl) ?_
              refine va_get (D := D) (ci := 2) (v := .ref (a 14)) (C := RX0) (T := TX0) (N := 2) hx hb hts kwX0 hown hK hP 16 rfl rfl 0 (by decide) kf_9 (fun _ h9 => h9) rfl dX0_layByPrimes_42 ?_
              refine lv_lload hx hb dX0_layByPrimes_45 (lv_at hl 5 rfl) ?_
              refine lv_aload_n hx hb dX0_layByPrimes_47 rfl (lv_at hl 1 rfl) ?_
              refine lv_aload hx hb dX0_layByPrimes_48 (lv_at hl 4 rfl) ?_
              refine lv_iload hx hb dX0_layByPrimes_50 (lv_at hl 6 rfl) ?_
              obtain ⟨r13, e14, h⟩ := zb1_some h
              refine zgoi (va_runV (As := [.int v7_1]) (rest := [.ref (a (2 + p0)), .long v5_1, .ref (a 14)]) ⟨hx, hb, hml, hown, hts⟩ (c_X2_powerAt l D a cJ cI cO cB RL0 bL1 pr_5 tm_6 cn_7 sm ac re kn F v7_1 r13 e14 H.size) (cwV 1 hts gX0_layByPrimes_X2_powerAt rfl rfl rfl hdV_X2_powerAt ⟨Nat.le_of_ble_eq_true rfl, Nat.le_of_ble_eq_true rfl⟩) (zpreV (q0 := 17) (ci := 4) (T := TX2) (N := 3) hK hP hD rfl rfl [.int v7_1]) rfl rfl hl.1 rfl (lv_room (Nat.le_of_ble_eq_true rfl)) dX0_layByPrimes_52 ⟨Nat.le_of_ble_eq_true rfl, Nat.le_of_ble_eq_true rfl⟩) (zfree hD hS hA) (zjW hD hS hA) hS (fun H locs hP hD hS => ?_)
              replace hP : va_P D vwCl (cW a cJ cI cO RL0 bL1 pr_5 tm_6 cn_7 sm ac re kn) H := hP
              replace hD : va_D A (cW a cJ cI cO RL0 bL1 pr_5 tm_6 cn_7 sm ac re kn) := hD
              obtain ⟨r15, e16, h⟩ := zb1_some h
              refine zgol (va_runV (As := [.int r13]) (rest := [.long v5_1, .ref (a 14)]) ⟨hx, hb, hml, hown, hts⟩ (c_X4_at l D a cJ cI cO cB RL0 bL1 pr_5 tm_6 cn_7 sm ac re kn p0 r13 hp0 r15 e16 H.size) (cwV 1 hts gX0_layByPrimes_X4_at rfl rfl rfl hdV_X4_at ⟨Nat.le_of_ble_eq_true rfl, Nat.le_of_ble_eq_true rfl⟩) (zpreV (q0 := 2 + p0) (ci := 6) (T := TX4) (N := 1) hK hP hD (cW_row hp0) rfl [.int r13]) rfl rfl hl.1 rfl (lv_room (Nat.le_of_ble_eq_true rfl)) dX0_layByPrimes_55 ⟨Nat.le_of_ble_eq_true rfl, Nat.le_of_ble_eq_true rfl⟩) (zfree hD hS hA) (zjW hD hS hA) hS (fun H locs hP hD hS => ?_)
              replace hP : va_P D vwCl (cW a cJ cI cO RL0 bL1 pr_5 tm_6 cn_7 sm ac re kn) H := hP
              replace hD : va_D A (cW a cJ cI cO RL0 bL1 pr_5 tm_6 cn_7 sm ac re kn) := hD
              obtain ⟨r17, b_18, e19, h⟩ := zb2_some h
              refine zgol (va_runV (As := [.long v5_1, .long r15]) (rest := []) ⟨hx, hb, hml, hown, hts⟩ (c_X3_times l D a cJ cI cO cB RL0 bL1 pr_5 tm_6 cn_7 sm ac re kn v5_1 r15 r17 b_18 e19 H.size) (cwV 2 hts gX0_layByPrimes_X3_times rfl rfl rfl hdV_X3_times ⟨Nat.le_of_ble_eq_true rfl, Nat.le_of_ble_eq_true rfl⟩) (zpreV (q0 := 14) (ci := 5) (T := TX3) (N := 1) hK hP hD rfl rfl [.long v5_1, .long r15]) rfl rfl hl.1 rfl (lv_room (Nat.le_of_ble_eq_true rfl)) dX0_layByPrimes_58 ⟨Nat.le_of_ble_eq_true rfl, Nat.le_of_ble_eq_true rfl⟩) (zfree hD hS hA) (zjW hD hS hA) hS (fun H locs hP hD hS => ?_)
              replace hP : va_P D vwCl (cW a cJ cI cO RL0 b_18 pr_5 tm_6 cn_7 sm ac re kn) H := hP
              replace hD : va_D A (cW a cJ cI cO RL0 b_18 pr_5 tm_6 cn_7 sm ac re kn) := hD
              refine lv_lstore (lv' := [(5, .long r17), (0, .ref (a 16)), (1, .ref (a (2 + p0))), (2, .ref (a (2 + p1))), (3, .int v3_0), (4, .ref (a 17)), (7, .int v7_1)]) hx hb dX0_layByPrimes_61 hl (by decide) rfl (fun ls hl => ?_)
              refine lv_iinc (v := (v7_1 + (1 : Int32))) (lv' := [(7, .int (v7_1 + (1 : Int32))), (5, .long r17), (0, .ref (a 16)), (1, .ref (a (2 + p0))), (2, .ref (a (2 + p1))), (3, .int v3_0), (4, .ref (a 17))]) hx hb dX0_layByPrimes_63 hl (k := 6) rfl rfl (by decide) rfl (fun ls hl => ?_)
              refine lv_goto (tgt := 31) hx hb dX0_layByPrimes_66 (by decide) ?_
              exact hGW _ _ _ _ _ (ih1 r17 (v7_1 + (1 : Int32)) b_18 _ _ ls hP hD hS (lv_sub hl [2, 3, 4, 5, 6, 1, 0] rfl) h)
        exact hGW _ _ _ _ _ (L1 _ X1 F (1 : Int64) (0 : Int32) bL0 _ _ ls hP hD hS (lv_sub hl [3, 4, 5, 6, 2, 1, 0] rfl) h)
  exact hGW _ _ _ _ _ (L0 _ X0 F (1 : Int32) R b_1 pr tm cn _ _ ls hP hD hS (lv_sub hl [1, 2, 3, 0] rfl) h)

noncomputable def p_X0_layTurned_L0 (F : Nat) (p0 : Nat) (p1 : Nat) (k : Int32 → (Nat → Nat → Int64) → Bool → Option (Bool × (Nat → Nat → Int64) × Bool)) : Nat → Int32 → (Nat → Nat → Int64) → Bool → Option (Bool × (Nat → Nat → Int64) × Bool)
  | 0, _, _, _ => none
  | n + 1, v3_0, RL0, bL0 => (if (120 : Int32) < v3_0 then (k v3_0 RL0 bL0) else (zb1 (p_X4_at RL0 p0 v3_0) (fun r5 => (zb2 (p_X3_minus bL0 (0 : Int64) r5) (fun r7 b_8 => (zb1 (p_X4_lay RL0 p1 v3_0 r7) (fun R_10 => (p_X0_layTurned_L0 F p0 p1 k n (v3_0 + (1 : Int32)) R_10 b_8))))))))
noncomputable def p_X0_layTurned (F : Nat) (R : Nat → Nat → Int64) (p0 : Nat) (p1 : Nat) : Option (Bool × (Nat → Nat → Int64) × Bool) := (zb1 (p_X3_begin) (fun b_1 => (p_X0_layTurned_L0 F p0 p1 (fun v3_0 RL0 bL0 => (zb1 (p_X3_isBeyond bL0) (fun r3 => (if ¬ (z01 r3) = 0 then (some (false, RL0, bL0)) else (some (true, RL0, bL0)))))) F (1 : Int32) R b_1)))
theorem hdV_X0_layTurned : yX0_layTurned.cls = RX0 ∧ yX0_layTurned.cls ≠ "java/lang/invoke/MethodHandle" ∧ yX0_layTurned.cls ≠ "java/lang/invoke/VarHandle" ∧ (parseMethodDescriptor yX0_layTurned.desc).map (fun d => d.parameters.length) = some 2 := by decide +kernel
set_option maxHeartbeats 4000000 in
set_option maxRecDepth 100000 in
theorem c_X0_layTurned (l : Launch) (D : va_G) (a : Nat → Nat) (cJ cI cO cB : ClassId) (R : Nat → Nat → Int64) (b : Bool) (pr : Nat → Int32) (tm : Nat → Int32) (cn : Int32) (sm : Nat → Int32) (ac : Int32) (re : Int32) (kn : Int32) (F : Nat) (p0 : Nat) (p1 : Nat) (hp0 : p0 < 6) (hp1 : p1 < 6) (r : Bool) (R' : Nat → Nat → Int64) (b' : Bool) (h : p_X0_layTurned F R p0 p1 = some (r, R', b')) : zMi l yX0_layTurned wsX0_layTurned 1 26 0 0 D (zT cJ cI cO cB) [.ref (a 16), .ref (a (2 + p0)), .ref (a (2 + p1))] (cW a cJ cI cO R b pr tm cn sm ac re kn) (cW a cJ cI cO R' b' pr tm cn sm ac re kn) (z01 r) := by
  intro sz
  delta zQi
  refine Met.ofW (cc := cX0_layTurned) (maxL := 4) (ret := (some .boolean)) (by decide) rfl ?_
  intro p e s m args below meth c s₁ B hml hv
  obtain ⟨rfl, hsz, hP, hK, hD0⟩ := hv
  have hx := B.exec
  have hb := B.bytes
  have hr := B.returns
  have hts := atoms_spec (ws := wsX0_layTurned) B.pre
  have hown : s.vm.findClass RX0 = some m.cls := findClass_of_methodNamed B.named
  have hlocks := B.notSynchronized
  subst hsz
  have hD := hD0.self (sz := s.heap.size)
  generalize hAe : va_A (cW a cJ cI cO R b pr tm cn sm ac re kn) s.heap.size = A at hD ⊢
  have hA : ∀ q : Nat, s.heap.size ≤ q → A q := fun q h => by rw [← hAe]; exact Or.inr h
  have hS : va_S A s.heap s.heap [] := va_S.rf
  have hl := lv_entry ([.ref (a 16), .ref (a (2 + p0)), .ref (a (2 + p1))]) (n := 4) (Nat.le_of_ble_eq_true rfl)
  rw [lg_entry_eq]
  generalize (lg_sl ([.ref (a 16), .ref (a (2 + p0)), .ref (a (2 + p1))]) ++ List.replicate (4 - (lg_sl ([.ref (a 16), .ref (a (2 + p0)), .ref (a (2 + p1))])).length) Slot.unset).toArray = ls at hl ⊢
  replace hl : lv_has ls 4 [(0, .ref (a 16)), (1, .ref (a (2 + p0))), (2, .ref (a (2 + p1)))] := hl
  have kwX0 : ∀ w ∈ u_ws RX0 TX0 2, w ∈ wsX0_layTurned := fun w h => List.mem_cons_of_mem _ (List.mem_append_left _ (List.mem_append_left _ (List.mem_append_left _ (List.mem_append_left _ (List.mem_append_left _ (List.mem_append_right _ h))))))
  have kf_9 := hts (.fieldLink RX0 9 "Divisorwork$Maker" "reckoning" "LDivisorwork$Reckoning;") (zmem 1 rfl)
  replace h : (zb1 (p_X3_begin) (fun b_1 => (p_X0_layTurned_L0 F p0 p1 (fun v3_0 RL0 bL0 => (zb1 (p_X3_isBeyond bL0) (fun r3 => (if ¬ (z01 r3) = 0 then (some (false, RL0, bL0)) else (some (true, RL0, bL0)))))) F (1 : Int32) R b_1))) = some (r, R', b') := h
  refine zabs (fun G hG hGW => ?_)
  obtain ⟨H, hHe⟩ : ∃ H, H = s.heap := ⟨_, rfl⟩
  rw [← hHe] at hP
  replace hS : va_S A s.heap H [] := by rw [hHe]; exact hS
  refine zheap hHe ?_
  refine lv_aload_n hx hb dX0_layTurned_0 rfl (lv_at hl 0 rfl) ?_
  refine va_get (D := D) (ci := 2) (v := .ref (a 14)) (C := RX0) (T := TX0) (N := 2) hx hb hts kwX0 hown hK hP 16 rfl rfl 0 (by decide) kf_9 (fun _ h9 => h9) rfl dX0_layTurned_1 ?_
  obtain ⟨b_1, e2, h⟩ := zb1_some h
  refine zgov (va_runV (As := []) (rest := []) ⟨hx, hb, hml, hown, hts⟩ (c_X3_begin l D a cJ cI cO cB R b pr tm cn sm ac re kn b_1 e2 H.size) (cwV 0 hts gX0_layTurned_X3_begin rfl rfl rfl hdV_X3_begin ⟨Nat.le_of_ble_eq_true rfl, Nat.le_of_ble_eq_true rfl⟩) (zpreV (q0 := 14) (ci := 5) (T := TX3) (N := 1) hK hP hD rfl rfl []) rfl rfl hl.1 rfl (lv_room (Nat.le_of_ble_eq_true rfl)) dX0_layTurned_4 ⟨Nat.le_of_ble_eq_true rfl, Nat.le_of_ble_eq_true rfl⟩) (zfree hD hS hA) (zjW hD hS hA) hS (fun H locs hP hD hS => ?_)
  replace hP : va_P D vwCl (cW a cJ cI cO R b_1 pr tm cn sm ac re kn) H := hP
  replace hD : va_D A (cW a cJ cI cO R b_1 pr tm cn sm ac re kn) := hD
  refine lv_iconst (v := (1 : Int32)) hx hb dX0_layTurned_7 (by decide) ?_
  refine lv_istore_n (lv' := [(3, .int (1 : Int32)), (0, .ref (a 16)), (1, .ref (a (2 + p0))), (2, .ref (a (2 + p1)))]) hx hb dX0_layTurned_8 rfl hl (by decide) rfl (fun ls hl => ?_)
  have X0 : ∀ (v3_0 : Int32) (RL0 : Nat → Nat → Int64) (bL0 : Bool) (H : Heap) (locs : List Loc) (ls : Array Slot), va_P D vwCl (cW a cJ cI cO RL0 bL0 pr tm cn sm ac re kn) H → va_D A (cW a cJ cI cO RL0 bL0 pr tm cn sm ac re kn) → va_S A s.heap H locs → lv_has ls 4 [(0, .ref (a 16)), (1, .ref (a (2 + p0))), (2, .ref (a (2 + p1))), (3, .int v3_0)] → (zb1 (p_X3_isBeyond bL0) (fun r3 => (if ¬ (z01 r3) = 0 then (some (false, RL0, bL0)) else (some (true, RL0, bL0))))) = some (r, R', b') → G H locs 0 0 (F0 m 39 ls []) := by
    intro v3_0 RL0 bL0 H locs ls hP hD hS hl h
    refine hG _ _ _ _ _ ?_
    refine lv_aload_n hx hb dX0_layTurned_39 rfl (lv_at hl 0 rfl) ?_
    refine va_get (D := D) (ci := 2) (v := .ref (a 14)) (C := RX0) (T := TX0) (N := 2) hx hb hts kwX0 hown hK hP 16 rfl rfl 0 (by decide) kf_9 (fun _ h9 => h9) rfl dX0_layTurned_40 ?_
    obtain ⟨r3, e4, h⟩ := zb1_some h
    refine zgoi (va_runV (As := []) (rest := []) ⟨hx, hb, hml, hown, hts⟩ (c_X3_isBeyond l D a cJ cI cO cB RL0 bL0 pr tm cn sm ac re kn r3 e4 H.size) (cwV 0 hts gX0_layTurned_X3_isBeyond rfl rfl rfl hdV_X3_isBeyond ⟨Nat.le_of_ble_eq_true rfl, Nat.le_of_ble_eq_true rfl⟩) (zpreV (q0 := 14) (ci := 5) (T := TX3) (N := 1) hK hP hD rfl rfl []) rfl rfl hl.1 rfl (lv_room (Nat.le_of_ble_eq_true rfl)) dX0_layTurned_43 ⟨Nat.le_of_ble_eq_true rfl, Nat.le_of_ble_eq_true rfl⟩) (zfree hD hS hA) (zjW hD hS hA) hS (fun H locs hP hD hS => ?_)
    replace hP : va_P D vwCl (cW a cJ cI cO RL0 bL0 pr tm cn sm ac re kn) H := hP
    replace hD : va_D A (cW a cJ cI cO RL0 bL0 pr tm cn sm ac re kn) := hD
    refine lv_if_ne (tgt := 53) hx hb dX0_layTurned_46 (by decide) (fun c46 => ?_) (fun c46 => ?_)
    · replace h := zif_t h c46
      refine lv_iconst (v := (0 : Int32)) hx hb dX0_layTurned_53 (by decide) ?_
      have g0 := Option.some.inj h
      obtain ⟨h1, g1⟩ := Prod.mk.inj g0
      obtain ⟨h2, g2⟩ := Prod.mk.inj g1
      subst h1
      subst h2
      subst g2
      exact W.zret (v := (0 : Int32)) hx hb hr (z01_nar false) (fun t ht hW => ⟨⟨(0 : Int32), (), rfl, rfl, by rw [ht]; exact hP, va_K.moved hW.alike hK, hD⟩, hS.F ht⟩) hS.2.2 dX0_layTurned_54
    · replace h := zif_fn h c46
      refine lv_iconst (v := (1 : Int32)) hx hb dX0_layTurned_49 (by decide) ?_
      refine lv_goto (tgt := 54) hx hb dX0_layTurned_50 (by decide) ?_
      have g0 := Option.some.inj h
      obtain ⟨h1, g1⟩ := Prod.mk.inj g0
      obtain ⟨h2, g2⟩ := Prod.mk.inj g1
      subst h1
      subst h2
      subst g2
      exact W.zret (v := (1 : Int32)) hx hb hr (z01_nar true) (fun t ht hW => ⟨⟨(1 : Int32), (), rfl, rfl, by rw [ht]; exact hP, va_K.moved hW.alike hK, hD⟩, hS.F ht⟩) hS.2.2 dX0_layTurned_54
  have L0 : ∀ (K0 : Int32 → (Nat → Nat → Int64) → Bool → Option (Bool × (Nat → Nat → Int64) × Bool)) (HX0 : ∀ (v3_0 : Int32) (RL0 : Nat → Nat → Int64) (bL0 : Bool) (H : Heap) (locs : List Loc) (ls : Array Slot), va_P D vwCl (cW a cJ cI cO RL0 bL0 pr tm cn sm ac re kn) H → va_D A (cW a cJ cI cO RL0 bL0 pr tm cn sm ac re kn) → va_S A s.heap H locs → lv_has ls 4 [(0, .ref (a 16)), (1, .ref (a (2 + p0))), (2, .ref (a (2 + p1))), (3, .int v3_0)] → K0 v3_0 RL0 bL0 = some (r, R', b') → G H locs 0 0 (F0 m 39 ls [])) (fu0 : Nat) (v3_0 : Int32) (RL0 : Nat → Nat → Int64) (bL0 : Bool) (H : Heap) (locs : List Loc) (ls : Array Slot), va_P D vwCl (cW a cJ cI cO RL0 bL0 pr tm cn sm ac re kn) H → va_D A (cW a cJ cI cO RL0 bL0 pr tm cn sm ac re kn) → va_S A s.heap H locs → lv_has ls 4 [(0, .ref (a 16)), (1, .ref (a (2 + p0))), (2, .ref (a (2 + p1))), (3, .int v3_0)] → p_X0_layTurned_L0 F p0 p1 K0 fu0 v3_0 RL0 bL0 = some (r, R', b') → G H locs 0 0 (F0 m 9 ls []) := by
    intro K0 HX0 fu0
    induction fu0 with
    | zero =>
      intro v3_0 RL0 bL0 H locs ls hP hD hS hl h
      exact (zno h).elim
    | succ fu0 ih0 =>
      intro v3_0 RL0 bL0 H locs ls hP hD hS hl h
      refine hG _ _ _ _ _ ?_
      unfold p_X0_layTurned_L0 at h
      refine lv_iload_n hx hb dX0_layTurned_9 rfl (lv_at hl 3 rfl) ?_
      refine lv_bipush (v := (120 : Int32)) hx hb dX0_layTurned_10 (by decide) ?_
      refine lv_icmp_gt (tgt := 39) hx hb dX0_layTurned_12 (by decide) (fun c12 => ?_) (fun c12 => ?_)
      · replace h := zif_t h c12
        exact hGW _ _ _ _ _ (HX0 v3_0 RL0 bL0 _ _ ls hP hD hS (lv_sub hl [0, 1, 2, 3] rfl) h)
      · replace h := zif_f h c12
        refine lv_aload_n hx hb dX0_layTurned_15 rfl (lv_at hl 2 rfl) ?_
        refine lv_iload_n hx hb dX0_layTurned_16 rfl (lv_at hl 3 rfl) ?_
        refine lv_aload_n hx hb dX0_layTurned_17 rfl (lv_at hl 0 rfl) ?_
        refine va_get (D := D) (ci := 2) (v := .ref (a 14)) (C := RX0) (T := TX0) (N := 2) hx hb hts kwX0 hown hK hP 16 rfl rfl 0 (by decide) kf_9 (fun _ h9 => h9) rfl dX0_layTurned_18 ?_
        refine lv_lconst (v := (0 : Int64)) hx hb dX0_layTurned_21 (by decide) ?_
        refine lv_aload_n hx hb dX0_layTurned_22 rfl (lv_at hl 1 rfl) ?_
        refine lv_iload_n hx hb dX0_layTurned_23 rfl (lv_at hl 3 rfl) ?_
        obtain ⟨r5, e6, h⟩ := zb1_some h
        refine zgol (va_runV (As := [.int v3_0]) (rest := [.long (0 : Int64), .ref (a 14), .int v3_0, .ref (a (2 + p1))]) ⟨hx, hb, hml, hown, hts⟩ (c_X4_at l D a cJ cI cO cB RL0 bL0 pr tm cn sm ac re kn p0 v3_0 hp0 r5 e6 H.size) (cwV 1 hts gX0_layTurned_X4_at rfl rfl rfl hdV_X4_at ⟨Nat.le_of_ble_eq_true rfl, Nat.le_of_ble_eq_true rfl⟩) (zpreV (q0 := 2 + p0) (ci := 6) (T := TX4) (N := 1) hK hP hD (cW_row hp0) rfl [.int v3_0]) rfl rfl hl.1 rfl (lv_room (Nat.le_of_ble_eq_true rfl)) dX0_layTurned_24 ⟨Nat.le_of_ble_eq_true rfl, Nat.le_of_ble_eq_true rfl⟩) (zfree hD hS hA) (zjW hD hS hA) hS (fun H locs hP hD hS => ?_)
        replace hP : va_P D vwCl (cW a cJ cI cO RL0 bL0 pr tm cn sm ac re kn) H := hP
        replace hD : va_D A (cW a cJ cI cO RL0 bL0 pr tm cn sm ac re kn) := hD
        obtain ⟨r7, b_8, e9, h⟩ := zb2_some h
        refine zgol (va_runV (As := [.long (0 : Int64), .long r5]) (rest := [.int v3_0, .ref (a (2 + p1))]) ⟨hx, hb, hml, hown, hts⟩ (c_X3_minus l D a cJ cI cO cB RL0 bL0 pr tm cn sm ac re kn (0 : Int64) r5 r7 b_8 e9 H.size) (cwV 2 hts gX0_layTurned_X3_minus rfl rfl rfl hdV_X3_minus ⟨Nat.le_of_ble_eq_true rfl, Nat.le_of_ble_eq_true rfl⟩) (zpreV (q0 := 14) (ci := 5) (T := TX3) (N := 1) hK hP hD rfl rfl [.long (0 : Int64), .long r5]) rfl rfl hl.1 rfl (lv_room (Nat.le_of_ble_eq_true rfl)) dX0_layTurned_27 ⟨Nat.le_of_ble_eq_true rfl, Nat.le_of_ble_eq_true rfl⟩) (zfree hD hS hA) (zjW hD hS hA) hS (fun H locs hP hD hS => ?_)
        replace hP : va_P D vwCl (cW a cJ cI cO RL0 b_8 pr tm cn sm ac re kn) H := hP
        replace hD : va_D A (cW a cJ cI cO RL0 b_8 pr tm cn sm ac re kn) := hD
        obtain ⟨R_10, e11, h⟩ := zb1_some h
        refine zgov (va_runV (As := [.int v3_0, .long r7]) (rest := []) ⟨hx, hb, hml, hown, hts⟩ (c_X4_lay l D a cJ cI cO cB RL0 b_8 pr tm cn sm ac re kn p1 v3_0 r7 hp1 R_10 e11 H.size) (cwV 2 hts gX0_layTurned_X4_lay rfl rfl rfl hdV_X4_lay ⟨Nat.le_of_ble_eq_true rfl, Nat.le_of_ble_eq_true rfl⟩) (zpreV (q0 := 2 + p1) (ci := 6) (T := TX4) (N := 1) hK hP hD (cW_row hp1) rfl [.int v3_0, .long r7]) rfl rfl hl.1 rfl (lv_room (Nat.le_of_ble_eq_true rfl)) dX0_layTurned_30 ⟨Nat.le_of_ble_eq_true rfl, Nat.le_of_ble_eq_true rfl⟩) (zfree hD hS hA) (zjW hD hS hA) hS (fun H locs hP hD hS => ?_)
        replace hP : va_P D vwCl (cW a cJ cI cO R_10 b_8 pr tm cn sm ac re kn) H := hP
        replace hD : va_D A (cW a cJ cI cO R_10 b_8 pr tm cn sm ac re kn) := hD
        refine lv_iinc (v := (v3_0 + (1 : Int32))) (lv' := [(3, .int (v3_0 + (1 : Int32))), (0, .ref (a 16)), (1, .ref (a (2 + p0))), (2, .ref (a (2 + p1)))]) hx hb dX0_layTurned_33 hl (k := 3) rfl rfl (by decide) rfl (fun ls hl => ?_)
        refine lv_goto (tgt := 9) hx hb dX0_layTurned_36 (by decide) ?_
        exact hGW _ _ _ _ _ (ih0 (v3_0 + (1 : Int32)) R_10 b_8 _ _ ls hP hD hS (lv_sub hl [1, 2, 3, 0] rfl) h)
  exact hGW _ _ _ _ _ (L0 _ X0 F (1 : Int32) R b_1 _ _ ls hP hD hS (lv_sub hl [1, 2, 3, 0] rfl) h)

noncomputable def p_X0_layByPlace_L0 (F : Nat) (p0 : Nat) (p1 : Nat) (k : Int32 → (Nat → Nat → Int64) → Bool → Option (Bool × (Nat → Nat → Int64) × Bool)) : Nat → Int32 → (Nat → Nat → Int64) → Bool → Option (Bool × (Nat → Nat → Int64) × Bool)
  | 0, _, _, _ => none
  | n + 1, v3_0, RL0, bL0 => (if (120 : Int32) < v3_0 then (k v3_0 RL0 bL0) else (zb1 (p_X4_at RL0 p0 v3_0) (fun r5 => (zb2 (p_X3_times bL0 r5 (v3_0.toInt64)) (fun r7 b_8 => (zb1 (p_X4_lay RL0 p1 v3_0 r7) (fun R_10 => (p_X0_layByPlace_L0 F p0 p1 k n (v3_0 + (1 : Int32)) R_10 b_8))))))))
noncomputable def p_X0_layByPlace (F : Nat) (R : Nat → Nat → Int64) (p0 : Nat) (p1 : Nat) : Option (Bool × (Nat → Nat → Int64) × Bool) := (zb1 (p_X3_begin) (fun b_1 => (p_X0_layByPlace_L0 F p0 p1 (fun v3_0 RL0 bL0 => (zb1 (p_X3_isBeyond bL0) (fun r3 => (if ¬ (z01 r3) = 0 then (some (false, RL0, bL0)) else (some (true, RL0, bL0)))))) F (1 : Int32) R b_1)))
theorem hdV_X0_layByPlace : yX0_layByPlace.cls = RX0 ∧ yX0_layByPlace.cls ≠ "java/lang/invoke/MethodHandle" ∧ yX0_layByPlace.cls ≠ "java/lang/invoke/VarHandle" ∧ (parseMethodDescriptor yX0_layByPlace.desc).map (fun d => d.parameters.length) = some 2 := by decide +kernel
set_option maxHeartbeats 4000000 in
set_option maxRecDepth 100000 in
theorem c_X0_layByPlace (l : Launch) (D : va_G) (a : Nat → Nat) (cJ cI cO cB : ClassId) (R : Nat → Nat → Int64) (b : Bool) (pr : Nat → Int32) (tm : Nat → Int32) (cn : Int32) (sm : Nat → Int32) (ac : Int32) (re : Int32) (kn : Int32) (F : Nat) (p0 : Nat) (p1 : Nat) (hp0 : p0 < 6) (hp1 : p1 < 6) (r : Bool) (R' : Nat → Nat → Int64) (b' : Bool) (h : p_X0_layByPlace F R p0 p1 = some (r, R', b')) : zMi l yX0_layByPlace wsX0_layByPlace 2 47 0 0 D (zT cJ cI cO cB) [.ref (a 16), .ref (a (2 + p0)), .ref (a (2 + p1))] (cW a cJ cI cO R b pr tm cn sm ac re kn) (cW a cJ cI cO R' b' pr tm cn sm ac re kn) (z01 r) := by
  intro sz
  delta zQi
  refine Met.ofW (cc := cX0_layByPlace) (maxL := 4) (ret := (some .boolean)) (by decide) rfl ?_
  intro p e s m args below meth c s₁ B hml hv
  obtain ⟨rfl, hsz, hP, hK, hD0⟩ := hv
  have hx := B.exec
  have hb := B.bytes
  have hr := B.returns
  have hts := atoms_spec (ws := wsX0_layByPlace) B.pre
  have hown : s.vm.findClass RX0 = some m.cls := findClass_of_methodNamed B.named
  have hlocks := B.notSynchronized
  subst hsz
  have hD := hD0.self (sz := s.heap.size)
  generalize hAe : va_A (cW a cJ cI cO R b pr tm cn sm ac re kn) s.heap.size = A at hD ⊢
  have hA : ∀ q : Nat, s.heap.size ≤ q → A q := fun q h => by rw [← hAe]; exact Or.inr h
  have hS : va_S A s.heap s.heap [] := va_S.rf
  have hl := lv_entry ([.ref (a 16), .ref (a (2 + p0)), .ref (a (2 + p1))]) (n := 4) (Nat.le_of_ble_eq_true rfl)
  rw [lg_entry_eq]
  generalize (lg_sl ([.ref (a 16), .ref (a (2 + p0)), .ref (a (2 + p1))]) ++ List.replicate (4 - (lg_sl ([.ref (a 16), .ref (a (2 + p0)), .ref (a (2 + p1))])).length) Slot.unset).toArray = ls at hl ⊢
  replace hl : lv_has ls 4 [(0, .ref (a 16)), (1, .ref (a (2 + p0))), (2, .ref (a (2 + p1)))] := hl
  have kwX0 : ∀ w ∈ u_ws RX0 TX0 2, w ∈ wsX0_layByPlace := fun w h => List.mem_cons_of_mem _ (List.mem_append_left _ (List.mem_append_left _ (List.mem_append_left _ (List.mem_append_left _ (List.mem_append_left _ (List.mem_append_right _ h))))))
  have kf_9 := hts (.fieldLink RX0 9 "Divisorwork$Maker" "reckoning" "LDivisorwork$Reckoning;") (zmem 1 rfl)
  replace h : (zb1 (p_X3_begin) (fun b_1 => (p_X0_layByPlace_L0 F p0 p1 (fun v3_0 RL0 bL0 => (zb1 (p_X3_isBeyond bL0) (fun r3 => (if ¬ (z01 r3) = 0 then (some (false, RL0, bL0)) else (some (true, RL0, bL0)))))) F (1 : Int32) R b_1))) = some (r, R', b') := h
  refine zabs (fun G hG hGW => ?_)
  obtain ⟨H, hHe⟩ : ∃ H, H = s.heap := ⟨_, rfl⟩
  rw [← hHe] at hP
  replace hS : va_S A s.heap H [] := by rw [hHe]; exact hS
  refine zheap hHe ?_
  refine lv_aload_n hx hb dX0_layByPlace_0 rfl (lv_at hl 0 rfl) ?_
  refine va_get (D := D) (ci := 2) (v := .ref (a 14)) (C := RX0) (T := TX0) (N := 2) hx hb hts kwX0 hown hK hP 16 rfl rfl 0 (by decide) kf_9 (fun _ h9 => h9) rfl dX0_layByPlace_1 ?_
  obtain ⟨b_1, e2, h⟩ := zb1_some h
  refine zgov (va_runV (As := []) (rest := []) ⟨hx, hb, hml, hown, hts⟩ (c_X3_begin l D a cJ cI cO cB R b pr tm cn sm ac re kn b_1 e2 H.size) (cwV 0 hts gX0_layByPlace_X3_begin rfl rfl rfl hdV_X3_begin ⟨Nat.le_of_ble_eq_true rfl, Nat.le_of_ble_eq_true rfl⟩) (zpreV (q0 := 14) (ci := 5) (T := TX3) (N := 1) hK hP hD rfl rfl []) rfl rfl hl.1 rfl (lv_room (Nat.le_of_ble_eq_true rfl)) dX0_layByPlace_4 ⟨Nat.le_of_ble_eq_true rfl, Nat.le_of_ble_eq_true rfl⟩) (zfree hD hS hA) (zjW hD hS hA) hS (fun H locs hP hD hS => ?_)
  replace hP : va_P D vwCl (cW a cJ cI cO R b_1 pr tm cn sm ac re kn) H := hP
  replace hD : va_D A (cW a cJ cI cO R b_1 pr tm cn sm ac re kn) := hD
  refine lv_iconst (v := (1 : Int32)) hx hb dX0_layByPlace_7 (by decide) ?_
  refine lv_istore_n (lv' := [(3, .int (1 : Int32)), (0, .ref (a 16)), (1, .ref (a (2 + p0))), (2, .ref (a (2 + p1)))]) hx hb dX0_layByPlace_8 rfl hl (by decide) rfl (fun ls hl => ?_)
  have X0 : ∀ (v3_0 : Int32) (RL0 : Nat → Nat → Int64) (bL0 : Bool) (H : Heap) (locs : List Loc) (ls : Array Slot), va_P D vwCl (cW a cJ cI cO RL0 bL0 pr tm cn sm ac re kn) H → va_D A (cW a cJ cI cO RL0 bL0 pr tm cn sm ac re kn) → va_S A s.heap H locs → lv_has ls 4 [(0, .ref (a 16)), (1, .ref (a (2 + p0))), (2, .ref (a (2 + p1))), (3, .int v3_0)] → (zb1 (p_X3_isBeyond bL0) (fun r3 => (if ¬ (z01 r3) = 0 then (some (false, RL0, bL0)) else (some (true, RL0, bL0))))) = some (r, R', b') → G H locs 0 0 (F0 m 40 ls []) := by
    intro v3_0 RL0 bL0 H locs ls hP hD hS hl h
    refine hG _ _ _ _ _ ?_
    refine lv_aload_n hx hb dX0_layByPlace_40 rfl (lv_at hl 0 rfl) ?_
    refine va_get (D := D) (ci := 2) (v := .ref (a 14)) (C := RX0) (T := TX0) (N := 2) hx hb hts kwX0 hown hK hP 16 rfl rfl 0 (by decide) kf_9 (fun _ h9 => h9) rfl dX0_layByPlace_41 ?_
    obtain ⟨r3, e4, h⟩ := zb1_some h
    refine zgoi (va_runV (As := []) (rest := []) ⟨hx, hb, hml, hown, hts⟩ (c_X3_isBeyond l D a cJ cI cO cB RL0 bL0 pr tm cn sm ac re kn r3 e4 H.size) (cwV 0 hts gX0_layByPlace_X3_isBeyond rfl rfl rfl hdV_X3_isBeyond ⟨Nat.le_of_ble_eq_true rfl, Nat.le_of_ble_eq_true rfl⟩) (zpreV (q0 := 14) (ci := 5) (T := TX3) (N := 1) hK hP hD rfl rfl []) rfl rfl hl.1 rfl (lv_room (Nat.le_of_ble_eq_true rfl)) dX0_layByPlace_44 ⟨Nat.le_of_ble_eq_true rfl, Nat.le_of_ble_eq_true rfl⟩) (zfree hD hS hA) (zjW hD hS hA) hS (fun H locs hP hD hS => ?_)
    replace hP : va_P D vwCl (cW a cJ cI cO RL0 bL0 pr tm cn sm ac re kn) H := hP
    replace hD : va_D A (cW a cJ cI cO RL0 bL0 pr tm cn sm ac re kn) := hD
    refine lv_if_ne (tgt := 54) hx hb dX0_layByPlace_47 (by decide) (fun c47 => ?_) (fun c47 => ?_)
    · replace h := zif_t h c47
      refine lv_iconst (v := (0 : Int32)) hx hb dX0_layByPlace_54 (by decide) ?_
      have g0 := Option.some.inj h
      obtain ⟨h1, g1⟩ := Prod.mk.inj g0
      obtain ⟨h2, g2⟩ := Prod.mk.inj g1
      subst h1
      subst h2
      subst g2
      exact W.zret (v := (0 : Int32)) hx hb hr (z01_nar false) (fun t ht hW => ⟨⟨(0 : Int32), (), rfl, rfl, by rw [ht]; exact hP, va_K.moved hW.alike hK, hD⟩, hS.F ht⟩) hS.2.2 dX0_layByPlace_55
    · replace h := zif_fn h c47
      refine lv_iconst (v := (1 : Int32)) hx hb dX0_layByPlace_50 (by decide) ?_
      refine lv_goto (tgt := 55) hx hb dX0_layByPlace_51 (by decide) ?_
      have g0 := Option.some.inj h
      obtain ⟨h1, g1⟩ := Prod.mk.inj g0
      obtain ⟨h2, g2⟩ := Prod.mk.inj g1
      subst h1
      subst h2
      subst g2
      exact W.zret (v := (1 : Int32)) hx hb hr (z01_nar true) (fun t ht hW => ⟨⟨(1 : Int32), (), rfl, rfl, by rw [ht]; exact hP, va_K.moved hW.alike hK, hD⟩, hS.F ht⟩) hS.2.2 dX0_layByPlace_55
  have L0 : ∀ (K0 : Int32 → (Nat → Nat → Int64) → Bool → Option (Bool × (Nat → Nat → Int64) × Bool)) (HX0 : ∀ (v3_0 : Int32) (RL0 : Nat → Nat → Int64) (bL0 : Bool) (H : Heap) (locs : List Loc) (ls : Array Slot), va_P D vwCl (cW a cJ cI cO RL0 bL0 pr tm cn sm ac re kn) H → va_D A (cW a cJ cI cO RL0 bL0 pr tm cn sm ac re kn) → va_S A s.heap H locs → lv_has ls 4 [(0, .ref (a 16)), (1, .ref (a (2 + p0))), (2, .ref (a (2 + p1))), (3, .int v3_0)] → K0 v3_0 RL0 bL0 = some (r, R', b') → G H locs 0 0 (F0 m 40 ls [])) (fu0 : Nat) (v3_0 : Int32) (RL0 : Nat → Nat → Int64) (bL0 : Bool) (H : Heap) (locs : List Loc) (ls : Array Slot), va_P D vwCl (cW a cJ cI cO RL0 bL0 pr tm cn sm ac re kn) H → va_D A (cW a cJ cI cO RL0 bL0 pr tm cn sm ac re kn) → va_S A s.heap H locs → lv_has ls 4 [(0, .ref (a 16)), (1, .ref (a (2 + p0))), (2, .ref (a (2 + p1))), (3, .int v3_0)] → p_X0_layByPlace_L0 F p0 p1 K0 fu0 v3_0 RL0 bL0 = some (r, R', b') → G H locs 0 0 (F0 m 9 ls []) := by
    intro K0 HX0 fu0
    induction fu0 with
    | zero =>
      intro v3_0 RL0 bL0 H locs ls hP hD hS hl h
      exact (zno h).elim
    | succ fu0 ih0 =>
      intro v3_0 RL0 bL0 H locs ls hP hD hS hl h
      refine hG _ _ _ _ _ ?_
      unfold p_X0_layByPlace_L0 at h
      refine lv_iload_n hx hb dX0_layByPlace_9 rfl (lv_at hl 3 rfl) ?_
      refine lv_bipush (v := (120 : Int32)) hx hb dX0_layByPlace_10 (by decide) ?_
      refine lv_icmp_gt (tgt := 40) hx hb dX0_layByPlace_12 (by decide) (fun c12 => ?_) (fun c12 => ?_)
      · replace h := zif_t h c12
        exact hGW _ _ _ _ _ (HX0 v3_0 RL0 bL0 _ _ ls hP hD hS (lv_sub hl [0, 1, 2, 3] rfl) h)
      · replace h := zif_f h c12
        refine lv_aload_n hx hb dX0_layByPlace_15 rfl (lv_at hl 2 rfl) ?_
        refine lv_iload_n hx hb dX0_layByPlace_16 rfl (lv_at hl 3 rfl) ?_
        refine lv_aload_n hx hb dX0_layByPlace_17 rfl (lv_at hl 0 rfl) ?_
        refine va_get (D := D) (ci := 2) (v := .ref (a 14)) (C := RX0) (T := TX0) (N := 2) hx hb hts kwX0 hown hK hP 16 rfl rfl 0 (by decide) kf_9 (fun _ h9 => h9) rfl dX0_layByPlace_18 ?_
        refine lv_aload_n hx hb dX0_layByPlace_21 rfl (lv_at hl 1 rfl) ?_
        refine lv_iload_n hx hb dX0_layByPlace_22 rfl (lv_at hl 3 rfl) ?_
        obtain ⟨r5, e6, h⟩ := zb1_some h
        refine zgol (va_runV (As := [.int v3_0]) (rest := [.ref (a 14), .int v3_0, .ref (a (2 + p1))]) ⟨hx, hb, hml, hown, hts⟩ (c_X4_at l D a cJ cI cO cB RL0 bL0 pr tm cn sm ac re kn p0 v3_0 hp0 r5 e6 H.size) (cwV 1 hts gX0_layByPlace_X4_at rfl rfl rfl hdV_X4_at ⟨Nat.le_of_ble_eq_true rfl, Nat.le_of_ble_eq_true rfl⟩) (zpreV (q0 := 2 + p0) (ci := 6) (T := TX4) (N := 1) hK hP hD (cW_row hp0) rfl [.int v3_0]) rfl rfl hl.1 rfl (lv_room (Nat.le_of_ble_eq_true rfl)) dX0_layByPlace_23 ⟨Nat.le_of_ble_eq_true rfl, Nat.le_of_ble_eq_true rfl⟩) (zfree hD hS hA) (zjW hD hS hA) hS (fun H locs hP hD hS => ?_)
        replace hP : va_P D vwCl (cW a cJ cI cO RL0 bL0 pr tm cn sm ac re kn) H := hP
        replace hD : va_D A (cW a cJ cI cO RL0 bL0 pr tm cn sm ac re kn) := hD
        refine lv_iload_n hx hb dX0_layByPlace_26 rfl (lv_at hl 3 rfl) ?_
        refine lv_i2l (v := v3_0.toInt64) hx hb dX0_layByPlace_27 rfl ?_
        obtain ⟨r7, b_8, e9, h⟩ := zb2_some h
        refine zgol (va_runV (As := [.long r5, .long (v3_0.toInt64)]) (rest := [.int v3_0, .ref (a (2 + p1))]) ⟨hx, hb, hml, hown, hts⟩ (c_X3_times l D a cJ cI cO cB RL0 bL0 pr tm cn sm ac re kn r5 (v3_0.toInt64) r7 b_8 e9 H.size) (cwV 2 hts gX0_layByPlace_X3_times rfl rfl rfl hdV_X3_times ⟨Nat.le_of_ble_eq_true rfl, Nat.le_of_ble_eq_true rfl⟩) (zpreV (q0 := 14) (ci := 5) (T := TX3) (N := 1) hK hP hD rfl rfl [.long r5, .long (v3_0.toInt64)]) rfl rfl hl.1 rfl (lv_room (Nat.le_of_ble_eq_true rfl)) dX0_layByPlace_28 ⟨Nat.le_of_ble_eq_true rfl, Nat.le_of_ble_eq_true rfl⟩) (zfree hD hS hA) (zjW hD hS hA) hS (fun H locs hP hD hS => ?_)
        replace hP : va_P D vwCl (cW a cJ cI cO RL0 b_8 pr tm cn sm ac re kn) H := hP
        replace hD : va_D A (cW a cJ cI cO RL0 b_8 pr tm cn sm ac re kn) := hD
        obtain ⟨R_10, e11, h⟩ := zb1_some h
        refine zgov (va_runV (As := [.int v3_0, .long r7]) (rest := []) ⟨hx, hb, hml, hown, hts⟩ (c_X4_lay l D a cJ cI cO cB RL0 b_8 pr tm cn sm ac re kn p1 v3_0 r7 hp1 R_10 e11 H.size) (cwV 2 hts gX0_layByPlace_X4_lay rfl rfl rfl hdV_X4_lay ⟨Nat.le_of_ble_eq_true rfl, Nat.le_of_ble_eq_true rfl⟩) (zpreV (q0 := 2 + p1) (ci := 6) (T := TX4) (N := 1) hK hP hD (cW_row hp1) rfl [.int v3_0, .long r7]) rfl rfl hl.1 rfl (lv_room (Nat.le_of_ble_eq_true rfl)) dX0_layByPlace_31 ⟨Nat.le_of_ble_eq_true rfl, Nat.le_of_ble_eq_true rfl⟩) (zfree hD hS hA) (zjW hD hS hA) hS (fun H locs hP hD hS => ?_)
        replace hP : va_P D vwCl (cW a cJ cI cO R_10 b_8 pr tm cn sm ac re kn) H := hP
        replace hD : va_D A (cW a cJ cI cO R_10 b_8 pr tm cn sm ac re kn) := hD
        refine lv_iinc (v := (v3_0 + (1 : Int32))) (lv' := [(3, .int (v3_0 + (1 : Int32))), (0, .ref (a 16)), (1, .ref (a (2 + p0))), (2, .ref (a (2 + p1)))]) hx hb dX0_layByPlace_34 hl (k := 3) rfl rfl (by decide) rfl (fun ls hl => ?_)
        refine lv_goto (tgt := 9) hx hb dX0_layByPlace_37 (by decide) ?_
        exact hGW _ _ _ _ _ (ih0 (v3_0 + (1 : Int32)) R_10 b_8 _ _ ls hP hD hS (lv_sub hl [1, 2, 3, 0] rfl) h)
  exact hGW _ _ _ _ _ (L0 _ X0 F (1 : Int32) R b_1 _ _ ls hP hD hS (lv_sub hl [1, 2, 3, 0] rfl) h)

noncomputable def p_X0_layMade (F : Nat) (R : Nat → Nat → Int64) (b : Bool) (pr : Nat → Int32) (tm : Nat → Int32) (cn : Int32) (p0 : Int32) (p1 : Nat) (p2 : Nat) : Option (Bool × (Nat → Nat → Int64) × Bool × (Nat → Int32) × (Nat → Int32) × Int32) := (if p0 = (0 : Int32) then (zb3 (p_X0_layInverse F R b p1 p2) (fun r1 R_2 b_3 => (some (r1, R_2, b_3, pr, tm, cn)))) else (if p0 = (1 : Int32) then (zb3 (p_X0_laySummed F R p1 p2) (fun r5 R_6 b_7 => (some (r5, R_6, b_7, pr, tm, cn)))) else (if p0 = (2 : Int32) then (zb6 (p_X0_laySigned F R pr tm cn p1 p2) (fun r9 R_10 b_11 pr_12 tm_13 cn_14 => (some (r9, R_10, b_11, pr_12, tm_13, cn_14)))) else (if p0 = (3 : Int32) then (zb6 (p_X0_layByPrimes F R pr tm cn p1 p2) (fun r16 R_17 b_18 pr_19 tm_20 cn_21 => (some (r16, R_17, b_18, pr_19, tm_20, cn_21)))) else (if p0 = (4 : Int32) then (zb3 (p_X0_layTurned F R p1 p2) (fun r23 R_24 b_25 => (some (r23, R_24, b_25, pr, tm, cn)))) else (zb3 (p_X0_layByPlace F R p1 p2) (fun r27 R_28 b_29 => (some (r27, R_28, b_29, pr, tm, cn)))))))))
theorem hdV_X0_layMade : yX0_layMade.cls = RX0 ∧ yX0_layMade.cls ≠ "java/lang/invoke/MethodHandle" ∧ yX0_layMade.cls ≠ "java/lang/invoke/VarHandle" ∧ (parseMethodDescriptor yX0_layMade.desc).map (fun d => d.parameters.length) = some 3 := by decide +kernel
set_option maxHeartbeats 4000000 in
set_option maxRecDepth 100000 in
theorem c_X0_layMade (l : Launch) (D : va_G) (a : Nat → Nat) (cJ cI cO cB : ClassId) (R : Nat → Nat → Int64) (b : Bool) (pr : Nat → Int32) (tm : Nat → Int32) (cn : Int32) (sm : Nat → Int32) (ac : Int32) (re : Int32) (kn : Int32) (F : Nat) (p0 : Int32) (p1 : Nat) (p2 : Nat) (hp1 : p1 < 6) (hp2 : p2 < 6) (r : Bool) (R' : Nat → Nat → Int64) (b' : Bool) (pr' : Nat → Int32) (tm' : Nat → Int32) (cn' : Int32) (h : p_X0_layMade F R b pr tm cn p0 p1 p2 = some (r, R', b', pr', tm', cn')) : zMi l yX0_layMade wsX0_layMade 4 95 0 0 D (zT cJ cI cO cB) [.ref (a 16), .int p0, .ref (a (2 + p1)), .ref (a (2 + p2))] (cW a cJ cI cO R b pr tm cn sm ac re kn) (cW a cJ cI cO R' b' pr' tm' cn' sm ac re kn) (z01 r) := by
  intro sz
  delta zQi
  refine Met.ofW (cc := cX0_layMade) (maxL := 4) (ret := (some .boolean)) (by decide) rfl ?_
  intro p e s m args below meth c s₁ B hml hv
  obtain ⟨rfl, hsz, hP, hK, hD0⟩ := hv
  have hx := B.exec
  have hb := B.bytes
  have hr := B.returns
  have hts := atoms_spec (ws := wsX0_layMade) B.pre
  have hown : s.vm.findClass RX0 = some m.cls := findClass_of_methodNamed B.named
  have hlocks := B.notSynchronized
  subst hsz
  have hD := hD0.self (sz := s.heap.size)
  generalize hAe : va_A (cW a cJ cI cO R b pr tm cn sm ac re kn) s.heap.size = A at hD ⊢
  have hA : ∀ q : Nat, s.heap.size ≤ q → A q := fun q h => by rw [← hAe]; exact Or.inr h
  have hS : va_S A s.heap s.heap [] := va_S.rf
  have hl := lv_entry ([.ref (a 16), .int p0, .ref (a (2 + p1)), .ref (a (2 + p2))]) (n := 4) (Nat.le_of_ble_eq_true rfl)
  rw [lg_entry_eq]
  generalize (lg_sl ([.ref (a 16), .int p0, .ref (a (2 + p1)), .ref (a (2 + p2))]) ++ List.replicate (4 - (lg_sl ([.ref (a 16), .int p0, .ref (a (2 + p1)), .ref (a (2 + p2))])).length) Slot.unset).toArray = ls at hl ⊢
  replace hl : lv_has ls 4 [(0, .ref (a 16)), (1, .int p0), (2, .ref (a (2 + p1))), (3, .ref (a (2 + p2)))] := hl
  replace h : (if p0 = (0 : Int32) then (zb3 (p_X0_layInverse F R b p1 p2) (fun r1 R_2 b_3 => (some (r1, R_2, b_3, pr, tm, cn)))) else (if p0 = (1 : Int32) then (zb3 (p_X0_laySummed F R p1 p2) (fun r5 R_6 b_7 => (some (r5, R_6, b_7, pr, tm, cn)))) else (if p0 = (2 : Int32) then (zb6 (p_X0_laySigned F R pr tm cn p1 p2) (fun r9 R_10 b_11 pr_12 tm_13 cn_14 => (some (r9, R_10, b_11, pr_12, tm_13, cn_14)))) else (if p0 = (3 : Int32) then (zb6 (p_X0_layByPrimes F R pr tm cn p1 p2) (fun r16 R_17 b_18 pr_19 tm_20 cn_21 => (some (r16, R_17, b_18, pr_19, tm_20, cn_21)))) else (if p0 = (4 : Int32) then (zb3 (p_X0_layTurned F R p1 p2) (fun r23 R_24 b_25 => (some (r23, R_24, b_25, pr, tm, cn)))) else (zb3 (p_X0_layByPlace F R p1 p2) (fun r27 R_28 b_29 => (some (r27, R_28, b_29, pr, tm, cn))))))))) = some (r, R', b', pr', tm', cn') := h
  obtain ⟨H, hHe⟩ : ∃ H, H = s.heap := ⟨_, rfl⟩
  rw [← hHe] at hP
  replace hS : va_S A s.heap H [] := by rw [hHe]; exact hS
  refine zheap hHe ?_
  refine lv_iload_n hx hb dX0_layMade_0 rfl (lv_at hl 1 rfl) ?_
  by_cases c1_0 : p0 = (0 : Int32)
  · replace h := zif_t h c1_0
    refine lv_tableIn (off := 35) (tgt := 36) hx hb dX0_layMade_1 (by rw [c1_0]; decide) (by rw [c1_0]; decide) (by rw [c1_0]; rfl) (by decide) ?_
    refine lv_aload_n hx hb dX0_layMade_36 rfl (lv_at hl 0 rfl) ?_
    refine lv_aload_n hx hb dX0_layMade_37 rfl (lv_at hl 2 rfl) ?_
    refine lv_aload_n hx hb dX0_layMade_38 rfl (lv_at hl 3 rfl) ?_
    obtain ⟨r1, R_2, b_3, e4, h⟩ := zb3_some h
    refine zgoi (va_runV (As := [.ref (a (2 + p1)), .ref (a (2 + p2))]) (rest := []) ⟨hx, hb, hml, hown, hts⟩ (c_X0_layInverse l D a cJ cI cO cB R b pr tm cn sm ac re kn F p1 p2 hp1 hp2 r1 R_2 b_3 e4 H.size) (cwV 2 hts gX0_layMade_X0_layInverse rfl rfl rfl hdV_X0_layInverse ⟨Nat.le_of_ble_eq_true rfl, Nat.le_of_ble_eq_true rfl⟩) (zpreV (q0 := 16) (ci := 2) (T := TX0) (N := 2) hK hP hD rfl rfl [.ref (a (2 + p1)), .ref (a (2 + p2))]) rfl rfl hl.1 rfl (lv_room (Nat.le_of_ble_eq_true rfl)) dX0_layMade_39 ⟨Nat.le_of_ble_eq_true rfl, Nat.le_of_ble_eq_true rfl⟩) (zfree hD hS hA) (zjW hD hS hA) hS (fun H locs hP hD hS => ?_)
    replace hP : va_P D vwCl (cW a cJ cI cO R_2 b_3 pr tm cn sm ac re kn) H := hP
    replace hD : va_D A (cW a cJ cI cO R_2 b_3 pr tm cn sm ac re kn) := hD
    have g0 := Option.some.inj h
    obtain ⟨h1, g1⟩ := Prod.mk.inj g0
    obtain ⟨h2, g2⟩ := Prod.mk.inj g1
    obtain ⟨h3, g3⟩ := Prod.mk.inj g2
    obtain ⟨h4, g4⟩ := Prod.mk.inj g3
    obtain ⟨h5, g5⟩ := Prod.mk.inj g4
    subst h1
    subst h2
    subst h3
    subst h4
    subst h5
    subst g5
    exact W.zret (v := (z01 r1)) hx hb hr (z01_nar r1) (fun t ht hW => ⟨⟨(z01 r1), (), rfl, rfl, by rw [ht]; exact hP, va_K.moved hW.alike hK, hD⟩, hS.F ht⟩) hS.2.2 dX0_layMade_42
  · replace h := zif_f h c1_0
    by_cases c1_1 : p0 = (1 : Int32)
    · replace h := zif_t h c1_1
      refine lv_tableIn (off := 42) (tgt := 43) hx hb dX0_layMade_1 (by rw [c1_1]; decide) (by rw [c1_1]; decide) (by rw [c1_1]; rfl) (by decide) ?_
      refine lv_aload_n hx hb dX0_layMade_43 rfl (lv_at hl 0 rfl) ?_
      refine lv_aload_n hx hb dX0_layMade_44 rfl (lv_at hl 2 rfl) ?_
      refine lv_aload_n hx hb dX0_layMade_45 rfl (lv_at hl 3 rfl) ?_
      obtain ⟨r5, R_6, b_7, e8, h⟩ := zb3_some h
      refine zgoi (va_runV (As := [.ref (a (2 + p1)), .ref (a (2 + p2))]) (rest := []) ⟨hx, hb, hml, hown, hts⟩ (c_X0_laySummed l D a cJ cI cO cB R b pr tm cn sm ac re kn F p1 p2 hp1 hp2 r5 R_6 b_7 e8 H.size) (cwV 2 hts gX0_layMade_X0_laySummed rfl rfl rfl hdV_X0_laySummed ⟨Nat.le_of_ble_eq_true rfl, Nat.le_of_ble_eq_true rfl⟩) (zpreV (q0 := 16) (ci := 2) (T := TX0) (N := 2) hK hP hD rfl rfl [.ref (a (2 + p1)), .ref (a (2 + p2))]) rfl rfl hl.1 rfl (lv_room (Nat.le_of_ble_eq_true rfl)) dX0_layMade_46 ⟨Nat.le_of_ble_eq_true rfl, Nat.le_of_ble_eq_true rfl⟩) (zfree hD hS hA) (zjW hD hS hA) hS (fun H locs hP hD hS => ?_)
      replace hP : va_P D vwCl (cW a cJ cI cO R_6 b_7 pr tm cn sm ac re kn) H := hP
      replace hD : va_D A (cW a cJ cI cO R_6 b_7 pr tm cn sm ac re kn) := hD
      have g0 := Option.some.inj h
      obtain ⟨h1, g1⟩ := Prod.mk.inj g0
      obtain ⟨h2, g2⟩ := Prod.mk.inj g1
      obtain ⟨h3, g3⟩ := Prod.mk.inj g2
      obtain ⟨h4, g4⟩ := Prod.mk.inj g3
      obtain ⟨h5, g5⟩ := Prod.mk.inj g4
      subst h1
      subst h2
      subst h3
      subst h4
      subst h5
      subst g5
      exact W.zret (v := (z01 r5)) hx hb hr (z01_nar r5) (fun t ht hW => ⟨⟨(z01 r5), (), rfl, rfl, by rw [ht]; exact hP, va_K.moved hW.alike hK, hD⟩, hS.F ht⟩) hS.2.2 dX0_layMade_49
    · replace h := zif_f h c1_1
      by_cases c1_2 : p0 = (2 : Int32)
      · replace h := zif_t h c1_2
        refine lv_tableIn (off := 49) (tgt := 50) hx hb dX0_layMade_1 (by rw [c1_2]; decide) (by rw [c1_2]; decide) (by rw [c1_2]; rfl) (by decide) ?_
        refine lv_aload_n hx hb dX0_layMade_50 rfl (lv_at hl 0 rfl) ?_
        refine lv_aload_n hx hb dX0_layMade_51 rfl (lv_at hl 2 rfl) ?_
        refine lv_aload_n hx hb dX0_layMade_52 rfl (lv_at hl 3 rfl) ?_
        obtain ⟨r9, R_10, b_11, pr_12, tm_13, cn_14, e15, h⟩ := zb6_some h
        refine zgoi (va_runV (As := [.ref (a (2 + p1)), .ref (a (2 + p2))]) (rest := []) ⟨hx, hb, hml, hown, hts⟩ (c_X0_laySigned l D a cJ cI cO cB R b pr tm cn sm ac re kn F p1 p2 hp1 hp2 r9 R_10 b_11 pr_12 tm_13 cn_14 e15 H.size) (cwV 2 hts gX0_layMade_X0_laySigned rfl rfl rfl hdV_X0_laySigned ⟨Nat.le_of_ble_eq_true rfl, Nat.le_of_ble_eq_true rfl⟩) (zpreV (q0 := 16) (ci := 2) (T := TX0) (N := 2) hK hP hD rfl rfl [.ref (a (2 + p1)), .ref (a (2 + p2))]) rfl rfl hl.1 rfl (lv_room (Nat.le_of_ble_eq_true rfl)) dX0_layMade_53 ⟨Nat.le_of_ble_eq_true rfl, Nat.le_of_ble_eq_true rfl⟩) (zfree hD hS hA) (zjW hD hS hA) hS (fun H locs hP hD hS => ?_)
        replace hP : va_P D vwCl (cW a cJ cI cO R_10 b_11 pr_12 tm_13 cn_14 sm ac re kn) H := hP
        replace hD : va_D A (cW a cJ cI cO R_10 b_11 pr_12 tm_13 cn_14 sm ac re kn) := hD
        have g0 := Option.some.inj h
        obtain ⟨h1, g1⟩ := Prod.mk.inj g0
        obtain ⟨h2, g2⟩ := Prod.mk.inj g1
        obtain ⟨h3, g3⟩ := Prod.mk.inj g2
        obtain ⟨h4, g4⟩ := Prod.mk.inj g3
        obtain ⟨h5, g5⟩ := Prod.mk.inj g4
        subst h1
        subst h2
        subst h3
        subst h4
        subst h5
        subst g5
        exact W.zret (v := (z01 r9)) hx hb hr (z01_nar r9) (fun t ht hW => ⟨⟨(z01 r9), (), rfl, rfl, by rw [ht]; exact hP, va_K.moved hW.alike hK, hD⟩, hS.F ht⟩) hS.2.2 dX0_layMade_56
      · replace h := zif_f h c1_2
        by_cases c1_3 : p0 = (3 : Int32)
        · replace h := zif_t h c1_3
          refine lv_tableIn (off := 56) (tgt := 57) hx hb dX0_layMade_1 (by rw [c1_3]; decide) (by rw [c1_3]; decide) (by rw [c1_3]; rfl) (by decide) ?_
          refine lv_aload_n hx hb dX0_layMade_57 rfl (lv_at hl 0 rfl) ?_
          refine lv_aload_n hx hb dX0_layMade_58 rfl (lv_at hl 2 rfl) ?_
          refine lv_aload_n hx hb dX0_layMade_59 rfl (lv_at hl 3 rfl) ?_
          obtain ⟨r16, R_17, b_18, pr_19, tm_20, cn_21, e22, h⟩ := zb6_some h
          refine zgoi (va_runV (As := [.ref (a (2 + p1)), .ref (a (2 + p2))]) (rest := []) ⟨hx, hb, hml, hown, hts⟩ (c_X0_layByPrimes l D a cJ cI cO cB R b pr tm cn sm ac re kn F p1 p2 hp1 hp2 r16 R_17 b_18 pr_19 tm_20 cn_21 e22 H.size) (cwV 2 hts gX0_layMade_X0_layByPrimes rfl rfl rfl hdV_X0_layByPrimes ⟨Nat.le_of_ble_eq_true rfl, Nat.le_of_ble_eq_true rfl⟩) (zpreV (q0 := 16) (ci := 2) (T := TX0) (N := 2) hK hP hD rfl rfl [.ref (a (2 + p1)), .ref (a (2 + p2))]) rfl rfl hl.1 rfl (lv_room (Nat.le_of_ble_eq_true rfl)) dX0_layMade_60 ⟨Nat.le_of_ble_eq_true rfl, Nat.le_of_ble_eq_true rfl⟩) (zfree hD hS hA) (zjW hD hS hA) hS (fun H locs hP hD hS => ?_)
          replace hP : va_P D vwCl (cW a cJ cI cO R_17 b_18 pr_19 tm_20 cn_21 sm ac re kn) H := hP
          replace hD : va_D A (cW a cJ cI cO R_17 b_18 pr_19 tm_20 cn_21 sm ac re kn) := hD
          have g0 := Option.some.inj h
          obtain ⟨h1, g1⟩ := Prod.mk.inj g0
          obtain ⟨h2, g2⟩ := Prod.mk.inj g1
          obtain ⟨h3, g3⟩ := Prod.mk.inj g2
          obtain ⟨h4, g4⟩ := Prod.mk.inj g3
          obtain ⟨h5, g5⟩ := Prod.mk.inj g4
          subst h1
          subst h2
          subst h3
          subst h4
          subst h5
          subst g5
          exact W.zret (v := (z01 r16)) hx hb hr (z01_nar r16) (fun t ht hW => ⟨⟨(z01 r16), (), rfl, rfl, by rw [ht]; exact hP, va_K.moved hW.alike hK, hD⟩, hS.F ht⟩) hS.2.2 dX0_layMade_63
        · replace h := zif_f h c1_3
          by_cases c1_4 : p0 = (4 : Int32)
          · replace h := zif_t h c1_4
            refine lv_tableIn (off := 63) (tgt := 64) hx hb dX0_layMade_1 (by rw [c1_4]; decide) (by rw [c1_4]; decide) (by rw [c1_4]; rfl) (by decide) ?_
            refine lv_aload_n hx hb dX0_layMade_64 rfl (lv_at hl 0 rfl) ?_
            refine lv_aload_n hx hb dX0_layMade_65 rfl (lv_at hl 2 rfl) ?_
            refine lv_aload_n hx hb dX0_layMade_66 rfl (lv_at hl 3 rfl) ?_
            obtain ⟨r23, R_24, b_25, e26, h⟩ := zb3_some h
            refine zgoi (va_runV (As := [.ref (a (2 + p1)), .ref (a (2 + p2))]) (rest := []) ⟨hx, hb, hml, hown, hts⟩ (c_X0_layTurned l D a cJ cI cO cB R b pr tm cn sm ac re kn F p1 p2 hp1 hp2 r23 R_24 b_25 e26 H.size) (cwV 2 hts gX0_layMade_X0_layTurned rfl rfl rfl hdV_X0_layTurned ⟨Nat.le_of_ble_eq_true rfl, Nat.le_of_ble_eq_true rfl⟩) (zpreV (q0 := 16) (ci := 2) (T := TX0) (N := 2) hK hP hD rfl rfl [.ref (a (2 + p1)), .ref (a (2 + p2))]) rfl rfl hl.1 rfl (lv_room (Nat.le_of_ble_eq_true rfl)) dX0_layMade_67 ⟨Nat.le_of_ble_eq_true rfl, Nat.le_of_ble_eq_true rfl⟩) (zfree hD hS hA) (zjW hD hS hA) hS (fun H locs hP hD hS => ?_)
            replace hP : va_P D vwCl (cW a cJ cI cO R_24 b_25 pr tm cn sm ac re kn) H := hP
            replace hD : va_D A (cW a cJ cI cO R_24 b_25 pr tm cn sm ac re kn) := hD
            have g0 := Option.some.inj h
            obtain ⟨h1, g1⟩ := Prod.mk.inj g0
            obtain ⟨h2, g2⟩ := Prod.mk.inj g1
            obtain ⟨h3, g3⟩ := Prod.mk.inj g2
            obtain ⟨h4, g4⟩ := Prod.mk.inj g3
            obtain ⟨h5, g5⟩ := Prod.mk.inj g4
            subst h1
            subst h2
            subst h3
            subst h4
            subst h5
            subst g5
            exact W.zret (v := (z01 r23)) hx hb hr (z01_nar r23) (fun t ht hW => ⟨⟨(z01 r23), (), rfl, rfl, by rw [ht]; exact hP, va_K.moved hW.alike hK, hD⟩, hS.F ht⟩) hS.2.2 dX0_layMade_70
          · replace h := zif_f h c1_4
            have t0 := lv_neT c1_0 (a := 0) (by decide)
            have t1 := lv_neT c1_1 (a := 1) (by decide)
            have t2 := lv_neT c1_2 (a := 2) (by decide)
            have t3 := lv_neT c1_3 (a := 3) (by decide)
            have t4 := lv_neT c1_4 (a := 4) (by decide)
            refine lv_tableOut (tgt := 71) hx hb dX0_layMade_1 (by omega) (by decide) ?_
            refine lv_aload_n hx hb dX0_layMade_71 rfl (lv_at hl 0 rfl) ?_
            refine lv_aload_n hx hb dX0_layMade_72 rfl (lv_at hl 2 rfl) ?_
            refine lv_aload_n hx hb dX0_layMade_73 rfl (lv_at hl 3 rfl) ?_
            obtain ⟨r27, R_28, b_29, e30, h⟩ := zb3_some h
            refine zgoi (va_runV (As := [.ref (a (2 + p1)), .ref (a (2 + p2))]) (rest := []) ⟨hx, hb, hml, hown, hts⟩ (c_X0_layByPlace l D a cJ cI cO cB R b pr tm cn sm ac re kn F p1 p2 hp1 hp2 r27 R_28 b_29 e30 H.size) (cwV 2 hts gX0_layMade_X0_layByPlace rfl rfl rfl hdV_X0_layByPlace ⟨Nat.le_of_ble_eq_true rfl, Nat.le_of_ble_eq_true rfl⟩) (zpreV (q0 := 16) (ci := 2) (T := TX0) (N := 2) hK hP hD rfl rfl [.ref (a (2 + p1)), .ref (a (2 + p2))]) rfl rfl hl.1 rfl (lv_room (Nat.le_of_ble_eq_true rfl)) dX0_layMade_74 ⟨Nat.le_of_ble_eq_true rfl, Nat.le_of_ble_eq_true rfl⟩) (zfree hD hS hA) (zjW hD hS hA) hS (fun H locs hP hD hS => ?_)
            replace hP : va_P D vwCl (cW a cJ cI cO R_28 b_29 pr tm cn sm ac re kn) H := hP
            replace hD : va_D A (cW a cJ cI cO R_28 b_29 pr tm cn sm ac re kn) := hD
            have g0 := Option.some.inj h
            obtain ⟨h1, g1⟩ := Prod.mk.inj g0
            obtain ⟨h2, g2⟩ := Prod.mk.inj g1
            obtain ⟨h3, g3⟩ := Prod.mk.inj g2
            obtain ⟨h4, g4⟩ := Prod.mk.inj g3
            obtain ⟨h5, g5⟩ := Prod.mk.inj g4
            subst h1
            subst h2
            subst h3
            subst h4
            subst h5
            subst g5
            exact W.zret (v := (z01 r27)) hx hb hr (z01_nar r27) (fun t ht hW => ⟨⟨(z01 r27), (), rfl, rfl, by rw [ht]; exact hP, va_K.moved hW.alike hK, hD⟩, hS.F ht⟩) hS.2.2 dX0_layMade_77

noncomputable def p_X0_layProduct_L1 (F : Nat) (p0 : Nat) (p1 : Nat) (v4_0 : Int32) (RL0 : Nat → Nat → Int64) (k : Int64 → Int32 → Bool → Option (Bool × (Nat → Nat → Int64) × Bool)) : Nat → Int64 → Int32 → Bool → Option (Bool × (Nat → Nat → Int64) × Bool)
  | 0, _, _, _ => none
  | n + 1, v5_1, v7_1, bL1 => (if v4_0 < v7_1 then (k v5_1 v7_1 bL1) else (zg (v7_1 = 0) (if ¬ (zr v4_0 v7_1) = 0 then (p_X0_layProduct_L1 F p0 p1 v4_0 RL0 k n v5_1 (v7_1 + (1 : Int32)) bL1) else (zb1 (p_X4_at RL0 p0 v7_1) (fun r7 => (zg (v7_1 = 0) (zb1 (p_X4_at RL0 p1 (v4_0 / v7_1)) (fun r9 => (zb2 (p_X3_times bL1 r7 r9) (fun r11 b_12 => (zb2 (p_X3_plus b_12 v5_1 r11) (fun r14 b_15 => (p_X0_layProduct_L1 F p0 p1 v4_0 RL0 k n r14 (v7_1 + (1 : Int32)) b_15)))))))))))))
noncomputable def p_X0_layProduct_L0 (F : Nat) (p0 : Nat) (p1 : Nat) (p2 : Nat) (k : Int32 → (Nat → Nat → Int64) → Bool → Option (Bool × (Nat → Nat → Int64) × Bool)) : Nat → Int32 → (Nat → Nat → Int64) → Bool → Option (Bool × (Nat → Nat → Int64) × Bool)
  | 0, _, _, _ => none
  | n + 1, v4_0, RL0, bL0 => (if (120 : Int32) < v4_0 then (k v4_0 RL0 bL0) else (p_X0_layProduct_L1 F p0 p1 v4_0 RL0 (fun v5_1 v7_1 bL1 => (zb1 (p_X4_lay RL0 p2 v4_0 v5_1) (fun R_5 => (p_X0_layProduct_L0 F p0 p1 p2 k n (v4_0 + (1 : Int32)) R_5 bL1)))) F (0 : Int64) (1 : Int32) bL0))
noncomputable def p_X0_layProduct (F : Nat) (R : Nat → Nat → Int64) (p0 : Nat) (p1 : Nat) (p2 : Nat) : Option (Bool × (Nat → Nat → Int64) × Bool) := (zb1 (p_X3_begin) (fun b_1 => (p_X0_layProduct_L0 F p0 p1 p2 (fun v4_0 RL0 bL0 => (zb1 (p_X3_isBeyond bL0) (fun r3 => (if ¬ (z01 r3) = 0 then (some (false, RL0, bL0)) else (some (true, RL0, bL0)))))) F (1 : Int32) R b_1)))
theorem hdV_X0_layProduct : yX0_layProduct.cls = RX0 ∧ yX0_layProduct.cls ≠ "java/lang/invoke/MethodHandle" ∧ yX0_layProduct.cls ≠ "java/lang/invoke/VarHandle" ∧ (parseMethodDescriptor yX0_layProduct.desc).map (fun d => d.parameters.length) = some 3 := by decide +kernel
set_option maxHeartbeats 4000000 in
set_option maxRecDepth 100000 in
theorem c_X0_layProduct (l : Launch) (D : va_G) (a : Nat → Nat) (cJ cI cO cB : ClassId) (R : Nat → Nat → Int64) (b : Bool) (pr : Nat → Int32) (tm : Nat → Int32) (cn : Int32) (sm : Nat → Int32) (ac : Int32) (re : Int32) (kn : Int32) (F : Nat) (p0 : Nat) (p1 : Nat) (p2 : Nat) (hp0 : p0 < 6) (hp1 : p1 < 6) (hp2 : p2 < 6) (r : Bool) (R' : Nat → Nat → Int64) (b' : Bool) (h : p_X0_layProduct F R p0 p1 p2 = some (r, R', b')) : zMi l yX0_layProduct wsX0_layProduct 2 47 0 0 D (zT cJ cI cO cB) [.ref (a 16), .ref (a (2 + p0)), .ref (a (2 + p1)), .ref (a (2 + p2))] (cW a cJ cI cO R b pr tm cn sm ac re kn) (cW a cJ cI cO R' b' pr tm cn sm ac re kn) (z01 r) := by
  intro sz
  delta zQi
  refine Met.ofW (cc := cX0_layProduct) (maxL := 8) (ret := (some .boolean)) (by decide) rfl ?_
  intro p e s m args below meth c s₁ B hml hv
  obtain ⟨rfl, hsz, hP, hK, hD0⟩ := hv
  have hx := B.exec
  have hb := B.bytes
  have hr := B.returns
  have hts := atoms_spec (ws := wsX0_layProduct) B.pre
  have hown : s.vm.findClass RX0 = some m.cls := findClass_of_methodNamed B.named
  have hlocks := B.notSynchronized
  subst hsz
  have hD := hD0.self (sz := s.heap.size)
  generalize hAe : va_A (cW a cJ cI cO R b pr tm cn sm ac re kn) s.heap.size = A at hD ⊢
  have hA : ∀ q : Nat, s.heap.size ≤ q → A q := fun q h => by rw [← hAe]; exact Or.inr h
  have hS : va_S A s.heap s.heap [] := va_S.rf
  have hl := lv_entry ([.ref (a 16), .ref (a (2 + p0)), .ref (a (2 + p1)), .ref (a (2 + p2))]) (n := 8) (Nat.le_of_ble_eq_true rfl)
  rw [lg_entry_eq]
  generalize (lg_sl ([.ref (a 16), .ref (a (2 + p0)), .ref (a (2 + p1)), .ref (a (2 + p2))]) ++ List.replicate (8 - (lg_sl ([.ref (a 16), .ref (a (2 + p0)), .ref (a (2 + p1)), .ref (a (2 + p2))])).length) Slot.unset).toArray = ls at hl ⊢
  replace hl : lv_has ls 8 [(0, .ref (a 16)), (1, .ref (a (2 + p0))), (2, .ref (a (2 + p1))), (3, .ref (a (2 + p2)))] := hl
  have kwX0 : ∀ w ∈ u_ws RX0 TX0 2, w ∈ wsX0_layProduct := fun w h => List.mem_cons_of_mem _ (List.mem_append_left _ (List.mem_append_left _ (List.mem_append_left _ (List.mem_append_left _ (List.mem_append_left _ (List.mem_append_left _ (List.mem_append_right _ h)))))))
  have kf_9 := hts (.fieldLink RX0 9 "Divisorwork$Maker" "reckoning" "LDivisorwork$Reckoning;") (zmem 1 rfl)
  replace h : (zb1 (p_X3_begin) (fun b_1 => (p_X0_layProduct_L0 F p0 p1 p2 (fun v4_0 RL0 bL0 => (zb1 (p_X3_isBeyond bL0) (fun r3 => (if ¬ (z01 r3) = 0 then (some (false, RL0, bL0)) else (some (true, RL0, bL0)))))) F (1 : Int32) R b_1))) = some (r, R', b') := h
  refine zabs (fun G hG hGW => ?_)
  obtain ⟨H, hHe⟩ : ∃ H, H = s.heap := ⟨_, rfl⟩
  rw [← hHe] at hP
  replace hS : va_S A s.heap H [] := by rw [hHe]; exact hS
  refine zheap hHe ?_
  refine lv_aload_n hx hb dX0_layProduct_0 rfl (lv_at hl 0 rfl) ?_
  refine va_get (D := D) (ci := 2) (v := .ref (a 14)) (C := RX0) (T := TX0) (N := 2) hx hb hts kwX0 hown hK hP 16 rfl rfl 0 (by decide) kf_9 (fun _ h9 => h9) rfl dX0_layProduct_1 ?_
  obtain ⟨b_1, e2, h⟩ := zb1_some h
  refine zgov (va_runV (As := []) (rest := []) ⟨hx, hb, hml, hown, hts⟩ (c_X3_begin l D a cJ cI cO cB R b pr tm cn sm ac re kn b_1 e2 H.size) (cwV 0 hts gX0_layProduct_X3_begin rfl rfl rfl hdV_X3_begin ⟨Nat.le_of_ble_eq_true rfl, Nat.le_of_ble_eq_true rfl⟩) (zpreV (q0 := 14) (ci := 5) (T := TX3) (N := 1) hK hP hD rfl rfl []) rfl rfl hl.1 rfl (lv_room (Nat.le_of_ble_eq_true rfl)) dX0_layProduct_4 ⟨Nat.le_of_ble_eq_true rfl, Nat.le_of_ble_eq_true rfl⟩) (zfree hD hS hA) (zjW hD hS hA) hS (fun H locs hP hD hS => ?_)
  replace hP : va_P D vwCl (cW a cJ cI cO R b_1 pr tm cn sm ac re kn) H := hP
  replace hD : va_D A (cW a cJ cI cO R b_1 pr tm cn sm ac re kn) := hD
  refine lv_iconst (v := (1 : Int32)) hx hb dX0_layProduct_7 (by decide) ?_
  refine lv_istore (lv' := [(4, .int (1 : Int32)), (0, .ref (a 16)), (1, .ref (a (2 + p0))), (2, .ref (a (2 + p1))), (3, .ref (a (2 + p2)))]) hx hb dX0_layProduct_8 hl (by decide) rfl (fun ls hl => ?_)
  have X0 : ∀ (v4_0 : Int32) (RL0 : Nat → Nat → Int64) (bL0 : Bool) (H : Heap) (locs : List Loc) (ls : Array Slot), va_P D vwCl (cW a cJ cI cO RL0 bL0 pr tm cn sm ac re kn) H → va_D A (cW a cJ cI cO RL0 bL0 pr tm cn sm ac re kn) → va_S A s.heap H locs → lv_has ls 8 [(0, .ref (a 16)), (1, .ref (a (2 + p0))), (2, .ref (a (2 + p1))), (3, .ref (a (2 + p2))), (4, .int v4_0)] → (zb1 (p_X3_isBeyond bL0) (fun r3 => (if ¬ (z01 r3) = 0 then (some (false, RL0, bL0)) else (some (true, RL0, bL0))))) = some (r, R', b') → G H locs 0 0 (F0 m 91 ls []) := by
    intro v4_0 RL0 bL0 H locs ls hP hD hS hl h
    refine hG _ _ _ _ _ ?_
    refine lv_aload_n hx hb dX0_layProduct_91 rfl (lv_at hl 0 rfl) ?_
    refine va_get (D := D) (ci := 2) (v := .ref (a 14)) (C := RX0) (T := TX0) (N := 2) hx hb hts kwX0 hown hK hP 16 rfl rfl 0 (by decide) kf_9 (fun _ h9 => h9) rfl dX0_layProduct_92 ?_
    obtain ⟨r3, e4, h⟩ := zb1_some h
    refine zgoi (va_runV (As := []) (rest := []) ⟨hx, hb, hml, hown, hts⟩ (c_X3_isBeyond l D a cJ cI cO cB RL0 bL0 pr tm cn sm ac re kn r3 e4 H.size) (cwV 0 hts gX0_layProduct_X3_isBeyond rfl rfl rfl hdV_X3_isBeyond ⟨Nat.le_of_ble_eq_true rfl, Nat.le_of_ble_eq_true rfl⟩) (zpreV (q0 := 14) (ci := 5) (T := TX3) (N := 1) hK hP hD rfl rfl []) rfl rfl hl.1 rfl (lv_room (Nat.le_of_ble_eq_true rfl)) dX0_layProduct_95 ⟨Nat.le_of_ble_eq_true rfl, Nat.le_of_ble_eq_true rfl⟩) (zfree hD hS hA) (zjW hD hS hA) hS (fun H locs hP hD hS => ?_)
    replace hP : va_P D vwCl (cW a cJ cI cO RL0 bL0 pr tm cn sm ac re kn) H := hP
    replace hD : va_D A (cW a cJ cI cO RL0 bL0 pr tm cn sm ac re kn) := hD
    refine lv_if_ne (tgt := 105) hx hb dX0_layProduct_98 (by decide) (fun c98 => ?_) (fun c98 => ?_)
    · replace h := zif_t h c98
      refine lv_iconst (v := (0 : Int32)) hx hb dX0_layProduct_105 (by decide) ?_
      have g0 := Option.some.inj h
      obtain ⟨h1, g1⟩ := Prod.mk.inj g0
      obtain ⟨h2, g2⟩ := Prod.mk.inj g1
      subst h1
      subst h2
      subst g2
      exact W.zret (v := (0 : Int32)) hx hb hr (z01_nar false) (fun t ht hW => ⟨⟨(0 : Int32), (), rfl, rfl, by rw [ht]; exact hP, va_K.moved hW.alike hK, hD⟩, hS.F ht⟩) hS.2.2 dX0_layProduct_106
    · replace h := zif_fn h c98
      refine lv_iconst (v := (1 : Int32)) hx hb dX0_layProduct_101 (by decide) ?_
      refine lv_goto (tgt := 106) hx hb dX0_layProduct_102 (by decide) ?_
      have g0 := Option.some.inj h
      obtain ⟨h1, g1⟩ := Prod.mk.inj g0
      obtain ⟨h2, g2⟩ := Prod.mk.inj g1
      subst h1
      subst h2
      subst g2
      exact W.zret (v := (1 : Int32)) hx hb hr (z01_nar true) (fun t ht hW => ⟨⟨(1 : Int32), (), rfl, rfl, by rw [ht]; exact hP, va_K.moved hW.alike hK, hD⟩, hS.F ht⟩) hS.2.2 dX0_layProduct_106
  have L0 : ∀ (K0 : Int32 → (Nat → Nat → Int64) → Bool → Option (Bool × (Nat → Nat → Int64) × Bool)) (HX0 : ∀ (v4_0 : Int32) (RL0 : Nat → Nat → Int64) (bL0 : Bool) (H : Heap) (locs : List Loc) (ls : Array Slot), va_P D vwCl (cW a cJ cI cO RL0 bL0 pr tm cn sm ac re kn) H → va_D A (cW a cJ cI cO RL0 bL0 pr tm cn sm ac re kn) → va_S A s.heap H locs → lv_has ls 8 [(0, .ref (a 16)), (1, .ref (a (2 + p0))), (2, .ref (a (2 + p1))), (3, .ref (a (2 + p2))), (4, .int v4_0)] → K0 v4_0 RL0 bL0 = some (r, R', b') → G H locs 0 0 (F0 m 91 ls [])) (fu0 : Nat) (v4_0 : Int32) (RL0 : Nat → Nat → Int64) (bL0 : Bool) (H : Heap) (locs : List Loc) (ls : Array Slot), va_P D vwCl (cW a cJ cI cO RL0 bL0 pr tm cn sm ac re kn) H → va_D A (cW a cJ cI cO RL0 bL0 pr tm cn sm ac re kn) → va_S A s.heap H locs → lv_has ls 8 [(0, .ref (a 16)), (1, .ref (a (2 + p0))), (2, .ref (a (2 + p1))), (3, .ref (a (2 + p2))), (4, .int v4_0)] → p_X0_layProduct_L0 F p0 p1 p2 K0 fu0 v4_0 RL0 bL0 = some (r, R', b') → G H locs 0 0 (F0 m 10 ls []) := by
    intro K0 HX0 fu0
    induction fu0 with
    | zero =>
      intro v4_0 RL0 bL0 H locs ls hP hD hS hl h
      exact (zno h).elim
    | succ fu0 ih0 =>
      intro v4_0 RL0 bL0 H locs ls hP hD hS hl h
      refine hG _ _ _ _ _ ?_
      unfold p_X0_layProduct_L0 at h
      refine lv_iload hx hb dX0_layProduct_10 (lv_at hl 4 rfl) ?_
      refine lv_bipush (v := (120 : Int32)) hx hb dX0_layProduct_12 (by decide) ?_
      refine lv_icmp_gt (tgt := 91) hx hb dX0_layProduct_14 (by decide) (fun c14 => ?_) (fun c14 => ?_)
      · replace h := zif_t h c14
        exact hGW _ _ _ _ _ (HX0 v4_0 RL0 bL0 _ _ ls hP hD hS (lv_sub hl [0, 1, 2, 3, 4] rfl) h)
      · replace h := zif_f h c14
        refine lv_lconst (v := (0 : Int64)) hx hb dX0_layProduct_17 (by decide) ?_
        refine lv_lstore (lv' := [(5, .long (0 : Int64)), (0, .ref (a 16)), (1, .ref (a (2 + p0))), (2, .ref (a (2 + p1))), (3, .ref (a (2 + p2))), (4, .int v4_0)]) hx hb dX0_layProduct_18 hl (by decide) rfl (fun ls hl => ?_)
        refine lv_iconst (v := (1 : Int32)) hx hb dX0_layProduct_20 (by decide) ?_
        refine lv_istore (lv' := [(7, .int (1 : Int32)), (5, .long (0 : Int64)), (0, .ref (a 16)), (1, .ref (a (2 + p0))), (2, .ref (a (2 + p1))), (3, .ref (a (2 + p2))), (4, .int v4_0)]) hx hb dX0_layProduct_21 hl (by decide) rfl (fun ls hl => ?_)
        have X1 : ∀ (v5_1 : Int64) (v7_1 : Int32) (bL1 : Bool) (H : Heap) (locs : List Loc) (ls : Array Slot), va_P D vwCl (cW a cJ cI cO RL0 bL1 pr tm cn sm ac re kn) H → va_D A (cW a cJ cI cO RL0 bL1 pr tm cn sm ac re kn) → va_S A s.heap H locs → lv_has ls 8 [(0, .ref (a 16)), (1, .ref (a (2 + p0))), (2, .ref (a (2 + p1))), (3, .ref (a (2 + p2))), (4, .int v4_0), (5, .long v5_1), (7, .int v7_1)] → (zb1 (p_X4_lay RL0 p2 v4_0 v5_1) (fun R_5 => (p_X0_layProduct_L0 F p0 p1 p2 K0 fu0 (v4_0 + (1 : Int32)) R_5 bL1))) = some (r, R', b') → G H locs 0 0 (F0 m 77 ls []) := by
          intro v5_1 v7_1 bL1 H locs ls hP hD hS hl h
          refine hG _ _ _ _ _ ?_
          refine lv_aload_n hx hb dX0_layProduct_77 rfl (lv_at hl 3 rfl) ?_
          refine lv_iload hx hb dX0_layProduct_78 (lv_at hl 4 rfl) ?_
          refine lv_lload hx hb dX0_layProduct_80 (lv_at hl 5 rfl) ?_
          obtain ⟨R_5, e6, h⟩ := zb1_some h
          refine zgov (va_runV (As := [.int v4_0, .long v5_1]) (rest := []) ⟨hx, hb, hml, hown, hts⟩ (c_X4_lay l D a cJ cI cO cB RL0 bL1 pr tm cn sm ac re kn p2 v4_0 v5_1 hp2 R_5 e6 H.size) (cwV 2 hts gX0_layProduct_X4_lay rfl rfl rfl hdV_X4_lay ⟨Nat.le_of_ble_eq_true rfl, Nat.le_of_ble_eq_true rfl⟩) (zpreV (q0 := 2 + p2) (ci := 6) (T := TX4) (N := 1) hK hP hD (cW_row hp2) rfl [.int v4_0, .long v5_1]) rfl rfl hl.1 rfl (lv_room (Nat.le_of_ble_eq_true rfl)) dX0_layProduct_82 ⟨Nat.le_of_ble_eq_true rfl, Nat.le_of_ble_eq_true rfl⟩) (zfree hD hS hA) (zjW hD hS hA) hS (fun H locs hP hD hS => ?_)
          replace hP : va_P D vwCl (cW a cJ cI cO R_5 bL1 pr tm cn sm ac re kn) H := hP
          replace hD : va_D A (cW a cJ cI cO R_5 bL1 pr tm cn sm ac re kn) := hD
          refine lv_iinc (v := (v4_0 + (1 : Int32))) (lv' := [(4, .int (v4_0 + (1 : Int32))), (0, .ref (a 16)), (1, .ref (a (2 + p0))), (2, .ref (a (2 + p1))), (3, .ref (a (2 + p2))), (5, .long v5_1), (7, .int v7_1)]) hx hb dX0_layProduct_85 hl (k := 4) rfl rfl (by decide) rfl (fun ls hl => ?_)
          refine lv_goto (tgt := 10) hx hb dX0_layProduct_88 (by decide) ?_
          exact hGW _ _ _ _ _ (ih0 (v4_0 + (1 : Int32)) R_5 bL1 _ _ ls hP hD hS (lv_sub hl [1, 2, 3, 4, 0] rfl) h)
        have L1 : ∀ (K1 : Int64 → Int32 → Bool → Option (Bool × (Nat → Nat → Int64) × Bool)) (HX1 : ∀ (v5_1 : Int64) (v7_1 : Int32) (bL1 : Bool) (H : Heap) (locs : List Loc) (ls : Array Slot), va_P D vwCl (cW a cJ cI cO RL0 bL1 pr tm cn sm ac re kn) H → va_D A (cW a cJ cI cO RL0 bL1 pr tm cn sm ac re kn) → va_S A s.heap H locs → lv_has ls 8 [(0, .ref (a 16)), (1, .ref (a (2 + p0))), (2, .ref (a (2 + p1))), (3, .ref (a (2 + p2))), (4, .int v4_0), (5, .long v5_1), (7, .int v7_1)] → K1 v5_1 v7_1 bL1 = some (r, R', b') → G H locs 0 0 (F0 m 77 ls [])) (fu1 : Nat) (v5_1 : Int64) (v7_1 : Int32) (bL1 : Bool) (H : Heap) (locs : List Loc) (ls : Array Slot), va_P D vwCl (cW a cJ cI cO RL0 bL1 pr tm cn sm ac re kn) H → va_D A (cW a cJ cI cO RL0 bL1 pr tm cn sm ac re kn) → va_S A s.heap H locs → lv_has ls 8 [(0, .ref (a 16)), (1, .ref (a (2 + p0))), (2, .ref (a (2 + p1))), (3, .ref (a (2 + p2))), (4, .int v4_0), (5, .long v5_1), (7, .int v7_1)] → p_X0_layProduct_L1 F p0 p1 v4_0 RL0 K1 fu1 v5_1 v7_1 bL1 = some (r, R', b') → G H locs 0 0 (F0 m 23 ls []) := by
          intro K1 HX1 fu1
          induction fu1 with
          | zero =>
            intro v5_1 v7_1 bL1 H locs ls hP hD hS hl h
            exact (zno h).elim
          | succ fu1 ih1 =>
            intro v5_1 v7_1 bL1 H locs ls hP hD hS hl h
            refine hG _ _ _ _ _ ?_
            unfold p_X0_layProduct_L1 at h
            refine lv_iload hx hb dX0_layProduct_23 (lv_at hl 6 rfl) ?_
            refine lv_iload hx hb dX0_layProduct_25 (lv_at hl 4 rfl) ?_
            refine lv_icmp_gt (tgt := 77) hx hb dX0_layProduct_27 (by decide) (fun c27 => ?_) (fun c27 => ?_)
            · replace h := zif_t h c27
              exact hGW _ _ _ _ _ (HX1 v5_1 v7_1 bL1 _ _ ls hP hD hS (lv_sub hl [0, 1, 2, 3, 4, 5, 6] rfl) h)
            · replace h := zif_f h c27
              refine lv_iload hx hb dX0_layProduct_30 (lv_at hl 4 rfl) ?_
              refine lv_iload hx hb dX0_layProduct_32 (lv_at hl 6 rfl) ?_
              obtain ⟨z34, h⟩ := zg_some h
              refine lv_irem hx hb dX0_layProduct_34 z34 ?_
              refine lv_if_ne (tgt := 71) hx hb dX0_layProduct_35 (by decide) (fun c35 => ?_) (fun c35 => ?_)
              · replace h := zif_t h c35
                refine lv_iinc (v := (v7_1 + (1 : Int32))) (lv' := [(7, .int (v7_1 + (1 : Int32))), (0, .ref (a 16)), (1, .ref (a (2 + p0))), (2, .ref (a (2 + p1))), (3, .ref (a (2 + p2))), (4, .int v4_0), (5, .long v5_1)]) hx hb dX0_layProduct_71 hl (k := 6) rfl rfl (by decide) rfl (fun ls hl => ?_)
                refine lv_goto (tgt := 23) hx hb dX0_layProduct_74 (by decide) ?_
                exact hGW _ _ _ _ _ (ih1 v5_1 (v7_1 + (1 : Int32)) bL1 _ _ ls hP hD hS (lv_sub hl [1, 2, 3, 4, 5, 6, 0] rfl) h)
              · replace h := zif_fn h c35
                refine lv_aload_n hx hb dX0_layProduct_38 rfl (lv_at hl 0 rfl) ?_
                refine va_get (D := D) (ci := 2) (v := .ref (a 14)) (C := RX0) (T := TX0) (N := 2) hx hb hts kwX0 hown hK hP 16 rfl rfl 0 (by decide) kf_9 (fun _ h9 => h9) rfl dX0_layProduct_39 ?_
                refine lv_lload hx hb dX0_layProduct_42 (lv_at hl 5 rfl) ?_
                refine lv_aload_n hx hb dX0_layProduct_44 rfl (lv_at hl 0 rfl) ?_
                refine va_get (D := D) (ci := 2) (v := .ref (a 14)) (C := RX0) (T := TX0) (N := 2) hx hb hts kwX0 hown hK hP 16 rfl rfl 0 (by decide) kf_9 (fun _ h9 => h9) rfl dX0_layProduct_45 ?_
                refine lv_aload_n hx hb dX0_layProduct_48 rfl (lv_at hl 1 rfl) ?_
                refine lv_iload hx hb dX0_layProduct_49 (lv_at hl 6 rfl) ?_
                obtain ⟨r7, e8, h⟩ := zb1_some h
                refine zgol (va_runV (As := [.int v7_1]) (rest := [.ref (a 14), .long v5_1, .ref (a 14)]) ⟨hx, hb, hml, hown, hts⟩ (c_X4_at l D a cJ cI cO cB RL0 bL1 pr tm cn sm ac re kn p0 v7_1 hp0 r7 e8 H.size) (cwV 1 hts gX0_layProduct_X4_at rfl rfl rfl hdV_X4_at ⟨Nat.le_of_ble_eq_true rfl, Nat.le_of_ble_eq_true rfl⟩) (zpreV (q0 := 2 + p0) (ci := 6) (T := TX4) (N := 1) hK hP hD (cW_row hp0) rfl [.int v7_1]) rfl rfl hl.1 rfl (lv_room (Nat.le_of_ble_eq_true rfl)) dX0_layProduct_51 ⟨Nat.le_of_ble_eq_true rfl, Nat.le_of_ble_eq_true rfl⟩) (zfree hD hS hA) (zjW hD hS hA) hS (fun H locs hP hD hS => ?_)
                replace hP : va_P D vwCl (cW a cJ cI cO RL0 bL1 pr tm cn sm ac re kn) H := hP
                replace hD : va_D A (cW a cJ cI cO RL0 bL1 pr tm cn sm ac re kn) := hD
                refine lv_aload_n hx hb dX0_layProduct_54 rfl (lv_at hl 2 rfl) ?_
                refine lv_iload hx hb dX0_layProduct_55 (lv_at hl 4 rfl) ?_
                refine lv_iload hx hb dX0_layProduct_57 (lv_at hl 6 rfl) ?_
                obtain ⟨z59, h⟩ := zg_some h
                refine lv_idiv hx hb dX0_layProduct_59 z59 ?_
                obtain ⟨r9, e10, h⟩ := zb1_some h
                refine zgol (va_runV (As := [.int (v4_0 / v7_1)]) (rest := [.long r7, .ref (a 14), .long v5_1, .ref (a 14)]) ⟨hx, hb, hml, hown, hts⟩ (c_X4_at l D a cJ cI cO cB RL0 bL1 pr tm cn sm ac re kn p1 (v4_0 / v7_1) hp1 r9 e10 H.size) (cwV 1 hts gX0_layProduct_X4_at rfl rfl rfl hdV_X4_at ⟨Nat.le_of_ble_eq_true rfl, Nat.le_of_ble_eq_true rfl⟩) (zpreV (q0 := 2 + p1) (ci := 6) (T := TX4) (N := 1) hK hP hD (cW_row hp1) rfl [.int (v4_0 / v7_1)]) rfl rfl hl.1 rfl (lv_room (Nat.le_of_ble_eq_true rfl)) dX0_layProduct_60 ⟨Nat.le_of_ble_eq_true rfl, Nat.le_of_ble_eq_true rfl⟩) (zfree hD hS hA) (zjW hD hS hA) hS (fun H locs hP hD hS => ?_)
                replace hP : va_P D vwCl (cW a cJ cI cO RL0 bL1 pr tm cn sm ac re kn) H := hP
                replace hD : va_D A (cW a cJ cI cO RL0 bL1 pr tm cn sm ac re kn) := hD
                obtain ⟨r11, b_12, e13, h⟩ := zb2_some h
                refine zgol (va_runV (As := [.long r7, .long r9]) (rest := [.long v5_1, .ref (a 14)]) ⟨hx, hb, hml, hown, hts⟩ (c_X3_times l D a cJ cI cO cB RL0 bL1 pr tm cn sm ac re kn r7 r9 r11 b_12 e13 H.size) (cwV 2 hts gX0_layProduct_X3_times rfl rfl rfl hdV_X3_times ⟨Nat.le_of_ble_eq_true rfl, Nat.le_of_ble_eq_true rfl⟩) (zpreV (q0 := 14) (ci := 5) (T := TX3) (N := 1) hK hP hD rfl rfl [.long r7, .long r9]) rfl rfl hl.1 rfl (lv_room (Nat.le_of_ble_eq_true rfl)) dX0_layProduct_63 ⟨Nat.le_of_ble_eq_true rfl, Nat.le_of_ble_eq_true rfl⟩) (zfree hD hS hA) (zjW hD hS hA) hS (fun H locs hP hD hS => ?_)
                replace hP : va_P D vwCl (cW a cJ cI cO RL0 b_12 pr tm cn sm ac re kn) H := hP
                replace hD : va_D A (cW a cJ cI cO RL0 b_12 pr tm cn sm ac re kn) := hD
                obtain ⟨r14, b_15, e16, h⟩ := zb2_some h
                refine zgol (va_runV (As := [.long v5_1, .long r11]) (rest := []) ⟨hx, hb, hml, hown, hts⟩ (c_X3_plus l D a cJ cI cO cB RL0 b_12 pr tm cn sm ac re kn v5_1 r11 r14 b_15 e16 H.size) (cwV 2 hts gX0_layProduct_X3_plus rfl rfl rfl hdV_X3_plus ⟨Nat.le_of_ble_eq_true rfl, Nat.le_of_ble_eq_true rfl⟩) (zpreV (q0 := 14) (ci := 5) (T := TX3) (N := 1) hK hP hD rfl rfl [.long v5_1, .long r11]) rfl rfl hl.1 rfl (lv_room (Nat.le_of_ble_eq_true rfl)) dX0_layProduct_66 ⟨Nat.le_of_ble_eq_true rfl, Nat.le_of_ble_eq_true rfl⟩) (zfree hD hS hA) (zjW hD hS hA) hS (fun H locs hP hD hS => ?_)
                replace hP : va_P D vwCl (cW a cJ cI cO RL0 b_15 pr tm cn sm ac re kn) H := hP
                replace hD : va_D A (cW a cJ cI cO RL0 b_15 pr tm cn sm ac re kn) := hD
                refine lv_lstore (lv' := [(5, .long r14), (0, .ref (a 16)), (1, .ref (a (2 + p0))), (2, .ref (a (2 + p1))), (3, .ref (a (2 + p2))), (4, .int v4_0), (7, .int v7_1)]) hx hb dX0_layProduct_69 hl (by decide) rfl (fun ls hl => ?_)
                refine lv_iinc (v := (v7_1 + (1 : Int32))) (lv' := [(7, .int (v7_1 + (1 : Int32))), (5, .long r14), (0, .ref (a 16)), (1, .ref (a (2 + p0))), (2, .ref (a (2 + p1))), (3, .ref (a (2 + p2))), (4, .int v4_0)]) hx hb dX0_layProduct_71 hl (k := 6) rfl rfl (by decide) rfl (fun ls hl => ?_)
                refine lv_goto (tgt := 23) hx hb dX0_layProduct_74 (by decide) ?_
                exact hGW _ _ _ _ _ (ih1 r14 (v7_1 + (1 : Int32)) b_15 _ _ ls hP hD hS (lv_sub hl [2, 3, 4, 5, 6, 1, 0] rfl) h)
        exact hGW _ _ _ _ _ (L1 _ X1 F (0 : Int64) (1 : Int32) bL0 _ _ ls hP hD hS (lv_sub hl [2, 3, 4, 5, 6, 1, 0] rfl) h)
  exact hGW _ _ _ _ _ (L0 _ X0 F (1 : Int32) R b_1 _ _ ls hP hD hS (lv_sub hl [1, 2, 3, 4, 0] rfl) h)

noncomputable def p_X0_isProduct (p0 : Int64) (p1 : Int64) (p2 : Int64) : Option Bool := (if ¬ (lg_cmp (p0 * p1) p2) = 0 then (some false) else (zb1 (p_X3_isLetProduct p0 p1) (fun r1 => (if (z01 r1) = 0 then (some false) else (some true)))))
theorem hdS_X0_isProduct : yX0_isProduct.cls ≠ "java/lang/invoke/MethodHandle" ∧ yX0_isProduct.cls ≠ "java/lang/invoke/VarHandle" ∧ (parseMethodDescriptor yX0_isProduct.desc).map (fun d => d.parameters.length) = some 3 := by decide +kernel
set_option maxHeartbeats 4000000 in
set_option maxRecDepth 100000 in
theorem c_X0_isProduct (l : Launch) (D : va_G) (tys : List (ClassId × FieldType)) (p0 : Int64) (p1 : Int64) (p2 : Int64) (r : Bool) (h : p_X0_isProduct p0 p1 p2 = some r) : zMi l yX0_isProduct wsX0_isProduct 1 23 0 0 D tys [.long p0, .long p1, .long p2] ([] : va_W) ([] : va_W) (z01 r) := by
  intro sz
  delta zQi
  refine Met.ofW (cc := cX0_isProduct) (maxL := 6) (ret := (some .boolean)) (by decide) rfl ?_
  intro p e s m args below meth c s₁ B hml hv
  obtain ⟨rfl, hsz, hP, hK, hD0⟩ := hv
  have hx := B.exec
  have hb := B.bytes
  have hr := B.returns
  have hts := atoms_spec (ws := wsX0_isProduct) B.pre
  have hown : s.vm.findClass RX0 = some m.cls := findClass_of_methodNamed B.named
  have hlocks := B.notSynchronized
  subst hsz
  have hD := hD0.self (sz := s.heap.size)
  generalize hAe : va_A ([] : va_W) s.heap.size = A at hD ⊢
  have hA : ∀ q : Nat, s.heap.size ≤ q → A q := fun q h => by rw [← hAe]; exact Or.inr h
  have hS : va_S A s.heap s.heap [] := va_S.rf
  have hl := lv_entry ([.long p0, .long p1, .long p2]) (n := 6) (Nat.le_of_ble_eq_true rfl)
  rw [lg_entry_eq]
  generalize (lg_sl ([.long p0, .long p1, .long p2]) ++ List.replicate (6 - (lg_sl ([.long p0, .long p1, .long p2])).length) Slot.unset).toArray = ls at hl ⊢
  replace hl : lv_has ls 6 [(0, .long p0), (2, .long p1), (4, .long p2)] := hl
  replace h : (if ¬ (lg_cmp (p0 * p1) p2) = 0 then (some false) else (zb1 (p_X3_isLetProduct p0 p1) (fun r1 => (if (z01 r1) = 0 then (some false) else (some true))))) = some r := h
  obtain ⟨H, hHe⟩ : ∃ H, H = s.heap := ⟨_, rfl⟩
  rw [← hHe] at hP
  replace hS : va_S A s.heap H [] := by rw [hHe]; exact hS
  refine zheap hHe ?_
  refine lv_lload_n hx hb dX0_isProduct_0 rfl (lv_at hl 0 rfl) ?_
  refine lv_lload_n hx hb dX0_isProduct_1 rfl (lv_at hl 1 rfl) ?_
  refine lv_lmul hx hb dX0_isProduct_2 ?_
  refine lv_lload hx hb dX0_isProduct_3 (lv_at hl 2 rfl) ?_
  refine W.lcmp hx hb dX0_isProduct_5 ?_
  refine lv_if_ne (tgt := 21) hx hb dX0_isProduct_6 (by decide) (fun c6 => ?_) (fun c6 => ?_)
  · replace h := zif_t h c6
    refine lv_iconst (v := (0 : Int32)) hx hb dX0_isProduct_21 (by decide) ?_
    have h1 := Option.some.inj h
    subst h1
    exact W.zret (v := (0 : Int32)) hx hb hr (z01_nar false) (fun t ht hW => ⟨⟨(0 : Int32), (), rfl, rfl, by rw [ht]; exact hP, va_K.moved hW.alike hK, hD⟩, hS.F ht⟩) hS.2.2 dX0_isProduct_22
  · replace h := zif_fn h c6
    refine lv_lload_n hx hb dX0_isProduct_9 rfl (lv_at hl 0 rfl) ?_
    refine lv_lload_n hx hb dX0_isProduct_10 rfl (lv_at hl 1 rfl) ?_
    obtain ⟨r1, e2, h⟩ := zb1_some h
    refine zgoi (va_runS (As := [.long p0, .long p1]) (rest := []) ⟨hx, hb, hml, hown, hts⟩ (c_X3_isLetProduct l D tys p0 p1 r1 e2 H.size) (va_cwS 2 hts gX0_isProduct_X3_isLetProduct rfl rfl rfl hdS_X3_isLetProduct ⟨Nat.le_of_ble_eq_true rfl, Nat.le_of_ble_eq_true rfl⟩) (zpreS hK zP0 (zD0 (A := A)) [.long p0, .long p1]) rfl rfl hl.1 rfl (lv_room (Nat.le_of_ble_eq_true rfl)) dX0_isProduct_11 ⟨Nat.le_of_ble_eq_true rfl, Nat.le_of_ble_eq_true rfl⟩) (zf0 hS hA) (zjE hP hD) hS (fun H locs hP hD hS => ?_)
    refine lv_if_eq (tgt := 21) hx hb dX0_isProduct_14 (by decide) (fun c14 => ?_) (fun c14 => ?_)
    · replace h := zif_t h c14
      refine lv_iconst (v := (0 : Int32)) hx hb dX0_isProduct_21 (by decide) ?_
      have h1 := Option.some.inj h
      subst h1
      exact W.zret (v := (0 : Int32)) hx hb hr (z01_nar false) (fun t ht hW => ⟨⟨(0 : Int32), (), rfl, rfl, by rw [ht]; exact hP, va_K.moved hW.alike hK, hD⟩, hS.F ht⟩) hS.2.2 dX0_isProduct_22
    · replace h := zif_f h c14
      refine lv_iconst (v := (1 : Int32)) hx hb dX0_isProduct_17 (by decide) ?_
      refine lv_goto (tgt := 22) hx hb dX0_isProduct_18 (by decide) ?_
      have h1 := Option.some.inj h
      subst h1
      exact W.zret (v := (1 : Int32)) hx hb hr (z01_nar true) (fun t ht hW => ⟨⟨(1 : Int32), (), rfl, rfl, by rw [ht]; exact hP, va_K.moved hW.alike hK, hD⟩, hS.F ht⟩) hS.2.2 dX0_isProduct_22

noncomputable def p_X0_isByPrimes_L1 (F : Nat) (R : Nat → Nat → Int64) (b : Bool) (pr : Nat → Int32) (tm : Nat → Int32) (cn : Int32) (sm : Nat → Int32) (ac : Int32) (re : Int32) (kn : Int32) (p0 : Nat) (p1 : Bool) (v3_0 : Int32) (k : Int32 → Option (Bool × (Nat → Nat → Int64) × Bool × (Nat → Int32) × (Nat → Int32) × Int32 × (Nat → Int32) × Int32 × Int32 × Int32)) : Nat → Int32 → Option (Bool × (Nat → Nat → Int64) × Bool × (Nat → Int32) × (Nat → Int32) × Int32 × (Nat → Int32) × Int32 × Int32 × Int32)
  | 0, _ => none
  | n + 1, v4_1 => (if (120 : Int32) < (v3_0 * v4_1) then (k v4_1) else (zlt (zb1 (p_X4_at R p0 v3_0) (fun r3 => (zb1 (p_X4_at R p0 v4_1) (fun r5 => (zb1 (p_X4_at R p0 (v3_0 * v4_1)) (fun r7 => (zb1 (p_X0_isProduct r3 r5 r7) (fun r9 => (if ¬ (z01 r9) = 0 then (p_X0_isByPrimes_L1 F R b pr tm cn sm ac re kn p0 p1 v3_0 k n (v4_1 + (1 : Int32))) else (some (false, R, b, pr, tm, cn, sm, ac, re, kn))))))))))) (fun jf0 => (if ¬ (z01 p1) = 0 then (jf0 ) else (zb1 (p_X1_commonOf F v3_0 v4_1) (fun r11 => (if ¬ r11 = (1 : Int32) then (p_X0_isByPrimes_L1 F R b pr tm cn sm ac re kn p0 p1 v3_0 k n (v4_1 + (1 : Int32))) else (jf0 ))))))))
noncomputable def p_X0_isByPrimes_L0 (F : Nat) (R : Nat → Nat → Int64) (b : Bool) (pr : Nat → Int32) (tm : Nat → Int32) (cn : Int32) (sm : Nat → Int32) (ac : Int32) (re : Int32) (kn : Int32) (p0 : Nat) (p1 : Bool) (k : Int32 → Option (Bool × (Nat → Nat → Int64) × Bool × (Nat → Int32) × (Nat → Int32) × Int32 × (Nat → Int32) × Int32 × Int32 × Int32)) : Nat → Int32 → Option (Bool × (Nat → Nat → Int64) × Bool × (Nat → Int32) × (Nat → Int32) × Int32 × (Nat → Int32) × Int32 × Int32 × Int32)
  | 0, _ => none
  | n + 1, v3_0 => (if (120 : Int32) < v3_0 then (k v3_0) else (p_X0_isByPrimes_L1 F R b pr tm cn sm ac re kn p0 p1 v3_0 (fun v4_1 => (p_X0_isByPrimes_L0 F R b pr tm cn sm ac re kn p0 p1 k n (v3_0 + (1 : Int32)))) F v3_0))
noncomputable def p_X0_isByPrimes (F : Nat) (R : Nat → Nat → Int64) (b : Bool) (pr : Nat → Int32) (tm : Nat → Int32) (cn : Int32) (sm : Nat → Int32) (ac : Int32) (re : Int32) (kn : Int32) (p0 : Nat) (p1 : Bool) : Option (Bool × (Nat → Nat → Int64) × Bool × (Nat → Int32) × (Nat → Int32) × Int32 × (Nat → Int32) × Int32 × Int32 × Int32) := (zb1 (p_X4_at R p0 (1 : Int32)) (fun r1 => (if (lg_cmp r1 (1 : Int64)) = 0 then (p_X0_isByPrimes_L0 F R b pr tm cn sm ac re kn p0 p1 (fun v3_0 => (some (true, R, b, pr, tm, cn, sm, ac, re, kn))) F (1 : Int32)) else (some (false, R, b, pr, tm, cn, sm, ac, re, kn)))))
theorem hdV_X0_isByPrimes : yX0_isByPrimes.cls = RX0 ∧ yX0_isByPrimes.cls ≠ "java/lang/invoke/MethodHandle" ∧ yX0_isByPrimes.cls ≠ "java/lang/invoke/VarHandle" ∧ (parseMethodDescriptor yX0_isByPrimes.desc).map (fun d => d.parameters.length) = some 2 := by decide +kernel
set_option maxHeartbeats 4000000 in
set_option maxRecDepth 100000 in
theorem c_X0_isByPrimes (l : Launch) (D : va_G) (a : Nat → Nat) (cJ cI cO cB : ClassId) (R : Nat → Nat → Int64) (b : Bool) (pr : Nat → Int32) (tm : Nat → Int32) (cn : Int32) (sm : Nat → Int32) (ac : Int32) (re : Int32) (kn : Int32) (F : Nat) (p0 : Nat) (p1 : Bool) (hp0 : p0 < 6) (r : Bool) (R' : Nat → Nat → Int64) (b' : Bool) (pr' : Nat → Int32) (tm' : Nat → Int32) (cn' : Int32) (sm' : Nat → Int32) (ac' : Int32) (re' : Int32) (kn' : Int32) (h : p_X0_isByPrimes F R b pr tm cn sm ac re kn p0 p1 = some (r, R', b', pr', tm', cn', sm', ac', re', kn')) : zMi l yX0_isByPrimes wsX0_isByPrimes 2 48 0 0 D (zT cJ cI cO cB) [.ref (a 16), .ref (a (2 + p0)), .int (z01 p1)] (cW a cJ cI cO R b pr tm cn sm ac re kn) (cW a cJ cI cO R' b' pr' tm' cn' sm' ac' re' kn') (z01 r) := by
  intro sz
  delta zQi
  refine Met.ofW (cc := cX0_isByPrimes) (maxL := 5) (ret := (some .boolean)) (by decide) rfl ?_
  intro p e s m args below meth c s₁ B hml hv
  obtain ⟨rfl, hsz, hP, hK, hD0⟩ := hv
  have hx := B.exec
  have hb := B.bytes
  have hr := B.returns
  have hts := atoms_spec (ws := wsX0_isByPrimes) B.pre
  have hown : s.vm.findClass RX0 = some m.cls := findClass_of_methodNamed B.named
  have hlocks := B.notSynchronized
  subst hsz
  have hD := hD0.self (sz := s.heap.size)
  generalize hAe : va_A (cW a cJ cI cO R b pr tm cn sm ac re kn) s.heap.size = A at hD ⊢
  have hA : ∀ q : Nat, s.heap.size ≤ q → A q := fun q h => by rw [← hAe]; exact Or.inr h
  have hS : va_S A s.heap s.heap [] := va_S.rf
  have hl := lv_entry ([.ref (a 16), .ref (a (2 + p0)), .int (z01 p1)]) (n := 5) (Nat.le_of_ble_eq_true rfl)
  rw [lg_entry_eq]
  generalize (lg_sl ([.ref (a 16), .ref (a (2 + p0)), .int (z01 p1)]) ++ List.replicate (5 - (lg_sl ([.ref (a 16), .ref (a (2 + p0)), .int (z01 p1)])).length) Slot.unset).toArray = ls at hl ⊢
  replace hl : lv_has ls 5 [(0, .ref (a 16)), (1, .ref (a (2 + p0))), (2, .int (z01 p1))] := hl
  replace h : (zb1 (p_X4_at R p0 (1 : Int32)) (fun r1 => (if (lg_cmp r1 (1 : Int64)) = 0 then (p_X0_isByPrimes_L0 F R b pr tm cn sm ac re kn p0 p1 (fun v3_0 => (some (true, R, b, pr, tm, cn, sm, ac, re, kn))) F (1 : Int32)) else (some (false, R, b, pr, tm, cn, sm, ac, re, kn))))) = some (r, R', b', pr', tm', cn', sm', ac', re', kn') := h
  refine zabs (fun G hG hGW => ?_)
  obtain ⟨H, hHe⟩ : ∃ H, H = s.heap := ⟨_, rfl⟩
  rw [← hHe] at hP
  replace hS : va_S A s.heap H [] := by rw [hHe]; exact hS
  refine zheap hHe ?_
  refine lv_aload_n hx hb dX0_isByPrimes_0 rfl (lv_at hl 1 rfl) ?_
  refine lv_iconst (v := (1 : Int32)) hx hb dX0_isByPrimes_1 (by decide) ?_
  obtain ⟨r1, e2, h⟩ := zb1_some h
  refine zgol (va_runV (As := [.int (1 : Int32)]) (rest := []) ⟨hx, hb, hml, hown, hts⟩ (c_X4_at l D a cJ cI cO cB R b pr tm cn sm ac re kn p0 (1 : Int32) hp0 r1 e2 H.size) (cwV 1 hts gX0_isByPrimes_X4_at rfl rfl rfl hdV_X4_at ⟨Nat.le_of_ble_eq_true rfl, Nat.le_of_ble_eq_true rfl⟩) (zpreV (q0 := 2 + p0) (ci := 6) (T := TX4) (N := 1) hK hP hD (cW_row hp0) rfl [.int (1 : Int32)]) rfl rfl hl.1 rfl (lv_room (Nat.le_of_ble_eq_true rfl)) dX0_isByPrimes_2 ⟨Nat.le_of_ble_eq_true rfl, Nat.le_of_ble_eq_true rfl⟩) (zfree hD hS hA) (zjW hD hS hA) hS (fun H locs hP hD hS => ?_)
  replace hP : va_P D vwCl (cW a cJ cI cO R b pr tm cn sm ac re kn) H := hP
  replace hD : va_D A (cW a cJ cI cO R b pr tm cn sm ac re kn) := hD
  refine lv_lconst (v := (1 : Int64)) hx hb dX0_isByPrimes_5 (by decide) ?_
  refine W.lcmp hx hb dX0_isByPrimes_6 ?_
  refine lv_if_eq (tgt := 12) hx hb dX0_isByPrimes_7 (by decide) (fun c7 => ?_) (fun c7 => ?_)
  · replace h := zif_t h c7
    refine lv_iconst (v := (1 : Int32)) hx hb dX0_isByPrimes_12 (by decide) ?_
    refine lv_istore_n (lv' := [(3, .int (1 : Int32)), (0, .ref (a 16)), (1, .ref (a (2 + p0))), (2, .int (z01 p1))]) hx hb dX0_isByPrimes_13 rfl hl (by decide) rfl (fun ls hl => ?_)
    have X0 : ∀ (v3_0 : Int32) (H : Heap) (locs : List Loc) (ls : Array Slot), va_P D vwCl (cW a cJ cI cO R b pr tm cn sm ac re kn) H → va_D A (cW a cJ cI cO R b pr tm cn sm ac re kn) → va_S A s.heap H locs → lv_has ls 5 [(0, .ref (a 16)), (1, .ref (a (2 + p0))), (2, .int (z01 p1)), (3, .int v3_0)] → (some (true, R, b, pr, tm, cn, sm, ac, re, kn)) = some (r, R', b', pr', tm', cn', sm', ac', re', kn') → G H locs 0 0 (F0 m 85 ls []) := by
      intro v3_0 H locs ls hP hD hS hl h
      refine hG _ _ _ _ _ ?_
      refine lv_iconst (v := (1 : Int32)) hx hb dX0_isByPrimes_85 (by decide) ?_
      have g0 := Option.some.inj h
      obtain ⟨h1, g1⟩ := Prod.mk.inj g0
      obtain ⟨h2, g2⟩ := Prod.mk.inj g1
      obtain ⟨h3, g3⟩ := Prod.mk.inj g2
      obtain ⟨h4, g4⟩ := Prod.mk.inj g3
      obtain ⟨h5, g5⟩ := Prod.mk.inj g4
      obtain ⟨h6, g6⟩ := Prod.mk.inj g5
      obtain ⟨h7, g7⟩ := Prod.mk.inj g6
      obtain ⟨h8, g8⟩ := Prod.mk.inj g7
      obtain ⟨h9, g9⟩ := Prod.mk.inj g8
      subst h1
      subst h2
      subst h3
      subst h4
      subst h5
      subst h6
      subst h7
      subst h8
      subst h9
      subst g9
      exact W.zret (v := (1 : Int32)) hx hb hr (z01_nar true) (fun t ht hW => ⟨⟨(1 : Int32), (), rfl, rfl, by rw [ht]; exact hP, va_K.moved hW.alike hK, hD⟩, hS.F ht⟩) hS.2.2 dX0_isByPrimes_86
    have L0 : ∀ (K0 : Int32 → Option (Bool × (Nat → Nat → Int64) × Bool × (Nat → Int32) × (Nat → Int32) × Int32 × (Nat → Int32) × Int32 × Int32 × Int32)) (HX0 : ∀ (v3_0 : Int32) (H : Heap) (locs : List Loc) (ls : Array Slot), va_P D vwCl (cW a cJ cI cO R b pr tm cn sm ac re kn) H → va_D A (cW a cJ cI cO R b pr tm cn sm ac re kn) → va_S A s.heap H locs → lv_has ls 5 [(0, .ref (a 16)), (1, .ref (a (2 + p0))), (2, .int (z01 p1)), (3, .int v3_0)] → K0 v3_0 = some (r, R', b', pr', tm', cn', sm', ac', re', kn') → G H locs 0 0 (F0 m 85 ls [])) (fu0 : Nat) (v3_0 : Int32) (H : Heap) (locs : List Loc) (ls : Array Slot), va_P D vwCl (cW a cJ cI cO R b pr tm cn sm ac re kn) H → va_D A (cW a cJ cI cO R b pr tm cn sm ac re kn) → va_S A s.heap H locs → lv_has ls 5 [(0, .ref (a 16)), (1, .ref (a (2 + p0))), (2, .int (z01 p1)), (3, .int v3_0)] → p_X0_isByPrimes_L0 F R b pr tm cn sm ac re kn p0 p1 K0 fu0 v3_0 = some (r, R', b', pr', tm', cn', sm', ac', re', kn') → G H locs 0 0 (F0 m 14 ls []) := by
      intro K0 HX0 fu0
      induction fu0 with
      | zero =>
        intro v3_0 H locs ls hP hD hS hl h
        exact (zno h).elim
      | succ fu0 ih0 =>
        intro v3_0 H locs ls hP hD hS hl h
        refine hG _ _ _ _ _ ?_
        unfold p_X0_isByPrimes_L0 at h
        refine lv_iload_n hx hb dX0_isByPrimes_14 rfl (lv_at hl 3 rfl) ?_
        refine lv_bipush (v := (120 : Int32)) hx hb dX0_isByPrimes_15 (by decide) ?_
        refine lv_icmp_gt (tgt := 85) hx hb dX0_isByPrimes_17 (by decide) (fun c17 => ?_) (fun c17 => ?_)
        · replace h := zif_t h c17
          exact hGW _ _ _ _ _ (HX0 v3_0 _ _ ls hP hD hS (lv_sub hl [0, 1, 2, 3] rfl) h)
        · replace h := zif_f h c17
          refine lv_iload_n hx hb dX0_isByPrimes_20 rfl (lv_at hl 3 rfl) ?_
          refine lv_istore (lv' := [(4, .int v3_0), (0, .ref (a 16)), (1, .ref (a (2 + p0))), (2, .int (z01 p1)), (3, .int v3_0)]) hx hb dX0_isByPrimes_21 hl (by decide) rfl (fun ls hl => ?_)
          have X1 : ∀ (v4_1 : Int32) (H : Heap) (locs : List Loc) (ls : Array Slot), va_P D vwCl (cW a cJ cI cO R b pr tm cn sm ac re kn) H → va_D A (cW a cJ cI cO R b pr tm cn sm ac re kn) → va_S A s.heap H locs → lv_has ls 5 [(0, .ref (a 16)), (1, .ref (a (2 + p0))), (2, .int (z01 p1)), (3, .int v3_0), (4, .int v4_1)] → (p_X0_isByPrimes_L0 F R b pr tm cn sm ac re kn p0 p1 K0 fu0 (v3_0 + (1 : Int32))) = some (r, R', b', pr', tm', cn', sm', ac', re', kn') → G H locs 0 0 (F0 m 79 ls []) := by
            intro v4_1 H locs ls hP hD hS hl h
            refine hG _ _ _ _ _ ?_
            refine lv_iinc (v := (v3_0 + (1 : Int32))) (lv' := [(3, .int (v3_0 + (1 : Int32))), (0, .ref (a 16)), (1, .ref (a (2 + p0))), (2, .int (z01 p1)), (4, .int v4_1)]) hx hb dX0_isByPrimes_79 hl (k := 3) rfl rfl (by decide) rfl (fun ls hl => ?_)
            refine lv_goto (tgt := 14) hx hb dX0_isByPrimes_82 (by decide) ?_
            exact hGW _ _ _ _ _ (ih0 (v3_0 + (1 : Int32)) _ _ ls hP hD hS (lv_sub hl [1, 2, 3, 0] rfl) h)
          have L1 : ∀ (K1 : Int32 → Option (Bool × (Nat → Nat → Int64) × Bool × (Nat → Int32) × (Nat → Int32) × Int32 × (Nat → Int32) × Int32 × Int32 × Int32)) (HX1 : ∀ (v4_1 : Int32) (H : Heap) (locs : List Loc) (ls : Array Slot), va_P D vwCl (cW a cJ cI cO R b pr tm cn sm ac re kn) H → va_D A (cW a cJ cI cO R b pr tm cn sm ac re kn) → va_S A s.heap H locs → lv_has ls 5 [(0, .ref (a 16)), (1, .ref (a (2 + p0))), (2, .int (z01 p1)), (3, .int v3_0), (4, .int v4_1)] → K1 v4_1 = some (r, R', b', pr', tm', cn', sm', ac', re', kn') → G H locs 0 0 (F0 m 79 ls [])) (fu1 : Nat) (v4_1 : Int32) (H : Heap) (locs : List Loc) (ls : Array Slot), va_P D vwCl (cW a cJ cI cO R b pr tm cn sm ac re kn) H → va_D A (cW a cJ cI cO R b pr tm cn sm ac re kn) → va_S A s.heap H locs → lv_has ls 5 [(0, .ref (a 16)), (1, .ref (a (2 + p0))), (2, .int (z01 p1)), (3, .int v3_0), (4, .int v4_1)] → p_X0_isByPrimes_L1 F R b pr tm cn sm ac re kn p0 p1 v3_0 K1 fu1 v4_1 = some (r, R', b', pr', tm', cn', sm', ac', re', kn') → G H locs 0 0 (F0 m 23 ls []) := by
            intro K1 HX1 fu1
            induction fu1 with
            | zero =>
              intro v4_1 H locs ls hP hD hS hl h
              exact (zno h).elim
            | succ fu1 ih1 =>
              intro v4_1 H locs ls hP hD hS hl h
              refine hG _ _ _ _ _ ?_
              unfold p_X0_isByPrimes_L1 at h
              refine lv_iload_n hx hb dX0_isByPrimes_23 rfl (lv_at hl 3 rfl) ?_
              refine lv_iload hx hb dX0_isByPrimes_24 (lv_at hl 4 rfl) ?_
              refine lv_imul hx hb dX0_isByPrimes_26 ?_
              refine lv_bipush (v := (120 : Int32)) hx hb dX0_isByPrimes_27 (by decide) ?_
              refine lv_icmp_gt (tgt := 79) hx hb dX0_isByPrimes_29 (by decide) (fun c29 => ?_) (fun c29 => ?_)
              · replace h := zif_t h c29
                exact hGW _ _ _ _ _ (HX1 v4_1 _ _ ls hP hD hS (lv_sub hl [0, 1, 2, 3, 4] rfl) h)
              · replace h := zif_f h c29
                refine lv_iload_n hx hb dX0_isByPrimes_32 rfl (lv_at hl 2 rfl) ?_
                have J0 : ∀  (H : Heap) (locs : List Loc) (ls : Array Slot), va_P D vwCl (cW a cJ cI cO R b pr tm cn sm ac re kn) H → va_D A (cW a cJ cI cO R b pr tm cn sm ac re kn) → va_S A s.heap H locs → lv_has ls 5 [(0, .ref (a 16)), (1, .ref (a (2 + p0))), (2, .int (z01 p1)), (3, .int v3_0), (4, .int v4_1)] → (zb1 (p_X4_at R p0 v3_0) (fun r3 => (zb1 (p_X4_at R p0 v4_1) (fun r5 => (zb1 (p_X4_at R p0 (v3_0 * v4_1)) (fun r7 => (zb1 (p_X0_isProduct r3 r5 r7) (fun r9 => (if ¬ (z01 r9) = 0 then (p_X0_isByPrimes_L1 F R b pr tm cn sm ac re kn p0 p1 v3_0 K1 fu1 (v4_1 + (1 : Int32))) else (some (false, R, b, pr, tm, cn, sm, ac, re, kn))))))))))) = some (r, R', b', pr', tm', cn', sm', ac', re', kn') → G H locs 0 0 (F0 m 46 ls []) := by
                  intro  H locs ls hP hD hS hl h
                  refine hG _ _ _ _ _ ?_
                  refine lv_aload_n hx hb dX0_isByPrimes_46 rfl (lv_at hl 1 rfl) ?_
                  refine lv_iload_n hx hb dX0_isByPrimes_47 rfl (lv_at hl 3 rfl) ?_
                  obtain ⟨r3, e4, h⟩ := zb1_some h
                  refine zgol (va_runV (As := [.int v3_0]) (rest := []) ⟨hx, hb, hml, hown, hts⟩ (c_X4_at l D a cJ cI cO cB R b pr tm cn sm ac re kn p0 v3_0 hp0 r3 e4 H.size) (cwV 1 hts gX0_isByPrimes_X4_at rfl rfl rfl hdV_X4_at ⟨Nat.le_of_ble_eq_true rfl, Nat.le_of_ble_eq_true rfl⟩) (zpreV (q0 := 2 + p0) (ci := 6) (T := TX4) (N := 1) hK hP hD (cW_row hp0) rfl [.int v3_0]) rfl rfl hl.1 rfl (lv_room (Nat.le_of_ble_eq_true rfl)) dX0_isByPrimes_48 ⟨Nat.le_of_ble_eq_true rfl, Nat.le_of_ble_eq_true rfl⟩) (zfree hD hS hA) (zjW hD hS hA) hS (fun H locs hP hD hS => ?_)
                  replace hP : va_P D vwCl (cW a cJ cI cO R b pr tm cn sm ac re kn) H := hP
                  replace hD : va_D A (cW a cJ cI cO R b pr tm cn sm ac re kn) := hD
                  refine lv_aload_n hx hb dX0_isByPrimes_51 rfl (lv_at hl 1 rfl) ?_
                  refine lv_iload hx hb dX0_isByPrimes_52 (lv_at hl 4 rfl) ?_
                  obtain ⟨r5, e6, h⟩ := zb1_some h
                  refine zgol (va_runV (As := [.int v4_1]) (rest := [.long r3]) ⟨hx, hb, hml, hown, hts⟩ (c_X4_at l D a cJ cI cO cB R b pr tm cn sm ac re kn p0 v4_1 hp0 r5 e6 H.size) (cwV 1 hts gX0_isByPrimes_X4_at rfl rfl rfl hdV_X4_at ⟨Nat.le_of_ble_eq_true rfl, Nat.le_of_ble_eq_true rfl⟩) (zpreV (q0 := 2 + p0) (ci := 6) (T := TX4) (N := 1) hK hP hD (cW_row hp0) rfl [.int v4_1]) rfl rfl hl.1 rfl (lv_room (Nat.le_of_ble_eq_true rfl)) dX0_isByPrimes_54 ⟨Nat.le_of_ble_eq_true rfl, Nat.le_of_ble_eq_true rfl⟩) (zfree hD hS hA) (zjW hD hS hA) hS (fun H locs hP hD hS => ?_)
                  replace hP : va_P D vwCl (cW a cJ cI cO R b pr tm cn sm ac re kn) H := hP
                  replace hD : va_D A (cW a cJ cI cO R b pr tm cn sm ac re kn) := hD
                  refine lv_aload_n hx hb dX0_isByPrimes_57 rfl (lv_at hl 1 rfl) ?_
                  refine lv_iload_n hx hb dX0_isByPrimes_58 rfl (lv_at hl 3 rfl) ?_
                  refine lv_iload hx hb dX0_isByPrimes_59 (lv_at hl 4 rfl) ?_
                  refine lv_imul hx hb dX0_isByPrimes_61 ?_
                  obtain ⟨r7, e8, h⟩ := zb1_some h
                  refine zgol (va_runV (As := [.int (v3_0 * v4_1)]) (rest := [.long r5, .long r3]) ⟨hx, hb, hml, hown, hts⟩ (c_X4_at l D a cJ cI cO cB R b pr tm cn sm ac re kn p0 (v3_0 * v4_1) hp0 r7 e8 H.size) (cwV 1 hts gX0_isByPrimes_X4_at rfl rfl rfl hdV_X4_at ⟨Nat.le_of_ble_eq_true rfl, Nat.le_of_ble_eq_true rfl⟩) (zpreV (q0 := 2 + p0) (ci := 6) (T := TX4) (N := 1) hK hP hD (cW_row hp0) rfl [.int (v3_0 * v4_1)]) rfl rfl hl.1 rfl (lv_room (Nat.le_of_ble_eq_true rfl)) dX0_isByPrimes_62 ⟨Nat.le_of_ble_eq_true rfl, Nat.le_of_ble_eq_true rfl⟩) (zfree hD hS hA) (zjW hD hS hA) hS (fun H locs hP hD hS => ?_)
                  replace hP : va_P D vwCl (cW a cJ cI cO R b pr tm cn sm ac re kn) H := hP
                  replace hD : va_D A (cW a cJ cI cO R b pr tm cn sm ac re kn) := hD
                  obtain ⟨r9, e10, h⟩ := zb1_some h
                  refine zgoi (va_runS (As := [.long r3, .long r5, .long r7]) (rest := []) ⟨hx, hb, hml, hown, hts⟩ (c_X0_isProduct l D (zT cJ cI cO cB) r3 r5 r7 r9 e10 H.size) (va_cwS 3 hts gX0_isByPrimes_X0_isProduct rfl rfl rfl hdS_X0_isProduct ⟨Nat.le_of_ble_eq_true rfl, Nat.le_of_ble_eq_true rfl⟩) (zpreS hK zP0 (zD0 (A := A)) [.long r3, .long r5, .long r7]) rfl rfl hl.1 rfl (lv_room (Nat.le_of_ble_eq_true rfl)) dX0_isByPrimes_65 ⟨Nat.le_of_ble_eq_true rfl, Nat.le_of_ble_eq_true rfl⟩) (zf0 hS hA) (zjE hP hD) hS (fun H locs hP hD hS => ?_)
                  refine lv_if_ne (tgt := 73) hx hb dX0_isByPrimes_68 (by decide) (fun c68 => ?_) (fun c68 => ?_)
                  · replace h := zif_t h c68
                    refine lv_iinc (v := (v4_1 + (1 : Int32))) (lv' := [(4, .int (v4_1 + (1 : Int32))), (0, .ref (a 16)), (1, .ref (a (2 + p0))), (2, .int (z01 p1)), (3, .int v3_0)]) hx hb dX0_isByPrimes_73 hl (k := 4) rfl rfl (by decide) rfl (fun ls hl => ?_)
                    refine lv_goto (tgt := 23) hx hb dX0_isByPrimes_76 (by decide) ?_
                    exact hGW _ _ _ _ _ (ih1 (v4_1 + (1 : Int32)) _ _ ls hP hD hS (lv_sub hl [1, 2, 3, 4, 0] rfl) h)
                  · replace h := zif_fn h c68
                    refine lv_iconst (v := (0 : Int32)) hx hb dX0_isByPrimes_71 (by decide) ?_
                    have g0 := Option.some.inj h
                    obtain ⟨h1, g1⟩ := Prod.mk.inj g0
                    obtain ⟨h2, g2⟩ := Prod.mk.inj g1
                    obtain ⟨h3, g3⟩ := Prod.mk.inj g2
                    obtain ⟨h4, g4⟩ := Prod.mk.inj g3
                    obtain ⟨h5, g5⟩ := Prod.mk.inj g4
                    obtain ⟨h6, g6⟩ := Prod.mk.inj g5
                    obtain ⟨h7, g7⟩ := Prod.mk.inj g6
                    obtain ⟨h8, g8⟩ := Prod.mk.inj g7
                    obtain ⟨h9, g9⟩ := Prod.mk.inj g8
                    subst h1
                    subst h2
                    subst h3
                    subst h4
                    subst h5
                    subst h6
                    subst h7
                    subst h8
                    subst h9
                    subst g9
                    exact W.zret (v := (0 : Int32)) hx hb hr (z01_nar false) (fun t ht hW => ⟨⟨(0 : Int32), (), rfl, rfl, by rw [ht]; exact hP, va_K.moved hW.alike hK, hD⟩, hS.F ht⟩) hS.2.2 dX0_isByPrimes_72
                replace h := zlt_h h
                refine lv_if_ne (tgt := 46) hx hb dX0_isByPrimes_33 (by decide) (fun c33 => ?_) (fun c33 => ?_)
                · replace h := zif_t h c33
                  exact hGW _ _ _ _ _ (J0  _ _ ls hP hD hS (lv_sub hl [0, 1, 2, 3, 4] rfl) h)
                · replace h := zif_fn h c33
                  refine lv_iload_n hx hb dX0_isByPrimes_36 rfl (lv_at hl 3 rfl) ?_
                  refine lv_iload hx hb dX0_isByPrimes_37 (lv_at hl 4 rfl) ?_
                  obtain ⟨r11, e12, h⟩ := zb1_some h
                  refine zgoi (va_runS (As := [.int v3_0, .int v4_1]) (rest := []) ⟨hx, hb, hml, hown, hts⟩ (c_X1_commonOf l D (zT cJ cI cO cB) F v3_0 v4_1 r11 e12 H.size) (va_cwS 2 hts gX0_isByPrimes_X1_commonOf rfl rfl rfl hdS_X1_commonOf ⟨Nat.le_of_ble_eq_true rfl, Nat.le_of_ble_eq_true rfl⟩) (zpreS hK zP0 (zD0 (A := A)) [.int v3_0, .int v4_1]) rfl rfl hl.1 rfl (lv_room (Nat.le_of_ble_eq_true rfl)) dX0_isByPrimes_39 ⟨Nat.le_of_ble_eq_true rfl, Nat.le_of_ble_eq_true rfl⟩) (zf0 hS hA) (zjE hP hD) hS (fun H locs hP hD hS => ?_)
                  refine lv_iconst (v := (1 : Int32)) hx hb dX0_isByPrimes_42 (by decide) ?_
                  refine lv_icmp_ne (tgt := 73) hx hb dX0_isByPrimes_43 (by decide) (fun c43 => ?_) (fun c43 => ?_)
                  · replace h := zif_t h c43
                    refine lv_iinc (v := (v4_1 + (1 : Int32))) (lv' := [(4, .int (v4_1 + (1 : Int32))), (0, .ref (a 16)), (1, .ref (a (2 + p0))), (2, .int (z01 p1)), (3, .int v3_0)]) hx hb dX0_isByPrimes_73 hl (k := 4) rfl rfl (by decide) rfl (fun ls hl => ?_)
                    refine lv_goto (tgt := 23) hx hb dX0_isByPrimes_76 (by decide) ?_
                    exact hGW _ _ _ _ _ (ih1 (v4_1 + (1 : Int32)) _ _ ls hP hD hS (lv_sub hl [1, 2, 3, 4, 0] rfl) h)
                  · replace h := zif_fn h c43
                    exact hGW _ _ _ _ _ (J0  _ _ ls hP hD hS (lv_sub hl [0, 1, 2, 3, 4] rfl) h)
          exact hGW _ _ _ _ _ (L1 _ X1 F v3_0 _ _ ls hP hD hS (lv_sub hl [1, 2, 3, 4, 0] rfl) h)
    exact hGW _ _ _ _ _ (L0 _ X0 F (1 : Int32) _ _ ls hP hD hS (lv_sub hl [1, 2, 3, 0] rfl) h)
  · replace h := zif_f h c7
    refine lv_iconst (v := (0 : Int32)) hx hb dX0_isByPrimes_10 (by decide) ?_
    have g0 := Option.some.inj h
    obtain ⟨h1, g1⟩ := Prod.mk.inj g0
    obtain ⟨h2, g2⟩ := Prod.mk.inj g1
    obtain ⟨h3, g3⟩ := Prod.mk.inj g2
    obtain ⟨h4, g4⟩ := Prod.mk.inj g3
    obtain ⟨h5, g5⟩ := Prod.mk.inj g4
    obtain ⟨h6, g6⟩ := Prod.mk.inj g5
    obtain ⟨h7, g7⟩ := Prod.mk.inj g6
    obtain ⟨h8, g8⟩ := Prod.mk.inj g7
    obtain ⟨h9, g9⟩ := Prod.mk.inj g8
    subst h1
    subst h2
    subst h3
    subst h4
    subst h5
    subst h6
    subst h7
    subst h8
    subst h9
    subst g9
    exact W.zret (v := (0 : Int32)) hx hb hr (z01_nar false) (fun t ht hW => ⟨⟨(0 : Int32), (), rfl, rfl, by rw [ht]; exact hP, va_K.moved hW.alike hK, hD⟩, hS.F ht⟩) hS.2.2 dX0_isByPrimes_11

noncomputable def p_J6_bitCount_0f7a4 (p0 : Int32) : Option Int32 := (some ((((((((p0 - (((p0.toUInt32 >>> ((1 : Int32).toUInt32 &&& Int32.toUInt32 31)).toInt32) &&& (1431655765 : Int32))) &&& (858993459 : Int32)) + ((((p0 - (((p0.toUInt32 >>> ((1 : Int32).toUInt32 &&& Int32.toUInt32 31)).toInt32) &&& (1431655765 : Int32))).toUInt32 >>> ((2 : Int32).toUInt32 &&& Int32.toUInt32 31)).toInt32) &&& (858993459 : Int32))) + (((((p0 - (((p0.toUInt32 >>> ((1 : Int32).toUInt32 &&& Int32.toUInt32 31)).toInt32) &&& (1431655765 : Int32))) &&& (858993459 : Int32)) + ((((p0 - (((p0.toUInt32 >>> ((1 : Int32).toUInt32 &&& Int32.toUInt32 31)).toInt32) &&& (1431655765 : Int32))).toUInt32 >>> ((2 : Int32).toUInt32 &&& Int32.toUInt32 31)).toInt32) &&& (858993459 : Int32))).toUInt32 >>> ((4 : Int32).toUInt32 &&& Int32.toUInt32 31)).toInt32)) &&& (252645135 : Int32)) + (((((((p0 - (((p0.toUInt32 >>> ((1 : Int32).toUInt32 &&& Int32.toUInt32 31)).toInt32) &&& (1431655765 : Int32))) &&& (858993459 : Int32)) + ((((p0 - (((p0.toUInt32 >>> ((1 : Int32).toUInt32 &&& Int32.toUInt32 31)).toInt32) &&& (1431655765 : Int32))).toUInt32 >>> ((2 : Int32).toUInt32 &&& Int32.toUInt32 31)).toInt32) &&& (858993459 : Int32))) + (((((p0 - (((p0.toUInt32 >>> ((1 : Int32).toUInt32 &&& Int32.toUInt32 31)).toInt32) &&& (1431655765 : Int32))) &&& (858993459 : Int32)) + ((((p0 - (((p0.toUInt32 >>> ((1 : Int32).toUInt32 &&& Int32.toUInt32 31)).toInt32) &&& (1431655765 : Int32))).toUInt32 >>> ((2 : Int32).toUInt32 &&& Int32.toUInt32 31)).toInt32) &&& (858993459 : Int32))).toUInt32 >>> ((4 : Int32).toUInt32 &&& Int32.toUInt32 31)).toInt32)) &&& (252645135 : Int32)).toUInt32 >>> ((8 : Int32).toUInt32 &&& Int32.toUInt32 31)).toInt32)) + ((((((((p0 - (((p0.toUInt32 >>> ((1 : Int32).toUInt32 &&& Int32.toUInt32 31)).toInt32) &&& (1431655765 : Int32))) &&& (858993459 : Int32)) + ((((p0 - (((p0.toUInt32 >>> ((1 : Int32).toUInt32 &&& Int32.toUInt32 31)).toInt32) &&& (1431655765 : Int32))).toUInt32 >>> ((2 : Int32).toUInt32 &&& Int32.toUInt32 31)).toInt32) &&& (858993459 : Int32))) + (((((p0 - (((p0.toUInt32 >>> ((1 : Int32).toUInt32 &&& Int32.toUInt32 31)).toInt32) &&& (1431655765 : Int32))) &&& (858993459 : Int32)) + ((((p0 - (((p0.toUInt32 >>> ((1 : Int32).toUInt32 &&& Int32.toUInt32 31)).toInt32) &&& (1431655765 : Int32))).toUInt32 >>> ((2 : Int32).toUInt32 &&& Int32.toUInt32 31)).toInt32) &&& (858993459 : Int32))).toUInt32 >>> ((4 : Int32).toUInt32 &&& Int32.toUInt32 31)).toInt32)) &&& (252645135 : Int32)) + (((((((p0 - (((p0.toUInt32 >>> ((1 : Int32).toUInt32 &&& Int32.toUInt32 31)).toInt32) &&& (1431655765 : Int32))) &&& (858993459 : Int32)) + ((((p0 - (((p0.toUInt32 >>> ((1 : Int32).toUInt32 &&& Int32.toUInt32 31)).toInt32) &&& (1431655765 : Int32))).toUInt32 >>> ((2 : Int32).toUInt32 &&& Int32.toUInt32 31)).toInt32) &&& (858993459 : Int32))) + (((((p0 - (((p0.toUInt32 >>> ((1 : Int32).toUInt32 &&& Int32.toUInt32 31)).toInt32) &&& (1431655765 : Int32))) &&& (858993459 : Int32)) + ((((p0 - (((p0.toUInt32 >>> ((1 : Int32).toUInt32 &&& Int32.toUInt32 31)).toInt32) &&& (1431655765 : Int32))).toUInt32 >>> ((2 : Int32).toUInt32 &&& Int32.toUInt32 31)).toInt32) &&& (858993459 : Int32))).toUInt32 >>> ((4 : Int32).toUInt32 &&& Int32.toUInt32 31)).toInt32)) &&& (252645135 : Int32)).toUInt32 >>> ((8 : Int32).toUInt32 &&& Int32.toUInt32 31)).toInt32)).toUInt32 >>> ((16 : Int32).toUInt32 &&& Int32.toUInt32 31)).toInt32)) &&& (63 : Int32)))
theorem hdS_J6_bitCount_0f7a4 : yJ6_bitCount_0f7a4.cls ≠ "java/lang/invoke/MethodHandle" ∧ yJ6_bitCount_0f7a4.cls ≠ "java/lang/invoke/VarHandle" ∧ (parseMethodDescriptor yJ6_bitCount_0f7a4.desc).map (fun d => d.parameters.length) = some 1 := by decide +kernel
set_option maxHeartbeats 4000000 in
set_option maxRecDepth 100000 in
theorem c_J6_bitCount_0f7a4 (l : Launch) (D : va_G) (tys : List (ClassId × FieldType)) (p0 : Int32) (r : Int32) (h : p_J6_bitCount_0f7a4 p0 = some r) : zMi l yJ6_bitCount_0f7a4 wsJ6_bitCount_0f7a4 0 0 0 0 D tys [.int p0] ([] : va_W) ([] : va_W) r := by
  intro sz
  delta zQi
  refine Met.ofW (cc := cJ6_bitCount_0f7a4) (maxL := 1) (ret := (some .int)) (by decide) rfl ?_
  intro p e s m args below meth c s₁ B hml hv
  obtain ⟨rfl, hsz, hP, hK, hD0⟩ := hv
  have hx := B.exec
  have hb := B.bytes
  have hr := B.returns
  have hts := atoms_spec (ws := wsJ6_bitCount_0f7a4) B.pre
  have hown : s.vm.findClass RJ6 = some m.cls := findClass_of_methodNamed B.named
  have hlocks := B.notSynchronized
  subst hsz
  have hD := hD0.self (sz := s.heap.size)
  generalize hAe : va_A ([] : va_W) s.heap.size = A at hD ⊢
  have hA : ∀ q : Nat, s.heap.size ≤ q → A q := fun q h => by rw [← hAe]; exact Or.inr h
  have hS : va_S A s.heap s.heap [] := va_S.rf
  have hl := lv_entry ([.int p0]) (n := 1) (Nat.le_of_ble_eq_true rfl)
  rw [lg_entry_eq]
  generalize (lg_sl ([.int p0]) ++ List.replicate (1 - (lg_sl ([.int p0])).length) Slot.unset).toArray = ls at hl ⊢
  replace hl : lv_has ls 1 [(0, .int p0)] := hl
  have kc_265 := hts (.constant RJ6 265 (1431655765)) (zmem 1 rfl)
  have kc_266 := hts (.constant RJ6 266 (858993459)) (zmem 2 rfl)
  have kc_267 := hts (.constant RJ6 267 (252645135)) (zmem 3 rfl)
  replace h : (some ((((((((p0 - (((p0.toUInt32 >>> ((1 : Int32).toUInt32 &&& Int32.toUInt32 31)).toInt32) &&& (1431655765 : Int32))) &&& (858993459 : Int32)) + ((((p0 - (((p0.toUInt32 >>> ((1 : Int32).toUInt32 &&& Int32.toUInt32 31)).toInt32) &&& (1431655765 : Int32))).toUInt32 >>> ((2 : Int32).toUInt32 &&& Int32.toUInt32 31)).toInt32) &&& (858993459 : Int32))) + (((((p0 - (((p0.toUInt32 >>> ((1 : Int32).toUInt32 &&& Int32.toUInt32 31)).toInt32) &&& (1431655765 : Int32))) &&& (858993459 : Int32)) + ((((p0 - (((p0.toUInt32 >>> ((1 : Int32).toUInt32 &&& Int32.toUInt32 31)).toInt32) &&& (1431655765 : Int32))).toUInt32 >>> ((2 : Int32).toUInt32 &&& Int32.toUInt32 31)).toInt32) &&& (858993459 : Int32))).toUInt32 >>> ((4 : Int32).toUInt32 &&& Int32.toUInt32 31)).toInt32)) &&& (252645135 : Int32)) + (((((((p0 - (((p0.toUInt32 >>> ((1 : Int32).toUInt32 &&& Int32.toUInt32 31)).toInt32) &&& (1431655765 : Int32))) &&& (858993459 : Int32)) + ((((p0 - (((p0.toUInt32 >>> ((1 : Int32).toUInt32 &&& Int32.toUInt32 31)).toInt32) &&& (1431655765 : Int32))).toUInt32 >>> ((2 : Int32).toUInt32 &&& Int32.toUInt32 31)).toInt32) &&& (858993459 : Int32))) + (((((p0 - (((p0.toUInt32 >>> ((1 : Int32).toUInt32 &&& Int32.toUInt32 31)).toInt32) &&& (1431655765 : Int32))) &&& (858993459 : Int32)) + ((((p0 - (((p0.toUInt32 >>> ((1 : Int32).toUInt32 &&& Int32.toUInt32 31)).toInt32) &&& (1431655765 : Int32))).toUInt32 >>> ((2 : Int32).toUInt32 &&& Int32.toUInt32 31)).toInt32) &&& (858993459 : Int32))).toUInt32 >>> ((4 : Int32).toUInt32 &&& Int32.toUInt32 31)).toInt32)) &&& (252645135 : Int32)).toUInt32 >>> ((8 : Int32).toUInt32 &&& Int32.toUInt32 31)).toInt32)) + ((((((((p0 - (((p0.toUInt32 >>> ((1 : Int32).toUInt32 &&& Int32.toUInt32 31)).toInt32) &&& (1431655765 : Int32))) &&& (858993459 : Int32)) + ((((p0 - (((p0.toUInt32 >>> ((1 : Int32).toUInt32 &&& Int32.toUInt32 31)).toInt32) &&& (1431655765 : Int32))).toUInt32 >>> ((2 : Int32).toUInt32 &&& Int32.toUInt32 31)).toInt32) &&& (858993459 : Int32))) + (((((p0 - (((p0.toUInt32 >>> ((1 : Int32).toUInt32 &&& Int32.toUInt32 31)).toInt32) &&& (1431655765 : Int32))) &&& (858993459 : Int32)) + ((((p0 - (((p0.toUInt32 >>> ((1 : Int32).toUInt32 &&& Int32.toUInt32 31)).toInt32) &&& (1431655765 : Int32))).toUInt32 >>> ((2 : Int32).toUInt32 &&& Int32.toUInt32 31)).toInt32) &&& (858993459 : Int32))).toUInt32 >>> ((4 : Int32).toUInt32 &&& Int32.toUInt32 31)).toInt32)) &&& (252645135 : Int32)) + (((((((p0 - (((p0.toUInt32 >>> ((1 : Int32).toUInt32 &&& Int32.toUInt32 31)).toInt32) &&& (1431655765 : Int32))) &&& (858993459 : Int32)) + ((((p0 - (((p0.toUInt32 >>> ((1 : Int32).toUInt32 &&& Int32.toUInt32 31)).toInt32) &&& (1431655765 : Int32))).toUInt32 >>> ((2 : Int32).toUInt32 &&& Int32.toUInt32 31)).toInt32) &&& (858993459 : Int32))) + (((((p0 - (((p0.toUInt32 >>> ((1 : Int32).toUInt32 &&& Int32.toUInt32 31)).toInt32) &&& (1431655765 : Int32))) &&& (858993459 : Int32)) + ((((p0 - (((p0.toUInt32 >>> ((1 : Int32).toUInt32 &&& Int32.toUInt32 31)).toInt32) &&& (1431655765 : Int32))).toUInt32 >>> ((2 : Int32).toUInt32 &&& Int32.toUInt32 31)).toInt32) &&& (858993459 : Int32))).toUInt32 >>> ((4 : Int32).toUInt32 &&& Int32.toUInt32 31)).toInt32)) &&& (252645135 : Int32)).toUInt32 >>> ((8 : Int32).toUInt32 &&& Int32.toUInt32 31)).toInt32)).toUInt32 >>> ((16 : Int32).toUInt32 &&& Int32.toUInt32 31)).toInt32)) &&& (63 : Int32))) = some r := h
  obtain ⟨H, hHe⟩ : ∃ H, H = s.heap := ⟨_, rfl⟩
  rw [← hHe] at hP
  replace hS : va_S A s.heap H [] := by rw [hHe]; exact hS
  refine zheap hHe ?_
  refine lv_iload_n hx hb dJ6_bitCount_0f7a4_0 rfl (lv_at hl 0 rfl) ?_
  refine lv_iload_n hx hb dJ6_bitCount_0f7a4_1 rfl (lv_at hl 0 rfl) ?_
  refine lv_iconst (v := (1 : Int32)) hx hb dJ6_bitCount_0f7a4_2 (by decide) ?_
  refine lv_iushr (v := ((p0.toUInt32 >>> ((1 : Int32).toUInt32 &&& Int32.toUInt32 31)).toInt32)) hx hb dJ6_bitCount_0f7a4_3 rfl ?_
  refine lv_ldcw hx hb hown kc_265 dJ6_bitCount_0f7a4_4 ?_
  refine lv_iand hx hb dJ6_bitCount_0f7a4_7 ?_
  refine lv_isub hx hb dJ6_bitCount_0f7a4_8 ?_
  refine lv_istore_n (lv' := [(0, .int (p0 - (((p0.toUInt32 >>> ((1 : Int32).toUInt32 &&& Int32.toUInt32 31)).toInt32) &&& (1431655765 : Int32))))]) hx hb dJ6_bitCount_0f7a4_9 rfl hl (by decide) rfl (fun ls hl => ?_)
  refine lv_iload_n hx hb dJ6_bitCount_0f7a4_10 rfl (lv_at hl 0 rfl) ?_
  refine lv_ldcw hx hb hown kc_266 dJ6_bitCount_0f7a4_11 ?_
  refine lv_iand hx hb dJ6_bitCount_0f7a4_14 ?_
  refine lv_iload_n hx hb dJ6_bitCount_0f7a4_15 rfl (lv_at hl 0 rfl) ?_
  refine lv_iconst (v := (2 : Int32)) hx hb dJ6_bitCount_0f7a4_16 (by decide) ?_
  refine lv_iushr (v := (((p0 - (((p0.toUInt32 >>> ((1 : Int32).toUInt32 &&& Int32.toUInt32 31)).toInt32) &&& (1431655765 : Int32))).toUInt32 >>> ((2 : Int32).toUInt32 &&& Int32.toUInt32 31)).toInt32)) hx hb dJ6_bitCount_0f7a4_17 rfl ?_
  refine lv_ldcw hx hb hown kc_266 dJ6_bitCount_0f7a4_18 ?_
  refine lv_iand hx hb dJ6_bitCount_0f7a4_21 ?_
  refine lv_iadd hx hb dJ6_bitCount_0f7a4_22 ?_
  refine lv_istore_n (lv' := [(0, .int (((p0 - (((p0.toUInt32 >>> ((1 : Int32).toUInt32 &&& Int32.toUInt32 31)).toInt32) &&& (1431655765 : Int32))) &&& (858993459 : Int32)) + ((((p0 - (((p0.toUInt32 >>> ((1 : Int32).toUInt32 &&& Int32.toUInt32 31)).toInt32) &&& (1431655765 : Int32))).toUInt32 >>> ((2 : Int32).toUInt32 &&& Int32.toUInt32 31)).toInt32) &&& (858993459 : Int32))))]) hx hb dJ6_bitCount_0f7a4_23 rfl hl (by decide) rfl (fun ls hl => ?_)
  refine lv_iload_n hx hb dJ6_bitCount_0f7a4_24 rfl (lv_at hl 0 rfl) ?_
  refine lv_iload_n hx hb dJ6_bitCount_0f7a4_25 rfl (lv_at hl 0 rfl) ?_
  refine lv_iconst (v := (4 : Int32)) hx hb dJ6_bitCount_0f7a4_26 (by decide) ?_
  refine lv_iushr (v := (((((p0 - (((p0.toUInt32 >>> ((1 : Int32).toUInt32 &&& Int32.toUInt32 31)).toInt32) &&& (1431655765 : Int32))) &&& (858993459 : Int32)) + ((((p0 - (((p0.toUInt32 >>> ((1 : Int32).toUInt32 &&& Int32.toUInt32 31)).toInt32) &&& (1431655765 : Int32))).toUInt32 >>> ((2 : Int32).toUInt32 &&& Int32.toUInt32 31)).toInt32) &&& (858993459 : Int32))).toUInt32 >>> ((4 : Int32).toUInt32 &&& Int32.toUInt32 31)).toInt32)) hx hb dJ6_bitCount_0f7a4_27 rfl ?_
  refine lv_iadd hx hb dJ6_bitCount_0f7a4_28 ?_
  refine lv_ldcw hx hb hown kc_267 dJ6_bitCount_0f7a4_29 ?_
  refine lv_iand hx hb dJ6_bitCount_0f7a4_32 ?_
  refine lv_istore_n (lv' := [(0, .int (((((p0 - (((p0.toUInt32 >>> ((1 : Int32).toUInt32 &&& Int32.toUInt32 31)).toInt32) &&& (1431655765 : Int32))) &&& (858993459 : Int32)) + ((((p0 - (((p0.toUInt32 >>> ((1 : Int32).toUInt32 &&& Int32.toUInt32 31)).toInt32) &&& (1431655765 : Int32))).toUInt32 >>> ((2 : Int32).toUInt32 &&& Int32.toUInt32 31)).toInt32) &&& (858993459 : Int32))) + (((((p0 - (((p0.toUInt32 >>> ((1 : Int32).toUInt32 &&& Int32.toUInt32 31)).toInt32) &&& (1431655765 : Int32))) &&& (858993459 : Int32)) + ((((p0 - (((p0.toUInt32 >>> ((1 : Int32).toUInt32 &&& Int32.toUInt32 31)).toInt32) &&& (1431655765 : Int32))).toUInt32 >>> ((2 : Int32).toUInt32 &&& Int32.toUInt32 31)).toInt32) &&& (858993459 : Int32))).toUInt32 >>> ((4 : Int32).toUInt32 &&& Int32.toUInt32 31)).toInt32)) &&& (252645135 : Int32)))]) hx hb dJ6_bitCount_0f7a4_33 rfl hl (by decide) rfl (fun ls hl => ?_)
  refine lv_iload_n hx hb dJ6_bitCount_0f7a4_34 rfl (lv_at hl 0 rfl) ?_
  refine lv_iload_n hx hb dJ6_bitCount_0f7a4_35 rfl (lv_at hl 0 rfl) ?_
  refine lv_bipush (v := (8 : Int32)) hx hb dJ6_bitCount_0f7a4_36 (by decide) ?_
  refine lv_iushr (v := (((((((p0 - (((p0.toUInt32 >>> ((1 : Int32).toUInt32 &&& Int32.toUInt32 31)).toInt32) &&& (1431655765 : Int32))) &&& (858993459 : Int32)) + ((((p0 - (((p0.toUInt32 >>> ((1 : Int32).toUInt32 &&& Int32.toUInt32 31)).toInt32) &&& (1431655765 : Int32))).toUInt32 >>> ((2 : Int32).toUInt32 &&& Int32.toUInt32 31)).toInt32) &&& (858993459 : Int32))) + (((((p0 - (((p0.toUInt32 >>> ((1 : Int32).toUInt32 &&& Int32.toUInt32 31)).toInt32) &&& (1431655765 : Int32))) &&& (858993459 : Int32)) + ((((p0 - (((p0.toUInt32 >>> ((1 : Int32).toUInt32 &&& Int32.toUInt32 31)).toInt32) &&& (1431655765 : Int32))).toUInt32 >>> ((2 : Int32).toUInt32 &&& Int32.toUInt32 31)).toInt32) &&& (858993459 : Int32))).toUInt32 >>> ((4 : Int32).toUInt32 &&& Int32.toUInt32 31)).toInt32)) &&& (252645135 : Int32)).toUInt32 >>> ((8 : Int32).toUInt32 &&& Int32.toUInt32 31)).toInt32)) hx hb dJ6_bitCount_0f7a4_38 rfl ?_
  refine lv_iadd hx hb dJ6_bitCount_0f7a4_39 ?_
  refine lv_istore_n (lv' := [(0, .int ((((((p0 - (((p0.toUInt32 >>> ((1 : Int32).toUInt32 &&& Int32.toUInt32 31)).toInt32) &&& (1431655765 : Int32))) &&& (858993459 : Int32)) + ((((p0 - (((p0.toUInt32 >>> ((1 : Int32).toUInt32 &&& Int32.toUInt32 31)).toInt32) &&& (1431655765 : Int32))).toUInt32 >>> ((2 : Int32).toUInt32 &&& Int32.toUInt32 31)).toInt32) &&& (858993459 : Int32))) + (((((p0 - (((p0.toUInt32 >>> ((1 : Int32).toUInt32 &&& Int32.toUInt32 31)).toInt32) &&& (1431655765 : Int32))) &&& (858993459 : Int32)) + ((((p0 - (((p0.toUInt32 >>> ((1 : Int32).toUInt32 &&& Int32.toUInt32 31)).toInt32) &&& (1431655765 : Int32))).toUInt32 >>> ((2 : Int32).toUInt32 &&& Int32.toUInt32 31)).toInt32) &&& (858993459 : Int32))).toUInt32 >>> ((4 : Int32).toUInt32 &&& Int32.toUInt32 31)).toInt32)) &&& (252645135 : Int32)) + (((((((p0 - (((p0.toUInt32 >>> ((1 : Int32).toUInt32 &&& Int32.toUInt32 31)).toInt32) &&& (1431655765 : Int32))) &&& (858993459 : Int32)) + ((((p0 - (((p0.toUInt32 >>> ((1 : Int32).toUInt32 &&& Int32.toUInt32 31)).toInt32) &&& (1431655765 : Int32))).toUInt32 >>> ((2 : Int32).toUInt32 &&& Int32.toUInt32 31)).toInt32) &&& (858993459 : Int32))) + (((((p0 - (((p0.toUInt32 >>> ((1 : Int32).toUInt32 &&& Int32.toUInt32 31)).toInt32) &&& (1431655765 : Int32))) &&& (858993459 : Int32)) + ((((p0 - (((p0.toUInt32 >>> ((1 : Int32).toUInt32 &&& Int32.toUInt32 31)).toInt32) &&& (1431655765 : Int32))).toUInt32 >>> ((2 : Int32).toUInt32 &&& Int32.toUInt32 31)).toInt32) &&& (858993459 : Int32))).toUInt32 >>> ((4 : Int32).toUInt32 &&& Int32.toUInt32 31)).toInt32)) &&& (252645135 : Int32)).toUInt32 >>> ((8 : Int32).toUInt32 &&& Int32.toUInt32 31)).toInt32)))]) hx hb dJ6_bitCount_0f7a4_40 rfl hl (by decide) rfl (fun ls hl => ?_)
  refine lv_iload_n hx hb dJ6_bitCount_0f7a4_41 rfl (lv_at hl 0 rfl) ?_
  refine lv_iload_n hx hb dJ6_bitCount_0f7a4_42 rfl (lv_at hl 0 rfl) ?_
  refine lv_bipush (v := (16 : Int32)) hx hb dJ6_bitCount_0f7a4_43 (by decide) ?_
  refine lv_iushr (v := ((((((((p0 - (((p0.toUInt32 >>> ((1 : Int32).toUInt32 &&& Int32.toUInt32 31)).toInt32) &&& (1431655765 : Int32))) &&& (858993459 : Int32)) + ((((p0 - (((p0.toUInt32 >>> ((1 : Int32).toUInt32 &&& Int32.toUInt32 31)).toInt32) &&& (1431655765 : Int32))).toUInt32 >>> ((2 : Int32).toUInt32 &&& Int32.toUInt32 31)).toInt32) &&& (858993459 : Int32))) + (((((p0 - (((p0.toUInt32 >>> ((1 : Int32).toUInt32 &&& Int32.toUInt32 31)).toInt32) &&& (1431655765 : Int32))) &&& (858993459 : Int32)) + ((((p0 - (((p0.toUInt32 >>> ((1 : Int32).toUInt32 &&& Int32.toUInt32 31)).toInt32) &&& (1431655765 : Int32))).toUInt32 >>> ((2 : Int32).toUInt32 &&& Int32.toUInt32 31)).toInt32) &&& (858993459 : Int32))).toUInt32 >>> ((4 : Int32).toUInt32 &&& Int32.toUInt32 31)).toInt32)) &&& (252645135 : Int32)) + (((((((p0 - (((p0.toUInt32 >>> ((1 : Int32).toUInt32 &&& Int32.toUInt32 31)).toInt32) &&& (1431655765 : Int32))) &&& (858993459 : Int32)) + ((((p0 - (((p0.toUInt32 >>> ((1 : Int32).toUInt32 &&& Int32.toUInt32 31)).toInt32) &&& (1431655765 : Int32))).toUInt32 >>> ((2 : Int32).toUInt32 &&& Int32.toUInt32 31)).toInt32) &&& (858993459 : Int32))) + (((((p0 - (((p0.toUInt32 >>> ((1 : Int32).toUInt32 &&& Int32.toUInt32 31)).toInt32) &&& (1431655765 : Int32))) &&& (858993459 : Int32)) + ((((p0 - (((p0.toUInt32 >>> ((1 : Int32).toUInt32 &&& Int32.toUInt32 31)).toInt32) &&& (1431655765 : Int32))).toUInt32 >>> ((2 : Int32).toUInt32 &&& Int32.toUInt32 31)).toInt32) &&& (858993459 : Int32))).toUInt32 >>> ((4 : Int32).toUInt32 &&& Int32.toUInt32 31)).toInt32)) &&& (252645135 : Int32)).toUInt32 >>> ((8 : Int32).toUInt32 &&& Int32.toUInt32 31)).toInt32)).toUInt32 >>> ((16 : Int32).toUInt32 &&& Int32.toUInt32 31)).toInt32)) hx hb dJ6_bitCount_0f7a4_45 rfl ?_
  refine lv_iadd hx hb dJ6_bitCount_0f7a4_46 ?_
  refine lv_istore_n (lv' := [(0, .int (((((((p0 - (((p0.toUInt32 >>> ((1 : Int32).toUInt32 &&& Int32.toUInt32 31)).toInt32) &&& (1431655765 : Int32))) &&& (858993459 : Int32)) + ((((p0 - (((p0.toUInt32 >>> ((1 : Int32).toUInt32 &&& Int32.toUInt32 31)).toInt32) &&& (1431655765 : Int32))).toUInt32 >>> ((2 : Int32).toUInt32 &&& Int32.toUInt32 31)).toInt32) &&& (858993459 : Int32))) + (((((p0 - (((p0.toUInt32 >>> ((1 : Int32).toUInt32 &&& Int32.toUInt32 31)).toInt32) &&& (1431655765 : Int32))) &&& (858993459 : Int32)) + ((((p0 - (((p0.toUInt32 >>> ((1 : Int32).toUInt32 &&& Int32.toUInt32 31)).toInt32) &&& (1431655765 : Int32))).toUInt32 >>> ((2 : Int32).toUInt32 &&& Int32.toUInt32 31)).toInt32) &&& (858993459 : Int32))).toUInt32 >>> ((4 : Int32).toUInt32 &&& Int32.toUInt32 31)).toInt32)) &&& (252645135 : Int32)) + (((((((p0 - (((p0.toUInt32 >>> ((1 : Int32).toUInt32 &&& Int32.toUInt32 31)).toInt32) &&& (1431655765 : Int32))) &&& (858993459 : Int32)) + ((((p0 - (((p0.toUInt32 >>> ((1 : Int32).toUInt32 &&& Int32.toUInt32 31)).toInt32) &&& (1431655765 : Int32))).toUInt32 >>> ((2 : Int32).toUInt32 &&& Int32.toUInt32 31)).toInt32) &&& (858993459 : Int32))) + (((((p0 - (((p0.toUInt32 >>> ((1 : Int32).toUInt32 &&& Int32.toUInt32 31)).toInt32) &&& (1431655765 : Int32))) &&& (858993459 : Int32)) + ((((p0 - (((p0.toUInt32 >>> ((1 : Int32).toUInt32 &&& Int32.toUInt32 31)).toInt32) &&& (1431655765 : Int32))).toUInt32 >>> ((2 : Int32).toUInt32 &&& Int32.toUInt32 31)).toInt32) &&& (858993459 : Int32))).toUInt32 >>> ((4 : Int32).toUInt32 &&& Int32.toUInt32 31)).toInt32)) &&& (252645135 : Int32)).toUInt32 >>> ((8 : Int32).toUInt32 &&& Int32.toUInt32 31)).toInt32)) + ((((((((p0 - (((p0.toUInt32 >>> ((1 : Int32).toUInt32 &&& Int32.toUInt32 31)).toInt32) &&& (1431655765 : Int32))) &&& (858993459 : Int32)) + ((((p0 - (((p0.toUInt32 >>> ((1 : Int32).toUInt32 &&& Int32.toUInt32 31)).toInt32) &&& (1431655765 : Int32))).toUInt32 >>> ((2 : Int32).toUInt32 &&& Int32.toUInt32 31)).toInt32) &&& (858993459 : Int32))) + (((((p0 - (((p0.toUInt32 >>> ((1 : Int32).toUInt32 &&& Int32.toUInt32 31)).toInt32) &&& (1431655765 : Int32))) &&& (858993459 : Int32)) + ((((p0 - (((p0.toUInt32 >>> ((1 : Int32).toUInt32 &&& Int32.toUInt32 31)).toInt32) &&& (1431655765 : Int32))).toUInt32 >>> ((2 : Int32).toUInt32 &&& Int32.toUInt32 31)).toInt32) &&& (858993459 : Int32))).toUInt32 >>> ((4 : Int32).toUInt32 &&& Int32.toUInt32 31)).toInt32)) &&& (252645135 : Int32)) + (((((((p0 - (((p0.toUInt32 >>> ((1 : Int32).toUInt32 &&& Int32.toUInt32 31)).toInt32) &&& (1431655765 : Int32))) &&& (858993459 : Int32)) + ((((p0 - (((p0.toUInt32 >>> ((1 : Int32).toUInt32 &&& Int32.toUInt32 31)).toInt32) &&& (1431655765 : Int32))).toUInt32 >>> ((2 : Int32).toUInt32 &&& Int32.toUInt32 31)).toInt32) &&& (858993459 : Int32))) + (((((p0 - (((p0.toUInt32 >>> ((1 : Int32).toUInt32 &&& Int32.toUInt32 31)).toInt32) &&& (1431655765 : Int32))) &&& (858993459 : Int32)) + ((((p0 - (((p0.toUInt32 >>> ((1 : Int32).toUInt32 &&& Int32.toUInt32 31)).toInt32) &&& (1431655765 : Int32))).toUInt32 >>> ((2 : Int32).toUInt32 &&& Int32.toUInt32 31)).toInt32) &&& (858993459 : Int32))).toUInt32 >>> ((4 : Int32).toUInt32 &&& Int32.toUInt32 31)).toInt32)) &&& (252645135 : Int32)).toUInt32 >>> ((8 : Int32).toUInt32 &&& Int32.toUInt32 31)).toInt32)).toUInt32 >>> ((16 : Int32).toUInt32 &&& Int32.toUInt32 31)).toInt32)))]) hx hb dJ6_bitCount_0f7a4_47 rfl hl (by decide) rfl (fun ls hl => ?_)
  refine lv_iload_n hx hb dJ6_bitCount_0f7a4_48 rfl (lv_at hl 0 rfl) ?_
  refine lv_bipush (v := (63 : Int32)) hx hb dJ6_bitCount_0f7a4_49 (by decide) ?_
  refine lv_iand hx hb dJ6_bitCount_0f7a4_51 ?_
  have h1 := Option.some.inj h
  subst h1
  exact W.iret (v := ((((((((p0 - (((p0.toUInt32 >>> ((1 : Int32).toUInt32 &&& Int32.toUInt32 31)).toInt32) &&& (1431655765 : Int32))) &&& (858993459 : Int32)) + ((((p0 - (((p0.toUInt32 >>> ((1 : Int32).toUInt32 &&& Int32.toUInt32 31)).toInt32) &&& (1431655765 : Int32))).toUInt32 >>> ((2 : Int32).toUInt32 &&& Int32.toUInt32 31)).toInt32) &&& (858993459 : Int32))) + (((((p0 - (((p0.toUInt32 >>> ((1 : Int32).toUInt32 &&& Int32.toUInt32 31)).toInt32) &&& (1431655765 : Int32))) &&& (858993459 : Int32)) + ((((p0 - (((p0.toUInt32 >>> ((1 : Int32).toUInt32 &&& Int32.toUInt32 31)).toInt32) &&& (1431655765 : Int32))).toUInt32 >>> ((2 : Int32).toUInt32 &&& Int32.toUInt32 31)).toInt32) &&& (858993459 : Int32))).toUInt32 >>> ((4 : Int32).toUInt32 &&& Int32.toUInt32 31)).toInt32)) &&& (252645135 : Int32)) + (((((((p0 - (((p0.toUInt32 >>> ((1 : Int32).toUInt32 &&& Int32.toUInt32 31)).toInt32) &&& (1431655765 : Int32))) &&& (858993459 : Int32)) + ((((p0 - (((p0.toUInt32 >>> ((1 : Int32).toUInt32 &&& Int32.toUInt32 31)).toInt32) &&& (1431655765 : Int32))).toUInt32 >>> ((2 : Int32).toUInt32 &&& Int32.toUInt32 31)).toInt32) &&& (858993459 : Int32))) + (((((p0 - (((p0.toUInt32 >>> ((1 : Int32).toUInt32 &&& Int32.toUInt32 31)).toInt32) &&& (1431655765 : Int32))) &&& (858993459 : Int32)) + ((((p0 - (((p0.toUInt32 >>> ((1 : Int32).toUInt32 &&& Int32.toUInt32 31)).toInt32) &&& (1431655765 : Int32))).toUInt32 >>> ((2 : Int32).toUInt32 &&& Int32.toUInt32 31)).toInt32) &&& (858993459 : Int32))).toUInt32 >>> ((4 : Int32).toUInt32 &&& Int32.toUInt32 31)).toInt32)) &&& (252645135 : Int32)).toUInt32 >>> ((8 : Int32).toUInt32 &&& Int32.toUInt32 31)).toInt32)) + ((((((((p0 - (((p0.toUInt32 >>> ((1 : Int32).toUInt32 &&& Int32.toUInt32 31)).toInt32) &&& (1431655765 : Int32))) &&& (858993459 : Int32)) + ((((p0 - (((p0.toUInt32 >>> ((1 : Int32).toUInt32 &&& Int32.toUInt32 31)).toInt32) &&& (1431655765 : Int32))).toUInt32 >>> ((2 : Int32).toUInt32 &&& Int32.toUInt32 31)).toInt32) &&& (858993459 : Int32))) + (((((p0 - (((p0.toUInt32 >>> ((1 : Int32).toUInt32 &&& Int32.toUInt32 31)).toInt32) &&& (1431655765 : Int32))) &&& (858993459 : Int32)) + ((((p0 - (((p0.toUInt32 >>> ((1 : Int32).toUInt32 &&& Int32.toUInt32 31)).toInt32) &&& (1431655765 : Int32))).toUInt32 >>> ((2 : Int32).toUInt32 &&& Int32.toUInt32 31)).toInt32) &&& (858993459 : Int32))).toUInt32 >>> ((4 : Int32).toUInt32 &&& Int32.toUInt32 31)).toInt32)) &&& (252645135 : Int32)) + (((((((p0 - (((p0.toUInt32 >>> ((1 : Int32).toUInt32 &&& Int32.toUInt32 31)).toInt32) &&& (1431655765 : Int32))) &&& (858993459 : Int32)) + ((((p0 - (((p0.toUInt32 >>> ((1 : Int32).toUInt32 &&& Int32.toUInt32 31)).toInt32) &&& (1431655765 : Int32))).toUInt32 >>> ((2 : Int32).toUInt32 &&& Int32.toUInt32 31)).toInt32) &&& (858993459 : Int32))) + (((((p0 - (((p0.toUInt32 >>> ((1 : Int32).toUInt32 &&& Int32.toUInt32 31)).toInt32) &&& (1431655765 : Int32))) &&& (858993459 : Int32)) + ((((p0 - (((p0.toUInt32 >>> ((1 : Int32).toUInt32 &&& Int32.toUInt32 31)).toInt32) &&& (1431655765 : Int32))).toUInt32 >>> ((2 : Int32).toUInt32 &&& Int32.toUInt32 31)).toInt32) &&& (858993459 : Int32))).toUInt32 >>> ((4 : Int32).toUInt32 &&& Int32.toUInt32 31)).toInt32)) &&& (252645135 : Int32)).toUInt32 >>> ((8 : Int32).toUInt32 &&& Int32.toUInt32 31)).toInt32)).toUInt32 >>> ((16 : Int32).toUInt32 &&& Int32.toUInt32 31)).toInt32)) &&& (63 : Int32))) hx hb hr (fun t ht hW => ⟨⟨((((((((p0 - (((p0.toUInt32 >>> ((1 : Int32).toUInt32 &&& Int32.toUInt32 31)).toInt32) &&& (1431655765 : Int32))) &&& (858993459 : Int32)) + ((((p0 - (((p0.toUInt32 >>> ((1 : Int32).toUInt32 &&& Int32.toUInt32 31)).toInt32) &&& (1431655765 : Int32))).toUInt32 >>> ((2 : Int32).toUInt32 &&& Int32.toUInt32 31)).toInt32) &&& (858993459 : Int32))) + (((((p0 - (((p0.toUInt32 >>> ((1 : Int32).toUInt32 &&& Int32.toUInt32 31)).toInt32) &&& (1431655765 : Int32))) &&& (858993459 : Int32)) + ((((p0 - (((p0.toUInt32 >>> ((1 : Int32).toUInt32 &&& Int32.toUInt32 31)).toInt32) &&& (1431655765 : Int32))).toUInt32 >>> ((2 : Int32).toUInt32 &&& Int32.toUInt32 31)).toInt32) &&& (858993459 : Int32))).toUInt32 >>> ((4 : Int32).toUInt32 &&& Int32.toUInt32 31)).toInt32)) &&& (252645135 : Int32)) + (((((((p0 - (((p0.toUInt32 >>> ((1 : Int32).toUInt32 &&& Int32.toUInt32 31)).toInt32) &&& (1431655765 : Int32))) &&& (858993459 : Int32)) + ((((p0 - (((p0.toUInt32 >>> ((1 : Int32).toUInt32 &&& Int32.toUInt32 31)).toInt32) &&& (1431655765 : Int32))).toUInt32 >>> ((2 : Int32).toUInt32 &&& Int32.toUInt32 31)).toInt32) &&& (858993459 : Int32))) + (((((p0 - (((p0.toUInt32 >>> ((1 : Int32).toUInt32 &&& Int32.toUInt32 31)).toInt32) &&& (1431655765 : Int32))) &&& (858993459 : Int32)) + ((((p0 - (((p0.toUInt32 >>> ((1 : Int32).toUInt32 &&& Int32.toUInt32 31)).toInt32) &&& (1431655765 : Int32))).toUInt32 >>> ((2 : Int32).toUInt32 &&& Int32.toUInt32 31)).toInt32) &&& (858993459 : Int32))).toUInt32 >>> ((4 : Int32).toUInt32 &&& Int32.toUInt32 31)).toInt32)) &&& (252645135 : Int32)).toUInt32 >>> ((8 : Int32).toUInt32 &&& Int32.toUInt32 31)).toInt32)) + ((((((((p0 - (((p0.toUInt32 >>> ((1 : Int32).toUInt32 &&& Int32.toUInt32 31)).toInt32) &&& (1431655765 : Int32))) &&& (858993459 : Int32)) + ((((p0 - (((p0.toUInt32 >>> ((1 : Int32).toUInt32 &&& Int32.toUInt32 31)).toInt32) &&& (1431655765 : Int32))).toUInt32 >>> ((2 : Int32).toUInt32 &&& Int32.toUInt32 31)).toInt32) &&& (858993459 : Int32))) + (((((p0 - (((p0.toUInt32 >>> ((1 : Int32).toUInt32 &&& Int32.toUInt32 31)).toInt32) &&& (1431655765 : Int32))) &&& (858993459 : Int32)) + ((((p0 - (((p0.toUInt32 >>> ((1 : Int32).toUInt32 &&& Int32.toUInt32 31)).toInt32) &&& (1431655765 : Int32))).toUInt32 >>> ((2 : Int32).toUInt32 &&& Int32.toUInt32 31)).toInt32) &&& (858993459 : Int32))).toUInt32 >>> ((4 : Int32).toUInt32 &&& Int32.toUInt32 31)).toInt32)) &&& (252645135 : Int32)) + (((((((p0 - (((p0.toUInt32 >>> ((1 : Int32).toUInt32 &&& Int32.toUInt32 31)).toInt32) &&& (1431655765 : Int32))) &&& (858993459 : Int32)) + ((((p0 - (((p0.toUInt32 >>> ((1 : Int32).toUInt32 &&& Int32.toUInt32 31)).toInt32) &&& (1431655765 : Int32))).toUInt32 >>> ((2 : Int32).toUInt32 &&& Int32.toUInt32 31)).toInt32) &&& (858993459 : Int32))) + (((((p0 - (((p0.toUInt32 >>> ((1 : Int32).toUInt32 &&& Int32.toUInt32 31)).toInt32) &&& (1431655765 : Int32))) &&& (858993459 : Int32)) + ((((p0 - (((p0.toUInt32 >>> ((1 : Int32).toUInt32 &&& Int32.toUInt32 31)).toInt32) &&& (1431655765 : Int32))).toUInt32 >>> ((2 : Int32).toUInt32 &&& Int32.toUInt32 31)).toInt32) &&& (858993459 : Int32))).toUInt32 >>> ((4 : Int32).toUInt32 &&& Int32.toUInt32 31)).toInt32)) &&& (252645135 : Int32)).toUInt32 >>> ((8 : Int32).toUInt32 &&& Int32.toUInt32 31)).toInt32)).toUInt32 >>> ((16 : Int32).toUInt32 &&& Int32.toUInt32 31)).toInt32)) &&& (63 : Int32)), (), rfl, rfl, by rw [ht]; exact hP, va_K.moved hW.alike hK, hD⟩, hS.F ht⟩) hS.2.2 dJ6_bitCount_0f7a4_52

noncomputable def p_X5_sumOfSequences_L0 (F : Nat) (rc : (Nat → Nat → Int64) → Nat → Int32 → Int32 → Int32 → Option Int64) (R : Nat → Nat → Int64) (p0 : Nat) (p1 : Int32) (p2 : Int32) (p3 : Int32) (k : Int64 → Int32 → Option Int64) : Nat → Int64 → Int32 → Option Int64
  | 0, _, _ => none
  | n + 1, v4_0, v6_0 => (if p1 < v6_0 then (k v4_0 v6_0) else (if ¬ ((p3 >>> (v6_0 &&& 31)) &&& (1 : Int32)) = 0 then (p_X5_sumOfSequences_L0 F rc R p0 p1 p2 p3 k n v4_0 (v6_0 + (1 : Int32))) else (zb1 (p_X1_commonOf F p2 v6_0) (fun r1 => (zb1 (p_X4_at R p0 r1) (fun r3 => (zb1 (rc R p0 p1 (p2 + (1 : Int32)) (p3 ||| ((1 : Int32) <<< (v6_0 &&& 31)))) (fun r5 => (zb1 (p_J6_bitCount_0f7a4 (p3 >>> (v6_0 &&& 31))) (fun r7 => (if ¬ (r7 &&& (1 : Int32)) = (1 : Int32) then (p_X5_sumOfSequences_L0 F rc R p0 p1 p2 p3 k n (v4_0 + (r3 * r5)) (v6_0 + (1 : Int32))) else (p_X5_sumOfSequences_L0 F rc R p0 p1 p2 p3 k n (v4_0 + (-(r3 * r5))) (v6_0 + (1 : Int32))))))))))))))
noncomputable def p_X5_sumOfSequences : Nat → Nat → (Nat → Nat → Int64) → Nat → Int32 → Int32 → Int32 → Option Int64
  | 0, _, _, _, _, _, _ => none
  | dp + 1, F, R, p0, p1, p2, p3 => (if p1 < p2 then (some (1 : Int64)) else (if p2 ≤ (6 : Int32) then (p_X5_sumOfSequences_L0 F (p_X5_sumOfSequences dp F) R p0 p1 p2 p3 (fun v4_0 v6_0 => (some v4_0)) F (0 : Int64) (1 : Int32)) else (some (1 : Int64))))
theorem hdS_X5_sumOfSequences : yX5_sumOfSequences.cls ≠ "java/lang/invoke/MethodHandle" ∧ yX5_sumOfSequences.cls ≠ "java/lang/invoke/VarHandle" ∧ (parseMethodDescriptor yX5_sumOfSequences.desc).map (fun d => d.parameters.length) = some 4 := by decide +kernel
set_option maxHeartbeats 4000000 in
set_option maxRecDepth 100000 in
theorem c_X5_sumOfSequences (l : Launch) (D : va_G) (a : Nat → Nat) (cJ cI cO cB : ClassId) (R : Nat → Nat → Int64) (b : Bool) (pr : Nat → Int32) (tm : Nat → Int32) (cn : Int32) (sm : Nat → Int32) (ac : Int32) (re : Int32) (kn : Int32) (F : Nat) : ∀ (dp : Nat) (p0 : Nat) (p1 : Int32) (p2 : Int32) (p3 : Int32) (hp0 : p0 < 6) (r : Int64) (h : p_X5_sumOfSequences dp F R p0 p1 p2 p3 = some r), zMl l yX5_sumOfSequences wsX5_sumOfSequences (1 + dp) (25 + dp * 29) 0 0 D (zT cJ cI cO cB) [.ref (a (2 + p0)), .int p1, .int p2, .int p3] (cW a cJ cI cO R b pr tm cn sm ac re kn) (cW a cJ cI cO R b pr tm cn sm ac re kn) r := by
  intro dp
  induction dp with
  | zero =>
    intro p0 p1 p2 p3 hp0 r h
    exact (zno h).elim
  | succ dp ihd =>
    intro p0 p1 p2 p3 hp0 r h
    intro sz
    delta zQl
    refine Met.ofW (cc := cX5_sumOfSequences) (maxL := 10) (ret := (some .long)) (by decide) rfl ?_
    intro p e s m args below meth c s₁ B hml hv
    obtain ⟨rfl, hsz, hP, hK, hD0⟩ := hv
    have hx := B.exec
    have hb := B.bytes
    have hr := B.returns
    have hts := atoms_spec (ws := wsX5_sumOfSequences) B.pre
    have hown : s.vm.findClass RX5 = some m.cls := findClass_of_methodNamed B.named
    have hlocks := B.notSynchronized
    subst hsz
    have hD := hD0.self (sz := s.heap.size)
    generalize hAe : va_A (cW a cJ cI cO R b pr tm cn sm ac re kn) s.heap.size = A at hD ⊢
    have hA : ∀ q : Nat, s.heap.size ≤ q → A q := fun q h => by rw [← hAe]; exact Or.inr h
    have hS : va_S A s.heap s.heap [] := va_S.rf
    have hl := lv_entry ([.ref (a (2 + p0)), .int p1, .int p2, .int p3]) (n := 10) (Nat.le_of_ble_eq_true rfl)
    rw [lg_entry_eq]
    generalize (lg_sl ([.ref (a (2 + p0)), .int p1, .int p2, .int p3]) ++ List.replicate (10 - (lg_sl ([.ref (a (2 + p0)), .int p1, .int p2, .int p3])).length) Slot.unset).toArray = ls at hl ⊢
    replace hl : lv_has ls 10 [(0, .ref (a (2 + p0))), (1, .int p1), (2, .int p2), (3, .int p3)] := hl
    obtain ⟨rc, hrc⟩ : ∃ rc, rc = p_X5_sumOfSequences dp F := ⟨_, rfl⟩
    replace h : (if p1 < p2 then (some (1 : Int64)) else (if p2 ≤ (6 : Int32) then (p_X5_sumOfSequences_L0 F rc R p0 p1 p2 p3 (fun v4_0 v6_0 => (some v4_0)) F (0 : Int64) (1 : Int32)) else (some (1 : Int64)))) = some r := by rw [hrc]; exact h
    refine zabs (fun G hG hGW => ?_)
    obtain ⟨H, hHe⟩ : ∃ H, H = s.heap := ⟨_, rfl⟩
    rw [← hHe] at hP
    replace hS : va_S A s.heap H [] := by rw [hHe]; exact hS
    refine zheap hHe ?_
    refine lv_iload_n hx hb dX5_sumOfSequences_0 rfl (lv_at hl 2 rfl) ?_
    refine lv_iload_n hx hb dX5_sumOfSequences_1 rfl (lv_at hl 1 rfl) ?_
    refine lv_icmp_gt (tgt := 11) hx hb dX5_sumOfSequences_2 (by decide) (fun c2 => ?_) (fun c2 => ?_)
    · replace h := zif_t h c2
      refine lv_lconst (v := (1 : Int64)) hx hb dX5_sumOfSequences_11 (by decide) ?_
      have h1 := Option.some.inj h
      subst h1
      exact W.lret (v := (1 : Int64)) hx hb hr (fun t ht hW => ⟨⟨(1 : Int64), (), rfl, rfl, by rw [ht]; exact hP, va_K.moved hW.alike hK, hD⟩, hS.F ht⟩) hS.2.2 dX5_sumOfSequences_12
    · replace h := zif_f h c2
      refine lv_iload_n hx hb dX5_sumOfSequences_5 rfl (lv_at hl 2 rfl) ?_
      refine lv_bipush (v := (6 : Int32)) hx hb dX5_sumOfSequences_6 (by decide) ?_
      refine lv_icmp_le (tgt := 13) hx hb dX5_sumOfSequences_8 (by decide) (fun c8 => ?_) (fun c8 => ?_)
      · replace h := zif_t h c8
        refine lv_lconst (v := (0 : Int64)) hx hb dX5_sumOfSequences_13 (by decide) ?_
        refine lv_lstore (lv' := [(4, .long (0 : Int64)), (0, .ref (a (2 + p0))), (1, .int p1), (2, .int p2), (3, .int p3)]) hx hb dX5_sumOfSequences_14 hl (by decide) rfl (fun ls hl => ?_)
        refine lv_iconst (v := (1 : Int32)) hx hb dX5_sumOfSequences_16 (by decide) ?_
        refine lv_istore (lv' := [(6, .int (1 : Int32)), (4, .long (0 : Int64)), (0, .ref (a (2 + p0))), (1, .int p1), (2, .int p2), (3, .int p3)]) hx hb dX5_sumOfSequences_17 hl (by decide) rfl (fun ls hl => ?_)
        have X0 : ∀ (v4_0 : Int64) (v6_0 : Int32) (H : Heap) (locs : List Loc) (ls : Array Slot), va_P D vwCl (cW a cJ cI cO R b pr tm cn sm ac re kn) H → va_D A (cW a cJ cI cO R b pr tm cn sm ac re kn) → va_S A s.heap H locs → lv_has ls 10 [(0, .ref (a (2 + p0))), (1, .int p1), (2, .int p2), (3, .int p3), (4, .long v4_0), (6, .int v6_0)] → (some v4_0) = some r → G H locs 0 0 (F0 m 105 ls []) := by
          intro v4_0 v6_0 H locs ls hP hD hS hl h
          refine hG _ _ _ _ _ ?_
          refine lv_lload hx hb dX5_sumOfSequences_105 (lv_at hl 4 rfl) ?_
          have h1 := Option.some.inj h
          subst h1
          exact W.lret (v := v4_0) hx hb hr (fun t ht hW => ⟨⟨v4_0, (), rfl, rfl, by rw [ht]; exact hP, va_K.moved hW.alike hK, hD⟩, hS.F ht⟩) hS.2.2 dX5_sumOfSequences_107
        have L0 : ∀ (K0 : Int64 → Int32 → Option Int64) (HX0 : ∀ (v4_0 : Int64) (v6_0 : Int32) (H : Heap) (locs : List Loc) (ls : Array Slot), va_P D vwCl (cW a cJ cI cO R b pr tm cn sm ac re kn) H → va_D A (cW a cJ cI cO R b pr tm cn sm ac re kn) → va_S A s.heap H locs → lv_has ls 10 [(0, .ref (a (2 + p0))), (1, .int p1), (2, .int p2), (3, .int p3), (4, .long v4_0), (6, .int v6_0)] → K0 v4_0 v6_0 = some r → G H locs 0 0 (F0 m 105 ls [])) (fu0 : Nat) (v4_0 : Int64) (v6_0 : Int32) (H : Heap) (locs : List Loc) (ls : Array Slot), va_P D vwCl (cW a cJ cI cO R b pr tm cn sm ac re kn) H → va_D A (cW a cJ cI cO R b pr tm cn sm ac re kn) → va_S A s.heap H locs → lv_has ls 10 [(0, .ref (a (2 + p0))), (1, .int p1), (2, .int p2), (3, .int p3), (4, .long v4_0), (6, .int v6_0)] → p_X5_sumOfSequences_L0 F rc R p0 p1 p2 p3 K0 fu0 v4_0 v6_0 = some r → G H locs 0 0 (F0 m 19 ls []) := by
          intro K0 HX0 fu0
          induction fu0 with
          | zero =>
            intro v4_0 v6_0 H locs ls hP hD hS hl h
            exact (zno h).elim
          | succ fu0 ih0 =>
            intro v4_0 v6_0 H locs ls hP hD hS hl h
            refine hG _ _ _ _ _ ?_
            unfold p_X5_sumOfSequences_L0 at h
            refine lv_iload hx hb dX5_sumOfSequences_19 (lv_at hl 5 rfl) ?_
            refine lv_iload_n hx hb dX5_sumOfSequences_21 rfl (lv_at hl 1 rfl) ?_
            refine lv_icmp_gt (tgt := 105) hx hb dX5_sumOfSequences_22 (by decide) (fun c22 => ?_) (fun c22 => ?_)
            · replace h := zif_t h c22
              exact hGW _ _ _ _ _ (HX0 v4_0 v6_0 _ _ ls hP hD hS (lv_sub hl [0, 1, 2, 3, 4, 5] rfl) h)
            · replace h := zif_f h c22
              refine lv_iload_n hx hb dX5_sumOfSequences_25 rfl (lv_at hl 3 rfl) ?_
              refine lv_iload hx hb dX5_sumOfSequences_26 (lv_at hl 5 rfl) ?_
              refine lv_ishr hx hb dX5_sumOfSequences_28 ?_
              refine lv_iconst (v := (1 : Int32)) hx hb dX5_sumOfSequences_29 (by decide) ?_
              refine lv_iand hx hb dX5_sumOfSequences_30 ?_
              refine lv_if_ne (tgt := 99) hx hb dX5_sumOfSequences_31 (by decide) (fun c31 => ?_) (fun c31 => ?_)
              · replace h := zif_t h c31
                refine lv_iinc (v := (v6_0 + (1 : Int32))) (lv' := [(6, .int (v6_0 + (1 : Int32))), (0, .ref (a (2 + p0))), (1, .int p1), (2, .int p2), (3, .int p3), (4, .long v4_0)]) hx hb dX5_sumOfSequences_99 hl (k := 5) rfl rfl (by decide) rfl (fun ls hl => ?_)
                refine lv_goto (tgt := 19) hx hb dX5_sumOfSequences_102 (by decide) ?_
                exact hGW _ _ _ _ _ (ih0 v4_0 (v6_0 + (1 : Int32)) _ _ ls hP hD hS (lv_sub hl [1, 2, 3, 4, 5, 0] rfl) h)
              · replace h := zif_fn h c31
                refine lv_aload_n hx hb dX5_sumOfSequences_34 rfl (lv_at hl 0 rfl) ?_
                refine lv_iload_n hx hb dX5_sumOfSequences_35 rfl (lv_at hl 2 rfl) ?_
                refine lv_iload hx hb dX5_sumOfSequences_36 (lv_at hl 5 rfl) ?_
                obtain ⟨r1, e2, h⟩ := zb1_some h
                refine zgoi (va_runS (As := [.int p2, .int v6_0]) (rest := [.ref (a (2 + p0))]) ⟨hx, hb, hml, hown, hts⟩ (c_X1_commonOf l D (zT cJ cI cO cB) F p2 v6_0 r1 e2 H.size) (va_cwS 2 hts gX5_sumOfSequences_X1_commonOf rfl rfl rfl hdS_X1_commonOf ⟨(by show 0 + 1 ≤ 1 + (dp + 1); omega), (by show 8 + (6 + 11) + 0 ≤ 25 + (dp + 1) * 29; omega)⟩) (zpreS hK zP0 (zD0 (A := A)) [.int p2, .int v6_0]) rfl rfl hl.1 rfl (lv_room (Nat.le_of_ble_eq_true rfl)) dX5_sumOfSequences_38 ⟨Nat.le_of_ble_eq_true rfl, Nat.le_of_ble_eq_true rfl⟩) (zf0 hS hA) (zjE hP hD) hS (fun H locs hP hD hS => ?_)
                obtain ⟨r3, e4, h⟩ := zb1_some h
                refine zgol (va_runV (As := [.int r1]) (rest := []) ⟨hx, hb, hml, hown, hts⟩ (c_X4_at l D a cJ cI cO cB R b pr tm cn sm ac re kn p0 r1 hp0 r3 e4 H.size) (cwV 1 hts gX5_sumOfSequences_X4_at rfl rfl rfl hdV_X4_at ⟨(by show 0 + 1 ≤ 1 + (dp + 1); omega), (by show 8 + (2 + 11) + 0 ≤ 25 + (dp + 1) * 29; omega)⟩) (zpreV (q0 := 2 + p0) (ci := 6) (T := TX4) (N := 1) hK hP hD (cW_row hp0) rfl [.int r1]) rfl rfl hl.1 rfl (lv_room (Nat.le_of_ble_eq_true rfl)) dX5_sumOfSequences_41 ⟨Nat.le_of_ble_eq_true rfl, Nat.le_of_ble_eq_true rfl⟩) (zfree hD hS hA) (zjW hD hS hA) hS (fun H locs hP hD hS => ?_)
                replace hP : va_P D vwCl (cW a cJ cI cO R b pr tm cn sm ac re kn) H := hP
                replace hD : va_D A (cW a cJ cI cO R b pr tm cn sm ac re kn) := hD
                refine lv_aload_n hx hb dX5_sumOfSequences_44 rfl (lv_at hl 0 rfl) ?_
                refine lv_iload_n hx hb dX5_sumOfSequences_45 rfl (lv_at hl 1 rfl) ?_
                refine lv_iload_n hx hb dX5_sumOfSequences_46 rfl (lv_at hl 2 rfl) ?_
                refine lv_iconst (v := (1 : Int32)) hx hb dX5_sumOfSequences_47 (by decide) ?_
                refine lv_iadd hx hb dX5_sumOfSequences_48 ?_
                refine lv_iload_n hx hb dX5_sumOfSequences_49 rfl (lv_at hl 3 rfl) ?_
                refine lv_iconst (v := (1 : Int32)) hx hb dX5_sumOfSequences_50 (by decide) ?_
                refine lv_iload hx hb dX5_sumOfSequences_51 (lv_at hl 5 rfl) ?_
                refine lv_ishl hx hb dX5_sumOfSequences_53 ?_
                refine lv_ior hx hb dX5_sumOfSequences_54 ?_
                obtain ⟨r5, e6, h⟩ := zb1_some h
                refine zgol (va_runS (As := [.ref (a (2 + p0)), .int p1, .int (p2 + (1 : Int32)), .int (p3 ||| ((1 : Int32) <<< (v6_0 &&& 31)))]) (rest := [.long r3]) ⟨hx, hb, hml, hown, hts⟩ (ihd p0 p1 (p2 + (1 : Int32)) (p3 ||| ((1 : Int32) <<< (v6_0 &&& 31))) hp0 r5 (by rw [← hrc]; exact e6) H.size) (va_cwS 4 hts gX5_sumOfSequences_X5_sumOfSequences rfl rfl rfl hdS_X5_sumOfSequences ⟨(by show 1 + dp + 1 ≤ 1 + (dp + 1); omega), (by show 8 + (10 + 11) + (25 + dp * 29) ≤ 25 + (dp + 1) * 29; omega)⟩) (zpreS hK hP hD [.ref (a (2 + p0)), .int p1, .int (p2 + (1 : Int32)), .int (p3 ||| ((1 : Int32) <<< (v6_0 &&& 31)))]) rfl rfl hl.1 rfl (lv_room (Nat.le_of_ble_eq_true rfl)) dX5_sumOfSequences_55 ⟨Nat.le_of_ble_eq_true rfl, Nat.le_of_ble_eq_true rfl⟩) (zfree hD hS hA) (zjW hD hS hA) hS (fun H locs hP hD hS => ?_)
                replace hP : va_P D vwCl (cW a cJ cI cO R b pr tm cn sm ac re kn) H := hP
                replace hD : va_D A (cW a cJ cI cO R b pr tm cn sm ac re kn) := hD
                refine lv_lmul hx hb dX5_sumOfSequences_58 ?_
                refine lv_lstore (lv' := [(7, .long (r3 * r5)), (0, .ref (a (2 + p0))), (1, .int p1), (2, .int p2), (3, .int p3), (4, .long v4_0), (6, .int v6_0)]) hx hb dX5_sumOfSequences_59 hl (by decide) rfl (fun ls hl => ?_)
                refine lv_iload_n hx hb dX5_sumOfSequences_61 rfl (lv_at hl 4 rfl) ?_
                refine lv_iload hx hb dX5_sumOfSequences_62 (lv_at hl 6 rfl) ?_
                refine lv_ishr hx hb dX5_sumOfSequences_64 ?_
                obtain ⟨r7, e8, h⟩ := zb1_some h
                refine zgoi (va_runS (As := [.int (p3 >>> (v6_0 &&& 31))]) (rest := []) ⟨hx, hb, hml, hown, hts⟩ (c_J6_bitCount_0f7a4 l D (zT cJ cI cO cB) (p3 >>> (v6_0 &&& 31)) r7 e8 H.size) (va_cwS 1 hts gX5_sumOfSequences_J6_bitCount_0f7a4 rfl rfl rfl hdS_J6_bitCount_0f7a4 ⟨(by show 0 + 1 ≤ 1 + (dp + 1); omega), (by show 8 + (1 + 11) + 0 ≤ 25 + (dp + 1) * 29; omega)⟩) (zpreS hK zP0 (zD0 (A := A)) [.int (p3 >>> (v6_0 &&& 31))]) rfl rfl hl.1 rfl (lv_room (Nat.le_of_ble_eq_true rfl)) dX5_sumOfSequences_65 ⟨Nat.le_of_ble_eq_true rfl, Nat.le_of_ble_eq_true rfl⟩) (zf0 hS hA) (zjE hP hD) hS (fun H locs hP hD hS => ?_)
                refine lv_iconst (v := (1 : Int32)) hx hb dX5_sumOfSequences_68 (by decide) ?_
                refine lv_iand hx hb dX5_sumOfSequences_69 ?_
                refine lv_iconst (v := (1 : Int32)) hx hb dX5_sumOfSequences_70 (by decide) ?_
                refine lv_icmp_ne (tgt := 78) hx hb dX5_sumOfSequences_71 (by decide) (fun c71 => ?_) (fun c71 => ?_)
                · replace h := zif_t h c71
                  refine lv_iconst (v := (0 : Int32)) hx hb dX5_sumOfSequences_78 (by decide) ?_
                  refine lv_istore (lv' := [(9, .int (0 : Int32)), (7, .long (r3 * r5)), (0, .ref (a (2 + p0))), (1, .int p1), (2, .int p2), (3, .int p3), (4, .long v4_0), (6, .int v6_0)]) hx hb dX5_sumOfSequences_79 hl (by decide) rfl (fun ls hl => ?_)
                  refine lv_lload hx hb dX5_sumOfSequences_81 (lv_at hl 6 rfl) ?_
                  refine lv_iload hx hb dX5_sumOfSequences_83 (lv_at hl 0 rfl) ?_
                  refine lv_if_eq (tgt := 94) hx hb dX5_sumOfSequences_85 (by decide) (fun _ => ?_) (fun c => absurd (by decide) c)
                  refine lv_lload hx hb dX5_sumOfSequences_94 (lv_at hl 1 rfl) ?_
                  refine lv_ladd hx hb dX5_sumOfSequences_96 ?_
                  refine lv_lstore (lv' := [(4, .long (v4_0 + (r3 * r5))), (9, .int (0 : Int32)), (7, .long (r3 * r5)), (0, .ref (a (2 + p0))), (1, .int p1), (2, .int p2), (3, .int p3), (6, .int v6_0)]) hx hb dX5_sumOfSequences_97 hl (by decide) rfl (fun ls hl => ?_)
                  refine lv_iinc (v := (v6_0 + (1 : Int32))) (lv' := [(6, .int (v6_0 + (1 : Int32))), (4, .long (v4_0 + (r3 * r5))), (9, .int (0 : Int32)), (7, .long (r3 * r5)), (0, .ref (a (2 + p0))), (1, .int p1), (2, .int p2), (3, .int p3)]) hx hb dX5_sumOfSequences_99 hl (k := 7) rfl rfl (by decide) rfl (fun ls hl => ?_)
                  refine lv_goto (tgt := 19) hx hb dX5_sumOfSequences_102 (by decide) ?_
                  exact hGW _ _ _ _ _ (ih0 (v4_0 + (r3 * r5)) (v6_0 + (1 : Int32)) _ _ ls hP hD hS (lv_sub hl [4, 5, 6, 7, 1, 0] rfl) h)
                · replace h := zif_fn h c71
                  refine lv_iconst (v := (1 : Int32)) hx hb dX5_sumOfSequences_74 (by decide) ?_
                  refine lv_goto (tgt := 79) hx hb dX5_sumOfSequences_75 (by decide) ?_
                  refine lv_istore (lv' := [(9, .int (1 : Int32)), (7, .long (r3 * r5)), (0, .ref (a (2 + p0))), (1, .int p1), (2, .int p2), (3, .int p3), (4, .long v4_0), (6, .int v6_0)]) hx hb dX5_sumOfSequences_79 hl (by decide) rfl (fun ls hl => ?_)
                  refine lv_lload hx hb dX5_sumOfSequences_81 (lv_at hl 6 rfl) ?_
                  refine lv_iload hx hb dX5_sumOfSequences_83 (lv_at hl 0 rfl) ?_
                  refine lv_if_eq (tgt := 94) hx hb dX5_sumOfSequences_85 (by decide) (fun c => absurd c (by decide)) (fun _ => ?_)
                  refine lv_lload hx hb dX5_sumOfSequences_88 (lv_at hl 1 rfl) ?_
                  refine lv_lneg hx hb dX5_sumOfSequences_90 ?_
                  refine lv_goto (tgt := 96) hx hb dX5_sumOfSequences_91 (by decide) ?_
                  refine lv_ladd hx hb dX5_sumOfSequences_96 ?_
                  refine lv_lstore (lv' := [(4, .long (v4_0 + (-(r3 * r5)))), (9, .int (1 : Int32)), (7, .long (r3 * r5)), (0, .ref (a (2 + p0))), (1, .int p1), (2, .int p2), (3, .int p3), (6, .int v6_0)]) hx hb dX5_sumOfSequences_97 hl (by decide) rfl (fun ls hl => ?_)
                  refine lv_iinc (v := (v6_0 + (1 : Int32))) (lv' := [(6, .int (v6_0 + (1 : Int32))), (4, .long (v4_0 + (-(r3 * r5)))), (9, .int (1 : Int32)), (7, .long (r3 * r5)), (0, .ref (a (2 + p0))), (1, .int p1), (2, .int p2), (3, .int p3)]) hx hb dX5_sumOfSequences_99 hl (k := 7) rfl rfl (by decide) rfl (fun ls hl => ?_)
                  refine lv_goto (tgt := 19) hx hb dX5_sumOfSequences_102 (by decide) ?_
                  exact hGW _ _ _ _ _ (ih0 (v4_0 + (-(r3 * r5))) (v6_0 + (1 : Int32)) _ _ ls hP hD hS (lv_sub hl [4, 5, 6, 7, 1, 0] rfl) h)
        exact hGW _ _ _ _ _ (L0 _ X0 F (0 : Int64) (1 : Int32) _ _ ls hP hD hS (lv_sub hl [2, 3, 4, 5, 1, 0] rfl) h)
      · replace h := zif_f h c8
        refine lv_lconst (v := (1 : Int64)) hx hb dX5_sumOfSequences_11 (by decide) ?_
        have h1 := Option.some.inj h
        subst h1
        exact W.lret (v := (1 : Int64)) hx hb hr (fun t ht hW => ⟨⟨(1 : Int64), (), rfl, rfl, by rw [ht]; exact hP, va_K.moved hW.alike hK, hD⟩, hS.F ht⟩) hS.2.2 dX5_sumOfSequences_12

noncomputable def p_X6_plainly_L1 (F : Nat) (R : Nat → Nat → Int64) (p0 : Nat) (p1 : Nat) (v5_0 : Int32) (k : Int64 → Int32 → Option Int64) : Nat → Int64 → Int32 → Option Int64
  | 0, _, _ => none
  | n + 1, v3_1, v6_1 => (if v5_0 < v6_1 then (k v3_1 v6_1) else (zg (v6_1 = 0) (if ¬ (zr v5_0 v6_1) = 0 then (p_X6_plainly_L1 F R p0 p1 v5_0 k n v3_1 (v6_1 + (1 : Int32))) else (zb1 (p_X4_at R p0 v6_1) (fun r1 => (zg (v6_1 = 0) (zb1 (p_X4_at R p1 (v5_0 / v6_1)) (fun r3 => (p_X6_plainly_L1 F R p0 p1 v5_0 k n (v3_1 + (r1 * r3)) (v6_1 + (1 : Int32)))))))))))
noncomputable def p_X6_plainly_L0 (F : Nat) (R : Nat → Nat → Int64) (p0 : Nat) (p1 : Nat) (p2 : Int32) (k : Int64 → Int32 → Option Int64) : Nat → Int64 → Int32 → Option Int64
  | 0, _, _ => none
  | n + 1, v3_0, v5_0 => (if p2 < v5_0 then (k v3_0 v5_0) else (p_X6_plainly_L1 F R p0 p1 v5_0 (fun v3_1 v6_1 => (p_X6_plainly_L0 F R p0 p1 p2 k n v3_1 (v5_0 + (1 : Int32)))) F v3_0 (1 : Int32)))
noncomputable def p_X6_plainly (F : Nat) (R : Nat → Nat → Int64) (p0 : Nat) (p1 : Nat) (p2 : Int32) : Option Int64 := (p_X6_plainly_L0 F R p0 p1 p2 (fun v3_0 v5_0 => (some v3_0)) F (0 : Int64) (1 : Int32))
theorem hdS_X6_plainly : yX6_plainly.cls ≠ "java/lang/invoke/MethodHandle" ∧ yX6_plainly.cls ≠ "java/lang/invoke/VarHandle" ∧ (parseMethodDescriptor yX6_plainly.desc).map (fun d => d.parameters.length) = some 3 := by decide +kernel
set_option maxHeartbeats 4000000 in
set_option maxRecDepth 100000 in
theorem c_X6_plainly (l : Launch) (D : va_G) (a : Nat → Nat) (cJ cI cO cB : ClassId) (R : Nat → Nat → Int64) (b : Bool) (pr : Nat → Int32) (tm : Nat → Int32) (cn : Int32) (sm : Nat → Int32) (ac : Int32) (re : Int32) (kn : Int32) (F : Nat) (p0 : Nat) (p1 : Nat) (p2 : Int32) (hp0 : p0 < 6) (hp1 : p1 < 6) (r : Int64) (h : p_X6_plainly F R p0 p1 p2 = some r) : zMl l yX6_plainly wsX6_plainly 1 21 0 0 D (zT cJ cI cO cB) [.ref (a (2 + p0)), .ref (a (2 + p1)), .int p2] (cW a cJ cI cO R b pr tm cn sm ac re kn) (cW a cJ cI cO R b pr tm cn sm ac re kn) r := by
  intro sz
  delta zQl
  refine Met.ofW (cc := cX6_plainly) (maxL := 7) (ret := (some .long)) (by decide) rfl ?_
  intro p e s m args below meth c s₁ B hml hv
  obtain ⟨rfl, hsz, hP, hK, hD0⟩ := hv
  have hx := B.exec
  have hb := B.bytes
  have hr := B.returns
  have hts := atoms_spec (ws := wsX6_plainly) B.pre
  have hown : s.vm.findClass RX6 = some m.cls := findClass_of_methodNamed B.named
  have hlocks := B.notSynchronized
  subst hsz
  have hD := hD0.self (sz := s.heap.size)
  generalize hAe : va_A (cW a cJ cI cO R b pr tm cn sm ac re kn) s.heap.size = A at hD ⊢
  have hA : ∀ q : Nat, s.heap.size ≤ q → A q := fun q h => by rw [← hAe]; exact Or.inr h
  have hS : va_S A s.heap s.heap [] := va_S.rf
  have hl := lv_entry ([.ref (a (2 + p0)), .ref (a (2 + p1)), .int p2]) (n := 7) (Nat.le_of_ble_eq_true rfl)
  rw [lg_entry_eq]
  generalize (lg_sl ([.ref (a (2 + p0)), .ref (a (2 + p1)), .int p2]) ++ List.replicate (7 - (lg_sl ([.ref (a (2 + p0)), .ref (a (2 + p1)), .int p2])).length) Slot.unset).toArray = ls at hl ⊢
  replace hl : lv_has ls 7 [(0, .ref (a (2 + p0))), (1, .ref (a (2 + p1))), (2, .int p2)] := hl
  replace h : (p_X6_plainly_L0 F R p0 p1 p2 (fun v3_0 v5_0 => (some v3_0)) F (0 : Int64) (1 : Int32)) = some r := h
  refine zabs (fun G hG hGW => ?_)
  obtain ⟨H, hHe⟩ : ∃ H, H = s.heap := ⟨_, rfl⟩
  rw [← hHe] at hP
  replace hS : va_S A s.heap H [] := by rw [hHe]; exact hS
  refine zheap hHe ?_
  refine lv_lconst (v := (0 : Int64)) hx hb dX6_plainly_0 (by decide) ?_
  refine lv_lstore_n (lv' := [(3, .long (0 : Int64)), (0, .ref (a (2 + p0))), (1, .ref (a (2 + p1))), (2, .int p2)]) hx hb dX6_plainly_1 rfl hl (by decide) rfl (fun ls hl => ?_)
  refine lv_iconst (v := (1 : Int32)) hx hb dX6_plainly_2 (by decide) ?_
  refine lv_istore (lv' := [(5, .int (1 : Int32)), (3, .long (0 : Int64)), (0, .ref (a (2 + p0))), (1, .ref (a (2 + p1))), (2, .int p2)]) hx hb dX6_plainly_3 hl (by decide) rfl (fun ls hl => ?_)
  have X0 : ∀ (v3_0 : Int64) (v5_0 : Int32) (H : Heap) (locs : List Loc) (ls : Array Slot), va_P D vwCl (cW a cJ cI cO R b pr tm cn sm ac re kn) H → va_D A (cW a cJ cI cO R b pr tm cn sm ac re kn) → va_S A s.heap H locs → lv_has ls 7 [(0, .ref (a (2 + p0))), (1, .ref (a (2 + p1))), (2, .int p2), (3, .long v3_0), (5, .int v5_0)] → (some v3_0) = some r → G H locs 0 0 (F0 m 60 ls []) := by
    intro v3_0 v5_0 H locs ls hP hD hS hl h
    refine hG _ _ _ _ _ ?_
    refine lv_lload_n hx hb dX6_plainly_60 rfl (lv_at hl 3 rfl) ?_
    have h1 := Option.some.inj h
    subst h1
    exact W.lret (v := v3_0) hx hb hr (fun t ht hW => ⟨⟨v3_0, (), rfl, rfl, by rw [ht]; exact hP, va_K.moved hW.alike hK, hD⟩, hS.F ht⟩) hS.2.2 dX6_plainly_61
  have L0 : ∀ (K0 : Int64 → Int32 → Option Int64) (HX0 : ∀ (v3_0 : Int64) (v5_0 : Int32) (H : Heap) (locs : List Loc) (ls : Array Slot), va_P D vwCl (cW a cJ cI cO R b pr tm cn sm ac re kn) H → va_D A (cW a cJ cI cO R b pr tm cn sm ac re kn) → va_S A s.heap H locs → lv_has ls 7 [(0, .ref (a (2 + p0))), (1, .ref (a (2 + p1))), (2, .int p2), (3, .long v3_0), (5, .int v5_0)] → K0 v3_0 v5_0 = some r → G H locs 0 0 (F0 m 60 ls [])) (fu0 : Nat) (v3_0 : Int64) (v5_0 : Int32) (H : Heap) (locs : List Loc) (ls : Array Slot), va_P D vwCl (cW a cJ cI cO R b pr tm cn sm ac re kn) H → va_D A (cW a cJ cI cO R b pr tm cn sm ac re kn) → va_S A s.heap H locs → lv_has ls 7 [(0, .ref (a (2 + p0))), (1, .ref (a (2 + p1))), (2, .int p2), (3, .long v3_0), (5, .int v5_0)] → p_X6_plainly_L0 F R p0 p1 p2 K0 fu0 v3_0 v5_0 = some r → G H locs 0 0 (F0 m 5 ls []) := by
    intro K0 HX0 fu0
    induction fu0 with
    | zero =>
      intro v3_0 v5_0 H locs ls hP hD hS hl h
      exact (zno h).elim
    | succ fu0 ih0 =>
      intro v3_0 v5_0 H locs ls hP hD hS hl h
      refine hG _ _ _ _ _ ?_
      unfold p_X6_plainly_L0 at h
      refine lv_iload hx hb dX6_plainly_5 (lv_at hl 4 rfl) ?_
      refine lv_iload_n hx hb dX6_plainly_7 rfl (lv_at hl 2 rfl) ?_
      refine lv_icmp_gt (tgt := 60) hx hb dX6_plainly_8 (by decide) (fun c8 => ?_) (fun c8 => ?_)
      · replace h := zif_t h c8
        exact hGW _ _ _ _ _ (HX0 v3_0 v5_0 _ _ ls hP hD hS (lv_sub hl [0, 1, 2, 3, 4] rfl) h)
      · replace h := zif_f h c8
        refine lv_iconst (v := (1 : Int32)) hx hb dX6_plainly_11 (by decide) ?_
        refine lv_istore (lv' := [(6, .int (1 : Int32)), (0, .ref (a (2 + p0))), (1, .ref (a (2 + p1))), (2, .int p2), (3, .long v3_0), (5, .int v5_0)]) hx hb dX6_plainly_12 hl (by decide) rfl (fun ls hl => ?_)
        have X1 : ∀ (v3_1 : Int64) (v6_1 : Int32) (H : Heap) (locs : List Loc) (ls : Array Slot), va_P D vwCl (cW a cJ cI cO R b pr tm cn sm ac re kn) H → va_D A (cW a cJ cI cO R b pr tm cn sm ac re kn) → va_S A s.heap H locs → lv_has ls 7 [(0, .ref (a (2 + p0))), (1, .ref (a (2 + p1))), (2, .int p2), (3, .long v3_1), (5, .int v5_0), (6, .int v6_1)] → (p_X6_plainly_L0 F R p0 p1 p2 K0 fu0 v3_1 (v5_0 + (1 : Int32))) = some r → G H locs 0 0 (F0 m 54 ls []) := by
          intro v3_1 v6_1 H locs ls hP hD hS hl h
          refine hG _ _ _ _ _ ?_
          refine lv_iinc (v := (v5_0 + (1 : Int32))) (lv' := [(5, .int (v5_0 + (1 : Int32))), (0, .ref (a (2 + p0))), (1, .ref (a (2 + p1))), (2, .int p2), (3, .long v3_1), (6, .int v6_1)]) hx hb dX6_plainly_54 hl (k := 4) rfl rfl (by decide) rfl (fun ls hl => ?_)
          refine lv_goto (tgt := 5) hx hb dX6_plainly_57 (by decide) ?_
          exact hGW _ _ _ _ _ (ih0 v3_1 (v5_0 + (1 : Int32)) _ _ ls hP hD hS (lv_sub hl [1, 2, 3, 4, 0] rfl) h)
        have L1 : ∀ (K1 : Int64 → Int32 → Option Int64) (HX1 : ∀ (v3_1 : Int64) (v6_1 : Int32) (H : Heap) (locs : List Loc) (ls : Array Slot), va_P D vwCl (cW a cJ cI cO R b pr tm cn sm ac re kn) H → va_D A (cW a cJ cI cO R b pr tm cn sm ac re kn) → va_S A s.heap H locs → lv_has ls 7 [(0, .ref (a (2 + p0))), (1, .ref (a (2 + p1))), (2, .int p2), (3, .long v3_1), (5, .int v5_0), (6, .int v6_1)] → K1 v3_1 v6_1 = some r → G H locs 0 0 (F0 m 54 ls [])) (fu1 : Nat) (v3_1 : Int64) (v6_1 : Int32) (H : Heap) (locs : List Loc) (ls : Array Slot), va_P D vwCl (cW a cJ cI cO R b pr tm cn sm ac re kn) H → va_D A (cW a cJ cI cO R b pr tm cn sm ac re kn) → va_S A s.heap H locs → lv_has ls 7 [(0, .ref (a (2 + p0))), (1, .ref (a (2 + p1))), (2, .int p2), (3, .long v3_1), (5, .int v5_0), (6, .int v6_1)] → p_X6_plainly_L1 F R p0 p1 v5_0 K1 fu1 v3_1 v6_1 = some r → G H locs 0 0 (F0 m 14 ls []) := by
          intro K1 HX1 fu1
          induction fu1 with
          | zero =>
            intro v3_1 v6_1 H locs ls hP hD hS hl h
            exact (zno h).elim
          | succ fu1 ih1 =>
            intro v3_1 v6_1 H locs ls hP hD hS hl h
            refine hG _ _ _ _ _ ?_
            unfold p_X6_plainly_L1 at h
            refine lv_iload hx hb dX6_plainly_14 (lv_at hl 5 rfl) ?_
            refine lv_iload hx hb dX6_plainly_16 (lv_at hl 4 rfl) ?_
            refine lv_icmp_gt (tgt := 54) hx hb dX6_plainly_18 (by decide) (fun c18 => ?_) (fun c18 => ?_)
            · replace h := zif_t h c18
              exact hGW _ _ _ _ _ (HX1 v3_1 v6_1 _ _ ls hP hD hS (lv_sub hl [0, 1, 2, 3, 4, 5] rfl) h)
            · replace h := zif_f h c18
              refine lv_iload hx hb dX6_plainly_21 (lv_at hl 4 rfl) ?_
              refine lv_iload hx hb dX6_plainly_23 (lv_at hl 5 rfl) ?_
              obtain ⟨z25, h⟩ := zg_some h
              refine lv_irem hx hb dX6_plainly_25 z25 ?_
              refine lv_if_ne (tgt := 48) hx hb dX6_plainly_26 (by decide) (fun c26 => ?_) (fun c26 => ?_)
              · replace h := zif_t h c26
                refine lv_iinc (v := (v6_1 + (1 : Int32))) (lv' := [(6, .int (v6_1 + (1 : Int32))), (0, .ref (a (2 + p0))), (1, .ref (a (2 + p1))), (2, .int p2), (3, .long v3_1), (5, .int v5_0)]) hx hb dX6_plainly_48 hl (k := 5) rfl rfl (by decide) rfl (fun ls hl => ?_)
                refine lv_goto (tgt := 14) hx hb dX6_plainly_51 (by decide) ?_
                exact hGW _ _ _ _ _ (ih1 v3_1 (v6_1 + (1 : Int32)) _ _ ls hP hD hS (lv_sub hl [1, 2, 3, 4, 5, 0] rfl) h)
              · replace h := zif_fn h c26
                refine lv_lload_n hx hb dX6_plainly_29 rfl (lv_at hl 3 rfl) ?_
                refine lv_aload_n hx hb dX6_plainly_30 rfl (lv_at hl 0 rfl) ?_
                refine lv_iload hx hb dX6_plainly_31 (lv_at hl 5 rfl) ?_
                obtain ⟨r1, e2, h⟩ := zb1_some h
                refine zgol (va_runV (As := [.int v6_1]) (rest := [.long v3_1]) ⟨hx, hb, hml, hown, hts⟩ (c_X4_at l D a cJ cI cO cB R b pr tm cn sm ac re kn p0 v6_1 hp0 r1 e2 H.size) (cwV 1 hts gX6_plainly_X4_at rfl rfl rfl hdV_X4_at ⟨Nat.le_of_ble_eq_true rfl, Nat.le_of_ble_eq_true rfl⟩) (zpreV (q0 := 2 + p0) (ci := 6) (T := TX4) (N := 1) hK hP hD (cW_row hp0) rfl [.int v6_1]) rfl rfl hl.1 rfl (lv_room (Nat.le_of_ble_eq_true rfl)) dX6_plainly_33 ⟨Nat.le_of_ble_eq_true rfl, Nat.le_of_ble_eq_true rfl⟩) (zfree hD hS hA) (zjW hD hS hA) hS (fun H locs hP hD hS => ?_)
                replace hP : va_P D vwCl (cW a cJ cI cO R b pr tm cn sm ac re kn) H := hP
                replace hD : va_D A (cW a cJ cI cO R b pr tm cn sm ac re kn) := hD
                refine lv_aload_n hx hb dX6_plainly_36 rfl (lv_at hl 1 rfl) ?_
                refine lv_iload hx hb dX6_plainly_37 (lv_at hl 4 rfl) ?_
                refine lv_iload hx hb dX6_plainly_39 (lv_at hl 5 rfl) ?_
                obtain ⟨z41, h⟩ := zg_some h
                refine lv_idiv hx hb dX6_plainly_41 z41 ?_
                obtain ⟨r3, e4, h⟩ := zb1_some h
                refine zgol (va_runV (As := [.int (v5_0 / v6_1)]) (rest := [.long r1, .long v3_1]) ⟨hx, hb, hml, hown, hts⟩ (c_X4_at l D a cJ cI cO cB R b pr tm cn sm ac re kn p1 (v5_0 / v6_1) hp1 r3 e4 H.size) (cwV 1 hts gX6_plainly_X4_at rfl rfl rfl hdV_X4_at ⟨Nat.le_of_ble_eq_true rfl, Nat.le_of_ble_eq_true rfl⟩) (zpreV (q0 := 2 + p1) (ci := 6) (T := TX4) (N := 1) hK hP hD (cW_row hp1) rfl [.int (v5_0 / v6_1)]) rfl rfl hl.1 rfl (lv_room (Nat.le_of_ble_eq_true rfl)) dX6_plainly_42 ⟨Nat.le_of_ble_eq_true rfl, Nat.le_of_ble_eq_true rfl⟩) (zfree hD hS hA) (zjW hD hS hA) hS (fun H locs hP hD hS => ?_)
                replace hP : va_P D vwCl (cW a cJ cI cO R b pr tm cn sm ac re kn) H := hP
                replace hD : va_D A (cW a cJ cI cO R b pr tm cn sm ac re kn) := hD
                refine lv_lmul hx hb dX6_plainly_45 ?_
                refine lv_ladd hx hb dX6_plainly_46 ?_
                refine lv_lstore_n (lv' := [(3, .long (v3_1 + (r1 * r3))), (0, .ref (a (2 + p0))), (1, .ref (a (2 + p1))), (2, .int p2), (5, .int v5_0), (6, .int v6_1)]) hx hb dX6_plainly_47 rfl hl (by decide) rfl (fun ls hl => ?_)
                refine lv_iinc (v := (v6_1 + (1 : Int32))) (lv' := [(6, .int (v6_1 + (1 : Int32))), (3, .long (v3_1 + (r1 * r3))), (0, .ref (a (2 + p0))), (1, .ref (a (2 + p1))), (2, .int p2), (5, .int v5_0)]) hx hb dX6_plainly_48 hl (k := 5) rfl rfl (by decide) rfl (fun ls hl => ?_)
                refine lv_goto (tgt := 14) hx hb dX6_plainly_51 (by decide) ?_
                exact hGW _ _ _ _ _ (ih1 (v3_1 + (r1 * r3)) (v6_1 + (1 : Int32)) _ _ ls hP hD hS (lv_sub hl [2, 3, 4, 1, 5, 0] rfl) h)
        exact hGW _ _ _ _ _ (L1 _ X1 F v3_0 (1 : Int32) _ _ ls hP hD hS (lv_sub hl [1, 2, 3, 4, 5, 0] rfl) h)
  exact hGW _ _ _ _ _ (L0 _ X0 F (0 : Int64) (1 : Int32) _ _ ls hP hD hS (lv_sub hl [2, 3, 4, 1, 0] rfl) h)

noncomputable def p_X6_byQuotientsTo_L0 (F : Nat) (R : Nat → Nat → Int64) (p0 : Int32) (p1 : Nat) (p2 : Nat) (p3 : Int32) (k : Int64 → Int32 → Option Int64) : Nat → Int64 → Int32 → Option Int64
  | 0, _, _ => none
  | n + 1, v4_0, v6_0 => (if p0 < v6_0 then (k v4_0 v6_0) else (zb1 (p_X4_at R p1 v6_0) (fun r1 => (zg (v6_0 = 0) (zb1 (p_X4_totalTo F R p2 (p3 / v6_0)) (fun r3 => (p_X6_byQuotientsTo_L0 F R p0 p1 p2 p3 k n (v4_0 + (r1 * r3)) (v6_0 + (1 : Int32)))))))))
noncomputable def p_X6_byQuotientsTo (F : Nat) (R : Nat → Nat → Int64) (p0 : Int32) (p1 : Nat) (p2 : Nat) (p3 : Int32) : Option Int64 := (p_X6_byQuotientsTo_L0 F R p0 p1 p2 p3 (fun v4_0 v6_0 => (some v4_0)) F (0 : Int64) (1 : Int32))
theorem hdS_X6_byQuotientsTo : yX6_byQuotientsTo.cls ≠ "java/lang/invoke/MethodHandle" ∧ yX6_byQuotientsTo.cls ≠ "java/lang/invoke/VarHandle" ∧ (parseMethodDescriptor yX6_byQuotientsTo.desc).map (fun d => d.parameters.length) = some 4 := by decide +kernel
set_option maxHeartbeats 4000000 in
set_option maxRecDepth 100000 in
theorem c_X6_byQuotientsTo (l : Launch) (D : va_G) (a : Nat → Nat) (cJ cI cO cB : ClassId) (R : Nat → Nat → Int64) (b : Bool) (pr : Nat → Int32) (tm : Nat → Int32) (cn : Int32) (sm : Nat → Int32) (ac : Int32) (re : Int32) (kn : Int32) (F : Nat) (p0 : Int32) (p1 : Nat) (p2 : Nat) (p3 : Int32) (hp1 : p1 < 6) (hp2 : p2 < 6) (r : Int64) (h : p_X6_byQuotientsTo F R p0 p1 p2 p3 = some r) : zMl l yX6_byQuotientsTo wsX6_byQuotientsTo 2 45 0 0 D (zT cJ cI cO cB) [.int p0, .ref (a (2 + p1)), .ref (a (2 + p2)), .int p3] (cW a cJ cI cO R b pr tm cn sm ac re kn) (cW a cJ cI cO R b pr tm cn sm ac re kn) r := by
  intro sz
  delta zQl
  refine Met.ofW (cc := cX6_byQuotientsTo) (maxL := 7) (ret := (some .long)) (by decide) rfl ?_
  intro p e s m args below meth c s₁ B hml hv
  obtain ⟨rfl, hsz, hP, hK, hD0⟩ := hv
  have hx := B.exec
  have hb := B.bytes
  have hr := B.returns
  have hts := atoms_spec (ws := wsX6_byQuotientsTo) B.pre
  have hown : s.vm.findClass RX6 = some m.cls := findClass_of_methodNamed B.named
  have hlocks := B.notSynchronized
  subst hsz
  have hD := hD0.self (sz := s.heap.size)
  generalize hAe : va_A (cW a cJ cI cO R b pr tm cn sm ac re kn) s.heap.size = A at hD ⊢
  have hA : ∀ q : Nat, s.heap.size ≤ q → A q := fun q h => by rw [← hAe]; exact Or.inr h
  have hS : va_S A s.heap s.heap [] := va_S.rf
  have hl := lv_entry ([.int p0, .ref (a (2 + p1)), .ref (a (2 + p2)), .int p3]) (n := 7) (Nat.le_of_ble_eq_true rfl)
  rw [lg_entry_eq]
  generalize (lg_sl ([.int p0, .ref (a (2 + p1)), .ref (a (2 + p2)), .int p3]) ++ List.replicate (7 - (lg_sl ([.int p0, .ref (a (2 + p1)), .ref (a (2 + p2)), .int p3])).length) Slot.unset).toArray = ls at hl ⊢
  replace hl : lv_has ls 7 [(0, .int p0), (1, .ref (a (2 + p1))), (2, .ref (a (2 + p2))), (3, .int p3)] := hl
  replace h : (p_X6_byQuotientsTo_L0 F R p0 p1 p2 p3 (fun v4_0 v6_0 => (some v4_0)) F (0 : Int64) (1 : Int32)) = some r := h
  refine zabs (fun G hG hGW => ?_)
  obtain ⟨H, hHe⟩ : ∃ H, H = s.heap := ⟨_, rfl⟩
  rw [← hHe] at hP
  replace hS : va_S A s.heap H [] := by rw [hHe]; exact hS
  refine zheap hHe ?_
  refine lv_lconst (v := (0 : Int64)) hx hb dX6_byQuotientsTo_0 (by decide) ?_
  refine lv_lstore (lv' := [(4, .long (0 : Int64)), (0, .int p0), (1, .ref (a (2 + p1))), (2, .ref (a (2 + p2))), (3, .int p3)]) hx hb dX6_byQuotientsTo_1 hl (by decide) rfl (fun ls hl => ?_)
  refine lv_iconst (v := (1 : Int32)) hx hb dX6_byQuotientsTo_3 (by decide) ?_
  refine lv_istore (lv' := [(6, .int (1 : Int32)), (4, .long (0 : Int64)), (0, .int p0), (1, .ref (a (2 + p1))), (2, .ref (a (2 + p2))), (3, .int p3)]) hx hb dX6_byQuotientsTo_4 hl (by decide) rfl (fun ls hl => ?_)
  have X0 : ∀ (v4_0 : Int64) (v6_0 : Int32) (H : Heap) (locs : List Loc) (ls : Array Slot), va_P D vwCl (cW a cJ cI cO R b pr tm cn sm ac re kn) H → va_D A (cW a cJ cI cO R b pr tm cn sm ac re kn) → va_S A s.heap H locs → lv_has ls 7 [(0, .int p0), (1, .ref (a (2 + p1))), (2, .ref (a (2 + p2))), (3, .int p3), (4, .long v4_0), (6, .int v6_0)] → (some v4_0) = some r → G H locs 0 0 (F0 m 38 ls []) := by
    intro v4_0 v6_0 H locs ls hP hD hS hl h
    refine hG _ _ _ _ _ ?_
    refine lv_lload hx hb dX6_byQuotientsTo_38 (lv_at hl 4 rfl) ?_
    have h1 := Option.some.inj h
    subst h1
    exact W.lret (v := v4_0) hx hb hr (fun t ht hW => ⟨⟨v4_0, (), rfl, rfl, by rw [ht]; exact hP, va_K.moved hW.alike hK, hD⟩, hS.F ht⟩) hS.2.2 dX6_byQuotientsTo_40
  have L0 : ∀ (K0 : Int64 → Int32 → Option Int64) (HX0 : ∀ (v4_0 : Int64) (v6_0 : Int32) (H : Heap) (locs : List Loc) (ls : Array Slot), va_P D vwCl (cW a cJ cI cO R b pr tm cn sm ac re kn) H → va_D A (cW a cJ cI cO R b pr tm cn sm ac re kn) → va_S A s.heap H locs → lv_has ls 7 [(0, .int p0), (1, .ref (a (2 + p1))), (2, .ref (a (2 + p2))), (3, .int p3), (4, .long v4_0), (6, .int v6_0)] → K0 v4_0 v6_0 = some r → G H locs 0 0 (F0 m 38 ls [])) (fu0 : Nat) (v4_0 : Int64) (v6_0 : Int32) (H : Heap) (locs : List Loc) (ls : Array Slot), va_P D vwCl (cW a cJ cI cO R b pr tm cn sm ac re kn) H → va_D A (cW a cJ cI cO R b pr tm cn sm ac re kn) → va_S A s.heap H locs → lv_has ls 7 [(0, .int p0), (1, .ref (a (2 + p1))), (2, .ref (a (2 + p2))), (3, .int p3), (4, .long v4_0), (6, .int v6_0)] → p_X6_byQuotientsTo_L0 F R p0 p1 p2 p3 K0 fu0 v4_0 v6_0 = some r → G H locs 0 0 (F0 m 6 ls []) := by
    intro K0 HX0 fu0
    induction fu0 with
    | zero =>
      intro v4_0 v6_0 H locs ls hP hD hS hl h
      exact (zno h).elim
    | succ fu0 ih0 =>
      intro v4_0 v6_0 H locs ls hP hD hS hl h
      refine hG _ _ _ _ _ ?_
      unfold p_X6_byQuotientsTo_L0 at h
      refine lv_iload hx hb dX6_byQuotientsTo_6 (lv_at hl 5 rfl) ?_
      refine lv_iload_n hx hb dX6_byQuotientsTo_8 rfl (lv_at hl 0 rfl) ?_
      refine lv_icmp_gt (tgt := 38) hx hb dX6_byQuotientsTo_9 (by decide) (fun c9 => ?_) (fun c9 => ?_)
      · replace h := zif_t h c9
        exact hGW _ _ _ _ _ (HX0 v4_0 v6_0 _ _ ls hP hD hS (lv_sub hl [0, 1, 2, 3, 4, 5] rfl) h)
      · replace h := zif_f h c9
        refine lv_lload hx hb dX6_byQuotientsTo_12 (lv_at hl 4 rfl) ?_
        refine lv_aload_n hx hb dX6_byQuotientsTo_14 rfl (lv_at hl 1 rfl) ?_
        refine lv_iload hx hb dX6_byQuotientsTo_15 (lv_at hl 5 rfl) ?_
        obtain ⟨r1, e2, h⟩ := zb1_some h
        refine zgol (va_runV (As := [.int v6_0]) (rest := [.long v4_0]) ⟨hx, hb, hml, hown, hts⟩ (c_X4_at l D a cJ cI cO cB R b pr tm cn sm ac re kn p1 v6_0 hp1 r1 e2 H.size) (cwV 1 hts gX6_byQuotientsTo_X4_at rfl rfl rfl hdV_X4_at ⟨Nat.le_of_ble_eq_true rfl, Nat.le_of_ble_eq_true rfl⟩) (zpreV (q0 := 2 + p1) (ci := 6) (T := TX4) (N := 1) hK hP hD (cW_row hp1) rfl [.int v6_0]) rfl rfl hl.1 rfl (lv_room (Nat.le_of_ble_eq_true rfl)) dX6_byQuotientsTo_17 ⟨Nat.le_of_ble_eq_true rfl, Nat.le_of_ble_eq_true rfl⟩) (zfree hD hS hA) (zjW hD hS hA) hS (fun H locs hP hD hS => ?_)
        replace hP : va_P D vwCl (cW a cJ cI cO R b pr tm cn sm ac re kn) H := hP
        replace hD : va_D A (cW a cJ cI cO R b pr tm cn sm ac re kn) := hD
        refine lv_aload_n hx hb dX6_byQuotientsTo_20 rfl (lv_at hl 2 rfl) ?_
        refine lv_iload_n hx hb dX6_byQuotientsTo_21 rfl (lv_at hl 3 rfl) ?_
        refine lv_iload hx hb dX6_byQuotientsTo_22 (lv_at hl 5 rfl) ?_
        obtain ⟨z24, h⟩ := zg_some h
        refine lv_idiv hx hb dX6_byQuotientsTo_24 z24 ?_
        obtain ⟨r3, e4, h⟩ := zb1_some h
        refine zgol (va_runV (As := [.int (p3 / v6_0)]) (rest := [.long r1, .long v4_0]) ⟨hx, hb, hml, hown, hts⟩ (c_X4_totalTo l D a cJ cI cO cB R b pr tm cn sm ac re kn F p2 (p3 / v6_0) hp2 r3 e4 H.size) (cwV 1 hts gX6_byQuotientsTo_X4_totalTo rfl rfl rfl hdV_X4_totalTo ⟨Nat.le_of_ble_eq_true rfl, Nat.le_of_ble_eq_true rfl⟩) (zpreV (q0 := 2 + p2) (ci := 6) (T := TX4) (N := 1) hK hP hD (cW_row hp2) rfl [.int (p3 / v6_0)]) rfl rfl hl.1 rfl (lv_room (Nat.le_of_ble_eq_true rfl)) dX6_byQuotientsTo_25 ⟨Nat.le_of_ble_eq_true rfl, Nat.le_of_ble_eq_true rfl⟩) (zfree hD hS hA) (zjW hD hS hA) hS (fun H locs hP hD hS => ?_)
        replace hP : va_P D vwCl (cW a cJ cI cO R b pr tm cn sm ac re kn) H := hP
        replace hD : va_D A (cW a cJ cI cO R b pr tm cn sm ac re kn) := hD
        refine lv_lmul hx hb dX6_byQuotientsTo_28 ?_
        refine lv_ladd hx hb dX6_byQuotientsTo_29 ?_
        refine lv_lstore (lv' := [(4, .long (v4_0 + (r1 * r3))), (0, .int p0), (1, .ref (a (2 + p1))), (2, .ref (a (2 + p2))), (3, .int p3), (6, .int v6_0)]) hx hb dX6_byQuotientsTo_30 hl (by decide) rfl (fun ls hl => ?_)
        refine lv_iinc (v := (v6_0 + (1 : Int32))) (lv' := [(6, .int (v6_0 + (1 : Int32))), (4, .long (v4_0 + (r1 * r3))), (0, .int p0), (1, .ref (a (2 + p1))), (2, .ref (a (2 + p2))), (3, .int p3)]) hx hb dX6_byQuotientsTo_32 hl (k := 5) rfl rfl (by decide) rfl (fun ls hl => ?_)
        refine lv_goto (tgt := 6) hx hb dX6_byQuotientsTo_35 (by decide) ?_
        exact hGW _ _ _ _ _ (ih0 (v4_0 + (r1 * r3)) (v6_0 + (1 : Int32)) _ _ ls hP hD hS (lv_sub hl [2, 3, 4, 5, 1, 0] rfl) h)
  exact hGW _ _ _ _ _ (L0 _ X0 F (0 : Int64) (1 : Int32) _ _ ls hP hD hS (lv_sub hl [2, 3, 4, 5, 1, 0] rfl) h)

noncomputable def p_X6_byQuotients (F : Nat) (R : Nat → Nat → Int64) (p0 : Nat) (p1 : Nat) (p2 : Int32) : Option Int64 := (zb1 (p_X6_byQuotientsTo F R p2 p0 p1 p2) (fun r1 => (some r1)))
theorem hdS_X6_byQuotients : yX6_byQuotients.cls ≠ "java/lang/invoke/MethodHandle" ∧ yX6_byQuotients.cls ≠ "java/lang/invoke/VarHandle" ∧ (parseMethodDescriptor yX6_byQuotients.desc).map (fun d => d.parameters.length) = some 3 := by decide +kernel
set_option maxHeartbeats 4000000 in
set_option maxRecDepth 100000 in
theorem c_X6_byQuotients (l : Launch) (D : va_G) (a : Nat → Nat) (cJ cI cO cB : ClassId) (R : Nat → Nat → Int64) (b : Bool) (pr : Nat → Int32) (tm : Nat → Int32) (cn : Int32) (sm : Nat → Int32) (ac : Int32) (re : Int32) (kn : Int32) (F : Nat) (p0 : Nat) (p1 : Nat) (p2 : Int32) (hp0 : p0 < 6) (hp1 : p1 < 6) (r : Int64) (h : p_X6_byQuotients F R p0 p1 p2 = some r) : zMl l yX6_byQuotients wsX6_byQuotients 3 71 0 0 D (zT cJ cI cO cB) [.ref (a (2 + p0)), .ref (a (2 + p1)), .int p2] (cW a cJ cI cO R b pr tm cn sm ac re kn) (cW a cJ cI cO R b pr tm cn sm ac re kn) r := by
  intro sz
  delta zQl
  refine Met.ofW (cc := cX6_byQuotients) (maxL := 3) (ret := (some .long)) (by decide) rfl ?_
  intro p e s m args below meth c s₁ B hml hv
  obtain ⟨rfl, hsz, hP, hK, hD0⟩ := hv
  have hx := B.exec
  have hb := B.bytes
  have hr := B.returns
  have hts := atoms_spec (ws := wsX6_byQuotients) B.pre
  have hown : s.vm.findClass RX6 = some m.cls := findClass_of_methodNamed B.named
  have hlocks := B.notSynchronized
  subst hsz
  have hD := hD0.self (sz := s.heap.size)
  generalize hAe : va_A (cW a cJ cI cO R b pr tm cn sm ac re kn) s.heap.size = A at hD ⊢
  have hA : ∀ q : Nat, s.heap.size ≤ q → A q := fun q h => by rw [← hAe]; exact Or.inr h
  have hS : va_S A s.heap s.heap [] := va_S.rf
  have hl := lv_entry ([.ref (a (2 + p0)), .ref (a (2 + p1)), .int p2]) (n := 3) (Nat.le_of_ble_eq_true rfl)
  rw [lg_entry_eq]
  generalize (lg_sl ([.ref (a (2 + p0)), .ref (a (2 + p1)), .int p2]) ++ List.replicate (3 - (lg_sl ([.ref (a (2 + p0)), .ref (a (2 + p1)), .int p2])).length) Slot.unset).toArray = ls at hl ⊢
  replace hl : lv_has ls 3 [(0, .ref (a (2 + p0))), (1, .ref (a (2 + p1))), (2, .int p2)] := hl
  replace h : (zb1 (p_X6_byQuotientsTo F R p2 p0 p1 p2) (fun r1 => (some r1))) = some r := h
  obtain ⟨H, hHe⟩ : ∃ H, H = s.heap := ⟨_, rfl⟩
  rw [← hHe] at hP
  replace hS : va_S A s.heap H [] := by rw [hHe]; exact hS
  refine zheap hHe ?_
  refine lv_iload_n hx hb dX6_byQuotients_0 rfl (lv_at hl 2 rfl) ?_
  refine lv_aload_n hx hb dX6_byQuotients_1 rfl (lv_at hl 0 rfl) ?_
  refine lv_aload_n hx hb dX6_byQuotients_2 rfl (lv_at hl 1 rfl) ?_
  refine lv_iload_n hx hb dX6_byQuotients_3 rfl (lv_at hl 2 rfl) ?_
  obtain ⟨r1, e2, h⟩ := zb1_some h
  refine zgol (va_runS (As := [.int p2, .ref (a (2 + p0)), .ref (a (2 + p1)), .int p2]) (rest := []) ⟨hx, hb, hml, hown, hts⟩ (c_X6_byQuotientsTo l D a cJ cI cO cB R b pr tm cn sm ac re kn F p2 p0 p1 p2 hp0 hp1 r1 e2 H.size) (va_cwS 4 hts gX6_byQuotients_X6_byQuotientsTo rfl rfl rfl hdS_X6_byQuotientsTo ⟨Nat.le_of_ble_eq_true rfl, Nat.le_of_ble_eq_true rfl⟩) (zpreS hK hP hD [.int p2, .ref (a (2 + p0)), .ref (a (2 + p1)), .int p2]) rfl rfl hl.1 rfl (lv_room (Nat.le_of_ble_eq_true rfl)) dX6_byQuotients_4 ⟨Nat.le_of_ble_eq_true rfl, Nat.le_of_ble_eq_true rfl⟩) (zfree hD hS hA) (zjW hD hS hA) hS (fun H locs hP hD hS => ?_)
  replace hP : va_P D vwCl (cW a cJ cI cO R b pr tm cn sm ac re kn) H := hP
  replace hD : va_D A (cW a cJ cI cO R b pr tm cn sm ac re kn) := hD
  have h1 := Option.some.inj h
  subst h1
  exact W.lret (v := r1) hx hb hr (fun t ht hW => ⟨⟨r1, (), rfl, rfl, by rw [ht]; exact hP, va_K.moved hW.alike hK, hD⟩, hS.F ht⟩) hS.2.2 dX6_byQuotients_7

noncomputable def p_X6_byRoot_L0 (F : Nat) (p2 : Int32) (k : Int32 → Option Int64) : Nat → Int32 → Option Int64
  | 0, _ => none
  | n + 1, v3_0 => (if (31 : Int32) ≤ v3_0 then (k v3_0) else (if p2 < ((v3_0 + (1 : Int32)) * (v3_0 + (1 : Int32))) then (k v3_0) else (p_X6_byRoot_L0 F p2 k n (v3_0 + (1 : Int32)))))
noncomputable def p_X6_byRoot (F : Nat) (R : Nat → Nat → Int64) (p0 : Nat) (p1 : Nat) (p2 : Int32) : Option Int64 := (p_X6_byRoot_L0 F p2 (fun v3_0 => (zb1 (p_X6_byQuotientsTo F R v3_0 p0 p1 p2) (fun r1 => (zb1 (p_X6_byQuotientsTo F R v3_0 p1 p0 p2) (fun r3 => (zb1 (p_X4_totalTo F R p0 v3_0) (fun r5 => (zb1 (p_X4_totalTo F R p1 v3_0) (fun r7 => (some ((r1 + r3) - (r5 * r7)))))))))))) F (0 : Int32))
theorem hdS_X6_byRoot : yX6_byRoot.cls ≠ "java/lang/invoke/MethodHandle" ∧ yX6_byRoot.cls ≠ "java/lang/invoke/VarHandle" ∧ (parseMethodDescriptor yX6_byRoot.desc).map (fun d => d.parameters.length) = some 3 := by decide +kernel
set_option maxHeartbeats 4000000 in
set_option maxRecDepth 100000 in
theorem c_X6_byRoot (l : Launch) (D : va_G) (a : Nat → Nat) (cJ cI cO cB : ClassId) (R : Nat → Nat → Int64) (b : Bool) (pr : Nat → Int32) (tm : Nat → Int32) (cn : Int32) (sm : Nat → Int32) (ac : Int32) (re : Int32) (kn : Int32) (F : Nat) (p0 : Nat) (p1 : Nat) (p2 : Int32) (hp0 : p0 < 6) (hp1 : p1 < 6) (r : Int64) (h : p_X6_byRoot F R p0 p1 p2 = some r) : zMl l yX6_byRoot wsX6_byRoot 3 71 0 0 D (zT cJ cI cO cB) [.ref (a (2 + p0)), .ref (a (2 + p1)), .int p2] (cW a cJ cI cO R b pr tm cn sm ac re kn) (cW a cJ cI cO R b pr tm cn sm ac re kn) r := by
  intro sz
  delta zQl
  refine Met.ofW (cc := cX6_byRoot) (maxL := 4) (ret := (some .long)) (by decide) rfl ?_
  intro p e s m args below meth c s₁ B hml hv
  obtain ⟨rfl, hsz, hP, hK, hD0⟩ := hv
  have hx := B.exec
  have hb := B.bytes
  have hr := B.returns
  have hts := atoms_spec (ws := wsX6_byRoot) B.pre
  have hown : s.vm.findClass RX6 = some m.cls := findClass_of_methodNamed B.named
  have hlocks := B.notSynchronized
  subst hsz
  have hD := hD0.self (sz := s.heap.size)
  generalize hAe : va_A (cW a cJ cI cO R b pr tm cn sm ac re kn) s.heap.size = A at hD ⊢
  have hA : ∀ q : Nat, s.heap.size ≤ q → A q := fun q h => by rw [← hAe]; exact Or.inr h
  have hS : va_S A s.heap s.heap [] := va_S.rf
  have hl := lv_entry ([.ref (a (2 + p0)), .ref (a (2 + p1)), .int p2]) (n := 4) (Nat.le_of_ble_eq_true rfl)
  rw [lg_entry_eq]
  generalize (lg_sl ([.ref (a (2 + p0)), .ref (a (2 + p1)), .int p2]) ++ List.replicate (4 - (lg_sl ([.ref (a (2 + p0)), .ref (a (2 + p1)), .int p2])).length) Slot.unset).toArray = ls at hl ⊢
  replace hl : lv_has ls 4 [(0, .ref (a (2 + p0))), (1, .ref (a (2 + p1))), (2, .int p2)] := hl
  replace h : (p_X6_byRoot_L0 F p2 (fun v3_0 => (zb1 (p_X6_byQuotientsTo F R v3_0 p0 p1 p2) (fun r1 => (zb1 (p_X6_byQuotientsTo F R v3_0 p1 p0 p2) (fun r3 => (zb1 (p_X4_totalTo F R p0 v3_0) (fun r5 => (zb1 (p_X4_totalTo F R p1 v3_0) (fun r7 => (some ((r1 + r3) - (r5 * r7)))))))))))) F (0 : Int32)) = some r := h
  refine zabs (fun G hG hGW => ?_)
  obtain ⟨H, hHe⟩ : ∃ H, H = s.heap := ⟨_, rfl⟩
  rw [← hHe] at hP
  replace hS : va_S A s.heap H [] := by rw [hHe]; exact hS
  refine zheap hHe ?_
  refine lv_iconst (v := (0 : Int32)) hx hb dX6_byRoot_0 (by decide) ?_
  refine lv_istore_n (lv' := [(3, .int (0 : Int32)), (0, .ref (a (2 + p0))), (1, .ref (a (2 + p1))), (2, .int p2)]) hx hb dX6_byRoot_1 rfl hl (by decide) rfl (fun ls hl => ?_)
  have X0 : ∀ (v3_0 : Int32) (H : Heap) (locs : List Loc) (ls : Array Slot), va_P D vwCl (cW a cJ cI cO R b pr tm cn sm ac re kn) H → va_D A (cW a cJ cI cO R b pr tm cn sm ac re kn) → va_S A s.heap H locs → lv_has ls 4 [(0, .ref (a (2 + p0))), (1, .ref (a (2 + p1))), (2, .int p2), (3, .int v3_0)] → (zb1 (p_X6_byQuotientsTo F R v3_0 p0 p1 p2) (fun r1 => (zb1 (p_X6_byQuotientsTo F R v3_0 p1 p0 p2) (fun r3 => (zb1 (p_X4_totalTo F R p0 v3_0) (fun r5 => (zb1 (p_X4_totalTo F R p1 v3_0) (fun r7 => (some ((r1 + r3) - (r5 * r7))))))))))) = some r → G H locs 0 0 (F0 m 25 ls []) := by
    intro v3_0 H locs ls hP hD hS hl h
    refine hG _ _ _ _ _ ?_
    refine lv_iload_n hx hb dX6_byRoot_25 rfl (lv_at hl 3 rfl) ?_
    refine lv_aload_n hx hb dX6_byRoot_26 rfl (lv_at hl 0 rfl) ?_
    refine lv_aload_n hx hb dX6_byRoot_27 rfl (lv_at hl 1 rfl) ?_
    refine lv_iload_n hx hb dX6_byRoot_28 rfl (lv_at hl 2 rfl) ?_
    obtain ⟨r1, e2, h⟩ := zb1_some h
    refine zgol (va_runS (As := [.int v3_0, .ref (a (2 + p0)), .ref (a (2 + p1)), .int p2]) (rest := []) ⟨hx, hb, hml, hown, hts⟩ (c_X6_byQuotientsTo l D a cJ cI cO cB R b pr tm cn sm ac re kn F v3_0 p0 p1 p2 hp0 hp1 r1 e2 H.size) (va_cwS 4 hts gX6_byRoot_X6_byQuotientsTo rfl rfl rfl hdS_X6_byQuotientsTo ⟨Nat.le_of_ble_eq_true rfl, Nat.le_of_ble_eq_true rfl⟩) (zpreS hK hP hD [.int v3_0, .ref (a (2 + p0)), .ref (a (2 + p1)), .int p2]) rfl rfl hl.1 rfl (lv_room (Nat.le_of_ble_eq_true rfl)) dX6_byRoot_29 ⟨Nat.le_of_ble_eq_true rfl, Nat.le_of_ble_eq_true rfl⟩) (zfree hD hS hA) (zjW hD hS hA) hS (fun H locs hP hD hS => ?_)
    replace hP : va_P D vwCl (cW a cJ cI cO R b pr tm cn sm ac re kn) H := hP
    replace hD : va_D A (cW a cJ cI cO R b pr tm cn sm ac re kn) := hD
    refine lv_iload_n hx hb dX6_byRoot_32 rfl (lv_at hl 3 rfl) ?_
    refine lv_aload_n hx hb dX6_byRoot_33 rfl (lv_at hl 1 rfl) ?_
    refine lv_aload_n hx hb dX6_byRoot_34 rfl (lv_at hl 0 rfl) ?_
    refine lv_iload_n hx hb dX6_byRoot_35 rfl (lv_at hl 2 rfl) ?_
    obtain ⟨r3, e4, h⟩ := zb1_some h
    refine zgol (va_runS (As := [.int v3_0, .ref (a (2 + p1)), .ref (a (2 + p0)), .int p2]) (rest := [.long r1]) ⟨hx, hb, hml, hown, hts⟩ (c_X6_byQuotientsTo l D a cJ cI cO cB R b pr tm cn sm ac re kn F v3_0 p1 p0 p2 hp1 hp0 r3 e4 H.size) (va_cwS 4 hts gX6_byRoot_X6_byQuotientsTo rfl rfl rfl hdS_X6_byQuotientsTo ⟨Nat.le_of_ble_eq_true rfl, Nat.le_of_ble_eq_true rfl⟩) (zpreS hK hP hD [.int v3_0, .ref (a (2 + p1)), .ref (a (2 + p0)), .int p2]) rfl rfl hl.1 rfl (lv_room (Nat.le_of_ble_eq_true rfl)) dX6_byRoot_36 ⟨Nat.le_of_ble_eq_true rfl, Nat.le_of_ble_eq_true rfl⟩) (zfree hD hS hA) (zjW hD hS hA) hS (fun H locs hP hD hS => ?_)
    replace hP : va_P D vwCl (cW a cJ cI cO R b pr tm cn sm ac re kn) H := hP
    replace hD : va_D A (cW a cJ cI cO R b pr tm cn sm ac re kn) := hD
    refine lv_ladd hx hb dX6_byRoot_39 ?_
    refine lv_aload_n hx hb dX6_byRoot_40 rfl (lv_at hl 0 rfl) ?_
    refine lv_iload_n hx hb dX6_byRoot_41 rfl (lv_at hl 3 rfl) ?_
    obtain ⟨r5, e6, h⟩ := zb1_some h
    refine zgol (va_runV (As := [.int v3_0]) (rest := [.long (r1 + r3)]) ⟨hx, hb, hml, hown, hts⟩ (c_X4_totalTo l D a cJ cI cO cB R b pr tm cn sm ac re kn F p0 v3_0 hp0 r5 e6 H.size) (cwV 1 hts gX6_byRoot_X4_totalTo rfl rfl rfl hdV_X4_totalTo ⟨Nat.le_of_ble_eq_true rfl, Nat.le_of_ble_eq_true rfl⟩) (zpreV (q0 := 2 + p0) (ci := 6) (T := TX4) (N := 1) hK hP hD (cW_row hp0) rfl [.int v3_0]) rfl rfl hl.1 rfl (lv_room (Nat.le_of_ble_eq_true rfl)) dX6_byRoot_42 ⟨Nat.le_of_ble_eq_true rfl, Nat.le_of_ble_eq_true rfl⟩) (zfree hD hS hA) (zjW hD hS hA) hS (fun H locs hP hD hS => ?_)
    replace hP : va_P D vwCl (cW a cJ cI cO R b pr tm cn sm ac re kn) H := hP
    replace hD : va_D A (cW a cJ cI cO R b pr tm cn sm ac re kn) := hD
    refine lv_aload_n hx hb dX6_byRoot_45 rfl (lv_at hl 1 rfl) ?_
    refine lv_iload_n hx hb dX6_byRoot_46 rfl (lv_at hl 3 rfl) ?_
    obtain ⟨r7, e8, h⟩ := zb1_some h
    refine zgol (va_runV (As := [.int v3_0]) (rest := [.long r5, .long (r1 + r3)]) ⟨hx, hb, hml, hown, hts⟩ (c_X4_totalTo l D a cJ cI cO cB R b pr tm cn sm ac re kn F p1 v3_0 hp1 r7 e8 H.size) (cwV 1 hts gX6_byRoot_X4_totalTo rfl rfl rfl hdV_X4_totalTo ⟨Nat.le_of_ble_eq_true rfl, Nat.le_of_ble_eq_true rfl⟩) (zpreV (q0 := 2 + p1) (ci := 6) (T := TX4) (N := 1) hK hP hD (cW_row hp1) rfl [.int v3_0]) rfl rfl hl.1 rfl (lv_room (Nat.le_of_ble_eq_true rfl)) dX6_byRoot_47 ⟨Nat.le_of_ble_eq_true rfl, Nat.le_of_ble_eq_true rfl⟩) (zfree hD hS hA) (zjW hD hS hA) hS (fun H locs hP hD hS => ?_)
    replace hP : va_P D vwCl (cW a cJ cI cO R b pr tm cn sm ac re kn) H := hP
    replace hD : va_D A (cW a cJ cI cO R b pr tm cn sm ac re kn) := hD
    refine lv_lmul hx hb dX6_byRoot_50 ?_
    refine lv_lsub hx hb dX6_byRoot_51 ?_
    have h1 := Option.some.inj h
    subst h1
    exact W.lret (v := ((r1 + r3) - (r5 * r7))) hx hb hr (fun t ht hW => ⟨⟨((r1 + r3) - (r5 * r7)), (), rfl, rfl, by rw [ht]; exact hP, va_K.moved hW.alike hK, hD⟩, hS.F ht⟩) hS.2.2 dX6_byRoot_52
  have L0 : ∀ (K0 : Int32 → Option Int64) (HX0 : ∀ (v3_0 : Int32) (H : Heap) (locs : List Loc) (ls : Array Slot), va_P D vwCl (cW a cJ cI cO R b pr tm cn sm ac re kn) H → va_D A (cW a cJ cI cO R b pr tm cn sm ac re kn) → va_S A s.heap H locs → lv_has ls 4 [(0, .ref (a (2 + p0))), (1, .ref (a (2 + p1))), (2, .int p2), (3, .int v3_0)] → K0 v3_0 = some r → G H locs 0 0 (F0 m 25 ls [])) (fu0 : Nat) (v3_0 : Int32) (H : Heap) (locs : List Loc) (ls : Array Slot), va_P D vwCl (cW a cJ cI cO R b pr tm cn sm ac re kn) H → va_D A (cW a cJ cI cO R b pr tm cn sm ac re kn) → va_S A s.heap H locs → lv_has ls 4 [(0, .ref (a (2 + p0))), (1, .ref (a (2 + p1))), (2, .int p2), (3, .int v3_0)] → p_X6_byRoot_L0 F p2 K0 fu0 v3_0 = some r → G H locs 0 0 (F0 m 2 ls []) := by
    intro K0 HX0 fu0
    induction fu0 with
    | zero =>
      intro v3_0 H locs ls hP hD hS hl h
      exact (zno h).elim
    | succ fu0 ih0 =>
      intro v3_0 H locs ls hP hD hS hl h
      refine hG _ _ _ _ _ ?_
      unfold p_X6_byRoot_L0 at h
      refine lv_iload_n hx hb dX6_byRoot_2 rfl (lv_at hl 3 rfl) ?_
      refine lv_bipush (v := (31 : Int32)) hx hb dX6_byRoot_3 (by decide) ?_
      refine lv_icmp_ge (tgt := 25) hx hb dX6_byRoot_5 (by decide) (fun c5 => ?_) (fun c5 => ?_)
      · replace h := zif_t h c5
        exact hGW _ _ _ _ _ (HX0 v3_0 _ _ ls hP hD hS (lv_sub hl [0, 1, 2, 3] rfl) h)
      · replace h := zif_f h c5
        refine lv_iload_n hx hb dX6_byRoot_8 rfl (lv_at hl 3 rfl) ?_
        refine lv_iconst (v := (1 : Int32)) hx hb dX6_byRoot_9 (by decide) ?_
        refine lv_iadd hx hb dX6_byRoot_10 ?_
        refine lv_iload_n hx hb dX6_byRoot_11 rfl (lv_at hl 3 rfl) ?_
        refine lv_iconst (v := (1 : Int32)) hx hb dX6_byRoot_12 (by decide) ?_
        refine lv_iadd hx hb dX6_byRoot_13 ?_
        refine lv_imul hx hb dX6_byRoot_14 ?_
        refine lv_iload_n hx hb dX6_byRoot_15 rfl (lv_at hl 2 rfl) ?_
        refine lv_icmp_gt (tgt := 25) hx hb dX6_byRoot_16 (by decide) (fun c16 => ?_) (fun c16 => ?_)
        · replace h := zif_t h c16
          exact hGW _ _ _ _ _ (HX0 v3_0 _ _ ls hP hD hS (lv_sub hl [0, 1, 2, 3] rfl) h)
        · replace h := zif_f h c16
          refine lv_iinc (v := (v3_0 + (1 : Int32))) (lv' := [(3, .int (v3_0 + (1 : Int32))), (0, .ref (a (2 + p0))), (1, .ref (a (2 + p1))), (2, .int p2)]) hx hb dX6_byRoot_19 hl (k := 3) rfl rfl (by decide) rfl (fun ls hl => ?_)
          refine lv_goto (tgt := 2) hx hb dX6_byRoot_22 (by decide) ?_
          exact hGW _ _ _ _ _ (ih0 (v3_0 + (1 : Int32)) _ _ ls hP hD hS (lv_sub hl [1, 2, 3, 0] rfl) h)
  exact hGW _ _ _ _ _ (L0 _ X0 F (0 : Int32) _ _ ls hP hD hS (lv_sub hl [1, 2, 3, 0] rfl) h)
