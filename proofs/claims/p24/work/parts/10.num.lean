noncomputable def p_X1_signByPowers_L0 (F : Nat) (tm_2 : Nat → Int32) (cn_3 : Int32) (k : Int32 → Int32 → Option (Int32 × (Nat → Int32) × (Nat → Int32) × Int32)) : Nat → Int32 → Int32 → Option (Int32 × (Nat → Int32) × (Nat → Int32) × Int32)
  | 0, _, _ => none
  | n + 1, v2_0, v3_0 => (zb1 (p_X2_count cn_3) (fun r5 => (if r5 ≤ v3_0 then (k v2_0 v3_0) else (zb1 (p_X2_timesAt tm_2 v3_0) (fun r7 => (if r7 < (2 : Int32) then (p_X1_signByPowers_L0 F tm_2 cn_3 k n (-v2_0) (v3_0 + (1 : Int32))) else (p_X1_signByPowers_L0 F tm_2 cn_3 k n (0 : Int32) (v3_0 + (1 : Int32)))))))))
noncomputable def p_X1_signByPowers (F : Nat) (pr : Nat → Int32) (tm : Nat → Int32) (p0 : Int32) : Option (Int32 × (Nat → Int32) × (Nat → Int32) × Int32) := (zb3 (p_X2_lay F pr tm p0) (fun pr_1 tm_2 cn_3 => (p_X1_signByPowers_L0 F tm_2 cn_3 (fun v2_0 v3_0 => (some (v2_0, pr_1, tm_2, cn_3))) F (1 : Int32) (0 : Int32))))
theorem hdV_X1_signByPowers : yX1_signByPowers.cls = RX1 ∧ yX1_signByPowers.cls ≠ "java/lang/invoke/MethodHandle" ∧ yX1_signByPowers.cls ≠ "java/lang/invoke/VarHandle" ∧ (parseMethodDescriptor yX1_signByPowers.desc).map (fun d => d.parameters.length) = some 1 := by decide +kernel
set_option maxHeartbeats 4000000 in
set_option maxRecDepth 100000 in
theorem c_X1_signByPowers (l : Launch) (D : va_G) (a : Nat → Nat) (cJ cI cO cB : ClassId) (R : Nat → Nat → Int64) (b : Bool) (pr : Nat → Int32) (tm : Nat → Int32) (cn : Int32) (sm : Nat → Int32) (ac : Int32) (re : Int32) (kn : Int32) (F : Nat) (p0 : Int32) (r : Int32) (pr' : Nat → Int32) (tm' : Nat → Int32) (cn' : Int32) (h : p_X1_signByPowers F pr tm p0 = some (r, pr', tm', cn')) : zMi l yX1_signByPowers wsX1_signByPowers 1 24 0 0 D (zT cJ cI cO cB) [.ref (a 15), .int p0] (cW a cJ cI cO R b pr tm cn sm ac re kn) (cW a cJ cI cO R b pr' tm' cn' sm ac re kn) r := by
  intro sz
  delta zQi
  refine Met.ofW (cc := cX1_signByPowers) (maxL := 4) (ret := (some .int)) (by decide) rfl ?_
  intro p e s m args below meth c s₁ B hml hv
  obtain ⟨rfl, hsz, hP, hK, hD0⟩ := hv
  have hx := B.exec
  have hb := B.bytes
  have hr := B.returns
  have hts := atoms_spec (ws := wsX1_signByPowers) B.pre
  have hown : s.vm.findClass RX1 = some m.cls := findClass_of_methodNamed B.named
  have hlocks := B.notSynchronized
  subst hsz
  have hD := hD0.self (sz := s.heap.size)
  generalize hAe : va_A (cW a cJ cI cO R b pr tm cn sm ac re kn) s.heap.size = A at hD ⊢
  have hA : ∀ q : Nat, s.heap.size ≤ q → A q := fun q h => by rw [← hAe]; exact Or.inr h
  have hS : va_S A s.heap s.heap [] := va_S.rf
  have hl := lv_entry ([.ref (a 15), .int p0]) (n := 4) (Nat.le_of_ble_eq_true rfl)
  rw [lg_entry_eq]
  generalize (lg_sl ([.ref (a 15), .int p0]) ++ List.replicate (4 - (lg_sl ([.ref (a 15), .int p0])).length) Slot.unset).toArray = ls at hl ⊢
  replace hl : lv_has ls 4 [(0, .ref (a 15)), (1, .int p0)] := hl
  have kwX1 : ∀ w ∈ u_ws RX1 TX1 2, w ∈ wsX1_signByPowers := fun w h => List.mem_cons_of_mem _ (List.mem_append_left _ (List.mem_append_left _ (List.mem_append_left _ (List.mem_append_right _ h))))
  have kf_12 := hts (.fieldLink RX1 12 "Divisorwork$Numbers" "powers" "LDivisorwork$Powers;") (zmem 1 rfl)
  replace h : (zb3 (p_X2_lay F pr tm p0) (fun pr_1 tm_2 cn_3 => (p_X1_signByPowers_L0 F tm_2 cn_3 (fun v2_0 v3_0 => (some (v2_0, pr_1, tm_2, cn_3))) F (1 : Int32) (0 : Int32)))) = some (r, pr', tm', cn') := h
  refine zabs (fun G hG hGW => ?_)
  obtain ⟨H, hHe⟩ : ∃ H, H = s.heap := ⟨_, rfl⟩
  rw [← hHe] at hP
  replace hS : va_S A s.heap H [] := by rw [hHe]; exact hS
  refine zheap hHe ?_
  refine lv_aload_n hx hb dX1_signByPowers_0 rfl (lv_at hl 0 rfl) ?_
  refine va_get (D := D) (ci := 3) (v := .ref (a 17)) (C := RX1) (T := TX1) (N := 2) hx hb hts kwX1 hown hK hP 15 rfl rfl 0 (by decide) kf_12 (fun _ h9 => h9) rfl dX1_signByPowers_1 ?_
  refine lv_iload_n hx hb dX1_signByPowers_4 rfl (lv_at hl 1 rfl) ?_
  obtain ⟨pr_1, tm_2, cn_3, e4, h⟩ := zb3_some h
  refine zgov (va_runV (As := [.int p0]) (rest := []) ⟨hx, hb, hml, hown, hts⟩ (c_X2_lay l D a cJ cI cO cB R b pr tm cn sm ac re kn F p0 pr_1 tm_2 cn_3 e4 H.size) (cwV 1 hts gX1_signByPowers_X2_lay rfl rfl rfl hdV_X2_lay ⟨Nat.le_of_ble_eq_true rfl, Nat.le_of_ble_eq_true rfl⟩) (zpreV (q0 := 17) (ci := 4) (T := TX2) (N := 3) hK hP hD rfl rfl [.int p0]) rfl rfl hl.1 rfl (lv_room (Nat.le_of_ble_eq_true rfl)) dX1_signByPowers_5 ⟨Nat.le_of_ble_eq_true rfl, Nat.le_of_ble_eq_true rfl⟩) (zfree hD hS hA) (zjW hD hS hA) hS (fun H locs hP hD hS => ?_)
  replace hP : va_P D vwCl (cW a cJ cI cO R b pr_1 tm_2 cn_3 sm ac re kn) H := hP
  replace hD : va_D A (cW a cJ cI cO R b pr_1 tm_2 cn_3 sm ac re kn) := hD
  refine lv_iconst (v := (1 : Int32)) hx hb dX1_signByPowers_8 (by decide) ?_
  refine lv_istore_n (lv' := [(2, .int (1 : Int32)), (0, .ref (a 15)), (1, .int p0)]) hx hb dX1_signByPowers_9 rfl hl (by decide) rfl (fun ls hl => ?_)
  refine lv_iconst (v := (0 : Int32)) hx hb dX1_signByPowers_10 (by decide) ?_
  refine lv_istore_n (lv' := [(3, .int (0 : Int32)), (2, .int (1 : Int32)), (0, .ref (a 15)), (1, .int p0)]) hx hb dX1_signByPowers_11 rfl hl (by decide) rfl (fun ls hl => ?_)
  have X0 : ∀ (v2_0 : Int32) (v3_0 : Int32) (H : Heap) (locs : List Loc) (ls : Array Slot), va_P D vwCl (cW a cJ cI cO R b pr_1 tm_2 cn_3 sm ac re kn) H → va_D A (cW a cJ cI cO R b pr_1 tm_2 cn_3 sm ac re kn) → va_S A s.heap H locs → lv_has ls 4 [(0, .ref (a 15)), (1, .int p0), (2, .int v2_0), (3, .int v3_0)] → (some (v2_0, pr_1, tm_2, cn_3)) = some (r, pr', tm', cn') → G H locs 0 0 (F0 m 48 ls []) := by
    intro v2_0 v3_0 H locs ls hP hD hS hl h
    refine hG _ _ _ _ _ ?_
    refine lv_iload_n hx hb dX1_signByPowers_48 rfl (lv_at hl 2 rfl) ?_
    have g0 := Option.some.inj h
    obtain ⟨h1, g1⟩ := Prod.mk.inj g0
    obtain ⟨h2, g2⟩ := Prod.mk.inj g1
    obtain ⟨h3, g3⟩ := Prod.mk.inj g2
    subst h1
    subst h2
    subst h3
    subst g3
    exact W.iret (v := v2_0) hx hb hr (fun t ht hW => ⟨⟨v2_0, (), rfl, rfl, by rw [ht]; exact hP, va_K.moved hW.alike hK, hD⟩, hS.F ht⟩) hS.2.2 dX1_signByPowers_49
  have L0 : ∀ (K0 : Int32 → Int32 → Option (Int32 × (Nat → Int32) × (Nat → Int32) × Int32)) (HX0 : ∀ (v2_0 : Int32) (v3_0 : Int32) (H : Heap) (locs : List Loc) (ls : Array Slot), va_P D vwCl (cW a cJ cI cO R b pr_1 tm_2 cn_3 sm ac re kn) H → va_D A (cW a cJ cI cO R b pr_1 tm_2 cn_3 sm ac re kn) → va_S A s.heap H locs → lv_has ls 4 [(0, .ref (a 15)), (1, .int p0), (2, .int v2_0), (3, .int v3_0)] → K0 v2_0 v3_0 = some (r, pr', tm', cn') → G H locs 0 0 (F0 m 48 ls [])) (fu0 : Nat) (v2_0 : Int32) (v3_0 : Int32) (H : Heap) (locs : List Loc) (ls : Array Slot), va_P D vwCl (cW a cJ cI cO R b pr_1 tm_2 cn_3 sm ac re kn) H → va_D A (cW a cJ cI cO R b pr_1 tm_2 cn_3 sm ac re kn) → va_S A s.heap H locs → lv_has ls 4 [(0, .ref (a 15)), (1, .int p0), (2, .int v2_0), (3, .int v3_0)] → p_X1_signByPowers_L0 F tm_2 cn_3 K0 fu0 v2_0 v3_0 = some (r, pr', tm', cn') → G H locs 0 0 (F0 m 12 ls []) := by
    intro K0 HX0 fu0
    induction fu0 with
    | zero =>
      intro v2_0 v3_0 H locs ls hP hD hS hl h
      exact (zno h).elim
    | succ fu0 ih0 =>
      intro v2_0 v3_0 H locs ls hP hD hS hl h
      refine hG _ _ _ _ _ ?_
      unfold p_X1_signByPowers_L0 at h
      refine lv_iload_n hx hb dX1_signByPowers_12 rfl (lv_at hl 3 rfl) ?_
      refine lv_aload_n hx hb dX1_signByPowers_13 rfl (lv_at hl 0 rfl) ?_
      refine va_get (D := D) (ci := 3) (v := .ref (a 17)) (C := RX1) (T := TX1) (N := 2) hx hb hts kwX1 hown hK hP 15 rfl rfl 0 (by decide) kf_12 (fun _ h9 => h9) rfl dX1_signByPowers_14 ?_
      obtain ⟨r5, e6, h⟩ := zb1_some h
      refine zgoi (va_runV (As := []) (rest := [.int v3_0]) ⟨hx, hb, hml, hown, hts⟩ (c_X2_count l D a cJ cI cO cB R b pr_1 tm_2 cn_3 sm ac re kn r5 e6 H.size) (cwV 0 hts gX1_signByPowers_X2_count rfl rfl rfl hdV_X2_count ⟨Nat.le_of_ble_eq_true rfl, Nat.le_of_ble_eq_true rfl⟩) (zpreV (q0 := 17) (ci := 4) (T := TX2) (N := 3) hK hP hD rfl rfl []) rfl rfl hl.1 rfl (lv_room (Nat.le_of_ble_eq_true rfl)) dX1_signByPowers_17 ⟨Nat.le_of_ble_eq_true rfl, Nat.le_of_ble_eq_true rfl⟩) (zfree hD hS hA) (zjW hD hS hA) hS (fun H locs hP hD hS => ?_)
      replace hP : va_P D vwCl (cW a cJ cI cO R b pr_1 tm_2 cn_3 sm ac re kn) H := hP
      replace hD : va_D A (cW a cJ cI cO R b pr_1 tm_2 cn_3 sm ac re kn) := hD
      refine lv_icmp_ge (tgt := 48) hx hb dX1_signByPowers_20 (by decide) (fun c20 => ?_) (fun c20 => ?_)
      · replace h := zif_t h c20
        exact hGW _ _ _ _ _ (HX0 v2_0 v3_0 _ _ ls hP hD hS (lv_sub hl [0, 1, 2, 3] rfl) h)
      · replace h := zif_f h c20
        refine lv_aload_n hx hb dX1_signByPowers_23 rfl (lv_at hl 0 rfl) ?_
        refine va_get (D := D) (ci := 3) (v := .ref (a 17)) (C := RX1) (T := TX1) (N := 2) hx hb hts kwX1 hown hK hP 15 rfl rfl 0 (by decide) kf_12 (fun _ h9 => h9) rfl dX1_signByPowers_24 ?_
        refine lv_iload_n hx hb dX1_signByPowers_27 rfl (lv_at hl 3 rfl) ?_
        obtain ⟨r7, e8, h⟩ := zb1_some h
        refine zgoi (va_runV (As := [.int v3_0]) (rest := []) ⟨hx, hb, hml, hown, hts⟩ (c_X2_timesAt l D a cJ cI cO cB R b pr_1 tm_2 cn_3 sm ac re kn v3_0 r7 e8 H.size) (cwV 1 hts gX1_signByPowers_X2_timesAt rfl rfl rfl hdV_X2_timesAt ⟨Nat.le_of_ble_eq_true rfl, Nat.le_of_ble_eq_true rfl⟩) (zpreV (q0 := 17) (ci := 4) (T := TX2) (N := 3) hK hP hD rfl rfl [.int v3_0]) rfl rfl hl.1 rfl (lv_room (Nat.le_of_ble_eq_true rfl)) dX1_signByPowers_28 ⟨Nat.le_of_ble_eq_true rfl, Nat.le_of_ble_eq_true rfl⟩) (zfree hD hS hA) (zjW hD hS hA) hS (fun H locs hP hD hS => ?_)
        replace hP : va_P D vwCl (cW a cJ cI cO R b pr_1 tm_2 cn_3 sm ac re kn) H := hP
        replace hD : va_D A (cW a cJ cI cO R b pr_1 tm_2 cn_3 sm ac re kn) := hD
        refine lv_iconst (v := (2 : Int32)) hx hb dX1_signByPowers_31 (by decide) ?_
        refine lv_icmp_lt (tgt := 39) hx hb dX1_signByPowers_32 (by decide) (fun c32 => ?_) (fun c32 => ?_)
        · replace h := zif_t h c32
          refine lv_iload_n hx hb dX1_signByPowers_39 rfl (lv_at hl 2 rfl) ?_
          refine lv_ineg hx hb dX1_signByPowers_40 ?_
          refine lv_istore_n (lv' := [(2, .int (-v2_0)), (0, .ref (a 15)), (1, .int p0), (3, .int v3_0)]) hx hb dX1_signByPowers_41 rfl hl (by decide) rfl (fun ls hl => ?_)
          refine lv_iinc (v := (v3_0 + (1 : Int32))) (lv' := [(3, .int (v3_0 + (1 : Int32))), (2, .int (-v2_0)), (0, .ref (a 15)), (1, .int p0)]) hx hb dX1_signByPowers_42 hl (k := 3) rfl rfl (by decide) rfl (fun ls hl => ?_)
          refine lv_goto (tgt := 12) hx hb dX1_signByPowers_45 (by decide) ?_
          exact hGW _ _ _ _ _ (ih0 (-v2_0) (v3_0 + (1 : Int32)) _ _ ls hP hD hS (lv_sub hl [2, 3, 1, 0] rfl) h)
        · replace h := zif_f h c32
          refine lv_iconst (v := (0 : Int32)) hx hb dX1_signByPowers_35 (by decide) ?_
          refine lv_goto (tgt := 41) hx hb dX1_signByPowers_36 (by decide) ?_
          refine lv_istore_n (lv' := [(2, .int (0 : Int32)), (0, .ref (a 15)), (1, .int p0), (3, .int v3_0)]) hx hb dX1_signByPowers_41 rfl hl (by decide) rfl (fun ls hl => ?_)
          refine lv_iinc (v := (v3_0 + (1 : Int32))) (lv' := [(3, .int (v3_0 + (1 : Int32))), (2, .int (0 : Int32)), (0, .ref (a 15)), (1, .int p0)]) hx hb dX1_signByPowers_42 hl (k := 3) rfl rfl (by decide) rfl (fun ls hl => ?_)
          refine lv_goto (tgt := 12) hx hb dX1_signByPowers_45 (by decide) ?_
          exact hGW _ _ _ _ _ (ih0 (0 : Int32) (v3_0 + (1 : Int32)) _ _ ls hP hD hS (lv_sub hl [2, 3, 1, 0] rfl) h)
  exact hGW _ _ _ _ _ (L0 _ X0 F (1 : Int32) (0 : Int32) _ _ ls hP hD hS (lv_sub hl [2, 3, 1, 0] rfl) h)

noncomputable def p_X1_powersOf (F : Nat) (pr : Nat → Int32) (tm : Nat → Int32) (p0 : Int32) : Option ((Nat → Int32) × (Nat → Int32) × Int32) := (zb3 (p_X2_lay F pr tm p0) (fun pr_1 tm_2 cn_3 => (some (pr_1, tm_2, cn_3))))
theorem hdV_X1_powersOf : yX1_powersOf.cls = RX1 ∧ yX1_powersOf.cls ≠ "java/lang/invoke/MethodHandle" ∧ yX1_powersOf.cls ≠ "java/lang/invoke/VarHandle" ∧ (parseMethodDescriptor yX1_powersOf.desc).map (fun d => d.parameters.length) = some 1 := by decide +kernel
set_option maxHeartbeats 4000000 in
set_option maxRecDepth 100000 in
theorem c_X1_powersOf (l : Launch) (D : va_G) (a : Nat → Nat) (cJ cI cO cB : ClassId) (R : Nat → Nat → Int64) (b : Bool) (pr : Nat → Int32) (tm : Nat → Int32) (cn : Int32) (sm : Nat → Int32) (ac : Int32) (re : Int32) (kn : Int32) (F : Nat) (p0 : Int32) (pr' : Nat → Int32) (tm' : Nat → Int32) (cn' : Int32) (h : p_X1_powersOf F pr tm p0 = some (pr', tm', cn')) : zMr l yX1_powersOf wsX1_powersOf 1 24 0 0 D (zT cJ cI cO cB) [.ref (a 15), .int p0] (cW a cJ cI cO R b pr tm cn sm ac re kn) (cW a cJ cI cO R b pr' tm' cn' sm ac re kn) (a 17) := by
  intro sz
  delta zQr
  refine Met.ofW (cc := cX1_powersOf) (maxL := 2) (ret := (some (.object "Divisorwork$Powers"))) (by decide) rfl ?_
  intro p e s m args below meth c s₁ B hml hv
  obtain ⟨rfl, hsz, hP, hK, hD0⟩ := hv
  have hx := B.exec
  have hb := B.bytes
  have hr := B.returns
  have hts := atoms_spec (ws := wsX1_powersOf) B.pre
  have hown : s.vm.findClass RX1 = some m.cls := findClass_of_methodNamed B.named
  have hlocks := B.notSynchronized
  subst hsz
  have hD := hD0.self (sz := s.heap.size)
  generalize hAe : va_A (cW a cJ cI cO R b pr tm cn sm ac re kn) s.heap.size = A at hD ⊢
  have hA : ∀ q : Nat, s.heap.size ≤ q → A q := fun q h => by rw [← hAe]; exact Or.inr h
  have hS : va_S A s.heap s.heap [] := va_S.rf
  have hl := lv_entry ([.ref (a 15), .int p0]) (n := 2) (Nat.le_of_ble_eq_true rfl)
  rw [lg_entry_eq]
  generalize (lg_sl ([.ref (a 15), .int p0]) ++ List.replicate (2 - (lg_sl ([.ref (a 15), .int p0])).length) Slot.unset).toArray = ls at hl ⊢
  replace hl : lv_has ls 2 [(0, .ref (a 15)), (1, .int p0)] := hl
  have kwX1 : ∀ w ∈ u_ws RX1 TX1 2, w ∈ wsX1_powersOf := fun w h => List.mem_cons_of_mem _ (List.mem_append_left _ (List.mem_append_right _ h))
  have kf_12 := hts (.fieldLink RX1 12 "Divisorwork$Numbers" "powers" "LDivisorwork$Powers;") (zmem 1 rfl)
  replace h : (zb3 (p_X2_lay F pr tm p0) (fun pr_1 tm_2 cn_3 => (some (pr_1, tm_2, cn_3)))) = some (pr', tm', cn') := h
  obtain ⟨H, hHe⟩ : ∃ H, H = s.heap := ⟨_, rfl⟩
  rw [← hHe] at hP
  replace hS : va_S A s.heap H [] := by rw [hHe]; exact hS
  refine zheap hHe ?_
  refine lv_aload_n hx hb dX1_powersOf_0 rfl (lv_at hl 0 rfl) ?_
  refine va_get (D := D) (ci := 3) (v := .ref (a 17)) (C := RX1) (T := TX1) (N := 2) hx hb hts kwX1 hown hK hP 15 rfl rfl 0 (by decide) kf_12 (fun _ h9 => h9) rfl dX1_powersOf_1 ?_
  refine lv_iload_n hx hb dX1_powersOf_4 rfl (lv_at hl 1 rfl) ?_
  obtain ⟨pr_1, tm_2, cn_3, e4, h⟩ := zb3_some h
  refine zgov (va_runV (As := [.int p0]) (rest := []) ⟨hx, hb, hml, hown, hts⟩ (c_X2_lay l D a cJ cI cO cB R b pr tm cn sm ac re kn F p0 pr_1 tm_2 cn_3 e4 H.size) (cwV 1 hts gX1_powersOf_X2_lay rfl rfl rfl hdV_X2_lay ⟨Nat.le_of_ble_eq_true rfl, Nat.le_of_ble_eq_true rfl⟩) (zpreV (q0 := 17) (ci := 4) (T := TX2) (N := 3) hK hP hD rfl rfl [.int p0]) rfl rfl hl.1 rfl (lv_room (Nat.le_of_ble_eq_true rfl)) dX1_powersOf_5 ⟨Nat.le_of_ble_eq_true rfl, Nat.le_of_ble_eq_true rfl⟩) (zfree hD hS hA) (zjW hD hS hA) hS (fun H locs hP hD hS => ?_)
  replace hP : va_P D vwCl (cW a cJ cI cO R b pr_1 tm_2 cn_3 sm ac re kn) H := hP
  replace hD : va_D A (cW a cJ cI cO R b pr_1 tm_2 cn_3 sm ac re kn) := hD
  refine lv_aload_n hx hb dX1_powersOf_8 rfl (lv_at hl 0 rfl) ?_
  refine va_get (D := D) (ci := 3) (v := .ref (a 17)) (C := RX1) (T := TX1) (N := 2) hx hb hts kwX1 hown hK hP 15 rfl rfl 0 (by decide) kf_12 (fun _ h9 => h9) rfl dX1_powersOf_9 ?_
  have g0 := Option.some.inj h
  obtain ⟨h1, g1⟩ := Prod.mk.inj g0
  obtain ⟨h2, g2⟩ := Prod.mk.inj g1
  subst h1
  subst h2
  subst g2
  exact W.aret (v := .ref (a 17)) hx hb hr (Or.inl ⟨_, rfl⟩) (Or.inr ⟨_, rfl⟩) (fun t ht hW => ⟨⟨(), (a 17), rfl, trivial, rfl, by rw [ht]; exact hP, va_K.moved hW.alike hK, hD⟩, hS.F ht⟩) hS.2.2 dX1_powersOf_12

noncomputable def p_X1_commonOf_L0 (F : Nat) (k : Int32 → Int32 → Int32 → Option Int32) : Nat → Int32 → Int32 → Int32 → Option Int32
  | 0, _, _, _ => none
  | n + 1, v2_0, v3_0, v4_0 => (if (100 : Int32) ≤ v4_0 then (k v2_0 v3_0 v4_0) else (if v3_0 = 0 then (k v2_0 v3_0 v4_0) else (zg (v3_0 = 0) (p_X1_commonOf_L0 F k n v3_0 (zr v2_0 v3_0) (v4_0 + (1 : Int32))))))
noncomputable def p_X1_commonOf (F : Nat) (p0 : Int32) (p1 : Int32) : Option Int32 := (p_X1_commonOf_L0 F (fun v2_0 v3_0 v4_0 => (some v2_0)) F p0 p1 (0 : Int32))
theorem hdS_X1_commonOf : yX1_commonOf.cls ≠ "java/lang/invoke/MethodHandle" ∧ yX1_commonOf.cls ≠ "java/lang/invoke/VarHandle" ∧ (parseMethodDescriptor yX1_commonOf.desc).map (fun d => d.parameters.length) = some 2 := by decide +kernel
set_option maxHeartbeats 4000000 in
set_option maxRecDepth 100000 in
theorem c_X1_commonOf (l : Launch) (D : va_G) (tys : List (ClassId × FieldType)) (F : Nat) (p0 : Int32) (p1 : Int32) (r : Int32) (h : p_X1_commonOf F p0 p1 = some r) : zMi l yX1_commonOf wsX1_commonOf 0 0 0 0 D tys [.int p0, .int p1] ([] : va_W) ([] : va_W) r := by
  intro sz
  delta zQi
  refine Met.ofW (cc := cX1_commonOf) (maxL := 6) (ret := (some .int)) (by decide) rfl ?_
  intro p e s m args below meth c s₁ B hml hv
  obtain ⟨rfl, hsz, hP, hK, hD0⟩ := hv
  have hx := B.exec
  have hb := B.bytes
  have hr := B.returns
  have hts := atoms_spec (ws := wsX1_commonOf) B.pre
  have hown : s.vm.findClass RX1 = some m.cls := findClass_of_methodNamed B.named
  have hlocks := B.notSynchronized
  subst hsz
  have hD := hD0.self (sz := s.heap.size)
  generalize hAe : va_A ([] : va_W) s.heap.size = A at hD ⊢
  have hA : ∀ q : Nat, s.heap.size ≤ q → A q := fun q h => by rw [← hAe]; exact Or.inr h
  have hS : va_S A s.heap s.heap [] := va_S.rf
  have hl := lv_entry ([.int p0, .int p1]) (n := 6) (Nat.le_of_ble_eq_true rfl)
  rw [lg_entry_eq]
  generalize (lg_sl ([.int p0, .int p1]) ++ List.replicate (6 - (lg_sl ([.int p0, .int p1])).length) Slot.unset).toArray = ls at hl ⊢
  replace hl : lv_has ls 6 [(0, .int p0), (1, .int p1)] := hl
  replace h : (p_X1_commonOf_L0 F (fun v2_0 v3_0 v4_0 => (some v2_0)) F p0 p1 (0 : Int32)) = some r := h
  refine zabs (fun G hG hGW => ?_)
  obtain ⟨H, hHe⟩ : ∃ H, H = s.heap := ⟨_, rfl⟩
  rw [← hHe] at hP
  replace hS : va_S A s.heap H [] := by rw [hHe]; exact hS
  refine zheap hHe ?_
  refine lv_iload_n hx hb dX1_commonOf_0 rfl (lv_at hl 0 rfl) ?_
  refine lv_istore_n (lv' := [(2, .int p0), (0, .int p0), (1, .int p1)]) hx hb dX1_commonOf_1 rfl hl (by decide) rfl (fun ls hl => ?_)
  refine lv_iload_n hx hb dX1_commonOf_2 rfl (lv_at hl 2 rfl) ?_
  refine lv_istore_n (lv' := [(3, .int p1), (2, .int p0), (0, .int p0), (1, .int p1)]) hx hb dX1_commonOf_3 rfl hl (by decide) rfl (fun ls hl => ?_)
  refine lv_iconst (v := (0 : Int32)) hx hb dX1_commonOf_4 (by decide) ?_
  refine lv_istore (lv' := [(4, .int (0 : Int32)), (3, .int p1), (2, .int p0), (0, .int p0), (1, .int p1)]) hx hb dX1_commonOf_5 hl (by decide) rfl (fun ls hl => ?_)
  have X0 : ∀ (v2_0 : Int32) (v3_0 : Int32) (v4_0 : Int32) (H : Heap) (locs : List Loc) (ls : Array Slot), va_P D vwCl ([] : va_W) H → va_D A ([] : va_W) → va_S A s.heap H locs → lv_has ls 6 [(0, .int p0), (1, .int p1), (2, .int v2_0), (3, .int v3_0), (4, .int v4_0)] → (some v2_0) = some r → G H locs 0 0 (F0 m 34 ls []) := by
    intro v2_0 v3_0 v4_0 H locs ls hP hD hS hl h
    refine hG _ _ _ _ _ ?_
    refine lv_iload_n hx hb dX1_commonOf_34 rfl (lv_at hl 2 rfl) ?_
    have h1 := Option.some.inj h
    subst h1
    exact W.iret (v := v2_0) hx hb hr (fun t ht hW => ⟨⟨v2_0, (), rfl, rfl, by rw [ht]; exact hP, va_K.moved hW.alike hK, hD⟩, hS.F ht⟩) hS.2.2 dX1_commonOf_35
  have L0 : ∀ (K0 : Int32 → Int32 → Int32 → Option Int32) (HX0 : ∀ (v2_0 : Int32) (v3_0 : Int32) (v4_0 : Int32) (H : Heap) (locs : List Loc) (ls : Array Slot), va_P D vwCl ([] : va_W) H → va_D A ([] : va_W) → va_S A s.heap H locs → lv_has ls 6 [(0, .int p0), (1, .int p1), (2, .int v2_0), (3, .int v3_0), (4, .int v4_0)] → K0 v2_0 v3_0 v4_0 = some r → G H locs 0 0 (F0 m 34 ls [])) (fu0 : Nat) (v2_0 : Int32) (v3_0 : Int32) (v4_0 : Int32) (H : Heap) (locs : List Loc) (ls : Array Slot), va_P D vwCl ([] : va_W) H → va_D A ([] : va_W) → va_S A s.heap H locs → lv_has ls 6 [(0, .int p0), (1, .int p1), (2, .int v2_0), (3, .int v3_0), (4, .int v4_0)] → p_X1_commonOf_L0 F K0 fu0 v2_0 v3_0 v4_0 = some r → G H locs 0 0 (F0 m 7 ls []) := by
    intro K0 HX0 fu0
    induction fu0 with
    | zero =>
      intro v2_0 v3_0 v4_0 H locs ls hP hD hS hl h
      exact (zno h).elim
    | succ fu0 ih0 =>
      intro v2_0 v3_0 v4_0 H locs ls hP hD hS hl h
      refine hG _ _ _ _ _ ?_
      unfold p_X1_commonOf_L0 at h
      refine lv_iload hx hb dX1_commonOf_7 (lv_at hl 4 rfl) ?_
      refine lv_bipush (v := (100 : Int32)) hx hb dX1_commonOf_9 (by decide) ?_
      refine lv_icmp_ge (tgt := 34) hx hb dX1_commonOf_11 (by decide) (fun c11 => ?_) (fun c11 => ?_)
      · replace h := zif_t h c11
        exact hGW _ _ _ _ _ (HX0 v2_0 v3_0 v4_0 _ _ ls hP hD hS (lv_sub hl [0, 1, 2, 3, 4] rfl) h)
      · replace h := zif_f h c11
        refine lv_iload_n hx hb dX1_commonOf_14 rfl (lv_at hl 3 rfl) ?_
        refine lv_if_eq (tgt := 34) hx hb dX1_commonOf_15 (by decide) (fun c15 => ?_) (fun c15 => ?_)
        · replace h := zif_t h c15
          exact hGW _ _ _ _ _ (HX0 v2_0 v3_0 v4_0 _ _ ls hP hD hS (lv_sub hl [0, 1, 2, 3, 4] rfl) h)
        · replace h := zif_f h c15
          refine lv_iload_n hx hb dX1_commonOf_18 rfl (lv_at hl 2 rfl) ?_
          refine lv_iload_n hx hb dX1_commonOf_19 rfl (lv_at hl 3 rfl) ?_
          obtain ⟨z20, h⟩ := zg_some h
          refine lv_irem hx hb dX1_commonOf_20 z20 ?_
          refine lv_istore (lv' := [(5, .int (zr v2_0 v3_0)), (0, .int p0), (1, .int p1), (2, .int v2_0), (3, .int v3_0), (4, .int v4_0)]) hx hb dX1_commonOf_21 hl (by decide) rfl (fun ls hl => ?_)
          refine lv_iload_n hx hb dX1_commonOf_23 rfl (lv_at hl 4 rfl) ?_
          refine lv_istore_n (lv' := [(2, .int v3_0), (5, .int (zr v2_0 v3_0)), (0, .int p0), (1, .int p1), (3, .int v3_0), (4, .int v4_0)]) hx hb dX1_commonOf_24 rfl hl (by decide) rfl (fun ls hl => ?_)
          refine lv_iload hx hb dX1_commonOf_25 (lv_at hl 1 rfl) ?_
          refine lv_istore_n (lv' := [(3, .int (zr v2_0 v3_0)), (2, .int v3_0), (5, .int (zr v2_0 v3_0)), (0, .int p0), (1, .int p1), (4, .int v4_0)]) hx hb dX1_commonOf_27 rfl hl (by decide) rfl (fun ls hl => ?_)
          refine lv_iinc (v := (v4_0 + (1 : Int32))) (lv' := [(4, .int (v4_0 + (1 : Int32))), (3, .int (zr v2_0 v3_0)), (2, .int v3_0), (5, .int (zr v2_0 v3_0)), (0, .int p0), (1, .int p1)]) hx hb dX1_commonOf_28 hl (k := 5) rfl rfl (by decide) rfl (fun ls hl => ?_)
          refine lv_goto (tgt := 7) hx hb dX1_commonOf_31 (by decide) ?_
          exact hGW _ _ _ _ _ (ih0 v3_0 (zr v2_0 v3_0) (v4_0 + (1 : Int32)) _ _ ls hP hD hS (lv_sub hl [4, 5, 2, 1, 0] rfl) h)
  exact hGW _ _ _ _ _ (L0 _ X0 F p0 p1 (0 : Int32) _ _ ls hP hD hS (lv_sub hl [3, 4, 2, 1, 0] rfl) h)

noncomputable def p_X1_phiByPowers_L1 (F : Nat) (pr_1 : Nat → Int32) (tm_2 : Nat → Int32) (v3_0 : Int32) (k : Int32 → Int32 → Option (Int32 × (Nat → Int32) × (Nat → Int32) × Int32)) : Nat → Int32 → Int32 → Option (Int32 × (Nat → Int32) × (Nat → Int32) × Int32)
  | 0, _, _ => none
  | n + 1, v4_1, v5_1 => (zb1 (p_X2_timesAt tm_2 v3_0) (fun r9 => (if r9 ≤ v5_1 then (k v4_1 v5_1) else (zb1 (p_X2_primeAt pr_1 v3_0) (fun r11 => (p_X1_phiByPowers_L1 F pr_1 tm_2 v3_0 k n (v4_1 * r11) (v5_1 + (1 : Int32))))))))
noncomputable def p_X1_phiByPowers_L0 (F : Nat) (pr_1 : Nat → Int32) (tm_2 : Nat → Int32) (cn_3 : Int32) (k : Int32 → Int32 → Option (Int32 × (Nat → Int32) × (Nat → Int32) × Int32)) : Nat → Int32 → Int32 → Option (Int32 × (Nat → Int32) × (Nat → Int32) × Int32)
  | 0, _, _ => none
  | n + 1, v2_0, v3_0 => (zb1 (p_X2_count cn_3) (fun r5 => (if r5 ≤ v3_0 then (k v2_0 v3_0) else (p_X1_phiByPowers_L1 F pr_1 tm_2 v3_0 (fun v4_1 v5_1 => (zb1 (p_X2_primeAt pr_1 v3_0) (fun r7 => (p_X1_phiByPowers_L0 F pr_1 tm_2 cn_3 k n (v2_0 * ((v4_1 * r7) - v4_1)) (v3_0 + (1 : Int32)))))) F (1 : Int32) (1 : Int32)))))
noncomputable def p_X1_phiByPowers (F : Nat) (pr : Nat → Int32) (tm : Nat → Int32) (p0 : Int32) : Option (Int32 × (Nat → Int32) × (Nat → Int32) × Int32) := (zb3 (p_X2_lay F pr tm p0) (fun pr_1 tm_2 cn_3 => (p_X1_phiByPowers_L0 F pr_1 tm_2 cn_3 (fun v2_0 v3_0 => (some (v2_0, pr_1, tm_2, cn_3))) F (1 : Int32) (0 : Int32))))
theorem hdV_X1_phiByPowers : yX1_phiByPowers.cls = RX1 ∧ yX1_phiByPowers.cls ≠ "java/lang/invoke/MethodHandle" ∧ yX1_phiByPowers.cls ≠ "java/lang/invoke/VarHandle" ∧ (parseMethodDescriptor yX1_phiByPowers.desc).map (fun d => d.parameters.length) = some 1 := by decide +kernel
set_option maxHeartbeats 4000000 in
set_option maxRecDepth 100000 in
theorem c_X1_phiByPowers (l : Launch) (D : va_G) (a : Nat → Nat) (cJ cI cO cB : ClassId) (R : Nat → Nat → Int64) (b : Bool) (pr : Nat → Int32) (tm : Nat → Int32) (cn : Int32) (sm : Nat → Int32) (ac : Int32) (re : Int32) (kn : Int32) (F : Nat) (p0 : Int32) (r : Int32) (pr' : Nat → Int32) (tm' : Nat → Int32) (cn' : Int32) (h : p_X1_phiByPowers F pr tm p0 = some (r, pr', tm', cn')) : zMi l yX1_phiByPowers wsX1_phiByPowers 1 24 0 0 D (zT cJ cI cO cB) [.ref (a 15), .int p0] (cW a cJ cI cO R b pr tm cn sm ac re kn) (cW a cJ cI cO R b pr' tm' cn' sm ac re kn) r := by
  intro sz
  delta zQi
  refine Met.ofW (cc := cX1_phiByPowers) (maxL := 6) (ret := (some .int)) (by decide) rfl ?_
  intro p e s m args below meth c s₁ B hml hv
  obtain ⟨rfl, hsz, hP, hK, hD0⟩ := hv
  have hx := B.exec
  have hb := B.bytes
  have hr := B.returns
  have hts := atoms_spec (ws := wsX1_phiByPowers) B.pre
  have hown : s.vm.findClass RX1 = some m.cls := findClass_of_methodNamed B.named
  have hlocks := B.notSynchronized
  subst hsz
  have hD := hD0.self (sz := s.heap.size)
  generalize hAe : va_A (cW a cJ cI cO R b pr tm cn sm ac re kn) s.heap.size = A at hD ⊢
  have hA : ∀ q : Nat, s.heap.size ≤ q → A q := fun q h => by rw [← hAe]; exact Or.inr h
  have hS : va_S A s.heap s.heap [] := va_S.rf
  have hl := lv_entry ([.ref (a 15), .int p0]) (n := 6) (Nat.le_of_ble_eq_true rfl)
  rw [lg_entry_eq]
  generalize (lg_sl ([.ref (a 15), .int p0]) ++ List.replicate (6 - (lg_sl ([.ref (a 15), .int p0])).length) Slot.unset).toArray = ls at hl ⊢
  replace hl : lv_has ls 6 [(0, .ref (a 15)), (1, .int p0)] := hl
  have kwX1 : ∀ w ∈ u_ws RX1 TX1 2, w ∈ wsX1_phiByPowers := fun w h => List.mem_cons_of_mem _ (List.mem_append_left _ (List.mem_append_left _ (List.mem_append_left _ (List.mem_append_left _ (List.mem_append_right _ h)))))
  have kf_12 := hts (.fieldLink RX1 12 "Divisorwork$Numbers" "powers" "LDivisorwork$Powers;") (zmem 1 rfl)
  replace h : (zb3 (p_X2_lay F pr tm p0) (fun pr_1 tm_2 cn_3 => (p_X1_phiByPowers_L0 F pr_1 tm_2 cn_3 (fun v2_0 v3_0 => (some (v2_0, pr_1, tm_2, cn_3))) F (1 : Int32) (0 : Int32)))) = some (r, pr', tm', cn') := h
  refine zabs (fun G hG hGW => ?_)
  obtain ⟨H, hHe⟩ : ∃ H, H = s.heap := ⟨_, rfl⟩
  rw [← hHe] at hP
  replace hS : va_S A s.heap H [] := by rw [hHe]; exact hS
  refine zheap hHe ?_
  refine lv_aload_n hx hb dX1_phiByPowers_0 rfl (lv_at hl 0 rfl) ?_
  refine va_get (D := D) (ci := 3) (v := .ref (a 17)) (C := RX1) (T := TX1) (N := 2) hx hb hts kwX1 hown hK hP 15 rfl rfl 0 (by decide) kf_12 (fun _ h9 => h9) rfl dX1_phiByPowers_1 ?_
  refine lv_iload_n hx hb dX1_phiByPowers_4 rfl (lv_at hl 1 rfl) ?_
  obtain ⟨pr_1, tm_2, cn_3, e4, h⟩ := zb3_some h
  refine zgov (va_runV (As := [.int p0]) (rest := []) ⟨hx, hb, hml, hown, hts⟩ (c_X2_lay l D a cJ cI cO cB R b pr tm cn sm ac re kn F p0 pr_1 tm_2 cn_3 e4 H.size) (cwV 1 hts gX1_phiByPowers_X2_lay rfl rfl rfl hdV_X2_lay ⟨Nat.le_of_ble_eq_true rfl, Nat.le_of_ble_eq_true rfl⟩) (zpreV (q0 := 17) (ci := 4) (T := TX2) (N := 3) hK hP hD rfl rfl [.int p0]) rfl rfl hl.1 rfl (lv_room (Nat.le_of_ble_eq_true rfl)) dX1_phiByPowers_5 ⟨Nat.le_of_ble_eq_true rfl, Nat.le_of_ble_eq_true rfl⟩) (zfree hD hS hA) (zjW hD hS hA) hS (fun H locs hP hD hS => ?_)
  replace hP : va_P D vwCl (cW a cJ cI cO R b pr_1 tm_2 cn_3 sm ac re kn) H := hP
  replace hD : va_D A (cW a cJ cI cO R b pr_1 tm_2 cn_3 sm ac re kn) := hD
  refine lv_iconst (v := (1 : Int32)) hx hb dX1_phiByPowers_8 (by decide) ?_
  refine lv_istore_n (lv' := [(2, .int (1 : Int32)), (0, .ref (a 15)), (1, .int p0)]) hx hb dX1_phiByPowers_9 rfl hl (by decide) rfl (fun ls hl => ?_)
  refine lv_iconst (v := (0 : Int32)) hx hb dX1_phiByPowers_10 (by decide) ?_
  refine lv_istore_n (lv' := [(3, .int (0 : Int32)), (2, .int (1 : Int32)), (0, .ref (a 15)), (1, .int p0)]) hx hb dX1_phiByPowers_11 rfl hl (by decide) rfl (fun ls hl => ?_)
  have X0 : ∀ (v2_0 : Int32) (v3_0 : Int32) (H : Heap) (locs : List Loc) (ls : Array Slot), va_P D vwCl (cW a cJ cI cO R b pr_1 tm_2 cn_3 sm ac re kn) H → va_D A (cW a cJ cI cO R b pr_1 tm_2 cn_3 sm ac re kn) → va_S A s.heap H locs → lv_has ls 6 [(0, .ref (a 15)), (1, .int p0), (2, .int v2_0), (3, .int v3_0)] → (some (v2_0, pr_1, tm_2, cn_3)) = some (r, pr', tm', cn') → G H locs 0 0 (F0 m 84 ls []) := by
    intro v2_0 v3_0 H locs ls hP hD hS hl h
    refine hG _ _ _ _ _ ?_
    refine lv_iload_n hx hb dX1_phiByPowers_84 rfl (lv_at hl 2 rfl) ?_
    have g0 := Option.some.inj h
    obtain ⟨h1, g1⟩ := Prod.mk.inj g0
    obtain ⟨h2, g2⟩ := Prod.mk.inj g1
    obtain ⟨h3, g3⟩ := Prod.mk.inj g2
    subst h1
    subst h2
    subst h3
    subst g3
    exact W.iret (v := v2_0) hx hb hr (fun t ht hW => ⟨⟨v2_0, (), rfl, rfl, by rw [ht]; exact hP, va_K.moved hW.alike hK, hD⟩, hS.F ht⟩) hS.2.2 dX1_phiByPowers_85
  have L0 : ∀ (K0 : Int32 → Int32 → Option (Int32 × (Nat → Int32) × (Nat → Int32) × Int32)) (HX0 : ∀ (v2_0 : Int32) (v3_0 : Int32) (H : Heap) (locs : List Loc) (ls : Array Slot), va_P D vwCl (cW a cJ cI cO R b pr_1 tm_2 cn_3 sm ac re kn) H → va_D A (cW a cJ cI cO R b pr_1 tm_2 cn_3 sm ac re kn) → va_S A s.heap H locs → lv_has ls 6 [(0, .ref (a 15)), (1, .int p0), (2, .int v2_0), (3, .int v3_0)] → K0 v2_0 v3_0 = some (r, pr', tm', cn') → G H locs 0 0 (F0 m 84 ls [])) (fu0 : Nat) (v2_0 : Int32) (v3_0 : Int32) (H : Heap) (locs : List Loc) (ls : Array Slot), va_P D vwCl (cW a cJ cI cO R b pr_1 tm_2 cn_3 sm ac re kn) H → va_D A (cW a cJ cI cO R b pr_1 tm_2 cn_3 sm ac re kn) → va_S A s.heap H locs → lv_has ls 6 [(0, .ref (a 15)), (1, .int p0), (2, .int v2_0), (3, .int v3_0)] → p_X1_phiByPowers_L0 F pr_1 tm_2 cn_3 K0 fu0 v2_0 v3_0 = some (r, pr', tm', cn') → G H locs 0 0 (F0 m 12 ls []) := by
    intro K0 HX0 fu0
    induction fu0 with
    | zero =>
      intro v2_0 v3_0 H locs ls hP hD hS hl h
      exact (zno h).elim
    | succ fu0 ih0 =>
      intro v2_0 v3_0 H locs ls hP hD hS hl h
      refine hG _ _ _ _ _ ?_
      unfold p_X1_phiByPowers_L0 at h
      refine lv_iload_n hx hb dX1_phiByPowers_12 rfl (lv_at hl 3 rfl) ?_
      refine lv_aload_n hx hb dX1_phiByPowers_13 rfl (lv_at hl 0 rfl) ?_
      refine va_get (D := D) (ci := 3) (v := .ref (a 17)) (C := RX1) (T := TX1) (N := 2) hx hb hts kwX1 hown hK hP 15 rfl rfl 0 (by decide) kf_12 (fun _ h9 => h9) rfl dX1_phiByPowers_14 ?_
      obtain ⟨r5, e6, h⟩ := zb1_some h
      refine zgoi (va_runV (As := []) (rest := [.int v3_0]) ⟨hx, hb, hml, hown, hts⟩ (c_X2_count l D a cJ cI cO cB R b pr_1 tm_2 cn_3 sm ac re kn r5 e6 H.size) (cwV 0 hts gX1_phiByPowers_X2_count rfl rfl rfl hdV_X2_count ⟨Nat.le_of_ble_eq_true rfl, Nat.le_of_ble_eq_true rfl⟩) (zpreV (q0 := 17) (ci := 4) (T := TX2) (N := 3) hK hP hD rfl rfl []) rfl rfl hl.1 rfl (lv_room (Nat.le_of_ble_eq_true rfl)) dX1_phiByPowers_17 ⟨Nat.le_of_ble_eq_true rfl, Nat.le_of_ble_eq_true rfl⟩) (zfree hD hS hA) (zjW hD hS hA) hS (fun H locs hP hD hS => ?_)
      replace hP : va_P D vwCl (cW a cJ cI cO R b pr_1 tm_2 cn_3 sm ac re kn) H := hP
      replace hD : va_D A (cW a cJ cI cO R b pr_1 tm_2 cn_3 sm ac re kn) := hD
      refine lv_icmp_ge (tgt := 84) hx hb dX1_phiByPowers_20 (by decide) (fun c20 => ?_) (fun c20 => ?_)
      · replace h := zif_t h c20
        exact hGW _ _ _ _ _ (HX0 v2_0 v3_0 _ _ ls hP hD hS (lv_sub hl [0, 1, 2, 3] rfl) h)
      · replace h := zif_f h c20
        refine lv_iconst (v := (1 : Int32)) hx hb dX1_phiByPowers_23 (by decide) ?_
        refine lv_istore (lv' := [(4, .int (1 : Int32)), (0, .ref (a 15)), (1, .int p0), (2, .int v2_0), (3, .int v3_0)]) hx hb dX1_phiByPowers_24 hl (by decide) rfl (fun ls hl => ?_)
        refine lv_iconst (v := (1 : Int32)) hx hb dX1_phiByPowers_26 (by decide) ?_
        refine lv_istore (lv' := [(5, .int (1 : Int32)), (4, .int (1 : Int32)), (0, .ref (a 15)), (1, .int p0), (2, .int v2_0), (3, .int v3_0)]) hx hb dX1_phiByPowers_27 hl (by decide) rfl (fun ls hl => ?_)
        have X1 : ∀ (v4_1 : Int32) (v5_1 : Int32) (H : Heap) (locs : List Loc) (ls : Array Slot), va_P D vwCl (cW a cJ cI cO R b pr_1 tm_2 cn_3 sm ac re kn) H → va_D A (cW a cJ cI cO R b pr_1 tm_2 cn_3 sm ac re kn) → va_S A s.heap H locs → lv_has ls 6 [(0, .ref (a 15)), (1, .int p0), (2, .int v2_0), (3, .int v3_0), (4, .int v4_1), (5, .int v5_1)] → (zb1 (p_X2_primeAt pr_1 v3_0) (fun r7 => (p_X1_phiByPowers_L0 F pr_1 tm_2 cn_3 K0 fu0 (v2_0 * ((v4_1 * r7) - v4_1)) (v3_0 + (1 : Int32))))) = some (r, pr', tm', cn') → G H locs 0 0 (F0 m 61 ls []) := by
          intro v4_1 v5_1 H locs ls hP hD hS hl h
          refine hG _ _ _ _ _ ?_
          refine lv_iload_n hx hb dX1_phiByPowers_61 rfl (lv_at hl 2 rfl) ?_
          refine lv_iload hx hb dX1_phiByPowers_62 (lv_at hl 4 rfl) ?_
          refine lv_aload_n hx hb dX1_phiByPowers_64 rfl (lv_at hl 0 rfl) ?_
          refine va_get (D := D) (ci := 3) (v := .ref (a 17)) (C := RX1) (T := TX1) (N := 2) hx hb hts kwX1 hown hK hP 15 rfl rfl 0 (by decide) kf_12 (fun _ h9 => h9) rfl dX1_phiByPowers_65 ?_
          refine lv_iload_n hx hb dX1_phiByPowers_68 rfl (lv_at hl 3 rfl) ?_
          obtain ⟨r7, e8, h⟩ := zb1_some h
          refine zgoi (va_runV (As := [.int v3_0]) (rest := [.int v4_1, .int v2_0]) ⟨hx, hb, hml, hown, hts⟩ (c_X2_primeAt l D a cJ cI cO cB R b pr_1 tm_2 cn_3 sm ac re kn v3_0 r7 e8 H.size) (cwV 1 hts gX1_phiByPowers_X2_primeAt rfl rfl rfl hdV_X2_primeAt ⟨Nat.le_of_ble_eq_true rfl, Nat.le_of_ble_eq_true rfl⟩) (zpreV (q0 := 17) (ci := 4) (T := TX2) (N := 3) hK hP hD rfl rfl [.int v3_0]) rfl rfl hl.1 rfl (lv_room (Nat.le_of_ble_eq_true rfl)) dX1_phiByPowers_69 ⟨Nat.le_of_ble_eq_true rfl, Nat.le_of_ble_eq_true rfl⟩) (zfree hD hS hA) (zjW hD hS hA) hS (fun H locs hP hD hS => ?_)
          replace hP : va_P D vwCl (cW a cJ cI cO R b pr_1 tm_2 cn_3 sm ac re kn) H := hP
          replace hD : va_D A (cW a cJ cI cO R b pr_1 tm_2 cn_3 sm ac re kn) := hD
          refine lv_imul hx hb dX1_phiByPowers_72 ?_
          refine lv_iload hx hb dX1_phiByPowers_73 (lv_at hl 4 rfl) ?_
          refine lv_isub hx hb dX1_phiByPowers_75 ?_
          refine lv_imul hx hb dX1_phiByPowers_76 ?_
          refine lv_istore_n (lv' := [(2, .int (v2_0 * ((v4_1 * r7) - v4_1))), (0, .ref (a 15)), (1, .int p0), (3, .int v3_0), (4, .int v4_1), (5, .int v5_1)]) hx hb dX1_phiByPowers_77 rfl hl (by decide) rfl (fun ls hl => ?_)
          refine lv_iinc (v := (v3_0 + (1 : Int32))) (lv' := [(3, .int (v3_0 + (1 : Int32))), (2, .int (v2_0 * ((v4_1 * r7) - v4_1))), (0, .ref (a 15)), (1, .int p0), (4, .int v4_1), (5, .int v5_1)]) hx hb dX1_phiByPowers_78 hl (k := 3) rfl rfl (by decide) rfl (fun ls hl => ?_)
          refine lv_goto (tgt := 12) hx hb dX1_phiByPowers_81 (by decide) ?_
          exact hGW _ _ _ _ _ (ih0 (v2_0 * ((v4_1 * r7) - v4_1)) (v3_0 + (1 : Int32)) _ _ ls hP hD hS (lv_sub hl [2, 3, 1, 0] rfl) h)
        have L1 : ∀ (K1 : Int32 → Int32 → Option (Int32 × (Nat → Int32) × (Nat → Int32) × Int32)) (HX1 : ∀ (v4_1 : Int32) (v5_1 : Int32) (H : Heap) (locs : List Loc) (ls : Array Slot), va_P D vwCl (cW a cJ cI cO R b pr_1 tm_2 cn_3 sm ac re kn) H → va_D A (cW a cJ cI cO R b pr_1 tm_2 cn_3 sm ac re kn) → va_S A s.heap H locs → lv_has ls 6 [(0, .ref (a 15)), (1, .int p0), (2, .int v2_0), (3, .int v3_0), (4, .int v4_1), (5, .int v5_1)] → K1 v4_1 v5_1 = some (r, pr', tm', cn') → G H locs 0 0 (F0 m 61 ls [])) (fu1 : Nat) (v4_1 : Int32) (v5_1 : Int32) (H : Heap) (locs : List Loc) (ls : Array Slot), va_P D vwCl (cW a cJ cI cO R b pr_1 tm_2 cn_3 sm ac re kn) H → va_D A (cW a cJ cI cO R b pr_1 tm_2 cn_3 sm ac re kn) → va_S A s.heap H locs → lv_has ls 6 [(0, .ref (a 15)), (1, .int p0), (2, .int v2_0), (3, .int v3_0), (4, .int v4_1), (5, .int v5_1)] → p_X1_phiByPowers_L1 F pr_1 tm_2 v3_0 K1 fu1 v4_1 v5_1 = some (r, pr', tm', cn') → G H locs 0 0 (F0 m 29 ls []) := by
          intro K1 HX1 fu1
          induction fu1 with
          | zero =>
            intro v4_1 v5_1 H locs ls hP hD hS hl h
            exact (zno h).elim
          | succ fu1 ih1 =>
            intro v4_1 v5_1 H locs ls hP hD hS hl h
            refine hG _ _ _ _ _ ?_
            unfold p_X1_phiByPowers_L1 at h
            refine lv_iload hx hb dX1_phiByPowers_29 (lv_at hl 5 rfl) ?_
            refine lv_aload_n hx hb dX1_phiByPowers_31 rfl (lv_at hl 0 rfl) ?_
            refine va_get (D := D) (ci := 3) (v := .ref (a 17)) (C := RX1) (T := TX1) (N := 2) hx hb hts kwX1 hown hK hP 15 rfl rfl 0 (by decide) kf_12 (fun _ h9 => h9) rfl dX1_phiByPowers_32 ?_
            refine lv_iload_n hx hb dX1_phiByPowers_35 rfl (lv_at hl 3 rfl) ?_
            obtain ⟨r9, e10, h⟩ := zb1_some h
            refine zgoi (va_runV (As := [.int v3_0]) (rest := [.int v5_1]) ⟨hx, hb, hml, hown, hts⟩ (c_X2_timesAt l D a cJ cI cO cB R b pr_1 tm_2 cn_3 sm ac re kn v3_0 r9 e10 H.size) (cwV 1 hts gX1_phiByPowers_X2_timesAt rfl rfl rfl hdV_X2_timesAt ⟨Nat.le_of_ble_eq_true rfl, Nat.le_of_ble_eq_true rfl⟩) (zpreV (q0 := 17) (ci := 4) (T := TX2) (N := 3) hK hP hD rfl rfl [.int v3_0]) rfl rfl hl.1 rfl (lv_room (Nat.le_of_ble_eq_true rfl)) dX1_phiByPowers_36 ⟨Nat.le_of_ble_eq_true rfl, Nat.le_of_ble_eq_true rfl⟩) (zfree hD hS hA) (zjW hD hS hA) hS (fun H locs hP hD hS => ?_)
            replace hP : va_P D vwCl (cW a cJ cI cO R b pr_1 tm_2 cn_3 sm ac re kn) H := hP
            replace hD : va_D A (cW a cJ cI cO R b pr_1 tm_2 cn_3 sm ac re kn) := hD
            refine lv_icmp_ge (tgt := 61) hx hb dX1_phiByPowers_39 (by decide) (fun c39 => ?_) (fun c39 => ?_)
            · replace h := zif_t h c39
              exact hGW _ _ _ _ _ (HX1 v4_1 v5_1 _ _ ls hP hD hS (lv_sub hl [0, 1, 2, 3, 4, 5] rfl) h)
            · replace h := zif_f h c39
              refine lv_iload hx hb dX1_phiByPowers_42 (lv_at hl 4 rfl) ?_
              refine lv_aload_n hx hb dX1_phiByPowers_44 rfl (lv_at hl 0 rfl) ?_
              refine va_get (D := D) (ci := 3) (v := .ref (a 17)) (C := RX1) (T := TX1) (N := 2) hx hb hts kwX1 hown hK hP 15 rfl rfl 0 (by decide) kf_12 (fun _ h9 => h9) rfl dX1_phiByPowers_45 ?_
              refine lv_iload_n hx hb dX1_phiByPowers_48 rfl (lv_at hl 3 rfl) ?_
              obtain ⟨r11, e12, h⟩ := zb1_some h
              refine zgoi (va_runV (As := [.int v3_0]) (rest := [.int v4_1]) ⟨hx, hb, hml, hown, hts⟩ (c_X2_primeAt l D a cJ cI cO cB R b pr_1 tm_2 cn_3 sm ac re kn v3_0 r11 e12 H.size) (cwV 1 hts gX1_phiByPowers_X2_primeAt rfl rfl rfl hdV_X2_primeAt ⟨Nat.le_of_ble_eq_true rfl, Nat.le_of_ble_eq_true rfl⟩) (zpreV (q0 := 17) (ci := 4) (T := TX2) (N := 3) hK hP hD rfl rfl [.int v3_0]) rfl rfl hl.1 rfl (lv_room (Nat.le_of_ble_eq_true rfl)) dX1_phiByPowers_49 ⟨Nat.le_of_ble_eq_true rfl, Nat.le_of_ble_eq_true rfl⟩) (zfree hD hS hA) (zjW hD hS hA) hS (fun H locs hP hD hS => ?_)
              replace hP : va_P D vwCl (cW a cJ cI cO R b pr_1 tm_2 cn_3 sm ac re kn) H := hP
              replace hD : va_D A (cW a cJ cI cO R b pr_1 tm_2 cn_3 sm ac re kn) := hD
              refine lv_imul hx hb dX1_phiByPowers_52 ?_
              refine lv_istore (lv' := [(4, .int (v4_1 * r11)), (0, .ref (a 15)), (1, .int p0), (2, .int v2_0), (3, .int v3_0), (5, .int v5_1)]) hx hb dX1_phiByPowers_53 hl (by decide) rfl (fun ls hl => ?_)
              refine lv_iinc (v := (v5_1 + (1 : Int32))) (lv' := [(5, .int (v5_1 + (1 : Int32))), (4, .int (v4_1 * r11)), (0, .ref (a 15)), (1, .int p0), (2, .int v2_0), (3, .int v3_0)]) hx hb dX1_phiByPowers_55 hl (k := 5) rfl rfl (by decide) rfl (fun ls hl => ?_)
              refine lv_goto (tgt := 29) hx hb dX1_phiByPowers_58 (by decide) ?_
              exact hGW _ _ _ _ _ (ih1 (v4_1 * r11) (v5_1 + (1 : Int32)) _ _ ls hP hD hS (lv_sub hl [2, 3, 4, 5, 1, 0] rfl) h)
        exact hGW _ _ _ _ _ (L1 _ X1 F (1 : Int32) (1 : Int32) _ _ ls hP hD hS (lv_sub hl [2, 3, 4, 5, 1, 0] rfl) h)
  exact hGW _ _ _ _ _ (L0 _ X0 F (1 : Int32) (0 : Int32) _ _ ls hP hD hS (lv_sub hl [2, 3, 1, 0] rfl) h)

noncomputable def p_X1_tauByPowers_L0 (F : Nat) (tm_2 : Nat → Int32) (cn_3 : Int32) (k : Int32 → Int32 → Option (Int32 × (Nat → Int32) × (Nat → Int32) × Int32)) : Nat → Int32 → Int32 → Option (Int32 × (Nat → Int32) × (Nat → Int32) × Int32)
  | 0, _, _ => none
  | n + 1, v2_0, v3_0 => (zb1 (p_X2_count cn_3) (fun r5 => (if r5 ≤ v3_0 then (k v2_0 v3_0) else (zb1 (p_X2_timesAt tm_2 v3_0) (fun r7 => (p_X1_tauByPowers_L0 F tm_2 cn_3 k n (v2_0 * (r7 + (1 : Int32))) (v3_0 + (1 : Int32))))))))
noncomputable def p_X1_tauByPowers (F : Nat) (pr : Nat → Int32) (tm : Nat → Int32) (p0 : Int32) : Option (Int32 × (Nat → Int32) × (Nat → Int32) × Int32) := (zb3 (p_X2_lay F pr tm p0) (fun pr_1 tm_2 cn_3 => (p_X1_tauByPowers_L0 F tm_2 cn_3 (fun v2_0 v3_0 => (some (v2_0, pr_1, tm_2, cn_3))) F (1 : Int32) (0 : Int32))))
theorem hdV_X1_tauByPowers : yX1_tauByPowers.cls = RX1 ∧ yX1_tauByPowers.cls ≠ "java/lang/invoke/MethodHandle" ∧ yX1_tauByPowers.cls ≠ "java/lang/invoke/VarHandle" ∧ (parseMethodDescriptor yX1_tauByPowers.desc).map (fun d => d.parameters.length) = some 1 := by decide +kernel
set_option maxHeartbeats 4000000 in
set_option maxRecDepth 100000 in
theorem c_X1_tauByPowers (l : Launch) (D : va_G) (a : Nat → Nat) (cJ cI cO cB : ClassId) (R : Nat → Nat → Int64) (b : Bool) (pr : Nat → Int32) (tm : Nat → Int32) (cn : Int32) (sm : Nat → Int32) (ac : Int32) (re : Int32) (kn : Int32) (F : Nat) (p0 : Int32) (r : Int32) (pr' : Nat → Int32) (tm' : Nat → Int32) (cn' : Int32) (h : p_X1_tauByPowers F pr tm p0 = some (r, pr', tm', cn')) : zMi l yX1_tauByPowers wsX1_tauByPowers 1 24 0 0 D (zT cJ cI cO cB) [.ref (a 15), .int p0] (cW a cJ cI cO R b pr tm cn sm ac re kn) (cW a cJ cI cO R b pr' tm' cn' sm ac re kn) r := by
  intro sz
  delta zQi
  refine Met.ofW (cc := cX1_tauByPowers) (maxL := 4) (ret := (some .int)) (by decide) rfl ?_
  intro p e s m args below meth c s₁ B hml hv
  obtain ⟨rfl, hsz, hP, hK, hD0⟩ := hv
  have hx := B.exec
  have hb := B.bytes
  have hr := B.returns
  have hts := atoms_spec (ws := wsX1_tauByPowers) B.pre
  have hown : s.vm.findClass RX1 = some m.cls := findClass_of_methodNamed B.named
  have hlocks := B.notSynchronized
  subst hsz
  have hD := hD0.self (sz := s.heap.size)
  generalize hAe : va_A (cW a cJ cI cO R b pr tm cn sm ac re kn) s.heap.size = A at hD ⊢
  have hA : ∀ q : Nat, s.heap.size ≤ q → A q := fun q h => by rw [← hAe]; exact Or.inr h
  have hS : va_S A s.heap s.heap [] := va_S.rf
  have hl := lv_entry ([.ref (a 15), .int p0]) (n := 4) (Nat.le_of_ble_eq_true rfl)
  rw [lg_entry_eq]
  generalize (lg_sl ([.ref (a 15), .int p0]) ++ List.replicate (4 - (lg_sl ([.ref (a 15), .int p0])).length) Slot.unset).toArray = ls at hl ⊢
  replace hl : lv_has ls 4 [(0, .ref (a 15)), (1, .int p0)] := hl
  have kwX1 : ∀ w ∈ u_ws RX1 TX1 2, w ∈ wsX1_tauByPowers := fun w h => List.mem_cons_of_mem _ (List.mem_append_left _ (List.mem_append_left _ (List.mem_append_left _ (List.mem_append_right _ h))))
  have kf_12 := hts (.fieldLink RX1 12 "Divisorwork$Numbers" "powers" "LDivisorwork$Powers;") (zmem 1 rfl)
  replace h : (zb3 (p_X2_lay F pr tm p0) (fun pr_1 tm_2 cn_3 => (p_X1_tauByPowers_L0 F tm_2 cn_3 (fun v2_0 v3_0 => (some (v2_0, pr_1, tm_2, cn_3))) F (1 : Int32) (0 : Int32)))) = some (r, pr', tm', cn') := h
  refine zabs (fun G hG hGW => ?_)
  obtain ⟨H, hHe⟩ : ∃ H, H = s.heap := ⟨_, rfl⟩
  rw [← hHe] at hP
  replace hS : va_S A s.heap H [] := by rw [hHe]; exact hS
  refine zheap hHe ?_
  refine lv_aload_n hx hb dX1_tauByPowers_0 rfl (lv_at hl 0 rfl) ?_
  refine va_get (D := D) (ci := 3) (v := .ref (a 17)) (C := RX1) (T := TX1) (N := 2) hx hb hts kwX1 hown hK hP 15 rfl rfl 0 (by decide) kf_12 (fun _ h9 => h9) rfl dX1_tauByPowers_1 ?_
  refine lv_iload_n hx hb dX1_tauByPowers_4 rfl (lv_at hl 1 rfl) ?_
  obtain ⟨pr_1, tm_2, cn_3, e4, h⟩ := zb3_some h
  refine zgov (va_runV (As := [.int p0]) (rest := []) ⟨hx, hb, hml, hown, hts⟩ (c_X2_lay l D a cJ cI cO cB R b pr tm cn sm ac re kn F p0 pr_1 tm_2 cn_3 e4 H.size) (cwV 1 hts gX1_tauByPowers_X2_lay rfl rfl rfl hdV_X2_lay ⟨Nat.le_of_ble_eq_true rfl, Nat.le_of_ble_eq_true rfl⟩) (zpreV (q0 := 17) (ci := 4) (T := TX2) (N := 3) hK hP hD rfl rfl [.int p0]) rfl rfl hl.1 rfl (lv_room (Nat.le_of_ble_eq_true rfl)) dX1_tauByPowers_5 ⟨Nat.le_of_ble_eq_true rfl, Nat.le_of_ble_eq_true rfl⟩) (zfree hD hS hA) (zjW hD hS hA) hS (fun H locs hP hD hS => ?_)
  replace hP : va_P D vwCl (cW a cJ cI cO R b pr_1 tm_2 cn_3 sm ac re kn) H := hP
  replace hD : va_D A (cW a cJ cI cO R b pr_1 tm_2 cn_3 sm ac re kn) := hD
  refine lv_iconst (v := (1 : Int32)) hx hb dX1_tauByPowers_8 (by decide) ?_
  refine lv_istore_n (lv' := [(2, .int (1 : Int32)), (0, .ref (a 15)), (1, .int p0)]) hx hb dX1_tauByPowers_9 rfl hl (by decide) rfl (fun ls hl => ?_)
  refine lv_iconst (v := (0 : Int32)) hx hb dX1_tauByPowers_10 (by decide) ?_
  refine lv_istore_n (lv' := [(3, .int (0 : Int32)), (2, .int (1 : Int32)), (0, .ref (a 15)), (1, .int p0)]) hx hb dX1_tauByPowers_11 rfl hl (by decide) rfl (fun ls hl => ?_)
  have X0 : ∀ (v2_0 : Int32) (v3_0 : Int32) (H : Heap) (locs : List Loc) (ls : Array Slot), va_P D vwCl (cW a cJ cI cO R b pr_1 tm_2 cn_3 sm ac re kn) H → va_D A (cW a cJ cI cO R b pr_1 tm_2 cn_3 sm ac re kn) → va_S A s.heap H locs → lv_has ls 4 [(0, .ref (a 15)), (1, .int p0), (2, .int v2_0), (3, .int v3_0)] → (some (v2_0, pr_1, tm_2, cn_3)) = some (r, pr', tm', cn') → G H locs 0 0 (F0 m 42 ls []) := by
    intro v2_0 v3_0 H locs ls hP hD hS hl h
    refine hG _ _ _ _ _ ?_
    refine lv_iload_n hx hb dX1_tauByPowers_42 rfl (lv_at hl 2 rfl) ?_
    have g0 := Option.some.inj h
    obtain ⟨h1, g1⟩ := Prod.mk.inj g0
    obtain ⟨h2, g2⟩ := Prod.mk.inj g1
    obtain ⟨h3, g3⟩ := Prod.mk.inj g2
    subst h1
    subst h2
    subst h3
    subst g3
    exact W.iret (v := v2_0) hx hb hr (fun t ht hW => ⟨⟨v2_0, (), rfl, rfl, by rw [ht]; exact hP, va_K.moved hW.alike hK, hD⟩, hS.F ht⟩) hS.2.2 dX1_tauByPowers_43
  have L0 : ∀ (K0 : Int32 → Int32 → Option (Int32 × (Nat → Int32) × (Nat → Int32) × Int32)) (HX0 : ∀ (v2_0 : Int32) (v3_0 : Int32) (H : Heap) (locs : List Loc) (ls : Array Slot), va_P D vwCl (cW a cJ cI cO R b pr_1 tm_2 cn_3 sm ac re kn) H → va_D A (cW a cJ cI cO R b pr_1 tm_2 cn_3 sm ac re kn) → va_S A s.heap H locs → lv_has ls 4 [(0, .ref (a 15)), (1, .int p0), (2, .int v2_0), (3, .int v3_0)] → K0 v2_0 v3_0 = some (r, pr', tm', cn') → G H locs 0 0 (F0 m 42 ls [])) (fu0 : Nat) (v2_0 : Int32) (v3_0 : Int32) (H : Heap) (locs : List Loc) (ls : Array Slot), va_P D vwCl (cW a cJ cI cO R b pr_1 tm_2 cn_3 sm ac re kn) H → va_D A (cW a cJ cI cO R b pr_1 tm_2 cn_3 sm ac re kn) → va_S A s.heap H locs → lv_has ls 4 [(0, .ref (a 15)), (1, .int p0), (2, .int v2_0), (3, .int v3_0)] → p_X1_tauByPowers_L0 F tm_2 cn_3 K0 fu0 v2_0 v3_0 = some (r, pr', tm', cn') → G H locs 0 0 (F0 m 12 ls []) := by
    intro K0 HX0 fu0
    induction fu0 with
    | zero =>
      intro v2_0 v3_0 H locs ls hP hD hS hl h
      exact (zno h).elim
    | succ fu0 ih0 =>
      intro v2_0 v3_0 H locs ls hP hD hS hl h
      refine hG _ _ _ _ _ ?_
      unfold p_X1_tauByPowers_L0 at h
      refine lv_iload_n hx hb dX1_tauByPowers_12 rfl (lv_at hl 3 rfl) ?_
      refine lv_aload_n hx hb dX1_tauByPowers_13 rfl (lv_at hl 0 rfl) ?_
      refine va_get (D := D) (ci := 3) (v := .ref (a 17)) (C := RX1) (T := TX1) (N := 2) hx hb hts kwX1 hown hK hP 15 rfl rfl 0 (by decide) kf_12 (fun _ h9 => h9) rfl dX1_tauByPowers_14 ?_
      obtain ⟨r5, e6, h⟩ := zb1_some h
      refine zgoi (va_runV (As := []) (rest := [.int v3_0]) ⟨hx, hb, hml, hown, hts⟩ (c_X2_count l D a cJ cI cO cB R b pr_1 tm_2 cn_3 sm ac re kn r5 e6 H.size) (cwV 0 hts gX1_tauByPowers_X2_count rfl rfl rfl hdV_X2_count ⟨Nat.le_of_ble_eq_true rfl, Nat.le_of_ble_eq_true rfl⟩) (zpreV (q0 := 17) (ci := 4) (T := TX2) (N := 3) hK hP hD rfl rfl []) rfl rfl hl.1 rfl (lv_room (Nat.le_of_ble_eq_true rfl)) dX1_tauByPowers_17 ⟨Nat.le_of_ble_eq_true rfl, Nat.le_of_ble_eq_true rfl⟩) (zfree hD hS hA) (zjW hD hS hA) hS (fun H locs hP hD hS => ?_)
      replace hP : va_P D vwCl (cW a cJ cI cO R b pr_1 tm_2 cn_3 sm ac re kn) H := hP
      replace hD : va_D A (cW a cJ cI cO R b pr_1 tm_2 cn_3 sm ac re kn) := hD
      refine lv_icmp_ge (tgt := 42) hx hb dX1_tauByPowers_20 (by decide) (fun c20 => ?_) (fun c20 => ?_)
      · replace h := zif_t h c20
        exact hGW _ _ _ _ _ (HX0 v2_0 v3_0 _ _ ls hP hD hS (lv_sub hl [0, 1, 2, 3] rfl) h)
      · replace h := zif_f h c20
        refine lv_iload_n hx hb dX1_tauByPowers_23 rfl (lv_at hl 2 rfl) ?_
        refine lv_aload_n hx hb dX1_tauByPowers_24 rfl (lv_at hl 0 rfl) ?_
        refine va_get (D := D) (ci := 3) (v := .ref (a 17)) (C := RX1) (T := TX1) (N := 2) hx hb hts kwX1 hown hK hP 15 rfl rfl 0 (by decide) kf_12 (fun _ h9 => h9) rfl dX1_tauByPowers_25 ?_
        refine lv_iload_n hx hb dX1_tauByPowers_28 rfl (lv_at hl 3 rfl) ?_
        obtain ⟨r7, e8, h⟩ := zb1_some h
        refine zgoi (va_runV (As := [.int v3_0]) (rest := [.int v2_0]) ⟨hx, hb, hml, hown, hts⟩ (c_X2_timesAt l D a cJ cI cO cB R b pr_1 tm_2 cn_3 sm ac re kn v3_0 r7 e8 H.size) (cwV 1 hts gX1_tauByPowers_X2_timesAt rfl rfl rfl hdV_X2_timesAt ⟨Nat.le_of_ble_eq_true rfl, Nat.le_of_ble_eq_true rfl⟩) (zpreV (q0 := 17) (ci := 4) (T := TX2) (N := 3) hK hP hD rfl rfl [.int v3_0]) rfl rfl hl.1 rfl (lv_room (Nat.le_of_ble_eq_true rfl)) dX1_tauByPowers_29 ⟨Nat.le_of_ble_eq_true rfl, Nat.le_of_ble_eq_true rfl⟩) (zfree hD hS hA) (zjW hD hS hA) hS (fun H locs hP hD hS => ?_)
        replace hP : va_P D vwCl (cW a cJ cI cO R b pr_1 tm_2 cn_3 sm ac re kn) H := hP
        replace hD : va_D A (cW a cJ cI cO R b pr_1 tm_2 cn_3 sm ac re kn) := hD
        refine lv_iconst (v := (1 : Int32)) hx hb dX1_tauByPowers_32 (by decide) ?_
        refine lv_iadd hx hb dX1_tauByPowers_33 ?_
        refine lv_imul hx hb dX1_tauByPowers_34 ?_
        refine lv_istore_n (lv' := [(2, .int (v2_0 * (r7 + (1 : Int32)))), (0, .ref (a 15)), (1, .int p0), (3, .int v3_0)]) hx hb dX1_tauByPowers_35 rfl hl (by decide) rfl (fun ls hl => ?_)
        refine lv_iinc (v := (v3_0 + (1 : Int32))) (lv' := [(3, .int (v3_0 + (1 : Int32))), (2, .int (v2_0 * (r7 + (1 : Int32)))), (0, .ref (a 15)), (1, .int p0)]) hx hb dX1_tauByPowers_36 hl (k := 3) rfl rfl (by decide) rfl (fun ls hl => ?_)
        refine lv_goto (tgt := 12) hx hb dX1_tauByPowers_39 (by decide) ?_
        exact hGW _ _ _ _ _ (ih0 (v2_0 * (r7 + (1 : Int32))) (v3_0 + (1 : Int32)) _ _ ls hP hD hS (lv_sub hl [2, 3, 1, 0] rfl) h)
  exact hGW _ _ _ _ _ (L0 _ X0 F (1 : Int32) (0 : Int32) _ _ ls hP hD hS (lv_sub hl [2, 3, 1, 0] rfl) h)

noncomputable def p_X1_sigmaByPowers_L1 (F : Nat) (pr_1 : Nat → Int32) (tm_2 : Nat → Int32) (v3_0 : Int32) (k : Int32 → Int32 → Int32 → Option (Int32 × (Nat → Int32) × (Nat → Int32) × Int32)) : Nat → Int32 → Int32 → Int32 → Option (Int32 × (Nat → Int32) × (Nat → Int32) × Int32)
  | 0, _, _, _ => none
  | n + 1, v4_1, v5_1, v6_1 => (zb1 (p_X2_timesAt tm_2 v3_0) (fun r7 => (if r7 ≤ v6_1 then (k v4_1 v5_1 v6_1) else (zb1 (p_X2_primeAt pr_1 v3_0) (fun r9 => (p_X1_sigmaByPowers_L1 F pr_1 tm_2 v3_0 k n (v4_1 * r9) (v5_1 + (v4_1 * r9)) (v6_1 + (1 : Int32))))))))
noncomputable def p_X1_sigmaByPowers_L0 (F : Nat) (pr_1 : Nat → Int32) (tm_2 : Nat → Int32) (cn_3 : Int32) (k : Int32 → Int32 → Option (Int32 × (Nat → Int32) × (Nat → Int32) × Int32)) : Nat → Int32 → Int32 → Option (Int32 × (Nat → Int32) × (Nat → Int32) × Int32)
  | 0, _, _ => none
  | n + 1, v2_0, v3_0 => (zb1 (p_X2_count cn_3) (fun r5 => (if r5 ≤ v3_0 then (k v2_0 v3_0) else (p_X1_sigmaByPowers_L1 F pr_1 tm_2 v3_0 (fun v4_1 v5_1 v6_1 => (p_X1_sigmaByPowers_L0 F pr_1 tm_2 cn_3 k n (v2_0 * v5_1) (v3_0 + (1 : Int32)))) F (1 : Int32) (1 : Int32) (0 : Int32)))))
noncomputable def p_X1_sigmaByPowers (F : Nat) (pr : Nat → Int32) (tm : Nat → Int32) (p0 : Int32) : Option (Int32 × (Nat → Int32) × (Nat → Int32) × Int32) := (zb3 (p_X2_lay F pr tm p0) (fun pr_1 tm_2 cn_3 => (p_X1_sigmaByPowers_L0 F pr_1 tm_2 cn_3 (fun v2_0 v3_0 => (some (v2_0, pr_1, tm_2, cn_3))) F (1 : Int32) (0 : Int32))))
theorem hdV_X1_sigmaByPowers : yX1_sigmaByPowers.cls = RX1 ∧ yX1_sigmaByPowers.cls ≠ "java/lang/invoke/MethodHandle" ∧ yX1_sigmaByPowers.cls ≠ "java/lang/invoke/VarHandle" ∧ (parseMethodDescriptor yX1_sigmaByPowers.desc).map (fun d => d.parameters.length) = some 1 := by decide +kernel
set_option maxHeartbeats 4000000 in
set_option maxRecDepth 100000 in
theorem c_X1_sigmaByPowers (l : Launch) (D : va_G) (a : Nat → Nat) (cJ cI cO cB : ClassId) (R : Nat → Nat → Int64) (b : Bool) (pr : Nat → Int32) (tm : Nat → Int32) (cn : Int32) (sm : Nat → Int32) (ac : Int32) (re : Int32) (kn : Int32) (F : Nat) (p0 : Int32) (r : Int32) (pr' : Nat → Int32) (tm' : Nat → Int32) (cn' : Int32) (h : p_X1_sigmaByPowers F pr tm p0 = some (r, pr', tm', cn')) : zMi l yX1_sigmaByPowers wsX1_sigmaByPowers 1 24 0 0 D (zT cJ cI cO cB) [.ref (a 15), .int p0] (cW a cJ cI cO R b pr tm cn sm ac re kn) (cW a cJ cI cO R b pr' tm' cn' sm ac re kn) r := by
  intro sz
  delta zQi
  refine Met.ofW (cc := cX1_sigmaByPowers) (maxL := 7) (ret := (some .int)) (by decide) rfl ?_
  intro p e s m args below meth c s₁ B hml hv
  obtain ⟨rfl, hsz, hP, hK, hD0⟩ := hv
  have hx := B.exec
  have hb := B.bytes
  have hr := B.returns
  have hts := atoms_spec (ws := wsX1_sigmaByPowers) B.pre
  have hown : s.vm.findClass RX1 = some m.cls := findClass_of_methodNamed B.named
  have hlocks := B.notSynchronized
  subst hsz
  have hD := hD0.self (sz := s.heap.size)
  generalize hAe : va_A (cW a cJ cI cO R b pr tm cn sm ac re kn) s.heap.size = A at hD ⊢
  have hA : ∀ q : Nat, s.heap.size ≤ q → A q := fun q h => by rw [← hAe]; exact Or.inr h
  have hS : va_S A s.heap s.heap [] := va_S.rf
  have hl := lv_entry ([.ref (a 15), .int p0]) (n := 7) (Nat.le_of_ble_eq_true rfl)
  rw [lg_entry_eq]
  generalize (lg_sl ([.ref (a 15), .int p0]) ++ List.replicate (7 - (lg_sl ([.ref (a 15), .int p0])).length) Slot.unset).toArray = ls at hl ⊢
  replace hl : lv_has ls 7 [(0, .ref (a 15)), (1, .int p0)] := hl
  have kwX1 : ∀ w ∈ u_ws RX1 TX1 2, w ∈ wsX1_sigmaByPowers := fun w h => List.mem_cons_of_mem _ (List.mem_append_left _ (List.mem_append_left _ (List.mem_append_left _ (List.mem_append_left _ (List.mem_append_right _ h)))))
  have kf_12 := hts (.fieldLink RX1 12 "Divisorwork$Numbers" "powers" "LDivisorwork$Powers;") (zmem 1 rfl)
  replace h : (zb3 (p_X2_lay F pr tm p0) (fun pr_1 tm_2 cn_3 => (p_X1_sigmaByPowers_L0 F pr_1 tm_2 cn_3 (fun v2_0 v3_0 => (some (v2_0, pr_1, tm_2, cn_3))) F (1 : Int32) (0 : Int32)))) = some (r, pr', tm', cn') := h
  refine zabs (fun G hG hGW => ?_)
  obtain ⟨H, hHe⟩ : ∃ H, H = s.heap := ⟨_, rfl⟩
  rw [← hHe] at hP
  replace hS : va_S A s.heap H [] := by rw [hHe]; exact hS
  refine zheap hHe ?_
  refine lv_aload_n hx hb dX1_sigmaByPowers_0 rfl (lv_at hl 0 rfl) ?_
  refine va_get (D := D) (ci := 3) (v := .ref (a 17)) (C := RX1) (T := TX1) (N := 2) hx hb hts kwX1 hown hK hP 15 rfl rfl 0 (by decide) kf_12 (fun _ h9 => h9) rfl dX1_sigmaByPowers_1 ?_
  refine lv_iload_n hx hb dX1_sigmaByPowers_4 rfl (lv_at hl 1 rfl) ?_
  obtain ⟨pr_1, tm_2, cn_3, e4, h⟩ := zb3_some h
  refine zgov (va_runV (As := [.int p0]) (rest := []) ⟨hx, hb, hml, hown, hts⟩ (c_X2_lay l D a cJ cI cO cB R b pr tm cn sm ac re kn F p0 pr_1 tm_2 cn_3 e4 H.size) (cwV 1 hts gX1_sigmaByPowers_X2_lay rfl rfl rfl hdV_X2_lay ⟨Nat.le_of_ble_eq_true rfl, Nat.le_of_ble_eq_true rfl⟩) (zpreV (q0 := 17) (ci := 4) (T := TX2) (N := 3) hK hP hD rfl rfl [.int p0]) rfl rfl hl.1 rfl (lv_room (Nat.le_of_ble_eq_true rfl)) dX1_sigmaByPowers_5 ⟨Nat.le_of_ble_eq_true rfl, Nat.le_of_ble_eq_true rfl⟩) (zfree hD hS hA) (zjW hD hS hA) hS (fun H locs hP hD hS => ?_)
  replace hP : va_P D vwCl (cW a cJ cI cO R b pr_1 tm_2 cn_3 sm ac re kn) H := hP
  replace hD : va_D A (cW a cJ cI cO R b pr_1 tm_2 cn_3 sm ac re kn) := hD
  refine lv_iconst (v := (1 : Int32)) hx hb dX1_sigmaByPowers_8 (by decide) ?_
  refine lv_istore_n (lv' := [(2, .int (1 : Int32)), (0, .ref (a 15)), (1, .int p0)]) hx hb dX1_sigmaByPowers_9 rfl hl (by decide) rfl (fun ls hl => ?_)
  refine lv_iconst (v := (0 : Int32)) hx hb dX1_sigmaByPowers_10 (by decide) ?_
  refine lv_istore_n (lv' := [(3, .int (0 : Int32)), (2, .int (1 : Int32)), (0, .ref (a 15)), (1, .int p0)]) hx hb dX1_sigmaByPowers_11 rfl hl (by decide) rfl (fun ls hl => ?_)
  have X0 : ∀ (v2_0 : Int32) (v3_0 : Int32) (H : Heap) (locs : List Loc) (ls : Array Slot), va_P D vwCl (cW a cJ cI cO R b pr_1 tm_2 cn_3 sm ac re kn) H → va_D A (cW a cJ cI cO R b pr_1 tm_2 cn_3 sm ac re kn) → va_S A s.heap H locs → lv_has ls 7 [(0, .ref (a 15)), (1, .int p0), (2, .int v2_0), (3, .int v3_0)] → (some (v2_0, pr_1, tm_2, cn_3)) = some (r, pr', tm', cn') → G H locs 0 0 (F0 m 82 ls []) := by
    intro v2_0 v3_0 H locs ls hP hD hS hl h
    refine hG _ _ _ _ _ ?_
    refine lv_iload_n hx hb dX1_sigmaByPowers_82 rfl (lv_at hl 2 rfl) ?_
    have g0 := Option.some.inj h
    obtain ⟨h1, g1⟩ := Prod.mk.inj g0
    obtain ⟨h2, g2⟩ := Prod.mk.inj g1
    obtain ⟨h3, g3⟩ := Prod.mk.inj g2
    subst h1
    subst h2
    subst h3
    subst g3
    exact W.iret (v := v2_0) hx hb hr (fun t ht hW => ⟨⟨v2_0, (), rfl, rfl, by rw [ht]; exact hP, va_K.moved hW.alike hK, hD⟩, hS.F ht⟩) hS.2.2 dX1_sigmaByPowers_83
  have L0 : ∀ (K0 : Int32 → Int32 → Option (Int32 × (Nat → Int32) × (Nat → Int32) × Int32)) (HX0 : ∀ (v2_0 : Int32) (v3_0 : Int32) (H : Heap) (locs : List Loc) (ls : Array Slot), va_P D vwCl (cW a cJ cI cO R b pr_1 tm_2 cn_3 sm ac re kn) H → va_D A (cW a cJ cI cO R b pr_1 tm_2 cn_3 sm ac re kn) → va_S A s.heap H locs → lv_has ls 7 [(0, .ref (a 15)), (1, .int p0), (2, .int v2_0), (3, .int v3_0)] → K0 v2_0 v3_0 = some (r, pr', tm', cn') → G H locs 0 0 (F0 m 82 ls [])) (fu0 : Nat) (v2_0 : Int32) (v3_0 : Int32) (H : Heap) (locs : List Loc) (ls : Array Slot), va_P D vwCl (cW a cJ cI cO R b pr_1 tm_2 cn_3 sm ac re kn) H → va_D A (cW a cJ cI cO R b pr_1 tm_2 cn_3 sm ac re kn) → va_S A s.heap H locs → lv_has ls 7 [(0, .ref (a 15)), (1, .int p0), (2, .int v2_0), (3, .int v3_0)] → p_X1_sigmaByPowers_L0 F pr_1 tm_2 cn_3 K0 fu0 v2_0 v3_0 = some (r, pr', tm', cn') → G H locs 0 0 (F0 m 12 ls []) := by
    intro K0 HX0 fu0
    induction fu0 with
    | zero =>
      intro v2_0 v3_0 H locs ls hP hD hS hl h
      exact (zno h).elim
    | succ fu0 ih0 =>
      intro v2_0 v3_0 H locs ls hP hD hS hl h
      refine hG _ _ _ _ _ ?_
      unfold p_X1_sigmaByPowers_L0 at h
      refine lv_iload_n hx hb dX1_sigmaByPowers_12 rfl (lv_at hl 3 rfl) ?_
      refine lv_aload_n hx hb dX1_sigmaByPowers_13 rfl (lv_at hl 0 rfl) ?_
      refine va_get (D := D) (ci := 3) (v := .ref (a 17)) (C := RX1) (T := TX1) (N := 2) hx hb hts kwX1 hown hK hP 15 rfl rfl 0 (by decide) kf_12 (fun _ h9 => h9) rfl dX1_sigmaByPowers_14 ?_
      obtain ⟨r5, e6, h⟩ := zb1_some h
      refine zgoi (va_runV (As := []) (rest := [.int v3_0]) ⟨hx, hb, hml, hown, hts⟩ (c_X2_count l D a cJ cI cO cB R b pr_1 tm_2 cn_3 sm ac re kn r5 e6 H.size) (cwV 0 hts gX1_sigmaByPowers_X2_count rfl rfl rfl hdV_X2_count ⟨Nat.le_of_ble_eq_true rfl, Nat.le_of_ble_eq_true rfl⟩) (zpreV (q0 := 17) (ci := 4) (T := TX2) (N := 3) hK hP hD rfl rfl []) rfl rfl hl.1 rfl (lv_room (Nat.le_of_ble_eq_true rfl)) dX1_sigmaByPowers_17 ⟨Nat.le_of_ble_eq_true rfl, Nat.le_of_ble_eq_true rfl⟩) (zfree hD hS hA) (zjW hD hS hA) hS (fun H locs hP hD hS => ?_)
      replace hP : va_P D vwCl (cW a cJ cI cO R b pr_1 tm_2 cn_3 sm ac re kn) H := hP
      replace hD : va_D A (cW a cJ cI cO R b pr_1 tm_2 cn_3 sm ac re kn) := hD
      refine lv_icmp_ge (tgt := 82) hx hb dX1_sigmaByPowers_20 (by decide) (fun c20 => ?_) (fun c20 => ?_)
      · replace h := zif_t h c20
        exact hGW _ _ _ _ _ (HX0 v2_0 v3_0 _ _ ls hP hD hS (lv_sub hl [0, 1, 2, 3] rfl) h)
      · replace h := zif_f h c20
        refine lv_iconst (v := (1 : Int32)) hx hb dX1_sigmaByPowers_23 (by decide) ?_
        refine lv_istore (lv' := [(4, .int (1 : Int32)), (0, .ref (a 15)), (1, .int p0), (2, .int v2_0), (3, .int v3_0)]) hx hb dX1_sigmaByPowers_24 hl (by decide) rfl (fun ls hl => ?_)
        refine lv_iconst (v := (1 : Int32)) hx hb dX1_sigmaByPowers_26 (by decide) ?_
        refine lv_istore (lv' := [(5, .int (1 : Int32)), (4, .int (1 : Int32)), (0, .ref (a 15)), (1, .int p0), (2, .int v2_0), (3, .int v3_0)]) hx hb dX1_sigmaByPowers_27 hl (by decide) rfl (fun ls hl => ?_)
        refine lv_iconst (v := (0 : Int32)) hx hb dX1_sigmaByPowers_29 (by decide) ?_
        refine lv_istore (lv' := [(6, .int (0 : Int32)), (5, .int (1 : Int32)), (4, .int (1 : Int32)), (0, .ref (a 15)), (1, .int p0), (2, .int v2_0), (3, .int v3_0)]) hx hb dX1_sigmaByPowers_30 hl (by decide) rfl (fun ls hl => ?_)
        have X1 : ∀ (v4_1 : Int32) (v5_1 : Int32) (v6_1 : Int32) (H : Heap) (locs : List Loc) (ls : Array Slot), va_P D vwCl (cW a cJ cI cO R b pr_1 tm_2 cn_3 sm ac re kn) H → va_D A (cW a cJ cI cO R b pr_1 tm_2 cn_3 sm ac re kn) → va_S A s.heap H locs → lv_has ls 7 [(0, .ref (a 15)), (1, .int p0), (2, .int v2_0), (3, .int v3_0), (4, .int v4_1), (5, .int v5_1), (6, .int v6_1)] → (p_X1_sigmaByPowers_L0 F pr_1 tm_2 cn_3 K0 fu0 (v2_0 * v5_1) (v3_0 + (1 : Int32))) = some (r, pr', tm', cn') → G H locs 0 0 (F0 m 71 ls []) := by
          intro v4_1 v5_1 v6_1 H locs ls hP hD hS hl h
          refine hG _ _ _ _ _ ?_
          refine lv_iload_n hx hb dX1_sigmaByPowers_71 rfl (lv_at hl 2 rfl) ?_
          refine lv_iload hx hb dX1_sigmaByPowers_72 (lv_at hl 5 rfl) ?_
          refine lv_imul hx hb dX1_sigmaByPowers_74 ?_
          refine lv_istore_n (lv' := [(2, .int (v2_0 * v5_1)), (0, .ref (a 15)), (1, .int p0), (3, .int v3_0), (4, .int v4_1), (5, .int v5_1), (6, .int v6_1)]) hx hb dX1_sigmaByPowers_75 rfl hl (by decide) rfl (fun ls hl => ?_)
          refine lv_iinc (v := (v3_0 + (1 : Int32))) (lv' := [(3, .int (v3_0 + (1 : Int32))), (2, .int (v2_0 * v5_1)), (0, .ref (a 15)), (1, .int p0), (4, .int v4_1), (5, .int v5_1), (6, .int v6_1)]) hx hb dX1_sigmaByPowers_76 hl (k := 3) rfl rfl (by decide) rfl (fun ls hl => ?_)
          refine lv_goto (tgt := 12) hx hb dX1_sigmaByPowers_79 (by decide) ?_
          exact hGW _ _ _ _ _ (ih0 (v2_0 * v5_1) (v3_0 + (1 : Int32)) _ _ ls hP hD hS (lv_sub hl [2, 3, 1, 0] rfl) h)
        have L1 : ∀ (K1 : Int32 → Int32 → Int32 → Option (Int32 × (Nat → Int32) × (Nat → Int32) × Int32)) (HX1 : ∀ (v4_1 : Int32) (v5_1 : Int32) (v6_1 : Int32) (H : Heap) (locs : List Loc) (ls : Array Slot), va_P D vwCl (cW a cJ cI cO R b pr_1 tm_2 cn_3 sm ac re kn) H → va_D A (cW a cJ cI cO R b pr_1 tm_2 cn_3 sm ac re kn) → va_S A s.heap H locs → lv_has ls 7 [(0, .ref (a 15)), (1, .int p0), (2, .int v2_0), (3, .int v3_0), (4, .int v4_1), (5, .int v5_1), (6, .int v6_1)] → K1 v4_1 v5_1 v6_1 = some (r, pr', tm', cn') → G H locs 0 0 (F0 m 71 ls [])) (fu1 : Nat) (v4_1 : Int32) (v5_1 : Int32) (v6_1 : Int32) (H : Heap) (locs : List Loc) (ls : Array Slot), va_P D vwCl (cW a cJ cI cO R b pr_1 tm_2 cn_3 sm ac re kn) H → va_D A (cW a cJ cI cO R b pr_1 tm_2 cn_3 sm ac re kn) → va_S A s.heap H locs → lv_has ls 7 [(0, .ref (a 15)), (1, .int p0), (2, .int v2_0), (3, .int v3_0), (4, .int v4_1), (5, .int v5_1), (6, .int v6_1)] → p_X1_sigmaByPowers_L1 F pr_1 tm_2 v3_0 K1 fu1 v4_1 v5_1 v6_1 = some (r, pr', tm', cn') → G H locs 0 0 (F0 m 32 ls []) := by
          intro K1 HX1 fu1
          induction fu1 with
          | zero =>
            intro v4_1 v5_1 v6_1 H locs ls hP hD hS hl h
            exact (zno h).elim
          | succ fu1 ih1 =>
            intro v4_1 v5_1 v6_1 H locs ls hP hD hS hl h
            refine hG _ _ _ _ _ ?_
            unfold p_X1_sigmaByPowers_L1 at h
            refine lv_iload hx hb dX1_sigmaByPowers_32 (lv_at hl 6 rfl) ?_
            refine lv_aload_n hx hb dX1_sigmaByPowers_34 rfl (lv_at hl 0 rfl) ?_
            refine va_get (D := D) (ci := 3) (v := .ref (a 17)) (C := RX1) (T := TX1) (N := 2) hx hb hts kwX1 hown hK hP 15 rfl rfl 0 (by decide) kf_12 (fun _ h9 => h9) rfl dX1_sigmaByPowers_35 ?_
            refine lv_iload_n hx hb dX1_sigmaByPowers_38 rfl (lv_at hl 3 rfl) ?_
            obtain ⟨r7, e8, h⟩ := zb1_some h
            refine zgoi (va_runV (As := [.int v3_0]) (rest := [.int v6_1]) ⟨hx, hb, hml, hown, hts⟩ (c_X2_timesAt l D a cJ cI cO cB R b pr_1 tm_2 cn_3 sm ac re kn v3_0 r7 e8 H.size) (cwV 1 hts gX1_sigmaByPowers_X2_timesAt rfl rfl rfl hdV_X2_timesAt ⟨Nat.le_of_ble_eq_true rfl, Nat.le_of_ble_eq_true rfl⟩) (zpreV (q0 := 17) (ci := 4) (T := TX2) (N := 3) hK hP hD rfl rfl [.int v3_0]) rfl rfl hl.1 rfl (lv_room (Nat.le_of_ble_eq_true rfl)) dX1_sigmaByPowers_39 ⟨Nat.le_of_ble_eq_true rfl, Nat.le_of_ble_eq_true rfl⟩) (zfree hD hS hA) (zjW hD hS hA) hS (fun H locs hP hD hS => ?_)
            replace hP : va_P D vwCl (cW a cJ cI cO R b pr_1 tm_2 cn_3 sm ac re kn) H := hP
            replace hD : va_D A (cW a cJ cI cO R b pr_1 tm_2 cn_3 sm ac re kn) := hD
            refine lv_icmp_ge (tgt := 71) hx hb dX1_sigmaByPowers_42 (by decide) (fun c42 => ?_) (fun c42 => ?_)
            · replace h := zif_t h c42
              exact hGW _ _ _ _ _ (HX1 v4_1 v5_1 v6_1 _ _ ls hP hD hS (lv_sub hl [0, 1, 2, 3, 4, 5, 6] rfl) h)
            · replace h := zif_f h c42
              refine lv_iload hx hb dX1_sigmaByPowers_45 (lv_at hl 4 rfl) ?_
              refine lv_aload_n hx hb dX1_sigmaByPowers_47 rfl (lv_at hl 0 rfl) ?_
              refine va_get (D := D) (ci := 3) (v := .ref (a 17)) (C := RX1) (T := TX1) (N := 2) hx hb hts kwX1 hown hK hP 15 rfl rfl 0 (by decide) kf_12 (fun _ h9 => h9) rfl dX1_sigmaByPowers_48 ?_
              refine lv_iload_n hx hb dX1_sigmaByPowers_51 rfl (lv_at hl 3 rfl) ?_
              obtain ⟨r9, e10, h⟩ := zb1_some h
              refine zgoi (va_runV (As := [.int v3_0]) (rest := [.int v4_1]) ⟨hx, hb, hml, hown, hts⟩ (c_X2_primeAt l D a cJ cI cO cB R b pr_1 tm_2 cn_3 sm ac re kn v3_0 r9 e10 H.size) (cwV 1 hts gX1_sigmaByPowers_X2_primeAt rfl rfl rfl hdV_X2_primeAt ⟨Nat.le_of_ble_eq_true rfl, Nat.le_of_ble_eq_true rfl⟩) (zpreV (q0 := 17) (ci := 4) (T := TX2) (N := 3) hK hP hD rfl rfl [.int v3_0]) rfl rfl hl.1 rfl (lv_room (Nat.le_of_ble_eq_true rfl)) dX1_sigmaByPowers_52 ⟨Nat.le_of_ble_eq_true rfl, Nat.le_of_ble_eq_true rfl⟩) (zfree hD hS hA) (zjW hD hS hA) hS (fun H locs hP hD hS => ?_)
              replace hP : va_P D vwCl (cW a cJ cI cO R b pr_1 tm_2 cn_3 sm ac re kn) H := hP
              replace hD : va_D A (cW a cJ cI cO R b pr_1 tm_2 cn_3 sm ac re kn) := hD
              refine lv_imul hx hb dX1_sigmaByPowers_55 ?_
              refine lv_istore (lv' := [(4, .int (v4_1 * r9)), (0, .ref (a 15)), (1, .int p0), (2, .int v2_0), (3, .int v3_0), (5, .int v5_1), (6, .int v6_1)]) hx hb dX1_sigmaByPowers_56 hl (by decide) rfl (fun ls hl => ?_)
              refine lv_iload hx hb dX1_sigmaByPowers_58 (lv_at hl 5 rfl) ?_
              refine lv_iload hx hb dX1_sigmaByPowers_60 (lv_at hl 0 rfl) ?_
              refine lv_iadd hx hb dX1_sigmaByPowers_62 ?_
              refine lv_istore (lv' := [(5, .int (v5_1 + (v4_1 * r9))), (4, .int (v4_1 * r9)), (0, .ref (a 15)), (1, .int p0), (2, .int v2_0), (3, .int v3_0), (6, .int v6_1)]) hx hb dX1_sigmaByPowers_63 hl (by decide) rfl (fun ls hl => ?_)
              refine lv_iinc (v := (v6_1 + (1 : Int32))) (lv' := [(6, .int (v6_1 + (1 : Int32))), (5, .int (v5_1 + (v4_1 * r9))), (4, .int (v4_1 * r9)), (0, .ref (a 15)), (1, .int p0), (2, .int v2_0), (3, .int v3_0)]) hx hb dX1_sigmaByPowers_65 hl (k := 6) rfl rfl (by decide) rfl (fun ls hl => ?_)
              refine lv_goto (tgt := 32) hx hb dX1_sigmaByPowers_68 (by decide) ?_
              exact hGW _ _ _ _ _ (ih1 (v4_1 * r9) (v5_1 + (v4_1 * r9)) (v6_1 + (1 : Int32)) _ _ ls hP hD hS (lv_sub hl [3, 4, 5, 6, 2, 1, 0] rfl) h)
        exact hGW _ _ _ _ _ (L1 _ X1 F (1 : Int32) (1 : Int32) (0 : Int32) _ _ ls hP hD hS (lv_sub hl [3, 4, 5, 6, 2, 1, 0] rfl) h)
  exact hGW _ _ _ _ _ (L0 _ X0 F (1 : Int32) (0 : Int32) _ _ ls hP hD hS (lv_sub hl [2, 3, 1, 0] rfl) h)

noncomputable def p_X1_squareOneByOne_L0 (F : Nat) (p0 : Int32) (k : Int32 → Int32 → Option Int32) : Nat → Int32 → Int32 → Option Int32
  | 0, _, _ => none
  | n + 1, v2_0, v3_0 => (if (31 : Int32) < v3_0 then (k v2_0 v3_0) else (if p0 < (v3_0 * v3_0) then (k v2_0 v3_0) else (zg ((v3_0 * v3_0) = 0) (if ¬ (zr p0 (v3_0 * v3_0)) = 0 then (p_X1_squareOneByOne_L0 F p0 k n v2_0 (v3_0 + (1 : Int32))) else (p_X1_squareOneByOne_L0 F p0 k n (v3_0 * v3_0) (v3_0 + (1 : Int32)))))))
noncomputable def p_X1_squareOneByOne (F : Nat) (p0 : Int32) : Option Int32 := (p_X1_squareOneByOne_L0 F p0 (fun v2_0 v3_0 => (some v2_0)) F (1 : Int32) (1 : Int32))
theorem hdV_X1_squareOneByOne : yX1_squareOneByOne.cls = RX1 ∧ yX1_squareOneByOne.cls ≠ "java/lang/invoke/MethodHandle" ∧ yX1_squareOneByOne.cls ≠ "java/lang/invoke/VarHandle" ∧ (parseMethodDescriptor yX1_squareOneByOne.desc).map (fun d => d.parameters.length) = some 1 := by decide +kernel
set_option maxHeartbeats 4000000 in
set_option maxRecDepth 100000 in
theorem c_X1_squareOneByOne (l : Launch) (D : va_G) (a : Nat → Nat) (cJ cI cO cB : ClassId) (R : Nat → Nat → Int64) (b : Bool) (pr : Nat → Int32) (tm : Nat → Int32) (cn : Int32) (sm : Nat → Int32) (ac : Int32) (re : Int32) (kn : Int32) (F : Nat) (p0 : Int32) (r : Int32) (h : p_X1_squareOneByOne F p0 = some r) : zMi l yX1_squareOneByOne wsX1_squareOneByOne 0 0 0 0 D (zT cJ cI cO cB) [.ref (a 15), .int p0] (cW a cJ cI cO R b pr tm cn sm ac re kn) (cW a cJ cI cO R b pr tm cn sm ac re kn) r := by
  intro sz
  delta zQi
  refine Met.ofW (cc := cX1_squareOneByOne) (maxL := 4) (ret := (some .int)) (by decide) rfl ?_
  intro p e s m args below meth c s₁ B hml hv
  obtain ⟨rfl, hsz, hP, hK, hD0⟩ := hv
  have hx := B.exec
  have hb := B.bytes
  have hr := B.returns
  have hts := atoms_spec (ws := wsX1_squareOneByOne) B.pre
  have hown : s.vm.findClass RX1 = some m.cls := findClass_of_methodNamed B.named
  have hlocks := B.notSynchronized
  subst hsz
  have hD := hD0.self (sz := s.heap.size)
  generalize hAe : va_A (cW a cJ cI cO R b pr tm cn sm ac re kn) s.heap.size = A at hD ⊢
  have hA : ∀ q : Nat, s.heap.size ≤ q → A q := fun q h => by rw [← hAe]; exact Or.inr h
  have hS : va_S A s.heap s.heap [] := va_S.rf
  have hl := lv_entry ([.ref (a 15), .int p0]) (n := 4) (Nat.le_of_ble_eq_true rfl)
  rw [lg_entry_eq]
  generalize (lg_sl ([.ref (a 15), .int p0]) ++ List.replicate (4 - (lg_sl ([.ref (a 15), .int p0])).length) Slot.unset).toArray = ls at hl ⊢
  replace hl : lv_has ls 4 [(0, .ref (a 15)), (1, .int p0)] := hl
  replace h : (p_X1_squareOneByOne_L0 F p0 (fun v2_0 v3_0 => (some v2_0)) F (1 : Int32) (1 : Int32)) = some r := h
  refine zabs (fun G hG hGW => ?_)
  obtain ⟨H, hHe⟩ : ∃ H, H = s.heap := ⟨_, rfl⟩
  rw [← hHe] at hP
  replace hS : va_S A s.heap H [] := by rw [hHe]; exact hS
  refine zheap hHe ?_
  refine lv_iconst (v := (1 : Int32)) hx hb dX1_squareOneByOne_0 (by decide) ?_
  refine lv_istore_n (lv' := [(2, .int (1 : Int32)), (0, .ref (a 15)), (1, .int p0)]) hx hb dX1_squareOneByOne_1 rfl hl (by decide) rfl (fun ls hl => ?_)
  refine lv_iconst (v := (1 : Int32)) hx hb dX1_squareOneByOne_2 (by decide) ?_
  refine lv_istore_n (lv' := [(3, .int (1 : Int32)), (2, .int (1 : Int32)), (0, .ref (a 15)), (1, .int p0)]) hx hb dX1_squareOneByOne_3 rfl hl (by decide) rfl (fun ls hl => ?_)
  have X0 : ∀ (v2_0 : Int32) (v3_0 : Int32) (H : Heap) (locs : List Loc) (ls : Array Slot), va_P D vwCl (cW a cJ cI cO R b pr tm cn sm ac re kn) H → va_D A (cW a cJ cI cO R b pr tm cn sm ac re kn) → va_S A s.heap H locs → lv_has ls 4 [(0, .ref (a 15)), (1, .int p0), (2, .int v2_0), (3, .int v3_0)] → (some v2_0) = some r → G H locs 0 0 (F0 m 35 ls []) := by
    intro v2_0 v3_0 H locs ls hP hD hS hl h
    refine hG _ _ _ _ _ ?_
    refine lv_iload_n hx hb dX1_squareOneByOne_35 rfl (lv_at hl 2 rfl) ?_
    have h1 := Option.some.inj h
    subst h1
    exact W.iret (v := v2_0) hx hb hr (fun t ht hW => ⟨⟨v2_0, (), rfl, rfl, by rw [ht]; exact hP, va_K.moved hW.alike hK, hD⟩, hS.F ht⟩) hS.2.2 dX1_squareOneByOne_36
  have L0 : ∀ (K0 : Int32 → Int32 → Option Int32) (HX0 : ∀ (v2_0 : Int32) (v3_0 : Int32) (H : Heap) (locs : List Loc) (ls : Array Slot), va_P D vwCl (cW a cJ cI cO R b pr tm cn sm ac re kn) H → va_D A (cW a cJ cI cO R b pr tm cn sm ac re kn) → va_S A s.heap H locs → lv_has ls 4 [(0, .ref (a 15)), (1, .int p0), (2, .int v2_0), (3, .int v3_0)] → K0 v2_0 v3_0 = some r → G H locs 0 0 (F0 m 35 ls [])) (fu0 : Nat) (v2_0 : Int32) (v3_0 : Int32) (H : Heap) (locs : List Loc) (ls : Array Slot), va_P D vwCl (cW a cJ cI cO R b pr tm cn sm ac re kn) H → va_D A (cW a cJ cI cO R b pr tm cn sm ac re kn) → va_S A s.heap H locs → lv_has ls 4 [(0, .ref (a 15)), (1, .int p0), (2, .int v2_0), (3, .int v3_0)] → p_X1_squareOneByOne_L0 F p0 K0 fu0 v2_0 v3_0 = some r → G H locs 0 0 (F0 m 4 ls []) := by
    intro K0 HX0 fu0
    induction fu0 with
    | zero =>
      intro v2_0 v3_0 H locs ls hP hD hS hl h
      exact (zno h).elim
    | succ fu0 ih0 =>
      intro v2_0 v3_0 H locs ls hP hD hS hl h
      refine hG _ _ _ _ _ ?_
      unfold p_X1_squareOneByOne_L0 at h
      refine lv_iload_n hx hb dX1_squareOneByOne_4 rfl (lv_at hl 3 rfl) ?_
      refine lv_bipush (v := (31 : Int32)) hx hb dX1_squareOneByOne_5 (by decide) ?_
      refine lv_icmp_gt (tgt := 35) hx hb dX1_squareOneByOne_7 (by decide) (fun c7 => ?_) (fun c7 => ?_)
      · replace h := zif_t h c7
        exact hGW _ _ _ _ _ (HX0 v2_0 v3_0 _ _ ls hP hD hS (lv_sub hl [0, 1, 2, 3] rfl) h)
      · replace h := zif_f h c7
        refine lv_iload_n hx hb dX1_squareOneByOne_10 rfl (lv_at hl 3 rfl) ?_
        refine lv_iload_n hx hb dX1_squareOneByOne_11 rfl (lv_at hl 3 rfl) ?_
        refine lv_imul hx hb dX1_squareOneByOne_12 ?_
        refine lv_iload_n hx hb dX1_squareOneByOne_13 rfl (lv_at hl 1 rfl) ?_
        refine lv_icmp_gt (tgt := 35) hx hb dX1_squareOneByOne_14 (by decide) (fun c14 => ?_) (fun c14 => ?_)
        · replace h := zif_t h c14
          exact hGW _ _ _ _ _ (HX0 v2_0 v3_0 _ _ ls hP hD hS (lv_sub hl [0, 1, 2, 3] rfl) h)
        · replace h := zif_f h c14
          refine lv_iload_n hx hb dX1_squareOneByOne_17 rfl (lv_at hl 1 rfl) ?_
          refine lv_iload_n hx hb dX1_squareOneByOne_18 rfl (lv_at hl 3 rfl) ?_
          refine lv_iload_n hx hb dX1_squareOneByOne_19 rfl (lv_at hl 3 rfl) ?_
          refine lv_imul hx hb dX1_squareOneByOne_20 ?_
          obtain ⟨z21, h⟩ := zg_some h
          refine lv_irem hx hb dX1_squareOneByOne_21 z21 ?_
          refine lv_if_ne (tgt := 29) hx hb dX1_squareOneByOne_22 (by decide) (fun c22 => ?_) (fun c22 => ?_)
          · replace h := zif_t h c22
            refine lv_iinc (v := (v3_0 + (1 : Int32))) (lv' := [(3, .int (v3_0 + (1 : Int32))), (0, .ref (a 15)), (1, .int p0), (2, .int v2_0)]) hx hb dX1_squareOneByOne_29 hl (k := 3) rfl rfl (by decide) rfl (fun ls hl => ?_)
            refine lv_goto (tgt := 4) hx hb dX1_squareOneByOne_32 (by decide) ?_
            exact hGW _ _ _ _ _ (ih0 v2_0 (v3_0 + (1 : Int32)) _ _ ls hP hD hS (lv_sub hl [1, 2, 3, 0] rfl) h)
          · replace h := zif_fn h c22
            refine lv_iload_n hx hb dX1_squareOneByOne_25 rfl (lv_at hl 3 rfl) ?_
            refine lv_iload_n hx hb dX1_squareOneByOne_26 rfl (lv_at hl 3 rfl) ?_
            refine lv_imul hx hb dX1_squareOneByOne_27 ?_
            refine lv_istore_n (lv' := [(2, .int (v3_0 * v3_0)), (0, .ref (a 15)), (1, .int p0), (3, .int v3_0)]) hx hb dX1_squareOneByOne_28 rfl hl (by decide) rfl (fun ls hl => ?_)
            refine lv_iinc (v := (v3_0 + (1 : Int32))) (lv' := [(3, .int (v3_0 + (1 : Int32))), (2, .int (v3_0 * v3_0)), (0, .ref (a 15)), (1, .int p0)]) hx hb dX1_squareOneByOne_29 hl (k := 3) rfl rfl (by decide) rfl (fun ls hl => ?_)
            refine lv_goto (tgt := 4) hx hb dX1_squareOneByOne_32 (by decide) ?_
            exact hGW _ _ _ _ _ (ih0 (v3_0 * v3_0) (v3_0 + (1 : Int32)) _ _ ls hP hD hS (lv_sub hl [2, 3, 1, 0] rfl) h)
  exact hGW _ _ _ _ _ (L0 _ X0 F (1 : Int32) (1 : Int32) _ _ ls hP hD hS (lv_sub hl [2, 3, 1, 0] rfl) h)

noncomputable def p_X1_turnByPowers_L0 (F : Nat) (tm_2 : Nat → Int32) (cn_3 : Int32) (k : Int32 → Int32 → Option (Int32 × (Nat → Int32) × (Nat → Int32) × Int32)) : Nat → Int32 → Int32 → Option (Int32 × (Nat → Int32) × (Nat → Int32) × Int32)
  | 0, _, _ => none
  | n + 1, v2_0, v3_0 => (zb1 (p_X2_count cn_3) (fun r5 => (if r5 ≤ v3_0 then (k v2_0 v3_0) else (zb1 (p_X2_timesAt tm_2 v3_0) (fun r7 => (p_X1_turnByPowers_L0 F tm_2 cn_3 k n (v2_0 + r7) (v3_0 + (1 : Int32))))))))
noncomputable def p_X1_turnByPowers (F : Nat) (pr : Nat → Int32) (tm : Nat → Int32) (p0 : Int32) : Option (Int32 × (Nat → Int32) × (Nat → Int32) × Int32) := (zb3 (p_X2_lay F pr tm p0) (fun pr_1 tm_2 cn_3 => (p_X1_turnByPowers_L0 F tm_2 cn_3 (fun v2_0 v3_0 => (if ¬ (zr v2_0 (2 : Int32)) = 0 then (some ((-1 : Int32), pr_1, tm_2, cn_3)) else (some ((1 : Int32), pr_1, tm_2, cn_3)))) F (0 : Int32) (0 : Int32))))
theorem hdV_X1_turnByPowers : yX1_turnByPowers.cls = RX1 ∧ yX1_turnByPowers.cls ≠ "java/lang/invoke/MethodHandle" ∧ yX1_turnByPowers.cls ≠ "java/lang/invoke/VarHandle" ∧ (parseMethodDescriptor yX1_turnByPowers.desc).map (fun d => d.parameters.length) = some 1 := by decide +kernel
set_option maxHeartbeats 4000000 in
set_option maxRecDepth 100000 in
theorem c_X1_turnByPowers (l : Launch) (D : va_G) (a : Nat → Nat) (cJ cI cO cB : ClassId) (R : Nat → Nat → Int64) (b : Bool) (pr : Nat → Int32) (tm : Nat → Int32) (cn : Int32) (sm : Nat → Int32) (ac : Int32) (re : Int32) (kn : Int32) (F : Nat) (p0 : Int32) (r : Int32) (pr' : Nat → Int32) (tm' : Nat → Int32) (cn' : Int32) (h : p_X1_turnByPowers F pr tm p0 = some (r, pr', tm', cn')) : zMi l yX1_turnByPowers wsX1_turnByPowers 1 24 0 0 D (zT cJ cI cO cB) [.ref (a 15), .int p0] (cW a cJ cI cO R b pr tm cn sm ac re kn) (cW a cJ cI cO R b pr' tm' cn' sm ac re kn) r := by
  intro sz
  delta zQi
  refine Met.ofW (cc := cX1_turnByPowers) (maxL := 4) (ret := (some .int)) (by decide) rfl ?_
  intro p e s m args below meth c s₁ B hml hv
  obtain ⟨rfl, hsz, hP, hK, hD0⟩ := hv
  have hx := B.exec
  have hb := B.bytes
  have hr := B.returns
  have hts := atoms_spec (ws := wsX1_turnByPowers) B.pre
  have hown : s.vm.findClass RX1 = some m.cls := findClass_of_methodNamed B.named
  have hlocks := B.notSynchronized
  subst hsz
  have hD := hD0.self (sz := s.heap.size)
  generalize hAe : va_A (cW a cJ cI cO R b pr tm cn sm ac re kn) s.heap.size = A at hD ⊢
  have hA : ∀ q : Nat, s.heap.size ≤ q → A q := fun q h => by rw [← hAe]; exact Or.inr h
  have hS : va_S A s.heap s.heap [] := va_S.rf
  have hl := lv_entry ([.ref (a 15), .int p0]) (n := 4) (Nat.le_of_ble_eq_true rfl)
  rw [lg_entry_eq]
  generalize (lg_sl ([.ref (a 15), .int p0]) ++ List.replicate (4 - (lg_sl ([.ref (a 15), .int p0])).length) Slot.unset).toArray = ls at hl ⊢
  replace hl : lv_has ls 4 [(0, .ref (a 15)), (1, .int p0)] := hl
  have kwX1 : ∀ w ∈ u_ws RX1 TX1 2, w ∈ wsX1_turnByPowers := fun w h => List.mem_cons_of_mem _ (List.mem_append_left _ (List.mem_append_left _ (List.mem_append_left _ (List.mem_append_right _ h))))
  have kf_12 := hts (.fieldLink RX1 12 "Divisorwork$Numbers" "powers" "LDivisorwork$Powers;") (zmem 1 rfl)
  replace h : (zb3 (p_X2_lay F pr tm p0) (fun pr_1 tm_2 cn_3 => (p_X1_turnByPowers_L0 F tm_2 cn_3 (fun v2_0 v3_0 => (if ¬ (zr v2_0 (2 : Int32)) = 0 then (some ((-1 : Int32), pr_1, tm_2, cn_3)) else (some ((1 : Int32), pr_1, tm_2, cn_3)))) F (0 : Int32) (0 : Int32)))) = some (r, pr', tm', cn') := h
  refine zabs (fun G hG hGW => ?_)
  obtain ⟨H, hHe⟩ : ∃ H, H = s.heap := ⟨_, rfl⟩
  rw [← hHe] at hP
  replace hS : va_S A s.heap H [] := by rw [hHe]; exact hS
  refine zheap hHe ?_
  refine lv_aload_n hx hb dX1_turnByPowers_0 rfl (lv_at hl 0 rfl) ?_
  refine va_get (D := D) (ci := 3) (v := .ref (a 17)) (C := RX1) (T := TX1) (N := 2) hx hb hts kwX1 hown hK hP 15 rfl rfl 0 (by decide) kf_12 (fun _ h9 => h9) rfl dX1_turnByPowers_1 ?_
  refine lv_iload_n hx hb dX1_turnByPowers_4 rfl (lv_at hl 1 rfl) ?_
  obtain ⟨pr_1, tm_2, cn_3, e4, h⟩ := zb3_some h
  refine zgov (va_runV (As := [.int p0]) (rest := []) ⟨hx, hb, hml, hown, hts⟩ (c_X2_lay l D a cJ cI cO cB R b pr tm cn sm ac re kn F p0 pr_1 tm_2 cn_3 e4 H.size) (cwV 1 hts gX1_turnByPowers_X2_lay rfl rfl rfl hdV_X2_lay ⟨Nat.le_of_ble_eq_true rfl, Nat.le_of_ble_eq_true rfl⟩) (zpreV (q0 := 17) (ci := 4) (T := TX2) (N := 3) hK hP hD rfl rfl [.int p0]) rfl rfl hl.1 rfl (lv_room (Nat.le_of_ble_eq_true rfl)) dX1_turnByPowers_5 ⟨Nat.le_of_ble_eq_true rfl, Nat.le_of_ble_eq_true rfl⟩) (zfree hD hS hA) (zjW hD hS hA) hS (fun H locs hP hD hS => ?_)
  replace hP : va_P D vwCl (cW a cJ cI cO R b pr_1 tm_2 cn_3 sm ac re kn) H := hP
  replace hD : va_D A (cW a cJ cI cO R b pr_1 tm_2 cn_3 sm ac re kn) := hD
  refine lv_iconst (v := (0 : Int32)) hx hb dX1_turnByPowers_8 (by decide) ?_
  refine lv_istore_n (lv' := [(2, .int (0 : Int32)), (0, .ref (a 15)), (1, .int p0)]) hx hb dX1_turnByPowers_9 rfl hl (by decide) rfl (fun ls hl => ?_)
  refine lv_iconst (v := (0 : Int32)) hx hb dX1_turnByPowers_10 (by decide) ?_
  refine lv_istore_n (lv' := [(3, .int (0 : Int32)), (2, .int (0 : Int32)), (0, .ref (a 15)), (1, .int p0)]) hx hb dX1_turnByPowers_11 rfl hl (by decide) rfl (fun ls hl => ?_)
  have X0 : ∀ (v2_0 : Int32) (v3_0 : Int32) (H : Heap) (locs : List Loc) (ls : Array Slot), va_P D vwCl (cW a cJ cI cO R b pr_1 tm_2 cn_3 sm ac re kn) H → va_D A (cW a cJ cI cO R b pr_1 tm_2 cn_3 sm ac re kn) → va_S A s.heap H locs → lv_has ls 4 [(0, .ref (a 15)), (1, .int p0), (2, .int v2_0), (3, .int v3_0)] → (if ¬ (zr v2_0 (2 : Int32)) = 0 then (some ((-1 : Int32), pr_1, tm_2, cn_3)) else (some ((1 : Int32), pr_1, tm_2, cn_3))) = some (r, pr', tm', cn') → G H locs 0 0 (F0 m 40 ls []) := by
    intro v2_0 v3_0 H locs ls hP hD hS hl h
    refine hG _ _ _ _ _ ?_
    refine lv_iload_n hx hb dX1_turnByPowers_40 rfl (lv_at hl 2 rfl) ?_
    refine lv_iconst (v := (2 : Int32)) hx hb dX1_turnByPowers_41 (by decide) ?_
    refine lv_irem hx hb dX1_turnByPowers_42 (by decide) ?_
    refine lv_if_ne (tgt := 50) hx hb dX1_turnByPowers_43 (by decide) (fun c43 => ?_) (fun c43 => ?_)
    · replace h := zif_t h c43
      refine lv_iconst (v := (-1 : Int32)) hx hb dX1_turnByPowers_50 (by decide) ?_
      have g0 := Option.some.inj h
      obtain ⟨h1, g1⟩ := Prod.mk.inj g0
      obtain ⟨h2, g2⟩ := Prod.mk.inj g1
      obtain ⟨h3, g3⟩ := Prod.mk.inj g2
      subst h1
      subst h2
      subst h3
      subst g3
      exact W.iret (v := (-1 : Int32)) hx hb hr (fun t ht hW => ⟨⟨(-1 : Int32), (), rfl, rfl, by rw [ht]; exact hP, va_K.moved hW.alike hK, hD⟩, hS.F ht⟩) hS.2.2 dX1_turnByPowers_51
    · replace h := zif_fn h c43
      refine lv_iconst (v := (1 : Int32)) hx hb dX1_turnByPowers_46 (by decide) ?_
      refine lv_goto (tgt := 51) hx hb dX1_turnByPowers_47 (by decide) ?_
      have g0 := Option.some.inj h
      obtain ⟨h1, g1⟩ := Prod.mk.inj g0
      obtain ⟨h2, g2⟩ := Prod.mk.inj g1
      obtain ⟨h3, g3⟩ := Prod.mk.inj g2
      subst h1
      subst h2
      subst h3
      subst g3
      exact W.iret (v := (1 : Int32)) hx hb hr (fun t ht hW => ⟨⟨(1 : Int32), (), rfl, rfl, by rw [ht]; exact hP, va_K.moved hW.alike hK, hD⟩, hS.F ht⟩) hS.2.2 dX1_turnByPowers_51
  have L0 : ∀ (K0 : Int32 → Int32 → Option (Int32 × (Nat → Int32) × (Nat → Int32) × Int32)) (HX0 : ∀ (v2_0 : Int32) (v3_0 : Int32) (H : Heap) (locs : List Loc) (ls : Array Slot), va_P D vwCl (cW a cJ cI cO R b pr_1 tm_2 cn_3 sm ac re kn) H → va_D A (cW a cJ cI cO R b pr_1 tm_2 cn_3 sm ac re kn) → va_S A s.heap H locs → lv_has ls 4 [(0, .ref (a 15)), (1, .int p0), (2, .int v2_0), (3, .int v3_0)] → K0 v2_0 v3_0 = some (r, pr', tm', cn') → G H locs 0 0 (F0 m 40 ls [])) (fu0 : Nat) (v2_0 : Int32) (v3_0 : Int32) (H : Heap) (locs : List Loc) (ls : Array Slot), va_P D vwCl (cW a cJ cI cO R b pr_1 tm_2 cn_3 sm ac re kn) H → va_D A (cW a cJ cI cO R b pr_1 tm_2 cn_3 sm ac re kn) → va_S A s.heap H locs → lv_has ls 4 [(0, .ref (a 15)), (1, .int p0), (2, .int v2_0), (3, .int v3_0)] → p_X1_turnByPowers_L0 F tm_2 cn_3 K0 fu0 v2_0 v3_0 = some (r, pr', tm', cn') → G H locs 0 0 (F0 m 12 ls []) := by
    intro K0 HX0 fu0
    induction fu0 with
    | zero =>
      intro v2_0 v3_0 H locs ls hP hD hS hl h
      exact (zno h).elim
    | succ fu0 ih0 =>
      intro v2_0 v3_0 H locs ls hP hD hS hl h
      refine hG _ _ _ _ _ ?_
      unfold p_X1_turnByPowers_L0 at h
      refine lv_iload_n hx hb dX1_turnByPowers_12 rfl (lv_at hl 3 rfl) ?_
      refine lv_aload_n hx hb dX1_turnByPowers_13 rfl (lv_at hl 0 rfl) ?_
      refine va_get (D := D) (ci := 3) (v := .ref (a 17)) (C := RX1) (T := TX1) (N := 2) hx hb hts kwX1 hown hK hP 15 rfl rfl 0 (by decide) kf_12 (fun _ h9 => h9) rfl dX1_turnByPowers_14 ?_
      obtain ⟨r5, e6, h⟩ := zb1_some h
      refine zgoi (va_runV (As := []) (rest := [.int v3_0]) ⟨hx, hb, hml, hown, hts⟩ (c_X2_count l D a cJ cI cO cB R b pr_1 tm_2 cn_3 sm ac re kn r5 e6 H.size) (cwV 0 hts gX1_turnByPowers_X2_count rfl rfl rfl hdV_X2_count ⟨Nat.le_of_ble_eq_true rfl, Nat.le_of_ble_eq_true rfl⟩) (zpreV (q0 := 17) (ci := 4) (T := TX2) (N := 3) hK hP hD rfl rfl []) rfl rfl hl.1 rfl (lv_room (Nat.le_of_ble_eq_true rfl)) dX1_turnByPowers_17 ⟨Nat.le_of_ble_eq_true rfl, Nat.le_of_ble_eq_true rfl⟩) (zfree hD hS hA) (zjW hD hS hA) hS (fun H locs hP hD hS => ?_)
      replace hP : va_P D vwCl (cW a cJ cI cO R b pr_1 tm_2 cn_3 sm ac re kn) H := hP
      replace hD : va_D A (cW a cJ cI cO R b pr_1 tm_2 cn_3 sm ac re kn) := hD
      refine lv_icmp_ge (tgt := 40) hx hb dX1_turnByPowers_20 (by decide) (fun c20 => ?_) (fun c20 => ?_)
      · replace h := zif_t h c20
        exact hGW _ _ _ _ _ (HX0 v2_0 v3_0 _ _ ls hP hD hS (lv_sub hl [0, 1, 2, 3] rfl) h)
      · replace h := zif_f h c20
        refine lv_iload_n hx hb dX1_turnByPowers_23 rfl (lv_at hl 2 rfl) ?_
        refine lv_aload_n hx hb dX1_turnByPowers_24 rfl (lv_at hl 0 rfl) ?_
        refine va_get (D := D) (ci := 3) (v := .ref (a 17)) (C := RX1) (T := TX1) (N := 2) hx hb hts kwX1 hown hK hP 15 rfl rfl 0 (by decide) kf_12 (fun _ h9 => h9) rfl dX1_turnByPowers_25 ?_
        refine lv_iload_n hx hb dX1_turnByPowers_28 rfl (lv_at hl 3 rfl) ?_
        obtain ⟨r7, e8, h⟩ := zb1_some h
        refine zgoi (va_runV (As := [.int v3_0]) (rest := [.int v2_0]) ⟨hx, hb, hml, hown, hts⟩ (c_X2_timesAt l D a cJ cI cO cB R b pr_1 tm_2 cn_3 sm ac re kn v3_0 r7 e8 H.size) (cwV 1 hts gX1_turnByPowers_X2_timesAt rfl rfl rfl hdV_X2_timesAt ⟨Nat.le_of_ble_eq_true rfl, Nat.le_of_ble_eq_true rfl⟩) (zpreV (q0 := 17) (ci := 4) (T := TX2) (N := 3) hK hP hD rfl rfl [.int v3_0]) rfl rfl hl.1 rfl (lv_room (Nat.le_of_ble_eq_true rfl)) dX1_turnByPowers_29 ⟨Nat.le_of_ble_eq_true rfl, Nat.le_of_ble_eq_true rfl⟩) (zfree hD hS hA) (zjW hD hS hA) hS (fun H locs hP hD hS => ?_)
        replace hP : va_P D vwCl (cW a cJ cI cO R b pr_1 tm_2 cn_3 sm ac re kn) H := hP
        replace hD : va_D A (cW a cJ cI cO R b pr_1 tm_2 cn_3 sm ac re kn) := hD
        refine lv_iadd hx hb dX1_turnByPowers_32 ?_
        refine lv_istore_n (lv' := [(2, .int (v2_0 + r7)), (0, .ref (a 15)), (1, .int p0), (3, .int v3_0)]) hx hb dX1_turnByPowers_33 rfl hl (by decide) rfl (fun ls hl => ?_)
        refine lv_iinc (v := (v3_0 + (1 : Int32))) (lv' := [(3, .int (v3_0 + (1 : Int32))), (2, .int (v2_0 + r7)), (0, .ref (a 15)), (1, .int p0)]) hx hb dX1_turnByPowers_34 hl (k := 3) rfl rfl (by decide) rfl (fun ls hl => ?_)
        refine lv_goto (tgt := 12) hx hb dX1_turnByPowers_37 (by decide) ?_
        exact hGW _ _ _ _ _ (ih0 (v2_0 + r7) (v3_0 + (1 : Int32)) _ _ ls hP hD hS (lv_sub hl [2, 3, 1, 0] rfl) h)
  exact hGW _ _ _ _ _ (L0 _ X0 F (0 : Int32) (0 : Int32) _ _ ls hP hD hS (lv_sub hl [2, 3, 1, 0] rfl) h)

noncomputable def p_X1_known (F : Nat) (pr : Nat → Int32) (tm : Nat → Int32) (cn : Int32) (p0 : Int32) (p1 : Int32) : Option (Int64 × (Nat → Int32) × (Nat → Int32) × Int32) := (if p0 = (0 : Int32) then (if ¬ p1 = (1 : Int32) then (some ((0 : Int64), pr, tm, cn)) else (some ((1 : Int64), pr, tm, cn))) else (if p0 = (1 : Int32) then (some ((1 : Int64), pr, tm, cn)) else (if p0 = (2 : Int32) then (some ((p1.toInt64), pr, tm, cn)) else (if p0 = (3 : Int32) then (zb4 (p_X1_signByPowers F pr tm p1) (fun r1 pr_2 tm_3 cn_4 => (some ((r1.toInt64), pr_2, tm_3, cn_4)))) else (if p0 = (4 : Int32) then (zb4 (p_X1_phiByPowers F pr tm p1) (fun r6 pr_7 tm_8 cn_9 => (some ((r6.toInt64), pr_7, tm_8, cn_9)))) else (if p0 = (5 : Int32) then (zb4 (p_X1_tauByPowers F pr tm p1) (fun r11 pr_12 tm_13 cn_14 => (some ((r11.toInt64), pr_12, tm_13, cn_14)))) else (if p0 = (6 : Int32) then (zb4 (p_X1_sigmaByPowers F pr tm p1) (fun r16 pr_17 tm_18 cn_19 => (some ((r16.toInt64), pr_17, tm_18, cn_19)))) else (if p0 = (7 : Int32) then (zb1 (p_X1_squareOneByOne F p1) (fun r21 => (if ¬ r21 = (1 : Int32) then (some ((0 : Int64), pr, tm, cn)) else (some ((1 : Int64), pr, tm, cn))))) else (if p0 = (8 : Int32) then (zb4 (p_X1_turnByPowers F pr tm p1) (fun r23 pr_24 tm_25 cn_26 => (some ((r23.toInt64), pr_24, tm_25, cn_26)))) else (if p0 = (9 : Int32) then (zb1 (p_X1_squareOneByOne F p1) (fun r28 => (if ¬ r28 = p1 then (some ((0 : Int64), pr, tm, cn)) else (some ((1 : Int64), pr, tm, cn))))) else (some (((p1.toInt64) * (p1.toInt64)), pr, tm, cn))))))))))))
theorem hdV_X1_known : yX1_known.cls = RX1 ∧ yX1_known.cls ≠ "java/lang/invoke/MethodHandle" ∧ yX1_known.cls ≠ "java/lang/invoke/VarHandle" ∧ (parseMethodDescriptor yX1_known.desc).map (fun d => d.parameters.length) = some 2 := by decide +kernel
set_option maxHeartbeats 4000000 in
set_option maxRecDepth 100000 in
theorem c_X1_known (l : Launch) (D : va_G) (a : Nat → Nat) (cJ cI cO cB : ClassId) (R : Nat → Nat → Int64) (b : Bool) (pr : Nat → Int32) (tm : Nat → Int32) (cn : Int32) (sm : Nat → Int32) (ac : Int32) (re : Int32) (kn : Int32) (F : Nat) (p0 : Int32) (p1 : Int32) (r : Int64) (pr' : Nat → Int32) (tm' : Nat → Int32) (cn' : Int32) (h : p_X1_known F pr tm cn p0 p1 = some (r, pr', tm', cn')) : zMl l yX1_known wsX1_known 2 50 0 0 D (zT cJ cI cO cB) [.ref (a 15), .int p0, .int p1] (cW a cJ cI cO R b pr tm cn sm ac re kn) (cW a cJ cI cO R b pr' tm' cn' sm ac re kn) r := by
  intro sz
  delta zQl
  refine Met.ofW (cc := cX1_known) (maxL := 3) (ret := (some .long)) (by decide) rfl ?_
  intro p e s m args below meth c s₁ B hml hv
  obtain ⟨rfl, hsz, hP, hK, hD0⟩ := hv
  have hx := B.exec
  have hb := B.bytes
  have hr := B.returns
  have hts := atoms_spec (ws := wsX1_known) B.pre
  have hown : s.vm.findClass RX1 = some m.cls := findClass_of_methodNamed B.named
  have hlocks := B.notSynchronized
  subst hsz
  have hD := hD0.self (sz := s.heap.size)
  generalize hAe : va_A (cW a cJ cI cO R b pr tm cn sm ac re kn) s.heap.size = A at hD ⊢
  have hA : ∀ q : Nat, s.heap.size ≤ q → A q := fun q h => by rw [← hAe]; exact Or.inr h
  have hS : va_S A s.heap s.heap [] := va_S.rf
  have hl := lv_entry ([.ref (a 15), .int p0, .int p1]) (n := 3) (Nat.le_of_ble_eq_true rfl)
  rw [lg_entry_eq]
  generalize (lg_sl ([.ref (a 15), .int p0, .int p1]) ++ List.replicate (3 - (lg_sl ([.ref (a 15), .int p0, .int p1])).length) Slot.unset).toArray = ls at hl ⊢
  replace hl : lv_has ls 3 [(0, .ref (a 15)), (1, .int p0), (2, .int p1)] := hl
  replace h : (if p0 = (0 : Int32) then (if ¬ p1 = (1 : Int32) then (some ((0 : Int64), pr, tm, cn)) else (some ((1 : Int64), pr, tm, cn))) else (if p0 = (1 : Int32) then (some ((1 : Int64), pr, tm, cn)) else (if p0 = (2 : Int32) then (some ((p1.toInt64), pr, tm, cn)) else (if p0 = (3 : Int32) then (zb4 (p_X1_signByPowers F pr tm p1) (fun r1 pr_2 tm_3 cn_4 => (some ((r1.toInt64), pr_2, tm_3, cn_4)))) else (if p0 = (4 : Int32) then (zb4 (p_X1_phiByPowers F pr tm p1) (fun r6 pr_7 tm_8 cn_9 => (some ((r6.toInt64), pr_7, tm_8, cn_9)))) else (if p0 = (5 : Int32) then (zb4 (p_X1_tauByPowers F pr tm p1) (fun r11 pr_12 tm_13 cn_14 => (some ((r11.toInt64), pr_12, tm_13, cn_14)))) else (if p0 = (6 : Int32) then (zb4 (p_X1_sigmaByPowers F pr tm p1) (fun r16 pr_17 tm_18 cn_19 => (some ((r16.toInt64), pr_17, tm_18, cn_19)))) else (if p0 = (7 : Int32) then (zb1 (p_X1_squareOneByOne F p1) (fun r21 => (if ¬ r21 = (1 : Int32) then (some ((0 : Int64), pr, tm, cn)) else (some ((1 : Int64), pr, tm, cn))))) else (if p0 = (8 : Int32) then (zb4 (p_X1_turnByPowers F pr tm p1) (fun r23 pr_24 tm_25 cn_26 => (some ((r23.toInt64), pr_24, tm_25, cn_26)))) else (if p0 = (9 : Int32) then (zb1 (p_X1_squareOneByOne F p1) (fun r28 => (if ¬ r28 = p1 then (some ((0 : Int64), pr, tm, cn)) else (some ((1 : Int64), pr, tm, cn))))) else (some (((p1.toInt64) * (p1.toInt64)), pr, tm, cn)))))))))))) = some (r, pr', tm', cn') := h
  obtain ⟨H, hHe⟩ : ∃ H, H = s.heap := ⟨_, rfl⟩
  rw [← hHe] at hP
  replace hS : va_S A s.heap H [] := by rw [hHe]; exact hS
  refine zheap hHe ?_
  refine lv_iload_n hx hb dX1_known_0 rfl (lv_at hl 1 rfl) ?_
  by_cases c1_0 : p0 = (0 : Int32)
  · replace h := zif_t h c1_0
    refine lv_tableIn (off := 55) (tgt := 56) hx hb dX1_known_1 (by rw [c1_0]; decide) (by rw [c1_0]; decide) (by rw [c1_0]; rfl) (by decide) ?_
    refine lv_iload_n hx hb dX1_known_56 rfl (lv_at hl 2 rfl) ?_
    refine lv_iconst (v := (1 : Int32)) hx hb dX1_known_57 (by decide) ?_
    refine lv_icmp_ne (tgt := 65) hx hb dX1_known_58 (by decide) (fun c58 => ?_) (fun c58 => ?_)
    · replace h := zif_t h c58
      refine lv_lconst (v := (0 : Int64)) hx hb dX1_known_65 (by decide) ?_
      have g0 := Option.some.inj h
      obtain ⟨h1, g1⟩ := Prod.mk.inj g0
      obtain ⟨h2, g2⟩ := Prod.mk.inj g1
      obtain ⟨h3, g3⟩ := Prod.mk.inj g2
      subst h1
      subst h2
      subst h3
      subst g3
      exact W.lret (v := (0 : Int64)) hx hb hr (fun t ht hW => ⟨⟨(0 : Int64), (), rfl, rfl, by rw [ht]; exact hP, va_K.moved hW.alike hK, hD⟩, hS.F ht⟩) hS.2.2 dX1_known_66
    · replace h := zif_fn h c58
      refine lv_lconst (v := (1 : Int64)) hx hb dX1_known_61 (by decide) ?_
      refine lv_goto (tgt := 66) hx hb dX1_known_62 (by decide) ?_
      have g0 := Option.some.inj h
      obtain ⟨h1, g1⟩ := Prod.mk.inj g0
      obtain ⟨h2, g2⟩ := Prod.mk.inj g1
      obtain ⟨h3, g3⟩ := Prod.mk.inj g2
      subst h1
      subst h2
      subst h3
      subst g3
      exact W.lret (v := (1 : Int64)) hx hb hr (fun t ht hW => ⟨⟨(1 : Int64), (), rfl, rfl, by rw [ht]; exact hP, va_K.moved hW.alike hK, hD⟩, hS.F ht⟩) hS.2.2 dX1_known_66
  · replace h := zif_f h c1_0
    by_cases c1_1 : p0 = (1 : Int32)
    · replace h := zif_t h c1_1
      refine lv_tableIn (off := 66) (tgt := 67) hx hb dX1_known_1 (by rw [c1_1]; decide) (by rw [c1_1]; decide) (by rw [c1_1]; rfl) (by decide) ?_
      refine lv_lconst (v := (1 : Int64)) hx hb dX1_known_67 (by decide) ?_
      have g0 := Option.some.inj h
      obtain ⟨h1, g1⟩ := Prod.mk.inj g0
      obtain ⟨h2, g2⟩ := Prod.mk.inj g1
      obtain ⟨h3, g3⟩ := Prod.mk.inj g2
      subst h1
      subst h2
      subst h3
      subst g3
      exact W.lret (v := (1 : Int64)) hx hb hr (fun t ht hW => ⟨⟨(1 : Int64), (), rfl, rfl, by rw [ht]; exact hP, va_K.moved hW.alike hK, hD⟩, hS.F ht⟩) hS.2.2 dX1_known_68
    · replace h := zif_f h c1_1
      by_cases c1_2 : p0 = (2 : Int32)
      · replace h := zif_t h c1_2
        refine lv_tableIn (off := 68) (tgt := 69) hx hb dX1_known_1 (by rw [c1_2]; decide) (by rw [c1_2]; decide) (by rw [c1_2]; rfl) (by decide) ?_
        refine lv_iload_n hx hb dX1_known_69 rfl (lv_at hl 2 rfl) ?_
        refine lv_i2l (v := p1.toInt64) hx hb dX1_known_70 rfl ?_
        have g0 := Option.some.inj h
        obtain ⟨h1, g1⟩ := Prod.mk.inj g0
        obtain ⟨h2, g2⟩ := Prod.mk.inj g1
        obtain ⟨h3, g3⟩ := Prod.mk.inj g2
        subst h1
        subst h2
        subst h3
        subst g3
        exact W.lret (v := (p1.toInt64)) hx hb hr (fun t ht hW => ⟨⟨(p1.toInt64), (), rfl, rfl, by rw [ht]; exact hP, va_K.moved hW.alike hK, hD⟩, hS.F ht⟩) hS.2.2 dX1_known_71
      · replace h := zif_f h c1_2
        by_cases c1_3 : p0 = (3 : Int32)
        · replace h := zif_t h c1_3
          refine lv_tableIn (off := 71) (tgt := 72) hx hb dX1_known_1 (by rw [c1_3]; decide) (by rw [c1_3]; decide) (by rw [c1_3]; rfl) (by decide) ?_
          refine lv_aload_n hx hb dX1_known_72 rfl (lv_at hl 0 rfl) ?_
          refine lv_iload_n hx hb dX1_known_73 rfl (lv_at hl 2 rfl) ?_
          obtain ⟨r1, pr_2, tm_3, cn_4, e5, h⟩ := zb4_some h
          refine zgoi (va_runV (As := [.int p1]) (rest := []) ⟨hx, hb, hml, hown, hts⟩ (c_X1_signByPowers l D a cJ cI cO cB R b pr tm cn sm ac re kn F p1 r1 pr_2 tm_3 cn_4 e5 H.size) (cwV 1 hts gX1_known_X1_signByPowers rfl rfl rfl hdV_X1_signByPowers ⟨Nat.le_of_ble_eq_true rfl, Nat.le_of_ble_eq_true rfl⟩) (zpreV (q0 := 15) (ci := 3) (T := TX1) (N := 2) hK hP hD rfl rfl [.int p1]) rfl rfl hl.1 rfl (lv_room (Nat.le_of_ble_eq_true rfl)) dX1_known_74 ⟨Nat.le_of_ble_eq_true rfl, Nat.le_of_ble_eq_true rfl⟩) (zfree hD hS hA) (zjW hD hS hA) hS (fun H locs hP hD hS => ?_)
          replace hP : va_P D vwCl (cW a cJ cI cO R b pr_2 tm_3 cn_4 sm ac re kn) H := hP
          replace hD : va_D A (cW a cJ cI cO R b pr_2 tm_3 cn_4 sm ac re kn) := hD
          refine lv_i2l (v := r1.toInt64) hx hb dX1_known_77 rfl ?_
          have g0 := Option.some.inj h
          obtain ⟨h1, g1⟩ := Prod.mk.inj g0
          obtain ⟨h2, g2⟩ := Prod.mk.inj g1
          obtain ⟨h3, g3⟩ := Prod.mk.inj g2
          subst h1
          subst h2
          subst h3
          subst g3
          exact W.lret (v := (r1.toInt64)) hx hb hr (fun t ht hW => ⟨⟨(r1.toInt64), (), rfl, rfl, by rw [ht]; exact hP, va_K.moved hW.alike hK, hD⟩, hS.F ht⟩) hS.2.2 dX1_known_78
        · replace h := zif_f h c1_3
          by_cases c1_4 : p0 = (4 : Int32)
          · replace h := zif_t h c1_4
            refine lv_tableIn (off := 78) (tgt := 79) hx hb dX1_known_1 (by rw [c1_4]; decide) (by rw [c1_4]; decide) (by rw [c1_4]; rfl) (by decide) ?_
            refine lv_aload_n hx hb dX1_known_79 rfl (lv_at hl 0 rfl) ?_
            refine lv_iload_n hx hb dX1_known_80 rfl (lv_at hl 2 rfl) ?_
            obtain ⟨r6, pr_7, tm_8, cn_9, e10, h⟩ := zb4_some h
            refine zgoi (va_runV (As := [.int p1]) (rest := []) ⟨hx, hb, hml, hown, hts⟩ (c_X1_phiByPowers l D a cJ cI cO cB R b pr tm cn sm ac re kn F p1 r6 pr_7 tm_8 cn_9 e10 H.size) (cwV 1 hts gX1_known_X1_phiByPowers rfl rfl rfl hdV_X1_phiByPowers ⟨Nat.le_of_ble_eq_true rfl, Nat.le_of_ble_eq_true rfl⟩) (zpreV (q0 := 15) (ci := 3) (T := TX1) (N := 2) hK hP hD rfl rfl [.int p1]) rfl rfl hl.1 rfl (lv_room (Nat.le_of_ble_eq_true rfl)) dX1_known_81 ⟨Nat.le_of_ble_eq_true rfl, Nat.le_of_ble_eq_true rfl⟩) (zfree hD hS hA) (zjW hD hS hA) hS (fun H locs hP hD hS => ?_)
            replace hP : va_P D vwCl (cW a cJ cI cO R b pr_7 tm_8 cn_9 sm ac re kn) H := hP
            replace hD : va_D A (cW a cJ cI cO R b pr_7 tm_8 cn_9 sm ac re kn) := hD
            refine lv_i2l (v := r6.toInt64) hx hb dX1_known_84 rfl ?_
            have g0 := Option.some.inj h
            obtain ⟨h1, g1⟩ := Prod.mk.inj g0
            obtain ⟨h2, g2⟩ := Prod.mk.inj g1
            obtain ⟨h3, g3⟩ := Prod.mk.inj g2
            subst h1
            subst h2
            subst h3
            subst g3
            exact W.lret (v := (r6.toInt64)) hx hb hr (fun t ht hW => ⟨⟨(r6.toInt64), (), rfl, rfl, by rw [ht]; exact hP, va_K.moved hW.alike hK, hD⟩, hS.F ht⟩) hS.2.2 dX1_known_85
          · replace h := zif_f h c1_4
            by_cases c1_5 : p0 = (5 : Int32)
            · replace h := zif_t h c1_5
              refine lv_tableIn (off := 85) (tgt := 86) hx hb dX1_known_1 (by rw [c1_5]; decide) (by rw [c1_5]; decide) (by rw [c1_5]; rfl) (by decide) ?_
              refine lv_aload_n hx hb dX1_known_86 rfl (lv_at hl 0 rfl) ?_
              refine lv_iload_n hx hb dX1_known_87 rfl (lv_at hl 2 rfl) ?_
              obtain ⟨r11, pr_12, tm_13, cn_14, e15, h⟩ := zb4_some h
              refine zgoi (va_runV (As := [.int p1]) (rest := []) ⟨hx, hb, hml, hown, hts⟩ (c_X1_tauByPowers l D a cJ cI cO cB R b pr tm cn sm ac re kn F p1 r11 pr_12 tm_13 cn_14 e15 H.size) (cwV 1 hts gX1_known_X1_tauByPowers rfl rfl rfl hdV_X1_tauByPowers ⟨Nat.le_of_ble_eq_true rfl, Nat.le_of_ble_eq_true rfl⟩) (zpreV (q0 := 15) (ci := 3) (T := TX1) (N := 2) hK hP hD rfl rfl [.int p1]) rfl rfl hl.1 rfl (lv_room (Nat.le_of_ble_eq_true rfl)) dX1_known_88 ⟨Nat.le_of_ble_eq_true rfl, Nat.le_of_ble_eq_true rfl⟩) (zfree hD hS hA) (zjW hD hS hA) hS (fun H locs hP hD hS => ?_)
              replace hP : va_P D vwCl (cW a cJ cI cO R b pr_12 tm_13 cn_14 sm ac re kn) H := hP
              replace hD : va_D A (cW a cJ cI cO R b pr_12 tm_13 cn_14 sm ac re kn) := hD
              refine lv_i2l (v := r11.toInt64) hx hb dX1_known_91 rfl ?_
              have g0 := Option.some.inj h
              obtain ⟨h1, g1⟩ := Prod.mk.inj g0
              obtain ⟨h2, g2⟩ := Prod.mk.inj g1
              obtain ⟨h3, g3⟩ := Prod.mk.inj g2
              subst h1
              subst h2
              subst h3
              subst g3
              exact W.lret (v := (r11.toInt64)) hx hb hr (fun t ht hW => ⟨⟨(r11.toInt64), (), rfl, rfl, by rw [ht]; exact hP, va_K.moved hW.alike hK, hD⟩, hS.F ht⟩) hS.2.2 dX1_known_92
            · replace h := zif_f h c1_5
              by_cases c1_6 : p0 = (6 : Int32)
              · replace h := zif_t h c1_6
                refine lv_tableIn (off := 92) (tgt := 93) hx hb dX1_known_1 (by rw [c1_6]; decide) (by rw [c1_6]; decide) (by rw [c1_6]; rfl) (by decide) ?_
                refine lv_aload_n hx hb dX1_known_93 rfl (lv_at hl 0 rfl) ?_
                refine lv_iload_n hx hb dX1_known_94 rfl (lv_at hl 2 rfl) ?_
                obtain ⟨r16, pr_17, tm_18, cn_19, e20, h⟩ := zb4_some h
                refine zgoi (va_runV (As := [.int p1]) (rest := []) ⟨hx, hb, hml, hown, hts⟩ (c_X1_sigmaByPowers l D a cJ cI cO cB R b pr tm cn sm ac re kn F p1 r16 pr_17 tm_18 cn_19 e20 H.size) (cwV 1 hts gX1_known_X1_sigmaByPowers rfl rfl rfl hdV_X1_sigmaByPowers ⟨Nat.le_of_ble_eq_true rfl, Nat.le_of_ble_eq_true rfl⟩) (zpreV (q0 := 15) (ci := 3) (T := TX1) (N := 2) hK hP hD rfl rfl [.int p1]) rfl rfl hl.1 rfl (lv_room (Nat.le_of_ble_eq_true rfl)) dX1_known_95 ⟨Nat.le_of_ble_eq_true rfl, Nat.le_of_ble_eq_true rfl⟩) (zfree hD hS hA) (zjW hD hS hA) hS (fun H locs hP hD hS => ?_)
                replace hP : va_P D vwCl (cW a cJ cI cO R b pr_17 tm_18 cn_19 sm ac re kn) H := hP
                replace hD : va_D A (cW a cJ cI cO R b pr_17 tm_18 cn_19 sm ac re kn) := hD
                refine lv_i2l (v := r16.toInt64) hx hb dX1_known_98 rfl ?_
                have g0 := Option.some.inj h
                obtain ⟨h1, g1⟩ := Prod.mk.inj g0
                obtain ⟨h2, g2⟩ := Prod.mk.inj g1
                obtain ⟨h3, g3⟩ := Prod.mk.inj g2
                subst h1
                subst h2
                subst h3
                subst g3
                exact W.lret (v := (r16.toInt64)) hx hb hr (fun t ht hW => ⟨⟨(r16.toInt64), (), rfl, rfl, by rw [ht]; exact hP, va_K.moved hW.alike hK, hD⟩, hS.F ht⟩) hS.2.2 dX1_known_99
              · replace h := zif_f h c1_6
                by_cases c1_7 : p0 = (7 : Int32)
                · replace h := zif_t h c1_7
                  refine lv_tableIn (off := 99) (tgt := 100) hx hb dX1_known_1 (by rw [c1_7]; decide) (by rw [c1_7]; decide) (by rw [c1_7]; rfl) (by decide) ?_
                  refine lv_aload_n hx hb dX1_known_100 rfl (lv_at hl 0 rfl) ?_
                  refine lv_iload_n hx hb dX1_known_101 rfl (lv_at hl 2 rfl) ?_
                  obtain ⟨r21, e22, h⟩ := zb1_some h
                  refine zgoi (va_runV (As := [.int p1]) (rest := []) ⟨hx, hb, hml, hown, hts⟩ (c_X1_squareOneByOne l D a cJ cI cO cB R b pr tm cn sm ac re kn F p1 r21 e22 H.size) (cwV 1 hts gX1_known_X1_squareOneByOne rfl rfl rfl hdV_X1_squareOneByOne ⟨Nat.le_of_ble_eq_true rfl, Nat.le_of_ble_eq_true rfl⟩) (zpreV (q0 := 15) (ci := 3) (T := TX1) (N := 2) hK hP hD rfl rfl [.int p1]) rfl rfl hl.1 rfl (lv_room (Nat.le_of_ble_eq_true rfl)) dX1_known_102 ⟨Nat.le_of_ble_eq_true rfl, Nat.le_of_ble_eq_true rfl⟩) (zfree hD hS hA) (zjW hD hS hA) hS (fun H locs hP hD hS => ?_)
                  replace hP : va_P D vwCl (cW a cJ cI cO R b pr tm cn sm ac re kn) H := hP
                  replace hD : va_D A (cW a cJ cI cO R b pr tm cn sm ac re kn) := hD
                  refine lv_iconst (v := (1 : Int32)) hx hb dX1_known_105 (by decide) ?_
                  refine lv_icmp_ne (tgt := 113) hx hb dX1_known_106 (by decide) (fun c106 => ?_) (fun c106 => ?_)
                  · replace h := zif_t h c106
                    refine lv_lconst (v := (0 : Int64)) hx hb dX1_known_113 (by decide) ?_
                    have g0 := Option.some.inj h
                    obtain ⟨h1, g1⟩ := Prod.mk.inj g0
                    obtain ⟨h2, g2⟩ := Prod.mk.inj g1
                    obtain ⟨h3, g3⟩ := Prod.mk.inj g2
                    subst h1
                    subst h2
                    subst h3
                    subst g3
                    exact W.lret (v := (0 : Int64)) hx hb hr (fun t ht hW => ⟨⟨(0 : Int64), (), rfl, rfl, by rw [ht]; exact hP, va_K.moved hW.alike hK, hD⟩, hS.F ht⟩) hS.2.2 dX1_known_114
                  · replace h := zif_fn h c106
                    refine lv_lconst (v := (1 : Int64)) hx hb dX1_known_109 (by decide) ?_
                    refine lv_goto (tgt := 114) hx hb dX1_known_110 (by decide) ?_
                    have g0 := Option.some.inj h
                    obtain ⟨h1, g1⟩ := Prod.mk.inj g0
                    obtain ⟨h2, g2⟩ := Prod.mk.inj g1
                    obtain ⟨h3, g3⟩ := Prod.mk.inj g2
                    subst h1
                    subst h2
                    subst h3
                    subst g3
                    exact W.lret (v := (1 : Int64)) hx hb hr (fun t ht hW => ⟨⟨(1 : Int64), (), rfl, rfl, by rw [ht]; exact hP, va_K.moved hW.alike hK, hD⟩, hS.F ht⟩) hS.2.2 dX1_known_114
                · replace h := zif_f h c1_7
                  by_cases c1_8 : p0 = (8 : Int32)
                  · replace h := zif_t h c1_8
                    refine lv_tableIn (off := 114) (tgt := 115) hx hb dX1_known_1 (by rw [c1_8]; decide) (by rw [c1_8]; decide) (by rw [c1_8]; rfl) (by decide) ?_
                    refine lv_aload_n hx hb dX1_known_115 rfl (lv_at hl 0 rfl) ?_
                    refine lv_iload_n hx hb dX1_known_116 rfl (lv_at hl 2 rfl) ?_
                    obtain ⟨r23, pr_24, tm_25, cn_26, e27, h⟩ := zb4_some h
                    refine zgoi (va_runV (As := [.int p1]) (rest := []) ⟨hx, hb, hml, hown, hts⟩ (c_X1_turnByPowers l D a cJ cI cO cB R b pr tm cn sm ac re kn F p1 r23 pr_24 tm_25 cn_26 e27 H.size) (cwV 1 hts gX1_known_X1_turnByPowers rfl rfl rfl hdV_X1_turnByPowers ⟨Nat.le_of_ble_eq_true rfl, Nat.le_of_ble_eq_true rfl⟩) (zpreV (q0 := 15) (ci := 3) (T := TX1) (N := 2) hK hP hD rfl rfl [.int p1]) rfl rfl hl.1 rfl (lv_room (Nat.le_of_ble_eq_true rfl)) dX1_known_117 ⟨Nat.le_of_ble_eq_true rfl, Nat.le_of_ble_eq_true rfl⟩) (zfree hD hS hA) (zjW hD hS hA) hS (fun H locs hP hD hS => ?_)
                    replace hP : va_P D vwCl (cW a cJ cI cO R b pr_24 tm_25 cn_26 sm ac re kn) H := hP
                    replace hD : va_D A (cW a cJ cI cO R b pr_24 tm_25 cn_26 sm ac re kn) := hD
                    refine lv_i2l (v := r23.toInt64) hx hb dX1_known_120 rfl ?_
                    have g0 := Option.some.inj h
                    obtain ⟨h1, g1⟩ := Prod.mk.inj g0
                    obtain ⟨h2, g2⟩ := Prod.mk.inj g1
                    obtain ⟨h3, g3⟩ := Prod.mk.inj g2
                    subst h1
                    subst h2
                    subst h3
                    subst g3
                    exact W.lret (v := (r23.toInt64)) hx hb hr (fun t ht hW => ⟨⟨(r23.toInt64), (), rfl, rfl, by rw [ht]; exact hP, va_K.moved hW.alike hK, hD⟩, hS.F ht⟩) hS.2.2 dX1_known_121
                  · replace h := zif_f h c1_8
                    by_cases c1_9 : p0 = (9 : Int32)
                    · replace h := zif_t h c1_9
                      refine lv_tableIn (off := 121) (tgt := 122) hx hb dX1_known_1 (by rw [c1_9]; decide) (by rw [c1_9]; decide) (by rw [c1_9]; rfl) (by decide) ?_
                      refine lv_aload_n hx hb dX1_known_122 rfl (lv_at hl 0 rfl) ?_
                      refine lv_iload_n hx hb dX1_known_123 rfl (lv_at hl 2 rfl) ?_
                      obtain ⟨r28, e29, h⟩ := zb1_some h
                      refine zgoi (va_runV (As := [.int p1]) (rest := []) ⟨hx, hb, hml, hown, hts⟩ (c_X1_squareOneByOne l D a cJ cI cO cB R b pr tm cn sm ac re kn F p1 r28 e29 H.size) (cwV 1 hts gX1_known_X1_squareOneByOne rfl rfl rfl hdV_X1_squareOneByOne ⟨Nat.le_of_ble_eq_true rfl, Nat.le_of_ble_eq_true rfl⟩) (zpreV (q0 := 15) (ci := 3) (T := TX1) (N := 2) hK hP hD rfl rfl [.int p1]) rfl rfl hl.1 rfl (lv_room (Nat.le_of_ble_eq_true rfl)) dX1_known_124 ⟨Nat.le_of_ble_eq_true rfl, Nat.le_of_ble_eq_true rfl⟩) (zfree hD hS hA) (zjW hD hS hA) hS (fun H locs hP hD hS => ?_)
                      replace hP : va_P D vwCl (cW a cJ cI cO R b pr tm cn sm ac re kn) H := hP
                      replace hD : va_D A (cW a cJ cI cO R b pr tm cn sm ac re kn) := hD
                      refine lv_iload_n hx hb dX1_known_127 rfl (lv_at hl 2 rfl) ?_
                      refine lv_icmp_ne (tgt := 135) hx hb dX1_known_128 (by decide) (fun c128 => ?_) (fun c128 => ?_)
                      · replace h := zif_t h c128
                        refine lv_lconst (v := (0 : Int64)) hx hb dX1_known_135 (by decide) ?_
                        have g0 := Option.some.inj h
                        obtain ⟨h1, g1⟩ := Prod.mk.inj g0
                        obtain ⟨h2, g2⟩ := Prod.mk.inj g1
                        obtain ⟨h3, g3⟩ := Prod.mk.inj g2
                        subst h1
                        subst h2
                        subst h3
                        subst g3
                        exact W.lret (v := (0 : Int64)) hx hb hr (fun t ht hW => ⟨⟨(0 : Int64), (), rfl, rfl, by rw [ht]; exact hP, va_K.moved hW.alike hK, hD⟩, hS.F ht⟩) hS.2.2 dX1_known_136
                      · replace h := zif_fn h c128
                        refine lv_lconst (v := (1 : Int64)) hx hb dX1_known_131 (by decide) ?_
                        refine lv_goto (tgt := 136) hx hb dX1_known_132 (by decide) ?_
                        have g0 := Option.some.inj h
                        obtain ⟨h1, g1⟩ := Prod.mk.inj g0
                        obtain ⟨h2, g2⟩ := Prod.mk.inj g1
                        obtain ⟨h3, g3⟩ := Prod.mk.inj g2
                        subst h1
                        subst h2
                        subst h3
                        subst g3
                        exact W.lret (v := (1 : Int64)) hx hb hr (fun t ht hW => ⟨⟨(1 : Int64), (), rfl, rfl, by rw [ht]; exact hP, va_K.moved hW.alike hK, hD⟩, hS.F ht⟩) hS.2.2 dX1_known_136
                    · replace h := zif_f h c1_9
                      have t0 := lv_neT c1_0 (a := 0) (by decide)
                      have t1 := lv_neT c1_1 (a := 1) (by decide)
                      have t2 := lv_neT c1_2 (a := 2) (by decide)
                      have t3 := lv_neT c1_3 (a := 3) (by decide)
                      have t4 := lv_neT c1_4 (a := 4) (by decide)
                      have t5 := lv_neT c1_5 (a := 5) (by decide)
                      have t6 := lv_neT c1_6 (a := 6) (by decide)
                      have t7 := lv_neT c1_7 (a := 7) (by decide)
                      have t8 := lv_neT c1_8 (a := 8) (by decide)
                      have t9 := lv_neT c1_9 (a := 9) (by decide)
                      refine lv_tableOut (tgt := 137) hx hb dX1_known_1 (by omega) (by decide) ?_
                      refine lv_iload_n hx hb dX1_known_137 rfl (lv_at hl 2 rfl) ?_
                      refine lv_i2l (v := p1.toInt64) hx hb dX1_known_138 rfl ?_
                      refine lv_iload_n hx hb dX1_known_139 rfl (lv_at hl 2 rfl) ?_
                      refine lv_i2l (v := p1.toInt64) hx hb dX1_known_140 rfl ?_
                      refine lv_lmul hx hb dX1_known_141 ?_
                      have g0 := Option.some.inj h
                      obtain ⟨h1, g1⟩ := Prod.mk.inj g0
                      obtain ⟨h2, g2⟩ := Prod.mk.inj g1
                      obtain ⟨h3, g3⟩ := Prod.mk.inj g2
                      subst h1
                      subst h2
                      subst h3
                      subst g3
                      exact W.lret (v := ((p1.toInt64) * (p1.toInt64))) hx hb hr (fun t ht hW => ⟨⟨((p1.toInt64) * (p1.toInt64)), (), rfl, rfl, by rw [ht]; exact hP, va_K.moved hW.alike hK, hD⟩, hS.F ht⟩) hS.2.2 dX1_known_142

noncomputable def p_X1_tauOneByOne_L0 (F : Nat) (p0 : Int32) (k : Int32 → Int32 → Option Int32) : Nat → Int32 → Int32 → Option Int32
  | 0, _, _ => none
  | n + 1, v2_0, v3_0 => (if p0 < v3_0 then (k v2_0 v3_0) else (zg (v3_0 = 0) (if ¬ (zr p0 v3_0) = 0 then (p_X1_tauOneByOne_L0 F p0 k n (v2_0 + (0 : Int32)) (v3_0 + (1 : Int32))) else (p_X1_tauOneByOne_L0 F p0 k n (v2_0 + (1 : Int32)) (v3_0 + (1 : Int32))))))
noncomputable def p_X1_tauOneByOne (F : Nat) (p0 : Int32) : Option Int32 := (p_X1_tauOneByOne_L0 F p0 (fun v2_0 v3_0 => (some v2_0)) F (0 : Int32) (1 : Int32))
theorem hdV_X1_tauOneByOne : yX1_tauOneByOne.cls = RX1 ∧ yX1_tauOneByOne.cls ≠ "java/lang/invoke/MethodHandle" ∧ yX1_tauOneByOne.cls ≠ "java/lang/invoke/VarHandle" ∧ (parseMethodDescriptor yX1_tauOneByOne.desc).map (fun d => d.parameters.length) = some 1 := by decide +kernel
set_option maxHeartbeats 4000000 in
set_option maxRecDepth 100000 in
theorem c_X1_tauOneByOne (l : Launch) (D : va_G) (a : Nat → Nat) (cJ cI cO cB : ClassId) (R : Nat → Nat → Int64) (b : Bool) (pr : Nat → Int32) (tm : Nat → Int32) (cn : Int32) (sm : Nat → Int32) (ac : Int32) (re : Int32) (kn : Int32) (F : Nat) (p0 : Int32) (r : Int32) (h : p_X1_tauOneByOne F p0 = some r) : zMi l yX1_tauOneByOne wsX1_tauOneByOne 0 0 0 0 D (zT cJ cI cO cB) [.ref (a 15), .int p0] (cW a cJ cI cO R b pr tm cn sm ac re kn) (cW a cJ cI cO R b pr tm cn sm ac re kn) r := by
  intro sz
  delta zQi
  refine Met.ofW (cc := cX1_tauOneByOne) (maxL := 4) (ret := (some .int)) (by decide) rfl ?_
  intro p e s m args below meth c s₁ B hml hv
  obtain ⟨rfl, hsz, hP, hK, hD0⟩ := hv
  have hx := B.exec
  have hb := B.bytes
  have hr := B.returns
  have hts := atoms_spec (ws := wsX1_tauOneByOne) B.pre
  have hown : s.vm.findClass RX1 = some m.cls := findClass_of_methodNamed B.named
  have hlocks := B.notSynchronized
  subst hsz
  have hD := hD0.self (sz := s.heap.size)
  generalize hAe : va_A (cW a cJ cI cO R b pr tm cn sm ac re kn) s.heap.size = A at hD ⊢
  have hA : ∀ q : Nat, s.heap.size ≤ q → A q := fun q h => by rw [← hAe]; exact Or.inr h
  have hS : va_S A s.heap s.heap [] := va_S.rf
  have hl := lv_entry ([.ref (a 15), .int p0]) (n := 4) (Nat.le_of_ble_eq_true rfl)
  rw [lg_entry_eq]
  generalize (lg_sl ([.ref (a 15), .int p0]) ++ List.replicate (4 - (lg_sl ([.ref (a 15), .int p0])).length) Slot.unset).toArray = ls at hl ⊢
  replace hl : lv_has ls 4 [(0, .ref (a 15)), (1, .int p0)] := hl
  replace h : (p_X1_tauOneByOne_L0 F p0 (fun v2_0 v3_0 => (some v2_0)) F (0 : Int32) (1 : Int32)) = some r := h
  refine zabs (fun G hG hGW => ?_)
  obtain ⟨H, hHe⟩ : ∃ H, H = s.heap := ⟨_, rfl⟩
  rw [← hHe] at hP
  replace hS : va_S A s.heap H [] := by rw [hHe]; exact hS
  refine zheap hHe ?_
  refine lv_iconst (v := (0 : Int32)) hx hb dX1_tauOneByOne_0 (by decide) ?_
  refine lv_istore_n (lv' := [(2, .int (0 : Int32)), (0, .ref (a 15)), (1, .int p0)]) hx hb dX1_tauOneByOne_1 rfl hl (by decide) rfl (fun ls hl => ?_)
  refine lv_iconst (v := (1 : Int32)) hx hb dX1_tauOneByOne_2 (by decide) ?_
  refine lv_istore_n (lv' := [(3, .int (1 : Int32)), (2, .int (0 : Int32)), (0, .ref (a 15)), (1, .int p0)]) hx hb dX1_tauOneByOne_3 rfl hl (by decide) rfl (fun ls hl => ?_)
  have X0 : ∀ (v2_0 : Int32) (v3_0 : Int32) (H : Heap) (locs : List Loc) (ls : Array Slot), va_P D vwCl (cW a cJ cI cO R b pr tm cn sm ac re kn) H → va_D A (cW a cJ cI cO R b pr tm cn sm ac re kn) → va_S A s.heap H locs → lv_has ls 4 [(0, .ref (a 15)), (1, .int p0), (2, .int v2_0), (3, .int v3_0)] → (some v2_0) = some r → G H locs 0 0 (F0 m 29 ls []) := by
    intro v2_0 v3_0 H locs ls hP hD hS hl h
    refine hG _ _ _ _ _ ?_
    refine lv_iload_n hx hb dX1_tauOneByOne_29 rfl (lv_at hl 2 rfl) ?_
    have h1 := Option.some.inj h
    subst h1
    exact W.iret (v := v2_0) hx hb hr (fun t ht hW => ⟨⟨v2_0, (), rfl, rfl, by rw [ht]; exact hP, va_K.moved hW.alike hK, hD⟩, hS.F ht⟩) hS.2.2 dX1_tauOneByOne_30
  have L0 : ∀ (K0 : Int32 → Int32 → Option Int32) (HX0 : ∀ (v2_0 : Int32) (v3_0 : Int32) (H : Heap) (locs : List Loc) (ls : Array Slot), va_P D vwCl (cW a cJ cI cO R b pr tm cn sm ac re kn) H → va_D A (cW a cJ cI cO R b pr tm cn sm ac re kn) → va_S A s.heap H locs → lv_has ls 4 [(0, .ref (a 15)), (1, .int p0), (2, .int v2_0), (3, .int v3_0)] → K0 v2_0 v3_0 = some r → G H locs 0 0 (F0 m 29 ls [])) (fu0 : Nat) (v2_0 : Int32) (v3_0 : Int32) (H : Heap) (locs : List Loc) (ls : Array Slot), va_P D vwCl (cW a cJ cI cO R b pr tm cn sm ac re kn) H → va_D A (cW a cJ cI cO R b pr tm cn sm ac re kn) → va_S A s.heap H locs → lv_has ls 4 [(0, .ref (a 15)), (1, .int p0), (2, .int v2_0), (3, .int v3_0)] → p_X1_tauOneByOne_L0 F p0 K0 fu0 v2_0 v3_0 = some r → G H locs 0 0 (F0 m 4 ls []) := by
    intro K0 HX0 fu0
    induction fu0 with
    | zero =>
      intro v2_0 v3_0 H locs ls hP hD hS hl h
      exact (zno h).elim
    | succ fu0 ih0 =>
      intro v2_0 v3_0 H locs ls hP hD hS hl h
      refine hG _ _ _ _ _ ?_
      unfold p_X1_tauOneByOne_L0 at h
      refine lv_iload_n hx hb dX1_tauOneByOne_4 rfl (lv_at hl 3 rfl) ?_
      refine lv_iload_n hx hb dX1_tauOneByOne_5 rfl (lv_at hl 1 rfl) ?_
      refine lv_icmp_gt (tgt := 29) hx hb dX1_tauOneByOne_6 (by decide) (fun c6 => ?_) (fun c6 => ?_)
      · replace h := zif_t h c6
        exact hGW _ _ _ _ _ (HX0 v2_0 v3_0 _ _ ls hP hD hS (lv_sub hl [0, 1, 2, 3] rfl) h)
      · replace h := zif_f h c6
        refine lv_iload_n hx hb dX1_tauOneByOne_9 rfl (lv_at hl 2 rfl) ?_
        refine lv_iload_n hx hb dX1_tauOneByOne_10 rfl (lv_at hl 1 rfl) ?_
        refine lv_iload_n hx hb dX1_tauOneByOne_11 rfl (lv_at hl 3 rfl) ?_
        obtain ⟨z12, h⟩ := zg_some h
        refine lv_irem hx hb dX1_tauOneByOne_12 z12 ?_
        refine lv_if_ne (tgt := 20) hx hb dX1_tauOneByOne_13 (by decide) (fun c13 => ?_) (fun c13 => ?_)
        · replace h := zif_t h c13
          refine lv_iconst (v := (0 : Int32)) hx hb dX1_tauOneByOne_20 (by decide) ?_
          refine lv_iadd hx hb dX1_tauOneByOne_21 ?_
          refine lv_istore_n (lv' := [(2, .int (v2_0 + (0 : Int32))), (0, .ref (a 15)), (1, .int p0), (3, .int v3_0)]) hx hb dX1_tauOneByOne_22 rfl hl (by decide) rfl (fun ls hl => ?_)
          refine lv_iinc (v := (v3_0 + (1 : Int32))) (lv' := [(3, .int (v3_0 + (1 : Int32))), (2, .int (v2_0 + (0 : Int32))), (0, .ref (a 15)), (1, .int p0)]) hx hb dX1_tauOneByOne_23 hl (k := 3) rfl rfl (by decide) rfl (fun ls hl => ?_)
          refine lv_goto (tgt := 4) hx hb dX1_tauOneByOne_26 (by decide) ?_
          exact hGW _ _ _ _ _ (ih0 (v2_0 + (0 : Int32)) (v3_0 + (1 : Int32)) _ _ ls hP hD hS (lv_sub hl [2, 3, 1, 0] rfl) h)
        · replace h := zif_fn h c13
          refine lv_iconst (v := (1 : Int32)) hx hb dX1_tauOneByOne_16 (by decide) ?_
          refine lv_goto (tgt := 21) hx hb dX1_tauOneByOne_17 (by decide) ?_
          refine lv_iadd hx hb dX1_tauOneByOne_21 ?_
          refine lv_istore_n (lv' := [(2, .int (v2_0 + (1 : Int32))), (0, .ref (a 15)), (1, .int p0), (3, .int v3_0)]) hx hb dX1_tauOneByOne_22 rfl hl (by decide) rfl (fun ls hl => ?_)
          refine lv_iinc (v := (v3_0 + (1 : Int32))) (lv' := [(3, .int (v3_0 + (1 : Int32))), (2, .int (v2_0 + (1 : Int32))), (0, .ref (a 15)), (1, .int p0)]) hx hb dX1_tauOneByOne_23 hl (k := 3) rfl rfl (by decide) rfl (fun ls hl => ?_)
          refine lv_goto (tgt := 4) hx hb dX1_tauOneByOne_26 (by decide) ?_
          exact hGW _ _ _ _ _ (ih0 (v2_0 + (1 : Int32)) (v3_0 + (1 : Int32)) _ _ ls hP hD hS (lv_sub hl [2, 3, 1, 0] rfl) h)
  exact hGW _ _ _ _ _ (L0 _ X0 F (0 : Int32) (1 : Int32) _ _ ls hP hD hS (lv_sub hl [2, 3, 1, 0] rfl) h)

noncomputable def p_X1_tauByPairs_L0 (F : Nat) (p0 : Int32) (k : Int32 → Int32 → Option Int32) : Nat → Int32 → Int32 → Option Int32
  | 0, _, _ => none
  | n + 1, v2_0, v3_0 => (if (31 : Int32) < v3_0 then (k v2_0 v3_0) else (if p0 < (v3_0 * v3_0) then (k v2_0 v3_0) else (zg (v3_0 = 0) (if ¬ (zr p0 v3_0) = 0 then (p_X1_tauByPairs_L0 F p0 k n v2_0 (v3_0 + (1 : Int32))) else (if p0 ≤ (v3_0 * v3_0) then (p_X1_tauByPairs_L0 F p0 k n (v2_0 + (1 : Int32)) (v3_0 + (1 : Int32))) else (p_X1_tauByPairs_L0 F p0 k n (v2_0 + (2 : Int32)) (v3_0 + (1 : Int32))))))))
noncomputable def p_X1_tauByPairs (F : Nat) (p0 : Int32) : Option Int32 := (p_X1_tauByPairs_L0 F p0 (fun v2_0 v3_0 => (some v2_0)) F (0 : Int32) (1 : Int32))
theorem hdV_X1_tauByPairs : yX1_tauByPairs.cls = RX1 ∧ yX1_tauByPairs.cls ≠ "java/lang/invoke/MethodHandle" ∧ yX1_tauByPairs.cls ≠ "java/lang/invoke/VarHandle" ∧ (parseMethodDescriptor yX1_tauByPairs.desc).map (fun d => d.parameters.length) = some 1 := by decide +kernel
set_option maxHeartbeats 4000000 in
set_option maxRecDepth 100000 in
theorem c_X1_tauByPairs (l : Launch) (D : va_G) (a : Nat → Nat) (cJ cI cO cB : ClassId) (R : Nat → Nat → Int64) (b : Bool) (pr : Nat → Int32) (tm : Nat → Int32) (cn : Int32) (sm : Nat → Int32) (ac : Int32) (re : Int32) (kn : Int32) (F : Nat) (p0 : Int32) (r : Int32) (h : p_X1_tauByPairs F p0 = some r) : zMi l yX1_tauByPairs wsX1_tauByPairs 0 0 0 0 D (zT cJ cI cO cB) [.ref (a 15), .int p0] (cW a cJ cI cO R b pr tm cn sm ac re kn) (cW a cJ cI cO R b pr tm cn sm ac re kn) r := by
  intro sz
  delta zQi
  refine Met.ofW (cc := cX1_tauByPairs) (maxL := 4) (ret := (some .int)) (by decide) rfl ?_
  intro p e s m args below meth c s₁ B hml hv
  obtain ⟨rfl, hsz, hP, hK, hD0⟩ := hv
  have hx := B.exec
  have hb := B.bytes
  have hr := B.returns
  have hts := atoms_spec (ws := wsX1_tauByPairs) B.pre
  have hown : s.vm.findClass RX1 = some m.cls := findClass_of_methodNamed B.named
  have hlocks := B.notSynchronized
  subst hsz
  have hD := hD0.self (sz := s.heap.size)
  generalize hAe : va_A (cW a cJ cI cO R b pr tm cn sm ac re kn) s.heap.size = A at hD ⊢
  have hA : ∀ q : Nat, s.heap.size ≤ q → A q := fun q h => by rw [← hAe]; exact Or.inr h
  have hS : va_S A s.heap s.heap [] := va_S.rf
  have hl := lv_entry ([.ref (a 15), .int p0]) (n := 4) (Nat.le_of_ble_eq_true rfl)
  rw [lg_entry_eq]
  generalize (lg_sl ([.ref (a 15), .int p0]) ++ List.replicate (4 - (lg_sl ([.ref (a 15), .int p0])).length) Slot.unset).toArray = ls at hl ⊢
  replace hl : lv_has ls 4 [(0, .ref (a 15)), (1, .int p0)] := hl
  replace h : (p_X1_tauByPairs_L0 F p0 (fun v2_0 v3_0 => (some v2_0)) F (0 : Int32) (1 : Int32)) = some r := h
  refine zabs (fun G hG hGW => ?_)
  obtain ⟨H, hHe⟩ : ∃ H, H = s.heap := ⟨_, rfl⟩
  rw [← hHe] at hP
  replace hS : va_S A s.heap H [] := by rw [hHe]; exact hS
  refine zheap hHe ?_
  refine lv_iconst (v := (0 : Int32)) hx hb dX1_tauByPairs_0 (by decide) ?_
  refine lv_istore_n (lv' := [(2, .int (0 : Int32)), (0, .ref (a 15)), (1, .int p0)]) hx hb dX1_tauByPairs_1 rfl hl (by decide) rfl (fun ls hl => ?_)
  refine lv_iconst (v := (1 : Int32)) hx hb dX1_tauByPairs_2 (by decide) ?_
  refine lv_istore_n (lv' := [(3, .int (1 : Int32)), (2, .int (0 : Int32)), (0, .ref (a 15)), (1, .int p0)]) hx hb dX1_tauByPairs_3 rfl hl (by decide) rfl (fun ls hl => ?_)
  have X0 : ∀ (v2_0 : Int32) (v3_0 : Int32) (H : Heap) (locs : List Loc) (ls : Array Slot), va_P D vwCl (cW a cJ cI cO R b pr tm cn sm ac re kn) H → va_D A (cW a cJ cI cO R b pr tm cn sm ac re kn) → va_S A s.heap H locs → lv_has ls 4 [(0, .ref (a 15)), (1, .int p0), (2, .int v2_0), (3, .int v3_0)] → (some v2_0) = some r → G H locs 0 0 (F0 m 44 ls []) := by
    intro v2_0 v3_0 H locs ls hP hD hS hl h
    refine hG _ _ _ _ _ ?_
    refine lv_iload_n hx hb dX1_tauByPairs_44 rfl (lv_at hl 2 rfl) ?_
    have h1 := Option.some.inj h
    subst h1
    exact W.iret (v := v2_0) hx hb hr (fun t ht hW => ⟨⟨v2_0, (), rfl, rfl, by rw [ht]; exact hP, va_K.moved hW.alike hK, hD⟩, hS.F ht⟩) hS.2.2 dX1_tauByPairs_45
  have L0 : ∀ (K0 : Int32 → Int32 → Option Int32) (HX0 : ∀ (v2_0 : Int32) (v3_0 : Int32) (H : Heap) (locs : List Loc) (ls : Array Slot), va_P D vwCl (cW a cJ cI cO R b pr tm cn sm ac re kn) H → va_D A (cW a cJ cI cO R b pr tm cn sm ac re kn) → va_S A s.heap H locs → lv_has ls 4 [(0, .ref (a 15)), (1, .int p0), (2, .int v2_0), (3, .int v3_0)] → K0 v2_0 v3_0 = some r → G H locs 0 0 (F0 m 44 ls [])) (fu0 : Nat) (v2_0 : Int32) (v3_0 : Int32) (H : Heap) (locs : List Loc) (ls : Array Slot), va_P D vwCl (cW a cJ cI cO R b pr tm cn sm ac re kn) H → va_D A (cW a cJ cI cO R b pr tm cn sm ac re kn) → va_S A s.heap H locs → lv_has ls 4 [(0, .ref (a 15)), (1, .int p0), (2, .int v2_0), (3, .int v3_0)] → p_X1_tauByPairs_L0 F p0 K0 fu0 v2_0 v3_0 = some r → G H locs 0 0 (F0 m 4 ls []) := by
    intro K0 HX0 fu0
    induction fu0 with
    | zero =>
      intro v2_0 v3_0 H locs ls hP hD hS hl h
      exact (zno h).elim
    | succ fu0 ih0 =>
      intro v2_0 v3_0 H locs ls hP hD hS hl h
      refine hG _ _ _ _ _ ?_
      unfold p_X1_tauByPairs_L0 at h
      refine lv_iload_n hx hb dX1_tauByPairs_4 rfl (lv_at hl 3 rfl) ?_
      refine lv_bipush (v := (31 : Int32)) hx hb dX1_tauByPairs_5 (by decide) ?_
      refine lv_icmp_gt (tgt := 44) hx hb dX1_tauByPairs_7 (by decide) (fun c7 => ?_) (fun c7 => ?_)
      · replace h := zif_t h c7
        exact hGW _ _ _ _ _ (HX0 v2_0 v3_0 _ _ ls hP hD hS (lv_sub hl [0, 1, 2, 3] rfl) h)
      · replace h := zif_f h c7
        refine lv_iload_n hx hb dX1_tauByPairs_10 rfl (lv_at hl 3 rfl) ?_
        refine lv_iload_n hx hb dX1_tauByPairs_11 rfl (lv_at hl 3 rfl) ?_
        refine lv_imul hx hb dX1_tauByPairs_12 ?_
        refine lv_iload_n hx hb dX1_tauByPairs_13 rfl (lv_at hl 1 rfl) ?_
        refine lv_icmp_gt (tgt := 44) hx hb dX1_tauByPairs_14 (by decide) (fun c14 => ?_) (fun c14 => ?_)
        · replace h := zif_t h c14
          exact hGW _ _ _ _ _ (HX0 v2_0 v3_0 _ _ ls hP hD hS (lv_sub hl [0, 1, 2, 3] rfl) h)
        · replace h := zif_f h c14
          refine lv_iload_n hx hb dX1_tauByPairs_17 rfl (lv_at hl 1 rfl) ?_
          refine lv_iload_n hx hb dX1_tauByPairs_18 rfl (lv_at hl 3 rfl) ?_
          obtain ⟨z19, h⟩ := zg_some h
          refine lv_irem hx hb dX1_tauByPairs_19 z19 ?_
          refine lv_if_ne (tgt := 38) hx hb dX1_tauByPairs_20 (by decide) (fun c20 => ?_) (fun c20 => ?_)
          · replace h := zif_t h c20
            refine lv_iinc (v := (v3_0 + (1 : Int32))) (lv' := [(3, .int (v3_0 + (1 : Int32))), (0, .ref (a 15)), (1, .int p0), (2, .int v2_0)]) hx hb dX1_tauByPairs_38 hl (k := 3) rfl rfl (by decide) rfl (fun ls hl => ?_)
            refine lv_goto (tgt := 4) hx hb dX1_tauByPairs_41 (by decide) ?_
            exact hGW _ _ _ _ _ (ih0 v2_0 (v3_0 + (1 : Int32)) _ _ ls hP hD hS (lv_sub hl [1, 2, 3, 0] rfl) h)
          · replace h := zif_fn h c20
            refine lv_iload_n hx hb dX1_tauByPairs_23 rfl (lv_at hl 2 rfl) ?_
            refine lv_iload_n hx hb dX1_tauByPairs_24 rfl (lv_at hl 3 rfl) ?_
            refine lv_iload_n hx hb dX1_tauByPairs_25 rfl (lv_at hl 3 rfl) ?_
            refine lv_imul hx hb dX1_tauByPairs_26 ?_
            refine lv_iload_n hx hb dX1_tauByPairs_27 rfl (lv_at hl 1 rfl) ?_
            refine lv_icmp_ge (tgt := 35) hx hb dX1_tauByPairs_28 (by decide) (fun c28 => ?_) (fun c28 => ?_)
            · replace h := zif_t h c28
              refine lv_iconst (v := (1 : Int32)) hx hb dX1_tauByPairs_35 (by decide) ?_
              refine lv_iadd hx hb dX1_tauByPairs_36 ?_
              refine lv_istore_n (lv' := [(2, .int (v2_0 + (1 : Int32))), (0, .ref (a 15)), (1, .int p0), (3, .int v3_0)]) hx hb dX1_tauByPairs_37 rfl hl (by decide) rfl (fun ls hl => ?_)
              refine lv_iinc (v := (v3_0 + (1 : Int32))) (lv' := [(3, .int (v3_0 + (1 : Int32))), (2, .int (v2_0 + (1 : Int32))), (0, .ref (a 15)), (1, .int p0)]) hx hb dX1_tauByPairs_38 hl (k := 3) rfl rfl (by decide) rfl (fun ls hl => ?_)
              refine lv_goto (tgt := 4) hx hb dX1_tauByPairs_41 (by decide) ?_
              exact hGW _ _ _ _ _ (ih0 (v2_0 + (1 : Int32)) (v3_0 + (1 : Int32)) _ _ ls hP hD hS (lv_sub hl [2, 3, 1, 0] rfl) h)
            · replace h := zif_f h c28
              refine lv_iconst (v := (2 : Int32)) hx hb dX1_tauByPairs_31 (by decide) ?_
              refine lv_goto (tgt := 36) hx hb dX1_tauByPairs_32 (by decide) ?_
              refine lv_iadd hx hb dX1_tauByPairs_36 ?_
              refine lv_istore_n (lv' := [(2, .int (v2_0 + (2 : Int32))), (0, .ref (a 15)), (1, .int p0), (3, .int v3_0)]) hx hb dX1_tauByPairs_37 rfl hl (by decide) rfl (fun ls hl => ?_)
              refine lv_iinc (v := (v3_0 + (1 : Int32))) (lv' := [(3, .int (v3_0 + (1 : Int32))), (2, .int (v2_0 + (2 : Int32))), (0, .ref (a 15)), (1, .int p0)]) hx hb dX1_tauByPairs_38 hl (k := 3) rfl rfl (by decide) rfl (fun ls hl => ?_)
              refine lv_goto (tgt := 4) hx hb dX1_tauByPairs_41 (by decide) ?_
              exact hGW _ _ _ _ _ (ih0 (v2_0 + (2 : Int32)) (v3_0 + (1 : Int32)) _ _ ls hP hD hS (lv_sub hl [2, 3, 1, 0] rfl) h)
  exact hGW _ _ _ _ _ (L0 _ X0 F (0 : Int32) (1 : Int32) _ _ ls hP hD hS (lv_sub hl [2, 3, 1, 0] rfl) h)

noncomputable def p_X1_sigmaOneByOne_L0 (F : Nat) (p0 : Int32) (k : Int32 → Int32 → Option Int32) : Nat → Int32 → Int32 → Option Int32
  | 0, _, _ => none
  | n + 1, v2_0, v3_0 => (if p0 < v3_0 then (k v2_0 v3_0) else (zg (v3_0 = 0) (if ¬ (zr p0 v3_0) = 0 then (p_X1_sigmaOneByOne_L0 F p0 k n (v2_0 + (0 : Int32)) (v3_0 + (1 : Int32))) else (p_X1_sigmaOneByOne_L0 F p0 k n (v2_0 + v3_0) (v3_0 + (1 : Int32))))))
noncomputable def p_X1_sigmaOneByOne (F : Nat) (p0 : Int32) : Option Int32 := (p_X1_sigmaOneByOne_L0 F p0 (fun v2_0 v3_0 => (some v2_0)) F (0 : Int32) (1 : Int32))
theorem hdV_X1_sigmaOneByOne : yX1_sigmaOneByOne.cls = RX1 ∧ yX1_sigmaOneByOne.cls ≠ "java/lang/invoke/MethodHandle" ∧ yX1_sigmaOneByOne.cls ≠ "java/lang/invoke/VarHandle" ∧ (parseMethodDescriptor yX1_sigmaOneByOne.desc).map (fun d => d.parameters.length) = some 1 := by decide +kernel
set_option maxHeartbeats 4000000 in
set_option maxRecDepth 100000 in
theorem c_X1_sigmaOneByOne (l : Launch) (D : va_G) (a : Nat → Nat) (cJ cI cO cB : ClassId) (R : Nat → Nat → Int64) (b : Bool) (pr : Nat → Int32) (tm : Nat → Int32) (cn : Int32) (sm : Nat → Int32) (ac : Int32) (re : Int32) (kn : Int32) (F : Nat) (p0 : Int32) (r : Int32) (h : p_X1_sigmaOneByOne F p0 = some r) : zMi l yX1_sigmaOneByOne wsX1_sigmaOneByOne 0 0 0 0 D (zT cJ cI cO cB) [.ref (a 15), .int p0] (cW a cJ cI cO R b pr tm cn sm ac re kn) (cW a cJ cI cO R b pr tm cn sm ac re kn) r := by
  intro sz
  delta zQi
  refine Met.ofW (cc := cX1_sigmaOneByOne) (maxL := 4) (ret := (some .int)) (by decide) rfl ?_
  intro p e s m args below meth c s₁ B hml hv
  obtain ⟨rfl, hsz, hP, hK, hD0⟩ := hv
  have hx := B.exec
  have hb := B.bytes
  have hr := B.returns
  have hts := atoms_spec (ws := wsX1_sigmaOneByOne) B.pre
  have hown : s.vm.findClass RX1 = some m.cls := findClass_of_methodNamed B.named
  have hlocks := B.notSynchronized
  subst hsz
  have hD := hD0.self (sz := s.heap.size)
  generalize hAe : va_A (cW a cJ cI cO R b pr tm cn sm ac re kn) s.heap.size = A at hD ⊢
  have hA : ∀ q : Nat, s.heap.size ≤ q → A q := fun q h => by rw [← hAe]; exact Or.inr h
  have hS : va_S A s.heap s.heap [] := va_S.rf
  have hl := lv_entry ([.ref (a 15), .int p0]) (n := 4) (Nat.le_of_ble_eq_true rfl)
  rw [lg_entry_eq]
  generalize (lg_sl ([.ref (a 15), .int p0]) ++ List.replicate (4 - (lg_sl ([.ref (a 15), .int p0])).length) Slot.unset).toArray = ls at hl ⊢
  replace hl : lv_has ls 4 [(0, .ref (a 15)), (1, .int p0)] := hl
  replace h : (p_X1_sigmaOneByOne_L0 F p0 (fun v2_0 v3_0 => (some v2_0)) F (0 : Int32) (1 : Int32)) = some r := h
  refine zabs (fun G hG hGW => ?_)
  obtain ⟨H, hHe⟩ : ∃ H, H = s.heap := ⟨_, rfl⟩
  rw [← hHe] at hP
  replace hS : va_S A s.heap H [] := by rw [hHe]; exact hS
  refine zheap hHe ?_
  refine lv_iconst (v := (0 : Int32)) hx hb dX1_sigmaOneByOne_0 (by decide) ?_
  refine lv_istore_n (lv' := [(2, .int (0 : Int32)), (0, .ref (a 15)), (1, .int p0)]) hx hb dX1_sigmaOneByOne_1 rfl hl (by decide) rfl (fun ls hl => ?_)
  refine lv_iconst (v := (1 : Int32)) hx hb dX1_sigmaOneByOne_2 (by decide) ?_
  refine lv_istore_n (lv' := [(3, .int (1 : Int32)), (2, .int (0 : Int32)), (0, .ref (a 15)), (1, .int p0)]) hx hb dX1_sigmaOneByOne_3 rfl hl (by decide) rfl (fun ls hl => ?_)
  have X0 : ∀ (v2_0 : Int32) (v3_0 : Int32) (H : Heap) (locs : List Loc) (ls : Array Slot), va_P D vwCl (cW a cJ cI cO R b pr tm cn sm ac re kn) H → va_D A (cW a cJ cI cO R b pr tm cn sm ac re kn) → va_S A s.heap H locs → lv_has ls 4 [(0, .ref (a 15)), (1, .int p0), (2, .int v2_0), (3, .int v3_0)] → (some v2_0) = some r → G H locs 0 0 (F0 m 29 ls []) := by
    intro v2_0 v3_0 H locs ls hP hD hS hl h
    refine hG _ _ _ _ _ ?_
    refine lv_iload_n hx hb dX1_sigmaOneByOne_29 rfl (lv_at hl 2 rfl) ?_
    have h1 := Option.some.inj h
    subst h1
    exact W.iret (v := v2_0) hx hb hr (fun t ht hW => ⟨⟨v2_0, (), rfl, rfl, by rw [ht]; exact hP, va_K.moved hW.alike hK, hD⟩, hS.F ht⟩) hS.2.2 dX1_sigmaOneByOne_30
  have L0 : ∀ (K0 : Int32 → Int32 → Option Int32) (HX0 : ∀ (v2_0 : Int32) (v3_0 : Int32) (H : Heap) (locs : List Loc) (ls : Array Slot), va_P D vwCl (cW a cJ cI cO R b pr tm cn sm ac re kn) H → va_D A (cW a cJ cI cO R b pr tm cn sm ac re kn) → va_S A s.heap H locs → lv_has ls 4 [(0, .ref (a 15)), (1, .int p0), (2, .int v2_0), (3, .int v3_0)] → K0 v2_0 v3_0 = some r → G H locs 0 0 (F0 m 29 ls [])) (fu0 : Nat) (v2_0 : Int32) (v3_0 : Int32) (H : Heap) (locs : List Loc) (ls : Array Slot), va_P D vwCl (cW a cJ cI cO R b pr tm cn sm ac re kn) H → va_D A (cW a cJ cI cO R b pr tm cn sm ac re kn) → va_S A s.heap H locs → lv_has ls 4 [(0, .ref (a 15)), (1, .int p0), (2, .int v2_0), (3, .int v3_0)] → p_X1_sigmaOneByOne_L0 F p0 K0 fu0 v2_0 v3_0 = some r → G H locs 0 0 (F0 m 4 ls []) := by
    intro K0 HX0 fu0
    induction fu0 with
    | zero =>
      intro v2_0 v3_0 H locs ls hP hD hS hl h
      exact (zno h).elim
    | succ fu0 ih0 =>
      intro v2_0 v3_0 H locs ls hP hD hS hl h
      refine hG _ _ _ _ _ ?_
      unfold p_X1_sigmaOneByOne_L0 at h
      refine lv_iload_n hx hb dX1_sigmaOneByOne_4 rfl (lv_at hl 3 rfl) ?_
      refine lv_iload_n hx hb dX1_sigmaOneByOne_5 rfl (lv_at hl 1 rfl) ?_
      refine lv_icmp_gt (tgt := 29) hx hb dX1_sigmaOneByOne_6 (by decide) (fun c6 => ?_) (fun c6 => ?_)
      · replace h := zif_t h c6
        exact hGW _ _ _ _ _ (HX0 v2_0 v3_0 _ _ ls hP hD hS (lv_sub hl [0, 1, 2, 3] rfl) h)
      · replace h := zif_f h c6
        refine lv_iload_n hx hb dX1_sigmaOneByOne_9 rfl (lv_at hl 2 rfl) ?_
        refine lv_iload_n hx hb dX1_sigmaOneByOne_10 rfl (lv_at hl 1 rfl) ?_
        refine lv_iload_n hx hb dX1_sigmaOneByOne_11 rfl (lv_at hl 3 rfl) ?_
        obtain ⟨z12, h⟩ := zg_some h
        refine lv_irem hx hb dX1_sigmaOneByOne_12 z12 ?_
        refine lv_if_ne (tgt := 20) hx hb dX1_sigmaOneByOne_13 (by decide) (fun c13 => ?_) (fun c13 => ?_)
        · replace h := zif_t h c13
          refine lv_iconst (v := (0 : Int32)) hx hb dX1_sigmaOneByOne_20 (by decide) ?_
          refine lv_iadd hx hb dX1_sigmaOneByOne_21 ?_
          refine lv_istore_n (lv' := [(2, .int (v2_0 + (0 : Int32))), (0, .ref (a 15)), (1, .int p0), (3, .int v3_0)]) hx hb dX1_sigmaOneByOne_22 rfl hl (by decide) rfl (fun ls hl => ?_)
          refine lv_iinc (v := (v3_0 + (1 : Int32))) (lv' := [(3, .int (v3_0 + (1 : Int32))), (2, .int (v2_0 + (0 : Int32))), (0, .ref (a 15)), (1, .int p0)]) hx hb dX1_sigmaOneByOne_23 hl (k := 3) rfl rfl (by decide) rfl (fun ls hl => ?_)
          refine lv_goto (tgt := 4) hx hb dX1_sigmaOneByOne_26 (by decide) ?_
          exact hGW _ _ _ _ _ (ih0 (v2_0 + (0 : Int32)) (v3_0 + (1 : Int32)) _ _ ls hP hD hS (lv_sub hl [2, 3, 1, 0] rfl) h)
        · replace h := zif_fn h c13
          refine lv_iload_n hx hb dX1_sigmaOneByOne_16 rfl (lv_at hl 3 rfl) ?_
          refine lv_goto (tgt := 21) hx hb dX1_sigmaOneByOne_17 (by decide) ?_
          refine lv_iadd hx hb dX1_sigmaOneByOne_21 ?_
          refine lv_istore_n (lv' := [(2, .int (v2_0 + v3_0)), (0, .ref (a 15)), (1, .int p0), (3, .int v3_0)]) hx hb dX1_sigmaOneByOne_22 rfl hl (by decide) rfl (fun ls hl => ?_)
          refine lv_iinc (v := (v3_0 + (1 : Int32))) (lv' := [(3, .int (v3_0 + (1 : Int32))), (2, .int (v2_0 + v3_0)), (0, .ref (a 15)), (1, .int p0)]) hx hb dX1_sigmaOneByOne_23 hl (k := 3) rfl rfl (by decide) rfl (fun ls hl => ?_)
          refine lv_goto (tgt := 4) hx hb dX1_sigmaOneByOne_26 (by decide) ?_
          exact hGW _ _ _ _ _ (ih0 (v2_0 + v3_0) (v3_0 + (1 : Int32)) _ _ ls hP hD hS (lv_sub hl [2, 3, 1, 0] rfl) h)
  exact hGW _ _ _ _ _ (L0 _ X0 F (0 : Int32) (1 : Int32) _ _ ls hP hD hS (lv_sub hl [2, 3, 1, 0] rfl) h)

noncomputable def p_X1_phiOneByOne_L0 (F : Nat) (p0 : Int32) (k : Int32 → Int32 → Option Int32) : Nat → Int32 → Int32 → Option Int32
  | 0, _, _ => none
  | n + 1, v2_0, v3_0 => (if p0 < v3_0 then (k v2_0 v3_0) else (zb1 (p_X1_commonOf F v3_0 p0) (fun r1 => (if ¬ r1 = (1 : Int32) then (p_X1_phiOneByOne_L0 F p0 k n (v2_0 + (0 : Int32)) (v3_0 + (1 : Int32))) else (p_X1_phiOneByOne_L0 F p0 k n (v2_0 + (1 : Int32)) (v3_0 + (1 : Int32)))))))
noncomputable def p_X1_phiOneByOne (F : Nat) (p0 : Int32) : Option Int32 := (p_X1_phiOneByOne_L0 F p0 (fun v2_0 v3_0 => (some v2_0)) F (0 : Int32) (1 : Int32))
theorem hdV_X1_phiOneByOne : yX1_phiOneByOne.cls = RX1 ∧ yX1_phiOneByOne.cls ≠ "java/lang/invoke/MethodHandle" ∧ yX1_phiOneByOne.cls ≠ "java/lang/invoke/VarHandle" ∧ (parseMethodDescriptor yX1_phiOneByOne.desc).map (fun d => d.parameters.length) = some 1 := by decide +kernel
set_option maxHeartbeats 4000000 in
set_option maxRecDepth 100000 in
theorem c_X1_phiOneByOne (l : Launch) (D : va_G) (a : Nat → Nat) (cJ cI cO cB : ClassId) (R : Nat → Nat → Int64) (b : Bool) (pr : Nat → Int32) (tm : Nat → Int32) (cn : Int32) (sm : Nat → Int32) (ac : Int32) (re : Int32) (kn : Int32) (F : Nat) (p0 : Int32) (r : Int32) (h : p_X1_phiOneByOne F p0 = some r) : zMi l yX1_phiOneByOne wsX1_phiOneByOne 1 25 0 0 D (zT cJ cI cO cB) [.ref (a 15), .int p0] (cW a cJ cI cO R b pr tm cn sm ac re kn) (cW a cJ cI cO R b pr tm cn sm ac re kn) r := by
  intro sz
  delta zQi
  refine Met.ofW (cc := cX1_phiOneByOne) (maxL := 4) (ret := (some .int)) (by decide) rfl ?_
  intro p e s m args below meth c s₁ B hml hv
  obtain ⟨rfl, hsz, hP, hK, hD0⟩ := hv
  have hx := B.exec
  have hb := B.bytes
  have hr := B.returns
  have hts := atoms_spec (ws := wsX1_phiOneByOne) B.pre
  have hown : s.vm.findClass RX1 = some m.cls := findClass_of_methodNamed B.named
  have hlocks := B.notSynchronized
  subst hsz
  have hD := hD0.self (sz := s.heap.size)
  generalize hAe : va_A (cW a cJ cI cO R b pr tm cn sm ac re kn) s.heap.size = A at hD ⊢
  have hA : ∀ q : Nat, s.heap.size ≤ q → A q := fun q h => by rw [← hAe]; exact Or.inr h
  have hS : va_S A s.heap s.heap [] := va_S.rf
  have hl := lv_entry ([.ref (a 15), .int p0]) (n := 4) (Nat.le_of_ble_eq_true rfl)
  rw [lg_entry_eq]
  generalize (lg_sl ([.ref (a 15), .int p0]) ++ List.replicate (4 - (lg_sl ([.ref (a 15), .int p0])).length) Slot.unset).toArray = ls at hl ⊢
  replace hl : lv_has ls 4 [(0, .ref (a 15)), (1, .int p0)] := hl
  replace h : (p_X1_phiOneByOne_L0 F p0 (fun v2_0 v3_0 => (some v2_0)) F (0 : Int32) (1 : Int32)) = some r := h
  refine zabs (fun G hG hGW => ?_)
  obtain ⟨H, hHe⟩ : ∃ H, H = s.heap := ⟨_, rfl⟩
  rw [← hHe] at hP
  replace hS : va_S A s.heap H [] := by rw [hHe]; exact hS
  refine zheap hHe ?_
  refine lv_iconst (v := (0 : Int32)) hx hb dX1_phiOneByOne_0 (by decide) ?_
  refine lv_istore_n (lv' := [(2, .int (0 : Int32)), (0, .ref (a 15)), (1, .int p0)]) hx hb dX1_phiOneByOne_1 rfl hl (by decide) rfl (fun ls hl => ?_)
  refine lv_iconst (v := (1 : Int32)) hx hb dX1_phiOneByOne_2 (by decide) ?_
  refine lv_istore_n (lv' := [(3, .int (1 : Int32)), (2, .int (0 : Int32)), (0, .ref (a 15)), (1, .int p0)]) hx hb dX1_phiOneByOne_3 rfl hl (by decide) rfl (fun ls hl => ?_)
  have X0 : ∀ (v2_0 : Int32) (v3_0 : Int32) (H : Heap) (locs : List Loc) (ls : Array Slot), va_P D vwCl (cW a cJ cI cO R b pr tm cn sm ac re kn) H → va_D A (cW a cJ cI cO R b pr tm cn sm ac re kn) → va_S A s.heap H locs → lv_has ls 4 [(0, .ref (a 15)), (1, .int p0), (2, .int v2_0), (3, .int v3_0)] → (some v2_0) = some r → G H locs 0 0 (F0 m 32 ls []) := by
    intro v2_0 v3_0 H locs ls hP hD hS hl h
    refine hG _ _ _ _ _ ?_
    refine lv_iload_n hx hb dX1_phiOneByOne_32 rfl (lv_at hl 2 rfl) ?_
    have h1 := Option.some.inj h
    subst h1
    exact W.iret (v := v2_0) hx hb hr (fun t ht hW => ⟨⟨v2_0, (), rfl, rfl, by rw [ht]; exact hP, va_K.moved hW.alike hK, hD⟩, hS.F ht⟩) hS.2.2 dX1_phiOneByOne_33
  have L0 : ∀ (K0 : Int32 → Int32 → Option Int32) (HX0 : ∀ (v2_0 : Int32) (v3_0 : Int32) (H : Heap) (locs : List Loc) (ls : Array Slot), va_P D vwCl (cW a cJ cI cO R b pr tm cn sm ac re kn) H → va_D A (cW a cJ cI cO R b pr tm cn sm ac re kn) → va_S A s.heap H locs → lv_has ls 4 [(0, .ref (a 15)), (1, .int p0), (2, .int v2_0), (3, .int v3_0)] → K0 v2_0 v3_0 = some r → G H locs 0 0 (F0 m 32 ls [])) (fu0 : Nat) (v2_0 : Int32) (v3_0 : Int32) (H : Heap) (locs : List Loc) (ls : Array Slot), va_P D vwCl (cW a cJ cI cO R b pr tm cn sm ac re kn) H → va_D A (cW a cJ cI cO R b pr tm cn sm ac re kn) → va_S A s.heap H locs → lv_has ls 4 [(0, .ref (a 15)), (1, .int p0), (2, .int v2_0), (3, .int v3_0)] → p_X1_phiOneByOne_L0 F p0 K0 fu0 v2_0 v3_0 = some r → G H locs 0 0 (F0 m 4 ls []) := by
    intro K0 HX0 fu0
    induction fu0 with
    | zero =>
      intro v2_0 v3_0 H locs ls hP hD hS hl h
      exact (zno h).elim
    | succ fu0 ih0 =>
      intro v2_0 v3_0 H locs ls hP hD hS hl h
      refine hG _ _ _ _ _ ?_
      unfold p_X1_phiOneByOne_L0 at h
      refine lv_iload_n hx hb dX1_phiOneByOne_4 rfl (lv_at hl 3 rfl) ?_
      refine lv_iload_n hx hb dX1_phiOneByOne_5 rfl (lv_at hl 1 rfl) ?_
      refine lv_icmp_gt (tgt := 32) hx hb dX1_phiOneByOne_6 (by decide) (fun c6 => ?_) (fun c6 => ?_)
      · replace h := zif_t h c6
        exact hGW _ _ _ _ _ (HX0 v2_0 v3_0 _ _ ls hP hD hS (lv_sub hl [0, 1, 2, 3] rfl) h)
      · replace h := zif_f h c6
        refine lv_iload_n hx hb dX1_phiOneByOne_9 rfl (lv_at hl 2 rfl) ?_
        refine lv_iload_n hx hb dX1_phiOneByOne_10 rfl (lv_at hl 3 rfl) ?_
        refine lv_iload_n hx hb dX1_phiOneByOne_11 rfl (lv_at hl 1 rfl) ?_
        obtain ⟨r1, e2, h⟩ := zb1_some h
        refine zgoi (va_runS (As := [.int v3_0, .int p0]) (rest := [.int v2_0]) ⟨hx, hb, hml, hown, hts⟩ (c_X1_commonOf l D (zT cJ cI cO cB) F v3_0 p0 r1 e2 H.size) (va_cwS 2 hts gX1_phiOneByOne_X1_commonOf rfl rfl rfl hdS_X1_commonOf ⟨Nat.le_of_ble_eq_true rfl, Nat.le_of_ble_eq_true rfl⟩) (zpreS hK zP0 (zD0 (A := A)) [.int v3_0, .int p0]) rfl rfl hl.1 rfl (lv_room (Nat.le_of_ble_eq_true rfl)) dX1_phiOneByOne_12 ⟨Nat.le_of_ble_eq_true rfl, Nat.le_of_ble_eq_true rfl⟩) (zf0 hS hA) (zjE hP hD) hS (fun H locs hP hD hS => ?_)
        refine lv_iconst (v := (1 : Int32)) hx hb dX1_phiOneByOne_15 (by decide) ?_
        refine lv_icmp_ne (tgt := 23) hx hb dX1_phiOneByOne_16 (by decide) (fun c16 => ?_) (fun c16 => ?_)
        · replace h := zif_t h c16
          refine lv_iconst (v := (0 : Int32)) hx hb dX1_phiOneByOne_23 (by decide) ?_
          refine lv_iadd hx hb dX1_phiOneByOne_24 ?_
          refine lv_istore_n (lv' := [(2, .int (v2_0 + (0 : Int32))), (0, .ref (a 15)), (1, .int p0), (3, .int v3_0)]) hx hb dX1_phiOneByOne_25 rfl hl (by decide) rfl (fun ls hl => ?_)
          refine lv_iinc (v := (v3_0 + (1 : Int32))) (lv' := [(3, .int (v3_0 + (1 : Int32))), (2, .int (v2_0 + (0 : Int32))), (0, .ref (a 15)), (1, .int p0)]) hx hb dX1_phiOneByOne_26 hl (k := 3) rfl rfl (by decide) rfl (fun ls hl => ?_)
          refine lv_goto (tgt := 4) hx hb dX1_phiOneByOne_29 (by decide) ?_
          exact hGW _ _ _ _ _ (ih0 (v2_0 + (0 : Int32)) (v3_0 + (1 : Int32)) _ _ ls hP hD hS (lv_sub hl [2, 3, 1, 0] rfl) h)
        · replace h := zif_fn h c16
          refine lv_iconst (v := (1 : Int32)) hx hb dX1_phiOneByOne_19 (by decide) ?_
          refine lv_goto (tgt := 24) hx hb dX1_phiOneByOne_20 (by decide) ?_
          refine lv_iadd hx hb dX1_phiOneByOne_24 ?_
          refine lv_istore_n (lv' := [(2, .int (v2_0 + (1 : Int32))), (0, .ref (a 15)), (1, .int p0), (3, .int v3_0)]) hx hb dX1_phiOneByOne_25 rfl hl (by decide) rfl (fun ls hl => ?_)
          refine lv_iinc (v := (v3_0 + (1 : Int32))) (lv' := [(3, .int (v3_0 + (1 : Int32))), (2, .int (v2_0 + (1 : Int32))), (0, .ref (a 15)), (1, .int p0)]) hx hb dX1_phiOneByOne_26 hl (k := 3) rfl rfl (by decide) rfl (fun ls hl => ?_)
          refine lv_goto (tgt := 4) hx hb dX1_phiOneByOne_29 (by decide) ?_
          exact hGW _ _ _ _ _ (ih0 (v2_0 + (1 : Int32)) (v3_0 + (1 : Int32)) _ _ ls hP hD hS (lv_sub hl [2, 3, 1, 0] rfl) h)
  exact hGW _ _ _ _ _ (L0 _ X0 F (0 : Int32) (1 : Int32) _ _ ls hP hD hS (lv_sub hl [2, 3, 1, 0] rfl) h)

noncomputable def p_X1_phiBySigns_L0 (F : Nat) (p0 : Int32) (k : Int32 → Int32 → (Nat → Int32) → (Nat → Int32) → Int32 → Option (Int32 × (Nat → Int32) × (Nat → Int32) × Int32)) : Nat → Int32 → Int32 → (Nat → Int32) → (Nat → Int32) → Int32 → Option (Int32 × (Nat → Int32) × (Nat → Int32) × Int32)
  | 0, _, _, _, _, _ => none
  | n + 1, v2_0, v3_0, prL0, tmL0, cnL0 => (if p0 < v3_0 then (k v2_0 v3_0 prL0 tmL0 cnL0) else (zg (v3_0 = 0) (if ¬ (zr p0 v3_0) = 0 then (p_X1_phiBySigns_L0 F p0 k n v2_0 (v3_0 + (1 : Int32)) prL0 tmL0 cnL0) else (zb4 (p_X1_signByPowers F prL0 tmL0 v3_0) (fun r1 pr_2 tm_3 cn_4 => (zg (v3_0 = 0) (p_X1_phiBySigns_L0 F p0 k n (v2_0 + (r1 * (p0 / v3_0))) (v3_0 + (1 : Int32)) pr_2 tm_3 cn_4)))))))
noncomputable def p_X1_phiBySigns (F : Nat) (pr : Nat → Int32) (tm : Nat → Int32) (cn : Int32) (p0 : Int32) : Option (Int32 × (Nat → Int32) × (Nat → Int32) × Int32) := (p_X1_phiBySigns_L0 F p0 (fun v2_0 v3_0 prL0 tmL0 cnL0 => (some (v2_0, prL0, tmL0, cnL0))) F (0 : Int32) (1 : Int32) pr tm cn)
theorem hdV_X1_phiBySigns : yX1_phiBySigns.cls = RX1 ∧ yX1_phiBySigns.cls ≠ "java/lang/invoke/MethodHandle" ∧ yX1_phiBySigns.cls ≠ "java/lang/invoke/VarHandle" ∧ (parseMethodDescriptor yX1_phiBySigns.desc).map (fun d => d.parameters.length) = some 1 := by decide +kernel
set_option maxHeartbeats 4000000 in
set_option maxRecDepth 100000 in
theorem c_X1_phiBySigns (l : Launch) (D : va_G) (a : Nat → Nat) (cJ cI cO cB : ClassId) (R : Nat → Nat → Int64) (b : Bool) (pr : Nat → Int32) (tm : Nat → Int32) (cn : Int32) (sm : Nat → Int32) (ac : Int32) (re : Int32) (kn : Int32) (F : Nat) (p0 : Int32) (r : Int32) (pr' : Nat → Int32) (tm' : Nat → Int32) (cn' : Int32) (h : p_X1_phiBySigns F pr tm cn p0 = some (r, pr', tm', cn')) : zMi l yX1_phiBySigns wsX1_phiBySigns 2 47 0 0 D (zT cJ cI cO cB) [.ref (a 15), .int p0] (cW a cJ cI cO R b pr tm cn sm ac re kn) (cW a cJ cI cO R b pr' tm' cn' sm ac re kn) r := by
  intro sz
  delta zQi
  refine Met.ofW (cc := cX1_phiBySigns) (maxL := 4) (ret := (some .int)) (by decide) rfl ?_
  intro p e s m args below meth c s₁ B hml hv
  obtain ⟨rfl, hsz, hP, hK, hD0⟩ := hv
  have hx := B.exec
  have hb := B.bytes
  have hr := B.returns
  have hts := atoms_spec (ws := wsX1_phiBySigns) B.pre
  have hown : s.vm.findClass RX1 = some m.cls := findClass_of_methodNamed B.named
  have hlocks := B.notSynchronized
  subst hsz
  have hD := hD0.self (sz := s.heap.size)
  generalize hAe : va_A (cW a cJ cI cO R b pr tm cn sm ac re kn) s.heap.size = A at hD ⊢
  have hA : ∀ q : Nat, s.heap.size ≤ q → A q := fun q h => by rw [← hAe]; exact Or.inr h
  have hS : va_S A s.heap s.heap [] := va_S.rf
  have hl := lv_entry ([.ref (a 15), .int p0]) (n := 4) (Nat.le_of_ble_eq_true rfl)
  rw [lg_entry_eq]
  generalize (lg_sl ([.ref (a 15), .int p0]) ++ List.replicate (4 - (lg_sl ([.ref (a 15), .int p0])).length) Slot.unset).toArray = ls at hl ⊢
  replace hl : lv_has ls 4 [(0, .ref (a 15)), (1, .int p0)] := hl
  replace h : (p_X1_phiBySigns_L0 F p0 (fun v2_0 v3_0 prL0 tmL0 cnL0 => (some (v2_0, prL0, tmL0, cnL0))) F (0 : Int32) (1 : Int32) pr tm cn) = some (r, pr', tm', cn') := h
  refine zabs (fun G hG hGW => ?_)
  obtain ⟨H, hHe⟩ : ∃ H, H = s.heap := ⟨_, rfl⟩
  rw [← hHe] at hP
  replace hS : va_S A s.heap H [] := by rw [hHe]; exact hS
  refine zheap hHe ?_
  refine lv_iconst (v := (0 : Int32)) hx hb dX1_phiBySigns_0 (by decide) ?_
  refine lv_istore_n (lv' := [(2, .int (0 : Int32)), (0, .ref (a 15)), (1, .int p0)]) hx hb dX1_phiBySigns_1 rfl hl (by decide) rfl (fun ls hl => ?_)
  refine lv_iconst (v := (1 : Int32)) hx hb dX1_phiBySigns_2 (by decide) ?_
  refine lv_istore_n (lv' := [(3, .int (1 : Int32)), (2, .int (0 : Int32)), (0, .ref (a 15)), (1, .int p0)]) hx hb dX1_phiBySigns_3 rfl hl (by decide) rfl (fun ls hl => ?_)
  have X0 : ∀ (v2_0 : Int32) (v3_0 : Int32) (prL0 : Nat → Int32) (tmL0 : Nat → Int32) (cnL0 : Int32) (H : Heap) (locs : List Loc) (ls : Array Slot), va_P D vwCl (cW a cJ cI cO R b prL0 tmL0 cnL0 sm ac re kn) H → va_D A (cW a cJ cI cO R b prL0 tmL0 cnL0 sm ac re kn) → va_S A s.heap H locs → lv_has ls 4 [(0, .ref (a 15)), (1, .int p0), (2, .int v2_0), (3, .int v3_0)] → (some (v2_0, prL0, tmL0, cnL0)) = some (r, pr', tm', cn') → G H locs 0 0 (F0 m 33 ls []) := by
    intro v2_0 v3_0 prL0 tmL0 cnL0 H locs ls hP hD hS hl h
    refine hG _ _ _ _ _ ?_
    refine lv_iload_n hx hb dX1_phiBySigns_33 rfl (lv_at hl 2 rfl) ?_
    have g0 := Option.some.inj h
    obtain ⟨h1, g1⟩ := Prod.mk.inj g0
    obtain ⟨h2, g2⟩ := Prod.mk.inj g1
    obtain ⟨h3, g3⟩ := Prod.mk.inj g2
    subst h1
    subst h2
    subst h3
    subst g3
    exact W.iret (v := v2_0) hx hb hr (fun t ht hW => ⟨⟨v2_0, (), rfl, rfl, by rw [ht]; exact hP, va_K.moved hW.alike hK, hD⟩, hS.F ht⟩) hS.2.2 dX1_phiBySigns_34
  have L0 : ∀ (K0 : Int32 → Int32 → (Nat → Int32) → (Nat → Int32) → Int32 → Option (Int32 × (Nat → Int32) × (Nat → Int32) × Int32)) (HX0 : ∀ (v2_0 : Int32) (v3_0 : Int32) (prL0 : Nat → Int32) (tmL0 : Nat → Int32) (cnL0 : Int32) (H : Heap) (locs : List Loc) (ls : Array Slot), va_P D vwCl (cW a cJ cI cO R b prL0 tmL0 cnL0 sm ac re kn) H → va_D A (cW a cJ cI cO R b prL0 tmL0 cnL0 sm ac re kn) → va_S A s.heap H locs → lv_has ls 4 [(0, .ref (a 15)), (1, .int p0), (2, .int v2_0), (3, .int v3_0)] → K0 v2_0 v3_0 prL0 tmL0 cnL0 = some (r, pr', tm', cn') → G H locs 0 0 (F0 m 33 ls [])) (fu0 : Nat) (v2_0 : Int32) (v3_0 : Int32) (prL0 : Nat → Int32) (tmL0 : Nat → Int32) (cnL0 : Int32) (H : Heap) (locs : List Loc) (ls : Array Slot), va_P D vwCl (cW a cJ cI cO R b prL0 tmL0 cnL0 sm ac re kn) H → va_D A (cW a cJ cI cO R b prL0 tmL0 cnL0 sm ac re kn) → va_S A s.heap H locs → lv_has ls 4 [(0, .ref (a 15)), (1, .int p0), (2, .int v2_0), (3, .int v3_0)] → p_X1_phiBySigns_L0 F p0 K0 fu0 v2_0 v3_0 prL0 tmL0 cnL0 = some (r, pr', tm', cn') → G H locs 0 0 (F0 m 4 ls []) := by
    intro K0 HX0 fu0
    induction fu0 with
    | zero =>
      intro v2_0 v3_0 prL0 tmL0 cnL0 H locs ls hP hD hS hl h
      exact (zno h).elim
    | succ fu0 ih0 =>
      intro v2_0 v3_0 prL0 tmL0 cnL0 H locs ls hP hD hS hl h
      refine hG _ _ _ _ _ ?_
      unfold p_X1_phiBySigns_L0 at h
      refine lv_iload_n hx hb dX1_phiBySigns_4 rfl (lv_at hl 3 rfl) ?_
      refine lv_iload_n hx hb dX1_phiBySigns_5 rfl (lv_at hl 1 rfl) ?_
      refine lv_icmp_gt (tgt := 33) hx hb dX1_phiBySigns_6 (by decide) (fun c6 => ?_) (fun c6 => ?_)
      · replace h := zif_t h c6
        exact hGW _ _ _ _ _ (HX0 v2_0 v3_0 prL0 tmL0 cnL0 _ _ ls hP hD hS (lv_sub hl [0, 1, 2, 3] rfl) h)
      · replace h := zif_f h c6
        refine lv_iload_n hx hb dX1_phiBySigns_9 rfl (lv_at hl 1 rfl) ?_
        refine lv_iload_n hx hb dX1_phiBySigns_10 rfl (lv_at hl 3 rfl) ?_
        obtain ⟨z11, h⟩ := zg_some h
        refine lv_irem hx hb dX1_phiBySigns_11 z11 ?_
        refine lv_if_ne (tgt := 27) hx hb dX1_phiBySigns_12 (by decide) (fun c12 => ?_) (fun c12 => ?_)
        · replace h := zif_t h c12
          refine lv_iinc (v := (v3_0 + (1 : Int32))) (lv' := [(3, .int (v3_0 + (1 : Int32))), (0, .ref (a 15)), (1, .int p0), (2, .int v2_0)]) hx hb dX1_phiBySigns_27 hl (k := 3) rfl rfl (by decide) rfl (fun ls hl => ?_)
          refine lv_goto (tgt := 4) hx hb dX1_phiBySigns_30 (by decide) ?_
          exact hGW _ _ _ _ _ (ih0 v2_0 (v3_0 + (1 : Int32)) prL0 tmL0 cnL0 _ _ ls hP hD hS (lv_sub hl [1, 2, 3, 0] rfl) h)
        · replace h := zif_fn h c12
          refine lv_iload_n hx hb dX1_phiBySigns_15 rfl (lv_at hl 2 rfl) ?_
          refine lv_aload_n hx hb dX1_phiBySigns_16 rfl (lv_at hl 0 rfl) ?_
          refine lv_iload_n hx hb dX1_phiBySigns_17 rfl (lv_at hl 3 rfl) ?_
          obtain ⟨r1, pr_2, tm_3, cn_4, e5, h⟩ := zb4_some h
          refine zgoi (va_runV (As := [.int v3_0]) (rest := [.int v2_0]) ⟨hx, hb, hml, hown, hts⟩ (c_X1_signByPowers l D a cJ cI cO cB R b prL0 tmL0 cnL0 sm ac re kn F v3_0 r1 pr_2 tm_3 cn_4 e5 H.size) (cwV 1 hts gX1_phiBySigns_X1_signByPowers rfl rfl rfl hdV_X1_signByPowers ⟨Nat.le_of_ble_eq_true rfl, Nat.le_of_ble_eq_true rfl⟩) (zpreV (q0 := 15) (ci := 3) (T := TX1) (N := 2) hK hP hD rfl rfl [.int v3_0]) rfl rfl hl.1 rfl (lv_room (Nat.le_of_ble_eq_true rfl)) dX1_phiBySigns_18 ⟨Nat.le_of_ble_eq_true rfl, Nat.le_of_ble_eq_true rfl⟩) (zfree hD hS hA) (zjW hD hS hA) hS (fun H locs hP hD hS => ?_)
          replace hP : va_P D vwCl (cW a cJ cI cO R b pr_2 tm_3 cn_4 sm ac re kn) H := hP
          replace hD : va_D A (cW a cJ cI cO R b pr_2 tm_3 cn_4 sm ac re kn) := hD
          refine lv_iload_n hx hb dX1_phiBySigns_21 rfl (lv_at hl 1 rfl) ?_
          refine lv_iload_n hx hb dX1_phiBySigns_22 rfl (lv_at hl 3 rfl) ?_
          obtain ⟨z23, h⟩ := zg_some h
          refine lv_idiv hx hb dX1_phiBySigns_23 z23 ?_
          refine lv_imul hx hb dX1_phiBySigns_24 ?_
          refine lv_iadd hx hb dX1_phiBySigns_25 ?_
          refine lv_istore_n (lv' := [(2, .int (v2_0 + (r1 * (p0 / v3_0)))), (0, .ref (a 15)), (1, .int p0), (3, .int v3_0)]) hx hb dX1_phiBySigns_26 rfl hl (by decide) rfl (fun ls hl => ?_)
          refine lv_iinc (v := (v3_0 + (1 : Int32))) (lv' := [(3, .int (v3_0 + (1 : Int32))), (2, .int (v2_0 + (r1 * (p0 / v3_0)))), (0, .ref (a 15)), (1, .int p0)]) hx hb dX1_phiBySigns_27 hl (k := 3) rfl rfl (by decide) rfl (fun ls hl => ?_)
          refine lv_goto (tgt := 4) hx hb dX1_phiBySigns_30 (by decide) ?_
          exact hGW _ _ _ _ _ (ih0 (v2_0 + (r1 * (p0 / v3_0))) (v3_0 + (1 : Int32)) pr_2 tm_3 cn_4 _ _ ls hP hD hS (lv_sub hl [2, 3, 1, 0] rfl) h)
  exact hGW _ _ _ _ _ (L0 _ X0 F (0 : Int32) (1 : Int32) pr tm cn _ _ ls hP hD hS (lv_sub hl [2, 3, 1, 0] rfl) h)

noncomputable def p_X1_sumOfSmallerDivisors_L0 (F : Nat) (sm : Nat → Int32) (p0 : Int32) (k : Int32 → Int32 → Option Int32) : Nat → Int32 → Int32 → Option Int32
  | 0, _, _ => none
  | n + 1, v2_0, v3_0 => (if p0 ≤ v3_0 then (k v2_0 v3_0) else (if (999 : Int32) < v3_0 then (k v2_0 v3_0) else (zg (v3_0 = 0) (if ¬ (zr p0 v3_0) = 0 then (p_X1_sumOfSmallerDivisors_L0 F sm p0 k n (v2_0 + (0 : Int32)) (v3_0 + (1 : Int32))) else (zg (v3_0 < 0 ∨ 1000 ≤ v3_0.toNatClampNeg) (p_X1_sumOfSmallerDivisors_L0 F sm p0 k n (v2_0 + (sm v3_0.toNatClampNeg)) (v3_0 + (1 : Int32))))))))
noncomputable def p_X1_sumOfSmallerDivisors (F : Nat) (sm : Nat → Int32) (p0 : Int32) : Option Int32 := (p_X1_sumOfSmallerDivisors_L0 F sm p0 (fun v2_0 v3_0 => (some v2_0)) F (0 : Int32) (1 : Int32))
theorem hdV_X1_sumOfSmallerDivisors : yX1_sumOfSmallerDivisors.cls = RX1 ∧ yX1_sumOfSmallerDivisors.cls ≠ "java/lang/invoke/MethodHandle" ∧ yX1_sumOfSmallerDivisors.cls ≠ "java/lang/invoke/VarHandle" ∧ (parseMethodDescriptor yX1_sumOfSmallerDivisors.desc).map (fun d => d.parameters.length) = some 1 := by decide +kernel
set_option maxHeartbeats 4000000 in
set_option maxRecDepth 100000 in
theorem c_X1_sumOfSmallerDivisors (l : Launch) (D : va_G) (a : Nat → Nat) (cJ cI cO cB : ClassId) (R : Nat → Nat → Int64) (b : Bool) (pr : Nat → Int32) (tm : Nat → Int32) (cn : Int32) (sm : Nat → Int32) (ac : Int32) (re : Int32) (kn : Int32) (F : Nat) (p0 : Int32) (r : Int32) (h : p_X1_sumOfSmallerDivisors F sm p0 = some r) : zMi l yX1_sumOfSmallerDivisors wsX1_sumOfSmallerDivisors 0 0 0 0 D (zT cJ cI cO cB) [.ref (a 15), .int p0] (cW a cJ cI cO R b pr tm cn sm ac re kn) (cW a cJ cI cO R b pr tm cn sm ac re kn) r := by
  intro sz
  delta zQi
  refine Met.ofW (cc := cX1_sumOfSmallerDivisors) (maxL := 4) (ret := (some .int)) (by decide) rfl ?_
  intro p e s m args below meth c s₁ B hml hv
  obtain ⟨rfl, hsz, hP, hK, hD0⟩ := hv
  have hx := B.exec
  have hb := B.bytes
  have hr := B.returns
  have hts := atoms_spec (ws := wsX1_sumOfSmallerDivisors) B.pre
  have hown : s.vm.findClass RX1 = some m.cls := findClass_of_methodNamed B.named
  have hlocks := B.notSynchronized
  subst hsz
  have hD := hD0.self (sz := s.heap.size)
  generalize hAe : va_A (cW a cJ cI cO R b pr tm cn sm ac re kn) s.heap.size = A at hD ⊢
  have hA : ∀ q : Nat, s.heap.size ≤ q → A q := fun q h => by rw [← hAe]; exact Or.inr h
  have hS : va_S A s.heap s.heap [] := va_S.rf
  have hl := lv_entry ([.ref (a 15), .int p0]) (n := 4) (Nat.le_of_ble_eq_true rfl)
  rw [lg_entry_eq]
  generalize (lg_sl ([.ref (a 15), .int p0]) ++ List.replicate (4 - (lg_sl ([.ref (a 15), .int p0])).length) Slot.unset).toArray = ls at hl ⊢
  replace hl : lv_has ls 4 [(0, .ref (a 15)), (1, .int p0)] := hl
  have kwX1 : ∀ w ∈ u_ws RX1 TX1 2, w ∈ wsX1_sumOfSmallerDivisors := fun w h => List.mem_cons_of_mem _ (List.mem_append_right _ h)
  have kf_18 := hts (.fieldLink RX1 18 "Divisorwork$Numbers" "sums" "[I") (zmem 1 rfl)
  replace h : (p_X1_sumOfSmallerDivisors_L0 F sm p0 (fun v2_0 v3_0 => (some v2_0)) F (0 : Int32) (1 : Int32)) = some r := h
  refine zabs (fun G hG hGW => ?_)
  obtain ⟨H, hHe⟩ : ∃ H, H = s.heap := ⟨_, rfl⟩
  rw [← hHe] at hP
  replace hS : va_S A s.heap H [] := by rw [hHe]; exact hS
  refine zheap hHe ?_
  refine lv_iconst (v := (0 : Int32)) hx hb dX1_sumOfSmallerDivisors_0 (by decide) ?_
  refine lv_istore_n (lv' := [(2, .int (0 : Int32)), (0, .ref (a 15)), (1, .int p0)]) hx hb dX1_sumOfSmallerDivisors_1 rfl hl (by decide) rfl (fun ls hl => ?_)
  refine lv_iconst (v := (1 : Int32)) hx hb dX1_sumOfSmallerDivisors_2 (by decide) ?_
  refine lv_istore_n (lv' := [(3, .int (1 : Int32)), (2, .int (0 : Int32)), (0, .ref (a 15)), (1, .int p0)]) hx hb dX1_sumOfSmallerDivisors_3 rfl hl (by decide) rfl (fun ls hl => ?_)
  have X0 : ∀ (v2_0 : Int32) (v3_0 : Int32) (H : Heap) (locs : List Loc) (ls : Array Slot), va_P D vwCl (cW a cJ cI cO R b pr tm cn sm ac re kn) H → va_D A (cW a cJ cI cO R b pr tm cn sm ac re kn) → va_S A s.heap H locs → lv_has ls 4 [(0, .ref (a 15)), (1, .int p0), (2, .int v2_0), (3, .int v3_0)] → (some v2_0) = some r → G H locs 0 0 (F0 m 41 ls []) := by
    intro v2_0 v3_0 H locs ls hP hD hS hl h
    refine hG _ _ _ _ _ ?_
    refine lv_iload_n hx hb dX1_sumOfSmallerDivisors_41 rfl (lv_at hl 2 rfl) ?_
    have h1 := Option.some.inj h
    subst h1
    exact W.iret (v := v2_0) hx hb hr (fun t ht hW => ⟨⟨v2_0, (), rfl, rfl, by rw [ht]; exact hP, va_K.moved hW.alike hK, hD⟩, hS.F ht⟩) hS.2.2 dX1_sumOfSmallerDivisors_42
  have L0 : ∀ (K0 : Int32 → Int32 → Option Int32) (HX0 : ∀ (v2_0 : Int32) (v3_0 : Int32) (H : Heap) (locs : List Loc) (ls : Array Slot), va_P D vwCl (cW a cJ cI cO R b pr tm cn sm ac re kn) H → va_D A (cW a cJ cI cO R b pr tm cn sm ac re kn) → va_S A s.heap H locs → lv_has ls 4 [(0, .ref (a 15)), (1, .int p0), (2, .int v2_0), (3, .int v3_0)] → K0 v2_0 v3_0 = some r → G H locs 0 0 (F0 m 41 ls [])) (fu0 : Nat) (v2_0 : Int32) (v3_0 : Int32) (H : Heap) (locs : List Loc) (ls : Array Slot), va_P D vwCl (cW a cJ cI cO R b pr tm cn sm ac re kn) H → va_D A (cW a cJ cI cO R b pr tm cn sm ac re kn) → va_S A s.heap H locs → lv_has ls 4 [(0, .ref (a 15)), (1, .int p0), (2, .int v2_0), (3, .int v3_0)] → p_X1_sumOfSmallerDivisors_L0 F sm p0 K0 fu0 v2_0 v3_0 = some r → G H locs 0 0 (F0 m 4 ls []) := by
    intro K0 HX0 fu0
    induction fu0 with
    | zero =>
      intro v2_0 v3_0 H locs ls hP hD hS hl h
      exact (zno h).elim
    | succ fu0 ih0 =>
      intro v2_0 v3_0 H locs ls hP hD hS hl h
      refine hG _ _ _ _ _ ?_
      unfold p_X1_sumOfSmallerDivisors_L0 at h
      refine lv_iload_n hx hb dX1_sumOfSmallerDivisors_4 rfl (lv_at hl 3 rfl) ?_
      refine lv_iload_n hx hb dX1_sumOfSmallerDivisors_5 rfl (lv_at hl 1 rfl) ?_
      refine lv_icmp_ge (tgt := 41) hx hb dX1_sumOfSmallerDivisors_6 (by decide) (fun c6 => ?_) (fun c6 => ?_)
      · replace h := zif_t h c6
        exact hGW _ _ _ _ _ (HX0 v2_0 v3_0 _ _ ls hP hD hS (lv_sub hl [0, 1, 2, 3] rfl) h)
      · replace h := zif_f h c6
        refine lv_iload_n hx hb dX1_sumOfSmallerDivisors_9 rfl (lv_at hl 3 rfl) ?_
        refine lv_sipush (v := (999 : Int32)) hx hb dX1_sumOfSmallerDivisors_10 (by decide) ?_
        refine lv_icmp_gt (tgt := 41) hx hb dX1_sumOfSmallerDivisors_13 (by decide) (fun c13 => ?_) (fun c13 => ?_)
        · replace h := zif_t h c13
          exact hGW _ _ _ _ _ (HX0 v2_0 v3_0 _ _ ls hP hD hS (lv_sub hl [0, 1, 2, 3] rfl) h)
        · replace h := zif_f h c13
          refine lv_iload_n hx hb dX1_sumOfSmallerDivisors_16 rfl (lv_at hl 2 rfl) ?_
          refine lv_iload_n hx hb dX1_sumOfSmallerDivisors_17 rfl (lv_at hl 1 rfl) ?_
          refine lv_iload_n hx hb dX1_sumOfSmallerDivisors_18 rfl (lv_at hl 3 rfl) ?_
          obtain ⟨z19, h⟩ := zg_some h
          refine lv_irem hx hb dX1_sumOfSmallerDivisors_19 z19 ?_
          refine lv_if_ne (tgt := 32) hx hb dX1_sumOfSmallerDivisors_20 (by decide) (fun c20 => ?_) (fun c20 => ?_)
          · replace h := zif_t h c20
            refine lv_iconst (v := (0 : Int32)) hx hb dX1_sumOfSmallerDivisors_32 (by decide) ?_
            refine lv_iadd hx hb dX1_sumOfSmallerDivisors_33 ?_
            refine lv_istore_n (lv' := [(2, .int (v2_0 + (0 : Int32))), (0, .ref (a 15)), (1, .int p0), (3, .int v3_0)]) hx hb dX1_sumOfSmallerDivisors_34 rfl hl (by decide) rfl (fun ls hl => ?_)
            refine lv_iinc (v := (v3_0 + (1 : Int32))) (lv' := [(3, .int (v3_0 + (1 : Int32))), (2, .int (v2_0 + (0 : Int32))), (0, .ref (a 15)), (1, .int p0)]) hx hb dX1_sumOfSmallerDivisors_35 hl (k := 3) rfl rfl (by decide) rfl (fun ls hl => ?_)
            refine lv_goto (tgt := 4) hx hb dX1_sumOfSmallerDivisors_38 (by decide) ?_
            exact hGW _ _ _ _ _ (ih0 (v2_0 + (0 : Int32)) (v3_0 + (1 : Int32)) _ _ ls hP hD hS (lv_sub hl [2, 3, 1, 0] rfl) h)
          · replace h := zif_fn h c20
            refine lv_aload_n hx hb dX1_sumOfSmallerDivisors_23 rfl (lv_at hl 0 rfl) ?_
            refine va_get (D := D) (ci := 3) (v := .ref (a 20)) (C := RX1) (T := TX1) (N := 2) hx hb hts kwX1 hown hK hP 15 rfl rfl 1 (by decide) kf_18 (fun _ h9 => h9) rfl dX1_sumOfSmallerDivisors_24 ?_
            refine lv_iload_n hx hb dX1_sumOfSmallerDivisors_27 rfl (lv_at hl 3 rfl) ?_
            obtain ⟨z28, h⟩ := zg_some h
            refine va_iald hx hb hK hP 20 1 rfl rfl z28 dX1_sumOfSmallerDivisors_28 ?_
            refine lv_goto (tgt := 33) hx hb dX1_sumOfSmallerDivisors_29 (by decide) ?_
            refine lv_iadd hx hb dX1_sumOfSmallerDivisors_33 ?_
            refine lv_istore_n (lv' := [(2, .int (v2_0 + (sm v3_0.toNatClampNeg))), (0, .ref (a 15)), (1, .int p0), (3, .int v3_0)]) hx hb dX1_sumOfSmallerDivisors_34 rfl hl (by decide) rfl (fun ls hl => ?_)
            refine lv_iinc (v := (v3_0 + (1 : Int32))) (lv' := [(3, .int (v3_0 + (1 : Int32))), (2, .int (v2_0 + (sm v3_0.toNatClampNeg))), (0, .ref (a 15)), (1, .int p0)]) hx hb dX1_sumOfSmallerDivisors_35 hl (k := 3) rfl rfl (by decide) rfl (fun ls hl => ?_)
            refine lv_goto (tgt := 4) hx hb dX1_sumOfSmallerDivisors_38 (by decide) ?_
            exact hGW _ _ _ _ _ (ih0 (v2_0 + (sm v3_0.toNatClampNeg)) (v3_0 + (1 : Int32)) _ _ ls hP hD hS (lv_sub hl [2, 3, 1, 0] rfl) h)
  exact hGW _ _ _ _ _ (L0 _ X0 F (0 : Int32) (1 : Int32) _ _ ls hP hD hS (lv_sub hl [2, 3, 1, 0] rfl) h)

noncomputable def p_X1_signBySums_L0 (F : Nat) (p0 : Int32) (k : Int32 → (Nat → Int32) → Option (Int32 × (Nat → Int32))) : Nat → Int32 → (Nat → Int32) → Option (Int32 × (Nat → Int32))
  | 0, _, _ => none
  | n + 1, v2_0, smL0 => (if p0 < v2_0 then (k v2_0 smL0) else (if (999 : Int32) < v2_0 then (k v2_0 smL0) else (zg (v2_0 = 0) (if ¬ (zr p0 v2_0) = 0 then (p_X1_signBySums_L0 F p0 k n (v2_0 + (1 : Int32)) smL0) else (if ¬ v2_0 = (1 : Int32) then (zb1 (p_X1_sumOfSmallerDivisors F smL0 v2_0) (fun r1 => (zg (v2_0 < 0 ∨ 1000 ≤ v2_0.toNatClampNeg) (p_X1_signBySums_L0 F p0 k n (v2_0 + (1 : Int32)) (upd smL0 v2_0.toNatClampNeg (-r1)))))) else (zg (v2_0 < 0 ∨ 1000 ≤ v2_0.toNatClampNeg) (p_X1_signBySums_L0 F p0 k n (v2_0 + (1 : Int32)) (upd smL0 v2_0.toNatClampNeg (1 : Int32)))))))))
noncomputable def p_X1_signBySums (F : Nat) (sm : Nat → Int32) (p0 : Int32) : Option (Int32 × (Nat → Int32)) := (p_X1_signBySums_L0 F p0 (fun v2_0 smL0 => (if p0 < (1 : Int32) then (some ((0 : Int32), smL0)) else (if (999 : Int32) < p0 then (some ((0 : Int32), smL0)) else (zg (p0 < 0 ∨ 1000 ≤ p0.toNatClampNeg) (some ((smL0 p0.toNatClampNeg), smL0)))))) F (1 : Int32) sm)
theorem hdV_X1_signBySums : yX1_signBySums.cls = RX1 ∧ yX1_signBySums.cls ≠ "java/lang/invoke/MethodHandle" ∧ yX1_signBySums.cls ≠ "java/lang/invoke/VarHandle" ∧ (parseMethodDescriptor yX1_signBySums.desc).map (fun d => d.parameters.length) = some 1 := by decide +kernel
set_option maxHeartbeats 4000000 in
set_option maxRecDepth 100000 in
theorem c_X1_signBySums (l : Launch) (D : va_G) (a : Nat → Nat) (cJ cI cO cB : ClassId) (R : Nat → Nat → Int64) (b : Bool) (pr : Nat → Int32) (tm : Nat → Int32) (cn : Int32) (sm : Nat → Int32) (ac : Int32) (re : Int32) (kn : Int32) (F : Nat) (p0 : Int32) (r : Int32) (sm' : Nat → Int32) (h : p_X1_signBySums F sm p0 = some (r, sm')) : zMi l yX1_signBySums wsX1_signBySums 1 23 0 0 D (zT cJ cI cO cB) [.ref (a 15), .int p0] (cW a cJ cI cO R b pr tm cn sm ac re kn) (cW a cJ cI cO R b pr tm cn sm' ac re kn) r := by
  intro sz
  delta zQi
  refine Met.ofW (cc := cX1_signBySums) (maxL := 3) (ret := (some .int)) (by decide) rfl ?_
  intro p e s m args below meth c s₁ B hml hv
  obtain ⟨rfl, hsz, hP, hK, hD0⟩ := hv
  have hx := B.exec
  have hb := B.bytes
  have hr := B.returns
  have hts := atoms_spec (ws := wsX1_signBySums) B.pre
  have hown : s.vm.findClass RX1 = some m.cls := findClass_of_methodNamed B.named
  have hlocks := B.notSynchronized
  subst hsz
  have hD := hD0.self (sz := s.heap.size)
  generalize hAe : va_A (cW a cJ cI cO R b pr tm cn sm ac re kn) s.heap.size = A at hD ⊢
  have hA : ∀ q : Nat, s.heap.size ≤ q → A q := fun q h => by rw [← hAe]; exact Or.inr h
  have hS : va_S A s.heap s.heap [] := va_S.rf
  have hl := lv_entry ([.ref (a 15), .int p0]) (n := 3) (Nat.le_of_ble_eq_true rfl)
  rw [lg_entry_eq]
  generalize (lg_sl ([.ref (a 15), .int p0]) ++ List.replicate (3 - (lg_sl ([.ref (a 15), .int p0])).length) Slot.unset).toArray = ls at hl ⊢
  replace hl : lv_has ls 3 [(0, .ref (a 15)), (1, .int p0)] := hl
  have kwX1 : ∀ w ∈ u_ws RX1 TX1 2, w ∈ wsX1_signBySums := fun w h => List.mem_cons_of_mem _ (List.mem_append_right _ (List.mem_cons_of_mem _ (List.mem_append_right _ h)))
  have kf_18 := hts (.fieldLink RX1 18 "Divisorwork$Numbers" "sums" "[I") (zmem 6 rfl)
  replace h : (p_X1_signBySums_L0 F p0 (fun v2_0 smL0 => (if p0 < (1 : Int32) then (some ((0 : Int32), smL0)) else (if (999 : Int32) < p0 then (some ((0 : Int32), smL0)) else (zg (p0 < 0 ∨ 1000 ≤ p0.toNatClampNeg) (some ((smL0 p0.toNatClampNeg), smL0)))))) F (1 : Int32) sm) = some (r, sm') := h
  refine zabs (fun G hG hGW => ?_)
  obtain ⟨H, hHe⟩ : ∃ H, H = s.heap := ⟨_, rfl⟩
  rw [← hHe] at hP
  replace hS : va_S A s.heap H [] := by rw [hHe]; exact hS
  refine zheap hHe ?_
  refine lv_iconst (v := (1 : Int32)) hx hb dX1_signBySums_0 (by decide) ?_
  refine lv_istore_n (lv' := [(2, .int (1 : Int32)), (0, .ref (a 15)), (1, .int p0)]) hx hb dX1_signBySums_1 rfl hl (by decide) rfl (fun ls hl => ?_)
  have X0 : ∀ (v2_0 : Int32) (smL0 : Nat → Int32) (H : Heap) (locs : List Loc) (ls : Array Slot), va_P D vwCl (cW a cJ cI cO R b pr tm cn smL0 ac re kn) H → va_D A (cW a cJ cI cO R b pr tm cn smL0 ac re kn) → va_S A s.heap H locs → lv_has ls 3 [(0, .ref (a 15)), (1, .int p0), (2, .int v2_0)] → (if p0 < (1 : Int32) then (some ((0 : Int32), smL0)) else (if (999 : Int32) < p0 then (some ((0 : Int32), smL0)) else (zg (p0 < 0 ∨ 1000 ≤ p0.toNatClampNeg) (some ((smL0 p0.toNatClampNeg), smL0))))) = some (r, sm') → G H locs 0 0 (F0 m 47 ls []) := by
    intro v2_0 smL0 H locs ls hP hD hS hl h
    refine hG _ _ _ _ _ ?_
    refine lv_iload_n hx hb dX1_signBySums_47 rfl (lv_at hl 1 rfl) ?_
    refine lv_iconst (v := (1 : Int32)) hx hb dX1_signBySums_48 (by decide) ?_
    refine lv_icmp_lt (tgt := 68) hx hb dX1_signBySums_49 (by decide) (fun c49 => ?_) (fun c49 => ?_)
    · replace h := zif_t h c49
      refine lv_iconst (v := (0 : Int32)) hx hb dX1_signBySums_68 (by decide) ?_
      have g0 := Option.some.inj h
      obtain ⟨h1, g1⟩ := Prod.mk.inj g0
      subst h1
      subst g1
      exact W.iret (v := (0 : Int32)) hx hb hr (fun t ht hW => ⟨⟨(0 : Int32), (), rfl, rfl, by rw [ht]; exact hP, va_K.moved hW.alike hK, hD⟩, hS.F ht⟩) hS.2.2 dX1_signBySums_69
    · replace h := zif_f h c49
      refine lv_iload_n hx hb dX1_signBySums_52 rfl (lv_at hl 1 rfl) ?_
      refine lv_sipush (v := (999 : Int32)) hx hb dX1_signBySums_53 (by decide) ?_
      refine lv_icmp_gt (tgt := 68) hx hb dX1_signBySums_56 (by decide) (fun c56 => ?_) (fun c56 => ?_)
      · replace h := zif_t h c56
        refine lv_iconst (v := (0 : Int32)) hx hb dX1_signBySums_68 (by decide) ?_
        have g0 := Option.some.inj h
        obtain ⟨h1, g1⟩ := Prod.mk.inj g0
        subst h1
        subst g1
        exact W.iret (v := (0 : Int32)) hx hb hr (fun t ht hW => ⟨⟨(0 : Int32), (), rfl, rfl, by rw [ht]; exact hP, va_K.moved hW.alike hK, hD⟩, hS.F ht⟩) hS.2.2 dX1_signBySums_69
      · replace h := zif_f h c56
        refine lv_aload_n hx hb dX1_signBySums_59 rfl (lv_at hl 0 rfl) ?_
        refine va_get (D := D) (ci := 3) (v := .ref (a 20)) (C := RX1) (T := TX1) (N := 2) hx hb hts kwX1 hown hK hP 15 rfl rfl 1 (by decide) kf_18 (fun _ h9 => h9) rfl dX1_signBySums_60 ?_
        refine lv_iload_n hx hb dX1_signBySums_63 rfl (lv_at hl 1 rfl) ?_
        obtain ⟨z64, h⟩ := zg_some h
        refine va_iald hx hb hK hP 20 1 rfl rfl z64 dX1_signBySums_64 ?_
        refine lv_goto (tgt := 69) hx hb dX1_signBySums_65 (by decide) ?_
        have g0 := Option.some.inj h
        obtain ⟨h1, g1⟩ := Prod.mk.inj g0
        subst h1
        subst g1
        exact W.iret (v := (smL0 p0.toNatClampNeg)) hx hb hr (fun t ht hW => ⟨⟨(smL0 p0.toNatClampNeg), (), rfl, rfl, by rw [ht]; exact hP, va_K.moved hW.alike hK, hD⟩, hS.F ht⟩) hS.2.2 dX1_signBySums_69
  have L0 : ∀ (K0 : Int32 → (Nat → Int32) → Option (Int32 × (Nat → Int32))) (HX0 : ∀ (v2_0 : Int32) (smL0 : Nat → Int32) (H : Heap) (locs : List Loc) (ls : Array Slot), va_P D vwCl (cW a cJ cI cO R b pr tm cn smL0 ac re kn) H → va_D A (cW a cJ cI cO R b pr tm cn smL0 ac re kn) → va_S A s.heap H locs → lv_has ls 3 [(0, .ref (a 15)), (1, .int p0), (2, .int v2_0)] → K0 v2_0 smL0 = some (r, sm') → G H locs 0 0 (F0 m 47 ls [])) (fu0 : Nat) (v2_0 : Int32) (smL0 : Nat → Int32) (H : Heap) (locs : List Loc) (ls : Array Slot), va_P D vwCl (cW a cJ cI cO R b pr tm cn smL0 ac re kn) H → va_D A (cW a cJ cI cO R b pr tm cn smL0 ac re kn) → va_S A s.heap H locs → lv_has ls 3 [(0, .ref (a 15)), (1, .int p0), (2, .int v2_0)] → p_X1_signBySums_L0 F p0 K0 fu0 v2_0 smL0 = some (r, sm') → G H locs 0 0 (F0 m 2 ls []) := by
    intro K0 HX0 fu0
    induction fu0 with
    | zero =>
      intro v2_0 smL0 H locs ls hP hD hS hl h
      exact (zno h).elim
    | succ fu0 ih0 =>
      intro v2_0 smL0 H locs ls hP hD hS hl h
      refine hG _ _ _ _ _ ?_
      unfold p_X1_signBySums_L0 at h
      refine lv_iload_n hx hb dX1_signBySums_2 rfl (lv_at hl 2 rfl) ?_
      refine lv_iload_n hx hb dX1_signBySums_3 rfl (lv_at hl 1 rfl) ?_
      refine lv_icmp_gt (tgt := 47) hx hb dX1_signBySums_4 (by decide) (fun c4 => ?_) (fun c4 => ?_)
      · replace h := zif_t h c4
        exact hGW _ _ _ _ _ (HX0 v2_0 smL0 _ _ ls hP hD hS (lv_sub hl [0, 1, 2] rfl) h)
      · replace h := zif_f h c4
        refine lv_iload_n hx hb dX1_signBySums_7 rfl (lv_at hl 2 rfl) ?_
        refine lv_sipush (v := (999 : Int32)) hx hb dX1_signBySums_8 (by decide) ?_
        refine lv_icmp_gt (tgt := 47) hx hb dX1_signBySums_11 (by decide) (fun c11 => ?_) (fun c11 => ?_)
        · replace h := zif_t h c11
          exact hGW _ _ _ _ _ (HX0 v2_0 smL0 _ _ ls hP hD hS (lv_sub hl [0, 1, 2] rfl) h)
        · replace h := zif_f h c11
          refine lv_iload_n hx hb dX1_signBySums_14 rfl (lv_at hl 1 rfl) ?_
          refine lv_iload_n hx hb dX1_signBySums_15 rfl (lv_at hl 2 rfl) ?_
          obtain ⟨z16, h⟩ := zg_some h
          refine lv_irem hx hb dX1_signBySums_16 z16 ?_
          refine lv_if_ne (tgt := 41) hx hb dX1_signBySums_17 (by decide) (fun c17 => ?_) (fun c17 => ?_)
          · replace h := zif_t h c17
            refine lv_iinc (v := (v2_0 + (1 : Int32))) (lv' := [(2, .int (v2_0 + (1 : Int32))), (0, .ref (a 15)), (1, .int p0)]) hx hb dX1_signBySums_41 hl (k := 2) rfl rfl (by decide) rfl (fun ls hl => ?_)
            refine lv_goto (tgt := 2) hx hb dX1_signBySums_44 (by decide) ?_
            exact hGW _ _ _ _ _ (ih0 (v2_0 + (1 : Int32)) smL0 _ _ ls hP hD hS (lv_sub hl [1, 2, 0] rfl) h)
          · replace h := zif_fn h c17
            refine lv_aload_n hx hb dX1_signBySums_20 rfl (lv_at hl 0 rfl) ?_
            refine va_get (D := D) (ci := 3) (v := .ref (a 20)) (C := RX1) (T := TX1) (N := 2) hx hb hts kwX1 hown hK hP 15 rfl rfl 1 (by decide) kf_18 (fun _ h9 => h9) rfl dX1_signBySums_21 ?_
            refine lv_iload_n hx hb dX1_signBySums_24 rfl (lv_at hl 2 rfl) ?_
            refine lv_iload_n hx hb dX1_signBySums_25 rfl (lv_at hl 2 rfl) ?_
            refine lv_iconst (v := (1 : Int32)) hx hb dX1_signBySums_26 (by decide) ?_
            refine lv_icmp_ne (tgt := 34) hx hb dX1_signBySums_27 (by decide) (fun c27 => ?_) (fun c27 => ?_)
            · replace h := zif_t h c27
              refine lv_aload_n hx hb dX1_signBySums_34 rfl (lv_at hl 0 rfl) ?_
              refine lv_iload_n hx hb dX1_signBySums_35 rfl (lv_at hl 2 rfl) ?_
              obtain ⟨r1, e2, h⟩ := zb1_some h
              refine zgoi (va_runV (As := [.int v2_0]) (rest := [.int v2_0, .ref (a 20)]) ⟨hx, hb, hml, hown, hts⟩ (c_X1_sumOfSmallerDivisors l D a cJ cI cO cB R b pr tm cn smL0 ac re kn F v2_0 r1 e2 H.size) (cwV 1 hts gX1_signBySums_X1_sumOfSmallerDivisors rfl rfl rfl hdV_X1_sumOfSmallerDivisors ⟨Nat.le_of_ble_eq_true rfl, Nat.le_of_ble_eq_true rfl⟩) (zpreV (q0 := 15) (ci := 3) (T := TX1) (N := 2) hK hP hD rfl rfl [.int v2_0]) rfl rfl hl.1 rfl (lv_room (Nat.le_of_ble_eq_true rfl)) dX1_signBySums_36 ⟨Nat.le_of_ble_eq_true rfl, Nat.le_of_ble_eq_true rfl⟩) (zfree hD hS hA) (zjW hD hS hA) hS (fun H locs hP hD hS => ?_)
              replace hP : va_P D vwCl (cW a cJ cI cO R b pr tm cn smL0 ac re kn) H := hP
              replace hD : va_D A (cW a cJ cI cO R b pr tm cn smL0 ac re kn) := hD
              refine lv_ineg hx hb dX1_signBySums_39 ?_
              obtain ⟨z40, h⟩ := zg_some h
              refine va_iast hx hb hK hP hD hS 20 1 rfl rfl z40 dX1_signBySums_40 (fun H locs hP hD hS => ?_)
              replace hP : va_P D vwCl (cW a cJ cI cO R b pr tm cn (upd smL0 v2_0.toNatClampNeg (-r1)) ac re kn) H := hP
              replace hD : va_D A (cW a cJ cI cO R b pr tm cn (upd smL0 v2_0.toNatClampNeg (-r1)) ac re kn) := hD
              refine lv_iinc (v := (v2_0 + (1 : Int32))) (lv' := [(2, .int (v2_0 + (1 : Int32))), (0, .ref (a 15)), (1, .int p0)]) hx hb dX1_signBySums_41 hl (k := 2) rfl rfl (by decide) rfl (fun ls hl => ?_)
              refine lv_goto (tgt := 2) hx hb dX1_signBySums_44 (by decide) ?_
              exact hGW _ _ _ _ _ (ih0 (v2_0 + (1 : Int32)) (upd smL0 v2_0.toNatClampNeg (-r1)) _ _ ls hP hD hS (lv_sub hl [1, 2, 0] rfl) h)
            · replace h := zif_fn h c27
              refine lv_iconst (v := (1 : Int32)) hx hb dX1_signBySums_30 (by decide) ?_
              refine lv_goto (tgt := 40) hx hb dX1_signBySums_31 (by decide) ?_
              obtain ⟨z40, h⟩ := zg_some h
              refine va_iast hx hb hK hP hD hS 20 1 rfl rfl z40 dX1_signBySums_40 (fun H locs hP hD hS => ?_)
              replace hP : va_P D vwCl (cW a cJ cI cO R b pr tm cn (upd smL0 v2_0.toNatClampNeg (1 : Int32)) ac re kn) H := hP
              replace hD : va_D A (cW a cJ cI cO R b pr tm cn (upd smL0 v2_0.toNatClampNeg (1 : Int32)) ac re kn) := hD
              refine lv_iinc (v := (v2_0 + (1 : Int32))) (lv' := [(2, .int (v2_0 + (1 : Int32))), (0, .ref (a 15)), (1, .int p0)]) hx hb dX1_signBySums_41 hl (k := 2) rfl rfl (by decide) rfl (fun ls hl => ?_)
              refine lv_goto (tgt := 2) hx hb dX1_signBySums_44 (by decide) ?_
              exact hGW _ _ _ _ _ (ih0 (v2_0 + (1 : Int32)) (upd smL0 v2_0.toNatClampNeg (1 : Int32)) _ _ ls hP hD hS (lv_sub hl [1, 2, 0] rfl) h)
  exact hGW _ _ _ _ _ (L0 _ X0 F (1 : Int32) sm _ _ ls hP hD hS (lv_sub hl [1, 2, 0] rfl) h)

noncomputable def p_X1_squareByPowers_L1 (F : Nat) (pr_1 : Nat → Int32) (tm_2 : Nat → Int32) (v3_0 : Int32) (k : Int32 → Int32 → Option (Int32 × (Nat → Int32) × (Nat → Int32) × Int32)) : Nat → Int32 → Int32 → Option (Int32 × (Nat → Int32) × (Nat → Int32) × Int32)
  | 0, _, _ => none
  | n + 1, v2_1, v4_1 => (zb1 (p_X2_timesAt tm_2 v3_0) (fun r7 => (if (r7 / (2 : Int32)) ≤ v4_1 then (k v2_1 v4_1) else (zb1 (p_X2_primeAt pr_1 v3_0) (fun r9 => (zb1 (p_X2_primeAt pr_1 v3_0) (fun r11 => (p_X1_squareByPowers_L1 F pr_1 tm_2 v3_0 k n (v2_1 * (r9 * r11)) (v4_1 + (1 : Int32))))))))))
noncomputable def p_X1_squareByPowers_L0 (F : Nat) (pr_1 : Nat → Int32) (tm_2 : Nat → Int32) (cn_3 : Int32) (k : Int32 → Int32 → Option (Int32 × (Nat → Int32) × (Nat → Int32) × Int32)) : Nat → Int32 → Int32 → Option (Int32 × (Nat → Int32) × (Nat → Int32) × Int32)
  | 0, _, _ => none
  | n + 1, v2_0, v3_0 => (zb1 (p_X2_count cn_3) (fun r5 => (if r5 ≤ v3_0 then (k v2_0 v3_0) else (p_X1_squareByPowers_L1 F pr_1 tm_2 v3_0 (fun v2_1 v4_1 => (p_X1_squareByPowers_L0 F pr_1 tm_2 cn_3 k n v2_1 (v3_0 + (1 : Int32)))) F v2_0 (0 : Int32)))))
noncomputable def p_X1_squareByPowers (F : Nat) (pr : Nat → Int32) (tm : Nat → Int32) (p0 : Int32) : Option (Int32 × (Nat → Int32) × (Nat → Int32) × Int32) := (zb3 (p_X2_lay F pr tm p0) (fun pr_1 tm_2 cn_3 => (p_X1_squareByPowers_L0 F pr_1 tm_2 cn_3 (fun v2_0 v3_0 => (some (v2_0, pr_1, tm_2, cn_3))) F (1 : Int32) (0 : Int32))))
theorem hdV_X1_squareByPowers : yX1_squareByPowers.cls = RX1 ∧ yX1_squareByPowers.cls ≠ "java/lang/invoke/MethodHandle" ∧ yX1_squareByPowers.cls ≠ "java/lang/invoke/VarHandle" ∧ (parseMethodDescriptor yX1_squareByPowers.desc).map (fun d => d.parameters.length) = some 1 := by decide +kernel
set_option maxHeartbeats 4000000 in
set_option maxRecDepth 100000 in
theorem c_X1_squareByPowers (l : Launch) (D : va_G) (a : Nat → Nat) (cJ cI cO cB : ClassId) (R : Nat → Nat → Int64) (b : Bool) (pr : Nat → Int32) (tm : Nat → Int32) (cn : Int32) (sm : Nat → Int32) (ac : Int32) (re : Int32) (kn : Int32) (F : Nat) (p0 : Int32) (r : Int32) (pr' : Nat → Int32) (tm' : Nat → Int32) (cn' : Int32) (h : p_X1_squareByPowers F pr tm p0 = some (r, pr', tm', cn')) : zMi l yX1_squareByPowers wsX1_squareByPowers 1 24 0 0 D (zT cJ cI cO cB) [.ref (a 15), .int p0] (cW a cJ cI cO R b pr tm cn sm ac re kn) (cW a cJ cI cO R b pr' tm' cn' sm ac re kn) r := by
  intro sz
  delta zQi
  refine Met.ofW (cc := cX1_squareByPowers) (maxL := 5) (ret := (some .int)) (by decide) rfl ?_
  intro p e s m args below meth c s₁ B hml hv
  obtain ⟨rfl, hsz, hP, hK, hD0⟩ := hv
  have hx := B.exec
  have hb := B.bytes
  have hr := B.returns
  have hts := atoms_spec (ws := wsX1_squareByPowers) B.pre
  have hown : s.vm.findClass RX1 = some m.cls := findClass_of_methodNamed B.named
  have hlocks := B.notSynchronized
  subst hsz
  have hD := hD0.self (sz := s.heap.size)
  generalize hAe : va_A (cW a cJ cI cO R b pr tm cn sm ac re kn) s.heap.size = A at hD ⊢
  have hA : ∀ q : Nat, s.heap.size ≤ q → A q := fun q h => by rw [← hAe]; exact Or.inr h
  have hS : va_S A s.heap s.heap [] := va_S.rf
  have hl := lv_entry ([.ref (a 15), .int p0]) (n := 5) (Nat.le_of_ble_eq_true rfl)
  rw [lg_entry_eq]
  generalize (lg_sl ([.ref (a 15), .int p0]) ++ List.replicate (5 - (lg_sl ([.ref (a 15), .int p0])).length) Slot.unset).toArray = ls at hl ⊢
  replace hl : lv_has ls 5 [(0, .ref (a 15)), (1, .int p0)] := hl
  have kwX1 : ∀ w ∈ u_ws RX1 TX1 2, w ∈ wsX1_squareByPowers := fun w h => List.mem_cons_of_mem _ (List.mem_append_left _ (List.mem_append_left _ (List.mem_append_left _ (List.mem_append_left _ (List.mem_append_right _ h)))))
  have kf_12 := hts (.fieldLink RX1 12 "Divisorwork$Numbers" "powers" "LDivisorwork$Powers;") (zmem 1 rfl)
  replace h : (zb3 (p_X2_lay F pr tm p0) (fun pr_1 tm_2 cn_3 => (p_X1_squareByPowers_L0 F pr_1 tm_2 cn_3 (fun v2_0 v3_0 => (some (v2_0, pr_1, tm_2, cn_3))) F (1 : Int32) (0 : Int32)))) = some (r, pr', tm', cn') := h
  refine zabs (fun G hG hGW => ?_)
  obtain ⟨H, hHe⟩ : ∃ H, H = s.heap := ⟨_, rfl⟩
  rw [← hHe] at hP
  replace hS : va_S A s.heap H [] := by rw [hHe]; exact hS
  refine zheap hHe ?_
  refine lv_aload_n hx hb dX1_squareByPowers_0 rfl (lv_at hl 0 rfl) ?_
  refine va_get (D := D) (ci := 3) (v := .ref (a 17)) (C := RX1) (T := TX1) (N := 2) hx hb hts kwX1 hown hK hP 15 rfl rfl 0 (by decide) kf_12 (fun _ h9 => h9) rfl dX1_squareByPowers_1 ?_
  refine lv_iload_n hx hb dX1_squareByPowers_4 rfl (lv_at hl 1 rfl) ?_
  obtain ⟨pr_1, tm_2, cn_3, e4, h⟩ := zb3_some h
  refine zgov (va_runV (As := [.int p0]) (rest := []) ⟨hx, hb, hml, hown, hts⟩ (c_X2_lay l D a cJ cI cO cB R b pr tm cn sm ac re kn F p0 pr_1 tm_2 cn_3 e4 H.size) (cwV 1 hts gX1_squareByPowers_X2_lay rfl rfl rfl hdV_X2_lay ⟨Nat.le_of_ble_eq_true rfl, Nat.le_of_ble_eq_true rfl⟩) (zpreV (q0 := 17) (ci := 4) (T := TX2) (N := 3) hK hP hD rfl rfl [.int p0]) rfl rfl hl.1 rfl (lv_room (Nat.le_of_ble_eq_true rfl)) dX1_squareByPowers_5 ⟨Nat.le_of_ble_eq_true rfl, Nat.le_of_ble_eq_true rfl⟩) (zfree hD hS hA) (zjW hD hS hA) hS (fun H locs hP hD hS => ?_)
  replace hP : va_P D vwCl (cW a cJ cI cO R b pr_1 tm_2 cn_3 sm ac re kn) H := hP
  replace hD : va_D A (cW a cJ cI cO R b pr_1 tm_2 cn_3 sm ac re kn) := hD
  refine lv_iconst (v := (1 : Int32)) hx hb dX1_squareByPowers_8 (by decide) ?_
  refine lv_istore_n (lv' := [(2, .int (1 : Int32)), (0, .ref (a 15)), (1, .int p0)]) hx hb dX1_squareByPowers_9 rfl hl (by decide) rfl (fun ls hl => ?_)
  refine lv_iconst (v := (0 : Int32)) hx hb dX1_squareByPowers_10 (by decide) ?_
  refine lv_istore_n (lv' := [(3, .int (0 : Int32)), (2, .int (1 : Int32)), (0, .ref (a 15)), (1, .int p0)]) hx hb dX1_squareByPowers_11 rfl hl (by decide) rfl (fun ls hl => ?_)
  have X0 : ∀ (v2_0 : Int32) (v3_0 : Int32) (H : Heap) (locs : List Loc) (ls : Array Slot), va_P D vwCl (cW a cJ cI cO R b pr_1 tm_2 cn_3 sm ac re kn) H → va_D A (cW a cJ cI cO R b pr_1 tm_2 cn_3 sm ac re kn) → va_S A s.heap H locs → lv_has ls 5 [(0, .ref (a 15)), (1, .int p0), (2, .int v2_0), (3, .int v3_0)] → (some (v2_0, pr_1, tm_2, cn_3)) = some (r, pr', tm', cn') → G H locs 0 0 (F0 m 73 ls []) := by
    intro v2_0 v3_0 H locs ls hP hD hS hl h
    refine hG _ _ _ _ _ ?_
    refine lv_iload_n hx hb dX1_squareByPowers_73 rfl (lv_at hl 2 rfl) ?_
    have g0 := Option.some.inj h
    obtain ⟨h1, g1⟩ := Prod.mk.inj g0
    obtain ⟨h2, g2⟩ := Prod.mk.inj g1
    obtain ⟨h3, g3⟩ := Prod.mk.inj g2
    subst h1
    subst h2
    subst h3
    subst g3
    exact W.iret (v := v2_0) hx hb hr (fun t ht hW => ⟨⟨v2_0, (), rfl, rfl, by rw [ht]; exact hP, va_K.moved hW.alike hK, hD⟩, hS.F ht⟩) hS.2.2 dX1_squareByPowers_74
  have L0 : ∀ (K0 : Int32 → Int32 → Option (Int32 × (Nat → Int32) × (Nat → Int32) × Int32)) (HX0 : ∀ (v2_0 : Int32) (v3_0 : Int32) (H : Heap) (locs : List Loc) (ls : Array Slot), va_P D vwCl (cW a cJ cI cO R b pr_1 tm_2 cn_3 sm ac re kn) H → va_D A (cW a cJ cI cO R b pr_1 tm_2 cn_3 sm ac re kn) → va_S A s.heap H locs → lv_has ls 5 [(0, .ref (a 15)), (1, .int p0), (2, .int v2_0), (3, .int v3_0)] → K0 v2_0 v3_0 = some (r, pr', tm', cn') → G H locs 0 0 (F0 m 73 ls [])) (fu0 : Nat) (v2_0 : Int32) (v3_0 : Int32) (H : Heap) (locs : List Loc) (ls : Array Slot), va_P D vwCl (cW a cJ cI cO R b pr_1 tm_2 cn_3 sm ac re kn) H → va_D A (cW a cJ cI cO R b pr_1 tm_2 cn_3 sm ac re kn) → va_S A s.heap H locs → lv_has ls 5 [(0, .ref (a 15)), (1, .int p0), (2, .int v2_0), (3, .int v3_0)] → p_X1_squareByPowers_L0 F pr_1 tm_2 cn_3 K0 fu0 v2_0 v3_0 = some (r, pr', tm', cn') → G H locs 0 0 (F0 m 12 ls []) := by
    intro K0 HX0 fu0
    induction fu0 with
    | zero =>
      intro v2_0 v3_0 H locs ls hP hD hS hl h
      exact (zno h).elim
    | succ fu0 ih0 =>
      intro v2_0 v3_0 H locs ls hP hD hS hl h
      refine hG _ _ _ _ _ ?_
      unfold p_X1_squareByPowers_L0 at h
      refine lv_iload_n hx hb dX1_squareByPowers_12 rfl (lv_at hl 3 rfl) ?_
      refine lv_aload_n hx hb dX1_squareByPowers_13 rfl (lv_at hl 0 rfl) ?_
      refine va_get (D := D) (ci := 3) (v := .ref (a 17)) (C := RX1) (T := TX1) (N := 2) hx hb hts kwX1 hown hK hP 15 rfl rfl 0 (by decide) kf_12 (fun _ h9 => h9) rfl dX1_squareByPowers_14 ?_
      obtain ⟨r5, e6, h⟩ := zb1_some h
      refine zgoi (va_runV (As := []) (rest := [.int v3_0]) ⟨hx, hb, hml, hown, hts⟩ (c_X2_count l D a cJ cI cO cB R b pr_1 tm_2 cn_3 sm ac re kn r5 e6 H.size) (cwV 0 hts gX1_squareByPowers_X2_count rfl rfl rfl hdV_X2_count ⟨Nat.le_of_ble_eq_true rfl, Nat.le_of_ble_eq_true rfl⟩) (zpreV (q0 := 17) (ci := 4) (T := TX2) (N := 3) hK hP hD rfl rfl []) rfl rfl hl.1 rfl (lv_room (Nat.le_of_ble_eq_true rfl)) dX1_squareByPowers_17 ⟨Nat.le_of_ble_eq_true rfl, Nat.le_of_ble_eq_true rfl⟩) (zfree hD hS hA) (zjW hD hS hA) hS (fun H locs hP hD hS => ?_)
      replace hP : va_P D vwCl (cW a cJ cI cO R b pr_1 tm_2 cn_3 sm ac re kn) H := hP
      replace hD : va_D A (cW a cJ cI cO R b pr_1 tm_2 cn_3 sm ac re kn) := hD
      refine lv_icmp_ge (tgt := 73) hx hb dX1_squareByPowers_20 (by decide) (fun c20 => ?_) (fun c20 => ?_)
      · replace h := zif_t h c20
        exact hGW _ _ _ _ _ (HX0 v2_0 v3_0 _ _ ls hP hD hS (lv_sub hl [0, 1, 2, 3] rfl) h)
      · replace h := zif_f h c20
        refine lv_iconst (v := (0 : Int32)) hx hb dX1_squareByPowers_23 (by decide) ?_
        refine lv_istore (lv' := [(4, .int (0 : Int32)), (0, .ref (a 15)), (1, .int p0), (2, .int v2_0), (3, .int v3_0)]) hx hb dX1_squareByPowers_24 hl (by decide) rfl (fun ls hl => ?_)
        have X1 : ∀ (v2_1 : Int32) (v4_1 : Int32) (H : Heap) (locs : List Loc) (ls : Array Slot), va_P D vwCl (cW a cJ cI cO R b pr_1 tm_2 cn_3 sm ac re kn) H → va_D A (cW a cJ cI cO R b pr_1 tm_2 cn_3 sm ac re kn) → va_S A s.heap H locs → lv_has ls 5 [(0, .ref (a 15)), (1, .int p0), (2, .int v2_1), (3, .int v3_0), (4, .int v4_1)] → (p_X1_squareByPowers_L0 F pr_1 tm_2 cn_3 K0 fu0 v2_1 (v3_0 + (1 : Int32))) = some (r, pr', tm', cn') → G H locs 0 0 (F0 m 67 ls []) := by
          intro v2_1 v4_1 H locs ls hP hD hS hl h
          refine hG _ _ _ _ _ ?_
          refine lv_iinc (v := (v3_0 + (1 : Int32))) (lv' := [(3, .int (v3_0 + (1 : Int32))), (0, .ref (a 15)), (1, .int p0), (2, .int v2_1), (4, .int v4_1)]) hx hb dX1_squareByPowers_67 hl (k := 3) rfl rfl (by decide) rfl (fun ls hl => ?_)
          refine lv_goto (tgt := 12) hx hb dX1_squareByPowers_70 (by decide) ?_
          exact hGW _ _ _ _ _ (ih0 v2_1 (v3_0 + (1 : Int32)) _ _ ls hP hD hS (lv_sub hl [1, 2, 3, 0] rfl) h)
        have L1 : ∀ (K1 : Int32 → Int32 → Option (Int32 × (Nat → Int32) × (Nat → Int32) × Int32)) (HX1 : ∀ (v2_1 : Int32) (v4_1 : Int32) (H : Heap) (locs : List Loc) (ls : Array Slot), va_P D vwCl (cW a cJ cI cO R b pr_1 tm_2 cn_3 sm ac re kn) H → va_D A (cW a cJ cI cO R b pr_1 tm_2 cn_3 sm ac re kn) → va_S A s.heap H locs → lv_has ls 5 [(0, .ref (a 15)), (1, .int p0), (2, .int v2_1), (3, .int v3_0), (4, .int v4_1)] → K1 v2_1 v4_1 = some (r, pr', tm', cn') → G H locs 0 0 (F0 m 67 ls [])) (fu1 : Nat) (v2_1 : Int32) (v4_1 : Int32) (H : Heap) (locs : List Loc) (ls : Array Slot), va_P D vwCl (cW a cJ cI cO R b pr_1 tm_2 cn_3 sm ac re kn) H → va_D A (cW a cJ cI cO R b pr_1 tm_2 cn_3 sm ac re kn) → va_S A s.heap H locs → lv_has ls 5 [(0, .ref (a 15)), (1, .int p0), (2, .int v2_1), (3, .int v3_0), (4, .int v4_1)] → p_X1_squareByPowers_L1 F pr_1 tm_2 v3_0 K1 fu1 v2_1 v4_1 = some (r, pr', tm', cn') → G H locs 0 0 (F0 m 26 ls []) := by
          intro K1 HX1 fu1
          induction fu1 with
          | zero =>
            intro v2_1 v4_1 H locs ls hP hD hS hl h
            exact (zno h).elim
          | succ fu1 ih1 =>
            intro v2_1 v4_1 H locs ls hP hD hS hl h
            refine hG _ _ _ _ _ ?_
            unfold p_X1_squareByPowers_L1 at h
            refine lv_iload hx hb dX1_squareByPowers_26 (lv_at hl 4 rfl) ?_
            refine lv_aload_n hx hb dX1_squareByPowers_28 rfl (lv_at hl 0 rfl) ?_
            refine va_get (D := D) (ci := 3) (v := .ref (a 17)) (C := RX1) (T := TX1) (N := 2) hx hb hts kwX1 hown hK hP 15 rfl rfl 0 (by decide) kf_12 (fun _ h9 => h9) rfl dX1_squareByPowers_29 ?_
            refine lv_iload_n hx hb dX1_squareByPowers_32 rfl (lv_at hl 3 rfl) ?_
            obtain ⟨r7, e8, h⟩ := zb1_some h
            refine zgoi (va_runV (As := [.int v3_0]) (rest := [.int v4_1]) ⟨hx, hb, hml, hown, hts⟩ (c_X2_timesAt l D a cJ cI cO cB R b pr_1 tm_2 cn_3 sm ac re kn v3_0 r7 e8 H.size) (cwV 1 hts gX1_squareByPowers_X2_timesAt rfl rfl rfl hdV_X2_timesAt ⟨Nat.le_of_ble_eq_true rfl, Nat.le_of_ble_eq_true rfl⟩) (zpreV (q0 := 17) (ci := 4) (T := TX2) (N := 3) hK hP hD rfl rfl [.int v3_0]) rfl rfl hl.1 rfl (lv_room (Nat.le_of_ble_eq_true rfl)) dX1_squareByPowers_33 ⟨Nat.le_of_ble_eq_true rfl, Nat.le_of_ble_eq_true rfl⟩) (zfree hD hS hA) (zjW hD hS hA) hS (fun H locs hP hD hS => ?_)
            replace hP : va_P D vwCl (cW a cJ cI cO R b pr_1 tm_2 cn_3 sm ac re kn) H := hP
            replace hD : va_D A (cW a cJ cI cO R b pr_1 tm_2 cn_3 sm ac re kn) := hD
            refine lv_iconst (v := (2 : Int32)) hx hb dX1_squareByPowers_36 (by decide) ?_
            refine lv_idiv hx hb dX1_squareByPowers_37 (by decide) ?_
            refine lv_icmp_ge (tgt := 67) hx hb dX1_squareByPowers_38 (by decide) (fun c38 => ?_) (fun c38 => ?_)
            · replace h := zif_t h c38
              exact hGW _ _ _ _ _ (HX1 v2_1 v4_1 _ _ ls hP hD hS (lv_sub hl [0, 1, 2, 3, 4] rfl) h)
            · replace h := zif_f h c38
              refine lv_iload_n hx hb dX1_squareByPowers_41 rfl (lv_at hl 2 rfl) ?_
              refine lv_aload_n hx hb dX1_squareByPowers_42 rfl (lv_at hl 0 rfl) ?_
              refine va_get (D := D) (ci := 3) (v := .ref (a 17)) (C := RX1) (T := TX1) (N := 2) hx hb hts kwX1 hown hK hP 15 rfl rfl 0 (by decide) kf_12 (fun _ h9 => h9) rfl dX1_squareByPowers_43 ?_
              refine lv_iload_n hx hb dX1_squareByPowers_46 rfl (lv_at hl 3 rfl) ?_
              obtain ⟨r9, e10, h⟩ := zb1_some h
              refine zgoi (va_runV (As := [.int v3_0]) (rest := [.int v2_1]) ⟨hx, hb, hml, hown, hts⟩ (c_X2_primeAt l D a cJ cI cO cB R b pr_1 tm_2 cn_3 sm ac re kn v3_0 r9 e10 H.size) (cwV 1 hts gX1_squareByPowers_X2_primeAt rfl rfl rfl hdV_X2_primeAt ⟨Nat.le_of_ble_eq_true rfl, Nat.le_of_ble_eq_true rfl⟩) (zpreV (q0 := 17) (ci := 4) (T := TX2) (N := 3) hK hP hD rfl rfl [.int v3_0]) rfl rfl hl.1 rfl (lv_room (Nat.le_of_ble_eq_true rfl)) dX1_squareByPowers_47 ⟨Nat.le_of_ble_eq_true rfl, Nat.le_of_ble_eq_true rfl⟩) (zfree hD hS hA) (zjW hD hS hA) hS (fun H locs hP hD hS => ?_)
              replace hP : va_P D vwCl (cW a cJ cI cO R b pr_1 tm_2 cn_3 sm ac re kn) H := hP
              replace hD : va_D A (cW a cJ cI cO R b pr_1 tm_2 cn_3 sm ac re kn) := hD
              refine lv_aload_n hx hb dX1_squareByPowers_50 rfl (lv_at hl 0 rfl) ?_
              refine va_get (D := D) (ci := 3) (v := .ref (a 17)) (C := RX1) (T := TX1) (N := 2) hx hb hts kwX1 hown hK hP 15 rfl rfl 0 (by decide) kf_12 (fun _ h9 => h9) rfl dX1_squareByPowers_51 ?_
              refine lv_iload_n hx hb dX1_squareByPowers_54 rfl (lv_at hl 3 rfl) ?_
              obtain ⟨r11, e12, h⟩ := zb1_some h
              refine zgoi (va_runV (As := [.int v3_0]) (rest := [.int r9, .int v2_1]) ⟨hx, hb, hml, hown, hts⟩ (c_X2_primeAt l D a cJ cI cO cB R b pr_1 tm_2 cn_3 sm ac re kn v3_0 r11 e12 H.size) (cwV 1 hts gX1_squareByPowers_X2_primeAt rfl rfl rfl hdV_X2_primeAt ⟨Nat.le_of_ble_eq_true rfl, Nat.le_of_ble_eq_true rfl⟩) (zpreV (q0 := 17) (ci := 4) (T := TX2) (N := 3) hK hP hD rfl rfl [.int v3_0]) rfl rfl hl.1 rfl (lv_room (Nat.le_of_ble_eq_true rfl)) dX1_squareByPowers_55 ⟨Nat.le_of_ble_eq_true rfl, Nat.le_of_ble_eq_true rfl⟩) (zfree hD hS hA) (zjW hD hS hA) hS (fun H locs hP hD hS => ?_)
              replace hP : va_P D vwCl (cW a cJ cI cO R b pr_1 tm_2 cn_3 sm ac re kn) H := hP
              replace hD : va_D A (cW a cJ cI cO R b pr_1 tm_2 cn_3 sm ac re kn) := hD
              refine lv_imul hx hb dX1_squareByPowers_58 ?_
              refine lv_imul hx hb dX1_squareByPowers_59 ?_
              refine lv_istore_n (lv' := [(2, .int (v2_1 * (r9 * r11))), (0, .ref (a 15)), (1, .int p0), (3, .int v3_0), (4, .int v4_1)]) hx hb dX1_squareByPowers_60 rfl hl (by decide) rfl (fun ls hl => ?_)
              refine lv_iinc (v := (v4_1 + (1 : Int32))) (lv' := [(4, .int (v4_1 + (1 : Int32))), (2, .int (v2_1 * (r9 * r11))), (0, .ref (a 15)), (1, .int p0), (3, .int v3_0)]) hx hb dX1_squareByPowers_61 hl (k := 4) rfl rfl (by decide) rfl (fun ls hl => ?_)
              refine lv_goto (tgt := 26) hx hb dX1_squareByPowers_64 (by decide) ?_
              exact hGW _ _ _ _ _ (ih1 (v2_1 * (r9 * r11)) (v4_1 + (1 : Int32)) _ _ ls hP hD hS (lv_sub hl [2, 3, 1, 4, 0] rfl) h)
        exact hGW _ _ _ _ _ (L1 _ X1 F v2_0 (0 : Int32) _ _ ls hP hD hS (lv_sub hl [1, 2, 3, 4, 0] rfl) h)
  exact hGW _ _ _ _ _ (L0 _ X0 F (1 : Int32) (0 : Int32) _ _ ls hP hD hS (lv_sub hl [2, 3, 1, 0] rfl) h)

noncomputable def p_X1_squarelessOneByOne_L0 (F : Nat) (p0 : Int32) (k : Int32 → Int32 → Option Int32) : Nat → Int32 → Int32 → Option Int32
  | 0, _, _ => none
  | n + 1, v2_0, v3_0 => (if p0 < v3_0 then (k v2_0 v3_0) else (zb1 (p_X1_squareOneByOne F v3_0) (fun r1 => (if ¬ r1 = (1 : Int32) then (p_X1_squarelessOneByOne_L0 F p0 k n (v2_0 + (0 : Int32)) (v3_0 + (1 : Int32))) else (p_X1_squarelessOneByOne_L0 F p0 k n (v2_0 + (1 : Int32)) (v3_0 + (1 : Int32)))))))
noncomputable def p_X1_squarelessOneByOne (F : Nat) (p0 : Int32) : Option Int32 := (p_X1_squarelessOneByOne_L0 F p0 (fun v2_0 v3_0 => (some v2_0)) F (0 : Int32) (1 : Int32))
theorem hdV_X1_squarelessOneByOne : yX1_squarelessOneByOne.cls = RX1 ∧ yX1_squarelessOneByOne.cls ≠ "java/lang/invoke/MethodHandle" ∧ yX1_squarelessOneByOne.cls ≠ "java/lang/invoke/VarHandle" ∧ (parseMethodDescriptor yX1_squarelessOneByOne.desc).map (fun d => d.parameters.length) = some 1 := by decide +kernel
set_option maxHeartbeats 4000000 in
set_option maxRecDepth 100000 in
theorem c_X1_squarelessOneByOne (l : Launch) (D : va_G) (a : Nat → Nat) (cJ cI cO cB : ClassId) (R : Nat → Nat → Int64) (b : Bool) (pr : Nat → Int32) (tm : Nat → Int32) (cn : Int32) (sm : Nat → Int32) (ac : Int32) (re : Int32) (kn : Int32) (F : Nat) (p0 : Int32) (r : Int32) (h : p_X1_squarelessOneByOne F p0 = some r) : zMi l yX1_squarelessOneByOne wsX1_squarelessOneByOne 1 23 0 0 D (zT cJ cI cO cB) [.ref (a 15), .int p0] (cW a cJ cI cO R b pr tm cn sm ac re kn) (cW a cJ cI cO R b pr tm cn sm ac re kn) r := by
  intro sz
  delta zQi
  refine Met.ofW (cc := cX1_squarelessOneByOne) (maxL := 4) (ret := (some .int)) (by decide) rfl ?_
  intro p e s m args below meth c s₁ B hml hv
  obtain ⟨rfl, hsz, hP, hK, hD0⟩ := hv
  have hx := B.exec
  have hb := B.bytes
  have hr := B.returns
  have hts := atoms_spec (ws := wsX1_squarelessOneByOne) B.pre
  have hown : s.vm.findClass RX1 = some m.cls := findClass_of_methodNamed B.named
  have hlocks := B.notSynchronized
  subst hsz
  have hD := hD0.self (sz := s.heap.size)
  generalize hAe : va_A (cW a cJ cI cO R b pr tm cn sm ac re kn) s.heap.size = A at hD ⊢
  have hA : ∀ q : Nat, s.heap.size ≤ q → A q := fun q h => by rw [← hAe]; exact Or.inr h
  have hS : va_S A s.heap s.heap [] := va_S.rf
  have hl := lv_entry ([.ref (a 15), .int p0]) (n := 4) (Nat.le_of_ble_eq_true rfl)
  rw [lg_entry_eq]
  generalize (lg_sl ([.ref (a 15), .int p0]) ++ List.replicate (4 - (lg_sl ([.ref (a 15), .int p0])).length) Slot.unset).toArray = ls at hl ⊢
  replace hl : lv_has ls 4 [(0, .ref (a 15)), (1, .int p0)] := hl
  replace h : (p_X1_squarelessOneByOne_L0 F p0 (fun v2_0 v3_0 => (some v2_0)) F (0 : Int32) (1 : Int32)) = some r := h
  refine zabs (fun G hG hGW => ?_)
  obtain ⟨H, hHe⟩ : ∃ H, H = s.heap := ⟨_, rfl⟩
  rw [← hHe] at hP
  replace hS : va_S A s.heap H [] := by rw [hHe]; exact hS
  refine zheap hHe ?_
  refine lv_iconst (v := (0 : Int32)) hx hb dX1_squarelessOneByOne_0 (by decide) ?_
  refine lv_istore_n (lv' := [(2, .int (0 : Int32)), (0, .ref (a 15)), (1, .int p0)]) hx hb dX1_squarelessOneByOne_1 rfl hl (by decide) rfl (fun ls hl => ?_)
  refine lv_iconst (v := (1 : Int32)) hx hb dX1_squarelessOneByOne_2 (by decide) ?_
  refine lv_istore_n (lv' := [(3, .int (1 : Int32)), (2, .int (0 : Int32)), (0, .ref (a 15)), (1, .int p0)]) hx hb dX1_squarelessOneByOne_3 rfl hl (by decide) rfl (fun ls hl => ?_)
  have X0 : ∀ (v2_0 : Int32) (v3_0 : Int32) (H : Heap) (locs : List Loc) (ls : Array Slot), va_P D vwCl (cW a cJ cI cO R b pr tm cn sm ac re kn) H → va_D A (cW a cJ cI cO R b pr tm cn sm ac re kn) → va_S A s.heap H locs → lv_has ls 4 [(0, .ref (a 15)), (1, .int p0), (2, .int v2_0), (3, .int v3_0)] → (some v2_0) = some r → G H locs 0 0 (F0 m 32 ls []) := by
    intro v2_0 v3_0 H locs ls hP hD hS hl h
    refine hG _ _ _ _ _ ?_
    refine lv_iload_n hx hb dX1_squarelessOneByOne_32 rfl (lv_at hl 2 rfl) ?_
    have h1 := Option.some.inj h
    subst h1
    exact W.iret (v := v2_0) hx hb hr (fun t ht hW => ⟨⟨v2_0, (), rfl, rfl, by rw [ht]; exact hP, va_K.moved hW.alike hK, hD⟩, hS.F ht⟩) hS.2.2 dX1_squarelessOneByOne_33
  have L0 : ∀ (K0 : Int32 → Int32 → Option Int32) (HX0 : ∀ (v2_0 : Int32) (v3_0 : Int32) (H : Heap) (locs : List Loc) (ls : Array Slot), va_P D vwCl (cW a cJ cI cO R b pr tm cn sm ac re kn) H → va_D A (cW a cJ cI cO R b pr tm cn sm ac re kn) → va_S A s.heap H locs → lv_has ls 4 [(0, .ref (a 15)), (1, .int p0), (2, .int v2_0), (3, .int v3_0)] → K0 v2_0 v3_0 = some r → G H locs 0 0 (F0 m 32 ls [])) (fu0 : Nat) (v2_0 : Int32) (v3_0 : Int32) (H : Heap) (locs : List Loc) (ls : Array Slot), va_P D vwCl (cW a cJ cI cO R b pr tm cn sm ac re kn) H → va_D A (cW a cJ cI cO R b pr tm cn sm ac re kn) → va_S A s.heap H locs → lv_has ls 4 [(0, .ref (a 15)), (1, .int p0), (2, .int v2_0), (3, .int v3_0)] → p_X1_squarelessOneByOne_L0 F p0 K0 fu0 v2_0 v3_0 = some r → G H locs 0 0 (F0 m 4 ls []) := by
    intro K0 HX0 fu0
    induction fu0 with
    | zero =>
      intro v2_0 v3_0 H locs ls hP hD hS hl h
      exact (zno h).elim
    | succ fu0 ih0 =>
      intro v2_0 v3_0 H locs ls hP hD hS hl h
      refine hG _ _ _ _ _ ?_
      unfold p_X1_squarelessOneByOne_L0 at h
      refine lv_iload_n hx hb dX1_squarelessOneByOne_4 rfl (lv_at hl 3 rfl) ?_
      refine lv_iload_n hx hb dX1_squarelessOneByOne_5 rfl (lv_at hl 1 rfl) ?_
      refine lv_icmp_gt (tgt := 32) hx hb dX1_squarelessOneByOne_6 (by decide) (fun c6 => ?_) (fun c6 => ?_)
      · replace h := zif_t h c6
        exact hGW _ _ _ _ _ (HX0 v2_0 v3_0 _ _ ls hP hD hS (lv_sub hl [0, 1, 2, 3] rfl) h)
      · replace h := zif_f h c6
        refine lv_iload_n hx hb dX1_squarelessOneByOne_9 rfl (lv_at hl 2 rfl) ?_
        refine lv_aload_n hx hb dX1_squarelessOneByOne_10 rfl (lv_at hl 0 rfl) ?_
        refine lv_iload_n hx hb dX1_squarelessOneByOne_11 rfl (lv_at hl 3 rfl) ?_
        obtain ⟨r1, e2, h⟩ := zb1_some h
        refine zgoi (va_runV (As := [.int v3_0]) (rest := [.int v2_0]) ⟨hx, hb, hml, hown, hts⟩ (c_X1_squareOneByOne l D a cJ cI cO cB R b pr tm cn sm ac re kn F v3_0 r1 e2 H.size) (cwV 1 hts gX1_squarelessOneByOne_X1_squareOneByOne rfl rfl rfl hdV_X1_squareOneByOne ⟨Nat.le_of_ble_eq_true rfl, Nat.le_of_ble_eq_true rfl⟩) (zpreV (q0 := 15) (ci := 3) (T := TX1) (N := 2) hK hP hD rfl rfl [.int v3_0]) rfl rfl hl.1 rfl (lv_room (Nat.le_of_ble_eq_true rfl)) dX1_squarelessOneByOne_12 ⟨Nat.le_of_ble_eq_true rfl, Nat.le_of_ble_eq_true rfl⟩) (zfree hD hS hA) (zjW hD hS hA) hS (fun H locs hP hD hS => ?_)
        replace hP : va_P D vwCl (cW a cJ cI cO R b pr tm cn sm ac re kn) H := hP
        replace hD : va_D A (cW a cJ cI cO R b pr tm cn sm ac re kn) := hD
        refine lv_iconst (v := (1 : Int32)) hx hb dX1_squarelessOneByOne_15 (by decide) ?_
        refine lv_icmp_ne (tgt := 23) hx hb dX1_squarelessOneByOne_16 (by decide) (fun c16 => ?_) (fun c16 => ?_)
        · replace h := zif_t h c16
          refine lv_iconst (v := (0 : Int32)) hx hb dX1_squarelessOneByOne_23 (by decide) ?_
          refine lv_iadd hx hb dX1_squarelessOneByOne_24 ?_
          refine lv_istore_n (lv' := [(2, .int (v2_0 + (0 : Int32))), (0, .ref (a 15)), (1, .int p0), (3, .int v3_0)]) hx hb dX1_squarelessOneByOne_25 rfl hl (by decide) rfl (fun ls hl => ?_)
          refine lv_iinc (v := (v3_0 + (1 : Int32))) (lv' := [(3, .int (v3_0 + (1 : Int32))), (2, .int (v2_0 + (0 : Int32))), (0, .ref (a 15)), (1, .int p0)]) hx hb dX1_squarelessOneByOne_26 hl (k := 3) rfl rfl (by decide) rfl (fun ls hl => ?_)
          refine lv_goto (tgt := 4) hx hb dX1_squarelessOneByOne_29 (by decide) ?_
          exact hGW _ _ _ _ _ (ih0 (v2_0 + (0 : Int32)) (v3_0 + (1 : Int32)) _ _ ls hP hD hS (lv_sub hl [2, 3, 1, 0] rfl) h)
        · replace h := zif_fn h c16
          refine lv_iconst (v := (1 : Int32)) hx hb dX1_squarelessOneByOne_19 (by decide) ?_
          refine lv_goto (tgt := 24) hx hb dX1_squarelessOneByOne_20 (by decide) ?_
          refine lv_iadd hx hb dX1_squarelessOneByOne_24 ?_
          refine lv_istore_n (lv' := [(2, .int (v2_0 + (1 : Int32))), (0, .ref (a 15)), (1, .int p0), (3, .int v3_0)]) hx hb dX1_squarelessOneByOne_25 rfl hl (by decide) rfl (fun ls hl => ?_)
          refine lv_iinc (v := (v3_0 + (1 : Int32))) (lv' := [(3, .int (v3_0 + (1 : Int32))), (2, .int (v2_0 + (1 : Int32))), (0, .ref (a 15)), (1, .int p0)]) hx hb dX1_squarelessOneByOne_26 hl (k := 3) rfl rfl (by decide) rfl (fun ls hl => ?_)
          refine lv_goto (tgt := 4) hx hb dX1_squarelessOneByOne_29 (by decide) ?_
          exact hGW _ _ _ _ _ (ih0 (v2_0 + (1 : Int32)) (v3_0 + (1 : Int32)) _ _ ls hP hD hS (lv_sub hl [2, 3, 1, 0] rfl) h)
  exact hGW _ _ _ _ _ (L0 _ X0 F (0 : Int32) (1 : Int32) _ _ ls hP hD hS (lv_sub hl [2, 3, 1, 0] rfl) h)

noncomputable def p_X1_squarelessBySigns_L0 (F : Nat) (p0 : Int32) (k : Int32 → Int32 → (Nat → Int32) → (Nat → Int32) → Int32 → Option (Int32 × (Nat → Int32) × (Nat → Int32) × Int32)) : Nat → Int32 → Int32 → (Nat → Int32) → (Nat → Int32) → Int32 → Option (Int32 × (Nat → Int32) × (Nat → Int32) × Int32)
  | 0, _, _, _, _, _ => none
  | n + 1, v2_0, v3_0, prL0, tmL0, cnL0 => (if (31 : Int32) < v3_0 then (k v2_0 v3_0 prL0 tmL0 cnL0) else (if p0 < (v3_0 * v3_0) then (k v2_0 v3_0 prL0 tmL0 cnL0) else (zb4 (p_X1_signByPowers F prL0 tmL0 v3_0) (fun r1 pr_2 tm_3 cn_4 => (zg ((v3_0 * v3_0) = 0) (p_X1_squarelessBySigns_L0 F p0 k n (v2_0 + (r1 * (p0 / (v3_0 * v3_0)))) (v3_0 + (1 : Int32)) pr_2 tm_3 cn_4))))))
noncomputable def p_X1_squarelessBySigns (F : Nat) (pr : Nat → Int32) (tm : Nat → Int32) (cn : Int32) (p0 : Int32) : Option (Int32 × (Nat → Int32) × (Nat → Int32) × Int32) := (p_X1_squarelessBySigns_L0 F p0 (fun v2_0 v3_0 prL0 tmL0 cnL0 => (some (v2_0, prL0, tmL0, cnL0))) F (0 : Int32) (1 : Int32) pr tm cn)
theorem hdV_X1_squarelessBySigns : yX1_squarelessBySigns.cls = RX1 ∧ yX1_squarelessBySigns.cls ≠ "java/lang/invoke/MethodHandle" ∧ yX1_squarelessBySigns.cls ≠ "java/lang/invoke/VarHandle" ∧ (parseMethodDescriptor yX1_squarelessBySigns.desc).map (fun d => d.parameters.length) = some 1 := by decide +kernel
set_option maxHeartbeats 4000000 in
set_option maxRecDepth 100000 in
theorem c_X1_squarelessBySigns (l : Launch) (D : va_G) (a : Nat → Nat) (cJ cI cO cB : ClassId) (R : Nat → Nat → Int64) (b : Bool) (pr : Nat → Int32) (tm : Nat → Int32) (cn : Int32) (sm : Nat → Int32) (ac : Int32) (re : Int32) (kn : Int32) (F : Nat) (p0 : Int32) (r : Int32) (pr' : Nat → Int32) (tm' : Nat → Int32) (cn' : Int32) (h : p_X1_squarelessBySigns F pr tm cn p0 = some (r, pr', tm', cn')) : zMi l yX1_squarelessBySigns wsX1_squarelessBySigns 2 47 0 0 D (zT cJ cI cO cB) [.ref (a 15), .int p0] (cW a cJ cI cO R b pr tm cn sm ac re kn) (cW a cJ cI cO R b pr' tm' cn' sm ac re kn) r := by
  intro sz
  delta zQi
  refine Met.ofW (cc := cX1_squarelessBySigns) (maxL := 4) (ret := (some .int)) (by decide) rfl ?_
  intro p e s m args below meth c s₁ B hml hv
  obtain ⟨rfl, hsz, hP, hK, hD0⟩ := hv
  have hx := B.exec
  have hb := B.bytes
  have hr := B.returns
  have hts := atoms_spec (ws := wsX1_squarelessBySigns) B.pre
  have hown : s.vm.findClass RX1 = some m.cls := findClass_of_methodNamed B.named
  have hlocks := B.notSynchronized
  subst hsz
  have hD := hD0.self (sz := s.heap.size)
  generalize hAe : va_A (cW a cJ cI cO R b pr tm cn sm ac re kn) s.heap.size = A at hD ⊢
  have hA : ∀ q : Nat, s.heap.size ≤ q → A q := fun q h => by rw [← hAe]; exact Or.inr h
  have hS : va_S A s.heap s.heap [] := va_S.rf
  have hl := lv_entry ([.ref (a 15), .int p0]) (n := 4) (Nat.le_of_ble_eq_true rfl)
  rw [lg_entry_eq]
  generalize (lg_sl ([.ref (a 15), .int p0]) ++ List.replicate (4 - (lg_sl ([.ref (a 15), .int p0])).length) Slot.unset).toArray = ls at hl ⊢
  replace hl : lv_has ls 4 [(0, .ref (a 15)), (1, .int p0)] := hl
  replace h : (p_X1_squarelessBySigns_L0 F p0 (fun v2_0 v3_0 prL0 tmL0 cnL0 => (some (v2_0, prL0, tmL0, cnL0))) F (0 : Int32) (1 : Int32) pr tm cn) = some (r, pr', tm', cn') := h
  refine zabs (fun G hG hGW => ?_)
  obtain ⟨H, hHe⟩ : ∃ H, H = s.heap := ⟨_, rfl⟩
  rw [← hHe] at hP
  replace hS : va_S A s.heap H [] := by rw [hHe]; exact hS
  refine zheap hHe ?_
  refine lv_iconst (v := (0 : Int32)) hx hb dX1_squarelessBySigns_0 (by decide) ?_
  refine lv_istore_n (lv' := [(2, .int (0 : Int32)), (0, .ref (a 15)), (1, .int p0)]) hx hb dX1_squarelessBySigns_1 rfl hl (by decide) rfl (fun ls hl => ?_)
  refine lv_iconst (v := (1 : Int32)) hx hb dX1_squarelessBySigns_2 (by decide) ?_
  refine lv_istore_n (lv' := [(3, .int (1 : Int32)), (2, .int (0 : Int32)), (0, .ref (a 15)), (1, .int p0)]) hx hb dX1_squarelessBySigns_3 rfl hl (by decide) rfl (fun ls hl => ?_)
  have X0 : ∀ (v2_0 : Int32) (v3_0 : Int32) (prL0 : Nat → Int32) (tmL0 : Nat → Int32) (cnL0 : Int32) (H : Heap) (locs : List Loc) (ls : Array Slot), va_P D vwCl (cW a cJ cI cO R b prL0 tmL0 cnL0 sm ac re kn) H → va_D A (cW a cJ cI cO R b prL0 tmL0 cnL0 sm ac re kn) → va_S A s.heap H locs → lv_has ls 4 [(0, .ref (a 15)), (1, .int p0), (2, .int v2_0), (3, .int v3_0)] → (some (v2_0, prL0, tmL0, cnL0)) = some (r, pr', tm', cn') → G H locs 0 0 (F0 m 37 ls []) := by
    intro v2_0 v3_0 prL0 tmL0 cnL0 H locs ls hP hD hS hl h
    refine hG _ _ _ _ _ ?_
    refine lv_iload_n hx hb dX1_squarelessBySigns_37 rfl (lv_at hl 2 rfl) ?_
    have g0 := Option.some.inj h
    obtain ⟨h1, g1⟩ := Prod.mk.inj g0
    obtain ⟨h2, g2⟩ := Prod.mk.inj g1
    obtain ⟨h3, g3⟩ := Prod.mk.inj g2
    subst h1
    subst h2
    subst h3
    subst g3
    exact W.iret (v := v2_0) hx hb hr (fun t ht hW => ⟨⟨v2_0, (), rfl, rfl, by rw [ht]; exact hP, va_K.moved hW.alike hK, hD⟩, hS.F ht⟩) hS.2.2 dX1_squarelessBySigns_38
  have L0 : ∀ (K0 : Int32 → Int32 → (Nat → Int32) → (Nat → Int32) → Int32 → Option (Int32 × (Nat → Int32) × (Nat → Int32) × Int32)) (HX0 : ∀ (v2_0 : Int32) (v3_0 : Int32) (prL0 : Nat → Int32) (tmL0 : Nat → Int32) (cnL0 : Int32) (H : Heap) (locs : List Loc) (ls : Array Slot), va_P D vwCl (cW a cJ cI cO R b prL0 tmL0 cnL0 sm ac re kn) H → va_D A (cW a cJ cI cO R b prL0 tmL0 cnL0 sm ac re kn) → va_S A s.heap H locs → lv_has ls 4 [(0, .ref (a 15)), (1, .int p0), (2, .int v2_0), (3, .int v3_0)] → K0 v2_0 v3_0 prL0 tmL0 cnL0 = some (r, pr', tm', cn') → G H locs 0 0 (F0 m 37 ls [])) (fu0 : Nat) (v2_0 : Int32) (v3_0 : Int32) (prL0 : Nat → Int32) (tmL0 : Nat → Int32) (cnL0 : Int32) (H : Heap) (locs : List Loc) (ls : Array Slot), va_P D vwCl (cW a cJ cI cO R b prL0 tmL0 cnL0 sm ac re kn) H → va_D A (cW a cJ cI cO R b prL0 tmL0 cnL0 sm ac re kn) → va_S A s.heap H locs → lv_has ls 4 [(0, .ref (a 15)), (1, .int p0), (2, .int v2_0), (3, .int v3_0)] → p_X1_squarelessBySigns_L0 F p0 K0 fu0 v2_0 v3_0 prL0 tmL0 cnL0 = some (r, pr', tm', cn') → G H locs 0 0 (F0 m 4 ls []) := by
    intro K0 HX0 fu0
    induction fu0 with
    | zero =>
      intro v2_0 v3_0 prL0 tmL0 cnL0 H locs ls hP hD hS hl h
      exact (zno h).elim
    | succ fu0 ih0 =>
      intro v2_0 v3_0 prL0 tmL0 cnL0 H locs ls hP hD hS hl h
      refine hG _ _ _ _ _ ?_
      unfold p_X1_squarelessBySigns_L0 at h
      refine lv_iload_n hx hb dX1_squarelessBySigns_4 rfl (lv_at hl 3 rfl) ?_
      refine lv_bipush (v := (31 : Int32)) hx hb dX1_squarelessBySigns_5 (by decide) ?_
      refine lv_icmp_gt (tgt := 37) hx hb dX1_squarelessBySigns_7 (by decide) (fun c7 => ?_) (fun c7 => ?_)
      · replace h := zif_t h c7
        exact hGW _ _ _ _ _ (HX0 v2_0 v3_0 prL0 tmL0 cnL0 _ _ ls hP hD hS (lv_sub hl [0, 1, 2, 3] rfl) h)
      · replace h := zif_f h c7
        refine lv_iload_n hx hb dX1_squarelessBySigns_10 rfl (lv_at hl 3 rfl) ?_
        refine lv_iload_n hx hb dX1_squarelessBySigns_11 rfl (lv_at hl 3 rfl) ?_
        refine lv_imul hx hb dX1_squarelessBySigns_12 ?_
        refine lv_iload_n hx hb dX1_squarelessBySigns_13 rfl (lv_at hl 1 rfl) ?_
        refine lv_icmp_gt (tgt := 37) hx hb dX1_squarelessBySigns_14 (by decide) (fun c14 => ?_) (fun c14 => ?_)
        · replace h := zif_t h c14
          exact hGW _ _ _ _ _ (HX0 v2_0 v3_0 prL0 tmL0 cnL0 _ _ ls hP hD hS (lv_sub hl [0, 1, 2, 3] rfl) h)
        · replace h := zif_f h c14
          refine lv_iload_n hx hb dX1_squarelessBySigns_17 rfl (lv_at hl 2 rfl) ?_
          refine lv_aload_n hx hb dX1_squarelessBySigns_18 rfl (lv_at hl 0 rfl) ?_
          refine lv_iload_n hx hb dX1_squarelessBySigns_19 rfl (lv_at hl 3 rfl) ?_
          obtain ⟨r1, pr_2, tm_3, cn_4, e5, h⟩ := zb4_some h
          refine zgoi (va_runV (As := [.int v3_0]) (rest := [.int v2_0]) ⟨hx, hb, hml, hown, hts⟩ (c_X1_signByPowers l D a cJ cI cO cB R b prL0 tmL0 cnL0 sm ac re kn F v3_0 r1 pr_2 tm_3 cn_4 e5 H.size) (cwV 1 hts gX1_squarelessBySigns_X1_signByPowers rfl rfl rfl hdV_X1_signByPowers ⟨Nat.le_of_ble_eq_true rfl, Nat.le_of_ble_eq_true rfl⟩) (zpreV (q0 := 15) (ci := 3) (T := TX1) (N := 2) hK hP hD rfl rfl [.int v3_0]) rfl rfl hl.1 rfl (lv_room (Nat.le_of_ble_eq_true rfl)) dX1_squarelessBySigns_20 ⟨Nat.le_of_ble_eq_true rfl, Nat.le_of_ble_eq_true rfl⟩) (zfree hD hS hA) (zjW hD hS hA) hS (fun H locs hP hD hS => ?_)
          replace hP : va_P D vwCl (cW a cJ cI cO R b pr_2 tm_3 cn_4 sm ac re kn) H := hP
          replace hD : va_D A (cW a cJ cI cO R b pr_2 tm_3 cn_4 sm ac re kn) := hD
          refine lv_iload_n hx hb dX1_squarelessBySigns_23 rfl (lv_at hl 1 rfl) ?_
          refine lv_iload_n hx hb dX1_squarelessBySigns_24 rfl (lv_at hl 3 rfl) ?_
          refine lv_iload_n hx hb dX1_squarelessBySigns_25 rfl (lv_at hl 3 rfl) ?_
          refine lv_imul hx hb dX1_squarelessBySigns_26 ?_
          obtain ⟨z27, h⟩ := zg_some h
          refine lv_idiv hx hb dX1_squarelessBySigns_27 z27 ?_
          refine lv_imul hx hb dX1_squarelessBySigns_28 ?_
          refine lv_iadd hx hb dX1_squarelessBySigns_29 ?_
          refine lv_istore_n (lv' := [(2, .int (v2_0 + (r1 * (p0 / (v3_0 * v3_0))))), (0, .ref (a 15)), (1, .int p0), (3, .int v3_0)]) hx hb dX1_squarelessBySigns_30 rfl hl (by decide) rfl (fun ls hl => ?_)
          refine lv_iinc (v := (v3_0 + (1 : Int32))) (lv' := [(3, .int (v3_0 + (1 : Int32))), (2, .int (v2_0 + (r1 * (p0 / (v3_0 * v3_0))))), (0, .ref (a 15)), (1, .int p0)]) hx hb dX1_squarelessBySigns_31 hl (k := 3) rfl rfl (by decide) rfl (fun ls hl => ?_)
          refine lv_goto (tgt := 4) hx hb dX1_squarelessBySigns_34 (by decide) ?_
          exact hGW _ _ _ _ _ (ih0 (v2_0 + (r1 * (p0 / (v3_0 * v3_0)))) (v3_0 + (1 : Int32)) pr_2 tm_3 cn_4 _ _ ls hP hD hS (lv_sub hl [2, 3, 1, 0] rfl) h)
  exact hGW _ _ _ _ _ (L0 _ X0 F (0 : Int32) (1 : Int32) pr tm cn _ _ ls hP hD hS (lv_sub hl [2, 3, 1, 0] rfl) h)

noncomputable def p_X1_apartOneByOne_L1 (F : Nat) (p0 : Int32) (v3_0 : Int32) (k : Int32 → Int32 → Option Int32) : Nat → Int32 → Int32 → Option Int32
  | 0, _, _ => none
  | n + 1, v2_1, v4_1 => (if p0 < v4_1 then (k v2_1 v4_1) else (zb1 (p_X1_commonOf F v3_0 v4_1) (fun r1 => (if ¬ r1 = (1 : Int32) then (p_X1_apartOneByOne_L1 F p0 v3_0 k n (v2_1 + (0 : Int32)) (v4_1 + (1 : Int32))) else (p_X1_apartOneByOne_L1 F p0 v3_0 k n (v2_1 + (1 : Int32)) (v4_1 + (1 : Int32)))))))
noncomputable def p_X1_apartOneByOne_L0 (F : Nat) (p0 : Int32) (k : Int32 → Int32 → Option Int32) : Nat → Int32 → Int32 → Option Int32
  | 0, _, _ => none
  | n + 1, v2_0, v3_0 => (if p0 < v3_0 then (k v2_0 v3_0) else (p_X1_apartOneByOne_L1 F p0 v3_0 (fun v2_1 v4_1 => (p_X1_apartOneByOne_L0 F p0 k n v2_1 (v3_0 + (1 : Int32)))) F v2_0 (1 : Int32)))
noncomputable def p_X1_apartOneByOne (F : Nat) (p0 : Int32) : Option Int32 := (p_X1_apartOneByOne_L0 F p0 (fun v2_0 v3_0 => (some v2_0)) F (0 : Int32) (1 : Int32))
theorem hdV_X1_apartOneByOne : yX1_apartOneByOne.cls = RX1 ∧ yX1_apartOneByOne.cls ≠ "java/lang/invoke/MethodHandle" ∧ yX1_apartOneByOne.cls ≠ "java/lang/invoke/VarHandle" ∧ (parseMethodDescriptor yX1_apartOneByOne.desc).map (fun d => d.parameters.length) = some 1 := by decide +kernel
set_option maxHeartbeats 4000000 in
set_option maxRecDepth 100000 in
theorem c_X1_apartOneByOne (l : Launch) (D : va_G) (a : Nat → Nat) (cJ cI cO cB : ClassId) (R : Nat → Nat → Int64) (b : Bool) (pr : Nat → Int32) (tm : Nat → Int32) (cn : Int32) (sm : Nat → Int32) (ac : Int32) (re : Int32) (kn : Int32) (F : Nat) (p0 : Int32) (r : Int32) (h : p_X1_apartOneByOne F p0 = some r) : zMi l yX1_apartOneByOne wsX1_apartOneByOne 1 25 0 0 D (zT cJ cI cO cB) [.ref (a 15), .int p0] (cW a cJ cI cO R b pr tm cn sm ac re kn) (cW a cJ cI cO R b pr tm cn sm ac re kn) r := by
  intro sz
  delta zQi
  refine Met.ofW (cc := cX1_apartOneByOne) (maxL := 5) (ret := (some .int)) (by decide) rfl ?_
  intro p e s m args below meth c s₁ B hml hv
  obtain ⟨rfl, hsz, hP, hK, hD0⟩ := hv
  have hx := B.exec
  have hb := B.bytes
  have hr := B.returns
  have hts := atoms_spec (ws := wsX1_apartOneByOne) B.pre
  have hown : s.vm.findClass RX1 = some m.cls := findClass_of_methodNamed B.named
  have hlocks := B.notSynchronized
  subst hsz
  have hD := hD0.self (sz := s.heap.size)
  generalize hAe : va_A (cW a cJ cI cO R b pr tm cn sm ac re kn) s.heap.size = A at hD ⊢
  have hA : ∀ q : Nat, s.heap.size ≤ q → A q := fun q h => by rw [← hAe]; exact Or.inr h
  have hS : va_S A s.heap s.heap [] := va_S.rf
  have hl := lv_entry ([.ref (a 15), .int p0]) (n := 5) (Nat.le_of_ble_eq_true rfl)
  rw [lg_entry_eq]
  generalize (lg_sl ([.ref (a 15), .int p0]) ++ List.replicate (5 - (lg_sl ([.ref (a 15), .int p0])).length) Slot.unset).toArray = ls at hl ⊢
  replace hl : lv_has ls 5 [(0, .ref (a 15)), (1, .int p0)] := hl
  replace h : (p_X1_apartOneByOne_L0 F p0 (fun v2_0 v3_0 => (some v2_0)) F (0 : Int32) (1 : Int32)) = some r := h
  refine zabs (fun G hG hGW => ?_)
  obtain ⟨H, hHe⟩ : ∃ H, H = s.heap := ⟨_, rfl⟩
  rw [← hHe] at hP
  replace hS : va_S A s.heap H [] := by rw [hHe]; exact hS
  refine zheap hHe ?_
  refine lv_iconst (v := (0 : Int32)) hx hb dX1_apartOneByOne_0 (by decide) ?_
  refine lv_istore_n (lv' := [(2, .int (0 : Int32)), (0, .ref (a 15)), (1, .int p0)]) hx hb dX1_apartOneByOne_1 rfl hl (by decide) rfl (fun ls hl => ?_)
  refine lv_iconst (v := (1 : Int32)) hx hb dX1_apartOneByOne_2 (by decide) ?_
  refine lv_istore_n (lv' := [(3, .int (1 : Int32)), (2, .int (0 : Int32)), (0, .ref (a 15)), (1, .int p0)]) hx hb dX1_apartOneByOne_3 rfl hl (by decide) rfl (fun ls hl => ?_)
  have X0 : ∀ (v2_0 : Int32) (v3_0 : Int32) (H : Heap) (locs : List Loc) (ls : Array Slot), va_P D vwCl (cW a cJ cI cO R b pr tm cn sm ac re kn) H → va_D A (cW a cJ cI cO R b pr tm cn sm ac re kn) → va_S A s.heap H locs → lv_has ls 5 [(0, .ref (a 15)), (1, .int p0), (2, .int v2_0), (3, .int v3_0)] → (some v2_0) = some r → G H locs 0 0 (F0 m 48 ls []) := by
    intro v2_0 v3_0 H locs ls hP hD hS hl h
    refine hG _ _ _ _ _ ?_
    refine lv_iload_n hx hb dX1_apartOneByOne_48 rfl (lv_at hl 2 rfl) ?_
    have h1 := Option.some.inj h
    subst h1
    exact W.iret (v := v2_0) hx hb hr (fun t ht hW => ⟨⟨v2_0, (), rfl, rfl, by rw [ht]; exact hP, va_K.moved hW.alike hK, hD⟩, hS.F ht⟩) hS.2.2 dX1_apartOneByOne_49
  have L0 : ∀ (K0 : Int32 → Int32 → Option Int32) (HX0 : ∀ (v2_0 : Int32) (v3_0 : Int32) (H : Heap) (locs : List Loc) (ls : Array Slot), va_P D vwCl (cW a cJ cI cO R b pr tm cn sm ac re kn) H → va_D A (cW a cJ cI cO R b pr tm cn sm ac re kn) → va_S A s.heap H locs → lv_has ls 5 [(0, .ref (a 15)), (1, .int p0), (2, .int v2_0), (3, .int v3_0)] → K0 v2_0 v3_0 = some r → G H locs 0 0 (F0 m 48 ls [])) (fu0 : Nat) (v2_0 : Int32) (v3_0 : Int32) (H : Heap) (locs : List Loc) (ls : Array Slot), va_P D vwCl (cW a cJ cI cO R b pr tm cn sm ac re kn) H → va_D A (cW a cJ cI cO R b pr tm cn sm ac re kn) → va_S A s.heap H locs → lv_has ls 5 [(0, .ref (a 15)), (1, .int p0), (2, .int v2_0), (3, .int v3_0)] → p_X1_apartOneByOne_L0 F p0 K0 fu0 v2_0 v3_0 = some r → G H locs 0 0 (F0 m 4 ls []) := by
    intro K0 HX0 fu0
    induction fu0 with
    | zero =>
      intro v2_0 v3_0 H locs ls hP hD hS hl h
      exact (zno h).elim
    | succ fu0 ih0 =>
      intro v2_0 v3_0 H locs ls hP hD hS hl h
      refine hG _ _ _ _ _ ?_
      unfold p_X1_apartOneByOne_L0 at h
      refine lv_iload_n hx hb dX1_apartOneByOne_4 rfl (lv_at hl 3 rfl) ?_
      refine lv_iload_n hx hb dX1_apartOneByOne_5 rfl (lv_at hl 1 rfl) ?_
      refine lv_icmp_gt (tgt := 48) hx hb dX1_apartOneByOne_6 (by decide) (fun c6 => ?_) (fun c6 => ?_)
      · replace h := zif_t h c6
        exact hGW _ _ _ _ _ (HX0 v2_0 v3_0 _ _ ls hP hD hS (lv_sub hl [0, 1, 2, 3] rfl) h)
      · replace h := zif_f h c6
        refine lv_iconst (v := (1 : Int32)) hx hb dX1_apartOneByOne_9 (by decide) ?_
        refine lv_istore (lv' := [(4, .int (1 : Int32)), (0, .ref (a 15)), (1, .int p0), (2, .int v2_0), (3, .int v3_0)]) hx hb dX1_apartOneByOne_10 hl (by decide) rfl (fun ls hl => ?_)
        have X1 : ∀ (v2_1 : Int32) (v4_1 : Int32) (H : Heap) (locs : List Loc) (ls : Array Slot), va_P D vwCl (cW a cJ cI cO R b pr tm cn sm ac re kn) H → va_D A (cW a cJ cI cO R b pr tm cn sm ac re kn) → va_S A s.heap H locs → lv_has ls 5 [(0, .ref (a 15)), (1, .int p0), (2, .int v2_1), (3, .int v3_0), (4, .int v4_1)] → (p_X1_apartOneByOne_L0 F p0 K0 fu0 v2_1 (v3_0 + (1 : Int32))) = some r → G H locs 0 0 (F0 m 42 ls []) := by
          intro v2_1 v4_1 H locs ls hP hD hS hl h
          refine hG _ _ _ _ _ ?_
          refine lv_iinc (v := (v3_0 + (1 : Int32))) (lv' := [(3, .int (v3_0 + (1 : Int32))), (0, .ref (a 15)), (1, .int p0), (2, .int v2_1), (4, .int v4_1)]) hx hb dX1_apartOneByOne_42 hl (k := 3) rfl rfl (by decide) rfl (fun ls hl => ?_)
          refine lv_goto (tgt := 4) hx hb dX1_apartOneByOne_45 (by decide) ?_
          exact hGW _ _ _ _ _ (ih0 v2_1 (v3_0 + (1 : Int32)) _ _ ls hP hD hS (lv_sub hl [1, 2, 3, 0] rfl) h)
        have L1 : ∀ (K1 : Int32 → Int32 → Option Int32) (HX1 : ∀ (v2_1 : Int32) (v4_1 : Int32) (H : Heap) (locs : List Loc) (ls : Array Slot), va_P D vwCl (cW a cJ cI cO R b pr tm cn sm ac re kn) H → va_D A (cW a cJ cI cO R b pr tm cn sm ac re kn) → va_S A s.heap H locs → lv_has ls 5 [(0, .ref (a 15)), (1, .int p0), (2, .int v2_1), (3, .int v3_0), (4, .int v4_1)] → K1 v2_1 v4_1 = some r → G H locs 0 0 (F0 m 42 ls [])) (fu1 : Nat) (v2_1 : Int32) (v4_1 : Int32) (H : Heap) (locs : List Loc) (ls : Array Slot), va_P D vwCl (cW a cJ cI cO R b pr tm cn sm ac re kn) H → va_D A (cW a cJ cI cO R b pr tm cn sm ac re kn) → va_S A s.heap H locs → lv_has ls 5 [(0, .ref (a 15)), (1, .int p0), (2, .int v2_1), (3, .int v3_0), (4, .int v4_1)] → p_X1_apartOneByOne_L1 F p0 v3_0 K1 fu1 v2_1 v4_1 = some r → G H locs 0 0 (F0 m 12 ls []) := by
          intro K1 HX1 fu1
          induction fu1 with
          | zero =>
            intro v2_1 v4_1 H locs ls hP hD hS hl h
            exact (zno h).elim
          | succ fu1 ih1 =>
            intro v2_1 v4_1 H locs ls hP hD hS hl h
            refine hG _ _ _ _ _ ?_
            unfold p_X1_apartOneByOne_L1 at h
            refine lv_iload hx hb dX1_apartOneByOne_12 (lv_at hl 4 rfl) ?_
            refine lv_iload_n hx hb dX1_apartOneByOne_14 rfl (lv_at hl 1 rfl) ?_
            refine lv_icmp_gt (tgt := 42) hx hb dX1_apartOneByOne_15 (by decide) (fun c15 => ?_) (fun c15 => ?_)
            · replace h := zif_t h c15
              exact hGW _ _ _ _ _ (HX1 v2_1 v4_1 _ _ ls hP hD hS (lv_sub hl [0, 1, 2, 3, 4] rfl) h)
            · replace h := zif_f h c15
              refine lv_iload_n hx hb dX1_apartOneByOne_18 rfl (lv_at hl 2 rfl) ?_
              refine lv_iload_n hx hb dX1_apartOneByOne_19 rfl (lv_at hl 3 rfl) ?_
              refine lv_iload hx hb dX1_apartOneByOne_20 (lv_at hl 4 rfl) ?_
              obtain ⟨r1, e2, h⟩ := zb1_some h
              refine zgoi (va_runS (As := [.int v3_0, .int v4_1]) (rest := [.int v2_1]) ⟨hx, hb, hml, hown, hts⟩ (c_X1_commonOf l D (zT cJ cI cO cB) F v3_0 v4_1 r1 e2 H.size) (va_cwS 2 hts gX1_apartOneByOne_X1_commonOf rfl rfl rfl hdS_X1_commonOf ⟨Nat.le_of_ble_eq_true rfl, Nat.le_of_ble_eq_true rfl⟩) (zpreS hK zP0 (zD0 (A := A)) [.int v3_0, .int v4_1]) rfl rfl hl.1 rfl (lv_room (Nat.le_of_ble_eq_true rfl)) dX1_apartOneByOne_22 ⟨Nat.le_of_ble_eq_true rfl, Nat.le_of_ble_eq_true rfl⟩) (zf0 hS hA) (zjE hP hD) hS (fun H locs hP hD hS => ?_)
              refine lv_iconst (v := (1 : Int32)) hx hb dX1_apartOneByOne_25 (by decide) ?_
              refine lv_icmp_ne (tgt := 33) hx hb dX1_apartOneByOne_26 (by decide) (fun c26 => ?_) (fun c26 => ?_)
              · replace h := zif_t h c26
                refine lv_iconst (v := (0 : Int32)) hx hb dX1_apartOneByOne_33 (by decide) ?_
                refine lv_iadd hx hb dX1_apartOneByOne_34 ?_
                refine lv_istore_n (lv' := [(2, .int (v2_1 + (0 : Int32))), (0, .ref (a 15)), (1, .int p0), (3, .int v3_0), (4, .int v4_1)]) hx hb dX1_apartOneByOne_35 rfl hl (by decide) rfl (fun ls hl => ?_)
                refine lv_iinc (v := (v4_1 + (1 : Int32))) (lv' := [(4, .int (v4_1 + (1 : Int32))), (2, .int (v2_1 + (0 : Int32))), (0, .ref (a 15)), (1, .int p0), (3, .int v3_0)]) hx hb dX1_apartOneByOne_36 hl (k := 4) rfl rfl (by decide) rfl (fun ls hl => ?_)
                refine lv_goto (tgt := 12) hx hb dX1_apartOneByOne_39 (by decide) ?_
                exact hGW _ _ _ _ _ (ih1 (v2_1 + (0 : Int32)) (v4_1 + (1 : Int32)) _ _ ls hP hD hS (lv_sub hl [2, 3, 1, 4, 0] rfl) h)
              · replace h := zif_fn h c26
                refine lv_iconst (v := (1 : Int32)) hx hb dX1_apartOneByOne_29 (by decide) ?_
                refine lv_goto (tgt := 34) hx hb dX1_apartOneByOne_30 (by decide) ?_
                refine lv_iadd hx hb dX1_apartOneByOne_34 ?_
                refine lv_istore_n (lv' := [(2, .int (v2_1 + (1 : Int32))), (0, .ref (a 15)), (1, .int p0), (3, .int v3_0), (4, .int v4_1)]) hx hb dX1_apartOneByOne_35 rfl hl (by decide) rfl (fun ls hl => ?_)
                refine lv_iinc (v := (v4_1 + (1 : Int32))) (lv' := [(4, .int (v4_1 + (1 : Int32))), (2, .int (v2_1 + (1 : Int32))), (0, .ref (a 15)), (1, .int p0), (3, .int v3_0)]) hx hb dX1_apartOneByOne_36 hl (k := 4) rfl rfl (by decide) rfl (fun ls hl => ?_)
                refine lv_goto (tgt := 12) hx hb dX1_apartOneByOne_39 (by decide) ?_
                exact hGW _ _ _ _ _ (ih1 (v2_1 + (1 : Int32)) (v4_1 + (1 : Int32)) _ _ ls hP hD hS (lv_sub hl [2, 3, 1, 4, 0] rfl) h)
        exact hGW _ _ _ _ _ (L1 _ X1 F v2_0 (1 : Int32) _ _ ls hP hD hS (lv_sub hl [1, 2, 3, 4, 0] rfl) h)
  exact hGW _ _ _ _ _ (L0 _ X0 F (0 : Int32) (1 : Int32) _ _ ls hP hD hS (lv_sub hl [2, 3, 1, 0] rfl) h)

noncomputable def p_X1_apartBySigns_L0 (F : Nat) (p0 : Int32) (k : Int32 → Int32 → (Nat → Int32) → (Nat → Int32) → Int32 → Option (Int32 × (Nat → Int32) × (Nat → Int32) × Int32)) : Nat → Int32 → Int32 → (Nat → Int32) → (Nat → Int32) → Int32 → Option (Int32 × (Nat → Int32) × (Nat → Int32) × Int32)
  | 0, _, _, _, _, _ => none
  | n + 1, v2_0, v3_0, prL0, tmL0, cnL0 => (if p0 < v3_0 then (k v2_0 v3_0 prL0 tmL0 cnL0) else (zg (v3_0 = 0) (zb4 (p_X1_signByPowers F prL0 tmL0 v3_0) (fun r1 pr_2 tm_3 cn_4 => (p_X1_apartBySigns_L0 F p0 k n (v2_0 + ((r1 * (p0 / v3_0)) * (p0 / v3_0))) (v3_0 + (1 : Int32)) pr_2 tm_3 cn_4)))))
noncomputable def p_X1_apartBySigns (F : Nat) (pr : Nat → Int32) (tm : Nat → Int32) (cn : Int32) (p0 : Int32) : Option (Int32 × (Nat → Int32) × (Nat → Int32) × Int32) := (p_X1_apartBySigns_L0 F p0 (fun v2_0 v3_0 prL0 tmL0 cnL0 => (some (v2_0, prL0, tmL0, cnL0))) F (0 : Int32) (1 : Int32) pr tm cn)
theorem hdV_X1_apartBySigns : yX1_apartBySigns.cls = RX1 ∧ yX1_apartBySigns.cls ≠ "java/lang/invoke/MethodHandle" ∧ yX1_apartBySigns.cls ≠ "java/lang/invoke/VarHandle" ∧ (parseMethodDescriptor yX1_apartBySigns.desc).map (fun d => d.parameters.length) = some 1 := by decide +kernel
set_option maxHeartbeats 4000000 in
set_option maxRecDepth 100000 in
theorem c_X1_apartBySigns (l : Launch) (D : va_G) (a : Nat → Nat) (cJ cI cO cB : ClassId) (R : Nat → Nat → Int64) (b : Bool) (pr : Nat → Int32) (tm : Nat → Int32) (cn : Int32) (sm : Nat → Int32) (ac : Int32) (re : Int32) (kn : Int32) (F : Nat) (p0 : Int32) (r : Int32) (pr' : Nat → Int32) (tm' : Nat → Int32) (cn' : Int32) (h : p_X1_apartBySigns F pr tm cn p0 = some (r, pr', tm', cn')) : zMi l yX1_apartBySigns wsX1_apartBySigns 2 47 0 0 D (zT cJ cI cO cB) [.ref (a 15), .int p0] (cW a cJ cI cO R b pr tm cn sm ac re kn) (cW a cJ cI cO R b pr' tm' cn' sm ac re kn) r := by
  intro sz
  delta zQi
  refine Met.ofW (cc := cX1_apartBySigns) (maxL := 5) (ret := (some .int)) (by decide) rfl ?_
  intro p e s m args below meth c s₁ B hml hv
  obtain ⟨rfl, hsz, hP, hK, hD0⟩ := hv
  have hx := B.exec
  have hb := B.bytes
  have hr := B.returns
  have hts := atoms_spec (ws := wsX1_apartBySigns) B.pre
  have hown : s.vm.findClass RX1 = some m.cls := findClass_of_methodNamed B.named
  have hlocks := B.notSynchronized
  subst hsz
  have hD := hD0.self (sz := s.heap.size)
  generalize hAe : va_A (cW a cJ cI cO R b pr tm cn sm ac re kn) s.heap.size = A at hD ⊢
  have hA : ∀ q : Nat, s.heap.size ≤ q → A q := fun q h => by rw [← hAe]; exact Or.inr h
  have hS : va_S A s.heap s.heap [] := va_S.rf
  have hl := lv_entry ([.ref (a 15), .int p0]) (n := 5) (Nat.le_of_ble_eq_true rfl)
  rw [lg_entry_eq]
  generalize (lg_sl ([.ref (a 15), .int p0]) ++ List.replicate (5 - (lg_sl ([.ref (a 15), .int p0])).length) Slot.unset).toArray = ls at hl ⊢
  replace hl : lv_has ls 5 [(0, .ref (a 15)), (1, .int p0)] := hl
  replace h : (p_X1_apartBySigns_L0 F p0 (fun v2_0 v3_0 prL0 tmL0 cnL0 => (some (v2_0, prL0, tmL0, cnL0))) F (0 : Int32) (1 : Int32) pr tm cn) = some (r, pr', tm', cn') := h
  refine zabs (fun G hG hGW => ?_)
  obtain ⟨H, hHe⟩ : ∃ H, H = s.heap := ⟨_, rfl⟩
  rw [← hHe] at hP
  replace hS : va_S A s.heap H [] := by rw [hHe]; exact hS
  refine zheap hHe ?_
  refine lv_iconst (v := (0 : Int32)) hx hb dX1_apartBySigns_0 (by decide) ?_
  refine lv_istore_n (lv' := [(2, .int (0 : Int32)), (0, .ref (a 15)), (1, .int p0)]) hx hb dX1_apartBySigns_1 rfl hl (by decide) rfl (fun ls hl => ?_)
  refine lv_iconst (v := (1 : Int32)) hx hb dX1_apartBySigns_2 (by decide) ?_
  refine lv_istore_n (lv' := [(3, .int (1 : Int32)), (2, .int (0 : Int32)), (0, .ref (a 15)), (1, .int p0)]) hx hb dX1_apartBySigns_3 rfl hl (by decide) rfl (fun ls hl => ?_)
  have X0 : ∀ (v2_0 : Int32) (v3_0 : Int32) (prL0 : Nat → Int32) (tmL0 : Nat → Int32) (cnL0 : Int32) (H : Heap) (locs : List Loc) (ls : Array Slot), va_P D vwCl (cW a cJ cI cO R b prL0 tmL0 cnL0 sm ac re kn) H → va_D A (cW a cJ cI cO R b prL0 tmL0 cnL0 sm ac re kn) → va_S A s.heap H locs → lv_has ls 5 [(0, .ref (a 15)), (1, .int p0), (2, .int v2_0), (3, .int v3_0)] → (some (v2_0, prL0, tmL0, cnL0)) = some (r, pr', tm', cn') → G H locs 0 0 (F0 m 34 ls []) := by
    intro v2_0 v3_0 prL0 tmL0 cnL0 H locs ls hP hD hS hl h
    refine hG _ _ _ _ _ ?_
    refine lv_iload_n hx hb dX1_apartBySigns_34 rfl (lv_at hl 2 rfl) ?_
    have g0 := Option.some.inj h
    obtain ⟨h1, g1⟩ := Prod.mk.inj g0
    obtain ⟨h2, g2⟩ := Prod.mk.inj g1
    obtain ⟨h3, g3⟩ := Prod.mk.inj g2
    subst h1
    subst h2
    subst h3
    subst g3
    exact W.iret (v := v2_0) hx hb hr (fun t ht hW => ⟨⟨v2_0, (), rfl, rfl, by rw [ht]; exact hP, va_K.moved hW.alike hK, hD⟩, hS.F ht⟩) hS.2.2 dX1_apartBySigns_35
  have L0 : ∀ (K0 : Int32 → Int32 → (Nat → Int32) → (Nat → Int32) → Int32 → Option (Int32 × (Nat → Int32) × (Nat → Int32) × Int32)) (HX0 : ∀ (v2_0 : Int32) (v3_0 : Int32) (prL0 : Nat → Int32) (tmL0 : Nat → Int32) (cnL0 : Int32) (H : Heap) (locs : List Loc) (ls : Array Slot), va_P D vwCl (cW a cJ cI cO R b prL0 tmL0 cnL0 sm ac re kn) H → va_D A (cW a cJ cI cO R b prL0 tmL0 cnL0 sm ac re kn) → va_S A s.heap H locs → lv_has ls 5 [(0, .ref (a 15)), (1, .int p0), (2, .int v2_0), (3, .int v3_0)] → K0 v2_0 v3_0 prL0 tmL0 cnL0 = some (r, pr', tm', cn') → G H locs 0 0 (F0 m 34 ls [])) (fu0 : Nat) (v2_0 : Int32) (v3_0 : Int32) (prL0 : Nat → Int32) (tmL0 : Nat → Int32) (cnL0 : Int32) (H : Heap) (locs : List Loc) (ls : Array Slot), va_P D vwCl (cW a cJ cI cO R b prL0 tmL0 cnL0 sm ac re kn) H → va_D A (cW a cJ cI cO R b prL0 tmL0 cnL0 sm ac re kn) → va_S A s.heap H locs → lv_has ls 5 [(0, .ref (a 15)), (1, .int p0), (2, .int v2_0), (3, .int v3_0)] → p_X1_apartBySigns_L0 F p0 K0 fu0 v2_0 v3_0 prL0 tmL0 cnL0 = some (r, pr', tm', cn') → G H locs 0 0 (F0 m 4 ls []) := by
    intro K0 HX0 fu0
    induction fu0 with
    | zero =>
      intro v2_0 v3_0 prL0 tmL0 cnL0 H locs ls hP hD hS hl h
      exact (zno h).elim
    | succ fu0 ih0 =>
      intro v2_0 v3_0 prL0 tmL0 cnL0 H locs ls hP hD hS hl h
      refine hG _ _ _ _ _ ?_
      unfold p_X1_apartBySigns_L0 at h
      refine lv_iload_n hx hb dX1_apartBySigns_4 rfl (lv_at hl 3 rfl) ?_
      refine lv_iload_n hx hb dX1_apartBySigns_5 rfl (lv_at hl 1 rfl) ?_
      refine lv_icmp_gt (tgt := 34) hx hb dX1_apartBySigns_6 (by decide) (fun c6 => ?_) (fun c6 => ?_)
      · replace h := zif_t h c6
        exact hGW _ _ _ _ _ (HX0 v2_0 v3_0 prL0 tmL0 cnL0 _ _ ls hP hD hS (lv_sub hl [0, 1, 2, 3] rfl) h)
      · replace h := zif_f h c6
        refine lv_iload_n hx hb dX1_apartBySigns_9 rfl (lv_at hl 1 rfl) ?_
        refine lv_iload_n hx hb dX1_apartBySigns_10 rfl (lv_at hl 3 rfl) ?_
        obtain ⟨z11, h⟩ := zg_some h
        refine lv_idiv hx hb dX1_apartBySigns_11 z11 ?_
        refine lv_istore (lv' := [(4, .int (p0 / v3_0)), (0, .ref (a 15)), (1, .int p0), (2, .int v2_0), (3, .int v3_0)]) hx hb dX1_apartBySigns_12 hl (by decide) rfl (fun ls hl => ?_)
        refine lv_iload_n hx hb dX1_apartBySigns_14 rfl (lv_at hl 3 rfl) ?_
        refine lv_aload_n hx hb dX1_apartBySigns_15 rfl (lv_at hl 1 rfl) ?_
        refine lv_iload_n hx hb dX1_apartBySigns_16 rfl (lv_at hl 4 rfl) ?_
        obtain ⟨r1, pr_2, tm_3, cn_4, e5, h⟩ := zb4_some h
        refine zgoi (va_runV (As := [.int v3_0]) (rest := [.int v2_0]) ⟨hx, hb, hml, hown, hts⟩ (c_X1_signByPowers l D a cJ cI cO cB R b prL0 tmL0 cnL0 sm ac re kn F v3_0 r1 pr_2 tm_3 cn_4 e5 H.size) (cwV 1 hts gX1_apartBySigns_X1_signByPowers rfl rfl rfl hdV_X1_signByPowers ⟨Nat.le_of_ble_eq_true rfl, Nat.le_of_ble_eq_true rfl⟩) (zpreV (q0 := 15) (ci := 3) (T := TX1) (N := 2) hK hP hD rfl rfl [.int v3_0]) rfl rfl hl.1 rfl (lv_room (Nat.le_of_ble_eq_true rfl)) dX1_apartBySigns_17 ⟨Nat.le_of_ble_eq_true rfl, Nat.le_of_ble_eq_true rfl⟩) (zfree hD hS hA) (zjW hD hS hA) hS (fun H locs hP hD hS => ?_)
        replace hP : va_P D vwCl (cW a cJ cI cO R b pr_2 tm_3 cn_4 sm ac re kn) H := hP
        replace hD : va_D A (cW a cJ cI cO R b pr_2 tm_3 cn_4 sm ac re kn) := hD
        refine lv_iload hx hb dX1_apartBySigns_20 (lv_at hl 0 rfl) ?_
        refine lv_imul hx hb dX1_apartBySigns_22 ?_
        refine lv_iload hx hb dX1_apartBySigns_23 (lv_at hl 0 rfl) ?_
        refine lv_imul hx hb dX1_apartBySigns_25 ?_
        refine lv_iadd hx hb dX1_apartBySigns_26 ?_
        refine lv_istore_n (lv' := [(2, .int (v2_0 + ((r1 * (p0 / v3_0)) * (p0 / v3_0)))), (4, .int (p0 / v3_0)), (0, .ref (a 15)), (1, .int p0), (3, .int v3_0)]) hx hb dX1_apartBySigns_27 rfl hl (by decide) rfl (fun ls hl => ?_)
        refine lv_iinc (v := (v3_0 + (1 : Int32))) (lv' := [(3, .int (v3_0 + (1 : Int32))), (2, .int (v2_0 + ((r1 * (p0 / v3_0)) * (p0 / v3_0)))), (4, .int (p0 / v3_0)), (0, .ref (a 15)), (1, .int p0)]) hx hb dX1_apartBySigns_28 hl (k := 4) rfl rfl (by decide) rfl (fun ls hl => ?_)
        refine lv_goto (tgt := 4) hx hb dX1_apartBySigns_31 (by decide) ?_
        exact hGW _ _ _ _ _ (ih0 (v2_0 + ((r1 * (p0 / v3_0)) * (p0 / v3_0))) (v3_0 + (1 : Int32)) pr_2 tm_3 cn_4 _ _ ls hP hD hS (lv_sub hl [3, 4, 1, 0] rfl) h)
  exact hGW _ _ _ _ _ (L0 _ X0 F (0 : Int32) (1 : Int32) pr tm cn _ _ ls hP hD hS (lv_sub hl [2, 3, 1, 0] rfl) h)

noncomputable def p_X1_apartByPhi_L0 (F : Nat) (p0 : Int32) (k : Int32 → Int32 → (Nat → Int32) → (Nat → Int32) → Int32 → Option (Int32 × (Nat → Int32) × (Nat → Int32) × Int32)) : Nat → Int32 → Int32 → (Nat → Int32) → (Nat → Int32) → Int32 → Option (Int32 × (Nat → Int32) × (Nat → Int32) × Int32)
  | 0, _, _, _, _, _ => none
  | n + 1, v2_0, v3_0, prL0, tmL0, cnL0 => (if p0 < v3_0 then (k v2_0 v3_0 prL0 tmL0 cnL0) else (zb4 (p_X1_phiByPowers F prL0 tmL0 v3_0) (fun r1 pr_2 tm_3 cn_4 => (p_X1_apartByPhi_L0 F p0 k n (v2_0 + r1) (v3_0 + (1 : Int32)) pr_2 tm_3 cn_4))))
noncomputable def p_X1_apartByPhi (F : Nat) (pr : Nat → Int32) (tm : Nat → Int32) (cn : Int32) (p0 : Int32) : Option (Int32 × (Nat → Int32) × (Nat → Int32) × Int32) := (p_X1_apartByPhi_L0 F p0 (fun v2_0 v3_0 prL0 tmL0 cnL0 => (some ((((2 : Int32) * v2_0) - (1 : Int32)), prL0, tmL0, cnL0))) F (0 : Int32) (1 : Int32) pr tm cn)
theorem hdV_X1_apartByPhi : yX1_apartByPhi.cls = RX1 ∧ yX1_apartByPhi.cls ≠ "java/lang/invoke/MethodHandle" ∧ yX1_apartByPhi.cls ≠ "java/lang/invoke/VarHandle" ∧ (parseMethodDescriptor yX1_apartByPhi.desc).map (fun d => d.parameters.length) = some 1 := by decide +kernel
set_option maxHeartbeats 4000000 in
set_option maxRecDepth 100000 in
theorem c_X1_apartByPhi (l : Launch) (D : va_G) (a : Nat → Nat) (cJ cI cO cB : ClassId) (R : Nat → Nat → Int64) (b : Bool) (pr : Nat → Int32) (tm : Nat → Int32) (cn : Int32) (sm : Nat → Int32) (ac : Int32) (re : Int32) (kn : Int32) (F : Nat) (p0 : Int32) (r : Int32) (pr' : Nat → Int32) (tm' : Nat → Int32) (cn' : Int32) (h : p_X1_apartByPhi F pr tm cn p0 = some (r, pr', tm', cn')) : zMi l yX1_apartByPhi wsX1_apartByPhi 2 49 0 0 D (zT cJ cI cO cB) [.ref (a 15), .int p0] (cW a cJ cI cO R b pr tm cn sm ac re kn) (cW a cJ cI cO R b pr' tm' cn' sm ac re kn) r := by
  intro sz
  delta zQi
  refine Met.ofW (cc := cX1_apartByPhi) (maxL := 4) (ret := (some .int)) (by decide) rfl ?_
  intro p e s m args below meth c s₁ B hml hv
  obtain ⟨rfl, hsz, hP, hK, hD0⟩ := hv
  have hx := B.exec
  have hb := B.bytes
  have hr := B.returns
  have hts := atoms_spec (ws := wsX1_apartByPhi) B.pre
  have hown : s.vm.findClass RX1 = some m.cls := findClass_of_methodNamed B.named
  have hlocks := B.notSynchronized
  subst hsz
  have hD := hD0.self (sz := s.heap.size)
  generalize hAe : va_A (cW a cJ cI cO R b pr tm cn sm ac re kn) s.heap.size = A at hD ⊢
  have hA : ∀ q : Nat, s.heap.size ≤ q → A q := fun q h => by rw [← hAe]; exact Or.inr h
  have hS : va_S A s.heap s.heap [] := va_S.rf
  have hl := lv_entry ([.ref (a 15), .int p0]) (n := 4) (Nat.le_of_ble_eq_true rfl)
  rw [lg_entry_eq]
  generalize (lg_sl ([.ref (a 15), .int p0]) ++ List.replicate (4 - (lg_sl ([.ref (a 15), .int p0])).length) Slot.unset).toArray = ls at hl ⊢
  replace hl : lv_has ls 4 [(0, .ref (a 15)), (1, .int p0)] := hl
  replace h : (p_X1_apartByPhi_L0 F p0 (fun v2_0 v3_0 prL0 tmL0 cnL0 => (some ((((2 : Int32) * v2_0) - (1 : Int32)), prL0, tmL0, cnL0))) F (0 : Int32) (1 : Int32) pr tm cn) = some (r, pr', tm', cn') := h
  refine zabs (fun G hG hGW => ?_)
  obtain ⟨H, hHe⟩ : ∃ H, H = s.heap := ⟨_, rfl⟩
  rw [← hHe] at hP
  replace hS : va_S A s.heap H [] := by rw [hHe]; exact hS
  refine zheap hHe ?_
  refine lv_iconst (v := (0 : Int32)) hx hb dX1_apartByPhi_0 (by decide) ?_
  refine lv_istore_n (lv' := [(2, .int (0 : Int32)), (0, .ref (a 15)), (1, .int p0)]) hx hb dX1_apartByPhi_1 rfl hl (by decide) rfl (fun ls hl => ?_)
  refine lv_iconst (v := (1 : Int32)) hx hb dX1_apartByPhi_2 (by decide) ?_
  refine lv_istore_n (lv' := [(3, .int (1 : Int32)), (2, .int (0 : Int32)), (0, .ref (a 15)), (1, .int p0)]) hx hb dX1_apartByPhi_3 rfl hl (by decide) rfl (fun ls hl => ?_)
  have X0 : ∀ (v2_0 : Int32) (v3_0 : Int32) (prL0 : Nat → Int32) (tmL0 : Nat → Int32) (cnL0 : Int32) (H : Heap) (locs : List Loc) (ls : Array Slot), va_P D vwCl (cW a cJ cI cO R b prL0 tmL0 cnL0 sm ac re kn) H → va_D A (cW a cJ cI cO R b prL0 tmL0 cnL0 sm ac re kn) → va_S A s.heap H locs → lv_has ls 4 [(0, .ref (a 15)), (1, .int p0), (2, .int v2_0), (3, .int v3_0)] → (some ((((2 : Int32) * v2_0) - (1 : Int32)), prL0, tmL0, cnL0)) = some (r, pr', tm', cn') → G H locs 0 0 (F0 m 23 ls []) := by
    intro v2_0 v3_0 prL0 tmL0 cnL0 H locs ls hP hD hS hl h
    refine hG _ _ _ _ _ ?_
    refine lv_iconst (v := (2 : Int32)) hx hb dX1_apartByPhi_23 (by decide) ?_
    refine lv_iload_n hx hb dX1_apartByPhi_24 rfl (lv_at hl 2 rfl) ?_
    refine lv_imul hx hb dX1_apartByPhi_25 ?_
    refine lv_iconst (v := (1 : Int32)) hx hb dX1_apartByPhi_26 (by decide) ?_
    refine lv_isub hx hb dX1_apartByPhi_27 ?_
    have g0 := Option.some.inj h
    obtain ⟨h1, g1⟩ := Prod.mk.inj g0
    obtain ⟨h2, g2⟩ := Prod.mk.inj g1
    obtain ⟨h3, g3⟩ := Prod.mk.inj g2
    subst h1
    subst h2
    subst h3
    subst g3
    exact W.iret (v := (((2 : Int32) * v2_0) - (1 : Int32))) hx hb hr (fun t ht hW => ⟨⟨(((2 : Int32) * v2_0) - (1 : Int32)), (), rfl, rfl, by rw [ht]; exact hP, va_K.moved hW.alike hK, hD⟩, hS.F ht⟩) hS.2.2 dX1_apartByPhi_28
  have L0 : ∀ (K0 : Int32 → Int32 → (Nat → Int32) → (Nat → Int32) → Int32 → Option (Int32 × (Nat → Int32) × (Nat → Int32) × Int32)) (HX0 : ∀ (v2_0 : Int32) (v3_0 : Int32) (prL0 : Nat → Int32) (tmL0 : Nat → Int32) (cnL0 : Int32) (H : Heap) (locs : List Loc) (ls : Array Slot), va_P D vwCl (cW a cJ cI cO R b prL0 tmL0 cnL0 sm ac re kn) H → va_D A (cW a cJ cI cO R b prL0 tmL0 cnL0 sm ac re kn) → va_S A s.heap H locs → lv_has ls 4 [(0, .ref (a 15)), (1, .int p0), (2, .int v2_0), (3, .int v3_0)] → K0 v2_0 v3_0 prL0 tmL0 cnL0 = some (r, pr', tm', cn') → G H locs 0 0 (F0 m 23 ls [])) (fu0 : Nat) (v2_0 : Int32) (v3_0 : Int32) (prL0 : Nat → Int32) (tmL0 : Nat → Int32) (cnL0 : Int32) (H : Heap) (locs : List Loc) (ls : Array Slot), va_P D vwCl (cW a cJ cI cO R b prL0 tmL0 cnL0 sm ac re kn) H → va_D A (cW a cJ cI cO R b prL0 tmL0 cnL0 sm ac re kn) → va_S A s.heap H locs → lv_has ls 4 [(0, .ref (a 15)), (1, .int p0), (2, .int v2_0), (3, .int v3_0)] → p_X1_apartByPhi_L0 F p0 K0 fu0 v2_0 v3_0 prL0 tmL0 cnL0 = some (r, pr', tm', cn') → G H locs 0 0 (F0 m 4 ls []) := by
    intro K0 HX0 fu0
    induction fu0 with
    | zero =>
      intro v2_0 v3_0 prL0 tmL0 cnL0 H locs ls hP hD hS hl h
      exact (zno h).elim
    | succ fu0 ih0 =>
      intro v2_0 v3_0 prL0 tmL0 cnL0 H locs ls hP hD hS hl h
      refine hG _ _ _ _ _ ?_
      unfold p_X1_apartByPhi_L0 at h
      refine lv_iload_n hx hb dX1_apartByPhi_4 rfl (lv_at hl 3 rfl) ?_
      refine lv_iload_n hx hb dX1_apartByPhi_5 rfl (lv_at hl 1 rfl) ?_
      refine lv_icmp_gt (tgt := 23) hx hb dX1_apartByPhi_6 (by decide) (fun c6 => ?_) (fun c6 => ?_)
      · replace h := zif_t h c6
        exact hGW _ _ _ _ _ (HX0 v2_0 v3_0 prL0 tmL0 cnL0 _ _ ls hP hD hS (lv_sub hl [0, 1, 2, 3] rfl) h)
      · replace h := zif_f h c6
        refine lv_iload_n hx hb dX1_apartByPhi_9 rfl (lv_at hl 2 rfl) ?_
        refine lv_aload_n hx hb dX1_apartByPhi_10 rfl (lv_at hl 0 rfl) ?_
        refine lv_iload_n hx hb dX1_apartByPhi_11 rfl (lv_at hl 3 rfl) ?_
        obtain ⟨r1, pr_2, tm_3, cn_4, e5, h⟩ := zb4_some h
        refine zgoi (va_runV (As := [.int v3_0]) (rest := [.int v2_0]) ⟨hx, hb, hml, hown, hts⟩ (c_X1_phiByPowers l D a cJ cI cO cB R b prL0 tmL0 cnL0 sm ac re kn F v3_0 r1 pr_2 tm_3 cn_4 e5 H.size) (cwV 1 hts gX1_apartByPhi_X1_phiByPowers rfl rfl rfl hdV_X1_phiByPowers ⟨Nat.le_of_ble_eq_true rfl, Nat.le_of_ble_eq_true rfl⟩) (zpreV (q0 := 15) (ci := 3) (T := TX1) (N := 2) hK hP hD rfl rfl [.int v3_0]) rfl rfl hl.1 rfl (lv_room (Nat.le_of_ble_eq_true rfl)) dX1_apartByPhi_12 ⟨Nat.le_of_ble_eq_true rfl, Nat.le_of_ble_eq_true rfl⟩) (zfree hD hS hA) (zjW hD hS hA) hS (fun H locs hP hD hS => ?_)
        replace hP : va_P D vwCl (cW a cJ cI cO R b pr_2 tm_3 cn_4 sm ac re kn) H := hP
        replace hD : va_D A (cW a cJ cI cO R b pr_2 tm_3 cn_4 sm ac re kn) := hD
        refine lv_iadd hx hb dX1_apartByPhi_15 ?_
        refine lv_istore_n (lv' := [(2, .int (v2_0 + r1)), (0, .ref (a 15)), (1, .int p0), (3, .int v3_0)]) hx hb dX1_apartByPhi_16 rfl hl (by decide) rfl (fun ls hl => ?_)
        refine lv_iinc (v := (v3_0 + (1 : Int32))) (lv' := [(3, .int (v3_0 + (1 : Int32))), (2, .int (v2_0 + r1)), (0, .ref (a 15)), (1, .int p0)]) hx hb dX1_apartByPhi_17 hl (k := 3) rfl rfl (by decide) rfl (fun ls hl => ?_)
        refine lv_goto (tgt := 4) hx hb dX1_apartByPhi_20 (by decide) ?_
        exact hGW _ _ _ _ _ (ih0 (v2_0 + r1) (v3_0 + (1 : Int32)) pr_2 tm_3 cn_4 _ _ ls hP hD hS (lv_sub hl [2, 3, 1, 0] rfl) h)
  exact hGW _ _ _ _ _ (L0 _ X0 F (0 : Int32) (1 : Int32) pr tm cn _ _ ls hP hD hS (lv_sub hl [2, 3, 1, 0] rfl) h)

noncomputable def p_X1_leastOf_L0 (F : Nat) (p0 : Int32) (p1 : Int32) (k : Int32 → Option Int32) : Nat → Int32 → Option Int32
  | 0, _ => none
  | n + 1, v2_0 => (if p1 < v2_0 then (k v2_0) else (zg (p1 = 0) (if ¬ (zr (p0 * v2_0) p1) = 0 then (p_X1_leastOf_L0 F p0 p1 k n (v2_0 + (1 : Int32))) else (some (p0 * v2_0)))))
noncomputable def p_X1_leastOf (F : Nat) (p0 : Int32) (p1 : Int32) : Option Int32 := (p_X1_leastOf_L0 F p0 p1 (fun v2_0 => (some (p0 * p1))) F (1 : Int32))
theorem hdS_X1_leastOf : yX1_leastOf.cls ≠ "java/lang/invoke/MethodHandle" ∧ yX1_leastOf.cls ≠ "java/lang/invoke/VarHandle" ∧ (parseMethodDescriptor yX1_leastOf.desc).map (fun d => d.parameters.length) = some 2 := by decide +kernel
set_option maxHeartbeats 4000000 in
set_option maxRecDepth 100000 in
theorem c_X1_leastOf (l : Launch) (D : va_G) (tys : List (ClassId × FieldType)) (F : Nat) (p0 : Int32) (p1 : Int32) (r : Int32) (h : p_X1_leastOf F p0 p1 = some r) : zMi l yX1_leastOf wsX1_leastOf 0 0 0 0 D tys [.int p0, .int p1] ([] : va_W) ([] : va_W) r := by
  intro sz
  delta zQi
  refine Met.ofW (cc := cX1_leastOf) (maxL := 3) (ret := (some .int)) (by decide) rfl ?_
  intro p e s m args below meth c s₁ B hml hv
  obtain ⟨rfl, hsz, hP, hK, hD0⟩ := hv
  have hx := B.exec
  have hb := B.bytes
  have hr := B.returns
  have hts := atoms_spec (ws := wsX1_leastOf) B.pre
  have hown : s.vm.findClass RX1 = some m.cls := findClass_of_methodNamed B.named
  have hlocks := B.notSynchronized
  subst hsz
  have hD := hD0.self (sz := s.heap.size)
  generalize hAe : va_A ([] : va_W) s.heap.size = A at hD ⊢
  have hA : ∀ q : Nat, s.heap.size ≤ q → A q := fun q h => by rw [← hAe]; exact Or.inr h
  have hS : va_S A s.heap s.heap [] := va_S.rf
  have hl := lv_entry ([.int p0, .int p1]) (n := 3) (Nat.le_of_ble_eq_true rfl)
  rw [lg_entry_eq]
  generalize (lg_sl ([.int p0, .int p1]) ++ List.replicate (3 - (lg_sl ([.int p0, .int p1])).length) Slot.unset).toArray = ls at hl ⊢
  replace hl : lv_has ls 3 [(0, .int p0), (1, .int p1)] := hl
  replace h : (p_X1_leastOf_L0 F p0 p1 (fun v2_0 => (some (p0 * p1))) F (1 : Int32)) = some r := h
  refine zabs (fun G hG hGW => ?_)
  obtain ⟨H, hHe⟩ : ∃ H, H = s.heap := ⟨_, rfl⟩
  rw [← hHe] at hP
  replace hS : va_S A s.heap H [] := by rw [hHe]; exact hS
  refine zheap hHe ?_
  refine lv_iconst (v := (1 : Int32)) hx hb dX1_leastOf_0 (by decide) ?_
  refine lv_istore_n (lv' := [(2, .int (1 : Int32)), (0, .int p0), (1, .int p1)]) hx hb dX1_leastOf_1 rfl hl (by decide) rfl (fun ls hl => ?_)
  have X0 : ∀ (v2_0 : Int32) (H : Heap) (locs : List Loc) (ls : Array Slot), va_P D vwCl ([] : va_W) H → va_D A ([] : va_W) → va_S A s.heap H locs → lv_has ls 3 [(0, .int p0), (1, .int p1), (2, .int v2_0)] → (some (p0 * p1)) = some r → G H locs 0 0 (F0 m 25 ls []) := by
    intro v2_0 H locs ls hP hD hS hl h
    refine hG _ _ _ _ _ ?_
    refine lv_iload_n hx hb dX1_leastOf_25 rfl (lv_at hl 0 rfl) ?_
    refine lv_iload_n hx hb dX1_leastOf_26 rfl (lv_at hl 1 rfl) ?_
    refine lv_imul hx hb dX1_leastOf_27 ?_
    have h1 := Option.some.inj h
    subst h1
    exact W.iret (v := (p0 * p1)) hx hb hr (fun t ht hW => ⟨⟨(p0 * p1), (), rfl, rfl, by rw [ht]; exact hP, va_K.moved hW.alike hK, hD⟩, hS.F ht⟩) hS.2.2 dX1_leastOf_28
  have L0 : ∀ (K0 : Int32 → Option Int32) (HX0 : ∀ (v2_0 : Int32) (H : Heap) (locs : List Loc) (ls : Array Slot), va_P D vwCl ([] : va_W) H → va_D A ([] : va_W) → va_S A s.heap H locs → lv_has ls 3 [(0, .int p0), (1, .int p1), (2, .int v2_0)] → K0 v2_0 = some r → G H locs 0 0 (F0 m 25 ls [])) (fu0 : Nat) (v2_0 : Int32) (H : Heap) (locs : List Loc) (ls : Array Slot), va_P D vwCl ([] : va_W) H → va_D A ([] : va_W) → va_S A s.heap H locs → lv_has ls 3 [(0, .int p0), (1, .int p1), (2, .int v2_0)] → p_X1_leastOf_L0 F p0 p1 K0 fu0 v2_0 = some r → G H locs 0 0 (F0 m 2 ls []) := by
    intro K0 HX0 fu0
    induction fu0 with
    | zero =>
      intro v2_0 H locs ls hP hD hS hl h
      exact (zno h).elim
    | succ fu0 ih0 =>
      intro v2_0 H locs ls hP hD hS hl h
      refine hG _ _ _ _ _ ?_
      unfold p_X1_leastOf_L0 at h
      refine lv_iload_n hx hb dX1_leastOf_2 rfl (lv_at hl 2 rfl) ?_
      refine lv_iload_n hx hb dX1_leastOf_3 rfl (lv_at hl 1 rfl) ?_
      refine lv_icmp_gt (tgt := 25) hx hb dX1_leastOf_4 (by decide) (fun c4 => ?_) (fun c4 => ?_)
      · replace h := zif_t h c4
        exact hGW _ _ _ _ _ (HX0 v2_0 _ _ ls hP hD hS (lv_sub hl [0, 1, 2] rfl) h)
      · replace h := zif_f h c4
        refine lv_iload_n hx hb dX1_leastOf_7 rfl (lv_at hl 0 rfl) ?_
        refine lv_iload_n hx hb dX1_leastOf_8 rfl (lv_at hl 2 rfl) ?_
        refine lv_imul hx hb dX1_leastOf_9 ?_
        refine lv_iload_n hx hb dX1_leastOf_10 rfl (lv_at hl 1 rfl) ?_
        obtain ⟨z11, h⟩ := zg_some h
        refine lv_irem hx hb dX1_leastOf_11 z11 ?_
        refine lv_if_ne (tgt := 19) hx hb dX1_leastOf_12 (by decide) (fun c12 => ?_) (fun c12 => ?_)
        · replace h := zif_t h c12
          refine lv_iinc (v := (v2_0 + (1 : Int32))) (lv' := [(2, .int (v2_0 + (1 : Int32))), (0, .int p0), (1, .int p1)]) hx hb dX1_leastOf_19 hl (k := 2) rfl rfl (by decide) rfl (fun ls hl => ?_)
          refine lv_goto (tgt := 2) hx hb dX1_leastOf_22 (by decide) ?_
          exact hGW _ _ _ _ _ (ih0 (v2_0 + (1 : Int32)) _ _ ls hP hD hS (lv_sub hl [1, 2, 0] rfl) h)
        · replace h := zif_fn h c12
          refine lv_iload_n hx hb dX1_leastOf_15 rfl (lv_at hl 0 rfl) ?_
          refine lv_iload_n hx hb dX1_leastOf_16 rfl (lv_at hl 2 rfl) ?_
          refine lv_imul hx hb dX1_leastOf_17 ?_
          have h1 := Option.some.inj h
          subst h1
          exact W.iret (v := (p0 * v2_0)) hx hb hr (fun t ht hW => ⟨⟨(p0 * v2_0), (), rfl, rfl, by rw [ht]; exact hP, va_K.moved hW.alike hK, hD⟩, hS.F ht⟩) hS.2.2 dX1_leastOf_18
  exact hGW _ _ _ _ _ (L0 _ X0 F (1 : Int32) _ _ ls hP hD hS (lv_sub hl [1, 2, 0] rfl) h)
