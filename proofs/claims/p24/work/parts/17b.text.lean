noncomputable def p_X1_textOfPowers (F : Nat) (pr : Nat → Int32) (tm : Nat → Int32) (p0 : Int32) : Option ((Nat → Int32) × (Nat → Int32) × Int32) := (zb3 (p_X2_lay F pr tm p0) (fun pr_1 tm_2 cn_3 => (zb1 (p_X2_count cn_3) (fun r7 => (if r7 ≤ (0 : Int32) then (zb2 (p_J7_copyOfRange_39247 16 (fun _ => 0) (0 : Int32) 0) (fun r11 r12 => (some (pr_1, tm_2, cn_3)))) else (zb1 (p_X2_primeAt pr_1 (0 : Int32)) (fun r14 => (zb3 (p_J4_append_bf812 F 16 (fun _ => 0) 0 r14) (fun bc_16 bf_17 bn_18 => (zb3 (p_J4_append_cf468 bc_16 bf_17 bn_18 (94 : Int32)) (fun bc_21 bf_22 bn_23 => (zb1 (p_X2_timesAt tm_2 (0 : Int32)) (fun r26 => (zb3 (p_J4_append_bf812 F bc_21 bf_22 bn_23 r26) (fun bc_28 bf_29 bn_30 => (zb1 (p_X2_count cn_3) (fun r33 => (if r33 ≤ (1 : Int32) then (zb2 (p_J7_copyOfRange_39247 bc_28 bf_29 (0 : Int32) bn_30) (fun r37 r38 => (some (pr_1, tm_2, cn_3)))) else (zb3 (p_J4_append_cf468 bc_28 bf_29 bn_30 (32 : Int32)) (fun bc_40 bf_41 bn_42 => (zb1 (p_X2_primeAt pr_1 (1 : Int32)) (fun r45 => (zb3 (p_J4_append_bf812 F bc_40 bf_41 bn_42 r45) (fun bc_47 bf_48 bn_49 => (zb3 (p_J4_append_cf468 bc_47 bf_48 bn_49 (94 : Int32)) (fun bc_52 bf_53 bn_54 => (zb1 (p_X2_timesAt tm_2 (1 : Int32)) (fun r57 => (zb3 (p_J4_append_bf812 F bc_52 bf_53 bn_54 r57) (fun bc_59 bf_60 bn_61 => (zb1 (p_X2_count cn_3) (fun r64 => (if r64 ≤ (2 : Int32) then (zb2 (p_J7_copyOfRange_39247 bc_59 bf_60 (0 : Int32) bn_61) (fun r68 r69 => (some (pr_1, tm_2, cn_3)))) else (zb3 (p_J4_append_cf468 bc_59 bf_60 bn_61 (32 : Int32)) (fun bc_71 bf_72 bn_73 => (zb1 (p_X2_primeAt pr_1 (2 : Int32)) (fun r76 => (zb3 (p_J4_append_bf812 F bc_71 bf_72 bn_73 r76) (fun bc_78 bf_79 bn_80 => (zb3 (p_J4_append_cf468 bc_78 bf_79 bn_80 (94 : Int32)) (fun bc_83 bf_84 bn_85 => (zb1 (p_X2_timesAt tm_2 (2 : Int32)) (fun r88 => (zb3 (p_J4_append_bf812 F bc_83 bf_84 bn_85 r88) (fun bc_90 bf_91 bn_92 => (zb1 (p_X2_count cn_3) (fun r95 => (if r95 ≤ (3 : Int32) then (zb2 (p_J7_copyOfRange_39247 bc_90 bf_91 (0 : Int32) bn_92) (fun r99 r100 => (some (pr_1, tm_2, cn_3)))) else (zb3 (p_J4_append_cf468 bc_90 bf_91 bn_92 (32 : Int32)) (fun bc_102 bf_103 bn_104 => (zb1 (p_X2_primeAt pr_1 (3 : Int32)) (fun r107 => (zb3 (p_J4_append_bf812 F bc_102 bf_103 bn_104 r107) (fun bc_109 bf_110 bn_111 => (zb3 (p_J4_append_cf468 bc_109 bf_110 bn_111 (94 : Int32)) (fun bc_114 bf_115 bn_116 => (zb1 (p_X2_timesAt tm_2 (3 : Int32)) (fun r119 => (zb3 (p_J4_append_bf812 F bc_114 bf_115 bn_116 r119) (fun bc_121 bf_122 bn_123 => (zb1 (p_X2_count cn_3) (fun r126 => (if r126 ≤ (4 : Int32) then (zb2 (p_J7_copyOfRange_39247 bc_121 bf_122 (0 : Int32) bn_123) (fun r130 r131 => (some (pr_1, tm_2, cn_3)))) else none)))))))))))))))))))))))))))))))))))))))))))))))))))))))))))))))
theorem hdV_X1_textOfPowers : yX1_textOfPowers.cls = RX1 ∧ yX1_textOfPowers.cls ≠ "java/lang/invoke/MethodHandle" ∧ yX1_textOfPowers.cls ≠ "java/lang/invoke/VarHandle" ∧ (parseMethodDescriptor yX1_textOfPowers.desc).map (fun d => d.parameters.length) = some 1 := by decide +kernel
set_option maxHeartbeats 4000000 in
set_option maxRecDepth 100000 in
theorem c_X1_textOfPowers (l : Launch) (D : va_G) (a : Nat → Nat) (cJ cI cO cB : ClassId) (R : Nat → Nat → Int64) (b : Bool) (pr : Nat → Int32) (tm : Nat → Int32) (cn : Int32) (sm : Nat → Int32) (ac : Int32) (re : Int32) (kn : Int32) (F : Nat) (p0 : Int32) (pr' : Nat → Int32) (tm' : Nat → Int32) (cn' : Int32) (h : p_X1_textOfPowers F pr tm p0 = some (pr', tm', cn')) : zGs l yX1_textOfPowers wsX1_textOfPowers 6 171 19 2424 (zPx D (zT cJ cI cO cB) (cW a cJ cI cO R b pr tm cn sm ac re kn)) [.ref (a 15), .int p0] D (zT cJ cI cO cB) (cW a cJ cI cO R b pr tm cn sm ac re kn) (cW a cJ cI cO R b pr' tm' cn' sm ac re kn) := by
  intro sz
  delta zQs
  refine Met.ofW (cc := cX1_textOfPowers) (maxL := 4) (ret := (some (.object "java/lang/String"))) (by decide) rfl ?_
  intro p e s m args below meth c s₁ B hml hv
  obtain ⟨rfl, ⟨hsz, hP, hK, hD0⟩, hE⟩ := hv
  have hx := B.exec
  have hb := B.bytes
  have hr := B.returns
  have hts := atoms_spec (ws := wsX1_textOfPowers) B.pre
  have hown : s.vm.findClass RX1 = some m.cls := findClass_of_methodNamed B.named
  have hlocks := B.notSynchronized
  subst hsz
  have hD := hD0.self (sz := s.heap.size)
  generalize hAe : va_A (cW a cJ cI cO R b pr tm cn sm ac re kn) s.heap.size = A at hD hE ⊢
  have hA : ∀ q : Nat, s.heap.size ≤ q → A q := fun q h => by rw [← hAe]; exact Or.inr h
  have hS : va_S A s.heap s.heap [] := va_S.rf
  have hl := lv_entry ([.ref (a 15), .int p0]) (n := 4) (Nat.le_of_ble_eq_true rfl)
  rw [lg_entry_eq]
  generalize (lg_sl ([.ref (a 15), .int p0]) ++ List.replicate (4 - (lg_sl ([.ref (a 15), .int p0])).length) Slot.unset).toArray = ls at hl ⊢
  replace hl : lv_has ls 4 [(0, .ref (a 15)), (1, .int p0)] := hl
  have kc_62 := hts (.classLink RX1 62 RJ4) (zmem 2 rfl)
  have kin_J4 := hts (.instantiable RJ4 4) (List.mem_cons_of_mem _ (List.mem_append_right _ (List.mem_cons_of_mem _ (List.mem_append_right _ (List.mem_cons_of_mem _ (List.mem_append_right _ (List.mem_cons_of_mem _ (List.mem_append_left _ (List.mem_append_left _ (List.mem_append_right _ (List.mem_cons_of_mem _ (List.mem_append_right _ (List.mem_cons_of_mem _ (List.mem_append_right _ (zmem 2 rfl)))))))))))))))
  have kii_J4 := hts (.initialized RJ4) (zmem 3 rfl)
  have kwJ4 : ∀ w ∈ u_ws RJ4 TJ4 4, w ∈ wsX1_textOfPowers := fun w h => List.mem_cons_of_mem _ (List.mem_append_left _ (List.mem_append_left _ (List.mem_append_left _ (List.mem_append_left _ (List.mem_append_left _ (List.mem_append_left _ (List.mem_append_right _ (List.mem_cons_of_mem _ (List.mem_append_right _ (List.mem_cons_of_mem _ (List.mem_append_left _ (List.mem_append_right _ h))))))))))))
  have km_64 := hts (.methodLink RX1 64 yJ4_init_da8c8) (zmem 8 rfl)
  have kim_J4i := hts (.instanceMethod yJ4_init_da8c8) (zmem 9 rfl)
  have kwX1 : ∀ w ∈ u_ws RX1 TX1 2, w ∈ wsX1_textOfPowers := fun w h => List.mem_cons_of_mem _ (List.mem_append_left _ (List.mem_append_left _ (List.mem_append_left _ (List.mem_append_left _ (List.mem_append_left _ (List.mem_append_left _ (List.mem_append_left _ (List.mem_append_left _ (List.mem_append_right _ h)))))))))
  have kf_12 := hts (.fieldLink RX1 12 "Divisorwork$Numbers" "powers" "LDivisorwork$Powers;") (zmem 1 rfl)
  replace h : (zb3 (p_X2_lay F pr tm p0) (fun pr_1 tm_2 cn_3 => (zb1 (p_X2_count cn_3) (fun r7 => (if r7 ≤ (0 : Int32) then (zb2 (p_J7_copyOfRange_39247 16 (fun _ => 0) (0 : Int32) 0) (fun r11 r12 => (some (pr_1, tm_2, cn_3)))) else (zb1 (p_X2_primeAt pr_1 (0 : Int32)) (fun r14 => (zb3 (p_J4_append_bf812 F 16 (fun _ => 0) 0 r14) (fun bc_16 bf_17 bn_18 => (zb3 (p_J4_append_cf468 bc_16 bf_17 bn_18 (94 : Int32)) (fun bc_21 bf_22 bn_23 => (zb1 (p_X2_timesAt tm_2 (0 : Int32)) (fun r26 => (zb3 (p_J4_append_bf812 F bc_21 bf_22 bn_23 r26) (fun bc_28 bf_29 bn_30 => (zb1 (p_X2_count cn_3) (fun r33 => (if r33 ≤ (1 : Int32) then (zb2 (p_J7_copyOfRange_39247 bc_28 bf_29 (0 : Int32) bn_30) (fun r37 r38 => (some (pr_1, tm_2, cn_3)))) else (zb3 (p_J4_append_cf468 bc_28 bf_29 bn_30 (32 : Int32)) (fun bc_40 bf_41 bn_42 => (zb1 (p_X2_primeAt pr_1 (1 : Int32)) (fun r45 => (zb3 (p_J4_append_bf812 F bc_40 bf_41 bn_42 r45) (fun bc_47 bf_48 bn_49 => (zb3 (p_J4_append_cf468 bc_47 bf_48 bn_49 (94 : Int32)) (fun bc_52 bf_53 bn_54 => (zb1 (p_X2_timesAt tm_2 (1 : Int32)) (fun r57 => (zb3 (p_J4_append_bf812 F bc_52 bf_53 bn_54 r57) (fun bc_59 bf_60 bn_61 => (zb1 (p_X2_count cn_3) (fun r64 => (if r64 ≤ (2 : Int32) then (zb2 (p_J7_copyOfRange_39247 bc_59 bf_60 (0 : Int32) bn_61) (fun r68 r69 => (some (pr_1, tm_2, cn_3)))) else (zb3 (p_J4_append_cf468 bc_59 bf_60 bn_61 (32 : Int32)) (fun bc_71 bf_72 bn_73 => (zb1 (p_X2_primeAt pr_1 (2 : Int32)) (fun r76 => (zb3 (p_J4_append_bf812 F bc_71 bf_72 bn_73 r76) (fun bc_78 bf_79 bn_80 => (zb3 (p_J4_append_cf468 bc_78 bf_79 bn_80 (94 : Int32)) (fun bc_83 bf_84 bn_85 => (zb1 (p_X2_timesAt tm_2 (2 : Int32)) (fun r88 => (zb3 (p_J4_append_bf812 F bc_83 bf_84 bn_85 r88) (fun bc_90 bf_91 bn_92 => (zb1 (p_X2_count cn_3) (fun r95 => (if r95 ≤ (3 : Int32) then (zb2 (p_J7_copyOfRange_39247 bc_90 bf_91 (0 : Int32) bn_92) (fun r99 r100 => (some (pr_1, tm_2, cn_3)))) else (zb3 (p_J4_append_cf468 bc_90 bf_91 bn_92 (32 : Int32)) (fun bc_102 bf_103 bn_104 => (zb1 (p_X2_primeAt pr_1 (3 : Int32)) (fun r107 => (zb3 (p_J4_append_bf812 F bc_102 bf_103 bn_104 r107) (fun bc_109 bf_110 bn_111 => (zb3 (p_J4_append_cf468 bc_109 bf_110 bn_111 (94 : Int32)) (fun bc_114 bf_115 bn_116 => (zb1 (p_X2_timesAt tm_2 (3 : Int32)) (fun r119 => (zb3 (p_J4_append_bf812 F bc_114 bf_115 bn_116 r119) (fun bc_121 bf_122 bn_123 => (zb1 (p_X2_count cn_3) (fun r126 => (if r126 ≤ (4 : Int32) then (zb2 (p_J7_copyOfRange_39247 bc_121 bf_122 (0 : Int32) bn_123) (fun r130 r131 => (some (pr_1, tm_2, cn_3)))) else none))))))))))))))))))))))))))))))))))))))))))))))))))))))))))))))) = some (pr', tm', cn') := h
  obtain ⟨H, hHe⟩ : ∃ H, H = s.heap := ⟨_, rfl⟩
  rw [← hHe] at hP
  replace hS : va_S A s.heap H [] := by rw [hHe]; exact hS
  refine zheap hHe ?_
  refine lv_aload_n hx hb dX1_textOfPowers_0 rfl (lv_at hl 0 rfl) ?_
  refine va_get (D := D) (ci := 3) (v := .ref (a 17)) (C := RX1) (T := TX1) (N := 2) hx hb hts kwX1 hown hK hP 15 rfl rfl 0 (by decide) kf_12 (fun _ h9 => h9) rfl dX1_textOfPowers_1 ?_
  refine lv_iload_n hx hb dX1_textOfPowers_4 rfl (lv_at hl 1 rfl) ?_
  obtain ⟨pr_1, tm_2, cn_3, e4, h⟩ := zb3_some h
  refine zgov (va_runV (As := [.int p0]) (rest := []) ⟨hx, hb, hml, hown, hts⟩ (c_X2_lay l D a cJ cI cO cB R b pr tm cn sm ac re kn F p0 pr_1 tm_2 cn_3 e4 H.size) (cwV 1 hts gX1_textOfPowers_X2_lay rfl rfl rfl hdV_X2_lay ⟨Nat.le_of_ble_eq_true rfl, Nat.le_of_ble_eq_true rfl⟩) (zpreV (q0 := 17) (ci := 4) (T := TX2) (N := 3) hK hP hD rfl rfl [.int p0]) rfl rfl hl.1 rfl (lv_room (Nat.le_of_ble_eq_true rfl)) dX1_textOfPowers_5 ⟨Nat.le_of_ble_eq_true rfl, Nat.le_of_ble_eq_true rfl⟩) (zfree hD hS hA) (zjW hD hS hA) hS (fun H locs hP hD hS => ?_)
  replace hP : va_P D vwCl (cW a cJ cI cO R b pr_1 tm_2 cn_3 sm ac re kn) H := hP
  replace hD : va_D A (cW a cJ cI cO R b pr_1 tm_2 cn_3 sm ac re kn) := hD
  refine va_new (ci := 1) (fs := [.null, .int 0, .int 0, .int 0]) (C := RJ4) (T := TJ4) (N := 4) hx hb hts kwJ4 tyJ4 tyJ4_ok hown kc_62 kin_J4 kii_J4 hK hP hD hS hA rfl (fun j hj => by rcases (show j = 0 ∨ j = 1 ∨ j = 2 ∨ j = 3 by omega) with rfl | rfl | rfl | rfl <;> rfl) (Nat.le_of_ble_eq_true rfl) (Nat.le_of_ble_eq_true rfl) dX1_textOfPowers_8 (fun sb5 H hP hD hS => ?_)
  replace hP : va_P D vwCl ((cW a cJ cI cO R b pr_1 tm_2 cn_3 sm ac re kn) ++ [(sb5, .inr (1, [.null, .int 0, .int 0, .int 0]))]) H := hP
  replace hD : va_D A ((cW a cJ cI cO R b pr_1 tm_2 cn_3 sm ac re kn) ++ [(sb5, .inr (1, [.null, .int 0, .int 0, .int 0]))]) := hD
  refine lv_dup hx hb dX1_textOfPowers_11 rfl ?_
  have hPc := zsub (wn := ([(sb5, .inr (1, [.null, .int 0, .int 0, .int 0]))] : va_W)) hP [21] rfl
  have hDc := hD.sub (ws' := ([(sb5, .inr (1, [.null, .int 0, .int 0, .int 0]))] : va_W)) [21] (by decide) rfl
  refine zgoc (va_runI (As := []) (rest := [.ref sb5]) ⟨hx, hb, hml, hown, hts⟩ (c_J4_init_da8c8 l D cJ cI cO cB sb5 H.size) (cwI 0 hts gX1_textOfPowers_J4_init_da8c8 rfl rfl rfl kii_J4 km_64 kim_J4i rfl (by decide +kernel) ⟨Nat.le_of_ble_eq_true rfl, Nat.le_of_ble_eq_true rfl⟩) (zxpreS hE hS (va_free hD hS hA [21] rfl) hK hPc hDc [.ref sb5]) rfl rfl hl.1 rfl (lv_room (Nat.le_of_ble_eq_true rfl)) dX1_textOfPowers_12 ⟨Nat.le_of_ble_eq_true rfl, Nat.le_of_ble_eq_true rfl⟩) (va_free hD hS hA [21] rfl) (fun u => zjF (wr := (cW a cJ cI cO R b pr_1 tm_2 cn_3 sm ac re kn)) hP hD hS hA [21] [0, 1, 2, 3, 4, 5, 6, 7, 8, 9, 10, 11, 12, 13, 14, 15, 16, 17, 18, 19, 20] rfl rfl (by decide) (by decide)) hS (fun u6 H locs hP hD hS => ?_)
  replace hP : va_P D vwCl (cW a cJ cI cO R b pr_1 tm_2 cn_3 sm ac re kn ++ (sW sb5 cB (u6 0) 16 (fun _ => 0) false 0)) H := hP
  replace hD : va_D A (cW a cJ cI cO R b pr_1 tm_2 cn_3 sm ac re kn ++ (sW sb5 cB (u6 0) 16 (fun _ => 0) false 0)) := hD
  refine lv_astore_n (lv' := [(2, .ref sb5), (0, .ref (a 15)), (1, .int p0)]) hx hb dX1_textOfPowers_15 rfl hl (by decide) rfl (fun ls hl => ?_)
  refine lv_iconst (v := (0 : Int32)) hx hb dX1_textOfPowers_16 (by decide) ?_
  refine lv_istore_n (lv' := [(3, .int (0 : Int32)), (2, .ref sb5), (0, .ref (a 15)), (1, .int p0)]) hx hb dX1_textOfPowers_17 rfl hl (by decide) rfl (fun ls hl => ?_)
  refine lv_iload_n hx hb dX1_textOfPowers_18 rfl (lv_at hl 0 rfl) ?_
  refine lv_aload_n hx hb dX1_textOfPowers_19 rfl (lv_at hl 2 rfl) ?_
  refine va_get (D := D) (ci := 3) (v := .ref (a 17)) (C := RX1) (T := TX1) (N := 2) hx hb hts kwX1 hown hK hP 15 rfl rfl 0 (by decide) kf_12 (fun _ h9 => h9) rfl dX1_textOfPowers_20 ?_
  obtain ⟨r7, e8, h⟩ := zb1_some h
  have hPc := zsub (wn := (cW a cJ cI cO R b pr_1 tm_2 cn_3 sm ac re kn)) hP [0, 1, 2, 3, 4, 5, 6, 7, 8, 9, 10, 11, 12, 13, 14, 15, 16, 17, 18, 19, 20] rfl
  have hDc := hD.sub (ws' := (cW a cJ cI cO R b pr_1 tm_2 cn_3 sm ac re kn)) [0, 1, 2, 3, 4, 5, 6, 7, 8, 9, 10, 11, 12, 13, 14, 15, 16, 17, 18, 19, 20] (by decide) rfl
  refine zgoi (va_runV (As := []) (rest := [.int (0 : Int32)]) ⟨hx, hb, hml, hown, hts⟩ (c_X2_count l D a cJ cI cO cB R b pr_1 tm_2 cn_3 sm ac re kn r7 e8 H.size) (cwV 0 hts gX1_textOfPowers_X2_count rfl rfl rfl hdV_X2_count ⟨Nat.le_of_ble_eq_true rfl, Nat.le_of_ble_eq_true rfl⟩) (zpreV (q0 := 17) (ci := 4) (T := TX2) (N := 3) hK hPc hDc rfl rfl []) rfl rfl hl.1 rfl (lv_room (Nat.le_of_ble_eq_true rfl)) dX1_textOfPowers_23 ⟨Nat.le_of_ble_eq_true rfl, Nat.le_of_ble_eq_true rfl⟩) (va_free hD hS hA [0, 1, 2, 3, 4, 5, 6, 7, 8, 9, 10, 11, 12, 13, 14, 15, 16, 17, 18, 19, 20] rfl) (zjs (wn := (cW a cJ cI cO R b pr_1 tm_2 cn_3 sm ac re kn ++ (sW sb5 cB (u6 0) 16 (fun _ => 0) false 0))) [2, 3, 4, 5, 6, 7, 8, 9, 10, 11, 12, 13, 14, 15, 16, 17, 18, 19, 20, 21, 22, 0, 1] (zjF (wr := (sW sb5 cB (u6 0) 16 (fun _ => 0) false 0)) hP hD hS hA [0, 1, 2, 3, 4, 5, 6, 7, 8, 9, 10, 11, 12, 13, 14, 15, 16, 17, 18, 19, 20] [21, 22] rfl rfl (by decide) (by decide)) rfl (by decide)) hS (fun H locs hP hD hS => ?_)
  replace hP : va_P D vwCl (cW a cJ cI cO R b pr_1 tm_2 cn_3 sm ac re kn ++ (sW sb5 cB (u6 0) 16 (fun _ => 0) false 0)) H := hP
  replace hD : va_D A (cW a cJ cI cO R b pr_1 tm_2 cn_3 sm ac re kn ++ (sW sb5 cB (u6 0) 16 (fun _ => 0) false 0)) := hD
  refine lv_icmp_ge (tgt := 75) hx hb dX1_textOfPowers_26 (by decide) (fun c26 => ?_) (fun c26 => ?_)
  · replace h := zif_t h c26
    refine lv_aload_n hx hb dX1_textOfPowers_75 rfl (lv_at hl 1 rfl) ?_
    obtain ⟨r11, r12, e13, h⟩ := zb2_some h
    have hPc := zsub (wn := ([(sb5, .inr (1, [.ref (u6 0), .int 0, .int (z01 false), .int 0])), ((u6 0), .inl (cB, 16, .inl (fun _ => 0)))] : va_W)) hP [21, 22] rfl
    have hDc := hD.sub (ws' := ([(sb5, .inr (1, [.ref (u6 0), .int 0, .int (z01 false), .int 0])), ((u6 0), .inl (cB, 16, .inl (fun _ => 0)))] : va_W)) [21, 22] (by decide) rfl
    refine zgoss (va_runV (As := []) (rest := []) ⟨hx, hb, hml, hown, hts⟩ (c_J4_toString_0e30d l D cJ cI cO cB sb5 (u6 0) 16 (fun _ => 0) false 0 r11 r12 e13 H.size) (cwV 0 hts gX1_textOfPowers_J4_toString_0e30d rfl rfl rfl hdV_J4_toString_0e30d ⟨Nat.le_of_ble_eq_true rfl, Nat.le_of_ble_eq_true rfl⟩) (zxpreV hE hS (va_free hD hS hA [21, 22] rfl) (q0 := 0) (ci := 1) (T := TJ4) (N := 4) hK hPc hDc rfl rfl []) rfl rfl hl.1 rfl (lv_room (Nat.le_of_ble_eq_true rfl)) dX1_textOfPowers_76 ⟨Nat.le_of_ble_eq_true rfl, Nat.le_of_ble_eq_true rfl⟩) (va_free hD hS hA [21, 22] rfl) (fun s9 u10 => zjs (wn := (cW a cJ cI cO R b pr_1 tm_2 cn_3 sm ac re kn ++ ([(s9, .inr (0, [.ref u10, .int 0, .int 0, .int 0])), (u10, .inl (cB, r11, .inl r12))]))) [0, 1, 2, 3, 4, 5, 6, 7, 8, 9, 10, 11, 12, 13, 14, 15, 16, 17, 18, 19, 20, 21, 22] (zjF (wr := (cW a cJ cI cO R b pr_1 tm_2 cn_3 sm ac re kn)) hP hD hS hA [21, 22] [0, 1, 2, 3, 4, 5, 6, 7, 8, 9, 10, 11, 12, 13, 14, 15, 16, 17, 18, 19, 20] rfl rfl (by decide) (by decide)) rfl (by decide)) hS (fun s9 u10 H locs hP hD hS => ?_)
    replace hP : va_P D vwCl (cW a cJ cI cO R b pr_1 tm_2 cn_3 sm ac re kn ++ ([(s9, .inr (0, [.ref u10, .int 0, .int 0, .int 0])), (u10, .inl (cB, r11, .inl r12))])) H := hP
    replace hD : va_D A (cW a cJ cI cO R b pr_1 tm_2 cn_3 sm ac re kn ++ ([(s9, .inr (0, [.ref u10, .int 0, .int 0, .int 0])), (u10, .inl (cB, r11, .inl r12))])) := hD
    have g0 := Option.some.inj h
    obtain ⟨h1, g1⟩ := Prod.mk.inj g0
    obtain ⟨h2, g2⟩ := Prod.mk.inj g1
    subst h1
    subst h2
    subst g2
    replace hP := zsub (wn := (cW a cJ cI cO R b pr_1 tm_2 cn_3 sm ac re kn)) hP [0, 1, 2, 3, 4, 5, 6, 7, 8, 9, 10, 11, 12, 13, 14, 15, 16, 17, 18, 19, 20] rfl
    replace hD := hD.sub (ws' := (cW a cJ cI cO R b pr_1 tm_2 cn_3 sm ac re kn)) [0, 1, 2, 3, 4, 5, 6, 7, 8, 9, 10, 11, 12, 13, 14, 15, 16, 17, 18, 19, 20] (by decide) rfl
    refine W.widen (k := 19) (n := 2424) (by decide) (by decide) ?_
    exact W.aret (v := .ref s9) hx hb hr (Or.inl ⟨_, rfl⟩) (Or.inr ⟨_, rfl⟩) (fun t ht hW => ⟨⟨(), s9, rfl, trivial, by rw [ht]; exact hP, va_K.moved hW.alike hK, hD⟩, hS.F ht⟩) hS.2.2 dX1_textOfPowers_79
  · replace h := zif_f h c26
    refine lv_iload_n hx hb dX1_textOfPowers_29 rfl (lv_at hl 0 rfl) ?_
    refine lv_if_le (tgt := 40) hx hb dX1_textOfPowers_30 (by decide) (fun _ => ?_) (fun c => absurd (by decide) c)
    refine lv_aload_n hx hb dX1_textOfPowers_40 rfl (lv_at hl 1 rfl) ?_
    refine lv_aload_n hx hb dX1_textOfPowers_41 rfl (lv_at hl 2 rfl) ?_
    refine va_get (D := D) (ci := 3) (v := .ref (a 17)) (C := RX1) (T := TX1) (N := 2) hx hb hts kwX1 hown hK hP 15 rfl rfl 0 (by decide) kf_12 (fun _ h9 => h9) rfl dX1_textOfPowers_42 ?_
    refine lv_iload_n hx hb dX1_textOfPowers_45 rfl (lv_at hl 0 rfl) ?_
    obtain ⟨r14, e15, h⟩ := zb1_some h
    have hPc := zsub (wn := (cW a cJ cI cO R b pr_1 tm_2 cn_3 sm ac re kn)) hP [0, 1, 2, 3, 4, 5, 6, 7, 8, 9, 10, 11, 12, 13, 14, 15, 16, 17, 18, 19, 20] rfl
    have hDc := hD.sub (ws' := (cW a cJ cI cO R b pr_1 tm_2 cn_3 sm ac re kn)) [0, 1, 2, 3, 4, 5, 6, 7, 8, 9, 10, 11, 12, 13, 14, 15, 16, 17, 18, 19, 20] (by decide) rfl
    refine zgoi (va_runV (As := [.int (0 : Int32)]) (rest := [.ref sb5]) ⟨hx, hb, hml, hown, hts⟩ (c_X2_primeAt l D a cJ cI cO cB R b pr_1 tm_2 cn_3 sm ac re kn (0 : Int32) r14 e15 H.size) (cwV 1 hts gX1_textOfPowers_X2_primeAt rfl rfl rfl hdV_X2_primeAt ⟨Nat.le_of_ble_eq_true rfl, Nat.le_of_ble_eq_true rfl⟩) (zpreV (q0 := 17) (ci := 4) (T := TX2) (N := 3) hK hPc hDc rfl rfl [.int (0 : Int32)]) rfl rfl hl.1 rfl (lv_room (Nat.le_of_ble_eq_true rfl)) dX1_textOfPowers_46 ⟨Nat.le_of_ble_eq_true rfl, Nat.le_of_ble_eq_true rfl⟩) (va_free hD hS hA [0, 1, 2, 3, 4, 5, 6, 7, 8, 9, 10, 11, 12, 13, 14, 15, 16, 17, 18, 19, 20] rfl) (zjs (wn := (cW a cJ cI cO R b pr_1 tm_2 cn_3 sm ac re kn ++ (sW sb5 cB (u6 0) 16 (fun _ => 0) false 0))) [2, 3, 4, 5, 6, 7, 8, 9, 10, 11, 12, 13, 14, 15, 16, 17, 18, 19, 20, 21, 22, 0, 1] (zjF (wr := (sW sb5 cB (u6 0) 16 (fun _ => 0) false 0)) hP hD hS hA [0, 1, 2, 3, 4, 5, 6, 7, 8, 9, 10, 11, 12, 13, 14, 15, 16, 17, 18, 19, 20] [21, 22] rfl rfl (by decide) (by decide)) rfl (by decide)) hS (fun H locs hP hD hS => ?_)
    replace hP : va_P D vwCl (cW a cJ cI cO R b pr_1 tm_2 cn_3 sm ac re kn ++ (sW sb5 cB (u6 0) 16 (fun _ => 0) false 0)) H := hP
    replace hD : va_D A (cW a cJ cI cO R b pr_1 tm_2 cn_3 sm ac re kn ++ (sW sb5 cB (u6 0) 16 (fun _ => 0) false 0)) := hD
    obtain ⟨bc_16, bf_17, bn_18, e19, h⟩ := zb3_some h
    have hPc := zsub (wn := (sW sb5 cB (u6 0) 16 (fun _ => 0) false 0)) hP [21, 22] rfl
    have hDc := hD.sub (ws' := (sW sb5 cB (u6 0) 16 (fun _ => 0) false 0)) [21, 22] (by decide) rfl
    refine zgosr (va_runV (As := [.int r14]) (rest := []) ⟨hx, hb, hml, hown, hts⟩ (c_J4_append_bf812 l D sb5 cJ cI cO cB (u6 0) 16 (fun _ => 0) false 0 F r14 bc_16 bf_17 bn_18 e19 H.size) (cwV 1 hts gX1_textOfPowers_J4_append_bf812 rfl rfl rfl hdV_J4_append_bf812 ⟨Nat.le_of_ble_eq_true rfl, Nat.le_of_ble_eq_true rfl⟩) (zxpreV hE hS (va_free hD hS hA [21, 22] rfl) (q0 := 0) (ci := 1) (T := TJ4) (N := 4) hK hPc hDc rfl rfl [.int r14]) rfl rfl hl.1 rfl (lv_room (Nat.le_of_ble_eq_true rfl)) dX1_textOfPowers_49 ⟨Nat.le_of_ble_eq_true rfl, Nat.le_of_ble_eq_true rfl⟩) (va_free hD hS hA [21, 22] rfl) (fun bv20 => (zjs (wn := (cW a cJ cI cO R b pr_1 tm_2 cn_3 sm ac re kn ++ (sW sb5 cB bv20 bc_16 bf_17 false bn_18))) [0, 1, 2, 3, 4, 5, 6, 7, 8, 9, 10, 11, 12, 13, 14, 15, 16, 17, 18, 19, 20, 21, 22] (zjF (wr := (cW a cJ cI cO R b pr_1 tm_2 cn_3 sm ac re kn)) hP hD hS hA [21, 22] [0, 1, 2, 3, 4, 5, 6, 7, 8, 9, 10, 11, 12, 13, 14, 15, 16, 17, 18, 19, 20] rfl rfl (by decide) (by decide)) rfl (by decide))) hS (fun bv20 H locs hP hD hS => ?_)
    replace hP : va_P D vwCl (cW a cJ cI cO R b pr_1 tm_2 cn_3 sm ac re kn ++ (sW sb5 cB bv20 bc_16 bf_17 false bn_18)) H := hP
    replace hD : va_D A (cW a cJ cI cO R b pr_1 tm_2 cn_3 sm ac re kn ++ (sW sb5 cB bv20 bc_16 bf_17 false bn_18)) := hD
    refine lv_bipush (v := (94 : Int32)) hx hb dX1_textOfPowers_52 (by decide) ?_
    obtain ⟨bc_21, bf_22, bn_23, e24, h⟩ := zb3_some h
    have hPc := zsub (wn := (sW sb5 cB bv20 bc_16 bf_17 false bn_18)) hP [21, 22] rfl
    have hDc := hD.sub (ws' := (sW sb5 cB bv20 bc_16 bf_17 false bn_18)) [21, 22] (by decide) rfl
    refine zgosr (va_runV (As := [.int (94 : Int32)]) (rest := []) ⟨hx, hb, hml, hown, hts⟩ (c_J4_append_cf468 l D sb5 cJ cI cO cB bv20 bc_16 bf_17 false bn_18 (94 : Int32) bc_21 bf_22 bn_23 e24 H.size) (cwV 1 hts gX1_textOfPowers_J4_append_cf468 rfl rfl rfl hdV_J4_append_cf468 ⟨Nat.le_of_ble_eq_true rfl, Nat.le_of_ble_eq_true rfl⟩) (zxpreV hE hS (va_free hD hS hA [21, 22] rfl) (q0 := 0) (ci := 1) (T := TJ4) (N := 4) hK hPc hDc rfl rfl [.int (94 : Int32)]) rfl rfl hl.1 rfl (lv_room (Nat.le_of_ble_eq_true rfl)) dX1_textOfPowers_54 ⟨Nat.le_of_ble_eq_true rfl, Nat.le_of_ble_eq_true rfl⟩) (va_free hD hS hA [21, 22] rfl) (fun bv25 => (zjs (wn := (cW a cJ cI cO R b pr_1 tm_2 cn_3 sm ac re kn ++ (sW sb5 cB bv25 bc_21 bf_22 false bn_23))) [0, 1, 2, 3, 4, 5, 6, 7, 8, 9, 10, 11, 12, 13, 14, 15, 16, 17, 18, 19, 20, 21, 22] (zjF (wr := (cW a cJ cI cO R b pr_1 tm_2 cn_3 sm ac re kn)) hP hD hS hA [21, 22] [0, 1, 2, 3, 4, 5, 6, 7, 8, 9, 10, 11, 12, 13, 14, 15, 16, 17, 18, 19, 20] rfl rfl (by decide) (by decide)) rfl (by decide))) hS (fun bv25 H locs hP hD hS => ?_)
    replace hP : va_P D vwCl (cW a cJ cI cO R b pr_1 tm_2 cn_3 sm ac re kn ++ (sW sb5 cB bv25 bc_21 bf_22 false bn_23)) H := hP
    replace hD : va_D A (cW a cJ cI cO R b pr_1 tm_2 cn_3 sm ac re kn ++ (sW sb5 cB bv25 bc_21 bf_22 false bn_23)) := hD
    refine lv_aload_n hx hb dX1_textOfPowers_57 rfl (lv_at hl 2 rfl) ?_
    refine va_get (D := D) (ci := 3) (v := .ref (a 17)) (C := RX1) (T := TX1) (N := 2) hx hb hts kwX1 hown hK hP 15 rfl rfl 0 (by decide) kf_12 (fun _ h9 => h9) rfl dX1_textOfPowers_58 ?_
    refine lv_iload_n hx hb dX1_textOfPowers_61 rfl (lv_at hl 0 rfl) ?_
    obtain ⟨r26, e27, h⟩ := zb1_some h
    have hPc := zsub (wn := (cW a cJ cI cO R b pr_1 tm_2 cn_3 sm ac re kn)) hP [0, 1, 2, 3, 4, 5, 6, 7, 8, 9, 10, 11, 12, 13, 14, 15, 16, 17, 18, 19, 20] rfl
    have hDc := hD.sub (ws' := (cW a cJ cI cO R b pr_1 tm_2 cn_3 sm ac re kn)) [0, 1, 2, 3, 4, 5, 6, 7, 8, 9, 10, 11, 12, 13, 14, 15, 16, 17, 18, 19, 20] (by decide) rfl
    refine zgoi (va_runV (As := [.int (0 : Int32)]) (rest := [.ref sb5]) ⟨hx, hb, hml, hown, hts⟩ (c_X2_timesAt l D a cJ cI cO cB R b pr_1 tm_2 cn_3 sm ac re kn (0 : Int32) r26 e27 H.size) (cwV 1 hts gX1_textOfPowers_X2_timesAt rfl rfl rfl hdV_X2_timesAt ⟨Nat.le_of_ble_eq_true rfl, Nat.le_of_ble_eq_true rfl⟩) (zpreV (q0 := 17) (ci := 4) (T := TX2) (N := 3) hK hPc hDc rfl rfl [.int (0 : Int32)]) rfl rfl hl.1 rfl (lv_room (Nat.le_of_ble_eq_true rfl)) dX1_textOfPowers_62 ⟨Nat.le_of_ble_eq_true rfl, Nat.le_of_ble_eq_true rfl⟩) (va_free hD hS hA [0, 1, 2, 3, 4, 5, 6, 7, 8, 9, 10, 11, 12, 13, 14, 15, 16, 17, 18, 19, 20] rfl) (zjs (wn := (cW a cJ cI cO R b pr_1 tm_2 cn_3 sm ac re kn ++ (sW sb5 cB bv25 bc_21 bf_22 false bn_23))) [2, 3, 4, 5, 6, 7, 8, 9, 10, 11, 12, 13, 14, 15, 16, 17, 18, 19, 20, 21, 22, 0, 1] (zjF (wr := (sW sb5 cB bv25 bc_21 bf_22 false bn_23)) hP hD hS hA [0, 1, 2, 3, 4, 5, 6, 7, 8, 9, 10, 11, 12, 13, 14, 15, 16, 17, 18, 19, 20] [21, 22] rfl rfl (by decide) (by decide)) rfl (by decide)) hS (fun H locs hP hD hS => ?_)
    replace hP : va_P D vwCl (cW a cJ cI cO R b pr_1 tm_2 cn_3 sm ac re kn ++ (sW sb5 cB bv25 bc_21 bf_22 false bn_23)) H := hP
    replace hD : va_D A (cW a cJ cI cO R b pr_1 tm_2 cn_3 sm ac re kn ++ (sW sb5 cB bv25 bc_21 bf_22 false bn_23)) := hD
    obtain ⟨bc_28, bf_29, bn_30, e31, h⟩ := zb3_some h
    have hPc := zsub (wn := (sW sb5 cB bv25 bc_21 bf_22 false bn_23)) hP [21, 22] rfl
    have hDc := hD.sub (ws' := (sW sb5 cB bv25 bc_21 bf_22 false bn_23)) [21, 22] (by decide) rfl
    refine zgosr (va_runV (As := [.int r26]) (rest := []) ⟨hx, hb, hml, hown, hts⟩ (c_J4_append_bf812 l D sb5 cJ cI cO cB bv25 bc_21 bf_22 false bn_23 F r26 bc_28 bf_29 bn_30 e31 H.size) (cwV 1 hts gX1_textOfPowers_J4_append_bf812 rfl rfl rfl hdV_J4_append_bf812 ⟨Nat.le_of_ble_eq_true rfl, Nat.le_of_ble_eq_true rfl⟩) (zxpreV hE hS (va_free hD hS hA [21, 22] rfl) (q0 := 0) (ci := 1) (T := TJ4) (N := 4) hK hPc hDc rfl rfl [.int r26]) rfl rfl hl.1 rfl (lv_room (Nat.le_of_ble_eq_true rfl)) dX1_textOfPowers_65 ⟨Nat.le_of_ble_eq_true rfl, Nat.le_of_ble_eq_true rfl⟩) (va_free hD hS hA [21, 22] rfl) (fun bv32 => (zjs (wn := (cW a cJ cI cO R b pr_1 tm_2 cn_3 sm ac re kn ++ (sW sb5 cB bv32 bc_28 bf_29 false bn_30))) [0, 1, 2, 3, 4, 5, 6, 7, 8, 9, 10, 11, 12, 13, 14, 15, 16, 17, 18, 19, 20, 21, 22] (zjF (wr := (cW a cJ cI cO R b pr_1 tm_2 cn_3 sm ac re kn)) hP hD hS hA [21, 22] [0, 1, 2, 3, 4, 5, 6, 7, 8, 9, 10, 11, 12, 13, 14, 15, 16, 17, 18, 19, 20] rfl rfl (by decide) (by decide)) rfl (by decide))) hS (fun bv32 H locs hP hD hS => ?_)
    replace hP : va_P D vwCl (cW a cJ cI cO R b pr_1 tm_2 cn_3 sm ac re kn ++ (sW sb5 cB bv32 bc_28 bf_29 false bn_30)) H := hP
    replace hD : va_D A (cW a cJ cI cO R b pr_1 tm_2 cn_3 sm ac re kn ++ (sW sb5 cB bv32 bc_28 bf_29 false bn_30)) := hD
    refine lv_pop hx hb dX1_textOfPowers_68 rfl ?_
    refine lv_iinc (v := (1 : Int32)) (lv' := [(3, .int (1 : Int32)), (2, .ref sb5), (0, .ref (a 15)), (1, .int p0)]) hx hb dX1_textOfPowers_69 hl (k := 0) rfl (by decide) (by decide) rfl (fun ls hl => ?_)
    refine lv_goto (tgt := 18) hx hb dX1_textOfPowers_72 (by decide) ?_
    refine lv_iload_n hx hb dX1_textOfPowers_18 rfl (lv_at hl 0 rfl) ?_
    refine lv_aload_n hx hb dX1_textOfPowers_19 rfl (lv_at hl 2 rfl) ?_
    refine va_get (D := D) (ci := 3) (v := .ref (a 17)) (C := RX1) (T := TX1) (N := 2) hx hb hts kwX1 hown hK hP 15 rfl rfl 0 (by decide) kf_12 (fun _ h9 => h9) rfl dX1_textOfPowers_20 ?_
    obtain ⟨r33, e34, h⟩ := zb1_some h
    have hPc := zsub (wn := (cW a cJ cI cO R b pr_1 tm_2 cn_3 sm ac re kn)) hP [0, 1, 2, 3, 4, 5, 6, 7, 8, 9, 10, 11, 12, 13, 14, 15, 16, 17, 18, 19, 20] rfl
    have hDc := hD.sub (ws' := (cW a cJ cI cO R b pr_1 tm_2 cn_3 sm ac re kn)) [0, 1, 2, 3, 4, 5, 6, 7, 8, 9, 10, 11, 12, 13, 14, 15, 16, 17, 18, 19, 20] (by decide) rfl
    refine zgoi (va_runV (As := []) (rest := [.int (1 : Int32)]) ⟨hx, hb, hml, hown, hts⟩ (c_X2_count l D a cJ cI cO cB R b pr_1 tm_2 cn_3 sm ac re kn r33 e34 H.size) (cwV 0 hts gX1_textOfPowers_X2_count rfl rfl rfl hdV_X2_count ⟨Nat.le_of_ble_eq_true rfl, Nat.le_of_ble_eq_true rfl⟩) (zpreV (q0 := 17) (ci := 4) (T := TX2) (N := 3) hK hPc hDc rfl rfl []) rfl rfl hl.1 rfl (lv_room (Nat.le_of_ble_eq_true rfl)) dX1_textOfPowers_23 ⟨Nat.le_of_ble_eq_true rfl, Nat.le_of_ble_eq_true rfl⟩) (va_free hD hS hA [0, 1, 2, 3, 4, 5, 6, 7, 8, 9, 10, 11, 12, 13, 14, 15, 16, 17, 18, 19, 20] rfl) (zjs (wn := (cW a cJ cI cO R b pr_1 tm_2 cn_3 sm ac re kn ++ (sW sb5 cB bv32 bc_28 bf_29 false bn_30))) [2, 3, 4, 5, 6, 7, 8, 9, 10, 11, 12, 13, 14, 15, 16, 17, 18, 19, 20, 21, 22, 0, 1] (zjF (wr := (sW sb5 cB bv32 bc_28 bf_29 false bn_30)) hP hD hS hA [0, 1, 2, 3, 4, 5, 6, 7, 8, 9, 10, 11, 12, 13, 14, 15, 16, 17, 18, 19, 20] [21, 22] rfl rfl (by decide) (by decide)) rfl (by decide)) hS (fun H locs hP hD hS => ?_)
    replace hP : va_P D vwCl (cW a cJ cI cO R b pr_1 tm_2 cn_3 sm ac re kn ++ (sW sb5 cB bv32 bc_28 bf_29 false bn_30)) H := hP
    replace hD : va_D A (cW a cJ cI cO R b pr_1 tm_2 cn_3 sm ac re kn ++ (sW sb5 cB bv32 bc_28 bf_29 false bn_30)) := hD
    refine lv_icmp_ge (tgt := 75) hx hb dX1_textOfPowers_26 (by decide) (fun c26 => ?_) (fun c26 => ?_)
    · replace h := zif_t h c26
      refine lv_aload_n hx hb dX1_textOfPowers_75 rfl (lv_at hl 1 rfl) ?_
      obtain ⟨r37, r38, e39, h⟩ := zb2_some h
      have hPc := zsub (wn := ([(sb5, .inr (1, [.ref bv32, .int 0, .int (z01 false), .int bn_30])), (bv32, .inl (cB, bc_28, .inl bf_29))] : va_W)) hP [21, 22] rfl
      have hDc := hD.sub (ws' := ([(sb5, .inr (1, [.ref bv32, .int 0, .int (z01 false), .int bn_30])), (bv32, .inl (cB, bc_28, .inl bf_29))] : va_W)) [21, 22] (by decide) rfl
      refine zgoss (va_runV (As := []) (rest := []) ⟨hx, hb, hml, hown, hts⟩ (c_J4_toString_0e30d l D cJ cI cO cB sb5 bv32 bc_28 bf_29 false bn_30 r37 r38 e39 H.size) (cwV 0 hts gX1_textOfPowers_J4_toString_0e30d rfl rfl rfl hdV_J4_toString_0e30d ⟨Nat.le_of_ble_eq_true rfl, Nat.le_of_ble_eq_true rfl⟩) (zxpreV hE hS (va_free hD hS hA [21, 22] rfl) (q0 := 0) (ci := 1) (T := TJ4) (N := 4) hK hPc hDc rfl rfl []) rfl rfl hl.1 rfl (lv_room (Nat.le_of_ble_eq_true rfl)) dX1_textOfPowers_76 ⟨Nat.le_of_ble_eq_true rfl, Nat.le_of_ble_eq_true rfl⟩) (va_free hD hS hA [21, 22] rfl) (fun s35 u36 => zjs (wn := (cW a cJ cI cO R b pr_1 tm_2 cn_3 sm ac re kn ++ ([(s35, .inr (0, [.ref u36, .int 0, .int 0, .int 0])), (u36, .inl (cB, r37, .inl r38))]))) [0, 1, 2, 3, 4, 5, 6, 7, 8, 9, 10, 11, 12, 13, 14, 15, 16, 17, 18, 19, 20, 21, 22] (zjF (wr := (cW a cJ cI cO R b pr_1 tm_2 cn_3 sm ac re kn)) hP hD hS hA [21, 22] [0, 1, 2, 3, 4, 5, 6, 7, 8, 9, 10, 11, 12, 13, 14, 15, 16, 17, 18, 19, 20] rfl rfl (by decide) (by decide)) rfl (by decide)) hS (fun s35 u36 H locs hP hD hS => ?_)
      replace hP : va_P D vwCl (cW a cJ cI cO R b pr_1 tm_2 cn_3 sm ac re kn ++ ([(s35, .inr (0, [.ref u36, .int 0, .int 0, .int 0])), (u36, .inl (cB, r37, .inl r38))])) H := hP
      replace hD : va_D A (cW a cJ cI cO R b pr_1 tm_2 cn_3 sm ac re kn ++ ([(s35, .inr (0, [.ref u36, .int 0, .int 0, .int 0])), (u36, .inl (cB, r37, .inl r38))])) := hD
      have g0 := Option.some.inj h
      obtain ⟨h1, g1⟩ := Prod.mk.inj g0
      obtain ⟨h2, g2⟩ := Prod.mk.inj g1
      subst h1
      subst h2
      subst g2
      replace hP := zsub (wn := (cW a cJ cI cO R b pr_1 tm_2 cn_3 sm ac re kn)) hP [0, 1, 2, 3, 4, 5, 6, 7, 8, 9, 10, 11, 12, 13, 14, 15, 16, 17, 18, 19, 20] rfl
      replace hD := hD.sub (ws' := (cW a cJ cI cO R b pr_1 tm_2 cn_3 sm ac re kn)) [0, 1, 2, 3, 4, 5, 6, 7, 8, 9, 10, 11, 12, 13, 14, 15, 16, 17, 18, 19, 20] (by decide) rfl
      refine W.widen (k := 19) (n := 2424) (by decide) (by decide) ?_
      exact W.aret (v := .ref s35) hx hb hr (Or.inl ⟨_, rfl⟩) (Or.inr ⟨_, rfl⟩) (fun t ht hW => ⟨⟨(), s35, rfl, trivial, by rw [ht]; exact hP, va_K.moved hW.alike hK, hD⟩, hS.F ht⟩) hS.2.2 dX1_textOfPowers_79
    · replace h := zif_f h c26
      refine lv_iload_n hx hb dX1_textOfPowers_29 rfl (lv_at hl 0 rfl) ?_
      refine lv_if_le (tgt := 40) hx hb dX1_textOfPowers_30 (by decide) (fun c => absurd c (by decide)) (fun _ => ?_)
      refine lv_aload_n hx hb dX1_textOfPowers_33 rfl (lv_at hl 1 rfl) ?_
      refine lv_bipush (v := (32 : Int32)) hx hb dX1_textOfPowers_34 (by decide) ?_
      obtain ⟨bc_40, bf_41, bn_42, e43, h⟩ := zb3_some h
      have hPc := zsub (wn := (sW sb5 cB bv32 bc_28 bf_29 false bn_30)) hP [21, 22] rfl
      have hDc := hD.sub (ws' := (sW sb5 cB bv32 bc_28 bf_29 false bn_30)) [21, 22] (by decide) rfl
      refine zgosr (va_runV (As := [.int (32 : Int32)]) (rest := []) ⟨hx, hb, hml, hown, hts⟩ (c_J4_append_cf468 l D sb5 cJ cI cO cB bv32 bc_28 bf_29 false bn_30 (32 : Int32) bc_40 bf_41 bn_42 e43 H.size) (cwV 1 hts gX1_textOfPowers_J4_append_cf468 rfl rfl rfl hdV_J4_append_cf468 ⟨Nat.le_of_ble_eq_true rfl, Nat.le_of_ble_eq_true rfl⟩) (zxpreV hE hS (va_free hD hS hA [21, 22] rfl) (q0 := 0) (ci := 1) (T := TJ4) (N := 4) hK hPc hDc rfl rfl [.int (32 : Int32)]) rfl rfl hl.1 rfl (lv_room (Nat.le_of_ble_eq_true rfl)) dX1_textOfPowers_36 ⟨Nat.le_of_ble_eq_true rfl, Nat.le_of_ble_eq_true rfl⟩) (va_free hD hS hA [21, 22] rfl) (fun bv44 => (zjs (wn := (cW a cJ cI cO R b pr_1 tm_2 cn_3 sm ac re kn ++ (sW sb5 cB bv44 bc_40 bf_41 false bn_42))) [0, 1, 2, 3, 4, 5, 6, 7, 8, 9, 10, 11, 12, 13, 14, 15, 16, 17, 18, 19, 20, 21, 22] (zjF (wr := (cW a cJ cI cO R b pr_1 tm_2 cn_3 sm ac re kn)) hP hD hS hA [21, 22] [0, 1, 2, 3, 4, 5, 6, 7, 8, 9, 10, 11, 12, 13, 14, 15, 16, 17, 18, 19, 20] rfl rfl (by decide) (by decide)) rfl (by decide))) hS (fun bv44 H locs hP hD hS => ?_)
      replace hP : va_P D vwCl (cW a cJ cI cO R b pr_1 tm_2 cn_3 sm ac re kn ++ (sW sb5 cB bv44 bc_40 bf_41 false bn_42)) H := hP
      replace hD : va_D A (cW a cJ cI cO R b pr_1 tm_2 cn_3 sm ac re kn ++ (sW sb5 cB bv44 bc_40 bf_41 false bn_42)) := hD
      refine lv_pop hx hb dX1_textOfPowers_39 rfl ?_
      refine lv_aload_n hx hb dX1_textOfPowers_40 rfl (lv_at hl 1 rfl) ?_
      refine lv_aload_n hx hb dX1_textOfPowers_41 rfl (lv_at hl 2 rfl) ?_
      refine va_get (D := D) (ci := 3) (v := .ref (a 17)) (C := RX1) (T := TX1) (N := 2) hx hb hts kwX1 hown hK hP 15 rfl rfl 0 (by decide) kf_12 (fun _ h9 => h9) rfl dX1_textOfPowers_42 ?_
      refine lv_iload_n hx hb dX1_textOfPowers_45 rfl (lv_at hl 0 rfl) ?_
      obtain ⟨r45, e46, h⟩ := zb1_some h
      have hPc := zsub (wn := (cW a cJ cI cO R b pr_1 tm_2 cn_3 sm ac re kn)) hP [0, 1, 2, 3, 4, 5, 6, 7, 8, 9, 10, 11, 12, 13, 14, 15, 16, 17, 18, 19, 20] rfl
      have hDc := hD.sub (ws' := (cW a cJ cI cO R b pr_1 tm_2 cn_3 sm ac re kn)) [0, 1, 2, 3, 4, 5, 6, 7, 8, 9, 10, 11, 12, 13, 14, 15, 16, 17, 18, 19, 20] (by decide) rfl
      refine zgoi (va_runV (As := [.int (1 : Int32)]) (rest := [.ref sb5]) ⟨hx, hb, hml, hown, hts⟩ (c_X2_primeAt l D a cJ cI cO cB R b pr_1 tm_2 cn_3 sm ac re kn (1 : Int32) r45 e46 H.size) (cwV 1 hts gX1_textOfPowers_X2_primeAt rfl rfl rfl hdV_X2_primeAt ⟨Nat.le_of_ble_eq_true rfl, Nat.le_of_ble_eq_true rfl⟩) (zpreV (q0 := 17) (ci := 4) (T := TX2) (N := 3) hK hPc hDc rfl rfl [.int (1 : Int32)]) rfl rfl hl.1 rfl (lv_room (Nat.le_of_ble_eq_true rfl)) dX1_textOfPowers_46 ⟨Nat.le_of_ble_eq_true rfl, Nat.le_of_ble_eq_true rfl⟩) (va_free hD hS hA [0, 1, 2, 3, 4, 5, 6, 7, 8, 9, 10, 11, 12, 13, 14, 15, 16, 17, 18, 19, 20] rfl) (zjs (wn := (cW a cJ cI cO R b pr_1 tm_2 cn_3 sm ac re kn ++ (sW sb5 cB bv44 bc_40 bf_41 false bn_42))) [2, 3, 4, 5, 6, 7, 8, 9, 10, 11, 12, 13, 14, 15, 16, 17, 18, 19, 20, 21, 22, 0, 1] (zjF (wr := (sW sb5 cB bv44 bc_40 bf_41 false bn_42)) hP hD hS hA [0, 1, 2, 3, 4, 5, 6, 7, 8, 9, 10, 11, 12, 13, 14, 15, 16, 17, 18, 19, 20] [21, 22] rfl rfl (by decide) (by decide)) rfl (by decide)) hS (fun H locs hP hD hS => ?_)
      replace hP : va_P D vwCl (cW a cJ cI cO R b pr_1 tm_2 cn_3 sm ac re kn ++ (sW sb5 cB bv44 bc_40 bf_41 false bn_42)) H := hP
      replace hD : va_D A (cW a cJ cI cO R b pr_1 tm_2 cn_3 sm ac re kn ++ (sW sb5 cB bv44 bc_40 bf_41 false bn_42)) := hD
      obtain ⟨bc_47, bf_48, bn_49, e50, h⟩ := zb3_some h
      have hPc := zsub (wn := (sW sb5 cB bv44 bc_40 bf_41 false bn_42)) hP [21, 22] rfl
      have hDc := hD.sub (ws' := (sW sb5 cB bv44 bc_40 bf_41 false bn_42)) [21, 22] (by decide) rfl
      refine zgosr (va_runV (As := [.int r45]) (rest := []) ⟨hx, hb, hml, hown, hts⟩ (c_J4_append_bf812 l D sb5 cJ cI cO cB bv44 bc_40 bf_41 false bn_42 F r45 bc_47 bf_48 bn_49 e50 H.size) (cwV 1 hts gX1_textOfPowers_J4_append_bf812 rfl rfl rfl hdV_J4_append_bf812 ⟨Nat.le_of_ble_eq_true rfl, Nat.le_of_ble_eq_true rfl⟩) (zxpreV hE hS (va_free hD hS hA [21, 22] rfl) (q0 := 0) (ci := 1) (T := TJ4) (N := 4) hK hPc hDc rfl rfl [.int r45]) rfl rfl hl.1 rfl (lv_room (Nat.le_of_ble_eq_true rfl)) dX1_textOfPowers_49 ⟨Nat.le_of_ble_eq_true rfl, Nat.le_of_ble_eq_true rfl⟩) (va_free hD hS hA [21, 22] rfl) (fun bv51 => (zjs (wn := (cW a cJ cI cO R b pr_1 tm_2 cn_3 sm ac re kn ++ (sW sb5 cB bv51 bc_47 bf_48 false bn_49))) [0, 1, 2, 3, 4, 5, 6, 7, 8, 9, 10, 11, 12, 13, 14, 15, 16, 17, 18, 19, 20, 21, 22] (zjF (wr := (cW a cJ cI cO R b pr_1 tm_2 cn_3 sm ac re kn)) hP hD hS hA [21, 22] [0, 1, 2, 3, 4, 5, 6, 7, 8, 9, 10, 11, 12, 13, 14, 15, 16, 17, 18, 19, 20] rfl rfl (by decide) (by decide)) rfl (by decide))) hS (fun bv51 H locs hP hD hS => ?_)
      replace hP : va_P D vwCl (cW a cJ cI cO R b pr_1 tm_2 cn_3 sm ac re kn ++ (sW sb5 cB bv51 bc_47 bf_48 false bn_49)) H := hP
      replace hD : va_D A (cW a cJ cI cO R b pr_1 tm_2 cn_3 sm ac re kn ++ (sW sb5 cB bv51 bc_47 bf_48 false bn_49)) := hD
      refine lv_bipush (v := (94 : Int32)) hx hb dX1_textOfPowers_52 (by decide) ?_
      obtain ⟨bc_52, bf_53, bn_54, e55, h⟩ := zb3_some h
      have hPc := zsub (wn := (sW sb5 cB bv51 bc_47 bf_48 false bn_49)) hP [21, 22] rfl
      have hDc := hD.sub (ws' := (sW sb5 cB bv51 bc_47 bf_48 false bn_49)) [21, 22] (by decide) rfl
      refine zgosr (va_runV (As := [.int (94 : Int32)]) (rest := []) ⟨hx, hb, hml, hown, hts⟩ (c_J4_append_cf468 l D sb5 cJ cI cO cB bv51 bc_47 bf_48 false bn_49 (94 : Int32) bc_52 bf_53 bn_54 e55 H.size) (cwV 1 hts gX1_textOfPowers_J4_append_cf468 rfl rfl rfl hdV_J4_append_cf468 ⟨Nat.le_of_ble_eq_true rfl, Nat.le_of_ble_eq_true rfl⟩) (zxpreV hE hS (va_free hD hS hA [21, 22] rfl) (q0 := 0) (ci := 1) (T := TJ4) (N := 4) hK hPc hDc rfl rfl [.int (94 : Int32)]) rfl rfl hl.1 rfl (lv_room (Nat.le_of_ble_eq_true rfl)) dX1_textOfPowers_54 ⟨Nat.le_of_ble_eq_true rfl, Nat.le_of_ble_eq_true rfl⟩) (va_free hD hS hA [21, 22] rfl) (fun bv56 => (zjs (wn := (cW a cJ cI cO R b pr_1 tm_2 cn_3 sm ac re kn ++ (sW sb5 cB bv56 bc_52 bf_53 false bn_54))) [0, 1, 2, 3, 4, 5, 6, 7, 8, 9, 10, 11, 12, 13, 14, 15, 16, 17, 18, 19, 20, 21, 22] (zjF (wr := (cW a cJ cI cO R b pr_1 tm_2 cn_3 sm ac re kn)) hP hD hS hA [21, 22] [0, 1, 2, 3, 4, 5, 6, 7, 8, 9, 10, 11, 12, 13, 14, 15, 16, 17, 18, 19, 20] rfl rfl (by decide) (by decide)) rfl (by decide))) hS (fun bv56 H locs hP hD hS => ?_)
      replace hP : va_P D vwCl (cW a cJ cI cO R b pr_1 tm_2 cn_3 sm ac re kn ++ (sW sb5 cB bv56 bc_52 bf_53 false bn_54)) H := hP
      replace hD : va_D A (cW a cJ cI cO R b pr_1 tm_2 cn_3 sm ac re kn ++ (sW sb5 cB bv56 bc_52 bf_53 false bn_54)) := hD
      refine lv_aload_n hx hb dX1_textOfPowers_57 rfl (lv_at hl 2 rfl) ?_
      refine va_get (D := D) (ci := 3) (v := .ref (a 17)) (C := RX1) (T := TX1) (N := 2) hx hb hts kwX1 hown hK hP 15 rfl rfl 0 (by decide) kf_12 (fun _ h9 => h9) rfl dX1_textOfPowers_58 ?_
      refine lv_iload_n hx hb dX1_textOfPowers_61 rfl (lv_at hl 0 rfl) ?_
      obtain ⟨r57, e58, h⟩ := zb1_some h
      have hPc := zsub (wn := (cW a cJ cI cO R b pr_1 tm_2 cn_3 sm ac re kn)) hP [0, 1, 2, 3, 4, 5, 6, 7, 8, 9, 10, 11, 12, 13, 14, 15, 16, 17, 18, 19, 20] rfl
      have hDc := hD.sub (ws' := (cW a cJ cI cO R b pr_1 tm_2 cn_3 sm ac re kn)) [0, 1, 2, 3, 4, 5, 6, 7, 8, 9, 10, 11, 12, 13, 14, 15, 16, 17, 18, 19, 20] (by decide) rfl
      refine zgoi (va_runV (As := [.int (1 : Int32)]) (rest := [.ref sb5]) ⟨hx, hb, hml, hown, hts⟩ (c_X2_timesAt l D a cJ cI cO cB R b pr_1 tm_2 cn_3 sm ac re kn (1 : Int32) r57 e58 H.size) (cwV 1 hts gX1_textOfPowers_X2_timesAt rfl rfl rfl hdV_X2_timesAt ⟨Nat.le_of_ble_eq_true rfl, Nat.le_of_ble_eq_true rfl⟩) (zpreV (q0 := 17) (ci := 4) (T := TX2) (N := 3) hK hPc hDc rfl rfl [.int (1 : Int32)]) rfl rfl hl.1 rfl (lv_room (Nat.le_of_ble_eq_true rfl)) dX1_textOfPowers_62 ⟨Nat.le_of_ble_eq_true rfl, Nat.le_of_ble_eq_true rfl⟩) (va_free hD hS hA [0, 1, 2, 3, 4, 5, 6, 7, 8, 9, 10, 11, 12, 13, 14, 15, 16, 17, 18, 19, 20] rfl) (zjs (wn := (cW a cJ cI cO R b pr_1 tm_2 cn_3 sm ac re kn ++ (sW sb5 cB bv56 bc_52 bf_53 false bn_54))) [2, 3, 4, 5, 6, 7, 8, 9, 10, 11, 12, 13, 14, 15, 16, 17, 18, 19, 20, 21, 22, 0, 1] (zjF (wr := (sW sb5 cB bv56 bc_52 bf_53 false bn_54)) hP hD hS hA [0, 1, 2, 3, 4, 5, 6, 7, 8, 9, 10, 11, 12, 13, 14, 15, 16, 17, 18, 19, 20] [21, 22] rfl rfl (by decide) (by decide)) rfl (by decide)) hS (fun H locs hP hD hS => ?_)
      replace hP : va_P D vwCl (cW a cJ cI cO R b pr_1 tm_2 cn_3 sm ac re kn ++ (sW sb5 cB bv56 bc_52 bf_53 false bn_54)) H := hP
      replace hD : va_D A (cW a cJ cI cO R b pr_1 tm_2 cn_3 sm ac re kn ++ (sW sb5 cB bv56 bc_52 bf_53 false bn_54)) := hD
      obtain ⟨bc_59, bf_60, bn_61, e62, h⟩ := zb3_some h
      have hPc := zsub (wn := (sW sb5 cB bv56 bc_52 bf_53 false bn_54)) hP [21, 22] rfl
      have hDc := hD.sub (ws' := (sW sb5 cB bv56 bc_52 bf_53 false bn_54)) [21, 22] (by decide) rfl
      refine zgosr (va_runV (As := [.int r57]) (rest := []) ⟨hx, hb, hml, hown, hts⟩ (c_J4_append_bf812 l D sb5 cJ cI cO cB bv56 bc_52 bf_53 false bn_54 F r57 bc_59 bf_60 bn_61 e62 H.size) (cwV 1 hts gX1_textOfPowers_J4_append_bf812 rfl rfl rfl hdV_J4_append_bf812 ⟨Nat.le_of_ble_eq_true rfl, Nat.le_of_ble_eq_true rfl⟩) (zxpreV hE hS (va_free hD hS hA [21, 22] rfl) (q0 := 0) (ci := 1) (T := TJ4) (N := 4) hK hPc hDc rfl rfl [.int r57]) rfl rfl hl.1 rfl (lv_room (Nat.le_of_ble_eq_true rfl)) dX1_textOfPowers_65 ⟨Nat.le_of_ble_eq_true rfl, Nat.le_of_ble_eq_true rfl⟩) (va_free hD hS hA [21, 22] rfl) (fun bv63 => (zjs (wn := (cW a cJ cI cO R b pr_1 tm_2 cn_3 sm ac re kn ++ (sW sb5 cB bv63 bc_59 bf_60 false bn_61))) [0, 1, 2, 3, 4, 5, 6, 7, 8, 9, 10, 11, 12, 13, 14, 15, 16, 17, 18, 19, 20, 21, 22] (zjF (wr := (cW a cJ cI cO R b pr_1 tm_2 cn_3 sm ac re kn)) hP hD hS hA [21, 22] [0, 1, 2, 3, 4, 5, 6, 7, 8, 9, 10, 11, 12, 13, 14, 15, 16, 17, 18, 19, 20] rfl rfl (by decide) (by decide)) rfl (by decide))) hS (fun bv63 H locs hP hD hS => ?_)
      replace hP : va_P D vwCl (cW a cJ cI cO R b pr_1 tm_2 cn_3 sm ac re kn ++ (sW sb5 cB bv63 bc_59 bf_60 false bn_61)) H := hP
      replace hD : va_D A (cW a cJ cI cO R b pr_1 tm_2 cn_3 sm ac re kn ++ (sW sb5 cB bv63 bc_59 bf_60 false bn_61)) := hD
      refine lv_pop hx hb dX1_textOfPowers_68 rfl ?_
      refine lv_iinc (v := (2 : Int32)) (lv' := [(3, .int (2 : Int32)), (2, .ref sb5), (0, .ref (a 15)), (1, .int p0)]) hx hb dX1_textOfPowers_69 hl (k := 0) rfl (by decide) (by decide) rfl (fun ls hl => ?_)
      refine lv_goto (tgt := 18) hx hb dX1_textOfPowers_72 (by decide) ?_
      refine lv_iload_n hx hb dX1_textOfPowers_18 rfl (lv_at hl 0 rfl) ?_
      refine lv_aload_n hx hb dX1_textOfPowers_19 rfl (lv_at hl 2 rfl) ?_
      refine va_get (D := D) (ci := 3) (v := .ref (a 17)) (C := RX1) (T := TX1) (N := 2) hx hb hts kwX1 hown hK hP 15 rfl rfl 0 (by decide) kf_12 (fun _ h9 => h9) rfl dX1_textOfPowers_20 ?_
      obtain ⟨r64, e65, h⟩ := zb1_some h
      have hPc := zsub (wn := (cW a cJ cI cO R b pr_1 tm_2 cn_3 sm ac re kn)) hP [0, 1, 2, 3, 4, 5, 6, 7, 8, 9, 10, 11, 12, 13, 14, 15, 16, 17, 18, 19, 20] rfl
      have hDc := hD.sub (ws' := (cW a cJ cI cO R b pr_1 tm_2 cn_3 sm ac re kn)) [0, 1, 2, 3, 4, 5, 6, 7, 8, 9, 10, 11, 12, 13, 14, 15, 16, 17, 18, 19, 20] (by decide) rfl
      refine zgoi (va_runV (As := []) (rest := [.int (2 : Int32)]) ⟨hx, hb, hml, hown, hts⟩ (c_X2_count l D a cJ cI cO cB R b pr_1 tm_2 cn_3 sm ac re kn r64 e65 H.size) (cwV 0 hts gX1_textOfPowers_X2_count rfl rfl rfl hdV_X2_count ⟨Nat.le_of_ble_eq_true rfl, Nat.le_of_ble_eq_true rfl⟩) (zpreV (q0 := 17) (ci := 4) (T := TX2) (N := 3) hK hPc hDc rfl rfl []) rfl rfl hl.1 rfl (lv_room (Nat.le_of_ble_eq_true rfl)) dX1_textOfPowers_23 ⟨Nat.le_of_ble_eq_true rfl, Nat.le_of_ble_eq_true rfl⟩) (va_free hD hS hA [0, 1, 2, 3, 4, 5, 6, 7, 8, 9, 10, 11, 12, 13, 14, 15, 16, 17, 18, 19, 20] rfl) (zjs (wn := (cW a cJ cI cO R b pr_1 tm_2 cn_3 sm ac re kn ++ (sW sb5 cB bv63 bc_59 bf_60 false bn_61))) [2, 3, 4, 5, 6, 7, 8, 9, 10, 11, 12, 13, 14, 15, 16, 17, 18, 19, 20, 21, 22, 0, 1] (zjF (wr := (sW sb5 cB bv63 bc_59 bf_60 false bn_61)) hP hD hS hA [0, 1, 2, 3, 4, 5, 6, 7, 8, 9, 10, 11, 12, 13, 14, 15, 16, 17, 18, 19, 20] [21, 22] rfl rfl (by decide) (by decide)) rfl (by decide)) hS (fun H locs hP hD hS => ?_)
      replace hP : va_P D vwCl (cW a cJ cI cO R b pr_1 tm_2 cn_3 sm ac re kn ++ (sW sb5 cB bv63 bc_59 bf_60 false bn_61)) H := hP
      replace hD : va_D A (cW a cJ cI cO R b pr_1 tm_2 cn_3 sm ac re kn ++ (sW sb5 cB bv63 bc_59 bf_60 false bn_61)) := hD
      refine lv_icmp_ge (tgt := 75) hx hb dX1_textOfPowers_26 (by decide) (fun c26 => ?_) (fun c26 => ?_)
      · replace h := zif_t h c26
        refine lv_aload_n hx hb dX1_textOfPowers_75 rfl (lv_at hl 1 rfl) ?_
        obtain ⟨r68, r69, e70, h⟩ := zb2_some h
        have hPc := zsub (wn := ([(sb5, .inr (1, [.ref bv63, .int 0, .int (z01 false), .int bn_61])), (bv63, .inl (cB, bc_59, .inl bf_60))] : va_W)) hP [21, 22] rfl
        have hDc := hD.sub (ws' := ([(sb5, .inr (1, [.ref bv63, .int 0, .int (z01 false), .int bn_61])), (bv63, .inl (cB, bc_59, .inl bf_60))] : va_W)) [21, 22] (by decide) rfl
        refine zgoss (va_runV (As := []) (rest := []) ⟨hx, hb, hml, hown, hts⟩ (c_J4_toString_0e30d l D cJ cI cO cB sb5 bv63 bc_59 bf_60 false bn_61 r68 r69 e70 H.size) (cwV 0 hts gX1_textOfPowers_J4_toString_0e30d rfl rfl rfl hdV_J4_toString_0e30d ⟨Nat.le_of_ble_eq_true rfl, Nat.le_of_ble_eq_true rfl⟩) (zxpreV hE hS (va_free hD hS hA [21, 22] rfl) (q0 := 0) (ci := 1) (T := TJ4) (N := 4) hK hPc hDc rfl rfl []) rfl rfl hl.1 rfl (lv_room (Nat.le_of_ble_eq_true rfl)) dX1_textOfPowers_76 ⟨Nat.le_of_ble_eq_true rfl, Nat.le_of_ble_eq_true rfl⟩) (va_free hD hS hA [21, 22] rfl) (fun s66 u67 => zjs (wn := (cW a cJ cI cO R b pr_1 tm_2 cn_3 sm ac re kn ++ ([(s66, .inr (0, [.ref u67, .int 0, .int 0, .int 0])), (u67, .inl (cB, r68, .inl r69))]))) [0, 1, 2, 3, 4, 5, 6, 7, 8, 9, 10, 11, 12, 13, 14, 15, 16, 17, 18, 19, 20, 21, 22] (zjF (wr := (cW a cJ cI cO R b pr_1 tm_2 cn_3 sm ac re kn)) hP hD hS hA [21, 22] [0, 1, 2, 3, 4, 5, 6, 7, 8, 9, 10, 11, 12, 13, 14, 15, 16, 17, 18, 19, 20] rfl rfl (by decide) (by decide)) rfl (by decide)) hS (fun s66 u67 H locs hP hD hS => ?_)
        replace hP : va_P D vwCl (cW a cJ cI cO R b pr_1 tm_2 cn_3 sm ac re kn ++ ([(s66, .inr (0, [.ref u67, .int 0, .int 0, .int 0])), (u67, .inl (cB, r68, .inl r69))])) H := hP
        replace hD : va_D A (cW a cJ cI cO R b pr_1 tm_2 cn_3 sm ac re kn ++ ([(s66, .inr (0, [.ref u67, .int 0, .int 0, .int 0])), (u67, .inl (cB, r68, .inl r69))])) := hD
        have g0 := Option.some.inj h
        obtain ⟨h1, g1⟩ := Prod.mk.inj g0
        obtain ⟨h2, g2⟩ := Prod.mk.inj g1
        subst h1
        subst h2
        subst g2
        replace hP := zsub (wn := (cW a cJ cI cO R b pr_1 tm_2 cn_3 sm ac re kn)) hP [0, 1, 2, 3, 4, 5, 6, 7, 8, 9, 10, 11, 12, 13, 14, 15, 16, 17, 18, 19, 20] rfl
        replace hD := hD.sub (ws' := (cW a cJ cI cO R b pr_1 tm_2 cn_3 sm ac re kn)) [0, 1, 2, 3, 4, 5, 6, 7, 8, 9, 10, 11, 12, 13, 14, 15, 16, 17, 18, 19, 20] (by decide) rfl
        refine W.widen (k := 19) (n := 2424) (by decide) (by decide) ?_
        exact W.aret (v := .ref s66) hx hb hr (Or.inl ⟨_, rfl⟩) (Or.inr ⟨_, rfl⟩) (fun t ht hW => ⟨⟨(), s66, rfl, trivial, by rw [ht]; exact hP, va_K.moved hW.alike hK, hD⟩, hS.F ht⟩) hS.2.2 dX1_textOfPowers_79
      · replace h := zif_f h c26
        refine lv_iload_n hx hb dX1_textOfPowers_29 rfl (lv_at hl 0 rfl) ?_
        refine lv_if_le (tgt := 40) hx hb dX1_textOfPowers_30 (by decide) (fun c => absurd c (by decide)) (fun _ => ?_)
        refine lv_aload_n hx hb dX1_textOfPowers_33 rfl (lv_at hl 1 rfl) ?_
        refine lv_bipush (v := (32 : Int32)) hx hb dX1_textOfPowers_34 (by decide) ?_
        obtain ⟨bc_71, bf_72, bn_73, e74, h⟩ := zb3_some h
        have hPc := zsub (wn := (sW sb5 cB bv63 bc_59 bf_60 false bn_61)) hP [21, 22] rfl
        have hDc := hD.sub (ws' := (sW sb5 cB bv63 bc_59 bf_60 false bn_61)) [21, 22] (by decide) rfl
        refine zgosr (va_runV (As := [.int (32 : Int32)]) (rest := []) ⟨hx, hb, hml, hown, hts⟩ (c_J4_append_cf468 l D sb5 cJ cI cO cB bv63 bc_59 bf_60 false bn_61 (32 : Int32) bc_71 bf_72 bn_73 e74 H.size) (cwV 1 hts gX1_textOfPowers_J4_append_cf468 rfl rfl rfl hdV_J4_append_cf468 ⟨Nat.le_of_ble_eq_true rfl, Nat.le_of_ble_eq_true rfl⟩) (zxpreV hE hS (va_free hD hS hA [21, 22] rfl) (q0 := 0) (ci := 1) (T := TJ4) (N := 4) hK hPc hDc rfl rfl [.int (32 : Int32)]) rfl rfl hl.1 rfl (lv_room (Nat.le_of_ble_eq_true rfl)) dX1_textOfPowers_36 ⟨Nat.le_of_ble_eq_true rfl, Nat.le_of_ble_eq_true rfl⟩) (va_free hD hS hA [21, 22] rfl) (fun bv75 => (zjs (wn := (cW a cJ cI cO R b pr_1 tm_2 cn_3 sm ac re kn ++ (sW sb5 cB bv75 bc_71 bf_72 false bn_73))) [0, 1, 2, 3, 4, 5, 6, 7, 8, 9, 10, 11, 12, 13, 14, 15, 16, 17, 18, 19, 20, 21, 22] (zjF (wr := (cW a cJ cI cO R b pr_1 tm_2 cn_3 sm ac re kn)) hP hD hS hA [21, 22] [0, 1, 2, 3, 4, 5, 6, 7, 8, 9, 10, 11, 12, 13, 14, 15, 16, 17, 18, 19, 20] rfl rfl (by decide) (by decide)) rfl (by decide))) hS (fun bv75 H locs hP hD hS => ?_)
        replace hP : va_P D vwCl (cW a cJ cI cO R b pr_1 tm_2 cn_3 sm ac re kn ++ (sW sb5 cB bv75 bc_71 bf_72 false bn_73)) H := hP
        replace hD : va_D A (cW a cJ cI cO R b pr_1 tm_2 cn_3 sm ac re kn ++ (sW sb5 cB bv75 bc_71 bf_72 false bn_73)) := hD
        refine lv_pop hx hb dX1_textOfPowers_39 rfl ?_
        refine lv_aload_n hx hb dX1_textOfPowers_40 rfl (lv_at hl 1 rfl) ?_
        refine lv_aload_n hx hb dX1_textOfPowers_41 rfl (lv_at hl 2 rfl) ?_
        refine va_get (D := D) (ci := 3) (v := .ref (a 17)) (C := RX1) (T := TX1) (N := 2) hx hb hts kwX1 hown hK hP 15 rfl rfl 0 (by decide) kf_12 (fun _ h9 => h9) rfl dX1_textOfPowers_42 ?_
        refine lv_iload_n hx hb dX1_textOfPowers_45 rfl (lv_at hl 0 rfl) ?_
        obtain ⟨r76, e77, h⟩ := zb1_some h
        have hPc := zsub (wn := (cW a cJ cI cO R b pr_1 tm_2 cn_3 sm ac re kn)) hP [0, 1, 2, 3, 4, 5, 6, 7, 8, 9, 10, 11, 12, 13, 14, 15, 16, 17, 18, 19, 20] rfl
        have hDc := hD.sub (ws' := (cW a cJ cI cO R b pr_1 tm_2 cn_3 sm ac re kn)) [0, 1, 2, 3, 4, 5, 6, 7, 8, 9, 10, 11, 12, 13, 14, 15, 16, 17, 18, 19, 20] (by decide) rfl
        refine zgoi (va_runV (As := [.int (2 : Int32)]) (rest := [.ref sb5]) ⟨hx, hb, hml, hown, hts⟩ (c_X2_primeAt l D a cJ cI cO cB R b pr_1 tm_2 cn_3 sm ac re kn (2 : Int32) r76 e77 H.size) (cwV 1 hts gX1_textOfPowers_X2_primeAt rfl rfl rfl hdV_X2_primeAt ⟨Nat.le_of_ble_eq_true rfl, Nat.le_of_ble_eq_true rfl⟩) (zpreV (q0 := 17) (ci := 4) (T := TX2) (N := 3) hK hPc hDc rfl rfl [.int (2 : Int32)]) rfl rfl hl.1 rfl (lv_room (Nat.le_of_ble_eq_true rfl)) dX1_textOfPowers_46 ⟨Nat.le_of_ble_eq_true rfl, Nat.le_of_ble_eq_true rfl⟩) (va_free hD hS hA [0, 1, 2, 3, 4, 5, 6, 7, 8, 9, 10, 11, 12, 13, 14, 15, 16, 17, 18, 19, 20] rfl) (zjs (wn := (cW a cJ cI cO R b pr_1 tm_2 cn_3 sm ac re kn ++ (sW sb5 cB bv75 bc_71 bf_72 false bn_73))) [2, 3, 4, 5, 6, 7, 8, 9, 10, 11, 12, 13, 14, 15, 16, 17, 18, 19, 20, 21, 22, 0, 1] (zjF (wr := (sW sb5 cB bv75 bc_71 bf_72 false bn_73)) hP hD hS hA [0, 1, 2, 3, 4, 5, 6, 7, 8, 9, 10, 11, 12, 13, 14, 15, 16, 17, 18, 19, 20] [21, 22] rfl rfl (by decide) (by decide)) rfl (by decide)) hS (fun H locs hP hD hS => ?_)
        replace hP : va_P D vwCl (cW a cJ cI cO R b pr_1 tm_2 cn_3 sm ac re kn ++ (sW sb5 cB bv75 bc_71 bf_72 false bn_73)) H := hP
        replace hD : va_D A (cW a cJ cI cO R b pr_1 tm_2 cn_3 sm ac re kn ++ (sW sb5 cB bv75 bc_71 bf_72 false bn_73)) := hD
        obtain ⟨bc_78, bf_79, bn_80, e81, h⟩ := zb3_some h
        have hPc := zsub (wn := (sW sb5 cB bv75 bc_71 bf_72 false bn_73)) hP [21, 22] rfl
        have hDc := hD.sub (ws' := (sW sb5 cB bv75 bc_71 bf_72 false bn_73)) [21, 22] (by decide) rfl
        refine zgosr (va_runV (As := [.int r76]) (rest := []) ⟨hx, hb, hml, hown, hts⟩ (c_J4_append_bf812 l D sb5 cJ cI cO cB bv75 bc_71 bf_72 false bn_73 F r76 bc_78 bf_79 bn_80 e81 H.size) (cwV 1 hts gX1_textOfPowers_J4_append_bf812 rfl rfl rfl hdV_J4_append_bf812 ⟨Nat.le_of_ble_eq_true rfl, Nat.le_of_ble_eq_true rfl⟩) (zxpreV hE hS (va_free hD hS hA [21, 22] rfl) (q0 := 0) (ci := 1) (T := TJ4) (N := 4) hK hPc hDc rfl rfl [.int r76]) rfl rfl hl.1 rfl (lv_room (Nat.le_of_ble_eq_true rfl)) dX1_textOfPowers_49 ⟨Nat.le_of_ble_eq_true rfl, Nat.le_of_ble_eq_true rfl⟩) (va_free hD hS hA [21, 22] rfl) (fun bv82 => (zjs (wn := (cW a cJ cI cO R b pr_1 tm_2 cn_3 sm ac re kn ++ (sW sb5 cB bv82 bc_78 bf_79 false bn_80))) [0, 1, 2, 3, 4, 5, 6, 7, 8, 9, 10, 11, 12, 13, 14, 15, 16, 17, 18, 19, 20, 21, 22] (zjF (wr := (cW a cJ cI cO R b pr_1 tm_2 cn_3 sm ac re kn)) hP hD hS hA [21, 22] [0, 1, 2, 3, 4, 5, 6, 7, 8, 9, 10, 11, 12, 13, 14, 15, 16, 17, 18, 19, 20] rfl rfl (by decide) (by decide)) rfl (by decide))) hS (fun bv82 H locs hP hD hS => ?_)
        replace hP : va_P D vwCl (cW a cJ cI cO R b pr_1 tm_2 cn_3 sm ac re kn ++ (sW sb5 cB bv82 bc_78 bf_79 false bn_80)) H := hP
        replace hD : va_D A (cW a cJ cI cO R b pr_1 tm_2 cn_3 sm ac re kn ++ (sW sb5 cB bv82 bc_78 bf_79 false bn_80)) := hD
        refine lv_bipush (v := (94 : Int32)) hx hb dX1_textOfPowers_52 (by decide) ?_
        obtain ⟨bc_83, bf_84, bn_85, e86, h⟩ := zb3_some h
        have hPc := zsub (wn := (sW sb5 cB bv82 bc_78 bf_79 false bn_80)) hP [21, 22] rfl
        have hDc := hD.sub (ws' := (sW sb5 cB bv82 bc_78 bf_79 false bn_80)) [21, 22] (by decide) rfl
        refine zgosr (va_runV (As := [.int (94 : Int32)]) (rest := []) ⟨hx, hb, hml, hown, hts⟩ (c_J4_append_cf468 l D sb5 cJ cI cO cB bv82 bc_78 bf_79 false bn_80 (94 : Int32) bc_83 bf_84 bn_85 e86 H.size) (cwV 1 hts gX1_textOfPowers_J4_append_cf468 rfl rfl rfl hdV_J4_append_cf468 ⟨Nat.le_of_ble_eq_true rfl, Nat.le_of_ble_eq_true rfl⟩) (zxpreV hE hS (va_free hD hS hA [21, 22] rfl) (q0 := 0) (ci := 1) (T := TJ4) (N := 4) hK hPc hDc rfl rfl [.int (94 : Int32)]) rfl rfl hl.1 rfl (lv_room (Nat.le_of_ble_eq_true rfl)) dX1_textOfPowers_54 ⟨Nat.le_of_ble_eq_true rfl, Nat.le_of_ble_eq_true rfl⟩) (va_free hD hS hA [21, 22] rfl) (fun bv87 => (zjs (wn := (cW a cJ cI cO R b pr_1 tm_2 cn_3 sm ac re kn ++ (sW sb5 cB bv87 bc_83 bf_84 false bn_85))) [0, 1, 2, 3, 4, 5, 6, 7, 8, 9, 10, 11, 12, 13, 14, 15, 16, 17, 18, 19, 20, 21, 22] (zjF (wr := (cW a cJ cI cO R b pr_1 tm_2 cn_3 sm ac re kn)) hP hD hS hA [21, 22] [0, 1, 2, 3, 4, 5, 6, 7, 8, 9, 10, 11, 12, 13, 14, 15, 16, 17, 18, 19, 20] rfl rfl (by decide) (by decide)) rfl (by decide))) hS (fun bv87 H locs hP hD hS => ?_)
        replace hP : va_P D vwCl (cW a cJ cI cO R b pr_1 tm_2 cn_3 sm ac re kn ++ (sW sb5 cB bv87 bc_83 bf_84 false bn_85)) H := hP
        replace hD : va_D A (cW a cJ cI cO R b pr_1 tm_2 cn_3 sm ac re kn ++ (sW sb5 cB bv87 bc_83 bf_84 false bn_85)) := hD
        refine lv_aload_n hx hb dX1_textOfPowers_57 rfl (lv_at hl 2 rfl) ?_
        refine va_get (D := D) (ci := 3) (v := .ref (a 17)) (C := RX1) (T := TX1) (N := 2) hx hb hts kwX1 hown hK hP 15 rfl rfl 0 (by decide) kf_12 (fun _ h9 => h9) rfl dX1_textOfPowers_58 ?_
        refine lv_iload_n hx hb dX1_textOfPowers_61 rfl (lv_at hl 0 rfl) ?_
        obtain ⟨r88, e89, h⟩ := zb1_some h
        have hPc := zsub (wn := (cW a cJ cI cO R b pr_1 tm_2 cn_3 sm ac re kn)) hP [0, 1, 2, 3, 4, 5, 6, 7, 8, 9, 10, 11, 12, 13, 14, 15, 16, 17, 18, 19, 20] rfl
        have hDc := hD.sub (ws' := (cW a cJ cI cO R b pr_1 tm_2 cn_3 sm ac re kn)) [0, 1, 2, 3, 4, 5, 6, 7, 8, 9, 10, 11, 12, 13, 14, 15, 16, 17, 18, 19, 20] (by decide) rfl
        refine zgoi (va_runV (As := [.int (2 : Int32)]) (rest := [.ref sb5]) ⟨hx, hb, hml, hown, hts⟩ (c_X2_timesAt l D a cJ cI cO cB R b pr_1 tm_2 cn_3 sm ac re kn (2 : Int32) r88 e89 H.size) (cwV 1 hts gX1_textOfPowers_X2_timesAt rfl rfl rfl hdV_X2_timesAt ⟨Nat.le_of_ble_eq_true rfl, Nat.le_of_ble_eq_true rfl⟩) (zpreV (q0 := 17) (ci := 4) (T := TX2) (N := 3) hK hPc hDc rfl rfl [.int (2 : Int32)]) rfl rfl hl.1 rfl (lv_room (Nat.le_of_ble_eq_true rfl)) dX1_textOfPowers_62 ⟨Nat.le_of_ble_eq_true rfl, Nat.le_of_ble_eq_true rfl⟩) (va_free hD hS hA [0, 1, 2, 3, 4, 5, 6, 7, 8, 9, 10, 11, 12, 13, 14, 15, 16, 17, 18, 19, 20] rfl) (zjs (wn := (cW a cJ cI cO R b pr_1 tm_2 cn_3 sm ac re kn ++ (sW sb5 cB bv87 bc_83 bf_84 false bn_85))) [2, 3, 4, 5, 6, 7, 8, 9, 10, 11, 12, 13, 14, 15, 16, 17, 18, 19, 20, 21, 22, 0, 1] (zjF (wr := (sW sb5 cB bv87 bc_83 bf_84 false bn_85)) hP hD hS hA [0, 1, 2, 3, 4, 5, 6, 7, 8, 9, 10, 11, 12, 13, 14, 15, 16, 17, 18, 19, 20] [21, 22] rfl rfl (by decide) (by decide)) rfl (by decide)) hS (fun H locs hP hD hS => ?_)
        replace hP : va_P D vwCl (cW a cJ cI cO R b pr_1 tm_2 cn_3 sm ac re kn ++ (sW sb5 cB bv87 bc_83 bf_84 false bn_85)) H := hP
        replace hD : va_D A (cW a cJ cI cO R b pr_1 tm_2 cn_3 sm ac re kn ++ (sW sb5 cB bv87 bc_83 bf_84 false bn_85)) := hD
        obtain ⟨bc_90, bf_91, bn_92, e93, h⟩ := zb3_some h
        have hPc := zsub (wn := (sW sb5 cB bv87 bc_83 bf_84 false bn_85)) hP [21, 22] rfl
        have hDc := hD.sub (ws' := (sW sb5 cB bv87 bc_83 bf_84 false bn_85)) [21, 22] (by decide) rfl
        refine zgosr (va_runV (As := [.int r88]) (rest := []) ⟨hx, hb, hml, hown, hts⟩ (c_J4_append_bf812 l D sb5 cJ cI cO cB bv87 bc_83 bf_84 false bn_85 F r88 bc_90 bf_91 bn_92 e93 H.size) (cwV 1 hts gX1_textOfPowers_J4_append_bf812 rfl rfl rfl hdV_J4_append_bf812 ⟨Nat.le_of_ble_eq_true rfl, Nat.le_of_ble_eq_true rfl⟩) (zxpreV hE hS (va_free hD hS hA [21, 22] rfl) (q0 := 0) (ci := 1) (T := TJ4) (N := 4) hK hPc hDc rfl rfl [.int r88]) rfl rfl hl.1 rfl (lv_room (Nat.le_of_ble_eq_true rfl)) dX1_textOfPowers_65 ⟨Nat.le_of_ble_eq_true rfl, Nat.le_of_ble_eq_true rfl⟩) (va_free hD hS hA [21, 22] rfl) (fun bv94 => (zjs (wn := (cW a cJ cI cO R b pr_1 tm_2 cn_3 sm ac re kn ++ (sW sb5 cB bv94 bc_90 bf_91 false bn_92))) [0, 1, 2, 3, 4, 5, 6, 7, 8, 9, 10, 11, 12, 13, 14, 15, 16, 17, 18, 19, 20, 21, 22] (zjF (wr := (cW a cJ cI cO R b pr_1 tm_2 cn_3 sm ac re kn)) hP hD hS hA [21, 22] [0, 1, 2, 3, 4, 5, 6, 7, 8, 9, 10, 11, 12, 13, 14, 15, 16, 17, 18, 19, 20] rfl rfl (by decide) (by decide)) rfl (by decide))) hS (fun bv94 H locs hP hD hS => ?_)
        replace hP : va_P D vwCl (cW a cJ cI cO R b pr_1 tm_2 cn_3 sm ac re kn ++ (sW sb5 cB bv94 bc_90 bf_91 false bn_92)) H := hP
        replace hD : va_D A (cW a cJ cI cO R b pr_1 tm_2 cn_3 sm ac re kn ++ (sW sb5 cB bv94 bc_90 bf_91 false bn_92)) := hD
        refine lv_pop hx hb dX1_textOfPowers_68 rfl ?_
        refine lv_iinc (v := (3 : Int32)) (lv' := [(3, .int (3 : Int32)), (2, .ref sb5), (0, .ref (a 15)), (1, .int p0)]) hx hb dX1_textOfPowers_69 hl (k := 0) rfl (by decide) (by decide) rfl (fun ls hl => ?_)
        refine lv_goto (tgt := 18) hx hb dX1_textOfPowers_72 (by decide) ?_
        refine lv_iload_n hx hb dX1_textOfPowers_18 rfl (lv_at hl 0 rfl) ?_
        refine lv_aload_n hx hb dX1_textOfPowers_19 rfl (lv_at hl 2 rfl) ?_
        refine va_get (D := D) (ci := 3) (v := .ref (a 17)) (C := RX1) (T := TX1) (N := 2) hx hb hts kwX1 hown hK hP 15 rfl rfl 0 (by decide) kf_12 (fun _ h9 => h9) rfl dX1_textOfPowers_20 ?_
        obtain ⟨r95, e96, h⟩ := zb1_some h
        have hPc := zsub (wn := (cW a cJ cI cO R b pr_1 tm_2 cn_3 sm ac re kn)) hP [0, 1, 2, 3, 4, 5, 6, 7, 8, 9, 10, 11, 12, 13, 14, 15, 16, 17, 18, 19, 20] rfl
        have hDc := hD.sub (ws' := (cW a cJ cI cO R b pr_1 tm_2 cn_3 sm ac re kn)) [0, 1, 2, 3, 4, 5, 6, 7, 8, 9, 10, 11, 12, 13, 14, 15, 16, 17, 18, 19, 20] (by decide) rfl
        refine zgoi (va_runV (As := []) (rest := [.int (3 : Int32)]) ⟨hx, hb, hml, hown, hts⟩ (c_X2_count l D a cJ cI cO cB R b pr_1 tm_2 cn_3 sm ac re kn r95 e96 H.size) (cwV 0 hts gX1_textOfPowers_X2_count rfl rfl rfl hdV_X2_count ⟨Nat.le_of_ble_eq_true rfl, Nat.le_of_ble_eq_true rfl⟩) (zpreV (q0 := 17) (ci := 4) (T := TX2) (N := 3) hK hPc hDc rfl rfl []) rfl rfl hl.1 rfl (lv_room (Nat.le_of_ble_eq_true rfl)) dX1_textOfPowers_23 ⟨Nat.le_of_ble_eq_true rfl, Nat.le_of_ble_eq_true rfl⟩) (va_free hD hS hA [0, 1, 2, 3, 4, 5, 6, 7, 8, 9, 10, 11, 12, 13, 14, 15, 16, 17, 18, 19, 20] rfl) (zjs (wn := (cW a cJ cI cO R b pr_1 tm_2 cn_3 sm ac re kn ++ (sW sb5 cB bv94 bc_90 bf_91 false bn_92))) [2, 3, 4, 5, 6, 7, 8, 9, 10, 11, 12, 13, 14, 15, 16, 17, 18, 19, 20, 21, 22, 0, 1] (zjF (wr := (sW sb5 cB bv94 bc_90 bf_91 false bn_92)) hP hD hS hA [0, 1, 2, 3, 4, 5, 6, 7, 8, 9, 10, 11, 12, 13, 14, 15, 16, 17, 18, 19, 20] [21, 22] rfl rfl (by decide) (by decide)) rfl (by decide)) hS (fun H locs hP hD hS => ?_)
        replace hP : va_P D vwCl (cW a cJ cI cO R b pr_1 tm_2 cn_3 sm ac re kn ++ (sW sb5 cB bv94 bc_90 bf_91 false bn_92)) H := hP
        replace hD : va_D A (cW a cJ cI cO R b pr_1 tm_2 cn_3 sm ac re kn ++ (sW sb5 cB bv94 bc_90 bf_91 false bn_92)) := hD
        refine lv_icmp_ge (tgt := 75) hx hb dX1_textOfPowers_26 (by decide) (fun c26 => ?_) (fun c26 => ?_)
        · replace h := zif_t h c26
          refine lv_aload_n hx hb dX1_textOfPowers_75 rfl (lv_at hl 1 rfl) ?_
          obtain ⟨r99, r100, e101, h⟩ := zb2_some h
          have hPc := zsub (wn := ([(sb5, .inr (1, [.ref bv94, .int 0, .int (z01 false), .int bn_92])), (bv94, .inl (cB, bc_90, .inl bf_91))] : va_W)) hP [21, 22] rfl
          have hDc := hD.sub (ws' := ([(sb5, .inr (1, [.ref bv94, .int 0, .int (z01 false), .int bn_92])), (bv94, .inl (cB, bc_90, .inl bf_91))] : va_W)) [21, 22] (by decide) rfl
          refine zgoss (va_runV (As := []) (rest := []) ⟨hx, hb, hml, hown, hts⟩ (c_J4_toString_0e30d l D cJ cI cO cB sb5 bv94 bc_90 bf_91 false bn_92 r99 r100 e101 H.size) (cwV 0 hts gX1_textOfPowers_J4_toString_0e30d rfl rfl rfl hdV_J4_toString_0e30d ⟨Nat.le_of_ble_eq_true rfl, Nat.le_of_ble_eq_true rfl⟩) (zxpreV hE hS (va_free hD hS hA [21, 22] rfl) (q0 := 0) (ci := 1) (T := TJ4) (N := 4) hK hPc hDc rfl rfl []) rfl rfl hl.1 rfl (lv_room (Nat.le_of_ble_eq_true rfl)) dX1_textOfPowers_76 ⟨Nat.le_of_ble_eq_true rfl, Nat.le_of_ble_eq_true rfl⟩) (va_free hD hS hA [21, 22] rfl) (fun s97 u98 => zjs (wn := (cW a cJ cI cO R b pr_1 tm_2 cn_3 sm ac re kn ++ ([(s97, .inr (0, [.ref u98, .int 0, .int 0, .int 0])), (u98, .inl (cB, r99, .inl r100))]))) [0, 1, 2, 3, 4, 5, 6, 7, 8, 9, 10, 11, 12, 13, 14, 15, 16, 17, 18, 19, 20, 21, 22] (zjF (wr := (cW a cJ cI cO R b pr_1 tm_2 cn_3 sm ac re kn)) hP hD hS hA [21, 22] [0, 1, 2, 3, 4, 5, 6, 7, 8, 9, 10, 11, 12, 13, 14, 15, 16, 17, 18, 19, 20] rfl rfl (by decide) (by decide)) rfl (by decide)) hS (fun s97 u98 H locs hP hD hS => ?_)
          replace hP : va_P D vwCl (cW a cJ cI cO R b pr_1 tm_2 cn_3 sm ac re kn ++ ([(s97, .inr (0, [.ref u98, .int 0, .int 0, .int 0])), (u98, .inl (cB, r99, .inl r100))])) H := hP
          replace hD : va_D A (cW a cJ cI cO R b pr_1 tm_2 cn_3 sm ac re kn ++ ([(s97, .inr (0, [.ref u98, .int 0, .int 0, .int 0])), (u98, .inl (cB, r99, .inl r100))])) := hD
          have g0 := Option.some.inj h
          obtain ⟨h1, g1⟩ := Prod.mk.inj g0
          obtain ⟨h2, g2⟩ := Prod.mk.inj g1
          subst h1
          subst h2
          subst g2
          replace hP := zsub (wn := (cW a cJ cI cO R b pr_1 tm_2 cn_3 sm ac re kn)) hP [0, 1, 2, 3, 4, 5, 6, 7, 8, 9, 10, 11, 12, 13, 14, 15, 16, 17, 18, 19, 20] rfl
          replace hD := hD.sub (ws' := (cW a cJ cI cO R b pr_1 tm_2 cn_3 sm ac re kn)) [0, 1, 2, 3, 4, 5, 6, 7, 8, 9, 10, 11, 12, 13, 14, 15, 16, 17, 18, 19, 20] (by decide) rfl
          refine W.widen (k := 19) (n := 2424) (by decide) (by decide) ?_
          exact W.aret (v := .ref s97) hx hb hr (Or.inl ⟨_, rfl⟩) (Or.inr ⟨_, rfl⟩) (fun t ht hW => ⟨⟨(), s97, rfl, trivial, by rw [ht]; exact hP, va_K.moved hW.alike hK, hD⟩, hS.F ht⟩) hS.2.2 dX1_textOfPowers_79
        · replace h := zif_f h c26
          refine lv_iload_n hx hb dX1_textOfPowers_29 rfl (lv_at hl 0 rfl) ?_
          refine lv_if_le (tgt := 40) hx hb dX1_textOfPowers_30 (by decide) (fun c => absurd c (by decide)) (fun _ => ?_)
          refine lv_aload_n hx hb dX1_textOfPowers_33 rfl (lv_at hl 1 rfl) ?_
          refine lv_bipush (v := (32 : Int32)) hx hb dX1_textOfPowers_34 (by decide) ?_
          obtain ⟨bc_102, bf_103, bn_104, e105, h⟩ := zb3_some h
          have hPc := zsub (wn := (sW sb5 cB bv94 bc_90 bf_91 false bn_92)) hP [21, 22] rfl
          have hDc := hD.sub (ws' := (sW sb5 cB bv94 bc_90 bf_91 false bn_92)) [21, 22] (by decide) rfl
          refine zgosr (va_runV (As := [.int (32 : Int32)]) (rest := []) ⟨hx, hb, hml, hown, hts⟩ (c_J4_append_cf468 l D sb5 cJ cI cO cB bv94 bc_90 bf_91 false bn_92 (32 : Int32) bc_102 bf_103 bn_104 e105 H.size) (cwV 1 hts gX1_textOfPowers_J4_append_cf468 rfl rfl rfl hdV_J4_append_cf468 ⟨Nat.le_of_ble_eq_true rfl, Nat.le_of_ble_eq_true rfl⟩) (zxpreV hE hS (va_free hD hS hA [21, 22] rfl) (q0 := 0) (ci := 1) (T := TJ4) (N := 4) hK hPc hDc rfl rfl [.int (32 : Int32)]) rfl rfl hl.1 rfl (lv_room (Nat.le_of_ble_eq_true rfl)) dX1_textOfPowers_36 ⟨Nat.le_of_ble_eq_true rfl, Nat.le_of_ble_eq_true rfl⟩) (va_free hD hS hA [21, 22] rfl) (fun bv106 => (zjs (wn := (cW a cJ cI cO R b pr_1 tm_2 cn_3 sm ac re kn ++ (sW sb5 cB bv106 bc_102 bf_103 false bn_104))) [0, 1, 2, 3, 4, 5, 6, 7, 8, 9, 10, 11, 12, 13, 14, 15, 16, 17, 18, 19, 20, 21, 22] (zjF (wr := (cW a cJ cI cO R b pr_1 tm_2 cn_3 sm ac re kn)) hP hD hS hA [21, 22] [0, 1, 2, 3, 4, 5, 6, 7, 8, 9, 10, 11, 12, 13, 14, 15, 16, 17, 18, 19, 20] rfl rfl (by decide) (by decide)) rfl (by decide))) hS (fun bv106 H locs hP hD hS => ?_)
          replace hP : va_P D vwCl (cW a cJ cI cO R b pr_1 tm_2 cn_3 sm ac re kn ++ (sW sb5 cB bv106 bc_102 bf_103 false bn_104)) H := hP
          replace hD : va_D A (cW a cJ cI cO R b pr_1 tm_2 cn_3 sm ac re kn ++ (sW sb5 cB bv106 bc_102 bf_103 false bn_104)) := hD
          refine lv_pop hx hb dX1_textOfPowers_39 rfl ?_
          refine lv_aload_n hx hb dX1_textOfPowers_40 rfl (lv_at hl 1 rfl) ?_
          refine lv_aload_n hx hb dX1_textOfPowers_41 rfl (lv_at hl 2 rfl) ?_
          refine va_get (D := D) (ci := 3) (v := .ref (a 17)) (C := RX1) (T := TX1) (N := 2) hx hb hts kwX1 hown hK hP 15 rfl rfl 0 (by decide) kf_12 (fun _ h9 => h9) rfl dX1_textOfPowers_42 ?_
          refine lv_iload_n hx hb dX1_textOfPowers_45 rfl (lv_at hl 0 rfl) ?_
          obtain ⟨r107, e108, h⟩ := zb1_some h
          have hPc := zsub (wn := (cW a cJ cI cO R b pr_1 tm_2 cn_3 sm ac re kn)) hP [0, 1, 2, 3, 4, 5, 6, 7, 8, 9, 10, 11, 12, 13, 14, 15, 16, 17, 18, 19, 20] rfl
          have hDc := hD.sub (ws' := (cW a cJ cI cO R b pr_1 tm_2 cn_3 sm ac re kn)) [0, 1, 2, 3, 4, 5, 6, 7, 8, 9, 10, 11, 12, 13, 14, 15, 16, 17, 18, 19, 20] (by decide) rfl
          refine zgoi (va_runV (As := [.int (3 : Int32)]) (rest := [.ref sb5]) ⟨hx, hb, hml, hown, hts⟩ (c_X2_primeAt l D a cJ cI cO cB R b pr_1 tm_2 cn_3 sm ac re kn (3 : Int32) r107 e108 H.size) (cwV 1 hts gX1_textOfPowers_X2_primeAt rfl rfl rfl hdV_X2_primeAt ⟨Nat.le_of_ble_eq_true rfl, Nat.le_of_ble_eq_true rfl⟩) (zpreV (q0 := 17) (ci := 4) (T := TX2) (N := 3) hK hPc hDc rfl rfl [.int (3 : Int32)]) rfl rfl hl.1 rfl (lv_room (Nat.le_of_ble_eq_true rfl)) dX1_textOfPowers_46 ⟨Nat.le_of_ble_eq_true rfl, Nat.le_of_ble_eq_true rfl⟩) (va_free hD hS hA [0, 1, 2, 3, 4, 5, 6, 7, 8, 9, 10, 11, 12, 13, 14, 15, 16, 17, 18, 19, 20] rfl) (zjs (wn := (cW a cJ cI cO R b pr_1 tm_2 cn_3 sm ac re kn ++ (sW sb5 cB bv106 bc_102 bf_103 false bn_104))) [2, 3, 4, 5, 6, 7, 8, 9, 10, 11, 12, 13, 14, 15, 16, 17, 18, 19, 20, 21, 22, 0, 1] (zjF (wr := (sW sb5 cB bv106 bc_102 bf_103 false bn_104)) hP hD hS hA [0, 1, 2, 3, 4, 5, 6, 7, 8, 9, 10, 11, 12, 13, 14, 15, 16, 17, 18, 19, 20] [21, 22] rfl rfl (by decide) (by decide)) rfl (by decide)) hS (fun H locs hP hD hS => ?_)
          replace hP : va_P D vwCl (cW a cJ cI cO R b pr_1 tm_2 cn_3 sm ac re kn ++ (sW sb5 cB bv106 bc_102 bf_103 false bn_104)) H := hP
          replace hD : va_D A (cW a cJ cI cO R b pr_1 tm_2 cn_3 sm ac re kn ++ (sW sb5 cB bv106 bc_102 bf_103 false bn_104)) := hD
          obtain ⟨bc_109, bf_110, bn_111, e112, h⟩ := zb3_some h
          have hPc := zsub (wn := (sW sb5 cB bv106 bc_102 bf_103 false bn_104)) hP [21, 22] rfl
          have hDc := hD.sub (ws' := (sW sb5 cB bv106 bc_102 bf_103 false bn_104)) [21, 22] (by decide) rfl
          refine zgosr (va_runV (As := [.int r107]) (rest := []) ⟨hx, hb, hml, hown, hts⟩ (c_J4_append_bf812 l D sb5 cJ cI cO cB bv106 bc_102 bf_103 false bn_104 F r107 bc_109 bf_110 bn_111 e112 H.size) (cwV 1 hts gX1_textOfPowers_J4_append_bf812 rfl rfl rfl hdV_J4_append_bf812 ⟨Nat.le_of_ble_eq_true rfl, Nat.le_of_ble_eq_true rfl⟩) (zxpreV hE hS (va_free hD hS hA [21, 22] rfl) (q0 := 0) (ci := 1) (T := TJ4) (N := 4) hK hPc hDc rfl rfl [.int r107]) rfl rfl hl.1 rfl (lv_room (Nat.le_of_ble_eq_true rfl)) dX1_textOfPowers_49 ⟨Nat.le_of_ble_eq_true rfl, Nat.le_of_ble_eq_true rfl⟩) (va_free hD hS hA [21, 22] rfl) (fun bv113 => (zjs (wn := (cW a cJ cI cO R b pr_1 tm_2 cn_3 sm ac re kn ++ (sW sb5 cB bv113 bc_109 bf_110 false bn_111))) [0, 1, 2, 3, 4, 5, 6, 7, 8, 9, 10, 11, 12, 13, 14, 15, 16, 17, 18, 19, 20, 21, 22] (zjF (wr := (cW a cJ cI cO R b pr_1 tm_2 cn_3 sm ac re kn)) hP hD hS hA [21, 22] [0, 1, 2, 3, 4, 5, 6, 7, 8, 9, 10, 11, 12, 13, 14, 15, 16, 17, 18, 19, 20] rfl rfl (by decide) (by decide)) rfl (by decide))) hS (fun bv113 H locs hP hD hS => ?_)
          replace hP : va_P D vwCl (cW a cJ cI cO R b pr_1 tm_2 cn_3 sm ac re kn ++ (sW sb5 cB bv113 bc_109 bf_110 false bn_111)) H := hP
          replace hD : va_D A (cW a cJ cI cO R b pr_1 tm_2 cn_3 sm ac re kn ++ (sW sb5 cB bv113 bc_109 bf_110 false bn_111)) := hD
          refine lv_bipush (v := (94 : Int32)) hx hb dX1_textOfPowers_52 (by decide) ?_
          obtain ⟨bc_114, bf_115, bn_116, e117, h⟩ := zb3_some h
          have hPc := zsub (wn := (sW sb5 cB bv113 bc_109 bf_110 false bn_111)) hP [21, 22] rfl
          have hDc := hD.sub (ws' := (sW sb5 cB bv113 bc_109 bf_110 false bn_111)) [21, 22] (by decide) rfl
          refine zgosr (va_runV (As := [.int (94 : Int32)]) (rest := []) ⟨hx, hb, hml, hown, hts⟩ (c_J4_append_cf468 l D sb5 cJ cI cO cB bv113 bc_109 bf_110 false bn_111 (94 : Int32) bc_114 bf_115 bn_116 e117 H.size) (cwV 1 hts gX1_textOfPowers_J4_append_cf468 rfl rfl rfl hdV_J4_append_cf468 ⟨Nat.le_of_ble_eq_true rfl, Nat.le_of_ble_eq_true rfl⟩) (zxpreV hE hS (va_free hD hS hA [21, 22] rfl) (q0 := 0) (ci := 1) (T := TJ4) (N := 4) hK hPc hDc rfl rfl [.int (94 : Int32)]) rfl rfl hl.1 rfl (lv_room (Nat.le_of_ble_eq_true rfl)) dX1_textOfPowers_54 ⟨Nat.le_of_ble_eq_true rfl, Nat.le_of_ble_eq_true rfl⟩) (va_free hD hS hA [21, 22] rfl) (fun bv118 => (zjs (wn := (cW a cJ cI cO R b pr_1 tm_2 cn_3 sm ac re kn ++ (sW sb5 cB bv118 bc_114 bf_115 false bn_116))) [0, 1, 2, 3, 4, 5, 6, 7, 8, 9, 10, 11, 12, 13, 14, 15, 16, 17, 18, 19, 20, 21, 22] (zjF (wr := (cW a cJ cI cO R b pr_1 tm_2 cn_3 sm ac re kn)) hP hD hS hA [21, 22] [0, 1, 2, 3, 4, 5, 6, 7, 8, 9, 10, 11, 12, 13, 14, 15, 16, 17, 18, 19, 20] rfl rfl (by decide) (by decide)) rfl (by decide))) hS (fun bv118 H locs hP hD hS => ?_)
          replace hP : va_P D vwCl (cW a cJ cI cO R b pr_1 tm_2 cn_3 sm ac re kn ++ (sW sb5 cB bv118 bc_114 bf_115 false bn_116)) H := hP
          replace hD : va_D A (cW a cJ cI cO R b pr_1 tm_2 cn_3 sm ac re kn ++ (sW sb5 cB bv118 bc_114 bf_115 false bn_116)) := hD
          refine lv_aload_n hx hb dX1_textOfPowers_57 rfl (lv_at hl 2 rfl) ?_
          refine va_get (D := D) (ci := 3) (v := .ref (a 17)) (C := RX1) (T := TX1) (N := 2) hx hb hts kwX1 hown hK hP 15 rfl rfl 0 (by decide) kf_12 (fun _ h9 => h9) rfl dX1_textOfPowers_58 ?_
          refine lv_iload_n hx hb dX1_textOfPowers_61 rfl (lv_at hl 0 rfl) ?_
          obtain ⟨r119, e120, h⟩ := zb1_some h
          have hPc := zsub (wn := (cW a cJ cI cO R b pr_1 tm_2 cn_3 sm ac re kn)) hP [0, 1, 2, 3, 4, 5, 6, 7, 8, 9, 10, 11, 12, 13, 14, 15, 16, 17, 18, 19, 20] rfl
          have hDc := hD.sub (ws' := (cW a cJ cI cO R b pr_1 tm_2 cn_3 sm ac re kn)) [0, 1, 2, 3, 4, 5, 6, 7, 8, 9, 10, 11, 12, 13, 14, 15, 16, 17, 18, 19, 20] (by decide) rfl
          refine zgoi (va_runV (As := [.int (3 : Int32)]) (rest := [.ref sb5]) ⟨hx, hb, hml, hown, hts⟩ (c_X2_timesAt l D a cJ cI cO cB R b pr_1 tm_2 cn_3 sm ac re kn (3 : Int32) r119 e120 H.size) (cwV 1 hts gX1_textOfPowers_X2_timesAt rfl rfl rfl hdV_X2_timesAt ⟨Nat.le_of_ble_eq_true rfl, Nat.le_of_ble_eq_true rfl⟩) (zpreV (q0 := 17) (ci := 4) (T := TX2) (N := 3) hK hPc hDc rfl rfl [.int (3 : Int32)]) rfl rfl hl.1 rfl (lv_room (Nat.le_of_ble_eq_true rfl)) dX1_textOfPowers_62 ⟨Nat.le_of_ble_eq_true rfl, Nat.le_of_ble_eq_true rfl⟩) (va_free hD hS hA [0, 1, 2, 3, 4, 5, 6, 7, 8, 9, 10, 11, 12, 13, 14, 15, 16, 17, 18, 19, 20] rfl) (zjs (wn := (cW a cJ cI cO R b pr_1 tm_2 cn_3 sm ac re kn ++ (sW sb5 cB bv118 bc_114 bf_115 false bn_116))) [2, 3, 4, 5, 6, 7, 8, 9, 10, 11, 12, 13, 14, 15, 16, 17, 18, 19, 20, 21, 22, 0, 1] (zjF (wr := (sW sb5 cB bv118 bc_114 bf_115 false bn_116)) hP hD hS hA [0, 1, 2, 3, 4, 5, 6, 7, 8, 9, 10, 11, 12, 13, 14, 15, 16, 17, 18, 19, 20] [21, 22] rfl rfl (by decide) (by decide)) rfl (by decide)) hS (fun H locs hP hD hS => ?_)
          replace hP : va_P D vwCl (cW a cJ cI cO R b pr_1 tm_2 cn_3 sm ac re kn ++ (sW sb5 cB bv118 bc_114 bf_115 false bn_116)) H := hP
          replace hD : va_D A (cW a cJ cI cO R b pr_1 tm_2 cn_3 sm ac re kn ++ (sW sb5 cB bv118 bc_114 bf_115 false bn_116)) := hD
          obtain ⟨bc_121, bf_122, bn_123, e124, h⟩ := zb3_some h
          have hPc := zsub (wn := (sW sb5 cB bv118 bc_114 bf_115 false bn_116)) hP [21, 22] rfl
          have hDc := hD.sub (ws' := (sW sb5 cB bv118 bc_114 bf_115 false bn_116)) [21, 22] (by decide) rfl
          refine zgosr (va_runV (As := [.int r119]) (rest := []) ⟨hx, hb, hml, hown, hts⟩ (c_J4_append_bf812 l D sb5 cJ cI cO cB bv118 bc_114 bf_115 false bn_116 F r119 bc_121 bf_122 bn_123 e124 H.size) (cwV 1 hts gX1_textOfPowers_J4_append_bf812 rfl rfl rfl hdV_J4_append_bf812 ⟨Nat.le_of_ble_eq_true rfl, Nat.le_of_ble_eq_true rfl⟩) (zxpreV hE hS (va_free hD hS hA [21, 22] rfl) (q0 := 0) (ci := 1) (T := TJ4) (N := 4) hK hPc hDc rfl rfl [.int r119]) rfl rfl hl.1 rfl (lv_room (Nat.le_of_ble_eq_true rfl)) dX1_textOfPowers_65 ⟨Nat.le_of_ble_eq_true rfl, Nat.le_of_ble_eq_true rfl⟩) (va_free hD hS hA [21, 22] rfl) (fun bv125 => (zjs (wn := (cW a cJ cI cO R b pr_1 tm_2 cn_3 sm ac re kn ++ (sW sb5 cB bv125 bc_121 bf_122 false bn_123))) [0, 1, 2, 3, 4, 5, 6, 7, 8, 9, 10, 11, 12, 13, 14, 15, 16, 17, 18, 19, 20, 21, 22] (zjF (wr := (cW a cJ cI cO R b pr_1 tm_2 cn_3 sm ac re kn)) hP hD hS hA [21, 22] [0, 1, 2, 3, 4, 5, 6, 7, 8, 9, 10, 11, 12, 13, 14, 15, 16, 17, 18, 19, 20] rfl rfl (by decide) (by decide)) rfl (by decide))) hS (fun bv125 H locs hP hD hS => ?_)
          replace hP : va_P D vwCl (cW a cJ cI cO R b pr_1 tm_2 cn_3 sm ac re kn ++ (sW sb5 cB bv125 bc_121 bf_122 false bn_123)) H := hP
          replace hD : va_D A (cW a cJ cI cO R b pr_1 tm_2 cn_3 sm ac re kn ++ (sW sb5 cB bv125 bc_121 bf_122 false bn_123)) := hD
          refine lv_pop hx hb dX1_textOfPowers_68 rfl ?_
          refine lv_iinc (v := (4 : Int32)) (lv' := [(3, .int (4 : Int32)), (2, .ref sb5), (0, .ref (a 15)), (1, .int p0)]) hx hb dX1_textOfPowers_69 hl (k := 0) rfl (by decide) (by decide) rfl (fun ls hl => ?_)
          refine lv_goto (tgt := 18) hx hb dX1_textOfPowers_72 (by decide) ?_
          refine lv_iload_n hx hb dX1_textOfPowers_18 rfl (lv_at hl 0 rfl) ?_
          refine lv_aload_n hx hb dX1_textOfPowers_19 rfl (lv_at hl 2 rfl) ?_
          refine va_get (D := D) (ci := 3) (v := .ref (a 17)) (C := RX1) (T := TX1) (N := 2) hx hb hts kwX1 hown hK hP 15 rfl rfl 0 (by decide) kf_12 (fun _ h9 => h9) rfl dX1_textOfPowers_20 ?_
          obtain ⟨r126, e127, h⟩ := zb1_some h
          have hPc := zsub (wn := (cW a cJ cI cO R b pr_1 tm_2 cn_3 sm ac re kn)) hP [0, 1, 2, 3, 4, 5, 6, 7, 8, 9, 10, 11, 12, 13, 14, 15, 16, 17, 18, 19, 20] rfl
          have hDc := hD.sub (ws' := (cW a cJ cI cO R b pr_1 tm_2 cn_3 sm ac re kn)) [0, 1, 2, 3, 4, 5, 6, 7, 8, 9, 10, 11, 12, 13, 14, 15, 16, 17, 18, 19, 20] (by decide) rfl
          refine zgoi (va_runV (As := []) (rest := [.int (4 : Int32)]) ⟨hx, hb, hml, hown, hts⟩ (c_X2_count l D a cJ cI cO cB R b pr_1 tm_2 cn_3 sm ac re kn r126 e127 H.size) (cwV 0 hts gX1_textOfPowers_X2_count rfl rfl rfl hdV_X2_count ⟨Nat.le_of_ble_eq_true rfl, Nat.le_of_ble_eq_true rfl⟩) (zpreV (q0 := 17) (ci := 4) (T := TX2) (N := 3) hK hPc hDc rfl rfl []) rfl rfl hl.1 rfl (lv_room (Nat.le_of_ble_eq_true rfl)) dX1_textOfPowers_23 ⟨Nat.le_of_ble_eq_true rfl, Nat.le_of_ble_eq_true rfl⟩) (va_free hD hS hA [0, 1, 2, 3, 4, 5, 6, 7, 8, 9, 10, 11, 12, 13, 14, 15, 16, 17, 18, 19, 20] rfl) (zjs (wn := (cW a cJ cI cO R b pr_1 tm_2 cn_3 sm ac re kn ++ (sW sb5 cB bv125 bc_121 bf_122 false bn_123))) [2, 3, 4, 5, 6, 7, 8, 9, 10, 11, 12, 13, 14, 15, 16, 17, 18, 19, 20, 21, 22, 0, 1] (zjF (wr := (sW sb5 cB bv125 bc_121 bf_122 false bn_123)) hP hD hS hA [0, 1, 2, 3, 4, 5, 6, 7, 8, 9, 10, 11, 12, 13, 14, 15, 16, 17, 18, 19, 20] [21, 22] rfl rfl (by decide) (by decide)) rfl (by decide)) hS (fun H locs hP hD hS => ?_)
          replace hP : va_P D vwCl (cW a cJ cI cO R b pr_1 tm_2 cn_3 sm ac re kn ++ (sW sb5 cB bv125 bc_121 bf_122 false bn_123)) H := hP
          replace hD : va_D A (cW a cJ cI cO R b pr_1 tm_2 cn_3 sm ac re kn ++ (sW sb5 cB bv125 bc_121 bf_122 false bn_123)) := hD
          refine lv_icmp_ge (tgt := 75) hx hb dX1_textOfPowers_26 (by decide) (fun c26 => ?_) (fun c26 => ?_)
          · replace h := zif_t h c26
            refine lv_aload_n hx hb dX1_textOfPowers_75 rfl (lv_at hl 1 rfl) ?_
            obtain ⟨r130, r131, e132, h⟩ := zb2_some h
            have hPc := zsub (wn := ([(sb5, .inr (1, [.ref bv125, .int 0, .int (z01 false), .int bn_123])), (bv125, .inl (cB, bc_121, .inl bf_122))] : va_W)) hP [21, 22] rfl
            have hDc := hD.sub (ws' := ([(sb5, .inr (1, [.ref bv125, .int 0, .int (z01 false), .int bn_123])), (bv125, .inl (cB, bc_121, .inl bf_122))] : va_W)) [21, 22] (by decide) rfl
            refine zgoss (va_runV (As := []) (rest := []) ⟨hx, hb, hml, hown, hts⟩ (c_J4_toString_0e30d l D cJ cI cO cB sb5 bv125 bc_121 bf_122 false bn_123 r130 r131 e132 H.size) (cwV 0 hts gX1_textOfPowers_J4_toString_0e30d rfl rfl rfl hdV_J4_toString_0e30d ⟨Nat.le_of_ble_eq_true rfl, Nat.le_of_ble_eq_true rfl⟩) (zxpreV hE hS (va_free hD hS hA [21, 22] rfl) (q0 := 0) (ci := 1) (T := TJ4) (N := 4) hK hPc hDc rfl rfl []) rfl rfl hl.1 rfl (lv_room (Nat.le_of_ble_eq_true rfl)) dX1_textOfPowers_76 ⟨Nat.le_of_ble_eq_true rfl, Nat.le_of_ble_eq_true rfl⟩) (va_free hD hS hA [21, 22] rfl) (fun s128 u129 => zjs (wn := (cW a cJ cI cO R b pr_1 tm_2 cn_3 sm ac re kn ++ ([(s128, .inr (0, [.ref u129, .int 0, .int 0, .int 0])), (u129, .inl (cB, r130, .inl r131))]))) [0, 1, 2, 3, 4, 5, 6, 7, 8, 9, 10, 11, 12, 13, 14, 15, 16, 17, 18, 19, 20, 21, 22] (zjF (wr := (cW a cJ cI cO R b pr_1 tm_2 cn_3 sm ac re kn)) hP hD hS hA [21, 22] [0, 1, 2, 3, 4, 5, 6, 7, 8, 9, 10, 11, 12, 13, 14, 15, 16, 17, 18, 19, 20] rfl rfl (by decide) (by decide)) rfl (by decide)) hS (fun s128 u129 H locs hP hD hS => ?_)
            replace hP : va_P D vwCl (cW a cJ cI cO R b pr_1 tm_2 cn_3 sm ac re kn ++ ([(s128, .inr (0, [.ref u129, .int 0, .int 0, .int 0])), (u129, .inl (cB, r130, .inl r131))])) H := hP
            replace hD : va_D A (cW a cJ cI cO R b pr_1 tm_2 cn_3 sm ac re kn ++ ([(s128, .inr (0, [.ref u129, .int 0, .int 0, .int 0])), (u129, .inl (cB, r130, .inl r131))])) := hD
            have g0 := Option.some.inj h
            obtain ⟨h1, g1⟩ := Prod.mk.inj g0
            obtain ⟨h2, g2⟩ := Prod.mk.inj g1
            subst h1
            subst h2
            subst g2
            replace hP := zsub (wn := (cW a cJ cI cO R b pr_1 tm_2 cn_3 sm ac re kn)) hP [0, 1, 2, 3, 4, 5, 6, 7, 8, 9, 10, 11, 12, 13, 14, 15, 16, 17, 18, 19, 20] rfl
            replace hD := hD.sub (ws' := (cW a cJ cI cO R b pr_1 tm_2 cn_3 sm ac re kn)) [0, 1, 2, 3, 4, 5, 6, 7, 8, 9, 10, 11, 12, 13, 14, 15, 16, 17, 18, 19, 20] (by decide) rfl
            exact W.aret (v := .ref s128) hx hb hr (Or.inl ⟨_, rfl⟩) (Or.inr ⟨_, rfl⟩) (fun t ht hW => ⟨⟨(), s128, rfl, trivial, by rw [ht]; exact hP, va_K.moved hW.alike hK, hD⟩, hS.F ht⟩) hS.2.2 dX1_textOfPowers_79
          · replace h := zif_f h c26
            exact (zno h).elim

noncomputable def p_X7_value (F : Nat) (R : Nat → Nat → Int64) (p0 : Int32) (p1 : Int32) : Option Nat := (zb2 (p_X7_rowOf p0) (fun cd1 r2 => (if cd1 = 0 then (zb1 (p_X7_need p1 (1 : Int32) (120 : Int32)) (fun cd4 => (if cd4 = 0 then (zb1 (p_X4_at R r2 p1) (fun r6 => (zb0 (p_X7_textOf F r6) (some 0)))) else (some cd4)))) else (some cd1))))
theorem hdV_X7_value : yX7_value.cls = RX7 ∧ yX7_value.cls ≠ "java/lang/invoke/MethodHandle" ∧ yX7_value.cls ≠ "java/lang/invoke/VarHandle" ∧ (parseMethodDescriptor yX7_value.desc).map (fun d => d.parameters.length) = some 2 := by decide +kernel
set_option maxHeartbeats 4000000 in
set_option maxRecDepth 100000 in
theorem c_X7_value (l : Launch) (D : va_G) (a : Nat → Nat) (cJ cI cO cB : ClassId) (R : Nat → Nat → Int64) (b : Bool) (pr : Nat → Int32) (tm : Nat → Int32) (cn : Int32) (sm : Nat → Int32) (ac : Int32) (re : Int32) (kn : Int32) (F : Nat) (p0 : Int32) (p1 : Int32) (cd : Nat) (hlt : l.stackTraces = false) (h : p_X7_value F R p0 p1 = some cd) : zMxs l yX7_value wsX7_value 7 197 26 3186 D (zT cJ cI cO cB) [.ref (a 0), .int p0, .int p1] (cW a cJ cI cO R b pr tm cn sm ac re kn) (cW a cJ cI cO R b pr tm cn sm ac re kn) cd := by
  intro sz
  delta zQxs zX
  refine vx_ofW (cc := cX7_value) (maxL := 4) (ret := (some (.object "java/lang/String"))) (by decide) rfl ?_
  intro p e s m args below meth c s₁ B hml hnt hv
  obtain ⟨rfl, ⟨hsz, hP, hK, hD0⟩, hE⟩ := hv
  have hx := B.exec
  have hb := B.bytes
  have hr := B.returns
  have hts := atoms_spec (ws := wsX7_value) B.pre
  have hown : s.vm.findClass RX7 = some m.cls := findClass_of_methodNamed B.named
  have hlocks := B.notSynchronized
  subst hsz
  have hD := hD0.self (sz := s.heap.size)
  generalize hAe : va_A (cW a cJ cI cO R b pr tm cn sm ac re kn) s.heap.size = A at hD hE ⊢
  have hA : ∀ q : Nat, s.heap.size ≤ q → A q := fun q h => by rw [← hAe]; exact Or.inr h
  have hS : va_S A s.heap s.heap [] := va_S.rf
  have hl := lv_entry ([.ref (a 0), .int p0, .int p1]) (n := 4) (Nat.le_of_ble_eq_true rfl)
  rw [lg_entry_eq]
  generalize (lg_sl ([.ref (a 0), .int p0, .int p1]) ++ List.replicate (4 - (lg_sl ([.ref (a 0), .int p0, .int p1])).length) Slot.unset).toArray = ls at hl ⊢
  replace hl : lv_has ls 4 [(0, .ref (a 0)), (1, .int p0), (2, .int p1)] := hl
  replace h : (zb2 (p_X7_rowOf p0) (fun cd1 r2 => (if cd1 = 0 then (zb1 (p_X7_need p1 (1 : Int32) (120 : Int32)) (fun cd4 => (if cd4 = 0 then (zb1 (p_X4_at R r2 p1) (fun r6 => (zb0 (p_X7_textOf F r6) (some 0)))) else (some cd4)))) else (some cd1)))) = some cd := h
  obtain ⟨H, hHe⟩ : ∃ H, H = s.heap := ⟨_, rfl⟩
  rw [← hHe] at hP
  replace hS : va_S A s.heap H [] := by rw [hHe]; exact hS
  refine zheap hHe ?_
  refine lv_aload_n hx hb dX7_value_0 rfl (lv_at hl 0 rfl) ?_
  refine lv_iload_n hx hb dX7_value_1 rfl (lv_at hl 1 rfl) ?_
  obtain ⟨cd1, r2, e3, h⟩ := zb2_some h
  refine zxgor (vx_runV (As := [.int p0]) (rest := []) ⟨hx, hb, hml, hown, hts⟩ (c_X7_rowOf l D a cJ cI cO cB R b pr tm cn sm ac re kn p0 cd1 r2 hlt e3 H.size) (cwV 1 hts gX7_value_X7_rowOf rfl rfl rfl hdV_X7_rowOf ⟨Nat.le_of_ble_eq_true rfl, Nat.le_of_ble_eq_true rfl⟩) (zxpreV hE hS (zfree hD hS hA) (q0 := 0) (ci := 7) (T := TX7) (N := 9) hK hP hD rfl rfl [.int p0]) rfl rfl hl.1 rfl (lv_room (Nat.le_of_ble_eq_true rfl)) dX7_value_2 ⟨Nat.le_of_ble_eq_true rfl, Nat.le_of_ble_eq_true rfl⟩) (zfree hD hS hA) (zjW hD hS hA) hS (fun k02 => ?_) (fun k02 H locs hP hD hS => ?_)
  · replace h := zif_f h k02
    have h1 := Option.some.inj h
    subst h1
    exact zxout hnt hlocks k02 hK (Nat.le_of_ble_eq_true rfl) (Nat.le_of_ble_eq_true rfl) k02
  · replace h := zif_t h k02
    replace hP : va_P D vwCl (cW a cJ cI cO R b pr tm cn sm ac re kn) H := hP
    replace hD : va_D A (cW a cJ cI cO R b pr tm cn sm ac re kn) := hD
    refine lv_astore_n (lv' := [(3, .ref (a (2 + r2))), (0, .ref (a 0)), (1, .int p0), (2, .int p1)]) hx hb dX7_value_5 rfl hl (by decide) rfl (fun ls hl => ?_)
    refine lv_iload_n hx hb dX7_value_6 rfl (lv_at hl 3 rfl) ?_
    refine lv_iconst (v := (1 : Int32)) hx hb dX7_value_7 (by decide) ?_
    refine lv_bipush (v := (120 : Int32)) hx hb dX7_value_8 (by decide) ?_
    obtain ⟨cd4, e5, h⟩ := zb1_some h
    refine zxgov (vx_runS (As := [.int p1, .int (1 : Int32), .int (120 : Int32)]) (rest := []) ⟨hx, hb, hml, hown, hts⟩ (c_X7_need l D cJ cI cO cB p1 (1 : Int32) (120 : Int32) cd4 hlt e5 H.size) (va_cwS 3 hts gX7_value_X7_need rfl rfl rfl hdS_X7_need ⟨Nat.le_of_ble_eq_true rfl, Nat.le_of_ble_eq_true rfl⟩) (zxpreS hE hS (zf0 hS hA) hK zP0 (zD0 (A := A)) [.int p1, .int (1 : Int32), .int (120 : Int32)]) rfl rfl hl.1 rfl (lv_room (Nat.le_of_ble_eq_true rfl)) dX7_value_10 ⟨Nat.le_of_ble_eq_true rfl, Nat.le_of_ble_eq_true rfl⟩) (zf0 hS hA) (zjE hP hD) hS (fun k010 => ?_) (fun k010 H locs hP hD hS => ?_)
    · replace h := zif_f h k010
      have h1 := Option.some.inj h
      subst h1
      exact zxout hnt hlocks k010 hK (Nat.le_of_ble_eq_true rfl) (Nat.le_of_ble_eq_true rfl) k010
    · replace h := zif_t h k010
      refine lv_aload_n hx hb dX7_value_13 rfl (lv_at hl 0 rfl) ?_
      refine lv_iload_n hx hb dX7_value_14 rfl (lv_at hl 3 rfl) ?_
      obtain ⟨r6, e7, h⟩ := zb1_some h
      refine zgol (va_runV (As := [.int p1]) (rest := []) ⟨hx, hb, hml, hown, hts⟩ (c_X4_at l D a cJ cI cO cB R b pr tm cn sm ac re kn r2 p1 (zrow_lt e3 k02) r6 e7 H.size) (cwV 1 hts gX7_value_X4_at rfl rfl rfl hdV_X4_at ⟨Nat.le_of_ble_eq_true rfl, Nat.le_of_ble_eq_true rfl⟩) (zpreV (q0 := 2 + r2) (ci := 6) (T := TX4) (N := 1) hK hP hD (cW_row (zrow_lt e3 k02)) rfl [.int p1]) rfl rfl hl.1 rfl (lv_room (Nat.le_of_ble_eq_true rfl)) dX7_value_15 ⟨Nat.le_of_ble_eq_true rfl, Nat.le_of_ble_eq_true rfl⟩) (zfree hD hS hA) (zjW hD hS hA) hS (fun H locs hP hD hS => ?_)
      replace hP : va_P D vwCl (cW a cJ cI cO R b pr tm cn sm ac re kn) H := hP
      replace hD : va_D A (cW a cJ cI cO R b pr tm cn sm ac re kn) := hD
      obtain ⟨e8, h⟩ := zb0_some h
      refine zgos (va_runS (As := [.long r6]) (rest := []) ⟨hx, hb, hml, hown, hts⟩ (c_X7_textOf l D cJ cI cO cB F r6 e8 H.size) (va_cwS 1 hts gX7_value_X7_textOf rfl rfl rfl hdS_X7_textOf ⟨Nat.le_of_ble_eq_true rfl, Nat.le_of_ble_eq_true rfl⟩) (zxpreS hE hS (zf0 hS hA) hK zP0 (zD0 (A := A)) [.long r6]) rfl rfl hl.1 rfl (lv_room (Nat.le_of_ble_eq_true rfl)) dX7_value_18 ⟨Nat.le_of_ble_eq_true rfl, Nat.le_of_ble_eq_true rfl⟩) (zf0 hS hA) (zjE hP hD) hS (fun s9 H locs hP hD hS => ?_)
      have h1 := Option.some.inj h
      subst h1
      refine vx_ret ?_
      exact W.aret (v := .ref s9) hx hb hr (Or.inl ⟨_, rfl⟩) (Or.inr ⟨_, rfl⟩) (fun t ht hW => ⟨⟨(), s9, rfl, rfl, by rw [ht]; exact hP, va_K.moved hW.alike hK, hD⟩, hS.F ht⟩) hS.2.2 dX7_value_21

noncomputable def p_X7_total_L0 (F : Nat) (R : Nat → Nat → Int64) (p1 : Int32) (r2 : Nat) (k : Int64 → Int32 → Bool → Option (Nat × Bool)) : Nat → Int64 → Int32 → Bool → Option (Nat × Bool)
  | 0, _, _, _ => none
  | n + 1, v4_0, v6_0, bL0 => (if p1 < v6_0 then (k v4_0 v6_0 bL0) else (zb1 (p_X4_at R r2 v6_0) (fun r12 => (zb2 (p_X3_plus bL0 v4_0 r12) (fun r14 b_15 => (p_X7_total_L0 F R p1 r2 k n r14 (v6_0 + (1 : Int32)) b_15))))))
noncomputable def p_X7_total (F : Nat) (R : Nat → Nat → Int64) (b : Bool) (p0 : Int32) (p1 : Int32) : Option (Nat × Bool) := (zb2 (p_X7_rowOf p0) (fun cd1 r2 => (if cd1 = 0 then (zb1 (p_X7_need p1 (0 : Int32) (120 : Int32)) (fun cd4 => (if cd4 = 0 then (zb1 (p_X3_begin) (fun b_6 => (p_X7_total_L0 F R p1 r2 (fun v4_0 v6_0 bL0 => (zb1 (p_X3_isBeyond bL0) (fun r8 => (if (z01 r8) = 0 then (zb0 (p_X7_textOf F v4_0) (some (0, bL0))) else (some (3, bL0)))))) F (0 : Int64) (1 : Int32) b_6))) else (some (cd4, b))))) else (some (cd1, b)))))
theorem hdV_X7_total : yX7_total.cls = RX7 ∧ yX7_total.cls ≠ "java/lang/invoke/MethodHandle" ∧ yX7_total.cls ≠ "java/lang/invoke/VarHandle" ∧ (parseMethodDescriptor yX7_total.desc).map (fun d => d.parameters.length) = some 2 := by decide +kernel
set_option maxHeartbeats 4000000 in
set_option maxRecDepth 100000 in
theorem c_X7_total (l : Launch) (D : va_G) (a : Nat → Nat) (cJ cI cO cB : ClassId) (R : Nat → Nat → Int64) (b : Bool) (pr : Nat → Int32) (tm : Nat → Int32) (cn : Int32) (sm : Nat → Int32) (ac : Int32) (re : Int32) (kn : Int32) (F : Nat) (p0 : Int32) (p1 : Int32) (cd : Nat) (b' : Bool) (hlt : l.stackTraces = false) (h : p_X7_total F R b p0 p1 = some (cd, b')) : zMxs l yX7_total wsX7_total 7 197 26 3186 D (zT cJ cI cO cB) [.ref (a 0), .int p0, .int p1] (cW a cJ cI cO R b pr tm cn sm ac re kn) (cW a cJ cI cO R b' pr tm cn sm ac re kn) cd := by
  intro sz
  delta zQxs zX
  refine vx_ofW (cc := cX7_total) (maxL := 7) (ret := (some (.object "java/lang/String"))) (by decide) rfl ?_
  intro p e s m args below meth c s₁ B hml hnt hv
  obtain ⟨rfl, ⟨hsz, hP, hK, hD0⟩, hE⟩ := hv
  have hx := B.exec
  have hb := B.bytes
  have hr := B.returns
  have hts := atoms_spec (ws := wsX7_total) B.pre
  have hown : s.vm.findClass RX7 = some m.cls := findClass_of_methodNamed B.named
  have hlocks := B.notSynchronized
  subst hsz
  have hD := hD0.self (sz := s.heap.size)
  generalize hAe : va_A (cW a cJ cI cO R b pr tm cn sm ac re kn) s.heap.size = A at hD hE ⊢
  have hA : ∀ q : Nat, s.heap.size ≤ q → A q := fun q h => by rw [← hAe]; exact Or.inr h
  have hS : va_S A s.heap s.heap [] := va_S.rf
  have hl := lv_entry ([.ref (a 0), .int p0, .int p1]) (n := 7) (Nat.le_of_ble_eq_true rfl)
  rw [lg_entry_eq]
  generalize (lg_sl ([.ref (a 0), .int p0, .int p1]) ++ List.replicate (7 - (lg_sl ([.ref (a 0), .int p0, .int p1])).length) Slot.unset).toArray = ls at hl ⊢
  replace hl : lv_has ls 7 [(0, .ref (a 0)), (1, .int p0), (2, .int p1)] := hl
  have kc_138 := hts (.classLink RX7 138 "java/lang/IllegalStateException") (zmem 1 rfl)
  have kini3 := hts (.initialized "java/lang/IllegalStateException") (zmem 2 rfl)
  have kwX7 : ∀ w ∈ u_ws RX7 TX7 9, w ∈ wsX7_total := fun w h => List.mem_cons_of_mem _ (List.mem_append_left _ (List.mem_append_left _ (List.mem_append_left _ (List.mem_append_left _ (List.mem_append_left _ (List.mem_append_left _ (List.mem_append_right _ (List.mem_cons_of_mem _ (List.mem_append_left _ (List.mem_append_right _ h))))))))))
  have kf_26 := hts (.fieldLink RX7 26 "Divisorwork" "reckoning" "LDivisorwork$Reckoning;") (zmem 3 rfl)
  replace h : (zb2 (p_X7_rowOf p0) (fun cd1 r2 => (if cd1 = 0 then (zb1 (p_X7_need p1 (0 : Int32) (120 : Int32)) (fun cd4 => (if cd4 = 0 then (zb1 (p_X3_begin) (fun b_6 => (p_X7_total_L0 F R p1 r2 (fun v4_0 v6_0 bL0 => (zb1 (p_X3_isBeyond bL0) (fun r8 => (if (z01 r8) = 0 then (zb0 (p_X7_textOf F v4_0) (some (0, bL0))) else (some (3, bL0)))))) F (0 : Int64) (1 : Int32) b_6))) else (some (cd4, b))))) else (some (cd1, b))))) = some (cd, b') := h
  refine zabs (fun G hG hGW => ?_)
  obtain ⟨H, hHe⟩ : ∃ H, H = s.heap := ⟨_, rfl⟩
  rw [← hHe] at hP
  replace hS : va_S A s.heap H [] := by rw [hHe]; exact hS
  refine zheap hHe ?_
  refine lv_aload_n hx hb dX7_total_0 rfl (lv_at hl 0 rfl) ?_
  refine lv_iload_n hx hb dX7_total_1 rfl (lv_at hl 1 rfl) ?_
  obtain ⟨cd1, r2, e3, h⟩ := zb2_some h
  refine zxgor (vx_runV (As := [.int p0]) (rest := []) ⟨hx, hb, hml, hown, hts⟩ (c_X7_rowOf l D a cJ cI cO cB R b pr tm cn sm ac re kn p0 cd1 r2 hlt e3 H.size) (cwV 1 hts gX7_total_X7_rowOf rfl rfl rfl hdV_X7_rowOf ⟨Nat.le_of_ble_eq_true rfl, Nat.le_of_ble_eq_true rfl⟩) (zxpreV hE hS (zfree hD hS hA) (q0 := 0) (ci := 7) (T := TX7) (N := 9) hK hP hD rfl rfl [.int p0]) rfl rfl hl.1 rfl (lv_room (Nat.le_of_ble_eq_true rfl)) dX7_total_2 ⟨Nat.le_of_ble_eq_true rfl, Nat.le_of_ble_eq_true rfl⟩) (zfree hD hS hA) (zjW hD hS hA) hS (fun k02 => ?_) (fun k02 H locs hP hD hS => ?_)
  · replace h := zif_f h k02
    have g0 := Option.some.inj h
    obtain ⟨h1, g1⟩ := Prod.mk.inj g0
    subst h1
    subst g1
    exact zxout hnt hlocks k02 hK (Nat.le_of_ble_eq_true rfl) (Nat.le_of_ble_eq_true rfl) k02
  · replace h := zif_t h k02
    replace hP : va_P D vwCl (cW a cJ cI cO R b pr tm cn sm ac re kn) H := hP
    replace hD : va_D A (cW a cJ cI cO R b pr tm cn sm ac re kn) := hD
    refine lv_astore_n (lv' := [(3, .ref (a (2 + r2))), (0, .ref (a 0)), (1, .int p0), (2, .int p1)]) hx hb dX7_total_5 rfl hl (by decide) rfl (fun ls hl => ?_)
    refine lv_iload_n hx hb dX7_total_6 rfl (lv_at hl 3 rfl) ?_
    refine lv_iconst (v := (0 : Int32)) hx hb dX7_total_7 (by decide) ?_
    refine lv_bipush (v := (120 : Int32)) hx hb dX7_total_8 (by decide) ?_
    obtain ⟨cd4, e5, h⟩ := zb1_some h
    refine zxgov (vx_runS (As := [.int p1, .int (0 : Int32), .int (120 : Int32)]) (rest := []) ⟨hx, hb, hml, hown, hts⟩ (c_X7_need l D cJ cI cO cB p1 (0 : Int32) (120 : Int32) cd4 hlt e5 H.size) (va_cwS 3 hts gX7_total_X7_need rfl rfl rfl hdS_X7_need ⟨Nat.le_of_ble_eq_true rfl, Nat.le_of_ble_eq_true rfl⟩) (zxpreS hE hS (zf0 hS hA) hK zP0 (zD0 (A := A)) [.int p1, .int (0 : Int32), .int (120 : Int32)]) rfl rfl hl.1 rfl (lv_room (Nat.le_of_ble_eq_true rfl)) dX7_total_10 ⟨Nat.le_of_ble_eq_true rfl, Nat.le_of_ble_eq_true rfl⟩) (zf0 hS hA) (zjE hP hD) hS (fun k010 => ?_) (fun k010 H locs hP hD hS => ?_)
    · replace h := zif_f h k010
      have g0 := Option.some.inj h
      obtain ⟨h1, g1⟩ := Prod.mk.inj g0
      subst h1
      subst g1
      exact zxout hnt hlocks k010 hK (Nat.le_of_ble_eq_true rfl) (Nat.le_of_ble_eq_true rfl) k010
    · replace h := zif_t h k010
      refine lv_aload_n hx hb dX7_total_13 rfl (lv_at hl 1 rfl) ?_
      refine va_get (D := D) (ci := 7) (v := .ref (a 14)) (C := RX7) (T := TX7) (N := 9) hx hb hts kwX7 hown hK hP 0 rfl rfl 3 (by decide) kf_26 (fun _ h9 => h9) rfl dX7_total_14 ?_
      obtain ⟨b_6, e7, h⟩ := zb1_some h
      refine zgov (va_runV (As := []) (rest := []) ⟨hx, hb, hml, hown, hts⟩ (c_X3_begin l D a cJ cI cO cB R b pr tm cn sm ac re kn b_6 e7 H.size) (cwV 0 hts gX7_total_X3_begin rfl rfl rfl hdV_X3_begin ⟨Nat.le_of_ble_eq_true rfl, Nat.le_of_ble_eq_true rfl⟩) (zpreV (q0 := 14) (ci := 5) (T := TX3) (N := 1) hK hP hD rfl rfl []) rfl rfl hl.1 rfl (lv_room (Nat.le_of_ble_eq_true rfl)) dX7_total_17 ⟨Nat.le_of_ble_eq_true rfl, Nat.le_of_ble_eq_true rfl⟩) (zfree hD hS hA) (zjW hD hS hA) hS (fun H locs hP hD hS => ?_)
      replace hP : va_P D vwCl (cW a cJ cI cO R b_6 pr tm cn sm ac re kn) H := hP
      replace hD : va_D A (cW a cJ cI cO R b_6 pr tm cn sm ac re kn) := hD
      refine lv_lconst (v := (0 : Int64)) hx hb dX7_total_20 (by decide) ?_
      refine lv_lstore (lv' := [(4, .long (0 : Int64)), (3, .ref (a (2 + r2))), (0, .ref (a 0)), (1, .int p0), (2, .int p1)]) hx hb dX7_total_21 hl (by decide) rfl (fun ls hl => ?_)
      refine lv_iconst (v := (1 : Int32)) hx hb dX7_total_23 (by decide) ?_
      refine lv_istore (lv' := [(6, .int (1 : Int32)), (4, .long (0 : Int64)), (3, .ref (a (2 + r2))), (0, .ref (a 0)), (1, .int p0), (2, .int p1)]) hx hb dX7_total_24 hl (by decide) rfl (fun ls hl => ?_)
      have X0 : ∀ (v4_0 : Int64) (v6_0 : Int32) (bL0 : Bool) (H : Heap) (locs : List Loc) (ls : Array Slot), va_P D vwCl (cW a cJ cI cO R bL0 pr tm cn sm ac re kn) H → va_D A (cW a cJ cI cO R bL0 pr tm cn sm ac re kn) → va_S A s.heap H locs → lv_has ls 7 [(0, .ref (a 0)), (1, .int p0), (2, .int p1), (3, .ref (a (2 + r2))), (4, .long v4_0), (6, .int v6_0)] → (zb1 (p_X3_isBeyond bL0) (fun r8 => (if (z01 r8) = 0 then (zb0 (p_X7_textOf F v4_0) (some (0, bL0))) else (some (3, bL0))))) = some (cd, b') → G H locs 2 12 (F0 m 55 ls []) := by
        intro v4_0 v6_0 bL0 H locs ls hP hD hS hl h
        refine hG _ _ _ _ _ ?_
        refine lv_aload_n hx hb dX7_total_55 rfl (lv_at hl 0 rfl) ?_
        refine va_get (D := D) (ci := 7) (v := .ref (a 14)) (C := RX7) (T := TX7) (N := 9) hx hb hts kwX7 hown hK hP 0 rfl rfl 3 (by decide) kf_26 (fun _ h9 => h9) rfl dX7_total_56 ?_
        obtain ⟨r8, e9, h⟩ := zb1_some h
        refine zgoi (va_runV (As := []) (rest := []) ⟨hx, hb, hml, hown, hts⟩ (c_X3_isBeyond l D a cJ cI cO cB R bL0 pr tm cn sm ac re kn r8 e9 H.size) (cwV 0 hts gX7_total_X3_isBeyond rfl rfl rfl hdV_X3_isBeyond ⟨Nat.le_of_ble_eq_true rfl, Nat.le_of_ble_eq_true rfl⟩) (zpreV (q0 := 14) (ci := 5) (T := TX3) (N := 1) hK hP hD rfl rfl []) rfl rfl hl.1 rfl (lv_room (Nat.le_of_ble_eq_true rfl)) dX7_total_59 ⟨Nat.le_of_ble_eq_true rfl, Nat.le_of_ble_eq_true rfl⟩) (zfree hD hS hA) (zjW hD hS hA) hS (fun H locs hP hD hS => ?_)
        replace hP : va_P D vwCl (cW a cJ cI cO R bL0 pr tm cn sm ac re kn) H := hP
        replace hD : va_D A (cW a cJ cI cO R bL0 pr tm cn sm ac re kn) := hD
        refine lv_if_eq (tgt := 75) hx hb dX7_total_62 (by decide) (fun c62 => ?_) (fun c62 => ?_)
        · replace h := zif_t h c62
          refine lv_lload hx hb dX7_total_75 (lv_at hl 4 rfl) ?_
          obtain ⟨e10, h⟩ := zb0_some h
          refine zgos (va_runS (As := [.long v4_0]) (rest := []) ⟨hx, hb, hml, hown, hts⟩ (c_X7_textOf l D cJ cI cO cB F v4_0 e10 H.size) (va_cwS 1 hts gX7_total_X7_textOf rfl rfl rfl hdS_X7_textOf ⟨Nat.le_of_ble_eq_true rfl, Nat.le_of_ble_eq_true rfl⟩) (zxpreS hE hS (zf0 hS hA) hK zP0 (zD0 (A := A)) [.long v4_0]) rfl rfl hl.1 rfl (lv_room (Nat.le_of_ble_eq_true rfl)) dX7_total_77 ⟨Nat.le_of_ble_eq_true rfl, Nat.le_of_ble_eq_true rfl⟩) (zf0 hS hA) (zjE hP hD) hS (fun s11 H locs hP hD hS => ?_)
          have g0 := Option.some.inj h
          obtain ⟨h1, g1⟩ := Prod.mk.inj g0
          subst h1
          subst g1
          refine vx_ret ?_
          exact W.aret (v := .ref s11) hx hb hr (Or.inl ⟨_, rfl⟩) (Or.inr ⟨_, rfl⟩) (fun t ht hW => ⟨⟨(), s11, rfl, rfl, by rw [ht]; exact hP, va_K.moved hW.alike hK, hD⟩, hS.F ht⟩) hS.2.2 dX7_total_80
        · replace h := zif_f h c62
          have g0 := Option.some.inj h
          obtain ⟨h1, g1⟩ := Prod.mk.inj g0
          subst h1
          subst g1
          obtain ⟨sa, hstr⟩ := hE.2.2.1.2.2.2.1
          refine vx_throwS (own := RX7) (cls := "java/lang/IllegalStateException") (text := zx_s4) (names := ["java/lang/RuntimeException", "java/lang/Exception"]) (ik := 138) (is := 140) (ic := 142) (mc := 26) (ms := 3186) (sa := sa) hx hb hlt hown (by decide +kernel) (by decide +kernel) kc_138 kini3 hstr (vx_hat (L := vx_atS RX7 142 "java/lang/IllegalStateException" ["java/lang/RuntimeException", "java/lang/Exception"]) (B := [.castable (zxn 3) (zxn 3), .declares (Bundle.initS "java/lang/RuntimeException"), .declares (Bundle.initS "java/lang/Exception"), .declares (Bundle.initS Bundle.tN)]) (fun w hw => hts w ((by decide +kernel : ∀ w ∈ (vx_atS RX7 142 "java/lang/IllegalStateException" ["java/lang/RuntimeException", "java/lang/Exception"]).filter goodWord, w ∈ wsX7_total) w hw)) (by decide +kernel) (vx_c (va_Nw.use rfl hE.2.2.1.2.2.2.2.2.2.2.1) (vx_c (va_Nw.use rfl hE.2.2.1.2.2.2.2.2.2.2.2.2.1) (vx_c (va_Nw.use rfl hE.2.2.1.2.2.2.2.2.2.2.2.2.2.1) (vx_c (va_Nw.use rfl hE.2.2.1.2.2.2.2.2.2.2.2.2.2.2) vx_n))))) (by decide +kernel) hE.1 hE.2.1 hS (hl.1.trans hml.symm) dX7_total_65 dX7_total_68 dX7_total_69 dX7_total_71 dX7_total_74 (fun x hx => (hnt x hx).elim) (Nat.le_of_ble_eq_true rfl) (Nat.le_of_ble_eq_true rfl) (Nat.le_of_ble_eq_true rfl) (Nat.le_of_ble_eq_true rfl) hlocks (zxthrow (by decide) hP hK hD hS) hS.2.2 (Nat.le_of_ble_eq_true rfl) (Nat.le_of_ble_eq_true rfl)
      have L0 : ∀ (K0 : Int64 → Int32 → Bool → Option (Nat × Bool)) (HX0 : ∀ (v4_0 : Int64) (v6_0 : Int32) (bL0 : Bool) (H : Heap) (locs : List Loc) (ls : Array Slot), va_P D vwCl (cW a cJ cI cO R bL0 pr tm cn sm ac re kn) H → va_D A (cW a cJ cI cO R bL0 pr tm cn sm ac re kn) → va_S A s.heap H locs → lv_has ls 7 [(0, .ref (a 0)), (1, .int p0), (2, .int p1), (3, .ref (a (2 + r2))), (4, .long v4_0), (6, .int v6_0)] → K0 v4_0 v6_0 bL0 = some (cd, b') → G H locs 2 12 (F0 m 55 ls [])) (fu0 : Nat) (v4_0 : Int64) (v6_0 : Int32) (bL0 : Bool) (H : Heap) (locs : List Loc) (ls : Array Slot), va_P D vwCl (cW a cJ cI cO R bL0 pr tm cn sm ac re kn) H → va_D A (cW a cJ cI cO R bL0 pr tm cn sm ac re kn) → va_S A s.heap H locs → lv_has ls 7 [(0, .ref (a 0)), (1, .int p0), (2, .int p1), (3, .ref (a (2 + r2))), (4, .long v4_0), (6, .int v6_0)] → p_X7_total_L0 F R p1 r2 K0 fu0 v4_0 v6_0 bL0 = some (cd, b') → G H locs 2 12 (F0 m 26 ls []) := by
        intro K0 HX0 fu0
        induction fu0 with
        | zero =>
          intro v4_0 v6_0 bL0 H locs ls hP hD hS hl h
          exact (zno h).elim
        | succ fu0 ih0 =>
          intro v4_0 v6_0 bL0 H locs ls hP hD hS hl h
          refine hG _ _ _ _ _ ?_
          unfold p_X7_total_L0 at h
          refine lv_iload hx hb dX7_total_26 (lv_at hl 5 rfl) ?_
          refine lv_iload_n hx hb dX7_total_28 rfl (lv_at hl 2 rfl) ?_
          refine lv_icmp_gt (tgt := 55) hx hb dX7_total_29 (by decide) (fun c29 => ?_) (fun c29 => ?_)
          · replace h := zif_t h c29
            exact hGW _ _ _ _ _ (HX0 v4_0 v6_0 bL0 _ _ ls hP hD hS (lv_sub hl [0, 1, 2, 3, 4, 5] rfl) h)
          · replace h := zif_f h c29
            refine lv_aload_n hx hb dX7_total_32 rfl (lv_at hl 0 rfl) ?_
            refine va_get (D := D) (ci := 7) (v := .ref (a 14)) (C := RX7) (T := TX7) (N := 9) hx hb hts kwX7 hown hK hP 0 rfl rfl 3 (by decide) kf_26 (fun _ h9 => h9) rfl dX7_total_33 ?_
            refine lv_lload hx hb dX7_total_36 (lv_at hl 4 rfl) ?_
            refine lv_aload_n hx hb dX7_total_38 rfl (lv_at hl 3 rfl) ?_
            refine lv_iload hx hb dX7_total_39 (lv_at hl 5 rfl) ?_
            obtain ⟨r12, e13, h⟩ := zb1_some h
            refine zgol (va_runV (As := [.int v6_0]) (rest := [.long v4_0, .ref (a 14)]) ⟨hx, hb, hml, hown, hts⟩ (c_X4_at l D a cJ cI cO cB R bL0 pr tm cn sm ac re kn r2 v6_0 (zrow_lt e3 k02) r12 e13 H.size) (cwV 1 hts gX7_total_X4_at rfl rfl rfl hdV_X4_at ⟨Nat.le_of_ble_eq_true rfl, Nat.le_of_ble_eq_true rfl⟩) (zpreV (q0 := 2 + r2) (ci := 6) (T := TX4) (N := 1) hK hP hD (cW_row (zrow_lt e3 k02)) rfl [.int v6_0]) rfl rfl hl.1 rfl (lv_room (Nat.le_of_ble_eq_true rfl)) dX7_total_41 ⟨Nat.le_of_ble_eq_true rfl, Nat.le_of_ble_eq_true rfl⟩) (zfree hD hS hA) (zjW hD hS hA) hS (fun H locs hP hD hS => ?_)
            replace hP : va_P D vwCl (cW a cJ cI cO R bL0 pr tm cn sm ac re kn) H := hP
            replace hD : va_D A (cW a cJ cI cO R bL0 pr tm cn sm ac re kn) := hD
            obtain ⟨r14, b_15, e16, h⟩ := zb2_some h
            refine zgol (va_runV (As := [.long v4_0, .long r12]) (rest := []) ⟨hx, hb, hml, hown, hts⟩ (c_X3_plus l D a cJ cI cO cB R bL0 pr tm cn sm ac re kn v4_0 r12 r14 b_15 e16 H.size) (cwV 2 hts gX7_total_X3_plus rfl rfl rfl hdV_X3_plus ⟨Nat.le_of_ble_eq_true rfl, Nat.le_of_ble_eq_true rfl⟩) (zpreV (q0 := 14) (ci := 5) (T := TX3) (N := 1) hK hP hD rfl rfl [.long v4_0, .long r12]) rfl rfl hl.1 rfl (lv_room (Nat.le_of_ble_eq_true rfl)) dX7_total_44 ⟨Nat.le_of_ble_eq_true rfl, Nat.le_of_ble_eq_true rfl⟩) (zfree hD hS hA) (zjW hD hS hA) hS (fun H locs hP hD hS => ?_)
            replace hP : va_P D vwCl (cW a cJ cI cO R b_15 pr tm cn sm ac re kn) H := hP
            replace hD : va_D A (cW a cJ cI cO R b_15 pr tm cn sm ac re kn) := hD
            refine lv_lstore (lv' := [(4, .long r14), (0, .ref (a 0)), (1, .int p0), (2, .int p1), (3, .ref (a (2 + r2))), (6, .int v6_0)]) hx hb dX7_total_47 hl (by decide) rfl (fun ls hl => ?_)
            refine lv_iinc (v := (v6_0 + (1 : Int32))) (lv' := [(6, .int (v6_0 + (1 : Int32))), (4, .long r14), (0, .ref (a 0)), (1, .int p0), (2, .int p1), (3, .ref (a (2 + r2)))]) hx hb dX7_total_49 hl (k := 5) rfl rfl (by decide) rfl (fun ls hl => ?_)
            refine lv_goto (tgt := 26) hx hb dX7_total_52 (by decide) ?_
            exact hGW _ _ _ _ _ (ih0 r14 (v6_0 + (1 : Int32)) b_15 _ _ ls hP hD hS (lv_sub hl [2, 3, 4, 5, 1, 0] rfl) h)
      exact hGW _ _ _ _ _ (L0 _ X0 F (0 : Int64) (1 : Int32) b_6 _ _ ls hP hD hS (lv_sub hl [3, 4, 5, 2, 1, 0] rfl) h)

noncomputable def p_X7_totalOfProduct (F : Nat) (R : Nat → Nat → Int64) (b : Bool) (pr : Nat → Int32) (tm : Nat → Int32) (cn : Int32) (sm : Nat → Int32) (ac : Int32) (re : Int32) (kn : Int32) (p0 : Int32) (p1 : Int32) (p2 : Int32) (p3 : Int32) : Option (Nat × (Nat → Nat → Int64) × Bool × (Nat → Int32) × (Nat → Int32) × Int32 × (Nat → Int32) × Int32 × Int32 × Int32) := (zb2 (p_X7_rowOf p0) (fun cd1 r2 => (if cd1 = 0 then (zb2 (p_X7_rowOf p1) (fun cd4 r5 => (if cd4 = 0 then (zb1 (p_X7_need p2 (1 : Int32) (120 : Int32)) (fun cd7 => (if cd7 = 0 then (zb1 (p_X7_need p3 (0 : Int32) (2 : Int32)) (fun cd9 => (if cd9 = 0 then (zb10 (p_X7_needSizes F R b pr tm cn sm ac re kn r2 p2 (1000000 : Int32)) (fun cd11 R_12 b_13 pr_14 tm_15 cn_16 sm_17 ac_18 re_19 kn_20 => (if cd11 = 0 then (zb10 (p_X7_needSizes F R_12 b_13 pr_14 tm_15 cn_16 sm_17 ac_18 re_19 kn_20 r5 p2 (1000000 : Int32)) (fun cd22 R_23 b_24 pr_25 tm_26 cn_27 sm_28 ac_29 re_30 kn_31 => (if cd22 = 0 then (if ¬ p3 = 0 then (if ¬ p3 = (1 : Int32) then (zb1 (p_X6_byRoot F R_23 r2 r5 p2) (fun r33 => (zb0 (p_X7_textOf F r33) (some (0, R_23, b_24, pr_25, tm_26, cn_27, sm_28, ac_29, re_30, kn_31))))) else (zb1 (p_X6_byQuotients F R_23 r2 r5 p2) (fun r37 => (zb0 (p_X7_textOf F r37) (some (0, R_23, b_24, pr_25, tm_26, cn_27, sm_28, ac_29, re_30, kn_31)))))) else (zb1 (p_X6_plainly F R_23 r2 r5 p2) (fun r41 => (zb0 (p_X7_textOf F r41) (some (0, R_23, b_24, pr_25, tm_26, cn_27, sm_28, ac_29, re_30, kn_31)))))) else (some (cd22, R_23, b_24, pr_25, tm_26, cn_27, sm_28, ac_29, re_30, kn_31))))) else (some (cd11, R_12, b_13, pr_14, tm_15, cn_16, sm_17, ac_18, re_19, kn_20))))) else (some (cd9, R, b, pr, tm, cn, sm, ac, re, kn))))) else (some (cd7, R, b, pr, tm, cn, sm, ac, re, kn))))) else (some (cd4, R, b, pr, tm, cn, sm, ac, re, kn))))) else (some (cd1, R, b, pr, tm, cn, sm, ac, re, kn)))))
theorem hdV_X7_totalOfProduct : yX7_totalOfProduct.cls = RX7 ∧ yX7_totalOfProduct.cls ≠ "java/lang/invoke/MethodHandle" ∧ yX7_totalOfProduct.cls ≠ "java/lang/invoke/VarHandle" ∧ (parseMethodDescriptor yX7_totalOfProduct.desc).map (fun d => d.parameters.length) = some 4 := by decide +kernel
set_option maxHeartbeats 4000000 in
set_option maxRecDepth 100000 in
theorem c_X7_totalOfProduct (l : Launch) (D : va_G) (a : Nat → Nat) (cJ cI cO cB : ClassId) (R : Nat → Nat → Int64) (b : Bool) (pr : Nat → Int32) (tm : Nat → Int32) (cn : Int32) (sm : Nat → Int32) (ac : Int32) (re : Int32) (kn : Int32) (F : Nat) (p0 : Int32) (p1 : Int32) (p2 : Int32) (p3 : Int32) (cd : Nat) (R' : Nat → Nat → Int64) (b' : Bool) (pr' : Nat → Int32) (tm' : Nat → Int32) (cn' : Int32) (sm' : Nat → Int32) (ac' : Int32) (re' : Int32) (kn' : Int32) (hlt : l.stackTraces = false) (h : p_X7_totalOfProduct F R b pr tm cn sm ac re kn p0 p1 p2 p3 = some (cd, R', b', pr', tm', cn', sm', ac', re', kn')) : zMxs l yX7_totalOfProduct wsX7_totalOfProduct 7 197 30 3210 D (zT cJ cI cO cB) [.ref (a 0), .int p0, .int p1, .int p2, .int p3] (cW a cJ cI cO R b pr tm cn sm ac re kn) (cW a cJ cI cO R' b' pr' tm' cn' sm' ac' re' kn') cd := by
  intro sz
  delta zQxs zX
  refine vx_ofW (cc := cX7_totalOfProduct) (maxL := 7) (ret := (some (.object "java/lang/String"))) (by decide) rfl ?_
  intro p e s m args below meth c s₁ B hml hnt hv
  obtain ⟨rfl, ⟨hsz, hP, hK, hD0⟩, hE⟩ := hv
  have hx := B.exec
  have hb := B.bytes
  have hr := B.returns
  have hts := atoms_spec (ws := wsX7_totalOfProduct) B.pre
  have hown : s.vm.findClass RX7 = some m.cls := findClass_of_methodNamed B.named
  have hlocks := B.notSynchronized
  subst hsz
  have hD := hD0.self (sz := s.heap.size)
  generalize hAe : va_A (cW a cJ cI cO R b pr tm cn sm ac re kn) s.heap.size = A at hD hE ⊢
  have hA : ∀ q : Nat, s.heap.size ≤ q → A q := fun q h => by rw [← hAe]; exact Or.inr h
  have hS : va_S A s.heap s.heap [] := va_S.rf
  have hl := lv_entry ([.ref (a 0), .int p0, .int p1, .int p2, .int p3]) (n := 7) (Nat.le_of_ble_eq_true rfl)
  rw [lg_entry_eq]
  generalize (lg_sl ([.ref (a 0), .int p0, .int p1, .int p2, .int p3]) ++ List.replicate (7 - (lg_sl ([.ref (a 0), .int p0, .int p1, .int p2, .int p3])).length) Slot.unset).toArray = ls at hl ⊢
  replace hl : lv_has ls 7 [(0, .ref (a 0)), (1, .int p0), (2, .int p1), (3, .int p2), (4, .int p3)] := hl
  have kc_145 := hts (.constant RX7 145 (1000000)) (zmem 1 rfl)
  replace h : (zb2 (p_X7_rowOf p0) (fun cd1 r2 => (if cd1 = 0 then (zb2 (p_X7_rowOf p1) (fun cd4 r5 => (if cd4 = 0 then (zb1 (p_X7_need p2 (1 : Int32) (120 : Int32)) (fun cd7 => (if cd7 = 0 then (zb1 (p_X7_need p3 (0 : Int32) (2 : Int32)) (fun cd9 => (if cd9 = 0 then (zb10 (p_X7_needSizes F R b pr tm cn sm ac re kn r2 p2 (1000000 : Int32)) (fun cd11 R_12 b_13 pr_14 tm_15 cn_16 sm_17 ac_18 re_19 kn_20 => (if cd11 = 0 then (zb10 (p_X7_needSizes F R_12 b_13 pr_14 tm_15 cn_16 sm_17 ac_18 re_19 kn_20 r5 p2 (1000000 : Int32)) (fun cd22 R_23 b_24 pr_25 tm_26 cn_27 sm_28 ac_29 re_30 kn_31 => (if cd22 = 0 then (if ¬ p3 = 0 then (if ¬ p3 = (1 : Int32) then (zb1 (p_X6_byRoot F R_23 r2 r5 p2) (fun r33 => (zb0 (p_X7_textOf F r33) (some (0, R_23, b_24, pr_25, tm_26, cn_27, sm_28, ac_29, re_30, kn_31))))) else (zb1 (p_X6_byQuotients F R_23 r2 r5 p2) (fun r37 => (zb0 (p_X7_textOf F r37) (some (0, R_23, b_24, pr_25, tm_26, cn_27, sm_28, ac_29, re_30, kn_31)))))) else (zb1 (p_X6_plainly F R_23 r2 r5 p2) (fun r41 => (zb0 (p_X7_textOf F r41) (some (0, R_23, b_24, pr_25, tm_26, cn_27, sm_28, ac_29, re_30, kn_31)))))) else (some (cd22, R_23, b_24, pr_25, tm_26, cn_27, sm_28, ac_29, re_30, kn_31))))) else (some (cd11, R_12, b_13, pr_14, tm_15, cn_16, sm_17, ac_18, re_19, kn_20))))) else (some (cd9, R, b, pr, tm, cn, sm, ac, re, kn))))) else (some (cd7, R, b, pr, tm, cn, sm, ac, re, kn))))) else (some (cd4, R, b, pr, tm, cn, sm, ac, re, kn))))) else (some (cd1, R, b, pr, tm, cn, sm, ac, re, kn))))) = some (cd, R', b', pr', tm', cn', sm', ac', re', kn') := h
  obtain ⟨H, hHe⟩ : ∃ H, H = s.heap := ⟨_, rfl⟩
  rw [← hHe] at hP
  replace hS : va_S A s.heap H [] := by rw [hHe]; exact hS
  refine zheap hHe ?_
  refine lv_aload_n hx hb dX7_totalOfProduct_0 rfl (lv_at hl 0 rfl) ?_
  refine lv_iload_n hx hb dX7_totalOfProduct_1 rfl (lv_at hl 1 rfl) ?_
  obtain ⟨cd1, r2, e3, h⟩ := zb2_some h
  refine zxgor (vx_runV (As := [.int p0]) (rest := []) ⟨hx, hb, hml, hown, hts⟩ (c_X7_rowOf l D a cJ cI cO cB R b pr tm cn sm ac re kn p0 cd1 r2 hlt e3 H.size) (cwV 1 hts gX7_totalOfProduct_X7_rowOf rfl rfl rfl hdV_X7_rowOf ⟨Nat.le_of_ble_eq_true rfl, Nat.le_of_ble_eq_true rfl⟩) (zxpreV hE hS (zfree hD hS hA) (q0 := 0) (ci := 7) (T := TX7) (N := 9) hK hP hD rfl rfl [.int p0]) rfl rfl hl.1 rfl (lv_room (Nat.le_of_ble_eq_true rfl)) dX7_totalOfProduct_2 ⟨Nat.le_of_ble_eq_true rfl, Nat.le_of_ble_eq_true rfl⟩) (zfree hD hS hA) (zjW hD hS hA) hS (fun k02 => ?_) (fun k02 H locs hP hD hS => ?_)
  · replace h := zif_f h k02
    have g0 := Option.some.inj h
    obtain ⟨h1, g1⟩ := Prod.mk.inj g0
    obtain ⟨h2, g2⟩ := Prod.mk.inj g1
    obtain ⟨h3, g3⟩ := Prod.mk.inj g2
    obtain ⟨h4, g4⟩ := Prod.mk.inj g3
    obtain ⟨h5, g5⟩ := Prod.mk.inj g4
    obtain ⟨h6, g6⟩ := Prod.mk.inj g5
    obtain ⟨h7, g7⟩ := Prod.mk.inj g6
    obtain ⟨h8, g8⟩ := Prod.mk.inj g7
    obtain ⟨h9, g9⟩ := Prod.mk.inj g8
    subst h1
    subst h2
    subst h3
    subst h4
    subst h5
    subst h6
    subst h7
    subst h8
    subst h9
    subst g9
    exact zxout hnt hlocks k02 hK (Nat.le_of_ble_eq_true rfl) (Nat.le_of_ble_eq_true rfl) k02
  · replace h := zif_t h k02
    replace hP : va_P D vwCl (cW a cJ cI cO R b pr tm cn sm ac re kn) H := hP
    replace hD : va_D A (cW a cJ cI cO R b pr tm cn sm ac re kn) := hD
    refine lv_astore (lv' := [(5, .ref (a (2 + r2))), (0, .ref (a 0)), (1, .int p0), (2, .int p1), (3, .int p2), (4, .int p3)]) hx hb dX7_totalOfProduct_5 hl (by decide) rfl (fun ls hl => ?_)
    refine lv_aload_n hx hb dX7_totalOfProduct_7 rfl (lv_at hl 1 rfl) ?_
    refine lv_iload_n hx hb dX7_totalOfProduct_8 rfl (lv_at hl 3 rfl) ?_
    obtain ⟨cd4, r5, e6, h⟩ := zb2_some h
    refine zxgor (vx_runV (As := [.int p1]) (rest := []) ⟨hx, hb, hml, hown, hts⟩ (c_X7_rowOf l D a cJ cI cO cB R b pr tm cn sm ac re kn p1 cd4 r5 hlt e6 H.size) (cwV 1 hts gX7_totalOfProduct_X7_rowOf rfl rfl rfl hdV_X7_rowOf ⟨Nat.le_of_ble_eq_true rfl, Nat.le_of_ble_eq_true rfl⟩) (zxpreV hE hS (zfree hD hS hA) (q0 := 0) (ci := 7) (T := TX7) (N := 9) hK hP hD rfl rfl [.int p1]) rfl rfl hl.1 rfl (lv_room (Nat.le_of_ble_eq_true rfl)) dX7_totalOfProduct_9 ⟨Nat.le_of_ble_eq_true rfl, Nat.le_of_ble_eq_true rfl⟩) (zfree hD hS hA) (zjW hD hS hA) hS (fun k09 => ?_) (fun k09 H locs hP hD hS => ?_)
    · replace h := zif_f h k09
      have g0 := Option.some.inj h
      obtain ⟨h1, g1⟩ := Prod.mk.inj g0
      obtain ⟨h2, g2⟩ := Prod.mk.inj g1
      obtain ⟨h3, g3⟩ := Prod.mk.inj g2
      obtain ⟨h4, g4⟩ := Prod.mk.inj g3
      obtain ⟨h5, g5⟩ := Prod.mk.inj g4
      obtain ⟨h6, g6⟩ := Prod.mk.inj g5
      obtain ⟨h7, g7⟩ := Prod.mk.inj g6
      obtain ⟨h8, g8⟩ := Prod.mk.inj g7
      obtain ⟨h9, g9⟩ := Prod.mk.inj g8
      subst h1
      subst h2
      subst h3
      subst h4
      subst h5
      subst h6
      subst h7
      subst h8
      subst h9
      subst g9
      exact zxout hnt hlocks k09 hK (Nat.le_of_ble_eq_true rfl) (Nat.le_of_ble_eq_true rfl) k09
    · replace h := zif_t h k09
      replace hP : va_P D vwCl (cW a cJ cI cO R b pr tm cn sm ac re kn) H := hP
      replace hD : va_D A (cW a cJ cI cO R b pr tm cn sm ac re kn) := hD
      refine lv_astore (lv' := [(6, .ref (a (2 + r5))), (5, .ref (a (2 + r2))), (0, .ref (a 0)), (1, .int p0), (2, .int p1), (3, .int p2), (4, .int p3)]) hx hb dX7_totalOfProduct_12 hl (by decide) rfl (fun ls hl => ?_)
      refine lv_iload_n hx hb dX7_totalOfProduct_14 rfl (lv_at hl 5 rfl) ?_
      refine lv_iconst (v := (1 : Int32)) hx hb dX7_totalOfProduct_15 (by decide) ?_
      refine lv_bipush (v := (120 : Int32)) hx hb dX7_totalOfProduct_16 (by decide) ?_
      obtain ⟨cd7, e8, h⟩ := zb1_some h
      refine zxgov (vx_runS (As := [.int p2, .int (1 : Int32), .int (120 : Int32)]) (rest := []) ⟨hx, hb, hml, hown, hts⟩ (c_X7_need l D cJ cI cO cB p2 (1 : Int32) (120 : Int32) cd7 hlt e8 H.size) (va_cwS 3 hts gX7_totalOfProduct_X7_need rfl rfl rfl hdS_X7_need ⟨Nat.le_of_ble_eq_true rfl, Nat.le_of_ble_eq_true rfl⟩) (zxpreS hE hS (zf0 hS hA) hK zP0 (zD0 (A := A)) [.int p2, .int (1 : Int32), .int (120 : Int32)]) rfl rfl hl.1 rfl (lv_room (Nat.le_of_ble_eq_true rfl)) dX7_totalOfProduct_18 ⟨Nat.le_of_ble_eq_true rfl, Nat.le_of_ble_eq_true rfl⟩) (zf0 hS hA) (zjE hP hD) hS (fun k018 => ?_) (fun k018 H locs hP hD hS => ?_)
      · replace h := zif_f h k018
        have g0 := Option.some.inj h
        obtain ⟨h1, g1⟩ := Prod.mk.inj g0
        obtain ⟨h2, g2⟩ := Prod.mk.inj g1
        obtain ⟨h3, g3⟩ := Prod.mk.inj g2
        obtain ⟨h4, g4⟩ := Prod.mk.inj g3
        obtain ⟨h5, g5⟩ := Prod.mk.inj g4
        obtain ⟨h6, g6⟩ := Prod.mk.inj g5
        obtain ⟨h7, g7⟩ := Prod.mk.inj g6
        obtain ⟨h8, g8⟩ := Prod.mk.inj g7
        obtain ⟨h9, g9⟩ := Prod.mk.inj g8
        subst h1
        subst h2
        subst h3
        subst h4
        subst h5
        subst h6
        subst h7
        subst h8
        subst h9
        subst g9
        exact zxout hnt hlocks k018 hK (Nat.le_of_ble_eq_true rfl) (Nat.le_of_ble_eq_true rfl) k018
      · replace h := zif_t h k018
        refine lv_iload hx hb dX7_totalOfProduct_21 (lv_at hl 6 rfl) ?_
        refine lv_iconst (v := (0 : Int32)) hx hb dX7_totalOfProduct_23 (by decide) ?_
        refine lv_iconst (v := (2 : Int32)) hx hb dX7_totalOfProduct_24 (by decide) ?_
        obtain ⟨cd9, e10, h⟩ := zb1_some h
        refine zxgov (vx_runS (As := [.int p3, .int (0 : Int32), .int (2 : Int32)]) (rest := []) ⟨hx, hb, hml, hown, hts⟩ (c_X7_need l D cJ cI cO cB p3 (0 : Int32) (2 : Int32) cd9 hlt e10 H.size) (va_cwS 3 hts gX7_totalOfProduct_X7_need rfl rfl rfl hdS_X7_need ⟨Nat.le_of_ble_eq_true rfl, Nat.le_of_ble_eq_true rfl⟩) (zxpreS hE hS (zf0 hS hA) hK zP0 (zD0 (A := A)) [.int p3, .int (0 : Int32), .int (2 : Int32)]) rfl rfl hl.1 rfl (lv_room (Nat.le_of_ble_eq_true rfl)) dX7_totalOfProduct_25 ⟨Nat.le_of_ble_eq_true rfl, Nat.le_of_ble_eq_true rfl⟩) (zf0 hS hA) (zjE hP hD) hS (fun k025 => ?_) (fun k025 H locs hP hD hS => ?_)
        · replace h := zif_f h k025
          have g0 := Option.some.inj h
          obtain ⟨h1, g1⟩ := Prod.mk.inj g0
          obtain ⟨h2, g2⟩ := Prod.mk.inj g1
          obtain ⟨h3, g3⟩ := Prod.mk.inj g2
          obtain ⟨h4, g4⟩ := Prod.mk.inj g3
          obtain ⟨h5, g5⟩ := Prod.mk.inj g4
          obtain ⟨h6, g6⟩ := Prod.mk.inj g5
          obtain ⟨h7, g7⟩ := Prod.mk.inj g6
          obtain ⟨h8, g8⟩ := Prod.mk.inj g7
          obtain ⟨h9, g9⟩ := Prod.mk.inj g8
          subst h1
          subst h2
          subst h3
          subst h4
          subst h5
          subst h6
          subst h7
          subst h8
          subst h9
          subst g9
          exact zxout hnt hlocks k025 hK (Nat.le_of_ble_eq_true rfl) (Nat.le_of_ble_eq_true rfl) k025
        · replace h := zif_t h k025
          refine lv_aload hx hb dX7_totalOfProduct_28 (lv_at hl 1 rfl) ?_
          refine lv_iload_n hx hb dX7_totalOfProduct_30 rfl (lv_at hl 5 rfl) ?_
          refine lv_ldc hx hb hown kc_145 dX7_totalOfProduct_31 ?_
          obtain ⟨cd11, R_12, b_13, pr_14, tm_15, cn_16, sm_17, ac_18, re_19, kn_20, e21, h⟩ := zb10_some h
          refine zxgov (vx_runS (As := [.ref (a (2 + r2)), .int p2, .int (1000000 : Int32)]) (rest := []) ⟨hx, hb, hml, hown, hts⟩ (c_X7_needSizes l D a cJ cI cO cB R b pr tm cn sm ac re kn F r2 p2 (1000000 : Int32) (zrow_lt e3 k02) cd11 R_12 b_13 pr_14 tm_15 cn_16 sm_17 ac_18 re_19 kn_20 hlt e21 H.size) (va_cwS 3 hts gX7_totalOfProduct_X7_needSizes rfl rfl rfl hdS_X7_needSizes ⟨Nat.le_of_ble_eq_true rfl, Nat.le_of_ble_eq_true rfl⟩) (zxpreS hE hS (zfree hD hS hA) hK hP hD [.ref (a (2 + r2)), .int p2, .int (1000000 : Int32)]) rfl rfl hl.1 rfl (lv_room (Nat.le_of_ble_eq_true rfl)) dX7_totalOfProduct_33 ⟨Nat.le_of_ble_eq_true rfl, Nat.le_of_ble_eq_true rfl⟩) (zfree hD hS hA) (zjW hD hS hA) hS (fun k033 => ?_) (fun k033 H locs hP hD hS => ?_)
          · replace h := zif_f h k033
            have g0 := Option.some.inj h
            obtain ⟨h1, g1⟩ := Prod.mk.inj g0
            obtain ⟨h2, g2⟩ := Prod.mk.inj g1
            obtain ⟨h3, g3⟩ := Prod.mk.inj g2
            obtain ⟨h4, g4⟩ := Prod.mk.inj g3
            obtain ⟨h5, g5⟩ := Prod.mk.inj g4
            obtain ⟨h6, g6⟩ := Prod.mk.inj g5
            obtain ⟨h7, g7⟩ := Prod.mk.inj g6
            obtain ⟨h8, g8⟩ := Prod.mk.inj g7
            obtain ⟨h9, g9⟩ := Prod.mk.inj g8
            subst h1
            subst h2
            subst h3
            subst h4
            subst h5
            subst h6
            subst h7
            subst h8
            subst h9
            subst g9
            exact zxout hnt hlocks k033 hK (Nat.le_of_ble_eq_true rfl) (Nat.le_of_ble_eq_true rfl) k033
          · replace h := zif_t h k033
            replace hP : va_P D vwCl (cW a cJ cI cO R_12 b_13 pr_14 tm_15 cn_16 sm_17 ac_18 re_19 kn_20) H := hP
            replace hD : va_D A (cW a cJ cI cO R_12 b_13 pr_14 tm_15 cn_16 sm_17 ac_18 re_19 kn_20) := hD
            refine lv_aload hx hb dX7_totalOfProduct_36 (lv_at hl 0 rfl) ?_
            refine lv_iload_n hx hb dX7_totalOfProduct_38 rfl (lv_at hl 5 rfl) ?_
            refine lv_ldc hx hb hown kc_145 dX7_totalOfProduct_39 ?_
            obtain ⟨cd22, R_23, b_24, pr_25, tm_26, cn_27, sm_28, ac_29, re_30, kn_31, e32, h⟩ := zb10_some h
            refine zxgov (vx_runS (As := [.ref (a (2 + r5)), .int p2, .int (1000000 : Int32)]) (rest := []) ⟨hx, hb, hml, hown, hts⟩ (c_X7_needSizes l D a cJ cI cO cB R_12 b_13 pr_14 tm_15 cn_16 sm_17 ac_18 re_19 kn_20 F r5 p2 (1000000 : Int32) (zrow_lt e6 k09) cd22 R_23 b_24 pr_25 tm_26 cn_27 sm_28 ac_29 re_30 kn_31 hlt e32 H.size) (va_cwS 3 hts gX7_totalOfProduct_X7_needSizes rfl rfl rfl hdS_X7_needSizes ⟨Nat.le_of_ble_eq_true rfl, Nat.le_of_ble_eq_true rfl⟩) (zxpreS hE hS (zfree hD hS hA) hK hP hD [.ref (a (2 + r5)), .int p2, .int (1000000 : Int32)]) rfl rfl hl.1 rfl (lv_room (Nat.le_of_ble_eq_true rfl)) dX7_totalOfProduct_41 ⟨Nat.le_of_ble_eq_true rfl, Nat.le_of_ble_eq_true rfl⟩) (zfree hD hS hA) (zjW hD hS hA) hS (fun k041 => ?_) (fun k041 H locs hP hD hS => ?_)
            · replace h := zif_f h k041
              have g0 := Option.some.inj h
              obtain ⟨h1, g1⟩ := Prod.mk.inj g0
              obtain ⟨h2, g2⟩ := Prod.mk.inj g1
              obtain ⟨h3, g3⟩ := Prod.mk.inj g2
              obtain ⟨h4, g4⟩ := Prod.mk.inj g3
              obtain ⟨h5, g5⟩ := Prod.mk.inj g4
              obtain ⟨h6, g6⟩ := Prod.mk.inj g5
              obtain ⟨h7, g7⟩ := Prod.mk.inj g6
              obtain ⟨h8, g8⟩ := Prod.mk.inj g7
              obtain ⟨h9, g9⟩ := Prod.mk.inj g8
              subst h1
              subst h2
              subst h3
              subst h4
              subst h5
              subst h6
              subst h7
              subst h8
              subst h9
              subst g9
              exact zxout hnt hlocks k041 hK (Nat.le_of_ble_eq_true rfl) (Nat.le_of_ble_eq_true rfl) k041
            · replace h := zif_t h k041
              replace hP : va_P D vwCl (cW a cJ cI cO R_23 b_24 pr_25 tm_26 cn_27 sm_28 ac_29 re_30 kn_31) H := hP
              replace hD : va_D A (cW a cJ cI cO R_23 b_24 pr_25 tm_26 cn_27 sm_28 ac_29 re_30 kn_31) := hD
              refine lv_iload hx hb dX7_totalOfProduct_44 (lv_at hl 6 rfl) ?_
              refine lv_if_ne (tgt := 61) hx hb dX7_totalOfProduct_46 (by decide) (fun c46 => ?_) (fun c46 => ?_)
              · replace h := zif_t h c46
                refine lv_iload hx hb dX7_totalOfProduct_61 (lv_at hl 6 rfl) ?_
                refine lv_iconst (v := (1 : Int32)) hx hb dX7_totalOfProduct_63 (by decide) ?_
                refine lv_icmp_ne (tgt := 78) hx hb dX7_totalOfProduct_64 (by decide) (fun c64 => ?_) (fun c64 => ?_)
                · replace h := zif_t h c64
                  refine lv_aload hx hb dX7_totalOfProduct_78 (lv_at hl 1 rfl) ?_
                  refine lv_aload hx hb dX7_totalOfProduct_80 (lv_at hl 0 rfl) ?_
                  refine lv_iload_n hx hb dX7_totalOfProduct_82 rfl (lv_at hl 5 rfl) ?_
                  obtain ⟨r33, e34, h⟩ := zb1_some h
                  refine zgol (va_runS (As := [.ref (a (2 + r2)), .ref (a (2 + r5)), .int p2]) (rest := []) ⟨hx, hb, hml, hown, hts⟩ (c_X6_byRoot l D a cJ cI cO cB R_23 b_24 pr_25 tm_26 cn_27 sm_28 ac_29 re_30 kn_31 F r2 r5 p2 (zrow_lt e3 k02) (zrow_lt e6 k09) r33 e34 H.size) (va_cwS 3 hts gX7_totalOfProduct_X6_byRoot rfl rfl rfl hdS_X6_byRoot ⟨Nat.le_of_ble_eq_true rfl, Nat.le_of_ble_eq_true rfl⟩) (zpreS hK hP hD [.ref (a (2 + r2)), .ref (a (2 + r5)), .int p2]) rfl rfl hl.1 rfl (lv_room (Nat.le_of_ble_eq_true rfl)) dX7_totalOfProduct_83 ⟨Nat.le_of_ble_eq_true rfl, Nat.le_of_ble_eq_true rfl⟩) (zfree hD hS hA) (zjW hD hS hA) hS (fun H locs hP hD hS => ?_)
                  replace hP : va_P D vwCl (cW a cJ cI cO R_23 b_24 pr_25 tm_26 cn_27 sm_28 ac_29 re_30 kn_31) H := hP
                  replace hD : va_D A (cW a cJ cI cO R_23 b_24 pr_25 tm_26 cn_27 sm_28 ac_29 re_30 kn_31) := hD
                  obtain ⟨e35, h⟩ := zb0_some h
                  refine zgos (va_runS (As := [.long r33]) (rest := []) ⟨hx, hb, hml, hown, hts⟩ (c_X7_textOf l D cJ cI cO cB F r33 e35 H.size) (va_cwS 1 hts gX7_totalOfProduct_X7_textOf rfl rfl rfl hdS_X7_textOf ⟨Nat.le_of_ble_eq_true rfl, Nat.le_of_ble_eq_true rfl⟩) (zxpreS hE hS (zf0 hS hA) hK zP0 (zD0 (A := A)) [.long r33]) rfl rfl hl.1 rfl (lv_room (Nat.le_of_ble_eq_true rfl)) dX7_totalOfProduct_86 ⟨Nat.le_of_ble_eq_true rfl, Nat.le_of_ble_eq_true rfl⟩) (zf0 hS hA) (zjE hP hD) hS (fun s36 H locs hP hD hS => ?_)
                  have g0 := Option.some.inj h
                  obtain ⟨h1, g1⟩ := Prod.mk.inj g0
                  obtain ⟨h2, g2⟩ := Prod.mk.inj g1
                  obtain ⟨h3, g3⟩ := Prod.mk.inj g2
                  obtain ⟨h4, g4⟩ := Prod.mk.inj g3
                  obtain ⟨h5, g5⟩ := Prod.mk.inj g4
                  obtain ⟨h6, g6⟩ := Prod.mk.inj g5
                  obtain ⟨h7, g7⟩ := Prod.mk.inj g6
                  obtain ⟨h8, g8⟩ := Prod.mk.inj g7
                  obtain ⟨h9, g9⟩ := Prod.mk.inj g8
                  subst h1
                  subst h2
                  subst h3
                  subst h4
                  subst h5
                  subst h6
                  subst h7
                  subst h8
                  subst h9
                  subst g9
                  refine vx_ret ?_
                  exact W.aret (v := .ref s36) hx hb hr (Or.inl ⟨_, rfl⟩) (Or.inr ⟨_, rfl⟩) (fun t ht hW => ⟨⟨(), s36, rfl, rfl, by rw [ht]; exact hP, va_K.moved hW.alike hK, hD⟩, hS.F ht⟩) hS.2.2 dX7_totalOfProduct_89
                · replace h := zif_fn h c64
                  refine lv_aload hx hb dX7_totalOfProduct_67 (lv_at hl 1 rfl) ?_
                  refine lv_aload hx hb dX7_totalOfProduct_69 (lv_at hl 0 rfl) ?_
                  refine lv_iload_n hx hb dX7_totalOfProduct_71 rfl (lv_at hl 5 rfl) ?_
                  obtain ⟨r37, e38, h⟩ := zb1_some h
                  refine zgol (va_runS (As := [.ref (a (2 + r2)), .ref (a (2 + r5)), .int p2]) (rest := []) ⟨hx, hb, hml, hown, hts⟩ (c_X6_byQuotients l D a cJ cI cO cB R_23 b_24 pr_25 tm_26 cn_27 sm_28 ac_29 re_30 kn_31 F r2 r5 p2 (zrow_lt e3 k02) (zrow_lt e6 k09) r37 e38 H.size) (va_cwS 3 hts gX7_totalOfProduct_X6_byQuotients rfl rfl rfl hdS_X6_byQuotients ⟨Nat.le_of_ble_eq_true rfl, Nat.le_of_ble_eq_true rfl⟩) (zpreS hK hP hD [.ref (a (2 + r2)), .ref (a (2 + r5)), .int p2]) rfl rfl hl.1 rfl (lv_room (Nat.le_of_ble_eq_true rfl)) dX7_totalOfProduct_72 ⟨Nat.le_of_ble_eq_true rfl, Nat.le_of_ble_eq_true rfl⟩) (zfree hD hS hA) (zjW hD hS hA) hS (fun H locs hP hD hS => ?_)
                  replace hP : va_P D vwCl (cW a cJ cI cO R_23 b_24 pr_25 tm_26 cn_27 sm_28 ac_29 re_30 kn_31) H := hP
                  replace hD : va_D A (cW a cJ cI cO R_23 b_24 pr_25 tm_26 cn_27 sm_28 ac_29 re_30 kn_31) := hD
                  refine lv_goto (tgt := 86) hx hb dX7_totalOfProduct_75 (by decide) ?_
                  obtain ⟨e39, h⟩ := zb0_some h
                  refine zgos (va_runS (As := [.long r37]) (rest := []) ⟨hx, hb, hml, hown, hts⟩ (c_X7_textOf l D cJ cI cO cB F r37 e39 H.size) (va_cwS 1 hts gX7_totalOfProduct_X7_textOf rfl rfl rfl hdS_X7_textOf ⟨Nat.le_of_ble_eq_true rfl, Nat.le_of_ble_eq_true rfl⟩) (zxpreS hE hS (zf0 hS hA) hK zP0 (zD0 (A := A)) [.long r37]) rfl rfl hl.1 rfl (lv_room (Nat.le_of_ble_eq_true rfl)) dX7_totalOfProduct_86 ⟨Nat.le_of_ble_eq_true rfl, Nat.le_of_ble_eq_true rfl⟩) (zf0 hS hA) (zjE hP hD) hS (fun s40 H locs hP hD hS => ?_)
                  have g0 := Option.some.inj h
                  obtain ⟨h1, g1⟩ := Prod.mk.inj g0
                  obtain ⟨h2, g2⟩ := Prod.mk.inj g1
                  obtain ⟨h3, g3⟩ := Prod.mk.inj g2
                  obtain ⟨h4, g4⟩ := Prod.mk.inj g3
                  obtain ⟨h5, g5⟩ := Prod.mk.inj g4
                  obtain ⟨h6, g6⟩ := Prod.mk.inj g5
                  obtain ⟨h7, g7⟩ := Prod.mk.inj g6
                  obtain ⟨h8, g8⟩ := Prod.mk.inj g7
                  obtain ⟨h9, g9⟩ := Prod.mk.inj g8
                  subst h1
                  subst h2
                  subst h3
                  subst h4
                  subst h5
                  subst h6
                  subst h7
                  subst h8
                  subst h9
                  subst g9
                  refine vx_ret ?_
                  exact W.aret (v := .ref s40) hx hb hr (Or.inl ⟨_, rfl⟩) (Or.inr ⟨_, rfl⟩) (fun t ht hW => ⟨⟨(), s40, rfl, rfl, by rw [ht]; exact hP, va_K.moved hW.alike hK, hD⟩, hS.F ht⟩) hS.2.2 dX7_totalOfProduct_89
              · replace h := zif_fn h c46
                refine lv_aload hx hb dX7_totalOfProduct_49 (lv_at hl 1 rfl) ?_
                refine lv_aload hx hb dX7_totalOfProduct_51 (lv_at hl 0 rfl) ?_
                refine lv_iload_n hx hb dX7_totalOfProduct_53 rfl (lv_at hl 5 rfl) ?_
                obtain ⟨r41, e42, h⟩ := zb1_some h
                refine zgol (va_runS (As := [.ref (a (2 + r2)), .ref (a (2 + r5)), .int p2]) (rest := []) ⟨hx, hb, hml, hown, hts⟩ (c_X6_plainly l D a cJ cI cO cB R_23 b_24 pr_25 tm_26 cn_27 sm_28 ac_29 re_30 kn_31 F r2 r5 p2 (zrow_lt e3 k02) (zrow_lt e6 k09) r41 e42 H.size) (va_cwS 3 hts gX7_totalOfProduct_X6_plainly rfl rfl rfl hdS_X6_plainly ⟨Nat.le_of_ble_eq_true rfl, Nat.le_of_ble_eq_true rfl⟩) (zpreS hK hP hD [.ref (a (2 + r2)), .ref (a (2 + r5)), .int p2]) rfl rfl hl.1 rfl (lv_room (Nat.le_of_ble_eq_true rfl)) dX7_totalOfProduct_54 ⟨Nat.le_of_ble_eq_true rfl, Nat.le_of_ble_eq_true rfl⟩) (zfree hD hS hA) (zjW hD hS hA) hS (fun H locs hP hD hS => ?_)
                replace hP : va_P D vwCl (cW a cJ cI cO R_23 b_24 pr_25 tm_26 cn_27 sm_28 ac_29 re_30 kn_31) H := hP
                replace hD : va_D A (cW a cJ cI cO R_23 b_24 pr_25 tm_26 cn_27 sm_28 ac_29 re_30 kn_31) := hD
                obtain ⟨e43, h⟩ := zb0_some h
                refine zgos (va_runS (As := [.long r41]) (rest := []) ⟨hx, hb, hml, hown, hts⟩ (c_X7_textOf l D cJ cI cO cB F r41 e43 H.size) (va_cwS 1 hts gX7_totalOfProduct_X7_textOf rfl rfl rfl hdS_X7_textOf ⟨Nat.le_of_ble_eq_true rfl, Nat.le_of_ble_eq_true rfl⟩) (zxpreS hE hS (zf0 hS hA) hK zP0 (zD0 (A := A)) [.long r41]) rfl rfl hl.1 rfl (lv_room (Nat.le_of_ble_eq_true rfl)) dX7_totalOfProduct_57 ⟨Nat.le_of_ble_eq_true rfl, Nat.le_of_ble_eq_true rfl⟩) (zf0 hS hA) (zjE hP hD) hS (fun s44 H locs hP hD hS => ?_)
                have g0 := Option.some.inj h
                obtain ⟨h1, g1⟩ := Prod.mk.inj g0
                obtain ⟨h2, g2⟩ := Prod.mk.inj g1
                obtain ⟨h3, g3⟩ := Prod.mk.inj g2
                obtain ⟨h4, g4⟩ := Prod.mk.inj g3
                obtain ⟨h5, g5⟩ := Prod.mk.inj g4
                obtain ⟨h6, g6⟩ := Prod.mk.inj g5
                obtain ⟨h7, g7⟩ := Prod.mk.inj g6
                obtain ⟨h8, g8⟩ := Prod.mk.inj g7
                obtain ⟨h9, g9⟩ := Prod.mk.inj g8
                subst h1
                subst h2
                subst h3
                subst h4
                subst h5
                subst h6
                subst h7
                subst h8
                subst h9
                subst g9
                refine vx_ret ?_
                exact W.aret (v := .ref s44) hx hb hr (Or.inl ⟨_, rfl⟩) (Or.inr ⟨_, rfl⟩) (fun t ht hW => ⟨⟨(), s44, rfl, rfl, by rw [ht]; exact hP, va_K.moved hW.alike hK, hD⟩, hS.F ht⟩) hS.2.2 dX7_totalOfProduct_60

noncomputable def p_X7_determinant_L0 (F : Nat) (p1 : Int32) (r2 : Nat) (R_9 : Nat → Nat → Int64) (k : Int64 → Int32 → Bool → (Nat → Int32) → (Nat → Int32) → Int32 → Option (Nat × (Nat → Nat → Int64) × Bool × (Nat → Int32) × (Nat → Int32) × Int32 × (Nat → Int32) × Int32 × Int32 × Int32)) : Nat → Int64 → Int32 → Bool → (Nat → Int32) → (Nat → Int32) → Int32 → Option (Nat × (Nat → Nat → Int64) × Bool × (Nat → Int32) × (Nat → Int32) × Int32 × (Nat → Int32) × Int32 × Int32 × Int32)
  | 0, _, _, _, _, _, _ => none
  | n + 1, v5_0, v7_0, bL0, prL0, tmL0, cnL0 => (if p1 < v7_0 then (k v5_0 v7_0 bL0 prL0 tmL0 cnL0) else (zb5 (p_X0_signedAt F R_9 bL0 prL0 tmL0 cnL0 r2 v7_0) (fun r21 b_22 pr_23 tm_24 cn_25 => (p_X7_determinant_L0 F p1 r2 R_9 k n (v5_0 * r21) (v7_0 + (1 : Int32)) b_22 pr_23 tm_24 cn_25))))
noncomputable def p_X7_determinant (F : Nat) (R : Nat → Nat → Int64) (b : Bool) (pr : Nat → Int32) (tm : Nat → Int32) (cn : Int32) (sm : Nat → Int32) (ac : Int32) (re : Int32) (kn : Int32) (p0 : Int32) (p1 : Int32) (p2 : Int32) : Option (Nat × (Nat → Nat → Int64) × Bool × (Nat → Int32) × (Nat → Int32) × Int32 × (Nat → Int32) × Int32 × Int32 × Int32) := (zb2 (p_X7_rowOf p0) (fun cd1 r2 => (if cd1 = 0 then (zb1 (p_X7_need p1 (1 : Int32) (6 : Int32)) (fun cd4 => (if cd4 = 0 then (zb1 (p_X7_need p2 (0 : Int32) (1 : Int32)) (fun cd6 => (if cd6 = 0 then (zb10 (p_X7_needSizes F R b pr tm cn sm ac re kn r2 p1 (100 : Int32)) (fun cd8 R_9 b_10 pr_11 tm_12 cn_13 sm_14 ac_15 re_16 kn_17 => (if cd8 = 0 then (if ¬ p2 = 0 then (p_X7_determinant_L0 F p1 r2 R_9 (fun v5_0 v7_0 bL0 prL0 tmL0 cnL0 => (zb0 (p_X7_textOf F v5_0) (some (0, R_9, bL0, prL0, tmL0, cnL0, sm_14, ac_15, re_16, kn_17)))) F (1 : Int64) (1 : Int32) b_10 pr_11 tm_12 cn_13) else (zb1 (p_X5_sumOfSequences 8 F R_9 r2 p1 (1 : Int32) (0 : Int32)) (fun r27 => (zb0 (p_X7_textOf F r27) (some (0, R_9, b_10, pr_11, tm_12, cn_13, sm_14, ac_15, re_16, kn_17)))))) else (some (cd8, R_9, b_10, pr_11, tm_12, cn_13, sm_14, ac_15, re_16, kn_17))))) else (some (cd6, R, b, pr, tm, cn, sm, ac, re, kn))))) else (some (cd4, R, b, pr, tm, cn, sm, ac, re, kn))))) else (some (cd1, R, b, pr, tm, cn, sm, ac, re, kn)))))
theorem hdV_X7_determinant : yX7_determinant.cls = RX7 ∧ yX7_determinant.cls ≠ "java/lang/invoke/MethodHandle" ∧ yX7_determinant.cls ≠ "java/lang/invoke/VarHandle" ∧ (parseMethodDescriptor yX7_determinant.desc).map (fun d => d.parameters.length) = some 3 := by decide +kernel
set_option maxHeartbeats 4000000 in
set_option maxRecDepth 100000 in
theorem c_X7_determinant (l : Launch) (D : va_G) (a : Nat → Nat) (cJ cI cO cB : ClassId) (R : Nat → Nat → Int64) (b : Bool) (pr : Nat → Int32) (tm : Nat → Int32) (cn : Int32) (sm : Nat → Int32) (ac : Int32) (re : Int32) (kn : Int32) (F : Nat) (p0 : Int32) (p1 : Int32) (p2 : Int32) (cd : Nat) (R' : Nat → Nat → Int64) (b' : Bool) (pr' : Nat → Int32) (tm' : Nat → Int32) (cn' : Int32) (sm' : Nat → Int32) (ac' : Int32) (re' : Int32) (kn' : Int32) (hlt : l.stackTraces = false) (h : p_X7_determinant F R b pr tm cn sm ac re kn p0 p1 p2 = some (cd, R', b', pr', tm', cn', sm', ac', re', kn')) : zMxsN l yX7_determinant wsX7_determinant 10 286 28 3198 D (zT cJ cI cO cB) [.ref (a 0), .int p0, .int p1, .int p2] (cW a cJ cI cO R b pr tm cn sm ac re kn) (cW a cJ cI cO R' b' pr' tm' cn' sm' ac' re' kn') cd := by
  intro sz
  delta zQxs zX
  refine vx_ofW (cc := cX7_determinant) (maxL := 8) (ret := (some (.object "java/lang/String"))) (by decide) rfl ?_
  intro p e s m args below meth c s₁ B hml hnt hv
  obtain ⟨rfl, ⟨⟨hsz, hP, hK, hD0⟩, hE⟩, hN⟩ := hv
  have hx := B.exec
  have hb := B.bytes
  have hr := B.returns
  have hts := atoms_spec (ws := wsX7_determinant) B.pre
  have hown : s.vm.findClass RX7 = some m.cls := findClass_of_methodNamed B.named
  have hlocks := B.notSynchronized
  subst hsz
  have hD := hD0.self (sz := s.heap.size)
  generalize hAe : va_A (cW a cJ cI cO R b pr tm cn sm ac re kn) s.heap.size = A at hD hE ⊢
  have hA : ∀ q : Nat, s.heap.size ≤ q → A q := fun q h => by rw [← hAe]; exact Or.inr h
  have hS : va_S A s.heap s.heap [] := va_S.rf
  have hl := lv_entry ([.ref (a 0), .int p0, .int p1, .int p2]) (n := 8) (Nat.le_of_ble_eq_true rfl)
  rw [lg_entry_eq]
  generalize (lg_sl ([.ref (a 0), .int p0, .int p1, .int p2]) ++ List.replicate (8 - (lg_sl ([.ref (a 0), .int p0, .int p1, .int p2])).length) Slot.unset).toArray = ls at hl ⊢
  replace hl : lv_has ls 8 [(0, .ref (a 0)), (1, .int p0), (2, .int p1), (3, .int p2)] := hl
  have kwX7 : ∀ w ∈ u_ws RX7 TX7 9, w ∈ wsX7_determinant := fun w h => List.mem_cons_of_mem _ (List.mem_append_left _ (List.mem_append_left _ (List.mem_append_left _ (List.mem_append_left _ (List.mem_append_left _ (List.mem_append_right _ (List.mem_cons_of_mem _ (List.mem_append_left _ (List.mem_append_right _ h)))))))))
  have kf_42 := hts (.fieldLink RX7 42 "Divisorwork" "maker" "LDivisorwork$Maker;") (zmem 1 rfl)
  have kii_nest := hts (.initialized RX5) (zmem 15 rfl)
  have kst_nest := hts (.static yX5_sumOfSequences) (zmem 14 rfl)
  replace h : (zb2 (p_X7_rowOf p0) (fun cd1 r2 => (if cd1 = 0 then (zb1 (p_X7_need p1 (1 : Int32) (6 : Int32)) (fun cd4 => (if cd4 = 0 then (zb1 (p_X7_need p2 (0 : Int32) (1 : Int32)) (fun cd6 => (if cd6 = 0 then (zb10 (p_X7_needSizes F R b pr tm cn sm ac re kn r2 p1 (100 : Int32)) (fun cd8 R_9 b_10 pr_11 tm_12 cn_13 sm_14 ac_15 re_16 kn_17 => (if cd8 = 0 then (if ¬ p2 = 0 then (p_X7_determinant_L0 F p1 r2 R_9 (fun v5_0 v7_0 bL0 prL0 tmL0 cnL0 => (zb0 (p_X7_textOf F v5_0) (some (0, R_9, bL0, prL0, tmL0, cnL0, sm_14, ac_15, re_16, kn_17)))) F (1 : Int64) (1 : Int32) b_10 pr_11 tm_12 cn_13) else (zb1 (p_X5_sumOfSequences 8 F R_9 r2 p1 (1 : Int32) (0 : Int32)) (fun r27 => (zb0 (p_X7_textOf F r27) (some (0, R_9, b_10, pr_11, tm_12, cn_13, sm_14, ac_15, re_16, kn_17)))))) else (some (cd8, R_9, b_10, pr_11, tm_12, cn_13, sm_14, ac_15, re_16, kn_17))))) else (some (cd6, R, b, pr, tm, cn, sm, ac, re, kn))))) else (some (cd4, R, b, pr, tm, cn, sm, ac, re, kn))))) else (some (cd1, R, b, pr, tm, cn, sm, ac, re, kn))))) = some (cd, R', b', pr', tm', cn', sm', ac', re', kn') := h
  refine zabs (fun G hG hGW => ?_)
  obtain ⟨H, hHe⟩ : ∃ H, H = s.heap := ⟨_, rfl⟩
  rw [← hHe] at hP
  replace hS : va_S A s.heap H [] := by rw [hHe]; exact hS
  refine zheap hHe ?_
  refine lv_aload_n hx hb dX7_determinant_0 rfl (lv_at hl 0 rfl) ?_
  refine lv_iload_n hx hb dX7_determinant_1 rfl (lv_at hl 1 rfl) ?_
  obtain ⟨cd1, r2, e3, h⟩ := zb2_some h
  refine zxgor (vx_runV (As := [.int p0]) (rest := []) ⟨hx, hb, hml, hown, hts⟩ (c_X7_rowOf l D a cJ cI cO cB R b pr tm cn sm ac re kn p0 cd1 r2 hlt e3 H.size) (cwV 1 hts gX7_determinant_X7_rowOf rfl rfl rfl hdV_X7_rowOf ⟨Nat.le_of_ble_eq_true rfl, Nat.le_of_ble_eq_true rfl⟩) (zxpreV hE hS (zfree hD hS hA) (q0 := 0) (ci := 7) (T := TX7) (N := 9) hK hP hD rfl rfl [.int p0]) rfl rfl hl.1 rfl (lv_room (Nat.le_of_ble_eq_true rfl)) dX7_determinant_2 ⟨Nat.le_of_ble_eq_true rfl, Nat.le_of_ble_eq_true rfl⟩) (zfree hD hS hA) (zjW hD hS hA) hS (fun k02 => ?_) (fun k02 H locs hP hD hS => ?_)
  · replace h := zif_f h k02
    have g0 := Option.some.inj h
    obtain ⟨h1, g1⟩ := Prod.mk.inj g0
    obtain ⟨h2, g2⟩ := Prod.mk.inj g1
    obtain ⟨h3, g3⟩ := Prod.mk.inj g2
    obtain ⟨h4, g4⟩ := Prod.mk.inj g3
    obtain ⟨h5, g5⟩ := Prod.mk.inj g4
    obtain ⟨h6, g6⟩ := Prod.mk.inj g5
    obtain ⟨h7, g7⟩ := Prod.mk.inj g6
    obtain ⟨h8, g8⟩ := Prod.mk.inj g7
    obtain ⟨h9, g9⟩ := Prod.mk.inj g8
    subst h1
    subst h2
    subst h3
    subst h4
    subst h5
    subst h6
    subst h7
    subst h8
    subst h9
    subst g9
    exact zxout hnt hlocks k02 hK (Nat.le_of_ble_eq_true rfl) (Nat.le_of_ble_eq_true rfl) k02
  · replace h := zif_t h k02
    replace hP : va_P D vwCl (cW a cJ cI cO R b pr tm cn sm ac re kn) H := hP
    replace hD : va_D A (cW a cJ cI cO R b pr tm cn sm ac re kn) := hD
    refine lv_astore (lv' := [(4, .ref (a (2 + r2))), (0, .ref (a 0)), (1, .int p0), (2, .int p1), (3, .int p2)]) hx hb dX7_determinant_5 hl (by decide) rfl (fun ls hl => ?_)
    refine lv_iload_n hx hb dX7_determinant_7 rfl (lv_at hl 3 rfl) ?_
    refine lv_iconst (v := (1 : Int32)) hx hb dX7_determinant_8 (by decide) ?_
    refine lv_bipush (v := (6 : Int32)) hx hb dX7_determinant_9 (by decide) ?_
    obtain ⟨cd4, e5, h⟩ := zb1_some h
    refine zxgov (vx_runS (As := [.int p1, .int (1 : Int32), .int (6 : Int32)]) (rest := []) ⟨hx, hb, hml, hown, hts⟩ (c_X7_need l D cJ cI cO cB p1 (1 : Int32) (6 : Int32) cd4 hlt e5 H.size) (va_cwS 3 hts gX7_determinant_X7_need rfl rfl rfl hdS_X7_need ⟨Nat.le_of_ble_eq_true rfl, Nat.le_of_ble_eq_true rfl⟩) (zxpreS hE hS (zf0 hS hA) hK zP0 (zD0 (A := A)) [.int p1, .int (1 : Int32), .int (6 : Int32)]) rfl rfl hl.1 rfl (lv_room (Nat.le_of_ble_eq_true rfl)) dX7_determinant_11 ⟨Nat.le_of_ble_eq_true rfl, Nat.le_of_ble_eq_true rfl⟩) (zf0 hS hA) (zjE hP hD) hS (fun k011 => ?_) (fun k011 H locs hP hD hS => ?_)
    · replace h := zif_f h k011
      have g0 := Option.some.inj h
      obtain ⟨h1, g1⟩ := Prod.mk.inj g0
      obtain ⟨h2, g2⟩ := Prod.mk.inj g1
      obtain ⟨h3, g3⟩ := Prod.mk.inj g2
      obtain ⟨h4, g4⟩ := Prod.mk.inj g3
      obtain ⟨h5, g5⟩ := Prod.mk.inj g4
      obtain ⟨h6, g6⟩ := Prod.mk.inj g5
      obtain ⟨h7, g7⟩ := Prod.mk.inj g6
      obtain ⟨h8, g8⟩ := Prod.mk.inj g7
      obtain ⟨h9, g9⟩ := Prod.mk.inj g8
      subst h1
      subst h2
      subst h3
      subst h4
      subst h5
      subst h6
      subst h7
      subst h8
      subst h9
      subst g9
      exact zxout hnt hlocks k011 hK (Nat.le_of_ble_eq_true rfl) (Nat.le_of_ble_eq_true rfl) k011
    · replace h := zif_t h k011
      refine lv_iload_n hx hb dX7_determinant_14 rfl (lv_at hl 4 rfl) ?_
      refine lv_iconst (v := (0 : Int32)) hx hb dX7_determinant_15 (by decide) ?_
      refine lv_iconst (v := (1 : Int32)) hx hb dX7_determinant_16 (by decide) ?_
      obtain ⟨cd6, e7, h⟩ := zb1_some h
      refine zxgov (vx_runS (As := [.int p2, .int (0 : Int32), .int (1 : Int32)]) (rest := []) ⟨hx, hb, hml, hown, hts⟩ (c_X7_need l D cJ cI cO cB p2 (0 : Int32) (1 : Int32) cd6 hlt e7 H.size) (va_cwS 3 hts gX7_determinant_X7_need rfl rfl rfl hdS_X7_need ⟨Nat.le_of_ble_eq_true rfl, Nat.le_of_ble_eq_true rfl⟩) (zxpreS hE hS (zf0 hS hA) hK zP0 (zD0 (A := A)) [.int p2, .int (0 : Int32), .int (1 : Int32)]) rfl rfl hl.1 rfl (lv_room (Nat.le_of_ble_eq_true rfl)) dX7_determinant_17 ⟨Nat.le_of_ble_eq_true rfl, Nat.le_of_ble_eq_true rfl⟩) (zf0 hS hA) (zjE hP hD) hS (fun k017 => ?_) (fun k017 H locs hP hD hS => ?_)
      · replace h := zif_f h k017
        have g0 := Option.some.inj h
        obtain ⟨h1, g1⟩ := Prod.mk.inj g0
        obtain ⟨h2, g2⟩ := Prod.mk.inj g1
        obtain ⟨h3, g3⟩ := Prod.mk.inj g2
        obtain ⟨h4, g4⟩ := Prod.mk.inj g3
        obtain ⟨h5, g5⟩ := Prod.mk.inj g4
        obtain ⟨h6, g6⟩ := Prod.mk.inj g5
        obtain ⟨h7, g7⟩ := Prod.mk.inj g6
        obtain ⟨h8, g8⟩ := Prod.mk.inj g7
        obtain ⟨h9, g9⟩ := Prod.mk.inj g8
        subst h1
        subst h2
        subst h3
        subst h4
        subst h5
        subst h6
        subst h7
        subst h8
        subst h9
        subst g9
        exact zxout hnt hlocks k017 hK (Nat.le_of_ble_eq_true rfl) (Nat.le_of_ble_eq_true rfl) k017
      · replace h := zif_t h k017
        refine lv_aload hx hb dX7_determinant_20 (lv_at hl 0 rfl) ?_
        refine lv_iload_n hx hb dX7_determinant_22 rfl (lv_at hl 3 rfl) ?_
        refine lv_bipush (v := (100 : Int32)) hx hb dX7_determinant_23 (by decide) ?_
        obtain ⟨cd8, R_9, b_10, pr_11, tm_12, cn_13, sm_14, ac_15, re_16, kn_17, e18, h⟩ := zb10_some h
        refine zxgov (vx_runS (As := [.ref (a (2 + r2)), .int p1, .int (100 : Int32)]) (rest := []) ⟨hx, hb, hml, hown, hts⟩ (c_X7_needSizes l D a cJ cI cO cB R b pr tm cn sm ac re kn F r2 p1 (100 : Int32) (zrow_lt e3 k02) cd8 R_9 b_10 pr_11 tm_12 cn_13 sm_14 ac_15 re_16 kn_17 hlt e18 H.size) (va_cwS 3 hts gX7_determinant_X7_needSizes rfl rfl rfl hdS_X7_needSizes ⟨Nat.le_of_ble_eq_true rfl, Nat.le_of_ble_eq_true rfl⟩) (zxpreS hE hS (zfree hD hS hA) hK hP hD [.ref (a (2 + r2)), .int p1, .int (100 : Int32)]) rfl rfl hl.1 rfl (lv_room (Nat.le_of_ble_eq_true rfl)) dX7_determinant_25 ⟨Nat.le_of_ble_eq_true rfl, Nat.le_of_ble_eq_true rfl⟩) (zfree hD hS hA) (zjW hD hS hA) hS (fun k025 => ?_) (fun k025 H locs hP hD hS => ?_)
        · replace h := zif_f h k025
          have g0 := Option.some.inj h
          obtain ⟨h1, g1⟩ := Prod.mk.inj g0
          obtain ⟨h2, g2⟩ := Prod.mk.inj g1
          obtain ⟨h3, g3⟩ := Prod.mk.inj g2
          obtain ⟨h4, g4⟩ := Prod.mk.inj g3
          obtain ⟨h5, g5⟩ := Prod.mk.inj g4
          obtain ⟨h6, g6⟩ := Prod.mk.inj g5
          obtain ⟨h7, g7⟩ := Prod.mk.inj g6
          obtain ⟨h8, g8⟩ := Prod.mk.inj g7
          obtain ⟨h9, g9⟩ := Prod.mk.inj g8
          subst h1
          subst h2
          subst h3
          subst h4
          subst h5
          subst h6
          subst h7
          subst h8
          subst h9
          subst g9
          exact zxout hnt hlocks k025 hK (Nat.le_of_ble_eq_true rfl) (Nat.le_of_ble_eq_true rfl) k025
        · replace h := zif_t h k025
          replace hP : va_P D vwCl (cW a cJ cI cO R_9 b_10 pr_11 tm_12 cn_13 sm_14 ac_15 re_16 kn_17) H := hP
          replace hD : va_D A (cW a cJ cI cO R_9 b_10 pr_11 tm_12 cn_13 sm_14 ac_15 re_16 kn_17) := hD
          refine lv_iload_n hx hb dX7_determinant_28 rfl (lv_at hl 4 rfl) ?_
          refine lv_if_ne (tgt := 44) hx hb dX7_determinant_29 (by decide) (fun c29 => ?_) (fun c29 => ?_)
          · replace h := zif_t h c29
            refine lv_lconst (v := (1 : Int64)) hx hb dX7_determinant_44 (by decide) ?_
            refine lv_lstore (lv' := [(5, .long (1 : Int64)), (4, .ref (a (2 + r2))), (0, .ref (a 0)), (1, .int p0), (2, .int p1), (3, .int p2)]) hx hb dX7_determinant_45 hl (by decide) rfl (fun ls hl => ?_)
            refine lv_iconst (v := (1 : Int32)) hx hb dX7_determinant_47 (by decide) ?_
            refine lv_istore (lv' := [(7, .int (1 : Int32)), (5, .long (1 : Int64)), (4, .ref (a (2 + r2))), (0, .ref (a 0)), (1, .int p0), (2, .int p1), (3, .int p2)]) hx hb dX7_determinant_48 hl (by decide) rfl (fun ls hl => ?_)
            have X0 : ∀ (v5_0 : Int64) (v7_0 : Int32) (bL0 : Bool) (prL0 : Nat → Int32) (tmL0 : Nat → Int32) (cnL0 : Int32) (H : Heap) (locs : List Loc) (ls : Array Slot), va_P D vwCl (cW a cJ cI cO R_9 bL0 prL0 tmL0 cnL0 sm_14 ac_15 re_16 kn_17) H → va_D A (cW a cJ cI cO R_9 bL0 prL0 tmL0 cnL0 sm_14 ac_15 re_16 kn_17) → va_S A s.heap H locs → lv_has ls 8 [(0, .ref (a 0)), (1, .int p0), (2, .int p1), (3, .int p2), (4, .ref (a (2 + r2))), (5, .long v5_0), (7, .int v7_0)] → (zb0 (p_X7_textOf F v5_0) (some (0, R_9, bL0, prL0, tmL0, cnL0, sm_14, ac_15, re_16, kn_17))) = some (cd, R', b', pr', tm', cn', sm', ac', re', kn') → G H locs 4 24 (F0 m 78 ls []) := by
              intro v5_0 v7_0 bL0 prL0 tmL0 cnL0 H locs ls hP hD hS hl h
              refine hG _ _ _ _ _ ?_
              refine lv_lload hx hb dX7_determinant_78 (lv_at hl 5 rfl) ?_
              obtain ⟨e19, h⟩ := zb0_some h
              refine zgos (va_runS (As := [.long v5_0]) (rest := []) ⟨hx, hb, hml, hown, hts⟩ (c_X7_textOf l D cJ cI cO cB F v5_0 e19 H.size) (va_cwS 1 hts gX7_determinant_X7_textOf rfl rfl rfl hdS_X7_textOf ⟨Nat.le_of_ble_eq_true rfl, Nat.le_of_ble_eq_true rfl⟩) (zxpreS hE hS (zf0 hS hA) hK zP0 (zD0 (A := A)) [.long v5_0]) rfl rfl hl.1 rfl (lv_room (Nat.le_of_ble_eq_true rfl)) dX7_determinant_80 ⟨Nat.le_of_ble_eq_true rfl, Nat.le_of_ble_eq_true rfl⟩) (zf0 hS hA) (zjE hP hD) hS (fun s20 H locs hP hD hS => ?_)
              have g0 := Option.some.inj h
              obtain ⟨h1, g1⟩ := Prod.mk.inj g0
              obtain ⟨h2, g2⟩ := Prod.mk.inj g1
              obtain ⟨h3, g3⟩ := Prod.mk.inj g2
              obtain ⟨h4, g4⟩ := Prod.mk.inj g3
              obtain ⟨h5, g5⟩ := Prod.mk.inj g4
              obtain ⟨h6, g6⟩ := Prod.mk.inj g5
              obtain ⟨h7, g7⟩ := Prod.mk.inj g6
              obtain ⟨h8, g8⟩ := Prod.mk.inj g7
              obtain ⟨h9, g9⟩ := Prod.mk.inj g8
              subst h1
              subst h2
              subst h3
              subst h4
              subst h5
              subst h6
              subst h7
              subst h8
              subst h9
              subst g9
              refine vx_ret ?_
              exact W.aret (v := .ref s20) hx hb hr (Or.inl ⟨_, rfl⟩) (Or.inr ⟨_, rfl⟩) (fun t ht hW => ⟨⟨(), s20, rfl, rfl, by rw [ht]; exact hP, va_K.moved hW.alike hK, hD⟩, hS.F ht⟩) hS.2.2 dX7_determinant_83
            have L0 : ∀ (K0 : Int64 → Int32 → Bool → (Nat → Int32) → (Nat → Int32) → Int32 → Option (Nat × (Nat → Nat → Int64) × Bool × (Nat → Int32) × (Nat → Int32) × Int32 × (Nat → Int32) × Int32 × Int32 × Int32)) (HX0 : ∀ (v5_0 : Int64) (v7_0 : Int32) (bL0 : Bool) (prL0 : Nat → Int32) (tmL0 : Nat → Int32) (cnL0 : Int32) (H : Heap) (locs : List Loc) (ls : Array Slot), va_P D vwCl (cW a cJ cI cO R_9 bL0 prL0 tmL0 cnL0 sm_14 ac_15 re_16 kn_17) H → va_D A (cW a cJ cI cO R_9 bL0 prL0 tmL0 cnL0 sm_14 ac_15 re_16 kn_17) → va_S A s.heap H locs → lv_has ls 8 [(0, .ref (a 0)), (1, .int p0), (2, .int p1), (3, .int p2), (4, .ref (a (2 + r2))), (5, .long v5_0), (7, .int v7_0)] → K0 v5_0 v7_0 bL0 prL0 tmL0 cnL0 = some (cd, R', b', pr', tm', cn', sm', ac', re', kn') → G H locs 4 24 (F0 m 78 ls [])) (fu0 : Nat) (v5_0 : Int64) (v7_0 : Int32) (bL0 : Bool) (prL0 : Nat → Int32) (tmL0 : Nat → Int32) (cnL0 : Int32) (H : Heap) (locs : List Loc) (ls : Array Slot), va_P D vwCl (cW a cJ cI cO R_9 bL0 prL0 tmL0 cnL0 sm_14 ac_15 re_16 kn_17) H → va_D A (cW a cJ cI cO R_9 bL0 prL0 tmL0 cnL0 sm_14 ac_15 re_16 kn_17) → va_S A s.heap H locs → lv_has ls 8 [(0, .ref (a 0)), (1, .int p0), (2, .int p1), (3, .int p2), (4, .ref (a (2 + r2))), (5, .long v5_0), (7, .int v7_0)] → p_X7_determinant_L0 F p1 r2 R_9 K0 fu0 v5_0 v7_0 bL0 prL0 tmL0 cnL0 = some (cd, R', b', pr', tm', cn', sm', ac', re', kn') → G H locs 4 24 (F0 m 50 ls []) := by
              intro K0 HX0 fu0
              induction fu0 with
              | zero =>
                intro v5_0 v7_0 bL0 prL0 tmL0 cnL0 H locs ls hP hD hS hl h
                exact (zno h).elim
              | succ fu0 ih0 =>
                intro v5_0 v7_0 bL0 prL0 tmL0 cnL0 H locs ls hP hD hS hl h
                refine hG _ _ _ _ _ ?_
                unfold p_X7_determinant_L0 at h
                refine lv_iload hx hb dX7_determinant_50 (lv_at hl 6 rfl) ?_
                refine lv_iload_n hx hb dX7_determinant_52 rfl (lv_at hl 2 rfl) ?_
                refine lv_icmp_gt (tgt := 78) hx hb dX7_determinant_53 (by decide) (fun c53 => ?_) (fun c53 => ?_)
                · replace h := zif_t h c53
                  exact hGW _ _ _ _ _ (HX0 v5_0 v7_0 bL0 prL0 tmL0 cnL0 _ _ ls hP hD hS (lv_sub hl [0, 1, 2, 3, 4, 5, 6] rfl) h)
                · replace h := zif_f h c53
                  refine lv_lload hx hb dX7_determinant_56 (lv_at hl 5 rfl) ?_
                  refine lv_aload_n hx hb dX7_determinant_58 rfl (lv_at hl 0 rfl) ?_
                  refine va_get (D := D) (ci := 7) (v := .ref (a 16)) (C := RX7) (T := TX7) (N := 9) hx hb hts kwX7 hown hK hP 0 rfl rfl 5 (by decide) kf_42 (fun _ h9 => h9) rfl dX7_determinant_59 ?_
                  refine lv_aload hx hb dX7_determinant_62 (lv_at hl 4 rfl) ?_
                  refine lv_iload hx hb dX7_determinant_64 (lv_at hl 6 rfl) ?_
                  obtain ⟨r21, b_22, pr_23, tm_24, cn_25, e26, h⟩ := zb5_some h
                  refine zgol (va_runV (As := [.ref (a (2 + r2)), .int v7_0]) (rest := [.long v5_0]) ⟨hx, hb, hml, hown, hts⟩ (c_X0_signedAt l D a cJ cI cO cB R_9 bL0 prL0 tmL0 cnL0 sm_14 ac_15 re_16 kn_17 F r2 v7_0 (zrow_lt e3 k02) r21 b_22 pr_23 tm_24 cn_25 e26 H.size) (cwV 2 hts gX7_determinant_X0_signedAt rfl rfl rfl hdV_X0_signedAt ⟨Nat.le_of_ble_eq_true rfl, Nat.le_of_ble_eq_true rfl⟩) (zpreV (q0 := 16) (ci := 2) (T := TX0) (N := 2) hK hP hD rfl rfl [.ref (a (2 + r2)), .int v7_0]) rfl rfl hl.1 rfl (lv_room (Nat.le_of_ble_eq_true rfl)) dX7_determinant_66 ⟨Nat.le_of_ble_eq_true rfl, Nat.le_of_ble_eq_true rfl⟩) (zfree hD hS hA) (zjW hD hS hA) hS (fun H locs hP hD hS => ?_)
                  replace hP : va_P D vwCl (cW a cJ cI cO R_9 b_22 pr_23 tm_24 cn_25 sm_14 ac_15 re_16 kn_17) H := hP
                  replace hD : va_D A (cW a cJ cI cO R_9 b_22 pr_23 tm_24 cn_25 sm_14 ac_15 re_16 kn_17) := hD
                  refine lv_lmul hx hb dX7_determinant_69 ?_
                  refine lv_lstore (lv' := [(5, .long (v5_0 * r21)), (0, .ref (a 0)), (1, .int p0), (2, .int p1), (3, .int p2), (4, .ref (a (2 + r2))), (7, .int v7_0)]) hx hb dX7_determinant_70 hl (by decide) rfl (fun ls hl => ?_)
                  refine lv_iinc (v := (v7_0 + (1 : Int32))) (lv' := [(7, .int (v7_0 + (1 : Int32))), (5, .long (v5_0 * r21)), (0, .ref (a 0)), (1, .int p0), (2, .int p1), (3, .int p2), (4, .ref (a (2 + r2)))]) hx hb dX7_determinant_72 hl (k := 6) rfl rfl (by decide) rfl (fun ls hl => ?_)
                  refine lv_goto (tgt := 50) hx hb dX7_determinant_75 (by decide) ?_
                  exact hGW _ _ _ _ _ (ih0 (v5_0 * r21) (v7_0 + (1 : Int32)) b_22 pr_23 tm_24 cn_25 _ _ ls hP hD hS (lv_sub hl [2, 3, 4, 5, 6, 1, 0] rfl) h)
            exact hGW _ _ _ _ _ (L0 _ X0 F (1 : Int64) (1 : Int32) b_10 pr_11 tm_12 cn_13 _ _ ls hP hD hS (lv_sub hl [3, 4, 5, 6, 2, 1, 0] rfl) h)
          · replace h := zif_fn h c29
            refine lv_aload hx hb dX7_determinant_32 (lv_at hl 0 rfl) ?_
            refine lv_iload_n hx hb dX7_determinant_34 rfl (lv_at hl 3 rfl) ?_
            refine lv_iconst (v := (1 : Int32)) hx hb dX7_determinant_35 (by decide) ?_
            refine lv_iconst (v := (0 : Int32)) hx hb dX7_determinant_36 (by decide) ?_
            obtain ⟨r27, e28, h⟩ := zb1_some h
            refine zgol (va_runSN (As := [.ref (a (2 + r2)), .int p1, .int (1 : Int32), .int (0 : Int32)]) (rest := []) ⟨hx, hb, hml, hown, hts⟩ (c_X5_sumOfSequences l D a cJ cI cO cB R_9 b_10 pr_11 tm_12 cn_13 sm_14 ac_15 re_16 kn_17 F 8 r2 p1 (1 : Int32) (0 : Int32) (zrow_lt e3 k02) r27 e28 H.size) ⟨va_cnB 4 hts gX7_determinant_X5_sumOfSequences_n164 rfl rfl rfl hN.2.2.2.2.2 kii_nest hdS_X5_sumOfSequences ⟨Nat.le_of_ble_eq_true rfl, Nat.le_of_ble_eq_true rfl⟩, kst_nest, trivial⟩ (zpreS hK hP hD [.ref (a (2 + r2)), .int p1, .int (1 : Int32), .int (0 : Int32)]) rfl rfl hl.1 rfl (lv_room (Nat.le_of_ble_eq_true rfl)) dX7_determinant_37 ⟨Nat.le_of_ble_eq_true rfl, Nat.le_of_ble_eq_true rfl⟩) (zfree hD hS hA) (zjW hD hS hA) hS (fun H locs hP hD hS => ?_)
            replace hP : va_P D vwCl (cW a cJ cI cO R_9 b_10 pr_11 tm_12 cn_13 sm_14 ac_15 re_16 kn_17) H := hP
            replace hD : va_D A (cW a cJ cI cO R_9 b_10 pr_11 tm_12 cn_13 sm_14 ac_15 re_16 kn_17) := hD
            obtain ⟨e29, h⟩ := zb0_some h
            refine zgos (va_runS (As := [.long r27]) (rest := []) ⟨hx, hb, hml, hown, hts⟩ (c_X7_textOf l D cJ cI cO cB F r27 e29 H.size) (va_cwS 1 hts gX7_determinant_X7_textOf rfl rfl rfl hdS_X7_textOf ⟨Nat.le_of_ble_eq_true rfl, Nat.le_of_ble_eq_true rfl⟩) (zxpreS hE hS (zf0 hS hA) hK zP0 (zD0 (A := A)) [.long r27]) rfl rfl hl.1 rfl (lv_room (Nat.le_of_ble_eq_true rfl)) dX7_determinant_40 ⟨Nat.le_of_ble_eq_true rfl, Nat.le_of_ble_eq_true rfl⟩) (zf0 hS hA) (zjE hP hD) hS (fun s30 H locs hP hD hS => ?_)
            have g0 := Option.some.inj h
            obtain ⟨h1, g1⟩ := Prod.mk.inj g0
            obtain ⟨h2, g2⟩ := Prod.mk.inj g1
            obtain ⟨h3, g3⟩ := Prod.mk.inj g2
            obtain ⟨h4, g4⟩ := Prod.mk.inj g3
            obtain ⟨h5, g5⟩ := Prod.mk.inj g4
            obtain ⟨h6, g6⟩ := Prod.mk.inj g5
            obtain ⟨h7, g7⟩ := Prod.mk.inj g6
            obtain ⟨h8, g8⟩ := Prod.mk.inj g7
            obtain ⟨h9, g9⟩ := Prod.mk.inj g8
            subst h1
            subst h2
            subst h3
            subst h4
            subst h5
            subst h6
            subst h7
            subst h8
            subst h9
            subst g9
            refine vx_ret ?_
            exact W.aret (v := .ref s30) hx hb hr (Or.inl ⟨_, rfl⟩) (Or.inr ⟨_, rfl⟩) (fun t ht hW => ⟨⟨(), s30, rfl, rfl, by rw [ht]; exact hP, va_K.moved hW.alike hK, hD⟩, hS.F ht⟩) hS.2.2 dX7_determinant_43

noncomputable def p_X7_powers (F : Nat) (pr : Nat → Int32) (tm : Nat → Int32) (cn : Int32) (p0 : Int32) : Option (Nat × (Nat → Int32) × (Nat → Int32) × Int32) := (zb1 (p_X7_need p0 (1 : Int32) (999 : Int32)) (fun cd1 => (if cd1 = 0 then (zb3 (p_X1_textOfPowers F pr tm p0) (fun pr_3 tm_4 cn_5 => (some (0, pr_3, tm_4, cn_5)))) else (some (cd1, pr, tm, cn)))))
theorem hdV_X7_powers : yX7_powers.cls = RX7 ∧ yX7_powers.cls ≠ "java/lang/invoke/MethodHandle" ∧ yX7_powers.cls ≠ "java/lang/invoke/VarHandle" ∧ (parseMethodDescriptor yX7_powers.desc).map (fun d => d.parameters.length) = some 1 := by decide +kernel
set_option maxHeartbeats 4000000 in
set_option maxRecDepth 100000 in
theorem c_X7_powers (l : Launch) (D : va_G) (a : Nat → Nat) (cJ cI cO cB : ClassId) (R : Nat → Nat → Int64) (b : Bool) (pr : Nat → Int32) (tm : Nat → Int32) (cn : Int32) (sm : Nat → Int32) (ac : Int32) (re : Int32) (kn : Int32) (F : Nat) (p0 : Int32) (cd : Nat) (pr' : Nat → Int32) (tm' : Nat → Int32) (cn' : Int32) (hlt : l.stackTraces = false) (h : p_X7_powers F pr tm cn p0 = some (cd, pr', tm', cn')) : zMxs l yX7_powers wsX7_powers 7 194 20 2430 D (zT cJ cI cO cB) [.ref (a 0), .int p0] (cW a cJ cI cO R b pr tm cn sm ac re kn) (cW a cJ cI cO R b pr' tm' cn' sm ac re kn) cd := by
  intro sz
  delta zQxs zX
  refine vx_ofW (cc := cX7_powers) (maxL := 2) (ret := (some (.object "java/lang/String"))) (by decide) rfl ?_
  intro p e s m args below meth c s₁ B hml hnt hv
  obtain ⟨rfl, ⟨hsz, hP, hK, hD0⟩, hE⟩ := hv
  have hx := B.exec
  have hb := B.bytes
  have hr := B.returns
  have hts := atoms_spec (ws := wsX7_powers) B.pre
  have hown : s.vm.findClass RX7 = some m.cls := findClass_of_methodNamed B.named
  have hlocks := B.notSynchronized
  subst hsz
  have hD := hD0.self (sz := s.heap.size)
  generalize hAe : va_A (cW a cJ cI cO R b pr tm cn sm ac re kn) s.heap.size = A at hD hE ⊢
  have hA : ∀ q : Nat, s.heap.size ≤ q → A q := fun q h => by rw [← hAe]; exact Or.inr h
  have hS : va_S A s.heap s.heap [] := va_S.rf
  have hl := lv_entry ([.ref (a 0), .int p0]) (n := 2) (Nat.le_of_ble_eq_true rfl)
  rw [lg_entry_eq]
  generalize (lg_sl ([.ref (a 0), .int p0]) ++ List.replicate (2 - (lg_sl ([.ref (a 0), .int p0])).length) Slot.unset).toArray = ls at hl ⊢
  replace hl : lv_has ls 2 [(0, .ref (a 0)), (1, .int p0)] := hl
  have kwX7 : ∀ w ∈ u_ws RX7 TX7 9, w ∈ wsX7_powers := fun w h => List.mem_cons_of_mem _ (List.mem_append_left _ (List.mem_append_left _ (List.mem_append_right _ h)))
  have kf_33 := hts (.fieldLink RX7 33 "Divisorwork" "numbers" "LDivisorwork$Numbers;") (zmem 1 rfl)
  replace h : (zb1 (p_X7_need p0 (1 : Int32) (999 : Int32)) (fun cd1 => (if cd1 = 0 then (zb3 (p_X1_textOfPowers F pr tm p0) (fun pr_3 tm_4 cn_5 => (some (0, pr_3, tm_4, cn_5)))) else (some (cd1, pr, tm, cn))))) = some (cd, pr', tm', cn') := h
  obtain ⟨H, hHe⟩ : ∃ H, H = s.heap := ⟨_, rfl⟩
  rw [← hHe] at hP
  replace hS : va_S A s.heap H [] := by rw [hHe]; exact hS
  refine zheap hHe ?_
  refine lv_iload_n hx hb dX7_powers_0 rfl (lv_at hl 1 rfl) ?_
  refine lv_iconst (v := (1 : Int32)) hx hb dX7_powers_1 (by decide) ?_
  refine lv_sipush (v := (999 : Int32)) hx hb dX7_powers_2 (by decide) ?_
  obtain ⟨cd1, e2, h⟩ := zb1_some h
  refine zxgov (vx_runS (As := [.int p0, .int (1 : Int32), .int (999 : Int32)]) (rest := []) ⟨hx, hb, hml, hown, hts⟩ (c_X7_need l D cJ cI cO cB p0 (1 : Int32) (999 : Int32) cd1 hlt e2 H.size) (va_cwS 3 hts gX7_powers_X7_need rfl rfl rfl hdS_X7_need ⟨Nat.le_of_ble_eq_true rfl, Nat.le_of_ble_eq_true rfl⟩) (zxpreS hE hS (zf0 hS hA) hK zP0 (zD0 (A := A)) [.int p0, .int (1 : Int32), .int (999 : Int32)]) rfl rfl hl.1 rfl (lv_room (Nat.le_of_ble_eq_true rfl)) dX7_powers_5 ⟨Nat.le_of_ble_eq_true rfl, Nat.le_of_ble_eq_true rfl⟩) (zf0 hS hA) (zjE hP hD) hS (fun k05 => ?_) (fun k05 H locs hP hD hS => ?_)
  · replace h := zif_f h k05
    have g0 := Option.some.inj h
    obtain ⟨h1, g1⟩ := Prod.mk.inj g0
    obtain ⟨h2, g2⟩ := Prod.mk.inj g1
    obtain ⟨h3, g3⟩ := Prod.mk.inj g2
    subst h1
    subst h2
    subst h3
    subst g3
    exact zxout hnt hlocks k05 hK (Nat.le_of_ble_eq_true rfl) (Nat.le_of_ble_eq_true rfl) k05
  · replace h := zif_t h k05
    refine lv_aload_n hx hb dX7_powers_8 rfl (lv_at hl 0 rfl) ?_
    refine va_get (D := D) (ci := 7) (v := .ref (a 15)) (C := RX7) (T := TX7) (N := 9) hx hb hts kwX7 hown hK hP 0 rfl rfl 4 (by decide) kf_33 (fun _ h9 => h9) rfl dX7_powers_9 ?_
    refine lv_iload_n hx hb dX7_powers_12 rfl (lv_at hl 1 rfl) ?_
    obtain ⟨pr_3, tm_4, cn_5, e6, h⟩ := zb3_some h
    refine zgos (va_runV (As := [.int p0]) (rest := []) ⟨hx, hb, hml, hown, hts⟩ (c_X1_textOfPowers l D a cJ cI cO cB R b pr tm cn sm ac re kn F p0 pr_3 tm_4 cn_5 e6 H.size) (cwV 1 hts gX7_powers_X1_textOfPowers rfl rfl rfl hdV_X1_textOfPowers ⟨Nat.le_of_ble_eq_true rfl, Nat.le_of_ble_eq_true rfl⟩) (zxpreV hE hS (zfree hD hS hA) (q0 := 15) (ci := 3) (T := TX1) (N := 2) hK hP hD rfl rfl [.int p0]) rfl rfl hl.1 rfl (lv_room (Nat.le_of_ble_eq_true rfl)) dX7_powers_13 ⟨Nat.le_of_ble_eq_true rfl, Nat.le_of_ble_eq_true rfl⟩) (zfree hD hS hA) (zjW hD hS hA) hS (fun s7 H locs hP hD hS => ?_)
    replace hP : va_P D vwCl (cW a cJ cI cO R b pr_3 tm_4 cn_5 sm ac re kn) H := hP
    replace hD : va_D A (cW a cJ cI cO R b pr_3 tm_4 cn_5 sm ac re kn) := hD
    have g0 := Option.some.inj h
    obtain ⟨h1, g1⟩ := Prod.mk.inj g0
    obtain ⟨h2, g2⟩ := Prod.mk.inj g1
    obtain ⟨h3, g3⟩ := Prod.mk.inj g2
    subst h1
    subst h2
    subst h3
    subst g3
    refine vx_ret ?_
    exact W.aret (v := .ref s7) hx hb hr (Or.inl ⟨_, rfl⟩) (Or.inr ⟨_, rfl⟩) (fun t ht hW => ⟨⟨(), s7, rfl, rfl, by rw [ht]; exact hP, va_K.moved hW.alike hK, hD⟩, hS.F ht⟩) hS.2.2 dX7_powers_16

noncomputable def p_X9_value (F : Nat) (V : Nat → Int64) (p0 : Int32) (p1 : Int32) : Option Int32 := (zb1 (p_X9_isOne p0) (fun r1 => (zb1 (p_X9_isIn p1 (1 : Int32) (120 : Int32)) (fun r3 => (zb2 (p_X9_isThrown r1 r3) (fun r5 th_6 => (if (z01 r5) = 0 then (zb3 (p_J4_append_15ec4 16 (fun _ => 0) 0 0 (zbt 133)) (fun bc_10 bf_11 bn_12 => (zb1 (p_X9_at V p0 p1) (fun r15 => (zb3 (p_J4_append_f7089 F bc_10 bf_11 bn_12 r15) (fun bc_17 bf_18 bn_19 => (zb2 (p_J7_copyOfRange_39247 bc_17 bf_18 (0 : Int32) bn_19) (fun r24 r25 => (some th_6))))))))) else (some th_6))))))))
theorem hdV_X9_value : yX9_value.cls = RX9 ∧ yX9_value.cls ≠ "java/lang/invoke/MethodHandle" ∧ yX9_value.cls ≠ "java/lang/invoke/VarHandle" ∧ (parseMethodDescriptor yX9_value.desc).map (fun d => d.parameters.length) = some 2 := by decide +kernel
set_option maxHeartbeats 4000000 in
set_option maxRecDepth 100000 in
theorem c_X9_value (l : Launch) (D : va_G) (q v : Nat) (cJ cI cO cB : ClassId) (V : Nat → Int64) (ib : Bool) (dn : Int32) (rf : Int32) (mk : Int32) (th : Int32) (F : Nat) (p0 : Int32) (p1 : Int32) (th' : Int32) (h : p_X9_value F V p0 p1 = some th') : zGs l yX9_value wsX9_value 6 171 6 474 (zP3 D (zT cJ cI cO cB) (mW q v cJ V ib dn rf mk th)) [.ref q, .int p0, .int p1] D (zT cJ cI cO cB) (mW q v cJ V ib dn rf mk th) (mW q v cJ V ib dn rf mk th') := by
  intro sz
  delta zQs
  refine Met.ofW (cc := cX9_value) (maxL := 3) (ret := (some (.object "java/lang/String"))) (by decide) rfl ?_
  intro p e s m args below meth c s₁ B hml hv
  obtain ⟨rfl, ⟨⟨hsz, hP, hK, hD0⟩, hE⟩, hT3⟩ := hv
  have hx := B.exec
  have hb := B.bytes
  have hr := B.returns
  have hts := atoms_spec (ws := wsX9_value) B.pre
  have hown : s.vm.findClass RX9 = some m.cls := findClass_of_methodNamed B.named
  have hlocks := B.notSynchronized
  subst hsz
  have hD := hD0.self (sz := s.heap.size)
  generalize hAe : va_A (mW q v cJ V ib dn rf mk th) s.heap.size = A at hD hE hT3 ⊢
  have hA : ∀ q : Nat, s.heap.size ≤ q → A q := fun q h => by rw [← hAe]; exact Or.inr h
  have hS : va_S A s.heap s.heap [] := va_S.rf
  have hl := lv_entry ([.ref q, .int p0, .int p1]) (n := 3) (Nat.le_of_ble_eq_true rfl)
  rw [lg_entry_eq]
  generalize (lg_sl ([.ref q, .int p0, .int p1]) ++ List.replicate (3 - (lg_sl ([.ref q, .int p0, .int p1])).length) Slot.unset).toArray = ls at hl ⊢
  replace hl : lv_has ls 3 [(0, .ref q), (1, .int p0), (2, .int p1)] := hl
  obtain ⟨⟨st133, hR133, sv_st133, hst_st133⟩, ⟨st176, hR176, sv_st176, hst_st176⟩, ⟨st181, hR181, sv_st181, hst_st181⟩⟩ := hT3
  have kc_135 := hts (.classLink RX9 135 RJ4) (zmem 1 rfl)
  have kin_J4 := hts (.instantiable RJ4 4) (List.mem_cons_of_mem _ (List.mem_append_right _ (List.mem_cons_of_mem _ (List.mem_append_right _ (List.mem_cons_of_mem _ (List.mem_append_right _ (List.mem_cons_of_mem _ (List.mem_append_left _ (List.mem_append_left _ (List.mem_append_right _ (List.mem_cons_of_mem _ (List.mem_append_right _ (List.mem_cons_of_mem _ (List.mem_append_right _ (zmem 2 rfl)))))))))))))))
  have kii_J4 := hts (.initialized RJ4) (zmem 2 rfl)
  have kwJ4 : ∀ w ∈ u_ws RJ4 TJ4 4, w ∈ wsX9_value := fun w h => List.mem_cons_of_mem _ (List.mem_append_left _ (List.mem_append_left _ (List.mem_append_left _ (List.mem_append_left _ (List.mem_append_right _ (List.mem_cons_of_mem _ (List.mem_append_right _ (List.mem_cons_of_mem _ (List.mem_append_left _ (List.mem_append_right _ h))))))))))
  have km_137 := hts (.methodLink RX9 137 yJ4_init_da8c8) (zmem 11 rfl)
  have kim_J4i := hts (.instanceMethod yJ4_init_da8c8) (zmem 12 rfl)
  replace h : (zb1 (p_X9_isOne p0) (fun r1 => (zb1 (p_X9_isIn p1 (1 : Int32) (120 : Int32)) (fun r3 => (zb2 (p_X9_isThrown r1 r3) (fun r5 th_6 => (if (z01 r5) = 0 then (zb3 (p_J4_append_15ec4 16 (fun _ => 0) 0 0 (zbt 133)) (fun bc_10 bf_11 bn_12 => (zb1 (p_X9_at V p0 p1) (fun r15 => (zb3 (p_J4_append_f7089 F bc_10 bf_11 bn_12 r15) (fun bc_17 bf_18 bn_19 => (zb2 (p_J7_copyOfRange_39247 bc_17 bf_18 (0 : Int32) bn_19) (fun r24 r25 => (some th_6))))))))) else (some th_6)))))))) = some th' := h
  obtain ⟨H, hHe⟩ : ∃ H, H = s.heap := ⟨_, rfl⟩
  rw [← hHe] at hP
  replace hS : va_S A s.heap H [] := by rw [hHe]; exact hS
  refine zheap hHe ?_
  refine lv_aload_n hx hb dX9_value_0 rfl (lv_at hl 0 rfl) ?_
  refine lv_iload_n hx hb dX9_value_1 rfl (lv_at hl 1 rfl) ?_
  obtain ⟨r1, e2, h⟩ := zb1_some h
  refine zgoi (va_runS (As := [.int p0]) (rest := [.ref q]) ⟨hx, hb, hml, hown, hts⟩ (c_X9_isOne l D (zT cJ cI cO cB) p0 r1 e2 H.size) (va_cwS 1 hts gX9_value_X9_isOne rfl rfl rfl hdS_X9_isOne ⟨Nat.le_of_ble_eq_true rfl, Nat.le_of_ble_eq_true rfl⟩) (zpreS hK zP0 (zD0 (A := A)) [.int p0]) rfl rfl hl.1 rfl (lv_room (Nat.le_of_ble_eq_true rfl)) dX9_value_2 ⟨Nat.le_of_ble_eq_true rfl, Nat.le_of_ble_eq_true rfl⟩) (zf0 hS hA) (zjE hP hD) hS (fun H locs hP hD hS => ?_)
  refine lv_iload_n hx hb dX9_value_5 rfl (lv_at hl 2 rfl) ?_
  refine lv_iconst (v := (1 : Int32)) hx hb dX9_value_6 (by decide) ?_
  refine lv_bipush (v := (120 : Int32)) hx hb dX9_value_7 (by decide) ?_
  obtain ⟨r3, e4, h⟩ := zb1_some h
  refine zgoi (va_runS (As := [.int p1, .int (1 : Int32), .int (120 : Int32)]) (rest := [.int (z01 r1), .ref q]) ⟨hx, hb, hml, hown, hts⟩ (c_X9_isIn l D (zT cJ cI cO cB) p1 (1 : Int32) (120 : Int32) r3 e4 H.size) (va_cwS 3 hts gX9_value_X9_isIn rfl rfl rfl hdS_X9_isIn ⟨Nat.le_of_ble_eq_true rfl, Nat.le_of_ble_eq_true rfl⟩) (zpreS hK zP0 (zD0 (A := A)) [.int p1, .int (1 : Int32), .int (120 : Int32)]) rfl rfl hl.1 rfl (lv_room (Nat.le_of_ble_eq_true rfl)) dX9_value_9 ⟨Nat.le_of_ble_eq_true rfl, Nat.le_of_ble_eq_true rfl⟩) (zf0 hS hA) (zjE hP hD) hS (fun H locs hP hD hS => ?_)
  obtain ⟨r5, th_6, e7, h⟩ := zb2_some h
  refine zgoi (va_runV (As := [.int (z01 r1), .int (z01 r3)]) (rest := []) ⟨hx, hb, hml, hown, hts⟩ (c_X9_isThrown l D q v cJ cI cO cB V ib dn rf mk th r1 r3 r5 th_6 e7 H.size) (cwV 2 hts gX9_value_X9_isThrown rfl rfl rfl hdV_X9_isThrown ⟨Nat.le_of_ble_eq_true rfl, Nat.le_of_ble_eq_true rfl⟩) (zpreV (q0 := 0) (ci := 9) (T := TX9) (N := 6) hK hP hD rfl rfl [.int (z01 r1), .int (z01 r3)]) rfl rfl hl.1 rfl (lv_room (Nat.le_of_ble_eq_true rfl)) dX9_value_12 ⟨Nat.le_of_ble_eq_true rfl, Nat.le_of_ble_eq_true rfl⟩) (zfree hD hS hA) (zjW hD hS hA) hS (fun H locs hP hD hS => ?_)
  replace hP : va_P D vwCl (mW q v cJ V ib dn rf mk th_6) H := hP
  replace hD : va_D A (mW q v cJ V ib dn rf mk th_6) := hD
  refine lv_if_eq (tgt := 23) hx hb dX9_value_15 (by decide) (fun c15 => ?_) (fun c15 => ?_)
  · replace h := zif_t h c15
    refine va_new (ci := 1) (fs := [.null, .int 0, .int 0, .int 0]) (C := RJ4) (T := TJ4) (N := 4) hx hb hts kwJ4 tyJ4 tyJ4_ok hown kc_135 kin_J4 kii_J4 hK hP hD hS hA rfl (fun j hj => by rcases (show j = 0 ∨ j = 1 ∨ j = 2 ∨ j = 3 by omega) with rfl | rfl | rfl | rfl <;> rfl) (Nat.le_of_ble_eq_true rfl) (Nat.le_of_ble_eq_true rfl) dX9_value_23 (fun sb8 H hP hD hS => ?_)
    replace hP : va_P D vwCl ((mW q v cJ V ib dn rf mk th_6) ++ [(sb8, .inr (1, [.null, .int 0, .int 0, .int 0]))]) H := hP
    replace hD : va_D A ((mW q v cJ V ib dn rf mk th_6) ++ [(sb8, .inr (1, [.null, .int 0, .int 0, .int 0]))]) := hD
    refine lv_dup hx hb dX9_value_26 rfl ?_
    have hPc := zsub (wn := ([(sb8, .inr (1, [.null, .int 0, .int 0, .int 0]))] : va_W)) hP [2] rfl
    have hDc := hD.sub (ws' := ([(sb8, .inr (1, [.null, .int 0, .int 0, .int 0]))] : va_W)) [2] (by decide) rfl
    refine zgoc (va_runI (As := []) (rest := [.ref sb8]) ⟨hx, hb, hml, hown, hts⟩ (c_J4_init_da8c8 l D cJ cI cO cB sb8 H.size) (cwI 0 hts gX9_value_J4_init_da8c8 rfl rfl rfl kii_J4 km_137 kim_J4i rfl (by decide +kernel) ⟨Nat.le_of_ble_eq_true rfl, Nat.le_of_ble_eq_true rfl⟩) (zxpreS hE hS (va_free hD hS hA [2] rfl) hK hPc hDc [.ref sb8]) rfl rfl hl.1 rfl (lv_room (Nat.le_of_ble_eq_true rfl)) dX9_value_27 ⟨Nat.le_of_ble_eq_true rfl, Nat.le_of_ble_eq_true rfl⟩) (va_free hD hS hA [2] rfl) (fun u => zjF (wr := (mW q v cJ V ib dn rf mk th_6)) hP hD hS hA [2] [0, 1] rfl rfl (by decide) (by decide)) hS (fun u9 H locs hP hD hS => ?_)
    replace hP : va_P D vwCl (mW q v cJ V ib dn rf mk th_6 ++ (sW sb8 cB (u9 0) 16 (fun _ => 0) false 0)) H := hP
    replace hD : va_D A (mW q v cJ V ib dn rf mk th_6 ++ (sW sb8 cB (u9 0) 16 (fun _ => 0) false 0)) := hD
    refine va_ldcS hx hb hown hR133 dX9_value_30 ?_
    obtain ⟨bc_10, bf_11, bn_12, e13, h⟩ := zb3_some h
    have hPc := zsub (wn := (sW sb8 cB (u9 0) 16 (fun _ => 0) false 0)) hP [2, 3] rfl
    have hDc := hD.sub (ws' := (sW sb8 cB (u9 0) 16 (fun _ => 0) false 0)) [2, 3] (by decide) rfl
    refine zgosr (va_runV (As := [.ref st133]) (rest := []) ⟨hx, hb, hml, hown, hts⟩ (c_J4_append_15ec4 l D sb8 cJ cI cO cB (u9 0) 16 (fun _ => 0) false 0 st133 0 (zbt 133) bc_10 bf_11 bn_12 e13 H.size) (cwV 1 hts gX9_value_J4_append_15ec4 rfl rfl rfl hdV_J4_append_15ec4 ⟨Nat.le_of_ble_eq_true rfl, Nat.le_of_ble_eq_true rfl⟩) (zspreV hE (zSt.here hst_st133 hS (va_free hD hS hA [2, 3] rfl)) hS (va_free hD hS hA [2, 3] rfl) (q0 := 0) (ci := 1) (T := TJ4) (N := 4) hK hPc hDc rfl rfl [.ref st133]) rfl rfl hl.1 rfl (lv_room (Nat.le_of_ble_eq_true rfl)) dX9_value_32 ⟨Nat.le_of_ble_eq_true rfl, Nat.le_of_ble_eq_true rfl⟩) (va_free hD hS hA [2, 3] rfl) (fun bv14 => (zjs (wn := (mW q v cJ V ib dn rf mk th_6 ++ (sW sb8 cB bv14 bc_10 bf_11 false bn_12))) [0, 1, 2, 3] (zjF (wr := (mW q v cJ V ib dn rf mk th_6)) hP hD hS hA [2, 3] [0, 1] rfl rfl (by decide) (by decide)) rfl (by decide))) hS (fun bv14 H locs hP hD hS => ?_)
    replace hP : va_P D vwCl (mW q v cJ V ib dn rf mk th_6 ++ (sW sb8 cB bv14 bc_10 bf_11 false bn_12)) H := hP
    replace hD : va_D A (mW q v cJ V ib dn rf mk th_6 ++ (sW sb8 cB bv14 bc_10 bf_11 false bn_12)) := hD
    refine lv_aload_n hx hb dX9_value_35 rfl (lv_at hl 0 rfl) ?_
    refine lv_iload_n hx hb dX9_value_36 rfl (lv_at hl 1 rfl) ?_
    refine lv_iload_n hx hb dX9_value_37 rfl (lv_at hl 2 rfl) ?_
    obtain ⟨r15, e16, h⟩ := zb1_some h
    have hPc := zsub (wn := (mW q v cJ V ib dn rf mk th_6)) hP [0, 1] rfl
    have hDc := hD.sub (ws' := (mW q v cJ V ib dn rf mk th_6)) [0, 1] (by decide) rfl
    refine zgol (va_runV (As := [.int p0, .int p1]) (rest := [.ref sb8]) ⟨hx, hb, hml, hown, hts⟩ (c_X9_at l D q v cJ cI cO cB V ib dn rf mk th_6 p0 p1 r15 e16 H.size) (cwV 2 hts gX9_value_X9_at rfl rfl rfl hdV_X9_at ⟨Nat.le_of_ble_eq_true rfl, Nat.le_of_ble_eq_true rfl⟩) (zpreV (q0 := 0) (ci := 9) (T := TX9) (N := 6) hK hPc hDc rfl rfl [.int p0, .int p1]) rfl rfl hl.1 rfl (lv_room (Nat.le_of_ble_eq_true rfl)) dX9_value_38 ⟨Nat.le_of_ble_eq_true rfl, Nat.le_of_ble_eq_true rfl⟩) (va_free hD hS hA [0, 1] rfl) (zjs (wn := (mW q v cJ V ib dn rf mk th_6 ++ (sW sb8 cB bv14 bc_10 bf_11 false bn_12))) [2, 3, 0, 1] (zjF (wr := (sW sb8 cB bv14 bc_10 bf_11 false bn_12)) hP hD hS hA [0, 1] [2, 3] rfl rfl (by decide) (by decide)) rfl (by decide)) hS (fun H locs hP hD hS => ?_)
    replace hP : va_P D vwCl (mW q v cJ V ib dn rf mk th_6 ++ (sW sb8 cB bv14 bc_10 bf_11 false bn_12)) H := hP
    replace hD : va_D A (mW q v cJ V ib dn rf mk th_6 ++ (sW sb8 cB bv14 bc_10 bf_11 false bn_12)) := hD
    obtain ⟨bc_17, bf_18, bn_19, e20, h⟩ := zb3_some h
    have hPc := zsub (wn := (sW sb8 cB bv14 bc_10 bf_11 false bn_12)) hP [2, 3] rfl
    have hDc := hD.sub (ws' := (sW sb8 cB bv14 bc_10 bf_11 false bn_12)) [2, 3] (by decide) rfl
    refine zgosr (va_runV (As := [.long r15]) (rest := []) ⟨hx, hb, hml, hown, hts⟩ (c_J4_append_f7089 l D sb8 cJ cI cO cB bv14 bc_10 bf_11 false bn_12 F r15 bc_17 bf_18 bn_19 e20 H.size) (cwV 1 hts gX9_value_J4_append_f7089 rfl rfl rfl hdV_J4_append_f7089 ⟨Nat.le_of_ble_eq_true rfl, Nat.le_of_ble_eq_true rfl⟩) (zxpreV hE hS (va_free hD hS hA [2, 3] rfl) (q0 := 0) (ci := 1) (T := TJ4) (N := 4) hK hPc hDc rfl rfl [.long r15]) rfl rfl hl.1 rfl (lv_room (Nat.le_of_ble_eq_true rfl)) dX9_value_41 ⟨Nat.le_of_ble_eq_true rfl, Nat.le_of_ble_eq_true rfl⟩) (va_free hD hS hA [2, 3] rfl) (fun bv21 => (zjs (wn := (mW q v cJ V ib dn rf mk th_6 ++ (sW sb8 cB bv21 bc_17 bf_18 false bn_19))) [0, 1, 2, 3] (zjF (wr := (mW q v cJ V ib dn rf mk th_6)) hP hD hS hA [2, 3] [0, 1] rfl rfl (by decide) (by decide)) rfl (by decide))) hS (fun bv21 H locs hP hD hS => ?_)
    replace hP : va_P D vwCl (mW q v cJ V ib dn rf mk th_6 ++ (sW sb8 cB bv21 bc_17 bf_18 false bn_19)) H := hP
    replace hD : va_D A (mW q v cJ V ib dn rf mk th_6 ++ (sW sb8 cB bv21 bc_17 bf_18 false bn_19)) := hD
    obtain ⟨r24, r25, e26, h⟩ := zb2_some h
    have hPc := zsub (wn := ([(sb8, .inr (1, [.ref bv21, .int 0, .int (z01 false), .int bn_19])), (bv21, .inl (cB, bc_17, .inl bf_18))] : va_W)) hP [2, 3] rfl
    have hDc := hD.sub (ws' := ([(sb8, .inr (1, [.ref bv21, .int 0, .int (z01 false), .int bn_19])), (bv21, .inl (cB, bc_17, .inl bf_18))] : va_W)) [2, 3] (by decide) rfl
    refine zgoss (va_runV (As := []) (rest := []) ⟨hx, hb, hml, hown, hts⟩ (c_J4_toString_0e30d l D cJ cI cO cB sb8 bv21 bc_17 bf_18 false bn_19 r24 r25 e26 H.size) (cwV 0 hts gX9_value_J4_toString_0e30d rfl rfl rfl hdV_J4_toString_0e30d ⟨Nat.le_of_ble_eq_true rfl, Nat.le_of_ble_eq_true rfl⟩) (zxpreV hE hS (va_free hD hS hA [2, 3] rfl) (q0 := 0) (ci := 1) (T := TJ4) (N := 4) hK hPc hDc rfl rfl []) rfl rfl hl.1 rfl (lv_room (Nat.le_of_ble_eq_true rfl)) dX9_value_44 ⟨Nat.le_of_ble_eq_true rfl, Nat.le_of_ble_eq_true rfl⟩) (va_free hD hS hA [2, 3] rfl) (fun s22 u23 => zjs (wn := (mW q v cJ V ib dn rf mk th_6 ++ ([(s22, .inr (0, [.ref u23, .int 0, .int 0, .int 0])), (u23, .inl (cB, r24, .inl r25))]))) [0, 1, 2, 3] (zjF (wr := (mW q v cJ V ib dn rf mk th_6)) hP hD hS hA [2, 3] [0, 1] rfl rfl (by decide) (by decide)) rfl (by decide)) hS (fun s22 u23 H locs hP hD hS => ?_)
    replace hP : va_P D vwCl (mW q v cJ V ib dn rf mk th_6 ++ ([(s22, .inr (0, [.ref u23, .int 0, .int 0, .int 0])), (u23, .inl (cB, r24, .inl r25))])) H := hP
    replace hD : va_D A (mW q v cJ V ib dn rf mk th_6 ++ ([(s22, .inr (0, [.ref u23, .int 0, .int 0, .int 0])), (u23, .inl (cB, r24, .inl r25))])) := hD
    have h1 := Option.some.inj h
    subst h1
    replace hP := zsub (wn := (mW q v cJ V ib dn rf mk th_6)) hP [0, 1] rfl
    replace hD := hD.sub (ws' := (mW q v cJ V ib dn rf mk th_6)) [0, 1] (by decide) rfl
    exact W.aret (v := .ref s22) hx hb hr (Or.inl ⟨_, rfl⟩) (Or.inr ⟨_, rfl⟩) (fun t ht hW => ⟨⟨(), s22, rfl, trivial, by rw [ht]; exact hP, va_K.moved hW.alike hK, hD⟩, hS.F ht⟩) hS.2.2 dX9_value_47
  · replace h := zif_f h c15
    refine va_ldcS hx hb hown hR133 dX9_value_18 ?_
    refine lv_goto (tgt := 47) hx hb dX9_value_20 (by decide) ?_
    have h1 := Option.some.inj h
    subst h1
    refine W.widen (k := 6) (n := 474) (by decide) (by decide) ?_
    exact W.aret (v := .ref st133) hx hb hr (Or.inl ⟨_, rfl⟩) (Or.inr ⟨_, rfl⟩) (fun t ht hW => ⟨⟨(), st133, rfl, trivial, by rw [ht]; exact hP, va_K.moved hW.alike hK, hD⟩, hS.F ht⟩) hS.2.2 dX9_value_47

noncomputable def p_X9_total (F : Nat) (V : Nat → Int64) (ib : Bool) (p0 : Int32) (p1 : Int32) : Option (Bool × Int32) := (zb1 (p_X9_isOne p0) (fun r1 => (zb1 (p_X9_isIn p1 (0 : Int32) (120 : Int32)) (fun r3 => (zb2 (p_X9_isThrown r1 r3) (fun r5 th_6 => (if (z01 r5) = 0 then (zb1 (p_X9_of F V p0) (fun r8 => (zb2 (p_X9_totalOf F false r8 p1) (fun r11 ib_12 => (zlt (fun (s0j0 : Int32) => (if (z01 ib_12) = 0 then (zb3 (p_J4_append_15ec4 16 (fun _ => 0) 0 0 (zbt 133)) (fun bc_16 bf_17 bn_18 => (zb3 (p_J4_append_f7089 F bc_16 bf_17 bn_18 r11) (fun bc_21 bf_22 bn_23 => (zb2 (p_J7_copyOfRange_39247 bc_21 bf_22 (0 : Int32) bn_23) (fun r28 r29 => (some (ib_12, s0j0)))))))) else (some (ib_12, s0j0)))) (fun jf0 => (if (z01 ib_12) = 0 then (jf0 (0 : Int32)) else (jf0 (3 : Int32))))))))) else (some (ib, th_6)))))))))
theorem hdV_X9_total : yX9_total.cls = RX9 ∧ yX9_total.cls ≠ "java/lang/invoke/MethodHandle" ∧ yX9_total.cls ≠ "java/lang/invoke/VarHandle" ∧ (parseMethodDescriptor yX9_total.desc).map (fun d => d.parameters.length) = some 2 := by decide +kernel
set_option maxHeartbeats 4000000 in
set_option maxRecDepth 100000 in
theorem c_X9_total (l : Launch) (D : va_G) (q v : Nat) (cJ cI cO cB : ClassId) (V : Nat → Int64) (ib : Bool) (dn : Int32) (rf : Int32) (mk : Int32) (th : Int32) (F : Nat) (p0 : Int32) (p1 : Int32) (ib' : Bool) (th' : Int32) (h : p_X9_total F V ib p0 p1 = some (ib', th')) : zGs l yX9_total wsX9_total 6 171 7 595 (zP3 D (zT cJ cI cO cB) (mW q v cJ V ib dn rf mk th)) [.ref q, .int p0, .int p1] D (zT cJ cI cO cB) (mW q v cJ V ib dn rf mk th) (mW q v cJ V ib' dn rf mk th') := by
  intro sz
  delta zQs
  refine Met.ofW (cc := cX9_total) (maxL := 5) (ret := (some (.object "java/lang/String"))) (by decide) rfl ?_
  intro p e s m args below meth c s₁ B hml hv
  obtain ⟨rfl, ⟨⟨hsz, hP, hK, hD0⟩, hE⟩, hT3⟩ := hv
  have hx := B.exec
  have hb := B.bytes
  have hr := B.returns
  have hts := atoms_spec (ws := wsX9_total) B.pre
  have hown : s.vm.findClass RX9 = some m.cls := findClass_of_methodNamed B.named
  have hlocks := B.notSynchronized
  subst hsz
  have hD := hD0.self (sz := s.heap.size)
  generalize hAe : va_A (mW q v cJ V ib dn rf mk th) s.heap.size = A at hD hE hT3 ⊢
  have hA : ∀ q : Nat, s.heap.size ≤ q → A q := fun q h => by rw [← hAe]; exact Or.inr h
  have hS : va_S A s.heap s.heap [] := va_S.rf
  have hl := lv_entry ([.ref q, .int p0, .int p1]) (n := 5) (Nat.le_of_ble_eq_true rfl)
  rw [lg_entry_eq]
  generalize (lg_sl ([.ref q, .int p0, .int p1]) ++ List.replicate (5 - (lg_sl ([.ref q, .int p0, .int p1])).length) Slot.unset).toArray = ls at hl ⊢
  replace hl : lv_has ls 5 [(0, .ref q), (1, .int p0), (2, .int p1)] := hl
  obtain ⟨⟨st133, hR133, sv_st133, hst_st133⟩, ⟨st176, hR176, sv_st176, hst_st176⟩, ⟨st181, hR181, sv_st181, hst_st181⟩⟩ := hT3
  have kc_135 := hts (.classLink RX9 135 RJ4) (zmem 1 rfl)
  have kin_J4 := hts (.instantiable RJ4 4) (List.mem_cons_of_mem _ (List.mem_append_right _ (List.mem_cons_of_mem _ (List.mem_append_right _ (List.mem_cons_of_mem _ (List.mem_append_right _ (List.mem_cons_of_mem _ (List.mem_append_left _ (List.mem_append_left _ (List.mem_append_right _ (List.mem_cons_of_mem _ (List.mem_append_right _ (List.mem_cons_of_mem _ (List.mem_append_right _ (zmem 2 rfl)))))))))))))))
  have kii_J4 := hts (.initialized RJ4) (zmem 2 rfl)
  have kwJ4 : ∀ w ∈ u_ws RJ4 TJ4 4, w ∈ wsX9_total := fun w h => List.mem_cons_of_mem _ (List.mem_append_left _ (List.mem_append_left _ (List.mem_append_left _ (List.mem_append_right _ (List.mem_cons_of_mem _ (List.mem_append_right _ (List.mem_cons_of_mem _ (List.mem_append_left _ (List.mem_append_right _ h)))))))))
  have km_137 := hts (.methodLink RX9 137 yJ4_init_da8c8) (zmem 17 rfl)
  have kim_J4i := hts (.instanceMethod yJ4_init_da8c8) (zmem 18 rfl)
  have kwX9 : ∀ w ∈ u_ws RX9 TX9 6, w ∈ wsX9_total := fun w h => List.mem_cons_of_mem _ (List.mem_append_left _ (List.mem_append_left _ (List.mem_append_left _ (List.mem_append_left _ (List.mem_append_left _ (List.mem_append_left _ (List.mem_append_right _ (List.mem_cons_of_mem _ (List.mem_append_right _ h)))))))))
  have kf_36 := hts (.fieldLink RX9 36 "DivisorworkModel" "isBeyond" "Z") (List.mem_cons_of_mem _ (List.mem_append_left _ (List.mem_append_left _ (List.mem_append_left _ (List.mem_append_left _ (List.mem_append_right _ (List.mem_cons_of_mem _ (List.mem_append_right _ (zmem 1 rfl)))))))))
  have kf_13 := hts (.fieldLink RX9 13 "DivisorworkModel" "thrown" "I") (List.mem_cons_of_mem _ (List.mem_append_left _ (List.mem_append_left _ (List.mem_append_left _ (List.mem_append_left _ (List.mem_append_left _ (List.mem_append_left _ (List.mem_append_right _ (zmem 1 rfl)))))))))
  replace h : (zb1 (p_X9_isOne p0) (fun r1 => (zb1 (p_X9_isIn p1 (0 : Int32) (120 : Int32)) (fun r3 => (zb2 (p_X9_isThrown r1 r3) (fun r5 th_6 => (if (z01 r5) = 0 then (zb1 (p_X9_of F V p0) (fun r8 => (zb2 (p_X9_totalOf F false r8 p1) (fun r11 ib_12 => (zlt (fun (s0j0 : Int32) => (if (z01 ib_12) = 0 then (zb3 (p_J4_append_15ec4 16 (fun _ => 0) 0 0 (zbt 133)) (fun bc_16 bf_17 bn_18 => (zb3 (p_J4_append_f7089 F bc_16 bf_17 bn_18 r11) (fun bc_21 bf_22 bn_23 => (zb2 (p_J7_copyOfRange_39247 bc_21 bf_22 (0 : Int32) bn_23) (fun r28 r29 => (some (ib_12, s0j0)))))))) else (some (ib_12, s0j0)))) (fun jf0 => (if (z01 ib_12) = 0 then (jf0 (0 : Int32)) else (jf0 (3 : Int32))))))))) else (some (ib, th_6))))))))) = some (ib', th') := h
  refine zabs (fun G hG hGW => ?_)
  obtain ⟨H, hHe⟩ : ∃ H, H = s.heap := ⟨_, rfl⟩
  rw [← hHe] at hP
  replace hS : va_S A s.heap H [] := by rw [hHe]; exact hS
  refine zheap hHe ?_
  refine lv_aload_n hx hb dX9_total_0 rfl (lv_at hl 0 rfl) ?_
  refine lv_iload_n hx hb dX9_total_1 rfl (lv_at hl 1 rfl) ?_
  obtain ⟨r1, e2, h⟩ := zb1_some h
  refine zgoi (va_runS (As := [.int p0]) (rest := [.ref q]) ⟨hx, hb, hml, hown, hts⟩ (c_X9_isOne l D (zT cJ cI cO cB) p0 r1 e2 H.size) (va_cwS 1 hts gX9_total_X9_isOne rfl rfl rfl hdS_X9_isOne ⟨Nat.le_of_ble_eq_true rfl, Nat.le_of_ble_eq_true rfl⟩) (zpreS hK zP0 (zD0 (A := A)) [.int p0]) rfl rfl hl.1 rfl (lv_room (Nat.le_of_ble_eq_true rfl)) dX9_total_2 ⟨Nat.le_of_ble_eq_true rfl, Nat.le_of_ble_eq_true rfl⟩) (zf0 hS hA) (zjE hP hD) hS (fun H locs hP hD hS => ?_)
  refine lv_iload_n hx hb dX9_total_5 rfl (lv_at hl 2 rfl) ?_
  refine lv_iconst (v := (0 : Int32)) hx hb dX9_total_6 (by decide) ?_
  refine lv_bipush (v := (120 : Int32)) hx hb dX9_total_7 (by decide) ?_
  obtain ⟨r3, e4, h⟩ := zb1_some h
  refine zgoi (va_runS (As := [.int p1, .int (0 : Int32), .int (120 : Int32)]) (rest := [.int (z01 r1), .ref q]) ⟨hx, hb, hml, hown, hts⟩ (c_X9_isIn l D (zT cJ cI cO cB) p1 (0 : Int32) (120 : Int32) r3 e4 H.size) (va_cwS 3 hts gX9_total_X9_isIn rfl rfl rfl hdS_X9_isIn ⟨Nat.le_of_ble_eq_true rfl, Nat.le_of_ble_eq_true rfl⟩) (zpreS hK zP0 (zD0 (A := A)) [.int p1, .int (0 : Int32), .int (120 : Int32)]) rfl rfl hl.1 rfl (lv_room (Nat.le_of_ble_eq_true rfl)) dX9_total_9 ⟨Nat.le_of_ble_eq_true rfl, Nat.le_of_ble_eq_true rfl⟩) (zf0 hS hA) (zjE hP hD) hS (fun H locs hP hD hS => ?_)
  obtain ⟨r5, th_6, e7, h⟩ := zb2_some h
  refine zgoi (va_runV (As := [.int (z01 r1), .int (z01 r3)]) (rest := []) ⟨hx, hb, hml, hown, hts⟩ (c_X9_isThrown l D q v cJ cI cO cB V ib dn rf mk th r1 r3 r5 th_6 e7 H.size) (cwV 2 hts gX9_total_X9_isThrown rfl rfl rfl hdV_X9_isThrown ⟨Nat.le_of_ble_eq_true rfl, Nat.le_of_ble_eq_true rfl⟩) (zpreV (q0 := 0) (ci := 9) (T := TX9) (N := 6) hK hP hD rfl rfl [.int (z01 r1), .int (z01 r3)]) rfl rfl hl.1 rfl (lv_room (Nat.le_of_ble_eq_true rfl)) dX9_total_12 ⟨Nat.le_of_ble_eq_true rfl, Nat.le_of_ble_eq_true rfl⟩) (zfree hD hS hA) (zjW hD hS hA) hS (fun H locs hP hD hS => ?_)
  replace hP : va_P D vwCl (mW q v cJ V ib dn rf mk th_6) H := hP
  replace hD : va_D A (mW q v cJ V ib dn rf mk th_6) := hD
  refine lv_if_eq (tgt := 21) hx hb dX9_total_15 (by decide) (fun c15 => ?_) (fun c15 => ?_)
  · replace h := zif_t h c15
    refine lv_aload_n hx hb dX9_total_21 rfl (lv_at hl 0 rfl) ?_
    refine lv_iconst (v := (0 : Int32)) hx hb dX9_total_22 (by decide) ?_
    refine va_put (D := D) (ci := 9) (v := .int (z01 false)) (ty := .boolean) (C := RX9) (T := TX9) (N := 6) hx hb hts kwX9 tyX9 tyX9_ok nmX9 hown hK hP hD hS 0 rfl rfl 1 (by decide) kf_36 (fun _ h9 => h9) rfl rfl (z01_nar false) (z01_fit false) (Nat.le_of_ble_eq_true rfl) dX9_total_23 (fun H locs hP hD hS => ?_)
    replace hP : va_P D vwCl (mW q v cJ V false dn rf mk th_6) H := hP
    replace hD : va_D A (mW q v cJ V false dn rf mk th_6) := hD
    refine lv_aload_n hx hb dX9_total_26 rfl (lv_at hl 0 rfl) ?_
    refine lv_aload_n hx hb dX9_total_27 rfl (lv_at hl 0 rfl) ?_
    refine lv_iload_n hx hb dX9_total_28 rfl (lv_at hl 1 rfl) ?_
    obtain ⟨r8, e9, h⟩ := zb1_some h
    refine zgon (va_runV (As := [.int p0]) (rest := [.ref q]) ⟨hx, hb, hml, hown, hts⟩ (c_X9_of l D q v cJ cI cO cB V false dn rf mk th_6 F p0 r8 e9 H.size) (cwV 1 hts gX9_total_X9_of rfl rfl rfl hdV_X9_of ⟨Nat.le_of_ble_eq_true rfl, Nat.le_of_ble_eq_true rfl⟩) (zpreV (q0 := 0) (ci := 9) (T := TX9) (N := 6) hK hP hD rfl rfl [.int p0]) rfl rfl hl.1 rfl (lv_room (Nat.le_of_ble_eq_true rfl)) dX9_total_29 ⟨Nat.le_of_ble_eq_true rfl, Nat.le_of_ble_eq_true rfl⟩) (zfree hD hS hA) (fun _ => zjW hD hS hA) hS (fun w10 H locs hP hD hS => ?_)
    replace hP : va_P D vwCl (mW q v cJ V false dn rf mk th_6 ++ ([(w10, .inl (cJ, 121, .inr (.inl r8)))])) H := hP
    replace hD : va_D A (mW q v cJ V false dn rf mk th_6 ++ ([(w10, .inl (cJ, 121, .inr (.inl r8)))])) := hD
    refine lv_iload_n hx hb dX9_total_32 rfl (lv_at hl 2 rfl) ?_
    obtain ⟨r11, ib_12, e13, h⟩ := zb2_some h
    refine zgol (va_runV (As := [.ref w10, .int p1]) (rest := []) ⟨hx, hb, hml, hown, hts⟩ (c_X9_totalOf l D q v cJ cI cO cB V false dn rf mk th_6 F w10 r8 p1 r11 ib_12 e13 H.size) (cwV 2 hts gX9_total_X9_totalOf rfl rfl rfl hdV_X9_totalOf ⟨Nat.le_of_ble_eq_true rfl, Nat.le_of_ble_eq_true rfl⟩) (zpreV (q0 := 0) (ci := 9) (T := TX9) (N := 6) hK hP hD rfl rfl [.ref w10, .int p1]) rfl rfl hl.1 rfl (lv_room (Nat.le_of_ble_eq_true rfl)) dX9_total_33 ⟨Nat.le_of_ble_eq_true rfl, Nat.le_of_ble_eq_true rfl⟩) (zfree hD hS hA) (zjW hD hS hA) hS (fun H locs hP hD hS => ?_)
    replace hP : va_P D vwCl (mW q v cJ V ib_12 dn rf mk th_6 ++ ([(w10, .inl (cJ, 121, .inr (.inl r8)))])) H := hP
    replace hD : va_D A (mW q v cJ V ib_12 dn rf mk th_6 ++ ([(w10, .inl (cJ, 121, .inr (.inl r8)))])) := hD
    refine lv_lstore_n (lv' := [(3, .long r11), (0, .ref q), (1, .int p0), (2, .int p1)]) hx hb dX9_total_36 rfl hl (by decide) rfl (fun ls hl => ?_)
    refine lv_aload_n hx hb dX9_total_37 rfl (lv_at hl 1 rfl) ?_
    refine lv_aload_n hx hb dX9_total_38 rfl (lv_at hl 1 rfl) ?_
    refine va_get (D := D) (ci := 9) (v := .int (z01 ib_12)) (C := RX9) (T := TX9) (N := 6) hx hb hts kwX9 hown hK hP 0 rfl rfl 1 (by decide) kf_36 (fun _ h9 => h9) rfl dX9_total_39 ?_
    have J0 : ∀ (s0j0 : Int32) (H : Heap) (locs : List Loc) (ls : Array Slot), va_P D vwCl (mW q v cJ V ib_12 dn rf mk th_6 ++ ([(w10, .inl (cJ, 121, .inr (.inl r8)))])) H → va_D A (mW q v cJ V ib_12 dn rf mk th_6 ++ ([(w10, .inl (cJ, 121, .inr (.inl r8)))])) → va_S A s.heap H locs → lv_has ls 5 [(0, .ref q), (1, .int p0), (2, .int p1), (3, .long r11)] → (if (z01 ib_12) = 0 then (zb3 (p_J4_append_15ec4 16 (fun _ => 0) 0 0 (zbt 133)) (fun bc_16 bf_17 bn_18 => (zb3 (p_J4_append_f7089 F bc_16 bf_17 bn_18 r11) (fun bc_21 bf_22 bn_23 => (zb2 (p_J7_copyOfRange_39247 bc_21 bf_22 (0 : Int32) bn_23) (fun r28 r29 => (some (ib_12, s0j0)))))))) else (some (ib_12, s0j0))) = some (ib', th') → G H locs 1 121 (F0 m 50 ls [.int s0j0, .ref q]) := by
      intro s0j0 H locs ls hP hD hS hl h
      refine hG _ _ _ _ _ ?_
      refine va_put (D := D) (ci := 9) (v := .int s0j0) (ty := .int) (C := RX9) (T := TX9) (N := 6) hx hb hts kwX9 tyX9 tyX9_ok nmX9 hown hK hP hD hS 0 rfl rfl 5 (by decide) kf_13 (fun _ h9 => h9) rfl rfl rfl rfl (Nat.le_of_ble_eq_true rfl) dX9_total_50 (fun H locs hP hD hS => ?_)
      replace hP : va_P D vwCl (mW q v cJ V ib_12 dn rf mk s0j0 ++ ([(w10, .inl (cJ, 121, .inr (.inl r8)))])) H := hP
      replace hD : va_D A (mW q v cJ V ib_12 dn rf mk s0j0 ++ ([(w10, .inl (cJ, 121, .inr (.inl r8)))])) := hD
      refine lv_aload_n hx hb dX9_total_53 rfl (lv_at hl 0 rfl) ?_
      refine va_get (D := D) (ci := 9) (v := .int (z01 ib_12)) (C := RX9) (T := TX9) (N := 6) hx hb hts kwX9 hown hK hP 0 rfl rfl 1 (by decide) kf_36 (fun _ h9 => h9) rfl dX9_total_54 ?_
      refine lv_if_eq (tgt := 65) hx hb dX9_total_57 (by decide) (fun c57 => ?_) (fun c57 => ?_)
      · replace h := zif_t h c57
        refine va_new (ci := 1) (fs := [.null, .int 0, .int 0, .int 0]) (C := RJ4) (T := TJ4) (N := 4) hx hb hts kwJ4 tyJ4 tyJ4_ok hown kc_135 kin_J4 kii_J4 hK hP hD hS hA rfl (fun j hj => by rcases (show j = 0 ∨ j = 1 ∨ j = 2 ∨ j = 3 by omega) with rfl | rfl | rfl | rfl <;> rfl) (Nat.le_of_ble_eq_true rfl) (Nat.le_of_ble_eq_true rfl) dX9_total_65 (fun sb14 H hP hD hS => ?_)
        replace hP : va_P D vwCl ((mW q v cJ V ib_12 dn rf mk s0j0 ++ ([(w10, .inl (cJ, 121, .inr (.inl r8)))])) ++ [(sb14, .inr (1, [.null, .int 0, .int 0, .int 0]))]) H := hP
        replace hD : va_D A ((mW q v cJ V ib_12 dn rf mk s0j0 ++ ([(w10, .inl (cJ, 121, .inr (.inl r8)))])) ++ [(sb14, .inr (1, [.null, .int 0, .int 0, .int 0]))]) := hD
        refine lv_dup hx hb dX9_total_68 rfl ?_
        have hPc := zsub (wn := ([(sb14, .inr (1, [.null, .int 0, .int 0, .int 0]))] : va_W)) hP [3] rfl
        have hDc := hD.sub (ws' := ([(sb14, .inr (1, [.null, .int 0, .int 0, .int 0]))] : va_W)) [3] (by decide) rfl
        refine zgoc (va_runI (As := []) (rest := [.ref sb14]) ⟨hx, hb, hml, hown, hts⟩ (c_J4_init_da8c8 l D cJ cI cO cB sb14 H.size) (cwI 0 hts gX9_total_J4_init_da8c8 rfl rfl rfl kii_J4 km_137 kim_J4i rfl (by decide +kernel) ⟨Nat.le_of_ble_eq_true rfl, Nat.le_of_ble_eq_true rfl⟩) (zxpreS hE hS (va_free hD hS hA [3] rfl) hK hPc hDc [.ref sb14]) rfl rfl hl.1 rfl (lv_room (Nat.le_of_ble_eq_true rfl)) dX9_total_69 ⟨Nat.le_of_ble_eq_true rfl, Nat.le_of_ble_eq_true rfl⟩) (va_free hD hS hA [3] rfl) (fun u => zjF (wr := (mW q v cJ V ib_12 dn rf mk s0j0 ++ ([(w10, .inl (cJ, 121, .inr (.inl r8)))]))) hP hD hS hA [3] [0, 1, 2] rfl rfl (by decide) (by decide)) hS (fun u15 H locs hP hD hS => ?_)
        replace hP : va_P D vwCl (mW q v cJ V ib_12 dn rf mk s0j0 ++ ([(w10, .inl (cJ, 121, .inr (.inl r8)))] ++ (sW sb14 cB (u15 0) 16 (fun _ => 0) false 0))) H := hP
        replace hD : va_D A (mW q v cJ V ib_12 dn rf mk s0j0 ++ ([(w10, .inl (cJ, 121, .inr (.inl r8)))] ++ (sW sb14 cB (u15 0) 16 (fun _ => 0) false 0))) := hD
        refine va_ldcS hx hb hown hR133 dX9_total_72 ?_
        obtain ⟨bc_16, bf_17, bn_18, e19, h⟩ := zb3_some h
        have hPc := zsub (wn := (sW sb14 cB (u15 0) 16 (fun _ => 0) false 0)) hP [3, 4] rfl
        have hDc := hD.sub (ws' := (sW sb14 cB (u15 0) 16 (fun _ => 0) false 0)) [3, 4] (by decide) rfl
        refine zgosr (va_runV (As := [.ref st133]) (rest := []) ⟨hx, hb, hml, hown, hts⟩ (c_J4_append_15ec4 l D sb14 cJ cI cO cB (u15 0) 16 (fun _ => 0) false 0 st133 0 (zbt 133) bc_16 bf_17 bn_18 e19 H.size) (cwV 1 hts gX9_total_J4_append_15ec4 rfl rfl rfl hdV_J4_append_15ec4 ⟨Nat.le_of_ble_eq_true rfl, Nat.le_of_ble_eq_true rfl⟩) (zspreV hE (zSt.here hst_st133 hS (va_free hD hS hA [3, 4] rfl)) hS (va_free hD hS hA [3, 4] rfl) (q0 := 0) (ci := 1) (T := TJ4) (N := 4) hK hPc hDc rfl rfl [.ref st133]) rfl rfl hl.1 rfl (lv_room (Nat.le_of_ble_eq_true rfl)) dX9_total_74 ⟨Nat.le_of_ble_eq_true rfl, Nat.le_of_ble_eq_true rfl⟩) (va_free hD hS hA [3, 4] rfl) (fun bv20 => (zjs (wn := (mW q v cJ V ib_12 dn rf mk s0j0 ++ ([(w10, .inl (cJ, 121, .inr (.inl r8)))] ++ (sW sb14 cB bv20 bc_16 bf_17 false bn_18)))) [0, 1, 2, 3, 4] (zjF (wr := (mW q v cJ V ib_12 dn rf mk s0j0 ++ ([(w10, .inl (cJ, 121, .inr (.inl r8)))]))) hP hD hS hA [3, 4] [0, 1, 2] rfl rfl (by decide) (by decide)) rfl (by decide))) hS (fun bv20 H locs hP hD hS => ?_)
        replace hP : va_P D vwCl (mW q v cJ V ib_12 dn rf mk s0j0 ++ ([(w10, .inl (cJ, 121, .inr (.inl r8)))] ++ (sW sb14 cB bv20 bc_16 bf_17 false bn_18))) H := hP
        replace hD : va_D A (mW q v cJ V ib_12 dn rf mk s0j0 ++ ([(w10, .inl (cJ, 121, .inr (.inl r8)))] ++ (sW sb14 cB bv20 bc_16 bf_17 false bn_18))) := hD
        refine lv_lload_n hx hb dX9_total_77 rfl (lv_at hl 3 rfl) ?_
        obtain ⟨bc_21, bf_22, bn_23, e24, h⟩ := zb3_some h
        have hPc := zsub (wn := (sW sb14 cB bv20 bc_16 bf_17 false bn_18)) hP [3, 4] rfl
        have hDc := hD.sub (ws' := (sW sb14 cB bv20 bc_16 bf_17 false bn_18)) [3, 4] (by decide) rfl
        refine zgosr (va_runV (As := [.long r11]) (rest := []) ⟨hx, hb, hml, hown, hts⟩ (c_J4_append_f7089 l D sb14 cJ cI cO cB bv20 bc_16 bf_17 false bn_18 F r11 bc_21 bf_22 bn_23 e24 H.size) (cwV 1 hts gX9_total_J4_append_f7089 rfl rfl rfl hdV_J4_append_f7089 ⟨Nat.le_of_ble_eq_true rfl, Nat.le_of_ble_eq_true rfl⟩) (zxpreV hE hS (va_free hD hS hA [3, 4] rfl) (q0 := 0) (ci := 1) (T := TJ4) (N := 4) hK hPc hDc rfl rfl [.long r11]) rfl rfl hl.1 rfl (lv_room (Nat.le_of_ble_eq_true rfl)) dX9_total_78 ⟨Nat.le_of_ble_eq_true rfl, Nat.le_of_ble_eq_true rfl⟩) (va_free hD hS hA [3, 4] rfl) (fun bv25 => (zjs (wn := (mW q v cJ V ib_12 dn rf mk s0j0 ++ ([(w10, .inl (cJ, 121, .inr (.inl r8)))] ++ (sW sb14 cB bv25 bc_21 bf_22 false bn_23)))) [0, 1, 2, 3, 4] (zjF (wr := (mW q v cJ V ib_12 dn rf mk s0j0 ++ ([(w10, .inl (cJ, 121, .inr (.inl r8)))]))) hP hD hS hA [3, 4] [0, 1, 2] rfl rfl (by decide) (by decide)) rfl (by decide))) hS (fun bv25 H locs hP hD hS => ?_)
        replace hP : va_P D vwCl (mW q v cJ V ib_12 dn rf mk s0j0 ++ ([(w10, .inl (cJ, 121, .inr (.inl r8)))] ++ (sW sb14 cB bv25 bc_21 bf_22 false bn_23))) H := hP
        replace hD : va_D A (mW q v cJ V ib_12 dn rf mk s0j0 ++ ([(w10, .inl (cJ, 121, .inr (.inl r8)))] ++ (sW sb14 cB bv25 bc_21 bf_22 false bn_23))) := hD
        obtain ⟨r28, r29, e30, h⟩ := zb2_some h
        have hPc := zsub (wn := ([(sb14, .inr (1, [.ref bv25, .int 0, .int (z01 false), .int bn_23])), (bv25, .inl (cB, bc_21, .inl bf_22))] : va_W)) hP [3, 4] rfl
        have hDc := hD.sub (ws' := ([(sb14, .inr (1, [.ref bv25, .int 0, .int (z01 false), .int bn_23])), (bv25, .inl (cB, bc_21, .inl bf_22))] : va_W)) [3, 4] (by decide) rfl
        refine zgoss (va_runV (As := []) (rest := []) ⟨hx, hb, hml, hown, hts⟩ (c_J4_toString_0e30d l D cJ cI cO cB sb14 bv25 bc_21 bf_22 false bn_23 r28 r29 e30 H.size) (cwV 0 hts gX9_total_J4_toString_0e30d rfl rfl rfl hdV_J4_toString_0e30d ⟨Nat.le_of_ble_eq_true rfl, Nat.le_of_ble_eq_true rfl⟩) (zxpreV hE hS (va_free hD hS hA [3, 4] rfl) (q0 := 0) (ci := 1) (T := TJ4) (N := 4) hK hPc hDc rfl rfl []) rfl rfl hl.1 rfl (lv_room (Nat.le_of_ble_eq_true rfl)) dX9_total_81 ⟨Nat.le_of_ble_eq_true rfl, Nat.le_of_ble_eq_true rfl⟩) (va_free hD hS hA [3, 4] rfl) (fun s26 u27 => zjs (wn := (mW q v cJ V ib_12 dn rf mk s0j0 ++ ([(w10, .inl (cJ, 121, .inr (.inl r8))), (s26, .inr (0, [.ref u27, .int 0, .int 0, .int 0])), (u27, .inl (cB, r28, .inl r29))]))) [0, 1, 2, 3, 4] (zjF (wr := (mW q v cJ V ib_12 dn rf mk s0j0 ++ ([(w10, .inl (cJ, 121, .inr (.inl r8)))]))) hP hD hS hA [3, 4] [0, 1, 2] rfl rfl (by decide) (by decide)) rfl (by decide)) hS (fun s26 u27 H locs hP hD hS => ?_)
        replace hP : va_P D vwCl (mW q v cJ V ib_12 dn rf mk s0j0 ++ ([(w10, .inl (cJ, 121, .inr (.inl r8))), (s26, .inr (0, [.ref u27, .int 0, .int 0, .int 0])), (u27, .inl (cB, r28, .inl r29))])) H := hP
        replace hD : va_D A (mW q v cJ V ib_12 dn rf mk s0j0 ++ ([(w10, .inl (cJ, 121, .inr (.inl r8))), (s26, .inr (0, [.ref u27, .int 0, .int 0, .int 0])), (u27, .inl (cB, r28, .inl r29))])) := hD
        have g0 := Option.some.inj h
        obtain ⟨h1, g1⟩ := Prod.mk.inj g0
        subst h1
        subst g1
        replace hP := zsub (wn := (mW q v cJ V ib_12 dn rf mk s0j0)) hP [0, 1] rfl
        replace hD := hD.sub (ws' := (mW q v cJ V ib_12 dn rf mk s0j0)) [0, 1] (by decide) rfl
        exact W.aret (v := .ref s26) hx hb hr (Or.inl ⟨_, rfl⟩) (Or.inr ⟨_, rfl⟩) (fun t ht hW => ⟨⟨(), s26, rfl, trivial, by rw [ht]; exact hP, va_K.moved hW.alike hK, hD⟩, hS.F ht⟩) hS.2.2 dX9_total_84
      · replace h := zif_f h c57
        refine va_ldcS hx hb hown hR133 dX9_total_60 ?_
        refine lv_goto (tgt := 84) hx hb dX9_total_62 (by decide) ?_
        have g0 := Option.some.inj h
        obtain ⟨h1, g1⟩ := Prod.mk.inj g0
        subst h1
        subst g1
        replace hP := zsub (wn := (mW q v cJ V ib_12 dn rf mk s0j0)) hP [0, 1] rfl
        replace hD := hD.sub (ws' := (mW q v cJ V ib_12 dn rf mk s0j0)) [0, 1] (by decide) rfl
        refine W.widen (k := 7) (n := 595) (by decide) (by decide) ?_
        exact W.aret (v := .ref st133) hx hb hr (Or.inl ⟨_, rfl⟩) (Or.inr ⟨_, rfl⟩) (fun t ht hW => ⟨⟨(), st133, rfl, trivial, by rw [ht]; exact hP, va_K.moved hW.alike hK, hD⟩, hS.F ht⟩) hS.2.2 dX9_total_84
    replace h := zlt_h h
    refine lv_if_eq (tgt := 49) hx hb dX9_total_42 (by decide) (fun c42 => ?_) (fun c42 => ?_)
    · replace h := zif_t h c42
      refine lv_iconst (v := (0 : Int32)) hx hb dX9_total_49 (by decide) ?_
      exact hGW _ _ _ _ _ (J0 (0 : Int32) _ _ ls hP hD hS (lv_sub hl [1, 2, 3, 0] rfl) h)
    · replace h := zif_f h c42
      refine lv_iconst (v := (3 : Int32)) hx hb dX9_total_45 (by decide) ?_
      refine lv_goto (tgt := 50) hx hb dX9_total_46 (by decide) ?_
      exact hGW _ _ _ _ _ (J0 (3 : Int32) _ _ ls hP hD hS (lv_sub hl [1, 2, 3, 0] rfl) h)
  · replace h := zif_f h c15
    refine va_ldcS hx hb hown hR133 dX9_total_18 ?_
    have g0 := Option.some.inj h
    obtain ⟨h1, g1⟩ := Prod.mk.inj g0
    subst h1
    subst g1
    refine W.widen (k := 7) (n := 595) (by decide) (by decide) ?_
    exact W.aret (v := .ref st133) hx hb hr (Or.inl ⟨_, rfl⟩) (Or.inr ⟨_, rfl⟩) (fun t ht hW => ⟨⟨(), st133, rfl, trivial, by rw [ht]; exact hP, va_K.moved hW.alike hK, hD⟩, hS.F ht⟩) hS.2.2 dX9_total_20

noncomputable def p_X9_totalOfProduct (F : Nat) (V : Nat → Int64) (ib : Bool) (p0 : Int32) (p1 : Int32) (p2 : Int32) (p3 : Int32) : Option (Bool × Int32) := (zb1 (p_X9_isOne p0) (fun r1 => (zlt (zb1 (p_X9_isIn p2 (1 : Int32) (120 : Int32)) (fun r3 => (zlt (zb2 (p_X9_isThrown false false) (fun r5 th_6 => (if (z01 r5) = 0 then (zb1 (p_X9_of F V p0) (fun r8 => (zb1 (p_X9_isGreat F r8 p2 (1000000 : Int32)) (fun r11 => (if ¬ (z01 r11) = 0 then (some (ib, (3 : Int32))) else (zb1 (p_X9_of F V p1) (fun r13 => (zb1 (p_X9_isGreat F r13 p2 (1000000 : Int32)) (fun r16 => (if (z01 r16) = 0 then (zb3 (p_J4_append_15ec4 16 (fun _ => 0) 0 0 (zbt 133)) (fun bc_20 bf_21 bn_22 => (zb1 (p_X9_of F V p0) (fun r25 => (zb1 (p_X9_of F V p1) (fun r28 => (zb2 (p_X9_product F ib r25 r28) (fun r31 ib_32 => (zb2 (p_X9_totalOf F ib_32 r31 p2) (fun r35 ib_36 => (zb3 (p_J4_append_f7089 F bc_20 bf_21 bn_22 r35) (fun bc_38 bf_39 bn_40 => (zb2 (p_J7_copyOfRange_39247 bc_38 bf_39 (0 : Int32) bn_40) (fun r45 r46 => (some (ib_36, th_6)))))))))))))))) else (some (ib, (3 : Int32))))))))))))) else (some (ib, th_6))))) (fun jf1 => (if (z01 r3) = 0 then (jf1 ) else (zb1 (p_X9_isIn p3 (0 : Int32) (2 : Int32)) (fun r48 => (if (z01 r48) = 0 then (jf1 ) else (zb2 (p_X9_isThrown false true) (fun r50 th_51 => (if (z01 r50) = 0 then (zb1 (p_X9_of F V p0) (fun r53 => (zb1 (p_X9_isGreat F r53 p2 (1000000 : Int32)) (fun r56 => (if ¬ (z01 r56) = 0 then (some (ib, (3 : Int32))) else (zb1 (p_X9_of F V p1) (fun r58 => (zb1 (p_X9_isGreat F r58 p2 (1000000 : Int32)) (fun r61 => (if (z01 r61) = 0 then (zb3 (p_J4_append_15ec4 16 (fun _ => 0) 0 0 (zbt 133)) (fun bc_65 bf_66 bn_67 => (zb1 (p_X9_of F V p0) (fun r70 => (zb1 (p_X9_of F V p1) (fun r73 => (zb2 (p_X9_product F ib r70 r73) (fun r76 ib_77 => (zb2 (p_X9_totalOf F ib_77 r76 p2) (fun r80 ib_81 => (zb3 (p_J4_append_f7089 F bc_65 bf_66 bn_67 r80) (fun bc_83 bf_84 bn_85 => (zb2 (p_J7_copyOfRange_39247 bc_83 bf_84 (0 : Int32) bn_85) (fun r90 r91 => (some (ib_81, th_51)))))))))))))))) else (some (ib, (3 : Int32))))))))))))) else (some (ib, th_51))))))))))))) (fun jf0 => (if (z01 r1) = 0 then (jf0 ) else (zb1 (p_X9_isOne p1) (fun r93 => (if (z01 r93) = 0 then (jf0 ) else (zb1 (p_X9_isIn p2 (1 : Int32) (120 : Int32)) (fun r95 => (zlt (zb2 (p_X9_isThrown true false) (fun r97 th_98 => (if (z01 r97) = 0 then (zb1 (p_X9_of F V p0) (fun r100 => (zb1 (p_X9_isGreat F r100 p2 (1000000 : Int32)) (fun r103 => (if ¬ (z01 r103) = 0 then (some (ib, (3 : Int32))) else (zb1 (p_X9_of F V p1) (fun r105 => (zb1 (p_X9_isGreat F r105 p2 (1000000 : Int32)) (fun r108 => (if (z01 r108) = 0 then (zb3 (p_J4_append_15ec4 16 (fun _ => 0) 0 0 (zbt 133)) (fun bc_112 bf_113 bn_114 => (zb1 (p_X9_of F V p0) (fun r117 => (zb1 (p_X9_of F V p1) (fun r120 => (zb2 (p_X9_product F ib r117 r120) (fun r123 ib_124 => (zb2 (p_X9_totalOf F ib_124 r123 p2) (fun r127 ib_128 => (zb3 (p_J4_append_f7089 F bc_112 bf_113 bn_114 r127) (fun bc_130 bf_131 bn_132 => (zb2 (p_J7_copyOfRange_39247 bc_130 bf_131 (0 : Int32) bn_132) (fun r137 r138 => (some (ib_128, th_98)))))))))))))))) else (some (ib, (3 : Int32))))))))))))) else (some (ib, th_98))))) (fun jf2 => (if (z01 r95) = 0 then (jf2 ) else (zb1 (p_X9_isIn p3 (0 : Int32) (2 : Int32)) (fun r140 => (if (z01 r140) = 0 then (jf2 ) else (zb2 (p_X9_isThrown true true) (fun r142 th_143 => (if (z01 r142) = 0 then (zb1 (p_X9_of F V p0) (fun r145 => (zb1 (p_X9_isGreat F r145 p2 (1000000 : Int32)) (fun r148 => (if ¬ (z01 r148) = 0 then (some (ib, (3 : Int32))) else (zb1 (p_X9_of F V p1) (fun r150 => (zb1 (p_X9_isGreat F r150 p2 (1000000 : Int32)) (fun r153 => (if (z01 r153) = 0 then (zb3 (p_J4_append_15ec4 16 (fun _ => 0) 0 0 (zbt 133)) (fun bc_157 bf_158 bn_159 => (zb1 (p_X9_of F V p0) (fun r162 => (zb1 (p_X9_of F V p1) (fun r165 => (zb2 (p_X9_product F ib r162 r165) (fun r168 ib_169 => (zb2 (p_X9_totalOf F ib_169 r168 p2) (fun r172 ib_173 => (zb3 (p_J4_append_f7089 F bc_157 bf_158 bn_159 r172) (fun bc_175 bf_176 bn_177 => (zb2 (p_J7_copyOfRange_39247 bc_175 bf_176 (0 : Int32) bn_177) (fun r182 r183 => (some (ib_173, th_143)))))))))))))))) else (some (ib, (3 : Int32))))))))))))) else (some (ib, th_143)))))))))))))))))))))
theorem hdV_X9_totalOfProduct : yX9_totalOfProduct.cls = RX9 ∧ yX9_totalOfProduct.cls ≠ "java/lang/invoke/MethodHandle" ∧ yX9_totalOfProduct.cls ≠ "java/lang/invoke/VarHandle" ∧ (parseMethodDescriptor yX9_totalOfProduct.desc).map (fun d => d.parameters.length) = some 4 := by decide +kernel
set_option maxHeartbeats 4000000 in
set_option maxRecDepth 100000 in
theorem c_X9_totalOfProduct (l : Launch) (D : va_G) (q v : Nat) (cJ cI cO cB : ClassId) (V : Nat → Int64) (ib : Bool) (dn : Int32) (rf : Int32) (mk : Int32) (th : Int32) (F : Nat) (p0 : Int32) (p1 : Int32) (p2 : Int32) (p3 : Int32) (ib' : Bool) (th' : Int32) (h : p_X9_totalOfProduct F V ib p0 p1 p2 p3 = some (ib', th')) : zGs l yX9_totalOfProduct wsX9_totalOfProduct 6 171 11 1079 (zP3 D (zT cJ cI cO cB) (mW q v cJ V ib dn rf mk th)) [.ref q, .int p0, .int p1, .int p2, .int p3] D (zT cJ cI cO cB) (mW q v cJ V ib dn rf mk th) (mW q v cJ V ib' dn rf mk th') := by
  intro sz
  delta zQs
  refine Met.ofW (cc := cX9_totalOfProduct) (maxL := 5) (ret := (some (.object "java/lang/String"))) (by decide) rfl ?_
  intro p e s m args below meth c s₁ B hml hv
  obtain ⟨rfl, ⟨⟨hsz, hP, hK, hD0⟩, hE⟩, hT3⟩ := hv
  have hx := B.exec
  have hb := B.bytes
  have hr := B.returns
  have hts := atoms_spec (ws := wsX9_totalOfProduct) B.pre
  have hown : s.vm.findClass RX9 = some m.cls := findClass_of_methodNamed B.named
  have hlocks := B.notSynchronized
  subst hsz
  have hD := hD0.self (sz := s.heap.size)
  generalize hAe : va_A (mW q v cJ V ib dn rf mk th) s.heap.size = A at hD hE hT3 ⊢
  have hA : ∀ q : Nat, s.heap.size ≤ q → A q := fun q h => by rw [← hAe]; exact Or.inr h
  have hS : va_S A s.heap s.heap [] := va_S.rf
  have hl := lv_entry ([.ref q, .int p0, .int p1, .int p2, .int p3]) (n := 5) (Nat.le_of_ble_eq_true rfl)
  rw [lg_entry_eq]
  generalize (lg_sl ([.ref q, .int p0, .int p1, .int p2, .int p3]) ++ List.replicate (5 - (lg_sl ([.ref q, .int p0, .int p1, .int p2, .int p3])).length) Slot.unset).toArray = ls at hl ⊢
  replace hl : lv_has ls 5 [(0, .ref q), (1, .int p0), (2, .int p1), (3, .int p2), (4, .int p3)] := hl
  obtain ⟨⟨st133, hR133, sv_st133, hst_st133⟩, ⟨st176, hR176, sv_st176, hst_st176⟩, ⟨st181, hR181, sv_st181, hst_st181⟩⟩ := hT3
  have kc_157 := hts (.constant RX9 157 (1000000)) (zmem 1 rfl)
  have kwX9 : ∀ w ∈ u_ws RX9 TX9 6, w ∈ wsX9_totalOfProduct := fun w h => List.mem_cons_of_mem _ (List.mem_append_left _ (List.mem_append_left _ (List.mem_append_left _ (List.mem_append_left _ (List.mem_append_left _ (List.mem_append_left _ (List.mem_append_left _ (List.mem_append_left _ (List.mem_append_right _ (List.mem_cons_of_mem _ (List.mem_append_right _ h)))))))))))
  have kf_13 := hts (.fieldLink RX9 13 "DivisorworkModel" "thrown" "I") (List.mem_cons_of_mem _ (List.mem_append_left _ (List.mem_append_left _ (List.mem_append_left _ (List.mem_append_left _ (List.mem_append_left _ (List.mem_append_left _ (List.mem_append_left _ (List.mem_append_left _ (List.mem_append_right _ (zmem 1 rfl)))))))))))
  have kc_135 := hts (.classLink RX9 135 RJ4) (zmem 2 rfl)
  have kin_J4 := hts (.instantiable RJ4 4) (List.mem_cons_of_mem _ (List.mem_append_right _ (List.mem_cons_of_mem _ (List.mem_append_right _ (List.mem_cons_of_mem _ (List.mem_append_right _ (List.mem_cons_of_mem _ (List.mem_append_left _ (List.mem_append_left _ (List.mem_append_right _ (List.mem_cons_of_mem _ (List.mem_append_right _ (List.mem_cons_of_mem _ (List.mem_append_right _ (zmem 2 rfl)))))))))))))))
  have kii_J4 := hts (.initialized RJ4) (zmem 3 rfl)
  have kwJ4 : ∀ w ∈ u_ws RJ4 TJ4 4, w ∈ wsX9_totalOfProduct := fun w h => List.mem_cons_of_mem _ (List.mem_append_left _ (List.mem_append_left _ (List.mem_append_left _ (List.mem_append_left _ (List.mem_append_left _ (List.mem_append_right _ (List.mem_cons_of_mem _ (List.mem_append_right _ (List.mem_cons_of_mem _ (List.mem_append_left _ (List.mem_append_right _ h)))))))))))
  have km_137 := hts (.methodLink RX9 137 yJ4_init_da8c8) (zmem 17 rfl)
  have kim_J4i := hts (.instanceMethod yJ4_init_da8c8) (zmem 18 rfl)
  replace h : (zb1 (p_X9_isOne p0) (fun r1 => (zlt (zb1 (p_X9_isIn p2 (1 : Int32) (120 : Int32)) (fun r3 => (zlt (zb2 (p_X9_isThrown false false) (fun r5 th_6 => (if (z01 r5) = 0 then (zb1 (p_X9_of F V p0) (fun r8 => (zb1 (p_X9_isGreat F r8 p2 (1000000 : Int32)) (fun r11 => (if ¬ (z01 r11) = 0 then (some (ib, (3 : Int32))) else (zb1 (p_X9_of F V p1) (fun r13 => (zb1 (p_X9_isGreat F r13 p2 (1000000 : Int32)) (fun r16 => (if (z01 r16) = 0 then (zb3 (p_J4_append_15ec4 16 (fun _ => 0) 0 0 (zbt 133)) (fun bc_20 bf_21 bn_22 => (zb1 (p_X9_of F V p0) (fun r25 => (zb1 (p_X9_of F V p1) (fun r28 => (zb2 (p_X9_product F ib r25 r28) (fun r31 ib_32 => (zb2 (p_X9_totalOf F ib_32 r31 p2) (fun r35 ib_36 => (zb3 (p_J4_append_f7089 F bc_20 bf_21 bn_22 r35) (fun bc_38 bf_39 bn_40 => (zb2 (p_J7_copyOfRange_39247 bc_38 bf_39 (0 : Int32) bn_40) (fun r45 r46 => (some (ib_36, th_6)))))))))))))))) else (some (ib, (3 : Int32))))))))))))) else (some (ib, th_6))))) (fun jf1 => (if (z01 r3) = 0 then (jf1 ) else (zb1 (p_X9_isIn p3 (0 : Int32) (2 : Int32)) (fun r48 => (if (z01 r48) = 0 then (jf1 ) else (zb2 (p_X9_isThrown false true) (fun r50 th_51 => (if (z01 r50) = 0 then (zb1 (p_X9_of F V p0) (fun r53 => (zb1 (p_X9_isGreat F r53 p2 (1000000 : Int32)) (fun r56 => (if ¬ (z01 r56) = 0 then (some (ib, (3 : Int32))) else (zb1 (p_X9_of F V p1) (fun r58 => (zb1 (p_X9_isGreat F r58 p2 (1000000 : Int32)) (fun r61 => (if (z01 r61) = 0 then (zb3 (p_J4_append_15ec4 16 (fun _ => 0) 0 0 (zbt 133)) (fun bc_65 bf_66 bn_67 => (zb1 (p_X9_of F V p0) (fun r70 => (zb1 (p_X9_of F V p1) (fun r73 => (zb2 (p_X9_product F ib r70 r73) (fun r76 ib_77 => (zb2 (p_X9_totalOf F ib_77 r76 p2) (fun r80 ib_81 => (zb3 (p_J4_append_f7089 F bc_65 bf_66 bn_67 r80) (fun bc_83 bf_84 bn_85 => (zb2 (p_J7_copyOfRange_39247 bc_83 bf_84 (0 : Int32) bn_85) (fun r90 r91 => (some (ib_81, th_51)))))))))))))))) else (some (ib, (3 : Int32))))))))))))) else (some (ib, th_51))))))))))))) (fun jf0 => (if (z01 r1) = 0 then (jf0 ) else (zb1 (p_X9_isOne p1) (fun r93 => (if (z01 r93) = 0 then (jf0 ) else (zb1 (p_X9_isIn p2 (1 : Int32) (120 : Int32)) (fun r95 => (zlt (zb2 (p_X9_isThrown true false) (fun r97 th_98 => (if (z01 r97) = 0 then (zb1 (p_X9_of F V p0) (fun r100 => (zb1 (p_X9_isGreat F r100 p2 (1000000 : Int32)) (fun r103 => (if ¬ (z01 r103) = 0 then (some (ib, (3 : Int32))) else (zb1 (p_X9_of F V p1) (fun r105 => (zb1 (p_X9_isGreat F r105 p2 (1000000 : Int32)) (fun r108 => (if (z01 r108) = 0 then (zb3 (p_J4_append_15ec4 16 (fun _ => 0) 0 0 (zbt 133)) (fun bc_112 bf_113 bn_114 => (zb1 (p_X9_of F V p0) (fun r117 => (zb1 (p_X9_of F V p1) (fun r120 => (zb2 (p_X9_product F ib r117 r120) (fun r123 ib_124 => (zb2 (p_X9_totalOf F ib_124 r123 p2) (fun r127 ib_128 => (zb3 (p_J4_append_f7089 F bc_112 bf_113 bn_114 r127) (fun bc_130 bf_131 bn_132 => (zb2 (p_J7_copyOfRange_39247 bc_130 bf_131 (0 : Int32) bn_132) (fun r137 r138 => (some (ib_128, th_98)))))))))))))))) else (some (ib, (3 : Int32))))))))))))) else (some (ib, th_98))))) (fun jf2 => (if (z01 r95) = 0 then (jf2 ) else (zb1 (p_X9_isIn p3 (0 : Int32) (2 : Int32)) (fun r140 => (if (z01 r140) = 0 then (jf2 ) else (zb2 (p_X9_isThrown true true) (fun r142 th_143 => (if (z01 r142) = 0 then (zb1 (p_X9_of F V p0) (fun r145 => (zb1 (p_X9_isGreat F r145 p2 (1000000 : Int32)) (fun r148 => (if ¬ (z01 r148) = 0 then (some (ib, (3 : Int32))) else (zb1 (p_X9_of F V p1) (fun r150 => (zb1 (p_X9_isGreat F r150 p2 (1000000 : Int32)) (fun r153 => (if (z01 r153) = 0 then (zb3 (p_J4_append_15ec4 16 (fun _ => 0) 0 0 (zbt 133)) (fun bc_157 bf_158 bn_159 => (zb1 (p_X9_of F V p0) (fun r162 => (zb1 (p_X9_of F V p1) (fun r165 => (zb2 (p_X9_product F ib r162 r165) (fun r168 ib_169 => (zb2 (p_X9_totalOf F ib_169 r168 p2) (fun r172 ib_173 => (zb3 (p_J4_append_f7089 F bc_157 bf_158 bn_159 r172) (fun bc_175 bf_176 bn_177 => (zb2 (p_J7_copyOfRange_39247 bc_175 bf_176 (0 : Int32) bn_177) (fun r182 r183 => (some (ib_173, th_143)))))))))))))))) else (some (ib, (3 : Int32))))))))))))) else (some (ib, th_143))))))))))))))))))))) = some (ib', th') := h
  refine zabs (fun G hG hGW => ?_)
  obtain ⟨H, hHe⟩ : ∃ H, H = s.heap := ⟨_, rfl⟩
  rw [← hHe] at hP
  replace hS : va_S A s.heap H [] := by rw [hHe]; exact hS
  refine zheap hHe ?_
  refine lv_aload_n hx hb dX9_totalOfProduct_0 rfl (lv_at hl 0 rfl) ?_
  refine lv_iload_n hx hb dX9_totalOfProduct_1 rfl (lv_at hl 1 rfl) ?_
  obtain ⟨r1, e2, h⟩ := zb1_some h
  refine zgoi (va_runS (As := [.int p0]) (rest := [.ref q]) ⟨hx, hb, hml, hown, hts⟩ (c_X9_isOne l D (zT cJ cI cO cB) p0 r1 e2 H.size) (va_cwS 1 hts gX9_totalOfProduct_X9_isOne rfl rfl rfl hdS_X9_isOne ⟨Nat.le_of_ble_eq_true rfl, Nat.le_of_ble_eq_true rfl⟩) (zpreS hK zP0 (zD0 (A := A)) [.int p0]) rfl rfl hl.1 rfl (lv_room (Nat.le_of_ble_eq_true rfl)) dX9_totalOfProduct_2 ⟨Nat.le_of_ble_eq_true rfl, Nat.le_of_ble_eq_true rfl⟩) (zf0 hS hA) (zjE hP hD) hS (fun H locs hP hD hS => ?_)
  have J0 : ∀  (H : Heap) (locs : List Loc) (ls : Array Slot), va_P D vwCl (mW q v cJ V ib dn rf mk th) H → va_D A (mW q v cJ V ib dn rf mk th) → va_S A s.heap H locs → lv_has ls 5 [(0, .ref q), (1, .int p0), (2, .int p1), (3, .int p2), (4, .int p3)] → (zb1 (p_X9_isIn p2 (1 : Int32) (120 : Int32)) (fun r3 => (zlt (zb2 (p_X9_isThrown false false) (fun r5 th_6 => (if (z01 r5) = 0 then (zb1 (p_X9_of F V p0) (fun r8 => (zb1 (p_X9_isGreat F r8 p2 (1000000 : Int32)) (fun r11 => (if ¬ (z01 r11) = 0 then (some (ib, (3 : Int32))) else (zb1 (p_X9_of F V p1) (fun r13 => (zb1 (p_X9_isGreat F r13 p2 (1000000 : Int32)) (fun r16 => (if (z01 r16) = 0 then (zb3 (p_J4_append_15ec4 16 (fun _ => 0) 0 0 (zbt 133)) (fun bc_20 bf_21 bn_22 => (zb1 (p_X9_of F V p0) (fun r25 => (zb1 (p_X9_of F V p1) (fun r28 => (zb2 (p_X9_product F ib r25 r28) (fun r31 ib_32 => (zb2 (p_X9_totalOf F ib_32 r31 p2) (fun r35 ib_36 => (zb3 (p_J4_append_f7089 F bc_20 bf_21 bn_22 r35) (fun bc_38 bf_39 bn_40 => (zb2 (p_J7_copyOfRange_39247 bc_38 bf_39 (0 : Int32) bn_40) (fun r45 r46 => (some (ib_36, th_6)))))))))))))))) else (some (ib, (3 : Int32))))))))))))) else (some (ib, th_6))))) (fun jf1 => (if (z01 r3) = 0 then (jf1 ) else (zb1 (p_X9_isIn p3 (0 : Int32) (2 : Int32)) (fun r48 => (if (z01 r48) = 0 then (jf1 ) else (zb2 (p_X9_isThrown false true) (fun r50 th_51 => (if (z01 r50) = 0 then (zb1 (p_X9_of F V p0) (fun r53 => (zb1 (p_X9_isGreat F r53 p2 (1000000 : Int32)) (fun r56 => (if ¬ (z01 r56) = 0 then (some (ib, (3 : Int32))) else (zb1 (p_X9_of F V p1) (fun r58 => (zb1 (p_X9_isGreat F r58 p2 (1000000 : Int32)) (fun r61 => (if (z01 r61) = 0 then (zb3 (p_J4_append_15ec4 16 (fun _ => 0) 0 0 (zbt 133)) (fun bc_65 bf_66 bn_67 => (zb1 (p_X9_of F V p0) (fun r70 => (zb1 (p_X9_of F V p1) (fun r73 => (zb2 (p_X9_product F ib r70 r73) (fun r76 ib_77 => (zb2 (p_X9_totalOf F ib_77 r76 p2) (fun r80 ib_81 => (zb3 (p_J4_append_f7089 F bc_65 bf_66 bn_67 r80) (fun bc_83 bf_84 bn_85 => (zb2 (p_J7_copyOfRange_39247 bc_83 bf_84 (0 : Int32) bn_85) (fun r90 r91 => (some (ib_81, th_51)))))))))))))))) else (some (ib, (3 : Int32))))))))))))) else (some (ib, th_51))))))))))))) = some (ib', th') → G H locs 0 0 (F0 m 19 ls [.ref q]) := by
    intro  H locs ls hP hD hS hl h
    refine hG _ _ _ _ _ ?_
    refine lv_iconst (v := (0 : Int32)) hx hb dX9_totalOfProduct_19 (by decide) ?_
    refine lv_iload_n hx hb dX9_totalOfProduct_20 rfl (lv_at hl 3 rfl) ?_
    refine lv_iconst (v := (1 : Int32)) hx hb dX9_totalOfProduct_21 (by decide) ?_
    refine lv_bipush (v := (120 : Int32)) hx hb dX9_totalOfProduct_22 (by decide) ?_
    obtain ⟨r3, e4, h⟩ := zb1_some h
    refine zgoi (va_runS (As := [.int p2, .int (1 : Int32), .int (120 : Int32)]) (rest := [.int (0 : Int32), .ref q]) ⟨hx, hb, hml, hown, hts⟩ (c_X9_isIn l D (zT cJ cI cO cB) p2 (1 : Int32) (120 : Int32) r3 e4 H.size) (va_cwS 3 hts gX9_totalOfProduct_X9_isIn rfl rfl rfl hdS_X9_isIn ⟨Nat.le_of_ble_eq_true rfl, Nat.le_of_ble_eq_true rfl⟩) (zpreS hK zP0 (zD0 (A := A)) [.int p2, .int (1 : Int32), .int (120 : Int32)]) rfl rfl hl.1 rfl (lv_room (Nat.le_of_ble_eq_true rfl)) dX9_totalOfProduct_24 ⟨Nat.le_of_ble_eq_true rfl, Nat.le_of_ble_eq_true rfl⟩) (zf0 hS hA) (zjE hP hD) hS (fun H locs hP hD hS => ?_)
    have J1 : ∀  (H : Heap) (locs : List Loc) (ls : Array Slot), va_P D vwCl (mW q v cJ V ib dn rf mk th) H → va_D A (mW q v cJ V ib dn rf mk th) → va_S A s.heap H locs → lv_has ls 5 [(0, .ref q), (1, .int p0), (2, .int p1), (3, .int p2), (4, .int p3)] → (zb2 (p_X9_isThrown false false) (fun r5 th_6 => (if (z01 r5) = 0 then (zb1 (p_X9_of F V p0) (fun r8 => (zb1 (p_X9_isGreat F r8 p2 (1000000 : Int32)) (fun r11 => (if ¬ (z01 r11) = 0 then (some (ib, (3 : Int32))) else (zb1 (p_X9_of F V p1) (fun r13 => (zb1 (p_X9_isGreat F r13 p2 (1000000 : Int32)) (fun r16 => (if (z01 r16) = 0 then (zb3 (p_J4_append_15ec4 16 (fun _ => 0) 0 0 (zbt 133)) (fun bc_20 bf_21 bn_22 => (zb1 (p_X9_of F V p0) (fun r25 => (zb1 (p_X9_of F V p1) (fun r28 => (zb2 (p_X9_product F ib r25 r28) (fun r31 ib_32 => (zb2 (p_X9_totalOf F ib_32 r31 p2) (fun r35 ib_36 => (zb3 (p_J4_append_f7089 F bc_20 bf_21 bn_22 r35) (fun bc_38 bf_39 bn_40 => (zb2 (p_J7_copyOfRange_39247 bc_38 bf_39 (0 : Int32) bn_40) (fun r45 r46 => (some (ib_36, th_6)))))))))))))))) else (some (ib, (3 : Int32))))))))))))) else (some (ib, th_6))))) = some (ib', th') → G H locs 0 0 (F0 m 44 ls [.int (0 : Int32), .ref q]) := by
      intro  H locs ls hP hD hS hl h
      refine hG _ _ _ _ _ ?_
      refine lv_iconst (v := (0 : Int32)) hx hb dX9_totalOfProduct_44 (by decide) ?_
      obtain ⟨r5, th_6, e7, h⟩ := zb2_some h
      refine zgoi (va_runV (As := [.int (0 : Int32), .int (0 : Int32)]) (rest := []) ⟨hx, hb, hml, hown, hts⟩ (c_X9_isThrown l D q v cJ cI cO cB V ib dn rf mk th false false r5 th_6 e7 H.size) (cwV 2 hts gX9_totalOfProduct_X9_isThrown rfl rfl rfl hdV_X9_isThrown ⟨Nat.le_of_ble_eq_true rfl, Nat.le_of_ble_eq_true rfl⟩) (zpreV (q0 := 0) (ci := 9) (T := TX9) (N := 6) hK hP hD rfl rfl [.int (0 : Int32), .int (0 : Int32)]) rfl rfl hl.1 rfl (lv_room (Nat.le_of_ble_eq_true rfl)) dX9_totalOfProduct_45 ⟨Nat.le_of_ble_eq_true rfl, Nat.le_of_ble_eq_true rfl⟩) (zfree hD hS hA) (zjW hD hS hA) hS (fun H locs hP hD hS => ?_)
      replace hP : va_P D vwCl (mW q v cJ V ib dn rf mk th_6) H := hP
      replace hD : va_D A (mW q v cJ V ib dn rf mk th_6) := hD
      refine lv_if_eq (tgt := 54) hx hb dX9_totalOfProduct_48 (by decide) (fun c48 => ?_) (fun c48 => ?_)
      · replace h := zif_t h c48
        refine lv_aload_n hx hb dX9_totalOfProduct_54 rfl (lv_at hl 0 rfl) ?_
        refine lv_iload_n hx hb dX9_totalOfProduct_55 rfl (lv_at hl 1 rfl) ?_
        obtain ⟨r8, e9, h⟩ := zb1_some h
        refine zgon (va_runV (As := [.int p0]) (rest := []) ⟨hx, hb, hml, hown, hts⟩ (c_X9_of l D q v cJ cI cO cB V ib dn rf mk th_6 F p0 r8 e9 H.size) (cwV 1 hts gX9_totalOfProduct_X9_of rfl rfl rfl hdV_X9_of ⟨Nat.le_of_ble_eq_true rfl, Nat.le_of_ble_eq_true rfl⟩) (zpreV (q0 := 0) (ci := 9) (T := TX9) (N := 6) hK hP hD rfl rfl [.int p0]) rfl rfl hl.1 rfl (lv_room (Nat.le_of_ble_eq_true rfl)) dX9_totalOfProduct_56 ⟨Nat.le_of_ble_eq_true rfl, Nat.le_of_ble_eq_true rfl⟩) (zfree hD hS hA) (fun _ => zjW hD hS hA) hS (fun w10 H locs hP hD hS => ?_)
        replace hP : va_P D vwCl (mW q v cJ V ib dn rf mk th_6 ++ ([(w10, .inl (cJ, 121, .inr (.inl r8)))])) H := hP
        replace hD : va_D A (mW q v cJ V ib dn rf mk th_6 ++ ([(w10, .inl (cJ, 121, .inr (.inl r8)))])) := hD
        refine lv_iload_n hx hb dX9_totalOfProduct_59 rfl (lv_at hl 3 rfl) ?_
        refine lv_ldc hx hb hown kc_157 dX9_totalOfProduct_60 ?_
        obtain ⟨r11, e12, h⟩ := zb1_some h
        have hPc := zsub (wn := ([(w10, .inl (cJ, 121, .inr (.inl r8)))] : va_W)) hP [2] rfl
        have hDc := hD.sub (ws' := ([(w10, .inl (cJ, 121, .inr (.inl r8)))] : va_W)) [2] (by decide) rfl
        refine zgoi (va_runS (As := [.ref w10, .int p2, .int (1000000 : Int32)]) (rest := []) ⟨hx, hb, hml, hown, hts⟩ (c_X9_isGreat l D cJ cI cO cB F w10 r8 p2 (1000000 : Int32) r11 e12 H.size) (va_cwS 3 hts gX9_totalOfProduct_X9_isGreat rfl rfl rfl hdS_X9_isGreat ⟨Nat.le_of_ble_eq_true rfl, Nat.le_of_ble_eq_true rfl⟩) (zpreS hK hPc hDc [.ref w10, .int p2, .int (1000000 : Int32)]) rfl rfl hl.1 rfl (lv_room (Nat.le_of_ble_eq_true rfl)) dX9_totalOfProduct_62 ⟨Nat.le_of_ble_eq_true rfl, Nat.le_of_ble_eq_true rfl⟩) (va_free hD hS hA [2] rfl) (zjs (wn := (mW q v cJ V ib dn rf mk th_6 ++ ([(w10, .inl (cJ, 121, .inr (.inl r8)))]))) [0, 1, 2] (zjF (wr := (mW q v cJ V ib dn rf mk th_6)) hP hD hS hA [2] [0, 1] rfl rfl (by decide) (by decide)) rfl (by decide)) hS (fun H locs hP hD hS => ?_)
        replace hP : va_P D vwCl (mW q v cJ V ib dn rf mk th_6 ++ ([(w10, .inl (cJ, 121, .inr (.inl r8)))])) H := hP
        replace hD : va_D A (mW q v cJ V ib dn rf mk th_6 ++ ([(w10, .inl (cJ, 121, .inr (.inl r8)))])) := hD
        refine lv_if_ne (tgt := 82) hx hb dX9_totalOfProduct_65 (by decide) (fun c65 => ?_) (fun c65 => ?_)
        · replace h := zif_t h c65
          refine lv_aload_n hx hb dX9_totalOfProduct_82 rfl (lv_at hl 0 rfl) ?_
          refine lv_iconst (v := (3 : Int32)) hx hb dX9_totalOfProduct_83 (by decide) ?_
          refine va_put (D := D) (ci := 9) (v := .int (3 : Int32)) (ty := .int) (C := RX9) (T := TX9) (N := 6) hx hb hts kwX9 tyX9 tyX9_ok nmX9 hown hK hP hD hS 0 rfl rfl 5 (by decide) kf_13 (fun _ h9 => h9) rfl rfl rfl rfl (Nat.le_of_ble_eq_true rfl) dX9_totalOfProduct_84 (fun H locs hP hD hS => ?_)
          replace hP : va_P D vwCl (mW q v cJ V ib dn rf mk (3 : Int32) ++ ([(w10, .inl (cJ, 121, .inr (.inl r8)))])) H := hP
          replace hD : va_D A (mW q v cJ V ib dn rf mk (3 : Int32) ++ ([(w10, .inl (cJ, 121, .inr (.inl r8)))])) := hD
          refine va_ldcS hx hb hown hR133 dX9_totalOfProduct_87 ?_
          have g0 := Option.some.inj h
          obtain ⟨h1, g1⟩ := Prod.mk.inj g0
          subst h1
          subst g1
          replace hP := zsub (wn := (mW q v cJ V ib dn rf mk (3 : Int32))) hP [0, 1] rfl
          replace hD := hD.sub (ws' := (mW q v cJ V ib dn rf mk (3 : Int32))) [0, 1] (by decide) rfl
          refine W.widen (k := 11) (n := 1079) (by decide) (by decide) ?_
          exact W.aret (v := .ref st133) hx hb hr (Or.inl ⟨_, rfl⟩) (Or.inr ⟨_, rfl⟩) (fun t ht hW => ⟨⟨(), st133, rfl, trivial, by rw [ht]; exact hP, va_K.moved hW.alike hK, hD⟩, hS.F ht⟩) hS.2.2 dX9_totalOfProduct_89
        · replace h := zif_fn h c65
          refine lv_aload_n hx hb dX9_totalOfProduct_68 rfl (lv_at hl 0 rfl) ?_
          refine lv_iload_n hx hb dX9_totalOfProduct_69 rfl (lv_at hl 2 rfl) ?_
          obtain ⟨r13, e14, h⟩ := zb1_some h
          have hPc := zsub (wn := (mW q v cJ V ib dn rf mk th_6)) hP [0, 1] rfl
          have hDc := hD.sub (ws' := (mW q v cJ V ib dn rf mk th_6)) [0, 1] (by decide) rfl
          refine zgon (va_runV (As := [.int p1]) (rest := []) ⟨hx, hb, hml, hown, hts⟩ (c_X9_of l D q v cJ cI cO cB V ib dn rf mk th_6 F p1 r13 e14 H.size) (cwV 1 hts gX9_totalOfProduct_X9_of rfl rfl rfl hdV_X9_of ⟨Nat.le_of_ble_eq_true rfl, Nat.le_of_ble_eq_true rfl⟩) (zpreV (q0 := 0) (ci := 9) (T := TX9) (N := 6) hK hPc hDc rfl rfl [.int p1]) rfl rfl hl.1 rfl (lv_room (Nat.le_of_ble_eq_true rfl)) dX9_totalOfProduct_70 ⟨Nat.le_of_ble_eq_true rfl, Nat.le_of_ble_eq_true rfl⟩) (va_free hD hS hA [0, 1] rfl) (fun w15 => (zjs (wn := (mW q v cJ V ib dn rf mk th_6 ++ ([(w10, .inl (cJ, 121, .inr (.inl r8))), (w15, .inl (cJ, 121, .inr (.inl r13)))]))) [1, 2, 0, 3] (zjF (wr := ([(w10, .inl (cJ, 121, .inr (.inl r8)))] : va_W)) hP hD hS hA [0, 1] [2] rfl rfl (by decide) (by decide)) rfl (by decide))) hS (fun w15 H locs hP hD hS => ?_)
          replace hP : va_P D vwCl (mW q v cJ V ib dn rf mk th_6 ++ ([(w10, .inl (cJ, 121, .inr (.inl r8))), (w15, .inl (cJ, 121, .inr (.inl r13)))])) H := hP
          replace hD : va_D A (mW q v cJ V ib dn rf mk th_6 ++ ([(w10, .inl (cJ, 121, .inr (.inl r8))), (w15, .inl (cJ, 121, .inr (.inl r13)))])) := hD
          refine lv_iload_n hx hb dX9_totalOfProduct_73 rfl (lv_at hl 3 rfl) ?_
          refine lv_ldc hx hb hown kc_157 dX9_totalOfProduct_74 ?_
          obtain ⟨r16, e17, h⟩ := zb1_some h
          have hPc := zsub (wn := ([(w15, .inl (cJ, 121, .inr (.inl r13)))] : va_W)) hP [3] rfl
          have hDc := hD.sub (ws' := ([(w15, .inl (cJ, 121, .inr (.inl r13)))] : va_W)) [3] (by decide) rfl
          refine zgoi (va_runS (As := [.ref w15, .int p2, .int (1000000 : Int32)]) (rest := []) ⟨hx, hb, hml, hown, hts⟩ (c_X9_isGreat l D cJ cI cO cB F w15 r13 p2 (1000000 : Int32) r16 e17 H.size) (va_cwS 3 hts gX9_totalOfProduct_X9_isGreat rfl rfl rfl hdS_X9_isGreat ⟨Nat.le_of_ble_eq_true rfl, Nat.le_of_ble_eq_true rfl⟩) (zpreS hK hPc hDc [.ref w15, .int p2, .int (1000000 : Int32)]) rfl rfl hl.1 rfl (lv_room (Nat.le_of_ble_eq_true rfl)) dX9_totalOfProduct_76 ⟨Nat.le_of_ble_eq_true rfl, Nat.le_of_ble_eq_true rfl⟩) (va_free hD hS hA [3] rfl) (zjs (wn := (mW q v cJ V ib dn rf mk th_6 ++ ([(w10, .inl (cJ, 121, .inr (.inl r8))), (w15, .inl (cJ, 121, .inr (.inl r13)))]))) [0, 1, 2, 3] (zjF (wr := (mW q v cJ V ib dn rf mk th_6 ++ ([(w10, .inl (cJ, 121, .inr (.inl r8)))]))) hP hD hS hA [3] [0, 1, 2] rfl rfl (by decide) (by decide)) rfl (by decide)) hS (fun H locs hP hD hS => ?_)
          replace hP : va_P D vwCl (mW q v cJ V ib dn rf mk th_6 ++ ([(w10, .inl (cJ, 121, .inr (.inl r8))), (w15, .inl (cJ, 121, .inr (.inl r13)))])) H := hP
          replace hD : va_D A (mW q v cJ V ib dn rf mk th_6 ++ ([(w10, .inl (cJ, 121, .inr (.inl r8))), (w15, .inl (cJ, 121, .inr (.inl r13)))])) := hD
          refine lv_if_eq (tgt := 90) hx hb dX9_totalOfProduct_79 (by decide) (fun c79 => ?_) (fun c79 => ?_)
          · replace h := zif_t h c79
            refine va_new (ci := 1) (fs := [.null, .int 0, .int 0, .int 0]) (C := RJ4) (T := TJ4) (N := 4) hx hb hts kwJ4 tyJ4 tyJ4_ok hown kc_135 kin_J4 kii_J4 hK hP hD hS hA rfl (fun j hj => by rcases (show j = 0 ∨ j = 1 ∨ j = 2 ∨ j = 3 by omega) with rfl | rfl | rfl | rfl <;> rfl) (Nat.le_of_ble_eq_true rfl) (Nat.le_of_ble_eq_true rfl) dX9_totalOfProduct_90 (fun sb18 H hP hD hS => ?_)
            replace hP : va_P D vwCl ((mW q v cJ V ib dn rf mk th_6 ++ ([(w10, .inl (cJ, 121, .inr (.inl r8))), (w15, .inl (cJ, 121, .inr (.inl r13)))])) ++ [(sb18, .inr (1, [.null, .int 0, .int 0, .int 0]))]) H := hP
            replace hD : va_D A ((mW q v cJ V ib dn rf mk th_6 ++ ([(w10, .inl (cJ, 121, .inr (.inl r8))), (w15, .inl (cJ, 121, .inr (.inl r13)))])) ++ [(sb18, .inr (1, [.null, .int 0, .int 0, .int 0]))]) := hD
            refine lv_dup hx hb dX9_totalOfProduct_93 rfl ?_
            have hPc := zsub (wn := ([(sb18, .inr (1, [.null, .int 0, .int 0, .int 0]))] : va_W)) hP [4] rfl
            have hDc := hD.sub (ws' := ([(sb18, .inr (1, [.null, .int 0, .int 0, .int 0]))] : va_W)) [4] (by decide) rfl
            refine zgoc (va_runI (As := []) (rest := [.ref sb18]) ⟨hx, hb, hml, hown, hts⟩ (c_J4_init_da8c8 l D cJ cI cO cB sb18 H.size) (cwI 0 hts gX9_totalOfProduct_J4_init_da8c8 rfl rfl rfl kii_J4 km_137 kim_J4i rfl (by decide +kernel) ⟨Nat.le_of_ble_eq_true rfl, Nat.le_of_ble_eq_true rfl⟩) (zxpreS hE hS (va_free hD hS hA [4] rfl) hK hPc hDc [.ref sb18]) rfl rfl hl.1 rfl (lv_room (Nat.le_of_ble_eq_true rfl)) dX9_totalOfProduct_94 ⟨Nat.le_of_ble_eq_true rfl, Nat.le_of_ble_eq_true rfl⟩) (va_free hD hS hA [4] rfl) (fun u => zjF (wr := (mW q v cJ V ib dn rf mk th_6 ++ ([(w10, .inl (cJ, 121, .inr (.inl r8))), (w15, .inl (cJ, 121, .inr (.inl r13)))]))) hP hD hS hA [4] [0, 1, 2, 3] rfl rfl (by decide) (by decide)) hS (fun u19 H locs hP hD hS => ?_)
            replace hP : va_P D vwCl (mW q v cJ V ib dn rf mk th_6 ++ ([(w10, .inl (cJ, 121, .inr (.inl r8))), (w15, .inl (cJ, 121, .inr (.inl r13)))] ++ (sW sb18 cB (u19 0) 16 (fun _ => 0) false 0))) H := hP
            replace hD : va_D A (mW q v cJ V ib dn rf mk th_6 ++ ([(w10, .inl (cJ, 121, .inr (.inl r8))), (w15, .inl (cJ, 121, .inr (.inl r13)))] ++ (sW sb18 cB (u19 0) 16 (fun _ => 0) false 0))) := hD
            refine va_ldcS hx hb hown hR133 dX9_totalOfProduct_97 ?_
            obtain ⟨bc_20, bf_21, bn_22, e23, h⟩ := zb3_some h
            have hPc := zsub (wn := (sW sb18 cB (u19 0) 16 (fun _ => 0) false 0)) hP [4, 5] rfl
            have hDc := hD.sub (ws' := (sW sb18 cB (u19 0) 16 (fun _ => 0) false 0)) [4, 5] (by decide) rfl
            refine zgosr (va_runV (As := [.ref st133]) (rest := []) ⟨hx, hb, hml, hown, hts⟩ (c_J4_append_15ec4 l D sb18 cJ cI cO cB (u19 0) 16 (fun _ => 0) false 0 st133 0 (zbt 133) bc_20 bf_21 bn_22 e23 H.size) (cwV 1 hts gX9_totalOfProduct_J4_append_15ec4 rfl rfl rfl hdV_J4_append_15ec4 ⟨Nat.le_of_ble_eq_true rfl, Nat.le_of_ble_eq_true rfl⟩) (zspreV hE (zSt.here hst_st133 hS (va_free hD hS hA [4, 5] rfl)) hS (va_free hD hS hA [4, 5] rfl) (q0 := 0) (ci := 1) (T := TJ4) (N := 4) hK hPc hDc rfl rfl [.ref st133]) rfl rfl hl.1 rfl (lv_room (Nat.le_of_ble_eq_true rfl)) dX9_totalOfProduct_99 ⟨Nat.le_of_ble_eq_true rfl, Nat.le_of_ble_eq_true rfl⟩) (va_free hD hS hA [4, 5] rfl) (fun bv24 => (zjs (wn := (mW q v cJ V ib dn rf mk th_6 ++ ([(w10, .inl (cJ, 121, .inr (.inl r8))), (w15, .inl (cJ, 121, .inr (.inl r13)))] ++ (sW sb18 cB bv24 bc_20 bf_21 false bn_22)))) [0, 1, 2, 3, 4, 5] (zjF (wr := (mW q v cJ V ib dn rf mk th_6 ++ ([(w10, .inl (cJ, 121, .inr (.inl r8))), (w15, .inl (cJ, 121, .inr (.inl r13)))]))) hP hD hS hA [4, 5] [0, 1, 2, 3] rfl rfl (by decide) (by decide)) rfl (by decide))) hS (fun bv24 H locs hP hD hS => ?_)
            replace hP : va_P D vwCl (mW q v cJ V ib dn rf mk th_6 ++ ([(w10, .inl (cJ, 121, .inr (.inl r8))), (w15, .inl (cJ, 121, .inr (.inl r13)))] ++ (sW sb18 cB bv24 bc_20 bf_21 false bn_22))) H := hP
            replace hD : va_D A (mW q v cJ V ib dn rf mk th_6 ++ ([(w10, .inl (cJ, 121, .inr (.inl r8))), (w15, .inl (cJ, 121, .inr (.inl r13)))] ++ (sW sb18 cB bv24 bc_20 bf_21 false bn_22))) := hD
            refine lv_aload_n hx hb dX9_totalOfProduct_102 rfl (lv_at hl 0 rfl) ?_
            refine lv_aload_n hx hb dX9_totalOfProduct_103 rfl (lv_at hl 0 rfl) ?_
            refine lv_aload_n hx hb dX9_totalOfProduct_104 rfl (lv_at hl 0 rfl) ?_
            refine lv_iload_n hx hb dX9_totalOfProduct_105 rfl (lv_at hl 1 rfl) ?_
            obtain ⟨r25, e26, h⟩ := zb1_some h
            have hPc := zsub (wn := (mW q v cJ V ib dn rf mk th_6)) hP [0, 1] rfl
            have hDc := hD.sub (ws' := (mW q v cJ V ib dn rf mk th_6)) [0, 1] (by decide) rfl
            refine zgon (va_runV (As := [.int p0]) (rest := [.ref q, .ref q, .ref sb18]) ⟨hx, hb, hml, hown, hts⟩ (c_X9_of l D q v cJ cI cO cB V ib dn rf mk th_6 F p0 r25 e26 H.size) (cwV 1 hts gX9_totalOfProduct_X9_of rfl rfl rfl hdV_X9_of ⟨Nat.le_of_ble_eq_true rfl, Nat.le_of_ble_eq_true rfl⟩) (zpreV (q0 := 0) (ci := 9) (T := TX9) (N := 6) hK hPc hDc rfl rfl [.int p0]) rfl rfl hl.1 rfl (lv_room (Nat.le_of_ble_eq_true rfl)) dX9_totalOfProduct_106 ⟨Nat.le_of_ble_eq_true rfl, Nat.le_of_ble_eq_true rfl⟩) (va_free hD hS hA [0, 1] rfl) (fun w27 => (zjs (wn := (mW q v cJ V ib dn rf mk th_6 ++ ([(w10, .inl (cJ, 121, .inr (.inl r8))), (w15, .inl (cJ, 121, .inr (.inl r13))), (w27, .inl (cJ, 121, .inr (.inl r25)))] ++ (sW sb18 cB bv24 bc_20 bf_21 false bn_22)))) [4, 5, 0, 1, 6, 2, 3] (zjF (wr := ([(w10, .inl (cJ, 121, .inr (.inl r8))), (w15, .inl (cJ, 121, .inr (.inl r13)))] ++ (sW sb18 cB bv24 bc_20 bf_21 false bn_22))) hP hD hS hA [0, 1] [2, 3, 4, 5] rfl rfl (by decide) (by decide)) rfl (by decide))) hS (fun w27 H locs hP hD hS => ?_)
            replace hP : va_P D vwCl (mW q v cJ V ib dn rf mk th_6 ++ ([(w10, .inl (cJ, 121, .inr (.inl r8))), (w15, .inl (cJ, 121, .inr (.inl r13))), (w27, .inl (cJ, 121, .inr (.inl r25)))] ++ (sW sb18 cB bv24 bc_20 bf_21 false bn_22))) H := hP
            replace hD : va_D A (mW q v cJ V ib dn rf mk th_6 ++ ([(w10, .inl (cJ, 121, .inr (.inl r8))), (w15, .inl (cJ, 121, .inr (.inl r13))), (w27, .inl (cJ, 121, .inr (.inl r25)))] ++ (sW sb18 cB bv24 bc_20 bf_21 false bn_22))) := hD
            refine lv_aload_n hx hb dX9_totalOfProduct_109 rfl (lv_at hl 0 rfl) ?_
            refine lv_iload_n hx hb dX9_totalOfProduct_110 rfl (lv_at hl 2 rfl) ?_
            obtain ⟨r28, e29, h⟩ := zb1_some h
            have hPc := zsub (wn := (mW q v cJ V ib dn rf mk th_6)) hP [0, 1] rfl
            have hDc := hD.sub (ws' := (mW q v cJ V ib dn rf mk th_6)) [0, 1] (by decide) rfl
            refine zgon (va_runV (As := [.int p1]) (rest := [.ref w27, .ref q, .ref q, .ref sb18]) ⟨hx, hb, hml, hown, hts⟩ (c_X9_of l D q v cJ cI cO cB V ib dn rf mk th_6 F p1 r28 e29 H.size) (cwV 1 hts gX9_totalOfProduct_X9_of rfl rfl rfl hdV_X9_of ⟨Nat.le_of_ble_eq_true rfl, Nat.le_of_ble_eq_true rfl⟩) (zpreV (q0 := 0) (ci := 9) (T := TX9) (N := 6) hK hPc hDc rfl rfl [.int p1]) rfl rfl hl.1 rfl (lv_room (Nat.le_of_ble_eq_true rfl)) dX9_totalOfProduct_111 ⟨Nat.le_of_ble_eq_true rfl, Nat.le_of_ble_eq_true rfl⟩) (va_free hD hS hA [0, 1] rfl) (fun w30 => (zjs (wn := (mW q v cJ V ib dn rf mk th_6 ++ ([(w10, .inl (cJ, 121, .inr (.inl r8))), (w15, .inl (cJ, 121, .inr (.inl r13))), (w27, .inl (cJ, 121, .inr (.inl r25))), (w30, .inl (cJ, 121, .inr (.inl r28)))] ++ (sW sb18 cB bv24 bc_20 bf_21 false bn_22)))) [5, 6, 0, 1, 2, 7, 3, 4] (zjF (wr := ([(w10, .inl (cJ, 121, .inr (.inl r8))), (w15, .inl (cJ, 121, .inr (.inl r13))), (w27, .inl (cJ, 121, .inr (.inl r25)))] ++ (sW sb18 cB bv24 bc_20 bf_21 false bn_22))) hP hD hS hA [0, 1] [2, 3, 4, 5, 6] rfl rfl (by decide) (by decide)) rfl (by decide))) hS (fun w30 H locs hP hD hS => ?_)
            replace hP : va_P D vwCl (mW q v cJ V ib dn rf mk th_6 ++ ([(w10, .inl (cJ, 121, .inr (.inl r8))), (w15, .inl (cJ, 121, .inr (.inl r13))), (w27, .inl (cJ, 121, .inr (.inl r25))), (w30, .inl (cJ, 121, .inr (.inl r28)))] ++ (sW sb18 cB bv24 bc_20 bf_21 false bn_22))) H := hP
            replace hD : va_D A (mW q v cJ V ib dn rf mk th_6 ++ ([(w10, .inl (cJ, 121, .inr (.inl r8))), (w15, .inl (cJ, 121, .inr (.inl r13))), (w27, .inl (cJ, 121, .inr (.inl r25))), (w30, .inl (cJ, 121, .inr (.inl r28)))] ++ (sW sb18 cB bv24 bc_20 bf_21 false bn_22))) := hD
            obtain ⟨r31, ib_32, e33, h⟩ := zb2_some h
            have hPc := zsub (wn := (mW q v cJ V ib dn rf mk th_6 ++ ([(w27, .inl (cJ, 121, .inr (.inl r25))), (w30, .inl (cJ, 121, .inr (.inl r28)))]))) hP [0, 1, 4, 5] rfl
            have hDc := hD.sub (ws' := (mW q v cJ V ib dn rf mk th_6 ++ ([(w27, .inl (cJ, 121, .inr (.inl r25))), (w30, .inl (cJ, 121, .inr (.inl r28)))]))) [0, 1, 4, 5] (by decide) rfl
            refine zgon (va_runV (As := [.ref w27, .ref w30]) (rest := [.ref q, .ref sb18]) ⟨hx, hb, hml, hown, hts⟩ (c_X9_product l D q v cJ cI cO cB V ib dn rf mk th_6 F w27 r25 w30 r28 r31 ib_32 e33 H.size) (cwV 2 hts gX9_totalOfProduct_X9_product rfl rfl rfl hdV_X9_product ⟨Nat.le_of_ble_eq_true rfl, Nat.le_of_ble_eq_true rfl⟩) (zpreV (q0 := 0) (ci := 9) (T := TX9) (N := 6) hK hPc hDc rfl rfl [.ref w27, .ref w30]) rfl rfl hl.1 rfl (lv_room (Nat.le_of_ble_eq_true rfl)) dX9_totalOfProduct_114 ⟨Nat.le_of_ble_eq_true rfl, Nat.le_of_ble_eq_true rfl⟩) (va_free hD hS hA [0, 1, 4, 5] rfl) (fun w34 => (zjs (wn := (mW q v cJ V ib_32 dn rf mk th_6 ++ ([(w10, .inl (cJ, 121, .inr (.inl r8))), (w15, .inl (cJ, 121, .inr (.inl r13))), (w27, .inl (cJ, 121, .inr (.inl r25))), (w30, .inl (cJ, 121, .inr (.inl r28))), (w34, .inl (cJ, 121, .inr (.inl r31)))] ++ (sW sb18 cB bv24 bc_20 bf_21 false bn_22)))) [4, 5, 0, 1, 6, 7, 8, 2, 3] (zjF (wr := ([(w10, .inl (cJ, 121, .inr (.inl r8))), (w15, .inl (cJ, 121, .inr (.inl r13)))] ++ (sW sb18 cB bv24 bc_20 bf_21 false bn_22))) hP hD hS hA [0, 1, 4, 5] [2, 3, 6, 7] rfl rfl (by decide) (by decide)) rfl (by decide))) hS (fun w34 H locs hP hD hS => ?_)
            replace hP : va_P D vwCl (mW q v cJ V ib_32 dn rf mk th_6 ++ ([(w10, .inl (cJ, 121, .inr (.inl r8))), (w15, .inl (cJ, 121, .inr (.inl r13))), (w27, .inl (cJ, 121, .inr (.inl r25))), (w30, .inl (cJ, 121, .inr (.inl r28))), (w34, .inl (cJ, 121, .inr (.inl r31)))] ++ (sW sb18 cB bv24 bc_20 bf_21 false bn_22))) H := hP
            replace hD : va_D A (mW q v cJ V ib_32 dn rf mk th_6 ++ ([(w10, .inl (cJ, 121, .inr (.inl r8))), (w15, .inl (cJ, 121, .inr (.inl r13))), (w27, .inl (cJ, 121, .inr (.inl r25))), (w30, .inl (cJ, 121, .inr (.inl r28))), (w34, .inl (cJ, 121, .inr (.inl r31)))] ++ (sW sb18 cB bv24 bc_20 bf_21 false bn_22))) := hD
            refine lv_iload_n hx hb dX9_totalOfProduct_117 rfl (lv_at hl 3 rfl) ?_
            obtain ⟨r35, ib_36, e37, h⟩ := zb2_some h
            have hPc := zsub (wn := (mW q v cJ V ib_32 dn rf mk th_6 ++ ([(w34, .inl (cJ, 121, .inr (.inl r31)))]))) hP [0, 1, 6] rfl
            have hDc := hD.sub (ws' := (mW q v cJ V ib_32 dn rf mk th_6 ++ ([(w34, .inl (cJ, 121, .inr (.inl r31)))]))) [0, 1, 6] (by decide) rfl
            refine zgol (va_runV (As := [.ref w34, .int p2]) (rest := [.ref sb18]) ⟨hx, hb, hml, hown, hts⟩ (c_X9_totalOf l D q v cJ cI cO cB V ib_32 dn rf mk th_6 F w34 r31 p2 r35 ib_36 e37 H.size) (cwV 2 hts gX9_totalOfProduct_X9_totalOf rfl rfl rfl hdV_X9_totalOf ⟨Nat.le_of_ble_eq_true rfl, Nat.le_of_ble_eq_true rfl⟩) (zpreV (q0 := 0) (ci := 9) (T := TX9) (N := 6) hK hPc hDc rfl rfl [.ref w34, .int p2]) rfl rfl hl.1 rfl (lv_room (Nat.le_of_ble_eq_true rfl)) dX9_totalOfProduct_118 ⟨Nat.le_of_ble_eq_true rfl, Nat.le_of_ble_eq_true rfl⟩) (va_free hD hS hA [0, 1, 6] rfl) (zjs (wn := (mW q v cJ V ib_36 dn rf mk th_6 ++ ([(w10, .inl (cJ, 121, .inr (.inl r8))), (w15, .inl (cJ, 121, .inr (.inl r13))), (w27, .inl (cJ, 121, .inr (.inl r25))), (w30, .inl (cJ, 121, .inr (.inl r28))), (w34, .inl (cJ, 121, .inr (.inl r31)))] ++ (sW sb18 cB bv24 bc_20 bf_21 false bn_22)))) [6, 7, 0, 1, 2, 3, 8, 4, 5] (zjF (wr := ([(w10, .inl (cJ, 121, .inr (.inl r8))), (w15, .inl (cJ, 121, .inr (.inl r13))), (w27, .inl (cJ, 121, .inr (.inl r25))), (w30, .inl (cJ, 121, .inr (.inl r28)))] ++ (sW sb18 cB bv24 bc_20 bf_21 false bn_22))) hP hD hS hA [0, 1, 6] [2, 3, 4, 5, 7, 8] rfl rfl (by decide) (by decide)) rfl (by decide)) hS (fun H locs hP hD hS => ?_)
            replace hP : va_P D vwCl (mW q v cJ V ib_36 dn rf mk th_6 ++ ([(w10, .inl (cJ, 121, .inr (.inl r8))), (w15, .inl (cJ, 121, .inr (.inl r13))), (w27, .inl (cJ, 121, .inr (.inl r25))), (w30, .inl (cJ, 121, .inr (.inl r28))), (w34, .inl (cJ, 121, .inr (.inl r31)))] ++ (sW sb18 cB bv24 bc_20 bf_21 false bn_22))) H := hP
            replace hD : va_D A (mW q v cJ V ib_36 dn rf mk th_6 ++ ([(w10, .inl (cJ, 121, .inr (.inl r8))), (w15, .inl (cJ, 121, .inr (.inl r13))), (w27, .inl (cJ, 121, .inr (.inl r25))), (w30, .inl (cJ, 121, .inr (.inl r28))), (w34, .inl (cJ, 121, .inr (.inl r31)))] ++ (sW sb18 cB bv24 bc_20 bf_21 false bn_22))) := hD
            obtain ⟨bc_38, bf_39, bn_40, e41, h⟩ := zb3_some h
            have hPc := zsub (wn := (sW sb18 cB bv24 bc_20 bf_21 false bn_22)) hP [7, 8] rfl
            have hDc := hD.sub (ws' := (sW sb18 cB bv24 bc_20 bf_21 false bn_22)) [7, 8] (by decide) rfl
            refine zgosr (va_runV (As := [.long r35]) (rest := []) ⟨hx, hb, hml, hown, hts⟩ (c_J4_append_f7089 l D sb18 cJ cI cO cB bv24 bc_20 bf_21 false bn_22 F r35 bc_38 bf_39 bn_40 e41 H.size) (cwV 1 hts gX9_totalOfProduct_J4_append_f7089 rfl rfl rfl hdV_J4_append_f7089 ⟨Nat.le_of_ble_eq_true rfl, Nat.le_of_ble_eq_true rfl⟩) (zxpreV hE hS (va_free hD hS hA [7, 8] rfl) (q0 := 0) (ci := 1) (T := TJ4) (N := 4) hK hPc hDc rfl rfl [.long r35]) rfl rfl hl.1 rfl (lv_room (Nat.le_of_ble_eq_true rfl)) dX9_totalOfProduct_121 ⟨Nat.le_of_ble_eq_true rfl, Nat.le_of_ble_eq_true rfl⟩) (va_free hD hS hA [7, 8] rfl) (fun bv42 => (zjs (wn := (mW q v cJ V ib_36 dn rf mk th_6 ++ ([(w10, .inl (cJ, 121, .inr (.inl r8))), (w15, .inl (cJ, 121, .inr (.inl r13))), (w27, .inl (cJ, 121, .inr (.inl r25))), (w30, .inl (cJ, 121, .inr (.inl r28))), (w34, .inl (cJ, 121, .inr (.inl r31)))] ++ (sW sb18 cB bv42 bc_38 bf_39 false bn_40)))) [0, 1, 2, 3, 4, 5, 6, 7, 8] (zjF (wr := (mW q v cJ V ib_36 dn rf mk th_6 ++ ([(w10, .inl (cJ, 121, .inr (.inl r8))), (w15, .inl (cJ, 121, .inr (.inl r13))), (w27, .inl (cJ, 121, .inr (.inl r25))), (w30, .inl (cJ, 121, .inr (.inl r28))), (w34, .inl (cJ, 121, .inr (.inl r31)))]))) hP hD hS hA [7, 8] [0, 1, 2, 3, 4, 5, 6] rfl rfl (by decide) (by decide)) rfl (by decide))) hS (fun bv42 H locs hP hD hS => ?_)
            replace hP : va_P D vwCl (mW q v cJ V ib_36 dn rf mk th_6 ++ ([(w10, .inl (cJ, 121, .inr (.inl r8))), (w15, .inl (cJ, 121, .inr (.inl r13))), (w27, .inl (cJ, 121, .inr (.inl r25))), (w30, .inl (cJ, 121, .inr (.inl r28))), (w34, .inl (cJ, 121, .inr (.inl r31)))] ++ (sW sb18 cB bv42 bc_38 bf_39 false bn_40))) H := hP
            replace hD : va_D A (mW q v cJ V ib_36 dn rf mk th_6 ++ ([(w10, .inl (cJ, 121, .inr (.inl r8))), (w15, .inl (cJ, 121, .inr (.inl r13))), (w27, .inl (cJ, 121, .inr (.inl r25))), (w30, .inl (cJ, 121, .inr (.inl r28))), (w34, .inl (cJ, 121, .inr (.inl r31)))] ++ (sW sb18 cB bv42 bc_38 bf_39 false bn_40))) := hD
            obtain ⟨r45, r46, e47, h⟩ := zb2_some h
            have hPc := zsub (wn := ([(sb18, .inr (1, [.ref bv42, .int 0, .int (z01 false), .int bn_40])), (bv42, .inl (cB, bc_38, .inl bf_39))] : va_W)) hP [7, 8] rfl
            have hDc := hD.sub (ws' := ([(sb18, .inr (1, [.ref bv42, .int 0, .int (z01 false), .int bn_40])), (bv42, .inl (cB, bc_38, .inl bf_39))] : va_W)) [7, 8] (by decide) rfl
            refine zgoss (va_runV (As := []) (rest := []) ⟨hx, hb, hml, hown, hts⟩ (c_J4_toString_0e30d l D cJ cI cO cB sb18 bv42 bc_38 bf_39 false bn_40 r45 r46 e47 H.size) (cwV 0 hts gX9_totalOfProduct_J4_toString_0e30d rfl rfl rfl hdV_J4_toString_0e30d ⟨Nat.le_of_ble_eq_true rfl, Nat.le_of_ble_eq_true rfl⟩) (zxpreV hE hS (va_free hD hS hA [7, 8] rfl) (q0 := 0) (ci := 1) (T := TJ4) (N := 4) hK hPc hDc rfl rfl []) rfl rfl hl.1 rfl (lv_room (Nat.le_of_ble_eq_true rfl)) dX9_totalOfProduct_124 ⟨Nat.le_of_ble_eq_true rfl, Nat.le_of_ble_eq_true rfl⟩) (va_free hD hS hA [7, 8] rfl) (fun s43 u44 => zjs (wn := (mW q v cJ V ib_36 dn rf mk th_6 ++ ([(w10, .inl (cJ, 121, .inr (.inl r8))), (w15, .inl (cJ, 121, .inr (.inl r13))), (w27, .inl (cJ, 121, .inr (.inl r25))), (w30, .inl (cJ, 121, .inr (.inl r28))), (w34, .inl (cJ, 121, .inr (.inl r31))), (s43, .inr (0, [.ref u44, .int 0, .int 0, .int 0])), (u44, .inl (cB, r45, .inl r46))]))) [0, 1, 2, 3, 4, 5, 6, 7, 8] (zjF (wr := (mW q v cJ V ib_36 dn rf mk th_6 ++ ([(w10, .inl (cJ, 121, .inr (.inl r8))), (w15, .inl (cJ, 121, .inr (.inl r13))), (w27, .inl (cJ, 121, .inr (.inl r25))), (w30, .inl (cJ, 121, .inr (.inl r28))), (w34, .inl (cJ, 121, .inr (.inl r31)))]))) hP hD hS hA [7, 8] [0, 1, 2, 3, 4, 5, 6] rfl rfl (by decide) (by decide)) rfl (by decide)) hS (fun s43 u44 H locs hP hD hS => ?_)
            replace hP : va_P D vwCl (mW q v cJ V ib_36 dn rf mk th_6 ++ ([(w10, .inl (cJ, 121, .inr (.inl r8))), (w15, .inl (cJ, 121, .inr (.inl r13))), (w27, .inl (cJ, 121, .inr (.inl r25))), (w30, .inl (cJ, 121, .inr (.inl r28))), (w34, .inl (cJ, 121, .inr (.inl r31))), (s43, .inr (0, [.ref u44, .int 0, .int 0, .int 0])), (u44, .inl (cB, r45, .inl r46))])) H := hP
            replace hD : va_D A (mW q v cJ V ib_36 dn rf mk th_6 ++ ([(w10, .inl (cJ, 121, .inr (.inl r8))), (w15, .inl (cJ, 121, .inr (.inl r13))), (w27, .inl (cJ, 121, .inr (.inl r25))), (w30, .inl (cJ, 121, .inr (.inl r28))), (w34, .inl (cJ, 121, .inr (.inl r31))), (s43, .inr (0, [.ref u44, .int 0, .int 0, .int 0])), (u44, .inl (cB, r45, .inl r46))])) := hD
            have g0 := Option.some.inj h
            obtain ⟨h1, g1⟩ := Prod.mk.inj g0
            subst h1
            subst g1
            replace hP := zsub (wn := (mW q v cJ V ib_36 dn rf mk th_6)) hP [0, 1] rfl
            replace hD := hD.sub (ws' := (mW q v cJ V ib_36 dn rf mk th_6)) [0, 1] (by decide) rfl
            exact W.aret (v := .ref s43) hx hb hr (Or.inl ⟨_, rfl⟩) (Or.inr ⟨_, rfl⟩) (fun t ht hW => ⟨⟨(), s43, rfl, trivial, by rw [ht]; exact hP, va_K.moved hW.alike hK, hD⟩, hS.F ht⟩) hS.2.2 dX9_totalOfProduct_127
          · replace h := zif_f h c79
            refine lv_aload_n hx hb dX9_totalOfProduct_82 rfl (lv_at hl 0 rfl) ?_
            refine lv_iconst (v := (3 : Int32)) hx hb dX9_totalOfProduct_83 (by decide) ?_
            refine va_put (D := D) (ci := 9) (v := .int (3 : Int32)) (ty := .int) (C := RX9) (T := TX9) (N := 6) hx hb hts kwX9 tyX9 tyX9_ok nmX9 hown hK hP hD hS 0 rfl rfl 5 (by decide) kf_13 (fun _ h9 => h9) rfl rfl rfl rfl (Nat.le_of_ble_eq_true rfl) dX9_totalOfProduct_84 (fun H locs hP hD hS => ?_)
            replace hP : va_P D vwCl (mW q v cJ V ib dn rf mk (3 : Int32) ++ ([(w10, .inl (cJ, 121, .inr (.inl r8))), (w15, .inl (cJ, 121, .inr (.inl r13)))])) H := hP
            replace hD : va_D A (mW q v cJ V ib dn rf mk (3 : Int32) ++ ([(w10, .inl (cJ, 121, .inr (.inl r8))), (w15, .inl (cJ, 121, .inr (.inl r13)))])) := hD
            refine va_ldcS hx hb hown hR133 dX9_totalOfProduct_87 ?_
            have g0 := Option.some.inj h
            obtain ⟨h1, g1⟩ := Prod.mk.inj g0
            subst h1
            subst g1
            replace hP := zsub (wn := (mW q v cJ V ib dn rf mk (3 : Int32))) hP [0, 1] rfl
            replace hD := hD.sub (ws' := (mW q v cJ V ib dn rf mk (3 : Int32))) [0, 1] (by decide) rfl
            refine W.widen (k := 11) (n := 1079) (by decide) (by decide) ?_
            exact W.aret (v := .ref st133) hx hb hr (Or.inl ⟨_, rfl⟩) (Or.inr ⟨_, rfl⟩) (fun t ht hW => ⟨⟨(), st133, rfl, trivial, by rw [ht]; exact hP, va_K.moved hW.alike hK, hD⟩, hS.F ht⟩) hS.2.2 dX9_totalOfProduct_89
      · replace h := zif_f h c48
        refine va_ldcS hx hb hown hR133 dX9_totalOfProduct_51 ?_
        have g0 := Option.some.inj h
        obtain ⟨h1, g1⟩ := Prod.mk.inj g0
        subst h1
        subst g1
        refine W.widen (k := 11) (n := 1079) (by decide) (by decide) ?_
        exact W.aret (v := .ref st133) hx hb hr (Or.inl ⟨_, rfl⟩) (Or.inr ⟨_, rfl⟩) (fun t ht hW => ⟨⟨(), st133, rfl, trivial, by rw [ht]; exact hP, va_K.moved hW.alike hK, hD⟩, hS.F ht⟩) hS.2.2 dX9_totalOfProduct_53
    replace h := zlt_h h
    refine lv_if_eq (tgt := 44) hx hb dX9_totalOfProduct_27 (by decide) (fun c27 => ?_) (fun c27 => ?_)
    · replace h := zif_t h c27
      exact hGW _ _ _ _ _ (J1  _ _ ls hP hD hS (lv_sub hl [0, 1, 2, 3, 4] rfl) h)
    · replace h := zif_f h c27
      refine lv_iload hx hb dX9_totalOfProduct_30 (lv_at hl 4 rfl) ?_
      refine lv_iconst (v := (0 : Int32)) hx hb dX9_totalOfProduct_32 (by decide) ?_
      refine lv_iconst (v := (2 : Int32)) hx hb dX9_totalOfProduct_33 (by decide) ?_
      obtain ⟨r48, e49, h⟩ := zb1_some h
      refine zgoi (va_runS (As := [.int p3, .int (0 : Int32), .int (2 : Int32)]) (rest := [.int (0 : Int32), .ref q]) ⟨hx, hb, hml, hown, hts⟩ (c_X9_isIn l D (zT cJ cI cO cB) p3 (0 : Int32) (2 : Int32) r48 e49 H.size) (va_cwS 3 hts gX9_totalOfProduct_X9_isIn rfl rfl rfl hdS_X9_isIn ⟨Nat.le_of_ble_eq_true rfl, Nat.le_of_ble_eq_true rfl⟩) (zpreS hK zP0 (zD0 (A := A)) [.int p3, .int (0 : Int32), .int (2 : Int32)]) rfl rfl hl.1 rfl (lv_room (Nat.le_of_ble_eq_true rfl)) dX9_totalOfProduct_34 ⟨Nat.le_of_ble_eq_true rfl, Nat.le_of_ble_eq_true rfl⟩) (zf0 hS hA) (zjE hP hD) hS (fun H locs hP hD hS => ?_)
      refine lv_if_eq (tgt := 44) hx hb dX9_totalOfProduct_37 (by decide) (fun c37 => ?_) (fun c37 => ?_)
      · replace h := zif_t h c37
        exact hGW _ _ _ _ _ (J1  _ _ ls hP hD hS (lv_sub hl [0, 1, 2, 3, 4] rfl) h)
      · replace h := zif_f h c37
        refine lv_iconst (v := (1 : Int32)) hx hb dX9_totalOfProduct_40 (by decide) ?_
        refine lv_goto (tgt := 45) hx hb dX9_totalOfProduct_41 (by decide) ?_
        obtain ⟨r50, th_51, e52, h⟩ := zb2_some h
        refine zgoi (va_runV (As := [.int (0 : Int32), .int (1 : Int32)]) (rest := []) ⟨hx, hb, hml, hown, hts⟩ (c_X9_isThrown l D q v cJ cI cO cB V ib dn rf mk th false true r50 th_51 e52 H.size) (cwV 2 hts gX9_totalOfProduct_X9_isThrown rfl rfl rfl hdV_X9_isThrown ⟨Nat.le_of_ble_eq_true rfl, Nat.le_of_ble_eq_true rfl⟩) (zpreV (q0 := 0) (ci := 9) (T := TX9) (N := 6) hK hP hD rfl rfl [.int (0 : Int32), .int (1 : Int32)]) rfl rfl hl.1 rfl (lv_room (Nat.le_of_ble_eq_true rfl)) dX9_totalOfProduct_45 ⟨Nat.le_of_ble_eq_true rfl, Nat.le_of_ble_eq_true rfl⟩) (zfree hD hS hA) (zjW hD hS hA) hS (fun H locs hP hD hS => ?_)
        replace hP : va_P D vwCl (mW q v cJ V ib dn rf mk th_51) H := hP
        replace hD : va_D A (mW q v cJ V ib dn rf mk th_51) := hD
        refine lv_if_eq (tgt := 54) hx hb dX9_totalOfProduct_48 (by decide) (fun c48 => ?_) (fun c48 => ?_)
        · replace h := zif_t h c48
          refine lv_aload_n hx hb dX9_totalOfProduct_54 rfl (lv_at hl 0 rfl) ?_
          refine lv_iload_n hx hb dX9_totalOfProduct_55 rfl (lv_at hl 1 rfl) ?_
          obtain ⟨r53, e54, h⟩ := zb1_some h
          refine zgon (va_runV (As := [.int p0]) (rest := []) ⟨hx, hb, hml, hown, hts⟩ (c_X9_of l D q v cJ cI cO cB V ib dn rf mk th_51 F p0 r53 e54 H.size) (cwV 1 hts gX9_totalOfProduct_X9_of rfl rfl rfl hdV_X9_of ⟨Nat.le_of_ble_eq_true rfl, Nat.le_of_ble_eq_true rfl⟩) (zpreV (q0 := 0) (ci := 9) (T := TX9) (N := 6) hK hP hD rfl rfl [.int p0]) rfl rfl hl.1 rfl (lv_room (Nat.le_of_ble_eq_true rfl)) dX9_totalOfProduct_56 ⟨Nat.le_of_ble_eq_true rfl, Nat.le_of_ble_eq_true rfl⟩) (zfree hD hS hA) (fun _ => zjW hD hS hA) hS (fun w55 H locs hP hD hS => ?_)
          replace hP : va_P D vwCl (mW q v cJ V ib dn rf mk th_51 ++ ([(w55, .inl (cJ, 121, .inr (.inl r53)))])) H := hP
          replace hD : va_D A (mW q v cJ V ib dn rf mk th_51 ++ ([(w55, .inl (cJ, 121, .inr (.inl r53)))])) := hD
          refine lv_iload_n hx hb dX9_totalOfProduct_59 rfl (lv_at hl 3 rfl) ?_
          refine lv_ldc hx hb hown kc_157 dX9_totalOfProduct_60 ?_
          obtain ⟨r56, e57, h⟩ := zb1_some h
          have hPc := zsub (wn := ([(w55, .inl (cJ, 121, .inr (.inl r53)))] : va_W)) hP [2] rfl
          have hDc := hD.sub (ws' := ([(w55, .inl (cJ, 121, .inr (.inl r53)))] : va_W)) [2] (by decide) rfl
          refine zgoi (va_runS (As := [.ref w55, .int p2, .int (1000000 : Int32)]) (rest := []) ⟨hx, hb, hml, hown, hts⟩ (c_X9_isGreat l D cJ cI cO cB F w55 r53 p2 (1000000 : Int32) r56 e57 H.size) (va_cwS 3 hts gX9_totalOfProduct_X9_isGreat rfl rfl rfl hdS_X9_isGreat ⟨Nat.le_of_ble_eq_true rfl, Nat.le_of_ble_eq_true rfl⟩) (zpreS hK hPc hDc [.ref w55, .int p2, .int (1000000 : Int32)]) rfl rfl hl.1 rfl (lv_room (Nat.le_of_ble_eq_true rfl)) dX9_totalOfProduct_62 ⟨Nat.le_of_ble_eq_true rfl, Nat.le_of_ble_eq_true rfl⟩) (va_free hD hS hA [2] rfl) (zjs (wn := (mW q v cJ V ib dn rf mk th_51 ++ ([(w55, .inl (cJ, 121, .inr (.inl r53)))]))) [0, 1, 2] (zjF (wr := (mW q v cJ V ib dn rf mk th_51)) hP hD hS hA [2] [0, 1] rfl rfl (by decide) (by decide)) rfl (by decide)) hS (fun H locs hP hD hS => ?_)
          replace hP : va_P D vwCl (mW q v cJ V ib dn rf mk th_51 ++ ([(w55, .inl (cJ, 121, .inr (.inl r53)))])) H := hP
          replace hD : va_D A (mW q v cJ V ib dn rf mk th_51 ++ ([(w55, .inl (cJ, 121, .inr (.inl r53)))])) := hD
          refine lv_if_ne (tgt := 82) hx hb dX9_totalOfProduct_65 (by decide) (fun c65 => ?_) (fun c65 => ?_)
          · replace h := zif_t h c65
            refine lv_aload_n hx hb dX9_totalOfProduct_82 rfl (lv_at hl 0 rfl) ?_
            refine lv_iconst (v := (3 : Int32)) hx hb dX9_totalOfProduct_83 (by decide) ?_
            refine va_put (D := D) (ci := 9) (v := .int (3 : Int32)) (ty := .int) (C := RX9) (T := TX9) (N := 6) hx hb hts kwX9 tyX9 tyX9_ok nmX9 hown hK hP hD hS 0 rfl rfl 5 (by decide) kf_13 (fun _ h9 => h9) rfl rfl rfl rfl (Nat.le_of_ble_eq_true rfl) dX9_totalOfProduct_84 (fun H locs hP hD hS => ?_)
            replace hP : va_P D vwCl (mW q v cJ V ib dn rf mk (3 : Int32) ++ ([(w55, .inl (cJ, 121, .inr (.inl r53)))])) H := hP
            replace hD : va_D A (mW q v cJ V ib dn rf mk (3 : Int32) ++ ([(w55, .inl (cJ, 121, .inr (.inl r53)))])) := hD
            refine va_ldcS hx hb hown hR133 dX9_totalOfProduct_87 ?_
            have g0 := Option.some.inj h
            obtain ⟨h1, g1⟩ := Prod.mk.inj g0
            subst h1
            subst g1
            replace hP := zsub (wn := (mW q v cJ V ib dn rf mk (3 : Int32))) hP [0, 1] rfl
            replace hD := hD.sub (ws' := (mW q v cJ V ib dn rf mk (3 : Int32))) [0, 1] (by decide) rfl
            refine W.widen (k := 11) (n := 1079) (by decide) (by decide) ?_
            exact W.aret (v := .ref st133) hx hb hr (Or.inl ⟨_, rfl⟩) (Or.inr ⟨_, rfl⟩) (fun t ht hW => ⟨⟨(), st133, rfl, trivial, by rw [ht]; exact hP, va_K.moved hW.alike hK, hD⟩, hS.F ht⟩) hS.2.2 dX9_totalOfProduct_89
          · replace h := zif_fn h c65
            refine lv_aload_n hx hb dX9_totalOfProduct_68 rfl (lv_at hl 0 rfl) ?_
            refine lv_iload_n hx hb dX9_totalOfProduct_69 rfl (lv_at hl 2 rfl) ?_
            obtain ⟨r58, e59, h⟩ := zb1_some h
            have hPc := zsub (wn := (mW q v cJ V ib dn rf mk th_51)) hP [0, 1] rfl
            have hDc := hD.sub (ws' := (mW q v cJ V ib dn rf mk th_51)) [0, 1] (by decide) rfl
            refine zgon (va_runV (As := [.int p1]) (rest := []) ⟨hx, hb, hml, hown, hts⟩ (c_X9_of l D q v cJ cI cO cB V ib dn rf mk th_51 F p1 r58 e59 H.size) (cwV 1 hts gX9_totalOfProduct_X9_of rfl rfl rfl hdV_X9_of ⟨Nat.le_of_ble_eq_true rfl, Nat.le_of_ble_eq_true rfl⟩) (zpreV (q0 := 0) (ci := 9) (T := TX9) (N := 6) hK hPc hDc rfl rfl [.int p1]) rfl rfl hl.1 rfl (lv_room (Nat.le_of_ble_eq_true rfl)) dX9_totalOfProduct_70 ⟨Nat.le_of_ble_eq_true rfl, Nat.le_of_ble_eq_true rfl⟩) (va_free hD hS hA [0, 1] rfl) (fun w60 => (zjs (wn := (mW q v cJ V ib dn rf mk th_51 ++ ([(w55, .inl (cJ, 121, .inr (.inl r53))), (w60, .inl (cJ, 121, .inr (.inl r58)))]))) [1, 2, 0, 3] (zjF (wr := ([(w55, .inl (cJ, 121, .inr (.inl r53)))] : va_W)) hP hD hS hA [0, 1] [2] rfl rfl (by decide) (by decide)) rfl (by decide))) hS (fun w60 H locs hP hD hS => ?_)
            replace hP : va_P D vwCl (mW q v cJ V ib dn rf mk th_51 ++ ([(w55, .inl (cJ, 121, .inr (.inl r53))), (w60, .inl (cJ, 121, .inr (.inl r58)))])) H := hP
            replace hD : va_D A (mW q v cJ V ib dn rf mk th_51 ++ ([(w55, .inl (cJ, 121, .inr (.inl r53))), (w60, .inl (cJ, 121, .inr (.inl r58)))])) := hD
            refine lv_iload_n hx hb dX9_totalOfProduct_73 rfl (lv_at hl 3 rfl) ?_
            refine lv_ldc hx hb hown kc_157 dX9_totalOfProduct_74 ?_
            obtain ⟨r61, e62, h⟩ := zb1_some h
            have hPc := zsub (wn := ([(w60, .inl (cJ, 121, .inr (.inl r58)))] : va_W)) hP [3] rfl
            have hDc := hD.sub (ws' := ([(w60, .inl (cJ, 121, .inr (.inl r58)))] : va_W)) [3] (by decide) rfl
            refine zgoi (va_runS (As := [.ref w60, .int p2, .int (1000000 : Int32)]) (rest := []) ⟨hx, hb, hml, hown, hts⟩ (c_X9_isGreat l D cJ cI cO cB F w60 r58 p2 (1000000 : Int32) r61 e62 H.size) (va_cwS 3 hts gX9_totalOfProduct_X9_isGreat rfl rfl rfl hdS_X9_isGreat ⟨Nat.le_of_ble_eq_true rfl, Nat.le_of_ble_eq_true rfl⟩) (zpreS hK hPc hDc [.ref w60, .int p2, .int (1000000 : Int32)]) rfl rfl hl.1 rfl (lv_room (Nat.le_of_ble_eq_true rfl)) dX9_totalOfProduct_76 ⟨Nat.le_of_ble_eq_true rfl, Nat.le_of_ble_eq_true rfl⟩) (va_free hD hS hA [3] rfl) (zjs (wn := (mW q v cJ V ib dn rf mk th_51 ++ ([(w55, .inl (cJ, 121, .inr (.inl r53))), (w60, .inl (cJ, 121, .inr (.inl r58)))]))) [0, 1, 2, 3] (zjF (wr := (mW q v cJ V ib dn rf mk th_51 ++ ([(w55, .inl (cJ, 121, .inr (.inl r53)))]))) hP hD hS hA [3] [0, 1, 2] rfl rfl (by decide) (by decide)) rfl (by decide)) hS (fun H locs hP hD hS => ?_)
            replace hP : va_P D vwCl (mW q v cJ V ib dn rf mk th_51 ++ ([(w55, .inl (cJ, 121, .inr (.inl r53))), (w60, .inl (cJ, 121, .inr (.inl r58)))])) H := hP
            replace hD : va_D A (mW q v cJ V ib dn rf mk th_51 ++ ([(w55, .inl (cJ, 121, .inr (.inl r53))), (w60, .inl (cJ, 121, .inr (.inl r58)))])) := hD
            refine lv_if_eq (tgt := 90) hx hb dX9_totalOfProduct_79 (by decide) (fun c79 => ?_) (fun c79 => ?_)
            · replace h := zif_t h c79
              refine va_new (ci := 1) (fs := [.null, .int 0, .int 0, .int 0]) (C := RJ4) (T := TJ4) (N := 4) hx hb hts kwJ4 tyJ4 tyJ4_ok hown kc_135 kin_J4 kii_J4 hK hP hD hS hA rfl (fun j hj => by rcases (show j = 0 ∨ j = 1 ∨ j = 2 ∨ j = 3 by omega) with rfl | rfl | rfl | rfl <;> rfl) (Nat.le_of_ble_eq_true rfl) (Nat.le_of_ble_eq_true rfl) dX9_totalOfProduct_90 (fun sb63 H hP hD hS => ?_)
              replace hP : va_P D vwCl ((mW q v cJ V ib dn rf mk th_51 ++ ([(w55, .inl (cJ, 121, .inr (.inl r53))), (w60, .inl (cJ, 121, .inr (.inl r58)))])) ++ [(sb63, .inr (1, [.null, .int 0, .int 0, .int 0]))]) H := hP
              replace hD : va_D A ((mW q v cJ V ib dn rf mk th_51 ++ ([(w55, .inl (cJ, 121, .inr (.inl r53))), (w60, .inl (cJ, 121, .inr (.inl r58)))])) ++ [(sb63, .inr (1, [.null, .int 0, .int 0, .int 0]))]) := hD
              refine lv_dup hx hb dX9_totalOfProduct_93 rfl ?_
              have hPc := zsub (wn := ([(sb63, .inr (1, [.null, .int 0, .int 0, .int 0]))] : va_W)) hP [4] rfl
              have hDc := hD.sub (ws' := ([(sb63, .inr (1, [.null, .int 0, .int 0, .int 0]))] : va_W)) [4] (by decide) rfl
              refine zgoc (va_runI (As := []) (rest := [.ref sb63]) ⟨hx, hb, hml, hown, hts⟩ (c_J4_init_da8c8 l D cJ cI cO cB sb63 H.size) (cwI 0 hts gX9_totalOfProduct_J4_init_da8c8 rfl rfl rfl kii_J4 km_137 kim_J4i rfl (by decide +kernel) ⟨Nat.le_of_ble_eq_true rfl, Nat.le_of_ble_eq_true rfl⟩) (zxpreS hE hS (va_free hD hS hA [4] rfl) hK hPc hDc [.ref sb63]) rfl rfl hl.1 rfl (lv_room (Nat.le_of_ble_eq_true rfl)) dX9_totalOfProduct_94 ⟨Nat.le_of_ble_eq_true rfl, Nat.le_of_ble_eq_true rfl⟩) (va_free hD hS hA [4] rfl) (fun u => zjF (wr := (mW q v cJ V ib dn rf mk th_51 ++ ([(w55, .inl (cJ, 121, .inr (.inl r53))), (w60, .inl (cJ, 121, .inr (.inl r58)))]))) hP hD hS hA [4] [0, 1, 2, 3] rfl rfl (by decide) (by decide)) hS (fun u64 H locs hP hD hS => ?_)
              replace hP : va_P D vwCl (mW q v cJ V ib dn rf mk th_51 ++ ([(w55, .inl (cJ, 121, .inr (.inl r53))), (w60, .inl (cJ, 121, .inr (.inl r58)))] ++ (sW sb63 cB (u64 0) 16 (fun _ => 0) false 0))) H := hP
              replace hD : va_D A (mW q v cJ V ib dn rf mk th_51 ++ ([(w55, .inl (cJ, 121, .inr (.inl r53))), (w60, .inl (cJ, 121, .inr (.inl r58)))] ++ (sW sb63 cB (u64 0) 16 (fun _ => 0) false 0))) := hD
              refine va_ldcS hx hb hown hR133 dX9_totalOfProduct_97 ?_
              obtain ⟨bc_65, bf_66, bn_67, e68, h⟩ := zb3_some h
              have hPc := zsub (wn := (sW sb63 cB (u64 0) 16 (fun _ => 0) false 0)) hP [4, 5] rfl
              have hDc := hD.sub (ws' := (sW sb63 cB (u64 0) 16 (fun _ => 0) false 0)) [4, 5] (by decide) rfl
              refine zgosr (va_runV (As := [.ref st133]) (rest := []) ⟨hx, hb, hml, hown, hts⟩ (c_J4_append_15ec4 l D sb63 cJ cI cO cB (u64 0) 16 (fun _ => 0) false 0 st133 0 (zbt 133) bc_65 bf_66 bn_67 e68 H.size) (cwV 1 hts gX9_totalOfProduct_J4_append_15ec4 rfl rfl rfl hdV_J4_append_15ec4 ⟨Nat.le_of_ble_eq_true rfl, Nat.le_of_ble_eq_true rfl⟩) (zspreV hE (zSt.here hst_st133 hS (va_free hD hS hA [4, 5] rfl)) hS (va_free hD hS hA [4, 5] rfl) (q0 := 0) (ci := 1) (T := TJ4) (N := 4) hK hPc hDc rfl rfl [.ref st133]) rfl rfl hl.1 rfl (lv_room (Nat.le_of_ble_eq_true rfl)) dX9_totalOfProduct_99 ⟨Nat.le_of_ble_eq_true rfl, Nat.le_of_ble_eq_true rfl⟩) (va_free hD hS hA [4, 5] rfl) (fun bv69 => (zjs (wn := (mW q v cJ V ib dn rf mk th_51 ++ ([(w55, .inl (cJ, 121, .inr (.inl r53))), (w60, .inl (cJ, 121, .inr (.inl r58)))] ++ (sW sb63 cB bv69 bc_65 bf_66 false bn_67)))) [0, 1, 2, 3, 4, 5] (zjF (wr := (mW q v cJ V ib dn rf mk th_51 ++ ([(w55, .inl (cJ, 121, .inr (.inl r53))), (w60, .inl (cJ, 121, .inr (.inl r58)))]))) hP hD hS hA [4, 5] [0, 1, 2, 3] rfl rfl (by decide) (by decide)) rfl (by decide))) hS (fun bv69 H locs hP hD hS => ?_)
              replace hP : va_P D vwCl (mW q v cJ V ib dn rf mk th_51 ++ ([(w55, .inl (cJ, 121, .inr (.inl r53))), (w60, .inl (cJ, 121, .inr (.inl r58)))] ++ (sW sb63 cB bv69 bc_65 bf_66 false bn_67))) H := hP
              replace hD : va_D A (mW q v cJ V ib dn rf mk th_51 ++ ([(w55, .inl (cJ, 121, .inr (.inl r53))), (w60, .inl (cJ, 121, .inr (.inl r58)))] ++ (sW sb63 cB bv69 bc_65 bf_66 false bn_67))) := hD
              refine lv_aload_n hx hb dX9_totalOfProduct_102 rfl (lv_at hl 0 rfl) ?_
              refine lv_aload_n hx hb dX9_totalOfProduct_103 rfl (lv_at hl 0 rfl) ?_
              refine lv_aload_n hx hb dX9_totalOfProduct_104 rfl (lv_at hl 0 rfl) ?_
              refine lv_iload_n hx hb dX9_totalOfProduct_105 rfl (lv_at hl 1 rfl) ?_
              obtain ⟨r70, e71, h⟩ := zb1_some h
              have hPc := zsub (wn := (mW q v cJ V ib dn rf mk th_51)) hP [0, 1] rfl
              have hDc := hD.sub (ws' := (mW q v cJ V ib dn rf mk th_51)) [0, 1] (by decide) rfl
              refine zgon (va_runV (As := [.int p0]) (rest := [.ref q, .ref q, .ref sb63]) ⟨hx, hb, hml, hown, hts⟩ (c_X9_of l D q v cJ cI cO cB V ib dn rf mk th_51 F p0 r70 e71 H.size) (cwV 1 hts gX9_totalOfProduct_X9_of rfl rfl rfl hdV_X9_of ⟨Nat.le_of_ble_eq_true rfl, Nat.le_of_ble_eq_true rfl⟩) (zpreV (q0 := 0) (ci := 9) (T := TX9) (N := 6) hK hPc hDc rfl rfl [.int p0]) rfl rfl hl.1 rfl (lv_room (Nat.le_of_ble_eq_true rfl)) dX9_totalOfProduct_106 ⟨Nat.le_of_ble_eq_true rfl, Nat.le_of_ble_eq_true rfl⟩) (va_free hD hS hA [0, 1] rfl) (fun w72 => (zjs (wn := (mW q v cJ V ib dn rf mk th_51 ++ ([(w55, .inl (cJ, 121, .inr (.inl r53))), (w60, .inl (cJ, 121, .inr (.inl r58))), (w72, .inl (cJ, 121, .inr (.inl r70)))] ++ (sW sb63 cB bv69 bc_65 bf_66 false bn_67)))) [4, 5, 0, 1, 6, 2, 3] (zjF (wr := ([(w55, .inl (cJ, 121, .inr (.inl r53))), (w60, .inl (cJ, 121, .inr (.inl r58)))] ++ (sW sb63 cB bv69 bc_65 bf_66 false bn_67))) hP hD hS hA [0, 1] [2, 3, 4, 5] rfl rfl (by decide) (by decide)) rfl (by decide))) hS (fun w72 H locs hP hD hS => ?_)
              replace hP : va_P D vwCl (mW q v cJ V ib dn rf mk th_51 ++ ([(w55, .inl (cJ, 121, .inr (.inl r53))), (w60, .inl (cJ, 121, .inr (.inl r58))), (w72, .inl (cJ, 121, .inr (.inl r70)))] ++ (sW sb63 cB bv69 bc_65 bf_66 false bn_67))) H := hP
              replace hD : va_D A (mW q v cJ V ib dn rf mk th_51 ++ ([(w55, .inl (cJ, 121, .inr (.inl r53))), (w60, .inl (cJ, 121, .inr (.inl r58))), (w72, .inl (cJ, 121, .inr (.inl r70)))] ++ (sW sb63 cB bv69 bc_65 bf_66 false bn_67))) := hD
              refine lv_aload_n hx hb dX9_totalOfProduct_109 rfl (lv_at hl 0 rfl) ?_
              refine lv_iload_n hx hb dX9_totalOfProduct_110 rfl (lv_at hl 2 rfl) ?_
              obtain ⟨r73, e74, h⟩ := zb1_some h
              have hPc := zsub (wn := (mW q v cJ V ib dn rf mk th_51)) hP [0, 1] rfl
              have hDc := hD.sub (ws' := (mW q v cJ V ib dn rf mk th_51)) [0, 1] (by decide) rfl
              refine zgon (va_runV (As := [.int p1]) (rest := [.ref w72, .ref q, .ref q, .ref sb63]) ⟨hx, hb, hml, hown, hts⟩ (c_X9_of l D q v cJ cI cO cB V ib dn rf mk th_51 F p1 r73 e74 H.size) (cwV 1 hts gX9_totalOfProduct_X9_of rfl rfl rfl hdV_X9_of ⟨Nat.le_of_ble_eq_true rfl, Nat.le_of_ble_eq_true rfl⟩) (zpreV (q0 := 0) (ci := 9) (T := TX9) (N := 6) hK hPc hDc rfl rfl [.int p1]) rfl rfl hl.1 rfl (lv_room (Nat.le_of_ble_eq_true rfl)) dX9_totalOfProduct_111 ⟨Nat.le_of_ble_eq_true rfl, Nat.le_of_ble_eq_true rfl⟩) (va_free hD hS hA [0, 1] rfl) (fun w75 => (zjs (wn := (mW q v cJ V ib dn rf mk th_51 ++ ([(w55, .inl (cJ, 121, .inr (.inl r53))), (w60, .inl (cJ, 121, .inr (.inl r58))), (w72, .inl (cJ, 121, .inr (.inl r70))), (w75, .inl (cJ, 121, .inr (.inl r73)))] ++ (sW sb63 cB bv69 bc_65 bf_66 false bn_67)))) [5, 6, 0, 1, 2, 7, 3, 4] (zjF (wr := ([(w55, .inl (cJ, 121, .inr (.inl r53))), (w60, .inl (cJ, 121, .inr (.inl r58))), (w72, .inl (cJ, 121, .inr (.inl r70)))] ++ (sW sb63 cB bv69 bc_65 bf_66 false bn_67))) hP hD hS hA [0, 1] [2, 3, 4, 5, 6] rfl rfl (by decide) (by decide)) rfl (by decide))) hS (fun w75 H locs hP hD hS => ?_)
              replace hP : va_P D vwCl (mW q v cJ V ib dn rf mk th_51 ++ ([(w55, .inl (cJ, 121, .inr (.inl r53))), (w60, .inl (cJ, 121, .inr (.inl r58))), (w72, .inl (cJ, 121, .inr (.inl r70))), (w75, .inl (cJ, 121, .inr (.inl r73)))] ++ (sW sb63 cB bv69 bc_65 bf_66 false bn_67))) H := hP
              replace hD : va_D A (mW q v cJ V ib dn rf mk th_51 ++ ([(w55, .inl (cJ, 121, .inr (.inl r53))), (w60, .inl (cJ, 121, .inr (.inl r58))), (w72, .inl (cJ, 121, .inr (.inl r70))), (w75, .inl (cJ, 121, .inr (.inl r73)))] ++ (sW sb63 cB bv69 bc_65 bf_66 false bn_67))) := hD
              obtain ⟨r76, ib_77, e78, h⟩ := zb2_some h
              have hPc := zsub (wn := (mW q v cJ V ib dn rf mk th_51 ++ ([(w72, .inl (cJ, 121, .inr (.inl r70))), (w75, .inl (cJ, 121, .inr (.inl r73)))]))) hP [0, 1, 4, 5] rfl
              have hDc := hD.sub (ws' := (mW q v cJ V ib dn rf mk th_51 ++ ([(w72, .inl (cJ, 121, .inr (.inl r70))), (w75, .inl (cJ, 121, .inr (.inl r73)))]))) [0, 1, 4, 5] (by decide) rfl
              refine zgon (va_runV (As := [.ref w72, .ref w75]) (rest := [.ref q, .ref sb63]) ⟨hx, hb, hml, hown, hts⟩ (c_X9_product l D q v cJ cI cO cB V ib dn rf mk th_51 F w72 r70 w75 r73 r76 ib_77 e78 H.size) (cwV 2 hts gX9_totalOfProduct_X9_product rfl rfl rfl hdV_X9_product ⟨Nat.le_of_ble_eq_true rfl, Nat.le_of_ble_eq_true rfl⟩) (zpreV (q0 := 0) (ci := 9) (T := TX9) (N := 6) hK hPc hDc rfl rfl [.ref w72, .ref w75]) rfl rfl hl.1 rfl (lv_room (Nat.le_of_ble_eq_true rfl)) dX9_totalOfProduct_114 ⟨Nat.le_of_ble_eq_true rfl, Nat.le_of_ble_eq_true rfl⟩) (va_free hD hS hA [0, 1, 4, 5] rfl) (fun w79 => (zjs (wn := (mW q v cJ V ib_77 dn rf mk th_51 ++ ([(w55, .inl (cJ, 121, .inr (.inl r53))), (w60, .inl (cJ, 121, .inr (.inl r58))), (w72, .inl (cJ, 121, .inr (.inl r70))), (w75, .inl (cJ, 121, .inr (.inl r73))), (w79, .inl (cJ, 121, .inr (.inl r76)))] ++ (sW sb63 cB bv69 bc_65 bf_66 false bn_67)))) [4, 5, 0, 1, 6, 7, 8, 2, 3] (zjF (wr := ([(w55, .inl (cJ, 121, .inr (.inl r53))), (w60, .inl (cJ, 121, .inr (.inl r58)))] ++ (sW sb63 cB bv69 bc_65 bf_66 false bn_67))) hP hD hS hA [0, 1, 4, 5] [2, 3, 6, 7] rfl rfl (by decide) (by decide)) rfl (by decide))) hS (fun w79 H locs hP hD hS => ?_)
              replace hP : va_P D vwCl (mW q v cJ V ib_77 dn rf mk th_51 ++ ([(w55, .inl (cJ, 121, .inr (.inl r53))), (w60, .inl (cJ, 121, .inr (.inl r58))), (w72, .inl (cJ, 121, .inr (.inl r70))), (w75, .inl (cJ, 121, .inr (.inl r73))), (w79, .inl (cJ, 121, .inr (.inl r76)))] ++ (sW sb63 cB bv69 bc_65 bf_66 false bn_67))) H := hP
              replace hD : va_D A (mW q v cJ V ib_77 dn rf mk th_51 ++ ([(w55, .inl (cJ, 121, .inr (.inl r53))), (w60, .inl (cJ, 121, .inr (.inl r58))), (w72, .inl (cJ, 121, .inr (.inl r70))), (w75, .inl (cJ, 121, .inr (.inl r73))), (w79, .inl (cJ, 121, .inr (.inl r76)))] ++ (sW sb63 cB bv69 bc_65 bf_66 false bn_67))) := hD
              refine lv_iload_n hx hb dX9_totalOfProduct_117 rfl (lv_at hl 3 rfl) ?_
              obtain ⟨r80, ib_81, e82, h⟩ := zb2_some h
              have hPc := zsub (wn := (mW q v cJ V ib_77 dn rf mk th_51 ++ ([(w79, .inl (cJ, 121, .inr (.inl r76)))]))) hP [0, 1, 6] rfl
              have hDc := hD.sub (ws' := (mW q v cJ V ib_77 dn rf mk th_51 ++ ([(w79, .inl (cJ, 121, .inr (.inl r76)))]))) [0, 1, 6] (by decide) rfl
              refine zgol (va_runV (As := [.ref w79, .int p2]) (rest := [.ref sb63]) ⟨hx, hb, hml, hown, hts⟩ (c_X9_totalOf l D q v cJ cI cO cB V ib_77 dn rf mk th_51 F w79 r76 p2 r80 ib_81 e82 H.size) (cwV 2 hts gX9_totalOfProduct_X9_totalOf rfl rfl rfl hdV_X9_totalOf ⟨Nat.le_of_ble_eq_true rfl, Nat.le_of_ble_eq_true rfl⟩) (zpreV (q0 := 0) (ci := 9) (T := TX9) (N := 6) hK hPc hDc rfl rfl [.ref w79, .int p2]) rfl rfl hl.1 rfl (lv_room (Nat.le_of_ble_eq_true rfl)) dX9_totalOfProduct_118 ⟨Nat.le_of_ble_eq_true rfl, Nat.le_of_ble_eq_true rfl⟩) (va_free hD hS hA [0, 1, 6] rfl) (zjs (wn := (mW q v cJ V ib_81 dn rf mk th_51 ++ ([(w55, .inl (cJ, 121, .inr (.inl r53))), (w60, .inl (cJ, 121, .inr (.inl r58))), (w72, .inl (cJ, 121, .inr (.inl r70))), (w75, .inl (cJ, 121, .inr (.inl r73))), (w79, .inl (cJ, 121, .inr (.inl r76)))] ++ (sW sb63 cB bv69 bc_65 bf_66 false bn_67)))) [6, 7, 0, 1, 2, 3, 8, 4, 5] (zjF (wr := ([(w55, .inl (cJ, 121, .inr (.inl r53))), (w60, .inl (cJ, 121, .inr (.inl r58))), (w72, .inl (cJ, 121, .inr (.inl r70))), (w75, .inl (cJ, 121, .inr (.inl r73)))] ++ (sW sb63 cB bv69 bc_65 bf_66 false bn_67))) hP hD hS hA [0, 1, 6] [2, 3, 4, 5, 7, 8] rfl rfl (by decide) (by decide)) rfl (by decide)) hS (fun H locs hP hD hS => ?_)
              replace hP : va_P D vwCl (mW q v cJ V ib_81 dn rf mk th_51 ++ ([(w55, .inl (cJ, 121, .inr (.inl r53))), (w60, .inl (cJ, 121, .inr (.inl r58))), (w72, .inl (cJ, 121, .inr (.inl r70))), (w75, .inl (cJ, 121, .inr (.inl r73))), (w79, .inl (cJ, 121, .inr (.inl r76)))] ++ (sW sb63 cB bv69 bc_65 bf_66 false bn_67))) H := hP
              replace hD : va_D A (mW q v cJ V ib_81 dn rf mk th_51 ++ ([(w55, .inl (cJ, 121, .inr (.inl r53))), (w60, .inl (cJ, 121, .inr (.inl r58))), (w72, .inl (cJ, 121, .inr (.inl r70))), (w75, .inl (cJ, 121, .inr (.inl r73))), (w79, .inl (cJ, 121, .inr (.inl r76)))] ++ (sW sb63 cB bv69 bc_65 bf_66 false bn_67))) := hD
              obtain ⟨bc_83, bf_84, bn_85, e86, h⟩ := zb3_some h
              have hPc := zsub (wn := (sW sb63 cB bv69 bc_65 bf_66 false bn_67)) hP [7, 8] rfl
              have hDc := hD.sub (ws' := (sW sb63 cB bv69 bc_65 bf_66 false bn_67)) [7, 8] (by decide) rfl
              refine zgosr (va_runV (As := [.long r80]) (rest := []) ⟨hx, hb, hml, hown, hts⟩ (c_J4_append_f7089 l D sb63 cJ cI cO cB bv69 bc_65 bf_66 false bn_67 F r80 bc_83 bf_84 bn_85 e86 H.size) (cwV 1 hts gX9_totalOfProduct_J4_append_f7089 rfl rfl rfl hdV_J4_append_f7089 ⟨Nat.le_of_ble_eq_true rfl, Nat.le_of_ble_eq_true rfl⟩) (zxpreV hE hS (va_free hD hS hA [7, 8] rfl) (q0 := 0) (ci := 1) (T := TJ4) (N := 4) hK hPc hDc rfl rfl [.long r80]) rfl rfl hl.1 rfl (lv_room (Nat.le_of_ble_eq_true rfl)) dX9_totalOfProduct_121 ⟨Nat.le_of_ble_eq_true rfl, Nat.le_of_ble_eq_true rfl⟩) (va_free hD hS hA [7, 8] rfl) (fun bv87 => (zjs (wn := (mW q v cJ V ib_81 dn rf mk th_51 ++ ([(w55, .inl (cJ, 121, .inr (.inl r53))), (w60, .inl (cJ, 121, .inr (.inl r58))), (w72, .inl (cJ, 121, .inr (.inl r70))), (w75, .inl (cJ, 121, .inr (.inl r73))), (w79, .inl (cJ, 121, .inr (.inl r76)))] ++ (sW sb63 cB bv87 bc_83 bf_84 false bn_85)))) [0, 1, 2, 3, 4, 5, 6, 7, 8] (zjF (wr := (mW q v cJ V ib_81 dn rf mk th_51 ++ ([(w55, .inl (cJ, 121, .inr (.inl r53))), (w60, .inl (cJ, 121, .inr (.inl r58))), (w72, .inl (cJ, 121, .inr (.inl r70))), (w75, .inl (cJ, 121, .inr (.inl r73))), (w79, .inl (cJ, 121, .inr (.inl r76)))]))) hP hD hS hA [7, 8] [0, 1, 2, 3, 4, 5, 6] rfl rfl (by decide) (by decide)) rfl (by decide))) hS (fun bv87 H locs hP hD hS => ?_)
              replace hP : va_P D vwCl (mW q v cJ V ib_81 dn rf mk th_51 ++ ([(w55, .inl (cJ, 121, .inr (.inl r53))), (w60, .inl (cJ, 121, .inr (.inl r58))), (w72, .inl (cJ, 121, .inr (.inl r70))), (w75, .inl (cJ, 121, .inr (.inl r73))), (w79, .inl (cJ, 121, .inr (.inl r76)))] ++ (sW sb63 cB bv87 bc_83 bf_84 false bn_85))) H := hP
              replace hD : va_D A (mW q v cJ V ib_81 dn rf mk th_51 ++ ([(w55, .inl (cJ, 121, .inr (.inl r53))), (w60, .inl (cJ, 121, .inr (.inl r58))), (w72, .inl (cJ, 121, .inr (.inl r70))), (w75, .inl (cJ, 121, .inr (.inl r73))), (w79, .inl (cJ, 121, .inr (.inl r76)))] ++ (sW sb63 cB bv87 bc_83 bf_84 false bn_85))) := hD
              obtain ⟨r90, r91, e92, h⟩ := zb2_some h
              have hPc := zsub (wn := ([(sb63, .inr (1, [.ref bv87, .int 0, .int (z01 false), .int bn_85])), (bv87, .inl (cB, bc_83, .inl bf_84))] : va_W)) hP [7, 8] rfl
              have hDc := hD.sub (ws' := ([(sb63, .inr (1, [.ref bv87, .int 0, .int (z01 false), .int bn_85])), (bv87, .inl (cB, bc_83, .inl bf_84))] : va_W)) [7, 8] (by decide) rfl
              refine zgoss (va_runV (As := []) (rest := []) ⟨hx, hb, hml, hown, hts⟩ (c_J4_toString_0e30d l D cJ cI cO cB sb63 bv87 bc_83 bf_84 false bn_85 r90 r91 e92 H.size) (cwV 0 hts gX9_totalOfProduct_J4_toString_0e30d rfl rfl rfl hdV_J4_toString_0e30d ⟨Nat.le_of_ble_eq_true rfl, Nat.le_of_ble_eq_true rfl⟩) (zxpreV hE hS (va_free hD hS hA [7, 8] rfl) (q0 := 0) (ci := 1) (T := TJ4) (N := 4) hK hPc hDc rfl rfl []) rfl rfl hl.1 rfl (lv_room (Nat.le_of_ble_eq_true rfl)) dX9_totalOfProduct_124 ⟨Nat.le_of_ble_eq_true rfl, Nat.le_of_ble_eq_true rfl⟩) (va_free hD hS hA [7, 8] rfl) (fun s88 u89 => zjs (wn := (mW q v cJ V ib_81 dn rf mk th_51 ++ ([(w55, .inl (cJ, 121, .inr (.inl r53))), (w60, .inl (cJ, 121, .inr (.inl r58))), (w72, .inl (cJ, 121, .inr (.inl r70))), (w75, .inl (cJ, 121, .inr (.inl r73))), (w79, .inl (cJ, 121, .inr (.inl r76))), (s88, .inr (0, [.ref u89, .int 0, .int 0, .int 0])), (u89, .inl (cB, r90, .inl r91))]))) [0, 1, 2, 3, 4, 5, 6, 7, 8] (zjF (wr := (mW q v cJ V ib_81 dn rf mk th_51 ++ ([(w55, .inl (cJ, 121, .inr (.inl r53))), (w60, .inl (cJ, 121, .inr (.inl r58))), (w72, .inl (cJ, 121, .inr (.inl r70))), (w75, .inl (cJ, 121, .inr (.inl r73))), (w79, .inl (cJ, 121, .inr (.inl r76)))]))) hP hD hS hA [7, 8] [0, 1, 2, 3, 4, 5, 6] rfl rfl (by decide) (by decide)) rfl (by decide)) hS (fun s88 u89 H locs hP hD hS => ?_)
              replace hP : va_P D vwCl (mW q v cJ V ib_81 dn rf mk th_51 ++ ([(w55, .inl (cJ, 121, .inr (.inl r53))), (w60, .inl (cJ, 121, .inr (.inl r58))), (w72, .inl (cJ, 121, .inr (.inl r70))), (w75, .inl (cJ, 121, .inr (.inl r73))), (w79, .inl (cJ, 121, .inr (.inl r76))), (s88, .inr (0, [.ref u89, .int 0, .int 0, .int 0])), (u89, .inl (cB, r90, .inl r91))])) H := hP
              replace hD : va_D A (mW q v cJ V ib_81 dn rf mk th_51 ++ ([(w55, .inl (cJ, 121, .inr (.inl r53))), (w60, .inl (cJ, 121, .inr (.inl r58))), (w72, .inl (cJ, 121, .inr (.inl r70))), (w75, .inl (cJ, 121, .inr (.inl r73))), (w79, .inl (cJ, 121, .inr (.inl r76))), (s88, .inr (0, [.ref u89, .int 0, .int 0, .int 0])), (u89, .inl (cB, r90, .inl r91))])) := hD
              have g0 := Option.some.inj h
              obtain ⟨h1, g1⟩ := Prod.mk.inj g0
              subst h1
              subst g1
              replace hP := zsub (wn := (mW q v cJ V ib_81 dn rf mk th_51)) hP [0, 1] rfl
              replace hD := hD.sub (ws' := (mW q v cJ V ib_81 dn rf mk th_51)) [0, 1] (by decide) rfl
              exact W.aret (v := .ref s88) hx hb hr (Or.inl ⟨_, rfl⟩) (Or.inr ⟨_, rfl⟩) (fun t ht hW => ⟨⟨(), s88, rfl, trivial, by rw [ht]; exact hP, va_K.moved hW.alike hK, hD⟩, hS.F ht⟩) hS.2.2 dX9_totalOfProduct_127
            · replace h := zif_f h c79
              refine lv_aload_n hx hb dX9_totalOfProduct_82 rfl (lv_at hl 0 rfl) ?_
              refine lv_iconst (v := (3 : Int32)) hx hb dX9_totalOfProduct_83 (by decide) ?_
              refine va_put (D := D) (ci := 9) (v := .int (3 : Int32)) (ty := .int) (C := RX9) (T := TX9) (N := 6) hx hb hts kwX9 tyX9 tyX9_ok nmX9 hown hK hP hD hS 0 rfl rfl 5 (by decide) kf_13 (fun _ h9 => h9) rfl rfl rfl rfl (Nat.le_of_ble_eq_true rfl) dX9_totalOfProduct_84 (fun H locs hP hD hS => ?_)
              replace hP : va_P D vwCl (mW q v cJ V ib dn rf mk (3 : Int32) ++ ([(w55, .inl (cJ, 121, .inr (.inl r53))), (w60, .inl (cJ, 121, .inr (.inl r58)))])) H := hP
              replace hD : va_D A (mW q v cJ V ib dn rf mk (3 : Int32) ++ ([(w55, .inl (cJ, 121, .inr (.inl r53))), (w60, .inl (cJ, 121, .inr (.inl r58)))])) := hD
              refine va_ldcS hx hb hown hR133 dX9_totalOfProduct_87 ?_
              have g0 := Option.some.inj h
              obtain ⟨h1, g1⟩ := Prod.mk.inj g0
              subst h1
              subst g1
              replace hP := zsub (wn := (mW q v cJ V ib dn rf mk (3 : Int32))) hP [0, 1] rfl
              replace hD := hD.sub (ws' := (mW q v cJ V ib dn rf mk (3 : Int32))) [0, 1] (by decide) rfl
              refine W.widen (k := 11) (n := 1079) (by decide) (by decide) ?_
              exact W.aret (v := .ref st133) hx hb hr (Or.inl ⟨_, rfl⟩) (Or.inr ⟨_, rfl⟩) (fun t ht hW => ⟨⟨(), st133, rfl, trivial, by rw [ht]; exact hP, va_K.moved hW.alike hK, hD⟩, hS.F ht⟩) hS.2.2 dX9_totalOfProduct_89
        · replace h := zif_f h c48
          refine va_ldcS hx hb hown hR133 dX9_totalOfProduct_51 ?_
          have g0 := Option.some.inj h
          obtain ⟨h1, g1⟩ := Prod.mk.inj g0
          subst h1
          subst g1
          refine W.widen (k := 11) (n := 1079) (by decide) (by decide) ?_
          exact W.aret (v := .ref st133) hx hb hr (Or.inl ⟨_, rfl⟩) (Or.inr ⟨_, rfl⟩) (fun t ht hW => ⟨⟨(), st133, rfl, trivial, by rw [ht]; exact hP, va_K.moved hW.alike hK, hD⟩, hS.F ht⟩) hS.2.2 dX9_totalOfProduct_53
  replace h := zlt_h h
  refine lv_if_eq (tgt := 19) hx hb dX9_totalOfProduct_5 (by decide) (fun c5 => ?_) (fun c5 => ?_)
  · replace h := zif_t h c5
    exact hGW _ _ _ _ _ (J0  _ _ ls hP hD hS (lv_sub hl [0, 1, 2, 3, 4] rfl) h)
  · replace h := zif_f h c5
    refine lv_iload_n hx hb dX9_totalOfProduct_8 rfl (lv_at hl 2 rfl) ?_
    obtain ⟨r93, e94, h⟩ := zb1_some h
    refine zgoi (va_runS (As := [.int p1]) (rest := [.ref q]) ⟨hx, hb, hml, hown, hts⟩ (c_X9_isOne l D (zT cJ cI cO cB) p1 r93 e94 H.size) (va_cwS 1 hts gX9_totalOfProduct_X9_isOne rfl rfl rfl hdS_X9_isOne ⟨Nat.le_of_ble_eq_true rfl, Nat.le_of_ble_eq_true rfl⟩) (zpreS hK zP0 (zD0 (A := A)) [.int p1]) rfl rfl hl.1 rfl (lv_room (Nat.le_of_ble_eq_true rfl)) dX9_totalOfProduct_9 ⟨Nat.le_of_ble_eq_true rfl, Nat.le_of_ble_eq_true rfl⟩) (zf0 hS hA) (zjE hP hD) hS (fun H locs hP hD hS => ?_)
    refine lv_if_eq (tgt := 19) hx hb dX9_totalOfProduct_12 (by decide) (fun c12 => ?_) (fun c12 => ?_)
    · replace h := zif_t h c12
      exact hGW _ _ _ _ _ (J0  _ _ ls hP hD hS (lv_sub hl [0, 1, 2, 3, 4] rfl) h)
    · replace h := zif_f h c12
      refine lv_iconst (v := (1 : Int32)) hx hb dX9_totalOfProduct_15 (by decide) ?_
      refine lv_goto (tgt := 20) hx hb dX9_totalOfProduct_16 (by decide) ?_
      refine lv_iload_n hx hb dX9_totalOfProduct_20 rfl (lv_at hl 3 rfl) ?_
      refine lv_iconst (v := (1 : Int32)) hx hb dX9_totalOfProduct_21 (by decide) ?_
      refine lv_bipush (v := (120 : Int32)) hx hb dX9_totalOfProduct_22 (by decide) ?_
      obtain ⟨r95, e96, h⟩ := zb1_some h
      refine zgoi (va_runS (As := [.int p2, .int (1 : Int32), .int (120 : Int32)]) (rest := [.int (1 : Int32), .ref q]) ⟨hx, hb, hml, hown, hts⟩ (c_X9_isIn l D (zT cJ cI cO cB) p2 (1 : Int32) (120 : Int32) r95 e96 H.size) (va_cwS 3 hts gX9_totalOfProduct_X9_isIn rfl rfl rfl hdS_X9_isIn ⟨Nat.le_of_ble_eq_true rfl, Nat.le_of_ble_eq_true rfl⟩) (zpreS hK zP0 (zD0 (A := A)) [.int p2, .int (1 : Int32), .int (120 : Int32)]) rfl rfl hl.1 rfl (lv_room (Nat.le_of_ble_eq_true rfl)) dX9_totalOfProduct_24 ⟨Nat.le_of_ble_eq_true rfl, Nat.le_of_ble_eq_true rfl⟩) (zf0 hS hA) (zjE hP hD) hS (fun H locs hP hD hS => ?_)
      have J2 : ∀  (H : Heap) (locs : List Loc) (ls : Array Slot), va_P D vwCl (mW q v cJ V ib dn rf mk th) H → va_D A (mW q v cJ V ib dn rf mk th) → va_S A s.heap H locs → lv_has ls 5 [(0, .ref q), (1, .int p0), (2, .int p1), (3, .int p2), (4, .int p3)] → (zb2 (p_X9_isThrown true false) (fun r97 th_98 => (if (z01 r97) = 0 then (zb1 (p_X9_of F V p0) (fun r100 => (zb1 (p_X9_isGreat F r100 p2 (1000000 : Int32)) (fun r103 => (if ¬ (z01 r103) = 0 then (some (ib, (3 : Int32))) else (zb1 (p_X9_of F V p1) (fun r105 => (zb1 (p_X9_isGreat F r105 p2 (1000000 : Int32)) (fun r108 => (if (z01 r108) = 0 then (zb3 (p_J4_append_15ec4 16 (fun _ => 0) 0 0 (zbt 133)) (fun bc_112 bf_113 bn_114 => (zb1 (p_X9_of F V p0) (fun r117 => (zb1 (p_X9_of F V p1) (fun r120 => (zb2 (p_X9_product F ib r117 r120) (fun r123 ib_124 => (zb2 (p_X9_totalOf F ib_124 r123 p2) (fun r127 ib_128 => (zb3 (p_J4_append_f7089 F bc_112 bf_113 bn_114 r127) (fun bc_130 bf_131 bn_132 => (zb2 (p_J7_copyOfRange_39247 bc_130 bf_131 (0 : Int32) bn_132) (fun r137 r138 => (some (ib_128, th_98)))))))))))))))) else (some (ib, (3 : Int32))))))))))))) else (some (ib, th_98))))) = some (ib', th') → G H locs 0 0 (F0 m 44 ls [.int (1 : Int32), .ref q]) := by
        intro  H locs ls hP hD hS hl h
        refine hG _ _ _ _ _ ?_
        refine lv_iconst (v := (0 : Int32)) hx hb dX9_totalOfProduct_44 (by decide) ?_
        obtain ⟨r97, th_98, e99, h⟩ := zb2_some h
        refine zgoi (va_runV (As := [.int (1 : Int32), .int (0 : Int32)]) (rest := []) ⟨hx, hb, hml, hown, hts⟩ (c_X9_isThrown l D q v cJ cI cO cB V ib dn rf mk th true false r97 th_98 e99 H.size) (cwV 2 hts gX9_totalOfProduct_X9_isThrown rfl rfl rfl hdV_X9_isThrown ⟨Nat.le_of_ble_eq_true rfl, Nat.le_of_ble_eq_true rfl⟩) (zpreV (q0 := 0) (ci := 9) (T := TX9) (N := 6) hK hP hD rfl rfl [.int (1 : Int32), .int (0 : Int32)]) rfl rfl hl.1 rfl (lv_room (Nat.le_of_ble_eq_true rfl)) dX9_totalOfProduct_45 ⟨Nat.le_of_ble_eq_true rfl, Nat.le_of_ble_eq_true rfl⟩) (zfree hD hS hA) (zjW hD hS hA) hS (fun H locs hP hD hS => ?_)
        replace hP : va_P D vwCl (mW q v cJ V ib dn rf mk th_98) H := hP
        replace hD : va_D A (mW q v cJ V ib dn rf mk th_98) := hD
        refine lv_if_eq (tgt := 54) hx hb dX9_totalOfProduct_48 (by decide) (fun c48 => ?_) (fun c48 => ?_)
        · replace h := zif_t h c48
          refine lv_aload_n hx hb dX9_totalOfProduct_54 rfl (lv_at hl 0 rfl) ?_
          refine lv_iload_n hx hb dX9_totalOfProduct_55 rfl (lv_at hl 1 rfl) ?_
          obtain ⟨r100, e101, h⟩ := zb1_some h
          refine zgon (va_runV (As := [.int p0]) (rest := []) ⟨hx, hb, hml, hown, hts⟩ (c_X9_of l D q v cJ cI cO cB V ib dn rf mk th_98 F p0 r100 e101 H.size) (cwV 1 hts gX9_totalOfProduct_X9_of rfl rfl rfl hdV_X9_of ⟨Nat.le_of_ble_eq_true rfl, Nat.le_of_ble_eq_true rfl⟩) (zpreV (q0 := 0) (ci := 9) (T := TX9) (N := 6) hK hP hD rfl rfl [.int p0]) rfl rfl hl.1 rfl (lv_room (Nat.le_of_ble_eq_true rfl)) dX9_totalOfProduct_56 ⟨Nat.le_of_ble_eq_true rfl, Nat.le_of_ble_eq_true rfl⟩) (zfree hD hS hA) (fun _ => zjW hD hS hA) hS (fun w102 H locs hP hD hS => ?_)
          replace hP : va_P D vwCl (mW q v cJ V ib dn rf mk th_98 ++ ([(w102, .inl (cJ, 121, .inr (.inl r100)))])) H := hP
          replace hD : va_D A (mW q v cJ V ib dn rf mk th_98 ++ ([(w102, .inl (cJ, 121, .inr (.inl r100)))])) := hD
          refine lv_iload_n hx hb dX9_totalOfProduct_59 rfl (lv_at hl 3 rfl) ?_
          refine lv_ldc hx hb hown kc_157 dX9_totalOfProduct_60 ?_
          obtain ⟨r103, e104, h⟩ := zb1_some h
          have hPc := zsub (wn := ([(w102, .inl (cJ, 121, .inr (.inl r100)))] : va_W)) hP [2] rfl
          have hDc := hD.sub (ws' := ([(w102, .inl (cJ, 121, .inr (.inl r100)))] : va_W)) [2] (by decide) rfl
          refine zgoi (va_runS (As := [.ref w102, .int p2, .int (1000000 : Int32)]) (rest := []) ⟨hx, hb, hml, hown, hts⟩ (c_X9_isGreat l D cJ cI cO cB F w102 r100 p2 (1000000 : Int32) r103 e104 H.size) (va_cwS 3 hts gX9_totalOfProduct_X9_isGreat rfl rfl rfl hdS_X9_isGreat ⟨Nat.le_of_ble_eq_true rfl, Nat.le_of_ble_eq_true rfl⟩) (zpreS hK hPc hDc [.ref w102, .int p2, .int (1000000 : Int32)]) rfl rfl hl.1 rfl (lv_room (Nat.le_of_ble_eq_true rfl)) dX9_totalOfProduct_62 ⟨Nat.le_of_ble_eq_true rfl, Nat.le_of_ble_eq_true rfl⟩) (va_free hD hS hA [2] rfl) (zjs (wn := (mW q v cJ V ib dn rf mk th_98 ++ ([(w102, .inl (cJ, 121, .inr (.inl r100)))]))) [0, 1, 2] (zjF (wr := (mW q v cJ V ib dn rf mk th_98)) hP hD hS hA [2] [0, 1] rfl rfl (by decide) (by decide)) rfl (by decide)) hS (fun H locs hP hD hS => ?_)
          replace hP : va_P D vwCl (mW q v cJ V ib dn rf mk th_98 ++ ([(w102, .inl (cJ, 121, .inr (.inl r100)))])) H := hP
          replace hD : va_D A (mW q v cJ V ib dn rf mk th_98 ++ ([(w102, .inl (cJ, 121, .inr (.inl r100)))])) := hD
          refine lv_if_ne (tgt := 82) hx hb dX9_totalOfProduct_65 (by decide) (fun c65 => ?_) (fun c65 => ?_)
          · replace h := zif_t h c65
            refine lv_aload_n hx hb dX9_totalOfProduct_82 rfl (lv_at hl 0 rfl) ?_
            refine lv_iconst (v := (3 : Int32)) hx hb dX9_totalOfProduct_83 (by decide) ?_
            refine va_put (D := D) (ci := 9) (v := .int (3 : Int32)) (ty := .int) (C := RX9) (T := TX9) (N := 6) hx hb hts kwX9 tyX9 tyX9_ok nmX9 hown hK hP hD hS 0 rfl rfl 5 (by decide) kf_13 (fun _ h9 => h9) rfl rfl rfl rfl (Nat.le_of_ble_eq_true rfl) dX9_totalOfProduct_84 (fun H locs hP hD hS => ?_)
            replace hP : va_P D vwCl (mW q v cJ V ib dn rf mk (3 : Int32) ++ ([(w102, .inl (cJ, 121, .inr (.inl r100)))])) H := hP
            replace hD : va_D A (mW q v cJ V ib dn rf mk (3 : Int32) ++ ([(w102, .inl (cJ, 121, .inr (.inl r100)))])) := hD
            refine va_ldcS hx hb hown hR133 dX9_totalOfProduct_87 ?_
            have g0 := Option.some.inj h
            obtain ⟨h1, g1⟩ := Prod.mk.inj g0
            subst h1
            subst g1
            replace hP := zsub (wn := (mW q v cJ V ib dn rf mk (3 : Int32))) hP [0, 1] rfl
            replace hD := hD.sub (ws' := (mW q v cJ V ib dn rf mk (3 : Int32))) [0, 1] (by decide) rfl
            refine W.widen (k := 11) (n := 1079) (by decide) (by decide) ?_
            exact W.aret (v := .ref st133) hx hb hr (Or.inl ⟨_, rfl⟩) (Or.inr ⟨_, rfl⟩) (fun t ht hW => ⟨⟨(), st133, rfl, trivial, by rw [ht]; exact hP, va_K.moved hW.alike hK, hD⟩, hS.F ht⟩) hS.2.2 dX9_totalOfProduct_89
          · replace h := zif_fn h c65
            refine lv_aload_n hx hb dX9_totalOfProduct_68 rfl (lv_at hl 0 rfl) ?_
            refine lv_iload_n hx hb dX9_totalOfProduct_69 rfl (lv_at hl 2 rfl) ?_
            obtain ⟨r105, e106, h⟩ := zb1_some h
            have hPc := zsub (wn := (mW q v cJ V ib dn rf mk th_98)) hP [0, 1] rfl
            have hDc := hD.sub (ws' := (mW q v cJ V ib dn rf mk th_98)) [0, 1] (by decide) rfl
            refine zgon (va_runV (As := [.int p1]) (rest := []) ⟨hx, hb, hml, hown, hts⟩ (c_X9_of l D q v cJ cI cO cB V ib dn rf mk th_98 F p1 r105 e106 H.size) (cwV 1 hts gX9_totalOfProduct_X9_of rfl rfl rfl hdV_X9_of ⟨Nat.le_of_ble_eq_true rfl, Nat.le_of_ble_eq_true rfl⟩) (zpreV (q0 := 0) (ci := 9) (T := TX9) (N := 6) hK hPc hDc rfl rfl [.int p1]) rfl rfl hl.1 rfl (lv_room (Nat.le_of_ble_eq_true rfl)) dX9_totalOfProduct_70 ⟨Nat.le_of_ble_eq_true rfl, Nat.le_of_ble_eq_true rfl⟩) (va_free hD hS hA [0, 1] rfl) (fun w107 => (zjs (wn := (mW q v cJ V ib dn rf mk th_98 ++ ([(w102, .inl (cJ, 121, .inr (.inl r100))), (w107, .inl (cJ, 121, .inr (.inl r105)))]))) [1, 2, 0, 3] (zjF (wr := ([(w102, .inl (cJ, 121, .inr (.inl r100)))] : va_W)) hP hD hS hA [0, 1] [2] rfl rfl (by decide) (by decide)) rfl (by decide))) hS (fun w107 H locs hP hD hS => ?_)
            replace hP : va_P D vwCl (mW q v cJ V ib dn rf mk th_98 ++ ([(w102, .inl (cJ, 121, .inr (.inl r100))), (w107, .inl (cJ, 121, .inr (.inl r105)))])) H := hP
            replace hD : va_D A (mW q v cJ V ib dn rf mk th_98 ++ ([(w102, .inl (cJ, 121, .inr (.inl r100))), (w107, .inl (cJ, 121, .inr (.inl r105)))])) := hD
            refine lv_iload_n hx hb dX9_totalOfProduct_73 rfl (lv_at hl 3 rfl) ?_
            refine lv_ldc hx hb hown kc_157 dX9_totalOfProduct_74 ?_
            obtain ⟨r108, e109, h⟩ := zb1_some h
            have hPc := zsub (wn := ([(w107, .inl (cJ, 121, .inr (.inl r105)))] : va_W)) hP [3] rfl
            have hDc := hD.sub (ws' := ([(w107, .inl (cJ, 121, .inr (.inl r105)))] : va_W)) [3] (by decide) rfl
            refine zgoi (va_runS (As := [.ref w107, .int p2, .int (1000000 : Int32)]) (rest := []) ⟨hx, hb, hml, hown, hts⟩ (c_X9_isGreat l D cJ cI cO cB F w107 r105 p2 (1000000 : Int32) r108 e109 H.size) (va_cwS 3 hts gX9_totalOfProduct_X9_isGreat rfl rfl rfl hdS_X9_isGreat ⟨Nat.le_of_ble_eq_true rfl, Nat.le_of_ble_eq_true rfl⟩) (zpreS hK hPc hDc [.ref w107, .int p2, .int (1000000 : Int32)]) rfl rfl hl.1 rfl (lv_room (Nat.le_of_ble_eq_true rfl)) dX9_totalOfProduct_76 ⟨Nat.le_of_ble_eq_true rfl, Nat.le_of_ble_eq_true rfl⟩) (va_free hD hS hA [3] rfl) (zjs (wn := (mW q v cJ V ib dn rf mk th_98 ++ ([(w102, .inl (cJ, 121, .inr (.inl r100))), (w107, .inl (cJ, 121, .inr (.inl r105)))]))) [0, 1, 2, 3] (zjF (wr := (mW q v cJ V ib dn rf mk th_98 ++ ([(w102, .inl (cJ, 121, .inr (.inl r100)))]))) hP hD hS hA [3] [0, 1, 2] rfl rfl (by decide) (by decide)) rfl (by decide)) hS (fun H locs hP hD hS => ?_)
            replace hP : va_P D vwCl (mW q v cJ V ib dn rf mk th_98 ++ ([(w102, .inl (cJ, 121, .inr (.inl r100))), (w107, .inl (cJ, 121, .inr (.inl r105)))])) H := hP
            replace hD : va_D A (mW q v cJ V ib dn rf mk th_98 ++ ([(w102, .inl (cJ, 121, .inr (.inl r100))), (w107, .inl (cJ, 121, .inr (.inl r105)))])) := hD
            refine lv_if_eq (tgt := 90) hx hb dX9_totalOfProduct_79 (by decide) (fun c79 => ?_) (fun c79 => ?_)
            · replace h := zif_t h c79
              refine va_new (ci := 1) (fs := [.null, .int 0, .int 0, .int 0]) (C := RJ4) (T := TJ4) (N := 4) hx hb hts kwJ4 tyJ4 tyJ4_ok hown kc_135 kin_J4 kii_J4 hK hP hD hS hA rfl (fun j hj => by rcases (show j = 0 ∨ j = 1 ∨ j = 2 ∨ j = 3 by omega) with rfl | rfl | rfl | rfl <;> rfl) (Nat.le_of_ble_eq_true rfl) (Nat.le_of_ble_eq_true rfl) dX9_totalOfProduct_90 (fun sb110 H hP hD hS => ?_)
              replace hP : va_P D vwCl ((mW q v cJ V ib dn rf mk th_98 ++ ([(w102, .inl (cJ, 121, .inr (.inl r100))), (w107, .inl (cJ, 121, .inr (.inl r105)))])) ++ [(sb110, .inr (1, [.null, .int 0, .int 0, .int 0]))]) H := hP
              replace hD : va_D A ((mW q v cJ V ib dn rf mk th_98 ++ ([(w102, .inl (cJ, 121, .inr (.inl r100))), (w107, .inl (cJ, 121, .inr (.inl r105)))])) ++ [(sb110, .inr (1, [.null, .int 0, .int 0, .int 0]))]) := hD
              refine lv_dup hx hb dX9_totalOfProduct_93 rfl ?_
              have hPc := zsub (wn := ([(sb110, .inr (1, [.null, .int 0, .int 0, .int 0]))] : va_W)) hP [4] rfl
              have hDc := hD.sub (ws' := ([(sb110, .inr (1, [.null, .int 0, .int 0, .int 0]))] : va_W)) [4] (by decide) rfl
              refine zgoc (va_runI (As := []) (rest := [.ref sb110]) ⟨hx, hb, hml, hown, hts⟩ (c_J4_init_da8c8 l D cJ cI cO cB sb110 H.size) (cwI 0 hts gX9_totalOfProduct_J4_init_da8c8 rfl rfl rfl kii_J4 km_137 kim_J4i rfl (by decide +kernel) ⟨Nat.le_of_ble_eq_true rfl, Nat.le_of_ble_eq_true rfl⟩) (zxpreS hE hS (va_free hD hS hA [4] rfl) hK hPc hDc [.ref sb110]) rfl rfl hl.1 rfl (lv_room (Nat.le_of_ble_eq_true rfl)) dX9_totalOfProduct_94 ⟨Nat.le_of_ble_eq_true rfl, Nat.le_of_ble_eq_true rfl⟩) (va_free hD hS hA [4] rfl) (fun u => zjF (wr := (mW q v cJ V ib dn rf mk th_98 ++ ([(w102, .inl (cJ, 121, .inr (.inl r100))), (w107, .inl (cJ, 121, .inr (.inl r105)))]))) hP hD hS hA [4] [0, 1, 2, 3] rfl rfl (by decide) (by decide)) hS (fun u111 H locs hP hD hS => ?_)
              replace hP : va_P D vwCl (mW q v cJ V ib dn rf mk th_98 ++ ([(w102, .inl (cJ, 121, .inr (.inl r100))), (w107, .inl (cJ, 121, .inr (.inl r105)))] ++ (sW sb110 cB (u111 0) 16 (fun _ => 0) false 0))) H := hP
              replace hD : va_D A (mW q v cJ V ib dn rf mk th_98 ++ ([(w102, .inl (cJ, 121, .inr (.inl r100))), (w107, .inl (cJ, 121, .inr (.inl r105)))] ++ (sW sb110 cB (u111 0) 16 (fun _ => 0) false 0))) := hD
              refine va_ldcS hx hb hown hR133 dX9_totalOfProduct_97 ?_
              obtain ⟨bc_112, bf_113, bn_114, e115, h⟩ := zb3_some h
              have hPc := zsub (wn := (sW sb110 cB (u111 0) 16 (fun _ => 0) false 0)) hP [4, 5] rfl
              have hDc := hD.sub (ws' := (sW sb110 cB (u111 0) 16 (fun _ => 0) false 0)) [4, 5] (by decide) rfl
              refine zgosr (va_runV (As := [.ref st133]) (rest := []) ⟨hx, hb, hml, hown, hts⟩ (c_J4_append_15ec4 l D sb110 cJ cI cO cB (u111 0) 16 (fun _ => 0) false 0 st133 0 (zbt 133) bc_112 bf_113 bn_114 e115 H.size) (cwV 1 hts gX9_totalOfProduct_J4_append_15ec4 rfl rfl rfl hdV_J4_append_15ec4 ⟨Nat.le_of_ble_eq_true rfl, Nat.le_of_ble_eq_true rfl⟩) (zspreV hE (zSt.here hst_st133 hS (va_free hD hS hA [4, 5] rfl)) hS (va_free hD hS hA [4, 5] rfl) (q0 := 0) (ci := 1) (T := TJ4) (N := 4) hK hPc hDc rfl rfl [.ref st133]) rfl rfl hl.1 rfl (lv_room (Nat.le_of_ble_eq_true rfl)) dX9_totalOfProduct_99 ⟨Nat.le_of_ble_eq_true rfl, Nat.le_of_ble_eq_true rfl⟩) (va_free hD hS hA [4, 5] rfl) (fun bv116 => (zjs (wn := (mW q v cJ V ib dn rf mk th_98 ++ ([(w102, .inl (cJ, 121, .inr (.inl r100))), (w107, .inl (cJ, 121, .inr (.inl r105)))] ++ (sW sb110 cB bv116 bc_112 bf_113 false bn_114)))) [0, 1, 2, 3, 4, 5] (zjF (wr := (mW q v cJ V ib dn rf mk th_98 ++ ([(w102, .inl (cJ, 121, .inr (.inl r100))), (w107, .inl (cJ, 121, .inr (.inl r105)))]))) hP hD hS hA [4, 5] [0, 1, 2, 3] rfl rfl (by decide) (by decide)) rfl (by decide))) hS (fun bv116 H locs hP hD hS => ?_)
              replace hP : va_P D vwCl (mW q v cJ V ib dn rf mk th_98 ++ ([(w102, .inl (cJ, 121, .inr (.inl r100))), (w107, .inl (cJ, 121, .inr (.inl r105)))] ++ (sW sb110 cB bv116 bc_112 bf_113 false bn_114))) H := hP
              replace hD : va_D A (mW q v cJ V ib dn rf mk th_98 ++ ([(w102, .inl (cJ, 121, .inr (.inl r100))), (w107, .inl (cJ, 121, .inr (.inl r105)))] ++ (sW sb110 cB bv116 bc_112 bf_113 false bn_114))) := hD
              refine lv_aload_n hx hb dX9_totalOfProduct_102 rfl (lv_at hl 0 rfl) ?_
              refine lv_aload_n hx hb dX9_totalOfProduct_103 rfl (lv_at hl 0 rfl) ?_
              refine lv_aload_n hx hb dX9_totalOfProduct_104 rfl (lv_at hl 0 rfl) ?_
              refine lv_iload_n hx hb dX9_totalOfProduct_105 rfl (lv_at hl 1 rfl) ?_
              obtain ⟨r117, e118, h⟩ := zb1_some h
              have hPc := zsub (wn := (mW q v cJ V ib dn rf mk th_98)) hP [0, 1] rfl
              have hDc := hD.sub (ws' := (mW q v cJ V ib dn rf mk th_98)) [0, 1] (by decide) rfl
              refine zgon (va_runV (As := [.int p0]) (rest := [.ref q, .ref q, .ref sb110]) ⟨hx, hb, hml, hown, hts⟩ (c_X9_of l D q v cJ cI cO cB V ib dn rf mk th_98 F p0 r117 e118 H.size) (cwV 1 hts gX9_totalOfProduct_X9_of rfl rfl rfl hdV_X9_of ⟨Nat.le_of_ble_eq_true rfl, Nat.le_of_ble_eq_true rfl⟩) (zpreV (q0 := 0) (ci := 9) (T := TX9) (N := 6) hK hPc hDc rfl rfl [.int p0]) rfl rfl hl.1 rfl (lv_room (Nat.le_of_ble_eq_true rfl)) dX9_totalOfProduct_106 ⟨Nat.le_of_ble_eq_true rfl, Nat.le_of_ble_eq_true rfl⟩) (va_free hD hS hA [0, 1] rfl) (fun w119 => (zjs (wn := (mW q v cJ V ib dn rf mk th_98 ++ ([(w102, .inl (cJ, 121, .inr (.inl r100))), (w107, .inl (cJ, 121, .inr (.inl r105))), (w119, .inl (cJ, 121, .inr (.inl r117)))] ++ (sW sb110 cB bv116 bc_112 bf_113 false bn_114)))) [4, 5, 0, 1, 6, 2, 3] (zjF (wr := ([(w102, .inl (cJ, 121, .inr (.inl r100))), (w107, .inl (cJ, 121, .inr (.inl r105)))] ++ (sW sb110 cB bv116 bc_112 bf_113 false bn_114))) hP hD hS hA [0, 1] [2, 3, 4, 5] rfl rfl (by decide) (by decide)) rfl (by decide))) hS (fun w119 H locs hP hD hS => ?_)
              replace hP : va_P D vwCl (mW q v cJ V ib dn rf mk th_98 ++ ([(w102, .inl (cJ, 121, .inr (.inl r100))), (w107, .inl (cJ, 121, .inr (.inl r105))), (w119, .inl (cJ, 121, .inr (.inl r117)))] ++ (sW sb110 cB bv116 bc_112 bf_113 false bn_114))) H := hP
              replace hD : va_D A (mW q v cJ V ib dn rf mk th_98 ++ ([(w102, .inl (cJ, 121, .inr (.inl r100))), (w107, .inl (cJ, 121, .inr (.inl r105))), (w119, .inl (cJ, 121, .inr (.inl r117)))] ++ (sW sb110 cB bv116 bc_112 bf_113 false bn_114))) := hD
              refine lv_aload_n hx hb dX9_totalOfProduct_109 rfl (lv_at hl 0 rfl) ?_
              refine lv_iload_n hx hb dX9_totalOfProduct_110 rfl (lv_at hl 2 rfl) ?_
              obtain ⟨r120, e121, h⟩ := zb1_some h
              have hPc := zsub (wn := (mW q v cJ V ib dn rf mk th_98)) hP [0, 1] rfl
              have hDc := hD.sub (ws' := (mW q v cJ V ib dn rf mk th_98)) [0, 1] (by decide) rfl
              refine zgon (va_runV (As := [.int p1]) (rest := [.ref w119, .ref q, .ref q, .ref sb110]) ⟨hx, hb, hml, hown, hts⟩ (c_X9_of l D q v cJ cI cO cB V ib dn rf mk th_98 F p1 r120 e121 H.size) (cwV 1 hts gX9_totalOfProduct_X9_of rfl rfl rfl hdV_X9_of ⟨Nat.le_of_ble_eq_true rfl, Nat.le_of_ble_eq_true rfl⟩) (zpreV (q0 := 0) (ci := 9) (T := TX9) (N := 6) hK hPc hDc rfl rfl [.int p1]) rfl rfl hl.1 rfl (lv_room (Nat.le_of_ble_eq_true rfl)) dX9_totalOfProduct_111 ⟨Nat.le_of_ble_eq_true rfl, Nat.le_of_ble_eq_true rfl⟩) (va_free hD hS hA [0, 1] rfl) (fun w122 => (zjs (wn := (mW q v cJ V ib dn rf mk th_98 ++ ([(w102, .inl (cJ, 121, .inr (.inl r100))), (w107, .inl (cJ, 121, .inr (.inl r105))), (w119, .inl (cJ, 121, .inr (.inl r117))), (w122, .inl (cJ, 121, .inr (.inl r120)))] ++ (sW sb110 cB bv116 bc_112 bf_113 false bn_114)))) [5, 6, 0, 1, 2, 7, 3, 4] (zjF (wr := ([(w102, .inl (cJ, 121, .inr (.inl r100))), (w107, .inl (cJ, 121, .inr (.inl r105))), (w119, .inl (cJ, 121, .inr (.inl r117)))] ++ (sW sb110 cB bv116 bc_112 bf_113 false bn_114))) hP hD hS hA [0, 1] [2, 3, 4, 5, 6] rfl rfl (by decide) (by decide)) rfl (by decide))) hS (fun w122 H locs hP hD hS => ?_)
              replace hP : va_P D vwCl (mW q v cJ V ib dn rf mk th_98 ++ ([(w102, .inl (cJ, 121, .inr (.inl r100))), (w107, .inl (cJ, 121, .inr (.inl r105))), (w119, .inl (cJ, 121, .inr (.inl r117))), (w122, .inl (cJ, 121, .inr (.inl r120)))] ++ (sW sb110 cB bv116 bc_112 bf_113 false bn_114))) H := hP
              replace hD : va_D A (mW q v cJ V ib dn rf mk th_98 ++ ([(w102, .inl (cJ, 121, .inr (.inl r100))), (w107, .inl (cJ, 121, .inr (.inl r105))), (w119, .inl (cJ, 121, .inr (.inl r117))), (w122, .inl (cJ, 121, .inr (.inl r120)))] ++ (sW sb110 cB bv116 bc_112 bf_113 false bn_114))) := hD
              obtain ⟨r123, ib_124, e125, h⟩ := zb2_some h
              have hPc := zsub (wn := (mW q v cJ V ib dn rf mk th_98 ++ ([(w119, .inl (cJ, 121, .inr (.inl r117))), (w122, .inl (cJ, 121, .inr (.inl r120)))]))) hP [0, 1, 4, 5] rfl
              have hDc := hD.sub (ws' := (mW q v cJ V ib dn rf mk th_98 ++ ([(w119, .inl (cJ, 121, .inr (.inl r117))), (w122, .inl (cJ, 121, .inr (.inl r120)))]))) [0, 1, 4, 5] (by decide) rfl
              refine zgon (va_runV (As := [.ref w119, .ref w122]) (rest := [.ref q, .ref sb110]) ⟨hx, hb, hml, hown, hts⟩ (c_X9_product l D q v cJ cI cO cB V ib dn rf mk th_98 F w119 r117 w122 r120 r123 ib_124 e125 H.size) (cwV 2 hts gX9_totalOfProduct_X9_product rfl rfl rfl hdV_X9_product ⟨Nat.le_of_ble_eq_true rfl, Nat.le_of_ble_eq_true rfl⟩) (zpreV (q0 := 0) (ci := 9) (T := TX9) (N := 6) hK hPc hDc rfl rfl [.ref w119, .ref w122]) rfl rfl hl.1 rfl (lv_room (Nat.le_of_ble_eq_true rfl)) dX9_totalOfProduct_114 ⟨Nat.le_of_ble_eq_true rfl, Nat.le_of_ble_eq_true rfl⟩) (va_free hD hS hA [0, 1, 4, 5] rfl) (fun w126 => (zjs (wn := (mW q v cJ V ib_124 dn rf mk th_98 ++ ([(w102, .inl (cJ, 121, .inr (.inl r100))), (w107, .inl (cJ, 121, .inr (.inl r105))), (w119, .inl (cJ, 121, .inr (.inl r117))), (w122, .inl (cJ, 121, .inr (.inl r120))), (w126, .inl (cJ, 121, .inr (.inl r123)))] ++ (sW sb110 cB bv116 bc_112 bf_113 false bn_114)))) [4, 5, 0, 1, 6, 7, 8, 2, 3] (zjF (wr := ([(w102, .inl (cJ, 121, .inr (.inl r100))), (w107, .inl (cJ, 121, .inr (.inl r105)))] ++ (sW sb110 cB bv116 bc_112 bf_113 false bn_114))) hP hD hS hA [0, 1, 4, 5] [2, 3, 6, 7] rfl rfl (by decide) (by decide)) rfl (by decide))) hS (fun w126 H locs hP hD hS => ?_)
              replace hP : va_P D vwCl (mW q v cJ V ib_124 dn rf mk th_98 ++ ([(w102, .inl (cJ, 121, .inr (.inl r100))), (w107, .inl (cJ, 121, .inr (.inl r105))), (w119, .inl (cJ, 121, .inr (.inl r117))), (w122, .inl (cJ, 121, .inr (.inl r120))), (w126, .inl (cJ, 121, .inr (.inl r123)))] ++ (sW sb110 cB bv116 bc_112 bf_113 false bn_114))) H := hP
              replace hD : va_D A (mW q v cJ V ib_124 dn rf mk th_98 ++ ([(w102, .inl (cJ, 121, .inr (.inl r100))), (w107, .inl (cJ, 121, .inr (.inl r105))), (w119, .inl (cJ, 121, .inr (.inl r117))), (w122, .inl (cJ, 121, .inr (.inl r120))), (w126, .inl (cJ, 121, .inr (.inl r123)))] ++ (sW sb110 cB bv116 bc_112 bf_113 false bn_114))) := hD
              refine lv_iload_n hx hb dX9_totalOfProduct_117 rfl (lv_at hl 3 rfl) ?_
              obtain ⟨r127, ib_128, e129, h⟩ := zb2_some h
              have hPc := zsub (wn := (mW q v cJ V ib_124 dn rf mk th_98 ++ ([(w126, .inl (cJ, 121, .inr (.inl r123)))]))) hP [0, 1, 6] rfl
              have hDc := hD.sub (ws' := (mW q v cJ V ib_124 dn rf mk th_98 ++ ([(w126, .inl (cJ, 121, .inr (.inl r123)))]))) [0, 1, 6] (by decide) rfl
              refine zgol (va_runV (As := [.ref w126, .int p2]) (rest := [.ref sb110]) ⟨hx, hb, hml, hown, hts⟩ (c_X9_totalOf l D q v cJ cI cO cB V ib_124 dn rf mk th_98 F w126 r123 p2 r127 ib_128 e129 H.size) (cwV 2 hts gX9_totalOfProduct_X9_totalOf rfl rfl rfl hdV_X9_totalOf ⟨Nat.le_of_ble_eq_true rfl, Nat.le_of_ble_eq_true rfl⟩) (zpreV (q0 := 0) (ci := 9) (T := TX9) (N := 6) hK hPc hDc rfl rfl [.ref w126, .int p2]) rfl rfl hl.1 rfl (lv_room (Nat.le_of_ble_eq_true rfl)) dX9_totalOfProduct_118 ⟨Nat.le_of_ble_eq_true rfl, Nat.le_of_ble_eq_true rfl⟩) (va_free hD hS hA [0, 1, 6] rfl) (zjs (wn := (mW q v cJ V ib_128 dn rf mk th_98 ++ ([(w102, .inl (cJ, 121, .inr (.inl r100))), (w107, .inl (cJ, 121, .inr (.inl r105))), (w119, .inl (cJ, 121, .inr (.inl r117))), (w122, .inl (cJ, 121, .inr (.inl r120))), (w126, .inl (cJ, 121, .inr (.inl r123)))] ++ (sW sb110 cB bv116 bc_112 bf_113 false bn_114)))) [6, 7, 0, 1, 2, 3, 8, 4, 5] (zjF (wr := ([(w102, .inl (cJ, 121, .inr (.inl r100))), (w107, .inl (cJ, 121, .inr (.inl r105))), (w119, .inl (cJ, 121, .inr (.inl r117))), (w122, .inl (cJ, 121, .inr (.inl r120)))] ++ (sW sb110 cB bv116 bc_112 bf_113 false bn_114))) hP hD hS hA [0, 1, 6] [2, 3, 4, 5, 7, 8] rfl rfl (by decide) (by decide)) rfl (by decide)) hS (fun H locs hP hD hS => ?_)
              replace hP : va_P D vwCl (mW q v cJ V ib_128 dn rf mk th_98 ++ ([(w102, .inl (cJ, 121, .inr (.inl r100))), (w107, .inl (cJ, 121, .inr (.inl r105))), (w119, .inl (cJ, 121, .inr (.inl r117))), (w122, .inl (cJ, 121, .inr (.inl r120))), (w126, .inl (cJ, 121, .inr (.inl r123)))] ++ (sW sb110 cB bv116 bc_112 bf_113 false bn_114))) H := hP
              replace hD : va_D A (mW q v cJ V ib_128 dn rf mk th_98 ++ ([(w102, .inl (cJ, 121, .inr (.inl r100))), (w107, .inl (cJ, 121, .inr (.inl r105))), (w119, .inl (cJ, 121, .inr (.inl r117))), (w122, .inl (cJ, 121, .inr (.inl r120))), (w126, .inl (cJ, 121, .inr (.inl r123)))] ++ (sW sb110 cB bv116 bc_112 bf_113 false bn_114))) := hD
              obtain ⟨bc_130, bf_131, bn_132, e133, h⟩ := zb3_some h
              have hPc := zsub (wn := (sW sb110 cB bv116 bc_112 bf_113 false bn_114)) hP [7, 8] rfl
              have hDc := hD.sub (ws' := (sW sb110 cB bv116 bc_112 bf_113 false bn_114)) [7, 8] (by decide) rfl
              refine zgosr (va_runV (As := [.long r127]) (rest := []) ⟨hx, hb, hml, hown, hts⟩ (c_J4_append_f7089 l D sb110 cJ cI cO cB bv116 bc_112 bf_113 false bn_114 F r127 bc_130 bf_131 bn_132 e133 H.size) (cwV 1 hts gX9_totalOfProduct_J4_append_f7089 rfl rfl rfl hdV_J4_append_f7089 ⟨Nat.le_of_ble_eq_true rfl, Nat.le_of_ble_eq_true rfl⟩) (zxpreV hE hS (va_free hD hS hA [7, 8] rfl) (q0 := 0) (ci := 1) (T := TJ4) (N := 4) hK hPc hDc rfl rfl [.long r127]) rfl rfl hl.1 rfl (lv_room (Nat.le_of_ble_eq_true rfl)) dX9_totalOfProduct_121 ⟨Nat.le_of_ble_eq_true rfl, Nat.le_of_ble_eq_true rfl⟩) (va_free hD hS hA [7, 8] rfl) (fun bv134 => (zjs (wn := (mW q v cJ V ib_128 dn rf mk th_98 ++ ([(w102, .inl (cJ, 121, .inr (.inl r100))), (w107, .inl (cJ, 121, .inr (.inl r105))), (w119, .inl (cJ, 121, .inr (.inl r117))), (w122, .inl (cJ, 121, .inr (.inl r120))), (w126, .inl (cJ, 121, .inr (.inl r123)))] ++ (sW sb110 cB bv134 bc_130 bf_131 false bn_132)))) [0, 1, 2, 3, 4, 5, 6, 7, 8] (zjF (wr := (mW q v cJ V ib_128 dn rf mk th_98 ++ ([(w102, .inl (cJ, 121, .inr (.inl r100))), (w107, .inl (cJ, 121, .inr (.inl r105))), (w119, .inl (cJ, 121, .inr (.inl r117))), (w122, .inl (cJ, 121, .inr (.inl r120))), (w126, .inl (cJ, 121, .inr (.inl r123)))]))) hP hD hS hA [7, 8] [0, 1, 2, 3, 4, 5, 6] rfl rfl (by decide) (by decide)) rfl (by decide))) hS (fun bv134 H locs hP hD hS => ?_)
              replace hP : va_P D vwCl (mW q v cJ V ib_128 dn rf mk th_98 ++ ([(w102, .inl (cJ, 121, .inr (.inl r100))), (w107, .inl (cJ, 121, .inr (.inl r105))), (w119, .inl (cJ, 121, .inr (.inl r117))), (w122, .inl (cJ, 121, .inr (.inl r120))), (w126, .inl (cJ, 121, .inr (.inl r123)))] ++ (sW sb110 cB bv134 bc_130 bf_131 false bn_132))) H := hP
              replace hD : va_D A (mW q v cJ V ib_128 dn rf mk th_98 ++ ([(w102, .inl (cJ, 121, .inr (.inl r100))), (w107, .inl (cJ, 121, .inr (.inl r105))), (w119, .inl (cJ, 121, .inr (.inl r117))), (w122, .inl (cJ, 121, .inr (.inl r120))), (w126, .inl (cJ, 121, .inr (.inl r123)))] ++ (sW sb110 cB bv134 bc_130 bf_131 false bn_132))) := hD
              obtain ⟨r137, r138, e139, h⟩ := zb2_some h
              have hPc := zsub (wn := ([(sb110, .inr (1, [.ref bv134, .int 0, .int (z01 false), .int bn_132])), (bv134, .inl (cB, bc_130, .inl bf_131))] : va_W)) hP [7, 8] rfl
              have hDc := hD.sub (ws' := ([(sb110, .inr (1, [.ref bv134, .int 0, .int (z01 false), .int bn_132])), (bv134, .inl (cB, bc_130, .inl bf_131))] : va_W)) [7, 8] (by decide) rfl
              refine zgoss (va_runV (As := []) (rest := []) ⟨hx, hb, hml, hown, hts⟩ (c_J4_toString_0e30d l D cJ cI cO cB sb110 bv134 bc_130 bf_131 false bn_132 r137 r138 e139 H.size) (cwV 0 hts gX9_totalOfProduct_J4_toString_0e30d rfl rfl rfl hdV_J4_toString_0e30d ⟨Nat.le_of_ble_eq_true rfl, Nat.le_of_ble_eq_true rfl⟩) (zxpreV hE hS (va_free hD hS hA [7, 8] rfl) (q0 := 0) (ci := 1) (T := TJ4) (N := 4) hK hPc hDc rfl rfl []) rfl rfl hl.1 rfl (lv_room (Nat.le_of_ble_eq_true rfl)) dX9_totalOfProduct_124 ⟨Nat.le_of_ble_eq_true rfl, Nat.le_of_ble_eq_true rfl⟩) (va_free hD hS hA [7, 8] rfl) (fun s135 u136 => zjs (wn := (mW q v cJ V ib_128 dn rf mk th_98 ++ ([(w102, .inl (cJ, 121, .inr (.inl r100))), (w107, .inl (cJ, 121, .inr (.inl r105))), (w119, .inl (cJ, 121, .inr (.inl r117))), (w122, .inl (cJ, 121, .inr (.inl r120))), (w126, .inl (cJ, 121, .inr (.inl r123))), (s135, .inr (0, [.ref u136, .int 0, .int 0, .int 0])), (u136, .inl (cB, r137, .inl r138))]))) [0, 1, 2, 3, 4, 5, 6, 7, 8] (zjF (wr := (mW q v cJ V ib_128 dn rf mk th_98 ++ ([(w102, .inl (cJ, 121, .inr (.inl r100))), (w107, .inl (cJ, 121, .inr (.inl r105))), (w119, .inl (cJ, 121, .inr (.inl r117))), (w122, .inl (cJ, 121, .inr (.inl r120))), (w126, .inl (cJ, 121, .inr (.inl r123)))]))) hP hD hS hA [7, 8] [0, 1, 2, 3, 4, 5, 6] rfl rfl (by decide) (by decide)) rfl (by decide)) hS (fun s135 u136 H locs hP hD hS => ?_)
              replace hP : va_P D vwCl (mW q v cJ V ib_128 dn rf mk th_98 ++ ([(w102, .inl (cJ, 121, .inr (.inl r100))), (w107, .inl (cJ, 121, .inr (.inl r105))), (w119, .inl (cJ, 121, .inr (.inl r117))), (w122, .inl (cJ, 121, .inr (.inl r120))), (w126, .inl (cJ, 121, .inr (.inl r123))), (s135, .inr (0, [.ref u136, .int 0, .int 0, .int 0])), (u136, .inl (cB, r137, .inl r138))])) H := hP
              replace hD : va_D A (mW q v cJ V ib_128 dn rf mk th_98 ++ ([(w102, .inl (cJ, 121, .inr (.inl r100))), (w107, .inl (cJ, 121, .inr (.inl r105))), (w119, .inl (cJ, 121, .inr (.inl r117))), (w122, .inl (cJ, 121, .inr (.inl r120))), (w126, .inl (cJ, 121, .inr (.inl r123))), (s135, .inr (0, [.ref u136, .int 0, .int 0, .int 0])), (u136, .inl (cB, r137, .inl r138))])) := hD
              have g0 := Option.some.inj h
              obtain ⟨h1, g1⟩ := Prod.mk.inj g0
              subst h1
              subst g1
              replace hP := zsub (wn := (mW q v cJ V ib_128 dn rf mk th_98)) hP [0, 1] rfl
              replace hD := hD.sub (ws' := (mW q v cJ V ib_128 dn rf mk th_98)) [0, 1] (by decide) rfl
              exact W.aret (v := .ref s135) hx hb hr (Or.inl ⟨_, rfl⟩) (Or.inr ⟨_, rfl⟩) (fun t ht hW => ⟨⟨(), s135, rfl, trivial, by rw [ht]; exact hP, va_K.moved hW.alike hK, hD⟩, hS.F ht⟩) hS.2.2 dX9_totalOfProduct_127
            · replace h := zif_f h c79
              refine lv_aload_n hx hb dX9_totalOfProduct_82 rfl (lv_at hl 0 rfl) ?_
              refine lv_iconst (v := (3 : Int32)) hx hb dX9_totalOfProduct_83 (by decide) ?_
              refine va_put (D := D) (ci := 9) (v := .int (3 : Int32)) (ty := .int) (C := RX9) (T := TX9) (N := 6) hx hb hts kwX9 tyX9 tyX9_ok nmX9 hown hK hP hD hS 0 rfl rfl 5 (by decide) kf_13 (fun _ h9 => h9) rfl rfl rfl rfl (Nat.le_of_ble_eq_true rfl) dX9_totalOfProduct_84 (fun H locs hP hD hS => ?_)
              replace hP : va_P D vwCl (mW q v cJ V ib dn rf mk (3 : Int32) ++ ([(w102, .inl (cJ, 121, .inr (.inl r100))), (w107, .inl (cJ, 121, .inr (.inl r105)))])) H := hP
              replace hD : va_D A (mW q v cJ V ib dn rf mk (3 : Int32) ++ ([(w102, .inl (cJ, 121, .inr (.inl r100))), (w107, .inl (cJ, 121, .inr (.inl r105)))])) := hD
              refine va_ldcS hx hb hown hR133 dX9_totalOfProduct_87 ?_
              have g0 := Option.some.inj h
              obtain ⟨h1, g1⟩ := Prod.mk.inj g0
              subst h1
              subst g1
              replace hP := zsub (wn := (mW q v cJ V ib dn rf mk (3 : Int32))) hP [0, 1] rfl
              replace hD := hD.sub (ws' := (mW q v cJ V ib dn rf mk (3 : Int32))) [0, 1] (by decide) rfl
              refine W.widen (k := 11) (n := 1079) (by decide) (by decide) ?_
              exact W.aret (v := .ref st133) hx hb hr (Or.inl ⟨_, rfl⟩) (Or.inr ⟨_, rfl⟩) (fun t ht hW => ⟨⟨(), st133, rfl, trivial, by rw [ht]; exact hP, va_K.moved hW.alike hK, hD⟩, hS.F ht⟩) hS.2.2 dX9_totalOfProduct_89
        · replace h := zif_f h c48
          refine va_ldcS hx hb hown hR133 dX9_totalOfProduct_51 ?_
          have g0 := Option.some.inj h
          obtain ⟨h1, g1⟩ := Prod.mk.inj g0
          subst h1
          subst g1
          refine W.widen (k := 11) (n := 1079) (by decide) (by decide) ?_
          exact W.aret (v := .ref st133) hx hb hr (Or.inl ⟨_, rfl⟩) (Or.inr ⟨_, rfl⟩) (fun t ht hW => ⟨⟨(), st133, rfl, trivial, by rw [ht]; exact hP, va_K.moved hW.alike hK, hD⟩, hS.F ht⟩) hS.2.2 dX9_totalOfProduct_53
      replace h := zlt_h h
      refine lv_if_eq (tgt := 44) hx hb dX9_totalOfProduct_27 (by decide) (fun c27 => ?_) (fun c27 => ?_)
      · replace h := zif_t h c27
        exact hGW _ _ _ _ _ (J2  _ _ ls hP hD hS (lv_sub hl [0, 1, 2, 3, 4] rfl) h)
      · replace h := zif_f h c27
        refine lv_iload hx hb dX9_totalOfProduct_30 (lv_at hl 4 rfl) ?_
        refine lv_iconst (v := (0 : Int32)) hx hb dX9_totalOfProduct_32 (by decide) ?_
        refine lv_iconst (v := (2 : Int32)) hx hb dX9_totalOfProduct_33 (by decide) ?_
        obtain ⟨r140, e141, h⟩ := zb1_some h
        refine zgoi (va_runS (As := [.int p3, .int (0 : Int32), .int (2 : Int32)]) (rest := [.int (1 : Int32), .ref q]) ⟨hx, hb, hml, hown, hts⟩ (c_X9_isIn l D (zT cJ cI cO cB) p3 (0 : Int32) (2 : Int32) r140 e141 H.size) (va_cwS 3 hts gX9_totalOfProduct_X9_isIn rfl rfl rfl hdS_X9_isIn ⟨Nat.le_of_ble_eq_true rfl, Nat.le_of_ble_eq_true rfl⟩) (zpreS hK zP0 (zD0 (A := A)) [.int p3, .int (0 : Int32), .int (2 : Int32)]) rfl rfl hl.1 rfl (lv_room (Nat.le_of_ble_eq_true rfl)) dX9_totalOfProduct_34 ⟨Nat.le_of_ble_eq_true rfl, Nat.le_of_ble_eq_true rfl⟩) (zf0 hS hA) (zjE hP hD) hS (fun H locs hP hD hS => ?_)
        refine lv_if_eq (tgt := 44) hx hb dX9_totalOfProduct_37 (by decide) (fun c37 => ?_) (fun c37 => ?_)
        · replace h := zif_t h c37
          exact hGW _ _ _ _ _ (J2  _ _ ls hP hD hS (lv_sub hl [0, 1, 2, 3, 4] rfl) h)
        · replace h := zif_f h c37
          refine lv_iconst (v := (1 : Int32)) hx hb dX9_totalOfProduct_40 (by decide) ?_
          refine lv_goto (tgt := 45) hx hb dX9_totalOfProduct_41 (by decide) ?_
          obtain ⟨r142, th_143, e144, h⟩ := zb2_some h
          refine zgoi (va_runV (As := [.int (1 : Int32), .int (1 : Int32)]) (rest := []) ⟨hx, hb, hml, hown, hts⟩ (c_X9_isThrown l D q v cJ cI cO cB V ib dn rf mk th true true r142 th_143 e144 H.size) (cwV 2 hts gX9_totalOfProduct_X9_isThrown rfl rfl rfl hdV_X9_isThrown ⟨Nat.le_of_ble_eq_true rfl, Nat.le_of_ble_eq_true rfl⟩) (zpreV (q0 := 0) (ci := 9) (T := TX9) (N := 6) hK hP hD rfl rfl [.int (1 : Int32), .int (1 : Int32)]) rfl rfl hl.1 rfl (lv_room (Nat.le_of_ble_eq_true rfl)) dX9_totalOfProduct_45 ⟨Nat.le_of_ble_eq_true rfl, Nat.le_of_ble_eq_true rfl⟩) (zfree hD hS hA) (zjW hD hS hA) hS (fun H locs hP hD hS => ?_)
          replace hP : va_P D vwCl (mW q v cJ V ib dn rf mk th_143) H := hP
          replace hD : va_D A (mW q v cJ V ib dn rf mk th_143) := hD
          refine lv_if_eq (tgt := 54) hx hb dX9_totalOfProduct_48 (by decide) (fun c48 => ?_) (fun c48 => ?_)
          · replace h := zif_t h c48
            refine lv_aload_n hx hb dX9_totalOfProduct_54 rfl (lv_at hl 0 rfl) ?_
            refine lv_iload_n hx hb dX9_totalOfProduct_55 rfl (lv_at hl 1 rfl) ?_
            obtain ⟨r145, e146, h⟩ := zb1_some h
            refine zgon (va_runV (As := [.int p0]) (rest := []) ⟨hx, hb, hml, hown, hts⟩ (c_X9_of l D q v cJ cI cO cB V ib dn rf mk th_143 F p0 r145 e146 H.size) (cwV 1 hts gX9_totalOfProduct_X9_of rfl rfl rfl hdV_X9_of ⟨Nat.le_of_ble_eq_true rfl, Nat.le_of_ble_eq_true rfl⟩) (zpreV (q0 := 0) (ci := 9) (T := TX9) (N := 6) hK hP hD rfl rfl [.int p0]) rfl rfl hl.1 rfl (lv_room (Nat.le_of_ble_eq_true rfl)) dX9_totalOfProduct_56 ⟨Nat.le_of_ble_eq_true rfl, Nat.le_of_ble_eq_true rfl⟩) (zfree hD hS hA) (fun _ => zjW hD hS hA) hS (fun w147 H locs hP hD hS => ?_)
            replace hP : va_P D vwCl (mW q v cJ V ib dn rf mk th_143 ++ ([(w147, .inl (cJ, 121, .inr (.inl r145)))])) H := hP
            replace hD : va_D A (mW q v cJ V ib dn rf mk th_143 ++ ([(w147, .inl (cJ, 121, .inr (.inl r145)))])) := hD
            refine lv_iload_n hx hb dX9_totalOfProduct_59 rfl (lv_at hl 3 rfl) ?_
            refine lv_ldc hx hb hown kc_157 dX9_totalOfProduct_60 ?_
            obtain ⟨r148, e149, h⟩ := zb1_some h
            have hPc := zsub (wn := ([(w147, .inl (cJ, 121, .inr (.inl r145)))] : va_W)) hP [2] rfl
            have hDc := hD.sub (ws' := ([(w147, .inl (cJ, 121, .inr (.inl r145)))] : va_W)) [2] (by decide) rfl
            refine zgoi (va_runS (As := [.ref w147, .int p2, .int (1000000 : Int32)]) (rest := []) ⟨hx, hb, hml, hown, hts⟩ (c_X9_isGreat l D cJ cI cO cB F w147 r145 p2 (1000000 : Int32) r148 e149 H.size) (va_cwS 3 hts gX9_totalOfProduct_X9_isGreat rfl rfl rfl hdS_X9_isGreat ⟨Nat.le_of_ble_eq_true rfl, Nat.le_of_ble_eq_true rfl⟩) (zpreS hK hPc hDc [.ref w147, .int p2, .int (1000000 : Int32)]) rfl rfl hl.1 rfl (lv_room (Nat.le_of_ble_eq_true rfl)) dX9_totalOfProduct_62 ⟨Nat.le_of_ble_eq_true rfl, Nat.le_of_ble_eq_true rfl⟩) (va_free hD hS hA [2] rfl) (zjs (wn := (mW q v cJ V ib dn rf mk th_143 ++ ([(w147, .inl (cJ, 121, .inr (.inl r145)))]))) [0, 1, 2] (zjF (wr := (mW q v cJ V ib dn rf mk th_143)) hP hD hS hA [2] [0, 1] rfl rfl (by decide) (by decide)) rfl (by decide)) hS (fun H locs hP hD hS => ?_)
            replace hP : va_P D vwCl (mW q v cJ V ib dn rf mk th_143 ++ ([(w147, .inl (cJ, 121, .inr (.inl r145)))])) H := hP
            replace hD : va_D A (mW q v cJ V ib dn rf mk th_143 ++ ([(w147, .inl (cJ, 121, .inr (.inl r145)))])) := hD
            refine lv_if_ne (tgt := 82) hx hb dX9_totalOfProduct_65 (by decide) (fun c65 => ?_) (fun c65 => ?_)
            · replace h := zif_t h c65
              refine lv_aload_n hx hb dX9_totalOfProduct_82 rfl (lv_at hl 0 rfl) ?_
              refine lv_iconst (v := (3 : Int32)) hx hb dX9_totalOfProduct_83 (by decide) ?_
              refine va_put (D := D) (ci := 9) (v := .int (3 : Int32)) (ty := .int) (C := RX9) (T := TX9) (N := 6) hx hb hts kwX9 tyX9 tyX9_ok nmX9 hown hK hP hD hS 0 rfl rfl 5 (by decide) kf_13 (fun _ h9 => h9) rfl rfl rfl rfl (Nat.le_of_ble_eq_true rfl) dX9_totalOfProduct_84 (fun H locs hP hD hS => ?_)
              replace hP : va_P D vwCl (mW q v cJ V ib dn rf mk (3 : Int32) ++ ([(w147, .inl (cJ, 121, .inr (.inl r145)))])) H := hP
              replace hD : va_D A (mW q v cJ V ib dn rf mk (3 : Int32) ++ ([(w147, .inl (cJ, 121, .inr (.inl r145)))])) := hD
              refine va_ldcS hx hb hown hR133 dX9_totalOfProduct_87 ?_
              have g0 := Option.some.inj h
              obtain ⟨h1, g1⟩ := Prod.mk.inj g0
              subst h1
              subst g1
              replace hP := zsub (wn := (mW q v cJ V ib dn rf mk (3 : Int32))) hP [0, 1] rfl
              replace hD := hD.sub (ws' := (mW q v cJ V ib dn rf mk (3 : Int32))) [0, 1] (by decide) rfl
              refine W.widen (k := 11) (n := 1079) (by decide) (by decide) ?_
              exact W.aret (v := .ref st133) hx hb hr (Or.inl ⟨_, rfl⟩) (Or.inr ⟨_, rfl⟩) (fun t ht hW => ⟨⟨(), st133, rfl, trivial, by rw [ht]; exact hP, va_K.moved hW.alike hK, hD⟩, hS.F ht⟩) hS.2.2 dX9_totalOfProduct_89
            · replace h := zif_fn h c65
              refine lv_aload_n hx hb dX9_totalOfProduct_68 rfl (lv_at hl 0 rfl) ?_
              refine lv_iload_n hx hb dX9_totalOfProduct_69 rfl (lv_at hl 2 rfl) ?_
              obtain ⟨r150, e151, h⟩ := zb1_some h
              have hPc := zsub (wn := (mW q v cJ V ib dn rf mk th_143)) hP [0, 1] rfl
              have hDc := hD.sub (ws' := (mW q v cJ V ib dn rf mk th_143)) [0, 1] (by decide) rfl
              refine zgon (va_runV (As := [.int p1]) (rest := []) ⟨hx, hb, hml, hown, hts⟩ (c_X9_of l D q v cJ cI cO cB V ib dn rf mk th_143 F p1 r150 e151 H.size) (cwV 1 hts gX9_totalOfProduct_X9_of rfl rfl rfl hdV_X9_of ⟨Nat.le_of_ble_eq_true rfl, Nat.le_of_ble_eq_true rfl⟩) (zpreV (q0 := 0) (ci := 9) (T := TX9) (N := 6) hK hPc hDc rfl rfl [.int p1]) rfl rfl hl.1 rfl (lv_room (Nat.le_of_ble_eq_true rfl)) dX9_totalOfProduct_70 ⟨Nat.le_of_ble_eq_true rfl, Nat.le_of_ble_eq_true rfl⟩) (va_free hD hS hA [0, 1] rfl) (fun w152 => (zjs (wn := (mW q v cJ V ib dn rf mk th_143 ++ ([(w147, .inl (cJ, 121, .inr (.inl r145))), (w152, .inl (cJ, 121, .inr (.inl r150)))]))) [1, 2, 0, 3] (zjF (wr := ([(w147, .inl (cJ, 121, .inr (.inl r145)))] : va_W)) hP hD hS hA [0, 1] [2] rfl rfl (by decide) (by decide)) rfl (by decide))) hS (fun w152 H locs hP hD hS => ?_)
              replace hP : va_P D vwCl (mW q v cJ V ib dn rf mk th_143 ++ ([(w147, .inl (cJ, 121, .inr (.inl r145))), (w152, .inl (cJ, 121, .inr (.inl r150)))])) H := hP
              replace hD : va_D A (mW q v cJ V ib dn rf mk th_143 ++ ([(w147, .inl (cJ, 121, .inr (.inl r145))), (w152, .inl (cJ, 121, .inr (.inl r150)))])) := hD
              refine lv_iload_n hx hb dX9_totalOfProduct_73 rfl (lv_at hl 3 rfl) ?_
              refine lv_ldc hx hb hown kc_157 dX9_totalOfProduct_74 ?_
              obtain ⟨r153, e154, h⟩ := zb1_some h
              have hPc := zsub (wn := ([(w152, .inl (cJ, 121, .inr (.inl r150)))] : va_W)) hP [3] rfl
              have hDc := hD.sub (ws' := ([(w152, .inl (cJ, 121, .inr (.inl r150)))] : va_W)) [3] (by decide) rfl
              refine zgoi (va_runS (As := [.ref w152, .int p2, .int (1000000 : Int32)]) (rest := []) ⟨hx, hb, hml, hown, hts⟩ (c_X9_isGreat l D cJ cI cO cB F w152 r150 p2 (1000000 : Int32) r153 e154 H.size) (va_cwS 3 hts gX9_totalOfProduct_X9_isGreat rfl rfl rfl hdS_X9_isGreat ⟨Nat.le_of_ble_eq_true rfl, Nat.le_of_ble_eq_true rfl⟩) (zpreS hK hPc hDc [.ref w152, .int p2, .int (1000000 : Int32)]) rfl rfl hl.1 rfl (lv_room (Nat.le_of_ble_eq_true rfl)) dX9_totalOfProduct_76 ⟨Nat.le_of_ble_eq_true rfl, Nat.le_of_ble_eq_true rfl⟩) (va_free hD hS hA [3] rfl) (zjs (wn := (mW q v cJ V ib dn rf mk th_143 ++ ([(w147, .inl (cJ, 121, .inr (.inl r145))), (w152, .inl (cJ, 121, .inr (.inl r150)))]))) [0, 1, 2, 3] (zjF (wr := (mW q v cJ V ib dn rf mk th_143 ++ ([(w147, .inl (cJ, 121, .inr (.inl r145)))]))) hP hD hS hA [3] [0, 1, 2] rfl rfl (by decide) (by decide)) rfl (by decide)) hS (fun H locs hP hD hS => ?_)
              replace hP : va_P D vwCl (mW q v cJ V ib dn rf mk th_143 ++ ([(w147, .inl (cJ, 121, .inr (.inl r145))), (w152, .inl (cJ, 121, .inr (.inl r150)))])) H := hP
              replace hD : va_D A (mW q v cJ V ib dn rf mk th_143 ++ ([(w147, .inl (cJ, 121, .inr (.inl r145))), (w152, .inl (cJ, 121, .inr (.inl r150)))])) := hD
              refine lv_if_eq (tgt := 90) hx hb dX9_totalOfProduct_79 (by decide) (fun c79 => ?_) (fun c79 => ?_)
              · replace h := zif_t h c79
                refine va_new (ci := 1) (fs := [.null, .int 0, .int 0, .int 0]) (C := RJ4) (T := TJ4) (N := 4) hx hb hts kwJ4 tyJ4 tyJ4_ok hown kc_135 kin_J4 kii_J4 hK hP hD hS hA rfl (fun j hj => by rcases (show j = 0 ∨ j = 1 ∨ j = 2 ∨ j = 3 by omega) with rfl | rfl | rfl | rfl <;> rfl) (Nat.le_of_ble_eq_true rfl) (Nat.le_of_ble_eq_true rfl) dX9_totalOfProduct_90 (fun sb155 H hP hD hS => ?_)
                replace hP : va_P D vwCl ((mW q v cJ V ib dn rf mk th_143 ++ ([(w147, .inl (cJ, 121, .inr (.inl r145))), (w152, .inl (cJ, 121, .inr (.inl r150)))])) ++ [(sb155, .inr (1, [.null, .int 0, .int 0, .int 0]))]) H := hP
                replace hD : va_D A ((mW q v cJ V ib dn rf mk th_143 ++ ([(w147, .inl (cJ, 121, .inr (.inl r145))), (w152, .inl (cJ, 121, .inr (.inl r150)))])) ++ [(sb155, .inr (1, [.null, .int 0, .int 0, .int 0]))]) := hD
                refine lv_dup hx hb dX9_totalOfProduct_93 rfl ?_
                have hPc := zsub (wn := ([(sb155, .inr (1, [.null, .int 0, .int 0, .int 0]))] : va_W)) hP [4] rfl
                have hDc := hD.sub (ws' := ([(sb155, .inr (1, [.null, .int 0, .int 0, .int 0]))] : va_W)) [4] (by decide) rfl
                refine zgoc (va_runI (As := []) (rest := [.ref sb155]) ⟨hx, hb, hml, hown, hts⟩ (c_J4_init_da8c8 l D cJ cI cO cB sb155 H.size) (cwI 0 hts gX9_totalOfProduct_J4_init_da8c8 rfl rfl rfl kii_J4 km_137 kim_J4i rfl (by decide +kernel) ⟨Nat.le_of_ble_eq_true rfl, Nat.le_of_ble_eq_true rfl⟩) (zxpreS hE hS (va_free hD hS hA [4] rfl) hK hPc hDc [.ref sb155]) rfl rfl hl.1 rfl (lv_room (Nat.le_of_ble_eq_true rfl)) dX9_totalOfProduct_94 ⟨Nat.le_of_ble_eq_true rfl, Nat.le_of_ble_eq_true rfl⟩) (va_free hD hS hA [4] rfl) (fun u => zjF (wr := (mW q v cJ V ib dn rf mk th_143 ++ ([(w147, .inl (cJ, 121, .inr (.inl r145))), (w152, .inl (cJ, 121, .inr (.inl r150)))]))) hP hD hS hA [4] [0, 1, 2, 3] rfl rfl (by decide) (by decide)) hS (fun u156 H locs hP hD hS => ?_)
                replace hP : va_P D vwCl (mW q v cJ V ib dn rf mk th_143 ++ ([(w147, .inl (cJ, 121, .inr (.inl r145))), (w152, .inl (cJ, 121, .inr (.inl r150)))] ++ (sW sb155 cB (u156 0) 16 (fun _ => 0) false 0))) H := hP
                replace hD : va_D A (mW q v cJ V ib dn rf mk th_143 ++ ([(w147, .inl (cJ, 121, .inr (.inl r145))), (w152, .inl (cJ, 121, .inr (.inl r150)))] ++ (sW sb155 cB (u156 0) 16 (fun _ => 0) false 0))) := hD
                refine va_ldcS hx hb hown hR133 dX9_totalOfProduct_97 ?_
                obtain ⟨bc_157, bf_158, bn_159, e160, h⟩ := zb3_some h
                have hPc := zsub (wn := (sW sb155 cB (u156 0) 16 (fun _ => 0) false 0)) hP [4, 5] rfl
                have hDc := hD.sub (ws' := (sW sb155 cB (u156 0) 16 (fun _ => 0) false 0)) [4, 5] (by decide) rfl
                refine zgosr (va_runV (As := [.ref st133]) (rest := []) ⟨hx, hb, hml, hown, hts⟩ (c_J4_append_15ec4 l D sb155 cJ cI cO cB (u156 0) 16 (fun _ => 0) false 0 st133 0 (zbt 133) bc_157 bf_158 bn_159 e160 H.size) (cwV 1 hts gX9_totalOfProduct_J4_append_15ec4 rfl rfl rfl hdV_J4_append_15ec4 ⟨Nat.le_of_ble_eq_true rfl, Nat.le_of_ble_eq_true rfl⟩) (zspreV hE (zSt.here hst_st133 hS (va_free hD hS hA [4, 5] rfl)) hS (va_free hD hS hA [4, 5] rfl) (q0 := 0) (ci := 1) (T := TJ4) (N := 4) hK hPc hDc rfl rfl [.ref st133]) rfl rfl hl.1 rfl (lv_room (Nat.le_of_ble_eq_true rfl)) dX9_totalOfProduct_99 ⟨Nat.le_of_ble_eq_true rfl, Nat.le_of_ble_eq_true rfl⟩) (va_free hD hS hA [4, 5] rfl) (fun bv161 => (zjs (wn := (mW q v cJ V ib dn rf mk th_143 ++ ([(w147, .inl (cJ, 121, .inr (.inl r145))), (w152, .inl (cJ, 121, .inr (.inl r150)))] ++ (sW sb155 cB bv161 bc_157 bf_158 false bn_159)))) [0, 1, 2, 3, 4, 5] (zjF (wr := (mW q v cJ V ib dn rf mk th_143 ++ ([(w147, .inl (cJ, 121, .inr (.inl r145))), (w152, .inl (cJ, 121, .inr (.inl r150)))]))) hP hD hS hA [4, 5] [0, 1, 2, 3] rfl rfl (by decide) (by decide)) rfl (by decide))) hS (fun bv161 H locs hP hD hS => ?_)
                replace hP : va_P D vwCl (mW q v cJ V ib dn rf mk th_143 ++ ([(w147, .inl (cJ, 121, .inr (.inl r145))), (w152, .inl (cJ, 121, .inr (.inl r150)))] ++ (sW sb155 cB bv161 bc_157 bf_158 false bn_159))) H := hP
                replace hD : va_D A (mW q v cJ V ib dn rf mk th_143 ++ ([(w147, .inl (cJ, 121, .inr (.inl r145))), (w152, .inl (cJ, 121, .inr (.inl r150)))] ++ (sW sb155 cB bv161 bc_157 bf_158 false bn_159))) := hD
                refine lv_aload_n hx hb dX9_totalOfProduct_102 rfl (lv_at hl 0 rfl) ?_
                refine lv_aload_n hx hb dX9_totalOfProduct_103 rfl (lv_at hl 0 rfl) ?_
                refine lv_aload_n hx hb dX9_totalOfProduct_104 rfl (lv_at hl 0 rfl) ?_
                refine lv_iload_n hx hb dX9_totalOfProduct_105 rfl (lv_at hl 1 rfl) ?_
                obtain ⟨r162, e163, h⟩ := zb1_some h
                have hPc := zsub (wn := (mW q v cJ V ib dn rf mk th_143)) hP [0, 1] rfl
                have hDc := hD.sub (ws' := (mW q v cJ V ib dn rf mk th_143)) [0, 1] (by decide) rfl
                refine zgon (va_runV (As := [.int p0]) (rest := [.ref q, .ref q, .ref sb155]) ⟨hx, hb, hml, hown, hts⟩ (c_X9_of l D q v cJ cI cO cB V ib dn rf mk th_143 F p0 r162 e163 H.size) (cwV 1 hts gX9_totalOfProduct_X9_of rfl rfl rfl hdV_X9_of ⟨Nat.le_of_ble_eq_true rfl, Nat.le_of_ble_eq_true rfl⟩) (zpreV (q0 := 0) (ci := 9) (T := TX9) (N := 6) hK hPc hDc rfl rfl [.int p0]) rfl rfl hl.1 rfl (lv_room (Nat.le_of_ble_eq_true rfl)) dX9_totalOfProduct_106 ⟨Nat.le_of_ble_eq_true rfl, Nat.le_of_ble_eq_true rfl⟩) (va_free hD hS hA [0, 1] rfl) (fun w164 => (zjs (wn := (mW q v cJ V ib dn rf mk th_143 ++ ([(w147, .inl (cJ, 121, .inr (.inl r145))), (w152, .inl (cJ, 121, .inr (.inl r150))), (w164, .inl (cJ, 121, .inr (.inl r162)))] ++ (sW sb155 cB bv161 bc_157 bf_158 false bn_159)))) [4, 5, 0, 1, 6, 2, 3] (zjF (wr := ([(w147, .inl (cJ, 121, .inr (.inl r145))), (w152, .inl (cJ, 121, .inr (.inl r150)))] ++ (sW sb155 cB bv161 bc_157 bf_158 false bn_159))) hP hD hS hA [0, 1] [2, 3, 4, 5] rfl rfl (by decide) (by decide)) rfl (by decide))) hS (fun w164 H locs hP hD hS => ?_)
                replace hP : va_P D vwCl (mW q v cJ V ib dn rf mk th_143 ++ ([(w147, .inl (cJ, 121, .inr (.inl r145))), (w152, .inl (cJ, 121, .inr (.inl r150))), (w164, .inl (cJ, 121, .inr (.inl r162)))] ++ (sW sb155 cB bv161 bc_157 bf_158 false bn_159))) H := hP
                replace hD : va_D A (mW q v cJ V ib dn rf mk th_143 ++ ([(w147, .inl (cJ, 121, .inr (.inl r145))), (w152, .inl (cJ, 121, .inr (.inl r150))), (w164, .inl (cJ, 121, .inr (.inl r162)))] ++ (sW sb155 cB bv161 bc_157 bf_158 false bn_159))) := hD
                refine lv_aload_n hx hb dX9_totalOfProduct_109 rfl (lv_at hl 0 rfl) ?_
                refine lv_iload_n hx hb dX9_totalOfProduct_110 rfl (lv_at hl 2 rfl) ?_
                obtain ⟨r165, e166, h⟩ := zb1_some h
                have hPc := zsub (wn := (mW q v cJ V ib dn rf mk th_143)) hP [0, 1] rfl
                have hDc := hD.sub (ws' := (mW q v cJ V ib dn rf mk th_143)) [0, 1] (by decide) rfl
                refine zgon (va_runV (As := [.int p1]) (rest := [.ref w164, .ref q, .ref q, .ref sb155]) ⟨hx, hb, hml, hown, hts⟩ (c_X9_of l D q v cJ cI cO cB V ib dn rf mk th_143 F p1 r165 e166 H.size) (cwV 1 hts gX9_totalOfProduct_X9_of rfl rfl rfl hdV_X9_of ⟨Nat.le_of_ble_eq_true rfl, Nat.le_of_ble_eq_true rfl⟩) (zpreV (q0 := 0) (ci := 9) (T := TX9) (N := 6) hK hPc hDc rfl rfl [.int p1]) rfl rfl hl.1 rfl (lv_room (Nat.le_of_ble_eq_true rfl)) dX9_totalOfProduct_111 ⟨Nat.le_of_ble_eq_true rfl, Nat.le_of_ble_eq_true rfl⟩) (va_free hD hS hA [0, 1] rfl) (fun w167 => (zjs (wn := (mW q v cJ V ib dn rf mk th_143 ++ ([(w147, .inl (cJ, 121, .inr (.inl r145))), (w152, .inl (cJ, 121, .inr (.inl r150))), (w164, .inl (cJ, 121, .inr (.inl r162))), (w167, .inl (cJ, 121, .inr (.inl r165)))] ++ (sW sb155 cB bv161 bc_157 bf_158 false bn_159)))) [5, 6, 0, 1, 2, 7, 3, 4] (zjF (wr := ([(w147, .inl (cJ, 121, .inr (.inl r145))), (w152, .inl (cJ, 121, .inr (.inl r150))), (w164, .inl (cJ, 121, .inr (.inl r162)))] ++ (sW sb155 cB bv161 bc_157 bf_158 false bn_159))) hP hD hS hA [0, 1] [2, 3, 4, 5, 6] rfl rfl (by decide) (by decide)) rfl (by decide))) hS (fun w167 H locs hP hD hS => ?_)
                replace hP : va_P D vwCl (mW q v cJ V ib dn rf mk th_143 ++ ([(w147, .inl (cJ, 121, .inr (.inl r145))), (w152, .inl (cJ, 121, .inr (.inl r150))), (w164, .inl (cJ, 121, .inr (.inl r162))), (w167, .inl (cJ, 121, .inr (.inl r165)))] ++ (sW sb155 cB bv161 bc_157 bf_158 false bn_159))) H := hP
                replace hD : va_D A (mW q v cJ V ib dn rf mk th_143 ++ ([(w147, .inl (cJ, 121, .inr (.inl r145))), (w152, .inl (cJ, 121, .inr (.inl r150))), (w164, .inl (cJ, 121, .inr (.inl r162))), (w167, .inl (cJ, 121, .inr (.inl r165)))] ++ (sW sb155 cB bv161 bc_157 bf_158 false bn_159))) := hD
                obtain ⟨r168, ib_169, e170, h⟩ := zb2_some h
                have hPc := zsub (wn := (mW q v cJ V ib dn rf mk th_143 ++ ([(w164, .inl (cJ, 121, .inr (.inl r162))), (w167, .inl (cJ, 121, .inr (.inl r165)))]))) hP [0, 1, 4, 5] rfl
                have hDc := hD.sub (ws' := (mW q v cJ V ib dn rf mk th_143 ++ ([(w164, .inl (cJ, 121, .inr (.inl r162))), (w167, .inl (cJ, 121, .inr (.inl r165)))]))) [0, 1, 4, 5] (by decide) rfl
                refine zgon (va_runV (As := [.ref w164, .ref w167]) (rest := [.ref q, .ref sb155]) ⟨hx, hb, hml, hown, hts⟩ (c_X9_product l D q v cJ cI cO cB V ib dn rf mk th_143 F w164 r162 w167 r165 r168 ib_169 e170 H.size) (cwV 2 hts gX9_totalOfProduct_X9_product rfl rfl rfl hdV_X9_product ⟨Nat.le_of_ble_eq_true rfl, Nat.le_of_ble_eq_true rfl⟩) (zpreV (q0 := 0) (ci := 9) (T := TX9) (N := 6) hK hPc hDc rfl rfl [.ref w164, .ref w167]) rfl rfl hl.1 rfl (lv_room (Nat.le_of_ble_eq_true rfl)) dX9_totalOfProduct_114 ⟨Nat.le_of_ble_eq_true rfl, Nat.le_of_ble_eq_true rfl⟩) (va_free hD hS hA [0, 1, 4, 5] rfl) (fun w171 => (zjs (wn := (mW q v cJ V ib_169 dn rf mk th_143 ++ ([(w147, .inl (cJ, 121, .inr (.inl r145))), (w152, .inl (cJ, 121, .inr (.inl r150))), (w164, .inl (cJ, 121, .inr (.inl r162))), (w167, .inl (cJ, 121, .inr (.inl r165))), (w171, .inl (cJ, 121, .inr (.inl r168)))] ++ (sW sb155 cB bv161 bc_157 bf_158 false bn_159)))) [4, 5, 0, 1, 6, 7, 8, 2, 3] (zjF (wr := ([(w147, .inl (cJ, 121, .inr (.inl r145))), (w152, .inl (cJ, 121, .inr (.inl r150)))] ++ (sW sb155 cB bv161 bc_157 bf_158 false bn_159))) hP hD hS hA [0, 1, 4, 5] [2, 3, 6, 7] rfl rfl (by decide) (by decide)) rfl (by decide))) hS (fun w171 H locs hP hD hS => ?_)
                replace hP : va_P D vwCl (mW q v cJ V ib_169 dn rf mk th_143 ++ ([(w147, .inl (cJ, 121, .inr (.inl r145))), (w152, .inl (cJ, 121, .inr (.inl r150))), (w164, .inl (cJ, 121, .inr (.inl r162))), (w167, .inl (cJ, 121, .inr (.inl r165))), (w171, .inl (cJ, 121, .inr (.inl r168)))] ++ (sW sb155 cB bv161 bc_157 bf_158 false bn_159))) H := hP
                replace hD : va_D A (mW q v cJ V ib_169 dn rf mk th_143 ++ ([(w147, .inl (cJ, 121, .inr (.inl r145))), (w152, .inl (cJ, 121, .inr (.inl r150))), (w164, .inl (cJ, 121, .inr (.inl r162))), (w167, .inl (cJ, 121, .inr (.inl r165))), (w171, .inl (cJ, 121, .inr (.inl r168)))] ++ (sW sb155 cB bv161 bc_157 bf_158 false bn_159))) := hD
                refine lv_iload_n hx hb dX9_totalOfProduct_117 rfl (lv_at hl 3 rfl) ?_
                obtain ⟨r172, ib_173, e174, h⟩ := zb2_some h
                have hPc := zsub (wn := (mW q v cJ V ib_169 dn rf mk th_143 ++ ([(w171, .inl (cJ, 121, .inr (.inl r168)))]))) hP [0, 1, 6] rfl
                have hDc := hD.sub (ws' := (mW q v cJ V ib_169 dn rf mk th_143 ++ ([(w171, .inl (cJ, 121, .inr (.inl r168)))]))) [0, 1, 6] (by decide) rfl
                refine zgol (va_runV (As := [.ref w171, .int p2]) (rest := [.ref sb155]) ⟨hx, hb, hml, hown, hts⟩ (c_X9_totalOf l D q v cJ cI cO cB V ib_169 dn rf mk th_143 F w171 r168 p2 r172 ib_173 e174 H.size) (cwV 2 hts gX9_totalOfProduct_X9_totalOf rfl rfl rfl hdV_X9_totalOf ⟨Nat.le_of_ble_eq_true rfl, Nat.le_of_ble_eq_true rfl⟩) (zpreV (q0 := 0) (ci := 9) (T := TX9) (N := 6) hK hPc hDc rfl rfl [.ref w171, .int p2]) rfl rfl hl.1 rfl (lv_room (Nat.le_of_ble_eq_true rfl)) dX9_totalOfProduct_118 ⟨Nat.le_of_ble_eq_true rfl, Nat.le_of_ble_eq_true rfl⟩) (va_free hD hS hA [0, 1, 6] rfl) (zjs (wn := (mW q v cJ V ib_173 dn rf mk th_143 ++ ([(w147, .inl (cJ, 121, .inr (.inl r145))), (w152, .inl (cJ, 121, .inr (.inl r150))), (w164, .inl (cJ, 121, .inr (.inl r162))), (w167, .inl (cJ, 121, .inr (.inl r165))), (w171, .inl (cJ, 121, .inr (.inl r168)))] ++ (sW sb155 cB bv161 bc_157 bf_158 false bn_159)))) [6, 7, 0, 1, 2, 3, 8, 4, 5] (zjF (wr := ([(w147, .inl (cJ, 121, .inr (.inl r145))), (w152, .inl (cJ, 121, .inr (.inl r150))), (w164, .inl (cJ, 121, .inr (.inl r162))), (w167, .inl (cJ, 121, .inr (.inl r165)))] ++ (sW sb155 cB bv161 bc_157 bf_158 false bn_159))) hP hD hS hA [0, 1, 6] [2, 3, 4, 5, 7, 8] rfl rfl (by decide) (by decide)) rfl (by decide)) hS (fun H locs hP hD hS => ?_)
                replace hP : va_P D vwCl (mW q v cJ V ib_173 dn rf mk th_143 ++ ([(w147, .inl (cJ, 121, .inr (.inl r145))), (w152, .inl (cJ, 121, .inr (.inl r150))), (w164, .inl (cJ, 121, .inr (.inl r162))), (w167, .inl (cJ, 121, .inr (.inl r165))), (w171, .inl (cJ, 121, .inr (.inl r168)))] ++ (sW sb155 cB bv161 bc_157 bf_158 false bn_159))) H := hP
                replace hD : va_D A (mW q v cJ V ib_173 dn rf mk th_143 ++ ([(w147, .inl (cJ, 121, .inr (.inl r145))), (w152, .inl (cJ, 121, .inr (.inl r150))), (w164, .inl (cJ, 121, .inr (.inl r162))), (w167, .inl (cJ, 121, .inr (.inl r165))), (w171, .inl (cJ, 121, .inr (.inl r168)))] ++ (sW sb155 cB bv161 bc_157 bf_158 false bn_159))) := hD
                obtain ⟨bc_175, bf_176, bn_177, e178, h⟩ := zb3_some h
                have hPc := zsub (wn := (sW sb155 cB bv161 bc_157 bf_158 false bn_159)) hP [7, 8] rfl
                have hDc := hD.sub (ws' := (sW sb155 cB bv161 bc_157 bf_158 false bn_159)) [7, 8] (by decide) rfl
                refine zgosr (va_runV (As := [.long r172]) (rest := []) ⟨hx, hb, hml, hown, hts⟩ (c_J4_append_f7089 l D sb155 cJ cI cO cB bv161 bc_157 bf_158 false bn_159 F r172 bc_175 bf_176 bn_177 e178 H.size) (cwV 1 hts gX9_totalOfProduct_J4_append_f7089 rfl rfl rfl hdV_J4_append_f7089 ⟨Nat.le_of_ble_eq_true rfl, Nat.le_of_ble_eq_true rfl⟩) (zxpreV hE hS (va_free hD hS hA [7, 8] rfl) (q0 := 0) (ci := 1) (T := TJ4) (N := 4) hK hPc hDc rfl rfl [.long r172]) rfl rfl hl.1 rfl (lv_room (Nat.le_of_ble_eq_true rfl)) dX9_totalOfProduct_121 ⟨Nat.le_of_ble_eq_true rfl, Nat.le_of_ble_eq_true rfl⟩) (va_free hD hS hA [7, 8] rfl) (fun bv179 => (zjs (wn := (mW q v cJ V ib_173 dn rf mk th_143 ++ ([(w147, .inl (cJ, 121, .inr (.inl r145))), (w152, .inl (cJ, 121, .inr (.inl r150))), (w164, .inl (cJ, 121, .inr (.inl r162))), (w167, .inl (cJ, 121, .inr (.inl r165))), (w171, .inl (cJ, 121, .inr (.inl r168)))] ++ (sW sb155 cB bv179 bc_175 bf_176 false bn_177)))) [0, 1, 2, 3, 4, 5, 6, 7, 8] (zjF (wr := (mW q v cJ V ib_173 dn rf mk th_143 ++ ([(w147, .inl (cJ, 121, .inr (.inl r145))), (w152, .inl (cJ, 121, .inr (.inl r150))), (w164, .inl (cJ, 121, .inr (.inl r162))), (w167, .inl (cJ, 121, .inr (.inl r165))), (w171, .inl (cJ, 121, .inr (.inl r168)))]))) hP hD hS hA [7, 8] [0, 1, 2, 3, 4, 5, 6] rfl rfl (by decide) (by decide)) rfl (by decide))) hS (fun bv179 H locs hP hD hS => ?_)
                replace hP : va_P D vwCl (mW q v cJ V ib_173 dn rf mk th_143 ++ ([(w147, .inl (cJ, 121, .inr (.inl r145))), (w152, .inl (cJ, 121, .inr (.inl r150))), (w164, .inl (cJ, 121, .inr (.inl r162))), (w167, .inl (cJ, 121, .inr (.inl r165))), (w171, .inl (cJ, 121, .inr (.inl r168)))] ++ (sW sb155 cB bv179 bc_175 bf_176 false bn_177))) H := hP
                replace hD : va_D A (mW q v cJ V ib_173 dn rf mk th_143 ++ ([(w147, .inl (cJ, 121, .inr (.inl r145))), (w152, .inl (cJ, 121, .inr (.inl r150))), (w164, .inl (cJ, 121, .inr (.inl r162))), (w167, .inl (cJ, 121, .inr (.inl r165))), (w171, .inl (cJ, 121, .inr (.inl r168)))] ++ (sW sb155 cB bv179 bc_175 bf_176 false bn_177))) := hD
                obtain ⟨r182, r183, e184, h⟩ := zb2_some h
                have hPc := zsub (wn := ([(sb155, .inr (1, [.ref bv179, .int 0, .int (z01 false), .int bn_177])), (bv179, .inl (cB, bc_175, .inl bf_176))] : va_W)) hP [7, 8] rfl
                have hDc := hD.sub (ws' := ([(sb155, .inr (1, [.ref bv179, .int 0, .int (z01 false), .int bn_177])), (bv179, .inl (cB, bc_175, .inl bf_176))] : va_W)) [7, 8] (by decide) rfl
                refine zgoss (va_runV (As := []) (rest := []) ⟨hx, hb, hml, hown, hts⟩ (c_J4_toString_0e30d l D cJ cI cO cB sb155 bv179 bc_175 bf_176 false bn_177 r182 r183 e184 H.size) (cwV 0 hts gX9_totalOfProduct_J4_toString_0e30d rfl rfl rfl hdV_J4_toString_0e30d ⟨Nat.le_of_ble_eq_true rfl, Nat.le_of_ble_eq_true rfl⟩) (zxpreV hE hS (va_free hD hS hA [7, 8] rfl) (q0 := 0) (ci := 1) (T := TJ4) (N := 4) hK hPc hDc rfl rfl []) rfl rfl hl.1 rfl (lv_room (Nat.le_of_ble_eq_true rfl)) dX9_totalOfProduct_124 ⟨Nat.le_of_ble_eq_true rfl, Nat.le_of_ble_eq_true rfl⟩) (va_free hD hS hA [7, 8] rfl) (fun s180 u181 => zjs (wn := (mW q v cJ V ib_173 dn rf mk th_143 ++ ([(w147, .inl (cJ, 121, .inr (.inl r145))), (w152, .inl (cJ, 121, .inr (.inl r150))), (w164, .inl (cJ, 121, .inr (.inl r162))), (w167, .inl (cJ, 121, .inr (.inl r165))), (w171, .inl (cJ, 121, .inr (.inl r168))), (s180, .inr (0, [.ref u181, .int 0, .int 0, .int 0])), (u181, .inl (cB, r182, .inl r183))]))) [0, 1, 2, 3, 4, 5, 6, 7, 8] (zjF (wr := (mW q v cJ V ib_173 dn rf mk th_143 ++ ([(w147, .inl (cJ, 121, .inr (.inl r145))), (w152, .inl (cJ, 121, .inr (.inl r150))), (w164, .inl (cJ, 121, .inr (.inl r162))), (w167, .inl (cJ, 121, .inr (.inl r165))), (w171, .inl (cJ, 121, .inr (.inl r168)))]))) hP hD hS hA [7, 8] [0, 1, 2, 3, 4, 5, 6] rfl rfl (by decide) (by decide)) rfl (by decide)) hS (fun s180 u181 H locs hP hD hS => ?_)
                replace hP : va_P D vwCl (mW q v cJ V ib_173 dn rf mk th_143 ++ ([(w147, .inl (cJ, 121, .inr (.inl r145))), (w152, .inl (cJ, 121, .inr (.inl r150))), (w164, .inl (cJ, 121, .inr (.inl r162))), (w167, .inl (cJ, 121, .inr (.inl r165))), (w171, .inl (cJ, 121, .inr (.inl r168))), (s180, .inr (0, [.ref u181, .int 0, .int 0, .int 0])), (u181, .inl (cB, r182, .inl r183))])) H := hP
                replace hD : va_D A (mW q v cJ V ib_173 dn rf mk th_143 ++ ([(w147, .inl (cJ, 121, .inr (.inl r145))), (w152, .inl (cJ, 121, .inr (.inl r150))), (w164, .inl (cJ, 121, .inr (.inl r162))), (w167, .inl (cJ, 121, .inr (.inl r165))), (w171, .inl (cJ, 121, .inr (.inl r168))), (s180, .inr (0, [.ref u181, .int 0, .int 0, .int 0])), (u181, .inl (cB, r182, .inl r183))])) := hD
                have g0 := Option.some.inj h
                obtain ⟨h1, g1⟩ := Prod.mk.inj g0
                subst h1
                subst g1
                replace hP := zsub (wn := (mW q v cJ V ib_173 dn rf mk th_143)) hP [0, 1] rfl
                replace hD := hD.sub (ws' := (mW q v cJ V ib_173 dn rf mk th_143)) [0, 1] (by decide) rfl
                exact W.aret (v := .ref s180) hx hb hr (Or.inl ⟨_, rfl⟩) (Or.inr ⟨_, rfl⟩) (fun t ht hW => ⟨⟨(), s180, rfl, trivial, by rw [ht]; exact hP, va_K.moved hW.alike hK, hD⟩, hS.F ht⟩) hS.2.2 dX9_totalOfProduct_127
              · replace h := zif_f h c79
                refine lv_aload_n hx hb dX9_totalOfProduct_82 rfl (lv_at hl 0 rfl) ?_
                refine lv_iconst (v := (3 : Int32)) hx hb dX9_totalOfProduct_83 (by decide) ?_
                refine va_put (D := D) (ci := 9) (v := .int (3 : Int32)) (ty := .int) (C := RX9) (T := TX9) (N := 6) hx hb hts kwX9 tyX9 tyX9_ok nmX9 hown hK hP hD hS 0 rfl rfl 5 (by decide) kf_13 (fun _ h9 => h9) rfl rfl rfl rfl (Nat.le_of_ble_eq_true rfl) dX9_totalOfProduct_84 (fun H locs hP hD hS => ?_)
                replace hP : va_P D vwCl (mW q v cJ V ib dn rf mk (3 : Int32) ++ ([(w147, .inl (cJ, 121, .inr (.inl r145))), (w152, .inl (cJ, 121, .inr (.inl r150)))])) H := hP
                replace hD : va_D A (mW q v cJ V ib dn rf mk (3 : Int32) ++ ([(w147, .inl (cJ, 121, .inr (.inl r145))), (w152, .inl (cJ, 121, .inr (.inl r150)))])) := hD
                refine va_ldcS hx hb hown hR133 dX9_totalOfProduct_87 ?_
                have g0 := Option.some.inj h
                obtain ⟨h1, g1⟩ := Prod.mk.inj g0
                subst h1
                subst g1
                replace hP := zsub (wn := (mW q v cJ V ib dn rf mk (3 : Int32))) hP [0, 1] rfl
                replace hD := hD.sub (ws' := (mW q v cJ V ib dn rf mk (3 : Int32))) [0, 1] (by decide) rfl
                refine W.widen (k := 11) (n := 1079) (by decide) (by decide) ?_
                exact W.aret (v := .ref st133) hx hb hr (Or.inl ⟨_, rfl⟩) (Or.inr ⟨_, rfl⟩) (fun t ht hW => ⟨⟨(), st133, rfl, trivial, by rw [ht]; exact hP, va_K.moved hW.alike hK, hD⟩, hS.F ht⟩) hS.2.2 dX9_totalOfProduct_89
          · replace h := zif_f h c48
            refine va_ldcS hx hb hown hR133 dX9_totalOfProduct_51 ?_
            have g0 := Option.some.inj h
            obtain ⟨h1, g1⟩ := Prod.mk.inj g0
            subst h1
            subst g1
            refine W.widen (k := 11) (n := 1079) (by decide) (by decide) ?_
            exact W.aret (v := .ref st133) hx hb hr (Or.inl ⟨_, rfl⟩) (Or.inr ⟨_, rfl⟩) (fun t ht hW => ⟨⟨(), st133, rfl, trivial, by rw [ht]; exact hP, va_K.moved hW.alike hK, hD⟩, hS.F ht⟩) hS.2.2 dX9_totalOfProduct_53

noncomputable def p_X9_determinant (F : Nat) (V : Nat → Int64) (p0 : Int32) (p1 : Int32) (p2 : Int32) : Option Int32 := (zb1 (p_X9_isOne p0) (fun r1 => (zb1 (p_X9_isIn p1 (1 : Int32) (6 : Int32)) (fun r3 => (zlt (zb2 (p_X9_isThrown r1 false) (fun r5 th_6 => (if (z01 r5) = 0 then (zb1 (p_X9_of F V p0) (fun r8 => (zb1 (p_X9_isGreat F r8 p1 (100 : Int32)) (fun r11 => (if (z01 r11) = 0 then (zb3 (p_J4_append_15ec4 16 (fun _ => 0) 0 0 (zbt 133)) (fun bc_15 bf_16 bn_17 => (zb1 (p_X9_of F V p0) (fun r20 => (zb1 (p_X9_determinantOf 8 F r20 p1 (1 : Int32) (254 : Int32)) (fun r23 => (zb3 (p_J4_append_f7089 F bc_15 bf_16 bn_17 r23) (fun bc_25 bf_26 bn_27 => (zb2 (p_J7_copyOfRange_39247 bc_25 bf_26 (0 : Int32) bn_27) (fun r32 r33 => (some th_6))))))))))) else (some (3 : Int32))))))) else (some th_6)))) (fun jf0 => (if (z01 r3) = 0 then (jf0 ) else (zb1 (p_X9_isIn p2 (0 : Int32) (1 : Int32)) (fun r35 => (if (z01 r35) = 0 then (jf0 ) else (zb2 (p_X9_isThrown r1 true) (fun r37 th_38 => (if (z01 r37) = 0 then (zb1 (p_X9_of F V p0) (fun r40 => (zb1 (p_X9_isGreat F r40 p1 (100 : Int32)) (fun r43 => (if (z01 r43) = 0 then (zb3 (p_J4_append_15ec4 16 (fun _ => 0) 0 0 (zbt 133)) (fun bc_47 bf_48 bn_49 => (zb1 (p_X9_of F V p0) (fun r52 => (zb1 (p_X9_determinantOf 8 F r52 p1 (1 : Int32) (254 : Int32)) (fun r55 => (zb3 (p_J4_append_f7089 F bc_47 bf_48 bn_49 r55) (fun bc_57 bf_58 bn_59 => (zb2 (p_J7_copyOfRange_39247 bc_57 bf_58 (0 : Int32) bn_59) (fun r64 r65 => (some th_38))))))))))) else (some (3 : Int32))))))) else (some th_38))))))))))))))
theorem hdV_X9_determinant : yX9_determinant.cls = RX9 ∧ yX9_determinant.cls ≠ "java/lang/invoke/MethodHandle" ∧ yX9_determinant.cls ≠ "java/lang/invoke/VarHandle" ∧ (parseMethodDescriptor yX9_determinant.desc).map (fun d => d.parameters.length) = some 3 := by decide +kernel
set_option maxHeartbeats 4000000 in
set_option maxRecDepth 100000 in
theorem c_X9_determinant (l : Launch) (D : va_G) (q v : Nat) (cJ cI cO cB : ClassId) (V : Nat → Int64) (ib : Bool) (dn : Int32) (rf : Int32) (mk : Int32) (th : Int32) (F : Nat) (p0 : Int32) (p1 : Int32) (p2 : Int32) (th' : Int32) (h : p_X9_determinant F V p0 p1 p2 = some th') : zGs l yX9_determinant wsX9_determinant 11 286 8 716 (zP3 D (zT cJ cI cO cB) (mW q v cJ V ib dn rf mk th)) [.ref q, .int p0, .int p1, .int p2] D (zT cJ cI cO cB) (mW q v cJ V ib dn rf mk th) (mW q v cJ V ib dn rf mk th') := by
  intro sz
  delta zQs
  refine Met.ofW (cc := cX9_determinant) (maxL := 4) (ret := (some (.object "java/lang/String"))) (by decide) rfl ?_
  intro p e s m args below meth c s₁ B hml hv
  obtain ⟨rfl, ⟨⟨hsz, hP, hK, hD0⟩, hE⟩, hT3⟩ := hv
  have hx := B.exec
  have hb := B.bytes
  have hr := B.returns
  have hts := atoms_spec (ws := wsX9_determinant) B.pre
  have hown : s.vm.findClass RX9 = some m.cls := findClass_of_methodNamed B.named
  have hlocks := B.notSynchronized
  subst hsz
  have hD := hD0.self (sz := s.heap.size)
  generalize hAe : va_A (mW q v cJ V ib dn rf mk th) s.heap.size = A at hD hE hT3 ⊢
  have hA : ∀ q : Nat, s.heap.size ≤ q → A q := fun q h => by rw [← hAe]; exact Or.inr h
  have hS : va_S A s.heap s.heap [] := va_S.rf
  have hl := lv_entry ([.ref q, .int p0, .int p1, .int p2]) (n := 4) (Nat.le_of_ble_eq_true rfl)
  rw [lg_entry_eq]
  generalize (lg_sl ([.ref q, .int p0, .int p1, .int p2]) ++ List.replicate (4 - (lg_sl ([.ref q, .int p0, .int p1, .int p2])).length) Slot.unset).toArray = ls at hl ⊢
  replace hl : lv_has ls 4 [(0, .ref q), (1, .int p0), (2, .int p1), (3, .int p2)] := hl
  obtain ⟨⟨st133, hR133, sv_st133, hst_st133⟩, ⟨st176, hR176, sv_st176, hst_st176⟩, ⟨st181, hR181, sv_st181, hst_st181⟩⟩ := hT3
  have kc_135 := hts (.classLink RX9 135 RJ4) (zmem 1 rfl)
  have kin_J4 := hts (.instantiable RJ4 4) (List.mem_cons_of_mem _ (List.mem_append_right _ (List.mem_cons_of_mem _ (List.mem_append_right _ (List.mem_cons_of_mem _ (List.mem_append_right _ (List.mem_cons_of_mem _ (List.mem_append_left _ (List.mem_append_left _ (List.mem_append_right _ (List.mem_cons_of_mem _ (List.mem_append_right _ (List.mem_cons_of_mem _ (List.mem_append_right _ (zmem 2 rfl)))))))))))))))
  have kii_J4 := hts (.initialized RJ4) (zmem 2 rfl)
  have kwJ4 : ∀ w ∈ u_ws RJ4 TJ4 4, w ∈ wsX9_determinant := fun w h => List.mem_cons_of_mem _ (List.mem_append_left _ (List.mem_append_left _ (List.mem_append_left _ (List.mem_append_left _ (List.mem_append_right _ (List.mem_cons_of_mem _ (List.mem_append_right _ (List.mem_cons_of_mem _ (List.mem_append_left _ (List.mem_append_right _ h))))))))))
  have km_137 := hts (.methodLink RX9 137 yJ4_init_da8c8) (zmem 16 rfl)
  have kim_J4i := hts (.instanceMethod yJ4_init_da8c8) (zmem 17 rfl)
  have kwX9 : ∀ w ∈ u_ws RX9 TX9 6, w ∈ wsX9_determinant := fun w h => List.mem_cons_of_mem _ (List.mem_append_left _ (List.mem_append_left _ (List.mem_append_left _ (List.mem_append_left _ (List.mem_append_left _ (List.mem_append_left _ (List.mem_append_left _ (List.mem_append_right _ (List.mem_cons_of_mem _ (List.mem_append_right _ h))))))))))
  have kf_13 := hts (.fieldLink RX9 13 "DivisorworkModel" "thrown" "I") (List.mem_cons_of_mem _ (List.mem_append_left _ (List.mem_append_left _ (List.mem_append_left _ (List.mem_append_left _ (List.mem_append_left _ (List.mem_append_left _ (List.mem_append_left _ (List.mem_append_right _ (zmem 1 rfl))))))))))
  replace h : (zb1 (p_X9_isOne p0) (fun r1 => (zb1 (p_X9_isIn p1 (1 : Int32) (6 : Int32)) (fun r3 => (zlt (zb2 (p_X9_isThrown r1 false) (fun r5 th_6 => (if (z01 r5) = 0 then (zb1 (p_X9_of F V p0) (fun r8 => (zb1 (p_X9_isGreat F r8 p1 (100 : Int32)) (fun r11 => (if (z01 r11) = 0 then (zb3 (p_J4_append_15ec4 16 (fun _ => 0) 0 0 (zbt 133)) (fun bc_15 bf_16 bn_17 => (zb1 (p_X9_of F V p0) (fun r20 => (zb1 (p_X9_determinantOf 8 F r20 p1 (1 : Int32) (254 : Int32)) (fun r23 => (zb3 (p_J4_append_f7089 F bc_15 bf_16 bn_17 r23) (fun bc_25 bf_26 bn_27 => (zb2 (p_J7_copyOfRange_39247 bc_25 bf_26 (0 : Int32) bn_27) (fun r32 r33 => (some th_6))))))))))) else (some (3 : Int32))))))) else (some th_6)))) (fun jf0 => (if (z01 r3) = 0 then (jf0 ) else (zb1 (p_X9_isIn p2 (0 : Int32) (1 : Int32)) (fun r35 => (if (z01 r35) = 0 then (jf0 ) else (zb2 (p_X9_isThrown r1 true) (fun r37 th_38 => (if (z01 r37) = 0 then (zb1 (p_X9_of F V p0) (fun r40 => (zb1 (p_X9_isGreat F r40 p1 (100 : Int32)) (fun r43 => (if (z01 r43) = 0 then (zb3 (p_J4_append_15ec4 16 (fun _ => 0) 0 0 (zbt 133)) (fun bc_47 bf_48 bn_49 => (zb1 (p_X9_of F V p0) (fun r52 => (zb1 (p_X9_determinantOf 8 F r52 p1 (1 : Int32) (254 : Int32)) (fun r55 => (zb3 (p_J4_append_f7089 F bc_47 bf_48 bn_49 r55) (fun bc_57 bf_58 bn_59 => (zb2 (p_J7_copyOfRange_39247 bc_57 bf_58 (0 : Int32) bn_59) (fun r64 r65 => (some th_38))))))))))) else (some (3 : Int32))))))) else (some th_38)))))))))))))) = some th' := h
  refine zabs (fun G hG hGW => ?_)
  obtain ⟨H, hHe⟩ : ∃ H, H = s.heap := ⟨_, rfl⟩
  rw [← hHe] at hP
  replace hS : va_S A s.heap H [] := by rw [hHe]; exact hS
  refine zheap hHe ?_
  refine lv_aload_n hx hb dX9_determinant_0 rfl (lv_at hl 0 rfl) ?_
  refine lv_iload_n hx hb dX9_determinant_1 rfl (lv_at hl 1 rfl) ?_
  obtain ⟨r1, e2, h⟩ := zb1_some h
  refine zgoi (va_runS (As := [.int p0]) (rest := [.ref q]) ⟨hx, hb, hml, hown, hts⟩ (c_X9_isOne l D (zT cJ cI cO cB) p0 r1 e2 H.size) (va_cwS 1 hts gX9_determinant_X9_isOne rfl rfl rfl hdS_X9_isOne ⟨Nat.le_of_ble_eq_true rfl, Nat.le_of_ble_eq_true rfl⟩) (zpreS hK zP0 (zD0 (A := A)) [.int p0]) rfl rfl hl.1 rfl (lv_room (Nat.le_of_ble_eq_true rfl)) dX9_determinant_2 ⟨Nat.le_of_ble_eq_true rfl, Nat.le_of_ble_eq_true rfl⟩) (zf0 hS hA) (zjE hP hD) hS (fun H locs hP hD hS => ?_)
  refine lv_iload_n hx hb dX9_determinant_5 rfl (lv_at hl 2 rfl) ?_
  refine lv_iconst (v := (1 : Int32)) hx hb dX9_determinant_6 (by decide) ?_
  refine lv_bipush (v := (6 : Int32)) hx hb dX9_determinant_7 (by decide) ?_
  obtain ⟨r3, e4, h⟩ := zb1_some h
  refine zgoi (va_runS (As := [.int p1, .int (1 : Int32), .int (6 : Int32)]) (rest := [.int (z01 r1), .ref q]) ⟨hx, hb, hml, hown, hts⟩ (c_X9_isIn l D (zT cJ cI cO cB) p1 (1 : Int32) (6 : Int32) r3 e4 H.size) (va_cwS 3 hts gX9_determinant_X9_isIn rfl rfl rfl hdS_X9_isIn ⟨Nat.le_of_ble_eq_true rfl, Nat.le_of_ble_eq_true rfl⟩) (zpreS hK zP0 (zD0 (A := A)) [.int p1, .int (1 : Int32), .int (6 : Int32)]) rfl rfl hl.1 rfl (lv_room (Nat.le_of_ble_eq_true rfl)) dX9_determinant_9 ⟨Nat.le_of_ble_eq_true rfl, Nat.le_of_ble_eq_true rfl⟩) (zf0 hS hA) (zjE hP hD) hS (fun H locs hP hD hS => ?_)
  have J0 : ∀  (H : Heap) (locs : List Loc) (ls : Array Slot), va_P D vwCl (mW q v cJ V ib dn rf mk th) H → va_D A (mW q v cJ V ib dn rf mk th) → va_S A s.heap H locs → lv_has ls 4 [(0, .ref q), (1, .int p0), (2, .int p1), (3, .int p2)] → (zb2 (p_X9_isThrown r1 false) (fun r5 th_6 => (if (z01 r5) = 0 then (zb1 (p_X9_of F V p0) (fun r8 => (zb1 (p_X9_isGreat F r8 p1 (100 : Int32)) (fun r11 => (if (z01 r11) = 0 then (zb3 (p_J4_append_15ec4 16 (fun _ => 0) 0 0 (zbt 133)) (fun bc_15 bf_16 bn_17 => (zb1 (p_X9_of F V p0) (fun r20 => (zb1 (p_X9_determinantOf 8 F r20 p1 (1 : Int32) (254 : Int32)) (fun r23 => (zb3 (p_J4_append_f7089 F bc_15 bf_16 bn_17 r23) (fun bc_25 bf_26 bn_27 => (zb2 (p_J7_copyOfRange_39247 bc_25 bf_26 (0 : Int32) bn_27) (fun r32 r33 => (some th_6))))))))))) else (some (3 : Int32))))))) else (some th_6)))) = some th' → G H locs 0 0 (F0 m 28 ls [.int (z01 r1), .ref q]) := by
    intro  H locs ls hP hD hS hl h
    refine hG _ _ _ _ _ ?_
    refine lv_iconst (v := (0 : Int32)) hx hb dX9_determinant_28 (by decide) ?_
    obtain ⟨r5, th_6, e7, h⟩ := zb2_some h
    refine zgoi (va_runV (As := [.int (z01 r1), .int (0 : Int32)]) (rest := []) ⟨hx, hb, hml, hown, hts⟩ (c_X9_isThrown l D q v cJ cI cO cB V ib dn rf mk th r1 false r5 th_6 e7 H.size) (cwV 2 hts gX9_determinant_X9_isThrown rfl rfl rfl hdV_X9_isThrown ⟨Nat.le_of_ble_eq_true rfl, Nat.le_of_ble_eq_true rfl⟩) (zpreV (q0 := 0) (ci := 9) (T := TX9) (N := 6) hK hP hD rfl rfl [.int (z01 r1), .int (0 : Int32)]) rfl rfl hl.1 rfl (lv_room (Nat.le_of_ble_eq_true rfl)) dX9_determinant_29 ⟨Nat.le_of_ble_eq_true rfl, Nat.le_of_ble_eq_true rfl⟩) (zfree hD hS hA) (zjW hD hS hA) hS (fun H locs hP hD hS => ?_)
    replace hP : va_P D vwCl (mW q v cJ V ib dn rf mk th_6) H := hP
    replace hD : va_D A (mW q v cJ V ib dn rf mk th_6) := hD
    refine lv_if_eq (tgt := 38) hx hb dX9_determinant_32 (by decide) (fun c32 => ?_) (fun c32 => ?_)
    · replace h := zif_t h c32
      refine lv_aload_n hx hb dX9_determinant_38 rfl (lv_at hl 0 rfl) ?_
      refine lv_iload_n hx hb dX9_determinant_39 rfl (lv_at hl 1 rfl) ?_
      obtain ⟨r8, e9, h⟩ := zb1_some h
      refine zgon (va_runV (As := [.int p0]) (rest := []) ⟨hx, hb, hml, hown, hts⟩ (c_X9_of l D q v cJ cI cO cB V ib dn rf mk th_6 F p0 r8 e9 H.size) (cwV 1 hts gX9_determinant_X9_of rfl rfl rfl hdV_X9_of ⟨Nat.le_of_ble_eq_true rfl, Nat.le_of_ble_eq_true rfl⟩) (zpreV (q0 := 0) (ci := 9) (T := TX9) (N := 6) hK hP hD rfl rfl [.int p0]) rfl rfl hl.1 rfl (lv_room (Nat.le_of_ble_eq_true rfl)) dX9_determinant_40 ⟨Nat.le_of_ble_eq_true rfl, Nat.le_of_ble_eq_true rfl⟩) (zfree hD hS hA) (fun _ => zjW hD hS hA) hS (fun w10 H locs hP hD hS => ?_)
      replace hP : va_P D vwCl (mW q v cJ V ib dn rf mk th_6 ++ ([(w10, .inl (cJ, 121, .inr (.inl r8)))])) H := hP
      replace hD : va_D A (mW q v cJ V ib dn rf mk th_6 ++ ([(w10, .inl (cJ, 121, .inr (.inl r8)))])) := hD
      refine lv_iload_n hx hb dX9_determinant_43 rfl (lv_at hl 2 rfl) ?_
      refine lv_bipush (v := (100 : Int32)) hx hb dX9_determinant_44 (by decide) ?_
      obtain ⟨r11, e12, h⟩ := zb1_some h
      have hPc := zsub (wn := ([(w10, .inl (cJ, 121, .inr (.inl r8)))] : va_W)) hP [2] rfl
      have hDc := hD.sub (ws' := ([(w10, .inl (cJ, 121, .inr (.inl r8)))] : va_W)) [2] (by decide) rfl
      refine zgoi (va_runS (As := [.ref w10, .int p1, .int (100 : Int32)]) (rest := []) ⟨hx, hb, hml, hown, hts⟩ (c_X9_isGreat l D cJ cI cO cB F w10 r8 p1 (100 : Int32) r11 e12 H.size) (va_cwS 3 hts gX9_determinant_X9_isGreat rfl rfl rfl hdS_X9_isGreat ⟨Nat.le_of_ble_eq_true rfl, Nat.le_of_ble_eq_true rfl⟩) (zpreS hK hPc hDc [.ref w10, .int p1, .int (100 : Int32)]) rfl rfl hl.1 rfl (lv_room (Nat.le_of_ble_eq_true rfl)) dX9_determinant_46 ⟨Nat.le_of_ble_eq_true rfl, Nat.le_of_ble_eq_true rfl⟩) (va_free hD hS hA [2] rfl) (zjs (wn := (mW q v cJ V ib dn rf mk th_6 ++ ([(w10, .inl (cJ, 121, .inr (.inl r8)))]))) [0, 1, 2] (zjF (wr := (mW q v cJ V ib dn rf mk th_6)) hP hD hS hA [2] [0, 1] rfl rfl (by decide) (by decide)) rfl (by decide)) hS (fun H locs hP hD hS => ?_)
      replace hP : va_P D vwCl (mW q v cJ V ib dn rf mk th_6 ++ ([(w10, .inl (cJ, 121, .inr (.inl r8)))])) H := hP
      replace hD : va_D A (mW q v cJ V ib dn rf mk th_6 ++ ([(w10, .inl (cJ, 121, .inr (.inl r8)))])) := hD
      refine lv_if_eq (tgt := 60) hx hb dX9_determinant_49 (by decide) (fun c49 => ?_) (fun c49 => ?_)
      · replace h := zif_t h c49
        refine va_new (ci := 1) (fs := [.null, .int 0, .int 0, .int 0]) (C := RJ4) (T := TJ4) (N := 4) hx hb hts kwJ4 tyJ4 tyJ4_ok hown kc_135 kin_J4 kii_J4 hK hP hD hS hA rfl (fun j hj => by rcases (show j = 0 ∨ j = 1 ∨ j = 2 ∨ j = 3 by omega) with rfl | rfl | rfl | rfl <;> rfl) (Nat.le_of_ble_eq_true rfl) (Nat.le_of_ble_eq_true rfl) dX9_determinant_60 (fun sb13 H hP hD hS => ?_)
        replace hP : va_P D vwCl ((mW q v cJ V ib dn rf mk th_6 ++ ([(w10, .inl (cJ, 121, .inr (.inl r8)))])) ++ [(sb13, .inr (1, [.null, .int 0, .int 0, .int 0]))]) H := hP
        replace hD : va_D A ((mW q v cJ V ib dn rf mk th_6 ++ ([(w10, .inl (cJ, 121, .inr (.inl r8)))])) ++ [(sb13, .inr (1, [.null, .int 0, .int 0, .int 0]))]) := hD
        refine lv_dup hx hb dX9_determinant_63 rfl ?_
        have hPc := zsub (wn := ([(sb13, .inr (1, [.null, .int 0, .int 0, .int 0]))] : va_W)) hP [3] rfl
        have hDc := hD.sub (ws' := ([(sb13, .inr (1, [.null, .int 0, .int 0, .int 0]))] : va_W)) [3] (by decide) rfl
        refine zgoc (va_runI (As := []) (rest := [.ref sb13]) ⟨hx, hb, hml, hown, hts⟩ (c_J4_init_da8c8 l D cJ cI cO cB sb13 H.size) (cwI 0 hts gX9_determinant_J4_init_da8c8 rfl rfl rfl kii_J4 km_137 kim_J4i rfl (by decide +kernel) ⟨Nat.le_of_ble_eq_true rfl, Nat.le_of_ble_eq_true rfl⟩) (zxpreS hE hS (va_free hD hS hA [3] rfl) hK hPc hDc [.ref sb13]) rfl rfl hl.1 rfl (lv_room (Nat.le_of_ble_eq_true rfl)) dX9_determinant_64 ⟨Nat.le_of_ble_eq_true rfl, Nat.le_of_ble_eq_true rfl⟩) (va_free hD hS hA [3] rfl) (fun u => zjF (wr := (mW q v cJ V ib dn rf mk th_6 ++ ([(w10, .inl (cJ, 121, .inr (.inl r8)))]))) hP hD hS hA [3] [0, 1, 2] rfl rfl (by decide) (by decide)) hS (fun u14 H locs hP hD hS => ?_)
        replace hP : va_P D vwCl (mW q v cJ V ib dn rf mk th_6 ++ ([(w10, .inl (cJ, 121, .inr (.inl r8)))] ++ (sW sb13 cB (u14 0) 16 (fun _ => 0) false 0))) H := hP
        replace hD : va_D A (mW q v cJ V ib dn rf mk th_6 ++ ([(w10, .inl (cJ, 121, .inr (.inl r8)))] ++ (sW sb13 cB (u14 0) 16 (fun _ => 0) false 0))) := hD
        refine va_ldcS hx hb hown hR133 dX9_determinant_67 ?_
        obtain ⟨bc_15, bf_16, bn_17, e18, h⟩ := zb3_some h
        have hPc := zsub (wn := (sW sb13 cB (u14 0) 16 (fun _ => 0) false 0)) hP [3, 4] rfl
        have hDc := hD.sub (ws' := (sW sb13 cB (u14 0) 16 (fun _ => 0) false 0)) [3, 4] (by decide) rfl
        refine zgosr (va_runV (As := [.ref st133]) (rest := []) ⟨hx, hb, hml, hown, hts⟩ (c_J4_append_15ec4 l D sb13 cJ cI cO cB (u14 0) 16 (fun _ => 0) false 0 st133 0 (zbt 133) bc_15 bf_16 bn_17 e18 H.size) (cwV 1 hts gX9_determinant_J4_append_15ec4 rfl rfl rfl hdV_J4_append_15ec4 ⟨Nat.le_of_ble_eq_true rfl, Nat.le_of_ble_eq_true rfl⟩) (zspreV hE (zSt.here hst_st133 hS (va_free hD hS hA [3, 4] rfl)) hS (va_free hD hS hA [3, 4] rfl) (q0 := 0) (ci := 1) (T := TJ4) (N := 4) hK hPc hDc rfl rfl [.ref st133]) rfl rfl hl.1 rfl (lv_room (Nat.le_of_ble_eq_true rfl)) dX9_determinant_69 ⟨Nat.le_of_ble_eq_true rfl, Nat.le_of_ble_eq_true rfl⟩) (va_free hD hS hA [3, 4] rfl) (fun bv19 => (zjs (wn := (mW q v cJ V ib dn rf mk th_6 ++ ([(w10, .inl (cJ, 121, .inr (.inl r8)))] ++ (sW sb13 cB bv19 bc_15 bf_16 false bn_17)))) [0, 1, 2, 3, 4] (zjF (wr := (mW q v cJ V ib dn rf mk th_6 ++ ([(w10, .inl (cJ, 121, .inr (.inl r8)))]))) hP hD hS hA [3, 4] [0, 1, 2] rfl rfl (by decide) (by decide)) rfl (by decide))) hS (fun bv19 H locs hP hD hS => ?_)
        replace hP : va_P D vwCl (mW q v cJ V ib dn rf mk th_6 ++ ([(w10, .inl (cJ, 121, .inr (.inl r8)))] ++ (sW sb13 cB bv19 bc_15 bf_16 false bn_17))) H := hP
        replace hD : va_D A (mW q v cJ V ib dn rf mk th_6 ++ ([(w10, .inl (cJ, 121, .inr (.inl r8)))] ++ (sW sb13 cB bv19 bc_15 bf_16 false bn_17))) := hD
        refine lv_aload_n hx hb dX9_determinant_72 rfl (lv_at hl 0 rfl) ?_
        refine lv_iload_n hx hb dX9_determinant_73 rfl (lv_at hl 1 rfl) ?_
        obtain ⟨r20, e21, h⟩ := zb1_some h
        have hPc := zsub (wn := (mW q v cJ V ib dn rf mk th_6)) hP [0, 1] rfl
        have hDc := hD.sub (ws' := (mW q v cJ V ib dn rf mk th_6)) [0, 1] (by decide) rfl
        refine zgon (va_runV (As := [.int p0]) (rest := [.ref sb13]) ⟨hx, hb, hml, hown, hts⟩ (c_X9_of l D q v cJ cI cO cB V ib dn rf mk th_6 F p0 r20 e21 H.size) (cwV 1 hts gX9_determinant_X9_of rfl rfl rfl hdV_X9_of ⟨Nat.le_of_ble_eq_true rfl, Nat.le_of_ble_eq_true rfl⟩) (zpreV (q0 := 0) (ci := 9) (T := TX9) (N := 6) hK hPc hDc rfl rfl [.int p0]) rfl rfl hl.1 rfl (lv_room (Nat.le_of_ble_eq_true rfl)) dX9_determinant_74 ⟨Nat.le_of_ble_eq_true rfl, Nat.le_of_ble_eq_true rfl⟩) (va_free hD hS hA [0, 1] rfl) (fun w22 => (zjs (wn := (mW q v cJ V ib dn rf mk th_6 ++ ([(w10, .inl (cJ, 121, .inr (.inl r8))), (w22, .inl (cJ, 121, .inr (.inl r20)))] ++ (sW sb13 cB bv19 bc_15 bf_16 false bn_17)))) [3, 4, 0, 5, 1, 2] (zjF (wr := ([(w10, .inl (cJ, 121, .inr (.inl r8)))] ++ (sW sb13 cB bv19 bc_15 bf_16 false bn_17))) hP hD hS hA [0, 1] [2, 3, 4] rfl rfl (by decide) (by decide)) rfl (by decide))) hS (fun w22 H locs hP hD hS => ?_)
        replace hP : va_P D vwCl (mW q v cJ V ib dn rf mk th_6 ++ ([(w10, .inl (cJ, 121, .inr (.inl r8))), (w22, .inl (cJ, 121, .inr (.inl r20)))] ++ (sW sb13 cB bv19 bc_15 bf_16 false bn_17))) H := hP
        replace hD : va_D A (mW q v cJ V ib dn rf mk th_6 ++ ([(w10, .inl (cJ, 121, .inr (.inl r8))), (w22, .inl (cJ, 121, .inr (.inl r20)))] ++ (sW sb13 cB bv19 bc_15 bf_16 false bn_17))) := hD
        refine lv_iload_n hx hb dX9_determinant_77 rfl (lv_at hl 2 rfl) ?_
        refine lv_iconst (v := (1 : Int32)) hx hb dX9_determinant_78 (by decide) ?_
        refine lv_sipush (v := (254 : Int32)) hx hb dX9_determinant_79 (by decide) ?_
        obtain ⟨r23, e24, h⟩ := zb1_some h
        have hPc := zsub (wn := ([(w22, .inl (cJ, 121, .inr (.inl r20)))] : va_W)) hP [3] rfl
        have hDc := hD.sub (ws' := ([(w22, .inl (cJ, 121, .inr (.inl r20)))] : va_W)) [3] (by decide) rfl
        refine zgol (va_runS (As := [.ref w22, .int p1, .int (1 : Int32), .int (254 : Int32)]) (rest := [.ref sb13]) ⟨hx, hb, hml, hown, hts⟩ (c_X9_determinantOf l D cJ cI cO cB F 8 w22 r20 p1 (1 : Int32) (254 : Int32) r23 e24 H.size) (va_cwS 4 hts gX9_determinant_X9_determinantOf rfl rfl rfl hdS_X9_determinantOf ⟨Nat.le_of_ble_eq_true rfl, Nat.le_of_ble_eq_true rfl⟩) (zpreS hK hPc hDc [.ref w22, .int p1, .int (1 : Int32), .int (254 : Int32)]) rfl rfl hl.1 rfl (lv_room (Nat.le_of_ble_eq_true rfl)) dX9_determinant_82 ⟨Nat.le_of_ble_eq_true rfl, Nat.le_of_ble_eq_true rfl⟩) (va_free hD hS hA [3] rfl) (zjs (wn := (mW q v cJ V ib dn rf mk th_6 ++ ([(w10, .inl (cJ, 121, .inr (.inl r8))), (w22, .inl (cJ, 121, .inr (.inl r20)))] ++ (sW sb13 cB bv19 bc_15 bf_16 false bn_17)))) [0, 1, 2, 5, 3, 4] (zjF (wr := (mW q v cJ V ib dn rf mk th_6 ++ ([(w10, .inl (cJ, 121, .inr (.inl r8)))] ++ (sW sb13 cB bv19 bc_15 bf_16 false bn_17)))) hP hD hS hA [3] [0, 1, 2, 4, 5] rfl rfl (by decide) (by decide)) rfl (by decide)) hS (fun H locs hP hD hS => ?_)
        replace hP : va_P D vwCl (mW q v cJ V ib dn rf mk th_6 ++ ([(w10, .inl (cJ, 121, .inr (.inl r8))), (w22, .inl (cJ, 121, .inr (.inl r20)))] ++ (sW sb13 cB bv19 bc_15 bf_16 false bn_17))) H := hP
        replace hD : va_D A (mW q v cJ V ib dn rf mk th_6 ++ ([(w10, .inl (cJ, 121, .inr (.inl r8))), (w22, .inl (cJ, 121, .inr (.inl r20)))] ++ (sW sb13 cB bv19 bc_15 bf_16 false bn_17))) := hD
        obtain ⟨bc_25, bf_26, bn_27, e28, h⟩ := zb3_some h
        have hPc := zsub (wn := (sW sb13 cB bv19 bc_15 bf_16 false bn_17)) hP [4, 5] rfl
        have hDc := hD.sub (ws' := (sW sb13 cB bv19 bc_15 bf_16 false bn_17)) [4, 5] (by decide) rfl
        refine zgosr (va_runV (As := [.long r23]) (rest := []) ⟨hx, hb, hml, hown, hts⟩ (c_J4_append_f7089 l D sb13 cJ cI cO cB bv19 bc_15 bf_16 false bn_17 F r23 bc_25 bf_26 bn_27 e28 H.size) (cwV 1 hts gX9_determinant_J4_append_f7089 rfl rfl rfl hdV_J4_append_f7089 ⟨Nat.le_of_ble_eq_true rfl, Nat.le_of_ble_eq_true rfl⟩) (zxpreV hE hS (va_free hD hS hA [4, 5] rfl) (q0 := 0) (ci := 1) (T := TJ4) (N := 4) hK hPc hDc rfl rfl [.long r23]) rfl rfl hl.1 rfl (lv_room (Nat.le_of_ble_eq_true rfl)) dX9_determinant_85 ⟨Nat.le_of_ble_eq_true rfl, Nat.le_of_ble_eq_true rfl⟩) (va_free hD hS hA [4, 5] rfl) (fun bv29 => (zjs (wn := (mW q v cJ V ib dn rf mk th_6 ++ ([(w10, .inl (cJ, 121, .inr (.inl r8))), (w22, .inl (cJ, 121, .inr (.inl r20)))] ++ (sW sb13 cB bv29 bc_25 bf_26 false bn_27)))) [0, 1, 2, 3, 4, 5] (zjF (wr := (mW q v cJ V ib dn rf mk th_6 ++ ([(w10, .inl (cJ, 121, .inr (.inl r8))), (w22, .inl (cJ, 121, .inr (.inl r20)))]))) hP hD hS hA [4, 5] [0, 1, 2, 3] rfl rfl (by decide) (by decide)) rfl (by decide))) hS (fun bv29 H locs hP hD hS => ?_)
        replace hP : va_P D vwCl (mW q v cJ V ib dn rf mk th_6 ++ ([(w10, .inl (cJ, 121, .inr (.inl r8))), (w22, .inl (cJ, 121, .inr (.inl r20)))] ++ (sW sb13 cB bv29 bc_25 bf_26 false bn_27))) H := hP
        replace hD : va_D A (mW q v cJ V ib dn rf mk th_6 ++ ([(w10, .inl (cJ, 121, .inr (.inl r8))), (w22, .inl (cJ, 121, .inr (.inl r20)))] ++ (sW sb13 cB bv29 bc_25 bf_26 false bn_27))) := hD
        obtain ⟨r32, r33, e34, h⟩ := zb2_some h
        have hPc := zsub (wn := ([(sb13, .inr (1, [.ref bv29, .int 0, .int (z01 false), .int bn_27])), (bv29, .inl (cB, bc_25, .inl bf_26))] : va_W)) hP [4, 5] rfl
        have hDc := hD.sub (ws' := ([(sb13, .inr (1, [.ref bv29, .int 0, .int (z01 false), .int bn_27])), (bv29, .inl (cB, bc_25, .inl bf_26))] : va_W)) [4, 5] (by decide) rfl
        refine zgoss (va_runV (As := []) (rest := []) ⟨hx, hb, hml, hown, hts⟩ (c_J4_toString_0e30d l D cJ cI cO cB sb13 bv29 bc_25 bf_26 false bn_27 r32 r33 e34 H.size) (cwV 0 hts gX9_determinant_J4_toString_0e30d rfl rfl rfl hdV_J4_toString_0e30d ⟨Nat.le_of_ble_eq_true rfl, Nat.le_of_ble_eq_true rfl⟩) (zxpreV hE hS (va_free hD hS hA [4, 5] rfl) (q0 := 0) (ci := 1) (T := TJ4) (N := 4) hK hPc hDc rfl rfl []) rfl rfl hl.1 rfl (lv_room (Nat.le_of_ble_eq_true rfl)) dX9_determinant_88 ⟨Nat.le_of_ble_eq_true rfl, Nat.le_of_ble_eq_true rfl⟩) (va_free hD hS hA [4, 5] rfl) (fun s30 u31 => zjs (wn := (mW q v cJ V ib dn rf mk th_6 ++ ([(w10, .inl (cJ, 121, .inr (.inl r8))), (w22, .inl (cJ, 121, .inr (.inl r20))), (s30, .inr (0, [.ref u31, .int 0, .int 0, .int 0])), (u31, .inl (cB, r32, .inl r33))]))) [0, 1, 2, 3, 4, 5] (zjF (wr := (mW q v cJ V ib dn rf mk th_6 ++ ([(w10, .inl (cJ, 121, .inr (.inl r8))), (w22, .inl (cJ, 121, .inr (.inl r20)))]))) hP hD hS hA [4, 5] [0, 1, 2, 3] rfl rfl (by decide) (by decide)) rfl (by decide)) hS (fun s30 u31 H locs hP hD hS => ?_)
        replace hP : va_P D vwCl (mW q v cJ V ib dn rf mk th_6 ++ ([(w10, .inl (cJ, 121, .inr (.inl r8))), (w22, .inl (cJ, 121, .inr (.inl r20))), (s30, .inr (0, [.ref u31, .int 0, .int 0, .int 0])), (u31, .inl (cB, r32, .inl r33))])) H := hP
        replace hD : va_D A (mW q v cJ V ib dn rf mk th_6 ++ ([(w10, .inl (cJ, 121, .inr (.inl r8))), (w22, .inl (cJ, 121, .inr (.inl r20))), (s30, .inr (0, [.ref u31, .int 0, .int 0, .int 0])), (u31, .inl (cB, r32, .inl r33))])) := hD
        have h1 := Option.some.inj h
        subst h1
        replace hP := zsub (wn := (mW q v cJ V ib dn rf mk th_6)) hP [0, 1] rfl
        replace hD := hD.sub (ws' := (mW q v cJ V ib dn rf mk th_6)) [0, 1] (by decide) rfl
        exact W.aret (v := .ref s30) hx hb hr (Or.inl ⟨_, rfl⟩) (Or.inr ⟨_, rfl⟩) (fun t ht hW => ⟨⟨(), s30, rfl, trivial, by rw [ht]; exact hP, va_K.moved hW.alike hK, hD⟩, hS.F ht⟩) hS.2.2 dX9_determinant_91
      · replace h := zif_f h c49
        refine lv_aload_n hx hb dX9_determinant_52 rfl (lv_at hl 0 rfl) ?_
        refine lv_iconst (v := (3 : Int32)) hx hb dX9_determinant_53 (by decide) ?_
        refine va_put (D := D) (ci := 9) (v := .int (3 : Int32)) (ty := .int) (C := RX9) (T := TX9) (N := 6) hx hb hts kwX9 tyX9 tyX9_ok nmX9 hown hK hP hD hS 0 rfl rfl 5 (by decide) kf_13 (fun _ h9 => h9) rfl rfl rfl rfl (Nat.le_of_ble_eq_true rfl) dX9_determinant_54 (fun H locs hP hD hS => ?_)
        replace hP : va_P D vwCl (mW q v cJ V ib dn rf mk (3 : Int32) ++ ([(w10, .inl (cJ, 121, .inr (.inl r8)))])) H := hP
        replace hD : va_D A (mW q v cJ V ib dn rf mk (3 : Int32) ++ ([(w10, .inl (cJ, 121, .inr (.inl r8)))])) := hD
        refine va_ldcS hx hb hown hR133 dX9_determinant_57 ?_
        have h1 := Option.some.inj h
        subst h1
        replace hP := zsub (wn := (mW q v cJ V ib dn rf mk (3 : Int32))) hP [0, 1] rfl
        replace hD := hD.sub (ws' := (mW q v cJ V ib dn rf mk (3 : Int32))) [0, 1] (by decide) rfl
        refine W.widen (k := 8) (n := 716) (by decide) (by decide) ?_
        exact W.aret (v := .ref st133) hx hb hr (Or.inl ⟨_, rfl⟩) (Or.inr ⟨_, rfl⟩) (fun t ht hW => ⟨⟨(), st133, rfl, trivial, by rw [ht]; exact hP, va_K.moved hW.alike hK, hD⟩, hS.F ht⟩) hS.2.2 dX9_determinant_59
    · replace h := zif_f h c32
      refine va_ldcS hx hb hown hR133 dX9_determinant_35 ?_
      have h1 := Option.some.inj h
      subst h1
      refine W.widen (k := 8) (n := 716) (by decide) (by decide) ?_
      exact W.aret (v := .ref st133) hx hb hr (Or.inl ⟨_, rfl⟩) (Or.inr ⟨_, rfl⟩) (fun t ht hW => ⟨⟨(), st133, rfl, trivial, by rw [ht]; exact hP, va_K.moved hW.alike hK, hD⟩, hS.F ht⟩) hS.2.2 dX9_determinant_37
  replace h := zlt_h h
  refine lv_if_eq (tgt := 28) hx hb dX9_determinant_12 (by decide) (fun c12 => ?_) (fun c12 => ?_)
  · replace h := zif_t h c12
    exact hGW _ _ _ _ _ (J0  _ _ ls hP hD hS (lv_sub hl [0, 1, 2, 3] rfl) h)
  · replace h := zif_f h c12
    refine lv_iload_n hx hb dX9_determinant_15 rfl (lv_at hl 3 rfl) ?_
    refine lv_iconst (v := (0 : Int32)) hx hb dX9_determinant_16 (by decide) ?_
    refine lv_iconst (v := (1 : Int32)) hx hb dX9_determinant_17 (by decide) ?_
    obtain ⟨r35, e36, h⟩ := zb1_some h
    refine zgoi (va_runS (As := [.int p2, .int (0 : Int32), .int (1 : Int32)]) (rest := [.int (z01 r1), .ref q]) ⟨hx, hb, hml, hown, hts⟩ (c_X9_isIn l D (zT cJ cI cO cB) p2 (0 : Int32) (1 : Int32) r35 e36 H.size) (va_cwS 3 hts gX9_determinant_X9_isIn rfl rfl rfl hdS_X9_isIn ⟨Nat.le_of_ble_eq_true rfl, Nat.le_of_ble_eq_true rfl⟩) (zpreS hK zP0 (zD0 (A := A)) [.int p2, .int (0 : Int32), .int (1 : Int32)]) rfl rfl hl.1 rfl (lv_room (Nat.le_of_ble_eq_true rfl)) dX9_determinant_18 ⟨Nat.le_of_ble_eq_true rfl, Nat.le_of_ble_eq_true rfl⟩) (zf0 hS hA) (zjE hP hD) hS (fun H locs hP hD hS => ?_)
    refine lv_if_eq (tgt := 28) hx hb dX9_determinant_21 (by decide) (fun c21 => ?_) (fun c21 => ?_)
    · replace h := zif_t h c21
      exact hGW _ _ _ _ _ (J0  _ _ ls hP hD hS (lv_sub hl [0, 1, 2, 3] rfl) h)
    · replace h := zif_f h c21
      refine lv_iconst (v := (1 : Int32)) hx hb dX9_determinant_24 (by decide) ?_
      refine lv_goto (tgt := 29) hx hb dX9_determinant_25 (by decide) ?_
      obtain ⟨r37, th_38, e39, h⟩ := zb2_some h
      refine zgoi (va_runV (As := [.int (z01 r1), .int (1 : Int32)]) (rest := []) ⟨hx, hb, hml, hown, hts⟩ (c_X9_isThrown l D q v cJ cI cO cB V ib dn rf mk th r1 true r37 th_38 e39 H.size) (cwV 2 hts gX9_determinant_X9_isThrown rfl rfl rfl hdV_X9_isThrown ⟨Nat.le_of_ble_eq_true rfl, Nat.le_of_ble_eq_true rfl⟩) (zpreV (q0 := 0) (ci := 9) (T := TX9) (N := 6) hK hP hD rfl rfl [.int (z01 r1), .int (1 : Int32)]) rfl rfl hl.1 rfl (lv_room (Nat.le_of_ble_eq_true rfl)) dX9_determinant_29 ⟨Nat.le_of_ble_eq_true rfl, Nat.le_of_ble_eq_true rfl⟩) (zfree hD hS hA) (zjW hD hS hA) hS (fun H locs hP hD hS => ?_)
      replace hP : va_P D vwCl (mW q v cJ V ib dn rf mk th_38) H := hP
      replace hD : va_D A (mW q v cJ V ib dn rf mk th_38) := hD
      refine lv_if_eq (tgt := 38) hx hb dX9_determinant_32 (by decide) (fun c32 => ?_) (fun c32 => ?_)
      · replace h := zif_t h c32
        refine lv_aload_n hx hb dX9_determinant_38 rfl (lv_at hl 0 rfl) ?_
        refine lv_iload_n hx hb dX9_determinant_39 rfl (lv_at hl 1 rfl) ?_
        obtain ⟨r40, e41, h⟩ := zb1_some h
        refine zgon (va_runV (As := [.int p0]) (rest := []) ⟨hx, hb, hml, hown, hts⟩ (c_X9_of l D q v cJ cI cO cB V ib dn rf mk th_38 F p0 r40 e41 H.size) (cwV 1 hts gX9_determinant_X9_of rfl rfl rfl hdV_X9_of ⟨Nat.le_of_ble_eq_true rfl, Nat.le_of_ble_eq_true rfl⟩) (zpreV (q0 := 0) (ci := 9) (T := TX9) (N := 6) hK hP hD rfl rfl [.int p0]) rfl rfl hl.1 rfl (lv_room (Nat.le_of_ble_eq_true rfl)) dX9_determinant_40 ⟨Nat.le_of_ble_eq_true rfl, Nat.le_of_ble_eq_true rfl⟩) (zfree hD hS hA) (fun _ => zjW hD hS hA) hS (fun w42 H locs hP hD hS => ?_)
        replace hP : va_P D vwCl (mW q v cJ V ib dn rf mk th_38 ++ ([(w42, .inl (cJ, 121, .inr (.inl r40)))])) H := hP
        replace hD : va_D A (mW q v cJ V ib dn rf mk th_38 ++ ([(w42, .inl (cJ, 121, .inr (.inl r40)))])) := hD
        refine lv_iload_n hx hb dX9_determinant_43 rfl (lv_at hl 2 rfl) ?_
        refine lv_bipush (v := (100 : Int32)) hx hb dX9_determinant_44 (by decide) ?_
        obtain ⟨r43, e44, h⟩ := zb1_some h
        have hPc := zsub (wn := ([(w42, .inl (cJ, 121, .inr (.inl r40)))] : va_W)) hP [2] rfl
        have hDc := hD.sub (ws' := ([(w42, .inl (cJ, 121, .inr (.inl r40)))] : va_W)) [2] (by decide) rfl
        refine zgoi (va_runS (As := [.ref w42, .int p1, .int (100 : Int32)]) (rest := []) ⟨hx, hb, hml, hown, hts⟩ (c_X9_isGreat l D cJ cI cO cB F w42 r40 p1 (100 : Int32) r43 e44 H.size) (va_cwS 3 hts gX9_determinant_X9_isGreat rfl rfl rfl hdS_X9_isGreat ⟨Nat.le_of_ble_eq_true rfl, Nat.le_of_ble_eq_true rfl⟩) (zpreS hK hPc hDc [.ref w42, .int p1, .int (100 : Int32)]) rfl rfl hl.1 rfl (lv_room (Nat.le_of_ble_eq_true rfl)) dX9_determinant_46 ⟨Nat.le_of_ble_eq_true rfl, Nat.le_of_ble_eq_true rfl⟩) (va_free hD hS hA [2] rfl) (zjs (wn := (mW q v cJ V ib dn rf mk th_38 ++ ([(w42, .inl (cJ, 121, .inr (.inl r40)))]))) [0, 1, 2] (zjF (wr := (mW q v cJ V ib dn rf mk th_38)) hP hD hS hA [2] [0, 1] rfl rfl (by decide) (by decide)) rfl (by decide)) hS (fun H locs hP hD hS => ?_)
        replace hP : va_P D vwCl (mW q v cJ V ib dn rf mk th_38 ++ ([(w42, .inl (cJ, 121, .inr (.inl r40)))])) H := hP
        replace hD : va_D A (mW q v cJ V ib dn rf mk th_38 ++ ([(w42, .inl (cJ, 121, .inr (.inl r40)))])) := hD
        refine lv_if_eq (tgt := 60) hx hb dX9_determinant_49 (by decide) (fun c49 => ?_) (fun c49 => ?_)
        · replace h := zif_t h c49
          refine va_new (ci := 1) (fs := [.null, .int 0, .int 0, .int 0]) (C := RJ4) (T := TJ4) (N := 4) hx hb hts kwJ4 tyJ4 tyJ4_ok hown kc_135 kin_J4 kii_J4 hK hP hD hS hA rfl (fun j hj => by rcases (show j = 0 ∨ j = 1 ∨ j = 2 ∨ j = 3 by omega) with rfl | rfl | rfl | rfl <;> rfl) (Nat.le_of_ble_eq_true rfl) (Nat.le_of_ble_eq_true rfl) dX9_determinant_60 (fun sb45 H hP hD hS => ?_)
          replace hP : va_P D vwCl ((mW q v cJ V ib dn rf mk th_38 ++ ([(w42, .inl (cJ, 121, .inr (.inl r40)))])) ++ [(sb45, .inr (1, [.null, .int 0, .int 0, .int 0]))]) H := hP
          replace hD : va_D A ((mW q v cJ V ib dn rf mk th_38 ++ ([(w42, .inl (cJ, 121, .inr (.inl r40)))])) ++ [(sb45, .inr (1, [.null, .int 0, .int 0, .int 0]))]) := hD
          refine lv_dup hx hb dX9_determinant_63 rfl ?_
          have hPc := zsub (wn := ([(sb45, .inr (1, [.null, .int 0, .int 0, .int 0]))] : va_W)) hP [3] rfl
          have hDc := hD.sub (ws' := ([(sb45, .inr (1, [.null, .int 0, .int 0, .int 0]))] : va_W)) [3] (by decide) rfl
          refine zgoc (va_runI (As := []) (rest := [.ref sb45]) ⟨hx, hb, hml, hown, hts⟩ (c_J4_init_da8c8 l D cJ cI cO cB sb45 H.size) (cwI 0 hts gX9_determinant_J4_init_da8c8 rfl rfl rfl kii_J4 km_137 kim_J4i rfl (by decide +kernel) ⟨Nat.le_of_ble_eq_true rfl, Nat.le_of_ble_eq_true rfl⟩) (zxpreS hE hS (va_free hD hS hA [3] rfl) hK hPc hDc [.ref sb45]) rfl rfl hl.1 rfl (lv_room (Nat.le_of_ble_eq_true rfl)) dX9_determinant_64 ⟨Nat.le_of_ble_eq_true rfl, Nat.le_of_ble_eq_true rfl⟩) (va_free hD hS hA [3] rfl) (fun u => zjF (wr := (mW q v cJ V ib dn rf mk th_38 ++ ([(w42, .inl (cJ, 121, .inr (.inl r40)))]))) hP hD hS hA [3] [0, 1, 2] rfl rfl (by decide) (by decide)) hS (fun u46 H locs hP hD hS => ?_)
          replace hP : va_P D vwCl (mW q v cJ V ib dn rf mk th_38 ++ ([(w42, .inl (cJ, 121, .inr (.inl r40)))] ++ (sW sb45 cB (u46 0) 16 (fun _ => 0) false 0))) H := hP
          replace hD : va_D A (mW q v cJ V ib dn rf mk th_38 ++ ([(w42, .inl (cJ, 121, .inr (.inl r40)))] ++ (sW sb45 cB (u46 0) 16 (fun _ => 0) false 0))) := hD
          refine va_ldcS hx hb hown hR133 dX9_determinant_67 ?_
          obtain ⟨bc_47, bf_48, bn_49, e50, h⟩ := zb3_some h
          have hPc := zsub (wn := (sW sb45 cB (u46 0) 16 (fun _ => 0) false 0)) hP [3, 4] rfl
          have hDc := hD.sub (ws' := (sW sb45 cB (u46 0) 16 (fun _ => 0) false 0)) [3, 4] (by decide) rfl
          refine zgosr (va_runV (As := [.ref st133]) (rest := []) ⟨hx, hb, hml, hown, hts⟩ (c_J4_append_15ec4 l D sb45 cJ cI cO cB (u46 0) 16 (fun _ => 0) false 0 st133 0 (zbt 133) bc_47 bf_48 bn_49 e50 H.size) (cwV 1 hts gX9_determinant_J4_append_15ec4 rfl rfl rfl hdV_J4_append_15ec4 ⟨Nat.le_of_ble_eq_true rfl, Nat.le_of_ble_eq_true rfl⟩) (zspreV hE (zSt.here hst_st133 hS (va_free hD hS hA [3, 4] rfl)) hS (va_free hD hS hA [3, 4] rfl) (q0 := 0) (ci := 1) (T := TJ4) (N := 4) hK hPc hDc rfl rfl [.ref st133]) rfl rfl hl.1 rfl (lv_room (Nat.le_of_ble_eq_true rfl)) dX9_determinant_69 ⟨Nat.le_of_ble_eq_true rfl, Nat.le_of_ble_eq_true rfl⟩) (va_free hD hS hA [3, 4] rfl) (fun bv51 => (zjs (wn := (mW q v cJ V ib dn rf mk th_38 ++ ([(w42, .inl (cJ, 121, .inr (.inl r40)))] ++ (sW sb45 cB bv51 bc_47 bf_48 false bn_49)))) [0, 1, 2, 3, 4] (zjF (wr := (mW q v cJ V ib dn rf mk th_38 ++ ([(w42, .inl (cJ, 121, .inr (.inl r40)))]))) hP hD hS hA [3, 4] [0, 1, 2] rfl rfl (by decide) (by decide)) rfl (by decide))) hS (fun bv51 H locs hP hD hS => ?_)
          replace hP : va_P D vwCl (mW q v cJ V ib dn rf mk th_38 ++ ([(w42, .inl (cJ, 121, .inr (.inl r40)))] ++ (sW sb45 cB bv51 bc_47 bf_48 false bn_49))) H := hP
          replace hD : va_D A (mW q v cJ V ib dn rf mk th_38 ++ ([(w42, .inl (cJ, 121, .inr (.inl r40)))] ++ (sW sb45 cB bv51 bc_47 bf_48 false bn_49))) := hD
          refine lv_aload_n hx hb dX9_determinant_72 rfl (lv_at hl 0 rfl) ?_
          refine lv_iload_n hx hb dX9_determinant_73 rfl (lv_at hl 1 rfl) ?_
          obtain ⟨r52, e53, h⟩ := zb1_some h
          have hPc := zsub (wn := (mW q v cJ V ib dn rf mk th_38)) hP [0, 1] rfl
          have hDc := hD.sub (ws' := (mW q v cJ V ib dn rf mk th_38)) [0, 1] (by decide) rfl
          refine zgon (va_runV (As := [.int p0]) (rest := [.ref sb45]) ⟨hx, hb, hml, hown, hts⟩ (c_X9_of l D q v cJ cI cO cB V ib dn rf mk th_38 F p0 r52 e53 H.size) (cwV 1 hts gX9_determinant_X9_of rfl rfl rfl hdV_X9_of ⟨Nat.le_of_ble_eq_true rfl, Nat.le_of_ble_eq_true rfl⟩) (zpreV (q0 := 0) (ci := 9) (T := TX9) (N := 6) hK hPc hDc rfl rfl [.int p0]) rfl rfl hl.1 rfl (lv_room (Nat.le_of_ble_eq_true rfl)) dX9_determinant_74 ⟨Nat.le_of_ble_eq_true rfl, Nat.le_of_ble_eq_true rfl⟩) (va_free hD hS hA [0, 1] rfl) (fun w54 => (zjs (wn := (mW q v cJ V ib dn rf mk th_38 ++ ([(w42, .inl (cJ, 121, .inr (.inl r40))), (w54, .inl (cJ, 121, .inr (.inl r52)))] ++ (sW sb45 cB bv51 bc_47 bf_48 false bn_49)))) [3, 4, 0, 5, 1, 2] (zjF (wr := ([(w42, .inl (cJ, 121, .inr (.inl r40)))] ++ (sW sb45 cB bv51 bc_47 bf_48 false bn_49))) hP hD hS hA [0, 1] [2, 3, 4] rfl rfl (by decide) (by decide)) rfl (by decide))) hS (fun w54 H locs hP hD hS => ?_)
          replace hP : va_P D vwCl (mW q v cJ V ib dn rf mk th_38 ++ ([(w42, .inl (cJ, 121, .inr (.inl r40))), (w54, .inl (cJ, 121, .inr (.inl r52)))] ++ (sW sb45 cB bv51 bc_47 bf_48 false bn_49))) H := hP
          replace hD : va_D A (mW q v cJ V ib dn rf mk th_38 ++ ([(w42, .inl (cJ, 121, .inr (.inl r40))), (w54, .inl (cJ, 121, .inr (.inl r52)))] ++ (sW sb45 cB bv51 bc_47 bf_48 false bn_49))) := hD
          refine lv_iload_n hx hb dX9_determinant_77 rfl (lv_at hl 2 rfl) ?_
          refine lv_iconst (v := (1 : Int32)) hx hb dX9_determinant_78 (by decide) ?_
          refine lv_sipush (v := (254 : Int32)) hx hb dX9_determinant_79 (by decide) ?_
          obtain ⟨r55, e56, h⟩ := zb1_some h
          have hPc := zsub (wn := ([(w54, .inl (cJ, 121, .inr (.inl r52)))] : va_W)) hP [3] rfl
          have hDc := hD.sub (ws' := ([(w54, .inl (cJ, 121, .inr (.inl r52)))] : va_W)) [3] (by decide) rfl
          refine zgol (va_runS (As := [.ref w54, .int p1, .int (1 : Int32), .int (254 : Int32)]) (rest := [.ref sb45]) ⟨hx, hb, hml, hown, hts⟩ (c_X9_determinantOf l D cJ cI cO cB F 8 w54 r52 p1 (1 : Int32) (254 : Int32) r55 e56 H.size) (va_cwS 4 hts gX9_determinant_X9_determinantOf rfl rfl rfl hdS_X9_determinantOf ⟨Nat.le_of_ble_eq_true rfl, Nat.le_of_ble_eq_true rfl⟩) (zpreS hK hPc hDc [.ref w54, .int p1, .int (1 : Int32), .int (254 : Int32)]) rfl rfl hl.1 rfl (lv_room (Nat.le_of_ble_eq_true rfl)) dX9_determinant_82 ⟨Nat.le_of_ble_eq_true rfl, Nat.le_of_ble_eq_true rfl⟩) (va_free hD hS hA [3] rfl) (zjs (wn := (mW q v cJ V ib dn rf mk th_38 ++ ([(w42, .inl (cJ, 121, .inr (.inl r40))), (w54, .inl (cJ, 121, .inr (.inl r52)))] ++ (sW sb45 cB bv51 bc_47 bf_48 false bn_49)))) [0, 1, 2, 5, 3, 4] (zjF (wr := (mW q v cJ V ib dn rf mk th_38 ++ ([(w42, .inl (cJ, 121, .inr (.inl r40)))] ++ (sW sb45 cB bv51 bc_47 bf_48 false bn_49)))) hP hD hS hA [3] [0, 1, 2, 4, 5] rfl rfl (by decide) (by decide)) rfl (by decide)) hS (fun H locs hP hD hS => ?_)
          replace hP : va_P D vwCl (mW q v cJ V ib dn rf mk th_38 ++ ([(w42, .inl (cJ, 121, .inr (.inl r40))), (w54, .inl (cJ, 121, .inr (.inl r52)))] ++ (sW sb45 cB bv51 bc_47 bf_48 false bn_49))) H := hP
          replace hD : va_D A (mW q v cJ V ib dn rf mk th_38 ++ ([(w42, .inl (cJ, 121, .inr (.inl r40))), (w54, .inl (cJ, 121, .inr (.inl r52)))] ++ (sW sb45 cB bv51 bc_47 bf_48 false bn_49))) := hD
          obtain ⟨bc_57, bf_58, bn_59, e60, h⟩ := zb3_some h
          have hPc := zsub (wn := (sW sb45 cB bv51 bc_47 bf_48 false bn_49)) hP [4, 5] rfl
          have hDc := hD.sub (ws' := (sW sb45 cB bv51 bc_47 bf_48 false bn_49)) [4, 5] (by decide) rfl
          refine zgosr (va_runV (As := [.long r55]) (rest := []) ⟨hx, hb, hml, hown, hts⟩ (c_J4_append_f7089 l D sb45 cJ cI cO cB bv51 bc_47 bf_48 false bn_49 F r55 bc_57 bf_58 bn_59 e60 H.size) (cwV 1 hts gX9_determinant_J4_append_f7089 rfl rfl rfl hdV_J4_append_f7089 ⟨Nat.le_of_ble_eq_true rfl, Nat.le_of_ble_eq_true rfl⟩) (zxpreV hE hS (va_free hD hS hA [4, 5] rfl) (q0 := 0) (ci := 1) (T := TJ4) (N := 4) hK hPc hDc rfl rfl [.long r55]) rfl rfl hl.1 rfl (lv_room (Nat.le_of_ble_eq_true rfl)) dX9_determinant_85 ⟨Nat.le_of_ble_eq_true rfl, Nat.le_of_ble_eq_true rfl⟩) (va_free hD hS hA [4, 5] rfl) (fun bv61 => (zjs (wn := (mW q v cJ V ib dn rf mk th_38 ++ ([(w42, .inl (cJ, 121, .inr (.inl r40))), (w54, .inl (cJ, 121, .inr (.inl r52)))] ++ (sW sb45 cB bv61 bc_57 bf_58 false bn_59)))) [0, 1, 2, 3, 4, 5] (zjF (wr := (mW q v cJ V ib dn rf mk th_38 ++ ([(w42, .inl (cJ, 121, .inr (.inl r40))), (w54, .inl (cJ, 121, .inr (.inl r52)))]))) hP hD hS hA [4, 5] [0, 1, 2, 3] rfl rfl (by decide) (by decide)) rfl (by decide))) hS (fun bv61 H locs hP hD hS => ?_)
          replace hP : va_P D vwCl (mW q v cJ V ib dn rf mk th_38 ++ ([(w42, .inl (cJ, 121, .inr (.inl r40))), (w54, .inl (cJ, 121, .inr (.inl r52)))] ++ (sW sb45 cB bv61 bc_57 bf_58 false bn_59))) H := hP
          replace hD : va_D A (mW q v cJ V ib dn rf mk th_38 ++ ([(w42, .inl (cJ, 121, .inr (.inl r40))), (w54, .inl (cJ, 121, .inr (.inl r52)))] ++ (sW sb45 cB bv61 bc_57 bf_58 false bn_59))) := hD
          obtain ⟨r64, r65, e66, h⟩ := zb2_some h
          have hPc := zsub (wn := ([(sb45, .inr (1, [.ref bv61, .int 0, .int (z01 false), .int bn_59])), (bv61, .inl (cB, bc_57, .inl bf_58))] : va_W)) hP [4, 5] rfl
          have hDc := hD.sub (ws' := ([(sb45, .inr (1, [.ref bv61, .int 0, .int (z01 false), .int bn_59])), (bv61, .inl (cB, bc_57, .inl bf_58))] : va_W)) [4, 5] (by decide) rfl
          refine zgoss (va_runV (As := []) (rest := []) ⟨hx, hb, hml, hown, hts⟩ (c_J4_toString_0e30d l D cJ cI cO cB sb45 bv61 bc_57 bf_58 false bn_59 r64 r65 e66 H.size) (cwV 0 hts gX9_determinant_J4_toString_0e30d rfl rfl rfl hdV_J4_toString_0e30d ⟨Nat.le_of_ble_eq_true rfl, Nat.le_of_ble_eq_true rfl⟩) (zxpreV hE hS (va_free hD hS hA [4, 5] rfl) (q0 := 0) (ci := 1) (T := TJ4) (N := 4) hK hPc hDc rfl rfl []) rfl rfl hl.1 rfl (lv_room (Nat.le_of_ble_eq_true rfl)) dX9_determinant_88 ⟨Nat.le_of_ble_eq_true rfl, Nat.le_of_ble_eq_true rfl⟩) (va_free hD hS hA [4, 5] rfl) (fun s62 u63 => zjs (wn := (mW q v cJ V ib dn rf mk th_38 ++ ([(w42, .inl (cJ, 121, .inr (.inl r40))), (w54, .inl (cJ, 121, .inr (.inl r52))), (s62, .inr (0, [.ref u63, .int 0, .int 0, .int 0])), (u63, .inl (cB, r64, .inl r65))]))) [0, 1, 2, 3, 4, 5] (zjF (wr := (mW q v cJ V ib dn rf mk th_38 ++ ([(w42, .inl (cJ, 121, .inr (.inl r40))), (w54, .inl (cJ, 121, .inr (.inl r52)))]))) hP hD hS hA [4, 5] [0, 1, 2, 3] rfl rfl (by decide) (by decide)) rfl (by decide)) hS (fun s62 u63 H locs hP hD hS => ?_)
          replace hP : va_P D vwCl (mW q v cJ V ib dn rf mk th_38 ++ ([(w42, .inl (cJ, 121, .inr (.inl r40))), (w54, .inl (cJ, 121, .inr (.inl r52))), (s62, .inr (0, [.ref u63, .int 0, .int 0, .int 0])), (u63, .inl (cB, r64, .inl r65))])) H := hP
          replace hD : va_D A (mW q v cJ V ib dn rf mk th_38 ++ ([(w42, .inl (cJ, 121, .inr (.inl r40))), (w54, .inl (cJ, 121, .inr (.inl r52))), (s62, .inr (0, [.ref u63, .int 0, .int 0, .int 0])), (u63, .inl (cB, r64, .inl r65))])) := hD
          have h1 := Option.some.inj h
          subst h1
          replace hP := zsub (wn := (mW q v cJ V ib dn rf mk th_38)) hP [0, 1] rfl
          replace hD := hD.sub (ws' := (mW q v cJ V ib dn rf mk th_38)) [0, 1] (by decide) rfl
          exact W.aret (v := .ref s62) hx hb hr (Or.inl ⟨_, rfl⟩) (Or.inr ⟨_, rfl⟩) (fun t ht hW => ⟨⟨(), s62, rfl, trivial, by rw [ht]; exact hP, va_K.moved hW.alike hK, hD⟩, hS.F ht⟩) hS.2.2 dX9_determinant_91
        · replace h := zif_f h c49
          refine lv_aload_n hx hb dX9_determinant_52 rfl (lv_at hl 0 rfl) ?_
          refine lv_iconst (v := (3 : Int32)) hx hb dX9_determinant_53 (by decide) ?_
          refine va_put (D := D) (ci := 9) (v := .int (3 : Int32)) (ty := .int) (C := RX9) (T := TX9) (N := 6) hx hb hts kwX9 tyX9 tyX9_ok nmX9 hown hK hP hD hS 0 rfl rfl 5 (by decide) kf_13 (fun _ h9 => h9) rfl rfl rfl rfl (Nat.le_of_ble_eq_true rfl) dX9_determinant_54 (fun H locs hP hD hS => ?_)
          replace hP : va_P D vwCl (mW q v cJ V ib dn rf mk (3 : Int32) ++ ([(w42, .inl (cJ, 121, .inr (.inl r40)))])) H := hP
          replace hD : va_D A (mW q v cJ V ib dn rf mk (3 : Int32) ++ ([(w42, .inl (cJ, 121, .inr (.inl r40)))])) := hD
          refine va_ldcS hx hb hown hR133 dX9_determinant_57 ?_
          have h1 := Option.some.inj h
          subst h1
          replace hP := zsub (wn := (mW q v cJ V ib dn rf mk (3 : Int32))) hP [0, 1] rfl
          replace hD := hD.sub (ws' := (mW q v cJ V ib dn rf mk (3 : Int32))) [0, 1] (by decide) rfl
          refine W.widen (k := 8) (n := 716) (by decide) (by decide) ?_
          exact W.aret (v := .ref st133) hx hb hr (Or.inl ⟨_, rfl⟩) (Or.inr ⟨_, rfl⟩) (fun t ht hW => ⟨⟨(), st133, rfl, trivial, by rw [ht]; exact hP, va_K.moved hW.alike hK, hD⟩, hS.F ht⟩) hS.2.2 dX9_determinant_59
      · replace h := zif_f h c32
        refine va_ldcS hx hb hown hR133 dX9_determinant_35 ?_
        have h1 := Option.some.inj h
        subst h1
        refine W.widen (k := 8) (n := 716) (by decide) (by decide) ?_
        exact W.aret (v := .ref st133) hx hb hr (Or.inl ⟨_, rfl⟩) (Or.inr ⟨_, rfl⟩) (fun t ht hW => ⟨⟨(), st133, rfl, trivial, by rw [ht]; exact hP, va_K.moved hW.alike hK, hD⟩, hS.F ht⟩) hS.2.2 dX9_determinant_37

noncomputable def p_X9_powers (F : Nat) (p0 : Int32) : Option Int32 := (zb1 (p_X9_isIn p0 (1 : Int32) (999 : Int32)) (fun r1 => (zb2 (p_X9_isNo r1) (fun r3 th_4 => (if (z01 r3) = 0 then (if p0 ≤ (1 : Int32) then (some th_4) else (zb1 (p_X9_least F p0) (fun r6 => (zb3 (p_J4_append_15ec4 16 (fun _ => 0) 0 0 (zbt 133)) (fun bc_10 bf_11 bn_12 => (zb1 (p_J0_isEmpty_aae02 0 (zbt 133)) (fun r15 => (if (z01 r15) = 0 then none else (zb3 (p_J4_append_15ec4 bc_10 bf_11 bn_12 0 (zbt 133)) (fun bc_17 bf_18 bn_19 => (zb3 (p_J4_append_bf812 F bc_17 bf_18 bn_19 r6) (fun bc_22 bf_23 bn_24 => (zb3 (p_J4_append_15ec4 bc_22 bf_23 bn_24 1 (zbt 181)) (fun bc_27 bf_28 bn_29 => (zb1 (p_X9_without F p0 r6) (fun r32 => (zg (r32 = 0) (zb1 (p_X9_all F (p0 / r32)) (fun r34 => (zb3 (p_J4_append_bf812 F bc_27 bf_28 bn_29 r34) (fun bc_36 bf_37 bn_38 => (zb2 (p_J7_copyOfRange_39247 bc_36 bf_37 (0 : Int32) bn_38) (fun r43 r44 => (zb1 (p_X9_least F p0) (fun r46 => (zb1 (p_X9_without F p0 r46) (fun r48 => (if r48 ≤ (1 : Int32) then (some th_4) else (zb1 (p_X9_least F r48) (fun r50 => (zb3 (p_J4_append_15ec4 16 (fun _ => 0) 0 r43 r44) (fun bc_54 bf_55 bn_56 => (zb1 (p_J0_isEmpty_aae02 r43 r44) (fun r59 => (if (z01 r59) = 0 then (zb3 (p_J4_append_15ec4 bc_54 bf_55 bn_56 1 (zbt 176)) (fun bc_61 bf_62 bn_63 => (zb3 (p_J4_append_bf812 F bc_61 bf_62 bn_63 r50) (fun bc_66 bf_67 bn_68 => (zb3 (p_J4_append_15ec4 bc_66 bf_67 bn_68 1 (zbt 181)) (fun bc_71 bf_72 bn_73 => (zb1 (p_X9_without F r48 r50) (fun r76 => (zg (r76 = 0) (zb1 (p_X9_all F (r48 / r76)) (fun r78 => (zb3 (p_J4_append_bf812 F bc_71 bf_72 bn_73 r78) (fun bc_80 bf_81 bn_82 => (zb2 (p_J7_copyOfRange_39247 bc_80 bf_81 (0 : Int32) bn_82) (fun r87 r88 => (zb1 (p_X9_least F r48) (fun r90 => (zb1 (p_X9_without F r48 r90) (fun r92 => (if r92 ≤ (1 : Int32) then (some th_4) else (zb1 (p_X9_least F r92) (fun r94 => (zb3 (p_J4_append_15ec4 16 (fun _ => 0) 0 r87 r88) (fun bc_98 bf_99 bn_100 => (zb1 (p_J0_isEmpty_aae02 r87 r88) (fun r103 => (if (z01 r103) = 0 then (zb3 (p_J4_append_15ec4 bc_98 bf_99 bn_100 1 (zbt 176)) (fun bc_105 bf_106 bn_107 => (zb3 (p_J4_append_bf812 F bc_105 bf_106 bn_107 r94) (fun bc_110 bf_111 bn_112 => (zb3 (p_J4_append_15ec4 bc_110 bf_111 bn_112 1 (zbt 181)) (fun bc_115 bf_116 bn_117 => (zb1 (p_X9_without F r92 r94) (fun r120 => (zg (r120 = 0) (zb1 (p_X9_all F (r92 / r120)) (fun r122 => (zb3 (p_J4_append_bf812 F bc_115 bf_116 bn_117 r122) (fun bc_124 bf_125 bn_126 => (zb2 (p_J7_copyOfRange_39247 bc_124 bf_125 (0 : Int32) bn_126) (fun r131 r132 => (zb1 (p_X9_least F r92) (fun r134 => (zb1 (p_X9_without F r92 r134) (fun r136 => (if r136 ≤ (1 : Int32) then (some th_4) else (zb1 (p_X9_least F r136) (fun r138 => (zb3 (p_J4_append_15ec4 16 (fun _ => 0) 0 r131 r132) (fun bc_142 bf_143 bn_144 => (zb1 (p_J0_isEmpty_aae02 r131 r132) (fun r147 => (if (z01 r147) = 0 then (zb3 (p_J4_append_15ec4 bc_142 bf_143 bn_144 1 (zbt 176)) (fun bc_149 bf_150 bn_151 => (zb3 (p_J4_append_bf812 F bc_149 bf_150 bn_151 r138) (fun bc_154 bf_155 bn_156 => (zb3 (p_J4_append_15ec4 bc_154 bf_155 bn_156 1 (zbt 181)) (fun bc_159 bf_160 bn_161 => (zb1 (p_X9_without F r136 r138) (fun r164 => (zg (r164 = 0) (zb1 (p_X9_all F (r136 / r164)) (fun r166 => (zb3 (p_J4_append_bf812 F bc_159 bf_160 bn_161 r166) (fun bc_168 bf_169 bn_170 => (zb2 (p_J7_copyOfRange_39247 bc_168 bf_169 (0 : Int32) bn_170) (fun r175 r176 => (zb1 (p_X9_least F r136) (fun r178 => (zb1 (p_X9_without F r136 r178) (fun r180 => (if r180 ≤ (1 : Int32) then (some th_4) else none)))))))))))))))))))) else none))))))))))))))))))))))))))) else none))))))))))))))))))))))))))) else none))))))))))))))))))))))))))))))))))) else (some th_4))))))
theorem hdV_X9_powers : yX9_powers.cls = RX9 ∧ yX9_powers.cls ≠ "java/lang/invoke/MethodHandle" ∧ yX9_powers.cls ≠ "java/lang/invoke/VarHandle" ∧ (parseMethodDescriptor yX9_powers.desc).map (fun d => d.parameters.length) = some 1 := by decide +kernel
set_option maxHeartbeats 4000000 in
set_option maxRecDepth 100000 in
theorem c_X9_powers (l : Launch) (D : va_G) (q v : Nat) (cJ cI cO cB : ClassId) (V : Nat → Int64) (ib : Bool) (dn : Int32) (rf : Int32) (mk : Int32) (th : Int32) (F : Nat) (p0 : Int32) (th' : Int32) (h : p_X9_powers F p0 = some th') : zGs l yX9_powers wsX9_powers 6 171 36 3696 (zP3 D (zT cJ cI cO cB) (mW q v cJ V ib dn rf mk th)) [.ref q, .int p0] D (zT cJ cI cO cB) (mW q v cJ V ib dn rf mk th) (mW q v cJ V ib dn rf mk th') := by
  intro sz
  delta zQs
  refine Met.ofW (cc := cX9_powers) (maxL := 5) (ret := (some (.object "java/lang/String"))) (by decide) rfl ?_
  intro p e s m args below meth c s₁ B hml hv
  obtain ⟨rfl, ⟨⟨hsz, hP, hK, hD0⟩, hE⟩, hT3⟩ := hv
  have hx := B.exec
  have hb := B.bytes
  have hr := B.returns
  have hts := atoms_spec (ws := wsX9_powers) B.pre
  have hown : s.vm.findClass RX9 = some m.cls := findClass_of_methodNamed B.named
  have hlocks := B.notSynchronized
  subst hsz
  have hD := hD0.self (sz := s.heap.size)
  generalize hAe : va_A (mW q v cJ V ib dn rf mk th) s.heap.size = A at hD hE hT3 ⊢
  have hA : ∀ q : Nat, s.heap.size ≤ q → A q := fun q h => by rw [← hAe]; exact Or.inr h
  have hS : va_S A s.heap s.heap [] := va_S.rf
  have hl := lv_entry ([.ref q, .int p0]) (n := 5) (Nat.le_of_ble_eq_true rfl)
  rw [lg_entry_eq]
  generalize (lg_sl ([.ref q, .int p0]) ++ List.replicate (5 - (lg_sl ([.ref q, .int p0])).length) Slot.unset).toArray = ls at hl ⊢
  replace hl : lv_has ls 5 [(0, .ref q), (1, .int p0)] := hl
  obtain ⟨⟨st133, hR133, sv_st133, hst_st133⟩, ⟨st176, hR176, sv_st176, hst_st176⟩, ⟨st181, hR181, sv_st181, hst_st181⟩⟩ := hT3
  have kc_135 := hts (.classLink RX9 135 RJ4) (zmem 1 rfl)
  have kin_J4 := hts (.instantiable RJ4 4) (List.mem_cons_of_mem _ (List.mem_append_right _ (List.mem_cons_of_mem _ (List.mem_append_right _ (List.mem_cons_of_mem _ (List.mem_append_right _ (List.mem_cons_of_mem _ (List.mem_append_left _ (List.mem_append_left _ (List.mem_append_right _ (List.mem_cons_of_mem _ (List.mem_append_right _ (List.mem_cons_of_mem _ (List.mem_append_right _ (zmem 2 rfl)))))))))))))))
  have kii_J4 := hts (.initialized RJ4) (zmem 2 rfl)
  have kwJ4 : ∀ w ∈ u_ws RJ4 TJ4 4, w ∈ wsX9_powers := fun w h => List.mem_cons_of_mem _ (List.mem_append_left _ (List.mem_append_left _ (List.mem_append_left _ (List.mem_append_left _ (List.mem_append_left _ (List.mem_append_left _ (List.mem_append_right _ (List.mem_cons_of_mem _ (List.mem_append_right _ (List.mem_cons_of_mem _ (List.mem_append_left _ (List.mem_append_right _ h))))))))))))
  have km_137 := hts (.methodLink RX9 137 yJ4_init_da8c8) (zmem 11 rfl)
  have kim_J4i := hts (.instanceMethod yJ4_init_da8c8) (zmem 12 rfl)
  have kwJ0 : ∀ w ∈ u_ws RJ0 TJ0 4, w ∈ wsX9_powers := fun w h => List.mem_cons_of_mem _ (List.mem_append_left _ (List.mem_append_left _ (List.mem_append_left _ (List.mem_append_left _ (List.mem_append_left _ (List.mem_append_right _ (List.mem_cons_of_mem _ (List.mem_append_right _ (List.mem_cons_of_mem _ (List.mem_append_left _ (List.mem_append_left _ (List.mem_append_right _ (List.mem_cons_of_mem _ (List.mem_append_right _ (List.mem_cons_of_mem _ (List.mem_append_right _ h))))))))))))))))
  replace h : (zb1 (p_X9_isIn p0 (1 : Int32) (999 : Int32)) (fun r1 => (zb2 (p_X9_isNo r1) (fun r3 th_4 => (if (z01 r3) = 0 then (if p0 ≤ (1 : Int32) then (some th_4) else (zb1 (p_X9_least F p0) (fun r6 => (zb3 (p_J4_append_15ec4 16 (fun _ => 0) 0 0 (zbt 133)) (fun bc_10 bf_11 bn_12 => (zb1 (p_J0_isEmpty_aae02 0 (zbt 133)) (fun r15 => (if (z01 r15) = 0 then none else (zb3 (p_J4_append_15ec4 bc_10 bf_11 bn_12 0 (zbt 133)) (fun bc_17 bf_18 bn_19 => (zb3 (p_J4_append_bf812 F bc_17 bf_18 bn_19 r6) (fun bc_22 bf_23 bn_24 => (zb3 (p_J4_append_15ec4 bc_22 bf_23 bn_24 1 (zbt 181)) (fun bc_27 bf_28 bn_29 => (zb1 (p_X9_without F p0 r6) (fun r32 => (zg (r32 = 0) (zb1 (p_X9_all F (p0 / r32)) (fun r34 => (zb3 (p_J4_append_bf812 F bc_27 bf_28 bn_29 r34) (fun bc_36 bf_37 bn_38 => (zb2 (p_J7_copyOfRange_39247 bc_36 bf_37 (0 : Int32) bn_38) (fun r43 r44 => (zb1 (p_X9_least F p0) (fun r46 => (zb1 (p_X9_without F p0 r46) (fun r48 => (if r48 ≤ (1 : Int32) then (some th_4) else (zb1 (p_X9_least F r48) (fun r50 => (zb3 (p_J4_append_15ec4 16 (fun _ => 0) 0 r43 r44) (fun bc_54 bf_55 bn_56 => (zb1 (p_J0_isEmpty_aae02 r43 r44) (fun r59 => (if (z01 r59) = 0 then (zb3 (p_J4_append_15ec4 bc_54 bf_55 bn_56 1 (zbt 176)) (fun bc_61 bf_62 bn_63 => (zb3 (p_J4_append_bf812 F bc_61 bf_62 bn_63 r50) (fun bc_66 bf_67 bn_68 => (zb3 (p_J4_append_15ec4 bc_66 bf_67 bn_68 1 (zbt 181)) (fun bc_71 bf_72 bn_73 => (zb1 (p_X9_without F r48 r50) (fun r76 => (zg (r76 = 0) (zb1 (p_X9_all F (r48 / r76)) (fun r78 => (zb3 (p_J4_append_bf812 F bc_71 bf_72 bn_73 r78) (fun bc_80 bf_81 bn_82 => (zb2 (p_J7_copyOfRange_39247 bc_80 bf_81 (0 : Int32) bn_82) (fun r87 r88 => (zb1 (p_X9_least F r48) (fun r90 => (zb1 (p_X9_without F r48 r90) (fun r92 => (if r92 ≤ (1 : Int32) then (some th_4) else (zb1 (p_X9_least F r92) (fun r94 => (zb3 (p_J4_append_15ec4 16 (fun _ => 0) 0 r87 r88) (fun bc_98 bf_99 bn_100 => (zb1 (p_J0_isEmpty_aae02 r87 r88) (fun r103 => (if (z01 r103) = 0 then (zb3 (p_J4_append_15ec4 bc_98 bf_99 bn_100 1 (zbt 176)) (fun bc_105 bf_106 bn_107 => (zb3 (p_J4_append_bf812 F bc_105 bf_106 bn_107 r94) (fun bc_110 bf_111 bn_112 => (zb3 (p_J4_append_15ec4 bc_110 bf_111 bn_112 1 (zbt 181)) (fun bc_115 bf_116 bn_117 => (zb1 (p_X9_without F r92 r94) (fun r120 => (zg (r120 = 0) (zb1 (p_X9_all F (r92 / r120)) (fun r122 => (zb3 (p_J4_append_bf812 F bc_115 bf_116 bn_117 r122) (fun bc_124 bf_125 bn_126 => (zb2 (p_J7_copyOfRange_39247 bc_124 bf_125 (0 : Int32) bn_126) (fun r131 r132 => (zb1 (p_X9_least F r92) (fun r134 => (zb1 (p_X9_without F r92 r134) (fun r136 => (if r136 ≤ (1 : Int32) then (some th_4) else (zb1 (p_X9_least F r136) (fun r138 => (zb3 (p_J4_append_15ec4 16 (fun _ => 0) 0 r131 r132) (fun bc_142 bf_143 bn_144 => (zb1 (p_J0_isEmpty_aae02 r131 r132) (fun r147 => (if (z01 r147) = 0 then (zb3 (p_J4_append_15ec4 bc_142 bf_143 bn_144 1 (zbt 176)) (fun bc_149 bf_150 bn_151 => (zb3 (p_J4_append_bf812 F bc_149 bf_150 bn_151 r138) (fun bc_154 bf_155 bn_156 => (zb3 (p_J4_append_15ec4 bc_154 bf_155 bn_156 1 (zbt 181)) (fun bc_159 bf_160 bn_161 => (zb1 (p_X9_without F r136 r138) (fun r164 => (zg (r164 = 0) (zb1 (p_X9_all F (r136 / r164)) (fun r166 => (zb3 (p_J4_append_bf812 F bc_159 bf_160 bn_161 r166) (fun bc_168 bf_169 bn_170 => (zb2 (p_J7_copyOfRange_39247 bc_168 bf_169 (0 : Int32) bn_170) (fun r175 r176 => (zb1 (p_X9_least F r136) (fun r178 => (zb1 (p_X9_without F r136 r178) (fun r180 => (if r180 ≤ (1 : Int32) then (some th_4) else none)))))))))))))))))))) else none))))))))))))))))))))))))))) else none))))))))))))))))))))))))))) else none))))))))))))))))))))))))))))))))))) else (some th_4)))))) = some th' := h
  obtain ⟨H, hHe⟩ : ∃ H, H = s.heap := ⟨_, rfl⟩
  rw [← hHe] at hP
  replace hS : va_S A s.heap H [] := by rw [hHe]; exact hS
  refine zheap hHe ?_
  refine lv_aload_n hx hb dX9_powers_0 rfl (lv_at hl 0 rfl) ?_
  refine lv_iload_n hx hb dX9_powers_1 rfl (lv_at hl 1 rfl) ?_
  refine lv_iconst (v := (1 : Int32)) hx hb dX9_powers_2 (by decide) ?_
  refine lv_sipush (v := (999 : Int32)) hx hb dX9_powers_3 (by decide) ?_
  obtain ⟨r1, e2, h⟩ := zb1_some h
  refine zgoi (va_runS (As := [.int p0, .int (1 : Int32), .int (999 : Int32)]) (rest := [.ref q]) ⟨hx, hb, hml, hown, hts⟩ (c_X9_isIn l D (zT cJ cI cO cB) p0 (1 : Int32) (999 : Int32) r1 e2 H.size) (va_cwS 3 hts gX9_powers_X9_isIn rfl rfl rfl hdS_X9_isIn ⟨Nat.le_of_ble_eq_true rfl, Nat.le_of_ble_eq_true rfl⟩) (zpreS hK zP0 (zD0 (A := A)) [.int p0, .int (1 : Int32), .int (999 : Int32)]) rfl rfl hl.1 rfl (lv_room (Nat.le_of_ble_eq_true rfl)) dX9_powers_6 ⟨Nat.le_of_ble_eq_true rfl, Nat.le_of_ble_eq_true rfl⟩) (zf0 hS hA) (zjE hP hD) hS (fun H locs hP hD hS => ?_)
  obtain ⟨r3, th_4, e5, h⟩ := zb2_some h
  refine zgoi (va_runV (As := [.int (z01 r1)]) (rest := []) ⟨hx, hb, hml, hown, hts⟩ (c_X9_isNo l D q v cJ cI cO cB V ib dn rf mk th r1 r3 th_4 e5 H.size) (cwV 1 hts gX9_powers_X9_isNo rfl rfl rfl hdV_X9_isNo ⟨Nat.le_of_ble_eq_true rfl, Nat.le_of_ble_eq_true rfl⟩) (zpreV (q0 := 0) (ci := 9) (T := TX9) (N := 6) hK hP hD rfl rfl [.int (z01 r1)]) rfl rfl hl.1 rfl (lv_room (Nat.le_of_ble_eq_true rfl)) dX9_powers_9 ⟨Nat.le_of_ble_eq_true rfl, Nat.le_of_ble_eq_true rfl⟩) (zfree hD hS hA) (zjW hD hS hA) hS (fun H locs hP hD hS => ?_)
  replace hP : va_P D vwCl (mW q v cJ V ib dn rf mk th_4) H := hP
  replace hD : va_D A (mW q v cJ V ib dn rf mk th_4) := hD
  refine lv_if_eq (tgt := 18) hx hb dX9_powers_12 (by decide) (fun c12 => ?_) (fun c12 => ?_)
  · replace h := zif_t h c12
    refine va_ldcS hx hb hown hR133 dX9_powers_18 ?_
    refine lv_astore_n (lv' := [(2, .ref st133), (0, .ref q), (1, .int p0)]) hx hb dX9_powers_20 rfl hl (by decide) rfl (fun ls hl => ?_)
    refine lv_iload_n hx hb dX9_powers_21 rfl (lv_at hl 2 rfl) ?_
    refine lv_istore_n (lv' := [(3, .int p0), (2, .ref st133), (0, .ref q), (1, .int p0)]) hx hb dX9_powers_22 rfl hl (by decide) rfl (fun ls hl => ?_)
    refine lv_iload_n hx hb dX9_powers_23 rfl (lv_at hl 0 rfl) ?_
    refine lv_iconst (v := (1 : Int32)) hx hb dX9_powers_24 (by decide) ?_
    refine lv_icmp_le (tgt := 102) hx hb dX9_powers_25 (by decide) (fun c25 => ?_) (fun c25 => ?_)
    · replace h := zif_t h c25
      refine lv_aload_n hx hb dX9_powers_102 rfl (lv_at hl 1 rfl) ?_
      have h1 := Option.some.inj h
      subst h1
      refine W.widen (k := 36) (n := 3696) (by decide) (by decide) ?_
      exact W.aret (v := .ref st133) hx hb hr (Or.inl ⟨_, rfl⟩) (Or.inr ⟨_, rfl⟩) (fun t ht hW => ⟨⟨(), st133, rfl, trivial, by rw [ht]; exact hP, va_K.moved hW.alike hK, hD⟩, hS.F ht⟩) hS.2.2 dX9_powers_103
    · replace h := zif_f h c25
      refine lv_iload_n hx hb dX9_powers_28 rfl (lv_at hl 0 rfl) ?_
      obtain ⟨r6, e7, h⟩ := zb1_some h
      refine zgoi (va_runS (As := [.int p0]) (rest := []) ⟨hx, hb, hml, hown, hts⟩ (c_X9_least l D (zT cJ cI cO cB) F p0 r6 e7 H.size) (va_cwS 1 hts gX9_powers_X9_least rfl rfl rfl hdS_X9_least ⟨Nat.le_of_ble_eq_true rfl, Nat.le_of_ble_eq_true rfl⟩) (zpreS hK zP0 (zD0 (A := A)) [.int p0]) rfl rfl hl.1 rfl (lv_room (Nat.le_of_ble_eq_true rfl)) dX9_powers_29 ⟨Nat.le_of_ble_eq_true rfl, Nat.le_of_ble_eq_true rfl⟩) (zf0 hS hA) (zjE hP hD) hS (fun H locs hP hD hS => ?_)
      refine lv_istore (lv' := [(4, .int r6), (3, .int p0), (2, .ref st133), (0, .ref q), (1, .int p0)]) hx hb dX9_powers_32 hl (by decide) rfl (fun ls hl => ?_)
      refine va_new (ci := 1) (fs := [.null, .int 0, .int 0, .int 0]) (C := RJ4) (T := TJ4) (N := 4) hx hb hts kwJ4 tyJ4 tyJ4_ok hown kc_135 kin_J4 kii_J4 hK hP hD hS hA rfl (fun j hj => by rcases (show j = 0 ∨ j = 1 ∨ j = 2 ∨ j = 3 by omega) with rfl | rfl | rfl | rfl <;> rfl) (Nat.le_of_ble_eq_true rfl) (Nat.le_of_ble_eq_true rfl) dX9_powers_34 (fun sb8 H hP hD hS => ?_)
      replace hP : va_P D vwCl ((mW q v cJ V ib dn rf mk th_4) ++ [(sb8, .inr (1, [.null, .int 0, .int 0, .int 0]))]) H := hP
      replace hD : va_D A ((mW q v cJ V ib dn rf mk th_4) ++ [(sb8, .inr (1, [.null, .int 0, .int 0, .int 0]))]) := hD
      refine lv_dup hx hb dX9_powers_37 rfl ?_
      have hPc := zsub (wn := ([(sb8, .inr (1, [.null, .int 0, .int 0, .int 0]))] : va_W)) hP [2] rfl
      have hDc := hD.sub (ws' := ([(sb8, .inr (1, [.null, .int 0, .int 0, .int 0]))] : va_W)) [2] (by decide) rfl
      refine zgoc (va_runI (As := []) (rest := [.ref sb8]) ⟨hx, hb, hml, hown, hts⟩ (c_J4_init_da8c8 l D cJ cI cO cB sb8 H.size) (cwI 0 hts gX9_powers_J4_init_da8c8 rfl rfl rfl kii_J4 km_137 kim_J4i rfl (by decide +kernel) ⟨Nat.le_of_ble_eq_true rfl, Nat.le_of_ble_eq_true rfl⟩) (zxpreS hE hS (va_free hD hS hA [2] rfl) hK hPc hDc [.ref sb8]) rfl rfl hl.1 rfl (lv_room (Nat.le_of_ble_eq_true rfl)) dX9_powers_38 ⟨Nat.le_of_ble_eq_true rfl, Nat.le_of_ble_eq_true rfl⟩) (va_free hD hS hA [2] rfl) (fun u => zjF (wr := (mW q v cJ V ib dn rf mk th_4)) hP hD hS hA [2] [0, 1] rfl rfl (by decide) (by decide)) hS (fun u9 H locs hP hD hS => ?_)
      replace hP : va_P D vwCl (mW q v cJ V ib dn rf mk th_4 ++ (sW sb8 cB (u9 0) 16 (fun _ => 0) false 0)) H := hP
      replace hD : va_D A (mW q v cJ V ib dn rf mk th_4 ++ (sW sb8 cB (u9 0) 16 (fun _ => 0) false 0)) := hD
      refine lv_aload_n hx hb dX9_powers_41 rfl (lv_at hl 2 rfl) ?_
      obtain ⟨bc_10, bf_11, bn_12, e13, h⟩ := zb3_some h
      have hPc := zsub (wn := (sW sb8 cB (u9 0) 16 (fun _ => 0) false 0)) hP [2, 3] rfl
      have hDc := hD.sub (ws' := (sW sb8 cB (u9 0) 16 (fun _ => 0) false 0)) [2, 3] (by decide) rfl
      refine zgosr (va_runV (As := [.ref st133]) (rest := []) ⟨hx, hb, hml, hown, hts⟩ (c_J4_append_15ec4 l D sb8 cJ cI cO cB (u9 0) 16 (fun _ => 0) false 0 st133 0 (zbt 133) bc_10 bf_11 bn_12 e13 H.size) (cwV 1 hts gX9_powers_J4_append_15ec4 rfl rfl rfl hdV_J4_append_15ec4 ⟨Nat.le_of_ble_eq_true rfl, Nat.le_of_ble_eq_true rfl⟩) (zspreV hE (zSt.here hst_st133 hS (va_free hD hS hA [2, 3] rfl)) hS (va_free hD hS hA [2, 3] rfl) (q0 := 0) (ci := 1) (T := TJ4) (N := 4) hK hPc hDc rfl rfl [.ref st133]) rfl rfl hl.1 rfl (lv_room (Nat.le_of_ble_eq_true rfl)) dX9_powers_42 ⟨Nat.le_of_ble_eq_true rfl, Nat.le_of_ble_eq_true rfl⟩) (va_free hD hS hA [2, 3] rfl) (fun bv14 => (zjs (wn := (mW q v cJ V ib dn rf mk th_4 ++ (sW sb8 cB bv14 bc_10 bf_11 false bn_12))) [0, 1, 2, 3] (zjF (wr := (mW q v cJ V ib dn rf mk th_4)) hP hD hS hA [2, 3] [0, 1] rfl rfl (by decide) (by decide)) rfl (by decide))) hS (fun bv14 H locs hP hD hS => ?_)
      replace hP : va_P D vwCl (mW q v cJ V ib dn rf mk th_4 ++ (sW sb8 cB bv14 bc_10 bf_11 false bn_12)) H := hP
      replace hD : va_D A (mW q v cJ V ib dn rf mk th_4 ++ (sW sb8 cB bv14 bc_10 bf_11 false bn_12)) := hD
      refine lv_aload_n hx hb dX9_powers_45 rfl (lv_at hl 2 rfl) ?_
      obtain ⟨r15, e16, h⟩ := zb1_some h
      refine zgoi (va_runV (As := []) (rest := [.ref sb8]) ⟨hx, hb, hml, hown, hts⟩ (c_J0_isEmpty_aae02 l D cJ cI cO cB st133 0 (zbt 133) r15 e16 H.size) (cwV 0 hts gX9_powers_J0_isEmpty_aae02 rfl rfl rfl hdV_J0_isEmpty_aae02 ⟨Nat.le_of_ble_eq_true rfl, Nat.le_of_ble_eq_true rfl⟩) (zspreT hE (zSt.here hst_st133 hS (zf0 hS hA)) hS (zf0 hS hA) hK zP0 (zD0 (A := A)) []) rfl rfl hl.1 rfl (lv_room (Nat.le_of_ble_eq_true rfl)) dX9_powers_46 ⟨Nat.le_of_ble_eq_true rfl, Nat.le_of_ble_eq_true rfl⟩) (zf0 hS hA) (zjE hP hD) hS (fun H locs hP hD hS => ?_)
      refine lv_if_eq (tgt := 57) hx hb dX9_powers_49 (by decide) (fun c49 => ?_) (fun c49 => ?_)
      · replace h := zif_t h c49
        exact (zno h).elim
      · replace h := zif_f h c49
        refine va_ldcS hx hb hown hR133 dX9_powers_52 ?_
        refine lv_goto (tgt := 59) hx hb dX9_powers_54 (by decide) ?_
        obtain ⟨bc_17, bf_18, bn_19, e20, h⟩ := zb3_some h
        have hPc := zsub (wn := (sW sb8 cB bv14 bc_10 bf_11 false bn_12)) hP [2, 3] rfl
        have hDc := hD.sub (ws' := (sW sb8 cB bv14 bc_10 bf_11 false bn_12)) [2, 3] (by decide) rfl
        refine zgosr (va_runV (As := [.ref st133]) (rest := []) ⟨hx, hb, hml, hown, hts⟩ (c_J4_append_15ec4 l D sb8 cJ cI cO cB bv14 bc_10 bf_11 false bn_12 st133 0 (zbt 133) bc_17 bf_18 bn_19 e20 H.size) (cwV 1 hts gX9_powers_J4_append_15ec4 rfl rfl rfl hdV_J4_append_15ec4 ⟨Nat.le_of_ble_eq_true rfl, Nat.le_of_ble_eq_true rfl⟩) (zspreV hE (zSt.here hst_st133 hS (va_free hD hS hA [2, 3] rfl)) hS (va_free hD hS hA [2, 3] rfl) (q0 := 0) (ci := 1) (T := TJ4) (N := 4) hK hPc hDc rfl rfl [.ref st133]) rfl rfl hl.1 rfl (lv_room (Nat.le_of_ble_eq_true rfl)) dX9_powers_59 ⟨Nat.le_of_ble_eq_true rfl, Nat.le_of_ble_eq_true rfl⟩) (va_free hD hS hA [2, 3] rfl) (fun bv21 => (zjs (wn := (mW q v cJ V ib dn rf mk th_4 ++ (sW sb8 cB bv21 bc_17 bf_18 false bn_19))) [0, 1, 2, 3] (zjF (wr := (mW q v cJ V ib dn rf mk th_4)) hP hD hS hA [2, 3] [0, 1] rfl rfl (by decide) (by decide)) rfl (by decide))) hS (fun bv21 H locs hP hD hS => ?_)
        replace hP : va_P D vwCl (mW q v cJ V ib dn rf mk th_4 ++ (sW sb8 cB bv21 bc_17 bf_18 false bn_19)) H := hP
        replace hD : va_D A (mW q v cJ V ib dn rf mk th_4 ++ (sW sb8 cB bv21 bc_17 bf_18 false bn_19)) := hD
        refine lv_iload hx hb dX9_powers_62 (lv_at hl 0 rfl) ?_
        obtain ⟨bc_22, bf_23, bn_24, e25, h⟩ := zb3_some h
        have hPc := zsub (wn := (sW sb8 cB bv21 bc_17 bf_18 false bn_19)) hP [2, 3] rfl
        have hDc := hD.sub (ws' := (sW sb8 cB bv21 bc_17 bf_18 false bn_19)) [2, 3] (by decide) rfl
        refine zgosr (va_runV (As := [.int r6]) (rest := []) ⟨hx, hb, hml, hown, hts⟩ (c_J4_append_bf812 l D sb8 cJ cI cO cB bv21 bc_17 bf_18 false bn_19 F r6 bc_22 bf_23 bn_24 e25 H.size) (cwV 1 hts gX9_powers_J4_append_bf812 rfl rfl rfl hdV_J4_append_bf812 ⟨Nat.le_of_ble_eq_true rfl, Nat.le_of_ble_eq_true rfl⟩) (zxpreV hE hS (va_free hD hS hA [2, 3] rfl) (q0 := 0) (ci := 1) (T := TJ4) (N := 4) hK hPc hDc rfl rfl [.int r6]) rfl rfl hl.1 rfl (lv_room (Nat.le_of_ble_eq_true rfl)) dX9_powers_64 ⟨Nat.le_of_ble_eq_true rfl, Nat.le_of_ble_eq_true rfl⟩) (va_free hD hS hA [2, 3] rfl) (fun bv26 => (zjs (wn := (mW q v cJ V ib dn rf mk th_4 ++ (sW sb8 cB bv26 bc_22 bf_23 false bn_24))) [0, 1, 2, 3] (zjF (wr := (mW q v cJ V ib dn rf mk th_4)) hP hD hS hA [2, 3] [0, 1] rfl rfl (by decide) (by decide)) rfl (by decide))) hS (fun bv26 H locs hP hD hS => ?_)
        replace hP : va_P D vwCl (mW q v cJ V ib dn rf mk th_4 ++ (sW sb8 cB bv26 bc_22 bf_23 false bn_24)) H := hP
        replace hD : va_D A (mW q v cJ V ib dn rf mk th_4 ++ (sW sb8 cB bv26 bc_22 bf_23 false bn_24)) := hD
        refine va_ldcS hx hb hown hR181 dX9_powers_67 ?_
        obtain ⟨bc_27, bf_28, bn_29, e30, h⟩ := zb3_some h
        have hPc := zsub (wn := (sW sb8 cB bv26 bc_22 bf_23 false bn_24)) hP [2, 3] rfl
        have hDc := hD.sub (ws' := (sW sb8 cB bv26 bc_22 bf_23 false bn_24)) [2, 3] (by decide) rfl
        refine zgosr (va_runV (As := [.ref st181]) (rest := []) ⟨hx, hb, hml, hown, hts⟩ (c_J4_append_15ec4 l D sb8 cJ cI cO cB bv26 bc_22 bf_23 false bn_24 st181 1 (zbt 181) bc_27 bf_28 bn_29 e30 H.size) (cwV 1 hts gX9_powers_J4_append_15ec4 rfl rfl rfl hdV_J4_append_15ec4 ⟨Nat.le_of_ble_eq_true rfl, Nat.le_of_ble_eq_true rfl⟩) (zspreV hE (zSt.here hst_st181 hS (va_free hD hS hA [2, 3] rfl)) hS (va_free hD hS hA [2, 3] rfl) (q0 := 0) (ci := 1) (T := TJ4) (N := 4) hK hPc hDc rfl rfl [.ref st181]) rfl rfl hl.1 rfl (lv_room (Nat.le_of_ble_eq_true rfl)) dX9_powers_69 ⟨Nat.le_of_ble_eq_true rfl, Nat.le_of_ble_eq_true rfl⟩) (va_free hD hS hA [2, 3] rfl) (fun bv31 => (zjs (wn := (mW q v cJ V ib dn rf mk th_4 ++ (sW sb8 cB bv31 bc_27 bf_28 false bn_29))) [0, 1, 2, 3] (zjF (wr := (mW q v cJ V ib dn rf mk th_4)) hP hD hS hA [2, 3] [0, 1] rfl rfl (by decide) (by decide)) rfl (by decide))) hS (fun bv31 H locs hP hD hS => ?_)
        replace hP : va_P D vwCl (mW q v cJ V ib dn rf mk th_4 ++ (sW sb8 cB bv31 bc_27 bf_28 false bn_29)) H := hP
        replace hD : va_D A (mW q v cJ V ib dn rf mk th_4 ++ (sW sb8 cB bv31 bc_27 bf_28 false bn_29)) := hD
        refine lv_iload_n hx hb dX9_powers_72 rfl (lv_at hl 1 rfl) ?_
        refine lv_iload_n hx hb dX9_powers_73 rfl (lv_at hl 1 rfl) ?_
        refine lv_iload hx hb dX9_powers_74 (lv_at hl 0 rfl) ?_
        obtain ⟨r32, e33, h⟩ := zb1_some h
        refine zgoi (va_runS (As := [.int p0, .int r6]) (rest := [.int p0, .ref sb8]) ⟨hx, hb, hml, hown, hts⟩ (c_X9_without l D (zT cJ cI cO cB) F p0 r6 r32 e33 H.size) (va_cwS 2 hts gX9_powers_X9_without rfl rfl rfl hdS_X9_without ⟨Nat.le_of_ble_eq_true rfl, Nat.le_of_ble_eq_true rfl⟩) (zpreS hK zP0 (zD0 (A := A)) [.int p0, .int r6]) rfl rfl hl.1 rfl (lv_room (Nat.le_of_ble_eq_true rfl)) dX9_powers_76 ⟨Nat.le_of_ble_eq_true rfl, Nat.le_of_ble_eq_true rfl⟩) (zf0 hS hA) (zjE hP hD) hS (fun H locs hP hD hS => ?_)
        obtain ⟨z79, h⟩ := zg_some h
        refine lv_idiv hx hb dX9_powers_79 z79 ?_
        obtain ⟨r34, e35, h⟩ := zb1_some h
        refine zgoi (va_runS (As := [.int (p0 / r32)]) (rest := [.ref sb8]) ⟨hx, hb, hml, hown, hts⟩ (c_X9_all l D (zT cJ cI cO cB) F (p0 / r32) r34 e35 H.size) (va_cwS 1 hts gX9_powers_X9_all rfl rfl rfl hdS_X9_all ⟨Nat.le_of_ble_eq_true rfl, Nat.le_of_ble_eq_true rfl⟩) (zpreS hK zP0 (zD0 (A := A)) [.int (p0 / r32)]) rfl rfl hl.1 rfl (lv_room (Nat.le_of_ble_eq_true rfl)) dX9_powers_80 ⟨Nat.le_of_ble_eq_true rfl, Nat.le_of_ble_eq_true rfl⟩) (zf0 hS hA) (zjE hP hD) hS (fun H locs hP hD hS => ?_)
        obtain ⟨bc_36, bf_37, bn_38, e39, h⟩ := zb3_some h
        have hPc := zsub (wn := (sW sb8 cB bv31 bc_27 bf_28 false bn_29)) hP [2, 3] rfl
        have hDc := hD.sub (ws' := (sW sb8 cB bv31 bc_27 bf_28 false bn_29)) [2, 3] (by decide) rfl
        refine zgosr (va_runV (As := [.int r34]) (rest := []) ⟨hx, hb, hml, hown, hts⟩ (c_J4_append_bf812 l D sb8 cJ cI cO cB bv31 bc_27 bf_28 false bn_29 F r34 bc_36 bf_37 bn_38 e39 H.size) (cwV 1 hts gX9_powers_J4_append_bf812 rfl rfl rfl hdV_J4_append_bf812 ⟨Nat.le_of_ble_eq_true rfl, Nat.le_of_ble_eq_true rfl⟩) (zxpreV hE hS (va_free hD hS hA [2, 3] rfl) (q0 := 0) (ci := 1) (T := TJ4) (N := 4) hK hPc hDc rfl rfl [.int r34]) rfl rfl hl.1 rfl (lv_room (Nat.le_of_ble_eq_true rfl)) dX9_powers_83 ⟨Nat.le_of_ble_eq_true rfl, Nat.le_of_ble_eq_true rfl⟩) (va_free hD hS hA [2, 3] rfl) (fun bv40 => (zjs (wn := (mW q v cJ V ib dn rf mk th_4 ++ (sW sb8 cB bv40 bc_36 bf_37 false bn_38))) [0, 1, 2, 3] (zjF (wr := (mW q v cJ V ib dn rf mk th_4)) hP hD hS hA [2, 3] [0, 1] rfl rfl (by decide) (by decide)) rfl (by decide))) hS (fun bv40 H locs hP hD hS => ?_)
        replace hP : va_P D vwCl (mW q v cJ V ib dn rf mk th_4 ++ (sW sb8 cB bv40 bc_36 bf_37 false bn_38)) H := hP
        replace hD : va_D A (mW q v cJ V ib dn rf mk th_4 ++ (sW sb8 cB bv40 bc_36 bf_37 false bn_38)) := hD
        obtain ⟨r43, r44, e45, h⟩ := zb2_some h
        have hPc := zsub (wn := ([(sb8, .inr (1, [.ref bv40, .int 0, .int (z01 false), .int bn_38])), (bv40, .inl (cB, bc_36, .inl bf_37))] : va_W)) hP [2, 3] rfl
        have hDc := hD.sub (ws' := ([(sb8, .inr (1, [.ref bv40, .int 0, .int (z01 false), .int bn_38])), (bv40, .inl (cB, bc_36, .inl bf_37))] : va_W)) [2, 3] (by decide) rfl
        refine zgoss (va_runV (As := []) (rest := []) ⟨hx, hb, hml, hown, hts⟩ (c_J4_toString_0e30d l D cJ cI cO cB sb8 bv40 bc_36 bf_37 false bn_38 r43 r44 e45 H.size) (cwV 0 hts gX9_powers_J4_toString_0e30d rfl rfl rfl hdV_J4_toString_0e30d ⟨Nat.le_of_ble_eq_true rfl, Nat.le_of_ble_eq_true rfl⟩) (zxpreV hE hS (va_free hD hS hA [2, 3] rfl) (q0 := 0) (ci := 1) (T := TJ4) (N := 4) hK hPc hDc rfl rfl []) rfl rfl hl.1 rfl (lv_room (Nat.le_of_ble_eq_true rfl)) dX9_powers_86 ⟨Nat.le_of_ble_eq_true rfl, Nat.le_of_ble_eq_true rfl⟩) (va_free hD hS hA [2, 3] rfl) (fun s41 u42 => zjs (wn := (mW q v cJ V ib dn rf mk th_4 ++ ([(s41, .inr (0, [.ref u42, .int 0, .int 0, .int 0])), (u42, .inl (cB, r43, .inl r44))]))) [0, 1, 2, 3] (zjF (wr := (mW q v cJ V ib dn rf mk th_4)) hP hD hS hA [2, 3] [0, 1] rfl rfl (by decide) (by decide)) rfl (by decide)) hS (fun s41 u42 H locs hP hD hS => ?_)
        replace hP : va_P D vwCl (mW q v cJ V ib dn rf mk th_4 ++ ([(s41, .inr (0, [.ref u42, .int 0, .int 0, .int 0])), (u42, .inl (cB, r43, .inl r44))])) H := hP
        replace hD : va_D A (mW q v cJ V ib dn rf mk th_4 ++ ([(s41, .inr (0, [.ref u42, .int 0, .int 0, .int 0])), (u42, .inl (cB, r43, .inl r44))])) := hD
        refine lv_astore_n (lv' := [(2, .ref s41), (4, .int r6), (3, .int p0), (0, .ref q), (1, .int p0)]) hx hb dX9_powers_89 rfl hl (by decide) rfl (fun ls hl => ?_)
        refine lv_iload_n hx hb dX9_powers_90 rfl (lv_at hl 2 rfl) ?_
        refine lv_iload_n hx hb dX9_powers_91 rfl (lv_at hl 2 rfl) ?_
        obtain ⟨r46, e47, h⟩ := zb1_some h
        refine zgoi (va_runS (As := [.int p0]) (rest := [.int p0]) ⟨hx, hb, hml, hown, hts⟩ (c_X9_least l D (zT cJ cI cO cB) F p0 r46 e47 H.size) (va_cwS 1 hts gX9_powers_X9_least rfl rfl rfl hdS_X9_least ⟨Nat.le_of_ble_eq_true rfl, Nat.le_of_ble_eq_true rfl⟩) (zpreS hK zP0 (zD0 (A := A)) [.int p0]) rfl rfl hl.1 rfl (lv_room (Nat.le_of_ble_eq_true rfl)) dX9_powers_92 ⟨Nat.le_of_ble_eq_true rfl, Nat.le_of_ble_eq_true rfl⟩) (zf0 hS hA) (zjE hP hD) hS (fun H locs hP hD hS => ?_)
        obtain ⟨r48, e49, h⟩ := zb1_some h
        refine zgoi (va_runS (As := [.int p0, .int r46]) (rest := []) ⟨hx, hb, hml, hown, hts⟩ (c_X9_without l D (zT cJ cI cO cB) F p0 r46 r48 e49 H.size) (va_cwS 2 hts gX9_powers_X9_without rfl rfl rfl hdS_X9_without ⟨Nat.le_of_ble_eq_true rfl, Nat.le_of_ble_eq_true rfl⟩) (zpreS hK zP0 (zD0 (A := A)) [.int p0, .int r46]) rfl rfl hl.1 rfl (lv_room (Nat.le_of_ble_eq_true rfl)) dX9_powers_95 ⟨Nat.le_of_ble_eq_true rfl, Nat.le_of_ble_eq_true rfl⟩) (zf0 hS hA) (zjE hP hD) hS (fun H locs hP hD hS => ?_)
        refine lv_istore_n (lv' := [(3, .int r48), (2, .ref s41), (4, .int r6), (0, .ref q), (1, .int p0)]) hx hb dX9_powers_98 rfl hl (by decide) rfl (fun ls hl => ?_)
        refine lv_goto (tgt := 23) hx hb dX9_powers_99 (by decide) ?_
        refine lv_iload_n hx hb dX9_powers_23 rfl (lv_at hl 0 rfl) ?_
        refine lv_iconst (v := (1 : Int32)) hx hb dX9_powers_24 (by decide) ?_
        refine lv_icmp_le (tgt := 102) hx hb dX9_powers_25 (by decide) (fun c25 => ?_) (fun c25 => ?_)
        · replace h := zif_t h c25
          refine lv_aload_n hx hb dX9_powers_102 rfl (lv_at hl 1 rfl) ?_
          have h1 := Option.some.inj h
          subst h1
          replace hP := zsub (wn := (mW q v cJ V ib dn rf mk th_4)) hP [0, 1] rfl
          replace hD := hD.sub (ws' := (mW q v cJ V ib dn rf mk th_4)) [0, 1] (by decide) rfl
          refine W.widen (k := 36) (n := 3696) (by decide) (by decide) ?_
          exact W.aret (v := .ref s41) hx hb hr (Or.inl ⟨_, rfl⟩) (Or.inr ⟨_, rfl⟩) (fun t ht hW => ⟨⟨(), s41, rfl, trivial, by rw [ht]; exact hP, va_K.moved hW.alike hK, hD⟩, hS.F ht⟩) hS.2.2 dX9_powers_103
        · replace h := zif_f h c25
          refine lv_iload_n hx hb dX9_powers_28 rfl (lv_at hl 0 rfl) ?_
          obtain ⟨r50, e51, h⟩ := zb1_some h
          refine zgoi (va_runS (As := [.int r48]) (rest := []) ⟨hx, hb, hml, hown, hts⟩ (c_X9_least l D (zT cJ cI cO cB) F r48 r50 e51 H.size) (va_cwS 1 hts gX9_powers_X9_least rfl rfl rfl hdS_X9_least ⟨Nat.le_of_ble_eq_true rfl, Nat.le_of_ble_eq_true rfl⟩) (zpreS hK zP0 (zD0 (A := A)) [.int r48]) rfl rfl hl.1 rfl (lv_room (Nat.le_of_ble_eq_true rfl)) dX9_powers_29 ⟨Nat.le_of_ble_eq_true rfl, Nat.le_of_ble_eq_true rfl⟩) (zf0 hS hA) (zjE hP hD) hS (fun H locs hP hD hS => ?_)
          refine lv_istore (lv' := [(4, .int r50), (3, .int r48), (2, .ref s41), (0, .ref q), (1, .int p0)]) hx hb dX9_powers_32 hl (by decide) rfl (fun ls hl => ?_)
          refine va_new (ci := 1) (fs := [.null, .int 0, .int 0, .int 0]) (C := RJ4) (T := TJ4) (N := 4) hx hb hts kwJ4 tyJ4 tyJ4_ok hown kc_135 kin_J4 kii_J4 hK hP hD hS hA rfl (fun j hj => by rcases (show j = 0 ∨ j = 1 ∨ j = 2 ∨ j = 3 by omega) with rfl | rfl | rfl | rfl <;> rfl) (Nat.le_of_ble_eq_true rfl) (Nat.le_of_ble_eq_true rfl) dX9_powers_34 (fun sb52 H hP hD hS => ?_)
          replace hP : va_P D vwCl ((mW q v cJ V ib dn rf mk th_4 ++ ([(s41, .inr (0, [.ref u42, .int 0, .int 0, .int 0])), (u42, .inl (cB, r43, .inl r44))])) ++ [(sb52, .inr (1, [.null, .int 0, .int 0, .int 0]))]) H := hP
          replace hD : va_D A ((mW q v cJ V ib dn rf mk th_4 ++ ([(s41, .inr (0, [.ref u42, .int 0, .int 0, .int 0])), (u42, .inl (cB, r43, .inl r44))])) ++ [(sb52, .inr (1, [.null, .int 0, .int 0, .int 0]))]) := hD
          refine lv_dup hx hb dX9_powers_37 rfl ?_
          have hPc := zsub (wn := ([(sb52, .inr (1, [.null, .int 0, .int 0, .int 0]))] : va_W)) hP [4] rfl
          have hDc := hD.sub (ws' := ([(sb52, .inr (1, [.null, .int 0, .int 0, .int 0]))] : va_W)) [4] (by decide) rfl
          refine zgoc (va_runI (As := []) (rest := [.ref sb52]) ⟨hx, hb, hml, hown, hts⟩ (c_J4_init_da8c8 l D cJ cI cO cB sb52 H.size) (cwI 0 hts gX9_powers_J4_init_da8c8 rfl rfl rfl kii_J4 km_137 kim_J4i rfl (by decide +kernel) ⟨Nat.le_of_ble_eq_true rfl, Nat.le_of_ble_eq_true rfl⟩) (zxpreS hE hS (va_free hD hS hA [4] rfl) hK hPc hDc [.ref sb52]) rfl rfl hl.1 rfl (lv_room (Nat.le_of_ble_eq_true rfl)) dX9_powers_38 ⟨Nat.le_of_ble_eq_true rfl, Nat.le_of_ble_eq_true rfl⟩) (va_free hD hS hA [4] rfl) (fun u => zjF (wr := (mW q v cJ V ib dn rf mk th_4 ++ ([(s41, .inr (0, [.ref u42, .int 0, .int 0, .int 0])), (u42, .inl (cB, r43, .inl r44))]))) hP hD hS hA [4] [0, 1, 2, 3] rfl rfl (by decide) (by decide)) hS (fun u53 H locs hP hD hS => ?_)
          replace hP : va_P D vwCl (mW q v cJ V ib dn rf mk th_4 ++ ([(s41, .inr (0, [.ref u42, .int 0, .int 0, .int 0])), (u42, .inl (cB, r43, .inl r44))] ++ (sW sb52 cB (u53 0) 16 (fun _ => 0) false 0))) H := hP
          replace hD : va_D A (mW q v cJ V ib dn rf mk th_4 ++ ([(s41, .inr (0, [.ref u42, .int 0, .int 0, .int 0])), (u42, .inl (cB, r43, .inl r44))] ++ (sW sb52 cB (u53 0) 16 (fun _ => 0) false 0))) := hD
          refine lv_aload_n hx hb dX9_powers_41 rfl (lv_at hl 2 rfl) ?_
          obtain ⟨bc_54, bf_55, bn_56, e57, h⟩ := zb3_some h
          have hPc := zsub (wn := (sW sb52 cB (u53 0) 16 (fun _ => 0) false 0)) hP [4, 5] rfl
          have hDc := hD.sub (ws' := (sW sb52 cB (u53 0) 16 (fun _ => 0) false 0)) [4, 5] (by decide) rfl
          refine zgosr (va_runV (As := [.ref s41]) (rest := []) ⟨hx, hb, hml, hown, hts⟩ (c_J4_append_15ec4 l D sb52 cJ cI cO cB (u53 0) 16 (fun _ => 0) false 0 s41 r43 r44 bc_54 bf_55 bn_56 e57 H.size) (cwV 1 hts gX9_powers_J4_append_15ec4 rfl rfl rfl hdV_J4_append_15ec4 ⟨Nat.le_of_ble_eq_true rfl, Nat.le_of_ble_eq_true rfl⟩) (zspreV hE (zSt.ofW hts kwJ0 hK hP hD [4, 5] rfl 2 3 rfl rfl (by decide) (by decide)) hS (va_free hD hS hA [4, 5] rfl) (q0 := 0) (ci := 1) (T := TJ4) (N := 4) hK hPc hDc rfl rfl [.ref s41]) rfl rfl hl.1 rfl (lv_room (Nat.le_of_ble_eq_true rfl)) dX9_powers_42 ⟨Nat.le_of_ble_eq_true rfl, Nat.le_of_ble_eq_true rfl⟩) (va_free hD hS hA [4, 5] rfl) (fun bv58 => (zjs (wn := (mW q v cJ V ib dn rf mk th_4 ++ ([(s41, .inr (0, [.ref u42, .int 0, .int 0, .int 0])), (u42, .inl (cB, r43, .inl r44))] ++ (sW sb52 cB bv58 bc_54 bf_55 false bn_56)))) [0, 1, 2, 3, 4, 5] (zjF (wr := (mW q v cJ V ib dn rf mk th_4 ++ ([(s41, .inr (0, [.ref u42, .int 0, .int 0, .int 0])), (u42, .inl (cB, r43, .inl r44))]))) hP hD hS hA [4, 5] [0, 1, 2, 3] rfl rfl (by decide) (by decide)) rfl (by decide))) hS (fun bv58 H locs hP hD hS => ?_)
          replace hP : va_P D vwCl (mW q v cJ V ib dn rf mk th_4 ++ ([(s41, .inr (0, [.ref u42, .int 0, .int 0, .int 0])), (u42, .inl (cB, r43, .inl r44))] ++ (sW sb52 cB bv58 bc_54 bf_55 false bn_56))) H := hP
          replace hD : va_D A (mW q v cJ V ib dn rf mk th_4 ++ ([(s41, .inr (0, [.ref u42, .int 0, .int 0, .int 0])), (u42, .inl (cB, r43, .inl r44))] ++ (sW sb52 cB bv58 bc_54 bf_55 false bn_56))) := hD
          refine lv_aload_n hx hb dX9_powers_45 rfl (lv_at hl 2 rfl) ?_
          obtain ⟨r59, e60, h⟩ := zb1_some h
          refine zgoi (va_runV (As := []) (rest := [.ref sb52]) ⟨hx, hb, hml, hown, hts⟩ (c_J0_isEmpty_aae02 l D cJ cI cO cB s41 r43 r44 r59 e60 H.size) (cwV 0 hts gX9_powers_J0_isEmpty_aae02 rfl rfl rfl hdV_J0_isEmpty_aae02 ⟨Nat.le_of_ble_eq_true rfl, Nat.le_of_ble_eq_true rfl⟩) (zspreT hE (zSt.ofW hts kwJ0 hK hP hD [] rfl 2 3 rfl rfl (by decide) (by decide)) hS (zf0 hS hA) hK zP0 (zD0 (A := A)) []) rfl rfl hl.1 rfl (lv_room (Nat.le_of_ble_eq_true rfl)) dX9_powers_46 ⟨Nat.le_of_ble_eq_true rfl, Nat.le_of_ble_eq_true rfl⟩) (zf0 hS hA) (zjE hP hD) hS (fun H locs hP hD hS => ?_)
          refine lv_if_eq (tgt := 57) hx hb dX9_powers_49 (by decide) (fun c49 => ?_) (fun c49 => ?_)
          · replace h := zif_t h c49
            refine va_ldcS hx hb hown hR176 dX9_powers_57 ?_
            obtain ⟨bc_61, bf_62, bn_63, e64, h⟩ := zb3_some h
            have hPc := zsub (wn := (sW sb52 cB bv58 bc_54 bf_55 false bn_56)) hP [4, 5] rfl
            have hDc := hD.sub (ws' := (sW sb52 cB bv58 bc_54 bf_55 false bn_56)) [4, 5] (by decide) rfl
            refine zgosr (va_runV (As := [.ref st176]) (rest := []) ⟨hx, hb, hml, hown, hts⟩ (c_J4_append_15ec4 l D sb52 cJ cI cO cB bv58 bc_54 bf_55 false bn_56 st176 1 (zbt 176) bc_61 bf_62 bn_63 e64 H.size) (cwV 1 hts gX9_powers_J4_append_15ec4 rfl rfl rfl hdV_J4_append_15ec4 ⟨Nat.le_of_ble_eq_true rfl, Nat.le_of_ble_eq_true rfl⟩) (zspreV hE (zSt.here hst_st176 hS (va_free hD hS hA [4, 5] rfl)) hS (va_free hD hS hA [4, 5] rfl) (q0 := 0) (ci := 1) (T := TJ4) (N := 4) hK hPc hDc rfl rfl [.ref st176]) rfl rfl hl.1 rfl (lv_room (Nat.le_of_ble_eq_true rfl)) dX9_powers_59 ⟨Nat.le_of_ble_eq_true rfl, Nat.le_of_ble_eq_true rfl⟩) (va_free hD hS hA [4, 5] rfl) (fun bv65 => (zjs (wn := (mW q v cJ V ib dn rf mk th_4 ++ ([(s41, .inr (0, [.ref u42, .int 0, .int 0, .int 0])), (u42, .inl (cB, r43, .inl r44))] ++ (sW sb52 cB bv65 bc_61 bf_62 false bn_63)))) [0, 1, 2, 3, 4, 5] (zjF (wr := (mW q v cJ V ib dn rf mk th_4 ++ ([(s41, .inr (0, [.ref u42, .int 0, .int 0, .int 0])), (u42, .inl (cB, r43, .inl r44))]))) hP hD hS hA [4, 5] [0, 1, 2, 3] rfl rfl (by decide) (by decide)) rfl (by decide))) hS (fun bv65 H locs hP hD hS => ?_)
            replace hP : va_P D vwCl (mW q v cJ V ib dn rf mk th_4 ++ ([(s41, .inr (0, [.ref u42, .int 0, .int 0, .int 0])), (u42, .inl (cB, r43, .inl r44))] ++ (sW sb52 cB bv65 bc_61 bf_62 false bn_63))) H := hP
            replace hD : va_D A (mW q v cJ V ib dn rf mk th_4 ++ ([(s41, .inr (0, [.ref u42, .int 0, .int 0, .int 0])), (u42, .inl (cB, r43, .inl r44))] ++ (sW sb52 cB bv65 bc_61 bf_62 false bn_63))) := hD
            refine lv_iload hx hb dX9_powers_62 (lv_at hl 0 rfl) ?_
            obtain ⟨bc_66, bf_67, bn_68, e69, h⟩ := zb3_some h
            have hPc := zsub (wn := (sW sb52 cB bv65 bc_61 bf_62 false bn_63)) hP [4, 5] rfl
            have hDc := hD.sub (ws' := (sW sb52 cB bv65 bc_61 bf_62 false bn_63)) [4, 5] (by decide) rfl
            refine zgosr (va_runV (As := [.int r50]) (rest := []) ⟨hx, hb, hml, hown, hts⟩ (c_J4_append_bf812 l D sb52 cJ cI cO cB bv65 bc_61 bf_62 false bn_63 F r50 bc_66 bf_67 bn_68 e69 H.size) (cwV 1 hts gX9_powers_J4_append_bf812 rfl rfl rfl hdV_J4_append_bf812 ⟨Nat.le_of_ble_eq_true rfl, Nat.le_of_ble_eq_true rfl⟩) (zxpreV hE hS (va_free hD hS hA [4, 5] rfl) (q0 := 0) (ci := 1) (T := TJ4) (N := 4) hK hPc hDc rfl rfl [.int r50]) rfl rfl hl.1 rfl (lv_room (Nat.le_of_ble_eq_true rfl)) dX9_powers_64 ⟨Nat.le_of_ble_eq_true rfl, Nat.le_of_ble_eq_true rfl⟩) (va_free hD hS hA [4, 5] rfl) (fun bv70 => (zjs (wn := (mW q v cJ V ib dn rf mk th_4 ++ ([(s41, .inr (0, [.ref u42, .int 0, .int 0, .int 0])), (u42, .inl (cB, r43, .inl r44))] ++ (sW sb52 cB bv70 bc_66 bf_67 false bn_68)))) [0, 1, 2, 3, 4, 5] (zjF (wr := (mW q v cJ V ib dn rf mk th_4 ++ ([(s41, .inr (0, [.ref u42, .int 0, .int 0, .int 0])), (u42, .inl (cB, r43, .inl r44))]))) hP hD hS hA [4, 5] [0, 1, 2, 3] rfl rfl (by decide) (by decide)) rfl (by decide))) hS (fun bv70 H locs hP hD hS => ?_)
            replace hP : va_P D vwCl (mW q v cJ V ib dn rf mk th_4 ++ ([(s41, .inr (0, [.ref u42, .int 0, .int 0, .int 0])), (u42, .inl (cB, r43, .inl r44))] ++ (sW sb52 cB bv70 bc_66 bf_67 false bn_68))) H := hP
            replace hD : va_D A (mW q v cJ V ib dn rf mk th_4 ++ ([(s41, .inr (0, [.ref u42, .int 0, .int 0, .int 0])), (u42, .inl (cB, r43, .inl r44))] ++ (sW sb52 cB bv70 bc_66 bf_67 false bn_68))) := hD
            refine va_ldcS hx hb hown hR181 dX9_powers_67 ?_
            obtain ⟨bc_71, bf_72, bn_73, e74, h⟩ := zb3_some h
            have hPc := zsub (wn := (sW sb52 cB bv70 bc_66 bf_67 false bn_68)) hP [4, 5] rfl
            have hDc := hD.sub (ws' := (sW sb52 cB bv70 bc_66 bf_67 false bn_68)) [4, 5] (by decide) rfl
            refine zgosr (va_runV (As := [.ref st181]) (rest := []) ⟨hx, hb, hml, hown, hts⟩ (c_J4_append_15ec4 l D sb52 cJ cI cO cB bv70 bc_66 bf_67 false bn_68 st181 1 (zbt 181) bc_71 bf_72 bn_73 e74 H.size) (cwV 1 hts gX9_powers_J4_append_15ec4 rfl rfl rfl hdV_J4_append_15ec4 ⟨Nat.le_of_ble_eq_true rfl, Nat.le_of_ble_eq_true rfl⟩) (zspreV hE (zSt.here hst_st181 hS (va_free hD hS hA [4, 5] rfl)) hS (va_free hD hS hA [4, 5] rfl) (q0 := 0) (ci := 1) (T := TJ4) (N := 4) hK hPc hDc rfl rfl [.ref st181]) rfl rfl hl.1 rfl (lv_room (Nat.le_of_ble_eq_true rfl)) dX9_powers_69 ⟨Nat.le_of_ble_eq_true rfl, Nat.le_of_ble_eq_true rfl⟩) (va_free hD hS hA [4, 5] rfl) (fun bv75 => (zjs (wn := (mW q v cJ V ib dn rf mk th_4 ++ ([(s41, .inr (0, [.ref u42, .int 0, .int 0, .int 0])), (u42, .inl (cB, r43, .inl r44))] ++ (sW sb52 cB bv75 bc_71 bf_72 false bn_73)))) [0, 1, 2, 3, 4, 5] (zjF (wr := (mW q v cJ V ib dn rf mk th_4 ++ ([(s41, .inr (0, [.ref u42, .int 0, .int 0, .int 0])), (u42, .inl (cB, r43, .inl r44))]))) hP hD hS hA [4, 5] [0, 1, 2, 3] rfl rfl (by decide) (by decide)) rfl (by decide))) hS (fun bv75 H locs hP hD hS => ?_)
            replace hP : va_P D vwCl (mW q v cJ V ib dn rf mk th_4 ++ ([(s41, .inr (0, [.ref u42, .int 0, .int 0, .int 0])), (u42, .inl (cB, r43, .inl r44))] ++ (sW sb52 cB bv75 bc_71 bf_72 false bn_73))) H := hP
            replace hD : va_D A (mW q v cJ V ib dn rf mk th_4 ++ ([(s41, .inr (0, [.ref u42, .int 0, .int 0, .int 0])), (u42, .inl (cB, r43, .inl r44))] ++ (sW sb52 cB bv75 bc_71 bf_72 false bn_73))) := hD
            refine lv_iload_n hx hb dX9_powers_72 rfl (lv_at hl 1 rfl) ?_
            refine lv_iload_n hx hb dX9_powers_73 rfl (lv_at hl 1 rfl) ?_
            refine lv_iload hx hb dX9_powers_74 (lv_at hl 0 rfl) ?_
            obtain ⟨r76, e77, h⟩ := zb1_some h
            refine zgoi (va_runS (As := [.int r48, .int r50]) (rest := [.int r48, .ref sb52]) ⟨hx, hb, hml, hown, hts⟩ (c_X9_without l D (zT cJ cI cO cB) F r48 r50 r76 e77 H.size) (va_cwS 2 hts gX9_powers_X9_without rfl rfl rfl hdS_X9_without ⟨Nat.le_of_ble_eq_true rfl, Nat.le_of_ble_eq_true rfl⟩) (zpreS hK zP0 (zD0 (A := A)) [.int r48, .int r50]) rfl rfl hl.1 rfl (lv_room (Nat.le_of_ble_eq_true rfl)) dX9_powers_76 ⟨Nat.le_of_ble_eq_true rfl, Nat.le_of_ble_eq_true rfl⟩) (zf0 hS hA) (zjE hP hD) hS (fun H locs hP hD hS => ?_)
            obtain ⟨z79, h⟩ := zg_some h
            refine lv_idiv hx hb dX9_powers_79 z79 ?_
            obtain ⟨r78, e79, h⟩ := zb1_some h
            refine zgoi (va_runS (As := [.int (r48 / r76)]) (rest := [.ref sb52]) ⟨hx, hb, hml, hown, hts⟩ (c_X9_all l D (zT cJ cI cO cB) F (r48 / r76) r78 e79 H.size) (va_cwS 1 hts gX9_powers_X9_all rfl rfl rfl hdS_X9_all ⟨Nat.le_of_ble_eq_true rfl, Nat.le_of_ble_eq_true rfl⟩) (zpreS hK zP0 (zD0 (A := A)) [.int (r48 / r76)]) rfl rfl hl.1 rfl (lv_room (Nat.le_of_ble_eq_true rfl)) dX9_powers_80 ⟨Nat.le_of_ble_eq_true rfl, Nat.le_of_ble_eq_true rfl⟩) (zf0 hS hA) (zjE hP hD) hS (fun H locs hP hD hS => ?_)
            obtain ⟨bc_80, bf_81, bn_82, e83, h⟩ := zb3_some h
            have hPc := zsub (wn := (sW sb52 cB bv75 bc_71 bf_72 false bn_73)) hP [4, 5] rfl
            have hDc := hD.sub (ws' := (sW sb52 cB bv75 bc_71 bf_72 false bn_73)) [4, 5] (by decide) rfl
            refine zgosr (va_runV (As := [.int r78]) (rest := []) ⟨hx, hb, hml, hown, hts⟩ (c_J4_append_bf812 l D sb52 cJ cI cO cB bv75 bc_71 bf_72 false bn_73 F r78 bc_80 bf_81 bn_82 e83 H.size) (cwV 1 hts gX9_powers_J4_append_bf812 rfl rfl rfl hdV_J4_append_bf812 ⟨Nat.le_of_ble_eq_true rfl, Nat.le_of_ble_eq_true rfl⟩) (zxpreV hE hS (va_free hD hS hA [4, 5] rfl) (q0 := 0) (ci := 1) (T := TJ4) (N := 4) hK hPc hDc rfl rfl [.int r78]) rfl rfl hl.1 rfl (lv_room (Nat.le_of_ble_eq_true rfl)) dX9_powers_83 ⟨Nat.le_of_ble_eq_true rfl, Nat.le_of_ble_eq_true rfl⟩) (va_free hD hS hA [4, 5] rfl) (fun bv84 => (zjs (wn := (mW q v cJ V ib dn rf mk th_4 ++ ([(s41, .inr (0, [.ref u42, .int 0, .int 0, .int 0])), (u42, .inl (cB, r43, .inl r44))] ++ (sW sb52 cB bv84 bc_80 bf_81 false bn_82)))) [0, 1, 2, 3, 4, 5] (zjF (wr := (mW q v cJ V ib dn rf mk th_4 ++ ([(s41, .inr (0, [.ref u42, .int 0, .int 0, .int 0])), (u42, .inl (cB, r43, .inl r44))]))) hP hD hS hA [4, 5] [0, 1, 2, 3] rfl rfl (by decide) (by decide)) rfl (by decide))) hS (fun bv84 H locs hP hD hS => ?_)
            replace hP : va_P D vwCl (mW q v cJ V ib dn rf mk th_4 ++ ([(s41, .inr (0, [.ref u42, .int 0, .int 0, .int 0])), (u42, .inl (cB, r43, .inl r44))] ++ (sW sb52 cB bv84 bc_80 bf_81 false bn_82))) H := hP
            replace hD : va_D A (mW q v cJ V ib dn rf mk th_4 ++ ([(s41, .inr (0, [.ref u42, .int 0, .int 0, .int 0])), (u42, .inl (cB, r43, .inl r44))] ++ (sW sb52 cB bv84 bc_80 bf_81 false bn_82))) := hD
            obtain ⟨r87, r88, e89, h⟩ := zb2_some h
            have hPc := zsub (wn := ([(sb52, .inr (1, [.ref bv84, .int 0, .int (z01 false), .int bn_82])), (bv84, .inl (cB, bc_80, .inl bf_81))] : va_W)) hP [4, 5] rfl
            have hDc := hD.sub (ws' := ([(sb52, .inr (1, [.ref bv84, .int 0, .int (z01 false), .int bn_82])), (bv84, .inl (cB, bc_80, .inl bf_81))] : va_W)) [4, 5] (by decide) rfl
            refine zgoss (va_runV (As := []) (rest := []) ⟨hx, hb, hml, hown, hts⟩ (c_J4_toString_0e30d l D cJ cI cO cB sb52 bv84 bc_80 bf_81 false bn_82 r87 r88 e89 H.size) (cwV 0 hts gX9_powers_J4_toString_0e30d rfl rfl rfl hdV_J4_toString_0e30d ⟨Nat.le_of_ble_eq_true rfl, Nat.le_of_ble_eq_true rfl⟩) (zxpreV hE hS (va_free hD hS hA [4, 5] rfl) (q0 := 0) (ci := 1) (T := TJ4) (N := 4) hK hPc hDc rfl rfl []) rfl rfl hl.1 rfl (lv_room (Nat.le_of_ble_eq_true rfl)) dX9_powers_86 ⟨Nat.le_of_ble_eq_true rfl, Nat.le_of_ble_eq_true rfl⟩) (va_free hD hS hA [4, 5] rfl) (fun s85 u86 => zjs (wn := (mW q v cJ V ib dn rf mk th_4 ++ ([(s41, .inr (0, [.ref u42, .int 0, .int 0, .int 0])), (u42, .inl (cB, r43, .inl r44)), (s85, .inr (0, [.ref u86, .int 0, .int 0, .int 0])), (u86, .inl (cB, r87, .inl r88))]))) [0, 1, 2, 3, 4, 5] (zjF (wr := (mW q v cJ V ib dn rf mk th_4 ++ ([(s41, .inr (0, [.ref u42, .int 0, .int 0, .int 0])), (u42, .inl (cB, r43, .inl r44))]))) hP hD hS hA [4, 5] [0, 1, 2, 3] rfl rfl (by decide) (by decide)) rfl (by decide)) hS (fun s85 u86 H locs hP hD hS => ?_)
            replace hP : va_P D vwCl (mW q v cJ V ib dn rf mk th_4 ++ ([(s41, .inr (0, [.ref u42, .int 0, .int 0, .int 0])), (u42, .inl (cB, r43, .inl r44)), (s85, .inr (0, [.ref u86, .int 0, .int 0, .int 0])), (u86, .inl (cB, r87, .inl r88))])) H := hP
            replace hD : va_D A (mW q v cJ V ib dn rf mk th_4 ++ ([(s41, .inr (0, [.ref u42, .int 0, .int 0, .int 0])), (u42, .inl (cB, r43, .inl r44)), (s85, .inr (0, [.ref u86, .int 0, .int 0, .int 0])), (u86, .inl (cB, r87, .inl r88))])) := hD
            refine lv_astore_n (lv' := [(2, .ref s85), (4, .int r50), (3, .int r48), (0, .ref q), (1, .int p0)]) hx hb dX9_powers_89 rfl hl (by decide) rfl (fun ls hl => ?_)
            refine lv_iload_n hx hb dX9_powers_90 rfl (lv_at hl 2 rfl) ?_
            refine lv_iload_n hx hb dX9_powers_91 rfl (lv_at hl 2 rfl) ?_
            obtain ⟨r90, e91, h⟩ := zb1_some h
            refine zgoi (va_runS (As := [.int r48]) (rest := [.int r48]) ⟨hx, hb, hml, hown, hts⟩ (c_X9_least l D (zT cJ cI cO cB) F r48 r90 e91 H.size) (va_cwS 1 hts gX9_powers_X9_least rfl rfl rfl hdS_X9_least ⟨Nat.le_of_ble_eq_true rfl, Nat.le_of_ble_eq_true rfl⟩) (zpreS hK zP0 (zD0 (A := A)) [.int r48]) rfl rfl hl.1 rfl (lv_room (Nat.le_of_ble_eq_true rfl)) dX9_powers_92 ⟨Nat.le_of_ble_eq_true rfl, Nat.le_of_ble_eq_true rfl⟩) (zf0 hS hA) (zjE hP hD) hS (fun H locs hP hD hS => ?_)
            obtain ⟨r92, e93, h⟩ := zb1_some h
            refine zgoi (va_runS (As := [.int r48, .int r90]) (rest := []) ⟨hx, hb, hml, hown, hts⟩ (c_X9_without l D (zT cJ cI cO cB) F r48 r90 r92 e93 H.size) (va_cwS 2 hts gX9_powers_X9_without rfl rfl rfl hdS_X9_without ⟨Nat.le_of_ble_eq_true rfl, Nat.le_of_ble_eq_true rfl⟩) (zpreS hK zP0 (zD0 (A := A)) [.int r48, .int r90]) rfl rfl hl.1 rfl (lv_room (Nat.le_of_ble_eq_true rfl)) dX9_powers_95 ⟨Nat.le_of_ble_eq_true rfl, Nat.le_of_ble_eq_true rfl⟩) (zf0 hS hA) (zjE hP hD) hS (fun H locs hP hD hS => ?_)
            refine lv_istore_n (lv' := [(3, .int r92), (2, .ref s85), (4, .int r50), (0, .ref q), (1, .int p0)]) hx hb dX9_powers_98 rfl hl (by decide) rfl (fun ls hl => ?_)
            refine lv_goto (tgt := 23) hx hb dX9_powers_99 (by decide) ?_
            refine lv_iload_n hx hb dX9_powers_23 rfl (lv_at hl 0 rfl) ?_
            refine lv_iconst (v := (1 : Int32)) hx hb dX9_powers_24 (by decide) ?_
            refine lv_icmp_le (tgt := 102) hx hb dX9_powers_25 (by decide) (fun c25 => ?_) (fun c25 => ?_)
            · replace h := zif_t h c25
              refine lv_aload_n hx hb dX9_powers_102 rfl (lv_at hl 1 rfl) ?_
              have h1 := Option.some.inj h
              subst h1
              replace hP := zsub (wn := (mW q v cJ V ib dn rf mk th_4)) hP [0, 1] rfl
              replace hD := hD.sub (ws' := (mW q v cJ V ib dn rf mk th_4)) [0, 1] (by decide) rfl
              refine W.widen (k := 36) (n := 3696) (by decide) (by decide) ?_
              exact W.aret (v := .ref s85) hx hb hr (Or.inl ⟨_, rfl⟩) (Or.inr ⟨_, rfl⟩) (fun t ht hW => ⟨⟨(), s85, rfl, trivial, by rw [ht]; exact hP, va_K.moved hW.alike hK, hD⟩, hS.F ht⟩) hS.2.2 dX9_powers_103
            · replace h := zif_f h c25
              refine lv_iload_n hx hb dX9_powers_28 rfl (lv_at hl 0 rfl) ?_
              obtain ⟨r94, e95, h⟩ := zb1_some h
              refine zgoi (va_runS (As := [.int r92]) (rest := []) ⟨hx, hb, hml, hown, hts⟩ (c_X9_least l D (zT cJ cI cO cB) F r92 r94 e95 H.size) (va_cwS 1 hts gX9_powers_X9_least rfl rfl rfl hdS_X9_least ⟨Nat.le_of_ble_eq_true rfl, Nat.le_of_ble_eq_true rfl⟩) (zpreS hK zP0 (zD0 (A := A)) [.int r92]) rfl rfl hl.1 rfl (lv_room (Nat.le_of_ble_eq_true rfl)) dX9_powers_29 ⟨Nat.le_of_ble_eq_true rfl, Nat.le_of_ble_eq_true rfl⟩) (zf0 hS hA) (zjE hP hD) hS (fun H locs hP hD hS => ?_)
              refine lv_istore (lv' := [(4, .int r94), (3, .int r92), (2, .ref s85), (0, .ref q), (1, .int p0)]) hx hb dX9_powers_32 hl (by decide) rfl (fun ls hl => ?_)
              refine va_new (ci := 1) (fs := [.null, .int 0, .int 0, .int 0]) (C := RJ4) (T := TJ4) (N := 4) hx hb hts kwJ4 tyJ4 tyJ4_ok hown kc_135 kin_J4 kii_J4 hK hP hD hS hA rfl (fun j hj => by rcases (show j = 0 ∨ j = 1 ∨ j = 2 ∨ j = 3 by omega) with rfl | rfl | rfl | rfl <;> rfl) (Nat.le_of_ble_eq_true rfl) (Nat.le_of_ble_eq_true rfl) dX9_powers_34 (fun sb96 H hP hD hS => ?_)
              replace hP : va_P D vwCl ((mW q v cJ V ib dn rf mk th_4 ++ ([(s41, .inr (0, [.ref u42, .int 0, .int 0, .int 0])), (u42, .inl (cB, r43, .inl r44)), (s85, .inr (0, [.ref u86, .int 0, .int 0, .int 0])), (u86, .inl (cB, r87, .inl r88))])) ++ [(sb96, .inr (1, [.null, .int 0, .int 0, .int 0]))]) H := hP
              replace hD : va_D A ((mW q v cJ V ib dn rf mk th_4 ++ ([(s41, .inr (0, [.ref u42, .int 0, .int 0, .int 0])), (u42, .inl (cB, r43, .inl r44)), (s85, .inr (0, [.ref u86, .int 0, .int 0, .int 0])), (u86, .inl (cB, r87, .inl r88))])) ++ [(sb96, .inr (1, [.null, .int 0, .int 0, .int 0]))]) := hD
              refine lv_dup hx hb dX9_powers_37 rfl ?_
              have hPc := zsub (wn := ([(sb96, .inr (1, [.null, .int 0, .int 0, .int 0]))] : va_W)) hP [6] rfl
              have hDc := hD.sub (ws' := ([(sb96, .inr (1, [.null, .int 0, .int 0, .int 0]))] : va_W)) [6] (by decide) rfl
              refine zgoc (va_runI (As := []) (rest := [.ref sb96]) ⟨hx, hb, hml, hown, hts⟩ (c_J4_init_da8c8 l D cJ cI cO cB sb96 H.size) (cwI 0 hts gX9_powers_J4_init_da8c8 rfl rfl rfl kii_J4 km_137 kim_J4i rfl (by decide +kernel) ⟨Nat.le_of_ble_eq_true rfl, Nat.le_of_ble_eq_true rfl⟩) (zxpreS hE hS (va_free hD hS hA [6] rfl) hK hPc hDc [.ref sb96]) rfl rfl hl.1 rfl (lv_room (Nat.le_of_ble_eq_true rfl)) dX9_powers_38 ⟨Nat.le_of_ble_eq_true rfl, Nat.le_of_ble_eq_true rfl⟩) (va_free hD hS hA [6] rfl) (fun u => zjF (wr := (mW q v cJ V ib dn rf mk th_4 ++ ([(s41, .inr (0, [.ref u42, .int 0, .int 0, .int 0])), (u42, .inl (cB, r43, .inl r44)), (s85, .inr (0, [.ref u86, .int 0, .int 0, .int 0])), (u86, .inl (cB, r87, .inl r88))]))) hP hD hS hA [6] [0, 1, 2, 3, 4, 5] rfl rfl (by decide) (by decide)) hS (fun u97 H locs hP hD hS => ?_)
              replace hP : va_P D vwCl (mW q v cJ V ib dn rf mk th_4 ++ ([(s41, .inr (0, [.ref u42, .int 0, .int 0, .int 0])), (u42, .inl (cB, r43, .inl r44)), (s85, .inr (0, [.ref u86, .int 0, .int 0, .int 0])), (u86, .inl (cB, r87, .inl r88))] ++ (sW sb96 cB (u97 0) 16 (fun _ => 0) false 0))) H := hP
              replace hD : va_D A (mW q v cJ V ib dn rf mk th_4 ++ ([(s41, .inr (0, [.ref u42, .int 0, .int 0, .int 0])), (u42, .inl (cB, r43, .inl r44)), (s85, .inr (0, [.ref u86, .int 0, .int 0, .int 0])), (u86, .inl (cB, r87, .inl r88))] ++ (sW sb96 cB (u97 0) 16 (fun _ => 0) false 0))) := hD
              refine lv_aload_n hx hb dX9_powers_41 rfl (lv_at hl 2 rfl) ?_
              obtain ⟨bc_98, bf_99, bn_100, e101, h⟩ := zb3_some h
              have hPc := zsub (wn := (sW sb96 cB (u97 0) 16 (fun _ => 0) false 0)) hP [6, 7] rfl
              have hDc := hD.sub (ws' := (sW sb96 cB (u97 0) 16 (fun _ => 0) false 0)) [6, 7] (by decide) rfl
              refine zgosr (va_runV (As := [.ref s85]) (rest := []) ⟨hx, hb, hml, hown, hts⟩ (c_J4_append_15ec4 l D sb96 cJ cI cO cB (u97 0) 16 (fun _ => 0) false 0 s85 r87 r88 bc_98 bf_99 bn_100 e101 H.size) (cwV 1 hts gX9_powers_J4_append_15ec4 rfl rfl rfl hdV_J4_append_15ec4 ⟨Nat.le_of_ble_eq_true rfl, Nat.le_of_ble_eq_true rfl⟩) (zspreV hE (zSt.ofW hts kwJ0 hK hP hD [6, 7] rfl 4 5 rfl rfl (by decide) (by decide)) hS (va_free hD hS hA [6, 7] rfl) (q0 := 0) (ci := 1) (T := TJ4) (N := 4) hK hPc hDc rfl rfl [.ref s85]) rfl rfl hl.1 rfl (lv_room (Nat.le_of_ble_eq_true rfl)) dX9_powers_42 ⟨Nat.le_of_ble_eq_true rfl, Nat.le_of_ble_eq_true rfl⟩) (va_free hD hS hA [6, 7] rfl) (fun bv102 => (zjs (wn := (mW q v cJ V ib dn rf mk th_4 ++ ([(s41, .inr (0, [.ref u42, .int 0, .int 0, .int 0])), (u42, .inl (cB, r43, .inl r44)), (s85, .inr (0, [.ref u86, .int 0, .int 0, .int 0])), (u86, .inl (cB, r87, .inl r88))] ++ (sW sb96 cB bv102 bc_98 bf_99 false bn_100)))) [0, 1, 2, 3, 4, 5, 6, 7] (zjF (wr := (mW q v cJ V ib dn rf mk th_4 ++ ([(s41, .inr (0, [.ref u42, .int 0, .int 0, .int 0])), (u42, .inl (cB, r43, .inl r44)), (s85, .inr (0, [.ref u86, .int 0, .int 0, .int 0])), (u86, .inl (cB, r87, .inl r88))]))) hP hD hS hA [6, 7] [0, 1, 2, 3, 4, 5] rfl rfl (by decide) (by decide)) rfl (by decide))) hS (fun bv102 H locs hP hD hS => ?_)
              replace hP : va_P D vwCl (mW q v cJ V ib dn rf mk th_4 ++ ([(s41, .inr (0, [.ref u42, .int 0, .int 0, .int 0])), (u42, .inl (cB, r43, .inl r44)), (s85, .inr (0, [.ref u86, .int 0, .int 0, .int 0])), (u86, .inl (cB, r87, .inl r88))] ++ (sW sb96 cB bv102 bc_98 bf_99 false bn_100))) H := hP
              replace hD : va_D A (mW q v cJ V ib dn rf mk th_4 ++ ([(s41, .inr (0, [.ref u42, .int 0, .int 0, .int 0])), (u42, .inl (cB, r43, .inl r44)), (s85, .inr (0, [.ref u86, .int 0, .int 0, .int 0])), (u86, .inl (cB, r87, .inl r88))] ++ (sW sb96 cB bv102 bc_98 bf_99 false bn_100))) := hD
              refine lv_aload_n hx hb dX9_powers_45 rfl (lv_at hl 2 rfl) ?_
              obtain ⟨r103, e104, h⟩ := zb1_some h
              refine zgoi (va_runV (As := []) (rest := [.ref sb96]) ⟨hx, hb, hml, hown, hts⟩ (c_J0_isEmpty_aae02 l D cJ cI cO cB s85 r87 r88 r103 e104 H.size) (cwV 0 hts gX9_powers_J0_isEmpty_aae02 rfl rfl rfl hdV_J0_isEmpty_aae02 ⟨Nat.le_of_ble_eq_true rfl, Nat.le_of_ble_eq_true rfl⟩) (zspreT hE (zSt.ofW hts kwJ0 hK hP hD [] rfl 4 5 rfl rfl (by decide) (by decide)) hS (zf0 hS hA) hK zP0 (zD0 (A := A)) []) rfl rfl hl.1 rfl (lv_room (Nat.le_of_ble_eq_true rfl)) dX9_powers_46 ⟨Nat.le_of_ble_eq_true rfl, Nat.le_of_ble_eq_true rfl⟩) (zf0 hS hA) (zjE hP hD) hS (fun H locs hP hD hS => ?_)
              refine lv_if_eq (tgt := 57) hx hb dX9_powers_49 (by decide) (fun c49 => ?_) (fun c49 => ?_)
              · replace h := zif_t h c49
                refine va_ldcS hx hb hown hR176 dX9_powers_57 ?_
                obtain ⟨bc_105, bf_106, bn_107, e108, h⟩ := zb3_some h
                have hPc := zsub (wn := (sW sb96 cB bv102 bc_98 bf_99 false bn_100)) hP [6, 7] rfl
                have hDc := hD.sub (ws' := (sW sb96 cB bv102 bc_98 bf_99 false bn_100)) [6, 7] (by decide) rfl
                refine zgosr (va_runV (As := [.ref st176]) (rest := []) ⟨hx, hb, hml, hown, hts⟩ (c_J4_append_15ec4 l D sb96 cJ cI cO cB bv102 bc_98 bf_99 false bn_100 st176 1 (zbt 176) bc_105 bf_106 bn_107 e108 H.size) (cwV 1 hts gX9_powers_J4_append_15ec4 rfl rfl rfl hdV_J4_append_15ec4 ⟨Nat.le_of_ble_eq_true rfl, Nat.le_of_ble_eq_true rfl⟩) (zspreV hE (zSt.here hst_st176 hS (va_free hD hS hA [6, 7] rfl)) hS (va_free hD hS hA [6, 7] rfl) (q0 := 0) (ci := 1) (T := TJ4) (N := 4) hK hPc hDc rfl rfl [.ref st176]) rfl rfl hl.1 rfl (lv_room (Nat.le_of_ble_eq_true rfl)) dX9_powers_59 ⟨Nat.le_of_ble_eq_true rfl, Nat.le_of_ble_eq_true rfl⟩) (va_free hD hS hA [6, 7] rfl) (fun bv109 => (zjs (wn := (mW q v cJ V ib dn rf mk th_4 ++ ([(s41, .inr (0, [.ref u42, .int 0, .int 0, .int 0])), (u42, .inl (cB, r43, .inl r44)), (s85, .inr (0, [.ref u86, .int 0, .int 0, .int 0])), (u86, .inl (cB, r87, .inl r88))] ++ (sW sb96 cB bv109 bc_105 bf_106 false bn_107)))) [0, 1, 2, 3, 4, 5, 6, 7] (zjF (wr := (mW q v cJ V ib dn rf mk th_4 ++ ([(s41, .inr (0, [.ref u42, .int 0, .int 0, .int 0])), (u42, .inl (cB, r43, .inl r44)), (s85, .inr (0, [.ref u86, .int 0, .int 0, .int 0])), (u86, .inl (cB, r87, .inl r88))]))) hP hD hS hA [6, 7] [0, 1, 2, 3, 4, 5] rfl rfl (by decide) (by decide)) rfl (by decide))) hS (fun bv109 H locs hP hD hS => ?_)
                replace hP : va_P D vwCl (mW q v cJ V ib dn rf mk th_4 ++ ([(s41, .inr (0, [.ref u42, .int 0, .int 0, .int 0])), (u42, .inl (cB, r43, .inl r44)), (s85, .inr (0, [.ref u86, .int 0, .int 0, .int 0])), (u86, .inl (cB, r87, .inl r88))] ++ (sW sb96 cB bv109 bc_105 bf_106 false bn_107))) H := hP
                replace hD : va_D A (mW q v cJ V ib dn rf mk th_4 ++ ([(s41, .inr (0, [.ref u42, .int 0, .int 0, .int 0])), (u42, .inl (cB, r43, .inl r44)), (s85, .inr (0, [.ref u86, .int 0, .int 0, .int 0])), (u86, .inl (cB, r87, .inl r88))] ++ (sW sb96 cB bv109 bc_105 bf_106 false bn_107))) := hD
                refine lv_iload hx hb dX9_powers_62 (lv_at hl 0 rfl) ?_
                obtain ⟨bc_110, bf_111, bn_112, e113, h⟩ := zb3_some h
                have hPc := zsub (wn := (sW sb96 cB bv109 bc_105 bf_106 false bn_107)) hP [6, 7] rfl
                have hDc := hD.sub (ws' := (sW sb96 cB bv109 bc_105 bf_106 false bn_107)) [6, 7] (by decide) rfl
                refine zgosr (va_runV (As := [.int r94]) (rest := []) ⟨hx, hb, hml, hown, hts⟩ (c_J4_append_bf812 l D sb96 cJ cI cO cB bv109 bc_105 bf_106 false bn_107 F r94 bc_110 bf_111 bn_112 e113 H.size) (cwV 1 hts gX9_powers_J4_append_bf812 rfl rfl rfl hdV_J4_append_bf812 ⟨Nat.le_of_ble_eq_true rfl, Nat.le_of_ble_eq_true rfl⟩) (zxpreV hE hS (va_free hD hS hA [6, 7] rfl) (q0 := 0) (ci := 1) (T := TJ4) (N := 4) hK hPc hDc rfl rfl [.int r94]) rfl rfl hl.1 rfl (lv_room (Nat.le_of_ble_eq_true rfl)) dX9_powers_64 ⟨Nat.le_of_ble_eq_true rfl, Nat.le_of_ble_eq_true rfl⟩) (va_free hD hS hA [6, 7] rfl) (fun bv114 => (zjs (wn := (mW q v cJ V ib dn rf mk th_4 ++ ([(s41, .inr (0, [.ref u42, .int 0, .int 0, .int 0])), (u42, .inl (cB, r43, .inl r44)), (s85, .inr (0, [.ref u86, .int 0, .int 0, .int 0])), (u86, .inl (cB, r87, .inl r88))] ++ (sW sb96 cB bv114 bc_110 bf_111 false bn_112)))) [0, 1, 2, 3, 4, 5, 6, 7] (zjF (wr := (mW q v cJ V ib dn rf mk th_4 ++ ([(s41, .inr (0, [.ref u42, .int 0, .int 0, .int 0])), (u42, .inl (cB, r43, .inl r44)), (s85, .inr (0, [.ref u86, .int 0, .int 0, .int 0])), (u86, .inl (cB, r87, .inl r88))]))) hP hD hS hA [6, 7] [0, 1, 2, 3, 4, 5] rfl rfl (by decide) (by decide)) rfl (by decide))) hS (fun bv114 H locs hP hD hS => ?_)
                replace hP : va_P D vwCl (mW q v cJ V ib dn rf mk th_4 ++ ([(s41, .inr (0, [.ref u42, .int 0, .int 0, .int 0])), (u42, .inl (cB, r43, .inl r44)), (s85, .inr (0, [.ref u86, .int 0, .int 0, .int 0])), (u86, .inl (cB, r87, .inl r88))] ++ (sW sb96 cB bv114 bc_110 bf_111 false bn_112))) H := hP
                replace hD : va_D A (mW q v cJ V ib dn rf mk th_4 ++ ([(s41, .inr (0, [.ref u42, .int 0, .int 0, .int 0])), (u42, .inl (cB, r43, .inl r44)), (s85, .inr (0, [.ref u86, .int 0, .int 0, .int 0])), (u86, .inl (cB, r87, .inl r88))] ++ (sW sb96 cB bv114 bc_110 bf_111 false bn_112))) := hD
                refine va_ldcS hx hb hown hR181 dX9_powers_67 ?_
                obtain ⟨bc_115, bf_116, bn_117, e118, h⟩ := zb3_some h
                have hPc := zsub (wn := (sW sb96 cB bv114 bc_110 bf_111 false bn_112)) hP [6, 7] rfl
                have hDc := hD.sub (ws' := (sW sb96 cB bv114 bc_110 bf_111 false bn_112)) [6, 7] (by decide) rfl
                refine zgosr (va_runV (As := [.ref st181]) (rest := []) ⟨hx, hb, hml, hown, hts⟩ (c_J4_append_15ec4 l D sb96 cJ cI cO cB bv114 bc_110 bf_111 false bn_112 st181 1 (zbt 181) bc_115 bf_116 bn_117 e118 H.size) (cwV 1 hts gX9_powers_J4_append_15ec4 rfl rfl rfl hdV_J4_append_15ec4 ⟨Nat.le_of_ble_eq_true rfl, Nat.le_of_ble_eq_true rfl⟩) (zspreV hE (zSt.here hst_st181 hS (va_free hD hS hA [6, 7] rfl)) hS (va_free hD hS hA [6, 7] rfl) (q0 := 0) (ci := 1) (T := TJ4) (N := 4) hK hPc hDc rfl rfl [.ref st181]) rfl rfl hl.1 rfl (lv_room (Nat.le_of_ble_eq_true rfl)) dX9_powers_69 ⟨Nat.le_of_ble_eq_true rfl, Nat.le_of_ble_eq_true rfl⟩) (va_free hD hS hA [6, 7] rfl) (fun bv119 => (zjs (wn := (mW q v cJ V ib dn rf mk th_4 ++ ([(s41, .inr (0, [.ref u42, .int 0, .int 0, .int 0])), (u42, .inl (cB, r43, .inl r44)), (s85, .inr (0, [.ref u86, .int 0, .int 0, .int 0])), (u86, .inl (cB, r87, .inl r88))] ++ (sW sb96 cB bv119 bc_115 bf_116 false bn_117)))) [0, 1, 2, 3, 4, 5, 6, 7] (zjF (wr := (mW q v cJ V ib dn rf mk th_4 ++ ([(s41, .inr (0, [.ref u42, .int 0, .int 0, .int 0])), (u42, .inl (cB, r43, .inl r44)), (s85, .inr (0, [.ref u86, .int 0, .int 0, .int 0])), (u86, .inl (cB, r87, .inl r88))]))) hP hD hS hA [6, 7] [0, 1, 2, 3, 4, 5] rfl rfl (by decide) (by decide)) rfl (by decide))) hS (fun bv119 H locs hP hD hS => ?_)
                replace hP : va_P D vwCl (mW q v cJ V ib dn rf mk th_4 ++ ([(s41, .inr (0, [.ref u42, .int 0, .int 0, .int 0])), (u42, .inl (cB, r43, .inl r44)), (s85, .inr (0, [.ref u86, .int 0, .int 0, .int 0])), (u86, .inl (cB, r87, .inl r88))] ++ (sW sb96 cB bv119 bc_115 bf_116 false bn_117))) H := hP
                replace hD : va_D A (mW q v cJ V ib dn rf mk th_4 ++ ([(s41, .inr (0, [.ref u42, .int 0, .int 0, .int 0])), (u42, .inl (cB, r43, .inl r44)), (s85, .inr (0, [.ref u86, .int 0, .int 0, .int 0])), (u86, .inl (cB, r87, .inl r88))] ++ (sW sb96 cB bv119 bc_115 bf_116 false bn_117))) := hD
                refine lv_iload_n hx hb dX9_powers_72 rfl (lv_at hl 1 rfl) ?_
                refine lv_iload_n hx hb dX9_powers_73 rfl (lv_at hl 1 rfl) ?_
                refine lv_iload hx hb dX9_powers_74 (lv_at hl 0 rfl) ?_
                obtain ⟨r120, e121, h⟩ := zb1_some h
                refine zgoi (va_runS (As := [.int r92, .int r94]) (rest := [.int r92, .ref sb96]) ⟨hx, hb, hml, hown, hts⟩ (c_X9_without l D (zT cJ cI cO cB) F r92 r94 r120 e121 H.size) (va_cwS 2 hts gX9_powers_X9_without rfl rfl rfl hdS_X9_without ⟨Nat.le_of_ble_eq_true rfl, Nat.le_of_ble_eq_true rfl⟩) (zpreS hK zP0 (zD0 (A := A)) [.int r92, .int r94]) rfl rfl hl.1 rfl (lv_room (Nat.le_of_ble_eq_true rfl)) dX9_powers_76 ⟨Nat.le_of_ble_eq_true rfl, Nat.le_of_ble_eq_true rfl⟩) (zf0 hS hA) (zjE hP hD) hS (fun H locs hP hD hS => ?_)
                obtain ⟨z79, h⟩ := zg_some h
                refine lv_idiv hx hb dX9_powers_79 z79 ?_
                obtain ⟨r122, e123, h⟩ := zb1_some h
                refine zgoi (va_runS (As := [.int (r92 / r120)]) (rest := [.ref sb96]) ⟨hx, hb, hml, hown, hts⟩ (c_X9_all l D (zT cJ cI cO cB) F (r92 / r120) r122 e123 H.size) (va_cwS 1 hts gX9_powers_X9_all rfl rfl rfl hdS_X9_all ⟨Nat.le_of_ble_eq_true rfl, Nat.le_of_ble_eq_true rfl⟩) (zpreS hK zP0 (zD0 (A := A)) [.int (r92 / r120)]) rfl rfl hl.1 rfl (lv_room (Nat.le_of_ble_eq_true rfl)) dX9_powers_80 ⟨Nat.le_of_ble_eq_true rfl, Nat.le_of_ble_eq_true rfl⟩) (zf0 hS hA) (zjE hP hD) hS (fun H locs hP hD hS => ?_)
                obtain ⟨bc_124, bf_125, bn_126, e127, h⟩ := zb3_some h
                have hPc := zsub (wn := (sW sb96 cB bv119 bc_115 bf_116 false bn_117)) hP [6, 7] rfl
                have hDc := hD.sub (ws' := (sW sb96 cB bv119 bc_115 bf_116 false bn_117)) [6, 7] (by decide) rfl
                refine zgosr (va_runV (As := [.int r122]) (rest := []) ⟨hx, hb, hml, hown, hts⟩ (c_J4_append_bf812 l D sb96 cJ cI cO cB bv119 bc_115 bf_116 false bn_117 F r122 bc_124 bf_125 bn_126 e127 H.size) (cwV 1 hts gX9_powers_J4_append_bf812 rfl rfl rfl hdV_J4_append_bf812 ⟨Nat.le_of_ble_eq_true rfl, Nat.le_of_ble_eq_true rfl⟩) (zxpreV hE hS (va_free hD hS hA [6, 7] rfl) (q0 := 0) (ci := 1) (T := TJ4) (N := 4) hK hPc hDc rfl rfl [.int r122]) rfl rfl hl.1 rfl (lv_room (Nat.le_of_ble_eq_true rfl)) dX9_powers_83 ⟨Nat.le_of_ble_eq_true rfl, Nat.le_of_ble_eq_true rfl⟩) (va_free hD hS hA [6, 7] rfl) (fun bv128 => (zjs (wn := (mW q v cJ V ib dn rf mk th_4 ++ ([(s41, .inr (0, [.ref u42, .int 0, .int 0, .int 0])), (u42, .inl (cB, r43, .inl r44)), (s85, .inr (0, [.ref u86, .int 0, .int 0, .int 0])), (u86, .inl (cB, r87, .inl r88))] ++ (sW sb96 cB bv128 bc_124 bf_125 false bn_126)))) [0, 1, 2, 3, 4, 5, 6, 7] (zjF (wr := (mW q v cJ V ib dn rf mk th_4 ++ ([(s41, .inr (0, [.ref u42, .int 0, .int 0, .int 0])), (u42, .inl (cB, r43, .inl r44)), (s85, .inr (0, [.ref u86, .int 0, .int 0, .int 0])), (u86, .inl (cB, r87, .inl r88))]))) hP hD hS hA [6, 7] [0, 1, 2, 3, 4, 5] rfl rfl (by decide) (by decide)) rfl (by decide))) hS (fun bv128 H locs hP hD hS => ?_)
                replace hP : va_P D vwCl (mW q v cJ V ib dn rf mk th_4 ++ ([(s41, .inr (0, [.ref u42, .int 0, .int 0, .int 0])), (u42, .inl (cB, r43, .inl r44)), (s85, .inr (0, [.ref u86, .int 0, .int 0, .int 0])), (u86, .inl (cB, r87, .inl r88))] ++ (sW sb96 cB bv128 bc_124 bf_125 false bn_126))) H := hP
                replace hD : va_D A (mW q v cJ V ib dn rf mk th_4 ++ ([(s41, .inr (0, [.ref u42, .int 0, .int 0, .int 0])), (u42, .inl (cB, r43, .inl r44)), (s85, .inr (0, [.ref u86, .int 0, .int 0, .int 0])), (u86, .inl (cB, r87, .inl r88))] ++ (sW sb96 cB bv128 bc_124 bf_125 false bn_126))) := hD
                obtain ⟨r131, r132, e133, h⟩ := zb2_some h
                have hPc := zsub (wn := ([(sb96, .inr (1, [.ref bv128, .int 0, .int (z01 false), .int bn_126])), (bv128, .inl (cB, bc_124, .inl bf_125))] : va_W)) hP [6, 7] rfl
                have hDc := hD.sub (ws' := ([(sb96, .inr (1, [.ref bv128, .int 0, .int (z01 false), .int bn_126])), (bv128, .inl (cB, bc_124, .inl bf_125))] : va_W)) [6, 7] (by decide) rfl
                refine zgoss (va_runV (As := []) (rest := []) ⟨hx, hb, hml, hown, hts⟩ (c_J4_toString_0e30d l D cJ cI cO cB sb96 bv128 bc_124 bf_125 false bn_126 r131 r132 e133 H.size) (cwV 0 hts gX9_powers_J4_toString_0e30d rfl rfl rfl hdV_J4_toString_0e30d ⟨Nat.le_of_ble_eq_true rfl, Nat.le_of_ble_eq_true rfl⟩) (zxpreV hE hS (va_free hD hS hA [6, 7] rfl) (q0 := 0) (ci := 1) (T := TJ4) (N := 4) hK hPc hDc rfl rfl []) rfl rfl hl.1 rfl (lv_room (Nat.le_of_ble_eq_true rfl)) dX9_powers_86 ⟨Nat.le_of_ble_eq_true rfl, Nat.le_of_ble_eq_true rfl⟩) (va_free hD hS hA [6, 7] rfl) (fun s129 u130 => zjs (wn := (mW q v cJ V ib dn rf mk th_4 ++ ([(s41, .inr (0, [.ref u42, .int 0, .int 0, .int 0])), (u42, .inl (cB, r43, .inl r44)), (s85, .inr (0, [.ref u86, .int 0, .int 0, .int 0])), (u86, .inl (cB, r87, .inl r88)), (s129, .inr (0, [.ref u130, .int 0, .int 0, .int 0])), (u130, .inl (cB, r131, .inl r132))]))) [0, 1, 2, 3, 4, 5, 6, 7] (zjF (wr := (mW q v cJ V ib dn rf mk th_4 ++ ([(s41, .inr (0, [.ref u42, .int 0, .int 0, .int 0])), (u42, .inl (cB, r43, .inl r44)), (s85, .inr (0, [.ref u86, .int 0, .int 0, .int 0])), (u86, .inl (cB, r87, .inl r88))]))) hP hD hS hA [6, 7] [0, 1, 2, 3, 4, 5] rfl rfl (by decide) (by decide)) rfl (by decide)) hS (fun s129 u130 H locs hP hD hS => ?_)
                replace hP : va_P D vwCl (mW q v cJ V ib dn rf mk th_4 ++ ([(s41, .inr (0, [.ref u42, .int 0, .int 0, .int 0])), (u42, .inl (cB, r43, .inl r44)), (s85, .inr (0, [.ref u86, .int 0, .int 0, .int 0])), (u86, .inl (cB, r87, .inl r88)), (s129, .inr (0, [.ref u130, .int 0, .int 0, .int 0])), (u130, .inl (cB, r131, .inl r132))])) H := hP
                replace hD : va_D A (mW q v cJ V ib dn rf mk th_4 ++ ([(s41, .inr (0, [.ref u42, .int 0, .int 0, .int 0])), (u42, .inl (cB, r43, .inl r44)), (s85, .inr (0, [.ref u86, .int 0, .int 0, .int 0])), (u86, .inl (cB, r87, .inl r88)), (s129, .inr (0, [.ref u130, .int 0, .int 0, .int 0])), (u130, .inl (cB, r131, .inl r132))])) := hD
                refine lv_astore_n (lv' := [(2, .ref s129), (4, .int r94), (3, .int r92), (0, .ref q), (1, .int p0)]) hx hb dX9_powers_89 rfl hl (by decide) rfl (fun ls hl => ?_)
                refine lv_iload_n hx hb dX9_powers_90 rfl (lv_at hl 2 rfl) ?_
                refine lv_iload_n hx hb dX9_powers_91 rfl (lv_at hl 2 rfl) ?_
                obtain ⟨r134, e135, h⟩ := zb1_some h
                refine zgoi (va_runS (As := [.int r92]) (rest := [.int r92]) ⟨hx, hb, hml, hown, hts⟩ (c_X9_least l D (zT cJ cI cO cB) F r92 r134 e135 H.size) (va_cwS 1 hts gX9_powers_X9_least rfl rfl rfl hdS_X9_least ⟨Nat.le_of_ble_eq_true rfl, Nat.le_of_ble_eq_true rfl⟩) (zpreS hK zP0 (zD0 (A := A)) [.int r92]) rfl rfl hl.1 rfl (lv_room (Nat.le_of_ble_eq_true rfl)) dX9_powers_92 ⟨Nat.le_of_ble_eq_true rfl, Nat.le_of_ble_eq_true rfl⟩) (zf0 hS hA) (zjE hP hD) hS (fun H locs hP hD hS => ?_)
                obtain ⟨r136, e137, h⟩ := zb1_some h
                refine zgoi (va_runS (As := [.int r92, .int r134]) (rest := []) ⟨hx, hb, hml, hown, hts⟩ (c_X9_without l D (zT cJ cI cO cB) F r92 r134 r136 e137 H.size) (va_cwS 2 hts gX9_powers_X9_without rfl rfl rfl hdS_X9_without ⟨Nat.le_of_ble_eq_true rfl, Nat.le_of_ble_eq_true rfl⟩) (zpreS hK zP0 (zD0 (A := A)) [.int r92, .int r134]) rfl rfl hl.1 rfl (lv_room (Nat.le_of_ble_eq_true rfl)) dX9_powers_95 ⟨Nat.le_of_ble_eq_true rfl, Nat.le_of_ble_eq_true rfl⟩) (zf0 hS hA) (zjE hP hD) hS (fun H locs hP hD hS => ?_)
                refine lv_istore_n (lv' := [(3, .int r136), (2, .ref s129), (4, .int r94), (0, .ref q), (1, .int p0)]) hx hb dX9_powers_98 rfl hl (by decide) rfl (fun ls hl => ?_)
                refine lv_goto (tgt := 23) hx hb dX9_powers_99 (by decide) ?_
                refine lv_iload_n hx hb dX9_powers_23 rfl (lv_at hl 0 rfl) ?_
                refine lv_iconst (v := (1 : Int32)) hx hb dX9_powers_24 (by decide) ?_
                refine lv_icmp_le (tgt := 102) hx hb dX9_powers_25 (by decide) (fun c25 => ?_) (fun c25 => ?_)
                · replace h := zif_t h c25
                  refine lv_aload_n hx hb dX9_powers_102 rfl (lv_at hl 1 rfl) ?_
                  have h1 := Option.some.inj h
                  subst h1
                  replace hP := zsub (wn := (mW q v cJ V ib dn rf mk th_4)) hP [0, 1] rfl
                  replace hD := hD.sub (ws' := (mW q v cJ V ib dn rf mk th_4)) [0, 1] (by decide) rfl
                  refine W.widen (k := 36) (n := 3696) (by decide) (by decide) ?_
                  exact W.aret (v := .ref s129) hx hb hr (Or.inl ⟨_, rfl⟩) (Or.inr ⟨_, rfl⟩) (fun t ht hW => ⟨⟨(), s129, rfl, trivial, by rw [ht]; exact hP, va_K.moved hW.alike hK, hD⟩, hS.F ht⟩) hS.2.2 dX9_powers_103
                · replace h := zif_f h c25
                  refine lv_iload_n hx hb dX9_powers_28 rfl (lv_at hl 0 rfl) ?_
                  obtain ⟨r138, e139, h⟩ := zb1_some h
                  refine zgoi (va_runS (As := [.int r136]) (rest := []) ⟨hx, hb, hml, hown, hts⟩ (c_X9_least l D (zT cJ cI cO cB) F r136 r138 e139 H.size) (va_cwS 1 hts gX9_powers_X9_least rfl rfl rfl hdS_X9_least ⟨Nat.le_of_ble_eq_true rfl, Nat.le_of_ble_eq_true rfl⟩) (zpreS hK zP0 (zD0 (A := A)) [.int r136]) rfl rfl hl.1 rfl (lv_room (Nat.le_of_ble_eq_true rfl)) dX9_powers_29 ⟨Nat.le_of_ble_eq_true rfl, Nat.le_of_ble_eq_true rfl⟩) (zf0 hS hA) (zjE hP hD) hS (fun H locs hP hD hS => ?_)
                  refine lv_istore (lv' := [(4, .int r138), (3, .int r136), (2, .ref s129), (0, .ref q), (1, .int p0)]) hx hb dX9_powers_32 hl (by decide) rfl (fun ls hl => ?_)
                  refine va_new (ci := 1) (fs := [.null, .int 0, .int 0, .int 0]) (C := RJ4) (T := TJ4) (N := 4) hx hb hts kwJ4 tyJ4 tyJ4_ok hown kc_135 kin_J4 kii_J4 hK hP hD hS hA rfl (fun j hj => by rcases (show j = 0 ∨ j = 1 ∨ j = 2 ∨ j = 3 by omega) with rfl | rfl | rfl | rfl <;> rfl) (Nat.le_of_ble_eq_true rfl) (Nat.le_of_ble_eq_true rfl) dX9_powers_34 (fun sb140 H hP hD hS => ?_)
                  replace hP : va_P D vwCl ((mW q v cJ V ib dn rf mk th_4 ++ ([(s41, .inr (0, [.ref u42, .int 0, .int 0, .int 0])), (u42, .inl (cB, r43, .inl r44)), (s85, .inr (0, [.ref u86, .int 0, .int 0, .int 0])), (u86, .inl (cB, r87, .inl r88)), (s129, .inr (0, [.ref u130, .int 0, .int 0, .int 0])), (u130, .inl (cB, r131, .inl r132))])) ++ [(sb140, .inr (1, [.null, .int 0, .int 0, .int 0]))]) H := hP
                  replace hD : va_D A ((mW q v cJ V ib dn rf mk th_4 ++ ([(s41, .inr (0, [.ref u42, .int 0, .int 0, .int 0])), (u42, .inl (cB, r43, .inl r44)), (s85, .inr (0, [.ref u86, .int 0, .int 0, .int 0])), (u86, .inl (cB, r87, .inl r88)), (s129, .inr (0, [.ref u130, .int 0, .int 0, .int 0])), (u130, .inl (cB, r131, .inl r132))])) ++ [(sb140, .inr (1, [.null, .int 0, .int 0, .int 0]))]) := hD
                  refine lv_dup hx hb dX9_powers_37 rfl ?_
                  have hPc := zsub (wn := ([(sb140, .inr (1, [.null, .int 0, .int 0, .int 0]))] : va_W)) hP [8] rfl
                  have hDc := hD.sub (ws' := ([(sb140, .inr (1, [.null, .int 0, .int 0, .int 0]))] : va_W)) [8] (by decide) rfl
                  refine zgoc (va_runI (As := []) (rest := [.ref sb140]) ⟨hx, hb, hml, hown, hts⟩ (c_J4_init_da8c8 l D cJ cI cO cB sb140 H.size) (cwI 0 hts gX9_powers_J4_init_da8c8 rfl rfl rfl kii_J4 km_137 kim_J4i rfl (by decide +kernel) ⟨Nat.le_of_ble_eq_true rfl, Nat.le_of_ble_eq_true rfl⟩) (zxpreS hE hS (va_free hD hS hA [8] rfl) hK hPc hDc [.ref sb140]) rfl rfl hl.1 rfl (lv_room (Nat.le_of_ble_eq_true rfl)) dX9_powers_38 ⟨Nat.le_of_ble_eq_true rfl, Nat.le_of_ble_eq_true rfl⟩) (va_free hD hS hA [8] rfl) (fun u => zjF (wr := (mW q v cJ V ib dn rf mk th_4 ++ ([(s41, .inr (0, [.ref u42, .int 0, .int 0, .int 0])), (u42, .inl (cB, r43, .inl r44)), (s85, .inr (0, [.ref u86, .int 0, .int 0, .int 0])), (u86, .inl (cB, r87, .inl r88)), (s129, .inr (0, [.ref u130, .int 0, .int 0, .int 0])), (u130, .inl (cB, r131, .inl r132))]))) hP hD hS hA [8] [0, 1, 2, 3, 4, 5, 6, 7] rfl rfl (by decide) (by decide)) hS (fun u141 H locs hP hD hS => ?_)
                  replace hP : va_P D vwCl (mW q v cJ V ib dn rf mk th_4 ++ ([(s41, .inr (0, [.ref u42, .int 0, .int 0, .int 0])), (u42, .inl (cB, r43, .inl r44)), (s85, .inr (0, [.ref u86, .int 0, .int 0, .int 0])), (u86, .inl (cB, r87, .inl r88)), (s129, .inr (0, [.ref u130, .int 0, .int 0, .int 0])), (u130, .inl (cB, r131, .inl r132))] ++ (sW sb140 cB (u141 0) 16 (fun _ => 0) false 0))) H := hP
                  replace hD : va_D A (mW q v cJ V ib dn rf mk th_4 ++ ([(s41, .inr (0, [.ref u42, .int 0, .int 0, .int 0])), (u42, .inl (cB, r43, .inl r44)), (s85, .inr (0, [.ref u86, .int 0, .int 0, .int 0])), (u86, .inl (cB, r87, .inl r88)), (s129, .inr (0, [.ref u130, .int 0, .int 0, .int 0])), (u130, .inl (cB, r131, .inl r132))] ++ (sW sb140 cB (u141 0) 16 (fun _ => 0) false 0))) := hD
                  refine lv_aload_n hx hb dX9_powers_41 rfl (lv_at hl 2 rfl) ?_
                  obtain ⟨bc_142, bf_143, bn_144, e145, h⟩ := zb3_some h
                  have hPc := zsub (wn := (sW sb140 cB (u141 0) 16 (fun _ => 0) false 0)) hP [8, 9] rfl
                  have hDc := hD.sub (ws' := (sW sb140 cB (u141 0) 16 (fun _ => 0) false 0)) [8, 9] (by decide) rfl
                  refine zgosr (va_runV (As := [.ref s129]) (rest := []) ⟨hx, hb, hml, hown, hts⟩ (c_J4_append_15ec4 l D sb140 cJ cI cO cB (u141 0) 16 (fun _ => 0) false 0 s129 r131 r132 bc_142 bf_143 bn_144 e145 H.size) (cwV 1 hts gX9_powers_J4_append_15ec4 rfl rfl rfl hdV_J4_append_15ec4 ⟨Nat.le_of_ble_eq_true rfl, Nat.le_of_ble_eq_true rfl⟩) (zspreV hE (zSt.ofW hts kwJ0 hK hP hD [8, 9] rfl 6 7 rfl rfl (by decide) (by decide)) hS (va_free hD hS hA [8, 9] rfl) (q0 := 0) (ci := 1) (T := TJ4) (N := 4) hK hPc hDc rfl rfl [.ref s129]) rfl rfl hl.1 rfl (lv_room (Nat.le_of_ble_eq_true rfl)) dX9_powers_42 ⟨Nat.le_of_ble_eq_true rfl, Nat.le_of_ble_eq_true rfl⟩) (va_free hD hS hA [8, 9] rfl) (fun bv146 => (zjs (wn := (mW q v cJ V ib dn rf mk th_4 ++ ([(s41, .inr (0, [.ref u42, .int 0, .int 0, .int 0])), (u42, .inl (cB, r43, .inl r44)), (s85, .inr (0, [.ref u86, .int 0, .int 0, .int 0])), (u86, .inl (cB, r87, .inl r88)), (s129, .inr (0, [.ref u130, .int 0, .int 0, .int 0])), (u130, .inl (cB, r131, .inl r132))] ++ (sW sb140 cB bv146 bc_142 bf_143 false bn_144)))) [0, 1, 2, 3, 4, 5, 6, 7, 8, 9] (zjF (wr := (mW q v cJ V ib dn rf mk th_4 ++ ([(s41, .inr (0, [.ref u42, .int 0, .int 0, .int 0])), (u42, .inl (cB, r43, .inl r44)), (s85, .inr (0, [.ref u86, .int 0, .int 0, .int 0])), (u86, .inl (cB, r87, .inl r88)), (s129, .inr (0, [.ref u130, .int 0, .int 0, .int 0])), (u130, .inl (cB, r131, .inl r132))]))) hP hD hS hA [8, 9] [0, 1, 2, 3, 4, 5, 6, 7] rfl rfl (by decide) (by decide)) rfl (by decide))) hS (fun bv146 H locs hP hD hS => ?_)
                  replace hP : va_P D vwCl (mW q v cJ V ib dn rf mk th_4 ++ ([(s41, .inr (0, [.ref u42, .int 0, .int 0, .int 0])), (u42, .inl (cB, r43, .inl r44)), (s85, .inr (0, [.ref u86, .int 0, .int 0, .int 0])), (u86, .inl (cB, r87, .inl r88)), (s129, .inr (0, [.ref u130, .int 0, .int 0, .int 0])), (u130, .inl (cB, r131, .inl r132))] ++ (sW sb140 cB bv146 bc_142 bf_143 false bn_144))) H := hP
                  replace hD : va_D A (mW q v cJ V ib dn rf mk th_4 ++ ([(s41, .inr (0, [.ref u42, .int 0, .int 0, .int 0])), (u42, .inl (cB, r43, .inl r44)), (s85, .inr (0, [.ref u86, .int 0, .int 0, .int 0])), (u86, .inl (cB, r87, .inl r88)), (s129, .inr (0, [.ref u130, .int 0, .int 0, .int 0])), (u130, .inl (cB, r131, .inl r132))] ++ (sW sb140 cB bv146 bc_142 bf_143 false bn_144))) := hD
                  refine lv_aload_n hx hb dX9_powers_45 rfl (lv_at hl 2 rfl) ?_
                  obtain ⟨r147, e148, h⟩ := zb1_some h
                  refine zgoi (va_runV (As := []) (rest := [.ref sb140]) ⟨hx, hb, hml, hown, hts⟩ (c_J0_isEmpty_aae02 l D cJ cI cO cB s129 r131 r132 r147 e148 H.size) (cwV 0 hts gX9_powers_J0_isEmpty_aae02 rfl rfl rfl hdV_J0_isEmpty_aae02 ⟨Nat.le_of_ble_eq_true rfl, Nat.le_of_ble_eq_true rfl⟩) (zspreT hE (zSt.ofW hts kwJ0 hK hP hD [] rfl 6 7 rfl rfl (by decide) (by decide)) hS (zf0 hS hA) hK zP0 (zD0 (A := A)) []) rfl rfl hl.1 rfl (lv_room (Nat.le_of_ble_eq_true rfl)) dX9_powers_46 ⟨Nat.le_of_ble_eq_true rfl, Nat.le_of_ble_eq_true rfl⟩) (zf0 hS hA) (zjE hP hD) hS (fun H locs hP hD hS => ?_)
                  refine lv_if_eq (tgt := 57) hx hb dX9_powers_49 (by decide) (fun c49 => ?_) (fun c49 => ?_)
                  · replace h := zif_t h c49
                    refine va_ldcS hx hb hown hR176 dX9_powers_57 ?_
                    obtain ⟨bc_149, bf_150, bn_151, e152, h⟩ := zb3_some h
                    have hPc := zsub (wn := (sW sb140 cB bv146 bc_142 bf_143 false bn_144)) hP [8, 9] rfl
                    have hDc := hD.sub (ws' := (sW sb140 cB bv146 bc_142 bf_143 false bn_144)) [8, 9] (by decide) rfl
                    refine zgosr (va_runV (As := [.ref st176]) (rest := []) ⟨hx, hb, hml, hown, hts⟩ (c_J4_append_15ec4 l D sb140 cJ cI cO cB bv146 bc_142 bf_143 false bn_144 st176 1 (zbt 176) bc_149 bf_150 bn_151 e152 H.size) (cwV 1 hts gX9_powers_J4_append_15ec4 rfl rfl rfl hdV_J4_append_15ec4 ⟨Nat.le_of_ble_eq_true rfl, Nat.le_of_ble_eq_true rfl⟩) (zspreV hE (zSt.here hst_st176 hS (va_free hD hS hA [8, 9] rfl)) hS (va_free hD hS hA [8, 9] rfl) (q0 := 0) (ci := 1) (T := TJ4) (N := 4) hK hPc hDc rfl rfl [.ref st176]) rfl rfl hl.1 rfl (lv_room (Nat.le_of_ble_eq_true rfl)) dX9_powers_59 ⟨Nat.le_of_ble_eq_true rfl, Nat.le_of_ble_eq_true rfl⟩) (va_free hD hS hA [8, 9] rfl) (fun bv153 => (zjs (wn := (mW q v cJ V ib dn rf mk th_4 ++ ([(s41, .inr (0, [.ref u42, .int 0, .int 0, .int 0])), (u42, .inl (cB, r43, .inl r44)), (s85, .inr (0, [.ref u86, .int 0, .int 0, .int 0])), (u86, .inl (cB, r87, .inl r88)), (s129, .inr (0, [.ref u130, .int 0, .int 0, .int 0])), (u130, .inl (cB, r131, .inl r132))] ++ (sW sb140 cB bv153 bc_149 bf_150 false bn_151)))) [0, 1, 2, 3, 4, 5, 6, 7, 8, 9] (zjF (wr := (mW q v cJ V ib dn rf mk th_4 ++ ([(s41, .inr (0, [.ref u42, .int 0, .int 0, .int 0])), (u42, .inl (cB, r43, .inl r44)), (s85, .inr (0, [.ref u86, .int 0, .int 0, .int 0])), (u86, .inl (cB, r87, .inl r88)), (s129, .inr (0, [.ref u130, .int 0, .int 0, .int 0])), (u130, .inl (cB, r131, .inl r132))]))) hP hD hS hA [8, 9] [0, 1, 2, 3, 4, 5, 6, 7] rfl rfl (by decide) (by decide)) rfl (by decide))) hS (fun bv153 H locs hP hD hS => ?_)
                    replace hP : va_P D vwCl (mW q v cJ V ib dn rf mk th_4 ++ ([(s41, .inr (0, [.ref u42, .int 0, .int 0, .int 0])), (u42, .inl (cB, r43, .inl r44)), (s85, .inr (0, [.ref u86, .int 0, .int 0, .int 0])), (u86, .inl (cB, r87, .inl r88)), (s129, .inr (0, [.ref u130, .int 0, .int 0, .int 0])), (u130, .inl (cB, r131, .inl r132))] ++ (sW sb140 cB bv153 bc_149 bf_150 false bn_151))) H := hP
                    replace hD : va_D A (mW q v cJ V ib dn rf mk th_4 ++ ([(s41, .inr (0, [.ref u42, .int 0, .int 0, .int 0])), (u42, .inl (cB, r43, .inl r44)), (s85, .inr (0, [.ref u86, .int 0, .int 0, .int 0])), (u86, .inl (cB, r87, .inl r88)), (s129, .inr (0, [.ref u130, .int 0, .int 0, .int 0])), (u130, .inl (cB, r131, .inl r132))] ++ (sW sb140 cB bv153 bc_149 bf_150 false bn_151))) := hD
                    refine lv_iload hx hb dX9_powers_62 (lv_at hl 0 rfl) ?_
                    obtain ⟨bc_154, bf_155, bn_156, e157, h⟩ := zb3_some h
                    have hPc := zsub (wn := (sW sb140 cB bv153 bc_149 bf_150 false bn_151)) hP [8, 9] rfl
                    have hDc := hD.sub (ws' := (sW sb140 cB bv153 bc_149 bf_150 false bn_151)) [8, 9] (by decide) rfl
                    refine zgosr (va_runV (As := [.int r138]) (rest := []) ⟨hx, hb, hml, hown, hts⟩ (c_J4_append_bf812 l D sb140 cJ cI cO cB bv153 bc_149 bf_150 false bn_151 F r138 bc_154 bf_155 bn_156 e157 H.size) (cwV 1 hts gX9_powers_J4_append_bf812 rfl rfl rfl hdV_J4_append_bf812 ⟨Nat.le_of_ble_eq_true rfl, Nat.le_of_ble_eq_true rfl⟩) (zxpreV hE hS (va_free hD hS hA [8, 9] rfl) (q0 := 0) (ci := 1) (T := TJ4) (N := 4) hK hPc hDc rfl rfl [.int r138]) rfl rfl hl.1 rfl (lv_room (Nat.le_of_ble_eq_true rfl)) dX9_powers_64 ⟨Nat.le_of_ble_eq_true rfl, Nat.le_of_ble_eq_true rfl⟩) (va_free hD hS hA [8, 9] rfl) (fun bv158 => (zjs (wn := (mW q v cJ V ib dn rf mk th_4 ++ ([(s41, .inr (0, [.ref u42, .int 0, .int 0, .int 0])), (u42, .inl (cB, r43, .inl r44)), (s85, .inr (0, [.ref u86, .int 0, .int 0, .int 0])), (u86, .inl (cB, r87, .inl r88)), (s129, .inr (0, [.ref u130, .int 0, .int 0, .int 0])), (u130, .inl (cB, r131, .inl r132))] ++ (sW sb140 cB bv158 bc_154 bf_155 false bn_156)))) [0, 1, 2, 3, 4, 5, 6, 7, 8, 9] (zjF (wr := (mW q v cJ V ib dn rf mk th_4 ++ ([(s41, .inr (0, [.ref u42, .int 0, .int 0, .int 0])), (u42, .inl (cB, r43, .inl r44)), (s85, .inr (0, [.ref u86, .int 0, .int 0, .int 0])), (u86, .inl (cB, r87, .inl r88)), (s129, .inr (0, [.ref u130, .int 0, .int 0, .int 0])), (u130, .inl (cB, r131, .inl r132))]))) hP hD hS hA [8, 9] [0, 1, 2, 3, 4, 5, 6, 7] rfl rfl (by decide) (by decide)) rfl (by decide))) hS (fun bv158 H locs hP hD hS => ?_)
                    replace hP : va_P D vwCl (mW q v cJ V ib dn rf mk th_4 ++ ([(s41, .inr (0, [.ref u42, .int 0, .int 0, .int 0])), (u42, .inl (cB, r43, .inl r44)), (s85, .inr (0, [.ref u86, .int 0, .int 0, .int 0])), (u86, .inl (cB, r87, .inl r88)), (s129, .inr (0, [.ref u130, .int 0, .int 0, .int 0])), (u130, .inl (cB, r131, .inl r132))] ++ (sW sb140 cB bv158 bc_154 bf_155 false bn_156))) H := hP
                    replace hD : va_D A (mW q v cJ V ib dn rf mk th_4 ++ ([(s41, .inr (0, [.ref u42, .int 0, .int 0, .int 0])), (u42, .inl (cB, r43, .inl r44)), (s85, .inr (0, [.ref u86, .int 0, .int 0, .int 0])), (u86, .inl (cB, r87, .inl r88)), (s129, .inr (0, [.ref u130, .int 0, .int 0, .int 0])), (u130, .inl (cB, r131, .inl r132))] ++ (sW sb140 cB bv158 bc_154 bf_155 false bn_156))) := hD
                    refine va_ldcS hx hb hown hR181 dX9_powers_67 ?_
                    obtain ⟨bc_159, bf_160, bn_161, e162, h⟩ := zb3_some h
                    have hPc := zsub (wn := (sW sb140 cB bv158 bc_154 bf_155 false bn_156)) hP [8, 9] rfl
                    have hDc := hD.sub (ws' := (sW sb140 cB bv158 bc_154 bf_155 false bn_156)) [8, 9] (by decide) rfl
                    refine zgosr (va_runV (As := [.ref st181]) (rest := []) ⟨hx, hb, hml, hown, hts⟩ (c_J4_append_15ec4 l D sb140 cJ cI cO cB bv158 bc_154 bf_155 false bn_156 st181 1 (zbt 181) bc_159 bf_160 bn_161 e162 H.size) (cwV 1 hts gX9_powers_J4_append_15ec4 rfl rfl rfl hdV_J4_append_15ec4 ⟨Nat.le_of_ble_eq_true rfl, Nat.le_of_ble_eq_true rfl⟩) (zspreV hE (zSt.here hst_st181 hS (va_free hD hS hA [8, 9] rfl)) hS (va_free hD hS hA [8, 9] rfl) (q0 := 0) (ci := 1) (T := TJ4) (N := 4) hK hPc hDc rfl rfl [.ref st181]) rfl rfl hl.1 rfl (lv_room (Nat.le_of_ble_eq_true rfl)) dX9_powers_69 ⟨Nat.le_of_ble_eq_true rfl, Nat.le_of_ble_eq_true rfl⟩) (va_free hD hS hA [8, 9] rfl) (fun bv163 => (zjs (wn := (mW q v cJ V ib dn rf mk th_4 ++ ([(s41, .inr (0, [.ref u42, .int 0, .int 0, .int 0])), (u42, .inl (cB, r43, .inl r44)), (s85, .inr (0, [.ref u86, .int 0, .int 0, .int 0])), (u86, .inl (cB, r87, .inl r88)), (s129, .inr (0, [.ref u130, .int 0, .int 0, .int 0])), (u130, .inl (cB, r131, .inl r132))] ++ (sW sb140 cB bv163 bc_159 bf_160 false bn_161)))) [0, 1, 2, 3, 4, 5, 6, 7, 8, 9] (zjF (wr := (mW q v cJ V ib dn rf mk th_4 ++ ([(s41, .inr (0, [.ref u42, .int 0, .int 0, .int 0])), (u42, .inl (cB, r43, .inl r44)), (s85, .inr (0, [.ref u86, .int 0, .int 0, .int 0])), (u86, .inl (cB, r87, .inl r88)), (s129, .inr (0, [.ref u130, .int 0, .int 0, .int 0])), (u130, .inl (cB, r131, .inl r132))]))) hP hD hS hA [8, 9] [0, 1, 2, 3, 4, 5, 6, 7] rfl rfl (by decide) (by decide)) rfl (by decide))) hS (fun bv163 H locs hP hD hS => ?_)
                    replace hP : va_P D vwCl (mW q v cJ V ib dn rf mk th_4 ++ ([(s41, .inr (0, [.ref u42, .int 0, .int 0, .int 0])), (u42, .inl (cB, r43, .inl r44)), (s85, .inr (0, [.ref u86, .int 0, .int 0, .int 0])), (u86, .inl (cB, r87, .inl r88)), (s129, .inr (0, [.ref u130, .int 0, .int 0, .int 0])), (u130, .inl (cB, r131, .inl r132))] ++ (sW sb140 cB bv163 bc_159 bf_160 false bn_161))) H := hP
                    replace hD : va_D A (mW q v cJ V ib dn rf mk th_4 ++ ([(s41, .inr (0, [.ref u42, .int 0, .int 0, .int 0])), (u42, .inl (cB, r43, .inl r44)), (s85, .inr (0, [.ref u86, .int 0, .int 0, .int 0])), (u86, .inl (cB, r87, .inl r88)), (s129, .inr (0, [.ref u130, .int 0, .int 0, .int 0])), (u130, .inl (cB, r131, .inl r132))] ++ (sW sb140 cB bv163 bc_159 bf_160 false bn_161))) := hD
                    refine lv_iload_n hx hb dX9_powers_72 rfl (lv_at hl 1 rfl) ?_
                    refine lv_iload_n hx hb dX9_powers_73 rfl (lv_at hl 1 rfl) ?_
                    refine lv_iload hx hb dX9_powers_74 (lv_at hl 0 rfl) ?_
                    obtain ⟨r164, e165, h⟩ := zb1_some h
                    refine zgoi (va_runS (As := [.int r136, .int r138]) (rest := [.int r136, .ref sb140]) ⟨hx, hb, hml, hown, hts⟩ (c_X9_without l D (zT cJ cI cO cB) F r136 r138 r164 e165 H.size) (va_cwS 2 hts gX9_powers_X9_without rfl rfl rfl hdS_X9_without ⟨Nat.le_of_ble_eq_true rfl, Nat.le_of_ble_eq_true rfl⟩) (zpreS hK zP0 (zD0 (A := A)) [.int r136, .int r138]) rfl rfl hl.1 rfl (lv_room (Nat.le_of_ble_eq_true rfl)) dX9_powers_76 ⟨Nat.le_of_ble_eq_true rfl, Nat.le_of_ble_eq_true rfl⟩) (zf0 hS hA) (zjE hP hD) hS (fun H locs hP hD hS => ?_)
                    obtain ⟨z79, h⟩ := zg_some h
                    refine lv_idiv hx hb dX9_powers_79 z79 ?_
                    obtain ⟨r166, e167, h⟩ := zb1_some h
                    refine zgoi (va_runS (As := [.int (r136 / r164)]) (rest := [.ref sb140]) ⟨hx, hb, hml, hown, hts⟩ (c_X9_all l D (zT cJ cI cO cB) F (r136 / r164) r166 e167 H.size) (va_cwS 1 hts gX9_powers_X9_all rfl rfl rfl hdS_X9_all ⟨Nat.le_of_ble_eq_true rfl, Nat.le_of_ble_eq_true rfl⟩) (zpreS hK zP0 (zD0 (A := A)) [.int (r136 / r164)]) rfl rfl hl.1 rfl (lv_room (Nat.le_of_ble_eq_true rfl)) dX9_powers_80 ⟨Nat.le_of_ble_eq_true rfl, Nat.le_of_ble_eq_true rfl⟩) (zf0 hS hA) (zjE hP hD) hS (fun H locs hP hD hS => ?_)
                    obtain ⟨bc_168, bf_169, bn_170, e171, h⟩ := zb3_some h
                    have hPc := zsub (wn := (sW sb140 cB bv163 bc_159 bf_160 false bn_161)) hP [8, 9] rfl
                    have hDc := hD.sub (ws' := (sW sb140 cB bv163 bc_159 bf_160 false bn_161)) [8, 9] (by decide) rfl
                    refine zgosr (va_runV (As := [.int r166]) (rest := []) ⟨hx, hb, hml, hown, hts⟩ (c_J4_append_bf812 l D sb140 cJ cI cO cB bv163 bc_159 bf_160 false bn_161 F r166 bc_168 bf_169 bn_170 e171 H.size) (cwV 1 hts gX9_powers_J4_append_bf812 rfl rfl rfl hdV_J4_append_bf812 ⟨Nat.le_of_ble_eq_true rfl, Nat.le_of_ble_eq_true rfl⟩) (zxpreV hE hS (va_free hD hS hA [8, 9] rfl) (q0 := 0) (ci := 1) (T := TJ4) (N := 4) hK hPc hDc rfl rfl [.int r166]) rfl rfl hl.1 rfl (lv_room (Nat.le_of_ble_eq_true rfl)) dX9_powers_83 ⟨Nat.le_of_ble_eq_true rfl, Nat.le_of_ble_eq_true rfl⟩) (va_free hD hS hA [8, 9] rfl) (fun bv172 => (zjs (wn := (mW q v cJ V ib dn rf mk th_4 ++ ([(s41, .inr (0, [.ref u42, .int 0, .int 0, .int 0])), (u42, .inl (cB, r43, .inl r44)), (s85, .inr (0, [.ref u86, .int 0, .int 0, .int 0])), (u86, .inl (cB, r87, .inl r88)), (s129, .inr (0, [.ref u130, .int 0, .int 0, .int 0])), (u130, .inl (cB, r131, .inl r132))] ++ (sW sb140 cB bv172 bc_168 bf_169 false bn_170)))) [0, 1, 2, 3, 4, 5, 6, 7, 8, 9] (zjF (wr := (mW q v cJ V ib dn rf mk th_4 ++ ([(s41, .inr (0, [.ref u42, .int 0, .int 0, .int 0])), (u42, .inl (cB, r43, .inl r44)), (s85, .inr (0, [.ref u86, .int 0, .int 0, .int 0])), (u86, .inl (cB, r87, .inl r88)), (s129, .inr (0, [.ref u130, .int 0, .int 0, .int 0])), (u130, .inl (cB, r131, .inl r132))]))) hP hD hS hA [8, 9] [0, 1, 2, 3, 4, 5, 6, 7] rfl rfl (by decide) (by decide)) rfl (by decide))) hS (fun bv172 H locs hP hD hS => ?_)
                    replace hP : va_P D vwCl (mW q v cJ V ib dn rf mk th_4 ++ ([(s41, .inr (0, [.ref u42, .int 0, .int 0, .int 0])), (u42, .inl (cB, r43, .inl r44)), (s85, .inr (0, [.ref u86, .int 0, .int 0, .int 0])), (u86, .inl (cB, r87, .inl r88)), (s129, .inr (0, [.ref u130, .int 0, .int 0, .int 0])), (u130, .inl (cB, r131, .inl r132))] ++ (sW sb140 cB bv172 bc_168 bf_169 false bn_170))) H := hP
                    replace hD : va_D A (mW q v cJ V ib dn rf mk th_4 ++ ([(s41, .inr (0, [.ref u42, .int 0, .int 0, .int 0])), (u42, .inl (cB, r43, .inl r44)), (s85, .inr (0, [.ref u86, .int 0, .int 0, .int 0])), (u86, .inl (cB, r87, .inl r88)), (s129, .inr (0, [.ref u130, .int 0, .int 0, .int 0])), (u130, .inl (cB, r131, .inl r132))] ++ (sW sb140 cB bv172 bc_168 bf_169 false bn_170))) := hD
                    obtain ⟨r175, r176, e177, h⟩ := zb2_some h
                    have hPc := zsub (wn := ([(sb140, .inr (1, [.ref bv172, .int 0, .int (z01 false), .int bn_170])), (bv172, .inl (cB, bc_168, .inl bf_169))] : va_W)) hP [8, 9] rfl
                    have hDc := hD.sub (ws' := ([(sb140, .inr (1, [.ref bv172, .int 0, .int (z01 false), .int bn_170])), (bv172, .inl (cB, bc_168, .inl bf_169))] : va_W)) [8, 9] (by decide) rfl
                    refine zgoss (va_runV (As := []) (rest := []) ⟨hx, hb, hml, hown, hts⟩ (c_J4_toString_0e30d l D cJ cI cO cB sb140 bv172 bc_168 bf_169 false bn_170 r175 r176 e177 H.size) (cwV 0 hts gX9_powers_J4_toString_0e30d rfl rfl rfl hdV_J4_toString_0e30d ⟨Nat.le_of_ble_eq_true rfl, Nat.le_of_ble_eq_true rfl⟩) (zxpreV hE hS (va_free hD hS hA [8, 9] rfl) (q0 := 0) (ci := 1) (T := TJ4) (N := 4) hK hPc hDc rfl rfl []) rfl rfl hl.1 rfl (lv_room (Nat.le_of_ble_eq_true rfl)) dX9_powers_86 ⟨Nat.le_of_ble_eq_true rfl, Nat.le_of_ble_eq_true rfl⟩) (va_free hD hS hA [8, 9] rfl) (fun s173 u174 => zjs (wn := (mW q v cJ V ib dn rf mk th_4 ++ ([(s41, .inr (0, [.ref u42, .int 0, .int 0, .int 0])), (u42, .inl (cB, r43, .inl r44)), (s85, .inr (0, [.ref u86, .int 0, .int 0, .int 0])), (u86, .inl (cB, r87, .inl r88)), (s129, .inr (0, [.ref u130, .int 0, .int 0, .int 0])), (u130, .inl (cB, r131, .inl r132)), (s173, .inr (0, [.ref u174, .int 0, .int 0, .int 0])), (u174, .inl (cB, r175, .inl r176))]))) [0, 1, 2, 3, 4, 5, 6, 7, 8, 9] (zjF (wr := (mW q v cJ V ib dn rf mk th_4 ++ ([(s41, .inr (0, [.ref u42, .int 0, .int 0, .int 0])), (u42, .inl (cB, r43, .inl r44)), (s85, .inr (0, [.ref u86, .int 0, .int 0, .int 0])), (u86, .inl (cB, r87, .inl r88)), (s129, .inr (0, [.ref u130, .int 0, .int 0, .int 0])), (u130, .inl (cB, r131, .inl r132))]))) hP hD hS hA [8, 9] [0, 1, 2, 3, 4, 5, 6, 7] rfl rfl (by decide) (by decide)) rfl (by decide)) hS (fun s173 u174 H locs hP hD hS => ?_)
                    replace hP : va_P D vwCl (mW q v cJ V ib dn rf mk th_4 ++ ([(s41, .inr (0, [.ref u42, .int 0, .int 0, .int 0])), (u42, .inl (cB, r43, .inl r44)), (s85, .inr (0, [.ref u86, .int 0, .int 0, .int 0])), (u86, .inl (cB, r87, .inl r88)), (s129, .inr (0, [.ref u130, .int 0, .int 0, .int 0])), (u130, .inl (cB, r131, .inl r132)), (s173, .inr (0, [.ref u174, .int 0, .int 0, .int 0])), (u174, .inl (cB, r175, .inl r176))])) H := hP
                    replace hD : va_D A (mW q v cJ V ib dn rf mk th_4 ++ ([(s41, .inr (0, [.ref u42, .int 0, .int 0, .int 0])), (u42, .inl (cB, r43, .inl r44)), (s85, .inr (0, [.ref u86, .int 0, .int 0, .int 0])), (u86, .inl (cB, r87, .inl r88)), (s129, .inr (0, [.ref u130, .int 0, .int 0, .int 0])), (u130, .inl (cB, r131, .inl r132)), (s173, .inr (0, [.ref u174, .int 0, .int 0, .int 0])), (u174, .inl (cB, r175, .inl r176))])) := hD
                    refine lv_astore_n (lv' := [(2, .ref s173), (4, .int r138), (3, .int r136), (0, .ref q), (1, .int p0)]) hx hb dX9_powers_89 rfl hl (by decide) rfl (fun ls hl => ?_)
                    refine lv_iload_n hx hb dX9_powers_90 rfl (lv_at hl 2 rfl) ?_
                    refine lv_iload_n hx hb dX9_powers_91 rfl (lv_at hl 2 rfl) ?_
                    obtain ⟨r178, e179, h⟩ := zb1_some h
                    refine zgoi (va_runS (As := [.int r136]) (rest := [.int r136]) ⟨hx, hb, hml, hown, hts⟩ (c_X9_least l D (zT cJ cI cO cB) F r136 r178 e179 H.size) (va_cwS 1 hts gX9_powers_X9_least rfl rfl rfl hdS_X9_least ⟨Nat.le_of_ble_eq_true rfl, Nat.le_of_ble_eq_true rfl⟩) (zpreS hK zP0 (zD0 (A := A)) [.int r136]) rfl rfl hl.1 rfl (lv_room (Nat.le_of_ble_eq_true rfl)) dX9_powers_92 ⟨Nat.le_of_ble_eq_true rfl, Nat.le_of_ble_eq_true rfl⟩) (zf0 hS hA) (zjE hP hD) hS (fun H locs hP hD hS => ?_)
                    obtain ⟨r180, e181, h⟩ := zb1_some h
                    refine zgoi (va_runS (As := [.int r136, .int r178]) (rest := []) ⟨hx, hb, hml, hown, hts⟩ (c_X9_without l D (zT cJ cI cO cB) F r136 r178 r180 e181 H.size) (va_cwS 2 hts gX9_powers_X9_without rfl rfl rfl hdS_X9_without ⟨Nat.le_of_ble_eq_true rfl, Nat.le_of_ble_eq_true rfl⟩) (zpreS hK zP0 (zD0 (A := A)) [.int r136, .int r178]) rfl rfl hl.1 rfl (lv_room (Nat.le_of_ble_eq_true rfl)) dX9_powers_95 ⟨Nat.le_of_ble_eq_true rfl, Nat.le_of_ble_eq_true rfl⟩) (zf0 hS hA) (zjE hP hD) hS (fun H locs hP hD hS => ?_)
                    refine lv_istore_n (lv' := [(3, .int r180), (2, .ref s173), (4, .int r138), (0, .ref q), (1, .int p0)]) hx hb dX9_powers_98 rfl hl (by decide) rfl (fun ls hl => ?_)
                    refine lv_goto (tgt := 23) hx hb dX9_powers_99 (by decide) ?_
                    refine lv_iload_n hx hb dX9_powers_23 rfl (lv_at hl 0 rfl) ?_
                    refine lv_iconst (v := (1 : Int32)) hx hb dX9_powers_24 (by decide) ?_
                    refine lv_icmp_le (tgt := 102) hx hb dX9_powers_25 (by decide) (fun c25 => ?_) (fun c25 => ?_)
                    · replace h := zif_t h c25
                      refine lv_aload_n hx hb dX9_powers_102 rfl (lv_at hl 1 rfl) ?_
                      have h1 := Option.some.inj h
                      subst h1
                      replace hP := zsub (wn := (mW q v cJ V ib dn rf mk th_4)) hP [0, 1] rfl
                      replace hD := hD.sub (ws' := (mW q v cJ V ib dn rf mk th_4)) [0, 1] (by decide) rfl
                      exact W.aret (v := .ref s173) hx hb hr (Or.inl ⟨_, rfl⟩) (Or.inr ⟨_, rfl⟩) (fun t ht hW => ⟨⟨(), s173, rfl, trivial, by rw [ht]; exact hP, va_K.moved hW.alike hK, hD⟩, hS.F ht⟩) hS.2.2 dX9_powers_103
                    · replace h := zif_f h c25
                      exact (zno h).elim
                  · replace h := zif_f h c49
                    exact (zno h).elim
              · replace h := zif_f h c49
                exact (zno h).elim
          · replace h := zif_f h c49
            exact (zno h).elim
  · replace h := zif_f h c12
    refine va_ldcS hx hb hown hR133 dX9_powers_15 ?_
    have h1 := Option.some.inj h
    subst h1
    refine W.widen (k := 36) (n := 3696) (by decide) (by decide) ?_
    exact W.aret (v := .ref st133) hx hb hr (Or.inl ⟨_, rfl⟩) (Or.inr ⟨_, rfl⟩) (fun t ht hW => ⟨⟨(), st133, rfl, trivial, by rw [ht]; exact hP, va_K.moved hW.alike hK, hD⟩, hS.F ht⟩) hS.2.2 dX9_powers_17
