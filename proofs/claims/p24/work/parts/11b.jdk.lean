noncomputable def p_J8_newLength_cabcc (p0 : Int32) (p1 : Int32) (p2 : Int32) : Option Int32 := (if (p0 + (if p1 < p2 then p2 else p1)) ≤ (0 : Int32) then none else (if (2147483639 : Int32) < (p0 + (if p1 < p2 then p2 else p1)) then none else (some (p0 + (if p1 < p2 then p2 else p1)))))
theorem hdS_J8_newLength_cabcc : yJ8_newLength_cabcc.cls ≠ "java/lang/invoke/MethodHandle" ∧ yJ8_newLength_cabcc.cls ≠ "java/lang/invoke/VarHandle" ∧ (parseMethodDescriptor yJ8_newLength_cabcc.desc).map (fun d => d.parameters.length) = some 3 := by decide +kernel
set_option maxHeartbeats 4000000 in
set_option maxRecDepth 100000 in
theorem c_J8_newLength_cabcc (l : Launch) (D : va_G) (tys : List (ClassId × FieldType)) (p0 : Int32) (p1 : Int32) (p2 : Int32) (r : Int32) (h : p_J8_newLength_cabcc p0 p1 p2 = some r) : zMi l yJ8_newLength_cabcc wsJ8_newLength_cabcc 1 21 0 0 D tys [.int p0, .int p1, .int p2] ([] : va_W) ([] : va_W) r := by
  intro sz
  delta zQi
  refine Met.ofW (cc := cJ8_newLength_cabcc) (maxL := 4) (ret := (some .int)) (by decide) rfl ?_
  intro p e s m args below meth c s₁ B hml hv
  obtain ⟨rfl, hsz, hP, hK, hD0⟩ := hv
  have hx := B.exec
  have hb := B.bytes
  have hr := B.returns
  have hts := atoms_spec (ws := wsJ8_newLength_cabcc) B.pre
  have hown : s.vm.findClass RJ8 = some m.cls := findClass_of_methodNamed B.named
  have hlocks := B.notSynchronized
  subst hsz
  have hD := hD0.self (sz := s.heap.size)
  generalize hAe : va_A ([] : va_W) s.heap.size = A at hD ⊢
  have hA : ∀ q : Nat, s.heap.size ≤ q → A q := fun q h => by rw [← hAe]; exact Or.inr h
  have hS : va_S A s.heap s.heap [] := va_S.rf
  have hl := lv_entry ([.int p0, .int p1, .int p2]) (n := 4) (Nat.le_of_ble_eq_true rfl)
  rw [lg_entry_eq]
  generalize (lg_sl ([.int p0, .int p1, .int p2]) ++ List.replicate (4 - (lg_sl ([.int p0, .int p1, .int p2])).length) Slot.unset).toArray = ls at hl ⊢
  replace hl : lv_has ls 4 [(0, .int p0), (1, .int p1), (2, .int p2)] := hl
  have km_194 := hts (.methodLink RJ8 194 Lib.Math.max.name) (zmem 1 rfl)
  have kmsmax := hts (.static Lib.Math.max.name) (zmem 2 rfl)
  have kmi := hts (.initialized "java/lang/Math") (zmem 3 rfl)
  have kmcmax := hts (.code Lib.Math.max.name Lib.Math.max.code 2 (some .int)) (zmem 4 rfl)
  have kc_200 := hts (.constant RJ8 200 (2147483639)) (zmem 9 rfl)
  replace h : (if (p0 + (if p1 < p2 then p2 else p1)) ≤ (0 : Int32) then none else (if (2147483639 : Int32) < (p0 + (if p1 < p2 then p2 else p1)) then none else (some (p0 + (if p1 < p2 then p2 else p1))))) = some r := h
  obtain ⟨H, hHe⟩ : ∃ H, H = s.heap := ⟨_, rfl⟩
  rw [← hHe] at hP
  replace hS : va_S A s.heap H [] := by rw [hHe]; exact hS
  refine zheap hHe ?_
  refine lv_iload_n hx hb dJ8_newLength_cabcc_0 rfl (lv_at hl 0 rfl) ?_
  refine lv_iload_n hx hb dJ8_newLength_cabcc_1 rfl (lv_at hl 1 rfl) ?_
  refine lv_iload_n hx hb dJ8_newLength_cabcc_2 rfl (lv_at hl 2 rfl) ?_
  refine va_mmax hx hb (hml.trans hl.1.symm) hown km_194 kmsmax kmi kmcmax (Nat.le_of_ble_eq_true rfl) (Nat.le_of_ble_eq_true rfl) (Nat.le_of_ble_eq_true rfl) (Nat.le_of_ble_eq_true rfl) dJ8_newLength_cabcc_3 ?_
  refine lv_iadd hx hb dJ8_newLength_cabcc_6 ?_
  refine lv_istore_n (lv' := [(3, .int (p0 + (if p1 < p2 then p2 else p1))), (0, .int p0), (1, .int p1), (2, .int p2)]) hx hb dJ8_newLength_cabcc_7 rfl hl (by decide) rfl (fun ls hl => ?_)
  refine lv_iconst (v := (0 : Int32)) hx hb dJ8_newLength_cabcc_8 (by decide) ?_
  refine lv_iload_n hx hb dJ8_newLength_cabcc_9 rfl (lv_at hl 0 rfl) ?_
  refine lv_icmp_ge (tgt := 21) hx hb dJ8_newLength_cabcc_10 (by decide) (fun c10 => ?_) (fun c10 => ?_)
  · replace h := zif_t h c10
    refine lv_iload_n hx hb dJ8_newLength_cabcc_21 rfl (lv_at hl 1 rfl) ?_
    refine lv_iload_n hx hb dJ8_newLength_cabcc_22 rfl (lv_at hl 2 rfl) ?_
    exact (zno h).elim
  · replace h := zif_f h c10
    refine lv_iload_n hx hb dJ8_newLength_cabcc_13 rfl (lv_at hl 0 rfl) ?_
    refine lv_ldc hx hb hown kc_200 dJ8_newLength_cabcc_14 ?_
    refine lv_icmp_gt (tgt := 21) hx hb dJ8_newLength_cabcc_16 (by decide) (fun c16 => ?_) (fun c16 => ?_)
    · replace h := zif_t h c16
      refine lv_iload_n hx hb dJ8_newLength_cabcc_21 rfl (lv_at hl 1 rfl) ?_
      refine lv_iload_n hx hb dJ8_newLength_cabcc_22 rfl (lv_at hl 2 rfl) ?_
      exact (zno h).elim
    · replace h := zif_f h c16
      refine lv_iload_n hx hb dJ8_newLength_cabcc_19 rfl (lv_at hl 0 rfl) ?_
      have h1 := Option.some.inj h
      subst h1
      exact W.iret (v := (p0 + (if p1 < p2 then p2 else p1))) hx hb hr (fun t ht hW => ⟨⟨(p0 + (if p1 < p2 then p2 else p1)), (), rfl, rfl, by rw [ht]; exact hP, va_K.moved hW.alike hK, hD⟩, hS.F ht⟩) hS.2.2 dJ8_newLength_cabcc_20

noncomputable def p_J13_stringSize_95d88_L0 (F : Nat) (l0j0 : Int64) (l2j0 : Int32) (k : Int64 → Int32 → Option Int32) : Nat → Int64 → Int32 → Option Int32
  | 0, _, _ => none
  | n + 1, v3_0, v5_0 => (if (19 : Int32) ≤ v5_0 then (k v3_0 v5_0) else (if (lg_cmp l0j0 v3_0) ≤ 0 then (p_J13_stringSize_95d88_L0 F l0j0 l2j0 k n ((10 : Int64) * v3_0) (v5_0 + (1 : Int32))) else (some (v5_0 + l2j0))))
noncomputable def p_J13_stringSize_95d88 (F : Nat) (p0 : Int64) : Option Int32 := (zlt (fun (l0j0 : Int64) (l2j0 : Int32) => (p_J13_stringSize_95d88_L0 F l0j0 l2j0 (fun v3_0 v5_0 => (some ((19 : Int32) + l2j0))) F (-10 : Int64) (1 : Int32))) (fun jf0 => (if (lg_cmp p0 (0 : Int64)) < 0 then (jf0 p0 (1 : Int32)) else (jf0 (-p0) (0 : Int32)))))
theorem hdS_J13_stringSize_95d88 : yJ13_stringSize_95d88.cls ≠ "java/lang/invoke/MethodHandle" ∧ yJ13_stringSize_95d88.cls ≠ "java/lang/invoke/VarHandle" ∧ (parseMethodDescriptor yJ13_stringSize_95d88.desc).map (fun d => d.parameters.length) = some 1 := by decide +kernel
set_option maxHeartbeats 4000000 in
set_option maxRecDepth 100000 in
theorem c_J13_stringSize_95d88 (l : Launch) (D : va_G) (tys : List (ClassId × FieldType)) (F : Nat) (p0 : Int64) (r : Int32) (h : p_J13_stringSize_95d88 F p0 = some r) : zMi l yJ13_stringSize_95d88 wsJ13_stringSize_95d88 0 0 0 0 D tys [.long p0] ([] : va_W) ([] : va_W) r := by
  intro sz
  delta zQi
  refine Met.ofW (cc := cJ13_stringSize_95d88) (maxL := 6) (ret := (some .int)) (by decide) rfl ?_
  intro p e s m args below meth c s₁ B hml hv
  obtain ⟨rfl, hsz, hP, hK, hD0⟩ := hv
  have hx := B.exec
  have hb := B.bytes
  have hr := B.returns
  have hts := atoms_spec (ws := wsJ13_stringSize_95d88) B.pre
  have hown : s.vm.findClass RJ13 = some m.cls := findClass_of_methodNamed B.named
  have hlocks := B.notSynchronized
  subst hsz
  have hD := hD0.self (sz := s.heap.size)
  generalize hAe : va_A ([] : va_W) s.heap.size = A at hD ⊢
  have hA : ∀ q : Nat, s.heap.size ≤ q → A q := fun q h => by rw [← hAe]; exact Or.inr h
  have hS : va_S A s.heap s.heap [] := va_S.rf
  have hl := lv_entry ([.long p0]) (n := 6) (Nat.le_of_ble_eq_true rfl)
  rw [lg_entry_eq]
  generalize (lg_sl ([.long p0]) ++ List.replicate (6 - (lg_sl ([.long p0])).length) Slot.unset).toArray = ls at hl ⊢
  replace hl : lv_has ls 6 [(0, .long p0)] := hl
  have kc_140 := hts (.constantLong RJ13 140 (-10)) (zmem 1 rfl)
  have kc_53 := hts (.constantLong RJ13 53 (10)) (zmem 2 rfl)
  replace h : (zlt (fun (l0j0 : Int64) (l2j0 : Int32) => (p_J13_stringSize_95d88_L0 F l0j0 l2j0 (fun v3_0 v5_0 => (some ((19 : Int32) + l2j0))) F (-10 : Int64) (1 : Int32))) (fun jf0 => (if (lg_cmp p0 (0 : Int64)) < 0 then (jf0 p0 (1 : Int32)) else (jf0 (-p0) (0 : Int32))))) = some r := h
  refine zabs (fun G hG hGW => ?_)
  obtain ⟨H, hHe⟩ : ∃ H, H = s.heap := ⟨_, rfl⟩
  rw [← hHe] at hP
  replace hS : va_S A s.heap H [] := by rw [hHe]; exact hS
  refine zheap hHe ?_
  refine lv_iconst (v := (1 : Int32)) hx hb dJ13_stringSize_95d88_0 (by decide) ?_
  refine lv_istore_n (lv' := [(2, .int (1 : Int32)), (0, .long p0)]) hx hb dJ13_stringSize_95d88_1 rfl hl (by decide) rfl (fun ls hl => ?_)
  refine lv_lload_n hx hb dJ13_stringSize_95d88_2 rfl (lv_at hl 1 rfl) ?_
  refine lv_lconst (v := (0 : Int64)) hx hb dJ13_stringSize_95d88_3 (by decide) ?_
  refine W.lcmp hx hb dJ13_stringSize_95d88_4 ?_
  have J0 : ∀ (l0j0 : Int64) (l2j0 : Int32) (H : Heap) (locs : List Loc) (ls : Array Slot), va_P D vwCl ([] : va_W) H → va_D A ([] : va_W) → va_S A s.heap H locs → lv_has ls 6 [(0, .long l0j0), (2, .int l2j0)] → (p_J13_stringSize_95d88_L0 F l0j0 l2j0 (fun v3_0 v5_0 => (some ((19 : Int32) + l2j0))) F (-10 : Int64) (1 : Int32)) = some r → G H locs 0 0 (F0 m 13 ls []) := by
    intro l0j0 l2j0 H locs ls hP hD hS hl h
    refine hG _ _ _ _ _ ?_
    refine lv_ldc2 hx hb hown kc_140 dJ13_stringSize_95d88_13 ?_
    refine lv_lstore_n (lv' := [(3, .long (-10 : Int64)), (0, .long l0j0), (2, .int l2j0)]) hx hb dJ13_stringSize_95d88_16 rfl hl (by decide) rfl (fun ls hl => ?_)
    refine lv_iconst (v := (1 : Int32)) hx hb dJ13_stringSize_95d88_17 (by decide) ?_
    refine lv_istore (lv' := [(5, .int (1 : Int32)), (3, .long (-10 : Int64)), (0, .long l0j0), (2, .int l2j0)]) hx hb dJ13_stringSize_95d88_18 hl (by decide) rfl (fun ls hl => ?_)
    have X0 : ∀ (v3_0 : Int64) (v5_0 : Int32) (H : Heap) (locs : List Loc) (ls : Array Slot), va_P D vwCl ([] : va_W) H → va_D A ([] : va_W) → va_S A s.heap H locs → lv_has ls 6 [(0, .long l0j0), (2, .int l2j0), (3, .long v3_0), (5, .int v5_0)] → (some ((19 : Int32) + l2j0)) = some r → G H locs 0 0 (F0 m 50 ls []) := by
      intro v3_0 v5_0 H locs ls hP hD hS hl h
      refine hG _ _ _ _ _ ?_
      refine lv_bipush (v := (19 : Int32)) hx hb dJ13_stringSize_95d88_50 (by decide) ?_
      refine lv_iload_n hx hb dJ13_stringSize_95d88_52 rfl (lv_at hl 1 rfl) ?_
      refine lv_iadd hx hb dJ13_stringSize_95d88_53 ?_
      have h1 := Option.some.inj h
      subst h1
      exact W.iret (v := ((19 : Int32) + l2j0)) hx hb hr (fun t ht hW => ⟨⟨((19 : Int32) + l2j0), (), rfl, rfl, by rw [ht]; exact hP, va_K.moved hW.alike hK, hD⟩, hS.F ht⟩) hS.2.2 dJ13_stringSize_95d88_54
    have L0 : ∀ (K0 : Int64 → Int32 → Option Int32) (HX0 : ∀ (v3_0 : Int64) (v5_0 : Int32) (H : Heap) (locs : List Loc) (ls : Array Slot), va_P D vwCl ([] : va_W) H → va_D A ([] : va_W) → va_S A s.heap H locs → lv_has ls 6 [(0, .long l0j0), (2, .int l2j0), (3, .long v3_0), (5, .int v5_0)] → K0 v3_0 v5_0 = some r → G H locs 0 0 (F0 m 50 ls [])) (fu0 : Nat) (v3_0 : Int64) (v5_0 : Int32) (H : Heap) (locs : List Loc) (ls : Array Slot), va_P D vwCl ([] : va_W) H → va_D A ([] : va_W) → va_S A s.heap H locs → lv_has ls 6 [(0, .long l0j0), (2, .int l2j0), (3, .long v3_0), (5, .int v5_0)] → p_J13_stringSize_95d88_L0 F l0j0 l2j0 K0 fu0 v3_0 v5_0 = some r → G H locs 0 0 (F0 m 20 ls []) := by
      intro K0 HX0 fu0
      induction fu0 with
      | zero =>
        intro v3_0 v5_0 H locs ls hP hD hS hl h
        exact (zno h).elim
      | succ fu0 ih0 =>
        intro v3_0 v5_0 H locs ls hP hD hS hl h
        refine hG _ _ _ _ _ ?_
        unfold p_J13_stringSize_95d88_L0 at h
        refine lv_iload hx hb dJ13_stringSize_95d88_20 (lv_at hl 3 rfl) ?_
        refine lv_bipush (v := (19 : Int32)) hx hb dJ13_stringSize_95d88_22 (by decide) ?_
        refine lv_icmp_ge (tgt := 50) hx hb dJ13_stringSize_95d88_24 (by decide) (fun c24 => ?_) (fun c24 => ?_)
        · replace h := zif_t h c24
          exact hGW _ _ _ _ _ (HX0 v3_0 v5_0 _ _ ls hP hD hS (lv_sub hl [0, 1, 2, 3] rfl) h)
        · replace h := zif_f h c24
          refine lv_lload_n hx hb dJ13_stringSize_95d88_27 rfl (lv_at hl 0 rfl) ?_
          refine lv_lload_n hx hb dJ13_stringSize_95d88_28 rfl (lv_at hl 2 rfl) ?_
          refine W.lcmp hx hb dJ13_stringSize_95d88_29 ?_
          refine lv_if_le (tgt := 38) hx hb dJ13_stringSize_95d88_30 (by decide) (fun c30 => ?_) (fun c30 => ?_)
          · replace h := zif_t h c30
            refine lv_ldc2 hx hb hown kc_53 dJ13_stringSize_95d88_38 ?_
            refine lv_lload_n hx hb dJ13_stringSize_95d88_41 rfl (lv_at hl 2 rfl) ?_
            refine lv_lmul hx hb dJ13_stringSize_95d88_42 ?_
            refine lv_lstore_n (lv' := [(3, .long ((10 : Int64) * v3_0)), (0, .long l0j0), (2, .int l2j0), (5, .int v5_0)]) hx hb dJ13_stringSize_95d88_43 rfl hl (by decide) rfl (fun ls hl => ?_)
            refine lv_iinc (v := (v5_0 + (1 : Int32))) (lv' := [(5, .int (v5_0 + (1 : Int32))), (3, .long ((10 : Int64) * v3_0)), (0, .long l0j0), (2, .int l2j0)]) hx hb dJ13_stringSize_95d88_44 hl (k := 3) rfl rfl (by decide) rfl (fun ls hl => ?_)
            refine lv_goto (tgt := 20) hx hb dJ13_stringSize_95d88_47 (by decide) ?_
            exact hGW _ _ _ _ _ (ih0 ((10 : Int64) * v3_0) (v5_0 + (1 : Int32)) _ _ ls hP hD hS (lv_sub hl [2, 3, 1, 0] rfl) h)
          · replace h := zif_f h c30
            refine lv_iload hx hb dJ13_stringSize_95d88_33 (lv_at hl 3 rfl) ?_
            refine lv_iload_n hx hb dJ13_stringSize_95d88_35 rfl (lv_at hl 1 rfl) ?_
            refine lv_iadd hx hb dJ13_stringSize_95d88_36 ?_
            have h1 := Option.some.inj h
            subst h1
            exact W.iret (v := (v5_0 + l2j0)) hx hb hr (fun t ht hW => ⟨⟨(v5_0 + l2j0), (), rfl, rfl, by rw [ht]; exact hP, va_K.moved hW.alike hK, hD⟩, hS.F ht⟩) hS.2.2 dJ13_stringSize_95d88_37
    exact hGW _ _ _ _ _ (L0 _ X0 F (-10 : Int64) (1 : Int32) _ _ ls hP hD hS (lv_sub hl [2, 3, 1, 0] rfl) h)
  replace h := zlt_h h
  refine lv_if_lt (tgt := 13) hx hb dJ13_stringSize_95d88_5 (by decide) (fun c5 => ?_) (fun c5 => ?_)
  · replace h := zif_t h c5
    exact hGW _ _ _ _ _ (J0 p0 (1 : Int32) _ _ ls hP hD hS (lv_sub hl [1, 0] rfl) h)
  · replace h := zif_f h c5
    refine lv_iconst (v := (0 : Int32)) hx hb dJ13_stringSize_95d88_8 (by decide) ?_
    refine lv_istore_n (lv' := [(2, .int (0 : Int32)), (0, .long p0)]) hx hb dJ13_stringSize_95d88_9 rfl hl (by decide) rfl (fun ls hl => ?_)
    refine lv_lload_n hx hb dJ13_stringSize_95d88_10 rfl (lv_at hl 1 rfl) ?_
    refine lv_lneg hx hb dJ13_stringSize_95d88_11 ?_
    refine lv_lstore_n (lv' := [(0, .long (-p0)), (2, .int (0 : Int32))]) hx hb dJ13_stringSize_95d88_12 rfl hl (by decide) rfl (fun ls hl => ?_)
    exact hGW _ _ _ _ _ (J0 (-p0) (0 : Int32) _ _ ls hP hD hS (lv_sub hl [0, 1] rfl) h)

noncomputable def p_J6_stringSize_0f7a4_L0 (F : Nat) (l0j0 : Int32) (l1j0 : Int32) (k : Int32 → Int32 → Option Int32) : Nat → Int32 → Int32 → Option Int32
  | 0, _, _ => none
  | n + 1, v2_0, v3_0 => (if (10 : Int32) ≤ v3_0 then (k v2_0 v3_0) else (if l0j0 ≤ v2_0 then (p_J6_stringSize_0f7a4_L0 F l0j0 l1j0 k n ((10 : Int32) * v2_0) (v3_0 + (1 : Int32))) else (some (v3_0 + l1j0))))
noncomputable def p_J6_stringSize_0f7a4 (F : Nat) (p0 : Int32) : Option Int32 := (zlt (fun (l0j0 : Int32) (l1j0 : Int32) => (p_J6_stringSize_0f7a4_L0 F l0j0 l1j0 (fun v2_0 v3_0 => (some ((10 : Int32) + l1j0))) F (-10 : Int32) (1 : Int32))) (fun jf0 => (if p0 < 0 then (jf0 p0 (1 : Int32)) else (jf0 (-p0) (0 : Int32)))))
theorem hdS_J6_stringSize_0f7a4 : yJ6_stringSize_0f7a4.cls ≠ "java/lang/invoke/MethodHandle" ∧ yJ6_stringSize_0f7a4.cls ≠ "java/lang/invoke/VarHandle" ∧ (parseMethodDescriptor yJ6_stringSize_0f7a4.desc).map (fun d => d.parameters.length) = some 1 := by decide +kernel
set_option maxHeartbeats 4000000 in
set_option maxRecDepth 100000 in
theorem c_J6_stringSize_0f7a4 (l : Launch) (D : va_G) (tys : List (ClassId × FieldType)) (F : Nat) (p0 : Int32) (r : Int32) (h : p_J6_stringSize_0f7a4 F p0 = some r) : zMi l yJ6_stringSize_0f7a4 wsJ6_stringSize_0f7a4 0 0 0 0 D tys [.int p0] ([] : va_W) ([] : va_W) r := by
  intro sz
  delta zQi
  refine Met.ofW (cc := cJ6_stringSize_0f7a4) (maxL := 4) (ret := (some .int)) (by decide) rfl ?_
  intro p e s m args below meth c s₁ B hml hv
  obtain ⟨rfl, hsz, hP, hK, hD0⟩ := hv
  have hx := B.exec
  have hb := B.bytes
  have hr := B.returns
  have hts := atoms_spec (ws := wsJ6_stringSize_0f7a4) B.pre
  have hown : s.vm.findClass RJ6 = some m.cls := findClass_of_methodNamed B.named
  have hlocks := B.notSynchronized
  subst hsz
  have hD := hD0.self (sz := s.heap.size)
  generalize hAe : va_A ([] : va_W) s.heap.size = A at hD ⊢
  have hA : ∀ q : Nat, s.heap.size ≤ q → A q := fun q h => by rw [← hAe]; exact Or.inr h
  have hS : va_S A s.heap s.heap [] := va_S.rf
  have hl := lv_entry ([.int p0]) (n := 4) (Nat.le_of_ble_eq_true rfl)
  rw [lg_entry_eq]
  generalize (lg_sl ([.int p0]) ++ List.replicate (4 - (lg_sl ([.int p0])).length) Slot.unset).toArray = ls at hl ⊢
  replace hl : lv_has ls 4 [(0, .int p0)] := hl
  replace h : (zlt (fun (l0j0 : Int32) (l1j0 : Int32) => (p_J6_stringSize_0f7a4_L0 F l0j0 l1j0 (fun v2_0 v3_0 => (some ((10 : Int32) + l1j0))) F (-10 : Int32) (1 : Int32))) (fun jf0 => (if p0 < 0 then (jf0 p0 (1 : Int32)) else (jf0 (-p0) (0 : Int32))))) = some r := h
  refine zabs (fun G hG hGW => ?_)
  obtain ⟨H, hHe⟩ : ∃ H, H = s.heap := ⟨_, rfl⟩
  rw [← hHe] at hP
  replace hS : va_S A s.heap H [] := by rw [hHe]; exact hS
  refine zheap hHe ?_
  refine lv_iconst (v := (1 : Int32)) hx hb dJ6_stringSize_0f7a4_0 (by decide) ?_
  refine lv_istore_n (lv' := [(1, .int (1 : Int32)), (0, .int p0)]) hx hb dJ6_stringSize_0f7a4_1 rfl hl (by decide) rfl (fun ls hl => ?_)
  refine lv_iload_n hx hb dJ6_stringSize_0f7a4_2 rfl (lv_at hl 1 rfl) ?_
  have J0 : ∀ (l0j0 : Int32) (l1j0 : Int32) (H : Heap) (locs : List Loc) (ls : Array Slot), va_P D vwCl ([] : va_W) H → va_D A ([] : va_W) → va_S A s.heap H locs → lv_has ls 4 [(0, .int l0j0), (1, .int l1j0)] → (p_J6_stringSize_0f7a4_L0 F l0j0 l1j0 (fun v2_0 v3_0 => (some ((10 : Int32) + l1j0))) F (-10 : Int32) (1 : Int32)) = some r → G H locs 0 0 (F0 m 11 ls []) := by
    intro l0j0 l1j0 H locs ls hP hD hS hl h
    refine hG _ _ _ _ _ ?_
    refine lv_bipush (v := (-10 : Int32)) hx hb dJ6_stringSize_0f7a4_11 (by decide) ?_
    refine lv_istore_n (lv' := [(2, .int (-10 : Int32)), (0, .int l0j0), (1, .int l1j0)]) hx hb dJ6_stringSize_0f7a4_13 rfl hl (by decide) rfl (fun ls hl => ?_)
    refine lv_iconst (v := (1 : Int32)) hx hb dJ6_stringSize_0f7a4_14 (by decide) ?_
    refine lv_istore_n (lv' := [(3, .int (1 : Int32)), (2, .int (-10 : Int32)), (0, .int l0j0), (1, .int l1j0)]) hx hb dJ6_stringSize_0f7a4_15 rfl hl (by decide) rfl (fun ls hl => ?_)
    have X0 : ∀ (v2_0 : Int32) (v3_0 : Int32) (H : Heap) (locs : List Loc) (ls : Array Slot), va_P D vwCl ([] : va_W) H → va_D A ([] : va_W) → va_S A s.heap H locs → lv_has ls 4 [(0, .int l0j0), (1, .int l1j0), (2, .int v2_0), (3, .int v3_0)] → (some ((10 : Int32) + l1j0)) = some r → G H locs 0 0 (F0 m 42 ls []) := by
      intro v2_0 v3_0 H locs ls hP hD hS hl h
      refine hG _ _ _ _ _ ?_
      refine lv_bipush (v := (10 : Int32)) hx hb dJ6_stringSize_0f7a4_42 (by decide) ?_
      refine lv_iload_n hx hb dJ6_stringSize_0f7a4_44 rfl (lv_at hl 1 rfl) ?_
      refine lv_iadd hx hb dJ6_stringSize_0f7a4_45 ?_
      have h1 := Option.some.inj h
      subst h1
      exact W.iret (v := ((10 : Int32) + l1j0)) hx hb hr (fun t ht hW => ⟨⟨((10 : Int32) + l1j0), (), rfl, rfl, by rw [ht]; exact hP, va_K.moved hW.alike hK, hD⟩, hS.F ht⟩) hS.2.2 dJ6_stringSize_0f7a4_46
    have L0 : ∀ (K0 : Int32 → Int32 → Option Int32) (HX0 : ∀ (v2_0 : Int32) (v3_0 : Int32) (H : Heap) (locs : List Loc) (ls : Array Slot), va_P D vwCl ([] : va_W) H → va_D A ([] : va_W) → va_S A s.heap H locs → lv_has ls 4 [(0, .int l0j0), (1, .int l1j0), (2, .int v2_0), (3, .int v3_0)] → K0 v2_0 v3_0 = some r → G H locs 0 0 (F0 m 42 ls [])) (fu0 : Nat) (v2_0 : Int32) (v3_0 : Int32) (H : Heap) (locs : List Loc) (ls : Array Slot), va_P D vwCl ([] : va_W) H → va_D A ([] : va_W) → va_S A s.heap H locs → lv_has ls 4 [(0, .int l0j0), (1, .int l1j0), (2, .int v2_0), (3, .int v3_0)] → p_J6_stringSize_0f7a4_L0 F l0j0 l1j0 K0 fu0 v2_0 v3_0 = some r → G H locs 0 0 (F0 m 16 ls []) := by
      intro K0 HX0 fu0
      induction fu0 with
      | zero =>
        intro v2_0 v3_0 H locs ls hP hD hS hl h
        exact (zno h).elim
      | succ fu0 ih0 =>
        intro v2_0 v3_0 H locs ls hP hD hS hl h
        refine hG _ _ _ _ _ ?_
        unfold p_J6_stringSize_0f7a4_L0 at h
        refine lv_iload_n hx hb dJ6_stringSize_0f7a4_16 rfl (lv_at hl 3 rfl) ?_
        refine lv_bipush (v := (10 : Int32)) hx hb dJ6_stringSize_0f7a4_17 (by decide) ?_
        refine lv_icmp_ge (tgt := 42) hx hb dJ6_stringSize_0f7a4_19 (by decide) (fun c19 => ?_) (fun c19 => ?_)
        · replace h := zif_t h c19
          exact hGW _ _ _ _ _ (HX0 v2_0 v3_0 _ _ ls hP hD hS (lv_sub hl [0, 1, 2, 3] rfl) h)
        · replace h := zif_f h c19
          refine lv_iload_n hx hb dJ6_stringSize_0f7a4_22 rfl (lv_at hl 0 rfl) ?_
          refine lv_iload_n hx hb dJ6_stringSize_0f7a4_23 rfl (lv_at hl 2 rfl) ?_
          refine lv_icmp_le (tgt := 31) hx hb dJ6_stringSize_0f7a4_24 (by decide) (fun c24 => ?_) (fun c24 => ?_)
          · replace h := zif_t h c24
            refine lv_bipush (v := (10 : Int32)) hx hb dJ6_stringSize_0f7a4_31 (by decide) ?_
            refine lv_iload_n hx hb dJ6_stringSize_0f7a4_33 rfl (lv_at hl 2 rfl) ?_
            refine lv_imul hx hb dJ6_stringSize_0f7a4_34 ?_
            refine lv_istore_n (lv' := [(2, .int ((10 : Int32) * v2_0)), (0, .int l0j0), (1, .int l1j0), (3, .int v3_0)]) hx hb dJ6_stringSize_0f7a4_35 rfl hl (by decide) rfl (fun ls hl => ?_)
            refine lv_iinc (v := (v3_0 + (1 : Int32))) (lv' := [(3, .int (v3_0 + (1 : Int32))), (2, .int ((10 : Int32) * v2_0)), (0, .int l0j0), (1, .int l1j0)]) hx hb dJ6_stringSize_0f7a4_36 hl (k := 3) rfl rfl (by decide) rfl (fun ls hl => ?_)
            refine lv_goto (tgt := 16) hx hb dJ6_stringSize_0f7a4_39 (by decide) ?_
            exact hGW _ _ _ _ _ (ih0 ((10 : Int32) * v2_0) (v3_0 + (1 : Int32)) _ _ ls hP hD hS (lv_sub hl [2, 3, 1, 0] rfl) h)
          · replace h := zif_f h c24
            refine lv_iload_n hx hb dJ6_stringSize_0f7a4_27 rfl (lv_at hl 3 rfl) ?_
            refine lv_iload_n hx hb dJ6_stringSize_0f7a4_28 rfl (lv_at hl 1 rfl) ?_
            refine lv_iadd hx hb dJ6_stringSize_0f7a4_29 ?_
            have h1 := Option.some.inj h
            subst h1
            exact W.iret (v := (v3_0 + l1j0)) hx hb hr (fun t ht hW => ⟨⟨(v3_0 + l1j0), (), rfl, rfl, by rw [ht]; exact hP, va_K.moved hW.alike hK, hD⟩, hS.F ht⟩) hS.2.2 dJ6_stringSize_0f7a4_30
    exact hGW _ _ _ _ _ (L0 _ X0 F (-10 : Int32) (1 : Int32) _ _ ls hP hD hS (lv_sub hl [2, 3, 1, 0] rfl) h)
  replace h := zlt_h h
  refine lv_if_lt (tgt := 11) hx hb dJ6_stringSize_0f7a4_3 (by decide) (fun c3 => ?_) (fun c3 => ?_)
  · replace h := zif_t h c3
    exact hGW _ _ _ _ _ (J0 p0 (1 : Int32) _ _ ls hP hD hS (lv_sub hl [1, 0] rfl) h)
  · replace h := zif_f h c3
    refine lv_iconst (v := (0 : Int32)) hx hb dJ6_stringSize_0f7a4_6 (by decide) ?_
    refine lv_istore_n (lv' := [(1, .int (0 : Int32)), (0, .int p0)]) hx hb dJ6_stringSize_0f7a4_7 rfl hl (by decide) rfl (fun ls hl => ?_)
    refine lv_iload_n hx hb dJ6_stringSize_0f7a4_8 rfl (lv_at hl 1 rfl) ?_
    refine lv_ineg hx hb dJ6_stringSize_0f7a4_9 ?_
    refine lv_istore_n (lv' := [(0, .int (-p0)), (1, .int (0 : Int32))]) hx hb dJ6_stringSize_0f7a4_10 rfl hl (by decide) rfl (fun ls hl => ?_)
    exact hGW _ _ _ _ _ (J0 (-p0) (0 : Int32) _ _ ls hP hD hS (lv_sub hl [0, 1] rfl) h)

noncomputable def p_J1_canEncode_fc78d (p0 : Int32) : Option Bool := (if (255 : Int32) < p0 then (some false) else (some true))
theorem hdS_J1_canEncode_fc78d : yJ1_canEncode_fc78d.cls ≠ "java/lang/invoke/MethodHandle" ∧ yJ1_canEncode_fc78d.cls ≠ "java/lang/invoke/VarHandle" ∧ (parseMethodDescriptor yJ1_canEncode_fc78d.desc).map (fun d => d.parameters.length) = some 1 := by decide +kernel
set_option maxHeartbeats 4000000 in
set_option maxRecDepth 100000 in
theorem c_J1_canEncode_fc78d (l : Launch) (D : va_G) (tys : List (ClassId × FieldType)) (p0 : Int32) (r : Bool) (h : p_J1_canEncode_fc78d p0 = some r) : zMi l yJ1_canEncode_fc78d wsJ1_canEncode_fc78d 0 0 0 0 D tys [.int p0] ([] : va_W) ([] : va_W) (z01 r) := by
  intro sz
  delta zQi
  refine Met.ofW (cc := cJ1_canEncode_fc78d) (maxL := 1) (ret := (some .boolean)) (by decide) rfl ?_
  intro p e s m args below meth c s₁ B hml hv
  obtain ⟨rfl, hsz, hP, hK, hD0⟩ := hv
  have hx := B.exec
  have hb := B.bytes
  have hr := B.returns
  have hts := atoms_spec (ws := wsJ1_canEncode_fc78d) B.pre
  have hown : s.vm.findClass RJ1 = some m.cls := findClass_of_methodNamed B.named
  have hlocks := B.notSynchronized
  subst hsz
  have hD := hD0.self (sz := s.heap.size)
  generalize hAe : va_A ([] : va_W) s.heap.size = A at hD ⊢
  have hA : ∀ q : Nat, s.heap.size ≤ q → A q := fun q h => by rw [← hAe]; exact Or.inr h
  have hS : va_S A s.heap s.heap [] := va_S.rf
  have hl := lv_entry ([.int p0]) (n := 1) (Nat.le_of_ble_eq_true rfl)
  rw [lg_entry_eq]
  generalize (lg_sl ([.int p0]) ++ List.replicate (1 - (lg_sl ([.int p0])).length) Slot.unset).toArray = ls at hl ⊢
  replace hl : lv_has ls 1 [(0, .int p0)] := hl
  replace h : (if (255 : Int32) < p0 then (some false) else (some true)) = some r := h
  obtain ⟨H, hHe⟩ : ∃ H, H = s.heap := ⟨_, rfl⟩
  rw [← hHe] at hP
  replace hS : va_S A s.heap H [] := by rw [hHe]; exact hS
  refine zheap hHe ?_
  refine lv_iload_n hx hb dJ1_canEncode_fc78d_0 rfl (lv_at hl 0 rfl) ?_
  refine lv_sipush (v := (255 : Int32)) hx hb dJ1_canEncode_fc78d_1 (by decide) ?_
  refine lv_icmp_gt (tgt := 11) hx hb dJ1_canEncode_fc78d_4 (by decide) (fun c4 => ?_) (fun c4 => ?_)
  · replace h := zif_t h c4
    refine lv_iconst (v := (0 : Int32)) hx hb dJ1_canEncode_fc78d_11 (by decide) ?_
    have h1 := Option.some.inj h
    subst h1
    exact W.zret (v := (0 : Int32)) hx hb hr (z01_nar false) (fun t ht hW => ⟨⟨(0 : Int32), (), rfl, rfl, by rw [ht]; exact hP, va_K.moved hW.alike hK, hD⟩, hS.F ht⟩) hS.2.2 dJ1_canEncode_fc78d_12
  · replace h := zif_f h c4
    refine lv_iconst (v := (1 : Int32)) hx hb dJ1_canEncode_fc78d_7 (by decide) ?_
    refine lv_goto (tgt := 12) hx hb dJ1_canEncode_fc78d_8 (by decide) ?_
    have h1 := Option.some.inj h
    subst h1
    exact W.zret (v := (1 : Int32)) hx hb hr (z01_nar true) (fun t ht hW => ⟨⟨(1 : Int32), (), rfl, rfl, by rw [ht]; exact hP, va_K.moved hW.alike hK, hD⟩, hS.F ht⟩) hS.2.2 dJ1_canEncode_fc78d_12

noncomputable def p_J7_checkLength_df160 (p0 : Int32) (p1 : Int32) : Option Unit := (if p0 ≤ p1 then (some ()) else none)
theorem hdS_J7_checkLength_df160 : yJ7_checkLength_df160.cls ≠ "java/lang/invoke/MethodHandle" ∧ yJ7_checkLength_df160.cls ≠ "java/lang/invoke/VarHandle" ∧ (parseMethodDescriptor yJ7_checkLength_df160.desc).map (fun d => d.parameters.length) = some 2 := by decide +kernel
set_option maxHeartbeats 4000000 in
set_option maxRecDepth 100000 in
theorem c_J7_checkLength_df160 (l : Launch) (D : va_G) (tys : List (ClassId × FieldType)) (p0 : Int32) (p1 : Int32) (h : p_J7_checkLength_df160 p0 p1 = some ()) : zMv l yJ7_checkLength_df160 wsJ7_checkLength_df160 0 0 0 0 D tys [.int p0, .int p1] ([] : va_W) ([] : va_W) := by
  intro sz
  delta zQv
  refine Met.ofW (cc := cJ7_checkLength_df160) (maxL := 2) (ret := none) (by decide) rfl ?_
  intro p e s m args below meth c s₁ B hml hv
  obtain ⟨rfl, hsz, hP, hK, hD0⟩ := hv
  have hx := B.exec
  have hb := B.bytes
  have hr := B.returns
  have hts := atoms_spec (ws := wsJ7_checkLength_df160) B.pre
  have hown : s.vm.findClass RJ7 = some m.cls := findClass_of_methodNamed B.named
  have hlocks := B.notSynchronized
  subst hsz
  have hD := hD0.self (sz := s.heap.size)
  generalize hAe : va_A ([] : va_W) s.heap.size = A at hD ⊢
  have hA : ∀ q : Nat, s.heap.size ≤ q → A q := fun q h => by rw [← hAe]; exact Or.inr h
  have hS : va_S A s.heap s.heap [] := va_S.rf
  have hl := lv_entry ([.int p0, .int p1]) (n := 2) (Nat.le_of_ble_eq_true rfl)
  rw [lg_entry_eq]
  generalize (lg_sl ([.int p0, .int p1]) ++ List.replicate (2 - (lg_sl ([.int p0, .int p1])).length) Slot.unset).toArray = ls at hl ⊢
  replace hl : lv_has ls 2 [(0, .int p0), (1, .int p1)] := hl
  replace h : (if p0 ≤ p1 then (some ()) else none) = some () := h
  obtain ⟨H, hHe⟩ : ∃ H, H = s.heap := ⟨_, rfl⟩
  rw [← hHe] at hP
  replace hS : va_S A s.heap H [] := by rw [hHe]; exact hS
  refine zheap hHe ?_
  refine lv_iload_n hx hb dJ7_checkLength_df160_0 rfl (lv_at hl 1 rfl) ?_
  refine lv_iload_n hx hb dJ7_checkLength_df160_1 rfl (lv_at hl 0 rfl) ?_
  refine lv_icmp_ge (tgt := 37) hx hb dJ7_checkLength_df160_2 (by decide) (fun c2 => ?_) (fun c2 => ?_)
  · replace h := zif_t h c2
    exact W.vret hx hb hr (fun t ht hW => ⟨⟨(), rfl, trivial, by rw [ht]; exact hP, va_K.moved hW.alike hK, hD⟩, hS.F ht⟩) hS.2.2 dJ7_checkLength_df160_37
  · replace h := zif_f h c2
    exact (zno h).elim

noncomputable def p_J13_getChars_11360_L1 (F : Nat) (n2 : Nat) (k : Int32 → Int32 → (Nat → Int32) → Option (Int32 × (Nat → Int32))) : Nat → Int32 → Int32 → (Nat → Int32) → Option (Int32 × (Nat → Int32))
  | 0, _, _, _ => none
  | n + 1, v7_1, v10_1, f0_1 => (if (-100 : Int32) < v10_1 then (k v7_1 v10_1 f0_1) else (zg ((((v10_1 / (100 : Int32)) * (100 : Int32)) - v10_1) < 0 ∨ 100 ≤ (((v10_1 / (100 : Int32)) * (100 : Int32)) - v10_1).toNatClampNeg) (zg ((v7_1 + (-1 : Int32)) < 0 ∨ n2 ≤ (v7_1 + (-1 : Int32)).toNatClampNeg) (zg ((((v10_1 / (100 : Int32)) * (100 : Int32)) - v10_1) < 0 ∨ 100 ≤ (((v10_1 / (100 : Int32)) * (100 : Int32)) - v10_1).toNatClampNeg) (zg (((v7_1 + (-1 : Int32)) + (-1 : Int32)) < 0 ∨ n2 ≤ ((v7_1 + (-1 : Int32)) + (-1 : Int32)).toNatClampNeg) (p_J13_getChars_11360_L1 F n2 k n ((v7_1 + (-1 : Int32)) + (-1 : Int32)) (v10_1 / (100 : Int32)) (upd (upd f0_1 (v7_1 + (-1 : Int32)).toNatClampNeg (vp_nar .byte (zDO (((v10_1 / (100 : Int32)) * (100 : Int32)) - v10_1).toNatClampNeg))) ((v7_1 + (-1 : Int32)) + (-1 : Int32)).toNatClampNeg (vp_nar .byte (zDT (((v10_1 / (100 : Int32)) * (100 : Int32)) - v10_1).toNatClampNeg)))))))))
noncomputable def p_J13_getChars_11360_L0 (F : Nat) (n2 : Nat) (k : Int64 → Int32 → (Nat → Int32) → Option (Int32 × (Nat → Int32))) : Nat → Int64 → Int32 → (Nat → Int32) → Option (Int32 × (Nat → Int32))
  | 0, _, _, _ => none
  | n + 1, v0_0, v7_0, f0_0 => (if 0 < (lg_cmp v0_0 (-2147483648 : Int64)) then (k v0_0 v7_0 f0_0) else (zg (((((v0_0 / (100 : Int64)) * (100 : Int64)) - v0_0).toInt32) < 0 ∨ 100 ≤ ((((v0_0 / (100 : Int64)) * (100 : Int64)) - v0_0).toInt32).toNatClampNeg) (zg ((v7_0 + (-1 : Int32)) < 0 ∨ n2 ≤ (v7_0 + (-1 : Int32)).toNatClampNeg) (zg (((((v0_0 / (100 : Int64)) * (100 : Int64)) - v0_0).toInt32) < 0 ∨ 100 ≤ ((((v0_0 / (100 : Int64)) * (100 : Int64)) - v0_0).toInt32).toNatClampNeg) (zg (((v7_0 + (-1 : Int32)) + (-1 : Int32)) < 0 ∨ n2 ≤ ((v7_0 + (-1 : Int32)) + (-1 : Int32)).toNatClampNeg) (p_J13_getChars_11360_L0 F n2 k n (v0_0 / (100 : Int64)) ((v7_0 + (-1 : Int32)) + (-1 : Int32)) (upd (upd f0_0 (v7_0 + (-1 : Int32)).toNatClampNeg (vp_nar .byte (zDO ((((v0_0 / (100 : Int64)) * (100 : Int64)) - v0_0).toInt32).toNatClampNeg))) ((v7_0 + (-1 : Int32)) + (-1 : Int32)).toNatClampNeg (vp_nar .byte (zDT ((((v0_0 / (100 : Int64)) * (100 : Int64)) - v0_0).toInt32).toNatClampNeg)))))))))
noncomputable def p_J13_getChars_11360_L3 (F : Nat) (n2 : Nat) (k : Int32 → Int32 → (Nat → Int32) → Option (Int32 × (Nat → Int32))) : Nat → Int32 → Int32 → (Nat → Int32) → Option (Int32 × (Nat → Int32))
  | 0, _, _, _ => none
  | n + 1, v7_3, v10_3, f0_3 => (if (-100 : Int32) < v10_3 then (k v7_3 v10_3 f0_3) else (zg ((((v10_3 / (100 : Int32)) * (100 : Int32)) - v10_3) < 0 ∨ 100 ≤ (((v10_3 / (100 : Int32)) * (100 : Int32)) - v10_3).toNatClampNeg) (zg ((v7_3 + (-1 : Int32)) < 0 ∨ n2 ≤ (v7_3 + (-1 : Int32)).toNatClampNeg) (zg ((((v10_3 / (100 : Int32)) * (100 : Int32)) - v10_3) < 0 ∨ 100 ≤ (((v10_3 / (100 : Int32)) * (100 : Int32)) - v10_3).toNatClampNeg) (zg (((v7_3 + (-1 : Int32)) + (-1 : Int32)) < 0 ∨ n2 ≤ ((v7_3 + (-1 : Int32)) + (-1 : Int32)).toNatClampNeg) (p_J13_getChars_11360_L3 F n2 k n ((v7_3 + (-1 : Int32)) + (-1 : Int32)) (v10_3 / (100 : Int32)) (upd (upd f0_3 (v7_3 + (-1 : Int32)).toNatClampNeg (vp_nar .byte (zDO (((v10_3 / (100 : Int32)) * (100 : Int32)) - v10_3).toNatClampNeg))) ((v7_3 + (-1 : Int32)) + (-1 : Int32)).toNatClampNeg (vp_nar .byte (zDT (((v10_3 / (100 : Int32)) * (100 : Int32)) - v10_3).toNatClampNeg)))))))))
noncomputable def p_J13_getChars_11360_L2 (F : Nat) (n2 : Nat) (k : Int64 → Int32 → (Nat → Int32) → Option (Int32 × (Nat → Int32))) : Nat → Int64 → Int32 → (Nat → Int32) → Option (Int32 × (Nat → Int32))
  | 0, _, _, _ => none
  | n + 1, v0_2, v7_2, f0_2 => (if 0 < (lg_cmp v0_2 (-2147483648 : Int64)) then (k v0_2 v7_2 f0_2) else (zg (((((v0_2 / (100 : Int64)) * (100 : Int64)) - v0_2).toInt32) < 0 ∨ 100 ≤ ((((v0_2 / (100 : Int64)) * (100 : Int64)) - v0_2).toInt32).toNatClampNeg) (zg ((v7_2 + (-1 : Int32)) < 0 ∨ n2 ≤ (v7_2 + (-1 : Int32)).toNatClampNeg) (zg (((((v0_2 / (100 : Int64)) * (100 : Int64)) - v0_2).toInt32) < 0 ∨ 100 ≤ ((((v0_2 / (100 : Int64)) * (100 : Int64)) - v0_2).toInt32).toNatClampNeg) (zg (((v7_2 + (-1 : Int32)) + (-1 : Int32)) < 0 ∨ n2 ≤ ((v7_2 + (-1 : Int32)) + (-1 : Int32)).toNatClampNeg) (p_J13_getChars_11360_L2 F n2 k n (v0_2 / (100 : Int64)) ((v7_2 + (-1 : Int32)) + (-1 : Int32)) (upd (upd f0_2 (v7_2 + (-1 : Int32)).toNatClampNeg (vp_nar .byte (zDO ((((v0_2 / (100 : Int64)) * (100 : Int64)) - v0_2).toInt32).toNatClampNeg))) ((v7_2 + (-1 : Int32)) + (-1 : Int32)).toNatClampNeg (vp_nar .byte (zDT ((((v0_2 / (100 : Int64)) * (100 : Int64)) - v0_2).toInt32).toNatClampNeg)))))))))
noncomputable def p_J13_getChars_11360 (F : Nat) (p0 : Int64) (p1 : Int32) (n2 : Nat) (p2 : Nat → Int32) : Option (Int32 × (Nat → Int32)) := (zlt (fun (s0j0 : Bool) => (if ¬ (z01 s0j0) = 0 then (p_J13_getChars_11360_L0 F n2 (fun v0_0 v7_0 f0_0 => (p_J13_getChars_11360_L1 F n2 (fun v7_1 v10_1 f0_1 => (zg ((-v10_1) < 0 ∨ 100 ≤ (-v10_1).toNatClampNeg) (zg ((v7_1 + (-1 : Int32)) < 0 ∨ n2 ≤ (v7_1 + (-1 : Int32)).toNatClampNeg) (if (-9 : Int32) ≤ v10_1 then (if (z01 s0j0) = 0 then (some ((v7_1 + (-1 : Int32)), (upd f0_1 (v7_1 + (-1 : Int32)).toNatClampNeg (vp_nar .byte (zDO (-v10_1).toNatClampNeg))))) else (zg (((v7_1 + (-1 : Int32)) + (-1 : Int32)) < 0 ∨ n2 ≤ ((v7_1 + (-1 : Int32)) + (-1 : Int32)).toNatClampNeg) (some (((v7_1 + (-1 : Int32)) + (-1 : Int32)), (upd (upd f0_1 (v7_1 + (-1 : Int32)).toNatClampNeg (vp_nar .byte (zDO (-v10_1).toNatClampNeg))) ((v7_1 + (-1 : Int32)) + (-1 : Int32)).toNatClampNeg (vp_nar .byte (45 : Int32))))))) else (zg ((-v10_1) < 0 ∨ 100 ≤ (-v10_1).toNatClampNeg) (zg (((v7_1 + (-1 : Int32)) + (-1 : Int32)) < 0 ∨ n2 ≤ ((v7_1 + (-1 : Int32)) + (-1 : Int32)).toNatClampNeg) (if (z01 s0j0) = 0 then (some (((v7_1 + (-1 : Int32)) + (-1 : Int32)), (upd (upd f0_1 (v7_1 + (-1 : Int32)).toNatClampNeg (vp_nar .byte (zDO (-v10_1).toNatClampNeg))) ((v7_1 + (-1 : Int32)) + (-1 : Int32)).toNatClampNeg (vp_nar .byte (zDT (-v10_1).toNatClampNeg))))) else (zg ((((v7_1 + (-1 : Int32)) + (-1 : Int32)) + (-1 : Int32)) < 0 ∨ n2 ≤ (((v7_1 + (-1 : Int32)) + (-1 : Int32)) + (-1 : Int32)).toNatClampNeg) (some ((((v7_1 + (-1 : Int32)) + (-1 : Int32)) + (-1 : Int32)), (upd (upd (upd f0_1 (v7_1 + (-1 : Int32)).toNatClampNeg (vp_nar .byte (zDO (-v10_1).toNatClampNeg))) ((v7_1 + (-1 : Int32)) + (-1 : Int32)).toNatClampNeg (vp_nar .byte (zDT (-v10_1).toNatClampNeg))) (((v7_1 + (-1 : Int32)) + (-1 : Int32)) + (-1 : Int32)).toNatClampNeg (vp_nar .byte (45 : Int32))))))))))))) F v7_0 (v0_0.toInt32) f0_0)) F p0 p1 p2) else (p_J13_getChars_11360_L2 F n2 (fun v0_2 v7_2 f0_2 => (p_J13_getChars_11360_L3 F n2 (fun v7_3 v10_3 f0_3 => (zg ((-v10_3) < 0 ∨ 100 ≤ (-v10_3).toNatClampNeg) (zg ((v7_3 + (-1 : Int32)) < 0 ∨ n2 ≤ (v7_3 + (-1 : Int32)).toNatClampNeg) (if (-9 : Int32) ≤ v10_3 then (if (z01 s0j0) = 0 then (some ((v7_3 + (-1 : Int32)), (upd f0_3 (v7_3 + (-1 : Int32)).toNatClampNeg (vp_nar .byte (zDO (-v10_3).toNatClampNeg))))) else (zg (((v7_3 + (-1 : Int32)) + (-1 : Int32)) < 0 ∨ n2 ≤ ((v7_3 + (-1 : Int32)) + (-1 : Int32)).toNatClampNeg) (some (((v7_3 + (-1 : Int32)) + (-1 : Int32)), (upd (upd f0_3 (v7_3 + (-1 : Int32)).toNatClampNeg (vp_nar .byte (zDO (-v10_3).toNatClampNeg))) ((v7_3 + (-1 : Int32)) + (-1 : Int32)).toNatClampNeg (vp_nar .byte (45 : Int32))))))) else (zg ((-v10_3) < 0 ∨ 100 ≤ (-v10_3).toNatClampNeg) (zg (((v7_3 + (-1 : Int32)) + (-1 : Int32)) < 0 ∨ n2 ≤ ((v7_3 + (-1 : Int32)) + (-1 : Int32)).toNatClampNeg) (if (z01 s0j0) = 0 then (some (((v7_3 + (-1 : Int32)) + (-1 : Int32)), (upd (upd f0_3 (v7_3 + (-1 : Int32)).toNatClampNeg (vp_nar .byte (zDO (-v10_3).toNatClampNeg))) ((v7_3 + (-1 : Int32)) + (-1 : Int32)).toNatClampNeg (vp_nar .byte (zDT (-v10_3).toNatClampNeg))))) else (zg ((((v7_3 + (-1 : Int32)) + (-1 : Int32)) + (-1 : Int32)) < 0 ∨ n2 ≤ (((v7_3 + (-1 : Int32)) + (-1 : Int32)) + (-1 : Int32)).toNatClampNeg) (some ((((v7_3 + (-1 : Int32)) + (-1 : Int32)) + (-1 : Int32)), (upd (upd (upd f0_3 (v7_3 + (-1 : Int32)).toNatClampNeg (vp_nar .byte (zDO (-v10_3).toNatClampNeg))) ((v7_3 + (-1 : Int32)) + (-1 : Int32)).toNatClampNeg (vp_nar .byte (zDT (-v10_3).toNatClampNeg))) (((v7_3 + (-1 : Int32)) + (-1 : Int32)) + (-1 : Int32)).toNatClampNeg (vp_nar .byte (45 : Int32))))))))))))) F v7_2 (v0_2.toInt32) f0_2)) F (-p0) p1 p2))) (fun jf0 => (if 0 ≤ (lg_cmp p0 (0 : Int64)) then (jf0 false) else (jf0 true))))
theorem hdS_J13_getChars_11360 : yJ13_getChars_11360.cls ≠ "java/lang/invoke/MethodHandle" ∧ yJ13_getChars_11360.cls ≠ "java/lang/invoke/VarHandle" ∧ (parseMethodDescriptor yJ13_getChars_11360.desc).map (fun d => d.parameters.length) = some 3 := by decide +kernel
set_option maxHeartbeats 4000000 in
set_option maxRecDepth 100000 in
theorem c_J13_getChars_11360 (l : Launch) (D : va_G) (cJ cI cO cB : ClassId) (F : Nat) (p0 : Int64) (p1 : Int32) (t2 : Nat) (n2 : Nat) (p2 : Nat → Int32) (r : Int32) (T0' : Nat → Int32) (h : p_J13_getChars_11360 F p0 p1 n2 p2 = some (r, T0')) : zGi l yJ13_getChars_11360 wsJ13_getChars_11360 0 0 0 0 (zPx D (zT cJ cI cO cB) ([(t2, .inl (cB, n2, .inl p2))] : va_W)) [.long p0, .int p1, .ref t2] D (zT cJ cI cO cB) ([(t2, .inl (cB, n2, .inl p2))] : va_W) ([(t2, .inl (cB, n2, .inl T0'))] : va_W) r := by
  intro sz
  delta zQi
  refine Met.ofW (cc := cJ13_getChars_11360) (maxL := 11) (ret := (some .int)) (by decide) rfl ?_
  intro p e s m args below meth c s₁ B hml hv
  obtain ⟨rfl, ⟨hsz, hP, hK, hD0⟩, hE⟩ := hv
  have hx := B.exec
  have hb := B.bytes
  have hr := B.returns
  have hts := atoms_spec (ws := wsJ13_getChars_11360) B.pre
  have hown : s.vm.findClass RJ13 = some m.cls := findClass_of_methodNamed B.named
  have hlocks := B.notSynchronized
  subst hsz
  have hD := hD0.self (sz := s.heap.size)
  generalize hAe : va_A ([(t2, .inl (cB, n2, .inl p2))] : va_W) s.heap.size = A at hD hE ⊢
  have hA : ∀ q : Nat, s.heap.size ≤ q → A q := fun q h => by rw [← hAe]; exact Or.inr h
  have hS : va_S A s.heap s.heap [] := va_S.rf
  have hl := lv_entry ([.long p0, .int p1, .ref t2]) (n := 11) (Nat.le_of_ble_eq_true rfl)
  rw [lg_entry_eq]
  generalize (lg_sl ([.long p0, .int p1, .ref t2]) ++ List.replicate (11 - (lg_sl ([.long p0, .int p1, .ref t2])).length) Slot.unset).toArray = ls at hl ⊢
  replace hl : lv_has ls 11 [(0, .long p0), (2, .int p1), (3, .ref t2)] := hl
  obtain ⟨tT, tO, hTz, hTt, hOz, hOt⟩ := hE.2.2.2.2
  have kf_133 := hts (.fieldLink RJ13 133 "java/lang/Integer" "DigitOnes" "[B") (zmem 3 rfl)
  have kf_137 := hts (.fieldLink RJ13 137 "java/lang/Integer" "DigitTens" "[B") (zmem 4 rfl)
  have kc_129 := hts (.constantLong RJ13 129 (-2147483648)) (zmem 1 rfl)
  have kc_131 := hts (.constantLong RJ13 131 (100)) (zmem 2 rfl)
  replace h : (zlt (fun (s0j0 : Bool) => (if ¬ (z01 s0j0) = 0 then (p_J13_getChars_11360_L0 F n2 (fun v0_0 v7_0 f0_0 => (p_J13_getChars_11360_L1 F n2 (fun v7_1 v10_1 f0_1 => (zg ((-v10_1) < 0 ∨ 100 ≤ (-v10_1).toNatClampNeg) (zg ((v7_1 + (-1 : Int32)) < 0 ∨ n2 ≤ (v7_1 + (-1 : Int32)).toNatClampNeg) (if (-9 : Int32) ≤ v10_1 then (if (z01 s0j0) = 0 then (some ((v7_1 + (-1 : Int32)), (upd f0_1 (v7_1 + (-1 : Int32)).toNatClampNeg (vp_nar .byte (zDO (-v10_1).toNatClampNeg))))) else (zg (((v7_1 + (-1 : Int32)) + (-1 : Int32)) < 0 ∨ n2 ≤ ((v7_1 + (-1 : Int32)) + (-1 : Int32)).toNatClampNeg) (some (((v7_1 + (-1 : Int32)) + (-1 : Int32)), (upd (upd f0_1 (v7_1 + (-1 : Int32)).toNatClampNeg (vp_nar .byte (zDO (-v10_1).toNatClampNeg))) ((v7_1 + (-1 : Int32)) + (-1 : Int32)).toNatClampNeg (vp_nar .byte (45 : Int32))))))) else (zg ((-v10_1) < 0 ∨ 100 ≤ (-v10_1).toNatClampNeg) (zg (((v7_1 + (-1 : Int32)) + (-1 : Int32)) < 0 ∨ n2 ≤ ((v7_1 + (-1 : Int32)) + (-1 : Int32)).toNatClampNeg) (if (z01 s0j0) = 0 then (some (((v7_1 + (-1 : Int32)) + (-1 : Int32)), (upd (upd f0_1 (v7_1 + (-1 : Int32)).toNatClampNeg (vp_nar .byte (zDO (-v10_1).toNatClampNeg))) ((v7_1 + (-1 : Int32)) + (-1 : Int32)).toNatClampNeg (vp_nar .byte (zDT (-v10_1).toNatClampNeg))))) else (zg ((((v7_1 + (-1 : Int32)) + (-1 : Int32)) + (-1 : Int32)) < 0 ∨ n2 ≤ (((v7_1 + (-1 : Int32)) + (-1 : Int32)) + (-1 : Int32)).toNatClampNeg) (some ((((v7_1 + (-1 : Int32)) + (-1 : Int32)) + (-1 : Int32)), (upd (upd (upd f0_1 (v7_1 + (-1 : Int32)).toNatClampNeg (vp_nar .byte (zDO (-v10_1).toNatClampNeg))) ((v7_1 + (-1 : Int32)) + (-1 : Int32)).toNatClampNeg (vp_nar .byte (zDT (-v10_1).toNatClampNeg))) (((v7_1 + (-1 : Int32)) + (-1 : Int32)) + (-1 : Int32)).toNatClampNeg (vp_nar .byte (45 : Int32))))))))))))) F v7_0 (v0_0.toInt32) f0_0)) F p0 p1 p2) else (p_J13_getChars_11360_L2 F n2 (fun v0_2 v7_2 f0_2 => (p_J13_getChars_11360_L3 F n2 (fun v7_3 v10_3 f0_3 => (zg ((-v10_3) < 0 ∨ 100 ≤ (-v10_3).toNatClampNeg) (zg ((v7_3 + (-1 : Int32)) < 0 ∨ n2 ≤ (v7_3 + (-1 : Int32)).toNatClampNeg) (if (-9 : Int32) ≤ v10_3 then (if (z01 s0j0) = 0 then (some ((v7_3 + (-1 : Int32)), (upd f0_3 (v7_3 + (-1 : Int32)).toNatClampNeg (vp_nar .byte (zDO (-v10_3).toNatClampNeg))))) else (zg (((v7_3 + (-1 : Int32)) + (-1 : Int32)) < 0 ∨ n2 ≤ ((v7_3 + (-1 : Int32)) + (-1 : Int32)).toNatClampNeg) (some (((v7_3 + (-1 : Int32)) + (-1 : Int32)), (upd (upd f0_3 (v7_3 + (-1 : Int32)).toNatClampNeg (vp_nar .byte (zDO (-v10_3).toNatClampNeg))) ((v7_3 + (-1 : Int32)) + (-1 : Int32)).toNatClampNeg (vp_nar .byte (45 : Int32))))))) else (zg ((-v10_3) < 0 ∨ 100 ≤ (-v10_3).toNatClampNeg) (zg (((v7_3 + (-1 : Int32)) + (-1 : Int32)) < 0 ∨ n2 ≤ ((v7_3 + (-1 : Int32)) + (-1 : Int32)).toNatClampNeg) (if (z01 s0j0) = 0 then (some (((v7_3 + (-1 : Int32)) + (-1 : Int32)), (upd (upd f0_3 (v7_3 + (-1 : Int32)).toNatClampNeg (vp_nar .byte (zDO (-v10_3).toNatClampNeg))) ((v7_3 + (-1 : Int32)) + (-1 : Int32)).toNatClampNeg (vp_nar .byte (zDT (-v10_3).toNatClampNeg))))) else (zg ((((v7_3 + (-1 : Int32)) + (-1 : Int32)) + (-1 : Int32)) < 0 ∨ n2 ≤ (((v7_3 + (-1 : Int32)) + (-1 : Int32)) + (-1 : Int32)).toNatClampNeg) (some ((((v7_3 + (-1 : Int32)) + (-1 : Int32)) + (-1 : Int32)), (upd (upd (upd f0_3 (v7_3 + (-1 : Int32)).toNatClampNeg (vp_nar .byte (zDO (-v10_3).toNatClampNeg))) ((v7_3 + (-1 : Int32)) + (-1 : Int32)).toNatClampNeg (vp_nar .byte (zDT (-v10_3).toNatClampNeg))) (((v7_3 + (-1 : Int32)) + (-1 : Int32)) + (-1 : Int32)).toNatClampNeg (vp_nar .byte (45 : Int32))))))))))))) F v7_2 (v0_2.toInt32) f0_2)) F (-p0) p1 p2))) (fun jf0 => (if 0 ≤ (lg_cmp p0 (0 : Int64)) then (jf0 false) else (jf0 true)))) = some (r, T0') := h
  refine zabs (fun G hG hGW => ?_)
  obtain ⟨H, hHe⟩ : ∃ H, H = s.heap := ⟨_, rfl⟩
  rw [← hHe] at hP
  replace hS : va_S A s.heap H [] := by rw [hHe]; exact hS
  refine zheap hHe ?_
  refine lv_iload_n hx hb dJ13_getChars_11360_0 rfl (lv_at hl 1 rfl) ?_
  refine lv_istore (lv' := [(7, .int p1), (0, .long p0), (2, .int p1), (3, .ref t2)]) hx hb dJ13_getChars_11360_1 hl (by decide) rfl (fun ls hl => ?_)
  refine lv_lload_n hx hb dJ13_getChars_11360_3 rfl (lv_at hl 1 rfl) ?_
  refine lv_lconst (v := (0 : Int64)) hx hb dJ13_getChars_11360_4 (by decide) ?_
  refine W.lcmp hx hb dJ13_getChars_11360_5 ?_
  have J0 : ∀ (s0j0 : Bool) (H : Heap) (locs : List Loc) (ls : Array Slot), va_P D vwCl ([(t2, .inl (cB, n2, .inl p2))] : va_W) H → va_D A ([(t2, .inl (cB, n2, .inl p2))] : va_W) → va_S A s.heap H locs → lv_has ls 11 [(0, .long p0), (2, .int p1), (3, .ref t2), (7, .int p1)] → (if ¬ (z01 s0j0) = 0 then (p_J13_getChars_11360_L0 F n2 (fun v0_0 v7_0 f0_0 => (p_J13_getChars_11360_L1 F n2 (fun v7_1 v10_1 f0_1 => (zg ((-v10_1) < 0 ∨ 100 ≤ (-v10_1).toNatClampNeg) (zg ((v7_1 + (-1 : Int32)) < 0 ∨ n2 ≤ (v7_1 + (-1 : Int32)).toNatClampNeg) (if (-9 : Int32) ≤ v10_1 then (if (z01 s0j0) = 0 then (some ((v7_1 + (-1 : Int32)), (upd f0_1 (v7_1 + (-1 : Int32)).toNatClampNeg (vp_nar .byte (zDO (-v10_1).toNatClampNeg))))) else (zg (((v7_1 + (-1 : Int32)) + (-1 : Int32)) < 0 ∨ n2 ≤ ((v7_1 + (-1 : Int32)) + (-1 : Int32)).toNatClampNeg) (some (((v7_1 + (-1 : Int32)) + (-1 : Int32)), (upd (upd f0_1 (v7_1 + (-1 : Int32)).toNatClampNeg (vp_nar .byte (zDO (-v10_1).toNatClampNeg))) ((v7_1 + (-1 : Int32)) + (-1 : Int32)).toNatClampNeg (vp_nar .byte (45 : Int32))))))) else (zg ((-v10_1) < 0 ∨ 100 ≤ (-v10_1).toNatClampNeg) (zg (((v7_1 + (-1 : Int32)) + (-1 : Int32)) < 0 ∨ n2 ≤ ((v7_1 + (-1 : Int32)) + (-1 : Int32)).toNatClampNeg) (if (z01 s0j0) = 0 then (some (((v7_1 + (-1 : Int32)) + (-1 : Int32)), (upd (upd f0_1 (v7_1 + (-1 : Int32)).toNatClampNeg (vp_nar .byte (zDO (-v10_1).toNatClampNeg))) ((v7_1 + (-1 : Int32)) + (-1 : Int32)).toNatClampNeg (vp_nar .byte (zDT (-v10_1).toNatClampNeg))))) else (zg ((((v7_1 + (-1 : Int32)) + (-1 : Int32)) + (-1 : Int32)) < 0 ∨ n2 ≤ (((v7_1 + (-1 : Int32)) + (-1 : Int32)) + (-1 : Int32)).toNatClampNeg) (some ((((v7_1 + (-1 : Int32)) + (-1 : Int32)) + (-1 : Int32)), (upd (upd (upd f0_1 (v7_1 + (-1 : Int32)).toNatClampNeg (vp_nar .byte (zDO (-v10_1).toNatClampNeg))) ((v7_1 + (-1 : Int32)) + (-1 : Int32)).toNatClampNeg (vp_nar .byte (zDT (-v10_1).toNatClampNeg))) (((v7_1 + (-1 : Int32)) + (-1 : Int32)) + (-1 : Int32)).toNatClampNeg (vp_nar .byte (45 : Int32))))))))))))) F v7_0 (v0_0.toInt32) f0_0)) F p0 p1 p2) else (p_J13_getChars_11360_L2 F n2 (fun v0_2 v7_2 f0_2 => (p_J13_getChars_11360_L3 F n2 (fun v7_3 v10_3 f0_3 => (zg ((-v10_3) < 0 ∨ 100 ≤ (-v10_3).toNatClampNeg) (zg ((v7_3 + (-1 : Int32)) < 0 ∨ n2 ≤ (v7_3 + (-1 : Int32)).toNatClampNeg) (if (-9 : Int32) ≤ v10_3 then (if (z01 s0j0) = 0 then (some ((v7_3 + (-1 : Int32)), (upd f0_3 (v7_3 + (-1 : Int32)).toNatClampNeg (vp_nar .byte (zDO (-v10_3).toNatClampNeg))))) else (zg (((v7_3 + (-1 : Int32)) + (-1 : Int32)) < 0 ∨ n2 ≤ ((v7_3 + (-1 : Int32)) + (-1 : Int32)).toNatClampNeg) (some (((v7_3 + (-1 : Int32)) + (-1 : Int32)), (upd (upd f0_3 (v7_3 + (-1 : Int32)).toNatClampNeg (vp_nar .byte (zDO (-v10_3).toNatClampNeg))) ((v7_3 + (-1 : Int32)) + (-1 : Int32)).toNatClampNeg (vp_nar .byte (45 : Int32))))))) else (zg ((-v10_3) < 0 ∨ 100 ≤ (-v10_3).toNatClampNeg) (zg (((v7_3 + (-1 : Int32)) + (-1 : Int32)) < 0 ∨ n2 ≤ ((v7_3 + (-1 : Int32)) + (-1 : Int32)).toNatClampNeg) (if (z01 s0j0) = 0 then (some (((v7_3 + (-1 : Int32)) + (-1 : Int32)), (upd (upd f0_3 (v7_3 + (-1 : Int32)).toNatClampNeg (vp_nar .byte (zDO (-v10_3).toNatClampNeg))) ((v7_3 + (-1 : Int32)) + (-1 : Int32)).toNatClampNeg (vp_nar .byte (zDT (-v10_3).toNatClampNeg))))) else (zg ((((v7_3 + (-1 : Int32)) + (-1 : Int32)) + (-1 : Int32)) < 0 ∨ n2 ≤ (((v7_3 + (-1 : Int32)) + (-1 : Int32)) + (-1 : Int32)).toNatClampNeg) (some ((((v7_3 + (-1 : Int32)) + (-1 : Int32)) + (-1 : Int32)), (upd (upd (upd f0_3 (v7_3 + (-1 : Int32)).toNatClampNeg (vp_nar .byte (zDO (-v10_3).toNatClampNeg))) ((v7_3 + (-1 : Int32)) + (-1 : Int32)).toNatClampNeg (vp_nar .byte (zDT (-v10_3).toNatClampNeg))) (((v7_3 + (-1 : Int32)) + (-1 : Int32)) + (-1 : Int32)).toNatClampNeg (vp_nar .byte (45 : Int32))))))))))))) F v7_2 (v0_2.toInt32) f0_2)) F (-p0) p1 p2)) = some (r, T0') → G H locs 0 0 (F0 m 14 ls [.int (z01 s0j0)]) := by
    intro s0j0 H locs ls hP hD hS hl h
    refine hG _ _ _ _ _ ?_
    refine lv_istore (lv' := [(8, .int (z01 s0j0)), (0, .long p0), (2, .int p1), (3, .ref t2), (7, .int p1)]) hx hb dJ13_getChars_11360_14 hl (by decide) rfl (fun ls hl => ?_)
    refine lv_iload hx hb dJ13_getChars_11360_16 (lv_at hl 0 rfl) ?_
    refine lv_if_ne (tgt := 24) hx hb dJ13_getChars_11360_18 (by decide) (fun c18 => ?_) (fun c18 => ?_)
    · replace h := zif_t h c18
      have X0 : ∀ (v0_0 : Int64) (v7_0 : Int32) (f0_0 : Nat → Int32) (H : Heap) (locs : List Loc) (ls : Array Slot), va_P D vwCl ([(t2, .inl (cB, n2, .inl f0_0))] : va_W) H → va_D A ([(t2, .inl (cB, n2, .inl f0_0))] : va_W) → va_S A s.heap H locs → lv_has ls 11 [(0, .long v0_0), (2, .int p1), (3, .ref t2), (7, .int v7_0), (8, .int (z01 s0j0))] → (p_J13_getChars_11360_L1 F n2 (fun v7_1 v10_1 f0_1 => (zg ((-v10_1) < 0 ∨ 100 ≤ (-v10_1).toNatClampNeg) (zg ((v7_1 + (-1 : Int32)) < 0 ∨ n2 ≤ (v7_1 + (-1 : Int32)).toNatClampNeg) (if (-9 : Int32) ≤ v10_1 then (if (z01 s0j0) = 0 then (some ((v7_1 + (-1 : Int32)), (upd f0_1 (v7_1 + (-1 : Int32)).toNatClampNeg (vp_nar .byte (zDO (-v10_1).toNatClampNeg))))) else (zg (((v7_1 + (-1 : Int32)) + (-1 : Int32)) < 0 ∨ n2 ≤ ((v7_1 + (-1 : Int32)) + (-1 : Int32)).toNatClampNeg) (some (((v7_1 + (-1 : Int32)) + (-1 : Int32)), (upd (upd f0_1 (v7_1 + (-1 : Int32)).toNatClampNeg (vp_nar .byte (zDO (-v10_1).toNatClampNeg))) ((v7_1 + (-1 : Int32)) + (-1 : Int32)).toNatClampNeg (vp_nar .byte (45 : Int32))))))) else (zg ((-v10_1) < 0 ∨ 100 ≤ (-v10_1).toNatClampNeg) (zg (((v7_1 + (-1 : Int32)) + (-1 : Int32)) < 0 ∨ n2 ≤ ((v7_1 + (-1 : Int32)) + (-1 : Int32)).toNatClampNeg) (if (z01 s0j0) = 0 then (some (((v7_1 + (-1 : Int32)) + (-1 : Int32)), (upd (upd f0_1 (v7_1 + (-1 : Int32)).toNatClampNeg (vp_nar .byte (zDO (-v10_1).toNatClampNeg))) ((v7_1 + (-1 : Int32)) + (-1 : Int32)).toNatClampNeg (vp_nar .byte (zDT (-v10_1).toNatClampNeg))))) else (zg ((((v7_1 + (-1 : Int32)) + (-1 : Int32)) + (-1 : Int32)) < 0 ∨ n2 ≤ (((v7_1 + (-1 : Int32)) + (-1 : Int32)) + (-1 : Int32)).toNatClampNeg) (some ((((v7_1 + (-1 : Int32)) + (-1 : Int32)) + (-1 : Int32)), (upd (upd (upd f0_1 (v7_1 + (-1 : Int32)).toNatClampNeg (vp_nar .byte (zDO (-v10_1).toNatClampNeg))) ((v7_1 + (-1 : Int32)) + (-1 : Int32)).toNatClampNeg (vp_nar .byte (zDT (-v10_1).toNatClampNeg))) (((v7_1 + (-1 : Int32)) + (-1 : Int32)) + (-1 : Int32)).toNatClampNeg (vp_nar .byte (45 : Int32))))))))))))) F v7_0 (v0_0.toInt32) f0_0) = some (r, T0') → G H locs 0 0 (F0 m 82 ls []) := by
        intro v0_0 v7_0 f0_0 H locs ls hP hD hS hl h
        refine hG _ _ _ _ _ ?_
        refine lv_lload_n hx hb dJ13_getChars_11360_82 rfl (lv_at hl 0 rfl) ?_
        refine lv_l2i (v := v0_0.toInt32) hx hb dJ13_getChars_11360_83 rfl ?_
        refine lv_istore (lv' := [(10, .int (v0_0.toInt32)), (0, .long v0_0), (2, .int p1), (3, .ref t2), (7, .int v7_0), (8, .int (z01 s0j0))]) hx hb dJ13_getChars_11360_84 hl (by decide) rfl (fun ls hl => ?_)
        have X1 : ∀ (v7_1 : Int32) (v10_1 : Int32) (f0_1 : Nat → Int32) (H : Heap) (locs : List Loc) (ls : Array Slot), va_P D vwCl ([(t2, .inl (cB, n2, .inl f0_1))] : va_W) H → va_D A ([(t2, .inl (cB, n2, .inl f0_1))] : va_W) → va_S A s.heap H locs → lv_has ls 11 [(0, .long v0_0), (2, .int p1), (3, .ref t2), (7, .int v7_1), (8, .int (z01 s0j0)), (10, .int v10_1)] → (zg ((-v10_1) < 0 ∨ 100 ≤ (-v10_1).toNatClampNeg) (zg ((v7_1 + (-1 : Int32)) < 0 ∨ n2 ≤ (v7_1 + (-1 : Int32)).toNatClampNeg) (if (-9 : Int32) ≤ v10_1 then (if (z01 s0j0) = 0 then (some ((v7_1 + (-1 : Int32)), (upd f0_1 (v7_1 + (-1 : Int32)).toNatClampNeg (vp_nar .byte (zDO (-v10_1).toNatClampNeg))))) else (zg (((v7_1 + (-1 : Int32)) + (-1 : Int32)) < 0 ∨ n2 ≤ ((v7_1 + (-1 : Int32)) + (-1 : Int32)).toNatClampNeg) (some (((v7_1 + (-1 : Int32)) + (-1 : Int32)), (upd (upd f0_1 (v7_1 + (-1 : Int32)).toNatClampNeg (vp_nar .byte (zDO (-v10_1).toNatClampNeg))) ((v7_1 + (-1 : Int32)) + (-1 : Int32)).toNatClampNeg (vp_nar .byte (45 : Int32))))))) else (zg ((-v10_1) < 0 ∨ 100 ≤ (-v10_1).toNatClampNeg) (zg (((v7_1 + (-1 : Int32)) + (-1 : Int32)) < 0 ∨ n2 ≤ ((v7_1 + (-1 : Int32)) + (-1 : Int32)).toNatClampNeg) (if (z01 s0j0) = 0 then (some (((v7_1 + (-1 : Int32)) + (-1 : Int32)), (upd (upd f0_1 (v7_1 + (-1 : Int32)).toNatClampNeg (vp_nar .byte (zDO (-v10_1).toNatClampNeg))) ((v7_1 + (-1 : Int32)) + (-1 : Int32)).toNatClampNeg (vp_nar .byte (zDT (-v10_1).toNatClampNeg))))) else (zg ((((v7_1 + (-1 : Int32)) + (-1 : Int32)) + (-1 : Int32)) < 0 ∨ n2 ≤ (((v7_1 + (-1 : Int32)) + (-1 : Int32)) + (-1 : Int32)).toNatClampNeg) (some ((((v7_1 + (-1 : Int32)) + (-1 : Int32)) + (-1 : Int32)), (upd (upd (upd f0_1 (v7_1 + (-1 : Int32)).toNatClampNeg (vp_nar .byte (zDO (-v10_1).toNatClampNeg))) ((v7_1 + (-1 : Int32)) + (-1 : Int32)).toNatClampNeg (vp_nar .byte (zDT (-v10_1).toNatClampNeg))) (((v7_1 + (-1 : Int32)) + (-1 : Int32)) + (-1 : Int32)).toNatClampNeg (vp_nar .byte (45 : Int32)))))))))))) = some (r, T0') → G H locs 0 0 (F0 m 143 ls []) := by
          intro v7_1 v10_1 f0_1 H locs ls hP hD hS hl h
          refine hG _ _ _ _ _ ?_
          refine lv_aload_n hx hb dJ13_getChars_11360_143 rfl (lv_at hl 2 rfl) ?_
          refine lv_iinc (v := (v7_1 + (-1 : Int32))) (lv' := [(7, .int (v7_1 + (-1 : Int32))), (0, .long v0_0), (2, .int p1), (3, .ref t2), (8, .int (z01 s0j0)), (10, .int v10_1)]) hx hb dJ13_getChars_11360_144 hl (k := 3) rfl rfl (by decide) rfl (fun ls hl => ?_)
          refine lv_iload hx hb dJ13_getChars_11360_147 (lv_at hl 0 rfl) ?_
          refine va_gets hx hb hOz hS hown kf_133 (fun _ h9 => h9) dJ13_getChars_11360_149 ?_
          refine lv_iload hx hb dJ13_getChars_11360_152 (lv_at hl 5 rfl) ?_
          refine lv_ineg hx hb dJ13_getChars_11360_154 ?_
          obtain ⟨z155, h⟩ := zg_some h
          refine va_tb hx hb hOt hS z155 (v := .int (zDO (-v10_1).toNatClampNeg)) rfl dJ13_getChars_11360_155 ?_
          obtain ⟨z156, h⟩ := zg_some h
          refine va_bast hx hb hK hP hD hS 0 3 rfl rfl z156 dJ13_getChars_11360_156 (fun H locs hP hD hS => ?_)
          replace hP : va_P D vwCl ([(t2, .inl (cB, n2, .inl (upd f0_1 (v7_1 + (-1 : Int32)).toNatClampNeg (vp_nar .byte (zDO (-v10_1).toNatClampNeg)))))] : va_W) H := hP
          replace hD : va_D A ([(t2, .inl (cB, n2, .inl (upd f0_1 (v7_1 + (-1 : Int32)).toNatClampNeg (vp_nar .byte (zDO (-v10_1).toNatClampNeg)))))] : va_W) := hD
          refine lv_iload hx hb dJ13_getChars_11360_157 (lv_at hl 5 rfl) ?_
          refine lv_bipush (v := (-9 : Int32)) hx hb dJ13_getChars_11360_159 (by decide) ?_
          refine lv_icmp_ge (tgt := 178) hx hb dJ13_getChars_11360_161 (by decide) (fun c161 => ?_) (fun c161 => ?_)
          · replace h := zif_t h c161
            refine lv_iload hx hb dJ13_getChars_11360_178 (lv_at hl 4 rfl) ?_
            refine lv_if_eq (tgt := 192) hx hb dJ13_getChars_11360_180 (by decide) (fun c180 => ?_) (fun c180 => ?_)
            · replace h := zif_t h c180
              refine lv_iload hx hb dJ13_getChars_11360_192 (lv_at hl 0 rfl) ?_
              have g0 := Option.some.inj h
              obtain ⟨h1, g1⟩ := Prod.mk.inj g0
              subst h1
              subst g1
              exact W.iret (v := (v7_1 + (-1 : Int32))) hx hb hr (fun t ht hW => ⟨⟨(v7_1 + (-1 : Int32)), (), rfl, rfl, by rw [ht]; exact hP, va_K.moved hW.alike hK, hD⟩, hS.F ht⟩) hS.2.2 dJ13_getChars_11360_194
            · replace h := zif_f h c180
              refine lv_aload_n hx hb dJ13_getChars_11360_183 rfl (lv_at hl 3 rfl) ?_
              refine lv_iinc (v := ((v7_1 + (-1 : Int32)) + (-1 : Int32))) (lv' := [(7, .int ((v7_1 + (-1 : Int32)) + (-1 : Int32))), (0, .long v0_0), (2, .int p1), (3, .ref t2), (8, .int (z01 s0j0)), (10, .int v10_1)]) hx hb dJ13_getChars_11360_184 hl (k := 0) rfl rfl (by decide) rfl (fun ls hl => ?_)
              refine lv_iload hx hb dJ13_getChars_11360_187 (lv_at hl 0 rfl) ?_
              refine lv_bipush (v := (45 : Int32)) hx hb dJ13_getChars_11360_189 (by decide) ?_
              obtain ⟨z191, h⟩ := zg_some h
              refine va_bast hx hb hK hP hD hS 0 3 rfl rfl z191 dJ13_getChars_11360_191 (fun H locs hP hD hS => ?_)
              replace hP : va_P D vwCl ([(t2, .inl (cB, n2, .inl (upd (upd f0_1 (v7_1 + (-1 : Int32)).toNatClampNeg (vp_nar .byte (zDO (-v10_1).toNatClampNeg))) ((v7_1 + (-1 : Int32)) + (-1 : Int32)).toNatClampNeg (vp_nar .byte (45 : Int32)))))] : va_W) H := hP
              replace hD : va_D A ([(t2, .inl (cB, n2, .inl (upd (upd f0_1 (v7_1 + (-1 : Int32)).toNatClampNeg (vp_nar .byte (zDO (-v10_1).toNatClampNeg))) ((v7_1 + (-1 : Int32)) + (-1 : Int32)).toNatClampNeg (vp_nar .byte (45 : Int32)))))] : va_W) := hD
              refine lv_iload hx hb dJ13_getChars_11360_192 (lv_at hl 0 rfl) ?_
              have g0 := Option.some.inj h
              obtain ⟨h1, g1⟩ := Prod.mk.inj g0
              subst h1
              subst g1
              exact W.iret (v := ((v7_1 + (-1 : Int32)) + (-1 : Int32))) hx hb hr (fun t ht hW => ⟨⟨((v7_1 + (-1 : Int32)) + (-1 : Int32)), (), rfl, rfl, by rw [ht]; exact hP, va_K.moved hW.alike hK, hD⟩, hS.F ht⟩) hS.2.2 dJ13_getChars_11360_194
          · replace h := zif_f h c161
            refine lv_aload_n hx hb dJ13_getChars_11360_164 rfl (lv_at hl 3 rfl) ?_
            refine lv_iinc (v := ((v7_1 + (-1 : Int32)) + (-1 : Int32))) (lv' := [(7, .int ((v7_1 + (-1 : Int32)) + (-1 : Int32))), (0, .long v0_0), (2, .int p1), (3, .ref t2), (8, .int (z01 s0j0)), (10, .int v10_1)]) hx hb dJ13_getChars_11360_165 hl (k := 0) rfl rfl (by decide) rfl (fun ls hl => ?_)
            refine lv_iload hx hb dJ13_getChars_11360_168 (lv_at hl 0 rfl) ?_
            refine va_gets hx hb hTz hS hown kf_137 (fun _ h9 => h9) dJ13_getChars_11360_170 ?_
            refine lv_iload hx hb dJ13_getChars_11360_173 (lv_at hl 5 rfl) ?_
            refine lv_ineg hx hb dJ13_getChars_11360_175 ?_
            obtain ⟨z176, h⟩ := zg_some h
            refine va_tb hx hb hTt hS z176 (v := .int (zDT (-v10_1).toNatClampNeg)) rfl dJ13_getChars_11360_176 ?_
            obtain ⟨z177, h⟩ := zg_some h
            refine va_bast hx hb hK hP hD hS 0 3 rfl rfl z177 dJ13_getChars_11360_177 (fun H locs hP hD hS => ?_)
            replace hP : va_P D vwCl ([(t2, .inl (cB, n2, .inl (upd (upd f0_1 (v7_1 + (-1 : Int32)).toNatClampNeg (vp_nar .byte (zDO (-v10_1).toNatClampNeg))) ((v7_1 + (-1 : Int32)) + (-1 : Int32)).toNatClampNeg (vp_nar .byte (zDT (-v10_1).toNatClampNeg)))))] : va_W) H := hP
            replace hD : va_D A ([(t2, .inl (cB, n2, .inl (upd (upd f0_1 (v7_1 + (-1 : Int32)).toNatClampNeg (vp_nar .byte (zDO (-v10_1).toNatClampNeg))) ((v7_1 + (-1 : Int32)) + (-1 : Int32)).toNatClampNeg (vp_nar .byte (zDT (-v10_1).toNatClampNeg)))))] : va_W) := hD
            refine lv_iload hx hb dJ13_getChars_11360_178 (lv_at hl 4 rfl) ?_
            refine lv_if_eq (tgt := 192) hx hb dJ13_getChars_11360_180 (by decide) (fun c180 => ?_) (fun c180 => ?_)
            · replace h := zif_t h c180
              refine lv_iload hx hb dJ13_getChars_11360_192 (lv_at hl 0 rfl) ?_
              have g0 := Option.some.inj h
              obtain ⟨h1, g1⟩ := Prod.mk.inj g0
              subst h1
              subst g1
              exact W.iret (v := ((v7_1 + (-1 : Int32)) + (-1 : Int32))) hx hb hr (fun t ht hW => ⟨⟨((v7_1 + (-1 : Int32)) + (-1 : Int32)), (), rfl, rfl, by rw [ht]; exact hP, va_K.moved hW.alike hK, hD⟩, hS.F ht⟩) hS.2.2 dJ13_getChars_11360_194
            · replace h := zif_f h c180
              refine lv_aload_n hx hb dJ13_getChars_11360_183 rfl (lv_at hl 3 rfl) ?_
              refine lv_iinc (v := (((v7_1 + (-1 : Int32)) + (-1 : Int32)) + (-1 : Int32))) (lv' := [(7, .int (((v7_1 + (-1 : Int32)) + (-1 : Int32)) + (-1 : Int32))), (0, .long v0_0), (2, .int p1), (3, .ref t2), (8, .int (z01 s0j0)), (10, .int v10_1)]) hx hb dJ13_getChars_11360_184 hl (k := 0) rfl rfl (by decide) rfl (fun ls hl => ?_)
              refine lv_iload hx hb dJ13_getChars_11360_187 (lv_at hl 0 rfl) ?_
              refine lv_bipush (v := (45 : Int32)) hx hb dJ13_getChars_11360_189 (by decide) ?_
              obtain ⟨z191, h⟩ := zg_some h
              refine va_bast hx hb hK hP hD hS 0 3 rfl rfl z191 dJ13_getChars_11360_191 (fun H locs hP hD hS => ?_)
              replace hP : va_P D vwCl ([(t2, .inl (cB, n2, .inl (upd (upd (upd f0_1 (v7_1 + (-1 : Int32)).toNatClampNeg (vp_nar .byte (zDO (-v10_1).toNatClampNeg))) ((v7_1 + (-1 : Int32)) + (-1 : Int32)).toNatClampNeg (vp_nar .byte (zDT (-v10_1).toNatClampNeg))) (((v7_1 + (-1 : Int32)) + (-1 : Int32)) + (-1 : Int32)).toNatClampNeg (vp_nar .byte (45 : Int32)))))] : va_W) H := hP
              replace hD : va_D A ([(t2, .inl (cB, n2, .inl (upd (upd (upd f0_1 (v7_1 + (-1 : Int32)).toNatClampNeg (vp_nar .byte (zDO (-v10_1).toNatClampNeg))) ((v7_1 + (-1 : Int32)) + (-1 : Int32)).toNatClampNeg (vp_nar .byte (zDT (-v10_1).toNatClampNeg))) (((v7_1 + (-1 : Int32)) + (-1 : Int32)) + (-1 : Int32)).toNatClampNeg (vp_nar .byte (45 : Int32)))))] : va_W) := hD
              refine lv_iload hx hb dJ13_getChars_11360_192 (lv_at hl 0 rfl) ?_
              have g0 := Option.some.inj h
              obtain ⟨h1, g1⟩ := Prod.mk.inj g0
              subst h1
              subst g1
              exact W.iret (v := (((v7_1 + (-1 : Int32)) + (-1 : Int32)) + (-1 : Int32))) hx hb hr (fun t ht hW => ⟨⟨(((v7_1 + (-1 : Int32)) + (-1 : Int32)) + (-1 : Int32)), (), rfl, rfl, by rw [ht]; exact hP, va_K.moved hW.alike hK, hD⟩, hS.F ht⟩) hS.2.2 dJ13_getChars_11360_194
        have L1 : ∀ (K1 : Int32 → Int32 → (Nat → Int32) → Option (Int32 × (Nat → Int32))) (HX1 : ∀ (v7_1 : Int32) (v10_1 : Int32) (f0_1 : Nat → Int32) (H : Heap) (locs : List Loc) (ls : Array Slot), va_P D vwCl ([(t2, .inl (cB, n2, .inl f0_1))] : va_W) H → va_D A ([(t2, .inl (cB, n2, .inl f0_1))] : va_W) → va_S A s.heap H locs → lv_has ls 11 [(0, .long v0_0), (2, .int p1), (3, .ref t2), (7, .int v7_1), (8, .int (z01 s0j0)), (10, .int v10_1)] → K1 v7_1 v10_1 f0_1 = some (r, T0') → G H locs 0 0 (F0 m 143 ls [])) (fu1 : Nat) (v7_1 : Int32) (v10_1 : Int32) (f0_1 : Nat → Int32) (H : Heap) (locs : List Loc) (ls : Array Slot), va_P D vwCl ([(t2, .inl (cB, n2, .inl f0_1))] : va_W) H → va_D A ([(t2, .inl (cB, n2, .inl f0_1))] : va_W) → va_S A s.heap H locs → lv_has ls 11 [(0, .long v0_0), (2, .int p1), (3, .ref t2), (7, .int v7_1), (8, .int (z01 s0j0)), (10, .int v10_1)] → p_J13_getChars_11360_L1 F n2 K1 fu1 v7_1 v10_1 f0_1 = some (r, T0') → G H locs 0 0 (F0 m 86 ls []) := by
          intro K1 HX1 fu1
          induction fu1 with
          | zero =>
            intro v7_1 v10_1 f0_1 H locs ls hP hD hS hl h
            exact (zno h).elim
          | succ fu1 ih1 =>
            intro v7_1 v10_1 f0_1 H locs ls hP hD hS hl h
            refine hG _ _ _ _ _ ?_
            unfold p_J13_getChars_11360_L1 at h
            refine lv_iload hx hb dJ13_getChars_11360_86 (lv_at hl 5 rfl) ?_
            refine lv_bipush (v := (-100 : Int32)) hx hb dJ13_getChars_11360_88 (by decide) ?_
            refine lv_icmp_gt (tgt := 143) hx hb dJ13_getChars_11360_90 (by decide) (fun c90 => ?_) (fun c90 => ?_)
            · replace h := zif_t h c90
              exact hGW _ _ _ _ _ (HX1 v7_1 v10_1 f0_1 _ _ ls hP hD hS (lv_sub hl [0, 1, 2, 3, 4, 5] rfl) h)
            · replace h := zif_f h c90
              refine lv_iload hx hb dJ13_getChars_11360_93 (lv_at hl 5 rfl) ?_
              refine lv_bipush (v := (100 : Int32)) hx hb dJ13_getChars_11360_95 (by decide) ?_
              refine lv_idiv hx hb dJ13_getChars_11360_97 (by decide) ?_
              refine lv_istore (lv' := [(9, .int (v10_1 / (100 : Int32))), (0, .long v0_0), (2, .int p1), (3, .ref t2), (7, .int v7_1), (8, .int (z01 s0j0)), (10, .int v10_1)]) hx hb dJ13_getChars_11360_98 hl (by decide) rfl (fun ls hl => ?_)
              refine lv_iload hx hb dJ13_getChars_11360_100 (lv_at hl 0 rfl) ?_
              refine lv_bipush (v := (100 : Int32)) hx hb dJ13_getChars_11360_102 (by decide) ?_
              refine lv_imul hx hb dJ13_getChars_11360_104 ?_
              refine lv_iload hx hb dJ13_getChars_11360_105 (lv_at hl 6 rfl) ?_
              refine lv_isub hx hb dJ13_getChars_11360_107 ?_
              refine lv_istore (lv' := [(6, .int (((v10_1 / (100 : Int32)) * (100 : Int32)) - v10_1)), (9, .int (v10_1 / (100 : Int32))), (0, .long v0_0), (2, .int p1), (3, .ref t2), (7, .int v7_1), (8, .int (z01 s0j0)), (10, .int v10_1)]) hx hb dJ13_getChars_11360_108 hl (by decide) rfl (fun ls hl => ?_)
              refine lv_iload hx hb dJ13_getChars_11360_110 (lv_at hl 1 rfl) ?_
              refine lv_istore (lv' := [(10, .int (v10_1 / (100 : Int32))), (6, .int (((v10_1 / (100 : Int32)) * (100 : Int32)) - v10_1)), (9, .int (v10_1 / (100 : Int32))), (0, .long v0_0), (2, .int p1), (3, .ref t2), (7, .int v7_1), (8, .int (z01 s0j0))]) hx hb dJ13_getChars_11360_112 hl (by decide) rfl (fun ls hl => ?_)
              refine lv_aload_n hx hb dJ13_getChars_11360_114 rfl (lv_at hl 5 rfl) ?_
              refine lv_iinc (v := (v7_1 + (-1 : Int32))) (lv' := [(7, .int (v7_1 + (-1 : Int32))), (10, .int (v10_1 / (100 : Int32))), (6, .int (((v10_1 / (100 : Int32)) * (100 : Int32)) - v10_1)), (9, .int (v10_1 / (100 : Int32))), (0, .long v0_0), (2, .int p1), (3, .ref t2), (8, .int (z01 s0j0))]) hx hb dJ13_getChars_11360_115 hl (k := 6) rfl rfl (by decide) rfl (fun ls hl => ?_)
              refine lv_iload hx hb dJ13_getChars_11360_118 (lv_at hl 0 rfl) ?_
              refine va_gets hx hb hOz hS hown kf_133 (fun _ h9 => h9) dJ13_getChars_11360_120 ?_
              refine lv_iload hx hb dJ13_getChars_11360_123 (lv_at hl 2 rfl) ?_
              obtain ⟨z125, h⟩ := zg_some h
              refine va_tb hx hb hOt hS z125 (v := .int (zDO (((v10_1 / (100 : Int32)) * (100 : Int32)) - v10_1).toNatClampNeg)) rfl dJ13_getChars_11360_125 ?_
              obtain ⟨z126, h⟩ := zg_some h
              refine va_bast hx hb hK hP hD hS 0 3 rfl rfl z126 dJ13_getChars_11360_126 (fun H locs hP hD hS => ?_)
              replace hP : va_P D vwCl ([(t2, .inl (cB, n2, .inl (upd f0_1 (v7_1 + (-1 : Int32)).toNatClampNeg (vp_nar .byte (zDO (((v10_1 / (100 : Int32)) * (100 : Int32)) - v10_1).toNatClampNeg)))))] : va_W) H := hP
              replace hD : va_D A ([(t2, .inl (cB, n2, .inl (upd f0_1 (v7_1 + (-1 : Int32)).toNatClampNeg (vp_nar .byte (zDO (((v10_1 / (100 : Int32)) * (100 : Int32)) - v10_1).toNatClampNeg)))))] : va_W) := hD
              refine lv_aload_n hx hb dJ13_getChars_11360_127 rfl (lv_at hl 6 rfl) ?_
              refine lv_iinc (v := ((v7_1 + (-1 : Int32)) + (-1 : Int32))) (lv' := [(7, .int ((v7_1 + (-1 : Int32)) + (-1 : Int32))), (10, .int (v10_1 / (100 : Int32))), (6, .int (((v10_1 / (100 : Int32)) * (100 : Int32)) - v10_1)), (9, .int (v10_1 / (100 : Int32))), (0, .long v0_0), (2, .int p1), (3, .ref t2), (8, .int (z01 s0j0))]) hx hb dJ13_getChars_11360_128 hl (k := 0) rfl rfl (by decide) rfl (fun ls hl => ?_)
              refine lv_iload hx hb dJ13_getChars_11360_131 (lv_at hl 0 rfl) ?_
              refine va_gets hx hb hTz hS hown kf_137 (fun _ h9 => h9) dJ13_getChars_11360_133 ?_
              refine lv_iload hx hb dJ13_getChars_11360_136 (lv_at hl 2 rfl) ?_
              obtain ⟨z138, h⟩ := zg_some h
              refine va_tb hx hb hTt hS z138 (v := .int (zDT (((v10_1 / (100 : Int32)) * (100 : Int32)) - v10_1).toNatClampNeg)) rfl dJ13_getChars_11360_138 ?_
              obtain ⟨z139, h⟩ := zg_some h
              refine va_bast hx hb hK hP hD hS 0 3 rfl rfl z139 dJ13_getChars_11360_139 (fun H locs hP hD hS => ?_)
              replace hP : va_P D vwCl ([(t2, .inl (cB, n2, .inl (upd (upd f0_1 (v7_1 + (-1 : Int32)).toNatClampNeg (vp_nar .byte (zDO (((v10_1 / (100 : Int32)) * (100 : Int32)) - v10_1).toNatClampNeg))) ((v7_1 + (-1 : Int32)) + (-1 : Int32)).toNatClampNeg (vp_nar .byte (zDT (((v10_1 / (100 : Int32)) * (100 : Int32)) - v10_1).toNatClampNeg)))))] : va_W) H := hP
              replace hD : va_D A ([(t2, .inl (cB, n2, .inl (upd (upd f0_1 (v7_1 + (-1 : Int32)).toNatClampNeg (vp_nar .byte (zDO (((v10_1 / (100 : Int32)) * (100 : Int32)) - v10_1).toNatClampNeg))) ((v7_1 + (-1 : Int32)) + (-1 : Int32)).toNatClampNeg (vp_nar .byte (zDT (((v10_1 / (100 : Int32)) * (100 : Int32)) - v10_1).toNatClampNeg)))))] : va_W) := hD
              refine lv_goto (tgt := 86) hx hb dJ13_getChars_11360_140 (by decide) ?_
              exact hGW _ _ _ _ _ (ih1 ((v7_1 + (-1 : Int32)) + (-1 : Int32)) (v10_1 / (100 : Int32)) (upd (upd f0_1 (v7_1 + (-1 : Int32)).toNatClampNeg (vp_nar .byte (zDO (((v10_1 / (100 : Int32)) * (100 : Int32)) - v10_1).toNatClampNeg))) ((v7_1 + (-1 : Int32)) + (-1 : Int32)).toNatClampNeg (vp_nar .byte (zDT (((v10_1 / (100 : Int32)) * (100 : Int32)) - v10_1).toNatClampNeg))) _ _ ls hP hD hS (lv_sub hl [4, 5, 6, 0, 7, 1] rfl) h)
        exact hGW _ _ _ _ _ (L1 _ X1 F v7_0 (v0_0.toInt32) f0_0 _ _ ls hP hD hS (lv_sub hl [1, 2, 3, 4, 5, 0] rfl) h)
      have L0 : ∀ (K0 : Int64 → Int32 → (Nat → Int32) → Option (Int32 × (Nat → Int32))) (HX0 : ∀ (v0_0 : Int64) (v7_0 : Int32) (f0_0 : Nat → Int32) (H : Heap) (locs : List Loc) (ls : Array Slot), va_P D vwCl ([(t2, .inl (cB, n2, .inl f0_0))] : va_W) H → va_D A ([(t2, .inl (cB, n2, .inl f0_0))] : va_W) → va_S A s.heap H locs → lv_has ls 11 [(0, .long v0_0), (2, .int p1), (3, .ref t2), (7, .int v7_0), (8, .int (z01 s0j0))] → K0 v0_0 v7_0 f0_0 = some (r, T0') → G H locs 0 0 (F0 m 82 ls [])) (fu0 : Nat) (v0_0 : Int64) (v7_0 : Int32) (f0_0 : Nat → Int32) (H : Heap) (locs : List Loc) (ls : Array Slot), va_P D vwCl ([(t2, .inl (cB, n2, .inl f0_0))] : va_W) H → va_D A ([(t2, .inl (cB, n2, .inl f0_0))] : va_W) → va_S A s.heap H locs → lv_has ls 11 [(0, .long v0_0), (2, .int p1), (3, .ref t2), (7, .int v7_0), (8, .int (z01 s0j0))] → p_J13_getChars_11360_L0 F n2 K0 fu0 v0_0 v7_0 f0_0 = some (r, T0') → G H locs 0 0 (F0 m 24 ls []) := by
        intro K0 HX0 fu0
        induction fu0 with
        | zero =>
          intro v0_0 v7_0 f0_0 H locs ls hP hD hS hl h
          exact (zno h).elim
        | succ fu0 ih0 =>
          intro v0_0 v7_0 f0_0 H locs ls hP hD hS hl h
          refine hG _ _ _ _ _ ?_
          unfold p_J13_getChars_11360_L0 at h
          refine lv_lload_n hx hb dJ13_getChars_11360_24 rfl (lv_at hl 0 rfl) ?_
          refine lv_ldc2 hx hb hown kc_129 dJ13_getChars_11360_25 ?_
          refine W.lcmp hx hb dJ13_getChars_11360_28 ?_
          refine lv_if_gt (tgt := 82) hx hb dJ13_getChars_11360_29 (by decide) (fun c29 => ?_) (fun c29 => ?_)
          · replace h := zif_t h c29
            exact hGW _ _ _ _ _ (HX0 v0_0 v7_0 f0_0 _ _ ls hP hD hS (lv_sub hl [0, 1, 2, 3, 4] rfl) h)
          · replace h := zif_f h c29
            refine lv_lload_n hx hb dJ13_getChars_11360_32 rfl (lv_at hl 0 rfl) ?_
            refine lv_ldc2 hx hb hown kc_131 dJ13_getChars_11360_33 ?_
            refine lv_ldiv hx hb dJ13_getChars_11360_36 (by decide) ?_
            refine lv_lstore (lv' := [(4, .long (v0_0 / (100 : Int64))), (0, .long v0_0), (2, .int p1), (3, .ref t2), (7, .int v7_0), (8, .int (z01 s0j0))]) hx hb dJ13_getChars_11360_37 hl (by decide) rfl (fun ls hl => ?_)
            refine lv_lload hx hb dJ13_getChars_11360_39 (lv_at hl 0 rfl) ?_
            refine lv_ldc2 hx hb hown kc_131 dJ13_getChars_11360_41 ?_
            refine lv_lmul hx hb dJ13_getChars_11360_44 ?_
            refine lv_lload_n hx hb dJ13_getChars_11360_45 rfl (lv_at hl 1 rfl) ?_
            refine lv_lsub hx hb dJ13_getChars_11360_46 ?_
            refine lv_l2i (v := (((v0_0 / (100 : Int64)) * (100 : Int64)) - v0_0).toInt32) hx hb dJ13_getChars_11360_47 rfl ?_
            refine lv_istore (lv' := [(6, .int ((((v0_0 / (100 : Int64)) * (100 : Int64)) - v0_0).toInt32)), (4, .long (v0_0 / (100 : Int64))), (0, .long v0_0), (2, .int p1), (3, .ref t2), (7, .int v7_0), (8, .int (z01 s0j0))]) hx hb dJ13_getChars_11360_48 hl (by decide) rfl (fun ls hl => ?_)
            refine lv_lload hx hb dJ13_getChars_11360_50 (lv_at hl 1 rfl) ?_
            refine lv_lstore_n (lv' := [(0, .long (v0_0 / (100 : Int64))), (6, .int ((((v0_0 / (100 : Int64)) * (100 : Int64)) - v0_0).toInt32)), (4, .long (v0_0 / (100 : Int64))), (2, .int p1), (3, .ref t2), (7, .int v7_0), (8, .int (z01 s0j0))]) hx hb dJ13_getChars_11360_52 rfl hl (by decide) rfl (fun ls hl => ?_)
            refine lv_aload_n hx hb dJ13_getChars_11360_53 rfl (lv_at hl 4 rfl) ?_
            refine lv_iinc (v := (v7_0 + (-1 : Int32))) (lv' := [(7, .int (v7_0 + (-1 : Int32))), (0, .long (v0_0 / (100 : Int64))), (6, .int ((((v0_0 / (100 : Int64)) * (100 : Int64)) - v0_0).toInt32)), (4, .long (v0_0 / (100 : Int64))), (2, .int p1), (3, .ref t2), (8, .int (z01 s0j0))]) hx hb dJ13_getChars_11360_54 hl (k := 5) rfl rfl (by decide) rfl (fun ls hl => ?_)
            refine lv_iload hx hb dJ13_getChars_11360_57 (lv_at hl 0 rfl) ?_
            refine va_gets hx hb hOz hS hown kf_133 (fun _ h9 => h9) dJ13_getChars_11360_59 ?_
            refine lv_iload hx hb dJ13_getChars_11360_62 (lv_at hl 2 rfl) ?_
            obtain ⟨z64, h⟩ := zg_some h
            refine va_tb hx hb hOt hS z64 (v := .int (zDO ((((v0_0 / (100 : Int64)) * (100 : Int64)) - v0_0).toInt32).toNatClampNeg)) rfl dJ13_getChars_11360_64 ?_
            obtain ⟨z65, h⟩ := zg_some h
            refine va_bast hx hb hK hP hD hS 0 3 rfl rfl z65 dJ13_getChars_11360_65 (fun H locs hP hD hS => ?_)
            replace hP : va_P D vwCl ([(t2, .inl (cB, n2, .inl (upd f0_0 (v7_0 + (-1 : Int32)).toNatClampNeg (vp_nar .byte (zDO ((((v0_0 / (100 : Int64)) * (100 : Int64)) - v0_0).toInt32).toNatClampNeg)))))] : va_W) H := hP
            replace hD : va_D A ([(t2, .inl (cB, n2, .inl (upd f0_0 (v7_0 + (-1 : Int32)).toNatClampNeg (vp_nar .byte (zDO ((((v0_0 / (100 : Int64)) * (100 : Int64)) - v0_0).toInt32).toNatClampNeg)))))] : va_W) := hD
            refine lv_aload_n hx hb dJ13_getChars_11360_66 rfl (lv_at hl 5 rfl) ?_
            refine lv_iinc (v := ((v7_0 + (-1 : Int32)) + (-1 : Int32))) (lv' := [(7, .int ((v7_0 + (-1 : Int32)) + (-1 : Int32))), (0, .long (v0_0 / (100 : Int64))), (6, .int ((((v0_0 / (100 : Int64)) * (100 : Int64)) - v0_0).toInt32)), (4, .long (v0_0 / (100 : Int64))), (2, .int p1), (3, .ref t2), (8, .int (z01 s0j0))]) hx hb dJ13_getChars_11360_67 hl (k := 0) rfl rfl (by decide) rfl (fun ls hl => ?_)
            refine lv_iload hx hb dJ13_getChars_11360_70 (lv_at hl 0 rfl) ?_
            refine va_gets hx hb hTz hS hown kf_137 (fun _ h9 => h9) dJ13_getChars_11360_72 ?_
            refine lv_iload hx hb dJ13_getChars_11360_75 (lv_at hl 2 rfl) ?_
            obtain ⟨z77, h⟩ := zg_some h
            refine va_tb hx hb hTt hS z77 (v := .int (zDT ((((v0_0 / (100 : Int64)) * (100 : Int64)) - v0_0).toInt32).toNatClampNeg)) rfl dJ13_getChars_11360_77 ?_
            obtain ⟨z78, h⟩ := zg_some h
            refine va_bast hx hb hK hP hD hS 0 3 rfl rfl z78 dJ13_getChars_11360_78 (fun H locs hP hD hS => ?_)
            replace hP : va_P D vwCl ([(t2, .inl (cB, n2, .inl (upd (upd f0_0 (v7_0 + (-1 : Int32)).toNatClampNeg (vp_nar .byte (zDO ((((v0_0 / (100 : Int64)) * (100 : Int64)) - v0_0).toInt32).toNatClampNeg))) ((v7_0 + (-1 : Int32)) + (-1 : Int32)).toNatClampNeg (vp_nar .byte (zDT ((((v0_0 / (100 : Int64)) * (100 : Int64)) - v0_0).toInt32).toNatClampNeg)))))] : va_W) H := hP
            replace hD : va_D A ([(t2, .inl (cB, n2, .inl (upd (upd f0_0 (v7_0 + (-1 : Int32)).toNatClampNeg (vp_nar .byte (zDO ((((v0_0 / (100 : Int64)) * (100 : Int64)) - v0_0).toInt32).toNatClampNeg))) ((v7_0 + (-1 : Int32)) + (-1 : Int32)).toNatClampNeg (vp_nar .byte (zDT ((((v0_0 / (100 : Int64)) * (100 : Int64)) - v0_0).toInt32).toNatClampNeg)))))] : va_W) := hD
            refine lv_goto (tgt := 24) hx hb dJ13_getChars_11360_79 (by decide) ?_
            exact hGW _ _ _ _ _ (ih0 (v0_0 / (100 : Int64)) ((v7_0 + (-1 : Int32)) + (-1 : Int32)) (upd (upd f0_0 (v7_0 + (-1 : Int32)).toNatClampNeg (vp_nar .byte (zDO ((((v0_0 / (100 : Int64)) * (100 : Int64)) - v0_0).toInt32).toNatClampNeg))) ((v7_0 + (-1 : Int32)) + (-1 : Int32)).toNatClampNeg (vp_nar .byte (zDT ((((v0_0 / (100 : Int64)) * (100 : Int64)) - v0_0).toInt32).toNatClampNeg))) _ _ ls hP hD hS (lv_sub hl [1, 4, 5, 0, 6] rfl) h)
      exact hGW _ _ _ _ _ (L0 _ X0 F p0 p1 p2 _ _ ls hP hD hS (lv_sub hl [1, 2, 3, 4, 0] rfl) h)
    · replace h := zif_fn h c18
      refine lv_lload_n hx hb dJ13_getChars_11360_21 rfl (lv_at hl 1 rfl) ?_
      refine lv_lneg hx hb dJ13_getChars_11360_22 ?_
      refine lv_lstore_n (lv' := [(0, .long (-p0)), (8, .int (z01 s0j0)), (2, .int p1), (3, .ref t2), (7, .int p1)]) hx hb dJ13_getChars_11360_23 rfl hl (by decide) rfl (fun ls hl => ?_)
      have X2 : ∀ (v0_2 : Int64) (v7_2 : Int32) (f0_2 : Nat → Int32) (H : Heap) (locs : List Loc) (ls : Array Slot), va_P D vwCl ([(t2, .inl (cB, n2, .inl f0_2))] : va_W) H → va_D A ([(t2, .inl (cB, n2, .inl f0_2))] : va_W) → va_S A s.heap H locs → lv_has ls 11 [(0, .long v0_2), (2, .int p1), (3, .ref t2), (7, .int v7_2), (8, .int (z01 s0j0))] → (p_J13_getChars_11360_L3 F n2 (fun v7_3 v10_3 f0_3 => (zg ((-v10_3) < 0 ∨ 100 ≤ (-v10_3).toNatClampNeg) (zg ((v7_3 + (-1 : Int32)) < 0 ∨ n2 ≤ (v7_3 + (-1 : Int32)).toNatClampNeg) (if (-9 : Int32) ≤ v10_3 then (if (z01 s0j0) = 0 then (some ((v7_3 + (-1 : Int32)), (upd f0_3 (v7_3 + (-1 : Int32)).toNatClampNeg (vp_nar .byte (zDO (-v10_3).toNatClampNeg))))) else (zg (((v7_3 + (-1 : Int32)) + (-1 : Int32)) < 0 ∨ n2 ≤ ((v7_3 + (-1 : Int32)) + (-1 : Int32)).toNatClampNeg) (some (((v7_3 + (-1 : Int32)) + (-1 : Int32)), (upd (upd f0_3 (v7_3 + (-1 : Int32)).toNatClampNeg (vp_nar .byte (zDO (-v10_3).toNatClampNeg))) ((v7_3 + (-1 : Int32)) + (-1 : Int32)).toNatClampNeg (vp_nar .byte (45 : Int32))))))) else (zg ((-v10_3) < 0 ∨ 100 ≤ (-v10_3).toNatClampNeg) (zg (((v7_3 + (-1 : Int32)) + (-1 : Int32)) < 0 ∨ n2 ≤ ((v7_3 + (-1 : Int32)) + (-1 : Int32)).toNatClampNeg) (if (z01 s0j0) = 0 then (some (((v7_3 + (-1 : Int32)) + (-1 : Int32)), (upd (upd f0_3 (v7_3 + (-1 : Int32)).toNatClampNeg (vp_nar .byte (zDO (-v10_3).toNatClampNeg))) ((v7_3 + (-1 : Int32)) + (-1 : Int32)).toNatClampNeg (vp_nar .byte (zDT (-v10_3).toNatClampNeg))))) else (zg ((((v7_3 + (-1 : Int32)) + (-1 : Int32)) + (-1 : Int32)) < 0 ∨ n2 ≤ (((v7_3 + (-1 : Int32)) + (-1 : Int32)) + (-1 : Int32)).toNatClampNeg) (some ((((v7_3 + (-1 : Int32)) + (-1 : Int32)) + (-1 : Int32)), (upd (upd (upd f0_3 (v7_3 + (-1 : Int32)).toNatClampNeg (vp_nar .byte (zDO (-v10_3).toNatClampNeg))) ((v7_3 + (-1 : Int32)) + (-1 : Int32)).toNatClampNeg (vp_nar .byte (zDT (-v10_3).toNatClampNeg))) (((v7_3 + (-1 : Int32)) + (-1 : Int32)) + (-1 : Int32)).toNatClampNeg (vp_nar .byte (45 : Int32))))))))))))) F v7_2 (v0_2.toInt32) f0_2) = some (r, T0') → G H locs 0 0 (F0 m 82 ls []) := by
        intro v0_2 v7_2 f0_2 H locs ls hP hD hS hl h
        refine hG _ _ _ _ _ ?_
        refine lv_lload_n hx hb dJ13_getChars_11360_82 rfl (lv_at hl 0 rfl) ?_
        refine lv_l2i (v := v0_2.toInt32) hx hb dJ13_getChars_11360_83 rfl ?_
        refine lv_istore (lv' := [(10, .int (v0_2.toInt32)), (0, .long v0_2), (2, .int p1), (3, .ref t2), (7, .int v7_2), (8, .int (z01 s0j0))]) hx hb dJ13_getChars_11360_84 hl (by decide) rfl (fun ls hl => ?_)
        have X3 : ∀ (v7_3 : Int32) (v10_3 : Int32) (f0_3 : Nat → Int32) (H : Heap) (locs : List Loc) (ls : Array Slot), va_P D vwCl ([(t2, .inl (cB, n2, .inl f0_3))] : va_W) H → va_D A ([(t2, .inl (cB, n2, .inl f0_3))] : va_W) → va_S A s.heap H locs → lv_has ls 11 [(0, .long v0_2), (2, .int p1), (3, .ref t2), (7, .int v7_3), (8, .int (z01 s0j0)), (10, .int v10_3)] → (zg ((-v10_3) < 0 ∨ 100 ≤ (-v10_3).toNatClampNeg) (zg ((v7_3 + (-1 : Int32)) < 0 ∨ n2 ≤ (v7_3 + (-1 : Int32)).toNatClampNeg) (if (-9 : Int32) ≤ v10_3 then (if (z01 s0j0) = 0 then (some ((v7_3 + (-1 : Int32)), (upd f0_3 (v7_3 + (-1 : Int32)).toNatClampNeg (vp_nar .byte (zDO (-v10_3).toNatClampNeg))))) else (zg (((v7_3 + (-1 : Int32)) + (-1 : Int32)) < 0 ∨ n2 ≤ ((v7_3 + (-1 : Int32)) + (-1 : Int32)).toNatClampNeg) (some (((v7_3 + (-1 : Int32)) + (-1 : Int32)), (upd (upd f0_3 (v7_3 + (-1 : Int32)).toNatClampNeg (vp_nar .byte (zDO (-v10_3).toNatClampNeg))) ((v7_3 + (-1 : Int32)) + (-1 : Int32)).toNatClampNeg (vp_nar .byte (45 : Int32))))))) else (zg ((-v10_3) < 0 ∨ 100 ≤ (-v10_3).toNatClampNeg) (zg (((v7_3 + (-1 : Int32)) + (-1 : Int32)) < 0 ∨ n2 ≤ ((v7_3 + (-1 : Int32)) + (-1 : Int32)).toNatClampNeg) (if (z01 s0j0) = 0 then (some (((v7_3 + (-1 : Int32)) + (-1 : Int32)), (upd (upd f0_3 (v7_3 + (-1 : Int32)).toNatClampNeg (vp_nar .byte (zDO (-v10_3).toNatClampNeg))) ((v7_3 + (-1 : Int32)) + (-1 : Int32)).toNatClampNeg (vp_nar .byte (zDT (-v10_3).toNatClampNeg))))) else (zg ((((v7_3 + (-1 : Int32)) + (-1 : Int32)) + (-1 : Int32)) < 0 ∨ n2 ≤ (((v7_3 + (-1 : Int32)) + (-1 : Int32)) + (-1 : Int32)).toNatClampNeg) (some ((((v7_3 + (-1 : Int32)) + (-1 : Int32)) + (-1 : Int32)), (upd (upd (upd f0_3 (v7_3 + (-1 : Int32)).toNatClampNeg (vp_nar .byte (zDO (-v10_3).toNatClampNeg))) ((v7_3 + (-1 : Int32)) + (-1 : Int32)).toNatClampNeg (vp_nar .byte (zDT (-v10_3).toNatClampNeg))) (((v7_3 + (-1 : Int32)) + (-1 : Int32)) + (-1 : Int32)).toNatClampNeg (vp_nar .byte (45 : Int32)))))))))))) = some (r, T0') → G H locs 0 0 (F0 m 143 ls []) := by
          intro v7_3 v10_3 f0_3 H locs ls hP hD hS hl h
          refine hG _ _ _ _ _ ?_
          refine lv_aload_n hx hb dJ13_getChars_11360_143 rfl (lv_at hl 2 rfl) ?_
          refine lv_iinc (v := (v7_3 + (-1 : Int32))) (lv' := [(7, .int (v7_3 + (-1 : Int32))), (0, .long v0_2), (2, .int p1), (3, .ref t2), (8, .int (z01 s0j0)), (10, .int v10_3)]) hx hb dJ13_getChars_11360_144 hl (k := 3) rfl rfl (by decide) rfl (fun ls hl => ?_)
          refine lv_iload hx hb dJ13_getChars_11360_147 (lv_at hl 0 rfl) ?_
          refine va_gets hx hb hOz hS hown kf_133 (fun _ h9 => h9) dJ13_getChars_11360_149 ?_
          refine lv_iload hx hb dJ13_getChars_11360_152 (lv_at hl 5 rfl) ?_
          refine lv_ineg hx hb dJ13_getChars_11360_154 ?_
          obtain ⟨z155, h⟩ := zg_some h
          refine va_tb hx hb hOt hS z155 (v := .int (zDO (-v10_3).toNatClampNeg)) rfl dJ13_getChars_11360_155 ?_
          obtain ⟨z156, h⟩ := zg_some h
          refine va_bast hx hb hK hP hD hS 0 3 rfl rfl z156 dJ13_getChars_11360_156 (fun H locs hP hD hS => ?_)
          replace hP : va_P D vwCl ([(t2, .inl (cB, n2, .inl (upd f0_3 (v7_3 + (-1 : Int32)).toNatClampNeg (vp_nar .byte (zDO (-v10_3).toNatClampNeg)))))] : va_W) H := hP
          replace hD : va_D A ([(t2, .inl (cB, n2, .inl (upd f0_3 (v7_3 + (-1 : Int32)).toNatClampNeg (vp_nar .byte (zDO (-v10_3).toNatClampNeg)))))] : va_W) := hD
          refine lv_iload hx hb dJ13_getChars_11360_157 (lv_at hl 5 rfl) ?_
          refine lv_bipush (v := (-9 : Int32)) hx hb dJ13_getChars_11360_159 (by decide) ?_
          refine lv_icmp_ge (tgt := 178) hx hb dJ13_getChars_11360_161 (by decide) (fun c161 => ?_) (fun c161 => ?_)
          · replace h := zif_t h c161
            refine lv_iload hx hb dJ13_getChars_11360_178 (lv_at hl 4 rfl) ?_
            refine lv_if_eq (tgt := 192) hx hb dJ13_getChars_11360_180 (by decide) (fun c180 => ?_) (fun c180 => ?_)
            · replace h := zif_t h c180
              refine lv_iload hx hb dJ13_getChars_11360_192 (lv_at hl 0 rfl) ?_
              have g0 := Option.some.inj h
              obtain ⟨h1, g1⟩ := Prod.mk.inj g0
              subst h1
              subst g1
              exact W.iret (v := (v7_3 + (-1 : Int32))) hx hb hr (fun t ht hW => ⟨⟨(v7_3 + (-1 : Int32)), (), rfl, rfl, by rw [ht]; exact hP, va_K.moved hW.alike hK, hD⟩, hS.F ht⟩) hS.2.2 dJ13_getChars_11360_194
            · replace h := zif_f h c180
              refine lv_aload_n hx hb dJ13_getChars_11360_183 rfl (lv_at hl 3 rfl) ?_
              refine lv_iinc (v := ((v7_3 + (-1 : Int32)) + (-1 : Int32))) (lv' := [(7, .int ((v7_3 + (-1 : Int32)) + (-1 : Int32))), (0, .long v0_2), (2, .int p1), (3, .ref t2), (8, .int (z01 s0j0)), (10, .int v10_3)]) hx hb dJ13_getChars_11360_184 hl (k := 0) rfl rfl (by decide) rfl (fun ls hl => ?_)
              refine lv_iload hx hb dJ13_getChars_11360_187 (lv_at hl 0 rfl) ?_
              refine lv_bipush (v := (45 : Int32)) hx hb dJ13_getChars_11360_189 (by decide) ?_
              obtain ⟨z191, h⟩ := zg_some h
              refine va_bast hx hb hK hP hD hS 0 3 rfl rfl z191 dJ13_getChars_11360_191 (fun H locs hP hD hS => ?_)
              replace hP : va_P D vwCl ([(t2, .inl (cB, n2, .inl (upd (upd f0_3 (v7_3 + (-1 : Int32)).toNatClampNeg (vp_nar .byte (zDO (-v10_3).toNatClampNeg))) ((v7_3 + (-1 : Int32)) + (-1 : Int32)).toNatClampNeg (vp_nar .byte (45 : Int32)))))] : va_W) H := hP
              replace hD : va_D A ([(t2, .inl (cB, n2, .inl (upd (upd f0_3 (v7_3 + (-1 : Int32)).toNatClampNeg (vp_nar .byte (zDO (-v10_3).toNatClampNeg))) ((v7_3 + (-1 : Int32)) + (-1 : Int32)).toNatClampNeg (vp_nar .byte (45 : Int32)))))] : va_W) := hD
              refine lv_iload hx hb dJ13_getChars_11360_192 (lv_at hl 0 rfl) ?_
              have g0 := Option.some.inj h
              obtain ⟨h1, g1⟩ := Prod.mk.inj g0
              subst h1
              subst g1
              exact W.iret (v := ((v7_3 + (-1 : Int32)) + (-1 : Int32))) hx hb hr (fun t ht hW => ⟨⟨((v7_3 + (-1 : Int32)) + (-1 : Int32)), (), rfl, rfl, by rw [ht]; exact hP, va_K.moved hW.alike hK, hD⟩, hS.F ht⟩) hS.2.2 dJ13_getChars_11360_194
          · replace h := zif_f h c161
            refine lv_aload_n hx hb dJ13_getChars_11360_164 rfl (lv_at hl 3 rfl) ?_
            refine lv_iinc (v := ((v7_3 + (-1 : Int32)) + (-1 : Int32))) (lv' := [(7, .int ((v7_3 + (-1 : Int32)) + (-1 : Int32))), (0, .long v0_2), (2, .int p1), (3, .ref t2), (8, .int (z01 s0j0)), (10, .int v10_3)]) hx hb dJ13_getChars_11360_165 hl (k := 0) rfl rfl (by decide) rfl (fun ls hl => ?_)
            refine lv_iload hx hb dJ13_getChars_11360_168 (lv_at hl 0 rfl) ?_
            refine va_gets hx hb hTz hS hown kf_137 (fun _ h9 => h9) dJ13_getChars_11360_170 ?_
            refine lv_iload hx hb dJ13_getChars_11360_173 (lv_at hl 5 rfl) ?_
            refine lv_ineg hx hb dJ13_getChars_11360_175 ?_
            obtain ⟨z176, h⟩ := zg_some h
            refine va_tb hx hb hTt hS z176 (v := .int (zDT (-v10_3).toNatClampNeg)) rfl dJ13_getChars_11360_176 ?_
            obtain ⟨z177, h⟩ := zg_some h
            refine va_bast hx hb hK hP hD hS 0 3 rfl rfl z177 dJ13_getChars_11360_177 (fun H locs hP hD hS => ?_)
            replace hP : va_P D vwCl ([(t2, .inl (cB, n2, .inl (upd (upd f0_3 (v7_3 + (-1 : Int32)).toNatClampNeg (vp_nar .byte (zDO (-v10_3).toNatClampNeg))) ((v7_3 + (-1 : Int32)) + (-1 : Int32)).toNatClampNeg (vp_nar .byte (zDT (-v10_3).toNatClampNeg)))))] : va_W) H := hP
            replace hD : va_D A ([(t2, .inl (cB, n2, .inl (upd (upd f0_3 (v7_3 + (-1 : Int32)).toNatClampNeg (vp_nar .byte (zDO (-v10_3).toNatClampNeg))) ((v7_3 + (-1 : Int32)) + (-1 : Int32)).toNatClampNeg (vp_nar .byte (zDT (-v10_3).toNatClampNeg)))))] : va_W) := hD
            refine lv_iload hx hb dJ13_getChars_11360_178 (lv_at hl 4 rfl) ?_
            refine lv_if_eq (tgt := 192) hx hb dJ13_getChars_11360_180 (by decide) (fun c180 => ?_) (fun c180 => ?_)
            · replace h := zif_t h c180
              refine lv_iload hx hb dJ13_getChars_11360_192 (lv_at hl 0 rfl) ?_
              have g0 := Option.some.inj h
              obtain ⟨h1, g1⟩ := Prod.mk.inj g0
              subst h1
              subst g1
              exact W.iret (v := ((v7_3 + (-1 : Int32)) + (-1 : Int32))) hx hb hr (fun t ht hW => ⟨⟨((v7_3 + (-1 : Int32)) + (-1 : Int32)), (), rfl, rfl, by rw [ht]; exact hP, va_K.moved hW.alike hK, hD⟩, hS.F ht⟩) hS.2.2 dJ13_getChars_11360_194
            · replace h := zif_f h c180
              refine lv_aload_n hx hb dJ13_getChars_11360_183 rfl (lv_at hl 3 rfl) ?_
              refine lv_iinc (v := (((v7_3 + (-1 : Int32)) + (-1 : Int32)) + (-1 : Int32))) (lv' := [(7, .int (((v7_3 + (-1 : Int32)) + (-1 : Int32)) + (-1 : Int32))), (0, .long v0_2), (2, .int p1), (3, .ref t2), (8, .int (z01 s0j0)), (10, .int v10_3)]) hx hb dJ13_getChars_11360_184 hl (k := 0) rfl rfl (by decide) rfl (fun ls hl => ?_)
              refine lv_iload hx hb dJ13_getChars_11360_187 (lv_at hl 0 rfl) ?_
              refine lv_bipush (v := (45 : Int32)) hx hb dJ13_getChars_11360_189 (by decide) ?_
              obtain ⟨z191, h⟩ := zg_some h
              refine va_bast hx hb hK hP hD hS 0 3 rfl rfl z191 dJ13_getChars_11360_191 (fun H locs hP hD hS => ?_)
              replace hP : va_P D vwCl ([(t2, .inl (cB, n2, .inl (upd (upd (upd f0_3 (v7_3 + (-1 : Int32)).toNatClampNeg (vp_nar .byte (zDO (-v10_3).toNatClampNeg))) ((v7_3 + (-1 : Int32)) + (-1 : Int32)).toNatClampNeg (vp_nar .byte (zDT (-v10_3).toNatClampNeg))) (((v7_3 + (-1 : Int32)) + (-1 : Int32)) + (-1 : Int32)).toNatClampNeg (vp_nar .byte (45 : Int32)))))] : va_W) H := hP
              replace hD : va_D A ([(t2, .inl (cB, n2, .inl (upd (upd (upd f0_3 (v7_3 + (-1 : Int32)).toNatClampNeg (vp_nar .byte (zDO (-v10_3).toNatClampNeg))) ((v7_3 + (-1 : Int32)) + (-1 : Int32)).toNatClampNeg (vp_nar .byte (zDT (-v10_3).toNatClampNeg))) (((v7_3 + (-1 : Int32)) + (-1 : Int32)) + (-1 : Int32)).toNatClampNeg (vp_nar .byte (45 : Int32)))))] : va_W) := hD
              refine lv_iload hx hb dJ13_getChars_11360_192 (lv_at hl 0 rfl) ?_
              have g0 := Option.some.inj h
              obtain ⟨h1, g1⟩ := Prod.mk.inj g0
              subst h1
              subst g1
              exact W.iret (v := (((v7_3 + (-1 : Int32)) + (-1 : Int32)) + (-1 : Int32))) hx hb hr (fun t ht hW => ⟨⟨(((v7_3 + (-1 : Int32)) + (-1 : Int32)) + (-1 : Int32)), (), rfl, rfl, by rw [ht]; exact hP, va_K.moved hW.alike hK, hD⟩, hS.F ht⟩) hS.2.2 dJ13_getChars_11360_194
        have L3 : ∀ (K3 : Int32 → Int32 → (Nat → Int32) → Option (Int32 × (Nat → Int32))) (HX3 : ∀ (v7_3 : Int32) (v10_3 : Int32) (f0_3 : Nat → Int32) (H : Heap) (locs : List Loc) (ls : Array Slot), va_P D vwCl ([(t2, .inl (cB, n2, .inl f0_3))] : va_W) H → va_D A ([(t2, .inl (cB, n2, .inl f0_3))] : va_W) → va_S A s.heap H locs → lv_has ls 11 [(0, .long v0_2), (2, .int p1), (3, .ref t2), (7, .int v7_3), (8, .int (z01 s0j0)), (10, .int v10_3)] → K3 v7_3 v10_3 f0_3 = some (r, T0') → G H locs 0 0 (F0 m 143 ls [])) (fu3 : Nat) (v7_3 : Int32) (v10_3 : Int32) (f0_3 : Nat → Int32) (H : Heap) (locs : List Loc) (ls : Array Slot), va_P D vwCl ([(t2, .inl (cB, n2, .inl f0_3))] : va_W) H → va_D A ([(t2, .inl (cB, n2, .inl f0_3))] : va_W) → va_S A s.heap H locs → lv_has ls 11 [(0, .long v0_2), (2, .int p1), (3, .ref t2), (7, .int v7_3), (8, .int (z01 s0j0)), (10, .int v10_3)] → p_J13_getChars_11360_L3 F n2 K3 fu3 v7_3 v10_3 f0_3 = some (r, T0') → G H locs 0 0 (F0 m 86 ls []) := by
          intro K3 HX3 fu3
          induction fu3 with
          | zero =>
            intro v7_3 v10_3 f0_3 H locs ls hP hD hS hl h
            exact (zno h).elim
          | succ fu3 ih3 =>
            intro v7_3 v10_3 f0_3 H locs ls hP hD hS hl h
            refine hG _ _ _ _ _ ?_
            unfold p_J13_getChars_11360_L3 at h
            refine lv_iload hx hb dJ13_getChars_11360_86 (lv_at hl 5 rfl) ?_
            refine lv_bipush (v := (-100 : Int32)) hx hb dJ13_getChars_11360_88 (by decide) ?_
            refine lv_icmp_gt (tgt := 143) hx hb dJ13_getChars_11360_90 (by decide) (fun c90 => ?_) (fun c90 => ?_)
            · replace h := zif_t h c90
              exact hGW _ _ _ _ _ (HX3 v7_3 v10_3 f0_3 _ _ ls hP hD hS (lv_sub hl [0, 1, 2, 3, 4, 5] rfl) h)
            · replace h := zif_f h c90
              refine lv_iload hx hb dJ13_getChars_11360_93 (lv_at hl 5 rfl) ?_
              refine lv_bipush (v := (100 : Int32)) hx hb dJ13_getChars_11360_95 (by decide) ?_
              refine lv_idiv hx hb dJ13_getChars_11360_97 (by decide) ?_
              refine lv_istore (lv' := [(9, .int (v10_3 / (100 : Int32))), (0, .long v0_2), (2, .int p1), (3, .ref t2), (7, .int v7_3), (8, .int (z01 s0j0)), (10, .int v10_3)]) hx hb dJ13_getChars_11360_98 hl (by decide) rfl (fun ls hl => ?_)
              refine lv_iload hx hb dJ13_getChars_11360_100 (lv_at hl 0 rfl) ?_
              refine lv_bipush (v := (100 : Int32)) hx hb dJ13_getChars_11360_102 (by decide) ?_
              refine lv_imul hx hb dJ13_getChars_11360_104 ?_
              refine lv_iload hx hb dJ13_getChars_11360_105 (lv_at hl 6 rfl) ?_
              refine lv_isub hx hb dJ13_getChars_11360_107 ?_
              refine lv_istore (lv' := [(6, .int (((v10_3 / (100 : Int32)) * (100 : Int32)) - v10_3)), (9, .int (v10_3 / (100 : Int32))), (0, .long v0_2), (2, .int p1), (3, .ref t2), (7, .int v7_3), (8, .int (z01 s0j0)), (10, .int v10_3)]) hx hb dJ13_getChars_11360_108 hl (by decide) rfl (fun ls hl => ?_)
              refine lv_iload hx hb dJ13_getChars_11360_110 (lv_at hl 1 rfl) ?_
              refine lv_istore (lv' := [(10, .int (v10_3 / (100 : Int32))), (6, .int (((v10_3 / (100 : Int32)) * (100 : Int32)) - v10_3)), (9, .int (v10_3 / (100 : Int32))), (0, .long v0_2), (2, .int p1), (3, .ref t2), (7, .int v7_3), (8, .int (z01 s0j0))]) hx hb dJ13_getChars_11360_112 hl (by decide) rfl (fun ls hl => ?_)
              refine lv_aload_n hx hb dJ13_getChars_11360_114 rfl (lv_at hl 5 rfl) ?_
              refine lv_iinc (v := (v7_3 + (-1 : Int32))) (lv' := [(7, .int (v7_3 + (-1 : Int32))), (10, .int (v10_3 / (100 : Int32))), (6, .int (((v10_3 / (100 : Int32)) * (100 : Int32)) - v10_3)), (9, .int (v10_3 / (100 : Int32))), (0, .long v0_2), (2, .int p1), (3, .ref t2), (8, .int (z01 s0j0))]) hx hb dJ13_getChars_11360_115 hl (k := 6) rfl rfl (by decide) rfl (fun ls hl => ?_)
              refine lv_iload hx hb dJ13_getChars_11360_118 (lv_at hl 0 rfl) ?_
              refine va_gets hx hb hOz hS hown kf_133 (fun _ h9 => h9) dJ13_getChars_11360_120 ?_
              refine lv_iload hx hb dJ13_getChars_11360_123 (lv_at hl 2 rfl) ?_
              obtain ⟨z125, h⟩ := zg_some h
              refine va_tb hx hb hOt hS z125 (v := .int (zDO (((v10_3 / (100 : Int32)) * (100 : Int32)) - v10_3).toNatClampNeg)) rfl dJ13_getChars_11360_125 ?_
              obtain ⟨z126, h⟩ := zg_some h
              refine va_bast hx hb hK hP hD hS 0 3 rfl rfl z126 dJ13_getChars_11360_126 (fun H locs hP hD hS => ?_)
              replace hP : va_P D vwCl ([(t2, .inl (cB, n2, .inl (upd f0_3 (v7_3 + (-1 : Int32)).toNatClampNeg (vp_nar .byte (zDO (((v10_3 / (100 : Int32)) * (100 : Int32)) - v10_3).toNatClampNeg)))))] : va_W) H := hP
              replace hD : va_D A ([(t2, .inl (cB, n2, .inl (upd f0_3 (v7_3 + (-1 : Int32)).toNatClampNeg (vp_nar .byte (zDO (((v10_3 / (100 : Int32)) * (100 : Int32)) - v10_3).toNatClampNeg)))))] : va_W) := hD
              refine lv_aload_n hx hb dJ13_getChars_11360_127 rfl (lv_at hl 6 rfl) ?_
              refine lv_iinc (v := ((v7_3 + (-1 : Int32)) + (-1 : Int32))) (lv' := [(7, .int ((v7_3 + (-1 : Int32)) + (-1 : Int32))), (10, .int (v10_3 / (100 : Int32))), (6, .int (((v10_3 / (100 : Int32)) * (100 : Int32)) - v10_3)), (9, .int (v10_3 / (100 : Int32))), (0, .long v0_2), (2, .int p1), (3, .ref t2), (8, .int (z01 s0j0))]) hx hb dJ13_getChars_11360_128 hl (k := 0) rfl rfl (by decide) rfl (fun ls hl => ?_)
              refine lv_iload hx hb dJ13_getChars_11360_131 (lv_at hl 0 rfl) ?_
              refine va_gets hx hb hTz hS hown kf_137 (fun _ h9 => h9) dJ13_getChars_11360_133 ?_
              refine lv_iload hx hb dJ13_getChars_11360_136 (lv_at hl 2 rfl) ?_
              obtain ⟨z138, h⟩ := zg_some h
              refine va_tb hx hb hTt hS z138 (v := .int (zDT (((v10_3 / (100 : Int32)) * (100 : Int32)) - v10_3).toNatClampNeg)) rfl dJ13_getChars_11360_138 ?_
              obtain ⟨z139, h⟩ := zg_some h
              refine va_bast hx hb hK hP hD hS 0 3 rfl rfl z139 dJ13_getChars_11360_139 (fun H locs hP hD hS => ?_)
              replace hP : va_P D vwCl ([(t2, .inl (cB, n2, .inl (upd (upd f0_3 (v7_3 + (-1 : Int32)).toNatClampNeg (vp_nar .byte (zDO (((v10_3 / (100 : Int32)) * (100 : Int32)) - v10_3).toNatClampNeg))) ((v7_3 + (-1 : Int32)) + (-1 : Int32)).toNatClampNeg (vp_nar .byte (zDT (((v10_3 / (100 : Int32)) * (100 : Int32)) - v10_3).toNatClampNeg)))))] : va_W) H := hP
              replace hD : va_D A ([(t2, .inl (cB, n2, .inl (upd (upd f0_3 (v7_3 + (-1 : Int32)).toNatClampNeg (vp_nar .byte (zDO (((v10_3 / (100 : Int32)) * (100 : Int32)) - v10_3).toNatClampNeg))) ((v7_3 + (-1 : Int32)) + (-1 : Int32)).toNatClampNeg (vp_nar .byte (zDT (((v10_3 / (100 : Int32)) * (100 : Int32)) - v10_3).toNatClampNeg)))))] : va_W) := hD
              refine lv_goto (tgt := 86) hx hb dJ13_getChars_11360_140 (by decide) ?_
              exact hGW _ _ _ _ _ (ih3 ((v7_3 + (-1 : Int32)) + (-1 : Int32)) (v10_3 / (100 : Int32)) (upd (upd f0_3 (v7_3 + (-1 : Int32)).toNatClampNeg (vp_nar .byte (zDO (((v10_3 / (100 : Int32)) * (100 : Int32)) - v10_3).toNatClampNeg))) ((v7_3 + (-1 : Int32)) + (-1 : Int32)).toNatClampNeg (vp_nar .byte (zDT (((v10_3 / (100 : Int32)) * (100 : Int32)) - v10_3).toNatClampNeg))) _ _ ls hP hD hS (lv_sub hl [4, 5, 6, 0, 7, 1] rfl) h)
        exact hGW _ _ _ _ _ (L3 _ X3 F v7_2 (v0_2.toInt32) f0_2 _ _ ls hP hD hS (lv_sub hl [1, 2, 3, 4, 5, 0] rfl) h)
      have L2 : ∀ (K2 : Int64 → Int32 → (Nat → Int32) → Option (Int32 × (Nat → Int32))) (HX2 : ∀ (v0_2 : Int64) (v7_2 : Int32) (f0_2 : Nat → Int32) (H : Heap) (locs : List Loc) (ls : Array Slot), va_P D vwCl ([(t2, .inl (cB, n2, .inl f0_2))] : va_W) H → va_D A ([(t2, .inl (cB, n2, .inl f0_2))] : va_W) → va_S A s.heap H locs → lv_has ls 11 [(0, .long v0_2), (2, .int p1), (3, .ref t2), (7, .int v7_2), (8, .int (z01 s0j0))] → K2 v0_2 v7_2 f0_2 = some (r, T0') → G H locs 0 0 (F0 m 82 ls [])) (fu2 : Nat) (v0_2 : Int64) (v7_2 : Int32) (f0_2 : Nat → Int32) (H : Heap) (locs : List Loc) (ls : Array Slot), va_P D vwCl ([(t2, .inl (cB, n2, .inl f0_2))] : va_W) H → va_D A ([(t2, .inl (cB, n2, .inl f0_2))] : va_W) → va_S A s.heap H locs → lv_has ls 11 [(0, .long v0_2), (2, .int p1), (3, .ref t2), (7, .int v7_2), (8, .int (z01 s0j0))] → p_J13_getChars_11360_L2 F n2 K2 fu2 v0_2 v7_2 f0_2 = some (r, T0') → G H locs 0 0 (F0 m 24 ls []) := by
        intro K2 HX2 fu2
        induction fu2 with
        | zero =>
          intro v0_2 v7_2 f0_2 H locs ls hP hD hS hl h
          exact (zno h).elim
        | succ fu2 ih2 =>
          intro v0_2 v7_2 f0_2 H locs ls hP hD hS hl h
          refine hG _ _ _ _ _ ?_
          unfold p_J13_getChars_11360_L2 at h
          refine lv_lload_n hx hb dJ13_getChars_11360_24 rfl (lv_at hl 0 rfl) ?_
          refine lv_ldc2 hx hb hown kc_129 dJ13_getChars_11360_25 ?_
          refine W.lcmp hx hb dJ13_getChars_11360_28 ?_
          refine lv_if_gt (tgt := 82) hx hb dJ13_getChars_11360_29 (by decide) (fun c29 => ?_) (fun c29 => ?_)
          · replace h := zif_t h c29
            exact hGW _ _ _ _ _ (HX2 v0_2 v7_2 f0_2 _ _ ls hP hD hS (lv_sub hl [0, 1, 2, 3, 4] rfl) h)
          · replace h := zif_f h c29
            refine lv_lload_n hx hb dJ13_getChars_11360_32 rfl (lv_at hl 0 rfl) ?_
            refine lv_ldc2 hx hb hown kc_131 dJ13_getChars_11360_33 ?_
            refine lv_ldiv hx hb dJ13_getChars_11360_36 (by decide) ?_
            refine lv_lstore (lv' := [(4, .long (v0_2 / (100 : Int64))), (0, .long v0_2), (2, .int p1), (3, .ref t2), (7, .int v7_2), (8, .int (z01 s0j0))]) hx hb dJ13_getChars_11360_37 hl (by decide) rfl (fun ls hl => ?_)
            refine lv_lload hx hb dJ13_getChars_11360_39 (lv_at hl 0 rfl) ?_
            refine lv_ldc2 hx hb hown kc_131 dJ13_getChars_11360_41 ?_
            refine lv_lmul hx hb dJ13_getChars_11360_44 ?_
            refine lv_lload_n hx hb dJ13_getChars_11360_45 rfl (lv_at hl 1 rfl) ?_
            refine lv_lsub hx hb dJ13_getChars_11360_46 ?_
            refine lv_l2i (v := (((v0_2 / (100 : Int64)) * (100 : Int64)) - v0_2).toInt32) hx hb dJ13_getChars_11360_47 rfl ?_
            refine lv_istore (lv' := [(6, .int ((((v0_2 / (100 : Int64)) * (100 : Int64)) - v0_2).toInt32)), (4, .long (v0_2 / (100 : Int64))), (0, .long v0_2), (2, .int p1), (3, .ref t2), (7, .int v7_2), (8, .int (z01 s0j0))]) hx hb dJ13_getChars_11360_48 hl (by decide) rfl (fun ls hl => ?_)
            refine lv_lload hx hb dJ13_getChars_11360_50 (lv_at hl 1 rfl) ?_
            refine lv_lstore_n (lv' := [(0, .long (v0_2 / (100 : Int64))), (6, .int ((((v0_2 / (100 : Int64)) * (100 : Int64)) - v0_2).toInt32)), (4, .long (v0_2 / (100 : Int64))), (2, .int p1), (3, .ref t2), (7, .int v7_2), (8, .int (z01 s0j0))]) hx hb dJ13_getChars_11360_52 rfl hl (by decide) rfl (fun ls hl => ?_)
            refine lv_aload_n hx hb dJ13_getChars_11360_53 rfl (lv_at hl 4 rfl) ?_
            refine lv_iinc (v := (v7_2 + (-1 : Int32))) (lv' := [(7, .int (v7_2 + (-1 : Int32))), (0, .long (v0_2 / (100 : Int64))), (6, .int ((((v0_2 / (100 : Int64)) * (100 : Int64)) - v0_2).toInt32)), (4, .long (v0_2 / (100 : Int64))), (2, .int p1), (3, .ref t2), (8, .int (z01 s0j0))]) hx hb dJ13_getChars_11360_54 hl (k := 5) rfl rfl (by decide) rfl (fun ls hl => ?_)
            refine lv_iload hx hb dJ13_getChars_11360_57 (lv_at hl 0 rfl) ?_
            refine va_gets hx hb hOz hS hown kf_133 (fun _ h9 => h9) dJ13_getChars_11360_59 ?_
            refine lv_iload hx hb dJ13_getChars_11360_62 (lv_at hl 2 rfl) ?_
            obtain ⟨z64, h⟩ := zg_some h
            refine va_tb hx hb hOt hS z64 (v := .int (zDO ((((v0_2 / (100 : Int64)) * (100 : Int64)) - v0_2).toInt32).toNatClampNeg)) rfl dJ13_getChars_11360_64 ?_
            obtain ⟨z65, h⟩ := zg_some h
            refine va_bast hx hb hK hP hD hS 0 3 rfl rfl z65 dJ13_getChars_11360_65 (fun H locs hP hD hS => ?_)
            replace hP : va_P D vwCl ([(t2, .inl (cB, n2, .inl (upd f0_2 (v7_2 + (-1 : Int32)).toNatClampNeg (vp_nar .byte (zDO ((((v0_2 / (100 : Int64)) * (100 : Int64)) - v0_2).toInt32).toNatClampNeg)))))] : va_W) H := hP
            replace hD : va_D A ([(t2, .inl (cB, n2, .inl (upd f0_2 (v7_2 + (-1 : Int32)).toNatClampNeg (vp_nar .byte (zDO ((((v0_2 / (100 : Int64)) * (100 : Int64)) - v0_2).toInt32).toNatClampNeg)))))] : va_W) := hD
            refine lv_aload_n hx hb dJ13_getChars_11360_66 rfl (lv_at hl 5 rfl) ?_
            refine lv_iinc (v := ((v7_2 + (-1 : Int32)) + (-1 : Int32))) (lv' := [(7, .int ((v7_2 + (-1 : Int32)) + (-1 : Int32))), (0, .long (v0_2 / (100 : Int64))), (6, .int ((((v0_2 / (100 : Int64)) * (100 : Int64)) - v0_2).toInt32)), (4, .long (v0_2 / (100 : Int64))), (2, .int p1), (3, .ref t2), (8, .int (z01 s0j0))]) hx hb dJ13_getChars_11360_67 hl (k := 0) rfl rfl (by decide) rfl (fun ls hl => ?_)
            refine lv_iload hx hb dJ13_getChars_11360_70 (lv_at hl 0 rfl) ?_
            refine va_gets hx hb hTz hS hown kf_137 (fun _ h9 => h9) dJ13_getChars_11360_72 ?_
            refine lv_iload hx hb dJ13_getChars_11360_75 (lv_at hl 2 rfl) ?_
            obtain ⟨z77, h⟩ := zg_some h
            refine va_tb hx hb hTt hS z77 (v := .int (zDT ((((v0_2 / (100 : Int64)) * (100 : Int64)) - v0_2).toInt32).toNatClampNeg)) rfl dJ13_getChars_11360_77 ?_
            obtain ⟨z78, h⟩ := zg_some h
            refine va_bast hx hb hK hP hD hS 0 3 rfl rfl z78 dJ13_getChars_11360_78 (fun H locs hP hD hS => ?_)
            replace hP : va_P D vwCl ([(t2, .inl (cB, n2, .inl (upd (upd f0_2 (v7_2 + (-1 : Int32)).toNatClampNeg (vp_nar .byte (zDO ((((v0_2 / (100 : Int64)) * (100 : Int64)) - v0_2).toInt32).toNatClampNeg))) ((v7_2 + (-1 : Int32)) + (-1 : Int32)).toNatClampNeg (vp_nar .byte (zDT ((((v0_2 / (100 : Int64)) * (100 : Int64)) - v0_2).toInt32).toNatClampNeg)))))] : va_W) H := hP
            replace hD : va_D A ([(t2, .inl (cB, n2, .inl (upd (upd f0_2 (v7_2 + (-1 : Int32)).toNatClampNeg (vp_nar .byte (zDO ((((v0_2 / (100 : Int64)) * (100 : Int64)) - v0_2).toInt32).toNatClampNeg))) ((v7_2 + (-1 : Int32)) + (-1 : Int32)).toNatClampNeg (vp_nar .byte (zDT ((((v0_2 / (100 : Int64)) * (100 : Int64)) - v0_2).toInt32).toNatClampNeg)))))] : va_W) := hD
            refine lv_goto (tgt := 24) hx hb dJ13_getChars_11360_79 (by decide) ?_
            exact hGW _ _ _ _ _ (ih2 (v0_2 / (100 : Int64)) ((v7_2 + (-1 : Int32)) + (-1 : Int32)) (upd (upd f0_2 (v7_2 + (-1 : Int32)).toNatClampNeg (vp_nar .byte (zDO ((((v0_2 / (100 : Int64)) * (100 : Int64)) - v0_2).toInt32).toNatClampNeg))) ((v7_2 + (-1 : Int32)) + (-1 : Int32)).toNatClampNeg (vp_nar .byte (zDT ((((v0_2 / (100 : Int64)) * (100 : Int64)) - v0_2).toInt32).toNatClampNeg))) _ _ ls hP hD hS (lv_sub hl [1, 4, 5, 0, 6] rfl) h)
      exact hGW _ _ _ _ _ (L2 _ X2 F (-p0) p1 p2 _ _ ls hP hD hS (lv_sub hl [0, 2, 3, 4, 1] rfl) h)
  replace h := zlt_h h
  refine lv_if_ge (tgt := 13) hx hb dJ13_getChars_11360_6 (by decide) (fun c6 => ?_) (fun c6 => ?_)
  · replace h := zif_t h c6
    refine lv_iconst (v := (0 : Int32)) hx hb dJ13_getChars_11360_13 (by decide) ?_
    exact hGW _ _ _ _ _ (J0 false _ _ ls hP hD hS (lv_sub hl [1, 2, 3, 0] rfl) h)
  · replace h := zif_f h c6
    refine lv_iconst (v := (1 : Int32)) hx hb dJ13_getChars_11360_9 (by decide) ?_
    refine lv_goto (tgt := 14) hx hb dJ13_getChars_11360_10 (by decide) ?_
    exact hGW _ _ _ _ _ (J0 true _ _ ls hP hD hS (lv_sub hl [1, 2, 3, 0] rfl) h)

noncomputable def p_J6_getChars_ba4f3_L0 (F : Nat) (n2 : Nat) (k : Int32 → Int32 → (Nat → Int32) → Option (Int32 × (Nat → Int32))) : Nat → Int32 → Int32 → (Nat → Int32) → Option (Int32 × (Nat → Int32))
  | 0, _, _, _ => none
  | n + 1, v0_0, v5_0, f0_0 => (if (-100 : Int32) < v0_0 then (k v0_0 v5_0 f0_0) else (zg ((((v0_0 / (100 : Int32)) * (100 : Int32)) - v0_0) < 0 ∨ 100 ≤ (((v0_0 / (100 : Int32)) * (100 : Int32)) - v0_0).toNatClampNeg) (zg ((v5_0 + (-1 : Int32)) < 0 ∨ n2 ≤ (v5_0 + (-1 : Int32)).toNatClampNeg) (zg ((((v0_0 / (100 : Int32)) * (100 : Int32)) - v0_0) < 0 ∨ 100 ≤ (((v0_0 / (100 : Int32)) * (100 : Int32)) - v0_0).toNatClampNeg) (zg (((v5_0 + (-1 : Int32)) + (-1 : Int32)) < 0 ∨ n2 ≤ ((v5_0 + (-1 : Int32)) + (-1 : Int32)).toNatClampNeg) (p_J6_getChars_ba4f3_L0 F n2 k n (v0_0 / (100 : Int32)) ((v5_0 + (-1 : Int32)) + (-1 : Int32)) (upd (upd f0_0 (v5_0 + (-1 : Int32)).toNatClampNeg (vp_nar .byte (zDO (((v0_0 / (100 : Int32)) * (100 : Int32)) - v0_0).toNatClampNeg))) ((v5_0 + (-1 : Int32)) + (-1 : Int32)).toNatClampNeg (vp_nar .byte (zDT (((v0_0 / (100 : Int32)) * (100 : Int32)) - v0_0).toNatClampNeg)))))))))
noncomputable def p_J6_getChars_ba4f3_L1 (F : Nat) (n2 : Nat) (k : Int32 → Int32 → (Nat → Int32) → Option (Int32 × (Nat → Int32))) : Nat → Int32 → Int32 → (Nat → Int32) → Option (Int32 × (Nat → Int32))
  | 0, _, _, _ => none
  | n + 1, v0_1, v5_1, f0_1 => (if (-100 : Int32) < v0_1 then (k v0_1 v5_1 f0_1) else (zg ((((v0_1 / (100 : Int32)) * (100 : Int32)) - v0_1) < 0 ∨ 100 ≤ (((v0_1 / (100 : Int32)) * (100 : Int32)) - v0_1).toNatClampNeg) (zg ((v5_1 + (-1 : Int32)) < 0 ∨ n2 ≤ (v5_1 + (-1 : Int32)).toNatClampNeg) (zg ((((v0_1 / (100 : Int32)) * (100 : Int32)) - v0_1) < 0 ∨ 100 ≤ (((v0_1 / (100 : Int32)) * (100 : Int32)) - v0_1).toNatClampNeg) (zg (((v5_1 + (-1 : Int32)) + (-1 : Int32)) < 0 ∨ n2 ≤ ((v5_1 + (-1 : Int32)) + (-1 : Int32)).toNatClampNeg) (p_J6_getChars_ba4f3_L1 F n2 k n (v0_1 / (100 : Int32)) ((v5_1 + (-1 : Int32)) + (-1 : Int32)) (upd (upd f0_1 (v5_1 + (-1 : Int32)).toNatClampNeg (vp_nar .byte (zDO (((v0_1 / (100 : Int32)) * (100 : Int32)) - v0_1).toNatClampNeg))) ((v5_1 + (-1 : Int32)) + (-1 : Int32)).toNatClampNeg (vp_nar .byte (zDT (((v0_1 / (100 : Int32)) * (100 : Int32)) - v0_1).toNatClampNeg)))))))))
noncomputable def p_J6_getChars_ba4f3 (F : Nat) (p0 : Int32) (p1 : Int32) (n2 : Nat) (p2 : Nat → Int32) : Option (Int32 × (Nat → Int32)) := (zlt (fun (s0j0 : Bool) => (if ¬ (z01 s0j0) = 0 then (p_J6_getChars_ba4f3_L0 F n2 (fun v0_0 v5_0 f0_0 => (zg ((-v0_0) < 0 ∨ 100 ≤ (-v0_0).toNatClampNeg) (zg ((v5_0 + (-1 : Int32)) < 0 ∨ n2 ≤ (v5_0 + (-1 : Int32)).toNatClampNeg) (if (-9 : Int32) ≤ v0_0 then (if (z01 s0j0) = 0 then (some ((v5_0 + (-1 : Int32)), (upd f0_0 (v5_0 + (-1 : Int32)).toNatClampNeg (vp_nar .byte (zDO (-v0_0).toNatClampNeg))))) else (zg (((v5_0 + (-1 : Int32)) + (-1 : Int32)) < 0 ∨ n2 ≤ ((v5_0 + (-1 : Int32)) + (-1 : Int32)).toNatClampNeg) (some (((v5_0 + (-1 : Int32)) + (-1 : Int32)), (upd (upd f0_0 (v5_0 + (-1 : Int32)).toNatClampNeg (vp_nar .byte (zDO (-v0_0).toNatClampNeg))) ((v5_0 + (-1 : Int32)) + (-1 : Int32)).toNatClampNeg (vp_nar .byte (45 : Int32))))))) else (zg ((-v0_0) < 0 ∨ 100 ≤ (-v0_0).toNatClampNeg) (zg (((v5_0 + (-1 : Int32)) + (-1 : Int32)) < 0 ∨ n2 ≤ ((v5_0 + (-1 : Int32)) + (-1 : Int32)).toNatClampNeg) (if (z01 s0j0) = 0 then (some (((v5_0 + (-1 : Int32)) + (-1 : Int32)), (upd (upd f0_0 (v5_0 + (-1 : Int32)).toNatClampNeg (vp_nar .byte (zDO (-v0_0).toNatClampNeg))) ((v5_0 + (-1 : Int32)) + (-1 : Int32)).toNatClampNeg (vp_nar .byte (zDT (-v0_0).toNatClampNeg))))) else (zg ((((v5_0 + (-1 : Int32)) + (-1 : Int32)) + (-1 : Int32)) < 0 ∨ n2 ≤ (((v5_0 + (-1 : Int32)) + (-1 : Int32)) + (-1 : Int32)).toNatClampNeg) (some ((((v5_0 + (-1 : Int32)) + (-1 : Int32)) + (-1 : Int32)), (upd (upd (upd f0_0 (v5_0 + (-1 : Int32)).toNatClampNeg (vp_nar .byte (zDO (-v0_0).toNatClampNeg))) ((v5_0 + (-1 : Int32)) + (-1 : Int32)).toNatClampNeg (vp_nar .byte (zDT (-v0_0).toNatClampNeg))) (((v5_0 + (-1 : Int32)) + (-1 : Int32)) + (-1 : Int32)).toNatClampNeg (vp_nar .byte (45 : Int32))))))))))))) F p0 p1 p2) else (p_J6_getChars_ba4f3_L1 F n2 (fun v0_1 v5_1 f0_1 => (zg ((-v0_1) < 0 ∨ 100 ≤ (-v0_1).toNatClampNeg) (zg ((v5_1 + (-1 : Int32)) < 0 ∨ n2 ≤ (v5_1 + (-1 : Int32)).toNatClampNeg) (if (-9 : Int32) ≤ v0_1 then (if (z01 s0j0) = 0 then (some ((v5_1 + (-1 : Int32)), (upd f0_1 (v5_1 + (-1 : Int32)).toNatClampNeg (vp_nar .byte (zDO (-v0_1).toNatClampNeg))))) else (zg (((v5_1 + (-1 : Int32)) + (-1 : Int32)) < 0 ∨ n2 ≤ ((v5_1 + (-1 : Int32)) + (-1 : Int32)).toNatClampNeg) (some (((v5_1 + (-1 : Int32)) + (-1 : Int32)), (upd (upd f0_1 (v5_1 + (-1 : Int32)).toNatClampNeg (vp_nar .byte (zDO (-v0_1).toNatClampNeg))) ((v5_1 + (-1 : Int32)) + (-1 : Int32)).toNatClampNeg (vp_nar .byte (45 : Int32))))))) else (zg ((-v0_1) < 0 ∨ 100 ≤ (-v0_1).toNatClampNeg) (zg (((v5_1 + (-1 : Int32)) + (-1 : Int32)) < 0 ∨ n2 ≤ ((v5_1 + (-1 : Int32)) + (-1 : Int32)).toNatClampNeg) (if (z01 s0j0) = 0 then (some (((v5_1 + (-1 : Int32)) + (-1 : Int32)), (upd (upd f0_1 (v5_1 + (-1 : Int32)).toNatClampNeg (vp_nar .byte (zDO (-v0_1).toNatClampNeg))) ((v5_1 + (-1 : Int32)) + (-1 : Int32)).toNatClampNeg (vp_nar .byte (zDT (-v0_1).toNatClampNeg))))) else (zg ((((v5_1 + (-1 : Int32)) + (-1 : Int32)) + (-1 : Int32)) < 0 ∨ n2 ≤ (((v5_1 + (-1 : Int32)) + (-1 : Int32)) + (-1 : Int32)).toNatClampNeg) (some ((((v5_1 + (-1 : Int32)) + (-1 : Int32)) + (-1 : Int32)), (upd (upd (upd f0_1 (v5_1 + (-1 : Int32)).toNatClampNeg (vp_nar .byte (zDO (-v0_1).toNatClampNeg))) ((v5_1 + (-1 : Int32)) + (-1 : Int32)).toNatClampNeg (vp_nar .byte (zDT (-v0_1).toNatClampNeg))) (((v5_1 + (-1 : Int32)) + (-1 : Int32)) + (-1 : Int32)).toNatClampNeg (vp_nar .byte (45 : Int32))))))))))))) F (-p0) p1 p2))) (fun jf0 => (if 0 ≤ p0 then (jf0 false) else (jf0 true))))
theorem hdS_J6_getChars_ba4f3 : yJ6_getChars_ba4f3.cls ≠ "java/lang/invoke/MethodHandle" ∧ yJ6_getChars_ba4f3.cls ≠ "java/lang/invoke/VarHandle" ∧ (parseMethodDescriptor yJ6_getChars_ba4f3.desc).map (fun d => d.parameters.length) = some 3 := by decide +kernel
set_option maxHeartbeats 4000000 in
set_option maxRecDepth 100000 in
theorem c_J6_getChars_ba4f3 (l : Launch) (D : va_G) (cJ cI cO cB : ClassId) (F : Nat) (p0 : Int32) (p1 : Int32) (t2 : Nat) (n2 : Nat) (p2 : Nat → Int32) (r : Int32) (T0' : Nat → Int32) (h : p_J6_getChars_ba4f3 F p0 p1 n2 p2 = some (r, T0')) : zGi l yJ6_getChars_ba4f3 wsJ6_getChars_ba4f3 0 0 0 0 (zPx D (zT cJ cI cO cB) ([(t2, .inl (cB, n2, .inl p2))] : va_W)) [.int p0, .int p1, .ref t2] D (zT cJ cI cO cB) ([(t2, .inl (cB, n2, .inl p2))] : va_W) ([(t2, .inl (cB, n2, .inl T0'))] : va_W) r := by
  intro sz
  delta zQi
  refine Met.ofW (cc := cJ6_getChars_ba4f3) (maxL := 7) (ret := (some .int)) (by decide) rfl ?_
  intro p e s m args below meth c s₁ B hml hv
  obtain ⟨rfl, ⟨hsz, hP, hK, hD0⟩, hE⟩ := hv
  have hx := B.exec
  have hb := B.bytes
  have hr := B.returns
  have hts := atoms_spec (ws := wsJ6_getChars_ba4f3) B.pre
  have hown : s.vm.findClass RJ6 = some m.cls := findClass_of_methodNamed B.named
  have hlocks := B.notSynchronized
  subst hsz
  have hD := hD0.self (sz := s.heap.size)
  generalize hAe : va_A ([(t2, .inl (cB, n2, .inl p2))] : va_W) s.heap.size = A at hD hE ⊢
  have hA : ∀ q : Nat, s.heap.size ≤ q → A q := fun q h => by rw [← hAe]; exact Or.inr h
  have hS : va_S A s.heap s.heap [] := va_S.rf
  have hl := lv_entry ([.int p0, .int p1, .ref t2]) (n := 7) (Nat.le_of_ble_eq_true rfl)
  rw [lg_entry_eq]
  generalize (lg_sl ([.int p0, .int p1, .ref t2]) ++ List.replicate (7 - (lg_sl ([.int p0, .int p1, .ref t2])).length) Slot.unset).toArray = ls at hl ⊢
  replace hl : lv_has ls 7 [(0, .int p0), (1, .int p1), (2, .ref t2)] := hl
  obtain ⟨tT, tO, hTz, hTt, hOz, hOt⟩ := hE.2.2.2.2
  have kf_83 := hts (.fieldLink RJ6 83 "java/lang/Integer" "DigitOnes" "[B") (zmem 1 rfl)
  have kf_87 := hts (.fieldLink RJ6 87 "java/lang/Integer" "DigitTens" "[B") (zmem 2 rfl)
  replace h : (zlt (fun (s0j0 : Bool) => (if ¬ (z01 s0j0) = 0 then (p_J6_getChars_ba4f3_L0 F n2 (fun v0_0 v5_0 f0_0 => (zg ((-v0_0) < 0 ∨ 100 ≤ (-v0_0).toNatClampNeg) (zg ((v5_0 + (-1 : Int32)) < 0 ∨ n2 ≤ (v5_0 + (-1 : Int32)).toNatClampNeg) (if (-9 : Int32) ≤ v0_0 then (if (z01 s0j0) = 0 then (some ((v5_0 + (-1 : Int32)), (upd f0_0 (v5_0 + (-1 : Int32)).toNatClampNeg (vp_nar .byte (zDO (-v0_0).toNatClampNeg))))) else (zg (((v5_0 + (-1 : Int32)) + (-1 : Int32)) < 0 ∨ n2 ≤ ((v5_0 + (-1 : Int32)) + (-1 : Int32)).toNatClampNeg) (some (((v5_0 + (-1 : Int32)) + (-1 : Int32)), (upd (upd f0_0 (v5_0 + (-1 : Int32)).toNatClampNeg (vp_nar .byte (zDO (-v0_0).toNatClampNeg))) ((v5_0 + (-1 : Int32)) + (-1 : Int32)).toNatClampNeg (vp_nar .byte (45 : Int32))))))) else (zg ((-v0_0) < 0 ∨ 100 ≤ (-v0_0).toNatClampNeg) (zg (((v5_0 + (-1 : Int32)) + (-1 : Int32)) < 0 ∨ n2 ≤ ((v5_0 + (-1 : Int32)) + (-1 : Int32)).toNatClampNeg) (if (z01 s0j0) = 0 then (some (((v5_0 + (-1 : Int32)) + (-1 : Int32)), (upd (upd f0_0 (v5_0 + (-1 : Int32)).toNatClampNeg (vp_nar .byte (zDO (-v0_0).toNatClampNeg))) ((v5_0 + (-1 : Int32)) + (-1 : Int32)).toNatClampNeg (vp_nar .byte (zDT (-v0_0).toNatClampNeg))))) else (zg ((((v5_0 + (-1 : Int32)) + (-1 : Int32)) + (-1 : Int32)) < 0 ∨ n2 ≤ (((v5_0 + (-1 : Int32)) + (-1 : Int32)) + (-1 : Int32)).toNatClampNeg) (some ((((v5_0 + (-1 : Int32)) + (-1 : Int32)) + (-1 : Int32)), (upd (upd (upd f0_0 (v5_0 + (-1 : Int32)).toNatClampNeg (vp_nar .byte (zDO (-v0_0).toNatClampNeg))) ((v5_0 + (-1 : Int32)) + (-1 : Int32)).toNatClampNeg (vp_nar .byte (zDT (-v0_0).toNatClampNeg))) (((v5_0 + (-1 : Int32)) + (-1 : Int32)) + (-1 : Int32)).toNatClampNeg (vp_nar .byte (45 : Int32))))))))))))) F p0 p1 p2) else (p_J6_getChars_ba4f3_L1 F n2 (fun v0_1 v5_1 f0_1 => (zg ((-v0_1) < 0 ∨ 100 ≤ (-v0_1).toNatClampNeg) (zg ((v5_1 + (-1 : Int32)) < 0 ∨ n2 ≤ (v5_1 + (-1 : Int32)).toNatClampNeg) (if (-9 : Int32) ≤ v0_1 then (if (z01 s0j0) = 0 then (some ((v5_1 + (-1 : Int32)), (upd f0_1 (v5_1 + (-1 : Int32)).toNatClampNeg (vp_nar .byte (zDO (-v0_1).toNatClampNeg))))) else (zg (((v5_1 + (-1 : Int32)) + (-1 : Int32)) < 0 ∨ n2 ≤ ((v5_1 + (-1 : Int32)) + (-1 : Int32)).toNatClampNeg) (some (((v5_1 + (-1 : Int32)) + (-1 : Int32)), (upd (upd f0_1 (v5_1 + (-1 : Int32)).toNatClampNeg (vp_nar .byte (zDO (-v0_1).toNatClampNeg))) ((v5_1 + (-1 : Int32)) + (-1 : Int32)).toNatClampNeg (vp_nar .byte (45 : Int32))))))) else (zg ((-v0_1) < 0 ∨ 100 ≤ (-v0_1).toNatClampNeg) (zg (((v5_1 + (-1 : Int32)) + (-1 : Int32)) < 0 ∨ n2 ≤ ((v5_1 + (-1 : Int32)) + (-1 : Int32)).toNatClampNeg) (if (z01 s0j0) = 0 then (some (((v5_1 + (-1 : Int32)) + (-1 : Int32)), (upd (upd f0_1 (v5_1 + (-1 : Int32)).toNatClampNeg (vp_nar .byte (zDO (-v0_1).toNatClampNeg))) ((v5_1 + (-1 : Int32)) + (-1 : Int32)).toNatClampNeg (vp_nar .byte (zDT (-v0_1).toNatClampNeg))))) else (zg ((((v5_1 + (-1 : Int32)) + (-1 : Int32)) + (-1 : Int32)) < 0 ∨ n2 ≤ (((v5_1 + (-1 : Int32)) + (-1 : Int32)) + (-1 : Int32)).toNatClampNeg) (some ((((v5_1 + (-1 : Int32)) + (-1 : Int32)) + (-1 : Int32)), (upd (upd (upd f0_1 (v5_1 + (-1 : Int32)).toNatClampNeg (vp_nar .byte (zDO (-v0_1).toNatClampNeg))) ((v5_1 + (-1 : Int32)) + (-1 : Int32)).toNatClampNeg (vp_nar .byte (zDT (-v0_1).toNatClampNeg))) (((v5_1 + (-1 : Int32)) + (-1 : Int32)) + (-1 : Int32)).toNatClampNeg (vp_nar .byte (45 : Int32))))))))))))) F (-p0) p1 p2))) (fun jf0 => (if 0 ≤ p0 then (jf0 false) else (jf0 true)))) = some (r, T0') := h
  refine zabs (fun G hG hGW => ?_)
  obtain ⟨H, hHe⟩ : ∃ H, H = s.heap := ⟨_, rfl⟩
  rw [← hHe] at hP
  replace hS : va_S A s.heap H [] := by rw [hHe]; exact hS
  refine zheap hHe ?_
  refine lv_iload_n hx hb dJ6_getChars_ba4f3_0 rfl (lv_at hl 1 rfl) ?_
  refine lv_istore (lv' := [(5, .int p1), (0, .int p0), (1, .int p1), (2, .ref t2)]) hx hb dJ6_getChars_ba4f3_1 hl (by decide) rfl (fun ls hl => ?_)
  refine lv_iload_n hx hb dJ6_getChars_ba4f3_3 rfl (lv_at hl 1 rfl) ?_
  have J0 : ∀ (s0j0 : Bool) (H : Heap) (locs : List Loc) (ls : Array Slot), va_P D vwCl ([(t2, .inl (cB, n2, .inl p2))] : va_W) H → va_D A ([(t2, .inl (cB, n2, .inl p2))] : va_W) → va_S A s.heap H locs → lv_has ls 7 [(0, .int p0), (1, .int p1), (2, .ref t2), (5, .int p1)] → (if ¬ (z01 s0j0) = 0 then (p_J6_getChars_ba4f3_L0 F n2 (fun v0_0 v5_0 f0_0 => (zg ((-v0_0) < 0 ∨ 100 ≤ (-v0_0).toNatClampNeg) (zg ((v5_0 + (-1 : Int32)) < 0 ∨ n2 ≤ (v5_0 + (-1 : Int32)).toNatClampNeg) (if (-9 : Int32) ≤ v0_0 then (if (z01 s0j0) = 0 then (some ((v5_0 + (-1 : Int32)), (upd f0_0 (v5_0 + (-1 : Int32)).toNatClampNeg (vp_nar .byte (zDO (-v0_0).toNatClampNeg))))) else (zg (((v5_0 + (-1 : Int32)) + (-1 : Int32)) < 0 ∨ n2 ≤ ((v5_0 + (-1 : Int32)) + (-1 : Int32)).toNatClampNeg) (some (((v5_0 + (-1 : Int32)) + (-1 : Int32)), (upd (upd f0_0 (v5_0 + (-1 : Int32)).toNatClampNeg (vp_nar .byte (zDO (-v0_0).toNatClampNeg))) ((v5_0 + (-1 : Int32)) + (-1 : Int32)).toNatClampNeg (vp_nar .byte (45 : Int32))))))) else (zg ((-v0_0) < 0 ∨ 100 ≤ (-v0_0).toNatClampNeg) (zg (((v5_0 + (-1 : Int32)) + (-1 : Int32)) < 0 ∨ n2 ≤ ((v5_0 + (-1 : Int32)) + (-1 : Int32)).toNatClampNeg) (if (z01 s0j0) = 0 then (some (((v5_0 + (-1 : Int32)) + (-1 : Int32)), (upd (upd f0_0 (v5_0 + (-1 : Int32)).toNatClampNeg (vp_nar .byte (zDO (-v0_0).toNatClampNeg))) ((v5_0 + (-1 : Int32)) + (-1 : Int32)).toNatClampNeg (vp_nar .byte (zDT (-v0_0).toNatClampNeg))))) else (zg ((((v5_0 + (-1 : Int32)) + (-1 : Int32)) + (-1 : Int32)) < 0 ∨ n2 ≤ (((v5_0 + (-1 : Int32)) + (-1 : Int32)) + (-1 : Int32)).toNatClampNeg) (some ((((v5_0 + (-1 : Int32)) + (-1 : Int32)) + (-1 : Int32)), (upd (upd (upd f0_0 (v5_0 + (-1 : Int32)).toNatClampNeg (vp_nar .byte (zDO (-v0_0).toNatClampNeg))) ((v5_0 + (-1 : Int32)) + (-1 : Int32)).toNatClampNeg (vp_nar .byte (zDT (-v0_0).toNatClampNeg))) (((v5_0 + (-1 : Int32)) + (-1 : Int32)) + (-1 : Int32)).toNatClampNeg (vp_nar .byte (45 : Int32))))))))))))) F p0 p1 p2) else (p_J6_getChars_ba4f3_L1 F n2 (fun v0_1 v5_1 f0_1 => (zg ((-v0_1) < 0 ∨ 100 ≤ (-v0_1).toNatClampNeg) (zg ((v5_1 + (-1 : Int32)) < 0 ∨ n2 ≤ (v5_1 + (-1 : Int32)).toNatClampNeg) (if (-9 : Int32) ≤ v0_1 then (if (z01 s0j0) = 0 then (some ((v5_1 + (-1 : Int32)), (upd f0_1 (v5_1 + (-1 : Int32)).toNatClampNeg (vp_nar .byte (zDO (-v0_1).toNatClampNeg))))) else (zg (((v5_1 + (-1 : Int32)) + (-1 : Int32)) < 0 ∨ n2 ≤ ((v5_1 + (-1 : Int32)) + (-1 : Int32)).toNatClampNeg) (some (((v5_1 + (-1 : Int32)) + (-1 : Int32)), (upd (upd f0_1 (v5_1 + (-1 : Int32)).toNatClampNeg (vp_nar .byte (zDO (-v0_1).toNatClampNeg))) ((v5_1 + (-1 : Int32)) + (-1 : Int32)).toNatClampNeg (vp_nar .byte (45 : Int32))))))) else (zg ((-v0_1) < 0 ∨ 100 ≤ (-v0_1).toNatClampNeg) (zg (((v5_1 + (-1 : Int32)) + (-1 : Int32)) < 0 ∨ n2 ≤ ((v5_1 + (-1 : Int32)) + (-1 : Int32)).toNatClampNeg) (if (z01 s0j0) = 0 then (some (((v5_1 + (-1 : Int32)) + (-1 : Int32)), (upd (upd f0_1 (v5_1 + (-1 : Int32)).toNatClampNeg (vp_nar .byte (zDO (-v0_1).toNatClampNeg))) ((v5_1 + (-1 : Int32)) + (-1 : Int32)).toNatClampNeg (vp_nar .byte (zDT (-v0_1).toNatClampNeg))))) else (zg ((((v5_1 + (-1 : Int32)) + (-1 : Int32)) + (-1 : Int32)) < 0 ∨ n2 ≤ (((v5_1 + (-1 : Int32)) + (-1 : Int32)) + (-1 : Int32)).toNatClampNeg) (some ((((v5_1 + (-1 : Int32)) + (-1 : Int32)) + (-1 : Int32)), (upd (upd (upd f0_1 (v5_1 + (-1 : Int32)).toNatClampNeg (vp_nar .byte (zDO (-v0_1).toNatClampNeg))) ((v5_1 + (-1 : Int32)) + (-1 : Int32)).toNatClampNeg (vp_nar .byte (zDT (-v0_1).toNatClampNeg))) (((v5_1 + (-1 : Int32)) + (-1 : Int32)) + (-1 : Int32)).toNatClampNeg (vp_nar .byte (45 : Int32))))))))))))) F (-p0) p1 p2)) = some (r, T0') → G H locs 0 0 (F0 m 12 ls [.int (z01 s0j0)]) := by
    intro s0j0 H locs ls hP hD hS hl h
    refine hG _ _ _ _ _ ?_
    refine lv_istore (lv' := [(6, .int (z01 s0j0)), (0, .int p0), (1, .int p1), (2, .ref t2), (5, .int p1)]) hx hb dJ6_getChars_ba4f3_12 hl (by decide) rfl (fun ls hl => ?_)
    refine lv_iload hx hb dJ6_getChars_ba4f3_14 (lv_at hl 0 rfl) ?_
    refine lv_if_ne (tgt := 22) hx hb dJ6_getChars_ba4f3_16 (by decide) (fun c16 => ?_) (fun c16 => ?_)
    · replace h := zif_t h c16
      have X0 : ∀ (v0_0 : Int32) (v5_0 : Int32) (f0_0 : Nat → Int32) (H : Heap) (locs : List Loc) (ls : Array Slot), va_P D vwCl ([(t2, .inl (cB, n2, .inl f0_0))] : va_W) H → va_D A ([(t2, .inl (cB, n2, .inl f0_0))] : va_W) → va_S A s.heap H locs → lv_has ls 7 [(0, .int v0_0), (1, .int p1), (2, .ref t2), (5, .int v5_0), (6, .int (z01 s0j0))] → (zg ((-v0_0) < 0 ∨ 100 ≤ (-v0_0).toNatClampNeg) (zg ((v5_0 + (-1 : Int32)) < 0 ∨ n2 ≤ (v5_0 + (-1 : Int32)).toNatClampNeg) (if (-9 : Int32) ≤ v0_0 then (if (z01 s0j0) = 0 then (some ((v5_0 + (-1 : Int32)), (upd f0_0 (v5_0 + (-1 : Int32)).toNatClampNeg (vp_nar .byte (zDO (-v0_0).toNatClampNeg))))) else (zg (((v5_0 + (-1 : Int32)) + (-1 : Int32)) < 0 ∨ n2 ≤ ((v5_0 + (-1 : Int32)) + (-1 : Int32)).toNatClampNeg) (some (((v5_0 + (-1 : Int32)) + (-1 : Int32)), (upd (upd f0_0 (v5_0 + (-1 : Int32)).toNatClampNeg (vp_nar .byte (zDO (-v0_0).toNatClampNeg))) ((v5_0 + (-1 : Int32)) + (-1 : Int32)).toNatClampNeg (vp_nar .byte (45 : Int32))))))) else (zg ((-v0_0) < 0 ∨ 100 ≤ (-v0_0).toNatClampNeg) (zg (((v5_0 + (-1 : Int32)) + (-1 : Int32)) < 0 ∨ n2 ≤ ((v5_0 + (-1 : Int32)) + (-1 : Int32)).toNatClampNeg) (if (z01 s0j0) = 0 then (some (((v5_0 + (-1 : Int32)) + (-1 : Int32)), (upd (upd f0_0 (v5_0 + (-1 : Int32)).toNatClampNeg (vp_nar .byte (zDO (-v0_0).toNatClampNeg))) ((v5_0 + (-1 : Int32)) + (-1 : Int32)).toNatClampNeg (vp_nar .byte (zDT (-v0_0).toNatClampNeg))))) else (zg ((((v5_0 + (-1 : Int32)) + (-1 : Int32)) + (-1 : Int32)) < 0 ∨ n2 ≤ (((v5_0 + (-1 : Int32)) + (-1 : Int32)) + (-1 : Int32)).toNatClampNeg) (some ((((v5_0 + (-1 : Int32)) + (-1 : Int32)) + (-1 : Int32)), (upd (upd (upd f0_0 (v5_0 + (-1 : Int32)).toNatClampNeg (vp_nar .byte (zDO (-v0_0).toNatClampNeg))) ((v5_0 + (-1 : Int32)) + (-1 : Int32)).toNatClampNeg (vp_nar .byte (zDT (-v0_0).toNatClampNeg))) (((v5_0 + (-1 : Int32)) + (-1 : Int32)) + (-1 : Int32)).toNatClampNeg (vp_nar .byte (45 : Int32)))))))))))) = some (r, T0') → G H locs 0 0 (F0 m 72 ls []) := by
        intro v0_0 v5_0 f0_0 H locs ls hP hD hS hl h
        refine hG _ _ _ _ _ ?_
        refine lv_aload_n hx hb dJ6_getChars_ba4f3_72 rfl (lv_at hl 2 rfl) ?_
        refine lv_iinc (v := (v5_0 + (-1 : Int32))) (lv' := [(5, .int (v5_0 + (-1 : Int32))), (0, .int v0_0), (1, .int p1), (2, .ref t2), (6, .int (z01 s0j0))]) hx hb dJ6_getChars_ba4f3_73 hl (k := 3) rfl rfl (by decide) rfl (fun ls hl => ?_)
        refine lv_iload hx hb dJ6_getChars_ba4f3_76 (lv_at hl 0 rfl) ?_
        refine va_gets hx hb hOz hS hown kf_83 (fun _ h9 => h9) dJ6_getChars_ba4f3_78 ?_
        refine lv_iload_n hx hb dJ6_getChars_ba4f3_81 rfl (lv_at hl 1 rfl) ?_
        refine lv_ineg hx hb dJ6_getChars_ba4f3_82 ?_
        obtain ⟨z83, h⟩ := zg_some h
        refine va_tb hx hb hOt hS z83 (v := .int (zDO (-v0_0).toNatClampNeg)) rfl dJ6_getChars_ba4f3_83 ?_
        obtain ⟨z84, h⟩ := zg_some h
        refine va_bast hx hb hK hP hD hS 0 3 rfl rfl z84 dJ6_getChars_ba4f3_84 (fun H locs hP hD hS => ?_)
        replace hP : va_P D vwCl ([(t2, .inl (cB, n2, .inl (upd f0_0 (v5_0 + (-1 : Int32)).toNatClampNeg (vp_nar .byte (zDO (-v0_0).toNatClampNeg)))))] : va_W) H := hP
        replace hD : va_D A ([(t2, .inl (cB, n2, .inl (upd f0_0 (v5_0 + (-1 : Int32)).toNatClampNeg (vp_nar .byte (zDO (-v0_0).toNatClampNeg)))))] : va_W) := hD
        refine lv_iload_n hx hb dJ6_getChars_ba4f3_85 rfl (lv_at hl 1 rfl) ?_
        refine lv_bipush (v := (-9 : Int32)) hx hb dJ6_getChars_ba4f3_86 (by decide) ?_
        refine lv_icmp_ge (tgt := 104) hx hb dJ6_getChars_ba4f3_88 (by decide) (fun c88 => ?_) (fun c88 => ?_)
        · replace h := zif_t h c88
          refine lv_iload hx hb dJ6_getChars_ba4f3_104 (lv_at hl 4 rfl) ?_
          refine lv_if_eq (tgt := 118) hx hb dJ6_getChars_ba4f3_106 (by decide) (fun c106 => ?_) (fun c106 => ?_)
          · replace h := zif_t h c106
            refine lv_iload hx hb dJ6_getChars_ba4f3_118 (lv_at hl 0 rfl) ?_
            have g0 := Option.some.inj h
            obtain ⟨h1, g1⟩ := Prod.mk.inj g0
            subst h1
            subst g1
            exact W.iret (v := (v5_0 + (-1 : Int32))) hx hb hr (fun t ht hW => ⟨⟨(v5_0 + (-1 : Int32)), (), rfl, rfl, by rw [ht]; exact hP, va_K.moved hW.alike hK, hD⟩, hS.F ht⟩) hS.2.2 dJ6_getChars_ba4f3_120
          · replace h := zif_f h c106
            refine lv_aload_n hx hb dJ6_getChars_ba4f3_109 rfl (lv_at hl 3 rfl) ?_
            refine lv_iinc (v := ((v5_0 + (-1 : Int32)) + (-1 : Int32))) (lv' := [(5, .int ((v5_0 + (-1 : Int32)) + (-1 : Int32))), (0, .int v0_0), (1, .int p1), (2, .ref t2), (6, .int (z01 s0j0))]) hx hb dJ6_getChars_ba4f3_110 hl (k := 0) rfl rfl (by decide) rfl (fun ls hl => ?_)
            refine lv_iload hx hb dJ6_getChars_ba4f3_113 (lv_at hl 0 rfl) ?_
            refine lv_bipush (v := (45 : Int32)) hx hb dJ6_getChars_ba4f3_115 (by decide) ?_
            obtain ⟨z117, h⟩ := zg_some h
            refine va_bast hx hb hK hP hD hS 0 3 rfl rfl z117 dJ6_getChars_ba4f3_117 (fun H locs hP hD hS => ?_)
            replace hP : va_P D vwCl ([(t2, .inl (cB, n2, .inl (upd (upd f0_0 (v5_0 + (-1 : Int32)).toNatClampNeg (vp_nar .byte (zDO (-v0_0).toNatClampNeg))) ((v5_0 + (-1 : Int32)) + (-1 : Int32)).toNatClampNeg (vp_nar .byte (45 : Int32)))))] : va_W) H := hP
            replace hD : va_D A ([(t2, .inl (cB, n2, .inl (upd (upd f0_0 (v5_0 + (-1 : Int32)).toNatClampNeg (vp_nar .byte (zDO (-v0_0).toNatClampNeg))) ((v5_0 + (-1 : Int32)) + (-1 : Int32)).toNatClampNeg (vp_nar .byte (45 : Int32)))))] : va_W) := hD
            refine lv_iload hx hb dJ6_getChars_ba4f3_118 (lv_at hl 0 rfl) ?_
            have g0 := Option.some.inj h
            obtain ⟨h1, g1⟩ := Prod.mk.inj g0
            subst h1
            subst g1
            exact W.iret (v := ((v5_0 + (-1 : Int32)) + (-1 : Int32))) hx hb hr (fun t ht hW => ⟨⟨((v5_0 + (-1 : Int32)) + (-1 : Int32)), (), rfl, rfl, by rw [ht]; exact hP, va_K.moved hW.alike hK, hD⟩, hS.F ht⟩) hS.2.2 dJ6_getChars_ba4f3_120
        · replace h := zif_f h c88
          refine lv_aload_n hx hb dJ6_getChars_ba4f3_91 rfl (lv_at hl 3 rfl) ?_
          refine lv_iinc (v := ((v5_0 + (-1 : Int32)) + (-1 : Int32))) (lv' := [(5, .int ((v5_0 + (-1 : Int32)) + (-1 : Int32))), (0, .int v0_0), (1, .int p1), (2, .ref t2), (6, .int (z01 s0j0))]) hx hb dJ6_getChars_ba4f3_92 hl (k := 0) rfl rfl (by decide) rfl (fun ls hl => ?_)
          refine lv_iload hx hb dJ6_getChars_ba4f3_95 (lv_at hl 0 rfl) ?_
          refine va_gets hx hb hTz hS hown kf_87 (fun _ h9 => h9) dJ6_getChars_ba4f3_97 ?_
          refine lv_iload_n hx hb dJ6_getChars_ba4f3_100 rfl (lv_at hl 1 rfl) ?_
          refine lv_ineg hx hb dJ6_getChars_ba4f3_101 ?_
          obtain ⟨z102, h⟩ := zg_some h
          refine va_tb hx hb hTt hS z102 (v := .int (zDT (-v0_0).toNatClampNeg)) rfl dJ6_getChars_ba4f3_102 ?_
          obtain ⟨z103, h⟩ := zg_some h
          refine va_bast hx hb hK hP hD hS 0 3 rfl rfl z103 dJ6_getChars_ba4f3_103 (fun H locs hP hD hS => ?_)
          replace hP : va_P D vwCl ([(t2, .inl (cB, n2, .inl (upd (upd f0_0 (v5_0 + (-1 : Int32)).toNatClampNeg (vp_nar .byte (zDO (-v0_0).toNatClampNeg))) ((v5_0 + (-1 : Int32)) + (-1 : Int32)).toNatClampNeg (vp_nar .byte (zDT (-v0_0).toNatClampNeg)))))] : va_W) H := hP
          replace hD : va_D A ([(t2, .inl (cB, n2, .inl (upd (upd f0_0 (v5_0 + (-1 : Int32)).toNatClampNeg (vp_nar .byte (zDO (-v0_0).toNatClampNeg))) ((v5_0 + (-1 : Int32)) + (-1 : Int32)).toNatClampNeg (vp_nar .byte (zDT (-v0_0).toNatClampNeg)))))] : va_W) := hD
          refine lv_iload hx hb dJ6_getChars_ba4f3_104 (lv_at hl 4 rfl) ?_
          refine lv_if_eq (tgt := 118) hx hb dJ6_getChars_ba4f3_106 (by decide) (fun c106 => ?_) (fun c106 => ?_)
          · replace h := zif_t h c106
            refine lv_iload hx hb dJ6_getChars_ba4f3_118 (lv_at hl 0 rfl) ?_
            have g0 := Option.some.inj h
            obtain ⟨h1, g1⟩ := Prod.mk.inj g0
            subst h1
            subst g1
            exact W.iret (v := ((v5_0 + (-1 : Int32)) + (-1 : Int32))) hx hb hr (fun t ht hW => ⟨⟨((v5_0 + (-1 : Int32)) + (-1 : Int32)), (), rfl, rfl, by rw [ht]; exact hP, va_K.moved hW.alike hK, hD⟩, hS.F ht⟩) hS.2.2 dJ6_getChars_ba4f3_120
          · replace h := zif_f h c106
            refine lv_aload_n hx hb dJ6_getChars_ba4f3_109 rfl (lv_at hl 3 rfl) ?_
            refine lv_iinc (v := (((v5_0 + (-1 : Int32)) + (-1 : Int32)) + (-1 : Int32))) (lv' := [(5, .int (((v5_0 + (-1 : Int32)) + (-1 : Int32)) + (-1 : Int32))), (0, .int v0_0), (1, .int p1), (2, .ref t2), (6, .int (z01 s0j0))]) hx hb dJ6_getChars_ba4f3_110 hl (k := 0) rfl rfl (by decide) rfl (fun ls hl => ?_)
            refine lv_iload hx hb dJ6_getChars_ba4f3_113 (lv_at hl 0 rfl) ?_
            refine lv_bipush (v := (45 : Int32)) hx hb dJ6_getChars_ba4f3_115 (by decide) ?_
            obtain ⟨z117, h⟩ := zg_some h
            refine va_bast hx hb hK hP hD hS 0 3 rfl rfl z117 dJ6_getChars_ba4f3_117 (fun H locs hP hD hS => ?_)
            replace hP : va_P D vwCl ([(t2, .inl (cB, n2, .inl (upd (upd (upd f0_0 (v5_0 + (-1 : Int32)).toNatClampNeg (vp_nar .byte (zDO (-v0_0).toNatClampNeg))) ((v5_0 + (-1 : Int32)) + (-1 : Int32)).toNatClampNeg (vp_nar .byte (zDT (-v0_0).toNatClampNeg))) (((v5_0 + (-1 : Int32)) + (-1 : Int32)) + (-1 : Int32)).toNatClampNeg (vp_nar .byte (45 : Int32)))))] : va_W) H := hP
            replace hD : va_D A ([(t2, .inl (cB, n2, .inl (upd (upd (upd f0_0 (v5_0 + (-1 : Int32)).toNatClampNeg (vp_nar .byte (zDO (-v0_0).toNatClampNeg))) ((v5_0 + (-1 : Int32)) + (-1 : Int32)).toNatClampNeg (vp_nar .byte (zDT (-v0_0).toNatClampNeg))) (((v5_0 + (-1 : Int32)) + (-1 : Int32)) + (-1 : Int32)).toNatClampNeg (vp_nar .byte (45 : Int32)))))] : va_W) := hD
            refine lv_iload hx hb dJ6_getChars_ba4f3_118 (lv_at hl 0 rfl) ?_
            have g0 := Option.some.inj h
            obtain ⟨h1, g1⟩ := Prod.mk.inj g0
            subst h1
            subst g1
            exact W.iret (v := (((v5_0 + (-1 : Int32)) + (-1 : Int32)) + (-1 : Int32))) hx hb hr (fun t ht hW => ⟨⟨(((v5_0 + (-1 : Int32)) + (-1 : Int32)) + (-1 : Int32)), (), rfl, rfl, by rw [ht]; exact hP, va_K.moved hW.alike hK, hD⟩, hS.F ht⟩) hS.2.2 dJ6_getChars_ba4f3_120
      have L0 : ∀ (K0 : Int32 → Int32 → (Nat → Int32) → Option (Int32 × (Nat → Int32))) (HX0 : ∀ (v0_0 : Int32) (v5_0 : Int32) (f0_0 : Nat → Int32) (H : Heap) (locs : List Loc) (ls : Array Slot), va_P D vwCl ([(t2, .inl (cB, n2, .inl f0_0))] : va_W) H → va_D A ([(t2, .inl (cB, n2, .inl f0_0))] : va_W) → va_S A s.heap H locs → lv_has ls 7 [(0, .int v0_0), (1, .int p1), (2, .ref t2), (5, .int v5_0), (6, .int (z01 s0j0))] → K0 v0_0 v5_0 f0_0 = some (r, T0') → G H locs 0 0 (F0 m 72 ls [])) (fu0 : Nat) (v0_0 : Int32) (v5_0 : Int32) (f0_0 : Nat → Int32) (H : Heap) (locs : List Loc) (ls : Array Slot), va_P D vwCl ([(t2, .inl (cB, n2, .inl f0_0))] : va_W) H → va_D A ([(t2, .inl (cB, n2, .inl f0_0))] : va_W) → va_S A s.heap H locs → lv_has ls 7 [(0, .int v0_0), (1, .int p1), (2, .ref t2), (5, .int v5_0), (6, .int (z01 s0j0))] → p_J6_getChars_ba4f3_L0 F n2 K0 fu0 v0_0 v5_0 f0_0 = some (r, T0') → G H locs 0 0 (F0 m 22 ls []) := by
        intro K0 HX0 fu0
        induction fu0 with
        | zero =>
          intro v0_0 v5_0 f0_0 H locs ls hP hD hS hl h
          exact (zno h).elim
        | succ fu0 ih0 =>
          intro v0_0 v5_0 f0_0 H locs ls hP hD hS hl h
          refine hG _ _ _ _ _ ?_
          unfold p_J6_getChars_ba4f3_L0 at h
          refine lv_iload_n hx hb dJ6_getChars_ba4f3_22 rfl (lv_at hl 0 rfl) ?_
          refine lv_bipush (v := (-100 : Int32)) hx hb dJ6_getChars_ba4f3_23 (by decide) ?_
          refine lv_icmp_gt (tgt := 72) hx hb dJ6_getChars_ba4f3_25 (by decide) (fun c25 => ?_) (fun c25 => ?_)
          · replace h := zif_t h c25
            exact hGW _ _ _ _ _ (HX0 v0_0 v5_0 f0_0 _ _ ls hP hD hS (lv_sub hl [0, 1, 2, 3, 4] rfl) h)
          · replace h := zif_f h c25
            refine lv_iload_n hx hb dJ6_getChars_ba4f3_28 rfl (lv_at hl 0 rfl) ?_
            refine lv_bipush (v := (100 : Int32)) hx hb dJ6_getChars_ba4f3_29 (by decide) ?_
            refine lv_idiv hx hb dJ6_getChars_ba4f3_31 (by decide) ?_
            refine lv_istore_n (lv' := [(3, .int (v0_0 / (100 : Int32))), (0, .int v0_0), (1, .int p1), (2, .ref t2), (5, .int v5_0), (6, .int (z01 s0j0))]) hx hb dJ6_getChars_ba4f3_32 rfl hl (by decide) rfl (fun ls hl => ?_)
            refine lv_iload_n hx hb dJ6_getChars_ba4f3_33 rfl (lv_at hl 0 rfl) ?_
            refine lv_bipush (v := (100 : Int32)) hx hb dJ6_getChars_ba4f3_34 (by decide) ?_
            refine lv_imul hx hb dJ6_getChars_ba4f3_36 ?_
            refine lv_iload_n hx hb dJ6_getChars_ba4f3_37 rfl (lv_at hl 1 rfl) ?_
            refine lv_isub hx hb dJ6_getChars_ba4f3_38 ?_
            refine lv_istore (lv' := [(4, .int (((v0_0 / (100 : Int32)) * (100 : Int32)) - v0_0)), (3, .int (v0_0 / (100 : Int32))), (0, .int v0_0), (1, .int p1), (2, .ref t2), (5, .int v5_0), (6, .int (z01 s0j0))]) hx hb dJ6_getChars_ba4f3_39 hl (by decide) rfl (fun ls hl => ?_)
            refine lv_iload_n hx hb dJ6_getChars_ba4f3_41 rfl (lv_at hl 1 rfl) ?_
            refine lv_istore_n (lv' := [(0, .int (v0_0 / (100 : Int32))), (4, .int (((v0_0 / (100 : Int32)) * (100 : Int32)) - v0_0)), (3, .int (v0_0 / (100 : Int32))), (1, .int p1), (2, .ref t2), (5, .int v5_0), (6, .int (z01 s0j0))]) hx hb dJ6_getChars_ba4f3_42 rfl hl (by decide) rfl (fun ls hl => ?_)
            refine lv_aload_n hx hb dJ6_getChars_ba4f3_43 rfl (lv_at hl 4 rfl) ?_
            refine lv_iinc (v := (v5_0 + (-1 : Int32))) (lv' := [(5, .int (v5_0 + (-1 : Int32))), (0, .int (v0_0 / (100 : Int32))), (4, .int (((v0_0 / (100 : Int32)) * (100 : Int32)) - v0_0)), (3, .int (v0_0 / (100 : Int32))), (1, .int p1), (2, .ref t2), (6, .int (z01 s0j0))]) hx hb dJ6_getChars_ba4f3_44 hl (k := 5) rfl rfl (by decide) rfl (fun ls hl => ?_)
            refine lv_iload hx hb dJ6_getChars_ba4f3_47 (lv_at hl 0 rfl) ?_
            refine va_gets hx hb hOz hS hown kf_83 (fun _ h9 => h9) dJ6_getChars_ba4f3_49 ?_
            refine lv_iload hx hb dJ6_getChars_ba4f3_52 (lv_at hl 2 rfl) ?_
            obtain ⟨z54, h⟩ := zg_some h
            refine va_tb hx hb hOt hS z54 (v := .int (zDO (((v0_0 / (100 : Int32)) * (100 : Int32)) - v0_0).toNatClampNeg)) rfl dJ6_getChars_ba4f3_54 ?_
            obtain ⟨z55, h⟩ := zg_some h
            refine va_bast hx hb hK hP hD hS 0 3 rfl rfl z55 dJ6_getChars_ba4f3_55 (fun H locs hP hD hS => ?_)
            replace hP : va_P D vwCl ([(t2, .inl (cB, n2, .inl (upd f0_0 (v5_0 + (-1 : Int32)).toNatClampNeg (vp_nar .byte (zDO (((v0_0 / (100 : Int32)) * (100 : Int32)) - v0_0).toNatClampNeg)))))] : va_W) H := hP
            replace hD : va_D A ([(t2, .inl (cB, n2, .inl (upd f0_0 (v5_0 + (-1 : Int32)).toNatClampNeg (vp_nar .byte (zDO (((v0_0 / (100 : Int32)) * (100 : Int32)) - v0_0).toNatClampNeg)))))] : va_W) := hD
            refine lv_aload_n hx hb dJ6_getChars_ba4f3_56 rfl (lv_at hl 5 rfl) ?_
            refine lv_iinc (v := ((v5_0 + (-1 : Int32)) + (-1 : Int32))) (lv' := [(5, .int ((v5_0 + (-1 : Int32)) + (-1 : Int32))), (0, .int (v0_0 / (100 : Int32))), (4, .int (((v0_0 / (100 : Int32)) * (100 : Int32)) - v0_0)), (3, .int (v0_0 / (100 : Int32))), (1, .int p1), (2, .ref t2), (6, .int (z01 s0j0))]) hx hb dJ6_getChars_ba4f3_57 hl (k := 0) rfl rfl (by decide) rfl (fun ls hl => ?_)
            refine lv_iload hx hb dJ6_getChars_ba4f3_60 (lv_at hl 0 rfl) ?_
            refine va_gets hx hb hTz hS hown kf_87 (fun _ h9 => h9) dJ6_getChars_ba4f3_62 ?_
            refine lv_iload hx hb dJ6_getChars_ba4f3_65 (lv_at hl 2 rfl) ?_
            obtain ⟨z67, h⟩ := zg_some h
            refine va_tb hx hb hTt hS z67 (v := .int (zDT (((v0_0 / (100 : Int32)) * (100 : Int32)) - v0_0).toNatClampNeg)) rfl dJ6_getChars_ba4f3_67 ?_
            obtain ⟨z68, h⟩ := zg_some h
            refine va_bast hx hb hK hP hD hS 0 3 rfl rfl z68 dJ6_getChars_ba4f3_68 (fun H locs hP hD hS => ?_)
            replace hP : va_P D vwCl ([(t2, .inl (cB, n2, .inl (upd (upd f0_0 (v5_0 + (-1 : Int32)).toNatClampNeg (vp_nar .byte (zDO (((v0_0 / (100 : Int32)) * (100 : Int32)) - v0_0).toNatClampNeg))) ((v5_0 + (-1 : Int32)) + (-1 : Int32)).toNatClampNeg (vp_nar .byte (zDT (((v0_0 / (100 : Int32)) * (100 : Int32)) - v0_0).toNatClampNeg)))))] : va_W) H := hP
            replace hD : va_D A ([(t2, .inl (cB, n2, .inl (upd (upd f0_0 (v5_0 + (-1 : Int32)).toNatClampNeg (vp_nar .byte (zDO (((v0_0 / (100 : Int32)) * (100 : Int32)) - v0_0).toNatClampNeg))) ((v5_0 + (-1 : Int32)) + (-1 : Int32)).toNatClampNeg (vp_nar .byte (zDT (((v0_0 / (100 : Int32)) * (100 : Int32)) - v0_0).toNatClampNeg)))))] : va_W) := hD
            refine lv_goto (tgt := 22) hx hb dJ6_getChars_ba4f3_69 (by decide) ?_
            exact hGW _ _ _ _ _ (ih0 (v0_0 / (100 : Int32)) ((v5_0 + (-1 : Int32)) + (-1 : Int32)) (upd (upd f0_0 (v5_0 + (-1 : Int32)).toNatClampNeg (vp_nar .byte (zDO (((v0_0 / (100 : Int32)) * (100 : Int32)) - v0_0).toNatClampNeg))) ((v5_0 + (-1 : Int32)) + (-1 : Int32)).toNatClampNeg (vp_nar .byte (zDT (((v0_0 / (100 : Int32)) * (100 : Int32)) - v0_0).toNatClampNeg))) _ _ ls hP hD hS (lv_sub hl [1, 4, 5, 0, 6] rfl) h)
      exact hGW _ _ _ _ _ (L0 _ X0 F p0 p1 p2 _ _ ls hP hD hS (lv_sub hl [1, 2, 3, 4, 0] rfl) h)
    · replace h := zif_fn h c16
      refine lv_iload_n hx hb dJ6_getChars_ba4f3_19 rfl (lv_at hl 1 rfl) ?_
      refine lv_ineg hx hb dJ6_getChars_ba4f3_20 ?_
      refine lv_istore_n (lv' := [(0, .int (-p0)), (6, .int (z01 s0j0)), (1, .int p1), (2, .ref t2), (5, .int p1)]) hx hb dJ6_getChars_ba4f3_21 rfl hl (by decide) rfl (fun ls hl => ?_)
      have X1 : ∀ (v0_1 : Int32) (v5_1 : Int32) (f0_1 : Nat → Int32) (H : Heap) (locs : List Loc) (ls : Array Slot), va_P D vwCl ([(t2, .inl (cB, n2, .inl f0_1))] : va_W) H → va_D A ([(t2, .inl (cB, n2, .inl f0_1))] : va_W) → va_S A s.heap H locs → lv_has ls 7 [(0, .int v0_1), (1, .int p1), (2, .ref t2), (5, .int v5_1), (6, .int (z01 s0j0))] → (zg ((-v0_1) < 0 ∨ 100 ≤ (-v0_1).toNatClampNeg) (zg ((v5_1 + (-1 : Int32)) < 0 ∨ n2 ≤ (v5_1 + (-1 : Int32)).toNatClampNeg) (if (-9 : Int32) ≤ v0_1 then (if (z01 s0j0) = 0 then (some ((v5_1 + (-1 : Int32)), (upd f0_1 (v5_1 + (-1 : Int32)).toNatClampNeg (vp_nar .byte (zDO (-v0_1).toNatClampNeg))))) else (zg (((v5_1 + (-1 : Int32)) + (-1 : Int32)) < 0 ∨ n2 ≤ ((v5_1 + (-1 : Int32)) + (-1 : Int32)).toNatClampNeg) (some (((v5_1 + (-1 : Int32)) + (-1 : Int32)), (upd (upd f0_1 (v5_1 + (-1 : Int32)).toNatClampNeg (vp_nar .byte (zDO (-v0_1).toNatClampNeg))) ((v5_1 + (-1 : Int32)) + (-1 : Int32)).toNatClampNeg (vp_nar .byte (45 : Int32))))))) else (zg ((-v0_1) < 0 ∨ 100 ≤ (-v0_1).toNatClampNeg) (zg (((v5_1 + (-1 : Int32)) + (-1 : Int32)) < 0 ∨ n2 ≤ ((v5_1 + (-1 : Int32)) + (-1 : Int32)).toNatClampNeg) (if (z01 s0j0) = 0 then (some (((v5_1 + (-1 : Int32)) + (-1 : Int32)), (upd (upd f0_1 (v5_1 + (-1 : Int32)).toNatClampNeg (vp_nar .byte (zDO (-v0_1).toNatClampNeg))) ((v5_1 + (-1 : Int32)) + (-1 : Int32)).toNatClampNeg (vp_nar .byte (zDT (-v0_1).toNatClampNeg))))) else (zg ((((v5_1 + (-1 : Int32)) + (-1 : Int32)) + (-1 : Int32)) < 0 ∨ n2 ≤ (((v5_1 + (-1 : Int32)) + (-1 : Int32)) + (-1 : Int32)).toNatClampNeg) (some ((((v5_1 + (-1 : Int32)) + (-1 : Int32)) + (-1 : Int32)), (upd (upd (upd f0_1 (v5_1 + (-1 : Int32)).toNatClampNeg (vp_nar .byte (zDO (-v0_1).toNatClampNeg))) ((v5_1 + (-1 : Int32)) + (-1 : Int32)).toNatClampNeg (vp_nar .byte (zDT (-v0_1).toNatClampNeg))) (((v5_1 + (-1 : Int32)) + (-1 : Int32)) + (-1 : Int32)).toNatClampNeg (vp_nar .byte (45 : Int32)))))))))))) = some (r, T0') → G H locs 0 0 (F0 m 72 ls []) := by
        intro v0_1 v5_1 f0_1 H locs ls hP hD hS hl h
        refine hG _ _ _ _ _ ?_
        refine lv_aload_n hx hb dJ6_getChars_ba4f3_72 rfl (lv_at hl 2 rfl) ?_
        refine lv_iinc (v := (v5_1 + (-1 : Int32))) (lv' := [(5, .int (v5_1 + (-1 : Int32))), (0, .int v0_1), (1, .int p1), (2, .ref t2), (6, .int (z01 s0j0))]) hx hb dJ6_getChars_ba4f3_73 hl (k := 3) rfl rfl (by decide) rfl (fun ls hl => ?_)
        refine lv_iload hx hb dJ6_getChars_ba4f3_76 (lv_at hl 0 rfl) ?_
        refine va_gets hx hb hOz hS hown kf_83 (fun _ h9 => h9) dJ6_getChars_ba4f3_78 ?_
        refine lv_iload_n hx hb dJ6_getChars_ba4f3_81 rfl (lv_at hl 1 rfl) ?_
        refine lv_ineg hx hb dJ6_getChars_ba4f3_82 ?_
        obtain ⟨z83, h⟩ := zg_some h
        refine va_tb hx hb hOt hS z83 (v := .int (zDO (-v0_1).toNatClampNeg)) rfl dJ6_getChars_ba4f3_83 ?_
        obtain ⟨z84, h⟩ := zg_some h
        refine va_bast hx hb hK hP hD hS 0 3 rfl rfl z84 dJ6_getChars_ba4f3_84 (fun H locs hP hD hS => ?_)
        replace hP : va_P D vwCl ([(t2, .inl (cB, n2, .inl (upd f0_1 (v5_1 + (-1 : Int32)).toNatClampNeg (vp_nar .byte (zDO (-v0_1).toNatClampNeg)))))] : va_W) H := hP
        replace hD : va_D A ([(t2, .inl (cB, n2, .inl (upd f0_1 (v5_1 + (-1 : Int32)).toNatClampNeg (vp_nar .byte (zDO (-v0_1).toNatClampNeg)))))] : va_W) := hD
        refine lv_iload_n hx hb dJ6_getChars_ba4f3_85 rfl (lv_at hl 1 rfl) ?_
        refine lv_bipush (v := (-9 : Int32)) hx hb dJ6_getChars_ba4f3_86 (by decide) ?_
        refine lv_icmp_ge (tgt := 104) hx hb dJ6_getChars_ba4f3_88 (by decide) (fun c88 => ?_) (fun c88 => ?_)
        · replace h := zif_t h c88
          refine lv_iload hx hb dJ6_getChars_ba4f3_104 (lv_at hl 4 rfl) ?_
          refine lv_if_eq (tgt := 118) hx hb dJ6_getChars_ba4f3_106 (by decide) (fun c106 => ?_) (fun c106 => ?_)
          · replace h := zif_t h c106
            refine lv_iload hx hb dJ6_getChars_ba4f3_118 (lv_at hl 0 rfl) ?_
            have g0 := Option.some.inj h
            obtain ⟨h1, g1⟩ := Prod.mk.inj g0
            subst h1
            subst g1
            exact W.iret (v := (v5_1 + (-1 : Int32))) hx hb hr (fun t ht hW => ⟨⟨(v5_1 + (-1 : Int32)), (), rfl, rfl, by rw [ht]; exact hP, va_K.moved hW.alike hK, hD⟩, hS.F ht⟩) hS.2.2 dJ6_getChars_ba4f3_120
          · replace h := zif_f h c106
            refine lv_aload_n hx hb dJ6_getChars_ba4f3_109 rfl (lv_at hl 3 rfl) ?_
            refine lv_iinc (v := ((v5_1 + (-1 : Int32)) + (-1 : Int32))) (lv' := [(5, .int ((v5_1 + (-1 : Int32)) + (-1 : Int32))), (0, .int v0_1), (1, .int p1), (2, .ref t2), (6, .int (z01 s0j0))]) hx hb dJ6_getChars_ba4f3_110 hl (k := 0) rfl rfl (by decide) rfl (fun ls hl => ?_)
            refine lv_iload hx hb dJ6_getChars_ba4f3_113 (lv_at hl 0 rfl) ?_
            refine lv_bipush (v := (45 : Int32)) hx hb dJ6_getChars_ba4f3_115 (by decide) ?_
            obtain ⟨z117, h⟩ := zg_some h
            refine va_bast hx hb hK hP hD hS 0 3 rfl rfl z117 dJ6_getChars_ba4f3_117 (fun H locs hP hD hS => ?_)
            replace hP : va_P D vwCl ([(t2, .inl (cB, n2, .inl (upd (upd f0_1 (v5_1 + (-1 : Int32)).toNatClampNeg (vp_nar .byte (zDO (-v0_1).toNatClampNeg))) ((v5_1 + (-1 : Int32)) + (-1 : Int32)).toNatClampNeg (vp_nar .byte (45 : Int32)))))] : va_W) H := hP
            replace hD : va_D A ([(t2, .inl (cB, n2, .inl (upd (upd f0_1 (v5_1 + (-1 : Int32)).toNatClampNeg (vp_nar .byte (zDO (-v0_1).toNatClampNeg))) ((v5_1 + (-1 : Int32)) + (-1 : Int32)).toNatClampNeg (vp_nar .byte (45 : Int32)))))] : va_W) := hD
            refine lv_iload hx hb dJ6_getChars_ba4f3_118 (lv_at hl 0 rfl) ?_
            have g0 := Option.some.inj h
            obtain ⟨h1, g1⟩ := Prod.mk.inj g0
            subst h1
            subst g1
            exact W.iret (v := ((v5_1 + (-1 : Int32)) + (-1 : Int32))) hx hb hr (fun t ht hW => ⟨⟨((v5_1 + (-1 : Int32)) + (-1 : Int32)), (), rfl, rfl, by rw [ht]; exact hP, va_K.moved hW.alike hK, hD⟩, hS.F ht⟩) hS.2.2 dJ6_getChars_ba4f3_120
        · replace h := zif_f h c88
          refine lv_aload_n hx hb dJ6_getChars_ba4f3_91 rfl (lv_at hl 3 rfl) ?_
          refine lv_iinc (v := ((v5_1 + (-1 : Int32)) + (-1 : Int32))) (lv' := [(5, .int ((v5_1 + (-1 : Int32)) + (-1 : Int32))), (0, .int v0_1), (1, .int p1), (2, .ref t2), (6, .int (z01 s0j0))]) hx hb dJ6_getChars_ba4f3_92 hl (k := 0) rfl rfl (by decide) rfl (fun ls hl => ?_)
          refine lv_iload hx hb dJ6_getChars_ba4f3_95 (lv_at hl 0 rfl) ?_
          refine va_gets hx hb hTz hS hown kf_87 (fun _ h9 => h9) dJ6_getChars_ba4f3_97 ?_
          refine lv_iload_n hx hb dJ6_getChars_ba4f3_100 rfl (lv_at hl 1 rfl) ?_
          refine lv_ineg hx hb dJ6_getChars_ba4f3_101 ?_
          obtain ⟨z102, h⟩ := zg_some h
          refine va_tb hx hb hTt hS z102 (v := .int (zDT (-v0_1).toNatClampNeg)) rfl dJ6_getChars_ba4f3_102 ?_
          obtain ⟨z103, h⟩ := zg_some h
          refine va_bast hx hb hK hP hD hS 0 3 rfl rfl z103 dJ6_getChars_ba4f3_103 (fun H locs hP hD hS => ?_)
          replace hP : va_P D vwCl ([(t2, .inl (cB, n2, .inl (upd (upd f0_1 (v5_1 + (-1 : Int32)).toNatClampNeg (vp_nar .byte (zDO (-v0_1).toNatClampNeg))) ((v5_1 + (-1 : Int32)) + (-1 : Int32)).toNatClampNeg (vp_nar .byte (zDT (-v0_1).toNatClampNeg)))))] : va_W) H := hP
          replace hD : va_D A ([(t2, .inl (cB, n2, .inl (upd (upd f0_1 (v5_1 + (-1 : Int32)).toNatClampNeg (vp_nar .byte (zDO (-v0_1).toNatClampNeg))) ((v5_1 + (-1 : Int32)) + (-1 : Int32)).toNatClampNeg (vp_nar .byte (zDT (-v0_1).toNatClampNeg)))))] : va_W) := hD
          refine lv_iload hx hb dJ6_getChars_ba4f3_104 (lv_at hl 4 rfl) ?_
          refine lv_if_eq (tgt := 118) hx hb dJ6_getChars_ba4f3_106 (by decide) (fun c106 => ?_) (fun c106 => ?_)
          · replace h := zif_t h c106
            refine lv_iload hx hb dJ6_getChars_ba4f3_118 (lv_at hl 0 rfl) ?_
            have g0 := Option.some.inj h
            obtain ⟨h1, g1⟩ := Prod.mk.inj g0
            subst h1
            subst g1
            exact W.iret (v := ((v5_1 + (-1 : Int32)) + (-1 : Int32))) hx hb hr (fun t ht hW => ⟨⟨((v5_1 + (-1 : Int32)) + (-1 : Int32)), (), rfl, rfl, by rw [ht]; exact hP, va_K.moved hW.alike hK, hD⟩, hS.F ht⟩) hS.2.2 dJ6_getChars_ba4f3_120
          · replace h := zif_f h c106
            refine lv_aload_n hx hb dJ6_getChars_ba4f3_109 rfl (lv_at hl 3 rfl) ?_
            refine lv_iinc (v := (((v5_1 + (-1 : Int32)) + (-1 : Int32)) + (-1 : Int32))) (lv' := [(5, .int (((v5_1 + (-1 : Int32)) + (-1 : Int32)) + (-1 : Int32))), (0, .int v0_1), (1, .int p1), (2, .ref t2), (6, .int (z01 s0j0))]) hx hb dJ6_getChars_ba4f3_110 hl (k := 0) rfl rfl (by decide) rfl (fun ls hl => ?_)
            refine lv_iload hx hb dJ6_getChars_ba4f3_113 (lv_at hl 0 rfl) ?_
            refine lv_bipush (v := (45 : Int32)) hx hb dJ6_getChars_ba4f3_115 (by decide) ?_
            obtain ⟨z117, h⟩ := zg_some h
            refine va_bast hx hb hK hP hD hS 0 3 rfl rfl z117 dJ6_getChars_ba4f3_117 (fun H locs hP hD hS => ?_)
            replace hP : va_P D vwCl ([(t2, .inl (cB, n2, .inl (upd (upd (upd f0_1 (v5_1 + (-1 : Int32)).toNatClampNeg (vp_nar .byte (zDO (-v0_1).toNatClampNeg))) ((v5_1 + (-1 : Int32)) + (-1 : Int32)).toNatClampNeg (vp_nar .byte (zDT (-v0_1).toNatClampNeg))) (((v5_1 + (-1 : Int32)) + (-1 : Int32)) + (-1 : Int32)).toNatClampNeg (vp_nar .byte (45 : Int32)))))] : va_W) H := hP
            replace hD : va_D A ([(t2, .inl (cB, n2, .inl (upd (upd (upd f0_1 (v5_1 + (-1 : Int32)).toNatClampNeg (vp_nar .byte (zDO (-v0_1).toNatClampNeg))) ((v5_1 + (-1 : Int32)) + (-1 : Int32)).toNatClampNeg (vp_nar .byte (zDT (-v0_1).toNatClampNeg))) (((v5_1 + (-1 : Int32)) + (-1 : Int32)) + (-1 : Int32)).toNatClampNeg (vp_nar .byte (45 : Int32)))))] : va_W) := hD
            refine lv_iload hx hb dJ6_getChars_ba4f3_118 (lv_at hl 0 rfl) ?_
            have g0 := Option.some.inj h
            obtain ⟨h1, g1⟩ := Prod.mk.inj g0
            subst h1
            subst g1
            exact W.iret (v := (((v5_1 + (-1 : Int32)) + (-1 : Int32)) + (-1 : Int32))) hx hb hr (fun t ht hW => ⟨⟨(((v5_1 + (-1 : Int32)) + (-1 : Int32)) + (-1 : Int32)), (), rfl, rfl, by rw [ht]; exact hP, va_K.moved hW.alike hK, hD⟩, hS.F ht⟩) hS.2.2 dJ6_getChars_ba4f3_120
      have L1 : ∀ (K1 : Int32 → Int32 → (Nat → Int32) → Option (Int32 × (Nat → Int32))) (HX1 : ∀ (v0_1 : Int32) (v5_1 : Int32) (f0_1 : Nat → Int32) (H : Heap) (locs : List Loc) (ls : Array Slot), va_P D vwCl ([(t2, .inl (cB, n2, .inl f0_1))] : va_W) H → va_D A ([(t2, .inl (cB, n2, .inl f0_1))] : va_W) → va_S A s.heap H locs → lv_has ls 7 [(0, .int v0_1), (1, .int p1), (2, .ref t2), (5, .int v5_1), (6, .int (z01 s0j0))] → K1 v0_1 v5_1 f0_1 = some (r, T0') → G H locs 0 0 (F0 m 72 ls [])) (fu1 : Nat) (v0_1 : Int32) (v5_1 : Int32) (f0_1 : Nat → Int32) (H : Heap) (locs : List Loc) (ls : Array Slot), va_P D vwCl ([(t2, .inl (cB, n2, .inl f0_1))] : va_W) H → va_D A ([(t2, .inl (cB, n2, .inl f0_1))] : va_W) → va_S A s.heap H locs → lv_has ls 7 [(0, .int v0_1), (1, .int p1), (2, .ref t2), (5, .int v5_1), (6, .int (z01 s0j0))] → p_J6_getChars_ba4f3_L1 F n2 K1 fu1 v0_1 v5_1 f0_1 = some (r, T0') → G H locs 0 0 (F0 m 22 ls []) := by
        intro K1 HX1 fu1
        induction fu1 with
        | zero =>
          intro v0_1 v5_1 f0_1 H locs ls hP hD hS hl h
          exact (zno h).elim
        | succ fu1 ih1 =>
          intro v0_1 v5_1 f0_1 H locs ls hP hD hS hl h
          refine hG _ _ _ _ _ ?_
          unfold p_J6_getChars_ba4f3_L1 at h
          refine lv_iload_n hx hb dJ6_getChars_ba4f3_22 rfl (lv_at hl 0 rfl) ?_
          refine lv_bipush (v := (-100 : Int32)) hx hb dJ6_getChars_ba4f3_23 (by decide) ?_
          refine lv_icmp_gt (tgt := 72) hx hb dJ6_getChars_ba4f3_25 (by decide) (fun c25 => ?_) (fun c25 => ?_)
          · replace h := zif_t h c25
            exact hGW _ _ _ _ _ (HX1 v0_1 v5_1 f0_1 _ _ ls hP hD hS (lv_sub hl [0, 1, 2, 3, 4] rfl) h)
          · replace h := zif_f h c25
            refine lv_iload_n hx hb dJ6_getChars_ba4f3_28 rfl (lv_at hl 0 rfl) ?_
            refine lv_bipush (v := (100 : Int32)) hx hb dJ6_getChars_ba4f3_29 (by decide) ?_
            refine lv_idiv hx hb dJ6_getChars_ba4f3_31 (by decide) ?_
            refine lv_istore_n (lv' := [(3, .int (v0_1 / (100 : Int32))), (0, .int v0_1), (1, .int p1), (2, .ref t2), (5, .int v5_1), (6, .int (z01 s0j0))]) hx hb dJ6_getChars_ba4f3_32 rfl hl (by decide) rfl (fun ls hl => ?_)
            refine lv_iload_n hx hb dJ6_getChars_ba4f3_33 rfl (lv_at hl 0 rfl) ?_
            refine lv_bipush (v := (100 : Int32)) hx hb dJ6_getChars_ba4f3_34 (by decide) ?_
            refine lv_imul hx hb dJ6_getChars_ba4f3_36 ?_
            refine lv_iload_n hx hb dJ6_getChars_ba4f3_37 rfl (lv_at hl 1 rfl) ?_
            refine lv_isub hx hb dJ6_getChars_ba4f3_38 ?_
            refine lv_istore (lv' := [(4, .int (((v0_1 / (100 : Int32)) * (100 : Int32)) - v0_1)), (3, .int (v0_1 / (100 : Int32))), (0, .int v0_1), (1, .int p1), (2, .ref t2), (5, .int v5_1), (6, .int (z01 s0j0))]) hx hb dJ6_getChars_ba4f3_39 hl (by decide) rfl (fun ls hl => ?_)
            refine lv_iload_n hx hb dJ6_getChars_ba4f3_41 rfl (lv_at hl 1 rfl) ?_
            refine lv_istore_n (lv' := [(0, .int (v0_1 / (100 : Int32))), (4, .int (((v0_1 / (100 : Int32)) * (100 : Int32)) - v0_1)), (3, .int (v0_1 / (100 : Int32))), (1, .int p1), (2, .ref t2), (5, .int v5_1), (6, .int (z01 s0j0))]) hx hb dJ6_getChars_ba4f3_42 rfl hl (by decide) rfl (fun ls hl => ?_)
            refine lv_aload_n hx hb dJ6_getChars_ba4f3_43 rfl (lv_at hl 4 rfl) ?_
            refine lv_iinc (v := (v5_1 + (-1 : Int32))) (lv' := [(5, .int (v5_1 + (-1 : Int32))), (0, .int (v0_1 / (100 : Int32))), (4, .int (((v0_1 / (100 : Int32)) * (100 : Int32)) - v0_1)), (3, .int (v0_1 / (100 : Int32))), (1, .int p1), (2, .ref t2), (6, .int (z01 s0j0))]) hx hb dJ6_getChars_ba4f3_44 hl (k := 5) rfl rfl (by decide) rfl (fun ls hl => ?_)
            refine lv_iload hx hb dJ6_getChars_ba4f3_47 (lv_at hl 0 rfl) ?_
            refine va_gets hx hb hOz hS hown kf_83 (fun _ h9 => h9) dJ6_getChars_ba4f3_49 ?_
            refine lv_iload hx hb dJ6_getChars_ba4f3_52 (lv_at hl 2 rfl) ?_
            obtain ⟨z54, h⟩ := zg_some h
            refine va_tb hx hb hOt hS z54 (v := .int (zDO (((v0_1 / (100 : Int32)) * (100 : Int32)) - v0_1).toNatClampNeg)) rfl dJ6_getChars_ba4f3_54 ?_
            obtain ⟨z55, h⟩ := zg_some h
            refine va_bast hx hb hK hP hD hS 0 3 rfl rfl z55 dJ6_getChars_ba4f3_55 (fun H locs hP hD hS => ?_)
            replace hP : va_P D vwCl ([(t2, .inl (cB, n2, .inl (upd f0_1 (v5_1 + (-1 : Int32)).toNatClampNeg (vp_nar .byte (zDO (((v0_1 / (100 : Int32)) * (100 : Int32)) - v0_1).toNatClampNeg)))))] : va_W) H := hP
            replace hD : va_D A ([(t2, .inl (cB, n2, .inl (upd f0_1 (v5_1 + (-1 : Int32)).toNatClampNeg (vp_nar .byte (zDO (((v0_1 / (100 : Int32)) * (100 : Int32)) - v0_1).toNatClampNeg)))))] : va_W) := hD
            refine lv_aload_n hx hb dJ6_getChars_ba4f3_56 rfl (lv_at hl 5 rfl) ?_
            refine lv_iinc (v := ((v5_1 + (-1 : Int32)) + (-1 : Int32))) (lv' := [(5, .int ((v5_1 + (-1 : Int32)) + (-1 : Int32))), (0, .int (v0_1 / (100 : Int32))), (4, .int (((v0_1 / (100 : Int32)) * (100 : Int32)) - v0_1)), (3, .int (v0_1 / (100 : Int32))), (1, .int p1), (2, .ref t2), (6, .int (z01 s0j0))]) hx hb dJ6_getChars_ba4f3_57 hl (k := 0) rfl rfl (by decide) rfl (fun ls hl => ?_)
            refine lv_iload hx hb dJ6_getChars_ba4f3_60 (lv_at hl 0 rfl) ?_
            refine va_gets hx hb hTz hS hown kf_87 (fun _ h9 => h9) dJ6_getChars_ba4f3_62 ?_
            refine lv_iload hx hb dJ6_getChars_ba4f3_65 (lv_at hl 2 rfl) ?_
            obtain ⟨z67, h⟩ := zg_some h
            refine va_tb hx hb hTt hS z67 (v := .int (zDT (((v0_1 / (100 : Int32)) * (100 : Int32)) - v0_1).toNatClampNeg)) rfl dJ6_getChars_ba4f3_67 ?_
            obtain ⟨z68, h⟩ := zg_some h
            refine va_bast hx hb hK hP hD hS 0 3 rfl rfl z68 dJ6_getChars_ba4f3_68 (fun H locs hP hD hS => ?_)
            replace hP : va_P D vwCl ([(t2, .inl (cB, n2, .inl (upd (upd f0_1 (v5_1 + (-1 : Int32)).toNatClampNeg (vp_nar .byte (zDO (((v0_1 / (100 : Int32)) * (100 : Int32)) - v0_1).toNatClampNeg))) ((v5_1 + (-1 : Int32)) + (-1 : Int32)).toNatClampNeg (vp_nar .byte (zDT (((v0_1 / (100 : Int32)) * (100 : Int32)) - v0_1).toNatClampNeg)))))] : va_W) H := hP
            replace hD : va_D A ([(t2, .inl (cB, n2, .inl (upd (upd f0_1 (v5_1 + (-1 : Int32)).toNatClampNeg (vp_nar .byte (zDO (((v0_1 / (100 : Int32)) * (100 : Int32)) - v0_1).toNatClampNeg))) ((v5_1 + (-1 : Int32)) + (-1 : Int32)).toNatClampNeg (vp_nar .byte (zDT (((v0_1 / (100 : Int32)) * (100 : Int32)) - v0_1).toNatClampNeg)))))] : va_W) := hD
            refine lv_goto (tgt := 22) hx hb dJ6_getChars_ba4f3_69 (by decide) ?_
            exact hGW _ _ _ _ _ (ih1 (v0_1 / (100 : Int32)) ((v5_1 + (-1 : Int32)) + (-1 : Int32)) (upd (upd f0_1 (v5_1 + (-1 : Int32)).toNatClampNeg (vp_nar .byte (zDO (((v0_1 / (100 : Int32)) * (100 : Int32)) - v0_1).toNatClampNeg))) ((v5_1 + (-1 : Int32)) + (-1 : Int32)).toNatClampNeg (vp_nar .byte (zDT (((v0_1 / (100 : Int32)) * (100 : Int32)) - v0_1).toNatClampNeg))) _ _ ls hP hD hS (lv_sub hl [1, 4, 5, 0, 6] rfl) h)
      exact hGW _ _ _ _ _ (L1 _ X1 F (-p0) p1 p2 _ _ ls hP hD hS (lv_sub hl [0, 2, 3, 4, 1] rfl) h)
  replace h := zlt_h h
  refine lv_if_ge (tgt := 11) hx hb dJ6_getChars_ba4f3_4 (by decide) (fun c4 => ?_) (fun c4 => ?_)
  · replace h := zif_t h c4
    refine lv_iconst (v := (0 : Int32)) hx hb dJ6_getChars_ba4f3_11 (by decide) ?_
    exact hGW _ _ _ _ _ (J0 false _ _ ls hP hD hS (lv_sub hl [1, 2, 3, 0] rfl) h)
  · replace h := zif_f h c4
    refine lv_iconst (v := (1 : Int32)) hx hb dJ6_getChars_ba4f3_7 (by decide) ?_
    refine lv_goto (tgt := 12) hx hb dJ6_getChars_ba4f3_8 (by decide) ?_
    exact hGW _ _ _ _ _ (J0 true _ _ ls hP hD hS (lv_sub hl [1, 2, 3, 0] rfl) h)

noncomputable def p_J7_copyOf_9075b (n0 : Nat) (p0 : Nat → Int32) (p1 : Int32) : Option (Nat × (Nat → Int32)) := (if ¬ p1 = (Int32.ofNat n0) then (zg (p1 < 0 ∨ 150 < p1.toNatClampNeg) (zg (zcp p0 n0 (p1.toNatClampNeg) (0 : Int32) (0 : Int32) (if p1 < (Int32.ofNat n0) then p1 else (Int32.ofNat n0)) = false) (some ((p1.toNatClampNeg), (va_cpy p0 (fun _ => 0) (0 : Int32).toNatClampNeg (0 : Int32).toNatClampNeg (if p1 < (Int32.ofNat n0) then p1 else (Int32.ofNat n0)).toNatClampNeg))))) else (zg (150 < n0) (zg (zbf p0 n0 = false) (some (n0, p0)))))
theorem hdS_J7_copyOf_9075b : yJ7_copyOf_9075b.cls ≠ "java/lang/invoke/MethodHandle" ∧ yJ7_copyOf_9075b.cls ≠ "java/lang/invoke/VarHandle" ∧ (parseMethodDescriptor yJ7_copyOf_9075b.desc).map (fun d => d.parameters.length) = some 2 := by decide +kernel
set_option maxHeartbeats 4000000 in
set_option maxRecDepth 100000 in
theorem c_J7_copyOf_9075b (l : Launch) (D : va_G) (cJ cI cO cB : ClassId) (t0 : Nat) (n0 : Nat) (p0 : Nat → Int32) (p1 : Int32) (rn : Nat) (rf : Nat → Int32) (h : p_J7_copyOf_9075b n0 p0 p1 = some (rn, rf)) : zGn l yJ7_copyOf_9075b wsJ7_copyOf_9075b 1 60 1 150 (zPx D (zT cJ cI cO cB) ([(t0, .inl (cB, n0, .inl p0))] : va_W)) [.ref t0, .int p1] D (zT cJ cI cO cB) ([(t0, .inl (cB, n0, .inl p0))] : va_W) (fun x => ([(t0, .inl (cB, n0, .inl p0)), (x, .inl (cB, rn, .inl rf))] : va_W)) := by
  intro sz
  delta zQn
  refine Met.ofW (cc := cJ7_copyOf_9075b) (maxL := 3) (ret := (some (.array .byte))) (by decide) rfl ?_
  intro p e s m args below meth c s₁ B hml hv
  obtain ⟨rfl, ⟨hsz, hP, hK, hD0⟩, hE⟩ := hv
  have hx := B.exec
  have hb := B.bytes
  have hr := B.returns
  have hts := atoms_spec (ws := wsJ7_copyOf_9075b) B.pre
  have hown : s.vm.findClass RJ7 = some m.cls := findClass_of_methodNamed B.named
  have hlocks := B.notSynchronized
  subst hsz
  have hD := hD0.self (sz := s.heap.size)
  generalize hAe : va_A ([(t0, .inl (cB, n0, .inl p0))] : va_W) s.heap.size = A at hD hE ⊢
  have hA : ∀ q : Nat, s.heap.size ≤ q → A q := fun q h => by rw [← hAe]; exact Or.inr h
  have hS : va_S A s.heap s.heap [] := va_S.rf
  have hl := lv_entry ([.ref t0, .int p1]) (n := 3) (Nat.le_of_ble_eq_true rfl)
  rw [lg_entry_eq]
  generalize (lg_sl ([.ref t0, .int p1]) ++ List.replicate (3 - (lg_sl ([.ref t0, .int p1])).length) Slot.unset).toArray = ls at hl ⊢
  replace hl : lv_has ls 3 [(0, .ref t0), (1, .int p1)] := hl
  have karb := hts (.arrayClass .byte) (zmem 7 rfl)
  have km_304 := hts (.methodLink RJ7 304 Lib.Math.min.name) (zmem 8 rfl)
  have kmsmin := hts (.static Lib.Math.min.name) (zmem 9 rfl)
  have kmi := hts (.initialized "java/lang/Math") (zmem 10 rfl)
  have kmcmin := hts (.code Lib.Math.min.name Lib.Math.min.code 2 (some .int)) (zmem 11 rfl)
  have km_150 := hts (.methodLink RJ7 150 arraycopyName) (zmem 12 rfl)
  have kan := hts (.native arraycopyName) (zmem 13 rfl)
  have kas := hts (.static arraycopyName) (zmem 14 rfl)
  have kai := hts (.initialized "java/lang/System") (zmem 15 rfl)
  have kcl := hts (.methodLink RJ7 310 ⟨"[B", "clone", "()Ljava/lang/Object;"⟩) (zmem 1 rfl)
  have kcs := hts (.sameMethod "[B" "java/lang/Object" "clone" "()Ljava/lang/Object;") (zmem 2 rfl)
  have kcn := hts (.native ⟨"java/lang/Object", "clone", "()Ljava/lang/Object;"⟩) (zmem 3 rfl)
  have kci := hts (.instanceMethod ⟨"java/lang/Object", "clone", "()Ljava/lang/Object;"⟩) (zmem 4 rfl)
  have kce := hts (.selects "[B" ⟨"[B", "clone", "()Ljava/lang/Object;"⟩ ⟨"java/lang/Object", "clone", "()Ljava/lang/Object;"⟩) (zmem 5 rfl)
  have kc_311 := hts (.classLink RJ7 311 "[B") (zmem 6 rfl)
  replace h : (if ¬ p1 = (Int32.ofNat n0) then (zg (p1 < 0 ∨ 150 < p1.toNatClampNeg) (zg (zcp p0 n0 (p1.toNatClampNeg) (0 : Int32) (0 : Int32) (if p1 < (Int32.ofNat n0) then p1 else (Int32.ofNat n0)) = false) (some ((p1.toNatClampNeg), (va_cpy p0 (fun _ => 0) (0 : Int32).toNatClampNeg (0 : Int32).toNatClampNeg (if p1 < (Int32.ofNat n0) then p1 else (Int32.ofNat n0)).toNatClampNeg))))) else (zg (150 < n0) (zg (zbf p0 n0 = false) (some (n0, p0))))) = some (rn, rf) := h
  obtain ⟨H, hHe⟩ : ∃ H, H = s.heap := ⟨_, rfl⟩
  rw [← hHe] at hP
  replace hS : va_S A s.heap H [] := by rw [hHe]; exact hS
  refine zheap hHe ?_
  refine lv_iload_n hx hb dJ7_copyOf_9075b_0 rfl (lv_at hl 1 rfl) ?_
  refine lv_aload_n hx hb dJ7_copyOf_9075b_1 rfl (lv_at hl 0 rfl) ?_
  refine va_alen (v := (Int32.ofNat n0)) hx hb hK hP 0 3 (ty := .byte) rfl rfl rfl dJ7_copyOf_9075b_2 ?_
  refine lv_icmp_ne (tgt := 14) hx hb dJ7_copyOf_9075b_3 (by decide) (fun c3 => ?_) (fun c3 => ?_)
  · replace h := zif_t h c3
    refine lv_iload_n hx hb dJ7_copyOf_9075b_14 rfl (lv_at hl 1 rfl) ?_
    obtain ⟨z15, h⟩ := zg_some h
    refine znewB hx hb karb hK hP hD hS hA z15 (Nat.le_of_ble_eq_true rfl) (Nat.le_of_ble_eq_true rfl) dJ7_copyOf_9075b_15 (fun w1 H hP hD hS => ?_)
    replace hP := zsub (wn := ([(t0, .inl (cB, n0, .inl p0)), (w1, .inl (cB, (p1.toNatClampNeg), .inl (fun _ => 0)))] : va_W)) hP [0, 1] rfl
    replace hD := hD.sub (ws' := ([(t0, .inl (cB, n0, .inl p0)), (w1, .inl (cB, (p1.toNatClampNeg), .inl (fun _ => 0)))] : va_W)) [0, 1] (by decide) rfl
    refine lv_astore_n (lv' := [(2, .ref w1), (0, .ref t0), (1, .int p1)]) hx hb dJ7_copyOf_9075b_17 rfl hl (by decide) rfl (fun ls hl => ?_)
    refine lv_aload_n hx hb dJ7_copyOf_9075b_18 rfl (lv_at hl 1 rfl) ?_
    refine lv_iconst (v := (0 : Int32)) hx hb dJ7_copyOf_9075b_19 (by decide) ?_
    refine lv_aload_n hx hb dJ7_copyOf_9075b_20 rfl (lv_at hl 0 rfl) ?_
    refine lv_iconst (v := (0 : Int32)) hx hb dJ7_copyOf_9075b_21 (by decide) ?_
    refine lv_aload_n hx hb dJ7_copyOf_9075b_22 rfl (lv_at hl 1 rfl) ?_
    refine va_alen (v := (Int32.ofNat n0)) hx hb hK hP 0 3 (ty := .byte) rfl rfl rfl dJ7_copyOf_9075b_23 ?_
    refine lv_iload_n hx hb dJ7_copyOf_9075b_24 rfl (lv_at hl 2 rfl) ?_
    refine va_mmin hx hb (hml.trans hl.1.symm) hown km_304 kmsmin kmi kmcmin (Nat.le_of_ble_eq_true rfl) (Nat.le_of_ble_eq_true rfl) (Nat.le_of_ble_eq_true rfl) (Nat.le_of_ble_eq_true rfl) dJ7_copyOf_9075b_25 ?_
    obtain ⟨z28, h⟩ := zg_some h
    replace z28 := zcp_of z28
    refine va_copyi hx hb (hml.trans hl.1.symm) hown km_150 kan kas kai hK hP hD hS 0 1 3 3 rfl rfl rfl rfl rfl z28.1 z28.2.1 z28.2.2.1 z28.2.2.2.1 z28.2.2.2.2.1 z28.2.2.2.2.2 (Nat.le_of_ble_eq_true rfl) (Nat.le_of_ble_eq_true rfl) dJ7_copyOf_9075b_28 (fun H locs hP hD hS => ?_)
    replace hP : va_P D vwCl ([(t0, .inl (cB, n0, .inl p0)), (w1, .inl (cB, (p1.toNatClampNeg), .inl (va_cpy p0 (fun _ => 0) (0 : Int32).toNatClampNeg (0 : Int32).toNatClampNeg (if p1 < (Int32.ofNat n0) then p1 else (Int32.ofNat n0)).toNatClampNeg)))] : va_W) H := hP
    replace hD : va_D A ([(t0, .inl (cB, n0, .inl p0)), (w1, .inl (cB, (p1.toNatClampNeg), .inl (va_cpy p0 (fun _ => 0) (0 : Int32).toNatClampNeg (0 : Int32).toNatClampNeg (if p1 < (Int32.ofNat n0) then p1 else (Int32.ofNat n0)).toNatClampNeg)))] : va_W) := hD
    refine lv_aload_n hx hb dJ7_copyOf_9075b_31 rfl (lv_at hl 0 rfl) ?_
    have g0 := Option.some.inj h
    obtain ⟨h1, g1⟩ := Prod.mk.inj g0
    subst h1
    subst g1
    exact W.aret (v := .ref w1) hx hb hr (Or.inr ⟨_, rfl⟩) (Or.inr ⟨_, rfl⟩) (fun t ht hW => ⟨⟨(), w1, rfl, trivial, by rw [ht]; exact hP, va_K.moved hW.alike hK, hD⟩, hS.F ht⟩) hS.2.2 dJ7_copyOf_9075b_32
  · replace h := zif_fn h c3
    refine lv_aload_n hx hb dJ7_copyOf_9075b_6 rfl (lv_at hl 0 rfl) ?_
    obtain ⟨z7a, h⟩ := zg_some h
    obtain ⟨z7, h⟩ := zg_some h
    refine zclone hx hb (hml.trans hl.1.symm) hown kcl kcs kcn kci kce hE.2.2.1.2.2.2.2.2.2.2.2.1 hK hP hD hS hA 0 rfl (zbf_of z7) (Nat.not_lt.mp z7a) (Nat.le_of_ble_eq_true rfl) (Nat.le_of_ble_eq_true rfl) (Nat.le_of_ble_eq_true rfl) (Nat.le_of_ble_eq_true rfl) dJ7_copyOf_9075b_7 (fun w2 H hP hD hS => ?_)
    replace hP := zsub (wn := ([(t0, .inl (cB, n0, .inl p0)), (w2, .inl (cB, n0, .inl p0))] : va_W)) hP [0, 1] rfl
    replace hD := hD.sub (ws' := ([(t0, .inl (cB, n0, .inl p0)), (w2, .inl (cB, n0, .inl p0))] : va_W)) [0, 1] (by decide) rfl
    refine va_castA hx hb hown kc_311 hP 1 rfl (zfcB hK) dJ7_copyOf_9075b_10 ?_
    have g0 := Option.some.inj h
    obtain ⟨h1, g1⟩ := Prod.mk.inj g0
    subst h1
    subst g1
    exact W.aret (v := .ref w2) hx hb hr (Or.inr ⟨_, rfl⟩) (Or.inr ⟨_, rfl⟩) (fun t ht hW => ⟨⟨(), w2, rfl, trivial, by rw [ht]; exact hP, va_K.moved hW.alike hK, hD⟩, hS.F ht⟩) hS.2.2 dJ7_copyOf_9075b_13

noncomputable def p_J7_copyOfRangeByte_39247 (n0 : Nat) (p0 : Nat → Int32) (p1 : Int32) (p2 : Int32) : Option (Nat × (Nat → Int32)) := (zb0 (p_J7_checkLength_df160 p1 p2) (zg ((p2 - p1) < 0 ∨ 150 < (p2 - p1).toNatClampNeg) (zg (zcp p0 n0 ((p2 - p1).toNatClampNeg) p1 (0 : Int32) (if (p2 - p1) < ((Int32.ofNat n0) - p1) then (p2 - p1) else ((Int32.ofNat n0) - p1)) = false) (some (((p2 - p1).toNatClampNeg), (va_cpy p0 (fun _ => 0) p1.toNatClampNeg (0 : Int32).toNatClampNeg (if (p2 - p1) < ((Int32.ofNat n0) - p1) then (p2 - p1) else ((Int32.ofNat n0) - p1)).toNatClampNeg))))))
theorem hdS_J7_copyOfRangeByte_39247 : yJ7_copyOfRangeByte_39247.cls ≠ "java/lang/invoke/MethodHandle" ∧ yJ7_copyOfRangeByte_39247.cls ≠ "java/lang/invoke/VarHandle" ∧ (parseMethodDescriptor yJ7_copyOfRangeByte_39247.desc).map (fun d => d.parameters.length) = some 3 := by decide +kernel
set_option maxHeartbeats 4000000 in
set_option maxRecDepth 100000 in
theorem c_J7_copyOfRangeByte_39247 (l : Launch) (D : va_G) (cJ cI cO cB : ClassId) (t0 : Nat) (n0 : Nat) (p0 : Nat → Int32) (p1 : Int32) (p2 : Int32) (rn : Nat) (rf : Nat → Int32) (h : p_J7_copyOfRangeByte_39247 n0 p0 p1 p2 = some (rn, rf)) : zGn l yJ7_copyOfRangeByte_39247 wsJ7_copyOfRangeByte_39247 1 60 1 150 (zPx D (zT cJ cI cO cB) ([(t0, .inl (cB, n0, .inl p0))] : va_W)) [.ref t0, .int p1, .int p2] D (zT cJ cI cO cB) ([(t0, .inl (cB, n0, .inl p0))] : va_W) (fun x => ([(t0, .inl (cB, n0, .inl p0)), (x, .inl (cB, rn, .inl rf))] : va_W)) := by
  intro sz
  delta zQn
  refine Met.ofW (cc := cJ7_copyOfRangeByte_39247) (maxL := 5) (ret := (some (.array .byte))) (by decide) rfl ?_
  intro p e s m args below meth c s₁ B hml hv
  obtain ⟨rfl, ⟨hsz, hP, hK, hD0⟩, hE⟩ := hv
  have hx := B.exec
  have hb := B.bytes
  have hr := B.returns
  have hts := atoms_spec (ws := wsJ7_copyOfRangeByte_39247) B.pre
  have hown : s.vm.findClass RJ7 = some m.cls := findClass_of_methodNamed B.named
  have hlocks := B.notSynchronized
  subst hsz
  have hD := hD0.self (sz := s.heap.size)
  generalize hAe : va_A ([(t0, .inl (cB, n0, .inl p0))] : va_W) s.heap.size = A at hD hE ⊢
  have hA : ∀ q : Nat, s.heap.size ≤ q → A q := fun q h => by rw [← hAe]; exact Or.inr h
  have hS : va_S A s.heap s.heap [] := va_S.rf
  have hl := lv_entry ([.ref t0, .int p1, .int p2]) (n := 5) (Nat.le_of_ble_eq_true rfl)
  rw [lg_entry_eq]
  generalize (lg_sl ([.ref t0, .int p1, .int p2]) ++ List.replicate (5 - (lg_sl ([.ref t0, .int p1, .int p2])).length) Slot.unset).toArray = ls at hl ⊢
  replace hl : lv_has ls 5 [(0, .ref t0), (1, .int p1), (2, .int p2)] := hl
  have karb := hts (.arrayClass .byte) (zmem 1 rfl)
  have km_304 := hts (.methodLink RJ7 304 Lib.Math.min.name) (zmem 2 rfl)
  have kmsmin := hts (.static Lib.Math.min.name) (zmem 3 rfl)
  have kmi := hts (.initialized "java/lang/Math") (zmem 4 rfl)
  have kmcmin := hts (.code Lib.Math.min.name Lib.Math.min.code 2 (some .int)) (zmem 5 rfl)
  have km_150 := hts (.methodLink RJ7 150 arraycopyName) (zmem 6 rfl)
  have kan := hts (.native arraycopyName) (zmem 7 rfl)
  have kas := hts (.static arraycopyName) (zmem 8 rfl)
  have kai := hts (.initialized "java/lang/System") (zmem 9 rfl)
  replace h : (zb0 (p_J7_checkLength_df160 p1 p2) (zg ((p2 - p1) < 0 ∨ 150 < (p2 - p1).toNatClampNeg) (zg (zcp p0 n0 ((p2 - p1).toNatClampNeg) p1 (0 : Int32) (if (p2 - p1) < ((Int32.ofNat n0) - p1) then (p2 - p1) else ((Int32.ofNat n0) - p1)) = false) (some (((p2 - p1).toNatClampNeg), (va_cpy p0 (fun _ => 0) p1.toNatClampNeg (0 : Int32).toNatClampNeg (if (p2 - p1) < ((Int32.ofNat n0) - p1) then (p2 - p1) else ((Int32.ofNat n0) - p1)).toNatClampNeg)))))) = some (rn, rf) := h
  obtain ⟨H, hHe⟩ : ∃ H, H = s.heap := ⟨_, rfl⟩
  rw [← hHe] at hP
  replace hS : va_S A s.heap H [] := by rw [hHe]; exact hS
  refine zheap hHe ?_
  refine lv_iload_n hx hb dJ7_copyOfRangeByte_39247_0 rfl (lv_at hl 1 rfl) ?_
  refine lv_iload_n hx hb dJ7_copyOfRangeByte_39247_1 rfl (lv_at hl 2 rfl) ?_
  obtain ⟨e1, h⟩ := zb0_some h
  refine zgov (va_runS (As := [.int p1, .int p2]) (rest := []) ⟨hx, hb, hml, hown, hts⟩ (c_J7_checkLength_df160 l D (zT cJ cI cO cB) p1 p2 e1 H.size) (va_cwS 2 hts gJ7_copyOfRangeByte_39247_J7_checkLength_df160 rfl rfl rfl hdS_J7_checkLength_df160 ⟨Nat.le_of_ble_eq_true rfl, Nat.le_of_ble_eq_true rfl⟩) (zpreS hK zP0 (zD0 (A := A)) [.int p1, .int p2]) rfl rfl hl.1 rfl (lv_room (Nat.le_of_ble_eq_true rfl)) dJ7_copyOfRangeByte_39247_2 ⟨Nat.le_of_ble_eq_true rfl, Nat.le_of_ble_eq_true rfl⟩) (zf0 hS hA) (zjE hP hD) hS (fun H locs hP hD hS => ?_)
  refine lv_iload_n hx hb dJ7_copyOfRangeByte_39247_5 rfl (lv_at hl 2 rfl) ?_
  refine lv_iload_n hx hb dJ7_copyOfRangeByte_39247_6 rfl (lv_at hl 1 rfl) ?_
  refine lv_isub hx hb dJ7_copyOfRangeByte_39247_7 ?_
  refine lv_istore_n (lv' := [(3, .int (p2 - p1)), (0, .ref t0), (1, .int p1), (2, .int p2)]) hx hb dJ7_copyOfRangeByte_39247_8 rfl hl (by decide) rfl (fun ls hl => ?_)
  refine lv_iload_n hx hb dJ7_copyOfRangeByte_39247_9 rfl (lv_at hl 0 rfl) ?_
  obtain ⟨z10, h⟩ := zg_some h
  refine znewB hx hb karb hK hP hD hS hA z10 (Nat.le_of_ble_eq_true rfl) (Nat.le_of_ble_eq_true rfl) dJ7_copyOfRangeByte_39247_10 (fun w2 H hP hD hS => ?_)
  replace hP := zsub (wn := ([(t0, .inl (cB, n0, .inl p0)), (w2, .inl (cB, ((p2 - p1).toNatClampNeg), .inl (fun _ => 0)))] : va_W)) hP [0, 1] rfl
  replace hD := hD.sub (ws' := ([(t0, .inl (cB, n0, .inl p0)), (w2, .inl (cB, ((p2 - p1).toNatClampNeg), .inl (fun _ => 0)))] : va_W)) [0, 1] (by decide) rfl
  refine lv_astore (lv' := [(4, .ref w2), (3, .int (p2 - p1)), (0, .ref t0), (1, .int p1), (2, .int p2)]) hx hb dJ7_copyOfRangeByte_39247_12 hl (by decide) rfl (fun ls hl => ?_)
  refine lv_aload_n hx hb dJ7_copyOfRangeByte_39247_14 rfl (lv_at hl 2 rfl) ?_
  refine lv_iload_n hx hb dJ7_copyOfRangeByte_39247_15 rfl (lv_at hl 3 rfl) ?_
  refine lv_aload hx hb dJ7_copyOfRangeByte_39247_16 (lv_at hl 0 rfl) ?_
  refine lv_iconst (v := (0 : Int32)) hx hb dJ7_copyOfRangeByte_39247_18 (by decide) ?_
  refine lv_aload_n hx hb dJ7_copyOfRangeByte_39247_19 rfl (lv_at hl 2 rfl) ?_
  refine va_alen (v := (Int32.ofNat n0)) hx hb hK hP 0 3 (ty := .byte) rfl rfl rfl dJ7_copyOfRangeByte_39247_20 ?_
  refine lv_iload_n hx hb dJ7_copyOfRangeByte_39247_21 rfl (lv_at hl 3 rfl) ?_
  refine lv_isub hx hb dJ7_copyOfRangeByte_39247_22 ?_
  refine lv_iload_n hx hb dJ7_copyOfRangeByte_39247_23 rfl (lv_at hl 1 rfl) ?_
  refine va_mmin hx hb (hml.trans hl.1.symm) hown km_304 kmsmin kmi kmcmin (Nat.le_of_ble_eq_true rfl) (Nat.le_of_ble_eq_true rfl) (Nat.le_of_ble_eq_true rfl) (Nat.le_of_ble_eq_true rfl) dJ7_copyOfRangeByte_39247_24 ?_
  obtain ⟨z27, h⟩ := zg_some h
  replace z27 := zcp_of z27
  refine va_copyi hx hb (hml.trans hl.1.symm) hown km_150 kan kas kai hK hP hD hS 0 1 3 3 rfl rfl rfl rfl rfl z27.1 z27.2.1 z27.2.2.1 z27.2.2.2.1 z27.2.2.2.2.1 z27.2.2.2.2.2 (Nat.le_of_ble_eq_true rfl) (Nat.le_of_ble_eq_true rfl) dJ7_copyOfRangeByte_39247_27 (fun H locs hP hD hS => ?_)
  replace hP : va_P D vwCl ([(t0, .inl (cB, n0, .inl p0)), (w2, .inl (cB, ((p2 - p1).toNatClampNeg), .inl (va_cpy p0 (fun _ => 0) p1.toNatClampNeg (0 : Int32).toNatClampNeg (if (p2 - p1) < ((Int32.ofNat n0) - p1) then (p2 - p1) else ((Int32.ofNat n0) - p1)).toNatClampNeg)))] : va_W) H := hP
  replace hD : va_D A ([(t0, .inl (cB, n0, .inl p0)), (w2, .inl (cB, ((p2 - p1).toNatClampNeg), .inl (va_cpy p0 (fun _ => 0) p1.toNatClampNeg (0 : Int32).toNatClampNeg (if (p2 - p1) < ((Int32.ofNat n0) - p1) then (p2 - p1) else ((Int32.ofNat n0) - p1)).toNatClampNeg)))] : va_W) := hD
  refine lv_aload hx hb dJ7_copyOfRangeByte_39247_30 (lv_at hl 0 rfl) ?_
  have g0 := Option.some.inj h
  obtain ⟨h1, g1⟩ := Prod.mk.inj g0
  subst h1
  subst g1
  exact W.aret (v := .ref w2) hx hb hr (Or.inr ⟨_, rfl⟩) (Or.inr ⟨_, rfl⟩) (fun t ht hW => ⟨⟨(), w2, rfl, trivial, by rw [ht]; exact hP, va_K.moved hW.alike hK, hD⟩, hS.F ht⟩) hS.2.2 dJ7_copyOfRangeByte_39247_32

noncomputable def p_J7_copyOfRange_39247 (n0 : Nat) (p0 : Nat → Int32) (p1 : Int32) (p2 : Int32) : Option (Nat × (Nat → Int32)) := (if ¬ p1 = 0 then (zb2 (p_J7_copyOfRangeByte_39247 n0 p0 p1 p2) (fun r1 r2 => (some (r1, r2)))) else (if p2 = (Int32.ofNat n0) then (zg (150 < n0) (zg (zbf p0 n0 = false) (some (n0, p0)))) else (zb2 (p_J7_copyOfRangeByte_39247 n0 p0 p1 p2) (fun r6 r7 => (some (r6, r7))))))
theorem hdS_J7_copyOfRange_39247 : yJ7_copyOfRange_39247.cls ≠ "java/lang/invoke/MethodHandle" ∧ yJ7_copyOfRange_39247.cls ≠ "java/lang/invoke/VarHandle" ∧ (parseMethodDescriptor yJ7_copyOfRange_39247.desc).map (fun d => d.parameters.length) = some 3 := by decide +kernel
set_option maxHeartbeats 4000000 in
set_option maxRecDepth 100000 in
theorem c_J7_copyOfRange_39247 (l : Launch) (D : va_G) (cJ cI cO cB : ClassId) (t0 : Nat) (n0 : Nat) (p0 : Nat → Int32) (p1 : Int32) (p2 : Int32) (rn : Nat) (rf : Nat → Int32) (h : p_J7_copyOfRange_39247 n0 p0 p1 p2 = some (rn, rf)) : zGn l yJ7_copyOfRange_39247 wsJ7_copyOfRange_39247 2 84 1 150 (zPx D (zT cJ cI cO cB) ([(t0, .inl (cB, n0, .inl p0))] : va_W)) [.ref t0, .int p1, .int p2] D (zT cJ cI cO cB) ([(t0, .inl (cB, n0, .inl p0))] : va_W) (fun x => ([(t0, .inl (cB, n0, .inl p0)), (x, .inl (cB, rn, .inl rf))] : va_W)) := by
  intro sz
  delta zQn
  refine Met.ofW (cc := cJ7_copyOfRange_39247) (maxL := 3) (ret := (some (.array .byte))) (by decide) rfl ?_
  intro p e s m args below meth c s₁ B hml hv
  obtain ⟨rfl, ⟨hsz, hP, hK, hD0⟩, hE⟩ := hv
  have hx := B.exec
  have hb := B.bytes
  have hr := B.returns
  have hts := atoms_spec (ws := wsJ7_copyOfRange_39247) B.pre
  have hown : s.vm.findClass RJ7 = some m.cls := findClass_of_methodNamed B.named
  have hlocks := B.notSynchronized
  subst hsz
  have hD := hD0.self (sz := s.heap.size)
  generalize hAe : va_A ([(t0, .inl (cB, n0, .inl p0))] : va_W) s.heap.size = A at hD hE ⊢
  have hA : ∀ q : Nat, s.heap.size ≤ q → A q := fun q h => by rw [← hAe]; exact Or.inr h
  have hS : va_S A s.heap s.heap [] := va_S.rf
  have hl := lv_entry ([.ref t0, .int p1, .int p2]) (n := 3) (Nat.le_of_ble_eq_true rfl)
  rw [lg_entry_eq]
  generalize (lg_sl ([.ref t0, .int p1, .int p2]) ++ List.replicate (3 - (lg_sl ([.ref t0, .int p1, .int p2])).length) Slot.unset).toArray = ls at hl ⊢
  replace hl : lv_has ls 3 [(0, .ref t0), (1, .int p1), (2, .int p2)] := hl
  have kcl := hts (.methodLink RJ7 310 ⟨"[B", "clone", "()Ljava/lang/Object;"⟩) (zmem 1 rfl)
  have kcs := hts (.sameMethod "[B" "java/lang/Object" "clone" "()Ljava/lang/Object;") (zmem 2 rfl)
  have kcn := hts (.native ⟨"java/lang/Object", "clone", "()Ljava/lang/Object;"⟩) (zmem 3 rfl)
  have kci := hts (.instanceMethod ⟨"java/lang/Object", "clone", "()Ljava/lang/Object;"⟩) (zmem 4 rfl)
  have kce := hts (.selects "[B" ⟨"[B", "clone", "()Ljava/lang/Object;"⟩ ⟨"java/lang/Object", "clone", "()Ljava/lang/Object;"⟩) (zmem 5 rfl)
  have kc_311 := hts (.classLink RJ7 311 "[B") (zmem 6 rfl)
  replace h : (if ¬ p1 = 0 then (zb2 (p_J7_copyOfRangeByte_39247 n0 p0 p1 p2) (fun r1 r2 => (some (r1, r2)))) else (if p2 = (Int32.ofNat n0) then (zg (150 < n0) (zg (zbf p0 n0 = false) (some (n0, p0)))) else (zb2 (p_J7_copyOfRangeByte_39247 n0 p0 p1 p2) (fun r6 r7 => (some (r6, r7)))))) = some (rn, rf) := h
  obtain ⟨H, hHe⟩ : ∃ H, H = s.heap := ⟨_, rfl⟩
  rw [← hHe] at hP
  replace hS : va_S A s.heap H [] := by rw [hHe]; exact hS
  refine zheap hHe ?_
  refine lv_iload_n hx hb dJ7_copyOfRange_39247_0 rfl (lv_at hl 1 rfl) ?_
  refine lv_if_ne (tgt := 10) hx hb dJ7_copyOfRange_39247_1 (by decide) (fun c1 => ?_) (fun c1 => ?_)
  · replace h := zif_t h c1
    refine lv_aload_n hx hb dJ7_copyOfRange_39247_10 rfl (lv_at hl 0 rfl) ?_
    refine lv_iload_n hx hb dJ7_copyOfRange_39247_11 rfl (lv_at hl 1 rfl) ?_
    refine lv_iload_n hx hb dJ7_copyOfRange_39247_12 rfl (lv_at hl 2 rfl) ?_
    obtain ⟨r1, r2, e3, h⟩ := zb2_some h
    refine zgon (va_runS (As := [.ref t0, .int p1, .int p2]) (rest := []) ⟨hx, hb, hml, hown, hts⟩ (c_J7_copyOfRangeByte_39247 l D cJ cI cO cB t0 n0 p0 p1 p2 r1 r2 e3 H.size) (va_cwS 3 hts gJ7_copyOfRange_39247_J7_copyOfRangeByte_39247 rfl rfl rfl hdS_J7_copyOfRangeByte_39247 ⟨Nat.le_of_ble_eq_true rfl, Nat.le_of_ble_eq_true rfl⟩) (zxpreS hE hS (zfree hD hS hA) hK hP hD [.ref t0, .int p1, .int p2]) rfl rfl hl.1 rfl (lv_room (Nat.le_of_ble_eq_true rfl)) dJ7_copyOfRange_39247_13 ⟨Nat.le_of_ble_eq_true rfl, Nat.le_of_ble_eq_true rfl⟩) (zfree hD hS hA) (fun _ => zjW hD hS hA) hS (fun w4 H locs hP hD hS => ?_)
    replace hP : va_P D vwCl ([(t0, .inl (cB, n0, .inl p0)), (w4, .inl (cB, r1, .inl r2))] : va_W) H := hP
    replace hD : va_D A ([(t0, .inl (cB, n0, .inl p0)), (w4, .inl (cB, r1, .inl r2))] : va_W) := hD
    have g0 := Option.some.inj h
    obtain ⟨h1, g1⟩ := Prod.mk.inj g0
    subst h1
    subst g1
    exact W.aret (v := .ref w4) hx hb hr (Or.inr ⟨_, rfl⟩) (Or.inr ⟨_, rfl⟩) (fun t ht hW => ⟨⟨(), w4, rfl, trivial, by rw [ht]; exact hP, va_K.moved hW.alike hK, hD⟩, hS.F ht⟩) hS.2.2 dJ7_copyOfRange_39247_16
  · replace h := zif_fn h c1
    refine lv_iload_n hx hb dJ7_copyOfRange_39247_4 rfl (lv_at hl 2 rfl) ?_
    refine lv_aload_n hx hb dJ7_copyOfRange_39247_5 rfl (lv_at hl 0 rfl) ?_
    refine va_alen (v := (Int32.ofNat n0)) hx hb hK hP 0 3 (ty := .byte) rfl rfl rfl dJ7_copyOfRange_39247_6 ?_
    refine lv_icmp_eq (tgt := 17) hx hb dJ7_copyOfRange_39247_7 (by decide) (fun c7 => ?_) (fun c7 => ?_)
    · replace h := zif_t h c7
      refine lv_aload_n hx hb dJ7_copyOfRange_39247_17 rfl (lv_at hl 0 rfl) ?_
      obtain ⟨z18a, h⟩ := zg_some h
      obtain ⟨z18, h⟩ := zg_some h
      refine zclone hx hb (hml.trans hl.1.symm) hown kcl kcs kcn kci kce hE.2.2.1.2.2.2.2.2.2.2.2.1 hK hP hD hS hA 0 rfl (zbf_of z18) (Nat.not_lt.mp z18a) (Nat.le_of_ble_eq_true rfl) (Nat.le_of_ble_eq_true rfl) (Nat.le_of_ble_eq_true rfl) (Nat.le_of_ble_eq_true rfl) dJ7_copyOfRange_39247_18 (fun w5 H hP hD hS => ?_)
      replace hP := zsub (wn := ([(t0, .inl (cB, n0, .inl p0)), (w5, .inl (cB, n0, .inl p0))] : va_W)) hP [0, 1] rfl
      replace hD := hD.sub (ws' := ([(t0, .inl (cB, n0, .inl p0)), (w5, .inl (cB, n0, .inl p0))] : va_W)) [0, 1] (by decide) rfl
      refine va_castA hx hb hown kc_311 hP 1 rfl (zfcB hK) dJ7_copyOfRange_39247_21 ?_
      have g0 := Option.some.inj h
      obtain ⟨h1, g1⟩ := Prod.mk.inj g0
      subst h1
      subst g1
      exact W.aret (v := .ref w5) hx hb hr (Or.inr ⟨_, rfl⟩) (Or.inr ⟨_, rfl⟩) (fun t ht hW => ⟨⟨(), w5, rfl, trivial, by rw [ht]; exact hP, va_K.moved hW.alike hK, hD⟩, hS.F ht⟩) hS.2.2 dJ7_copyOfRange_39247_24
    · replace h := zif_f h c7
      refine lv_aload_n hx hb dJ7_copyOfRange_39247_10 rfl (lv_at hl 0 rfl) ?_
      refine lv_iload_n hx hb dJ7_copyOfRange_39247_11 rfl (lv_at hl 1 rfl) ?_
      refine lv_iload_n hx hb dJ7_copyOfRange_39247_12 rfl (lv_at hl 2 rfl) ?_
      obtain ⟨r6, r7, e8, h⟩ := zb2_some h
      refine zgon (va_runS (As := [.ref t0, .int p1, .int p2]) (rest := []) ⟨hx, hb, hml, hown, hts⟩ (c_J7_copyOfRangeByte_39247 l D cJ cI cO cB t0 n0 p0 p1 p2 r6 r7 e8 H.size) (va_cwS 3 hts gJ7_copyOfRange_39247_J7_copyOfRangeByte_39247 rfl rfl rfl hdS_J7_copyOfRangeByte_39247 ⟨Nat.le_of_ble_eq_true rfl, Nat.le_of_ble_eq_true rfl⟩) (zxpreS hE hS (zfree hD hS hA) hK hP hD [.ref t0, .int p1, .int p2]) rfl rfl hl.1 rfl (lv_room (Nat.le_of_ble_eq_true rfl)) dJ7_copyOfRange_39247_13 ⟨Nat.le_of_ble_eq_true rfl, Nat.le_of_ble_eq_true rfl⟩) (zfree hD hS hA) (fun _ => zjW hD hS hA) hS (fun w9 H locs hP hD hS => ?_)
      replace hP : va_P D vwCl ([(t0, .inl (cB, n0, .inl p0)), (w9, .inl (cB, r6, .inl r7))] : va_W) H := hP
      replace hD : va_D A ([(t0, .inl (cB, n0, .inl p0)), (w9, .inl (cB, r6, .inl r7))] : va_W) := hD
      have g0 := Option.some.inj h
      obtain ⟨h1, g1⟩ := Prod.mk.inj g0
      subst h1
      subst g1
      exact W.aret (v := .ref w9) hx hb hr (Or.inr ⟨_, rfl⟩) (Or.inr ⟨_, rfl⟩) (fun t ht hW => ⟨⟨(), w9, rfl, trivial, by rw [ht]; exact hP, va_K.moved hW.alike hK, hD⟩, hS.F ht⟩) hS.2.2 dJ7_copyOfRange_39247_16

noncomputable def p_J0_coder_7d493 (sn : Nat) (sf : Nat → Int32) : Option Int32 := (some (0 : Int32))
theorem hdV_J0_coder_7d493 : yJ0_coder_7d493.cls = RJ0 ∧ yJ0_coder_7d493.cls ≠ "java/lang/invoke/MethodHandle" ∧ yJ0_coder_7d493.cls ≠ "java/lang/invoke/VarHandle" ∧ (parseMethodDescriptor yJ0_coder_7d493.desc).map (fun d => d.parameters.length) = some 0 := by decide +kernel
set_option maxHeartbeats 4000000 in
set_option maxRecDepth 100000 in
theorem c_J0_coder_7d493 (l : Launch) (D : va_G) (cJ cI cO cB : ClassId) (st : Nat) (sn : Nat) (sf : Nat → Int32) (r : Int32) (h : p_J0_coder_7d493 sn sf = some r) : zGi l yJ0_coder_7d493 wsJ0_coder_7d493 0 0 0 0 (fun sz => zPs D (zT cJ cI cO cB) ([] : va_W) sz st sn sf) [.ref st] D (zT cJ cI cO cB) ([] : va_W) ([] : va_W) r := by
  intro sz
  delta zQi
  refine Met.ofW (cc := cJ0_coder_7d493) (maxL := 1) (ret := (some .byte)) (by decide) rfl ?_
  intro p e s m args below meth c s₁ B hml hv
  obtain ⟨rfl, ⟨⟨hsz, hP, hK, hD0⟩, hE⟩, hSt⟩ := hv
  have hx := B.exec
  have hb := B.bytes
  have hr := B.returns
  have hts := atoms_spec (ws := wsJ0_coder_7d493) B.pre
  have hown : s.vm.findClass RJ0 = some m.cls := findClass_of_methodNamed B.named
  have hlocks := B.notSynchronized
  subst hsz
  have hD := hD0.self (sz := s.heap.size)
  generalize hAe : va_A ([] : va_W) s.heap.size = A at hD hE hSt ⊢
  have hA : ∀ q : Nat, s.heap.size ≤ q → A q := fun q h => by rw [← hAe]; exact Or.inr h
  have hS : va_S A s.heap s.heap [] := va_S.rf
  have hl := lv_entry ([.ref st]) (n := 1) (Nat.le_of_ble_eq_true rfl)
  rw [lg_entry_eq]
  generalize (lg_sl ([.ref st]) ++ List.replicate (1 - (lg_sl ([.ref st])).length) Slot.unset).toArray = ls at hl ⊢
  replace hl : lv_has ls 1 [(0, .ref st)] := hl
  obtain ⟨sv_st, hst_st⟩ := hSt
  have kf_38 := hts (.fieldLink RJ0 38 "java/lang/String" "COMPACT_STRINGS" "Z") (zmem 1 rfl)
  have kf_15 := hts (.fieldLink RJ0 15 "java/lang/String" "coder" "B") (zmem 2 rfl)
  replace h : (some (0 : Int32)) = some r := h
  obtain ⟨H, hHe⟩ : ∃ H, H = s.heap := ⟨_, rfl⟩
  rw [← hHe] at hP
  replace hS : va_S A s.heap H [] := by rw [hHe]; exact hS
  refine zheap hHe ?_
  refine va_gets hx hb hE.2.2.2.1 hS hown kf_38 (fun _ h9 => h9) dJ0_coder_7d493_0 ?_
  refine lv_if_eq (tgt := 13) hx hb dJ0_coder_7d493_3 (by decide) (fun c => absurd c (by decide)) (fun _ => ?_)
  refine lv_aload_n hx hb dJ0_coder_7d493_6 rfl (lv_at hl 0 rfl) ?_
  refine vk_getf hx hb hst_st.2.1 hS hown kf_15 (fun _ h9 => h9) dJ0_coder_7d493_7 ?_
  refine lv_goto (tgt := 14) hx hb dJ0_coder_7d493_10 (by decide) ?_
  have h1 := Option.some.inj h
  subst h1
  exact W.zret (v := (0 : Int32)) hx hb hr rfl (fun t ht hW => ⟨⟨(0 : Int32), (), rfl, rfl, by rw [ht]; exact hP, va_K.moved hW.alike hK, hD⟩, hS.F ht⟩) hS.2.2 dJ0_coder_7d493_14

noncomputable def p_J0_length_8abf5 (sn : Nat) (sf : Nat → Int32) : Option Int32 := (zb1 (p_J0_coder_7d493 sn sf) (fun r1 => (some ((Int32.ofNat sn) >>> (r1 &&& 31)))))
theorem hdV_J0_length_8abf5 : yJ0_length_8abf5.cls = RJ0 ∧ yJ0_length_8abf5.cls ≠ "java/lang/invoke/MethodHandle" ∧ yJ0_length_8abf5.cls ≠ "java/lang/invoke/VarHandle" ∧ (parseMethodDescriptor yJ0_length_8abf5.desc).map (fun d => d.parameters.length) = some 0 := by decide +kernel
set_option maxHeartbeats 4000000 in
set_option maxRecDepth 100000 in
theorem c_J0_length_8abf5 (l : Launch) (D : va_G) (cJ cI cO cB : ClassId) (st : Nat) (sn : Nat) (sf : Nat → Int32) (r : Int32) (h : p_J0_length_8abf5 sn sf = some r) : zGi l yJ0_length_8abf5 wsJ0_length_8abf5 1 20 0 0 (fun sz => zPs D (zT cJ cI cO cB) ([] : va_W) sz st sn sf) [.ref st] D (zT cJ cI cO cB) ([] : va_W) ([] : va_W) r := by
  intro sz
  delta zQi
  refine Met.ofW (cc := cJ0_length_8abf5) (maxL := 1) (ret := (some .int)) (by decide) rfl ?_
  intro p e s m args below meth c s₁ B hml hv
  obtain ⟨rfl, ⟨⟨hsz, hP, hK, hD0⟩, hE⟩, hSt⟩ := hv
  have hx := B.exec
  have hb := B.bytes
  have hr := B.returns
  have hts := atoms_spec (ws := wsJ0_length_8abf5) B.pre
  have hown : s.vm.findClass RJ0 = some m.cls := findClass_of_methodNamed B.named
  have hlocks := B.notSynchronized
  subst hsz
  have hD := hD0.self (sz := s.heap.size)
  generalize hAe : va_A ([] : va_W) s.heap.size = A at hD hE hSt ⊢
  have hA : ∀ q : Nat, s.heap.size ≤ q → A q := fun q h => by rw [← hAe]; exact Or.inr h
  have hS : va_S A s.heap s.heap [] := va_S.rf
  have hl := lv_entry ([.ref st]) (n := 1) (Nat.le_of_ble_eq_true rfl)
  rw [lg_entry_eq]
  generalize (lg_sl ([.ref st]) ++ List.replicate (1 - (lg_sl ([.ref st])).length) Slot.unset).toArray = ls at hl ⊢
  replace hl : lv_has ls 1 [(0, .ref st)] := hl
  obtain ⟨sv_st, hst_st⟩ := hSt
  have kf_9 := hts (.fieldLink RJ0 9 "java/lang/String" "value" "[B") (zmem 1 rfl)
  replace h : (zb1 (p_J0_coder_7d493 sn sf) (fun r1 => (some ((Int32.ofNat sn) >>> (r1 &&& 31))))) = some r := h
  obtain ⟨H, hHe⟩ : ∃ H, H = s.heap := ⟨_, rfl⟩
  rw [← hHe] at hP
  replace hS : va_S A s.heap H [] := by rw [hHe]; exact hS
  refine zheap hHe ?_
  refine lv_aload_n hx hb dJ0_length_8abf5_0 rfl (lv_at hl 0 rfl) ?_
  refine vk_getf hx hb hst_st.2.2.1 hS hown kf_9 (fun _ h9 => h9) dJ0_length_8abf5_1 ?_
  refine va_tlen hx hb hst_st.2.2.2 hS rfl dJ0_length_8abf5_4 ?_
  refine lv_aload_n hx hb dJ0_length_8abf5_5 rfl (lv_at hl 0 rfl) ?_
  obtain ⟨r1, e2, h⟩ := zb1_some h
  refine zgoi (va_runV (As := []) (rest := [.int (Int32.ofNat sn)]) ⟨hx, hb, hml, hown, hts⟩ (c_J0_coder_7d493 l D cJ cI cO cB st sn sf r1 e2 H.size) (cwV 0 hts gJ0_length_8abf5_J0_coder_7d493 rfl rfl rfl hdV_J0_coder_7d493 ⟨Nat.le_of_ble_eq_true rfl, Nat.le_of_ble_eq_true rfl⟩) (zspreT hE (zSt.here hst_st hS (zf0 hS hA)) hS (zf0 hS hA) hK zP0 (zD0 (A := A)) []) rfl rfl hl.1 rfl (lv_room (Nat.le_of_ble_eq_true rfl)) dJ0_length_8abf5_6 ⟨Nat.le_of_ble_eq_true rfl, Nat.le_of_ble_eq_true rfl⟩) (zf0 hS hA) (zjE hP hD) hS (fun H locs hP hD hS => ?_)
  refine lv_ishr hx hb dJ0_length_8abf5_9 ?_
  have h1 := Option.some.inj h
  subst h1
  exact W.iret (v := ((Int32.ofNat sn) >>> (r1 &&& 31))) hx hb hr (fun t ht hW => ⟨⟨((Int32.ofNat sn) >>> (r1 &&& 31)), (), rfl, rfl, by rw [ht]; exact hP, va_K.moved hW.alike hK, hD⟩, hS.F ht⟩) hS.2.2 dJ0_length_8abf5_10

noncomputable def p_J0_isEmpty_aae02 (sn : Nat) (sf : Nat → Int32) : Option Bool := (if ¬ (Int32.ofNat sn) = 0 then (some false) else (some true))
theorem hdV_J0_isEmpty_aae02 : yJ0_isEmpty_aae02.cls = RJ0 ∧ yJ0_isEmpty_aae02.cls ≠ "java/lang/invoke/MethodHandle" ∧ yJ0_isEmpty_aae02.cls ≠ "java/lang/invoke/VarHandle" ∧ (parseMethodDescriptor yJ0_isEmpty_aae02.desc).map (fun d => d.parameters.length) = some 0 := by decide +kernel
set_option maxHeartbeats 4000000 in
set_option maxRecDepth 100000 in
theorem c_J0_isEmpty_aae02 (l : Launch) (D : va_G) (cJ cI cO cB : ClassId) (st : Nat) (sn : Nat) (sf : Nat → Int32) (r : Bool) (h : p_J0_isEmpty_aae02 sn sf = some r) : zGi l yJ0_isEmpty_aae02 wsJ0_isEmpty_aae02 0 0 0 0 (fun sz => zPs D (zT cJ cI cO cB) ([] : va_W) sz st sn sf) [.ref st] D (zT cJ cI cO cB) ([] : va_W) ([] : va_W) (z01 r) := by
  intro sz
  delta zQi
  refine Met.ofW (cc := cJ0_isEmpty_aae02) (maxL := 1) (ret := (some .boolean)) (by decide) rfl ?_
  intro p e s m args below meth c s₁ B hml hv
  obtain ⟨rfl, ⟨⟨hsz, hP, hK, hD0⟩, hE⟩, hSt⟩ := hv
  have hx := B.exec
  have hb := B.bytes
  have hr := B.returns
  have hts := atoms_spec (ws := wsJ0_isEmpty_aae02) B.pre
  have hown : s.vm.findClass RJ0 = some m.cls := findClass_of_methodNamed B.named
  have hlocks := B.notSynchronized
  subst hsz
  have hD := hD0.self (sz := s.heap.size)
  generalize hAe : va_A ([] : va_W) s.heap.size = A at hD hE hSt ⊢
  have hA : ∀ q : Nat, s.heap.size ≤ q → A q := fun q h => by rw [← hAe]; exact Or.inr h
  have hS : va_S A s.heap s.heap [] := va_S.rf
  have hl := lv_entry ([.ref st]) (n := 1) (Nat.le_of_ble_eq_true rfl)
  rw [lg_entry_eq]
  generalize (lg_sl ([.ref st]) ++ List.replicate (1 - (lg_sl ([.ref st])).length) Slot.unset).toArray = ls at hl ⊢
  replace hl : lv_has ls 1 [(0, .ref st)] := hl
  obtain ⟨sv_st, hst_st⟩ := hSt
  have kf_9 := hts (.fieldLink RJ0 9 "java/lang/String" "value" "[B") (zmem 1 rfl)
  replace h : (if ¬ (Int32.ofNat sn) = 0 then (some false) else (some true)) = some r := h
  obtain ⟨H, hHe⟩ : ∃ H, H = s.heap := ⟨_, rfl⟩
  rw [← hHe] at hP
  replace hS : va_S A s.heap H [] := by rw [hHe]; exact hS
  refine zheap hHe ?_
  refine lv_aload_n hx hb dJ0_isEmpty_aae02_0 rfl (lv_at hl 0 rfl) ?_
  refine vk_getf hx hb hst_st.2.2.1 hS hown kf_9 (fun _ h9 => h9) dJ0_isEmpty_aae02_1 ?_
  refine va_tlen hx hb hst_st.2.2.2 hS rfl dJ0_isEmpty_aae02_4 ?_
  refine lv_if_ne (tgt := 12) hx hb dJ0_isEmpty_aae02_5 (by decide) (fun c5 => ?_) (fun c5 => ?_)
  · replace h := zif_t h c5
    refine lv_iconst (v := (0 : Int32)) hx hb dJ0_isEmpty_aae02_12 (by decide) ?_
    have h1 := Option.some.inj h
    subst h1
    exact W.zret (v := (0 : Int32)) hx hb hr (z01_nar false) (fun t ht hW => ⟨⟨(0 : Int32), (), rfl, rfl, by rw [ht]; exact hP, va_K.moved hW.alike hK, hD⟩, hS.F ht⟩) hS.2.2 dJ0_isEmpty_aae02_13
  · replace h := zif_fn h c5
    refine lv_iconst (v := (1 : Int32)) hx hb dJ0_isEmpty_aae02_8 (by decide) ?_
    refine lv_goto (tgt := 13) hx hb dJ0_isEmpty_aae02_9 (by decide) ?_
    have h1 := Option.some.inj h
    subst h1
    exact W.zret (v := (1 : Int32)) hx hb hr (z01_nar true) (fun t ht hW => ⟨⟨(1 : Int32), (), rfl, rfl, by rw [ht]; exact hP, va_K.moved hW.alike hK, hD⟩, hS.F ht⟩) hS.2.2 dJ0_isEmpty_aae02_13

noncomputable def p_J0_getBytes_840e7 (sn : Nat) (sf : Nat → Int32) (n0 : Nat) (p0 : Nat → Int32) (p1 : Int32) (p2 : Int32) : Option ((Nat → Int32)) := (zb1 (p_J0_coder_7d493 sn sf) (fun r1 => (if ¬ r1 = p2 then none else (zg (zcp sf sn n0 (0 : Int32) (p1 <<< (p2 &&& 31)) (Int32.ofNat sn) = false) (some (va_cpy sf p0 (0 : Int32).toNatClampNeg (p1 <<< (p2 &&& 31)).toNatClampNeg (Int32.ofNat sn).toNatClampNeg))))))
theorem hdV_J0_getBytes_840e7 : yJ0_getBytes_840e7.cls = RJ0 ∧ yJ0_getBytes_840e7.cls ≠ "java/lang/invoke/MethodHandle" ∧ yJ0_getBytes_840e7.cls ≠ "java/lang/invoke/VarHandle" ∧ (parseMethodDescriptor yJ0_getBytes_840e7.desc).map (fun d => d.parameters.length) = some 3 := by decide +kernel
set_option maxHeartbeats 4000000 in
set_option maxRecDepth 100000 in
theorem c_J0_getBytes_840e7 (l : Launch) (D : va_G) (cJ cI cO cB : ClassId) (st : Nat) (sn : Nat) (sf : Nat → Int32) (t0 : Nat) (n0 : Nat) (p0 : Nat → Int32) (p1 : Int32) (p2 : Int32) (T0' : Nat → Int32) (h : p_J0_getBytes_840e7 sn sf n0 p0 p1 p2 = some T0') : zGv l yJ0_getBytes_840e7 wsJ0_getBytes_840e7 1 60 0 0 (fun sz => zPs D (zT cJ cI cO cB) ([(t0, .inl (cB, n0, .inl p0))] : va_W) sz st sn sf) [.ref st, .ref t0, .int p1, .int p2] D (zT cJ cI cO cB) ([(t0, .inl (cB, n0, .inl p0))] : va_W) ([(t0, .inl (cB, n0, .inl T0'))] : va_W) := by
  intro sz
  delta zQv
  refine Met.ofW (cc := cJ0_getBytes_840e7) (maxL := 4) (ret := none) (by decide) rfl ?_
  intro p e s m args below meth c s₁ B hml hv
  obtain ⟨rfl, ⟨⟨hsz, hP, hK, hD0⟩, hE⟩, hSt⟩ := hv
  have hx := B.exec
  have hb := B.bytes
  have hr := B.returns
  have hts := atoms_spec (ws := wsJ0_getBytes_840e7) B.pre
  have hown : s.vm.findClass RJ0 = some m.cls := findClass_of_methodNamed B.named
  have hlocks := B.notSynchronized
  subst hsz
  have hD := hD0.self (sz := s.heap.size)
  generalize hAe : va_A ([(t0, .inl (cB, n0, .inl p0))] : va_W) s.heap.size = A at hD hE hSt ⊢
  have hA : ∀ q : Nat, s.heap.size ≤ q → A q := fun q h => by rw [← hAe]; exact Or.inr h
  have hS : va_S A s.heap s.heap [] := va_S.rf
  have hl := lv_entry ([.ref st, .ref t0, .int p1, .int p2]) (n := 4) (Nat.le_of_ble_eq_true rfl)
  rw [lg_entry_eq]
  generalize (lg_sl ([.ref st, .ref t0, .int p1, .int p2]) ++ List.replicate (4 - (lg_sl ([.ref st, .ref t0, .int p1, .int p2])).length) Slot.unset).toArray = ls at hl ⊢
  replace hl : lv_has ls 4 [(0, .ref st), (1, .ref t0), (2, .int p1), (3, .int p2)] := hl
  obtain ⟨sv_st, hst_st⟩ := hSt
  have kf_9 := hts (.fieldLink RJ0 9 "java/lang/String" "value" "[B") (zmem 1 rfl)
  have km_212 := hts (.methodLink RJ0 212 arraycopyName) (zmem 2 rfl)
  have kan := hts (.native arraycopyName) (zmem 3 rfl)
  have kas := hts (.static arraycopyName) (zmem 4 rfl)
  have kai := hts (.initialized "java/lang/System") (zmem 5 rfl)
  replace h : (zb1 (p_J0_coder_7d493 sn sf) (fun r1 => (if ¬ r1 = p2 then none else (zg (zcp sf sn n0 (0 : Int32) (p1 <<< (p2 &&& 31)) (Int32.ofNat sn) = false) (some (va_cpy sf p0 (0 : Int32).toNatClampNeg (p1 <<< (p2 &&& 31)).toNatClampNeg (Int32.ofNat sn).toNatClampNeg)))))) = some T0' := h
  obtain ⟨H, hHe⟩ : ∃ H, H = s.heap := ⟨_, rfl⟩
  rw [← hHe] at hP
  replace hS : va_S A s.heap H [] := by rw [hHe]; exact hS
  refine zheap hHe ?_
  refine lv_aload_n hx hb dJ0_getBytes_840e7_0 rfl (lv_at hl 0 rfl) ?_
  obtain ⟨r1, e2, h⟩ := zb1_some h
  refine zgoi (va_runV (As := []) (rest := []) ⟨hx, hb, hml, hown, hts⟩ (c_J0_coder_7d493 l D cJ cI cO cB st sn sf r1 e2 H.size) (cwV 0 hts gJ0_getBytes_840e7_J0_coder_7d493 rfl rfl rfl hdV_J0_coder_7d493 ⟨Nat.le_of_ble_eq_true rfl, Nat.le_of_ble_eq_true rfl⟩) (zspreT hE (zSt.here hst_st hS (zf0 hS hA)) hS (zf0 hS hA) hK zP0 (zD0 (A := A)) []) rfl rfl hl.1 rfl (lv_room (Nat.le_of_ble_eq_true rfl)) dJ0_getBytes_840e7_1 ⟨Nat.le_of_ble_eq_true rfl, Nat.le_of_ble_eq_true rfl⟩) (zf0 hS hA) (zjE hP hD) hS (fun H locs hP hD hS => ?_)
  refine lv_iload_n hx hb dJ0_getBytes_840e7_4 rfl (lv_at hl 3 rfl) ?_
  refine lv_icmp_ne (tgt := 28) hx hb dJ0_getBytes_840e7_5 (by decide) (fun c5 => ?_) (fun c5 => ?_)
  · replace h := zif_t h c5
    refine lv_aload_n hx hb dJ0_getBytes_840e7_28 rfl (lv_at hl 0 rfl) ?_
    refine vk_getf hx hb hst_st.2.2.1 hS hown kf_9 (fun _ h9 => h9) dJ0_getBytes_840e7_29 ?_
    refine lv_iconst (v := (0 : Int32)) hx hb dJ0_getBytes_840e7_32 (by decide) ?_
    refine lv_aload_n hx hb dJ0_getBytes_840e7_33 rfl (lv_at hl 1 rfl) ?_
    refine lv_iload_n hx hb dJ0_getBytes_840e7_34 rfl (lv_at hl 2 rfl) ?_
    refine lv_aload_n hx hb dJ0_getBytes_840e7_35 rfl (lv_at hl 0 rfl) ?_
    refine vk_getf hx hb hst_st.2.2.1 hS hown kf_9 (fun _ h9 => h9) dJ0_getBytes_840e7_36 ?_
    refine va_tlen hx hb hst_st.2.2.2 hS rfl dJ0_getBytes_840e7_39 ?_
    exact (zno h).elim
  · replace h := zif_fn h c5
    refine lv_aload_n hx hb dJ0_getBytes_840e7_8 rfl (lv_at hl 0 rfl) ?_
    refine vk_getf hx hb hst_st.2.2.1 hS hown kf_9 (fun _ h9 => h9) dJ0_getBytes_840e7_9 ?_
    refine lv_iconst (v := (0 : Int32)) hx hb dJ0_getBytes_840e7_12 (by decide) ?_
    refine lv_aload_n hx hb dJ0_getBytes_840e7_13 rfl (lv_at hl 1 rfl) ?_
    refine lv_iload_n hx hb dJ0_getBytes_840e7_14 rfl (lv_at hl 2 rfl) ?_
    refine lv_iload_n hx hb dJ0_getBytes_840e7_15 rfl (lv_at hl 3 rfl) ?_
    refine lv_ishl hx hb dJ0_getBytes_840e7_16 ?_
    refine lv_aload_n hx hb dJ0_getBytes_840e7_17 rfl (lv_at hl 0 rfl) ?_
    refine vk_getf hx hb hst_st.2.2.1 hS hown kf_9 (fun _ h9 => h9) dJ0_getBytes_840e7_18 ?_
    refine va_tlen hx hb hst_st.2.2.2 hS rfl dJ0_getBytes_840e7_21 ?_
    obtain ⟨z22, h⟩ := zg_some h
    replace z22 := zcp_of z22
    refine vk_copyt hx hb (hml.trans hl.1.symm) hown km_212 kan kas kai hK hP hD hS hst_st.2.2.2 0 3 rfl rfl z22.1 z22.2.1 z22.2.2.1 z22.2.2.2.1 z22.2.2.2.2.1 z22.2.2.2.2.2 (Nat.le_of_ble_eq_true rfl) (Nat.le_of_ble_eq_true rfl) dJ0_getBytes_840e7_22 (fun H locs hP hD hS => ?_)
    replace hP : va_P D vwCl ([(t0, .inl (cB, n0, .inl (va_cpy sf p0 (0 : Int32).toNatClampNeg (p1 <<< (p2 &&& 31)).toNatClampNeg (Int32.ofNat sn).toNatClampNeg)))] : va_W) H := hP
    replace hD : va_D A ([(t0, .inl (cB, n0, .inl (va_cpy sf p0 (0 : Int32).toNatClampNeg (p1 <<< (p2 &&& 31)).toNatClampNeg (Int32.ofNat sn).toNatClampNeg)))] : va_W) := hD
    refine lv_goto (tgt := 43) hx hb dJ0_getBytes_840e7_25 (by decide) ?_
    have h1 := Option.some.inj h
    subst h1
    exact W.vret hx hb hr (fun t ht hW => ⟨⟨(), rfl, trivial, by rw [ht]; exact hP, va_K.moved hW.alike hK, hD⟩, hS.F ht⟩) hS.2.2 dJ0_getBytes_840e7_43

noncomputable def p_J5_isLatin1_aae02 : Option Bool := (some true)
theorem hdU_J5_isLatin1_aae02 : "java/lang/AbstractStringBuilder" ≠ "java/lang/invoke/MethodHandle" ∧ "java/lang/AbstractStringBuilder" ≠ "java/lang/invoke/VarHandle" ∧ (parseMethodDescriptor "()Z").map (fun d => d.parameters.length) = some 0 := by decide +kernel
set_option maxHeartbeats 4000000 in
set_option maxRecDepth 100000 in
theorem c_J5_isLatin1_aae02 (l : Launch) (D : va_G) (sb : Nat) (cJ cI cO cB : ClassId) (bv : Nat) (bc : Nat) (bf : Nat → Int32) (bm : Bool) (bn : Int32) (r : Bool) (h : p_J5_isLatin1_aae02 = some r) : zGi l yJ5_isLatin1_aae02 wsJ5_isLatin1_aae02 0 0 0 0 (zPx D (zT cJ cI cO cB) (sW sb cB bv bc bf bm bn)) [.ref sb] D (zT cJ cI cO cB) (sW sb cB bv bc bf bm bn) (sW sb cB bv bc bf bm bn) (z01 r) := by
  intro sz
  delta zQi
  refine Met.ofW (cc := cJ5_isLatin1_aae02) (maxL := 1) (ret := (some .boolean)) (by decide) rfl ?_
  intro p e s m args below meth c s₁ B hml hv
  obtain ⟨rfl, ⟨hsz, hP, hK, hD0⟩, hE⟩ := hv
  have hx := B.exec
  have hb := B.bytes
  have hr := B.returns
  have hts := atoms_spec (ws := wsJ5_isLatin1_aae02) B.pre
  have hown : s.vm.findClass RJ5 = some m.cls := findClass_of_methodNamed B.named
  have hlocks := B.notSynchronized
  subst hsz
  have hD := hD0.self (sz := s.heap.size)
  generalize hAe : va_A (sW sb cB bv bc bf bm bn) s.heap.size = A at hD hE ⊢
  have hA : ∀ q : Nat, s.heap.size ≤ q → A q := fun q h => by rw [← hAe]; exact Or.inr h
  have hS : va_S A s.heap s.heap [] := va_S.rf
  have hl := lv_entry ([.ref sb]) (n := 1) (Nat.le_of_ble_eq_true rfl)
  rw [lg_entry_eq]
  generalize (lg_sl ([.ref sb]) ++ List.replicate (1 - (lg_sl ([.ref sb])).length) Slot.unset).toArray = ls at hl ⊢
  replace hl : lv_has ls 1 [(0, .ref sb)] := hl
  have kf_18 := hts (.fieldLink RJ5 18 "java/lang/String" "COMPACT_STRINGS" "Z") (zmem 1 rfl)
  have kwJ4 : ∀ w ∈ u_ws RJ4 TJ4 4, w ∈ wsJ5_isLatin1_aae02 := fun w h => List.mem_cons_of_mem _ (List.mem_append_right _ h)
  have kf_22 := hts (.fieldLink RJ5 22 "java/lang/AbstractStringBuilder" "coder" "B") (zmem 2 rfl)
  replace h : (some true) = some r := h
  obtain ⟨H, hHe⟩ : ∃ H, H = s.heap := ⟨_, rfl⟩
  rw [← hHe] at hP
  replace hS : va_S A s.heap H [] := by rw [hHe]; exact hS
  refine zheap hHe ?_
  refine va_gets hx hb hE.2.2.2.1 hS hown kf_18 (fun _ h9 => h9) dJ5_isLatin1_aae02_0 ?_
  refine lv_if_eq (tgt := 17) hx hb dJ5_isLatin1_aae02_3 (by decide) (fun c => absurd c (by decide)) (fun _ => ?_)
  refine lv_aload_n hx hb dJ5_isLatin1_aae02_6 rfl (lv_at hl 0 rfl) ?_
  refine va_get (D := D) (ci := 1) (v := .int (0 : Int32)) (C := RJ4) (T := TJ4) (N := 4) hx hb hts kwJ4 hown hK hP 0 rfl rfl 1 (by decide) kf_22 (fun _ h9 => h9) rfl dJ5_isLatin1_aae02_7 ?_
  refine lv_if_ne (tgt := 17) hx hb dJ5_isLatin1_aae02_10 (by decide) (fun c => absurd c (by decide)) (fun _ => ?_)
  refine lv_iconst (v := (1 : Int32)) hx hb dJ5_isLatin1_aae02_13 (by decide) ?_
  refine lv_goto (tgt := 18) hx hb dJ5_isLatin1_aae02_14 (by decide) ?_
  have h1 := Option.some.inj h
  subst h1
  exact W.zret (v := (1 : Int32)) hx hb hr (z01_nar true) (fun t ht hW => ⟨⟨(1 : Int32), (), rfl, rfl, by rw [ht]; exact hP, va_K.moved hW.alike hK, hD⟩, hS.F ht⟩) hS.2.2 dJ5_isLatin1_aae02_18

noncomputable def p_J5_newCapacity_0f7a4 (bc : Nat) (p0 : Int32) : Option Int32 := (zb1 (p_J8_newLength_cabcc (Int32.ofNat bc) ((p0 <<< ((0 : Int32) &&& 31)) - (Int32.ofNat bc)) ((Int32.ofNat bc) + ((2 : Int32) <<< ((0 : Int32) &&& 31)))) (fun r1 => (if ¬ r1 = (2147483647 : Int32) then (some (r1 >>> ((0 : Int32) &&& 31))) else none)))
theorem hdU_J5_newCapacity_0f7a4 : "java/lang/AbstractStringBuilder" ≠ "java/lang/invoke/MethodHandle" ∧ "java/lang/AbstractStringBuilder" ≠ "java/lang/invoke/VarHandle" ∧ (parseMethodDescriptor "(I)I").map (fun d => d.parameters.length) = some 1 := by decide +kernel
set_option maxHeartbeats 4000000 in
set_option maxRecDepth 100000 in
theorem c_J5_newCapacity_0f7a4 (l : Launch) (D : va_G) (sb : Nat) (cJ cI cO cB : ClassId) (bv : Nat) (bc : Nat) (bf : Nat → Int32) (bm : Bool) (bn : Int32) (p0 : Int32) (r : Int32) (h : p_J5_newCapacity_0f7a4 bc p0 = some r) : zGi l yJ5_newCapacity_0f7a4 wsJ5_newCapacity_0f7a4 2 44 0 0 (zPx D (zT cJ cI cO cB) (sW sb cB bv bc bf bm bn)) [.ref sb, .int p0] D (zT cJ cI cO cB) (sW sb cB bv bc bf bm bn) (sW sb cB bv bc bf bm bn) r := by
  intro sz
  delta zQi
  refine Met.ofW (cc := cJ5_newCapacity_0f7a4) (maxL := 6) (ret := (some .int)) (by decide) rfl ?_
  intro p e s m args below meth c s₁ B hml hv
  obtain ⟨rfl, ⟨hsz, hP, hK, hD0⟩, hE⟩ := hv
  have hx := B.exec
  have hb := B.bytes
  have hr := B.returns
  have hts := atoms_spec (ws := wsJ5_newCapacity_0f7a4) B.pre
  have hown : s.vm.findClass RJ5 = some m.cls := findClass_of_methodNamed B.named
  have hlocks := B.notSynchronized
  subst hsz
  have hD := hD0.self (sz := s.heap.size)
  generalize hAe : va_A (sW sb cB bv bc bf bm bn) s.heap.size = A at hD hE ⊢
  have hA : ∀ q : Nat, s.heap.size ≤ q → A q := fun q h => by rw [← hAe]; exact Or.inr h
  have hS : va_S A s.heap s.heap [] := va_S.rf
  have hl := lv_entry ([.ref sb, .int p0]) (n := 6) (Nat.le_of_ble_eq_true rfl)
  rw [lg_entry_eq]
  generalize (lg_sl ([.ref sb, .int p0]) ++ List.replicate (6 - (lg_sl ([.ref sb, .int p0])).length) Slot.unset).toArray = ls at hl ⊢
  replace hl : lv_has ls 6 [(0, .ref sb), (1, .int p0)] := hl
  have kc_39 := hts (.constant RJ5 39 (2147483647)) (zmem 3 rfl)
  have kwJ4 : ∀ w ∈ u_ws RJ4 TJ4 4, w ∈ wsJ5_newCapacity_0f7a4 := fun w h => List.mem_cons_of_mem _ (List.mem_append_left _ (List.mem_append_right _ h))
  have kf_22 := hts (.fieldLink RJ5 22 "java/lang/AbstractStringBuilder" "coder" "B") (zmem 2 rfl)
  have kf_15 := hts (.fieldLink RJ5 15 "java/lang/AbstractStringBuilder" "value" "[B") (zmem 1 rfl)
  replace h : (zb1 (p_J8_newLength_cabcc (Int32.ofNat bc) ((p0 <<< ((0 : Int32) &&& 31)) - (Int32.ofNat bc)) ((Int32.ofNat bc) + ((2 : Int32) <<< ((0 : Int32) &&& 31)))) (fun r1 => (if ¬ r1 = (2147483647 : Int32) then (some (r1 >>> ((0 : Int32) &&& 31))) else none))) = some r := h
  obtain ⟨H, hHe⟩ : ∃ H, H = s.heap := ⟨_, rfl⟩
  rw [← hHe] at hP
  replace hS : va_S A s.heap H [] := by rw [hHe]; exact hS
  refine zheap hHe ?_
  refine lv_aload_n hx hb dJ5_newCapacity_0f7a4_0 rfl (lv_at hl 0 rfl) ?_
  refine va_get (D := D) (ci := 1) (v := .ref bv) (C := RJ4) (T := TJ4) (N := 4) hx hb hts kwJ4 hown hK hP 0 rfl rfl 0 (by decide) kf_15 (fun _ h9 => h9) rfl dJ5_newCapacity_0f7a4_1 ?_
  refine va_alen (v := (Int32.ofNat bc)) hx hb hK hP 1 3 (ty := .byte) rfl rfl rfl dJ5_newCapacity_0f7a4_4 ?_
  refine lv_istore_n (lv' := [(2, .int (Int32.ofNat bc)), (0, .ref sb), (1, .int p0)]) hx hb dJ5_newCapacity_0f7a4_5 rfl hl (by decide) rfl (fun ls hl => ?_)
  refine lv_iload_n hx hb dJ5_newCapacity_0f7a4_6 rfl (lv_at hl 2 rfl) ?_
  refine lv_aload_n hx hb dJ5_newCapacity_0f7a4_7 rfl (lv_at hl 1 rfl) ?_
  refine va_get (D := D) (ci := 1) (v := .int (0 : Int32)) (C := RJ4) (T := TJ4) (N := 4) hx hb hts kwJ4 hown hK hP 0 rfl rfl 1 (by decide) kf_22 (fun _ h9 => h9) rfl dJ5_newCapacity_0f7a4_8 ?_
  refine lv_ishl hx hb dJ5_newCapacity_0f7a4_11 ?_
  refine lv_istore_n (lv' := [(3, .int (p0 <<< ((0 : Int32) &&& 31))), (2, .int (Int32.ofNat bc)), (0, .ref sb), (1, .int p0)]) hx hb dJ5_newCapacity_0f7a4_12 rfl hl (by decide) rfl (fun ls hl => ?_)
  refine lv_iload_n hx hb dJ5_newCapacity_0f7a4_13 rfl (lv_at hl 0 rfl) ?_
  refine lv_iload_n hx hb dJ5_newCapacity_0f7a4_14 rfl (lv_at hl 1 rfl) ?_
  refine lv_isub hx hb dJ5_newCapacity_0f7a4_15 ?_
  refine lv_istore (lv' := [(4, .int ((p0 <<< ((0 : Int32) &&& 31)) - (Int32.ofNat bc))), (3, .int (p0 <<< ((0 : Int32) &&& 31))), (2, .int (Int32.ofNat bc)), (0, .ref sb), (1, .int p0)]) hx hb dJ5_newCapacity_0f7a4_16 hl (by decide) rfl (fun ls hl => ?_)
  refine lv_iload_n hx hb dJ5_newCapacity_0f7a4_18 rfl (lv_at hl 2 rfl) ?_
  refine lv_iload hx hb dJ5_newCapacity_0f7a4_19 (lv_at hl 0 rfl) ?_
  refine lv_iload_n hx hb dJ5_newCapacity_0f7a4_21 rfl (lv_at hl 2 rfl) ?_
  refine lv_iconst (v := (2 : Int32)) hx hb dJ5_newCapacity_0f7a4_22 (by decide) ?_
  refine lv_aload_n hx hb dJ5_newCapacity_0f7a4_23 rfl (lv_at hl 3 rfl) ?_
  refine va_get (D := D) (ci := 1) (v := .int (0 : Int32)) (C := RJ4) (T := TJ4) (N := 4) hx hb hts kwJ4 hown hK hP 0 rfl rfl 1 (by decide) kf_22 (fun _ h9 => h9) rfl dJ5_newCapacity_0f7a4_24 ?_
  refine lv_ishl hx hb dJ5_newCapacity_0f7a4_27 ?_
  refine lv_iadd hx hb dJ5_newCapacity_0f7a4_28 ?_
  obtain ⟨r1, e2, h⟩ := zb1_some h
  refine zgoi (va_runS (As := [.int (Int32.ofNat bc), .int ((p0 <<< ((0 : Int32) &&& 31)) - (Int32.ofNat bc)), .int ((Int32.ofNat bc) + ((2 : Int32) <<< ((0 : Int32) &&& 31)))]) (rest := []) ⟨hx, hb, hml, hown, hts⟩ (c_J8_newLength_cabcc l D (zT cJ cI cO cB) (Int32.ofNat bc) ((p0 <<< ((0 : Int32) &&& 31)) - (Int32.ofNat bc)) ((Int32.ofNat bc) + ((2 : Int32) <<< ((0 : Int32) &&& 31))) r1 e2 H.size) (va_cwS 3 hts gJ5_newCapacity_0f7a4_J8_newLength_cabcc rfl rfl rfl hdS_J8_newLength_cabcc ⟨Nat.le_of_ble_eq_true rfl, Nat.le_of_ble_eq_true rfl⟩) (zpreS hK zP0 (zD0 (A := A)) [.int (Int32.ofNat bc), .int ((p0 <<< ((0 : Int32) &&& 31)) - (Int32.ofNat bc)), .int ((Int32.ofNat bc) + ((2 : Int32) <<< ((0 : Int32) &&& 31)))]) rfl rfl hl.1 rfl (lv_room (Nat.le_of_ble_eq_true rfl)) dJ5_newCapacity_0f7a4_29 ⟨Nat.le_of_ble_eq_true rfl, Nat.le_of_ble_eq_true rfl⟩) (zf0 hS hA) (zjE hP hD) hS (fun H locs hP hD hS => ?_)
  refine lv_istore (lv' := [(5, .int r1), (4, .int ((p0 <<< ((0 : Int32) &&& 31)) - (Int32.ofNat bc))), (3, .int (p0 <<< ((0 : Int32) &&& 31))), (2, .int (Int32.ofNat bc)), (0, .ref sb), (1, .int p0)]) hx hb dJ5_newCapacity_0f7a4_32 hl (by decide) rfl (fun ls hl => ?_)
  refine lv_iload hx hb dJ5_newCapacity_0f7a4_34 (lv_at hl 0 rfl) ?_
  refine lv_ldc hx hb hown kc_39 dJ5_newCapacity_0f7a4_36 ?_
  refine lv_icmp_ne (tgt := 51) hx hb dJ5_newCapacity_0f7a4_38 (by decide) (fun c38 => ?_) (fun c38 => ?_)
  · replace h := zif_t h c38
    refine lv_iload hx hb dJ5_newCapacity_0f7a4_51 (lv_at hl 0 rfl) ?_
    refine lv_aload_n hx hb dJ5_newCapacity_0f7a4_53 rfl (lv_at hl 4 rfl) ?_
    refine va_get (D := D) (ci := 1) (v := .int (0 : Int32)) (C := RJ4) (T := TJ4) (N := 4) hx hb hts kwJ4 hown hK hP 0 rfl rfl 1 (by decide) kf_22 (fun _ h9 => h9) rfl dJ5_newCapacity_0f7a4_54 ?_
    refine lv_ishr hx hb dJ5_newCapacity_0f7a4_57 ?_
    have h1 := Option.some.inj h
    subst h1
    exact W.iret (v := (r1 >>> ((0 : Int32) &&& 31))) hx hb hr (fun t ht hW => ⟨⟨(r1 >>> ((0 : Int32) &&& 31)), (), rfl, rfl, by rw [ht]; exact hP, va_K.moved hW.alike hK, hD⟩, hS.F ht⟩) hS.2.2 dJ5_newCapacity_0f7a4_58
  · replace h := zif_fn h c38
    exact (zno h).elim

noncomputable def p_J5_ensureCapacityInternal_d00df (bc : Nat) (bf : Nat → Int32) (p0 : Int32) : Option (Nat × (Nat → Int32)) := (if (p0 - ((Int32.ofNat bc) >>> ((0 : Int32) &&& 31))) ≤ 0 then (some (bc, bf)) else (zb1 (p_J5_newCapacity_0f7a4 bc p0) (fun r1 => (zb2 (p_J7_copyOf_9075b bc bf (r1 <<< ((0 : Int32) &&& 31))) (fun r3 r4 => (some (r3, r4)))))))
theorem hdU_J5_ensureCapacityInternal_d00df : "java/lang/AbstractStringBuilder" ≠ "java/lang/invoke/MethodHandle" ∧ "java/lang/AbstractStringBuilder" ≠ "java/lang/invoke/VarHandle" ∧ (parseMethodDescriptor "(I)V").map (fun d => d.parameters.length) = some 1 := by decide +kernel
set_option maxHeartbeats 4000000 in
set_option maxRecDepth 100000 in
theorem c_J5_ensureCapacityInternal_d00df (l : Launch) (D : va_G) (sb : Nat) (cJ cI cO cB : ClassId) (bv : Nat) (bc : Nat) (bf : Nat → Int32) (bm : Bool) (bn : Int32) (p0 : Int32) (bc' : Nat) (bf' : Nat → Int32) (h : p_J5_ensureCapacityInternal_d00df bc bf p0 = some (bc', bf')) : zGsv l yJ5_ensureCapacityInternal_d00df wsJ5_ensureCapacityInternal_d00df 3 82 1 150 (zPx D (zT cJ cI cO cB) (sW sb cB bv bc bf bm bn)) [.ref sb, .int p0] D (zT cJ cI cO cB) (sW sb cB bv bc bf bm bn) (fun u => (sW sb cB u bc' bf' bm bn)) := by
  intro sz
  delta zQsv
  refine Met.ofW (cc := cJ5_ensureCapacityInternal_d00df) (maxL := 3) (ret := none) (by decide) rfl ?_
  intro p e s m args below meth c s₁ B hml hv
  obtain ⟨rfl, ⟨hsz, hP, hK, hD0⟩, hE⟩ := hv
  have hx := B.exec
  have hb := B.bytes
  have hr := B.returns
  have hts := atoms_spec (ws := wsJ5_ensureCapacityInternal_d00df) B.pre
  have hown : s.vm.findClass RJ5 = some m.cls := findClass_of_methodNamed B.named
  have hlocks := B.notSynchronized
  subst hsz
  have hD := hD0.self (sz := s.heap.size)
  generalize hAe : va_A (sW sb cB bv bc bf bm bn) s.heap.size = A at hD hE ⊢
  have hA : ∀ q : Nat, s.heap.size ≤ q → A q := fun q h => by rw [← hAe]; exact Or.inr h
  have hS : va_S A s.heap s.heap [] := va_S.rf
  have hl := lv_entry ([.ref sb, .int p0]) (n := 3) (Nat.le_of_ble_eq_true rfl)
  rw [lg_entry_eq]
  generalize (lg_sl ([.ref sb, .int p0]) ++ List.replicate (3 - (lg_sl ([.ref sb, .int p0])).length) Slot.unset).toArray = ls at hl ⊢
  replace hl : lv_has ls 3 [(0, .ref sb), (1, .int p0)] := hl
  have kwJ4 : ∀ w ∈ u_ws RJ4 TJ4 4, w ∈ wsJ5_ensureCapacityInternal_d00df := fun w h => List.mem_cons_of_mem _ (List.mem_append_left _ (List.mem_append_right _ (List.mem_cons_of_mem _ (List.mem_append_left _ (List.mem_append_right _ h)))))
  have kf_15 := hts (.fieldLink RJ5 15 "java/lang/AbstractStringBuilder" "value" "[B") (zmem 14 rfl)
  have kf_22 := hts (.fieldLink RJ5 22 "java/lang/AbstractStringBuilder" "coder" "B") (zmem 15 rfl)
  replace h : (if (p0 - ((Int32.ofNat bc) >>> ((0 : Int32) &&& 31))) ≤ 0 then (some (bc, bf)) else (zb1 (p_J5_newCapacity_0f7a4 bc p0) (fun r1 => (zb2 (p_J7_copyOf_9075b bc bf (r1 <<< ((0 : Int32) &&& 31))) (fun r3 r4 => (some (r3, r4))))))) = some (bc', bf') := h
  obtain ⟨H, hHe⟩ : ∃ H, H = s.heap := ⟨_, rfl⟩
  rw [← hHe] at hP
  replace hS : va_S A s.heap H [] := by rw [hHe]; exact hS
  refine zheap hHe ?_
  refine lv_aload_n hx hb dJ5_ensureCapacityInternal_d00df_0 rfl (lv_at hl 0 rfl) ?_
  refine va_get (D := D) (ci := 1) (v := .ref bv) (C := RJ4) (T := TJ4) (N := 4) hx hb hts kwJ4 hown hK hP 0 rfl rfl 0 (by decide) kf_15 (fun _ h9 => h9) rfl dJ5_ensureCapacityInternal_d00df_1 ?_
  refine va_alen (v := (Int32.ofNat bc)) hx hb hK hP 1 3 (ty := .byte) rfl rfl rfl dJ5_ensureCapacityInternal_d00df_4 ?_
  refine lv_aload_n hx hb dJ5_ensureCapacityInternal_d00df_5 rfl (lv_at hl 0 rfl) ?_
  refine va_get (D := D) (ci := 1) (v := .int (0 : Int32)) (C := RJ4) (T := TJ4) (N := 4) hx hb hts kwJ4 hown hK hP 0 rfl rfl 1 (by decide) kf_22 (fun _ h9 => h9) rfl dJ5_ensureCapacityInternal_d00df_6 ?_
  refine lv_ishr hx hb dJ5_ensureCapacityInternal_d00df_9 ?_
  refine lv_istore_n (lv' := [(2, .int ((Int32.ofNat bc) >>> ((0 : Int32) &&& 31))), (0, .ref sb), (1, .int p0)]) hx hb dJ5_ensureCapacityInternal_d00df_10 rfl hl (by decide) rfl (fun ls hl => ?_)
  refine lv_iload_n hx hb dJ5_ensureCapacityInternal_d00df_11 rfl (lv_at hl 2 rfl) ?_
  refine lv_iload_n hx hb dJ5_ensureCapacityInternal_d00df_12 rfl (lv_at hl 0 rfl) ?_
  refine lv_isub hx hb dJ5_ensureCapacityInternal_d00df_13 ?_
  refine lv_if_le (tgt := 38) hx hb dJ5_ensureCapacityInternal_d00df_14 (by decide) (fun c14 => ?_) (fun c14 => ?_)
  · replace h := zif_t h c14
    have g0 := Option.some.inj h
    obtain ⟨h1, g1⟩ := Prod.mk.inj g0
    subst h1
    subst g1
    refine W.widen (k := 1) (n := 150) (by decide) (by decide) ?_
    exact W.vret hx hb hr (fun t ht hW => ⟨⟨bv, rfl, trivial, by rw [ht]; exact hP, va_K.moved hW.alike hK, hD⟩, hS.F ht⟩) hS.2.2 dJ5_ensureCapacityInternal_d00df_38
  · replace h := zif_f h c14
    refine lv_aload_n hx hb dJ5_ensureCapacityInternal_d00df_17 rfl (lv_at hl 1 rfl) ?_
    refine lv_aload_n hx hb dJ5_ensureCapacityInternal_d00df_18 rfl (lv_at hl 1 rfl) ?_
    refine va_get (D := D) (ci := 1) (v := .ref bv) (C := RJ4) (T := TJ4) (N := 4) hx hb hts kwJ4 hown hK hP 0 rfl rfl 0 (by decide) kf_15 (fun _ h9 => h9) rfl dJ5_ensureCapacityInternal_d00df_19 ?_
    refine lv_aload_n hx hb dJ5_ensureCapacityInternal_d00df_22 rfl (lv_at hl 1 rfl) ?_
    refine lv_iload_n hx hb dJ5_ensureCapacityInternal_d00df_23 rfl (lv_at hl 2 rfl) ?_
    obtain ⟨r1, e2, h⟩ := zb1_some h
    refine zgoi (va_runU (As := [.int p0]) (rest := [.ref bv, .ref sb]) ⟨hx, hb, hml, hown, hts⟩ (c_J5_newCapacity_0f7a4 l D sb cJ cI cO cB bv bc bf bm bn p0 r1 e2 H.size) (va_cwU 1 hts gJ5_ensureCapacityInternal_d00df_J5_newCapacity_0f7a4_u104J4 rfl rfl rfl rfl hdU_J5_newCapacity_0f7a4 ⟨Nat.le_of_ble_eq_true rfl, Nat.le_of_ble_eq_true rfl⟩) (zxpreV hE hS (zfree hD hS hA) (q0 := 0) (ci := 1) (T := TJ4) (N := 4) hK hP hD rfl rfl [.int p0]) rfl rfl hl.1 rfl (lv_room (Nat.le_of_ble_eq_true rfl)) dJ5_ensureCapacityInternal_d00df_24 ⟨Nat.le_of_ble_eq_true rfl, Nat.le_of_ble_eq_true rfl⟩) (zfree hD hS hA) (zjW hD hS hA) hS (fun H locs hP hD hS => ?_)
    replace hP : va_P D vwCl (sW sb cB bv bc bf bm bn) H := hP
    replace hD : va_D A (sW sb cB bv bc bf bm bn) := hD
    refine lv_aload_n hx hb dJ5_ensureCapacityInternal_d00df_27 rfl (lv_at hl 1 rfl) ?_
    refine va_get (D := D) (ci := 1) (v := .int (0 : Int32)) (C := RJ4) (T := TJ4) (N := 4) hx hb hts kwJ4 hown hK hP 0 rfl rfl 1 (by decide) kf_22 (fun _ h9 => h9) rfl dJ5_ensureCapacityInternal_d00df_28 ?_
    refine lv_ishl hx hb dJ5_ensureCapacityInternal_d00df_31 ?_
    obtain ⟨r3, r4, e5, h⟩ := zb2_some h
    have hPc := zsub (wn := ([(bv, .inl (cB, bc, .inl bf))] : va_W)) hP [1] rfl
    have hDc := hD.sub (ws' := ([(bv, .inl (cB, bc, .inl bf))] : va_W)) [1] (by decide) rfl
    refine zgon (va_runS (As := [.ref bv, .int (r1 <<< ((0 : Int32) &&& 31))]) (rest := [.ref sb]) ⟨hx, hb, hml, hown, hts⟩ (c_J7_copyOf_9075b l D cJ cI cO cB bv bc bf (r1 <<< ((0 : Int32) &&& 31)) r3 r4 e5 H.size) (va_cwS 2 hts gJ5_ensureCapacityInternal_d00df_J7_copyOf_9075b rfl rfl rfl hdS_J7_copyOf_9075b ⟨Nat.le_of_ble_eq_true rfl, Nat.le_of_ble_eq_true rfl⟩) (zxpreS hE hS (va_free hD hS hA [1] rfl) hK hPc hDc [.ref bv, .int (r1 <<< ((0 : Int32) &&& 31))]) rfl rfl hl.1 rfl (lv_room (Nat.le_of_ble_eq_true rfl)) dJ5_ensureCapacityInternal_d00df_32 ⟨Nat.le_of_ble_eq_true rfl, Nat.le_of_ble_eq_true rfl⟩) (va_free hD hS hA [1] rfl) (fun w6 => (zjs (wn := ([(w6, .inl (cB, r3, .inl r4))] ++ (sW sb cB bv bc bf bm bn))) [2, 0, 1] (zjF (wr := ([(sb, .inr (1, [.ref bv, .int 0, .int (z01 bm), .int bn]))] : va_W)) hP hD hS hA [1] [0] rfl rfl (by decide) (by decide)) rfl (by decide))) hS (fun w6 H locs hP hD hS => ?_)
    replace hP : va_P D vwCl ([(w6, .inl (cB, r3, .inl r4))] ++ (sW sb cB bv bc bf bm bn)) H := hP
    replace hD : va_D A ([(w6, .inl (cB, r3, .inl r4))] ++ (sW sb cB bv bc bf bm bn)) := hD
    refine va_put (D := D) (ci := 1) (v := .ref w6) (ty := .array .byte) (C := RJ4) (T := TJ4) (N := 4) hx hb hts kwJ4 tyJ4 tyJ4_ok nmJ4 hown hK hP hD hS 1 rfl rfl 0 (by decide) kf_15 (fun _ h9 => h9) rfl rfl rfl rfl (Nat.le_of_ble_eq_true rfl) dJ5_ensureCapacityInternal_d00df_35 (fun H locs hP hD hS => ?_)
    replace hP := zsub (wn := (sW sb cB w6 r3 r4 bm bn)) hP [1, 0] rfl
    replace hD := hD.sub (ws' := (sW sb cB w6 r3 r4 bm bn)) [1, 0] (by decide) rfl
    have g0 := Option.some.inj h
    obtain ⟨h1, g1⟩ := Prod.mk.inj g0
    subst h1
    subst g1
    exact W.vret hx hb hr (fun t ht hW => ⟨⟨w6, rfl, trivial, by rw [ht]; exact hP, va_K.moved hW.alike hK, hD⟩, hS.F ht⟩) hS.2.2 dJ5_ensureCapacityInternal_d00df_38

noncomputable def p_J5_inflateIfNeededFor_a7421 (sn : Nat) (sf : Nat → Int32) : Option Unit := (zb1 (p_J0_coder_7d493 sn sf) (fun r1 => (if (0 : Int32) = r1 then (some ()) else none)))
theorem hdU_J5_inflateIfNeededFor_a7421 : "java/lang/AbstractStringBuilder" ≠ "java/lang/invoke/MethodHandle" ∧ "java/lang/AbstractStringBuilder" ≠ "java/lang/invoke/VarHandle" ∧ (parseMethodDescriptor "(Ljava/lang/String;)V").map (fun d => d.parameters.length) = some 1 := by decide +kernel
set_option maxHeartbeats 4000000 in
set_option maxRecDepth 100000 in
theorem c_J5_inflateIfNeededFor_a7421 (l : Launch) (D : va_G) (sb : Nat) (cJ cI cO cB : ClassId) (bv : Nat) (bc : Nat) (bf : Nat → Int32) (bm : Bool) (bn : Int32) (st : Nat) (sn : Nat) (sf : Nat → Int32) (h : p_J5_inflateIfNeededFor_a7421 sn sf = some ()) : zGv l yJ5_inflateIfNeededFor_a7421 wsJ5_inflateIfNeededFor_a7421 1 20 0 0 (fun sz => zPs D (zT cJ cI cO cB) (sW sb cB bv bc bf bm bn) sz st sn sf) [.ref sb, .ref st] D (zT cJ cI cO cB) (sW sb cB bv bc bf bm bn) (sW sb cB bv bc bf bm bn) := by
  intro sz
  delta zQv
  refine Met.ofW (cc := cJ5_inflateIfNeededFor_a7421) (maxL := 2) (ret := none) (by decide) rfl ?_
  intro p e s m args below meth c s₁ B hml hv
  obtain ⟨rfl, ⟨⟨hsz, hP, hK, hD0⟩, hE⟩, hSt⟩ := hv
  have hx := B.exec
  have hb := B.bytes
  have hr := B.returns
  have hts := atoms_spec (ws := wsJ5_inflateIfNeededFor_a7421) B.pre
  have hown : s.vm.findClass RJ5 = some m.cls := findClass_of_methodNamed B.named
  have hlocks := B.notSynchronized
  subst hsz
  have hD := hD0.self (sz := s.heap.size)
  generalize hAe : va_A (sW sb cB bv bc bf bm bn) s.heap.size = A at hD hE hSt ⊢
  have hA : ∀ q : Nat, s.heap.size ≤ q → A q := fun q h => by rw [← hAe]; exact Or.inr h
  have hS : va_S A s.heap s.heap [] := va_S.rf
  have hl := lv_entry ([.ref sb, .ref st]) (n := 2) (Nat.le_of_ble_eq_true rfl)
  rw [lg_entry_eq]
  generalize (lg_sl ([.ref sb, .ref st]) ++ List.replicate (2 - (lg_sl ([.ref sb, .ref st])).length) Slot.unset).toArray = ls at hl ⊢
  replace hl : lv_has ls 2 [(0, .ref sb), (1, .ref st)] := hl
  obtain ⟨sv_st, hst_st⟩ := hSt
  have kf_18 := hts (.fieldLink RJ5 18 "java/lang/String" "COMPACT_STRINGS" "Z") (List.mem_cons_of_mem _ (List.mem_append_right _ (List.mem_cons_of_mem _ (List.mem_append_left _ (List.mem_append_left _ (List.mem_append_right _ (zmem 1 rfl)))))))
  have kwJ4 : ∀ w ∈ u_ws RJ4 TJ4 4, w ∈ wsJ5_inflateIfNeededFor_a7421 := fun w h => List.mem_cons_of_mem _ (List.mem_append_right _ (List.mem_cons_of_mem _ (List.mem_append_left _ (List.mem_append_left _ (List.mem_append_right _ (List.mem_cons_of_mem _ (List.mem_append_right _ h)))))))
  have kf_22 := hts (.fieldLink RJ5 22 "java/lang/AbstractStringBuilder" "coder" "B") (List.mem_cons_of_mem _ (List.mem_append_right _ (List.mem_cons_of_mem _ (List.mem_append_left _ (List.mem_append_left _ (List.mem_append_right _ (zmem 2 rfl)))))))
  replace h : (zb1 (p_J0_coder_7d493 sn sf) (fun r1 => (if (0 : Int32) = r1 then (some ()) else none))) = some () := h
  obtain ⟨H, hHe⟩ : ∃ H, H = s.heap := ⟨_, rfl⟩
  rw [← hHe] at hP
  replace hS : va_S A s.heap H [] := by rw [hHe]; exact hS
  refine zheap hHe ?_
  refine va_gets hx hb hE.2.2.2.1 hS hown kf_18 (fun _ h9 => h9) dJ5_inflateIfNeededFor_a7421_0 ?_
  refine lv_if_eq (tgt := 21) hx hb dJ5_inflateIfNeededFor_a7421_3 (by decide) (fun c => absurd c (by decide)) (fun _ => ?_)
  refine lv_aload_n hx hb dJ5_inflateIfNeededFor_a7421_6 rfl (lv_at hl 0 rfl) ?_
  refine va_get (D := D) (ci := 1) (v := .int (0 : Int32)) (C := RJ4) (T := TJ4) (N := 4) hx hb hts kwJ4 hown hK hP 0 rfl rfl 1 (by decide) kf_22 (fun _ h9 => h9) rfl dJ5_inflateIfNeededFor_a7421_7 ?_
  refine lv_aload_n hx hb dJ5_inflateIfNeededFor_a7421_10 rfl (lv_at hl 1 rfl) ?_
  obtain ⟨r1, e2, h⟩ := zb1_some h
  refine zgoi (va_runV (As := []) (rest := [.int (0 : Int32)]) ⟨hx, hb, hml, hown, hts⟩ (c_J0_coder_7d493 l D cJ cI cO cB st sn sf r1 e2 H.size) (cwV 0 hts gJ5_inflateIfNeededFor_a7421_J0_coder_7d493 rfl rfl rfl hdV_J0_coder_7d493 ⟨Nat.le_of_ble_eq_true rfl, Nat.le_of_ble_eq_true rfl⟩) (zspreT hE (zSt.here hst_st hS (zf0 hS hA)) hS (zf0 hS hA) hK zP0 (zD0 (A := A)) []) rfl rfl hl.1 rfl (lv_room (Nat.le_of_ble_eq_true rfl)) dJ5_inflateIfNeededFor_a7421_11 ⟨Nat.le_of_ble_eq_true rfl, Nat.le_of_ble_eq_true rfl⟩) (zf0 hS hA) (zjE hP hD) hS (fun H locs hP hD hS => ?_)
  refine lv_icmp_eq (tgt := 21) hx hb dJ5_inflateIfNeededFor_a7421_14 (by decide) (fun c14 => ?_) (fun c14 => ?_)
  · replace h := zif_t h c14
    exact W.vret hx hb hr (fun t ht hW => ⟨⟨(), rfl, trivial, by rw [ht]; exact hP, va_K.moved hW.alike hK, hD⟩, hS.F ht⟩) hS.2.2 dJ5_inflateIfNeededFor_a7421_21
  · replace h := zif_f h c14
    refine lv_aload_n hx hb dJ5_inflateIfNeededFor_a7421_17 rfl (lv_at hl 0 rfl) ?_
    exact (zno h).elim

noncomputable def p_J5_putStringAt_47b60 (bc : Nat) (bf : Nat → Int32) (p0 : Int32) (sn : Nat) (sf : Nat → Int32) : Option ((Nat → Int32)) := (zb0 (p_J5_inflateIfNeededFor_a7421 sn sf) (zb1 (p_J0_getBytes_840e7 sn sf bc bf p0 (0 : Int32)) (fun T0_2 => (some T0_2))))
theorem hdU_J5_putStringAt_47b60 : "java/lang/AbstractStringBuilder" ≠ "java/lang/invoke/MethodHandle" ∧ "java/lang/AbstractStringBuilder" ≠ "java/lang/invoke/VarHandle" ∧ (parseMethodDescriptor "(ILjava/lang/String;)V").map (fun d => d.parameters.length) = some 2 := by decide +kernel
set_option maxHeartbeats 4000000 in
set_option maxRecDepth 100000 in
theorem c_J5_putStringAt_47b60 (l : Launch) (D : va_G) (sb : Nat) (cJ cI cO cB : ClassId) (bv : Nat) (bc : Nat) (bf : Nat → Int32) (bm : Bool) (bn : Int32) (p0 : Int32) (st : Nat) (sn : Nat) (sf : Nat → Int32) (bf' : Nat → Int32) (h : p_J5_putStringAt_47b60 bc bf p0 sn sf = some bf') : zGsv l yJ5_putStringAt_47b60 wsJ5_putStringAt_47b60 2 83 0 0 (fun sz => zPs D (zT cJ cI cO cB) (sW sb cB bv bc bf bm bn) sz st sn sf) [.ref sb, .int p0, .ref st] D (zT cJ cI cO cB) (sW sb cB bv bc bf bm bn) (fun u => (sW sb cB u bc bf' bm bn)) := by
  intro sz
  delta zQsv
  refine Met.ofW (cc := cJ5_putStringAt_47b60) (maxL := 3) (ret := none) (by decide) rfl ?_
  intro p e s m args below meth c s₁ B hml hv
  obtain ⟨rfl, ⟨⟨hsz, hP, hK, hD0⟩, hE⟩, hSt⟩ := hv
  have hx := B.exec
  have hb := B.bytes
  have hr := B.returns
  have hts := atoms_spec (ws := wsJ5_putStringAt_47b60) B.pre
  have hown : s.vm.findClass RJ5 = some m.cls := findClass_of_methodNamed B.named
  have hlocks := B.notSynchronized
  subst hsz
  have hD := hD0.self (sz := s.heap.size)
  generalize hAe : va_A (sW sb cB bv bc bf bm bn) s.heap.size = A at hD hE hSt ⊢
  have hA : ∀ q : Nat, s.heap.size ≤ q → A q := fun q h => by rw [← hAe]; exact Or.inr h
  have hS : va_S A s.heap s.heap [] := va_S.rf
  have hl := lv_entry ([.ref sb, .int p0, .ref st]) (n := 3) (Nat.le_of_ble_eq_true rfl)
  rw [lg_entry_eq]
  generalize (lg_sl ([.ref sb, .int p0, .ref st]) ++ List.replicate (3 - (lg_sl ([.ref sb, .int p0, .ref st])).length) Slot.unset).toArray = ls at hl ⊢
  replace hl : lv_has ls 3 [(0, .ref sb), (1, .int p0), (2, .ref st)] := hl
  obtain ⟨sv_st, hst_st⟩ := hSt
  have kwJ4 : ∀ w ∈ u_ws RJ4 TJ4 4, w ∈ wsJ5_putStringAt_47b60 := fun w h => List.mem_cons_of_mem _ (List.mem_append_left _ (List.mem_append_right _ (List.mem_cons_of_mem _ (List.mem_append_right _ (List.mem_cons_of_mem _ (List.mem_append_left _ (List.mem_append_left _ (List.mem_append_right _ (List.mem_cons_of_mem _ (List.mem_append_right _ h))))))))))
  have kf_22 := hts (.fieldLink RJ5 22 "java/lang/AbstractStringBuilder" "coder" "B") (List.mem_cons_of_mem _ (List.mem_append_left _ (List.mem_append_right _ (List.mem_cons_of_mem _ (List.mem_append_right _ (List.mem_cons_of_mem _ (List.mem_append_left _ (List.mem_append_left _ (List.mem_append_right _ (zmem 2 rfl))))))))))
  have kf_15 := hts (.fieldLink RJ5 15 "java/lang/AbstractStringBuilder" "value" "[B") (List.mem_cons_of_mem _ (List.mem_append_left _ (List.mem_append_right _ (List.mem_cons_of_mem _ (List.mem_append_right _ (zmem 1 rfl))))))
  replace h : (zb0 (p_J5_inflateIfNeededFor_a7421 sn sf) (zb1 (p_J0_getBytes_840e7 sn sf bc bf p0 (0 : Int32)) (fun T0_2 => (some T0_2)))) = some bf' := h
  obtain ⟨H, hHe⟩ : ∃ H, H = s.heap := ⟨_, rfl⟩
  rw [← hHe] at hP
  replace hS : va_S A s.heap H [] := by rw [hHe]; exact hS
  refine zheap hHe ?_
  refine lv_aload_n hx hb dJ5_putStringAt_47b60_0 rfl (lv_at hl 0 rfl) ?_
  refine lv_aload_n hx hb dJ5_putStringAt_47b60_1 rfl (lv_at hl 2 rfl) ?_
  obtain ⟨e1, h⟩ := zb0_some h
  refine zgov (va_runU (As := [.ref st]) (rest := []) ⟨hx, hb, hml, hown, hts⟩ (c_J5_inflateIfNeededFor_a7421 l D sb cJ cI cO cB bv bc bf bm bn st sn sf e1 H.size) (va_cwU 1 hts gJ5_putStringAt_47b60_J5_inflateIfNeededFor_a7421_u397J4 rfl rfl rfl rfl hdU_J5_inflateIfNeededFor_a7421 ⟨Nat.le_of_ble_eq_true rfl, Nat.le_of_ble_eq_true rfl⟩) (zspreV hE (zSt.here hst_st hS (zfree hD hS hA)) hS (zfree hD hS hA) (q0 := 0) (ci := 1) (T := TJ4) (N := 4) hK hP hD rfl rfl [.ref st]) rfl rfl hl.1 rfl (lv_room (Nat.le_of_ble_eq_true rfl)) dJ5_putStringAt_47b60_2 ⟨Nat.le_of_ble_eq_true rfl, Nat.le_of_ble_eq_true rfl⟩) (zfree hD hS hA) (zjW hD hS hA) hS (fun H locs hP hD hS => ?_)
  replace hP : va_P D vwCl (sW sb cB bv bc bf bm bn) H := hP
  replace hD : va_D A (sW sb cB bv bc bf bm bn) := hD
  refine lv_aload_n hx hb dJ5_putStringAt_47b60_5 rfl (lv_at hl 2 rfl) ?_
  refine lv_aload_n hx hb dJ5_putStringAt_47b60_6 rfl (lv_at hl 0 rfl) ?_
  refine va_get (D := D) (ci := 1) (v := .ref bv) (C := RJ4) (T := TJ4) (N := 4) hx hb hts kwJ4 hown hK hP 0 rfl rfl 0 (by decide) kf_15 (fun _ h9 => h9) rfl dJ5_putStringAt_47b60_7 ?_
  refine lv_iload_n hx hb dJ5_putStringAt_47b60_10 rfl (lv_at hl 1 rfl) ?_
  refine lv_aload_n hx hb dJ5_putStringAt_47b60_11 rfl (lv_at hl 0 rfl) ?_
  refine va_get (D := D) (ci := 1) (v := .int (0 : Int32)) (C := RJ4) (T := TJ4) (N := 4) hx hb hts kwJ4 hown hK hP 0 rfl rfl 1 (by decide) kf_22 (fun _ h9 => h9) rfl dJ5_putStringAt_47b60_12 ?_
  obtain ⟨T0_2, e3, h⟩ := zb1_some h
  have hPc := zsub (wn := ([(bv, .inl (cB, bc, .inl bf))] : va_W)) hP [1] rfl
  have hDc := hD.sub (ws' := ([(bv, .inl (cB, bc, .inl bf))] : va_W)) [1] (by decide) rfl
  refine zgov (va_runV (As := [.ref bv, .int p0, .int (0 : Int32)]) (rest := []) ⟨hx, hb, hml, hown, hts⟩ (c_J0_getBytes_840e7 l D cJ cI cO cB st sn sf bv bc bf p0 (0 : Int32) T0_2 e3 H.size) (cwV 3 hts gJ5_putStringAt_47b60_J0_getBytes_840e7 rfl rfl rfl hdV_J0_getBytes_840e7 ⟨Nat.le_of_ble_eq_true rfl, Nat.le_of_ble_eq_true rfl⟩) (zspreT hE (zSt.here hst_st hS (va_free hD hS hA [1] rfl)) hS (va_free hD hS hA [1] rfl) hK hPc hDc [.ref bv, .int p0, .int (0 : Int32)]) rfl rfl hl.1 rfl (lv_room (Nat.le_of_ble_eq_true rfl)) dJ5_putStringAt_47b60_15 ⟨Nat.le_of_ble_eq_true rfl, Nat.le_of_ble_eq_true rfl⟩) (va_free hD hS hA [1] rfl) (zjs (wn := (sW sb cB bv bc T0_2 bm bn)) [0, 1] (zjF (wr := ([(sb, .inr (1, [.ref bv, .int 0, .int (z01 bm), .int bn]))] : va_W)) hP hD hS hA [1] [0] rfl rfl (by decide) (by decide)) rfl (by decide)) hS (fun H locs hP hD hS => ?_)
  replace hP : va_P D vwCl (sW sb cB bv bc T0_2 bm bn) H := hP
  replace hD : va_D A (sW sb cB bv bc T0_2 bm bn) := hD
  have h1 := Option.some.inj h
  subst h1
  exact W.vret hx hb hr (fun t ht hW => ⟨⟨bv, rfl, trivial, by rw [ht]; exact hP, va_K.moved hW.alike hK, hD⟩, hS.F ht⟩) hS.2.2 dJ5_putStringAt_47b60_18

noncomputable def p_J5_append_3fe6f (bc : Nat) (bf : Nat → Int32) (bn : Int32) (p0 : Int32) : Option (Nat × (Nat → Int32) × Int32) := (zb2 (p_J5_ensureCapacityInternal_d00df bc bf (bn + (1 : Int32))) (fun bc_1 bf_2 => (zb1 (p_J5_isLatin1_aae02) (fun r5 => (zlt (zb1 (p_J5_isLatin1_aae02) (fun r7 => (if (z01 r7) = 0 then none else none))) (fun jf0 => (if (z01 r5) = 0 then (jf0 ) else (zb1 (p_J1_canEncode_fc78d p0) (fun r9 => (if (z01 r9) = 0 then (jf0 ) else (zg (bn < 0 ∨ bc_1 ≤ bn.toNatClampNeg) (some (bc_1, (upd bf_2 bn.toNatClampNeg (vp_nar .byte (p0.toInt8.toInt32))), (bn + (1 : Int32)))))))))))))))
theorem hdU2_J5_append_3fe6f : yJ5_append_3fe6f.name ≠ "<init>" ∧ (parseMethodDescriptor yJ5_append_3fe6f.desc).map (fun d => d.parameters.length) = some 1 := by decide +kernel
set_option maxHeartbeats 4000000 in
set_option maxRecDepth 100000 in
theorem c_J5_append_3fe6f (l : Launch) (D : va_G) (sb : Nat) (cJ cI cO cB : ClassId) (bv : Nat) (bc : Nat) (bf : Nat → Int32) (bm : Bool) (bn : Int32) (p0 : Int32) (bc' : Nat) (bf' : Nat → Int32) (bn' : Int32) (h : p_J5_append_3fe6f bc bf bn p0 = some (bc', bf', bn')) : zGsr l yJ5_append_3fe6f wsJ5_append_3fe6f 4 104 1 150 (zPx D (zT cJ cI cO cB) (sW sb cB bv bc bf bm bn)) [.ref sb, .int p0] D (zT cJ cI cO cB) (sW sb cB bv bc bf bm bn) (fun u => (sW sb cB u bc' bf' bm bn')) sb := by
  intro sz
  delta zQsr
  refine Met.ofW (cc := cJ5_append_3fe6f) (maxL := 2) (ret := (some (.object "java/lang/AbstractStringBuilder"))) (by decide) rfl ?_
  intro p e s m args below meth c s₁ B hml hv
  obtain ⟨rfl, ⟨hsz, hP, hK, hD0⟩, hE⟩ := hv
  have hx := B.exec
  have hb := B.bytes
  have hr := B.returns
  have hts := atoms_spec (ws := wsJ5_append_3fe6f) B.pre
  have hown : s.vm.findClass RJ5 = some m.cls := findClass_of_methodNamed B.named
  have hlocks := B.notSynchronized
  subst hsz
  have hD := hD0.self (sz := s.heap.size)
  generalize hAe : va_A (sW sb cB bv bc bf bm bn) s.heap.size = A at hD hE ⊢
  have hA : ∀ q : Nat, s.heap.size ≤ q → A q := fun q h => by rw [← hAe]; exact Or.inr h
  have hS : va_S A s.heap s.heap [] := va_S.rf
  have hl := lv_entry ([.ref sb, .int p0]) (n := 2) (Nat.le_of_ble_eq_true rfl)
  rw [lg_entry_eq]
  generalize (lg_sl ([.ref sb, .int p0]) ++ List.replicate (2 - (lg_sl ([.ref sb, .int p0])).length) Slot.unset).toArray = ls at hl ⊢
  replace hl : lv_has ls 2 [(0, .ref sb), (1, .int p0)] := hl
  have kwJ4 : ∀ w ∈ u_ws RJ4 TJ4 4, w ∈ wsJ5_append_3fe6f := fun w h => List.mem_cons_of_mem _ (List.mem_append_left _ (List.mem_append_left _ (List.mem_append_left _ (List.mem_append_left _ (List.mem_append_right _ (List.mem_cons_of_mem _ (List.mem_append_left _ (List.mem_append_right _ (List.mem_cons_of_mem _ (List.mem_append_left _ (List.mem_append_right _ h)))))))))))
  have kf_79 := hts (.fieldLink RJ5 79 "java/lang/AbstractStringBuilder" "count" "I") (List.mem_cons_of_mem _ (List.mem_append_left _ (List.mem_append_right _ (zmem 2 rfl))))
  have kf_15 := hts (.fieldLink RJ5 15 "java/lang/AbstractStringBuilder" "value" "[B") (zmem 41 rfl)
  replace h : (zb2 (p_J5_ensureCapacityInternal_d00df bc bf (bn + (1 : Int32))) (fun bc_1 bf_2 => (zb1 (p_J5_isLatin1_aae02) (fun r5 => (zlt (zb1 (p_J5_isLatin1_aae02) (fun r7 => (if (z01 r7) = 0 then none else none))) (fun jf0 => (if (z01 r5) = 0 then (jf0 ) else (zb1 (p_J1_canEncode_fc78d p0) (fun r9 => (if (z01 r9) = 0 then (jf0 ) else (zg (bn < 0 ∨ bc_1 ≤ bn.toNatClampNeg) (some (bc_1, (upd bf_2 bn.toNatClampNeg (vp_nar .byte (p0.toInt8.toInt32))), (bn + (1 : Int32))))))))))))))) = some (bc', bf', bn') := h
  refine zabs (fun G hG hGW => ?_)
  obtain ⟨H, hHe⟩ : ∃ H, H = s.heap := ⟨_, rfl⟩
  rw [← hHe] at hP
  replace hS : va_S A s.heap H [] := by rw [hHe]; exact hS
  refine zheap hHe ?_
  refine lv_aload_n hx hb dJ5_append_3fe6f_0 rfl (lv_at hl 0 rfl) ?_
  refine lv_aload_n hx hb dJ5_append_3fe6f_1 rfl (lv_at hl 0 rfl) ?_
  refine va_get (D := D) (ci := 1) (v := .int bn) (C := RJ4) (T := TJ4) (N := 4) hx hb hts kwJ4 hown hK hP 0 rfl rfl 3 (by decide) kf_79 (fun _ h9 => h9) rfl dJ5_append_3fe6f_2 ?_
  refine lv_iconst (v := (1 : Int32)) hx hb dJ5_append_3fe6f_5 (by decide) ?_
  refine lv_iadd hx hb dJ5_append_3fe6f_6 ?_
  obtain ⟨bc_1, bf_2, e3, h⟩ := zb2_some h
  refine zgosv (va_runU (As := [.int (bn + (1 : Int32))]) (rest := []) ⟨hx, hb, hml, hown, hts⟩ (c_J5_ensureCapacityInternal_d00df l D sb cJ cI cO cB bv bc bf bm bn (bn + (1 : Int32)) bc_1 bf_2 e3 H.size) (va_cwU 1 hts gJ5_append_3fe6f_J5_ensureCapacityInternal_d00df_u100J4 rfl rfl rfl rfl hdU_J5_ensureCapacityInternal_d00df ⟨Nat.le_of_ble_eq_true rfl, Nat.le_of_ble_eq_true rfl⟩) (zxpreV hE hS (zfree hD hS hA) (q0 := 0) (ci := 1) (T := TJ4) (N := 4) hK hP hD rfl rfl [.int (bn + (1 : Int32))]) rfl rfl hl.1 rfl (lv_room (Nat.le_of_ble_eq_true rfl)) dJ5_append_3fe6f_7 ⟨Nat.le_of_ble_eq_true rfl, Nat.le_of_ble_eq_true rfl⟩) (zfree hD hS hA) (fun bv4 => (zjW hD hS hA)) hS (fun bv4 H locs hP hD hS => ?_)
  replace hP : va_P D vwCl (sW sb cB bv4 bc_1 bf_2 bm bn) H := hP
  replace hD : va_D A (sW sb cB bv4 bc_1 bf_2 bm bn) := hD
  refine lv_aload_n hx hb dJ5_append_3fe6f_10 rfl (lv_at hl 0 rfl) ?_
  obtain ⟨r5, e6, h⟩ := zb1_some h
  refine zgoi (va_runU (As := []) (rest := []) ⟨hx, hb, hml, hown, hts⟩ (c_J5_isLatin1_aae02 l D sb cJ cI cO cB bv4 bc_1 bf_2 bm bn r5 e6 H.size) (va_cwU 0 hts gJ5_append_3fe6f_J5_isLatin1_aae02_u83J4 rfl rfl rfl rfl hdU_J5_isLatin1_aae02 ⟨Nat.le_of_ble_eq_true rfl, Nat.le_of_ble_eq_true rfl⟩) (zxpreV hE hS (zfree hD hS hA) (q0 := 0) (ci := 1) (T := TJ4) (N := 4) hK hP hD rfl rfl []) rfl rfl hl.1 rfl (lv_room (Nat.le_of_ble_eq_true rfl)) dJ5_append_3fe6f_11 ⟨Nat.le_of_ble_eq_true rfl, Nat.le_of_ble_eq_true rfl⟩) (zfree hD hS hA) (zjW hD hS hA) hS (fun H locs hP hD hS => ?_)
  replace hP : va_P D vwCl (sW sb cB bv4 bc_1 bf_2 bm bn) H := hP
  replace hD : va_D A (sW sb cB bv4 bc_1 bf_2 bm bn) := hD
  have J0 : ∀  (H : Heap) (locs : List Loc) (ls : Array Slot), va_P D vwCl (sW sb cB bv4 bc_1 bf_2 bm bn) H → va_D A (sW sb cB bv4 bc_1 bf_2 bm bn) → va_S A s.heap H locs → lv_has ls 2 [(0, .ref sb), (1, .int p0)] → (zb1 (p_J5_isLatin1_aae02) (fun r7 => (if (z01 r7) = 0 then none else none))) = some (bc', bf', bn') → G H locs 1 150 (F0 m 45 ls []) := by
    intro  H locs ls hP hD hS hl h
    refine hG _ _ _ _ _ ?_
    refine lv_aload_n hx hb dJ5_append_3fe6f_45 rfl (lv_at hl 0 rfl) ?_
    obtain ⟨r7, e8, h⟩ := zb1_some h
    refine zgoi (va_runU (As := []) (rest := []) ⟨hx, hb, hml, hown, hts⟩ (c_J5_isLatin1_aae02 l D sb cJ cI cO cB bv4 bc_1 bf_2 bm bn r7 e8 H.size) (va_cwU 0 hts gJ5_append_3fe6f_J5_isLatin1_aae02_u83J4 rfl rfl rfl rfl hdU_J5_isLatin1_aae02 ⟨Nat.le_of_ble_eq_true rfl, Nat.le_of_ble_eq_true rfl⟩) (zxpreV hE hS (zfree hD hS hA) (q0 := 0) (ci := 1) (T := TJ4) (N := 4) hK hP hD rfl rfl []) rfl rfl hl.1 rfl (lv_room (Nat.le_of_ble_eq_true rfl)) dJ5_append_3fe6f_46 ⟨Nat.le_of_ble_eq_true rfl, Nat.le_of_ble_eq_true rfl⟩) (zfree hD hS hA) (zjW hD hS hA) hS (fun H locs hP hD hS => ?_)
    replace hP : va_P D vwCl (sW sb cB bv4 bc_1 bf_2 bm bn) H := hP
    replace hD : va_D A (sW sb cB bv4 bc_1 bf_2 bm bn) := hD
    refine lv_if_eq (tgt := 56) hx hb dJ5_append_3fe6f_49 (by decide) (fun c49 => ?_) (fun c49 => ?_)
    · replace h := zif_t h c49
      refine lv_aload_n hx hb dJ5_append_3fe6f_56 rfl (lv_at hl 0 rfl) ?_
      refine va_get (D := D) (ci := 1) (v := .ref bv4) (C := RJ4) (T := TJ4) (N := 4) hx hb hts kwJ4 hown hK hP 0 rfl rfl 0 (by decide) kf_15 (fun _ h9 => h9) rfl dJ5_append_3fe6f_57 ?_
      refine lv_aload_n hx hb dJ5_append_3fe6f_60 rfl (lv_at hl 0 rfl) ?_
      refine lv_dup hx hb dJ5_append_3fe6f_61 rfl ?_
      refine va_get (D := D) (ci := 1) (v := .int bn) (C := RJ4) (T := TJ4) (N := 4) hx hb hts kwJ4 hown hK hP 0 rfl rfl 3 (by decide) kf_79 (fun _ h9 => h9) rfl dJ5_append_3fe6f_62 ?_
      refine lv_dup_x1 hx hb dJ5_append_3fe6f_65 rfl rfl ?_
      refine lv_iconst (v := (1 : Int32)) hx hb dJ5_append_3fe6f_66 (by decide) ?_
      refine lv_iadd hx hb dJ5_append_3fe6f_67 ?_
      refine va_put (D := D) (ci := 1) (v := .int (bn + (1 : Int32))) (ty := .int) (C := RJ4) (T := TJ4) (N := 4) hx hb hts kwJ4 tyJ4 tyJ4_ok nmJ4 hown hK hP hD hS 0 rfl rfl 3 (by decide) kf_79 (fun _ h9 => h9) rfl rfl rfl rfl (Nat.le_of_ble_eq_true rfl) dJ5_append_3fe6f_68 (fun H locs hP hD hS => ?_)
      replace hP : va_P D vwCl (sW sb cB bv4 bc_1 bf_2 bm (bn + (1 : Int32))) H := hP
      replace hD : va_D A (sW sb cB bv4 bc_1 bf_2 bm (bn + (1 : Int32))) := hD
      refine lv_iload_n hx hb dJ5_append_3fe6f_71 rfl (lv_at hl 1 rfl) ?_
      exact (zno h).elim
    · replace h := zif_f h c49
      refine lv_aload_n hx hb dJ5_append_3fe6f_52 rfl (lv_at hl 0 rfl) ?_
      exact (zno h).elim
  replace h := zlt_h h
  refine lv_if_eq (tgt := 45) hx hb dJ5_append_3fe6f_14 (by decide) (fun c14 => ?_) (fun c14 => ?_)
  · replace h := zif_t h c14
    exact hGW _ _ _ _ _ (J0  _ _ ls hP hD hS (lv_sub hl [0, 1] rfl) h)
  · replace h := zif_f h c14
    refine lv_iload_n hx hb dJ5_append_3fe6f_17 rfl (lv_at hl 1 rfl) ?_
    obtain ⟨r9, e10, h⟩ := zb1_some h
    refine zgoi (va_runS (As := [.int p0]) (rest := []) ⟨hx, hb, hml, hown, hts⟩ (c_J1_canEncode_fc78d l D (zT cJ cI cO cB) p0 r9 e10 H.size) (va_cwS 1 hts gJ5_append_3fe6f_J1_canEncode_fc78d rfl rfl rfl hdS_J1_canEncode_fc78d ⟨Nat.le_of_ble_eq_true rfl, Nat.le_of_ble_eq_true rfl⟩) (zpreS hK zP0 (zD0 (A := A)) [.int p0]) rfl rfl hl.1 rfl (lv_room (Nat.le_of_ble_eq_true rfl)) dJ5_append_3fe6f_18 ⟨Nat.le_of_ble_eq_true rfl, Nat.le_of_ble_eq_true rfl⟩) (zf0 hS hA) (zjE hP hD) hS (fun H locs hP hD hS => ?_)
    refine lv_if_eq (tgt := 45) hx hb dJ5_append_3fe6f_21 (by decide) (fun c21 => ?_) (fun c21 => ?_)
    · replace h := zif_t h c21
      exact hGW _ _ _ _ _ (J0  _ _ ls hP hD hS (lv_sub hl [0, 1] rfl) h)
    · replace h := zif_f h c21
      refine lv_aload_n hx hb dJ5_append_3fe6f_24 rfl (lv_at hl 0 rfl) ?_
      refine va_get (D := D) (ci := 1) (v := .ref bv4) (C := RJ4) (T := TJ4) (N := 4) hx hb hts kwJ4 hown hK hP 0 rfl rfl 0 (by decide) kf_15 (fun _ h9 => h9) rfl dJ5_append_3fe6f_25 ?_
      refine lv_aload_n hx hb dJ5_append_3fe6f_28 rfl (lv_at hl 0 rfl) ?_
      refine lv_dup hx hb dJ5_append_3fe6f_29 rfl ?_
      refine va_get (D := D) (ci := 1) (v := .int bn) (C := RJ4) (T := TJ4) (N := 4) hx hb hts kwJ4 hown hK hP 0 rfl rfl 3 (by decide) kf_79 (fun _ h9 => h9) rfl dJ5_append_3fe6f_30 ?_
      refine lv_dup_x1 hx hb dJ5_append_3fe6f_33 rfl rfl ?_
      refine lv_iconst (v := (1 : Int32)) hx hb dJ5_append_3fe6f_34 (by decide) ?_
      refine lv_iadd hx hb dJ5_append_3fe6f_35 ?_
      refine va_put (D := D) (ci := 1) (v := .int (bn + (1 : Int32))) (ty := .int) (C := RJ4) (T := TJ4) (N := 4) hx hb hts kwJ4 tyJ4 tyJ4_ok nmJ4 hown hK hP hD hS 0 rfl rfl 3 (by decide) kf_79 (fun _ h9 => h9) rfl rfl rfl rfl (Nat.le_of_ble_eq_true rfl) dJ5_append_3fe6f_36 (fun H locs hP hD hS => ?_)
      replace hP : va_P D vwCl (sW sb cB bv4 bc_1 bf_2 bm (bn + (1 : Int32))) H := hP
      replace hD : va_D A (sW sb cB bv4 bc_1 bf_2 bm (bn + (1 : Int32))) := hD
      refine lv_iload_n hx hb dJ5_append_3fe6f_39 rfl (lv_at hl 1 rfl) ?_
      refine lv_i2b (v := (p0.toInt8.toInt32)) hx hb dJ5_append_3fe6f_40 rfl ?_
      obtain ⟨z41, h⟩ := zg_some h
      refine va_bast hx hb hK hP hD hS 1 3 rfl rfl z41 dJ5_append_3fe6f_41 (fun H locs hP hD hS => ?_)
      replace hP : va_P D vwCl (sW sb cB bv4 bc_1 (upd bf_2 bn.toNatClampNeg (vp_nar .byte (p0.toInt8.toInt32))) bm (bn + (1 : Int32))) H := hP
      replace hD : va_D A (sW sb cB bv4 bc_1 (upd bf_2 bn.toNatClampNeg (vp_nar .byte (p0.toInt8.toInt32))) bm (bn + (1 : Int32))) := hD
      refine lv_goto (tgt := 75) hx hb dJ5_append_3fe6f_42 (by decide) ?_
      refine lv_aload_n hx hb dJ5_append_3fe6f_75 rfl (lv_at hl 0 rfl) ?_
      have g0 := Option.some.inj h
      obtain ⟨h1, g1⟩ := Prod.mk.inj g0
      obtain ⟨h2, g2⟩ := Prod.mk.inj g1
      subst h1
      subst h2
      subst g2
      exact W.aret (v := .ref sb) hx hb hr (Or.inl ⟨_, rfl⟩) (Or.inr ⟨_, rfl⟩) (fun t ht hW => ⟨⟨bv4, sb, rfl, trivial, rfl, by rw [ht]; exact hP, va_K.moved hW.alike hK, hD⟩, hS.F ht⟩) hS.2.2 dJ5_append_3fe6f_76

noncomputable def p_J5_append_c97b9 (F : Nat) (bc : Nat) (bf : Nat → Int32) (bn : Int32) (p0 : Int32) : Option (Nat × (Nat → Int32) × Int32) := (zb1 (p_J6_stringSize_0f7a4 F p0) (fun r1 => (zb2 (p_J5_ensureCapacityInternal_d00df bc bf (bn + r1)) (fun bc_3 bf_4 => (zb1 (p_J5_isLatin1_aae02) (fun r7 => (if (z01 r7) = 0 then none else (zb2 (p_J6_getChars_ba4f3 F p0 (bn + r1) bc_3 bf_4) (fun r9 T0_10 => (some (bc_3, T0_10, (bn + r1))))))))))))
theorem hdU2_J5_append_c97b9 : yJ5_append_c97b9.name ≠ "<init>" ∧ (parseMethodDescriptor yJ5_append_c97b9.desc).map (fun d => d.parameters.length) = some 1 := by decide +kernel
set_option maxHeartbeats 4000000 in
set_option maxRecDepth 100000 in
theorem c_J5_append_c97b9 (l : Launch) (D : va_G) (sb : Nat) (cJ cI cO cB : ClassId) (bv : Nat) (bc : Nat) (bf : Nat → Int32) (bm : Bool) (bn : Int32) (F : Nat) (p0 : Int32) (bc' : Nat) (bf' : Nat → Int32) (bn' : Int32) (h : p_J5_append_c97b9 F bc bf bn p0 = some (bc', bf', bn')) : zGsr l yJ5_append_c97b9 wsJ5_append_c97b9 4 104 1 150 (zPx D (zT cJ cI cO cB) (sW sb cB bv bc bf bm bn)) [.ref sb, .int p0] D (zT cJ cI cO cB) (sW sb cB bv bc bf bm bn) (fun u => (sW sb cB u bc' bf' bm bn')) sb := by
  intro sz
  delta zQsr
  refine Met.ofW (cc := cJ5_append_c97b9) (maxL := 4) (ret := (some (.object "java/lang/AbstractStringBuilder"))) (by decide) rfl ?_
  intro p e s m args below meth c s₁ B hml hv
  obtain ⟨rfl, ⟨hsz, hP, hK, hD0⟩, hE⟩ := hv
  have hx := B.exec
  have hb := B.bytes
  have hr := B.returns
  have hts := atoms_spec (ws := wsJ5_append_c97b9) B.pre
  have hown : s.vm.findClass RJ5 = some m.cls := findClass_of_methodNamed B.named
  have hlocks := B.notSynchronized
  subst hsz
  have hD := hD0.self (sz := s.heap.size)
  generalize hAe : va_A (sW sb cB bv bc bf bm bn) s.heap.size = A at hD hE ⊢
  have hA : ∀ q : Nat, s.heap.size ≤ q → A q := fun q h => by rw [← hAe]; exact Or.inr h
  have hS : va_S A s.heap s.heap [] := va_S.rf
  have hl := lv_entry ([.ref sb, .int p0]) (n := 4) (Nat.le_of_ble_eq_true rfl)
  rw [lg_entry_eq]
  generalize (lg_sl ([.ref sb, .int p0]) ++ List.replicate (4 - (lg_sl ([.ref sb, .int p0])).length) Slot.unset).toArray = ls at hl ⊢
  replace hl : lv_has ls 4 [(0, .ref sb), (1, .int p0)] := hl
  have kwJ4 : ∀ w ∈ u_ws RJ4 TJ4 4, w ∈ wsJ5_append_c97b9 := fun w h => List.mem_cons_of_mem _ (List.mem_append_left _ (List.mem_append_left _ (List.mem_append_left _ (List.mem_append_right _ (List.mem_cons_of_mem _ (List.mem_append_left _ (List.mem_append_right _ (List.mem_cons_of_mem _ (List.mem_append_left _ (List.mem_append_right _ h))))))))))
  have kf_15 := hts (.fieldLink RJ5 15 "java/lang/AbstractStringBuilder" "value" "[B") (List.mem_cons_of_mem _ (List.mem_append_left _ (List.mem_append_left _ (List.mem_append_left _ (List.mem_append_right _ (List.mem_cons_of_mem _ (List.mem_append_left _ (List.mem_append_right _ (zmem 1 rfl)))))))))
  have kf_79 := hts (.fieldLink RJ5 79 "java/lang/AbstractStringBuilder" "count" "I") (zmem 1 rfl)
  replace h : (zb1 (p_J6_stringSize_0f7a4 F p0) (fun r1 => (zb2 (p_J5_ensureCapacityInternal_d00df bc bf (bn + r1)) (fun bc_3 bf_4 => (zb1 (p_J5_isLatin1_aae02) (fun r7 => (if (z01 r7) = 0 then none else (zb2 (p_J6_getChars_ba4f3 F p0 (bn + r1) bc_3 bf_4) (fun r9 T0_10 => (some (bc_3, T0_10, (bn + r1)))))))))))) = some (bc', bf', bn') := h
  obtain ⟨H, hHe⟩ : ∃ H, H = s.heap := ⟨_, rfl⟩
  rw [← hHe] at hP
  replace hS : va_S A s.heap H [] := by rw [hHe]; exact hS
  refine zheap hHe ?_
  refine lv_aload_n hx hb dJ5_append_c97b9_0 rfl (lv_at hl 0 rfl) ?_
  refine va_get (D := D) (ci := 1) (v := .int bn) (C := RJ4) (T := TJ4) (N := 4) hx hb hts kwJ4 hown hK hP 0 rfl rfl 3 (by decide) kf_79 (fun _ h9 => h9) rfl dJ5_append_c97b9_1 ?_
  refine lv_istore_n (lv' := [(2, .int bn), (0, .ref sb), (1, .int p0)]) hx hb dJ5_append_c97b9_4 rfl hl (by decide) rfl (fun ls hl => ?_)
  refine lv_iload_n hx hb dJ5_append_c97b9_5 rfl (lv_at hl 0 rfl) ?_
  refine lv_iload_n hx hb dJ5_append_c97b9_6 rfl (lv_at hl 2 rfl) ?_
  obtain ⟨r1, e2, h⟩ := zb1_some h
  refine zgoi (va_runS (As := [.int p0]) (rest := [.int bn]) ⟨hx, hb, hml, hown, hts⟩ (c_J6_stringSize_0f7a4 l D (zT cJ cI cO cB) F p0 r1 e2 H.size) (va_cwS 1 hts gJ5_append_c97b9_J6_stringSize_0f7a4 rfl rfl rfl hdS_J6_stringSize_0f7a4 ⟨Nat.le_of_ble_eq_true rfl, Nat.le_of_ble_eq_true rfl⟩) (zpreS hK zP0 (zD0 (A := A)) [.int p0]) rfl rfl hl.1 rfl (lv_room (Nat.le_of_ble_eq_true rfl)) dJ5_append_c97b9_7 ⟨Nat.le_of_ble_eq_true rfl, Nat.le_of_ble_eq_true rfl⟩) (zf0 hS hA) (zjE hP hD) hS (fun H locs hP hD hS => ?_)
  refine lv_iadd hx hb dJ5_append_c97b9_10 ?_
  refine lv_istore_n (lv' := [(3, .int (bn + r1)), (2, .int bn), (0, .ref sb), (1, .int p0)]) hx hb dJ5_append_c97b9_11 rfl hl (by decide) rfl (fun ls hl => ?_)
  refine lv_aload_n hx hb dJ5_append_c97b9_12 rfl (lv_at hl 2 rfl) ?_
  refine lv_iload_n hx hb dJ5_append_c97b9_13 rfl (lv_at hl 0 rfl) ?_
  obtain ⟨bc_3, bf_4, e5, h⟩ := zb2_some h
  refine zgosv (va_runU (As := [.int (bn + r1)]) (rest := []) ⟨hx, hb, hml, hown, hts⟩ (c_J5_ensureCapacityInternal_d00df l D sb cJ cI cO cB bv bc bf bm bn (bn + r1) bc_3 bf_4 e5 H.size) (va_cwU 1 hts gJ5_append_c97b9_J5_ensureCapacityInternal_d00df_u100J4 rfl rfl rfl rfl hdU_J5_ensureCapacityInternal_d00df ⟨Nat.le_of_ble_eq_true rfl, Nat.le_of_ble_eq_true rfl⟩) (zxpreV hE hS (zfree hD hS hA) (q0 := 0) (ci := 1) (T := TJ4) (N := 4) hK hP hD rfl rfl [.int (bn + r1)]) rfl rfl hl.1 rfl (lv_room (Nat.le_of_ble_eq_true rfl)) dJ5_append_c97b9_14 ⟨Nat.le_of_ble_eq_true rfl, Nat.le_of_ble_eq_true rfl⟩) (zfree hD hS hA) (fun bv6 => (zjW hD hS hA)) hS (fun bv6 H locs hP hD hS => ?_)
  replace hP : va_P D vwCl (sW sb cB bv6 bc_3 bf_4 bm bn) H := hP
  replace hD : va_D A (sW sb cB bv6 bc_3 bf_4 bm bn) := hD
  refine lv_aload_n hx hb dJ5_append_c97b9_17 rfl (lv_at hl 2 rfl) ?_
  obtain ⟨r7, e8, h⟩ := zb1_some h
  refine zgoi (va_runU (As := []) (rest := []) ⟨hx, hb, hml, hown, hts⟩ (c_J5_isLatin1_aae02 l D sb cJ cI cO cB bv6 bc_3 bf_4 bm bn r7 e8 H.size) (va_cwU 0 hts gJ5_append_c97b9_J5_isLatin1_aae02_u83J4 rfl rfl rfl rfl hdU_J5_isLatin1_aae02 ⟨Nat.le_of_ble_eq_true rfl, Nat.le_of_ble_eq_true rfl⟩) (zxpreV hE hS (zfree hD hS hA) (q0 := 0) (ci := 1) (T := TJ4) (N := 4) hK hP hD rfl rfl []) rfl rfl hl.1 rfl (lv_room (Nat.le_of_ble_eq_true rfl)) dJ5_append_c97b9_18 ⟨Nat.le_of_ble_eq_true rfl, Nat.le_of_ble_eq_true rfl⟩) (zfree hD hS hA) (zjW hD hS hA) hS (fun H locs hP hD hS => ?_)
  replace hP : va_P D vwCl (sW sb cB bv6 bc_3 bf_4 bm bn) H := hP
  replace hD : va_D A (sW sb cB bv6 bc_3 bf_4 bm bn) := hD
  refine lv_if_eq (tgt := 37) hx hb dJ5_append_c97b9_21 (by decide) (fun c21 => ?_) (fun c21 => ?_)
  · replace h := zif_t h c21
    refine lv_iload_n hx hb dJ5_append_c97b9_37 rfl (lv_at hl 3 rfl) ?_
    refine lv_iload_n hx hb dJ5_append_c97b9_38 rfl (lv_at hl 1 rfl) ?_
    refine lv_iload_n hx hb dJ5_append_c97b9_39 rfl (lv_at hl 0 rfl) ?_
    refine lv_aload_n hx hb dJ5_append_c97b9_40 rfl (lv_at hl 2 rfl) ?_
    refine va_get (D := D) (ci := 1) (v := .ref bv6) (C := RJ4) (T := TJ4) (N := 4) hx hb hts kwJ4 hown hK hP 0 rfl rfl 0 (by decide) kf_15 (fun _ h9 => h9) rfl dJ5_append_c97b9_41 ?_
    exact (zno h).elim
  · replace h := zif_f h c21
    refine lv_iload_n hx hb dJ5_append_c97b9_24 rfl (lv_at hl 3 rfl) ?_
    refine lv_iload_n hx hb dJ5_append_c97b9_25 rfl (lv_at hl 0 rfl) ?_
    refine lv_aload_n hx hb dJ5_append_c97b9_26 rfl (lv_at hl 2 rfl) ?_
    refine va_get (D := D) (ci := 1) (v := .ref bv6) (C := RJ4) (T := TJ4) (N := 4) hx hb hts kwJ4 hown hK hP 0 rfl rfl 0 (by decide) kf_15 (fun _ h9 => h9) rfl dJ5_append_c97b9_27 ?_
    obtain ⟨r9, T0_10, e11, h⟩ := zb2_some h
    have hPc := zsub (wn := ([(bv6, .inl (cB, bc_3, .inl bf_4))] : va_W)) hP [1] rfl
    have hDc := hD.sub (ws' := ([(bv6, .inl (cB, bc_3, .inl bf_4))] : va_W)) [1] (by decide) rfl
    refine zgoi (va_runS (As := [.int p0, .int (bn + r1), .ref bv6]) (rest := []) ⟨hx, hb, hml, hown, hts⟩ (c_J6_getChars_ba4f3 l D cJ cI cO cB F p0 (bn + r1) bv6 bc_3 bf_4 r9 T0_10 e11 H.size) (va_cwS 3 hts gJ5_append_c97b9_J6_getChars_ba4f3 rfl rfl rfl hdS_J6_getChars_ba4f3 ⟨Nat.le_of_ble_eq_true rfl, Nat.le_of_ble_eq_true rfl⟩) (zxpreS hE hS (va_free hD hS hA [1] rfl) hK hPc hDc [.int p0, .int (bn + r1), .ref bv6]) rfl rfl hl.1 rfl (lv_room (Nat.le_of_ble_eq_true rfl)) dJ5_append_c97b9_30 ⟨Nat.le_of_ble_eq_true rfl, Nat.le_of_ble_eq_true rfl⟩) (va_free hD hS hA [1] rfl) (zjs (wn := (sW sb cB bv6 bc_3 T0_10 bm bn)) [0, 1] (zjF (wr := ([(sb, .inr (1, [.ref bv6, .int 0, .int (z01 bm), .int bn]))] : va_W)) hP hD hS hA [1] [0] rfl rfl (by decide) (by decide)) rfl (by decide)) hS (fun H locs hP hD hS => ?_)
    replace hP : va_P D vwCl (sW sb cB bv6 bc_3 T0_10 bm bn) H := hP
    replace hD : va_D A (sW sb cB bv6 bc_3 T0_10 bm bn) := hD
    refine lv_pop hx hb dJ5_append_c97b9_33 rfl ?_
    refine lv_goto (tgt := 48) hx hb dJ5_append_c97b9_34 (by decide) ?_
    refine lv_aload_n hx hb dJ5_append_c97b9_48 rfl (lv_at hl 2 rfl) ?_
    refine lv_iload_n hx hb dJ5_append_c97b9_49 rfl (lv_at hl 0 rfl) ?_
    refine va_put (D := D) (ci := 1) (v := .int (bn + r1)) (ty := .int) (C := RJ4) (T := TJ4) (N := 4) hx hb hts kwJ4 tyJ4 tyJ4_ok nmJ4 hown hK hP hD hS 0 rfl rfl 3 (by decide) kf_79 (fun _ h9 => h9) rfl rfl rfl rfl (Nat.le_of_ble_eq_true rfl) dJ5_append_c97b9_50 (fun H locs hP hD hS => ?_)
    replace hP : va_P D vwCl (sW sb cB bv6 bc_3 T0_10 bm (bn + r1)) H := hP
    replace hD : va_D A (sW sb cB bv6 bc_3 T0_10 bm (bn + r1)) := hD
    refine lv_aload_n hx hb dJ5_append_c97b9_53 rfl (lv_at hl 2 rfl) ?_
    have g0 := Option.some.inj h
    obtain ⟨h1, g1⟩ := Prod.mk.inj g0
    obtain ⟨h2, g2⟩ := Prod.mk.inj g1
    subst h1
    subst h2
    subst g2
    exact W.aret (v := .ref sb) hx hb hr (Or.inl ⟨_, rfl⟩) (Or.inr ⟨_, rfl⟩) (fun t ht hW => ⟨⟨bv6, sb, rfl, trivial, rfl, by rw [ht]; exact hP, va_K.moved hW.alike hK, hD⟩, hS.F ht⟩) hS.2.2 dJ5_append_c97b9_54

noncomputable def p_J5_append_66267 (F : Nat) (bc : Nat) (bf : Nat → Int32) (bn : Int32) (p0 : Int64) : Option (Nat × (Nat → Int32) × Int32) := (zb1 (p_J13_stringSize_95d88 F p0) (fun r1 => (zb2 (p_J5_ensureCapacityInternal_d00df bc bf (bn + r1)) (fun bc_3 bf_4 => (zb1 (p_J5_isLatin1_aae02) (fun r7 => (if (z01 r7) = 0 then none else (zb2 (p_J13_getChars_11360 F p0 (bn + r1) bc_3 bf_4) (fun r9 T0_10 => (some (bc_3, T0_10, (bn + r1))))))))))))
theorem hdU2_J5_append_66267 : yJ5_append_66267.name ≠ "<init>" ∧ (parseMethodDescriptor yJ5_append_66267.desc).map (fun d => d.parameters.length) = some 1 := by decide +kernel
set_option maxHeartbeats 4000000 in
set_option maxRecDepth 100000 in
theorem c_J5_append_66267 (l : Launch) (D : va_G) (sb : Nat) (cJ cI cO cB : ClassId) (bv : Nat) (bc : Nat) (bf : Nat → Int32) (bm : Bool) (bn : Int32) (F : Nat) (p0 : Int64) (bc' : Nat) (bf' : Nat → Int32) (bn' : Int32) (h : p_J5_append_66267 F bc bf bn p0 = some (bc', bf', bn')) : zGsr l yJ5_append_66267 wsJ5_append_66267 4 104 1 150 (zPx D (zT cJ cI cO cB) (sW sb cB bv bc bf bm bn)) [.ref sb, .long p0] D (zT cJ cI cO cB) (sW sb cB bv bc bf bm bn) (fun u => (sW sb cB u bc' bf' bm bn')) sb := by
  intro sz
  delta zQsr
  refine Met.ofW (cc := cJ5_append_66267) (maxL := 5) (ret := (some (.object "java/lang/AbstractStringBuilder"))) (by decide) rfl ?_
  intro p e s m args below meth c s₁ B hml hv
  obtain ⟨rfl, ⟨hsz, hP, hK, hD0⟩, hE⟩ := hv
  have hx := B.exec
  have hb := B.bytes
  have hr := B.returns
  have hts := atoms_spec (ws := wsJ5_append_66267) B.pre
  have hown : s.vm.findClass RJ5 = some m.cls := findClass_of_methodNamed B.named
  have hlocks := B.notSynchronized
  subst hsz
  have hD := hD0.self (sz := s.heap.size)
  generalize hAe : va_A (sW sb cB bv bc bf bm bn) s.heap.size = A at hD hE ⊢
  have hA : ∀ q : Nat, s.heap.size ≤ q → A q := fun q h => by rw [← hAe]; exact Or.inr h
  have hS : va_S A s.heap s.heap [] := va_S.rf
  have hl := lv_entry ([.ref sb, .long p0]) (n := 5) (Nat.le_of_ble_eq_true rfl)
  rw [lg_entry_eq]
  generalize (lg_sl ([.ref sb, .long p0]) ++ List.replicate (5 - (lg_sl ([.ref sb, .long p0])).length) Slot.unset).toArray = ls at hl ⊢
  replace hl : lv_has ls 5 [(0, .ref sb), (1, .long p0)] := hl
  have kwJ4 : ∀ w ∈ u_ws RJ4 TJ4 4, w ∈ wsJ5_append_66267 := fun w h => List.mem_cons_of_mem _ (List.mem_append_left _ (List.mem_append_left _ (List.mem_append_left _ (List.mem_append_right _ (List.mem_cons_of_mem _ (List.mem_append_left _ (List.mem_append_right _ (List.mem_cons_of_mem _ (List.mem_append_left _ (List.mem_append_right _ h))))))))))
  have kf_15 := hts (.fieldLink RJ5 15 "java/lang/AbstractStringBuilder" "value" "[B") (zmem 44 rfl)
  have kf_79 := hts (.fieldLink RJ5 79 "java/lang/AbstractStringBuilder" "count" "I") (zmem 1 rfl)
  replace h : (zb1 (p_J13_stringSize_95d88 F p0) (fun r1 => (zb2 (p_J5_ensureCapacityInternal_d00df bc bf (bn + r1)) (fun bc_3 bf_4 => (zb1 (p_J5_isLatin1_aae02) (fun r7 => (if (z01 r7) = 0 then none else (zb2 (p_J13_getChars_11360 F p0 (bn + r1) bc_3 bf_4) (fun r9 T0_10 => (some (bc_3, T0_10, (bn + r1)))))))))))) = some (bc', bf', bn') := h
  obtain ⟨H, hHe⟩ : ∃ H, H = s.heap := ⟨_, rfl⟩
  rw [← hHe] at hP
  replace hS : va_S A s.heap H [] := by rw [hHe]; exact hS
  refine zheap hHe ?_
  refine lv_aload_n hx hb dJ5_append_66267_0 rfl (lv_at hl 0 rfl) ?_
  refine va_get (D := D) (ci := 1) (v := .int bn) (C := RJ4) (T := TJ4) (N := 4) hx hb hts kwJ4 hown hK hP 0 rfl rfl 3 (by decide) kf_79 (fun _ h9 => h9) rfl dJ5_append_66267_1 ?_
  refine lv_istore_n (lv' := [(3, .int bn), (0, .ref sb), (1, .long p0)]) hx hb dJ5_append_66267_4 rfl hl (by decide) rfl (fun ls hl => ?_)
  refine lv_iload_n hx hb dJ5_append_66267_5 rfl (lv_at hl 0 rfl) ?_
  refine lv_lload_n hx hb dJ5_append_66267_6 rfl (lv_at hl 2 rfl) ?_
  obtain ⟨r1, e2, h⟩ := zb1_some h
  refine zgoi (va_runS (As := [.long p0]) (rest := [.int bn]) ⟨hx, hb, hml, hown, hts⟩ (c_J13_stringSize_95d88 l D (zT cJ cI cO cB) F p0 r1 e2 H.size) (va_cwS 1 hts gJ5_append_66267_J13_stringSize_95d88 rfl rfl rfl hdS_J13_stringSize_95d88 ⟨Nat.le_of_ble_eq_true rfl, Nat.le_of_ble_eq_true rfl⟩) (zpreS hK zP0 (zD0 (A := A)) [.long p0]) rfl rfl hl.1 rfl (lv_room (Nat.le_of_ble_eq_true rfl)) dJ5_append_66267_7 ⟨Nat.le_of_ble_eq_true rfl, Nat.le_of_ble_eq_true rfl⟩) (zf0 hS hA) (zjE hP hD) hS (fun H locs hP hD hS => ?_)
  refine lv_iadd hx hb dJ5_append_66267_10 ?_
  refine lv_istore (lv' := [(4, .int (bn + r1)), (3, .int bn), (0, .ref sb), (1, .long p0)]) hx hb dJ5_append_66267_11 hl (by decide) rfl (fun ls hl => ?_)
  refine lv_aload_n hx hb dJ5_append_66267_13 rfl (lv_at hl 2 rfl) ?_
  refine lv_iload hx hb dJ5_append_66267_14 (lv_at hl 0 rfl) ?_
  obtain ⟨bc_3, bf_4, e5, h⟩ := zb2_some h
  refine zgosv (va_runU (As := [.int (bn + r1)]) (rest := []) ⟨hx, hb, hml, hown, hts⟩ (c_J5_ensureCapacityInternal_d00df l D sb cJ cI cO cB bv bc bf bm bn (bn + r1) bc_3 bf_4 e5 H.size) (va_cwU 1 hts gJ5_append_66267_J5_ensureCapacityInternal_d00df_u100J4 rfl rfl rfl rfl hdU_J5_ensureCapacityInternal_d00df ⟨Nat.le_of_ble_eq_true rfl, Nat.le_of_ble_eq_true rfl⟩) (zxpreV hE hS (zfree hD hS hA) (q0 := 0) (ci := 1) (T := TJ4) (N := 4) hK hP hD rfl rfl [.int (bn + r1)]) rfl rfl hl.1 rfl (lv_room (Nat.le_of_ble_eq_true rfl)) dJ5_append_66267_16 ⟨Nat.le_of_ble_eq_true rfl, Nat.le_of_ble_eq_true rfl⟩) (zfree hD hS hA) (fun bv6 => (zjW hD hS hA)) hS (fun bv6 H locs hP hD hS => ?_)
  replace hP : va_P D vwCl (sW sb cB bv6 bc_3 bf_4 bm bn) H := hP
  replace hD : va_D A (sW sb cB bv6 bc_3 bf_4 bm bn) := hD
  refine lv_aload_n hx hb dJ5_append_66267_19 rfl (lv_at hl 2 rfl) ?_
  obtain ⟨r7, e8, h⟩ := zb1_some h
  refine zgoi (va_runU (As := []) (rest := []) ⟨hx, hb, hml, hown, hts⟩ (c_J5_isLatin1_aae02 l D sb cJ cI cO cB bv6 bc_3 bf_4 bm bn r7 e8 H.size) (va_cwU 0 hts gJ5_append_66267_J5_isLatin1_aae02_u83J4 rfl rfl rfl rfl hdU_J5_isLatin1_aae02 ⟨Nat.le_of_ble_eq_true rfl, Nat.le_of_ble_eq_true rfl⟩) (zxpreV hE hS (zfree hD hS hA) (q0 := 0) (ci := 1) (T := TJ4) (N := 4) hK hP hD rfl rfl []) rfl rfl hl.1 rfl (lv_room (Nat.le_of_ble_eq_true rfl)) dJ5_append_66267_20 ⟨Nat.le_of_ble_eq_true rfl, Nat.le_of_ble_eq_true rfl⟩) (zfree hD hS hA) (zjW hD hS hA) hS (fun H locs hP hD hS => ?_)
  replace hP : va_P D vwCl (sW sb cB bv6 bc_3 bf_4 bm bn) H := hP
  replace hD : va_D A (sW sb cB bv6 bc_3 bf_4 bm bn) := hD
  refine lv_if_eq (tgt := 40) hx hb dJ5_append_66267_23 (by decide) (fun c23 => ?_) (fun c23 => ?_)
  · replace h := zif_t h c23
    refine lv_lload_n hx hb dJ5_append_66267_40 rfl (lv_at hl 3 rfl) ?_
    refine lv_iload_n hx hb dJ5_append_66267_41 rfl (lv_at hl 1 rfl) ?_
    refine lv_iload hx hb dJ5_append_66267_42 (lv_at hl 0 rfl) ?_
    refine lv_aload_n hx hb dJ5_append_66267_44 rfl (lv_at hl 2 rfl) ?_
    refine va_get (D := D) (ci := 1) (v := .ref bv6) (C := RJ4) (T := TJ4) (N := 4) hx hb hts kwJ4 hown hK hP 0 rfl rfl 0 (by decide) kf_15 (fun _ h9 => h9) rfl dJ5_append_66267_45 ?_
    exact (zno h).elim
  · replace h := zif_f h c23
    refine lv_lload_n hx hb dJ5_append_66267_26 rfl (lv_at hl 3 rfl) ?_
    refine lv_iload hx hb dJ5_append_66267_27 (lv_at hl 0 rfl) ?_
    refine lv_aload_n hx hb dJ5_append_66267_29 rfl (lv_at hl 2 rfl) ?_
    refine va_get (D := D) (ci := 1) (v := .ref bv6) (C := RJ4) (T := TJ4) (N := 4) hx hb hts kwJ4 hown hK hP 0 rfl rfl 0 (by decide) kf_15 (fun _ h9 => h9) rfl dJ5_append_66267_30 ?_
    obtain ⟨r9, T0_10, e11, h⟩ := zb2_some h
    have hPc := zsub (wn := ([(bv6, .inl (cB, bc_3, .inl bf_4))] : va_W)) hP [1] rfl
    have hDc := hD.sub (ws' := ([(bv6, .inl (cB, bc_3, .inl bf_4))] : va_W)) [1] (by decide) rfl
    refine zgoi (va_runS (As := [.long p0, .int (bn + r1), .ref bv6]) (rest := []) ⟨hx, hb, hml, hown, hts⟩ (c_J13_getChars_11360 l D cJ cI cO cB F p0 (bn + r1) bv6 bc_3 bf_4 r9 T0_10 e11 H.size) (va_cwS 3 hts gJ5_append_66267_J13_getChars_11360 rfl rfl rfl hdS_J13_getChars_11360 ⟨Nat.le_of_ble_eq_true rfl, Nat.le_of_ble_eq_true rfl⟩) (zxpreS hE hS (va_free hD hS hA [1] rfl) hK hPc hDc [.long p0, .int (bn + r1), .ref bv6]) rfl rfl hl.1 rfl (lv_room (Nat.le_of_ble_eq_true rfl)) dJ5_append_66267_33 ⟨Nat.le_of_ble_eq_true rfl, Nat.le_of_ble_eq_true rfl⟩) (va_free hD hS hA [1] rfl) (zjs (wn := (sW sb cB bv6 bc_3 T0_10 bm bn)) [0, 1] (zjF (wr := ([(sb, .inr (1, [.ref bv6, .int 0, .int (z01 bm), .int bn]))] : va_W)) hP hD hS hA [1] [0] rfl rfl (by decide) (by decide)) rfl (by decide)) hS (fun H locs hP hD hS => ?_)
    replace hP : va_P D vwCl (sW sb cB bv6 bc_3 T0_10 bm bn) H := hP
    replace hD : va_D A (sW sb cB bv6 bc_3 T0_10 bm bn) := hD
    refine lv_pop hx hb dJ5_append_66267_36 rfl ?_
    refine lv_goto (tgt := 52) hx hb dJ5_append_66267_37 (by decide) ?_
    refine lv_aload_n hx hb dJ5_append_66267_52 rfl (lv_at hl 2 rfl) ?_
    refine lv_iload hx hb dJ5_append_66267_53 (lv_at hl 0 rfl) ?_
    refine va_put (D := D) (ci := 1) (v := .int (bn + r1)) (ty := .int) (C := RJ4) (T := TJ4) (N := 4) hx hb hts kwJ4 tyJ4 tyJ4_ok nmJ4 hown hK hP hD hS 0 rfl rfl 3 (by decide) kf_79 (fun _ h9 => h9) rfl rfl rfl rfl (Nat.le_of_ble_eq_true rfl) dJ5_append_66267_55 (fun H locs hP hD hS => ?_)
    replace hP : va_P D vwCl (sW sb cB bv6 bc_3 T0_10 bm (bn + r1)) H := hP
    replace hD : va_D A (sW sb cB bv6 bc_3 T0_10 bm (bn + r1)) := hD
    refine lv_aload_n hx hb dJ5_append_66267_58 rfl (lv_at hl 2 rfl) ?_
    have g0 := Option.some.inj h
    obtain ⟨h1, g1⟩ := Prod.mk.inj g0
    obtain ⟨h2, g2⟩ := Prod.mk.inj g1
    subst h1
    subst h2
    subst g2
    exact W.aret (v := .ref sb) hx hb hr (Or.inl ⟨_, rfl⟩) (Or.inr ⟨_, rfl⟩) (fun t ht hW => ⟨⟨bv6, sb, rfl, trivial, rfl, by rw [ht]; exact hP, va_K.moved hW.alike hK, hD⟩, hS.F ht⟩) hS.2.2 dJ5_append_66267_59

noncomputable def p_J5_append_cf1ce (bc : Nat) (bf : Nat → Int32) (bn : Int32) (sn : Nat) (sf : Nat → Int32) : Option (Nat × (Nat → Int32) × Int32) := (zb1 (p_J0_length_8abf5 sn sf) (fun r1 => (zb2 (p_J5_ensureCapacityInternal_d00df bc bf (bn + r1)) (fun bc_3 bf_4 => (zb1 (p_J5_putStringAt_47b60 bc_3 bf_4 bn sn sf) (fun bf_7 => (some (bc_3, bf_7, (bn + r1)))))))))
theorem hdU2_J5_append_cf1ce : yJ5_append_cf1ce.name ≠ "<init>" ∧ (parseMethodDescriptor yJ5_append_cf1ce.desc).map (fun d => d.parameters.length) = some 1 := by decide +kernel
set_option maxHeartbeats 4000000 in
set_option maxRecDepth 100000 in
theorem c_J5_append_cf1ce (l : Launch) (D : va_G) (sb : Nat) (cJ cI cO cB : ClassId) (bv : Nat) (bc : Nat) (bf : Nat → Int32) (bm : Bool) (bn : Int32) (st : Nat) (sn : Nat) (sf : Nat → Int32) (bc' : Nat) (bf' : Nat → Int32) (bn' : Int32) (h : p_J5_append_cf1ce bc bf bn sn sf = some (bc', bf', bn')) : zGsr l yJ5_append_cf1ce wsJ5_append_cf1ce 4 105 1 150 (fun sz => zPs D (zT cJ cI cO cB) (sW sb cB bv bc bf bm bn) sz st sn sf) [.ref sb, .ref st] D (zT cJ cI cO cB) (sW sb cB bv bc bf bm bn) (fun u => (sW sb cB u bc' bf' bm bn')) sb := by
  intro sz
  delta zQsr
  refine Met.ofW (cc := cJ5_append_cf1ce) (maxL := 3) (ret := (some (.object "java/lang/AbstractStringBuilder"))) (by decide) rfl ?_
  intro p e s m args below meth c s₁ B hml hv
  obtain ⟨rfl, ⟨⟨hsz, hP, hK, hD0⟩, hE⟩, hSt⟩ := hv
  have hx := B.exec
  have hb := B.bytes
  have hr := B.returns
  have hts := atoms_spec (ws := wsJ5_append_cf1ce) B.pre
  have hown : s.vm.findClass RJ5 = some m.cls := findClass_of_methodNamed B.named
  have hlocks := B.notSynchronized
  subst hsz
  have hD := hD0.self (sz := s.heap.size)
  generalize hAe : va_A (sW sb cB bv bc bf bm bn) s.heap.size = A at hD hE hSt ⊢
  have hA : ∀ q : Nat, s.heap.size ≤ q → A q := fun q h => by rw [← hAe]; exact Or.inr h
  have hS : va_S A s.heap s.heap [] := va_S.rf
  have hl := lv_entry ([.ref sb, .ref st]) (n := 3) (Nat.le_of_ble_eq_true rfl)
  rw [lg_entry_eq]
  generalize (lg_sl ([.ref sb, .ref st]) ++ List.replicate (3 - (lg_sl ([.ref sb, .ref st])).length) Slot.unset).toArray = ls at hl ⊢
  replace hl : lv_has ls 3 [(0, .ref sb), (1, .ref st)] := hl
  obtain ⟨sv_st, hst_st⟩ := hSt
  have kwJ4 : ∀ w ∈ u_ws RJ4 TJ4 4, w ∈ wsJ5_append_cf1ce := fun w h => List.mem_cons_of_mem _ (List.mem_append_left _ (List.mem_append_left _ (List.mem_append_left _ (List.mem_append_right _ (List.mem_cons_of_mem _ (List.mem_append_left _ (List.mem_append_left _ (List.mem_append_right _ (List.mem_cons_of_mem _ (List.mem_append_left _ (List.mem_append_right _ (List.mem_cons_of_mem _ (List.mem_append_left _ (List.mem_append_right _ h))))))))))))))
  have kf_79 := hts (.fieldLink RJ5 79 "java/lang/AbstractStringBuilder" "count" "I") (zmem 30 rfl)
  replace h : (zb1 (p_J0_length_8abf5 sn sf) (fun r1 => (zb2 (p_J5_ensureCapacityInternal_d00df bc bf (bn + r1)) (fun bc_3 bf_4 => (zb1 (p_J5_putStringAt_47b60 bc_3 bf_4 bn sn sf) (fun bf_7 => (some (bc_3, bf_7, (bn + r1))))))))) = some (bc', bf', bn') := h
  obtain ⟨H, hHe⟩ : ∃ H, H = s.heap := ⟨_, rfl⟩
  rw [← hHe] at hP
  replace hS : va_S A s.heap H [] := by rw [hHe]; exact hS
  refine zheap hHe ?_
  refine lv_aload_n hx hb dJ5_append_cf1ce_0 rfl (lv_at hl 1 rfl) ?_
  refine lv_ifnonnull (tgt := 9) hx hb dJ5_append_cf1ce_1 (by decide) ?_
  refine lv_aload_n hx hb dJ5_append_cf1ce_9 rfl (lv_at hl 1 rfl) ?_
  obtain ⟨r1, e2, h⟩ := zb1_some h
  refine zgoi (va_runV (As := []) (rest := []) ⟨hx, hb, hml, hown, hts⟩ (c_J0_length_8abf5 l D cJ cI cO cB st sn sf r1 e2 H.size) (cwV 0 hts gJ5_append_cf1ce_J0_length_8abf5 rfl rfl rfl hdV_J0_length_8abf5 ⟨Nat.le_of_ble_eq_true rfl, Nat.le_of_ble_eq_true rfl⟩) (zspreT hE (zSt.here hst_st hS (zf0 hS hA)) hS (zf0 hS hA) hK zP0 (zD0 (A := A)) []) rfl rfl hl.1 rfl (lv_room (Nat.le_of_ble_eq_true rfl)) dJ5_append_cf1ce_10 ⟨Nat.le_of_ble_eq_true rfl, Nat.le_of_ble_eq_true rfl⟩) (zf0 hS hA) (zjE hP hD) hS (fun H locs hP hD hS => ?_)
  refine lv_istore_n (lv' := [(2, .int r1), (0, .ref sb), (1, .ref st)]) hx hb dJ5_append_cf1ce_13 rfl hl (by decide) rfl (fun ls hl => ?_)
  refine lv_aload_n hx hb dJ5_append_cf1ce_14 rfl (lv_at hl 1 rfl) ?_
  refine lv_aload_n hx hb dJ5_append_cf1ce_15 rfl (lv_at hl 1 rfl) ?_
  refine va_get (D := D) (ci := 1) (v := .int bn) (C := RJ4) (T := TJ4) (N := 4) hx hb hts kwJ4 hown hK hP 0 rfl rfl 3 (by decide) kf_79 (fun _ h9 => h9) rfl dJ5_append_cf1ce_16 ?_
  refine lv_iload_n hx hb dJ5_append_cf1ce_19 rfl (lv_at hl 0 rfl) ?_
  refine lv_iadd hx hb dJ5_append_cf1ce_20 ?_
  obtain ⟨bc_3, bf_4, e5, h⟩ := zb2_some h
  refine zgosv (va_runU (As := [.int (bn + r1)]) (rest := []) ⟨hx, hb, hml, hown, hts⟩ (c_J5_ensureCapacityInternal_d00df l D sb cJ cI cO cB bv bc bf bm bn (bn + r1) bc_3 bf_4 e5 H.size) (va_cwU 1 hts gJ5_append_cf1ce_J5_ensureCapacityInternal_d00df_u100J4 rfl rfl rfl rfl hdU_J5_ensureCapacityInternal_d00df ⟨Nat.le_of_ble_eq_true rfl, Nat.le_of_ble_eq_true rfl⟩) (zxpreV hE hS (zfree hD hS hA) (q0 := 0) (ci := 1) (T := TJ4) (N := 4) hK hP hD rfl rfl [.int (bn + r1)]) rfl rfl hl.1 rfl (lv_room (Nat.le_of_ble_eq_true rfl)) dJ5_append_cf1ce_21 ⟨Nat.le_of_ble_eq_true rfl, Nat.le_of_ble_eq_true rfl⟩) (zfree hD hS hA) (fun bv6 => (zjW hD hS hA)) hS (fun bv6 H locs hP hD hS => ?_)
  replace hP : va_P D vwCl (sW sb cB bv6 bc_3 bf_4 bm bn) H := hP
  replace hD : va_D A (sW sb cB bv6 bc_3 bf_4 bm bn) := hD
  refine lv_aload_n hx hb dJ5_append_cf1ce_24 rfl (lv_at hl 1 rfl) ?_
  refine lv_aload_n hx hb dJ5_append_cf1ce_25 rfl (lv_at hl 1 rfl) ?_
  refine va_get (D := D) (ci := 1) (v := .int bn) (C := RJ4) (T := TJ4) (N := 4) hx hb hts kwJ4 hown hK hP 0 rfl rfl 3 (by decide) kf_79 (fun _ h9 => h9) rfl dJ5_append_cf1ce_26 ?_
  refine lv_aload_n hx hb dJ5_append_cf1ce_29 rfl (lv_at hl 2 rfl) ?_
  obtain ⟨bf_7, e8, h⟩ := zb1_some h
  refine zgosv (va_runU (As := [.int bn, .ref st]) (rest := []) ⟨hx, hb, hml, hown, hts⟩ (c_J5_putStringAt_47b60 l D sb cJ cI cO cB bv6 bc_3 bf_4 bm bn bn st sn sf bf_7 e8 H.size) (va_cwU 2 hts gJ5_append_cf1ce_J5_putStringAt_47b60_u208J4 rfl rfl rfl rfl hdU_J5_putStringAt_47b60 ⟨Nat.le_of_ble_eq_true rfl, Nat.le_of_ble_eq_true rfl⟩) (zspreV hE (zSt.here hst_st hS (zfree hD hS hA)) hS (zfree hD hS hA) (q0 := 0) (ci := 1) (T := TJ4) (N := 4) hK hP hD rfl rfl [.int bn, .ref st]) rfl rfl hl.1 rfl (lv_room (Nat.le_of_ble_eq_true rfl)) dJ5_append_cf1ce_30 ⟨Nat.le_of_ble_eq_true rfl, Nat.le_of_ble_eq_true rfl⟩) (zfree hD hS hA) (fun bv9 => (zjW hD hS hA)) hS (fun bv9 H locs hP hD hS => ?_)
  replace hP : va_P D vwCl (sW sb cB bv9 bc_3 bf_7 bm bn) H := hP
  replace hD : va_D A (sW sb cB bv9 bc_3 bf_7 bm bn) := hD
  refine lv_aload_n hx hb dJ5_append_cf1ce_33 rfl (lv_at hl 1 rfl) ?_
  refine lv_dup hx hb dJ5_append_cf1ce_34 rfl ?_
  refine va_get (D := D) (ci := 1) (v := .int bn) (C := RJ4) (T := TJ4) (N := 4) hx hb hts kwJ4 hown hK hP 0 rfl rfl 3 (by decide) kf_79 (fun _ h9 => h9) rfl dJ5_append_cf1ce_35 ?_
  refine lv_iload_n hx hb dJ5_append_cf1ce_38 rfl (lv_at hl 0 rfl) ?_
  refine lv_iadd hx hb dJ5_append_cf1ce_39 ?_
  refine va_put (D := D) (ci := 1) (v := .int (bn + r1)) (ty := .int) (C := RJ4) (T := TJ4) (N := 4) hx hb hts kwJ4 tyJ4 tyJ4_ok nmJ4 hown hK hP hD hS 0 rfl rfl 3 (by decide) kf_79 (fun _ h9 => h9) rfl rfl rfl rfl (Nat.le_of_ble_eq_true rfl) dJ5_append_cf1ce_40 (fun H locs hP hD hS => ?_)
  replace hP : va_P D vwCl (sW sb cB bv9 bc_3 bf_7 bm (bn + r1)) H := hP
  replace hD : va_D A (sW sb cB bv9 bc_3 bf_7 bm (bn + r1)) := hD
  refine lv_aload_n hx hb dJ5_append_cf1ce_43 rfl (lv_at hl 1 rfl) ?_
  have g0 := Option.some.inj h
  obtain ⟨h1, g1⟩ := Prod.mk.inj g0
  obtain ⟨h2, g2⟩ := Prod.mk.inj g1
  subst h1
  subst h2
  subst g2
  exact W.aret (v := .ref sb) hx hb hr (Or.inl ⟨_, rfl⟩) (Or.inr ⟨_, rfl⟩) (fun t ht hW => ⟨⟨bv9, sb, rfl, trivial, rfl, by rw [ht]; exact hP, va_K.moved hW.alike hK, hD⟩, hS.F ht⟩) hS.2.2 dJ5_append_cf1ce_44

noncomputable def p_J5_reverse_278bc_L0 (F : Nat) (bc : Nat) (bn : Int32) (k : Int32 → (Nat → Int32) → Option ((Nat → Int32))) : Nat → Int32 → (Nat → Int32) → Option ((Nat → Int32))
  | 0, _, _ => none
  | n + 1, v4_0, bfL0 => (if v4_0 < 0 then (k v4_0 bfL0) else (zg (v4_0 < 0 ∨ bc ≤ v4_0.toNatClampNeg) (zg (((bn - (1 : Int32)) - v4_0) < 0 ∨ bc ≤ ((bn - (1 : Int32)) - v4_0).toNatClampNeg) (zg (v4_0 < 0 ∨ bc ≤ v4_0.toNatClampNeg) (zg (((bn - (1 : Int32)) - v4_0) < 0 ∨ bc ≤ ((bn - (1 : Int32)) - v4_0).toNatClampNeg) (p_J5_reverse_278bc_L0 F bc bn k n (v4_0 + (-1 : Int32)) (upd (upd bfL0 v4_0.toNatClampNeg (vp_nar .byte (bfL0 ((bn - (1 : Int32)) - v4_0).toNatClampNeg))) ((bn - (1 : Int32)) - v4_0).toNatClampNeg (vp_nar .byte (bfL0 v4_0.toNatClampNeg)))))))))
noncomputable def p_J5_reverse_278bc (F : Nat) (bc : Nat) (bf : Nat → Int32) (bn : Int32) : Option ((Nat → Int32)) := (zb1 (p_J5_isLatin1_aae02) (fun r1 => (if (z01 r1) = 0 then none else (p_J5_reverse_278bc_L0 F bc bn (fun v4_0 bfL0 => (some bfL0)) F (((bn - (1 : Int32)) - (1 : Int32)) >>> ((1 : Int32) &&& 31)) bf))))
theorem hdU2_J5_reverse_278bc : yJ5_reverse_278bc.name ≠ "<init>" ∧ (parseMethodDescriptor yJ5_reverse_278bc.desc).map (fun d => d.parameters.length) = some 0 := by decide +kernel
set_option maxHeartbeats 4000000 in
set_option maxRecDepth 100000 in
theorem c_J5_reverse_278bc (l : Launch) (D : va_G) (sb : Nat) (cJ cI cO cB : ClassId) (bv : Nat) (bc : Nat) (bf : Nat → Int32) (bm : Bool) (bn : Int32) (F : Nat) (bf' : Nat → Int32) (h : p_J5_reverse_278bc F bc bf bn = some bf') : zGsr l yJ5_reverse_278bc wsJ5_reverse_278bc 1 20 0 0 (zPx D (zT cJ cI cO cB) (sW sb cB bv bc bf bm bn)) [.ref sb] D (zT cJ cI cO cB) (sW sb cB bv bc bf bm bn) (fun u => (sW sb cB u bc bf' bm bn)) sb := by
  intro sz
  delta zQsr
  refine Met.ofW (cc := cJ5_reverse_278bc) (maxL := 7) (ret := (some (.object "java/lang/AbstractStringBuilder"))) (by decide) rfl ?_
  intro p e s m args below meth c s₁ B hml hv
  obtain ⟨rfl, ⟨hsz, hP, hK, hD0⟩, hE⟩ := hv
  have hx := B.exec
  have hb := B.bytes
  have hr := B.returns
  have hts := atoms_spec (ws := wsJ5_reverse_278bc) B.pre
  have hown : s.vm.findClass RJ5 = some m.cls := findClass_of_methodNamed B.named
  have hlocks := B.notSynchronized
  subst hsz
  have hD := hD0.self (sz := s.heap.size)
  generalize hAe : va_A (sW sb cB bv bc bf bm bn) s.heap.size = A at hD hE ⊢
  have hA : ∀ q : Nat, s.heap.size ≤ q → A q := fun q h => by rw [← hAe]; exact Or.inr h
  have hS : va_S A s.heap s.heap [] := va_S.rf
  have hl := lv_entry ([.ref sb]) (n := 7) (Nat.le_of_ble_eq_true rfl)
  rw [lg_entry_eq]
  generalize (lg_sl ([.ref sb]) ++ List.replicate (7 - (lg_sl ([.ref sb])).length) Slot.unset).toArray = ls at hl ⊢
  replace hl : lv_has ls 7 [(0, .ref sb)] := hl
  have kwJ4 : ∀ w ∈ u_ws RJ4 TJ4 4, w ∈ wsJ5_reverse_278bc := fun w h => List.mem_cons_of_mem _ (List.mem_append_left _ (List.mem_append_right _ (List.mem_cons_of_mem _ (List.mem_append_right _ h))))
  have kf_79 := hts (.fieldLink RJ5 79 "java/lang/AbstractStringBuilder" "count" "I") (zmem 2 rfl)
  have kf_15 := hts (.fieldLink RJ5 15 "java/lang/AbstractStringBuilder" "value" "[B") (zmem 1 rfl)
  replace h : (zb1 (p_J5_isLatin1_aae02) (fun r1 => (if (z01 r1) = 0 then none else (p_J5_reverse_278bc_L0 F bc bn (fun v4_0 bfL0 => (some bfL0)) F (((bn - (1 : Int32)) - (1 : Int32)) >>> ((1 : Int32) &&& 31)) bf)))) = some bf' := h
  refine zabs (fun G hG hGW => ?_)
  obtain ⟨H, hHe⟩ : ∃ H, H = s.heap := ⟨_, rfl⟩
  rw [← hHe] at hP
  replace hS : va_S A s.heap H [] := by rw [hHe]; exact hS
  refine zheap hHe ?_
  refine lv_aload_n hx hb dJ5_reverse_278bc_0 rfl (lv_at hl 0 rfl) ?_
  refine va_get (D := D) (ci := 1) (v := .ref bv) (C := RJ4) (T := TJ4) (N := 4) hx hb hts kwJ4 hown hK hP 0 rfl rfl 0 (by decide) kf_15 (fun _ h9 => h9) rfl dJ5_reverse_278bc_1 ?_
  refine lv_astore_n (lv' := [(1, .ref bv), (0, .ref sb)]) hx hb dJ5_reverse_278bc_4 rfl hl (by decide) rfl (fun ls hl => ?_)
  refine lv_aload_n hx hb dJ5_reverse_278bc_5 rfl (lv_at hl 1 rfl) ?_
  refine va_get (D := D) (ci := 1) (v := .int bn) (C := RJ4) (T := TJ4) (N := 4) hx hb hts kwJ4 hown hK hP 0 rfl rfl 3 (by decide) kf_79 (fun _ h9 => h9) rfl dJ5_reverse_278bc_6 ?_
  refine lv_istore_n (lv' := [(2, .int bn), (1, .ref bv), (0, .ref sb)]) hx hb dJ5_reverse_278bc_9 rfl hl (by decide) rfl (fun ls hl => ?_)
  refine lv_iload_n hx hb dJ5_reverse_278bc_10 rfl (lv_at hl 0 rfl) ?_
  refine lv_iconst (v := (1 : Int32)) hx hb dJ5_reverse_278bc_11 (by decide) ?_
  refine lv_isub hx hb dJ5_reverse_278bc_12 ?_
  refine lv_istore_n (lv' := [(3, .int (bn - (1 : Int32))), (2, .int bn), (1, .ref bv), (0, .ref sb)]) hx hb dJ5_reverse_278bc_13 rfl hl (by decide) rfl (fun ls hl => ?_)
  refine lv_aload_n hx hb dJ5_reverse_278bc_14 rfl (lv_at hl 3 rfl) ?_
  obtain ⟨r1, e2, h⟩ := zb1_some h
  refine zgoi (va_runU (As := []) (rest := []) ⟨hx, hb, hml, hown, hts⟩ (c_J5_isLatin1_aae02 l D sb cJ cI cO cB bv bc bf bm bn r1 e2 H.size) (va_cwU 0 hts gJ5_reverse_278bc_J5_isLatin1_aae02_u83J4 rfl rfl rfl rfl hdU_J5_isLatin1_aae02 ⟨Nat.le_of_ble_eq_true rfl, Nat.le_of_ble_eq_true rfl⟩) (zxpreV hE hS (zfree hD hS hA) (q0 := 0) (ci := 1) (T := TJ4) (N := 4) hK hP hD rfl rfl []) rfl rfl hl.1 rfl (lv_room (Nat.le_of_ble_eq_true rfl)) dJ5_reverse_278bc_15 ⟨Nat.le_of_ble_eq_true rfl, Nat.le_of_ble_eq_true rfl⟩) (zfree hD hS hA) (zjW hD hS hA) hS (fun H locs hP hD hS => ?_)
  replace hP : va_P D vwCl (sW sb cB bv bc bf bm bn) H := hP
  replace hD : va_D A (sW sb cB bv bc bf bm bn) := hD
  refine lv_if_eq (tgt := 68) hx hb dJ5_reverse_278bc_18 (by decide) (fun c18 => ?_) (fun c18 => ?_)
  · replace h := zif_t h c18
    refine lv_aload_n hx hb dJ5_reverse_278bc_68 rfl (lv_at hl 2 rfl) ?_
    refine lv_iload_n hx hb dJ5_reverse_278bc_69 rfl (lv_at hl 1 rfl) ?_
    exact (zno h).elim
  · replace h := zif_f h c18
    refine lv_iload_n hx hb dJ5_reverse_278bc_21 rfl (lv_at hl 0 rfl) ?_
    refine lv_iconst (v := (1 : Int32)) hx hb dJ5_reverse_278bc_22 (by decide) ?_
    refine lv_isub hx hb dJ5_reverse_278bc_23 ?_
    refine lv_iconst (v := (1 : Int32)) hx hb dJ5_reverse_278bc_24 (by decide) ?_
    refine lv_ishr hx hb dJ5_reverse_278bc_25 ?_
    refine lv_istore (lv' := [(4, .int (((bn - (1 : Int32)) - (1 : Int32)) >>> ((1 : Int32) &&& 31))), (3, .int (bn - (1 : Int32))), (2, .int bn), (1, .ref bv), (0, .ref sb)]) hx hb dJ5_reverse_278bc_26 hl (by decide) rfl (fun ls hl => ?_)
    have X0 : ∀ (v4_0 : Int32) (bfL0 : Nat → Int32) (H : Heap) (locs : List Loc) (ls : Array Slot), va_P D vwCl (sW sb cB bv bc bfL0 bm bn) H → va_D A (sW sb cB bv bc bfL0 bm bn) → va_S A s.heap H locs → lv_has ls 7 [(0, .ref sb), (1, .ref bv), (2, .int bn), (3, .int (bn - (1 : Int32))), (4, .int v4_0)] → (some bfL0) = some bf' → G H locs 0 0 (F0 m 65 ls []) := by
      intro v4_0 bfL0 H locs ls hP hD hS hl h
      refine hG _ _ _ _ _ ?_
      refine lv_goto (tgt := 73) hx hb dJ5_reverse_278bc_65 (by decide) ?_
      refine lv_aload_n hx hb dJ5_reverse_278bc_73 rfl (lv_at hl 0 rfl) ?_
      have h1 := Option.some.inj h
      subst h1
      exact W.aret (v := .ref sb) hx hb hr (Or.inl ⟨_, rfl⟩) (Or.inr ⟨_, rfl⟩) (fun t ht hW => ⟨⟨bv, sb, rfl, trivial, rfl, by rw [ht]; exact hP, va_K.moved hW.alike hK, hD⟩, hS.F ht⟩) hS.2.2 dJ5_reverse_278bc_74
    have L0 : ∀ (K0 : Int32 → (Nat → Int32) → Option ((Nat → Int32))) (HX0 : ∀ (v4_0 : Int32) (bfL0 : Nat → Int32) (H : Heap) (locs : List Loc) (ls : Array Slot), va_P D vwCl (sW sb cB bv bc bfL0 bm bn) H → va_D A (sW sb cB bv bc bfL0 bm bn) → va_S A s.heap H locs → lv_has ls 7 [(0, .ref sb), (1, .ref bv), (2, .int bn), (3, .int (bn - (1 : Int32))), (4, .int v4_0)] → K0 v4_0 bfL0 = some bf' → G H locs 0 0 (F0 m 65 ls [])) (fu0 : Nat) (v4_0 : Int32) (bfL0 : Nat → Int32) (H : Heap) (locs : List Loc) (ls : Array Slot), va_P D vwCl (sW sb cB bv bc bfL0 bm bn) H → va_D A (sW sb cB bv bc bfL0 bm bn) → va_S A s.heap H locs → lv_has ls 7 [(0, .ref sb), (1, .ref bv), (2, .int bn), (3, .int (bn - (1 : Int32))), (4, .int v4_0)] → p_J5_reverse_278bc_L0 F bc bn K0 fu0 v4_0 bfL0 = some bf' → G H locs 0 0 (F0 m 28 ls []) := by
      intro K0 HX0 fu0
      induction fu0 with
      | zero =>
        intro v4_0 bfL0 H locs ls hP hD hS hl h
        exact (zno h).elim
      | succ fu0 ih0 =>
        intro v4_0 bfL0 H locs ls hP hD hS hl h
        refine hG _ _ _ _ _ ?_
        unfold p_J5_reverse_278bc_L0 at h
        refine lv_iload hx hb dJ5_reverse_278bc_28 (lv_at hl 4 rfl) ?_
        refine lv_if_lt (tgt := 65) hx hb dJ5_reverse_278bc_30 (by decide) (fun c30 => ?_) (fun c30 => ?_)
        · replace h := zif_t h c30
          exact hGW _ _ _ _ _ (HX0 v4_0 bfL0 _ _ ls hP hD hS (lv_sub hl [0, 1, 2, 3, 4] rfl) h)
        · replace h := zif_f h c30
          refine lv_iload_n hx hb dJ5_reverse_278bc_33 rfl (lv_at hl 3 rfl) ?_
          refine lv_iload hx hb dJ5_reverse_278bc_34 (lv_at hl 4 rfl) ?_
          refine lv_isub hx hb dJ5_reverse_278bc_36 ?_
          refine lv_istore (lv' := [(5, .int ((bn - (1 : Int32)) - v4_0)), (0, .ref sb), (1, .ref bv), (2, .int bn), (3, .int (bn - (1 : Int32))), (4, .int v4_0)]) hx hb dJ5_reverse_278bc_37 hl (by decide) rfl (fun ls hl => ?_)
          refine lv_aload_n hx hb dJ5_reverse_278bc_39 rfl (lv_at hl 2 rfl) ?_
          refine lv_iload hx hb dJ5_reverse_278bc_40 (lv_at hl 5 rfl) ?_
          obtain ⟨z42, h⟩ := zg_some h
          refine va_bald hx hb hK hP 1 3 rfl rfl z42 dJ5_reverse_278bc_42 ?_
          refine lv_istore (lv' := [(6, .int (bfL0 v4_0.toNatClampNeg)), (5, .int ((bn - (1 : Int32)) - v4_0)), (0, .ref sb), (1, .ref bv), (2, .int bn), (3, .int (bn - (1 : Int32))), (4, .int v4_0)]) hx hb dJ5_reverse_278bc_43 hl (by decide) rfl (fun ls hl => ?_)
          refine lv_aload_n hx hb dJ5_reverse_278bc_45 rfl (lv_at hl 3 rfl) ?_
          refine lv_iload hx hb dJ5_reverse_278bc_46 (lv_at hl 6 rfl) ?_
          refine lv_aload_n hx hb dJ5_reverse_278bc_48 rfl (lv_at hl 3 rfl) ?_
          refine lv_iload hx hb dJ5_reverse_278bc_49 (lv_at hl 1 rfl) ?_
          obtain ⟨z51, h⟩ := zg_some h
          refine va_bald hx hb hK hP 1 3 rfl rfl z51 dJ5_reverse_278bc_51 ?_
          obtain ⟨z52, h⟩ := zg_some h
          refine va_bast hx hb hK hP hD hS 1 3 rfl rfl z52 dJ5_reverse_278bc_52 (fun H locs hP hD hS => ?_)
          replace hP : va_P D vwCl (sW sb cB bv bc (upd bfL0 v4_0.toNatClampNeg (vp_nar .byte (bfL0 ((bn - (1 : Int32)) - v4_0).toNatClampNeg))) bm bn) H := hP
          replace hD : va_D A (sW sb cB bv bc (upd bfL0 v4_0.toNatClampNeg (vp_nar .byte (bfL0 ((bn - (1 : Int32)) - v4_0).toNatClampNeg))) bm bn) := hD
          refine lv_aload_n hx hb dJ5_reverse_278bc_53 rfl (lv_at hl 3 rfl) ?_
          refine lv_iload hx hb dJ5_reverse_278bc_54 (lv_at hl 1 rfl) ?_
          refine lv_iload hx hb dJ5_reverse_278bc_56 (lv_at hl 0 rfl) ?_
          obtain ⟨z58, h⟩ := zg_some h
          refine va_bast hx hb hK hP hD hS 1 3 rfl rfl z58 dJ5_reverse_278bc_58 (fun H locs hP hD hS => ?_)
          replace hP : va_P D vwCl (sW sb cB bv bc (upd (upd bfL0 v4_0.toNatClampNeg (vp_nar .byte (bfL0 ((bn - (1 : Int32)) - v4_0).toNatClampNeg))) ((bn - (1 : Int32)) - v4_0).toNatClampNeg (vp_nar .byte (bfL0 v4_0.toNatClampNeg))) bm bn) H := hP
          replace hD : va_D A (sW sb cB bv bc (upd (upd bfL0 v4_0.toNatClampNeg (vp_nar .byte (bfL0 ((bn - (1 : Int32)) - v4_0).toNatClampNeg))) ((bn - (1 : Int32)) - v4_0).toNatClampNeg (vp_nar .byte (bfL0 v4_0.toNatClampNeg))) bm bn) := hD
          refine lv_iinc (v := (v4_0 + (-1 : Int32))) (lv' := [(4, .int (v4_0 + (-1 : Int32))), (6, .int (bfL0 v4_0.toNatClampNeg)), (5, .int ((bn - (1 : Int32)) - v4_0)), (0, .ref sb), (1, .ref bv), (2, .int bn), (3, .int (bn - (1 : Int32)))]) hx hb dJ5_reverse_278bc_59 hl (k := 6) rfl rfl (by decide) rfl (fun ls hl => ?_)
          refine lv_goto (tgt := 28) hx hb dJ5_reverse_278bc_62 (by decide) ?_
          exact hGW _ _ _ _ _ (ih0 (v4_0 + (-1 : Int32)) (upd (upd bfL0 v4_0.toNatClampNeg (vp_nar .byte (bfL0 ((bn - (1 : Int32)) - v4_0).toNatClampNeg))) ((bn - (1 : Int32)) - v4_0).toNatClampNeg (vp_nar .byte (bfL0 v4_0.toNatClampNeg))) _ _ ls hP hD hS (lv_sub hl [3, 4, 5, 6, 0] rfl) h)
    exact hGW _ _ _ _ _ (L0 _ X0 F (((bn - (1 : Int32)) - (1 : Int32)) >>> ((1 : Int32) &&& 31)) bf _ _ ls hP hD hS (lv_sub hl [4, 3, 2, 1, 0] rfl) h)

noncomputable def p_J4_append_15ec4 (bc : Nat) (bf : Nat → Int32) (bn : Int32) (sn : Nat) (sf : Nat → Int32) : Option (Nat × (Nat → Int32) × Int32) := (zb3 (p_J5_append_cf1ce bc bf bn sn sf) (fun bc_1 bf_2 bn_3 => (some (bc_1, bf_2, bn_3))))
theorem hdV_J4_append_15ec4 : yJ4_append_15ec4.cls = RJ4 ∧ yJ4_append_15ec4.cls ≠ "java/lang/invoke/MethodHandle" ∧ yJ4_append_15ec4.cls ≠ "java/lang/invoke/VarHandle" ∧ (parseMethodDescriptor yJ4_append_15ec4.desc).map (fun d => d.parameters.length) = some 1 := by decide +kernel
set_option maxHeartbeats 4000000 in
set_option maxRecDepth 100000 in
theorem c_J4_append_15ec4 (l : Launch) (D : va_G) (sb : Nat) (cJ cI cO cB : ClassId) (bv : Nat) (bc : Nat) (bf : Nat → Int32) (bm : Bool) (bn : Int32) (st : Nat) (sn : Nat) (sf : Nat → Int32) (bc' : Nat) (bf' : Nat → Int32) (bn' : Int32) (h : p_J4_append_15ec4 bc bf bn sn sf = some (bc', bf', bn')) : zGsr l yJ4_append_15ec4 wsJ4_append_15ec4 5 127 1 150 (fun sz => zPs D (zT cJ cI cO cB) (sW sb cB bv bc bf bm bn) sz st sn sf) [.ref sb, .ref st] D (zT cJ cI cO cB) (sW sb cB bv bc bf bm bn) (fun u => (sW sb cB u bc' bf' bm bn')) sb := by
  intro sz
  delta zQsr
  refine Met.ofW (cc := cJ4_append_15ec4) (maxL := 2) (ret := (some (.object "java/lang/StringBuilder"))) (by decide) rfl ?_
  intro p e s m args below meth c s₁ B hml hv
  obtain ⟨rfl, ⟨⟨hsz, hP, hK, hD0⟩, hE⟩, hSt⟩ := hv
  have hx := B.exec
  have hb := B.bytes
  have hr := B.returns
  have hts := atoms_spec (ws := wsJ4_append_15ec4) B.pre
  have hown : s.vm.findClass RJ4 = some m.cls := findClass_of_methodNamed B.named
  have hlocks := B.notSynchronized
  subst hsz
  have hD := hD0.self (sz := s.heap.size)
  generalize hAe : va_A (sW sb cB bv bc bf bm bn) s.heap.size = A at hD hE hSt ⊢
  have hA : ∀ q : Nat, s.heap.size ≤ q → A q := fun q h => by rw [← hAe]; exact Or.inr h
  have hS : va_S A s.heap s.heap [] := va_S.rf
  have hl := lv_entry ([.ref sb, .ref st]) (n := 2) (Nat.le_of_ble_eq_true rfl)
  rw [lg_entry_eq]
  generalize (lg_sl ([.ref sb, .ref st]) ++ List.replicate (2 - (lg_sl ([.ref sb, .ref st])).length) Slot.unset).toArray = ls at hl ⊢
  replace hl : lv_has ls 2 [(0, .ref sb), (1, .ref st)] := hl
  obtain ⟨sv_st, hst_st⟩ := hSt
  replace h : (zb3 (p_J5_append_cf1ce bc bf bn sn sf) (fun bc_1 bf_2 bn_3 => (some (bc_1, bf_2, bn_3)))) = some (bc', bf', bn') := h
  obtain ⟨H, hHe⟩ : ∃ H, H = s.heap := ⟨_, rfl⟩
  rw [← hHe] at hP
  replace hS : va_S A s.heap H [] := by rw [hHe]; exact hS
  refine zheap hHe ?_
  refine lv_aload_n hx hb dJ4_append_15ec4_0 rfl (lv_at hl 0 rfl) ?_
  refine lv_aload_n hx hb dJ4_append_15ec4_1 rfl (lv_at hl 1 rfl) ?_
  obtain ⟨bc_1, bf_2, bn_3, e4, h⟩ := zb3_some h
  refine zgosr (va_runSU (zclassAt hK) (As := [.ref st]) (rest := []) ⟨hx, hb, hml, hown, hts⟩ (c_J5_append_cf1ce l D sb cJ cI cO cB bv bc bf bm bn st sn sf bc_1 bf_2 bn_3 e4 H.size) (va_cwSU 1 hts gJ4_append_15ec4_J5_append_cf1ce_s29 rfl rfl rfl hdU2_J5_append_cf1ce ⟨Nat.le_of_ble_eq_true rfl, Nat.le_of_ble_eq_true rfl⟩) (zspreV hE (zSt.here hst_st hS (zfree hD hS hA)) hS (zfree hD hS hA) (q0 := 0) (ci := 1) (T := TJ4) (N := 4) hK hP hD rfl rfl [.ref st]) rfl rfl hl.1 rfl (lv_room (Nat.le_of_ble_eq_true rfl)) dJ4_append_15ec4_2 ⟨Nat.le_of_ble_eq_true rfl, Nat.le_of_ble_eq_true rfl⟩) (zfree hD hS hA) (fun bv5 => (zjW hD hS hA)) hS (fun bv5 H locs hP hD hS => ?_)
  replace hP : va_P D vwCl (sW sb cB bv5 bc_1 bf_2 bm bn_3) H := hP
  replace hD : va_D A (sW sb cB bv5 bc_1 bf_2 bm bn_3) := hD
  refine lv_pop hx hb dJ4_append_15ec4_5 rfl ?_
  refine lv_aload_n hx hb dJ4_append_15ec4_6 rfl (lv_at hl 0 rfl) ?_
  have g0 := Option.some.inj h
  obtain ⟨h1, g1⟩ := Prod.mk.inj g0
  obtain ⟨h2, g2⟩ := Prod.mk.inj g1
  subst h1
  subst h2
  subst g2
  exact W.aret (v := .ref sb) hx hb hr (Or.inl ⟨_, rfl⟩) (Or.inr ⟨_, rfl⟩) (fun t ht hW => ⟨⟨bv5, sb, rfl, trivial, rfl, by rw [ht]; exact hP, va_K.moved hW.alike hK, hD⟩, hS.F ht⟩) hS.2.2 dJ4_append_15ec4_7

noncomputable def p_J4_append_cf468 (bc : Nat) (bf : Nat → Int32) (bn : Int32) (p0 : Int32) : Option (Nat × (Nat → Int32) × Int32) := (zb3 (p_J5_append_3fe6f bc bf bn p0) (fun bc_1 bf_2 bn_3 => (some (bc_1, bf_2, bn_3))))
theorem hdV_J4_append_cf468 : yJ4_append_cf468.cls = RJ4 ∧ yJ4_append_cf468.cls ≠ "java/lang/invoke/MethodHandle" ∧ yJ4_append_cf468.cls ≠ "java/lang/invoke/VarHandle" ∧ (parseMethodDescriptor yJ4_append_cf468.desc).map (fun d => d.parameters.length) = some 1 := by decide +kernel
set_option maxHeartbeats 4000000 in
set_option maxRecDepth 100000 in
theorem c_J4_append_cf468 (l : Launch) (D : va_G) (sb : Nat) (cJ cI cO cB : ClassId) (bv : Nat) (bc : Nat) (bf : Nat → Int32) (bm : Bool) (bn : Int32) (p0 : Int32) (bc' : Nat) (bf' : Nat → Int32) (bn' : Int32) (h : p_J4_append_cf468 bc bf bn p0 = some (bc', bf', bn')) : zGsr l yJ4_append_cf468 wsJ4_append_cf468 5 125 1 150 (zPx D (zT cJ cI cO cB) (sW sb cB bv bc bf bm bn)) [.ref sb, .int p0] D (zT cJ cI cO cB) (sW sb cB bv bc bf bm bn) (fun u => (sW sb cB u bc' bf' bm bn')) sb := by
  intro sz
  delta zQsr
  refine Met.ofW (cc := cJ4_append_cf468) (maxL := 2) (ret := (some (.object "java/lang/StringBuilder"))) (by decide) rfl ?_
  intro p e s m args below meth c s₁ B hml hv
  obtain ⟨rfl, ⟨hsz, hP, hK, hD0⟩, hE⟩ := hv
  have hx := B.exec
  have hb := B.bytes
  have hr := B.returns
  have hts := atoms_spec (ws := wsJ4_append_cf468) B.pre
  have hown : s.vm.findClass RJ4 = some m.cls := findClass_of_methodNamed B.named
  have hlocks := B.notSynchronized
  subst hsz
  have hD := hD0.self (sz := s.heap.size)
  generalize hAe : va_A (sW sb cB bv bc bf bm bn) s.heap.size = A at hD hE ⊢
  have hA : ∀ q : Nat, s.heap.size ≤ q → A q := fun q h => by rw [← hAe]; exact Or.inr h
  have hS : va_S A s.heap s.heap [] := va_S.rf
  have hl := lv_entry ([.ref sb, .int p0]) (n := 2) (Nat.le_of_ble_eq_true rfl)
  rw [lg_entry_eq]
  generalize (lg_sl ([.ref sb, .int p0]) ++ List.replicate (2 - (lg_sl ([.ref sb, .int p0])).length) Slot.unset).toArray = ls at hl ⊢
  replace hl : lv_has ls 2 [(0, .ref sb), (1, .int p0)] := hl
  replace h : (zb3 (p_J5_append_3fe6f bc bf bn p0) (fun bc_1 bf_2 bn_3 => (some (bc_1, bf_2, bn_3)))) = some (bc', bf', bn') := h
  obtain ⟨H, hHe⟩ : ∃ H, H = s.heap := ⟨_, rfl⟩
  rw [← hHe] at hP
  replace hS : va_S A s.heap H [] := by rw [hHe]; exact hS
  refine zheap hHe ?_
  refine lv_aload_n hx hb dJ4_append_cf468_0 rfl (lv_at hl 0 rfl) ?_
  refine lv_iload_n hx hb dJ4_append_cf468_1 rfl (lv_at hl 1 rfl) ?_
  obtain ⟨bc_1, bf_2, bn_3, e4, h⟩ := zb3_some h
  refine zgosr (va_runSU (zclassAt hK) (As := [.int p0]) (rest := []) ⟨hx, hb, hml, hown, hts⟩ (c_J5_append_3fe6f l D sb cJ cI cO cB bv bc bf bm bn p0 bc_1 bf_2 bn_3 e4 H.size) (va_cwSU 1 hts gJ4_append_cf468_J5_append_3fe6f_s50 rfl rfl rfl hdU2_J5_append_3fe6f ⟨Nat.le_of_ble_eq_true rfl, Nat.le_of_ble_eq_true rfl⟩) (zxpreV hE hS (zfree hD hS hA) (q0 := 0) (ci := 1) (T := TJ4) (N := 4) hK hP hD rfl rfl [.int p0]) rfl rfl hl.1 rfl (lv_room (Nat.le_of_ble_eq_true rfl)) dJ4_append_cf468_2 ⟨Nat.le_of_ble_eq_true rfl, Nat.le_of_ble_eq_true rfl⟩) (zfree hD hS hA) (fun bv5 => (zjW hD hS hA)) hS (fun bv5 H locs hP hD hS => ?_)
  replace hP : va_P D vwCl (sW sb cB bv5 bc_1 bf_2 bm bn_3) H := hP
  replace hD : va_D A (sW sb cB bv5 bc_1 bf_2 bm bn_3) := hD
  refine lv_pop hx hb dJ4_append_cf468_5 rfl ?_
  refine lv_aload_n hx hb dJ4_append_cf468_6 rfl (lv_at hl 0 rfl) ?_
  have g0 := Option.some.inj h
  obtain ⟨h1, g1⟩ := Prod.mk.inj g0
  obtain ⟨h2, g2⟩ := Prod.mk.inj g1
  subst h1
  subst h2
  subst g2
  exact W.aret (v := .ref sb) hx hb hr (Or.inl ⟨_, rfl⟩) (Or.inr ⟨_, rfl⟩) (fun t ht hW => ⟨⟨bv5, sb, rfl, trivial, rfl, by rw [ht]; exact hP, va_K.moved hW.alike hK, hD⟩, hS.F ht⟩) hS.2.2 dJ4_append_cf468_7

noncomputable def p_J4_append_bf812 (F : Nat) (bc : Nat) (bf : Nat → Int32) (bn : Int32) (p0 : Int32) : Option (Nat × (Nat → Int32) × Int32) := (zb3 (p_J5_append_c97b9 F bc bf bn p0) (fun bc_1 bf_2 bn_3 => (some (bc_1, bf_2, bn_3))))
theorem hdV_J4_append_bf812 : yJ4_append_bf812.cls = RJ4 ∧ yJ4_append_bf812.cls ≠ "java/lang/invoke/MethodHandle" ∧ yJ4_append_bf812.cls ≠ "java/lang/invoke/VarHandle" ∧ (parseMethodDescriptor yJ4_append_bf812.desc).map (fun d => d.parameters.length) = some 1 := by decide +kernel
set_option maxHeartbeats 4000000 in
set_option maxRecDepth 100000 in
theorem c_J4_append_bf812 (l : Launch) (D : va_G) (sb : Nat) (cJ cI cO cB : ClassId) (bv : Nat) (bc : Nat) (bf : Nat → Int32) (bm : Bool) (bn : Int32) (F : Nat) (p0 : Int32) (bc' : Nat) (bf' : Nat → Int32) (bn' : Int32) (h : p_J4_append_bf812 F bc bf bn p0 = some (bc', bf', bn')) : zGsr l yJ4_append_bf812 wsJ4_append_bf812 5 127 1 150 (zPx D (zT cJ cI cO cB) (sW sb cB bv bc bf bm bn)) [.ref sb, .int p0] D (zT cJ cI cO cB) (sW sb cB bv bc bf bm bn) (fun u => (sW sb cB u bc' bf' bm bn')) sb := by
  intro sz
  delta zQsr
  refine Met.ofW (cc := cJ4_append_bf812) (maxL := 2) (ret := (some (.object "java/lang/StringBuilder"))) (by decide) rfl ?_
  intro p e s m args below meth c s₁ B hml hv
  obtain ⟨rfl, ⟨hsz, hP, hK, hD0⟩, hE⟩ := hv
  have hx := B.exec
  have hb := B.bytes
  have hr := B.returns
  have hts := atoms_spec (ws := wsJ4_append_bf812) B.pre
  have hown : s.vm.findClass RJ4 = some m.cls := findClass_of_methodNamed B.named
  have hlocks := B.notSynchronized
  subst hsz
  have hD := hD0.self (sz := s.heap.size)
  generalize hAe : va_A (sW sb cB bv bc bf bm bn) s.heap.size = A at hD hE ⊢
  have hA : ∀ q : Nat, s.heap.size ≤ q → A q := fun q h => by rw [← hAe]; exact Or.inr h
  have hS : va_S A s.heap s.heap [] := va_S.rf
  have hl := lv_entry ([.ref sb, .int p0]) (n := 2) (Nat.le_of_ble_eq_true rfl)
  rw [lg_entry_eq]
  generalize (lg_sl ([.ref sb, .int p0]) ++ List.replicate (2 - (lg_sl ([.ref sb, .int p0])).length) Slot.unset).toArray = ls at hl ⊢
  replace hl : lv_has ls 2 [(0, .ref sb), (1, .int p0)] := hl
  replace h : (zb3 (p_J5_append_c97b9 F bc bf bn p0) (fun bc_1 bf_2 bn_3 => (some (bc_1, bf_2, bn_3)))) = some (bc', bf', bn') := h
  obtain ⟨H, hHe⟩ : ∃ H, H = s.heap := ⟨_, rfl⟩
  rw [← hHe] at hP
  replace hS : va_S A s.heap H [] := by rw [hHe]; exact hS
  refine zheap hHe ?_
  refine lv_aload_n hx hb dJ4_append_bf812_0 rfl (lv_at hl 0 rfl) ?_
  refine lv_iload_n hx hb dJ4_append_bf812_1 rfl (lv_at hl 1 rfl) ?_
  obtain ⟨bc_1, bf_2, bn_3, e4, h⟩ := zb3_some h
  refine zgosr (va_runSU (zclassAt hK) (As := [.int p0]) (rest := []) ⟨hx, hb, hml, hown, hts⟩ (c_J5_append_c97b9 l D sb cJ cI cO cB bv bc bf bm bn F p0 bc_1 bf_2 bn_3 e4 H.size) (va_cwSU 1 hts gJ4_append_bf812_J5_append_c97b9_s53 rfl rfl rfl hdU2_J5_append_c97b9 ⟨Nat.le_of_ble_eq_true rfl, Nat.le_of_ble_eq_true rfl⟩) (zxpreV hE hS (zfree hD hS hA) (q0 := 0) (ci := 1) (T := TJ4) (N := 4) hK hP hD rfl rfl [.int p0]) rfl rfl hl.1 rfl (lv_room (Nat.le_of_ble_eq_true rfl)) dJ4_append_bf812_2 ⟨Nat.le_of_ble_eq_true rfl, Nat.le_of_ble_eq_true rfl⟩) (zfree hD hS hA) (fun bv5 => (zjW hD hS hA)) hS (fun bv5 H locs hP hD hS => ?_)
  replace hP : va_P D vwCl (sW sb cB bv5 bc_1 bf_2 bm bn_3) H := hP
  replace hD : va_D A (sW sb cB bv5 bc_1 bf_2 bm bn_3) := hD
  refine lv_pop hx hb dJ4_append_bf812_5 rfl ?_
  refine lv_aload_n hx hb dJ4_append_bf812_6 rfl (lv_at hl 0 rfl) ?_
  have g0 := Option.some.inj h
  obtain ⟨h1, g1⟩ := Prod.mk.inj g0
  obtain ⟨h2, g2⟩ := Prod.mk.inj g1
  subst h1
  subst h2
  subst g2
  exact W.aret (v := .ref sb) hx hb hr (Or.inl ⟨_, rfl⟩) (Or.inr ⟨_, rfl⟩) (fun t ht hW => ⟨⟨bv5, sb, rfl, trivial, rfl, by rw [ht]; exact hP, va_K.moved hW.alike hK, hD⟩, hS.F ht⟩) hS.2.2 dJ4_append_bf812_7

noncomputable def p_J4_append_f7089 (F : Nat) (bc : Nat) (bf : Nat → Int32) (bn : Int32) (p0 : Int64) : Option (Nat × (Nat → Int32) × Int32) := (zb3 (p_J5_append_66267 F bc bf bn p0) (fun bc_1 bf_2 bn_3 => (some (bc_1, bf_2, bn_3))))
theorem hdV_J4_append_f7089 : yJ4_append_f7089.cls = RJ4 ∧ yJ4_append_f7089.cls ≠ "java/lang/invoke/MethodHandle" ∧ yJ4_append_f7089.cls ≠ "java/lang/invoke/VarHandle" ∧ (parseMethodDescriptor yJ4_append_f7089.desc).map (fun d => d.parameters.length) = some 1 := by decide +kernel
set_option maxHeartbeats 4000000 in
set_option maxRecDepth 100000 in
theorem c_J4_append_f7089 (l : Launch) (D : va_G) (sb : Nat) (cJ cI cO cB : ClassId) (bv : Nat) (bc : Nat) (bf : Nat → Int32) (bm : Bool) (bn : Int32) (F : Nat) (p0 : Int64) (bc' : Nat) (bf' : Nat → Int32) (bn' : Int32) (h : p_J4_append_f7089 F bc bf bn p0 = some (bc', bf', bn')) : zGsr l yJ4_append_f7089 wsJ4_append_f7089 5 128 1 150 (zPx D (zT cJ cI cO cB) (sW sb cB bv bc bf bm bn)) [.ref sb, .long p0] D (zT cJ cI cO cB) (sW sb cB bv bc bf bm bn) (fun u => (sW sb cB u bc' bf' bm bn')) sb := by
  intro sz
  delta zQsr
  refine Met.ofW (cc := cJ4_append_f7089) (maxL := 3) (ret := (some (.object "java/lang/StringBuilder"))) (by decide) rfl ?_
  intro p e s m args below meth c s₁ B hml hv
  obtain ⟨rfl, ⟨hsz, hP, hK, hD0⟩, hE⟩ := hv
  have hx := B.exec
  have hb := B.bytes
  have hr := B.returns
  have hts := atoms_spec (ws := wsJ4_append_f7089) B.pre
  have hown : s.vm.findClass RJ4 = some m.cls := findClass_of_methodNamed B.named
  have hlocks := B.notSynchronized
  subst hsz
  have hD := hD0.self (sz := s.heap.size)
  generalize hAe : va_A (sW sb cB bv bc bf bm bn) s.heap.size = A at hD hE ⊢
  have hA : ∀ q : Nat, s.heap.size ≤ q → A q := fun q h => by rw [← hAe]; exact Or.inr h
  have hS : va_S A s.heap s.heap [] := va_S.rf
  have hl := lv_entry ([.ref sb, .long p0]) (n := 3) (Nat.le_of_ble_eq_true rfl)
  rw [lg_entry_eq]
  generalize (lg_sl ([.ref sb, .long p0]) ++ List.replicate (3 - (lg_sl ([.ref sb, .long p0])).length) Slot.unset).toArray = ls at hl ⊢
  replace hl : lv_has ls 3 [(0, .ref sb), (1, .long p0)] := hl
  replace h : (zb3 (p_J5_append_66267 F bc bf bn p0) (fun bc_1 bf_2 bn_3 => (some (bc_1, bf_2, bn_3)))) = some (bc', bf', bn') := h
  obtain ⟨H, hHe⟩ : ∃ H, H = s.heap := ⟨_, rfl⟩
  rw [← hHe] at hP
  replace hS : va_S A s.heap H [] := by rw [hHe]; exact hS
  refine zheap hHe ?_
  refine lv_aload_n hx hb dJ4_append_f7089_0 rfl (lv_at hl 0 rfl) ?_
  refine lv_lload_n hx hb dJ4_append_f7089_1 rfl (lv_at hl 1 rfl) ?_
  obtain ⟨bc_1, bf_2, bn_3, e4, h⟩ := zb3_some h
  refine zgosr (va_runSU (zclassAt hK) (As := [.long p0]) (rest := []) ⟨hx, hb, hml, hown, hts⟩ (c_J5_append_66267 l D sb cJ cI cO cB bv bc bf bm bn F p0 bc_1 bf_2 bn_3 e4 H.size) (va_cwSU 1 hts gJ4_append_f7089_J5_append_66267_s56 rfl rfl rfl hdU2_J5_append_66267 ⟨Nat.le_of_ble_eq_true rfl, Nat.le_of_ble_eq_true rfl⟩) (zxpreV hE hS (zfree hD hS hA) (q0 := 0) (ci := 1) (T := TJ4) (N := 4) hK hP hD rfl rfl [.long p0]) rfl rfl hl.1 rfl (lv_room (Nat.le_of_ble_eq_true rfl)) dJ4_append_f7089_2 ⟨Nat.le_of_ble_eq_true rfl, Nat.le_of_ble_eq_true rfl⟩) (zfree hD hS hA) (fun bv5 => (zjW hD hS hA)) hS (fun bv5 H locs hP hD hS => ?_)
  replace hP : va_P D vwCl (sW sb cB bv5 bc_1 bf_2 bm bn_3) H := hP
  replace hD : va_D A (sW sb cB bv5 bc_1 bf_2 bm bn_3) := hD
  refine lv_pop hx hb dJ4_append_f7089_5 rfl ?_
  refine lv_aload_n hx hb dJ4_append_f7089_6 rfl (lv_at hl 0 rfl) ?_
  have g0 := Option.some.inj h
  obtain ⟨h1, g1⟩ := Prod.mk.inj g0
  obtain ⟨h2, g2⟩ := Prod.mk.inj g1
  subst h1
  subst h2
  subst g2
  exact W.aret (v := .ref sb) hx hb hr (Or.inl ⟨_, rfl⟩) (Or.inr ⟨_, rfl⟩) (fun t ht hW => ⟨⟨bv5, sb, rfl, trivial, rfl, by rw [ht]; exact hP, va_K.moved hW.alike hK, hD⟩, hS.F ht⟩) hS.2.2 dJ4_append_f7089_7

noncomputable def p_J4_reverse_43fcb (F : Nat) (bc : Nat) (bf : Nat → Int32) (bn : Int32) : Option ((Nat → Int32)) := (zb1 (p_J5_reverse_278bc F bc bf bn) (fun bf_1 => (some bf_1)))
theorem hdV_J4_reverse_43fcb : yJ4_reverse_43fcb.cls = RJ4 ∧ yJ4_reverse_43fcb.cls ≠ "java/lang/invoke/MethodHandle" ∧ yJ4_reverse_43fcb.cls ≠ "java/lang/invoke/VarHandle" ∧ (parseMethodDescriptor yJ4_reverse_43fcb.desc).map (fun d => d.parameters.length) = some 0 := by decide +kernel
set_option maxHeartbeats 4000000 in
set_option maxRecDepth 100000 in
theorem c_J4_reverse_43fcb (l : Launch) (D : va_G) (sb : Nat) (cJ cI cO cB : ClassId) (bv : Nat) (bc : Nat) (bf : Nat → Int32) (bm : Bool) (bn : Int32) (F : Nat) (bf' : Nat → Int32) (h : p_J4_reverse_43fcb F bc bf bn = some bf') : zGsr l yJ4_reverse_43fcb wsJ4_reverse_43fcb 2 46 0 0 (zPx D (zT cJ cI cO cB) (sW sb cB bv bc bf bm bn)) [.ref sb] D (zT cJ cI cO cB) (sW sb cB bv bc bf bm bn) (fun u => (sW sb cB u bc bf' bm bn)) sb := by
  intro sz
  delta zQsr
  refine Met.ofW (cc := cJ4_reverse_43fcb) (maxL := 1) (ret := (some (.object "java/lang/StringBuilder"))) (by decide) rfl ?_
  intro p e s m args below meth c s₁ B hml hv
  obtain ⟨rfl, ⟨hsz, hP, hK, hD0⟩, hE⟩ := hv
  have hx := B.exec
  have hb := B.bytes
  have hr := B.returns
  have hts := atoms_spec (ws := wsJ4_reverse_43fcb) B.pre
  have hown : s.vm.findClass RJ4 = some m.cls := findClass_of_methodNamed B.named
  have hlocks := B.notSynchronized
  subst hsz
  have hD := hD0.self (sz := s.heap.size)
  generalize hAe : va_A (sW sb cB bv bc bf bm bn) s.heap.size = A at hD hE ⊢
  have hA : ∀ q : Nat, s.heap.size ≤ q → A q := fun q h => by rw [← hAe]; exact Or.inr h
  have hS : va_S A s.heap s.heap [] := va_S.rf
  have hl := lv_entry ([.ref sb]) (n := 1) (Nat.le_of_ble_eq_true rfl)
  rw [lg_entry_eq]
  generalize (lg_sl ([.ref sb]) ++ List.replicate (1 - (lg_sl ([.ref sb])).length) Slot.unset).toArray = ls at hl ⊢
  replace hl : lv_has ls 1 [(0, .ref sb)] := hl
  replace h : (zb1 (p_J5_reverse_278bc F bc bf bn) (fun bf_1 => (some bf_1))) = some bf' := h
  obtain ⟨H, hHe⟩ : ∃ H, H = s.heap := ⟨_, rfl⟩
  rw [← hHe] at hP
  replace hS : va_S A s.heap H [] := by rw [hHe]; exact hS
  refine zheap hHe ?_
  refine lv_aload_n hx hb dJ4_reverse_43fcb_0 rfl (lv_at hl 0 rfl) ?_
  obtain ⟨bf_1, e2, h⟩ := zb1_some h
  refine zgosr (va_runSU (zclassAt hK) (As := []) (rest := []) ⟨hx, hb, hml, hown, hts⟩ (c_J5_reverse_278bc l D sb cJ cI cO cB bv bc bf bm bn F bf_1 e2 H.size) (va_cwSU 0 hts gJ4_reverse_43fcb_J5_reverse_278bc_s127 rfl rfl rfl hdU2_J5_reverse_278bc ⟨Nat.le_of_ble_eq_true rfl, Nat.le_of_ble_eq_true rfl⟩) (zxpreV hE hS (zfree hD hS hA) (q0 := 0) (ci := 1) (T := TJ4) (N := 4) hK hP hD rfl rfl []) rfl rfl hl.1 rfl (lv_room (Nat.le_of_ble_eq_true rfl)) dJ4_reverse_43fcb_1 ⟨Nat.le_of_ble_eq_true rfl, Nat.le_of_ble_eq_true rfl⟩) (zfree hD hS hA) (fun bv3 => (zjW hD hS hA)) hS (fun bv3 H locs hP hD hS => ?_)
  replace hP : va_P D vwCl (sW sb cB bv3 bc bf_1 bm bn) H := hP
  replace hD : va_D A (sW sb cB bv3 bc bf_1 bm bn) := hD
  refine lv_pop hx hb dJ4_reverse_43fcb_4 rfl ?_
  refine lv_aload_n hx hb dJ4_reverse_43fcb_5 rfl (lv_at hl 0 rfl) ?_
  have h1 := Option.some.inj h
  subst h1
  exact W.aret (v := .ref sb) hx hb hr (Or.inl ⟨_, rfl⟩) (Or.inr ⟨_, rfl⟩) (fun t ht hW => ⟨⟨bv3, sb, rfl, trivial, rfl, by rw [ht]; exact hP, va_K.moved hW.alike hK, hD⟩, hS.F ht⟩) hS.2.2 dJ4_reverse_43fcb_6
