noncomputable def p_X9_thrown (th : Int32) : Option Int32 := (some th)
theorem hdV_X9_thrown : yX9_thrown.cls = RX9 ∧ yX9_thrown.cls ≠ "java/lang/invoke/MethodHandle" ∧ yX9_thrown.cls ≠ "java/lang/invoke/VarHandle" ∧ (parseMethodDescriptor yX9_thrown.desc).map (fun d => d.parameters.length) = some 0 := by decide +kernel
set_option maxHeartbeats 4000000 in
set_option maxRecDepth 100000 in
theorem c_X9_thrown (l : Launch) (D : va_G) (q v : Nat) (cJ cI cO cB : ClassId) (V : Nat → Int64) (ib : Bool) (dn : Int32) (rf : Int32) (mk : Int32) (th : Int32) (r : Int32) (h : p_X9_thrown th = some r) : zMi l yX9_thrown wsX9_thrown 0 0 0 0 D (zT cJ cI cO cB) [.ref q] (mW q v cJ V ib dn rf mk th) (mW q v cJ V ib dn rf mk th) r := by
  intro sz
  delta zQi
  refine Met.ofW (cc := cX9_thrown) (maxL := 1) (ret := (some .int)) (by decide) rfl ?_
  intro p e s m args below meth c s₁ B hml hv
  obtain ⟨rfl, hsz, hP, hK, hD0⟩ := hv
  have hx := B.exec
  have hb := B.bytes
  have hr := B.returns
  have hts := atoms_spec (ws := wsX9_thrown) B.pre
  have hown : s.vm.findClass RX9 = some m.cls := findClass_of_methodNamed B.named
  have hlocks := B.notSynchronized
  subst hsz
  have hD := hD0.self (sz := s.heap.size)
  generalize hAe : va_A (mW q v cJ V ib dn rf mk th) s.heap.size = A at hD ⊢
  have hA : ∀ q : Nat, s.heap.size ≤ q → A q := fun q h => by rw [← hAe]; exact Or.inr h
  have hS : va_S A s.heap s.heap [] := va_S.rf
  have hl := lv_entry ([.ref q]) (n := 1) (Nat.le_of_ble_eq_true rfl)
  rw [lg_entry_eq]
  generalize (lg_sl ([.ref q]) ++ List.replicate (1 - (lg_sl ([.ref q])).length) Slot.unset).toArray = ls at hl ⊢
  replace hl : lv_has ls 1 [(0, .ref q)] := hl
  have kwX9 : ∀ w ∈ u_ws RX9 TX9 6, w ∈ wsX9_thrown := fun w h => List.mem_cons_of_mem _ (List.mem_append_right _ h)
  have kf_13 := hts (.fieldLink RX9 13 "DivisorworkModel" "thrown" "I") (zmem 1 rfl)
  replace h : (some th) = some r := h
  obtain ⟨H, hHe⟩ : ∃ H, H = s.heap := ⟨_, rfl⟩
  rw [← hHe] at hP
  replace hS : va_S A s.heap H [] := by rw [hHe]; exact hS
  refine zheap hHe ?_
  refine lv_aload_n hx hb dX9_thrown_0 rfl (lv_at hl 0 rfl) ?_
  refine va_get (D := D) (ci := 9) (v := .int th) (C := RX9) (T := TX9) (N := 6) hx hb hts kwX9 hown hK hP 0 rfl rfl 5 (by decide) kf_13 (fun _ h9 => h9) rfl dX9_thrown_1 ?_
  have h1 := Option.some.inj h
  subst h1
  exact W.iret (v := th) hx hb hr (fun t ht hW => ⟨⟨th, (), rfl, rfl, by rw [ht]; exact hP, va_K.moved hW.alike hK, hD⟩, hS.F ht⟩) hS.2.2 dX9_thrown_4

noncomputable def p_X9_common_L0 (F : Nat) (p0 : Int32) (p1 : Int32) (k : Int32 → Option Int32) : Nat → Int32 → Option Int32
  | 0, _ => none
  | n + 1, v2_0 => (zg (v2_0 = 0) (if ¬ (zr p0 v2_0) = 0 then (p_X9_common_L0 F p0 p1 k n (v2_0 + (-1 : Int32))) else (zg (v2_0 = 0) (if (zr p1 v2_0) = 0 then (k v2_0) else (p_X9_common_L0 F p0 p1 k n (v2_0 + (-1 : Int32)))))))
noncomputable def p_X9_common (F : Nat) (p0 : Int32) (p1 : Int32) : Option Int32 := (p_X9_common_L0 F p0 p1 (fun v2_0 => (some v2_0)) F (if p1 < p0 then p1 else p0))
theorem hdS_X9_common : yX9_common.cls ≠ "java/lang/invoke/MethodHandle" ∧ yX9_common.cls ≠ "java/lang/invoke/VarHandle" ∧ (parseMethodDescriptor yX9_common.desc).map (fun d => d.parameters.length) = some 2 := by decide +kernel
set_option maxHeartbeats 4000000 in
set_option maxRecDepth 100000 in
theorem c_X9_common (l : Launch) (D : va_G) (tys : List (ClassId × FieldType)) (F : Nat) (p0 : Int32) (p1 : Int32) (r : Int32) (h : p_X9_common F p0 p1 = some r) : zMi l yX9_common wsX9_common 1 21 0 0 D tys [.int p0, .int p1] ([] : va_W) ([] : va_W) r := by
  intro sz
  delta zQi
  refine Met.ofW (cc := cX9_common) (maxL := 3) (ret := (some .int)) (by decide) rfl ?_
  intro p e s m args below meth c s₁ B hml hv
  obtain ⟨rfl, hsz, hP, hK, hD0⟩ := hv
  have hx := B.exec
  have hb := B.bytes
  have hr := B.returns
  have hts := atoms_spec (ws := wsX9_common) B.pre
  have hown : s.vm.findClass RX9 = some m.cls := findClass_of_methodNamed B.named
  have hlocks := B.notSynchronized
  subst hsz
  have hD := hD0.self (sz := s.heap.size)
  generalize hAe : va_A ([] : va_W) s.heap.size = A at hD ⊢
  have hA : ∀ q : Nat, s.heap.size ≤ q → A q := fun q h => by rw [← hAe]; exact Or.inr h
  have hS : va_S A s.heap s.heap [] := va_S.rf
  have hl := lv_entry ([.int p0, .int p1]) (n := 3) (Nat.le_of_ble_eq_true rfl)
  rw [lg_entry_eq]
  generalize (lg_sl ([.int p0, .int p1]) ++ List.replicate (3 - (lg_sl ([.int p0, .int p1])).length) Slot.unset).toArray = ls at hl ⊢
  replace hl : lv_has ls 3 [(0, .int p0), (1, .int p1)] := hl
  have km_17 := hts (.methodLink RX9 17 Lib.Math.min.name) (zmem 1 rfl)
  have kmsmin := hts (.static Lib.Math.min.name) (zmem 2 rfl)
  have kmi := hts (.initialized "java/lang/Math") (zmem 3 rfl)
  have kmcmin := hts (.code Lib.Math.min.name Lib.Math.min.code 2 (some .int)) (zmem 4 rfl)
  replace h : (p_X9_common_L0 F p0 p1 (fun v2_0 => (some v2_0)) F (if p1 < p0 then p1 else p0)) = some r := h
  refine zabs (fun G hG hGW => ?_)
  obtain ⟨H, hHe⟩ : ∃ H, H = s.heap := ⟨_, rfl⟩
  rw [← hHe] at hP
  replace hS : va_S A s.heap H [] := by rw [hHe]; exact hS
  refine zheap hHe ?_
  refine lv_iload_n hx hb dX9_common_0 rfl (lv_at hl 0 rfl) ?_
  refine lv_iload_n hx hb dX9_common_1 rfl (lv_at hl 1 rfl) ?_
  refine va_mmin hx hb (hml.trans hl.1.symm) hown km_17 kmsmin kmi kmcmin (Nat.le_of_ble_eq_true rfl) (Nat.le_of_ble_eq_true rfl) (Nat.le_of_ble_eq_true rfl) (Nat.le_of_ble_eq_true rfl) dX9_common_2 ?_
  refine lv_istore_n (lv' := [(2, .int (if p1 < p0 then p1 else p0)), (0, .int p0), (1, .int p1)]) hx hb dX9_common_5 rfl hl (by decide) rfl (fun ls hl => ?_)
  have X0 : ∀ (v2_0 : Int32) (H : Heap) (locs : List Loc) (ls : Array Slot), va_P D vwCl ([] : va_W) H → va_D A ([] : va_W) → va_S A s.heap H locs → lv_has ls 3 [(0, .int p0), (1, .int p1), (2, .int v2_0)] → (some v2_0) = some r → G H locs 0 0 (F0 m 24 ls []) := by
    intro v2_0 H locs ls hP hD hS hl h
    refine hG _ _ _ _ _ ?_
    refine lv_iload_n hx hb dX9_common_24 rfl (lv_at hl 2 rfl) ?_
    have h1 := Option.some.inj h
    subst h1
    exact W.iret (v := v2_0) hx hb hr (fun t ht hW => ⟨⟨v2_0, (), rfl, rfl, by rw [ht]; exact hP, va_K.moved hW.alike hK, hD⟩, hS.F ht⟩) hS.2.2 dX9_common_25
  have L0 : ∀ (K0 : Int32 → Option Int32) (HX0 : ∀ (v2_0 : Int32) (H : Heap) (locs : List Loc) (ls : Array Slot), va_P D vwCl ([] : va_W) H → va_D A ([] : va_W) → va_S A s.heap H locs → lv_has ls 3 [(0, .int p0), (1, .int p1), (2, .int v2_0)] → K0 v2_0 = some r → G H locs 0 0 (F0 m 24 ls [])) (fu0 : Nat) (v2_0 : Int32) (H : Heap) (locs : List Loc) (ls : Array Slot), va_P D vwCl ([] : va_W) H → va_D A ([] : va_W) → va_S A s.heap H locs → lv_has ls 3 [(0, .int p0), (1, .int p1), (2, .int v2_0)] → p_X9_common_L0 F p0 p1 K0 fu0 v2_0 = some r → G H locs 0 0 (F0 m 6 ls []) := by
    intro K0 HX0 fu0
    induction fu0 with
    | zero =>
      intro v2_0 H locs ls hP hD hS hl h
      exact (zno h).elim
    | succ fu0 ih0 =>
      intro v2_0 H locs ls hP hD hS hl h
      refine hG _ _ _ _ _ ?_
      unfold p_X9_common_L0 at h
      refine lv_iload_n hx hb dX9_common_6 rfl (lv_at hl 0 rfl) ?_
      refine lv_iload_n hx hb dX9_common_7 rfl (lv_at hl 2 rfl) ?_
      obtain ⟨z8, h⟩ := zg_some h
      refine lv_irem hx hb dX9_common_8 z8 ?_
      refine lv_if_ne (tgt := 18) hx hb dX9_common_9 (by decide) (fun c9 => ?_) (fun c9 => ?_)
      · replace h := zif_t h c9
        refine lv_iinc (v := (v2_0 + (-1 : Int32))) (lv' := [(2, .int (v2_0 + (-1 : Int32))), (0, .int p0), (1, .int p1)]) hx hb dX9_common_18 hl (k := 2) rfl rfl (by decide) rfl (fun ls hl => ?_)
        refine lv_goto (tgt := 6) hx hb dX9_common_21 (by decide) ?_
        exact hGW _ _ _ _ _ (ih0 (v2_0 + (-1 : Int32)) _ _ ls hP hD hS (lv_sub hl [1, 2, 0] rfl) h)
      · replace h := zif_fn h c9
        refine lv_iload_n hx hb dX9_common_12 rfl (lv_at hl 1 rfl) ?_
        refine lv_iload_n hx hb dX9_common_13 rfl (lv_at hl 2 rfl) ?_
        obtain ⟨z14, h⟩ := zg_some h
        refine lv_irem hx hb dX9_common_14 z14 ?_
        refine lv_if_eq (tgt := 24) hx hb dX9_common_15 (by decide) (fun c15 => ?_) (fun c15 => ?_)
        · replace h := zif_t h c15
          exact hGW _ _ _ _ _ (HX0 v2_0 _ _ ls hP hD hS (lv_sub hl [0, 1, 2] rfl) h)
        · replace h := zif_f h c15
          refine lv_iinc (v := (v2_0 + (-1 : Int32))) (lv' := [(2, .int (v2_0 + (-1 : Int32))), (0, .int p0), (1, .int p1)]) hx hb dX9_common_18 hl (k := 2) rfl rfl (by decide) rfl (fun ls hl => ?_)
          refine lv_goto (tgt := 6) hx hb dX9_common_21 (by decide) ?_
          exact hGW _ _ _ _ _ (ih0 (v2_0 + (-1 : Int32)) _ _ ls hP hD hS (lv_sub hl [1, 2, 0] rfl) h)
  exact hGW _ _ _ _ _ (L0 _ X0 F (if p1 < p0 then p1 else p0) _ _ ls hP hD hS (lv_sub hl [1, 2, 0] rfl) h)

noncomputable def p_X9_least_L0 (F : Nat) (p0 : Int32) (k : Int32 → Option Int32) : Nat → Int32 → Option Int32
  | 0, _ => none
  | n + 1, v1_0 => (zg (v1_0 = 0) (if (zr p0 v1_0) = 0 then (k v1_0) else (p_X9_least_L0 F p0 k n (v1_0 + (1 : Int32)))))
noncomputable def p_X9_least (F : Nat) (p0 : Int32) : Option Int32 := (p_X9_least_L0 F p0 (fun v1_0 => (some v1_0)) F (2 : Int32))
theorem hdS_X9_least : yX9_least.cls ≠ "java/lang/invoke/MethodHandle" ∧ yX9_least.cls ≠ "java/lang/invoke/VarHandle" ∧ (parseMethodDescriptor yX9_least.desc).map (fun d => d.parameters.length) = some 1 := by decide +kernel
set_option maxHeartbeats 4000000 in
set_option maxRecDepth 100000 in
theorem c_X9_least (l : Launch) (D : va_G) (tys : List (ClassId × FieldType)) (F : Nat) (p0 : Int32) (r : Int32) (h : p_X9_least F p0 = some r) : zMi l yX9_least wsX9_least 0 0 0 0 D tys [.int p0] ([] : va_W) ([] : va_W) r := by
  intro sz
  delta zQi
  refine Met.ofW (cc := cX9_least) (maxL := 2) (ret := (some .int)) (by decide) rfl ?_
  intro p e s m args below meth c s₁ B hml hv
  obtain ⟨rfl, hsz, hP, hK, hD0⟩ := hv
  have hx := B.exec
  have hb := B.bytes
  have hr := B.returns
  have hts := atoms_spec (ws := wsX9_least) B.pre
  have hown : s.vm.findClass RX9 = some m.cls := findClass_of_methodNamed B.named
  have hlocks := B.notSynchronized
  subst hsz
  have hD := hD0.self (sz := s.heap.size)
  generalize hAe : va_A ([] : va_W) s.heap.size = A at hD ⊢
  have hA : ∀ q : Nat, s.heap.size ≤ q → A q := fun q h => by rw [← hAe]; exact Or.inr h
  have hS : va_S A s.heap s.heap [] := va_S.rf
  have hl := lv_entry ([.int p0]) (n := 2) (Nat.le_of_ble_eq_true rfl)
  rw [lg_entry_eq]
  generalize (lg_sl ([.int p0]) ++ List.replicate (2 - (lg_sl ([.int p0])).length) Slot.unset).toArray = ls at hl ⊢
  replace hl : lv_has ls 2 [(0, .int p0)] := hl
  replace h : (p_X9_least_L0 F p0 (fun v1_0 => (some v1_0)) F (2 : Int32)) = some r := h
  refine zabs (fun G hG hGW => ?_)
  obtain ⟨H, hHe⟩ : ∃ H, H = s.heap := ⟨_, rfl⟩
  rw [← hHe] at hP
  replace hS : va_S A s.heap H [] := by rw [hHe]; exact hS
  refine zheap hHe ?_
  refine lv_iconst (v := (2 : Int32)) hx hb dX9_least_0 (by decide) ?_
  refine lv_istore_n (lv' := [(1, .int (2 : Int32)), (0, .int p0)]) hx hb dX9_least_1 rfl hl (by decide) rfl (fun ls hl => ?_)
  have X0 : ∀ (v1_0 : Int32) (H : Heap) (locs : List Loc) (ls : Array Slot), va_P D vwCl ([] : va_W) H → va_D A ([] : va_W) → va_S A s.heap H locs → lv_has ls 2 [(0, .int p0), (1, .int v1_0)] → (some v1_0) = some r → G H locs 0 0 (F0 m 14 ls []) := by
    intro v1_0 H locs ls hP hD hS hl h
    refine hG _ _ _ _ _ ?_
    refine lv_iload_n hx hb dX9_least_14 rfl (lv_at hl 1 rfl) ?_
    have h1 := Option.some.inj h
    subst h1
    exact W.iret (v := v1_0) hx hb hr (fun t ht hW => ⟨⟨v1_0, (), rfl, rfl, by rw [ht]; exact hP, va_K.moved hW.alike hK, hD⟩, hS.F ht⟩) hS.2.2 dX9_least_15
  have L0 : ∀ (K0 : Int32 → Option Int32) (HX0 : ∀ (v1_0 : Int32) (H : Heap) (locs : List Loc) (ls : Array Slot), va_P D vwCl ([] : va_W) H → va_D A ([] : va_W) → va_S A s.heap H locs → lv_has ls 2 [(0, .int p0), (1, .int v1_0)] → K0 v1_0 = some r → G H locs 0 0 (F0 m 14 ls [])) (fu0 : Nat) (v1_0 : Int32) (H : Heap) (locs : List Loc) (ls : Array Slot), va_P D vwCl ([] : va_W) H → va_D A ([] : va_W) → va_S A s.heap H locs → lv_has ls 2 [(0, .int p0), (1, .int v1_0)] → p_X9_least_L0 F p0 K0 fu0 v1_0 = some r → G H locs 0 0 (F0 m 2 ls []) := by
    intro K0 HX0 fu0
    induction fu0 with
    | zero =>
      intro v1_0 H locs ls hP hD hS hl h
      exact (zno h).elim
    | succ fu0 ih0 =>
      intro v1_0 H locs ls hP hD hS hl h
      refine hG _ _ _ _ _ ?_
      unfold p_X9_least_L0 at h
      refine lv_iload_n hx hb dX9_least_2 rfl (lv_at hl 0 rfl) ?_
      refine lv_iload_n hx hb dX9_least_3 rfl (lv_at hl 1 rfl) ?_
      obtain ⟨z4, h⟩ := zg_some h
      refine lv_irem hx hb dX9_least_4 z4 ?_
      refine lv_if_eq (tgt := 14) hx hb dX9_least_5 (by decide) (fun c5 => ?_) (fun c5 => ?_)
      · replace h := zif_t h c5
        exact hGW _ _ _ _ _ (HX0 v1_0 _ _ ls hP hD hS (lv_sub hl [0, 1] rfl) h)
      · replace h := zif_f h c5
        refine lv_iinc (v := (v1_0 + (1 : Int32))) (lv' := [(1, .int (v1_0 + (1 : Int32))), (0, .int p0)]) hx hb dX9_least_8 hl (k := 1) rfl rfl (by decide) rfl (fun ls hl => ?_)
        refine lv_goto (tgt := 2) hx hb dX9_least_11 (by decide) ?_
        exact hGW _ _ _ _ _ (ih0 (v1_0 + (1 : Int32)) _ _ ls hP hD hS (lv_sub hl [1, 0] rfl) h)
  exact hGW _ _ _ _ _ (L0 _ X0 F (2 : Int32) _ _ ls hP hD hS (lv_sub hl [1, 0] rfl) h)

noncomputable def p_X9_without_L0 (F : Nat) (p1 : Int32) (k : Int32 → Option Int32) : Nat → Int32 → Option Int32
  | 0, _ => none
  | n + 1, v2_0 => (zg (p1 = 0) (if ¬ (zr v2_0 p1) = 0 then (k v2_0) else (zg (p1 = 0) (p_X9_without_L0 F p1 k n (v2_0 / p1)))))
noncomputable def p_X9_without (F : Nat) (p0 : Int32) (p1 : Int32) : Option Int32 := (p_X9_without_L0 F p1 (fun v2_0 => (some v2_0)) F p0)
theorem hdS_X9_without : yX9_without.cls ≠ "java/lang/invoke/MethodHandle" ∧ yX9_without.cls ≠ "java/lang/invoke/VarHandle" ∧ (parseMethodDescriptor yX9_without.desc).map (fun d => d.parameters.length) = some 2 := by decide +kernel
set_option maxHeartbeats 4000000 in
set_option maxRecDepth 100000 in
theorem c_X9_without (l : Launch) (D : va_G) (tys : List (ClassId × FieldType)) (F : Nat) (p0 : Int32) (p1 : Int32) (r : Int32) (h : p_X9_without F p0 p1 = some r) : zMi l yX9_without wsX9_without 0 0 0 0 D tys [.int p0, .int p1] ([] : va_W) ([] : va_W) r := by
  intro sz
  delta zQi
  refine Met.ofW (cc := cX9_without) (maxL := 3) (ret := (some .int)) (by decide) rfl ?_
  intro p e s m args below meth c s₁ B hml hv
  obtain ⟨rfl, hsz, hP, hK, hD0⟩ := hv
  have hx := B.exec
  have hb := B.bytes
  have hr := B.returns
  have hts := atoms_spec (ws := wsX9_without) B.pre
  have hown : s.vm.findClass RX9 = some m.cls := findClass_of_methodNamed B.named
  have hlocks := B.notSynchronized
  subst hsz
  have hD := hD0.self (sz := s.heap.size)
  generalize hAe : va_A ([] : va_W) s.heap.size = A at hD ⊢
  have hA : ∀ q : Nat, s.heap.size ≤ q → A q := fun q h => by rw [← hAe]; exact Or.inr h
  have hS : va_S A s.heap s.heap [] := va_S.rf
  have hl := lv_entry ([.int p0, .int p1]) (n := 3) (Nat.le_of_ble_eq_true rfl)
  rw [lg_entry_eq]
  generalize (lg_sl ([.int p0, .int p1]) ++ List.replicate (3 - (lg_sl ([.int p0, .int p1])).length) Slot.unset).toArray = ls at hl ⊢
  replace hl : lv_has ls 3 [(0, .int p0), (1, .int p1)] := hl
  replace h : (p_X9_without_L0 F p1 (fun v2_0 => (some v2_0)) F p0) = some r := h
  refine zabs (fun G hG hGW => ?_)
  obtain ⟨H, hHe⟩ : ∃ H, H = s.heap := ⟨_, rfl⟩
  rw [← hHe] at hP
  replace hS : va_S A s.heap H [] := by rw [hHe]; exact hS
  refine zheap hHe ?_
  refine lv_iload_n hx hb dX9_without_0 rfl (lv_at hl 0 rfl) ?_
  refine lv_istore_n (lv' := [(2, .int p0), (0, .int p0), (1, .int p1)]) hx hb dX9_without_1 rfl hl (by decide) rfl (fun ls hl => ?_)
  have X0 : ∀ (v2_0 : Int32) (H : Heap) (locs : List Loc) (ls : Array Slot), va_P D vwCl ([] : va_W) H → va_D A ([] : va_W) → va_S A s.heap H locs → lv_has ls 3 [(0, .int p0), (1, .int p1), (2, .int v2_0)] → (some v2_0) = some r → G H locs 0 0 (F0 m 15 ls []) := by
    intro v2_0 H locs ls hP hD hS hl h
    refine hG _ _ _ _ _ ?_
    refine lv_iload_n hx hb dX9_without_15 rfl (lv_at hl 2 rfl) ?_
    have h1 := Option.some.inj h
    subst h1
    exact W.iret (v := v2_0) hx hb hr (fun t ht hW => ⟨⟨v2_0, (), rfl, rfl, by rw [ht]; exact hP, va_K.moved hW.alike hK, hD⟩, hS.F ht⟩) hS.2.2 dX9_without_16
  have L0 : ∀ (K0 : Int32 → Option Int32) (HX0 : ∀ (v2_0 : Int32) (H : Heap) (locs : List Loc) (ls : Array Slot), va_P D vwCl ([] : va_W) H → va_D A ([] : va_W) → va_S A s.heap H locs → lv_has ls 3 [(0, .int p0), (1, .int p1), (2, .int v2_0)] → K0 v2_0 = some r → G H locs 0 0 (F0 m 15 ls [])) (fu0 : Nat) (v2_0 : Int32) (H : Heap) (locs : List Loc) (ls : Array Slot), va_P D vwCl ([] : va_W) H → va_D A ([] : va_W) → va_S A s.heap H locs → lv_has ls 3 [(0, .int p0), (1, .int p1), (2, .int v2_0)] → p_X9_without_L0 F p1 K0 fu0 v2_0 = some r → G H locs 0 0 (F0 m 2 ls []) := by
    intro K0 HX0 fu0
    induction fu0 with
    | zero =>
      intro v2_0 H locs ls hP hD hS hl h
      exact (zno h).elim
    | succ fu0 ih0 =>
      intro v2_0 H locs ls hP hD hS hl h
      refine hG _ _ _ _ _ ?_
      unfold p_X9_without_L0 at h
      refine lv_iload_n hx hb dX9_without_2 rfl (lv_at hl 2 rfl) ?_
      refine lv_iload_n hx hb dX9_without_3 rfl (lv_at hl 1 rfl) ?_
      obtain ⟨z4, h⟩ := zg_some h
      refine lv_irem hx hb dX9_without_4 z4 ?_
      refine lv_if_ne (tgt := 15) hx hb dX9_without_5 (by decide) (fun c5 => ?_) (fun c5 => ?_)
      · replace h := zif_t h c5
        exact hGW _ _ _ _ _ (HX0 v2_0 _ _ ls hP hD hS (lv_sub hl [0, 1, 2] rfl) h)
      · replace h := zif_fn h c5
        refine lv_iload_n hx hb dX9_without_8 rfl (lv_at hl 2 rfl) ?_
        refine lv_iload_n hx hb dX9_without_9 rfl (lv_at hl 1 rfl) ?_
        obtain ⟨z10, h⟩ := zg_some h
        refine lv_idiv hx hb dX9_without_10 z10 ?_
        refine lv_istore_n (lv' := [(2, .int (v2_0 / p1)), (0, .int p0), (1, .int p1)]) hx hb dX9_without_11 rfl hl (by decide) rfl (fun ls hl => ?_)
        refine lv_goto (tgt := 2) hx hb dX9_without_12 (by decide) ?_
        exact hGW _ _ _ _ _ (ih0 (v2_0 / p1) _ _ ls hP hD hS (lv_sub hl [1, 2, 0] rfl) h)
  exact hGW _ _ _ _ _ (L0 _ X0 F p0 _ _ ls hP hD hS (lv_sub hl [1, 2, 0] rfl) h)

noncomputable def p_X9_squareOf_L0 (F : Nat) (p0 : Int32) (k : Int32 → Int32 → Option Int32) : Nat → Int32 → Int32 → Option Int32
  | 0, _, _ => none
  | n + 1, v1_0, v2_0 => (if p0 < (v2_0 * v2_0) then (k v1_0 v2_0) else (zg ((v2_0 * v2_0) = 0) (if ¬ (zr p0 (v2_0 * v2_0)) = 0 then (p_X9_squareOf_L0 F p0 k n v1_0 (v2_0 + (1 : Int32))) else (p_X9_squareOf_L0 F p0 k n (v2_0 * v2_0) (v2_0 + (1 : Int32))))))
noncomputable def p_X9_squareOf (F : Nat) (p0 : Int32) : Option Int32 := (p_X9_squareOf_L0 F p0 (fun v1_0 v2_0 => (some v1_0)) F (1 : Int32) (1 : Int32))
theorem hdS_X9_squareOf : yX9_squareOf.cls ≠ "java/lang/invoke/MethodHandle" ∧ yX9_squareOf.cls ≠ "java/lang/invoke/VarHandle" ∧ (parseMethodDescriptor yX9_squareOf.desc).map (fun d => d.parameters.length) = some 1 := by decide +kernel
set_option maxHeartbeats 4000000 in
set_option maxRecDepth 100000 in
theorem c_X9_squareOf (l : Launch) (D : va_G) (tys : List (ClassId × FieldType)) (F : Nat) (p0 : Int32) (r : Int32) (h : p_X9_squareOf F p0 = some r) : zMi l yX9_squareOf wsX9_squareOf 0 0 0 0 D tys [.int p0] ([] : va_W) ([] : va_W) r := by
  intro sz
  delta zQi
  refine Met.ofW (cc := cX9_squareOf) (maxL := 3) (ret := (some .int)) (by decide) rfl ?_
  intro p e s m args below meth c s₁ B hml hv
  obtain ⟨rfl, hsz, hP, hK, hD0⟩ := hv
  have hx := B.exec
  have hb := B.bytes
  have hr := B.returns
  have hts := atoms_spec (ws := wsX9_squareOf) B.pre
  have hown : s.vm.findClass RX9 = some m.cls := findClass_of_methodNamed B.named
  have hlocks := B.notSynchronized
  subst hsz
  have hD := hD0.self (sz := s.heap.size)
  generalize hAe : va_A ([] : va_W) s.heap.size = A at hD ⊢
  have hA : ∀ q : Nat, s.heap.size ≤ q → A q := fun q h => by rw [← hAe]; exact Or.inr h
  have hS : va_S A s.heap s.heap [] := va_S.rf
  have hl := lv_entry ([.int p0]) (n := 3) (Nat.le_of_ble_eq_true rfl)
  rw [lg_entry_eq]
  generalize (lg_sl ([.int p0]) ++ List.replicate (3 - (lg_sl ([.int p0])).length) Slot.unset).toArray = ls at hl ⊢
  replace hl : lv_has ls 3 [(0, .int p0)] := hl
  replace h : (p_X9_squareOf_L0 F p0 (fun v1_0 v2_0 => (some v1_0)) F (1 : Int32) (1 : Int32)) = some r := h
  refine zabs (fun G hG hGW => ?_)
  obtain ⟨H, hHe⟩ : ∃ H, H = s.heap := ⟨_, rfl⟩
  rw [← hHe] at hP
  replace hS : va_S A s.heap H [] := by rw [hHe]; exact hS
  refine zheap hHe ?_
  refine lv_iconst (v := (1 : Int32)) hx hb dX9_squareOf_0 (by decide) ?_
  refine lv_istore_n (lv' := [(1, .int (1 : Int32)), (0, .int p0)]) hx hb dX9_squareOf_1 rfl hl (by decide) rfl (fun ls hl => ?_)
  refine lv_iconst (v := (1 : Int32)) hx hb dX9_squareOf_2 (by decide) ?_
  refine lv_istore_n (lv' := [(2, .int (1 : Int32)), (1, .int (1 : Int32)), (0, .int p0)]) hx hb dX9_squareOf_3 rfl hl (by decide) rfl (fun ls hl => ?_)
  have X0 : ∀ (v1_0 : Int32) (v2_0 : Int32) (H : Heap) (locs : List Loc) (ls : Array Slot), va_P D vwCl ([] : va_W) H → va_D A ([] : va_W) → va_S A s.heap H locs → lv_has ls 3 [(0, .int p0), (1, .int v1_0), (2, .int v2_0)] → (some v1_0) = some r → G H locs 0 0 (F0 m 29 ls []) := by
    intro v1_0 v2_0 H locs ls hP hD hS hl h
    refine hG _ _ _ _ _ ?_
    refine lv_iload_n hx hb dX9_squareOf_29 rfl (lv_at hl 1 rfl) ?_
    have h1 := Option.some.inj h
    subst h1
    exact W.iret (v := v1_0) hx hb hr (fun t ht hW => ⟨⟨v1_0, (), rfl, rfl, by rw [ht]; exact hP, va_K.moved hW.alike hK, hD⟩, hS.F ht⟩) hS.2.2 dX9_squareOf_30
  have L0 : ∀ (K0 : Int32 → Int32 → Option Int32) (HX0 : ∀ (v1_0 : Int32) (v2_0 : Int32) (H : Heap) (locs : List Loc) (ls : Array Slot), va_P D vwCl ([] : va_W) H → va_D A ([] : va_W) → va_S A s.heap H locs → lv_has ls 3 [(0, .int p0), (1, .int v1_0), (2, .int v2_0)] → K0 v1_0 v2_0 = some r → G H locs 0 0 (F0 m 29 ls [])) (fu0 : Nat) (v1_0 : Int32) (v2_0 : Int32) (H : Heap) (locs : List Loc) (ls : Array Slot), va_P D vwCl ([] : va_W) H → va_D A ([] : va_W) → va_S A s.heap H locs → lv_has ls 3 [(0, .int p0), (1, .int v1_0), (2, .int v2_0)] → p_X9_squareOf_L0 F p0 K0 fu0 v1_0 v2_0 = some r → G H locs 0 0 (F0 m 4 ls []) := by
    intro K0 HX0 fu0
    induction fu0 with
    | zero =>
      intro v1_0 v2_0 H locs ls hP hD hS hl h
      exact (zno h).elim
    | succ fu0 ih0 =>
      intro v1_0 v2_0 H locs ls hP hD hS hl h
      refine hG _ _ _ _ _ ?_
      unfold p_X9_squareOf_L0 at h
      refine lv_iload_n hx hb dX9_squareOf_4 rfl (lv_at hl 2 rfl) ?_
      refine lv_iload_n hx hb dX9_squareOf_5 rfl (lv_at hl 2 rfl) ?_
      refine lv_imul hx hb dX9_squareOf_6 ?_
      refine lv_iload_n hx hb dX9_squareOf_7 rfl (lv_at hl 0 rfl) ?_
      refine lv_icmp_gt (tgt := 29) hx hb dX9_squareOf_8 (by decide) (fun c8 => ?_) (fun c8 => ?_)
      · replace h := zif_t h c8
        exact hGW _ _ _ _ _ (HX0 v1_0 v2_0 _ _ ls hP hD hS (lv_sub hl [0, 1, 2] rfl) h)
      · replace h := zif_f h c8
        refine lv_iload_n hx hb dX9_squareOf_11 rfl (lv_at hl 0 rfl) ?_
        refine lv_iload_n hx hb dX9_squareOf_12 rfl (lv_at hl 2 rfl) ?_
        refine lv_iload_n hx hb dX9_squareOf_13 rfl (lv_at hl 2 rfl) ?_
        refine lv_imul hx hb dX9_squareOf_14 ?_
        obtain ⟨z15, h⟩ := zg_some h
        refine lv_irem hx hb dX9_squareOf_15 z15 ?_
        refine lv_if_ne (tgt := 23) hx hb dX9_squareOf_16 (by decide) (fun c16 => ?_) (fun c16 => ?_)
        · replace h := zif_t h c16
          refine lv_iinc (v := (v2_0 + (1 : Int32))) (lv' := [(2, .int (v2_0 + (1 : Int32))), (0, .int p0), (1, .int v1_0)]) hx hb dX9_squareOf_23 hl (k := 2) rfl rfl (by decide) rfl (fun ls hl => ?_)
          refine lv_goto (tgt := 4) hx hb dX9_squareOf_26 (by decide) ?_
          exact hGW _ _ _ _ _ (ih0 v1_0 (v2_0 + (1 : Int32)) _ _ ls hP hD hS (lv_sub hl [1, 2, 0] rfl) h)
        · replace h := zif_fn h c16
          refine lv_iload_n hx hb dX9_squareOf_19 rfl (lv_at hl 2 rfl) ?_
          refine lv_iload_n hx hb dX9_squareOf_20 rfl (lv_at hl 2 rfl) ?_
          refine lv_imul hx hb dX9_squareOf_21 ?_
          refine lv_istore_n (lv' := [(1, .int (v2_0 * v2_0)), (0, .int p0), (2, .int v2_0)]) hx hb dX9_squareOf_22 rfl hl (by decide) rfl (fun ls hl => ?_)
          refine lv_iinc (v := (v2_0 + (1 : Int32))) (lv' := [(2, .int (v2_0 + (1 : Int32))), (1, .int (v2_0 * v2_0)), (0, .int p0)]) hx hb dX9_squareOf_23 hl (k := 2) rfl rfl (by decide) rfl (fun ls hl => ?_)
          refine lv_goto (tgt := 4) hx hb dX9_squareOf_26 (by decide) ?_
          exact hGW _ _ _ _ _ (ih0 (v2_0 * v2_0) (v2_0 + (1 : Int32)) _ _ ls hP hD hS (lv_sub hl [2, 1, 0] rfl) h)
  exact hGW _ _ _ _ _ (L0 _ X0 F (1 : Int32) (1 : Int32) _ _ ls hP hD hS (lv_sub hl [2, 1, 0] rfl) h)

noncomputable def p_X9_all_L0 (F : Nat) (k : Int32 → Int32 → Option Int32) : Nat → Int32 → Int32 → Option Int32
  | 0, _, _ => none
  | n + 1, v1_0, v2_0 => (if v2_0 ≤ (1 : Int32) then (k v1_0 v2_0) else (zb1 (p_X9_least F v2_0) (fun r1 => (zg (r1 = 0) (p_X9_all_L0 F k n (v1_0 + (1 : Int32)) (v2_0 / r1))))))
noncomputable def p_X9_all (F : Nat) (p0 : Int32) : Option Int32 := (p_X9_all_L0 F (fun v1_0 v2_0 => (some v1_0)) F (0 : Int32) p0)
theorem hdS_X9_all : yX9_all.cls ≠ "java/lang/invoke/MethodHandle" ∧ yX9_all.cls ≠ "java/lang/invoke/VarHandle" ∧ (parseMethodDescriptor yX9_all.desc).map (fun d => d.parameters.length) = some 1 := by decide +kernel
set_option maxHeartbeats 4000000 in
set_option maxRecDepth 100000 in
theorem c_X9_all (l : Launch) (D : va_G) (tys : List (ClassId × FieldType)) (F : Nat) (p0 : Int32) (r : Int32) (h : p_X9_all F p0 = some r) : zMi l yX9_all wsX9_all 1 21 0 0 D tys [.int p0] ([] : va_W) ([] : va_W) r := by
  intro sz
  delta zQi
  refine Met.ofW (cc := cX9_all) (maxL := 3) (ret := (some .int)) (by decide) rfl ?_
  intro p e s m args below meth c s₁ B hml hv
  obtain ⟨rfl, hsz, hP, hK, hD0⟩ := hv
  have hx := B.exec
  have hb := B.bytes
  have hr := B.returns
  have hts := atoms_spec (ws := wsX9_all) B.pre
  have hown : s.vm.findClass RX9 = some m.cls := findClass_of_methodNamed B.named
  have hlocks := B.notSynchronized
  subst hsz
  have hD := hD0.self (sz := s.heap.size)
  generalize hAe : va_A ([] : va_W) s.heap.size = A at hD ⊢
  have hA : ∀ q : Nat, s.heap.size ≤ q → A q := fun q h => by rw [← hAe]; exact Or.inr h
  have hS : va_S A s.heap s.heap [] := va_S.rf
  have hl := lv_entry ([.int p0]) (n := 3) (Nat.le_of_ble_eq_true rfl)
  rw [lg_entry_eq]
  generalize (lg_sl ([.int p0]) ++ List.replicate (3 - (lg_sl ([.int p0])).length) Slot.unset).toArray = ls at hl ⊢
  replace hl : lv_has ls 3 [(0, .int p0)] := hl
  replace h : (p_X9_all_L0 F (fun v1_0 v2_0 => (some v1_0)) F (0 : Int32) p0) = some r := h
  refine zabs (fun G hG hGW => ?_)
  obtain ⟨H, hHe⟩ : ∃ H, H = s.heap := ⟨_, rfl⟩
  rw [← hHe] at hP
  replace hS : va_S A s.heap H [] := by rw [hHe]; exact hS
  refine zheap hHe ?_
  refine lv_iconst (v := (0 : Int32)) hx hb dX9_all_0 (by decide) ?_
  refine lv_istore_n (lv' := [(1, .int (0 : Int32)), (0, .int p0)]) hx hb dX9_all_1 rfl hl (by decide) rfl (fun ls hl => ?_)
  refine lv_iload_n hx hb dX9_all_2 rfl (lv_at hl 1 rfl) ?_
  refine lv_istore_n (lv' := [(2, .int p0), (1, .int (0 : Int32)), (0, .int p0)]) hx hb dX9_all_3 rfl hl (by decide) rfl (fun ls hl => ?_)
  have X0 : ∀ (v1_0 : Int32) (v2_0 : Int32) (H : Heap) (locs : List Loc) (ls : Array Slot), va_P D vwCl ([] : va_W) H → va_D A ([] : va_W) → va_S A s.heap H locs → lv_has ls 3 [(0, .int p0), (1, .int v1_0), (2, .int v2_0)] → (some v1_0) = some r → G H locs 0 0 (F0 m 22 ls []) := by
    intro v1_0 v2_0 H locs ls hP hD hS hl h
    refine hG _ _ _ _ _ ?_
    refine lv_iload_n hx hb dX9_all_22 rfl (lv_at hl 1 rfl) ?_
    have h1 := Option.some.inj h
    subst h1
    exact W.iret (v := v1_0) hx hb hr (fun t ht hW => ⟨⟨v1_0, (), rfl, rfl, by rw [ht]; exact hP, va_K.moved hW.alike hK, hD⟩, hS.F ht⟩) hS.2.2 dX9_all_23
  have L0 : ∀ (K0 : Int32 → Int32 → Option Int32) (HX0 : ∀ (v1_0 : Int32) (v2_0 : Int32) (H : Heap) (locs : List Loc) (ls : Array Slot), va_P D vwCl ([] : va_W) H → va_D A ([] : va_W) → va_S A s.heap H locs → lv_has ls 3 [(0, .int p0), (1, .int v1_0), (2, .int v2_0)] → K0 v1_0 v2_0 = some r → G H locs 0 0 (F0 m 22 ls [])) (fu0 : Nat) (v1_0 : Int32) (v2_0 : Int32) (H : Heap) (locs : List Loc) (ls : Array Slot), va_P D vwCl ([] : va_W) H → va_D A ([] : va_W) → va_S A s.heap H locs → lv_has ls 3 [(0, .int p0), (1, .int v1_0), (2, .int v2_0)] → p_X9_all_L0 F K0 fu0 v1_0 v2_0 = some r → G H locs 0 0 (F0 m 4 ls []) := by
    intro K0 HX0 fu0
    induction fu0 with
    | zero =>
      intro v1_0 v2_0 H locs ls hP hD hS hl h
      exact (zno h).elim
    | succ fu0 ih0 =>
      intro v1_0 v2_0 H locs ls hP hD hS hl h
      refine hG _ _ _ _ _ ?_
      unfold p_X9_all_L0 at h
      refine lv_iload_n hx hb dX9_all_4 rfl (lv_at hl 2 rfl) ?_
      refine lv_iconst (v := (1 : Int32)) hx hb dX9_all_5 (by decide) ?_
      refine lv_icmp_le (tgt := 22) hx hb dX9_all_6 (by decide) (fun c6 => ?_) (fun c6 => ?_)
      · replace h := zif_t h c6
        exact hGW _ _ _ _ _ (HX0 v1_0 v2_0 _ _ ls hP hD hS (lv_sub hl [0, 1, 2] rfl) h)
      · replace h := zif_f h c6
        refine lv_iinc (v := (v1_0 + (1 : Int32))) (lv' := [(1, .int (v1_0 + (1 : Int32))), (0, .int p0), (2, .int v2_0)]) hx hb dX9_all_9 hl (k := 1) rfl rfl (by decide) rfl (fun ls hl => ?_)
        refine lv_iload_n hx hb dX9_all_12 rfl (lv_at hl 2 rfl) ?_
        refine lv_iload_n hx hb dX9_all_13 rfl (lv_at hl 2 rfl) ?_
        obtain ⟨r1, e2, h⟩ := zb1_some h
        refine zgoi (va_runS (As := [.int v2_0]) (rest := [.int v2_0]) ⟨hx, hb, hml, hown, hts⟩ (c_X9_least l D tys F v2_0 r1 e2 H.size) (va_cwS 1 hts gX9_all_X9_least rfl rfl rfl hdS_X9_least ⟨Nat.le_of_ble_eq_true rfl, Nat.le_of_ble_eq_true rfl⟩) (zpreS hK zP0 (zD0 (A := A)) [.int v2_0]) rfl rfl hl.1 rfl (lv_room (Nat.le_of_ble_eq_true rfl)) dX9_all_14 ⟨Nat.le_of_ble_eq_true rfl, Nat.le_of_ble_eq_true rfl⟩) (zf0 hS hA) (zjE hP hD) hS (fun H locs hP hD hS => ?_)
        obtain ⟨z17, h⟩ := zg_some h
        refine lv_idiv hx hb dX9_all_17 z17 ?_
        refine lv_istore_n (lv' := [(2, .int (v2_0 / r1)), (1, .int (v1_0 + (1 : Int32))), (0, .int p0)]) hx hb dX9_all_18 rfl hl (by decide) rfl (fun ls hl => ?_)
        refine lv_goto (tgt := 4) hx hb dX9_all_19 (by decide) ?_
        exact hGW _ _ _ _ _ (ih0 (v1_0 + (1 : Int32)) (v2_0 / r1) _ _ ls hP hD hS (lv_sub hl [2, 1, 0] rfl) h)
  exact hGW _ _ _ _ _ (L0 _ X0 F (0 : Int32) p0 _ _ ls hP hD hS (lv_sub hl [2, 1, 0] rfl) h)

noncomputable def p_X9_signOf (F : Nat) (p0 : Int32) : Option Int32 := (zb1 (p_X9_squareOf F p0) (fun r1 => (if r1 ≤ (1 : Int32) then (zb1 (p_X9_all F p0) (fun r3 => (if ¬ (zr r3 (2 : Int32)) = 0 then (some (-1 : Int32)) else (some (1 : Int32))))) else (some (0 : Int32)))))
theorem hdS_X9_signOf : yX9_signOf.cls ≠ "java/lang/invoke/MethodHandle" ∧ yX9_signOf.cls ≠ "java/lang/invoke/VarHandle" ∧ (parseMethodDescriptor yX9_signOf.desc).map (fun d => d.parameters.length) = some 1 := by decide +kernel
set_option maxHeartbeats 4000000 in
set_option maxRecDepth 100000 in
theorem c_X9_signOf (l : Launch) (D : va_G) (tys : List (ClassId × FieldType)) (F : Nat) (p0 : Int32) (r : Int32) (h : p_X9_signOf F p0 = some r) : zMi l yX9_signOf wsX9_signOf 2 43 0 0 D tys [.int p0] ([] : va_W) ([] : va_W) r := by
  intro sz
  delta zQi
  refine Met.ofW (cc := cX9_signOf) (maxL := 1) (ret := (some .int)) (by decide) rfl ?_
  intro p e s m args below meth c s₁ B hml hv
  obtain ⟨rfl, hsz, hP, hK, hD0⟩ := hv
  have hx := B.exec
  have hb := B.bytes
  have hr := B.returns
  have hts := atoms_spec (ws := wsX9_signOf) B.pre
  have hown : s.vm.findClass RX9 = some m.cls := findClass_of_methodNamed B.named
  have hlocks := B.notSynchronized
  subst hsz
  have hD := hD0.self (sz := s.heap.size)
  generalize hAe : va_A ([] : va_W) s.heap.size = A at hD ⊢
  have hA : ∀ q : Nat, s.heap.size ≤ q → A q := fun q h => by rw [← hAe]; exact Or.inr h
  have hS : va_S A s.heap s.heap [] := va_S.rf
  have hl := lv_entry ([.int p0]) (n := 1) (Nat.le_of_ble_eq_true rfl)
  rw [lg_entry_eq]
  generalize (lg_sl ([.int p0]) ++ List.replicate (1 - (lg_sl ([.int p0])).length) Slot.unset).toArray = ls at hl ⊢
  replace hl : lv_has ls 1 [(0, .int p0)] := hl
  replace h : (zb1 (p_X9_squareOf F p0) (fun r1 => (if r1 ≤ (1 : Int32) then (zb1 (p_X9_all F p0) (fun r3 => (if ¬ (zr r3 (2 : Int32)) = 0 then (some (-1 : Int32)) else (some (1 : Int32))))) else (some (0 : Int32))))) = some r := h
  obtain ⟨H, hHe⟩ : ∃ H, H = s.heap := ⟨_, rfl⟩
  rw [← hHe] at hP
  replace hS : va_S A s.heap H [] := by rw [hHe]; exact hS
  refine zheap hHe ?_
  refine lv_iload_n hx hb dX9_signOf_0 rfl (lv_at hl 0 rfl) ?_
  obtain ⟨r1, e2, h⟩ := zb1_some h
  refine zgoi (va_runS (As := [.int p0]) (rest := []) ⟨hx, hb, hml, hown, hts⟩ (c_X9_squareOf l D tys F p0 r1 e2 H.size) (va_cwS 1 hts gX9_signOf_X9_squareOf rfl rfl rfl hdS_X9_squareOf ⟨Nat.le_of_ble_eq_true rfl, Nat.le_of_ble_eq_true rfl⟩) (zpreS hK zP0 (zD0 (A := A)) [.int p0]) rfl rfl hl.1 rfl (lv_room (Nat.le_of_ble_eq_true rfl)) dX9_signOf_1 ⟨Nat.le_of_ble_eq_true rfl, Nat.le_of_ble_eq_true rfl⟩) (zf0 hS hA) (zjE hP hD) hS (fun H locs hP hD hS => ?_)
  refine lv_iconst (v := (1 : Int32)) hx hb dX9_signOf_4 (by decide) ?_
  refine lv_icmp_le (tgt := 12) hx hb dX9_signOf_5 (by decide) (fun c5 => ?_) (fun c5 => ?_)
  · replace h := zif_t h c5
    refine lv_iload_n hx hb dX9_signOf_12 rfl (lv_at hl 0 rfl) ?_
    obtain ⟨r3, e4, h⟩ := zb1_some h
    refine zgoi (va_runS (As := [.int p0]) (rest := []) ⟨hx, hb, hml, hown, hts⟩ (c_X9_all l D tys F p0 r3 e4 H.size) (va_cwS 1 hts gX9_signOf_X9_all rfl rfl rfl hdS_X9_all ⟨Nat.le_of_ble_eq_true rfl, Nat.le_of_ble_eq_true rfl⟩) (zpreS hK zP0 (zD0 (A := A)) [.int p0]) rfl rfl hl.1 rfl (lv_room (Nat.le_of_ble_eq_true rfl)) dX9_signOf_13 ⟨Nat.le_of_ble_eq_true rfl, Nat.le_of_ble_eq_true rfl⟩) (zf0 hS hA) (zjE hP hD) hS (fun H locs hP hD hS => ?_)
    refine lv_iconst (v := (2 : Int32)) hx hb dX9_signOf_16 (by decide) ?_
    refine lv_irem hx hb dX9_signOf_17 (by decide) ?_
    refine lv_if_ne (tgt := 25) hx hb dX9_signOf_18 (by decide) (fun c18 => ?_) (fun c18 => ?_)
    · replace h := zif_t h c18
      refine lv_iconst (v := (-1 : Int32)) hx hb dX9_signOf_25 (by decide) ?_
      have h1 := Option.some.inj h
      subst h1
      exact W.iret (v := (-1 : Int32)) hx hb hr (fun t ht hW => ⟨⟨(-1 : Int32), (), rfl, rfl, by rw [ht]; exact hP, va_K.moved hW.alike hK, hD⟩, hS.F ht⟩) hS.2.2 dX9_signOf_26
    · replace h := zif_fn h c18
      refine lv_iconst (v := (1 : Int32)) hx hb dX9_signOf_21 (by decide) ?_
      refine lv_goto (tgt := 26) hx hb dX9_signOf_22 (by decide) ?_
      have h1 := Option.some.inj h
      subst h1
      exact W.iret (v := (1 : Int32)) hx hb hr (fun t ht hW => ⟨⟨(1 : Int32), (), rfl, rfl, by rw [ht]; exact hP, va_K.moved hW.alike hK, hD⟩, hS.F ht⟩) hS.2.2 dX9_signOf_26
  · replace h := zif_f h c5
    refine lv_iconst (v := (0 : Int32)) hx hb dX9_signOf_8 (by decide) ?_
    refine lv_goto (tgt := 26) hx hb dX9_signOf_9 (by decide) ?_
    have h1 := Option.some.inj h
    subst h1
    exact W.iret (v := (0 : Int32)) hx hb hr (fun t ht hW => ⟨⟨(0 : Int32), (), rfl, rfl, by rw [ht]; exact hP, va_K.moved hW.alike hK, hD⟩, hS.F ht⟩) hS.2.2 dX9_signOf_26

noncomputable def p_X9_tauOf_L0 (F : Nat) (p0 : Int32) (k : Int32 → Int32 → Option Int32) : Nat → Int32 → Int32 → Option Int32
  | 0, _, _ => none
  | n + 1, v1_0, v2_0 => (if p0 < v2_0 then (k v1_0 v2_0) else (zg (v2_0 = 0) (if ¬ (zr p0 v2_0) = 0 then (p_X9_tauOf_L0 F p0 k n (v1_0 + (0 : Int32)) (v2_0 + (1 : Int32))) else (p_X9_tauOf_L0 F p0 k n (v1_0 + (1 : Int32)) (v2_0 + (1 : Int32))))))
noncomputable def p_X9_tauOf (F : Nat) (p0 : Int32) : Option Int32 := (p_X9_tauOf_L0 F p0 (fun v1_0 v2_0 => (some v1_0)) F (0 : Int32) (1 : Int32))
theorem hdS_X9_tauOf : yX9_tauOf.cls ≠ "java/lang/invoke/MethodHandle" ∧ yX9_tauOf.cls ≠ "java/lang/invoke/VarHandle" ∧ (parseMethodDescriptor yX9_tauOf.desc).map (fun d => d.parameters.length) = some 1 := by decide +kernel
set_option maxHeartbeats 4000000 in
set_option maxRecDepth 100000 in
theorem c_X9_tauOf (l : Launch) (D : va_G) (tys : List (ClassId × FieldType)) (F : Nat) (p0 : Int32) (r : Int32) (h : p_X9_tauOf F p0 = some r) : zMi l yX9_tauOf wsX9_tauOf 0 0 0 0 D tys [.int p0] ([] : va_W) ([] : va_W) r := by
  intro sz
  delta zQi
  refine Met.ofW (cc := cX9_tauOf) (maxL := 3) (ret := (some .int)) (by decide) rfl ?_
  intro p e s m args below meth c s₁ B hml hv
  obtain ⟨rfl, hsz, hP, hK, hD0⟩ := hv
  have hx := B.exec
  have hb := B.bytes
  have hr := B.returns
  have hts := atoms_spec (ws := wsX9_tauOf) B.pre
  have hown : s.vm.findClass RX9 = some m.cls := findClass_of_methodNamed B.named
  have hlocks := B.notSynchronized
  subst hsz
  have hD := hD0.self (sz := s.heap.size)
  generalize hAe : va_A ([] : va_W) s.heap.size = A at hD ⊢
  have hA : ∀ q : Nat, s.heap.size ≤ q → A q := fun q h => by rw [← hAe]; exact Or.inr h
  have hS : va_S A s.heap s.heap [] := va_S.rf
  have hl := lv_entry ([.int p0]) (n := 3) (Nat.le_of_ble_eq_true rfl)
  rw [lg_entry_eq]
  generalize (lg_sl ([.int p0]) ++ List.replicate (3 - (lg_sl ([.int p0])).length) Slot.unset).toArray = ls at hl ⊢
  replace hl : lv_has ls 3 [(0, .int p0)] := hl
  replace h : (p_X9_tauOf_L0 F p0 (fun v1_0 v2_0 => (some v1_0)) F (0 : Int32) (1 : Int32)) = some r := h
  refine zabs (fun G hG hGW => ?_)
  obtain ⟨H, hHe⟩ : ∃ H, H = s.heap := ⟨_, rfl⟩
  rw [← hHe] at hP
  replace hS : va_S A s.heap H [] := by rw [hHe]; exact hS
  refine zheap hHe ?_
  refine lv_iconst (v := (0 : Int32)) hx hb dX9_tauOf_0 (by decide) ?_
  refine lv_istore_n (lv' := [(1, .int (0 : Int32)), (0, .int p0)]) hx hb dX9_tauOf_1 rfl hl (by decide) rfl (fun ls hl => ?_)
  refine lv_iconst (v := (1 : Int32)) hx hb dX9_tauOf_2 (by decide) ?_
  refine lv_istore_n (lv' := [(2, .int (1 : Int32)), (1, .int (0 : Int32)), (0, .int p0)]) hx hb dX9_tauOf_3 rfl hl (by decide) rfl (fun ls hl => ?_)
  have X0 : ∀ (v1_0 : Int32) (v2_0 : Int32) (H : Heap) (locs : List Loc) (ls : Array Slot), va_P D vwCl ([] : va_W) H → va_D A ([] : va_W) → va_S A s.heap H locs → lv_has ls 3 [(0, .int p0), (1, .int v1_0), (2, .int v2_0)] → (some v1_0) = some r → G H locs 0 0 (F0 m 29 ls []) := by
    intro v1_0 v2_0 H locs ls hP hD hS hl h
    refine hG _ _ _ _ _ ?_
    refine lv_iload_n hx hb dX9_tauOf_29 rfl (lv_at hl 1 rfl) ?_
    have h1 := Option.some.inj h
    subst h1
    exact W.iret (v := v1_0) hx hb hr (fun t ht hW => ⟨⟨v1_0, (), rfl, rfl, by rw [ht]; exact hP, va_K.moved hW.alike hK, hD⟩, hS.F ht⟩) hS.2.2 dX9_tauOf_30
  have L0 : ∀ (K0 : Int32 → Int32 → Option Int32) (HX0 : ∀ (v1_0 : Int32) (v2_0 : Int32) (H : Heap) (locs : List Loc) (ls : Array Slot), va_P D vwCl ([] : va_W) H → va_D A ([] : va_W) → va_S A s.heap H locs → lv_has ls 3 [(0, .int p0), (1, .int v1_0), (2, .int v2_0)] → K0 v1_0 v2_0 = some r → G H locs 0 0 (F0 m 29 ls [])) (fu0 : Nat) (v1_0 : Int32) (v2_0 : Int32) (H : Heap) (locs : List Loc) (ls : Array Slot), va_P D vwCl ([] : va_W) H → va_D A ([] : va_W) → va_S A s.heap H locs → lv_has ls 3 [(0, .int p0), (1, .int v1_0), (2, .int v2_0)] → p_X9_tauOf_L0 F p0 K0 fu0 v1_0 v2_0 = some r → G H locs 0 0 (F0 m 4 ls []) := by
    intro K0 HX0 fu0
    induction fu0 with
    | zero =>
      intro v1_0 v2_0 H locs ls hP hD hS hl h
      exact (zno h).elim
    | succ fu0 ih0 =>
      intro v1_0 v2_0 H locs ls hP hD hS hl h
      refine hG _ _ _ _ _ ?_
      unfold p_X9_tauOf_L0 at h
      refine lv_iload_n hx hb dX9_tauOf_4 rfl (lv_at hl 2 rfl) ?_
      refine lv_iload_n hx hb dX9_tauOf_5 rfl (lv_at hl 0 rfl) ?_
      refine lv_icmp_gt (tgt := 29) hx hb dX9_tauOf_6 (by decide) (fun c6 => ?_) (fun c6 => ?_)
      · replace h := zif_t h c6
        exact hGW _ _ _ _ _ (HX0 v1_0 v2_0 _ _ ls hP hD hS (lv_sub hl [0, 1, 2] rfl) h)
      · replace h := zif_f h c6
        refine lv_iload_n hx hb dX9_tauOf_9 rfl (lv_at hl 1 rfl) ?_
        refine lv_iload_n hx hb dX9_tauOf_10 rfl (lv_at hl 0 rfl) ?_
        refine lv_iload_n hx hb dX9_tauOf_11 rfl (lv_at hl 2 rfl) ?_
        obtain ⟨z12, h⟩ := zg_some h
        refine lv_irem hx hb dX9_tauOf_12 z12 ?_
        refine lv_if_ne (tgt := 20) hx hb dX9_tauOf_13 (by decide) (fun c13 => ?_) (fun c13 => ?_)
        · replace h := zif_t h c13
          refine lv_iconst (v := (0 : Int32)) hx hb dX9_tauOf_20 (by decide) ?_
          refine lv_iadd hx hb dX9_tauOf_21 ?_
          refine lv_istore_n (lv' := [(1, .int (v1_0 + (0 : Int32))), (0, .int p0), (2, .int v2_0)]) hx hb dX9_tauOf_22 rfl hl (by decide) rfl (fun ls hl => ?_)
          refine lv_iinc (v := (v2_0 + (1 : Int32))) (lv' := [(2, .int (v2_0 + (1 : Int32))), (1, .int (v1_0 + (0 : Int32))), (0, .int p0)]) hx hb dX9_tauOf_23 hl (k := 2) rfl rfl (by decide) rfl (fun ls hl => ?_)
          refine lv_goto (tgt := 4) hx hb dX9_tauOf_26 (by decide) ?_
          exact hGW _ _ _ _ _ (ih0 (v1_0 + (0 : Int32)) (v2_0 + (1 : Int32)) _ _ ls hP hD hS (lv_sub hl [2, 1, 0] rfl) h)
        · replace h := zif_fn h c13
          refine lv_iconst (v := (1 : Int32)) hx hb dX9_tauOf_16 (by decide) ?_
          refine lv_goto (tgt := 21) hx hb dX9_tauOf_17 (by decide) ?_
          refine lv_iadd hx hb dX9_tauOf_21 ?_
          refine lv_istore_n (lv' := [(1, .int (v1_0 + (1 : Int32))), (0, .int p0), (2, .int v2_0)]) hx hb dX9_tauOf_22 rfl hl (by decide) rfl (fun ls hl => ?_)
          refine lv_iinc (v := (v2_0 + (1 : Int32))) (lv' := [(2, .int (v2_0 + (1 : Int32))), (1, .int (v1_0 + (1 : Int32))), (0, .int p0)]) hx hb dX9_tauOf_23 hl (k := 2) rfl rfl (by decide) rfl (fun ls hl => ?_)
          refine lv_goto (tgt := 4) hx hb dX9_tauOf_26 (by decide) ?_
          exact hGW _ _ _ _ _ (ih0 (v1_0 + (1 : Int32)) (v2_0 + (1 : Int32)) _ _ ls hP hD hS (lv_sub hl [2, 1, 0] rfl) h)
  exact hGW _ _ _ _ _ (L0 _ X0 F (0 : Int32) (1 : Int32) _ _ ls hP hD hS (lv_sub hl [2, 1, 0] rfl) h)

noncomputable def p_X9_sigmaOf_L0 (F : Nat) (p0 : Int32) (k : Int32 → Int32 → Option Int32) : Nat → Int32 → Int32 → Option Int32
  | 0, _, _ => none
  | n + 1, v1_0, v2_0 => (if p0 < v2_0 then (k v1_0 v2_0) else (zg (v2_0 = 0) (if ¬ (zr p0 v2_0) = 0 then (p_X9_sigmaOf_L0 F p0 k n (v1_0 + (0 : Int32)) (v2_0 + (1 : Int32))) else (p_X9_sigmaOf_L0 F p0 k n (v1_0 + v2_0) (v2_0 + (1 : Int32))))))
noncomputable def p_X9_sigmaOf (F : Nat) (p0 : Int32) : Option Int32 := (p_X9_sigmaOf_L0 F p0 (fun v1_0 v2_0 => (some v1_0)) F (0 : Int32) (1 : Int32))
theorem hdS_X9_sigmaOf : yX9_sigmaOf.cls ≠ "java/lang/invoke/MethodHandle" ∧ yX9_sigmaOf.cls ≠ "java/lang/invoke/VarHandle" ∧ (parseMethodDescriptor yX9_sigmaOf.desc).map (fun d => d.parameters.length) = some 1 := by decide +kernel
set_option maxHeartbeats 4000000 in
set_option maxRecDepth 100000 in
theorem c_X9_sigmaOf (l : Launch) (D : va_G) (tys : List (ClassId × FieldType)) (F : Nat) (p0 : Int32) (r : Int32) (h : p_X9_sigmaOf F p0 = some r) : zMi l yX9_sigmaOf wsX9_sigmaOf 0 0 0 0 D tys [.int p0] ([] : va_W) ([] : va_W) r := by
  intro sz
  delta zQi
  refine Met.ofW (cc := cX9_sigmaOf) (maxL := 3) (ret := (some .int)) (by decide) rfl ?_
  intro p e s m args below meth c s₁ B hml hv
  obtain ⟨rfl, hsz, hP, hK, hD0⟩ := hv
  have hx := B.exec
  have hb := B.bytes
  have hr := B.returns
  have hts := atoms_spec (ws := wsX9_sigmaOf) B.pre
  have hown : s.vm.findClass RX9 = some m.cls := findClass_of_methodNamed B.named
  have hlocks := B.notSynchronized
  subst hsz
  have hD := hD0.self (sz := s.heap.size)
  generalize hAe : va_A ([] : va_W) s.heap.size = A at hD ⊢
  have hA : ∀ q : Nat, s.heap.size ≤ q → A q := fun q h => by rw [← hAe]; exact Or.inr h
  have hS : va_S A s.heap s.heap [] := va_S.rf
  have hl := lv_entry ([.int p0]) (n := 3) (Nat.le_of_ble_eq_true rfl)
  rw [lg_entry_eq]
  generalize (lg_sl ([.int p0]) ++ List.replicate (3 - (lg_sl ([.int p0])).length) Slot.unset).toArray = ls at hl ⊢
  replace hl : lv_has ls 3 [(0, .int p0)] := hl
  replace h : (p_X9_sigmaOf_L0 F p0 (fun v1_0 v2_0 => (some v1_0)) F (0 : Int32) (1 : Int32)) = some r := h
  refine zabs (fun G hG hGW => ?_)
  obtain ⟨H, hHe⟩ : ∃ H, H = s.heap := ⟨_, rfl⟩
  rw [← hHe] at hP
  replace hS : va_S A s.heap H [] := by rw [hHe]; exact hS
  refine zheap hHe ?_
  refine lv_iconst (v := (0 : Int32)) hx hb dX9_sigmaOf_0 (by decide) ?_
  refine lv_istore_n (lv' := [(1, .int (0 : Int32)), (0, .int p0)]) hx hb dX9_sigmaOf_1 rfl hl (by decide) rfl (fun ls hl => ?_)
  refine lv_iconst (v := (1 : Int32)) hx hb dX9_sigmaOf_2 (by decide) ?_
  refine lv_istore_n (lv' := [(2, .int (1 : Int32)), (1, .int (0 : Int32)), (0, .int p0)]) hx hb dX9_sigmaOf_3 rfl hl (by decide) rfl (fun ls hl => ?_)
  have X0 : ∀ (v1_0 : Int32) (v2_0 : Int32) (H : Heap) (locs : List Loc) (ls : Array Slot), va_P D vwCl ([] : va_W) H → va_D A ([] : va_W) → va_S A s.heap H locs → lv_has ls 3 [(0, .int p0), (1, .int v1_0), (2, .int v2_0)] → (some v1_0) = some r → G H locs 0 0 (F0 m 29 ls []) := by
    intro v1_0 v2_0 H locs ls hP hD hS hl h
    refine hG _ _ _ _ _ ?_
    refine lv_iload_n hx hb dX9_sigmaOf_29 rfl (lv_at hl 1 rfl) ?_
    have h1 := Option.some.inj h
    subst h1
    exact W.iret (v := v1_0) hx hb hr (fun t ht hW => ⟨⟨v1_0, (), rfl, rfl, by rw [ht]; exact hP, va_K.moved hW.alike hK, hD⟩, hS.F ht⟩) hS.2.2 dX9_sigmaOf_30
  have L0 : ∀ (K0 : Int32 → Int32 → Option Int32) (HX0 : ∀ (v1_0 : Int32) (v2_0 : Int32) (H : Heap) (locs : List Loc) (ls : Array Slot), va_P D vwCl ([] : va_W) H → va_D A ([] : va_W) → va_S A s.heap H locs → lv_has ls 3 [(0, .int p0), (1, .int v1_0), (2, .int v2_0)] → K0 v1_0 v2_0 = some r → G H locs 0 0 (F0 m 29 ls [])) (fu0 : Nat) (v1_0 : Int32) (v2_0 : Int32) (H : Heap) (locs : List Loc) (ls : Array Slot), va_P D vwCl ([] : va_W) H → va_D A ([] : va_W) → va_S A s.heap H locs → lv_has ls 3 [(0, .int p0), (1, .int v1_0), (2, .int v2_0)] → p_X9_sigmaOf_L0 F p0 K0 fu0 v1_0 v2_0 = some r → G H locs 0 0 (F0 m 4 ls []) := by
    intro K0 HX0 fu0
    induction fu0 with
    | zero =>
      intro v1_0 v2_0 H locs ls hP hD hS hl h
      exact (zno h).elim
    | succ fu0 ih0 =>
      intro v1_0 v2_0 H locs ls hP hD hS hl h
      refine hG _ _ _ _ _ ?_
      unfold p_X9_sigmaOf_L0 at h
      refine lv_iload_n hx hb dX9_sigmaOf_4 rfl (lv_at hl 2 rfl) ?_
      refine lv_iload_n hx hb dX9_sigmaOf_5 rfl (lv_at hl 0 rfl) ?_
      refine lv_icmp_gt (tgt := 29) hx hb dX9_sigmaOf_6 (by decide) (fun c6 => ?_) (fun c6 => ?_)
      · replace h := zif_t h c6
        exact hGW _ _ _ _ _ (HX0 v1_0 v2_0 _ _ ls hP hD hS (lv_sub hl [0, 1, 2] rfl) h)
      · replace h := zif_f h c6
        refine lv_iload_n hx hb dX9_sigmaOf_9 rfl (lv_at hl 1 rfl) ?_
        refine lv_iload_n hx hb dX9_sigmaOf_10 rfl (lv_at hl 0 rfl) ?_
        refine lv_iload_n hx hb dX9_sigmaOf_11 rfl (lv_at hl 2 rfl) ?_
        obtain ⟨z12, h⟩ := zg_some h
        refine lv_irem hx hb dX9_sigmaOf_12 z12 ?_
        refine lv_if_ne (tgt := 20) hx hb dX9_sigmaOf_13 (by decide) (fun c13 => ?_) (fun c13 => ?_)
        · replace h := zif_t h c13
          refine lv_iconst (v := (0 : Int32)) hx hb dX9_sigmaOf_20 (by decide) ?_
          refine lv_iadd hx hb dX9_sigmaOf_21 ?_
          refine lv_istore_n (lv' := [(1, .int (v1_0 + (0 : Int32))), (0, .int p0), (2, .int v2_0)]) hx hb dX9_sigmaOf_22 rfl hl (by decide) rfl (fun ls hl => ?_)
          refine lv_iinc (v := (v2_0 + (1 : Int32))) (lv' := [(2, .int (v2_0 + (1 : Int32))), (1, .int (v1_0 + (0 : Int32))), (0, .int p0)]) hx hb dX9_sigmaOf_23 hl (k := 2) rfl rfl (by decide) rfl (fun ls hl => ?_)
          refine lv_goto (tgt := 4) hx hb dX9_sigmaOf_26 (by decide) ?_
          exact hGW _ _ _ _ _ (ih0 (v1_0 + (0 : Int32)) (v2_0 + (1 : Int32)) _ _ ls hP hD hS (lv_sub hl [2, 1, 0] rfl) h)
        · replace h := zif_fn h c13
          refine lv_iload_n hx hb dX9_sigmaOf_16 rfl (lv_at hl 2 rfl) ?_
          refine lv_goto (tgt := 21) hx hb dX9_sigmaOf_17 (by decide) ?_
          refine lv_iadd hx hb dX9_sigmaOf_21 ?_
          refine lv_istore_n (lv' := [(1, .int (v1_0 + v2_0)), (0, .int p0), (2, .int v2_0)]) hx hb dX9_sigmaOf_22 rfl hl (by decide) rfl (fun ls hl => ?_)
          refine lv_iinc (v := (v2_0 + (1 : Int32))) (lv' := [(2, .int (v2_0 + (1 : Int32))), (1, .int (v1_0 + v2_0)), (0, .int p0)]) hx hb dX9_sigmaOf_23 hl (k := 2) rfl rfl (by decide) rfl (fun ls hl => ?_)
          refine lv_goto (tgt := 4) hx hb dX9_sigmaOf_26 (by decide) ?_
          exact hGW _ _ _ _ _ (ih0 (v1_0 + v2_0) (v2_0 + (1 : Int32)) _ _ ls hP hD hS (lv_sub hl [2, 1, 0] rfl) h)
  exact hGW _ _ _ _ _ (L0 _ X0 F (0 : Int32) (1 : Int32) _ _ ls hP hD hS (lv_sub hl [2, 1, 0] rfl) h)

noncomputable def p_X9_phiOf_L0 (F : Nat) (p0 : Int32) (k : Int32 → Int32 → Option Int32) : Nat → Int32 → Int32 → Option Int32
  | 0, _, _ => none
  | n + 1, v1_0, v2_0 => (if p0 < v2_0 then (k v1_0 v2_0) else (zb1 (p_X9_common F v2_0 p0) (fun r1 => (if ¬ r1 = (1 : Int32) then (p_X9_phiOf_L0 F p0 k n (v1_0 + (0 : Int32)) (v2_0 + (1 : Int32))) else (p_X9_phiOf_L0 F p0 k n (v1_0 + (1 : Int32)) (v2_0 + (1 : Int32)))))))
noncomputable def p_X9_phiOf (F : Nat) (p0 : Int32) : Option Int32 := (p_X9_phiOf_L0 F p0 (fun v1_0 v2_0 => (some v1_0)) F (0 : Int32) (1 : Int32))
theorem hdS_X9_phiOf : yX9_phiOf.cls ≠ "java/lang/invoke/MethodHandle" ∧ yX9_phiOf.cls ≠ "java/lang/invoke/VarHandle" ∧ (parseMethodDescriptor yX9_phiOf.desc).map (fun d => d.parameters.length) = some 1 := by decide +kernel
set_option maxHeartbeats 4000000 in
set_option maxRecDepth 100000 in
theorem c_X9_phiOf (l : Launch) (D : va_G) (tys : List (ClassId × FieldType)) (F : Nat) (p0 : Int32) (r : Int32) (h : p_X9_phiOf F p0 = some r) : zMi l yX9_phiOf wsX9_phiOf 2 43 0 0 D tys [.int p0] ([] : va_W) ([] : va_W) r := by
  intro sz
  delta zQi
  refine Met.ofW (cc := cX9_phiOf) (maxL := 3) (ret := (some .int)) (by decide) rfl ?_
  intro p e s m args below meth c s₁ B hml hv
  obtain ⟨rfl, hsz, hP, hK, hD0⟩ := hv
  have hx := B.exec
  have hb := B.bytes
  have hr := B.returns
  have hts := atoms_spec (ws := wsX9_phiOf) B.pre
  have hown : s.vm.findClass RX9 = some m.cls := findClass_of_methodNamed B.named
  have hlocks := B.notSynchronized
  subst hsz
  have hD := hD0.self (sz := s.heap.size)
  generalize hAe : va_A ([] : va_W) s.heap.size = A at hD ⊢
  have hA : ∀ q : Nat, s.heap.size ≤ q → A q := fun q h => by rw [← hAe]; exact Or.inr h
  have hS : va_S A s.heap s.heap [] := va_S.rf
  have hl := lv_entry ([.int p0]) (n := 3) (Nat.le_of_ble_eq_true rfl)
  rw [lg_entry_eq]
  generalize (lg_sl ([.int p0]) ++ List.replicate (3 - (lg_sl ([.int p0])).length) Slot.unset).toArray = ls at hl ⊢
  replace hl : lv_has ls 3 [(0, .int p0)] := hl
  replace h : (p_X9_phiOf_L0 F p0 (fun v1_0 v2_0 => (some v1_0)) F (0 : Int32) (1 : Int32)) = some r := h
  refine zabs (fun G hG hGW => ?_)
  obtain ⟨H, hHe⟩ : ∃ H, H = s.heap := ⟨_, rfl⟩
  rw [← hHe] at hP
  replace hS : va_S A s.heap H [] := by rw [hHe]; exact hS
  refine zheap hHe ?_
  refine lv_iconst (v := (0 : Int32)) hx hb dX9_phiOf_0 (by decide) ?_
  refine lv_istore_n (lv' := [(1, .int (0 : Int32)), (0, .int p0)]) hx hb dX9_phiOf_1 rfl hl (by decide) rfl (fun ls hl => ?_)
  refine lv_iconst (v := (1 : Int32)) hx hb dX9_phiOf_2 (by decide) ?_
  refine lv_istore_n (lv' := [(2, .int (1 : Int32)), (1, .int (0 : Int32)), (0, .int p0)]) hx hb dX9_phiOf_3 rfl hl (by decide) rfl (fun ls hl => ?_)
  have X0 : ∀ (v1_0 : Int32) (v2_0 : Int32) (H : Heap) (locs : List Loc) (ls : Array Slot), va_P D vwCl ([] : va_W) H → va_D A ([] : va_W) → va_S A s.heap H locs → lv_has ls 3 [(0, .int p0), (1, .int v1_0), (2, .int v2_0)] → (some v1_0) = some r → G H locs 0 0 (F0 m 32 ls []) := by
    intro v1_0 v2_0 H locs ls hP hD hS hl h
    refine hG _ _ _ _ _ ?_
    refine lv_iload_n hx hb dX9_phiOf_32 rfl (lv_at hl 1 rfl) ?_
    have h1 := Option.some.inj h
    subst h1
    exact W.iret (v := v1_0) hx hb hr (fun t ht hW => ⟨⟨v1_0, (), rfl, rfl, by rw [ht]; exact hP, va_K.moved hW.alike hK, hD⟩, hS.F ht⟩) hS.2.2 dX9_phiOf_33
  have L0 : ∀ (K0 : Int32 → Int32 → Option Int32) (HX0 : ∀ (v1_0 : Int32) (v2_0 : Int32) (H : Heap) (locs : List Loc) (ls : Array Slot), va_P D vwCl ([] : va_W) H → va_D A ([] : va_W) → va_S A s.heap H locs → lv_has ls 3 [(0, .int p0), (1, .int v1_0), (2, .int v2_0)] → K0 v1_0 v2_0 = some r → G H locs 0 0 (F0 m 32 ls [])) (fu0 : Nat) (v1_0 : Int32) (v2_0 : Int32) (H : Heap) (locs : List Loc) (ls : Array Slot), va_P D vwCl ([] : va_W) H → va_D A ([] : va_W) → va_S A s.heap H locs → lv_has ls 3 [(0, .int p0), (1, .int v1_0), (2, .int v2_0)] → p_X9_phiOf_L0 F p0 K0 fu0 v1_0 v2_0 = some r → G H locs 0 0 (F0 m 4 ls []) := by
    intro K0 HX0 fu0
    induction fu0 with
    | zero =>
      intro v1_0 v2_0 H locs ls hP hD hS hl h
      exact (zno h).elim
    | succ fu0 ih0 =>
      intro v1_0 v2_0 H locs ls hP hD hS hl h
      refine hG _ _ _ _ _ ?_
      unfold p_X9_phiOf_L0 at h
      refine lv_iload_n hx hb dX9_phiOf_4 rfl (lv_at hl 2 rfl) ?_
      refine lv_iload_n hx hb dX9_phiOf_5 rfl (lv_at hl 0 rfl) ?_
      refine lv_icmp_gt (tgt := 32) hx hb dX9_phiOf_6 (by decide) (fun c6 => ?_) (fun c6 => ?_)
      · replace h := zif_t h c6
        exact hGW _ _ _ _ _ (HX0 v1_0 v2_0 _ _ ls hP hD hS (lv_sub hl [0, 1, 2] rfl) h)
      · replace h := zif_f h c6
        refine lv_iload_n hx hb dX9_phiOf_9 rfl (lv_at hl 1 rfl) ?_
        refine lv_iload_n hx hb dX9_phiOf_10 rfl (lv_at hl 2 rfl) ?_
        refine lv_iload_n hx hb dX9_phiOf_11 rfl (lv_at hl 0 rfl) ?_
        obtain ⟨r1, e2, h⟩ := zb1_some h
        refine zgoi (va_runS (As := [.int v2_0, .int p0]) (rest := [.int v1_0]) ⟨hx, hb, hml, hown, hts⟩ (c_X9_common l D tys F v2_0 p0 r1 e2 H.size) (va_cwS 2 hts gX9_phiOf_X9_common rfl rfl rfl hdS_X9_common ⟨Nat.le_of_ble_eq_true rfl, Nat.le_of_ble_eq_true rfl⟩) (zpreS hK zP0 (zD0 (A := A)) [.int v2_0, .int p0]) rfl rfl hl.1 rfl (lv_room (Nat.le_of_ble_eq_true rfl)) dX9_phiOf_12 ⟨Nat.le_of_ble_eq_true rfl, Nat.le_of_ble_eq_true rfl⟩) (zf0 hS hA) (zjE hP hD) hS (fun H locs hP hD hS => ?_)
        refine lv_iconst (v := (1 : Int32)) hx hb dX9_phiOf_15 (by decide) ?_
        refine lv_icmp_ne (tgt := 23) hx hb dX9_phiOf_16 (by decide) (fun c16 => ?_) (fun c16 => ?_)
        · replace h := zif_t h c16
          refine lv_iconst (v := (0 : Int32)) hx hb dX9_phiOf_23 (by decide) ?_
          refine lv_iadd hx hb dX9_phiOf_24 ?_
          refine lv_istore_n (lv' := [(1, .int (v1_0 + (0 : Int32))), (0, .int p0), (2, .int v2_0)]) hx hb dX9_phiOf_25 rfl hl (by decide) rfl (fun ls hl => ?_)
          refine lv_iinc (v := (v2_0 + (1 : Int32))) (lv' := [(2, .int (v2_0 + (1 : Int32))), (1, .int (v1_0 + (0 : Int32))), (0, .int p0)]) hx hb dX9_phiOf_26 hl (k := 2) rfl rfl (by decide) rfl (fun ls hl => ?_)
          refine lv_goto (tgt := 4) hx hb dX9_phiOf_29 (by decide) ?_
          exact hGW _ _ _ _ _ (ih0 (v1_0 + (0 : Int32)) (v2_0 + (1 : Int32)) _ _ ls hP hD hS (lv_sub hl [2, 1, 0] rfl) h)
        · replace h := zif_fn h c16
          refine lv_iconst (v := (1 : Int32)) hx hb dX9_phiOf_19 (by decide) ?_
          refine lv_goto (tgt := 24) hx hb dX9_phiOf_20 (by decide) ?_
          refine lv_iadd hx hb dX9_phiOf_24 ?_
          refine lv_istore_n (lv' := [(1, .int (v1_0 + (1 : Int32))), (0, .int p0), (2, .int v2_0)]) hx hb dX9_phiOf_25 rfl hl (by decide) rfl (fun ls hl => ?_)
          refine lv_iinc (v := (v2_0 + (1 : Int32))) (lv' := [(2, .int (v2_0 + (1 : Int32))), (1, .int (v1_0 + (1 : Int32))), (0, .int p0)]) hx hb dX9_phiOf_26 hl (k := 2) rfl rfl (by decide) rfl (fun ls hl => ?_)
          refine lv_goto (tgt := 4) hx hb dX9_phiOf_29 (by decide) ?_
          exact hGW _ _ _ _ _ (ih0 (v1_0 + (1 : Int32)) (v2_0 + (1 : Int32)) _ _ ls hP hD hS (lv_sub hl [2, 1, 0] rfl) h)
  exact hGW _ _ _ _ _ (L0 _ X0 F (0 : Int32) (1 : Int32) _ _ ls hP hD hS (lv_sub hl [2, 1, 0] rfl) h)

noncomputable def p_X9_plus (ib : Bool) (p0 : Int64) (p1 : Int64) : Option (Int64 × Bool) := (zlt (if 0 ≤ (lg_cmp p0 (0 : Int64)) then (some ((p0 + p1), ib)) else (if 0 ≤ (lg_cmp p1 (0 : Int64)) then (some ((p0 + p1), ib)) else (if (lg_cmp (p0 + p1) (0 : Int64)) < 0 then (some ((p0 + p1), ib)) else (some ((p0 + p1), true))))) (fun jf0 => (if (lg_cmp p0 (0 : Int64)) ≤ 0 then (jf0 ) else (if (lg_cmp p1 (0 : Int64)) ≤ 0 then (jf0 ) else (if (lg_cmp (p0 + p1) (0 : Int64)) < 0 then (some ((p0 + p1), true)) else (jf0 ))))))
theorem hdV_X9_plus : yX9_plus.cls = RX9 ∧ yX9_plus.cls ≠ "java/lang/invoke/MethodHandle" ∧ yX9_plus.cls ≠ "java/lang/invoke/VarHandle" ∧ (parseMethodDescriptor yX9_plus.desc).map (fun d => d.parameters.length) = some 2 := by decide +kernel
set_option maxHeartbeats 4000000 in
set_option maxRecDepth 100000 in
theorem c_X9_plus (l : Launch) (D : va_G) (q v : Nat) (cJ cI cO cB : ClassId) (V : Nat → Int64) (ib : Bool) (dn : Int32) (rf : Int32) (mk : Int32) (th : Int32) (p0 : Int64) (p1 : Int64) (r : Int64) (ib' : Bool) (h : p_X9_plus ib p0 p1 = some (r, ib')) : zMl l yX9_plus wsX9_plus 0 0 0 0 D (zT cJ cI cO cB) [.ref q, .long p0, .long p1] (mW q v cJ V ib dn rf mk th) (mW q v cJ V ib' dn rf mk th) r := by
  intro sz
  delta zQl
  refine Met.ofW (cc := cX9_plus) (maxL := 7) (ret := (some .long)) (by decide) rfl ?_
  intro p e s m args below meth c s₁ B hml hv
  obtain ⟨rfl, hsz, hP, hK, hD0⟩ := hv
  have hx := B.exec
  have hb := B.bytes
  have hr := B.returns
  have hts := atoms_spec (ws := wsX9_plus) B.pre
  have hown : s.vm.findClass RX9 = some m.cls := findClass_of_methodNamed B.named
  have hlocks := B.notSynchronized
  subst hsz
  have hD := hD0.self (sz := s.heap.size)
  generalize hAe : va_A (mW q v cJ V ib dn rf mk th) s.heap.size = A at hD ⊢
  have hA : ∀ q : Nat, s.heap.size ≤ q → A q := fun q h => by rw [← hAe]; exact Or.inr h
  have hS : va_S A s.heap s.heap [] := va_S.rf
  have hl := lv_entry ([.ref q, .long p0, .long p1]) (n := 7) (Nat.le_of_ble_eq_true rfl)
  rw [lg_entry_eq]
  generalize (lg_sl ([.ref q, .long p0, .long p1]) ++ List.replicate (7 - (lg_sl ([.ref q, .long p0, .long p1])).length) Slot.unset).toArray = ls at hl ⊢
  replace hl : lv_has ls 7 [(0, .ref q), (1, .long p0), (3, .long p1)] := hl
  have kwX9 : ∀ w ∈ u_ws RX9 TX9 6, w ∈ wsX9_plus := fun w h => List.mem_cons_of_mem _ (List.mem_append_right _ h)
  have kf_36 := hts (.fieldLink RX9 36 "DivisorworkModel" "isBeyond" "Z") (zmem 1 rfl)
  replace h : (zlt (if 0 ≤ (lg_cmp p0 (0 : Int64)) then (some ((p0 + p1), ib)) else (if 0 ≤ (lg_cmp p1 (0 : Int64)) then (some ((p0 + p1), ib)) else (if (lg_cmp (p0 + p1) (0 : Int64)) < 0 then (some ((p0 + p1), ib)) else (some ((p0 + p1), true))))) (fun jf0 => (if (lg_cmp p0 (0 : Int64)) ≤ 0 then (jf0 ) else (if (lg_cmp p1 (0 : Int64)) ≤ 0 then (jf0 ) else (if (lg_cmp (p0 + p1) (0 : Int64)) < 0 then (some ((p0 + p1), true)) else (jf0 )))))) = some (r, ib') := h
  refine zabs (fun G hG hGW => ?_)
  obtain ⟨H, hHe⟩ : ∃ H, H = s.heap := ⟨_, rfl⟩
  rw [← hHe] at hP
  replace hS : va_S A s.heap H [] := by rw [hHe]; exact hS
  refine zheap hHe ?_
  refine lv_lload_n hx hb dX9_plus_0 rfl (lv_at hl 1 rfl) ?_
  refine lv_lload_n hx hb dX9_plus_1 rfl (lv_at hl 2 rfl) ?_
  refine lv_ladd hx hb dX9_plus_2 ?_
  refine lv_lstore (lv' := [(5, .long (p0 + p1)), (0, .ref q), (1, .long p0), (3, .long p1)]) hx hb dX9_plus_3 hl (by decide) rfl (fun ls hl => ?_)
  refine lv_lload_n hx hb dX9_plus_5 rfl (lv_at hl 2 rfl) ?_
  refine lv_lconst (v := (0 : Int64)) hx hb dX9_plus_6 (by decide) ?_
  refine W.lcmp hx hb dX9_plus_7 ?_
  have J0 : ∀  (H : Heap) (locs : List Loc) (ls : Array Slot), va_P D vwCl (mW q v cJ V ib dn rf mk th) H → va_D A (mW q v cJ V ib dn rf mk th) → va_S A s.heap H locs → lv_has ls 7 [(0, .ref q), (1, .long p0), (3, .long p1), (5, .long (p0 + p1))] → (if 0 ≤ (lg_cmp p0 (0 : Int64)) then (some ((p0 + p1), ib)) else (if 0 ≤ (lg_cmp p1 (0 : Int64)) then (some ((p0 + p1), ib)) else (if (lg_cmp (p0 + p1) (0 : Int64)) < 0 then (some ((p0 + p1), ib)) else (some ((p0 + p1), true))))) = some (r, ib') → G H locs 0 0 (F0 m 24 ls []) := by
    intro  H locs ls hP hD hS hl h
    refine hG _ _ _ _ _ ?_
    refine lv_lload_n hx hb dX9_plus_24 rfl (lv_at hl 1 rfl) ?_
    refine lv_lconst (v := (0 : Int64)) hx hb dX9_plus_25 (by decide) ?_
    refine W.lcmp hx hb dX9_plus_26 ?_
    refine lv_if_ge (tgt := 48) hx hb dX9_plus_27 (by decide) (fun c27 => ?_) (fun c27 => ?_)
    · replace h := zif_t h c27
      refine lv_lload hx hb dX9_plus_48 (lv_at hl 3 rfl) ?_
      have g0 := Option.some.inj h
      obtain ⟨h1, g1⟩ := Prod.mk.inj g0
      subst h1
      subst g1
      exact W.lret (v := (p0 + p1)) hx hb hr (fun t ht hW => ⟨⟨(p0 + p1), (), rfl, rfl, by rw [ht]; exact hP, va_K.moved hW.alike hK, hD⟩, hS.F ht⟩) hS.2.2 dX9_plus_50
    · replace h := zif_f h c27
      refine lv_lload_n hx hb dX9_plus_30 rfl (lv_at hl 2 rfl) ?_
      refine lv_lconst (v := (0 : Int64)) hx hb dX9_plus_31 (by decide) ?_
      refine W.lcmp hx hb dX9_plus_32 ?_
      refine lv_if_ge (tgt := 48) hx hb dX9_plus_33 (by decide) (fun c33 => ?_) (fun c33 => ?_)
      · replace h := zif_t h c33
        refine lv_lload hx hb dX9_plus_48 (lv_at hl 3 rfl) ?_
        have g0 := Option.some.inj h
        obtain ⟨h1, g1⟩ := Prod.mk.inj g0
        subst h1
        subst g1
        exact W.lret (v := (p0 + p1)) hx hb hr (fun t ht hW => ⟨⟨(p0 + p1), (), rfl, rfl, by rw [ht]; exact hP, va_K.moved hW.alike hK, hD⟩, hS.F ht⟩) hS.2.2 dX9_plus_50
      · replace h := zif_f h c33
        refine lv_lload hx hb dX9_plus_36 (lv_at hl 3 rfl) ?_
        refine lv_lconst (v := (0 : Int64)) hx hb dX9_plus_38 (by decide) ?_
        refine W.lcmp hx hb dX9_plus_39 ?_
        refine lv_if_lt (tgt := 48) hx hb dX9_plus_40 (by decide) (fun c40 => ?_) (fun c40 => ?_)
        · replace h := zif_t h c40
          refine lv_lload hx hb dX9_plus_48 (lv_at hl 3 rfl) ?_
          have g0 := Option.some.inj h
          obtain ⟨h1, g1⟩ := Prod.mk.inj g0
          subst h1
          subst g1
          exact W.lret (v := (p0 + p1)) hx hb hr (fun t ht hW => ⟨⟨(p0 + p1), (), rfl, rfl, by rw [ht]; exact hP, va_K.moved hW.alike hK, hD⟩, hS.F ht⟩) hS.2.2 dX9_plus_50
        · replace h := zif_f h c40
          refine lv_aload_n hx hb dX9_plus_43 rfl (lv_at hl 0 rfl) ?_
          refine lv_iconst (v := (1 : Int32)) hx hb dX9_plus_44 (by decide) ?_
          refine va_put (D := D) (ci := 9) (v := .int (z01 true)) (ty := .boolean) (C := RX9) (T := TX9) (N := 6) hx hb hts kwX9 tyX9 tyX9_ok nmX9 hown hK hP hD hS 0 rfl rfl 1 (by decide) kf_36 (fun _ h9 => h9) rfl rfl (z01_nar true) (z01_fit true) (Nat.le_of_ble_eq_true rfl) dX9_plus_45 (fun H locs hP hD hS => ?_)
          replace hP : va_P D vwCl (mW q v cJ V true dn rf mk th) H := hP
          replace hD : va_D A (mW q v cJ V true dn rf mk th) := hD
          refine lv_lload hx hb dX9_plus_48 (lv_at hl 3 rfl) ?_
          have g0 := Option.some.inj h
          obtain ⟨h1, g1⟩ := Prod.mk.inj g0
          subst h1
          subst g1
          exact W.lret (v := (p0 + p1)) hx hb hr (fun t ht hW => ⟨⟨(p0 + p1), (), rfl, rfl, by rw [ht]; exact hP, va_K.moved hW.alike hK, hD⟩, hS.F ht⟩) hS.2.2 dX9_plus_50
  replace h := zlt_h h
  refine lv_if_le (tgt := 24) hx hb dX9_plus_8 (by decide) (fun c8 => ?_) (fun c8 => ?_)
  · replace h := zif_t h c8
    exact hGW _ _ _ _ _ (J0  _ _ ls hP hD hS (lv_sub hl [1, 2, 3, 0] rfl) h)
  · replace h := zif_f h c8
    refine lv_lload_n hx hb dX9_plus_11 rfl (lv_at hl 3 rfl) ?_
    refine lv_lconst (v := (0 : Int64)) hx hb dX9_plus_12 (by decide) ?_
    refine W.lcmp hx hb dX9_plus_13 ?_
    refine lv_if_le (tgt := 24) hx hb dX9_plus_14 (by decide) (fun c14 => ?_) (fun c14 => ?_)
    · replace h := zif_t h c14
      exact hGW _ _ _ _ _ (J0  _ _ ls hP hD hS (lv_sub hl [1, 2, 3, 0] rfl) h)
    · replace h := zif_f h c14
      refine lv_lload hx hb dX9_plus_17 (lv_at hl 0 rfl) ?_
      refine lv_lconst (v := (0 : Int64)) hx hb dX9_plus_19 (by decide) ?_
      refine W.lcmp hx hb dX9_plus_20 ?_
      refine lv_if_lt (tgt := 43) hx hb dX9_plus_21 (by decide) (fun c21 => ?_) (fun c21 => ?_)
      · replace h := zif_t h c21
        refine lv_aload_n hx hb dX9_plus_43 rfl (lv_at hl 1 rfl) ?_
        refine lv_iconst (v := (1 : Int32)) hx hb dX9_plus_44 (by decide) ?_
        refine va_put (D := D) (ci := 9) (v := .int (z01 true)) (ty := .boolean) (C := RX9) (T := TX9) (N := 6) hx hb hts kwX9 tyX9 tyX9_ok nmX9 hown hK hP hD hS 0 rfl rfl 1 (by decide) kf_36 (fun _ h9 => h9) rfl rfl (z01_nar true) (z01_fit true) (Nat.le_of_ble_eq_true rfl) dX9_plus_45 (fun H locs hP hD hS => ?_)
        replace hP : va_P D vwCl (mW q v cJ V true dn rf mk th) H := hP
        replace hD : va_D A (mW q v cJ V true dn rf mk th) := hD
        refine lv_lload hx hb dX9_plus_48 (lv_at hl 0 rfl) ?_
        have g0 := Option.some.inj h
        obtain ⟨h1, g1⟩ := Prod.mk.inj g0
        subst h1
        subst g1
        exact W.lret (v := (p0 + p1)) hx hb hr (fun t ht hW => ⟨⟨(p0 + p1), (), rfl, rfl, by rw [ht]; exact hP, va_K.moved hW.alike hK, hD⟩, hS.F ht⟩) hS.2.2 dX9_plus_50
      · replace h := zif_f h c21
        exact hGW _ _ _ _ _ (J0  _ _ ls hP hD hS (lv_sub hl [1, 2, 3, 0] rfl) h)

noncomputable def p_X9_times (ib : Bool) (p0 : Int64) (p1 : Int64) : Option (Int64 × Bool) := (if ¬ (lg_cmp p0 (-1 : Int64)) = 0 then (if (lg_cmp p0 (0 : Int64)) = 0 then (some ((p0 * p1), ib)) else (zg (p0 = 0) (if (lg_cmp ((p0 * p1) / p0) p1) = 0 then (some ((p0 * p1), ib)) else (some ((p0 * p1), true))))) else (if ¬ (lg_cmp p1 (-9223372036854775808 : Int64)) = 0 then (some ((p0 * p1), ib)) else (some ((p0 * p1), true))))
theorem hdV_X9_times : yX9_times.cls = RX9 ∧ yX9_times.cls ≠ "java/lang/invoke/MethodHandle" ∧ yX9_times.cls ≠ "java/lang/invoke/VarHandle" ∧ (parseMethodDescriptor yX9_times.desc).map (fun d => d.parameters.length) = some 2 := by decide +kernel
set_option maxHeartbeats 4000000 in
set_option maxRecDepth 100000 in
theorem c_X9_times (l : Launch) (D : va_G) (q v : Nat) (cJ cI cO cB : ClassId) (V : Nat → Int64) (ib : Bool) (dn : Int32) (rf : Int32) (mk : Int32) (th : Int32) (p0 : Int64) (p1 : Int64) (r : Int64) (ib' : Bool) (h : p_X9_times ib p0 p1 = some (r, ib')) : zMl l yX9_times wsX9_times 0 0 0 0 D (zT cJ cI cO cB) [.ref q, .long p0, .long p1] (mW q v cJ V ib dn rf mk th) (mW q v cJ V ib' dn rf mk th) r := by
  intro sz
  delta zQl
  refine Met.ofW (cc := cX9_times) (maxL := 7) (ret := (some .long)) (by decide) rfl ?_
  intro p e s m args below meth c s₁ B hml hv
  obtain ⟨rfl, hsz, hP, hK, hD0⟩ := hv
  have hx := B.exec
  have hb := B.bytes
  have hr := B.returns
  have hts := atoms_spec (ws := wsX9_times) B.pre
  have hown : s.vm.findClass RX9 = some m.cls := findClass_of_methodNamed B.named
  have hlocks := B.notSynchronized
  subst hsz
  have hD := hD0.self (sz := s.heap.size)
  generalize hAe : va_A (mW q v cJ V ib dn rf mk th) s.heap.size = A at hD ⊢
  have hA : ∀ q : Nat, s.heap.size ≤ q → A q := fun q h => by rw [← hAe]; exact Or.inr h
  have hS : va_S A s.heap s.heap [] := va_S.rf
  have hl := lv_entry ([.ref q, .long p0, .long p1]) (n := 7) (Nat.le_of_ble_eq_true rfl)
  rw [lg_entry_eq]
  generalize (lg_sl ([.ref q, .long p0, .long p1]) ++ List.replicate (7 - (lg_sl ([.ref q, .long p0, .long p1])).length) Slot.unset).toArray = ls at hl ⊢
  replace hl : lv_has ls 7 [(0, .ref q), (1, .long p0), (3, .long p1)] := hl
  have kc_40 := hts (.constantLong RX9 40 (-1)) (zmem 1 rfl)
  have kwX9 : ∀ w ∈ u_ws RX9 TX9 6, w ∈ wsX9_times := fun w h => List.mem_cons_of_mem _ (List.mem_append_right _ h)
  have kf_36 := hts (.fieldLink RX9 36 "DivisorworkModel" "isBeyond" "Z") (zmem 3 rfl)
  have kc_44 := hts (.constantLong RX9 44 (-9223372036854775808)) (zmem 2 rfl)
  replace h : (if ¬ (lg_cmp p0 (-1 : Int64)) = 0 then (if (lg_cmp p0 (0 : Int64)) = 0 then (some ((p0 * p1), ib)) else (zg (p0 = 0) (if (lg_cmp ((p0 * p1) / p0) p1) = 0 then (some ((p0 * p1), ib)) else (some ((p0 * p1), true))))) else (if ¬ (lg_cmp p1 (-9223372036854775808 : Int64)) = 0 then (some ((p0 * p1), ib)) else (some ((p0 * p1), true)))) = some (r, ib') := h
  obtain ⟨H, hHe⟩ : ∃ H, H = s.heap := ⟨_, rfl⟩
  rw [← hHe] at hP
  replace hS : va_S A s.heap H [] := by rw [hHe]; exact hS
  refine zheap hHe ?_
  refine lv_lload_n hx hb dX9_times_0 rfl (lv_at hl 1 rfl) ?_
  refine lv_lload_n hx hb dX9_times_1 rfl (lv_at hl 2 rfl) ?_
  refine lv_lmul hx hb dX9_times_2 ?_
  refine lv_lstore (lv' := [(5, .long (p0 * p1)), (0, .ref q), (1, .long p0), (3, .long p1)]) hx hb dX9_times_3 hl (by decide) rfl (fun ls hl => ?_)
  refine lv_lload_n hx hb dX9_times_5 rfl (lv_at hl 2 rfl) ?_
  refine lv_ldc2 hx hb hown kc_40 dX9_times_6 ?_
  refine W.lcmp hx hb dX9_times_9 ?_
  refine lv_if_ne (tgt := 24) hx hb dX9_times_10 (by decide) (fun c10 => ?_) (fun c10 => ?_)
  · replace h := zif_t h c10
    refine lv_lload_n hx hb dX9_times_24 rfl (lv_at hl 2 rfl) ?_
    refine lv_lconst (v := (0 : Int64)) hx hb dX9_times_25 (by decide) ?_
    refine W.lcmp hx hb dX9_times_26 ?_
    refine lv_if_eq (tgt := 44) hx hb dX9_times_27 (by decide) (fun c27 => ?_) (fun c27 => ?_)
    · replace h := zif_t h c27
      refine lv_lload hx hb dX9_times_44 (lv_at hl 0 rfl) ?_
      have g0 := Option.some.inj h
      obtain ⟨h1, g1⟩ := Prod.mk.inj g0
      subst h1
      subst g1
      exact W.lret (v := (p0 * p1)) hx hb hr (fun t ht hW => ⟨⟨(p0 * p1), (), rfl, rfl, by rw [ht]; exact hP, va_K.moved hW.alike hK, hD⟩, hS.F ht⟩) hS.2.2 dX9_times_46
    · replace h := zif_f h c27
      refine lv_lload hx hb dX9_times_30 (lv_at hl 0 rfl) ?_
      refine lv_lload_n hx hb dX9_times_32 rfl (lv_at hl 2 rfl) ?_
      obtain ⟨z33, h⟩ := zg_some h
      refine lv_ldiv hx hb dX9_times_33 z33 ?_
      refine lv_lload_n hx hb dX9_times_34 rfl (lv_at hl 3 rfl) ?_
      refine W.lcmp hx hb dX9_times_35 ?_
      refine lv_if_eq (tgt := 44) hx hb dX9_times_36 (by decide) (fun c36 => ?_) (fun c36 => ?_)
      · replace h := zif_t h c36
        refine lv_lload hx hb dX9_times_44 (lv_at hl 0 rfl) ?_
        have g0 := Option.some.inj h
        obtain ⟨h1, g1⟩ := Prod.mk.inj g0
        subst h1
        subst g1
        exact W.lret (v := (p0 * p1)) hx hb hr (fun t ht hW => ⟨⟨(p0 * p1), (), rfl, rfl, by rw [ht]; exact hP, va_K.moved hW.alike hK, hD⟩, hS.F ht⟩) hS.2.2 dX9_times_46
      · replace h := zif_f h c36
        refine lv_aload_n hx hb dX9_times_39 rfl (lv_at hl 1 rfl) ?_
        refine lv_iconst (v := (1 : Int32)) hx hb dX9_times_40 (by decide) ?_
        refine va_put (D := D) (ci := 9) (v := .int (z01 true)) (ty := .boolean) (C := RX9) (T := TX9) (N := 6) hx hb hts kwX9 tyX9 tyX9_ok nmX9 hown hK hP hD hS 0 rfl rfl 1 (by decide) kf_36 (fun _ h9 => h9) rfl rfl (z01_nar true) (z01_fit true) (Nat.le_of_ble_eq_true rfl) dX9_times_41 (fun H locs hP hD hS => ?_)
        replace hP : va_P D vwCl (mW q v cJ V true dn rf mk th) H := hP
        replace hD : va_D A (mW q v cJ V true dn rf mk th) := hD
        refine lv_lload hx hb dX9_times_44 (lv_at hl 0 rfl) ?_
        have g0 := Option.some.inj h
        obtain ⟨h1, g1⟩ := Prod.mk.inj g0
        subst h1
        subst g1
        exact W.lret (v := (p0 * p1)) hx hb hr (fun t ht hW => ⟨⟨(p0 * p1), (), rfl, rfl, by rw [ht]; exact hP, va_K.moved hW.alike hK, hD⟩, hS.F ht⟩) hS.2.2 dX9_times_46
  · replace h := zif_fn h c10
    refine lv_lload_n hx hb dX9_times_13 rfl (lv_at hl 3 rfl) ?_
    refine lv_ldc2 hx hb hown kc_44 dX9_times_14 ?_
    refine W.lcmp hx hb dX9_times_17 ?_
    refine lv_if_ne (tgt := 44) hx hb dX9_times_18 (by decide) (fun c18 => ?_) (fun c18 => ?_)
    · replace h := zif_t h c18
      refine lv_lload hx hb dX9_times_44 (lv_at hl 0 rfl) ?_
      have g0 := Option.some.inj h
      obtain ⟨h1, g1⟩ := Prod.mk.inj g0
      subst h1
      subst g1
      exact W.lret (v := (p0 * p1)) hx hb hr (fun t ht hW => ⟨⟨(p0 * p1), (), rfl, rfl, by rw [ht]; exact hP, va_K.moved hW.alike hK, hD⟩, hS.F ht⟩) hS.2.2 dX9_times_46
    · replace h := zif_fn h c18
      refine lv_goto (tgt := 39) hx hb dX9_times_21 (by decide) ?_
      refine lv_aload_n hx hb dX9_times_39 rfl (lv_at hl 1 rfl) ?_
      refine lv_iconst (v := (1 : Int32)) hx hb dX9_times_40 (by decide) ?_
      refine va_put (D := D) (ci := 9) (v := .int (z01 true)) (ty := .boolean) (C := RX9) (T := TX9) (N := 6) hx hb hts kwX9 tyX9 tyX9_ok nmX9 hown hK hP hD hS 0 rfl rfl 1 (by decide) kf_36 (fun _ h9 => h9) rfl rfl (z01_nar true) (z01_fit true) (Nat.le_of_ble_eq_true rfl) dX9_times_41 (fun H locs hP hD hS => ?_)
      replace hP : va_P D vwCl (mW q v cJ V true dn rf mk th) H := hP
      replace hD : va_D A (mW q v cJ V true dn rf mk th) := hD
      refine lv_lload hx hb dX9_times_44 (lv_at hl 0 rfl) ?_
      have g0 := Option.some.inj h
      obtain ⟨h1, g1⟩ := Prod.mk.inj g0
      subst h1
      subst g1
      exact W.lret (v := (p0 * p1)) hx hb hr (fun t ht hW => ⟨⟨(p0 * p1), (), rfl, rfl, by rw [ht]; exact hP, va_K.moved hW.alike hK, hD⟩, hS.F ht⟩) hS.2.2 dX9_times_46

noncomputable def p_X9_known (F : Nat) (p0 : Int32) (p1 : Int32) : Option Int64 := (if p0 = (0 : Int32) then (if ¬ p1 = (1 : Int32) then (some (0 : Int64)) else (some (1 : Int64))) else (if p0 = (1 : Int32) then (some (1 : Int64)) else (if p0 = (2 : Int32) then (some (p1.toInt64)) else (if p0 = (3 : Int32) then (zb1 (p_X9_signOf F p1) (fun r1 => (some (r1.toInt64)))) else (if p0 = (4 : Int32) then (zb1 (p_X9_phiOf F p1) (fun r3 => (some (r3.toInt64)))) else (if p0 = (5 : Int32) then (zb1 (p_X9_tauOf F p1) (fun r5 => (some (r5.toInt64)))) else (if p0 = (6 : Int32) then (zb1 (p_X9_sigmaOf F p1) (fun r7 => (some (r7.toInt64)))) else (if p0 = (7 : Int32) then (zb1 (p_X9_squareOf F p1) (fun r9 => (if ¬ r9 = (1 : Int32) then (some (0 : Int64)) else (some (1 : Int64))))) else (if p0 = (8 : Int32) then (zb1 (p_X9_all F p1) (fun r11 => (if ¬ (zr r11 (2 : Int32)) = 0 then (some (-1 : Int64)) else (some (1 : Int64))))) else (if p0 = (9 : Int32) then (zb1 (p_X9_squareOf F p1) (fun r13 => (if ¬ r13 = p1 then (some (0 : Int64)) else (some (1 : Int64))))) else (some ((p1 * p1).toInt64))))))))))))
theorem hdS_X9_known : yX9_known.cls ≠ "java/lang/invoke/MethodHandle" ∧ yX9_known.cls ≠ "java/lang/invoke/VarHandle" ∧ (parseMethodDescriptor yX9_known.desc).map (fun d => d.parameters.length) = some 2 := by decide +kernel
set_option maxHeartbeats 4000000 in
set_option maxRecDepth 100000 in
theorem c_X9_known (l : Launch) (D : va_G) (tys : List (ClassId × FieldType)) (F : Nat) (p0 : Int32) (p1 : Int32) (r : Int64) (h : p_X9_known F p0 p1 = some r) : zMl l yX9_known wsX9_known 3 65 0 0 D tys [.int p0, .int p1] ([] : va_W) ([] : va_W) r := by
  intro sz
  delta zQl
  refine Met.ofW (cc := cX9_known) (maxL := 2) (ret := (some .long)) (by decide) rfl ?_
  intro p e s m args below meth c s₁ B hml hv
  obtain ⟨rfl, hsz, hP, hK, hD0⟩ := hv
  have hx := B.exec
  have hb := B.bytes
  have hr := B.returns
  have hts := atoms_spec (ws := wsX9_known) B.pre
  have hown : s.vm.findClass RX9 = some m.cls := findClass_of_methodNamed B.named
  have hlocks := B.notSynchronized
  subst hsz
  have hD := hD0.self (sz := s.heap.size)
  generalize hAe : va_A ([] : va_W) s.heap.size = A at hD ⊢
  have hA : ∀ q : Nat, s.heap.size ≤ q → A q := fun q h => by rw [← hAe]; exact Or.inr h
  have hS : va_S A s.heap s.heap [] := va_S.rf
  have hl := lv_entry ([.int p0, .int p1]) (n := 2) (Nat.le_of_ble_eq_true rfl)
  rw [lg_entry_eq]
  generalize (lg_sl ([.int p0, .int p1]) ++ List.replicate (2 - (lg_sl ([.int p0, .int p1])).length) Slot.unset).toArray = ls at hl ⊢
  replace hl : lv_has ls 2 [(0, .int p0), (1, .int p1)] := hl
  have kc_40 := hts (.constantLong RX9 40 (-1)) (zmem 1 rfl)
  replace h : (if p0 = (0 : Int32) then (if ¬ p1 = (1 : Int32) then (some (0 : Int64)) else (some (1 : Int64))) else (if p0 = (1 : Int32) then (some (1 : Int64)) else (if p0 = (2 : Int32) then (some (p1.toInt64)) else (if p0 = (3 : Int32) then (zb1 (p_X9_signOf F p1) (fun r1 => (some (r1.toInt64)))) else (if p0 = (4 : Int32) then (zb1 (p_X9_phiOf F p1) (fun r3 => (some (r3.toInt64)))) else (if p0 = (5 : Int32) then (zb1 (p_X9_tauOf F p1) (fun r5 => (some (r5.toInt64)))) else (if p0 = (6 : Int32) then (zb1 (p_X9_sigmaOf F p1) (fun r7 => (some (r7.toInt64)))) else (if p0 = (7 : Int32) then (zb1 (p_X9_squareOf F p1) (fun r9 => (if ¬ r9 = (1 : Int32) then (some (0 : Int64)) else (some (1 : Int64))))) else (if p0 = (8 : Int32) then (zb1 (p_X9_all F p1) (fun r11 => (if ¬ (zr r11 (2 : Int32)) = 0 then (some (-1 : Int64)) else (some (1 : Int64))))) else (if p0 = (9 : Int32) then (zb1 (p_X9_squareOf F p1) (fun r13 => (if ¬ r13 = p1 then (some (0 : Int64)) else (some (1 : Int64))))) else (some ((p1 * p1).toInt64)))))))))))) = some r := h
  obtain ⟨H, hHe⟩ : ∃ H, H = s.heap := ⟨_, rfl⟩
  rw [← hHe] at hP
  replace hS : va_S A s.heap H [] := by rw [hHe]; exact hS
  refine zheap hHe ?_
  refine lv_iload_n hx hb dX9_known_0 rfl (lv_at hl 0 rfl) ?_
  by_cases c1_0 : p0 = (0 : Int32)
  · replace h := zif_t h c1_0
    refine lv_tableIn (off := 55) (tgt := 56) hx hb dX9_known_1 (by rw [c1_0]; decide) (by rw [c1_0]; decide) (by rw [c1_0]; rfl) (by decide) ?_
    refine lv_iload_n hx hb dX9_known_56 rfl (lv_at hl 1 rfl) ?_
    refine lv_iconst (v := (1 : Int32)) hx hb dX9_known_57 (by decide) ?_
    refine lv_icmp_ne (tgt := 65) hx hb dX9_known_58 (by decide) (fun c58 => ?_) (fun c58 => ?_)
    · replace h := zif_t h c58
      refine lv_lconst (v := (0 : Int64)) hx hb dX9_known_65 (by decide) ?_
      have h1 := Option.some.inj h
      subst h1
      exact W.lret (v := (0 : Int64)) hx hb hr (fun t ht hW => ⟨⟨(0 : Int64), (), rfl, rfl, by rw [ht]; exact hP, va_K.moved hW.alike hK, hD⟩, hS.F ht⟩) hS.2.2 dX9_known_66
    · replace h := zif_fn h c58
      refine lv_lconst (v := (1 : Int64)) hx hb dX9_known_61 (by decide) ?_
      refine lv_goto (tgt := 66) hx hb dX9_known_62 (by decide) ?_
      have h1 := Option.some.inj h
      subst h1
      exact W.lret (v := (1 : Int64)) hx hb hr (fun t ht hW => ⟨⟨(1 : Int64), (), rfl, rfl, by rw [ht]; exact hP, va_K.moved hW.alike hK, hD⟩, hS.F ht⟩) hS.2.2 dX9_known_66
  · replace h := zif_f h c1_0
    by_cases c1_1 : p0 = (1 : Int32)
    · replace h := zif_t h c1_1
      refine lv_tableIn (off := 66) (tgt := 67) hx hb dX9_known_1 (by rw [c1_1]; decide) (by rw [c1_1]; decide) (by rw [c1_1]; rfl) (by decide) ?_
      refine lv_lconst (v := (1 : Int64)) hx hb dX9_known_67 (by decide) ?_
      have h1 := Option.some.inj h
      subst h1
      exact W.lret (v := (1 : Int64)) hx hb hr (fun t ht hW => ⟨⟨(1 : Int64), (), rfl, rfl, by rw [ht]; exact hP, va_K.moved hW.alike hK, hD⟩, hS.F ht⟩) hS.2.2 dX9_known_68
    · replace h := zif_f h c1_1
      by_cases c1_2 : p0 = (2 : Int32)
      · replace h := zif_t h c1_2
        refine lv_tableIn (off := 68) (tgt := 69) hx hb dX9_known_1 (by rw [c1_2]; decide) (by rw [c1_2]; decide) (by rw [c1_2]; rfl) (by decide) ?_
        refine lv_iload_n hx hb dX9_known_69 rfl (lv_at hl 1 rfl) ?_
        refine lv_i2l (v := p1.toInt64) hx hb dX9_known_70 rfl ?_
        have h1 := Option.some.inj h
        subst h1
        exact W.lret (v := (p1.toInt64)) hx hb hr (fun t ht hW => ⟨⟨(p1.toInt64), (), rfl, rfl, by rw [ht]; exact hP, va_K.moved hW.alike hK, hD⟩, hS.F ht⟩) hS.2.2 dX9_known_71
      · replace h := zif_f h c1_2
        by_cases c1_3 : p0 = (3 : Int32)
        · replace h := zif_t h c1_3
          refine lv_tableIn (off := 71) (tgt := 72) hx hb dX9_known_1 (by rw [c1_3]; decide) (by rw [c1_3]; decide) (by rw [c1_3]; rfl) (by decide) ?_
          refine lv_iload_n hx hb dX9_known_72 rfl (lv_at hl 1 rfl) ?_
          obtain ⟨r1, e2, h⟩ := zb1_some h
          refine zgoi (va_runS (As := [.int p1]) (rest := []) ⟨hx, hb, hml, hown, hts⟩ (c_X9_signOf l D tys F p1 r1 e2 H.size) (va_cwS 1 hts gX9_known_X9_signOf rfl rfl rfl hdS_X9_signOf ⟨Nat.le_of_ble_eq_true rfl, Nat.le_of_ble_eq_true rfl⟩) (zpreS hK zP0 (zD0 (A := A)) [.int p1]) rfl rfl hl.1 rfl (lv_room (Nat.le_of_ble_eq_true rfl)) dX9_known_73 ⟨Nat.le_of_ble_eq_true rfl, Nat.le_of_ble_eq_true rfl⟩) (zf0 hS hA) (zjE hP hD) hS (fun H locs hP hD hS => ?_)
          refine lv_i2l (v := r1.toInt64) hx hb dX9_known_76 rfl ?_
          have h1 := Option.some.inj h
          subst h1
          exact W.lret (v := (r1.toInt64)) hx hb hr (fun t ht hW => ⟨⟨(r1.toInt64), (), rfl, rfl, by rw [ht]; exact hP, va_K.moved hW.alike hK, hD⟩, hS.F ht⟩) hS.2.2 dX9_known_77
        · replace h := zif_f h c1_3
          by_cases c1_4 : p0 = (4 : Int32)
          · replace h := zif_t h c1_4
            refine lv_tableIn (off := 77) (tgt := 78) hx hb dX9_known_1 (by rw [c1_4]; decide) (by rw [c1_4]; decide) (by rw [c1_4]; rfl) (by decide) ?_
            refine lv_iload_n hx hb dX9_known_78 rfl (lv_at hl 1 rfl) ?_
            obtain ⟨r3, e4, h⟩ := zb1_some h
            refine zgoi (va_runS (As := [.int p1]) (rest := []) ⟨hx, hb, hml, hown, hts⟩ (c_X9_phiOf l D tys F p1 r3 e4 H.size) (va_cwS 1 hts gX9_known_X9_phiOf rfl rfl rfl hdS_X9_phiOf ⟨Nat.le_of_ble_eq_true rfl, Nat.le_of_ble_eq_true rfl⟩) (zpreS hK zP0 (zD0 (A := A)) [.int p1]) rfl rfl hl.1 rfl (lv_room (Nat.le_of_ble_eq_true rfl)) dX9_known_79 ⟨Nat.le_of_ble_eq_true rfl, Nat.le_of_ble_eq_true rfl⟩) (zf0 hS hA) (zjE hP hD) hS (fun H locs hP hD hS => ?_)
            refine lv_i2l (v := r3.toInt64) hx hb dX9_known_82 rfl ?_
            have h1 := Option.some.inj h
            subst h1
            exact W.lret (v := (r3.toInt64)) hx hb hr (fun t ht hW => ⟨⟨(r3.toInt64), (), rfl, rfl, by rw [ht]; exact hP, va_K.moved hW.alike hK, hD⟩, hS.F ht⟩) hS.2.2 dX9_known_83
          · replace h := zif_f h c1_4
            by_cases c1_5 : p0 = (5 : Int32)
            · replace h := zif_t h c1_5
              refine lv_tableIn (off := 83) (tgt := 84) hx hb dX9_known_1 (by rw [c1_5]; decide) (by rw [c1_5]; decide) (by rw [c1_5]; rfl) (by decide) ?_
              refine lv_iload_n hx hb dX9_known_84 rfl (lv_at hl 1 rfl) ?_
              obtain ⟨r5, e6, h⟩ := zb1_some h
              refine zgoi (va_runS (As := [.int p1]) (rest := []) ⟨hx, hb, hml, hown, hts⟩ (c_X9_tauOf l D tys F p1 r5 e6 H.size) (va_cwS 1 hts gX9_known_X9_tauOf rfl rfl rfl hdS_X9_tauOf ⟨Nat.le_of_ble_eq_true rfl, Nat.le_of_ble_eq_true rfl⟩) (zpreS hK zP0 (zD0 (A := A)) [.int p1]) rfl rfl hl.1 rfl (lv_room (Nat.le_of_ble_eq_true rfl)) dX9_known_85 ⟨Nat.le_of_ble_eq_true rfl, Nat.le_of_ble_eq_true rfl⟩) (zf0 hS hA) (zjE hP hD) hS (fun H locs hP hD hS => ?_)
              refine lv_i2l (v := r5.toInt64) hx hb dX9_known_88 rfl ?_
              have h1 := Option.some.inj h
              subst h1
              exact W.lret (v := (r5.toInt64)) hx hb hr (fun t ht hW => ⟨⟨(r5.toInt64), (), rfl, rfl, by rw [ht]; exact hP, va_K.moved hW.alike hK, hD⟩, hS.F ht⟩) hS.2.2 dX9_known_89
            · replace h := zif_f h c1_5
              by_cases c1_6 : p0 = (6 : Int32)
              · replace h := zif_t h c1_6
                refine lv_tableIn (off := 89) (tgt := 90) hx hb dX9_known_1 (by rw [c1_6]; decide) (by rw [c1_6]; decide) (by rw [c1_6]; rfl) (by decide) ?_
                refine lv_iload_n hx hb dX9_known_90 rfl (lv_at hl 1 rfl) ?_
                obtain ⟨r7, e8, h⟩ := zb1_some h
                refine zgoi (va_runS (As := [.int p1]) (rest := []) ⟨hx, hb, hml, hown, hts⟩ (c_X9_sigmaOf l D tys F p1 r7 e8 H.size) (va_cwS 1 hts gX9_known_X9_sigmaOf rfl rfl rfl hdS_X9_sigmaOf ⟨Nat.le_of_ble_eq_true rfl, Nat.le_of_ble_eq_true rfl⟩) (zpreS hK zP0 (zD0 (A := A)) [.int p1]) rfl rfl hl.1 rfl (lv_room (Nat.le_of_ble_eq_true rfl)) dX9_known_91 ⟨Nat.le_of_ble_eq_true rfl, Nat.le_of_ble_eq_true rfl⟩) (zf0 hS hA) (zjE hP hD) hS (fun H locs hP hD hS => ?_)
                refine lv_i2l (v := r7.toInt64) hx hb dX9_known_94 rfl ?_
                have h1 := Option.some.inj h
                subst h1
                exact W.lret (v := (r7.toInt64)) hx hb hr (fun t ht hW => ⟨⟨(r7.toInt64), (), rfl, rfl, by rw [ht]; exact hP, va_K.moved hW.alike hK, hD⟩, hS.F ht⟩) hS.2.2 dX9_known_95
              · replace h := zif_f h c1_6
                by_cases c1_7 : p0 = (7 : Int32)
                · replace h := zif_t h c1_7
                  refine lv_tableIn (off := 95) (tgt := 96) hx hb dX9_known_1 (by rw [c1_7]; decide) (by rw [c1_7]; decide) (by rw [c1_7]; rfl) (by decide) ?_
                  refine lv_iload_n hx hb dX9_known_96 rfl (lv_at hl 1 rfl) ?_
                  obtain ⟨r9, e10, h⟩ := zb1_some h
                  refine zgoi (va_runS (As := [.int p1]) (rest := []) ⟨hx, hb, hml, hown, hts⟩ (c_X9_squareOf l D tys F p1 r9 e10 H.size) (va_cwS 1 hts gX9_known_X9_squareOf rfl rfl rfl hdS_X9_squareOf ⟨Nat.le_of_ble_eq_true rfl, Nat.le_of_ble_eq_true rfl⟩) (zpreS hK zP0 (zD0 (A := A)) [.int p1]) rfl rfl hl.1 rfl (lv_room (Nat.le_of_ble_eq_true rfl)) dX9_known_97 ⟨Nat.le_of_ble_eq_true rfl, Nat.le_of_ble_eq_true rfl⟩) (zf0 hS hA) (zjE hP hD) hS (fun H locs hP hD hS => ?_)
                  refine lv_iconst (v := (1 : Int32)) hx hb dX9_known_100 (by decide) ?_
                  refine lv_icmp_ne (tgt := 108) hx hb dX9_known_101 (by decide) (fun c101 => ?_) (fun c101 => ?_)
                  · replace h := zif_t h c101
                    refine lv_lconst (v := (0 : Int64)) hx hb dX9_known_108 (by decide) ?_
                    have h1 := Option.some.inj h
                    subst h1
                    exact W.lret (v := (0 : Int64)) hx hb hr (fun t ht hW => ⟨⟨(0 : Int64), (), rfl, rfl, by rw [ht]; exact hP, va_K.moved hW.alike hK, hD⟩, hS.F ht⟩) hS.2.2 dX9_known_109
                  · replace h := zif_fn h c101
                    refine lv_lconst (v := (1 : Int64)) hx hb dX9_known_104 (by decide) ?_
                    refine lv_goto (tgt := 109) hx hb dX9_known_105 (by decide) ?_
                    have h1 := Option.some.inj h
                    subst h1
                    exact W.lret (v := (1 : Int64)) hx hb hr (fun t ht hW => ⟨⟨(1 : Int64), (), rfl, rfl, by rw [ht]; exact hP, va_K.moved hW.alike hK, hD⟩, hS.F ht⟩) hS.2.2 dX9_known_109
                · replace h := zif_f h c1_7
                  by_cases c1_8 : p0 = (8 : Int32)
                  · replace h := zif_t h c1_8
                    refine lv_tableIn (off := 109) (tgt := 110) hx hb dX9_known_1 (by rw [c1_8]; decide) (by rw [c1_8]; decide) (by rw [c1_8]; rfl) (by decide) ?_
                    refine lv_iload_n hx hb dX9_known_110 rfl (lv_at hl 1 rfl) ?_
                    obtain ⟨r11, e12, h⟩ := zb1_some h
                    refine zgoi (va_runS (As := [.int p1]) (rest := []) ⟨hx, hb, hml, hown, hts⟩ (c_X9_all l D tys F p1 r11 e12 H.size) (va_cwS 1 hts gX9_known_X9_all rfl rfl rfl hdS_X9_all ⟨Nat.le_of_ble_eq_true rfl, Nat.le_of_ble_eq_true rfl⟩) (zpreS hK zP0 (zD0 (A := A)) [.int p1]) rfl rfl hl.1 rfl (lv_room (Nat.le_of_ble_eq_true rfl)) dX9_known_111 ⟨Nat.le_of_ble_eq_true rfl, Nat.le_of_ble_eq_true rfl⟩) (zf0 hS hA) (zjE hP hD) hS (fun H locs hP hD hS => ?_)
                    refine lv_iconst (v := (2 : Int32)) hx hb dX9_known_114 (by decide) ?_
                    refine lv_irem hx hb dX9_known_115 (by decide) ?_
                    refine lv_if_ne (tgt := 123) hx hb dX9_known_116 (by decide) (fun c116 => ?_) (fun c116 => ?_)
                    · replace h := zif_t h c116
                      refine lv_ldc2 hx hb hown kc_40 dX9_known_123 ?_
                      have h1 := Option.some.inj h
                      subst h1
                      exact W.lret (v := (-1 : Int64)) hx hb hr (fun t ht hW => ⟨⟨(-1 : Int64), (), rfl, rfl, by rw [ht]; exact hP, va_K.moved hW.alike hK, hD⟩, hS.F ht⟩) hS.2.2 dX9_known_126
                    · replace h := zif_fn h c116
                      refine lv_lconst (v := (1 : Int64)) hx hb dX9_known_119 (by decide) ?_
                      refine lv_goto (tgt := 126) hx hb dX9_known_120 (by decide) ?_
                      have h1 := Option.some.inj h
                      subst h1
                      exact W.lret (v := (1 : Int64)) hx hb hr (fun t ht hW => ⟨⟨(1 : Int64), (), rfl, rfl, by rw [ht]; exact hP, va_K.moved hW.alike hK, hD⟩, hS.F ht⟩) hS.2.2 dX9_known_126
                  · replace h := zif_f h c1_8
                    by_cases c1_9 : p0 = (9 : Int32)
                    · replace h := zif_t h c1_9
                      refine lv_tableIn (off := 126) (tgt := 127) hx hb dX9_known_1 (by rw [c1_9]; decide) (by rw [c1_9]; decide) (by rw [c1_9]; rfl) (by decide) ?_
                      refine lv_iload_n hx hb dX9_known_127 rfl (lv_at hl 1 rfl) ?_
                      obtain ⟨r13, e14, h⟩ := zb1_some h
                      refine zgoi (va_runS (As := [.int p1]) (rest := []) ⟨hx, hb, hml, hown, hts⟩ (c_X9_squareOf l D tys F p1 r13 e14 H.size) (va_cwS 1 hts gX9_known_X9_squareOf rfl rfl rfl hdS_X9_squareOf ⟨Nat.le_of_ble_eq_true rfl, Nat.le_of_ble_eq_true rfl⟩) (zpreS hK zP0 (zD0 (A := A)) [.int p1]) rfl rfl hl.1 rfl (lv_room (Nat.le_of_ble_eq_true rfl)) dX9_known_128 ⟨Nat.le_of_ble_eq_true rfl, Nat.le_of_ble_eq_true rfl⟩) (zf0 hS hA) (zjE hP hD) hS (fun H locs hP hD hS => ?_)
                      refine lv_iload_n hx hb dX9_known_131 rfl (lv_at hl 1 rfl) ?_
                      refine lv_icmp_ne (tgt := 139) hx hb dX9_known_132 (by decide) (fun c132 => ?_) (fun c132 => ?_)
                      · replace h := zif_t h c132
                        refine lv_lconst (v := (0 : Int64)) hx hb dX9_known_139 (by decide) ?_
                        have h1 := Option.some.inj h
                        subst h1
                        exact W.lret (v := (0 : Int64)) hx hb hr (fun t ht hW => ⟨⟨(0 : Int64), (), rfl, rfl, by rw [ht]; exact hP, va_K.moved hW.alike hK, hD⟩, hS.F ht⟩) hS.2.2 dX9_known_140
                      · replace h := zif_fn h c132
                        refine lv_lconst (v := (1 : Int64)) hx hb dX9_known_135 (by decide) ?_
                        refine lv_goto (tgt := 140) hx hb dX9_known_136 (by decide) ?_
                        have h1 := Option.some.inj h
                        subst h1
                        exact W.lret (v := (1 : Int64)) hx hb hr (fun t ht hW => ⟨⟨(1 : Int64), (), rfl, rfl, by rw [ht]; exact hP, va_K.moved hW.alike hK, hD⟩, hS.F ht⟩) hS.2.2 dX9_known_140
                    · replace h := zif_f h c1_9
                      have t0 := lv_neT c1_0 (a := 0) (by decide)
                      have t1 := lv_neT c1_1 (a := 1) (by decide)
                      have t2 := lv_neT c1_2 (a := 2) (by decide)
                      have t3 := lv_neT c1_3 (a := 3) (by decide)
                      have t4 := lv_neT c1_4 (a := 4) (by decide)
                      have t5 := lv_neT c1_5 (a := 5) (by decide)
                      have t6 := lv_neT c1_6 (a := 6) (by decide)
                      have t7 := lv_neT c1_7 (a := 7) (by decide)
                      have t8 := lv_neT c1_8 (a := 8) (by decide)
                      have t9 := lv_neT c1_9 (a := 9) (by decide)
                      refine lv_tableOut (tgt := 141) hx hb dX9_known_1 (by omega) (by decide) ?_
                      refine lv_iload_n hx hb dX9_known_141 rfl (lv_at hl 1 rfl) ?_
                      refine lv_iload_n hx hb dX9_known_142 rfl (lv_at hl 1 rfl) ?_
                      refine lv_imul hx hb dX9_known_143 ?_
                      refine lv_i2l (v := (p1 * p1).toInt64) hx hb dX9_known_144 rfl ?_
                      have h1 := Option.some.inj h
                      subst h1
                      exact W.lret (v := ((p1 * p1).toInt64)) hx hb hr (fun t ht hW => ⟨⟨((p1 * p1).toInt64), (), rfl, rfl, by rw [ht]; exact hP, va_K.moved hW.alike hK, hD⟩, hS.F ht⟩) hS.2.2 dX9_known_145

noncomputable def p_X9_product_L1 (F : Nat) (p0 : Nat → Int64) (p1 : Nat → Int64) (v4_0 : Int32) (k : Int32 → Bool → (Nat → Int64) → Option ((Nat → Int64) × Bool)) : Nat → Int32 → Bool → (Nat → Int64) → Option ((Nat → Int64) × Bool)
  | 0, _, _, _ => none
  | n + 1, v5_1, ibL1, f2_1 => (if v4_0 < v5_1 then (k v5_1 ibL1 f2_1) else (zg (v5_1 = 0) (if ¬ (zr v4_0 v5_1) = 0 then (p_X9_product_L1 F p0 p1 v4_0 k n (v5_1 + (1 : Int32)) ibL1 f2_1) else (zg (v4_0 < 0 ∨ 121 ≤ v4_0.toNatClampNeg) (zg (v5_1 < 0 ∨ 121 ≤ v5_1.toNatClampNeg) (zg (v5_1 = 0) (zg ((v4_0 / v5_1) < 0 ∨ 121 ≤ (v4_0 / v5_1).toNatClampNeg) (zb2 (p_X9_times ibL1 (p0 v5_1.toNatClampNeg) (p1 (v4_0 / v5_1).toNatClampNeg)) (fun r2 ib_3 => (zb2 (p_X9_plus ib_3 (f2_1 v4_0.toNatClampNeg) r2) (fun r5 ib_6 => (zg (v4_0 < 0 ∨ 121 ≤ v4_0.toNatClampNeg) (p_X9_product_L1 F p0 p1 v4_0 k n (v5_1 + (1 : Int32)) ib_6 (vp_updL f2_1 v4_0.toNatClampNeg r5))))))))))))))
noncomputable def p_X9_product_L0 (F : Nat) (p0 : Nat → Int64) (p1 : Nat → Int64) (k : Int32 → Bool → (Nat → Int64) → Option ((Nat → Int64) × Bool)) : Nat → Int32 → Bool → (Nat → Int64) → Option ((Nat → Int64) × Bool)
  | 0, _, _, _ => none
  | n + 1, v4_0, ibL0, f2_0 => (if (120 : Int32) < v4_0 then (k v4_0 ibL0 f2_0) else (p_X9_product_L1 F p0 p1 v4_0 (fun v5_1 ibL1 f2_1 => (p_X9_product_L0 F p0 p1 k n (v4_0 + (1 : Int32)) ibL1 f2_1)) F (1 : Int32) ibL0 f2_0))
noncomputable def p_X9_product (F : Nat) (ib : Bool) (p0 : Nat → Int64) (p1 : Nat → Int64) : Option ((Nat → Int64) × Bool) := (p_X9_product_L0 F p0 p1 (fun v4_0 ibL0 f2_0 => (some (f2_0, ibL0))) F (1 : Int32) ib (fun _ => 0))
theorem hdV_X9_product : yX9_product.cls = RX9 ∧ yX9_product.cls ≠ "java/lang/invoke/MethodHandle" ∧ yX9_product.cls ≠ "java/lang/invoke/VarHandle" ∧ (parseMethodDescriptor yX9_product.desc).map (fun d => d.parameters.length) = some 2 := by decide +kernel
set_option maxHeartbeats 4000000 in
set_option maxRecDepth 100000 in
theorem c_X9_product (l : Launch) (D : va_G) (q v : Nat) (cJ cI cO cB : ClassId) (V : Nat → Int64) (ib : Bool) (dn : Int32) (rf : Int32) (mk : Int32) (th : Int32) (F : Nat) (t0 : Nat) (p0 : Nat → Int64) (t1 : Nat) (p1 : Nat → Int64) (r : Nat → Int64) (ib' : Bool) (h : p_X9_product F ib p0 p1 = some (r, ib')) : zMn l yX9_product wsX9_product 1 26 1 121 D (zT cJ cI cO cB) [.ref q, .ref t0, .ref t1] (mW q v cJ V ib dn rf mk th ++ ([(t0, .inl (cJ, 121, .inr (.inl p0))), (t1, .inl (cJ, 121, .inr (.inl p1)))])) (fun x => (mW q v cJ V ib' dn rf mk th ++ ([(t0, .inl (cJ, 121, .inr (.inl p0))), (t1, .inl (cJ, 121, .inr (.inl p1))), (x, .inl (cJ, 121, .inr (.inl r)))]))) := by
  intro sz
  delta zQn
  refine Met.ofW (cc := cX9_product) (maxL := 6) (ret := (some (.array .long))) (by decide) rfl ?_
  intro p e s m args below meth c s₁ B hml hv
  obtain ⟨rfl, hsz, hP, hK, hD0⟩ := hv
  have hx := B.exec
  have hb := B.bytes
  have hr := B.returns
  have hts := atoms_spec (ws := wsX9_product) B.pre
  have hown : s.vm.findClass RX9 = some m.cls := findClass_of_methodNamed B.named
  have hlocks := B.notSynchronized
  subst hsz
  have hD := hD0.self (sz := s.heap.size)
  generalize hAe : va_A (mW q v cJ V ib dn rf mk th ++ ([(t0, .inl (cJ, 121, .inr (.inl p0))), (t1, .inl (cJ, 121, .inr (.inl p1)))])) s.heap.size = A at hD ⊢
  have hA : ∀ q : Nat, s.heap.size ≤ q → A q := fun q h => by rw [← hAe]; exact Or.inr h
  have hS : va_S A s.heap s.heap [] := va_S.rf
  have hl := lv_entry ([.ref q, .ref t0, .ref t1]) (n := 6) (Nat.le_of_ble_eq_true rfl)
  rw [lg_entry_eq]
  generalize (lg_sl ([.ref q, .ref t0, .ref t1]) ++ List.replicate (6 - (lg_sl ([.ref q, .ref t0, .ref t1])).length) Slot.unset).toArray = ls at hl ⊢
  replace hl : lv_has ls 6 [(0, .ref q), (1, .ref t0), (2, .ref t1)] := hl
  have karr := hts (.arrayClass .long) (zmem 1 rfl)
  replace h : (p_X9_product_L0 F p0 p1 (fun v4_0 ibL0 f2_0 => (some (f2_0, ibL0))) F (1 : Int32) ib (fun _ => 0)) = some (r, ib') := h
  refine zabs (fun G hG hGW => ?_)
  obtain ⟨H, hHe⟩ : ∃ H, H = s.heap := ⟨_, rfl⟩
  rw [← hHe] at hP
  replace hS : va_S A s.heap H [] := by rw [hHe]; exact hS
  refine zheap hHe ?_
  refine lv_bipush (v := (121 : Int32)) hx hb dX9_product_0 (by decide) ?_
  refine znewJ (N := 121) hx hb karr hK hP hD hS hA (by decide) (by decide) (by decide) (Nat.le_of_ble_eq_true rfl) (Nat.le_of_ble_eq_true rfl) dX9_product_2 (fun w1 H hP hD hS => ?_)
  replace hP : va_P D vwCl (mW q v cJ V ib dn rf mk th ++ ([(t0, .inl (cJ, 121, .inr (.inl p0))), (t1, .inl (cJ, 121, .inr (.inl p1))), (w1, .inl (cJ, 121, .inr (.inl (fun _ => 0))))])) H := hP
  replace hD : va_D A (mW q v cJ V ib dn rf mk th ++ ([(t0, .inl (cJ, 121, .inr (.inl p0))), (t1, .inl (cJ, 121, .inr (.inl p1))), (w1, .inl (cJ, 121, .inr (.inl (fun _ => 0))))])) := hD
  refine lv_astore_n (lv' := [(3, .ref w1), (0, .ref q), (1, .ref t0), (2, .ref t1)]) hx hb dX9_product_4 rfl hl (by decide) rfl (fun ls hl => ?_)
  refine lv_iconst (v := (1 : Int32)) hx hb dX9_product_5 (by decide) ?_
  refine lv_istore (lv' := [(4, .int (1 : Int32)), (3, .ref w1), (0, .ref q), (1, .ref t0), (2, .ref t1)]) hx hb dX9_product_6 hl (by decide) rfl (fun ls hl => ?_)
  have X0 : ∀ (v4_0 : Int32) (ibL0 : Bool) (f2_0 : Nat → Int64) (H : Heap) (locs : List Loc) (ls : Array Slot), va_P D vwCl (mW q v cJ V ibL0 dn rf mk th ++ ([(t0, .inl (cJ, 121, .inr (.inl p0))), (t1, .inl (cJ, 121, .inr (.inl p1))), (w1, .inl (cJ, 121, .inr (.inl f2_0)))])) H → va_D A (mW q v cJ V ibL0 dn rf mk th ++ ([(t0, .inl (cJ, 121, .inr (.inl p0))), (t1, .inl (cJ, 121, .inr (.inl p1))), (w1, .inl (cJ, 121, .inr (.inl f2_0)))])) → va_S A s.heap H locs → lv_has ls 6 [(0, .ref q), (1, .ref t0), (2, .ref t1), (3, .ref w1), (4, .int v4_0)] → (some (f2_0, ibL0)) = some (r, ib') → G H locs 1 121 (F0 m 72 ls []) := by
    intro v4_0 ibL0 f2_0 H locs ls hP hD hS hl h
    refine hG _ _ _ _ _ ?_
    refine lv_aload_n hx hb dX9_product_72 rfl (lv_at hl 3 rfl) ?_
    have g0 := Option.some.inj h
    obtain ⟨h1, g1⟩ := Prod.mk.inj g0
    subst h1
    subst g1
    exact W.aret (v := .ref w1) hx hb hr (Or.inr ⟨_, rfl⟩) (Or.inr ⟨_, rfl⟩) (fun t ht hW => ⟨⟨(), w1, rfl, trivial, by rw [ht]; exact hP, va_K.moved hW.alike hK, hD⟩, hS.F ht⟩) hS.2.2 dX9_product_73
  have L0 : ∀ (K0 : Int32 → Bool → (Nat → Int64) → Option ((Nat → Int64) × Bool)) (HX0 : ∀ (v4_0 : Int32) (ibL0 : Bool) (f2_0 : Nat → Int64) (H : Heap) (locs : List Loc) (ls : Array Slot), va_P D vwCl (mW q v cJ V ibL0 dn rf mk th ++ ([(t0, .inl (cJ, 121, .inr (.inl p0))), (t1, .inl (cJ, 121, .inr (.inl p1))), (w1, .inl (cJ, 121, .inr (.inl f2_0)))])) H → va_D A (mW q v cJ V ibL0 dn rf mk th ++ ([(t0, .inl (cJ, 121, .inr (.inl p0))), (t1, .inl (cJ, 121, .inr (.inl p1))), (w1, .inl (cJ, 121, .inr (.inl f2_0)))])) → va_S A s.heap H locs → lv_has ls 6 [(0, .ref q), (1, .ref t0), (2, .ref t1), (3, .ref w1), (4, .int v4_0)] → K0 v4_0 ibL0 f2_0 = some (r, ib') → G H locs 1 121 (F0 m 72 ls [])) (fu0 : Nat) (v4_0 : Int32) (ibL0 : Bool) (f2_0 : Nat → Int64) (H : Heap) (locs : List Loc) (ls : Array Slot), va_P D vwCl (mW q v cJ V ibL0 dn rf mk th ++ ([(t0, .inl (cJ, 121, .inr (.inl p0))), (t1, .inl (cJ, 121, .inr (.inl p1))), (w1, .inl (cJ, 121, .inr (.inl f2_0)))])) H → va_D A (mW q v cJ V ibL0 dn rf mk th ++ ([(t0, .inl (cJ, 121, .inr (.inl p0))), (t1, .inl (cJ, 121, .inr (.inl p1))), (w1, .inl (cJ, 121, .inr (.inl f2_0)))])) → va_S A s.heap H locs → lv_has ls 6 [(0, .ref q), (1, .ref t0), (2, .ref t1), (3, .ref w1), (4, .int v4_0)] → p_X9_product_L0 F p0 p1 K0 fu0 v4_0 ibL0 f2_0 = some (r, ib') → G H locs 1 121 (F0 m 8 ls []) := by
    intro K0 HX0 fu0
    induction fu0 with
    | zero =>
      intro v4_0 ibL0 f2_0 H locs ls hP hD hS hl h
      exact (zno h).elim
    | succ fu0 ih0 =>
      intro v4_0 ibL0 f2_0 H locs ls hP hD hS hl h
      refine hG _ _ _ _ _ ?_
      unfold p_X9_product_L0 at h
      refine lv_iload hx hb dX9_product_8 (lv_at hl 4 rfl) ?_
      refine lv_bipush (v := (120 : Int32)) hx hb dX9_product_10 (by decide) ?_
      refine lv_icmp_gt (tgt := 72) hx hb dX9_product_12 (by decide) (fun c12 => ?_) (fun c12 => ?_)
      · replace h := zif_t h c12
        exact hGW _ _ _ _ _ (HX0 v4_0 ibL0 f2_0 _ _ ls hP hD hS (lv_sub hl [0, 1, 2, 3, 4] rfl) h)
      · replace h := zif_f h c12
        refine lv_iconst (v := (1 : Int32)) hx hb dX9_product_15 (by decide) ?_
        refine lv_istore (lv' := [(5, .int (1 : Int32)), (0, .ref q), (1, .ref t0), (2, .ref t1), (3, .ref w1), (4, .int v4_0)]) hx hb dX9_product_16 hl (by decide) rfl (fun ls hl => ?_)
        have X1 : ∀ (v5_1 : Int32) (ibL1 : Bool) (f2_1 : Nat → Int64) (H : Heap) (locs : List Loc) (ls : Array Slot), va_P D vwCl (mW q v cJ V ibL1 dn rf mk th ++ ([(t0, .inl (cJ, 121, .inr (.inl p0))), (t1, .inl (cJ, 121, .inr (.inl p1))), (w1, .inl (cJ, 121, .inr (.inl f2_1)))])) H → va_D A (mW q v cJ V ibL1 dn rf mk th ++ ([(t0, .inl (cJ, 121, .inr (.inl p0))), (t1, .inl (cJ, 121, .inr (.inl p1))), (w1, .inl (cJ, 121, .inr (.inl f2_1)))])) → va_S A s.heap H locs → lv_has ls 6 [(0, .ref q), (1, .ref t0), (2, .ref t1), (3, .ref w1), (4, .int v4_0), (5, .int v5_1)] → (p_X9_product_L0 F p0 p1 K0 fu0 (v4_0 + (1 : Int32)) ibL1 f2_1) = some (r, ib') → G H locs 1 121 (F0 m 66 ls []) := by
          intro v5_1 ibL1 f2_1 H locs ls hP hD hS hl h
          refine hG _ _ _ _ _ ?_
          refine lv_iinc (v := (v4_0 + (1 : Int32))) (lv' := [(4, .int (v4_0 + (1 : Int32))), (0, .ref q), (1, .ref t0), (2, .ref t1), (3, .ref w1), (5, .int v5_1)]) hx hb dX9_product_66 hl (k := 4) rfl rfl (by decide) rfl (fun ls hl => ?_)
          refine lv_goto (tgt := 8) hx hb dX9_product_69 (by decide) ?_
          exact hGW _ _ _ _ _ (ih0 (v4_0 + (1 : Int32)) ibL1 f2_1 _ _ ls hP hD hS (lv_sub hl [1, 2, 3, 4, 0] rfl) h)
        have L1 : ∀ (K1 : Int32 → Bool → (Nat → Int64) → Option ((Nat → Int64) × Bool)) (HX1 : ∀ (v5_1 : Int32) (ibL1 : Bool) (f2_1 : Nat → Int64) (H : Heap) (locs : List Loc) (ls : Array Slot), va_P D vwCl (mW q v cJ V ibL1 dn rf mk th ++ ([(t0, .inl (cJ, 121, .inr (.inl p0))), (t1, .inl (cJ, 121, .inr (.inl p1))), (w1, .inl (cJ, 121, .inr (.inl f2_1)))])) H → va_D A (mW q v cJ V ibL1 dn rf mk th ++ ([(t0, .inl (cJ, 121, .inr (.inl p0))), (t1, .inl (cJ, 121, .inr (.inl p1))), (w1, .inl (cJ, 121, .inr (.inl f2_1)))])) → va_S A s.heap H locs → lv_has ls 6 [(0, .ref q), (1, .ref t0), (2, .ref t1), (3, .ref w1), (4, .int v4_0), (5, .int v5_1)] → K1 v5_1 ibL1 f2_1 = some (r, ib') → G H locs 1 121 (F0 m 66 ls [])) (fu1 : Nat) (v5_1 : Int32) (ibL1 : Bool) (f2_1 : Nat → Int64) (H : Heap) (locs : List Loc) (ls : Array Slot), va_P D vwCl (mW q v cJ V ibL1 dn rf mk th ++ ([(t0, .inl (cJ, 121, .inr (.inl p0))), (t1, .inl (cJ, 121, .inr (.inl p1))), (w1, .inl (cJ, 121, .inr (.inl f2_1)))])) H → va_D A (mW q v cJ V ibL1 dn rf mk th ++ ([(t0, .inl (cJ, 121, .inr (.inl p0))), (t1, .inl (cJ, 121, .inr (.inl p1))), (w1, .inl (cJ, 121, .inr (.inl f2_1)))])) → va_S A s.heap H locs → lv_has ls 6 [(0, .ref q), (1, .ref t0), (2, .ref t1), (3, .ref w1), (4, .int v4_0), (5, .int v5_1)] → p_X9_product_L1 F p0 p1 v4_0 K1 fu1 v5_1 ibL1 f2_1 = some (r, ib') → G H locs 1 121 (F0 m 18 ls []) := by
          intro K1 HX1 fu1
          induction fu1 with
          | zero =>
            intro v5_1 ibL1 f2_1 H locs ls hP hD hS hl h
            exact (zno h).elim
          | succ fu1 ih1 =>
            intro v5_1 ibL1 f2_1 H locs ls hP hD hS hl h
            refine hG _ _ _ _ _ ?_
            unfold p_X9_product_L1 at h
            refine lv_iload hx hb dX9_product_18 (lv_at hl 5 rfl) ?_
            refine lv_iload hx hb dX9_product_20 (lv_at hl 4 rfl) ?_
            refine lv_icmp_gt (tgt := 66) hx hb dX9_product_22 (by decide) (fun c22 => ?_) (fun c22 => ?_)
            · replace h := zif_t h c22
              exact hGW _ _ _ _ _ (HX1 v5_1 ibL1 f2_1 _ _ ls hP hD hS (lv_sub hl [0, 1, 2, 3, 4, 5] rfl) h)
            · replace h := zif_f h c22
              refine lv_iload hx hb dX9_product_25 (lv_at hl 4 rfl) ?_
              refine lv_iload hx hb dX9_product_27 (lv_at hl 5 rfl) ?_
              obtain ⟨z29, h⟩ := zg_some h
              refine lv_irem hx hb dX9_product_29 z29 ?_
              refine lv_if_ne (tgt := 60) hx hb dX9_product_30 (by decide) (fun c30 => ?_) (fun c30 => ?_)
              · replace h := zif_t h c30
                refine lv_iinc (v := (v5_1 + (1 : Int32))) (lv' := [(5, .int (v5_1 + (1 : Int32))), (0, .ref q), (1, .ref t0), (2, .ref t1), (3, .ref w1), (4, .int v4_0)]) hx hb dX9_product_60 hl (k := 5) rfl rfl (by decide) rfl (fun ls hl => ?_)
                refine lv_goto (tgt := 18) hx hb dX9_product_63 (by decide) ?_
                exact hGW _ _ _ _ _ (ih1 (v5_1 + (1 : Int32)) ibL1 f2_1 _ _ ls hP hD hS (lv_sub hl [1, 2, 3, 4, 5, 0] rfl) h)
              · replace h := zif_fn h c30
                refine lv_aload_n hx hb dX9_product_33 rfl (lv_at hl 3 rfl) ?_
                refine lv_iload hx hb dX9_product_34 (lv_at hl 4 rfl) ?_
                refine lv_aload_n hx hb dX9_product_36 rfl (lv_at hl 0 rfl) ?_
                refine lv_aload_n hx hb dX9_product_37 rfl (lv_at hl 3 rfl) ?_
                refine lv_iload hx hb dX9_product_38 (lv_at hl 4 rfl) ?_
                obtain ⟨z40, h⟩ := zg_some h
                refine va_lald hx hb hK hP 4 0 rfl rfl z40 dX9_product_40 ?_
                refine lv_aload_n hx hb dX9_product_41 rfl (lv_at hl 0 rfl) ?_
                refine lv_aload_n hx hb dX9_product_42 rfl (lv_at hl 1 rfl) ?_
                refine lv_iload hx hb dX9_product_43 (lv_at hl 5 rfl) ?_
                obtain ⟨z45, h⟩ := zg_some h
                refine va_lald hx hb hK hP 2 0 rfl rfl z45 dX9_product_45 ?_
                refine lv_aload_n hx hb dX9_product_46 rfl (lv_at hl 2 rfl) ?_
                refine lv_iload hx hb dX9_product_47 (lv_at hl 4 rfl) ?_
                refine lv_iload hx hb dX9_product_49 (lv_at hl 5 rfl) ?_
                obtain ⟨z51, h⟩ := zg_some h
                refine lv_idiv hx hb dX9_product_51 z51 ?_
                obtain ⟨z52, h⟩ := zg_some h
                refine va_lald hx hb hK hP 3 0 rfl rfl z52 dX9_product_52 ?_
                obtain ⟨r2, ib_3, e4, h⟩ := zb2_some h
                have hPc := zsub (wn := (mW q v cJ V ibL1 dn rf mk th)) hP [0, 1] rfl
                have hDc := hD.sub (ws' := (mW q v cJ V ibL1 dn rf mk th)) [0, 1] (by decide) rfl
                refine zgol (va_runV (As := [.long (p0 v5_1.toNatClampNeg), .long (p1 (v4_0 / v5_1).toNatClampNeg)]) (rest := [.long (f2_1 v4_0.toNatClampNeg), .ref q, .int v4_0, .ref w1]) ⟨hx, hb, hml, hown, hts⟩ (c_X9_times l D q v cJ cI cO cB V ibL1 dn rf mk th (p0 v5_1.toNatClampNeg) (p1 (v4_0 / v5_1).toNatClampNeg) r2 ib_3 e4 H.size) (cwV 2 hts gX9_product_X9_times rfl rfl rfl hdV_X9_times ⟨Nat.le_of_ble_eq_true rfl, Nat.le_of_ble_eq_true rfl⟩) (zpreV (q0 := 0) (ci := 9) (T := TX9) (N := 6) hK hPc hDc rfl rfl [.long (p0 v5_1.toNatClampNeg), .long (p1 (v4_0 / v5_1).toNatClampNeg)]) rfl rfl hl.1 rfl (lv_room (Nat.le_of_ble_eq_true rfl)) dX9_product_53 ⟨Nat.le_of_ble_eq_true rfl, Nat.le_of_ble_eq_true rfl⟩) (va_free hD hS hA [0, 1] rfl) (zjs (wn := (mW q v cJ V ib_3 dn rf mk th ++ ([(t0, .inl (cJ, 121, .inr (.inl p0))), (t1, .inl (cJ, 121, .inr (.inl p1))), (w1, .inl (cJ, 121, .inr (.inl f2_1)))]))) [3, 4, 0, 1, 2] (zjF (wr := ([(t0, .inl (cJ, 121, .inr (.inl p0))), (t1, .inl (cJ, 121, .inr (.inl p1))), (w1, .inl (cJ, 121, .inr (.inl f2_1)))] : va_W)) hP hD hS hA [0, 1] [2, 3, 4] rfl rfl (by decide) (by decide)) rfl (by decide)) hS (fun H locs hP hD hS => ?_)
                replace hP : va_P D vwCl (mW q v cJ V ib_3 dn rf mk th ++ ([(t0, .inl (cJ, 121, .inr (.inl p0))), (t1, .inl (cJ, 121, .inr (.inl p1))), (w1, .inl (cJ, 121, .inr (.inl f2_1)))])) H := hP
                replace hD : va_D A (mW q v cJ V ib_3 dn rf mk th ++ ([(t0, .inl (cJ, 121, .inr (.inl p0))), (t1, .inl (cJ, 121, .inr (.inl p1))), (w1, .inl (cJ, 121, .inr (.inl f2_1)))])) := hD
                obtain ⟨r5, ib_6, e7, h⟩ := zb2_some h
                have hPc := zsub (wn := (mW q v cJ V ib_3 dn rf mk th)) hP [0, 1] rfl
                have hDc := hD.sub (ws' := (mW q v cJ V ib_3 dn rf mk th)) [0, 1] (by decide) rfl
                refine zgol (va_runV (As := [.long (f2_1 v4_0.toNatClampNeg), .long r2]) (rest := [.int v4_0, .ref w1]) ⟨hx, hb, hml, hown, hts⟩ (c_X9_plus l D q v cJ cI cO cB V ib_3 dn rf mk th (f2_1 v4_0.toNatClampNeg) r2 r5 ib_6 e7 H.size) (cwV 2 hts gX9_product_X9_plus rfl rfl rfl hdV_X9_plus ⟨Nat.le_of_ble_eq_true rfl, Nat.le_of_ble_eq_true rfl⟩) (zpreV (q0 := 0) (ci := 9) (T := TX9) (N := 6) hK hPc hDc rfl rfl [.long (f2_1 v4_0.toNatClampNeg), .long r2]) rfl rfl hl.1 rfl (lv_room (Nat.le_of_ble_eq_true rfl)) dX9_product_56 ⟨Nat.le_of_ble_eq_true rfl, Nat.le_of_ble_eq_true rfl⟩) (va_free hD hS hA [0, 1] rfl) (zjs (wn := (mW q v cJ V ib_6 dn rf mk th ++ ([(t0, .inl (cJ, 121, .inr (.inl p0))), (t1, .inl (cJ, 121, .inr (.inl p1))), (w1, .inl (cJ, 121, .inr (.inl f2_1)))]))) [3, 4, 0, 1, 2] (zjF (wr := ([(t0, .inl (cJ, 121, .inr (.inl p0))), (t1, .inl (cJ, 121, .inr (.inl p1))), (w1, .inl (cJ, 121, .inr (.inl f2_1)))] : va_W)) hP hD hS hA [0, 1] [2, 3, 4] rfl rfl (by decide) (by decide)) rfl (by decide)) hS (fun H locs hP hD hS => ?_)
                replace hP : va_P D vwCl (mW q v cJ V ib_6 dn rf mk th ++ ([(t0, .inl (cJ, 121, .inr (.inl p0))), (t1, .inl (cJ, 121, .inr (.inl p1))), (w1, .inl (cJ, 121, .inr (.inl f2_1)))])) H := hP
                replace hD : va_D A (mW q v cJ V ib_6 dn rf mk th ++ ([(t0, .inl (cJ, 121, .inr (.inl p0))), (t1, .inl (cJ, 121, .inr (.inl p1))), (w1, .inl (cJ, 121, .inr (.inl f2_1)))])) := hD
                obtain ⟨z59, h⟩ := zg_some h
                refine va_last hx hb hK hP hD hS 4 0 rfl rfl z59 dX9_product_59 (fun H locs hP hD hS => ?_)
                replace hP : va_P D vwCl (mW q v cJ V ib_6 dn rf mk th ++ ([(t0, .inl (cJ, 121, .inr (.inl p0))), (t1, .inl (cJ, 121, .inr (.inl p1))), (w1, .inl (cJ, 121, .inr (.inl (vp_updL f2_1 v4_0.toNatClampNeg r5))))])) H := hP
                replace hD : va_D A (mW q v cJ V ib_6 dn rf mk th ++ ([(t0, .inl (cJ, 121, .inr (.inl p0))), (t1, .inl (cJ, 121, .inr (.inl p1))), (w1, .inl (cJ, 121, .inr (.inl (vp_updL f2_1 v4_0.toNatClampNeg r5))))])) := hD
                refine lv_iinc (v := (v5_1 + (1 : Int32))) (lv' := [(5, .int (v5_1 + (1 : Int32))), (0, .ref q), (1, .ref t0), (2, .ref t1), (3, .ref w1), (4, .int v4_0)]) hx hb dX9_product_60 hl (k := 5) rfl rfl (by decide) rfl (fun ls hl => ?_)
                refine lv_goto (tgt := 18) hx hb dX9_product_63 (by decide) ?_
                exact hGW _ _ _ _ _ (ih1 (v5_1 + (1 : Int32)) ib_6 (vp_updL f2_1 v4_0.toNatClampNeg r5) _ _ ls hP hD hS (lv_sub hl [1, 2, 3, 4, 5, 0] rfl) h)
        exact hGW _ _ _ _ _ (L1 _ X1 F (1 : Int32) ibL0 f2_0 _ _ ls hP hD hS (lv_sub hl [1, 2, 3, 4, 5, 0] rfl) h)
  exact hGW _ _ _ _ _ (L0 _ X0 F (1 : Int32) ib (fun _ => 0) _ _ ls hP hD hS (lv_sub hl [2, 3, 4, 1, 0] rfl) h)

noncomputable def p_X9_inverse_L1 (F : Nat) (p0 : Nat → Int64) (v3_0 : Int32) (f1_0 : Nat → Int64) (k : Int64 → Int32 → Bool → Option ((Nat → Int64) × Bool)) : Nat → Int64 → Int32 → Bool → Option ((Nat → Int64) × Bool)
  | 0, _, _, _ => none
  | n + 1, v4_1, v6_1, ibL1 => (if v3_0 < v6_1 then (k v4_1 v6_1 ibL1) else (zg (v6_1 = 0) (if ¬ (zr v3_0 v6_1) = 0 then (p_X9_inverse_L1 F p0 v3_0 f1_0 k n v4_1 (v6_1 + (1 : Int32)) ibL1) else (zg (v6_1 < 0 ∨ 121 ≤ v6_1.toNatClampNeg) (zg (v6_1 = 0) (zg ((v3_0 / v6_1) < 0 ∨ 121 ≤ (v3_0 / v6_1).toNatClampNeg) (zb2 (p_X9_times ibL1 (p0 v6_1.toNatClampNeg) (f1_0 (v3_0 / v6_1).toNatClampNeg)) (fun r5 ib_6 => (zb2 (p_X9_plus ib_6 v4_1 r5) (fun r8 ib_9 => (p_X9_inverse_L1 F p0 v3_0 f1_0 k n r8 (v6_1 + (1 : Int32)) ib_9)))))))))))
noncomputable def p_X9_inverse_L0 (F : Nat) (p0 : Nat → Int64) (k : Int32 → Bool → (Nat → Int64) → Option ((Nat → Int64) × Bool)) : Nat → Int32 → Bool → (Nat → Int64) → Option ((Nat → Int64) × Bool)
  | 0, _, _, _ => none
  | n + 1, v3_0, ibL0, f1_0 => (if (120 : Int32) < v3_0 then (k v3_0 ibL0 f1_0) else (p_X9_inverse_L1 F p0 v3_0 f1_0 (fun v4_1 v6_1 ibL1 => (zb2 (p_X9_times ibL1 v4_1 (-(p0 (1 : Int32).toNatClampNeg))) (fun r2 ib_3 => (zg (v3_0 < 0 ∨ 121 ≤ v3_0.toNatClampNeg) (p_X9_inverse_L0 F p0 k n (v3_0 + (1 : Int32)) ib_3 (vp_updL f1_0 v3_0.toNatClampNeg r2)))))) F (0 : Int64) (2 : Int32) ibL0))
noncomputable def p_X9_inverse (F : Nat) (ib : Bool) (p0 : Nat → Int64) : Option ((Nat → Int64) × Bool) := (p_X9_inverse_L0 F p0 (fun v3_0 ibL0 f1_0 => (some (f1_0, ibL0))) F (2 : Int32) ib (vp_updL (fun _ => 0) (1 : Int32).toNatClampNeg (p0 (1 : Int32).toNatClampNeg)))
theorem hdV_X9_inverse : yX9_inverse.cls = RX9 ∧ yX9_inverse.cls ≠ "java/lang/invoke/MethodHandle" ∧ yX9_inverse.cls ≠ "java/lang/invoke/VarHandle" ∧ (parseMethodDescriptor yX9_inverse.desc).map (fun d => d.parameters.length) = some 1 := by decide +kernel
set_option maxHeartbeats 4000000 in
set_option maxRecDepth 100000 in
theorem c_X9_inverse (l : Launch) (D : va_G) (q v : Nat) (cJ cI cO cB : ClassId) (V : Nat → Int64) (ib : Bool) (dn : Int32) (rf : Int32) (mk : Int32) (th : Int32) (F : Nat) (t0 : Nat) (p0 : Nat → Int64) (r : Nat → Int64) (ib' : Bool) (h : p_X9_inverse F ib p0 = some (r, ib')) : zMn l yX9_inverse wsX9_inverse 1 26 1 121 D (zT cJ cI cO cB) [.ref q, .ref t0] (mW q v cJ V ib dn rf mk th ++ ([(t0, .inl (cJ, 121, .inr (.inl p0)))])) (fun x => (mW q v cJ V ib' dn rf mk th ++ ([(t0, .inl (cJ, 121, .inr (.inl p0))), (x, .inl (cJ, 121, .inr (.inl r)))]))) := by
  intro sz
  delta zQn
  refine Met.ofW (cc := cX9_inverse) (maxL := 7) (ret := (some (.array .long))) (by decide) rfl ?_
  intro p e s m args below meth c s₁ B hml hv
  obtain ⟨rfl, hsz, hP, hK, hD0⟩ := hv
  have hx := B.exec
  have hb := B.bytes
  have hr := B.returns
  have hts := atoms_spec (ws := wsX9_inverse) B.pre
  have hown : s.vm.findClass RX9 = some m.cls := findClass_of_methodNamed B.named
  have hlocks := B.notSynchronized
  subst hsz
  have hD := hD0.self (sz := s.heap.size)
  generalize hAe : va_A (mW q v cJ V ib dn rf mk th ++ ([(t0, .inl (cJ, 121, .inr (.inl p0)))])) s.heap.size = A at hD ⊢
  have hA : ∀ q : Nat, s.heap.size ≤ q → A q := fun q h => by rw [← hAe]; exact Or.inr h
  have hS : va_S A s.heap s.heap [] := va_S.rf
  have hl := lv_entry ([.ref q, .ref t0]) (n := 7) (Nat.le_of_ble_eq_true rfl)
  rw [lg_entry_eq]
  generalize (lg_sl ([.ref q, .ref t0]) ++ List.replicate (7 - (lg_sl ([.ref q, .ref t0])).length) Slot.unset).toArray = ls at hl ⊢
  replace hl : lv_has ls 7 [(0, .ref q), (1, .ref t0)] := hl
  have karr := hts (.arrayClass .long) (zmem 1 rfl)
  replace h : (p_X9_inverse_L0 F p0 (fun v3_0 ibL0 f1_0 => (some (f1_0, ibL0))) F (2 : Int32) ib (vp_updL (fun _ => 0) (1 : Int32).toNatClampNeg (p0 (1 : Int32).toNatClampNeg))) = some (r, ib') := h
  refine zabs (fun G hG hGW => ?_)
  obtain ⟨H, hHe⟩ : ∃ H, H = s.heap := ⟨_, rfl⟩
  rw [← hHe] at hP
  replace hS : va_S A s.heap H [] := by rw [hHe]; exact hS
  refine zheap hHe ?_
  refine lv_bipush (v := (121 : Int32)) hx hb dX9_inverse_0 (by decide) ?_
  refine znewJ (N := 121) hx hb karr hK hP hD hS hA (by decide) (by decide) (by decide) (Nat.le_of_ble_eq_true rfl) (Nat.le_of_ble_eq_true rfl) dX9_inverse_2 (fun w1 H hP hD hS => ?_)
  replace hP : va_P D vwCl (mW q v cJ V ib dn rf mk th ++ ([(t0, .inl (cJ, 121, .inr (.inl p0))), (w1, .inl (cJ, 121, .inr (.inl (fun _ => 0))))])) H := hP
  replace hD : va_D A (mW q v cJ V ib dn rf mk th ++ ([(t0, .inl (cJ, 121, .inr (.inl p0))), (w1, .inl (cJ, 121, .inr (.inl (fun _ => 0))))])) := hD
  refine lv_astore_n (lv' := [(2, .ref w1), (0, .ref q), (1, .ref t0)]) hx hb dX9_inverse_4 rfl hl (by decide) rfl (fun ls hl => ?_)
  refine lv_aload_n hx hb dX9_inverse_5 rfl (lv_at hl 0 rfl) ?_
  refine lv_iconst (v := (1 : Int32)) hx hb dX9_inverse_6 (by decide) ?_
  refine lv_aload_n hx hb dX9_inverse_7 rfl (lv_at hl 2 rfl) ?_
  refine lv_iconst (v := (1 : Int32)) hx hb dX9_inverse_8 (by decide) ?_
  refine va_lald hx hb hK hP 2 0 rfl rfl (zinc (by decide)) dX9_inverse_9 ?_
  refine va_last hx hb hK hP hD hS 3 0 rfl rfl (zinc (by decide)) dX9_inverse_10 (fun H locs hP hD hS => ?_)
  replace hP : va_P D vwCl (mW q v cJ V ib dn rf mk th ++ ([(t0, .inl (cJ, 121, .inr (.inl p0))), (w1, .inl (cJ, 121, .inr (.inl (vp_updL (fun _ => 0) (1 : Int32).toNatClampNeg (p0 (1 : Int32).toNatClampNeg)))))])) H := hP
  replace hD : va_D A (mW q v cJ V ib dn rf mk th ++ ([(t0, .inl (cJ, 121, .inr (.inl p0))), (w1, .inl (cJ, 121, .inr (.inl (vp_updL (fun _ => 0) (1 : Int32).toNatClampNeg (p0 (1 : Int32).toNatClampNeg)))))])) := hD
  refine lv_iconst (v := (2 : Int32)) hx hb dX9_inverse_11 (by decide) ?_
  refine lv_istore_n (lv' := [(3, .int (2 : Int32)), (2, .ref w1), (0, .ref q), (1, .ref t0)]) hx hb dX9_inverse_12 rfl hl (by decide) rfl (fun ls hl => ?_)
  have X0 : ∀ (v3_0 : Int32) (ibL0 : Bool) (f1_0 : Nat → Int64) (H : Heap) (locs : List Loc) (ls : Array Slot), va_P D vwCl (mW q v cJ V ibL0 dn rf mk th ++ ([(t0, .inl (cJ, 121, .inr (.inl p0))), (w1, .inl (cJ, 121, .inr (.inl f1_0)))])) H → va_D A (mW q v cJ V ibL0 dn rf mk th ++ ([(t0, .inl (cJ, 121, .inr (.inl p0))), (w1, .inl (cJ, 121, .inr (.inl f1_0)))])) → va_S A s.heap H locs → lv_has ls 7 [(0, .ref q), (1, .ref t0), (2, .ref w1), (3, .int v3_0)] → (some (f1_0, ibL0)) = some (r, ib') → G H locs 1 121 (F0 m 85 ls []) := by
    intro v3_0 ibL0 f1_0 H locs ls hP hD hS hl h
    refine hG _ _ _ _ _ ?_
    refine lv_aload_n hx hb dX9_inverse_85 rfl (lv_at hl 2 rfl) ?_
    have g0 := Option.some.inj h
    obtain ⟨h1, g1⟩ := Prod.mk.inj g0
    subst h1
    subst g1
    exact W.aret (v := .ref w1) hx hb hr (Or.inr ⟨_, rfl⟩) (Or.inr ⟨_, rfl⟩) (fun t ht hW => ⟨⟨(), w1, rfl, trivial, by rw [ht]; exact hP, va_K.moved hW.alike hK, hD⟩, hS.F ht⟩) hS.2.2 dX9_inverse_86
  have L0 : ∀ (K0 : Int32 → Bool → (Nat → Int64) → Option ((Nat → Int64) × Bool)) (HX0 : ∀ (v3_0 : Int32) (ibL0 : Bool) (f1_0 : Nat → Int64) (H : Heap) (locs : List Loc) (ls : Array Slot), va_P D vwCl (mW q v cJ V ibL0 dn rf mk th ++ ([(t0, .inl (cJ, 121, .inr (.inl p0))), (w1, .inl (cJ, 121, .inr (.inl f1_0)))])) H → va_D A (mW q v cJ V ibL0 dn rf mk th ++ ([(t0, .inl (cJ, 121, .inr (.inl p0))), (w1, .inl (cJ, 121, .inr (.inl f1_0)))])) → va_S A s.heap H locs → lv_has ls 7 [(0, .ref q), (1, .ref t0), (2, .ref w1), (3, .int v3_0)] → K0 v3_0 ibL0 f1_0 = some (r, ib') → G H locs 1 121 (F0 m 85 ls [])) (fu0 : Nat) (v3_0 : Int32) (ibL0 : Bool) (f1_0 : Nat → Int64) (H : Heap) (locs : List Loc) (ls : Array Slot), va_P D vwCl (mW q v cJ V ibL0 dn rf mk th ++ ([(t0, .inl (cJ, 121, .inr (.inl p0))), (w1, .inl (cJ, 121, .inr (.inl f1_0)))])) H → va_D A (mW q v cJ V ibL0 dn rf mk th ++ ([(t0, .inl (cJ, 121, .inr (.inl p0))), (w1, .inl (cJ, 121, .inr (.inl f1_0)))])) → va_S A s.heap H locs → lv_has ls 7 [(0, .ref q), (1, .ref t0), (2, .ref w1), (3, .int v3_0)] → p_X9_inverse_L0 F p0 K0 fu0 v3_0 ibL0 f1_0 = some (r, ib') → G H locs 1 121 (F0 m 13 ls []) := by
    intro K0 HX0 fu0
    induction fu0 with
    | zero =>
      intro v3_0 ibL0 f1_0 H locs ls hP hD hS hl h
      exact (zno h).elim
    | succ fu0 ih0 =>
      intro v3_0 ibL0 f1_0 H locs ls hP hD hS hl h
      refine hG _ _ _ _ _ ?_
      unfold p_X9_inverse_L0 at h
      refine lv_iload_n hx hb dX9_inverse_13 rfl (lv_at hl 3 rfl) ?_
      refine lv_bipush (v := (120 : Int32)) hx hb dX9_inverse_14 (by decide) ?_
      refine lv_icmp_gt (tgt := 85) hx hb dX9_inverse_16 (by decide) (fun c16 => ?_) (fun c16 => ?_)
      · replace h := zif_t h c16
        exact hGW _ _ _ _ _ (HX0 v3_0 ibL0 f1_0 _ _ ls hP hD hS (lv_sub hl [0, 1, 2, 3] rfl) h)
      · replace h := zif_f h c16
        refine lv_lconst (v := (0 : Int64)) hx hb dX9_inverse_19 (by decide) ?_
        refine lv_lstore (lv' := [(4, .long (0 : Int64)), (0, .ref q), (1, .ref t0), (2, .ref w1), (3, .int v3_0)]) hx hb dX9_inverse_20 hl (by decide) rfl (fun ls hl => ?_)
        refine lv_iconst (v := (2 : Int32)) hx hb dX9_inverse_22 (by decide) ?_
        refine lv_istore (lv' := [(6, .int (2 : Int32)), (4, .long (0 : Int64)), (0, .ref q), (1, .ref t0), (2, .ref w1), (3, .int v3_0)]) hx hb dX9_inverse_23 hl (by decide) rfl (fun ls hl => ?_)
        have X1 : ∀ (v4_1 : Int64) (v6_1 : Int32) (ibL1 : Bool) (H : Heap) (locs : List Loc) (ls : Array Slot), va_P D vwCl (mW q v cJ V ibL1 dn rf mk th ++ ([(t0, .inl (cJ, 121, .inr (.inl p0))), (w1, .inl (cJ, 121, .inr (.inl f1_0)))])) H → va_D A (mW q v cJ V ibL1 dn rf mk th ++ ([(t0, .inl (cJ, 121, .inr (.inl p0))), (w1, .inl (cJ, 121, .inr (.inl f1_0)))])) → va_S A s.heap H locs → lv_has ls 7 [(0, .ref q), (1, .ref t0), (2, .ref w1), (3, .int v3_0), (4, .long v4_1), (6, .int v6_1)] → (zb2 (p_X9_times ibL1 v4_1 (-(p0 (1 : Int32).toNatClampNeg))) (fun r2 ib_3 => (zg (v3_0 < 0 ∨ 121 ≤ v3_0.toNatClampNeg) (p_X9_inverse_L0 F p0 K0 fu0 (v3_0 + (1 : Int32)) ib_3 (vp_updL f1_0 v3_0.toNatClampNeg r2))))) = some (r, ib') → G H locs 1 121 (F0 m 66 ls []) := by
          intro v4_1 v6_1 ibL1 H locs ls hP hD hS hl h
          refine hG _ _ _ _ _ ?_
          refine lv_aload_n hx hb dX9_inverse_66 rfl (lv_at hl 2 rfl) ?_
          refine lv_iload_n hx hb dX9_inverse_67 rfl (lv_at hl 3 rfl) ?_
          refine lv_aload_n hx hb dX9_inverse_68 rfl (lv_at hl 0 rfl) ?_
          refine lv_lload hx hb dX9_inverse_69 (lv_at hl 4 rfl) ?_
          refine lv_aload_n hx hb dX9_inverse_71 rfl (lv_at hl 1 rfl) ?_
          refine lv_iconst (v := (1 : Int32)) hx hb dX9_inverse_72 (by decide) ?_
          refine va_lald hx hb hK hP 2 0 rfl rfl (zinc (by decide)) dX9_inverse_73 ?_
          refine lv_lneg hx hb dX9_inverse_74 ?_
          obtain ⟨r2, ib_3, e4, h⟩ := zb2_some h
          have hPc := zsub (wn := (mW q v cJ V ibL1 dn rf mk th)) hP [0, 1] rfl
          have hDc := hD.sub (ws' := (mW q v cJ V ibL1 dn rf mk th)) [0, 1] (by decide) rfl
          refine zgol (va_runV (As := [.long v4_1, .long (-(p0 (1 : Int32).toNatClampNeg))]) (rest := [.int v3_0, .ref w1]) ⟨hx, hb, hml, hown, hts⟩ (c_X9_times l D q v cJ cI cO cB V ibL1 dn rf mk th v4_1 (-(p0 (1 : Int32).toNatClampNeg)) r2 ib_3 e4 H.size) (cwV 2 hts gX9_inverse_X9_times rfl rfl rfl hdV_X9_times ⟨Nat.le_of_ble_eq_true rfl, Nat.le_of_ble_eq_true rfl⟩) (zpreV (q0 := 0) (ci := 9) (T := TX9) (N := 6) hK hPc hDc rfl rfl [.long v4_1, .long (-(p0 (1 : Int32).toNatClampNeg))]) rfl rfl hl.1 rfl (lv_room (Nat.le_of_ble_eq_true rfl)) dX9_inverse_75 ⟨Nat.le_of_ble_eq_true rfl, Nat.le_of_ble_eq_true rfl⟩) (va_free hD hS hA [0, 1] rfl) (zjs (wn := (mW q v cJ V ib_3 dn rf mk th ++ ([(t0, .inl (cJ, 121, .inr (.inl p0))), (w1, .inl (cJ, 121, .inr (.inl f1_0)))]))) [2, 3, 0, 1] (zjF (wr := ([(t0, .inl (cJ, 121, .inr (.inl p0))), (w1, .inl (cJ, 121, .inr (.inl f1_0)))] : va_W)) hP hD hS hA [0, 1] [2, 3] rfl rfl (by decide) (by decide)) rfl (by decide)) hS (fun H locs hP hD hS => ?_)
          replace hP : va_P D vwCl (mW q v cJ V ib_3 dn rf mk th ++ ([(t0, .inl (cJ, 121, .inr (.inl p0))), (w1, .inl (cJ, 121, .inr (.inl f1_0)))])) H := hP
          replace hD : va_D A (mW q v cJ V ib_3 dn rf mk th ++ ([(t0, .inl (cJ, 121, .inr (.inl p0))), (w1, .inl (cJ, 121, .inr (.inl f1_0)))])) := hD
          obtain ⟨z78, h⟩ := zg_some h
          refine va_last hx hb hK hP hD hS 3 0 rfl rfl z78 dX9_inverse_78 (fun H locs hP hD hS => ?_)
          replace hP : va_P D vwCl (mW q v cJ V ib_3 dn rf mk th ++ ([(t0, .inl (cJ, 121, .inr (.inl p0))), (w1, .inl (cJ, 121, .inr (.inl (vp_updL f1_0 v3_0.toNatClampNeg r2))))])) H := hP
          replace hD : va_D A (mW q v cJ V ib_3 dn rf mk th ++ ([(t0, .inl (cJ, 121, .inr (.inl p0))), (w1, .inl (cJ, 121, .inr (.inl (vp_updL f1_0 v3_0.toNatClampNeg r2))))])) := hD
          refine lv_iinc (v := (v3_0 + (1 : Int32))) (lv' := [(3, .int (v3_0 + (1 : Int32))), (0, .ref q), (1, .ref t0), (2, .ref w1), (4, .long v4_1), (6, .int v6_1)]) hx hb dX9_inverse_79 hl (k := 3) rfl rfl (by decide) rfl (fun ls hl => ?_)
          refine lv_goto (tgt := 13) hx hb dX9_inverse_82 (by decide) ?_
          exact hGW _ _ _ _ _ (ih0 (v3_0 + (1 : Int32)) ib_3 (vp_updL f1_0 v3_0.toNatClampNeg r2) _ _ ls hP hD hS (lv_sub hl [1, 2, 3, 0] rfl) h)
        have L1 : ∀ (K1 : Int64 → Int32 → Bool → Option ((Nat → Int64) × Bool)) (HX1 : ∀ (v4_1 : Int64) (v6_1 : Int32) (ibL1 : Bool) (H : Heap) (locs : List Loc) (ls : Array Slot), va_P D vwCl (mW q v cJ V ibL1 dn rf mk th ++ ([(t0, .inl (cJ, 121, .inr (.inl p0))), (w1, .inl (cJ, 121, .inr (.inl f1_0)))])) H → va_D A (mW q v cJ V ibL1 dn rf mk th ++ ([(t0, .inl (cJ, 121, .inr (.inl p0))), (w1, .inl (cJ, 121, .inr (.inl f1_0)))])) → va_S A s.heap H locs → lv_has ls 7 [(0, .ref q), (1, .ref t0), (2, .ref w1), (3, .int v3_0), (4, .long v4_1), (6, .int v6_1)] → K1 v4_1 v6_1 ibL1 = some (r, ib') → G H locs 1 121 (F0 m 66 ls [])) (fu1 : Nat) (v4_1 : Int64) (v6_1 : Int32) (ibL1 : Bool) (H : Heap) (locs : List Loc) (ls : Array Slot), va_P D vwCl (mW q v cJ V ibL1 dn rf mk th ++ ([(t0, .inl (cJ, 121, .inr (.inl p0))), (w1, .inl (cJ, 121, .inr (.inl f1_0)))])) H → va_D A (mW q v cJ V ibL1 dn rf mk th ++ ([(t0, .inl (cJ, 121, .inr (.inl p0))), (w1, .inl (cJ, 121, .inr (.inl f1_0)))])) → va_S A s.heap H locs → lv_has ls 7 [(0, .ref q), (1, .ref t0), (2, .ref w1), (3, .int v3_0), (4, .long v4_1), (6, .int v6_1)] → p_X9_inverse_L1 F p0 v3_0 f1_0 K1 fu1 v4_1 v6_1 ibL1 = some (r, ib') → G H locs 1 121 (F0 m 25 ls []) := by
          intro K1 HX1 fu1
          induction fu1 with
          | zero =>
            intro v4_1 v6_1 ibL1 H locs ls hP hD hS hl h
            exact (zno h).elim
          | succ fu1 ih1 =>
            intro v4_1 v6_1 ibL1 H locs ls hP hD hS hl h
            refine hG _ _ _ _ _ ?_
            unfold p_X9_inverse_L1 at h
            refine lv_iload hx hb dX9_inverse_25 (lv_at hl 5 rfl) ?_
            refine lv_iload_n hx hb dX9_inverse_27 rfl (lv_at hl 3 rfl) ?_
            refine lv_icmp_gt (tgt := 66) hx hb dX9_inverse_28 (by decide) (fun c28 => ?_) (fun c28 => ?_)
            · replace h := zif_t h c28
              exact hGW _ _ _ _ _ (HX1 v4_1 v6_1 ibL1 _ _ ls hP hD hS (lv_sub hl [0, 1, 2, 3, 4, 5] rfl) h)
            · replace h := zif_f h c28
              refine lv_iload_n hx hb dX9_inverse_31 rfl (lv_at hl 3 rfl) ?_
              refine lv_iload hx hb dX9_inverse_32 (lv_at hl 5 rfl) ?_
              obtain ⟨z34, h⟩ := zg_some h
              refine lv_irem hx hb dX9_inverse_34 z34 ?_
              refine lv_if_ne (tgt := 60) hx hb dX9_inverse_35 (by decide) (fun c35 => ?_) (fun c35 => ?_)
              · replace h := zif_t h c35
                refine lv_iinc (v := (v6_1 + (1 : Int32))) (lv' := [(6, .int (v6_1 + (1 : Int32))), (0, .ref q), (1, .ref t0), (2, .ref w1), (3, .int v3_0), (4, .long v4_1)]) hx hb dX9_inverse_60 hl (k := 5) rfl rfl (by decide) rfl (fun ls hl => ?_)
                refine lv_goto (tgt := 25) hx hb dX9_inverse_63 (by decide) ?_
                exact hGW _ _ _ _ _ (ih1 v4_1 (v6_1 + (1 : Int32)) ibL1 _ _ ls hP hD hS (lv_sub hl [1, 2, 3, 4, 5, 0] rfl) h)
              · replace h := zif_fn h c35
                refine lv_aload_n hx hb dX9_inverse_38 rfl (lv_at hl 0 rfl) ?_
                refine lv_lload hx hb dX9_inverse_39 (lv_at hl 4 rfl) ?_
                refine lv_aload_n hx hb dX9_inverse_41 rfl (lv_at hl 0 rfl) ?_
                refine lv_aload_n hx hb dX9_inverse_42 rfl (lv_at hl 1 rfl) ?_
                refine lv_iload hx hb dX9_inverse_43 (lv_at hl 5 rfl) ?_
                obtain ⟨z45, h⟩ := zg_some h
                refine va_lald hx hb hK hP 2 0 rfl rfl z45 dX9_inverse_45 ?_
                refine lv_aload_n hx hb dX9_inverse_46 rfl (lv_at hl 2 rfl) ?_
                refine lv_iload_n hx hb dX9_inverse_47 rfl (lv_at hl 3 rfl) ?_
                refine lv_iload hx hb dX9_inverse_48 (lv_at hl 5 rfl) ?_
                obtain ⟨z50, h⟩ := zg_some h
                refine lv_idiv hx hb dX9_inverse_50 z50 ?_
                obtain ⟨z51, h⟩ := zg_some h
                refine va_lald hx hb hK hP 3 0 rfl rfl z51 dX9_inverse_51 ?_
                obtain ⟨r5, ib_6, e7, h⟩ := zb2_some h
                have hPc := zsub (wn := (mW q v cJ V ibL1 dn rf mk th)) hP [0, 1] rfl
                have hDc := hD.sub (ws' := (mW q v cJ V ibL1 dn rf mk th)) [0, 1] (by decide) rfl
                refine zgol (va_runV (As := [.long (p0 v6_1.toNatClampNeg), .long (f1_0 (v3_0 / v6_1).toNatClampNeg)]) (rest := [.long v4_1, .ref q]) ⟨hx, hb, hml, hown, hts⟩ (c_X9_times l D q v cJ cI cO cB V ibL1 dn rf mk th (p0 v6_1.toNatClampNeg) (f1_0 (v3_0 / v6_1).toNatClampNeg) r5 ib_6 e7 H.size) (cwV 2 hts gX9_inverse_X9_times rfl rfl rfl hdV_X9_times ⟨Nat.le_of_ble_eq_true rfl, Nat.le_of_ble_eq_true rfl⟩) (zpreV (q0 := 0) (ci := 9) (T := TX9) (N := 6) hK hPc hDc rfl rfl [.long (p0 v6_1.toNatClampNeg), .long (f1_0 (v3_0 / v6_1).toNatClampNeg)]) rfl rfl hl.1 rfl (lv_room (Nat.le_of_ble_eq_true rfl)) dX9_inverse_52 ⟨Nat.le_of_ble_eq_true rfl, Nat.le_of_ble_eq_true rfl⟩) (va_free hD hS hA [0, 1] rfl) (zjs (wn := (mW q v cJ V ib_6 dn rf mk th ++ ([(t0, .inl (cJ, 121, .inr (.inl p0))), (w1, .inl (cJ, 121, .inr (.inl f1_0)))]))) [2, 3, 0, 1] (zjF (wr := ([(t0, .inl (cJ, 121, .inr (.inl p0))), (w1, .inl (cJ, 121, .inr (.inl f1_0)))] : va_W)) hP hD hS hA [0, 1] [2, 3] rfl rfl (by decide) (by decide)) rfl (by decide)) hS (fun H locs hP hD hS => ?_)
                replace hP : va_P D vwCl (mW q v cJ V ib_6 dn rf mk th ++ ([(t0, .inl (cJ, 121, .inr (.inl p0))), (w1, .inl (cJ, 121, .inr (.inl f1_0)))])) H := hP
                replace hD : va_D A (mW q v cJ V ib_6 dn rf mk th ++ ([(t0, .inl (cJ, 121, .inr (.inl p0))), (w1, .inl (cJ, 121, .inr (.inl f1_0)))])) := hD
                obtain ⟨r8, ib_9, e10, h⟩ := zb2_some h
                have hPc := zsub (wn := (mW q v cJ V ib_6 dn rf mk th)) hP [0, 1] rfl
                have hDc := hD.sub (ws' := (mW q v cJ V ib_6 dn rf mk th)) [0, 1] (by decide) rfl
                refine zgol (va_runV (As := [.long v4_1, .long r5]) (rest := []) ⟨hx, hb, hml, hown, hts⟩ (c_X9_plus l D q v cJ cI cO cB V ib_6 dn rf mk th v4_1 r5 r8 ib_9 e10 H.size) (cwV 2 hts gX9_inverse_X9_plus rfl rfl rfl hdV_X9_plus ⟨Nat.le_of_ble_eq_true rfl, Nat.le_of_ble_eq_true rfl⟩) (zpreV (q0 := 0) (ci := 9) (T := TX9) (N := 6) hK hPc hDc rfl rfl [.long v4_1, .long r5]) rfl rfl hl.1 rfl (lv_room (Nat.le_of_ble_eq_true rfl)) dX9_inverse_55 ⟨Nat.le_of_ble_eq_true rfl, Nat.le_of_ble_eq_true rfl⟩) (va_free hD hS hA [0, 1] rfl) (zjs (wn := (mW q v cJ V ib_9 dn rf mk th ++ ([(t0, .inl (cJ, 121, .inr (.inl p0))), (w1, .inl (cJ, 121, .inr (.inl f1_0)))]))) [2, 3, 0, 1] (zjF (wr := ([(t0, .inl (cJ, 121, .inr (.inl p0))), (w1, .inl (cJ, 121, .inr (.inl f1_0)))] : va_W)) hP hD hS hA [0, 1] [2, 3] rfl rfl (by decide) (by decide)) rfl (by decide)) hS (fun H locs hP hD hS => ?_)
                replace hP : va_P D vwCl (mW q v cJ V ib_9 dn rf mk th ++ ([(t0, .inl (cJ, 121, .inr (.inl p0))), (w1, .inl (cJ, 121, .inr (.inl f1_0)))])) H := hP
                replace hD : va_D A (mW q v cJ V ib_9 dn rf mk th ++ ([(t0, .inl (cJ, 121, .inr (.inl p0))), (w1, .inl (cJ, 121, .inr (.inl f1_0)))])) := hD
                refine lv_lstore (lv' := [(4, .long r8), (0, .ref q), (1, .ref t0), (2, .ref w1), (3, .int v3_0), (6, .int v6_1)]) hx hb dX9_inverse_58 hl (by decide) rfl (fun ls hl => ?_)
                refine lv_iinc (v := (v6_1 + (1 : Int32))) (lv' := [(6, .int (v6_1 + (1 : Int32))), (4, .long r8), (0, .ref q), (1, .ref t0), (2, .ref w1), (3, .int v3_0)]) hx hb dX9_inverse_60 hl (k := 5) rfl rfl (by decide) rfl (fun ls hl => ?_)
                refine lv_goto (tgt := 25) hx hb dX9_inverse_63 (by decide) ?_
                exact hGW _ _ _ _ _ (ih1 r8 (v6_1 + (1 : Int32)) ib_9 _ _ ls hP hD hS (lv_sub hl [2, 3, 4, 5, 1, 0] rfl) h)
        exact hGW _ _ _ _ _ (L1 _ X1 F (0 : Int64) (2 : Int32) ibL0 _ _ ls hP hD hS (lv_sub hl [2, 3, 4, 5, 1, 0] rfl) h)
  exact hGW _ _ _ _ _ (L0 _ X0 F (2 : Int32) ib (vp_updL (fun _ => 0) (1 : Int32).toNatClampNeg (p0 (1 : Int32).toNatClampNeg)) _ _ ls hP hD hS (lv_sub hl [2, 3, 1, 0] rfl) h)

noncomputable def p_X9_byPrimes_L1 (F : Nat) (p0 : Nat → Int64) (v3_0 : Int32) (k : Int32 → Bool → (Nat → Int64) → Option ((Nat → Int64) × Bool)) : Nat → Int32 → Bool → (Nat → Int64) → Option ((Nat → Int64) × Bool)
  | 0, _, _, _ => none
  | n + 1, v4_1, ibL1, f1_1 => (if v4_1 ≤ (1 : Int32) then (k v4_1 ibL1 f1_1) else (zg (v3_0 < 0 ∨ 121 ≤ v3_0.toNatClampNeg) (zb1 (p_X9_least F v4_1) (fun r2 => (zb1 (p_X9_without F v4_1 r2) (fun r4 => (zg (r4 = 0) (zg ((v4_1 / r4) < 0 ∨ 121 ≤ (v4_1 / r4).toNatClampNeg) (zb2 (p_X9_times ibL1 (f1_1 v3_0.toNatClampNeg) (p0 (v4_1 / r4).toNatClampNeg)) (fun r6 ib_7 => (zg (v3_0 < 0 ∨ 121 ≤ v3_0.toNatClampNeg) (zb1 (p_X9_least F v4_1) (fun r9 => (zb1 (p_X9_without F v4_1 r9) (fun r11 => (p_X9_byPrimes_L1 F p0 v3_0 k n r11 ib_7 (vp_updL f1_1 v3_0.toNatClampNeg r6)))))))))))))))))
noncomputable def p_X9_byPrimes_L0 (F : Nat) (p0 : Nat → Int64) (k : Int32 → Bool → (Nat → Int64) → Option ((Nat → Int64) × Bool)) : Nat → Int32 → Bool → (Nat → Int64) → Option ((Nat → Int64) × Bool)
  | 0, _, _, _ => none
  | n + 1, v3_0, ibL0, f1_0 => (if (120 : Int32) < v3_0 then (k v3_0 ibL0 f1_0) else (zg (v3_0 < 0 ∨ 121 ≤ v3_0.toNatClampNeg) (p_X9_byPrimes_L1 F p0 v3_0 (fun v4_1 ibL1 f1_1 => (p_X9_byPrimes_L0 F p0 k n (v3_0 + (1 : Int32)) ibL1 f1_1)) F v3_0 ibL0 (vp_updL f1_0 v3_0.toNatClampNeg (1 : Int64)))))
noncomputable def p_X9_byPrimes (F : Nat) (ib : Bool) (p0 : Nat → Int64) : Option ((Nat → Int64) × Bool) := (p_X9_byPrimes_L0 F p0 (fun v3_0 ibL0 f1_0 => (some (f1_0, ibL0))) F (1 : Int32) ib (fun _ => 0))
theorem hdV_X9_byPrimes : yX9_byPrimes.cls = RX9 ∧ yX9_byPrimes.cls ≠ "java/lang/invoke/MethodHandle" ∧ yX9_byPrimes.cls ≠ "java/lang/invoke/VarHandle" ∧ (parseMethodDescriptor yX9_byPrimes.desc).map (fun d => d.parameters.length) = some 1 := by decide +kernel
set_option maxHeartbeats 4000000 in
set_option maxRecDepth 100000 in
theorem c_X9_byPrimes (l : Launch) (D : va_G) (q v : Nat) (cJ cI cO cB : ClassId) (V : Nat → Int64) (ib : Bool) (dn : Int32) (rf : Int32) (mk : Int32) (th : Int32) (F : Nat) (t0 : Nat) (p0 : Nat → Int64) (r : Nat → Int64) (ib' : Bool) (h : p_X9_byPrimes F ib p0 = some (r, ib')) : zMn l yX9_byPrimes wsX9_byPrimes 1 26 1 121 D (zT cJ cI cO cB) [.ref q, .ref t0] (mW q v cJ V ib dn rf mk th ++ ([(t0, .inl (cJ, 121, .inr (.inl p0)))])) (fun x => (mW q v cJ V ib' dn rf mk th ++ ([(t0, .inl (cJ, 121, .inr (.inl p0))), (x, .inl (cJ, 121, .inr (.inl r)))]))) := by
  intro sz
  delta zQn
  refine Met.ofW (cc := cX9_byPrimes) (maxL := 5) (ret := (some (.array .long))) (by decide) rfl ?_
  intro p e s m args below meth c s₁ B hml hv
  obtain ⟨rfl, hsz, hP, hK, hD0⟩ := hv
  have hx := B.exec
  have hb := B.bytes
  have hr := B.returns
  have hts := atoms_spec (ws := wsX9_byPrimes) B.pre
  have hown : s.vm.findClass RX9 = some m.cls := findClass_of_methodNamed B.named
  have hlocks := B.notSynchronized
  subst hsz
  have hD := hD0.self (sz := s.heap.size)
  generalize hAe : va_A (mW q v cJ V ib dn rf mk th ++ ([(t0, .inl (cJ, 121, .inr (.inl p0)))])) s.heap.size = A at hD ⊢
  have hA : ∀ q : Nat, s.heap.size ≤ q → A q := fun q h => by rw [← hAe]; exact Or.inr h
  have hS : va_S A s.heap s.heap [] := va_S.rf
  have hl := lv_entry ([.ref q, .ref t0]) (n := 5) (Nat.le_of_ble_eq_true rfl)
  rw [lg_entry_eq]
  generalize (lg_sl ([.ref q, .ref t0]) ++ List.replicate (5 - (lg_sl ([.ref q, .ref t0])).length) Slot.unset).toArray = ls at hl ⊢
  replace hl : lv_has ls 5 [(0, .ref q), (1, .ref t0)] := hl
  have karr := hts (.arrayClass .long) (zmem 1 rfl)
  replace h : (p_X9_byPrimes_L0 F p0 (fun v3_0 ibL0 f1_0 => (some (f1_0, ibL0))) F (1 : Int32) ib (fun _ => 0)) = some (r, ib') := h
  refine zabs (fun G hG hGW => ?_)
  obtain ⟨H, hHe⟩ : ∃ H, H = s.heap := ⟨_, rfl⟩
  rw [← hHe] at hP
  replace hS : va_S A s.heap H [] := by rw [hHe]; exact hS
  refine zheap hHe ?_
  refine lv_bipush (v := (121 : Int32)) hx hb dX9_byPrimes_0 (by decide) ?_
  refine znewJ (N := 121) hx hb karr hK hP hD hS hA (by decide) (by decide) (by decide) (Nat.le_of_ble_eq_true rfl) (Nat.le_of_ble_eq_true rfl) dX9_byPrimes_2 (fun w1 H hP hD hS => ?_)
  replace hP : va_P D vwCl (mW q v cJ V ib dn rf mk th ++ ([(t0, .inl (cJ, 121, .inr (.inl p0))), (w1, .inl (cJ, 121, .inr (.inl (fun _ => 0))))])) H := hP
  replace hD : va_D A (mW q v cJ V ib dn rf mk th ++ ([(t0, .inl (cJ, 121, .inr (.inl p0))), (w1, .inl (cJ, 121, .inr (.inl (fun _ => 0))))])) := hD
  refine lv_astore_n (lv' := [(2, .ref w1), (0, .ref q), (1, .ref t0)]) hx hb dX9_byPrimes_4 rfl hl (by decide) rfl (fun ls hl => ?_)
  refine lv_iconst (v := (1 : Int32)) hx hb dX9_byPrimes_5 (by decide) ?_
  refine lv_istore_n (lv' := [(3, .int (1 : Int32)), (2, .ref w1), (0, .ref q), (1, .ref t0)]) hx hb dX9_byPrimes_6 rfl hl (by decide) rfl (fun ls hl => ?_)
  have X0 : ∀ (v3_0 : Int32) (ibL0 : Bool) (f1_0 : Nat → Int64) (H : Heap) (locs : List Loc) (ls : Array Slot), va_P D vwCl (mW q v cJ V ibL0 dn rf mk th ++ ([(t0, .inl (cJ, 121, .inr (.inl p0))), (w1, .inl (cJ, 121, .inr (.inl f1_0)))])) H → va_D A (mW q v cJ V ibL0 dn rf mk th ++ ([(t0, .inl (cJ, 121, .inr (.inl p0))), (w1, .inl (cJ, 121, .inr (.inl f1_0)))])) → va_S A s.heap H locs → lv_has ls 5 [(0, .ref q), (1, .ref t0), (2, .ref w1), (3, .int v3_0)] → (some (f1_0, ibL0)) = some (r, ib') → G H locs 1 121 (F0 m 72 ls []) := by
    intro v3_0 ibL0 f1_0 H locs ls hP hD hS hl h
    refine hG _ _ _ _ _ ?_
    refine lv_aload_n hx hb dX9_byPrimes_72 rfl (lv_at hl 2 rfl) ?_
    have g0 := Option.some.inj h
    obtain ⟨h1, g1⟩ := Prod.mk.inj g0
    subst h1
    subst g1
    exact W.aret (v := .ref w1) hx hb hr (Or.inr ⟨_, rfl⟩) (Or.inr ⟨_, rfl⟩) (fun t ht hW => ⟨⟨(), w1, rfl, trivial, by rw [ht]; exact hP, va_K.moved hW.alike hK, hD⟩, hS.F ht⟩) hS.2.2 dX9_byPrimes_73
  have L0 : ∀ (K0 : Int32 → Bool → (Nat → Int64) → Option ((Nat → Int64) × Bool)) (HX0 : ∀ (v3_0 : Int32) (ibL0 : Bool) (f1_0 : Nat → Int64) (H : Heap) (locs : List Loc) (ls : Array Slot), va_P D vwCl (mW q v cJ V ibL0 dn rf mk th ++ ([(t0, .inl (cJ, 121, .inr (.inl p0))), (w1, .inl (cJ, 121, .inr (.inl f1_0)))])) H → va_D A (mW q v cJ V ibL0 dn rf mk th ++ ([(t0, .inl (cJ, 121, .inr (.inl p0))), (w1, .inl (cJ, 121, .inr (.inl f1_0)))])) → va_S A s.heap H locs → lv_has ls 5 [(0, .ref q), (1, .ref t0), (2, .ref w1), (3, .int v3_0)] → K0 v3_0 ibL0 f1_0 = some (r, ib') → G H locs 1 121 (F0 m 72 ls [])) (fu0 : Nat) (v3_0 : Int32) (ibL0 : Bool) (f1_0 : Nat → Int64) (H : Heap) (locs : List Loc) (ls : Array Slot), va_P D vwCl (mW q v cJ V ibL0 dn rf mk th ++ ([(t0, .inl (cJ, 121, .inr (.inl p0))), (w1, .inl (cJ, 121, .inr (.inl f1_0)))])) H → va_D A (mW q v cJ V ibL0 dn rf mk th ++ ([(t0, .inl (cJ, 121, .inr (.inl p0))), (w1, .inl (cJ, 121, .inr (.inl f1_0)))])) → va_S A s.heap H locs → lv_has ls 5 [(0, .ref q), (1, .ref t0), (2, .ref w1), (3, .int v3_0)] → p_X9_byPrimes_L0 F p0 K0 fu0 v3_0 ibL0 f1_0 = some (r, ib') → G H locs 1 121 (F0 m 7 ls []) := by
    intro K0 HX0 fu0
    induction fu0 with
    | zero =>
      intro v3_0 ibL0 f1_0 H locs ls hP hD hS hl h
      exact (zno h).elim
    | succ fu0 ih0 =>
      intro v3_0 ibL0 f1_0 H locs ls hP hD hS hl h
      refine hG _ _ _ _ _ ?_
      unfold p_X9_byPrimes_L0 at h
      refine lv_iload_n hx hb dX9_byPrimes_7 rfl (lv_at hl 3 rfl) ?_
      refine lv_bipush (v := (120 : Int32)) hx hb dX9_byPrimes_8 (by decide) ?_
      refine lv_icmp_gt (tgt := 72) hx hb dX9_byPrimes_10 (by decide) (fun c10 => ?_) (fun c10 => ?_)
      · replace h := zif_t h c10
        exact hGW _ _ _ _ _ (HX0 v3_0 ibL0 f1_0 _ _ ls hP hD hS (lv_sub hl [0, 1, 2, 3] rfl) h)
      · replace h := zif_f h c10
        refine lv_aload_n hx hb dX9_byPrimes_13 rfl (lv_at hl 2 rfl) ?_
        refine lv_iload_n hx hb dX9_byPrimes_14 rfl (lv_at hl 3 rfl) ?_
        refine lv_lconst (v := (1 : Int64)) hx hb dX9_byPrimes_15 (by decide) ?_
        obtain ⟨z16, h⟩ := zg_some h
        refine va_last hx hb hK hP hD hS 3 0 rfl rfl z16 dX9_byPrimes_16 (fun H locs hP hD hS => ?_)
        replace hP : va_P D vwCl (mW q v cJ V ibL0 dn rf mk th ++ ([(t0, .inl (cJ, 121, .inr (.inl p0))), (w1, .inl (cJ, 121, .inr (.inl (vp_updL f1_0 v3_0.toNatClampNeg (1 : Int64)))))])) H := hP
        replace hD : va_D A (mW q v cJ V ibL0 dn rf mk th ++ ([(t0, .inl (cJ, 121, .inr (.inl p0))), (w1, .inl (cJ, 121, .inr (.inl (vp_updL f1_0 v3_0.toNatClampNeg (1 : Int64)))))])) := hD
        refine lv_iload_n hx hb dX9_byPrimes_17 rfl (lv_at hl 3 rfl) ?_
        refine lv_istore (lv' := [(4, .int v3_0), (0, .ref q), (1, .ref t0), (2, .ref w1), (3, .int v3_0)]) hx hb dX9_byPrimes_18 hl (by decide) rfl (fun ls hl => ?_)
        have X1 : ∀ (v4_1 : Int32) (ibL1 : Bool) (f1_1 : Nat → Int64) (H : Heap) (locs : List Loc) (ls : Array Slot), va_P D vwCl (mW q v cJ V ibL1 dn rf mk th ++ ([(t0, .inl (cJ, 121, .inr (.inl p0))), (w1, .inl (cJ, 121, .inr (.inl f1_1)))])) H → va_D A (mW q v cJ V ibL1 dn rf mk th ++ ([(t0, .inl (cJ, 121, .inr (.inl p0))), (w1, .inl (cJ, 121, .inr (.inl f1_1)))])) → va_S A s.heap H locs → lv_has ls 5 [(0, .ref q), (1, .ref t0), (2, .ref w1), (3, .int v3_0), (4, .int v4_1)] → (p_X9_byPrimes_L0 F p0 K0 fu0 (v3_0 + (1 : Int32)) ibL1 f1_1) = some (r, ib') → G H locs 1 121 (F0 m 66 ls []) := by
          intro v4_1 ibL1 f1_1 H locs ls hP hD hS hl h
          refine hG _ _ _ _ _ ?_
          refine lv_iinc (v := (v3_0 + (1 : Int32))) (lv' := [(3, .int (v3_0 + (1 : Int32))), (0, .ref q), (1, .ref t0), (2, .ref w1), (4, .int v4_1)]) hx hb dX9_byPrimes_66 hl (k := 3) rfl rfl (by decide) rfl (fun ls hl => ?_)
          refine lv_goto (tgt := 7) hx hb dX9_byPrimes_69 (by decide) ?_
          exact hGW _ _ _ _ _ (ih0 (v3_0 + (1 : Int32)) ibL1 f1_1 _ _ ls hP hD hS (lv_sub hl [1, 2, 3, 0] rfl) h)
        have L1 : ∀ (K1 : Int32 → Bool → (Nat → Int64) → Option ((Nat → Int64) × Bool)) (HX1 : ∀ (v4_1 : Int32) (ibL1 : Bool) (f1_1 : Nat → Int64) (H : Heap) (locs : List Loc) (ls : Array Slot), va_P D vwCl (mW q v cJ V ibL1 dn rf mk th ++ ([(t0, .inl (cJ, 121, .inr (.inl p0))), (w1, .inl (cJ, 121, .inr (.inl f1_1)))])) H → va_D A (mW q v cJ V ibL1 dn rf mk th ++ ([(t0, .inl (cJ, 121, .inr (.inl p0))), (w1, .inl (cJ, 121, .inr (.inl f1_1)))])) → va_S A s.heap H locs → lv_has ls 5 [(0, .ref q), (1, .ref t0), (2, .ref w1), (3, .int v3_0), (4, .int v4_1)] → K1 v4_1 ibL1 f1_1 = some (r, ib') → G H locs 1 121 (F0 m 66 ls [])) (fu1 : Nat) (v4_1 : Int32) (ibL1 : Bool) (f1_1 : Nat → Int64) (H : Heap) (locs : List Loc) (ls : Array Slot), va_P D vwCl (mW q v cJ V ibL1 dn rf mk th ++ ([(t0, .inl (cJ, 121, .inr (.inl p0))), (w1, .inl (cJ, 121, .inr (.inl f1_1)))])) H → va_D A (mW q v cJ V ibL1 dn rf mk th ++ ([(t0, .inl (cJ, 121, .inr (.inl p0))), (w1, .inl (cJ, 121, .inr (.inl f1_1)))])) → va_S A s.heap H locs → lv_has ls 5 [(0, .ref q), (1, .ref t0), (2, .ref w1), (3, .int v3_0), (4, .int v4_1)] → p_X9_byPrimes_L1 F p0 v3_0 K1 fu1 v4_1 ibL1 f1_1 = some (r, ib') → G H locs 1 121 (F0 m 20 ls []) := by
          intro K1 HX1 fu1
          induction fu1 with
          | zero =>
            intro v4_1 ibL1 f1_1 H locs ls hP hD hS hl h
            exact (zno h).elim
          | succ fu1 ih1 =>
            intro v4_1 ibL1 f1_1 H locs ls hP hD hS hl h
            refine hG _ _ _ _ _ ?_
            unfold p_X9_byPrimes_L1 at h
            refine lv_iload hx hb dX9_byPrimes_20 (lv_at hl 4 rfl) ?_
            refine lv_iconst (v := (1 : Int32)) hx hb dX9_byPrimes_22 (by decide) ?_
            refine lv_icmp_le (tgt := 66) hx hb dX9_byPrimes_23 (by decide) (fun c23 => ?_) (fun c23 => ?_)
            · replace h := zif_t h c23
              exact hGW _ _ _ _ _ (HX1 v4_1 ibL1 f1_1 _ _ ls hP hD hS (lv_sub hl [0, 1, 2, 3, 4] rfl) h)
            · replace h := zif_f h c23
              refine lv_aload_n hx hb dX9_byPrimes_26 rfl (lv_at hl 2 rfl) ?_
              refine lv_iload_n hx hb dX9_byPrimes_27 rfl (lv_at hl 3 rfl) ?_
              refine lv_aload_n hx hb dX9_byPrimes_28 rfl (lv_at hl 0 rfl) ?_
              refine lv_aload_n hx hb dX9_byPrimes_29 rfl (lv_at hl 2 rfl) ?_
              refine lv_iload_n hx hb dX9_byPrimes_30 rfl (lv_at hl 3 rfl) ?_
              obtain ⟨z31, h⟩ := zg_some h
              refine va_lald hx hb hK hP 3 0 rfl rfl z31 dX9_byPrimes_31 ?_
              refine lv_aload_n hx hb dX9_byPrimes_32 rfl (lv_at hl 1 rfl) ?_
              refine lv_iload hx hb dX9_byPrimes_33 (lv_at hl 4 rfl) ?_
              refine lv_iload hx hb dX9_byPrimes_35 (lv_at hl 4 rfl) ?_
              refine lv_iload hx hb dX9_byPrimes_37 (lv_at hl 4 rfl) ?_
              obtain ⟨r2, e3, h⟩ := zb1_some h
              refine zgoi (va_runS (As := [.int v4_1]) (rest := [.int v4_1, .int v4_1, .ref t0, .long (f1_1 v3_0.toNatClampNeg), .ref q, .int v3_0, .ref w1]) ⟨hx, hb, hml, hown, hts⟩ (c_X9_least l D (zT cJ cI cO cB) F v4_1 r2 e3 H.size) (va_cwS 1 hts gX9_byPrimes_X9_least rfl rfl rfl hdS_X9_least ⟨Nat.le_of_ble_eq_true rfl, Nat.le_of_ble_eq_true rfl⟩) (zpreS hK zP0 (zD0 (A := A)) [.int v4_1]) rfl rfl hl.1 rfl (lv_room (Nat.le_of_ble_eq_true rfl)) dX9_byPrimes_39 ⟨Nat.le_of_ble_eq_true rfl, Nat.le_of_ble_eq_true rfl⟩) (zf0 hS hA) (zjE hP hD) hS (fun H locs hP hD hS => ?_)
              obtain ⟨r4, e5, h⟩ := zb1_some h
              refine zgoi (va_runS (As := [.int v4_1, .int r2]) (rest := [.int v4_1, .ref t0, .long (f1_1 v3_0.toNatClampNeg), .ref q, .int v3_0, .ref w1]) ⟨hx, hb, hml, hown, hts⟩ (c_X9_without l D (zT cJ cI cO cB) F v4_1 r2 r4 e5 H.size) (va_cwS 2 hts gX9_byPrimes_X9_without rfl rfl rfl hdS_X9_without ⟨Nat.le_of_ble_eq_true rfl, Nat.le_of_ble_eq_true rfl⟩) (zpreS hK zP0 (zD0 (A := A)) [.int v4_1, .int r2]) rfl rfl hl.1 rfl (lv_room (Nat.le_of_ble_eq_true rfl)) dX9_byPrimes_42 ⟨Nat.le_of_ble_eq_true rfl, Nat.le_of_ble_eq_true rfl⟩) (zf0 hS hA) (zjE hP hD) hS (fun H locs hP hD hS => ?_)
              obtain ⟨z45, h⟩ := zg_some h
              refine lv_idiv hx hb dX9_byPrimes_45 z45 ?_
              obtain ⟨z46, h⟩ := zg_some h
              refine va_lald hx hb hK hP 2 0 rfl rfl z46 dX9_byPrimes_46 ?_
              obtain ⟨r6, ib_7, e8, h⟩ := zb2_some h
              have hPc := zsub (wn := (mW q v cJ V ibL1 dn rf mk th)) hP [0, 1] rfl
              have hDc := hD.sub (ws' := (mW q v cJ V ibL1 dn rf mk th)) [0, 1] (by decide) rfl
              refine zgol (va_runV (As := [.long (f1_1 v3_0.toNatClampNeg), .long (p0 (v4_1 / r4).toNatClampNeg)]) (rest := [.int v3_0, .ref w1]) ⟨hx, hb, hml, hown, hts⟩ (c_X9_times l D q v cJ cI cO cB V ibL1 dn rf mk th (f1_1 v3_0.toNatClampNeg) (p0 (v4_1 / r4).toNatClampNeg) r6 ib_7 e8 H.size) (cwV 2 hts gX9_byPrimes_X9_times rfl rfl rfl hdV_X9_times ⟨Nat.le_of_ble_eq_true rfl, Nat.le_of_ble_eq_true rfl⟩) (zpreV (q0 := 0) (ci := 9) (T := TX9) (N := 6) hK hPc hDc rfl rfl [.long (f1_1 v3_0.toNatClampNeg), .long (p0 (v4_1 / r4).toNatClampNeg)]) rfl rfl hl.1 rfl (lv_room (Nat.le_of_ble_eq_true rfl)) dX9_byPrimes_47 ⟨Nat.le_of_ble_eq_true rfl, Nat.le_of_ble_eq_true rfl⟩) (va_free hD hS hA [0, 1] rfl) (zjs (wn := (mW q v cJ V ib_7 dn rf mk th ++ ([(t0, .inl (cJ, 121, .inr (.inl p0))), (w1, .inl (cJ, 121, .inr (.inl f1_1)))]))) [2, 3, 0, 1] (zjF (wr := ([(t0, .inl (cJ, 121, .inr (.inl p0))), (w1, .inl (cJ, 121, .inr (.inl f1_1)))] : va_W)) hP hD hS hA [0, 1] [2, 3] rfl rfl (by decide) (by decide)) rfl (by decide)) hS (fun H locs hP hD hS => ?_)
              replace hP : va_P D vwCl (mW q v cJ V ib_7 dn rf mk th ++ ([(t0, .inl (cJ, 121, .inr (.inl p0))), (w1, .inl (cJ, 121, .inr (.inl f1_1)))])) H := hP
              replace hD : va_D A (mW q v cJ V ib_7 dn rf mk th ++ ([(t0, .inl (cJ, 121, .inr (.inl p0))), (w1, .inl (cJ, 121, .inr (.inl f1_1)))])) := hD
              obtain ⟨z50, h⟩ := zg_some h
              refine va_last hx hb hK hP hD hS 3 0 rfl rfl z50 dX9_byPrimes_50 (fun H locs hP hD hS => ?_)
              replace hP : va_P D vwCl (mW q v cJ V ib_7 dn rf mk th ++ ([(t0, .inl (cJ, 121, .inr (.inl p0))), (w1, .inl (cJ, 121, .inr (.inl (vp_updL f1_1 v3_0.toNatClampNeg r6))))])) H := hP
              replace hD : va_D A (mW q v cJ V ib_7 dn rf mk th ++ ([(t0, .inl (cJ, 121, .inr (.inl p0))), (w1, .inl (cJ, 121, .inr (.inl (vp_updL f1_1 v3_0.toNatClampNeg r6))))])) := hD
              refine lv_iload hx hb dX9_byPrimes_51 (lv_at hl 4 rfl) ?_
              refine lv_iload hx hb dX9_byPrimes_53 (lv_at hl 4 rfl) ?_
              obtain ⟨r9, e10, h⟩ := zb1_some h
              refine zgoi (va_runS (As := [.int v4_1]) (rest := [.int v4_1]) ⟨hx, hb, hml, hown, hts⟩ (c_X9_least l D (zT cJ cI cO cB) F v4_1 r9 e10 H.size) (va_cwS 1 hts gX9_byPrimes_X9_least rfl rfl rfl hdS_X9_least ⟨Nat.le_of_ble_eq_true rfl, Nat.le_of_ble_eq_true rfl⟩) (zpreS hK zP0 (zD0 (A := A)) [.int v4_1]) rfl rfl hl.1 rfl (lv_room (Nat.le_of_ble_eq_true rfl)) dX9_byPrimes_55 ⟨Nat.le_of_ble_eq_true rfl, Nat.le_of_ble_eq_true rfl⟩) (zf0 hS hA) (zjE hP hD) hS (fun H locs hP hD hS => ?_)
              obtain ⟨r11, e12, h⟩ := zb1_some h
              refine zgoi (va_runS (As := [.int v4_1, .int r9]) (rest := []) ⟨hx, hb, hml, hown, hts⟩ (c_X9_without l D (zT cJ cI cO cB) F v4_1 r9 r11 e12 H.size) (va_cwS 2 hts gX9_byPrimes_X9_without rfl rfl rfl hdS_X9_without ⟨Nat.le_of_ble_eq_true rfl, Nat.le_of_ble_eq_true rfl⟩) (zpreS hK zP0 (zD0 (A := A)) [.int v4_1, .int r9]) rfl rfl hl.1 rfl (lv_room (Nat.le_of_ble_eq_true rfl)) dX9_byPrimes_58 ⟨Nat.le_of_ble_eq_true rfl, Nat.le_of_ble_eq_true rfl⟩) (zf0 hS hA) (zjE hP hD) hS (fun H locs hP hD hS => ?_)
              refine lv_istore (lv' := [(4, .int r11), (0, .ref q), (1, .ref t0), (2, .ref w1), (3, .int v3_0)]) hx hb dX9_byPrimes_61 hl (by decide) rfl (fun ls hl => ?_)
              refine lv_goto (tgt := 20) hx hb dX9_byPrimes_63 (by decide) ?_
              exact hGW _ _ _ _ _ (ih1 r11 ib_7 (vp_updL f1_1 v3_0.toNatClampNeg r6) _ _ ls hP hD hS (lv_sub hl [1, 2, 3, 4, 0] rfl) h)
        exact hGW _ _ _ _ _ (L1 _ X1 F v3_0 ibL0 (vp_updL f1_0 v3_0.toNatClampNeg (1 : Int64)) _ _ ls hP hD hS (lv_sub hl [1, 2, 3, 4, 0] rfl) h)
  exact hGW _ _ _ _ _ (L0 _ X0 F (1 : Int32) ib (fun _ => 0) _ _ ls hP hD hS (lv_sub hl [2, 3, 1, 0] rfl) h)

noncomputable def p_X9_made_L1 (F : Nat) (p0 : Nat → Int64) (p1 : Int32) (v4_0 : Int32) (k : Int32 → Bool → (Nat → Int64) → Option ((Nat → Int64) × Bool)) : Nat → Int32 → Bool → (Nat → Int64) → Option ((Nat → Int64) × Bool)
  | 0, _, _, _ => none
  | n + 1, v5_1, ibL1, f1_1 => (if v4_0 < v5_1 then (k v5_1 ibL1 f1_1) else (if (3 : Int32) ≤ p1 then (k v5_1 ibL1 f1_1) else (zg (v5_1 = 0) (if ¬ (zr v4_0 v5_1) = 0 then (p_X9_made_L1 F p0 p1 v4_0 k n (v5_1 + (1 : Int32)) ibL1 f1_1) else (zg (v4_0 < 0 ∨ 121 ≤ v4_0.toNatClampNeg) (if ¬ p1 = (1 : Int32) then (zb1 (p_X9_signOf F v5_1) (fun r2 => (zg (v5_1 = 0) (zg ((v4_0 / v5_1) < 0 ∨ 121 ≤ (v4_0 / v5_1).toNatClampNeg) (zb2 (p_X9_times ibL1 (r2.toInt64) (p0 (v4_0 / v5_1).toNatClampNeg)) (fun r4 ib_5 => (zb2 (p_X9_plus ib_5 (f1_1 v4_0.toNatClampNeg) r4) (fun r7 ib_8 => (zg (v4_0 < 0 ∨ 121 ≤ v4_0.toNatClampNeg) (p_X9_made_L1 F p0 p1 v4_0 k n (v5_1 + (1 : Int32)) ib_8 (vp_updL f1_1 v4_0.toNatClampNeg r7))))))))))) else (zg (v5_1 < 0 ∨ 121 ≤ v5_1.toNatClampNeg) (zb2 (p_X9_plus ibL1 (f1_1 v4_0.toNatClampNeg) (p0 v5_1.toNatClampNeg)) (fun r10 ib_11 => (zg (v4_0 < 0 ∨ 121 ≤ v4_0.toNatClampNeg) (p_X9_made_L1 F p0 p1 v4_0 k n (v5_1 + (1 : Int32)) ib_11 (vp_updL f1_1 v4_0.toNatClampNeg r10))))))))))))
noncomputable def p_X9_made_L0 (F : Nat) (p0 : Nat → Int64) (p1 : Int32) (k : Int32 → Bool → (Nat → Int64) → Option ((Nat → Int64) × Bool)) : Nat → Int32 → Bool → (Nat → Int64) → Option ((Nat → Int64) × Bool)
  | 0, _, _, _ => none
  | n + 1, v4_0, ibL0, f1_0 => (if (120 : Int32) < v4_0 then (k v4_0 ibL0 f1_0) else (zlt (fun (cibj0 : Bool) (t1j0 : Nat → Int64) => (p_X9_made_L1 F p0 p1 v4_0 (fun v5_1 ibL1 f1_1 => (p_X9_made_L0 F p0 p1 k n (v4_0 + (1 : Int32)) ibL1 f1_1)) F (1 : Int32) cibj0 t1j0)) (fun jf0 => (if p1 ≤ (3 : Int32) then (jf0 ibL0 f1_0) else (if ¬ p1 = (4 : Int32) then (zg (v4_0 < 0 ∨ 121 ≤ v4_0.toNatClampNeg) (zb2 (p_X9_times ibL0 (v4_0.toInt64) (p0 v4_0.toNatClampNeg)) (fun r13 ib_14 => (zg (v4_0 < 0 ∨ 121 ≤ v4_0.toNatClampNeg) (jf0 ib_14 (vp_updL f1_0 v4_0.toNatClampNeg r13)))))) else (zg (v4_0 < 0 ∨ 121 ≤ v4_0.toNatClampNeg) (zb2 (p_X9_times ibL0 (-1 : Int64) (p0 v4_0.toNatClampNeg)) (fun r16 ib_17 => (zg (v4_0 < 0 ∨ 121 ≤ v4_0.toNatClampNeg) (jf0 ib_17 (vp_updL f1_0 v4_0.toNatClampNeg r16)))))))))))
noncomputable def p_X9_made (F : Nat) (ib : Bool) (p0 : Nat → Int64) (p1 : Int32) : Option ((Nat → Int64) × Bool) := (if ¬ p1 = 0 then (if ¬ p1 = (3 : Int32) then (p_X9_made_L0 F p0 p1 (fun v4_0 ibL0 f1_0 => (some (f1_0, ibL0))) F (1 : Int32) ib (fun _ => 0)) else (zb2 (p_X9_byPrimes F ib p0) (fun r19 ib_20 => (some (r19, ib_20))))) else (zb2 (p_X9_inverse F ib p0) (fun r23 ib_24 => (some (r23, ib_24)))))
theorem hdV_X9_made : yX9_made.cls = RX9 ∧ yX9_made.cls ≠ "java/lang/invoke/MethodHandle" ∧ yX9_made.cls ≠ "java/lang/invoke/VarHandle" ∧ (parseMethodDescriptor yX9_made.desc).map (fun d => d.parameters.length) = some 2 := by decide +kernel
set_option maxHeartbeats 4000000 in
set_option maxRecDepth 100000 in
theorem c_X9_made (l : Launch) (D : va_G) (q v : Nat) (cJ cI cO cB : ClassId) (V : Nat → Int64) (ib : Bool) (dn : Int32) (rf : Int32) (mk : Int32) (th : Int32) (F : Nat) (t0 : Nat) (p0 : Nat → Int64) (p1 : Int32) (r : Nat → Int64) (ib' : Bool) (h : p_X9_made F ib p0 p1 = some (r, ib')) : zMn l yX9_made wsX9_made 3 63 1 121 D (zT cJ cI cO cB) [.ref q, .ref t0, .int p1] (mW q v cJ V ib dn rf mk th ++ ([(t0, .inl (cJ, 121, .inr (.inl p0)))])) (fun x => (mW q v cJ V ib' dn rf mk th ++ ([(t0, .inl (cJ, 121, .inr (.inl p0))), (x, .inl (cJ, 121, .inr (.inl r)))]))) := by
  intro sz
  delta zQn
  refine Met.ofW (cc := cX9_made) (maxL := 6) (ret := (some (.array .long))) (by decide) rfl ?_
  intro p e s m args below meth c s₁ B hml hv
  obtain ⟨rfl, hsz, hP, hK, hD0⟩ := hv
  have hx := B.exec
  have hb := B.bytes
  have hr := B.returns
  have hts := atoms_spec (ws := wsX9_made) B.pre
  have hown : s.vm.findClass RX9 = some m.cls := findClass_of_methodNamed B.named
  have hlocks := B.notSynchronized
  subst hsz
  have hD := hD0.self (sz := s.heap.size)
  generalize hAe : va_A (mW q v cJ V ib dn rf mk th ++ ([(t0, .inl (cJ, 121, .inr (.inl p0)))])) s.heap.size = A at hD ⊢
  have hA : ∀ q : Nat, s.heap.size ≤ q → A q := fun q h => by rw [← hAe]; exact Or.inr h
  have hS : va_S A s.heap s.heap [] := va_S.rf
  have hl := lv_entry ([.ref q, .ref t0, .int p1]) (n := 6) (Nat.le_of_ble_eq_true rfl)
  rw [lg_entry_eq]
  generalize (lg_sl ([.ref q, .ref t0, .int p1]) ++ List.replicate (6 - (lg_sl ([.ref q, .ref t0, .int p1])).length) Slot.unset).toArray = ls at hl ⊢
  replace hl : lv_has ls 6 [(0, .ref q), (1, .ref t0), (2, .int p1)] := hl
  have karr := hts (.arrayClass .long) (zmem 17 rfl)
  have kc_40 := hts (.constantLong RX9 40 (-1)) (zmem 26 rfl)
  replace h : (if ¬ p1 = 0 then (if ¬ p1 = (3 : Int32) then (p_X9_made_L0 F p0 p1 (fun v4_0 ibL0 f1_0 => (some (f1_0, ibL0))) F (1 : Int32) ib (fun _ => 0)) else (zb2 (p_X9_byPrimes F ib p0) (fun r19 ib_20 => (some (r19, ib_20))))) else (zb2 (p_X9_inverse F ib p0) (fun r23 ib_24 => (some (r23, ib_24))))) = some (r, ib') := h
  refine zabs (fun G hG hGW => ?_)
  obtain ⟨H, hHe⟩ : ∃ H, H = s.heap := ⟨_, rfl⟩
  rw [← hHe] at hP
  replace hS : va_S A s.heap H [] := by rw [hHe]; exact hS
  refine zheap hHe ?_
  refine lv_iload_n hx hb dX9_made_0 rfl (lv_at hl 2 rfl) ?_
  refine lv_if_ne (tgt := 10) hx hb dX9_made_1 (by decide) (fun c1 => ?_) (fun c1 => ?_)
  · replace h := zif_t h c1
    refine lv_iload_n hx hb dX9_made_10 rfl (lv_at hl 2 rfl) ?_
    refine lv_iconst (v := (3 : Int32)) hx hb dX9_made_11 (by decide) ?_
    refine lv_icmp_ne (tgt := 21) hx hb dX9_made_12 (by decide) (fun c12 => ?_) (fun c12 => ?_)
    · replace h := zif_t h c12
      refine lv_bipush (v := (121 : Int32)) hx hb dX9_made_21 (by decide) ?_
      refine znewJ (N := 121) hx hb karr hK hP hD hS hA (by decide) (by decide) (by decide) (Nat.le_of_ble_eq_true rfl) (Nat.le_of_ble_eq_true rfl) dX9_made_23 (fun w1 H hP hD hS => ?_)
      replace hP : va_P D vwCl (mW q v cJ V ib dn rf mk th ++ ([(t0, .inl (cJ, 121, .inr (.inl p0))), (w1, .inl (cJ, 121, .inr (.inl (fun _ => 0))))])) H := hP
      replace hD : va_D A (mW q v cJ V ib dn rf mk th ++ ([(t0, .inl (cJ, 121, .inr (.inl p0))), (w1, .inl (cJ, 121, .inr (.inl (fun _ => 0))))])) := hD
      refine lv_astore_n (lv' := [(3, .ref w1), (0, .ref q), (1, .ref t0), (2, .int p1)]) hx hb dX9_made_25 rfl hl (by decide) rfl (fun ls hl => ?_)
      refine lv_iconst (v := (1 : Int32)) hx hb dX9_made_26 (by decide) ?_
      refine lv_istore (lv' := [(4, .int (1 : Int32)), (3, .ref w1), (0, .ref q), (1, .ref t0), (2, .int p1)]) hx hb dX9_made_27 hl (by decide) rfl (fun ls hl => ?_)
      have X0 : ∀ (v4_0 : Int32) (ibL0 : Bool) (f1_0 : Nat → Int64) (H : Heap) (locs : List Loc) (ls : Array Slot), va_P D vwCl (mW q v cJ V ibL0 dn rf mk th ++ ([(t0, .inl (cJ, 121, .inr (.inl p0))), (w1, .inl (cJ, 121, .inr (.inl f1_0)))])) H → va_D A (mW q v cJ V ibL0 dn rf mk th ++ ([(t0, .inl (cJ, 121, .inr (.inl p0))), (w1, .inl (cJ, 121, .inr (.inl f1_0)))])) → va_S A s.heap H locs → lv_has ls 6 [(0, .ref q), (1, .ref t0), (2, .int p1), (3, .ref w1), (4, .int v4_0)] → (some (f1_0, ibL0)) = some (r, ib') → G H locs 1 121 (F0 m 143 ls []) := by
        intro v4_0 ibL0 f1_0 H locs ls hP hD hS hl h
        refine hG _ _ _ _ _ ?_
        refine lv_aload_n hx hb dX9_made_143 rfl (lv_at hl 3 rfl) ?_
        have g0 := Option.some.inj h
        obtain ⟨h1, g1⟩ := Prod.mk.inj g0
        subst h1
        subst g1
        exact W.aret (v := .ref w1) hx hb hr (Or.inr ⟨_, rfl⟩) (Or.inr ⟨_, rfl⟩) (fun t ht hW => ⟨⟨(), w1, rfl, trivial, by rw [ht]; exact hP, va_K.moved hW.alike hK, hD⟩, hS.F ht⟩) hS.2.2 dX9_made_144
      have L0 : ∀ (K0 : Int32 → Bool → (Nat → Int64) → Option ((Nat → Int64) × Bool)) (HX0 : ∀ (v4_0 : Int32) (ibL0 : Bool) (f1_0 : Nat → Int64) (H : Heap) (locs : List Loc) (ls : Array Slot), va_P D vwCl (mW q v cJ V ibL0 dn rf mk th ++ ([(t0, .inl (cJ, 121, .inr (.inl p0))), (w1, .inl (cJ, 121, .inr (.inl f1_0)))])) H → va_D A (mW q v cJ V ibL0 dn rf mk th ++ ([(t0, .inl (cJ, 121, .inr (.inl p0))), (w1, .inl (cJ, 121, .inr (.inl f1_0)))])) → va_S A s.heap H locs → lv_has ls 6 [(0, .ref q), (1, .ref t0), (2, .int p1), (3, .ref w1), (4, .int v4_0)] → K0 v4_0 ibL0 f1_0 = some (r, ib') → G H locs 1 121 (F0 m 143 ls [])) (fu0 : Nat) (v4_0 : Int32) (ibL0 : Bool) (f1_0 : Nat → Int64) (H : Heap) (locs : List Loc) (ls : Array Slot), va_P D vwCl (mW q v cJ V ibL0 dn rf mk th ++ ([(t0, .inl (cJ, 121, .inr (.inl p0))), (w1, .inl (cJ, 121, .inr (.inl f1_0)))])) H → va_D A (mW q v cJ V ibL0 dn rf mk th ++ ([(t0, .inl (cJ, 121, .inr (.inl p0))), (w1, .inl (cJ, 121, .inr (.inl f1_0)))])) → va_S A s.heap H locs → lv_has ls 6 [(0, .ref q), (1, .ref t0), (2, .int p1), (3, .ref w1), (4, .int v4_0)] → p_X9_made_L0 F p0 p1 K0 fu0 v4_0 ibL0 f1_0 = some (r, ib') → G H locs 1 121 (F0 m 29 ls []) := by
        intro K0 HX0 fu0
        induction fu0 with
        | zero =>
          intro v4_0 ibL0 f1_0 H locs ls hP hD hS hl h
          exact (zno h).elim
        | succ fu0 ih0 =>
          intro v4_0 ibL0 f1_0 H locs ls hP hD hS hl h
          refine hG _ _ _ _ _ ?_
          unfold p_X9_made_L0 at h
          refine lv_iload hx hb dX9_made_29 (lv_at hl 4 rfl) ?_
          refine lv_bipush (v := (120 : Int32)) hx hb dX9_made_31 (by decide) ?_
          refine lv_icmp_gt (tgt := 143) hx hb dX9_made_33 (by decide) (fun c33 => ?_) (fun c33 => ?_)
          · replace h := zif_t h c33
            exact hGW _ _ _ _ _ (HX0 v4_0 ibL0 f1_0 _ _ ls hP hD hS (lv_sub hl [0, 1, 2, 3, 4] rfl) h)
          · replace h := zif_f h c33
            refine lv_iload_n hx hb dX9_made_36 rfl (lv_at hl 2 rfl) ?_
            refine lv_iconst (v := (3 : Int32)) hx hb dX9_made_37 (by decide) ?_
            have J0 : ∀ (cibj0 : Bool) (t1j0 : Nat → Int64) (H : Heap) (locs : List Loc) (ls : Array Slot), va_P D vwCl (mW q v cJ V cibj0 dn rf mk th ++ ([(t0, .inl (cJ, 121, .inr (.inl p0))), (w1, .inl (cJ, 121, .inr (.inl t1j0)))])) H → va_D A (mW q v cJ V cibj0 dn rf mk th ++ ([(t0, .inl (cJ, 121, .inr (.inl p0))), (w1, .inl (cJ, 121, .inr (.inl t1j0)))])) → va_S A s.heap H locs → lv_has ls 6 [(0, .ref q), (1, .ref t0), (2, .int p1), (3, .ref w1), (4, .int v4_0)] → (p_X9_made_L1 F p0 p1 v4_0 (fun v5_1 ibL1 f1_1 => (p_X9_made_L0 F p0 p1 K0 fu0 (v4_0 + (1 : Int32)) ibL1 f1_1)) F (1 : Int32) cibj0 t1j0) = some (r, ib') → G H locs 1 121 (F0 m 67 ls []) := by
              intro cibj0 t1j0 H locs ls hP hD hS hl h
              refine hG _ _ _ _ _ ?_
              refine lv_iconst (v := (1 : Int32)) hx hb dX9_made_67 (by decide) ?_
              refine lv_istore (lv' := [(5, .int (1 : Int32)), (0, .ref q), (1, .ref t0), (2, .int p1), (3, .ref w1), (4, .int v4_0)]) hx hb dX9_made_68 hl (by decide) rfl (fun ls hl => ?_)
              have X1 : ∀ (v5_1 : Int32) (ibL1 : Bool) (f1_1 : Nat → Int64) (H : Heap) (locs : List Loc) (ls : Array Slot), va_P D vwCl (mW q v cJ V ibL1 dn rf mk th ++ ([(t0, .inl (cJ, 121, .inr (.inl p0))), (w1, .inl (cJ, 121, .inr (.inl f1_1)))])) H → va_D A (mW q v cJ V ibL1 dn rf mk th ++ ([(t0, .inl (cJ, 121, .inr (.inl p0))), (w1, .inl (cJ, 121, .inr (.inl f1_1)))])) → va_S A s.heap H locs → lv_has ls 6 [(0, .ref q), (1, .ref t0), (2, .int p1), (3, .ref w1), (4, .int v4_0), (5, .int v5_1)] → (p_X9_made_L0 F p0 p1 K0 fu0 (v4_0 + (1 : Int32)) ibL1 f1_1) = some (r, ib') → G H locs 1 121 (F0 m 137 ls []) := by
                intro v5_1 ibL1 f1_1 H locs ls hP hD hS hl h
                refine hG _ _ _ _ _ ?_
                refine lv_iinc (v := (v4_0 + (1 : Int32))) (lv' := [(4, .int (v4_0 + (1 : Int32))), (0, .ref q), (1, .ref t0), (2, .int p1), (3, .ref w1), (5, .int v5_1)]) hx hb dX9_made_137 hl (k := 4) rfl rfl (by decide) rfl (fun ls hl => ?_)
                refine lv_goto (tgt := 29) hx hb dX9_made_140 (by decide) ?_
                exact hGW _ _ _ _ _ (ih0 (v4_0 + (1 : Int32)) ibL1 f1_1 _ _ ls hP hD hS (lv_sub hl [1, 2, 3, 4, 0] rfl) h)
              have L1 : ∀ (K1 : Int32 → Bool → (Nat → Int64) → Option ((Nat → Int64) × Bool)) (HX1 : ∀ (v5_1 : Int32) (ibL1 : Bool) (f1_1 : Nat → Int64) (H : Heap) (locs : List Loc) (ls : Array Slot), va_P D vwCl (mW q v cJ V ibL1 dn rf mk th ++ ([(t0, .inl (cJ, 121, .inr (.inl p0))), (w1, .inl (cJ, 121, .inr (.inl f1_1)))])) H → va_D A (mW q v cJ V ibL1 dn rf mk th ++ ([(t0, .inl (cJ, 121, .inr (.inl p0))), (w1, .inl (cJ, 121, .inr (.inl f1_1)))])) → va_S A s.heap H locs → lv_has ls 6 [(0, .ref q), (1, .ref t0), (2, .int p1), (3, .ref w1), (4, .int v4_0), (5, .int v5_1)] → K1 v5_1 ibL1 f1_1 = some (r, ib') → G H locs 1 121 (F0 m 137 ls [])) (fu1 : Nat) (v5_1 : Int32) (ibL1 : Bool) (f1_1 : Nat → Int64) (H : Heap) (locs : List Loc) (ls : Array Slot), va_P D vwCl (mW q v cJ V ibL1 dn rf mk th ++ ([(t0, .inl (cJ, 121, .inr (.inl p0))), (w1, .inl (cJ, 121, .inr (.inl f1_1)))])) H → va_D A (mW q v cJ V ibL1 dn rf mk th ++ ([(t0, .inl (cJ, 121, .inr (.inl p0))), (w1, .inl (cJ, 121, .inr (.inl f1_1)))])) → va_S A s.heap H locs → lv_has ls 6 [(0, .ref q), (1, .ref t0), (2, .int p1), (3, .ref w1), (4, .int v4_0), (5, .int v5_1)] → p_X9_made_L1 F p0 p1 v4_0 K1 fu1 v5_1 ibL1 f1_1 = some (r, ib') → G H locs 1 121 (F0 m 70 ls []) := by
                intro K1 HX1 fu1
                induction fu1 with
                | zero =>
                  intro v5_1 ibL1 f1_1 H locs ls hP hD hS hl h
                  exact (zno h).elim
                | succ fu1 ih1 =>
                  intro v5_1 ibL1 f1_1 H locs ls hP hD hS hl h
                  refine hG _ _ _ _ _ ?_
                  unfold p_X9_made_L1 at h
                  refine lv_iload hx hb dX9_made_70 (lv_at hl 5 rfl) ?_
                  refine lv_iload hx hb dX9_made_72 (lv_at hl 4 rfl) ?_
                  refine lv_icmp_gt (tgt := 137) hx hb dX9_made_74 (by decide) (fun c74 => ?_) (fun c74 => ?_)
                  · replace h := zif_t h c74
                    exact hGW _ _ _ _ _ (HX1 v5_1 ibL1 f1_1 _ _ ls hP hD hS (lv_sub hl [0, 1, 2, 3, 4, 5] rfl) h)
                  · replace h := zif_f h c74
                    refine lv_iload_n hx hb dX9_made_77 rfl (lv_at hl 2 rfl) ?_
                    refine lv_iconst (v := (3 : Int32)) hx hb dX9_made_78 (by decide) ?_
                    refine lv_icmp_ge (tgt := 137) hx hb dX9_made_79 (by decide) (fun c79 => ?_) (fun c79 => ?_)
                    · replace h := zif_t h c79
                      exact hGW _ _ _ _ _ (HX1 v5_1 ibL1 f1_1 _ _ ls hP hD hS (lv_sub hl [0, 1, 2, 3, 4, 5] rfl) h)
                    · replace h := zif_f h c79
                      refine lv_iload hx hb dX9_made_82 (lv_at hl 4 rfl) ?_
                      refine lv_iload hx hb dX9_made_84 (lv_at hl 5 rfl) ?_
                      obtain ⟨z86, h⟩ := zg_some h
                      refine lv_irem hx hb dX9_made_86 z86 ?_
                      refine lv_if_ne (tgt := 131) hx hb dX9_made_87 (by decide) (fun c87 => ?_) (fun c87 => ?_)
                      · replace h := zif_t h c87
                        refine lv_iinc (v := (v5_1 + (1 : Int32))) (lv' := [(5, .int (v5_1 + (1 : Int32))), (0, .ref q), (1, .ref t0), (2, .int p1), (3, .ref w1), (4, .int v4_0)]) hx hb dX9_made_131 hl (k := 5) rfl rfl (by decide) rfl (fun ls hl => ?_)
                        refine lv_goto (tgt := 70) hx hb dX9_made_134 (by decide) ?_
                        exact hGW _ _ _ _ _ (ih1 (v5_1 + (1 : Int32)) ibL1 f1_1 _ _ ls hP hD hS (lv_sub hl [1, 2, 3, 4, 5, 0] rfl) h)
                      · replace h := zif_fn h c87
                        refine lv_aload_n hx hb dX9_made_90 rfl (lv_at hl 3 rfl) ?_
                        refine lv_iload hx hb dX9_made_91 (lv_at hl 4 rfl) ?_
                        refine lv_aload_n hx hb dX9_made_93 rfl (lv_at hl 0 rfl) ?_
                        refine lv_aload_n hx hb dX9_made_94 rfl (lv_at hl 3 rfl) ?_
                        refine lv_iload hx hb dX9_made_95 (lv_at hl 4 rfl) ?_
                        obtain ⟨z97, h⟩ := zg_some h
                        refine va_lald hx hb hK hP 3 0 rfl rfl z97 dX9_made_97 ?_
                        refine lv_iload_n hx hb dX9_made_98 rfl (lv_at hl 2 rfl) ?_
                        refine lv_iconst (v := (1 : Int32)) hx hb dX9_made_99 (by decide) ?_
                        refine lv_icmp_ne (tgt := 110) hx hb dX9_made_100 (by decide) (fun c100 => ?_) (fun c100 => ?_)
                        · replace h := zif_t h c100
                          refine lv_aload_n hx hb dX9_made_110 rfl (lv_at hl 0 rfl) ?_
                          refine lv_iload hx hb dX9_made_111 (lv_at hl 5 rfl) ?_
                          obtain ⟨r2, e3, h⟩ := zb1_some h
                          refine zgoi (va_runS (As := [.int v5_1]) (rest := [.ref q, .long (f1_1 v4_0.toNatClampNeg), .ref q, .int v4_0, .ref w1]) ⟨hx, hb, hml, hown, hts⟩ (c_X9_signOf l D (zT cJ cI cO cB) F v5_1 r2 e3 H.size) (va_cwS 1 hts gX9_made_X9_signOf rfl rfl rfl hdS_X9_signOf ⟨Nat.le_of_ble_eq_true rfl, Nat.le_of_ble_eq_true rfl⟩) (zpreS hK zP0 (zD0 (A := A)) [.int v5_1]) rfl rfl hl.1 rfl (lv_room (Nat.le_of_ble_eq_true rfl)) dX9_made_113 ⟨Nat.le_of_ble_eq_true rfl, Nat.le_of_ble_eq_true rfl⟩) (zf0 hS hA) (zjE hP hD) hS (fun H locs hP hD hS => ?_)
                          refine lv_i2l (v := r2.toInt64) hx hb dX9_made_116 rfl ?_
                          refine lv_aload_n hx hb dX9_made_117 rfl (lv_at hl 1 rfl) ?_
                          refine lv_iload hx hb dX9_made_118 (lv_at hl 4 rfl) ?_
                          refine lv_iload hx hb dX9_made_120 (lv_at hl 5 rfl) ?_
                          obtain ⟨z122, h⟩ := zg_some h
                          refine lv_idiv hx hb dX9_made_122 z122 ?_
                          obtain ⟨z123, h⟩ := zg_some h
                          refine va_lald hx hb hK hP 2 0 rfl rfl z123 dX9_made_123 ?_
                          obtain ⟨r4, ib_5, e6, h⟩ := zb2_some h
                          have hPc := zsub (wn := (mW q v cJ V ibL1 dn rf mk th)) hP [0, 1] rfl
                          have hDc := hD.sub (ws' := (mW q v cJ V ibL1 dn rf mk th)) [0, 1] (by decide) rfl
                          refine zgol (va_runV (As := [.long (r2.toInt64), .long (p0 (v4_0 / v5_1).toNatClampNeg)]) (rest := [.long (f1_1 v4_0.toNatClampNeg), .ref q, .int v4_0, .ref w1]) ⟨hx, hb, hml, hown, hts⟩ (c_X9_times l D q v cJ cI cO cB V ibL1 dn rf mk th (r2.toInt64) (p0 (v4_0 / v5_1).toNatClampNeg) r4 ib_5 e6 H.size) (cwV 2 hts gX9_made_X9_times rfl rfl rfl hdV_X9_times ⟨Nat.le_of_ble_eq_true rfl, Nat.le_of_ble_eq_true rfl⟩) (zpreV (q0 := 0) (ci := 9) (T := TX9) (N := 6) hK hPc hDc rfl rfl [.long (r2.toInt64), .long (p0 (v4_0 / v5_1).toNatClampNeg)]) rfl rfl hl.1 rfl (lv_room (Nat.le_of_ble_eq_true rfl)) dX9_made_124 ⟨Nat.le_of_ble_eq_true rfl, Nat.le_of_ble_eq_true rfl⟩) (va_free hD hS hA [0, 1] rfl) (zjs (wn := (mW q v cJ V ib_5 dn rf mk th ++ ([(t0, .inl (cJ, 121, .inr (.inl p0))), (w1, .inl (cJ, 121, .inr (.inl f1_1)))]))) [2, 3, 0, 1] (zjF (wr := ([(t0, .inl (cJ, 121, .inr (.inl p0))), (w1, .inl (cJ, 121, .inr (.inl f1_1)))] : va_W)) hP hD hS hA [0, 1] [2, 3] rfl rfl (by decide) (by decide)) rfl (by decide)) hS (fun H locs hP hD hS => ?_)
                          replace hP : va_P D vwCl (mW q v cJ V ib_5 dn rf mk th ++ ([(t0, .inl (cJ, 121, .inr (.inl p0))), (w1, .inl (cJ, 121, .inr (.inl f1_1)))])) H := hP
                          replace hD : va_D A (mW q v cJ V ib_5 dn rf mk th ++ ([(t0, .inl (cJ, 121, .inr (.inl p0))), (w1, .inl (cJ, 121, .inr (.inl f1_1)))])) := hD
                          obtain ⟨r7, ib_8, e9, h⟩ := zb2_some h
                          have hPc := zsub (wn := (mW q v cJ V ib_5 dn rf mk th)) hP [0, 1] rfl
                          have hDc := hD.sub (ws' := (mW q v cJ V ib_5 dn rf mk th)) [0, 1] (by decide) rfl
                          refine zgol (va_runV (As := [.long (f1_1 v4_0.toNatClampNeg), .long r4]) (rest := [.int v4_0, .ref w1]) ⟨hx, hb, hml, hown, hts⟩ (c_X9_plus l D q v cJ cI cO cB V ib_5 dn rf mk th (f1_1 v4_0.toNatClampNeg) r4 r7 ib_8 e9 H.size) (cwV 2 hts gX9_made_X9_plus rfl rfl rfl hdV_X9_plus ⟨Nat.le_of_ble_eq_true rfl, Nat.le_of_ble_eq_true rfl⟩) (zpreV (q0 := 0) (ci := 9) (T := TX9) (N := 6) hK hPc hDc rfl rfl [.long (f1_1 v4_0.toNatClampNeg), .long r4]) rfl rfl hl.1 rfl (lv_room (Nat.le_of_ble_eq_true rfl)) dX9_made_127 ⟨Nat.le_of_ble_eq_true rfl, Nat.le_of_ble_eq_true rfl⟩) (va_free hD hS hA [0, 1] rfl) (zjs (wn := (mW q v cJ V ib_8 dn rf mk th ++ ([(t0, .inl (cJ, 121, .inr (.inl p0))), (w1, .inl (cJ, 121, .inr (.inl f1_1)))]))) [2, 3, 0, 1] (zjF (wr := ([(t0, .inl (cJ, 121, .inr (.inl p0))), (w1, .inl (cJ, 121, .inr (.inl f1_1)))] : va_W)) hP hD hS hA [0, 1] [2, 3] rfl rfl (by decide) (by decide)) rfl (by decide)) hS (fun H locs hP hD hS => ?_)
                          replace hP : va_P D vwCl (mW q v cJ V ib_8 dn rf mk th ++ ([(t0, .inl (cJ, 121, .inr (.inl p0))), (w1, .inl (cJ, 121, .inr (.inl f1_1)))])) H := hP
                          replace hD : va_D A (mW q v cJ V ib_8 dn rf mk th ++ ([(t0, .inl (cJ, 121, .inr (.inl p0))), (w1, .inl (cJ, 121, .inr (.inl f1_1)))])) := hD
                          obtain ⟨z130, h⟩ := zg_some h
                          refine va_last hx hb hK hP hD hS 3 0 rfl rfl z130 dX9_made_130 (fun H locs hP hD hS => ?_)
                          replace hP : va_P D vwCl (mW q v cJ V ib_8 dn rf mk th ++ ([(t0, .inl (cJ, 121, .inr (.inl p0))), (w1, .inl (cJ, 121, .inr (.inl (vp_updL f1_1 v4_0.toNatClampNeg r7))))])) H := hP
                          replace hD : va_D A (mW q v cJ V ib_8 dn rf mk th ++ ([(t0, .inl (cJ, 121, .inr (.inl p0))), (w1, .inl (cJ, 121, .inr (.inl (vp_updL f1_1 v4_0.toNatClampNeg r7))))])) := hD
                          refine lv_iinc (v := (v5_1 + (1 : Int32))) (lv' := [(5, .int (v5_1 + (1 : Int32))), (0, .ref q), (1, .ref t0), (2, .int p1), (3, .ref w1), (4, .int v4_0)]) hx hb dX9_made_131 hl (k := 5) rfl rfl (by decide) rfl (fun ls hl => ?_)
                          refine lv_goto (tgt := 70) hx hb dX9_made_134 (by decide) ?_
                          exact hGW _ _ _ _ _ (ih1 (v5_1 + (1 : Int32)) ib_8 (vp_updL f1_1 v4_0.toNatClampNeg r7) _ _ ls hP hD hS (lv_sub hl [1, 2, 3, 4, 5, 0] rfl) h)
                        · replace h := zif_fn h c100
                          refine lv_aload_n hx hb dX9_made_103 rfl (lv_at hl 1 rfl) ?_
                          refine lv_iload hx hb dX9_made_104 (lv_at hl 5 rfl) ?_
                          obtain ⟨z106, h⟩ := zg_some h
                          refine va_lald hx hb hK hP 2 0 rfl rfl z106 dX9_made_106 ?_
                          refine lv_goto (tgt := 127) hx hb dX9_made_107 (by decide) ?_
                          obtain ⟨r10, ib_11, e12, h⟩ := zb2_some h
                          have hPc := zsub (wn := (mW q v cJ V ibL1 dn rf mk th)) hP [0, 1] rfl
                          have hDc := hD.sub (ws' := (mW q v cJ V ibL1 dn rf mk th)) [0, 1] (by decide) rfl
                          refine zgol (va_runV (As := [.long (f1_1 v4_0.toNatClampNeg), .long (p0 v5_1.toNatClampNeg)]) (rest := [.int v4_0, .ref w1]) ⟨hx, hb, hml, hown, hts⟩ (c_X9_plus l D q v cJ cI cO cB V ibL1 dn rf mk th (f1_1 v4_0.toNatClampNeg) (p0 v5_1.toNatClampNeg) r10 ib_11 e12 H.size) (cwV 2 hts gX9_made_X9_plus rfl rfl rfl hdV_X9_plus ⟨Nat.le_of_ble_eq_true rfl, Nat.le_of_ble_eq_true rfl⟩) (zpreV (q0 := 0) (ci := 9) (T := TX9) (N := 6) hK hPc hDc rfl rfl [.long (f1_1 v4_0.toNatClampNeg), .long (p0 v5_1.toNatClampNeg)]) rfl rfl hl.1 rfl (lv_room (Nat.le_of_ble_eq_true rfl)) dX9_made_127 ⟨Nat.le_of_ble_eq_true rfl, Nat.le_of_ble_eq_true rfl⟩) (va_free hD hS hA [0, 1] rfl) (zjs (wn := (mW q v cJ V ib_11 dn rf mk th ++ ([(t0, .inl (cJ, 121, .inr (.inl p0))), (w1, .inl (cJ, 121, .inr (.inl f1_1)))]))) [2, 3, 0, 1] (zjF (wr := ([(t0, .inl (cJ, 121, .inr (.inl p0))), (w1, .inl (cJ, 121, .inr (.inl f1_1)))] : va_W)) hP hD hS hA [0, 1] [2, 3] rfl rfl (by decide) (by decide)) rfl (by decide)) hS (fun H locs hP hD hS => ?_)
                          replace hP : va_P D vwCl (mW q v cJ V ib_11 dn rf mk th ++ ([(t0, .inl (cJ, 121, .inr (.inl p0))), (w1, .inl (cJ, 121, .inr (.inl f1_1)))])) H := hP
                          replace hD : va_D A (mW q v cJ V ib_11 dn rf mk th ++ ([(t0, .inl (cJ, 121, .inr (.inl p0))), (w1, .inl (cJ, 121, .inr (.inl f1_1)))])) := hD
                          obtain ⟨z130, h⟩ := zg_some h
                          refine va_last hx hb hK hP hD hS 3 0 rfl rfl z130 dX9_made_130 (fun H locs hP hD hS => ?_)
                          replace hP : va_P D vwCl (mW q v cJ V ib_11 dn rf mk th ++ ([(t0, .inl (cJ, 121, .inr (.inl p0))), (w1, .inl (cJ, 121, .inr (.inl (vp_updL f1_1 v4_0.toNatClampNeg r10))))])) H := hP
                          replace hD : va_D A (mW q v cJ V ib_11 dn rf mk th ++ ([(t0, .inl (cJ, 121, .inr (.inl p0))), (w1, .inl (cJ, 121, .inr (.inl (vp_updL f1_1 v4_0.toNatClampNeg r10))))])) := hD
                          refine lv_iinc (v := (v5_1 + (1 : Int32))) (lv' := [(5, .int (v5_1 + (1 : Int32))), (0, .ref q), (1, .ref t0), (2, .int p1), (3, .ref w1), (4, .int v4_0)]) hx hb dX9_made_131 hl (k := 5) rfl rfl (by decide) rfl (fun ls hl => ?_)
                          refine lv_goto (tgt := 70) hx hb dX9_made_134 (by decide) ?_
                          exact hGW _ _ _ _ _ (ih1 (v5_1 + (1 : Int32)) ib_11 (vp_updL f1_1 v4_0.toNatClampNeg r10) _ _ ls hP hD hS (lv_sub hl [1, 2, 3, 4, 5, 0] rfl) h)
              exact hGW _ _ _ _ _ (L1 _ X1 F (1 : Int32) cibj0 t1j0 _ _ ls hP hD hS (lv_sub hl [1, 2, 3, 4, 5, 0] rfl) h)
            replace h := zlt_h h
            refine lv_icmp_le (tgt := 67) hx hb dX9_made_38 (by decide) (fun c38 => ?_) (fun c38 => ?_)
            · replace h := zif_t h c38
              exact hGW _ _ _ _ _ (J0 ibL0 f1_0 _ _ ls hP hD hS (lv_sub hl [0, 1, 2, 3, 4] rfl) h)
            · replace h := zif_f h c38
              refine lv_aload_n hx hb dX9_made_41 rfl (lv_at hl 3 rfl) ?_
              refine lv_iload hx hb dX9_made_42 (lv_at hl 4 rfl) ?_
              refine lv_aload_n hx hb dX9_made_44 rfl (lv_at hl 0 rfl) ?_
              refine lv_iload_n hx hb dX9_made_45 rfl (lv_at hl 2 rfl) ?_
              refine lv_iconst (v := (4 : Int32)) hx hb dX9_made_46 (by decide) ?_
              refine lv_icmp_ne (tgt := 56) hx hb dX9_made_47 (by decide) (fun c47 => ?_) (fun c47 => ?_)
              · replace h := zif_t h c47
                refine lv_iload hx hb dX9_made_56 (lv_at hl 4 rfl) ?_
                refine lv_i2l (v := v4_0.toInt64) hx hb dX9_made_58 rfl ?_
                refine lv_aload_n hx hb dX9_made_59 rfl (lv_at hl 1 rfl) ?_
                refine lv_iload hx hb dX9_made_60 (lv_at hl 4 rfl) ?_
                obtain ⟨z62, h⟩ := zg_some h
                refine va_lald hx hb hK hP 2 0 rfl rfl z62 dX9_made_62 ?_
                obtain ⟨r13, ib_14, e15, h⟩ := zb2_some h
                have hPc := zsub (wn := (mW q v cJ V ibL0 dn rf mk th)) hP [0, 1] rfl
                have hDc := hD.sub (ws' := (mW q v cJ V ibL0 dn rf mk th)) [0, 1] (by decide) rfl
                refine zgol (va_runV (As := [.long (v4_0.toInt64), .long (p0 v4_0.toNatClampNeg)]) (rest := [.int v4_0, .ref w1]) ⟨hx, hb, hml, hown, hts⟩ (c_X9_times l D q v cJ cI cO cB V ibL0 dn rf mk th (v4_0.toInt64) (p0 v4_0.toNatClampNeg) r13 ib_14 e15 H.size) (cwV 2 hts gX9_made_X9_times rfl rfl rfl hdV_X9_times ⟨Nat.le_of_ble_eq_true rfl, Nat.le_of_ble_eq_true rfl⟩) (zpreV (q0 := 0) (ci := 9) (T := TX9) (N := 6) hK hPc hDc rfl rfl [.long (v4_0.toInt64), .long (p0 v4_0.toNatClampNeg)]) rfl rfl hl.1 rfl (lv_room (Nat.le_of_ble_eq_true rfl)) dX9_made_63 ⟨Nat.le_of_ble_eq_true rfl, Nat.le_of_ble_eq_true rfl⟩) (va_free hD hS hA [0, 1] rfl) (zjs (wn := (mW q v cJ V ib_14 dn rf mk th ++ ([(t0, .inl (cJ, 121, .inr (.inl p0))), (w1, .inl (cJ, 121, .inr (.inl f1_0)))]))) [2, 3, 0, 1] (zjF (wr := ([(t0, .inl (cJ, 121, .inr (.inl p0))), (w1, .inl (cJ, 121, .inr (.inl f1_0)))] : va_W)) hP hD hS hA [0, 1] [2, 3] rfl rfl (by decide) (by decide)) rfl (by decide)) hS (fun H locs hP hD hS => ?_)
                replace hP : va_P D vwCl (mW q v cJ V ib_14 dn rf mk th ++ ([(t0, .inl (cJ, 121, .inr (.inl p0))), (w1, .inl (cJ, 121, .inr (.inl f1_0)))])) H := hP
                replace hD : va_D A (mW q v cJ V ib_14 dn rf mk th ++ ([(t0, .inl (cJ, 121, .inr (.inl p0))), (w1, .inl (cJ, 121, .inr (.inl f1_0)))])) := hD
                obtain ⟨z66, h⟩ := zg_some h
                refine va_last hx hb hK hP hD hS 3 0 rfl rfl z66 dX9_made_66 (fun H locs hP hD hS => ?_)
                replace hP : va_P D vwCl (mW q v cJ V ib_14 dn rf mk th ++ ([(t0, .inl (cJ, 121, .inr (.inl p0))), (w1, .inl (cJ, 121, .inr (.inl (vp_updL f1_0 v4_0.toNatClampNeg r13))))])) H := hP
                replace hD : va_D A (mW q v cJ V ib_14 dn rf mk th ++ ([(t0, .inl (cJ, 121, .inr (.inl p0))), (w1, .inl (cJ, 121, .inr (.inl (vp_updL f1_0 v4_0.toNatClampNeg r13))))])) := hD
                exact hGW _ _ _ _ _ (J0 ib_14 (vp_updL f1_0 v4_0.toNatClampNeg r13) _ _ ls hP hD hS (lv_sub hl [0, 1, 2, 3, 4] rfl) h)
              · replace h := zif_fn h c47
                refine lv_ldc2 hx hb hown kc_40 dX9_made_50 ?_
                refine lv_goto (tgt := 59) hx hb dX9_made_53 (by decide) ?_
                refine lv_aload_n hx hb dX9_made_59 rfl (lv_at hl 1 rfl) ?_
                refine lv_iload hx hb dX9_made_60 (lv_at hl 4 rfl) ?_
                obtain ⟨z62, h⟩ := zg_some h
                refine va_lald hx hb hK hP 2 0 rfl rfl z62 dX9_made_62 ?_
                obtain ⟨r16, ib_17, e18, h⟩ := zb2_some h
                have hPc := zsub (wn := (mW q v cJ V ibL0 dn rf mk th)) hP [0, 1] rfl
                have hDc := hD.sub (ws' := (mW q v cJ V ibL0 dn rf mk th)) [0, 1] (by decide) rfl
                refine zgol (va_runV (As := [.long (-1 : Int64), .long (p0 v4_0.toNatClampNeg)]) (rest := [.int v4_0, .ref w1]) ⟨hx, hb, hml, hown, hts⟩ (c_X9_times l D q v cJ cI cO cB V ibL0 dn rf mk th (-1 : Int64) (p0 v4_0.toNatClampNeg) r16 ib_17 e18 H.size) (cwV 2 hts gX9_made_X9_times rfl rfl rfl hdV_X9_times ⟨Nat.le_of_ble_eq_true rfl, Nat.le_of_ble_eq_true rfl⟩) (zpreV (q0 := 0) (ci := 9) (T := TX9) (N := 6) hK hPc hDc rfl rfl [.long (-1 : Int64), .long (p0 v4_0.toNatClampNeg)]) rfl rfl hl.1 rfl (lv_room (Nat.le_of_ble_eq_true rfl)) dX9_made_63 ⟨Nat.le_of_ble_eq_true rfl, Nat.le_of_ble_eq_true rfl⟩) (va_free hD hS hA [0, 1] rfl) (zjs (wn := (mW q v cJ V ib_17 dn rf mk th ++ ([(t0, .inl (cJ, 121, .inr (.inl p0))), (w1, .inl (cJ, 121, .inr (.inl f1_0)))]))) [2, 3, 0, 1] (zjF (wr := ([(t0, .inl (cJ, 121, .inr (.inl p0))), (w1, .inl (cJ, 121, .inr (.inl f1_0)))] : va_W)) hP hD hS hA [0, 1] [2, 3] rfl rfl (by decide) (by decide)) rfl (by decide)) hS (fun H locs hP hD hS => ?_)
                replace hP : va_P D vwCl (mW q v cJ V ib_17 dn rf mk th ++ ([(t0, .inl (cJ, 121, .inr (.inl p0))), (w1, .inl (cJ, 121, .inr (.inl f1_0)))])) H := hP
                replace hD : va_D A (mW q v cJ V ib_17 dn rf mk th ++ ([(t0, .inl (cJ, 121, .inr (.inl p0))), (w1, .inl (cJ, 121, .inr (.inl f1_0)))])) := hD
                obtain ⟨z66, h⟩ := zg_some h
                refine va_last hx hb hK hP hD hS 3 0 rfl rfl z66 dX9_made_66 (fun H locs hP hD hS => ?_)
                replace hP : va_P D vwCl (mW q v cJ V ib_17 dn rf mk th ++ ([(t0, .inl (cJ, 121, .inr (.inl p0))), (w1, .inl (cJ, 121, .inr (.inl (vp_updL f1_0 v4_0.toNatClampNeg r16))))])) H := hP
                replace hD : va_D A (mW q v cJ V ib_17 dn rf mk th ++ ([(t0, .inl (cJ, 121, .inr (.inl p0))), (w1, .inl (cJ, 121, .inr (.inl (vp_updL f1_0 v4_0.toNatClampNeg r16))))])) := hD
                exact hGW _ _ _ _ _ (J0 ib_17 (vp_updL f1_0 v4_0.toNatClampNeg r16) _ _ ls hP hD hS (lv_sub hl [0, 1, 2, 3, 4] rfl) h)
      exact hGW _ _ _ _ _ (L0 _ X0 F (1 : Int32) ib (fun _ => 0) _ _ ls hP hD hS (lv_sub hl [2, 3, 4, 1, 0] rfl) h)
    · replace h := zif_fn h c12
      refine lv_aload_n hx hb dX9_made_15 rfl (lv_at hl 0 rfl) ?_
      refine lv_aload_n hx hb dX9_made_16 rfl (lv_at hl 1 rfl) ?_
      obtain ⟨r19, ib_20, e21, h⟩ := zb2_some h
      refine zgon (va_runV (As := [.ref t0]) (rest := []) ⟨hx, hb, hml, hown, hts⟩ (c_X9_byPrimes l D q v cJ cI cO cB V ib dn rf mk th F t0 p0 r19 ib_20 e21 H.size) (cwV 1 hts gX9_made_X9_byPrimes rfl rfl rfl hdV_X9_byPrimes ⟨Nat.le_of_ble_eq_true rfl, Nat.le_of_ble_eq_true rfl⟩) (zpreV (q0 := 0) (ci := 9) (T := TX9) (N := 6) hK hP hD rfl rfl [.ref t0]) rfl rfl hl.1 rfl (lv_room (Nat.le_of_ble_eq_true rfl)) dX9_made_17 ⟨Nat.le_of_ble_eq_true rfl, Nat.le_of_ble_eq_true rfl⟩) (zfree hD hS hA) (fun _ => zjW hD hS hA) hS (fun w22 H locs hP hD hS => ?_)
      replace hP : va_P D vwCl (mW q v cJ V ib_20 dn rf mk th ++ ([(t0, .inl (cJ, 121, .inr (.inl p0))), (w22, .inl (cJ, 121, .inr (.inl r19)))])) H := hP
      replace hD : va_D A (mW q v cJ V ib_20 dn rf mk th ++ ([(t0, .inl (cJ, 121, .inr (.inl p0))), (w22, .inl (cJ, 121, .inr (.inl r19)))])) := hD
      have g0 := Option.some.inj h
      obtain ⟨h1, g1⟩ := Prod.mk.inj g0
      subst h1
      subst g1
      exact W.aret (v := .ref w22) hx hb hr (Or.inr ⟨_, rfl⟩) (Or.inr ⟨_, rfl⟩) (fun t ht hW => ⟨⟨(), w22, rfl, trivial, by rw [ht]; exact hP, va_K.moved hW.alike hK, hD⟩, hS.F ht⟩) hS.2.2 dX9_made_20
  · replace h := zif_fn h c1
    refine lv_aload_n hx hb dX9_made_4 rfl (lv_at hl 0 rfl) ?_
    refine lv_aload_n hx hb dX9_made_5 rfl (lv_at hl 1 rfl) ?_
    obtain ⟨r23, ib_24, e25, h⟩ := zb2_some h
    refine zgon (va_runV (As := [.ref t0]) (rest := []) ⟨hx, hb, hml, hown, hts⟩ (c_X9_inverse l D q v cJ cI cO cB V ib dn rf mk th F t0 p0 r23 ib_24 e25 H.size) (cwV 1 hts gX9_made_X9_inverse rfl rfl rfl hdV_X9_inverse ⟨Nat.le_of_ble_eq_true rfl, Nat.le_of_ble_eq_true rfl⟩) (zpreV (q0 := 0) (ci := 9) (T := TX9) (N := 6) hK hP hD rfl rfl [.ref t0]) rfl rfl hl.1 rfl (lv_room (Nat.le_of_ble_eq_true rfl)) dX9_made_6 ⟨Nat.le_of_ble_eq_true rfl, Nat.le_of_ble_eq_true rfl⟩) (zfree hD hS hA) (fun _ => zjW hD hS hA) hS (fun w26 H locs hP hD hS => ?_)
    replace hP : va_P D vwCl (mW q v cJ V ib_24 dn rf mk th ++ ([(t0, .inl (cJ, 121, .inr (.inl p0))), (w26, .inl (cJ, 121, .inr (.inl r23)))])) H := hP
    replace hD : va_D A (mW q v cJ V ib_24 dn rf mk th ++ ([(t0, .inl (cJ, 121, .inr (.inl p0))), (w26, .inl (cJ, 121, .inr (.inl r23)))])) := hD
    have g0 := Option.some.inj h
    obtain ⟨h1, g1⟩ := Prod.mk.inj g0
    subst h1
    subst g1
    exact W.aret (v := .ref w26) hx hb hr (Or.inr ⟨_, rfl⟩) (Or.inr ⟨_, rfl⟩) (fun t ht hW => ⟨⟨(), w26, rfl, trivial, by rw [ht]; exact hP, va_K.moved hW.alike hK, hD⟩, hS.F ht⟩) hS.2.2 dX9_made_9

noncomputable def p_X9_hasInverse (p0 : Nat → Int64) : Option Bool := (if (lg_cmp (p0 (1 : Int32).toNatClampNeg) (1 : Int64)) = 0 then (some true) else (if ¬ (lg_cmp (p0 (1 : Int32).toNatClampNeg) (-1 : Int64)) = 0 then (some false) else (some true)))
theorem hdV_X9_hasInverse : yX9_hasInverse.cls = RX9 ∧ yX9_hasInverse.cls ≠ "java/lang/invoke/MethodHandle" ∧ yX9_hasInverse.cls ≠ "java/lang/invoke/VarHandle" ∧ (parseMethodDescriptor yX9_hasInverse.desc).map (fun d => d.parameters.length) = some 1 := by decide +kernel
set_option maxHeartbeats 4000000 in
set_option maxRecDepth 100000 in
theorem c_X9_hasInverse (l : Launch) (D : va_G) (q v : Nat) (cJ cI cO cB : ClassId) (V : Nat → Int64) (ib : Bool) (dn : Int32) (rf : Int32) (mk : Int32) (th : Int32) (t0 : Nat) (p0 : Nat → Int64) (r : Bool) (h : p_X9_hasInverse p0 = some r) : zMi l yX9_hasInverse wsX9_hasInverse 0 0 0 0 D (zT cJ cI cO cB) [.ref q, .ref t0] (mW q v cJ V ib dn rf mk th ++ ([(t0, .inl (cJ, 121, .inr (.inl p0)))])) (mW q v cJ V ib dn rf mk th ++ ([(t0, .inl (cJ, 121, .inr (.inl p0)))])) (z01 r) := by
  intro sz
  delta zQi
  refine Met.ofW (cc := cX9_hasInverse) (maxL := 2) (ret := (some .boolean)) (by decide) rfl ?_
  intro p e s m args below meth c s₁ B hml hv
  obtain ⟨rfl, hsz, hP, hK, hD0⟩ := hv
  have hx := B.exec
  have hb := B.bytes
  have hr := B.returns
  have hts := atoms_spec (ws := wsX9_hasInverse) B.pre
  have hown : s.vm.findClass RX9 = some m.cls := findClass_of_methodNamed B.named
  have hlocks := B.notSynchronized
  subst hsz
  have hD := hD0.self (sz := s.heap.size)
  generalize hAe : va_A (mW q v cJ V ib dn rf mk th ++ ([(t0, .inl (cJ, 121, .inr (.inl p0)))])) s.heap.size = A at hD ⊢
  have hA : ∀ q : Nat, s.heap.size ≤ q → A q := fun q h => by rw [← hAe]; exact Or.inr h
  have hS : va_S A s.heap s.heap [] := va_S.rf
  have hl := lv_entry ([.ref q, .ref t0]) (n := 2) (Nat.le_of_ble_eq_true rfl)
  rw [lg_entry_eq]
  generalize (lg_sl ([.ref q, .ref t0]) ++ List.replicate (2 - (lg_sl ([.ref q, .ref t0])).length) Slot.unset).toArray = ls at hl ⊢
  replace hl : lv_has ls 2 [(0, .ref q), (1, .ref t0)] := hl
  have kc_40 := hts (.constantLong RX9 40 (-1)) (zmem 1 rfl)
  replace h : (if (lg_cmp (p0 (1 : Int32).toNatClampNeg) (1 : Int64)) = 0 then (some true) else (if ¬ (lg_cmp (p0 (1 : Int32).toNatClampNeg) (-1 : Int64)) = 0 then (some false) else (some true))) = some r := h
  obtain ⟨H, hHe⟩ : ∃ H, H = s.heap := ⟨_, rfl⟩
  rw [← hHe] at hP
  replace hS : va_S A s.heap H [] := by rw [hHe]; exact hS
  refine zheap hHe ?_
  refine lv_aload_n hx hb dX9_hasInverse_0 rfl (lv_at hl 1 rfl) ?_
  refine lv_iconst (v := (1 : Int32)) hx hb dX9_hasInverse_1 (by decide) ?_
  refine va_lald hx hb hK hP 2 0 rfl rfl (zinc (by decide)) dX9_hasInverse_2 ?_
  refine lv_lconst (v := (1 : Int64)) hx hb dX9_hasInverse_3 (by decide) ?_
  refine W.lcmp hx hb dX9_hasInverse_4 ?_
  refine lv_if_eq (tgt := 18) hx hb dX9_hasInverse_5 (by decide) (fun c5 => ?_) (fun c5 => ?_)
  · replace h := zif_t h c5
    refine lv_iconst (v := (1 : Int32)) hx hb dX9_hasInverse_18 (by decide) ?_
    refine lv_goto (tgt := 23) hx hb dX9_hasInverse_19 (by decide) ?_
    have h1 := Option.some.inj h
    subst h1
    exact W.zret (v := (1 : Int32)) hx hb hr (z01_nar true) (fun t ht hW => ⟨⟨(1 : Int32), (), rfl, rfl, by rw [ht]; exact hP, va_K.moved hW.alike hK, hD⟩, hS.F ht⟩) hS.2.2 dX9_hasInverse_23
  · replace h := zif_f h c5
    refine lv_aload_n hx hb dX9_hasInverse_8 rfl (lv_at hl 1 rfl) ?_
    refine lv_iconst (v := (1 : Int32)) hx hb dX9_hasInverse_9 (by decide) ?_
    refine va_lald hx hb hK hP 2 0 rfl rfl (zinc (by decide)) dX9_hasInverse_10 ?_
    refine lv_ldc2 hx hb hown kc_40 dX9_hasInverse_11 ?_
    refine W.lcmp hx hb dX9_hasInverse_14 ?_
    refine lv_if_ne (tgt := 22) hx hb dX9_hasInverse_15 (by decide) (fun c15 => ?_) (fun c15 => ?_)
    · replace h := zif_t h c15
      refine lv_iconst (v := (0 : Int32)) hx hb dX9_hasInverse_22 (by decide) ?_
      have h1 := Option.some.inj h
      subst h1
      exact W.zret (v := (0 : Int32)) hx hb hr (z01_nar false) (fun t ht hW => ⟨⟨(0 : Int32), (), rfl, rfl, by rw [ht]; exact hP, va_K.moved hW.alike hK, hD⟩, hS.F ht⟩) hS.2.2 dX9_hasInverse_23
    · replace h := zif_fn h c15
      refine lv_iconst (v := (1 : Int32)) hx hb dX9_hasInverse_18 (by decide) ?_
      refine lv_goto (tgt := 23) hx hb dX9_hasInverse_19 (by decide) ?_
      have h1 := Option.some.inj h
      subst h1
      exact W.zret (v := (1 : Int32)) hx hb hr (z01_nar true) (fun t ht hW => ⟨⟨(1 : Int32), (), rfl, rfl, by rw [ht]; exact hP, va_K.moved hW.alike hK, hD⟩, hS.F ht⟩) hS.2.2 dX9_hasInverse_23

noncomputable def p_X9_isByPrimes_L1 (F : Nat) (V : Nat → Int64) (dn : Int32) (rf : Int32) (mk : Int32) (th : Int32) (p0 : Nat → Int64) (p1 : Bool) (v3_0 : Int32) (k : Int32 → Bool → Option (Bool × (Nat → Int64) × Bool × Int32 × Int32 × Int32 × Int32)) : Nat → Int32 → Bool → Option (Bool × (Nat → Int64) × Bool × Int32 × Int32 × Int32 × Int32)
  | 0, _, _ => none
  | n + 1, v4_1, ibL1 => (if (120 : Int32) < (v3_0 * v4_1) then (k v4_1 ibL1) else (zlt (zg (v3_0 < 0 ∨ 121 ≤ v3_0.toNatClampNeg) (zg (v4_1 < 0 ∨ 121 ≤ v4_1.toNatClampNeg) (zb2 (p_X9_times false (p0 v3_0.toNatClampNeg) (p0 v4_1.toNatClampNeg)) (fun r1 ib_2 => (if ¬ (z01 ib_2) = 0 then (some (false, V, ib_2, dn, rf, mk, th)) else (zg ((v3_0 * v4_1) < 0 ∨ 121 ≤ (v3_0 * v4_1).toNatClampNeg) (if (lg_cmp r1 (p0 (v3_0 * v4_1).toNatClampNeg)) = 0 then (p_X9_isByPrimes_L1 F V dn rf mk th p0 p1 v3_0 k n (v4_1 + (1 : Int32)) ib_2) else (some (false, V, ib_2, dn, rf, mk, th))))))))) (fun jf0 => (if ¬ (z01 p1) = 0 then (jf0 ) else (zb1 (p_X9_common F v3_0 v4_1) (fun r4 => (if r4 ≤ (1 : Int32) then (jf0 ) else (p_X9_isByPrimes_L1 F V dn rf mk th p0 p1 v3_0 k n (v4_1 + (1 : Int32)) ibL1))))))))
noncomputable def p_X9_isByPrimes_L0 (F : Nat) (V : Nat → Int64) (dn : Int32) (rf : Int32) (mk : Int32) (th : Int32) (p0 : Nat → Int64) (p1 : Bool) (k : Int32 → Bool → Option (Bool × (Nat → Int64) × Bool × Int32 × Int32 × Int32 × Int32)) : Nat → Int32 → Bool → Option (Bool × (Nat → Int64) × Bool × Int32 × Int32 × Int32 × Int32)
  | 0, _, _ => none
  | n + 1, v3_0, ibL0 => (if (120 : Int32) < v3_0 then (k v3_0 ibL0) else (p_X9_isByPrimes_L1 F V dn rf mk th p0 p1 v3_0 (fun v4_1 ibL1 => (p_X9_isByPrimes_L0 F V dn rf mk th p0 p1 k n (v3_0 + (1 : Int32)) ibL1)) F (1 : Int32) ibL0))
noncomputable def p_X9_isByPrimes (F : Nat) (V : Nat → Int64) (ib : Bool) (dn : Int32) (rf : Int32) (mk : Int32) (th : Int32) (p0 : Nat → Int64) (p1 : Bool) : Option (Bool × (Nat → Int64) × Bool × Int32 × Int32 × Int32 × Int32) := (if (lg_cmp (p0 (1 : Int32).toNatClampNeg) (1 : Int64)) = 0 then (p_X9_isByPrimes_L0 F V dn rf mk th p0 p1 (fun v3_0 ibL0 => (some (true, V, ibL0, dn, rf, mk, th))) F (1 : Int32) ib) else (some (false, V, ib, dn, rf, mk, th)))
theorem hdV_X9_isByPrimes : yX9_isByPrimes.cls = RX9 ∧ yX9_isByPrimes.cls ≠ "java/lang/invoke/MethodHandle" ∧ yX9_isByPrimes.cls ≠ "java/lang/invoke/VarHandle" ∧ (parseMethodDescriptor yX9_isByPrimes.desc).map (fun d => d.parameters.length) = some 2 := by decide +kernel
set_option maxHeartbeats 4000000 in
set_option maxRecDepth 100000 in
theorem c_X9_isByPrimes (l : Launch) (D : va_G) (q v : Nat) (cJ cI cO cB : ClassId) (V : Nat → Int64) (ib : Bool) (dn : Int32) (rf : Int32) (mk : Int32) (th : Int32) (F : Nat) (t0 : Nat) (p0 : Nat → Int64) (p1 : Bool) (r : Bool) (V' : Nat → Int64) (ib' : Bool) (dn' : Int32) (rf' : Int32) (mk' : Int32) (th' : Int32) (h : p_X9_isByPrimes F V ib dn rf mk th p0 p1 = some (r, V', ib', dn', rf', mk', th')) : zMi l yX9_isByPrimes wsX9_isByPrimes 2 43 0 0 D (zT cJ cI cO cB) [.ref q, .ref t0, .int (z01 p1)] (mW q v cJ V ib dn rf mk th ++ ([(t0, .inl (cJ, 121, .inr (.inl p0)))])) (mW q v cJ V' ib' dn' rf' mk' th' ++ ([(t0, .inl (cJ, 121, .inr (.inl p0)))])) (z01 r) := by
  intro sz
  delta zQi
  refine Met.ofW (cc := cX9_isByPrimes) (maxL := 7) (ret := (some .boolean)) (by decide) rfl ?_
  intro p e s m args below meth c s₁ B hml hv
  obtain ⟨rfl, hsz, hP, hK, hD0⟩ := hv
  have hx := B.exec
  have hb := B.bytes
  have hr := B.returns
  have hts := atoms_spec (ws := wsX9_isByPrimes) B.pre
  have hown : s.vm.findClass RX9 = some m.cls := findClass_of_methodNamed B.named
  have hlocks := B.notSynchronized
  subst hsz
  have hD := hD0.self (sz := s.heap.size)
  generalize hAe : va_A (mW q v cJ V ib dn rf mk th ++ ([(t0, .inl (cJ, 121, .inr (.inl p0)))])) s.heap.size = A at hD ⊢
  have hA : ∀ q : Nat, s.heap.size ≤ q → A q := fun q h => by rw [← hAe]; exact Or.inr h
  have hS : va_S A s.heap s.heap [] := va_S.rf
  have hl := lv_entry ([.ref q, .ref t0, .int (z01 p1)]) (n := 7) (Nat.le_of_ble_eq_true rfl)
  rw [lg_entry_eq]
  generalize (lg_sl ([.ref q, .ref t0, .int (z01 p1)]) ++ List.replicate (7 - (lg_sl ([.ref q, .ref t0, .int (z01 p1)])).length) Slot.unset).toArray = ls at hl ⊢
  replace hl : lv_has ls 7 [(0, .ref q), (1, .ref t0), (2, .int (z01 p1))] := hl
  have kwX9 : ∀ w ∈ u_ws RX9 TX9 6, w ∈ wsX9_isByPrimes := fun w h => List.mem_cons_of_mem _ (List.mem_append_right _ (List.mem_cons_of_mem _ (List.mem_append_right _ h)))
  have kf_36 := hts (.fieldLink RX9 36 "DivisorworkModel" "isBeyond" "Z") (zmem 16 rfl)
  replace h : (if (lg_cmp (p0 (1 : Int32).toNatClampNeg) (1 : Int64)) = 0 then (p_X9_isByPrimes_L0 F V dn rf mk th p0 p1 (fun v3_0 ibL0 => (some (true, V, ibL0, dn, rf, mk, th))) F (1 : Int32) ib) else (some (false, V, ib, dn, rf, mk, th))) = some (r, V', ib', dn', rf', mk', th') := h
  refine zabs (fun G hG hGW => ?_)
  obtain ⟨H, hHe⟩ : ∃ H, H = s.heap := ⟨_, rfl⟩
  rw [← hHe] at hP
  replace hS : va_S A s.heap H [] := by rw [hHe]; exact hS
  refine zheap hHe ?_
  refine lv_aload_n hx hb dX9_isByPrimes_0 rfl (lv_at hl 1 rfl) ?_
  refine lv_iconst (v := (1 : Int32)) hx hb dX9_isByPrimes_1 (by decide) ?_
  refine va_lald hx hb hK hP 2 0 rfl rfl (zinc (by decide)) dX9_isByPrimes_2 ?_
  refine lv_lconst (v := (1 : Int64)) hx hb dX9_isByPrimes_3 (by decide) ?_
  refine W.lcmp hx hb dX9_isByPrimes_4 ?_
  refine lv_if_eq (tgt := 10) hx hb dX9_isByPrimes_5 (by decide) (fun c5 => ?_) (fun c5 => ?_)
  · replace h := zif_t h c5
    refine lv_iconst (v := (1 : Int32)) hx hb dX9_isByPrimes_10 (by decide) ?_
    refine lv_istore_n (lv' := [(3, .int (1 : Int32)), (0, .ref q), (1, .ref t0), (2, .int (z01 p1))]) hx hb dX9_isByPrimes_11 rfl hl (by decide) rfl (fun ls hl => ?_)
    have X0 : ∀ (v3_0 : Int32) (ibL0 : Bool) (H : Heap) (locs : List Loc) (ls : Array Slot), va_P D vwCl (mW q v cJ V ibL0 dn rf mk th ++ ([(t0, .inl (cJ, 121, .inr (.inl p0)))])) H → va_D A (mW q v cJ V ibL0 dn rf mk th ++ ([(t0, .inl (cJ, 121, .inr (.inl p0)))])) → va_S A s.heap H locs → lv_has ls 7 [(0, .ref q), (1, .ref t0), (2, .int (z01 p1)), (3, .int v3_0)] → (some (true, V, ibL0, dn, rf, mk, th)) = some (r, V', ib', dn', rf', mk', th') → G H locs 0 0 (F0 m 98 ls []) := by
      intro v3_0 ibL0 H locs ls hP hD hS hl h
      refine hG _ _ _ _ _ ?_
      refine lv_iconst (v := (1 : Int32)) hx hb dX9_isByPrimes_98 (by decide) ?_
      have g0 := Option.some.inj h
      obtain ⟨h1, g1⟩ := Prod.mk.inj g0
      obtain ⟨h2, g2⟩ := Prod.mk.inj g1
      obtain ⟨h3, g3⟩ := Prod.mk.inj g2
      obtain ⟨h4, g4⟩ := Prod.mk.inj g3
      obtain ⟨h5, g5⟩ := Prod.mk.inj g4
      obtain ⟨h6, g6⟩ := Prod.mk.inj g5
      subst h1
      subst h2
      subst h3
      subst h4
      subst h5
      subst h6
      subst g6
      exact W.zret (v := (1 : Int32)) hx hb hr (z01_nar true) (fun t ht hW => ⟨⟨(1 : Int32), (), rfl, rfl, by rw [ht]; exact hP, va_K.moved hW.alike hK, hD⟩, hS.F ht⟩) hS.2.2 dX9_isByPrimes_99
    have L0 : ∀ (K0 : Int32 → Bool → Option (Bool × (Nat → Int64) × Bool × Int32 × Int32 × Int32 × Int32)) (HX0 : ∀ (v3_0 : Int32) (ibL0 : Bool) (H : Heap) (locs : List Loc) (ls : Array Slot), va_P D vwCl (mW q v cJ V ibL0 dn rf mk th ++ ([(t0, .inl (cJ, 121, .inr (.inl p0)))])) H → va_D A (mW q v cJ V ibL0 dn rf mk th ++ ([(t0, .inl (cJ, 121, .inr (.inl p0)))])) → va_S A s.heap H locs → lv_has ls 7 [(0, .ref q), (1, .ref t0), (2, .int (z01 p1)), (3, .int v3_0)] → K0 v3_0 ibL0 = some (r, V', ib', dn', rf', mk', th') → G H locs 0 0 (F0 m 98 ls [])) (fu0 : Nat) (v3_0 : Int32) (ibL0 : Bool) (H : Heap) (locs : List Loc) (ls : Array Slot), va_P D vwCl (mW q v cJ V ibL0 dn rf mk th ++ ([(t0, .inl (cJ, 121, .inr (.inl p0)))])) H → va_D A (mW q v cJ V ibL0 dn rf mk th ++ ([(t0, .inl (cJ, 121, .inr (.inl p0)))])) → va_S A s.heap H locs → lv_has ls 7 [(0, .ref q), (1, .ref t0), (2, .int (z01 p1)), (3, .int v3_0)] → p_X9_isByPrimes_L0 F V dn rf mk th p0 p1 K0 fu0 v3_0 ibL0 = some (r, V', ib', dn', rf', mk', th') → G H locs 0 0 (F0 m 12 ls []) := by
      intro K0 HX0 fu0
      induction fu0 with
      | zero =>
        intro v3_0 ibL0 H locs ls hP hD hS hl h
        exact (zno h).elim
      | succ fu0 ih0 =>
        intro v3_0 ibL0 H locs ls hP hD hS hl h
        refine hG _ _ _ _ _ ?_
        unfold p_X9_isByPrimes_L0 at h
        refine lv_iload_n hx hb dX9_isByPrimes_12 rfl (lv_at hl 3 rfl) ?_
        refine lv_bipush (v := (120 : Int32)) hx hb dX9_isByPrimes_13 (by decide) ?_
        refine lv_icmp_gt (tgt := 98) hx hb dX9_isByPrimes_15 (by decide) (fun c15 => ?_) (fun c15 => ?_)
        · replace h := zif_t h c15
          exact hGW _ _ _ _ _ (HX0 v3_0 ibL0 _ _ ls hP hD hS (lv_sub hl [0, 1, 2, 3] rfl) h)
        · replace h := zif_f h c15
          refine lv_iconst (v := (1 : Int32)) hx hb dX9_isByPrimes_18 (by decide) ?_
          refine lv_istore (lv' := [(4, .int (1 : Int32)), (0, .ref q), (1, .ref t0), (2, .int (z01 p1)), (3, .int v3_0)]) hx hb dX9_isByPrimes_19 hl (by decide) rfl (fun ls hl => ?_)
          have X1 : ∀ (v4_1 : Int32) (ibL1 : Bool) (H : Heap) (locs : List Loc) (ls : Array Slot), va_P D vwCl (mW q v cJ V ibL1 dn rf mk th ++ ([(t0, .inl (cJ, 121, .inr (.inl p0)))])) H → va_D A (mW q v cJ V ibL1 dn rf mk th ++ ([(t0, .inl (cJ, 121, .inr (.inl p0)))])) → va_S A s.heap H locs → lv_has ls 7 [(0, .ref q), (1, .ref t0), (2, .int (z01 p1)), (3, .int v3_0), (4, .int v4_1)] → (p_X9_isByPrimes_L0 F V dn rf mk th p0 p1 K0 fu0 (v3_0 + (1 : Int32)) ibL1) = some (r, V', ib', dn', rf', mk', th') → G H locs 0 0 (F0 m 92 ls []) := by
            intro v4_1 ibL1 H locs ls hP hD hS hl h
            refine hG _ _ _ _ _ ?_
            refine lv_iinc (v := (v3_0 + (1 : Int32))) (lv' := [(3, .int (v3_0 + (1 : Int32))), (0, .ref q), (1, .ref t0), (2, .int (z01 p1)), (4, .int v4_1)]) hx hb dX9_isByPrimes_92 hl (k := 3) rfl rfl (by decide) rfl (fun ls hl => ?_)
            refine lv_goto (tgt := 12) hx hb dX9_isByPrimes_95 (by decide) ?_
            exact hGW _ _ _ _ _ (ih0 (v3_0 + (1 : Int32)) ibL1 _ _ ls hP hD hS (lv_sub hl [1, 2, 3, 0] rfl) h)
          have L1 : ∀ (K1 : Int32 → Bool → Option (Bool × (Nat → Int64) × Bool × Int32 × Int32 × Int32 × Int32)) (HX1 : ∀ (v4_1 : Int32) (ibL1 : Bool) (H : Heap) (locs : List Loc) (ls : Array Slot), va_P D vwCl (mW q v cJ V ibL1 dn rf mk th ++ ([(t0, .inl (cJ, 121, .inr (.inl p0)))])) H → va_D A (mW q v cJ V ibL1 dn rf mk th ++ ([(t0, .inl (cJ, 121, .inr (.inl p0)))])) → va_S A s.heap H locs → lv_has ls 7 [(0, .ref q), (1, .ref t0), (2, .int (z01 p1)), (3, .int v3_0), (4, .int v4_1)] → K1 v4_1 ibL1 = some (r, V', ib', dn', rf', mk', th') → G H locs 0 0 (F0 m 92 ls [])) (fu1 : Nat) (v4_1 : Int32) (ibL1 : Bool) (H : Heap) (locs : List Loc) (ls : Array Slot), va_P D vwCl (mW q v cJ V ibL1 dn rf mk th ++ ([(t0, .inl (cJ, 121, .inr (.inl p0)))])) H → va_D A (mW q v cJ V ibL1 dn rf mk th ++ ([(t0, .inl (cJ, 121, .inr (.inl p0)))])) → va_S A s.heap H locs → lv_has ls 7 [(0, .ref q), (1, .ref t0), (2, .int (z01 p1)), (3, .int v3_0), (4, .int v4_1)] → p_X9_isByPrimes_L1 F V dn rf mk th p0 p1 v3_0 K1 fu1 v4_1 ibL1 = some (r, V', ib', dn', rf', mk', th') → G H locs 0 0 (F0 m 21 ls []) := by
            intro K1 HX1 fu1
            induction fu1 with
            | zero =>
              intro v4_1 ibL1 H locs ls hP hD hS hl h
              exact (zno h).elim
            | succ fu1 ih1 =>
              intro v4_1 ibL1 H locs ls hP hD hS hl h
              refine hG _ _ _ _ _ ?_
              unfold p_X9_isByPrimes_L1 at h
              refine lv_iload_n hx hb dX9_isByPrimes_21 rfl (lv_at hl 3 rfl) ?_
              refine lv_iload hx hb dX9_isByPrimes_22 (lv_at hl 4 rfl) ?_
              refine lv_imul hx hb dX9_isByPrimes_24 ?_
              refine lv_bipush (v := (120 : Int32)) hx hb dX9_isByPrimes_25 (by decide) ?_
              refine lv_icmp_gt (tgt := 92) hx hb dX9_isByPrimes_27 (by decide) (fun c27 => ?_) (fun c27 => ?_)
              · replace h := zif_t h c27
                exact hGW _ _ _ _ _ (HX1 v4_1 ibL1 _ _ ls hP hD hS (lv_sub hl [0, 1, 2, 3, 4] rfl) h)
              · replace h := zif_f h c27
                refine lv_iload_n hx hb dX9_isByPrimes_30 rfl (lv_at hl 2 rfl) ?_
                have J0 : ∀  (H : Heap) (locs : List Loc) (ls : Array Slot), va_P D vwCl (mW q v cJ V ibL1 dn rf mk th ++ ([(t0, .inl (cJ, 121, .inr (.inl p0)))])) H → va_D A (mW q v cJ V ibL1 dn rf mk th ++ ([(t0, .inl (cJ, 121, .inr (.inl p0)))])) → va_S A s.heap H locs → lv_has ls 7 [(0, .ref q), (1, .ref t0), (2, .int (z01 p1)), (3, .int v3_0), (4, .int v4_1)] → (zg (v3_0 < 0 ∨ 121 ≤ v3_0.toNatClampNeg) (zg (v4_1 < 0 ∨ 121 ≤ v4_1.toNatClampNeg) (zb2 (p_X9_times false (p0 v3_0.toNatClampNeg) (p0 v4_1.toNatClampNeg)) (fun r1 ib_2 => (if ¬ (z01 ib_2) = 0 then (some (false, V, ib_2, dn, rf, mk, th)) else (zg ((v3_0 * v4_1) < 0 ∨ 121 ≤ (v3_0 * v4_1).toNatClampNeg) (if (lg_cmp r1 (p0 (v3_0 * v4_1).toNatClampNeg)) = 0 then (p_X9_isByPrimes_L1 F V dn rf mk th p0 p1 v3_0 K1 fu1 (v4_1 + (1 : Int32)) ib_2) else (some (false, V, ib_2, dn, rf, mk, th))))))))) = some (r, V', ib', dn', rf', mk', th') → G H locs 0 0 (F0 m 47 ls []) := by
                  intro  H locs ls hP hD hS hl h
                  refine hG _ _ _ _ _ ?_
                  refine lv_aload_n hx hb dX9_isByPrimes_47 rfl (lv_at hl 0 rfl) ?_
                  refine lv_iconst (v := (0 : Int32)) hx hb dX9_isByPrimes_48 (by decide) ?_
                  refine va_put (D := D) (ci := 9) (v := .int (z01 false)) (ty := .boolean) (C := RX9) (T := TX9) (N := 6) hx hb hts kwX9 tyX9 tyX9_ok nmX9 hown hK hP hD hS 0 rfl rfl 1 (by decide) kf_36 (fun _ h9 => h9) rfl rfl (z01_nar false) (z01_fit false) (Nat.le_of_ble_eq_true rfl) dX9_isByPrimes_49 (fun H locs hP hD hS => ?_)
                  replace hP : va_P D vwCl (mW q v cJ V false dn rf mk th ++ ([(t0, .inl (cJ, 121, .inr (.inl p0)))])) H := hP
                  replace hD : va_D A (mW q v cJ V false dn rf mk th ++ ([(t0, .inl (cJ, 121, .inr (.inl p0)))])) := hD
                  refine lv_aload_n hx hb dX9_isByPrimes_52 rfl (lv_at hl 0 rfl) ?_
                  refine lv_aload_n hx hb dX9_isByPrimes_53 rfl (lv_at hl 1 rfl) ?_
                  refine lv_iload_n hx hb dX9_isByPrimes_54 rfl (lv_at hl 3 rfl) ?_
                  obtain ⟨z55, h⟩ := zg_some h
                  refine va_lald hx hb hK hP 2 0 rfl rfl z55 dX9_isByPrimes_55 ?_
                  refine lv_aload_n hx hb dX9_isByPrimes_56 rfl (lv_at hl 1 rfl) ?_
                  refine lv_iload hx hb dX9_isByPrimes_57 (lv_at hl 4 rfl) ?_
                  obtain ⟨z59, h⟩ := zg_some h
                  refine va_lald hx hb hK hP 2 0 rfl rfl z59 dX9_isByPrimes_59 ?_
                  obtain ⟨r1, ib_2, e3, h⟩ := zb2_some h
                  have hPc := zsub (wn := (mW q v cJ V false dn rf mk th)) hP [0, 1] rfl
                  have hDc := hD.sub (ws' := (mW q v cJ V false dn rf mk th)) [0, 1] (by decide) rfl
                  refine zgol (va_runV (As := [.long (p0 v3_0.toNatClampNeg), .long (p0 v4_1.toNatClampNeg)]) (rest := []) ⟨hx, hb, hml, hown, hts⟩ (c_X9_times l D q v cJ cI cO cB V false dn rf mk th (p0 v3_0.toNatClampNeg) (p0 v4_1.toNatClampNeg) r1 ib_2 e3 H.size) (cwV 2 hts gX9_isByPrimes_X9_times rfl rfl rfl hdV_X9_times ⟨Nat.le_of_ble_eq_true rfl, Nat.le_of_ble_eq_true rfl⟩) (zpreV (q0 := 0) (ci := 9) (T := TX9) (N := 6) hK hPc hDc rfl rfl [.long (p0 v3_0.toNatClampNeg), .long (p0 v4_1.toNatClampNeg)]) rfl rfl hl.1 rfl (lv_room (Nat.le_of_ble_eq_true rfl)) dX9_isByPrimes_60 ⟨Nat.le_of_ble_eq_true rfl, Nat.le_of_ble_eq_true rfl⟩) (va_free hD hS hA [0, 1] rfl) (zjs (wn := (mW q v cJ V ib_2 dn rf mk th ++ ([(t0, .inl (cJ, 121, .inr (.inl p0)))]))) [1, 2, 0] (zjF (wr := ([(t0, .inl (cJ, 121, .inr (.inl p0)))] : va_W)) hP hD hS hA [0, 1] [2] rfl rfl (by decide) (by decide)) rfl (by decide)) hS (fun H locs hP hD hS => ?_)
                  replace hP : va_P D vwCl (mW q v cJ V ib_2 dn rf mk th ++ ([(t0, .inl (cJ, 121, .inr (.inl p0)))])) H := hP
                  replace hD : va_D A (mW q v cJ V ib_2 dn rf mk th ++ ([(t0, .inl (cJ, 121, .inr (.inl p0)))])) := hD
                  refine lv_lstore (lv' := [(5, .long r1), (0, .ref q), (1, .ref t0), (2, .int (z01 p1)), (3, .int v3_0), (4, .int v4_1)]) hx hb dX9_isByPrimes_63 hl (by decide) rfl (fun ls hl => ?_)
                  refine lv_aload_n hx hb dX9_isByPrimes_65 rfl (lv_at hl 1 rfl) ?_
                  refine va_get (D := D) (ci := 9) (v := .int (z01 ib_2)) (C := RX9) (T := TX9) (N := 6) hx hb hts kwX9 hown hK hP 0 rfl rfl 1 (by decide) kf_36 (fun _ h9 => h9) rfl dX9_isByPrimes_66 ?_
                  refine lv_if_ne (tgt := 84) hx hb dX9_isByPrimes_69 (by decide) (fun c69 => ?_) (fun c69 => ?_)
                  · replace h := zif_t h c69
                    refine lv_iconst (v := (0 : Int32)) hx hb dX9_isByPrimes_84 (by decide) ?_
                    have g0 := Option.some.inj h
                    obtain ⟨h1, g1⟩ := Prod.mk.inj g0
                    obtain ⟨h2, g2⟩ := Prod.mk.inj g1
                    obtain ⟨h3, g3⟩ := Prod.mk.inj g2
                    obtain ⟨h4, g4⟩ := Prod.mk.inj g3
                    obtain ⟨h5, g5⟩ := Prod.mk.inj g4
                    obtain ⟨h6, g6⟩ := Prod.mk.inj g5
                    subst h1
                    subst h2
                    subst h3
                    subst h4
                    subst h5
                    subst h6
                    subst g6
                    exact W.zret (v := (0 : Int32)) hx hb hr (z01_nar false) (fun t ht hW => ⟨⟨(0 : Int32), (), rfl, rfl, by rw [ht]; exact hP, va_K.moved hW.alike hK, hD⟩, hS.F ht⟩) hS.2.2 dX9_isByPrimes_85
                  · replace h := zif_fn h c69
                    refine lv_lload hx hb dX9_isByPrimes_72 (lv_at hl 0 rfl) ?_
                    refine lv_aload_n hx hb dX9_isByPrimes_74 rfl (lv_at hl 2 rfl) ?_
                    refine lv_iload_n hx hb dX9_isByPrimes_75 rfl (lv_at hl 4 rfl) ?_
                    refine lv_iload hx hb dX9_isByPrimes_76 (lv_at hl 5 rfl) ?_
                    refine lv_imul hx hb dX9_isByPrimes_78 ?_
                    obtain ⟨z79, h⟩ := zg_some h
                    refine va_lald hx hb hK hP 2 0 rfl rfl z79 dX9_isByPrimes_79 ?_
                    refine W.lcmp hx hb dX9_isByPrimes_80 ?_
                    refine lv_if_eq (tgt := 86) hx hb dX9_isByPrimes_81 (by decide) (fun c81 => ?_) (fun c81 => ?_)
                    · replace h := zif_t h c81
                      refine lv_iinc (v := (v4_1 + (1 : Int32))) (lv' := [(4, .int (v4_1 + (1 : Int32))), (5, .long r1), (0, .ref q), (1, .ref t0), (2, .int (z01 p1)), (3, .int v3_0)]) hx hb dX9_isByPrimes_86 hl (k := 5) rfl rfl (by decide) rfl (fun ls hl => ?_)
                      refine lv_goto (tgt := 21) hx hb dX9_isByPrimes_89 (by decide) ?_
                      exact hGW _ _ _ _ _ (ih1 (v4_1 + (1 : Int32)) ib_2 _ _ ls hP hD hS (lv_sub hl [2, 3, 4, 5, 0] rfl) h)
                    · replace h := zif_f h c81
                      refine lv_iconst (v := (0 : Int32)) hx hb dX9_isByPrimes_84 (by decide) ?_
                      have g0 := Option.some.inj h
                      obtain ⟨h1, g1⟩ := Prod.mk.inj g0
                      obtain ⟨h2, g2⟩ := Prod.mk.inj g1
                      obtain ⟨h3, g3⟩ := Prod.mk.inj g2
                      obtain ⟨h4, g4⟩ := Prod.mk.inj g3
                      obtain ⟨h5, g5⟩ := Prod.mk.inj g4
                      obtain ⟨h6, g6⟩ := Prod.mk.inj g5
                      subst h1
                      subst h2
                      subst h3
                      subst h4
                      subst h5
                      subst h6
                      subst g6
                      exact W.zret (v := (0 : Int32)) hx hb hr (z01_nar false) (fun t ht hW => ⟨⟨(0 : Int32), (), rfl, rfl, by rw [ht]; exact hP, va_K.moved hW.alike hK, hD⟩, hS.F ht⟩) hS.2.2 dX9_isByPrimes_85
                replace h := zlt_h h
                refine lv_if_ne (tgt := 47) hx hb dX9_isByPrimes_31 (by decide) (fun c31 => ?_) (fun c31 => ?_)
                · replace h := zif_t h c31
                  exact hGW _ _ _ _ _ (J0  _ _ ls hP hD hS (lv_sub hl [0, 1, 2, 3, 4] rfl) h)
                · replace h := zif_fn h c31
                  refine lv_iload_n hx hb dX9_isByPrimes_34 rfl (lv_at hl 3 rfl) ?_
                  refine lv_iload hx hb dX9_isByPrimes_35 (lv_at hl 4 rfl) ?_
                  obtain ⟨r4, e5, h⟩ := zb1_some h
                  refine zgoi (va_runS (As := [.int v3_0, .int v4_1]) (rest := []) ⟨hx, hb, hml, hown, hts⟩ (c_X9_common l D (zT cJ cI cO cB) F v3_0 v4_1 r4 e5 H.size) (va_cwS 2 hts gX9_isByPrimes_X9_common rfl rfl rfl hdS_X9_common ⟨Nat.le_of_ble_eq_true rfl, Nat.le_of_ble_eq_true rfl⟩) (zpreS hK zP0 (zD0 (A := A)) [.int v3_0, .int v4_1]) rfl rfl hl.1 rfl (lv_room (Nat.le_of_ble_eq_true rfl)) dX9_isByPrimes_37 ⟨Nat.le_of_ble_eq_true rfl, Nat.le_of_ble_eq_true rfl⟩) (zf0 hS hA) (zjE hP hD) hS (fun H locs hP hD hS => ?_)
                  refine lv_iconst (v := (1 : Int32)) hx hb dX9_isByPrimes_40 (by decide) ?_
                  refine lv_icmp_le (tgt := 47) hx hb dX9_isByPrimes_41 (by decide) (fun c41 => ?_) (fun c41 => ?_)
                  · replace h := zif_t h c41
                    exact hGW _ _ _ _ _ (J0  _ _ ls hP hD hS (lv_sub hl [0, 1, 2, 3, 4] rfl) h)
                  · replace h := zif_f h c41
                    refine lv_goto (tgt := 86) hx hb dX9_isByPrimes_44 (by decide) ?_
                    refine lv_iinc (v := (v4_1 + (1 : Int32))) (lv' := [(4, .int (v4_1 + (1 : Int32))), (0, .ref q), (1, .ref t0), (2, .int (z01 p1)), (3, .int v3_0)]) hx hb dX9_isByPrimes_86 hl (k := 4) rfl rfl (by decide) rfl (fun ls hl => ?_)
                    refine lv_goto (tgt := 21) hx hb dX9_isByPrimes_89 (by decide) ?_
                    exact hGW _ _ _ _ _ (ih1 (v4_1 + (1 : Int32)) ibL1 _ _ ls hP hD hS (lv_sub hl [1, 2, 3, 4, 0] rfl) h)
          exact hGW _ _ _ _ _ (L1 _ X1 F (1 : Int32) ibL0 _ _ ls hP hD hS (lv_sub hl [1, 2, 3, 4, 0] rfl) h)
    exact hGW _ _ _ _ _ (L0 _ X0 F (1 : Int32) ib _ _ ls hP hD hS (lv_sub hl [1, 2, 3, 0] rfl) h)
  · replace h := zif_f h c5
    refine lv_iconst (v := (0 : Int32)) hx hb dX9_isByPrimes_8 (by decide) ?_
    have g0 := Option.some.inj h
    obtain ⟨h1, g1⟩ := Prod.mk.inj g0
    obtain ⟨h2, g2⟩ := Prod.mk.inj g1
    obtain ⟨h3, g3⟩ := Prod.mk.inj g2
    obtain ⟨h4, g4⟩ := Prod.mk.inj g3
    obtain ⟨h5, g5⟩ := Prod.mk.inj g4
    obtain ⟨h6, g6⟩ := Prod.mk.inj g5
    subst h1
    subst h2
    subst h3
    subst h4
    subst h5
    subst h6
    subst g6
    exact W.zret (v := (0 : Int32)) hx hb hr (z01_nar false) (fun t ht hW => ⟨⟨(0 : Int32), (), rfl, rfl, by rw [ht]; exact hP, va_K.moved hW.alike hK, hD⟩, hS.F ht⟩) hS.2.2 dX9_isByPrimes_9

noncomputable def p_X9_at (V : Nat → Int64) (p0 : Int32) (p1 : Int32) : Option Int64 := (zg ((((121 : Int32) * p0) + p1) < 0 ∨ 484 ≤ (((121 : Int32) * p0) + p1).toNatClampNeg) (some (V (((121 : Int32) * p0) + p1).toNatClampNeg)))
theorem hdV_X9_at : yX9_at.cls = RX9 ∧ yX9_at.cls ≠ "java/lang/invoke/MethodHandle" ∧ yX9_at.cls ≠ "java/lang/invoke/VarHandle" ∧ (parseMethodDescriptor yX9_at.desc).map (fun d => d.parameters.length) = some 2 := by decide +kernel
set_option maxHeartbeats 4000000 in
set_option maxRecDepth 100000 in
theorem c_X9_at (l : Launch) (D : va_G) (q v : Nat) (cJ cI cO cB : ClassId) (V : Nat → Int64) (ib : Bool) (dn : Int32) (rf : Int32) (mk : Int32) (th : Int32) (p0 : Int32) (p1 : Int32) (r : Int64) (h : p_X9_at V p0 p1 = some r) : zMl l yX9_at wsX9_at 0 0 0 0 D (zT cJ cI cO cB) [.ref q, .int p0, .int p1] (mW q v cJ V ib dn rf mk th) (mW q v cJ V ib dn rf mk th) r := by
  intro sz
  delta zQl
  refine Met.ofW (cc := cX9_at) (maxL := 3) (ret := (some .long)) (by decide) rfl ?_
  intro p e s m args below meth c s₁ B hml hv
  obtain ⟨rfl, hsz, hP, hK, hD0⟩ := hv
  have hx := B.exec
  have hb := B.bytes
  have hr := B.returns
  have hts := atoms_spec (ws := wsX9_at) B.pre
  have hown : s.vm.findClass RX9 = some m.cls := findClass_of_methodNamed B.named
  have hlocks := B.notSynchronized
  subst hsz
  have hD := hD0.self (sz := s.heap.size)
  generalize hAe : va_A (mW q v cJ V ib dn rf mk th) s.heap.size = A at hD ⊢
  have hA : ∀ q : Nat, s.heap.size ≤ q → A q := fun q h => by rw [← hAe]; exact Or.inr h
  have hS : va_S A s.heap s.heap [] := va_S.rf
  have hl := lv_entry ([.ref q, .int p0, .int p1]) (n := 3) (Nat.le_of_ble_eq_true rfl)
  rw [lg_entry_eq]
  generalize (lg_sl ([.ref q, .int p0, .int p1]) ++ List.replicate (3 - (lg_sl ([.ref q, .int p0, .int p1])).length) Slot.unset).toArray = ls at hl ⊢
  replace hl : lv_has ls 3 [(0, .ref q), (1, .int p0), (2, .int p1)] := hl
  have kwX9 : ∀ w ∈ u_ws RX9 TX9 6, w ∈ wsX9_at := fun w h => List.mem_cons_of_mem _ (List.mem_append_right _ h)
  have kf_9 := hts (.fieldLink RX9 9 "DivisorworkModel" "values" "[J") (zmem 1 rfl)
  replace h : (zg ((((121 : Int32) * p0) + p1) < 0 ∨ 484 ≤ (((121 : Int32) * p0) + p1).toNatClampNeg) (some (V (((121 : Int32) * p0) + p1).toNatClampNeg))) = some r := h
  obtain ⟨H, hHe⟩ : ∃ H, H = s.heap := ⟨_, rfl⟩
  rw [← hHe] at hP
  replace hS : va_S A s.heap H [] := by rw [hHe]; exact hS
  refine zheap hHe ?_
  refine lv_aload_n hx hb dX9_at_0 rfl (lv_at hl 0 rfl) ?_
  refine va_get (D := D) (ci := 9) (v := .ref v) (C := RX9) (T := TX9) (N := 6) hx hb hts kwX9 hown hK hP 0 rfl rfl 0 (by decide) kf_9 (fun _ h9 => h9) rfl dX9_at_1 ?_
  refine lv_bipush (v := (121 : Int32)) hx hb dX9_at_4 (by decide) ?_
  refine lv_iload_n hx hb dX9_at_6 rfl (lv_at hl 1 rfl) ?_
  refine lv_imul hx hb dX9_at_7 ?_
  refine lv_iload_n hx hb dX9_at_8 rfl (lv_at hl 2 rfl) ?_
  refine lv_iadd hx hb dX9_at_9 ?_
  obtain ⟨z10, h⟩ := zg_some h
  refine va_lald hx hb hK hP 1 0 rfl rfl z10 dX9_at_10 ?_
  have h1 := Option.some.inj h
  subst h1
  exact W.lret (v := (V (((121 : Int32) * p0) + p1).toNatClampNeg)) hx hb hr (fun t ht hW => ⟨⟨(V (((121 : Int32) * p0) + p1).toNatClampNeg), (), rfl, rfl, by rw [ht]; exact hP, va_K.moved hW.alike hK, hD⟩, hS.F ht⟩) hS.2.2 dX9_at_11

noncomputable def p_X9_of_L0 (F : Nat) (V : Nat → Int64) (p0 : Int32) (k : Int32 → (Nat → Int64) → Option ((Nat → Int64))) : Nat → Int32 → (Nat → Int64) → Option ((Nat → Int64))
  | 0, _, _ => none
  | n + 1, v3_0, f0_0 => (if (120 : Int32) < v3_0 then (k v3_0 f0_0) else (zb1 (p_X9_at V p0 v3_0) (fun r2 => (zg (v3_0 < 0 ∨ 121 ≤ v3_0.toNatClampNeg) (p_X9_of_L0 F V p0 k n (v3_0 + (1 : Int32)) (vp_updL f0_0 v3_0.toNatClampNeg r2))))))
noncomputable def p_X9_of (F : Nat) (V : Nat → Int64) (p0 : Int32) : Option ((Nat → Int64)) := (p_X9_of_L0 F V p0 (fun v3_0 f0_0 => (some f0_0)) F (1 : Int32) (fun _ => 0))
theorem hdV_X9_of : yX9_of.cls = RX9 ∧ yX9_of.cls ≠ "java/lang/invoke/MethodHandle" ∧ yX9_of.cls ≠ "java/lang/invoke/VarHandle" ∧ (parseMethodDescriptor yX9_of.desc).map (fun d => d.parameters.length) = some 1 := by decide +kernel
set_option maxHeartbeats 4000000 in
set_option maxRecDepth 100000 in
theorem c_X9_of (l : Launch) (D : va_G) (q v : Nat) (cJ cI cO cB : ClassId) (V : Nat → Int64) (ib : Bool) (dn : Int32) (rf : Int32) (mk : Int32) (th : Int32) (F : Nat) (p0 : Int32) (r : Nat → Int64) (h : p_X9_of F V p0 = some r) : zMn l yX9_of wsX9_of 1 22 1 121 D (zT cJ cI cO cB) [.ref q, .int p0] (mW q v cJ V ib dn rf mk th) (fun x => (mW q v cJ V ib dn rf mk th ++ ([(x, .inl (cJ, 121, .inr (.inl r)))]))) := by
  intro sz
  delta zQn
  refine Met.ofW (cc := cX9_of) (maxL := 4) (ret := (some (.array .long))) (by decide) rfl ?_
  intro p e s m args below meth c s₁ B hml hv
  obtain ⟨rfl, hsz, hP, hK, hD0⟩ := hv
  have hx := B.exec
  have hb := B.bytes
  have hr := B.returns
  have hts := atoms_spec (ws := wsX9_of) B.pre
  have hown : s.vm.findClass RX9 = some m.cls := findClass_of_methodNamed B.named
  have hlocks := B.notSynchronized
  subst hsz
  have hD := hD0.self (sz := s.heap.size)
  generalize hAe : va_A (mW q v cJ V ib dn rf mk th) s.heap.size = A at hD ⊢
  have hA : ∀ q : Nat, s.heap.size ≤ q → A q := fun q h => by rw [← hAe]; exact Or.inr h
  have hS : va_S A s.heap s.heap [] := va_S.rf
  have hl := lv_entry ([.ref q, .int p0]) (n := 4) (Nat.le_of_ble_eq_true rfl)
  rw [lg_entry_eq]
  generalize (lg_sl ([.ref q, .int p0]) ++ List.replicate (4 - (lg_sl ([.ref q, .int p0])).length) Slot.unset).toArray = ls at hl ⊢
  replace hl : lv_has ls 4 [(0, .ref q), (1, .int p0)] := hl
  have karr := hts (.arrayClass .long) (zmem 1 rfl)
  replace h : (p_X9_of_L0 F V p0 (fun v3_0 f0_0 => (some f0_0)) F (1 : Int32) (fun _ => 0)) = some r := h
  refine zabs (fun G hG hGW => ?_)
  obtain ⟨H, hHe⟩ : ∃ H, H = s.heap := ⟨_, rfl⟩
  rw [← hHe] at hP
  replace hS : va_S A s.heap H [] := by rw [hHe]; exact hS
  refine zheap hHe ?_
  refine lv_bipush (v := (121 : Int32)) hx hb dX9_of_0 (by decide) ?_
  refine znewJ (N := 121) hx hb karr hK hP hD hS hA (by decide) (by decide) (by decide) (Nat.le_of_ble_eq_true rfl) (Nat.le_of_ble_eq_true rfl) dX9_of_2 (fun w1 H hP hD hS => ?_)
  replace hP : va_P D vwCl (mW q v cJ V ib dn rf mk th ++ ([(w1, .inl (cJ, 121, .inr (.inl (fun _ => 0))))])) H := hP
  replace hD : va_D A (mW q v cJ V ib dn rf mk th ++ ([(w1, .inl (cJ, 121, .inr (.inl (fun _ => 0))))])) := hD
  refine lv_astore_n (lv' := [(2, .ref w1), (0, .ref q), (1, .int p0)]) hx hb dX9_of_4 rfl hl (by decide) rfl (fun ls hl => ?_)
  refine lv_iconst (v := (1 : Int32)) hx hb dX9_of_5 (by decide) ?_
  refine lv_istore_n (lv' := [(3, .int (1 : Int32)), (2, .ref w1), (0, .ref q), (1, .int p0)]) hx hb dX9_of_6 rfl hl (by decide) rfl (fun ls hl => ?_)
  have X0 : ∀ (v3_0 : Int32) (f0_0 : Nat → Int64) (H : Heap) (locs : List Loc) (ls : Array Slot), va_P D vwCl (mW q v cJ V ib dn rf mk th ++ ([(w1, .inl (cJ, 121, .inr (.inl f0_0)))])) H → va_D A (mW q v cJ V ib dn rf mk th ++ ([(w1, .inl (cJ, 121, .inr (.inl f0_0)))])) → va_S A s.heap H locs → lv_has ls 4 [(0, .ref q), (1, .int p0), (2, .ref w1), (3, .int v3_0)] → (some f0_0) = some r → G H locs 1 121 (F0 m 28 ls []) := by
    intro v3_0 f0_0 H locs ls hP hD hS hl h
    refine hG _ _ _ _ _ ?_
    refine lv_aload_n hx hb dX9_of_28 rfl (lv_at hl 2 rfl) ?_
    have h1 := Option.some.inj h
    subst h1
    exact W.aret (v := .ref w1) hx hb hr (Or.inr ⟨_, rfl⟩) (Or.inr ⟨_, rfl⟩) (fun t ht hW => ⟨⟨(), w1, rfl, trivial, by rw [ht]; exact hP, va_K.moved hW.alike hK, hD⟩, hS.F ht⟩) hS.2.2 dX9_of_29
  have L0 : ∀ (K0 : Int32 → (Nat → Int64) → Option ((Nat → Int64))) (HX0 : ∀ (v3_0 : Int32) (f0_0 : Nat → Int64) (H : Heap) (locs : List Loc) (ls : Array Slot), va_P D vwCl (mW q v cJ V ib dn rf mk th ++ ([(w1, .inl (cJ, 121, .inr (.inl f0_0)))])) H → va_D A (mW q v cJ V ib dn rf mk th ++ ([(w1, .inl (cJ, 121, .inr (.inl f0_0)))])) → va_S A s.heap H locs → lv_has ls 4 [(0, .ref q), (1, .int p0), (2, .ref w1), (3, .int v3_0)] → K0 v3_0 f0_0 = some r → G H locs 1 121 (F0 m 28 ls [])) (fu0 : Nat) (v3_0 : Int32) (f0_0 : Nat → Int64) (H : Heap) (locs : List Loc) (ls : Array Slot), va_P D vwCl (mW q v cJ V ib dn rf mk th ++ ([(w1, .inl (cJ, 121, .inr (.inl f0_0)))])) H → va_D A (mW q v cJ V ib dn rf mk th ++ ([(w1, .inl (cJ, 121, .inr (.inl f0_0)))])) → va_S A s.heap H locs → lv_has ls 4 [(0, .ref q), (1, .int p0), (2, .ref w1), (3, .int v3_0)] → p_X9_of_L0 F V p0 K0 fu0 v3_0 f0_0 = some r → G H locs 1 121 (F0 m 7 ls []) := by
    intro K0 HX0 fu0
    induction fu0 with
    | zero =>
      intro v3_0 f0_0 H locs ls hP hD hS hl h
      exact (zno h).elim
    | succ fu0 ih0 =>
      intro v3_0 f0_0 H locs ls hP hD hS hl h
      refine hG _ _ _ _ _ ?_
      unfold p_X9_of_L0 at h
      refine lv_iload_n hx hb dX9_of_7 rfl (lv_at hl 3 rfl) ?_
      refine lv_bipush (v := (120 : Int32)) hx hb dX9_of_8 (by decide) ?_
      refine lv_icmp_gt (tgt := 28) hx hb dX9_of_10 (by decide) (fun c10 => ?_) (fun c10 => ?_)
      · replace h := zif_t h c10
        exact hGW _ _ _ _ _ (HX0 v3_0 f0_0 _ _ ls hP hD hS (lv_sub hl [0, 1, 2, 3] rfl) h)
      · replace h := zif_f h c10
        refine lv_aload_n hx hb dX9_of_13 rfl (lv_at hl 2 rfl) ?_
        refine lv_iload_n hx hb dX9_of_14 rfl (lv_at hl 3 rfl) ?_
        refine lv_aload_n hx hb dX9_of_15 rfl (lv_at hl 0 rfl) ?_
        refine lv_iload_n hx hb dX9_of_16 rfl (lv_at hl 1 rfl) ?_
        refine lv_iload_n hx hb dX9_of_17 rfl (lv_at hl 3 rfl) ?_
        obtain ⟨r2, e3, h⟩ := zb1_some h
        have hPc := zsub (wn := (mW q v cJ V ib dn rf mk th)) hP [0, 1] rfl
        have hDc := hD.sub (ws' := (mW q v cJ V ib dn rf mk th)) [0, 1] (by decide) rfl
        refine zgol (va_runV (As := [.int p0, .int v3_0]) (rest := [.int v3_0, .ref w1]) ⟨hx, hb, hml, hown, hts⟩ (c_X9_at l D q v cJ cI cO cB V ib dn rf mk th p0 v3_0 r2 e3 H.size) (cwV 2 hts gX9_of_X9_at rfl rfl rfl hdV_X9_at ⟨Nat.le_of_ble_eq_true rfl, Nat.le_of_ble_eq_true rfl⟩) (zpreV (q0 := 0) (ci := 9) (T := TX9) (N := 6) hK hPc hDc rfl rfl [.int p0, .int v3_0]) rfl rfl hl.1 rfl (lv_room (Nat.le_of_ble_eq_true rfl)) dX9_of_18 ⟨Nat.le_of_ble_eq_true rfl, Nat.le_of_ble_eq_true rfl⟩) (va_free hD hS hA [0, 1] rfl) (zjs (wn := (mW q v cJ V ib dn rf mk th ++ ([(w1, .inl (cJ, 121, .inr (.inl f0_0)))]))) [1, 2, 0] (zjF (wr := ([(w1, .inl (cJ, 121, .inr (.inl f0_0)))] : va_W)) hP hD hS hA [0, 1] [2] rfl rfl (by decide) (by decide)) rfl (by decide)) hS (fun H locs hP hD hS => ?_)
        replace hP : va_P D vwCl (mW q v cJ V ib dn rf mk th ++ ([(w1, .inl (cJ, 121, .inr (.inl f0_0)))])) H := hP
        replace hD : va_D A (mW q v cJ V ib dn rf mk th ++ ([(w1, .inl (cJ, 121, .inr (.inl f0_0)))])) := hD
        obtain ⟨z21, h⟩ := zg_some h
        refine va_last hx hb hK hP hD hS 2 0 rfl rfl z21 dX9_of_21 (fun H locs hP hD hS => ?_)
        replace hP : va_P D vwCl (mW q v cJ V ib dn rf mk th ++ ([(w1, .inl (cJ, 121, .inr (.inl (vp_updL f0_0 v3_0.toNatClampNeg r2))))])) H := hP
        replace hD : va_D A (mW q v cJ V ib dn rf mk th ++ ([(w1, .inl (cJ, 121, .inr (.inl (vp_updL f0_0 v3_0.toNatClampNeg r2))))])) := hD
        refine lv_iinc (v := (v3_0 + (1 : Int32))) (lv' := [(3, .int (v3_0 + (1 : Int32))), (0, .ref q), (1, .int p0), (2, .ref w1)]) hx hb dX9_of_22 hl (k := 3) rfl rfl (by decide) rfl (fun ls hl => ?_)
        refine lv_goto (tgt := 7) hx hb dX9_of_25 (by decide) ?_
        exact hGW _ _ _ _ _ (ih0 (v3_0 + (1 : Int32)) (vp_updL f0_0 v3_0.toNatClampNeg r2) _ _ ls hP hD hS (lv_sub hl [1, 2, 3, 0] rfl) h)
  exact hGW _ _ _ _ _ (L0 _ X0 F (1 : Int32) (fun _ => 0) _ _ ls hP hD hS (lv_sub hl [2, 3, 1, 0] rfl) h)

noncomputable def p_X9_become_L0 (F : Nat) (p0 : Int32) (p1 : Nat → Int64) (k : Int32 → Int32 → (Nat → Int64) → Option (Int32 × (Nat → Int64) × Int32)) : Nat → Int32 → Int32 → (Nat → Int64) → Option (Int32 × (Nat → Int64) × Int32)
  | 0, _, _, _ => none
  | n + 1, v3_0, v4_0, VL0 => (if (120 : Int32) < v4_0 then (k v3_0 v4_0 VL0) else (zb1 (p_X9_at VL0 p0 v4_0) (fun r1 => (zg (v4_0 < 0 ∨ 121 ≤ v4_0.toNatClampNeg) (if (lg_cmp r1 (p1 v4_0.toNatClampNeg)) = 0 then (zg (v4_0 < 0 ∨ 121 ≤ v4_0.toNatClampNeg) (zg ((((121 : Int32) * p0) + v4_0) < 0 ∨ 484 ≤ (((121 : Int32) * p0) + v4_0).toNatClampNeg) (p_X9_become_L0 F p0 p1 k n (v3_0 + (0 : Int32)) (v4_0 + (1 : Int32)) (vp_updL VL0 (((121 : Int32) * p0) + v4_0).toNatClampNeg (p1 v4_0.toNatClampNeg))))) else (zg (v4_0 < 0 ∨ 121 ≤ v4_0.toNatClampNeg) (zg ((((121 : Int32) * p0) + v4_0) < 0 ∨ 484 ≤ (((121 : Int32) * p0) + v4_0).toNatClampNeg) (p_X9_become_L0 F p0 p1 k n (v3_0 + (1 : Int32)) (v4_0 + (1 : Int32)) (vp_updL VL0 (((121 : Int32) * p0) + v4_0).toNatClampNeg (p1 v4_0.toNatClampNeg))))))))))
noncomputable def p_X9_become (F : Nat) (V : Nat → Int64) (dn : Int32) (p0 : Int32) (p1 : Nat → Int64) : Option (Int32 × (Nat → Int64) × Int32) := (p_X9_become_L0 F p0 p1 (fun v3_0 v4_0 VL0 => (some (v3_0, VL0, (dn + (1 : Int32))))) F (0 : Int32) (1 : Int32) V)
theorem hdV_X9_become : yX9_become.cls = RX9 ∧ yX9_become.cls ≠ "java/lang/invoke/MethodHandle" ∧ yX9_become.cls ≠ "java/lang/invoke/VarHandle" ∧ (parseMethodDescriptor yX9_become.desc).map (fun d => d.parameters.length) = some 2 := by decide +kernel
set_option maxHeartbeats 4000000 in
set_option maxRecDepth 100000 in
theorem c_X9_become (l : Launch) (D : va_G) (q v : Nat) (cJ cI cO cB : ClassId) (V : Nat → Int64) (ib : Bool) (dn : Int32) (rf : Int32) (mk : Int32) (th : Int32) (F : Nat) (p0 : Int32) (t1 : Nat) (p1 : Nat → Int64) (r : Int32) (V' : Nat → Int64) (dn' : Int32) (h : p_X9_become F V dn p0 p1 = some (r, V', dn')) : zMi l yX9_become wsX9_become 1 22 0 0 D (zT cJ cI cO cB) [.ref q, .int p0, .ref t1] (mW q v cJ V ib dn rf mk th ++ ([(t1, .inl (cJ, 121, .inr (.inl p1)))])) (mW q v cJ V' ib dn' rf mk th ++ ([(t1, .inl (cJ, 121, .inr (.inl p1)))])) r := by
  intro sz
  delta zQi
  refine Met.ofW (cc := cX9_become) (maxL := 5) (ret := (some .int)) (by decide) rfl ?_
  intro p e s m args below meth c s₁ B hml hv
  obtain ⟨rfl, hsz, hP, hK, hD0⟩ := hv
  have hx := B.exec
  have hb := B.bytes
  have hr := B.returns
  have hts := atoms_spec (ws := wsX9_become) B.pre
  have hown : s.vm.findClass RX9 = some m.cls := findClass_of_methodNamed B.named
  have hlocks := B.notSynchronized
  subst hsz
  have hD := hD0.self (sz := s.heap.size)
  generalize hAe : va_A (mW q v cJ V ib dn rf mk th ++ ([(t1, .inl (cJ, 121, .inr (.inl p1)))])) s.heap.size = A at hD ⊢
  have hA : ∀ q : Nat, s.heap.size ≤ q → A q := fun q h => by rw [← hAe]; exact Or.inr h
  have hS : va_S A s.heap s.heap [] := va_S.rf
  have hl := lv_entry ([.ref q, .int p0, .ref t1]) (n := 5) (Nat.le_of_ble_eq_true rfl)
  rw [lg_entry_eq]
  generalize (lg_sl ([.ref q, .int p0, .ref t1]) ++ List.replicate (5 - (lg_sl ([.ref q, .int p0, .ref t1])).length) Slot.unset).toArray = ls at hl ⊢
  replace hl : lv_has ls 5 [(0, .ref q), (1, .int p0), (2, .ref t1)] := hl
  have kwX9 : ∀ w ∈ u_ws RX9 TX9 6, w ∈ wsX9_become := fun w h => List.mem_cons_of_mem _ (List.mem_append_right _ (List.mem_cons_of_mem _ (List.mem_append_right _ h)))
  have kf_79 := hts (.fieldLink RX9 79 "DivisorworkModel" "done" "I") (zmem 1 rfl)
  have kf_9 := hts (.fieldLink RX9 9 "DivisorworkModel" "values" "[J") (zmem 7 rfl)
  replace h : (p_X9_become_L0 F p0 p1 (fun v3_0 v4_0 VL0 => (some (v3_0, VL0, (dn + (1 : Int32))))) F (0 : Int32) (1 : Int32) V) = some (r, V', dn') := h
  refine zabs (fun G hG hGW => ?_)
  obtain ⟨H, hHe⟩ : ∃ H, H = s.heap := ⟨_, rfl⟩
  rw [← hHe] at hP
  replace hS : va_S A s.heap H [] := by rw [hHe]; exact hS
  refine zheap hHe ?_
  refine lv_iconst (v := (0 : Int32)) hx hb dX9_become_0 (by decide) ?_
  refine lv_istore_n (lv' := [(3, .int (0 : Int32)), (0, .ref q), (1, .int p0), (2, .ref t1)]) hx hb dX9_become_1 rfl hl (by decide) rfl (fun ls hl => ?_)
  refine lv_iconst (v := (1 : Int32)) hx hb dX9_become_2 (by decide) ?_
  refine lv_istore (lv' := [(4, .int (1 : Int32)), (3, .int (0 : Int32)), (0, .ref q), (1, .int p0), (2, .ref t1)]) hx hb dX9_become_3 hl (by decide) rfl (fun ls hl => ?_)
  have X0 : ∀ (v3_0 : Int32) (v4_0 : Int32) (VL0 : Nat → Int64) (H : Heap) (locs : List Loc) (ls : Array Slot), va_P D vwCl (mW q v cJ VL0 ib dn rf mk th ++ ([(t1, .inl (cJ, 121, .inr (.inl p1)))])) H → va_D A (mW q v cJ VL0 ib dn rf mk th ++ ([(t1, .inl (cJ, 121, .inr (.inl p1)))])) → va_S A s.heap H locs → lv_has ls 5 [(0, .ref q), (1, .int p0), (2, .ref t1), (3, .int v3_0), (4, .int v4_0)] → (some (v3_0, VL0, (dn + (1 : Int32)))) = some (r, V', dn') → G H locs 0 0 (F0 m 57 ls []) := by
    intro v3_0 v4_0 VL0 H locs ls hP hD hS hl h
    refine hG _ _ _ _ _ ?_
    refine lv_aload_n hx hb dX9_become_57 rfl (lv_at hl 0 rfl) ?_
    refine lv_dup hx hb dX9_become_58 rfl ?_
    refine va_get (D := D) (ci := 9) (v := .int dn) (C := RX9) (T := TX9) (N := 6) hx hb hts kwX9 hown hK hP 0 rfl rfl 2 (by decide) kf_79 (fun _ h9 => h9) rfl dX9_become_59 ?_
    refine lv_iconst (v := (1 : Int32)) hx hb dX9_become_62 (by decide) ?_
    refine lv_iadd hx hb dX9_become_63 ?_
    refine va_put (D := D) (ci := 9) (v := .int (dn + (1 : Int32))) (ty := .int) (C := RX9) (T := TX9) (N := 6) hx hb hts kwX9 tyX9 tyX9_ok nmX9 hown hK hP hD hS 0 rfl rfl 2 (by decide) kf_79 (fun _ h9 => h9) rfl rfl rfl rfl (Nat.le_of_ble_eq_true rfl) dX9_become_64 (fun H locs hP hD hS => ?_)
    replace hP : va_P D vwCl (mW q v cJ VL0 ib (dn + (1 : Int32)) rf mk th ++ ([(t1, .inl (cJ, 121, .inr (.inl p1)))])) H := hP
    replace hD : va_D A (mW q v cJ VL0 ib (dn + (1 : Int32)) rf mk th ++ ([(t1, .inl (cJ, 121, .inr (.inl p1)))])) := hD
    refine lv_iload_n hx hb dX9_become_67 rfl (lv_at hl 3 rfl) ?_
    have g0 := Option.some.inj h
    obtain ⟨h1, g1⟩ := Prod.mk.inj g0
    obtain ⟨h2, g2⟩ := Prod.mk.inj g1
    subst h1
    subst h2
    subst g2
    exact W.iret (v := v3_0) hx hb hr (fun t ht hW => ⟨⟨v3_0, (), rfl, rfl, by rw [ht]; exact hP, va_K.moved hW.alike hK, hD⟩, hS.F ht⟩) hS.2.2 dX9_become_68
  have L0 : ∀ (K0 : Int32 → Int32 → (Nat → Int64) → Option (Int32 × (Nat → Int64) × Int32)) (HX0 : ∀ (v3_0 : Int32) (v4_0 : Int32) (VL0 : Nat → Int64) (H : Heap) (locs : List Loc) (ls : Array Slot), va_P D vwCl (mW q v cJ VL0 ib dn rf mk th ++ ([(t1, .inl (cJ, 121, .inr (.inl p1)))])) H → va_D A (mW q v cJ VL0 ib dn rf mk th ++ ([(t1, .inl (cJ, 121, .inr (.inl p1)))])) → va_S A s.heap H locs → lv_has ls 5 [(0, .ref q), (1, .int p0), (2, .ref t1), (3, .int v3_0), (4, .int v4_0)] → K0 v3_0 v4_0 VL0 = some (r, V', dn') → G H locs 0 0 (F0 m 57 ls [])) (fu0 : Nat) (v3_0 : Int32) (v4_0 : Int32) (VL0 : Nat → Int64) (H : Heap) (locs : List Loc) (ls : Array Slot), va_P D vwCl (mW q v cJ VL0 ib dn rf mk th ++ ([(t1, .inl (cJ, 121, .inr (.inl p1)))])) H → va_D A (mW q v cJ VL0 ib dn rf mk th ++ ([(t1, .inl (cJ, 121, .inr (.inl p1)))])) → va_S A s.heap H locs → lv_has ls 5 [(0, .ref q), (1, .int p0), (2, .ref t1), (3, .int v3_0), (4, .int v4_0)] → p_X9_become_L0 F p0 p1 K0 fu0 v3_0 v4_0 VL0 = some (r, V', dn') → G H locs 0 0 (F0 m 5 ls []) := by
    intro K0 HX0 fu0
    induction fu0 with
    | zero =>
      intro v3_0 v4_0 VL0 H locs ls hP hD hS hl h
      exact (zno h).elim
    | succ fu0 ih0 =>
      intro v3_0 v4_0 VL0 H locs ls hP hD hS hl h
      refine hG _ _ _ _ _ ?_
      unfold p_X9_become_L0 at h
      refine lv_iload hx hb dX9_become_5 (lv_at hl 4 rfl) ?_
      refine lv_bipush (v := (120 : Int32)) hx hb dX9_become_7 (by decide) ?_
      refine lv_icmp_gt (tgt := 57) hx hb dX9_become_9 (by decide) (fun c9 => ?_) (fun c9 => ?_)
      · replace h := zif_t h c9
        exact hGW _ _ _ _ _ (HX0 v3_0 v4_0 VL0 _ _ ls hP hD hS (lv_sub hl [0, 1, 2, 3, 4] rfl) h)
      · replace h := zif_f h c9
        refine lv_iload_n hx hb dX9_become_12 rfl (lv_at hl 3 rfl) ?_
        refine lv_aload_n hx hb dX9_become_13 rfl (lv_at hl 0 rfl) ?_
        refine lv_iload_n hx hb dX9_become_14 rfl (lv_at hl 1 rfl) ?_
        refine lv_iload hx hb dX9_become_15 (lv_at hl 4 rfl) ?_
        obtain ⟨r1, e2, h⟩ := zb1_some h
        have hPc := zsub (wn := (mW q v cJ VL0 ib dn rf mk th)) hP [0, 1] rfl
        have hDc := hD.sub (ws' := (mW q v cJ VL0 ib dn rf mk th)) [0, 1] (by decide) rfl
        refine zgol (va_runV (As := [.int p0, .int v4_0]) (rest := [.int v3_0]) ⟨hx, hb, hml, hown, hts⟩ (c_X9_at l D q v cJ cI cO cB VL0 ib dn rf mk th p0 v4_0 r1 e2 H.size) (cwV 2 hts gX9_become_X9_at rfl rfl rfl hdV_X9_at ⟨Nat.le_of_ble_eq_true rfl, Nat.le_of_ble_eq_true rfl⟩) (zpreV (q0 := 0) (ci := 9) (T := TX9) (N := 6) hK hPc hDc rfl rfl [.int p0, .int v4_0]) rfl rfl hl.1 rfl (lv_room (Nat.le_of_ble_eq_true rfl)) dX9_become_17 ⟨Nat.le_of_ble_eq_true rfl, Nat.le_of_ble_eq_true rfl⟩) (va_free hD hS hA [0, 1] rfl) (zjs (wn := (mW q v cJ VL0 ib dn rf mk th ++ ([(t1, .inl (cJ, 121, .inr (.inl p1)))]))) [1, 2, 0] (zjF (wr := ([(t1, .inl (cJ, 121, .inr (.inl p1)))] : va_W)) hP hD hS hA [0, 1] [2] rfl rfl (by decide) (by decide)) rfl (by decide)) hS (fun H locs hP hD hS => ?_)
        replace hP : va_P D vwCl (mW q v cJ VL0 ib dn rf mk th ++ ([(t1, .inl (cJ, 121, .inr (.inl p1)))])) H := hP
        replace hD : va_D A (mW q v cJ VL0 ib dn rf mk th ++ ([(t1, .inl (cJ, 121, .inr (.inl p1)))])) := hD
        refine lv_aload_n hx hb dX9_become_20 rfl (lv_at hl 2 rfl) ?_
        refine lv_iload hx hb dX9_become_21 (lv_at hl 4 rfl) ?_
        obtain ⟨z23, h⟩ := zg_some h
        refine va_lald hx hb hK hP 2 0 rfl rfl z23 dX9_become_23 ?_
        refine W.lcmp hx hb dX9_become_24 ?_
        refine lv_if_eq (tgt := 32) hx hb dX9_become_25 (by decide) (fun c25 => ?_) (fun c25 => ?_)
        · replace h := zif_t h c25
          refine lv_iconst (v := (0 : Int32)) hx hb dX9_become_32 (by decide) ?_
          refine lv_iadd hx hb dX9_become_33 ?_
          refine lv_istore_n (lv' := [(3, .int (v3_0 + (0 : Int32))), (0, .ref q), (1, .int p0), (2, .ref t1), (4, .int v4_0)]) hx hb dX9_become_34 rfl hl (by decide) rfl (fun ls hl => ?_)
          refine lv_aload_n hx hb dX9_become_35 rfl (lv_at hl 1 rfl) ?_
          refine va_get (D := D) (ci := 9) (v := .ref v) (C := RX9) (T := TX9) (N := 6) hx hb hts kwX9 hown hK hP 0 rfl rfl 0 (by decide) kf_9 (fun _ h9 => h9) rfl dX9_become_36 ?_
          refine lv_bipush (v := (121 : Int32)) hx hb dX9_become_39 (by decide) ?_
          refine lv_iload_n hx hb dX9_become_41 rfl (lv_at hl 2 rfl) ?_
          refine lv_imul hx hb dX9_become_42 ?_
          refine lv_iload hx hb dX9_become_43 (lv_at hl 4 rfl) ?_
          refine lv_iadd hx hb dX9_become_45 ?_
          refine lv_aload_n hx hb dX9_become_46 rfl (lv_at hl 3 rfl) ?_
          refine lv_iload hx hb dX9_become_47 (lv_at hl 4 rfl) ?_
          obtain ⟨z49, h⟩ := zg_some h
          refine va_lald hx hb hK hP 2 0 rfl rfl z49 dX9_become_49 ?_
          obtain ⟨z50, h⟩ := zg_some h
          refine va_last hx hb hK hP hD hS 1 0 rfl rfl z50 dX9_become_50 (fun H locs hP hD hS => ?_)
          replace hP : va_P D vwCl (mW q v cJ (vp_updL VL0 (((121 : Int32) * p0) + v4_0).toNatClampNeg (p1 v4_0.toNatClampNeg)) ib dn rf mk th ++ ([(t1, .inl (cJ, 121, .inr (.inl p1)))])) H := hP
          replace hD : va_D A (mW q v cJ (vp_updL VL0 (((121 : Int32) * p0) + v4_0).toNatClampNeg (p1 v4_0.toNatClampNeg)) ib dn rf mk th ++ ([(t1, .inl (cJ, 121, .inr (.inl p1)))])) := hD
          refine lv_iinc (v := (v4_0 + (1 : Int32))) (lv' := [(4, .int (v4_0 + (1 : Int32))), (3, .int (v3_0 + (0 : Int32))), (0, .ref q), (1, .int p0), (2, .ref t1)]) hx hb dX9_become_51 hl (k := 4) rfl rfl (by decide) rfl (fun ls hl => ?_)
          refine lv_goto (tgt := 5) hx hb dX9_become_54 (by decide) ?_
          exact hGW _ _ _ _ _ (ih0 (v3_0 + (0 : Int32)) (v4_0 + (1 : Int32)) (vp_updL VL0 (((121 : Int32) * p0) + v4_0).toNatClampNeg (p1 v4_0.toNatClampNeg)) _ _ ls hP hD hS (lv_sub hl [2, 3, 4, 1, 0] rfl) h)
        · replace h := zif_f h c25
          refine lv_iconst (v := (1 : Int32)) hx hb dX9_become_28 (by decide) ?_
          refine lv_goto (tgt := 33) hx hb dX9_become_29 (by decide) ?_
          refine lv_iadd hx hb dX9_become_33 ?_
          refine lv_istore_n (lv' := [(3, .int (v3_0 + (1 : Int32))), (0, .ref q), (1, .int p0), (2, .ref t1), (4, .int v4_0)]) hx hb dX9_become_34 rfl hl (by decide) rfl (fun ls hl => ?_)
          refine lv_aload_n hx hb dX9_become_35 rfl (lv_at hl 1 rfl) ?_
          refine va_get (D := D) (ci := 9) (v := .ref v) (C := RX9) (T := TX9) (N := 6) hx hb hts kwX9 hown hK hP 0 rfl rfl 0 (by decide) kf_9 (fun _ h9 => h9) rfl dX9_become_36 ?_
          refine lv_bipush (v := (121 : Int32)) hx hb dX9_become_39 (by decide) ?_
          refine lv_iload_n hx hb dX9_become_41 rfl (lv_at hl 2 rfl) ?_
          refine lv_imul hx hb dX9_become_42 ?_
          refine lv_iload hx hb dX9_become_43 (lv_at hl 4 rfl) ?_
          refine lv_iadd hx hb dX9_become_45 ?_
          refine lv_aload_n hx hb dX9_become_46 rfl (lv_at hl 3 rfl) ?_
          refine lv_iload hx hb dX9_become_47 (lv_at hl 4 rfl) ?_
          obtain ⟨z49, h⟩ := zg_some h
          refine va_lald hx hb hK hP 2 0 rfl rfl z49 dX9_become_49 ?_
          obtain ⟨z50, h⟩ := zg_some h
          refine va_last hx hb hK hP hD hS 1 0 rfl rfl z50 dX9_become_50 (fun H locs hP hD hS => ?_)
          replace hP : va_P D vwCl (mW q v cJ (vp_updL VL0 (((121 : Int32) * p0) + v4_0).toNatClampNeg (p1 v4_0.toNatClampNeg)) ib dn rf mk th ++ ([(t1, .inl (cJ, 121, .inr (.inl p1)))])) H := hP
          replace hD : va_D A (mW q v cJ (vp_updL VL0 (((121 : Int32) * p0) + v4_0).toNatClampNeg (p1 v4_0.toNatClampNeg)) ib dn rf mk th ++ ([(t1, .inl (cJ, 121, .inr (.inl p1)))])) := hD
          refine lv_iinc (v := (v4_0 + (1 : Int32))) (lv' := [(4, .int (v4_0 + (1 : Int32))), (3, .int (v3_0 + (1 : Int32))), (0, .ref q), (1, .int p0), (2, .ref t1)]) hx hb dX9_become_51 hl (k := 4) rfl rfl (by decide) rfl (fun ls hl => ?_)
          refine lv_goto (tgt := 5) hx hb dX9_become_54 (by decide) ?_
          exact hGW _ _ _ _ _ (ih0 (v3_0 + (1 : Int32)) (v4_0 + (1 : Int32)) (vp_updL VL0 (((121 : Int32) * p0) + v4_0).toNatClampNeg (p1 v4_0.toNatClampNeg)) _ _ ls hP hD hS (lv_sub hl [2, 3, 4, 1, 0] rfl) h)
  exact hGW _ _ _ _ _ (L0 _ X0 F (0 : Int32) (1 : Int32) V _ _ ls hP hD hS (lv_sub hl [2, 3, 4, 1, 0] rfl) h)

noncomputable def p_X9_becomeOrNot (F : Nat) (V : Nat → Int64) (ib : Bool) (dn : Int32) (rf : Int32) (p0 : Int32) (p1 : Nat → Int64) : Option (Int32 × (Nat → Int64) × Int32 × Int32) := (if ¬ (z01 ib) = 0 then (some ((-9 : Int32), V, dn, (rf + (1 : Int32)))) else (zb3 (p_X9_become F V dn p0 p1) (fun r1 V_2 dn_3 => (some (r1, V_2, dn_3, rf)))))
theorem hdV_X9_becomeOrNot : yX9_becomeOrNot.cls = RX9 ∧ yX9_becomeOrNot.cls ≠ "java/lang/invoke/MethodHandle" ∧ yX9_becomeOrNot.cls ≠ "java/lang/invoke/VarHandle" ∧ (parseMethodDescriptor yX9_becomeOrNot.desc).map (fun d => d.parameters.length) = some 2 := by decide +kernel
set_option maxHeartbeats 4000000 in
set_option maxRecDepth 100000 in
theorem c_X9_becomeOrNot (l : Launch) (D : va_G) (q v : Nat) (cJ cI cO cB : ClassId) (V : Nat → Int64) (ib : Bool) (dn : Int32) (rf : Int32) (mk : Int32) (th : Int32) (F : Nat) (p0 : Int32) (t1 : Nat) (p1 : Nat → Int64) (r : Int32) (V' : Nat → Int64) (dn' : Int32) (rf' : Int32) (h : p_X9_becomeOrNot F V ib dn rf p0 p1 = some (r, V', dn', rf')) : zMi l yX9_becomeOrNot wsX9_becomeOrNot 2 46 0 0 D (zT cJ cI cO cB) [.ref q, .int p0, .ref t1] (mW q v cJ V ib dn rf mk th ++ ([(t1, .inl (cJ, 121, .inr (.inl p1)))])) (mW q v cJ V' ib dn' rf' mk th ++ ([(t1, .inl (cJ, 121, .inr (.inl p1)))])) r := by
  intro sz
  delta zQi
  refine Met.ofW (cc := cX9_becomeOrNot) (maxL := 3) (ret := (some .int)) (by decide) rfl ?_
  intro p e s m args below meth c s₁ B hml hv
  obtain ⟨rfl, hsz, hP, hK, hD0⟩ := hv
  have hx := B.exec
  have hb := B.bytes
  have hr := B.returns
  have hts := atoms_spec (ws := wsX9_becomeOrNot) B.pre
  have hown : s.vm.findClass RX9 = some m.cls := findClass_of_methodNamed B.named
  have hlocks := B.notSynchronized
  subst hsz
  have hD := hD0.self (sz := s.heap.size)
  generalize hAe : va_A (mW q v cJ V ib dn rf mk th ++ ([(t1, .inl (cJ, 121, .inr (.inl p1)))])) s.heap.size = A at hD ⊢
  have hA : ∀ q : Nat, s.heap.size ≤ q → A q := fun q h => by rw [← hAe]; exact Or.inr h
  have hS : va_S A s.heap s.heap [] := va_S.rf
  have hl := lv_entry ([.ref q, .int p0, .ref t1]) (n := 3) (Nat.le_of_ble_eq_true rfl)
  rw [lg_entry_eq]
  generalize (lg_sl ([.ref q, .int p0, .ref t1]) ++ List.replicate (3 - (lg_sl ([.ref q, .int p0, .ref t1])).length) Slot.unset).toArray = ls at hl ⊢
  replace hl : lv_has ls 3 [(0, .ref q), (1, .int p0), (2, .ref t1)] := hl
  have kwX9 : ∀ w ∈ u_ws RX9 TX9 6, w ∈ wsX9_becomeOrNot := fun w h => List.mem_cons_of_mem _ (List.mem_append_right _ (List.mem_cons_of_mem _ (List.mem_append_right _ (List.mem_cons_of_mem _ (List.mem_append_right _ h)))))
  have kf_86 := hts (.fieldLink RX9 86 "DivisorworkModel" "refused" "I") (zmem 2 rfl)
  have kf_36 := hts (.fieldLink RX9 36 "DivisorworkModel" "isBeyond" "Z") (zmem 1 rfl)
  replace h : (if ¬ (z01 ib) = 0 then (some ((-9 : Int32), V, dn, (rf + (1 : Int32)))) else (zb3 (p_X9_become F V dn p0 p1) (fun r1 V_2 dn_3 => (some (r1, V_2, dn_3, rf))))) = some (r, V', dn', rf') := h
  obtain ⟨H, hHe⟩ : ∃ H, H = s.heap := ⟨_, rfl⟩
  rw [← hHe] at hP
  replace hS : va_S A s.heap H [] := by rw [hHe]; exact hS
  refine zheap hHe ?_
  refine lv_aload_n hx hb dX9_becomeOrNot_0 rfl (lv_at hl 0 rfl) ?_
  refine va_get (D := D) (ci := 9) (v := .int (z01 ib)) (C := RX9) (T := TX9) (N := 6) hx hb hts kwX9 hown hK hP 0 rfl rfl 1 (by decide) kf_36 (fun _ h9 => h9) rfl dX9_becomeOrNot_1 ?_
  refine lv_if_ne (tgt := 14) hx hb dX9_becomeOrNot_4 (by decide) (fun c4 => ?_) (fun c4 => ?_)
  · replace h := zif_t h c4
    refine lv_aload_n hx hb dX9_becomeOrNot_14 rfl (lv_at hl 0 rfl) ?_
    refine lv_dup hx hb dX9_becomeOrNot_15 rfl ?_
    refine va_get (D := D) (ci := 9) (v := .int rf) (C := RX9) (T := TX9) (N := 6) hx hb hts kwX9 hown hK hP 0 rfl rfl 3 (by decide) kf_86 (fun _ h9 => h9) rfl dX9_becomeOrNot_16 ?_
    refine lv_iconst (v := (1 : Int32)) hx hb dX9_becomeOrNot_19 (by decide) ?_
    refine lv_iadd hx hb dX9_becomeOrNot_20 ?_
    refine va_put (D := D) (ci := 9) (v := .int (rf + (1 : Int32))) (ty := .int) (C := RX9) (T := TX9) (N := 6) hx hb hts kwX9 tyX9 tyX9_ok nmX9 hown hK hP hD hS 0 rfl rfl 3 (by decide) kf_86 (fun _ h9 => h9) rfl rfl rfl rfl (Nat.le_of_ble_eq_true rfl) dX9_becomeOrNot_21 (fun H locs hP hD hS => ?_)
    replace hP : va_P D vwCl (mW q v cJ V ib dn (rf + (1 : Int32)) mk th ++ ([(t1, .inl (cJ, 121, .inr (.inl p1)))])) H := hP
    replace hD : va_D A (mW q v cJ V ib dn (rf + (1 : Int32)) mk th ++ ([(t1, .inl (cJ, 121, .inr (.inl p1)))])) := hD
    refine lv_bipush (v := (-9 : Int32)) hx hb dX9_becomeOrNot_24 (by decide) ?_
    have g0 := Option.some.inj h
    obtain ⟨h1, g1⟩ := Prod.mk.inj g0
    obtain ⟨h2, g2⟩ := Prod.mk.inj g1
    obtain ⟨h3, g3⟩ := Prod.mk.inj g2
    subst h1
    subst h2
    subst h3
    subst g3
    exact W.iret (v := (-9 : Int32)) hx hb hr (fun t ht hW => ⟨⟨(-9 : Int32), (), rfl, rfl, by rw [ht]; exact hP, va_K.moved hW.alike hK, hD⟩, hS.F ht⟩) hS.2.2 dX9_becomeOrNot_26
  · replace h := zif_fn h c4
    refine lv_aload_n hx hb dX9_becomeOrNot_7 rfl (lv_at hl 0 rfl) ?_
    refine lv_iload_n hx hb dX9_becomeOrNot_8 rfl (lv_at hl 1 rfl) ?_
    refine lv_aload_n hx hb dX9_becomeOrNot_9 rfl (lv_at hl 2 rfl) ?_
    obtain ⟨r1, V_2, dn_3, e4, h⟩ := zb3_some h
    refine zgoi (va_runV (As := [.int p0, .ref t1]) (rest := []) ⟨hx, hb, hml, hown, hts⟩ (c_X9_become l D q v cJ cI cO cB V ib dn rf mk th F p0 t1 p1 r1 V_2 dn_3 e4 H.size) (cwV 2 hts gX9_becomeOrNot_X9_become rfl rfl rfl hdV_X9_become ⟨Nat.le_of_ble_eq_true rfl, Nat.le_of_ble_eq_true rfl⟩) (zpreV (q0 := 0) (ci := 9) (T := TX9) (N := 6) hK hP hD rfl rfl [.int p0, .ref t1]) rfl rfl hl.1 rfl (lv_room (Nat.le_of_ble_eq_true rfl)) dX9_becomeOrNot_10 ⟨Nat.le_of_ble_eq_true rfl, Nat.le_of_ble_eq_true rfl⟩) (zfree hD hS hA) (zjW hD hS hA) hS (fun H locs hP hD hS => ?_)
    replace hP : va_P D vwCl (mW q v cJ V_2 ib dn_3 rf mk th ++ ([(t1, .inl (cJ, 121, .inr (.inl p1)))])) H := hP
    replace hD : va_D A (mW q v cJ V_2 ib dn_3 rf mk th ++ ([(t1, .inl (cJ, 121, .inr (.inl p1)))])) := hD
    have g0 := Option.some.inj h
    obtain ⟨h1, g1⟩ := Prod.mk.inj g0
    obtain ⟨h2, g2⟩ := Prod.mk.inj g1
    obtain ⟨h3, g3⟩ := Prod.mk.inj g2
    subst h1
    subst h2
    subst h3
    subst g3
    exact W.iret (v := r1) hx hb hr (fun t ht hW => ⟨⟨r1, (), rfl, rfl, by rw [ht]; exact hP, va_K.moved hW.alike hK, hD⟩, hS.F ht⟩) hS.2.2 dX9_becomeOrNot_13

noncomputable def p_X9_isOne (p0 : Int32) : Option Bool := (if p0 < 0 then (some false) else (if (4 : Int32) ≤ p0 then (some false) else (some true)))
theorem hdS_X9_isOne : yX9_isOne.cls ≠ "java/lang/invoke/MethodHandle" ∧ yX9_isOne.cls ≠ "java/lang/invoke/VarHandle" ∧ (parseMethodDescriptor yX9_isOne.desc).map (fun d => d.parameters.length) = some 1 := by decide +kernel
set_option maxHeartbeats 4000000 in
set_option maxRecDepth 100000 in
theorem c_X9_isOne (l : Launch) (D : va_G) (tys : List (ClassId × FieldType)) (p0 : Int32) (r : Bool) (h : p_X9_isOne p0 = some r) : zMi l yX9_isOne wsX9_isOne 0 0 0 0 D tys [.int p0] ([] : va_W) ([] : va_W) (z01 r) := by
  intro sz
  delta zQi
  refine Met.ofW (cc := cX9_isOne) (maxL := 1) (ret := (some .boolean)) (by decide) rfl ?_
  intro p e s m args below meth c s₁ B hml hv
  obtain ⟨rfl, hsz, hP, hK, hD0⟩ := hv
  have hx := B.exec
  have hb := B.bytes
  have hr := B.returns
  have hts := atoms_spec (ws := wsX9_isOne) B.pre
  have hown : s.vm.findClass RX9 = some m.cls := findClass_of_methodNamed B.named
  have hlocks := B.notSynchronized
  subst hsz
  have hD := hD0.self (sz := s.heap.size)
  generalize hAe : va_A ([] : va_W) s.heap.size = A at hD ⊢
  have hA : ∀ q : Nat, s.heap.size ≤ q → A q := fun q h => by rw [← hAe]; exact Or.inr h
  have hS : va_S A s.heap s.heap [] := va_S.rf
  have hl := lv_entry ([.int p0]) (n := 1) (Nat.le_of_ble_eq_true rfl)
  rw [lg_entry_eq]
  generalize (lg_sl ([.int p0]) ++ List.replicate (1 - (lg_sl ([.int p0])).length) Slot.unset).toArray = ls at hl ⊢
  replace hl : lv_has ls 1 [(0, .int p0)] := hl
  replace h : (if p0 < 0 then (some false) else (if (4 : Int32) ≤ p0 then (some false) else (some true))) = some r := h
  obtain ⟨H, hHe⟩ : ∃ H, H = s.heap := ⟨_, rfl⟩
  rw [← hHe] at hP
  replace hS : va_S A s.heap H [] := by rw [hHe]; exact hS
  refine zheap hHe ?_
  refine lv_iload_n hx hb dX9_isOne_0 rfl (lv_at hl 0 rfl) ?_
  refine lv_if_lt (tgt := 13) hx hb dX9_isOne_1 (by decide) (fun c1 => ?_) (fun c1 => ?_)
  · replace h := zif_t h c1
    refine lv_iconst (v := (0 : Int32)) hx hb dX9_isOne_13 (by decide) ?_
    have h1 := Option.some.inj h
    subst h1
    exact W.zret (v := (0 : Int32)) hx hb hr (z01_nar false) (fun t ht hW => ⟨⟨(0 : Int32), (), rfl, rfl, by rw [ht]; exact hP, va_K.moved hW.alike hK, hD⟩, hS.F ht⟩) hS.2.2 dX9_isOne_14
  · replace h := zif_f h c1
    refine lv_iload_n hx hb dX9_isOne_4 rfl (lv_at hl 0 rfl) ?_
    refine lv_iconst (v := (4 : Int32)) hx hb dX9_isOne_5 (by decide) ?_
    refine lv_icmp_ge (tgt := 13) hx hb dX9_isOne_6 (by decide) (fun c6 => ?_) (fun c6 => ?_)
    · replace h := zif_t h c6
      refine lv_iconst (v := (0 : Int32)) hx hb dX9_isOne_13 (by decide) ?_
      have h1 := Option.some.inj h
      subst h1
      exact W.zret (v := (0 : Int32)) hx hb hr (z01_nar false) (fun t ht hW => ⟨⟨(0 : Int32), (), rfl, rfl, by rw [ht]; exact hP, va_K.moved hW.alike hK, hD⟩, hS.F ht⟩) hS.2.2 dX9_isOne_14
    · replace h := zif_f h c6
      refine lv_iconst (v := (1 : Int32)) hx hb dX9_isOne_9 (by decide) ?_
      refine lv_goto (tgt := 14) hx hb dX9_isOne_10 (by decide) ?_
      have h1 := Option.some.inj h
      subst h1
      exact W.zret (v := (1 : Int32)) hx hb hr (z01_nar true) (fun t ht hW => ⟨⟨(1 : Int32), (), rfl, rfl, by rw [ht]; exact hP, va_K.moved hW.alike hK, hD⟩, hS.F ht⟩) hS.2.2 dX9_isOne_14

noncomputable def p_X9_isIn (p0 : Int32) (p1 : Int32) (p2 : Int32) : Option Bool := (if p0 < p1 then (some false) else (if p2 < p0 then (some false) else (some true)))
theorem hdS_X9_isIn : yX9_isIn.cls ≠ "java/lang/invoke/MethodHandle" ∧ yX9_isIn.cls ≠ "java/lang/invoke/VarHandle" ∧ (parseMethodDescriptor yX9_isIn.desc).map (fun d => d.parameters.length) = some 3 := by decide +kernel
set_option maxHeartbeats 4000000 in
set_option maxRecDepth 100000 in
theorem c_X9_isIn (l : Launch) (D : va_G) (tys : List (ClassId × FieldType)) (p0 : Int32) (p1 : Int32) (p2 : Int32) (r : Bool) (h : p_X9_isIn p0 p1 p2 = some r) : zMi l yX9_isIn wsX9_isIn 0 0 0 0 D tys [.int p0, .int p1, .int p2] ([] : va_W) ([] : va_W) (z01 r) := by
  intro sz
  delta zQi
  refine Met.ofW (cc := cX9_isIn) (maxL := 3) (ret := (some .boolean)) (by decide) rfl ?_
  intro p e s m args below meth c s₁ B hml hv
  obtain ⟨rfl, hsz, hP, hK, hD0⟩ := hv
  have hx := B.exec
  have hb := B.bytes
  have hr := B.returns
  have hts := atoms_spec (ws := wsX9_isIn) B.pre
  have hown : s.vm.findClass RX9 = some m.cls := findClass_of_methodNamed B.named
  have hlocks := B.notSynchronized
  subst hsz
  have hD := hD0.self (sz := s.heap.size)
  generalize hAe : va_A ([] : va_W) s.heap.size = A at hD ⊢
  have hA : ∀ q : Nat, s.heap.size ≤ q → A q := fun q h => by rw [← hAe]; exact Or.inr h
  have hS : va_S A s.heap s.heap [] := va_S.rf
  have hl := lv_entry ([.int p0, .int p1, .int p2]) (n := 3) (Nat.le_of_ble_eq_true rfl)
  rw [lg_entry_eq]
  generalize (lg_sl ([.int p0, .int p1, .int p2]) ++ List.replicate (3 - (lg_sl ([.int p0, .int p1, .int p2])).length) Slot.unset).toArray = ls at hl ⊢
  replace hl : lv_has ls 3 [(0, .int p0), (1, .int p1), (2, .int p2)] := hl
  replace h : (if p0 < p1 then (some false) else (if p2 < p0 then (some false) else (some true))) = some r := h
  obtain ⟨H, hHe⟩ : ∃ H, H = s.heap := ⟨_, rfl⟩
  rw [← hHe] at hP
  replace hS : va_S A s.heap H [] := by rw [hHe]; exact hS
  refine zheap hHe ?_
  refine lv_iload_n hx hb dX9_isIn_0 rfl (lv_at hl 0 rfl) ?_
  refine lv_iload_n hx hb dX9_isIn_1 rfl (lv_at hl 1 rfl) ?_
  refine lv_icmp_lt (tgt := 14) hx hb dX9_isIn_2 (by decide) (fun c2 => ?_) (fun c2 => ?_)
  · replace h := zif_t h c2
    refine lv_iconst (v := (0 : Int32)) hx hb dX9_isIn_14 (by decide) ?_
    have h1 := Option.some.inj h
    subst h1
    exact W.zret (v := (0 : Int32)) hx hb hr (z01_nar false) (fun t ht hW => ⟨⟨(0 : Int32), (), rfl, rfl, by rw [ht]; exact hP, va_K.moved hW.alike hK, hD⟩, hS.F ht⟩) hS.2.2 dX9_isIn_15
  · replace h := zif_f h c2
    refine lv_iload_n hx hb dX9_isIn_5 rfl (lv_at hl 0 rfl) ?_
    refine lv_iload_n hx hb dX9_isIn_6 rfl (lv_at hl 2 rfl) ?_
    refine lv_icmp_gt (tgt := 14) hx hb dX9_isIn_7 (by decide) (fun c7 => ?_) (fun c7 => ?_)
    · replace h := zif_t h c7
      refine lv_iconst (v := (0 : Int32)) hx hb dX9_isIn_14 (by decide) ?_
      have h1 := Option.some.inj h
      subst h1
      exact W.zret (v := (0 : Int32)) hx hb hr (z01_nar false) (fun t ht hW => ⟨⟨(0 : Int32), (), rfl, rfl, by rw [ht]; exact hP, va_K.moved hW.alike hK, hD⟩, hS.F ht⟩) hS.2.2 dX9_isIn_15
    · replace h := zif_f h c7
      refine lv_iconst (v := (1 : Int32)) hx hb dX9_isIn_10 (by decide) ?_
      refine lv_goto (tgt := 15) hx hb dX9_isIn_11 (by decide) ?_
      have h1 := Option.some.inj h
      subst h1
      exact W.zret (v := (1 : Int32)) hx hb hr (z01_nar true) (fun t ht hW => ⟨⟨(1 : Int32), (), rfl, rfl, by rw [ht]; exact hP, va_K.moved hW.alike hK, hD⟩, hS.F ht⟩) hS.2.2 dX9_isIn_15

noncomputable def p_X9_isThrown (p0 : Bool) (p1 : Bool) : Option (Bool × Int32) := (if ¬ (z01 p0) = 0 then (if ¬ (z01 p1) = 0 then (some (false, (0 : Int32))) else (some (true, (2 : Int32)))) else (some (true, (1 : Int32))))
theorem hdV_X9_isThrown : yX9_isThrown.cls = RX9 ∧ yX9_isThrown.cls ≠ "java/lang/invoke/MethodHandle" ∧ yX9_isThrown.cls ≠ "java/lang/invoke/VarHandle" ∧ (parseMethodDescriptor yX9_isThrown.desc).map (fun d => d.parameters.length) = some 2 := by decide +kernel
set_option maxHeartbeats 4000000 in
set_option maxRecDepth 100000 in
theorem c_X9_isThrown (l : Launch) (D : va_G) (q v : Nat) (cJ cI cO cB : ClassId) (V : Nat → Int64) (ib : Bool) (dn : Int32) (rf : Int32) (mk : Int32) (th : Int32) (p0 : Bool) (p1 : Bool) (r : Bool) (th' : Int32) (h : p_X9_isThrown p0 p1 = some (r, th')) : zMi l yX9_isThrown wsX9_isThrown 0 0 0 0 D (zT cJ cI cO cB) [.ref q, .int (z01 p0), .int (z01 p1)] (mW q v cJ V ib dn rf mk th) (mW q v cJ V ib dn rf mk th') (z01 r) := by
  intro sz
  delta zQi
  refine Met.ofW (cc := cX9_isThrown) (maxL := 3) (ret := (some .boolean)) (by decide) rfl ?_
  intro p e s m args below meth c s₁ B hml hv
  obtain ⟨rfl, hsz, hP, hK, hD0⟩ := hv
  have hx := B.exec
  have hb := B.bytes
  have hr := B.returns
  have hts := atoms_spec (ws := wsX9_isThrown) B.pre
  have hown : s.vm.findClass RX9 = some m.cls := findClass_of_methodNamed B.named
  have hlocks := B.notSynchronized
  subst hsz
  have hD := hD0.self (sz := s.heap.size)
  generalize hAe : va_A (mW q v cJ V ib dn rf mk th) s.heap.size = A at hD ⊢
  have hA : ∀ q : Nat, s.heap.size ≤ q → A q := fun q h => by rw [← hAe]; exact Or.inr h
  have hS : va_S A s.heap s.heap [] := va_S.rf
  have hl := lv_entry ([.ref q, .int (z01 p0), .int (z01 p1)]) (n := 3) (Nat.le_of_ble_eq_true rfl)
  rw [lg_entry_eq]
  generalize (lg_sl ([.ref q, .int (z01 p0), .int (z01 p1)]) ++ List.replicate (3 - (lg_sl ([.ref q, .int (z01 p0), .int (z01 p1)])).length) Slot.unset).toArray = ls at hl ⊢
  replace hl : lv_has ls 3 [(0, .ref q), (1, .int (z01 p0)), (2, .int (z01 p1))] := hl
  have kwX9 : ∀ w ∈ u_ws RX9 TX9 6, w ∈ wsX9_isThrown := fun w h => List.mem_cons_of_mem _ (List.mem_append_right _ h)
  have kf_13 := hts (.fieldLink RX9 13 "DivisorworkModel" "thrown" "I") (zmem 1 rfl)
  replace h : (if ¬ (z01 p0) = 0 then (if ¬ (z01 p1) = 0 then (some (false, (0 : Int32))) else (some (true, (2 : Int32)))) else (some (true, (1 : Int32)))) = some (r, th') := h
  obtain ⟨H, hHe⟩ : ∃ H, H = s.heap := ⟨_, rfl⟩
  rw [← hHe] at hP
  replace hS : va_S A s.heap H [] := by rw [hHe]; exact hS
  refine zheap hHe ?_
  refine lv_aload_n hx hb dX9_isThrown_0 rfl (lv_at hl 0 rfl) ?_
  refine lv_iload_n hx hb dX9_isThrown_1 rfl (lv_at hl 1 rfl) ?_
  refine lv_if_ne (tgt := 9) hx hb dX9_isThrown_2 (by decide) (fun c2 => ?_) (fun c2 => ?_)
  · replace h := zif_t h c2
    refine lv_iload_n hx hb dX9_isThrown_9 rfl (lv_at hl 2 rfl) ?_
    refine lv_if_ne (tgt := 17) hx hb dX9_isThrown_10 (by decide) (fun c10 => ?_) (fun c10 => ?_)
    · replace h := zif_t h c10
      refine lv_iconst (v := (0 : Int32)) hx hb dX9_isThrown_17 (by decide) ?_
      refine va_put (D := D) (ci := 9) (v := .int (0 : Int32)) (ty := .int) (C := RX9) (T := TX9) (N := 6) hx hb hts kwX9 tyX9 tyX9_ok nmX9 hown hK hP hD hS 0 rfl rfl 5 (by decide) kf_13 (fun _ h9 => h9) rfl rfl rfl rfl (Nat.le_of_ble_eq_true rfl) dX9_isThrown_18 (fun H locs hP hD hS => ?_)
      replace hP : va_P D vwCl (mW q v cJ V ib dn rf mk (0 : Int32)) H := hP
      replace hD : va_D A (mW q v cJ V ib dn rf mk (0 : Int32)) := hD
      refine lv_aload_n hx hb dX9_isThrown_21 rfl (lv_at hl 0 rfl) ?_
      refine va_get (D := D) (ci := 9) (v := .int (0 : Int32)) (C := RX9) (T := TX9) (N := 6) hx hb hts kwX9 hown hK hP 0 rfl rfl 5 (by decide) kf_13 (fun _ h9 => h9) rfl dX9_isThrown_22 ?_
      refine lv_if_le (tgt := 32) hx hb dX9_isThrown_25 (by decide) (fun _ => ?_) (fun c => absurd (by decide) c)
      refine lv_iconst (v := (0 : Int32)) hx hb dX9_isThrown_32 (by decide) ?_
      have g0 := Option.some.inj h
      obtain ⟨h1, g1⟩ := Prod.mk.inj g0
      subst h1
      subst g1
      exact W.zret (v := (0 : Int32)) hx hb hr (z01_nar false) (fun t ht hW => ⟨⟨(0 : Int32), (), rfl, rfl, by rw [ht]; exact hP, va_K.moved hW.alike hK, hD⟩, hS.F ht⟩) hS.2.2 dX9_isThrown_33
    · replace h := zif_fn h c10
      refine lv_iconst (v := (2 : Int32)) hx hb dX9_isThrown_13 (by decide) ?_
      refine lv_goto (tgt := 18) hx hb dX9_isThrown_14 (by decide) ?_
      refine va_put (D := D) (ci := 9) (v := .int (2 : Int32)) (ty := .int) (C := RX9) (T := TX9) (N := 6) hx hb hts kwX9 tyX9 tyX9_ok nmX9 hown hK hP hD hS 0 rfl rfl 5 (by decide) kf_13 (fun _ h9 => h9) rfl rfl rfl rfl (Nat.le_of_ble_eq_true rfl) dX9_isThrown_18 (fun H locs hP hD hS => ?_)
      replace hP : va_P D vwCl (mW q v cJ V ib dn rf mk (2 : Int32)) H := hP
      replace hD : va_D A (mW q v cJ V ib dn rf mk (2 : Int32)) := hD
      refine lv_aload_n hx hb dX9_isThrown_21 rfl (lv_at hl 0 rfl) ?_
      refine va_get (D := D) (ci := 9) (v := .int (2 : Int32)) (C := RX9) (T := TX9) (N := 6) hx hb hts kwX9 hown hK hP 0 rfl rfl 5 (by decide) kf_13 (fun _ h9 => h9) rfl dX9_isThrown_22 ?_
      refine lv_if_le (tgt := 32) hx hb dX9_isThrown_25 (by decide) (fun c => absurd c (by decide)) (fun _ => ?_)
      refine lv_iconst (v := (1 : Int32)) hx hb dX9_isThrown_28 (by decide) ?_
      refine lv_goto (tgt := 33) hx hb dX9_isThrown_29 (by decide) ?_
      have g0 := Option.some.inj h
      obtain ⟨h1, g1⟩ := Prod.mk.inj g0
      subst h1
      subst g1
      exact W.zret (v := (1 : Int32)) hx hb hr (z01_nar true) (fun t ht hW => ⟨⟨(1 : Int32), (), rfl, rfl, by rw [ht]; exact hP, va_K.moved hW.alike hK, hD⟩, hS.F ht⟩) hS.2.2 dX9_isThrown_33
  · replace h := zif_fn h c2
    refine lv_iconst (v := (1 : Int32)) hx hb dX9_isThrown_5 (by decide) ?_
    refine lv_goto (tgt := 18) hx hb dX9_isThrown_6 (by decide) ?_
    refine va_put (D := D) (ci := 9) (v := .int (1 : Int32)) (ty := .int) (C := RX9) (T := TX9) (N := 6) hx hb hts kwX9 tyX9 tyX9_ok nmX9 hown hK hP hD hS 0 rfl rfl 5 (by decide) kf_13 (fun _ h9 => h9) rfl rfl rfl rfl (Nat.le_of_ble_eq_true rfl) dX9_isThrown_18 (fun H locs hP hD hS => ?_)
    replace hP : va_P D vwCl (mW q v cJ V ib dn rf mk (1 : Int32)) H := hP
    replace hD : va_D A (mW q v cJ V ib dn rf mk (1 : Int32)) := hD
    refine lv_aload_n hx hb dX9_isThrown_21 rfl (lv_at hl 0 rfl) ?_
    refine va_get (D := D) (ci := 9) (v := .int (1 : Int32)) (C := RX9) (T := TX9) (N := 6) hx hb hts kwX9 hown hK hP 0 rfl rfl 5 (by decide) kf_13 (fun _ h9 => h9) rfl dX9_isThrown_22 ?_
    refine lv_if_le (tgt := 32) hx hb dX9_isThrown_25 (by decide) (fun c => absurd c (by decide)) (fun _ => ?_)
    refine lv_iconst (v := (1 : Int32)) hx hb dX9_isThrown_28 (by decide) ?_
    refine lv_goto (tgt := 33) hx hb dX9_isThrown_29 (by decide) ?_
    have g0 := Option.some.inj h
    obtain ⟨h1, g1⟩ := Prod.mk.inj g0
    subst h1
    subst g1
    exact W.zret (v := (1 : Int32)) hx hb hr (z01_nar true) (fun t ht hW => ⟨⟨(1 : Int32), (), rfl, rfl, by rw [ht]; exact hP, va_K.moved hW.alike hK, hD⟩, hS.F ht⟩) hS.2.2 dX9_isThrown_33

noncomputable def p_X9_isNo (p0 : Bool) : Option (Bool × Int32) := (if (z01 p0) = 0 then (some (true, (1 : Int32))) else (some (false, (0 : Int32))))
theorem hdV_X9_isNo : yX9_isNo.cls = RX9 ∧ yX9_isNo.cls ≠ "java/lang/invoke/MethodHandle" ∧ yX9_isNo.cls ≠ "java/lang/invoke/VarHandle" ∧ (parseMethodDescriptor yX9_isNo.desc).map (fun d => d.parameters.length) = some 1 := by decide +kernel
set_option maxHeartbeats 4000000 in
set_option maxRecDepth 100000 in
theorem c_X9_isNo (l : Launch) (D : va_G) (q v : Nat) (cJ cI cO cB : ClassId) (V : Nat → Int64) (ib : Bool) (dn : Int32) (rf : Int32) (mk : Int32) (th : Int32) (p0 : Bool) (r : Bool) (th' : Int32) (h : p_X9_isNo p0 = some (r, th')) : zMi l yX9_isNo wsX9_isNo 0 0 0 0 D (zT cJ cI cO cB) [.ref q, .int (z01 p0)] (mW q v cJ V ib dn rf mk th) (mW q v cJ V ib dn rf mk th') (z01 r) := by
  intro sz
  delta zQi
  refine Met.ofW (cc := cX9_isNo) (maxL := 2) (ret := (some .boolean)) (by decide) rfl ?_
  intro p e s m args below meth c s₁ B hml hv
  obtain ⟨rfl, hsz, hP, hK, hD0⟩ := hv
  have hx := B.exec
  have hb := B.bytes
  have hr := B.returns
  have hts := atoms_spec (ws := wsX9_isNo) B.pre
  have hown : s.vm.findClass RX9 = some m.cls := findClass_of_methodNamed B.named
  have hlocks := B.notSynchronized
  subst hsz
  have hD := hD0.self (sz := s.heap.size)
  generalize hAe : va_A (mW q v cJ V ib dn rf mk th) s.heap.size = A at hD ⊢
  have hA : ∀ q : Nat, s.heap.size ≤ q → A q := fun q h => by rw [← hAe]; exact Or.inr h
  have hS : va_S A s.heap s.heap [] := va_S.rf
  have hl := lv_entry ([.ref q, .int (z01 p0)]) (n := 2) (Nat.le_of_ble_eq_true rfl)
  rw [lg_entry_eq]
  generalize (lg_sl ([.ref q, .int (z01 p0)]) ++ List.replicate (2 - (lg_sl ([.ref q, .int (z01 p0)])).length) Slot.unset).toArray = ls at hl ⊢
  replace hl : lv_has ls 2 [(0, .ref q), (1, .int (z01 p0))] := hl
  have kwX9 : ∀ w ∈ u_ws RX9 TX9 6, w ∈ wsX9_isNo := fun w h => List.mem_cons_of_mem _ (List.mem_append_right _ h)
  have kf_13 := hts (.fieldLink RX9 13 "DivisorworkModel" "thrown" "I") (zmem 1 rfl)
  replace h : (if (z01 p0) = 0 then (some (true, (1 : Int32))) else (some (false, (0 : Int32)))) = some (r, th') := h
  obtain ⟨H, hHe⟩ : ∃ H, H = s.heap := ⟨_, rfl⟩
  rw [← hHe] at hP
  replace hS : va_S A s.heap H [] := by rw [hHe]; exact hS
  refine zheap hHe ?_
  refine lv_aload_n hx hb dX9_isNo_0 rfl (lv_at hl 0 rfl) ?_
  refine lv_iload_n hx hb dX9_isNo_1 rfl (lv_at hl 1 rfl) ?_
  refine lv_if_eq (tgt := 9) hx hb dX9_isNo_2 (by decide) (fun c2 => ?_) (fun c2 => ?_)
  · replace h := zif_t h c2
    refine lv_iconst (v := (1 : Int32)) hx hb dX9_isNo_9 (by decide) ?_
    refine va_put (D := D) (ci := 9) (v := .int (1 : Int32)) (ty := .int) (C := RX9) (T := TX9) (N := 6) hx hb hts kwX9 tyX9 tyX9_ok nmX9 hown hK hP hD hS 0 rfl rfl 5 (by decide) kf_13 (fun _ h9 => h9) rfl rfl rfl rfl (Nat.le_of_ble_eq_true rfl) dX9_isNo_10 (fun H locs hP hD hS => ?_)
    replace hP : va_P D vwCl (mW q v cJ V ib dn rf mk (1 : Int32)) H := hP
    replace hD : va_D A (mW q v cJ V ib dn rf mk (1 : Int32)) := hD
    refine lv_aload_n hx hb dX9_isNo_13 rfl (lv_at hl 0 rfl) ?_
    refine va_get (D := D) (ci := 9) (v := .int (1 : Int32)) (C := RX9) (T := TX9) (N := 6) hx hb hts kwX9 hown hK hP 0 rfl rfl 5 (by decide) kf_13 (fun _ h9 => h9) rfl dX9_isNo_14 ?_
    refine lv_if_le (tgt := 24) hx hb dX9_isNo_17 (by decide) (fun c => absurd c (by decide)) (fun _ => ?_)
    refine lv_iconst (v := (1 : Int32)) hx hb dX9_isNo_20 (by decide) ?_
    refine lv_goto (tgt := 25) hx hb dX9_isNo_21 (by decide) ?_
    have g0 := Option.some.inj h
    obtain ⟨h1, g1⟩ := Prod.mk.inj g0
    subst h1
    subst g1
    exact W.zret (v := (1 : Int32)) hx hb hr (z01_nar true) (fun t ht hW => ⟨⟨(1 : Int32), (), rfl, rfl, by rw [ht]; exact hP, va_K.moved hW.alike hK, hD⟩, hS.F ht⟩) hS.2.2 dX9_isNo_25
  · replace h := zif_f h c2
    refine lv_iconst (v := (0 : Int32)) hx hb dX9_isNo_5 (by decide) ?_
    refine lv_goto (tgt := 10) hx hb dX9_isNo_6 (by decide) ?_
    refine va_put (D := D) (ci := 9) (v := .int (0 : Int32)) (ty := .int) (C := RX9) (T := TX9) (N := 6) hx hb hts kwX9 tyX9 tyX9_ok nmX9 hown hK hP hD hS 0 rfl rfl 5 (by decide) kf_13 (fun _ h9 => h9) rfl rfl rfl rfl (Nat.le_of_ble_eq_true rfl) dX9_isNo_10 (fun H locs hP hD hS => ?_)
    replace hP : va_P D vwCl (mW q v cJ V ib dn rf mk (0 : Int32)) H := hP
    replace hD : va_D A (mW q v cJ V ib dn rf mk (0 : Int32)) := hD
    refine lv_aload_n hx hb dX9_isNo_13 rfl (lv_at hl 0 rfl) ?_
    refine va_get (D := D) (ci := 9) (v := .int (0 : Int32)) (C := RX9) (T := TX9) (N := 6) hx hb hts kwX9 hown hK hP 0 rfl rfl 5 (by decide) kf_13 (fun _ h9 => h9) rfl dX9_isNo_14 ?_
    refine lv_if_le (tgt := 24) hx hb dX9_isNo_17 (by decide) (fun _ => ?_) (fun c => absurd (by decide) c)
    refine lv_iconst (v := (0 : Int32)) hx hb dX9_isNo_24 (by decide) ?_
    have g0 := Option.some.inj h
    obtain ⟨h1, g1⟩ := Prod.mk.inj g0
    subst h1
    subst g1
    exact W.zret (v := (0 : Int32)) hx hb hr (z01_nar false) (fun t ht hW => ⟨⟨(0 : Int32), (), rfl, rfl, by rw [ht]; exact hP, va_K.moved hW.alike hK, hD⟩, hS.F ht⟩) hS.2.2 dX9_isNo_25

noncomputable def p_X9_know_L0 (F : Nat) (p1 : Int32) (k : Int32 → (Nat → Int64) → Option (Int32 × (Nat → Int64) × Int32 × Int32)) : Nat → Int32 → (Nat → Int64) → Option (Int32 × (Nat → Int64) × Int32 × Int32)
  | 0, _, _ => none
  | n + 1, v4_0, f0_0 => (if (120 : Int32) < v4_0 then (k v4_0 f0_0) else (zb1 (p_X9_known F p1 v4_0) (fun r13 => (zg (v4_0 < 0 ∨ 121 ≤ v4_0.toNatClampNeg) (p_X9_know_L0 F p1 k n (v4_0 + (1 : Int32)) (vp_updL f0_0 v4_0.toNatClampNeg r13))))))
noncomputable def p_X9_know (F : Nat) (V : Nat → Int64) (dn : Int32) (p0 : Int32) (p1 : Int32) : Option (Int32 × (Nat → Int64) × Int32 × Int32) := (zb1 (p_X9_isOne p0) (fun r1 => (zb1 (p_X9_isIn p1 (0 : Int32) (10 : Int32)) (fun r3 => (zb2 (p_X9_isThrown r1 r3) (fun r5 th_6 => (if (z01 r5) = 0 then (p_X9_know_L0 F p1 (fun v4_0 f0_0 => (zb3 (p_X9_become F V dn p0 f0_0) (fun r9 V_10 dn_11 => (some (r9, V_10, dn_11, th_6))))) F (1 : Int32) (fun _ => 0)) else (some ((0 : Int32), V, dn, th_6)))))))))
theorem hdV_X9_know : yX9_know.cls = RX9 ∧ yX9_know.cls ≠ "java/lang/invoke/MethodHandle" ∧ yX9_know.cls ≠ "java/lang/invoke/VarHandle" ∧ (parseMethodDescriptor yX9_know.desc).map (fun d => d.parameters.length) = some 2 := by decide +kernel
set_option maxHeartbeats 4000000 in
set_option maxRecDepth 100000 in
theorem c_X9_know (l : Launch) (D : va_G) (q v : Nat) (cJ cI cO cB : ClassId) (V : Nat → Int64) (ib : Bool) (dn : Int32) (rf : Int32) (mk : Int32) (th : Int32) (F : Nat) (p0 : Int32) (p1 : Int32) (r : Int32) (V' : Nat → Int64) (dn' : Int32) (th' : Int32) (h : p_X9_know F V dn p0 p1 = some (r, V', dn', th')) : zMi l yX9_know wsX9_know 4 86 1 121 D (zT cJ cI cO cB) [.ref q, .int p0, .int p1] (mW q v cJ V ib dn rf mk th) (mW q v cJ V' ib dn' rf mk th') r := by
  intro sz
  delta zQi
  refine Met.ofW (cc := cX9_know) (maxL := 5) (ret := (some .int)) (by decide) rfl ?_
  intro p e s m args below meth c s₁ B hml hv
  obtain ⟨rfl, hsz, hP, hK, hD0⟩ := hv
  have hx := B.exec
  have hb := B.bytes
  have hr := B.returns
  have hts := atoms_spec (ws := wsX9_know) B.pre
  have hown : s.vm.findClass RX9 = some m.cls := findClass_of_methodNamed B.named
  have hlocks := B.notSynchronized
  subst hsz
  have hD := hD0.self (sz := s.heap.size)
  generalize hAe : va_A (mW q v cJ V ib dn rf mk th) s.heap.size = A at hD ⊢
  have hA : ∀ q : Nat, s.heap.size ≤ q → A q := fun q h => by rw [← hAe]; exact Or.inr h
  have hS : va_S A s.heap s.heap [] := va_S.rf
  have hl := lv_entry ([.ref q, .int p0, .int p1]) (n := 5) (Nat.le_of_ble_eq_true rfl)
  rw [lg_entry_eq]
  generalize (lg_sl ([.ref q, .int p0, .int p1]) ++ List.replicate (5 - (lg_sl ([.ref q, .int p0, .int p1])).length) Slot.unset).toArray = ls at hl ⊢
  replace hl : lv_has ls 5 [(0, .ref q), (1, .int p0), (2, .int p1)] := hl
  have karr := hts (.arrayClass .long) (zmem 1 rfl)
  replace h : (zb1 (p_X9_isOne p0) (fun r1 => (zb1 (p_X9_isIn p1 (0 : Int32) (10 : Int32)) (fun r3 => (zb2 (p_X9_isThrown r1 r3) (fun r5 th_6 => (if (z01 r5) = 0 then (p_X9_know_L0 F p1 (fun v4_0 f0_0 => (zb3 (p_X9_become F V dn p0 f0_0) (fun r9 V_10 dn_11 => (some (r9, V_10, dn_11, th_6))))) F (1 : Int32) (fun _ => 0)) else (some ((0 : Int32), V, dn, th_6))))))))) = some (r, V', dn', th') := h
  refine zabs (fun G hG hGW => ?_)
  obtain ⟨H, hHe⟩ : ∃ H, H = s.heap := ⟨_, rfl⟩
  rw [← hHe] at hP
  replace hS : va_S A s.heap H [] := by rw [hHe]; exact hS
  refine zheap hHe ?_
  refine lv_aload_n hx hb dX9_know_0 rfl (lv_at hl 0 rfl) ?_
  refine lv_iload_n hx hb dX9_know_1 rfl (lv_at hl 1 rfl) ?_
  obtain ⟨r1, e2, h⟩ := zb1_some h
  refine zgoi (va_runS (As := [.int p0]) (rest := [.ref q]) ⟨hx, hb, hml, hown, hts⟩ (c_X9_isOne l D (zT cJ cI cO cB) p0 r1 e2 H.size) (va_cwS 1 hts gX9_know_X9_isOne rfl rfl rfl hdS_X9_isOne ⟨Nat.le_of_ble_eq_true rfl, Nat.le_of_ble_eq_true rfl⟩) (zpreS hK zP0 (zD0 (A := A)) [.int p0]) rfl rfl hl.1 rfl (lv_room (Nat.le_of_ble_eq_true rfl)) dX9_know_2 ⟨Nat.le_of_ble_eq_true rfl, Nat.le_of_ble_eq_true rfl⟩) (zf0 hS hA) (zjE hP hD) hS (fun H locs hP hD hS => ?_)
  refine lv_iload_n hx hb dX9_know_5 rfl (lv_at hl 2 rfl) ?_
  refine lv_iconst (v := (0 : Int32)) hx hb dX9_know_6 (by decide) ?_
  refine lv_bipush (v := (10 : Int32)) hx hb dX9_know_7 (by decide) ?_
  obtain ⟨r3, e4, h⟩ := zb1_some h
  refine zgoi (va_runS (As := [.int p1, .int (0 : Int32), .int (10 : Int32)]) (rest := [.int (z01 r1), .ref q]) ⟨hx, hb, hml, hown, hts⟩ (c_X9_isIn l D (zT cJ cI cO cB) p1 (0 : Int32) (10 : Int32) r3 e4 H.size) (va_cwS 3 hts gX9_know_X9_isIn rfl rfl rfl hdS_X9_isIn ⟨Nat.le_of_ble_eq_true rfl, Nat.le_of_ble_eq_true rfl⟩) (zpreS hK zP0 (zD0 (A := A)) [.int p1, .int (0 : Int32), .int (10 : Int32)]) rfl rfl hl.1 rfl (lv_room (Nat.le_of_ble_eq_true rfl)) dX9_know_9 ⟨Nat.le_of_ble_eq_true rfl, Nat.le_of_ble_eq_true rfl⟩) (zf0 hS hA) (zjE hP hD) hS (fun H locs hP hD hS => ?_)
  obtain ⟨r5, th_6, e7, h⟩ := zb2_some h
  refine zgoi (va_runV (As := [.int (z01 r1), .int (z01 r3)]) (rest := []) ⟨hx, hb, hml, hown, hts⟩ (c_X9_isThrown l D q v cJ cI cO cB V ib dn rf mk th r1 r3 r5 th_6 e7 H.size) (cwV 2 hts gX9_know_X9_isThrown rfl rfl rfl hdV_X9_isThrown ⟨Nat.le_of_ble_eq_true rfl, Nat.le_of_ble_eq_true rfl⟩) (zpreV (q0 := 0) (ci := 9) (T := TX9) (N := 6) hK hP hD rfl rfl [.int (z01 r1), .int (z01 r3)]) rfl rfl hl.1 rfl (lv_room (Nat.le_of_ble_eq_true rfl)) dX9_know_12 ⟨Nat.le_of_ble_eq_true rfl, Nat.le_of_ble_eq_true rfl⟩) (zfree hD hS hA) (zjW hD hS hA) hS (fun H locs hP hD hS => ?_)
  replace hP : va_P D vwCl (mW q v cJ V ib dn rf mk th_6) H := hP
  replace hD : va_D A (mW q v cJ V ib dn rf mk th_6) := hD
  refine lv_if_eq (tgt := 20) hx hb dX9_know_15 (by decide) (fun c15 => ?_) (fun c15 => ?_)
  · replace h := zif_t h c15
    refine lv_bipush (v := (121 : Int32)) hx hb dX9_know_20 (by decide) ?_
    refine znewJ (N := 121) hx hb karr hK hP hD hS hA (by decide) (by decide) (by decide) (Nat.le_of_ble_eq_true rfl) (Nat.le_of_ble_eq_true rfl) dX9_know_22 (fun w8 H hP hD hS => ?_)
    replace hP : va_P D vwCl (mW q v cJ V ib dn rf mk th_6 ++ ([(w8, .inl (cJ, 121, .inr (.inl (fun _ => 0))))])) H := hP
    replace hD : va_D A (mW q v cJ V ib dn rf mk th_6 ++ ([(w8, .inl (cJ, 121, .inr (.inl (fun _ => 0))))])) := hD
    refine lv_astore_n (lv' := [(3, .ref w8), (0, .ref q), (1, .int p0), (2, .int p1)]) hx hb dX9_know_24 rfl hl (by decide) rfl (fun ls hl => ?_)
    refine lv_iconst (v := (1 : Int32)) hx hb dX9_know_25 (by decide) ?_
    refine lv_istore (lv' := [(4, .int (1 : Int32)), (3, .ref w8), (0, .ref q), (1, .int p0), (2, .int p1)]) hx hb dX9_know_26 hl (by decide) rfl (fun ls hl => ?_)
    have X0 : ∀ (v4_0 : Int32) (f0_0 : Nat → Int64) (H : Heap) (locs : List Loc) (ls : Array Slot), va_P D vwCl (mW q v cJ V ib dn rf mk th_6 ++ ([(w8, .inl (cJ, 121, .inr (.inl f0_0)))])) H → va_D A (mW q v cJ V ib dn rf mk th_6 ++ ([(w8, .inl (cJ, 121, .inr (.inl f0_0)))])) → va_S A s.heap H locs → lv_has ls 5 [(0, .ref q), (1, .int p0), (2, .int p1), (3, .ref w8), (4, .int v4_0)] → (zb3 (p_X9_become F V dn p0 f0_0) (fun r9 V_10 dn_11 => (some (r9, V_10, dn_11, th_6)))) = some (r, V', dn', th') → G H locs 1 121 (F0 m 51 ls []) := by
      intro v4_0 f0_0 H locs ls hP hD hS hl h
      refine hG _ _ _ _ _ ?_
      refine lv_aload_n hx hb dX9_know_51 rfl (lv_at hl 0 rfl) ?_
      refine lv_iload_n hx hb dX9_know_52 rfl (lv_at hl 1 rfl) ?_
      refine lv_aload_n hx hb dX9_know_53 rfl (lv_at hl 3 rfl) ?_
      obtain ⟨r9, V_10, dn_11, e12, h⟩ := zb3_some h
      refine zgoi (va_runV (As := [.int p0, .ref w8]) (rest := []) ⟨hx, hb, hml, hown, hts⟩ (c_X9_become l D q v cJ cI cO cB V ib dn rf mk th_6 F p0 w8 f0_0 r9 V_10 dn_11 e12 H.size) (cwV 2 hts gX9_know_X9_become rfl rfl rfl hdV_X9_become ⟨Nat.le_of_ble_eq_true rfl, Nat.le_of_ble_eq_true rfl⟩) (zpreV (q0 := 0) (ci := 9) (T := TX9) (N := 6) hK hP hD rfl rfl [.int p0, .ref w8]) rfl rfl hl.1 rfl (lv_room (Nat.le_of_ble_eq_true rfl)) dX9_know_54 ⟨Nat.le_of_ble_eq_true rfl, Nat.le_of_ble_eq_true rfl⟩) (zfree hD hS hA) (zjW hD hS hA) hS (fun H locs hP hD hS => ?_)
      replace hP : va_P D vwCl (mW q v cJ V_10 ib dn_11 rf mk th_6 ++ ([(w8, .inl (cJ, 121, .inr (.inl f0_0)))])) H := hP
      replace hD : va_D A (mW q v cJ V_10 ib dn_11 rf mk th_6 ++ ([(w8, .inl (cJ, 121, .inr (.inl f0_0)))])) := hD
      have g0 := Option.some.inj h
      obtain ⟨h1, g1⟩ := Prod.mk.inj g0
      obtain ⟨h2, g2⟩ := Prod.mk.inj g1
      obtain ⟨h3, g3⟩ := Prod.mk.inj g2
      subst h1
      subst h2
      subst h3
      subst g3
      replace hP := zsub (wn := (mW q v cJ V_10 ib dn_11 rf mk th_6)) hP [0, 1] rfl
      replace hD := hD.sub (ws' := (mW q v cJ V_10 ib dn_11 rf mk th_6)) [0, 1] (by decide) rfl
      exact W.iret (v := r9) hx hb hr (fun t ht hW => ⟨⟨r9, (), rfl, rfl, by rw [ht]; exact hP, va_K.moved hW.alike hK, hD⟩, hS.F ht⟩) hS.2.2 dX9_know_57
    have L0 : ∀ (K0 : Int32 → (Nat → Int64) → Option (Int32 × (Nat → Int64) × Int32 × Int32)) (HX0 : ∀ (v4_0 : Int32) (f0_0 : Nat → Int64) (H : Heap) (locs : List Loc) (ls : Array Slot), va_P D vwCl (mW q v cJ V ib dn rf mk th_6 ++ ([(w8, .inl (cJ, 121, .inr (.inl f0_0)))])) H → va_D A (mW q v cJ V ib dn rf mk th_6 ++ ([(w8, .inl (cJ, 121, .inr (.inl f0_0)))])) → va_S A s.heap H locs → lv_has ls 5 [(0, .ref q), (1, .int p0), (2, .int p1), (3, .ref w8), (4, .int v4_0)] → K0 v4_0 f0_0 = some (r, V', dn', th') → G H locs 1 121 (F0 m 51 ls [])) (fu0 : Nat) (v4_0 : Int32) (f0_0 : Nat → Int64) (H : Heap) (locs : List Loc) (ls : Array Slot), va_P D vwCl (mW q v cJ V ib dn rf mk th_6 ++ ([(w8, .inl (cJ, 121, .inr (.inl f0_0)))])) H → va_D A (mW q v cJ V ib dn rf mk th_6 ++ ([(w8, .inl (cJ, 121, .inr (.inl f0_0)))])) → va_S A s.heap H locs → lv_has ls 5 [(0, .ref q), (1, .int p0), (2, .int p1), (3, .ref w8), (4, .int v4_0)] → p_X9_know_L0 F p1 K0 fu0 v4_0 f0_0 = some (r, V', dn', th') → G H locs 1 121 (F0 m 28 ls []) := by
      intro K0 HX0 fu0
      induction fu0 with
      | zero =>
        intro v4_0 f0_0 H locs ls hP hD hS hl h
        exact (zno h).elim
      | succ fu0 ih0 =>
        intro v4_0 f0_0 H locs ls hP hD hS hl h
        refine hG _ _ _ _ _ ?_
        unfold p_X9_know_L0 at h
        refine lv_iload hx hb dX9_know_28 (lv_at hl 4 rfl) ?_
        refine lv_bipush (v := (120 : Int32)) hx hb dX9_know_30 (by decide) ?_
        refine lv_icmp_gt (tgt := 51) hx hb dX9_know_32 (by decide) (fun c32 => ?_) (fun c32 => ?_)
        · replace h := zif_t h c32
          exact hGW _ _ _ _ _ (HX0 v4_0 f0_0 _ _ ls hP hD hS (lv_sub hl [0, 1, 2, 3, 4] rfl) h)
        · replace h := zif_f h c32
          refine lv_aload_n hx hb dX9_know_35 rfl (lv_at hl 3 rfl) ?_
          refine lv_iload hx hb dX9_know_36 (lv_at hl 4 rfl) ?_
          refine lv_iload_n hx hb dX9_know_38 rfl (lv_at hl 2 rfl) ?_
          refine lv_iload hx hb dX9_know_39 (lv_at hl 4 rfl) ?_
          obtain ⟨r13, e14, h⟩ := zb1_some h
          refine zgol (va_runS (As := [.int p1, .int v4_0]) (rest := [.int v4_0, .ref w8]) ⟨hx, hb, hml, hown, hts⟩ (c_X9_known l D (zT cJ cI cO cB) F p1 v4_0 r13 e14 H.size) (va_cwS 2 hts gX9_know_X9_known rfl rfl rfl hdS_X9_known ⟨Nat.le_of_ble_eq_true rfl, Nat.le_of_ble_eq_true rfl⟩) (zpreS hK zP0 (zD0 (A := A)) [.int p1, .int v4_0]) rfl rfl hl.1 rfl (lv_room (Nat.le_of_ble_eq_true rfl)) dX9_know_41 ⟨Nat.le_of_ble_eq_true rfl, Nat.le_of_ble_eq_true rfl⟩) (zf0 hS hA) (zjE hP hD) hS (fun H locs hP hD hS => ?_)
          obtain ⟨z44, h⟩ := zg_some h
          refine va_last hx hb hK hP hD hS 2 0 rfl rfl z44 dX9_know_44 (fun H locs hP hD hS => ?_)
          replace hP : va_P D vwCl (mW q v cJ V ib dn rf mk th_6 ++ ([(w8, .inl (cJ, 121, .inr (.inl (vp_updL f0_0 v4_0.toNatClampNeg r13))))])) H := hP
          replace hD : va_D A (mW q v cJ V ib dn rf mk th_6 ++ ([(w8, .inl (cJ, 121, .inr (.inl (vp_updL f0_0 v4_0.toNatClampNeg r13))))])) := hD
          refine lv_iinc (v := (v4_0 + (1 : Int32))) (lv' := [(4, .int (v4_0 + (1 : Int32))), (0, .ref q), (1, .int p0), (2, .int p1), (3, .ref w8)]) hx hb dX9_know_45 hl (k := 4) rfl rfl (by decide) rfl (fun ls hl => ?_)
          refine lv_goto (tgt := 28) hx hb dX9_know_48 (by decide) ?_
          exact hGW _ _ _ _ _ (ih0 (v4_0 + (1 : Int32)) (vp_updL f0_0 v4_0.toNatClampNeg r13) _ _ ls hP hD hS (lv_sub hl [1, 2, 3, 4, 0] rfl) h)
    exact hGW _ _ _ _ _ (L0 _ X0 F (1 : Int32) (fun _ => 0) _ _ ls hP hD hS (lv_sub hl [2, 3, 4, 1, 0] rfl) h)
  · replace h := zif_f h c15
    refine lv_iconst (v := (0 : Int32)) hx hb dX9_know_18 (by decide) ?_
    have g0 := Option.some.inj h
    obtain ⟨h1, g1⟩ := Prod.mk.inj g0
    obtain ⟨h2, g2⟩ := Prod.mk.inj g1
    obtain ⟨h3, g3⟩ := Prod.mk.inj g2
    subst h1
    subst h2
    subst h3
    subst g3
    refine W.widen (k := 1) (n := 121) (by decide) (by decide) ?_
    exact W.iret (v := (0 : Int32)) hx hb hr (fun t ht hW => ⟨⟨(0 : Int32), (), rfl, rfl, by rw [ht]; exact hP, va_K.moved hW.alike hK, hD⟩, hS.F ht⟩) hS.2.2 dX9_know_19

noncomputable def p_X9_putAt (V : Nat → Int64) (dn : Int32) (p0 : Int32) (p1 : Int32) (p2 : Int64) : Option (Int32 × (Nat → Int64) × Int32 × Int32) := (zb1 (p_X9_isOne p0) (fun r1 => (zb1 (p_X9_isIn p1 (1 : Int32) (120 : Int32)) (fun r3 => (zb2 (p_X9_isThrown r1 r3) (fun r5 th_6 => (if (z01 r5) = 0 then (zb1 (p_X9_at V p0 p1) (fun r8 => (zlt (fun (s0j0 : Bool) => (zg ((((121 : Int32) * p0) + p1) < 0 ∨ 484 ≤ (((121 : Int32) * p0) + p1).toNatClampNeg) (some ((z01 s0j0), (vp_updL V (((121 : Int32) * p0) + p1).toNatClampNeg p2), (dn + (1 : Int32)), th_6)))) (fun jf0 => (if ¬ (lg_cmp r8 p2) = 0 then (jf0 true) else (jf0 false)))))) else (some ((0 : Int32), V, dn, th_6)))))))))
theorem hdV_X9_putAt : yX9_putAt.cls = RX9 ∧ yX9_putAt.cls ≠ "java/lang/invoke/MethodHandle" ∧ yX9_putAt.cls ≠ "java/lang/invoke/VarHandle" ∧ (parseMethodDescriptor yX9_putAt.desc).map (fun d => d.parameters.length) = some 3 := by decide +kernel
set_option maxHeartbeats 4000000 in
set_option maxRecDepth 100000 in
theorem c_X9_putAt (l : Launch) (D : va_G) (q v : Nat) (cJ cI cO cB : ClassId) (V : Nat → Int64) (ib : Bool) (dn : Int32) (rf : Int32) (mk : Int32) (th : Int32) (p0 : Int32) (p1 : Int32) (p2 : Int64) (r : Int32) (V' : Nat → Int64) (dn' : Int32) (th' : Int32) (h : p_X9_putAt V dn p0 p1 p2 = some (r, V', dn', th')) : zMi l yX9_putAt wsX9_putAt 1 22 0 0 D (zT cJ cI cO cB) [.ref q, .int p0, .int p1, .long p2] (mW q v cJ V ib dn rf mk th) (mW q v cJ V' ib dn' rf mk th') r := by
  intro sz
  delta zQi
  refine Met.ofW (cc := cX9_putAt) (maxL := 6) (ret := (some .int)) (by decide) rfl ?_
  intro p e s m args below meth c s₁ B hml hv
  obtain ⟨rfl, hsz, hP, hK, hD0⟩ := hv
  have hx := B.exec
  have hb := B.bytes
  have hr := B.returns
  have hts := atoms_spec (ws := wsX9_putAt) B.pre
  have hown : s.vm.findClass RX9 = some m.cls := findClass_of_methodNamed B.named
  have hlocks := B.notSynchronized
  subst hsz
  have hD := hD0.self (sz := s.heap.size)
  generalize hAe : va_A (mW q v cJ V ib dn rf mk th) s.heap.size = A at hD ⊢
  have hA : ∀ q : Nat, s.heap.size ≤ q → A q := fun q h => by rw [← hAe]; exact Or.inr h
  have hS : va_S A s.heap s.heap [] := va_S.rf
  have hl := lv_entry ([.ref q, .int p0, .int p1, .long p2]) (n := 6) (Nat.le_of_ble_eq_true rfl)
  rw [lg_entry_eq]
  generalize (lg_sl ([.ref q, .int p0, .int p1, .long p2]) ++ List.replicate (6 - (lg_sl ([.ref q, .int p0, .int p1, .long p2])).length) Slot.unset).toArray = ls at hl ⊢
  replace hl : lv_has ls 6 [(0, .ref q), (1, .int p0), (2, .int p1), (3, .long p2)] := hl
  have kwX9 : ∀ w ∈ u_ws RX9 TX9 6, w ∈ wsX9_putAt := fun w h => List.mem_cons_of_mem _ (List.mem_append_left _ (List.mem_append_right _ (List.mem_cons_of_mem _ (List.mem_append_right _ h))))
  have kf_79 := hts (.fieldLink RX9 79 "DivisorworkModel" "done" "I") (zmem 1 rfl)
  have kf_9 := hts (.fieldLink RX9 9 "DivisorworkModel" "values" "[J") (List.mem_cons_of_mem _ (List.mem_append_right _ (zmem 1 rfl)))
  replace h : (zb1 (p_X9_isOne p0) (fun r1 => (zb1 (p_X9_isIn p1 (1 : Int32) (120 : Int32)) (fun r3 => (zb2 (p_X9_isThrown r1 r3) (fun r5 th_6 => (if (z01 r5) = 0 then (zb1 (p_X9_at V p0 p1) (fun r8 => (zlt (fun (s0j0 : Bool) => (zg ((((121 : Int32) * p0) + p1) < 0 ∨ 484 ≤ (((121 : Int32) * p0) + p1).toNatClampNeg) (some ((z01 s0j0), (vp_updL V (((121 : Int32) * p0) + p1).toNatClampNeg p2), (dn + (1 : Int32)), th_6)))) (fun jf0 => (if ¬ (lg_cmp r8 p2) = 0 then (jf0 true) else (jf0 false)))))) else (some ((0 : Int32), V, dn, th_6))))))))) = some (r, V', dn', th') := h
  refine zabs (fun G hG hGW => ?_)
  obtain ⟨H, hHe⟩ : ∃ H, H = s.heap := ⟨_, rfl⟩
  rw [← hHe] at hP
  replace hS : va_S A s.heap H [] := by rw [hHe]; exact hS
  refine zheap hHe ?_
  refine lv_aload_n hx hb dX9_putAt_0 rfl (lv_at hl 0 rfl) ?_
  refine lv_iload_n hx hb dX9_putAt_1 rfl (lv_at hl 1 rfl) ?_
  obtain ⟨r1, e2, h⟩ := zb1_some h
  refine zgoi (va_runS (As := [.int p0]) (rest := [.ref q]) ⟨hx, hb, hml, hown, hts⟩ (c_X9_isOne l D (zT cJ cI cO cB) p0 r1 e2 H.size) (va_cwS 1 hts gX9_putAt_X9_isOne rfl rfl rfl hdS_X9_isOne ⟨Nat.le_of_ble_eq_true rfl, Nat.le_of_ble_eq_true rfl⟩) (zpreS hK zP0 (zD0 (A := A)) [.int p0]) rfl rfl hl.1 rfl (lv_room (Nat.le_of_ble_eq_true rfl)) dX9_putAt_2 ⟨Nat.le_of_ble_eq_true rfl, Nat.le_of_ble_eq_true rfl⟩) (zf0 hS hA) (zjE hP hD) hS (fun H locs hP hD hS => ?_)
  refine lv_iload_n hx hb dX9_putAt_5 rfl (lv_at hl 2 rfl) ?_
  refine lv_iconst (v := (1 : Int32)) hx hb dX9_putAt_6 (by decide) ?_
  refine lv_bipush (v := (120 : Int32)) hx hb dX9_putAt_7 (by decide) ?_
  obtain ⟨r3, e4, h⟩ := zb1_some h
  refine zgoi (va_runS (As := [.int p1, .int (1 : Int32), .int (120 : Int32)]) (rest := [.int (z01 r1), .ref q]) ⟨hx, hb, hml, hown, hts⟩ (c_X9_isIn l D (zT cJ cI cO cB) p1 (1 : Int32) (120 : Int32) r3 e4 H.size) (va_cwS 3 hts gX9_putAt_X9_isIn rfl rfl rfl hdS_X9_isIn ⟨Nat.le_of_ble_eq_true rfl, Nat.le_of_ble_eq_true rfl⟩) (zpreS hK zP0 (zD0 (A := A)) [.int p1, .int (1 : Int32), .int (120 : Int32)]) rfl rfl hl.1 rfl (lv_room (Nat.le_of_ble_eq_true rfl)) dX9_putAt_9 ⟨Nat.le_of_ble_eq_true rfl, Nat.le_of_ble_eq_true rfl⟩) (zf0 hS hA) (zjE hP hD) hS (fun H locs hP hD hS => ?_)
  obtain ⟨r5, th_6, e7, h⟩ := zb2_some h
  refine zgoi (va_runV (As := [.int (z01 r1), .int (z01 r3)]) (rest := []) ⟨hx, hb, hml, hown, hts⟩ (c_X9_isThrown l D q v cJ cI cO cB V ib dn rf mk th r1 r3 r5 th_6 e7 H.size) (cwV 2 hts gX9_putAt_X9_isThrown rfl rfl rfl hdV_X9_isThrown ⟨Nat.le_of_ble_eq_true rfl, Nat.le_of_ble_eq_true rfl⟩) (zpreV (q0 := 0) (ci := 9) (T := TX9) (N := 6) hK hP hD rfl rfl [.int (z01 r1), .int (z01 r3)]) rfl rfl hl.1 rfl (lv_room (Nat.le_of_ble_eq_true rfl)) dX9_putAt_12 ⟨Nat.le_of_ble_eq_true rfl, Nat.le_of_ble_eq_true rfl⟩) (zfree hD hS hA) (zjW hD hS hA) hS (fun H locs hP hD hS => ?_)
  replace hP : va_P D vwCl (mW q v cJ V ib dn rf mk th_6) H := hP
  replace hD : va_D A (mW q v cJ V ib dn rf mk th_6) := hD
  refine lv_if_eq (tgt := 20) hx hb dX9_putAt_15 (by decide) (fun c15 => ?_) (fun c15 => ?_)
  · replace h := zif_t h c15
    refine lv_aload_n hx hb dX9_putAt_20 rfl (lv_at hl 0 rfl) ?_
    refine lv_iload_n hx hb dX9_putAt_21 rfl (lv_at hl 1 rfl) ?_
    refine lv_iload_n hx hb dX9_putAt_22 rfl (lv_at hl 2 rfl) ?_
    obtain ⟨r8, e9, h⟩ := zb1_some h
    refine zgol (va_runV (As := [.int p0, .int p1]) (rest := []) ⟨hx, hb, hml, hown, hts⟩ (c_X9_at l D q v cJ cI cO cB V ib dn rf mk th_6 p0 p1 r8 e9 H.size) (cwV 2 hts gX9_putAt_X9_at rfl rfl rfl hdV_X9_at ⟨Nat.le_of_ble_eq_true rfl, Nat.le_of_ble_eq_true rfl⟩) (zpreV (q0 := 0) (ci := 9) (T := TX9) (N := 6) hK hP hD rfl rfl [.int p0, .int p1]) rfl rfl hl.1 rfl (lv_room (Nat.le_of_ble_eq_true rfl)) dX9_putAt_23 ⟨Nat.le_of_ble_eq_true rfl, Nat.le_of_ble_eq_true rfl⟩) (zfree hD hS hA) (zjW hD hS hA) hS (fun H locs hP hD hS => ?_)
    replace hP : va_P D vwCl (mW q v cJ V ib dn rf mk th_6) H := hP
    replace hD : va_D A (mW q v cJ V ib dn rf mk th_6) := hD
    refine lv_lload_n hx hb dX9_putAt_26 rfl (lv_at hl 3 rfl) ?_
    refine W.lcmp hx hb dX9_putAt_27 ?_
    have J0 : ∀ (s0j0 : Bool) (H : Heap) (locs : List Loc) (ls : Array Slot), va_P D vwCl (mW q v cJ V ib dn rf mk th_6) H → va_D A (mW q v cJ V ib dn rf mk th_6) → va_S A s.heap H locs → lv_has ls 6 [(0, .ref q), (1, .int p0), (2, .int p1), (3, .long p2)] → (zg ((((121 : Int32) * p0) + p1) < 0 ∨ 484 ≤ (((121 : Int32) * p0) + p1).toNatClampNeg) (some ((z01 s0j0), (vp_updL V (((121 : Int32) * p0) + p1).toNatClampNeg p2), (dn + (1 : Int32)), th_6))) = some (r, V', dn', th') → G H locs 0 0 (F0 m 36 ls [.int (z01 s0j0)]) := by
      intro s0j0 H locs ls hP hD hS hl h
      refine hG _ _ _ _ _ ?_
      refine lv_istore (lv' := [(5, .int (z01 s0j0)), (0, .ref q), (1, .int p0), (2, .int p1), (3, .long p2)]) hx hb dX9_putAt_36 hl (by decide) rfl (fun ls hl => ?_)
      refine lv_aload_n hx hb dX9_putAt_38 rfl (lv_at hl 1 rfl) ?_
      refine va_get (D := D) (ci := 9) (v := .ref v) (C := RX9) (T := TX9) (N := 6) hx hb hts kwX9 hown hK hP 0 rfl rfl 0 (by decide) kf_9 (fun _ h9 => h9) rfl dX9_putAt_39 ?_
      refine lv_bipush (v := (121 : Int32)) hx hb dX9_putAt_42 (by decide) ?_
      refine lv_iload_n hx hb dX9_putAt_44 rfl (lv_at hl 2 rfl) ?_
      refine lv_imul hx hb dX9_putAt_45 ?_
      refine lv_iload_n hx hb dX9_putAt_46 rfl (lv_at hl 3 rfl) ?_
      refine lv_iadd hx hb dX9_putAt_47 ?_
      refine lv_lload_n hx hb dX9_putAt_48 rfl (lv_at hl 4 rfl) ?_
      obtain ⟨z49, h⟩ := zg_some h
      refine va_last hx hb hK hP hD hS 1 0 rfl rfl z49 dX9_putAt_49 (fun H locs hP hD hS => ?_)
      replace hP : va_P D vwCl (mW q v cJ (vp_updL V (((121 : Int32) * p0) + p1).toNatClampNeg p2) ib dn rf mk th_6) H := hP
      replace hD : va_D A (mW q v cJ (vp_updL V (((121 : Int32) * p0) + p1).toNatClampNeg p2) ib dn rf mk th_6) := hD
      refine lv_aload_n hx hb dX9_putAt_50 rfl (lv_at hl 1 rfl) ?_
      refine lv_dup hx hb dX9_putAt_51 rfl ?_
      refine va_get (D := D) (ci := 9) (v := .int dn) (C := RX9) (T := TX9) (N := 6) hx hb hts kwX9 hown hK hP 0 rfl rfl 2 (by decide) kf_79 (fun _ h9 => h9) rfl dX9_putAt_52 ?_
      refine lv_iconst (v := (1 : Int32)) hx hb dX9_putAt_55 (by decide) ?_
      refine lv_iadd hx hb dX9_putAt_56 ?_
      refine va_put (D := D) (ci := 9) (v := .int (dn + (1 : Int32))) (ty := .int) (C := RX9) (T := TX9) (N := 6) hx hb hts kwX9 tyX9 tyX9_ok nmX9 hown hK hP hD hS 0 rfl rfl 2 (by decide) kf_79 (fun _ h9 => h9) rfl rfl rfl rfl (Nat.le_of_ble_eq_true rfl) dX9_putAt_57 (fun H locs hP hD hS => ?_)
      replace hP : va_P D vwCl (mW q v cJ (vp_updL V (((121 : Int32) * p0) + p1).toNatClampNeg p2) ib (dn + (1 : Int32)) rf mk th_6) H := hP
      replace hD : va_D A (mW q v cJ (vp_updL V (((121 : Int32) * p0) + p1).toNatClampNeg p2) ib (dn + (1 : Int32)) rf mk th_6) := hD
      refine lv_iload hx hb dX9_putAt_60 (lv_at hl 0 rfl) ?_
      have g0 := Option.some.inj h
      obtain ⟨h1, g1⟩ := Prod.mk.inj g0
      obtain ⟨h2, g2⟩ := Prod.mk.inj g1
      obtain ⟨h3, g3⟩ := Prod.mk.inj g2
      subst h1
      subst h2
      subst h3
      subst g3
      exact W.iret (v := (z01 s0j0)) hx hb hr (fun t ht hW => ⟨⟨(z01 s0j0), (), rfl, rfl, by rw [ht]; exact hP, va_K.moved hW.alike hK, hD⟩, hS.F ht⟩) hS.2.2 dX9_putAt_62
    replace h := zlt_h h
    refine lv_if_ne (tgt := 35) hx hb dX9_putAt_28 (by decide) (fun c28 => ?_) (fun c28 => ?_)
    · replace h := zif_t h c28
      refine lv_iconst (v := (1 : Int32)) hx hb dX9_putAt_35 (by decide) ?_
      exact hGW _ _ _ _ _ (J0 true _ _ ls hP hD hS (lv_sub hl [0, 1, 2, 3] rfl) h)
    · replace h := zif_fn h c28
      refine lv_iconst (v := (0 : Int32)) hx hb dX9_putAt_31 (by decide) ?_
      refine lv_goto (tgt := 36) hx hb dX9_putAt_32 (by decide) ?_
      exact hGW _ _ _ _ _ (J0 false _ _ ls hP hD hS (lv_sub hl [0, 1, 2, 3] rfl) h)
  · replace h := zif_f h c15
    refine lv_iconst (v := (0 : Int32)) hx hb dX9_putAt_18 (by decide) ?_
    have g0 := Option.some.inj h
    obtain ⟨h1, g1⟩ := Prod.mk.inj g0
    obtain ⟨h2, g2⟩ := Prod.mk.inj g1
    obtain ⟨h3, g3⟩ := Prod.mk.inj g2
    subst h1
    subst h2
    subst h3
    subst g3
    exact W.iret (v := (0 : Int32)) hx hb hr (fun t ht hW => ⟨⟨(0 : Int32), (), rfl, rfl, by rw [ht]; exact hP, va_K.moved hW.alike hK, hD⟩, hS.F ht⟩) hS.2.2 dX9_putAt_19

noncomputable def p_X9_put (V : Nat → Int64) (dn : Int32) (p0 : Int32) (p1 : Int32) (p2 : Int32) : Option (Int32 × (Nat → Int64) × Int32 × Int32) := (zb4 (p_X9_putAt V dn p0 p1 (p2.toInt64)) (fun r1 V_2 dn_3 th_4 => (some (r1, V_2, dn_3, th_4))))
theorem hdV_X9_put : yX9_put.cls = RX9 ∧ yX9_put.cls ≠ "java/lang/invoke/MethodHandle" ∧ yX9_put.cls ≠ "java/lang/invoke/VarHandle" ∧ (parseMethodDescriptor yX9_put.desc).map (fun d => d.parameters.length) = some 3 := by decide +kernel
set_option maxHeartbeats 4000000 in
set_option maxRecDepth 100000 in
theorem c_X9_put (l : Launch) (D : va_G) (q v : Nat) (cJ cI cO cB : ClassId) (V : Nat → Int64) (ib : Bool) (dn : Int32) (rf : Int32) (mk : Int32) (th : Int32) (p0 : Int32) (p1 : Int32) (p2 : Int32) (r : Int32) (V' : Nat → Int64) (dn' : Int32) (th' : Int32) (h : p_X9_put V dn p0 p1 p2 = some (r, V', dn', th')) : zMi l yX9_put wsX9_put 2 47 0 0 D (zT cJ cI cO cB) [.ref q, .int p0, .int p1, .int p2] (mW q v cJ V ib dn rf mk th) (mW q v cJ V' ib dn' rf mk th') r := by
  intro sz
  delta zQi
  refine Met.ofW (cc := cX9_put) (maxL := 4) (ret := (some .int)) (by decide) rfl ?_
  intro p e s m args below meth c s₁ B hml hv
  obtain ⟨rfl, hsz, hP, hK, hD0⟩ := hv
  have hx := B.exec
  have hb := B.bytes
  have hr := B.returns
  have hts := atoms_spec (ws := wsX9_put) B.pre
  have hown : s.vm.findClass RX9 = some m.cls := findClass_of_methodNamed B.named
  have hlocks := B.notSynchronized
  subst hsz
  have hD := hD0.self (sz := s.heap.size)
  generalize hAe : va_A (mW q v cJ V ib dn rf mk th) s.heap.size = A at hD ⊢
  have hA : ∀ q : Nat, s.heap.size ≤ q → A q := fun q h => by rw [← hAe]; exact Or.inr h
  have hS : va_S A s.heap s.heap [] := va_S.rf
  have hl := lv_entry ([.ref q, .int p0, .int p1, .int p2]) (n := 4) (Nat.le_of_ble_eq_true rfl)
  rw [lg_entry_eq]
  generalize (lg_sl ([.ref q, .int p0, .int p1, .int p2]) ++ List.replicate (4 - (lg_sl ([.ref q, .int p0, .int p1, .int p2])).length) Slot.unset).toArray = ls at hl ⊢
  replace hl : lv_has ls 4 [(0, .ref q), (1, .int p0), (2, .int p1), (3, .int p2)] := hl
  replace h : (zb4 (p_X9_putAt V dn p0 p1 (p2.toInt64)) (fun r1 V_2 dn_3 th_4 => (some (r1, V_2, dn_3, th_4)))) = some (r, V', dn', th') := h
  obtain ⟨H, hHe⟩ : ∃ H, H = s.heap := ⟨_, rfl⟩
  rw [← hHe] at hP
  replace hS : va_S A s.heap H [] := by rw [hHe]; exact hS
  refine zheap hHe ?_
  refine lv_aload_n hx hb dX9_put_0 rfl (lv_at hl 0 rfl) ?_
  refine lv_iload_n hx hb dX9_put_1 rfl (lv_at hl 1 rfl) ?_
  refine lv_iload_n hx hb dX9_put_2 rfl (lv_at hl 2 rfl) ?_
  refine lv_iload_n hx hb dX9_put_3 rfl (lv_at hl 3 rfl) ?_
  refine lv_i2l (v := p2.toInt64) hx hb dX9_put_4 rfl ?_
  obtain ⟨r1, V_2, dn_3, th_4, e5, h⟩ := zb4_some h
  refine zgoi (va_runV (As := [.int p0, .int p1, .long (p2.toInt64)]) (rest := []) ⟨hx, hb, hml, hown, hts⟩ (c_X9_putAt l D q v cJ cI cO cB V ib dn rf mk th p0 p1 (p2.toInt64) r1 V_2 dn_3 th_4 e5 H.size) (cwV 3 hts gX9_put_X9_putAt rfl rfl rfl hdV_X9_putAt ⟨Nat.le_of_ble_eq_true rfl, Nat.le_of_ble_eq_true rfl⟩) (zpreV (q0 := 0) (ci := 9) (T := TX9) (N := 6) hK hP hD rfl rfl [.int p0, .int p1, .long (p2.toInt64)]) rfl rfl hl.1 rfl (lv_room (Nat.le_of_ble_eq_true rfl)) dX9_put_5 ⟨Nat.le_of_ble_eq_true rfl, Nat.le_of_ble_eq_true rfl⟩) (zfree hD hS hA) (zjW hD hS hA) hS (fun H locs hP hD hS => ?_)
  replace hP : va_P D vwCl (mW q v cJ V_2 ib dn_3 rf mk th_4) H := hP
  replace hD : va_D A (mW q v cJ V_2 ib dn_3 rf mk th_4) := hD
  have g0 := Option.some.inj h
  obtain ⟨h1, g1⟩ := Prod.mk.inj g0
  obtain ⟨h2, g2⟩ := Prod.mk.inj g1
  obtain ⟨h3, g3⟩ := Prod.mk.inj g2
  subst h1
  subst h2
  subst h3
  subst g3
  exact W.iret (v := r1) hx hb hr (fun t ht hW => ⟨⟨r1, (), rfl, rfl, by rw [ht]; exact hP, va_K.moved hW.alike hK, hD⟩, hS.F ht⟩) hS.2.2 dX9_put_8

noncomputable def p_X9_putWide (V : Nat → Int64) (dn : Int32) (p0 : Int32) (p1 : Int32) (p2 : Int32) (p3 : Int32) : Option (Int32 × (Nat → Int64) × Int32 × Int32) := (zb4 (p_X9_putAt V dn p0 p1 (((p2.toInt64) * (4294967296 : Int64)) + ((p3.toInt64) &&& (4294967295 : Int64)))) (fun r1 V_2 dn_3 th_4 => (some (r1, V_2, dn_3, th_4))))
theorem hdV_X9_putWide : yX9_putWide.cls = RX9 ∧ yX9_putWide.cls ≠ "java/lang/invoke/MethodHandle" ∧ yX9_putWide.cls ≠ "java/lang/invoke/VarHandle" ∧ (parseMethodDescriptor yX9_putWide.desc).map (fun d => d.parameters.length) = some 4 := by decide +kernel
set_option maxHeartbeats 4000000 in
set_option maxRecDepth 100000 in
theorem c_X9_putWide (l : Launch) (D : va_G) (q v : Nat) (cJ cI cO cB : ClassId) (V : Nat → Int64) (ib : Bool) (dn : Int32) (rf : Int32) (mk : Int32) (th : Int32) (p0 : Int32) (p1 : Int32) (p2 : Int32) (p3 : Int32) (r : Int32) (V' : Nat → Int64) (dn' : Int32) (th' : Int32) (h : p_X9_putWide V dn p0 p1 p2 p3 = some (r, V', dn', th')) : zMi l yX9_putWide wsX9_putWide 2 47 0 0 D (zT cJ cI cO cB) [.ref q, .int p0, .int p1, .int p2, .int p3] (mW q v cJ V ib dn rf mk th) (mW q v cJ V' ib dn' rf mk th') r := by
  intro sz
  delta zQi
  refine Met.ofW (cc := cX9_putWide) (maxL := 5) (ret := (some .int)) (by decide) rfl ?_
  intro p e s m args below meth c s₁ B hml hv
  obtain ⟨rfl, hsz, hP, hK, hD0⟩ := hv
  have hx := B.exec
  have hb := B.bytes
  have hr := B.returns
  have hts := atoms_spec (ws := wsX9_putWide) B.pre
  have hown : s.vm.findClass RX9 = some m.cls := findClass_of_methodNamed B.named
  have hlocks := B.notSynchronized
  subst hsz
  have hD := hD0.self (sz := s.heap.size)
  generalize hAe : va_A (mW q v cJ V ib dn rf mk th) s.heap.size = A at hD ⊢
  have hA : ∀ q : Nat, s.heap.size ≤ q → A q := fun q h => by rw [← hAe]; exact Or.inr h
  have hS : va_S A s.heap s.heap [] := va_S.rf
  have hl := lv_entry ([.ref q, .int p0, .int p1, .int p2, .int p3]) (n := 5) (Nat.le_of_ble_eq_true rfl)
  rw [lg_entry_eq]
  generalize (lg_sl ([.ref q, .int p0, .int p1, .int p2, .int p3]) ++ List.replicate (5 - (lg_sl ([.ref q, .int p0, .int p1, .int p2, .int p3])).length) Slot.unset).toArray = ls at hl ⊢
  replace hl : lv_has ls 5 [(0, .ref q), (1, .int p0), (2, .int p1), (3, .int p2), (4, .int p3)] := hl
  have kc_108 := hts (.constantLong RX9 108 (4294967296)) (zmem 1 rfl)
  have kc_110 := hts (.constantLong RX9 110 (4294967295)) (zmem 2 rfl)
  replace h : (zb4 (p_X9_putAt V dn p0 p1 (((p2.toInt64) * (4294967296 : Int64)) + ((p3.toInt64) &&& (4294967295 : Int64)))) (fun r1 V_2 dn_3 th_4 => (some (r1, V_2, dn_3, th_4)))) = some (r, V', dn', th') := h
  obtain ⟨H, hHe⟩ : ∃ H, H = s.heap := ⟨_, rfl⟩
  rw [← hHe] at hP
  replace hS : va_S A s.heap H [] := by rw [hHe]; exact hS
  refine zheap hHe ?_
  refine lv_aload_n hx hb dX9_putWide_0 rfl (lv_at hl 0 rfl) ?_
  refine lv_iload_n hx hb dX9_putWide_1 rfl (lv_at hl 1 rfl) ?_
  refine lv_iload_n hx hb dX9_putWide_2 rfl (lv_at hl 2 rfl) ?_
  refine lv_iload_n hx hb dX9_putWide_3 rfl (lv_at hl 3 rfl) ?_
  refine lv_i2l (v := p2.toInt64) hx hb dX9_putWide_4 rfl ?_
  refine lv_ldc2 hx hb hown kc_108 dX9_putWide_5 ?_
  refine lv_lmul hx hb dX9_putWide_8 ?_
  refine lv_iload hx hb dX9_putWide_9 (lv_at hl 4 rfl) ?_
  refine lv_i2l (v := p3.toInt64) hx hb dX9_putWide_11 rfl ?_
  refine lv_ldc2 hx hb hown kc_110 dX9_putWide_12 ?_
  refine lv_land hx hb dX9_putWide_15 ?_
  refine lv_ladd hx hb dX9_putWide_16 ?_
  obtain ⟨r1, V_2, dn_3, th_4, e5, h⟩ := zb4_some h
  refine zgoi (va_runV (As := [.int p0, .int p1, .long (((p2.toInt64) * (4294967296 : Int64)) + ((p3.toInt64) &&& (4294967295 : Int64)))]) (rest := []) ⟨hx, hb, hml, hown, hts⟩ (c_X9_putAt l D q v cJ cI cO cB V ib dn rf mk th p0 p1 (((p2.toInt64) * (4294967296 : Int64)) + ((p3.toInt64) &&& (4294967295 : Int64))) r1 V_2 dn_3 th_4 e5 H.size) (cwV 3 hts gX9_putWide_X9_putAt rfl rfl rfl hdV_X9_putAt ⟨Nat.le_of_ble_eq_true rfl, Nat.le_of_ble_eq_true rfl⟩) (zpreV (q0 := 0) (ci := 9) (T := TX9) (N := 6) hK hP hD rfl rfl [.int p0, .int p1, .long (((p2.toInt64) * (4294967296 : Int64)) + ((p3.toInt64) &&& (4294967295 : Int64)))]) rfl rfl hl.1 rfl (lv_room (Nat.le_of_ble_eq_true rfl)) dX9_putWide_17 ⟨Nat.le_of_ble_eq_true rfl, Nat.le_of_ble_eq_true rfl⟩) (zfree hD hS hA) (zjW hD hS hA) hS (fun H locs hP hD hS => ?_)
  replace hP : va_P D vwCl (mW q v cJ V_2 ib dn_3 rf mk th_4) H := hP
  replace hD : va_D A (mW q v cJ V_2 ib dn_3 rf mk th_4) := hD
  have g0 := Option.some.inj h
  obtain ⟨h1, g1⟩ := Prod.mk.inj g0
  obtain ⟨h2, g2⟩ := Prod.mk.inj g1
  obtain ⟨h3, g3⟩ := Prod.mk.inj g2
  subst h1
  subst h2
  subst h3
  subst g3
  exact W.iret (v := r1) hx hb hr (fun t ht hW => ⟨⟨r1, (), rfl, rfl, by rw [ht]; exact hP, va_K.moved hW.alike hK, hD⟩, hS.F ht⟩) hS.2.2 dX9_putWide_20

noncomputable def p_X9_sow_L0 (F : Nat) (p2 : Int32) (k : Int32 → Int32 → Int32 → (Nat → Int64) → Option (Int32 × (Nat → Int64) × Int32 × Int32)) : Nat → Int32 → Int32 → Int32 → (Nat → Int64) → Option (Int32 × (Nat → Int64) × Int32 × Int32)
  | 0, _, _, _, _ => none
  | n + 1, v5_0, v6_0, v7_0, f0_0 => (if (120 : Int32) < v7_0 then (k v5_0 v6_0 v7_0 f0_0) else (zg ((((2 : Int32) * p2) + (1 : Int32)) = 0) (zg (v7_0 < 0 ∨ 121 ≤ v7_0.toNatClampNeg) (zg (v7_0 < 0 ∨ 121 ≤ v7_0.toNatClampNeg) (if ¬ (lg_cmp ((vp_updL f0_0 v7_0.toNatClampNeg (((zr ((zr ((v5_0 * (25173 : Int32)) + (13849 : Int32)) (65536 : Int32)) / (64 : Int32)) (((2 : Int32) * p2) + (1 : Int32))) - p2).toInt64)) v7_0.toNatClampNeg) (0 : Int64)) = 0 then (p_X9_sow_L0 F p2 k n (zr ((v5_0 * (25173 : Int32)) + (13849 : Int32)) (65536 : Int32)) (v6_0 + (0 : Int32)) (v7_0 + (1 : Int32)) (vp_updL f0_0 v7_0.toNatClampNeg (((zr ((zr ((v5_0 * (25173 : Int32)) + (13849 : Int32)) (65536 : Int32)) / (64 : Int32)) (((2 : Int32) * p2) + (1 : Int32))) - p2).toInt64))) else (p_X9_sow_L0 F p2 k n (zr ((v5_0 * (25173 : Int32)) + (13849 : Int32)) (65536 : Int32)) (v6_0 + (1 : Int32)) (v7_0 + (1 : Int32)) (vp_updL f0_0 v7_0.toNatClampNeg (((zr ((zr ((v5_0 * (25173 : Int32)) + (13849 : Int32)) (65536 : Int32)) / (64 : Int32)) (((2 : Int32) * p2) + (1 : Int32))) - p2).toInt64))))))))
noncomputable def p_X9_sow_L1 (F : Nat) (p2 : Int32) (k : Int32 → Int32 → Int32 → (Nat → Int64) → Option (Int32 × (Nat → Int64) × Int32 × Int32)) : Nat → Int32 → Int32 → Int32 → (Nat → Int64) → Option (Int32 × (Nat → Int64) × Int32 × Int32)
  | 0, _, _, _, _ => none
  | n + 1, v5_1, v6_1, v7_1, f0_1 => (if (120 : Int32) < v7_1 then (k v5_1 v6_1 v7_1 f0_1) else (zg ((((2 : Int32) * p2) + (1 : Int32)) = 0) (zg (v7_1 < 0 ∨ 121 ≤ v7_1.toNatClampNeg) (zg (v7_1 < 0 ∨ 121 ≤ v7_1.toNatClampNeg) (if ¬ (lg_cmp ((vp_updL f0_1 v7_1.toNatClampNeg (((zr ((zr ((v5_1 * (25173 : Int32)) + (13849 : Int32)) (65536 : Int32)) / (64 : Int32)) (((2 : Int32) * p2) + (1 : Int32))) - p2).toInt64)) v7_1.toNatClampNeg) (0 : Int64)) = 0 then (p_X9_sow_L1 F p2 k n (zr ((v5_1 * (25173 : Int32)) + (13849 : Int32)) (65536 : Int32)) (v6_1 + (0 : Int32)) (v7_1 + (1 : Int32)) (vp_updL f0_1 v7_1.toNatClampNeg (((zr ((zr ((v5_1 * (25173 : Int32)) + (13849 : Int32)) (65536 : Int32)) / (64 : Int32)) (((2 : Int32) * p2) + (1 : Int32))) - p2).toInt64))) else (p_X9_sow_L1 F p2 k n (zr ((v5_1 * (25173 : Int32)) + (13849 : Int32)) (65536 : Int32)) (v6_1 + (1 : Int32)) (v7_1 + (1 : Int32)) (vp_updL f0_1 v7_1.toNatClampNeg (((zr ((zr ((v5_1 * (25173 : Int32)) + (13849 : Int32)) (65536 : Int32)) / (64 : Int32)) (((2 : Int32) * p2) + (1 : Int32))) - p2).toInt64))))))))
noncomputable def p_X9_sow (F : Nat) (V : Nat → Int64) (dn : Int32) (p0 : Int32) (p1 : Int32) (p2 : Int32) : Option (Int32 × (Nat → Int64) × Int32 × Int32) := (zb1 (p_X9_isOne p0) (fun r1 => (zb1 (p_X9_isIn p1 (0 : Int32) (65535 : Int32)) (fun r3 => (zlt (zb2 (p_X9_isThrown r1 false) (fun r5 th_6 => (if (z01 r5) = 0 then (p_X9_sow_L0 F p2 (fun v5_0 v6_0 v7_0 f0_0 => (zb3 (p_X9_become F V dn p0 f0_0) (fun r9 V_10 dn_11 => (some (v6_0, V_10, dn_11, th_6))))) F p1 (0 : Int32) (1 : Int32) (fun _ => 0)) else (some ((0 : Int32), V, dn, th_6))))) (fun jf0 => (if (z01 r3) = 0 then (jf0 ) else (zb1 (p_X9_isIn p2 (0 : Int32) (500 : Int32)) (fun r13 => (if (z01 r13) = 0 then (jf0 ) else (zb2 (p_X9_isThrown r1 true) (fun r15 th_16 => (if (z01 r15) = 0 then (p_X9_sow_L1 F p2 (fun v5_1 v6_1 v7_1 f0_1 => (zb3 (p_X9_become F V dn p0 f0_1) (fun r19 V_20 dn_21 => (some (v6_1, V_20, dn_21, th_16))))) F p1 (0 : Int32) (1 : Int32) (fun _ => 0)) else (some ((0 : Int32), V, dn, th_16)))))))))))))))
theorem hdV_X9_sow : yX9_sow.cls = RX9 ∧ yX9_sow.cls ≠ "java/lang/invoke/MethodHandle" ∧ yX9_sow.cls ≠ "java/lang/invoke/VarHandle" ∧ (parseMethodDescriptor yX9_sow.desc).map (fun d => d.parameters.length) = some 3 := by decide +kernel
set_option maxHeartbeats 4000000 in
set_option maxRecDepth 100000 in
theorem c_X9_sow (l : Launch) (D : va_G) (q v : Nat) (cJ cI cO cB : ClassId) (V : Nat → Int64) (ib : Bool) (dn : Int32) (rf : Int32) (mk : Int32) (th : Int32) (F : Nat) (p0 : Int32) (p1 : Int32) (p2 : Int32) (r : Int32) (V' : Nat → Int64) (dn' : Int32) (th' : Int32) (h : p_X9_sow F V dn p0 p1 p2 = some (r, V', dn', th')) : zMi l yX9_sow wsX9_sow 2 46 1 121 D (zT cJ cI cO cB) [.ref q, .int p0, .int p1, .int p2] (mW q v cJ V ib dn rf mk th) (mW q v cJ V' ib dn' rf mk th') r := by
  intro sz
  delta zQi
  refine Met.ofW (cc := cX9_sow) (maxL := 8) (ret := (some .int)) (by decide) rfl ?_
  intro p e s m args below meth c s₁ B hml hv
  obtain ⟨rfl, hsz, hP, hK, hD0⟩ := hv
  have hx := B.exec
  have hb := B.bytes
  have hr := B.returns
  have hts := atoms_spec (ws := wsX9_sow) B.pre
  have hown : s.vm.findClass RX9 = some m.cls := findClass_of_methodNamed B.named
  have hlocks := B.notSynchronized
  subst hsz
  have hD := hD0.self (sz := s.heap.size)
  generalize hAe : va_A (mW q v cJ V ib dn rf mk th) s.heap.size = A at hD ⊢
  have hA : ∀ q : Nat, s.heap.size ≤ q → A q := fun q h => by rw [← hAe]; exact Or.inr h
  have hS : va_S A s.heap s.heap [] := va_S.rf
  have hl := lv_entry ([.ref q, .int p0, .int p1, .int p2]) (n := 8) (Nat.le_of_ble_eq_true rfl)
  rw [lg_entry_eq]
  generalize (lg_sl ([.ref q, .int p0, .int p1, .int p2]) ++ List.replicate (8 - (lg_sl ([.ref q, .int p0, .int p1, .int p2])).length) Slot.unset).toArray = ls at hl ⊢
  replace hl : lv_has ls 8 [(0, .ref q), (1, .int p0), (2, .int p1), (3, .int p2)] := hl
  have kc_112 := hts (.constant RX9 112 (65535)) (zmem 1 rfl)
  have karr := hts (.arrayClass .long) (zmem 2 rfl)
  have kc_113 := hts (.constant RX9 113 (65536)) (zmem 3 rfl)
  replace h : (zb1 (p_X9_isOne p0) (fun r1 => (zb1 (p_X9_isIn p1 (0 : Int32) (65535 : Int32)) (fun r3 => (zlt (zb2 (p_X9_isThrown r1 false) (fun r5 th_6 => (if (z01 r5) = 0 then (p_X9_sow_L0 F p2 (fun v5_0 v6_0 v7_0 f0_0 => (zb3 (p_X9_become F V dn p0 f0_0) (fun r9 V_10 dn_11 => (some (v6_0, V_10, dn_11, th_6))))) F p1 (0 : Int32) (1 : Int32) (fun _ => 0)) else (some ((0 : Int32), V, dn, th_6))))) (fun jf0 => (if (z01 r3) = 0 then (jf0 ) else (zb1 (p_X9_isIn p2 (0 : Int32) (500 : Int32)) (fun r13 => (if (z01 r13) = 0 then (jf0 ) else (zb2 (p_X9_isThrown r1 true) (fun r15 th_16 => (if (z01 r15) = 0 then (p_X9_sow_L1 F p2 (fun v5_1 v6_1 v7_1 f0_1 => (zb3 (p_X9_become F V dn p0 f0_1) (fun r19 V_20 dn_21 => (some (v6_1, V_20, dn_21, th_16))))) F p1 (0 : Int32) (1 : Int32) (fun _ => 0)) else (some ((0 : Int32), V, dn, th_16))))))))))))))) = some (r, V', dn', th') := h
  refine zabs (fun G hG hGW => ?_)
  obtain ⟨H, hHe⟩ : ∃ H, H = s.heap := ⟨_, rfl⟩
  rw [← hHe] at hP
  replace hS : va_S A s.heap H [] := by rw [hHe]; exact hS
  refine zheap hHe ?_
  refine lv_aload_n hx hb dX9_sow_0 rfl (lv_at hl 0 rfl) ?_
  refine lv_iload_n hx hb dX9_sow_1 rfl (lv_at hl 1 rfl) ?_
  obtain ⟨r1, e2, h⟩ := zb1_some h
  refine zgoi (va_runS (As := [.int p0]) (rest := [.ref q]) ⟨hx, hb, hml, hown, hts⟩ (c_X9_isOne l D (zT cJ cI cO cB) p0 r1 e2 H.size) (va_cwS 1 hts gX9_sow_X9_isOne rfl rfl rfl hdS_X9_isOne ⟨Nat.le_of_ble_eq_true rfl, Nat.le_of_ble_eq_true rfl⟩) (zpreS hK zP0 (zD0 (A := A)) [.int p0]) rfl rfl hl.1 rfl (lv_room (Nat.le_of_ble_eq_true rfl)) dX9_sow_2 ⟨Nat.le_of_ble_eq_true rfl, Nat.le_of_ble_eq_true rfl⟩) (zf0 hS hA) (zjE hP hD) hS (fun H locs hP hD hS => ?_)
  refine lv_iload_n hx hb dX9_sow_5 rfl (lv_at hl 2 rfl) ?_
  refine lv_iconst (v := (0 : Int32)) hx hb dX9_sow_6 (by decide) ?_
  refine lv_ldc hx hb hown kc_112 dX9_sow_7 ?_
  obtain ⟨r3, e4, h⟩ := zb1_some h
  refine zgoi (va_runS (As := [.int p1, .int (0 : Int32), .int (65535 : Int32)]) (rest := [.int (z01 r1), .ref q]) ⟨hx, hb, hml, hown, hts⟩ (c_X9_isIn l D (zT cJ cI cO cB) p1 (0 : Int32) (65535 : Int32) r3 e4 H.size) (va_cwS 3 hts gX9_sow_X9_isIn rfl rfl rfl hdS_X9_isIn ⟨Nat.le_of_ble_eq_true rfl, Nat.le_of_ble_eq_true rfl⟩) (zpreS hK zP0 (zD0 (A := A)) [.int p1, .int (0 : Int32), .int (65535 : Int32)]) rfl rfl hl.1 rfl (lv_room (Nat.le_of_ble_eq_true rfl)) dX9_sow_9 ⟨Nat.le_of_ble_eq_true rfl, Nat.le_of_ble_eq_true rfl⟩) (zf0 hS hA) (zjE hP hD) hS (fun H locs hP hD hS => ?_)
  have J0 : ∀  (H : Heap) (locs : List Loc) (ls : Array Slot), va_P D vwCl (mW q v cJ V ib dn rf mk th) H → va_D A (mW q v cJ V ib dn rf mk th) → va_S A s.heap H locs → lv_has ls 8 [(0, .ref q), (1, .int p0), (2, .int p1), (3, .int p2)] → (zb2 (p_X9_isThrown r1 false) (fun r5 th_6 => (if (z01 r5) = 0 then (p_X9_sow_L0 F p2 (fun v5_0 v6_0 v7_0 f0_0 => (zb3 (p_X9_become F V dn p0 f0_0) (fun r9 V_10 dn_11 => (some (v6_0, V_10, dn_11, th_6))))) F p1 (0 : Int32) (1 : Int32) (fun _ => 0)) else (some ((0 : Int32), V, dn, th_6))))) = some (r, V', dn', th') → G H locs 0 0 (F0 m 30 ls [.int (z01 r1), .ref q]) := by
    intro  H locs ls hP hD hS hl h
    refine hG _ _ _ _ _ ?_
    refine lv_iconst (v := (0 : Int32)) hx hb dX9_sow_30 (by decide) ?_
    obtain ⟨r5, th_6, e7, h⟩ := zb2_some h
    refine zgoi (va_runV (As := [.int (z01 r1), .int (0 : Int32)]) (rest := []) ⟨hx, hb, hml, hown, hts⟩ (c_X9_isThrown l D q v cJ cI cO cB V ib dn rf mk th r1 false r5 th_6 e7 H.size) (cwV 2 hts gX9_sow_X9_isThrown rfl rfl rfl hdV_X9_isThrown ⟨Nat.le_of_ble_eq_true rfl, Nat.le_of_ble_eq_true rfl⟩) (zpreV (q0 := 0) (ci := 9) (T := TX9) (N := 6) hK hP hD rfl rfl [.int (z01 r1), .int (0 : Int32)]) rfl rfl hl.1 rfl (lv_room (Nat.le_of_ble_eq_true rfl)) dX9_sow_31 ⟨Nat.le_of_ble_eq_true rfl, Nat.le_of_ble_eq_true rfl⟩) (zfree hD hS hA) (zjW hD hS hA) hS (fun H locs hP hD hS => ?_)
    replace hP : va_P D vwCl (mW q v cJ V ib dn rf mk th_6) H := hP
    replace hD : va_D A (mW q v cJ V ib dn rf mk th_6) := hD
    refine lv_if_eq (tgt := 39) hx hb dX9_sow_34 (by decide) (fun c34 => ?_) (fun c34 => ?_)
    · replace h := zif_t h c34
      refine lv_bipush (v := (121 : Int32)) hx hb dX9_sow_39 (by decide) ?_
      refine znewJ (N := 121) hx hb karr hK hP hD hS hA (by decide) (by decide) (by decide) (Nat.le_of_ble_eq_true rfl) (Nat.le_of_ble_eq_true rfl) dX9_sow_41 (fun w8 H hP hD hS => ?_)
      replace hP : va_P D vwCl (mW q v cJ V ib dn rf mk th_6 ++ ([(w8, .inl (cJ, 121, .inr (.inl (fun _ => 0))))])) H := hP
      replace hD : va_D A (mW q v cJ V ib dn rf mk th_6 ++ ([(w8, .inl (cJ, 121, .inr (.inl (fun _ => 0))))])) := hD
      refine lv_astore (lv' := [(4, .ref w8), (0, .ref q), (1, .int p0), (2, .int p1), (3, .int p2)]) hx hb dX9_sow_43 hl (by decide) rfl (fun ls hl => ?_)
      refine lv_iload_n hx hb dX9_sow_45 rfl (lv_at hl 3 rfl) ?_
      refine lv_istore (lv' := [(5, .int p1), (4, .ref w8), (0, .ref q), (1, .int p0), (2, .int p1), (3, .int p2)]) hx hb dX9_sow_46 hl (by decide) rfl (fun ls hl => ?_)
      refine lv_iconst (v := (0 : Int32)) hx hb dX9_sow_48 (by decide) ?_
      refine lv_istore (lv' := [(6, .int (0 : Int32)), (5, .int p1), (4, .ref w8), (0, .ref q), (1, .int p0), (2, .int p1), (3, .int p2)]) hx hb dX9_sow_49 hl (by decide) rfl (fun ls hl => ?_)
      refine lv_iconst (v := (1 : Int32)) hx hb dX9_sow_51 (by decide) ?_
      refine lv_istore (lv' := [(7, .int (1 : Int32)), (6, .int (0 : Int32)), (5, .int p1), (4, .ref w8), (0, .ref q), (1, .int p0), (2, .int p1), (3, .int p2)]) hx hb dX9_sow_52 hl (by decide) rfl (fun ls hl => ?_)
      have X0 : ∀ (v5_0 : Int32) (v6_0 : Int32) (v7_0 : Int32) (f0_0 : Nat → Int64) (H : Heap) (locs : List Loc) (ls : Array Slot), va_P D vwCl (mW q v cJ V ib dn rf mk th_6 ++ ([(w8, .inl (cJ, 121, .inr (.inl f0_0)))])) H → va_D A (mW q v cJ V ib dn rf mk th_6 ++ ([(w8, .inl (cJ, 121, .inr (.inl f0_0)))])) → va_S A s.heap H locs → lv_has ls 8 [(0, .ref q), (1, .int p0), (2, .int p1), (3, .int p2), (4, .ref w8), (5, .int v5_0), (6, .int v6_0), (7, .int v7_0)] → (zb3 (p_X9_become F V dn p0 f0_0) (fun r9 V_10 dn_11 => (some (v6_0, V_10, dn_11, th_6)))) = some (r, V', dn', th') → G H locs 1 121 (F0 m 121 ls []) := by
        intro v5_0 v6_0 v7_0 f0_0 H locs ls hP hD hS hl h
        refine hG _ _ _ _ _ ?_
        refine lv_aload_n hx hb dX9_sow_121 rfl (lv_at hl 0 rfl) ?_
        refine lv_iload_n hx hb dX9_sow_122 rfl (lv_at hl 1 rfl) ?_
        refine lv_aload hx hb dX9_sow_123 (lv_at hl 4 rfl) ?_
        obtain ⟨r9, V_10, dn_11, e12, h⟩ := zb3_some h
        refine zgoi (va_runV (As := [.int p0, .ref w8]) (rest := []) ⟨hx, hb, hml, hown, hts⟩ (c_X9_become l D q v cJ cI cO cB V ib dn rf mk th_6 F p0 w8 f0_0 r9 V_10 dn_11 e12 H.size) (cwV 2 hts gX9_sow_X9_become rfl rfl rfl hdV_X9_become ⟨Nat.le_of_ble_eq_true rfl, Nat.le_of_ble_eq_true rfl⟩) (zpreV (q0 := 0) (ci := 9) (T := TX9) (N := 6) hK hP hD rfl rfl [.int p0, .ref w8]) rfl rfl hl.1 rfl (lv_room (Nat.le_of_ble_eq_true rfl)) dX9_sow_125 ⟨Nat.le_of_ble_eq_true rfl, Nat.le_of_ble_eq_true rfl⟩) (zfree hD hS hA) (zjW hD hS hA) hS (fun H locs hP hD hS => ?_)
        replace hP : va_P D vwCl (mW q v cJ V_10 ib dn_11 rf mk th_6 ++ ([(w8, .inl (cJ, 121, .inr (.inl f0_0)))])) H := hP
        replace hD : va_D A (mW q v cJ V_10 ib dn_11 rf mk th_6 ++ ([(w8, .inl (cJ, 121, .inr (.inl f0_0)))])) := hD
        refine lv_pop hx hb dX9_sow_128 rfl ?_
        refine lv_iload hx hb dX9_sow_129 (lv_at hl 6 rfl) ?_
        have g0 := Option.some.inj h
        obtain ⟨h1, g1⟩ := Prod.mk.inj g0
        obtain ⟨h2, g2⟩ := Prod.mk.inj g1
        obtain ⟨h3, g3⟩ := Prod.mk.inj g2
        subst h1
        subst h2
        subst h3
        subst g3
        replace hP := zsub (wn := (mW q v cJ V_10 ib dn_11 rf mk th_6)) hP [0, 1] rfl
        replace hD := hD.sub (ws' := (mW q v cJ V_10 ib dn_11 rf mk th_6)) [0, 1] (by decide) rfl
        exact W.iret (v := v6_0) hx hb hr (fun t ht hW => ⟨⟨v6_0, (), rfl, rfl, by rw [ht]; exact hP, va_K.moved hW.alike hK, hD⟩, hS.F ht⟩) hS.2.2 dX9_sow_131
      have L0 : ∀ (K0 : Int32 → Int32 → Int32 → (Nat → Int64) → Option (Int32 × (Nat → Int64) × Int32 × Int32)) (HX0 : ∀ (v5_0 : Int32) (v6_0 : Int32) (v7_0 : Int32) (f0_0 : Nat → Int64) (H : Heap) (locs : List Loc) (ls : Array Slot), va_P D vwCl (mW q v cJ V ib dn rf mk th_6 ++ ([(w8, .inl (cJ, 121, .inr (.inl f0_0)))])) H → va_D A (mW q v cJ V ib dn rf mk th_6 ++ ([(w8, .inl (cJ, 121, .inr (.inl f0_0)))])) → va_S A s.heap H locs → lv_has ls 8 [(0, .ref q), (1, .int p0), (2, .int p1), (3, .int p2), (4, .ref w8), (5, .int v5_0), (6, .int v6_0), (7, .int v7_0)] → K0 v5_0 v6_0 v7_0 f0_0 = some (r, V', dn', th') → G H locs 1 121 (F0 m 121 ls [])) (fu0 : Nat) (v5_0 : Int32) (v6_0 : Int32) (v7_0 : Int32) (f0_0 : Nat → Int64) (H : Heap) (locs : List Loc) (ls : Array Slot), va_P D vwCl (mW q v cJ V ib dn rf mk th_6 ++ ([(w8, .inl (cJ, 121, .inr (.inl f0_0)))])) H → va_D A (mW q v cJ V ib dn rf mk th_6 ++ ([(w8, .inl (cJ, 121, .inr (.inl f0_0)))])) → va_S A s.heap H locs → lv_has ls 8 [(0, .ref q), (1, .int p0), (2, .int p1), (3, .int p2), (4, .ref w8), (5, .int v5_0), (6, .int v6_0), (7, .int v7_0)] → p_X9_sow_L0 F p2 K0 fu0 v5_0 v6_0 v7_0 f0_0 = some (r, V', dn', th') → G H locs 1 121 (F0 m 54 ls []) := by
        intro K0 HX0 fu0
        induction fu0 with
        | zero =>
          intro v5_0 v6_0 v7_0 f0_0 H locs ls hP hD hS hl h
          exact (zno h).elim
        | succ fu0 ih0 =>
          intro v5_0 v6_0 v7_0 f0_0 H locs ls hP hD hS hl h
          refine hG _ _ _ _ _ ?_
          unfold p_X9_sow_L0 at h
          refine lv_iload hx hb dX9_sow_54 (lv_at hl 7 rfl) ?_
          refine lv_bipush (v := (120 : Int32)) hx hb dX9_sow_56 (by decide) ?_
          refine lv_icmp_gt (tgt := 121) hx hb dX9_sow_58 (by decide) (fun c58 => ?_) (fun c58 => ?_)
          · replace h := zif_t h c58
            exact hGW _ _ _ _ _ (HX0 v5_0 v6_0 v7_0 f0_0 _ _ ls hP hD hS (lv_sub hl [0, 1, 2, 3, 4, 5, 6, 7] rfl) h)
          · replace h := zif_f h c58
            refine lv_iload hx hb dX9_sow_61 (lv_at hl 5 rfl) ?_
            refine lv_sipush (v := (25173 : Int32)) hx hb dX9_sow_63 (by decide) ?_
            refine lv_imul hx hb dX9_sow_66 ?_
            refine lv_sipush (v := (13849 : Int32)) hx hb dX9_sow_67 (by decide) ?_
            refine lv_iadd hx hb dX9_sow_70 ?_
            refine lv_ldc hx hb hown kc_113 dX9_sow_71 ?_
            refine lv_irem hx hb dX9_sow_73 (by decide) ?_
            refine lv_istore (lv' := [(5, .int (zr ((v5_0 * (25173 : Int32)) + (13849 : Int32)) (65536 : Int32))), (0, .ref q), (1, .int p0), (2, .int p1), (3, .int p2), (4, .ref w8), (6, .int v6_0), (7, .int v7_0)]) hx hb dX9_sow_74 hl (by decide) rfl (fun ls hl => ?_)
            refine lv_aload hx hb dX9_sow_76 (lv_at hl 5 rfl) ?_
            refine lv_iload hx hb dX9_sow_78 (lv_at hl 7 rfl) ?_
            refine lv_iload hx hb dX9_sow_80 (lv_at hl 0 rfl) ?_
            refine lv_bipush (v := (64 : Int32)) hx hb dX9_sow_82 (by decide) ?_
            refine lv_idiv hx hb dX9_sow_84 (by decide) ?_
            refine lv_iconst (v := (2 : Int32)) hx hb dX9_sow_85 (by decide) ?_
            refine lv_iload_n hx hb dX9_sow_86 rfl (lv_at hl 4 rfl) ?_
            refine lv_imul hx hb dX9_sow_87 ?_
            refine lv_iconst (v := (1 : Int32)) hx hb dX9_sow_88 (by decide) ?_
            refine lv_iadd hx hb dX9_sow_89 ?_
            obtain ⟨z90, h⟩ := zg_some h
            refine lv_irem hx hb dX9_sow_90 z90 ?_
            refine lv_iload_n hx hb dX9_sow_91 rfl (lv_at hl 4 rfl) ?_
            refine lv_isub hx hb dX9_sow_92 ?_
            refine lv_i2l (v := ((zr ((zr ((v5_0 * (25173 : Int32)) + (13849 : Int32)) (65536 : Int32)) / (64 : Int32)) (((2 : Int32) * p2) + (1 : Int32))) - p2).toInt64) hx hb dX9_sow_93 rfl ?_
            obtain ⟨z94, h⟩ := zg_some h
            refine va_last hx hb hK hP hD hS 2 0 rfl rfl z94 dX9_sow_94 (fun H locs hP hD hS => ?_)
            replace hP : va_P D vwCl (mW q v cJ V ib dn rf mk th_6 ++ ([(w8, .inl (cJ, 121, .inr (.inl (vp_updL f0_0 v7_0.toNatClampNeg (((zr ((zr ((v5_0 * (25173 : Int32)) + (13849 : Int32)) (65536 : Int32)) / (64 : Int32)) (((2 : Int32) * p2) + (1 : Int32))) - p2).toInt64)))))])) H := hP
            replace hD : va_D A (mW q v cJ V ib dn rf mk th_6 ++ ([(w8, .inl (cJ, 121, .inr (.inl (vp_updL f0_0 v7_0.toNatClampNeg (((zr ((zr ((v5_0 * (25173 : Int32)) + (13849 : Int32)) (65536 : Int32)) / (64 : Int32)) (((2 : Int32) * p2) + (1 : Int32))) - p2).toInt64)))))])) := hD
            refine lv_iload hx hb dX9_sow_95 (lv_at hl 6 rfl) ?_
            refine lv_aload hx hb dX9_sow_97 (lv_at hl 5 rfl) ?_
            refine lv_iload hx hb dX9_sow_99 (lv_at hl 7 rfl) ?_
            obtain ⟨z101, h⟩ := zg_some h
            refine va_lald hx hb hK hP 2 0 rfl rfl z101 dX9_sow_101 ?_
            refine lv_lconst (v := (0 : Int64)) hx hb dX9_sow_102 (by decide) ?_
            refine W.lcmp hx hb dX9_sow_103 ?_
            refine lv_if_ne (tgt := 111) hx hb dX9_sow_104 (by decide) (fun c104 => ?_) (fun c104 => ?_)
            · replace h := zif_t h c104
              refine lv_iconst (v := (0 : Int32)) hx hb dX9_sow_111 (by decide) ?_
              refine lv_iadd hx hb dX9_sow_112 ?_
              refine lv_istore (lv' := [(6, .int (v6_0 + (0 : Int32))), (5, .int (zr ((v5_0 * (25173 : Int32)) + (13849 : Int32)) (65536 : Int32))), (0, .ref q), (1, .int p0), (2, .int p1), (3, .int p2), (4, .ref w8), (7, .int v7_0)]) hx hb dX9_sow_113 hl (by decide) rfl (fun ls hl => ?_)
              refine lv_iinc (v := (v7_0 + (1 : Int32))) (lv' := [(7, .int (v7_0 + (1 : Int32))), (6, .int (v6_0 + (0 : Int32))), (5, .int (zr ((v5_0 * (25173 : Int32)) + (13849 : Int32)) (65536 : Int32))), (0, .ref q), (1, .int p0), (2, .int p1), (3, .int p2), (4, .ref w8)]) hx hb dX9_sow_115 hl (k := 7) rfl rfl (by decide) rfl (fun ls hl => ?_)
              refine lv_goto (tgt := 54) hx hb dX9_sow_118 (by decide) ?_
              exact hGW _ _ _ _ _ (ih0 (zr ((v5_0 * (25173 : Int32)) + (13849 : Int32)) (65536 : Int32)) (v6_0 + (0 : Int32)) (v7_0 + (1 : Int32)) (vp_updL f0_0 v7_0.toNatClampNeg (((zr ((zr ((v5_0 * (25173 : Int32)) + (13849 : Int32)) (65536 : Int32)) / (64 : Int32)) (((2 : Int32) * p2) + (1 : Int32))) - p2).toInt64)) _ _ ls hP hD hS (lv_sub hl [3, 4, 5, 6, 7, 2, 1, 0] rfl) h)
            · replace h := zif_fn h c104
              refine lv_iconst (v := (1 : Int32)) hx hb dX9_sow_107 (by decide) ?_
              refine lv_goto (tgt := 112) hx hb dX9_sow_108 (by decide) ?_
              refine lv_iadd hx hb dX9_sow_112 ?_
              refine lv_istore (lv' := [(6, .int (v6_0 + (1 : Int32))), (5, .int (zr ((v5_0 * (25173 : Int32)) + (13849 : Int32)) (65536 : Int32))), (0, .ref q), (1, .int p0), (2, .int p1), (3, .int p2), (4, .ref w8), (7, .int v7_0)]) hx hb dX9_sow_113 hl (by decide) rfl (fun ls hl => ?_)
              refine lv_iinc (v := (v7_0 + (1 : Int32))) (lv' := [(7, .int (v7_0 + (1 : Int32))), (6, .int (v6_0 + (1 : Int32))), (5, .int (zr ((v5_0 * (25173 : Int32)) + (13849 : Int32)) (65536 : Int32))), (0, .ref q), (1, .int p0), (2, .int p1), (3, .int p2), (4, .ref w8)]) hx hb dX9_sow_115 hl (k := 7) rfl rfl (by decide) rfl (fun ls hl => ?_)
              refine lv_goto (tgt := 54) hx hb dX9_sow_118 (by decide) ?_
              exact hGW _ _ _ _ _ (ih0 (zr ((v5_0 * (25173 : Int32)) + (13849 : Int32)) (65536 : Int32)) (v6_0 + (1 : Int32)) (v7_0 + (1 : Int32)) (vp_updL f0_0 v7_0.toNatClampNeg (((zr ((zr ((v5_0 * (25173 : Int32)) + (13849 : Int32)) (65536 : Int32)) / (64 : Int32)) (((2 : Int32) * p2) + (1 : Int32))) - p2).toInt64)) _ _ ls hP hD hS (lv_sub hl [3, 4, 5, 6, 7, 2, 1, 0] rfl) h)
      exact hGW _ _ _ _ _ (L0 _ X0 F p1 (0 : Int32) (1 : Int32) (fun _ => 0) _ _ ls hP hD hS (lv_sub hl [4, 5, 6, 7, 3, 2, 1, 0] rfl) h)
    · replace h := zif_f h c34
      refine lv_iconst (v := (0 : Int32)) hx hb dX9_sow_37 (by decide) ?_
      have g0 := Option.some.inj h
      obtain ⟨h1, g1⟩ := Prod.mk.inj g0
      obtain ⟨h2, g2⟩ := Prod.mk.inj g1
      obtain ⟨h3, g3⟩ := Prod.mk.inj g2
      subst h1
      subst h2
      subst h3
      subst g3
      refine W.widen (k := 1) (n := 121) (by decide) (by decide) ?_
      exact W.iret (v := (0 : Int32)) hx hb hr (fun t ht hW => ⟨⟨(0 : Int32), (), rfl, rfl, by rw [ht]; exact hP, va_K.moved hW.alike hK, hD⟩, hS.F ht⟩) hS.2.2 dX9_sow_38
  replace h := zlt_h h
  refine lv_if_eq (tgt := 30) hx hb dX9_sow_12 (by decide) (fun c12 => ?_) (fun c12 => ?_)
  · replace h := zif_t h c12
    exact hGW _ _ _ _ _ (J0  _ _ ls hP hD hS (lv_sub hl [0, 1, 2, 3] rfl) h)
  · replace h := zif_f h c12
    refine lv_iload_n hx hb dX9_sow_15 rfl (lv_at hl 3 rfl) ?_
    refine lv_iconst (v := (0 : Int32)) hx hb dX9_sow_16 (by decide) ?_
    refine lv_sipush (v := (500 : Int32)) hx hb dX9_sow_17 (by decide) ?_
    obtain ⟨r13, e14, h⟩ := zb1_some h
    refine zgoi (va_runS (As := [.int p2, .int (0 : Int32), .int (500 : Int32)]) (rest := [.int (z01 r1), .ref q]) ⟨hx, hb, hml, hown, hts⟩ (c_X9_isIn l D (zT cJ cI cO cB) p2 (0 : Int32) (500 : Int32) r13 e14 H.size) (va_cwS 3 hts gX9_sow_X9_isIn rfl rfl rfl hdS_X9_isIn ⟨Nat.le_of_ble_eq_true rfl, Nat.le_of_ble_eq_true rfl⟩) (zpreS hK zP0 (zD0 (A := A)) [.int p2, .int (0 : Int32), .int (500 : Int32)]) rfl rfl hl.1 rfl (lv_room (Nat.le_of_ble_eq_true rfl)) dX9_sow_20 ⟨Nat.le_of_ble_eq_true rfl, Nat.le_of_ble_eq_true rfl⟩) (zf0 hS hA) (zjE hP hD) hS (fun H locs hP hD hS => ?_)
    refine lv_if_eq (tgt := 30) hx hb dX9_sow_23 (by decide) (fun c23 => ?_) (fun c23 => ?_)
    · replace h := zif_t h c23
      exact hGW _ _ _ _ _ (J0  _ _ ls hP hD hS (lv_sub hl [0, 1, 2, 3] rfl) h)
    · replace h := zif_f h c23
      refine lv_iconst (v := (1 : Int32)) hx hb dX9_sow_26 (by decide) ?_
      refine lv_goto (tgt := 31) hx hb dX9_sow_27 (by decide) ?_
      obtain ⟨r15, th_16, e17, h⟩ := zb2_some h
      refine zgoi (va_runV (As := [.int (z01 r1), .int (1 : Int32)]) (rest := []) ⟨hx, hb, hml, hown, hts⟩ (c_X9_isThrown l D q v cJ cI cO cB V ib dn rf mk th r1 true r15 th_16 e17 H.size) (cwV 2 hts gX9_sow_X9_isThrown rfl rfl rfl hdV_X9_isThrown ⟨Nat.le_of_ble_eq_true rfl, Nat.le_of_ble_eq_true rfl⟩) (zpreV (q0 := 0) (ci := 9) (T := TX9) (N := 6) hK hP hD rfl rfl [.int (z01 r1), .int (1 : Int32)]) rfl rfl hl.1 rfl (lv_room (Nat.le_of_ble_eq_true rfl)) dX9_sow_31 ⟨Nat.le_of_ble_eq_true rfl, Nat.le_of_ble_eq_true rfl⟩) (zfree hD hS hA) (zjW hD hS hA) hS (fun H locs hP hD hS => ?_)
      replace hP : va_P D vwCl (mW q v cJ V ib dn rf mk th_16) H := hP
      replace hD : va_D A (mW q v cJ V ib dn rf mk th_16) := hD
      refine lv_if_eq (tgt := 39) hx hb dX9_sow_34 (by decide) (fun c34 => ?_) (fun c34 => ?_)
      · replace h := zif_t h c34
        refine lv_bipush (v := (121 : Int32)) hx hb dX9_sow_39 (by decide) ?_
        refine znewJ (N := 121) hx hb karr hK hP hD hS hA (by decide) (by decide) (by decide) (Nat.le_of_ble_eq_true rfl) (Nat.le_of_ble_eq_true rfl) dX9_sow_41 (fun w18 H hP hD hS => ?_)
        replace hP : va_P D vwCl (mW q v cJ V ib dn rf mk th_16 ++ ([(w18, .inl (cJ, 121, .inr (.inl (fun _ => 0))))])) H := hP
        replace hD : va_D A (mW q v cJ V ib dn rf mk th_16 ++ ([(w18, .inl (cJ, 121, .inr (.inl (fun _ => 0))))])) := hD
        refine lv_astore (lv' := [(4, .ref w18), (0, .ref q), (1, .int p0), (2, .int p1), (3, .int p2)]) hx hb dX9_sow_43 hl (by decide) rfl (fun ls hl => ?_)
        refine lv_iload_n hx hb dX9_sow_45 rfl (lv_at hl 3 rfl) ?_
        refine lv_istore (lv' := [(5, .int p1), (4, .ref w18), (0, .ref q), (1, .int p0), (2, .int p1), (3, .int p2)]) hx hb dX9_sow_46 hl (by decide) rfl (fun ls hl => ?_)
        refine lv_iconst (v := (0 : Int32)) hx hb dX9_sow_48 (by decide) ?_
        refine lv_istore (lv' := [(6, .int (0 : Int32)), (5, .int p1), (4, .ref w18), (0, .ref q), (1, .int p0), (2, .int p1), (3, .int p2)]) hx hb dX9_sow_49 hl (by decide) rfl (fun ls hl => ?_)
        refine lv_iconst (v := (1 : Int32)) hx hb dX9_sow_51 (by decide) ?_
        refine lv_istore (lv' := [(7, .int (1 : Int32)), (6, .int (0 : Int32)), (5, .int p1), (4, .ref w18), (0, .ref q), (1, .int p0), (2, .int p1), (3, .int p2)]) hx hb dX9_sow_52 hl (by decide) rfl (fun ls hl => ?_)
        have X1 : ∀ (v5_1 : Int32) (v6_1 : Int32) (v7_1 : Int32) (f0_1 : Nat → Int64) (H : Heap) (locs : List Loc) (ls : Array Slot), va_P D vwCl (mW q v cJ V ib dn rf mk th_16 ++ ([(w18, .inl (cJ, 121, .inr (.inl f0_1)))])) H → va_D A (mW q v cJ V ib dn rf mk th_16 ++ ([(w18, .inl (cJ, 121, .inr (.inl f0_1)))])) → va_S A s.heap H locs → lv_has ls 8 [(0, .ref q), (1, .int p0), (2, .int p1), (3, .int p2), (4, .ref w18), (5, .int v5_1), (6, .int v6_1), (7, .int v7_1)] → (zb3 (p_X9_become F V dn p0 f0_1) (fun r19 V_20 dn_21 => (some (v6_1, V_20, dn_21, th_16)))) = some (r, V', dn', th') → G H locs 1 121 (F0 m 121 ls []) := by
          intro v5_1 v6_1 v7_1 f0_1 H locs ls hP hD hS hl h
          refine hG _ _ _ _ _ ?_
          refine lv_aload_n hx hb dX9_sow_121 rfl (lv_at hl 0 rfl) ?_
          refine lv_iload_n hx hb dX9_sow_122 rfl (lv_at hl 1 rfl) ?_
          refine lv_aload hx hb dX9_sow_123 (lv_at hl 4 rfl) ?_
          obtain ⟨r19, V_20, dn_21, e22, h⟩ := zb3_some h
          refine zgoi (va_runV (As := [.int p0, .ref w18]) (rest := []) ⟨hx, hb, hml, hown, hts⟩ (c_X9_become l D q v cJ cI cO cB V ib dn rf mk th_16 F p0 w18 f0_1 r19 V_20 dn_21 e22 H.size) (cwV 2 hts gX9_sow_X9_become rfl rfl rfl hdV_X9_become ⟨Nat.le_of_ble_eq_true rfl, Nat.le_of_ble_eq_true rfl⟩) (zpreV (q0 := 0) (ci := 9) (T := TX9) (N := 6) hK hP hD rfl rfl [.int p0, .ref w18]) rfl rfl hl.1 rfl (lv_room (Nat.le_of_ble_eq_true rfl)) dX9_sow_125 ⟨Nat.le_of_ble_eq_true rfl, Nat.le_of_ble_eq_true rfl⟩) (zfree hD hS hA) (zjW hD hS hA) hS (fun H locs hP hD hS => ?_)
          replace hP : va_P D vwCl (mW q v cJ V_20 ib dn_21 rf mk th_16 ++ ([(w18, .inl (cJ, 121, .inr (.inl f0_1)))])) H := hP
          replace hD : va_D A (mW q v cJ V_20 ib dn_21 rf mk th_16 ++ ([(w18, .inl (cJ, 121, .inr (.inl f0_1)))])) := hD
          refine lv_pop hx hb dX9_sow_128 rfl ?_
          refine lv_iload hx hb dX9_sow_129 (lv_at hl 6 rfl) ?_
          have g0 := Option.some.inj h
          obtain ⟨h1, g1⟩ := Prod.mk.inj g0
          obtain ⟨h2, g2⟩ := Prod.mk.inj g1
          obtain ⟨h3, g3⟩ := Prod.mk.inj g2
          subst h1
          subst h2
          subst h3
          subst g3
          replace hP := zsub (wn := (mW q v cJ V_20 ib dn_21 rf mk th_16)) hP [0, 1] rfl
          replace hD := hD.sub (ws' := (mW q v cJ V_20 ib dn_21 rf mk th_16)) [0, 1] (by decide) rfl
          exact W.iret (v := v6_1) hx hb hr (fun t ht hW => ⟨⟨v6_1, (), rfl, rfl, by rw [ht]; exact hP, va_K.moved hW.alike hK, hD⟩, hS.F ht⟩) hS.2.2 dX9_sow_131
        have L1 : ∀ (K1 : Int32 → Int32 → Int32 → (Nat → Int64) → Option (Int32 × (Nat → Int64) × Int32 × Int32)) (HX1 : ∀ (v5_1 : Int32) (v6_1 : Int32) (v7_1 : Int32) (f0_1 : Nat → Int64) (H : Heap) (locs : List Loc) (ls : Array Slot), va_P D vwCl (mW q v cJ V ib dn rf mk th_16 ++ ([(w18, .inl (cJ, 121, .inr (.inl f0_1)))])) H → va_D A (mW q v cJ V ib dn rf mk th_16 ++ ([(w18, .inl (cJ, 121, .inr (.inl f0_1)))])) → va_S A s.heap H locs → lv_has ls 8 [(0, .ref q), (1, .int p0), (2, .int p1), (3, .int p2), (4, .ref w18), (5, .int v5_1), (6, .int v6_1), (7, .int v7_1)] → K1 v5_1 v6_1 v7_1 f0_1 = some (r, V', dn', th') → G H locs 1 121 (F0 m 121 ls [])) (fu1 : Nat) (v5_1 : Int32) (v6_1 : Int32) (v7_1 : Int32) (f0_1 : Nat → Int64) (H : Heap) (locs : List Loc) (ls : Array Slot), va_P D vwCl (mW q v cJ V ib dn rf mk th_16 ++ ([(w18, .inl (cJ, 121, .inr (.inl f0_1)))])) H → va_D A (mW q v cJ V ib dn rf mk th_16 ++ ([(w18, .inl (cJ, 121, .inr (.inl f0_1)))])) → va_S A s.heap H locs → lv_has ls 8 [(0, .ref q), (1, .int p0), (2, .int p1), (3, .int p2), (4, .ref w18), (5, .int v5_1), (6, .int v6_1), (7, .int v7_1)] → p_X9_sow_L1 F p2 K1 fu1 v5_1 v6_1 v7_1 f0_1 = some (r, V', dn', th') → G H locs 1 121 (F0 m 54 ls []) := by
          intro K1 HX1 fu1
          induction fu1 with
          | zero =>
            intro v5_1 v6_1 v7_1 f0_1 H locs ls hP hD hS hl h
            exact (zno h).elim
          | succ fu1 ih1 =>
            intro v5_1 v6_1 v7_1 f0_1 H locs ls hP hD hS hl h
            refine hG _ _ _ _ _ ?_
            unfold p_X9_sow_L1 at h
            refine lv_iload hx hb dX9_sow_54 (lv_at hl 7 rfl) ?_
            refine lv_bipush (v := (120 : Int32)) hx hb dX9_sow_56 (by decide) ?_
            refine lv_icmp_gt (tgt := 121) hx hb dX9_sow_58 (by decide) (fun c58 => ?_) (fun c58 => ?_)
            · replace h := zif_t h c58
              exact hGW _ _ _ _ _ (HX1 v5_1 v6_1 v7_1 f0_1 _ _ ls hP hD hS (lv_sub hl [0, 1, 2, 3, 4, 5, 6, 7] rfl) h)
            · replace h := zif_f h c58
              refine lv_iload hx hb dX9_sow_61 (lv_at hl 5 rfl) ?_
              refine lv_sipush (v := (25173 : Int32)) hx hb dX9_sow_63 (by decide) ?_
              refine lv_imul hx hb dX9_sow_66 ?_
              refine lv_sipush (v := (13849 : Int32)) hx hb dX9_sow_67 (by decide) ?_
              refine lv_iadd hx hb dX9_sow_70 ?_
              refine lv_ldc hx hb hown kc_113 dX9_sow_71 ?_
              refine lv_irem hx hb dX9_sow_73 (by decide) ?_
              refine lv_istore (lv' := [(5, .int (zr ((v5_1 * (25173 : Int32)) + (13849 : Int32)) (65536 : Int32))), (0, .ref q), (1, .int p0), (2, .int p1), (3, .int p2), (4, .ref w18), (6, .int v6_1), (7, .int v7_1)]) hx hb dX9_sow_74 hl (by decide) rfl (fun ls hl => ?_)
              refine lv_aload hx hb dX9_sow_76 (lv_at hl 5 rfl) ?_
              refine lv_iload hx hb dX9_sow_78 (lv_at hl 7 rfl) ?_
              refine lv_iload hx hb dX9_sow_80 (lv_at hl 0 rfl) ?_
              refine lv_bipush (v := (64 : Int32)) hx hb dX9_sow_82 (by decide) ?_
              refine lv_idiv hx hb dX9_sow_84 (by decide) ?_
              refine lv_iconst (v := (2 : Int32)) hx hb dX9_sow_85 (by decide) ?_
              refine lv_iload_n hx hb dX9_sow_86 rfl (lv_at hl 4 rfl) ?_
              refine lv_imul hx hb dX9_sow_87 ?_
              refine lv_iconst (v := (1 : Int32)) hx hb dX9_sow_88 (by decide) ?_
              refine lv_iadd hx hb dX9_sow_89 ?_
              obtain ⟨z90, h⟩ := zg_some h
              refine lv_irem hx hb dX9_sow_90 z90 ?_
              refine lv_iload_n hx hb dX9_sow_91 rfl (lv_at hl 4 rfl) ?_
              refine lv_isub hx hb dX9_sow_92 ?_
              refine lv_i2l (v := ((zr ((zr ((v5_1 * (25173 : Int32)) + (13849 : Int32)) (65536 : Int32)) / (64 : Int32)) (((2 : Int32) * p2) + (1 : Int32))) - p2).toInt64) hx hb dX9_sow_93 rfl ?_
              obtain ⟨z94, h⟩ := zg_some h
              refine va_last hx hb hK hP hD hS 2 0 rfl rfl z94 dX9_sow_94 (fun H locs hP hD hS => ?_)
              replace hP : va_P D vwCl (mW q v cJ V ib dn rf mk th_16 ++ ([(w18, .inl (cJ, 121, .inr (.inl (vp_updL f0_1 v7_1.toNatClampNeg (((zr ((zr ((v5_1 * (25173 : Int32)) + (13849 : Int32)) (65536 : Int32)) / (64 : Int32)) (((2 : Int32) * p2) + (1 : Int32))) - p2).toInt64)))))])) H := hP
              replace hD : va_D A (mW q v cJ V ib dn rf mk th_16 ++ ([(w18, .inl (cJ, 121, .inr (.inl (vp_updL f0_1 v7_1.toNatClampNeg (((zr ((zr ((v5_1 * (25173 : Int32)) + (13849 : Int32)) (65536 : Int32)) / (64 : Int32)) (((2 : Int32) * p2) + (1 : Int32))) - p2).toInt64)))))])) := hD
              refine lv_iload hx hb dX9_sow_95 (lv_at hl 6 rfl) ?_
              refine lv_aload hx hb dX9_sow_97 (lv_at hl 5 rfl) ?_
              refine lv_iload hx hb dX9_sow_99 (lv_at hl 7 rfl) ?_
              obtain ⟨z101, h⟩ := zg_some h
              refine va_lald hx hb hK hP 2 0 rfl rfl z101 dX9_sow_101 ?_
              refine lv_lconst (v := (0 : Int64)) hx hb dX9_sow_102 (by decide) ?_
              refine W.lcmp hx hb dX9_sow_103 ?_
              refine lv_if_ne (tgt := 111) hx hb dX9_sow_104 (by decide) (fun c104 => ?_) (fun c104 => ?_)
              · replace h := zif_t h c104
                refine lv_iconst (v := (0 : Int32)) hx hb dX9_sow_111 (by decide) ?_
                refine lv_iadd hx hb dX9_sow_112 ?_
                refine lv_istore (lv' := [(6, .int (v6_1 + (0 : Int32))), (5, .int (zr ((v5_1 * (25173 : Int32)) + (13849 : Int32)) (65536 : Int32))), (0, .ref q), (1, .int p0), (2, .int p1), (3, .int p2), (4, .ref w18), (7, .int v7_1)]) hx hb dX9_sow_113 hl (by decide) rfl (fun ls hl => ?_)
                refine lv_iinc (v := (v7_1 + (1 : Int32))) (lv' := [(7, .int (v7_1 + (1 : Int32))), (6, .int (v6_1 + (0 : Int32))), (5, .int (zr ((v5_1 * (25173 : Int32)) + (13849 : Int32)) (65536 : Int32))), (0, .ref q), (1, .int p0), (2, .int p1), (3, .int p2), (4, .ref w18)]) hx hb dX9_sow_115 hl (k := 7) rfl rfl (by decide) rfl (fun ls hl => ?_)
                refine lv_goto (tgt := 54) hx hb dX9_sow_118 (by decide) ?_
                exact hGW _ _ _ _ _ (ih1 (zr ((v5_1 * (25173 : Int32)) + (13849 : Int32)) (65536 : Int32)) (v6_1 + (0 : Int32)) (v7_1 + (1 : Int32)) (vp_updL f0_1 v7_1.toNatClampNeg (((zr ((zr ((v5_1 * (25173 : Int32)) + (13849 : Int32)) (65536 : Int32)) / (64 : Int32)) (((2 : Int32) * p2) + (1 : Int32))) - p2).toInt64)) _ _ ls hP hD hS (lv_sub hl [3, 4, 5, 6, 7, 2, 1, 0] rfl) h)
              · replace h := zif_fn h c104
                refine lv_iconst (v := (1 : Int32)) hx hb dX9_sow_107 (by decide) ?_
                refine lv_goto (tgt := 112) hx hb dX9_sow_108 (by decide) ?_
                refine lv_iadd hx hb dX9_sow_112 ?_
                refine lv_istore (lv' := [(6, .int (v6_1 + (1 : Int32))), (5, .int (zr ((v5_1 * (25173 : Int32)) + (13849 : Int32)) (65536 : Int32))), (0, .ref q), (1, .int p0), (2, .int p1), (3, .int p2), (4, .ref w18), (7, .int v7_1)]) hx hb dX9_sow_113 hl (by decide) rfl (fun ls hl => ?_)
                refine lv_iinc (v := (v7_1 + (1 : Int32))) (lv' := [(7, .int (v7_1 + (1 : Int32))), (6, .int (v6_1 + (1 : Int32))), (5, .int (zr ((v5_1 * (25173 : Int32)) + (13849 : Int32)) (65536 : Int32))), (0, .ref q), (1, .int p0), (2, .int p1), (3, .int p2), (4, .ref w18)]) hx hb dX9_sow_115 hl (k := 7) rfl rfl (by decide) rfl (fun ls hl => ?_)
                refine lv_goto (tgt := 54) hx hb dX9_sow_118 (by decide) ?_
                exact hGW _ _ _ _ _ (ih1 (zr ((v5_1 * (25173 : Int32)) + (13849 : Int32)) (65536 : Int32)) (v6_1 + (1 : Int32)) (v7_1 + (1 : Int32)) (vp_updL f0_1 v7_1.toNatClampNeg (((zr ((zr ((v5_1 * (25173 : Int32)) + (13849 : Int32)) (65536 : Int32)) / (64 : Int32)) (((2 : Int32) * p2) + (1 : Int32))) - p2).toInt64)) _ _ ls hP hD hS (lv_sub hl [3, 4, 5, 6, 7, 2, 1, 0] rfl) h)
        exact hGW _ _ _ _ _ (L1 _ X1 F p1 (0 : Int32) (1 : Int32) (fun _ => 0) _ _ ls hP hD hS (lv_sub hl [4, 5, 6, 7, 3, 2, 1, 0] rfl) h)
      · replace h := zif_f h c34
        refine lv_iconst (v := (0 : Int32)) hx hb dX9_sow_37 (by decide) ?_
        have g0 := Option.some.inj h
        obtain ⟨h1, g1⟩ := Prod.mk.inj g0
        obtain ⟨h2, g2⟩ := Prod.mk.inj g1
        obtain ⟨h3, g3⟩ := Prod.mk.inj g2
        subst h1
        subst h2
        subst h3
        subst g3
        refine W.widen (k := 1) (n := 121) (by decide) (by decide) ?_
        exact W.iret (v := (0 : Int32)) hx hb hr (fun t ht hW => ⟨⟨(0 : Int32), (), rfl, rfl, by rw [ht]; exact hP, va_K.moved hW.alike hK, hD⟩, hS.F ht⟩) hS.2.2 dX9_sow_38

noncomputable def p_X9_copy (F : Nat) (V : Nat → Int64) (dn : Int32) (p0 : Int32) (p1 : Int32) : Option (Int32 × (Nat → Int64) × Int32 × Int32) := (zb1 (p_X9_isOne p0) (fun r1 => (zlt (zb2 (p_X9_isThrown false true) (fun r3 th_4 => (if (z01 r3) = 0 then (zb1 (p_X9_of F V p0) (fun r6 => (zb3 (p_X9_become F V dn p1 r6) (fun r9 V_10 dn_11 => (some (r9, V_10, dn_11, th_4)))))) else (some ((0 : Int32), V, dn, th_4))))) (fun jf0 => (if (z01 r1) = 0 then (jf0 ) else (zb1 (p_X9_isOne p1) (fun r13 => (if (z01 r13) = 0 then (jf0 ) else (zb2 (p_X9_isThrown true true) (fun r15 th_16 => (if (z01 r15) = 0 then (zb1 (p_X9_of F V p0) (fun r18 => (zb3 (p_X9_become F V dn p1 r18) (fun r21 V_22 dn_23 => (some (r21, V_22, dn_23, th_16)))))) else (some ((0 : Int32), V, dn, th_16)))))))))))))
theorem hdV_X9_copy : yX9_copy.cls = RX9 ∧ yX9_copy.cls ≠ "java/lang/invoke/MethodHandle" ∧ yX9_copy.cls ≠ "java/lang/invoke/VarHandle" ∧ (parseMethodDescriptor yX9_copy.desc).map (fun d => d.parameters.length) = some 2 := by decide +kernel
set_option maxHeartbeats 4000000 in
set_option maxRecDepth 100000 in
theorem c_X9_copy (l : Launch) (D : va_G) (q v : Nat) (cJ cI cO cB : ClassId) (V : Nat → Int64) (ib : Bool) (dn : Int32) (rf : Int32) (mk : Int32) (th : Int32) (F : Nat) (p0 : Int32) (p1 : Int32) (r : Int32) (V' : Nat → Int64) (dn' : Int32) (th' : Int32) (h : p_X9_copy F V dn p0 p1 = some (r, V', dn', th')) : zMi l yX9_copy wsX9_copy 2 46 1 121 D (zT cJ cI cO cB) [.ref q, .int p0, .int p1] (mW q v cJ V ib dn rf mk th) (mW q v cJ V' ib dn' rf mk th') r := by
  intro sz
  delta zQi
  refine Met.ofW (cc := cX9_copy) (maxL := 3) (ret := (some .int)) (by decide) rfl ?_
  intro p e s m args below meth c s₁ B hml hv
  obtain ⟨rfl, hsz, hP, hK, hD0⟩ := hv
  have hx := B.exec
  have hb := B.bytes
  have hr := B.returns
  have hts := atoms_spec (ws := wsX9_copy) B.pre
  have hown : s.vm.findClass RX9 = some m.cls := findClass_of_methodNamed B.named
  have hlocks := B.notSynchronized
  subst hsz
  have hD := hD0.self (sz := s.heap.size)
  generalize hAe : va_A (mW q v cJ V ib dn rf mk th) s.heap.size = A at hD ⊢
  have hA : ∀ q : Nat, s.heap.size ≤ q → A q := fun q h => by rw [← hAe]; exact Or.inr h
  have hS : va_S A s.heap s.heap [] := va_S.rf
  have hl := lv_entry ([.ref q, .int p0, .int p1]) (n := 3) (Nat.le_of_ble_eq_true rfl)
  rw [lg_entry_eq]
  generalize (lg_sl ([.ref q, .int p0, .int p1]) ++ List.replicate (3 - (lg_sl ([.ref q, .int p0, .int p1])).length) Slot.unset).toArray = ls at hl ⊢
  replace hl : lv_has ls 3 [(0, .ref q), (1, .int p0), (2, .int p1)] := hl
  replace h : (zb1 (p_X9_isOne p0) (fun r1 => (zlt (zb2 (p_X9_isThrown false true) (fun r3 th_4 => (if (z01 r3) = 0 then (zb1 (p_X9_of F V p0) (fun r6 => (zb3 (p_X9_become F V dn p1 r6) (fun r9 V_10 dn_11 => (some (r9, V_10, dn_11, th_4)))))) else (some ((0 : Int32), V, dn, th_4))))) (fun jf0 => (if (z01 r1) = 0 then (jf0 ) else (zb1 (p_X9_isOne p1) (fun r13 => (if (z01 r13) = 0 then (jf0 ) else (zb2 (p_X9_isThrown true true) (fun r15 th_16 => (if (z01 r15) = 0 then (zb1 (p_X9_of F V p0) (fun r18 => (zb3 (p_X9_become F V dn p1 r18) (fun r21 V_22 dn_23 => (some (r21, V_22, dn_23, th_16)))))) else (some ((0 : Int32), V, dn, th_16))))))))))))) = some (r, V', dn', th') := h
  refine zabs (fun G hG hGW => ?_)
  obtain ⟨H, hHe⟩ : ∃ H, H = s.heap := ⟨_, rfl⟩
  rw [← hHe] at hP
  replace hS : va_S A s.heap H [] := by rw [hHe]; exact hS
  refine zheap hHe ?_
  refine lv_aload_n hx hb dX9_copy_0 rfl (lv_at hl 0 rfl) ?_
  refine lv_iload_n hx hb dX9_copy_1 rfl (lv_at hl 1 rfl) ?_
  obtain ⟨r1, e2, h⟩ := zb1_some h
  refine zgoi (va_runS (As := [.int p0]) (rest := [.ref q]) ⟨hx, hb, hml, hown, hts⟩ (c_X9_isOne l D (zT cJ cI cO cB) p0 r1 e2 H.size) (va_cwS 1 hts gX9_copy_X9_isOne rfl rfl rfl hdS_X9_isOne ⟨Nat.le_of_ble_eq_true rfl, Nat.le_of_ble_eq_true rfl⟩) (zpreS hK zP0 (zD0 (A := A)) [.int p0]) rfl rfl hl.1 rfl (lv_room (Nat.le_of_ble_eq_true rfl)) dX9_copy_2 ⟨Nat.le_of_ble_eq_true rfl, Nat.le_of_ble_eq_true rfl⟩) (zf0 hS hA) (zjE hP hD) hS (fun H locs hP hD hS => ?_)
  have J0 : ∀  (H : Heap) (locs : List Loc) (ls : Array Slot), va_P D vwCl (mW q v cJ V ib dn rf mk th) H → va_D A (mW q v cJ V ib dn rf mk th) → va_S A s.heap H locs → lv_has ls 3 [(0, .ref q), (1, .int p0), (2, .int p1)] → (zb2 (p_X9_isThrown false true) (fun r3 th_4 => (if (z01 r3) = 0 then (zb1 (p_X9_of F V p0) (fun r6 => (zb3 (p_X9_become F V dn p1 r6) (fun r9 V_10 dn_11 => (some (r9, V_10, dn_11, th_4)))))) else (some ((0 : Int32), V, dn, th_4))))) = some (r, V', dn', th') → G H locs 0 0 (F0 m 19 ls [.ref q]) := by
    intro  H locs ls hP hD hS hl h
    refine hG _ _ _ _ _ ?_
    refine lv_iconst (v := (0 : Int32)) hx hb dX9_copy_19 (by decide) ?_
    refine lv_iconst (v := (1 : Int32)) hx hb dX9_copy_20 (by decide) ?_
    obtain ⟨r3, th_4, e5, h⟩ := zb2_some h
    refine zgoi (va_runV (As := [.int (0 : Int32), .int (1 : Int32)]) (rest := []) ⟨hx, hb, hml, hown, hts⟩ (c_X9_isThrown l D q v cJ cI cO cB V ib dn rf mk th false true r3 th_4 e5 H.size) (cwV 2 hts gX9_copy_X9_isThrown rfl rfl rfl hdV_X9_isThrown ⟨Nat.le_of_ble_eq_true rfl, Nat.le_of_ble_eq_true rfl⟩) (zpreV (q0 := 0) (ci := 9) (T := TX9) (N := 6) hK hP hD rfl rfl [.int (0 : Int32), .int (1 : Int32)]) rfl rfl hl.1 rfl (lv_room (Nat.le_of_ble_eq_true rfl)) dX9_copy_21 ⟨Nat.le_of_ble_eq_true rfl, Nat.le_of_ble_eq_true rfl⟩) (zfree hD hS hA) (zjW hD hS hA) hS (fun H locs hP hD hS => ?_)
    replace hP : va_P D vwCl (mW q v cJ V ib dn rf mk th_4) H := hP
    replace hD : va_D A (mW q v cJ V ib dn rf mk th_4) := hD
    refine lv_if_eq (tgt := 31) hx hb dX9_copy_24 (by decide) (fun c24 => ?_) (fun c24 => ?_)
    · replace h := zif_t h c24
      refine lv_aload_n hx hb dX9_copy_31 rfl (lv_at hl 0 rfl) ?_
      refine lv_iload_n hx hb dX9_copy_32 rfl (lv_at hl 2 rfl) ?_
      refine lv_aload_n hx hb dX9_copy_33 rfl (lv_at hl 0 rfl) ?_
      refine lv_iload_n hx hb dX9_copy_34 rfl (lv_at hl 1 rfl) ?_
      obtain ⟨r6, e7, h⟩ := zb1_some h
      refine zgon (va_runV (As := [.int p0]) (rest := [.int p1, .ref q]) ⟨hx, hb, hml, hown, hts⟩ (c_X9_of l D q v cJ cI cO cB V ib dn rf mk th_4 F p0 r6 e7 H.size) (cwV 1 hts gX9_copy_X9_of rfl rfl rfl hdV_X9_of ⟨Nat.le_of_ble_eq_true rfl, Nat.le_of_ble_eq_true rfl⟩) (zpreV (q0 := 0) (ci := 9) (T := TX9) (N := 6) hK hP hD rfl rfl [.int p0]) rfl rfl hl.1 rfl (lv_room (Nat.le_of_ble_eq_true rfl)) dX9_copy_35 ⟨Nat.le_of_ble_eq_true rfl, Nat.le_of_ble_eq_true rfl⟩) (zfree hD hS hA) (fun _ => zjW hD hS hA) hS (fun w8 H locs hP hD hS => ?_)
      replace hP : va_P D vwCl (mW q v cJ V ib dn rf mk th_4 ++ ([(w8, .inl (cJ, 121, .inr (.inl r6)))])) H := hP
      replace hD : va_D A (mW q v cJ V ib dn rf mk th_4 ++ ([(w8, .inl (cJ, 121, .inr (.inl r6)))])) := hD
      obtain ⟨r9, V_10, dn_11, e12, h⟩ := zb3_some h
      refine zgoi (va_runV (As := [.int p1, .ref w8]) (rest := []) ⟨hx, hb, hml, hown, hts⟩ (c_X9_become l D q v cJ cI cO cB V ib dn rf mk th_4 F p1 w8 r6 r9 V_10 dn_11 e12 H.size) (cwV 2 hts gX9_copy_X9_become rfl rfl rfl hdV_X9_become ⟨Nat.le_of_ble_eq_true rfl, Nat.le_of_ble_eq_true rfl⟩) (zpreV (q0 := 0) (ci := 9) (T := TX9) (N := 6) hK hP hD rfl rfl [.int p1, .ref w8]) rfl rfl hl.1 rfl (lv_room (Nat.le_of_ble_eq_true rfl)) dX9_copy_38 ⟨Nat.le_of_ble_eq_true rfl, Nat.le_of_ble_eq_true rfl⟩) (zfree hD hS hA) (zjW hD hS hA) hS (fun H locs hP hD hS => ?_)
      replace hP : va_P D vwCl (mW q v cJ V_10 ib dn_11 rf mk th_4 ++ ([(w8, .inl (cJ, 121, .inr (.inl r6)))])) H := hP
      replace hD : va_D A (mW q v cJ V_10 ib dn_11 rf mk th_4 ++ ([(w8, .inl (cJ, 121, .inr (.inl r6)))])) := hD
      have g0 := Option.some.inj h
      obtain ⟨h1, g1⟩ := Prod.mk.inj g0
      obtain ⟨h2, g2⟩ := Prod.mk.inj g1
      obtain ⟨h3, g3⟩ := Prod.mk.inj g2
      subst h1
      subst h2
      subst h3
      subst g3
      replace hP := zsub (wn := (mW q v cJ V_10 ib dn_11 rf mk th_4)) hP [0, 1] rfl
      replace hD := hD.sub (ws' := (mW q v cJ V_10 ib dn_11 rf mk th_4)) [0, 1] (by decide) rfl
      exact W.iret (v := r9) hx hb hr (fun t ht hW => ⟨⟨r9, (), rfl, rfl, by rw [ht]; exact hP, va_K.moved hW.alike hK, hD⟩, hS.F ht⟩) hS.2.2 dX9_copy_41
    · replace h := zif_f h c24
      refine lv_iconst (v := (0 : Int32)) hx hb dX9_copy_27 (by decide) ?_
      refine lv_goto (tgt := 41) hx hb dX9_copy_28 (by decide) ?_
      have g0 := Option.some.inj h
      obtain ⟨h1, g1⟩ := Prod.mk.inj g0
      obtain ⟨h2, g2⟩ := Prod.mk.inj g1
      obtain ⟨h3, g3⟩ := Prod.mk.inj g2
      subst h1
      subst h2
      subst h3
      subst g3
      refine W.widen (k := 1) (n := 121) (by decide) (by decide) ?_
      exact W.iret (v := (0 : Int32)) hx hb hr (fun t ht hW => ⟨⟨(0 : Int32), (), rfl, rfl, by rw [ht]; exact hP, va_K.moved hW.alike hK, hD⟩, hS.F ht⟩) hS.2.2 dX9_copy_41
  replace h := zlt_h h
  refine lv_if_eq (tgt := 19) hx hb dX9_copy_5 (by decide) (fun c5 => ?_) (fun c5 => ?_)
  · replace h := zif_t h c5
    exact hGW _ _ _ _ _ (J0  _ _ ls hP hD hS (lv_sub hl [0, 1, 2] rfl) h)
  · replace h := zif_f h c5
    refine lv_iload_n hx hb dX9_copy_8 rfl (lv_at hl 2 rfl) ?_
    obtain ⟨r13, e14, h⟩ := zb1_some h
    refine zgoi (va_runS (As := [.int p1]) (rest := [.ref q]) ⟨hx, hb, hml, hown, hts⟩ (c_X9_isOne l D (zT cJ cI cO cB) p1 r13 e14 H.size) (va_cwS 1 hts gX9_copy_X9_isOne rfl rfl rfl hdS_X9_isOne ⟨Nat.le_of_ble_eq_true rfl, Nat.le_of_ble_eq_true rfl⟩) (zpreS hK zP0 (zD0 (A := A)) [.int p1]) rfl rfl hl.1 rfl (lv_room (Nat.le_of_ble_eq_true rfl)) dX9_copy_9 ⟨Nat.le_of_ble_eq_true rfl, Nat.le_of_ble_eq_true rfl⟩) (zf0 hS hA) (zjE hP hD) hS (fun H locs hP hD hS => ?_)
    refine lv_if_eq (tgt := 19) hx hb dX9_copy_12 (by decide) (fun c12 => ?_) (fun c12 => ?_)
    · replace h := zif_t h c12
      exact hGW _ _ _ _ _ (J0  _ _ ls hP hD hS (lv_sub hl [0, 1, 2] rfl) h)
    · replace h := zif_f h c12
      refine lv_iconst (v := (1 : Int32)) hx hb dX9_copy_15 (by decide) ?_
      refine lv_goto (tgt := 20) hx hb dX9_copy_16 (by decide) ?_
      refine lv_iconst (v := (1 : Int32)) hx hb dX9_copy_20 (by decide) ?_
      obtain ⟨r15, th_16, e17, h⟩ := zb2_some h
      refine zgoi (va_runV (As := [.int (1 : Int32), .int (1 : Int32)]) (rest := []) ⟨hx, hb, hml, hown, hts⟩ (c_X9_isThrown l D q v cJ cI cO cB V ib dn rf mk th true true r15 th_16 e17 H.size) (cwV 2 hts gX9_copy_X9_isThrown rfl rfl rfl hdV_X9_isThrown ⟨Nat.le_of_ble_eq_true rfl, Nat.le_of_ble_eq_true rfl⟩) (zpreV (q0 := 0) (ci := 9) (T := TX9) (N := 6) hK hP hD rfl rfl [.int (1 : Int32), .int (1 : Int32)]) rfl rfl hl.1 rfl (lv_room (Nat.le_of_ble_eq_true rfl)) dX9_copy_21 ⟨Nat.le_of_ble_eq_true rfl, Nat.le_of_ble_eq_true rfl⟩) (zfree hD hS hA) (zjW hD hS hA) hS (fun H locs hP hD hS => ?_)
      replace hP : va_P D vwCl (mW q v cJ V ib dn rf mk th_16) H := hP
      replace hD : va_D A (mW q v cJ V ib dn rf mk th_16) := hD
      refine lv_if_eq (tgt := 31) hx hb dX9_copy_24 (by decide) (fun c24 => ?_) (fun c24 => ?_)
      · replace h := zif_t h c24
        refine lv_aload_n hx hb dX9_copy_31 rfl (lv_at hl 0 rfl) ?_
        refine lv_iload_n hx hb dX9_copy_32 rfl (lv_at hl 2 rfl) ?_
        refine lv_aload_n hx hb dX9_copy_33 rfl (lv_at hl 0 rfl) ?_
        refine lv_iload_n hx hb dX9_copy_34 rfl (lv_at hl 1 rfl) ?_
        obtain ⟨r18, e19, h⟩ := zb1_some h
        refine zgon (va_runV (As := [.int p0]) (rest := [.int p1, .ref q]) ⟨hx, hb, hml, hown, hts⟩ (c_X9_of l D q v cJ cI cO cB V ib dn rf mk th_16 F p0 r18 e19 H.size) (cwV 1 hts gX9_copy_X9_of rfl rfl rfl hdV_X9_of ⟨Nat.le_of_ble_eq_true rfl, Nat.le_of_ble_eq_true rfl⟩) (zpreV (q0 := 0) (ci := 9) (T := TX9) (N := 6) hK hP hD rfl rfl [.int p0]) rfl rfl hl.1 rfl (lv_room (Nat.le_of_ble_eq_true rfl)) dX9_copy_35 ⟨Nat.le_of_ble_eq_true rfl, Nat.le_of_ble_eq_true rfl⟩) (zfree hD hS hA) (fun _ => zjW hD hS hA) hS (fun w20 H locs hP hD hS => ?_)
        replace hP : va_P D vwCl (mW q v cJ V ib dn rf mk th_16 ++ ([(w20, .inl (cJ, 121, .inr (.inl r18)))])) H := hP
        replace hD : va_D A (mW q v cJ V ib dn rf mk th_16 ++ ([(w20, .inl (cJ, 121, .inr (.inl r18)))])) := hD
        obtain ⟨r21, V_22, dn_23, e24, h⟩ := zb3_some h
        refine zgoi (va_runV (As := [.int p1, .ref w20]) (rest := []) ⟨hx, hb, hml, hown, hts⟩ (c_X9_become l D q v cJ cI cO cB V ib dn rf mk th_16 F p1 w20 r18 r21 V_22 dn_23 e24 H.size) (cwV 2 hts gX9_copy_X9_become rfl rfl rfl hdV_X9_become ⟨Nat.le_of_ble_eq_true rfl, Nat.le_of_ble_eq_true rfl⟩) (zpreV (q0 := 0) (ci := 9) (T := TX9) (N := 6) hK hP hD rfl rfl [.int p1, .ref w20]) rfl rfl hl.1 rfl (lv_room (Nat.le_of_ble_eq_true rfl)) dX9_copy_38 ⟨Nat.le_of_ble_eq_true rfl, Nat.le_of_ble_eq_true rfl⟩) (zfree hD hS hA) (zjW hD hS hA) hS (fun H locs hP hD hS => ?_)
        replace hP : va_P D vwCl (mW q v cJ V_22 ib dn_23 rf mk th_16 ++ ([(w20, .inl (cJ, 121, .inr (.inl r18)))])) H := hP
        replace hD : va_D A (mW q v cJ V_22 ib dn_23 rf mk th_16 ++ ([(w20, .inl (cJ, 121, .inr (.inl r18)))])) := hD
        have g0 := Option.some.inj h
        obtain ⟨h1, g1⟩ := Prod.mk.inj g0
        obtain ⟨h2, g2⟩ := Prod.mk.inj g1
        obtain ⟨h3, g3⟩ := Prod.mk.inj g2
        subst h1
        subst h2
        subst h3
        subst g3
        replace hP := zsub (wn := (mW q v cJ V_22 ib dn_23 rf mk th_16)) hP [0, 1] rfl
        replace hD := hD.sub (ws' := (mW q v cJ V_22 ib dn_23 rf mk th_16)) [0, 1] (by decide) rfl
        exact W.iret (v := r21) hx hb hr (fun t ht hW => ⟨⟨r21, (), rfl, rfl, by rw [ht]; exact hP, va_K.moved hW.alike hK, hD⟩, hS.F ht⟩) hS.2.2 dX9_copy_41
      · replace h := zif_f h c24
        refine lv_iconst (v := (0 : Int32)) hx hb dX9_copy_27 (by decide) ?_
        refine lv_goto (tgt := 41) hx hb dX9_copy_28 (by decide) ?_
        have g0 := Option.some.inj h
        obtain ⟨h1, g1⟩ := Prod.mk.inj g0
        obtain ⟨h2, g2⟩ := Prod.mk.inj g1
        obtain ⟨h3, g3⟩ := Prod.mk.inj g2
        subst h1
        subst h2
        subst h3
        subst g3
        refine W.widen (k := 1) (n := 121) (by decide) (by decide) ?_
        exact W.iret (v := (0 : Int32)) hx hb hr (fun t ht hW => ⟨⟨(0 : Int32), (), rfl, rfl, by rw [ht]; exact hP, va_K.moved hW.alike hK, hD⟩, hS.F ht⟩) hS.2.2 dX9_copy_41

noncomputable def p_X9_swap (F : Nat) (V : Nat → Int64) (dn : Int32) (p0 : Int32) (p1 : Int32) : Option (Int32 × (Nat → Int64) × Int32 × Int32) := (zb1 (p_X9_isOne p0) (fun r1 => (zlt (zb2 (p_X9_isThrown false true) (fun r3 th_4 => (if (z01 r3) = 0 then (zb1 (p_X9_of F V p1) (fun r6 => (zb1 (p_X9_of F V p0) (fun r9 => (zb3 (p_X9_become F V dn p1 r9) (fun r12 V_13 dn_14 => (zb3 (p_X9_become F V_13 dn_14 p0 r6) (fun r16 V_17 dn_18 => (some (r12, V_17, (dn_18 - (1 : Int32)), th_4)))))))))) else (some ((0 : Int32), V, dn, th_4))))) (fun jf0 => (if (z01 r1) = 0 then (jf0 ) else (zb1 (p_X9_isOne p1) (fun r20 => (if (z01 r20) = 0 then (jf0 ) else (zb2 (p_X9_isThrown true true) (fun r22 th_23 => (if (z01 r22) = 0 then (zb1 (p_X9_of F V p1) (fun r25 => (zb1 (p_X9_of F V p0) (fun r28 => (zb3 (p_X9_become F V dn p1 r28) (fun r31 V_32 dn_33 => (zb3 (p_X9_become F V_32 dn_33 p0 r25) (fun r35 V_36 dn_37 => (some (r31, V_36, (dn_37 - (1 : Int32)), th_23)))))))))) else (some ((0 : Int32), V, dn, th_23)))))))))))))
theorem hdV_X9_swap : yX9_swap.cls = RX9 ∧ yX9_swap.cls ≠ "java/lang/invoke/MethodHandle" ∧ yX9_swap.cls ≠ "java/lang/invoke/VarHandle" ∧ (parseMethodDescriptor yX9_swap.desc).map (fun d => d.parameters.length) = some 2 := by decide +kernel
set_option maxHeartbeats 4000000 in
set_option maxRecDepth 100000 in
theorem c_X9_swap (l : Launch) (D : va_G) (q v : Nat) (cJ cI cO cB : ClassId) (V : Nat → Int64) (ib : Bool) (dn : Int32) (rf : Int32) (mk : Int32) (th : Int32) (F : Nat) (p0 : Int32) (p1 : Int32) (r : Int32) (V' : Nat → Int64) (dn' : Int32) (th' : Int32) (h : p_X9_swap F V dn p0 p1 = some (r, V', dn', th')) : zMi l yX9_swap wsX9_swap 2 46 2 242 D (zT cJ cI cO cB) [.ref q, .int p0, .int p1] (mW q v cJ V ib dn rf mk th) (mW q v cJ V' ib dn' rf mk th') r := by
  intro sz
  delta zQi
  refine Met.ofW (cc := cX9_swap) (maxL := 5) (ret := (some .int)) (by decide) rfl ?_
  intro p e s m args below meth c s₁ B hml hv
  obtain ⟨rfl, hsz, hP, hK, hD0⟩ := hv
  have hx := B.exec
  have hb := B.bytes
  have hr := B.returns
  have hts := atoms_spec (ws := wsX9_swap) B.pre
  have hown : s.vm.findClass RX9 = some m.cls := findClass_of_methodNamed B.named
  have hlocks := B.notSynchronized
  subst hsz
  have hD := hD0.self (sz := s.heap.size)
  generalize hAe : va_A (mW q v cJ V ib dn rf mk th) s.heap.size = A at hD ⊢
  have hA : ∀ q : Nat, s.heap.size ≤ q → A q := fun q h => by rw [← hAe]; exact Or.inr h
  have hS : va_S A s.heap s.heap [] := va_S.rf
  have hl := lv_entry ([.ref q, .int p0, .int p1]) (n := 5) (Nat.le_of_ble_eq_true rfl)
  rw [lg_entry_eq]
  generalize (lg_sl ([.ref q, .int p0, .int p1]) ++ List.replicate (5 - (lg_sl ([.ref q, .int p0, .int p1])).length) Slot.unset).toArray = ls at hl ⊢
  replace hl : lv_has ls 5 [(0, .ref q), (1, .int p0), (2, .int p1)] := hl
  have kwX9 : ∀ w ∈ u_ws RX9 TX9 6, w ∈ wsX9_swap := fun w h => List.mem_cons_of_mem _ (List.mem_append_left _ (List.mem_append_left _ (List.mem_append_right _ (List.mem_cons_of_mem _ (List.mem_append_right _ h)))))
  have kf_79 := hts (.fieldLink RX9 79 "DivisorworkModel" "done" "I") (List.mem_cons_of_mem _ (List.mem_append_right _ (zmem 1 rfl)))
  replace h : (zb1 (p_X9_isOne p0) (fun r1 => (zlt (zb2 (p_X9_isThrown false true) (fun r3 th_4 => (if (z01 r3) = 0 then (zb1 (p_X9_of F V p1) (fun r6 => (zb1 (p_X9_of F V p0) (fun r9 => (zb3 (p_X9_become F V dn p1 r9) (fun r12 V_13 dn_14 => (zb3 (p_X9_become F V_13 dn_14 p0 r6) (fun r16 V_17 dn_18 => (some (r12, V_17, (dn_18 - (1 : Int32)), th_4)))))))))) else (some ((0 : Int32), V, dn, th_4))))) (fun jf0 => (if (z01 r1) = 0 then (jf0 ) else (zb1 (p_X9_isOne p1) (fun r20 => (if (z01 r20) = 0 then (jf0 ) else (zb2 (p_X9_isThrown true true) (fun r22 th_23 => (if (z01 r22) = 0 then (zb1 (p_X9_of F V p1) (fun r25 => (zb1 (p_X9_of F V p0) (fun r28 => (zb3 (p_X9_become F V dn p1 r28) (fun r31 V_32 dn_33 => (zb3 (p_X9_become F V_32 dn_33 p0 r25) (fun r35 V_36 dn_37 => (some (r31, V_36, (dn_37 - (1 : Int32)), th_23)))))))))) else (some ((0 : Int32), V, dn, th_23))))))))))))) = some (r, V', dn', th') := h
  refine zabs (fun G hG hGW => ?_)
  obtain ⟨H, hHe⟩ : ∃ H, H = s.heap := ⟨_, rfl⟩
  rw [← hHe] at hP
  replace hS : va_S A s.heap H [] := by rw [hHe]; exact hS
  refine zheap hHe ?_
  refine lv_aload_n hx hb dX9_swap_0 rfl (lv_at hl 0 rfl) ?_
  refine lv_iload_n hx hb dX9_swap_1 rfl (lv_at hl 1 rfl) ?_
  obtain ⟨r1, e2, h⟩ := zb1_some h
  refine zgoi (va_runS (As := [.int p0]) (rest := [.ref q]) ⟨hx, hb, hml, hown, hts⟩ (c_X9_isOne l D (zT cJ cI cO cB) p0 r1 e2 H.size) (va_cwS 1 hts gX9_swap_X9_isOne rfl rfl rfl hdS_X9_isOne ⟨Nat.le_of_ble_eq_true rfl, Nat.le_of_ble_eq_true rfl⟩) (zpreS hK zP0 (zD0 (A := A)) [.int p0]) rfl rfl hl.1 rfl (lv_room (Nat.le_of_ble_eq_true rfl)) dX9_swap_2 ⟨Nat.le_of_ble_eq_true rfl, Nat.le_of_ble_eq_true rfl⟩) (zf0 hS hA) (zjE hP hD) hS (fun H locs hP hD hS => ?_)
  have J0 : ∀  (H : Heap) (locs : List Loc) (ls : Array Slot), va_P D vwCl (mW q v cJ V ib dn rf mk th) H → va_D A (mW q v cJ V ib dn rf mk th) → va_S A s.heap H locs → lv_has ls 5 [(0, .ref q), (1, .int p0), (2, .int p1)] → (zb2 (p_X9_isThrown false true) (fun r3 th_4 => (if (z01 r3) = 0 then (zb1 (p_X9_of F V p1) (fun r6 => (zb1 (p_X9_of F V p0) (fun r9 => (zb3 (p_X9_become F V dn p1 r9) (fun r12 V_13 dn_14 => (zb3 (p_X9_become F V_13 dn_14 p0 r6) (fun r16 V_17 dn_18 => (some (r12, V_17, (dn_18 - (1 : Int32)), th_4)))))))))) else (some ((0 : Int32), V, dn, th_4))))) = some (r, V', dn', th') → G H locs 0 0 (F0 m 19 ls [.ref q]) := by
    intro  H locs ls hP hD hS hl h
    refine hG _ _ _ _ _ ?_
    refine lv_iconst (v := (0 : Int32)) hx hb dX9_swap_19 (by decide) ?_
    refine lv_iconst (v := (1 : Int32)) hx hb dX9_swap_20 (by decide) ?_
    obtain ⟨r3, th_4, e5, h⟩ := zb2_some h
    refine zgoi (va_runV (As := [.int (0 : Int32), .int (1 : Int32)]) (rest := []) ⟨hx, hb, hml, hown, hts⟩ (c_X9_isThrown l D q v cJ cI cO cB V ib dn rf mk th false true r3 th_4 e5 H.size) (cwV 2 hts gX9_swap_X9_isThrown rfl rfl rfl hdV_X9_isThrown ⟨Nat.le_of_ble_eq_true rfl, Nat.le_of_ble_eq_true rfl⟩) (zpreV (q0 := 0) (ci := 9) (T := TX9) (N := 6) hK hP hD rfl rfl [.int (0 : Int32), .int (1 : Int32)]) rfl rfl hl.1 rfl (lv_room (Nat.le_of_ble_eq_true rfl)) dX9_swap_21 ⟨Nat.le_of_ble_eq_true rfl, Nat.le_of_ble_eq_true rfl⟩) (zfree hD hS hA) (zjW hD hS hA) hS (fun H locs hP hD hS => ?_)
    replace hP : va_P D vwCl (mW q v cJ V ib dn rf mk th_4) H := hP
    replace hD : va_D A (mW q v cJ V ib dn rf mk th_4) := hD
    refine lv_if_eq (tgt := 29) hx hb dX9_swap_24 (by decide) (fun c24 => ?_) (fun c24 => ?_)
    · replace h := zif_t h c24
      refine lv_aload_n hx hb dX9_swap_29 rfl (lv_at hl 0 rfl) ?_
      refine lv_iload_n hx hb dX9_swap_30 rfl (lv_at hl 2 rfl) ?_
      obtain ⟨r6, e7, h⟩ := zb1_some h
      refine zgon (va_runV (As := [.int p1]) (rest := []) ⟨hx, hb, hml, hown, hts⟩ (c_X9_of l D q v cJ cI cO cB V ib dn rf mk th_4 F p1 r6 e7 H.size) (cwV 1 hts gX9_swap_X9_of rfl rfl rfl hdV_X9_of ⟨Nat.le_of_ble_eq_true rfl, Nat.le_of_ble_eq_true rfl⟩) (zpreV (q0 := 0) (ci := 9) (T := TX9) (N := 6) hK hP hD rfl rfl [.int p1]) rfl rfl hl.1 rfl (lv_room (Nat.le_of_ble_eq_true rfl)) dX9_swap_31 ⟨Nat.le_of_ble_eq_true rfl, Nat.le_of_ble_eq_true rfl⟩) (zfree hD hS hA) (fun _ => zjW hD hS hA) hS (fun w8 H locs hP hD hS => ?_)
      replace hP : va_P D vwCl (mW q v cJ V ib dn rf mk th_4 ++ ([(w8, .inl (cJ, 121, .inr (.inl r6)))])) H := hP
      replace hD : va_D A (mW q v cJ V ib dn rf mk th_4 ++ ([(w8, .inl (cJ, 121, .inr (.inl r6)))])) := hD
      refine lv_astore_n (lv' := [(3, .ref w8), (0, .ref q), (1, .int p0), (2, .int p1)]) hx hb dX9_swap_34 rfl hl (by decide) rfl (fun ls hl => ?_)
      refine lv_aload_n hx hb dX9_swap_35 rfl (lv_at hl 1 rfl) ?_
      refine lv_iload_n hx hb dX9_swap_36 rfl (lv_at hl 3 rfl) ?_
      refine lv_aload_n hx hb dX9_swap_37 rfl (lv_at hl 1 rfl) ?_
      refine lv_iload_n hx hb dX9_swap_38 rfl (lv_at hl 2 rfl) ?_
      obtain ⟨r9, e10, h⟩ := zb1_some h
      have hPc := zsub (wn := (mW q v cJ V ib dn rf mk th_4)) hP [0, 1] rfl
      have hDc := hD.sub (ws' := (mW q v cJ V ib dn rf mk th_4)) [0, 1] (by decide) rfl
      refine zgon (va_runV (As := [.int p0]) (rest := [.int p1, .ref q]) ⟨hx, hb, hml, hown, hts⟩ (c_X9_of l D q v cJ cI cO cB V ib dn rf mk th_4 F p0 r9 e10 H.size) (cwV 1 hts gX9_swap_X9_of rfl rfl rfl hdV_X9_of ⟨Nat.le_of_ble_eq_true rfl, Nat.le_of_ble_eq_true rfl⟩) (zpreV (q0 := 0) (ci := 9) (T := TX9) (N := 6) hK hPc hDc rfl rfl [.int p0]) rfl rfl hl.1 rfl (lv_room (Nat.le_of_ble_eq_true rfl)) dX9_swap_39 ⟨Nat.le_of_ble_eq_true rfl, Nat.le_of_ble_eq_true rfl⟩) (va_free hD hS hA [0, 1] rfl) (fun w11 => (zjs (wn := (mW q v cJ V ib dn rf mk th_4 ++ ([(w8, .inl (cJ, 121, .inr (.inl r6))), (w11, .inl (cJ, 121, .inr (.inl r9)))]))) [1, 2, 0, 3] (zjF (wr := ([(w8, .inl (cJ, 121, .inr (.inl r6)))] : va_W)) hP hD hS hA [0, 1] [2] rfl rfl (by decide) (by decide)) rfl (by decide))) hS (fun w11 H locs hP hD hS => ?_)
      replace hP : va_P D vwCl (mW q v cJ V ib dn rf mk th_4 ++ ([(w8, .inl (cJ, 121, .inr (.inl r6))), (w11, .inl (cJ, 121, .inr (.inl r9)))])) H := hP
      replace hD : va_D A (mW q v cJ V ib dn rf mk th_4 ++ ([(w8, .inl (cJ, 121, .inr (.inl r6))), (w11, .inl (cJ, 121, .inr (.inl r9)))])) := hD
      obtain ⟨r12, V_13, dn_14, e15, h⟩ := zb3_some h
      have hPc := zsub (wn := (mW q v cJ V ib dn rf mk th_4 ++ ([(w11, .inl (cJ, 121, .inr (.inl r9)))]))) hP [0, 1, 3] rfl
      have hDc := hD.sub (ws' := (mW q v cJ V ib dn rf mk th_4 ++ ([(w11, .inl (cJ, 121, .inr (.inl r9)))]))) [0, 1, 3] (by decide) rfl
      refine zgoi (va_runV (As := [.int p1, .ref w11]) (rest := []) ⟨hx, hb, hml, hown, hts⟩ (c_X9_become l D q v cJ cI cO cB V ib dn rf mk th_4 F p1 w11 r9 r12 V_13 dn_14 e15 H.size) (cwV 2 hts gX9_swap_X9_become rfl rfl rfl hdV_X9_become ⟨Nat.le_of_ble_eq_true rfl, Nat.le_of_ble_eq_true rfl⟩) (zpreV (q0 := 0) (ci := 9) (T := TX9) (N := 6) hK hPc hDc rfl rfl [.int p1, .ref w11]) rfl rfl hl.1 rfl (lv_room (Nat.le_of_ble_eq_true rfl)) dX9_swap_42 ⟨Nat.le_of_ble_eq_true rfl, Nat.le_of_ble_eq_true rfl⟩) (va_free hD hS hA [0, 1, 3] rfl) (zjs (wn := (mW q v cJ V_13 ib dn_14 rf mk th_4 ++ ([(w8, .inl (cJ, 121, .inr (.inl r6))), (w11, .inl (cJ, 121, .inr (.inl r9)))]))) [1, 2, 0, 3] (zjF (wr := ([(w8, .inl (cJ, 121, .inr (.inl r6)))] : va_W)) hP hD hS hA [0, 1, 3] [2] rfl rfl (by decide) (by decide)) rfl (by decide)) hS (fun H locs hP hD hS => ?_)
      replace hP : va_P D vwCl (mW q v cJ V_13 ib dn_14 rf mk th_4 ++ ([(w8, .inl (cJ, 121, .inr (.inl r6))), (w11, .inl (cJ, 121, .inr (.inl r9)))])) H := hP
      replace hD : va_D A (mW q v cJ V_13 ib dn_14 rf mk th_4 ++ ([(w8, .inl (cJ, 121, .inr (.inl r6))), (w11, .inl (cJ, 121, .inr (.inl r9)))])) := hD
      refine lv_istore (lv' := [(4, .int r12), (3, .ref w8), (0, .ref q), (1, .int p0), (2, .int p1)]) hx hb dX9_swap_45 hl (by decide) rfl (fun ls hl => ?_)
      refine lv_aload_n hx hb dX9_swap_47 rfl (lv_at hl 2 rfl) ?_
      refine lv_iload_n hx hb dX9_swap_48 rfl (lv_at hl 3 rfl) ?_
      refine lv_aload_n hx hb dX9_swap_49 rfl (lv_at hl 1 rfl) ?_
      obtain ⟨r16, V_17, dn_18, e19, h⟩ := zb3_some h
      have hPc := zsub (wn := (mW q v cJ V_13 ib dn_14 rf mk th_4 ++ ([(w8, .inl (cJ, 121, .inr (.inl r6)))]))) hP [0, 1, 2] rfl
      have hDc := hD.sub (ws' := (mW q v cJ V_13 ib dn_14 rf mk th_4 ++ ([(w8, .inl (cJ, 121, .inr (.inl r6)))]))) [0, 1, 2] (by decide) rfl
      refine zgoi (va_runV (As := [.int p0, .ref w8]) (rest := []) ⟨hx, hb, hml, hown, hts⟩ (c_X9_become l D q v cJ cI cO cB V_13 ib dn_14 rf mk th_4 F p0 w8 r6 r16 V_17 dn_18 e19 H.size) (cwV 2 hts gX9_swap_X9_become rfl rfl rfl hdV_X9_become ⟨Nat.le_of_ble_eq_true rfl, Nat.le_of_ble_eq_true rfl⟩) (zpreV (q0 := 0) (ci := 9) (T := TX9) (N := 6) hK hPc hDc rfl rfl [.int p0, .ref w8]) rfl rfl hl.1 rfl (lv_room (Nat.le_of_ble_eq_true rfl)) dX9_swap_50 ⟨Nat.le_of_ble_eq_true rfl, Nat.le_of_ble_eq_true rfl⟩) (va_free hD hS hA [0, 1, 2] rfl) (zjs (wn := (mW q v cJ V_17 ib dn_18 rf mk th_4 ++ ([(w8, .inl (cJ, 121, .inr (.inl r6))), (w11, .inl (cJ, 121, .inr (.inl r9)))]))) [1, 2, 3, 0] (zjF (wr := ([(w11, .inl (cJ, 121, .inr (.inl r9)))] : va_W)) hP hD hS hA [0, 1, 2] [3] rfl rfl (by decide) (by decide)) rfl (by decide)) hS (fun H locs hP hD hS => ?_)
      replace hP : va_P D vwCl (mW q v cJ V_17 ib dn_18 rf mk th_4 ++ ([(w8, .inl (cJ, 121, .inr (.inl r6))), (w11, .inl (cJ, 121, .inr (.inl r9)))])) H := hP
      replace hD : va_D A (mW q v cJ V_17 ib dn_18 rf mk th_4 ++ ([(w8, .inl (cJ, 121, .inr (.inl r6))), (w11, .inl (cJ, 121, .inr (.inl r9)))])) := hD
      refine lv_pop hx hb dX9_swap_53 rfl ?_
      refine lv_aload_n hx hb dX9_swap_54 rfl (lv_at hl 2 rfl) ?_
      refine lv_dup hx hb dX9_swap_55 rfl ?_
      refine va_get (D := D) (ci := 9) (v := .int dn_18) (C := RX9) (T := TX9) (N := 6) hx hb hts kwX9 hown hK hP 0 rfl rfl 2 (by decide) kf_79 (fun _ h9 => h9) rfl dX9_swap_56 ?_
      refine lv_iconst (v := (1 : Int32)) hx hb dX9_swap_59 (by decide) ?_
      refine lv_isub hx hb dX9_swap_60 ?_
      refine va_put (D := D) (ci := 9) (v := .int (dn_18 - (1 : Int32))) (ty := .int) (C := RX9) (T := TX9) (N := 6) hx hb hts kwX9 tyX9 tyX9_ok nmX9 hown hK hP hD hS 0 rfl rfl 2 (by decide) kf_79 (fun _ h9 => h9) rfl rfl rfl rfl (Nat.le_of_ble_eq_true rfl) dX9_swap_61 (fun H locs hP hD hS => ?_)
      replace hP : va_P D vwCl (mW q v cJ V_17 ib (dn_18 - (1 : Int32)) rf mk th_4 ++ ([(w8, .inl (cJ, 121, .inr (.inl r6))), (w11, .inl (cJ, 121, .inr (.inl r9)))])) H := hP
      replace hD : va_D A (mW q v cJ V_17 ib (dn_18 - (1 : Int32)) rf mk th_4 ++ ([(w8, .inl (cJ, 121, .inr (.inl r6))), (w11, .inl (cJ, 121, .inr (.inl r9)))])) := hD
      refine lv_iload hx hb dX9_swap_64 (lv_at hl 0 rfl) ?_
      have g0 := Option.some.inj h
      obtain ⟨h1, g1⟩ := Prod.mk.inj g0
      obtain ⟨h2, g2⟩ := Prod.mk.inj g1
      obtain ⟨h3, g3⟩ := Prod.mk.inj g2
      subst h1
      subst h2
      subst h3
      subst g3
      replace hP := zsub (wn := (mW q v cJ V_17 ib (dn_18 - (1 : Int32)) rf mk th_4)) hP [0, 1] rfl
      replace hD := hD.sub (ws' := (mW q v cJ V_17 ib (dn_18 - (1 : Int32)) rf mk th_4)) [0, 1] (by decide) rfl
      exact W.iret (v := r12) hx hb hr (fun t ht hW => ⟨⟨r12, (), rfl, rfl, by rw [ht]; exact hP, va_K.moved hW.alike hK, hD⟩, hS.F ht⟩) hS.2.2 dX9_swap_66
    · replace h := zif_f h c24
      refine lv_iconst (v := (0 : Int32)) hx hb dX9_swap_27 (by decide) ?_
      have g0 := Option.some.inj h
      obtain ⟨h1, g1⟩ := Prod.mk.inj g0
      obtain ⟨h2, g2⟩ := Prod.mk.inj g1
      obtain ⟨h3, g3⟩ := Prod.mk.inj g2
      subst h1
      subst h2
      subst h3
      subst g3
      refine W.widen (k := 2) (n := 242) (by decide) (by decide) ?_
      exact W.iret (v := (0 : Int32)) hx hb hr (fun t ht hW => ⟨⟨(0 : Int32), (), rfl, rfl, by rw [ht]; exact hP, va_K.moved hW.alike hK, hD⟩, hS.F ht⟩) hS.2.2 dX9_swap_28
  replace h := zlt_h h
  refine lv_if_eq (tgt := 19) hx hb dX9_swap_5 (by decide) (fun c5 => ?_) (fun c5 => ?_)
  · replace h := zif_t h c5
    exact hGW _ _ _ _ _ (J0  _ _ ls hP hD hS (lv_sub hl [0, 1, 2] rfl) h)
  · replace h := zif_f h c5
    refine lv_iload_n hx hb dX9_swap_8 rfl (lv_at hl 2 rfl) ?_
    obtain ⟨r20, e21, h⟩ := zb1_some h
    refine zgoi (va_runS (As := [.int p1]) (rest := [.ref q]) ⟨hx, hb, hml, hown, hts⟩ (c_X9_isOne l D (zT cJ cI cO cB) p1 r20 e21 H.size) (va_cwS 1 hts gX9_swap_X9_isOne rfl rfl rfl hdS_X9_isOne ⟨Nat.le_of_ble_eq_true rfl, Nat.le_of_ble_eq_true rfl⟩) (zpreS hK zP0 (zD0 (A := A)) [.int p1]) rfl rfl hl.1 rfl (lv_room (Nat.le_of_ble_eq_true rfl)) dX9_swap_9 ⟨Nat.le_of_ble_eq_true rfl, Nat.le_of_ble_eq_true rfl⟩) (zf0 hS hA) (zjE hP hD) hS (fun H locs hP hD hS => ?_)
    refine lv_if_eq (tgt := 19) hx hb dX9_swap_12 (by decide) (fun c12 => ?_) (fun c12 => ?_)
    · replace h := zif_t h c12
      exact hGW _ _ _ _ _ (J0  _ _ ls hP hD hS (lv_sub hl [0, 1, 2] rfl) h)
    · replace h := zif_f h c12
      refine lv_iconst (v := (1 : Int32)) hx hb dX9_swap_15 (by decide) ?_
      refine lv_goto (tgt := 20) hx hb dX9_swap_16 (by decide) ?_
      refine lv_iconst (v := (1 : Int32)) hx hb dX9_swap_20 (by decide) ?_
      obtain ⟨r22, th_23, e24, h⟩ := zb2_some h
      refine zgoi (va_runV (As := [.int (1 : Int32), .int (1 : Int32)]) (rest := []) ⟨hx, hb, hml, hown, hts⟩ (c_X9_isThrown l D q v cJ cI cO cB V ib dn rf mk th true true r22 th_23 e24 H.size) (cwV 2 hts gX9_swap_X9_isThrown rfl rfl rfl hdV_X9_isThrown ⟨Nat.le_of_ble_eq_true rfl, Nat.le_of_ble_eq_true rfl⟩) (zpreV (q0 := 0) (ci := 9) (T := TX9) (N := 6) hK hP hD rfl rfl [.int (1 : Int32), .int (1 : Int32)]) rfl rfl hl.1 rfl (lv_room (Nat.le_of_ble_eq_true rfl)) dX9_swap_21 ⟨Nat.le_of_ble_eq_true rfl, Nat.le_of_ble_eq_true rfl⟩) (zfree hD hS hA) (zjW hD hS hA) hS (fun H locs hP hD hS => ?_)
      replace hP : va_P D vwCl (mW q v cJ V ib dn rf mk th_23) H := hP
      replace hD : va_D A (mW q v cJ V ib dn rf mk th_23) := hD
      refine lv_if_eq (tgt := 29) hx hb dX9_swap_24 (by decide) (fun c24 => ?_) (fun c24 => ?_)
      · replace h := zif_t h c24
        refine lv_aload_n hx hb dX9_swap_29 rfl (lv_at hl 0 rfl) ?_
        refine lv_iload_n hx hb dX9_swap_30 rfl (lv_at hl 2 rfl) ?_
        obtain ⟨r25, e26, h⟩ := zb1_some h
        refine zgon (va_runV (As := [.int p1]) (rest := []) ⟨hx, hb, hml, hown, hts⟩ (c_X9_of l D q v cJ cI cO cB V ib dn rf mk th_23 F p1 r25 e26 H.size) (cwV 1 hts gX9_swap_X9_of rfl rfl rfl hdV_X9_of ⟨Nat.le_of_ble_eq_true rfl, Nat.le_of_ble_eq_true rfl⟩) (zpreV (q0 := 0) (ci := 9) (T := TX9) (N := 6) hK hP hD rfl rfl [.int p1]) rfl rfl hl.1 rfl (lv_room (Nat.le_of_ble_eq_true rfl)) dX9_swap_31 ⟨Nat.le_of_ble_eq_true rfl, Nat.le_of_ble_eq_true rfl⟩) (zfree hD hS hA) (fun _ => zjW hD hS hA) hS (fun w27 H locs hP hD hS => ?_)
        replace hP : va_P D vwCl (mW q v cJ V ib dn rf mk th_23 ++ ([(w27, .inl (cJ, 121, .inr (.inl r25)))])) H := hP
        replace hD : va_D A (mW q v cJ V ib dn rf mk th_23 ++ ([(w27, .inl (cJ, 121, .inr (.inl r25)))])) := hD
        refine lv_astore_n (lv' := [(3, .ref w27), (0, .ref q), (1, .int p0), (2, .int p1)]) hx hb dX9_swap_34 rfl hl (by decide) rfl (fun ls hl => ?_)
        refine lv_aload_n hx hb dX9_swap_35 rfl (lv_at hl 1 rfl) ?_
        refine lv_iload_n hx hb dX9_swap_36 rfl (lv_at hl 3 rfl) ?_
        refine lv_aload_n hx hb dX9_swap_37 rfl (lv_at hl 1 rfl) ?_
        refine lv_iload_n hx hb dX9_swap_38 rfl (lv_at hl 2 rfl) ?_
        obtain ⟨r28, e29, h⟩ := zb1_some h
        have hPc := zsub (wn := (mW q v cJ V ib dn rf mk th_23)) hP [0, 1] rfl
        have hDc := hD.sub (ws' := (mW q v cJ V ib dn rf mk th_23)) [0, 1] (by decide) rfl
        refine zgon (va_runV (As := [.int p0]) (rest := [.int p1, .ref q]) ⟨hx, hb, hml, hown, hts⟩ (c_X9_of l D q v cJ cI cO cB V ib dn rf mk th_23 F p0 r28 e29 H.size) (cwV 1 hts gX9_swap_X9_of rfl rfl rfl hdV_X9_of ⟨Nat.le_of_ble_eq_true rfl, Nat.le_of_ble_eq_true rfl⟩) (zpreV (q0 := 0) (ci := 9) (T := TX9) (N := 6) hK hPc hDc rfl rfl [.int p0]) rfl rfl hl.1 rfl (lv_room (Nat.le_of_ble_eq_true rfl)) dX9_swap_39 ⟨Nat.le_of_ble_eq_true rfl, Nat.le_of_ble_eq_true rfl⟩) (va_free hD hS hA [0, 1] rfl) (fun w30 => (zjs (wn := (mW q v cJ V ib dn rf mk th_23 ++ ([(w27, .inl (cJ, 121, .inr (.inl r25))), (w30, .inl (cJ, 121, .inr (.inl r28)))]))) [1, 2, 0, 3] (zjF (wr := ([(w27, .inl (cJ, 121, .inr (.inl r25)))] : va_W)) hP hD hS hA [0, 1] [2] rfl rfl (by decide) (by decide)) rfl (by decide))) hS (fun w30 H locs hP hD hS => ?_)
        replace hP : va_P D vwCl (mW q v cJ V ib dn rf mk th_23 ++ ([(w27, .inl (cJ, 121, .inr (.inl r25))), (w30, .inl (cJ, 121, .inr (.inl r28)))])) H := hP
        replace hD : va_D A (mW q v cJ V ib dn rf mk th_23 ++ ([(w27, .inl (cJ, 121, .inr (.inl r25))), (w30, .inl (cJ, 121, .inr (.inl r28)))])) := hD
        obtain ⟨r31, V_32, dn_33, e34, h⟩ := zb3_some h
        have hPc := zsub (wn := (mW q v cJ V ib dn rf mk th_23 ++ ([(w30, .inl (cJ, 121, .inr (.inl r28)))]))) hP [0, 1, 3] rfl
        have hDc := hD.sub (ws' := (mW q v cJ V ib dn rf mk th_23 ++ ([(w30, .inl (cJ, 121, .inr (.inl r28)))]))) [0, 1, 3] (by decide) rfl
        refine zgoi (va_runV (As := [.int p1, .ref w30]) (rest := []) ⟨hx, hb, hml, hown, hts⟩ (c_X9_become l D q v cJ cI cO cB V ib dn rf mk th_23 F p1 w30 r28 r31 V_32 dn_33 e34 H.size) (cwV 2 hts gX9_swap_X9_become rfl rfl rfl hdV_X9_become ⟨Nat.le_of_ble_eq_true rfl, Nat.le_of_ble_eq_true rfl⟩) (zpreV (q0 := 0) (ci := 9) (T := TX9) (N := 6) hK hPc hDc rfl rfl [.int p1, .ref w30]) rfl rfl hl.1 rfl (lv_room (Nat.le_of_ble_eq_true rfl)) dX9_swap_42 ⟨Nat.le_of_ble_eq_true rfl, Nat.le_of_ble_eq_true rfl⟩) (va_free hD hS hA [0, 1, 3] rfl) (zjs (wn := (mW q v cJ V_32 ib dn_33 rf mk th_23 ++ ([(w27, .inl (cJ, 121, .inr (.inl r25))), (w30, .inl (cJ, 121, .inr (.inl r28)))]))) [1, 2, 0, 3] (zjF (wr := ([(w27, .inl (cJ, 121, .inr (.inl r25)))] : va_W)) hP hD hS hA [0, 1, 3] [2] rfl rfl (by decide) (by decide)) rfl (by decide)) hS (fun H locs hP hD hS => ?_)
        replace hP : va_P D vwCl (mW q v cJ V_32 ib dn_33 rf mk th_23 ++ ([(w27, .inl (cJ, 121, .inr (.inl r25))), (w30, .inl (cJ, 121, .inr (.inl r28)))])) H := hP
        replace hD : va_D A (mW q v cJ V_32 ib dn_33 rf mk th_23 ++ ([(w27, .inl (cJ, 121, .inr (.inl r25))), (w30, .inl (cJ, 121, .inr (.inl r28)))])) := hD
        refine lv_istore (lv' := [(4, .int r31), (3, .ref w27), (0, .ref q), (1, .int p0), (2, .int p1)]) hx hb dX9_swap_45 hl (by decide) rfl (fun ls hl => ?_)
        refine lv_aload_n hx hb dX9_swap_47 rfl (lv_at hl 2 rfl) ?_
        refine lv_iload_n hx hb dX9_swap_48 rfl (lv_at hl 3 rfl) ?_
        refine lv_aload_n hx hb dX9_swap_49 rfl (lv_at hl 1 rfl) ?_
        obtain ⟨r35, V_36, dn_37, e38, h⟩ := zb3_some h
        have hPc := zsub (wn := (mW q v cJ V_32 ib dn_33 rf mk th_23 ++ ([(w27, .inl (cJ, 121, .inr (.inl r25)))]))) hP [0, 1, 2] rfl
        have hDc := hD.sub (ws' := (mW q v cJ V_32 ib dn_33 rf mk th_23 ++ ([(w27, .inl (cJ, 121, .inr (.inl r25)))]))) [0, 1, 2] (by decide) rfl
        refine zgoi (va_runV (As := [.int p0, .ref w27]) (rest := []) ⟨hx, hb, hml, hown, hts⟩ (c_X9_become l D q v cJ cI cO cB V_32 ib dn_33 rf mk th_23 F p0 w27 r25 r35 V_36 dn_37 e38 H.size) (cwV 2 hts gX9_swap_X9_become rfl rfl rfl hdV_X9_become ⟨Nat.le_of_ble_eq_true rfl, Nat.le_of_ble_eq_true rfl⟩) (zpreV (q0 := 0) (ci := 9) (T := TX9) (N := 6) hK hPc hDc rfl rfl [.int p0, .ref w27]) rfl rfl hl.1 rfl (lv_room (Nat.le_of_ble_eq_true rfl)) dX9_swap_50 ⟨Nat.le_of_ble_eq_true rfl, Nat.le_of_ble_eq_true rfl⟩) (va_free hD hS hA [0, 1, 2] rfl) (zjs (wn := (mW q v cJ V_36 ib dn_37 rf mk th_23 ++ ([(w27, .inl (cJ, 121, .inr (.inl r25))), (w30, .inl (cJ, 121, .inr (.inl r28)))]))) [1, 2, 3, 0] (zjF (wr := ([(w30, .inl (cJ, 121, .inr (.inl r28)))] : va_W)) hP hD hS hA [0, 1, 2] [3] rfl rfl (by decide) (by decide)) rfl (by decide)) hS (fun H locs hP hD hS => ?_)
        replace hP : va_P D vwCl (mW q v cJ V_36 ib dn_37 rf mk th_23 ++ ([(w27, .inl (cJ, 121, .inr (.inl r25))), (w30, .inl (cJ, 121, .inr (.inl r28)))])) H := hP
        replace hD : va_D A (mW q v cJ V_36 ib dn_37 rf mk th_23 ++ ([(w27, .inl (cJ, 121, .inr (.inl r25))), (w30, .inl (cJ, 121, .inr (.inl r28)))])) := hD
        refine lv_pop hx hb dX9_swap_53 rfl ?_
        refine lv_aload_n hx hb dX9_swap_54 rfl (lv_at hl 2 rfl) ?_
        refine lv_dup hx hb dX9_swap_55 rfl ?_
        refine va_get (D := D) (ci := 9) (v := .int dn_37) (C := RX9) (T := TX9) (N := 6) hx hb hts kwX9 hown hK hP 0 rfl rfl 2 (by decide) kf_79 (fun _ h9 => h9) rfl dX9_swap_56 ?_
        refine lv_iconst (v := (1 : Int32)) hx hb dX9_swap_59 (by decide) ?_
        refine lv_isub hx hb dX9_swap_60 ?_
        refine va_put (D := D) (ci := 9) (v := .int (dn_37 - (1 : Int32))) (ty := .int) (C := RX9) (T := TX9) (N := 6) hx hb hts kwX9 tyX9 tyX9_ok nmX9 hown hK hP hD hS 0 rfl rfl 2 (by decide) kf_79 (fun _ h9 => h9) rfl rfl rfl rfl (Nat.le_of_ble_eq_true rfl) dX9_swap_61 (fun H locs hP hD hS => ?_)
        replace hP : va_P D vwCl (mW q v cJ V_36 ib (dn_37 - (1 : Int32)) rf mk th_23 ++ ([(w27, .inl (cJ, 121, .inr (.inl r25))), (w30, .inl (cJ, 121, .inr (.inl r28)))])) H := hP
        replace hD : va_D A (mW q v cJ V_36 ib (dn_37 - (1 : Int32)) rf mk th_23 ++ ([(w27, .inl (cJ, 121, .inr (.inl r25))), (w30, .inl (cJ, 121, .inr (.inl r28)))])) := hD
        refine lv_iload hx hb dX9_swap_64 (lv_at hl 0 rfl) ?_
        have g0 := Option.some.inj h
        obtain ⟨h1, g1⟩ := Prod.mk.inj g0
        obtain ⟨h2, g2⟩ := Prod.mk.inj g1
        obtain ⟨h3, g3⟩ := Prod.mk.inj g2
        subst h1
        subst h2
        subst h3
        subst g3
        replace hP := zsub (wn := (mW q v cJ V_36 ib (dn_37 - (1 : Int32)) rf mk th_23)) hP [0, 1] rfl
        replace hD := hD.sub (ws' := (mW q v cJ V_36 ib (dn_37 - (1 : Int32)) rf mk th_23)) [0, 1] (by decide) rfl
        exact W.iret (v := r31) hx hb hr (fun t ht hW => ⟨⟨r31, (), rfl, rfl, by rw [ht]; exact hP, va_K.moved hW.alike hK, hD⟩, hS.F ht⟩) hS.2.2 dX9_swap_66
      · replace h := zif_f h c24
        refine lv_iconst (v := (0 : Int32)) hx hb dX9_swap_27 (by decide) ?_
        have g0 := Option.some.inj h
        obtain ⟨h1, g1⟩ := Prod.mk.inj g0
        obtain ⟨h2, g2⟩ := Prod.mk.inj g1
        obtain ⟨h3, g3⟩ := Prod.mk.inj g2
        subst h1
        subst h2
        subst h3
        subst g3
        refine W.widen (k := 2) (n := 242) (by decide) (by decide) ?_
        exact W.iret (v := (0 : Int32)) hx hb hr (fun t ht hW => ⟨⟨(0 : Int32), (), rfl, rfl, by rw [ht]; exact hP, va_K.moved hW.alike hK, hD⟩, hS.F ht⟩) hS.2.2 dX9_swap_28

noncomputable def p_X9_meet_L0 (F : Nat) (V : Nat → Int64) (p0 : Int32) (p1 : Int32) (p2 : Int32) (k : Int32 → Bool → (Nat → Int64) → Option (Int32 × (Nat → Int64) × Bool × Int32 × Int32 × Int32)) : Nat → Int32 → Bool → (Nat → Int64) → Option (Int32 × (Nat → Int64) × Bool × Int32 × Int32 × Int32)
  | 0, _, _, _ => none
  | n + 1, v6_0, ibL0, f0_0 => (if (120 : Int32) < v6_0 then (k v6_0 ibL0 f0_0) else (zb1 (p_X9_at V p0 v6_0) (fun r14 => (zb1 (p_X9_at V p1 v6_0) (fun r16 => (zlt (fun (s0j1 : Int64) (cibj1 : Bool) => (zg (v6_0 < 0 ∨ 121 ≤ v6_0.toNatClampNeg) (if ¬ p2 = (1 : Int32) then (p_X9_meet_L0 F V p0 p1 p2 k n (v6_0 + (1 : Int32)) cibj1 (vp_updL f0_0 v6_0.toNatClampNeg s0j1)) else (zlt (if 0 ≤ (lg_cmp r14 (0 : Int64)) then (p_X9_meet_L0 F V p0 p1 p2 k n (v6_0 + (1 : Int32)) cibj1 (vp_updL f0_0 v6_0.toNatClampNeg s0j1)) else (if (lg_cmp r16 (0 : Int64)) ≤ 0 then (p_X9_meet_L0 F V p0 p1 p2 k n (v6_0 + (1 : Int32)) cibj1 (vp_updL f0_0 v6_0.toNatClampNeg s0j1)) else (zg (v6_0 < 0 ∨ 121 ≤ v6_0.toNatClampNeg) (if (lg_cmp ((vp_updL f0_0 v6_0.toNatClampNeg s0j1) v6_0.toNatClampNeg) (0 : Int64)) < 0 then (p_X9_meet_L0 F V p0 p1 p2 k n (v6_0 + (1 : Int32)) cibj1 (vp_updL f0_0 v6_0.toNatClampNeg s0j1)) else (p_X9_meet_L0 F V p0 p1 p2 k n (v6_0 + (1 : Int32)) true (vp_updL f0_0 v6_0.toNatClampNeg s0j1)))))) (fun jf2 => (if (lg_cmp r14 (0 : Int64)) < 0 then (jf2 ) else (if 0 ≤ (lg_cmp r16 (0 : Int64)) then (jf2 ) else (zg (v6_0 < 0 ∨ 121 ≤ v6_0.toNatClampNeg) (if (lg_cmp ((vp_updL f0_0 v6_0.toNatClampNeg s0j1) v6_0.toNatClampNeg) (0 : Int64)) < 0 then (p_X9_meet_L0 F V p0 p1 p2 k n (v6_0 + (1 : Int32)) true (vp_updL f0_0 v6_0.toNatClampNeg s0j1)) else (jf2 )))))))))) (fun jf1 => (if ¬ p2 = 0 then (if ¬ p2 = (1 : Int32) then (zb2 (p_X9_times ibL0 r14 r16) (fun r18 ib_19 => (jf1 r18 ib_19))) else (jf1 (r14 - r16) ibL0)) else (zb2 (p_X9_plus ibL0 r14 r16) (fun r21 ib_22 => (jf1 r21 ib_22)))))))))))
noncomputable def p_X9_meet_L1 (F : Nat) (V : Nat → Int64) (p0 : Int32) (p1 : Int32) (p2 : Int32) (k : Int32 → Bool → (Nat → Int64) → Option (Int32 × (Nat → Int64) × Bool × Int32 × Int32 × Int32)) : Nat → Int32 → Bool → (Nat → Int64) → Option (Int32 × (Nat → Int64) × Bool × Int32 × Int32 × Int32)
  | 0, _, _, _ => none
  | n + 1, v6_1, ibL1, f0_1 => (if (120 : Int32) < v6_1 then (k v6_1 ibL1 f0_1) else (zb1 (p_X9_at V p0 v6_1) (fun r39 => (zb1 (p_X9_at V p1 v6_1) (fun r41 => (zlt (fun (s0j3 : Int64) (cibj3 : Bool) => (zg (v6_1 < 0 ∨ 121 ≤ v6_1.toNatClampNeg) (if ¬ p2 = (1 : Int32) then (p_X9_meet_L1 F V p0 p1 p2 k n (v6_1 + (1 : Int32)) cibj3 (vp_updL f0_1 v6_1.toNatClampNeg s0j3)) else (zlt (if 0 ≤ (lg_cmp r39 (0 : Int64)) then (p_X9_meet_L1 F V p0 p1 p2 k n (v6_1 + (1 : Int32)) cibj3 (vp_updL f0_1 v6_1.toNatClampNeg s0j3)) else (if (lg_cmp r41 (0 : Int64)) ≤ 0 then (p_X9_meet_L1 F V p0 p1 p2 k n (v6_1 + (1 : Int32)) cibj3 (vp_updL f0_1 v6_1.toNatClampNeg s0j3)) else (zg (v6_1 < 0 ∨ 121 ≤ v6_1.toNatClampNeg) (if (lg_cmp ((vp_updL f0_1 v6_1.toNatClampNeg s0j3) v6_1.toNatClampNeg) (0 : Int64)) < 0 then (p_X9_meet_L1 F V p0 p1 p2 k n (v6_1 + (1 : Int32)) cibj3 (vp_updL f0_1 v6_1.toNatClampNeg s0j3)) else (p_X9_meet_L1 F V p0 p1 p2 k n (v6_1 + (1 : Int32)) true (vp_updL f0_1 v6_1.toNatClampNeg s0j3)))))) (fun jf4 => (if (lg_cmp r39 (0 : Int64)) < 0 then (jf4 ) else (if 0 ≤ (lg_cmp r41 (0 : Int64)) then (jf4 ) else (zg (v6_1 < 0 ∨ 121 ≤ v6_1.toNatClampNeg) (if (lg_cmp ((vp_updL f0_1 v6_1.toNatClampNeg s0j3) v6_1.toNatClampNeg) (0 : Int64)) < 0 then (p_X9_meet_L1 F V p0 p1 p2 k n (v6_1 + (1 : Int32)) true (vp_updL f0_1 v6_1.toNatClampNeg s0j3)) else (jf4 )))))))))) (fun jf3 => (if ¬ p2 = 0 then (if ¬ p2 = (1 : Int32) then (zb2 (p_X9_times ibL1 r39 r41) (fun r43 ib_44 => (jf3 r43 ib_44))) else (jf3 (r39 - r41) ibL1)) else (zb2 (p_X9_plus ibL1 r39 r41) (fun r46 ib_47 => (jf3 r46 ib_47)))))))))))
noncomputable def p_X9_meet (F : Nat) (V : Nat → Int64) (ib : Bool) (dn : Int32) (rf : Int32) (p0 : Int32) (p1 : Int32) (p2 : Int32) (p3 : Int32) : Option (Int32 × (Nat → Int64) × Bool × Int32 × Int32 × Int32) := (zb1 (p_X9_isOne p0) (fun r1 => (zlt (zb1 (p_X9_isIn p2 (0 : Int32) (2 : Int32)) (fun r3 => (zb2 (p_X9_isThrown false r3) (fun r5 th_6 => (if (z01 r5) = 0 then (p_X9_meet_L0 F V p0 p1 p2 (fun v6_0 ibL0 f0_0 => (zb4 (p_X9_becomeOrNot F V ibL0 dn rf p3 f0_0) (fun r9 V_10 dn_11 rf_12 => (some (r9, V_10, ibL0, dn_11, rf_12, th_6))))) F (1 : Int32) false (fun _ => 0)) else (some ((0 : Int32), V, ib, dn, rf, th_6))))))) (fun jf0 => (if (z01 r1) = 0 then (jf0 ) else (zb1 (p_X9_isOne p1) (fun r24 => (if (z01 r24) = 0 then (jf0 ) else (zb1 (p_X9_isOne p3) (fun r26 => (if (z01 r26) = 0 then (jf0 ) else (zb1 (p_X9_isIn p2 (0 : Int32) (2 : Int32)) (fun r28 => (zb2 (p_X9_isThrown true r28) (fun r30 th_31 => (if (z01 r30) = 0 then (p_X9_meet_L1 F V p0 p1 p2 (fun v6_1 ibL1 f0_1 => (zb4 (p_X9_becomeOrNot F V ibL1 dn rf p3 f0_1) (fun r34 V_35 dn_36 rf_37 => (some (r34, V_35, ibL1, dn_36, rf_37, th_31))))) F (1 : Int32) false (fun _ => 0)) else (some ((0 : Int32), V, ib, dn, rf, th_31))))))))))))))))))
theorem hdV_X9_meet : yX9_meet.cls = RX9 ∧ yX9_meet.cls ≠ "java/lang/invoke/MethodHandle" ∧ yX9_meet.cls ≠ "java/lang/invoke/VarHandle" ∧ (parseMethodDescriptor yX9_meet.desc).map (fun d => d.parameters.length) = some 4 := by decide +kernel
set_option maxHeartbeats 4000000 in
set_option maxRecDepth 100000 in
theorem c_X9_meet (l : Launch) (D : va_G) (q v : Nat) (cJ cI cO cB : ClassId) (V : Nat → Int64) (ib : Bool) (dn : Int32) (rf : Int32) (mk : Int32) (th : Int32) (F : Nat) (p0 : Int32) (p1 : Int32) (p2 : Int32) (p3 : Int32) (r : Int32) (V' : Nat → Int64) (ib' : Bool) (dn' : Int32) (rf' : Int32) (th' : Int32) (h : p_X9_meet F V ib dn rf p0 p1 p2 p3 = some (r, V', ib', dn', rf', th')) : zMi l yX9_meet wsX9_meet 3 68 1 121 D (zT cJ cI cO cB) [.ref q, .int p0, .int p1, .int p2, .int p3] (mW q v cJ V ib dn rf mk th) (mW q v cJ V' ib' dn' rf' mk th') r := by
  intro sz
  delta zQi
  refine Met.ofW (cc := cX9_meet) (maxL := 11) (ret := (some .int)) (by decide) rfl ?_
  intro p e s m args below meth c s₁ B hml hv
  obtain ⟨rfl, hsz, hP, hK, hD0⟩ := hv
  have hx := B.exec
  have hb := B.bytes
  have hr := B.returns
  have hts := atoms_spec (ws := wsX9_meet) B.pre
  have hown : s.vm.findClass RX9 = some m.cls := findClass_of_methodNamed B.named
  have hlocks := B.notSynchronized
  subst hsz
  have hD := hD0.self (sz := s.heap.size)
  generalize hAe : va_A (mW q v cJ V ib dn rf mk th) s.heap.size = A at hD ⊢
  have hA : ∀ q : Nat, s.heap.size ≤ q → A q := fun q h => by rw [← hAe]; exact Or.inr h
  have hS : va_S A s.heap s.heap [] := va_S.rf
  have hl := lv_entry ([.ref q, .int p0, .int p1, .int p2, .int p3]) (n := 11) (Nat.le_of_ble_eq_true rfl)
  rw [lg_entry_eq]
  generalize (lg_sl ([.ref q, .int p0, .int p1, .int p2, .int p3]) ++ List.replicate (11 - (lg_sl ([.ref q, .int p0, .int p1, .int p2, .int p3])).length) Slot.unset).toArray = ls at hl ⊢
  replace hl : lv_has ls 11 [(0, .ref q), (1, .int p0), (2, .int p1), (3, .int p2), (4, .int p3)] := hl
  have karr := hts (.arrayClass .long) (zmem 1 rfl)
  have kwX9 : ∀ w ∈ u_ws RX9 TX9 6, w ∈ wsX9_meet := fun w h => List.mem_cons_of_mem _ (List.mem_append_left _ (List.mem_append_left _ (List.mem_append_left _ (List.mem_append_left _ (List.mem_append_right _ (List.mem_cons_of_mem _ (List.mem_append_right _ h)))))))
  have kf_36 := hts (.fieldLink RX9 36 "DivisorworkModel" "isBeyond" "Z") (List.mem_cons_of_mem _ (List.mem_append_left _ (List.mem_append_left _ (List.mem_append_right _ (zmem 1 rfl)))))
  replace h : (zb1 (p_X9_isOne p0) (fun r1 => (zlt (zb1 (p_X9_isIn p2 (0 : Int32) (2 : Int32)) (fun r3 => (zb2 (p_X9_isThrown false r3) (fun r5 th_6 => (if (z01 r5) = 0 then (p_X9_meet_L0 F V p0 p1 p2 (fun v6_0 ibL0 f0_0 => (zb4 (p_X9_becomeOrNot F V ibL0 dn rf p3 f0_0) (fun r9 V_10 dn_11 rf_12 => (some (r9, V_10, ibL0, dn_11, rf_12, th_6))))) F (1 : Int32) false (fun _ => 0)) else (some ((0 : Int32), V, ib, dn, rf, th_6))))))) (fun jf0 => (if (z01 r1) = 0 then (jf0 ) else (zb1 (p_X9_isOne p1) (fun r24 => (if (z01 r24) = 0 then (jf0 ) else (zb1 (p_X9_isOne p3) (fun r26 => (if (z01 r26) = 0 then (jf0 ) else (zb1 (p_X9_isIn p2 (0 : Int32) (2 : Int32)) (fun r28 => (zb2 (p_X9_isThrown true r28) (fun r30 th_31 => (if (z01 r30) = 0 then (p_X9_meet_L1 F V p0 p1 p2 (fun v6_1 ibL1 f0_1 => (zb4 (p_X9_becomeOrNot F V ibL1 dn rf p3 f0_1) (fun r34 V_35 dn_36 rf_37 => (some (r34, V_35, ibL1, dn_36, rf_37, th_31))))) F (1 : Int32) false (fun _ => 0)) else (some ((0 : Int32), V, ib, dn, rf, th_31)))))))))))))))))) = some (r, V', ib', dn', rf', th') := h
  refine zabs (fun G hG hGW => ?_)
  obtain ⟨H, hHe⟩ : ∃ H, H = s.heap := ⟨_, rfl⟩
  rw [← hHe] at hP
  replace hS : va_S A s.heap H [] := by rw [hHe]; exact hS
  refine zheap hHe ?_
  refine lv_aload_n hx hb dX9_meet_0 rfl (lv_at hl 0 rfl) ?_
  refine lv_iload_n hx hb dX9_meet_1 rfl (lv_at hl 1 rfl) ?_
  obtain ⟨r1, e2, h⟩ := zb1_some h
  refine zgoi (va_runS (As := [.int p0]) (rest := [.ref q]) ⟨hx, hb, hml, hown, hts⟩ (c_X9_isOne l D (zT cJ cI cO cB) p0 r1 e2 H.size) (va_cwS 1 hts gX9_meet_X9_isOne rfl rfl rfl hdS_X9_isOne ⟨Nat.le_of_ble_eq_true rfl, Nat.le_of_ble_eq_true rfl⟩) (zpreS hK zP0 (zD0 (A := A)) [.int p0]) rfl rfl hl.1 rfl (lv_room (Nat.le_of_ble_eq_true rfl)) dX9_meet_2 ⟨Nat.le_of_ble_eq_true rfl, Nat.le_of_ble_eq_true rfl⟩) (zf0 hS hA) (zjE hP hD) hS (fun H locs hP hD hS => ?_)
  have J0 : ∀  (H : Heap) (locs : List Loc) (ls : Array Slot), va_P D vwCl (mW q v cJ V ib dn rf mk th) H → va_D A (mW q v cJ V ib dn rf mk th) → va_S A s.heap H locs → lv_has ls 11 [(0, .ref q), (1, .int p0), (2, .int p1), (3, .int p2), (4, .int p3)] → (zb1 (p_X9_isIn p2 (0 : Int32) (2 : Int32)) (fun r3 => (zb2 (p_X9_isThrown false r3) (fun r5 th_6 => (if (z01 r5) = 0 then (p_X9_meet_L0 F V p0 p1 p2 (fun v6_0 ibL0 f0_0 => (zb4 (p_X9_becomeOrNot F V ibL0 dn rf p3 f0_0) (fun r9 V_10 dn_11 rf_12 => (some (r9, V_10, ibL0, dn_11, rf_12, th_6))))) F (1 : Int32) false (fun _ => 0)) else (some ((0 : Int32), V, ib, dn, rf, th_6))))))) = some (r, V', ib', dn', rf', th') → G H locs 0 0 (F0 m 27 ls [.ref q]) := by
    intro  H locs ls hP hD hS hl h
    refine hG _ _ _ _ _ ?_
    refine lv_iconst (v := (0 : Int32)) hx hb dX9_meet_27 (by decide) ?_
    refine lv_iload_n hx hb dX9_meet_28 rfl (lv_at hl 3 rfl) ?_
    refine lv_iconst (v := (0 : Int32)) hx hb dX9_meet_29 (by decide) ?_
    refine lv_iconst (v := (2 : Int32)) hx hb dX9_meet_30 (by decide) ?_
    obtain ⟨r3, e4, h⟩ := zb1_some h
    refine zgoi (va_runS (As := [.int p2, .int (0 : Int32), .int (2 : Int32)]) (rest := [.int (0 : Int32), .ref q]) ⟨hx, hb, hml, hown, hts⟩ (c_X9_isIn l D (zT cJ cI cO cB) p2 (0 : Int32) (2 : Int32) r3 e4 H.size) (va_cwS 3 hts gX9_meet_X9_isIn rfl rfl rfl hdS_X9_isIn ⟨Nat.le_of_ble_eq_true rfl, Nat.le_of_ble_eq_true rfl⟩) (zpreS hK zP0 (zD0 (A := A)) [.int p2, .int (0 : Int32), .int (2 : Int32)]) rfl rfl hl.1 rfl (lv_room (Nat.le_of_ble_eq_true rfl)) dX9_meet_31 ⟨Nat.le_of_ble_eq_true rfl, Nat.le_of_ble_eq_true rfl⟩) (zf0 hS hA) (zjE hP hD) hS (fun H locs hP hD hS => ?_)
    obtain ⟨r5, th_6, e7, h⟩ := zb2_some h
    refine zgoi (va_runV (As := [.int (0 : Int32), .int (z01 r3)]) (rest := []) ⟨hx, hb, hml, hown, hts⟩ (c_X9_isThrown l D q v cJ cI cO cB V ib dn rf mk th false r3 r5 th_6 e7 H.size) (cwV 2 hts gX9_meet_X9_isThrown rfl rfl rfl hdV_X9_isThrown ⟨Nat.le_of_ble_eq_true rfl, Nat.le_of_ble_eq_true rfl⟩) (zpreV (q0 := 0) (ci := 9) (T := TX9) (N := 6) hK hP hD rfl rfl [.int (0 : Int32), .int (z01 r3)]) rfl rfl hl.1 rfl (lv_room (Nat.le_of_ble_eq_true rfl)) dX9_meet_34 ⟨Nat.le_of_ble_eq_true rfl, Nat.le_of_ble_eq_true rfl⟩) (zfree hD hS hA) (zjW hD hS hA) hS (fun H locs hP hD hS => ?_)
    replace hP : va_P D vwCl (mW q v cJ V ib dn rf mk th_6) H := hP
    replace hD : va_D A (mW q v cJ V ib dn rf mk th_6) := hD
    refine lv_if_eq (tgt := 42) hx hb dX9_meet_37 (by decide) (fun c37 => ?_) (fun c37 => ?_)
    · replace h := zif_t h c37
      refine lv_bipush (v := (121 : Int32)) hx hb dX9_meet_42 (by decide) ?_
      refine znewJ (N := 121) hx hb karr hK hP hD hS hA (by decide) (by decide) (by decide) (Nat.le_of_ble_eq_true rfl) (Nat.le_of_ble_eq_true rfl) dX9_meet_44 (fun w8 H hP hD hS => ?_)
      replace hP : va_P D vwCl (mW q v cJ V ib dn rf mk th_6 ++ ([(w8, .inl (cJ, 121, .inr (.inl (fun _ => 0))))])) H := hP
      replace hD : va_D A (mW q v cJ V ib dn rf mk th_6 ++ ([(w8, .inl (cJ, 121, .inr (.inl (fun _ => 0))))])) := hD
      refine lv_astore (lv' := [(5, .ref w8), (0, .ref q), (1, .int p0), (2, .int p1), (3, .int p2), (4, .int p3)]) hx hb dX9_meet_46 hl (by decide) rfl (fun ls hl => ?_)
      refine lv_aload_n hx hb dX9_meet_48 rfl (lv_at hl 1 rfl) ?_
      refine lv_iconst (v := (0 : Int32)) hx hb dX9_meet_49 (by decide) ?_
      refine va_put (D := D) (ci := 9) (v := .int (z01 false)) (ty := .boolean) (C := RX9) (T := TX9) (N := 6) hx hb hts kwX9 tyX9 tyX9_ok nmX9 hown hK hP hD hS 0 rfl rfl 1 (by decide) kf_36 (fun _ h9 => h9) rfl rfl (z01_nar false) (z01_fit false) (Nat.le_of_ble_eq_true rfl) dX9_meet_50 (fun H locs hP hD hS => ?_)
      replace hP : va_P D vwCl (mW q v cJ V false dn rf mk th_6 ++ ([(w8, .inl (cJ, 121, .inr (.inl (fun _ => 0))))])) H := hP
      replace hD : va_D A (mW q v cJ V false dn rf mk th_6 ++ ([(w8, .inl (cJ, 121, .inr (.inl (fun _ => 0))))])) := hD
      refine lv_iconst (v := (1 : Int32)) hx hb dX9_meet_53 (by decide) ?_
      refine lv_istore (lv' := [(6, .int (1 : Int32)), (5, .ref w8), (0, .ref q), (1, .int p0), (2, .int p1), (3, .int p2), (4, .int p3)]) hx hb dX9_meet_54 hl (by decide) rfl (fun ls hl => ?_)
      have X0 : ∀ (v6_0 : Int32) (ibL0 : Bool) (f0_0 : Nat → Int64) (H : Heap) (locs : List Loc) (ls : Array Slot), va_P D vwCl (mW q v cJ V ibL0 dn rf mk th_6 ++ ([(w8, .inl (cJ, 121, .inr (.inl f0_0)))])) H → va_D A (mW q v cJ V ibL0 dn rf mk th_6 ++ ([(w8, .inl (cJ, 121, .inr (.inl f0_0)))])) → va_S A s.heap H locs → lv_has ls 11 [(0, .ref q), (1, .int p0), (2, .int p1), (3, .int p2), (4, .int p3), (5, .ref w8), (6, .int v6_0)] → (zb4 (p_X9_becomeOrNot F V ibL0 dn rf p3 f0_0) (fun r9 V_10 dn_11 rf_12 => (some (r9, V_10, ibL0, dn_11, rf_12, th_6)))) = some (r, V', ib', dn', rf', th') → G H locs 1 121 (F0 m 186 ls []) := by
        intro v6_0 ibL0 f0_0 H locs ls hP hD hS hl h
        refine hG _ _ _ _ _ ?_
        refine lv_aload_n hx hb dX9_meet_186 rfl (lv_at hl 0 rfl) ?_
        refine lv_iload hx hb dX9_meet_187 (lv_at hl 4 rfl) ?_
        refine lv_aload hx hb dX9_meet_189 (lv_at hl 5 rfl) ?_
        obtain ⟨r9, V_10, dn_11, rf_12, e13, h⟩ := zb4_some h
        refine zgoi (va_runV (As := [.int p3, .ref w8]) (rest := []) ⟨hx, hb, hml, hown, hts⟩ (c_X9_becomeOrNot l D q v cJ cI cO cB V ibL0 dn rf mk th_6 F p3 w8 f0_0 r9 V_10 dn_11 rf_12 e13 H.size) (cwV 2 hts gX9_meet_X9_becomeOrNot rfl rfl rfl hdV_X9_becomeOrNot ⟨Nat.le_of_ble_eq_true rfl, Nat.le_of_ble_eq_true rfl⟩) (zpreV (q0 := 0) (ci := 9) (T := TX9) (N := 6) hK hP hD rfl rfl [.int p3, .ref w8]) rfl rfl hl.1 rfl (lv_room (Nat.le_of_ble_eq_true rfl)) dX9_meet_191 ⟨Nat.le_of_ble_eq_true rfl, Nat.le_of_ble_eq_true rfl⟩) (zfree hD hS hA) (zjW hD hS hA) hS (fun H locs hP hD hS => ?_)
        replace hP : va_P D vwCl (mW q v cJ V_10 ibL0 dn_11 rf_12 mk th_6 ++ ([(w8, .inl (cJ, 121, .inr (.inl f0_0)))])) H := hP
        replace hD : va_D A (mW q v cJ V_10 ibL0 dn_11 rf_12 mk th_6 ++ ([(w8, .inl (cJ, 121, .inr (.inl f0_0)))])) := hD
        have g0 := Option.some.inj h
        obtain ⟨h1, g1⟩ := Prod.mk.inj g0
        obtain ⟨h2, g2⟩ := Prod.mk.inj g1
        obtain ⟨h3, g3⟩ := Prod.mk.inj g2
        obtain ⟨h4, g4⟩ := Prod.mk.inj g3
        obtain ⟨h5, g5⟩ := Prod.mk.inj g4
        subst h1
        subst h2
        subst h3
        subst h4
        subst h5
        subst g5
        replace hP := zsub (wn := (mW q v cJ V_10 ibL0 dn_11 rf_12 mk th_6)) hP [0, 1] rfl
        replace hD := hD.sub (ws' := (mW q v cJ V_10 ibL0 dn_11 rf_12 mk th_6)) [0, 1] (by decide) rfl
        exact W.iret (v := r9) hx hb hr (fun t ht hW => ⟨⟨r9, (), rfl, rfl, by rw [ht]; exact hP, va_K.moved hW.alike hK, hD⟩, hS.F ht⟩) hS.2.2 dX9_meet_194
      have L0 : ∀ (K0 : Int32 → Bool → (Nat → Int64) → Option (Int32 × (Nat → Int64) × Bool × Int32 × Int32 × Int32)) (HX0 : ∀ (v6_0 : Int32) (ibL0 : Bool) (f0_0 : Nat → Int64) (H : Heap) (locs : List Loc) (ls : Array Slot), va_P D vwCl (mW q v cJ V ibL0 dn rf mk th_6 ++ ([(w8, .inl (cJ, 121, .inr (.inl f0_0)))])) H → va_D A (mW q v cJ V ibL0 dn rf mk th_6 ++ ([(w8, .inl (cJ, 121, .inr (.inl f0_0)))])) → va_S A s.heap H locs → lv_has ls 11 [(0, .ref q), (1, .int p0), (2, .int p1), (3, .int p2), (4, .int p3), (5, .ref w8), (6, .int v6_0)] → K0 v6_0 ibL0 f0_0 = some (r, V', ib', dn', rf', th') → G H locs 1 121 (F0 m 186 ls [])) (fu0 : Nat) (v6_0 : Int32) (ibL0 : Bool) (f0_0 : Nat → Int64) (H : Heap) (locs : List Loc) (ls : Array Slot), va_P D vwCl (mW q v cJ V ibL0 dn rf mk th_6 ++ ([(w8, .inl (cJ, 121, .inr (.inl f0_0)))])) H → va_D A (mW q v cJ V ibL0 dn rf mk th_6 ++ ([(w8, .inl (cJ, 121, .inr (.inl f0_0)))])) → va_S A s.heap H locs → lv_has ls 11 [(0, .ref q), (1, .int p0), (2, .int p1), (3, .int p2), (4, .int p3), (5, .ref w8), (6, .int v6_0)] → p_X9_meet_L0 F V p0 p1 p2 K0 fu0 v6_0 ibL0 f0_0 = some (r, V', ib', dn', rf', th') → G H locs 1 121 (F0 m 56 ls []) := by
        intro K0 HX0 fu0
        induction fu0 with
        | zero =>
          intro v6_0 ibL0 f0_0 H locs ls hP hD hS hl h
          exact (zno h).elim
        | succ fu0 ih0 =>
          intro v6_0 ibL0 f0_0 H locs ls hP hD hS hl h
          refine hG _ _ _ _ _ ?_
          unfold p_X9_meet_L0 at h
          refine lv_iload hx hb dX9_meet_56 (lv_at hl 6 rfl) ?_
          refine lv_bipush (v := (120 : Int32)) hx hb dX9_meet_58 (by decide) ?_
          refine lv_icmp_gt (tgt := 186) hx hb dX9_meet_60 (by decide) (fun c60 => ?_) (fun c60 => ?_)
          · replace h := zif_t h c60
            exact hGW _ _ _ _ _ (HX0 v6_0 ibL0 f0_0 _ _ ls hP hD hS (lv_sub hl [0, 1, 2, 3, 4, 5, 6] rfl) h)
          · replace h := zif_f h c60
            refine lv_aload_n hx hb dX9_meet_63 rfl (lv_at hl 0 rfl) ?_
            refine lv_iload_n hx hb dX9_meet_64 rfl (lv_at hl 1 rfl) ?_
            refine lv_iload hx hb dX9_meet_65 (lv_at hl 6 rfl) ?_
            obtain ⟨r14, e15, h⟩ := zb1_some h
            have hPc := zsub (wn := (mW q v cJ V ibL0 dn rf mk th_6)) hP [0, 1] rfl
            have hDc := hD.sub (ws' := (mW q v cJ V ibL0 dn rf mk th_6)) [0, 1] (by decide) rfl
            refine zgol (va_runV (As := [.int p0, .int v6_0]) (rest := []) ⟨hx, hb, hml, hown, hts⟩ (c_X9_at l D q v cJ cI cO cB V ibL0 dn rf mk th_6 p0 v6_0 r14 e15 H.size) (cwV 2 hts gX9_meet_X9_at rfl rfl rfl hdV_X9_at ⟨Nat.le_of_ble_eq_true rfl, Nat.le_of_ble_eq_true rfl⟩) (zpreV (q0 := 0) (ci := 9) (T := TX9) (N := 6) hK hPc hDc rfl rfl [.int p0, .int v6_0]) rfl rfl hl.1 rfl (lv_room (Nat.le_of_ble_eq_true rfl)) dX9_meet_67 ⟨Nat.le_of_ble_eq_true rfl, Nat.le_of_ble_eq_true rfl⟩) (va_free hD hS hA [0, 1] rfl) (zjs (wn := (mW q v cJ V ibL0 dn rf mk th_6 ++ ([(w8, .inl (cJ, 121, .inr (.inl f0_0)))]))) [1, 2, 0] (zjF (wr := ([(w8, .inl (cJ, 121, .inr (.inl f0_0)))] : va_W)) hP hD hS hA [0, 1] [2] rfl rfl (by decide) (by decide)) rfl (by decide)) hS (fun H locs hP hD hS => ?_)
            replace hP : va_P D vwCl (mW q v cJ V ibL0 dn rf mk th_6 ++ ([(w8, .inl (cJ, 121, .inr (.inl f0_0)))])) H := hP
            replace hD : va_D A (mW q v cJ V ibL0 dn rf mk th_6 ++ ([(w8, .inl (cJ, 121, .inr (.inl f0_0)))])) := hD
            refine lv_lstore (lv' := [(7, .long r14), (0, .ref q), (1, .int p0), (2, .int p1), (3, .int p2), (4, .int p3), (5, .ref w8), (6, .int v6_0)]) hx hb dX9_meet_70 hl (by decide) rfl (fun ls hl => ?_)
            refine lv_aload_n hx hb dX9_meet_72 rfl (lv_at hl 1 rfl) ?_
            refine lv_iload_n hx hb dX9_meet_73 rfl (lv_at hl 3 rfl) ?_
            refine lv_iload hx hb dX9_meet_74 (lv_at hl 7 rfl) ?_
            obtain ⟨r16, e17, h⟩ := zb1_some h
            have hPc := zsub (wn := (mW q v cJ V ibL0 dn rf mk th_6)) hP [0, 1] rfl
            have hDc := hD.sub (ws' := (mW q v cJ V ibL0 dn rf mk th_6)) [0, 1] (by decide) rfl
            refine zgol (va_runV (As := [.int p1, .int v6_0]) (rest := []) ⟨hx, hb, hml, hown, hts⟩ (c_X9_at l D q v cJ cI cO cB V ibL0 dn rf mk th_6 p1 v6_0 r16 e17 H.size) (cwV 2 hts gX9_meet_X9_at rfl rfl rfl hdV_X9_at ⟨Nat.le_of_ble_eq_true rfl, Nat.le_of_ble_eq_true rfl⟩) (zpreV (q0 := 0) (ci := 9) (T := TX9) (N := 6) hK hPc hDc rfl rfl [.int p1, .int v6_0]) rfl rfl hl.1 rfl (lv_room (Nat.le_of_ble_eq_true rfl)) dX9_meet_76 ⟨Nat.le_of_ble_eq_true rfl, Nat.le_of_ble_eq_true rfl⟩) (va_free hD hS hA [0, 1] rfl) (zjs (wn := (mW q v cJ V ibL0 dn rf mk th_6 ++ ([(w8, .inl (cJ, 121, .inr (.inl f0_0)))]))) [1, 2, 0] (zjF (wr := ([(w8, .inl (cJ, 121, .inr (.inl f0_0)))] : va_W)) hP hD hS hA [0, 1] [2] rfl rfl (by decide) (by decide)) rfl (by decide)) hS (fun H locs hP hD hS => ?_)
            replace hP : va_P D vwCl (mW q v cJ V ibL0 dn rf mk th_6 ++ ([(w8, .inl (cJ, 121, .inr (.inl f0_0)))])) H := hP
            replace hD : va_D A (mW q v cJ V ibL0 dn rf mk th_6 ++ ([(w8, .inl (cJ, 121, .inr (.inl f0_0)))])) := hD
            refine lv_lstore (lv' := [(9, .long r16), (7, .long r14), (0, .ref q), (1, .int p0), (2, .int p1), (3, .int p2), (4, .int p3), (5, .ref w8), (6, .int v6_0)]) hx hb dX9_meet_79 hl (by decide) rfl (fun ls hl => ?_)
            refine lv_aload hx hb dX9_meet_81 (lv_at hl 7 rfl) ?_
            refine lv_iload hx hb dX9_meet_83 (lv_at hl 8 rfl) ?_
            refine lv_iload_n hx hb dX9_meet_85 rfl (lv_at hl 5 rfl) ?_
            have J1 : ∀ (s0j1 : Int64) (cibj1 : Bool) (H : Heap) (locs : List Loc) (ls : Array Slot), va_P D vwCl (mW q v cJ V cibj1 dn rf mk th_6 ++ ([(w8, .inl (cJ, 121, .inr (.inl f0_0)))])) H → va_D A (mW q v cJ V cibj1 dn rf mk th_6 ++ ([(w8, .inl (cJ, 121, .inr (.inl f0_0)))])) → va_S A s.heap H locs → lv_has ls 11 [(0, .ref q), (1, .int p0), (2, .int p1), (3, .int p2), (4, .int p3), (5, .ref w8), (6, .int v6_0), (7, .long r14), (9, .long r16)] → (zg (v6_0 < 0 ∨ 121 ≤ v6_0.toNatClampNeg) (if ¬ p2 = (1 : Int32) then (p_X9_meet_L0 F V p0 p1 p2 K0 fu0 (v6_0 + (1 : Int32)) cibj1 (vp_updL f0_0 v6_0.toNatClampNeg s0j1)) else (zlt (if 0 ≤ (lg_cmp r14 (0 : Int64)) then (p_X9_meet_L0 F V p0 p1 p2 K0 fu0 (v6_0 + (1 : Int32)) cibj1 (vp_updL f0_0 v6_0.toNatClampNeg s0j1)) else (if (lg_cmp r16 (0 : Int64)) ≤ 0 then (p_X9_meet_L0 F V p0 p1 p2 K0 fu0 (v6_0 + (1 : Int32)) cibj1 (vp_updL f0_0 v6_0.toNatClampNeg s0j1)) else (zg (v6_0 < 0 ∨ 121 ≤ v6_0.toNatClampNeg) (if (lg_cmp ((vp_updL f0_0 v6_0.toNatClampNeg s0j1) v6_0.toNatClampNeg) (0 : Int64)) < 0 then (p_X9_meet_L0 F V p0 p1 p2 K0 fu0 (v6_0 + (1 : Int32)) cibj1 (vp_updL f0_0 v6_0.toNatClampNeg s0j1)) else (p_X9_meet_L0 F V p0 p1 p2 K0 fu0 (v6_0 + (1 : Int32)) true (vp_updL f0_0 v6_0.toNatClampNeg s0j1)))))) (fun jf2 => (if (lg_cmp r14 (0 : Int64)) < 0 then (jf2 ) else (if 0 ≤ (lg_cmp r16 (0 : Int64)) then (jf2 ) else (zg (v6_0 < 0 ∨ 121 ≤ v6_0.toNatClampNeg) (if (lg_cmp ((vp_updL f0_0 v6_0.toNatClampNeg s0j1) v6_0.toNatClampNeg) (0 : Int64)) < 0 then (p_X9_meet_L0 F V p0 p1 p2 K0 fu0 (v6_0 + (1 : Int32)) true (vp_updL f0_0 v6_0.toNatClampNeg s0j1)) else (jf2 ))))))))) = some (r, V', ib', dn', rf', th') → G H locs 1 121 (F0 m 121 ls [.long s0j1, .int v6_0, .ref w8]) := by
              intro s0j1 cibj1 H locs ls hP hD hS hl h
              refine hG _ _ _ _ _ ?_
              obtain ⟨z121, h⟩ := zg_some h
              refine va_last hx hb hK hP hD hS 2 0 rfl rfl z121 dX9_meet_121 (fun H locs hP hD hS => ?_)
              replace hP : va_P D vwCl (mW q v cJ V cibj1 dn rf mk th_6 ++ ([(w8, .inl (cJ, 121, .inr (.inl (vp_updL f0_0 v6_0.toNatClampNeg s0j1))))])) H := hP
              replace hD : va_D A (mW q v cJ V cibj1 dn rf mk th_6 ++ ([(w8, .inl (cJ, 121, .inr (.inl (vp_updL f0_0 v6_0.toNatClampNeg s0j1))))])) := hD
              refine lv_iload_n hx hb dX9_meet_122 rfl (lv_at hl 3 rfl) ?_
              refine lv_iconst (v := (1 : Int32)) hx hb dX9_meet_123 (by decide) ?_
              refine lv_icmp_ne (tgt := 180) hx hb dX9_meet_124 (by decide) (fun c124 => ?_) (fun c124 => ?_)
              · replace h := zif_t h c124
                refine lv_iinc (v := (v6_0 + (1 : Int32))) (lv' := [(6, .int (v6_0 + (1 : Int32))), (0, .ref q), (1, .int p0), (2, .int p1), (3, .int p2), (4, .int p3), (5, .ref w8), (7, .long r14), (9, .long r16)]) hx hb dX9_meet_180 hl (k := 6) rfl rfl (by decide) rfl (fun ls hl => ?_)
                refine lv_goto (tgt := 56) hx hb dX9_meet_183 (by decide) ?_
                exact hGW _ _ _ _ _ (ih0 (v6_0 + (1 : Int32)) cibj1 (vp_updL f0_0 v6_0.toNatClampNeg s0j1) _ _ ls hP hD hS (lv_sub hl [1, 2, 3, 4, 5, 6, 0] rfl) h)
              · replace h := zif_fn h c124
                refine lv_lload hx hb dX9_meet_127 (lv_at hl 7 rfl) ?_
                refine lv_lconst (v := (0 : Int64)) hx hb dX9_meet_129 (by decide) ?_
                refine W.lcmp hx hb dX9_meet_130 ?_
                have J2 : ∀  (H : Heap) (locs : List Loc) (ls : Array Slot), va_P D vwCl (mW q v cJ V cibj1 dn rf mk th_6 ++ ([(w8, .inl (cJ, 121, .inr (.inl (vp_updL f0_0 v6_0.toNatClampNeg s0j1))))])) H → va_D A (mW q v cJ V cibj1 dn rf mk th_6 ++ ([(w8, .inl (cJ, 121, .inr (.inl (vp_updL f0_0 v6_0.toNatClampNeg s0j1))))])) → va_S A s.heap H locs → lv_has ls 11 [(0, .ref q), (1, .int p0), (2, .int p1), (3, .int p2), (4, .int p3), (5, .ref w8), (6, .int v6_0), (7, .long r14), (9, .long r16)] → (if 0 ≤ (lg_cmp r14 (0 : Int64)) then (p_X9_meet_L0 F V p0 p1 p2 K0 fu0 (v6_0 + (1 : Int32)) cibj1 (vp_updL f0_0 v6_0.toNatClampNeg s0j1)) else (if (lg_cmp r16 (0 : Int64)) ≤ 0 then (p_X9_meet_L0 F V p0 p1 p2 K0 fu0 (v6_0 + (1 : Int32)) cibj1 (vp_updL f0_0 v6_0.toNatClampNeg s0j1)) else (zg (v6_0 < 0 ∨ 121 ≤ v6_0.toNatClampNeg) (if (lg_cmp ((vp_updL f0_0 v6_0.toNatClampNeg s0j1) v6_0.toNatClampNeg) (0 : Int64)) < 0 then (p_X9_meet_L0 F V p0 p1 p2 K0 fu0 (v6_0 + (1 : Int32)) cibj1 (vp_updL f0_0 v6_0.toNatClampNeg s0j1)) else (p_X9_meet_L0 F V p0 p1 p2 K0 fu0 (v6_0 + (1 : Int32)) true (vp_updL f0_0 v6_0.toNatClampNeg s0j1)))))) = some (r, V', ib', dn', rf', th') → G H locs 1 121 (F0 m 151 ls []) := by
                  intro  H locs ls hP hD hS hl h
                  refine hG _ _ _ _ _ ?_
                  refine lv_lload hx hb dX9_meet_151 (lv_at hl 7 rfl) ?_
                  refine lv_lconst (v := (0 : Int64)) hx hb dX9_meet_153 (by decide) ?_
                  refine W.lcmp hx hb dX9_meet_154 ?_
                  refine lv_if_ge (tgt := 180) hx hb dX9_meet_155 (by decide) (fun c155 => ?_) (fun c155 => ?_)
                  · replace h := zif_t h c155
                    refine lv_iinc (v := (v6_0 + (1 : Int32))) (lv' := [(6, .int (v6_0 + (1 : Int32))), (0, .ref q), (1, .int p0), (2, .int p1), (3, .int p2), (4, .int p3), (5, .ref w8), (7, .long r14), (9, .long r16)]) hx hb dX9_meet_180 hl (k := 6) rfl rfl (by decide) rfl (fun ls hl => ?_)
                    refine lv_goto (tgt := 56) hx hb dX9_meet_183 (by decide) ?_
                    exact hGW _ _ _ _ _ (ih0 (v6_0 + (1 : Int32)) cibj1 (vp_updL f0_0 v6_0.toNatClampNeg s0j1) _ _ ls hP hD hS (lv_sub hl [1, 2, 3, 4, 5, 6, 0] rfl) h)
                  · replace h := zif_f h c155
                    refine lv_lload hx hb dX9_meet_158 (lv_at hl 8 rfl) ?_
                    refine lv_lconst (v := (0 : Int64)) hx hb dX9_meet_160 (by decide) ?_
                    refine W.lcmp hx hb dX9_meet_161 ?_
                    refine lv_if_le (tgt := 180) hx hb dX9_meet_162 (by decide) (fun c162 => ?_) (fun c162 => ?_)
                    · replace h := zif_t h c162
                      refine lv_iinc (v := (v6_0 + (1 : Int32))) (lv' := [(6, .int (v6_0 + (1 : Int32))), (0, .ref q), (1, .int p0), (2, .int p1), (3, .int p2), (4, .int p3), (5, .ref w8), (7, .long r14), (9, .long r16)]) hx hb dX9_meet_180 hl (k := 6) rfl rfl (by decide) rfl (fun ls hl => ?_)
                      refine lv_goto (tgt := 56) hx hb dX9_meet_183 (by decide) ?_
                      exact hGW _ _ _ _ _ (ih0 (v6_0 + (1 : Int32)) cibj1 (vp_updL f0_0 v6_0.toNatClampNeg s0j1) _ _ ls hP hD hS (lv_sub hl [1, 2, 3, 4, 5, 6, 0] rfl) h)
                    · replace h := zif_f h c162
                      refine lv_aload hx hb dX9_meet_165 (lv_at hl 5 rfl) ?_
                      refine lv_iload hx hb dX9_meet_167 (lv_at hl 6 rfl) ?_
                      obtain ⟨z169, h⟩ := zg_some h
                      refine va_lald hx hb hK hP 2 0 rfl rfl z169 dX9_meet_169 ?_
                      refine lv_lconst (v := (0 : Int64)) hx hb dX9_meet_170 (by decide) ?_
                      refine W.lcmp hx hb dX9_meet_171 ?_
                      refine lv_if_lt (tgt := 180) hx hb dX9_meet_172 (by decide) (fun c172 => ?_) (fun c172 => ?_)
                      · replace h := zif_t h c172
                        refine lv_iinc (v := (v6_0 + (1 : Int32))) (lv' := [(6, .int (v6_0 + (1 : Int32))), (0, .ref q), (1, .int p0), (2, .int p1), (3, .int p2), (4, .int p3), (5, .ref w8), (7, .long r14), (9, .long r16)]) hx hb dX9_meet_180 hl (k := 6) rfl rfl (by decide) rfl (fun ls hl => ?_)
                        refine lv_goto (tgt := 56) hx hb dX9_meet_183 (by decide) ?_
                        exact hGW _ _ _ _ _ (ih0 (v6_0 + (1 : Int32)) cibj1 (vp_updL f0_0 v6_0.toNatClampNeg s0j1) _ _ ls hP hD hS (lv_sub hl [1, 2, 3, 4, 5, 6, 0] rfl) h)
                      · replace h := zif_f h c172
                        refine lv_aload_n hx hb dX9_meet_175 rfl (lv_at hl 0 rfl) ?_
                        refine lv_iconst (v := (1 : Int32)) hx hb dX9_meet_176 (by decide) ?_
                        refine va_put (D := D) (ci := 9) (v := .int (z01 true)) (ty := .boolean) (C := RX9) (T := TX9) (N := 6) hx hb hts kwX9 tyX9 tyX9_ok nmX9 hown hK hP hD hS 0 rfl rfl 1 (by decide) kf_36 (fun _ h9 => h9) rfl rfl (z01_nar true) (z01_fit true) (Nat.le_of_ble_eq_true rfl) dX9_meet_177 (fun H locs hP hD hS => ?_)
                        replace hP : va_P D vwCl (mW q v cJ V true dn rf mk th_6 ++ ([(w8, .inl (cJ, 121, .inr (.inl (vp_updL f0_0 v6_0.toNatClampNeg s0j1))))])) H := hP
                        replace hD : va_D A (mW q v cJ V true dn rf mk th_6 ++ ([(w8, .inl (cJ, 121, .inr (.inl (vp_updL f0_0 v6_0.toNatClampNeg s0j1))))])) := hD
                        refine lv_iinc (v := (v6_0 + (1 : Int32))) (lv' := [(6, .int (v6_0 + (1 : Int32))), (0, .ref q), (1, .int p0), (2, .int p1), (3, .int p2), (4, .int p3), (5, .ref w8), (7, .long r14), (9, .long r16)]) hx hb dX9_meet_180 hl (k := 6) rfl rfl (by decide) rfl (fun ls hl => ?_)
                        refine lv_goto (tgt := 56) hx hb dX9_meet_183 (by decide) ?_
                        exact hGW _ _ _ _ _ (ih0 (v6_0 + (1 : Int32)) true (vp_updL f0_0 v6_0.toNatClampNeg s0j1) _ _ ls hP hD hS (lv_sub hl [1, 2, 3, 4, 5, 6, 0] rfl) h)
                replace h := zlt_h h
                refine lv_if_lt (tgt := 151) hx hb dX9_meet_131 (by decide) (fun c131 => ?_) (fun c131 => ?_)
                · replace h := zif_t h c131
                  exact hGW _ _ _ _ _ (J2  _ _ ls hP hD hS (lv_sub hl [0, 1, 2, 3, 4, 5, 6, 7, 8] rfl) h)
                · replace h := zif_f h c131
                  refine lv_lload hx hb dX9_meet_134 (lv_at hl 8 rfl) ?_
                  refine lv_lconst (v := (0 : Int64)) hx hb dX9_meet_136 (by decide) ?_
                  refine W.lcmp hx hb dX9_meet_137 ?_
                  refine lv_if_ge (tgt := 151) hx hb dX9_meet_138 (by decide) (fun c138 => ?_) (fun c138 => ?_)
                  · replace h := zif_t h c138
                    exact hGW _ _ _ _ _ (J2  _ _ ls hP hD hS (lv_sub hl [0, 1, 2, 3, 4, 5, 6, 7, 8] rfl) h)
                  · replace h := zif_f h c138
                    refine lv_aload hx hb dX9_meet_141 (lv_at hl 5 rfl) ?_
                    refine lv_iload hx hb dX9_meet_143 (lv_at hl 6 rfl) ?_
                    obtain ⟨z145, h⟩ := zg_some h
                    refine va_lald hx hb hK hP 2 0 rfl rfl z145 dX9_meet_145 ?_
                    refine lv_lconst (v := (0 : Int64)) hx hb dX9_meet_146 (by decide) ?_
                    refine W.lcmp hx hb dX9_meet_147 ?_
                    refine lv_if_lt (tgt := 175) hx hb dX9_meet_148 (by decide) (fun c148 => ?_) (fun c148 => ?_)
                    · replace h := zif_t h c148
                      refine lv_aload_n hx hb dX9_meet_175 rfl (lv_at hl 0 rfl) ?_
                      refine lv_iconst (v := (1 : Int32)) hx hb dX9_meet_176 (by decide) ?_
                      refine va_put (D := D) (ci := 9) (v := .int (z01 true)) (ty := .boolean) (C := RX9) (T := TX9) (N := 6) hx hb hts kwX9 tyX9 tyX9_ok nmX9 hown hK hP hD hS 0 rfl rfl 1 (by decide) kf_36 (fun _ h9 => h9) rfl rfl (z01_nar true) (z01_fit true) (Nat.le_of_ble_eq_true rfl) dX9_meet_177 (fun H locs hP hD hS => ?_)
                      replace hP : va_P D vwCl (mW q v cJ V true dn rf mk th_6 ++ ([(w8, .inl (cJ, 121, .inr (.inl (vp_updL f0_0 v6_0.toNatClampNeg s0j1))))])) H := hP
                      replace hD : va_D A (mW q v cJ V true dn rf mk th_6 ++ ([(w8, .inl (cJ, 121, .inr (.inl (vp_updL f0_0 v6_0.toNatClampNeg s0j1))))])) := hD
                      refine lv_iinc (v := (v6_0 + (1 : Int32))) (lv' := [(6, .int (v6_0 + (1 : Int32))), (0, .ref q), (1, .int p0), (2, .int p1), (3, .int p2), (4, .int p3), (5, .ref w8), (7, .long r14), (9, .long r16)]) hx hb dX9_meet_180 hl (k := 6) rfl rfl (by decide) rfl (fun ls hl => ?_)
                      refine lv_goto (tgt := 56) hx hb dX9_meet_183 (by decide) ?_
                      exact hGW _ _ _ _ _ (ih0 (v6_0 + (1 : Int32)) true (vp_updL f0_0 v6_0.toNatClampNeg s0j1) _ _ ls hP hD hS (lv_sub hl [1, 2, 3, 4, 5, 6, 0] rfl) h)
                    · replace h := zif_f h c148
                      exact hGW _ _ _ _ _ (J2  _ _ ls hP hD hS (lv_sub hl [0, 1, 2, 3, 4, 5, 6, 7, 8] rfl) h)
            replace h := zlt_h h
            refine lv_if_ne (tgt := 100) hx hb dX9_meet_86 (by decide) (fun c86 => ?_) (fun c86 => ?_)
            · replace h := zif_t h c86
              refine lv_iload_n hx hb dX9_meet_100 rfl (lv_at hl 5 rfl) ?_
              refine lv_iconst (v := (1 : Int32)) hx hb dX9_meet_101 (by decide) ?_
              refine lv_icmp_ne (tgt := 113) hx hb dX9_meet_102 (by decide) (fun c102 => ?_) (fun c102 => ?_)
              · replace h := zif_t h c102
                refine lv_aload_n hx hb dX9_meet_113 rfl (lv_at hl 2 rfl) ?_
                refine lv_lload hx hb dX9_meet_114 (lv_at hl 1 rfl) ?_
                refine lv_lload hx hb dX9_meet_116 (lv_at hl 0 rfl) ?_
                obtain ⟨r18, ib_19, e20, h⟩ := zb2_some h
                have hPc := zsub (wn := (mW q v cJ V ibL0 dn rf mk th_6)) hP [0, 1] rfl
                have hDc := hD.sub (ws' := (mW q v cJ V ibL0 dn rf mk th_6)) [0, 1] (by decide) rfl
                refine zgol (va_runV (As := [.long r14, .long r16]) (rest := [.int v6_0, .ref w8]) ⟨hx, hb, hml, hown, hts⟩ (c_X9_times l D q v cJ cI cO cB V ibL0 dn rf mk th_6 r14 r16 r18 ib_19 e20 H.size) (cwV 2 hts gX9_meet_X9_times rfl rfl rfl hdV_X9_times ⟨Nat.le_of_ble_eq_true rfl, Nat.le_of_ble_eq_true rfl⟩) (zpreV (q0 := 0) (ci := 9) (T := TX9) (N := 6) hK hPc hDc rfl rfl [.long r14, .long r16]) rfl rfl hl.1 rfl (lv_room (Nat.le_of_ble_eq_true rfl)) dX9_meet_118 ⟨Nat.le_of_ble_eq_true rfl, Nat.le_of_ble_eq_true rfl⟩) (va_free hD hS hA [0, 1] rfl) (zjs (wn := (mW q v cJ V ib_19 dn rf mk th_6 ++ ([(w8, .inl (cJ, 121, .inr (.inl f0_0)))]))) [1, 2, 0] (zjF (wr := ([(w8, .inl (cJ, 121, .inr (.inl f0_0)))] : va_W)) hP hD hS hA [0, 1] [2] rfl rfl (by decide) (by decide)) rfl (by decide)) hS (fun H locs hP hD hS => ?_)
                replace hP : va_P D vwCl (mW q v cJ V ib_19 dn rf mk th_6 ++ ([(w8, .inl (cJ, 121, .inr (.inl f0_0)))])) H := hP
                replace hD : va_D A (mW q v cJ V ib_19 dn rf mk th_6 ++ ([(w8, .inl (cJ, 121, .inr (.inl f0_0)))])) := hD
                exact hGW _ _ _ _ _ (J1 r18 ib_19 _ _ ls hP hD hS (lv_sub hl [2, 3, 4, 5, 6, 7, 8, 1, 0] rfl) h)
              · replace h := zif_fn h c102
                refine lv_lload hx hb dX9_meet_105 (lv_at hl 1 rfl) ?_
                refine lv_lload hx hb dX9_meet_107 (lv_at hl 0 rfl) ?_
                refine lv_lsub hx hb dX9_meet_109 ?_
                refine lv_goto (tgt := 121) hx hb dX9_meet_110 (by decide) ?_
                exact hGW _ _ _ _ _ (J1 (r14 - r16) ibL0 _ _ ls hP hD hS (lv_sub hl [2, 3, 4, 5, 6, 7, 8, 1, 0] rfl) h)
            · replace h := zif_fn h c86
              refine lv_aload_n hx hb dX9_meet_89 rfl (lv_at hl 2 rfl) ?_
              refine lv_lload hx hb dX9_meet_90 (lv_at hl 1 rfl) ?_
              refine lv_lload hx hb dX9_meet_92 (lv_at hl 0 rfl) ?_
              obtain ⟨r21, ib_22, e23, h⟩ := zb2_some h
              have hPc := zsub (wn := (mW q v cJ V ibL0 dn rf mk th_6)) hP [0, 1] rfl
              have hDc := hD.sub (ws' := (mW q v cJ V ibL0 dn rf mk th_6)) [0, 1] (by decide) rfl
              refine zgol (va_runV (As := [.long r14, .long r16]) (rest := [.int v6_0, .ref w8]) ⟨hx, hb, hml, hown, hts⟩ (c_X9_plus l D q v cJ cI cO cB V ibL0 dn rf mk th_6 r14 r16 r21 ib_22 e23 H.size) (cwV 2 hts gX9_meet_X9_plus rfl rfl rfl hdV_X9_plus ⟨Nat.le_of_ble_eq_true rfl, Nat.le_of_ble_eq_true rfl⟩) (zpreV (q0 := 0) (ci := 9) (T := TX9) (N := 6) hK hPc hDc rfl rfl [.long r14, .long r16]) rfl rfl hl.1 rfl (lv_room (Nat.le_of_ble_eq_true rfl)) dX9_meet_94 ⟨Nat.le_of_ble_eq_true rfl, Nat.le_of_ble_eq_true rfl⟩) (va_free hD hS hA [0, 1] rfl) (zjs (wn := (mW q v cJ V ib_22 dn rf mk th_6 ++ ([(w8, .inl (cJ, 121, .inr (.inl f0_0)))]))) [1, 2, 0] (zjF (wr := ([(w8, .inl (cJ, 121, .inr (.inl f0_0)))] : va_W)) hP hD hS hA [0, 1] [2] rfl rfl (by decide) (by decide)) rfl (by decide)) hS (fun H locs hP hD hS => ?_)
              replace hP : va_P D vwCl (mW q v cJ V ib_22 dn rf mk th_6 ++ ([(w8, .inl (cJ, 121, .inr (.inl f0_0)))])) H := hP
              replace hD : va_D A (mW q v cJ V ib_22 dn rf mk th_6 ++ ([(w8, .inl (cJ, 121, .inr (.inl f0_0)))])) := hD
              refine lv_goto (tgt := 121) hx hb dX9_meet_97 (by decide) ?_
              exact hGW _ _ _ _ _ (J1 r21 ib_22 _ _ ls hP hD hS (lv_sub hl [2, 3, 4, 5, 6, 7, 8, 1, 0] rfl) h)
      exact hGW _ _ _ _ _ (L0 _ X0 F (1 : Int32) false (fun _ => 0) _ _ ls hP hD hS (lv_sub hl [2, 3, 4, 5, 6, 1, 0] rfl) h)
    · replace h := zif_f h c37
      refine lv_iconst (v := (0 : Int32)) hx hb dX9_meet_40 (by decide) ?_
      have g0 := Option.some.inj h
      obtain ⟨h1, g1⟩ := Prod.mk.inj g0
      obtain ⟨h2, g2⟩ := Prod.mk.inj g1
      obtain ⟨h3, g3⟩ := Prod.mk.inj g2
      obtain ⟨h4, g4⟩ := Prod.mk.inj g3
      obtain ⟨h5, g5⟩ := Prod.mk.inj g4
      subst h1
      subst h2
      subst h3
      subst h4
      subst h5
      subst g5
      refine W.widen (k := 1) (n := 121) (by decide) (by decide) ?_
      exact W.iret (v := (0 : Int32)) hx hb hr (fun t ht hW => ⟨⟨(0 : Int32), (), rfl, rfl, by rw [ht]; exact hP, va_K.moved hW.alike hK, hD⟩, hS.F ht⟩) hS.2.2 dX9_meet_41
  replace h := zlt_h h
  refine lv_if_eq (tgt := 27) hx hb dX9_meet_5 (by decide) (fun c5 => ?_) (fun c5 => ?_)
  · replace h := zif_t h c5
    exact hGW _ _ _ _ _ (J0  _ _ ls hP hD hS (lv_sub hl [0, 1, 2, 3, 4] rfl) h)
  · replace h := zif_f h c5
    refine lv_iload_n hx hb dX9_meet_8 rfl (lv_at hl 2 rfl) ?_
    obtain ⟨r24, e25, h⟩ := zb1_some h
    refine zgoi (va_runS (As := [.int p1]) (rest := [.ref q]) ⟨hx, hb, hml, hown, hts⟩ (c_X9_isOne l D (zT cJ cI cO cB) p1 r24 e25 H.size) (va_cwS 1 hts gX9_meet_X9_isOne rfl rfl rfl hdS_X9_isOne ⟨Nat.le_of_ble_eq_true rfl, Nat.le_of_ble_eq_true rfl⟩) (zpreS hK zP0 (zD0 (A := A)) [.int p1]) rfl rfl hl.1 rfl (lv_room (Nat.le_of_ble_eq_true rfl)) dX9_meet_9 ⟨Nat.le_of_ble_eq_true rfl, Nat.le_of_ble_eq_true rfl⟩) (zf0 hS hA) (zjE hP hD) hS (fun H locs hP hD hS => ?_)
    refine lv_if_eq (tgt := 27) hx hb dX9_meet_12 (by decide) (fun c12 => ?_) (fun c12 => ?_)
    · replace h := zif_t h c12
      exact hGW _ _ _ _ _ (J0  _ _ ls hP hD hS (lv_sub hl [0, 1, 2, 3, 4] rfl) h)
    · replace h := zif_f h c12
      refine lv_iload hx hb dX9_meet_15 (lv_at hl 4 rfl) ?_
      obtain ⟨r26, e27, h⟩ := zb1_some h
      refine zgoi (va_runS (As := [.int p3]) (rest := [.ref q]) ⟨hx, hb, hml, hown, hts⟩ (c_X9_isOne l D (zT cJ cI cO cB) p3 r26 e27 H.size) (va_cwS 1 hts gX9_meet_X9_isOne rfl rfl rfl hdS_X9_isOne ⟨Nat.le_of_ble_eq_true rfl, Nat.le_of_ble_eq_true rfl⟩) (zpreS hK zP0 (zD0 (A := A)) [.int p3]) rfl rfl hl.1 rfl (lv_room (Nat.le_of_ble_eq_true rfl)) dX9_meet_17 ⟨Nat.le_of_ble_eq_true rfl, Nat.le_of_ble_eq_true rfl⟩) (zf0 hS hA) (zjE hP hD) hS (fun H locs hP hD hS => ?_)
      refine lv_if_eq (tgt := 27) hx hb dX9_meet_20 (by decide) (fun c20 => ?_) (fun c20 => ?_)
      · replace h := zif_t h c20
        exact hGW _ _ _ _ _ (J0  _ _ ls hP hD hS (lv_sub hl [0, 1, 2, 3, 4] rfl) h)
      · replace h := zif_f h c20
        refine lv_iconst (v := (1 : Int32)) hx hb dX9_meet_23 (by decide) ?_
        refine lv_goto (tgt := 28) hx hb dX9_meet_24 (by decide) ?_
        refine lv_iload_n hx hb dX9_meet_28 rfl (lv_at hl 3 rfl) ?_
        refine lv_iconst (v := (0 : Int32)) hx hb dX9_meet_29 (by decide) ?_
        refine lv_iconst (v := (2 : Int32)) hx hb dX9_meet_30 (by decide) ?_
        obtain ⟨r28, e29, h⟩ := zb1_some h
        refine zgoi (va_runS (As := [.int p2, .int (0 : Int32), .int (2 : Int32)]) (rest := [.int (1 : Int32), .ref q]) ⟨hx, hb, hml, hown, hts⟩ (c_X9_isIn l D (zT cJ cI cO cB) p2 (0 : Int32) (2 : Int32) r28 e29 H.size) (va_cwS 3 hts gX9_meet_X9_isIn rfl rfl rfl hdS_X9_isIn ⟨Nat.le_of_ble_eq_true rfl, Nat.le_of_ble_eq_true rfl⟩) (zpreS hK zP0 (zD0 (A := A)) [.int p2, .int (0 : Int32), .int (2 : Int32)]) rfl rfl hl.1 rfl (lv_room (Nat.le_of_ble_eq_true rfl)) dX9_meet_31 ⟨Nat.le_of_ble_eq_true rfl, Nat.le_of_ble_eq_true rfl⟩) (zf0 hS hA) (zjE hP hD) hS (fun H locs hP hD hS => ?_)
        obtain ⟨r30, th_31, e32, h⟩ := zb2_some h
        refine zgoi (va_runV (As := [.int (1 : Int32), .int (z01 r28)]) (rest := []) ⟨hx, hb, hml, hown, hts⟩ (c_X9_isThrown l D q v cJ cI cO cB V ib dn rf mk th true r28 r30 th_31 e32 H.size) (cwV 2 hts gX9_meet_X9_isThrown rfl rfl rfl hdV_X9_isThrown ⟨Nat.le_of_ble_eq_true rfl, Nat.le_of_ble_eq_true rfl⟩) (zpreV (q0 := 0) (ci := 9) (T := TX9) (N := 6) hK hP hD rfl rfl [.int (1 : Int32), .int (z01 r28)]) rfl rfl hl.1 rfl (lv_room (Nat.le_of_ble_eq_true rfl)) dX9_meet_34 ⟨Nat.le_of_ble_eq_true rfl, Nat.le_of_ble_eq_true rfl⟩) (zfree hD hS hA) (zjW hD hS hA) hS (fun H locs hP hD hS => ?_)
        replace hP : va_P D vwCl (mW q v cJ V ib dn rf mk th_31) H := hP
        replace hD : va_D A (mW q v cJ V ib dn rf mk th_31) := hD
        refine lv_if_eq (tgt := 42) hx hb dX9_meet_37 (by decide) (fun c37 => ?_) (fun c37 => ?_)
        · replace h := zif_t h c37
          refine lv_bipush (v := (121 : Int32)) hx hb dX9_meet_42 (by decide) ?_
          refine znewJ (N := 121) hx hb karr hK hP hD hS hA (by decide) (by decide) (by decide) (Nat.le_of_ble_eq_true rfl) (Nat.le_of_ble_eq_true rfl) dX9_meet_44 (fun w33 H hP hD hS => ?_)
          replace hP : va_P D vwCl (mW q v cJ V ib dn rf mk th_31 ++ ([(w33, .inl (cJ, 121, .inr (.inl (fun _ => 0))))])) H := hP
          replace hD : va_D A (mW q v cJ V ib dn rf mk th_31 ++ ([(w33, .inl (cJ, 121, .inr (.inl (fun _ => 0))))])) := hD
          refine lv_astore (lv' := [(5, .ref w33), (0, .ref q), (1, .int p0), (2, .int p1), (3, .int p2), (4, .int p3)]) hx hb dX9_meet_46 hl (by decide) rfl (fun ls hl => ?_)
          refine lv_aload_n hx hb dX9_meet_48 rfl (lv_at hl 1 rfl) ?_
          refine lv_iconst (v := (0 : Int32)) hx hb dX9_meet_49 (by decide) ?_
          refine va_put (D := D) (ci := 9) (v := .int (z01 false)) (ty := .boolean) (C := RX9) (T := TX9) (N := 6) hx hb hts kwX9 tyX9 tyX9_ok nmX9 hown hK hP hD hS 0 rfl rfl 1 (by decide) kf_36 (fun _ h9 => h9) rfl rfl (z01_nar false) (z01_fit false) (Nat.le_of_ble_eq_true rfl) dX9_meet_50 (fun H locs hP hD hS => ?_)
          replace hP : va_P D vwCl (mW q v cJ V false dn rf mk th_31 ++ ([(w33, .inl (cJ, 121, .inr (.inl (fun _ => 0))))])) H := hP
          replace hD : va_D A (mW q v cJ V false dn rf mk th_31 ++ ([(w33, .inl (cJ, 121, .inr (.inl (fun _ => 0))))])) := hD
          refine lv_iconst (v := (1 : Int32)) hx hb dX9_meet_53 (by decide) ?_
          refine lv_istore (lv' := [(6, .int (1 : Int32)), (5, .ref w33), (0, .ref q), (1, .int p0), (2, .int p1), (3, .int p2), (4, .int p3)]) hx hb dX9_meet_54 hl (by decide) rfl (fun ls hl => ?_)
          have X1 : ∀ (v6_1 : Int32) (ibL1 : Bool) (f0_1 : Nat → Int64) (H : Heap) (locs : List Loc) (ls : Array Slot), va_P D vwCl (mW q v cJ V ibL1 dn rf mk th_31 ++ ([(w33, .inl (cJ, 121, .inr (.inl f0_1)))])) H → va_D A (mW q v cJ V ibL1 dn rf mk th_31 ++ ([(w33, .inl (cJ, 121, .inr (.inl f0_1)))])) → va_S A s.heap H locs → lv_has ls 11 [(0, .ref q), (1, .int p0), (2, .int p1), (3, .int p2), (4, .int p3), (5, .ref w33), (6, .int v6_1)] → (zb4 (p_X9_becomeOrNot F V ibL1 dn rf p3 f0_1) (fun r34 V_35 dn_36 rf_37 => (some (r34, V_35, ibL1, dn_36, rf_37, th_31)))) = some (r, V', ib', dn', rf', th') → G H locs 1 121 (F0 m 186 ls []) := by
            intro v6_1 ibL1 f0_1 H locs ls hP hD hS hl h
            refine hG _ _ _ _ _ ?_
            refine lv_aload_n hx hb dX9_meet_186 rfl (lv_at hl 0 rfl) ?_
            refine lv_iload hx hb dX9_meet_187 (lv_at hl 4 rfl) ?_
            refine lv_aload hx hb dX9_meet_189 (lv_at hl 5 rfl) ?_
            obtain ⟨r34, V_35, dn_36, rf_37, e38, h⟩ := zb4_some h
            refine zgoi (va_runV (As := [.int p3, .ref w33]) (rest := []) ⟨hx, hb, hml, hown, hts⟩ (c_X9_becomeOrNot l D q v cJ cI cO cB V ibL1 dn rf mk th_31 F p3 w33 f0_1 r34 V_35 dn_36 rf_37 e38 H.size) (cwV 2 hts gX9_meet_X9_becomeOrNot rfl rfl rfl hdV_X9_becomeOrNot ⟨Nat.le_of_ble_eq_true rfl, Nat.le_of_ble_eq_true rfl⟩) (zpreV (q0 := 0) (ci := 9) (T := TX9) (N := 6) hK hP hD rfl rfl [.int p3, .ref w33]) rfl rfl hl.1 rfl (lv_room (Nat.le_of_ble_eq_true rfl)) dX9_meet_191 ⟨Nat.le_of_ble_eq_true rfl, Nat.le_of_ble_eq_true rfl⟩) (zfree hD hS hA) (zjW hD hS hA) hS (fun H locs hP hD hS => ?_)
            replace hP : va_P D vwCl (mW q v cJ V_35 ibL1 dn_36 rf_37 mk th_31 ++ ([(w33, .inl (cJ, 121, .inr (.inl f0_1)))])) H := hP
            replace hD : va_D A (mW q v cJ V_35 ibL1 dn_36 rf_37 mk th_31 ++ ([(w33, .inl (cJ, 121, .inr (.inl f0_1)))])) := hD
            have g0 := Option.some.inj h
            obtain ⟨h1, g1⟩ := Prod.mk.inj g0
            obtain ⟨h2, g2⟩ := Prod.mk.inj g1
            obtain ⟨h3, g3⟩ := Prod.mk.inj g2
            obtain ⟨h4, g4⟩ := Prod.mk.inj g3
            obtain ⟨h5, g5⟩ := Prod.mk.inj g4
            subst h1
            subst h2
            subst h3
            subst h4
            subst h5
            subst g5
            replace hP := zsub (wn := (mW q v cJ V_35 ibL1 dn_36 rf_37 mk th_31)) hP [0, 1] rfl
            replace hD := hD.sub (ws' := (mW q v cJ V_35 ibL1 dn_36 rf_37 mk th_31)) [0, 1] (by decide) rfl
            exact W.iret (v := r34) hx hb hr (fun t ht hW => ⟨⟨r34, (), rfl, rfl, by rw [ht]; exact hP, va_K.moved hW.alike hK, hD⟩, hS.F ht⟩) hS.2.2 dX9_meet_194
          have L1 : ∀ (K1 : Int32 → Bool → (Nat → Int64) → Option (Int32 × (Nat → Int64) × Bool × Int32 × Int32 × Int32)) (HX1 : ∀ (v6_1 : Int32) (ibL1 : Bool) (f0_1 : Nat → Int64) (H : Heap) (locs : List Loc) (ls : Array Slot), va_P D vwCl (mW q v cJ V ibL1 dn rf mk th_31 ++ ([(w33, .inl (cJ, 121, .inr (.inl f0_1)))])) H → va_D A (mW q v cJ V ibL1 dn rf mk th_31 ++ ([(w33, .inl (cJ, 121, .inr (.inl f0_1)))])) → va_S A s.heap H locs → lv_has ls 11 [(0, .ref q), (1, .int p0), (2, .int p1), (3, .int p2), (4, .int p3), (5, .ref w33), (6, .int v6_1)] → K1 v6_1 ibL1 f0_1 = some (r, V', ib', dn', rf', th') → G H locs 1 121 (F0 m 186 ls [])) (fu1 : Nat) (v6_1 : Int32) (ibL1 : Bool) (f0_1 : Nat → Int64) (H : Heap) (locs : List Loc) (ls : Array Slot), va_P D vwCl (mW q v cJ V ibL1 dn rf mk th_31 ++ ([(w33, .inl (cJ, 121, .inr (.inl f0_1)))])) H → va_D A (mW q v cJ V ibL1 dn rf mk th_31 ++ ([(w33, .inl (cJ, 121, .inr (.inl f0_1)))])) → va_S A s.heap H locs → lv_has ls 11 [(0, .ref q), (1, .int p0), (2, .int p1), (3, .int p2), (4, .int p3), (5, .ref w33), (6, .int v6_1)] → p_X9_meet_L1 F V p0 p1 p2 K1 fu1 v6_1 ibL1 f0_1 = some (r, V', ib', dn', rf', th') → G H locs 1 121 (F0 m 56 ls []) := by
            intro K1 HX1 fu1
            induction fu1 with
            | zero =>
              intro v6_1 ibL1 f0_1 H locs ls hP hD hS hl h
              exact (zno h).elim
            | succ fu1 ih1 =>
              intro v6_1 ibL1 f0_1 H locs ls hP hD hS hl h
              refine hG _ _ _ _ _ ?_
              unfold p_X9_meet_L1 at h
              refine lv_iload hx hb dX9_meet_56 (lv_at hl 6 rfl) ?_
              refine lv_bipush (v := (120 : Int32)) hx hb dX9_meet_58 (by decide) ?_
              refine lv_icmp_gt (tgt := 186) hx hb dX9_meet_60 (by decide) (fun c60 => ?_) (fun c60 => ?_)
              · replace h := zif_t h c60
                exact hGW _ _ _ _ _ (HX1 v6_1 ibL1 f0_1 _ _ ls hP hD hS (lv_sub hl [0, 1, 2, 3, 4, 5, 6] rfl) h)
              · replace h := zif_f h c60
                refine lv_aload_n hx hb dX9_meet_63 rfl (lv_at hl 0 rfl) ?_
                refine lv_iload_n hx hb dX9_meet_64 rfl (lv_at hl 1 rfl) ?_
                refine lv_iload hx hb dX9_meet_65 (lv_at hl 6 rfl) ?_
                obtain ⟨r39, e40, h⟩ := zb1_some h
                have hPc := zsub (wn := (mW q v cJ V ibL1 dn rf mk th_31)) hP [0, 1] rfl
                have hDc := hD.sub (ws' := (mW q v cJ V ibL1 dn rf mk th_31)) [0, 1] (by decide) rfl
                refine zgol (va_runV (As := [.int p0, .int v6_1]) (rest := []) ⟨hx, hb, hml, hown, hts⟩ (c_X9_at l D q v cJ cI cO cB V ibL1 dn rf mk th_31 p0 v6_1 r39 e40 H.size) (cwV 2 hts gX9_meet_X9_at rfl rfl rfl hdV_X9_at ⟨Nat.le_of_ble_eq_true rfl, Nat.le_of_ble_eq_true rfl⟩) (zpreV (q0 := 0) (ci := 9) (T := TX9) (N := 6) hK hPc hDc rfl rfl [.int p0, .int v6_1]) rfl rfl hl.1 rfl (lv_room (Nat.le_of_ble_eq_true rfl)) dX9_meet_67 ⟨Nat.le_of_ble_eq_true rfl, Nat.le_of_ble_eq_true rfl⟩) (va_free hD hS hA [0, 1] rfl) (zjs (wn := (mW q v cJ V ibL1 dn rf mk th_31 ++ ([(w33, .inl (cJ, 121, .inr (.inl f0_1)))]))) [1, 2, 0] (zjF (wr := ([(w33, .inl (cJ, 121, .inr (.inl f0_1)))] : va_W)) hP hD hS hA [0, 1] [2] rfl rfl (by decide) (by decide)) rfl (by decide)) hS (fun H locs hP hD hS => ?_)
                replace hP : va_P D vwCl (mW q v cJ V ibL1 dn rf mk th_31 ++ ([(w33, .inl (cJ, 121, .inr (.inl f0_1)))])) H := hP
                replace hD : va_D A (mW q v cJ V ibL1 dn rf mk th_31 ++ ([(w33, .inl (cJ, 121, .inr (.inl f0_1)))])) := hD
                refine lv_lstore (lv' := [(7, .long r39), (0, .ref q), (1, .int p0), (2, .int p1), (3, .int p2), (4, .int p3), (5, .ref w33), (6, .int v6_1)]) hx hb dX9_meet_70 hl (by decide) rfl (fun ls hl => ?_)
                refine lv_aload_n hx hb dX9_meet_72 rfl (lv_at hl 1 rfl) ?_
                refine lv_iload_n hx hb dX9_meet_73 rfl (lv_at hl 3 rfl) ?_
                refine lv_iload hx hb dX9_meet_74 (lv_at hl 7 rfl) ?_
                obtain ⟨r41, e42, h⟩ := zb1_some h
                have hPc := zsub (wn := (mW q v cJ V ibL1 dn rf mk th_31)) hP [0, 1] rfl
                have hDc := hD.sub (ws' := (mW q v cJ V ibL1 dn rf mk th_31)) [0, 1] (by decide) rfl
                refine zgol (va_runV (As := [.int p1, .int v6_1]) (rest := []) ⟨hx, hb, hml, hown, hts⟩ (c_X9_at l D q v cJ cI cO cB V ibL1 dn rf mk th_31 p1 v6_1 r41 e42 H.size) (cwV 2 hts gX9_meet_X9_at rfl rfl rfl hdV_X9_at ⟨Nat.le_of_ble_eq_true rfl, Nat.le_of_ble_eq_true rfl⟩) (zpreV (q0 := 0) (ci := 9) (T := TX9) (N := 6) hK hPc hDc rfl rfl [.int p1, .int v6_1]) rfl rfl hl.1 rfl (lv_room (Nat.le_of_ble_eq_true rfl)) dX9_meet_76 ⟨Nat.le_of_ble_eq_true rfl, Nat.le_of_ble_eq_true rfl⟩) (va_free hD hS hA [0, 1] rfl) (zjs (wn := (mW q v cJ V ibL1 dn rf mk th_31 ++ ([(w33, .inl (cJ, 121, .inr (.inl f0_1)))]))) [1, 2, 0] (zjF (wr := ([(w33, .inl (cJ, 121, .inr (.inl f0_1)))] : va_W)) hP hD hS hA [0, 1] [2] rfl rfl (by decide) (by decide)) rfl (by decide)) hS (fun H locs hP hD hS => ?_)
                replace hP : va_P D vwCl (mW q v cJ V ibL1 dn rf mk th_31 ++ ([(w33, .inl (cJ, 121, .inr (.inl f0_1)))])) H := hP
                replace hD : va_D A (mW q v cJ V ibL1 dn rf mk th_31 ++ ([(w33, .inl (cJ, 121, .inr (.inl f0_1)))])) := hD
                refine lv_lstore (lv' := [(9, .long r41), (7, .long r39), (0, .ref q), (1, .int p0), (2, .int p1), (3, .int p2), (4, .int p3), (5, .ref w33), (6, .int v6_1)]) hx hb dX9_meet_79 hl (by decide) rfl (fun ls hl => ?_)
                refine lv_aload hx hb dX9_meet_81 (lv_at hl 7 rfl) ?_
                refine lv_iload hx hb dX9_meet_83 (lv_at hl 8 rfl) ?_
                refine lv_iload_n hx hb dX9_meet_85 rfl (lv_at hl 5 rfl) ?_
                have J3 : ∀ (s0j3 : Int64) (cibj3 : Bool) (H : Heap) (locs : List Loc) (ls : Array Slot), va_P D vwCl (mW q v cJ V cibj3 dn rf mk th_31 ++ ([(w33, .inl (cJ, 121, .inr (.inl f0_1)))])) H → va_D A (mW q v cJ V cibj3 dn rf mk th_31 ++ ([(w33, .inl (cJ, 121, .inr (.inl f0_1)))])) → va_S A s.heap H locs → lv_has ls 11 [(0, .ref q), (1, .int p0), (2, .int p1), (3, .int p2), (4, .int p3), (5, .ref w33), (6, .int v6_1), (7, .long r39), (9, .long r41)] → (zg (v6_1 < 0 ∨ 121 ≤ v6_1.toNatClampNeg) (if ¬ p2 = (1 : Int32) then (p_X9_meet_L1 F V p0 p1 p2 K1 fu1 (v6_1 + (1 : Int32)) cibj3 (vp_updL f0_1 v6_1.toNatClampNeg s0j3)) else (zlt (if 0 ≤ (lg_cmp r39 (0 : Int64)) then (p_X9_meet_L1 F V p0 p1 p2 K1 fu1 (v6_1 + (1 : Int32)) cibj3 (vp_updL f0_1 v6_1.toNatClampNeg s0j3)) else (if (lg_cmp r41 (0 : Int64)) ≤ 0 then (p_X9_meet_L1 F V p0 p1 p2 K1 fu1 (v6_1 + (1 : Int32)) cibj3 (vp_updL f0_1 v6_1.toNatClampNeg s0j3)) else (zg (v6_1 < 0 ∨ 121 ≤ v6_1.toNatClampNeg) (if (lg_cmp ((vp_updL f0_1 v6_1.toNatClampNeg s0j3) v6_1.toNatClampNeg) (0 : Int64)) < 0 then (p_X9_meet_L1 F V p0 p1 p2 K1 fu1 (v6_1 + (1 : Int32)) cibj3 (vp_updL f0_1 v6_1.toNatClampNeg s0j3)) else (p_X9_meet_L1 F V p0 p1 p2 K1 fu1 (v6_1 + (1 : Int32)) true (vp_updL f0_1 v6_1.toNatClampNeg s0j3)))))) (fun jf4 => (if (lg_cmp r39 (0 : Int64)) < 0 then (jf4 ) else (if 0 ≤ (lg_cmp r41 (0 : Int64)) then (jf4 ) else (zg (v6_1 < 0 ∨ 121 ≤ v6_1.toNatClampNeg) (if (lg_cmp ((vp_updL f0_1 v6_1.toNatClampNeg s0j3) v6_1.toNatClampNeg) (0 : Int64)) < 0 then (p_X9_meet_L1 F V p0 p1 p2 K1 fu1 (v6_1 + (1 : Int32)) true (vp_updL f0_1 v6_1.toNatClampNeg s0j3)) else (jf4 ))))))))) = some (r, V', ib', dn', rf', th') → G H locs 1 121 (F0 m 121 ls [.long s0j3, .int v6_1, .ref w33]) := by
                  intro s0j3 cibj3 H locs ls hP hD hS hl h
                  refine hG _ _ _ _ _ ?_
                  obtain ⟨z121, h⟩ := zg_some h
                  refine va_last hx hb hK hP hD hS 2 0 rfl rfl z121 dX9_meet_121 (fun H locs hP hD hS => ?_)
                  replace hP : va_P D vwCl (mW q v cJ V cibj3 dn rf mk th_31 ++ ([(w33, .inl (cJ, 121, .inr (.inl (vp_updL f0_1 v6_1.toNatClampNeg s0j3))))])) H := hP
                  replace hD : va_D A (mW q v cJ V cibj3 dn rf mk th_31 ++ ([(w33, .inl (cJ, 121, .inr (.inl (vp_updL f0_1 v6_1.toNatClampNeg s0j3))))])) := hD
                  refine lv_iload_n hx hb dX9_meet_122 rfl (lv_at hl 3 rfl) ?_
                  refine lv_iconst (v := (1 : Int32)) hx hb dX9_meet_123 (by decide) ?_
                  refine lv_icmp_ne (tgt := 180) hx hb dX9_meet_124 (by decide) (fun c124 => ?_) (fun c124 => ?_)
                  · replace h := zif_t h c124
                    refine lv_iinc (v := (v6_1 + (1 : Int32))) (lv' := [(6, .int (v6_1 + (1 : Int32))), (0, .ref q), (1, .int p0), (2, .int p1), (3, .int p2), (4, .int p3), (5, .ref w33), (7, .long r39), (9, .long r41)]) hx hb dX9_meet_180 hl (k := 6) rfl rfl (by decide) rfl (fun ls hl => ?_)
                    refine lv_goto (tgt := 56) hx hb dX9_meet_183 (by decide) ?_
                    exact hGW _ _ _ _ _ (ih1 (v6_1 + (1 : Int32)) cibj3 (vp_updL f0_1 v6_1.toNatClampNeg s0j3) _ _ ls hP hD hS (lv_sub hl [1, 2, 3, 4, 5, 6, 0] rfl) h)
                  · replace h := zif_fn h c124
                    refine lv_lload hx hb dX9_meet_127 (lv_at hl 7 rfl) ?_
                    refine lv_lconst (v := (0 : Int64)) hx hb dX9_meet_129 (by decide) ?_
                    refine W.lcmp hx hb dX9_meet_130 ?_
                    have J4 : ∀  (H : Heap) (locs : List Loc) (ls : Array Slot), va_P D vwCl (mW q v cJ V cibj3 dn rf mk th_31 ++ ([(w33, .inl (cJ, 121, .inr (.inl (vp_updL f0_1 v6_1.toNatClampNeg s0j3))))])) H → va_D A (mW q v cJ V cibj3 dn rf mk th_31 ++ ([(w33, .inl (cJ, 121, .inr (.inl (vp_updL f0_1 v6_1.toNatClampNeg s0j3))))])) → va_S A s.heap H locs → lv_has ls 11 [(0, .ref q), (1, .int p0), (2, .int p1), (3, .int p2), (4, .int p3), (5, .ref w33), (6, .int v6_1), (7, .long r39), (9, .long r41)] → (if 0 ≤ (lg_cmp r39 (0 : Int64)) then (p_X9_meet_L1 F V p0 p1 p2 K1 fu1 (v6_1 + (1 : Int32)) cibj3 (vp_updL f0_1 v6_1.toNatClampNeg s0j3)) else (if (lg_cmp r41 (0 : Int64)) ≤ 0 then (p_X9_meet_L1 F V p0 p1 p2 K1 fu1 (v6_1 + (1 : Int32)) cibj3 (vp_updL f0_1 v6_1.toNatClampNeg s0j3)) else (zg (v6_1 < 0 ∨ 121 ≤ v6_1.toNatClampNeg) (if (lg_cmp ((vp_updL f0_1 v6_1.toNatClampNeg s0j3) v6_1.toNatClampNeg) (0 : Int64)) < 0 then (p_X9_meet_L1 F V p0 p1 p2 K1 fu1 (v6_1 + (1 : Int32)) cibj3 (vp_updL f0_1 v6_1.toNatClampNeg s0j3)) else (p_X9_meet_L1 F V p0 p1 p2 K1 fu1 (v6_1 + (1 : Int32)) true (vp_updL f0_1 v6_1.toNatClampNeg s0j3)))))) = some (r, V', ib', dn', rf', th') → G H locs 1 121 (F0 m 151 ls []) := by
                      intro  H locs ls hP hD hS hl h
                      refine hG _ _ _ _ _ ?_
                      refine lv_lload hx hb dX9_meet_151 (lv_at hl 7 rfl) ?_
                      refine lv_lconst (v := (0 : Int64)) hx hb dX9_meet_153 (by decide) ?_
                      refine W.lcmp hx hb dX9_meet_154 ?_
                      refine lv_if_ge (tgt := 180) hx hb dX9_meet_155 (by decide) (fun c155 => ?_) (fun c155 => ?_)
                      · replace h := zif_t h c155
                        refine lv_iinc (v := (v6_1 + (1 : Int32))) (lv' := [(6, .int (v6_1 + (1 : Int32))), (0, .ref q), (1, .int p0), (2, .int p1), (3, .int p2), (4, .int p3), (5, .ref w33), (7, .long r39), (9, .long r41)]) hx hb dX9_meet_180 hl (k := 6) rfl rfl (by decide) rfl (fun ls hl => ?_)
                        refine lv_goto (tgt := 56) hx hb dX9_meet_183 (by decide) ?_
                        exact hGW _ _ _ _ _ (ih1 (v6_1 + (1 : Int32)) cibj3 (vp_updL f0_1 v6_1.toNatClampNeg s0j3) _ _ ls hP hD hS (lv_sub hl [1, 2, 3, 4, 5, 6, 0] rfl) h)
                      · replace h := zif_f h c155
                        refine lv_lload hx hb dX9_meet_158 (lv_at hl 8 rfl) ?_
                        refine lv_lconst (v := (0 : Int64)) hx hb dX9_meet_160 (by decide) ?_
                        refine W.lcmp hx hb dX9_meet_161 ?_
                        refine lv_if_le (tgt := 180) hx hb dX9_meet_162 (by decide) (fun c162 => ?_) (fun c162 => ?_)
                        · replace h := zif_t h c162
                          refine lv_iinc (v := (v6_1 + (1 : Int32))) (lv' := [(6, .int (v6_1 + (1 : Int32))), (0, .ref q), (1, .int p0), (2, .int p1), (3, .int p2), (4, .int p3), (5, .ref w33), (7, .long r39), (9, .long r41)]) hx hb dX9_meet_180 hl (k := 6) rfl rfl (by decide) rfl (fun ls hl => ?_)
                          refine lv_goto (tgt := 56) hx hb dX9_meet_183 (by decide) ?_
                          exact hGW _ _ _ _ _ (ih1 (v6_1 + (1 : Int32)) cibj3 (vp_updL f0_1 v6_1.toNatClampNeg s0j3) _ _ ls hP hD hS (lv_sub hl [1, 2, 3, 4, 5, 6, 0] rfl) h)
                        · replace h := zif_f h c162
                          refine lv_aload hx hb dX9_meet_165 (lv_at hl 5 rfl) ?_
                          refine lv_iload hx hb dX9_meet_167 (lv_at hl 6 rfl) ?_
                          obtain ⟨z169, h⟩ := zg_some h
                          refine va_lald hx hb hK hP 2 0 rfl rfl z169 dX9_meet_169 ?_
                          refine lv_lconst (v := (0 : Int64)) hx hb dX9_meet_170 (by decide) ?_
                          refine W.lcmp hx hb dX9_meet_171 ?_
                          refine lv_if_lt (tgt := 180) hx hb dX9_meet_172 (by decide) (fun c172 => ?_) (fun c172 => ?_)
                          · replace h := zif_t h c172
                            refine lv_iinc (v := (v6_1 + (1 : Int32))) (lv' := [(6, .int (v6_1 + (1 : Int32))), (0, .ref q), (1, .int p0), (2, .int p1), (3, .int p2), (4, .int p3), (5, .ref w33), (7, .long r39), (9, .long r41)]) hx hb dX9_meet_180 hl (k := 6) rfl rfl (by decide) rfl (fun ls hl => ?_)
                            refine lv_goto (tgt := 56) hx hb dX9_meet_183 (by decide) ?_
                            exact hGW _ _ _ _ _ (ih1 (v6_1 + (1 : Int32)) cibj3 (vp_updL f0_1 v6_1.toNatClampNeg s0j3) _ _ ls hP hD hS (lv_sub hl [1, 2, 3, 4, 5, 6, 0] rfl) h)
                          · replace h := zif_f h c172
                            refine lv_aload_n hx hb dX9_meet_175 rfl (lv_at hl 0 rfl) ?_
                            refine lv_iconst (v := (1 : Int32)) hx hb dX9_meet_176 (by decide) ?_
                            refine va_put (D := D) (ci := 9) (v := .int (z01 true)) (ty := .boolean) (C := RX9) (T := TX9) (N := 6) hx hb hts kwX9 tyX9 tyX9_ok nmX9 hown hK hP hD hS 0 rfl rfl 1 (by decide) kf_36 (fun _ h9 => h9) rfl rfl (z01_nar true) (z01_fit true) (Nat.le_of_ble_eq_true rfl) dX9_meet_177 (fun H locs hP hD hS => ?_)
                            replace hP : va_P D vwCl (mW q v cJ V true dn rf mk th_31 ++ ([(w33, .inl (cJ, 121, .inr (.inl (vp_updL f0_1 v6_1.toNatClampNeg s0j3))))])) H := hP
                            replace hD : va_D A (mW q v cJ V true dn rf mk th_31 ++ ([(w33, .inl (cJ, 121, .inr (.inl (vp_updL f0_1 v6_1.toNatClampNeg s0j3))))])) := hD
                            refine lv_iinc (v := (v6_1 + (1 : Int32))) (lv' := [(6, .int (v6_1 + (1 : Int32))), (0, .ref q), (1, .int p0), (2, .int p1), (3, .int p2), (4, .int p3), (5, .ref w33), (7, .long r39), (9, .long r41)]) hx hb dX9_meet_180 hl (k := 6) rfl rfl (by decide) rfl (fun ls hl => ?_)
                            refine lv_goto (tgt := 56) hx hb dX9_meet_183 (by decide) ?_
                            exact hGW _ _ _ _ _ (ih1 (v6_1 + (1 : Int32)) true (vp_updL f0_1 v6_1.toNatClampNeg s0j3) _ _ ls hP hD hS (lv_sub hl [1, 2, 3, 4, 5, 6, 0] rfl) h)
                    replace h := zlt_h h
                    refine lv_if_lt (tgt := 151) hx hb dX9_meet_131 (by decide) (fun c131 => ?_) (fun c131 => ?_)
                    · replace h := zif_t h c131
                      exact hGW _ _ _ _ _ (J4  _ _ ls hP hD hS (lv_sub hl [0, 1, 2, 3, 4, 5, 6, 7, 8] rfl) h)
                    · replace h := zif_f h c131
                      refine lv_lload hx hb dX9_meet_134 (lv_at hl 8 rfl) ?_
                      refine lv_lconst (v := (0 : Int64)) hx hb dX9_meet_136 (by decide) ?_
                      refine W.lcmp hx hb dX9_meet_137 ?_
                      refine lv_if_ge (tgt := 151) hx hb dX9_meet_138 (by decide) (fun c138 => ?_) (fun c138 => ?_)
                      · replace h := zif_t h c138
                        exact hGW _ _ _ _ _ (J4  _ _ ls hP hD hS (lv_sub hl [0, 1, 2, 3, 4, 5, 6, 7, 8] rfl) h)
                      · replace h := zif_f h c138
                        refine lv_aload hx hb dX9_meet_141 (lv_at hl 5 rfl) ?_
                        refine lv_iload hx hb dX9_meet_143 (lv_at hl 6 rfl) ?_
                        obtain ⟨z145, h⟩ := zg_some h
                        refine va_lald hx hb hK hP 2 0 rfl rfl z145 dX9_meet_145 ?_
                        refine lv_lconst (v := (0 : Int64)) hx hb dX9_meet_146 (by decide) ?_
                        refine W.lcmp hx hb dX9_meet_147 ?_
                        refine lv_if_lt (tgt := 175) hx hb dX9_meet_148 (by decide) (fun c148 => ?_) (fun c148 => ?_)
                        · replace h := zif_t h c148
                          refine lv_aload_n hx hb dX9_meet_175 rfl (lv_at hl 0 rfl) ?_
                          refine lv_iconst (v := (1 : Int32)) hx hb dX9_meet_176 (by decide) ?_
                          refine va_put (D := D) (ci := 9) (v := .int (z01 true)) (ty := .boolean) (C := RX9) (T := TX9) (N := 6) hx hb hts kwX9 tyX9 tyX9_ok nmX9 hown hK hP hD hS 0 rfl rfl 1 (by decide) kf_36 (fun _ h9 => h9) rfl rfl (z01_nar true) (z01_fit true) (Nat.le_of_ble_eq_true rfl) dX9_meet_177 (fun H locs hP hD hS => ?_)
                          replace hP : va_P D vwCl (mW q v cJ V true dn rf mk th_31 ++ ([(w33, .inl (cJ, 121, .inr (.inl (vp_updL f0_1 v6_1.toNatClampNeg s0j3))))])) H := hP
                          replace hD : va_D A (mW q v cJ V true dn rf mk th_31 ++ ([(w33, .inl (cJ, 121, .inr (.inl (vp_updL f0_1 v6_1.toNatClampNeg s0j3))))])) := hD
                          refine lv_iinc (v := (v6_1 + (1 : Int32))) (lv' := [(6, .int (v6_1 + (1 : Int32))), (0, .ref q), (1, .int p0), (2, .int p1), (3, .int p2), (4, .int p3), (5, .ref w33), (7, .long r39), (9, .long r41)]) hx hb dX9_meet_180 hl (k := 6) rfl rfl (by decide) rfl (fun ls hl => ?_)
                          refine lv_goto (tgt := 56) hx hb dX9_meet_183 (by decide) ?_
                          exact hGW _ _ _ _ _ (ih1 (v6_1 + (1 : Int32)) true (vp_updL f0_1 v6_1.toNatClampNeg s0j3) _ _ ls hP hD hS (lv_sub hl [1, 2, 3, 4, 5, 6, 0] rfl) h)
                        · replace h := zif_f h c148
                          exact hGW _ _ _ _ _ (J4  _ _ ls hP hD hS (lv_sub hl [0, 1, 2, 3, 4, 5, 6, 7, 8] rfl) h)
                replace h := zlt_h h
                refine lv_if_ne (tgt := 100) hx hb dX9_meet_86 (by decide) (fun c86 => ?_) (fun c86 => ?_)
                · replace h := zif_t h c86
                  refine lv_iload_n hx hb dX9_meet_100 rfl (lv_at hl 5 rfl) ?_
                  refine lv_iconst (v := (1 : Int32)) hx hb dX9_meet_101 (by decide) ?_
                  refine lv_icmp_ne (tgt := 113) hx hb dX9_meet_102 (by decide) (fun c102 => ?_) (fun c102 => ?_)
                  · replace h := zif_t h c102
                    refine lv_aload_n hx hb dX9_meet_113 rfl (lv_at hl 2 rfl) ?_
                    refine lv_lload hx hb dX9_meet_114 (lv_at hl 1 rfl) ?_
                    refine lv_lload hx hb dX9_meet_116 (lv_at hl 0 rfl) ?_
                    obtain ⟨r43, ib_44, e45, h⟩ := zb2_some h
                    have hPc := zsub (wn := (mW q v cJ V ibL1 dn rf mk th_31)) hP [0, 1] rfl
                    have hDc := hD.sub (ws' := (mW q v cJ V ibL1 dn rf mk th_31)) [0, 1] (by decide) rfl
                    refine zgol (va_runV (As := [.long r39, .long r41]) (rest := [.int v6_1, .ref w33]) ⟨hx, hb, hml, hown, hts⟩ (c_X9_times l D q v cJ cI cO cB V ibL1 dn rf mk th_31 r39 r41 r43 ib_44 e45 H.size) (cwV 2 hts gX9_meet_X9_times rfl rfl rfl hdV_X9_times ⟨Nat.le_of_ble_eq_true rfl, Nat.le_of_ble_eq_true rfl⟩) (zpreV (q0 := 0) (ci := 9) (T := TX9) (N := 6) hK hPc hDc rfl rfl [.long r39, .long r41]) rfl rfl hl.1 rfl (lv_room (Nat.le_of_ble_eq_true rfl)) dX9_meet_118 ⟨Nat.le_of_ble_eq_true rfl, Nat.le_of_ble_eq_true rfl⟩) (va_free hD hS hA [0, 1] rfl) (zjs (wn := (mW q v cJ V ib_44 dn rf mk th_31 ++ ([(w33, .inl (cJ, 121, .inr (.inl f0_1)))]))) [1, 2, 0] (zjF (wr := ([(w33, .inl (cJ, 121, .inr (.inl f0_1)))] : va_W)) hP hD hS hA [0, 1] [2] rfl rfl (by decide) (by decide)) rfl (by decide)) hS (fun H locs hP hD hS => ?_)
                    replace hP : va_P D vwCl (mW q v cJ V ib_44 dn rf mk th_31 ++ ([(w33, .inl (cJ, 121, .inr (.inl f0_1)))])) H := hP
                    replace hD : va_D A (mW q v cJ V ib_44 dn rf mk th_31 ++ ([(w33, .inl (cJ, 121, .inr (.inl f0_1)))])) := hD
                    exact hGW _ _ _ _ _ (J3 r43 ib_44 _ _ ls hP hD hS (lv_sub hl [2, 3, 4, 5, 6, 7, 8, 1, 0] rfl) h)
                  · replace h := zif_fn h c102
                    refine lv_lload hx hb dX9_meet_105 (lv_at hl 1 rfl) ?_
                    refine lv_lload hx hb dX9_meet_107 (lv_at hl 0 rfl) ?_
                    refine lv_lsub hx hb dX9_meet_109 ?_
                    refine lv_goto (tgt := 121) hx hb dX9_meet_110 (by decide) ?_
                    exact hGW _ _ _ _ _ (J3 (r39 - r41) ibL1 _ _ ls hP hD hS (lv_sub hl [2, 3, 4, 5, 6, 7, 8, 1, 0] rfl) h)
                · replace h := zif_fn h c86
                  refine lv_aload_n hx hb dX9_meet_89 rfl (lv_at hl 2 rfl) ?_
                  refine lv_lload hx hb dX9_meet_90 (lv_at hl 1 rfl) ?_
                  refine lv_lload hx hb dX9_meet_92 (lv_at hl 0 rfl) ?_
                  obtain ⟨r46, ib_47, e48, h⟩ := zb2_some h
                  have hPc := zsub (wn := (mW q v cJ V ibL1 dn rf mk th_31)) hP [0, 1] rfl
                  have hDc := hD.sub (ws' := (mW q v cJ V ibL1 dn rf mk th_31)) [0, 1] (by decide) rfl
                  refine zgol (va_runV (As := [.long r39, .long r41]) (rest := [.int v6_1, .ref w33]) ⟨hx, hb, hml, hown, hts⟩ (c_X9_plus l D q v cJ cI cO cB V ibL1 dn rf mk th_31 r39 r41 r46 ib_47 e48 H.size) (cwV 2 hts gX9_meet_X9_plus rfl rfl rfl hdV_X9_plus ⟨Nat.le_of_ble_eq_true rfl, Nat.le_of_ble_eq_true rfl⟩) (zpreV (q0 := 0) (ci := 9) (T := TX9) (N := 6) hK hPc hDc rfl rfl [.long r39, .long r41]) rfl rfl hl.1 rfl (lv_room (Nat.le_of_ble_eq_true rfl)) dX9_meet_94 ⟨Nat.le_of_ble_eq_true rfl, Nat.le_of_ble_eq_true rfl⟩) (va_free hD hS hA [0, 1] rfl) (zjs (wn := (mW q v cJ V ib_47 dn rf mk th_31 ++ ([(w33, .inl (cJ, 121, .inr (.inl f0_1)))]))) [1, 2, 0] (zjF (wr := ([(w33, .inl (cJ, 121, .inr (.inl f0_1)))] : va_W)) hP hD hS hA [0, 1] [2] rfl rfl (by decide) (by decide)) rfl (by decide)) hS (fun H locs hP hD hS => ?_)
                  replace hP : va_P D vwCl (mW q v cJ V ib_47 dn rf mk th_31 ++ ([(w33, .inl (cJ, 121, .inr (.inl f0_1)))])) H := hP
                  replace hD : va_D A (mW q v cJ V ib_47 dn rf mk th_31 ++ ([(w33, .inl (cJ, 121, .inr (.inl f0_1)))])) := hD
                  refine lv_goto (tgt := 121) hx hb dX9_meet_97 (by decide) ?_
                  exact hGW _ _ _ _ _ (J3 r46 ib_47 _ _ ls hP hD hS (lv_sub hl [2, 3, 4, 5, 6, 7, 8, 1, 0] rfl) h)
          exact hGW _ _ _ _ _ (L1 _ X1 F (1 : Int32) false (fun _ => 0) _ _ ls hP hD hS (lv_sub hl [2, 3, 4, 5, 6, 1, 0] rfl) h)
        · replace h := zif_f h c37
          refine lv_iconst (v := (0 : Int32)) hx hb dX9_meet_40 (by decide) ?_
          have g0 := Option.some.inj h
          obtain ⟨h1, g1⟩ := Prod.mk.inj g0
          obtain ⟨h2, g2⟩ := Prod.mk.inj g1
          obtain ⟨h3, g3⟩ := Prod.mk.inj g2
          obtain ⟨h4, g4⟩ := Prod.mk.inj g3
          obtain ⟨h5, g5⟩ := Prod.mk.inj g4
          subst h1
          subst h2
          subst h3
          subst h4
          subst h5
          subst g5
          refine W.widen (k := 1) (n := 121) (by decide) (by decide) ?_
          exact W.iret (v := (0 : Int32)) hx hb hr (fun t ht hW => ⟨⟨(0 : Int32), (), rfl, rfl, by rw [ht]; exact hP, va_K.moved hW.alike hK, hD⟩, hS.F ht⟩) hS.2.2 dX9_meet_41

noncomputable def p_X9_multiply (F : Nat) (V : Nat → Int64) (ib : Bool) (dn : Int32) (rf : Int32) (p0 : Int32) (p1 : Int32) (p2 : Int32) : Option (Int32 × (Nat → Int64) × Bool × Int32 × Int32 × Int32) := (zb1 (p_X9_isOne p0) (fun r1 => (zlt (zb2 (p_X9_isThrown false true) (fun r3 th_4 => (if (z01 r3) = 0 then (zb1 (p_X9_of F V p0) (fun r6 => (zb1 (p_X9_of F V p1) (fun r9 => (zb2 (p_X9_product F false r6 r9) (fun r12 ib_13 => (zb4 (p_X9_becomeOrNot F V ib_13 dn rf p2 r12) (fun r16 V_17 dn_18 rf_19 => (some (r16, V_17, ib_13, dn_18, rf_19, th_4)))))))))) else (some ((0 : Int32), V, ib, dn, rf, th_4))))) (fun jf0 => (if (z01 r1) = 0 then (jf0 ) else (zb1 (p_X9_isOne p1) (fun r21 => (if (z01 r21) = 0 then (jf0 ) else (zb1 (p_X9_isOne p2) (fun r23 => (if (z01 r23) = 0 then (jf0 ) else (zb2 (p_X9_isThrown true true) (fun r25 th_26 => (if (z01 r25) = 0 then (zb1 (p_X9_of F V p0) (fun r28 => (zb1 (p_X9_of F V p1) (fun r31 => (zb2 (p_X9_product F false r28 r31) (fun r34 ib_35 => (zb4 (p_X9_becomeOrNot F V ib_35 dn rf p2 r34) (fun r38 V_39 dn_40 rf_41 => (some (r38, V_39, ib_35, dn_40, rf_41, th_26)))))))))) else (some ((0 : Int32), V, ib, dn, rf, th_26))))))))))))))))
theorem hdV_X9_multiply : yX9_multiply.cls = RX9 ∧ yX9_multiply.cls ≠ "java/lang/invoke/MethodHandle" ∧ yX9_multiply.cls ≠ "java/lang/invoke/VarHandle" ∧ (parseMethodDescriptor yX9_multiply.desc).map (fun d => d.parameters.length) = some 3 := by decide +kernel
set_option maxHeartbeats 4000000 in
set_option maxRecDepth 100000 in
theorem c_X9_multiply (l : Launch) (D : va_G) (q v : Nat) (cJ cI cO cB : ClassId) (V : Nat → Int64) (ib : Bool) (dn : Int32) (rf : Int32) (mk : Int32) (th : Int32) (F : Nat) (p0 : Int32) (p1 : Int32) (p2 : Int32) (r : Int32) (V' : Nat → Int64) (ib' : Bool) (dn' : Int32) (rf' : Int32) (th' : Int32) (h : p_X9_multiply F V ib dn rf p0 p1 p2 = some (r, V', ib', dn', rf', th')) : zMi l yX9_multiply wsX9_multiply 3 68 3 363 D (zT cJ cI cO cB) [.ref q, .int p0, .int p1, .int p2] (mW q v cJ V ib dn rf mk th) (mW q v cJ V' ib' dn' rf' mk th') r := by
  intro sz
  delta zQi
  refine Met.ofW (cc := cX9_multiply) (maxL := 4) (ret := (some .int)) (by decide) rfl ?_
  intro p e s m args below meth c s₁ B hml hv
  obtain ⟨rfl, hsz, hP, hK, hD0⟩ := hv
  have hx := B.exec
  have hb := B.bytes
  have hr := B.returns
  have hts := atoms_spec (ws := wsX9_multiply) B.pre
  have hown : s.vm.findClass RX9 = some m.cls := findClass_of_methodNamed B.named
  have hlocks := B.notSynchronized
  subst hsz
  have hD := hD0.self (sz := s.heap.size)
  generalize hAe : va_A (mW q v cJ V ib dn rf mk th) s.heap.size = A at hD ⊢
  have hA : ∀ q : Nat, s.heap.size ≤ q → A q := fun q h => by rw [← hAe]; exact Or.inr h
  have hS : va_S A s.heap s.heap [] := va_S.rf
  have hl := lv_entry ([.ref q, .int p0, .int p1, .int p2]) (n := 4) (Nat.le_of_ble_eq_true rfl)
  rw [lg_entry_eq]
  generalize (lg_sl ([.ref q, .int p0, .int p1, .int p2]) ++ List.replicate (4 - (lg_sl ([.ref q, .int p0, .int p1, .int p2])).length) Slot.unset).toArray = ls at hl ⊢
  replace hl : lv_has ls 4 [(0, .ref q), (1, .int p0), (2, .int p1), (3, .int p2)] := hl
  have kwX9 : ∀ w ∈ u_ws RX9 TX9 6, w ∈ wsX9_multiply := fun w h => List.mem_cons_of_mem _ (List.mem_append_left _ (List.mem_append_left _ (List.mem_append_left _ (List.mem_append_right _ (List.mem_cons_of_mem _ (List.mem_append_right _ h))))))
  have kf_36 := hts (.fieldLink RX9 36 "DivisorworkModel" "isBeyond" "Z") (List.mem_cons_of_mem _ (List.mem_append_left _ (List.mem_append_right _ (List.mem_cons_of_mem _ (List.mem_append_left _ (List.mem_append_right _ (zmem 3 rfl)))))))
  replace h : (zb1 (p_X9_isOne p0) (fun r1 => (zlt (zb2 (p_X9_isThrown false true) (fun r3 th_4 => (if (z01 r3) = 0 then (zb1 (p_X9_of F V p0) (fun r6 => (zb1 (p_X9_of F V p1) (fun r9 => (zb2 (p_X9_product F false r6 r9) (fun r12 ib_13 => (zb4 (p_X9_becomeOrNot F V ib_13 dn rf p2 r12) (fun r16 V_17 dn_18 rf_19 => (some (r16, V_17, ib_13, dn_18, rf_19, th_4)))))))))) else (some ((0 : Int32), V, ib, dn, rf, th_4))))) (fun jf0 => (if (z01 r1) = 0 then (jf0 ) else (zb1 (p_X9_isOne p1) (fun r21 => (if (z01 r21) = 0 then (jf0 ) else (zb1 (p_X9_isOne p2) (fun r23 => (if (z01 r23) = 0 then (jf0 ) else (zb2 (p_X9_isThrown true true) (fun r25 th_26 => (if (z01 r25) = 0 then (zb1 (p_X9_of F V p0) (fun r28 => (zb1 (p_X9_of F V p1) (fun r31 => (zb2 (p_X9_product F false r28 r31) (fun r34 ib_35 => (zb4 (p_X9_becomeOrNot F V ib_35 dn rf p2 r34) (fun r38 V_39 dn_40 rf_41 => (some (r38, V_39, ib_35, dn_40, rf_41, th_26)))))))))) else (some ((0 : Int32), V, ib, dn, rf, th_26)))))))))))))))) = some (r, V', ib', dn', rf', th') := h
  refine zabs (fun G hG hGW => ?_)
  obtain ⟨H, hHe⟩ : ∃ H, H = s.heap := ⟨_, rfl⟩
  rw [← hHe] at hP
  replace hS : va_S A s.heap H [] := by rw [hHe]; exact hS
  refine zheap hHe ?_
  refine lv_aload_n hx hb dX9_multiply_0 rfl (lv_at hl 0 rfl) ?_
  refine lv_iload_n hx hb dX9_multiply_1 rfl (lv_at hl 1 rfl) ?_
  obtain ⟨r1, e2, h⟩ := zb1_some h
  refine zgoi (va_runS (As := [.int p0]) (rest := [.ref q]) ⟨hx, hb, hml, hown, hts⟩ (c_X9_isOne l D (zT cJ cI cO cB) p0 r1 e2 H.size) (va_cwS 1 hts gX9_multiply_X9_isOne rfl rfl rfl hdS_X9_isOne ⟨Nat.le_of_ble_eq_true rfl, Nat.le_of_ble_eq_true rfl⟩) (zpreS hK zP0 (zD0 (A := A)) [.int p0]) rfl rfl hl.1 rfl (lv_room (Nat.le_of_ble_eq_true rfl)) dX9_multiply_2 ⟨Nat.le_of_ble_eq_true rfl, Nat.le_of_ble_eq_true rfl⟩) (zf0 hS hA) (zjE hP hD) hS (fun H locs hP hD hS => ?_)
  have J0 : ∀  (H : Heap) (locs : List Loc) (ls : Array Slot), va_P D vwCl (mW q v cJ V ib dn rf mk th) H → va_D A (mW q v cJ V ib dn rf mk th) → va_S A s.heap H locs → lv_has ls 4 [(0, .ref q), (1, .int p0), (2, .int p1), (3, .int p2)] → (zb2 (p_X9_isThrown false true) (fun r3 th_4 => (if (z01 r3) = 0 then (zb1 (p_X9_of F V p0) (fun r6 => (zb1 (p_X9_of F V p1) (fun r9 => (zb2 (p_X9_product F false r6 r9) (fun r12 ib_13 => (zb4 (p_X9_becomeOrNot F V ib_13 dn rf p2 r12) (fun r16 V_17 dn_18 rf_19 => (some (r16, V_17, ib_13, dn_18, rf_19, th_4)))))))))) else (some ((0 : Int32), V, ib, dn, rf, th_4))))) = some (r, V', ib', dn', rf', th') → G H locs 0 0 (F0 m 26 ls [.ref q]) := by
    intro  H locs ls hP hD hS hl h
    refine hG _ _ _ _ _ ?_
    refine lv_iconst (v := (0 : Int32)) hx hb dX9_multiply_26 (by decide) ?_
    refine lv_iconst (v := (1 : Int32)) hx hb dX9_multiply_27 (by decide) ?_
    obtain ⟨r3, th_4, e5, h⟩ := zb2_some h
    refine zgoi (va_runV (As := [.int (0 : Int32), .int (1 : Int32)]) (rest := []) ⟨hx, hb, hml, hown, hts⟩ (c_X9_isThrown l D q v cJ cI cO cB V ib dn rf mk th false true r3 th_4 e5 H.size) (cwV 2 hts gX9_multiply_X9_isThrown rfl rfl rfl hdV_X9_isThrown ⟨Nat.le_of_ble_eq_true rfl, Nat.le_of_ble_eq_true rfl⟩) (zpreV (q0 := 0) (ci := 9) (T := TX9) (N := 6) hK hP hD rfl rfl [.int (0 : Int32), .int (1 : Int32)]) rfl rfl hl.1 rfl (lv_room (Nat.le_of_ble_eq_true rfl)) dX9_multiply_28 ⟨Nat.le_of_ble_eq_true rfl, Nat.le_of_ble_eq_true rfl⟩) (zfree hD hS hA) (zjW hD hS hA) hS (fun H locs hP hD hS => ?_)
    replace hP : va_P D vwCl (mW q v cJ V ib dn rf mk th_4) H := hP
    replace hD : va_D A (mW q v cJ V ib dn rf mk th_4) := hD
    refine lv_if_eq (tgt := 36) hx hb dX9_multiply_31 (by decide) (fun c31 => ?_) (fun c31 => ?_)
    · replace h := zif_t h c31
      refine lv_aload_n hx hb dX9_multiply_36 rfl (lv_at hl 0 rfl) ?_
      refine lv_iconst (v := (0 : Int32)) hx hb dX9_multiply_37 (by decide) ?_
      refine va_put (D := D) (ci := 9) (v := .int (z01 false)) (ty := .boolean) (C := RX9) (T := TX9) (N := 6) hx hb hts kwX9 tyX9 tyX9_ok nmX9 hown hK hP hD hS 0 rfl rfl 1 (by decide) kf_36 (fun _ h9 => h9) rfl rfl (z01_nar false) (z01_fit false) (Nat.le_of_ble_eq_true rfl) dX9_multiply_38 (fun H locs hP hD hS => ?_)
      replace hP : va_P D vwCl (mW q v cJ V false dn rf mk th_4) H := hP
      replace hD : va_D A (mW q v cJ V false dn rf mk th_4) := hD
      refine lv_aload_n hx hb dX9_multiply_41 rfl (lv_at hl 0 rfl) ?_
      refine lv_iload_n hx hb dX9_multiply_42 rfl (lv_at hl 3 rfl) ?_
      refine lv_aload_n hx hb dX9_multiply_43 rfl (lv_at hl 0 rfl) ?_
      refine lv_aload_n hx hb dX9_multiply_44 rfl (lv_at hl 0 rfl) ?_
      refine lv_iload_n hx hb dX9_multiply_45 rfl (lv_at hl 1 rfl) ?_
      obtain ⟨r6, e7, h⟩ := zb1_some h
      refine zgon (va_runV (As := [.int p0]) (rest := [.ref q, .int p2, .ref q]) ⟨hx, hb, hml, hown, hts⟩ (c_X9_of l D q v cJ cI cO cB V false dn rf mk th_4 F p0 r6 e7 H.size) (cwV 1 hts gX9_multiply_X9_of rfl rfl rfl hdV_X9_of ⟨Nat.le_of_ble_eq_true rfl, Nat.le_of_ble_eq_true rfl⟩) (zpreV (q0 := 0) (ci := 9) (T := TX9) (N := 6) hK hP hD rfl rfl [.int p0]) rfl rfl hl.1 rfl (lv_room (Nat.le_of_ble_eq_true rfl)) dX9_multiply_46 ⟨Nat.le_of_ble_eq_true rfl, Nat.le_of_ble_eq_true rfl⟩) (zfree hD hS hA) (fun _ => zjW hD hS hA) hS (fun w8 H locs hP hD hS => ?_)
      replace hP : va_P D vwCl (mW q v cJ V false dn rf mk th_4 ++ ([(w8, .inl (cJ, 121, .inr (.inl r6)))])) H := hP
      replace hD : va_D A (mW q v cJ V false dn rf mk th_4 ++ ([(w8, .inl (cJ, 121, .inr (.inl r6)))])) := hD
      refine lv_aload_n hx hb dX9_multiply_49 rfl (lv_at hl 0 rfl) ?_
      refine lv_iload_n hx hb dX9_multiply_50 rfl (lv_at hl 2 rfl) ?_
      obtain ⟨r9, e10, h⟩ := zb1_some h
      have hPc := zsub (wn := (mW q v cJ V false dn rf mk th_4)) hP [0, 1] rfl
      have hDc := hD.sub (ws' := (mW q v cJ V false dn rf mk th_4)) [0, 1] (by decide) rfl
      refine zgon (va_runV (As := [.int p1]) (rest := [.ref w8, .ref q, .int p2, .ref q]) ⟨hx, hb, hml, hown, hts⟩ (c_X9_of l D q v cJ cI cO cB V false dn rf mk th_4 F p1 r9 e10 H.size) (cwV 1 hts gX9_multiply_X9_of rfl rfl rfl hdV_X9_of ⟨Nat.le_of_ble_eq_true rfl, Nat.le_of_ble_eq_true rfl⟩) (zpreV (q0 := 0) (ci := 9) (T := TX9) (N := 6) hK hPc hDc rfl rfl [.int p1]) rfl rfl hl.1 rfl (lv_room (Nat.le_of_ble_eq_true rfl)) dX9_multiply_51 ⟨Nat.le_of_ble_eq_true rfl, Nat.le_of_ble_eq_true rfl⟩) (va_free hD hS hA [0, 1] rfl) (fun w11 => (zjs (wn := (mW q v cJ V false dn rf mk th_4 ++ ([(w8, .inl (cJ, 121, .inr (.inl r6))), (w11, .inl (cJ, 121, .inr (.inl r9)))]))) [1, 2, 0, 3] (zjF (wr := ([(w8, .inl (cJ, 121, .inr (.inl r6)))] : va_W)) hP hD hS hA [0, 1] [2] rfl rfl (by decide) (by decide)) rfl (by decide))) hS (fun w11 H locs hP hD hS => ?_)
      replace hP : va_P D vwCl (mW q v cJ V false dn rf mk th_4 ++ ([(w8, .inl (cJ, 121, .inr (.inl r6))), (w11, .inl (cJ, 121, .inr (.inl r9)))])) H := hP
      replace hD : va_D A (mW q v cJ V false dn rf mk th_4 ++ ([(w8, .inl (cJ, 121, .inr (.inl r6))), (w11, .inl (cJ, 121, .inr (.inl r9)))])) := hD
      obtain ⟨r12, ib_13, e14, h⟩ := zb2_some h
      refine zgon (va_runV (As := [.ref w8, .ref w11]) (rest := [.int p2, .ref q]) ⟨hx, hb, hml, hown, hts⟩ (c_X9_product l D q v cJ cI cO cB V false dn rf mk th_4 F w8 r6 w11 r9 r12 ib_13 e14 H.size) (cwV 2 hts gX9_multiply_X9_product rfl rfl rfl hdV_X9_product ⟨Nat.le_of_ble_eq_true rfl, Nat.le_of_ble_eq_true rfl⟩) (zpreV (q0 := 0) (ci := 9) (T := TX9) (N := 6) hK hP hD rfl rfl [.ref w8, .ref w11]) rfl rfl hl.1 rfl (lv_room (Nat.le_of_ble_eq_true rfl)) dX9_multiply_54 ⟨Nat.le_of_ble_eq_true rfl, Nat.le_of_ble_eq_true rfl⟩) (zfree hD hS hA) (fun _ => zjW hD hS hA) hS (fun w15 H locs hP hD hS => ?_)
      replace hP : va_P D vwCl (mW q v cJ V ib_13 dn rf mk th_4 ++ ([(w8, .inl (cJ, 121, .inr (.inl r6))), (w11, .inl (cJ, 121, .inr (.inl r9))), (w15, .inl (cJ, 121, .inr (.inl r12)))])) H := hP
      replace hD : va_D A (mW q v cJ V ib_13 dn rf mk th_4 ++ ([(w8, .inl (cJ, 121, .inr (.inl r6))), (w11, .inl (cJ, 121, .inr (.inl r9))), (w15, .inl (cJ, 121, .inr (.inl r12)))])) := hD
      obtain ⟨r16, V_17, dn_18, rf_19, e20, h⟩ := zb4_some h
      have hPc := zsub (wn := (mW q v cJ V ib_13 dn rf mk th_4 ++ ([(w15, .inl (cJ, 121, .inr (.inl r12)))]))) hP [0, 1, 4] rfl
      have hDc := hD.sub (ws' := (mW q v cJ V ib_13 dn rf mk th_4 ++ ([(w15, .inl (cJ, 121, .inr (.inl r12)))]))) [0, 1, 4] (by decide) rfl
      refine zgoi (va_runV (As := [.int p2, .ref w15]) (rest := []) ⟨hx, hb, hml, hown, hts⟩ (c_X9_becomeOrNot l D q v cJ cI cO cB V ib_13 dn rf mk th_4 F p2 w15 r12 r16 V_17 dn_18 rf_19 e20 H.size) (cwV 2 hts gX9_multiply_X9_becomeOrNot rfl rfl rfl hdV_X9_becomeOrNot ⟨Nat.le_of_ble_eq_true rfl, Nat.le_of_ble_eq_true rfl⟩) (zpreV (q0 := 0) (ci := 9) (T := TX9) (N := 6) hK hPc hDc rfl rfl [.int p2, .ref w15]) rfl rfl hl.1 rfl (lv_room (Nat.le_of_ble_eq_true rfl)) dX9_multiply_57 ⟨Nat.le_of_ble_eq_true rfl, Nat.le_of_ble_eq_true rfl⟩) (va_free hD hS hA [0, 1, 4] rfl) (zjs (wn := (mW q v cJ V_17 ib_13 dn_18 rf_19 mk th_4 ++ ([(w8, .inl (cJ, 121, .inr (.inl r6))), (w11, .inl (cJ, 121, .inr (.inl r9))), (w15, .inl (cJ, 121, .inr (.inl r12)))]))) [2, 3, 0, 1, 4] (zjF (wr := ([(w8, .inl (cJ, 121, .inr (.inl r6))), (w11, .inl (cJ, 121, .inr (.inl r9)))] : va_W)) hP hD hS hA [0, 1, 4] [2, 3] rfl rfl (by decide) (by decide)) rfl (by decide)) hS (fun H locs hP hD hS => ?_)
      replace hP : va_P D vwCl (mW q v cJ V_17 ib_13 dn_18 rf_19 mk th_4 ++ ([(w8, .inl (cJ, 121, .inr (.inl r6))), (w11, .inl (cJ, 121, .inr (.inl r9))), (w15, .inl (cJ, 121, .inr (.inl r12)))])) H := hP
      replace hD : va_D A (mW q v cJ V_17 ib_13 dn_18 rf_19 mk th_4 ++ ([(w8, .inl (cJ, 121, .inr (.inl r6))), (w11, .inl (cJ, 121, .inr (.inl r9))), (w15, .inl (cJ, 121, .inr (.inl r12)))])) := hD
      have g0 := Option.some.inj h
      obtain ⟨h1, g1⟩ := Prod.mk.inj g0
      obtain ⟨h2, g2⟩ := Prod.mk.inj g1
      obtain ⟨h3, g3⟩ := Prod.mk.inj g2
      obtain ⟨h4, g4⟩ := Prod.mk.inj g3
      obtain ⟨h5, g5⟩ := Prod.mk.inj g4
      subst h1
      subst h2
      subst h3
      subst h4
      subst h5
      subst g5
      replace hP := zsub (wn := (mW q v cJ V_17 ib_13 dn_18 rf_19 mk th_4)) hP [0, 1] rfl
      replace hD := hD.sub (ws' := (mW q v cJ V_17 ib_13 dn_18 rf_19 mk th_4)) [0, 1] (by decide) rfl
      exact W.iret (v := r16) hx hb hr (fun t ht hW => ⟨⟨r16, (), rfl, rfl, by rw [ht]; exact hP, va_K.moved hW.alike hK, hD⟩, hS.F ht⟩) hS.2.2 dX9_multiply_60
    · replace h := zif_f h c31
      refine lv_iconst (v := (0 : Int32)) hx hb dX9_multiply_34 (by decide) ?_
      have g0 := Option.some.inj h
      obtain ⟨h1, g1⟩ := Prod.mk.inj g0
      obtain ⟨h2, g2⟩ := Prod.mk.inj g1
      obtain ⟨h3, g3⟩ := Prod.mk.inj g2
      obtain ⟨h4, g4⟩ := Prod.mk.inj g3
      obtain ⟨h5, g5⟩ := Prod.mk.inj g4
      subst h1
      subst h2
      subst h3
      subst h4
      subst h5
      subst g5
      refine W.widen (k := 3) (n := 363) (by decide) (by decide) ?_
      exact W.iret (v := (0 : Int32)) hx hb hr (fun t ht hW => ⟨⟨(0 : Int32), (), rfl, rfl, by rw [ht]; exact hP, va_K.moved hW.alike hK, hD⟩, hS.F ht⟩) hS.2.2 dX9_multiply_35
  replace h := zlt_h h
  refine lv_if_eq (tgt := 26) hx hb dX9_multiply_5 (by decide) (fun c5 => ?_) (fun c5 => ?_)
  · replace h := zif_t h c5
    exact hGW _ _ _ _ _ (J0  _ _ ls hP hD hS (lv_sub hl [0, 1, 2, 3] rfl) h)
  · replace h := zif_f h c5
    refine lv_iload_n hx hb dX9_multiply_8 rfl (lv_at hl 2 rfl) ?_
    obtain ⟨r21, e22, h⟩ := zb1_some h
    refine zgoi (va_runS (As := [.int p1]) (rest := [.ref q]) ⟨hx, hb, hml, hown, hts⟩ (c_X9_isOne l D (zT cJ cI cO cB) p1 r21 e22 H.size) (va_cwS 1 hts gX9_multiply_X9_isOne rfl rfl rfl hdS_X9_isOne ⟨Nat.le_of_ble_eq_true rfl, Nat.le_of_ble_eq_true rfl⟩) (zpreS hK zP0 (zD0 (A := A)) [.int p1]) rfl rfl hl.1 rfl (lv_room (Nat.le_of_ble_eq_true rfl)) dX9_multiply_9 ⟨Nat.le_of_ble_eq_true rfl, Nat.le_of_ble_eq_true rfl⟩) (zf0 hS hA) (zjE hP hD) hS (fun H locs hP hD hS => ?_)
    refine lv_if_eq (tgt := 26) hx hb dX9_multiply_12 (by decide) (fun c12 => ?_) (fun c12 => ?_)
    · replace h := zif_t h c12
      exact hGW _ _ _ _ _ (J0  _ _ ls hP hD hS (lv_sub hl [0, 1, 2, 3] rfl) h)
    · replace h := zif_f h c12
      refine lv_iload_n hx hb dX9_multiply_15 rfl (lv_at hl 3 rfl) ?_
      obtain ⟨r23, e24, h⟩ := zb1_some h
      refine zgoi (va_runS (As := [.int p2]) (rest := [.ref q]) ⟨hx, hb, hml, hown, hts⟩ (c_X9_isOne l D (zT cJ cI cO cB) p2 r23 e24 H.size) (va_cwS 1 hts gX9_multiply_X9_isOne rfl rfl rfl hdS_X9_isOne ⟨Nat.le_of_ble_eq_true rfl, Nat.le_of_ble_eq_true rfl⟩) (zpreS hK zP0 (zD0 (A := A)) [.int p2]) rfl rfl hl.1 rfl (lv_room (Nat.le_of_ble_eq_true rfl)) dX9_multiply_16 ⟨Nat.le_of_ble_eq_true rfl, Nat.le_of_ble_eq_true rfl⟩) (zf0 hS hA) (zjE hP hD) hS (fun H locs hP hD hS => ?_)
      refine lv_if_eq (tgt := 26) hx hb dX9_multiply_19 (by decide) (fun c19 => ?_) (fun c19 => ?_)
      · replace h := zif_t h c19
        exact hGW _ _ _ _ _ (J0  _ _ ls hP hD hS (lv_sub hl [0, 1, 2, 3] rfl) h)
      · replace h := zif_f h c19
        refine lv_iconst (v := (1 : Int32)) hx hb dX9_multiply_22 (by decide) ?_
        refine lv_goto (tgt := 27) hx hb dX9_multiply_23 (by decide) ?_
        refine lv_iconst (v := (1 : Int32)) hx hb dX9_multiply_27 (by decide) ?_
        obtain ⟨r25, th_26, e27, h⟩ := zb2_some h
        refine zgoi (va_runV (As := [.int (1 : Int32), .int (1 : Int32)]) (rest := []) ⟨hx, hb, hml, hown, hts⟩ (c_X9_isThrown l D q v cJ cI cO cB V ib dn rf mk th true true r25 th_26 e27 H.size) (cwV 2 hts gX9_multiply_X9_isThrown rfl rfl rfl hdV_X9_isThrown ⟨Nat.le_of_ble_eq_true rfl, Nat.le_of_ble_eq_true rfl⟩) (zpreV (q0 := 0) (ci := 9) (T := TX9) (N := 6) hK hP hD rfl rfl [.int (1 : Int32), .int (1 : Int32)]) rfl rfl hl.1 rfl (lv_room (Nat.le_of_ble_eq_true rfl)) dX9_multiply_28 ⟨Nat.le_of_ble_eq_true rfl, Nat.le_of_ble_eq_true rfl⟩) (zfree hD hS hA) (zjW hD hS hA) hS (fun H locs hP hD hS => ?_)
        replace hP : va_P D vwCl (mW q v cJ V ib dn rf mk th_26) H := hP
        replace hD : va_D A (mW q v cJ V ib dn rf mk th_26) := hD
        refine lv_if_eq (tgt := 36) hx hb dX9_multiply_31 (by decide) (fun c31 => ?_) (fun c31 => ?_)
        · replace h := zif_t h c31
          refine lv_aload_n hx hb dX9_multiply_36 rfl (lv_at hl 0 rfl) ?_
          refine lv_iconst (v := (0 : Int32)) hx hb dX9_multiply_37 (by decide) ?_
          refine va_put (D := D) (ci := 9) (v := .int (z01 false)) (ty := .boolean) (C := RX9) (T := TX9) (N := 6) hx hb hts kwX9 tyX9 tyX9_ok nmX9 hown hK hP hD hS 0 rfl rfl 1 (by decide) kf_36 (fun _ h9 => h9) rfl rfl (z01_nar false) (z01_fit false) (Nat.le_of_ble_eq_true rfl) dX9_multiply_38 (fun H locs hP hD hS => ?_)
          replace hP : va_P D vwCl (mW q v cJ V false dn rf mk th_26) H := hP
          replace hD : va_D A (mW q v cJ V false dn rf mk th_26) := hD
          refine lv_aload_n hx hb dX9_multiply_41 rfl (lv_at hl 0 rfl) ?_
          refine lv_iload_n hx hb dX9_multiply_42 rfl (lv_at hl 3 rfl) ?_
          refine lv_aload_n hx hb dX9_multiply_43 rfl (lv_at hl 0 rfl) ?_
          refine lv_aload_n hx hb dX9_multiply_44 rfl (lv_at hl 0 rfl) ?_
          refine lv_iload_n hx hb dX9_multiply_45 rfl (lv_at hl 1 rfl) ?_
          obtain ⟨r28, e29, h⟩ := zb1_some h
          refine zgon (va_runV (As := [.int p0]) (rest := [.ref q, .int p2, .ref q]) ⟨hx, hb, hml, hown, hts⟩ (c_X9_of l D q v cJ cI cO cB V false dn rf mk th_26 F p0 r28 e29 H.size) (cwV 1 hts gX9_multiply_X9_of rfl rfl rfl hdV_X9_of ⟨Nat.le_of_ble_eq_true rfl, Nat.le_of_ble_eq_true rfl⟩) (zpreV (q0 := 0) (ci := 9) (T := TX9) (N := 6) hK hP hD rfl rfl [.int p0]) rfl rfl hl.1 rfl (lv_room (Nat.le_of_ble_eq_true rfl)) dX9_multiply_46 ⟨Nat.le_of_ble_eq_true rfl, Nat.le_of_ble_eq_true rfl⟩) (zfree hD hS hA) (fun _ => zjW hD hS hA) hS (fun w30 H locs hP hD hS => ?_)
          replace hP : va_P D vwCl (mW q v cJ V false dn rf mk th_26 ++ ([(w30, .inl (cJ, 121, .inr (.inl r28)))])) H := hP
          replace hD : va_D A (mW q v cJ V false dn rf mk th_26 ++ ([(w30, .inl (cJ, 121, .inr (.inl r28)))])) := hD
          refine lv_aload_n hx hb dX9_multiply_49 rfl (lv_at hl 0 rfl) ?_
          refine lv_iload_n hx hb dX9_multiply_50 rfl (lv_at hl 2 rfl) ?_
          obtain ⟨r31, e32, h⟩ := zb1_some h
          have hPc := zsub (wn := (mW q v cJ V false dn rf mk th_26)) hP [0, 1] rfl
          have hDc := hD.sub (ws' := (mW q v cJ V false dn rf mk th_26)) [0, 1] (by decide) rfl
          refine zgon (va_runV (As := [.int p1]) (rest := [.ref w30, .ref q, .int p2, .ref q]) ⟨hx, hb, hml, hown, hts⟩ (c_X9_of l D q v cJ cI cO cB V false dn rf mk th_26 F p1 r31 e32 H.size) (cwV 1 hts gX9_multiply_X9_of rfl rfl rfl hdV_X9_of ⟨Nat.le_of_ble_eq_true rfl, Nat.le_of_ble_eq_true rfl⟩) (zpreV (q0 := 0) (ci := 9) (T := TX9) (N := 6) hK hPc hDc rfl rfl [.int p1]) rfl rfl hl.1 rfl (lv_room (Nat.le_of_ble_eq_true rfl)) dX9_multiply_51 ⟨Nat.le_of_ble_eq_true rfl, Nat.le_of_ble_eq_true rfl⟩) (va_free hD hS hA [0, 1] rfl) (fun w33 => (zjs (wn := (mW q v cJ V false dn rf mk th_26 ++ ([(w30, .inl (cJ, 121, .inr (.inl r28))), (w33, .inl (cJ, 121, .inr (.inl r31)))]))) [1, 2, 0, 3] (zjF (wr := ([(w30, .inl (cJ, 121, .inr (.inl r28)))] : va_W)) hP hD hS hA [0, 1] [2] rfl rfl (by decide) (by decide)) rfl (by decide))) hS (fun w33 H locs hP hD hS => ?_)
          replace hP : va_P D vwCl (mW q v cJ V false dn rf mk th_26 ++ ([(w30, .inl (cJ, 121, .inr (.inl r28))), (w33, .inl (cJ, 121, .inr (.inl r31)))])) H := hP
          replace hD : va_D A (mW q v cJ V false dn rf mk th_26 ++ ([(w30, .inl (cJ, 121, .inr (.inl r28))), (w33, .inl (cJ, 121, .inr (.inl r31)))])) := hD
          obtain ⟨r34, ib_35, e36, h⟩ := zb2_some h
          refine zgon (va_runV (As := [.ref w30, .ref w33]) (rest := [.int p2, .ref q]) ⟨hx, hb, hml, hown, hts⟩ (c_X9_product l D q v cJ cI cO cB V false dn rf mk th_26 F w30 r28 w33 r31 r34 ib_35 e36 H.size) (cwV 2 hts gX9_multiply_X9_product rfl rfl rfl hdV_X9_product ⟨Nat.le_of_ble_eq_true rfl, Nat.le_of_ble_eq_true rfl⟩) (zpreV (q0 := 0) (ci := 9) (T := TX9) (N := 6) hK hP hD rfl rfl [.ref w30, .ref w33]) rfl rfl hl.1 rfl (lv_room (Nat.le_of_ble_eq_true rfl)) dX9_multiply_54 ⟨Nat.le_of_ble_eq_true rfl, Nat.le_of_ble_eq_true rfl⟩) (zfree hD hS hA) (fun _ => zjW hD hS hA) hS (fun w37 H locs hP hD hS => ?_)
          replace hP : va_P D vwCl (mW q v cJ V ib_35 dn rf mk th_26 ++ ([(w30, .inl (cJ, 121, .inr (.inl r28))), (w33, .inl (cJ, 121, .inr (.inl r31))), (w37, .inl (cJ, 121, .inr (.inl r34)))])) H := hP
          replace hD : va_D A (mW q v cJ V ib_35 dn rf mk th_26 ++ ([(w30, .inl (cJ, 121, .inr (.inl r28))), (w33, .inl (cJ, 121, .inr (.inl r31))), (w37, .inl (cJ, 121, .inr (.inl r34)))])) := hD
          obtain ⟨r38, V_39, dn_40, rf_41, e42, h⟩ := zb4_some h
          have hPc := zsub (wn := (mW q v cJ V ib_35 dn rf mk th_26 ++ ([(w37, .inl (cJ, 121, .inr (.inl r34)))]))) hP [0, 1, 4] rfl
          have hDc := hD.sub (ws' := (mW q v cJ V ib_35 dn rf mk th_26 ++ ([(w37, .inl (cJ, 121, .inr (.inl r34)))]))) [0, 1, 4] (by decide) rfl
          refine zgoi (va_runV (As := [.int p2, .ref w37]) (rest := []) ⟨hx, hb, hml, hown, hts⟩ (c_X9_becomeOrNot l D q v cJ cI cO cB V ib_35 dn rf mk th_26 F p2 w37 r34 r38 V_39 dn_40 rf_41 e42 H.size) (cwV 2 hts gX9_multiply_X9_becomeOrNot rfl rfl rfl hdV_X9_becomeOrNot ⟨Nat.le_of_ble_eq_true rfl, Nat.le_of_ble_eq_true rfl⟩) (zpreV (q0 := 0) (ci := 9) (T := TX9) (N := 6) hK hPc hDc rfl rfl [.int p2, .ref w37]) rfl rfl hl.1 rfl (lv_room (Nat.le_of_ble_eq_true rfl)) dX9_multiply_57 ⟨Nat.le_of_ble_eq_true rfl, Nat.le_of_ble_eq_true rfl⟩) (va_free hD hS hA [0, 1, 4] rfl) (zjs (wn := (mW q v cJ V_39 ib_35 dn_40 rf_41 mk th_26 ++ ([(w30, .inl (cJ, 121, .inr (.inl r28))), (w33, .inl (cJ, 121, .inr (.inl r31))), (w37, .inl (cJ, 121, .inr (.inl r34)))]))) [2, 3, 0, 1, 4] (zjF (wr := ([(w30, .inl (cJ, 121, .inr (.inl r28))), (w33, .inl (cJ, 121, .inr (.inl r31)))] : va_W)) hP hD hS hA [0, 1, 4] [2, 3] rfl rfl (by decide) (by decide)) rfl (by decide)) hS (fun H locs hP hD hS => ?_)
          replace hP : va_P D vwCl (mW q v cJ V_39 ib_35 dn_40 rf_41 mk th_26 ++ ([(w30, .inl (cJ, 121, .inr (.inl r28))), (w33, .inl (cJ, 121, .inr (.inl r31))), (w37, .inl (cJ, 121, .inr (.inl r34)))])) H := hP
          replace hD : va_D A (mW q v cJ V_39 ib_35 dn_40 rf_41 mk th_26 ++ ([(w30, .inl (cJ, 121, .inr (.inl r28))), (w33, .inl (cJ, 121, .inr (.inl r31))), (w37, .inl (cJ, 121, .inr (.inl r34)))])) := hD
          have g0 := Option.some.inj h
          obtain ⟨h1, g1⟩ := Prod.mk.inj g0
          obtain ⟨h2, g2⟩ := Prod.mk.inj g1
          obtain ⟨h3, g3⟩ := Prod.mk.inj g2
          obtain ⟨h4, g4⟩ := Prod.mk.inj g3
          obtain ⟨h5, g5⟩ := Prod.mk.inj g4
          subst h1
          subst h2
          subst h3
          subst h4
          subst h5
          subst g5
          replace hP := zsub (wn := (mW q v cJ V_39 ib_35 dn_40 rf_41 mk th_26)) hP [0, 1] rfl
          replace hD := hD.sub (ws' := (mW q v cJ V_39 ib_35 dn_40 rf_41 mk th_26)) [0, 1] (by decide) rfl
          exact W.iret (v := r38) hx hb hr (fun t ht hW => ⟨⟨r38, (), rfl, rfl, by rw [ht]; exact hP, va_K.moved hW.alike hK, hD⟩, hS.F ht⟩) hS.2.2 dX9_multiply_60
        · replace h := zif_f h c31
          refine lv_iconst (v := (0 : Int32)) hx hb dX9_multiply_34 (by decide) ?_
          have g0 := Option.some.inj h
          obtain ⟨h1, g1⟩ := Prod.mk.inj g0
          obtain ⟨h2, g2⟩ := Prod.mk.inj g1
          obtain ⟨h3, g3⟩ := Prod.mk.inj g2
          obtain ⟨h4, g4⟩ := Prod.mk.inj g3
          obtain ⟨h5, g5⟩ := Prod.mk.inj g4
          subst h1
          subst h2
          subst h3
          subst h4
          subst h5
          subst g5
          refine W.widen (k := 3) (n := 363) (by decide) (by decide) ?_
          exact W.iret (v := (0 : Int32)) hx hb hr (fun t ht hW => ⟨⟨(0 : Int32), (), rfl, rfl, by rw [ht]; exact hP, va_K.moved hW.alike hK, hD⟩, hS.F ht⟩) hS.2.2 dX9_multiply_35

noncomputable def p_X9_make (F : Nat) (V : Nat → Int64) (ib : Bool) (dn : Int32) (rf : Int32) (p0 : Int32) (p1 : Int32) (p2 : Int32) : Option (Int32 × (Nat → Int64) × Bool × Int32 × Int32 × Int32) := (zb1 (p_X9_isOne p0) (fun r1 => (zlt (zb1 (p_X9_isIn p1 (0 : Int32) (5 : Int32)) (fun r3 => (zb2 (p_X9_isThrown false r3) (fun r5 th_6 => (if (z01 r5) = 0 then (if ¬ p1 = 0 then (zb1 (p_X9_of F V p0) (fun r8 => (zb2 (p_X9_made F false r8 p1) (fun r11 ib_12 => (zb4 (p_X9_becomeOrNot F V ib_12 dn rf p2 r11) (fun r15 V_16 dn_17 rf_18 => (some (r15, V_16, ib_12, dn_17, rf_18, th_6)))))))) else (zb1 (p_X9_of F V p0) (fun r20 => (zb1 (p_X9_hasInverse r20) (fun r23 => (if ¬ (z01 r23) = 0 then (zb1 (p_X9_of F V p0) (fun r25 => (zb2 (p_X9_made F false r25 p1) (fun r28 ib_29 => (zb4 (p_X9_becomeOrNot F V ib_29 dn rf p2 r28) (fun r32 V_33 dn_34 rf_35 => (some (r32, V_33, ib_29, dn_34, rf_35, th_6)))))))) else (zb1 (p_X9_of F V p2) (fun r37 => (zb4 (p_X9_becomeOrNot F V true dn rf p2 r37) (fun r40 V_41 dn_42 rf_43 => (some (r40, V_41, true, dn_42, rf_43, th_6)))))))))))) else (some ((0 : Int32), V, ib, dn, rf, th_6))))))) (fun jf0 => (if (z01 r1) = 0 then (jf0 ) else (zb1 (p_X9_isOne p2) (fun r45 => (if (z01 r45) = 0 then (jf0 ) else (zb1 (p_X9_isIn p1 (0 : Int32) (5 : Int32)) (fun r47 => (zb2 (p_X9_isThrown true r47) (fun r49 th_50 => (if (z01 r49) = 0 then (if ¬ p1 = 0 then (zb1 (p_X9_of F V p0) (fun r52 => (zb2 (p_X9_made F false r52 p1) (fun r55 ib_56 => (zb4 (p_X9_becomeOrNot F V ib_56 dn rf p2 r55) (fun r59 V_60 dn_61 rf_62 => (some (r59, V_60, ib_56, dn_61, rf_62, th_50)))))))) else (zb1 (p_X9_of F V p0) (fun r64 => (zb1 (p_X9_hasInverse r64) (fun r67 => (if ¬ (z01 r67) = 0 then (zb1 (p_X9_of F V p0) (fun r69 => (zb2 (p_X9_made F false r69 p1) (fun r72 ib_73 => (zb4 (p_X9_becomeOrNot F V ib_73 dn rf p2 r72) (fun r76 V_77 dn_78 rf_79 => (some (r76, V_77, ib_73, dn_78, rf_79, th_50)))))))) else (zb1 (p_X9_of F V p2) (fun r81 => (zb4 (p_X9_becomeOrNot F V true dn rf p2 r81) (fun r84 V_85 dn_86 rf_87 => (some (r84, V_85, true, dn_86, rf_87, th_50)))))))))))) else (some ((0 : Int32), V, ib, dn, rf, th_50)))))))))))))))
theorem hdV_X9_make : yX9_make.cls = RX9 ∧ yX9_make.cls ≠ "java/lang/invoke/MethodHandle" ∧ yX9_make.cls ≠ "java/lang/invoke/VarHandle" ∧ (parseMethodDescriptor yX9_make.desc).map (fun d => d.parameters.length) = some 3 := by decide +kernel
set_option maxHeartbeats 4000000 in
set_option maxRecDepth 100000 in
theorem c_X9_make (l : Launch) (D : va_G) (q v : Nat) (cJ cI cO cB : ClassId) (V : Nat → Int64) (ib : Bool) (dn : Int32) (rf : Int32) (mk : Int32) (th : Int32) (F : Nat) (p0 : Int32) (p1 : Int32) (p2 : Int32) (r : Int32) (V' : Nat → Int64) (ib' : Bool) (dn' : Int32) (rf' : Int32) (th' : Int32) (h : p_X9_make F V ib dn rf p0 p1 p2 = some (r, V', ib', dn', rf', th')) : zMi l yX9_make wsX9_make 4 88 3 363 D (zT cJ cI cO cB) [.ref q, .int p0, .int p1, .int p2] (mW q v cJ V ib dn rf mk th) (mW q v cJ V' ib' dn' rf' mk th') r := by
  intro sz
  delta zQi
  refine Met.ofW (cc := cX9_make) (maxL := 4) (ret := (some .int)) (by decide) rfl ?_
  intro p e s m args below meth c s₁ B hml hv
  obtain ⟨rfl, hsz, hP, hK, hD0⟩ := hv
  have hx := B.exec
  have hb := B.bytes
  have hr := B.returns
  have hts := atoms_spec (ws := wsX9_make) B.pre
  have hown : s.vm.findClass RX9 = some m.cls := findClass_of_methodNamed B.named
  have hlocks := B.notSynchronized
  subst hsz
  have hD := hD0.self (sz := s.heap.size)
  generalize hAe : va_A (mW q v cJ V ib dn rf mk th) s.heap.size = A at hD ⊢
  have hA : ∀ q : Nat, s.heap.size ≤ q → A q := fun q h => by rw [← hAe]; exact Or.inr h
  have hS : va_S A s.heap s.heap [] := va_S.rf
  have hl := lv_entry ([.ref q, .int p0, .int p1, .int p2]) (n := 4) (Nat.le_of_ble_eq_true rfl)
  rw [lg_entry_eq]
  generalize (lg_sl ([.ref q, .int p0, .int p1, .int p2]) ++ List.replicate (4 - (lg_sl ([.ref q, .int p0, .int p1, .int p2])).length) Slot.unset).toArray = ls at hl ⊢
  replace hl : lv_has ls 4 [(0, .ref q), (1, .int p0), (2, .int p1), (3, .int p2)] := hl
  have kwX9 : ∀ w ∈ u_ws RX9 TX9 6, w ∈ wsX9_make := fun w h => List.mem_cons_of_mem _ (List.mem_append_left _ (List.mem_append_left _ (List.mem_append_left _ (List.mem_append_left _ (List.mem_append_right _ (List.mem_cons_of_mem _ (List.mem_append_right _ h)))))))
  have kf_36 := hts (.fieldLink RX9 36 "DivisorworkModel" "isBeyond" "Z") (List.mem_cons_of_mem _ (List.mem_append_left _ (List.mem_append_right _ (zmem 1 rfl))))
  replace h : (zb1 (p_X9_isOne p0) (fun r1 => (zlt (zb1 (p_X9_isIn p1 (0 : Int32) (5 : Int32)) (fun r3 => (zb2 (p_X9_isThrown false r3) (fun r5 th_6 => (if (z01 r5) = 0 then (if ¬ p1 = 0 then (zb1 (p_X9_of F V p0) (fun r8 => (zb2 (p_X9_made F false r8 p1) (fun r11 ib_12 => (zb4 (p_X9_becomeOrNot F V ib_12 dn rf p2 r11) (fun r15 V_16 dn_17 rf_18 => (some (r15, V_16, ib_12, dn_17, rf_18, th_6)))))))) else (zb1 (p_X9_of F V p0) (fun r20 => (zb1 (p_X9_hasInverse r20) (fun r23 => (if ¬ (z01 r23) = 0 then (zb1 (p_X9_of F V p0) (fun r25 => (zb2 (p_X9_made F false r25 p1) (fun r28 ib_29 => (zb4 (p_X9_becomeOrNot F V ib_29 dn rf p2 r28) (fun r32 V_33 dn_34 rf_35 => (some (r32, V_33, ib_29, dn_34, rf_35, th_6)))))))) else (zb1 (p_X9_of F V p2) (fun r37 => (zb4 (p_X9_becomeOrNot F V true dn rf p2 r37) (fun r40 V_41 dn_42 rf_43 => (some (r40, V_41, true, dn_42, rf_43, th_6)))))))))))) else (some ((0 : Int32), V, ib, dn, rf, th_6))))))) (fun jf0 => (if (z01 r1) = 0 then (jf0 ) else (zb1 (p_X9_isOne p2) (fun r45 => (if (z01 r45) = 0 then (jf0 ) else (zb1 (p_X9_isIn p1 (0 : Int32) (5 : Int32)) (fun r47 => (zb2 (p_X9_isThrown true r47) (fun r49 th_50 => (if (z01 r49) = 0 then (if ¬ p1 = 0 then (zb1 (p_X9_of F V p0) (fun r52 => (zb2 (p_X9_made F false r52 p1) (fun r55 ib_56 => (zb4 (p_X9_becomeOrNot F V ib_56 dn rf p2 r55) (fun r59 V_60 dn_61 rf_62 => (some (r59, V_60, ib_56, dn_61, rf_62, th_50)))))))) else (zb1 (p_X9_of F V p0) (fun r64 => (zb1 (p_X9_hasInverse r64) (fun r67 => (if ¬ (z01 r67) = 0 then (zb1 (p_X9_of F V p0) (fun r69 => (zb2 (p_X9_made F false r69 p1) (fun r72 ib_73 => (zb4 (p_X9_becomeOrNot F V ib_73 dn rf p2 r72) (fun r76 V_77 dn_78 rf_79 => (some (r76, V_77, ib_73, dn_78, rf_79, th_50)))))))) else (zb1 (p_X9_of F V p2) (fun r81 => (zb4 (p_X9_becomeOrNot F V true dn rf p2 r81) (fun r84 V_85 dn_86 rf_87 => (some (r84, V_85, true, dn_86, rf_87, th_50)))))))))))) else (some ((0 : Int32), V, ib, dn, rf, th_50))))))))))))))) = some (r, V', ib', dn', rf', th') := h
  refine zabs (fun G hG hGW => ?_)
  obtain ⟨H, hHe⟩ : ∃ H, H = s.heap := ⟨_, rfl⟩
  rw [← hHe] at hP
  replace hS : va_S A s.heap H [] := by rw [hHe]; exact hS
  refine zheap hHe ?_
  refine lv_aload_n hx hb dX9_make_0 rfl (lv_at hl 0 rfl) ?_
  refine lv_iload_n hx hb dX9_make_1 rfl (lv_at hl 1 rfl) ?_
  obtain ⟨r1, e2, h⟩ := zb1_some h
  refine zgoi (va_runS (As := [.int p0]) (rest := [.ref q]) ⟨hx, hb, hml, hown, hts⟩ (c_X9_isOne l D (zT cJ cI cO cB) p0 r1 e2 H.size) (va_cwS 1 hts gX9_make_X9_isOne rfl rfl rfl hdS_X9_isOne ⟨Nat.le_of_ble_eq_true rfl, Nat.le_of_ble_eq_true rfl⟩) (zpreS hK zP0 (zD0 (A := A)) [.int p0]) rfl rfl hl.1 rfl (lv_room (Nat.le_of_ble_eq_true rfl)) dX9_make_2 ⟨Nat.le_of_ble_eq_true rfl, Nat.le_of_ble_eq_true rfl⟩) (zf0 hS hA) (zjE hP hD) hS (fun H locs hP hD hS => ?_)
  have J0 : ∀  (H : Heap) (locs : List Loc) (ls : Array Slot), va_P D vwCl (mW q v cJ V ib dn rf mk th) H → va_D A (mW q v cJ V ib dn rf mk th) → va_S A s.heap H locs → lv_has ls 4 [(0, .ref q), (1, .int p0), (2, .int p1), (3, .int p2)] → (zb1 (p_X9_isIn p1 (0 : Int32) (5 : Int32)) (fun r3 => (zb2 (p_X9_isThrown false r3) (fun r5 th_6 => (if (z01 r5) = 0 then (if ¬ p1 = 0 then (zb1 (p_X9_of F V p0) (fun r8 => (zb2 (p_X9_made F false r8 p1) (fun r11 ib_12 => (zb4 (p_X9_becomeOrNot F V ib_12 dn rf p2 r11) (fun r15 V_16 dn_17 rf_18 => (some (r15, V_16, ib_12, dn_17, rf_18, th_6)))))))) else (zb1 (p_X9_of F V p0) (fun r20 => (zb1 (p_X9_hasInverse r20) (fun r23 => (if ¬ (z01 r23) = 0 then (zb1 (p_X9_of F V p0) (fun r25 => (zb2 (p_X9_made F false r25 p1) (fun r28 ib_29 => (zb4 (p_X9_becomeOrNot F V ib_29 dn rf p2 r28) (fun r32 V_33 dn_34 rf_35 => (some (r32, V_33, ib_29, dn_34, rf_35, th_6)))))))) else (zb1 (p_X9_of F V p2) (fun r37 => (zb4 (p_X9_becomeOrNot F V true dn rf p2 r37) (fun r40 V_41 dn_42 rf_43 => (some (r40, V_41, true, dn_42, rf_43, th_6)))))))))))) else (some ((0 : Int32), V, ib, dn, rf, th_6))))))) = some (r, V', ib', dn', rf', th') → G H locs 0 0 (F0 m 19 ls [.ref q]) := by
    intro  H locs ls hP hD hS hl h
    refine hG _ _ _ _ _ ?_
    refine lv_iconst (v := (0 : Int32)) hx hb dX9_make_19 (by decide) ?_
    refine lv_iload_n hx hb dX9_make_20 rfl (lv_at hl 2 rfl) ?_
    refine lv_iconst (v := (0 : Int32)) hx hb dX9_make_21 (by decide) ?_
    refine lv_iconst (v := (5 : Int32)) hx hb dX9_make_22 (by decide) ?_
    obtain ⟨r3, e4, h⟩ := zb1_some h
    refine zgoi (va_runS (As := [.int p1, .int (0 : Int32), .int (5 : Int32)]) (rest := [.int (0 : Int32), .ref q]) ⟨hx, hb, hml, hown, hts⟩ (c_X9_isIn l D (zT cJ cI cO cB) p1 (0 : Int32) (5 : Int32) r3 e4 H.size) (va_cwS 3 hts gX9_make_X9_isIn rfl rfl rfl hdS_X9_isIn ⟨Nat.le_of_ble_eq_true rfl, Nat.le_of_ble_eq_true rfl⟩) (zpreS hK zP0 (zD0 (A := A)) [.int p1, .int (0 : Int32), .int (5 : Int32)]) rfl rfl hl.1 rfl (lv_room (Nat.le_of_ble_eq_true rfl)) dX9_make_23 ⟨Nat.le_of_ble_eq_true rfl, Nat.le_of_ble_eq_true rfl⟩) (zf0 hS hA) (zjE hP hD) hS (fun H locs hP hD hS => ?_)
    obtain ⟨r5, th_6, e7, h⟩ := zb2_some h
    refine zgoi (va_runV (As := [.int (0 : Int32), .int (z01 r3)]) (rest := []) ⟨hx, hb, hml, hown, hts⟩ (c_X9_isThrown l D q v cJ cI cO cB V ib dn rf mk th false r3 r5 th_6 e7 H.size) (cwV 2 hts gX9_make_X9_isThrown rfl rfl rfl hdV_X9_isThrown ⟨Nat.le_of_ble_eq_true rfl, Nat.le_of_ble_eq_true rfl⟩) (zpreV (q0 := 0) (ci := 9) (T := TX9) (N := 6) hK hP hD rfl rfl [.int (0 : Int32), .int (z01 r3)]) rfl rfl hl.1 rfl (lv_room (Nat.le_of_ble_eq_true rfl)) dX9_make_26 ⟨Nat.le_of_ble_eq_true rfl, Nat.le_of_ble_eq_true rfl⟩) (zfree hD hS hA) (zjW hD hS hA) hS (fun H locs hP hD hS => ?_)
    replace hP : va_P D vwCl (mW q v cJ V ib dn rf mk th_6) H := hP
    replace hD : va_D A (mW q v cJ V ib dn rf mk th_6) := hD
    refine lv_if_eq (tgt := 34) hx hb dX9_make_29 (by decide) (fun c29 => ?_) (fun c29 => ?_)
    · replace h := zif_t h c29
      refine lv_aload_n hx hb dX9_make_34 rfl (lv_at hl 0 rfl) ?_
      refine lv_iload_n hx hb dX9_make_35 rfl (lv_at hl 2 rfl) ?_
      refine lv_if_ne (tgt := 55) hx hb dX9_make_36 (by decide) (fun c36 => ?_) (fun c36 => ?_)
      · replace h := zif_t h c36
        refine lv_iconst (v := (0 : Int32)) hx hb dX9_make_55 (by decide) ?_
        refine va_put (D := D) (ci := 9) (v := .int (z01 false)) (ty := .boolean) (C := RX9) (T := TX9) (N := 6) hx hb hts kwX9 tyX9 tyX9_ok nmX9 hown hK hP hD hS 0 rfl rfl 1 (by decide) kf_36 (fun _ h9 => h9) rfl rfl (z01_nar false) (z01_fit false) (Nat.le_of_ble_eq_true rfl) dX9_make_56 (fun H locs hP hD hS => ?_)
        replace hP : va_P D vwCl (mW q v cJ V false dn rf mk th_6) H := hP
        replace hD : va_D A (mW q v cJ V false dn rf mk th_6) := hD
        refine lv_aload_n hx hb dX9_make_59 rfl (lv_at hl 0 rfl) ?_
        refine va_get (D := D) (ci := 9) (v := .int (0 : Int32)) (C := RX9) (T := TX9) (N := 6) hx hb hts kwX9 hown hK hP 0 rfl rfl 1 (by decide) kf_36 (fun _ h9 => h9) rfl dX9_make_60 ?_
        refine lv_if_eq (tgt := 79) hx hb dX9_make_63 (by decide) (fun _ => ?_) (fun c => absurd (by decide) c)
        refine lv_aload_n hx hb dX9_make_79 rfl (lv_at hl 0 rfl) ?_
        refine lv_iload_n hx hb dX9_make_80 rfl (lv_at hl 3 rfl) ?_
        refine lv_aload_n hx hb dX9_make_81 rfl (lv_at hl 0 rfl) ?_
        refine lv_aload_n hx hb dX9_make_82 rfl (lv_at hl 0 rfl) ?_
        refine lv_iload_n hx hb dX9_make_83 rfl (lv_at hl 1 rfl) ?_
        obtain ⟨r8, e9, h⟩ := zb1_some h
        refine zgon (va_runV (As := [.int p0]) (rest := [.ref q, .int p2, .ref q]) ⟨hx, hb, hml, hown, hts⟩ (c_X9_of l D q v cJ cI cO cB V false dn rf mk th_6 F p0 r8 e9 H.size) (cwV 1 hts gX9_make_X9_of rfl rfl rfl hdV_X9_of ⟨Nat.le_of_ble_eq_true rfl, Nat.le_of_ble_eq_true rfl⟩) (zpreV (q0 := 0) (ci := 9) (T := TX9) (N := 6) hK hP hD rfl rfl [.int p0]) rfl rfl hl.1 rfl (lv_room (Nat.le_of_ble_eq_true rfl)) dX9_make_84 ⟨Nat.le_of_ble_eq_true rfl, Nat.le_of_ble_eq_true rfl⟩) (zfree hD hS hA) (fun _ => zjW hD hS hA) hS (fun w10 H locs hP hD hS => ?_)
        replace hP : va_P D vwCl (mW q v cJ V false dn rf mk th_6 ++ ([(w10, .inl (cJ, 121, .inr (.inl r8)))])) H := hP
        replace hD : va_D A (mW q v cJ V false dn rf mk th_6 ++ ([(w10, .inl (cJ, 121, .inr (.inl r8)))])) := hD
        refine lv_iload_n hx hb dX9_make_87 rfl (lv_at hl 2 rfl) ?_
        obtain ⟨r11, ib_12, e13, h⟩ := zb2_some h
        refine zgon (va_runV (As := [.ref w10, .int p1]) (rest := [.int p2, .ref q]) ⟨hx, hb, hml, hown, hts⟩ (c_X9_made l D q v cJ cI cO cB V false dn rf mk th_6 F w10 r8 p1 r11 ib_12 e13 H.size) (cwV 2 hts gX9_make_X9_made rfl rfl rfl hdV_X9_made ⟨Nat.le_of_ble_eq_true rfl, Nat.le_of_ble_eq_true rfl⟩) (zpreV (q0 := 0) (ci := 9) (T := TX9) (N := 6) hK hP hD rfl rfl [.ref w10, .int p1]) rfl rfl hl.1 rfl (lv_room (Nat.le_of_ble_eq_true rfl)) dX9_make_88 ⟨Nat.le_of_ble_eq_true rfl, Nat.le_of_ble_eq_true rfl⟩) (zfree hD hS hA) (fun _ => zjW hD hS hA) hS (fun w14 H locs hP hD hS => ?_)
        replace hP : va_P D vwCl (mW q v cJ V ib_12 dn rf mk th_6 ++ ([(w10, .inl (cJ, 121, .inr (.inl r8))), (w14, .inl (cJ, 121, .inr (.inl r11)))])) H := hP
        replace hD : va_D A (mW q v cJ V ib_12 dn rf mk th_6 ++ ([(w10, .inl (cJ, 121, .inr (.inl r8))), (w14, .inl (cJ, 121, .inr (.inl r11)))])) := hD
        obtain ⟨r15, V_16, dn_17, rf_18, e19, h⟩ := zb4_some h
        have hPc := zsub (wn := (mW q v cJ V ib_12 dn rf mk th_6 ++ ([(w14, .inl (cJ, 121, .inr (.inl r11)))]))) hP [0, 1, 3] rfl
        have hDc := hD.sub (ws' := (mW q v cJ V ib_12 dn rf mk th_6 ++ ([(w14, .inl (cJ, 121, .inr (.inl r11)))]))) [0, 1, 3] (by decide) rfl
        refine zgoi (va_runV (As := [.int p2, .ref w14]) (rest := []) ⟨hx, hb, hml, hown, hts⟩ (c_X9_becomeOrNot l D q v cJ cI cO cB V ib_12 dn rf mk th_6 F p2 w14 r11 r15 V_16 dn_17 rf_18 e19 H.size) (cwV 2 hts gX9_make_X9_becomeOrNot rfl rfl rfl hdV_X9_becomeOrNot ⟨Nat.le_of_ble_eq_true rfl, Nat.le_of_ble_eq_true rfl⟩) (zpreV (q0 := 0) (ci := 9) (T := TX9) (N := 6) hK hPc hDc rfl rfl [.int p2, .ref w14]) rfl rfl hl.1 rfl (lv_room (Nat.le_of_ble_eq_true rfl)) dX9_make_91 ⟨Nat.le_of_ble_eq_true rfl, Nat.le_of_ble_eq_true rfl⟩) (va_free hD hS hA [0, 1, 3] rfl) (zjs (wn := (mW q v cJ V_16 ib_12 dn_17 rf_18 mk th_6 ++ ([(w10, .inl (cJ, 121, .inr (.inl r8))), (w14, .inl (cJ, 121, .inr (.inl r11)))]))) [1, 2, 0, 3] (zjF (wr := ([(w10, .inl (cJ, 121, .inr (.inl r8)))] : va_W)) hP hD hS hA [0, 1, 3] [2] rfl rfl (by decide) (by decide)) rfl (by decide)) hS (fun H locs hP hD hS => ?_)
        replace hP : va_P D vwCl (mW q v cJ V_16 ib_12 dn_17 rf_18 mk th_6 ++ ([(w10, .inl (cJ, 121, .inr (.inl r8))), (w14, .inl (cJ, 121, .inr (.inl r11)))])) H := hP
        replace hD : va_D A (mW q v cJ V_16 ib_12 dn_17 rf_18 mk th_6 ++ ([(w10, .inl (cJ, 121, .inr (.inl r8))), (w14, .inl (cJ, 121, .inr (.inl r11)))])) := hD
        have g0 := Option.some.inj h
        obtain ⟨h1, g1⟩ := Prod.mk.inj g0
        obtain ⟨h2, g2⟩ := Prod.mk.inj g1
        obtain ⟨h3, g3⟩ := Prod.mk.inj g2
        obtain ⟨h4, g4⟩ := Prod.mk.inj g3
        obtain ⟨h5, g5⟩ := Prod.mk.inj g4
        subst h1
        subst h2
        subst h3
        subst h4
        subst h5
        subst g5
        replace hP := zsub (wn := (mW q v cJ V_16 ib_12 dn_17 rf_18 mk th_6)) hP [0, 1] rfl
        replace hD := hD.sub (ws' := (mW q v cJ V_16 ib_12 dn_17 rf_18 mk th_6)) [0, 1] (by decide) rfl
        refine W.widen (k := 3) (n := 363) (by decide) (by decide) ?_
        exact W.iret (v := r15) hx hb hr (fun t ht hW => ⟨⟨r15, (), rfl, rfl, by rw [ht]; exact hP, va_K.moved hW.alike hK, hD⟩, hS.F ht⟩) hS.2.2 dX9_make_94
      · replace h := zif_fn h c36
        refine lv_aload_n hx hb dX9_make_39 rfl (lv_at hl 0 rfl) ?_
        refine lv_aload_n hx hb dX9_make_40 rfl (lv_at hl 0 rfl) ?_
        refine lv_iload_n hx hb dX9_make_41 rfl (lv_at hl 1 rfl) ?_
        obtain ⟨r20, e21, h⟩ := zb1_some h
        refine zgon (va_runV (As := [.int p0]) (rest := [.ref q, .ref q]) ⟨hx, hb, hml, hown, hts⟩ (c_X9_of l D q v cJ cI cO cB V ib dn rf mk th_6 F p0 r20 e21 H.size) (cwV 1 hts gX9_make_X9_of rfl rfl rfl hdV_X9_of ⟨Nat.le_of_ble_eq_true rfl, Nat.le_of_ble_eq_true rfl⟩) (zpreV (q0 := 0) (ci := 9) (T := TX9) (N := 6) hK hP hD rfl rfl [.int p0]) rfl rfl hl.1 rfl (lv_room (Nat.le_of_ble_eq_true rfl)) dX9_make_42 ⟨Nat.le_of_ble_eq_true rfl, Nat.le_of_ble_eq_true rfl⟩) (zfree hD hS hA) (fun _ => zjW hD hS hA) hS (fun w22 H locs hP hD hS => ?_)
        replace hP : va_P D vwCl (mW q v cJ V ib dn rf mk th_6 ++ ([(w22, .inl (cJ, 121, .inr (.inl r20)))])) H := hP
        replace hD : va_D A (mW q v cJ V ib dn rf mk th_6 ++ ([(w22, .inl (cJ, 121, .inr (.inl r20)))])) := hD
        obtain ⟨r23, e24, h⟩ := zb1_some h
        refine zgoi (va_runV (As := [.ref w22]) (rest := [.ref q]) ⟨hx, hb, hml, hown, hts⟩ (c_X9_hasInverse l D q v cJ cI cO cB V ib dn rf mk th_6 w22 r20 r23 e24 H.size) (cwV 1 hts gX9_make_X9_hasInverse rfl rfl rfl hdV_X9_hasInverse ⟨Nat.le_of_ble_eq_true rfl, Nat.le_of_ble_eq_true rfl⟩) (zpreV (q0 := 0) (ci := 9) (T := TX9) (N := 6) hK hP hD rfl rfl [.ref w22]) rfl rfl hl.1 rfl (lv_room (Nat.le_of_ble_eq_true rfl)) dX9_make_45 ⟨Nat.le_of_ble_eq_true rfl, Nat.le_of_ble_eq_true rfl⟩) (zfree hD hS hA) (zjW hD hS hA) hS (fun H locs hP hD hS => ?_)
        replace hP : va_P D vwCl (mW q v cJ V ib dn rf mk th_6 ++ ([(w22, .inl (cJ, 121, .inr (.inl r20)))])) H := hP
        replace hD : va_D A (mW q v cJ V ib dn rf mk th_6 ++ ([(w22, .inl (cJ, 121, .inr (.inl r20)))])) := hD
        refine lv_if_ne (tgt := 55) hx hb dX9_make_48 (by decide) (fun c48 => ?_) (fun c48 => ?_)
        · replace h := zif_t h c48
          refine lv_iconst (v := (0 : Int32)) hx hb dX9_make_55 (by decide) ?_
          refine va_put (D := D) (ci := 9) (v := .int (z01 false)) (ty := .boolean) (C := RX9) (T := TX9) (N := 6) hx hb hts kwX9 tyX9 tyX9_ok nmX9 hown hK hP hD hS 0 rfl rfl 1 (by decide) kf_36 (fun _ h9 => h9) rfl rfl (z01_nar false) (z01_fit false) (Nat.le_of_ble_eq_true rfl) dX9_make_56 (fun H locs hP hD hS => ?_)
          replace hP : va_P D vwCl (mW q v cJ V false dn rf mk th_6 ++ ([(w22, .inl (cJ, 121, .inr (.inl r20)))])) H := hP
          replace hD : va_D A (mW q v cJ V false dn rf mk th_6 ++ ([(w22, .inl (cJ, 121, .inr (.inl r20)))])) := hD
          refine lv_aload_n hx hb dX9_make_59 rfl (lv_at hl 0 rfl) ?_
          refine va_get (D := D) (ci := 9) (v := .int (0 : Int32)) (C := RX9) (T := TX9) (N := 6) hx hb hts kwX9 hown hK hP 0 rfl rfl 1 (by decide) kf_36 (fun _ h9 => h9) rfl dX9_make_60 ?_
          refine lv_if_eq (tgt := 79) hx hb dX9_make_63 (by decide) (fun _ => ?_) (fun c => absurd (by decide) c)
          refine lv_aload_n hx hb dX9_make_79 rfl (lv_at hl 0 rfl) ?_
          refine lv_iload_n hx hb dX9_make_80 rfl (lv_at hl 3 rfl) ?_
          refine lv_aload_n hx hb dX9_make_81 rfl (lv_at hl 0 rfl) ?_
          refine lv_aload_n hx hb dX9_make_82 rfl (lv_at hl 0 rfl) ?_
          refine lv_iload_n hx hb dX9_make_83 rfl (lv_at hl 1 rfl) ?_
          obtain ⟨r25, e26, h⟩ := zb1_some h
          have hPc := zsub (wn := (mW q v cJ V false dn rf mk th_6)) hP [0, 1] rfl
          have hDc := hD.sub (ws' := (mW q v cJ V false dn rf mk th_6)) [0, 1] (by decide) rfl
          refine zgon (va_runV (As := [.int p0]) (rest := [.ref q, .int p2, .ref q]) ⟨hx, hb, hml, hown, hts⟩ (c_X9_of l D q v cJ cI cO cB V false dn rf mk th_6 F p0 r25 e26 H.size) (cwV 1 hts gX9_make_X9_of rfl rfl rfl hdV_X9_of ⟨Nat.le_of_ble_eq_true rfl, Nat.le_of_ble_eq_true rfl⟩) (zpreV (q0 := 0) (ci := 9) (T := TX9) (N := 6) hK hPc hDc rfl rfl [.int p0]) rfl rfl hl.1 rfl (lv_room (Nat.le_of_ble_eq_true rfl)) dX9_make_84 ⟨Nat.le_of_ble_eq_true rfl, Nat.le_of_ble_eq_true rfl⟩) (va_free hD hS hA [0, 1] rfl) (fun w27 => (zjs (wn := (mW q v cJ V false dn rf mk th_6 ++ ([(w22, .inl (cJ, 121, .inr (.inl r20))), (w27, .inl (cJ, 121, .inr (.inl r25)))]))) [1, 2, 0, 3] (zjF (wr := ([(w22, .inl (cJ, 121, .inr (.inl r20)))] : va_W)) hP hD hS hA [0, 1] [2] rfl rfl (by decide) (by decide)) rfl (by decide))) hS (fun w27 H locs hP hD hS => ?_)
          replace hP : va_P D vwCl (mW q v cJ V false dn rf mk th_6 ++ ([(w22, .inl (cJ, 121, .inr (.inl r20))), (w27, .inl (cJ, 121, .inr (.inl r25)))])) H := hP
          replace hD : va_D A (mW q v cJ V false dn rf mk th_6 ++ ([(w22, .inl (cJ, 121, .inr (.inl r20))), (w27, .inl (cJ, 121, .inr (.inl r25)))])) := hD
          refine lv_iload_n hx hb dX9_make_87 rfl (lv_at hl 2 rfl) ?_
          obtain ⟨r28, ib_29, e30, h⟩ := zb2_some h
          have hPc := zsub (wn := (mW q v cJ V false dn rf mk th_6 ++ ([(w27, .inl (cJ, 121, .inr (.inl r25)))]))) hP [0, 1, 3] rfl
          have hDc := hD.sub (ws' := (mW q v cJ V false dn rf mk th_6 ++ ([(w27, .inl (cJ, 121, .inr (.inl r25)))]))) [0, 1, 3] (by decide) rfl
          refine zgon (va_runV (As := [.ref w27, .int p1]) (rest := [.int p2, .ref q]) ⟨hx, hb, hml, hown, hts⟩ (c_X9_made l D q v cJ cI cO cB V false dn rf mk th_6 F w27 r25 p1 r28 ib_29 e30 H.size) (cwV 2 hts gX9_make_X9_made rfl rfl rfl hdV_X9_made ⟨Nat.le_of_ble_eq_true rfl, Nat.le_of_ble_eq_true rfl⟩) (zpreV (q0 := 0) (ci := 9) (T := TX9) (N := 6) hK hPc hDc rfl rfl [.ref w27, .int p1]) rfl rfl hl.1 rfl (lv_room (Nat.le_of_ble_eq_true rfl)) dX9_make_88 ⟨Nat.le_of_ble_eq_true rfl, Nat.le_of_ble_eq_true rfl⟩) (va_free hD hS hA [0, 1, 3] rfl) (fun w31 => (zjs (wn := (mW q v cJ V ib_29 dn rf mk th_6 ++ ([(w22, .inl (cJ, 121, .inr (.inl r20))), (w27, .inl (cJ, 121, .inr (.inl r25))), (w31, .inl (cJ, 121, .inr (.inl r28)))]))) [1, 2, 0, 3, 4] (zjF (wr := ([(w22, .inl (cJ, 121, .inr (.inl r20)))] : va_W)) hP hD hS hA [0, 1, 3] [2] rfl rfl (by decide) (by decide)) rfl (by decide))) hS (fun w31 H locs hP hD hS => ?_)
          replace hP : va_P D vwCl (mW q v cJ V ib_29 dn rf mk th_6 ++ ([(w22, .inl (cJ, 121, .inr (.inl r20))), (w27, .inl (cJ, 121, .inr (.inl r25))), (w31, .inl (cJ, 121, .inr (.inl r28)))])) H := hP
          replace hD : va_D A (mW q v cJ V ib_29 dn rf mk th_6 ++ ([(w22, .inl (cJ, 121, .inr (.inl r20))), (w27, .inl (cJ, 121, .inr (.inl r25))), (w31, .inl (cJ, 121, .inr (.inl r28)))])) := hD
          obtain ⟨r32, V_33, dn_34, rf_35, e36, h⟩ := zb4_some h
          have hPc := zsub (wn := (mW q v cJ V ib_29 dn rf mk th_6 ++ ([(w31, .inl (cJ, 121, .inr (.inl r28)))]))) hP [0, 1, 4] rfl
          have hDc := hD.sub (ws' := (mW q v cJ V ib_29 dn rf mk th_6 ++ ([(w31, .inl (cJ, 121, .inr (.inl r28)))]))) [0, 1, 4] (by decide) rfl
          refine zgoi (va_runV (As := [.int p2, .ref w31]) (rest := []) ⟨hx, hb, hml, hown, hts⟩ (c_X9_becomeOrNot l D q v cJ cI cO cB V ib_29 dn rf mk th_6 F p2 w31 r28 r32 V_33 dn_34 rf_35 e36 H.size) (cwV 2 hts gX9_make_X9_becomeOrNot rfl rfl rfl hdV_X9_becomeOrNot ⟨Nat.le_of_ble_eq_true rfl, Nat.le_of_ble_eq_true rfl⟩) (zpreV (q0 := 0) (ci := 9) (T := TX9) (N := 6) hK hPc hDc rfl rfl [.int p2, .ref w31]) rfl rfl hl.1 rfl (lv_room (Nat.le_of_ble_eq_true rfl)) dX9_make_91 ⟨Nat.le_of_ble_eq_true rfl, Nat.le_of_ble_eq_true rfl⟩) (va_free hD hS hA [0, 1, 4] rfl) (zjs (wn := (mW q v cJ V_33 ib_29 dn_34 rf_35 mk th_6 ++ ([(w22, .inl (cJ, 121, .inr (.inl r20))), (w27, .inl (cJ, 121, .inr (.inl r25))), (w31, .inl (cJ, 121, .inr (.inl r28)))]))) [2, 3, 0, 1, 4] (zjF (wr := ([(w22, .inl (cJ, 121, .inr (.inl r20))), (w27, .inl (cJ, 121, .inr (.inl r25)))] : va_W)) hP hD hS hA [0, 1, 4] [2, 3] rfl rfl (by decide) (by decide)) rfl (by decide)) hS (fun H locs hP hD hS => ?_)
          replace hP : va_P D vwCl (mW q v cJ V_33 ib_29 dn_34 rf_35 mk th_6 ++ ([(w22, .inl (cJ, 121, .inr (.inl r20))), (w27, .inl (cJ, 121, .inr (.inl r25))), (w31, .inl (cJ, 121, .inr (.inl r28)))])) H := hP
          replace hD : va_D A (mW q v cJ V_33 ib_29 dn_34 rf_35 mk th_6 ++ ([(w22, .inl (cJ, 121, .inr (.inl r20))), (w27, .inl (cJ, 121, .inr (.inl r25))), (w31, .inl (cJ, 121, .inr (.inl r28)))])) := hD
          have g0 := Option.some.inj h
          obtain ⟨h1, g1⟩ := Prod.mk.inj g0
          obtain ⟨h2, g2⟩ := Prod.mk.inj g1
          obtain ⟨h3, g3⟩ := Prod.mk.inj g2
          obtain ⟨h4, g4⟩ := Prod.mk.inj g3
          obtain ⟨h5, g5⟩ := Prod.mk.inj g4
          subst h1
          subst h2
          subst h3
          subst h4
          subst h5
          subst g5
          replace hP := zsub (wn := (mW q v cJ V_33 ib_29 dn_34 rf_35 mk th_6)) hP [0, 1] rfl
          replace hD := hD.sub (ws' := (mW q v cJ V_33 ib_29 dn_34 rf_35 mk th_6)) [0, 1] (by decide) rfl
          exact W.iret (v := r32) hx hb hr (fun t ht hW => ⟨⟨r32, (), rfl, rfl, by rw [ht]; exact hP, va_K.moved hW.alike hK, hD⟩, hS.F ht⟩) hS.2.2 dX9_make_94
        · replace h := zif_fn h c48
          refine lv_iconst (v := (1 : Int32)) hx hb dX9_make_51 (by decide) ?_
          refine lv_goto (tgt := 56) hx hb dX9_make_52 (by decide) ?_
          refine va_put (D := D) (ci := 9) (v := .int (z01 true)) (ty := .boolean) (C := RX9) (T := TX9) (N := 6) hx hb hts kwX9 tyX9 tyX9_ok nmX9 hown hK hP hD hS 0 rfl rfl 1 (by decide) kf_36 (fun _ h9 => h9) rfl rfl (z01_nar true) (z01_fit true) (Nat.le_of_ble_eq_true rfl) dX9_make_56 (fun H locs hP hD hS => ?_)
          replace hP : va_P D vwCl (mW q v cJ V true dn rf mk th_6 ++ ([(w22, .inl (cJ, 121, .inr (.inl r20)))])) H := hP
          replace hD : va_D A (mW q v cJ V true dn rf mk th_6 ++ ([(w22, .inl (cJ, 121, .inr (.inl r20)))])) := hD
          refine lv_aload_n hx hb dX9_make_59 rfl (lv_at hl 0 rfl) ?_
          refine va_get (D := D) (ci := 9) (v := .int (1 : Int32)) (C := RX9) (T := TX9) (N := 6) hx hb hts kwX9 hown hK hP 0 rfl rfl 1 (by decide) kf_36 (fun _ h9 => h9) rfl dX9_make_60 ?_
          refine lv_if_eq (tgt := 79) hx hb dX9_make_63 (by decide) (fun c => absurd c (by decide)) (fun _ => ?_)
          refine lv_aload_n hx hb dX9_make_66 rfl (lv_at hl 0 rfl) ?_
          refine lv_iload_n hx hb dX9_make_67 rfl (lv_at hl 3 rfl) ?_
          refine lv_aload_n hx hb dX9_make_68 rfl (lv_at hl 0 rfl) ?_
          refine lv_iload_n hx hb dX9_make_69 rfl (lv_at hl 3 rfl) ?_
          obtain ⟨r37, e38, h⟩ := zb1_some h
          have hPc := zsub (wn := (mW q v cJ V true dn rf mk th_6)) hP [0, 1] rfl
          have hDc := hD.sub (ws' := (mW q v cJ V true dn rf mk th_6)) [0, 1] (by decide) rfl
          refine zgon (va_runV (As := [.int p2]) (rest := [.int p2, .ref q]) ⟨hx, hb, hml, hown, hts⟩ (c_X9_of l D q v cJ cI cO cB V true dn rf mk th_6 F p2 r37 e38 H.size) (cwV 1 hts gX9_make_X9_of rfl rfl rfl hdV_X9_of ⟨Nat.le_of_ble_eq_true rfl, Nat.le_of_ble_eq_true rfl⟩) (zpreV (q0 := 0) (ci := 9) (T := TX9) (N := 6) hK hPc hDc rfl rfl [.int p2]) rfl rfl hl.1 rfl (lv_room (Nat.le_of_ble_eq_true rfl)) dX9_make_70 ⟨Nat.le_of_ble_eq_true rfl, Nat.le_of_ble_eq_true rfl⟩) (va_free hD hS hA [0, 1] rfl) (fun w39 => (zjs (wn := (mW q v cJ V true dn rf mk th_6 ++ ([(w22, .inl (cJ, 121, .inr (.inl r20))), (w39, .inl (cJ, 121, .inr (.inl r37)))]))) [1, 2, 0, 3] (zjF (wr := ([(w22, .inl (cJ, 121, .inr (.inl r20)))] : va_W)) hP hD hS hA [0, 1] [2] rfl rfl (by decide) (by decide)) rfl (by decide))) hS (fun w39 H locs hP hD hS => ?_)
          replace hP : va_P D vwCl (mW q v cJ V true dn rf mk th_6 ++ ([(w22, .inl (cJ, 121, .inr (.inl r20))), (w39, .inl (cJ, 121, .inr (.inl r37)))])) H := hP
          replace hD : va_D A (mW q v cJ V true dn rf mk th_6 ++ ([(w22, .inl (cJ, 121, .inr (.inl r20))), (w39, .inl (cJ, 121, .inr (.inl r37)))])) := hD
          obtain ⟨r40, V_41, dn_42, rf_43, e44, h⟩ := zb4_some h
          have hPc := zsub (wn := (mW q v cJ V true dn rf mk th_6 ++ ([(w39, .inl (cJ, 121, .inr (.inl r37)))]))) hP [0, 1, 3] rfl
          have hDc := hD.sub (ws' := (mW q v cJ V true dn rf mk th_6 ++ ([(w39, .inl (cJ, 121, .inr (.inl r37)))]))) [0, 1, 3] (by decide) rfl
          refine zgoi (va_runV (As := [.int p2, .ref w39]) (rest := []) ⟨hx, hb, hml, hown, hts⟩ (c_X9_becomeOrNot l D q v cJ cI cO cB V true dn rf mk th_6 F p2 w39 r37 r40 V_41 dn_42 rf_43 e44 H.size) (cwV 2 hts gX9_make_X9_becomeOrNot rfl rfl rfl hdV_X9_becomeOrNot ⟨Nat.le_of_ble_eq_true rfl, Nat.le_of_ble_eq_true rfl⟩) (zpreV (q0 := 0) (ci := 9) (T := TX9) (N := 6) hK hPc hDc rfl rfl [.int p2, .ref w39]) rfl rfl hl.1 rfl (lv_room (Nat.le_of_ble_eq_true rfl)) dX9_make_73 ⟨Nat.le_of_ble_eq_true rfl, Nat.le_of_ble_eq_true rfl⟩) (va_free hD hS hA [0, 1, 3] rfl) (zjs (wn := (mW q v cJ V_41 true dn_42 rf_43 mk th_6 ++ ([(w22, .inl (cJ, 121, .inr (.inl r20))), (w39, .inl (cJ, 121, .inr (.inl r37)))]))) [1, 2, 0, 3] (zjF (wr := ([(w22, .inl (cJ, 121, .inr (.inl r20)))] : va_W)) hP hD hS hA [0, 1, 3] [2] rfl rfl (by decide) (by decide)) rfl (by decide)) hS (fun H locs hP hD hS => ?_)
          replace hP : va_P D vwCl (mW q v cJ V_41 true dn_42 rf_43 mk th_6 ++ ([(w22, .inl (cJ, 121, .inr (.inl r20))), (w39, .inl (cJ, 121, .inr (.inl r37)))])) H := hP
          replace hD : va_D A (mW q v cJ V_41 true dn_42 rf_43 mk th_6 ++ ([(w22, .inl (cJ, 121, .inr (.inl r20))), (w39, .inl (cJ, 121, .inr (.inl r37)))])) := hD
          refine lv_goto (tgt := 94) hx hb dX9_make_76 (by decide) ?_
          have g0 := Option.some.inj h
          obtain ⟨h1, g1⟩ := Prod.mk.inj g0
          obtain ⟨h2, g2⟩ := Prod.mk.inj g1
          obtain ⟨h3, g3⟩ := Prod.mk.inj g2
          obtain ⟨h4, g4⟩ := Prod.mk.inj g3
          obtain ⟨h5, g5⟩ := Prod.mk.inj g4
          subst h1
          subst h2
          subst h3
          subst h4
          subst h5
          subst g5
          replace hP := zsub (wn := (mW q v cJ V_41 true dn_42 rf_43 mk th_6)) hP [0, 1] rfl
          replace hD := hD.sub (ws' := (mW q v cJ V_41 true dn_42 rf_43 mk th_6)) [0, 1] (by decide) rfl
          refine W.widen (k := 3) (n := 363) (by decide) (by decide) ?_
          exact W.iret (v := r40) hx hb hr (fun t ht hW => ⟨⟨r40, (), rfl, rfl, by rw [ht]; exact hP, va_K.moved hW.alike hK, hD⟩, hS.F ht⟩) hS.2.2 dX9_make_94
    · replace h := zif_f h c29
      refine lv_iconst (v := (0 : Int32)) hx hb dX9_make_32 (by decide) ?_
      have g0 := Option.some.inj h
      obtain ⟨h1, g1⟩ := Prod.mk.inj g0
      obtain ⟨h2, g2⟩ := Prod.mk.inj g1
      obtain ⟨h3, g3⟩ := Prod.mk.inj g2
      obtain ⟨h4, g4⟩ := Prod.mk.inj g3
      obtain ⟨h5, g5⟩ := Prod.mk.inj g4
      subst h1
      subst h2
      subst h3
      subst h4
      subst h5
      subst g5
      refine W.widen (k := 3) (n := 363) (by decide) (by decide) ?_
      exact W.iret (v := (0 : Int32)) hx hb hr (fun t ht hW => ⟨⟨(0 : Int32), (), rfl, rfl, by rw [ht]; exact hP, va_K.moved hW.alike hK, hD⟩, hS.F ht⟩) hS.2.2 dX9_make_33
  replace h := zlt_h h
  refine lv_if_eq (tgt := 19) hx hb dX9_make_5 (by decide) (fun c5 => ?_) (fun c5 => ?_)
  · replace h := zif_t h c5
    exact hGW _ _ _ _ _ (J0  _ _ ls hP hD hS (lv_sub hl [0, 1, 2, 3] rfl) h)
  · replace h := zif_f h c5
    refine lv_iload_n hx hb dX9_make_8 rfl (lv_at hl 3 rfl) ?_
    obtain ⟨r45, e46, h⟩ := zb1_some h
    refine zgoi (va_runS (As := [.int p2]) (rest := [.ref q]) ⟨hx, hb, hml, hown, hts⟩ (c_X9_isOne l D (zT cJ cI cO cB) p2 r45 e46 H.size) (va_cwS 1 hts gX9_make_X9_isOne rfl rfl rfl hdS_X9_isOne ⟨Nat.le_of_ble_eq_true rfl, Nat.le_of_ble_eq_true rfl⟩) (zpreS hK zP0 (zD0 (A := A)) [.int p2]) rfl rfl hl.1 rfl (lv_room (Nat.le_of_ble_eq_true rfl)) dX9_make_9 ⟨Nat.le_of_ble_eq_true rfl, Nat.le_of_ble_eq_true rfl⟩) (zf0 hS hA) (zjE hP hD) hS (fun H locs hP hD hS => ?_)
    refine lv_if_eq (tgt := 19) hx hb dX9_make_12 (by decide) (fun c12 => ?_) (fun c12 => ?_)
    · replace h := zif_t h c12
      exact hGW _ _ _ _ _ (J0  _ _ ls hP hD hS (lv_sub hl [0, 1, 2, 3] rfl) h)
    · replace h := zif_f h c12
      refine lv_iconst (v := (1 : Int32)) hx hb dX9_make_15 (by decide) ?_
      refine lv_goto (tgt := 20) hx hb dX9_make_16 (by decide) ?_
      refine lv_iload_n hx hb dX9_make_20 rfl (lv_at hl 2 rfl) ?_
      refine lv_iconst (v := (0 : Int32)) hx hb dX9_make_21 (by decide) ?_
      refine lv_iconst (v := (5 : Int32)) hx hb dX9_make_22 (by decide) ?_
      obtain ⟨r47, e48, h⟩ := zb1_some h
      refine zgoi (va_runS (As := [.int p1, .int (0 : Int32), .int (5 : Int32)]) (rest := [.int (1 : Int32), .ref q]) ⟨hx, hb, hml, hown, hts⟩ (c_X9_isIn l D (zT cJ cI cO cB) p1 (0 : Int32) (5 : Int32) r47 e48 H.size) (va_cwS 3 hts gX9_make_X9_isIn rfl rfl rfl hdS_X9_isIn ⟨Nat.le_of_ble_eq_true rfl, Nat.le_of_ble_eq_true rfl⟩) (zpreS hK zP0 (zD0 (A := A)) [.int p1, .int (0 : Int32), .int (5 : Int32)]) rfl rfl hl.1 rfl (lv_room (Nat.le_of_ble_eq_true rfl)) dX9_make_23 ⟨Nat.le_of_ble_eq_true rfl, Nat.le_of_ble_eq_true rfl⟩) (zf0 hS hA) (zjE hP hD) hS (fun H locs hP hD hS => ?_)
      obtain ⟨r49, th_50, e51, h⟩ := zb2_some h
      refine zgoi (va_runV (As := [.int (1 : Int32), .int (z01 r47)]) (rest := []) ⟨hx, hb, hml, hown, hts⟩ (c_X9_isThrown l D q v cJ cI cO cB V ib dn rf mk th true r47 r49 th_50 e51 H.size) (cwV 2 hts gX9_make_X9_isThrown rfl rfl rfl hdV_X9_isThrown ⟨Nat.le_of_ble_eq_true rfl, Nat.le_of_ble_eq_true rfl⟩) (zpreV (q0 := 0) (ci := 9) (T := TX9) (N := 6) hK hP hD rfl rfl [.int (1 : Int32), .int (z01 r47)]) rfl rfl hl.1 rfl (lv_room (Nat.le_of_ble_eq_true rfl)) dX9_make_26 ⟨Nat.le_of_ble_eq_true rfl, Nat.le_of_ble_eq_true rfl⟩) (zfree hD hS hA) (zjW hD hS hA) hS (fun H locs hP hD hS => ?_)
      replace hP : va_P D vwCl (mW q v cJ V ib dn rf mk th_50) H := hP
      replace hD : va_D A (mW q v cJ V ib dn rf mk th_50) := hD
      refine lv_if_eq (tgt := 34) hx hb dX9_make_29 (by decide) (fun c29 => ?_) (fun c29 => ?_)
      · replace h := zif_t h c29
        refine lv_aload_n hx hb dX9_make_34 rfl (lv_at hl 0 rfl) ?_
        refine lv_iload_n hx hb dX9_make_35 rfl (lv_at hl 2 rfl) ?_
        refine lv_if_ne (tgt := 55) hx hb dX9_make_36 (by decide) (fun c36 => ?_) (fun c36 => ?_)
        · replace h := zif_t h c36
          refine lv_iconst (v := (0 : Int32)) hx hb dX9_make_55 (by decide) ?_
          refine va_put (D := D) (ci := 9) (v := .int (z01 false)) (ty := .boolean) (C := RX9) (T := TX9) (N := 6) hx hb hts kwX9 tyX9 tyX9_ok nmX9 hown hK hP hD hS 0 rfl rfl 1 (by decide) kf_36 (fun _ h9 => h9) rfl rfl (z01_nar false) (z01_fit false) (Nat.le_of_ble_eq_true rfl) dX9_make_56 (fun H locs hP hD hS => ?_)
          replace hP : va_P D vwCl (mW q v cJ V false dn rf mk th_50) H := hP
          replace hD : va_D A (mW q v cJ V false dn rf mk th_50) := hD
          refine lv_aload_n hx hb dX9_make_59 rfl (lv_at hl 0 rfl) ?_
          refine va_get (D := D) (ci := 9) (v := .int (0 : Int32)) (C := RX9) (T := TX9) (N := 6) hx hb hts kwX9 hown hK hP 0 rfl rfl 1 (by decide) kf_36 (fun _ h9 => h9) rfl dX9_make_60 ?_
          refine lv_if_eq (tgt := 79) hx hb dX9_make_63 (by decide) (fun _ => ?_) (fun c => absurd (by decide) c)
          refine lv_aload_n hx hb dX9_make_79 rfl (lv_at hl 0 rfl) ?_
          refine lv_iload_n hx hb dX9_make_80 rfl (lv_at hl 3 rfl) ?_
          refine lv_aload_n hx hb dX9_make_81 rfl (lv_at hl 0 rfl) ?_
          refine lv_aload_n hx hb dX9_make_82 rfl (lv_at hl 0 rfl) ?_
          refine lv_iload_n hx hb dX9_make_83 rfl (lv_at hl 1 rfl) ?_
          obtain ⟨r52, e53, h⟩ := zb1_some h
          refine zgon (va_runV (As := [.int p0]) (rest := [.ref q, .int p2, .ref q]) ⟨hx, hb, hml, hown, hts⟩ (c_X9_of l D q v cJ cI cO cB V false dn rf mk th_50 F p0 r52 e53 H.size) (cwV 1 hts gX9_make_X9_of rfl rfl rfl hdV_X9_of ⟨Nat.le_of_ble_eq_true rfl, Nat.le_of_ble_eq_true rfl⟩) (zpreV (q0 := 0) (ci := 9) (T := TX9) (N := 6) hK hP hD rfl rfl [.int p0]) rfl rfl hl.1 rfl (lv_room (Nat.le_of_ble_eq_true rfl)) dX9_make_84 ⟨Nat.le_of_ble_eq_true rfl, Nat.le_of_ble_eq_true rfl⟩) (zfree hD hS hA) (fun _ => zjW hD hS hA) hS (fun w54 H locs hP hD hS => ?_)
          replace hP : va_P D vwCl (mW q v cJ V false dn rf mk th_50 ++ ([(w54, .inl (cJ, 121, .inr (.inl r52)))])) H := hP
          replace hD : va_D A (mW q v cJ V false dn rf mk th_50 ++ ([(w54, .inl (cJ, 121, .inr (.inl r52)))])) := hD
          refine lv_iload_n hx hb dX9_make_87 rfl (lv_at hl 2 rfl) ?_
          obtain ⟨r55, ib_56, e57, h⟩ := zb2_some h
          refine zgon (va_runV (As := [.ref w54, .int p1]) (rest := [.int p2, .ref q]) ⟨hx, hb, hml, hown, hts⟩ (c_X9_made l D q v cJ cI cO cB V false dn rf mk th_50 F w54 r52 p1 r55 ib_56 e57 H.size) (cwV 2 hts gX9_make_X9_made rfl rfl rfl hdV_X9_made ⟨Nat.le_of_ble_eq_true rfl, Nat.le_of_ble_eq_true rfl⟩) (zpreV (q0 := 0) (ci := 9) (T := TX9) (N := 6) hK hP hD rfl rfl [.ref w54, .int p1]) rfl rfl hl.1 rfl (lv_room (Nat.le_of_ble_eq_true rfl)) dX9_make_88 ⟨Nat.le_of_ble_eq_true rfl, Nat.le_of_ble_eq_true rfl⟩) (zfree hD hS hA) (fun _ => zjW hD hS hA) hS (fun w58 H locs hP hD hS => ?_)
          replace hP : va_P D vwCl (mW q v cJ V ib_56 dn rf mk th_50 ++ ([(w54, .inl (cJ, 121, .inr (.inl r52))), (w58, .inl (cJ, 121, .inr (.inl r55)))])) H := hP
          replace hD : va_D A (mW q v cJ V ib_56 dn rf mk th_50 ++ ([(w54, .inl (cJ, 121, .inr (.inl r52))), (w58, .inl (cJ, 121, .inr (.inl r55)))])) := hD
          obtain ⟨r59, V_60, dn_61, rf_62, e63, h⟩ := zb4_some h
          have hPc := zsub (wn := (mW q v cJ V ib_56 dn rf mk th_50 ++ ([(w58, .inl (cJ, 121, .inr (.inl r55)))]))) hP [0, 1, 3] rfl
          have hDc := hD.sub (ws' := (mW q v cJ V ib_56 dn rf mk th_50 ++ ([(w58, .inl (cJ, 121, .inr (.inl r55)))]))) [0, 1, 3] (by decide) rfl
          refine zgoi (va_runV (As := [.int p2, .ref w58]) (rest := []) ⟨hx, hb, hml, hown, hts⟩ (c_X9_becomeOrNot l D q v cJ cI cO cB V ib_56 dn rf mk th_50 F p2 w58 r55 r59 V_60 dn_61 rf_62 e63 H.size) (cwV 2 hts gX9_make_X9_becomeOrNot rfl rfl rfl hdV_X9_becomeOrNot ⟨Nat.le_of_ble_eq_true rfl, Nat.le_of_ble_eq_true rfl⟩) (zpreV (q0 := 0) (ci := 9) (T := TX9) (N := 6) hK hPc hDc rfl rfl [.int p2, .ref w58]) rfl rfl hl.1 rfl (lv_room (Nat.le_of_ble_eq_true rfl)) dX9_make_91 ⟨Nat.le_of_ble_eq_true rfl, Nat.le_of_ble_eq_true rfl⟩) (va_free hD hS hA [0, 1, 3] rfl) (zjs (wn := (mW q v cJ V_60 ib_56 dn_61 rf_62 mk th_50 ++ ([(w54, .inl (cJ, 121, .inr (.inl r52))), (w58, .inl (cJ, 121, .inr (.inl r55)))]))) [1, 2, 0, 3] (zjF (wr := ([(w54, .inl (cJ, 121, .inr (.inl r52)))] : va_W)) hP hD hS hA [0, 1, 3] [2] rfl rfl (by decide) (by decide)) rfl (by decide)) hS (fun H locs hP hD hS => ?_)
          replace hP : va_P D vwCl (mW q v cJ V_60 ib_56 dn_61 rf_62 mk th_50 ++ ([(w54, .inl (cJ, 121, .inr (.inl r52))), (w58, .inl (cJ, 121, .inr (.inl r55)))])) H := hP
          replace hD : va_D A (mW q v cJ V_60 ib_56 dn_61 rf_62 mk th_50 ++ ([(w54, .inl (cJ, 121, .inr (.inl r52))), (w58, .inl (cJ, 121, .inr (.inl r55)))])) := hD
          have g0 := Option.some.inj h
          obtain ⟨h1, g1⟩ := Prod.mk.inj g0
          obtain ⟨h2, g2⟩ := Prod.mk.inj g1
          obtain ⟨h3, g3⟩ := Prod.mk.inj g2
          obtain ⟨h4, g4⟩ := Prod.mk.inj g3
          obtain ⟨h5, g5⟩ := Prod.mk.inj g4
          subst h1
          subst h2
          subst h3
          subst h4
          subst h5
          subst g5
          replace hP := zsub (wn := (mW q v cJ V_60 ib_56 dn_61 rf_62 mk th_50)) hP [0, 1] rfl
          replace hD := hD.sub (ws' := (mW q v cJ V_60 ib_56 dn_61 rf_62 mk th_50)) [0, 1] (by decide) rfl
          refine W.widen (k := 3) (n := 363) (by decide) (by decide) ?_
          exact W.iret (v := r59) hx hb hr (fun t ht hW => ⟨⟨r59, (), rfl, rfl, by rw [ht]; exact hP, va_K.moved hW.alike hK, hD⟩, hS.F ht⟩) hS.2.2 dX9_make_94
        · replace h := zif_fn h c36
          refine lv_aload_n hx hb dX9_make_39 rfl (lv_at hl 0 rfl) ?_
          refine lv_aload_n hx hb dX9_make_40 rfl (lv_at hl 0 rfl) ?_
          refine lv_iload_n hx hb dX9_make_41 rfl (lv_at hl 1 rfl) ?_
          obtain ⟨r64, e65, h⟩ := zb1_some h
          refine zgon (va_runV (As := [.int p0]) (rest := [.ref q, .ref q]) ⟨hx, hb, hml, hown, hts⟩ (c_X9_of l D q v cJ cI cO cB V ib dn rf mk th_50 F p0 r64 e65 H.size) (cwV 1 hts gX9_make_X9_of rfl rfl rfl hdV_X9_of ⟨Nat.le_of_ble_eq_true rfl, Nat.le_of_ble_eq_true rfl⟩) (zpreV (q0 := 0) (ci := 9) (T := TX9) (N := 6) hK hP hD rfl rfl [.int p0]) rfl rfl hl.1 rfl (lv_room (Nat.le_of_ble_eq_true rfl)) dX9_make_42 ⟨Nat.le_of_ble_eq_true rfl, Nat.le_of_ble_eq_true rfl⟩) (zfree hD hS hA) (fun _ => zjW hD hS hA) hS (fun w66 H locs hP hD hS => ?_)
          replace hP : va_P D vwCl (mW q v cJ V ib dn rf mk th_50 ++ ([(w66, .inl (cJ, 121, .inr (.inl r64)))])) H := hP
          replace hD : va_D A (mW q v cJ V ib dn rf mk th_50 ++ ([(w66, .inl (cJ, 121, .inr (.inl r64)))])) := hD
          obtain ⟨r67, e68, h⟩ := zb1_some h
          refine zgoi (va_runV (As := [.ref w66]) (rest := [.ref q]) ⟨hx, hb, hml, hown, hts⟩ (c_X9_hasInverse l D q v cJ cI cO cB V ib dn rf mk th_50 w66 r64 r67 e68 H.size) (cwV 1 hts gX9_make_X9_hasInverse rfl rfl rfl hdV_X9_hasInverse ⟨Nat.le_of_ble_eq_true rfl, Nat.le_of_ble_eq_true rfl⟩) (zpreV (q0 := 0) (ci := 9) (T := TX9) (N := 6) hK hP hD rfl rfl [.ref w66]) rfl rfl hl.1 rfl (lv_room (Nat.le_of_ble_eq_true rfl)) dX9_make_45 ⟨Nat.le_of_ble_eq_true rfl, Nat.le_of_ble_eq_true rfl⟩) (zfree hD hS hA) (zjW hD hS hA) hS (fun H locs hP hD hS => ?_)
          replace hP : va_P D vwCl (mW q v cJ V ib dn rf mk th_50 ++ ([(w66, .inl (cJ, 121, .inr (.inl r64)))])) H := hP
          replace hD : va_D A (mW q v cJ V ib dn rf mk th_50 ++ ([(w66, .inl (cJ, 121, .inr (.inl r64)))])) := hD
          refine lv_if_ne (tgt := 55) hx hb dX9_make_48 (by decide) (fun c48 => ?_) (fun c48 => ?_)
          · replace h := zif_t h c48
            refine lv_iconst (v := (0 : Int32)) hx hb dX9_make_55 (by decide) ?_
            refine va_put (D := D) (ci := 9) (v := .int (z01 false)) (ty := .boolean) (C := RX9) (T := TX9) (N := 6) hx hb hts kwX9 tyX9 tyX9_ok nmX9 hown hK hP hD hS 0 rfl rfl 1 (by decide) kf_36 (fun _ h9 => h9) rfl rfl (z01_nar false) (z01_fit false) (Nat.le_of_ble_eq_true rfl) dX9_make_56 (fun H locs hP hD hS => ?_)
            replace hP : va_P D vwCl (mW q v cJ V false dn rf mk th_50 ++ ([(w66, .inl (cJ, 121, .inr (.inl r64)))])) H := hP
            replace hD : va_D A (mW q v cJ V false dn rf mk th_50 ++ ([(w66, .inl (cJ, 121, .inr (.inl r64)))])) := hD
            refine lv_aload_n hx hb dX9_make_59 rfl (lv_at hl 0 rfl) ?_
            refine va_get (D := D) (ci := 9) (v := .int (0 : Int32)) (C := RX9) (T := TX9) (N := 6) hx hb hts kwX9 hown hK hP 0 rfl rfl 1 (by decide) kf_36 (fun _ h9 => h9) rfl dX9_make_60 ?_
            refine lv_if_eq (tgt := 79) hx hb dX9_make_63 (by decide) (fun _ => ?_) (fun c => absurd (by decide) c)
            refine lv_aload_n hx hb dX9_make_79 rfl (lv_at hl 0 rfl) ?_
            refine lv_iload_n hx hb dX9_make_80 rfl (lv_at hl 3 rfl) ?_
            refine lv_aload_n hx hb dX9_make_81 rfl (lv_at hl 0 rfl) ?_
            refine lv_aload_n hx hb dX9_make_82 rfl (lv_at hl 0 rfl) ?_
            refine lv_iload_n hx hb dX9_make_83 rfl (lv_at hl 1 rfl) ?_
            obtain ⟨r69, e70, h⟩ := zb1_some h
            have hPc := zsub (wn := (mW q v cJ V false dn rf mk th_50)) hP [0, 1] rfl
            have hDc := hD.sub (ws' := (mW q v cJ V false dn rf mk th_50)) [0, 1] (by decide) rfl
            refine zgon (va_runV (As := [.int p0]) (rest := [.ref q, .int p2, .ref q]) ⟨hx, hb, hml, hown, hts⟩ (c_X9_of l D q v cJ cI cO cB V false dn rf mk th_50 F p0 r69 e70 H.size) (cwV 1 hts gX9_make_X9_of rfl rfl rfl hdV_X9_of ⟨Nat.le_of_ble_eq_true rfl, Nat.le_of_ble_eq_true rfl⟩) (zpreV (q0 := 0) (ci := 9) (T := TX9) (N := 6) hK hPc hDc rfl rfl [.int p0]) rfl rfl hl.1 rfl (lv_room (Nat.le_of_ble_eq_true rfl)) dX9_make_84 ⟨Nat.le_of_ble_eq_true rfl, Nat.le_of_ble_eq_true rfl⟩) (va_free hD hS hA [0, 1] rfl) (fun w71 => (zjs (wn := (mW q v cJ V false dn rf mk th_50 ++ ([(w66, .inl (cJ, 121, .inr (.inl r64))), (w71, .inl (cJ, 121, .inr (.inl r69)))]))) [1, 2, 0, 3] (zjF (wr := ([(w66, .inl (cJ, 121, .inr (.inl r64)))] : va_W)) hP hD hS hA [0, 1] [2] rfl rfl (by decide) (by decide)) rfl (by decide))) hS (fun w71 H locs hP hD hS => ?_)
            replace hP : va_P D vwCl (mW q v cJ V false dn rf mk th_50 ++ ([(w66, .inl (cJ, 121, .inr (.inl r64))), (w71, .inl (cJ, 121, .inr (.inl r69)))])) H := hP
            replace hD : va_D A (mW q v cJ V false dn rf mk th_50 ++ ([(w66, .inl (cJ, 121, .inr (.inl r64))), (w71, .inl (cJ, 121, .inr (.inl r69)))])) := hD
            refine lv_iload_n hx hb dX9_make_87 rfl (lv_at hl 2 rfl) ?_
            obtain ⟨r72, ib_73, e74, h⟩ := zb2_some h
            have hPc := zsub (wn := (mW q v cJ V false dn rf mk th_50 ++ ([(w71, .inl (cJ, 121, .inr (.inl r69)))]))) hP [0, 1, 3] rfl
            have hDc := hD.sub (ws' := (mW q v cJ V false dn rf mk th_50 ++ ([(w71, .inl (cJ, 121, .inr (.inl r69)))]))) [0, 1, 3] (by decide) rfl
            refine zgon (va_runV (As := [.ref w71, .int p1]) (rest := [.int p2, .ref q]) ⟨hx, hb, hml, hown, hts⟩ (c_X9_made l D q v cJ cI cO cB V false dn rf mk th_50 F w71 r69 p1 r72 ib_73 e74 H.size) (cwV 2 hts gX9_make_X9_made rfl rfl rfl hdV_X9_made ⟨Nat.le_of_ble_eq_true rfl, Nat.le_of_ble_eq_true rfl⟩) (zpreV (q0 := 0) (ci := 9) (T := TX9) (N := 6) hK hPc hDc rfl rfl [.ref w71, .int p1]) rfl rfl hl.1 rfl (lv_room (Nat.le_of_ble_eq_true rfl)) dX9_make_88 ⟨Nat.le_of_ble_eq_true rfl, Nat.le_of_ble_eq_true rfl⟩) (va_free hD hS hA [0, 1, 3] rfl) (fun w75 => (zjs (wn := (mW q v cJ V ib_73 dn rf mk th_50 ++ ([(w66, .inl (cJ, 121, .inr (.inl r64))), (w71, .inl (cJ, 121, .inr (.inl r69))), (w75, .inl (cJ, 121, .inr (.inl r72)))]))) [1, 2, 0, 3, 4] (zjF (wr := ([(w66, .inl (cJ, 121, .inr (.inl r64)))] : va_W)) hP hD hS hA [0, 1, 3] [2] rfl rfl (by decide) (by decide)) rfl (by decide))) hS (fun w75 H locs hP hD hS => ?_)
            replace hP : va_P D vwCl (mW q v cJ V ib_73 dn rf mk th_50 ++ ([(w66, .inl (cJ, 121, .inr (.inl r64))), (w71, .inl (cJ, 121, .inr (.inl r69))), (w75, .inl (cJ, 121, .inr (.inl r72)))])) H := hP
            replace hD : va_D A (mW q v cJ V ib_73 dn rf mk th_50 ++ ([(w66, .inl (cJ, 121, .inr (.inl r64))), (w71, .inl (cJ, 121, .inr (.inl r69))), (w75, .inl (cJ, 121, .inr (.inl r72)))])) := hD
            obtain ⟨r76, V_77, dn_78, rf_79, e80, h⟩ := zb4_some h
            have hPc := zsub (wn := (mW q v cJ V ib_73 dn rf mk th_50 ++ ([(w75, .inl (cJ, 121, .inr (.inl r72)))]))) hP [0, 1, 4] rfl
            have hDc := hD.sub (ws' := (mW q v cJ V ib_73 dn rf mk th_50 ++ ([(w75, .inl (cJ, 121, .inr (.inl r72)))]))) [0, 1, 4] (by decide) rfl
            refine zgoi (va_runV (As := [.int p2, .ref w75]) (rest := []) ⟨hx, hb, hml, hown, hts⟩ (c_X9_becomeOrNot l D q v cJ cI cO cB V ib_73 dn rf mk th_50 F p2 w75 r72 r76 V_77 dn_78 rf_79 e80 H.size) (cwV 2 hts gX9_make_X9_becomeOrNot rfl rfl rfl hdV_X9_becomeOrNot ⟨Nat.le_of_ble_eq_true rfl, Nat.le_of_ble_eq_true rfl⟩) (zpreV (q0 := 0) (ci := 9) (T := TX9) (N := 6) hK hPc hDc rfl rfl [.int p2, .ref w75]) rfl rfl hl.1 rfl (lv_room (Nat.le_of_ble_eq_true rfl)) dX9_make_91 ⟨Nat.le_of_ble_eq_true rfl, Nat.le_of_ble_eq_true rfl⟩) (va_free hD hS hA [0, 1, 4] rfl) (zjs (wn := (mW q v cJ V_77 ib_73 dn_78 rf_79 mk th_50 ++ ([(w66, .inl (cJ, 121, .inr (.inl r64))), (w71, .inl (cJ, 121, .inr (.inl r69))), (w75, .inl (cJ, 121, .inr (.inl r72)))]))) [2, 3, 0, 1, 4] (zjF (wr := ([(w66, .inl (cJ, 121, .inr (.inl r64))), (w71, .inl (cJ, 121, .inr (.inl r69)))] : va_W)) hP hD hS hA [0, 1, 4] [2, 3] rfl rfl (by decide) (by decide)) rfl (by decide)) hS (fun H locs hP hD hS => ?_)
            replace hP : va_P D vwCl (mW q v cJ V_77 ib_73 dn_78 rf_79 mk th_50 ++ ([(w66, .inl (cJ, 121, .inr (.inl r64))), (w71, .inl (cJ, 121, .inr (.inl r69))), (w75, .inl (cJ, 121, .inr (.inl r72)))])) H := hP
            replace hD : va_D A (mW q v cJ V_77 ib_73 dn_78 rf_79 mk th_50 ++ ([(w66, .inl (cJ, 121, .inr (.inl r64))), (w71, .inl (cJ, 121, .inr (.inl r69))), (w75, .inl (cJ, 121, .inr (.inl r72)))])) := hD
            have g0 := Option.some.inj h
            obtain ⟨h1, g1⟩ := Prod.mk.inj g0
            obtain ⟨h2, g2⟩ := Prod.mk.inj g1
            obtain ⟨h3, g3⟩ := Prod.mk.inj g2
            obtain ⟨h4, g4⟩ := Prod.mk.inj g3
            obtain ⟨h5, g5⟩ := Prod.mk.inj g4
            subst h1
            subst h2
            subst h3
            subst h4
            subst h5
            subst g5
            replace hP := zsub (wn := (mW q v cJ V_77 ib_73 dn_78 rf_79 mk th_50)) hP [0, 1] rfl
            replace hD := hD.sub (ws' := (mW q v cJ V_77 ib_73 dn_78 rf_79 mk th_50)) [0, 1] (by decide) rfl
            exact W.iret (v := r76) hx hb hr (fun t ht hW => ⟨⟨r76, (), rfl, rfl, by rw [ht]; exact hP, va_K.moved hW.alike hK, hD⟩, hS.F ht⟩) hS.2.2 dX9_make_94
          · replace h := zif_fn h c48
            refine lv_iconst (v := (1 : Int32)) hx hb dX9_make_51 (by decide) ?_
            refine lv_goto (tgt := 56) hx hb dX9_make_52 (by decide) ?_
            refine va_put (D := D) (ci := 9) (v := .int (z01 true)) (ty := .boolean) (C := RX9) (T := TX9) (N := 6) hx hb hts kwX9 tyX9 tyX9_ok nmX9 hown hK hP hD hS 0 rfl rfl 1 (by decide) kf_36 (fun _ h9 => h9) rfl rfl (z01_nar true) (z01_fit true) (Nat.le_of_ble_eq_true rfl) dX9_make_56 (fun H locs hP hD hS => ?_)
            replace hP : va_P D vwCl (mW q v cJ V true dn rf mk th_50 ++ ([(w66, .inl (cJ, 121, .inr (.inl r64)))])) H := hP
            replace hD : va_D A (mW q v cJ V true dn rf mk th_50 ++ ([(w66, .inl (cJ, 121, .inr (.inl r64)))])) := hD
            refine lv_aload_n hx hb dX9_make_59 rfl (lv_at hl 0 rfl) ?_
            refine va_get (D := D) (ci := 9) (v := .int (1 : Int32)) (C := RX9) (T := TX9) (N := 6) hx hb hts kwX9 hown hK hP 0 rfl rfl 1 (by decide) kf_36 (fun _ h9 => h9) rfl dX9_make_60 ?_
            refine lv_if_eq (tgt := 79) hx hb dX9_make_63 (by decide) (fun c => absurd c (by decide)) (fun _ => ?_)
            refine lv_aload_n hx hb dX9_make_66 rfl (lv_at hl 0 rfl) ?_
            refine lv_iload_n hx hb dX9_make_67 rfl (lv_at hl 3 rfl) ?_
            refine lv_aload_n hx hb dX9_make_68 rfl (lv_at hl 0 rfl) ?_
            refine lv_iload_n hx hb dX9_make_69 rfl (lv_at hl 3 rfl) ?_
            obtain ⟨r81, e82, h⟩ := zb1_some h
            have hPc := zsub (wn := (mW q v cJ V true dn rf mk th_50)) hP [0, 1] rfl
            have hDc := hD.sub (ws' := (mW q v cJ V true dn rf mk th_50)) [0, 1] (by decide) rfl
            refine zgon (va_runV (As := [.int p2]) (rest := [.int p2, .ref q]) ⟨hx, hb, hml, hown, hts⟩ (c_X9_of l D q v cJ cI cO cB V true dn rf mk th_50 F p2 r81 e82 H.size) (cwV 1 hts gX9_make_X9_of rfl rfl rfl hdV_X9_of ⟨Nat.le_of_ble_eq_true rfl, Nat.le_of_ble_eq_true rfl⟩) (zpreV (q0 := 0) (ci := 9) (T := TX9) (N := 6) hK hPc hDc rfl rfl [.int p2]) rfl rfl hl.1 rfl (lv_room (Nat.le_of_ble_eq_true rfl)) dX9_make_70 ⟨Nat.le_of_ble_eq_true rfl, Nat.le_of_ble_eq_true rfl⟩) (va_free hD hS hA [0, 1] rfl) (fun w83 => (zjs (wn := (mW q v cJ V true dn rf mk th_50 ++ ([(w66, .inl (cJ, 121, .inr (.inl r64))), (w83, .inl (cJ, 121, .inr (.inl r81)))]))) [1, 2, 0, 3] (zjF (wr := ([(w66, .inl (cJ, 121, .inr (.inl r64)))] : va_W)) hP hD hS hA [0, 1] [2] rfl rfl (by decide) (by decide)) rfl (by decide))) hS (fun w83 H locs hP hD hS => ?_)
            replace hP : va_P D vwCl (mW q v cJ V true dn rf mk th_50 ++ ([(w66, .inl (cJ, 121, .inr (.inl r64))), (w83, .inl (cJ, 121, .inr (.inl r81)))])) H := hP
            replace hD : va_D A (mW q v cJ V true dn rf mk th_50 ++ ([(w66, .inl (cJ, 121, .inr (.inl r64))), (w83, .inl (cJ, 121, .inr (.inl r81)))])) := hD
            obtain ⟨r84, V_85, dn_86, rf_87, e88, h⟩ := zb4_some h
            have hPc := zsub (wn := (mW q v cJ V true dn rf mk th_50 ++ ([(w83, .inl (cJ, 121, .inr (.inl r81)))]))) hP [0, 1, 3] rfl
            have hDc := hD.sub (ws' := (mW q v cJ V true dn rf mk th_50 ++ ([(w83, .inl (cJ, 121, .inr (.inl r81)))]))) [0, 1, 3] (by decide) rfl
            refine zgoi (va_runV (As := [.int p2, .ref w83]) (rest := []) ⟨hx, hb, hml, hown, hts⟩ (c_X9_becomeOrNot l D q v cJ cI cO cB V true dn rf mk th_50 F p2 w83 r81 r84 V_85 dn_86 rf_87 e88 H.size) (cwV 2 hts gX9_make_X9_becomeOrNot rfl rfl rfl hdV_X9_becomeOrNot ⟨Nat.le_of_ble_eq_true rfl, Nat.le_of_ble_eq_true rfl⟩) (zpreV (q0 := 0) (ci := 9) (T := TX9) (N := 6) hK hPc hDc rfl rfl [.int p2, .ref w83]) rfl rfl hl.1 rfl (lv_room (Nat.le_of_ble_eq_true rfl)) dX9_make_73 ⟨Nat.le_of_ble_eq_true rfl, Nat.le_of_ble_eq_true rfl⟩) (va_free hD hS hA [0, 1, 3] rfl) (zjs (wn := (mW q v cJ V_85 true dn_86 rf_87 mk th_50 ++ ([(w66, .inl (cJ, 121, .inr (.inl r64))), (w83, .inl (cJ, 121, .inr (.inl r81)))]))) [1, 2, 0, 3] (zjF (wr := ([(w66, .inl (cJ, 121, .inr (.inl r64)))] : va_W)) hP hD hS hA [0, 1, 3] [2] rfl rfl (by decide) (by decide)) rfl (by decide)) hS (fun H locs hP hD hS => ?_)
            replace hP : va_P D vwCl (mW q v cJ V_85 true dn_86 rf_87 mk th_50 ++ ([(w66, .inl (cJ, 121, .inr (.inl r64))), (w83, .inl (cJ, 121, .inr (.inl r81)))])) H := hP
            replace hD : va_D A (mW q v cJ V_85 true dn_86 rf_87 mk th_50 ++ ([(w66, .inl (cJ, 121, .inr (.inl r64))), (w83, .inl (cJ, 121, .inr (.inl r81)))])) := hD
            refine lv_goto (tgt := 94) hx hb dX9_make_76 (by decide) ?_
            have g0 := Option.some.inj h
            obtain ⟨h1, g1⟩ := Prod.mk.inj g0
            obtain ⟨h2, g2⟩ := Prod.mk.inj g1
            obtain ⟨h3, g3⟩ := Prod.mk.inj g2
            obtain ⟨h4, g4⟩ := Prod.mk.inj g3
            obtain ⟨h5, g5⟩ := Prod.mk.inj g4
            subst h1
            subst h2
            subst h3
            subst h4
            subst h5
            subst g5
            replace hP := zsub (wn := (mW q v cJ V_85 true dn_86 rf_87 mk th_50)) hP [0, 1] rfl
            replace hD := hD.sub (ws' := (mW q v cJ V_85 true dn_86 rf_87 mk th_50)) [0, 1] (by decide) rfl
            refine W.widen (k := 3) (n := 363) (by decide) (by decide) ?_
            exact W.iret (v := r84) hx hb hr (fun t ht hW => ⟨⟨r84, (), rfl, rfl, by rw [ht]; exact hP, va_K.moved hW.alike hK, hD⟩, hS.F ht⟩) hS.2.2 dX9_make_94
      · replace h := zif_f h c29
        refine lv_iconst (v := (0 : Int32)) hx hb dX9_make_32 (by decide) ?_
        have g0 := Option.some.inj h
        obtain ⟨h1, g1⟩ := Prod.mk.inj g0
        obtain ⟨h2, g2⟩ := Prod.mk.inj g1
        obtain ⟨h3, g3⟩ := Prod.mk.inj g2
        obtain ⟨h4, g4⟩ := Prod.mk.inj g3
        obtain ⟨h5, g5⟩ := Prod.mk.inj g4
        subst h1
        subst h2
        subst h3
        subst h4
        subst h5
        subst g5
        refine W.widen (k := 3) (n := 363) (by decide) (by decide) ?_
        exact W.iret (v := (0 : Int32)) hx hb hr (fun t ht hW => ⟨⟨(0 : Int32), (), rfl, rfl, by rw [ht]; exact hP, va_K.moved hW.alike hK, hD⟩, hS.F ht⟩) hS.2.2 dX9_make_33

noncomputable def p_X9_half (V : Nat → Int64) (p0 : Int32) (p1 : Int32) (p2 : Bool) : Option (Int32 × Int32) := (zb1 (p_X9_isOne p0) (fun r1 => (zb1 (p_X9_isIn p1 (1 : Int32) (120 : Int32)) (fun r3 => (zb2 (p_X9_isThrown r1 r3) (fun r5 th_6 => (if (z01 r5) = 0 then (zb1 (p_X9_at V p0 p1) (fun r8 => (if (z01 p2) = 0 then (some (((r8 >>> ((0 : Int32).toInt64 &&& 63)).toInt32), th_6)) else (some (((r8 >>> ((32 : Int32).toInt64 &&& 63)).toInt32), th_6))))) else (some ((0 : Int32), th_6)))))))))
theorem hdV_X9_half : yX9_half.cls = RX9 ∧ yX9_half.cls ≠ "java/lang/invoke/MethodHandle" ∧ yX9_half.cls ≠ "java/lang/invoke/VarHandle" ∧ (parseMethodDescriptor yX9_half.desc).map (fun d => d.parameters.length) = some 3 := by decide +kernel
set_option maxHeartbeats 4000000 in
set_option maxRecDepth 100000 in
theorem c_X9_half (l : Launch) (D : va_G) (q v : Nat) (cJ cI cO cB : ClassId) (V : Nat → Int64) (ib : Bool) (dn : Int32) (rf : Int32) (mk : Int32) (th : Int32) (p0 : Int32) (p1 : Int32) (p2 : Bool) (r : Int32) (th' : Int32) (h : p_X9_half V p0 p1 p2 = some (r, th')) : zMi l yX9_half wsX9_half 1 22 0 0 D (zT cJ cI cO cB) [.ref q, .int p0, .int p1, .int (z01 p2)] (mW q v cJ V ib dn rf mk th) (mW q v cJ V ib dn rf mk th') r := by
  intro sz
  delta zQi
  refine Met.ofW (cc := cX9_half) (maxL := 4) (ret := (some .int)) (by decide) rfl ?_
  intro p e s m args below meth c s₁ B hml hv
  obtain ⟨rfl, hsz, hP, hK, hD0⟩ := hv
  have hx := B.exec
  have hb := B.bytes
  have hr := B.returns
  have hts := atoms_spec (ws := wsX9_half) B.pre
  have hown : s.vm.findClass RX9 = some m.cls := findClass_of_methodNamed B.named
  have hlocks := B.notSynchronized
  subst hsz
  have hD := hD0.self (sz := s.heap.size)
  generalize hAe : va_A (mW q v cJ V ib dn rf mk th) s.heap.size = A at hD ⊢
  have hA : ∀ q : Nat, s.heap.size ≤ q → A q := fun q h => by rw [← hAe]; exact Or.inr h
  have hS : va_S A s.heap s.heap [] := va_S.rf
  have hl := lv_entry ([.ref q, .int p0, .int p1, .int (z01 p2)]) (n := 4) (Nat.le_of_ble_eq_true rfl)
  rw [lg_entry_eq]
  generalize (lg_sl ([.ref q, .int p0, .int p1, .int (z01 p2)]) ++ List.replicate (4 - (lg_sl ([.ref q, .int p0, .int p1, .int (z01 p2)])).length) Slot.unset).toArray = ls at hl ⊢
  replace hl : lv_has ls 4 [(0, .ref q), (1, .int p0), (2, .int p1), (3, .int (z01 p2))] := hl
  replace h : (zb1 (p_X9_isOne p0) (fun r1 => (zb1 (p_X9_isIn p1 (1 : Int32) (120 : Int32)) (fun r3 => (zb2 (p_X9_isThrown r1 r3) (fun r5 th_6 => (if (z01 r5) = 0 then (zb1 (p_X9_at V p0 p1) (fun r8 => (if (z01 p2) = 0 then (some (((r8 >>> ((0 : Int32).toInt64 &&& 63)).toInt32), th_6)) else (some (((r8 >>> ((32 : Int32).toInt64 &&& 63)).toInt32), th_6))))) else (some ((0 : Int32), th_6))))))))) = some (r, th') := h
  obtain ⟨H, hHe⟩ : ∃ H, H = s.heap := ⟨_, rfl⟩
  rw [← hHe] at hP
  replace hS : va_S A s.heap H [] := by rw [hHe]; exact hS
  refine zheap hHe ?_
  refine lv_aload_n hx hb dX9_half_0 rfl (lv_at hl 0 rfl) ?_
  refine lv_iload_n hx hb dX9_half_1 rfl (lv_at hl 1 rfl) ?_
  obtain ⟨r1, e2, h⟩ := zb1_some h
  refine zgoi (va_runS (As := [.int p0]) (rest := [.ref q]) ⟨hx, hb, hml, hown, hts⟩ (c_X9_isOne l D (zT cJ cI cO cB) p0 r1 e2 H.size) (va_cwS 1 hts gX9_half_X9_isOne rfl rfl rfl hdS_X9_isOne ⟨Nat.le_of_ble_eq_true rfl, Nat.le_of_ble_eq_true rfl⟩) (zpreS hK zP0 (zD0 (A := A)) [.int p0]) rfl rfl hl.1 rfl (lv_room (Nat.le_of_ble_eq_true rfl)) dX9_half_2 ⟨Nat.le_of_ble_eq_true rfl, Nat.le_of_ble_eq_true rfl⟩) (zf0 hS hA) (zjE hP hD) hS (fun H locs hP hD hS => ?_)
  refine lv_iload_n hx hb dX9_half_5 rfl (lv_at hl 2 rfl) ?_
  refine lv_iconst (v := (1 : Int32)) hx hb dX9_half_6 (by decide) ?_
  refine lv_bipush (v := (120 : Int32)) hx hb dX9_half_7 (by decide) ?_
  obtain ⟨r3, e4, h⟩ := zb1_some h
  refine zgoi (va_runS (As := [.int p1, .int (1 : Int32), .int (120 : Int32)]) (rest := [.int (z01 r1), .ref q]) ⟨hx, hb, hml, hown, hts⟩ (c_X9_isIn l D (zT cJ cI cO cB) p1 (1 : Int32) (120 : Int32) r3 e4 H.size) (va_cwS 3 hts gX9_half_X9_isIn rfl rfl rfl hdS_X9_isIn ⟨Nat.le_of_ble_eq_true rfl, Nat.le_of_ble_eq_true rfl⟩) (zpreS hK zP0 (zD0 (A := A)) [.int p1, .int (1 : Int32), .int (120 : Int32)]) rfl rfl hl.1 rfl (lv_room (Nat.le_of_ble_eq_true rfl)) dX9_half_9 ⟨Nat.le_of_ble_eq_true rfl, Nat.le_of_ble_eq_true rfl⟩) (zf0 hS hA) (zjE hP hD) hS (fun H locs hP hD hS => ?_)
  obtain ⟨r5, th_6, e7, h⟩ := zb2_some h
  refine zgoi (va_runV (As := [.int (z01 r1), .int (z01 r3)]) (rest := []) ⟨hx, hb, hml, hown, hts⟩ (c_X9_isThrown l D q v cJ cI cO cB V ib dn rf mk th r1 r3 r5 th_6 e7 H.size) (cwV 2 hts gX9_half_X9_isThrown rfl rfl rfl hdV_X9_isThrown ⟨Nat.le_of_ble_eq_true rfl, Nat.le_of_ble_eq_true rfl⟩) (zpreV (q0 := 0) (ci := 9) (T := TX9) (N := 6) hK hP hD rfl rfl [.int (z01 r1), .int (z01 r3)]) rfl rfl hl.1 rfl (lv_room (Nat.le_of_ble_eq_true rfl)) dX9_half_12 ⟨Nat.le_of_ble_eq_true rfl, Nat.le_of_ble_eq_true rfl⟩) (zfree hD hS hA) (zjW hD hS hA) hS (fun H locs hP hD hS => ?_)
  replace hP : va_P D vwCl (mW q v cJ V ib dn rf mk th_6) H := hP
  replace hD : va_D A (mW q v cJ V ib dn rf mk th_6) := hD
  refine lv_if_eq (tgt := 22) hx hb dX9_half_15 (by decide) (fun c15 => ?_) (fun c15 => ?_)
  · replace h := zif_t h c15
    refine lv_aload_n hx hb dX9_half_22 rfl (lv_at hl 0 rfl) ?_
    refine lv_iload_n hx hb dX9_half_23 rfl (lv_at hl 1 rfl) ?_
    refine lv_iload_n hx hb dX9_half_24 rfl (lv_at hl 2 rfl) ?_
    obtain ⟨r8, e9, h⟩ := zb1_some h
    refine zgol (va_runV (As := [.int p0, .int p1]) (rest := []) ⟨hx, hb, hml, hown, hts⟩ (c_X9_at l D q v cJ cI cO cB V ib dn rf mk th_6 p0 p1 r8 e9 H.size) (cwV 2 hts gX9_half_X9_at rfl rfl rfl hdV_X9_at ⟨Nat.le_of_ble_eq_true rfl, Nat.le_of_ble_eq_true rfl⟩) (zpreV (q0 := 0) (ci := 9) (T := TX9) (N := 6) hK hP hD rfl rfl [.int p0, .int p1]) rfl rfl hl.1 rfl (lv_room (Nat.le_of_ble_eq_true rfl)) dX9_half_25 ⟨Nat.le_of_ble_eq_true rfl, Nat.le_of_ble_eq_true rfl⟩) (zfree hD hS hA) (zjW hD hS hA) hS (fun H locs hP hD hS => ?_)
    replace hP : va_P D vwCl (mW q v cJ V ib dn rf mk th_6) H := hP
    replace hD : va_D A (mW q v cJ V ib dn rf mk th_6) := hD
    refine lv_iload_n hx hb dX9_half_28 rfl (lv_at hl 3 rfl) ?_
    refine lv_if_eq (tgt := 37) hx hb dX9_half_29 (by decide) (fun c29 => ?_) (fun c29 => ?_)
    · replace h := zif_t h c29
      refine lv_iconst (v := (0 : Int32)) hx hb dX9_half_37 (by decide) ?_
      refine lv_lshr (v := (r8 >>> ((0 : Int32).toInt64 &&& 63))) hx hb dX9_half_38 rfl ?_
      refine lv_l2i (v := (r8 >>> ((0 : Int32).toInt64 &&& 63)).toInt32) hx hb dX9_half_39 rfl ?_
      have g0 := Option.some.inj h
      obtain ⟨h1, g1⟩ := Prod.mk.inj g0
      subst h1
      subst g1
      exact W.iret (v := ((r8 >>> ((0 : Int32).toInt64 &&& 63)).toInt32)) hx hb hr (fun t ht hW => ⟨⟨((r8 >>> ((0 : Int32).toInt64 &&& 63)).toInt32), (), rfl, rfl, by rw [ht]; exact hP, va_K.moved hW.alike hK, hD⟩, hS.F ht⟩) hS.2.2 dX9_half_40
    · replace h := zif_f h c29
      refine lv_bipush (v := (32 : Int32)) hx hb dX9_half_32 (by decide) ?_
      refine lv_goto (tgt := 38) hx hb dX9_half_34 (by decide) ?_
      refine lv_lshr (v := (r8 >>> ((32 : Int32).toInt64 &&& 63))) hx hb dX9_half_38 rfl ?_
      refine lv_l2i (v := (r8 >>> ((32 : Int32).toInt64 &&& 63)).toInt32) hx hb dX9_half_39 rfl ?_
      have g0 := Option.some.inj h
      obtain ⟨h1, g1⟩ := Prod.mk.inj g0
      subst h1
      subst g1
      exact W.iret (v := ((r8 >>> ((32 : Int32).toInt64 &&& 63)).toInt32)) hx hb hr (fun t ht hW => ⟨⟨((r8 >>> ((32 : Int32).toInt64 &&& 63)).toInt32), (), rfl, rfl, by rw [ht]; exact hP, va_K.moved hW.alike hK, hD⟩, hS.F ht⟩) hS.2.2 dX9_half_40
  · replace h := zif_f h c15
    refine lv_iconst (v := (0 : Int32)) hx hb dX9_half_18 (by decide) ?_
    refine lv_goto (tgt := 40) hx hb dX9_half_19 (by decide) ?_
    have g0 := Option.some.inj h
    obtain ⟨h1, g1⟩ := Prod.mk.inj g0
    subst h1
    subst g1
    exact W.iret (v := (0 : Int32)) hx hb hr (fun t ht hW => ⟨⟨(0 : Int32), (), rfl, rfl, by rw [ht]; exact hP, va_K.moved hW.alike hK, hD⟩, hS.F ht⟩) hS.2.2 dX9_half_40

noncomputable def p_X9_differ_L0 (F : Nat) (V : Nat → Int64) (ib : Bool) (dn : Int32) (rf : Int32) (mk : Int32) (p0 : Int32) (p1 : Int32) (th_4 : Int32) (k : Int32 → Option (Int32 × (Nat → Int64) × Bool × Int32 × Int32 × Int32 × Int32)) : Nat → Int32 → Option (Int32 × (Nat → Int64) × Bool × Int32 × Int32 × Int32 × Int32)
  | 0, _ => none
  | n + 1, v3_0 => (if (120 : Int32) < v3_0 then (k v3_0) else (zb1 (p_X9_at V p0 v3_0) (fun r6 => (zb1 (p_X9_at V p1 v3_0) (fun r8 => (if (lg_cmp r6 r8) = 0 then (p_X9_differ_L0 F V ib dn rf mk p0 p1 th_4 k n (v3_0 + (1 : Int32))) else (some (v3_0, V, ib, dn, rf, mk, th_4))))))))
noncomputable def p_X9_differ_L1 (F : Nat) (V : Nat → Int64) (ib : Bool) (dn : Int32) (rf : Int32) (mk : Int32) (p0 : Int32) (p1 : Int32) (th_13 : Int32) (k : Int32 → Option (Int32 × (Nat → Int64) × Bool × Int32 × Int32 × Int32 × Int32)) : Nat → Int32 → Option (Int32 × (Nat → Int64) × Bool × Int32 × Int32 × Int32 × Int32)
  | 0, _ => none
  | n + 1, v3_1 => (if (120 : Int32) < v3_1 then (k v3_1) else (zb1 (p_X9_at V p0 v3_1) (fun r15 => (zb1 (p_X9_at V p1 v3_1) (fun r17 => (if (lg_cmp r15 r17) = 0 then (p_X9_differ_L1 F V ib dn rf mk p0 p1 th_13 k n (v3_1 + (1 : Int32))) else (some (v3_1, V, ib, dn, rf, mk, th_13))))))))
noncomputable def p_X9_differ (F : Nat) (V : Nat → Int64) (ib : Bool) (dn : Int32) (rf : Int32) (mk : Int32) (p0 : Int32) (p1 : Int32) : Option (Int32 × (Nat → Int64) × Bool × Int32 × Int32 × Int32 × Int32) := (zb1 (p_X9_isOne p0) (fun r1 => (zlt (zb2 (p_X9_isThrown false true) (fun r3 th_4 => (if (z01 r3) = 0 then (p_X9_differ_L0 F V ib dn rf mk p0 p1 th_4 (fun v3_0 => (some ((-1 : Int32), V, ib, dn, rf, mk, th_4))) F (1 : Int32)) else (some ((0 : Int32), V, ib, dn, rf, mk, th_4))))) (fun jf0 => (if (z01 r1) = 0 then (jf0 ) else (zb1 (p_X9_isOne p1) (fun r10 => (if (z01 r10) = 0 then (jf0 ) else (zb2 (p_X9_isThrown true true) (fun r12 th_13 => (if (z01 r12) = 0 then (p_X9_differ_L1 F V ib dn rf mk p0 p1 th_13 (fun v3_1 => (some ((-1 : Int32), V, ib, dn, rf, mk, th_13))) F (1 : Int32)) else (some ((0 : Int32), V, ib, dn, rf, mk, th_13)))))))))))))
theorem hdV_X9_differ : yX9_differ.cls = RX9 ∧ yX9_differ.cls ≠ "java/lang/invoke/MethodHandle" ∧ yX9_differ.cls ≠ "java/lang/invoke/VarHandle" ∧ (parseMethodDescriptor yX9_differ.desc).map (fun d => d.parameters.length) = some 2 := by decide +kernel
set_option maxHeartbeats 4000000 in
set_option maxRecDepth 100000 in
theorem c_X9_differ (l : Launch) (D : va_G) (q v : Nat) (cJ cI cO cB : ClassId) (V : Nat → Int64) (ib : Bool) (dn : Int32) (rf : Int32) (mk : Int32) (th : Int32) (F : Nat) (p0 : Int32) (p1 : Int32) (r : Int32) (V' : Nat → Int64) (ib' : Bool) (dn' : Int32) (rf' : Int32) (mk' : Int32) (th' : Int32) (h : p_X9_differ F V ib dn rf mk p0 p1 = some (r, V', ib', dn', rf', mk', th')) : zMi l yX9_differ wsX9_differ 1 22 0 0 D (zT cJ cI cO cB) [.ref q, .int p0, .int p1] (mW q v cJ V ib dn rf mk th) (mW q v cJ V' ib' dn' rf' mk' th') r := by
  intro sz
  delta zQi
  refine Met.ofW (cc := cX9_differ) (maxL := 4) (ret := (some .int)) (by decide) rfl ?_
  intro p e s m args below meth c s₁ B hml hv
  obtain ⟨rfl, hsz, hP, hK, hD0⟩ := hv
  have hx := B.exec
  have hb := B.bytes
  have hr := B.returns
  have hts := atoms_spec (ws := wsX9_differ) B.pre
  have hown : s.vm.findClass RX9 = some m.cls := findClass_of_methodNamed B.named
  have hlocks := B.notSynchronized
  subst hsz
  have hD := hD0.self (sz := s.heap.size)
  generalize hAe : va_A (mW q v cJ V ib dn rf mk th) s.heap.size = A at hD ⊢
  have hA : ∀ q : Nat, s.heap.size ≤ q → A q := fun q h => by rw [← hAe]; exact Or.inr h
  have hS : va_S A s.heap s.heap [] := va_S.rf
  have hl := lv_entry ([.ref q, .int p0, .int p1]) (n := 4) (Nat.le_of_ble_eq_true rfl)
  rw [lg_entry_eq]
  generalize (lg_sl ([.ref q, .int p0, .int p1]) ++ List.replicate (4 - (lg_sl ([.ref q, .int p0, .int p1])).length) Slot.unset).toArray = ls at hl ⊢
  replace hl : lv_has ls 4 [(0, .ref q), (1, .int p0), (2, .int p1)] := hl
  replace h : (zb1 (p_X9_isOne p0) (fun r1 => (zlt (zb2 (p_X9_isThrown false true) (fun r3 th_4 => (if (z01 r3) = 0 then (p_X9_differ_L0 F V ib dn rf mk p0 p1 th_4 (fun v3_0 => (some ((-1 : Int32), V, ib, dn, rf, mk, th_4))) F (1 : Int32)) else (some ((0 : Int32), V, ib, dn, rf, mk, th_4))))) (fun jf0 => (if (z01 r1) = 0 then (jf0 ) else (zb1 (p_X9_isOne p1) (fun r10 => (if (z01 r10) = 0 then (jf0 ) else (zb2 (p_X9_isThrown true true) (fun r12 th_13 => (if (z01 r12) = 0 then (p_X9_differ_L1 F V ib dn rf mk p0 p1 th_13 (fun v3_1 => (some ((-1 : Int32), V, ib, dn, rf, mk, th_13))) F (1 : Int32)) else (some ((0 : Int32), V, ib, dn, rf, mk, th_13))))))))))))) = some (r, V', ib', dn', rf', mk', th') := h
  refine zabs (fun G hG hGW => ?_)
  obtain ⟨H, hHe⟩ : ∃ H, H = s.heap := ⟨_, rfl⟩
  rw [← hHe] at hP
  replace hS : va_S A s.heap H [] := by rw [hHe]; exact hS
  refine zheap hHe ?_
  refine lv_aload_n hx hb dX9_differ_0 rfl (lv_at hl 0 rfl) ?_
  refine lv_iload_n hx hb dX9_differ_1 rfl (lv_at hl 1 rfl) ?_
  obtain ⟨r1, e2, h⟩ := zb1_some h
  refine zgoi (va_runS (As := [.int p0]) (rest := [.ref q]) ⟨hx, hb, hml, hown, hts⟩ (c_X9_isOne l D (zT cJ cI cO cB) p0 r1 e2 H.size) (va_cwS 1 hts gX9_differ_X9_isOne rfl rfl rfl hdS_X9_isOne ⟨Nat.le_of_ble_eq_true rfl, Nat.le_of_ble_eq_true rfl⟩) (zpreS hK zP0 (zD0 (A := A)) [.int p0]) rfl rfl hl.1 rfl (lv_room (Nat.le_of_ble_eq_true rfl)) dX9_differ_2 ⟨Nat.le_of_ble_eq_true rfl, Nat.le_of_ble_eq_true rfl⟩) (zf0 hS hA) (zjE hP hD) hS (fun H locs hP hD hS => ?_)
  have J0 : ∀  (H : Heap) (locs : List Loc) (ls : Array Slot), va_P D vwCl (mW q v cJ V ib dn rf mk th) H → va_D A (mW q v cJ V ib dn rf mk th) → va_S A s.heap H locs → lv_has ls 4 [(0, .ref q), (1, .int p0), (2, .int p1)] → (zb2 (p_X9_isThrown false true) (fun r3 th_4 => (if (z01 r3) = 0 then (p_X9_differ_L0 F V ib dn rf mk p0 p1 th_4 (fun v3_0 => (some ((-1 : Int32), V, ib, dn, rf, mk, th_4))) F (1 : Int32)) else (some ((0 : Int32), V, ib, dn, rf, mk, th_4))))) = some (r, V', ib', dn', rf', mk', th') → G H locs 0 0 (F0 m 19 ls [.ref q]) := by
    intro  H locs ls hP hD hS hl h
    refine hG _ _ _ _ _ ?_
    refine lv_iconst (v := (0 : Int32)) hx hb dX9_differ_19 (by decide) ?_
    refine lv_iconst (v := (1 : Int32)) hx hb dX9_differ_20 (by decide) ?_
    obtain ⟨r3, th_4, e5, h⟩ := zb2_some h
    refine zgoi (va_runV (As := [.int (0 : Int32), .int (1 : Int32)]) (rest := []) ⟨hx, hb, hml, hown, hts⟩ (c_X9_isThrown l D q v cJ cI cO cB V ib dn rf mk th false true r3 th_4 e5 H.size) (cwV 2 hts gX9_differ_X9_isThrown rfl rfl rfl hdV_X9_isThrown ⟨Nat.le_of_ble_eq_true rfl, Nat.le_of_ble_eq_true rfl⟩) (zpreV (q0 := 0) (ci := 9) (T := TX9) (N := 6) hK hP hD rfl rfl [.int (0 : Int32), .int (1 : Int32)]) rfl rfl hl.1 rfl (lv_room (Nat.le_of_ble_eq_true rfl)) dX9_differ_21 ⟨Nat.le_of_ble_eq_true rfl, Nat.le_of_ble_eq_true rfl⟩) (zfree hD hS hA) (zjW hD hS hA) hS (fun H locs hP hD hS => ?_)
    replace hP : va_P D vwCl (mW q v cJ V ib dn rf mk th_4) H := hP
    replace hD : va_D A (mW q v cJ V ib dn rf mk th_4) := hD
    refine lv_if_eq (tgt := 29) hx hb dX9_differ_24 (by decide) (fun c24 => ?_) (fun c24 => ?_)
    · replace h := zif_t h c24
      refine lv_iconst (v := (1 : Int32)) hx hb dX9_differ_29 (by decide) ?_
      refine lv_istore_n (lv' := [(3, .int (1 : Int32)), (0, .ref q), (1, .int p0), (2, .int p1)]) hx hb dX9_differ_30 rfl hl (by decide) rfl (fun ls hl => ?_)
      have X0 : ∀ (v3_0 : Int32) (H : Heap) (locs : List Loc) (ls : Array Slot), va_P D vwCl (mW q v cJ V ib dn rf mk th_4) H → va_D A (mW q v cJ V ib dn rf mk th_4) → va_S A s.heap H locs → lv_has ls 4 [(0, .ref q), (1, .int p0), (2, .int p1), (3, .int v3_0)] → (some ((-1 : Int32), V, ib, dn, rf, mk, th_4)) = some (r, V', ib', dn', rf', mk', th') → G H locs 0 0 (F0 m 61 ls []) := by
        intro v3_0 H locs ls hP hD hS hl h
        refine hG _ _ _ _ _ ?_
        refine lv_iconst (v := (-1 : Int32)) hx hb dX9_differ_61 (by decide) ?_
        have g0 := Option.some.inj h
        obtain ⟨h1, g1⟩ := Prod.mk.inj g0
        obtain ⟨h2, g2⟩ := Prod.mk.inj g1
        obtain ⟨h3, g3⟩ := Prod.mk.inj g2
        obtain ⟨h4, g4⟩ := Prod.mk.inj g3
        obtain ⟨h5, g5⟩ := Prod.mk.inj g4
        obtain ⟨h6, g6⟩ := Prod.mk.inj g5
        subst h1
        subst h2
        subst h3
        subst h4
        subst h5
        subst h6
        subst g6
        exact W.iret (v := (-1 : Int32)) hx hb hr (fun t ht hW => ⟨⟨(-1 : Int32), (), rfl, rfl, by rw [ht]; exact hP, va_K.moved hW.alike hK, hD⟩, hS.F ht⟩) hS.2.2 dX9_differ_62
      have L0 : ∀ (K0 : Int32 → Option (Int32 × (Nat → Int64) × Bool × Int32 × Int32 × Int32 × Int32)) (HX0 : ∀ (v3_0 : Int32) (H : Heap) (locs : List Loc) (ls : Array Slot), va_P D vwCl (mW q v cJ V ib dn rf mk th_4) H → va_D A (mW q v cJ V ib dn rf mk th_4) → va_S A s.heap H locs → lv_has ls 4 [(0, .ref q), (1, .int p0), (2, .int p1), (3, .int v3_0)] → K0 v3_0 = some (r, V', ib', dn', rf', mk', th') → G H locs 0 0 (F0 m 61 ls [])) (fu0 : Nat) (v3_0 : Int32) (H : Heap) (locs : List Loc) (ls : Array Slot), va_P D vwCl (mW q v cJ V ib dn rf mk th_4) H → va_D A (mW q v cJ V ib dn rf mk th_4) → va_S A s.heap H locs → lv_has ls 4 [(0, .ref q), (1, .int p0), (2, .int p1), (3, .int v3_0)] → p_X9_differ_L0 F V ib dn rf mk p0 p1 th_4 K0 fu0 v3_0 = some (r, V', ib', dn', rf', mk', th') → G H locs 0 0 (F0 m 31 ls []) := by
        intro K0 HX0 fu0
        induction fu0 with
        | zero =>
          intro v3_0 H locs ls hP hD hS hl h
          exact (zno h).elim
        | succ fu0 ih0 =>
          intro v3_0 H locs ls hP hD hS hl h
          refine hG _ _ _ _ _ ?_
          unfold p_X9_differ_L0 at h
          refine lv_iload_n hx hb dX9_differ_31 rfl (lv_at hl 3 rfl) ?_
          refine lv_bipush (v := (120 : Int32)) hx hb dX9_differ_32 (by decide) ?_
          refine lv_icmp_gt (tgt := 61) hx hb dX9_differ_34 (by decide) (fun c34 => ?_) (fun c34 => ?_)
          · replace h := zif_t h c34
            exact hGW _ _ _ _ _ (HX0 v3_0 _ _ ls hP hD hS (lv_sub hl [0, 1, 2, 3] rfl) h)
          · replace h := zif_f h c34
            refine lv_aload_n hx hb dX9_differ_37 rfl (lv_at hl 0 rfl) ?_
            refine lv_iload_n hx hb dX9_differ_38 rfl (lv_at hl 1 rfl) ?_
            refine lv_iload_n hx hb dX9_differ_39 rfl (lv_at hl 3 rfl) ?_
            obtain ⟨r6, e7, h⟩ := zb1_some h
            refine zgol (va_runV (As := [.int p0, .int v3_0]) (rest := []) ⟨hx, hb, hml, hown, hts⟩ (c_X9_at l D q v cJ cI cO cB V ib dn rf mk th_4 p0 v3_0 r6 e7 H.size) (cwV 2 hts gX9_differ_X9_at rfl rfl rfl hdV_X9_at ⟨Nat.le_of_ble_eq_true rfl, Nat.le_of_ble_eq_true rfl⟩) (zpreV (q0 := 0) (ci := 9) (T := TX9) (N := 6) hK hP hD rfl rfl [.int p0, .int v3_0]) rfl rfl hl.1 rfl (lv_room (Nat.le_of_ble_eq_true rfl)) dX9_differ_40 ⟨Nat.le_of_ble_eq_true rfl, Nat.le_of_ble_eq_true rfl⟩) (zfree hD hS hA) (zjW hD hS hA) hS (fun H locs hP hD hS => ?_)
            replace hP : va_P D vwCl (mW q v cJ V ib dn rf mk th_4) H := hP
            replace hD : va_D A (mW q v cJ V ib dn rf mk th_4) := hD
            refine lv_aload_n hx hb dX9_differ_43 rfl (lv_at hl 0 rfl) ?_
            refine lv_iload_n hx hb dX9_differ_44 rfl (lv_at hl 2 rfl) ?_
            refine lv_iload_n hx hb dX9_differ_45 rfl (lv_at hl 3 rfl) ?_
            obtain ⟨r8, e9, h⟩ := zb1_some h
            refine zgol (va_runV (As := [.int p1, .int v3_0]) (rest := [.long r6]) ⟨hx, hb, hml, hown, hts⟩ (c_X9_at l D q v cJ cI cO cB V ib dn rf mk th_4 p1 v3_0 r8 e9 H.size) (cwV 2 hts gX9_differ_X9_at rfl rfl rfl hdV_X9_at ⟨Nat.le_of_ble_eq_true rfl, Nat.le_of_ble_eq_true rfl⟩) (zpreV (q0 := 0) (ci := 9) (T := TX9) (N := 6) hK hP hD rfl rfl [.int p1, .int v3_0]) rfl rfl hl.1 rfl (lv_room (Nat.le_of_ble_eq_true rfl)) dX9_differ_46 ⟨Nat.le_of_ble_eq_true rfl, Nat.le_of_ble_eq_true rfl⟩) (zfree hD hS hA) (zjW hD hS hA) hS (fun H locs hP hD hS => ?_)
            replace hP : va_P D vwCl (mW q v cJ V ib dn rf mk th_4) H := hP
            replace hD : va_D A (mW q v cJ V ib dn rf mk th_4) := hD
            refine W.lcmp hx hb dX9_differ_49 ?_
            refine lv_if_eq (tgt := 55) hx hb dX9_differ_50 (by decide) (fun c50 => ?_) (fun c50 => ?_)
            · replace h := zif_t h c50
              refine lv_iinc (v := (v3_0 + (1 : Int32))) (lv' := [(3, .int (v3_0 + (1 : Int32))), (0, .ref q), (1, .int p0), (2, .int p1)]) hx hb dX9_differ_55 hl (k := 3) rfl rfl (by decide) rfl (fun ls hl => ?_)
              refine lv_goto (tgt := 31) hx hb dX9_differ_58 (by decide) ?_
              exact hGW _ _ _ _ _ (ih0 (v3_0 + (1 : Int32)) _ _ ls hP hD hS (lv_sub hl [1, 2, 3, 0] rfl) h)
            · replace h := zif_f h c50
              refine lv_iload_n hx hb dX9_differ_53 rfl (lv_at hl 3 rfl) ?_
              have g0 := Option.some.inj h
              obtain ⟨h1, g1⟩ := Prod.mk.inj g0
              obtain ⟨h2, g2⟩ := Prod.mk.inj g1
              obtain ⟨h3, g3⟩ := Prod.mk.inj g2
              obtain ⟨h4, g4⟩ := Prod.mk.inj g3
              obtain ⟨h5, g5⟩ := Prod.mk.inj g4
              obtain ⟨h6, g6⟩ := Prod.mk.inj g5
              subst h1
              subst h2
              subst h3
              subst h4
              subst h5
              subst h6
              subst g6
              exact W.iret (v := v3_0) hx hb hr (fun t ht hW => ⟨⟨v3_0, (), rfl, rfl, by rw [ht]; exact hP, va_K.moved hW.alike hK, hD⟩, hS.F ht⟩) hS.2.2 dX9_differ_54
      exact hGW _ _ _ _ _ (L0 _ X0 F (1 : Int32) _ _ ls hP hD hS (lv_sub hl [1, 2, 3, 0] rfl) h)
    · replace h := zif_f h c24
      refine lv_iconst (v := (0 : Int32)) hx hb dX9_differ_27 (by decide) ?_
      have g0 := Option.some.inj h
      obtain ⟨h1, g1⟩ := Prod.mk.inj g0
      obtain ⟨h2, g2⟩ := Prod.mk.inj g1
      obtain ⟨h3, g3⟩ := Prod.mk.inj g2
      obtain ⟨h4, g4⟩ := Prod.mk.inj g3
      obtain ⟨h5, g5⟩ := Prod.mk.inj g4
      obtain ⟨h6, g6⟩ := Prod.mk.inj g5
      subst h1
      subst h2
      subst h3
      subst h4
      subst h5
      subst h6
      subst g6
      exact W.iret (v := (0 : Int32)) hx hb hr (fun t ht hW => ⟨⟨(0 : Int32), (), rfl, rfl, by rw [ht]; exact hP, va_K.moved hW.alike hK, hD⟩, hS.F ht⟩) hS.2.2 dX9_differ_28
  replace h := zlt_h h
  refine lv_if_eq (tgt := 19) hx hb dX9_differ_5 (by decide) (fun c5 => ?_) (fun c5 => ?_)
  · replace h := zif_t h c5
    exact hGW _ _ _ _ _ (J0  _ _ ls hP hD hS (lv_sub hl [0, 1, 2] rfl) h)
  · replace h := zif_f h c5
    refine lv_iload_n hx hb dX9_differ_8 rfl (lv_at hl 2 rfl) ?_
    obtain ⟨r10, e11, h⟩ := zb1_some h
    refine zgoi (va_runS (As := [.int p1]) (rest := [.ref q]) ⟨hx, hb, hml, hown, hts⟩ (c_X9_isOne l D (zT cJ cI cO cB) p1 r10 e11 H.size) (va_cwS 1 hts gX9_differ_X9_isOne rfl rfl rfl hdS_X9_isOne ⟨Nat.le_of_ble_eq_true rfl, Nat.le_of_ble_eq_true rfl⟩) (zpreS hK zP0 (zD0 (A := A)) [.int p1]) rfl rfl hl.1 rfl (lv_room (Nat.le_of_ble_eq_true rfl)) dX9_differ_9 ⟨Nat.le_of_ble_eq_true rfl, Nat.le_of_ble_eq_true rfl⟩) (zf0 hS hA) (zjE hP hD) hS (fun H locs hP hD hS => ?_)
    refine lv_if_eq (tgt := 19) hx hb dX9_differ_12 (by decide) (fun c12 => ?_) (fun c12 => ?_)
    · replace h := zif_t h c12
      exact hGW _ _ _ _ _ (J0  _ _ ls hP hD hS (lv_sub hl [0, 1, 2] rfl) h)
    · replace h := zif_f h c12
      refine lv_iconst (v := (1 : Int32)) hx hb dX9_differ_15 (by decide) ?_
      refine lv_goto (tgt := 20) hx hb dX9_differ_16 (by decide) ?_
      refine lv_iconst (v := (1 : Int32)) hx hb dX9_differ_20 (by decide) ?_
      obtain ⟨r12, th_13, e14, h⟩ := zb2_some h
      refine zgoi (va_runV (As := [.int (1 : Int32), .int (1 : Int32)]) (rest := []) ⟨hx, hb, hml, hown, hts⟩ (c_X9_isThrown l D q v cJ cI cO cB V ib dn rf mk th true true r12 th_13 e14 H.size) (cwV 2 hts gX9_differ_X9_isThrown rfl rfl rfl hdV_X9_isThrown ⟨Nat.le_of_ble_eq_true rfl, Nat.le_of_ble_eq_true rfl⟩) (zpreV (q0 := 0) (ci := 9) (T := TX9) (N := 6) hK hP hD rfl rfl [.int (1 : Int32), .int (1 : Int32)]) rfl rfl hl.1 rfl (lv_room (Nat.le_of_ble_eq_true rfl)) dX9_differ_21 ⟨Nat.le_of_ble_eq_true rfl, Nat.le_of_ble_eq_true rfl⟩) (zfree hD hS hA) (zjW hD hS hA) hS (fun H locs hP hD hS => ?_)
      replace hP : va_P D vwCl (mW q v cJ V ib dn rf mk th_13) H := hP
      replace hD : va_D A (mW q v cJ V ib dn rf mk th_13) := hD
      refine lv_if_eq (tgt := 29) hx hb dX9_differ_24 (by decide) (fun c24 => ?_) (fun c24 => ?_)
      · replace h := zif_t h c24
        refine lv_iconst (v := (1 : Int32)) hx hb dX9_differ_29 (by decide) ?_
        refine lv_istore_n (lv' := [(3, .int (1 : Int32)), (0, .ref q), (1, .int p0), (2, .int p1)]) hx hb dX9_differ_30 rfl hl (by decide) rfl (fun ls hl => ?_)
        have X1 : ∀ (v3_1 : Int32) (H : Heap) (locs : List Loc) (ls : Array Slot), va_P D vwCl (mW q v cJ V ib dn rf mk th_13) H → va_D A (mW q v cJ V ib dn rf mk th_13) → va_S A s.heap H locs → lv_has ls 4 [(0, .ref q), (1, .int p0), (2, .int p1), (3, .int v3_1)] → (some ((-1 : Int32), V, ib, dn, rf, mk, th_13)) = some (r, V', ib', dn', rf', mk', th') → G H locs 0 0 (F0 m 61 ls []) := by
          intro v3_1 H locs ls hP hD hS hl h
          refine hG _ _ _ _ _ ?_
          refine lv_iconst (v := (-1 : Int32)) hx hb dX9_differ_61 (by decide) ?_
          have g0 := Option.some.inj h
          obtain ⟨h1, g1⟩ := Prod.mk.inj g0
          obtain ⟨h2, g2⟩ := Prod.mk.inj g1
          obtain ⟨h3, g3⟩ := Prod.mk.inj g2
          obtain ⟨h4, g4⟩ := Prod.mk.inj g3
          obtain ⟨h5, g5⟩ := Prod.mk.inj g4
          obtain ⟨h6, g6⟩ := Prod.mk.inj g5
          subst h1
          subst h2
          subst h3
          subst h4
          subst h5
          subst h6
          subst g6
          exact W.iret (v := (-1 : Int32)) hx hb hr (fun t ht hW => ⟨⟨(-1 : Int32), (), rfl, rfl, by rw [ht]; exact hP, va_K.moved hW.alike hK, hD⟩, hS.F ht⟩) hS.2.2 dX9_differ_62
        have L1 : ∀ (K1 : Int32 → Option (Int32 × (Nat → Int64) × Bool × Int32 × Int32 × Int32 × Int32)) (HX1 : ∀ (v3_1 : Int32) (H : Heap) (locs : List Loc) (ls : Array Slot), va_P D vwCl (mW q v cJ V ib dn rf mk th_13) H → va_D A (mW q v cJ V ib dn rf mk th_13) → va_S A s.heap H locs → lv_has ls 4 [(0, .ref q), (1, .int p0), (2, .int p1), (3, .int v3_1)] → K1 v3_1 = some (r, V', ib', dn', rf', mk', th') → G H locs 0 0 (F0 m 61 ls [])) (fu1 : Nat) (v3_1 : Int32) (H : Heap) (locs : List Loc) (ls : Array Slot), va_P D vwCl (mW q v cJ V ib dn rf mk th_13) H → va_D A (mW q v cJ V ib dn rf mk th_13) → va_S A s.heap H locs → lv_has ls 4 [(0, .ref q), (1, .int p0), (2, .int p1), (3, .int v3_1)] → p_X9_differ_L1 F V ib dn rf mk p0 p1 th_13 K1 fu1 v3_1 = some (r, V', ib', dn', rf', mk', th') → G H locs 0 0 (F0 m 31 ls []) := by
          intro K1 HX1 fu1
          induction fu1 with
          | zero =>
            intro v3_1 H locs ls hP hD hS hl h
            exact (zno h).elim
          | succ fu1 ih1 =>
            intro v3_1 H locs ls hP hD hS hl h
            refine hG _ _ _ _ _ ?_
            unfold p_X9_differ_L1 at h
            refine lv_iload_n hx hb dX9_differ_31 rfl (lv_at hl 3 rfl) ?_
            refine lv_bipush (v := (120 : Int32)) hx hb dX9_differ_32 (by decide) ?_
            refine lv_icmp_gt (tgt := 61) hx hb dX9_differ_34 (by decide) (fun c34 => ?_) (fun c34 => ?_)
            · replace h := zif_t h c34
              exact hGW _ _ _ _ _ (HX1 v3_1 _ _ ls hP hD hS (lv_sub hl [0, 1, 2, 3] rfl) h)
            · replace h := zif_f h c34
              refine lv_aload_n hx hb dX9_differ_37 rfl (lv_at hl 0 rfl) ?_
              refine lv_iload_n hx hb dX9_differ_38 rfl (lv_at hl 1 rfl) ?_
              refine lv_iload_n hx hb dX9_differ_39 rfl (lv_at hl 3 rfl) ?_
              obtain ⟨r15, e16, h⟩ := zb1_some h
              refine zgol (va_runV (As := [.int p0, .int v3_1]) (rest := []) ⟨hx, hb, hml, hown, hts⟩ (c_X9_at l D q v cJ cI cO cB V ib dn rf mk th_13 p0 v3_1 r15 e16 H.size) (cwV 2 hts gX9_differ_X9_at rfl rfl rfl hdV_X9_at ⟨Nat.le_of_ble_eq_true rfl, Nat.le_of_ble_eq_true rfl⟩) (zpreV (q0 := 0) (ci := 9) (T := TX9) (N := 6) hK hP hD rfl rfl [.int p0, .int v3_1]) rfl rfl hl.1 rfl (lv_room (Nat.le_of_ble_eq_true rfl)) dX9_differ_40 ⟨Nat.le_of_ble_eq_true rfl, Nat.le_of_ble_eq_true rfl⟩) (zfree hD hS hA) (zjW hD hS hA) hS (fun H locs hP hD hS => ?_)
              replace hP : va_P D vwCl (mW q v cJ V ib dn rf mk th_13) H := hP
              replace hD : va_D A (mW q v cJ V ib dn rf mk th_13) := hD
              refine lv_aload_n hx hb dX9_differ_43 rfl (lv_at hl 0 rfl) ?_
              refine lv_iload_n hx hb dX9_differ_44 rfl (lv_at hl 2 rfl) ?_
              refine lv_iload_n hx hb dX9_differ_45 rfl (lv_at hl 3 rfl) ?_
              obtain ⟨r17, e18, h⟩ := zb1_some h
              refine zgol (va_runV (As := [.int p1, .int v3_1]) (rest := [.long r15]) ⟨hx, hb, hml, hown, hts⟩ (c_X9_at l D q v cJ cI cO cB V ib dn rf mk th_13 p1 v3_1 r17 e18 H.size) (cwV 2 hts gX9_differ_X9_at rfl rfl rfl hdV_X9_at ⟨Nat.le_of_ble_eq_true rfl, Nat.le_of_ble_eq_true rfl⟩) (zpreV (q0 := 0) (ci := 9) (T := TX9) (N := 6) hK hP hD rfl rfl [.int p1, .int v3_1]) rfl rfl hl.1 rfl (lv_room (Nat.le_of_ble_eq_true rfl)) dX9_differ_46 ⟨Nat.le_of_ble_eq_true rfl, Nat.le_of_ble_eq_true rfl⟩) (zfree hD hS hA) (zjW hD hS hA) hS (fun H locs hP hD hS => ?_)
              replace hP : va_P D vwCl (mW q v cJ V ib dn rf mk th_13) H := hP
              replace hD : va_D A (mW q v cJ V ib dn rf mk th_13) := hD
              refine W.lcmp hx hb dX9_differ_49 ?_
              refine lv_if_eq (tgt := 55) hx hb dX9_differ_50 (by decide) (fun c50 => ?_) (fun c50 => ?_)
              · replace h := zif_t h c50
                refine lv_iinc (v := (v3_1 + (1 : Int32))) (lv' := [(3, .int (v3_1 + (1 : Int32))), (0, .ref q), (1, .int p0), (2, .int p1)]) hx hb dX9_differ_55 hl (k := 3) rfl rfl (by decide) rfl (fun ls hl => ?_)
                refine lv_goto (tgt := 31) hx hb dX9_differ_58 (by decide) ?_
                exact hGW _ _ _ _ _ (ih1 (v3_1 + (1 : Int32)) _ _ ls hP hD hS (lv_sub hl [1, 2, 3, 0] rfl) h)
              · replace h := zif_f h c50
                refine lv_iload_n hx hb dX9_differ_53 rfl (lv_at hl 3 rfl) ?_
                have g0 := Option.some.inj h
                obtain ⟨h1, g1⟩ := Prod.mk.inj g0
                obtain ⟨h2, g2⟩ := Prod.mk.inj g1
                obtain ⟨h3, g3⟩ := Prod.mk.inj g2
                obtain ⟨h4, g4⟩ := Prod.mk.inj g3
                obtain ⟨h5, g5⟩ := Prod.mk.inj g4
                obtain ⟨h6, g6⟩ := Prod.mk.inj g5
                subst h1
                subst h2
                subst h3
                subst h4
                subst h5
                subst h6
                subst g6
                exact W.iret (v := v3_1) hx hb hr (fun t ht hW => ⟨⟨v3_1, (), rfl, rfl, by rw [ht]; exact hP, va_K.moved hW.alike hK, hD⟩, hS.F ht⟩) hS.2.2 dX9_differ_54
        exact hGW _ _ _ _ _ (L1 _ X1 F (1 : Int32) _ _ ls hP hD hS (lv_sub hl [1, 2, 3, 0] rfl) h)
      · replace h := zif_f h c24
        refine lv_iconst (v := (0 : Int32)) hx hb dX9_differ_27 (by decide) ?_
        have g0 := Option.some.inj h
        obtain ⟨h1, g1⟩ := Prod.mk.inj g0
        obtain ⟨h2, g2⟩ := Prod.mk.inj g1
        obtain ⟨h3, g3⟩ := Prod.mk.inj g2
        obtain ⟨h4, g4⟩ := Prod.mk.inj g3
        obtain ⟨h5, g5⟩ := Prod.mk.inj g4
        obtain ⟨h6, g6⟩ := Prod.mk.inj g5
        subst h1
        subst h2
        subst h3
        subst h4
        subst h5
        subst h6
        subst g6
        exact W.iret (v := (0 : Int32)) hx hb hr (fun t ht hW => ⟨⟨(0 : Int32), (), rfl, rfl, by rw [ht]; exact hP, va_K.moved hW.alike hK, hD⟩, hS.F ht⟩) hS.2.2 dX9_differ_28

noncomputable def p_X9_is (F : Nat) (V : Nat → Int64) (ib : Bool) (dn : Int32) (rf : Int32) (mk : Int32) (p0 : Int32) (p1 : Int32) : Option (Bool × (Nat → Int64) × Bool × Int32 × Int32 × Int32 × Int32) := (zb1 (p_X9_isOne p0) (fun r1 => (zb1 (p_X9_isIn p1 (0 : Int32) (3 : Int32)) (fun r3 => (zb2 (p_X9_isThrown r1 r3) (fun r5 th_6 => (if (z01 r5) = 0 then (zb1 (p_X9_of F V p0) (fun r8 => (if (2 : Int32) ≤ p1 then (zb1 (p_X9_hasInverse r8) (fun r11 => (zlt (fun (s0j0 : Bool) => (if ¬ p1 = (3 : Int32) then (if ¬ (z01 s0j0) = 0 then (some (false, V, s0j0, dn, rf, mk, th_6)) else (some (true, V, s0j0, dn, rf, mk, th_6))) else (if ¬ (z01 s0j0) = 0 then (if ¬ (z01 s0j0) = 0 then (some (false, V, s0j0, dn, rf, mk, th_6)) else (some (true, V, s0j0, dn, rf, mk, th_6))) else (zb2 (p_X9_inverse F s0j0 r8) (fun r13 ib_14 => (if ¬ (z01 ib_14) = 0 then (some (false, V, ib_14, dn, rf, mk, th_6)) else (some (true, V, ib_14, dn, rf, mk, th_6)))))))) (fun jf0 => (if ¬ (z01 r11) = 0 then (jf0 false) else (jf0 true)))))) else (if ¬ p1 = (1 : Int32) then (zb7 (p_X9_isByPrimes F V ib dn rf mk th_6 r8 false) (fun r17 V_18 ib_19 dn_20 rf_21 mk_22 th_23 => (some (r17, V_18, ib_19, dn_20, rf_21, mk_22, th_23)))) else (zb7 (p_X9_isByPrimes F V ib dn rf mk th_6 r8 true) (fun r25 V_26 ib_27 dn_28 rf_29 mk_30 th_31 => (some (r25, V_26, ib_27, dn_28, rf_29, mk_30, th_31)))))))) else (some (false, V, ib, dn, rf, mk, th_6)))))))))
theorem hdV_X9_is : yX9_is.cls = RX9 ∧ yX9_is.cls ≠ "java/lang/invoke/MethodHandle" ∧ yX9_is.cls ≠ "java/lang/invoke/VarHandle" ∧ (parseMethodDescriptor yX9_is.desc).map (fun d => d.parameters.length) = some 2 := by decide +kernel
set_option maxHeartbeats 4000000 in
set_option maxRecDepth 100000 in
theorem c_X9_is (l : Launch) (D : va_G) (q v : Nat) (cJ cI cO cB : ClassId) (V : Nat → Int64) (ib : Bool) (dn : Int32) (rf : Int32) (mk : Int32) (th : Int32) (F : Nat) (p0 : Int32) (p1 : Int32) (r : Bool) (V' : Nat → Int64) (ib' : Bool) (dn' : Int32) (rf' : Int32) (mk' : Int32) (th' : Int32) (h : p_X9_is F V ib dn rf mk p0 p1 = some (r, V', ib', dn', rf', mk', th')) : zMi l yX9_is wsX9_is 3 69 2 242 D (zT cJ cI cO cB) [.ref q, .int p0, .int p1] (mW q v cJ V ib dn rf mk th) (mW q v cJ V' ib' dn' rf' mk' th') (z01 r) := by
  intro sz
  delta zQi
  refine Met.ofW (cc := cX9_is) (maxL := 4) (ret := (some .boolean)) (by decide) rfl ?_
  intro p e s m args below meth c s₁ B hml hv
  obtain ⟨rfl, hsz, hP, hK, hD0⟩ := hv
  have hx := B.exec
  have hb := B.bytes
  have hr := B.returns
  have hts := atoms_spec (ws := wsX9_is) B.pre
  have hown : s.vm.findClass RX9 = some m.cls := findClass_of_methodNamed B.named
  have hlocks := B.notSynchronized
  subst hsz
  have hD := hD0.self (sz := s.heap.size)
  generalize hAe : va_A (mW q v cJ V ib dn rf mk th) s.heap.size = A at hD ⊢
  have hA : ∀ q : Nat, s.heap.size ≤ q → A q := fun q h => by rw [← hAe]; exact Or.inr h
  have hS : va_S A s.heap s.heap [] := va_S.rf
  have hl := lv_entry ([.ref q, .int p0, .int p1]) (n := 4) (Nat.le_of_ble_eq_true rfl)
  rw [lg_entry_eq]
  generalize (lg_sl ([.ref q, .int p0, .int p1]) ++ List.replicate (4 - (lg_sl ([.ref q, .int p0, .int p1])).length) Slot.unset).toArray = ls at hl ⊢
  replace hl : lv_has ls 4 [(0, .ref q), (1, .int p0), (2, .int p1)] := hl
  have kwX9 : ∀ w ∈ u_ws RX9 TX9 6, w ∈ wsX9_is := fun w h => List.mem_cons_of_mem _ (List.mem_append_left _ (List.mem_append_left _ (List.mem_append_left _ (List.mem_append_left _ (List.mem_append_right _ (List.mem_cons_of_mem _ (List.mem_append_right _ h)))))))
  have kf_36 := hts (.fieldLink RX9 36 "DivisorworkModel" "isBeyond" "Z") (List.mem_cons_of_mem _ (List.mem_append_left _ (List.mem_append_left _ (List.mem_append_right _ (List.mem_cons_of_mem _ (List.mem_append_right _ (zmem 3 rfl)))))))
  replace h : (zb1 (p_X9_isOne p0) (fun r1 => (zb1 (p_X9_isIn p1 (0 : Int32) (3 : Int32)) (fun r3 => (zb2 (p_X9_isThrown r1 r3) (fun r5 th_6 => (if (z01 r5) = 0 then (zb1 (p_X9_of F V p0) (fun r8 => (if (2 : Int32) ≤ p1 then (zb1 (p_X9_hasInverse r8) (fun r11 => (zlt (fun (s0j0 : Bool) => (if ¬ p1 = (3 : Int32) then (if ¬ (z01 s0j0) = 0 then (some (false, V, s0j0, dn, rf, mk, th_6)) else (some (true, V, s0j0, dn, rf, mk, th_6))) else (if ¬ (z01 s0j0) = 0 then (if ¬ (z01 s0j0) = 0 then (some (false, V, s0j0, dn, rf, mk, th_6)) else (some (true, V, s0j0, dn, rf, mk, th_6))) else (zb2 (p_X9_inverse F s0j0 r8) (fun r13 ib_14 => (if ¬ (z01 ib_14) = 0 then (some (false, V, ib_14, dn, rf, mk, th_6)) else (some (true, V, ib_14, dn, rf, mk, th_6)))))))) (fun jf0 => (if ¬ (z01 r11) = 0 then (jf0 false) else (jf0 true)))))) else (if ¬ p1 = (1 : Int32) then (zb7 (p_X9_isByPrimes F V ib dn rf mk th_6 r8 false) (fun r17 V_18 ib_19 dn_20 rf_21 mk_22 th_23 => (some (r17, V_18, ib_19, dn_20, rf_21, mk_22, th_23)))) else (zb7 (p_X9_isByPrimes F V ib dn rf mk th_6 r8 true) (fun r25 V_26 ib_27 dn_28 rf_29 mk_30 th_31 => (some (r25, V_26, ib_27, dn_28, rf_29, mk_30, th_31)))))))) else (some (false, V, ib, dn, rf, mk, th_6))))))))) = some (r, V', ib', dn', rf', mk', th') := h
  refine zabs (fun G hG hGW => ?_)
  obtain ⟨H, hHe⟩ : ∃ H, H = s.heap := ⟨_, rfl⟩
  rw [← hHe] at hP
  replace hS : va_S A s.heap H [] := by rw [hHe]; exact hS
  refine zheap hHe ?_
  refine lv_aload_n hx hb dX9_is_0 rfl (lv_at hl 0 rfl) ?_
  refine lv_iload_n hx hb dX9_is_1 rfl (lv_at hl 1 rfl) ?_
  obtain ⟨r1, e2, h⟩ := zb1_some h
  refine zgoi (va_runS (As := [.int p0]) (rest := [.ref q]) ⟨hx, hb, hml, hown, hts⟩ (c_X9_isOne l D (zT cJ cI cO cB) p0 r1 e2 H.size) (va_cwS 1 hts gX9_is_X9_isOne rfl rfl rfl hdS_X9_isOne ⟨Nat.le_of_ble_eq_true rfl, Nat.le_of_ble_eq_true rfl⟩) (zpreS hK zP0 (zD0 (A := A)) [.int p0]) rfl rfl hl.1 rfl (lv_room (Nat.le_of_ble_eq_true rfl)) dX9_is_2 ⟨Nat.le_of_ble_eq_true rfl, Nat.le_of_ble_eq_true rfl⟩) (zf0 hS hA) (zjE hP hD) hS (fun H locs hP hD hS => ?_)
  refine lv_iload_n hx hb dX9_is_5 rfl (lv_at hl 2 rfl) ?_
  refine lv_iconst (v := (0 : Int32)) hx hb dX9_is_6 (by decide) ?_
  refine lv_iconst (v := (3 : Int32)) hx hb dX9_is_7 (by decide) ?_
  obtain ⟨r3, e4, h⟩ := zb1_some h
  refine zgoi (va_runS (As := [.int p1, .int (0 : Int32), .int (3 : Int32)]) (rest := [.int (z01 r1), .ref q]) ⟨hx, hb, hml, hown, hts⟩ (c_X9_isIn l D (zT cJ cI cO cB) p1 (0 : Int32) (3 : Int32) r3 e4 H.size) (va_cwS 3 hts gX9_is_X9_isIn rfl rfl rfl hdS_X9_isIn ⟨Nat.le_of_ble_eq_true rfl, Nat.le_of_ble_eq_true rfl⟩) (zpreS hK zP0 (zD0 (A := A)) [.int p1, .int (0 : Int32), .int (3 : Int32)]) rfl rfl hl.1 rfl (lv_room (Nat.le_of_ble_eq_true rfl)) dX9_is_8 ⟨Nat.le_of_ble_eq_true rfl, Nat.le_of_ble_eq_true rfl⟩) (zf0 hS hA) (zjE hP hD) hS (fun H locs hP hD hS => ?_)
  obtain ⟨r5, th_6, e7, h⟩ := zb2_some h
  refine zgoi (va_runV (As := [.int (z01 r1), .int (z01 r3)]) (rest := []) ⟨hx, hb, hml, hown, hts⟩ (c_X9_isThrown l D q v cJ cI cO cB V ib dn rf mk th r1 r3 r5 th_6 e7 H.size) (cwV 2 hts gX9_is_X9_isThrown rfl rfl rfl hdV_X9_isThrown ⟨Nat.le_of_ble_eq_true rfl, Nat.le_of_ble_eq_true rfl⟩) (zpreV (q0 := 0) (ci := 9) (T := TX9) (N := 6) hK hP hD rfl rfl [.int (z01 r1), .int (z01 r3)]) rfl rfl hl.1 rfl (lv_room (Nat.le_of_ble_eq_true rfl)) dX9_is_11 ⟨Nat.le_of_ble_eq_true rfl, Nat.le_of_ble_eq_true rfl⟩) (zfree hD hS hA) (zjW hD hS hA) hS (fun H locs hP hD hS => ?_)
  replace hP : va_P D vwCl (mW q v cJ V ib dn rf mk th_6) H := hP
  replace hD : va_D A (mW q v cJ V ib dn rf mk th_6) := hD
  refine lv_if_eq (tgt := 19) hx hb dX9_is_14 (by decide) (fun c14 => ?_) (fun c14 => ?_)
  · replace h := zif_t h c14
    refine lv_aload_n hx hb dX9_is_19 rfl (lv_at hl 0 rfl) ?_
    refine lv_iload_n hx hb dX9_is_20 rfl (lv_at hl 1 rfl) ?_
    obtain ⟨r8, e9, h⟩ := zb1_some h
    refine zgon (va_runV (As := [.int p0]) (rest := []) ⟨hx, hb, hml, hown, hts⟩ (c_X9_of l D q v cJ cI cO cB V ib dn rf mk th_6 F p0 r8 e9 H.size) (cwV 1 hts gX9_is_X9_of rfl rfl rfl hdV_X9_of ⟨Nat.le_of_ble_eq_true rfl, Nat.le_of_ble_eq_true rfl⟩) (zpreV (q0 := 0) (ci := 9) (T := TX9) (N := 6) hK hP hD rfl rfl [.int p0]) rfl rfl hl.1 rfl (lv_room (Nat.le_of_ble_eq_true rfl)) dX9_is_21 ⟨Nat.le_of_ble_eq_true rfl, Nat.le_of_ble_eq_true rfl⟩) (zfree hD hS hA) (fun _ => zjW hD hS hA) hS (fun w10 H locs hP hD hS => ?_)
    replace hP : va_P D vwCl (mW q v cJ V ib dn rf mk th_6 ++ ([(w10, .inl (cJ, 121, .inr (.inl r8)))])) H := hP
    replace hD : va_D A (mW q v cJ V ib dn rf mk th_6 ++ ([(w10, .inl (cJ, 121, .inr (.inl r8)))])) := hD
    refine lv_astore_n (lv' := [(3, .ref w10), (0, .ref q), (1, .int p0), (2, .int p1)]) hx hb dX9_is_24 rfl hl (by decide) rfl (fun ls hl => ?_)
    refine lv_iload_n hx hb dX9_is_25 rfl (lv_at hl 3 rfl) ?_
    refine lv_iconst (v := (2 : Int32)) hx hb dX9_is_26 (by decide) ?_
    refine lv_icmp_ge (tgt := 46) hx hb dX9_is_27 (by decide) (fun c27 => ?_) (fun c27 => ?_)
    · replace h := zif_t h c27
      refine lv_aload_n hx hb dX9_is_46 rfl (lv_at hl 1 rfl) ?_
      refine lv_aload_n hx hb dX9_is_47 rfl (lv_at hl 1 rfl) ?_
      refine lv_aload_n hx hb dX9_is_48 rfl (lv_at hl 0 rfl) ?_
      obtain ⟨r11, e12, h⟩ := zb1_some h
      refine zgoi (va_runV (As := [.ref w10]) (rest := [.ref q]) ⟨hx, hb, hml, hown, hts⟩ (c_X9_hasInverse l D q v cJ cI cO cB V ib dn rf mk th_6 w10 r8 r11 e12 H.size) (cwV 1 hts gX9_is_X9_hasInverse rfl rfl rfl hdV_X9_hasInverse ⟨Nat.le_of_ble_eq_true rfl, Nat.le_of_ble_eq_true rfl⟩) (zpreV (q0 := 0) (ci := 9) (T := TX9) (N := 6) hK hP hD rfl rfl [.ref w10]) rfl rfl hl.1 rfl (lv_room (Nat.le_of_ble_eq_true rfl)) dX9_is_49 ⟨Nat.le_of_ble_eq_true rfl, Nat.le_of_ble_eq_true rfl⟩) (zfree hD hS hA) (zjW hD hS hA) hS (fun H locs hP hD hS => ?_)
      replace hP : va_P D vwCl (mW q v cJ V ib dn rf mk th_6 ++ ([(w10, .inl (cJ, 121, .inr (.inl r8)))])) H := hP
      replace hD : va_D A (mW q v cJ V ib dn rf mk th_6 ++ ([(w10, .inl (cJ, 121, .inr (.inl r8)))])) := hD
      have J0 : ∀ (s0j0 : Bool) (H : Heap) (locs : List Loc) (ls : Array Slot), va_P D vwCl (mW q v cJ V ib dn rf mk th_6 ++ ([(w10, .inl (cJ, 121, .inr (.inl r8)))])) H → va_D A (mW q v cJ V ib dn rf mk th_6 ++ ([(w10, .inl (cJ, 121, .inr (.inl r8)))])) → va_S A s.heap H locs → lv_has ls 4 [(0, .ref q), (1, .int p0), (2, .int p1), (3, .ref w10)] → (if ¬ p1 = (3 : Int32) then (if ¬ (z01 s0j0) = 0 then (some (false, V, s0j0, dn, rf, mk, th_6)) else (some (true, V, s0j0, dn, rf, mk, th_6))) else (if ¬ (z01 s0j0) = 0 then (if ¬ (z01 s0j0) = 0 then (some (false, V, s0j0, dn, rf, mk, th_6)) else (some (true, V, s0j0, dn, rf, mk, th_6))) else (zb2 (p_X9_inverse F s0j0 r8) (fun r13 ib_14 => (if ¬ (z01 ib_14) = 0 then (some (false, V, ib_14, dn, rf, mk, th_6)) else (some (true, V, ib_14, dn, rf, mk, th_6))))))) = some (r, V', ib', dn', rf', mk', th') → G H locs 1 121 (F0 m 60 ls [.int (z01 s0j0), .ref q]) := by
        intro s0j0 H locs ls hP hD hS hl h
        refine hG _ _ _ _ _ ?_
        refine va_put (D := D) (ci := 9) (v := .int (z01 s0j0)) (ty := .boolean) (C := RX9) (T := TX9) (N := 6) hx hb hts kwX9 tyX9 tyX9_ok nmX9 hown hK hP hD hS 0 rfl rfl 1 (by decide) kf_36 (fun _ h9 => h9) rfl rfl (z01_nar s0j0) (z01_fit s0j0) (Nat.le_of_ble_eq_true rfl) dX9_is_60 (fun H locs hP hD hS => ?_)
        replace hP : va_P D vwCl (mW q v cJ V s0j0 dn rf mk th_6 ++ ([(w10, .inl (cJ, 121, .inr (.inl r8)))])) H := hP
        replace hD : va_D A (mW q v cJ V s0j0 dn rf mk th_6 ++ ([(w10, .inl (cJ, 121, .inr (.inl r8)))])) := hD
        refine lv_iload_n hx hb dX9_is_63 rfl (lv_at hl 2 rfl) ?_
        refine lv_iconst (v := (3 : Int32)) hx hb dX9_is_64 (by decide) ?_
        refine lv_icmp_ne (tgt := 81) hx hb dX9_is_65 (by decide) (fun c65 => ?_) (fun c65 => ?_)
        · replace h := zif_t h c65
          refine lv_aload_n hx hb dX9_is_81 rfl (lv_at hl 0 rfl) ?_
          refine va_get (D := D) (ci := 9) (v := .int (z01 s0j0)) (C := RX9) (T := TX9) (N := 6) hx hb hts kwX9 hown hK hP 0 rfl rfl 1 (by decide) kf_36 (fun _ h9 => h9) rfl dX9_is_82 ?_
          refine lv_if_ne (tgt := 92) hx hb dX9_is_85 (by decide) (fun c85 => ?_) (fun c85 => ?_)
          · replace h := zif_t h c85
            refine lv_iconst (v := (0 : Int32)) hx hb dX9_is_92 (by decide) ?_
            have g0 := Option.some.inj h
            obtain ⟨h1, g1⟩ := Prod.mk.inj g0
            obtain ⟨h2, g2⟩ := Prod.mk.inj g1
            obtain ⟨h3, g3⟩ := Prod.mk.inj g2
            obtain ⟨h4, g4⟩ := Prod.mk.inj g3
            obtain ⟨h5, g5⟩ := Prod.mk.inj g4
            obtain ⟨h6, g6⟩ := Prod.mk.inj g5
            subst h1
            subst h2
            subst h3
            subst h4
            subst h5
            subst h6
            subst g6
            replace hP := zsub (wn := (mW q v cJ V s0j0 dn rf mk th_6)) hP [0, 1] rfl
            replace hD := hD.sub (ws' := (mW q v cJ V s0j0 dn rf mk th_6)) [0, 1] (by decide) rfl
            refine W.widen (k := 2) (n := 242) (by decide) (by decide) ?_
            exact W.zret (v := (0 : Int32)) hx hb hr (z01_nar false) (fun t ht hW => ⟨⟨(0 : Int32), (), rfl, rfl, by rw [ht]; exact hP, va_K.moved hW.alike hK, hD⟩, hS.F ht⟩) hS.2.2 dX9_is_93
          · replace h := zif_fn h c85
            refine lv_iconst (v := (1 : Int32)) hx hb dX9_is_88 (by decide) ?_
            refine lv_goto (tgt := 93) hx hb dX9_is_89 (by decide) ?_
            have g0 := Option.some.inj h
            obtain ⟨h1, g1⟩ := Prod.mk.inj g0
            obtain ⟨h2, g2⟩ := Prod.mk.inj g1
            obtain ⟨h3, g3⟩ := Prod.mk.inj g2
            obtain ⟨h4, g4⟩ := Prod.mk.inj g3
            obtain ⟨h5, g5⟩ := Prod.mk.inj g4
            obtain ⟨h6, g6⟩ := Prod.mk.inj g5
            subst h1
            subst h2
            subst h3
            subst h4
            subst h5
            subst h6
            subst g6
            replace hP := zsub (wn := (mW q v cJ V s0j0 dn rf mk th_6)) hP [0, 1] rfl
            replace hD := hD.sub (ws' := (mW q v cJ V s0j0 dn rf mk th_6)) [0, 1] (by decide) rfl
            refine W.widen (k := 2) (n := 242) (by decide) (by decide) ?_
            exact W.zret (v := (1 : Int32)) hx hb hr (z01_nar true) (fun t ht hW => ⟨⟨(1 : Int32), (), rfl, rfl, by rw [ht]; exact hP, va_K.moved hW.alike hK, hD⟩, hS.F ht⟩) hS.2.2 dX9_is_93
        · replace h := zif_fn h c65
          refine lv_aload_n hx hb dX9_is_68 rfl (lv_at hl 0 rfl) ?_
          refine va_get (D := D) (ci := 9) (v := .int (z01 s0j0)) (C := RX9) (T := TX9) (N := 6) hx hb hts kwX9 hown hK hP 0 rfl rfl 1 (by decide) kf_36 (fun _ h9 => h9) rfl dX9_is_69 ?_
          refine lv_if_ne (tgt := 81) hx hb dX9_is_72 (by decide) (fun c72 => ?_) (fun c72 => ?_)
          · replace h := zif_t h c72
            refine lv_aload_n hx hb dX9_is_81 rfl (lv_at hl 0 rfl) ?_
            refine va_get (D := D) (ci := 9) (v := .int (z01 s0j0)) (C := RX9) (T := TX9) (N := 6) hx hb hts kwX9 hown hK hP 0 rfl rfl 1 (by decide) kf_36 (fun _ h9 => h9) rfl dX9_is_82 ?_
            refine lv_if_ne (tgt := 92) hx hb dX9_is_85 (by decide) (fun c85 => ?_) (fun c85 => ?_)
            · replace h := zif_t h c85
              refine lv_iconst (v := (0 : Int32)) hx hb dX9_is_92 (by decide) ?_
              have g0 := Option.some.inj h
              obtain ⟨h1, g1⟩ := Prod.mk.inj g0
              obtain ⟨h2, g2⟩ := Prod.mk.inj g1
              obtain ⟨h3, g3⟩ := Prod.mk.inj g2
              obtain ⟨h4, g4⟩ := Prod.mk.inj g3
              obtain ⟨h5, g5⟩ := Prod.mk.inj g4
              obtain ⟨h6, g6⟩ := Prod.mk.inj g5
              subst h1
              subst h2
              subst h3
              subst h4
              subst h5
              subst h6
              subst g6
              replace hP := zsub (wn := (mW q v cJ V s0j0 dn rf mk th_6)) hP [0, 1] rfl
              replace hD := hD.sub (ws' := (mW q v cJ V s0j0 dn rf mk th_6)) [0, 1] (by decide) rfl
              refine W.widen (k := 2) (n := 242) (by decide) (by decide) ?_
              exact W.zret (v := (0 : Int32)) hx hb hr (z01_nar false) (fun t ht hW => ⟨⟨(0 : Int32), (), rfl, rfl, by rw [ht]; exact hP, va_K.moved hW.alike hK, hD⟩, hS.F ht⟩) hS.2.2 dX9_is_93
            · replace h := zif_fn h c85
              refine lv_iconst (v := (1 : Int32)) hx hb dX9_is_88 (by decide) ?_
              refine lv_goto (tgt := 93) hx hb dX9_is_89 (by decide) ?_
              have g0 := Option.some.inj h
              obtain ⟨h1, g1⟩ := Prod.mk.inj g0
              obtain ⟨h2, g2⟩ := Prod.mk.inj g1
              obtain ⟨h3, g3⟩ := Prod.mk.inj g2
              obtain ⟨h4, g4⟩ := Prod.mk.inj g3
              obtain ⟨h5, g5⟩ := Prod.mk.inj g4
              obtain ⟨h6, g6⟩ := Prod.mk.inj g5
              subst h1
              subst h2
              subst h3
              subst h4
              subst h5
              subst h6
              subst g6
              replace hP := zsub (wn := (mW q v cJ V s0j0 dn rf mk th_6)) hP [0, 1] rfl
              replace hD := hD.sub (ws' := (mW q v cJ V s0j0 dn rf mk th_6)) [0, 1] (by decide) rfl
              refine W.widen (k := 2) (n := 242) (by decide) (by decide) ?_
              exact W.zret (v := (1 : Int32)) hx hb hr (z01_nar true) (fun t ht hW => ⟨⟨(1 : Int32), (), rfl, rfl, by rw [ht]; exact hP, va_K.moved hW.alike hK, hD⟩, hS.F ht⟩) hS.2.2 dX9_is_93
          · replace h := zif_fn h c72
            refine lv_aload_n hx hb dX9_is_75 rfl (lv_at hl 0 rfl) ?_
            refine lv_aload_n hx hb dX9_is_76 rfl (lv_at hl 3 rfl) ?_
            obtain ⟨r13, ib_14, e15, h⟩ := zb2_some h
            refine zgon (va_runV (As := [.ref w10]) (rest := []) ⟨hx, hb, hml, hown, hts⟩ (c_X9_inverse l D q v cJ cI cO cB V s0j0 dn rf mk th_6 F w10 r8 r13 ib_14 e15 H.size) (cwV 1 hts gX9_is_X9_inverse rfl rfl rfl hdV_X9_inverse ⟨Nat.le_of_ble_eq_true rfl, Nat.le_of_ble_eq_true rfl⟩) (zpreV (q0 := 0) (ci := 9) (T := TX9) (N := 6) hK hP hD rfl rfl [.ref w10]) rfl rfl hl.1 rfl (lv_room (Nat.le_of_ble_eq_true rfl)) dX9_is_77 ⟨Nat.le_of_ble_eq_true rfl, Nat.le_of_ble_eq_true rfl⟩) (zfree hD hS hA) (fun _ => zjW hD hS hA) hS (fun w16 H locs hP hD hS => ?_)
            replace hP : va_P D vwCl (mW q v cJ V ib_14 dn rf mk th_6 ++ ([(w10, .inl (cJ, 121, .inr (.inl r8))), (w16, .inl (cJ, 121, .inr (.inl r13)))])) H := hP
            replace hD : va_D A (mW q v cJ V ib_14 dn rf mk th_6 ++ ([(w10, .inl (cJ, 121, .inr (.inl r8))), (w16, .inl (cJ, 121, .inr (.inl r13)))])) := hD
            refine lv_pop hx hb dX9_is_80 rfl ?_
            refine lv_aload_n hx hb dX9_is_81 rfl (lv_at hl 0 rfl) ?_
            refine va_get (D := D) (ci := 9) (v := .int (z01 ib_14)) (C := RX9) (T := TX9) (N := 6) hx hb hts kwX9 hown hK hP 0 rfl rfl 1 (by decide) kf_36 (fun _ h9 => h9) rfl dX9_is_82 ?_
            refine lv_if_ne (tgt := 92) hx hb dX9_is_85 (by decide) (fun c85 => ?_) (fun c85 => ?_)
            · replace h := zif_t h c85
              refine lv_iconst (v := (0 : Int32)) hx hb dX9_is_92 (by decide) ?_
              have g0 := Option.some.inj h
              obtain ⟨h1, g1⟩ := Prod.mk.inj g0
              obtain ⟨h2, g2⟩ := Prod.mk.inj g1
              obtain ⟨h3, g3⟩ := Prod.mk.inj g2
              obtain ⟨h4, g4⟩ := Prod.mk.inj g3
              obtain ⟨h5, g5⟩ := Prod.mk.inj g4
              obtain ⟨h6, g6⟩ := Prod.mk.inj g5
              subst h1
              subst h2
              subst h3
              subst h4
              subst h5
              subst h6
              subst g6
              replace hP := zsub (wn := (mW q v cJ V ib_14 dn rf mk th_6)) hP [0, 1] rfl
              replace hD := hD.sub (ws' := (mW q v cJ V ib_14 dn rf mk th_6)) [0, 1] (by decide) rfl
              exact W.zret (v := (0 : Int32)) hx hb hr (z01_nar false) (fun t ht hW => ⟨⟨(0 : Int32), (), rfl, rfl, by rw [ht]; exact hP, va_K.moved hW.alike hK, hD⟩, hS.F ht⟩) hS.2.2 dX9_is_93
            · replace h := zif_fn h c85
              refine lv_iconst (v := (1 : Int32)) hx hb dX9_is_88 (by decide) ?_
              refine lv_goto (tgt := 93) hx hb dX9_is_89 (by decide) ?_
              have g0 := Option.some.inj h
              obtain ⟨h1, g1⟩ := Prod.mk.inj g0
              obtain ⟨h2, g2⟩ := Prod.mk.inj g1
              obtain ⟨h3, g3⟩ := Prod.mk.inj g2
              obtain ⟨h4, g4⟩ := Prod.mk.inj g3
              obtain ⟨h5, g5⟩ := Prod.mk.inj g4
              obtain ⟨h6, g6⟩ := Prod.mk.inj g5
              subst h1
              subst h2
              subst h3
              subst h4
              subst h5
              subst h6
              subst g6
              replace hP := zsub (wn := (mW q v cJ V ib_14 dn rf mk th_6)) hP [0, 1] rfl
              replace hD := hD.sub (ws' := (mW q v cJ V ib_14 dn rf mk th_6)) [0, 1] (by decide) rfl
              exact W.zret (v := (1 : Int32)) hx hb hr (z01_nar true) (fun t ht hW => ⟨⟨(1 : Int32), (), rfl, rfl, by rw [ht]; exact hP, va_K.moved hW.alike hK, hD⟩, hS.F ht⟩) hS.2.2 dX9_is_93
      replace h := zlt_h h
      refine lv_if_ne (tgt := 59) hx hb dX9_is_52 (by decide) (fun c52 => ?_) (fun c52 => ?_)
      · replace h := zif_t h c52
        refine lv_iconst (v := (0 : Int32)) hx hb dX9_is_59 (by decide) ?_
        exact hGW _ _ _ _ _ (J0 false _ _ ls hP hD hS (lv_sub hl [1, 2, 3, 0] rfl) h)
      · replace h := zif_fn h c52
        refine lv_iconst (v := (1 : Int32)) hx hb dX9_is_55 (by decide) ?_
        refine lv_goto (tgt := 60) hx hb dX9_is_56 (by decide) ?_
        exact hGW _ _ _ _ _ (J0 true _ _ ls hP hD hS (lv_sub hl [1, 2, 3, 0] rfl) h)
    · replace h := zif_f h c27
      refine lv_aload_n hx hb dX9_is_30 rfl (lv_at hl 1 rfl) ?_
      refine lv_aload_n hx hb dX9_is_31 rfl (lv_at hl 0 rfl) ?_
      refine lv_iload_n hx hb dX9_is_32 rfl (lv_at hl 3 rfl) ?_
      refine lv_iconst (v := (1 : Int32)) hx hb dX9_is_33 (by decide) ?_
      refine lv_icmp_ne (tgt := 41) hx hb dX9_is_34 (by decide) (fun c34 => ?_) (fun c34 => ?_)
      · replace h := zif_t h c34
        refine lv_iconst (v := (0 : Int32)) hx hb dX9_is_41 (by decide) ?_
        obtain ⟨r17, V_18, ib_19, dn_20, rf_21, mk_22, th_23, e24, h⟩ := zb7_some h
        refine zgoi (va_runV (As := [.ref w10, .int (0 : Int32)]) (rest := []) ⟨hx, hb, hml, hown, hts⟩ (c_X9_isByPrimes l D q v cJ cI cO cB V ib dn rf mk th_6 F w10 r8 false r17 V_18 ib_19 dn_20 rf_21 mk_22 th_23 e24 H.size) (cwV 2 hts gX9_is_X9_isByPrimes rfl rfl rfl hdV_X9_isByPrimes ⟨Nat.le_of_ble_eq_true rfl, Nat.le_of_ble_eq_true rfl⟩) (zpreV (q0 := 0) (ci := 9) (T := TX9) (N := 6) hK hP hD rfl rfl [.ref w10, .int (0 : Int32)]) rfl rfl hl.1 rfl (lv_room (Nat.le_of_ble_eq_true rfl)) dX9_is_42 ⟨Nat.le_of_ble_eq_true rfl, Nat.le_of_ble_eq_true rfl⟩) (zfree hD hS hA) (zjW hD hS hA) hS (fun H locs hP hD hS => ?_)
        replace hP : va_P D vwCl (mW q v cJ V_18 ib_19 dn_20 rf_21 mk_22 th_23 ++ ([(w10, .inl (cJ, 121, .inr (.inl r8)))])) H := hP
        replace hD : va_D A (mW q v cJ V_18 ib_19 dn_20 rf_21 mk_22 th_23 ++ ([(w10, .inl (cJ, 121, .inr (.inl r8)))])) := hD
        have g0 := Option.some.inj h
        obtain ⟨h1, g1⟩ := Prod.mk.inj g0
        obtain ⟨h2, g2⟩ := Prod.mk.inj g1
        obtain ⟨h3, g3⟩ := Prod.mk.inj g2
        obtain ⟨h4, g4⟩ := Prod.mk.inj g3
        obtain ⟨h5, g5⟩ := Prod.mk.inj g4
        obtain ⟨h6, g6⟩ := Prod.mk.inj g5
        subst h1
        subst h2
        subst h3
        subst h4
        subst h5
        subst h6
        subst g6
        replace hP := zsub (wn := (mW q v cJ V_18 ib_19 dn_20 rf_21 mk_22 th_23)) hP [0, 1] rfl
        replace hD := hD.sub (ws' := (mW q v cJ V_18 ib_19 dn_20 rf_21 mk_22 th_23)) [0, 1] (by decide) rfl
        refine W.widen (k := 2) (n := 242) (by decide) (by decide) ?_
        exact W.zret (v := (z01 r17)) hx hb hr (z01_nar r17) (fun t ht hW => ⟨⟨(z01 r17), (), rfl, rfl, by rw [ht]; exact hP, va_K.moved hW.alike hK, hD⟩, hS.F ht⟩) hS.2.2 dX9_is_45
      · replace h := zif_fn h c34
        refine lv_iconst (v := (1 : Int32)) hx hb dX9_is_37 (by decide) ?_
        refine lv_goto (tgt := 42) hx hb dX9_is_38 (by decide) ?_
        obtain ⟨r25, V_26, ib_27, dn_28, rf_29, mk_30, th_31, e32, h⟩ := zb7_some h
        refine zgoi (va_runV (As := [.ref w10, .int (1 : Int32)]) (rest := []) ⟨hx, hb, hml, hown, hts⟩ (c_X9_isByPrimes l D q v cJ cI cO cB V ib dn rf mk th_6 F w10 r8 true r25 V_26 ib_27 dn_28 rf_29 mk_30 th_31 e32 H.size) (cwV 2 hts gX9_is_X9_isByPrimes rfl rfl rfl hdV_X9_isByPrimes ⟨Nat.le_of_ble_eq_true rfl, Nat.le_of_ble_eq_true rfl⟩) (zpreV (q0 := 0) (ci := 9) (T := TX9) (N := 6) hK hP hD rfl rfl [.ref w10, .int (1 : Int32)]) rfl rfl hl.1 rfl (lv_room (Nat.le_of_ble_eq_true rfl)) dX9_is_42 ⟨Nat.le_of_ble_eq_true rfl, Nat.le_of_ble_eq_true rfl⟩) (zfree hD hS hA) (zjW hD hS hA) hS (fun H locs hP hD hS => ?_)
        replace hP : va_P D vwCl (mW q v cJ V_26 ib_27 dn_28 rf_29 mk_30 th_31 ++ ([(w10, .inl (cJ, 121, .inr (.inl r8)))])) H := hP
        replace hD : va_D A (mW q v cJ V_26 ib_27 dn_28 rf_29 mk_30 th_31 ++ ([(w10, .inl (cJ, 121, .inr (.inl r8)))])) := hD
        have g0 := Option.some.inj h
        obtain ⟨h1, g1⟩ := Prod.mk.inj g0
        obtain ⟨h2, g2⟩ := Prod.mk.inj g1
        obtain ⟨h3, g3⟩ := Prod.mk.inj g2
        obtain ⟨h4, g4⟩ := Prod.mk.inj g3
        obtain ⟨h5, g5⟩ := Prod.mk.inj g4
        obtain ⟨h6, g6⟩ := Prod.mk.inj g5
        subst h1
        subst h2
        subst h3
        subst h4
        subst h5
        subst h6
        subst g6
        replace hP := zsub (wn := (mW q v cJ V_26 ib_27 dn_28 rf_29 mk_30 th_31)) hP [0, 1] rfl
        replace hD := hD.sub (ws' := (mW q v cJ V_26 ib_27 dn_28 rf_29 mk_30 th_31)) [0, 1] (by decide) rfl
        refine W.widen (k := 2) (n := 242) (by decide) (by decide) ?_
        exact W.zret (v := (z01 r25)) hx hb hr (z01_nar r25) (fun t ht hW => ⟨⟨(z01 r25), (), rfl, rfl, by rw [ht]; exact hP, va_K.moved hW.alike hK, hD⟩, hS.F ht⟩) hS.2.2 dX9_is_45
  · replace h := zif_f h c14
    refine lv_iconst (v := (0 : Int32)) hx hb dX9_is_17 (by decide) ?_
    have g0 := Option.some.inj h
    obtain ⟨h1, g1⟩ := Prod.mk.inj g0
    obtain ⟨h2, g2⟩ := Prod.mk.inj g1
    obtain ⟨h3, g3⟩ := Prod.mk.inj g2
    obtain ⟨h4, g4⟩ := Prod.mk.inj g3
    obtain ⟨h5, g5⟩ := Prod.mk.inj g4
    obtain ⟨h6, g6⟩ := Prod.mk.inj g5
    subst h1
    subst h2
    subst h3
    subst h4
    subst h5
    subst h6
    subst g6
    refine W.widen (k := 2) (n := 242) (by decide) (by decide) ?_
    exact W.zret (v := (0 : Int32)) hx hb hr (z01_nar false) (fun t ht hW => ⟨⟨(0 : Int32), (), rfl, rfl, by rw [ht]; exact hP, va_K.moved hW.alike hK, hD⟩, hS.F ht⟩) hS.2.2 dX9_is_18

noncomputable def p_X9_totalOf_L0 (F : Nat) (p0 : Nat → Int64) (p1 : Int32) (k : Int64 → Int32 → Bool → Option (Int64 × Bool)) : Nat → Int64 → Int32 → Bool → Option (Int64 × Bool)
  | 0, _, _, _ => none
  | n + 1, v3_0, v5_0, ibL0 => (if p1 < v5_0 then (k v3_0 v5_0 ibL0) else (zg (v5_0 < 0 ∨ 121 ≤ v5_0.toNatClampNeg) (zb2 (p_X9_plus ibL0 v3_0 (p0 v5_0.toNatClampNeg)) (fun r1 ib_2 => (p_X9_totalOf_L0 F p0 p1 k n r1 (v5_0 + (1 : Int32)) ib_2)))))
noncomputable def p_X9_totalOf (F : Nat) (ib : Bool) (p0 : Nat → Int64) (p1 : Int32) : Option (Int64 × Bool) := (p_X9_totalOf_L0 F p0 p1 (fun v3_0 v5_0 ibL0 => (some (v3_0, ibL0))) F (0 : Int64) (1 : Int32) ib)
theorem hdV_X9_totalOf : yX9_totalOf.cls = RX9 ∧ yX9_totalOf.cls ≠ "java/lang/invoke/MethodHandle" ∧ yX9_totalOf.cls ≠ "java/lang/invoke/VarHandle" ∧ (parseMethodDescriptor yX9_totalOf.desc).map (fun d => d.parameters.length) = some 2 := by decide +kernel
set_option maxHeartbeats 4000000 in
set_option maxRecDepth 100000 in
theorem c_X9_totalOf (l : Launch) (D : va_G) (q v : Nat) (cJ cI cO cB : ClassId) (V : Nat → Int64) (ib : Bool) (dn : Int32) (rf : Int32) (mk : Int32) (th : Int32) (F : Nat) (t0 : Nat) (p0 : Nat → Int64) (p1 : Int32) (r : Int64) (ib' : Bool) (h : p_X9_totalOf F ib p0 p1 = some (r, ib')) : zMl l yX9_totalOf wsX9_totalOf 1 26 0 0 D (zT cJ cI cO cB) [.ref q, .ref t0, .int p1] (mW q v cJ V ib dn rf mk th ++ ([(t0, .inl (cJ, 121, .inr (.inl p0)))])) (mW q v cJ V ib' dn rf mk th ++ ([(t0, .inl (cJ, 121, .inr (.inl p0)))])) r := by
  intro sz
  delta zQl
  refine Met.ofW (cc := cX9_totalOf) (maxL := 6) (ret := (some .long)) (by decide) rfl ?_
  intro p e s m args below meth c s₁ B hml hv
  obtain ⟨rfl, hsz, hP, hK, hD0⟩ := hv
  have hx := B.exec
  have hb := B.bytes
  have hr := B.returns
  have hts := atoms_spec (ws := wsX9_totalOf) B.pre
  have hown : s.vm.findClass RX9 = some m.cls := findClass_of_methodNamed B.named
  have hlocks := B.notSynchronized
  subst hsz
  have hD := hD0.self (sz := s.heap.size)
  generalize hAe : va_A (mW q v cJ V ib dn rf mk th ++ ([(t0, .inl (cJ, 121, .inr (.inl p0)))])) s.heap.size = A at hD ⊢
  have hA : ∀ q : Nat, s.heap.size ≤ q → A q := fun q h => by rw [← hAe]; exact Or.inr h
  have hS : va_S A s.heap s.heap [] := va_S.rf
  have hl := lv_entry ([.ref q, .ref t0, .int p1]) (n := 6) (Nat.le_of_ble_eq_true rfl)
  rw [lg_entry_eq]
  generalize (lg_sl ([.ref q, .ref t0, .int p1]) ++ List.replicate (6 - (lg_sl ([.ref q, .ref t0, .int p1])).length) Slot.unset).toArray = ls at hl ⊢
  replace hl : lv_has ls 6 [(0, .ref q), (1, .ref t0), (2, .int p1)] := hl
  replace h : (p_X9_totalOf_L0 F p0 p1 (fun v3_0 v5_0 ibL0 => (some (v3_0, ibL0))) F (0 : Int64) (1 : Int32) ib) = some (r, ib') := h
  refine zabs (fun G hG hGW => ?_)
  obtain ⟨H, hHe⟩ : ∃ H, H = s.heap := ⟨_, rfl⟩
  rw [← hHe] at hP
  replace hS : va_S A s.heap H [] := by rw [hHe]; exact hS
  refine zheap hHe ?_
  refine lv_lconst (v := (0 : Int64)) hx hb dX9_totalOf_0 (by decide) ?_
  refine lv_lstore_n (lv' := [(3, .long (0 : Int64)), (0, .ref q), (1, .ref t0), (2, .int p1)]) hx hb dX9_totalOf_1 rfl hl (by decide) rfl (fun ls hl => ?_)
  refine lv_iconst (v := (1 : Int32)) hx hb dX9_totalOf_2 (by decide) ?_
  refine lv_istore (lv' := [(5, .int (1 : Int32)), (3, .long (0 : Int64)), (0, .ref q), (1, .ref t0), (2, .int p1)]) hx hb dX9_totalOf_3 hl (by decide) rfl (fun ls hl => ?_)
  have X0 : ∀ (v3_0 : Int64) (v5_0 : Int32) (ibL0 : Bool) (H : Heap) (locs : List Loc) (ls : Array Slot), va_P D vwCl (mW q v cJ V ibL0 dn rf mk th ++ ([(t0, .inl (cJ, 121, .inr (.inl p0)))])) H → va_D A (mW q v cJ V ibL0 dn rf mk th ++ ([(t0, .inl (cJ, 121, .inr (.inl p0)))])) → va_S A s.heap H locs → lv_has ls 6 [(0, .ref q), (1, .ref t0), (2, .int p1), (3, .long v3_0), (5, .int v5_0)] → (some (v3_0, ibL0)) = some (r, ib') → G H locs 0 0 (F0 m 27 ls []) := by
    intro v3_0 v5_0 ibL0 H locs ls hP hD hS hl h
    refine hG _ _ _ _ _ ?_
    refine lv_lload_n hx hb dX9_totalOf_27 rfl (lv_at hl 3 rfl) ?_
    have g0 := Option.some.inj h
    obtain ⟨h1, g1⟩ := Prod.mk.inj g0
    subst h1
    subst g1
    exact W.lret (v := v3_0) hx hb hr (fun t ht hW => ⟨⟨v3_0, (), rfl, rfl, by rw [ht]; exact hP, va_K.moved hW.alike hK, hD⟩, hS.F ht⟩) hS.2.2 dX9_totalOf_28
  have L0 : ∀ (K0 : Int64 → Int32 → Bool → Option (Int64 × Bool)) (HX0 : ∀ (v3_0 : Int64) (v5_0 : Int32) (ibL0 : Bool) (H : Heap) (locs : List Loc) (ls : Array Slot), va_P D vwCl (mW q v cJ V ibL0 dn rf mk th ++ ([(t0, .inl (cJ, 121, .inr (.inl p0)))])) H → va_D A (mW q v cJ V ibL0 dn rf mk th ++ ([(t0, .inl (cJ, 121, .inr (.inl p0)))])) → va_S A s.heap H locs → lv_has ls 6 [(0, .ref q), (1, .ref t0), (2, .int p1), (3, .long v3_0), (5, .int v5_0)] → K0 v3_0 v5_0 ibL0 = some (r, ib') → G H locs 0 0 (F0 m 27 ls [])) (fu0 : Nat) (v3_0 : Int64) (v5_0 : Int32) (ibL0 : Bool) (H : Heap) (locs : List Loc) (ls : Array Slot), va_P D vwCl (mW q v cJ V ibL0 dn rf mk th ++ ([(t0, .inl (cJ, 121, .inr (.inl p0)))])) H → va_D A (mW q v cJ V ibL0 dn rf mk th ++ ([(t0, .inl (cJ, 121, .inr (.inl p0)))])) → va_S A s.heap H locs → lv_has ls 6 [(0, .ref q), (1, .ref t0), (2, .int p1), (3, .long v3_0), (5, .int v5_0)] → p_X9_totalOf_L0 F p0 p1 K0 fu0 v3_0 v5_0 ibL0 = some (r, ib') → G H locs 0 0 (F0 m 5 ls []) := by
    intro K0 HX0 fu0
    induction fu0 with
    | zero =>
      intro v3_0 v5_0 ibL0 H locs ls hP hD hS hl h
      exact (zno h).elim
    | succ fu0 ih0 =>
      intro v3_0 v5_0 ibL0 H locs ls hP hD hS hl h
      refine hG _ _ _ _ _ ?_
      unfold p_X9_totalOf_L0 at h
      refine lv_iload hx hb dX9_totalOf_5 (lv_at hl 4 rfl) ?_
      refine lv_iload_n hx hb dX9_totalOf_7 rfl (lv_at hl 2 rfl) ?_
      refine lv_icmp_gt (tgt := 27) hx hb dX9_totalOf_8 (by decide) (fun c8 => ?_) (fun c8 => ?_)
      · replace h := zif_t h c8
        exact hGW _ _ _ _ _ (HX0 v3_0 v5_0 ibL0 _ _ ls hP hD hS (lv_sub hl [0, 1, 2, 3, 4] rfl) h)
      · replace h := zif_f h c8
        refine lv_aload_n hx hb dX9_totalOf_11 rfl (lv_at hl 0 rfl) ?_
        refine lv_lload_n hx hb dX9_totalOf_12 rfl (lv_at hl 3 rfl) ?_
        refine lv_aload_n hx hb dX9_totalOf_13 rfl (lv_at hl 1 rfl) ?_
        refine lv_iload hx hb dX9_totalOf_14 (lv_at hl 4 rfl) ?_
        obtain ⟨z16, h⟩ := zg_some h
        refine va_lald hx hb hK hP 2 0 rfl rfl z16 dX9_totalOf_16 ?_
        obtain ⟨r1, ib_2, e3, h⟩ := zb2_some h
        have hPc := zsub (wn := (mW q v cJ V ibL0 dn rf mk th)) hP [0, 1] rfl
        have hDc := hD.sub (ws' := (mW q v cJ V ibL0 dn rf mk th)) [0, 1] (by decide) rfl
        refine zgol (va_runV (As := [.long v3_0, .long (p0 v5_0.toNatClampNeg)]) (rest := []) ⟨hx, hb, hml, hown, hts⟩ (c_X9_plus l D q v cJ cI cO cB V ibL0 dn rf mk th v3_0 (p0 v5_0.toNatClampNeg) r1 ib_2 e3 H.size) (cwV 2 hts gX9_totalOf_X9_plus rfl rfl rfl hdV_X9_plus ⟨Nat.le_of_ble_eq_true rfl, Nat.le_of_ble_eq_true rfl⟩) (zpreV (q0 := 0) (ci := 9) (T := TX9) (N := 6) hK hPc hDc rfl rfl [.long v3_0, .long (p0 v5_0.toNatClampNeg)]) rfl rfl hl.1 rfl (lv_room (Nat.le_of_ble_eq_true rfl)) dX9_totalOf_17 ⟨Nat.le_of_ble_eq_true rfl, Nat.le_of_ble_eq_true rfl⟩) (va_free hD hS hA [0, 1] rfl) (zjs (wn := (mW q v cJ V ib_2 dn rf mk th ++ ([(t0, .inl (cJ, 121, .inr (.inl p0)))]))) [1, 2, 0] (zjF (wr := ([(t0, .inl (cJ, 121, .inr (.inl p0)))] : va_W)) hP hD hS hA [0, 1] [2] rfl rfl (by decide) (by decide)) rfl (by decide)) hS (fun H locs hP hD hS => ?_)
        replace hP : va_P D vwCl (mW q v cJ V ib_2 dn rf mk th ++ ([(t0, .inl (cJ, 121, .inr (.inl p0)))])) H := hP
        replace hD : va_D A (mW q v cJ V ib_2 dn rf mk th ++ ([(t0, .inl (cJ, 121, .inr (.inl p0)))])) := hD
        refine lv_lstore_n (lv' := [(3, .long r1), (0, .ref q), (1, .ref t0), (2, .int p1), (5, .int v5_0)]) hx hb dX9_totalOf_20 rfl hl (by decide) rfl (fun ls hl => ?_)
        refine lv_iinc (v := (v5_0 + (1 : Int32))) (lv' := [(5, .int (v5_0 + (1 : Int32))), (3, .long r1), (0, .ref q), (1, .ref t0), (2, .int p1)]) hx hb dX9_totalOf_21 hl (k := 4) rfl rfl (by decide) rfl (fun ls hl => ?_)
        refine lv_goto (tgt := 5) hx hb dX9_totalOf_24 (by decide) ?_
        exact hGW _ _ _ _ _ (ih0 r1 (v5_0 + (1 : Int32)) ib_2 _ _ ls hP hD hS (lv_sub hl [2, 3, 4, 1, 0] rfl) h)
  exact hGW _ _ _ _ _ (L0 _ X0 F (0 : Int64) (1 : Int32) ib _ _ ls hP hD hS (lv_sub hl [2, 3, 4, 1, 0] rfl) h)

noncomputable def p_X9_isGreat_L0 (F : Nat) (p0 : Nat → Int64) (p1 : Int32) (p2 : Int32) (k : Int32 → Option Bool) : Nat → Int32 → Option Bool
  | 0, _ => none
  | n + 1, v3_0 => (if p1 < v3_0 then (k v3_0) else (zg (v3_0 < 0 ∨ 121 ≤ v3_0.toNatClampNeg) (if 0 < (lg_cmp (p0 v3_0.toNatClampNeg) (p2.toInt64)) then (some true) else (zg (v3_0 < 0 ∨ 121 ≤ v3_0.toNatClampNeg) (if 0 ≤ (lg_cmp (p0 v3_0.toNatClampNeg) ((-p2).toInt64)) then (p_X9_isGreat_L0 F p0 p1 p2 k n (v3_0 + (1 : Int32))) else (some true))))))
noncomputable def p_X9_isGreat (F : Nat) (p0 : Nat → Int64) (p1 : Int32) (p2 : Int32) : Option Bool := (p_X9_isGreat_L0 F p0 p1 p2 (fun v3_0 => (some false)) F (1 : Int32))
theorem hdS_X9_isGreat : yX9_isGreat.cls ≠ "java/lang/invoke/MethodHandle" ∧ yX9_isGreat.cls ≠ "java/lang/invoke/VarHandle" ∧ (parseMethodDescriptor yX9_isGreat.desc).map (fun d => d.parameters.length) = some 3 := by decide +kernel
set_option maxHeartbeats 4000000 in
set_option maxRecDepth 100000 in
theorem c_X9_isGreat (l : Launch) (D : va_G) (cJ cI cO cB : ClassId) (F : Nat) (t0 : Nat) (p0 : Nat → Int64) (p1 : Int32) (p2 : Int32) (r : Bool) (h : p_X9_isGreat F p0 p1 p2 = some r) : zMi l yX9_isGreat wsX9_isGreat 0 0 0 0 D (zT cJ cI cO cB) [.ref t0, .int p1, .int p2] ([(t0, .inl (cJ, 121, .inr (.inl p0)))] : va_W) ([(t0, .inl (cJ, 121, .inr (.inl p0)))] : va_W) (z01 r) := by
  intro sz
  delta zQi
  refine Met.ofW (cc := cX9_isGreat) (maxL := 4) (ret := (some .boolean)) (by decide) rfl ?_
  intro p e s m args below meth c s₁ B hml hv
  obtain ⟨rfl, hsz, hP, hK, hD0⟩ := hv
  have hx := B.exec
  have hb := B.bytes
  have hr := B.returns
  have hts := atoms_spec (ws := wsX9_isGreat) B.pre
  have hown : s.vm.findClass RX9 = some m.cls := findClass_of_methodNamed B.named
  have hlocks := B.notSynchronized
  subst hsz
  have hD := hD0.self (sz := s.heap.size)
  generalize hAe : va_A ([(t0, .inl (cJ, 121, .inr (.inl p0)))] : va_W) s.heap.size = A at hD ⊢
  have hA : ∀ q : Nat, s.heap.size ≤ q → A q := fun q h => by rw [← hAe]; exact Or.inr h
  have hS : va_S A s.heap s.heap [] := va_S.rf
  have hl := lv_entry ([.ref t0, .int p1, .int p2]) (n := 4) (Nat.le_of_ble_eq_true rfl)
  rw [lg_entry_eq]
  generalize (lg_sl ([.ref t0, .int p1, .int p2]) ++ List.replicate (4 - (lg_sl ([.ref t0, .int p1, .int p2])).length) Slot.unset).toArray = ls at hl ⊢
  replace hl : lv_has ls 4 [(0, .ref t0), (1, .int p1), (2, .int p2)] := hl
  replace h : (p_X9_isGreat_L0 F p0 p1 p2 (fun v3_0 => (some false)) F (1 : Int32)) = some r := h
  refine zabs (fun G hG hGW => ?_)
  obtain ⟨H, hHe⟩ : ∃ H, H = s.heap := ⟨_, rfl⟩
  rw [← hHe] at hP
  replace hS : va_S A s.heap H [] := by rw [hHe]; exact hS
  refine zheap hHe ?_
  refine lv_iconst (v := (1 : Int32)) hx hb dX9_isGreat_0 (by decide) ?_
  refine lv_istore_n (lv' := [(3, .int (1 : Int32)), (0, .ref t0), (1, .int p1), (2, .int p2)]) hx hb dX9_isGreat_1 rfl hl (by decide) rfl (fun ls hl => ?_)
  have X0 : ∀ (v3_0 : Int32) (H : Heap) (locs : List Loc) (ls : Array Slot), va_P D vwCl ([(t0, .inl (cJ, 121, .inr (.inl p0)))] : va_W) H → va_D A ([(t0, .inl (cJ, 121, .inr (.inl p0)))] : va_W) → va_S A s.heap H locs → lv_has ls 4 [(0, .ref t0), (1, .int p1), (2, .int p2), (3, .int v3_0)] → (some false) = some r → G H locs 0 0 (F0 m 34 ls []) := by
    intro v3_0 H locs ls hP hD hS hl h
    refine hG _ _ _ _ _ ?_
    refine lv_iconst (v := (0 : Int32)) hx hb dX9_isGreat_34 (by decide) ?_
    have h1 := Option.some.inj h
    subst h1
    exact W.zret (v := (0 : Int32)) hx hb hr (z01_nar false) (fun t ht hW => ⟨⟨(0 : Int32), (), rfl, rfl, by rw [ht]; exact hP, va_K.moved hW.alike hK, hD⟩, hS.F ht⟩) hS.2.2 dX9_isGreat_35
  have L0 : ∀ (K0 : Int32 → Option Bool) (HX0 : ∀ (v3_0 : Int32) (H : Heap) (locs : List Loc) (ls : Array Slot), va_P D vwCl ([(t0, .inl (cJ, 121, .inr (.inl p0)))] : va_W) H → va_D A ([(t0, .inl (cJ, 121, .inr (.inl p0)))] : va_W) → va_S A s.heap H locs → lv_has ls 4 [(0, .ref t0), (1, .int p1), (2, .int p2), (3, .int v3_0)] → K0 v3_0 = some r → G H locs 0 0 (F0 m 34 ls [])) (fu0 : Nat) (v3_0 : Int32) (H : Heap) (locs : List Loc) (ls : Array Slot), va_P D vwCl ([(t0, .inl (cJ, 121, .inr (.inl p0)))] : va_W) H → va_D A ([(t0, .inl (cJ, 121, .inr (.inl p0)))] : va_W) → va_S A s.heap H locs → lv_has ls 4 [(0, .ref t0), (1, .int p1), (2, .int p2), (3, .int v3_0)] → p_X9_isGreat_L0 F p0 p1 p2 K0 fu0 v3_0 = some r → G H locs 0 0 (F0 m 2 ls []) := by
    intro K0 HX0 fu0
    induction fu0 with
    | zero =>
      intro v3_0 H locs ls hP hD hS hl h
      exact (zno h).elim
    | succ fu0 ih0 =>
      intro v3_0 H locs ls hP hD hS hl h
      refine hG _ _ _ _ _ ?_
      unfold p_X9_isGreat_L0 at h
      refine lv_iload_n hx hb dX9_isGreat_2 rfl (lv_at hl 3 rfl) ?_
      refine lv_iload_n hx hb dX9_isGreat_3 rfl (lv_at hl 1 rfl) ?_
      refine lv_icmp_gt (tgt := 34) hx hb dX9_isGreat_4 (by decide) (fun c4 => ?_) (fun c4 => ?_)
      · replace h := zif_t h c4
        exact hGW _ _ _ _ _ (HX0 v3_0 _ _ ls hP hD hS (lv_sub hl [0, 1, 2, 3] rfl) h)
      · replace h := zif_f h c4
        refine lv_aload_n hx hb dX9_isGreat_7 rfl (lv_at hl 0 rfl) ?_
        refine lv_iload_n hx hb dX9_isGreat_8 rfl (lv_at hl 3 rfl) ?_
        obtain ⟨z9, h⟩ := zg_some h
        refine va_lald hx hb hK hP 0 0 rfl rfl z9 dX9_isGreat_9 ?_
        refine lv_iload_n hx hb dX9_isGreat_10 rfl (lv_at hl 2 rfl) ?_
        refine lv_i2l (v := p2.toInt64) hx hb dX9_isGreat_11 rfl ?_
        refine W.lcmp hx hb dX9_isGreat_12 ?_
        refine lv_if_gt (tgt := 26) hx hb dX9_isGreat_13 (by decide) (fun c13 => ?_) (fun c13 => ?_)
        · replace h := zif_t h c13
          refine lv_iconst (v := (1 : Int32)) hx hb dX9_isGreat_26 (by decide) ?_
          have h1 := Option.some.inj h
          subst h1
          exact W.zret (v := (1 : Int32)) hx hb hr (z01_nar true) (fun t ht hW => ⟨⟨(1 : Int32), (), rfl, rfl, by rw [ht]; exact hP, va_K.moved hW.alike hK, hD⟩, hS.F ht⟩) hS.2.2 dX9_isGreat_27
        · replace h := zif_f h c13
          refine lv_aload_n hx hb dX9_isGreat_16 rfl (lv_at hl 0 rfl) ?_
          refine lv_iload_n hx hb dX9_isGreat_17 rfl (lv_at hl 3 rfl) ?_
          obtain ⟨z18, h⟩ := zg_some h
          refine va_lald hx hb hK hP 0 0 rfl rfl z18 dX9_isGreat_18 ?_
          refine lv_iload_n hx hb dX9_isGreat_19 rfl (lv_at hl 2 rfl) ?_
          refine lv_ineg hx hb dX9_isGreat_20 ?_
          refine lv_i2l (v := (-p2).toInt64) hx hb dX9_isGreat_21 rfl ?_
          refine W.lcmp hx hb dX9_isGreat_22 ?_
          refine lv_if_ge (tgt := 28) hx hb dX9_isGreat_23 (by decide) (fun c23 => ?_) (fun c23 => ?_)
          · replace h := zif_t h c23
            refine lv_iinc (v := (v3_0 + (1 : Int32))) (lv' := [(3, .int (v3_0 + (1 : Int32))), (0, .ref t0), (1, .int p1), (2, .int p2)]) hx hb dX9_isGreat_28 hl (k := 3) rfl rfl (by decide) rfl (fun ls hl => ?_)
            refine lv_goto (tgt := 2) hx hb dX9_isGreat_31 (by decide) ?_
            exact hGW _ _ _ _ _ (ih0 (v3_0 + (1 : Int32)) _ _ ls hP hD hS (lv_sub hl [1, 2, 3, 0] rfl) h)
          · replace h := zif_f h c23
            refine lv_iconst (v := (1 : Int32)) hx hb dX9_isGreat_26 (by decide) ?_
            have h1 := Option.some.inj h
            subst h1
            exact W.zret (v := (1 : Int32)) hx hb hr (z01_nar true) (fun t ht hW => ⟨⟨(1 : Int32), (), rfl, rfl, by rw [ht]; exact hP, va_K.moved hW.alike hK, hD⟩, hS.F ht⟩) hS.2.2 dX9_isGreat_27
  exact hGW _ _ _ _ _ (L0 _ X0 F (1 : Int32) _ _ ls hP hD hS (lv_sub hl [1, 2, 3, 0] rfl) h)

noncomputable def p_X9_determinantOf_L0 (F : Nat) (rc : (Nat → Int64) → Int32 → Int32 → Int32 → Option Int64) (p0 : Nat → Int64) (p1 : Int32) (p2 : Int32) (p3 : Int32) (k : Int64 → Int32 → Int32 → Option Int64) : Nat → Int64 → Int32 → Int32 → Option Int64
  | 0, _, _, _ => none
  | n + 1, v4_0, v6_0, v7_0 => (if p1 < v7_0 then (k v4_0 v6_0 v7_0) else (if ¬ ((p3 >>> (v7_0 &&& 31)) &&& (1 : Int32)) = (1 : Int32) then (p_X9_determinantOf_L0 F rc p0 p1 p2 p3 k n v4_0 v6_0 (v7_0 + (1 : Int32))) else (zb1 (p_X9_common F p2 v7_0) (fun r1 => (zg (r1 < 0 ∨ 121 ≤ r1.toNatClampNeg) (zb1 (rc p0 p1 (p2 + (1 : Int32)) (p3 &&& (((1 : Int32) <<< (v7_0 &&& 31)) ^^^ (-1 : Int32)))) (fun r3 => (p_X9_determinantOf_L0 F rc p0 p1 p2 p3 k n (v4_0 + (((v6_0.toInt64) * (p0 r1.toNatClampNeg)) * r3)) (-v6_0) (v7_0 + (1 : Int32))))))))))
noncomputable def p_X9_determinantOf : Nat → Nat → (Nat → Int64) → Int32 → Int32 → Int32 → Option Int64
  | 0, _, _, _, _, _ => none
  | dp + 1, F, p0, p1, p2, p3 => (if p2 ≤ p1 then (p_X9_determinantOf_L0 F (p_X9_determinantOf dp F) p0 p1 p2 p3 (fun v4_0 v6_0 v7_0 => (some v4_0)) F (0 : Int64) (1 : Int32) (1 : Int32)) else (some (1 : Int64)))
theorem hdS_X9_determinantOf : yX9_determinantOf.cls ≠ "java/lang/invoke/MethodHandle" ∧ yX9_determinantOf.cls ≠ "java/lang/invoke/VarHandle" ∧ (parseMethodDescriptor yX9_determinantOf.desc).map (fun d => d.parameters.length) = some 4 := by decide +kernel
set_option maxHeartbeats 4000000 in
set_option maxRecDepth 100000 in
theorem c_X9_determinantOf (l : Launch) (D : va_G) (cJ cI cO cB : ClassId) (F : Nat) : ∀ (dp : Nat) (t0 : Nat) (p0 : Nat → Int64) (p1 : Int32) (p2 : Int32) (p3 : Int32) (r : Int64) (h : p_X9_determinantOf dp F p0 p1 p2 p3 = some r), zMl l yX9_determinantOf wsX9_determinantOf (2 + dp) (43 + dp * 27) 0 0 D (zT cJ cI cO cB) [.ref t0, .int p1, .int p2, .int p3] ([(t0, .inl (cJ, 121, .inr (.inl p0)))] : va_W) ([(t0, .inl (cJ, 121, .inr (.inl p0)))] : va_W) r := by
  intro dp
  induction dp with
  | zero =>
    intro t0 p0 p1 p2 p3 r h
    exact (zno h).elim
  | succ dp ihd =>
    intro t0 p0 p1 p2 p3 r h
    intro sz
    delta zQl
    refine Met.ofW (cc := cX9_determinantOf) (maxL := 8) (ret := (some .long)) (by decide) rfl ?_
    intro p e s m args below meth c s₁ B hml hv
    obtain ⟨rfl, hsz, hP, hK, hD0⟩ := hv
    have hx := B.exec
    have hb := B.bytes
    have hr := B.returns
    have hts := atoms_spec (ws := wsX9_determinantOf) B.pre
    have hown : s.vm.findClass RX9 = some m.cls := findClass_of_methodNamed B.named
    have hlocks := B.notSynchronized
    subst hsz
    have hD := hD0.self (sz := s.heap.size)
    generalize hAe : va_A ([(t0, .inl (cJ, 121, .inr (.inl p0)))] : va_W) s.heap.size = A at hD ⊢
    have hA : ∀ q : Nat, s.heap.size ≤ q → A q := fun q h => by rw [← hAe]; exact Or.inr h
    have hS : va_S A s.heap s.heap [] := va_S.rf
    have hl := lv_entry ([.ref t0, .int p1, .int p2, .int p3]) (n := 8) (Nat.le_of_ble_eq_true rfl)
    rw [lg_entry_eq]
    generalize (lg_sl ([.ref t0, .int p1, .int p2, .int p3]) ++ List.replicate (8 - (lg_sl ([.ref t0, .int p1, .int p2, .int p3])).length) Slot.unset).toArray = ls at hl ⊢
    replace hl : lv_has ls 8 [(0, .ref t0), (1, .int p1), (2, .int p2), (3, .int p3)] := hl
    obtain ⟨rc, hrc⟩ : ∃ rc, rc = p_X9_determinantOf dp F := ⟨_, rfl⟩
    replace h : (if p2 ≤ p1 then (p_X9_determinantOf_L0 F rc p0 p1 p2 p3 (fun v4_0 v6_0 v7_0 => (some v4_0)) F (0 : Int64) (1 : Int32) (1 : Int32)) else (some (1 : Int64))) = some r := by rw [hrc]; exact h
    refine zabs (fun G hG hGW => ?_)
    obtain ⟨H, hHe⟩ : ∃ H, H = s.heap := ⟨_, rfl⟩
    rw [← hHe] at hP
    replace hS : va_S A s.heap H [] := by rw [hHe]; exact hS
    refine zheap hHe ?_
    refine lv_iload_n hx hb dX9_determinantOf_0 rfl (lv_at hl 2 rfl) ?_
    refine lv_iload_n hx hb dX9_determinantOf_1 rfl (lv_at hl 1 rfl) ?_
    refine lv_icmp_le (tgt := 7) hx hb dX9_determinantOf_2 (by decide) (fun c2 => ?_) (fun c2 => ?_)
    · replace h := zif_t h c2
      refine lv_lconst (v := (0 : Int64)) hx hb dX9_determinantOf_7 (by decide) ?_
      refine lv_lstore (lv' := [(4, .long (0 : Int64)), (0, .ref t0), (1, .int p1), (2, .int p2), (3, .int p3)]) hx hb dX9_determinantOf_8 hl (by decide) rfl (fun ls hl => ?_)
      refine lv_iconst (v := (1 : Int32)) hx hb dX9_determinantOf_10 (by decide) ?_
      refine lv_istore (lv' := [(6, .int (1 : Int32)), (4, .long (0 : Int64)), (0, .ref t0), (1, .int p1), (2, .int p2), (3, .int p3)]) hx hb dX9_determinantOf_11 hl (by decide) rfl (fun ls hl => ?_)
      refine lv_iconst (v := (1 : Int32)) hx hb dX9_determinantOf_13 (by decide) ?_
      refine lv_istore (lv' := [(7, .int (1 : Int32)), (6, .int (1 : Int32)), (4, .long (0 : Int64)), (0, .ref t0), (1, .int p1), (2, .int p2), (3, .int p3)]) hx hb dX9_determinantOf_14 hl (by decide) rfl (fun ls hl => ?_)
      have X0 : ∀ (v4_0 : Int64) (v6_0 : Int32) (v7_0 : Int32) (H : Heap) (locs : List Loc) (ls : Array Slot), va_P D vwCl ([(t0, .inl (cJ, 121, .inr (.inl p0)))] : va_W) H → va_D A ([(t0, .inl (cJ, 121, .inr (.inl p0)))] : va_W) → va_S A s.heap H locs → lv_has ls 8 [(0, .ref t0), (1, .int p1), (2, .int p2), (3, .int p3), (4, .long v4_0), (6, .int v6_0), (7, .int v7_0)] → (some v4_0) = some r → G H locs 0 0 (F0 m 77 ls []) := by
        intro v4_0 v6_0 v7_0 H locs ls hP hD hS hl h
        refine hG _ _ _ _ _ ?_
        refine lv_lload hx hb dX9_determinantOf_77 (lv_at hl 4 rfl) ?_
        have h1 := Option.some.inj h
        subst h1
        exact W.lret (v := v4_0) hx hb hr (fun t ht hW => ⟨⟨v4_0, (), rfl, rfl, by rw [ht]; exact hP, va_K.moved hW.alike hK, hD⟩, hS.F ht⟩) hS.2.2 dX9_determinantOf_79
      have L0 : ∀ (K0 : Int64 → Int32 → Int32 → Option Int64) (HX0 : ∀ (v4_0 : Int64) (v6_0 : Int32) (v7_0 : Int32) (H : Heap) (locs : List Loc) (ls : Array Slot), va_P D vwCl ([(t0, .inl (cJ, 121, .inr (.inl p0)))] : va_W) H → va_D A ([(t0, .inl (cJ, 121, .inr (.inl p0)))] : va_W) → va_S A s.heap H locs → lv_has ls 8 [(0, .ref t0), (1, .int p1), (2, .int p2), (3, .int p3), (4, .long v4_0), (6, .int v6_0), (7, .int v7_0)] → K0 v4_0 v6_0 v7_0 = some r → G H locs 0 0 (F0 m 77 ls [])) (fu0 : Nat) (v4_0 : Int64) (v6_0 : Int32) (v7_0 : Int32) (H : Heap) (locs : List Loc) (ls : Array Slot), va_P D vwCl ([(t0, .inl (cJ, 121, .inr (.inl p0)))] : va_W) H → va_D A ([(t0, .inl (cJ, 121, .inr (.inl p0)))] : va_W) → va_S A s.heap H locs → lv_has ls 8 [(0, .ref t0), (1, .int p1), (2, .int p2), (3, .int p3), (4, .long v4_0), (6, .int v6_0), (7, .int v7_0)] → p_X9_determinantOf_L0 F rc p0 p1 p2 p3 K0 fu0 v4_0 v6_0 v7_0 = some r → G H locs 0 0 (F0 m 16 ls []) := by
        intro K0 HX0 fu0
        induction fu0 with
        | zero =>
          intro v4_0 v6_0 v7_0 H locs ls hP hD hS hl h
          exact (zno h).elim
        | succ fu0 ih0 =>
          intro v4_0 v6_0 v7_0 H locs ls hP hD hS hl h
          refine hG _ _ _ _ _ ?_
          unfold p_X9_determinantOf_L0 at h
          refine lv_iload hx hb dX9_determinantOf_16 (lv_at hl 6 rfl) ?_
          refine lv_iload_n hx hb dX9_determinantOf_18 rfl (lv_at hl 1 rfl) ?_
          refine lv_icmp_gt (tgt := 77) hx hb dX9_determinantOf_19 (by decide) (fun c19 => ?_) (fun c19 => ?_)
          · replace h := zif_t h c19
            exact hGW _ _ _ _ _ (HX0 v4_0 v6_0 v7_0 _ _ ls hP hD hS (lv_sub hl [0, 1, 2, 3, 4, 5, 6] rfl) h)
          · replace h := zif_f h c19
            refine lv_iload_n hx hb dX9_determinantOf_22 rfl (lv_at hl 3 rfl) ?_
            refine lv_iload hx hb dX9_determinantOf_23 (lv_at hl 6 rfl) ?_
            refine lv_ishr hx hb dX9_determinantOf_25 ?_
            refine lv_iconst (v := (1 : Int32)) hx hb dX9_determinantOf_26 (by decide) ?_
            refine lv_iand hx hb dX9_determinantOf_27 ?_
            refine lv_iconst (v := (1 : Int32)) hx hb dX9_determinantOf_28 (by decide) ?_
            refine lv_icmp_ne (tgt := 71) hx hb dX9_determinantOf_29 (by decide) (fun c29 => ?_) (fun c29 => ?_)
            · replace h := zif_t h c29
              refine lv_iinc (v := (v7_0 + (1 : Int32))) (lv' := [(7, .int (v7_0 + (1 : Int32))), (0, .ref t0), (1, .int p1), (2, .int p2), (3, .int p3), (4, .long v4_0), (6, .int v6_0)]) hx hb dX9_determinantOf_71 hl (k := 6) rfl rfl (by decide) rfl (fun ls hl => ?_)
              refine lv_goto (tgt := 16) hx hb dX9_determinantOf_74 (by decide) ?_
              exact hGW _ _ _ _ _ (ih0 v4_0 v6_0 (v7_0 + (1 : Int32)) _ _ ls hP hD hS (lv_sub hl [1, 2, 3, 4, 5, 6, 0] rfl) h)
            · replace h := zif_fn h c29
              refine lv_lload hx hb dX9_determinantOf_32 (lv_at hl 4 rfl) ?_
              refine lv_iload hx hb dX9_determinantOf_34 (lv_at hl 5 rfl) ?_
              refine lv_i2l (v := v6_0.toInt64) hx hb dX9_determinantOf_36 rfl ?_
              refine lv_aload_n hx hb dX9_determinantOf_37 rfl (lv_at hl 0 rfl) ?_
              refine lv_iload_n hx hb dX9_determinantOf_38 rfl (lv_at hl 2 rfl) ?_
              refine lv_iload hx hb dX9_determinantOf_39 (lv_at hl 6 rfl) ?_
              obtain ⟨r1, e2, h⟩ := zb1_some h
              refine zgoi (va_runS (As := [.int p2, .int v7_0]) (rest := [.ref t0, .long (v6_0.toInt64), .long v4_0]) ⟨hx, hb, hml, hown, hts⟩ (c_X9_common l D (zT cJ cI cO cB) F p2 v7_0 r1 e2 H.size) (va_cwS 2 hts gX9_determinantOf_X9_common rfl rfl rfl hdS_X9_common ⟨(by show 1 + 1 ≤ 2 + (dp + 1); omega), (by show 8 + (3 + 11) + 21 ≤ 43 + (dp + 1) * 27; omega)⟩) (zpreS hK zP0 (zD0 (A := A)) [.int p2, .int v7_0]) rfl rfl hl.1 rfl (lv_room (Nat.le_of_ble_eq_true rfl)) dX9_determinantOf_41 ⟨Nat.le_of_ble_eq_true rfl, Nat.le_of_ble_eq_true rfl⟩) (zf0 hS hA) (zjE hP hD) hS (fun H locs hP hD hS => ?_)
              obtain ⟨z44, h⟩ := zg_some h
              refine va_lald hx hb hK hP 0 0 rfl rfl z44 dX9_determinantOf_44 ?_
              refine lv_lmul hx hb dX9_determinantOf_45 ?_
              refine lv_aload_n hx hb dX9_determinantOf_46 rfl (lv_at hl 0 rfl) ?_
              refine lv_iload_n hx hb dX9_determinantOf_47 rfl (lv_at hl 1 rfl) ?_
              refine lv_iload_n hx hb dX9_determinantOf_48 rfl (lv_at hl 2 rfl) ?_
              refine lv_iconst (v := (1 : Int32)) hx hb dX9_determinantOf_49 (by decide) ?_
              refine lv_iadd hx hb dX9_determinantOf_50 ?_
              refine lv_iload_n hx hb dX9_determinantOf_51 rfl (lv_at hl 3 rfl) ?_
              refine lv_iconst (v := (1 : Int32)) hx hb dX9_determinantOf_52 (by decide) ?_
              refine lv_iload hx hb dX9_determinantOf_53 (lv_at hl 6 rfl) ?_
              refine lv_ishl hx hb dX9_determinantOf_55 ?_
              refine lv_iconst (v := (-1 : Int32)) hx hb dX9_determinantOf_56 (by decide) ?_
              refine lv_ixor hx hb dX9_determinantOf_57 ?_
              refine lv_iand hx hb dX9_determinantOf_58 ?_
              obtain ⟨r3, e4, h⟩ := zb1_some h
              refine zgol (va_runS (As := [.ref t0, .int p1, .int (p2 + (1 : Int32)), .int (p3 &&& (((1 : Int32) <<< (v7_0 &&& 31)) ^^^ (-1 : Int32)))]) (rest := [.long ((v6_0.toInt64) * (p0 r1.toNatClampNeg)), .long v4_0]) ⟨hx, hb, hml, hown, hts⟩ (ihd t0 p0 p1 (p2 + (1 : Int32)) (p3 &&& (((1 : Int32) <<< (v7_0 &&& 31)) ^^^ (-1 : Int32))) r3 (by rw [← hrc]; exact e4) H.size) (va_cwS 4 hts gX9_determinantOf_X9_determinantOf rfl rfl rfl hdS_X9_determinantOf ⟨(by show 2 + dp + 1 ≤ 2 + (dp + 1); omega), (by show 8 + (8 + 11) + (43 + dp * 27) ≤ 43 + (dp + 1) * 27; omega)⟩) (zpreS hK hP hD [.ref t0, .int p1, .int (p2 + (1 : Int32)), .int (p3 &&& (((1 : Int32) <<< (v7_0 &&& 31)) ^^^ (-1 : Int32)))]) rfl rfl hl.1 rfl (lv_room (Nat.le_of_ble_eq_true rfl)) dX9_determinantOf_59 ⟨Nat.le_of_ble_eq_true rfl, Nat.le_of_ble_eq_true rfl⟩) (zfree hD hS hA) (zjW hD hS hA) hS (fun H locs hP hD hS => ?_)
              replace hP : va_P D vwCl ([(t0, .inl (cJ, 121, .inr (.inl p0)))] : va_W) H := hP
              replace hD : va_D A ([(t0, .inl (cJ, 121, .inr (.inl p0)))] : va_W) := hD
              refine lv_lmul hx hb dX9_determinantOf_62 ?_
              refine lv_ladd hx hb dX9_determinantOf_63 ?_
              refine lv_lstore (lv' := [(4, .long (v4_0 + (((v6_0.toInt64) * (p0 r1.toNatClampNeg)) * r3))), (0, .ref t0), (1, .int p1), (2, .int p2), (3, .int p3), (6, .int v6_0), (7, .int v7_0)]) hx hb dX9_determinantOf_64 hl (by decide) rfl (fun ls hl => ?_)
              refine lv_iload hx hb dX9_determinantOf_66 (lv_at hl 5 rfl) ?_
              refine lv_ineg hx hb dX9_determinantOf_68 ?_
              refine lv_istore (lv' := [(6, .int (-v6_0)), (4, .long (v4_0 + (((v6_0.toInt64) * (p0 r1.toNatClampNeg)) * r3))), (0, .ref t0), (1, .int p1), (2, .int p2), (3, .int p3), (7, .int v7_0)]) hx hb dX9_determinantOf_69 hl (by decide) rfl (fun ls hl => ?_)
              refine lv_iinc (v := (v7_0 + (1 : Int32))) (lv' := [(7, .int (v7_0 + (1 : Int32))), (6, .int (-v6_0)), (4, .long (v4_0 + (((v6_0.toInt64) * (p0 r1.toNatClampNeg)) * r3))), (0, .ref t0), (1, .int p1), (2, .int p2), (3, .int p3)]) hx hb dX9_determinantOf_71 hl (k := 6) rfl rfl (by decide) rfl (fun ls hl => ?_)
              refine lv_goto (tgt := 16) hx hb dX9_determinantOf_74 (by decide) ?_
              exact hGW _ _ _ _ _ (ih0 (v4_0 + (((v6_0.toInt64) * (p0 r1.toNatClampNeg)) * r3)) (-v6_0) (v7_0 + (1 : Int32)) _ _ ls hP hD hS (lv_sub hl [3, 4, 5, 6, 2, 1, 0] rfl) h)
      exact hGW _ _ _ _ _ (L0 _ X0 F (0 : Int64) (1 : Int32) (1 : Int32) _ _ ls hP hD hS (lv_sub hl [3, 4, 5, 6, 2, 1, 0] rfl) h)
    · replace h := zif_f h c2
      refine lv_lconst (v := (1 : Int64)) hx hb dX9_determinantOf_5 (by decide) ?_
      have h1 := Option.some.inj h
      subst h1
      exact W.lret (v := (1 : Int64)) hx hb hr (fun t ht hW => ⟨⟨(1 : Int64), (), rfl, rfl, by rw [ht]; exact hP, va_K.moved hW.alike hK, hD⟩, hS.F ht⟩) hS.2.2 dX9_determinantOf_6

noncomputable def p_X9_tau (F : Nat) (p0 : Int32) (p1 : Int32) : Option (Int32 × Int32) := (zb1 (p_X9_isIn p0 (1 : Int32) (999 : Int32)) (fun r1 => (zlt (zb2 (p_X9_isNo false) (fun r3 th_4 => (if (z01 r3) = 0 then (zb1 (p_X9_tauOf F p0) (fun r6 => (some (r6, th_4)))) else (some ((0 : Int32), th_4))))) (fun jf0 => (if (z01 r1) = 0 then (jf0 ) else (zb1 (p_X9_isIn p1 (0 : Int32) (2 : Int32)) (fun r8 => (if (z01 r8) = 0 then (jf0 ) else (zb2 (p_X9_isNo true) (fun r10 th_11 => (if (z01 r10) = 0 then (zb1 (p_X9_tauOf F p0) (fun r13 => (some (r13, th_11)))) else (some ((0 : Int32), th_11)))))))))))))
theorem hdV_X9_tau : yX9_tau.cls = RX9 ∧ yX9_tau.cls ≠ "java/lang/invoke/MethodHandle" ∧ yX9_tau.cls ≠ "java/lang/invoke/VarHandle" ∧ (parseMethodDescriptor yX9_tau.desc).map (fun d => d.parameters.length) = some 2 := by decide +kernel
set_option maxHeartbeats 4000000 in
set_option maxRecDepth 100000 in
theorem c_X9_tau (l : Launch) (D : va_G) (q v : Nat) (cJ cI cO cB : ClassId) (V : Nat → Int64) (ib : Bool) (dn : Int32) (rf : Int32) (mk : Int32) (th : Int32) (F : Nat) (p0 : Int32) (p1 : Int32) (r : Int32) (th' : Int32) (h : p_X9_tau F p0 p1 = some (r, th')) : zMi l yX9_tau wsX9_tau 1 22 0 0 D (zT cJ cI cO cB) [.ref q, .int p0, .int p1] (mW q v cJ V ib dn rf mk th) (mW q v cJ V ib dn rf mk th') r := by
  intro sz
  delta zQi
  refine Met.ofW (cc := cX9_tau) (maxL := 3) (ret := (some .int)) (by decide) rfl ?_
  intro p e s m args below meth c s₁ B hml hv
  obtain ⟨rfl, hsz, hP, hK, hD0⟩ := hv
  have hx := B.exec
  have hb := B.bytes
  have hr := B.returns
  have hts := atoms_spec (ws := wsX9_tau) B.pre
  have hown : s.vm.findClass RX9 = some m.cls := findClass_of_methodNamed B.named
  have hlocks := B.notSynchronized
  subst hsz
  have hD := hD0.self (sz := s.heap.size)
  generalize hAe : va_A (mW q v cJ V ib dn rf mk th) s.heap.size = A at hD ⊢
  have hA : ∀ q : Nat, s.heap.size ≤ q → A q := fun q h => by rw [← hAe]; exact Or.inr h
  have hS : va_S A s.heap s.heap [] := va_S.rf
  have hl := lv_entry ([.ref q, .int p0, .int p1]) (n := 3) (Nat.le_of_ble_eq_true rfl)
  rw [lg_entry_eq]
  generalize (lg_sl ([.ref q, .int p0, .int p1]) ++ List.replicate (3 - (lg_sl ([.ref q, .int p0, .int p1])).length) Slot.unset).toArray = ls at hl ⊢
  replace hl : lv_has ls 3 [(0, .ref q), (1, .int p0), (2, .int p1)] := hl
  replace h : (zb1 (p_X9_isIn p0 (1 : Int32) (999 : Int32)) (fun r1 => (zlt (zb2 (p_X9_isNo false) (fun r3 th_4 => (if (z01 r3) = 0 then (zb1 (p_X9_tauOf F p0) (fun r6 => (some (r6, th_4)))) else (some ((0 : Int32), th_4))))) (fun jf0 => (if (z01 r1) = 0 then (jf0 ) else (zb1 (p_X9_isIn p1 (0 : Int32) (2 : Int32)) (fun r8 => (if (z01 r8) = 0 then (jf0 ) else (zb2 (p_X9_isNo true) (fun r10 th_11 => (if (z01 r10) = 0 then (zb1 (p_X9_tauOf F p0) (fun r13 => (some (r13, th_11)))) else (some ((0 : Int32), th_11))))))))))))) = some (r, th') := h
  refine zabs (fun G hG hGW => ?_)
  obtain ⟨H, hHe⟩ : ∃ H, H = s.heap := ⟨_, rfl⟩
  rw [← hHe] at hP
  replace hS : va_S A s.heap H [] := by rw [hHe]; exact hS
  refine zheap hHe ?_
  refine lv_aload_n hx hb dX9_tau_0 rfl (lv_at hl 0 rfl) ?_
  refine lv_iload_n hx hb dX9_tau_1 rfl (lv_at hl 1 rfl) ?_
  refine lv_iconst (v := (1 : Int32)) hx hb dX9_tau_2 (by decide) ?_
  refine lv_sipush (v := (999 : Int32)) hx hb dX9_tau_3 (by decide) ?_
  obtain ⟨r1, e2, h⟩ := zb1_some h
  refine zgoi (va_runS (As := [.int p0, .int (1 : Int32), .int (999 : Int32)]) (rest := [.ref q]) ⟨hx, hb, hml, hown, hts⟩ (c_X9_isIn l D (zT cJ cI cO cB) p0 (1 : Int32) (999 : Int32) r1 e2 H.size) (va_cwS 3 hts gX9_tau_X9_isIn rfl rfl rfl hdS_X9_isIn ⟨Nat.le_of_ble_eq_true rfl, Nat.le_of_ble_eq_true rfl⟩) (zpreS hK zP0 (zD0 (A := A)) [.int p0, .int (1 : Int32), .int (999 : Int32)]) rfl rfl hl.1 rfl (lv_room (Nat.le_of_ble_eq_true rfl)) dX9_tau_6 ⟨Nat.le_of_ble_eq_true rfl, Nat.le_of_ble_eq_true rfl⟩) (zf0 hS hA) (zjE hP hD) hS (fun H locs hP hD hS => ?_)
  have J0 : ∀  (H : Heap) (locs : List Loc) (ls : Array Slot), va_P D vwCl (mW q v cJ V ib dn rf mk th) H → va_D A (mW q v cJ V ib dn rf mk th) → va_S A s.heap H locs → lv_has ls 3 [(0, .ref q), (1, .int p0), (2, .int p1)] → (zb2 (p_X9_isNo false) (fun r3 th_4 => (if (z01 r3) = 0 then (zb1 (p_X9_tauOf F p0) (fun r6 => (some (r6, th_4)))) else (some ((0 : Int32), th_4))))) = some (r, th') → G H locs 0 0 (F0 m 25 ls [.ref q]) := by
    intro  H locs ls hP hD hS hl h
    refine hG _ _ _ _ _ ?_
    refine lv_iconst (v := (0 : Int32)) hx hb dX9_tau_25 (by decide) ?_
    obtain ⟨r3, th_4, e5, h⟩ := zb2_some h
    refine zgoi (va_runV (As := [.int (0 : Int32)]) (rest := []) ⟨hx, hb, hml, hown, hts⟩ (c_X9_isNo l D q v cJ cI cO cB V ib dn rf mk th false r3 th_4 e5 H.size) (cwV 1 hts gX9_tau_X9_isNo rfl rfl rfl hdV_X9_isNo ⟨Nat.le_of_ble_eq_true rfl, Nat.le_of_ble_eq_true rfl⟩) (zpreV (q0 := 0) (ci := 9) (T := TX9) (N := 6) hK hP hD rfl rfl [.int (0 : Int32)]) rfl rfl hl.1 rfl (lv_room (Nat.le_of_ble_eq_true rfl)) dX9_tau_26 ⟨Nat.le_of_ble_eq_true rfl, Nat.le_of_ble_eq_true rfl⟩) (zfree hD hS hA) (zjW hD hS hA) hS (fun H locs hP hD hS => ?_)
    replace hP : va_P D vwCl (mW q v cJ V ib dn rf mk th_4) H := hP
    replace hD : va_D A (mW q v cJ V ib dn rf mk th_4) := hD
    refine lv_if_eq (tgt := 36) hx hb dX9_tau_29 (by decide) (fun c29 => ?_) (fun c29 => ?_)
    · replace h := zif_t h c29
      refine lv_iload_n hx hb dX9_tau_36 rfl (lv_at hl 1 rfl) ?_
      obtain ⟨r6, e7, h⟩ := zb1_some h
      refine zgoi (va_runS (As := [.int p0]) (rest := []) ⟨hx, hb, hml, hown, hts⟩ (c_X9_tauOf l D (zT cJ cI cO cB) F p0 r6 e7 H.size) (va_cwS 1 hts gX9_tau_X9_tauOf rfl rfl rfl hdS_X9_tauOf ⟨Nat.le_of_ble_eq_true rfl, Nat.le_of_ble_eq_true rfl⟩) (zpreS hK zP0 (zD0 (A := A)) [.int p0]) rfl rfl hl.1 rfl (lv_room (Nat.le_of_ble_eq_true rfl)) dX9_tau_37 ⟨Nat.le_of_ble_eq_true rfl, Nat.le_of_ble_eq_true rfl⟩) (zf0 hS hA) (zjE hP hD) hS (fun H locs hP hD hS => ?_)
      have g0 := Option.some.inj h
      obtain ⟨h1, g1⟩ := Prod.mk.inj g0
      subst h1
      subst g1
      exact W.iret (v := r6) hx hb hr (fun t ht hW => ⟨⟨r6, (), rfl, rfl, by rw [ht]; exact hP, va_K.moved hW.alike hK, hD⟩, hS.F ht⟩) hS.2.2 dX9_tau_40
    · replace h := zif_f h c29
      refine lv_iconst (v := (0 : Int32)) hx hb dX9_tau_32 (by decide) ?_
      refine lv_goto (tgt := 40) hx hb dX9_tau_33 (by decide) ?_
      have g0 := Option.some.inj h
      obtain ⟨h1, g1⟩ := Prod.mk.inj g0
      subst h1
      subst g1
      exact W.iret (v := (0 : Int32)) hx hb hr (fun t ht hW => ⟨⟨(0 : Int32), (), rfl, rfl, by rw [ht]; exact hP, va_K.moved hW.alike hK, hD⟩, hS.F ht⟩) hS.2.2 dX9_tau_40
  replace h := zlt_h h
  refine lv_if_eq (tgt := 25) hx hb dX9_tau_9 (by decide) (fun c9 => ?_) (fun c9 => ?_)
  · replace h := zif_t h c9
    exact hGW _ _ _ _ _ (J0  _ _ ls hP hD hS (lv_sub hl [0, 1, 2] rfl) h)
  · replace h := zif_f h c9
    refine lv_iload_n hx hb dX9_tau_12 rfl (lv_at hl 2 rfl) ?_
    refine lv_iconst (v := (0 : Int32)) hx hb dX9_tau_13 (by decide) ?_
    refine lv_iconst (v := (2 : Int32)) hx hb dX9_tau_14 (by decide) ?_
    obtain ⟨r8, e9, h⟩ := zb1_some h
    refine zgoi (va_runS (As := [.int p1, .int (0 : Int32), .int (2 : Int32)]) (rest := [.ref q]) ⟨hx, hb, hml, hown, hts⟩ (c_X9_isIn l D (zT cJ cI cO cB) p1 (0 : Int32) (2 : Int32) r8 e9 H.size) (va_cwS 3 hts gX9_tau_X9_isIn rfl rfl rfl hdS_X9_isIn ⟨Nat.le_of_ble_eq_true rfl, Nat.le_of_ble_eq_true rfl⟩) (zpreS hK zP0 (zD0 (A := A)) [.int p1, .int (0 : Int32), .int (2 : Int32)]) rfl rfl hl.1 rfl (lv_room (Nat.le_of_ble_eq_true rfl)) dX9_tau_15 ⟨Nat.le_of_ble_eq_true rfl, Nat.le_of_ble_eq_true rfl⟩) (zf0 hS hA) (zjE hP hD) hS (fun H locs hP hD hS => ?_)
    refine lv_if_eq (tgt := 25) hx hb dX9_tau_18 (by decide) (fun c18 => ?_) (fun c18 => ?_)
    · replace h := zif_t h c18
      exact hGW _ _ _ _ _ (J0  _ _ ls hP hD hS (lv_sub hl [0, 1, 2] rfl) h)
    · replace h := zif_f h c18
      refine lv_iconst (v := (1 : Int32)) hx hb dX9_tau_21 (by decide) ?_
      refine lv_goto (tgt := 26) hx hb dX9_tau_22 (by decide) ?_
      obtain ⟨r10, th_11, e12, h⟩ := zb2_some h
      refine zgoi (va_runV (As := [.int (1 : Int32)]) (rest := []) ⟨hx, hb, hml, hown, hts⟩ (c_X9_isNo l D q v cJ cI cO cB V ib dn rf mk th true r10 th_11 e12 H.size) (cwV 1 hts gX9_tau_X9_isNo rfl rfl rfl hdV_X9_isNo ⟨Nat.le_of_ble_eq_true rfl, Nat.le_of_ble_eq_true rfl⟩) (zpreV (q0 := 0) (ci := 9) (T := TX9) (N := 6) hK hP hD rfl rfl [.int (1 : Int32)]) rfl rfl hl.1 rfl (lv_room (Nat.le_of_ble_eq_true rfl)) dX9_tau_26 ⟨Nat.le_of_ble_eq_true rfl, Nat.le_of_ble_eq_true rfl⟩) (zfree hD hS hA) (zjW hD hS hA) hS (fun H locs hP hD hS => ?_)
      replace hP : va_P D vwCl (mW q v cJ V ib dn rf mk th_11) H := hP
      replace hD : va_D A (mW q v cJ V ib dn rf mk th_11) := hD
      refine lv_if_eq (tgt := 36) hx hb dX9_tau_29 (by decide) (fun c29 => ?_) (fun c29 => ?_)
      · replace h := zif_t h c29
        refine lv_iload_n hx hb dX9_tau_36 rfl (lv_at hl 1 rfl) ?_
        obtain ⟨r13, e14, h⟩ := zb1_some h
        refine zgoi (va_runS (As := [.int p0]) (rest := []) ⟨hx, hb, hml, hown, hts⟩ (c_X9_tauOf l D (zT cJ cI cO cB) F p0 r13 e14 H.size) (va_cwS 1 hts gX9_tau_X9_tauOf rfl rfl rfl hdS_X9_tauOf ⟨Nat.le_of_ble_eq_true rfl, Nat.le_of_ble_eq_true rfl⟩) (zpreS hK zP0 (zD0 (A := A)) [.int p0]) rfl rfl hl.1 rfl (lv_room (Nat.le_of_ble_eq_true rfl)) dX9_tau_37 ⟨Nat.le_of_ble_eq_true rfl, Nat.le_of_ble_eq_true rfl⟩) (zf0 hS hA) (zjE hP hD) hS (fun H locs hP hD hS => ?_)
        have g0 := Option.some.inj h
        obtain ⟨h1, g1⟩ := Prod.mk.inj g0
        subst h1
        subst g1
        exact W.iret (v := r13) hx hb hr (fun t ht hW => ⟨⟨r13, (), rfl, rfl, by rw [ht]; exact hP, va_K.moved hW.alike hK, hD⟩, hS.F ht⟩) hS.2.2 dX9_tau_40
      · replace h := zif_f h c29
        refine lv_iconst (v := (0 : Int32)) hx hb dX9_tau_32 (by decide) ?_
        refine lv_goto (tgt := 40) hx hb dX9_tau_33 (by decide) ?_
        have g0 := Option.some.inj h
        obtain ⟨h1, g1⟩ := Prod.mk.inj g0
        subst h1
        subst g1
        exact W.iret (v := (0 : Int32)) hx hb hr (fun t ht hW => ⟨⟨(0 : Int32), (), rfl, rfl, by rw [ht]; exact hP, va_K.moved hW.alike hK, hD⟩, hS.F ht⟩) hS.2.2 dX9_tau_40

noncomputable def p_X9_sigma (F : Nat) (p0 : Int32) (p1 : Int32) : Option (Int32 × Int32) := (zb1 (p_X9_isIn p0 (1 : Int32) (999 : Int32)) (fun r1 => (zlt (zb2 (p_X9_isNo false) (fun r3 th_4 => (if (z01 r3) = 0 then (zb1 (p_X9_sigmaOf F p0) (fun r6 => (some (r6, th_4)))) else (some ((0 : Int32), th_4))))) (fun jf0 => (if (z01 r1) = 0 then (jf0 ) else (zb1 (p_X9_isIn p1 (0 : Int32) (1 : Int32)) (fun r8 => (if (z01 r8) = 0 then (jf0 ) else (zb2 (p_X9_isNo true) (fun r10 th_11 => (if (z01 r10) = 0 then (zb1 (p_X9_sigmaOf F p0) (fun r13 => (some (r13, th_11)))) else (some ((0 : Int32), th_11)))))))))))))
theorem hdV_X9_sigma : yX9_sigma.cls = RX9 ∧ yX9_sigma.cls ≠ "java/lang/invoke/MethodHandle" ∧ yX9_sigma.cls ≠ "java/lang/invoke/VarHandle" ∧ (parseMethodDescriptor yX9_sigma.desc).map (fun d => d.parameters.length) = some 2 := by decide +kernel
set_option maxHeartbeats 4000000 in
set_option maxRecDepth 100000 in
theorem c_X9_sigma (l : Launch) (D : va_G) (q v : Nat) (cJ cI cO cB : ClassId) (V : Nat → Int64) (ib : Bool) (dn : Int32) (rf : Int32) (mk : Int32) (th : Int32) (F : Nat) (p0 : Int32) (p1 : Int32) (r : Int32) (th' : Int32) (h : p_X9_sigma F p0 p1 = some (r, th')) : zMi l yX9_sigma wsX9_sigma 1 22 0 0 D (zT cJ cI cO cB) [.ref q, .int p0, .int p1] (mW q v cJ V ib dn rf mk th) (mW q v cJ V ib dn rf mk th') r := by
  intro sz
  delta zQi
  refine Met.ofW (cc := cX9_sigma) (maxL := 3) (ret := (some .int)) (by decide) rfl ?_
  intro p e s m args below meth c s₁ B hml hv
  obtain ⟨rfl, hsz, hP, hK, hD0⟩ := hv
  have hx := B.exec
  have hb := B.bytes
  have hr := B.returns
  have hts := atoms_spec (ws := wsX9_sigma) B.pre
  have hown : s.vm.findClass RX9 = some m.cls := findClass_of_methodNamed B.named
  have hlocks := B.notSynchronized
  subst hsz
  have hD := hD0.self (sz := s.heap.size)
  generalize hAe : va_A (mW q v cJ V ib dn rf mk th) s.heap.size = A at hD ⊢
  have hA : ∀ q : Nat, s.heap.size ≤ q → A q := fun q h => by rw [← hAe]; exact Or.inr h
  have hS : va_S A s.heap s.heap [] := va_S.rf
  have hl := lv_entry ([.ref q, .int p0, .int p1]) (n := 3) (Nat.le_of_ble_eq_true rfl)
  rw [lg_entry_eq]
  generalize (lg_sl ([.ref q, .int p0, .int p1]) ++ List.replicate (3 - (lg_sl ([.ref q, .int p0, .int p1])).length) Slot.unset).toArray = ls at hl ⊢
  replace hl : lv_has ls 3 [(0, .ref q), (1, .int p0), (2, .int p1)] := hl
  replace h : (zb1 (p_X9_isIn p0 (1 : Int32) (999 : Int32)) (fun r1 => (zlt (zb2 (p_X9_isNo false) (fun r3 th_4 => (if (z01 r3) = 0 then (zb1 (p_X9_sigmaOf F p0) (fun r6 => (some (r6, th_4)))) else (some ((0 : Int32), th_4))))) (fun jf0 => (if (z01 r1) = 0 then (jf0 ) else (zb1 (p_X9_isIn p1 (0 : Int32) (1 : Int32)) (fun r8 => (if (z01 r8) = 0 then (jf0 ) else (zb2 (p_X9_isNo true) (fun r10 th_11 => (if (z01 r10) = 0 then (zb1 (p_X9_sigmaOf F p0) (fun r13 => (some (r13, th_11)))) else (some ((0 : Int32), th_11))))))))))))) = some (r, th') := h
  refine zabs (fun G hG hGW => ?_)
  obtain ⟨H, hHe⟩ : ∃ H, H = s.heap := ⟨_, rfl⟩
  rw [← hHe] at hP
  replace hS : va_S A s.heap H [] := by rw [hHe]; exact hS
  refine zheap hHe ?_
  refine lv_aload_n hx hb dX9_sigma_0 rfl (lv_at hl 0 rfl) ?_
  refine lv_iload_n hx hb dX9_sigma_1 rfl (lv_at hl 1 rfl) ?_
  refine lv_iconst (v := (1 : Int32)) hx hb dX9_sigma_2 (by decide) ?_
  refine lv_sipush (v := (999 : Int32)) hx hb dX9_sigma_3 (by decide) ?_
  obtain ⟨r1, e2, h⟩ := zb1_some h
  refine zgoi (va_runS (As := [.int p0, .int (1 : Int32), .int (999 : Int32)]) (rest := [.ref q]) ⟨hx, hb, hml, hown, hts⟩ (c_X9_isIn l D (zT cJ cI cO cB) p0 (1 : Int32) (999 : Int32) r1 e2 H.size) (va_cwS 3 hts gX9_sigma_X9_isIn rfl rfl rfl hdS_X9_isIn ⟨Nat.le_of_ble_eq_true rfl, Nat.le_of_ble_eq_true rfl⟩) (zpreS hK zP0 (zD0 (A := A)) [.int p0, .int (1 : Int32), .int (999 : Int32)]) rfl rfl hl.1 rfl (lv_room (Nat.le_of_ble_eq_true rfl)) dX9_sigma_6 ⟨Nat.le_of_ble_eq_true rfl, Nat.le_of_ble_eq_true rfl⟩) (zf0 hS hA) (zjE hP hD) hS (fun H locs hP hD hS => ?_)
  have J0 : ∀  (H : Heap) (locs : List Loc) (ls : Array Slot), va_P D vwCl (mW q v cJ V ib dn rf mk th) H → va_D A (mW q v cJ V ib dn rf mk th) → va_S A s.heap H locs → lv_has ls 3 [(0, .ref q), (1, .int p0), (2, .int p1)] → (zb2 (p_X9_isNo false) (fun r3 th_4 => (if (z01 r3) = 0 then (zb1 (p_X9_sigmaOf F p0) (fun r6 => (some (r6, th_4)))) else (some ((0 : Int32), th_4))))) = some (r, th') → G H locs 0 0 (F0 m 25 ls [.ref q]) := by
    intro  H locs ls hP hD hS hl h
    refine hG _ _ _ _ _ ?_
    refine lv_iconst (v := (0 : Int32)) hx hb dX9_sigma_25 (by decide) ?_
    obtain ⟨r3, th_4, e5, h⟩ := zb2_some h
    refine zgoi (va_runV (As := [.int (0 : Int32)]) (rest := []) ⟨hx, hb, hml, hown, hts⟩ (c_X9_isNo l D q v cJ cI cO cB V ib dn rf mk th false r3 th_4 e5 H.size) (cwV 1 hts gX9_sigma_X9_isNo rfl rfl rfl hdV_X9_isNo ⟨Nat.le_of_ble_eq_true rfl, Nat.le_of_ble_eq_true rfl⟩) (zpreV (q0 := 0) (ci := 9) (T := TX9) (N := 6) hK hP hD rfl rfl [.int (0 : Int32)]) rfl rfl hl.1 rfl (lv_room (Nat.le_of_ble_eq_true rfl)) dX9_sigma_26 ⟨Nat.le_of_ble_eq_true rfl, Nat.le_of_ble_eq_true rfl⟩) (zfree hD hS hA) (zjW hD hS hA) hS (fun H locs hP hD hS => ?_)
    replace hP : va_P D vwCl (mW q v cJ V ib dn rf mk th_4) H := hP
    replace hD : va_D A (mW q v cJ V ib dn rf mk th_4) := hD
    refine lv_if_eq (tgt := 36) hx hb dX9_sigma_29 (by decide) (fun c29 => ?_) (fun c29 => ?_)
    · replace h := zif_t h c29
      refine lv_iload_n hx hb dX9_sigma_36 rfl (lv_at hl 1 rfl) ?_
      obtain ⟨r6, e7, h⟩ := zb1_some h
      refine zgoi (va_runS (As := [.int p0]) (rest := []) ⟨hx, hb, hml, hown, hts⟩ (c_X9_sigmaOf l D (zT cJ cI cO cB) F p0 r6 e7 H.size) (va_cwS 1 hts gX9_sigma_X9_sigmaOf rfl rfl rfl hdS_X9_sigmaOf ⟨Nat.le_of_ble_eq_true rfl, Nat.le_of_ble_eq_true rfl⟩) (zpreS hK zP0 (zD0 (A := A)) [.int p0]) rfl rfl hl.1 rfl (lv_room (Nat.le_of_ble_eq_true rfl)) dX9_sigma_37 ⟨Nat.le_of_ble_eq_true rfl, Nat.le_of_ble_eq_true rfl⟩) (zf0 hS hA) (zjE hP hD) hS (fun H locs hP hD hS => ?_)
      have g0 := Option.some.inj h
      obtain ⟨h1, g1⟩ := Prod.mk.inj g0
      subst h1
      subst g1
      exact W.iret (v := r6) hx hb hr (fun t ht hW => ⟨⟨r6, (), rfl, rfl, by rw [ht]; exact hP, va_K.moved hW.alike hK, hD⟩, hS.F ht⟩) hS.2.2 dX9_sigma_40
    · replace h := zif_f h c29
      refine lv_iconst (v := (0 : Int32)) hx hb dX9_sigma_32 (by decide) ?_
      refine lv_goto (tgt := 40) hx hb dX9_sigma_33 (by decide) ?_
      have g0 := Option.some.inj h
      obtain ⟨h1, g1⟩ := Prod.mk.inj g0
      subst h1
      subst g1
      exact W.iret (v := (0 : Int32)) hx hb hr (fun t ht hW => ⟨⟨(0 : Int32), (), rfl, rfl, by rw [ht]; exact hP, va_K.moved hW.alike hK, hD⟩, hS.F ht⟩) hS.2.2 dX9_sigma_40
  replace h := zlt_h h
  refine lv_if_eq (tgt := 25) hx hb dX9_sigma_9 (by decide) (fun c9 => ?_) (fun c9 => ?_)
  · replace h := zif_t h c9
    exact hGW _ _ _ _ _ (J0  _ _ ls hP hD hS (lv_sub hl [0, 1, 2] rfl) h)
  · replace h := zif_f h c9
    refine lv_iload_n hx hb dX9_sigma_12 rfl (lv_at hl 2 rfl) ?_
    refine lv_iconst (v := (0 : Int32)) hx hb dX9_sigma_13 (by decide) ?_
    refine lv_iconst (v := (1 : Int32)) hx hb dX9_sigma_14 (by decide) ?_
    obtain ⟨r8, e9, h⟩ := zb1_some h
    refine zgoi (va_runS (As := [.int p1, .int (0 : Int32), .int (1 : Int32)]) (rest := [.ref q]) ⟨hx, hb, hml, hown, hts⟩ (c_X9_isIn l D (zT cJ cI cO cB) p1 (0 : Int32) (1 : Int32) r8 e9 H.size) (va_cwS 3 hts gX9_sigma_X9_isIn rfl rfl rfl hdS_X9_isIn ⟨Nat.le_of_ble_eq_true rfl, Nat.le_of_ble_eq_true rfl⟩) (zpreS hK zP0 (zD0 (A := A)) [.int p1, .int (0 : Int32), .int (1 : Int32)]) rfl rfl hl.1 rfl (lv_room (Nat.le_of_ble_eq_true rfl)) dX9_sigma_15 ⟨Nat.le_of_ble_eq_true rfl, Nat.le_of_ble_eq_true rfl⟩) (zf0 hS hA) (zjE hP hD) hS (fun H locs hP hD hS => ?_)
    refine lv_if_eq (tgt := 25) hx hb dX9_sigma_18 (by decide) (fun c18 => ?_) (fun c18 => ?_)
    · replace h := zif_t h c18
      exact hGW _ _ _ _ _ (J0  _ _ ls hP hD hS (lv_sub hl [0, 1, 2] rfl) h)
    · replace h := zif_f h c18
      refine lv_iconst (v := (1 : Int32)) hx hb dX9_sigma_21 (by decide) ?_
      refine lv_goto (tgt := 26) hx hb dX9_sigma_22 (by decide) ?_
      obtain ⟨r10, th_11, e12, h⟩ := zb2_some h
      refine zgoi (va_runV (As := [.int (1 : Int32)]) (rest := []) ⟨hx, hb, hml, hown, hts⟩ (c_X9_isNo l D q v cJ cI cO cB V ib dn rf mk th true r10 th_11 e12 H.size) (cwV 1 hts gX9_sigma_X9_isNo rfl rfl rfl hdV_X9_isNo ⟨Nat.le_of_ble_eq_true rfl, Nat.le_of_ble_eq_true rfl⟩) (zpreV (q0 := 0) (ci := 9) (T := TX9) (N := 6) hK hP hD rfl rfl [.int (1 : Int32)]) rfl rfl hl.1 rfl (lv_room (Nat.le_of_ble_eq_true rfl)) dX9_sigma_26 ⟨Nat.le_of_ble_eq_true rfl, Nat.le_of_ble_eq_true rfl⟩) (zfree hD hS hA) (zjW hD hS hA) hS (fun H locs hP hD hS => ?_)
      replace hP : va_P D vwCl (mW q v cJ V ib dn rf mk th_11) H := hP
      replace hD : va_D A (mW q v cJ V ib dn rf mk th_11) := hD
      refine lv_if_eq (tgt := 36) hx hb dX9_sigma_29 (by decide) (fun c29 => ?_) (fun c29 => ?_)
      · replace h := zif_t h c29
        refine lv_iload_n hx hb dX9_sigma_36 rfl (lv_at hl 1 rfl) ?_
        obtain ⟨r13, e14, h⟩ := zb1_some h
        refine zgoi (va_runS (As := [.int p0]) (rest := []) ⟨hx, hb, hml, hown, hts⟩ (c_X9_sigmaOf l D (zT cJ cI cO cB) F p0 r13 e14 H.size) (va_cwS 1 hts gX9_sigma_X9_sigmaOf rfl rfl rfl hdS_X9_sigmaOf ⟨Nat.le_of_ble_eq_true rfl, Nat.le_of_ble_eq_true rfl⟩) (zpreS hK zP0 (zD0 (A := A)) [.int p0]) rfl rfl hl.1 rfl (lv_room (Nat.le_of_ble_eq_true rfl)) dX9_sigma_37 ⟨Nat.le_of_ble_eq_true rfl, Nat.le_of_ble_eq_true rfl⟩) (zf0 hS hA) (zjE hP hD) hS (fun H locs hP hD hS => ?_)
        have g0 := Option.some.inj h
        obtain ⟨h1, g1⟩ := Prod.mk.inj g0
        subst h1
        subst g1
        exact W.iret (v := r13) hx hb hr (fun t ht hW => ⟨⟨r13, (), rfl, rfl, by rw [ht]; exact hP, va_K.moved hW.alike hK, hD⟩, hS.F ht⟩) hS.2.2 dX9_sigma_40
      · replace h := zif_f h c29
        refine lv_iconst (v := (0 : Int32)) hx hb dX9_sigma_32 (by decide) ?_
        refine lv_goto (tgt := 40) hx hb dX9_sigma_33 (by decide) ?_
        have g0 := Option.some.inj h
        obtain ⟨h1, g1⟩ := Prod.mk.inj g0
        subst h1
        subst g1
        exact W.iret (v := (0 : Int32)) hx hb hr (fun t ht hW => ⟨⟨(0 : Int32), (), rfl, rfl, by rw [ht]; exact hP, va_K.moved hW.alike hK, hD⟩, hS.F ht⟩) hS.2.2 dX9_sigma_40

noncomputable def p_X9_phi (F : Nat) (p0 : Int32) (p1 : Int32) : Option (Int32 × Int32) := (zb1 (p_X9_isIn p0 (1 : Int32) (999 : Int32)) (fun r1 => (zlt (zb2 (p_X9_isNo false) (fun r3 th_4 => (if (z01 r3) = 0 then (zb1 (p_X9_phiOf F p0) (fun r6 => (some (r6, th_4)))) else (some ((0 : Int32), th_4))))) (fun jf0 => (if (z01 r1) = 0 then (jf0 ) else (zb1 (p_X9_isIn p1 (0 : Int32) (2 : Int32)) (fun r8 => (if (z01 r8) = 0 then (jf0 ) else (zb2 (p_X9_isNo true) (fun r10 th_11 => (if (z01 r10) = 0 then (zb1 (p_X9_phiOf F p0) (fun r13 => (some (r13, th_11)))) else (some ((0 : Int32), th_11)))))))))))))
theorem hdV_X9_phi : yX9_phi.cls = RX9 ∧ yX9_phi.cls ≠ "java/lang/invoke/MethodHandle" ∧ yX9_phi.cls ≠ "java/lang/invoke/VarHandle" ∧ (parseMethodDescriptor yX9_phi.desc).map (fun d => d.parameters.length) = some 2 := by decide +kernel
set_option maxHeartbeats 4000000 in
set_option maxRecDepth 100000 in
theorem c_X9_phi (l : Launch) (D : va_G) (q v : Nat) (cJ cI cO cB : ClassId) (V : Nat → Int64) (ib : Bool) (dn : Int32) (rf : Int32) (mk : Int32) (th : Int32) (F : Nat) (p0 : Int32) (p1 : Int32) (r : Int32) (th' : Int32) (h : p_X9_phi F p0 p1 = some (r, th')) : zMi l yX9_phi wsX9_phi 3 65 0 0 D (zT cJ cI cO cB) [.ref q, .int p0, .int p1] (mW q v cJ V ib dn rf mk th) (mW q v cJ V ib dn rf mk th') r := by
  intro sz
  delta zQi
  refine Met.ofW (cc := cX9_phi) (maxL := 3) (ret := (some .int)) (by decide) rfl ?_
  intro p e s m args below meth c s₁ B hml hv
  obtain ⟨rfl, hsz, hP, hK, hD0⟩ := hv
  have hx := B.exec
  have hb := B.bytes
  have hr := B.returns
  have hts := atoms_spec (ws := wsX9_phi) B.pre
  have hown : s.vm.findClass RX9 = some m.cls := findClass_of_methodNamed B.named
  have hlocks := B.notSynchronized
  subst hsz
  have hD := hD0.self (sz := s.heap.size)
  generalize hAe : va_A (mW q v cJ V ib dn rf mk th) s.heap.size = A at hD ⊢
  have hA : ∀ q : Nat, s.heap.size ≤ q → A q := fun q h => by rw [← hAe]; exact Or.inr h
  have hS : va_S A s.heap s.heap [] := va_S.rf
  have hl := lv_entry ([.ref q, .int p0, .int p1]) (n := 3) (Nat.le_of_ble_eq_true rfl)
  rw [lg_entry_eq]
  generalize (lg_sl ([.ref q, .int p0, .int p1]) ++ List.replicate (3 - (lg_sl ([.ref q, .int p0, .int p1])).length) Slot.unset).toArray = ls at hl ⊢
  replace hl : lv_has ls 3 [(0, .ref q), (1, .int p0), (2, .int p1)] := hl
  replace h : (zb1 (p_X9_isIn p0 (1 : Int32) (999 : Int32)) (fun r1 => (zlt (zb2 (p_X9_isNo false) (fun r3 th_4 => (if (z01 r3) = 0 then (zb1 (p_X9_phiOf F p0) (fun r6 => (some (r6, th_4)))) else (some ((0 : Int32), th_4))))) (fun jf0 => (if (z01 r1) = 0 then (jf0 ) else (zb1 (p_X9_isIn p1 (0 : Int32) (2 : Int32)) (fun r8 => (if (z01 r8) = 0 then (jf0 ) else (zb2 (p_X9_isNo true) (fun r10 th_11 => (if (z01 r10) = 0 then (zb1 (p_X9_phiOf F p0) (fun r13 => (some (r13, th_11)))) else (some ((0 : Int32), th_11))))))))))))) = some (r, th') := h
  refine zabs (fun G hG hGW => ?_)
  obtain ⟨H, hHe⟩ : ∃ H, H = s.heap := ⟨_, rfl⟩
  rw [← hHe] at hP
  replace hS : va_S A s.heap H [] := by rw [hHe]; exact hS
  refine zheap hHe ?_
  refine lv_aload_n hx hb dX9_phi_0 rfl (lv_at hl 0 rfl) ?_
  refine lv_iload_n hx hb dX9_phi_1 rfl (lv_at hl 1 rfl) ?_
  refine lv_iconst (v := (1 : Int32)) hx hb dX9_phi_2 (by decide) ?_
  refine lv_sipush (v := (999 : Int32)) hx hb dX9_phi_3 (by decide) ?_
  obtain ⟨r1, e2, h⟩ := zb1_some h
  refine zgoi (va_runS (As := [.int p0, .int (1 : Int32), .int (999 : Int32)]) (rest := [.ref q]) ⟨hx, hb, hml, hown, hts⟩ (c_X9_isIn l D (zT cJ cI cO cB) p0 (1 : Int32) (999 : Int32) r1 e2 H.size) (va_cwS 3 hts gX9_phi_X9_isIn rfl rfl rfl hdS_X9_isIn ⟨Nat.le_of_ble_eq_true rfl, Nat.le_of_ble_eq_true rfl⟩) (zpreS hK zP0 (zD0 (A := A)) [.int p0, .int (1 : Int32), .int (999 : Int32)]) rfl rfl hl.1 rfl (lv_room (Nat.le_of_ble_eq_true rfl)) dX9_phi_6 ⟨Nat.le_of_ble_eq_true rfl, Nat.le_of_ble_eq_true rfl⟩) (zf0 hS hA) (zjE hP hD) hS (fun H locs hP hD hS => ?_)
  have J0 : ∀  (H : Heap) (locs : List Loc) (ls : Array Slot), va_P D vwCl (mW q v cJ V ib dn rf mk th) H → va_D A (mW q v cJ V ib dn rf mk th) → va_S A s.heap H locs → lv_has ls 3 [(0, .ref q), (1, .int p0), (2, .int p1)] → (zb2 (p_X9_isNo false) (fun r3 th_4 => (if (z01 r3) = 0 then (zb1 (p_X9_phiOf F p0) (fun r6 => (some (r6, th_4)))) else (some ((0 : Int32), th_4))))) = some (r, th') → G H locs 0 0 (F0 m 25 ls [.ref q]) := by
    intro  H locs ls hP hD hS hl h
    refine hG _ _ _ _ _ ?_
    refine lv_iconst (v := (0 : Int32)) hx hb dX9_phi_25 (by decide) ?_
    obtain ⟨r3, th_4, e5, h⟩ := zb2_some h
    refine zgoi (va_runV (As := [.int (0 : Int32)]) (rest := []) ⟨hx, hb, hml, hown, hts⟩ (c_X9_isNo l D q v cJ cI cO cB V ib dn rf mk th false r3 th_4 e5 H.size) (cwV 1 hts gX9_phi_X9_isNo rfl rfl rfl hdV_X9_isNo ⟨Nat.le_of_ble_eq_true rfl, Nat.le_of_ble_eq_true rfl⟩) (zpreV (q0 := 0) (ci := 9) (T := TX9) (N := 6) hK hP hD rfl rfl [.int (0 : Int32)]) rfl rfl hl.1 rfl (lv_room (Nat.le_of_ble_eq_true rfl)) dX9_phi_26 ⟨Nat.le_of_ble_eq_true rfl, Nat.le_of_ble_eq_true rfl⟩) (zfree hD hS hA) (zjW hD hS hA) hS (fun H locs hP hD hS => ?_)
    replace hP : va_P D vwCl (mW q v cJ V ib dn rf mk th_4) H := hP
    replace hD : va_D A (mW q v cJ V ib dn rf mk th_4) := hD
    refine lv_if_eq (tgt := 36) hx hb dX9_phi_29 (by decide) (fun c29 => ?_) (fun c29 => ?_)
    · replace h := zif_t h c29
      refine lv_iload_n hx hb dX9_phi_36 rfl (lv_at hl 1 rfl) ?_
      obtain ⟨r6, e7, h⟩ := zb1_some h
      refine zgoi (va_runS (As := [.int p0]) (rest := []) ⟨hx, hb, hml, hown, hts⟩ (c_X9_phiOf l D (zT cJ cI cO cB) F p0 r6 e7 H.size) (va_cwS 1 hts gX9_phi_X9_phiOf rfl rfl rfl hdS_X9_phiOf ⟨Nat.le_of_ble_eq_true rfl, Nat.le_of_ble_eq_true rfl⟩) (zpreS hK zP0 (zD0 (A := A)) [.int p0]) rfl rfl hl.1 rfl (lv_room (Nat.le_of_ble_eq_true rfl)) dX9_phi_37 ⟨Nat.le_of_ble_eq_true rfl, Nat.le_of_ble_eq_true rfl⟩) (zf0 hS hA) (zjE hP hD) hS (fun H locs hP hD hS => ?_)
      have g0 := Option.some.inj h
      obtain ⟨h1, g1⟩ := Prod.mk.inj g0
      subst h1
      subst g1
      exact W.iret (v := r6) hx hb hr (fun t ht hW => ⟨⟨r6, (), rfl, rfl, by rw [ht]; exact hP, va_K.moved hW.alike hK, hD⟩, hS.F ht⟩) hS.2.2 dX9_phi_40
    · replace h := zif_f h c29
      refine lv_iconst (v := (0 : Int32)) hx hb dX9_phi_32 (by decide) ?_
      refine lv_goto (tgt := 40) hx hb dX9_phi_33 (by decide) ?_
      have g0 := Option.some.inj h
      obtain ⟨h1, g1⟩ := Prod.mk.inj g0
      subst h1
      subst g1
      exact W.iret (v := (0 : Int32)) hx hb hr (fun t ht hW => ⟨⟨(0 : Int32), (), rfl, rfl, by rw [ht]; exact hP, va_K.moved hW.alike hK, hD⟩, hS.F ht⟩) hS.2.2 dX9_phi_40
  replace h := zlt_h h
  refine lv_if_eq (tgt := 25) hx hb dX9_phi_9 (by decide) (fun c9 => ?_) (fun c9 => ?_)
  · replace h := zif_t h c9
    exact hGW _ _ _ _ _ (J0  _ _ ls hP hD hS (lv_sub hl [0, 1, 2] rfl) h)
  · replace h := zif_f h c9
    refine lv_iload_n hx hb dX9_phi_12 rfl (lv_at hl 2 rfl) ?_
    refine lv_iconst (v := (0 : Int32)) hx hb dX9_phi_13 (by decide) ?_
    refine lv_iconst (v := (2 : Int32)) hx hb dX9_phi_14 (by decide) ?_
    obtain ⟨r8, e9, h⟩ := zb1_some h
    refine zgoi (va_runS (As := [.int p1, .int (0 : Int32), .int (2 : Int32)]) (rest := [.ref q]) ⟨hx, hb, hml, hown, hts⟩ (c_X9_isIn l D (zT cJ cI cO cB) p1 (0 : Int32) (2 : Int32) r8 e9 H.size) (va_cwS 3 hts gX9_phi_X9_isIn rfl rfl rfl hdS_X9_isIn ⟨Nat.le_of_ble_eq_true rfl, Nat.le_of_ble_eq_true rfl⟩) (zpreS hK zP0 (zD0 (A := A)) [.int p1, .int (0 : Int32), .int (2 : Int32)]) rfl rfl hl.1 rfl (lv_room (Nat.le_of_ble_eq_true rfl)) dX9_phi_15 ⟨Nat.le_of_ble_eq_true rfl, Nat.le_of_ble_eq_true rfl⟩) (zf0 hS hA) (zjE hP hD) hS (fun H locs hP hD hS => ?_)
    refine lv_if_eq (tgt := 25) hx hb dX9_phi_18 (by decide) (fun c18 => ?_) (fun c18 => ?_)
    · replace h := zif_t h c18
      exact hGW _ _ _ _ _ (J0  _ _ ls hP hD hS (lv_sub hl [0, 1, 2] rfl) h)
    · replace h := zif_f h c18
      refine lv_iconst (v := (1 : Int32)) hx hb dX9_phi_21 (by decide) ?_
      refine lv_goto (tgt := 26) hx hb dX9_phi_22 (by decide) ?_
      obtain ⟨r10, th_11, e12, h⟩ := zb2_some h
      refine zgoi (va_runV (As := [.int (1 : Int32)]) (rest := []) ⟨hx, hb, hml, hown, hts⟩ (c_X9_isNo l D q v cJ cI cO cB V ib dn rf mk th true r10 th_11 e12 H.size) (cwV 1 hts gX9_phi_X9_isNo rfl rfl rfl hdV_X9_isNo ⟨Nat.le_of_ble_eq_true rfl, Nat.le_of_ble_eq_true rfl⟩) (zpreV (q0 := 0) (ci := 9) (T := TX9) (N := 6) hK hP hD rfl rfl [.int (1 : Int32)]) rfl rfl hl.1 rfl (lv_room (Nat.le_of_ble_eq_true rfl)) dX9_phi_26 ⟨Nat.le_of_ble_eq_true rfl, Nat.le_of_ble_eq_true rfl⟩) (zfree hD hS hA) (zjW hD hS hA) hS (fun H locs hP hD hS => ?_)
      replace hP : va_P D vwCl (mW q v cJ V ib dn rf mk th_11) H := hP
      replace hD : va_D A (mW q v cJ V ib dn rf mk th_11) := hD
      refine lv_if_eq (tgt := 36) hx hb dX9_phi_29 (by decide) (fun c29 => ?_) (fun c29 => ?_)
      · replace h := zif_t h c29
        refine lv_iload_n hx hb dX9_phi_36 rfl (lv_at hl 1 rfl) ?_
        obtain ⟨r13, e14, h⟩ := zb1_some h
        refine zgoi (va_runS (As := [.int p0]) (rest := []) ⟨hx, hb, hml, hown, hts⟩ (c_X9_phiOf l D (zT cJ cI cO cB) F p0 r13 e14 H.size) (va_cwS 1 hts gX9_phi_X9_phiOf rfl rfl rfl hdS_X9_phiOf ⟨Nat.le_of_ble_eq_true rfl, Nat.le_of_ble_eq_true rfl⟩) (zpreS hK zP0 (zD0 (A := A)) [.int p0]) rfl rfl hl.1 rfl (lv_room (Nat.le_of_ble_eq_true rfl)) dX9_phi_37 ⟨Nat.le_of_ble_eq_true rfl, Nat.le_of_ble_eq_true rfl⟩) (zf0 hS hA) (zjE hP hD) hS (fun H locs hP hD hS => ?_)
        have g0 := Option.some.inj h
        obtain ⟨h1, g1⟩ := Prod.mk.inj g0
        subst h1
        subst g1
        exact W.iret (v := r13) hx hb hr (fun t ht hW => ⟨⟨r13, (), rfl, rfl, by rw [ht]; exact hP, va_K.moved hW.alike hK, hD⟩, hS.F ht⟩) hS.2.2 dX9_phi_40
      · replace h := zif_f h c29
        refine lv_iconst (v := (0 : Int32)) hx hb dX9_phi_32 (by decide) ?_
        refine lv_goto (tgt := 40) hx hb dX9_phi_33 (by decide) ?_
        have g0 := Option.some.inj h
        obtain ⟨h1, g1⟩ := Prod.mk.inj g0
        subst h1
        subst g1
        exact W.iret (v := (0 : Int32)) hx hb hr (fun t ht hW => ⟨⟨(0 : Int32), (), rfl, rfl, by rw [ht]; exact hP, va_K.moved hW.alike hK, hD⟩, hS.F ht⟩) hS.2.2 dX9_phi_40

noncomputable def p_X9_sign (F : Nat) (p0 : Int32) (p1 : Int32) : Option (Int32 × Int32) := (zb1 (p_X9_isIn p0 (1 : Int32) (999 : Int32)) (fun r1 => (zlt (zb2 (p_X9_isNo false) (fun r3 th_4 => (if (z01 r3) = 0 then (zb1 (p_X9_signOf F p0) (fun r6 => (some (r6, th_4)))) else (some ((0 : Int32), th_4))))) (fun jf0 => (if (z01 r1) = 0 then (jf0 ) else (zb1 (p_X9_isIn p1 (0 : Int32) (1 : Int32)) (fun r8 => (if (z01 r8) = 0 then (jf0 ) else (zb2 (p_X9_isNo true) (fun r10 th_11 => (if (z01 r10) = 0 then (zb1 (p_X9_signOf F p0) (fun r13 => (some (r13, th_11)))) else (some ((0 : Int32), th_11)))))))))))))
theorem hdV_X9_sign : yX9_sign.cls = RX9 ∧ yX9_sign.cls ≠ "java/lang/invoke/MethodHandle" ∧ yX9_sign.cls ≠ "java/lang/invoke/VarHandle" ∧ (parseMethodDescriptor yX9_sign.desc).map (fun d => d.parameters.length) = some 2 := by decide +kernel
set_option maxHeartbeats 4000000 in
set_option maxRecDepth 100000 in
theorem c_X9_sign (l : Launch) (D : va_G) (q v : Nat) (cJ cI cO cB : ClassId) (V : Nat → Int64) (ib : Bool) (dn : Int32) (rf : Int32) (mk : Int32) (th : Int32) (F : Nat) (p0 : Int32) (p1 : Int32) (r : Int32) (th' : Int32) (h : p_X9_sign F p0 p1 = some (r, th')) : zMi l yX9_sign wsX9_sign 3 63 0 0 D (zT cJ cI cO cB) [.ref q, .int p0, .int p1] (mW q v cJ V ib dn rf mk th) (mW q v cJ V ib dn rf mk th') r := by
  intro sz
  delta zQi
  refine Met.ofW (cc := cX9_sign) (maxL := 3) (ret := (some .int)) (by decide) rfl ?_
  intro p e s m args below meth c s₁ B hml hv
  obtain ⟨rfl, hsz, hP, hK, hD0⟩ := hv
  have hx := B.exec
  have hb := B.bytes
  have hr := B.returns
  have hts := atoms_spec (ws := wsX9_sign) B.pre
  have hown : s.vm.findClass RX9 = some m.cls := findClass_of_methodNamed B.named
  have hlocks := B.notSynchronized
  subst hsz
  have hD := hD0.self (sz := s.heap.size)
  generalize hAe : va_A (mW q v cJ V ib dn rf mk th) s.heap.size = A at hD ⊢
  have hA : ∀ q : Nat, s.heap.size ≤ q → A q := fun q h => by rw [← hAe]; exact Or.inr h
  have hS : va_S A s.heap s.heap [] := va_S.rf
  have hl := lv_entry ([.ref q, .int p0, .int p1]) (n := 3) (Nat.le_of_ble_eq_true rfl)
  rw [lg_entry_eq]
  generalize (lg_sl ([.ref q, .int p0, .int p1]) ++ List.replicate (3 - (lg_sl ([.ref q, .int p0, .int p1])).length) Slot.unset).toArray = ls at hl ⊢
  replace hl : lv_has ls 3 [(0, .ref q), (1, .int p0), (2, .int p1)] := hl
  replace h : (zb1 (p_X9_isIn p0 (1 : Int32) (999 : Int32)) (fun r1 => (zlt (zb2 (p_X9_isNo false) (fun r3 th_4 => (if (z01 r3) = 0 then (zb1 (p_X9_signOf F p0) (fun r6 => (some (r6, th_4)))) else (some ((0 : Int32), th_4))))) (fun jf0 => (if (z01 r1) = 0 then (jf0 ) else (zb1 (p_X9_isIn p1 (0 : Int32) (1 : Int32)) (fun r8 => (if (z01 r8) = 0 then (jf0 ) else (zb2 (p_X9_isNo true) (fun r10 th_11 => (if (z01 r10) = 0 then (zb1 (p_X9_signOf F p0) (fun r13 => (some (r13, th_11)))) else (some ((0 : Int32), th_11))))))))))))) = some (r, th') := h
  refine zabs (fun G hG hGW => ?_)
  obtain ⟨H, hHe⟩ : ∃ H, H = s.heap := ⟨_, rfl⟩
  rw [← hHe] at hP
  replace hS : va_S A s.heap H [] := by rw [hHe]; exact hS
  refine zheap hHe ?_
  refine lv_aload_n hx hb dX9_sign_0 rfl (lv_at hl 0 rfl) ?_
  refine lv_iload_n hx hb dX9_sign_1 rfl (lv_at hl 1 rfl) ?_
  refine lv_iconst (v := (1 : Int32)) hx hb dX9_sign_2 (by decide) ?_
  refine lv_sipush (v := (999 : Int32)) hx hb dX9_sign_3 (by decide) ?_
  obtain ⟨r1, e2, h⟩ := zb1_some h
  refine zgoi (va_runS (As := [.int p0, .int (1 : Int32), .int (999 : Int32)]) (rest := [.ref q]) ⟨hx, hb, hml, hown, hts⟩ (c_X9_isIn l D (zT cJ cI cO cB) p0 (1 : Int32) (999 : Int32) r1 e2 H.size) (va_cwS 3 hts gX9_sign_X9_isIn rfl rfl rfl hdS_X9_isIn ⟨Nat.le_of_ble_eq_true rfl, Nat.le_of_ble_eq_true rfl⟩) (zpreS hK zP0 (zD0 (A := A)) [.int p0, .int (1 : Int32), .int (999 : Int32)]) rfl rfl hl.1 rfl (lv_room (Nat.le_of_ble_eq_true rfl)) dX9_sign_6 ⟨Nat.le_of_ble_eq_true rfl, Nat.le_of_ble_eq_true rfl⟩) (zf0 hS hA) (zjE hP hD) hS (fun H locs hP hD hS => ?_)
  have J0 : ∀  (H : Heap) (locs : List Loc) (ls : Array Slot), va_P D vwCl (mW q v cJ V ib dn rf mk th) H → va_D A (mW q v cJ V ib dn rf mk th) → va_S A s.heap H locs → lv_has ls 3 [(0, .ref q), (1, .int p0), (2, .int p1)] → (zb2 (p_X9_isNo false) (fun r3 th_4 => (if (z01 r3) = 0 then (zb1 (p_X9_signOf F p0) (fun r6 => (some (r6, th_4)))) else (some ((0 : Int32), th_4))))) = some (r, th') → G H locs 0 0 (F0 m 25 ls [.ref q]) := by
    intro  H locs ls hP hD hS hl h
    refine hG _ _ _ _ _ ?_
    refine lv_iconst (v := (0 : Int32)) hx hb dX9_sign_25 (by decide) ?_
    obtain ⟨r3, th_4, e5, h⟩ := zb2_some h
    refine zgoi (va_runV (As := [.int (0 : Int32)]) (rest := []) ⟨hx, hb, hml, hown, hts⟩ (c_X9_isNo l D q v cJ cI cO cB V ib dn rf mk th false r3 th_4 e5 H.size) (cwV 1 hts gX9_sign_X9_isNo rfl rfl rfl hdV_X9_isNo ⟨Nat.le_of_ble_eq_true rfl, Nat.le_of_ble_eq_true rfl⟩) (zpreV (q0 := 0) (ci := 9) (T := TX9) (N := 6) hK hP hD rfl rfl [.int (0 : Int32)]) rfl rfl hl.1 rfl (lv_room (Nat.le_of_ble_eq_true rfl)) dX9_sign_26 ⟨Nat.le_of_ble_eq_true rfl, Nat.le_of_ble_eq_true rfl⟩) (zfree hD hS hA) (zjW hD hS hA) hS (fun H locs hP hD hS => ?_)
    replace hP : va_P D vwCl (mW q v cJ V ib dn rf mk th_4) H := hP
    replace hD : va_D A (mW q v cJ V ib dn rf mk th_4) := hD
    refine lv_if_eq (tgt := 36) hx hb dX9_sign_29 (by decide) (fun c29 => ?_) (fun c29 => ?_)
    · replace h := zif_t h c29
      refine lv_iload_n hx hb dX9_sign_36 rfl (lv_at hl 1 rfl) ?_
      obtain ⟨r6, e7, h⟩ := zb1_some h
      refine zgoi (va_runS (As := [.int p0]) (rest := []) ⟨hx, hb, hml, hown, hts⟩ (c_X9_signOf l D (zT cJ cI cO cB) F p0 r6 e7 H.size) (va_cwS 1 hts gX9_sign_X9_signOf rfl rfl rfl hdS_X9_signOf ⟨Nat.le_of_ble_eq_true rfl, Nat.le_of_ble_eq_true rfl⟩) (zpreS hK zP0 (zD0 (A := A)) [.int p0]) rfl rfl hl.1 rfl (lv_room (Nat.le_of_ble_eq_true rfl)) dX9_sign_37 ⟨Nat.le_of_ble_eq_true rfl, Nat.le_of_ble_eq_true rfl⟩) (zf0 hS hA) (zjE hP hD) hS (fun H locs hP hD hS => ?_)
      have g0 := Option.some.inj h
      obtain ⟨h1, g1⟩ := Prod.mk.inj g0
      subst h1
      subst g1
      exact W.iret (v := r6) hx hb hr (fun t ht hW => ⟨⟨r6, (), rfl, rfl, by rw [ht]; exact hP, va_K.moved hW.alike hK, hD⟩, hS.F ht⟩) hS.2.2 dX9_sign_40
    · replace h := zif_f h c29
      refine lv_iconst (v := (0 : Int32)) hx hb dX9_sign_32 (by decide) ?_
      refine lv_goto (tgt := 40) hx hb dX9_sign_33 (by decide) ?_
      have g0 := Option.some.inj h
      obtain ⟨h1, g1⟩ := Prod.mk.inj g0
      subst h1
      subst g1
      exact W.iret (v := (0 : Int32)) hx hb hr (fun t ht hW => ⟨⟨(0 : Int32), (), rfl, rfl, by rw [ht]; exact hP, va_K.moved hW.alike hK, hD⟩, hS.F ht⟩) hS.2.2 dX9_sign_40
  replace h := zlt_h h
  refine lv_if_eq (tgt := 25) hx hb dX9_sign_9 (by decide) (fun c9 => ?_) (fun c9 => ?_)
  · replace h := zif_t h c9
    exact hGW _ _ _ _ _ (J0  _ _ ls hP hD hS (lv_sub hl [0, 1, 2] rfl) h)
  · replace h := zif_f h c9
    refine lv_iload_n hx hb dX9_sign_12 rfl (lv_at hl 2 rfl) ?_
    refine lv_iconst (v := (0 : Int32)) hx hb dX9_sign_13 (by decide) ?_
    refine lv_iconst (v := (1 : Int32)) hx hb dX9_sign_14 (by decide) ?_
    obtain ⟨r8, e9, h⟩ := zb1_some h
    refine zgoi (va_runS (As := [.int p1, .int (0 : Int32), .int (1 : Int32)]) (rest := [.ref q]) ⟨hx, hb, hml, hown, hts⟩ (c_X9_isIn l D (zT cJ cI cO cB) p1 (0 : Int32) (1 : Int32) r8 e9 H.size) (va_cwS 3 hts gX9_sign_X9_isIn rfl rfl rfl hdS_X9_isIn ⟨Nat.le_of_ble_eq_true rfl, Nat.le_of_ble_eq_true rfl⟩) (zpreS hK zP0 (zD0 (A := A)) [.int p1, .int (0 : Int32), .int (1 : Int32)]) rfl rfl hl.1 rfl (lv_room (Nat.le_of_ble_eq_true rfl)) dX9_sign_15 ⟨Nat.le_of_ble_eq_true rfl, Nat.le_of_ble_eq_true rfl⟩) (zf0 hS hA) (zjE hP hD) hS (fun H locs hP hD hS => ?_)
    refine lv_if_eq (tgt := 25) hx hb dX9_sign_18 (by decide) (fun c18 => ?_) (fun c18 => ?_)
    · replace h := zif_t h c18
      exact hGW _ _ _ _ _ (J0  _ _ ls hP hD hS (lv_sub hl [0, 1, 2] rfl) h)
    · replace h := zif_f h c18
      refine lv_iconst (v := (1 : Int32)) hx hb dX9_sign_21 (by decide) ?_
      refine lv_goto (tgt := 26) hx hb dX9_sign_22 (by decide) ?_
      obtain ⟨r10, th_11, e12, h⟩ := zb2_some h
      refine zgoi (va_runV (As := [.int (1 : Int32)]) (rest := []) ⟨hx, hb, hml, hown, hts⟩ (c_X9_isNo l D q v cJ cI cO cB V ib dn rf mk th true r10 th_11 e12 H.size) (cwV 1 hts gX9_sign_X9_isNo rfl rfl rfl hdV_X9_isNo ⟨Nat.le_of_ble_eq_true rfl, Nat.le_of_ble_eq_true rfl⟩) (zpreV (q0 := 0) (ci := 9) (T := TX9) (N := 6) hK hP hD rfl rfl [.int (1 : Int32)]) rfl rfl hl.1 rfl (lv_room (Nat.le_of_ble_eq_true rfl)) dX9_sign_26 ⟨Nat.le_of_ble_eq_true rfl, Nat.le_of_ble_eq_true rfl⟩) (zfree hD hS hA) (zjW hD hS hA) hS (fun H locs hP hD hS => ?_)
      replace hP : va_P D vwCl (mW q v cJ V ib dn rf mk th_11) H := hP
      replace hD : va_D A (mW q v cJ V ib dn rf mk th_11) := hD
      refine lv_if_eq (tgt := 36) hx hb dX9_sign_29 (by decide) (fun c29 => ?_) (fun c29 => ?_)
      · replace h := zif_t h c29
        refine lv_iload_n hx hb dX9_sign_36 rfl (lv_at hl 1 rfl) ?_
        obtain ⟨r13, e14, h⟩ := zb1_some h
        refine zgoi (va_runS (As := [.int p0]) (rest := []) ⟨hx, hb, hml, hown, hts⟩ (c_X9_signOf l D (zT cJ cI cO cB) F p0 r13 e14 H.size) (va_cwS 1 hts gX9_sign_X9_signOf rfl rfl rfl hdS_X9_signOf ⟨Nat.le_of_ble_eq_true rfl, Nat.le_of_ble_eq_true rfl⟩) (zpreS hK zP0 (zD0 (A := A)) [.int p0]) rfl rfl hl.1 rfl (lv_room (Nat.le_of_ble_eq_true rfl)) dX9_sign_37 ⟨Nat.le_of_ble_eq_true rfl, Nat.le_of_ble_eq_true rfl⟩) (zf0 hS hA) (zjE hP hD) hS (fun H locs hP hD hS => ?_)
        have g0 := Option.some.inj h
        obtain ⟨h1, g1⟩ := Prod.mk.inj g0
        subst h1
        subst g1
        exact W.iret (v := r13) hx hb hr (fun t ht hW => ⟨⟨r13, (), rfl, rfl, by rw [ht]; exact hP, va_K.moved hW.alike hK, hD⟩, hS.F ht⟩) hS.2.2 dX9_sign_40
      · replace h := zif_f h c29
        refine lv_iconst (v := (0 : Int32)) hx hb dX9_sign_32 (by decide) ?_
        refine lv_goto (tgt := 40) hx hb dX9_sign_33 (by decide) ?_
        have g0 := Option.some.inj h
        obtain ⟨h1, g1⟩ := Prod.mk.inj g0
        subst h1
        subst g1
        exact W.iret (v := (0 : Int32)) hx hb hr (fun t ht hW => ⟨⟨(0 : Int32), (), rfl, rfl, by rw [ht]; exact hP, va_K.moved hW.alike hK, hD⟩, hS.F ht⟩) hS.2.2 dX9_sign_40

noncomputable def p_X9_square (F : Nat) (p0 : Int32) (p1 : Int32) : Option (Int32 × Int32) := (zb1 (p_X9_isIn p0 (1 : Int32) (999 : Int32)) (fun r1 => (zlt (zb2 (p_X9_isNo false) (fun r3 th_4 => (if (z01 r3) = 0 then (zb1 (p_X9_squareOf F p0) (fun r6 => (some (r6, th_4)))) else (some ((0 : Int32), th_4))))) (fun jf0 => (if (z01 r1) = 0 then (jf0 ) else (zb1 (p_X9_isIn p1 (0 : Int32) (1 : Int32)) (fun r8 => (if (z01 r8) = 0 then (jf0 ) else (zb2 (p_X9_isNo true) (fun r10 th_11 => (if (z01 r10) = 0 then (zb1 (p_X9_squareOf F p0) (fun r13 => (some (r13, th_11)))) else (some ((0 : Int32), th_11)))))))))))))
theorem hdV_X9_square : yX9_square.cls = RX9 ∧ yX9_square.cls ≠ "java/lang/invoke/MethodHandle" ∧ yX9_square.cls ≠ "java/lang/invoke/VarHandle" ∧ (parseMethodDescriptor yX9_square.desc).map (fun d => d.parameters.length) = some 2 := by decide +kernel
set_option maxHeartbeats 4000000 in
set_option maxRecDepth 100000 in
theorem c_X9_square (l : Launch) (D : va_G) (q v : Nat) (cJ cI cO cB : ClassId) (V : Nat → Int64) (ib : Bool) (dn : Int32) (rf : Int32) (mk : Int32) (th : Int32) (F : Nat) (p0 : Int32) (p1 : Int32) (r : Int32) (th' : Int32) (h : p_X9_square F p0 p1 = some (r, th')) : zMi l yX9_square wsX9_square 1 22 0 0 D (zT cJ cI cO cB) [.ref q, .int p0, .int p1] (mW q v cJ V ib dn rf mk th) (mW q v cJ V ib dn rf mk th') r := by
  intro sz
  delta zQi
  refine Met.ofW (cc := cX9_square) (maxL := 3) (ret := (some .int)) (by decide) rfl ?_
  intro p e s m args below meth c s₁ B hml hv
  obtain ⟨rfl, hsz, hP, hK, hD0⟩ := hv
  have hx := B.exec
  have hb := B.bytes
  have hr := B.returns
  have hts := atoms_spec (ws := wsX9_square) B.pre
  have hown : s.vm.findClass RX9 = some m.cls := findClass_of_methodNamed B.named
  have hlocks := B.notSynchronized
  subst hsz
  have hD := hD0.self (sz := s.heap.size)
  generalize hAe : va_A (mW q v cJ V ib dn rf mk th) s.heap.size = A at hD ⊢
  have hA : ∀ q : Nat, s.heap.size ≤ q → A q := fun q h => by rw [← hAe]; exact Or.inr h
  have hS : va_S A s.heap s.heap [] := va_S.rf
  have hl := lv_entry ([.ref q, .int p0, .int p1]) (n := 3) (Nat.le_of_ble_eq_true rfl)
  rw [lg_entry_eq]
  generalize (lg_sl ([.ref q, .int p0, .int p1]) ++ List.replicate (3 - (lg_sl ([.ref q, .int p0, .int p1])).length) Slot.unset).toArray = ls at hl ⊢
  replace hl : lv_has ls 3 [(0, .ref q), (1, .int p0), (2, .int p1)] := hl
  replace h : (zb1 (p_X9_isIn p0 (1 : Int32) (999 : Int32)) (fun r1 => (zlt (zb2 (p_X9_isNo false) (fun r3 th_4 => (if (z01 r3) = 0 then (zb1 (p_X9_squareOf F p0) (fun r6 => (some (r6, th_4)))) else (some ((0 : Int32), th_4))))) (fun jf0 => (if (z01 r1) = 0 then (jf0 ) else (zb1 (p_X9_isIn p1 (0 : Int32) (1 : Int32)) (fun r8 => (if (z01 r8) = 0 then (jf0 ) else (zb2 (p_X9_isNo true) (fun r10 th_11 => (if (z01 r10) = 0 then (zb1 (p_X9_squareOf F p0) (fun r13 => (some (r13, th_11)))) else (some ((0 : Int32), th_11))))))))))))) = some (r, th') := h
  refine zabs (fun G hG hGW => ?_)
  obtain ⟨H, hHe⟩ : ∃ H, H = s.heap := ⟨_, rfl⟩
  rw [← hHe] at hP
  replace hS : va_S A s.heap H [] := by rw [hHe]; exact hS
  refine zheap hHe ?_
  refine lv_aload_n hx hb dX9_square_0 rfl (lv_at hl 0 rfl) ?_
  refine lv_iload_n hx hb dX9_square_1 rfl (lv_at hl 1 rfl) ?_
  refine lv_iconst (v := (1 : Int32)) hx hb dX9_square_2 (by decide) ?_
  refine lv_sipush (v := (999 : Int32)) hx hb dX9_square_3 (by decide) ?_
  obtain ⟨r1, e2, h⟩ := zb1_some h
  refine zgoi (va_runS (As := [.int p0, .int (1 : Int32), .int (999 : Int32)]) (rest := [.ref q]) ⟨hx, hb, hml, hown, hts⟩ (c_X9_isIn l D (zT cJ cI cO cB) p0 (1 : Int32) (999 : Int32) r1 e2 H.size) (va_cwS 3 hts gX9_square_X9_isIn rfl rfl rfl hdS_X9_isIn ⟨Nat.le_of_ble_eq_true rfl, Nat.le_of_ble_eq_true rfl⟩) (zpreS hK zP0 (zD0 (A := A)) [.int p0, .int (1 : Int32), .int (999 : Int32)]) rfl rfl hl.1 rfl (lv_room (Nat.le_of_ble_eq_true rfl)) dX9_square_6 ⟨Nat.le_of_ble_eq_true rfl, Nat.le_of_ble_eq_true rfl⟩) (zf0 hS hA) (zjE hP hD) hS (fun H locs hP hD hS => ?_)
  have J0 : ∀  (H : Heap) (locs : List Loc) (ls : Array Slot), va_P D vwCl (mW q v cJ V ib dn rf mk th) H → va_D A (mW q v cJ V ib dn rf mk th) → va_S A s.heap H locs → lv_has ls 3 [(0, .ref q), (1, .int p0), (2, .int p1)] → (zb2 (p_X9_isNo false) (fun r3 th_4 => (if (z01 r3) = 0 then (zb1 (p_X9_squareOf F p0) (fun r6 => (some (r6, th_4)))) else (some ((0 : Int32), th_4))))) = some (r, th') → G H locs 0 0 (F0 m 25 ls [.ref q]) := by
    intro  H locs ls hP hD hS hl h
    refine hG _ _ _ _ _ ?_
    refine lv_iconst (v := (0 : Int32)) hx hb dX9_square_25 (by decide) ?_
    obtain ⟨r3, th_4, e5, h⟩ := zb2_some h
    refine zgoi (va_runV (As := [.int (0 : Int32)]) (rest := []) ⟨hx, hb, hml, hown, hts⟩ (c_X9_isNo l D q v cJ cI cO cB V ib dn rf mk th false r3 th_4 e5 H.size) (cwV 1 hts gX9_square_X9_isNo rfl rfl rfl hdV_X9_isNo ⟨Nat.le_of_ble_eq_true rfl, Nat.le_of_ble_eq_true rfl⟩) (zpreV (q0 := 0) (ci := 9) (T := TX9) (N := 6) hK hP hD rfl rfl [.int (0 : Int32)]) rfl rfl hl.1 rfl (lv_room (Nat.le_of_ble_eq_true rfl)) dX9_square_26 ⟨Nat.le_of_ble_eq_true rfl, Nat.le_of_ble_eq_true rfl⟩) (zfree hD hS hA) (zjW hD hS hA) hS (fun H locs hP hD hS => ?_)
    replace hP : va_P D vwCl (mW q v cJ V ib dn rf mk th_4) H := hP
    replace hD : va_D A (mW q v cJ V ib dn rf mk th_4) := hD
    refine lv_if_eq (tgt := 36) hx hb dX9_square_29 (by decide) (fun c29 => ?_) (fun c29 => ?_)
    · replace h := zif_t h c29
      refine lv_iload_n hx hb dX9_square_36 rfl (lv_at hl 1 rfl) ?_
      obtain ⟨r6, e7, h⟩ := zb1_some h
      refine zgoi (va_runS (As := [.int p0]) (rest := []) ⟨hx, hb, hml, hown, hts⟩ (c_X9_squareOf l D (zT cJ cI cO cB) F p0 r6 e7 H.size) (va_cwS 1 hts gX9_square_X9_squareOf rfl rfl rfl hdS_X9_squareOf ⟨Nat.le_of_ble_eq_true rfl, Nat.le_of_ble_eq_true rfl⟩) (zpreS hK zP0 (zD0 (A := A)) [.int p0]) rfl rfl hl.1 rfl (lv_room (Nat.le_of_ble_eq_true rfl)) dX9_square_37 ⟨Nat.le_of_ble_eq_true rfl, Nat.le_of_ble_eq_true rfl⟩) (zf0 hS hA) (zjE hP hD) hS (fun H locs hP hD hS => ?_)
      have g0 := Option.some.inj h
      obtain ⟨h1, g1⟩ := Prod.mk.inj g0
      subst h1
      subst g1
      exact W.iret (v := r6) hx hb hr (fun t ht hW => ⟨⟨r6, (), rfl, rfl, by rw [ht]; exact hP, va_K.moved hW.alike hK, hD⟩, hS.F ht⟩) hS.2.2 dX9_square_40
    · replace h := zif_f h c29
      refine lv_iconst (v := (0 : Int32)) hx hb dX9_square_32 (by decide) ?_
      refine lv_goto (tgt := 40) hx hb dX9_square_33 (by decide) ?_
      have g0 := Option.some.inj h
      obtain ⟨h1, g1⟩ := Prod.mk.inj g0
      subst h1
      subst g1
      exact W.iret (v := (0 : Int32)) hx hb hr (fun t ht hW => ⟨⟨(0 : Int32), (), rfl, rfl, by rw [ht]; exact hP, va_K.moved hW.alike hK, hD⟩, hS.F ht⟩) hS.2.2 dX9_square_40
  replace h := zlt_h h
  refine lv_if_eq (tgt := 25) hx hb dX9_square_9 (by decide) (fun c9 => ?_) (fun c9 => ?_)
  · replace h := zif_t h c9
    exact hGW _ _ _ _ _ (J0  _ _ ls hP hD hS (lv_sub hl [0, 1, 2] rfl) h)
  · replace h := zif_f h c9
    refine lv_iload_n hx hb dX9_square_12 rfl (lv_at hl 2 rfl) ?_
    refine lv_iconst (v := (0 : Int32)) hx hb dX9_square_13 (by decide) ?_
    refine lv_iconst (v := (1 : Int32)) hx hb dX9_square_14 (by decide) ?_
    obtain ⟨r8, e9, h⟩ := zb1_some h
    refine zgoi (va_runS (As := [.int p1, .int (0 : Int32), .int (1 : Int32)]) (rest := [.ref q]) ⟨hx, hb, hml, hown, hts⟩ (c_X9_isIn l D (zT cJ cI cO cB) p1 (0 : Int32) (1 : Int32) r8 e9 H.size) (va_cwS 3 hts gX9_square_X9_isIn rfl rfl rfl hdS_X9_isIn ⟨Nat.le_of_ble_eq_true rfl, Nat.le_of_ble_eq_true rfl⟩) (zpreS hK zP0 (zD0 (A := A)) [.int p1, .int (0 : Int32), .int (1 : Int32)]) rfl rfl hl.1 rfl (lv_room (Nat.le_of_ble_eq_true rfl)) dX9_square_15 ⟨Nat.le_of_ble_eq_true rfl, Nat.le_of_ble_eq_true rfl⟩) (zf0 hS hA) (zjE hP hD) hS (fun H locs hP hD hS => ?_)
    refine lv_if_eq (tgt := 25) hx hb dX9_square_18 (by decide) (fun c18 => ?_) (fun c18 => ?_)
    · replace h := zif_t h c18
      exact hGW _ _ _ _ _ (J0  _ _ ls hP hD hS (lv_sub hl [0, 1, 2] rfl) h)
    · replace h := zif_f h c18
      refine lv_iconst (v := (1 : Int32)) hx hb dX9_square_21 (by decide) ?_
      refine lv_goto (tgt := 26) hx hb dX9_square_22 (by decide) ?_
      obtain ⟨r10, th_11, e12, h⟩ := zb2_some h
      refine zgoi (va_runV (As := [.int (1 : Int32)]) (rest := []) ⟨hx, hb, hml, hown, hts⟩ (c_X9_isNo l D q v cJ cI cO cB V ib dn rf mk th true r10 th_11 e12 H.size) (cwV 1 hts gX9_square_X9_isNo rfl rfl rfl hdV_X9_isNo ⟨Nat.le_of_ble_eq_true rfl, Nat.le_of_ble_eq_true rfl⟩) (zpreV (q0 := 0) (ci := 9) (T := TX9) (N := 6) hK hP hD rfl rfl [.int (1 : Int32)]) rfl rfl hl.1 rfl (lv_room (Nat.le_of_ble_eq_true rfl)) dX9_square_26 ⟨Nat.le_of_ble_eq_true rfl, Nat.le_of_ble_eq_true rfl⟩) (zfree hD hS hA) (zjW hD hS hA) hS (fun H locs hP hD hS => ?_)
      replace hP : va_P D vwCl (mW q v cJ V ib dn rf mk th_11) H := hP
      replace hD : va_D A (mW q v cJ V ib dn rf mk th_11) := hD
      refine lv_if_eq (tgt := 36) hx hb dX9_square_29 (by decide) (fun c29 => ?_) (fun c29 => ?_)
      · replace h := zif_t h c29
        refine lv_iload_n hx hb dX9_square_36 rfl (lv_at hl 1 rfl) ?_
        obtain ⟨r13, e14, h⟩ := zb1_some h
        refine zgoi (va_runS (As := [.int p0]) (rest := []) ⟨hx, hb, hml, hown, hts⟩ (c_X9_squareOf l D (zT cJ cI cO cB) F p0 r13 e14 H.size) (va_cwS 1 hts gX9_square_X9_squareOf rfl rfl rfl hdS_X9_squareOf ⟨Nat.le_of_ble_eq_true rfl, Nat.le_of_ble_eq_true rfl⟩) (zpreS hK zP0 (zD0 (A := A)) [.int p0]) rfl rfl hl.1 rfl (lv_room (Nat.le_of_ble_eq_true rfl)) dX9_square_37 ⟨Nat.le_of_ble_eq_true rfl, Nat.le_of_ble_eq_true rfl⟩) (zf0 hS hA) (zjE hP hD) hS (fun H locs hP hD hS => ?_)
        have g0 := Option.some.inj h
        obtain ⟨h1, g1⟩ := Prod.mk.inj g0
        subst h1
        subst g1
        exact W.iret (v := r13) hx hb hr (fun t ht hW => ⟨⟨r13, (), rfl, rfl, by rw [ht]; exact hP, va_K.moved hW.alike hK, hD⟩, hS.F ht⟩) hS.2.2 dX9_square_40
      · replace h := zif_f h c29
        refine lv_iconst (v := (0 : Int32)) hx hb dX9_square_32 (by decide) ?_
        refine lv_goto (tgt := 40) hx hb dX9_square_33 (by decide) ?_
        have g0 := Option.some.inj h
        obtain ⟨h1, g1⟩ := Prod.mk.inj g0
        subst h1
        subst g1
        exact W.iret (v := (0 : Int32)) hx hb hr (fun t ht hW => ⟨⟨(0 : Int32), (), rfl, rfl, by rw [ht]; exact hP, va_K.moved hW.alike hK, hD⟩, hS.F ht⟩) hS.2.2 dX9_square_40

noncomputable def p_X9_squareless_L0 (F : Nat) (p0 : Int32) (k : Int32 → Int32 → Option (Int32 × Int32)) : Nat → Int32 → Int32 → Option (Int32 × Int32)
  | 0, _, _ => none
  | n + 1, v3_0, v4_0 => (if p0 < v4_0 then (k v3_0 v4_0) else (zb1 (p_X9_squareOf F v4_0) (fun r6 => (if ¬ r6 = (1 : Int32) then (p_X9_squareless_L0 F p0 k n (v3_0 + (0 : Int32)) (v4_0 + (1 : Int32))) else (p_X9_squareless_L0 F p0 k n (v3_0 + (1 : Int32)) (v4_0 + (1 : Int32)))))))
noncomputable def p_X9_squareless_L1 (F : Nat) (p0 : Int32) (k : Int32 → Int32 → Option (Int32 × Int32)) : Nat → Int32 → Int32 → Option (Int32 × Int32)
  | 0, _, _ => none
  | n + 1, v3_1, v4_1 => (if p0 < v4_1 then (k v3_1 v4_1) else (zb1 (p_X9_squareOf F v4_1) (fun r13 => (if ¬ r13 = (1 : Int32) then (p_X9_squareless_L1 F p0 k n (v3_1 + (0 : Int32)) (v4_1 + (1 : Int32))) else (p_X9_squareless_L1 F p0 k n (v3_1 + (1 : Int32)) (v4_1 + (1 : Int32)))))))
noncomputable def p_X9_squareless (F : Nat) (p0 : Int32) (p1 : Int32) : Option (Int32 × Int32) := (zb1 (p_X9_isIn p0 (1 : Int32) (999 : Int32)) (fun r1 => (zlt (zb2 (p_X9_isNo false) (fun r3 th_4 => (if (z01 r3) = 0 then (p_X9_squareless_L0 F p0 (fun v3_0 v4_0 => (some (v3_0, th_4))) F (0 : Int32) (1 : Int32)) else (some ((0 : Int32), th_4))))) (fun jf0 => (if (z01 r1) = 0 then (jf0 ) else (zb1 (p_X9_isIn p1 (0 : Int32) (1 : Int32)) (fun r8 => (if (z01 r8) = 0 then (jf0 ) else (zb2 (p_X9_isNo true) (fun r10 th_11 => (if (z01 r10) = 0 then (p_X9_squareless_L1 F p0 (fun v3_1 v4_1 => (some (v3_1, th_11))) F (0 : Int32) (1 : Int32)) else (some ((0 : Int32), th_11)))))))))))))
theorem hdV_X9_squareless : yX9_squareless.cls = RX9 ∧ yX9_squareless.cls ≠ "java/lang/invoke/MethodHandle" ∧ yX9_squareless.cls ≠ "java/lang/invoke/VarHandle" ∧ (parseMethodDescriptor yX9_squareless.desc).map (fun d => d.parameters.length) = some 2 := by decide +kernel
set_option maxHeartbeats 4000000 in
set_option maxRecDepth 100000 in
theorem c_X9_squareless (l : Launch) (D : va_G) (q v : Nat) (cJ cI cO cB : ClassId) (V : Nat → Int64) (ib : Bool) (dn : Int32) (rf : Int32) (mk : Int32) (th : Int32) (F : Nat) (p0 : Int32) (p1 : Int32) (r : Int32) (th' : Int32) (h : p_X9_squareless F p0 p1 = some (r, th')) : zMi l yX9_squareless wsX9_squareless 1 22 0 0 D (zT cJ cI cO cB) [.ref q, .int p0, .int p1] (mW q v cJ V ib dn rf mk th) (mW q v cJ V ib dn rf mk th') r := by
  intro sz
  delta zQi
  refine Met.ofW (cc := cX9_squareless) (maxL := 5) (ret := (some .int)) (by decide) rfl ?_
  intro p e s m args below meth c s₁ B hml hv
  obtain ⟨rfl, hsz, hP, hK, hD0⟩ := hv
  have hx := B.exec
  have hb := B.bytes
  have hr := B.returns
  have hts := atoms_spec (ws := wsX9_squareless) B.pre
  have hown : s.vm.findClass RX9 = some m.cls := findClass_of_methodNamed B.named
  have hlocks := B.notSynchronized
  subst hsz
  have hD := hD0.self (sz := s.heap.size)
  generalize hAe : va_A (mW q v cJ V ib dn rf mk th) s.heap.size = A at hD ⊢
  have hA : ∀ q : Nat, s.heap.size ≤ q → A q := fun q h => by rw [← hAe]; exact Or.inr h
  have hS : va_S A s.heap s.heap [] := va_S.rf
  have hl := lv_entry ([.ref q, .int p0, .int p1]) (n := 5) (Nat.le_of_ble_eq_true rfl)
  rw [lg_entry_eq]
  generalize (lg_sl ([.ref q, .int p0, .int p1]) ++ List.replicate (5 - (lg_sl ([.ref q, .int p0, .int p1])).length) Slot.unset).toArray = ls at hl ⊢
  replace hl : lv_has ls 5 [(0, .ref q), (1, .int p0), (2, .int p1)] := hl
  replace h : (zb1 (p_X9_isIn p0 (1 : Int32) (999 : Int32)) (fun r1 => (zlt (zb2 (p_X9_isNo false) (fun r3 th_4 => (if (z01 r3) = 0 then (p_X9_squareless_L0 F p0 (fun v3_0 v4_0 => (some (v3_0, th_4))) F (0 : Int32) (1 : Int32)) else (some ((0 : Int32), th_4))))) (fun jf0 => (if (z01 r1) = 0 then (jf0 ) else (zb1 (p_X9_isIn p1 (0 : Int32) (1 : Int32)) (fun r8 => (if (z01 r8) = 0 then (jf0 ) else (zb2 (p_X9_isNo true) (fun r10 th_11 => (if (z01 r10) = 0 then (p_X9_squareless_L1 F p0 (fun v3_1 v4_1 => (some (v3_1, th_11))) F (0 : Int32) (1 : Int32)) else (some ((0 : Int32), th_11))))))))))))) = some (r, th') := h
  refine zabs (fun G hG hGW => ?_)
  obtain ⟨H, hHe⟩ : ∃ H, H = s.heap := ⟨_, rfl⟩
  rw [← hHe] at hP
  replace hS : va_S A s.heap H [] := by rw [hHe]; exact hS
  refine zheap hHe ?_
  refine lv_aload_n hx hb dX9_squareless_0 rfl (lv_at hl 0 rfl) ?_
  refine lv_iload_n hx hb dX9_squareless_1 rfl (lv_at hl 1 rfl) ?_
  refine lv_iconst (v := (1 : Int32)) hx hb dX9_squareless_2 (by decide) ?_
  refine lv_sipush (v := (999 : Int32)) hx hb dX9_squareless_3 (by decide) ?_
  obtain ⟨r1, e2, h⟩ := zb1_some h
  refine zgoi (va_runS (As := [.int p0, .int (1 : Int32), .int (999 : Int32)]) (rest := [.ref q]) ⟨hx, hb, hml, hown, hts⟩ (c_X9_isIn l D (zT cJ cI cO cB) p0 (1 : Int32) (999 : Int32) r1 e2 H.size) (va_cwS 3 hts gX9_squareless_X9_isIn rfl rfl rfl hdS_X9_isIn ⟨Nat.le_of_ble_eq_true rfl, Nat.le_of_ble_eq_true rfl⟩) (zpreS hK zP0 (zD0 (A := A)) [.int p0, .int (1 : Int32), .int (999 : Int32)]) rfl rfl hl.1 rfl (lv_room (Nat.le_of_ble_eq_true rfl)) dX9_squareless_6 ⟨Nat.le_of_ble_eq_true rfl, Nat.le_of_ble_eq_true rfl⟩) (zf0 hS hA) (zjE hP hD) hS (fun H locs hP hD hS => ?_)
  have J0 : ∀  (H : Heap) (locs : List Loc) (ls : Array Slot), va_P D vwCl (mW q v cJ V ib dn rf mk th) H → va_D A (mW q v cJ V ib dn rf mk th) → va_S A s.heap H locs → lv_has ls 5 [(0, .ref q), (1, .int p0), (2, .int p1)] → (zb2 (p_X9_isNo false) (fun r3 th_4 => (if (z01 r3) = 0 then (p_X9_squareless_L0 F p0 (fun v3_0 v4_0 => (some (v3_0, th_4))) F (0 : Int32) (1 : Int32)) else (some ((0 : Int32), th_4))))) = some (r, th') → G H locs 0 0 (F0 m 25 ls [.ref q]) := by
    intro  H locs ls hP hD hS hl h
    refine hG _ _ _ _ _ ?_
    refine lv_iconst (v := (0 : Int32)) hx hb dX9_squareless_25 (by decide) ?_
    obtain ⟨r3, th_4, e5, h⟩ := zb2_some h
    refine zgoi (va_runV (As := [.int (0 : Int32)]) (rest := []) ⟨hx, hb, hml, hown, hts⟩ (c_X9_isNo l D q v cJ cI cO cB V ib dn rf mk th false r3 th_4 e5 H.size) (cwV 1 hts gX9_squareless_X9_isNo rfl rfl rfl hdV_X9_isNo ⟨Nat.le_of_ble_eq_true rfl, Nat.le_of_ble_eq_true rfl⟩) (zpreV (q0 := 0) (ci := 9) (T := TX9) (N := 6) hK hP hD rfl rfl [.int (0 : Int32)]) rfl rfl hl.1 rfl (lv_room (Nat.le_of_ble_eq_true rfl)) dX9_squareless_26 ⟨Nat.le_of_ble_eq_true rfl, Nat.le_of_ble_eq_true rfl⟩) (zfree hD hS hA) (zjW hD hS hA) hS (fun H locs hP hD hS => ?_)
    replace hP : va_P D vwCl (mW q v cJ V ib dn rf mk th_4) H := hP
    replace hD : va_D A (mW q v cJ V ib dn rf mk th_4) := hD
    refine lv_if_eq (tgt := 34) hx hb dX9_squareless_29 (by decide) (fun c29 => ?_) (fun c29 => ?_)
    · replace h := zif_t h c29
      refine lv_iconst (v := (0 : Int32)) hx hb dX9_squareless_34 (by decide) ?_
      refine lv_istore_n (lv' := [(3, .int (0 : Int32)), (0, .ref q), (1, .int p0), (2, .int p1)]) hx hb dX9_squareless_35 rfl hl (by decide) rfl (fun ls hl => ?_)
      refine lv_iconst (v := (1 : Int32)) hx hb dX9_squareless_36 (by decide) ?_
      refine lv_istore (lv' := [(4, .int (1 : Int32)), (3, .int (0 : Int32)), (0, .ref q), (1, .int p0), (2, .int p1)]) hx hb dX9_squareless_37 hl (by decide) rfl (fun ls hl => ?_)
      have X0 : ∀ (v3_0 : Int32) (v4_0 : Int32) (H : Heap) (locs : List Loc) (ls : Array Slot), va_P D vwCl (mW q v cJ V ib dn rf mk th_4) H → va_D A (mW q v cJ V ib dn rf mk th_4) → va_S A s.heap H locs → lv_has ls 5 [(0, .ref q), (1, .int p0), (2, .int p1), (3, .int v3_0), (4, .int v4_0)] → (some (v3_0, th_4)) = some (r, th') → G H locs 0 0 (F0 m 68 ls []) := by
        intro v3_0 v4_0 H locs ls hP hD hS hl h
        refine hG _ _ _ _ _ ?_
        refine lv_iload_n hx hb dX9_squareless_68 rfl (lv_at hl 3 rfl) ?_
        have g0 := Option.some.inj h
        obtain ⟨h1, g1⟩ := Prod.mk.inj g0
        subst h1
        subst g1
        exact W.iret (v := v3_0) hx hb hr (fun t ht hW => ⟨⟨v3_0, (), rfl, rfl, by rw [ht]; exact hP, va_K.moved hW.alike hK, hD⟩, hS.F ht⟩) hS.2.2 dX9_squareless_69
      have L0 : ∀ (K0 : Int32 → Int32 → Option (Int32 × Int32)) (HX0 : ∀ (v3_0 : Int32) (v4_0 : Int32) (H : Heap) (locs : List Loc) (ls : Array Slot), va_P D vwCl (mW q v cJ V ib dn rf mk th_4) H → va_D A (mW q v cJ V ib dn rf mk th_4) → va_S A s.heap H locs → lv_has ls 5 [(0, .ref q), (1, .int p0), (2, .int p1), (3, .int v3_0), (4, .int v4_0)] → K0 v3_0 v4_0 = some (r, th') → G H locs 0 0 (F0 m 68 ls [])) (fu0 : Nat) (v3_0 : Int32) (v4_0 : Int32) (H : Heap) (locs : List Loc) (ls : Array Slot), va_P D vwCl (mW q v cJ V ib dn rf mk th_4) H → va_D A (mW q v cJ V ib dn rf mk th_4) → va_S A s.heap H locs → lv_has ls 5 [(0, .ref q), (1, .int p0), (2, .int p1), (3, .int v3_0), (4, .int v4_0)] → p_X9_squareless_L0 F p0 K0 fu0 v3_0 v4_0 = some (r, th') → G H locs 0 0 (F0 m 39 ls []) := by
        intro K0 HX0 fu0
        induction fu0 with
        | zero =>
          intro v3_0 v4_0 H locs ls hP hD hS hl h
          exact (zno h).elim
        | succ fu0 ih0 =>
          intro v3_0 v4_0 H locs ls hP hD hS hl h
          refine hG _ _ _ _ _ ?_
          unfold p_X9_squareless_L0 at h
          refine lv_iload hx hb dX9_squareless_39 (lv_at hl 4 rfl) ?_
          refine lv_iload_n hx hb dX9_squareless_41 rfl (lv_at hl 1 rfl) ?_
          refine lv_icmp_gt (tgt := 68) hx hb dX9_squareless_42 (by decide) (fun c42 => ?_) (fun c42 => ?_)
          · replace h := zif_t h c42
            exact hGW _ _ _ _ _ (HX0 v3_0 v4_0 _ _ ls hP hD hS (lv_sub hl [0, 1, 2, 3, 4] rfl) h)
          · replace h := zif_f h c42
            refine lv_iload_n hx hb dX9_squareless_45 rfl (lv_at hl 3 rfl) ?_
            refine lv_iload hx hb dX9_squareless_46 (lv_at hl 4 rfl) ?_
            obtain ⟨r6, e7, h⟩ := zb1_some h
            refine zgoi (va_runS (As := [.int v4_0]) (rest := [.int v3_0]) ⟨hx, hb, hml, hown, hts⟩ (c_X9_squareOf l D (zT cJ cI cO cB) F v4_0 r6 e7 H.size) (va_cwS 1 hts gX9_squareless_X9_squareOf rfl rfl rfl hdS_X9_squareOf ⟨Nat.le_of_ble_eq_true rfl, Nat.le_of_ble_eq_true rfl⟩) (zpreS hK zP0 (zD0 (A := A)) [.int v4_0]) rfl rfl hl.1 rfl (lv_room (Nat.le_of_ble_eq_true rfl)) dX9_squareless_48 ⟨Nat.le_of_ble_eq_true rfl, Nat.le_of_ble_eq_true rfl⟩) (zf0 hS hA) (zjE hP hD) hS (fun H locs hP hD hS => ?_)
            refine lv_iconst (v := (1 : Int32)) hx hb dX9_squareless_51 (by decide) ?_
            refine lv_icmp_ne (tgt := 59) hx hb dX9_squareless_52 (by decide) (fun c52 => ?_) (fun c52 => ?_)
            · replace h := zif_t h c52
              refine lv_iconst (v := (0 : Int32)) hx hb dX9_squareless_59 (by decide) ?_
              refine lv_iadd hx hb dX9_squareless_60 ?_
              refine lv_istore_n (lv' := [(3, .int (v3_0 + (0 : Int32))), (0, .ref q), (1, .int p0), (2, .int p1), (4, .int v4_0)]) hx hb dX9_squareless_61 rfl hl (by decide) rfl (fun ls hl => ?_)
              refine lv_iinc (v := (v4_0 + (1 : Int32))) (lv' := [(4, .int (v4_0 + (1 : Int32))), (3, .int (v3_0 + (0 : Int32))), (0, .ref q), (1, .int p0), (2, .int p1)]) hx hb dX9_squareless_62 hl (k := 4) rfl rfl (by decide) rfl (fun ls hl => ?_)
              refine lv_goto (tgt := 39) hx hb dX9_squareless_65 (by decide) ?_
              exact hGW _ _ _ _ _ (ih0 (v3_0 + (0 : Int32)) (v4_0 + (1 : Int32)) _ _ ls hP hD hS (lv_sub hl [2, 3, 4, 1, 0] rfl) h)
            · replace h := zif_fn h c52
              refine lv_iconst (v := (1 : Int32)) hx hb dX9_squareless_55 (by decide) ?_
              refine lv_goto (tgt := 60) hx hb dX9_squareless_56 (by decide) ?_
              refine lv_iadd hx hb dX9_squareless_60 ?_
              refine lv_istore_n (lv' := [(3, .int (v3_0 + (1 : Int32))), (0, .ref q), (1, .int p0), (2, .int p1), (4, .int v4_0)]) hx hb dX9_squareless_61 rfl hl (by decide) rfl (fun ls hl => ?_)
              refine lv_iinc (v := (v4_0 + (1 : Int32))) (lv' := [(4, .int (v4_0 + (1 : Int32))), (3, .int (v3_0 + (1 : Int32))), (0, .ref q), (1, .int p0), (2, .int p1)]) hx hb dX9_squareless_62 hl (k := 4) rfl rfl (by decide) rfl (fun ls hl => ?_)
              refine lv_goto (tgt := 39) hx hb dX9_squareless_65 (by decide) ?_
              exact hGW _ _ _ _ _ (ih0 (v3_0 + (1 : Int32)) (v4_0 + (1 : Int32)) _ _ ls hP hD hS (lv_sub hl [2, 3, 4, 1, 0] rfl) h)
      exact hGW _ _ _ _ _ (L0 _ X0 F (0 : Int32) (1 : Int32) _ _ ls hP hD hS (lv_sub hl [2, 3, 4, 1, 0] rfl) h)
    · replace h := zif_f h c29
      refine lv_iconst (v := (0 : Int32)) hx hb dX9_squareless_32 (by decide) ?_
      have g0 := Option.some.inj h
      obtain ⟨h1, g1⟩ := Prod.mk.inj g0
      subst h1
      subst g1
      exact W.iret (v := (0 : Int32)) hx hb hr (fun t ht hW => ⟨⟨(0 : Int32), (), rfl, rfl, by rw [ht]; exact hP, va_K.moved hW.alike hK, hD⟩, hS.F ht⟩) hS.2.2 dX9_squareless_33
  replace h := zlt_h h
  refine lv_if_eq (tgt := 25) hx hb dX9_squareless_9 (by decide) (fun c9 => ?_) (fun c9 => ?_)
  · replace h := zif_t h c9
    exact hGW _ _ _ _ _ (J0  _ _ ls hP hD hS (lv_sub hl [0, 1, 2] rfl) h)
  · replace h := zif_f h c9
    refine lv_iload_n hx hb dX9_squareless_12 rfl (lv_at hl 2 rfl) ?_
    refine lv_iconst (v := (0 : Int32)) hx hb dX9_squareless_13 (by decide) ?_
    refine lv_iconst (v := (1 : Int32)) hx hb dX9_squareless_14 (by decide) ?_
    obtain ⟨r8, e9, h⟩ := zb1_some h
    refine zgoi (va_runS (As := [.int p1, .int (0 : Int32), .int (1 : Int32)]) (rest := [.ref q]) ⟨hx, hb, hml, hown, hts⟩ (c_X9_isIn l D (zT cJ cI cO cB) p1 (0 : Int32) (1 : Int32) r8 e9 H.size) (va_cwS 3 hts gX9_squareless_X9_isIn rfl rfl rfl hdS_X9_isIn ⟨Nat.le_of_ble_eq_true rfl, Nat.le_of_ble_eq_true rfl⟩) (zpreS hK zP0 (zD0 (A := A)) [.int p1, .int (0 : Int32), .int (1 : Int32)]) rfl rfl hl.1 rfl (lv_room (Nat.le_of_ble_eq_true rfl)) dX9_squareless_15 ⟨Nat.le_of_ble_eq_true rfl, Nat.le_of_ble_eq_true rfl⟩) (zf0 hS hA) (zjE hP hD) hS (fun H locs hP hD hS => ?_)
    refine lv_if_eq (tgt := 25) hx hb dX9_squareless_18 (by decide) (fun c18 => ?_) (fun c18 => ?_)
    · replace h := zif_t h c18
      exact hGW _ _ _ _ _ (J0  _ _ ls hP hD hS (lv_sub hl [0, 1, 2] rfl) h)
    · replace h := zif_f h c18
      refine lv_iconst (v := (1 : Int32)) hx hb dX9_squareless_21 (by decide) ?_
      refine lv_goto (tgt := 26) hx hb dX9_squareless_22 (by decide) ?_
      obtain ⟨r10, th_11, e12, h⟩ := zb2_some h
      refine zgoi (va_runV (As := [.int (1 : Int32)]) (rest := []) ⟨hx, hb, hml, hown, hts⟩ (c_X9_isNo l D q v cJ cI cO cB V ib dn rf mk th true r10 th_11 e12 H.size) (cwV 1 hts gX9_squareless_X9_isNo rfl rfl rfl hdV_X9_isNo ⟨Nat.le_of_ble_eq_true rfl, Nat.le_of_ble_eq_true rfl⟩) (zpreV (q0 := 0) (ci := 9) (T := TX9) (N := 6) hK hP hD rfl rfl [.int (1 : Int32)]) rfl rfl hl.1 rfl (lv_room (Nat.le_of_ble_eq_true rfl)) dX9_squareless_26 ⟨Nat.le_of_ble_eq_true rfl, Nat.le_of_ble_eq_true rfl⟩) (zfree hD hS hA) (zjW hD hS hA) hS (fun H locs hP hD hS => ?_)
      replace hP : va_P D vwCl (mW q v cJ V ib dn rf mk th_11) H := hP
      replace hD : va_D A (mW q v cJ V ib dn rf mk th_11) := hD
      refine lv_if_eq (tgt := 34) hx hb dX9_squareless_29 (by decide) (fun c29 => ?_) (fun c29 => ?_)
      · replace h := zif_t h c29
        refine lv_iconst (v := (0 : Int32)) hx hb dX9_squareless_34 (by decide) ?_
        refine lv_istore_n (lv' := [(3, .int (0 : Int32)), (0, .ref q), (1, .int p0), (2, .int p1)]) hx hb dX9_squareless_35 rfl hl (by decide) rfl (fun ls hl => ?_)
        refine lv_iconst (v := (1 : Int32)) hx hb dX9_squareless_36 (by decide) ?_
        refine lv_istore (lv' := [(4, .int (1 : Int32)), (3, .int (0 : Int32)), (0, .ref q), (1, .int p0), (2, .int p1)]) hx hb dX9_squareless_37 hl (by decide) rfl (fun ls hl => ?_)
        have X1 : ∀ (v3_1 : Int32) (v4_1 : Int32) (H : Heap) (locs : List Loc) (ls : Array Slot), va_P D vwCl (mW q v cJ V ib dn rf mk th_11) H → va_D A (mW q v cJ V ib dn rf mk th_11) → va_S A s.heap H locs → lv_has ls 5 [(0, .ref q), (1, .int p0), (2, .int p1), (3, .int v3_1), (4, .int v4_1)] → (some (v3_1, th_11)) = some (r, th') → G H locs 0 0 (F0 m 68 ls []) := by
          intro v3_1 v4_1 H locs ls hP hD hS hl h
          refine hG _ _ _ _ _ ?_
          refine lv_iload_n hx hb dX9_squareless_68 rfl (lv_at hl 3 rfl) ?_
          have g0 := Option.some.inj h
          obtain ⟨h1, g1⟩ := Prod.mk.inj g0
          subst h1
          subst g1
          exact W.iret (v := v3_1) hx hb hr (fun t ht hW => ⟨⟨v3_1, (), rfl, rfl, by rw [ht]; exact hP, va_K.moved hW.alike hK, hD⟩, hS.F ht⟩) hS.2.2 dX9_squareless_69
        have L1 : ∀ (K1 : Int32 → Int32 → Option (Int32 × Int32)) (HX1 : ∀ (v3_1 : Int32) (v4_1 : Int32) (H : Heap) (locs : List Loc) (ls : Array Slot), va_P D vwCl (mW q v cJ V ib dn rf mk th_11) H → va_D A (mW q v cJ V ib dn rf mk th_11) → va_S A s.heap H locs → lv_has ls 5 [(0, .ref q), (1, .int p0), (2, .int p1), (3, .int v3_1), (4, .int v4_1)] → K1 v3_1 v4_1 = some (r, th') → G H locs 0 0 (F0 m 68 ls [])) (fu1 : Nat) (v3_1 : Int32) (v4_1 : Int32) (H : Heap) (locs : List Loc) (ls : Array Slot), va_P D vwCl (mW q v cJ V ib dn rf mk th_11) H → va_D A (mW q v cJ V ib dn rf mk th_11) → va_S A s.heap H locs → lv_has ls 5 [(0, .ref q), (1, .int p0), (2, .int p1), (3, .int v3_1), (4, .int v4_1)] → p_X9_squareless_L1 F p0 K1 fu1 v3_1 v4_1 = some (r, th') → G H locs 0 0 (F0 m 39 ls []) := by
          intro K1 HX1 fu1
          induction fu1 with
          | zero =>
            intro v3_1 v4_1 H locs ls hP hD hS hl h
            exact (zno h).elim
          | succ fu1 ih1 =>
            intro v3_1 v4_1 H locs ls hP hD hS hl h
            refine hG _ _ _ _ _ ?_
            unfold p_X9_squareless_L1 at h
            refine lv_iload hx hb dX9_squareless_39 (lv_at hl 4 rfl) ?_
            refine lv_iload_n hx hb dX9_squareless_41 rfl (lv_at hl 1 rfl) ?_
            refine lv_icmp_gt (tgt := 68) hx hb dX9_squareless_42 (by decide) (fun c42 => ?_) (fun c42 => ?_)
            · replace h := zif_t h c42
              exact hGW _ _ _ _ _ (HX1 v3_1 v4_1 _ _ ls hP hD hS (lv_sub hl [0, 1, 2, 3, 4] rfl) h)
            · replace h := zif_f h c42
              refine lv_iload_n hx hb dX9_squareless_45 rfl (lv_at hl 3 rfl) ?_
              refine lv_iload hx hb dX9_squareless_46 (lv_at hl 4 rfl) ?_
              obtain ⟨r13, e14, h⟩ := zb1_some h
              refine zgoi (va_runS (As := [.int v4_1]) (rest := [.int v3_1]) ⟨hx, hb, hml, hown, hts⟩ (c_X9_squareOf l D (zT cJ cI cO cB) F v4_1 r13 e14 H.size) (va_cwS 1 hts gX9_squareless_X9_squareOf rfl rfl rfl hdS_X9_squareOf ⟨Nat.le_of_ble_eq_true rfl, Nat.le_of_ble_eq_true rfl⟩) (zpreS hK zP0 (zD0 (A := A)) [.int v4_1]) rfl rfl hl.1 rfl (lv_room (Nat.le_of_ble_eq_true rfl)) dX9_squareless_48 ⟨Nat.le_of_ble_eq_true rfl, Nat.le_of_ble_eq_true rfl⟩) (zf0 hS hA) (zjE hP hD) hS (fun H locs hP hD hS => ?_)
              refine lv_iconst (v := (1 : Int32)) hx hb dX9_squareless_51 (by decide) ?_
              refine lv_icmp_ne (tgt := 59) hx hb dX9_squareless_52 (by decide) (fun c52 => ?_) (fun c52 => ?_)
              · replace h := zif_t h c52
                refine lv_iconst (v := (0 : Int32)) hx hb dX9_squareless_59 (by decide) ?_
                refine lv_iadd hx hb dX9_squareless_60 ?_
                refine lv_istore_n (lv' := [(3, .int (v3_1 + (0 : Int32))), (0, .ref q), (1, .int p0), (2, .int p1), (4, .int v4_1)]) hx hb dX9_squareless_61 rfl hl (by decide) rfl (fun ls hl => ?_)
                refine lv_iinc (v := (v4_1 + (1 : Int32))) (lv' := [(4, .int (v4_1 + (1 : Int32))), (3, .int (v3_1 + (0 : Int32))), (0, .ref q), (1, .int p0), (2, .int p1)]) hx hb dX9_squareless_62 hl (k := 4) rfl rfl (by decide) rfl (fun ls hl => ?_)
                refine lv_goto (tgt := 39) hx hb dX9_squareless_65 (by decide) ?_
                exact hGW _ _ _ _ _ (ih1 (v3_1 + (0 : Int32)) (v4_1 + (1 : Int32)) _ _ ls hP hD hS (lv_sub hl [2, 3, 4, 1, 0] rfl) h)
              · replace h := zif_fn h c52
                refine lv_iconst (v := (1 : Int32)) hx hb dX9_squareless_55 (by decide) ?_
                refine lv_goto (tgt := 60) hx hb dX9_squareless_56 (by decide) ?_
                refine lv_iadd hx hb dX9_squareless_60 ?_
                refine lv_istore_n (lv' := [(3, .int (v3_1 + (1 : Int32))), (0, .ref q), (1, .int p0), (2, .int p1), (4, .int v4_1)]) hx hb dX9_squareless_61 rfl hl (by decide) rfl (fun ls hl => ?_)
                refine lv_iinc (v := (v4_1 + (1 : Int32))) (lv' := [(4, .int (v4_1 + (1 : Int32))), (3, .int (v3_1 + (1 : Int32))), (0, .ref q), (1, .int p0), (2, .int p1)]) hx hb dX9_squareless_62 hl (k := 4) rfl rfl (by decide) rfl (fun ls hl => ?_)
                refine lv_goto (tgt := 39) hx hb dX9_squareless_65 (by decide) ?_
                exact hGW _ _ _ _ _ (ih1 (v3_1 + (1 : Int32)) (v4_1 + (1 : Int32)) _ _ ls hP hD hS (lv_sub hl [2, 3, 4, 1, 0] rfl) h)
        exact hGW _ _ _ _ _ (L1 _ X1 F (0 : Int32) (1 : Int32) _ _ ls hP hD hS (lv_sub hl [2, 3, 4, 1, 0] rfl) h)
      · replace h := zif_f h c29
        refine lv_iconst (v := (0 : Int32)) hx hb dX9_squareless_32 (by decide) ?_
        have g0 := Option.some.inj h
        obtain ⟨h1, g1⟩ := Prod.mk.inj g0
        subst h1
        subst g1
        exact W.iret (v := (0 : Int32)) hx hb hr (fun t ht hW => ⟨⟨(0 : Int32), (), rfl, rfl, by rw [ht]; exact hP, va_K.moved hW.alike hK, hD⟩, hS.F ht⟩) hS.2.2 dX9_squareless_33

noncomputable def p_X9_apart_L1 (F : Nat) (p0 : Int32) (v4_0 : Int32) (k : Int32 → Int32 → Option (Int32 × Int32)) : Nat → Int32 → Int32 → Option (Int32 × Int32)
  | 0, _, _ => none
  | n + 1, v3_1, v5_1 => (if p0 < v5_1 then (k v3_1 v5_1) else (zb1 (p_X9_common F v4_0 v5_1) (fun r6 => (if ¬ r6 = (1 : Int32) then (p_X9_apart_L1 F p0 v4_0 k n (v3_1 + (0 : Int32)) (v5_1 + (1 : Int32))) else (p_X9_apart_L1 F p0 v4_0 k n (v3_1 + (1 : Int32)) (v5_1 + (1 : Int32)))))))
noncomputable def p_X9_apart_L0 (F : Nat) (p0 : Int32) (k : Int32 → Int32 → Option (Int32 × Int32)) : Nat → Int32 → Int32 → Option (Int32 × Int32)
  | 0, _, _ => none
  | n + 1, v3_0, v4_0 => (if p0 < v4_0 then (k v3_0 v4_0) else (p_X9_apart_L1 F p0 v4_0 (fun v3_1 v5_1 => (p_X9_apart_L0 F p0 k n v3_1 (v4_0 + (1 : Int32)))) F v3_0 (1 : Int32)))
noncomputable def p_X9_apart_L3 (F : Nat) (p0 : Int32) (v4_2 : Int32) (k : Int32 → Int32 → Option (Int32 × Int32)) : Nat → Int32 → Int32 → Option (Int32 × Int32)
  | 0, _, _ => none
  | n + 1, v3_3, v5_3 => (if p0 < v5_3 then (k v3_3 v5_3) else (zb1 (p_X9_common F v4_2 v5_3) (fun r13 => (if ¬ r13 = (1 : Int32) then (p_X9_apart_L3 F p0 v4_2 k n (v3_3 + (0 : Int32)) (v5_3 + (1 : Int32))) else (p_X9_apart_L3 F p0 v4_2 k n (v3_3 + (1 : Int32)) (v5_3 + (1 : Int32)))))))
noncomputable def p_X9_apart_L2 (F : Nat) (p0 : Int32) (k : Int32 → Int32 → Option (Int32 × Int32)) : Nat → Int32 → Int32 → Option (Int32 × Int32)
  | 0, _, _ => none
  | n + 1, v3_2, v4_2 => (if p0 < v4_2 then (k v3_2 v4_2) else (p_X9_apart_L3 F p0 v4_2 (fun v3_3 v5_3 => (p_X9_apart_L2 F p0 k n v3_3 (v4_2 + (1 : Int32)))) F v3_2 (1 : Int32)))
noncomputable def p_X9_apart (F : Nat) (p0 : Int32) (p1 : Int32) : Option (Int32 × Int32) := (zb1 (p_X9_isIn p0 (1 : Int32) (120 : Int32)) (fun r1 => (zlt (zb2 (p_X9_isNo false) (fun r3 th_4 => (if (z01 r3) = 0 then (p_X9_apart_L0 F p0 (fun v3_0 v4_0 => (some (v3_0, th_4))) F (0 : Int32) (1 : Int32)) else (some ((0 : Int32), th_4))))) (fun jf0 => (if (z01 r1) = 0 then (jf0 ) else (zb1 (p_X9_isIn p1 (0 : Int32) (2 : Int32)) (fun r8 => (if (z01 r8) = 0 then (jf0 ) else (zb2 (p_X9_isNo true) (fun r10 th_11 => (if (z01 r10) = 0 then (p_X9_apart_L2 F p0 (fun v3_2 v4_2 => (some (v3_2, th_11))) F (0 : Int32) (1 : Int32)) else (some ((0 : Int32), th_11)))))))))))))
theorem hdV_X9_apart : yX9_apart.cls = RX9 ∧ yX9_apart.cls ≠ "java/lang/invoke/MethodHandle" ∧ yX9_apart.cls ≠ "java/lang/invoke/VarHandle" ∧ (parseMethodDescriptor yX9_apart.desc).map (fun d => d.parameters.length) = some 2 := by decide +kernel
set_option maxHeartbeats 4000000 in
set_option maxRecDepth 100000 in
theorem c_X9_apart (l : Launch) (D : va_G) (q v : Nat) (cJ cI cO cB : ClassId) (V : Nat → Int64) (ib : Bool) (dn : Int32) (rf : Int32) (mk : Int32) (th : Int32) (F : Nat) (p0 : Int32) (p1 : Int32) (r : Int32) (th' : Int32) (h : p_X9_apart F p0 p1 = some (r, th')) : zMi l yX9_apart wsX9_apart 2 43 0 0 D (zT cJ cI cO cB) [.ref q, .int p0, .int p1] (mW q v cJ V ib dn rf mk th) (mW q v cJ V ib dn rf mk th') r := by
  intro sz
  delta zQi
  refine Met.ofW (cc := cX9_apart) (maxL := 6) (ret := (some .int)) (by decide) rfl ?_
  intro p e s m args below meth c s₁ B hml hv
  obtain ⟨rfl, hsz, hP, hK, hD0⟩ := hv
  have hx := B.exec
  have hb := B.bytes
  have hr := B.returns
  have hts := atoms_spec (ws := wsX9_apart) B.pre
  have hown : s.vm.findClass RX9 = some m.cls := findClass_of_methodNamed B.named
  have hlocks := B.notSynchronized
  subst hsz
  have hD := hD0.self (sz := s.heap.size)
  generalize hAe : va_A (mW q v cJ V ib dn rf mk th) s.heap.size = A at hD ⊢
  have hA : ∀ q : Nat, s.heap.size ≤ q → A q := fun q h => by rw [← hAe]; exact Or.inr h
  have hS : va_S A s.heap s.heap [] := va_S.rf
  have hl := lv_entry ([.ref q, .int p0, .int p1]) (n := 6) (Nat.le_of_ble_eq_true rfl)
  rw [lg_entry_eq]
  generalize (lg_sl ([.ref q, .int p0, .int p1]) ++ List.replicate (6 - (lg_sl ([.ref q, .int p0, .int p1])).length) Slot.unset).toArray = ls at hl ⊢
  replace hl : lv_has ls 6 [(0, .ref q), (1, .int p0), (2, .int p1)] := hl
  replace h : (zb1 (p_X9_isIn p0 (1 : Int32) (120 : Int32)) (fun r1 => (zlt (zb2 (p_X9_isNo false) (fun r3 th_4 => (if (z01 r3) = 0 then (p_X9_apart_L0 F p0 (fun v3_0 v4_0 => (some (v3_0, th_4))) F (0 : Int32) (1 : Int32)) else (some ((0 : Int32), th_4))))) (fun jf0 => (if (z01 r1) = 0 then (jf0 ) else (zb1 (p_X9_isIn p1 (0 : Int32) (2 : Int32)) (fun r8 => (if (z01 r8) = 0 then (jf0 ) else (zb2 (p_X9_isNo true) (fun r10 th_11 => (if (z01 r10) = 0 then (p_X9_apart_L2 F p0 (fun v3_2 v4_2 => (some (v3_2, th_11))) F (0 : Int32) (1 : Int32)) else (some ((0 : Int32), th_11))))))))))))) = some (r, th') := h
  refine zabs (fun G hG hGW => ?_)
  obtain ⟨H, hHe⟩ : ∃ H, H = s.heap := ⟨_, rfl⟩
  rw [← hHe] at hP
  replace hS : va_S A s.heap H [] := by rw [hHe]; exact hS
  refine zheap hHe ?_
  refine lv_aload_n hx hb dX9_apart_0 rfl (lv_at hl 0 rfl) ?_
  refine lv_iload_n hx hb dX9_apart_1 rfl (lv_at hl 1 rfl) ?_
  refine lv_iconst (v := (1 : Int32)) hx hb dX9_apart_2 (by decide) ?_
  refine lv_bipush (v := (120 : Int32)) hx hb dX9_apart_3 (by decide) ?_
  obtain ⟨r1, e2, h⟩ := zb1_some h
  refine zgoi (va_runS (As := [.int p0, .int (1 : Int32), .int (120 : Int32)]) (rest := [.ref q]) ⟨hx, hb, hml, hown, hts⟩ (c_X9_isIn l D (zT cJ cI cO cB) p0 (1 : Int32) (120 : Int32) r1 e2 H.size) (va_cwS 3 hts gX9_apart_X9_isIn rfl rfl rfl hdS_X9_isIn ⟨Nat.le_of_ble_eq_true rfl, Nat.le_of_ble_eq_true rfl⟩) (zpreS hK zP0 (zD0 (A := A)) [.int p0, .int (1 : Int32), .int (120 : Int32)]) rfl rfl hl.1 rfl (lv_room (Nat.le_of_ble_eq_true rfl)) dX9_apart_5 ⟨Nat.le_of_ble_eq_true rfl, Nat.le_of_ble_eq_true rfl⟩) (zf0 hS hA) (zjE hP hD) hS (fun H locs hP hD hS => ?_)
  have J0 : ∀  (H : Heap) (locs : List Loc) (ls : Array Slot), va_P D vwCl (mW q v cJ V ib dn rf mk th) H → va_D A (mW q v cJ V ib dn rf mk th) → va_S A s.heap H locs → lv_has ls 6 [(0, .ref q), (1, .int p0), (2, .int p1)] → (zb2 (p_X9_isNo false) (fun r3 th_4 => (if (z01 r3) = 0 then (p_X9_apart_L0 F p0 (fun v3_0 v4_0 => (some (v3_0, th_4))) F (0 : Int32) (1 : Int32)) else (some ((0 : Int32), th_4))))) = some (r, th') → G H locs 0 0 (F0 m 24 ls [.ref q]) := by
    intro  H locs ls hP hD hS hl h
    refine hG _ _ _ _ _ ?_
    refine lv_iconst (v := (0 : Int32)) hx hb dX9_apart_24 (by decide) ?_
    obtain ⟨r3, th_4, e5, h⟩ := zb2_some h
    refine zgoi (va_runV (As := [.int (0 : Int32)]) (rest := []) ⟨hx, hb, hml, hown, hts⟩ (c_X9_isNo l D q v cJ cI cO cB V ib dn rf mk th false r3 th_4 e5 H.size) (cwV 1 hts gX9_apart_X9_isNo rfl rfl rfl hdV_X9_isNo ⟨Nat.le_of_ble_eq_true rfl, Nat.le_of_ble_eq_true rfl⟩) (zpreV (q0 := 0) (ci := 9) (T := TX9) (N := 6) hK hP hD rfl rfl [.int (0 : Int32)]) rfl rfl hl.1 rfl (lv_room (Nat.le_of_ble_eq_true rfl)) dX9_apart_25 ⟨Nat.le_of_ble_eq_true rfl, Nat.le_of_ble_eq_true rfl⟩) (zfree hD hS hA) (zjW hD hS hA) hS (fun H locs hP hD hS => ?_)
    replace hP : va_P D vwCl (mW q v cJ V ib dn rf mk th_4) H := hP
    replace hD : va_D A (mW q v cJ V ib dn rf mk th_4) := hD
    refine lv_if_eq (tgt := 33) hx hb dX9_apart_28 (by decide) (fun c28 => ?_) (fun c28 => ?_)
    · replace h := zif_t h c28
      refine lv_iconst (v := (0 : Int32)) hx hb dX9_apart_33 (by decide) ?_
      refine lv_istore_n (lv' := [(3, .int (0 : Int32)), (0, .ref q), (1, .int p0), (2, .int p1)]) hx hb dX9_apart_34 rfl hl (by decide) rfl (fun ls hl => ?_)
      refine lv_iconst (v := (1 : Int32)) hx hb dX9_apart_35 (by decide) ?_
      refine lv_istore (lv' := [(4, .int (1 : Int32)), (3, .int (0 : Int32)), (0, .ref q), (1, .int p0), (2, .int p1)]) hx hb dX9_apart_36 hl (by decide) rfl (fun ls hl => ?_)
      have X0 : ∀ (v3_0 : Int32) (v4_0 : Int32) (H : Heap) (locs : List Loc) (ls : Array Slot), va_P D vwCl (mW q v cJ V ib dn rf mk th_4) H → va_D A (mW q v cJ V ib dn rf mk th_4) → va_S A s.heap H locs → lv_has ls 6 [(0, .ref q), (1, .int p0), (2, .int p1), (3, .int v3_0), (4, .int v4_0)] → (some (v3_0, th_4)) = some (r, th') → G H locs 0 0 (F0 m 84 ls []) := by
        intro v3_0 v4_0 H locs ls hP hD hS hl h
        refine hG _ _ _ _ _ ?_
        refine lv_iload_n hx hb dX9_apart_84 rfl (lv_at hl 3 rfl) ?_
        have g0 := Option.some.inj h
        obtain ⟨h1, g1⟩ := Prod.mk.inj g0
        subst h1
        subst g1
        exact W.iret (v := v3_0) hx hb hr (fun t ht hW => ⟨⟨v3_0, (), rfl, rfl, by rw [ht]; exact hP, va_K.moved hW.alike hK, hD⟩, hS.F ht⟩) hS.2.2 dX9_apart_85
      have L0 : ∀ (K0 : Int32 → Int32 → Option (Int32 × Int32)) (HX0 : ∀ (v3_0 : Int32) (v4_0 : Int32) (H : Heap) (locs : List Loc) (ls : Array Slot), va_P D vwCl (mW q v cJ V ib dn rf mk th_4) H → va_D A (mW q v cJ V ib dn rf mk th_4) → va_S A s.heap H locs → lv_has ls 6 [(0, .ref q), (1, .int p0), (2, .int p1), (3, .int v3_0), (4, .int v4_0)] → K0 v3_0 v4_0 = some (r, th') → G H locs 0 0 (F0 m 84 ls [])) (fu0 : Nat) (v3_0 : Int32) (v4_0 : Int32) (H : Heap) (locs : List Loc) (ls : Array Slot), va_P D vwCl (mW q v cJ V ib dn rf mk th_4) H → va_D A (mW q v cJ V ib dn rf mk th_4) → va_S A s.heap H locs → lv_has ls 6 [(0, .ref q), (1, .int p0), (2, .int p1), (3, .int v3_0), (4, .int v4_0)] → p_X9_apart_L0 F p0 K0 fu0 v3_0 v4_0 = some (r, th') → G H locs 0 0 (F0 m 38 ls []) := by
        intro K0 HX0 fu0
        induction fu0 with
        | zero =>
          intro v3_0 v4_0 H locs ls hP hD hS hl h
          exact (zno h).elim
        | succ fu0 ih0 =>
          intro v3_0 v4_0 H locs ls hP hD hS hl h
          refine hG _ _ _ _ _ ?_
          unfold p_X9_apart_L0 at h
          refine lv_iload hx hb dX9_apart_38 (lv_at hl 4 rfl) ?_
          refine lv_iload_n hx hb dX9_apart_40 rfl (lv_at hl 1 rfl) ?_
          refine lv_icmp_gt (tgt := 84) hx hb dX9_apart_41 (by decide) (fun c41 => ?_) (fun c41 => ?_)
          · replace h := zif_t h c41
            exact hGW _ _ _ _ _ (HX0 v3_0 v4_0 _ _ ls hP hD hS (lv_sub hl [0, 1, 2, 3, 4] rfl) h)
          · replace h := zif_f h c41
            refine lv_iconst (v := (1 : Int32)) hx hb dX9_apart_44 (by decide) ?_
            refine lv_istore (lv' := [(5, .int (1 : Int32)), (0, .ref q), (1, .int p0), (2, .int p1), (3, .int v3_0), (4, .int v4_0)]) hx hb dX9_apart_45 hl (by decide) rfl (fun ls hl => ?_)
            have X1 : ∀ (v3_1 : Int32) (v5_1 : Int32) (H : Heap) (locs : List Loc) (ls : Array Slot), va_P D vwCl (mW q v cJ V ib dn rf mk th_4) H → va_D A (mW q v cJ V ib dn rf mk th_4) → va_S A s.heap H locs → lv_has ls 6 [(0, .ref q), (1, .int p0), (2, .int p1), (3, .int v3_1), (4, .int v4_0), (5, .int v5_1)] → (p_X9_apart_L0 F p0 K0 fu0 v3_1 (v4_0 + (1 : Int32))) = some (r, th') → G H locs 0 0 (F0 m 78 ls []) := by
              intro v3_1 v5_1 H locs ls hP hD hS hl h
              refine hG _ _ _ _ _ ?_
              refine lv_iinc (v := (v4_0 + (1 : Int32))) (lv' := [(4, .int (v4_0 + (1 : Int32))), (0, .ref q), (1, .int p0), (2, .int p1), (3, .int v3_1), (5, .int v5_1)]) hx hb dX9_apart_78 hl (k := 4) rfl rfl (by decide) rfl (fun ls hl => ?_)
              refine lv_goto (tgt := 38) hx hb dX9_apart_81 (by decide) ?_
              exact hGW _ _ _ _ _ (ih0 v3_1 (v4_0 + (1 : Int32)) _ _ ls hP hD hS (lv_sub hl [1, 2, 3, 4, 0] rfl) h)
            have L1 : ∀ (K1 : Int32 → Int32 → Option (Int32 × Int32)) (HX1 : ∀ (v3_1 : Int32) (v5_1 : Int32) (H : Heap) (locs : List Loc) (ls : Array Slot), va_P D vwCl (mW q v cJ V ib dn rf mk th_4) H → va_D A (mW q v cJ V ib dn rf mk th_4) → va_S A s.heap H locs → lv_has ls 6 [(0, .ref q), (1, .int p0), (2, .int p1), (3, .int v3_1), (4, .int v4_0), (5, .int v5_1)] → K1 v3_1 v5_1 = some (r, th') → G H locs 0 0 (F0 m 78 ls [])) (fu1 : Nat) (v3_1 : Int32) (v5_1 : Int32) (H : Heap) (locs : List Loc) (ls : Array Slot), va_P D vwCl (mW q v cJ V ib dn rf mk th_4) H → va_D A (mW q v cJ V ib dn rf mk th_4) → va_S A s.heap H locs → lv_has ls 6 [(0, .ref q), (1, .int p0), (2, .int p1), (3, .int v3_1), (4, .int v4_0), (5, .int v5_1)] → p_X9_apart_L1 F p0 v4_0 K1 fu1 v3_1 v5_1 = some (r, th') → G H locs 0 0 (F0 m 47 ls []) := by
              intro K1 HX1 fu1
              induction fu1 with
              | zero =>
                intro v3_1 v5_1 H locs ls hP hD hS hl h
                exact (zno h).elim
              | succ fu1 ih1 =>
                intro v3_1 v5_1 H locs ls hP hD hS hl h
                refine hG _ _ _ _ _ ?_
                unfold p_X9_apart_L1 at h
                refine lv_iload hx hb dX9_apart_47 (lv_at hl 5 rfl) ?_
                refine lv_iload_n hx hb dX9_apart_49 rfl (lv_at hl 1 rfl) ?_
                refine lv_icmp_gt (tgt := 78) hx hb dX9_apart_50 (by decide) (fun c50 => ?_) (fun c50 => ?_)
                · replace h := zif_t h c50
                  exact hGW _ _ _ _ _ (HX1 v3_1 v5_1 _ _ ls hP hD hS (lv_sub hl [0, 1, 2, 3, 4, 5] rfl) h)
                · replace h := zif_f h c50
                  refine lv_iload_n hx hb dX9_apart_53 rfl (lv_at hl 3 rfl) ?_
                  refine lv_iload hx hb dX9_apart_54 (lv_at hl 4 rfl) ?_
                  refine lv_iload hx hb dX9_apart_56 (lv_at hl 5 rfl) ?_
                  obtain ⟨r6, e7, h⟩ := zb1_some h
                  refine zgoi (va_runS (As := [.int v4_0, .int v5_1]) (rest := [.int v3_1]) ⟨hx, hb, hml, hown, hts⟩ (c_X9_common l D (zT cJ cI cO cB) F v4_0 v5_1 r6 e7 H.size) (va_cwS 2 hts gX9_apart_X9_common rfl rfl rfl hdS_X9_common ⟨Nat.le_of_ble_eq_true rfl, Nat.le_of_ble_eq_true rfl⟩) (zpreS hK zP0 (zD0 (A := A)) [.int v4_0, .int v5_1]) rfl rfl hl.1 rfl (lv_room (Nat.le_of_ble_eq_true rfl)) dX9_apart_58 ⟨Nat.le_of_ble_eq_true rfl, Nat.le_of_ble_eq_true rfl⟩) (zf0 hS hA) (zjE hP hD) hS (fun H locs hP hD hS => ?_)
                  refine lv_iconst (v := (1 : Int32)) hx hb dX9_apart_61 (by decide) ?_
                  refine lv_icmp_ne (tgt := 69) hx hb dX9_apart_62 (by decide) (fun c62 => ?_) (fun c62 => ?_)
                  · replace h := zif_t h c62
                    refine lv_iconst (v := (0 : Int32)) hx hb dX9_apart_69 (by decide) ?_
                    refine lv_iadd hx hb dX9_apart_70 ?_
                    refine lv_istore_n (lv' := [(3, .int (v3_1 + (0 : Int32))), (0, .ref q), (1, .int p0), (2, .int p1), (4, .int v4_0), (5, .int v5_1)]) hx hb dX9_apart_71 rfl hl (by decide) rfl (fun ls hl => ?_)
                    refine lv_iinc (v := (v5_1 + (1 : Int32))) (lv' := [(5, .int (v5_1 + (1 : Int32))), (3, .int (v3_1 + (0 : Int32))), (0, .ref q), (1, .int p0), (2, .int p1), (4, .int v4_0)]) hx hb dX9_apart_72 hl (k := 5) rfl rfl (by decide) rfl (fun ls hl => ?_)
                    refine lv_goto (tgt := 47) hx hb dX9_apart_75 (by decide) ?_
                    exact hGW _ _ _ _ _ (ih1 (v3_1 + (0 : Int32)) (v5_1 + (1 : Int32)) _ _ ls hP hD hS (lv_sub hl [2, 3, 4, 1, 5, 0] rfl) h)
                  · replace h := zif_fn h c62
                    refine lv_iconst (v := (1 : Int32)) hx hb dX9_apart_65 (by decide) ?_
                    refine lv_goto (tgt := 70) hx hb dX9_apart_66 (by decide) ?_
                    refine lv_iadd hx hb dX9_apart_70 ?_
                    refine lv_istore_n (lv' := [(3, .int (v3_1 + (1 : Int32))), (0, .ref q), (1, .int p0), (2, .int p1), (4, .int v4_0), (5, .int v5_1)]) hx hb dX9_apart_71 rfl hl (by decide) rfl (fun ls hl => ?_)
                    refine lv_iinc (v := (v5_1 + (1 : Int32))) (lv' := [(5, .int (v5_1 + (1 : Int32))), (3, .int (v3_1 + (1 : Int32))), (0, .ref q), (1, .int p0), (2, .int p1), (4, .int v4_0)]) hx hb dX9_apart_72 hl (k := 5) rfl rfl (by decide) rfl (fun ls hl => ?_)
                    refine lv_goto (tgt := 47) hx hb dX9_apart_75 (by decide) ?_
                    exact hGW _ _ _ _ _ (ih1 (v3_1 + (1 : Int32)) (v5_1 + (1 : Int32)) _ _ ls hP hD hS (lv_sub hl [2, 3, 4, 1, 5, 0] rfl) h)
            exact hGW _ _ _ _ _ (L1 _ X1 F v3_0 (1 : Int32) _ _ ls hP hD hS (lv_sub hl [1, 2, 3, 4, 5, 0] rfl) h)
      exact hGW _ _ _ _ _ (L0 _ X0 F (0 : Int32) (1 : Int32) _ _ ls hP hD hS (lv_sub hl [2, 3, 4, 1, 0] rfl) h)
    · replace h := zif_f h c28
      refine lv_iconst (v := (0 : Int32)) hx hb dX9_apart_31 (by decide) ?_
      have g0 := Option.some.inj h
      obtain ⟨h1, g1⟩ := Prod.mk.inj g0
      subst h1
      subst g1
      exact W.iret (v := (0 : Int32)) hx hb hr (fun t ht hW => ⟨⟨(0 : Int32), (), rfl, rfl, by rw [ht]; exact hP, va_K.moved hW.alike hK, hD⟩, hS.F ht⟩) hS.2.2 dX9_apart_32
  replace h := zlt_h h
  refine lv_if_eq (tgt := 24) hx hb dX9_apart_8 (by decide) (fun c8 => ?_) (fun c8 => ?_)
  · replace h := zif_t h c8
    exact hGW _ _ _ _ _ (J0  _ _ ls hP hD hS (lv_sub hl [0, 1, 2] rfl) h)
  · replace h := zif_f h c8
    refine lv_iload_n hx hb dX9_apart_11 rfl (lv_at hl 2 rfl) ?_
    refine lv_iconst (v := (0 : Int32)) hx hb dX9_apart_12 (by decide) ?_
    refine lv_iconst (v := (2 : Int32)) hx hb dX9_apart_13 (by decide) ?_
    obtain ⟨r8, e9, h⟩ := zb1_some h
    refine zgoi (va_runS (As := [.int p1, .int (0 : Int32), .int (2 : Int32)]) (rest := [.ref q]) ⟨hx, hb, hml, hown, hts⟩ (c_X9_isIn l D (zT cJ cI cO cB) p1 (0 : Int32) (2 : Int32) r8 e9 H.size) (va_cwS 3 hts gX9_apart_X9_isIn rfl rfl rfl hdS_X9_isIn ⟨Nat.le_of_ble_eq_true rfl, Nat.le_of_ble_eq_true rfl⟩) (zpreS hK zP0 (zD0 (A := A)) [.int p1, .int (0 : Int32), .int (2 : Int32)]) rfl rfl hl.1 rfl (lv_room (Nat.le_of_ble_eq_true rfl)) dX9_apart_14 ⟨Nat.le_of_ble_eq_true rfl, Nat.le_of_ble_eq_true rfl⟩) (zf0 hS hA) (zjE hP hD) hS (fun H locs hP hD hS => ?_)
    refine lv_if_eq (tgt := 24) hx hb dX9_apart_17 (by decide) (fun c17 => ?_) (fun c17 => ?_)
    · replace h := zif_t h c17
      exact hGW _ _ _ _ _ (J0  _ _ ls hP hD hS (lv_sub hl [0, 1, 2] rfl) h)
    · replace h := zif_f h c17
      refine lv_iconst (v := (1 : Int32)) hx hb dX9_apart_20 (by decide) ?_
      refine lv_goto (tgt := 25) hx hb dX9_apart_21 (by decide) ?_
      obtain ⟨r10, th_11, e12, h⟩ := zb2_some h
      refine zgoi (va_runV (As := [.int (1 : Int32)]) (rest := []) ⟨hx, hb, hml, hown, hts⟩ (c_X9_isNo l D q v cJ cI cO cB V ib dn rf mk th true r10 th_11 e12 H.size) (cwV 1 hts gX9_apart_X9_isNo rfl rfl rfl hdV_X9_isNo ⟨Nat.le_of_ble_eq_true rfl, Nat.le_of_ble_eq_true rfl⟩) (zpreV (q0 := 0) (ci := 9) (T := TX9) (N := 6) hK hP hD rfl rfl [.int (1 : Int32)]) rfl rfl hl.1 rfl (lv_room (Nat.le_of_ble_eq_true rfl)) dX9_apart_25 ⟨Nat.le_of_ble_eq_true rfl, Nat.le_of_ble_eq_true rfl⟩) (zfree hD hS hA) (zjW hD hS hA) hS (fun H locs hP hD hS => ?_)
      replace hP : va_P D vwCl (mW q v cJ V ib dn rf mk th_11) H := hP
      replace hD : va_D A (mW q v cJ V ib dn rf mk th_11) := hD
      refine lv_if_eq (tgt := 33) hx hb dX9_apart_28 (by decide) (fun c28 => ?_) (fun c28 => ?_)
      · replace h := zif_t h c28
        refine lv_iconst (v := (0 : Int32)) hx hb dX9_apart_33 (by decide) ?_
        refine lv_istore_n (lv' := [(3, .int (0 : Int32)), (0, .ref q), (1, .int p0), (2, .int p1)]) hx hb dX9_apart_34 rfl hl (by decide) rfl (fun ls hl => ?_)
        refine lv_iconst (v := (1 : Int32)) hx hb dX9_apart_35 (by decide) ?_
        refine lv_istore (lv' := [(4, .int (1 : Int32)), (3, .int (0 : Int32)), (0, .ref q), (1, .int p0), (2, .int p1)]) hx hb dX9_apart_36 hl (by decide) rfl (fun ls hl => ?_)
        have X2 : ∀ (v3_2 : Int32) (v4_2 : Int32) (H : Heap) (locs : List Loc) (ls : Array Slot), va_P D vwCl (mW q v cJ V ib dn rf mk th_11) H → va_D A (mW q v cJ V ib dn rf mk th_11) → va_S A s.heap H locs → lv_has ls 6 [(0, .ref q), (1, .int p0), (2, .int p1), (3, .int v3_2), (4, .int v4_2)] → (some (v3_2, th_11)) = some (r, th') → G H locs 0 0 (F0 m 84 ls []) := by
          intro v3_2 v4_2 H locs ls hP hD hS hl h
          refine hG _ _ _ _ _ ?_
          refine lv_iload_n hx hb dX9_apart_84 rfl (lv_at hl 3 rfl) ?_
          have g0 := Option.some.inj h
          obtain ⟨h1, g1⟩ := Prod.mk.inj g0
          subst h1
          subst g1
          exact W.iret (v := v3_2) hx hb hr (fun t ht hW => ⟨⟨v3_2, (), rfl, rfl, by rw [ht]; exact hP, va_K.moved hW.alike hK, hD⟩, hS.F ht⟩) hS.2.2 dX9_apart_85
        have L2 : ∀ (K2 : Int32 → Int32 → Option (Int32 × Int32)) (HX2 : ∀ (v3_2 : Int32) (v4_2 : Int32) (H : Heap) (locs : List Loc) (ls : Array Slot), va_P D vwCl (mW q v cJ V ib dn rf mk th_11) H → va_D A (mW q v cJ V ib dn rf mk th_11) → va_S A s.heap H locs → lv_has ls 6 [(0, .ref q), (1, .int p0), (2, .int p1), (3, .int v3_2), (4, .int v4_2)] → K2 v3_2 v4_2 = some (r, th') → G H locs 0 0 (F0 m 84 ls [])) (fu2 : Nat) (v3_2 : Int32) (v4_2 : Int32) (H : Heap) (locs : List Loc) (ls : Array Slot), va_P D vwCl (mW q v cJ V ib dn rf mk th_11) H → va_D A (mW q v cJ V ib dn rf mk th_11) → va_S A s.heap H locs → lv_has ls 6 [(0, .ref q), (1, .int p0), (2, .int p1), (3, .int v3_2), (4, .int v4_2)] → p_X9_apart_L2 F p0 K2 fu2 v3_2 v4_2 = some (r, th') → G H locs 0 0 (F0 m 38 ls []) := by
          intro K2 HX2 fu2
          induction fu2 with
          | zero =>
            intro v3_2 v4_2 H locs ls hP hD hS hl h
            exact (zno h).elim
          | succ fu2 ih2 =>
            intro v3_2 v4_2 H locs ls hP hD hS hl h
            refine hG _ _ _ _ _ ?_
            unfold p_X9_apart_L2 at h
            refine lv_iload hx hb dX9_apart_38 (lv_at hl 4 rfl) ?_
            refine lv_iload_n hx hb dX9_apart_40 rfl (lv_at hl 1 rfl) ?_
            refine lv_icmp_gt (tgt := 84) hx hb dX9_apart_41 (by decide) (fun c41 => ?_) (fun c41 => ?_)
            · replace h := zif_t h c41
              exact hGW _ _ _ _ _ (HX2 v3_2 v4_2 _ _ ls hP hD hS (lv_sub hl [0, 1, 2, 3, 4] rfl) h)
            · replace h := zif_f h c41
              refine lv_iconst (v := (1 : Int32)) hx hb dX9_apart_44 (by decide) ?_
              refine lv_istore (lv' := [(5, .int (1 : Int32)), (0, .ref q), (1, .int p0), (2, .int p1), (3, .int v3_2), (4, .int v4_2)]) hx hb dX9_apart_45 hl (by decide) rfl (fun ls hl => ?_)
              have X3 : ∀ (v3_3 : Int32) (v5_3 : Int32) (H : Heap) (locs : List Loc) (ls : Array Slot), va_P D vwCl (mW q v cJ V ib dn rf mk th_11) H → va_D A (mW q v cJ V ib dn rf mk th_11) → va_S A s.heap H locs → lv_has ls 6 [(0, .ref q), (1, .int p0), (2, .int p1), (3, .int v3_3), (4, .int v4_2), (5, .int v5_3)] → (p_X9_apart_L2 F p0 K2 fu2 v3_3 (v4_2 + (1 : Int32))) = some (r, th') → G H locs 0 0 (F0 m 78 ls []) := by
                intro v3_3 v5_3 H locs ls hP hD hS hl h
                refine hG _ _ _ _ _ ?_
                refine lv_iinc (v := (v4_2 + (1 : Int32))) (lv' := [(4, .int (v4_2 + (1 : Int32))), (0, .ref q), (1, .int p0), (2, .int p1), (3, .int v3_3), (5, .int v5_3)]) hx hb dX9_apart_78 hl (k := 4) rfl rfl (by decide) rfl (fun ls hl => ?_)
                refine lv_goto (tgt := 38) hx hb dX9_apart_81 (by decide) ?_
                exact hGW _ _ _ _ _ (ih2 v3_3 (v4_2 + (1 : Int32)) _ _ ls hP hD hS (lv_sub hl [1, 2, 3, 4, 0] rfl) h)
              have L3 : ∀ (K3 : Int32 → Int32 → Option (Int32 × Int32)) (HX3 : ∀ (v3_3 : Int32) (v5_3 : Int32) (H : Heap) (locs : List Loc) (ls : Array Slot), va_P D vwCl (mW q v cJ V ib dn rf mk th_11) H → va_D A (mW q v cJ V ib dn rf mk th_11) → va_S A s.heap H locs → lv_has ls 6 [(0, .ref q), (1, .int p0), (2, .int p1), (3, .int v3_3), (4, .int v4_2), (5, .int v5_3)] → K3 v3_3 v5_3 = some (r, th') → G H locs 0 0 (F0 m 78 ls [])) (fu3 : Nat) (v3_3 : Int32) (v5_3 : Int32) (H : Heap) (locs : List Loc) (ls : Array Slot), va_P D vwCl (mW q v cJ V ib dn rf mk th_11) H → va_D A (mW q v cJ V ib dn rf mk th_11) → va_S A s.heap H locs → lv_has ls 6 [(0, .ref q), (1, .int p0), (2, .int p1), (3, .int v3_3), (4, .int v4_2), (5, .int v5_3)] → p_X9_apart_L3 F p0 v4_2 K3 fu3 v3_3 v5_3 = some (r, th') → G H locs 0 0 (F0 m 47 ls []) := by
                intro K3 HX3 fu3
                induction fu3 with
                | zero =>
                  intro v3_3 v5_3 H locs ls hP hD hS hl h
                  exact (zno h).elim
                | succ fu3 ih3 =>
                  intro v3_3 v5_3 H locs ls hP hD hS hl h
                  refine hG _ _ _ _ _ ?_
                  unfold p_X9_apart_L3 at h
                  refine lv_iload hx hb dX9_apart_47 (lv_at hl 5 rfl) ?_
                  refine lv_iload_n hx hb dX9_apart_49 rfl (lv_at hl 1 rfl) ?_
                  refine lv_icmp_gt (tgt := 78) hx hb dX9_apart_50 (by decide) (fun c50 => ?_) (fun c50 => ?_)
                  · replace h := zif_t h c50
                    exact hGW _ _ _ _ _ (HX3 v3_3 v5_3 _ _ ls hP hD hS (lv_sub hl [0, 1, 2, 3, 4, 5] rfl) h)
                  · replace h := zif_f h c50
                    refine lv_iload_n hx hb dX9_apart_53 rfl (lv_at hl 3 rfl) ?_
                    refine lv_iload hx hb dX9_apart_54 (lv_at hl 4 rfl) ?_
                    refine lv_iload hx hb dX9_apart_56 (lv_at hl 5 rfl) ?_
                    obtain ⟨r13, e14, h⟩ := zb1_some h
                    refine zgoi (va_runS (As := [.int v4_2, .int v5_3]) (rest := [.int v3_3]) ⟨hx, hb, hml, hown, hts⟩ (c_X9_common l D (zT cJ cI cO cB) F v4_2 v5_3 r13 e14 H.size) (va_cwS 2 hts gX9_apart_X9_common rfl rfl rfl hdS_X9_common ⟨Nat.le_of_ble_eq_true rfl, Nat.le_of_ble_eq_true rfl⟩) (zpreS hK zP0 (zD0 (A := A)) [.int v4_2, .int v5_3]) rfl rfl hl.1 rfl (lv_room (Nat.le_of_ble_eq_true rfl)) dX9_apart_58 ⟨Nat.le_of_ble_eq_true rfl, Nat.le_of_ble_eq_true rfl⟩) (zf0 hS hA) (zjE hP hD) hS (fun H locs hP hD hS => ?_)
                    refine lv_iconst (v := (1 : Int32)) hx hb dX9_apart_61 (by decide) ?_
                    refine lv_icmp_ne (tgt := 69) hx hb dX9_apart_62 (by decide) (fun c62 => ?_) (fun c62 => ?_)
                    · replace h := zif_t h c62
                      refine lv_iconst (v := (0 : Int32)) hx hb dX9_apart_69 (by decide) ?_
                      refine lv_iadd hx hb dX9_apart_70 ?_
                      refine lv_istore_n (lv' := [(3, .int (v3_3 + (0 : Int32))), (0, .ref q), (1, .int p0), (2, .int p1), (4, .int v4_2), (5, .int v5_3)]) hx hb dX9_apart_71 rfl hl (by decide) rfl (fun ls hl => ?_)
                      refine lv_iinc (v := (v5_3 + (1 : Int32))) (lv' := [(5, .int (v5_3 + (1 : Int32))), (3, .int (v3_3 + (0 : Int32))), (0, .ref q), (1, .int p0), (2, .int p1), (4, .int v4_2)]) hx hb dX9_apart_72 hl (k := 5) rfl rfl (by decide) rfl (fun ls hl => ?_)
                      refine lv_goto (tgt := 47) hx hb dX9_apart_75 (by decide) ?_
                      exact hGW _ _ _ _ _ (ih3 (v3_3 + (0 : Int32)) (v5_3 + (1 : Int32)) _ _ ls hP hD hS (lv_sub hl [2, 3, 4, 1, 5, 0] rfl) h)
                    · replace h := zif_fn h c62
                      refine lv_iconst (v := (1 : Int32)) hx hb dX9_apart_65 (by decide) ?_
                      refine lv_goto (tgt := 70) hx hb dX9_apart_66 (by decide) ?_
                      refine lv_iadd hx hb dX9_apart_70 ?_
                      refine lv_istore_n (lv' := [(3, .int (v3_3 + (1 : Int32))), (0, .ref q), (1, .int p0), (2, .int p1), (4, .int v4_2), (5, .int v5_3)]) hx hb dX9_apart_71 rfl hl (by decide) rfl (fun ls hl => ?_)
                      refine lv_iinc (v := (v5_3 + (1 : Int32))) (lv' := [(5, .int (v5_3 + (1 : Int32))), (3, .int (v3_3 + (1 : Int32))), (0, .ref q), (1, .int p0), (2, .int p1), (4, .int v4_2)]) hx hb dX9_apart_72 hl (k := 5) rfl rfl (by decide) rfl (fun ls hl => ?_)
                      refine lv_goto (tgt := 47) hx hb dX9_apart_75 (by decide) ?_
                      exact hGW _ _ _ _ _ (ih3 (v3_3 + (1 : Int32)) (v5_3 + (1 : Int32)) _ _ ls hP hD hS (lv_sub hl [2, 3, 4, 1, 5, 0] rfl) h)
              exact hGW _ _ _ _ _ (L3 _ X3 F v3_2 (1 : Int32) _ _ ls hP hD hS (lv_sub hl [1, 2, 3, 4, 5, 0] rfl) h)
        exact hGW _ _ _ _ _ (L2 _ X2 F (0 : Int32) (1 : Int32) _ _ ls hP hD hS (lv_sub hl [2, 3, 4, 1, 0] rfl) h)
      · replace h := zif_f h c28
        refine lv_iconst (v := (0 : Int32)) hx hb dX9_apart_31 (by decide) ?_
        have g0 := Option.some.inj h
        obtain ⟨h1, g1⟩ := Prod.mk.inj g0
        subst h1
        subst g1
        exact W.iret (v := (0 : Int32)) hx hb hr (fun t ht hW => ⟨⟨(0 : Int32), (), rfl, rfl, by rw [ht]; exact hP, va_K.moved hW.alike hK, hD⟩, hS.F ht⟩) hS.2.2 dX9_apart_32

noncomputable def p_X9_shared (F : Nat) (p0 : Int32) (p1 : Int32) (p2 : Bool) : Option (Int32 × Int32) := (zb1 (p_X9_isIn p0 (1 : Int32) (999 : Int32)) (fun r1 => (zlt (zb2 (p_X9_isNo false) (fun r3 th_4 => (if (z01 r3) = 0 then (if (z01 p2) = 0 then (zb1 (p_X9_common F p0 p1) (fun r6 => (some (r6, th_4)))) else (zb1 (p_X9_common F p0 p1) (fun r8 => (zg (r8 = 0) (some (((p0 / r8) * p1), th_4)))))) else (some ((0 : Int32), th_4))))) (fun jf0 => (if (z01 r1) = 0 then (jf0 ) else (zb1 (p_X9_isIn p1 (1 : Int32) (999 : Int32)) (fun r10 => (if (z01 r10) = 0 then (jf0 ) else (zb2 (p_X9_isNo true) (fun r12 th_13 => (if (z01 r12) = 0 then (if (z01 p2) = 0 then (zb1 (p_X9_common F p0 p1) (fun r15 => (some (r15, th_13)))) else (zb1 (p_X9_common F p0 p1) (fun r17 => (zg (r17 = 0) (some (((p0 / r17) * p1), th_13)))))) else (some ((0 : Int32), th_13)))))))))))))
theorem hdV_X9_shared : yX9_shared.cls = RX9 ∧ yX9_shared.cls ≠ "java/lang/invoke/MethodHandle" ∧ yX9_shared.cls ≠ "java/lang/invoke/VarHandle" ∧ (parseMethodDescriptor yX9_shared.desc).map (fun d => d.parameters.length) = some 3 := by decide +kernel
set_option maxHeartbeats 4000000 in
set_option maxRecDepth 100000 in
theorem c_X9_shared (l : Launch) (D : va_G) (q v : Nat) (cJ cI cO cB : ClassId) (V : Nat → Int64) (ib : Bool) (dn : Int32) (rf : Int32) (mk : Int32) (th : Int32) (F : Nat) (p0 : Int32) (p1 : Int32) (p2 : Bool) (r : Int32) (th' : Int32) (h : p_X9_shared F p0 p1 p2 = some (r, th')) : zMi l yX9_shared wsX9_shared 2 43 0 0 D (zT cJ cI cO cB) [.ref q, .int p0, .int p1, .int (z01 p2)] (mW q v cJ V ib dn rf mk th) (mW q v cJ V ib dn rf mk th') r := by
  intro sz
  delta zQi
  refine Met.ofW (cc := cX9_shared) (maxL := 4) (ret := (some .int)) (by decide) rfl ?_
  intro p e s m args below meth c s₁ B hml hv
  obtain ⟨rfl, hsz, hP, hK, hD0⟩ := hv
  have hx := B.exec
  have hb := B.bytes
  have hr := B.returns
  have hts := atoms_spec (ws := wsX9_shared) B.pre
  have hown : s.vm.findClass RX9 = some m.cls := findClass_of_methodNamed B.named
  have hlocks := B.notSynchronized
  subst hsz
  have hD := hD0.self (sz := s.heap.size)
  generalize hAe : va_A (mW q v cJ V ib dn rf mk th) s.heap.size = A at hD ⊢
  have hA : ∀ q : Nat, s.heap.size ≤ q → A q := fun q h => by rw [← hAe]; exact Or.inr h
  have hS : va_S A s.heap s.heap [] := va_S.rf
  have hl := lv_entry ([.ref q, .int p0, .int p1, .int (z01 p2)]) (n := 4) (Nat.le_of_ble_eq_true rfl)
  rw [lg_entry_eq]
  generalize (lg_sl ([.ref q, .int p0, .int p1, .int (z01 p2)]) ++ List.replicate (4 - (lg_sl ([.ref q, .int p0, .int p1, .int (z01 p2)])).length) Slot.unset).toArray = ls at hl ⊢
  replace hl : lv_has ls 4 [(0, .ref q), (1, .int p0), (2, .int p1), (3, .int (z01 p2))] := hl
  replace h : (zb1 (p_X9_isIn p0 (1 : Int32) (999 : Int32)) (fun r1 => (zlt (zb2 (p_X9_isNo false) (fun r3 th_4 => (if (z01 r3) = 0 then (if (z01 p2) = 0 then (zb1 (p_X9_common F p0 p1) (fun r6 => (some (r6, th_4)))) else (zb1 (p_X9_common F p0 p1) (fun r8 => (zg (r8 = 0) (some (((p0 / r8) * p1), th_4)))))) else (some ((0 : Int32), th_4))))) (fun jf0 => (if (z01 r1) = 0 then (jf0 ) else (zb1 (p_X9_isIn p1 (1 : Int32) (999 : Int32)) (fun r10 => (if (z01 r10) = 0 then (jf0 ) else (zb2 (p_X9_isNo true) (fun r12 th_13 => (if (z01 r12) = 0 then (if (z01 p2) = 0 then (zb1 (p_X9_common F p0 p1) (fun r15 => (some (r15, th_13)))) else (zb1 (p_X9_common F p0 p1) (fun r17 => (zg (r17 = 0) (some (((p0 / r17) * p1), th_13)))))) else (some ((0 : Int32), th_13))))))))))))) = some (r, th') := h
  refine zabs (fun G hG hGW => ?_)
  obtain ⟨H, hHe⟩ : ∃ H, H = s.heap := ⟨_, rfl⟩
  rw [← hHe] at hP
  replace hS : va_S A s.heap H [] := by rw [hHe]; exact hS
  refine zheap hHe ?_
  refine lv_aload_n hx hb dX9_shared_0 rfl (lv_at hl 0 rfl) ?_
  refine lv_iload_n hx hb dX9_shared_1 rfl (lv_at hl 1 rfl) ?_
  refine lv_iconst (v := (1 : Int32)) hx hb dX9_shared_2 (by decide) ?_
  refine lv_sipush (v := (999 : Int32)) hx hb dX9_shared_3 (by decide) ?_
  obtain ⟨r1, e2, h⟩ := zb1_some h
  refine zgoi (va_runS (As := [.int p0, .int (1 : Int32), .int (999 : Int32)]) (rest := [.ref q]) ⟨hx, hb, hml, hown, hts⟩ (c_X9_isIn l D (zT cJ cI cO cB) p0 (1 : Int32) (999 : Int32) r1 e2 H.size) (va_cwS 3 hts gX9_shared_X9_isIn rfl rfl rfl hdS_X9_isIn ⟨Nat.le_of_ble_eq_true rfl, Nat.le_of_ble_eq_true rfl⟩) (zpreS hK zP0 (zD0 (A := A)) [.int p0, .int (1 : Int32), .int (999 : Int32)]) rfl rfl hl.1 rfl (lv_room (Nat.le_of_ble_eq_true rfl)) dX9_shared_6 ⟨Nat.le_of_ble_eq_true rfl, Nat.le_of_ble_eq_true rfl⟩) (zf0 hS hA) (zjE hP hD) hS (fun H locs hP hD hS => ?_)
  have J0 : ∀  (H : Heap) (locs : List Loc) (ls : Array Slot), va_P D vwCl (mW q v cJ V ib dn rf mk th) H → va_D A (mW q v cJ V ib dn rf mk th) → va_S A s.heap H locs → lv_has ls 4 [(0, .ref q), (1, .int p0), (2, .int p1), (3, .int (z01 p2))] → (zb2 (p_X9_isNo false) (fun r3 th_4 => (if (z01 r3) = 0 then (if (z01 p2) = 0 then (zb1 (p_X9_common F p0 p1) (fun r6 => (some (r6, th_4)))) else (zb1 (p_X9_common F p0 p1) (fun r8 => (zg (r8 = 0) (some (((p0 / r8) * p1), th_4)))))) else (some ((0 : Int32), th_4))))) = some (r, th') → G H locs 0 0 (F0 m 27 ls [.ref q]) := by
    intro  H locs ls hP hD hS hl h
    refine hG _ _ _ _ _ ?_
    refine lv_iconst (v := (0 : Int32)) hx hb dX9_shared_27 (by decide) ?_
    obtain ⟨r3, th_4, e5, h⟩ := zb2_some h
    refine zgoi (va_runV (As := [.int (0 : Int32)]) (rest := []) ⟨hx, hb, hml, hown, hts⟩ (c_X9_isNo l D q v cJ cI cO cB V ib dn rf mk th false r3 th_4 e5 H.size) (cwV 1 hts gX9_shared_X9_isNo rfl rfl rfl hdV_X9_isNo ⟨Nat.le_of_ble_eq_true rfl, Nat.le_of_ble_eq_true rfl⟩) (zpreV (q0 := 0) (ci := 9) (T := TX9) (N := 6) hK hP hD rfl rfl [.int (0 : Int32)]) rfl rfl hl.1 rfl (lv_room (Nat.le_of_ble_eq_true rfl)) dX9_shared_28 ⟨Nat.le_of_ble_eq_true rfl, Nat.le_of_ble_eq_true rfl⟩) (zfree hD hS hA) (zjW hD hS hA) hS (fun H locs hP hD hS => ?_)
    replace hP : va_P D vwCl (mW q v cJ V ib dn rf mk th_4) H := hP
    replace hD : va_D A (mW q v cJ V ib dn rf mk th_4) := hD
    refine lv_if_eq (tgt := 36) hx hb dX9_shared_31 (by decide) (fun c31 => ?_) (fun c31 => ?_)
    · replace h := zif_t h c31
      refine lv_iload_n hx hb dX9_shared_36 rfl (lv_at hl 3 rfl) ?_
      refine lv_if_eq (tgt := 52) hx hb dX9_shared_37 (by decide) (fun c37 => ?_) (fun c37 => ?_)
      · replace h := zif_t h c37
        refine lv_iload_n hx hb dX9_shared_52 rfl (lv_at hl 1 rfl) ?_
        refine lv_iload_n hx hb dX9_shared_53 rfl (lv_at hl 2 rfl) ?_
        obtain ⟨r6, e7, h⟩ := zb1_some h
        refine zgoi (va_runS (As := [.int p0, .int p1]) (rest := []) ⟨hx, hb, hml, hown, hts⟩ (c_X9_common l D (zT cJ cI cO cB) F p0 p1 r6 e7 H.size) (va_cwS 2 hts gX9_shared_X9_common rfl rfl rfl hdS_X9_common ⟨Nat.le_of_ble_eq_true rfl, Nat.le_of_ble_eq_true rfl⟩) (zpreS hK zP0 (zD0 (A := A)) [.int p0, .int p1]) rfl rfl hl.1 rfl (lv_room (Nat.le_of_ble_eq_true rfl)) dX9_shared_54 ⟨Nat.le_of_ble_eq_true rfl, Nat.le_of_ble_eq_true rfl⟩) (zf0 hS hA) (zjE hP hD) hS (fun H locs hP hD hS => ?_)
        have g0 := Option.some.inj h
        obtain ⟨h1, g1⟩ := Prod.mk.inj g0
        subst h1
        subst g1
        exact W.iret (v := r6) hx hb hr (fun t ht hW => ⟨⟨r6, (), rfl, rfl, by rw [ht]; exact hP, va_K.moved hW.alike hK, hD⟩, hS.F ht⟩) hS.2.2 dX9_shared_57
      · replace h := zif_f h c37
        refine lv_iload_n hx hb dX9_shared_40 rfl (lv_at hl 1 rfl) ?_
        refine lv_iload_n hx hb dX9_shared_41 rfl (lv_at hl 1 rfl) ?_
        refine lv_iload_n hx hb dX9_shared_42 rfl (lv_at hl 2 rfl) ?_
        obtain ⟨r8, e9, h⟩ := zb1_some h
        refine zgoi (va_runS (As := [.int p0, .int p1]) (rest := [.int p0]) ⟨hx, hb, hml, hown, hts⟩ (c_X9_common l D (zT cJ cI cO cB) F p0 p1 r8 e9 H.size) (va_cwS 2 hts gX9_shared_X9_common rfl rfl rfl hdS_X9_common ⟨Nat.le_of_ble_eq_true rfl, Nat.le_of_ble_eq_true rfl⟩) (zpreS hK zP0 (zD0 (A := A)) [.int p0, .int p1]) rfl rfl hl.1 rfl (lv_room (Nat.le_of_ble_eq_true rfl)) dX9_shared_43 ⟨Nat.le_of_ble_eq_true rfl, Nat.le_of_ble_eq_true rfl⟩) (zf0 hS hA) (zjE hP hD) hS (fun H locs hP hD hS => ?_)
        obtain ⟨z46, h⟩ := zg_some h
        refine lv_idiv hx hb dX9_shared_46 z46 ?_
        refine lv_iload_n hx hb dX9_shared_47 rfl (lv_at hl 2 rfl) ?_
        refine lv_imul hx hb dX9_shared_48 ?_
        refine lv_goto (tgt := 57) hx hb dX9_shared_49 (by decide) ?_
        have g0 := Option.some.inj h
        obtain ⟨h1, g1⟩ := Prod.mk.inj g0
        subst h1
        subst g1
        exact W.iret (v := ((p0 / r8) * p1)) hx hb hr (fun t ht hW => ⟨⟨((p0 / r8) * p1), (), rfl, rfl, by rw [ht]; exact hP, va_K.moved hW.alike hK, hD⟩, hS.F ht⟩) hS.2.2 dX9_shared_57
    · replace h := zif_f h c31
      refine lv_iconst (v := (0 : Int32)) hx hb dX9_shared_34 (by decide) ?_
      have g0 := Option.some.inj h
      obtain ⟨h1, g1⟩ := Prod.mk.inj g0
      subst h1
      subst g1
      exact W.iret (v := (0 : Int32)) hx hb hr (fun t ht hW => ⟨⟨(0 : Int32), (), rfl, rfl, by rw [ht]; exact hP, va_K.moved hW.alike hK, hD⟩, hS.F ht⟩) hS.2.2 dX9_shared_35
  replace h := zlt_h h
  refine lv_if_eq (tgt := 27) hx hb dX9_shared_9 (by decide) (fun c9 => ?_) (fun c9 => ?_)
  · replace h := zif_t h c9
    exact hGW _ _ _ _ _ (J0  _ _ ls hP hD hS (lv_sub hl [0, 1, 2, 3] rfl) h)
  · replace h := zif_f h c9
    refine lv_iload_n hx hb dX9_shared_12 rfl (lv_at hl 2 rfl) ?_
    refine lv_iconst (v := (1 : Int32)) hx hb dX9_shared_13 (by decide) ?_
    refine lv_sipush (v := (999 : Int32)) hx hb dX9_shared_14 (by decide) ?_
    obtain ⟨r10, e11, h⟩ := zb1_some h
    refine zgoi (va_runS (As := [.int p1, .int (1 : Int32), .int (999 : Int32)]) (rest := [.ref q]) ⟨hx, hb, hml, hown, hts⟩ (c_X9_isIn l D (zT cJ cI cO cB) p1 (1 : Int32) (999 : Int32) r10 e11 H.size) (va_cwS 3 hts gX9_shared_X9_isIn rfl rfl rfl hdS_X9_isIn ⟨Nat.le_of_ble_eq_true rfl, Nat.le_of_ble_eq_true rfl⟩) (zpreS hK zP0 (zD0 (A := A)) [.int p1, .int (1 : Int32), .int (999 : Int32)]) rfl rfl hl.1 rfl (lv_room (Nat.le_of_ble_eq_true rfl)) dX9_shared_17 ⟨Nat.le_of_ble_eq_true rfl, Nat.le_of_ble_eq_true rfl⟩) (zf0 hS hA) (zjE hP hD) hS (fun H locs hP hD hS => ?_)
    refine lv_if_eq (tgt := 27) hx hb dX9_shared_20 (by decide) (fun c20 => ?_) (fun c20 => ?_)
    · replace h := zif_t h c20
      exact hGW _ _ _ _ _ (J0  _ _ ls hP hD hS (lv_sub hl [0, 1, 2, 3] rfl) h)
    · replace h := zif_f h c20
      refine lv_iconst (v := (1 : Int32)) hx hb dX9_shared_23 (by decide) ?_
      refine lv_goto (tgt := 28) hx hb dX9_shared_24 (by decide) ?_
      obtain ⟨r12, th_13, e14, h⟩ := zb2_some h
      refine zgoi (va_runV (As := [.int (1 : Int32)]) (rest := []) ⟨hx, hb, hml, hown, hts⟩ (c_X9_isNo l D q v cJ cI cO cB V ib dn rf mk th true r12 th_13 e14 H.size) (cwV 1 hts gX9_shared_X9_isNo rfl rfl rfl hdV_X9_isNo ⟨Nat.le_of_ble_eq_true rfl, Nat.le_of_ble_eq_true rfl⟩) (zpreV (q0 := 0) (ci := 9) (T := TX9) (N := 6) hK hP hD rfl rfl [.int (1 : Int32)]) rfl rfl hl.1 rfl (lv_room (Nat.le_of_ble_eq_true rfl)) dX9_shared_28 ⟨Nat.le_of_ble_eq_true rfl, Nat.le_of_ble_eq_true rfl⟩) (zfree hD hS hA) (zjW hD hS hA) hS (fun H locs hP hD hS => ?_)
      replace hP : va_P D vwCl (mW q v cJ V ib dn rf mk th_13) H := hP
      replace hD : va_D A (mW q v cJ V ib dn rf mk th_13) := hD
      refine lv_if_eq (tgt := 36) hx hb dX9_shared_31 (by decide) (fun c31 => ?_) (fun c31 => ?_)
      · replace h := zif_t h c31
        refine lv_iload_n hx hb dX9_shared_36 rfl (lv_at hl 3 rfl) ?_
        refine lv_if_eq (tgt := 52) hx hb dX9_shared_37 (by decide) (fun c37 => ?_) (fun c37 => ?_)
        · replace h := zif_t h c37
          refine lv_iload_n hx hb dX9_shared_52 rfl (lv_at hl 1 rfl) ?_
          refine lv_iload_n hx hb dX9_shared_53 rfl (lv_at hl 2 rfl) ?_
          obtain ⟨r15, e16, h⟩ := zb1_some h
          refine zgoi (va_runS (As := [.int p0, .int p1]) (rest := []) ⟨hx, hb, hml, hown, hts⟩ (c_X9_common l D (zT cJ cI cO cB) F p0 p1 r15 e16 H.size) (va_cwS 2 hts gX9_shared_X9_common rfl rfl rfl hdS_X9_common ⟨Nat.le_of_ble_eq_true rfl, Nat.le_of_ble_eq_true rfl⟩) (zpreS hK zP0 (zD0 (A := A)) [.int p0, .int p1]) rfl rfl hl.1 rfl (lv_room (Nat.le_of_ble_eq_true rfl)) dX9_shared_54 ⟨Nat.le_of_ble_eq_true rfl, Nat.le_of_ble_eq_true rfl⟩) (zf0 hS hA) (zjE hP hD) hS (fun H locs hP hD hS => ?_)
          have g0 := Option.some.inj h
          obtain ⟨h1, g1⟩ := Prod.mk.inj g0
          subst h1
          subst g1
          exact W.iret (v := r15) hx hb hr (fun t ht hW => ⟨⟨r15, (), rfl, rfl, by rw [ht]; exact hP, va_K.moved hW.alike hK, hD⟩, hS.F ht⟩) hS.2.2 dX9_shared_57
        · replace h := zif_f h c37
          refine lv_iload_n hx hb dX9_shared_40 rfl (lv_at hl 1 rfl) ?_
          refine lv_iload_n hx hb dX9_shared_41 rfl (lv_at hl 1 rfl) ?_
          refine lv_iload_n hx hb dX9_shared_42 rfl (lv_at hl 2 rfl) ?_
          obtain ⟨r17, e18, h⟩ := zb1_some h
          refine zgoi (va_runS (As := [.int p0, .int p1]) (rest := [.int p0]) ⟨hx, hb, hml, hown, hts⟩ (c_X9_common l D (zT cJ cI cO cB) F p0 p1 r17 e18 H.size) (va_cwS 2 hts gX9_shared_X9_common rfl rfl rfl hdS_X9_common ⟨Nat.le_of_ble_eq_true rfl, Nat.le_of_ble_eq_true rfl⟩) (zpreS hK zP0 (zD0 (A := A)) [.int p0, .int p1]) rfl rfl hl.1 rfl (lv_room (Nat.le_of_ble_eq_true rfl)) dX9_shared_43 ⟨Nat.le_of_ble_eq_true rfl, Nat.le_of_ble_eq_true rfl⟩) (zf0 hS hA) (zjE hP hD) hS (fun H locs hP hD hS => ?_)
          obtain ⟨z46, h⟩ := zg_some h
          refine lv_idiv hx hb dX9_shared_46 z46 ?_
          refine lv_iload_n hx hb dX9_shared_47 rfl (lv_at hl 2 rfl) ?_
          refine lv_imul hx hb dX9_shared_48 ?_
          refine lv_goto (tgt := 57) hx hb dX9_shared_49 (by decide) ?_
          have g0 := Option.some.inj h
          obtain ⟨h1, g1⟩ := Prod.mk.inj g0
          subst h1
          subst g1
          exact W.iret (v := ((p0 / r17) * p1)) hx hb hr (fun t ht hW => ⟨⟨((p0 / r17) * p1), (), rfl, rfl, by rw [ht]; exact hP, va_K.moved hW.alike hK, hD⟩, hS.F ht⟩) hS.2.2 dX9_shared_57
      · replace h := zif_f h c31
        refine lv_iconst (v := (0 : Int32)) hx hb dX9_shared_34 (by decide) ?_
        have g0 := Option.some.inj h
        obtain ⟨h1, g1⟩ := Prod.mk.inj g0
        subst h1
        subst g1
        exact W.iret (v := (0 : Int32)) hx hb hr (fun t ht hW => ⟨⟨(0 : Int32), (), rfl, rfl, by rw [ht]; exact hP, va_K.moved hW.alike hK, hD⟩, hS.F ht⟩) hS.2.2 dX9_shared_35

noncomputable def p_X9_divisor_L0 (F : Nat) (V : Nat → Int64) (ib : Bool) (dn : Int32) (rf : Int32) (mk : Int32) (p0 : Int32) (th_4 : Int32) (k : Int32 → Int32 → Option (Int32 × (Nat → Int64) × Bool × Int32 × Int32 × Int32 × Int32)) : Nat → Int32 → Int32 → Option (Int32 × (Nat → Int64) × Bool × Int32 × Int32 × Int32 × Int32)
  | 0, _, _ => none
  | n + 1, v3_0, v4_0 => (if p0 < v4_0 then (k v3_0 v4_0) else (zg (v4_0 = 0) (if (zr p0 v4_0) = 0 then (if ¬ v3_0 = 0 then (p_X9_divisor_L0 F V ib dn rf mk p0 th_4 k n (v3_0 + (-1 : Int32)) (v4_0 + (1 : Int32))) else (some (v4_0, V, ib, dn, rf, mk, th_4))) else (p_X9_divisor_L0 F V ib dn rf mk p0 th_4 k n v3_0 (v4_0 + (1 : Int32))))))
noncomputable def p_X9_divisor_L1 (F : Nat) (V : Nat → Int64) (ib : Bool) (dn : Int32) (rf : Int32) (mk : Int32) (p0 : Int32) (th_7 : Int32) (k : Int32 → Int32 → Option (Int32 × (Nat → Int64) × Bool × Int32 × Int32 × Int32 × Int32)) : Nat → Int32 → Int32 → Option (Int32 × (Nat → Int64) × Bool × Int32 × Int32 × Int32 × Int32)
  | 0, _, _ => none
  | n + 1, v3_1, v4_1 => (if p0 < v4_1 then (k v3_1 v4_1) else (zg (v4_1 = 0) (if (zr p0 v4_1) = 0 then (if ¬ v3_1 = 0 then (p_X9_divisor_L1 F V ib dn rf mk p0 th_7 k n (v3_1 + (-1 : Int32)) (v4_1 + (1 : Int32))) else (some (v4_1, V, ib, dn, rf, mk, th_7))) else (p_X9_divisor_L1 F V ib dn rf mk p0 th_7 k n v3_1 (v4_1 + (1 : Int32))))))
noncomputable def p_X9_divisor (F : Nat) (V : Nat → Int64) (ib : Bool) (dn : Int32) (rf : Int32) (mk : Int32) (p0 : Int32) (p1 : Int32) : Option (Int32 × (Nat → Int64) × Bool × Int32 × Int32 × Int32 × Int32) := (zb1 (p_X9_isIn p0 (1 : Int32) (999 : Int32)) (fun r1 => (zlt (zb2 (p_X9_isNo false) (fun r3 th_4 => (if (z01 r3) = 0 then (p_X9_divisor_L0 F V ib dn rf mk p0 th_4 (fun v3_0 v4_0 => (some ((-1 : Int32), V, ib, dn, rf, mk, th_4))) F p1 (1 : Int32)) else (some ((0 : Int32), V, ib, dn, rf, mk, th_4))))) (fun jf0 => (if (z01 r1) = 0 then (jf0 ) else (if p1 < 0 then (jf0 ) else (zb2 (p_X9_isNo true) (fun r6 th_7 => (if (z01 r6) = 0 then (p_X9_divisor_L1 F V ib dn rf mk p0 th_7 (fun v3_1 v4_1 => (some ((-1 : Int32), V, ib, dn, rf, mk, th_7))) F p1 (1 : Int32)) else (some ((0 : Int32), V, ib, dn, rf, mk, th_7)))))))))))
theorem hdV_X9_divisor : yX9_divisor.cls = RX9 ∧ yX9_divisor.cls ≠ "java/lang/invoke/MethodHandle" ∧ yX9_divisor.cls ≠ "java/lang/invoke/VarHandle" ∧ (parseMethodDescriptor yX9_divisor.desc).map (fun d => d.parameters.length) = some 2 := by decide +kernel
set_option maxHeartbeats 4000000 in
set_option maxRecDepth 100000 in
theorem c_X9_divisor (l : Launch) (D : va_G) (q v : Nat) (cJ cI cO cB : ClassId) (V : Nat → Int64) (ib : Bool) (dn : Int32) (rf : Int32) (mk : Int32) (th : Int32) (F : Nat) (p0 : Int32) (p1 : Int32) (r : Int32) (V' : Nat → Int64) (ib' : Bool) (dn' : Int32) (rf' : Int32) (mk' : Int32) (th' : Int32) (h : p_X9_divisor F V ib dn rf mk p0 p1 = some (r, V', ib', dn', rf', mk', th')) : zMi l yX9_divisor wsX9_divisor 1 22 0 0 D (zT cJ cI cO cB) [.ref q, .int p0, .int p1] (mW q v cJ V ib dn rf mk th) (mW q v cJ V' ib' dn' rf' mk' th') r := by
  intro sz
  delta zQi
  refine Met.ofW (cc := cX9_divisor) (maxL := 5) (ret := (some .int)) (by decide) rfl ?_
  intro p e s m args below meth c s₁ B hml hv
  obtain ⟨rfl, hsz, hP, hK, hD0⟩ := hv
  have hx := B.exec
  have hb := B.bytes
  have hr := B.returns
  have hts := atoms_spec (ws := wsX9_divisor) B.pre
  have hown : s.vm.findClass RX9 = some m.cls := findClass_of_methodNamed B.named
  have hlocks := B.notSynchronized
  subst hsz
  have hD := hD0.self (sz := s.heap.size)
  generalize hAe : va_A (mW q v cJ V ib dn rf mk th) s.heap.size = A at hD ⊢
  have hA : ∀ q : Nat, s.heap.size ≤ q → A q := fun q h => by rw [← hAe]; exact Or.inr h
  have hS : va_S A s.heap s.heap [] := va_S.rf
  have hl := lv_entry ([.ref q, .int p0, .int p1]) (n := 5) (Nat.le_of_ble_eq_true rfl)
  rw [lg_entry_eq]
  generalize (lg_sl ([.ref q, .int p0, .int p1]) ++ List.replicate (5 - (lg_sl ([.ref q, .int p0, .int p1])).length) Slot.unset).toArray = ls at hl ⊢
  replace hl : lv_has ls 5 [(0, .ref q), (1, .int p0), (2, .int p1)] := hl
  replace h : (zb1 (p_X9_isIn p0 (1 : Int32) (999 : Int32)) (fun r1 => (zlt (zb2 (p_X9_isNo false) (fun r3 th_4 => (if (z01 r3) = 0 then (p_X9_divisor_L0 F V ib dn rf mk p0 th_4 (fun v3_0 v4_0 => (some ((-1 : Int32), V, ib, dn, rf, mk, th_4))) F p1 (1 : Int32)) else (some ((0 : Int32), V, ib, dn, rf, mk, th_4))))) (fun jf0 => (if (z01 r1) = 0 then (jf0 ) else (if p1 < 0 then (jf0 ) else (zb2 (p_X9_isNo true) (fun r6 th_7 => (if (z01 r6) = 0 then (p_X9_divisor_L1 F V ib dn rf mk p0 th_7 (fun v3_1 v4_1 => (some ((-1 : Int32), V, ib, dn, rf, mk, th_7))) F p1 (1 : Int32)) else (some ((0 : Int32), V, ib, dn, rf, mk, th_7))))))))))) = some (r, V', ib', dn', rf', mk', th') := h
  refine zabs (fun G hG hGW => ?_)
  obtain ⟨H, hHe⟩ : ∃ H, H = s.heap := ⟨_, rfl⟩
  rw [← hHe] at hP
  replace hS : va_S A s.heap H [] := by rw [hHe]; exact hS
  refine zheap hHe ?_
  refine lv_aload_n hx hb dX9_divisor_0 rfl (lv_at hl 0 rfl) ?_
  refine lv_iload_n hx hb dX9_divisor_1 rfl (lv_at hl 1 rfl) ?_
  refine lv_iconst (v := (1 : Int32)) hx hb dX9_divisor_2 (by decide) ?_
  refine lv_sipush (v := (999 : Int32)) hx hb dX9_divisor_3 (by decide) ?_
  obtain ⟨r1, e2, h⟩ := zb1_some h
  refine zgoi (va_runS (As := [.int p0, .int (1 : Int32), .int (999 : Int32)]) (rest := [.ref q]) ⟨hx, hb, hml, hown, hts⟩ (c_X9_isIn l D (zT cJ cI cO cB) p0 (1 : Int32) (999 : Int32) r1 e2 H.size) (va_cwS 3 hts gX9_divisor_X9_isIn rfl rfl rfl hdS_X9_isIn ⟨Nat.le_of_ble_eq_true rfl, Nat.le_of_ble_eq_true rfl⟩) (zpreS hK zP0 (zD0 (A := A)) [.int p0, .int (1 : Int32), .int (999 : Int32)]) rfl rfl hl.1 rfl (lv_room (Nat.le_of_ble_eq_true rfl)) dX9_divisor_6 ⟨Nat.le_of_ble_eq_true rfl, Nat.le_of_ble_eq_true rfl⟩) (zf0 hS hA) (zjE hP hD) hS (fun H locs hP hD hS => ?_)
  have J0 : ∀  (H : Heap) (locs : List Loc) (ls : Array Slot), va_P D vwCl (mW q v cJ V ib dn rf mk th) H → va_D A (mW q v cJ V ib dn rf mk th) → va_S A s.heap H locs → lv_has ls 5 [(0, .ref q), (1, .int p0), (2, .int p1)] → (zb2 (p_X9_isNo false) (fun r3 th_4 => (if (z01 r3) = 0 then (p_X9_divisor_L0 F V ib dn rf mk p0 th_4 (fun v3_0 v4_0 => (some ((-1 : Int32), V, ib, dn, rf, mk, th_4))) F p1 (1 : Int32)) else (some ((0 : Int32), V, ib, dn, rf, mk, th_4))))) = some (r, V', ib', dn', rf', mk', th') → G H locs 0 0 (F0 m 20 ls [.ref q]) := by
    intro  H locs ls hP hD hS hl h
    refine hG _ _ _ _ _ ?_
    refine lv_iconst (v := (0 : Int32)) hx hb dX9_divisor_20 (by decide) ?_
    obtain ⟨r3, th_4, e5, h⟩ := zb2_some h
    refine zgoi (va_runV (As := [.int (0 : Int32)]) (rest := []) ⟨hx, hb, hml, hown, hts⟩ (c_X9_isNo l D q v cJ cI cO cB V ib dn rf mk th false r3 th_4 e5 H.size) (cwV 1 hts gX9_divisor_X9_isNo rfl rfl rfl hdV_X9_isNo ⟨Nat.le_of_ble_eq_true rfl, Nat.le_of_ble_eq_true rfl⟩) (zpreV (q0 := 0) (ci := 9) (T := TX9) (N := 6) hK hP hD rfl rfl [.int (0 : Int32)]) rfl rfl hl.1 rfl (lv_room (Nat.le_of_ble_eq_true rfl)) dX9_divisor_21 ⟨Nat.le_of_ble_eq_true rfl, Nat.le_of_ble_eq_true rfl⟩) (zfree hD hS hA) (zjW hD hS hA) hS (fun H locs hP hD hS => ?_)
    replace hP : va_P D vwCl (mW q v cJ V ib dn rf mk th_4) H := hP
    replace hD : va_D A (mW q v cJ V ib dn rf mk th_4) := hD
    refine lv_if_eq (tgt := 29) hx hb dX9_divisor_24 (by decide) (fun c24 => ?_) (fun c24 => ?_)
    · replace h := zif_t h c24
      refine lv_iload_n hx hb dX9_divisor_29 rfl (lv_at hl 2 rfl) ?_
      refine lv_istore_n (lv' := [(3, .int p1), (0, .ref q), (1, .int p0), (2, .int p1)]) hx hb dX9_divisor_30 rfl hl (by decide) rfl (fun ls hl => ?_)
      refine lv_iconst (v := (1 : Int32)) hx hb dX9_divisor_31 (by decide) ?_
      refine lv_istore (lv' := [(4, .int (1 : Int32)), (3, .int p1), (0, .ref q), (1, .int p0), (2, .int p1)]) hx hb dX9_divisor_32 hl (by decide) rfl (fun ls hl => ?_)
      have X0 : ∀ (v3_0 : Int32) (v4_0 : Int32) (H : Heap) (locs : List Loc) (ls : Array Slot), va_P D vwCl (mW q v cJ V ib dn rf mk th_4) H → va_D A (mW q v cJ V ib dn rf mk th_4) → va_S A s.heap H locs → lv_has ls 5 [(0, .ref q), (1, .int p0), (2, .int p1), (3, .int v3_0), (4, .int v4_0)] → (some ((-1 : Int32), V, ib, dn, rf, mk, th_4)) = some (r, V', ib', dn', rf', mk', th') → G H locs 0 0 (F0 m 66 ls []) := by
        intro v3_0 v4_0 H locs ls hP hD hS hl h
        refine hG _ _ _ _ _ ?_
        refine lv_iconst (v := (-1 : Int32)) hx hb dX9_divisor_66 (by decide) ?_
        have g0 := Option.some.inj h
        obtain ⟨h1, g1⟩ := Prod.mk.inj g0
        obtain ⟨h2, g2⟩ := Prod.mk.inj g1
        obtain ⟨h3, g3⟩ := Prod.mk.inj g2
        obtain ⟨h4, g4⟩ := Prod.mk.inj g3
        obtain ⟨h5, g5⟩ := Prod.mk.inj g4
        obtain ⟨h6, g6⟩ := Prod.mk.inj g5
        subst h1
        subst h2
        subst h3
        subst h4
        subst h5
        subst h6
        subst g6
        exact W.iret (v := (-1 : Int32)) hx hb hr (fun t ht hW => ⟨⟨(-1 : Int32), (), rfl, rfl, by rw [ht]; exact hP, va_K.moved hW.alike hK, hD⟩, hS.F ht⟩) hS.2.2 dX9_divisor_67
      have L0 : ∀ (K0 : Int32 → Int32 → Option (Int32 × (Nat → Int64) × Bool × Int32 × Int32 × Int32 × Int32)) (HX0 : ∀ (v3_0 : Int32) (v4_0 : Int32) (H : Heap) (locs : List Loc) (ls : Array Slot), va_P D vwCl (mW q v cJ V ib dn rf mk th_4) H → va_D A (mW q v cJ V ib dn rf mk th_4) → va_S A s.heap H locs → lv_has ls 5 [(0, .ref q), (1, .int p0), (2, .int p1), (3, .int v3_0), (4, .int v4_0)] → K0 v3_0 v4_0 = some (r, V', ib', dn', rf', mk', th') → G H locs 0 0 (F0 m 66 ls [])) (fu0 : Nat) (v3_0 : Int32) (v4_0 : Int32) (H : Heap) (locs : List Loc) (ls : Array Slot), va_P D vwCl (mW q v cJ V ib dn rf mk th_4) H → va_D A (mW q v cJ V ib dn rf mk th_4) → va_S A s.heap H locs → lv_has ls 5 [(0, .ref q), (1, .int p0), (2, .int p1), (3, .int v3_0), (4, .int v4_0)] → p_X9_divisor_L0 F V ib dn rf mk p0 th_4 K0 fu0 v3_0 v4_0 = some (r, V', ib', dn', rf', mk', th') → G H locs 0 0 (F0 m 34 ls []) := by
        intro K0 HX0 fu0
        induction fu0 with
        | zero =>
          intro v3_0 v4_0 H locs ls hP hD hS hl h
          exact (zno h).elim
        | succ fu0 ih0 =>
          intro v3_0 v4_0 H locs ls hP hD hS hl h
          refine hG _ _ _ _ _ ?_
          unfold p_X9_divisor_L0 at h
          refine lv_iload hx hb dX9_divisor_34 (lv_at hl 4 rfl) ?_
          refine lv_iload_n hx hb dX9_divisor_36 rfl (lv_at hl 1 rfl) ?_
          refine lv_icmp_gt (tgt := 66) hx hb dX9_divisor_37 (by decide) (fun c37 => ?_) (fun c37 => ?_)
          · replace h := zif_t h c37
            exact hGW _ _ _ _ _ (HX0 v3_0 v4_0 _ _ ls hP hD hS (lv_sub hl [0, 1, 2, 3, 4] rfl) h)
          · replace h := zif_f h c37
            refine lv_iload_n hx hb dX9_divisor_40 rfl (lv_at hl 1 rfl) ?_
            refine lv_iload hx hb dX9_divisor_41 (lv_at hl 4 rfl) ?_
            obtain ⟨z43, h⟩ := zg_some h
            refine lv_irem hx hb dX9_divisor_43 z43 ?_
            refine lv_if_eq (tgt := 50) hx hb dX9_divisor_44 (by decide) (fun c44 => ?_) (fun c44 => ?_)
            · replace h := zif_t h c44
              refine lv_iload_n hx hb dX9_divisor_50 rfl (lv_at hl 3 rfl) ?_
              refine lv_if_ne (tgt := 57) hx hb dX9_divisor_51 (by decide) (fun c51 => ?_) (fun c51 => ?_)
              · replace h := zif_t h c51
                refine lv_iinc (v := (v3_0 + (-1 : Int32))) (lv' := [(3, .int (v3_0 + (-1 : Int32))), (0, .ref q), (1, .int p0), (2, .int p1), (4, .int v4_0)]) hx hb dX9_divisor_57 hl (k := 3) rfl rfl (by decide) rfl (fun ls hl => ?_)
                refine lv_iinc (v := (v4_0 + (1 : Int32))) (lv' := [(4, .int (v4_0 + (1 : Int32))), (3, .int (v3_0 + (-1 : Int32))), (0, .ref q), (1, .int p0), (2, .int p1)]) hx hb dX9_divisor_60 hl (k := 4) rfl rfl (by decide) rfl (fun ls hl => ?_)
                refine lv_goto (tgt := 34) hx hb dX9_divisor_63 (by decide) ?_
                exact hGW _ _ _ _ _ (ih0 (v3_0 + (-1 : Int32)) (v4_0 + (1 : Int32)) _ _ ls hP hD hS (lv_sub hl [2, 3, 4, 1, 0] rfl) h)
              · replace h := zif_fn h c51
                refine lv_iload hx hb dX9_divisor_54 (lv_at hl 4 rfl) ?_
                have g0 := Option.some.inj h
                obtain ⟨h1, g1⟩ := Prod.mk.inj g0
                obtain ⟨h2, g2⟩ := Prod.mk.inj g1
                obtain ⟨h3, g3⟩ := Prod.mk.inj g2
                obtain ⟨h4, g4⟩ := Prod.mk.inj g3
                obtain ⟨h5, g5⟩ := Prod.mk.inj g4
                obtain ⟨h6, g6⟩ := Prod.mk.inj g5
                subst h1
                subst h2
                subst h3
                subst h4
                subst h5
                subst h6
                subst g6
                exact W.iret (v := v4_0) hx hb hr (fun t ht hW => ⟨⟨v4_0, (), rfl, rfl, by rw [ht]; exact hP, va_K.moved hW.alike hK, hD⟩, hS.F ht⟩) hS.2.2 dX9_divisor_56
            · replace h := zif_f h c44
              refine lv_goto (tgt := 60) hx hb dX9_divisor_47 (by decide) ?_
              refine lv_iinc (v := (v4_0 + (1 : Int32))) (lv' := [(4, .int (v4_0 + (1 : Int32))), (0, .ref q), (1, .int p0), (2, .int p1), (3, .int v3_0)]) hx hb dX9_divisor_60 hl (k := 4) rfl rfl (by decide) rfl (fun ls hl => ?_)
              refine lv_goto (tgt := 34) hx hb dX9_divisor_63 (by decide) ?_
              exact hGW _ _ _ _ _ (ih0 v3_0 (v4_0 + (1 : Int32)) _ _ ls hP hD hS (lv_sub hl [1, 2, 3, 4, 0] rfl) h)
      exact hGW _ _ _ _ _ (L0 _ X0 F p1 (1 : Int32) _ _ ls hP hD hS (lv_sub hl [2, 3, 4, 1, 0] rfl) h)
    · replace h := zif_f h c24
      refine lv_iconst (v := (0 : Int32)) hx hb dX9_divisor_27 (by decide) ?_
      have g0 := Option.some.inj h
      obtain ⟨h1, g1⟩ := Prod.mk.inj g0
      obtain ⟨h2, g2⟩ := Prod.mk.inj g1
      obtain ⟨h3, g3⟩ := Prod.mk.inj g2
      obtain ⟨h4, g4⟩ := Prod.mk.inj g3
      obtain ⟨h5, g5⟩ := Prod.mk.inj g4
      obtain ⟨h6, g6⟩ := Prod.mk.inj g5
      subst h1
      subst h2
      subst h3
      subst h4
      subst h5
      subst h6
      subst g6
      exact W.iret (v := (0 : Int32)) hx hb hr (fun t ht hW => ⟨⟨(0 : Int32), (), rfl, rfl, by rw [ht]; exact hP, va_K.moved hW.alike hK, hD⟩, hS.F ht⟩) hS.2.2 dX9_divisor_28
  replace h := zlt_h h
  refine lv_if_eq (tgt := 20) hx hb dX9_divisor_9 (by decide) (fun c9 => ?_) (fun c9 => ?_)
  · replace h := zif_t h c9
    exact hGW _ _ _ _ _ (J0  _ _ ls hP hD hS (lv_sub hl [0, 1, 2] rfl) h)
  · replace h := zif_f h c9
    refine lv_iload_n hx hb dX9_divisor_12 rfl (lv_at hl 2 rfl) ?_
    refine lv_if_lt (tgt := 20) hx hb dX9_divisor_13 (by decide) (fun c13 => ?_) (fun c13 => ?_)
    · replace h := zif_t h c13
      exact hGW _ _ _ _ _ (J0  _ _ ls hP hD hS (lv_sub hl [0, 1, 2] rfl) h)
    · replace h := zif_f h c13
      refine lv_iconst (v := (1 : Int32)) hx hb dX9_divisor_16 (by decide) ?_
      refine lv_goto (tgt := 21) hx hb dX9_divisor_17 (by decide) ?_
      obtain ⟨r6, th_7, e8, h⟩ := zb2_some h
      refine zgoi (va_runV (As := [.int (1 : Int32)]) (rest := []) ⟨hx, hb, hml, hown, hts⟩ (c_X9_isNo l D q v cJ cI cO cB V ib dn rf mk th true r6 th_7 e8 H.size) (cwV 1 hts gX9_divisor_X9_isNo rfl rfl rfl hdV_X9_isNo ⟨Nat.le_of_ble_eq_true rfl, Nat.le_of_ble_eq_true rfl⟩) (zpreV (q0 := 0) (ci := 9) (T := TX9) (N := 6) hK hP hD rfl rfl [.int (1 : Int32)]) rfl rfl hl.1 rfl (lv_room (Nat.le_of_ble_eq_true rfl)) dX9_divisor_21 ⟨Nat.le_of_ble_eq_true rfl, Nat.le_of_ble_eq_true rfl⟩) (zfree hD hS hA) (zjW hD hS hA) hS (fun H locs hP hD hS => ?_)
      replace hP : va_P D vwCl (mW q v cJ V ib dn rf mk th_7) H := hP
      replace hD : va_D A (mW q v cJ V ib dn rf mk th_7) := hD
      refine lv_if_eq (tgt := 29) hx hb dX9_divisor_24 (by decide) (fun c24 => ?_) (fun c24 => ?_)
      · replace h := zif_t h c24
        refine lv_iload_n hx hb dX9_divisor_29 rfl (lv_at hl 2 rfl) ?_
        refine lv_istore_n (lv' := [(3, .int p1), (0, .ref q), (1, .int p0), (2, .int p1)]) hx hb dX9_divisor_30 rfl hl (by decide) rfl (fun ls hl => ?_)
        refine lv_iconst (v := (1 : Int32)) hx hb dX9_divisor_31 (by decide) ?_
        refine lv_istore (lv' := [(4, .int (1 : Int32)), (3, .int p1), (0, .ref q), (1, .int p0), (2, .int p1)]) hx hb dX9_divisor_32 hl (by decide) rfl (fun ls hl => ?_)
        have X1 : ∀ (v3_1 : Int32) (v4_1 : Int32) (H : Heap) (locs : List Loc) (ls : Array Slot), va_P D vwCl (mW q v cJ V ib dn rf mk th_7) H → va_D A (mW q v cJ V ib dn rf mk th_7) → va_S A s.heap H locs → lv_has ls 5 [(0, .ref q), (1, .int p0), (2, .int p1), (3, .int v3_1), (4, .int v4_1)] → (some ((-1 : Int32), V, ib, dn, rf, mk, th_7)) = some (r, V', ib', dn', rf', mk', th') → G H locs 0 0 (F0 m 66 ls []) := by
          intro v3_1 v4_1 H locs ls hP hD hS hl h
          refine hG _ _ _ _ _ ?_
          refine lv_iconst (v := (-1 : Int32)) hx hb dX9_divisor_66 (by decide) ?_
          have g0 := Option.some.inj h
          obtain ⟨h1, g1⟩ := Prod.mk.inj g0
          obtain ⟨h2, g2⟩ := Prod.mk.inj g1
          obtain ⟨h3, g3⟩ := Prod.mk.inj g2
          obtain ⟨h4, g4⟩ := Prod.mk.inj g3
          obtain ⟨h5, g5⟩ := Prod.mk.inj g4
          obtain ⟨h6, g6⟩ := Prod.mk.inj g5
          subst h1
          subst h2
          subst h3
          subst h4
          subst h5
          subst h6
          subst g6
          exact W.iret (v := (-1 : Int32)) hx hb hr (fun t ht hW => ⟨⟨(-1 : Int32), (), rfl, rfl, by rw [ht]; exact hP, va_K.moved hW.alike hK, hD⟩, hS.F ht⟩) hS.2.2 dX9_divisor_67
        have L1 : ∀ (K1 : Int32 → Int32 → Option (Int32 × (Nat → Int64) × Bool × Int32 × Int32 × Int32 × Int32)) (HX1 : ∀ (v3_1 : Int32) (v4_1 : Int32) (H : Heap) (locs : List Loc) (ls : Array Slot), va_P D vwCl (mW q v cJ V ib dn rf mk th_7) H → va_D A (mW q v cJ V ib dn rf mk th_7) → va_S A s.heap H locs → lv_has ls 5 [(0, .ref q), (1, .int p0), (2, .int p1), (3, .int v3_1), (4, .int v4_1)] → K1 v3_1 v4_1 = some (r, V', ib', dn', rf', mk', th') → G H locs 0 0 (F0 m 66 ls [])) (fu1 : Nat) (v3_1 : Int32) (v4_1 : Int32) (H : Heap) (locs : List Loc) (ls : Array Slot), va_P D vwCl (mW q v cJ V ib dn rf mk th_7) H → va_D A (mW q v cJ V ib dn rf mk th_7) → va_S A s.heap H locs → lv_has ls 5 [(0, .ref q), (1, .int p0), (2, .int p1), (3, .int v3_1), (4, .int v4_1)] → p_X9_divisor_L1 F V ib dn rf mk p0 th_7 K1 fu1 v3_1 v4_1 = some (r, V', ib', dn', rf', mk', th') → G H locs 0 0 (F0 m 34 ls []) := by
          intro K1 HX1 fu1
          induction fu1 with
          | zero =>
            intro v3_1 v4_1 H locs ls hP hD hS hl h
            exact (zno h).elim
          | succ fu1 ih1 =>
            intro v3_1 v4_1 H locs ls hP hD hS hl h
            refine hG _ _ _ _ _ ?_
            unfold p_X9_divisor_L1 at h
            refine lv_iload hx hb dX9_divisor_34 (lv_at hl 4 rfl) ?_
            refine lv_iload_n hx hb dX9_divisor_36 rfl (lv_at hl 1 rfl) ?_
            refine lv_icmp_gt (tgt := 66) hx hb dX9_divisor_37 (by decide) (fun c37 => ?_) (fun c37 => ?_)
            · replace h := zif_t h c37
              exact hGW _ _ _ _ _ (HX1 v3_1 v4_1 _ _ ls hP hD hS (lv_sub hl [0, 1, 2, 3, 4] rfl) h)
            · replace h := zif_f h c37
              refine lv_iload_n hx hb dX9_divisor_40 rfl (lv_at hl 1 rfl) ?_
              refine lv_iload hx hb dX9_divisor_41 (lv_at hl 4 rfl) ?_
              obtain ⟨z43, h⟩ := zg_some h
              refine lv_irem hx hb dX9_divisor_43 z43 ?_
              refine lv_if_eq (tgt := 50) hx hb dX9_divisor_44 (by decide) (fun c44 => ?_) (fun c44 => ?_)
              · replace h := zif_t h c44
                refine lv_iload_n hx hb dX9_divisor_50 rfl (lv_at hl 3 rfl) ?_
                refine lv_if_ne (tgt := 57) hx hb dX9_divisor_51 (by decide) (fun c51 => ?_) (fun c51 => ?_)
                · replace h := zif_t h c51
                  refine lv_iinc (v := (v3_1 + (-1 : Int32))) (lv' := [(3, .int (v3_1 + (-1 : Int32))), (0, .ref q), (1, .int p0), (2, .int p1), (4, .int v4_1)]) hx hb dX9_divisor_57 hl (k := 3) rfl rfl (by decide) rfl (fun ls hl => ?_)
                  refine lv_iinc (v := (v4_1 + (1 : Int32))) (lv' := [(4, .int (v4_1 + (1 : Int32))), (3, .int (v3_1 + (-1 : Int32))), (0, .ref q), (1, .int p0), (2, .int p1)]) hx hb dX9_divisor_60 hl (k := 4) rfl rfl (by decide) rfl (fun ls hl => ?_)
                  refine lv_goto (tgt := 34) hx hb dX9_divisor_63 (by decide) ?_
                  exact hGW _ _ _ _ _ (ih1 (v3_1 + (-1 : Int32)) (v4_1 + (1 : Int32)) _ _ ls hP hD hS (lv_sub hl [2, 3, 4, 1, 0] rfl) h)
                · replace h := zif_fn h c51
                  refine lv_iload hx hb dX9_divisor_54 (lv_at hl 4 rfl) ?_
                  have g0 := Option.some.inj h
                  obtain ⟨h1, g1⟩ := Prod.mk.inj g0
                  obtain ⟨h2, g2⟩ := Prod.mk.inj g1
                  obtain ⟨h3, g3⟩ := Prod.mk.inj g2
                  obtain ⟨h4, g4⟩ := Prod.mk.inj g3
                  obtain ⟨h5, g5⟩ := Prod.mk.inj g4
                  obtain ⟨h6, g6⟩ := Prod.mk.inj g5
                  subst h1
                  subst h2
                  subst h3
                  subst h4
                  subst h5
                  subst h6
                  subst g6
                  exact W.iret (v := v4_1) hx hb hr (fun t ht hW => ⟨⟨v4_1, (), rfl, rfl, by rw [ht]; exact hP, va_K.moved hW.alike hK, hD⟩, hS.F ht⟩) hS.2.2 dX9_divisor_56
              · replace h := zif_f h c44
                refine lv_goto (tgt := 60) hx hb dX9_divisor_47 (by decide) ?_
                refine lv_iinc (v := (v4_1 + (1 : Int32))) (lv' := [(4, .int (v4_1 + (1 : Int32))), (0, .ref q), (1, .int p0), (2, .int p1), (3, .int v3_1)]) hx hb dX9_divisor_60 hl (k := 4) rfl rfl (by decide) rfl (fun ls hl => ?_)
                refine lv_goto (tgt := 34) hx hb dX9_divisor_63 (by decide) ?_
                exact hGW _ _ _ _ _ (ih1 v3_1 (v4_1 + (1 : Int32)) _ _ ls hP hD hS (lv_sub hl [1, 2, 3, 4, 0] rfl) h)
        exact hGW _ _ _ _ _ (L1 _ X1 F p1 (1 : Int32) _ _ ls hP hD hS (lv_sub hl [2, 3, 4, 1, 0] rfl) h)
      · replace h := zif_f h c24
        refine lv_iconst (v := (0 : Int32)) hx hb dX9_divisor_27 (by decide) ?_
        have g0 := Option.some.inj h
        obtain ⟨h1, g1⟩ := Prod.mk.inj g0
        obtain ⟨h2, g2⟩ := Prod.mk.inj g1
        obtain ⟨h3, g3⟩ := Prod.mk.inj g2
        obtain ⟨h4, g4⟩ := Prod.mk.inj g3
        obtain ⟨h5, g5⟩ := Prod.mk.inj g4
        obtain ⟨h6, g6⟩ := Prod.mk.inj g5
        subst h1
        subst h2
        subst h3
        subst h4
        subst h5
        subst h6
        subst g6
        exact W.iret (v := (0 : Int32)) hx hb hr (fun t ht hW => ⟨⟨(0 : Int32), (), rfl, rfl, by rw [ht]; exact hP, va_K.moved hW.alike hK, hD⟩, hS.F ht⟩) hS.2.2 dX9_divisor_28

noncomputable def p_X9_house (dn : Int32) (rf : Int32) (mk : Int32) (p0 : Int32) : Option (Int32 × Int32) := (zb1 (p_X9_isIn p0 (0 : Int32) (2 : Int32)) (fun r1 => (zb2 (p_X9_isNo r1) (fun r3 th_4 => (if (z01 r3) = 0 then (if ¬ p0 = 0 then (if ¬ p0 = (1 : Int32) then (some (mk, th_4)) else (some (rf, th_4))) else (some (dn, th_4))) else (some ((0 : Int32), th_4)))))))
theorem hdV_X9_house : yX9_house.cls = RX9 ∧ yX9_house.cls ≠ "java/lang/invoke/MethodHandle" ∧ yX9_house.cls ≠ "java/lang/invoke/VarHandle" ∧ (parseMethodDescriptor yX9_house.desc).map (fun d => d.parameters.length) = some 1 := by decide +kernel
set_option maxHeartbeats 4000000 in
set_option maxRecDepth 100000 in
theorem c_X9_house (l : Launch) (D : va_G) (q v : Nat) (cJ cI cO cB : ClassId) (V : Nat → Int64) (ib : Bool) (dn : Int32) (rf : Int32) (mk : Int32) (th : Int32) (p0 : Int32) (r : Int32) (th' : Int32) (h : p_X9_house dn rf mk p0 = some (r, th')) : zMi l yX9_house wsX9_house 1 22 0 0 D (zT cJ cI cO cB) [.ref q, .int p0] (mW q v cJ V ib dn rf mk th) (mW q v cJ V ib dn rf mk th') r := by
  intro sz
  delta zQi
  refine Met.ofW (cc := cX9_house) (maxL := 2) (ret := (some .int)) (by decide) rfl ?_
  intro p e s m args below meth c s₁ B hml hv
  obtain ⟨rfl, hsz, hP, hK, hD0⟩ := hv
  have hx := B.exec
  have hb := B.bytes
  have hr := B.returns
  have hts := atoms_spec (ws := wsX9_house) B.pre
  have hown : s.vm.findClass RX9 = some m.cls := findClass_of_methodNamed B.named
  have hlocks := B.notSynchronized
  subst hsz
  have hD := hD0.self (sz := s.heap.size)
  generalize hAe : va_A (mW q v cJ V ib dn rf mk th) s.heap.size = A at hD ⊢
  have hA : ∀ q : Nat, s.heap.size ≤ q → A q := fun q h => by rw [← hAe]; exact Or.inr h
  have hS : va_S A s.heap s.heap [] := va_S.rf
  have hl := lv_entry ([.ref q, .int p0]) (n := 2) (Nat.le_of_ble_eq_true rfl)
  rw [lg_entry_eq]
  generalize (lg_sl ([.ref q, .int p0]) ++ List.replicate (2 - (lg_sl ([.ref q, .int p0])).length) Slot.unset).toArray = ls at hl ⊢
  replace hl : lv_has ls 2 [(0, .ref q), (1, .int p0)] := hl
  have kwX9 : ∀ w ∈ u_ws RX9 TX9 6, w ∈ wsX9_house := fun w h => List.mem_cons_of_mem _ (List.mem_append_right _ (List.mem_cons_of_mem _ (List.mem_append_right _ h)))
  have kf_183 := hts (.fieldLink RX9 183 "DivisorworkModel" "knocks" "I") (zmem 3 rfl)
  have kf_86 := hts (.fieldLink RX9 86 "DivisorworkModel" "refused" "I") (zmem 2 rfl)
  have kf_79 := hts (.fieldLink RX9 79 "DivisorworkModel" "done" "I") (zmem 1 rfl)
  replace h : (zb1 (p_X9_isIn p0 (0 : Int32) (2 : Int32)) (fun r1 => (zb2 (p_X9_isNo r1) (fun r3 th_4 => (if (z01 r3) = 0 then (if ¬ p0 = 0 then (if ¬ p0 = (1 : Int32) then (some (mk, th_4)) else (some (rf, th_4))) else (some (dn, th_4))) else (some ((0 : Int32), th_4))))))) = some (r, th') := h
  obtain ⟨H, hHe⟩ : ∃ H, H = s.heap := ⟨_, rfl⟩
  rw [← hHe] at hP
  replace hS : va_S A s.heap H [] := by rw [hHe]; exact hS
  refine zheap hHe ?_
  refine lv_aload_n hx hb dX9_house_0 rfl (lv_at hl 0 rfl) ?_
  refine lv_iload_n hx hb dX9_house_1 rfl (lv_at hl 1 rfl) ?_
  refine lv_iconst (v := (0 : Int32)) hx hb dX9_house_2 (by decide) ?_
  refine lv_iconst (v := (2 : Int32)) hx hb dX9_house_3 (by decide) ?_
  obtain ⟨r1, e2, h⟩ := zb1_some h
  refine zgoi (va_runS (As := [.int p0, .int (0 : Int32), .int (2 : Int32)]) (rest := [.ref q]) ⟨hx, hb, hml, hown, hts⟩ (c_X9_isIn l D (zT cJ cI cO cB) p0 (0 : Int32) (2 : Int32) r1 e2 H.size) (va_cwS 3 hts gX9_house_X9_isIn rfl rfl rfl hdS_X9_isIn ⟨Nat.le_of_ble_eq_true rfl, Nat.le_of_ble_eq_true rfl⟩) (zpreS hK zP0 (zD0 (A := A)) [.int p0, .int (0 : Int32), .int (2 : Int32)]) rfl rfl hl.1 rfl (lv_room (Nat.le_of_ble_eq_true rfl)) dX9_house_4 ⟨Nat.le_of_ble_eq_true rfl, Nat.le_of_ble_eq_true rfl⟩) (zf0 hS hA) (zjE hP hD) hS (fun H locs hP hD hS => ?_)
  obtain ⟨r3, th_4, e5, h⟩ := zb2_some h
  refine zgoi (va_runV (As := [.int (z01 r1)]) (rest := []) ⟨hx, hb, hml, hown, hts⟩ (c_X9_isNo l D q v cJ cI cO cB V ib dn rf mk th r1 r3 th_4 e5 H.size) (cwV 1 hts gX9_house_X9_isNo rfl rfl rfl hdV_X9_isNo ⟨Nat.le_of_ble_eq_true rfl, Nat.le_of_ble_eq_true rfl⟩) (zpreV (q0 := 0) (ci := 9) (T := TX9) (N := 6) hK hP hD rfl rfl [.int (z01 r1)]) rfl rfl hl.1 rfl (lv_room (Nat.le_of_ble_eq_true rfl)) dX9_house_7 ⟨Nat.le_of_ble_eq_true rfl, Nat.le_of_ble_eq_true rfl⟩) (zfree hD hS hA) (zjW hD hS hA) hS (fun H locs hP hD hS => ?_)
  replace hP : va_P D vwCl (mW q v cJ V ib dn rf mk th_4) H := hP
  replace hD : va_D A (mW q v cJ V ib dn rf mk th_4) := hD
  refine lv_if_eq (tgt := 15) hx hb dX9_house_10 (by decide) (fun c10 => ?_) (fun c10 => ?_)
  · replace h := zif_t h c10
    refine lv_iload_n hx hb dX9_house_15 rfl (lv_at hl 1 rfl) ?_
    refine lv_if_ne (tgt := 26) hx hb dX9_house_16 (by decide) (fun c16 => ?_) (fun c16 => ?_)
    · replace h := zif_t h c16
      refine lv_iload_n hx hb dX9_house_26 rfl (lv_at hl 1 rfl) ?_
      refine lv_iconst (v := (1 : Int32)) hx hb dX9_house_27 (by decide) ?_
      refine lv_icmp_ne (tgt := 38) hx hb dX9_house_28 (by decide) (fun c28 => ?_) (fun c28 => ?_)
      · replace h := zif_t h c28
        refine lv_aload_n hx hb dX9_house_38 rfl (lv_at hl 0 rfl) ?_
        refine va_get (D := D) (ci := 9) (v := .int mk) (C := RX9) (T := TX9) (N := 6) hx hb hts kwX9 hown hK hP 0 rfl rfl 4 (by decide) kf_183 (fun _ h9 => h9) rfl dX9_house_39 ?_
        have g0 := Option.some.inj h
        obtain ⟨h1, g1⟩ := Prod.mk.inj g0
        subst h1
        subst g1
        exact W.iret (v := mk) hx hb hr (fun t ht hW => ⟨⟨mk, (), rfl, rfl, by rw [ht]; exact hP, va_K.moved hW.alike hK, hD⟩, hS.F ht⟩) hS.2.2 dX9_house_42
      · replace h := zif_fn h c28
        refine lv_aload_n hx hb dX9_house_31 rfl (lv_at hl 0 rfl) ?_
        refine va_get (D := D) (ci := 9) (v := .int rf) (C := RX9) (T := TX9) (N := 6) hx hb hts kwX9 hown hK hP 0 rfl rfl 3 (by decide) kf_86 (fun _ h9 => h9) rfl dX9_house_32 ?_
        refine lv_goto (tgt := 42) hx hb dX9_house_35 (by decide) ?_
        have g0 := Option.some.inj h
        obtain ⟨h1, g1⟩ := Prod.mk.inj g0
        subst h1
        subst g1
        exact W.iret (v := rf) hx hb hr (fun t ht hW => ⟨⟨rf, (), rfl, rfl, by rw [ht]; exact hP, va_K.moved hW.alike hK, hD⟩, hS.F ht⟩) hS.2.2 dX9_house_42
    · replace h := zif_fn h c16
      refine lv_aload_n hx hb dX9_house_19 rfl (lv_at hl 0 rfl) ?_
      refine va_get (D := D) (ci := 9) (v := .int dn) (C := RX9) (T := TX9) (N := 6) hx hb hts kwX9 hown hK hP 0 rfl rfl 2 (by decide) kf_79 (fun _ h9 => h9) rfl dX9_house_20 ?_
      refine lv_goto (tgt := 42) hx hb dX9_house_23 (by decide) ?_
      have g0 := Option.some.inj h
      obtain ⟨h1, g1⟩ := Prod.mk.inj g0
      subst h1
      subst g1
      exact W.iret (v := dn) hx hb hr (fun t ht hW => ⟨⟨dn, (), rfl, rfl, by rw [ht]; exact hP, va_K.moved hW.alike hK, hD⟩, hS.F ht⟩) hS.2.2 dX9_house_42
  · replace h := zif_f h c10
    refine lv_iconst (v := (0 : Int32)) hx hb dX9_house_13 (by decide) ?_
    have g0 := Option.some.inj h
    obtain ⟨h1, g1⟩ := Prod.mk.inj g0
    subst h1
    subst g1
    exact W.iret (v := (0 : Int32)) hx hb hr (fun t ht hW => ⟨⟨(0 : Int32), (), rfl, rfl, by rw [ht]; exact hP, va_K.moved hW.alike hK, hD⟩, hS.F ht⟩) hS.2.2 dX9_house_14

noncomputable def p_X9_knock (mk : Int32) : Option (Int32 × Int32 × Int32) := (some ((mk + (1 : Int32)), (mk + (1 : Int32)), (0 : Int32)))
theorem hdV_X9_knock : yX9_knock.cls = RX9 ∧ yX9_knock.cls ≠ "java/lang/invoke/MethodHandle" ∧ yX9_knock.cls ≠ "java/lang/invoke/VarHandle" ∧ (parseMethodDescriptor yX9_knock.desc).map (fun d => d.parameters.length) = some 0 := by decide +kernel
set_option maxHeartbeats 4000000 in
set_option maxRecDepth 100000 in
theorem c_X9_knock (l : Launch) (D : va_G) (q v : Nat) (cJ cI cO cB : ClassId) (V : Nat → Int64) (ib : Bool) (dn : Int32) (rf : Int32) (mk : Int32) (th : Int32) (r : Int32) (mk' : Int32) (th' : Int32) (h : p_X9_knock mk = some (r, mk', th')) : zMi l yX9_knock wsX9_knock 0 0 0 0 D (zT cJ cI cO cB) [.ref q] (mW q v cJ V ib dn rf mk th) (mW q v cJ V ib dn rf mk' th') r := by
  intro sz
  delta zQi
  refine Met.ofW (cc := cX9_knock) (maxL := 1) (ret := (some .int)) (by decide) rfl ?_
  intro p e s m args below meth c s₁ B hml hv
  obtain ⟨rfl, hsz, hP, hK, hD0⟩ := hv
  have hx := B.exec
  have hb := B.bytes
  have hr := B.returns
  have hts := atoms_spec (ws := wsX9_knock) B.pre
  have hown : s.vm.findClass RX9 = some m.cls := findClass_of_methodNamed B.named
  have hlocks := B.notSynchronized
  subst hsz
  have hD := hD0.self (sz := s.heap.size)
  generalize hAe : va_A (mW q v cJ V ib dn rf mk th) s.heap.size = A at hD ⊢
  have hA : ∀ q : Nat, s.heap.size ≤ q → A q := fun q h => by rw [← hAe]; exact Or.inr h
  have hS : va_S A s.heap s.heap [] := va_S.rf
  have hl := lv_entry ([.ref q]) (n := 1) (Nat.le_of_ble_eq_true rfl)
  rw [lg_entry_eq]
  generalize (lg_sl ([.ref q]) ++ List.replicate (1 - (lg_sl ([.ref q])).length) Slot.unset).toArray = ls at hl ⊢
  replace hl : lv_has ls 1 [(0, .ref q)] := hl
  have kwX9 : ∀ w ∈ u_ws RX9 TX9 6, w ∈ wsX9_knock := fun w h => List.mem_cons_of_mem _ (List.mem_append_right _ h)
  have kf_183 := hts (.fieldLink RX9 183 "DivisorworkModel" "knocks" "I") (zmem 2 rfl)
  have kf_13 := hts (.fieldLink RX9 13 "DivisorworkModel" "thrown" "I") (zmem 1 rfl)
  replace h : (some ((mk + (1 : Int32)), (mk + (1 : Int32)), (0 : Int32))) = some (r, mk', th') := h
  obtain ⟨H, hHe⟩ : ∃ H, H = s.heap := ⟨_, rfl⟩
  rw [← hHe] at hP
  replace hS : va_S A s.heap H [] := by rw [hHe]; exact hS
  refine zheap hHe ?_
  refine lv_aload_n hx hb dX9_knock_0 rfl (lv_at hl 0 rfl) ?_
  refine lv_iconst (v := (0 : Int32)) hx hb dX9_knock_1 (by decide) ?_
  refine va_put (D := D) (ci := 9) (v := .int (0 : Int32)) (ty := .int) (C := RX9) (T := TX9) (N := 6) hx hb hts kwX9 tyX9 tyX9_ok nmX9 hown hK hP hD hS 0 rfl rfl 5 (by decide) kf_13 (fun _ h9 => h9) rfl rfl rfl rfl (Nat.le_of_ble_eq_true rfl) dX9_knock_2 (fun H locs hP hD hS => ?_)
  replace hP : va_P D vwCl (mW q v cJ V ib dn rf mk (0 : Int32)) H := hP
  replace hD : va_D A (mW q v cJ V ib dn rf mk (0 : Int32)) := hD
  refine lv_aload_n hx hb dX9_knock_5 rfl (lv_at hl 0 rfl) ?_
  refine lv_dup hx hb dX9_knock_6 rfl ?_
  refine va_get (D := D) (ci := 9) (v := .int mk) (C := RX9) (T := TX9) (N := 6) hx hb hts kwX9 hown hK hP 0 rfl rfl 4 (by decide) kf_183 (fun _ h9 => h9) rfl dX9_knock_7 ?_
  refine lv_iconst (v := (1 : Int32)) hx hb dX9_knock_10 (by decide) ?_
  refine lv_iadd hx hb dX9_knock_11 ?_
  refine va_put (D := D) (ci := 9) (v := .int (mk + (1 : Int32))) (ty := .int) (C := RX9) (T := TX9) (N := 6) hx hb hts kwX9 tyX9 tyX9_ok nmX9 hown hK hP hD hS 0 rfl rfl 4 (by decide) kf_183 (fun _ h9 => h9) rfl rfl rfl rfl (Nat.le_of_ble_eq_true rfl) dX9_knock_12 (fun H locs hP hD hS => ?_)
  replace hP : va_P D vwCl (mW q v cJ V ib dn rf (mk + (1 : Int32)) (0 : Int32)) H := hP
  replace hD : va_D A (mW q v cJ V ib dn rf (mk + (1 : Int32)) (0 : Int32)) := hD
  refine lv_aload_n hx hb dX9_knock_15 rfl (lv_at hl 0 rfl) ?_
  refine va_get (D := D) (ci := 9) (v := .int (mk + (1 : Int32))) (C := RX9) (T := TX9) (N := 6) hx hb hts kwX9 hown hK hP 0 rfl rfl 4 (by decide) kf_183 (fun _ h9 => h9) rfl dX9_knock_16 ?_
  have g0 := Option.some.inj h
  obtain ⟨h1, g1⟩ := Prod.mk.inj g0
  obtain ⟨h2, g2⟩ := Prod.mk.inj g1
  subst h1
  subst h2
  subst g2
  exact W.iret (v := (mk + (1 : Int32))) hx hb hr (fun t ht hW => ⟨⟨(mk + (1 : Int32)), (), rfl, rfl, by rw [ht]; exact hP, va_K.moved hW.alike hK, hD⟩, hS.F ht⟩) hS.2.2 dX9_knock_19

noncomputable def p_X9_isSound : Option (Bool × Int32) := (some (true, (0 : Int32)))
theorem hdV_X9_isSound : yX9_isSound.cls = RX9 ∧ yX9_isSound.cls ≠ "java/lang/invoke/MethodHandle" ∧ yX9_isSound.cls ≠ "java/lang/invoke/VarHandle" ∧ (parseMethodDescriptor yX9_isSound.desc).map (fun d => d.parameters.length) = some 0 := by decide +kernel
set_option maxHeartbeats 4000000 in
set_option maxRecDepth 100000 in
theorem c_X9_isSound (l : Launch) (D : va_G) (q v : Nat) (cJ cI cO cB : ClassId) (V : Nat → Int64) (ib : Bool) (dn : Int32) (rf : Int32) (mk : Int32) (th : Int32) (r : Bool) (th' : Int32) (h : p_X9_isSound = some (r, th')) : zMi l yX9_isSound wsX9_isSound 0 0 0 0 D (zT cJ cI cO cB) [.ref q] (mW q v cJ V ib dn rf mk th) (mW q v cJ V ib dn rf mk th') (z01 r) := by
  intro sz
  delta zQi
  refine Met.ofW (cc := cX9_isSound) (maxL := 1) (ret := (some .boolean)) (by decide) rfl ?_
  intro p e s m args below meth c s₁ B hml hv
  obtain ⟨rfl, hsz, hP, hK, hD0⟩ := hv
  have hx := B.exec
  have hb := B.bytes
  have hr := B.returns
  have hts := atoms_spec (ws := wsX9_isSound) B.pre
  have hown : s.vm.findClass RX9 = some m.cls := findClass_of_methodNamed B.named
  have hlocks := B.notSynchronized
  subst hsz
  have hD := hD0.self (sz := s.heap.size)
  generalize hAe : va_A (mW q v cJ V ib dn rf mk th) s.heap.size = A at hD ⊢
  have hA : ∀ q : Nat, s.heap.size ≤ q → A q := fun q h => by rw [← hAe]; exact Or.inr h
  have hS : va_S A s.heap s.heap [] := va_S.rf
  have hl := lv_entry ([.ref q]) (n := 1) (Nat.le_of_ble_eq_true rfl)
  rw [lg_entry_eq]
  generalize (lg_sl ([.ref q]) ++ List.replicate (1 - (lg_sl ([.ref q])).length) Slot.unset).toArray = ls at hl ⊢
  replace hl : lv_has ls 1 [(0, .ref q)] := hl
  have kwX9 : ∀ w ∈ u_ws RX9 TX9 6, w ∈ wsX9_isSound := fun w h => List.mem_cons_of_mem _ (List.mem_append_right _ h)
  have kf_13 := hts (.fieldLink RX9 13 "DivisorworkModel" "thrown" "I") (zmem 1 rfl)
  replace h : (some (true, (0 : Int32))) = some (r, th') := h
  obtain ⟨H, hHe⟩ : ∃ H, H = s.heap := ⟨_, rfl⟩
  rw [← hHe] at hP
  replace hS : va_S A s.heap H [] := by rw [hHe]; exact hS
  refine zheap hHe ?_
  refine lv_aload_n hx hb dX9_isSound_0 rfl (lv_at hl 0 rfl) ?_
  refine lv_iconst (v := (0 : Int32)) hx hb dX9_isSound_1 (by decide) ?_
  refine va_put (D := D) (ci := 9) (v := .int (0 : Int32)) (ty := .int) (C := RX9) (T := TX9) (N := 6) hx hb hts kwX9 tyX9 tyX9_ok nmX9 hown hK hP hD hS 0 rfl rfl 5 (by decide) kf_13 (fun _ h9 => h9) rfl rfl rfl rfl (Nat.le_of_ble_eq_true rfl) dX9_isSound_2 (fun H locs hP hD hS => ?_)
  replace hP : va_P D vwCl (mW q v cJ V ib dn rf mk (0 : Int32)) H := hP
  replace hD : va_D A (mW q v cJ V ib dn rf mk (0 : Int32)) := hD
  refine lv_iconst (v := (1 : Int32)) hx hb dX9_isSound_5 (by decide) ?_
  have g0 := Option.some.inj h
  obtain ⟨h1, g1⟩ := Prod.mk.inj g0
  subst h1
  subst g1
  exact W.zret (v := (1 : Int32)) hx hb hr (z01_nar true) (fun t ht hW => ⟨⟨(1 : Int32), (), rfl, rfl, by rw [ht]; exact hP, va_K.moved hW.alike hK, hD⟩, hS.F ht⟩) hS.2.2 dX9_isSound_6

noncomputable def p_X9_digest_L1 (F : Nat) (V : Nat → Int64) (v3_0 : Int32) (k : Int64 → Int32 → Option (Int64 × Int32)) : Nat → Int64 → Int32 → Option (Int64 × Int32)
  | 0, _, _ => none
  | n + 1, v1_1, v4_1 => (if (120 : Int32) < v4_1 then (k v1_1 v4_1) else (zb1 (p_X9_at V v3_0 v4_1) (fun r1 => (p_X9_digest_L1 F V v3_0 k n ((v1_1 * (31 : Int64)) + r1) (v4_1 + (1 : Int32))))))
noncomputable def p_X9_digest_L0 (F : Nat) (V : Nat → Int64) (k : Int64 → Int32 → Option (Int64 × Int32)) : Nat → Int64 → Int32 → Option (Int64 × Int32)
  | 0, _, _ => none
  | n + 1, v1_0, v3_0 => (if (4 : Int32) ≤ v3_0 then (k v1_0 v3_0) else (p_X9_digest_L1 F V v3_0 (fun v1_1 v4_1 => (p_X9_digest_L0 F V k n v1_1 (v3_0 + (1 : Int32)))) F v1_0 (1 : Int32)))
noncomputable def p_X9_digest (F : Nat) (V : Nat → Int64) (dn : Int32) (rf : Int32) (mk : Int32) : Option (Int64 × Int32) := (p_X9_digest_L0 F V (fun v1_0 v3_0 => (some (((((((((v1_0 * (31 : Int64)) + (dn.toInt64)) * (31 : Int64)) + (rf.toInt64)) * (31 : Int64)) + (mk.toInt64)) * (31 : Int64)) + (1 : Int64)), (0 : Int32)))) F (8027 : Int64) (0 : Int32))
theorem hdV_X9_digest : yX9_digest.cls = RX9 ∧ yX9_digest.cls ≠ "java/lang/invoke/MethodHandle" ∧ yX9_digest.cls ≠ "java/lang/invoke/VarHandle" ∧ (parseMethodDescriptor yX9_digest.desc).map (fun d => d.parameters.length) = some 0 := by decide +kernel
set_option maxHeartbeats 4000000 in
set_option maxRecDepth 100000 in
theorem c_X9_digest (l : Launch) (D : va_G) (q v : Nat) (cJ cI cO cB : ClassId) (V : Nat → Int64) (ib : Bool) (dn : Int32) (rf : Int32) (mk : Int32) (th : Int32) (F : Nat) (r : Int64) (th' : Int32) (h : p_X9_digest F V dn rf mk = some (r, th')) : zMl l yX9_digest wsX9_digest 1 22 0 0 D (zT cJ cI cO cB) [.ref q] (mW q v cJ V ib dn rf mk th) (mW q v cJ V ib dn rf mk th') r := by
  intro sz
  delta zQl
  refine Met.ofW (cc := cX9_digest) (maxL := 5) (ret := (some .long)) (by decide) rfl ?_
  intro p e s m args below meth c s₁ B hml hv
  obtain ⟨rfl, hsz, hP, hK, hD0⟩ := hv
  have hx := B.exec
  have hb := B.bytes
  have hr := B.returns
  have hts := atoms_spec (ws := wsX9_digest) B.pre
  have hown : s.vm.findClass RX9 = some m.cls := findClass_of_methodNamed B.named
  have hlocks := B.notSynchronized
  subst hsz
  have hD := hD0.self (sz := s.heap.size)
  generalize hAe : va_A (mW q v cJ V ib dn rf mk th) s.heap.size = A at hD ⊢
  have hA : ∀ q : Nat, s.heap.size ≤ q → A q := fun q h => by rw [← hAe]; exact Or.inr h
  have hS : va_S A s.heap s.heap [] := va_S.rf
  have hl := lv_entry ([.ref q]) (n := 5) (Nat.le_of_ble_eq_true rfl)
  rw [lg_entry_eq]
  generalize (lg_sl ([.ref q]) ++ List.replicate (5 - (lg_sl ([.ref q])).length) Slot.unset).toArray = ls at hl ⊢
  replace hl : lv_has ls 5 [(0, .ref q)] := hl
  have kc_186 := hts (.constantLong RX9 186 (8027)) (zmem 2 rfl)
  have kc_188 := hts (.constantLong RX9 188 (31)) (zmem 3 rfl)
  have kwX9 : ∀ w ∈ u_ws RX9 TX9 6, w ∈ wsX9_digest := fun w h => List.mem_cons_of_mem _ (List.mem_append_right _ (List.mem_cons_of_mem _ (List.mem_append_right _ h)))
  have kf_183 := hts (.fieldLink RX9 183 "DivisorworkModel" "knocks" "I") (zmem 6 rfl)
  have kf_86 := hts (.fieldLink RX9 86 "DivisorworkModel" "refused" "I") (zmem 5 rfl)
  have kf_79 := hts (.fieldLink RX9 79 "DivisorworkModel" "done" "I") (zmem 4 rfl)
  have kf_13 := hts (.fieldLink RX9 13 "DivisorworkModel" "thrown" "I") (zmem 1 rfl)
  replace h : (p_X9_digest_L0 F V (fun v1_0 v3_0 => (some (((((((((v1_0 * (31 : Int64)) + (dn.toInt64)) * (31 : Int64)) + (rf.toInt64)) * (31 : Int64)) + (mk.toInt64)) * (31 : Int64)) + (1 : Int64)), (0 : Int32)))) F (8027 : Int64) (0 : Int32)) = some (r, th') := h
  refine zabs (fun G hG hGW => ?_)
  obtain ⟨H, hHe⟩ : ∃ H, H = s.heap := ⟨_, rfl⟩
  rw [← hHe] at hP
  replace hS : va_S A s.heap H [] := by rw [hHe]; exact hS
  refine zheap hHe ?_
  refine lv_aload_n hx hb dX9_digest_0 rfl (lv_at hl 0 rfl) ?_
  refine lv_iconst (v := (0 : Int32)) hx hb dX9_digest_1 (by decide) ?_
  refine va_put (D := D) (ci := 9) (v := .int (0 : Int32)) (ty := .int) (C := RX9) (T := TX9) (N := 6) hx hb hts kwX9 tyX9 tyX9_ok nmX9 hown hK hP hD hS 0 rfl rfl 5 (by decide) kf_13 (fun _ h9 => h9) rfl rfl rfl rfl (Nat.le_of_ble_eq_true rfl) dX9_digest_2 (fun H locs hP hD hS => ?_)
  replace hP : va_P D vwCl (mW q v cJ V ib dn rf mk (0 : Int32)) H := hP
  replace hD : va_D A (mW q v cJ V ib dn rf mk (0 : Int32)) := hD
  refine lv_ldc2 hx hb hown kc_186 dX9_digest_5 ?_
  refine lv_lstore_n (lv' := [(1, .long (8027 : Int64)), (0, .ref q)]) hx hb dX9_digest_8 rfl hl (by decide) rfl (fun ls hl => ?_)
  refine lv_iconst (v := (0 : Int32)) hx hb dX9_digest_9 (by decide) ?_
  refine lv_istore_n (lv' := [(3, .int (0 : Int32)), (1, .long (8027 : Int64)), (0, .ref q)]) hx hb dX9_digest_10 rfl hl (by decide) rfl (fun ls hl => ?_)
  have X0 : ∀ (v1_0 : Int64) (v3_0 : Int32) (H : Heap) (locs : List Loc) (ls : Array Slot), va_P D vwCl (mW q v cJ V ib dn rf mk (0 : Int32)) H → va_D A (mW q v cJ V ib dn rf mk (0 : Int32)) → va_S A s.heap H locs → lv_has ls 5 [(0, .ref q), (1, .long v1_0), (3, .int v3_0)] → (some (((((((((v1_0 * (31 : Int64)) + (dn.toInt64)) * (31 : Int64)) + (rf.toInt64)) * (31 : Int64)) + (mk.toInt64)) * (31 : Int64)) + (1 : Int64)), (0 : Int32))) = some (r, th') → G H locs 0 0 (F0 m 52 ls []) := by
    intro v1_0 v3_0 H locs ls hP hD hS hl h
    refine hG _ _ _ _ _ ?_
    refine lv_lload_n hx hb dX9_digest_52 rfl (lv_at hl 1 rfl) ?_
    refine lv_ldc2 hx hb hown kc_188 dX9_digest_53 ?_
    refine lv_lmul hx hb dX9_digest_56 ?_
    refine lv_aload_n hx hb dX9_digest_57 rfl (lv_at hl 0 rfl) ?_
    refine va_get (D := D) (ci := 9) (v := .int dn) (C := RX9) (T := TX9) (N := 6) hx hb hts kwX9 hown hK hP 0 rfl rfl 2 (by decide) kf_79 (fun _ h9 => h9) rfl dX9_digest_58 ?_
    refine lv_i2l (v := dn.toInt64) hx hb dX9_digest_61 rfl ?_
    refine lv_ladd hx hb dX9_digest_62 ?_
    refine lv_ldc2 hx hb hown kc_188 dX9_digest_63 ?_
    refine lv_lmul hx hb dX9_digest_66 ?_
    refine lv_aload_n hx hb dX9_digest_67 rfl (lv_at hl 0 rfl) ?_
    refine va_get (D := D) (ci := 9) (v := .int rf) (C := RX9) (T := TX9) (N := 6) hx hb hts kwX9 hown hK hP 0 rfl rfl 3 (by decide) kf_86 (fun _ h9 => h9) rfl dX9_digest_68 ?_
    refine lv_i2l (v := rf.toInt64) hx hb dX9_digest_71 rfl ?_
    refine lv_ladd hx hb dX9_digest_72 ?_
    refine lv_ldc2 hx hb hown kc_188 dX9_digest_73 ?_
    refine lv_lmul hx hb dX9_digest_76 ?_
    refine lv_aload_n hx hb dX9_digest_77 rfl (lv_at hl 0 rfl) ?_
    refine va_get (D := D) (ci := 9) (v := .int mk) (C := RX9) (T := TX9) (N := 6) hx hb hts kwX9 hown hK hP 0 rfl rfl 4 (by decide) kf_183 (fun _ h9 => h9) rfl dX9_digest_78 ?_
    refine lv_i2l (v := mk.toInt64) hx hb dX9_digest_81 rfl ?_
    refine lv_ladd hx hb dX9_digest_82 ?_
    refine lv_lstore_n (lv' := [(1, .long ((((((v1_0 * (31 : Int64)) + (dn.toInt64)) * (31 : Int64)) + (rf.toInt64)) * (31 : Int64)) + (mk.toInt64))), (0, .ref q), (3, .int v3_0)]) hx hb dX9_digest_83 rfl hl (by decide) rfl (fun ls hl => ?_)
    refine lv_lload_n hx hb dX9_digest_84 rfl (lv_at hl 0 rfl) ?_
    refine lv_ldc2 hx hb hown kc_188 dX9_digest_85 ?_
    refine lv_lmul hx hb dX9_digest_88 ?_
    refine lv_lconst (v := (1 : Int64)) hx hb dX9_digest_89 (by decide) ?_
    refine lv_ladd hx hb dX9_digest_90 ?_
    have g0 := Option.some.inj h
    obtain ⟨h1, g1⟩ := Prod.mk.inj g0
    subst h1
    subst g1
    exact W.lret (v := ((((((((v1_0 * (31 : Int64)) + (dn.toInt64)) * (31 : Int64)) + (rf.toInt64)) * (31 : Int64)) + (mk.toInt64)) * (31 : Int64)) + (1 : Int64))) hx hb hr (fun t ht hW => ⟨⟨((((((((v1_0 * (31 : Int64)) + (dn.toInt64)) * (31 : Int64)) + (rf.toInt64)) * (31 : Int64)) + (mk.toInt64)) * (31 : Int64)) + (1 : Int64)), (), rfl, rfl, by rw [ht]; exact hP, va_K.moved hW.alike hK, hD⟩, hS.F ht⟩) hS.2.2 dX9_digest_91
  have L0 : ∀ (K0 : Int64 → Int32 → Option (Int64 × Int32)) (HX0 : ∀ (v1_0 : Int64) (v3_0 : Int32) (H : Heap) (locs : List Loc) (ls : Array Slot), va_P D vwCl (mW q v cJ V ib dn rf mk (0 : Int32)) H → va_D A (mW q v cJ V ib dn rf mk (0 : Int32)) → va_S A s.heap H locs → lv_has ls 5 [(0, .ref q), (1, .long v1_0), (3, .int v3_0)] → K0 v1_0 v3_0 = some (r, th') → G H locs 0 0 (F0 m 52 ls [])) (fu0 : Nat) (v1_0 : Int64) (v3_0 : Int32) (H : Heap) (locs : List Loc) (ls : Array Slot), va_P D vwCl (mW q v cJ V ib dn rf mk (0 : Int32)) H → va_D A (mW q v cJ V ib dn rf mk (0 : Int32)) → va_S A s.heap H locs → lv_has ls 5 [(0, .ref q), (1, .long v1_0), (3, .int v3_0)] → p_X9_digest_L0 F V K0 fu0 v1_0 v3_0 = some (r, th') → G H locs 0 0 (F0 m 11 ls []) := by
    intro K0 HX0 fu0
    induction fu0 with
    | zero =>
      intro v1_0 v3_0 H locs ls hP hD hS hl h
      exact (zno h).elim
    | succ fu0 ih0 =>
      intro v1_0 v3_0 H locs ls hP hD hS hl h
      refine hG _ _ _ _ _ ?_
      unfold p_X9_digest_L0 at h
      refine lv_iload_n hx hb dX9_digest_11 rfl (lv_at hl 2 rfl) ?_
      refine lv_iconst (v := (4 : Int32)) hx hb dX9_digest_12 (by decide) ?_
      refine lv_icmp_ge (tgt := 52) hx hb dX9_digest_13 (by decide) (fun c13 => ?_) (fun c13 => ?_)
      · replace h := zif_t h c13
        exact hGW _ _ _ _ _ (HX0 v1_0 v3_0 _ _ ls hP hD hS (lv_sub hl [0, 1, 2] rfl) h)
      · replace h := zif_f h c13
        refine lv_iconst (v := (1 : Int32)) hx hb dX9_digest_16 (by decide) ?_
        refine lv_istore (lv' := [(4, .int (1 : Int32)), (0, .ref q), (1, .long v1_0), (3, .int v3_0)]) hx hb dX9_digest_17 hl (by decide) rfl (fun ls hl => ?_)
        have X1 : ∀ (v1_1 : Int64) (v4_1 : Int32) (H : Heap) (locs : List Loc) (ls : Array Slot), va_P D vwCl (mW q v cJ V ib dn rf mk (0 : Int32)) H → va_D A (mW q v cJ V ib dn rf mk (0 : Int32)) → va_S A s.heap H locs → lv_has ls 5 [(0, .ref q), (1, .long v1_1), (3, .int v3_0), (4, .int v4_1)] → (p_X9_digest_L0 F V K0 fu0 v1_1 (v3_0 + (1 : Int32))) = some (r, th') → G H locs 0 0 (F0 m 46 ls []) := by
          intro v1_1 v4_1 H locs ls hP hD hS hl h
          refine hG _ _ _ _ _ ?_
          refine lv_iinc (v := (v3_0 + (1 : Int32))) (lv' := [(3, .int (v3_0 + (1 : Int32))), (0, .ref q), (1, .long v1_1), (4, .int v4_1)]) hx hb dX9_digest_46 hl (k := 2) rfl rfl (by decide) rfl (fun ls hl => ?_)
          refine lv_goto (tgt := 11) hx hb dX9_digest_49 (by decide) ?_
          exact hGW _ _ _ _ _ (ih0 v1_1 (v3_0 + (1 : Int32)) _ _ ls hP hD hS (lv_sub hl [1, 2, 0] rfl) h)
        have L1 : ∀ (K1 : Int64 → Int32 → Option (Int64 × Int32)) (HX1 : ∀ (v1_1 : Int64) (v4_1 : Int32) (H : Heap) (locs : List Loc) (ls : Array Slot), va_P D vwCl (mW q v cJ V ib dn rf mk (0 : Int32)) H → va_D A (mW q v cJ V ib dn rf mk (0 : Int32)) → va_S A s.heap H locs → lv_has ls 5 [(0, .ref q), (1, .long v1_1), (3, .int v3_0), (4, .int v4_1)] → K1 v1_1 v4_1 = some (r, th') → G H locs 0 0 (F0 m 46 ls [])) (fu1 : Nat) (v1_1 : Int64) (v4_1 : Int32) (H : Heap) (locs : List Loc) (ls : Array Slot), va_P D vwCl (mW q v cJ V ib dn rf mk (0 : Int32)) H → va_D A (mW q v cJ V ib dn rf mk (0 : Int32)) → va_S A s.heap H locs → lv_has ls 5 [(0, .ref q), (1, .long v1_1), (3, .int v3_0), (4, .int v4_1)] → p_X9_digest_L1 F V v3_0 K1 fu1 v1_1 v4_1 = some (r, th') → G H locs 0 0 (F0 m 19 ls []) := by
          intro K1 HX1 fu1
          induction fu1 with
          | zero =>
            intro v1_1 v4_1 H locs ls hP hD hS hl h
            exact (zno h).elim
          | succ fu1 ih1 =>
            intro v1_1 v4_1 H locs ls hP hD hS hl h
            refine hG _ _ _ _ _ ?_
            unfold p_X9_digest_L1 at h
            refine lv_iload hx hb dX9_digest_19 (lv_at hl 3 rfl) ?_
            refine lv_bipush (v := (120 : Int32)) hx hb dX9_digest_21 (by decide) ?_
            refine lv_icmp_gt (tgt := 46) hx hb dX9_digest_23 (by decide) (fun c23 => ?_) (fun c23 => ?_)
            · replace h := zif_t h c23
              exact hGW _ _ _ _ _ (HX1 v1_1 v4_1 _ _ ls hP hD hS (lv_sub hl [0, 1, 2, 3] rfl) h)
            · replace h := zif_f h c23
              refine lv_lload_n hx hb dX9_digest_26 rfl (lv_at hl 1 rfl) ?_
              refine lv_ldc2 hx hb hown kc_188 dX9_digest_27 ?_
              refine lv_lmul hx hb dX9_digest_30 ?_
              refine lv_aload_n hx hb dX9_digest_31 rfl (lv_at hl 0 rfl) ?_
              refine lv_iload_n hx hb dX9_digest_32 rfl (lv_at hl 2 rfl) ?_
              refine lv_iload hx hb dX9_digest_33 (lv_at hl 3 rfl) ?_
              obtain ⟨r1, e2, h⟩ := zb1_some h
              refine zgol (va_runV (As := [.int v3_0, .int v4_1]) (rest := [.long (v1_1 * (31 : Int64))]) ⟨hx, hb, hml, hown, hts⟩ (c_X9_at l D q v cJ cI cO cB V ib dn rf mk (0 : Int32) v3_0 v4_1 r1 e2 H.size) (cwV 2 hts gX9_digest_X9_at rfl rfl rfl hdV_X9_at ⟨Nat.le_of_ble_eq_true rfl, Nat.le_of_ble_eq_true rfl⟩) (zpreV (q0 := 0) (ci := 9) (T := TX9) (N := 6) hK hP hD rfl rfl [.int v3_0, .int v4_1]) rfl rfl hl.1 rfl (lv_room (Nat.le_of_ble_eq_true rfl)) dX9_digest_35 ⟨Nat.le_of_ble_eq_true rfl, Nat.le_of_ble_eq_true rfl⟩) (zfree hD hS hA) (zjW hD hS hA) hS (fun H locs hP hD hS => ?_)
              replace hP : va_P D vwCl (mW q v cJ V ib dn rf mk (0 : Int32)) H := hP
              replace hD : va_D A (mW q v cJ V ib dn rf mk (0 : Int32)) := hD
              refine lv_ladd hx hb dX9_digest_38 ?_
              refine lv_lstore_n (lv' := [(1, .long ((v1_1 * (31 : Int64)) + r1)), (0, .ref q), (3, .int v3_0), (4, .int v4_1)]) hx hb dX9_digest_39 rfl hl (by decide) rfl (fun ls hl => ?_)
              refine lv_iinc (v := (v4_1 + (1 : Int32))) (lv' := [(4, .int (v4_1 + (1 : Int32))), (1, .long ((v1_1 * (31 : Int64)) + r1)), (0, .ref q), (3, .int v3_0)]) hx hb dX9_digest_40 hl (k := 3) rfl rfl (by decide) rfl (fun ls hl => ?_)
              refine lv_goto (tgt := 19) hx hb dX9_digest_43 (by decide) ?_
              exact hGW _ _ _ _ _ (ih1 ((v1_1 * (31 : Int64)) + r1) (v4_1 + (1 : Int32)) _ _ ls hP hD hS (lv_sub hl [2, 1, 3, 0] rfl) h)
        exact hGW _ _ _ _ _ (L1 _ X1 F v1_0 (1 : Int32) _ _ ls hP hD hS (lv_sub hl [1, 2, 3, 0] rfl) h)
  exact hGW _ _ _ _ _ (L0 _ X0 F (8027 : Int64) (0 : Int32) _ _ ls hP hD hS (lv_sub hl [2, 1, 0] rfl) h)
