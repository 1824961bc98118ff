set_option maxHeartbeats 4000000 in
set_option maxRecDepth 100000 in
theorem c_X4_init (l : Launch) (D : va_G) (cJ cI cO cB : ClassId) (x : Nat)   : zMc l yX4_init wsX4_init 1 29 1 121 (zPn D (zT cJ cI cO cB) ([(x, .inr (6, [.null]))] : va_W)) [.ref x] D (zT cJ cI cO cB) ([(x, .inr (6, [.null]))] : va_W) (fun u => ([(x, .inr (6, [.ref (u 0)])), ((u 0), .inl (cJ, 121, .inr (.inl (fun _ => 0))))] : va_W)) := by
  intro sz
  delta zQc
  refine Met.ofW (cc := cX4_init) (maxL := 1) (ret := none) (by decide) rfl ?_
  intro p e s m args below meth c s₁ B hml hv
  obtain ⟨rfl, ⟨hsz, hP, hK, hD0⟩, hN⟩ := hv
  have hx := B.exec
  have hb := B.bytes
  have hr := B.returns
  have hts := atoms_spec (ws := wsX4_init) B.pre
  have hown : s.vm.findClass RX4 = some m.cls := findClass_of_methodNamed B.named
  have hlocks := B.notSynchronized
  have hin : meth.name = "<init>" := (name_of_methodNamed B.named B.method).1
  subst hsz
  have hD := hD0.self (sz := s.heap.size)
  generalize hAe : va_A ([(x, .inr (6, [.null]))] : va_W) s.heap.size = A at hD ⊢
  have hA : ∀ q : Nat, s.heap.size ≤ q → A q := fun q h => by rw [← hAe]; exact Or.inr h
  have hS : va_S A s.heap s.heap [] := va_S.rf
  have hl := lv_entry ([.ref x]) (n := 1) (Nat.le_of_ble_eq_true rfl)
  rw [lg_entry_eq]
  generalize (lg_sl ([.ref x]) ++ List.replicate (1 - (lg_sl ([.ref x])).length) Slot.unset).toArray = ls at hl ⊢
  replace hl : lv_has ls 1 [(0, .ref x)] := hl
  have km_3 := hts (.methodLink RX4 3 objectInit) (zmem 1 rfl)
  have koi := hts (.instanceMethod objectInit) (zmem 2 rfl)
  have koc := hts (.code objectInit ⟨#[0xb1]⟩ 1 none) (zmem 3 rfl)
  have karJ := hts (.arrayClass .long) (zmem 4 rfl)
  have kwX4 : ∀ w ∈ u_ws RX4 TX4 1, w ∈ wsX4_init := fun w h => List.mem_cons_of_mem _ (List.mem_append_right _ h)
  have kf_9 := hts (.fieldLink RX4 9 "Divisorwork$Row" "cells" "[J") (zmem 5 rfl)
  obtain ⟨H, hHe⟩ : ∃ H, H = s.heap := ⟨_, rfl⟩
  rw [← hHe] at hP
  replace hS : va_S A s.heap H [] := by rw [hHe]; exact hS
  refine zheap hHe ?_
  replace hP : va_P D vwCl ([(x, .inr (6, [.null]))] : va_W) H := hP
  replace hD : va_D A ([(x, .inr (6, [.null]))] : va_W) := hD
  refine lv_aload_n hx hb dX4_init_0 rfl (lv_at hl 0 rfl) ?_
  refine W.objInit hx hb hown km_3 koi koc rfl (by rw [hml]; exact hl.1) rfl dX4_init_1 (Nat.le_of_ble_eq_true rfl) (Nat.le_of_ble_eq_true rfl) ?_
  refine W.eq (g2 := F0 m 4 ls []) rfl ?_
  refine lv_aload_n hx hb dX4_init_4 rfl (lv_at hl 0 rfl) ?_
  refine lv_bipush (v := (121 : Int32)) hx hb dX4_init_5 (by decide) ?_
  refine znewJ (N := 121) hx hb karJ hK hP hD hS hA (by decide) (by decide) (by decide) (Nat.le_of_ble_eq_true rfl) (Nat.le_of_ble_eq_true rfl) dX4_init_7 (fun q7 H hP hD hS => ?_)
  replace hP : va_P D vwCl ([(x, .inr (6, [.null])), (q7, .inl (cJ, 121, .inr (.inl (fun _ => 0))))] : va_W) H := hP
  replace hD : va_D A ([(x, .inr (6, [.null])), (q7, .inl (cJ, 121, .inr (.inl (fun _ => 0))))] : va_W) := hD
  refine va_putF (D := D) (ci := 6) (v := .ref q7) (ty := .array .long) (C := RX4) (T := TX4) (N := 1) hx hb hts kwX4 tyX4 tyX4_ok nmX4 hown hK hP hD hS 0 rfl rfl 0 (by decide) kf_9 (fun _ h9 => h9) rfl hin rfl (by decide +kernel) rfl rfl (Nat.le_of_ble_eq_true rfl) dX4_init_9 (fun H locs hP hD hS => ?_)
  replace hP : va_P D vwCl ([(x, .inr (6, [.ref q7])), (q7, .inl (cJ, 121, .inr (.inl (fun _ => 0))))] : va_W) H := hP
  replace hD : va_D A ([(x, .inr (6, [.ref q7])), (q7, .inl (cJ, 121, .inr (.inl (fun _ => 0))))] : va_W) := hD
  refine W.widen (k := 1) (n := 121) (by decide) (by decide) ?_
  exact W.vret hx hb hr (fun t ht hW => ⟨⟨zlist [q7], rfl, trivial, by rw [ht]; exact hP, va_K.moved hW.alike hK, hD⟩, hS.F ht⟩) hS.2.2 dX4_init_12

set_option maxHeartbeats 4000000 in
set_option maxRecDepth 100000 in
theorem c_X3_init (l : Launch) (D : va_G) (cJ cI cO cB : ClassId) (x : Nat)   : zMc l yX3_init wsX3_init 1 29 0 0 (zPn D (zT cJ cI cO cB) ([(x, .inr (5, [.int 0]))] : va_W)) [.ref x] D (zT cJ cI cO cB) ([(x, .inr (5, [.int 0]))] : va_W) (fun u => ([(x, .inr (5, [.int 0]))] : va_W)) := by
  intro sz
  delta zQc
  refine Met.ofW (cc := cX3_init) (maxL := 1) (ret := none) (by decide) rfl ?_
  intro p e s m args below meth c s₁ B hml hv
  obtain ⟨rfl, ⟨hsz, hP, hK, hD0⟩, hN⟩ := hv
  have hx := B.exec
  have hb := B.bytes
  have hr := B.returns
  have hts := atoms_spec (ws := wsX3_init) B.pre
  have hown : s.vm.findClass RX3 = some m.cls := findClass_of_methodNamed B.named
  have hlocks := B.notSynchronized
  have hin : meth.name = "<init>" := (name_of_methodNamed B.named B.method).1
  subst hsz
  have hD := hD0.self (sz := s.heap.size)
  generalize hAe : va_A ([(x, .inr (5, [.int 0]))] : va_W) s.heap.size = A at hD ⊢
  have hA : ∀ q : Nat, s.heap.size ≤ q → A q := fun q h => by rw [← hAe]; exact Or.inr h
  have hS : va_S A s.heap s.heap [] := va_S.rf
  have hl := lv_entry ([.ref x]) (n := 1) (Nat.le_of_ble_eq_true rfl)
  rw [lg_entry_eq]
  generalize (lg_sl ([.ref x]) ++ List.replicate (1 - (lg_sl ([.ref x])).length) Slot.unset).toArray = ls at hl ⊢
  replace hl : lv_has ls 1 [(0, .ref x)] := hl
  have km_3 := hts (.methodLink RX3 3 objectInit) (zmem 1 rfl)
  have koi := hts (.instanceMethod objectInit) (zmem 2 rfl)
  have koc := hts (.code objectInit ⟨#[0xb1]⟩ 1 none) (zmem 3 rfl)
  obtain ⟨H, hHe⟩ : ∃ H, H = s.heap := ⟨_, rfl⟩
  rw [← hHe] at hP
  replace hS : va_S A s.heap H [] := by rw [hHe]; exact hS
  refine zheap hHe ?_
  replace hP : va_P D vwCl ([(x, .inr (5, [.int 0]))] : va_W) H := hP
  replace hD : va_D A ([(x, .inr (5, [.int 0]))] : va_W) := hD
  refine lv_aload_n hx hb dX3_init_0 rfl (lv_at hl 0 rfl) ?_
  refine W.objInit hx hb hown km_3 koi koc rfl (by rw [hml]; exact hl.1) rfl dX3_init_1 (Nat.le_of_ble_eq_true rfl) (Nat.le_of_ble_eq_true rfl) ?_
  refine W.eq (g2 := F0 m 4 ls []) rfl ?_
  refine W.widen (k := 0) (n := 0) (by decide) (by decide) ?_
  exact W.vret hx hb hr (fun t ht hW => ⟨⟨zlist [], rfl, trivial, by rw [ht]; exact hP, va_K.moved hW.alike hK, hD⟩, hS.F ht⟩) hS.2.2 dX3_init_4

set_option maxHeartbeats 4000000 in
set_option maxRecDepth 100000 in
theorem c_X2_init (l : Launch) (D : va_G) (cJ cI cO cB : ClassId) (x : Nat)   : zMc l yX2_init wsX2_init 1 29 2 8 (zPn D (zT cJ cI cO cB) ([(x, .inr (4, [.null, .null, .int 0]))] : va_W)) [.ref x] D (zT cJ cI cO cB) ([(x, .inr (4, [.null, .null, .int 0]))] : va_W) (fun u => ([(x, .inr (4, [.ref (u 0), .ref (u 1), .int 0])), ((u 0), .inl (cI, 4, .inl (fun _ => 0))), ((u 1), .inl (cI, 4, .inl (fun _ => 0)))] : va_W)) := by
  intro sz
  delta zQc
  refine Met.ofW (cc := cX2_init) (maxL := 1) (ret := none) (by decide) rfl ?_
  intro p e s m args below meth c s₁ B hml hv
  obtain ⟨rfl, ⟨hsz, hP, hK, hD0⟩, hN⟩ := hv
  have hx := B.exec
  have hb := B.bytes
  have hr := B.returns
  have hts := atoms_spec (ws := wsX2_init) B.pre
  have hown : s.vm.findClass RX2 = some m.cls := findClass_of_methodNamed B.named
  have hlocks := B.notSynchronized
  have hin : meth.name = "<init>" := (name_of_methodNamed B.named B.method).1
  subst hsz
  have hD := hD0.self (sz := s.heap.size)
  generalize hAe : va_A ([(x, .inr (4, [.null, .null, .int 0]))] : va_W) s.heap.size = A at hD ⊢
  have hA : ∀ q : Nat, s.heap.size ≤ q → A q := fun q h => by rw [← hAe]; exact Or.inr h
  have hS : va_S A s.heap s.heap [] := va_S.rf
  have hl := lv_entry ([.ref x]) (n := 1) (Nat.le_of_ble_eq_true rfl)
  rw [lg_entry_eq]
  generalize (lg_sl ([.ref x]) ++ List.replicate (1 - (lg_sl ([.ref x])).length) Slot.unset).toArray = ls at hl ⊢
  replace hl : lv_has ls 1 [(0, .ref x)] := hl
  have km_1 := hts (.methodLink RX2 1 objectInit) (zmem 1 rfl)
  have koi := hts (.instanceMethod objectInit) (zmem 2 rfl)
  have koc := hts (.code objectInit ⟨#[0xb1]⟩ 1 none) (zmem 3 rfl)
  have karI := hts (.arrayClass .int) (zmem 4 rfl)
  have kwX2 : ∀ w ∈ u_ws RX2 TX2 3, w ∈ wsX2_init := fun w h => List.mem_cons_of_mem _ (List.mem_append_right _ h)
  have kf_9 := hts (.fieldLink RX2 9 "Divisorwork$Powers" "primes" "[I") (zmem 5 rfl)
  have kf_13 := hts (.fieldLink RX2 13 "Divisorwork$Powers" "times" "[I") (zmem 6 rfl)
  obtain ⟨H, hHe⟩ : ∃ H, H = s.heap := ⟨_, rfl⟩
  rw [← hHe] at hP
  replace hS : va_S A s.heap H [] := by rw [hHe]; exact hS
  refine zheap hHe ?_
  replace hP : va_P D vwCl ([(x, .inr (4, [.null, .null, .int 0]))] : va_W) H := hP
  replace hD : va_D A ([(x, .inr (4, [.null, .null, .int 0]))] : va_W) := hD
  refine lv_aload_n hx hb dX2_init_0 rfl (lv_at hl 0 rfl) ?_
  refine W.objInit hx hb hown km_1 koi koc rfl (by rw [hml]; exact hl.1) rfl dX2_init_1 (Nat.le_of_ble_eq_true rfl) (Nat.le_of_ble_eq_true rfl) ?_
  refine W.eq (g2 := F0 m 4 ls []) rfl ?_
  refine lv_aload_n hx hb dX2_init_4 rfl (lv_at hl 0 rfl) ?_
  refine lv_iconst (v := (4 : Int32)) hx hb dX2_init_5 (by decide) ?_
  refine znewI (N := 4) hx hb karI hK hP hD hS hA (by decide) (by decide) (by decide) (Nat.le_of_ble_eq_true rfl) (Nat.le_of_ble_eq_true rfl) dX2_init_6 (fun q6 H hP hD hS => ?_)
  replace hP : va_P D vwCl ([(x, .inr (4, [.null, .null, .int 0])), (q6, .inl (cI, 4, .inl (fun _ => 0)))] : va_W) H := hP
  replace hD : va_D A ([(x, .inr (4, [.null, .null, .int 0])), (q6, .inl (cI, 4, .inl (fun _ => 0)))] : va_W) := hD
  refine va_putF (D := D) (ci := 4) (v := .ref q6) (ty := .array .int) (C := RX2) (T := TX2) (N := 3) hx hb hts kwX2 tyX2 tyX2_ok nmX2 hown hK hP hD hS 0 rfl rfl 0 (by decide) kf_9 (fun _ h9 => h9) rfl hin rfl (by decide +kernel) rfl rfl (Nat.le_of_ble_eq_true rfl) dX2_init_8 (fun H locs hP hD hS => ?_)
  replace hP : va_P D vwCl ([(x, .inr (4, [.ref q6, .null, .int 0])), (q6, .inl (cI, 4, .inl (fun _ => 0)))] : va_W) H := hP
  replace hD : va_D A ([(x, .inr (4, [.ref q6, .null, .int 0])), (q6, .inl (cI, 4, .inl (fun _ => 0)))] : va_W) := hD
  refine lv_aload_n hx hb dX2_init_11 rfl (lv_at hl 0 rfl) ?_
  refine lv_iconst (v := (4 : Int32)) hx hb dX2_init_12 (by decide) ?_
  refine znewI (N := 4) hx hb karI hK hP hD hS hA (by decide) (by decide) (by decide) (Nat.le_of_ble_eq_true rfl) (Nat.le_of_ble_eq_true rfl) dX2_init_13 (fun q13 H hP hD hS => ?_)
  replace hP : va_P D vwCl ([(x, .inr (4, [.ref q6, .null, .int 0])), (q6, .inl (cI, 4, .inl (fun _ => 0))), (q13, .inl (cI, 4, .inl (fun _ => 0)))] : va_W) H := hP
  replace hD : va_D A ([(x, .inr (4, [.ref q6, .null, .int 0])), (q6, .inl (cI, 4, .inl (fun _ => 0))), (q13, .inl (cI, 4, .inl (fun _ => 0)))] : va_W) := hD
  refine va_putF (D := D) (ci := 4) (v := .ref q13) (ty := .array .int) (C := RX2) (T := TX2) (N := 3) hx hb hts kwX2 tyX2 tyX2_ok nmX2 hown hK hP hD hS 0 rfl rfl 1 (by decide) kf_13 (fun _ h9 => h9) rfl hin rfl (by decide +kernel) rfl rfl (Nat.le_of_ble_eq_true rfl) dX2_init_15 (fun H locs hP hD hS => ?_)
  replace hP : va_P D vwCl ([(x, .inr (4, [.ref q6, .ref q13, .int 0])), (q6, .inl (cI, 4, .inl (fun _ => 0))), (q13, .inl (cI, 4, .inl (fun _ => 0)))] : va_W) H := hP
  replace hD : va_D A ([(x, .inr (4, [.ref q6, .ref q13, .int 0])), (q6, .inl (cI, 4, .inl (fun _ => 0))), (q13, .inl (cI, 4, .inl (fun _ => 0)))] : va_W) := hD
  refine W.widen (k := 2) (n := 8) (by decide) (by decide) ?_
  exact W.vret hx hb hr (fun t ht hW => ⟨⟨zlist [q6, q13], rfl, trivial, by rw [ht]; exact hP, va_K.moved hW.alike hK, hD⟩, hS.F ht⟩) hS.2.2 dX2_init_18

set_option maxHeartbeats 4000000 in
set_option maxRecDepth 100000 in
theorem c_X1_init (l : Launch) (D : va_G) (cJ cI cO cB : ClassId) (x : Nat)   : zMc l yX1_init wsX1_init 2 49 4 1011 (zPn D (zT cJ cI cO cB) ([(x, .inr (3, [.null, .null]))] : va_W)) [.ref x] D (zT cJ cI cO cB) ([(x, .inr (3, [.null, .null]))] : va_W) (fun u => ([(x, .inr (3, [.ref (u 0), .ref (u 3)])), ((u 0), .inr (4, [.ref (u 1), .ref (u 2), .int 0])), ((u 1), .inl (cI, 4, .inl (fun _ => 0))), ((u 2), .inl (cI, 4, .inl (fun _ => 0))), ((u 3), .inl (cI, 1000, .inl (fun _ => 0)))] : va_W)) := by
  intro sz
  delta zQc
  refine Met.ofW (cc := cX1_init) (maxL := 1) (ret := none) (by decide) rfl ?_
  intro p e s m args below meth c s₁ B hml hv
  obtain ⟨rfl, ⟨hsz, hP, hK, hD0⟩, hN⟩ := hv
  have hx := B.exec
  have hb := B.bytes
  have hr := B.returns
  have hts := atoms_spec (ws := wsX1_init) B.pre
  have hown : s.vm.findClass RX1 = some m.cls := findClass_of_methodNamed B.named
  have hlocks := B.notSynchronized
  have hin : meth.name = "<init>" := (name_of_methodNamed B.named B.method).1
  subst hsz
  have hD := hD0.self (sz := s.heap.size)
  generalize hAe : va_A ([(x, .inr (3, [.null, .null]))] : va_W) s.heap.size = A at hD ⊢
  have hA : ∀ q : Nat, s.heap.size ≤ q → A q := fun q h => by rw [← hAe]; exact Or.inr h
  have hS : va_S A s.heap s.heap [] := va_S.rf
  have hl := lv_entry ([.ref x]) (n := 1) (Nat.le_of_ble_eq_true rfl)
  rw [lg_entry_eq]
  generalize (lg_sl ([.ref x]) ++ List.replicate (1 - (lg_sl ([.ref x])).length) Slot.unset).toArray = ls at hl ⊢
  replace hl : lv_has ls 1 [(0, .ref x)] := hl
  have km_3 := hts (.methodLink RX1 3 objectInit) (zmem 1 rfl)
  have koi := hts (.instanceMethod objectInit) (List.mem_cons_of_mem _ (List.mem_append_right _ (zmem 2 rfl)))
  have koc := hts (.code objectInit ⟨#[0xb1]⟩ 1 none) (List.mem_cons_of_mem _ (List.mem_append_right _ (zmem 3 rfl)))
  have kwX2 : ∀ w ∈ u_ws RX2 TX2 3, w ∈ wsX1_init := fun w h => List.mem_cons_of_mem _ (List.mem_append_right _ (List.mem_cons_of_mem _ (List.mem_append_right _ h)))
  have kc_9 := hts (.classLink RX1 9 RX2) (zmem 2 rfl)
  have kin_X2 := hts (.instantiable RX2 3) (zmem 3 rfl)
  have kii_X2 := hts (.initialized RX2) (zmem 4 rfl)
  have kim_X2_init := hts (.instanceMethod yX2_init) (zmem 7 rfl)
  have kwX1 : ∀ w ∈ u_ws RX1 TX1 2, w ∈ wsX1_init := fun w h => List.mem_cons_of_mem _ (List.mem_append_left _ (List.mem_append_right _ h))
  have kf_12 := hts (.fieldLink RX1 12 "Divisorwork$Numbers" "powers" "LDivisorwork$Powers;") (zmem 5 rfl)
  have karI := hts (.arrayClass .int) (List.mem_cons_of_mem _ (List.mem_append_right _ (zmem 4 rfl)))
  have kf_18 := hts (.fieldLink RX1 18 "Divisorwork$Numbers" "sums" "[I") (zmem 6 rfl)
  obtain ⟨H, hHe⟩ : ∃ H, H = s.heap := ⟨_, rfl⟩
  rw [← hHe] at hP
  replace hS : va_S A s.heap H [] := by rw [hHe]; exact hS
  refine zheap hHe ?_
  replace hP : va_P D vwCl ([(x, .inr (3, [.null, .null]))] : va_W) H := hP
  replace hD : va_D A ([(x, .inr (3, [.null, .null]))] : va_W) := hD
  refine lv_aload_n hx hb dX1_init_0 rfl (lv_at hl 0 rfl) ?_
  refine W.objInit hx hb hown km_3 koi koc rfl (by rw [hml]; exact hl.1) rfl dX1_init_1 (Nat.le_of_ble_eq_true rfl) (Nat.le_of_ble_eq_true rfl) ?_
  refine W.eq (g2 := F0 m 4 ls []) rfl ?_
  refine lv_aload_n hx hb dX1_init_4 rfl (lv_at hl 0 rfl) ?_
  refine va_new (ci := 4) (fs := [.null, .null, .int 0]) (C := RX2) (T := TX2) (N := 3) hx hb hts kwX2 tyX2 tyX2_ok hown kc_9 kin_X2 kii_X2 hK hP hD hS hA rfl (fun j hj => by rcases (show j = 0 ∨ j = 1 ∨ j = 2 by omega) with rfl | rfl | rfl <;> rfl) (Nat.le_of_ble_eq_true rfl) (Nat.le_of_ble_eq_true rfl) dX1_init_5 (fun q5 H hP hD hS => ?_)
  replace hP : va_P D vwCl ([(x, .inr (3, [.null, .null])), (q5, .inr (4, [.null, .null, .int 0]))] : va_W) H := hP
  replace hD : va_D A ([(x, .inr (3, [.null, .null])), (q5, .inr (4, [.null, .null, .int 0]))] : va_W) := hD
  refine lv_dup hx hb dX1_init_8 rfl ?_
  have hPc := zsub (wn := ([(q5, .inr (4, [.null, .null, .int 0]))] : va_W)) hP [1] rfl
  have hDc := hD.sub (ws' := ([(q5, .inr (4, [.null, .null, .int 0]))] : va_W)) [1] (by decide) rfl
  refine zgoc (va_runIN (As := []) (rest := [.ref q5, .ref x]) ⟨hx, hb, hml, hown, hts⟩ (c_X2_init l D cJ cI cO cB q5  H.size) ⟨va_cnB 0 hts gX1_init_X2_init_n11 rfl rfl rfl hN.2.2.2.2.1 kii_X2 (by decide +kernel) ⟨Nat.le_of_ble_eq_true rfl, Nat.le_of_ble_eq_true rfl⟩, rfl, kim_X2_init⟩ (znpre hN hK hPc hDc [.ref q5]) rfl rfl hl.1 rfl (lv_room (Nat.le_of_ble_eq_true rfl)) dX1_init_9 ⟨Nat.le_of_ble_eq_true rfl, Nat.le_of_ble_eq_true rfl⟩) (va_free hD hS hA [1] rfl) (fun u => zjF (wr := ([(x, .inr (3, [.null, .null]))] : va_W)) hP hD hS hA [1] [0] rfl rfl (by decide) (by decide)) hS (fun u9 H locs hP hD hS => ?_)
  replace hP : va_P D vwCl ([(x, .inr (3, [.null, .null])), (q5, .inr (4, [.ref (u9 0), .ref (u9 1), .int 0])), ((u9 0), .inl (cI, 4, .inl (fun _ => 0))), ((u9 1), .inl (cI, 4, .inl (fun _ => 0)))] : va_W) H := hP
  replace hD : va_D A ([(x, .inr (3, [.null, .null])), (q5, .inr (4, [.ref (u9 0), .ref (u9 1), .int 0])), ((u9 0), .inl (cI, 4, .inl (fun _ => 0))), ((u9 1), .inl (cI, 4, .inl (fun _ => 0)))] : va_W) := hD
  refine va_putF (D := D) (ci := 3) (v := .ref q5) (ty := .object "Divisorwork$Powers") (C := RX1) (T := TX1) (N := 2) hx hb hts kwX1 tyX1 tyX1_ok nmX1 hown hK hP hD hS 0 rfl rfl 0 (by decide) kf_12 (fun _ h9 => h9) rfl hin rfl (by decide +kernel) rfl rfl (Nat.le_of_ble_eq_true rfl) dX1_init_12 (fun H locs hP hD hS => ?_)
  replace hP : va_P D vwCl ([(x, .inr (3, [.ref q5, .null])), (q5, .inr (4, [.ref (u9 0), .ref (u9 1), .int 0])), ((u9 0), .inl (cI, 4, .inl (fun _ => 0))), ((u9 1), .inl (cI, 4, .inl (fun _ => 0)))] : va_W) H := hP
  replace hD : va_D A ([(x, .inr (3, [.ref q5, .null])), (q5, .inr (4, [.ref (u9 0), .ref (u9 1), .int 0])), ((u9 0), .inl (cI, 4, .inl (fun _ => 0))), ((u9 1), .inl (cI, 4, .inl (fun _ => 0)))] : va_W) := hD
  refine lv_aload_n hx hb dX1_init_15 rfl (lv_at hl 0 rfl) ?_
  refine lv_sipush (v := (1000 : Int32)) hx hb dX1_init_16 (by decide) ?_
  refine znewI (N := 1000) hx hb karI hK hP hD hS hA (by decide) (by decide) (by decide) (Nat.le_of_ble_eq_true rfl) (Nat.le_of_ble_eq_true rfl) dX1_init_19 (fun q19 H hP hD hS => ?_)
  replace hP : va_P D vwCl ([(x, .inr (3, [.ref q5, .null])), (q5, .inr (4, [.ref (u9 0), .ref (u9 1), .int 0])), ((u9 0), .inl (cI, 4, .inl (fun _ => 0))), ((u9 1), .inl (cI, 4, .inl (fun _ => 0))), (q19, .inl (cI, 1000, .inl (fun _ => 0)))] : va_W) H := hP
  replace hD : va_D A ([(x, .inr (3, [.ref q5, .null])), (q5, .inr (4, [.ref (u9 0), .ref (u9 1), .int 0])), ((u9 0), .inl (cI, 4, .inl (fun _ => 0))), ((u9 1), .inl (cI, 4, .inl (fun _ => 0))), (q19, .inl (cI, 1000, .inl (fun _ => 0)))] : va_W) := hD
  refine va_putF (D := D) (ci := 3) (v := .ref q19) (ty := .array .int) (C := RX1) (T := TX1) (N := 2) hx hb hts kwX1 tyX1 tyX1_ok nmX1 hown hK hP hD hS 0 rfl rfl 1 (by decide) kf_18 (fun _ h9 => h9) rfl hin rfl (by decide +kernel) rfl rfl (Nat.le_of_ble_eq_true rfl) dX1_init_21 (fun H locs hP hD hS => ?_)
  replace hP : va_P D vwCl ([(x, .inr (3, [.ref q5, .ref q19])), (q5, .inr (4, [.ref (u9 0), .ref (u9 1), .int 0])), ((u9 0), .inl (cI, 4, .inl (fun _ => 0))), ((u9 1), .inl (cI, 4, .inl (fun _ => 0))), (q19, .inl (cI, 1000, .inl (fun _ => 0)))] : va_W) H := hP
  replace hD : va_D A ([(x, .inr (3, [.ref q5, .ref q19])), (q5, .inr (4, [.ref (u9 0), .ref (u9 1), .int 0])), ((u9 0), .inl (cI, 4, .inl (fun _ => 0))), ((u9 1), .inl (cI, 4, .inl (fun _ => 0))), (q19, .inl (cI, 1000, .inl (fun _ => 0)))] : va_W) := hD
  refine W.widen (k := 4) (n := 1011) (by decide) (by decide) ?_
  exact W.vret hx hb hr (fun t ht hW => ⟨⟨zlist [q5, (u9 0), (u9 1), q19], rfl, trivial, by rw [ht]; exact hP, va_K.moved hW.alike hK, hD⟩, hS.F ht⟩) hS.2.2 dX1_init_24

set_option maxHeartbeats 4000000 in
set_option maxRecDepth 100000 in
theorem c_X0_init (l : Launch) (D : va_G) (cJ cI cO cB : ClassId) (x : Nat) (p0 : Nat) (p1 : Nat)  : zMc l yX0_init wsX0_init 1 29 0 0 (zPn D (zT cJ cI cO cB) ([(x, .inr (2, [.null, .null]))] : va_W)) [.ref x, .ref p0, .ref p1] D (zT cJ cI cO cB) ([(x, .inr (2, [.null, .null]))] : va_W) (fun u => ([(x, .inr (2, [.ref p0, .ref p1]))] : va_W)) := by
  intro sz
  delta zQc
  refine Met.ofW (cc := cX0_init) (maxL := 3) (ret := none) (by decide) rfl ?_
  intro p e s m args below meth c s₁ B hml hv
  obtain ⟨rfl, ⟨hsz, hP, hK, hD0⟩, hN⟩ := hv
  have hx := B.exec
  have hb := B.bytes
  have hr := B.returns
  have hts := atoms_spec (ws := wsX0_init) B.pre
  have hown : s.vm.findClass RX0 = some m.cls := findClass_of_methodNamed B.named
  have hlocks := B.notSynchronized
  have hin : meth.name = "<init>" := (name_of_methodNamed B.named B.method).1
  subst hsz
  have hD := hD0.self (sz := s.heap.size)
  generalize hAe : va_A ([(x, .inr (2, [.null, .null]))] : va_W) s.heap.size = A at hD ⊢
  have hA : ∀ q : Nat, s.heap.size ≤ q → A q := fun q h => by rw [← hAe]; exact Or.inr h
  have hS : va_S A s.heap s.heap [] := va_S.rf
  have hl := lv_entry ([.ref x, .ref p0, .ref p1]) (n := 3) (Nat.le_of_ble_eq_true rfl)
  rw [lg_entry_eq]
  generalize (lg_sl ([.ref x, .ref p0, .ref p1]) ++ List.replicate (3 - (lg_sl ([.ref x, .ref p0, .ref p1])).length) Slot.unset).toArray = ls at hl ⊢
  replace hl : lv_has ls 3 [(0, .ref x), (1, .ref p0), (2, .ref p1)] := hl
  have km_3 := hts (.methodLink RX0 3 objectInit) (zmem 1 rfl)
  have koi := hts (.instanceMethod objectInit) (zmem 2 rfl)
  have koc := hts (.code objectInit ⟨#[0xb1]⟩ 1 none) (zmem 3 rfl)
  have kwX0 : ∀ w ∈ u_ws RX0 TX0 2, w ∈ wsX0_init := fun w h => List.mem_cons_of_mem _ (List.mem_append_right _ h)
  have kf_9 := hts (.fieldLink RX0 9 "Divisorwork$Maker" "reckoning" "LDivisorwork$Reckoning;") (zmem 4 rfl)
  have kf_15 := hts (.fieldLink RX0 15 "Divisorwork$Maker" "numbers" "LDivisorwork$Numbers;") (zmem 5 rfl)
  obtain ⟨H, hHe⟩ : ∃ H, H = s.heap := ⟨_, rfl⟩
  rw [← hHe] at hP
  replace hS : va_S A s.heap H [] := by rw [hHe]; exact hS
  refine zheap hHe ?_
  replace hP : va_P D vwCl ([(x, .inr (2, [.null, .null]))] : va_W) H := hP
  replace hD : va_D A ([(x, .inr (2, [.null, .null]))] : va_W) := hD
  refine lv_aload_n hx hb dX0_init_0 rfl (lv_at hl 0 rfl) ?_
  refine W.objInit hx hb hown km_3 koi koc rfl (by rw [hml]; exact hl.1) rfl dX0_init_1 (Nat.le_of_ble_eq_true rfl) (Nat.le_of_ble_eq_true rfl) ?_
  refine W.eq (g2 := F0 m 4 ls []) rfl ?_
  refine lv_aload_n hx hb dX0_init_4 rfl (lv_at hl 0 rfl) ?_
  refine lv_aload_n hx hb dX0_init_5 rfl (lv_at hl 1 rfl) ?_
  refine va_putF (D := D) (ci := 2) (v := .ref p0) (ty := .object "Divisorwork$Reckoning") (C := RX0) (T := TX0) (N := 2) hx hb hts kwX0 tyX0 tyX0_ok nmX0 hown hK hP hD hS 0 rfl rfl 0 (by decide) kf_9 (fun _ h9 => h9) rfl hin rfl (by decide +kernel) rfl rfl (Nat.le_of_ble_eq_true rfl) dX0_init_6 (fun H locs hP hD hS => ?_)
  replace hP : va_P D vwCl ([(x, .inr (2, [.ref p0, .null]))] : va_W) H := hP
  replace hD : va_D A ([(x, .inr (2, [.ref p0, .null]))] : va_W) := hD
  refine lv_aload_n hx hb dX0_init_9 rfl (lv_at hl 0 rfl) ?_
  refine lv_aload_n hx hb dX0_init_10 rfl (lv_at hl 2 rfl) ?_
  refine va_putF (D := D) (ci := 2) (v := .ref p1) (ty := .object "Divisorwork$Numbers") (C := RX0) (T := TX0) (N := 2) hx hb hts kwX0 tyX0 tyX0_ok nmX0 hown hK hP hD hS 0 rfl rfl 1 (by decide) kf_15 (fun _ h9 => h9) rfl hin rfl (by decide +kernel) rfl rfl (Nat.le_of_ble_eq_true rfl) dX0_init_11 (fun H locs hP hD hS => ?_)
  replace hP : va_P D vwCl ([(x, .inr (2, [.ref p0, .ref p1]))] : va_W) H := hP
  replace hD : va_D A ([(x, .inr (2, [.ref p0, .ref p1]))] : va_W) := hD
  refine W.widen (k := 0) (n := 0) (by decide) (by decide) ?_
  exact W.vret hx hb hr (fun t ht hW => ⟨⟨zlist [], rfl, trivial, by rw [ht]; exact hP, va_K.moved hW.alike hK, hD⟩, hS.F ht⟩) hS.2.2 dX0_init_14

set_option maxHeartbeats 4000000 in
set_option maxRecDepth 100000 in
theorem c_X8_init (l : Launch) (D : va_G) (cJ cI cO cB : ClassId) (x : Nat)   : zMc l yX8_init wsX8_init 1 29 0 0 (zPn D (zT cJ cI cO cB) ([(x, .inr (8, [.long 0, .null]))] : va_W)) [.ref x] D (zT cJ cI cO cB) ([(x, .inr (8, [.long 0, .null]))] : va_W) (fun u => ([(x, .inr (8, [.long 0, .null]))] : va_W)) := by
  intro sz
  delta zQc
  refine Met.ofW (cc := cX8_init) (maxL := 1) (ret := none) (by decide) rfl ?_
  intro p e s m args below meth c s₁ B hml hv
  obtain ⟨rfl, ⟨hsz, hP, hK, hD0⟩, hN⟩ := hv
  have hx := B.exec
  have hb := B.bytes
  have hr := B.returns
  have hts := atoms_spec (ws := wsX8_init) B.pre
  have hown : s.vm.findClass RX8 = some m.cls := findClass_of_methodNamed B.named
  have hlocks := B.notSynchronized
  have hin : meth.name = "<init>" := (name_of_methodNamed B.named B.method).1
  subst hsz
  have hD := hD0.self (sz := s.heap.size)
  generalize hAe : va_A ([(x, .inr (8, [.long 0, .null]))] : va_W) s.heap.size = A at hD ⊢
  have hA : ∀ q : Nat, s.heap.size ≤ q → A q := fun q h => by rw [← hAe]; exact Or.inr h
  have hS : va_S A s.heap s.heap [] := va_S.rf
  have hl := lv_entry ([.ref x]) (n := 1) (Nat.le_of_ble_eq_true rfl)
  rw [lg_entry_eq]
  generalize (lg_sl ([.ref x]) ++ List.replicate (1 - (lg_sl ([.ref x])).length) Slot.unset).toArray = ls at hl ⊢
  replace hl : lv_has ls 1 [(0, .ref x)] := hl
  have km_1 := hts (.methodLink RX8 1 objectInit) (zmem 1 rfl)
  have koi := hts (.instanceMethod objectInit) (zmem 2 rfl)
  have koc := hts (.code objectInit ⟨#[0xb1]⟩ 1 none) (zmem 3 rfl)
  obtain ⟨H, hHe⟩ : ∃ H, H = s.heap := ⟨_, rfl⟩
  rw [← hHe] at hP
  replace hS : va_S A s.heap H [] := by rw [hHe]; exact hS
  refine zheap hHe ?_
  replace hP : va_P D vwCl ([(x, .inr (8, [.long 0, .null]))] : va_W) H := hP
  replace hD : va_D A ([(x, .inr (8, [.long 0, .null]))] : va_W) := hD
  refine lv_aload_n hx hb dX8_init_0 rfl (lv_at hl 0 rfl) ?_
  refine W.objInit hx hb hown km_1 koi koc rfl (by rw [hml]; exact hl.1) rfl dX8_init_1 (Nat.le_of_ble_eq_true rfl) (Nat.le_of_ble_eq_true rfl) ?_
  refine W.eq (g2 := F0 m 4 ls []) rfl ?_
  refine W.widen (k := 0) (n := 0) (by decide) (by decide) ?_
  exact W.vret hx hb hr (fun t ht hW => ⟨⟨zlist [], rfl, trivial, by rw [ht]; exact hP, va_K.moved hW.alike hK, hD⟩, hS.F ht⟩) hS.2.2 dX8_init_4

set_option maxHeartbeats 4000000 in
set_option maxRecDepth 100000 in
theorem c_X9_init (l : Launch) (D : va_G) (cJ cI cO cB : ClassId) (x : Nat)   : zMc l yX9_init wsX9_init 1 29 1 484 (zPn D (zT cJ cI cO cB) ([(x, .inr (9, [.null, .int 0, .int 0, .int 0, .int 0, .int 0]))] : va_W)) [.ref x] D (zT cJ cI cO cB) ([(x, .inr (9, [.null, .int 0, .int 0, .int 0, .int 0, .int 0]))] : va_W) (fun u => ([(x, .inr (9, [.ref (u 0), .int 0, .int 0, .int 0, .int 0, .int 0])), ((u 0), .inl (cJ, 484, .inr (.inl (fun _ => 0))))] : va_W)) := by
  intro sz
  delta zQc
  refine Met.ofW (cc := cX9_init) (maxL := 1) (ret := none) (by decide) rfl ?_
  intro p e s m args below meth c s₁ B hml hv
  obtain ⟨rfl, ⟨hsz, hP, hK, hD0⟩, hN⟩ := hv
  have hx := B.exec
  have hb := B.bytes
  have hr := B.returns
  have hts := atoms_spec (ws := wsX9_init) B.pre
  have hown : s.vm.findClass RX9 = some m.cls := findClass_of_methodNamed B.named
  have hlocks := B.notSynchronized
  have hin : meth.name = "<init>" := (name_of_methodNamed B.named B.method).1
  subst hsz
  have hD := hD0.self (sz := s.heap.size)
  generalize hAe : va_A ([(x, .inr (9, [.null, .int 0, .int 0, .int 0, .int 0, .int 0]))] : va_W) s.heap.size = A at hD ⊢
  have hA : ∀ q : Nat, s.heap.size ≤ q → A q := fun q h => by rw [← hAe]; exact Or.inr h
  have hS : va_S A s.heap s.heap [] := va_S.rf
  have hl := lv_entry ([.ref x]) (n := 1) (Nat.le_of_ble_eq_true rfl)
  rw [lg_entry_eq]
  generalize (lg_sl ([.ref x]) ++ List.replicate (1 - (lg_sl ([.ref x])).length) Slot.unset).toArray = ls at hl ⊢
  replace hl : lv_has ls 1 [(0, .ref x)] := hl
  have km_1 := hts (.methodLink RX9 1 objectInit) (zmem 1 rfl)
  have koi := hts (.instanceMethod objectInit) (zmem 2 rfl)
  have koc := hts (.code objectInit ⟨#[0xb1]⟩ 1 none) (zmem 3 rfl)
  have karJ := hts (.arrayClass .long) (zmem 4 rfl)
  have kwX9 : ∀ w ∈ u_ws RX9 TX9 6, w ∈ wsX9_init := fun w h => List.mem_cons_of_mem _ (List.mem_append_right _ h)
  have kf_9 := hts (.fieldLink RX9 9 "DivisorworkModel" "values" "[J") (zmem 5 rfl)
  obtain ⟨H, hHe⟩ : ∃ H, H = s.heap := ⟨_, rfl⟩
  rw [← hHe] at hP
  replace hS : va_S A s.heap H [] := by rw [hHe]; exact hS
  refine zheap hHe ?_
  replace hP : va_P D vwCl ([(x, .inr (9, [.null, .int 0, .int 0, .int 0, .int 0, .int 0]))] : va_W) H := hP
  replace hD : va_D A ([(x, .inr (9, [.null, .int 0, .int 0, .int 0, .int 0, .int 0]))] : va_W) := hD
  refine lv_aload_n hx hb dX9_init_0 rfl (lv_at hl 0 rfl) ?_
  refine W.objInit hx hb hown km_1 koi koc rfl (by rw [hml]; exact hl.1) rfl dX9_init_1 (Nat.le_of_ble_eq_true rfl) (Nat.le_of_ble_eq_true rfl) ?_
  refine W.eq (g2 := F0 m 4 ls []) rfl ?_
  refine lv_aload_n hx hb dX9_init_4 rfl (lv_at hl 0 rfl) ?_
  refine lv_sipush (v := (484 : Int32)) hx hb dX9_init_5 (by decide) ?_
  refine znewJ (N := 484) hx hb karJ hK hP hD hS hA (by decide) (by decide) (by decide) (Nat.le_of_ble_eq_true rfl) (Nat.le_of_ble_eq_true rfl) dX9_init_8 (fun q8 H hP hD hS => ?_)
  replace hP : va_P D vwCl ([(x, .inr (9, [.null, .int 0, .int 0, .int 0, .int 0, .int 0])), (q8, .inl (cJ, 484, .inr (.inl (fun _ => 0))))] : va_W) H := hP
  replace hD : va_D A ([(x, .inr (9, [.null, .int 0, .int 0, .int 0, .int 0, .int 0])), (q8, .inl (cJ, 484, .inr (.inl (fun _ => 0))))] : va_W) := hD
  refine va_putF (D := D) (ci := 9) (v := .ref q8) (ty := .array .long) (C := RX9) (T := TX9) (N := 6) hx hb hts kwX9 tyX9 tyX9_ok nmX9 hown hK hP hD hS 0 rfl rfl 0 (by decide) kf_9 (fun _ h9 => h9) rfl hin rfl (by decide +kernel) rfl rfl (Nat.le_of_ble_eq_true rfl) dX9_init_10 (fun H locs hP hD hS => ?_)
  replace hP : va_P D vwCl ([(x, .inr (9, [.ref q8, .int 0, .int 0, .int 0, .int 0, .int 0])), (q8, .inl (cJ, 484, .inr (.inl (fun _ => 0))))] : va_W) H := hP
  replace hD : va_D A ([(x, .inr (9, [.ref q8, .int 0, .int 0, .int 0, .int 0, .int 0])), (q8, .inl (cJ, 484, .inr (.inl (fun _ => 0))))] : va_W) := hD
  refine W.widen (k := 1) (n := 484) (by decide) (by decide) ?_
  exact W.vret hx hb hr (fun t ht hW => ⟨⟨zlist [q8], rfl, trivial, by rw [ht]; exact hP, va_K.moved hW.alike hK, hD⟩, hS.F ht⟩) hS.2.2 dX9_init_13

set_option maxHeartbeats 4000000 in
set_option maxRecDepth 100000 in
theorem c_X7_init (l : Launch) (D : va_G) (cJ cI cO cB : ClassId) (x : Nat)   : zMc l yX7_init wsX7_init 3 69 20 1752 (zPn D (zT cJ cI cO cB) ([(x, .inr (7, [.null, .null, .null, .null, .null, .null, .int 0, .int 0, .int 0]))] : va_W)) [.ref x] D (zT cJ cI cO cB) ([(x, .inr (7, [.null, .null, .null, .null, .null, .null, .int 0, .int 0, .int 0]))] : va_W) (fun u => (cW (zcons x u) cJ cI cO (fun _ _ => 0) false (fun _ => 0) (fun _ => 0) 0 (fun _ => 0) 0 0 0)) := by
  intro sz
  delta zQc
  refine Met.ofW (cc := cX7_init) (maxL := 2) (ret := none) (by decide) rfl ?_
  intro p e s m args below meth c s₁ B hml hv
  obtain ⟨rfl, ⟨hsz, hP, hK, hD0⟩, hN⟩ := hv
  have hx := B.exec
  have hb := B.bytes
  have hr := B.returns
  have hts := atoms_spec (ws := wsX7_init) B.pre
  have hown : s.vm.findClass RX7 = some m.cls := findClass_of_methodNamed B.named
  have hlocks := B.notSynchronized
  have hin : meth.name = "<init>" := (name_of_methodNamed B.named B.method).1
  subst hsz
  have hD := hD0.self (sz := s.heap.size)
  generalize hAe : va_A ([(x, .inr (7, [.null, .null, .null, .null, .null, .null, .int 0, .int 0, .int 0]))] : va_W) s.heap.size = A at hD ⊢
  have hA : ∀ q : Nat, s.heap.size ≤ q → A q := fun q h => by rw [← hAe]; exact Or.inr h
  have hS : va_S A s.heap s.heap [] := va_S.rf
  have hl := lv_entry ([.ref x]) (n := 2) (Nat.le_of_ble_eq_true rfl)
  rw [lg_entry_eq]
  generalize (lg_sl ([.ref x]) ++ List.replicate (2 - (lg_sl ([.ref x])).length) Slot.unset).toArray = ls at hl ⊢
  replace hl : lv_has ls 2 [(0, .ref x)] := hl
  have km_1 := hts (.methodLink RX7 1 objectInit) (zmem 1 rfl)
  have koi := hts (.instanceMethod objectInit) (List.mem_cons_of_mem _ (List.mem_append_left _ (List.mem_append_left _ (List.mem_append_left _ (List.mem_append_right _ (zmem 2 rfl))))))
  have koc := hts (.code objectInit ⟨#[0xb1]⟩ 1 none) (List.mem_cons_of_mem _ (List.mem_append_left _ (List.mem_append_left _ (List.mem_append_left _ (List.mem_append_right _ (zmem 3 rfl))))))
  have kc_9 := hts (.classLink RX7 9 RX4) (zmem 2 rfl)
  have kwX7 : ∀ w ∈ u_ws RX7 TX7 9, w ∈ wsX7_init := fun w h => List.mem_cons_of_mem _ (List.mem_append_left _ (List.mem_append_left _ (List.mem_append_left _ (List.mem_append_left _ (List.mem_append_left _ (List.mem_append_right _ h))))))
  have kf_11 := hts (.fieldLink RX7 11 "Divisorwork" "functions" "[LDivisorwork$Row;") (zmem 3 rfl)
  have kwX4 : ∀ w ∈ u_ws RX4 TX4 1, w ∈ wsX7_init := fun w h => List.mem_cons_of_mem _ (List.mem_append_left _ (List.mem_append_left _ (List.mem_append_left _ (List.mem_append_right _ (List.mem_cons_of_mem _ (List.mem_append_right _ h))))))
  have kin_X4 := hts (.instantiable RX4 1) (zmem 4 rfl)
  have kii_X4 := hts (.initialized RX4) (zmem 5 rfl)
  have kim_X4_init := hts (.instanceMethod yX4_init) (zmem 20 rfl)
  have kf_16 := hts (.fieldLink RX7 16 "Divisorwork" "scratch" "LDivisorwork$Row;") (zmem 6 rfl)
  have kf_20 := hts (.fieldLink RX7 20 "Divisorwork" "spare" "LDivisorwork$Row;") (zmem 7 rfl)
  have kwX3 : ∀ w ∈ u_ws RX3 TX3 1, w ∈ wsX7_init := fun w h => List.mem_cons_of_mem _ (List.mem_append_left _ (List.mem_append_left _ (List.mem_append_left _ (List.mem_append_left _ (List.mem_append_right _ h)))))
  have kc_23 := hts (.classLink RX7 23 RX3) (zmem 8 rfl)
  have kin_X3 := hts (.instantiable RX3 1) (zmem 9 rfl)
  have kii_X3 := hts (.initialized RX3) (zmem 10 rfl)
  have kim_X3_init := hts (.instanceMethod yX3_init) (zmem 21 rfl)
  have kf_26 := hts (.fieldLink RX7 26 "Divisorwork" "reckoning" "LDivisorwork$Reckoning;") (zmem 11 rfl)
  have kwX1 : ∀ w ∈ u_ws RX1 TX1 2, w ∈ wsX7_init := fun w h => List.mem_cons_of_mem _ (List.mem_append_left _ (List.mem_append_right _ (List.mem_cons_of_mem _ (List.mem_append_left _ (List.mem_append_right _ h)))))
  have kc_30 := hts (.classLink RX7 30 RX1) (zmem 12 rfl)
  have kin_X1 := hts (.instantiable RX1 2) (zmem 13 rfl)
  have kii_X1 := hts (.initialized RX1) (zmem 14 rfl)
  have kim_X1_init := hts (.instanceMethod yX1_init) (zmem 22 rfl)
  have kf_33 := hts (.fieldLink RX7 33 "Divisorwork" "numbers" "LDivisorwork$Numbers;") (zmem 15 rfl)
  have kwX0 : ∀ w ∈ u_ws RX0 TX0 2, w ∈ wsX7_init := fun w h => List.mem_cons_of_mem _ (List.mem_append_right _ (List.mem_cons_of_mem _ (List.mem_append_right _ h)))
  have kc_37 := hts (.classLink RX7 37 RX0) (zmem 16 rfl)
  have kin_X0 := hts (.instantiable RX0 2) (zmem 17 rfl)
  have kii_X0 := hts (.initialized RX0) (zmem 18 rfl)
  have kim_X0_init := hts (.instanceMethod yX0_init) (zmem 25 rfl)
  have km_39 := hts (.methodLink RX7 39 yX0_init) (zmem 24 rfl)
  have kf_42 := hts (.fieldLink RX7 42 "Divisorwork" "maker" "LDivisorwork$Maker;") (zmem 19 rfl)
  obtain ⟨H, hHe⟩ : ∃ H, H = s.heap := ⟨_, rfl⟩
  rw [← hHe] at hP
  replace hS : va_S A s.heap H [] := by rw [hHe]; exact hS
  refine zheap hHe ?_
  replace hP : va_P D vwCl ([(x, .inr (7, [.null, .null, .null, .null, .null, .null, .int 0, .int 0, .int 0]))] : va_W) H := hP
  replace hD : va_D A ([(x, .inr (7, [.null, .null, .null, .null, .null, .null, .int 0, .int 0, .int 0]))] : va_W) := hD
  refine lv_aload_n hx hb dX7_init_0 rfl (lv_at hl 0 rfl) ?_
  refine W.objInit hx hb hown km_1 koi koc rfl (by rw [hml]; exact hl.1) rfl dX7_init_1 (Nat.le_of_ble_eq_true rfl) (Nat.le_of_ble_eq_true rfl) ?_
  refine W.eq (g2 := F0 m 4 ls []) rfl ?_
  refine lv_aload_n hx hb dX7_init_4 rfl (lv_at hl 0 rfl) ?_
  refine lv_iconst (v := (4 : Int32)) hx hb dX7_init_5 (by decide) ?_
  refine znewQ (N := 4) hx hb hown kc_9 hN.1 hK hP hD hS hA (by decide) (by decide) (by decide) (Nat.le_of_ble_eq_true rfl) (Nat.le_of_ble_eq_true rfl) dX7_init_6 (fun q6 H hP hD hS => ?_)
  replace hP : va_P D vwCl ([(x, .inr (7, [.null, .null, .null, .null, .null, .null, .int 0, .int 0, .int 0])), (q6, .inl (cO, 4, .inr (.inr (.inr (.inr (fun _ => none))))))] : va_W) H := hP
  replace hD : va_D A ([(x, .inr (7, [.null, .null, .null, .null, .null, .null, .int 0, .int 0, .int 0])), (q6, .inl (cO, 4, .inr (.inr (.inr (.inr (fun _ => none))))))] : va_W) := hD
  refine va_putF (D := D) (ci := 7) (v := .ref q6) (ty := .array (.object "Divisorwork$Row")) (C := RX7) (T := TX7) (N := 9) hx hb hts kwX7 tyX7 tyX7_ok nmX7 hown hK hP hD hS 0 rfl rfl 0 (by decide) kf_11 (fun _ h9 => h9) rfl hin rfl (by decide +kernel) rfl rfl (Nat.le_of_ble_eq_true rfl) dX7_init_9 (fun H locs hP hD hS => ?_)
  replace hP : va_P D vwCl ([(x, .inr (7, [.ref q6, .null, .null, .null, .null, .null, .int 0, .int 0, .int 0])), (q6, .inl (cO, 4, .inr (.inr (.inr (.inr (fun _ => none))))))] : va_W) H := hP
  replace hD : va_D A ([(x, .inr (7, [.ref q6, .null, .null, .null, .null, .null, .int 0, .int 0, .int 0])), (q6, .inl (cO, 4, .inr (.inr (.inr (.inr (fun _ => none))))))] : va_W) := hD
  refine lv_aload_n hx hb dX7_init_12 rfl (lv_at hl 0 rfl) ?_
  refine va_new (ci := 6) (fs := [.null]) (C := RX4) (T := TX4) (N := 1) hx hb hts kwX4 tyX4 tyX4_ok hown kc_9 kin_X4 kii_X4 hK hP hD hS hA rfl (fun j hj => by rcases (show j = 0 by omega) with rfl <;> rfl) (Nat.le_of_ble_eq_true rfl) (Nat.le_of_ble_eq_true rfl) dX7_init_13 (fun q13 H hP hD hS => ?_)
  replace hP : va_P D vwCl ([(x, .inr (7, [.ref q6, .null, .null, .null, .null, .null, .int 0, .int 0, .int 0])), (q6, .inl (cO, 4, .inr (.inr (.inr (.inr (fun _ => none)))))), (q13, .inr (6, [.null]))] : va_W) H := hP
  replace hD : va_D A ([(x, .inr (7, [.ref q6, .null, .null, .null, .null, .null, .int 0, .int 0, .int 0])), (q6, .inl (cO, 4, .inr (.inr (.inr (.inr (fun _ => none)))))), (q13, .inr (6, [.null]))] : va_W) := hD
  refine lv_dup hx hb dX7_init_16 rfl ?_
  have hPc := zsub (wn := ([(q13, .inr (6, [.null]))] : va_W)) hP [2] rfl
  have hDc := hD.sub (ws' := ([(q13, .inr (6, [.null]))] : va_W)) [2] (by decide) rfl
  refine zgoc (va_runIN (As := []) (rest := [.ref q13, .ref x]) ⟨hx, hb, hml, hown, hts⟩ (c_X4_init l D cJ cI cO cB q13  H.size) ⟨va_cnB 0 hts gX7_init_X4_init_n15 rfl rfl rfl hN.2.1 kii_X4 (by decide +kernel) ⟨Nat.le_of_ble_eq_true rfl, Nat.le_of_ble_eq_true rfl⟩, rfl, kim_X4_init⟩ (znpre hN hK hPc hDc [.ref q13]) rfl rfl hl.1 rfl (lv_room (Nat.le_of_ble_eq_true rfl)) dX7_init_17 ⟨Nat.le_of_ble_eq_true rfl, Nat.le_of_ble_eq_true rfl⟩) (va_free hD hS hA [2] rfl) (fun u => zjF (wr := ([(x, .inr (7, [.ref q6, .null, .null, .null, .null, .null, .int 0, .int 0, .int 0])), (q6, .inl (cO, 4, .inr (.inr (.inr (.inr (fun _ => none))))))] : va_W)) hP hD hS hA [2] [0, 1] rfl rfl (by decide) (by decide)) hS (fun u17 H locs hP hD hS => ?_)
  replace hP : va_P D vwCl ([(x, .inr (7, [.ref q6, .null, .null, .null, .null, .null, .int 0, .int 0, .int 0])), (q6, .inl (cO, 4, .inr (.inr (.inr (.inr (fun _ => none)))))), (q13, .inr (6, [.ref (u17 0)])), ((u17 0), .inl (cJ, 121, .inr (.inl (fun _ => 0))))] : va_W) H := hP
  replace hD : va_D A ([(x, .inr (7, [.ref q6, .null, .null, .null, .null, .null, .int 0, .int 0, .int 0])), (q6, .inl (cO, 4, .inr (.inr (.inr (.inr (fun _ => none)))))), (q13, .inr (6, [.ref (u17 0)])), ((u17 0), .inl (cJ, 121, .inr (.inl (fun _ => 0))))] : va_W) := hD
  refine va_putF (D := D) (ci := 7) (v := .ref q13) (ty := .object "Divisorwork$Row") (C := RX7) (T := TX7) (N := 9) hx hb hts kwX7 tyX7 tyX7_ok nmX7 hown hK hP hD hS 0 rfl rfl 1 (by decide) kf_16 (fun _ h9 => h9) rfl hin rfl (by decide +kernel) rfl rfl (Nat.le_of_ble_eq_true rfl) dX7_init_20 (fun H locs hP hD hS => ?_)
  replace hP : va_P D vwCl ([(x, .inr (7, [.ref q6, .ref q13, .null, .null, .null, .null, .int 0, .int 0, .int 0])), (q6, .inl (cO, 4, .inr (.inr (.inr (.inr (fun _ => none)))))), (q13, .inr (6, [.ref (u17 0)])), ((u17 0), .inl (cJ, 121, .inr (.inl (fun _ => 0))))] : va_W) H := hP
  replace hD : va_D A ([(x, .inr (7, [.ref q6, .ref q13, .null, .null, .null, .null, .int 0, .int 0, .int 0])), (q6, .inl (cO, 4, .inr (.inr (.inr (.inr (fun _ => none)))))), (q13, .inr (6, [.ref (u17 0)])), ((u17 0), .inl (cJ, 121, .inr (.inl (fun _ => 0))))] : va_W) := hD
  refine lv_aload_n hx hb dX7_init_23 rfl (lv_at hl 0 rfl) ?_
  refine va_new (ci := 6) (fs := [.null]) (C := RX4) (T := TX4) (N := 1) hx hb hts kwX4 tyX4 tyX4_ok hown kc_9 kin_X4 kii_X4 hK hP hD hS hA rfl (fun j hj => by rcases (show j = 0 by omega) with rfl <;> rfl) (Nat.le_of_ble_eq_true rfl) (Nat.le_of_ble_eq_true rfl) dX7_init_24 (fun q24 H hP hD hS => ?_)
  replace hP : va_P D vwCl ([(x, .inr (7, [.ref q6, .ref q13, .null, .null, .null, .null, .int 0, .int 0, .int 0])), (q6, .inl (cO, 4, .inr (.inr (.inr (.inr (fun _ => none)))))), (q13, .inr (6, [.ref (u17 0)])), ((u17 0), .inl (cJ, 121, .inr (.inl (fun _ => 0)))), (q24, .inr (6, [.null]))] : va_W) H := hP
  replace hD : va_D A ([(x, .inr (7, [.ref q6, .ref q13, .null, .null, .null, .null, .int 0, .int 0, .int 0])), (q6, .inl (cO, 4, .inr (.inr (.inr (.inr (fun _ => none)))))), (q13, .inr (6, [.ref (u17 0)])), ((u17 0), .inl (cJ, 121, .inr (.inl (fun _ => 0)))), (q24, .inr (6, [.null]))] : va_W) := hD
  refine lv_dup hx hb dX7_init_27 rfl ?_
  have hPc := zsub (wn := ([(q24, .inr (6, [.null]))] : va_W)) hP [4] rfl
  have hDc := hD.sub (ws' := ([(q24, .inr (6, [.null]))] : va_W)) [4] (by decide) rfl
  refine zgoc (va_runIN (As := []) (rest := [.ref q24, .ref x]) ⟨hx, hb, hml, hown, hts⟩ (c_X4_init l D cJ cI cO cB q24  H.size) ⟨va_cnB 0 hts gX7_init_X4_init_n15 rfl rfl rfl hN.2.1 kii_X4 (by decide +kernel) ⟨Nat.le_of_ble_eq_true rfl, Nat.le_of_ble_eq_true rfl⟩, rfl, kim_X4_init⟩ (znpre hN hK hPc hDc [.ref q24]) rfl rfl hl.1 rfl (lv_room (Nat.le_of_ble_eq_true rfl)) dX7_init_28 ⟨Nat.le_of_ble_eq_true rfl, Nat.le_of_ble_eq_true rfl⟩) (va_free hD hS hA [4] rfl) (fun u => zjF (wr := ([(x, .inr (7, [.ref q6, .ref q13, .null, .null, .null, .null, .int 0, .int 0, .int 0])), (q6, .inl (cO, 4, .inr (.inr (.inr (.inr (fun _ => none)))))), (q13, .inr (6, [.ref (u17 0)])), ((u17 0), .inl (cJ, 121, .inr (.inl (fun _ => 0))))] : va_W)) hP hD hS hA [4] [0, 1, 2, 3] rfl rfl (by decide) (by decide)) hS (fun u28 H locs hP hD hS => ?_)
  replace hP : va_P D vwCl ([(x, .inr (7, [.ref q6, .ref q13, .null, .null, .null, .null, .int 0, .int 0, .int 0])), (q6, .inl (cO, 4, .inr (.inr (.inr (.inr (fun _ => none)))))), (q13, .inr (6, [.ref (u17 0)])), ((u17 0), .inl (cJ, 121, .inr (.inl (fun _ => 0)))), (q24, .inr (6, [.ref (u28 0)])), ((u28 0), .inl (cJ, 121, .inr (.inl (fun _ => 0))))] : va_W) H := hP
  replace hD : va_D A ([(x, .inr (7, [.ref q6, .ref q13, .null, .null, .null, .null, .int 0, .int 0, .int 0])), (q6, .inl (cO, 4, .inr (.inr (.inr (.inr (fun _ => none)))))), (q13, .inr (6, [.ref (u17 0)])), ((u17 0), .inl (cJ, 121, .inr (.inl (fun _ => 0)))), (q24, .inr (6, [.ref (u28 0)])), ((u28 0), .inl (cJ, 121, .inr (.inl (fun _ => 0))))] : va_W) := hD
  refine va_putF (D := D) (ci := 7) (v := .ref q24) (ty := .object "Divisorwork$Row") (C := RX7) (T := TX7) (N := 9) hx hb hts kwX7 tyX7 tyX7_ok nmX7 hown hK hP hD hS 0 rfl rfl 2 (by decide) kf_20 (fun _ h9 => h9) rfl hin rfl (by decide +kernel) rfl rfl (Nat.le_of_ble_eq_true rfl) dX7_init_31 (fun H locs hP hD hS => ?_)
  replace hP : va_P D vwCl ([(x, .inr (7, [.ref q6, .ref q13, .ref q24, .null, .null, .null, .int 0, .int 0, .int 0])), (q6, .inl (cO, 4, .inr (.inr (.inr (.inr (fun _ => none)))))), (q13, .inr (6, [.ref (u17 0)])), ((u17 0), .inl (cJ, 121, .inr (.inl (fun _ => 0)))), (q24, .inr (6, [.ref (u28 0)])), ((u28 0), .inl (cJ, 121, .inr (.inl (fun _ => 0))))] : va_W) H := hP
  replace hD : va_D A ([(x, .inr (7, [.ref q6, .ref q13, .ref q24, .null, .null, .null, .int 0, .int 0, .int 0])), (q6, .inl (cO, 4, .inr (.inr (.inr (.inr (fun _ => none)))))), (q13, .inr (6, [.ref (u17 0)])), ((u17 0), .inl (cJ, 121, .inr (.inl (fun _ => 0)))), (q24, .inr (6, [.ref (u28 0)])), ((u28 0), .inl (cJ, 121, .inr (.inl (fun _ => 0))))] : va_W) := hD
  refine lv_aload_n hx hb dX7_init_34 rfl (lv_at hl 0 rfl) ?_
  refine va_new (ci := 5) (fs := [.int 0]) (C := RX3) (T := TX3) (N := 1) hx hb hts kwX3 tyX3 tyX3_ok hown kc_23 kin_X3 kii_X3 hK hP hD hS hA rfl (fun j hj => by rcases (show j = 0 by omega) with rfl <;> rfl) (Nat.le_of_ble_eq_true rfl) (Nat.le_of_ble_eq_true rfl) dX7_init_35 (fun q35 H hP hD hS => ?_)
  replace hP : va_P D vwCl ([(x, .inr (7, [.ref q6, .ref q13, .ref q24, .null, .null, .null, .int 0, .int 0, .int 0])), (q6, .inl (cO, 4, .inr (.inr (.inr (.inr (fun _ => none)))))), (q13, .inr (6, [.ref (u17 0)])), ((u17 0), .inl (cJ, 121, .inr (.inl (fun _ => 0)))), (q24, .inr (6, [.ref (u28 0)])), ((u28 0), .inl (cJ, 121, .inr (.inl (fun _ => 0)))), (q35, .inr (5, [.int 0]))] : va_W) H := hP
  replace hD : va_D A ([(x, .inr (7, [.ref q6, .ref q13, .ref q24, .null, .null, .null, .int 0, .int 0, .int 0])), (q6, .inl (cO, 4, .inr (.inr (.inr (.inr (fun _ => none)))))), (q13, .inr (6, [.ref (u17 0)])), ((u17 0), .inl (cJ, 121, .inr (.inl (fun _ => 0)))), (q24, .inr (6, [.ref (u28 0)])), ((u28 0), .inl (cJ, 121, .inr (.inl (fun _ => 0)))), (q35, .inr (5, [.int 0]))] : va_W) := hD
  refine lv_dup hx hb dX7_init_38 rfl ?_
  have hPc := zsub (wn := ([(q35, .inr (5, [.int 0]))] : va_W)) hP [6] rfl
  have hDc := hD.sub (ws' := ([(q35, .inr (5, [.int 0]))] : va_W)) [6] (by decide) rfl
  refine zgoc (va_runIN (As := []) (rest := [.ref q35, .ref x]) ⟨hx, hb, hml, hown, hts⟩ (c_X3_init l D cJ cI cO cB q35  H.size) ⟨va_cnB 0 hts gX7_init_X3_init_n25 rfl rfl rfl hN.2.2.1 kii_X3 (by decide +kernel) ⟨Nat.le_of_ble_eq_true rfl, Nat.le_of_ble_eq_true rfl⟩, rfl, kim_X3_init⟩ (znpre hN hK hPc hDc [.ref q35]) rfl rfl hl.1 rfl (lv_room (Nat.le_of_ble_eq_true rfl)) dX7_init_39 ⟨Nat.le_of_ble_eq_true rfl, Nat.le_of_ble_eq_true rfl⟩) (va_free hD hS hA [6] rfl) (fun u => zjF (wr := ([(x, .inr (7, [.ref q6, .ref q13, .ref q24, .null, .null, .null, .int 0, .int 0, .int 0])), (q6, .inl (cO, 4, .inr (.inr (.inr (.inr (fun _ => none)))))), (q13, .inr (6, [.ref (u17 0)])), ((u17 0), .inl (cJ, 121, .inr (.inl (fun _ => 0)))), (q24, .inr (6, [.ref (u28 0)])), ((u28 0), .inl (cJ, 121, .inr (.inl (fun _ => 0))))] : va_W)) hP hD hS hA [6] [0, 1, 2, 3, 4, 5] rfl rfl (by decide) (by decide)) hS (fun u39 H locs hP hD hS => ?_)
  replace hP : va_P D vwCl ([(x, .inr (7, [.ref q6, .ref q13, .ref q24, .null, .null, .null, .int 0, .int 0, .int 0])), (q6, .inl (cO, 4, .inr (.inr (.inr (.inr (fun _ => none)))))), (q13, .inr (6, [.ref (u17 0)])), ((u17 0), .inl (cJ, 121, .inr (.inl (fun _ => 0)))), (q24, .inr (6, [.ref (u28 0)])), ((u28 0), .inl (cJ, 121, .inr (.inl (fun _ => 0)))), (q35, .inr (5, [.int 0]))] : va_W) H := hP
  replace hD : va_D A ([(x, .inr (7, [.ref q6, .ref q13, .ref q24, .null, .null, .null, .int 0, .int 0, .int 0])), (q6, .inl (cO, 4, .inr (.inr (.inr (.inr (fun _ => none)))))), (q13, .inr (6, [.ref (u17 0)])), ((u17 0), .inl (cJ, 121, .inr (.inl (fun _ => 0)))), (q24, .inr (6, [.ref (u28 0)])), ((u28 0), .inl (cJ, 121, .inr (.inl (fun _ => 0)))), (q35, .inr (5, [.int 0]))] : va_W) := hD
  refine va_putF (D := D) (ci := 7) (v := .ref q35) (ty := .object "Divisorwork$Reckoning") (C := RX7) (T := TX7) (N := 9) hx hb hts kwX7 tyX7 tyX7_ok nmX7 hown hK hP hD hS 0 rfl rfl 3 (by decide) kf_26 (fun _ h9 => h9) rfl hin rfl (by decide +kernel) rfl rfl (Nat.le_of_ble_eq_true rfl) dX7_init_42 (fun H locs hP hD hS => ?_)
  replace hP : va_P D vwCl ([(x, .inr (7, [.ref q6, .ref q13, .ref q24, .ref q35, .null, .null, .int 0, .int 0, .int 0])), (q6, .inl (cO, 4, .inr (.inr (.inr (.inr (fun _ => none)))))), (q13, .inr (6, [.ref (u17 0)])), ((u17 0), .inl (cJ, 121, .inr (.inl (fun _ => 0)))), (q24, .inr (6, [.ref (u28 0)])), ((u28 0), .inl (cJ, 121, .inr (.inl (fun _ => 0)))), (q35, .inr (5, [.int 0]))] : va_W) H := hP
  replace hD : va_D A ([(x, .inr (7, [.ref q6, .ref q13, .ref q24, .ref q35, .null, .null, .int 0, .int 0, .int 0])), (q6, .inl (cO, 4, .inr (.inr (.inr (.inr (fun _ => none)))))), (q13, .inr (6, [.ref (u17 0)])), ((u17 0), .inl (cJ, 121, .inr (.inl (fun _ => 0)))), (q24, .inr (6, [.ref (u28 0)])), ((u28 0), .inl (cJ, 121, .inr (.inl (fun _ => 0)))), (q35, .inr (5, [.int 0]))] : va_W) := hD
  refine lv_aload_n hx hb dX7_init_45 rfl (lv_at hl 0 rfl) ?_
  refine va_new (ci := 3) (fs := [.null, .null]) (C := RX1) (T := TX1) (N := 2) hx hb hts kwX1 tyX1 tyX1_ok hown kc_30 kin_X1 kii_X1 hK hP hD hS hA rfl (fun j hj => by rcases (show j = 0 ∨ j = 1 by omega) with rfl | rfl <;> rfl) (Nat.le_of_ble_eq_true rfl) (Nat.le_of_ble_eq_true rfl) dX7_init_46 (fun q46 H hP hD hS => ?_)
  replace hP : va_P D vwCl ([(x, .inr (7, [.ref q6, .ref q13, .ref q24, .ref q35, .null, .null, .int 0, .int 0, .int 0])), (q6, .inl (cO, 4, .inr (.inr (.inr (.inr (fun _ => none)))))), (q13, .inr (6, [.ref (u17 0)])), ((u17 0), .inl (cJ, 121, .inr (.inl (fun _ => 0)))), (q24, .inr (6, [.ref (u28 0)])), ((u28 0), .inl (cJ, 121, .inr (.inl (fun _ => 0)))), (q35, .inr (5, [.int 0])), (q46, .inr (3, [.null, .null]))] : va_W) H := hP
  replace hD : va_D A ([(x, .inr (7, [.ref q6, .ref q13, .ref q24, .ref q35, .null, .null, .int 0, .int 0, .int 0])), (q6, .inl (cO, 4, .inr (.inr (.inr (.inr (fun _ => none)))))), (q13, .inr (6, [.ref (u17 0)])), ((u17 0), .inl (cJ, 121, .inr (.inl (fun _ => 0)))), (q24, .inr (6, [.ref (u28 0)])), ((u28 0), .inl (cJ, 121, .inr (.inl (fun _ => 0)))), (q35, .inr (5, [.int 0])), (q46, .inr (3, [.null, .null]))] : va_W) := hD
  refine lv_dup hx hb dX7_init_49 rfl ?_
  have hPc := zsub (wn := ([(q46, .inr (3, [.null, .null]))] : va_W)) hP [7] rfl
  have hDc := hD.sub (ws' := ([(q46, .inr (3, [.null, .null]))] : va_W)) [7] (by decide) rfl
  refine zgoc (va_runIN (As := []) (rest := [.ref q46, .ref x]) ⟨hx, hb, hml, hown, hts⟩ (c_X1_init l D cJ cI cO cB q46  H.size) ⟨va_cnB 0 hts gX7_init_X1_init_n32 rfl rfl rfl hN.2.2.2.1 kii_X1 (by decide +kernel) ⟨Nat.le_of_ble_eq_true rfl, Nat.le_of_ble_eq_true rfl⟩, rfl, kim_X1_init⟩ (znpre hN hK hPc hDc [.ref q46]) rfl rfl hl.1 rfl (lv_room (Nat.le_of_ble_eq_true rfl)) dX7_init_50 ⟨Nat.le_of_ble_eq_true rfl, Nat.le_of_ble_eq_true rfl⟩) (va_free hD hS hA [7] rfl) (fun u => zjF (wr := ([(x, .inr (7, [.ref q6, .ref q13, .ref q24, .ref q35, .null, .null, .int 0, .int 0, .int 0])), (q6, .inl (cO, 4, .inr (.inr (.inr (.inr (fun _ => none)))))), (q13, .inr (6, [.ref (u17 0)])), ((u17 0), .inl (cJ, 121, .inr (.inl (fun _ => 0)))), (q24, .inr (6, [.ref (u28 0)])), ((u28 0), .inl (cJ, 121, .inr (.inl (fun _ => 0)))), (q35, .inr (5, [.int 0]))] : va_W)) hP hD hS hA [7] [0, 1, 2, 3, 4, 5, 6] rfl rfl (by decide) (by decide)) hS (fun u50 H locs hP hD hS => ?_)
  replace hP : va_P D vwCl ([(x, .inr (7, [.ref q6, .ref q13, .ref q24, .ref q35, .null, .null, .int 0, .int 0, .int 0])), (q6, .inl (cO, 4, .inr (.inr (.inr (.inr (fun _ => none)))))), (q13, .inr (6, [.ref (u17 0)])), ((u17 0), .inl (cJ, 121, .inr (.inl (fun _ => 0)))), (q24, .inr (6, [.ref (u28 0)])), ((u28 0), .inl (cJ, 121, .inr (.inl (fun _ => 0)))), (q35, .inr (5, [.int 0])), (q46, .inr (3, [.ref (u50 0), .ref (u50 3)])), ((u50 0), .inr (4, [.ref (u50 1), .ref (u50 2), .int 0])), ((u50 1), .inl (cI, 4, .inl (fun _ => 0))), ((u50 2), .inl (cI, 4, .inl (fun _ => 0))), ((u50 3), .inl (cI, 1000, .inl (fun _ => 0)))] : va_W) H := hP
  replace hD : va_D A ([(x, .inr (7, [.ref q6, .ref q13, .ref q24, .ref q35, .null, .null, .int 0, .int 0, .int 0])), (q6, .inl (cO, 4, .inr (.inr (.inr (.inr (fun _ => none)))))), (q13, .inr (6, [.ref (u17 0)])), ((u17 0), .inl (cJ, 121, .inr (.inl (fun _ => 0)))), (q24, .inr (6, [.ref (u28 0)])), ((u28 0), .inl (cJ, 121, .inr (.inl (fun _ => 0)))), (q35, .inr (5, [.int 0])), (q46, .inr (3, [.ref (u50 0), .ref (u50 3)])), ((u50 0), .inr (4, [.ref (u50 1), .ref (u50 2), .int 0])), ((u50 1), .inl (cI, 4, .inl (fun _ => 0))), ((u50 2), .inl (cI, 4, .inl (fun _ => 0))), ((u50 3), .inl (cI, 1000, .inl (fun _ => 0)))] : va_W) := hD
  refine va_putF (D := D) (ci := 7) (v := .ref q46) (ty := .object "Divisorwork$Numbers") (C := RX7) (T := TX7) (N := 9) hx hb hts kwX7 tyX7 tyX7_ok nmX7 hown hK hP hD hS 0 rfl rfl 4 (by decide) kf_33 (fun _ h9 => h9) rfl hin rfl (by decide +kernel) rfl rfl (Nat.le_of_ble_eq_true rfl) dX7_init_53 (fun H locs hP hD hS => ?_)
  replace hP : va_P D vwCl ([(x, .inr (7, [.ref q6, .ref q13, .ref q24, .ref q35, .ref q46, .null, .int 0, .int 0, .int 0])), (q6, .inl (cO, 4, .inr (.inr (.inr (.inr (fun _ => none)))))), (q13, .inr (6, [.ref (u17 0)])), ((u17 0), .inl (cJ, 121, .inr (.inl (fun _ => 0)))), (q24, .inr (6, [.ref (u28 0)])), ((u28 0), .inl (cJ, 121, .inr (.inl (fun _ => 0)))), (q35, .inr (5, [.int 0])), (q46, .inr (3, [.ref (u50 0), .ref (u50 3)])), ((u50 0), .inr (4, [.ref (u50 1), .ref (u50 2), .int 0])), ((u50 1), .inl (cI, 4, .inl (fun _ => 0))), ((u50 2), .inl (cI, 4, .inl (fun _ => 0))), ((u50 3), .inl (cI, 1000, .inl (fun _ => 0)))] : va_W) H := hP
  replace hD : va_D A ([(x, .inr (7, [.ref q6, .ref q13, .ref q24, .ref q35, .ref q46, .null, .int 0, .int 0, .int 0])), (q6, .inl (cO, 4, .inr (.inr (.inr (.inr (fun _ => none)))))), (q13, .inr (6, [.ref (u17 0)])), ((u17 0), .inl (cJ, 121, .inr (.inl (fun _ => 0)))), (q24, .inr (6, [.ref (u28 0)])), ((u28 0), .inl (cJ, 121, .inr (.inl (fun _ => 0)))), (q35, .inr (5, [.int 0])), (q46, .inr (3, [.ref (u50 0), .ref (u50 3)])), ((u50 0), .inr (4, [.ref (u50 1), .ref (u50 2), .int 0])), ((u50 1), .inl (cI, 4, .inl (fun _ => 0))), ((u50 2), .inl (cI, 4, .inl (fun _ => 0))), ((u50 3), .inl (cI, 1000, .inl (fun _ => 0)))] : va_W) := hD
  refine lv_aload_n hx hb dX7_init_56 rfl (lv_at hl 0 rfl) ?_
  refine va_new (ci := 2) (fs := [.null, .null]) (C := RX0) (T := TX0) (N := 2) hx hb hts kwX0 tyX0 tyX0_ok hown kc_37 kin_X0 kii_X0 hK hP hD hS hA rfl (fun j hj => by rcases (show j = 0 ∨ j = 1 by omega) with rfl | rfl <;> rfl) (Nat.le_of_ble_eq_true rfl) (Nat.le_of_ble_eq_true rfl) dX7_init_57 (fun q57 H hP hD hS => ?_)
  replace hP : va_P D vwCl ([(x, .inr (7, [.ref q6, .ref q13, .ref q24, .ref q35, .ref q46, .null, .int 0, .int 0, .int 0])), (q6, .inl (cO, 4, .inr (.inr (.inr (.inr (fun _ => none)))))), (q13, .inr (6, [.ref (u17 0)])), ((u17 0), .inl (cJ, 121, .inr (.inl (fun _ => 0)))), (q24, .inr (6, [.ref (u28 0)])), ((u28 0), .inl (cJ, 121, .inr (.inl (fun _ => 0)))), (q35, .inr (5, [.int 0])), (q46, .inr (3, [.ref (u50 0), .ref (u50 3)])), ((u50 0), .inr (4, [.ref (u50 1), .ref (u50 2), .int 0])), ((u50 1), .inl (cI, 4, .inl (fun _ => 0))), ((u50 2), .inl (cI, 4, .inl (fun _ => 0))), ((u50 3), .inl (cI, 1000, .inl (fun _ => 0))), (q57, .inr (2, [.null, .null]))] : va_W) H := hP
  replace hD : va_D A ([(x, .inr (7, [.ref q6, .ref q13, .ref q24, .ref q35, .ref q46, .null, .int 0, .int 0, .int 0])), (q6, .inl (cO, 4, .inr (.inr (.inr (.inr (fun _ => none)))))), (q13, .inr (6, [.ref (u17 0)])), ((u17 0), .inl (cJ, 121, .inr (.inl (fun _ => 0)))), (q24, .inr (6, [.ref (u28 0)])), ((u28 0), .inl (cJ, 121, .inr (.inl (fun _ => 0)))), (q35, .inr (5, [.int 0])), (q46, .inr (3, [.ref (u50 0), .ref (u50 3)])), ((u50 0), .inr (4, [.ref (u50 1), .ref (u50 2), .int 0])), ((u50 1), .inl (cI, 4, .inl (fun _ => 0))), ((u50 2), .inl (cI, 4, .inl (fun _ => 0))), ((u50 3), .inl (cI, 1000, .inl (fun _ => 0))), (q57, .inr (2, [.null, .null]))] : va_W) := hD
  refine lv_dup hx hb dX7_init_60 rfl ?_
  refine lv_aload_n hx hb dX7_init_61 rfl (lv_at hl 0 rfl) ?_
  refine va_get (D := D) (ci := 7) (v := .ref q35) (C := RX7) (T := TX7) (N := 9) hx hb hts kwX7 hown hK hP 0 rfl rfl 3 (by decide) kf_26 (fun _ h9 => h9) rfl dX7_init_62 ?_
  refine lv_aload_n hx hb dX7_init_65 rfl (lv_at hl 0 rfl) ?_
  refine va_get (D := D) (ci := 7) (v := .ref q46) (C := RX7) (T := TX7) (N := 9) hx hb hts kwX7 hown hK hP 0 rfl rfl 4 (by decide) kf_33 (fun _ h9 => h9) rfl dX7_init_66 ?_
  have hPc := zsub (wn := ([(q57, .inr (2, [.null, .null]))] : va_W)) hP [12] rfl
  have hDc := hD.sub (ws' := ([(q57, .inr (2, [.null, .null]))] : va_W)) [12] (by decide) rfl
  refine zgoc (va_runI (As := [.ref q35, .ref q46]) (rest := [.ref q57, .ref x]) ⟨hx, hb, hml, hown, hts⟩ (c_X0_init l D cJ cI cO cB q57 q35 q46 H.size) (cwI 2 hts gX7_init_X0_init rfl rfl rfl kii_X0 km_39 kim_X0_init rfl (by decide +kernel) ⟨Nat.le_of_ble_eq_true rfl, Nat.le_of_ble_eq_true rfl⟩) (znpre hN hK hPc hDc [.ref q57, .ref q35, .ref q46]) rfl rfl hl.1 rfl (lv_room (Nat.le_of_ble_eq_true rfl)) dX7_init_69 ⟨Nat.le_of_ble_eq_true rfl, Nat.le_of_ble_eq_true rfl⟩) (va_free hD hS hA [12] rfl) (fun u => zjF (wr := ([(x, .inr (7, [.ref q6, .ref q13, .ref q24, .ref q35, .ref q46, .null, .int 0, .int 0, .int 0])), (q6, .inl (cO, 4, .inr (.inr (.inr (.inr (fun _ => none)))))), (q13, .inr (6, [.ref (u17 0)])), ((u17 0), .inl (cJ, 121, .inr (.inl (fun _ => 0)))), (q24, .inr (6, [.ref (u28 0)])), ((u28 0), .inl (cJ, 121, .inr (.inl (fun _ => 0)))), (q35, .inr (5, [.int 0])), (q46, .inr (3, [.ref (u50 0), .ref (u50 3)])), ((u50 0), .inr (4, [.ref (u50 1), .ref (u50 2), .int 0])), ((u50 1), .inl (cI, 4, .inl (fun _ => 0))), ((u50 2), .inl (cI, 4, .inl (fun _ => 0))), ((u50 3), .inl (cI, 1000, .inl (fun _ => 0)))] : va_W)) hP hD hS hA [12] [0, 1, 2, 3, 4, 5, 6, 7, 8, 9, 10, 11] rfl rfl (by decide) (by decide)) hS (fun u69 H locs hP hD hS => ?_)
  replace hP : va_P D vwCl ([(x, .inr (7, [.ref q6, .ref q13, .ref q24, .ref q35, .ref q46, .null, .int 0, .int 0, .int 0])), (q6, .inl (cO, 4, .inr (.inr (.inr (.inr (fun _ => none)))))), (q13, .inr (6, [.ref (u17 0)])), ((u17 0), .inl (cJ, 121, .inr (.inl (fun _ => 0)))), (q24, .inr (6, [.ref (u28 0)])), ((u28 0), .inl (cJ, 121, .inr (.inl (fun _ => 0)))), (q35, .inr (5, [.int 0])), (q46, .inr (3, [.ref (u50 0), .ref (u50 3)])), ((u50 0), .inr (4, [.ref (u50 1), .ref (u50 2), .int 0])), ((u50 1), .inl (cI, 4, .inl (fun _ => 0))), ((u50 2), .inl (cI, 4, .inl (fun _ => 0))), ((u50 3), .inl (cI, 1000, .inl (fun _ => 0))), (q57, .inr (2, [.ref q35, .ref q46]))] : va_W) H := hP
  replace hD : va_D A ([(x, .inr (7, [.ref q6, .ref q13, .ref q24, .ref q35, .ref q46, .null, .int 0, .int 0, .int 0])), (q6, .inl (cO, 4, .inr (.inr (.inr (.inr (fun _ => none)))))), (q13, .inr (6, [.ref (u17 0)])), ((u17 0), .inl (cJ, 121, .inr (.inl (fun _ => 0)))), (q24, .inr (6, [.ref (u28 0)])), ((u28 0), .inl (cJ, 121, .inr (.inl (fun _ => 0)))), (q35, .inr (5, [.int 0])), (q46, .inr (3, [.ref (u50 0), .ref (u50 3)])), ((u50 0), .inr (4, [.ref (u50 1), .ref (u50 2), .int 0])), ((u50 1), .inl (cI, 4, .inl (fun _ => 0))), ((u50 2), .inl (cI, 4, .inl (fun _ => 0))), ((u50 3), .inl (cI, 1000, .inl (fun _ => 0))), (q57, .inr (2, [.ref q35, .ref q46]))] : va_W) := hD
  refine va_putF (D := D) (ci := 7) (v := .ref q57) (ty := .object "Divisorwork$Maker") (C := RX7) (T := TX7) (N := 9) hx hb hts kwX7 tyX7 tyX7_ok nmX7 hown hK hP hD hS 0 rfl rfl 5 (by decide) kf_42 (fun _ h9 => h9) rfl hin rfl (by decide +kernel) rfl rfl (Nat.le_of_ble_eq_true rfl) dX7_init_72 (fun H locs hP hD hS => ?_)
  replace hP : va_P D vwCl ([(x, .inr (7, [.ref q6, .ref q13, .ref q24, .ref q35, .ref q46, .ref q57, .int 0, .int 0, .int 0])), (q6, .inl (cO, 4, .inr (.inr (.inr (.inr (fun _ => none)))))), (q13, .inr (6, [.ref (u17 0)])), ((u17 0), .inl (cJ, 121, .inr (.inl (fun _ => 0)))), (q24, .inr (6, [.ref (u28 0)])), ((u28 0), .inl (cJ, 121, .inr (.inl (fun _ => 0)))), (q35, .inr (5, [.int 0])), (q46, .inr (3, [.ref (u50 0), .ref (u50 3)])), ((u50 0), .inr (4, [.ref (u50 1), .ref (u50 2), .int 0])), ((u50 1), .inl (cI, 4, .inl (fun _ => 0))), ((u50 2), .inl (cI, 4, .inl (fun _ => 0))), ((u50 3), .inl (cI, 1000, .inl (fun _ => 0))), (q57, .inr (2, [.ref q35, .ref q46]))] : va_W) H := hP
  replace hD : va_D A ([(x, .inr (7, [.ref q6, .ref q13, .ref q24, .ref q35, .ref q46, .ref q57, .int 0, .int 0, .int 0])), (q6, .inl (cO, 4, .inr (.inr (.inr (.inr (fun _ => none)))))), (q13, .inr (6, [.ref (u17 0)])), ((u17 0), .inl (cJ, 121, .inr (.inl (fun _ => 0)))), (q24, .inr (6, [.ref (u28 0)])), ((u28 0), .inl (cJ, 121, .inr (.inl (fun _ => 0)))), (q35, .inr (5, [.int 0])), (q46, .inr (3, [.ref (u50 0), .ref (u50 3)])), ((u50 0), .inr (4, [.ref (u50 1), .ref (u50 2), .int 0])), ((u50 1), .inl (cI, 4, .inl (fun _ => 0))), ((u50 2), .inl (cI, 4, .inl (fun _ => 0))), ((u50 3), .inl (cI, 1000, .inl (fun _ => 0))), (q57, .inr (2, [.ref q35, .ref q46]))] : va_W) := hD
  refine lv_iconst (v := (0 : Int32)) hx hb dX7_init_75 (by decide) ?_
  refine lv_istore_n (lv' := [(1, .int (0 : Int32)), (0, .ref x)]) hx hb dX7_init_76 rfl hl (by decide) rfl (fun ls hl => ?_)
  refine lv_iload_n hx hb dX7_init_77 rfl (lv_at hl 0 rfl) ?_
  refine lv_iconst (v := (4 : Int32)) hx hb dX7_init_78 (by decide) ?_
  refine lv_icmp_ge (tgt := 101) hx hb dX7_init_79 (by decide) (fun c => absurd c (by decide)) (fun _ => ?_)
  refine lv_aload_n hx hb dX7_init_82 rfl (lv_at hl 1 rfl) ?_
  refine va_get (D := D) (ci := 7) (v := .ref q6) (C := RX7) (T := TX7) (N := 9) hx hb hts kwX7 hown hK hP 0 rfl rfl 0 (by decide) kf_11 (fun _ h9 => h9) rfl dX7_init_83 ?_
  refine lv_iload_n hx hb dX7_init_86 rfl (lv_at hl 0 rfl) ?_
  refine va_new (ci := 6) (fs := [.null]) (C := RX4) (T := TX4) (N := 1) hx hb hts kwX4 tyX4 tyX4_ok hown kc_9 kin_X4 kii_X4 hK hP hD hS hA rfl (fun j hj => by rcases (show j = 0 by omega) with rfl <;> rfl) (Nat.le_of_ble_eq_true rfl) (Nat.le_of_ble_eq_true rfl) dX7_init_87 (fun q87 H hP hD hS => ?_)
  replace hP : va_P D vwCl ([(x, .inr (7, [.ref q6, .ref q13, .ref q24, .ref q35, .ref q46, .ref q57, .int 0, .int 0, .int 0])), (q6, .inl (cO, 4, .inr (.inr (.inr (.inr (fun _ => none)))))), (q13, .inr (6, [.ref (u17 0)])), ((u17 0), .inl (cJ, 121, .inr (.inl (fun _ => 0)))), (q24, .inr (6, [.ref (u28 0)])), ((u28 0), .inl (cJ, 121, .inr (.inl (fun _ => 0)))), (q35, .inr (5, [.int 0])), (q46, .inr (3, [.ref (u50 0), .ref (u50 3)])), ((u50 0), .inr (4, [.ref (u50 1), .ref (u50 2), .int 0])), ((u50 1), .inl (cI, 4, .inl (fun _ => 0))), ((u50 2), .inl (cI, 4, .inl (fun _ => 0))), ((u50 3), .inl (cI, 1000, .inl (fun _ => 0))), (q57, .inr (2, [.ref q35, .ref q46])), (q87, .inr (6, [.null]))] : va_W) H := hP
  replace hD : va_D A ([(x, .inr (7, [.ref q6, .ref q13, .ref q24, .ref q35, .ref q46, .ref q57, .int 0, .int 0, .int 0])), (q6, .inl (cO, 4, .inr (.inr (.inr (.inr (fun _ => none)))))), (q13, .inr (6, [.ref (u17 0)])), ((u17 0), .inl (cJ, 121, .inr (.inl (fun _ => 0)))), (q24, .inr (6, [.ref (u28 0)])), ((u28 0), .inl (cJ, 121, .inr (.inl (fun _ => 0)))), (q35, .inr (5, [.int 0])), (q46, .inr (3, [.ref (u50 0), .ref (u50 3)])), ((u50 0), .inr (4, [.ref (u50 1), .ref (u50 2), .int 0])), ((u50 1), .inl (cI, 4, .inl (fun _ => 0))), ((u50 2), .inl (cI, 4, .inl (fun _ => 0))), ((u50 3), .inl (cI, 1000, .inl (fun _ => 0))), (q57, .inr (2, [.ref q35, .ref q46])), (q87, .inr (6, [.null]))] : va_W) := hD
  refine lv_dup hx hb dX7_init_90 rfl ?_
  have hPc := zsub (wn := ([(q87, .inr (6, [.null]))] : va_W)) hP [13] rfl
  have hDc := hD.sub (ws' := ([(q87, .inr (6, [.null]))] : va_W)) [13] (by decide) rfl
  refine zgoc (va_runIN (As := []) (rest := [.ref q87, .int (0 : Int32), .ref q6]) ⟨hx, hb, hml, hown, hts⟩ (c_X4_init l D cJ cI cO cB q87  H.size) ⟨va_cnB 0 hts gX7_init_X4_init_n15 rfl rfl rfl hN.2.1 kii_X4 (by decide +kernel) ⟨Nat.le_of_ble_eq_true rfl, Nat.le_of_ble_eq_true rfl⟩, rfl, kim_X4_init⟩ (znpre hN hK hPc hDc [.ref q87]) rfl rfl hl.1 rfl (lv_room (Nat.le_of_ble_eq_true rfl)) dX7_init_91 ⟨Nat.le_of_ble_eq_true rfl, Nat.le_of_ble_eq_true rfl⟩) (va_free hD hS hA [13] rfl) (fun u => zjF (wr := ([(x, .inr (7, [.ref q6, .ref q13, .ref q24, .ref q35, .ref q46, .ref q57, .int 0, .int 0, .int 0])), (q6, .inl (cO, 4, .inr (.inr (.inr (.inr (fun _ => none)))))), (q13, .inr (6, [.ref (u17 0)])), ((u17 0), .inl (cJ, 121, .inr (.inl (fun _ => 0)))), (q24, .inr (6, [.ref (u28 0)])), ((u28 0), .inl (cJ, 121, .inr (.inl (fun _ => 0)))), (q35, .inr (5, [.int 0])), (q46, .inr (3, [.ref (u50 0), .ref (u50 3)])), ((u50 0), .inr (4, [.ref (u50 1), .ref (u50 2), .int 0])), ((u50 1), .inl (cI, 4, .inl (fun _ => 0))), ((u50 2), .inl (cI, 4, .inl (fun _ => 0))), ((u50 3), .inl (cI, 1000, .inl (fun _ => 0))), (q57, .inr (2, [.ref q35, .ref q46]))] : va_W)) hP hD hS hA [13] [0, 1, 2, 3, 4, 5, 6, 7, 8, 9, 10, 11, 12] rfl rfl (by decide) (by decide)) hS (fun u91 H locs hP hD hS => ?_)
  replace hP : va_P D vwCl ([(x, .inr (7, [.ref q6, .ref q13, .ref q24, .ref q35, .ref q46, .ref q57, .int 0, .int 0, .int 0])), (q6, .inl (cO, 4, .inr (.inr (.inr (.inr (fun _ => none)))))), (q13, .inr (6, [.ref (u17 0)])), ((u17 0), .inl (cJ, 121, .inr (.inl (fun _ => 0)))), (q24, .inr (6, [.ref (u28 0)])), ((u28 0), .inl (cJ, 121, .inr (.inl (fun _ => 0)))), (q35, .inr (5, [.int 0])), (q46, .inr (3, [.ref (u50 0), .ref (u50 3)])), ((u50 0), .inr (4, [.ref (u50 1), .ref (u50 2), .int 0])), ((u50 1), .inl (cI, 4, .inl (fun _ => 0))), ((u50 2), .inl (cI, 4, .inl (fun _ => 0))), ((u50 3), .inl (cI, 1000, .inl (fun _ => 0))), (q57, .inr (2, [.ref q35, .ref q46])), (q87, .inr (6, [.ref (u91 0)])), ((u91 0), .inl (cJ, 121, .inr (.inl (fun _ => 0))))] : va_W) H := hP
  replace hD : va_D A ([(x, .inr (7, [.ref q6, .ref q13, .ref q24, .ref q35, .ref q46, .ref q57, .int 0, .int 0, .int 0])), (q6, .inl (cO, 4, .inr (.inr (.inr (.inr (fun _ => none)))))), (q13, .inr (6, [.ref (u17 0)])), ((u17 0), .inl (cJ, 121, .inr (.inl (fun _ => 0)))), (q24, .inr (6, [.ref (u28 0)])), ((u28 0), .inl (cJ, 121, .inr (.inl (fun _ => 0)))), (q35, .inr (5, [.int 0])), (q46, .inr (3, [.ref (u50 0), .ref (u50 3)])), ((u50 0), .inr (4, [.ref (u50 1), .ref (u50 2), .int 0])), ((u50 1), .inl (cI, 4, .inl (fun _ => 0))), ((u50 2), .inl (cI, 4, .inl (fun _ => 0))), ((u50 3), .inl (cI, 1000, .inl (fun _ => 0))), (q57, .inr (2, [.ref q35, .ref q46])), (q87, .inr (6, [.ref (u91 0)])), ((u91 0), .inl (cJ, 121, .inr (.inl (fun _ => 0))))] : va_W) := hD
  refine va_astq hx hb hK hP hD hS 1 2 13 6 rfl rfl rfl rfl (zinc (by decide)) dX7_init_94 (fun H locs hP hD hS => ?_)
  replace hP : va_P D vwCl ([(x, .inr (7, [.ref q6, .ref q13, .ref q24, .ref q35, .ref q46, .ref q57, .int 0, .int 0, .int 0])), (q6, .inl (cO, 4, .inr (.inr (.inr (.inr (va_up (fun _ => none) 0 (some q87))))))), (q13, .inr (6, [.ref (u17 0)])), ((u17 0), .inl (cJ, 121, .inr (.inl (fun _ => 0)))), (q24, .inr (6, [.ref (u28 0)])), ((u28 0), .inl (cJ, 121, .inr (.inl (fun _ => 0)))), (q35, .inr (5, [.int 0])), (q46, .inr (3, [.ref (u50 0), .ref (u50 3)])), ((u50 0), .inr (4, [.ref (u50 1), .ref (u50 2), .int 0])), ((u50 1), .inl (cI, 4, .inl (fun _ => 0))), ((u50 2), .inl (cI, 4, .inl (fun _ => 0))), ((u50 3), .inl (cI, 1000, .inl (fun _ => 0))), (q57, .inr (2, [.ref q35, .ref q46])), (q87, .inr (6, [.ref (u91 0)])), ((u91 0), .inl (cJ, 121, .inr (.inl (fun _ => 0))))] : va_W) H := hP
  replace hD : va_D A ([(x, .inr (7, [.ref q6, .ref q13, .ref q24, .ref q35, .ref q46, .ref q57, .int 0, .int 0, .int 0])), (q6, .inl (cO, 4, .inr (.inr (.inr (.inr (va_up (fun _ => none) 0 (some q87))))))), (q13, .inr (6, [.ref (u17 0)])), ((u17 0), .inl (cJ, 121, .inr (.inl (fun _ => 0)))), (q24, .inr (6, [.ref (u28 0)])), ((u28 0), .inl (cJ, 121, .inr (.inl (fun _ => 0)))), (q35, .inr (5, [.int 0])), (q46, .inr (3, [.ref (u50 0), .ref (u50 3)])), ((u50 0), .inr (4, [.ref (u50 1), .ref (u50 2), .int 0])), ((u50 1), .inl (cI, 4, .inl (fun _ => 0))), ((u50 2), .inl (cI, 4, .inl (fun _ => 0))), ((u50 3), .inl (cI, 1000, .inl (fun _ => 0))), (q57, .inr (2, [.ref q35, .ref q46])), (q87, .inr (6, [.ref (u91 0)])), ((u91 0), .inl (cJ, 121, .inr (.inl (fun _ => 0))))] : va_W) := hD
  refine lv_iinc (v := (1 : Int32)) (lv' := [(1, .int (1 : Int32)), (0, .ref x)]) hx hb dX7_init_95 hl (k := 0) rfl (by decide) (by decide) rfl (fun ls hl => ?_)
  refine lv_goto (tgt := 77) hx hb dX7_init_98 (by decide) ?_
  refine lv_iload_n hx hb dX7_init_77 rfl (lv_at hl 0 rfl) ?_
  refine lv_iconst (v := (4 : Int32)) hx hb dX7_init_78 (by decide) ?_
  refine lv_icmp_ge (tgt := 101) hx hb dX7_init_79 (by decide) (fun c => absurd c (by decide)) (fun _ => ?_)
  refine lv_aload_n hx hb dX7_init_82 rfl (lv_at hl 1 rfl) ?_
  refine va_get (D := D) (ci := 7) (v := .ref q6) (C := RX7) (T := TX7) (N := 9) hx hb hts kwX7 hown hK hP 0 rfl rfl 0 (by decide) kf_11 (fun _ h9 => h9) rfl dX7_init_83 ?_
  refine lv_iload_n hx hb dX7_init_86 rfl (lv_at hl 0 rfl) ?_
  refine va_new (ci := 6) (fs := [.null]) (C := RX4) (T := TX4) (N := 1) hx hb hts kwX4 tyX4 tyX4_ok hown kc_9 kin_X4 kii_X4 hK hP hD hS hA rfl (fun j hj => by rcases (show j = 0 by omega) with rfl <;> rfl) (Nat.le_of_ble_eq_true rfl) (Nat.le_of_ble_eq_true rfl) dX7_init_87 (fun q87_15 H hP hD hS => ?_)
  replace hP : va_P D vwCl ([(x, .inr (7, [.ref q6, .ref q13, .ref q24, .ref q35, .ref q46, .ref q57, .int 0, .int 0, .int 0])), (q6, .inl (cO, 4, .inr (.inr (.inr (.inr (va_up (fun _ => none) 0 (some q87))))))), (q13, .inr (6, [.ref (u17 0)])), ((u17 0), .inl (cJ, 121, .inr (.inl (fun _ => 0)))), (q24, .inr (6, [.ref (u28 0)])), ((u28 0), .inl (cJ, 121, .inr (.inl (fun _ => 0)))), (q35, .inr (5, [.int 0])), (q46, .inr (3, [.ref (u50 0), .ref (u50 3)])), ((u50 0), .inr (4, [.ref (u50 1), .ref (u50 2), .int 0])), ((u50 1), .inl (cI, 4, .inl (fun _ => 0))), ((u50 2), .inl (cI, 4, .inl (fun _ => 0))), ((u50 3), .inl (cI, 1000, .inl (fun _ => 0))), (q57, .inr (2, [.ref q35, .ref q46])), (q87, .inr (6, [.ref (u91 0)])), ((u91 0), .inl (cJ, 121, .inr (.inl (fun _ => 0)))), (q87_15, .inr (6, [.null]))] : va_W) H := hP
  replace hD : va_D A ([(x, .inr (7, [.ref q6, .ref q13, .ref q24, .ref q35, .ref q46, .ref q57, .int 0, .int 0, .int 0])), (q6, .inl (cO, 4, .inr (.inr (.inr (.inr (va_up (fun _ => none) 0 (some q87))))))), (q13, .inr (6, [.ref (u17 0)])), ((u17 0), .inl (cJ, 121, .inr (.inl (fun _ => 0)))), (q24, .inr (6, [.ref (u28 0)])), ((u28 0), .inl (cJ, 121, .inr (.inl (fun _ => 0)))), (q35, .inr (5, [.int 0])), (q46, .inr (3, [.ref (u50 0), .ref (u50 3)])), ((u50 0), .inr (4, [.ref (u50 1), .ref (u50 2), .int 0])), ((u50 1), .inl (cI, 4, .inl (fun _ => 0))), ((u50 2), .inl (cI, 4, .inl (fun _ => 0))), ((u50 3), .inl (cI, 1000, .inl (fun _ => 0))), (q57, .inr (2, [.ref q35, .ref q46])), (q87, .inr (6, [.ref (u91 0)])), ((u91 0), .inl (cJ, 121, .inr (.inl (fun _ => 0)))), (q87_15, .inr (6, [.null]))] : va_W) := hD
  refine lv_dup hx hb dX7_init_90 rfl ?_
  have hPc := zsub (wn := ([(q87_15, .inr (6, [.null]))] : va_W)) hP [15] rfl
  have hDc := hD.sub (ws' := ([(q87_15, .inr (6, [.null]))] : va_W)) [15] (by decide) rfl
  refine zgoc (va_runIN (As := []) (rest := [.ref q87_15, .int (1 : Int32), .ref q6]) ⟨hx, hb, hml, hown, hts⟩ (c_X4_init l D cJ cI cO cB q87_15  H.size) ⟨va_cnB 0 hts gX7_init_X4_init_n15 rfl rfl rfl hN.2.1 kii_X4 (by decide +kernel) ⟨Nat.le_of_ble_eq_true rfl, Nat.le_of_ble_eq_true rfl⟩, rfl, kim_X4_init⟩ (znpre hN hK hPc hDc [.ref q87_15]) rfl rfl hl.1 rfl (lv_room (Nat.le_of_ble_eq_true rfl)) dX7_init_91 ⟨Nat.le_of_ble_eq_true rfl, Nat.le_of_ble_eq_true rfl⟩) (va_free hD hS hA [15] rfl) (fun u => zjF (wr := ([(x, .inr (7, [.ref q6, .ref q13, .ref q24, .ref q35, .ref q46, .ref q57, .int 0, .int 0, .int 0])), (q6, .inl (cO, 4, .inr (.inr (.inr (.inr (va_up (fun _ => none) 0 (some q87))))))), (q13, .inr (6, [.ref (u17 0)])), ((u17 0), .inl (cJ, 121, .inr (.inl (fun _ => 0)))), (q24, .inr (6, [.ref (u28 0)])), ((u28 0), .inl (cJ, 121, .inr (.inl (fun _ => 0)))), (q35, .inr (5, [.int 0])), (q46, .inr (3, [.ref (u50 0), .ref (u50 3)])), ((u50 0), .inr (4, [.ref (u50 1), .ref (u50 2), .int 0])), ((u50 1), .inl (cI, 4, .inl (fun _ => 0))), ((u50 2), .inl (cI, 4, .inl (fun _ => 0))), ((u50 3), .inl (cI, 1000, .inl (fun _ => 0))), (q57, .inr (2, [.ref q35, .ref q46])), (q87, .inr (6, [.ref (u91 0)])), ((u91 0), .inl (cJ, 121, .inr (.inl (fun _ => 0))))] : va_W)) hP hD hS hA [15] [0, 1, 2, 3, 4, 5, 6, 7, 8, 9, 10, 11, 12, 13, 14] rfl rfl (by decide) (by decide)) hS (fun u91_16 H locs hP hD hS => ?_)
  replace hP : va_P D vwCl ([(x, .inr (7, [.ref q6, .ref q13, .ref q24, .ref q35, .ref q46, .ref q57, .int 0, .int 0, .int 0])), (q6, .inl (cO, 4, .inr (.inr (.inr (.inr (va_up (fun _ => none) 0 (some q87))))))), (q13, .inr (6, [.ref (u17 0)])), ((u17 0), .inl (cJ, 121, .inr (.inl (fun _ => 0)))), (q24, .inr (6, [.ref (u28 0)])), ((u28 0), .inl (cJ, 121, .inr (.inl (fun _ => 0)))), (q35, .inr (5, [.int 0])), (q46, .inr (3, [.ref (u50 0), .ref (u50 3)])), ((u50 0), .inr (4, [.ref (u50 1), .ref (u50 2), .int 0])), ((u50 1), .inl (cI, 4, .inl (fun _ => 0))), ((u50 2), .inl (cI, 4, .inl (fun _ => 0))), ((u50 3), .inl (cI, 1000, .inl (fun _ => 0))), (q57, .inr (2, [.ref q35, .ref q46])), (q87, .inr (6, [.ref (u91 0)])), ((u91 0), .inl (cJ, 121, .inr (.inl (fun _ => 0)))), (q87_15, .inr (6, [.ref (u91_16 0)])), ((u91_16 0), .inl (cJ, 121, .inr (.inl (fun _ => 0))))] : va_W) H := hP
  replace hD : va_D A ([(x, .inr (7, [.ref q6, .ref q13, .ref q24, .ref q35, .ref q46, .ref q57, .int 0, .int 0, .int 0])), (q6, .inl (cO, 4, .inr (.inr (.inr (.inr (va_up (fun _ => none) 0 (some q87))))))), (q13, .inr (6, [.ref (u17 0)])), ((u17 0), .inl (cJ, 121, .inr (.inl (fun _ => 0)))), (q24, .inr (6, [.ref (u28 0)])), ((u28 0), .inl (cJ, 121, .inr (.inl (fun _ => 0)))), (q35, .inr (5, [.int 0])), (q46, .inr (3, [.ref (u50 0), .ref (u50 3)])), ((u50 0), .inr (4, [.ref (u50 1), .ref (u50 2), .int 0])), ((u50 1), .inl (cI, 4, .inl (fun _ => 0))), ((u50 2), .inl (cI, 4, .inl (fun _ => 0))), ((u50 3), .inl (cI, 1000, .inl (fun _ => 0))), (q57, .inr (2, [.ref q35, .ref q46])), (q87, .inr (6, [.ref (u91 0)])), ((u91 0), .inl (cJ, 121, .inr (.inl (fun _ => 0)))), (q87_15, .inr (6, [.ref (u91_16 0)])), ((u91_16 0), .inl (cJ, 121, .inr (.inl (fun _ => 0))))] : va_W) := hD
  refine va_astq hx hb hK hP hD hS 1 2 15 6 rfl rfl rfl rfl (zinc (by decide)) dX7_init_94 (fun H locs hP hD hS => ?_)
  replace hP : va_P D vwCl ([(x, .inr (7, [.ref q6, .ref q13, .ref q24, .ref q35, .ref q46, .ref q57, .int 0, .int 0, .int 0])), (q6, .inl (cO, 4, .inr (.inr (.inr (.inr (va_up (va_up (fun _ => none) 0 (some q87)) 1 (some q87_15))))))), (q13, .inr (6, [.ref (u17 0)])), ((u17 0), .inl (cJ, 121, .inr (.inl (fun _ => 0)))), (q24, .inr (6, [.ref (u28 0)])), ((u28 0), .inl (cJ, 121, .inr (.inl (fun _ => 0)))), (q35, .inr (5, [.int 0])), (q46, .inr (3, [.ref (u50 0), .ref (u50 3)])), ((u50 0), .inr (4, [.ref (u50 1), .ref (u50 2), .int 0])), ((u50 1), .inl (cI, 4, .inl (fun _ => 0))), ((u50 2), .inl (cI, 4, .inl (fun _ => 0))), ((u50 3), .inl (cI, 1000, .inl (fun _ => 0))), (q57, .inr (2, [.ref q35, .ref q46])), (q87, .inr (6, [.ref (u91 0)])), ((u91 0), .inl (cJ, 121, .inr (.inl (fun _ => 0)))), (q87_15, .inr (6, [.ref (u91_16 0)])), ((u91_16 0), .inl (cJ, 121, .inr (.inl (fun _ => 0))))] : va_W) H := hP
  replace hD : va_D A ([(x, .inr (7, [.ref q6, .ref q13, .ref q24, .ref q35, .ref q46, .ref q57, .int 0, .int 0, .int 0])), (q6, .inl (cO, 4, .inr (.inr (.inr (.inr (va_up (va_up (fun _ => none) 0 (some q87)) 1 (some q87_15))))))), (q13, .inr (6, [.ref (u17 0)])), ((u17 0), .inl (cJ, 121, .inr (.inl (fun _ => 0)))), (q24, .inr (6, [.ref (u28 0)])), ((u28 0), .inl (cJ, 121, .inr (.inl (fun _ => 0)))), (q35, .inr (5, [.int 0])), (q46, .inr (3, [.ref (u50 0), .ref (u50 3)])), ((u50 0), .inr (4, [.ref (u50 1), .ref (u50 2), .int 0])), ((u50 1), .inl (cI, 4, .inl (fun _ => 0))), ((u50 2), .inl (cI, 4, .inl (fun _ => 0))), ((u50 3), .inl (cI, 1000, .inl (fun _ => 0))), (q57, .inr (2, [.ref q35, .ref q46])), (q87, .inr (6, [.ref (u91 0)])), ((u91 0), .inl (cJ, 121, .inr (.inl (fun _ => 0)))), (q87_15, .inr (6, [.ref (u91_16 0)])), ((u91_16 0), .inl (cJ, 121, .inr (.inl (fun _ => 0))))] : va_W) := hD
  refine lv_iinc (v := (2 : Int32)) (lv' := [(1, .int (2 : Int32)), (0, .ref x)]) hx hb dX7_init_95 hl (k := 0) rfl (by decide) (by decide) rfl (fun ls hl => ?_)
  refine lv_goto (tgt := 77) hx hb dX7_init_98 (by decide) ?_
  refine lv_iload_n hx hb dX7_init_77 rfl (lv_at hl 0 rfl) ?_
  refine lv_iconst (v := (4 : Int32)) hx hb dX7_init_78 (by decide) ?_
  refine lv_icmp_ge (tgt := 101) hx hb dX7_init_79 (by decide) (fun c => absurd c (by decide)) (fun _ => ?_)
  refine lv_aload_n hx hb dX7_init_82 rfl (lv_at hl 1 rfl) ?_
  refine va_get (D := D) (ci := 7) (v := .ref q6) (C := RX7) (T := TX7) (N := 9) hx hb hts kwX7 hown hK hP 0 rfl rfl 0 (by decide) kf_11 (fun _ h9 => h9) rfl dX7_init_83 ?_
  refine lv_iload_n hx hb dX7_init_86 rfl (lv_at hl 0 rfl) ?_
  refine va_new (ci := 6) (fs := [.null]) (C := RX4) (T := TX4) (N := 1) hx hb hts kwX4 tyX4 tyX4_ok hown kc_9 kin_X4 kii_X4 hK hP hD hS hA rfl (fun j hj => by rcases (show j = 0 by omega) with rfl <;> rfl) (Nat.le_of_ble_eq_true rfl) (Nat.le_of_ble_eq_true rfl) dX7_init_87 (fun q87_17 H hP hD hS => ?_)
  replace hP : va_P D vwCl ([(x, .inr (7, [.ref q6, .ref q13, .ref q24, .ref q35, .ref q46, .ref q57, .int 0, .int 0, .int 0])), (q6, .inl (cO, 4, .inr (.inr (.inr (.inr (va_up (va_up (fun _ => none) 0 (some q87)) 1 (some q87_15))))))), (q13, .inr (6, [.ref (u17 0)])), ((u17 0), .inl (cJ, 121, .inr (.inl (fun _ => 0)))), (q24, .inr (6, [.ref (u28 0)])), ((u28 0), .inl (cJ, 121, .inr (.inl (fun _ => 0)))), (q35, .inr (5, [.int 0])), (q46, .inr (3, [.ref (u50 0), .ref (u50 3)])), ((u50 0), .inr (4, [.ref (u50 1), .ref (u50 2), .int 0])), ((u50 1), .inl (cI, 4, .inl (fun _ => 0))), ((u50 2), .inl (cI, 4, .inl (fun _ => 0))), ((u50 3), .inl (cI, 1000, .inl (fun _ => 0))), (q57, .inr (2, [.ref q35, .ref q46])), (q87, .inr (6, [.ref (u91 0)])), ((u91 0), .inl (cJ, 121, .inr (.inl (fun _ => 0)))), (q87_15, .inr (6, [.ref (u91_16 0)])), ((u91_16 0), .inl (cJ, 121, .inr (.inl (fun _ => 0)))), (q87_17, .inr (6, [.null]))] : va_W) H := hP
  replace hD : va_D A ([(x, .inr (7, [.ref q6, .ref q13, .ref q24, .ref q35, .ref q46, .ref q57, .int 0, .int 0, .int 0])), (q6, .inl (cO, 4, .inr (.inr (.inr (.inr (va_up (va_up (fun _ => none) 0 (some q87)) 1 (some q87_15))))))), (q13, .inr (6, [.ref (u17 0)])), ((u17 0), .inl (cJ, 121, .inr (.inl (fun _ => 0)))), (q24, .inr (6, [.ref (u28 0)])), ((u28 0), .inl (cJ, 121, .inr (.inl (fun _ => 0)))), (q35, .inr (5, [.int 0])), (q46, .inr (3, [.ref (u50 0), .ref (u50 3)])), ((u50 0), .inr (4, [.ref (u50 1), .ref (u50 2), .int 0])), ((u50 1), .inl (cI, 4, .inl (fun _ => 0))), ((u50 2), .inl (cI, 4, .inl (fun _ => 0))), ((u50 3), .inl (cI, 1000, .inl (fun _ => 0))), (q57, .inr (2, [.ref q35, .ref q46])), (q87, .inr (6, [.ref (u91 0)])), ((u91 0), .inl (cJ, 121, .inr (.inl (fun _ => 0)))), (q87_15, .inr (6, [.ref (u91_16 0)])), ((u91_16 0), .inl (cJ, 121, .inr (.inl (fun _ => 0)))), (q87_17, .inr (6, [.null]))] : va_W) := hD
  refine lv_dup hx hb dX7_init_90 rfl ?_
  have hPc := zsub (wn := ([(q87_17, .inr (6, [.null]))] : va_W)) hP [17] rfl
  have hDc := hD.sub (ws' := ([(q87_17, .inr (6, [.null]))] : va_W)) [17] (by decide) rfl
  refine zgoc (va_runIN (As := []) (rest := [.ref q87_17, .int (2 : Int32), .ref q6]) ⟨hx, hb, hml, hown, hts⟩ (c_X4_init l D cJ cI cO cB q87_17  H.size) ⟨va_cnB 0 hts gX7_init_X4_init_n15 rfl rfl rfl hN.2.1 kii_X4 (by decide +kernel) ⟨Nat.le_of_ble_eq_true rfl, Nat.le_of_ble_eq_true rfl⟩, rfl, kim_X4_init⟩ (znpre hN hK hPc hDc [.ref q87_17]) rfl rfl hl.1 rfl (lv_room (Nat.le_of_ble_eq_true rfl)) dX7_init_91 ⟨Nat.le_of_ble_eq_true rfl, Nat.le_of_ble_eq_true rfl⟩) (va_free hD hS hA [17] rfl) (fun u => zjF (wr := ([(x, .inr (7, [.ref q6, .ref q13, .ref q24, .ref q35, .ref q46, .ref q57, .int 0, .int 0, .int 0])), (q6, .inl (cO, 4, .inr (.inr (.inr (.inr (va_up (va_up (fun _ => none) 0 (some q87)) 1 (some q87_15))))))), (q13, .inr (6, [.ref (u17 0)])), ((u17 0), .inl (cJ, 121, .inr (.inl (fun _ => 0)))), (q24, .inr (6, [.ref (u28 0)])), ((u28 0), .inl (cJ, 121, .inr (.inl (fun _ => 0)))), (q35, .inr (5, [.int 0])), (q46, .inr (3, [.ref (u50 0), .ref (u50 3)])), ((u50 0), .inr (4, [.ref (u50 1), .ref (u50 2), .int 0])), ((u50 1), .inl (cI, 4, .inl (fun _ => 0))), ((u50 2), .inl (cI, 4, .inl (fun _ => 0))), ((u50 3), .inl (cI, 1000, .inl (fun _ => 0))), (q57, .inr (2, [.ref q35, .ref q46])), (q87, .inr (6, [.ref (u91 0)])), ((u91 0), .inl (cJ, 121, .inr (.inl (fun _ => 0)))), (q87_15, .inr (6, [.ref (u91_16 0)])), ((u91_16 0), .inl (cJ, 121, .inr (.inl (fun _ => 0))))] : va_W)) hP hD hS hA [17] [0, 1, 2, 3, 4, 5, 6, 7, 8, 9, 10, 11, 12, 13, 14, 15, 16] rfl rfl (by decide) (by decide)) hS (fun u91_18 H locs hP hD hS => ?_)
  replace hP : va_P D vwCl ([(x, .inr (7, [.ref q6, .ref q13, .ref q24, .ref q35, .ref q46, .ref q57, .int 0, .int 0, .int 0])), (q6, .inl (cO, 4, .inr (.inr (.inr (.inr (va_up (va_up (fun _ => none) 0 (some q87)) 1 (some q87_15))))))), (q13, .inr (6, [.ref (u17 0)])), ((u17 0), .inl (cJ, 121, .inr (.inl (fun _ => 0)))), (q24, .inr (6, [.ref (u28 0)])), ((u28 0), .inl (cJ, 121, .inr (.inl (fun _ => 0)))), (q35, .inr (5, [.int 0])), (q46, .inr (3, [.ref (u50 0), .ref (u50 3)])), ((u50 0), .inr (4, [.ref (u50 1), .ref (u50 2), .int 0])), ((u50 1), .inl (cI, 4, .inl (fun _ => 0))), ((u50 2), .inl (cI, 4, .inl (fun _ => 0))), ((u50 3), .inl (cI, 1000, .inl (fun _ => 0))), (q57, .inr (2, [.ref q35, .ref q46])), (q87, .inr (6, [.ref (u91 0)])), ((u91 0), .inl (cJ, 121, .inr (.inl (fun _ => 0)))), (q87_15, .inr (6, [.ref (u91_16 0)])), ((u91_16 0), .inl (cJ, 121, .inr (.inl (fun _ => 0)))), (q87_17, .inr (6, [.ref (u91_18 0)])), ((u91_18 0), .inl (cJ, 121, .inr (.inl (fun _ => 0))))] : va_W) H := hP
  replace hD : va_D A ([(x, .inr (7, [.ref q6, .ref q13, .ref q24, .ref q35, .ref q46, .ref q57, .int 0, .int 0, .int 0])), (q6, .inl (cO, 4, .inr (.inr (.inr (.inr (va_up (va_up (fun _ => none) 0 (some q87)) 1 (some q87_15))))))), (q13, .inr (6, [.ref (u17 0)])), ((u17 0), .inl (cJ, 121, .inr (.inl (fun _ => 0)))), (q24, .inr (6, [.ref (u28 0)])), ((u28 0), .inl (cJ, 121, .inr (.inl (fun _ => 0)))), (q35, .inr (5, [.int 0])), (q46, .inr (3, [.ref (u50 0), .ref (u50 3)])), ((u50 0), .inr (4, [.ref (u50 1), .ref (u50 2), .int 0])), ((u50 1), .inl (cI, 4, .inl (fun _ => 0))), ((u50 2), .inl (cI, 4, .inl (fun _ => 0))), ((u50 3), .inl (cI, 1000, .inl (fun _ => 0))), (q57, .inr (2, [.ref q35, .ref q46])), (q87, .inr (6, [.ref (u91 0)])), ((u91 0), .inl (cJ, 121, .inr (.inl (fun _ => 0)))), (q87_15, .inr (6, [.ref (u91_16 0)])), ((u91_16 0), .inl (cJ, 121, .inr (.inl (fun _ => 0)))), (q87_17, .inr (6, [.ref (u91_18 0)])), ((u91_18 0), .inl (cJ, 121, .inr (.inl (fun _ => 0))))] : va_W) := hD
  refine va_astq hx hb hK hP hD hS 1 2 17 6 rfl rfl rfl rfl (zinc (by decide)) dX7_init_94 (fun H locs hP hD hS => ?_)
  replace hP : va_P D vwCl ([(x, .inr (7, [.ref q6, .ref q13, .ref q24, .ref q35, .ref q46, .ref q57, .int 0, .int 0, .int 0])), (q6, .inl (cO, 4, .inr (.inr (.inr (.inr (va_up (va_up (va_up (fun _ => none) 0 (some q87)) 1 (some q87_15)) 2 (some q87_17))))))), (q13, .inr (6, [.ref (u17 0)])), ((u17 0), .inl (cJ, 121, .inr (.inl (fun _ => 0)))), (q24, .inr (6, [.ref (u28 0)])), ((u28 0), .inl (cJ, 121, .inr (.inl (fun _ => 0)))), (q35, .inr (5, [.int 0])), (q46, .inr (3, [.ref (u50 0), .ref (u50 3)])), ((u50 0), .inr (4, [.ref (u50 1), .ref (u50 2), .int 0])), ((u50 1), .inl (cI, 4, .inl (fun _ => 0))), ((u50 2), .inl (cI, 4, .inl (fun _ => 0))), ((u50 3), .inl (cI, 1000, .inl (fun _ => 0))), (q57, .inr (2, [.ref q35, .ref q46])), (q87, .inr (6, [.ref (u91 0)])), ((u91 0), .inl (cJ, 121, .inr (.inl (fun _ => 0)))), (q87_15, .inr (6, [.ref (u91_16 0)])), ((u91_16 0), .inl (cJ, 121, .inr (.inl (fun _ => 0)))), (q87_17, .inr (6, [.ref (u91_18 0)])), ((u91_18 0), .inl (cJ, 121, .inr (.inl (fun _ => 0))))] : va_W) H := hP
  replace hD : va_D A ([(x, .inr (7, [.ref q6, .ref q13, .ref q24, .ref q35, .ref q46, .ref q57, .int 0, .int 0, .int 0])), (q6, .inl (cO, 4, .inr (.inr (.inr (.inr (va_up (va_up (va_up (fun _ => none) 0 (some q87)) 1 (some q87_15)) 2 (some q87_17))))))), (q13, .inr (6, [.ref (u17 0)])), ((u17 0), .inl (cJ, 121, .inr (.inl (fun _ => 0)))), (q24, .inr (6, [.ref (u28 0)])), ((u28 0), .inl (cJ, 121, .inr (.inl (fun _ => 0)))), (q35, .inr (5, [.int 0])), (q46, .inr (3, [.ref (u50 0), .ref (u50 3)])), ((u50 0), .inr (4, [.ref (u50 1), .ref (u50 2), .int 0])), ((u50 1), .inl (cI, 4, .inl (fun _ => 0))), ((u50 2), .inl (cI, 4, .inl (fun _ => 0))), ((u50 3), .inl (cI, 1000, .inl (fun _ => 0))), (q57, .inr (2, [.ref q35, .ref q46])), (q87, .inr (6, [.ref (u91 0)])), ((u91 0), .inl (cJ, 121, .inr (.inl (fun _ => 0)))), (q87_15, .inr (6, [.ref (u91_16 0)])), ((u91_16 0), .inl (cJ, 121, .inr (.inl (fun _ => 0)))), (q87_17, .inr (6, [.ref (u91_18 0)])), ((u91_18 0), .inl (cJ, 121, .inr (.inl (fun _ => 0))))] : va_W) := hD
  refine lv_iinc (v := (3 : Int32)) (lv' := [(1, .int (3 : Int32)), (0, .ref x)]) hx hb dX7_init_95 hl (k := 0) rfl (by decide) (by decide) rfl (fun ls hl => ?_)
  refine lv_goto (tgt := 77) hx hb dX7_init_98 (by decide) ?_
  refine lv_iload_n hx hb dX7_init_77 rfl (lv_at hl 0 rfl) ?_
  refine lv_iconst (v := (4 : Int32)) hx hb dX7_init_78 (by decide) ?_
  refine lv_icmp_ge (tgt := 101) hx hb dX7_init_79 (by decide) (fun c => absurd c (by decide)) (fun _ => ?_)
  refine lv_aload_n hx hb dX7_init_82 rfl (lv_at hl 1 rfl) ?_
  refine va_get (D := D) (ci := 7) (v := .ref q6) (C := RX7) (T := TX7) (N := 9) hx hb hts kwX7 hown hK hP 0 rfl rfl 0 (by decide) kf_11 (fun _ h9 => h9) rfl dX7_init_83 ?_
  refine lv_iload_n hx hb dX7_init_86 rfl (lv_at hl 0 rfl) ?_
  refine va_new (ci := 6) (fs := [.null]) (C := RX4) (T := TX4) (N := 1) hx hb hts kwX4 tyX4 tyX4_ok hown kc_9 kin_X4 kii_X4 hK hP hD hS hA rfl (fun j hj => by rcases (show j = 0 by omega) with rfl <;> rfl) (Nat.le_of_ble_eq_true rfl) (Nat.le_of_ble_eq_true rfl) dX7_init_87 (fun q87_19 H hP hD hS => ?_)
  replace hP : va_P D vwCl ([(x, .inr (7, [.ref q6, .ref q13, .ref q24, .ref q35, .ref q46, .ref q57, .int 0, .int 0, .int 0])), (q6, .inl (cO, 4, .inr (.inr (.inr (.inr (va_up (va_up (va_up (fun _ => none) 0 (some q87)) 1 (some q87_15)) 2 (some q87_17))))))), (q13, .inr (6, [.ref (u17 0)])), ((u17 0), .inl (cJ, 121, .inr (.inl (fun _ => 0)))), (q24, .inr (6, [.ref (u28 0)])), ((u28 0), .inl (cJ, 121, .inr (.inl (fun _ => 0)))), (q35, .inr (5, [.int 0])), (q46, .inr (3, [.ref (u50 0), .ref (u50 3)])), ((u50 0), .inr (4, [.ref (u50 1), .ref (u50 2), .int 0])), ((u50 1), .inl (cI, 4, .inl (fun _ => 0))), ((u50 2), .inl (cI, 4, .inl (fun _ => 0))), ((u50 3), .inl (cI, 1000, .inl (fun _ => 0))), (q57, .inr (2, [.ref q35, .ref q46])), (q87, .inr (6, [.ref (u91 0)])), ((u91 0), .inl (cJ, 121, .inr (.inl (fun _ => 0)))), (q87_15, .inr (6, [.ref (u91_16 0)])), ((u91_16 0), .inl (cJ, 121, .inr (.inl (fun _ => 0)))), (q87_17, .inr (6, [.ref (u91_18 0)])), ((u91_18 0), .inl (cJ, 121, .inr (.inl (fun _ => 0)))), (q87_19, .inr (6, [.null]))] : va_W) H := hP
  replace hD : va_D A ([(x, .inr (7, [.ref q6, .ref q13, .ref q24, .ref q35, .ref q46, .ref q57, .int 0, .int 0, .int 0])), (q6, .inl (cO, 4, .inr (.inr (.inr (.inr (va_up (va_up (va_up (fun _ => none) 0 (some q87)) 1 (some q87_15)) 2 (some q87_17))))))), (q13, .inr (6, [.ref (u17 0)])), ((u17 0), .inl (cJ, 121, .inr (.inl (fun _ => 0)))), (q24, .inr (6, [.ref (u28 0)])), ((u28 0), .inl (cJ, 121, .inr (.inl (fun _ => 0)))), (q35, .inr (5, [.int 0])), (q46, .inr (3, [.ref (u50 0), .ref (u50 3)])), ((u50 0), .inr (4, [.ref (u50 1), .ref (u50 2), .int 0])), ((u50 1), .inl (cI, 4, .inl (fun _ => 0))), ((u50 2), .inl (cI, 4, .inl (fun _ => 0))), ((u50 3), .inl (cI, 1000, .inl (fun _ => 0))), (q57, .inr (2, [.ref q35, .ref q46])), (q87, .inr (6, [.ref (u91 0)])), ((u91 0), .inl (cJ, 121, .inr (.inl (fun _ => 0)))), (q87_15, .inr (6, [.ref (u91_16 0)])), ((u91_16 0), .inl (cJ, 121, .inr (.inl (fun _ => 0)))), (q87_17, .inr (6, [.ref (u91_18 0)])), ((u91_18 0), .inl (cJ, 121, .inr (.inl (fun _ => 0)))), (q87_19, .inr (6, [.null]))] : va_W) := hD
  refine lv_dup hx hb dX7_init_90 rfl ?_
  have hPc := zsub (wn := ([(q87_19, .inr (6, [.null]))] : va_W)) hP [19] rfl
  have hDc := hD.sub (ws' := ([(q87_19, .inr (6, [.null]))] : va_W)) [19] (by decide) rfl
  refine zgoc (va_runIN (As := []) (rest := [.ref q87_19, .int (3 : Int32), .ref q6]) ⟨hx, hb, hml, hown, hts⟩ (c_X4_init l D cJ cI cO cB q87_19  H.size) ⟨va_cnB 0 hts gX7_init_X4_init_n15 rfl rfl rfl hN.2.1 kii_X4 (by decide +kernel) ⟨Nat.le_of_ble_eq_true rfl, Nat.le_of_ble_eq_true rfl⟩, rfl, kim_X4_init⟩ (znpre hN hK hPc hDc [.ref q87_19]) rfl rfl hl.1 rfl (lv_room (Nat.le_of_ble_eq_true rfl)) dX7_init_91 ⟨Nat.le_of_ble_eq_true rfl, Nat.le_of_ble_eq_true rfl⟩) (va_free hD hS hA [19] rfl) (fun u => zjF (wr := ([(x, .inr (7, [.ref q6, .ref q13, .ref q24, .ref q35, .ref q46, .ref q57, .int 0, .int 0, .int 0])), (q6, .inl (cO, 4, .inr (.inr (.inr (.inr (va_up (va_up (va_up (fun _ => none) 0 (some q87)) 1 (some q87_15)) 2 (some q87_17))))))), (q13, .inr (6, [.ref (u17 0)])), ((u17 0), .inl (cJ, 121, .inr (.inl (fun _ => 0)))), (q24, .inr (6, [.ref (u28 0)])), ((u28 0), .inl (cJ, 121, .inr (.inl (fun _ => 0)))), (q35, .inr (5, [.int 0])), (q46, .inr (3, [.ref (u50 0), .ref (u50 3)])), ((u50 0), .inr (4, [.ref (u50 1), .ref (u50 2), .int 0])), ((u50 1), .inl (cI, 4, .inl (fun _ => 0))), ((u50 2), .inl (cI, 4, .inl (fun _ => 0))), ((u50 3), .inl (cI, 1000, .inl (fun _ => 0))), (q57, .inr (2, [.ref q35, .ref q46])), (q87, .inr (6, [.ref (u91 0)])), ((u91 0), .inl (cJ, 121, .inr (.inl (fun _ => 0)))), (q87_15, .inr (6, [.ref (u91_16 0)])), ((u91_16 0), .inl (cJ, 121, .inr (.inl (fun _ => 0)))), (q87_17, .inr (6, [.ref (u91_18 0)])), ((u91_18 0), .inl (cJ, 121, .inr (.inl (fun _ => 0))))] : va_W)) hP hD hS hA [19] [0, 1, 2, 3, 4, 5, 6, 7, 8, 9, 10, 11, 12, 13, 14, 15, 16, 17, 18] rfl rfl (by decide) (by decide)) hS (fun u91_20 H locs hP hD hS => ?_)
  replace hP : va_P D vwCl ([(x, .inr (7, [.ref q6, .ref q13, .ref q24, .ref q35, .ref q46, .ref q57, .int 0, .int 0, .int 0])), (q6, .inl (cO, 4, .inr (.inr (.inr (.inr (va_up (va_up (va_up (fun _ => none) 0 (some q87)) 1 (some q87_15)) 2 (some q87_17))))))), (q13, .inr (6, [.ref (u17 0)])), ((u17 0), .inl (cJ, 121, .inr (.inl (fun _ => 0)))), (q24, .inr (6, [.ref (u28 0)])), ((u28 0), .inl (cJ, 121, .inr (.inl (fun _ => 0)))), (q35, .inr (5, [.int 0])), (q46, .inr (3, [.ref (u50 0), .ref (u50 3)])), ((u50 0), .inr (4, [.ref (u50 1), .ref (u50 2), .int 0])), ((u50 1), .inl (cI, 4, .inl (fun _ => 0))), ((u50 2), .inl (cI, 4, .inl (fun _ => 0))), ((u50 3), .inl (cI, 1000, .inl (fun _ => 0))), (q57, .inr (2, [.ref q35, .ref q46])), (q87, .inr (6, [.ref (u91 0)])), ((u91 0), .inl (cJ, 121, .inr (.inl (fun _ => 0)))), (q87_15, .inr (6, [.ref (u91_16 0)])), ((u91_16 0), .inl (cJ, 121, .inr (.inl (fun _ => 0)))), (q87_17, .inr (6, [.ref (u91_18 0)])), ((u91_18 0), .inl (cJ, 121, .inr (.inl (fun _ => 0)))), (q87_19, .inr (6, [.ref (u91_20 0)])), ((u91_20 0), .inl (cJ, 121, .inr (.inl (fun _ => 0))))] : va_W) H := hP
  replace hD : va_D A ([(x, .inr (7, [.ref q6, .ref q13, .ref q24, .ref q35, .ref q46, .ref q57, .int 0, .int 0, .int 0])), (q6, .inl (cO, 4, .inr (.inr (.inr (.inr (va_up (va_up (va_up (fun _ => none) 0 (some q87)) 1 (some q87_15)) 2 (some q87_17))))))), (q13, .inr (6, [.ref (u17 0)])), ((u17 0), .inl (cJ, 121, .inr (.inl (fun _ => 0)))), (q24, .inr (6, [.ref (u28 0)])), ((u28 0), .inl (cJ, 121, .inr (.inl (fun _ => 0)))), (q35, .inr (5, [.int 0])), (q46, .inr (3, [.ref (u50 0), .ref (u50 3)])), ((u50 0), .inr (4, [.ref (u50 1), .ref (u50 2), .int 0])), ((u50 1), .inl (cI, 4, .inl (fun _ => 0))), ((u50 2), .inl (cI, 4, .inl (fun _ => 0))), ((u50 3), .inl (cI, 1000, .inl (fun _ => 0))), (q57, .inr (2, [.ref q35, .ref q46])), (q87, .inr (6, [.ref (u91 0)])), ((u91 0), .inl (cJ, 121, .inr (.inl (fun _ => 0)))), (q87_15, .inr (6, [.ref (u91_16 0)])), ((u91_16 0), .inl (cJ, 121, .inr (.inl (fun _ => 0)))), (q87_17, .inr (6, [.ref (u91_18 0)])), ((u91_18 0), .inl (cJ, 121, .inr (.inl (fun _ => 0)))), (q87_19, .inr (6, [.ref (u91_20 0)])), ((u91_20 0), .inl (cJ, 121, .inr (.inl (fun _ => 0))))] : va_W) := hD
  refine va_astq hx hb hK hP hD hS 1 2 19 6 rfl rfl rfl rfl (zinc (by decide)) dX7_init_94 (fun H locs hP hD hS => ?_)
  replace hP : va_P D vwCl ([(x, .inr (7, [.ref q6, .ref q13, .ref q24, .ref q35, .ref q46, .ref q57, .int 0, .int 0, .int 0])), (q6, .inl (cO, 4, .inr (.inr (.inr (.inr (va_up (va_up (va_up (va_up (fun _ => none) 0 (some q87)) 1 (some q87_15)) 2 (some q87_17)) 3 (some q87_19))))))), (q13, .inr (6, [.ref (u17 0)])), ((u17 0), .inl (cJ, 121, .inr (.inl (fun _ => 0)))), (q24, .inr (6, [.ref (u28 0)])), ((u28 0), .inl (cJ, 121, .inr (.inl (fun _ => 0)))), (q35, .inr (5, [.int 0])), (q46, .inr (3, [.ref (u50 0), .ref (u50 3)])), ((u50 0), .inr (4, [.ref (u50 1), .ref (u50 2), .int 0])), ((u50 1), .inl (cI, 4, .inl (fun _ => 0))), ((u50 2), .inl (cI, 4, .inl (fun _ => 0))), ((u50 3), .inl (cI, 1000, .inl (fun _ => 0))), (q57, .inr (2, [.ref q35, .ref q46])), (q87, .inr (6, [.ref (u91 0)])), ((u91 0), .inl (cJ, 121, .inr (.inl (fun _ => 0)))), (q87_15, .inr (6, [.ref (u91_16 0)])), ((u91_16 0), .inl (cJ, 121, .inr (.inl (fun _ => 0)))), (q87_17, .inr (6, [.ref (u91_18 0)])), ((u91_18 0), .inl (cJ, 121, .inr (.inl (fun _ => 0)))), (q87_19, .inr (6, [.ref (u91_20 0)])), ((u91_20 0), .inl (cJ, 121, .inr (.inl (fun _ => 0))))] : va_W) H := hP
  replace hD : va_D A ([(x, .inr (7, [.ref q6, .ref q13, .ref q24, .ref q35, .ref q46, .ref q57, .int 0, .int 0, .int 0])), (q6, .inl (cO, 4, .inr (.inr (.inr (.inr (va_up (va_up (va_up (va_up (fun _ => none) 0 (some q87)) 1 (some q87_15)) 2 (some q87_17)) 3 (some q87_19))))))), (q13, .inr (6, [.ref (u17 0)])), ((u17 0), .inl (cJ, 121, .inr (.inl (fun _ => 0)))), (q24, .inr (6, [.ref (u28 0)])), ((u28 0), .inl (cJ, 121, .inr (.inl (fun _ => 0)))), (q35, .inr (5, [.int 0])), (q46, .inr (3, [.ref (u50 0), .ref (u50 3)])), ((u50 0), .inr (4, [.ref (u50 1), .ref (u50 2), .int 0])), ((u50 1), .inl (cI, 4, .inl (fun _ => 0))), ((u50 2), .inl (cI, 4, .inl (fun _ => 0))), ((u50 3), .inl (cI, 1000, .inl (fun _ => 0))), (q57, .inr (2, [.ref q35, .ref q46])), (q87, .inr (6, [.ref (u91 0)])), ((u91 0), .inl (cJ, 121, .inr (.inl (fun _ => 0)))), (q87_15, .inr (6, [.ref (u91_16 0)])), ((u91_16 0), .inl (cJ, 121, .inr (.inl (fun _ => 0)))), (q87_17, .inr (6, [.ref (u91_18 0)])), ((u91_18 0), .inl (cJ, 121, .inr (.inl (fun _ => 0)))), (q87_19, .inr (6, [.ref (u91_20 0)])), ((u91_20 0), .inl (cJ, 121, .inr (.inl (fun _ => 0))))] : va_W) := hD
  refine lv_iinc (v := (4 : Int32)) (lv' := [(1, .int (4 : Int32)), (0, .ref x)]) hx hb dX7_init_95 hl (k := 0) rfl (by decide) (by decide) rfl (fun ls hl => ?_)
  refine lv_goto (tgt := 77) hx hb dX7_init_98 (by decide) ?_
  refine lv_iload_n hx hb dX7_init_77 rfl (lv_at hl 0 rfl) ?_
  refine lv_iconst (v := (4 : Int32)) hx hb dX7_init_78 (by decide) ?_
  refine lv_icmp_ge (tgt := 101) hx hb dX7_init_79 (by decide) (fun _ => ?_) (fun c => absurd (by decide) c)
  replace hP := zsub (wn := ([(x, .inr (7, [.ref q6, .ref q13, .ref q24, .ref q35, .ref q46, .ref q57, .int 0, .int 0, .int 0])), (q6, .inl (cO, 4, .inr (.inr (.inr (.inr (va_up (va_up (va_up (va_up (fun _ => none) 0 (some q87)) 1 (some q87_15)) 2 (some q87_17)) 3 (some q87_19))))))), (q87, .inr (6, [.ref (u91 0)])), (q87_15, .inr (6, [.ref (u91_16 0)])), (q87_17, .inr (6, [.ref (u91_18 0)])), (q87_19, .inr (6, [.ref (u91_20 0)])), (q13, .inr (6, [.ref (u17 0)])), (q24, .inr (6, [.ref (u28 0)])), ((u91 0), .inl (cJ, 121, .inr (.inl (fun _ => 0)))), ((u91_16 0), .inl (cJ, 121, .inr (.inl (fun _ => 0)))), ((u91_18 0), .inl (cJ, 121, .inr (.inl (fun _ => 0)))), ((u91_20 0), .inl (cJ, 121, .inr (.inl (fun _ => 0)))), ((u17 0), .inl (cJ, 121, .inr (.inl (fun _ => 0)))), ((u28 0), .inl (cJ, 121, .inr (.inl (fun _ => 0)))), (q35, .inr (5, [.int 0])), (q46, .inr (3, [.ref (u50 0), .ref (u50 3)])), (q57, .inr (2, [.ref q35, .ref q46])), ((u50 0), .inr (4, [.ref (u50 1), .ref (u50 2), .int 0])), ((u50 1), .inl (cI, 4, .inl (fun _ => 0))), ((u50 2), .inl (cI, 4, .inl (fun _ => 0))), ((u50 3), .inl (cI, 1000, .inl (fun _ => 0)))] : va_W)) hP [0, 1, 13, 15, 17, 19, 2, 4, 14, 16, 18, 20, 3, 5, 6, 7, 12, 8, 9, 10, 11] rfl
  replace hD := hD.sub (ws' := ([(x, .inr (7, [.ref q6, .ref q13, .ref q24, .ref q35, .ref q46, .ref q57, .int 0, .int 0, .int 0])), (q6, .inl (cO, 4, .inr (.inr (.inr (.inr (va_up (va_up (va_up (va_up (fun _ => none) 0 (some q87)) 1 (some q87_15)) 2 (some q87_17)) 3 (some q87_19))))))), (q87, .inr (6, [.ref (u91 0)])), (q87_15, .inr (6, [.ref (u91_16 0)])), (q87_17, .inr (6, [.ref (u91_18 0)])), (q87_19, .inr (6, [.ref (u91_20 0)])), (q13, .inr (6, [.ref (u17 0)])), (q24, .inr (6, [.ref (u28 0)])), ((u91 0), .inl (cJ, 121, .inr (.inl (fun _ => 0)))), ((u91_16 0), .inl (cJ, 121, .inr (.inl (fun _ => 0)))), ((u91_18 0), .inl (cJ, 121, .inr (.inl (fun _ => 0)))), ((u91_20 0), .inl (cJ, 121, .inr (.inl (fun _ => 0)))), ((u17 0), .inl (cJ, 121, .inr (.inl (fun _ => 0)))), ((u28 0), .inl (cJ, 121, .inr (.inl (fun _ => 0)))), (q35, .inr (5, [.int 0])), (q46, .inr (3, [.ref (u50 0), .ref (u50 3)])), (q57, .inr (2, [.ref q35, .ref q46])), ((u50 0), .inr (4, [.ref (u50 1), .ref (u50 2), .int 0])), ((u50 1), .inl (cI, 4, .inl (fun _ => 0))), ((u50 2), .inl (cI, 4, .inl (fun _ => 0))), ((u50 3), .inl (cI, 1000, .inl (fun _ => 0)))] : va_W)) [0, 1, 13, 15, 17, 19, 2, 4, 14, 16, 18, 20, 3, 5, 6, 7, 12, 8, 9, 10, 11] (by decide) rfl
  replace hP := zcellq (k := 1) (g := (fun j => some (zcons x (zlist [q6, q87, q87_15, q87_17, q87_19, q13, q24, (u91 0), (u91_16 0), (u91_18 0), (u91_20 0), (u17 0), (u28 0), q35, q46, q57, (u50 0), (u50 1), (u50 2), (u50 3)]) (2 + j)))) hP rfl (fun j hj => by rcases (show j = 0 ∨ j = 1 ∨ j = 2 ∨ j = 3 by omega) with rfl | rfl | rfl | rfl <;> rfl)
  replace hD := hD.set (p := 1) (e := .inl (cO, 4, .inr (.inr (.inr (.inr (fun j => some (zcons x (zlist [q6, q87, q87_15, q87_17, q87_19, q13, q24, (u91 0), (u91_16 0), (u91_18 0), (u91_20 0), (u17 0), (u28 0), q35, q46, q57, (u50 0), (u50 1), (u50 2), (u50 3)]) (2 + j)))))))) rfl
  replace hP : va_P D vwCl (cW (zcons x (zlist [q6,q87,q87_15,q87_17,q87_19,q13,q24,(u91 0),(u91_16 0),(u91_18 0),(u91_20 0),(u17 0),(u28 0),q35,q46,q57,(u50 0),(u50 1),(u50 2),(u50 3)])) cJ cI cO (fun _ _ => 0) false (fun _ => 0) (fun _ => 0) 0 (fun _ => 0) 0 0 0) H := hP
  replace hD : va_D A (cW (zcons x (zlist [q6,q87,q87_15,q87_17,q87_19,q13,q24,(u91 0),(u91_16 0),(u91_18 0),(u91_20 0),(u17 0),(u28 0),q35,q46,q57,(u50 0),(u50 1),(u50 2),(u50 3)])) cJ cI cO (fun _ _ => 0) false (fun _ => 0) (fun _ => 0) 0 (fun _ => 0) 0 0 0) := hD
  refine W.widen (k := 20) (n := 1752) (by decide) (by decide) ?_
  exact W.vret hx hb hr (fun t ht hW => ⟨⟨zlist [q6, q87, q87_15, q87_17, q87_19, q13, q24, (u91 0), (u91_16 0), (u91_18 0), (u91_20 0), (u17 0), (u28 0), q35, q46, q57, (u50 0), (u50 1), (u50 2), (u50 3)], rfl, trivial, by rw [ht]; exact hP, va_K.moved hW.alike hK, hD⟩, hS.F ht⟩) hS.2.2 dX7_init_101

set_option maxHeartbeats 4000000 in
set_option maxRecDepth 100000 in
theorem c_J5_init_d00df (l : Launch) (D : va_G) (cJ cI cO cB : ClassId) (x : Nat)   : zMc l yJ5_init_d00df wsJ5_init_d00df 1 29 1 16 (zPx D (zT cJ cI cO cB) ([(x, .inr (1, [.null, .int 0, .int 0, .int 0]))] : va_W)) [.ref x, .int (16 : Int32)] D (zT cJ cI cO cB) ([(x, .inr (1, [.null, .int 0, .int 0, .int 0]))] : va_W) (fun u => ([(x, .inr (1, [.ref (u 0), .int (0 : Int32), .int 0, .int 0])), ((u 0), .inl (cB, 16, .inl (fun _ => 0)))] : va_W)) := by
  intro sz
  delta zQc
  refine Met.ofW (cc := cJ5_init_d00df) (maxL := 2) (ret := none) (by decide) rfl ?_
  intro p e s m args below meth c s₁ B hml hv
  obtain ⟨rfl, ⟨hsz, hP, hK, hD0⟩, hE⟩ := hv
  have hx := B.exec
  have hb := B.bytes
  have hr := B.returns
  have hts := atoms_spec (ws := wsJ5_init_d00df) B.pre
  have hown : s.vm.findClass RJ5 = some m.cls := findClass_of_methodNamed B.named
  have hlocks := B.notSynchronized
  have hin : meth.name = "<init>" := (name_of_methodNamed B.named B.method).1
  subst hsz
  have hD := hD0.self (sz := s.heap.size)
  generalize hAe : va_A ([(x, .inr (1, [.null, .int 0, .int 0, .int 0]))] : va_W) s.heap.size = A at hD hE ⊢
  have hA : ∀ q : Nat, s.heap.size ≤ q → A q := fun q h => by rw [← hAe]; exact Or.inr h
  have hS : va_S A s.heap s.heap [] := va_S.rf
  have hl := lv_entry ([.ref x, .int (16 : Int32)]) (n := 2) (Nat.le_of_ble_eq_true rfl)
  rw [lg_entry_eq]
  generalize (lg_sl ([.ref x, .int (16 : Int32)]) ++ List.replicate (2 - (lg_sl ([.ref x, .int (16 : Int32)])).length) Slot.unset).toArray = ls at hl ⊢
  replace hl : lv_has ls 2 [(0, .ref x), (1, .int (16 : Int32))] := hl
  have km_3 := hts (.methodLink RJ5 3 objectInit) (zmem 1 rfl)
  have koi := hts (.instanceMethod objectInit) (zmem 2 rfl)
  have koc := hts (.code objectInit ⟨#[0xb1]⟩ 1 none) (zmem 3 rfl)
  have kf_18 := hts (.fieldLink RJ5 18 "java/lang/String" "COMPACT_STRINGS" "Z") (zmem 4 rfl)
  have karB := hts (.arrayClass .byte) (List.mem_cons_of_mem _ (List.mem_append_right _ (zmem 1 rfl)))
  have kwJ4 : ∀ w ∈ u_ws RJ4 TJ4 4, w ∈ wsJ5_init_d00df := fun w h => List.mem_cons_of_mem _ (List.mem_append_left _ (List.mem_append_right _ h))
  have kf_15 := hts (.fieldLink RJ5 15 "java/lang/AbstractStringBuilder" "value" "[B") (zmem 5 rfl)
  have kf_22 := hts (.fieldLink RJ5 22 "java/lang/AbstractStringBuilder" "coder" "B") (zmem 6 rfl)
  obtain ⟨H, hHe⟩ : ∃ H, H = s.heap := ⟨_, rfl⟩
  rw [← hHe] at hP
  replace hS : va_S A s.heap H [] := by rw [hHe]; exact hS
  refine zheap hHe ?_
  replace hP : va_P D vwCl ([(x, .inr (1, [.null, .int 0, .int 0, .int 0]))] : va_W) H := hP
  replace hD : va_D A ([(x, .inr (1, [.null, .int 0, .int 0, .int 0]))] : va_W) := hD
  refine lv_aload_n hx hb dJ5_init_d00df_0 rfl (lv_at hl 0 rfl) ?_
  refine W.objInit hx hb hown km_3 koi koc rfl (by rw [hml]; exact hl.1) rfl dJ5_init_d00df_1 (Nat.le_of_ble_eq_true rfl) (Nat.le_of_ble_eq_true rfl) ?_
  refine W.eq (g2 := F0 m 4 ls []) rfl ?_
  refine va_gets hx hb hE.2.2.2.1 hS hown kf_18 (fun _ h9 => h9) dJ5_init_d00df_4 ?_
  refine lv_if_eq (tgt := 25) hx hb dJ5_init_d00df_7 (by decide) (fun c => absurd c (by decide)) (fun _ => ?_)
  refine lv_aload_n hx hb dJ5_init_d00df_10 rfl (lv_at hl 0 rfl) ?_
  refine lv_iload_n hx hb dJ5_init_d00df_11 rfl (lv_at hl 1 rfl) ?_
  refine znewB' (N := 16) hx hb karB hK hP hD hS hA (by decide) (by decide) (by decide) (Nat.le_of_ble_eq_true rfl) (Nat.le_of_ble_eq_true rfl) dJ5_init_d00df_12 (fun q12 H hP hD hS => ?_)
  replace hP : va_P D vwCl ([(x, .inr (1, [.null, .int 0, .int 0, .int 0])), (q12, .inl (cB, 16, .inl (fun _ => 0)))] : va_W) H := hP
  replace hD : va_D A ([(x, .inr (1, [.null, .int 0, .int 0, .int 0])), (q12, .inl (cB, 16, .inl (fun _ => 0)))] : va_W) := hD
  refine va_put (D := D) (ci := 1) (v := .ref q12) (ty := .array .byte) (C := RJ4) (T := TJ4) (N := 4) hx hb hts kwJ4 tyJ4 tyJ4_ok nmJ4 hown hK hP hD hS 0 rfl rfl 0 (by decide) kf_15 (fun _ h9 => h9) rfl (by decide +kernel) rfl rfl (Nat.le_of_ble_eq_true rfl) dJ5_init_d00df_14 (fun H locs hP hD hS => ?_)
  replace hP : va_P D vwCl ([(x, .inr (1, [.ref q12, .int 0, .int 0, .int 0])), (q12, .inl (cB, 16, .inl (fun _ => 0)))] : va_W) H := hP
  replace hD : va_D A ([(x, .inr (1, [.ref q12, .int 0, .int 0, .int 0])), (q12, .inl (cB, 16, .inl (fun _ => 0)))] : va_W) := hD
  refine lv_aload_n hx hb dJ5_init_d00df_17 rfl (lv_at hl 0 rfl) ?_
  refine lv_iconst (v := (0 : Int32)) hx hb dJ5_init_d00df_18 (by decide) ?_
  refine va_put (D := D) (ci := 1) (v := .int (0 : Int32)) (ty := .byte) (C := RJ4) (T := TJ4) (N := 4) hx hb hts kwJ4 tyJ4 tyJ4_ok nmJ4 hown hK hP hD hS 0 rfl rfl 1 (by decide) kf_22 (fun _ h9 => h9) rfl (by decide +kernel) rfl rfl (Nat.le_of_ble_eq_true rfl) dJ5_init_d00df_19 (fun H locs hP hD hS => ?_)
  replace hP : va_P D vwCl ([(x, .inr (1, [.ref q12, .int (0 : Int32), .int 0, .int 0])), (q12, .inl (cB, 16, .inl (fun _ => 0)))] : va_W) H := hP
  replace hD : va_D A ([(x, .inr (1, [.ref q12, .int (0 : Int32), .int 0, .int 0])), (q12, .inl (cB, 16, .inl (fun _ => 0)))] : va_W) := hD
  refine lv_goto (tgt := 38) hx hb dJ5_init_d00df_22 (by decide) ?_
  refine W.widen (k := 1) (n := 16) (by decide) (by decide) ?_
  exact W.vret hx hb hr (fun t ht hW => ⟨⟨zlist [q12], rfl, trivial, by rw [ht]; exact hP, va_K.moved hW.alike hK, hD⟩, hS.F ht⟩) hS.2.2 dJ5_init_d00df_38

set_option maxHeartbeats 4000000 in
set_option maxRecDepth 100000 in
theorem c_J4_init_da8c8 (l : Launch) (D : va_G) (cJ cI cO cB : ClassId) (x : Nat)   : zMc l yJ4_init_da8c8 wsJ4_init_da8c8 2 50 1 16 (zPx D (zT cJ cI cO cB) ([(x, .inr (1, [.null, .int 0, .int 0, .int 0]))] : va_W)) [.ref x] D (zT cJ cI cO cB) ([(x, .inr (1, [.null, .int 0, .int 0, .int 0]))] : va_W) (fun u => ([(x, .inr (1, [.ref (u 0), .int (0 : Int32), .int 0, .int 0])), ((u 0), .inl (cB, 16, .inl (fun _ => 0)))] : va_W)) := by
  intro sz
  delta zQc
  refine Met.ofW (cc := cJ4_init_da8c8) (maxL := 1) (ret := none) (by decide) rfl ?_
  intro p e s m args below meth c s₁ B hml hv
  obtain ⟨rfl, ⟨hsz, hP, hK, hD0⟩, hE⟩ := hv
  have hx := B.exec
  have hb := B.bytes
  have hr := B.returns
  have hts := atoms_spec (ws := wsJ4_init_da8c8) B.pre
  have hown : s.vm.findClass RJ4 = some m.cls := findClass_of_methodNamed B.named
  have hlocks := B.notSynchronized
  have hin : meth.name = "<init>" := (name_of_methodNamed B.named B.method).1
  subst hsz
  have hD := hD0.self (sz := s.heap.size)
  generalize hAe : va_A ([(x, .inr (1, [.null, .int 0, .int 0, .int 0]))] : va_W) s.heap.size = A at hD hE ⊢
  have hA : ∀ q : Nat, s.heap.size ≤ q → A q := fun q h => by rw [← hAe]; exact Or.inr h
  have hS : va_S A s.heap s.heap [] := va_S.rf
  have hl := lv_entry ([.ref x]) (n := 1) (Nat.le_of_ble_eq_true rfl)
  rw [lg_entry_eq]
  generalize (lg_sl ([.ref x]) ++ List.replicate (1 - (lg_sl ([.ref x])).length) Slot.unset).toArray = ls at hl ⊢
  replace hl : lv_has ls 1 [(0, .ref x)] := hl
  have kii_J5 := hts (.initialized RJ5) (zmem 3 rfl)
  have kim_J5_init_d00df := hts (.instanceMethod yJ5_init_d00df) (zmem 2 rfl)
  have km_1 := hts (.methodLink RJ4 1 yJ5_init_d00df) (zmem 1 rfl)
  obtain ⟨H, hHe⟩ : ∃ H, H = s.heap := ⟨_, rfl⟩
  rw [← hHe] at hP
  replace hS : va_S A s.heap H [] := by rw [hHe]; exact hS
  refine zheap hHe ?_
  replace hP : va_P D vwCl ([(x, .inr (1, [.null, .int 0, .int 0, .int 0]))] : va_W) H := hP
  replace hD : va_D A ([(x, .inr (1, [.null, .int 0, .int 0, .int 0]))] : va_W) := hD
  refine lv_aload_n hx hb dJ4_init_da8c8_0 rfl (lv_at hl 0 rfl) ?_
  refine lv_bipush (v := (16 : Int32)) hx hb dJ4_init_da8c8_1 (by decide) ?_
  have hPc := zsub (wn := ([(x, .inr (1, [.null, .int 0, .int 0, .int 0]))] : va_W)) hP [0] rfl
  have hDc := hD.sub (ws' := ([(x, .inr (1, [.null, .int 0, .int 0, .int 0]))] : va_W)) [0] (by decide) rfl
  refine zgoc (va_runI (As := [.int (16 : Int32)]) (rest := []) ⟨hx, hb, hml, hown, hts⟩ (c_J5_init_d00df l D cJ cI cO cB x  H.size) (cwI 1 hts gJ4_init_da8c8_J5_init_d00df rfl rfl rfl kii_J5 km_1 kim_J5_init_d00df rfl (by decide +kernel) ⟨Nat.le_of_ble_eq_true rfl, Nat.le_of_ble_eq_true rfl⟩) (zxpreS hE hS (va_free hD hS hA [0] rfl) hK hPc hDc [.ref x, .int (16 : Int32)]) rfl rfl hl.1 rfl (lv_room (Nat.le_of_ble_eq_true rfl)) dJ4_init_da8c8_3 ⟨Nat.le_of_ble_eq_true rfl, Nat.le_of_ble_eq_true rfl⟩) (va_free hD hS hA [0] rfl) (fun u => zjF (wr := ([] : va_W)) hP hD hS hA [0] [] rfl rfl (by decide) (by decide)) hS (fun u3 H locs hP hD hS => ?_)
  replace hP : va_P D vwCl ([(x, .inr (1, [.ref (u3 0), .int (0 : Int32), .int 0, .int 0])), ((u3 0), .inl (cB, 16, .inl (fun _ => 0)))] : va_W) H := hP
  replace hD : va_D A ([(x, .inr (1, [.ref (u3 0), .int (0 : Int32), .int 0, .int 0])), ((u3 0), .inl (cB, 16, .inl (fun _ => 0)))] : va_W) := hD
  refine W.widen (k := 1) (n := 16) (by decide) (by decide) ?_
  exact W.vret hx hb hr (fun t ht hW => ⟨⟨zlist [(u3 0)], rfl, trivial, by rw [ht]; exact hP, va_K.moved hW.alike hK, hD⟩, hS.F ht⟩) hS.2.2 dJ4_init_da8c8_6

