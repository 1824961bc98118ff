-- ==================== the law's wrappers: what they stand on, their contracts' form
def zK (U : State) : Prop := zN U ∧ va_Nw (.fieldLinkNest RL 13 RX8 "n" "J" RL) U ∧ va_Nw (.fieldLinkNest RL 53 RX8 "s" "Ljava/lang/String;" RL) U ∧ va_Nc (zxn 2) (zxn 1) U ∧ va_Nc (zxn 3) (zxn 1) U ∧ va_Nc (zxn 3) (zxn 2) U
theorem zK.warm {s U : State} (hW : s.WarmedH U.vm) (h : zK s) : zK U := ⟨h.1.warm hW, h.2.1.warmF hW, h.2.2.1.warmF hW, va_Nc.moved hW.alike h.2.2.2.1, va_Nc.moved hW.alike h.2.2.2.2.1, va_Nc.moved hW.alike h.2.2.2.2.2⟩
theorem zK.same {u U : State} (hv : U.vm = u.vm) (h : zK u) : zK U := ⟨h.1.same hv, h.2.1.same rfl hv.symm, h.2.2.1.same rfl hv.symm, va_Nc.moved (zalike hv) h.2.2.2.1, va_Nc.moved (zalike hv) h.2.2.2.2.1, va_Nc.moved (zalike hv) h.2.2.2.2.2⟩
abbrev zPw (D : va_G) (tys : List (ClassId × FieldType)) (ws : va_W) (sz : Nat) (U : State) : Prop := zPx D tys ws sz U ∧ zK U
abbrev zQw (D : va_G) (tys : List (ClassId × FieldType)) (W0 : va_W) (W1 : Int64 × Value → va_W) (q : Int32) (on : Int64) (sz : Nat) := va_Qi (fun (x : Int32) (u : Int64 × Value) => x = q ∧ u.1 = on) (fun u => zB D tys (va_A W0 sz) (W1 u)) (va_A W0 sz)
abbrev zMw (l : Launch) (y : MethodName) (ws : List Cond) (fr lc mc ms : Nat) (D : va_G) (tys : List (ClassId × FieldType)) (av : List Value) (W0 : va_W) (W1 : Int64 × Value → va_W) (q : Int32) (on : Int64) : Prop := ∀ sz, Met l y ws { frames := fr, cells := mc, slots := ms, locals := lc } (va_Pc av (zPw D tys W0 sz)) (zQw D tys W0 W1 q on sz) mc ms (va_A W0 sz)
theorem zpass1 {α : Type} {P : α → Prop} {a : α} (ha : P a) : ∀ z ∈ [a], P z := fun z hz => by
  rw [List.mem_singleton.mp hz]
  exact ha
theorem zpass2 {α : Type} {P : α → Prop} {a b : α} (ha : P a) (hb : P b) : ∀ z ∈ [a, b], P z := fun z hz => by
  rcases List.mem_cons.mp hz with h | h
  · rw [h]; exact ha
  · rw [List.mem_singleton.mp h]; exact hb
section ZWRAP
variable {p : Program} {l : Launch} {e : Env} {R : Room} {s : State} {m : MethodId} {args : Array Value} {below : List Frame} {meth : Method} {c : Code} {H : Heap} {locs : List Loc} {cells slots : Nat} {Q : State → Prop}
variable {pc : Nat} {ls : Array Slot} {rest st0 : List Value} {av : Array Value} {A : Nat → Prop} {H0 : Heap} {mc ms : Nat} {D : va_G} {tys : List (ClassId × FieldType)} {wc ws : va_W}
theorem zxnblind {As : List Value} {sz : Nat} : FrameBlind (va_Pc As (zPxn D tys wc sz)) := fun a U g mk q => by
  obtain ⟨q0, ⟨⟨q1, qP, qK, qD⟩, qE⟩, qN⟩ := q
  exact ⟨q0, ⟨⟨q1, qP, va_K.moved (u := U) (U := U.calling g mk a) (Vm.Alike.refl U.vm) qK, qD⟩, qE.calling⟩, qN.same rfl⟩
theorem zxnpreV (hN : zN s) (hE : zE A s H0) (hS : va_S A H0 H locs) (hf : ∀ q, va_A wc H.size q → A q) (hK : va_K D vwCl tys s) (hP : va_P D vwCl wc H) (hD : va_D A wc) {C : String} {T : u_T} {N b q0 ci : Nat} {fs : List Value} (he : wc[q0]? = some (b, .inr (ci, fs))) (hc : vwCl[ci]? = some (C, T, N)) (As : List Value) : PreV s H C b (va_Pc (.ref b :: As) (zPxn D tys wc H.size)) As :=
  ⟨zxnblind, va_recv hK hP hc he, fun U hU hW => ⟨rfl, ⟨⟨by rw [hU], by rw [hU]; exact hP, va_K.moved hW.alike hK, hD.weaken (fun _ _ _ _ => trivial)⟩, hE.call hS hf hU hW⟩, hN.warm hW⟩⟩
end ZWRAP
noncomputable def p_L_know (F : Nat) (R : Nat → Nat → Int64) (pr : Nat → Int32) (tm : Nat → Int32) (cn : Int32) (ac : Int32) (p1 : Int32) (p2 : Int32) (on : Int64) : Option (Int32 × Int64 × (Nat → Nat → Int64) × (Nat → Int32) × (Nat → Int32) × Int32 × Int32) := (zb7 (p_X7_know F R pr tm cn ac p1 p2) (fun cd1 r2 R_3 pr_4 tm_5 cn_6 ac_7 => (if cd1 = 0 then (some ((0 : Int32), (r2.toInt64), R_3, pr_4, tm_5, cn_6, ac_7)) else (if cd1 = 1 then (some ((1 : Int32), on, R_3, pr_4, tm_5, cn_6, ac_7)) else (if cd1 = 2 then (some ((2 : Int32), on, R_3, pr_4, tm_5, cn_6, ac_7)) else none)))))
theorem hdS_L_know : yL_know.cls ≠ "java/lang/invoke/MethodHandle" ∧ yL_know.cls ≠ "java/lang/invoke/VarHandle" ∧ (parseMethodDescriptor yL_know.desc).map (fun d => d.parameters.length) = some 4 := by decide +kernel
set_option maxHeartbeats 4000000 in
set_option maxRecDepth 100000 in
theorem c_L_know (l : Launch) (D : va_G) (a : Nat → Nat) (cJ cI cO cB : ClassId) (R : Nat → Nat → Int64) (b : Bool) (pr : Nat → Int32) (tm : Nat → Int32) (cn : Int32) (sm : Nat → Int32) (ac : Int32) (re : Int32) (kn : Int32) (F : Nat) (p1 : Int32) (p2 : Int32) (o : Nat) (on : Int64) (os : Value) (r : Int32) (on' : Int64) (R' : Nat → Nat → Int64) (pr' : Nat → Int32) (tm' : Nat → Int32) (cn' : Int32) (ac' : Int32) (hlt : l.stackTraces = false) (h : p_L_know F R pr tm cn ac p1 p2 on = some (r, on', R', pr', tm', cn', ac')) : zMw l yL_know wsL_know 8 136 2 12 D (zT cJ cI cO cB) [.ref (a 0), .int p1, .int p2, .ref o] (cW a cJ cI cO R b pr tm cn sm ac re kn ++ ([(o, .inr (8, [.long on, os]))])) (fun u => (cW a cJ cI cO R' b pr' tm' cn' sm ac' re kn ++ ([(o, .inr (8, [.long (u.1), u.2]))]))) r on' := by
  intro sz
  delta zQw
  refine va_MetW (cc := cL_know) (maxL := 5) (ret := (some .int)) (by decide) rfl ?_
  intro p e s m args below meth c s₁ B hml hv
  obtain ⟨rfl, ⟨⟨hsz, hP, hK, hD0⟩, hE⟩, hKk⟩ := hv
  have hx := B.exec
  have hb := B.bytes
  have hr := B.returns
  have hts := atoms_spec (ws := wsL_know) B.pre
  have hown : s.vm.findClass RL = some m.cls := findClass_of_methodNamed B.named
  have hlocks := B.notSynchronized
  subst hsz
  have hD := hD0.self (sz := s.heap.size)
  generalize hAe : va_A (cW a cJ cI cO R b pr tm cn sm ac re kn ++ ([(o, .inr (8, [.long on, os]))])) s.heap.size = A at hD hE ⊢
  have hA : ∀ q : Nat, s.heap.size ≤ q → A q := fun q h => by rw [← hAe]; exact Or.inr h
  have hS : va_S A s.heap s.heap [] := va_S.rf
  have hl := lv_entry ([.ref (a 0), .int p1, .int p2, .ref o]) (n := 5) (Nat.le_of_ble_eq_true rfl)
  rw [lg_entry_eq]
  generalize (lg_sl ([.ref (a 0), .int p1, .int p2, .ref o]) ++ List.replicate (5 - (lg_sl ([.ref (a 0), .int p1, .int p2, .ref o])).length) Slot.unset).toArray = ls at hl ⊢
  replace hl : lv_has ls 5 [(0, .ref (a 0)), (1, .int p1), (2, .int p2), (3, .ref o)] := hl
  have kwX8 : ∀ w ∈ u_ws RX8 TX8 2, w ∈ wsL_know := fun w h => List.mem_cons_of_mem _ (List.mem_append_left _ (List.mem_append_right _ h))
  have htab := vx_table (x := yL_know) B (hts (.codeWith yL_know cL_know 5 (some .int) [(0, 11, 14, 19), (0, 11, 18, 21)]) (zmem 0 rfl))
  have kc_19 := hts (.classLink RL 19 (zxn 1)) (zmem 1 rfl)
  have kc_21 := hts (.classLink RL 21 (zxn 2)) (zmem 2 rfl)
  replace h : (zb7 (p_X7_know F R pr tm cn ac p1 p2) (fun cd1 r2 R_3 pr_4 tm_5 cn_6 ac_7 => (if cd1 = 0 then (some ((0 : Int32), (r2.toInt64), R_3, pr_4, tm_5, cn_6, ac_7)) else (if cd1 = 1 then (some ((1 : Int32), on, R_3, pr_4, tm_5, cn_6, ac_7)) else (if cd1 = 2 then (some ((2 : Int32), on, R_3, pr_4, tm_5, cn_6, ac_7)) else none))))) = some (r, on', R', pr', tm', cn', ac') := h
  obtain ⟨H, hHe⟩ : ∃ H, H = s.heap := ⟨_, rfl⟩
  rw [← hHe] at hP
  replace hS : va_S A s.heap H [] := by rw [hHe]; exact hS
  refine zheap hHe ?_
  refine lv_aload_n hx hb dL_know_0 rfl (lv_at hl 3 rfl) ?_
  refine lv_aload_n hx hb dL_know_1 rfl (lv_at hl 0 rfl) ?_
  refine lv_iload_n hx hb dL_know_2 rfl (lv_at hl 1 rfl) ?_
  refine lv_iload_n hx hb dL_know_3 rfl (lv_at hl 2 rfl) ?_
  obtain ⟨cd1, r2, R_3, pr_4, tm_5, cn_6, ac_7, e8, h⟩ := zb7_some h
  have hPc := zsub (wn := (cW a cJ cI cO R b pr tm cn sm ac re kn)) hP [0, 1, 2, 3, 4, 5, 6, 7, 8, 9, 10, 11, 12, 13, 14, 15, 16, 17, 18, 19, 20] rfl
  have hDc := hD.sub (ws' := (cW a cJ cI cO R b pr tm cn sm ac re kn)) [0, 1, 2, 3, 4, 5, 6, 7, 8, 9, 10, 11, 12, 13, 14, 15, 16, 17, 18, 19, 20] (by decide) rfl
  refine zxgoi (vx_runV (As := [.int p1, .int p2]) (rest := [.ref o]) ⟨hx, hb, hml, hown, hts⟩ (c_X7_know l D a cJ cI cO cB R b pr tm cn sm ac re kn F p1 p2 cd1 r2 R_3 pr_4 tm_5 cn_6 ac_7 hlt e8 H.size) (cwV 2 hts gL_know_X7_know rfl rfl rfl hdV_X7_know ⟨Nat.le_of_ble_eq_true rfl, Nat.le_of_ble_eq_true rfl⟩) (zxpreV hE hS (va_free hD hS hA [0, 1, 2, 3, 4, 5, 6, 7, 8, 9, 10, 11, 12, 13, 14, 15, 16, 17, 18, 19, 20] rfl) (q0 := 0) (ci := 7) (T := TX7) (N := 9) hK hPc hDc rfl rfl [.int p1, .int p2]) rfl rfl hl.1 rfl (lv_room (Nat.le_of_ble_eq_true rfl)) dL_know_4 ⟨Nat.le_of_ble_eq_true rfl, Nat.le_of_ble_eq_true rfl⟩) (va_free hD hS hA [0, 1, 2, 3, 4, 5, 6, 7, 8, 9, 10, 11, 12, 13, 14, 15, 16, 17, 18, 19, 20] rfl) (zjs (wn := (cW a cJ cI cO R_3 b pr_4 tm_5 cn_6 sm ac_7 re kn ++ ([(o, .inr (8, [.long on, os]))]))) [1, 2, 3, 4, 5, 6, 7, 8, 9, 10, 11, 12, 13, 14, 15, 16, 17, 18, 19, 20, 21, 0] (zjF (wr := ([(o, .inr (8, [.long on, os]))] : va_W)) hP hD hS hA [0, 1, 2, 3, 4, 5, 6, 7, 8, 9, 10, 11, 12, 13, 14, 15, 16, 17, 18, 19, 20] [21] rfl rfl (by decide) (by decide)) rfl (by decide)) hS (fun k04 => ?_) (fun k04 H locs hP hD hS => ?_)
  · intro ce q9 H locs hP hD hS h7 h8 h9
    replace hP : va_P D vwCl (cW a cJ cI cO R_3 b pr_4 tm_5 cn_6 sm ac_7 re kn ++ ([(o, .inr (8, [.long on, os]))])) H := hP
    replace hD : va_D A (cW a cJ cI cO R_3 b pr_4 tm_5 cn_6 sm ac_7 re kn ++ ([(o, .inr (8, [.long on, os]))])) := hD
    replace h := zif_f h k04
    by_cases e14 : cd1 = 1
    · replace h := zif_t h e14
      subst e14
      refine vx_catch hown [] ⟨0, 11, 14, 19⟩ [⟨0, 11, 18, 21⟩] (htab.trans rfl) (fun z hz => nomatch hz) rfl (by decide) kc_19 (va_Nw.use rfl hE.2.2.1.2.2.2.2.2.1) h7 h8 h9 ?_
      refine lv_astore (lv' := [(4, .ref q9), (0, .ref (a 0)), (1, .int p1), (2, .int p2), (3, .ref o)]) hx hb dL_know_14 hl (by decide) rfl (fun ls hl => ?_)
      refine lv_iconst (v := (1 : Int32)) hx hb dL_know_16 (by decide) ?_
      have g0 := Option.some.inj h
      obtain ⟨h1, g1⟩ := Prod.mk.inj g0
      obtain ⟨h2, g2⟩ := Prod.mk.inj g1
      obtain ⟨h3, g3⟩ := Prod.mk.inj g2
      obtain ⟨h4, g4⟩ := Prod.mk.inj g3
      obtain ⟨h5, g5⟩ := Prod.mk.inj g4
      obtain ⟨h6, g6⟩ := Prod.mk.inj g5
      subst h1
      subst h2
      subst h3
      subst h4
      subst h5
      subst h6
      subst g6
      exact W.iret (v := (1 : Int32)) hx hb hr (fun t ht hW => ⟨⟨(1 : Int32), (on, os), rfl, ⟨rfl, rfl⟩, by rw [ht]; exact hP, va_K.moved hW.alike hK, hD⟩, hS.F ht⟩) hS.2.2 dL_know_17
    · replace h := zif_f h e14
      by_cases e24 : cd1 = 2
      · replace h := zif_t h e24
        subst e24
        refine vx_catch hown [⟨0, 11, 14, 19⟩] ⟨0, 11, 18, 21⟩ [] (htab.trans rfl) (zpass1 (Or.inr ⟨by decide, _, kc_19, hKk.2.2.2.1⟩)) rfl (by decide) kc_21 (va_Nw.use rfl hE.2.2.1.2.2.2.2.2.2.1) h7 h8 h9 ?_
        refine lv_astore (lv' := [(4, .ref q9), (0, .ref (a 0)), (1, .int p1), (2, .int p2), (3, .ref o)]) hx hb dL_know_18 hl (by decide) rfl (fun ls hl => ?_)
        refine lv_iconst (v := (2 : Int32)) hx hb dL_know_20 (by decide) ?_
        have g0 := Option.some.inj h
        obtain ⟨h1, g1⟩ := Prod.mk.inj g0
        obtain ⟨h2, g2⟩ := Prod.mk.inj g1
        obtain ⟨h3, g3⟩ := Prod.mk.inj g2
        obtain ⟨h4, g4⟩ := Prod.mk.inj g3
        obtain ⟨h5, g5⟩ := Prod.mk.inj g4
        obtain ⟨h6, g6⟩ := Prod.mk.inj g5
        subst h1
        subst h2
        subst h3
        subst h4
        subst h5
        subst h6
        subst g6
        exact W.iret (v := (2 : Int32)) hx hb hr (fun t ht hW => ⟨⟨(2 : Int32), (on, os), rfl, ⟨rfl, rfl⟩, by rw [ht]; exact hP, va_K.moved hW.alike hK, hD⟩, hS.F ht⟩) hS.2.2 dL_know_21
      · replace h := zif_f h e24
        exact (zno h).elim
  · replace h := zif_t h k04
    replace hP : va_P D vwCl (cW a cJ cI cO R_3 b pr_4 tm_5 cn_6 sm ac_7 re kn ++ ([(o, .inr (8, [.long on, os]))])) H := hP
    replace hD : va_D A (cW a cJ cI cO R_3 b pr_4 tm_5 cn_6 sm ac_7 re kn ++ ([(o, .inr (8, [.long on, os]))])) := hD
    refine lv_i2l (v := r2.toInt64) hx hb dL_know_7 rfl ?_
    refine va_putN (D := D) (ci := 8) (v := .long (r2.toInt64)) (ty := .long) (C := RX8) (T := TX8) (N := 2) hx hb hts kwX8 tyX8 tyX8_ok nmX8 hown hK hP hD hS 21 rfl rfl 0 (by decide) (va_Nw.use rfl hKk.2.1) (fun _ h9 => h9) rfl (by decide +kernel) rfl rfl (Nat.le_of_ble_eq_true rfl) dL_know_8 (fun H locs hP hD hS => ?_)
    replace hP : va_P D vwCl (cW a cJ cI cO R_3 b pr_4 tm_5 cn_6 sm ac_7 re kn ++ ([(o, .inr (8, [.long (r2.toInt64), os]))])) H := hP
    replace hD : va_D A (cW a cJ cI cO R_3 b pr_4 tm_5 cn_6 sm ac_7 re kn ++ ([(o, .inr (8, [.long (r2.toInt64), os]))])) := hD
    refine lv_goto (tgt := 22) hx hb dL_know_11 (by decide) ?_
    refine lv_iconst (v := (0 : Int32)) hx hb dL_know_22 (by decide) ?_
    have g0 := Option.some.inj h
    obtain ⟨h1, g1⟩ := Prod.mk.inj g0
    obtain ⟨h2, g2⟩ := Prod.mk.inj g1
    obtain ⟨h3, g3⟩ := Prod.mk.inj g2
    obtain ⟨h4, g4⟩ := Prod.mk.inj g3
    obtain ⟨h5, g5⟩ := Prod.mk.inj g4
    obtain ⟨h6, g6⟩ := Prod.mk.inj g5
    subst h1
    subst h2
    subst h3
    subst h4
    subst h5
    subst h6
    subst g6
    exact W.iret (v := (0 : Int32)) hx hb hr (fun t ht hW => ⟨⟨(0 : Int32), ((r2.toInt64), os), rfl, ⟨rfl, rfl⟩, by rw [ht]; exact hP, va_K.moved hW.alike hK, hD⟩, hS.F ht⟩) hS.2.2 dL_know_23

noncomputable def p_L_put (R : Nat → Nat → Int64) (ac : Int32) (p1 : Int32) (p2 : Int32) (p3 : Int32) (on : Int64) : Option (Int32 × Int64 × (Nat → Nat → Int64) × Int32) := (zb4 (p_X7_put R ac p1 p2 p3) (fun cd1 r2 R_3 ac_4 => (if cd1 = 0 then (some ((0 : Int32), (r2.toInt64), R_3, ac_4)) else (if cd1 = 1 then (some ((1 : Int32), on, R_3, ac_4)) else (if cd1 = 2 then (some ((2 : Int32), on, R_3, ac_4)) else none)))))
theorem hdS_L_put : yL_put.cls ≠ "java/lang/invoke/MethodHandle" ∧ yL_put.cls ≠ "java/lang/invoke/VarHandle" ∧ (parseMethodDescriptor yL_put.desc).map (fun d => d.parameters.length) = some 5 := by decide +kernel
set_option maxHeartbeats 4000000 in
set_option maxRecDepth 100000 in
theorem c_L_put (l : Launch) (D : va_G) (a : Nat → Nat) (cJ cI cO cB : ClassId) (R : Nat → Nat → Int64) (b : Bool) (pr : Nat → Int32) (tm : Nat → Int32) (cn : Int32) (sm : Nat → Int32) (ac : Int32) (re : Int32) (kn : Int32) (p1 : Int32) (p2 : Int32) (p3 : Int32) (o : Nat) (on : Int64) (os : Value) (r : Int32) (on' : Int64) (R' : Nat → Nat → Int64) (ac' : Int32) (hlt : l.stackTraces = false) (h : p_L_put R ac p1 p2 p3 on = some (r, on', R', ac')) : zMw l yL_put wsL_put 8 136 2 12 D (zT cJ cI cO cB) [.ref (a 0), .int p1, .int p2, .int p3, .ref o] (cW a cJ cI cO R b pr tm cn sm ac re kn ++ ([(o, .inr (8, [.long on, os]))])) (fun u => (cW a cJ cI cO R' b pr tm cn sm ac' re kn ++ ([(o, .inr (8, [.long (u.1), u.2]))]))) r on' := by
  intro sz
  delta zQw
  refine va_MetW (cc := cL_put) (maxL := 6) (ret := (some .int)) (by decide) rfl ?_
  intro p e s m args below meth c s₁ B hml hv
  obtain ⟨rfl, ⟨⟨hsz, hP, hK, hD0⟩, hE⟩, hKk⟩ := hv
  have hx := B.exec
  have hb := B.bytes
  have hr := B.returns
  have hts := atoms_spec (ws := wsL_put) B.pre
  have hown : s.vm.findClass RL = some m.cls := findClass_of_methodNamed B.named
  have hlocks := B.notSynchronized
  subst hsz
  have hD := hD0.self (sz := s.heap.size)
  generalize hAe : va_A (cW a cJ cI cO R b pr tm cn sm ac re kn ++ ([(o, .inr (8, [.long on, os]))])) s.heap.size = A at hD hE ⊢
  have hA : ∀ q : Nat, s.heap.size ≤ q → A q := fun q h => by rw [← hAe]; exact Or.inr h
  have hS : va_S A s.heap s.heap [] := va_S.rf
  have hl := lv_entry ([.ref (a 0), .int p1, .int p2, .int p3, .ref o]) (n := 6) (Nat.le_of_ble_eq_true rfl)
  rw [lg_entry_eq]
  generalize (lg_sl ([.ref (a 0), .int p1, .int p2, .int p3, .ref o]) ++ List.replicate (6 - (lg_sl ([.ref (a 0), .int p1, .int p2, .int p3, .ref o])).length) Slot.unset).toArray = ls at hl ⊢
  replace hl : lv_has ls 6 [(0, .ref (a 0)), (1, .int p1), (2, .int p2), (3, .int p3), (4, .ref o)] := hl
  have kwX8 : ∀ w ∈ u_ws RX8 TX8 2, w ∈ wsL_put := fun w h => List.mem_cons_of_mem _ (List.mem_append_left _ (List.mem_append_right _ h))
  have htab := vx_table (x := yL_put) B (hts (.codeWith yL_put cL_put 6 (some .int) [(0, 13, 16, 19), (0, 13, 20, 21)]) (zmem 0 rfl))
  have kc_19 := hts (.classLink RL 19 (zxn 1)) (zmem 1 rfl)
  have kc_21 := hts (.classLink RL 21 (zxn 2)) (zmem 2 rfl)
  replace h : (zb4 (p_X7_put R ac p1 p2 p3) (fun cd1 r2 R_3 ac_4 => (if cd1 = 0 then (some ((0 : Int32), (r2.toInt64), R_3, ac_4)) else (if cd1 = 1 then (some ((1 : Int32), on, R_3, ac_4)) else (if cd1 = 2 then (some ((2 : Int32), on, R_3, ac_4)) else none))))) = some (r, on', R', ac') := h
  obtain ⟨H, hHe⟩ : ∃ H, H = s.heap := ⟨_, rfl⟩
  rw [← hHe] at hP
  replace hS : va_S A s.heap H [] := by rw [hHe]; exact hS
  refine zheap hHe ?_
  refine lv_aload hx hb dL_put_0 (lv_at hl 4 rfl) ?_
  refine lv_aload_n hx hb dL_put_2 rfl (lv_at hl 0 rfl) ?_
  refine lv_iload_n hx hb dL_put_3 rfl (lv_at hl 1 rfl) ?_
  refine lv_iload_n hx hb dL_put_4 rfl (lv_at hl 2 rfl) ?_
  refine lv_iload_n hx hb dL_put_5 rfl (lv_at hl 3 rfl) ?_
  obtain ⟨cd1, r2, R_3, ac_4, e5, h⟩ := zb4_some h
  have hPc := zsub (wn := (cW a cJ cI cO R b pr tm cn sm ac re kn)) hP [0, 1, 2, 3, 4, 5, 6, 7, 8, 9, 10, 11, 12, 13, 14, 15, 16, 17, 18, 19, 20] rfl
  have hDc := hD.sub (ws' := (cW a cJ cI cO R b pr tm cn sm ac re kn)) [0, 1, 2, 3, 4, 5, 6, 7, 8, 9, 10, 11, 12, 13, 14, 15, 16, 17, 18, 19, 20] (by decide) rfl
  refine zxgoi (vx_runV (As := [.int p1, .int p2, .int p3]) (rest := [.ref o]) ⟨hx, hb, hml, hown, hts⟩ (c_X7_put l D a cJ cI cO cB R b pr tm cn sm ac re kn p1 p2 p3 cd1 r2 R_3 ac_4 hlt e5 H.size) (cwV 3 hts gL_put_X7_put rfl rfl rfl hdV_X7_put ⟨Nat.le_of_ble_eq_true rfl, Nat.le_of_ble_eq_true rfl⟩) (zxpreV hE hS (va_free hD hS hA [0, 1, 2, 3, 4, 5, 6, 7, 8, 9, 10, 11, 12, 13, 14, 15, 16, 17, 18, 19, 20] rfl) (q0 := 0) (ci := 7) (T := TX7) (N := 9) hK hPc hDc rfl rfl [.int p1, .int p2, .int p3]) rfl rfl hl.1 rfl (lv_room (Nat.le_of_ble_eq_true rfl)) dL_put_6 ⟨Nat.le_of_ble_eq_true rfl, Nat.le_of_ble_eq_true rfl⟩) (va_free hD hS hA [0, 1, 2, 3, 4, 5, 6, 7, 8, 9, 10, 11, 12, 13, 14, 15, 16, 17, 18, 19, 20] rfl) (zjs (wn := (cW a cJ cI cO R_3 b pr tm cn sm ac_4 re kn ++ ([(o, .inr (8, [.long on, os]))]))) [1, 2, 3, 4, 5, 6, 7, 8, 9, 10, 11, 12, 13, 14, 15, 16, 17, 18, 19, 20, 21, 0] (zjF (wr := ([(o, .inr (8, [.long on, os]))] : va_W)) hP hD hS hA [0, 1, 2, 3, 4, 5, 6, 7, 8, 9, 10, 11, 12, 13, 14, 15, 16, 17, 18, 19, 20] [21] rfl rfl (by decide) (by decide)) rfl (by decide)) hS (fun k06 => ?_) (fun k06 H locs hP hD hS => ?_)
  · intro ce q9 H locs hP hD hS h7 h8 h9
    replace hP : va_P D vwCl (cW a cJ cI cO R_3 b pr tm cn sm ac_4 re kn ++ ([(o, .inr (8, [.long on, os]))])) H := hP
    replace hD : va_D A (cW a cJ cI cO R_3 b pr tm cn sm ac_4 re kn ++ ([(o, .inr (8, [.long on, os]))])) := hD
    replace h := zif_f h k06
    by_cases e16 : cd1 = 1
    · replace h := zif_t h e16
      subst e16
      refine vx_catch hown [] ⟨0, 13, 16, 19⟩ [⟨0, 13, 20, 21⟩] (htab.trans rfl) (fun z hz => nomatch hz) rfl (by decide) kc_19 (va_Nw.use rfl hE.2.2.1.2.2.2.2.2.1) h7 h8 h9 ?_
      refine lv_astore (lv' := [(5, .ref q9), (0, .ref (a 0)), (1, .int p1), (2, .int p2), (3, .int p3), (4, .ref o)]) hx hb dL_put_16 hl (by decide) rfl (fun ls hl => ?_)
      refine lv_iconst (v := (1 : Int32)) hx hb dL_put_18 (by decide) ?_
      have g0 := Option.some.inj h
      obtain ⟨h1, g1⟩ := Prod.mk.inj g0
      obtain ⟨h2, g2⟩ := Prod.mk.inj g1
      obtain ⟨h3, g3⟩ := Prod.mk.inj g2
      subst h1
      subst h2
      subst h3
      subst g3
      exact W.iret (v := (1 : Int32)) hx hb hr (fun t ht hW => ⟨⟨(1 : Int32), (on, os), rfl, ⟨rfl, rfl⟩, by rw [ht]; exact hP, va_K.moved hW.alike hK, hD⟩, hS.F ht⟩) hS.2.2 dL_put_19
    · replace h := zif_f h e16
      by_cases e26 : cd1 = 2
      · replace h := zif_t h e26
        subst e26
        refine vx_catch hown [⟨0, 13, 16, 19⟩] ⟨0, 13, 20, 21⟩ [] (htab.trans rfl) (zpass1 (Or.inr ⟨by decide, _, kc_19, hKk.2.2.2.1⟩)) rfl (by decide) kc_21 (va_Nw.use rfl hE.2.2.1.2.2.2.2.2.2.1) h7 h8 h9 ?_
        refine lv_astore (lv' := [(5, .ref q9), (0, .ref (a 0)), (1, .int p1), (2, .int p2), (3, .int p3), (4, .ref o)]) hx hb dL_put_20 hl (by decide) rfl (fun ls hl => ?_)
        refine lv_iconst (v := (2 : Int32)) hx hb dL_put_22 (by decide) ?_
        have g0 := Option.some.inj h
        obtain ⟨h1, g1⟩ := Prod.mk.inj g0
        obtain ⟨h2, g2⟩ := Prod.mk.inj g1
        obtain ⟨h3, g3⟩ := Prod.mk.inj g2
        subst h1
        subst h2
        subst h3
        subst g3
        exact W.iret (v := (2 : Int32)) hx hb hr (fun t ht hW => ⟨⟨(2 : Int32), (on, os), rfl, ⟨rfl, rfl⟩, by rw [ht]; exact hP, va_K.moved hW.alike hK, hD⟩, hS.F ht⟩) hS.2.2 dL_put_23
      · replace h := zif_f h e26
        exact (zno h).elim
  · replace h := zif_t h k06
    replace hP : va_P D vwCl (cW a cJ cI cO R_3 b pr tm cn sm ac_4 re kn ++ ([(o, .inr (8, [.long on, os]))])) H := hP
    replace hD : va_D A (cW a cJ cI cO R_3 b pr tm cn sm ac_4 re kn ++ ([(o, .inr (8, [.long on, os]))])) := hD
    refine lv_i2l (v := r2.toInt64) hx hb dL_put_9 rfl ?_
    refine va_putN (D := D) (ci := 8) (v := .long (r2.toInt64)) (ty := .long) (C := RX8) (T := TX8) (N := 2) hx hb hts kwX8 tyX8 tyX8_ok nmX8 hown hK hP hD hS 21 rfl rfl 0 (by decide) (va_Nw.use rfl hKk.2.1) (fun _ h9 => h9) rfl (by decide +kernel) rfl rfl (Nat.le_of_ble_eq_true rfl) dL_put_10 (fun H locs hP hD hS => ?_)
    replace hP : va_P D vwCl (cW a cJ cI cO R_3 b pr tm cn sm ac_4 re kn ++ ([(o, .inr (8, [.long (r2.toInt64), os]))])) H := hP
    replace hD : va_D A (cW a cJ cI cO R_3 b pr tm cn sm ac_4 re kn ++ ([(o, .inr (8, [.long (r2.toInt64), os]))])) := hD
    refine lv_goto (tgt := 24) hx hb dL_put_13 (by decide) ?_
    refine lv_iconst (v := (0 : Int32)) hx hb dL_put_24 (by decide) ?_
    have g0 := Option.some.inj h
    obtain ⟨h1, g1⟩ := Prod.mk.inj g0
    obtain ⟨h2, g2⟩ := Prod.mk.inj g1
    obtain ⟨h3, g3⟩ := Prod.mk.inj g2
    subst h1
    subst h2
    subst h3
    subst g3
    exact W.iret (v := (0 : Int32)) hx hb hr (fun t ht hW => ⟨⟨(0 : Int32), ((r2.toInt64), os), rfl, ⟨rfl, rfl⟩, by rw [ht]; exact hP, va_K.moved hW.alike hK, hD⟩, hS.F ht⟩) hS.2.2 dL_put_25

noncomputable def p_L_putWide (R : Nat → Nat → Int64) (ac : Int32) (p1 : Int32) (p2 : Int32) (p3 : Int32) (p4 : Int32) (on : Int64) : Option (Int32 × Int64 × (Nat → Nat → Int64) × Int32) := (zb4 (p_X7_putWide R ac p1 p2 p3 p4) (fun cd1 r2 R_3 ac_4 => (if cd1 = 0 then (some ((0 : Int32), (r2.toInt64), R_3, ac_4)) else (if cd1 = 1 then (some ((1 : Int32), on, R_3, ac_4)) else (if cd1 = 2 then (some ((2 : Int32), on, R_3, ac_4)) else none)))))
theorem hdS_L_putWide : yL_putWide.cls ≠ "java/lang/invoke/MethodHandle" ∧ yL_putWide.cls ≠ "java/lang/invoke/VarHandle" ∧ (parseMethodDescriptor yL_putWide.desc).map (fun d => d.parameters.length) = some 6 := by decide +kernel
set_option maxHeartbeats 4000000 in
set_option maxRecDepth 100000 in
theorem c_L_putWide (l : Launch) (D : va_G) (a : Nat → Nat) (cJ cI cO cB : ClassId) (R : Nat → Nat → Int64) (b : Bool) (pr : Nat → Int32) (tm : Nat → Int32) (cn : Int32) (sm : Nat → Int32) (ac : Int32) (re : Int32) (kn : Int32) (p1 : Int32) (p2 : Int32) (p3 : Int32) (p4 : Int32) (o : Nat) (on : Int64) (os : Value) (r : Int32) (on' : Int64) (R' : Nat → Nat → Int64) (ac' : Int32) (hlt : l.stackTraces = false) (h : p_L_putWide R ac p1 p2 p3 p4 on = some (r, on', R', ac')) : zMw l yL_putWide wsL_putWide 8 137 2 12 D (zT cJ cI cO cB) [.ref (a 0), .int p1, .int p2, .int p3, .int p4, .ref o] (cW a cJ cI cO R b pr tm cn sm ac re kn ++ ([(o, .inr (8, [.long on, os]))])) (fun u => (cW a cJ cI cO R' b pr tm cn sm ac' re kn ++ ([(o, .inr (8, [.long (u.1), u.2]))]))) r on' := by
  intro sz
  delta zQw
  refine va_MetW (cc := cL_putWide) (maxL := 7) (ret := (some .int)) (by decide) rfl ?_
  intro p e s m args below meth c s₁ B hml hv
  obtain ⟨rfl, ⟨⟨hsz, hP, hK, hD0⟩, hE⟩, hKk⟩ := hv
  have hx := B.exec
  have hb := B.bytes
  have hr := B.returns
  have hts := atoms_spec (ws := wsL_putWide) B.pre
  have hown : s.vm.findClass RL = some m.cls := findClass_of_methodNamed B.named
  have hlocks := B.notSynchronized
  subst hsz
  have hD := hD0.self (sz := s.heap.size)
  generalize hAe : va_A (cW a cJ cI cO R b pr tm cn sm ac re kn ++ ([(o, .inr (8, [.long on, os]))])) s.heap.size = A at hD hE ⊢
  have hA : ∀ q : Nat, s.heap.size ≤ q → A q := fun q h => by rw [← hAe]; exact Or.inr h
  have hS : va_S A s.heap s.heap [] := va_S.rf
  have hl := lv_entry ([.ref (a 0), .int p1, .int p2, .int p3, .int p4, .ref o]) (n := 7) (Nat.le_of_ble_eq_true rfl)
  rw [lg_entry_eq]
  generalize (lg_sl ([.ref (a 0), .int p1, .int p2, .int p3, .int p4, .ref o]) ++ List.replicate (7 - (lg_sl ([.ref (a 0), .int p1, .int p2, .int p3, .int p4, .ref o])).length) Slot.unset).toArray = ls at hl ⊢
  replace hl : lv_has ls 7 [(0, .ref (a 0)), (1, .int p1), (2, .int p2), (3, .int p3), (4, .int p4), (5, .ref o)] := hl
  have kwX8 : ∀ w ∈ u_ws RX8 TX8 2, w ∈ wsL_putWide := fun w h => List.mem_cons_of_mem _ (List.mem_append_left _ (List.mem_append_right _ h))
  have htab := vx_table (x := yL_putWide) B (hts (.codeWith yL_putWide cL_putWide 7 (some .int) [(0, 15, 18, 19), (0, 15, 22, 21)]) (zmem 0 rfl))
  have kc_19 := hts (.classLink RL 19 (zxn 1)) (zmem 1 rfl)
  have kc_21 := hts (.classLink RL 21 (zxn 2)) (zmem 2 rfl)
  replace h : (zb4 (p_X7_putWide R ac p1 p2 p3 p4) (fun cd1 r2 R_3 ac_4 => (if cd1 = 0 then (some ((0 : Int32), (r2.toInt64), R_3, ac_4)) else (if cd1 = 1 then (some ((1 : Int32), on, R_3, ac_4)) else (if cd1 = 2 then (some ((2 : Int32), on, R_3, ac_4)) else none))))) = some (r, on', R', ac') := h
  obtain ⟨H, hHe⟩ : ∃ H, H = s.heap := ⟨_, rfl⟩
  rw [← hHe] at hP
  replace hS : va_S A s.heap H [] := by rw [hHe]; exact hS
  refine zheap hHe ?_
  refine lv_aload hx hb dL_putWide_0 (lv_at hl 5 rfl) ?_
  refine lv_aload_n hx hb dL_putWide_2 rfl (lv_at hl 0 rfl) ?_
  refine lv_iload_n hx hb dL_putWide_3 rfl (lv_at hl 1 rfl) ?_
  refine lv_iload_n hx hb dL_putWide_4 rfl (lv_at hl 2 rfl) ?_
  refine lv_iload_n hx hb dL_putWide_5 rfl (lv_at hl 3 rfl) ?_
  refine lv_iload hx hb dL_putWide_6 (lv_at hl 4 rfl) ?_
  obtain ⟨cd1, r2, R_3, ac_4, e5, h⟩ := zb4_some h
  have hPc := zsub (wn := (cW a cJ cI cO R b pr tm cn sm ac re kn)) hP [0, 1, 2, 3, 4, 5, 6, 7, 8, 9, 10, 11, 12, 13, 14, 15, 16, 17, 18, 19, 20] rfl
  have hDc := hD.sub (ws' := (cW a cJ cI cO R b pr tm cn sm ac re kn)) [0, 1, 2, 3, 4, 5, 6, 7, 8, 9, 10, 11, 12, 13, 14, 15, 16, 17, 18, 19, 20] (by decide) rfl
  refine zxgoi (vx_runV (As := [.int p1, .int p2, .int p3, .int p4]) (rest := [.ref o]) ⟨hx, hb, hml, hown, hts⟩ (c_X7_putWide l D a cJ cI cO cB R b pr tm cn sm ac re kn p1 p2 p3 p4 cd1 r2 R_3 ac_4 hlt e5 H.size) (cwV 4 hts gL_putWide_X7_putWide rfl rfl rfl hdV_X7_putWide ⟨Nat.le_of_ble_eq_true rfl, Nat.le_of_ble_eq_true rfl⟩) (zxpreV hE hS (va_free hD hS hA [0, 1, 2, 3, 4, 5, 6, 7, 8, 9, 10, 11, 12, 13, 14, 15, 16, 17, 18, 19, 20] rfl) (q0 := 0) (ci := 7) (T := TX7) (N := 9) hK hPc hDc rfl rfl [.int p1, .int p2, .int p3, .int p4]) rfl rfl hl.1 rfl (lv_room (Nat.le_of_ble_eq_true rfl)) dL_putWide_8 ⟨Nat.le_of_ble_eq_true rfl, Nat.le_of_ble_eq_true rfl⟩) (va_free hD hS hA [0, 1, 2, 3, 4, 5, 6, 7, 8, 9, 10, 11, 12, 13, 14, 15, 16, 17, 18, 19, 20] rfl) (zjs (wn := (cW a cJ cI cO R_3 b pr tm cn sm ac_4 re kn ++ ([(o, .inr (8, [.long on, os]))]))) [1, 2, 3, 4, 5, 6, 7, 8, 9, 10, 11, 12, 13, 14, 15, 16, 17, 18, 19, 20, 21, 0] (zjF (wr := ([(o, .inr (8, [.long on, os]))] : va_W)) hP hD hS hA [0, 1, 2, 3, 4, 5, 6, 7, 8, 9, 10, 11, 12, 13, 14, 15, 16, 17, 18, 19, 20] [21] rfl rfl (by decide) (by decide)) rfl (by decide)) hS (fun k08 => ?_) (fun k08 H locs hP hD hS => ?_)
  · intro ce q9 H locs hP hD hS h7 h8 h9
    replace hP : va_P D vwCl (cW a cJ cI cO R_3 b pr tm cn sm ac_4 re kn ++ ([(o, .inr (8, [.long on, os]))])) H := hP
    replace hD : va_D A (cW a cJ cI cO R_3 b pr tm cn sm ac_4 re kn ++ ([(o, .inr (8, [.long on, os]))])) := hD
    replace h := zif_f h k08
    by_cases e18 : cd1 = 1
    · replace h := zif_t h e18
      subst e18
      refine vx_catch hown [] ⟨0, 15, 18, 19⟩ [⟨0, 15, 22, 21⟩] (htab.trans rfl) (fun z hz => nomatch hz) rfl (by decide) kc_19 (va_Nw.use rfl hE.2.2.1.2.2.2.2.2.1) h7 h8 h9 ?_
      refine lv_astore (lv' := [(6, .ref q9), (0, .ref (a 0)), (1, .int p1), (2, .int p2), (3, .int p3), (4, .int p4), (5, .ref o)]) hx hb dL_putWide_18 hl (by decide) rfl (fun ls hl => ?_)
      refine lv_iconst (v := (1 : Int32)) hx hb dL_putWide_20 (by decide) ?_
      have g0 := Option.some.inj h
      obtain ⟨h1, g1⟩ := Prod.mk.inj g0
      obtain ⟨h2, g2⟩ := Prod.mk.inj g1
      obtain ⟨h3, g3⟩ := Prod.mk.inj g2
      subst h1
      subst h2
      subst h3
      subst g3
      exact W.iret (v := (1 : Int32)) hx hb hr (fun t ht hW => ⟨⟨(1 : Int32), (on, os), rfl, ⟨rfl, rfl⟩, by rw [ht]; exact hP, va_K.moved hW.alike hK, hD⟩, hS.F ht⟩) hS.2.2 dL_putWide_21
    · replace h := zif_f h e18
      by_cases e28 : cd1 = 2
      · replace h := zif_t h e28
        subst e28
        refine vx_catch hown [⟨0, 15, 18, 19⟩] ⟨0, 15, 22, 21⟩ [] (htab.trans rfl) (zpass1 (Or.inr ⟨by decide, _, kc_19, hKk.2.2.2.1⟩)) rfl (by decide) kc_21 (va_Nw.use rfl hE.2.2.1.2.2.2.2.2.2.1) h7 h8 h9 ?_
        refine lv_astore (lv' := [(6, .ref q9), (0, .ref (a 0)), (1, .int p1), (2, .int p2), (3, .int p3), (4, .int p4), (5, .ref o)]) hx hb dL_putWide_22 hl (by decide) rfl (fun ls hl => ?_)
        refine lv_iconst (v := (2 : Int32)) hx hb dL_putWide_24 (by decide) ?_
        have g0 := Option.some.inj h
        obtain ⟨h1, g1⟩ := Prod.mk.inj g0
        obtain ⟨h2, g2⟩ := Prod.mk.inj g1
        obtain ⟨h3, g3⟩ := Prod.mk.inj g2
        subst h1
        subst h2
        subst h3
        subst g3
        exact W.iret (v := (2 : Int32)) hx hb hr (fun t ht hW => ⟨⟨(2 : Int32), (on, os), rfl, ⟨rfl, rfl⟩, by rw [ht]; exact hP, va_K.moved hW.alike hK, hD⟩, hS.F ht⟩) hS.2.2 dL_putWide_25
      · replace h := zif_f h e28
        exact (zno h).elim
  · replace h := zif_t h k08
    replace hP : va_P D vwCl (cW a cJ cI cO R_3 b pr tm cn sm ac_4 re kn ++ ([(o, .inr (8, [.long on, os]))])) H := hP
    replace hD : va_D A (cW a cJ cI cO R_3 b pr tm cn sm ac_4 re kn ++ ([(o, .inr (8, [.long on, os]))])) := hD
    refine lv_i2l (v := r2.toInt64) hx hb dL_putWide_11 rfl ?_
    refine va_putN (D := D) (ci := 8) (v := .long (r2.toInt64)) (ty := .long) (C := RX8) (T := TX8) (N := 2) hx hb hts kwX8 tyX8 tyX8_ok nmX8 hown hK hP hD hS 21 rfl rfl 0 (by decide) (va_Nw.use rfl hKk.2.1) (fun _ h9 => h9) rfl (by decide +kernel) rfl rfl (Nat.le_of_ble_eq_true rfl) dL_putWide_12 (fun H locs hP hD hS => ?_)
    replace hP : va_P D vwCl (cW a cJ cI cO R_3 b pr tm cn sm ac_4 re kn ++ ([(o, .inr (8, [.long (r2.toInt64), os]))])) H := hP
    replace hD : va_D A (cW a cJ cI cO R_3 b pr tm cn sm ac_4 re kn ++ ([(o, .inr (8, [.long (r2.toInt64), os]))])) := hD
    refine lv_goto (tgt := 26) hx hb dL_putWide_15 (by decide) ?_
    refine lv_iconst (v := (0 : Int32)) hx hb dL_putWide_26 (by decide) ?_
    have g0 := Option.some.inj h
    obtain ⟨h1, g1⟩ := Prod.mk.inj g0
    obtain ⟨h2, g2⟩ := Prod.mk.inj g1
    obtain ⟨h3, g3⟩ := Prod.mk.inj g2
    subst h1
    subst h2
    subst h3
    subst g3
    exact W.iret (v := (0 : Int32)) hx hb hr (fun t ht hW => ⟨⟨(0 : Int32), ((r2.toInt64), os), rfl, ⟨rfl, rfl⟩, by rw [ht]; exact hP, va_K.moved hW.alike hK, hD⟩, hS.F ht⟩) hS.2.2 dL_putWide_27

noncomputable def p_L_sow (F : Nat) (R : Nat → Nat → Int64) (ac : Int32) (p1 : Int32) (p2 : Int32) (p3 : Int32) (on : Int64) : Option (Int32 × Int64 × (Nat → Nat → Int64) × Int32) := (zb4 (p_X7_sow F R ac p1 p2 p3) (fun cd1 r2 R_3 ac_4 => (if cd1 = 0 then (some ((0 : Int32), (r2.toInt64), R_3, ac_4)) else (if cd1 = 1 then (some ((1 : Int32), on, R_3, ac_4)) else (if cd1 = 2 then (some ((2 : Int32), on, R_3, ac_4)) else none)))))
theorem hdS_L_sow : yL_sow.cls ≠ "java/lang/invoke/MethodHandle" ∧ yL_sow.cls ≠ "java/lang/invoke/VarHandle" ∧ (parseMethodDescriptor yL_sow.desc).map (fun d => d.parameters.length) = some 5 := by decide +kernel
set_option maxHeartbeats 4000000 in
set_option maxRecDepth 100000 in
theorem c_L_sow (l : Launch) (D : va_G) (a : Nat → Nat) (cJ cI cO cB : ClassId) (R : Nat → Nat → Int64) (b : Bool) (pr : Nat → Int32) (tm : Nat → Int32) (cn : Int32) (sm : Nat → Int32) (ac : Int32) (re : Int32) (kn : Int32) (F : Nat) (p1 : Int32) (p2 : Int32) (p3 : Int32) (o : Nat) (on : Int64) (os : Value) (r : Int32) (on' : Int64) (R' : Nat → Nat → Int64) (ac' : Int32) (hlt : l.stackTraces = false) (h : p_L_sow F R ac p1 p2 p3 on = some (r, on', R', ac')) : zMw l yL_sow wsL_sow 8 141 3 18 D (zT cJ cI cO cB) [.ref (a 0), .int p1, .int p2, .int p3, .ref o] (cW a cJ cI cO R b pr tm cn sm ac re kn ++ ([(o, .inr (8, [.long on, os]))])) (fun u => (cW a cJ cI cO R' b pr tm cn sm ac' re kn ++ ([(o, .inr (8, [.long (u.1), u.2]))]))) r on' := by
  intro sz
  delta zQw
  refine va_MetW (cc := cL_sow) (maxL := 6) (ret := (some .int)) (by decide) rfl ?_
  intro p e s m args below meth c s₁ B hml hv
  obtain ⟨rfl, ⟨⟨hsz, hP, hK, hD0⟩, hE⟩, hKk⟩ := hv
  have hx := B.exec
  have hb := B.bytes
  have hr := B.returns
  have hts := atoms_spec (ws := wsL_sow) B.pre
  have hown : s.vm.findClass RL = some m.cls := findClass_of_methodNamed B.named
  have hlocks := B.notSynchronized
  subst hsz
  have hD := hD0.self (sz := s.heap.size)
  generalize hAe : va_A (cW a cJ cI cO R b pr tm cn sm ac re kn ++ ([(o, .inr (8, [.long on, os]))])) s.heap.size = A at hD hE ⊢
  have hA : ∀ q : Nat, s.heap.size ≤ q → A q := fun q h => by rw [← hAe]; exact Or.inr h
  have hS : va_S A s.heap s.heap [] := va_S.rf
  have hl := lv_entry ([.ref (a 0), .int p1, .int p2, .int p3, .ref o]) (n := 6) (Nat.le_of_ble_eq_true rfl)
  rw [lg_entry_eq]
  generalize (lg_sl ([.ref (a 0), .int p1, .int p2, .int p3, .ref o]) ++ List.replicate (6 - (lg_sl ([.ref (a 0), .int p1, .int p2, .int p3, .ref o])).length) Slot.unset).toArray = ls at hl ⊢
  replace hl : lv_has ls 6 [(0, .ref (a 0)), (1, .int p1), (2, .int p2), (3, .int p3), (4, .ref o)] := hl
  have kwX8 : ∀ w ∈ u_ws RX8 TX8 2, w ∈ wsL_sow := fun w h => List.mem_cons_of_mem _ (List.mem_append_left _ (List.mem_append_right _ h))
  have htab := vx_table (x := yL_sow) B (hts (.codeWith yL_sow cL_sow 6 (some .int) [(0, 13, 16, 19), (0, 13, 20, 21)]) (zmem 0 rfl))
  have kc_19 := hts (.classLink RL 19 (zxn 1)) (zmem 1 rfl)
  have kc_21 := hts (.classLink RL 21 (zxn 2)) (zmem 2 rfl)
  replace h : (zb4 (p_X7_sow F R ac p1 p2 p3) (fun cd1 r2 R_3 ac_4 => (if cd1 = 0 then (some ((0 : Int32), (r2.toInt64), R_3, ac_4)) else (if cd1 = 1 then (some ((1 : Int32), on, R_3, ac_4)) else (if cd1 = 2 then (some ((2 : Int32), on, R_3, ac_4)) else none))))) = some (r, on', R', ac') := h
  obtain ⟨H, hHe⟩ : ∃ H, H = s.heap := ⟨_, rfl⟩
  rw [← hHe] at hP
  replace hS : va_S A s.heap H [] := by rw [hHe]; exact hS
  refine zheap hHe ?_
  refine lv_aload hx hb dL_sow_0 (lv_at hl 4 rfl) ?_
  refine lv_aload_n hx hb dL_sow_2 rfl (lv_at hl 0 rfl) ?_
  refine lv_iload_n hx hb dL_sow_3 rfl (lv_at hl 1 rfl) ?_
  refine lv_iload_n hx hb dL_sow_4 rfl (lv_at hl 2 rfl) ?_
  refine lv_iload_n hx hb dL_sow_5 rfl (lv_at hl 3 rfl) ?_
  obtain ⟨cd1, r2, R_3, ac_4, e5, h⟩ := zb4_some h
  have hPc := zsub (wn := (cW a cJ cI cO R b pr tm cn sm ac re kn)) hP [0, 1, 2, 3, 4, 5, 6, 7, 8, 9, 10, 11, 12, 13, 14, 15, 16, 17, 18, 19, 20] rfl
  have hDc := hD.sub (ws' := (cW a cJ cI cO R b pr tm cn sm ac re kn)) [0, 1, 2, 3, 4, 5, 6, 7, 8, 9, 10, 11, 12, 13, 14, 15, 16, 17, 18, 19, 20] (by decide) rfl
  refine zxgoi (vx_runV (As := [.int p1, .int p2, .int p3]) (rest := [.ref o]) ⟨hx, hb, hml, hown, hts⟩ (c_X7_sow l D a cJ cI cO cB R b pr tm cn sm ac re kn F p1 p2 p3 cd1 r2 R_3 ac_4 hlt e5 H.size) (cwV 3 hts gL_sow_X7_sow rfl rfl rfl hdV_X7_sow ⟨Nat.le_of_ble_eq_true rfl, Nat.le_of_ble_eq_true rfl⟩) (zxpreV hE hS (va_free hD hS hA [0, 1, 2, 3, 4, 5, 6, 7, 8, 9, 10, 11, 12, 13, 14, 15, 16, 17, 18, 19, 20] rfl) (q0 := 0) (ci := 7) (T := TX7) (N := 9) hK hPc hDc rfl rfl [.int p1, .int p2, .int p3]) rfl rfl hl.1 rfl (lv_room (Nat.le_of_ble_eq_true rfl)) dL_sow_6 ⟨Nat.le_of_ble_eq_true rfl, Nat.le_of_ble_eq_true rfl⟩) (va_free hD hS hA [0, 1, 2, 3, 4, 5, 6, 7, 8, 9, 10, 11, 12, 13, 14, 15, 16, 17, 18, 19, 20] rfl) (zjs (wn := (cW a cJ cI cO R_3 b pr tm cn sm ac_4 re kn ++ ([(o, .inr (8, [.long on, os]))]))) [1, 2, 3, 4, 5, 6, 7, 8, 9, 10, 11, 12, 13, 14, 15, 16, 17, 18, 19, 20, 21, 0] (zjF (wr := ([(o, .inr (8, [.long on, os]))] : va_W)) hP hD hS hA [0, 1, 2, 3, 4, 5, 6, 7, 8, 9, 10, 11, 12, 13, 14, 15, 16, 17, 18, 19, 20] [21] rfl rfl (by decide) (by decide)) rfl (by decide)) hS (fun k06 => ?_) (fun k06 H locs hP hD hS => ?_)
  · intro ce q9 H locs hP hD hS h7 h8 h9
    replace hP : va_P D vwCl (cW a cJ cI cO R_3 b pr tm cn sm ac_4 re kn ++ ([(o, .inr (8, [.long on, os]))])) H := hP
    replace hD : va_D A (cW a cJ cI cO R_3 b pr tm cn sm ac_4 re kn ++ ([(o, .inr (8, [.long on, os]))])) := hD
    replace h := zif_f h k06
    by_cases e16 : cd1 = 1
    · replace h := zif_t h e16
      subst e16
      refine vx_catch hown [] ⟨0, 13, 16, 19⟩ [⟨0, 13, 20, 21⟩] (htab.trans rfl) (fun z hz => nomatch hz) rfl (by decide) kc_19 (va_Nw.use rfl hE.2.2.1.2.2.2.2.2.1) h7 h8 h9 ?_
      refine lv_astore (lv' := [(5, .ref q9), (0, .ref (a 0)), (1, .int p1), (2, .int p2), (3, .int p3), (4, .ref o)]) hx hb dL_sow_16 hl (by decide) rfl (fun ls hl => ?_)
      refine lv_iconst (v := (1 : Int32)) hx hb dL_sow_18 (by decide) ?_
      have g0 := Option.some.inj h
      obtain ⟨h1, g1⟩ := Prod.mk.inj g0
      obtain ⟨h2, g2⟩ := Prod.mk.inj g1
      obtain ⟨h3, g3⟩ := Prod.mk.inj g2
      subst h1
      subst h2
      subst h3
      subst g3
      exact W.iret (v := (1 : Int32)) hx hb hr (fun t ht hW => ⟨⟨(1 : Int32), (on, os), rfl, ⟨rfl, rfl⟩, by rw [ht]; exact hP, va_K.moved hW.alike hK, hD⟩, hS.F ht⟩) hS.2.2 dL_sow_19
    · replace h := zif_f h e16
      by_cases e26 : cd1 = 2
      · replace h := zif_t h e26
        subst e26
        refine vx_catch hown [⟨0, 13, 16, 19⟩] ⟨0, 13, 20, 21⟩ [] (htab.trans rfl) (zpass1 (Or.inr ⟨by decide, _, kc_19, hKk.2.2.2.1⟩)) rfl (by decide) kc_21 (va_Nw.use rfl hE.2.2.1.2.2.2.2.2.2.1) h7 h8 h9 ?_
        refine lv_astore (lv' := [(5, .ref q9), (0, .ref (a 0)), (1, .int p1), (2, .int p2), (3, .int p3), (4, .ref o)]) hx hb dL_sow_20 hl (by decide) rfl (fun ls hl => ?_)
        refine lv_iconst (v := (2 : Int32)) hx hb dL_sow_22 (by decide) ?_
        have g0 := Option.some.inj h
        obtain ⟨h1, g1⟩ := Prod.mk.inj g0
        obtain ⟨h2, g2⟩ := Prod.mk.inj g1
        obtain ⟨h3, g3⟩ := Prod.mk.inj g2
        subst h1
        subst h2
        subst h3
        subst g3
        exact W.iret (v := (2 : Int32)) hx hb hr (fun t ht hW => ⟨⟨(2 : Int32), (on, os), rfl, ⟨rfl, rfl⟩, by rw [ht]; exact hP, va_K.moved hW.alike hK, hD⟩, hS.F ht⟩) hS.2.2 dL_sow_23
      · replace h := zif_f h e26
        exact (zno h).elim
  · replace h := zif_t h k06
    replace hP : va_P D vwCl (cW a cJ cI cO R_3 b pr tm cn sm ac_4 re kn ++ ([(o, .inr (8, [.long on, os]))])) H := hP
    replace hD : va_D A (cW a cJ cI cO R_3 b pr tm cn sm ac_4 re kn ++ ([(o, .inr (8, [.long on, os]))])) := hD
    refine lv_i2l (v := r2.toInt64) hx hb dL_sow_9 rfl ?_
    refine va_putN (D := D) (ci := 8) (v := .long (r2.toInt64)) (ty := .long) (C := RX8) (T := TX8) (N := 2) hx hb hts kwX8 tyX8 tyX8_ok nmX8 hown hK hP hD hS 21 rfl rfl 0 (by decide) (va_Nw.use rfl hKk.2.1) (fun _ h9 => h9) rfl (by decide +kernel) rfl rfl (Nat.le_of_ble_eq_true rfl) dL_sow_10 (fun H locs hP hD hS => ?_)
    replace hP : va_P D vwCl (cW a cJ cI cO R_3 b pr tm cn sm ac_4 re kn ++ ([(o, .inr (8, [.long (r2.toInt64), os]))])) H := hP
    replace hD : va_D A (cW a cJ cI cO R_3 b pr tm cn sm ac_4 re kn ++ ([(o, .inr (8, [.long (r2.toInt64), os]))])) := hD
    refine lv_goto (tgt := 24) hx hb dL_sow_13 (by decide) ?_
    refine lv_iconst (v := (0 : Int32)) hx hb dL_sow_24 (by decide) ?_
    have g0 := Option.some.inj h
    obtain ⟨h1, g1⟩ := Prod.mk.inj g0
    obtain ⟨h2, g2⟩ := Prod.mk.inj g1
    obtain ⟨h3, g3⟩ := Prod.mk.inj g2
    subst h1
    subst h2
    subst h3
    subst g3
    exact W.iret (v := (0 : Int32)) hx hb hr (fun t ht hW => ⟨⟨(0 : Int32), ((r2.toInt64), os), rfl, ⟨rfl, rfl⟩, by rw [ht]; exact hP, va_K.moved hW.alike hK, hD⟩, hS.F ht⟩) hS.2.2 dL_sow_25

noncomputable def p_L_copy (F : Nat) (R : Nat → Nat → Int64) (ac : Int32) (p1 : Int32) (p2 : Int32) (on : Int64) : Option (Int32 × Int64 × (Nat → Nat → Int64) × Int32) := (zb4 (p_X7_copy F R ac p1 p2) (fun cd1 r2 R_3 ac_4 => (if cd1 = 0 then (some ((0 : Int32), (r2.toInt64), R_3, ac_4)) else (if cd1 = 1 then (some ((1 : Int32), on, R_3, ac_4)) else none))))
theorem hdS_L_copy : yL_copy.cls ≠ "java/lang/invoke/MethodHandle" ∧ yL_copy.cls ≠ "java/lang/invoke/VarHandle" ∧ (parseMethodDescriptor yL_copy.desc).map (fun d => d.parameters.length) = some 4 := by decide +kernel
set_option maxHeartbeats 4000000 in
set_option maxRecDepth 100000 in
theorem c_L_copy (l : Launch) (D : va_G) (a : Nat → Nat) (cJ cI cO cB : ClassId) (R : Nat → Nat → Int64) (b : Bool) (pr : Nat → Int32) (tm : Nat → Int32) (cn : Int32) (sm : Nat → Int32) (ac : Int32) (re : Int32) (kn : Int32) (F : Nat) (p1 : Int32) (p2 : Int32) (o : Nat) (on : Int64) (os : Value) (r : Int32) (on' : Int64) (R' : Nat → Nat → Int64) (ac' : Int32) (hlt : l.stackTraces = false) (h : p_L_copy F R ac p1 p2 on = some (r, on', R', ac')) : zMw l yL_copy wsL_copy 8 135 2 12 D (zT cJ cI cO cB) [.ref (a 0), .int p1, .int p2, .ref o] (cW a cJ cI cO R b pr tm cn sm ac re kn ++ ([(o, .inr (8, [.long on, os]))])) (fun u => (cW a cJ cI cO R' b pr tm cn sm ac' re kn ++ ([(o, .inr (8, [.long (u.1), u.2]))]))) r on' := by
  intro sz
  delta zQw
  refine va_MetW (cc := cL_copy) (maxL := 5) (ret := (some .int)) (by decide) rfl ?_
  intro p e s m args below meth c s₁ B hml hv
  obtain ⟨rfl, ⟨⟨hsz, hP, hK, hD0⟩, hE⟩, hKk⟩ := hv
  have hx := B.exec
  have hb := B.bytes
  have hr := B.returns
  have hts := atoms_spec (ws := wsL_copy) B.pre
  have hown : s.vm.findClass RL = some m.cls := findClass_of_methodNamed B.named
  have hlocks := B.notSynchronized
  subst hsz
  have hD := hD0.self (sz := s.heap.size)
  generalize hAe : va_A (cW a cJ cI cO R b pr tm cn sm ac re kn ++ ([(o, .inr (8, [.long on, os]))])) s.heap.size = A at hD hE ⊢
  have hA : ∀ q : Nat, s.heap.size ≤ q → A q := fun q h => by rw [← hAe]; exact Or.inr h
  have hS : va_S A s.heap s.heap [] := va_S.rf
  have hl := lv_entry ([.ref (a 0), .int p1, .int p2, .ref o]) (n := 5) (Nat.le_of_ble_eq_true rfl)
  rw [lg_entry_eq]
  generalize (lg_sl ([.ref (a 0), .int p1, .int p2, .ref o]) ++ List.replicate (5 - (lg_sl ([.ref (a 0), .int p1, .int p2, .ref o])).length) Slot.unset).toArray = ls at hl ⊢
  replace hl : lv_has ls 5 [(0, .ref (a 0)), (1, .int p1), (2, .int p2), (3, .ref o)] := hl
  have kwX8 : ∀ w ∈ u_ws RX8 TX8 2, w ∈ wsL_copy := fun w h => List.mem_cons_of_mem _ (List.mem_append_left _ (List.mem_append_right _ h))
  have htab := vx_table (x := yL_copy) B (hts (.codeWith yL_copy cL_copy 5 (some .int) [(0, 11, 14, 19)]) (zmem 0 rfl))
  have kc_19 := hts (.classLink RL 19 (zxn 1)) (zmem 1 rfl)
  replace h : (zb4 (p_X7_copy F R ac p1 p2) (fun cd1 r2 R_3 ac_4 => (if cd1 = 0 then (some ((0 : Int32), (r2.toInt64), R_3, ac_4)) else (if cd1 = 1 then (some ((1 : Int32), on, R_3, ac_4)) else none)))) = some (r, on', R', ac') := h
  obtain ⟨H, hHe⟩ : ∃ H, H = s.heap := ⟨_, rfl⟩
  rw [← hHe] at hP
  replace hS : va_S A s.heap H [] := by rw [hHe]; exact hS
  refine zheap hHe ?_
  refine lv_aload_n hx hb dL_copy_0 rfl (lv_at hl 3 rfl) ?_
  refine lv_aload_n hx hb dL_copy_1 rfl (lv_at hl 0 rfl) ?_
  refine lv_iload_n hx hb dL_copy_2 rfl (lv_at hl 1 rfl) ?_
  refine lv_iload_n hx hb dL_copy_3 rfl (lv_at hl 2 rfl) ?_
  obtain ⟨cd1, r2, R_3, ac_4, e5, h⟩ := zb4_some h
  have hPc := zsub (wn := (cW a cJ cI cO R b pr tm cn sm ac re kn)) hP [0, 1, 2, 3, 4, 5, 6, 7, 8, 9, 10, 11, 12, 13, 14, 15, 16, 17, 18, 19, 20] rfl
  have hDc := hD.sub (ws' := (cW a cJ cI cO R b pr tm cn sm ac re kn)) [0, 1, 2, 3, 4, 5, 6, 7, 8, 9, 10, 11, 12, 13, 14, 15, 16, 17, 18, 19, 20] (by decide) rfl
  refine zxgoi (vx_runV (As := [.int p1, .int p2]) (rest := [.ref o]) ⟨hx, hb, hml, hown, hts⟩ (c_X7_copy l D a cJ cI cO cB R b pr tm cn sm ac re kn F p1 p2 cd1 r2 R_3 ac_4 hlt e5 H.size) (cwV 2 hts gL_copy_X7_copy rfl rfl rfl hdV_X7_copy ⟨Nat.le_of_ble_eq_true rfl, Nat.le_of_ble_eq_true rfl⟩) (zxpreV hE hS (va_free hD hS hA [0, 1, 2, 3, 4, 5, 6, 7, 8, 9, 10, 11, 12, 13, 14, 15, 16, 17, 18, 19, 20] rfl) (q0 := 0) (ci := 7) (T := TX7) (N := 9) hK hPc hDc rfl rfl [.int p1, .int p2]) rfl rfl hl.1 rfl (lv_room (Nat.le_of_ble_eq_true rfl)) dL_copy_4 ⟨Nat.le_of_ble_eq_true rfl, Nat.le_of_ble_eq_true rfl⟩) (va_free hD hS hA [0, 1, 2, 3, 4, 5, 6, 7, 8, 9, 10, 11, 12, 13, 14, 15, 16, 17, 18, 19, 20] rfl) (zjs (wn := (cW a cJ cI cO R_3 b pr tm cn sm ac_4 re kn ++ ([(o, .inr (8, [.long on, os]))]))) [1, 2, 3, 4, 5, 6, 7, 8, 9, 10, 11, 12, 13, 14, 15, 16, 17, 18, 19, 20, 21, 0] (zjF (wr := ([(o, .inr (8, [.long on, os]))] : va_W)) hP hD hS hA [0, 1, 2, 3, 4, 5, 6, 7, 8, 9, 10, 11, 12, 13, 14, 15, 16, 17, 18, 19, 20] [21] rfl rfl (by decide) (by decide)) rfl (by decide)) hS (fun k04 => ?_) (fun k04 H locs hP hD hS => ?_)
  · intro ce q9 H locs hP hD hS h7 h8 h9
    replace hP : va_P D vwCl (cW a cJ cI cO R_3 b pr tm cn sm ac_4 re kn ++ ([(o, .inr (8, [.long on, os]))])) H := hP
    replace hD : va_D A (cW a cJ cI cO R_3 b pr tm cn sm ac_4 re kn ++ ([(o, .inr (8, [.long on, os]))])) := hD
    replace h := zif_f h k04
    by_cases e14 : cd1 = 1
    · replace h := zif_t h e14
      subst e14
      refine vx_catch hown [] ⟨0, 11, 14, 19⟩ [] (htab.trans rfl) (fun z hz => nomatch hz) rfl (by decide) kc_19 (va_Nw.use rfl hE.2.2.1.2.2.2.2.2.1) h7 h8 h9 ?_
      refine lv_astore (lv' := [(4, .ref q9), (0, .ref (a 0)), (1, .int p1), (2, .int p2), (3, .ref o)]) hx hb dL_copy_14 hl (by decide) rfl (fun ls hl => ?_)
      refine lv_iconst (v := (1 : Int32)) hx hb dL_copy_16 (by decide) ?_
      have g0 := Option.some.inj h
      obtain ⟨h1, g1⟩ := Prod.mk.inj g0
      obtain ⟨h2, g2⟩ := Prod.mk.inj g1
      obtain ⟨h3, g3⟩ := Prod.mk.inj g2
      subst h1
      subst h2
      subst h3
      subst g3
      exact W.iret (v := (1 : Int32)) hx hb hr (fun t ht hW => ⟨⟨(1 : Int32), (on, os), rfl, ⟨rfl, rfl⟩, by rw [ht]; exact hP, va_K.moved hW.alike hK, hD⟩, hS.F ht⟩) hS.2.2 dL_copy_17
    · replace h := zif_f h e14
      exact (zno h).elim
  · replace h := zif_t h k04
    replace hP : va_P D vwCl (cW a cJ cI cO R_3 b pr tm cn sm ac_4 re kn ++ ([(o, .inr (8, [.long on, os]))])) H := hP
    replace hD : va_D A (cW a cJ cI cO R_3 b pr tm cn sm ac_4 re kn ++ ([(o, .inr (8, [.long on, os]))])) := hD
    refine lv_i2l (v := r2.toInt64) hx hb dL_copy_7 rfl ?_
    refine va_putN (D := D) (ci := 8) (v := .long (r2.toInt64)) (ty := .long) (C := RX8) (T := TX8) (N := 2) hx hb hts kwX8 tyX8 tyX8_ok nmX8 hown hK hP hD hS 21 rfl rfl 0 (by decide) (va_Nw.use rfl hKk.2.1) (fun _ h9 => h9) rfl (by decide +kernel) rfl rfl (Nat.le_of_ble_eq_true rfl) dL_copy_8 (fun H locs hP hD hS => ?_)
    replace hP : va_P D vwCl (cW a cJ cI cO R_3 b pr tm cn sm ac_4 re kn ++ ([(o, .inr (8, [.long (r2.toInt64), os]))])) H := hP
    replace hD : va_D A (cW a cJ cI cO R_3 b pr tm cn sm ac_4 re kn ++ ([(o, .inr (8, [.long (r2.toInt64), os]))])) := hD
    refine lv_goto (tgt := 18) hx hb dL_copy_11 (by decide) ?_
    refine lv_iconst (v := (0 : Int32)) hx hb dL_copy_18 (by decide) ?_
    have g0 := Option.some.inj h
    obtain ⟨h1, g1⟩ := Prod.mk.inj g0
    obtain ⟨h2, g2⟩ := Prod.mk.inj g1
    obtain ⟨h3, g3⟩ := Prod.mk.inj g2
    subst h1
    subst h2
    subst h3
    subst g3
    exact W.iret (v := (0 : Int32)) hx hb hr (fun t ht hW => ⟨⟨(0 : Int32), ((r2.toInt64), os), rfl, ⟨rfl, rfl⟩, by rw [ht]; exact hP, va_K.moved hW.alike hK, hD⟩, hS.F ht⟩) hS.2.2 dL_copy_19

noncomputable def p_L_swap (F : Nat) (R : Nat → Nat → Int64) (ac : Int32) (p1 : Int32) (p2 : Int32) (on : Int64) : Option (Int32 × Int64 × (Nat → Nat → Int64) × Int32) := (zb4 (p_X7_swap F R ac p1 p2) (fun cd1 r2 R_3 ac_4 => (if cd1 = 0 then (some ((0 : Int32), (r2.toInt64), R_3, ac_4)) else (if cd1 = 1 then (some ((1 : Int32), on, R_3, ac_4)) else none))))
theorem hdS_L_swap : yL_swap.cls ≠ "java/lang/invoke/MethodHandle" ∧ yL_swap.cls ≠ "java/lang/invoke/VarHandle" ∧ (parseMethodDescriptor yL_swap.desc).map (fun d => d.parameters.length) = some 4 := by decide +kernel
set_option maxHeartbeats 4000000 in
set_option maxRecDepth 100000 in
theorem c_L_swap (l : Launch) (D : va_G) (a : Nat → Nat) (cJ cI cO cB : ClassId) (R : Nat → Nat → Int64) (b : Bool) (pr : Nat → Int32) (tm : Nat → Int32) (cn : Int32) (sm : Nat → Int32) (ac : Int32) (re : Int32) (kn : Int32) (F : Nat) (p1 : Int32) (p2 : Int32) (o : Nat) (on : Int64) (os : Value) (r : Int32) (on' : Int64) (R' : Nat → Nat → Int64) (ac' : Int32) (hlt : l.stackTraces = false) (h : p_L_swap F R ac p1 p2 on = some (r, on', R', ac')) : zMw l yL_swap wsL_swap 8 136 2 12 D (zT cJ cI cO cB) [.ref (a 0), .int p1, .int p2, .ref o] (cW a cJ cI cO R b pr tm cn sm ac re kn ++ ([(o, .inr (8, [.long on, os]))])) (fun u => (cW a cJ cI cO R' b pr tm cn sm ac' re kn ++ ([(o, .inr (8, [.long (u.1), u.2]))]))) r on' := by
  intro sz
  delta zQw
  refine va_MetW (cc := cL_swap) (maxL := 5) (ret := (some .int)) (by decide) rfl ?_
  intro p e s m args below meth c s₁ B hml hv
  obtain ⟨rfl, ⟨⟨hsz, hP, hK, hD0⟩, hE⟩, hKk⟩ := hv
  have hx := B.exec
  have hb := B.bytes
  have hr := B.returns
  have hts := atoms_spec (ws := wsL_swap) B.pre
  have hown : s.vm.findClass RL = some m.cls := findClass_of_methodNamed B.named
  have hlocks := B.notSynchronized
  subst hsz
  have hD := hD0.self (sz := s.heap.size)
  generalize hAe : va_A (cW a cJ cI cO R b pr tm cn sm ac re kn ++ ([(o, .inr (8, [.long on, os]))])) s.heap.size = A at hD hE ⊢
  have hA : ∀ q : Nat, s.heap.size ≤ q → A q := fun q h => by rw [← hAe]; exact Or.inr h
  have hS : va_S A s.heap s.heap [] := va_S.rf
  have hl := lv_entry ([.ref (a 0), .int p1, .int p2, .ref o]) (n := 5) (Nat.le_of_ble_eq_true rfl)
  rw [lg_entry_eq]
  generalize (lg_sl ([.ref (a 0), .int p1, .int p2, .ref o]) ++ List.replicate (5 - (lg_sl ([.ref (a 0), .int p1, .int p2, .ref o])).length) Slot.unset).toArray = ls at hl ⊢
  replace hl : lv_has ls 5 [(0, .ref (a 0)), (1, .int p1), (2, .int p2), (3, .ref o)] := hl
  have kwX8 : ∀ w ∈ u_ws RX8 TX8 2, w ∈ wsL_swap := fun w h => List.mem_cons_of_mem _ (List.mem_append_left _ (List.mem_append_right _ h))
  have htab := vx_table (x := yL_swap) B (hts (.codeWith yL_swap cL_swap 5 (some .int) [(0, 11, 14, 19)]) (zmem 0 rfl))
  have kc_19 := hts (.classLink RL 19 (zxn 1)) (zmem 1 rfl)
  replace h : (zb4 (p_X7_swap F R ac p1 p2) (fun cd1 r2 R_3 ac_4 => (if cd1 = 0 then (some ((0 : Int32), (r2.toInt64), R_3, ac_4)) else (if cd1 = 1 then (some ((1 : Int32), on, R_3, ac_4)) else none)))) = some (r, on', R', ac') := h
  obtain ⟨H, hHe⟩ : ∃ H, H = s.heap := ⟨_, rfl⟩
  rw [← hHe] at hP
  replace hS : va_S A s.heap H [] := by rw [hHe]; exact hS
  refine zheap hHe ?_
  refine lv_aload_n hx hb dL_swap_0 rfl (lv_at hl 3 rfl) ?_
  refine lv_aload_n hx hb dL_swap_1 rfl (lv_at hl 0 rfl) ?_
  refine lv_iload_n hx hb dL_swap_2 rfl (lv_at hl 1 rfl) ?_
  refine lv_iload_n hx hb dL_swap_3 rfl (lv_at hl 2 rfl) ?_
  obtain ⟨cd1, r2, R_3, ac_4, e5, h⟩ := zb4_some h
  have hPc := zsub (wn := (cW a cJ cI cO R b pr tm cn sm ac re kn)) hP [0, 1, 2, 3, 4, 5, 6, 7, 8, 9, 10, 11, 12, 13, 14, 15, 16, 17, 18, 19, 20] rfl
  have hDc := hD.sub (ws' := (cW a cJ cI cO R b pr tm cn sm ac re kn)) [0, 1, 2, 3, 4, 5, 6, 7, 8, 9, 10, 11, 12, 13, 14, 15, 16, 17, 18, 19, 20] (by decide) rfl
  refine zxgoi (vx_runV (As := [.int p1, .int p2]) (rest := [.ref o]) ⟨hx, hb, hml, hown, hts⟩ (c_X7_swap l D a cJ cI cO cB R b pr tm cn sm ac re kn F p1 p2 cd1 r2 R_3 ac_4 hlt e5 H.size) (cwV 2 hts gL_swap_X7_swap rfl rfl rfl hdV_X7_swap ⟨Nat.le_of_ble_eq_true rfl, Nat.le_of_ble_eq_true rfl⟩) (zxpreV hE hS (va_free hD hS hA [0, 1, 2, 3, 4, 5, 6, 7, 8, 9, 10, 11, 12, 13, 14, 15, 16, 17, 18, 19, 20] rfl) (q0 := 0) (ci := 7) (T := TX7) (N := 9) hK hPc hDc rfl rfl [.int p1, .int p2]) rfl rfl hl.1 rfl (lv_room (Nat.le_of_ble_eq_true rfl)) dL_swap_4 ⟨Nat.le_of_ble_eq_true rfl, Nat.le_of_ble_eq_true rfl⟩) (va_free hD hS hA [0, 1, 2, 3, 4, 5, 6, 7, 8, 9, 10, 11, 12, 13, 14, 15, 16, 17, 18, 19, 20] rfl) (zjs (wn := (cW a cJ cI cO R_3 b pr tm cn sm ac_4 re kn ++ ([(o, .inr (8, [.long on, os]))]))) [1, 2, 3, 4, 5, 6, 7, 8, 9, 10, 11, 12, 13, 14, 15, 16, 17, 18, 19, 20, 21, 0] (zjF (wr := ([(o, .inr (8, [.long on, os]))] : va_W)) hP hD hS hA [0, 1, 2, 3, 4, 5, 6, 7, 8, 9, 10, 11, 12, 13, 14, 15, 16, 17, 18, 19, 20] [21] rfl rfl (by decide) (by decide)) rfl (by decide)) hS (fun k04 => ?_) (fun k04 H locs hP hD hS => ?_)
  · intro ce q9 H locs hP hD hS h7 h8 h9
    replace hP : va_P D vwCl (cW a cJ cI cO R_3 b pr tm cn sm ac_4 re kn ++ ([(o, .inr (8, [.long on, os]))])) H := hP
    replace hD : va_D A (cW a cJ cI cO R_3 b pr tm cn sm ac_4 re kn ++ ([(o, .inr (8, [.long on, os]))])) := hD
    replace h := zif_f h k04
    by_cases e14 : cd1 = 1
    · replace h := zif_t h e14
      subst e14
      refine vx_catch hown [] ⟨0, 11, 14, 19⟩ [] (htab.trans rfl) (fun z hz => nomatch hz) rfl (by decide) kc_19 (va_Nw.use rfl hE.2.2.1.2.2.2.2.2.1) h7 h8 h9 ?_
      refine lv_astore (lv' := [(4, .ref q9), (0, .ref (a 0)), (1, .int p1), (2, .int p2), (3, .ref o)]) hx hb dL_swap_14 hl (by decide) rfl (fun ls hl => ?_)
      refine lv_iconst (v := (1 : Int32)) hx hb dL_swap_16 (by decide) ?_
      have g0 := Option.some.inj h
      obtain ⟨h1, g1⟩ := Prod.mk.inj g0
      obtain ⟨h2, g2⟩ := Prod.mk.inj g1
      obtain ⟨h3, g3⟩ := Prod.mk.inj g2
      subst h1
      subst h2
      subst h3
      subst g3
      exact W.iret (v := (1 : Int32)) hx hb hr (fun t ht hW => ⟨⟨(1 : Int32), (on, os), rfl, ⟨rfl, rfl⟩, by rw [ht]; exact hP, va_K.moved hW.alike hK, hD⟩, hS.F ht⟩) hS.2.2 dL_swap_17
    · replace h := zif_f h e14
      exact (zno h).elim
  · replace h := zif_t h k04
    replace hP : va_P D vwCl (cW a cJ cI cO R_3 b pr tm cn sm ac_4 re kn ++ ([(o, .inr (8, [.long on, os]))])) H := hP
    replace hD : va_D A (cW a cJ cI cO R_3 b pr tm cn sm ac_4 re kn ++ ([(o, .inr (8, [.long on, os]))])) := hD
    refine lv_i2l (v := r2.toInt64) hx hb dL_swap_7 rfl ?_
    refine va_putN (D := D) (ci := 8) (v := .long (r2.toInt64)) (ty := .long) (C := RX8) (T := TX8) (N := 2) hx hb hts kwX8 tyX8 tyX8_ok nmX8 hown hK hP hD hS 21 rfl rfl 0 (by decide) (va_Nw.use rfl hKk.2.1) (fun _ h9 => h9) rfl (by decide +kernel) rfl rfl (Nat.le_of_ble_eq_true rfl) dL_swap_8 (fun H locs hP hD hS => ?_)
    replace hP : va_P D vwCl (cW a cJ cI cO R_3 b pr tm cn sm ac_4 re kn ++ ([(o, .inr (8, [.long (r2.toInt64), os]))])) H := hP
    replace hD : va_D A (cW a cJ cI cO R_3 b pr tm cn sm ac_4 re kn ++ ([(o, .inr (8, [.long (r2.toInt64), os]))])) := hD
    refine lv_goto (tgt := 18) hx hb dL_swap_11 (by decide) ?_
    refine lv_iconst (v := (0 : Int32)) hx hb dL_swap_18 (by decide) ?_
    have g0 := Option.some.inj h
    obtain ⟨h1, g1⟩ := Prod.mk.inj g0
    obtain ⟨h2, g2⟩ := Prod.mk.inj g1
    obtain ⟨h3, g3⟩ := Prod.mk.inj g2
    subst h1
    subst h2
    subst h3
    subst g3
    exact W.iret (v := (0 : Int32)) hx hb hr (fun t ht hW => ⟨⟨(0 : Int32), ((r2.toInt64), os), rfl, ⟨rfl, rfl⟩, by rw [ht]; exact hP, va_K.moved hW.alike hK, hD⟩, hS.F ht⟩) hS.2.2 dL_swap_19

noncomputable def p_L_meet (F : Nat) (R : Nat → Nat → Int64) (b : Bool) (ac : Int32) (re : Int32) (p1 : Int32) (p2 : Int32) (p3 : Int32) (p4 : Int32) (on : Int64) : Option (Int32 × Int64 × (Nat → Nat → Int64) × Bool × Int32 × Int32) := (zb6 (p_X7_meet F R b ac re p1 p2 p3 p4) (fun cd1 r2 R_3 b_4 ac_5 re_6 => (if cd1 = 0 then (some ((0 : Int32), (r2.toInt64), R_3, b_4, ac_5, re_6)) else (if cd1 = 1 then (some ((1 : Int32), on, R_3, b_4, ac_5, re_6)) else (if cd1 = 2 then (some ((2 : Int32), on, R_3, b_4, ac_5, re_6)) else none)))))
theorem hdS_L_meet : yL_meet.cls ≠ "java/lang/invoke/MethodHandle" ∧ yL_meet.cls ≠ "java/lang/invoke/VarHandle" ∧ (parseMethodDescriptor yL_meet.desc).map (fun d => d.parameters.length) = some 6 := by decide +kernel
set_option maxHeartbeats 4000000 in
set_option maxRecDepth 100000 in
theorem c_L_meet (l : Launch) (D : va_G) (a : Nat → Nat) (cJ cI cO cB : ClassId) (R : Nat → Nat → Int64) (b : Bool) (pr : Nat → Int32) (tm : Nat → Int32) (cn : Int32) (sm : Nat → Int32) (ac : Int32) (re : Int32) (kn : Int32) (F : Nat) (p1 : Int32) (p2 : Int32) (p3 : Int32) (p4 : Int32) (o : Nat) (on : Int64) (os : Value) (r : Int32) (on' : Int64) (R' : Nat → Nat → Int64) (b' : Bool) (ac' : Int32) (re' : Int32) (hlt : l.stackTraces = false) (h : p_L_meet F R b ac re p1 p2 p3 p4 on = some (r, on', R', b', ac', re')) : zMw l yL_meet wsL_meet 8 139 4 24 D (zT cJ cI cO cB) [.ref (a 0), .int p1, .int p2, .int p3, .int p4, .ref o] (cW a cJ cI cO R b pr tm cn sm ac re kn ++ ([(o, .inr (8, [.long on, os]))])) (fun u => (cW a cJ cI cO R' b' pr tm cn sm ac' re' kn ++ ([(o, .inr (8, [.long (u.1), u.2]))]))) r on' := by
  intro sz
  delta zQw
  refine va_MetW (cc := cL_meet) (maxL := 7) (ret := (some .int)) (by decide) rfl ?_
  intro p e s m args below meth c s₁ B hml hv
  obtain ⟨rfl, ⟨⟨hsz, hP, hK, hD0⟩, hE⟩, hKk⟩ := hv
  have hx := B.exec
  have hb := B.bytes
  have hr := B.returns
  have hts := atoms_spec (ws := wsL_meet) B.pre
  have hown : s.vm.findClass RL = some m.cls := findClass_of_methodNamed B.named
  have hlocks := B.notSynchronized
  subst hsz
  have hD := hD0.self (sz := s.heap.size)
  generalize hAe : va_A (cW a cJ cI cO R b pr tm cn sm ac re kn ++ ([(o, .inr (8, [.long on, os]))])) s.heap.size = A at hD hE ⊢
  have hA : ∀ q : Nat, s.heap.size ≤ q → A q := fun q h => by rw [← hAe]; exact Or.inr h
  have hS : va_S A s.heap s.heap [] := va_S.rf
  have hl := lv_entry ([.ref (a 0), .int p1, .int p2, .int p3, .int p4, .ref o]) (n := 7) (Nat.le_of_ble_eq_true rfl)
  rw [lg_entry_eq]
  generalize (lg_sl ([.ref (a 0), .int p1, .int p2, .int p3, .int p4, .ref o]) ++ List.replicate (7 - (lg_sl ([.ref (a 0), .int p1, .int p2, .int p3, .int p4, .ref o])).length) Slot.unset).toArray = ls at hl ⊢
  replace hl : lv_has ls 7 [(0, .ref (a 0)), (1, .int p1), (2, .int p2), (3, .int p3), (4, .int p4), (5, .ref o)] := hl
  have kwX8 : ∀ w ∈ u_ws RX8 TX8 2, w ∈ wsL_meet := fun w h => List.mem_cons_of_mem _ (List.mem_append_left _ (List.mem_append_right _ h))
  have htab := vx_table (x := yL_meet) B (hts (.codeWith yL_meet cL_meet 7 (some .int) [(0, 15, 18, 19), (0, 15, 22, 21)]) (zmem 0 rfl))
  have kc_19 := hts (.classLink RL 19 (zxn 1)) (zmem 1 rfl)
  have kc_21 := hts (.classLink RL 21 (zxn 2)) (zmem 2 rfl)
  replace h : (zb6 (p_X7_meet F R b ac re p1 p2 p3 p4) (fun cd1 r2 R_3 b_4 ac_5 re_6 => (if cd1 = 0 then (some ((0 : Int32), (r2.toInt64), R_3, b_4, ac_5, re_6)) else (if cd1 = 1 then (some ((1 : Int32), on, R_3, b_4, ac_5, re_6)) else (if cd1 = 2 then (some ((2 : Int32), on, R_3, b_4, ac_5, re_6)) else none))))) = some (r, on', R', b', ac', re') := h
  obtain ⟨H, hHe⟩ : ∃ H, H = s.heap := ⟨_, rfl⟩
  rw [← hHe] at hP
  replace hS : va_S A s.heap H [] := by rw [hHe]; exact hS
  refine zheap hHe ?_
  refine lv_aload hx hb dL_meet_0 (lv_at hl 5 rfl) ?_
  refine lv_aload_n hx hb dL_meet_2 rfl (lv_at hl 0 rfl) ?_
  refine lv_iload_n hx hb dL_meet_3 rfl (lv_at hl 1 rfl) ?_
  refine lv_iload_n hx hb dL_meet_4 rfl (lv_at hl 2 rfl) ?_
  refine lv_iload_n hx hb dL_meet_5 rfl (lv_at hl 3 rfl) ?_
  refine lv_iload hx hb dL_meet_6 (lv_at hl 4 rfl) ?_
  obtain ⟨cd1, r2, R_3, b_4, ac_5, re_6, e7, h⟩ := zb6_some h
  have hPc := zsub (wn := (cW a cJ cI cO R b pr tm cn sm ac re kn)) hP [0, 1, 2, 3, 4, 5, 6, 7, 8, 9, 10, 11, 12, 13, 14, 15, 16, 17, 18, 19, 20] rfl
  have hDc := hD.sub (ws' := (cW a cJ cI cO R b pr tm cn sm ac re kn)) [0, 1, 2, 3, 4, 5, 6, 7, 8, 9, 10, 11, 12, 13, 14, 15, 16, 17, 18, 19, 20] (by decide) rfl
  refine zxgoi (vx_runV (As := [.int p1, .int p2, .int p3, .int p4]) (rest := [.ref o]) ⟨hx, hb, hml, hown, hts⟩ (c_X7_meet l D a cJ cI cO cB R b pr tm cn sm ac re kn F p1 p2 p3 p4 cd1 r2 R_3 b_4 ac_5 re_6 hlt e7 H.size) (cwV 4 hts gL_meet_X7_meet rfl rfl rfl hdV_X7_meet ⟨Nat.le_of_ble_eq_true rfl, Nat.le_of_ble_eq_true rfl⟩) (zxpreV hE hS (va_free hD hS hA [0, 1, 2, 3, 4, 5, 6, 7, 8, 9, 10, 11, 12, 13, 14, 15, 16, 17, 18, 19, 20] rfl) (q0 := 0) (ci := 7) (T := TX7) (N := 9) hK hPc hDc rfl rfl [.int p1, .int p2, .int p3, .int p4]) rfl rfl hl.1 rfl (lv_room (Nat.le_of_ble_eq_true rfl)) dL_meet_8 ⟨Nat.le_of_ble_eq_true rfl, Nat.le_of_ble_eq_true rfl⟩) (va_free hD hS hA [0, 1, 2, 3, 4, 5, 6, 7, 8, 9, 10, 11, 12, 13, 14, 15, 16, 17, 18, 19, 20] rfl) (zjs (wn := (cW a cJ cI cO R_3 b_4 pr tm cn sm ac_5 re_6 kn ++ ([(o, .inr (8, [.long on, os]))]))) [1, 2, 3, 4, 5, 6, 7, 8, 9, 10, 11, 12, 13, 14, 15, 16, 17, 18, 19, 20, 21, 0] (zjF (wr := ([(o, .inr (8, [.long on, os]))] : va_W)) hP hD hS hA [0, 1, 2, 3, 4, 5, 6, 7, 8, 9, 10, 11, 12, 13, 14, 15, 16, 17, 18, 19, 20] [21] rfl rfl (by decide) (by decide)) rfl (by decide)) hS (fun k08 => ?_) (fun k08 H locs hP hD hS => ?_)
  · intro ce q9 H locs hP hD hS h7 h8 h9
    replace hP : va_P D vwCl (cW a cJ cI cO R_3 b_4 pr tm cn sm ac_5 re_6 kn ++ ([(o, .inr (8, [.long on, os]))])) H := hP
    replace hD : va_D A (cW a cJ cI cO R_3 b_4 pr tm cn sm ac_5 re_6 kn ++ ([(o, .inr (8, [.long on, os]))])) := hD
    replace h := zif_f h k08
    by_cases e18 : cd1 = 1
    · replace h := zif_t h e18
      subst e18
      refine vx_catch hown [] ⟨0, 15, 18, 19⟩ [⟨0, 15, 22, 21⟩] (htab.trans rfl) (fun z hz => nomatch hz) rfl (by decide) kc_19 (va_Nw.use rfl hE.2.2.1.2.2.2.2.2.1) h7 h8 h9 ?_
      refine lv_astore (lv' := [(6, .ref q9), (0, .ref (a 0)), (1, .int p1), (2, .int p2), (3, .int p3), (4, .int p4), (5, .ref o)]) hx hb dL_meet_18 hl (by decide) rfl (fun ls hl => ?_)
      refine lv_iconst (v := (1 : Int32)) hx hb dL_meet_20 (by decide) ?_
      have g0 := Option.some.inj h
      obtain ⟨h1, g1⟩ := Prod.mk.inj g0
      obtain ⟨h2, g2⟩ := Prod.mk.inj g1
      obtain ⟨h3, g3⟩ := Prod.mk.inj g2
      obtain ⟨h4, g4⟩ := Prod.mk.inj g3
      obtain ⟨h5, g5⟩ := Prod.mk.inj g4
      subst h1
      subst h2
      subst h3
      subst h4
      subst h5
      subst g5
      exact W.iret (v := (1 : Int32)) hx hb hr (fun t ht hW => ⟨⟨(1 : Int32), (on, os), rfl, ⟨rfl, rfl⟩, by rw [ht]; exact hP, va_K.moved hW.alike hK, hD⟩, hS.F ht⟩) hS.2.2 dL_meet_21
    · replace h := zif_f h e18
      by_cases e28 : cd1 = 2
      · replace h := zif_t h e28
        subst e28
        refine vx_catch hown [⟨0, 15, 18, 19⟩] ⟨0, 15, 22, 21⟩ [] (htab.trans rfl) (zpass1 (Or.inr ⟨by decide, _, kc_19, hKk.2.2.2.1⟩)) rfl (by decide) kc_21 (va_Nw.use rfl hE.2.2.1.2.2.2.2.2.2.1) h7 h8 h9 ?_
        refine lv_astore (lv' := [(6, .ref q9), (0, .ref (a 0)), (1, .int p1), (2, .int p2), (3, .int p3), (4, .int p4), (5, .ref o)]) hx hb dL_meet_22 hl (by decide) rfl (fun ls hl => ?_)
        refine lv_iconst (v := (2 : Int32)) hx hb dL_meet_24 (by decide) ?_
        have g0 := Option.some.inj h
        obtain ⟨h1, g1⟩ := Prod.mk.inj g0
        obtain ⟨h2, g2⟩ := Prod.mk.inj g1
        obtain ⟨h3, g3⟩ := Prod.mk.inj g2
        obtain ⟨h4, g4⟩ := Prod.mk.inj g3
        obtain ⟨h5, g5⟩ := Prod.mk.inj g4
        subst h1
        subst h2
        subst h3
        subst h4
        subst h5
        subst g5
        exact W.iret (v := (2 : Int32)) hx hb hr (fun t ht hW => ⟨⟨(2 : Int32), (on, os), rfl, ⟨rfl, rfl⟩, by rw [ht]; exact hP, va_K.moved hW.alike hK, hD⟩, hS.F ht⟩) hS.2.2 dL_meet_25
      · replace h := zif_f h e28
        exact (zno h).elim
  · replace h := zif_t h k08
    replace hP : va_P D vwCl (cW a cJ cI cO R_3 b_4 pr tm cn sm ac_5 re_6 kn ++ ([(o, .inr (8, [.long on, os]))])) H := hP
    replace hD : va_D A (cW a cJ cI cO R_3 b_4 pr tm cn sm ac_5 re_6 kn ++ ([(o, .inr (8, [.long on, os]))])) := hD
    refine lv_i2l (v := r2.toInt64) hx hb dL_meet_11 rfl ?_
    refine va_putN (D := D) (ci := 8) (v := .long (r2.toInt64)) (ty := .long) (C := RX8) (T := TX8) (N := 2) hx hb hts kwX8 tyX8 tyX8_ok nmX8 hown hK hP hD hS 21 rfl rfl 0 (by decide) (va_Nw.use rfl hKk.2.1) (fun _ h9 => h9) rfl (by decide +kernel) rfl rfl (Nat.le_of_ble_eq_true rfl) dL_meet_12 (fun H locs hP hD hS => ?_)
    replace hP : va_P D vwCl (cW a cJ cI cO R_3 b_4 pr tm cn sm ac_5 re_6 kn ++ ([(o, .inr (8, [.long (r2.toInt64), os]))])) H := hP
    replace hD : va_D A (cW a cJ cI cO R_3 b_4 pr tm cn sm ac_5 re_6 kn ++ ([(o, .inr (8, [.long (r2.toInt64), os]))])) := hD
    refine lv_goto (tgt := 26) hx hb dL_meet_15 (by decide) ?_
    refine lv_iconst (v := (0 : Int32)) hx hb dL_meet_26 (by decide) ?_
    have g0 := Option.some.inj h
    obtain ⟨h1, g1⟩ := Prod.mk.inj g0
    obtain ⟨h2, g2⟩ := Prod.mk.inj g1
    obtain ⟨h3, g3⟩ := Prod.mk.inj g2
    obtain ⟨h4, g4⟩ := Prod.mk.inj g3
    obtain ⟨h5, g5⟩ := Prod.mk.inj g4
    subst h1
    subst h2
    subst h3
    subst h4
    subst h5
    subst g5
    exact W.iret (v := (0 : Int32)) hx hb hr (fun t ht hW => ⟨⟨(0 : Int32), ((r2.toInt64), os), rfl, ⟨rfl, rfl⟩, by rw [ht]; exact hP, va_K.moved hW.alike hK, hD⟩, hS.F ht⟩) hS.2.2 dL_meet_27

noncomputable def p_L_multiply (F : Nat) (R : Nat → Nat → Int64) (b : Bool) (ac : Int32) (re : Int32) (p1 : Int32) (p2 : Int32) (p3 : Int32) (on : Int64) : Option (Int32 × Int64 × (Nat → Nat → Int64) × Bool × Int32 × Int32) := (zb6 (p_X7_multiply F R b ac re p1 p2 p3) (fun cd1 r2 R_3 b_4 ac_5 re_6 => (if cd1 = 0 then (some ((0 : Int32), (r2.toInt64), R_3, b_4, ac_5, re_6)) else (if cd1 = 1 then (some ((1 : Int32), on, R_3, b_4, ac_5, re_6)) else none))))
theorem hdS_L_multiply : yL_multiply.cls ≠ "java/lang/invoke/MethodHandle" ∧ yL_multiply.cls ≠ "java/lang/invoke/VarHandle" ∧ (parseMethodDescriptor yL_multiply.desc).map (fun d => d.parameters.length) = some 5 := by decide +kernel
set_option maxHeartbeats 4000000 in
set_option maxRecDepth 100000 in
theorem c_L_multiply (l : Launch) (D : va_G) (a : Nat → Nat) (cJ cI cO cB : ClassId) (R : Nat → Nat → Int64) (b : Bool) (pr : Nat → Int32) (tm : Nat → Int32) (cn : Int32) (sm : Nat → Int32) (ac : Int32) (re : Int32) (kn : Int32) (F : Nat) (p1 : Int32) (p2 : Int32) (p3 : Int32) (o : Nat) (on : Int64) (os : Value) (r : Int32) (on' : Int64) (R' : Nat → Nat → Int64) (b' : Bool) (ac' : Int32) (re' : Int32) (hlt : l.stackTraces = false) (h : p_L_multiply F R b ac re p1 p2 p3 on = some (r, on', R', b', ac', re')) : zMw l yL_multiply wsL_multiply 8 137 3 18 D (zT cJ cI cO cB) [.ref (a 0), .int p1, .int p2, .int p3, .ref o] (cW a cJ cI cO R b pr tm cn sm ac re kn ++ ([(o, .inr (8, [.long on, os]))])) (fun u => (cW a cJ cI cO R' b' pr tm cn sm ac' re' kn ++ ([(o, .inr (8, [.long (u.1), u.2]))]))) r on' := by
  intro sz
  delta zQw
  refine va_MetW (cc := cL_multiply) (maxL := 6) (ret := (some .int)) (by decide) rfl ?_
  intro p e s m args below meth c s₁ B hml hv
  obtain ⟨rfl, ⟨⟨hsz, hP, hK, hD0⟩, hE⟩, hKk⟩ := hv
  have hx := B.exec
  have hb := B.bytes
  have hr := B.returns
  have hts := atoms_spec (ws := wsL_multiply) B.pre
  have hown : s.vm.findClass RL = some m.cls := findClass_of_methodNamed B.named
  have hlocks := B.notSynchronized
  subst hsz
  have hD := hD0.self (sz := s.heap.size)
  generalize hAe : va_A (cW a cJ cI cO R b pr tm cn sm ac re kn ++ ([(o, .inr (8, [.long on, os]))])) s.heap.size = A at hD hE ⊢
  have hA : ∀ q : Nat, s.heap.size ≤ q → A q := fun q h => by rw [← hAe]; exact Or.inr h
  have hS : va_S A s.heap s.heap [] := va_S.rf
  have hl := lv_entry ([.ref (a 0), .int p1, .int p2, .int p3, .ref o]) (n := 6) (Nat.le_of_ble_eq_true rfl)
  rw [lg_entry_eq]
  generalize (lg_sl ([.ref (a 0), .int p1, .int p2, .int p3, .ref o]) ++ List.replicate (6 - (lg_sl ([.ref (a 0), .int p1, .int p2, .int p3, .ref o])).length) Slot.unset).toArray = ls at hl ⊢
  replace hl : lv_has ls 6 [(0, .ref (a 0)), (1, .int p1), (2, .int p2), (3, .int p3), (4, .ref o)] := hl
  have kwX8 : ∀ w ∈ u_ws RX8 TX8 2, w ∈ wsL_multiply := fun w h => List.mem_cons_of_mem _ (List.mem_append_left _ (List.mem_append_right _ h))
  have htab := vx_table (x := yL_multiply) B (hts (.codeWith yL_multiply cL_multiply 6 (some .int) [(0, 13, 16, 19)]) (zmem 0 rfl))
  have kc_19 := hts (.classLink RL 19 (zxn 1)) (zmem 1 rfl)
  replace h : (zb6 (p_X7_multiply F R b ac re p1 p2 p3) (fun cd1 r2 R_3 b_4 ac_5 re_6 => (if cd1 = 0 then (some ((0 : Int32), (r2.toInt64), R_3, b_4, ac_5, re_6)) else (if cd1 = 1 then (some ((1 : Int32), on, R_3, b_4, ac_5, re_6)) else none)))) = some (r, on', R', b', ac', re') := h
  obtain ⟨H, hHe⟩ : ∃ H, H = s.heap := ⟨_, rfl⟩
  rw [← hHe] at hP
  replace hS : va_S A s.heap H [] := by rw [hHe]; exact hS
  refine zheap hHe ?_
  refine lv_aload hx hb dL_multiply_0 (lv_at hl 4 rfl) ?_
  refine lv_aload_n hx hb dL_multiply_2 rfl (lv_at hl 0 rfl) ?_
  refine lv_iload_n hx hb dL_multiply_3 rfl (lv_at hl 1 rfl) ?_
  refine lv_iload_n hx hb dL_multiply_4 rfl (lv_at hl 2 rfl) ?_
  refine lv_iload_n hx hb dL_multiply_5 rfl (lv_at hl 3 rfl) ?_
  obtain ⟨cd1, r2, R_3, b_4, ac_5, re_6, e7, h⟩ := zb6_some h
  have hPc := zsub (wn := (cW a cJ cI cO R b pr tm cn sm ac re kn)) hP [0, 1, 2, 3, 4, 5, 6, 7, 8, 9, 10, 11, 12, 13, 14, 15, 16, 17, 18, 19, 20] rfl
  have hDc := hD.sub (ws' := (cW a cJ cI cO R b pr tm cn sm ac re kn)) [0, 1, 2, 3, 4, 5, 6, 7, 8, 9, 10, 11, 12, 13, 14, 15, 16, 17, 18, 19, 20] (by decide) rfl
  refine zxgoi (vx_runV (As := [.int p1, .int p2, .int p3]) (rest := [.ref o]) ⟨hx, hb, hml, hown, hts⟩ (c_X7_multiply l D a cJ cI cO cB R b pr tm cn sm ac re kn F p1 p2 p3 cd1 r2 R_3 b_4 ac_5 re_6 hlt e7 H.size) (cwV 3 hts gL_multiply_X7_multiply rfl rfl rfl hdV_X7_multiply ⟨Nat.le_of_ble_eq_true rfl, Nat.le_of_ble_eq_true rfl⟩) (zxpreV hE hS (va_free hD hS hA [0, 1, 2, 3, 4, 5, 6, 7, 8, 9, 10, 11, 12, 13, 14, 15, 16, 17, 18, 19, 20] rfl) (q0 := 0) (ci := 7) (T := TX7) (N := 9) hK hPc hDc rfl rfl [.int p1, .int p2, .int p3]) rfl rfl hl.1 rfl (lv_room (Nat.le_of_ble_eq_true rfl)) dL_multiply_6 ⟨Nat.le_of_ble_eq_true rfl, Nat.le_of_ble_eq_true rfl⟩) (va_free hD hS hA [0, 1, 2, 3, 4, 5, 6, 7, 8, 9, 10, 11, 12, 13, 14, 15, 16, 17, 18, 19, 20] rfl) (zjs (wn := (cW a cJ cI cO R_3 b_4 pr tm cn sm ac_5 re_6 kn ++ ([(o, .inr (8, [.long on, os]))]))) [1, 2, 3, 4, 5, 6, 7, 8, 9, 10, 11, 12, 13, 14, 15, 16, 17, 18, 19, 20, 21, 0] (zjF (wr := ([(o, .inr (8, [.long on, os]))] : va_W)) hP hD hS hA [0, 1, 2, 3, 4, 5, 6, 7, 8, 9, 10, 11, 12, 13, 14, 15, 16, 17, 18, 19, 20] [21] rfl rfl (by decide) (by decide)) rfl (by decide)) hS (fun k06 => ?_) (fun k06 H locs hP hD hS => ?_)
  · intro ce q9 H locs hP hD hS h7 h8 h9
    replace hP : va_P D vwCl (cW a cJ cI cO R_3 b_4 pr tm cn sm ac_5 re_6 kn ++ ([(o, .inr (8, [.long on, os]))])) H := hP
    replace hD : va_D A (cW a cJ cI cO R_3 b_4 pr tm cn sm ac_5 re_6 kn ++ ([(o, .inr (8, [.long on, os]))])) := hD
    replace h := zif_f h k06
    by_cases e16 : cd1 = 1
    · replace h := zif_t h e16
      subst e16
      refine vx_catch hown [] ⟨0, 13, 16, 19⟩ [] (htab.trans rfl) (fun z hz => nomatch hz) rfl (by decide) kc_19 (va_Nw.use rfl hE.2.2.1.2.2.2.2.2.1) h7 h8 h9 ?_
      refine lv_astore (lv' := [(5, .ref q9), (0, .ref (a 0)), (1, .int p1), (2, .int p2), (3, .int p3), (4, .ref o)]) hx hb dL_multiply_16 hl (by decide) rfl (fun ls hl => ?_)
      refine lv_iconst (v := (1 : Int32)) hx hb dL_multiply_18 (by decide) ?_
      have g0 := Option.some.inj h
      obtain ⟨h1, g1⟩ := Prod.mk.inj g0
      obtain ⟨h2, g2⟩ := Prod.mk.inj g1
      obtain ⟨h3, g3⟩ := Prod.mk.inj g2
      obtain ⟨h4, g4⟩ := Prod.mk.inj g3
      obtain ⟨h5, g5⟩ := Prod.mk.inj g4
      subst h1
      subst h2
      subst h3
      subst h4
      subst h5
      subst g5
      exact W.iret (v := (1 : Int32)) hx hb hr (fun t ht hW => ⟨⟨(1 : Int32), (on, os), rfl, ⟨rfl, rfl⟩, by rw [ht]; exact hP, va_K.moved hW.alike hK, hD⟩, hS.F ht⟩) hS.2.2 dL_multiply_19
    · replace h := zif_f h e16
      exact (zno h).elim
  · replace h := zif_t h k06
    replace hP : va_P D vwCl (cW a cJ cI cO R_3 b_4 pr tm cn sm ac_5 re_6 kn ++ ([(o, .inr (8, [.long on, os]))])) H := hP
    replace hD : va_D A (cW a cJ cI cO R_3 b_4 pr tm cn sm ac_5 re_6 kn ++ ([(o, .inr (8, [.long on, os]))])) := hD
    refine lv_i2l (v := r2.toInt64) hx hb dL_multiply_9 rfl ?_
    refine va_putN (D := D) (ci := 8) (v := .long (r2.toInt64)) (ty := .long) (C := RX8) (T := TX8) (N := 2) hx hb hts kwX8 tyX8 tyX8_ok nmX8 hown hK hP hD hS 21 rfl rfl 0 (by decide) (va_Nw.use rfl hKk.2.1) (fun _ h9 => h9) rfl (by decide +kernel) rfl rfl (Nat.le_of_ble_eq_true rfl) dL_multiply_10 (fun H locs hP hD hS => ?_)
    replace hP : va_P D vwCl (cW a cJ cI cO R_3 b_4 pr tm cn sm ac_5 re_6 kn ++ ([(o, .inr (8, [.long (r2.toInt64), os]))])) H := hP
    replace hD : va_D A (cW a cJ cI cO R_3 b_4 pr tm cn sm ac_5 re_6 kn ++ ([(o, .inr (8, [.long (r2.toInt64), os]))])) := hD
    refine lv_goto (tgt := 20) hx hb dL_multiply_13 (by decide) ?_
    refine lv_iconst (v := (0 : Int32)) hx hb dL_multiply_20 (by decide) ?_
    have g0 := Option.some.inj h
    obtain ⟨h1, g1⟩ := Prod.mk.inj g0
    obtain ⟨h2, g2⟩ := Prod.mk.inj g1
    obtain ⟨h3, g3⟩ := Prod.mk.inj g2
    obtain ⟨h4, g4⟩ := Prod.mk.inj g3
    obtain ⟨h5, g5⟩ := Prod.mk.inj g4
    subst h1
    subst h2
    subst h3
    subst h4
    subst h5
    subst g5
    exact W.iret (v := (0 : Int32)) hx hb hr (fun t ht hW => ⟨⟨(0 : Int32), ((r2.toInt64), os), rfl, ⟨rfl, rfl⟩, by rw [ht]; exact hP, va_K.moved hW.alike hK, hD⟩, hS.F ht⟩) hS.2.2 dL_multiply_21

noncomputable def p_L_make (F : Nat) (R : Nat → Nat → Int64) (b : Bool) (pr : Nat → Int32) (tm : Nat → Int32) (cn : Int32) (ac : Int32) (re : Int32) (p1 : Int32) (p2 : Int32) (p3 : Int32) (on : Int64) : Option (Int32 × Int64 × (Nat → Nat → Int64) × Bool × (Nat → Int32) × (Nat → Int32) × Int32 × Int32 × Int32) := (zb9 (p_X7_make F R b pr tm cn ac re p1 p2 p3) (fun cd1 r2 R_3 b_4 pr_5 tm_6 cn_7 ac_8 re_9 => (if cd1 = 0 then (some ((0 : Int32), (r2.toInt64), R_3, b_4, pr_5, tm_6, cn_7, ac_8, re_9)) else (if cd1 = 1 then (some ((1 : Int32), on, R_3, b_4, pr_5, tm_6, cn_7, ac_8, re_9)) else (if cd1 = 2 then (some ((2 : Int32), on, R_3, b_4, pr_5, tm_6, cn_7, ac_8, re_9)) else none)))))
theorem hdS_L_make : yL_make.cls ≠ "java/lang/invoke/MethodHandle" ∧ yL_make.cls ≠ "java/lang/invoke/VarHandle" ∧ (parseMethodDescriptor yL_make.desc).map (fun d => d.parameters.length) = some 5 := by decide +kernel
set_option maxHeartbeats 4000000 in
set_option maxRecDepth 100000 in
theorem c_L_make (l : Launch) (D : va_G) (a : Nat → Nat) (cJ cI cO cB : ClassId) (R : Nat → Nat → Int64) (b : Bool) (pr : Nat → Int32) (tm : Nat → Int32) (cn : Int32) (sm : Nat → Int32) (ac : Int32) (re : Int32) (kn : Int32) (F : Nat) (p1 : Int32) (p2 : Int32) (p3 : Int32) (o : Nat) (on : Int64) (os : Value) (r : Int32) (on' : Int64) (R' : Nat → Nat → Int64) (b' : Bool) (pr' : Nat → Int32) (tm' : Nat → Int32) (cn' : Int32) (ac' : Int32) (re' : Int32) (hlt : l.stackTraces = false) (h : p_L_make F R b pr tm cn ac re p1 p2 p3 on = some (r, on', R', b', pr', tm', cn', ac', re')) : zMw l yL_make wsL_make 8 143 3 18 D (zT cJ cI cO cB) [.ref (a 0), .int p1, .int p2, .int p3, .ref o] (cW a cJ cI cO R b pr tm cn sm ac re kn ++ ([(o, .inr (8, [.long on, os]))])) (fun u => (cW a cJ cI cO R' b' pr' tm' cn' sm ac' re' kn ++ ([(o, .inr (8, [.long (u.1), u.2]))]))) r on' := by
  intro sz
  delta zQw
  refine va_MetW (cc := cL_make) (maxL := 6) (ret := (some .int)) (by decide) rfl ?_
  intro p e s m args below meth c s₁ B hml hv
  obtain ⟨rfl, ⟨⟨hsz, hP, hK, hD0⟩, hE⟩, hKk⟩ := hv
  have hx := B.exec
  have hb := B.bytes
  have hr := B.returns
  have hts := atoms_spec (ws := wsL_make) B.pre
  have hown : s.vm.findClass RL = some m.cls := findClass_of_methodNamed B.named
  have hlocks := B.notSynchronized
  subst hsz
  have hD := hD0.self (sz := s.heap.size)
  generalize hAe : va_A (cW a cJ cI cO R b pr tm cn sm ac re kn ++ ([(o, .inr (8, [.long on, os]))])) s.heap.size = A at hD hE ⊢
  have hA : ∀ q : Nat, s.heap.size ≤ q → A q := fun q h => by rw [← hAe]; exact Or.inr h
  have hS : va_S A s.heap s.heap [] := va_S.rf
  have hl := lv_entry ([.ref (a 0), .int p1, .int p2, .int p3, .ref o]) (n := 6) (Nat.le_of_ble_eq_true rfl)
  rw [lg_entry_eq]
  generalize (lg_sl ([.ref (a 0), .int p1, .int p2, .int p3, .ref o]) ++ List.replicate (6 - (lg_sl ([.ref (a 0), .int p1, .int p2, .int p3, .ref o])).length) Slot.unset).toArray = ls at hl ⊢
  replace hl : lv_has ls 6 [(0, .ref (a 0)), (1, .int p1), (2, .int p2), (3, .int p3), (4, .ref o)] := hl
  have kwX8 : ∀ w ∈ u_ws RX8 TX8 2, w ∈ wsL_make := fun w h => List.mem_cons_of_mem _ (List.mem_append_left _ (List.mem_append_right _ h))
  have htab := vx_table (x := yL_make) B (hts (.codeWith yL_make cL_make 6 (some .int) [(0, 13, 16, 19), (0, 13, 20, 21)]) (zmem 0 rfl))
  have kc_19 := hts (.classLink RL 19 (zxn 1)) (zmem 1 rfl)
  have kc_21 := hts (.classLink RL 21 (zxn 2)) (zmem 2 rfl)
  replace h : (zb9 (p_X7_make F R b pr tm cn ac re p1 p2 p3) (fun cd1 r2 R_3 b_4 pr_5 tm_6 cn_7 ac_8 re_9 => (if cd1 = 0 then (some ((0 : Int32), (r2.toInt64), R_3, b_4, pr_5, tm_6, cn_7, ac_8, re_9)) else (if cd1 = 1 then (some ((1 : Int32), on, R_3, b_4, pr_5, tm_6, cn_7, ac_8, re_9)) else (if cd1 = 2 then (some ((2 : Int32), on, R_3, b_4, pr_5, tm_6, cn_7, ac_8, re_9)) else none))))) = some (r, on', R', b', pr', tm', cn', ac', re') := h
  obtain ⟨H, hHe⟩ : ∃ H, H = s.heap := ⟨_, rfl⟩
  rw [← hHe] at hP
  replace hS : va_S A s.heap H [] := by rw [hHe]; exact hS
  refine zheap hHe ?_
  refine lv_aload hx hb dL_make_0 (lv_at hl 4 rfl) ?_
  refine lv_aload_n hx hb dL_make_2 rfl (lv_at hl 0 rfl) ?_
  refine lv_iload_n hx hb dL_make_3 rfl (lv_at hl 1 rfl) ?_
  refine lv_iload_n hx hb dL_make_4 rfl (lv_at hl 2 rfl) ?_
  refine lv_iload_n hx hb dL_make_5 rfl (lv_at hl 3 rfl) ?_
  obtain ⟨cd1, r2, R_3, b_4, pr_5, tm_6, cn_7, ac_8, re_9, e10, h⟩ := zb9_some h
  have hPc := zsub (wn := (cW a cJ cI cO R b pr tm cn sm ac re kn)) hP [0, 1, 2, 3, 4, 5, 6, 7, 8, 9, 10, 11, 12, 13, 14, 15, 16, 17, 18, 19, 20] rfl
  have hDc := hD.sub (ws' := (cW a cJ cI cO R b pr tm cn sm ac re kn)) [0, 1, 2, 3, 4, 5, 6, 7, 8, 9, 10, 11, 12, 13, 14, 15, 16, 17, 18, 19, 20] (by decide) rfl
  refine zxgoi (vx_runV (As := [.int p1, .int p2, .int p3]) (rest := [.ref o]) ⟨hx, hb, hml, hown, hts⟩ (c_X7_make l D a cJ cI cO cB R b pr tm cn sm ac re kn F p1 p2 p3 cd1 r2 R_3 b_4 pr_5 tm_6 cn_7 ac_8 re_9 hlt e10 H.size) (cwV 3 hts gL_make_X7_make rfl rfl rfl hdV_X7_make ⟨Nat.le_of_ble_eq_true rfl, Nat.le_of_ble_eq_true rfl⟩) (zxpreV hE hS (va_free hD hS hA [0, 1, 2, 3, 4, 5, 6, 7, 8, 9, 10, 11, 12, 13, 14, 15, 16, 17, 18, 19, 20] rfl) (q0 := 0) (ci := 7) (T := TX7) (N := 9) hK hPc hDc rfl rfl [.int p1, .int p2, .int p3]) rfl rfl hl.1 rfl (lv_room (Nat.le_of_ble_eq_true rfl)) dL_make_6 ⟨Nat.le_of_ble_eq_true rfl, Nat.le_of_ble_eq_true rfl⟩) (va_free hD hS hA [0, 1, 2, 3, 4, 5, 6, 7, 8, 9, 10, 11, 12, 13, 14, 15, 16, 17, 18, 19, 20] rfl) (zjs (wn := (cW a cJ cI cO R_3 b_4 pr_5 tm_6 cn_7 sm ac_8 re_9 kn ++ ([(o, .inr (8, [.long on, os]))]))) [1, 2, 3, 4, 5, 6, 7, 8, 9, 10, 11, 12, 13, 14, 15, 16, 17, 18, 19, 20, 21, 0] (zjF (wr := ([(o, .inr (8, [.long on, os]))] : va_W)) hP hD hS hA [0, 1, 2, 3, 4, 5, 6, 7, 8, 9, 10, 11, 12, 13, 14, 15, 16, 17, 18, 19, 20] [21] rfl rfl (by decide) (by decide)) rfl (by decide)) hS (fun k06 => ?_) (fun k06 H locs hP hD hS => ?_)
  · intro ce q9 H locs hP hD hS h7 h8 h9
    replace hP : va_P D vwCl (cW a cJ cI cO R_3 b_4 pr_5 tm_6 cn_7 sm ac_8 re_9 kn ++ ([(o, .inr (8, [.long on, os]))])) H := hP
    replace hD : va_D A (cW a cJ cI cO R_3 b_4 pr_5 tm_6 cn_7 sm ac_8 re_9 kn ++ ([(o, .inr (8, [.long on, os]))])) := hD
    replace h := zif_f h k06
    by_cases e16 : cd1 = 1
    · replace h := zif_t h e16
      subst e16
      refine vx_catch hown [] ⟨0, 13, 16, 19⟩ [⟨0, 13, 20, 21⟩] (htab.trans rfl) (fun z hz => nomatch hz) rfl (by decide) kc_19 (va_Nw.use rfl hE.2.2.1.2.2.2.2.2.1) h7 h8 h9 ?_
      refine lv_astore (lv' := [(5, .ref q9), (0, .ref (a 0)), (1, .int p1), (2, .int p2), (3, .int p3), (4, .ref o)]) hx hb dL_make_16 hl (by decide) rfl (fun ls hl => ?_)
      refine lv_iconst (v := (1 : Int32)) hx hb dL_make_18 (by decide) ?_
      have g0 := Option.some.inj h
      obtain ⟨h1, g1⟩ := Prod.mk.inj g0
      obtain ⟨h2, g2⟩ := Prod.mk.inj g1
      obtain ⟨h3, g3⟩ := Prod.mk.inj g2
      obtain ⟨h4, g4⟩ := Prod.mk.inj g3
      obtain ⟨h5, g5⟩ := Prod.mk.inj g4
      obtain ⟨h6, g6⟩ := Prod.mk.inj g5
      obtain ⟨h7, g7⟩ := Prod.mk.inj g6
      obtain ⟨h8, g8⟩ := Prod.mk.inj g7
      subst h1
      subst h2
      subst h3
      subst h4
      subst h5
      subst h6
      subst h7
      subst h8
      subst g8
      exact W.iret (v := (1 : Int32)) hx hb hr (fun t ht hW => ⟨⟨(1 : Int32), (on, os), rfl, ⟨rfl, rfl⟩, by rw [ht]; exact hP, va_K.moved hW.alike hK, hD⟩, hS.F ht⟩) hS.2.2 dL_make_19
    · replace h := zif_f h e16
      by_cases e26 : cd1 = 2
      · replace h := zif_t h e26
        subst e26
        refine vx_catch hown [⟨0, 13, 16, 19⟩] ⟨0, 13, 20, 21⟩ [] (htab.trans rfl) (zpass1 (Or.inr ⟨by decide, _, kc_19, hKk.2.2.2.1⟩)) rfl (by decide) kc_21 (va_Nw.use rfl hE.2.2.1.2.2.2.2.2.2.1) h7 h8 h9 ?_
        refine lv_astore (lv' := [(5, .ref q9), (0, .ref (a 0)), (1, .int p1), (2, .int p2), (3, .int p3), (4, .ref o)]) hx hb dL_make_20 hl (by decide) rfl (fun ls hl => ?_)
        refine lv_iconst (v := (2 : Int32)) hx hb dL_make_22 (by decide) ?_
        have g0 := Option.some.inj h
        obtain ⟨h1, g1⟩ := Prod.mk.inj g0
        obtain ⟨h2, g2⟩ := Prod.mk.inj g1
        obtain ⟨h3, g3⟩ := Prod.mk.inj g2
        obtain ⟨h4, g4⟩ := Prod.mk.inj g3
        obtain ⟨h5, g5⟩ := Prod.mk.inj g4
        obtain ⟨h6, g6⟩ := Prod.mk.inj g5
        obtain ⟨h7, g7⟩ := Prod.mk.inj g6
        obtain ⟨h8, g8⟩ := Prod.mk.inj g7
        subst h1
        subst h2
        subst h3
        subst h4
        subst h5
        subst h6
        subst h7
        subst h8
        subst g8
        exact W.iret (v := (2 : Int32)) hx hb hr (fun t ht hW => ⟨⟨(2 : Int32), (on, os), rfl, ⟨rfl, rfl⟩, by rw [ht]; exact hP, va_K.moved hW.alike hK, hD⟩, hS.F ht⟩) hS.2.2 dL_make_23
      · replace h := zif_f h e26
        exact (zno h).elim
  · replace h := zif_t h k06
    replace hP : va_P D vwCl (cW a cJ cI cO R_3 b_4 pr_5 tm_6 cn_7 sm ac_8 re_9 kn ++ ([(o, .inr (8, [.long on, os]))])) H := hP
    replace hD : va_D A (cW a cJ cI cO R_3 b_4 pr_5 tm_6 cn_7 sm ac_8 re_9 kn ++ ([(o, .inr (8, [.long on, os]))])) := hD
    refine lv_i2l (v := r2.toInt64) hx hb dL_make_9 rfl ?_
    refine va_putN (D := D) (ci := 8) (v := .long (r2.toInt64)) (ty := .long) (C := RX8) (T := TX8) (N := 2) hx hb hts kwX8 tyX8 tyX8_ok nmX8 hown hK hP hD hS 21 rfl rfl 0 (by decide) (va_Nw.use rfl hKk.2.1) (fun _ h9 => h9) rfl (by decide +kernel) rfl rfl (Nat.le_of_ble_eq_true rfl) dL_make_10 (fun H locs hP hD hS => ?_)
    replace hP : va_P D vwCl (cW a cJ cI cO R_3 b_4 pr_5 tm_6 cn_7 sm ac_8 re_9 kn ++ ([(o, .inr (8, [.long (r2.toInt64), os]))])) H := hP
    replace hD : va_D A (cW a cJ cI cO R_3 b_4 pr_5 tm_6 cn_7 sm ac_8 re_9 kn ++ ([(o, .inr (8, [.long (r2.toInt64), os]))])) := hD
    refine lv_goto (tgt := 24) hx hb dL_make_13 (by decide) ?_
    refine lv_iconst (v := (0 : Int32)) hx hb dL_make_24 (by decide) ?_
    have g0 := Option.some.inj h
    obtain ⟨h1, g1⟩ := Prod.mk.inj g0
    obtain ⟨h2, g2⟩ := Prod.mk.inj g1
    obtain ⟨h3, g3⟩ := Prod.mk.inj g2
    obtain ⟨h4, g4⟩ := Prod.mk.inj g3
    obtain ⟨h5, g5⟩ := Prod.mk.inj g4
    obtain ⟨h6, g6⟩ := Prod.mk.inj g5
    obtain ⟨h7, g7⟩ := Prod.mk.inj g6
    obtain ⟨h8, g8⟩ := Prod.mk.inj g7
    subst h1
    subst h2
    subst h3
    subst h4
    subst h5
    subst h6
    subst h7
    subst h8
    subst g8
    exact W.iret (v := (0 : Int32)) hx hb hr (fun t ht hW => ⟨⟨(0 : Int32), ((r2.toInt64), os), rfl, ⟨rfl, rfl⟩, by rw [ht]; exact hP, va_K.moved hW.alike hK, hD⟩, hS.F ht⟩) hS.2.2 dL_make_25

noncomputable def p_L_value (F : Nat) (R : Nat → Nat → Int64) (p1 : Int32) (p2 : Int32) (on : Int64) : Option (Int32 × Int64) := (zb1 (p_X7_value F R p1 p2) (fun cd1 => (if cd1 = 0 then (some ((0 : Int32), on)) else (if cd1 = 1 then (some ((1 : Int32), on)) else (if cd1 = 2 then (some ((2 : Int32), on)) else none)))))
theorem hdS_L_value : yL_value.cls ≠ "java/lang/invoke/MethodHandle" ∧ yL_value.cls ≠ "java/lang/invoke/VarHandle" ∧ (parseMethodDescriptor yL_value.desc).map (fun d => d.parameters.length) = some 4 := by decide +kernel
set_option maxHeartbeats 4000000 in
set_option maxRecDepth 100000 in
theorem c_L_value (l : Launch) (D : va_G) (a : Nat → Nat) (cJ cI cO cB : ClassId) (R : Nat → Nat → Int64) (b : Bool) (pr : Nat → Int32) (tm : Nat → Int32) (cn : Int32) (sm : Nat → Int32) (ac : Int32) (re : Int32) (kn : Int32) (F : Nat) (p1 : Int32) (p2 : Int32) (o : Nat) (on : Int64) (os : Value) (r : Int32) (on' : Int64) (hlt : l.stackTraces = false) (h : p_L_value F R p1 p2 on = some (r, on')) : zMw l yL_value wsL_value 8 220 26 3186 D (zT cJ cI cO cB) [.ref (a 0), .int p1, .int p2, .ref o] (cW a cJ cI cO R b pr tm cn sm ac re kn ++ ([(o, .inr (8, [.long on, os]))])) (fun u => (cW a cJ cI cO R b pr tm cn sm ac re kn ++ ([(o, .inr (8, [.long (u.1), u.2]))]))) r on' := by
  intro sz
  delta zQw
  refine va_MetW (cc := cL_value) (maxL := 5) (ret := (some .int)) (by decide) rfl ?_
  intro p e s m args below meth c s₁ B hml hv
  obtain ⟨rfl, ⟨⟨hsz, hP, hK, hD0⟩, hE⟩, hKk⟩ := hv
  have hx := B.exec
  have hb := B.bytes
  have hr := B.returns
  have hts := atoms_spec (ws := wsL_value) B.pre
  have hown : s.vm.findClass RL = some m.cls := findClass_of_methodNamed B.named
  have hlocks := B.notSynchronized
  subst hsz
  have hD := hD0.self (sz := s.heap.size)
  generalize hAe : va_A (cW a cJ cI cO R b pr tm cn sm ac re kn ++ ([(o, .inr (8, [.long on, os]))])) s.heap.size = A at hD hE ⊢
  have hA : ∀ q : Nat, s.heap.size ≤ q → A q := fun q h => by rw [← hAe]; exact Or.inr h
  have hS : va_S A s.heap s.heap [] := va_S.rf
  have hl := lv_entry ([.ref (a 0), .int p1, .int p2, .ref o]) (n := 5) (Nat.le_of_ble_eq_true rfl)
  rw [lg_entry_eq]
  generalize (lg_sl ([.ref (a 0), .int p1, .int p2, .ref o]) ++ List.replicate (5 - (lg_sl ([.ref (a 0), .int p1, .int p2, .ref o])).length) Slot.unset).toArray = ls at hl ⊢
  replace hl : lv_has ls 5 [(0, .ref (a 0)), (1, .int p1), (2, .int p2), (3, .ref o)] := hl
  have kwX8 : ∀ w ∈ u_ws RX8 TX8 2, w ∈ wsL_value := fun w h => List.mem_cons_of_mem _ (List.mem_append_left _ (List.mem_append_right _ h))
  have htab := vx_table (x := yL_value) B (hts (.codeWith yL_value cL_value 5 (some .int) [(0, 10, 13, 19), (0, 10, 17, 21)]) (zmem 0 rfl))
  have kc_19 := hts (.classLink RL 19 (zxn 1)) (zmem 1 rfl)
  have kc_21 := hts (.classLink RL 21 (zxn 2)) (zmem 2 rfl)
  replace h : (zb1 (p_X7_value F R p1 p2) (fun cd1 => (if cd1 = 0 then (some ((0 : Int32), on)) else (if cd1 = 1 then (some ((1 : Int32), on)) else (if cd1 = 2 then (some ((2 : Int32), on)) else none))))) = some (r, on') := h
  obtain ⟨H, hHe⟩ : ∃ H, H = s.heap := ⟨_, rfl⟩
  rw [← hHe] at hP
  replace hS : va_S A s.heap H [] := by rw [hHe]; exact hS
  refine zheap hHe ?_
  refine lv_aload_n hx hb dL_value_0 rfl (lv_at hl 3 rfl) ?_
  refine lv_aload_n hx hb dL_value_1 rfl (lv_at hl 0 rfl) ?_
  refine lv_iload_n hx hb dL_value_2 rfl (lv_at hl 1 rfl) ?_
  refine lv_iload_n hx hb dL_value_3 rfl (lv_at hl 2 rfl) ?_
  obtain ⟨cd1, e2, h⟩ := zb1_some h
  have hPc := zsub (wn := (cW a cJ cI cO R b pr tm cn sm ac re kn)) hP [0, 1, 2, 3, 4, 5, 6, 7, 8, 9, 10, 11, 12, 13, 14, 15, 16, 17, 18, 19, 20] rfl
  have hDc := hD.sub (ws' := (cW a cJ cI cO R b pr tm cn sm ac re kn)) [0, 1, 2, 3, 4, 5, 6, 7, 8, 9, 10, 11, 12, 13, 14, 15, 16, 17, 18, 19, 20] (by decide) rfl
  refine zxgos (vx_runV (As := [.int p1, .int p2]) (rest := [.ref o]) ⟨hx, hb, hml, hown, hts⟩ (c_X7_value l D a cJ cI cO cB R b pr tm cn sm ac re kn F p1 p2 cd1 hlt e2 H.size) (cwV 2 hts gL_value_X7_value rfl rfl rfl hdV_X7_value ⟨Nat.le_of_ble_eq_true rfl, Nat.le_of_ble_eq_true rfl⟩) (zxpreV hE hS (va_free hD hS hA [0, 1, 2, 3, 4, 5, 6, 7, 8, 9, 10, 11, 12, 13, 14, 15, 16, 17, 18, 19, 20] rfl) (q0 := 0) (ci := 7) (T := TX7) (N := 9) hK hPc hDc rfl rfl [.int p1, .int p2]) rfl rfl hl.1 rfl (lv_room (Nat.le_of_ble_eq_true rfl)) dL_value_4 ⟨Nat.le_of_ble_eq_true rfl, Nat.le_of_ble_eq_true rfl⟩) (va_free hD hS hA [0, 1, 2, 3, 4, 5, 6, 7, 8, 9, 10, 11, 12, 13, 14, 15, 16, 17, 18, 19, 20] rfl) (zjs (wn := (cW a cJ cI cO R b pr tm cn sm ac re kn ++ ([(o, .inr (8, [.long on, os]))]))) [1, 2, 3, 4, 5, 6, 7, 8, 9, 10, 11, 12, 13, 14, 15, 16, 17, 18, 19, 20, 21, 0] (zjF (wr := ([(o, .inr (8, [.long on, os]))] : va_W)) hP hD hS hA [0, 1, 2, 3, 4, 5, 6, 7, 8, 9, 10, 11, 12, 13, 14, 15, 16, 17, 18, 19, 20] [21] rfl rfl (by decide) (by decide)) rfl (by decide)) hS (fun k04 => ?_) (fun k04 s3 H locs hP hD hS => ?_)
  · intro ce q9 H locs hP hD hS h7 h8 h9
    replace hP : va_P D vwCl (cW a cJ cI cO R b pr tm cn sm ac re kn ++ ([(o, .inr (8, [.long on, os]))])) H := hP
    replace hD : va_D A (cW a cJ cI cO R b pr tm cn sm ac re kn ++ ([(o, .inr (8, [.long on, os]))])) := hD
    replace h := zif_f h k04
    by_cases e14 : cd1 = 1
    · replace h := zif_t h e14
      subst e14
      refine vx_catch hown [] ⟨0, 10, 13, 19⟩ [⟨0, 10, 17, 21⟩] (htab.trans rfl) (fun z hz => nomatch hz) rfl (by decide) kc_19 (va_Nw.use rfl hE.2.2.1.2.2.2.2.2.1) h7 h8 h9 ?_
      refine lv_astore (lv' := [(4, .ref q9), (0, .ref (a 0)), (1, .int p1), (2, .int p2), (3, .ref o)]) hx hb dL_value_13 hl (by decide) rfl (fun ls hl => ?_)
      refine lv_iconst (v := (1 : Int32)) hx hb dL_value_15 (by decide) ?_
      have g0 := Option.some.inj h
      obtain ⟨h1, g1⟩ := Prod.mk.inj g0
      subst h1
      subst g1
      exact W.iret (v := (1 : Int32)) hx hb hr (fun t ht hW => ⟨⟨(1 : Int32), (on, os), rfl, ⟨rfl, rfl⟩, by rw [ht]; exact hP, va_K.moved hW.alike hK, hD⟩, hS.F ht⟩) hS.2.2 dL_value_16
    · replace h := zif_f h e14
      by_cases e24 : cd1 = 2
      · replace h := zif_t h e24
        subst e24
        refine vx_catch hown [⟨0, 10, 13, 19⟩] ⟨0, 10, 17, 21⟩ [] (htab.trans rfl) (zpass1 (Or.inr ⟨by decide, _, kc_19, hKk.2.2.2.1⟩)) rfl (by decide) kc_21 (va_Nw.use rfl hE.2.2.1.2.2.2.2.2.2.1) h7 h8 h9 ?_
        refine lv_astore (lv' := [(4, .ref q9), (0, .ref (a 0)), (1, .int p1), (2, .int p2), (3, .ref o)]) hx hb dL_value_17 hl (by decide) rfl (fun ls hl => ?_)
        refine lv_iconst (v := (2 : Int32)) hx hb dL_value_19 (by decide) ?_
        have g0 := Option.some.inj h
        obtain ⟨h1, g1⟩ := Prod.mk.inj g0
        subst h1
        subst g1
        exact W.iret (v := (2 : Int32)) hx hb hr (fun t ht hW => ⟨⟨(2 : Int32), (on, os), rfl, ⟨rfl, rfl⟩, by rw [ht]; exact hP, va_K.moved hW.alike hK, hD⟩, hS.F ht⟩) hS.2.2 dL_value_20
      · replace h := zif_f h e24
        exact (zno h).elim
  · replace h := zif_t h k04
    replace hP : va_P D vwCl (cW a cJ cI cO R b pr tm cn sm ac re kn ++ ([(o, .inr (8, [.long on, os]))])) H := hP
    replace hD : va_D A (cW a cJ cI cO R b pr tm cn sm ac re kn ++ ([(o, .inr (8, [.long on, os]))])) := hD
    refine va_putN (D := D) (ci := 8) (v := .ref s3) (ty := (.object "java/lang/String")) (C := RX8) (T := TX8) (N := 2) hx hb hts kwX8 tyX8 tyX8_ok nmX8 hown hK hP hD hS 21 rfl rfl 1 (by decide) (va_Nw.use rfl hKk.2.2.1) (fun _ h9 => h9) rfl (by decide +kernel) rfl rfl (Nat.le_of_ble_eq_true rfl) dL_value_7 (fun H locs hP hD hS => ?_)
    replace hP : va_P D vwCl (cW a cJ cI cO R b pr tm cn sm ac re kn ++ ([(o, .inr (8, [.long on, .ref s3]))])) H := hP
    replace hD : va_D A (cW a cJ cI cO R b pr tm cn sm ac re kn ++ ([(o, .inr (8, [.long on, .ref s3]))])) := hD
    refine lv_goto (tgt := 21) hx hb dL_value_10 (by decide) ?_
    refine lv_iconst (v := (0 : Int32)) hx hb dL_value_21 (by decide) ?_
    have g0 := Option.some.inj h
    obtain ⟨h1, g1⟩ := Prod.mk.inj g0
    subst h1
    subst g1
    exact W.iret (v := (0 : Int32)) hx hb hr (fun t ht hW => ⟨⟨(0 : Int32), (on, .ref s3), rfl, ⟨rfl, rfl⟩, by rw [ht]; exact hP, va_K.moved hW.alike hK, hD⟩, hS.F ht⟩) hS.2.2 dL_value_22

noncomputable def p_L_half (R : Nat → Nat → Int64) (p1 : Int32) (p2 : Int32) (p3 : Bool) (on : Int64) : Option (Int32 × Int64) := (zb2 (p_X7_half R p1 p2 p3) (fun cd1 r2 => (if cd1 = 0 then (some ((0 : Int32), (r2.toInt64))) else (if cd1 = 1 then (some ((1 : Int32), on)) else (if cd1 = 2 then (some ((2 : Int32), on)) else none)))))
theorem hdS_L_half : yL_half.cls ≠ "java/lang/invoke/MethodHandle" ∧ yL_half.cls ≠ "java/lang/invoke/VarHandle" ∧ (parseMethodDescriptor yL_half.desc).map (fun d => d.parameters.length) = some 5 := by decide +kernel
set_option maxHeartbeats 4000000 in
set_option maxRecDepth 100000 in
theorem c_L_half (l : Launch) (D : va_G) (a : Nat → Nat) (cJ cI cO cB : ClassId) (R : Nat → Nat → Int64) (b : Bool) (pr : Nat → Int32) (tm : Nat → Int32) (cn : Int32) (sm : Nat → Int32) (ac : Int32) (re : Int32) (kn : Int32) (p1 : Int32) (p2 : Int32) (p3 : Bool) (o : Nat) (on : Int64) (os : Value) (r : Int32) (on' : Int64) (hlt : l.stackTraces = false) (h : p_L_half R p1 p2 p3 on = some (r, on')) : zMw l yL_half wsL_half 8 136 2 12 D (zT cJ cI cO cB) [.ref (a 0), .int p1, .int p2, .int (z01 p3), .ref o] (cW a cJ cI cO R b pr tm cn sm ac re kn ++ ([(o, .inr (8, [.long on, os]))])) (fun u => (cW a cJ cI cO R b pr tm cn sm ac re kn ++ ([(o, .inr (8, [.long (u.1), u.2]))]))) r on' := by
  intro sz
  delta zQw
  refine va_MetW (cc := cL_half) (maxL := 6) (ret := (some .int)) (by decide) rfl ?_
  intro p e s m args below meth c s₁ B hml hv
  obtain ⟨rfl, ⟨⟨hsz, hP, hK, hD0⟩, hE⟩, hKk⟩ := hv
  have hx := B.exec
  have hb := B.bytes
  have hr := B.returns
  have hts := atoms_spec (ws := wsL_half) B.pre
  have hown : s.vm.findClass RL = some m.cls := findClass_of_methodNamed B.named
  have hlocks := B.notSynchronized
  subst hsz
  have hD := hD0.self (sz := s.heap.size)
  generalize hAe : va_A (cW a cJ cI cO R b pr tm cn sm ac re kn ++ ([(o, .inr (8, [.long on, os]))])) s.heap.size = A at hD hE ⊢
  have hA : ∀ q : Nat, s.heap.size ≤ q → A q := fun q h => by rw [← hAe]; exact Or.inr h
  have hS : va_S A s.heap s.heap [] := va_S.rf
  have hl := lv_entry ([.ref (a 0), .int p1, .int p2, .int (z01 p3), .ref o]) (n := 6) (Nat.le_of_ble_eq_true rfl)
  rw [lg_entry_eq]
  generalize (lg_sl ([.ref (a 0), .int p1, .int p2, .int (z01 p3), .ref o]) ++ List.replicate (6 - (lg_sl ([.ref (a 0), .int p1, .int p2, .int (z01 p3), .ref o])).length) Slot.unset).toArray = ls at hl ⊢
  replace hl : lv_has ls 6 [(0, .ref (a 0)), (1, .int p1), (2, .int p2), (3, .int (z01 p3)), (4, .ref o)] := hl
  have kwX8 : ∀ w ∈ u_ws RX8 TX8 2, w ∈ wsL_half := fun w h => List.mem_cons_of_mem _ (List.mem_append_left _ (List.mem_append_right _ h))
  have htab := vx_table (x := yL_half) B (hts (.codeWith yL_half cL_half 6 (some .int) [(0, 13, 16, 19), (0, 13, 20, 21)]) (zmem 0 rfl))
  have kc_19 := hts (.classLink RL 19 (zxn 1)) (zmem 1 rfl)
  have kc_21 := hts (.classLink RL 21 (zxn 2)) (zmem 2 rfl)
  replace h : (zb2 (p_X7_half R p1 p2 p3) (fun cd1 r2 => (if cd1 = 0 then (some ((0 : Int32), (r2.toInt64))) else (if cd1 = 1 then (some ((1 : Int32), on)) else (if cd1 = 2 then (some ((2 : Int32), on)) else none))))) = some (r, on') := h
  obtain ⟨H, hHe⟩ : ∃ H, H = s.heap := ⟨_, rfl⟩
  rw [← hHe] at hP
  replace hS : va_S A s.heap H [] := by rw [hHe]; exact hS
  refine zheap hHe ?_
  refine lv_aload hx hb dL_half_0 (lv_at hl 4 rfl) ?_
  refine lv_aload_n hx hb dL_half_2 rfl (lv_at hl 0 rfl) ?_
  refine lv_iload_n hx hb dL_half_3 rfl (lv_at hl 1 rfl) ?_
  refine lv_iload_n hx hb dL_half_4 rfl (lv_at hl 2 rfl) ?_
  refine lv_iload_n hx hb dL_half_5 rfl (lv_at hl 3 rfl) ?_
  obtain ⟨cd1, r2, e3, h⟩ := zb2_some h
  have hPc := zsub (wn := (cW a cJ cI cO R b pr tm cn sm ac re kn)) hP [0, 1, 2, 3, 4, 5, 6, 7, 8, 9, 10, 11, 12, 13, 14, 15, 16, 17, 18, 19, 20] rfl
  have hDc := hD.sub (ws' := (cW a cJ cI cO R b pr tm cn sm ac re kn)) [0, 1, 2, 3, 4, 5, 6, 7, 8, 9, 10, 11, 12, 13, 14, 15, 16, 17, 18, 19, 20] (by decide) rfl
  refine zxgoi (vx_runV (As := [.int p1, .int p2, .int (z01 p3)]) (rest := [.ref o]) ⟨hx, hb, hml, hown, hts⟩ (c_X7_half l D a cJ cI cO cB R b pr tm cn sm ac re kn p1 p2 p3 cd1 r2 hlt e3 H.size) (cwV 3 hts gL_half_X7_half rfl rfl rfl hdV_X7_half ⟨Nat.le_of_ble_eq_true rfl, Nat.le_of_ble_eq_true rfl⟩) (zxpreV hE hS (va_free hD hS hA [0, 1, 2, 3, 4, 5, 6, 7, 8, 9, 10, 11, 12, 13, 14, 15, 16, 17, 18, 19, 20] rfl) (q0 := 0) (ci := 7) (T := TX7) (N := 9) hK hPc hDc rfl rfl [.int p1, .int p2, .int (z01 p3)]) rfl rfl hl.1 rfl (lv_room (Nat.le_of_ble_eq_true rfl)) dL_half_6 ⟨Nat.le_of_ble_eq_true rfl, Nat.le_of_ble_eq_true rfl⟩) (va_free hD hS hA [0, 1, 2, 3, 4, 5, 6, 7, 8, 9, 10, 11, 12, 13, 14, 15, 16, 17, 18, 19, 20] rfl) (zjs (wn := (cW a cJ cI cO R b pr tm cn sm ac re kn ++ ([(o, .inr (8, [.long on, os]))]))) [1, 2, 3, 4, 5, 6, 7, 8, 9, 10, 11, 12, 13, 14, 15, 16, 17, 18, 19, 20, 21, 0] (zjF (wr := ([(o, .inr (8, [.long on, os]))] : va_W)) hP hD hS hA [0, 1, 2, 3, 4, 5, 6, 7, 8, 9, 10, 11, 12, 13, 14, 15, 16, 17, 18, 19, 20] [21] rfl rfl (by decide) (by decide)) rfl (by decide)) hS (fun k06 => ?_) (fun k06 H locs hP hD hS => ?_)
  · intro ce q9 H locs hP hD hS h7 h8 h9
    replace hP : va_P D vwCl (cW a cJ cI cO R b pr tm cn sm ac re kn ++ ([(o, .inr (8, [.long on, os]))])) H := hP
    replace hD : va_D A (cW a cJ cI cO R b pr tm cn sm ac re kn ++ ([(o, .inr (8, [.long on, os]))])) := hD
    replace h := zif_f h k06
    by_cases e16 : cd1 = 1
    · replace h := zif_t h e16
      subst e16
      refine vx_catch hown [] ⟨0, 13, 16, 19⟩ [⟨0, 13, 20, 21⟩] (htab.trans rfl) (fun z hz => nomatch hz) rfl (by decide) kc_19 (va_Nw.use rfl hE.2.2.1.2.2.2.2.2.1) h7 h8 h9 ?_
      refine lv_astore (lv' := [(5, .ref q9), (0, .ref (a 0)), (1, .int p1), (2, .int p2), (3, .int (z01 p3)), (4, .ref o)]) hx hb dL_half_16 hl (by decide) rfl (fun ls hl => ?_)
      refine lv_iconst (v := (1 : Int32)) hx hb dL_half_18 (by decide) ?_
      have g0 := Option.some.inj h
      obtain ⟨h1, g1⟩ := Prod.mk.inj g0
      subst h1
      subst g1
      exact W.iret (v := (1 : Int32)) hx hb hr (fun t ht hW => ⟨⟨(1 : Int32), (on, os), rfl, ⟨rfl, rfl⟩, by rw [ht]; exact hP, va_K.moved hW.alike hK, hD⟩, hS.F ht⟩) hS.2.2 dL_half_19
    · replace h := zif_f h e16
      by_cases e26 : cd1 = 2
      · replace h := zif_t h e26
        subst e26
        refine vx_catch hown [⟨0, 13, 16, 19⟩] ⟨0, 13, 20, 21⟩ [] (htab.trans rfl) (zpass1 (Or.inr ⟨by decide, _, kc_19, hKk.2.2.2.1⟩)) rfl (by decide) kc_21 (va_Nw.use rfl hE.2.2.1.2.2.2.2.2.2.1) h7 h8 h9 ?_
        refine lv_astore (lv' := [(5, .ref q9), (0, .ref (a 0)), (1, .int p1), (2, .int p2), (3, .int (z01 p3)), (4, .ref o)]) hx hb dL_half_20 hl (by decide) rfl (fun ls hl => ?_)
        refine lv_iconst (v := (2 : Int32)) hx hb dL_half_22 (by decide) ?_
        have g0 := Option.some.inj h
        obtain ⟨h1, g1⟩ := Prod.mk.inj g0
        subst h1
        subst g1
        exact W.iret (v := (2 : Int32)) hx hb hr (fun t ht hW => ⟨⟨(2 : Int32), (on, os), rfl, ⟨rfl, rfl⟩, by rw [ht]; exact hP, va_K.moved hW.alike hK, hD⟩, hS.F ht⟩) hS.2.2 dL_half_23
      · replace h := zif_f h e26
        exact (zno h).elim
  · replace h := zif_t h k06
    replace hP : va_P D vwCl (cW a cJ cI cO R b pr tm cn sm ac re kn ++ ([(o, .inr (8, [.long on, os]))])) H := hP
    replace hD : va_D A (cW a cJ cI cO R b pr tm cn sm ac re kn ++ ([(o, .inr (8, [.long on, os]))])) := hD
    refine lv_i2l (v := r2.toInt64) hx hb dL_half_9 rfl ?_
    refine va_putN (D := D) (ci := 8) (v := .long (r2.toInt64)) (ty := .long) (C := RX8) (T := TX8) (N := 2) hx hb hts kwX8 tyX8 tyX8_ok nmX8 hown hK hP hD hS 21 rfl rfl 0 (by decide) (va_Nw.use rfl hKk.2.1) (fun _ h9 => h9) rfl (by decide +kernel) rfl rfl (Nat.le_of_ble_eq_true rfl) dL_half_10 (fun H locs hP hD hS => ?_)
    replace hP : va_P D vwCl (cW a cJ cI cO R b pr tm cn sm ac re kn ++ ([(o, .inr (8, [.long (r2.toInt64), os]))])) H := hP
    replace hD : va_D A (cW a cJ cI cO R b pr tm cn sm ac re kn ++ ([(o, .inr (8, [.long (r2.toInt64), os]))])) := hD
    refine lv_goto (tgt := 24) hx hb dL_half_13 (by decide) ?_
    refine lv_iconst (v := (0 : Int32)) hx hb dL_half_24 (by decide) ?_
    have g0 := Option.some.inj h
    obtain ⟨h1, g1⟩ := Prod.mk.inj g0
    subst h1
    subst g1
    exact W.iret (v := (0 : Int32)) hx hb hr (fun t ht hW => ⟨⟨(0 : Int32), ((r2.toInt64), os), rfl, ⟨rfl, rfl⟩, by rw [ht]; exact hP, va_K.moved hW.alike hK, hD⟩, hS.F ht⟩) hS.2.2 dL_half_25

noncomputable def p_L_differ (F : Nat) (R : Nat → Nat → Int64) (b : Bool) (pr : Nat → Int32) (tm : Nat → Int32) (cn : Int32) (sm : Nat → Int32) (ac : Int32) (re : Int32) (kn : Int32) (p1 : Int32) (p2 : Int32) (on : Int64) : Option (Int32 × Int64 × (Nat → Nat → Int64) × Bool × (Nat → Int32) × (Nat → Int32) × Int32 × (Nat → Int32) × Int32 × Int32 × Int32) := (zb11 (p_X7_differ F R b pr tm cn sm ac re kn p1 p2) (fun cd1 r2 R_3 b_4 pr_5 tm_6 cn_7 sm_8 ac_9 re_10 kn_11 => (if cd1 = 0 then (some ((0 : Int32), (r2.toInt64), R_3, b_4, pr_5, tm_6, cn_7, sm_8, ac_9, re_10, kn_11)) else (if cd1 = 1 then (some ((1 : Int32), on, R_3, b_4, pr_5, tm_6, cn_7, sm_8, ac_9, re_10, kn_11)) else none))))
theorem hdS_L_differ : yL_differ.cls ≠ "java/lang/invoke/MethodHandle" ∧ yL_differ.cls ≠ "java/lang/invoke/VarHandle" ∧ (parseMethodDescriptor yL_differ.desc).map (fun d => d.parameters.length) = some 4 := by decide +kernel
set_option maxHeartbeats 4000000 in
set_option maxRecDepth 100000 in
theorem c_L_differ (l : Launch) (D : va_G) (a : Nat → Nat) (cJ cI cO cB : ClassId) (R : Nat → Nat → Int64) (b : Bool) (pr : Nat → Int32) (tm : Nat → Int32) (cn : Int32) (sm : Nat → Int32) (ac : Int32) (re : Int32) (kn : Int32) (F : Nat) (p1 : Int32) (p2 : Int32) (o : Nat) (on : Int64) (os : Value) (r : Int32) (on' : Int64) (R' : Nat → Nat → Int64) (b' : Bool) (pr' : Nat → Int32) (tm' : Nat → Int32) (cn' : Int32) (sm' : Nat → Int32) (ac' : Int32) (re' : Int32) (kn' : Int32) (hlt : l.stackTraces = false) (h : p_L_differ F R b pr tm cn sm ac re kn p1 p2 on = some (r, on', R', b', pr', tm', cn', sm', ac', re', kn')) : zMw l yL_differ wsL_differ 8 135 2 12 D (zT cJ cI cO cB) [.ref (a 0), .int p1, .int p2, .ref o] (cW a cJ cI cO R b pr tm cn sm ac re kn ++ ([(o, .inr (8, [.long on, os]))])) (fun u => (cW a cJ cI cO R' b' pr' tm' cn' sm' ac' re' kn' ++ ([(o, .inr (8, [.long (u.1), u.2]))]))) r on' := by
  intro sz
  delta zQw
  refine va_MetW (cc := cL_differ) (maxL := 5) (ret := (some .int)) (by decide) rfl ?_
  intro p e s m args below meth c s₁ B hml hv
  obtain ⟨rfl, ⟨⟨hsz, hP, hK, hD0⟩, hE⟩, hKk⟩ := hv
  have hx := B.exec
  have hb := B.bytes
  have hr := B.returns
  have hts := atoms_spec (ws := wsL_differ) B.pre
  have hown : s.vm.findClass RL = some m.cls := findClass_of_methodNamed B.named
  have hlocks := B.notSynchronized
  subst hsz
  have hD := hD0.self (sz := s.heap.size)
  generalize hAe : va_A (cW a cJ cI cO R b pr tm cn sm ac re kn ++ ([(o, .inr (8, [.long on, os]))])) s.heap.size = A at hD hE ⊢
  have hA : ∀ q : Nat, s.heap.size ≤ q → A q := fun q h => by rw [← hAe]; exact Or.inr h
  have hS : va_S A s.heap s.heap [] := va_S.rf
  have hl := lv_entry ([.ref (a 0), .int p1, .int p2, .ref o]) (n := 5) (Nat.le_of_ble_eq_true rfl)
  rw [lg_entry_eq]
  generalize (lg_sl ([.ref (a 0), .int p1, .int p2, .ref o]) ++ List.replicate (5 - (lg_sl ([.ref (a 0), .int p1, .int p2, .ref o])).length) Slot.unset).toArray = ls at hl ⊢
  replace hl : lv_has ls 5 [(0, .ref (a 0)), (1, .int p1), (2, .int p2), (3, .ref o)] := hl
  have kwX8 : ∀ w ∈ u_ws RX8 TX8 2, w ∈ wsL_differ := fun w h => List.mem_cons_of_mem _ (List.mem_append_left _ (List.mem_append_right _ h))
  have htab := vx_table (x := yL_differ) B (hts (.codeWith yL_differ cL_differ 5 (some .int) [(0, 11, 14, 19)]) (zmem 0 rfl))
  have kc_19 := hts (.classLink RL 19 (zxn 1)) (zmem 1 rfl)
  replace h : (zb11 (p_X7_differ F R b pr tm cn sm ac re kn p1 p2) (fun cd1 r2 R_3 b_4 pr_5 tm_6 cn_7 sm_8 ac_9 re_10 kn_11 => (if cd1 = 0 then (some ((0 : Int32), (r2.toInt64), R_3, b_4, pr_5, tm_6, cn_7, sm_8, ac_9, re_10, kn_11)) else (if cd1 = 1 then (some ((1 : Int32), on, R_3, b_4, pr_5, tm_6, cn_7, sm_8, ac_9, re_10, kn_11)) else none)))) = some (r, on', R', b', pr', tm', cn', sm', ac', re', kn') := h
  obtain ⟨H, hHe⟩ : ∃ H, H = s.heap := ⟨_, rfl⟩
  rw [← hHe] at hP
  replace hS : va_S A s.heap H [] := by rw [hHe]; exact hS
  refine zheap hHe ?_
  refine lv_aload_n hx hb dL_differ_0 rfl (lv_at hl 3 rfl) ?_
  refine lv_aload_n hx hb dL_differ_1 rfl (lv_at hl 0 rfl) ?_
  refine lv_iload_n hx hb dL_differ_2 rfl (lv_at hl 1 rfl) ?_
  refine lv_iload_n hx hb dL_differ_3 rfl (lv_at hl 2 rfl) ?_
  obtain ⟨cd1, r2, R_3, b_4, pr_5, tm_6, cn_7, sm_8, ac_9, re_10, kn_11, e12, h⟩ := zb11_some h
  have hPc := zsub (wn := (cW a cJ cI cO R b pr tm cn sm ac re kn)) hP [0, 1, 2, 3, 4, 5, 6, 7, 8, 9, 10, 11, 12, 13, 14, 15, 16, 17, 18, 19, 20] rfl
  have hDc := hD.sub (ws' := (cW a cJ cI cO R b pr tm cn sm ac re kn)) [0, 1, 2, 3, 4, 5, 6, 7, 8, 9, 10, 11, 12, 13, 14, 15, 16, 17, 18, 19, 20] (by decide) rfl
  refine zxgoi (vx_runV (As := [.int p1, .int p2]) (rest := [.ref o]) ⟨hx, hb, hml, hown, hts⟩ (c_X7_differ l D a cJ cI cO cB R b pr tm cn sm ac re kn F p1 p2 cd1 r2 R_3 b_4 pr_5 tm_6 cn_7 sm_8 ac_9 re_10 kn_11 hlt e12 H.size) (cwV 2 hts gL_differ_X7_differ rfl rfl rfl hdV_X7_differ ⟨Nat.le_of_ble_eq_true rfl, Nat.le_of_ble_eq_true rfl⟩) (zxpreV hE hS (va_free hD hS hA [0, 1, 2, 3, 4, 5, 6, 7, 8, 9, 10, 11, 12, 13, 14, 15, 16, 17, 18, 19, 20] rfl) (q0 := 0) (ci := 7) (T := TX7) (N := 9) hK hPc hDc rfl rfl [.int p1, .int p2]) rfl rfl hl.1 rfl (lv_room (Nat.le_of_ble_eq_true rfl)) dL_differ_4 ⟨Nat.le_of_ble_eq_true rfl, Nat.le_of_ble_eq_true rfl⟩) (va_free hD hS hA [0, 1, 2, 3, 4, 5, 6, 7, 8, 9, 10, 11, 12, 13, 14, 15, 16, 17, 18, 19, 20] rfl) (zjs (wn := (cW a cJ cI cO R_3 b_4 pr_5 tm_6 cn_7 sm_8 ac_9 re_10 kn_11 ++ ([(o, .inr (8, [.long on, os]))]))) [1, 2, 3, 4, 5, 6, 7, 8, 9, 10, 11, 12, 13, 14, 15, 16, 17, 18, 19, 20, 21, 0] (zjF (wr := ([(o, .inr (8, [.long on, os]))] : va_W)) hP hD hS hA [0, 1, 2, 3, 4, 5, 6, 7, 8, 9, 10, 11, 12, 13, 14, 15, 16, 17, 18, 19, 20] [21] rfl rfl (by decide) (by decide)) rfl (by decide)) hS (fun k04 => ?_) (fun k04 H locs hP hD hS => ?_)
  · intro ce q9 H locs hP hD hS h7 h8 h9
    replace hP : va_P D vwCl (cW a cJ cI cO R_3 b_4 pr_5 tm_6 cn_7 sm_8 ac_9 re_10 kn_11 ++ ([(o, .inr (8, [.long on, os]))])) H := hP
    replace hD : va_D A (cW a cJ cI cO R_3 b_4 pr_5 tm_6 cn_7 sm_8 ac_9 re_10 kn_11 ++ ([(o, .inr (8, [.long on, os]))])) := hD
    replace h := zif_f h k04
    by_cases e14 : cd1 = 1
    · replace h := zif_t h e14
      subst e14
      refine vx_catch hown [] ⟨0, 11, 14, 19⟩ [] (htab.trans rfl) (fun z hz => nomatch hz) rfl (by decide) kc_19 (va_Nw.use rfl hE.2.2.1.2.2.2.2.2.1) h7 h8 h9 ?_
      refine lv_astore (lv' := [(4, .ref q9), (0, .ref (a 0)), (1, .int p1), (2, .int p2), (3, .ref o)]) hx hb dL_differ_14 hl (by decide) rfl (fun ls hl => ?_)
      refine lv_iconst (v := (1 : Int32)) hx hb dL_differ_16 (by decide) ?_
      have g0 := Option.some.inj h
      obtain ⟨h1, g1⟩ := Prod.mk.inj g0
      obtain ⟨h2, g2⟩ := Prod.mk.inj g1
      obtain ⟨h3, g3⟩ := Prod.mk.inj g2
      obtain ⟨h4, g4⟩ := Prod.mk.inj g3
      obtain ⟨h5, g5⟩ := Prod.mk.inj g4
      obtain ⟨h6, g6⟩ := Prod.mk.inj g5
      obtain ⟨h7, g7⟩ := Prod.mk.inj g6
      obtain ⟨h8, g8⟩ := Prod.mk.inj g7
      obtain ⟨h9, g9⟩ := Prod.mk.inj g8
      obtain ⟨h10, g10⟩ := Prod.mk.inj g9
      subst h1
      subst h2
      subst h3
      subst h4
      subst h5
      subst h6
      subst h7
      subst h8
      subst h9
      subst h10
      subst g10
      exact W.iret (v := (1 : Int32)) hx hb hr (fun t ht hW => ⟨⟨(1 : Int32), (on, os), rfl, ⟨rfl, rfl⟩, by rw [ht]; exact hP, va_K.moved hW.alike hK, hD⟩, hS.F ht⟩) hS.2.2 dL_differ_17
    · replace h := zif_f h e14
      exact (zno h).elim
  · replace h := zif_t h k04
    replace hP : va_P D vwCl (cW a cJ cI cO R_3 b_4 pr_5 tm_6 cn_7 sm_8 ac_9 re_10 kn_11 ++ ([(o, .inr (8, [.long on, os]))])) H := hP
    replace hD : va_D A (cW a cJ cI cO R_3 b_4 pr_5 tm_6 cn_7 sm_8 ac_9 re_10 kn_11 ++ ([(o, .inr (8, [.long on, os]))])) := hD
    refine lv_i2l (v := r2.toInt64) hx hb dL_differ_7 rfl ?_
    refine va_putN (D := D) (ci := 8) (v := .long (r2.toInt64)) (ty := .long) (C := RX8) (T := TX8) (N := 2) hx hb hts kwX8 tyX8 tyX8_ok nmX8 hown hK hP hD hS 21 rfl rfl 0 (by decide) (va_Nw.use rfl hKk.2.1) (fun _ h9 => h9) rfl (by decide +kernel) rfl rfl (Nat.le_of_ble_eq_true rfl) dL_differ_8 (fun H locs hP hD hS => ?_)
    replace hP : va_P D vwCl (cW a cJ cI cO R_3 b_4 pr_5 tm_6 cn_7 sm_8 ac_9 re_10 kn_11 ++ ([(o, .inr (8, [.long (r2.toInt64), os]))])) H := hP
    replace hD : va_D A (cW a cJ cI cO R_3 b_4 pr_5 tm_6 cn_7 sm_8 ac_9 re_10 kn_11 ++ ([(o, .inr (8, [.long (r2.toInt64), os]))])) := hD
    refine lv_goto (tgt := 18) hx hb dL_differ_11 (by decide) ?_
    refine lv_iconst (v := (0 : Int32)) hx hb dL_differ_18 (by decide) ?_
    have g0 := Option.some.inj h
    obtain ⟨h1, g1⟩ := Prod.mk.inj g0
    obtain ⟨h2, g2⟩ := Prod.mk.inj g1
    obtain ⟨h3, g3⟩ := Prod.mk.inj g2
    obtain ⟨h4, g4⟩ := Prod.mk.inj g3
    obtain ⟨h5, g5⟩ := Prod.mk.inj g4
    obtain ⟨h6, g6⟩ := Prod.mk.inj g5
    obtain ⟨h7, g7⟩ := Prod.mk.inj g6
    obtain ⟨h8, g8⟩ := Prod.mk.inj g7
    obtain ⟨h9, g9⟩ := Prod.mk.inj g8
    obtain ⟨h10, g10⟩ := Prod.mk.inj g9
    subst h1
    subst h2
    subst h3
    subst h4
    subst h5
    subst h6
    subst h7
    subst h8
    subst h9
    subst h10
    subst g10
    exact W.iret (v := (0 : Int32)) hx hb hr (fun t ht hW => ⟨⟨(0 : Int32), ((r2.toInt64), os), rfl, ⟨rfl, rfl⟩, by rw [ht]; exact hP, va_K.moved hW.alike hK, hD⟩, hS.F ht⟩) hS.2.2 dL_differ_19

noncomputable def p_L_is (F : Nat) (R : Nat → Nat → Int64) (b : Bool) (pr : Nat → Int32) (tm : Nat → Int32) (cn : Int32) (sm : Nat → Int32) (ac : Int32) (re : Int32) (kn : Int32) (p1 : Int32) (p2 : Int32) (on : Int64) : Option (Int32 × Int64 × (Nat → Nat → Int64) × Bool × (Nat → Int32) × (Nat → Int32) × Int32 × (Nat → Int32) × Int32 × Int32 × Int32) := (zb11 (p_X7_is F R b pr tm cn sm ac re kn p1 p2) (fun cd1 r2 R_3 b_4 pr_5 tm_6 cn_7 sm_8 ac_9 re_10 kn_11 => (if cd1 = 0 then (if (z01 r2) = 0 then (some ((0 : Int32), (0 : Int64), R_3, b_4, pr_5, tm_6, cn_7, sm_8, ac_9, re_10, kn_11)) else (some ((0 : Int32), (1 : Int64), R_3, b_4, pr_5, tm_6, cn_7, sm_8, ac_9, re_10, kn_11))) else (if cd1 = 1 then (some ((1 : Int32), on, R_3, b_4, pr_5, tm_6, cn_7, sm_8, ac_9, re_10, kn_11)) else (if cd1 = 2 then (some ((2 : Int32), on, R_3, b_4, pr_5, tm_6, cn_7, sm_8, ac_9, re_10, kn_11)) else none)))))
theorem hdS_L_is : yL_is.cls ≠ "java/lang/invoke/MethodHandle" ∧ yL_is.cls ≠ "java/lang/invoke/VarHandle" ∧ (parseMethodDescriptor yL_is.desc).map (fun d => d.parameters.length) = some 4 := by decide +kernel
set_option maxHeartbeats 4000000 in
set_option maxRecDepth 100000 in
theorem c_L_is (l : Launch) (D : va_G) (a : Nat → Nat) (cJ cI cO cB : ClassId) (R : Nat → Nat → Int64) (b : Bool) (pr : Nat → Int32) (tm : Nat → Int32) (cn : Int32) (sm : Nat → Int32) (ac : Int32) (re : Int32) (kn : Int32) (F : Nat) (p1 : Int32) (p2 : Int32) (o : Nat) (on : Int64) (os : Value) (r : Int32) (on' : Int64) (R' : Nat → Nat → Int64) (b' : Bool) (pr' : Nat → Int32) (tm' : Nat → Int32) (cn' : Int32) (sm' : Nat → Int32) (ac' : Int32) (re' : Int32) (kn' : Int32) (hlt : l.stackTraces = false) (h : p_L_is F R b pr tm cn sm ac re kn p1 p2 on = some (r, on', R', b', pr', tm', cn', sm', ac', re', kn')) : zMw l yL_is wsL_is 8 135 2 12 D (zT cJ cI cO cB) [.ref (a 0), .int p1, .int p2, .ref o] (cW a cJ cI cO R b pr tm cn sm ac re kn ++ ([(o, .inr (8, [.long on, os]))])) (fun u => (cW a cJ cI cO R' b' pr' tm' cn' sm' ac' re' kn' ++ ([(o, .inr (8, [.long (u.1), u.2]))]))) r on' := by
  intro sz
  delta zQw
  refine va_MetW (cc := cL_is) (maxL := 5) (ret := (some .int)) (by decide) rfl ?_
  intro p e s m args below meth c s₁ B hml hv
  obtain ⟨rfl, ⟨⟨hsz, hP, hK, hD0⟩, hE⟩, hKk⟩ := hv
  have hx := B.exec
  have hb := B.bytes
  have hr := B.returns
  have hts := atoms_spec (ws := wsL_is) B.pre
  have hown : s.vm.findClass RL = some m.cls := findClass_of_methodNamed B.named
  have hlocks := B.notSynchronized
  subst hsz
  have hD := hD0.self (sz := s.heap.size)
  generalize hAe : va_A (cW a cJ cI cO R b pr tm cn sm ac re kn ++ ([(o, .inr (8, [.long on, os]))])) s.heap.size = A at hD hE ⊢
  have hA : ∀ q : Nat, s.heap.size ≤ q → A q := fun q h => by rw [← hAe]; exact Or.inr h
  have hS : va_S A s.heap s.heap [] := va_S.rf
  have hl := lv_entry ([.ref (a 0), .int p1, .int p2, .ref o]) (n := 5) (Nat.le_of_ble_eq_true rfl)
  rw [lg_entry_eq]
  generalize (lg_sl ([.ref (a 0), .int p1, .int p2, .ref o]) ++ List.replicate (5 - (lg_sl ([.ref (a 0), .int p1, .int p2, .ref o])).length) Slot.unset).toArray = ls at hl ⊢
  replace hl : lv_has ls 5 [(0, .ref (a 0)), (1, .int p1), (2, .int p2), (3, .ref o)] := hl
  have kwX8 : ∀ w ∈ u_ws RX8 TX8 2, w ∈ wsL_is := fun w h => List.mem_cons_of_mem _ (List.mem_append_left _ (List.mem_append_right _ h))
  have htab := vx_table (x := yL_is) B (hts (.codeWith yL_is cL_is 5 (some .int) [(0, 18, 21, 19), (0, 18, 25, 21)]) (zmem 0 rfl))
  have kc_19 := hts (.classLink RL 19 (zxn 1)) (zmem 1 rfl)
  have kc_21 := hts (.classLink RL 21 (zxn 2)) (zmem 2 rfl)
  replace h : (zb11 (p_X7_is F R b pr tm cn sm ac re kn p1 p2) (fun cd1 r2 R_3 b_4 pr_5 tm_6 cn_7 sm_8 ac_9 re_10 kn_11 => (if cd1 = 0 then (if (z01 r2) = 0 then (some ((0 : Int32), (0 : Int64), R_3, b_4, pr_5, tm_6, cn_7, sm_8, ac_9, re_10, kn_11)) else (some ((0 : Int32), (1 : Int64), R_3, b_4, pr_5, tm_6, cn_7, sm_8, ac_9, re_10, kn_11))) else (if cd1 = 1 then (some ((1 : Int32), on, R_3, b_4, pr_5, tm_6, cn_7, sm_8, ac_9, re_10, kn_11)) else (if cd1 = 2 then (some ((2 : Int32), on, R_3, b_4, pr_5, tm_6, cn_7, sm_8, ac_9, re_10, kn_11)) else none))))) = some (r, on', R', b', pr', tm', cn', sm', ac', re', kn') := h
  obtain ⟨H, hHe⟩ : ∃ H, H = s.heap := ⟨_, rfl⟩
  rw [← hHe] at hP
  replace hS : va_S A s.heap H [] := by rw [hHe]; exact hS
  refine zheap hHe ?_
  refine lv_aload_n hx hb dL_is_0 rfl (lv_at hl 3 rfl) ?_
  refine lv_aload_n hx hb dL_is_1 rfl (lv_at hl 0 rfl) ?_
  refine lv_iload_n hx hb dL_is_2 rfl (lv_at hl 1 rfl) ?_
  refine lv_iload_n hx hb dL_is_3 rfl (lv_at hl 2 rfl) ?_
  obtain ⟨cd1, r2, R_3, b_4, pr_5, tm_6, cn_7, sm_8, ac_9, re_10, kn_11, e12, h⟩ := zb11_some h
  have hPc := zsub (wn := (cW a cJ cI cO R b pr tm cn sm ac re kn)) hP [0, 1, 2, 3, 4, 5, 6, 7, 8, 9, 10, 11, 12, 13, 14, 15, 16, 17, 18, 19, 20] rfl
  have hDc := hD.sub (ws' := (cW a cJ cI cO R b pr tm cn sm ac re kn)) [0, 1, 2, 3, 4, 5, 6, 7, 8, 9, 10, 11, 12, 13, 14, 15, 16, 17, 18, 19, 20] (by decide) rfl
  refine zxgoi (vx_runV (As := [.int p1, .int p2]) (rest := [.ref o]) ⟨hx, hb, hml, hown, hts⟩ (c_X7_is l D a cJ cI cO cB R b pr tm cn sm ac re kn F p1 p2 cd1 r2 R_3 b_4 pr_5 tm_6 cn_7 sm_8 ac_9 re_10 kn_11 hlt e12 H.size) (cwV 2 hts gL_is_X7_is rfl rfl rfl hdV_X7_is ⟨Nat.le_of_ble_eq_true rfl, Nat.le_of_ble_eq_true rfl⟩) (zxpreV hE hS (va_free hD hS hA [0, 1, 2, 3, 4, 5, 6, 7, 8, 9, 10, 11, 12, 13, 14, 15, 16, 17, 18, 19, 20] rfl) (q0 := 0) (ci := 7) (T := TX7) (N := 9) hK hPc hDc rfl rfl [.int p1, .int p2]) rfl rfl hl.1 rfl (lv_room (Nat.le_of_ble_eq_true rfl)) dL_is_4 ⟨Nat.le_of_ble_eq_true rfl, Nat.le_of_ble_eq_true rfl⟩) (va_free hD hS hA [0, 1, 2, 3, 4, 5, 6, 7, 8, 9, 10, 11, 12, 13, 14, 15, 16, 17, 18, 19, 20] rfl) (zjs (wn := (cW a cJ cI cO R_3 b_4 pr_5 tm_6 cn_7 sm_8 ac_9 re_10 kn_11 ++ ([(o, .inr (8, [.long on, os]))]))) [1, 2, 3, 4, 5, 6, 7, 8, 9, 10, 11, 12, 13, 14, 15, 16, 17, 18, 19, 20, 21, 0] (zjF (wr := ([(o, .inr (8, [.long on, os]))] : va_W)) hP hD hS hA [0, 1, 2, 3, 4, 5, 6, 7, 8, 9, 10, 11, 12, 13, 14, 15, 16, 17, 18, 19, 20] [21] rfl rfl (by decide) (by decide)) rfl (by decide)) hS (fun k04 => ?_) (fun k04 H locs hP hD hS => ?_)
  · intro ce q9 H locs hP hD hS h7 h8 h9
    replace hP : va_P D vwCl (cW a cJ cI cO R_3 b_4 pr_5 tm_6 cn_7 sm_8 ac_9 re_10 kn_11 ++ ([(o, .inr (8, [.long on, os]))])) H := hP
    replace hD : va_D A (cW a cJ cI cO R_3 b_4 pr_5 tm_6 cn_7 sm_8 ac_9 re_10 kn_11 ++ ([(o, .inr (8, [.long on, os]))])) := hD
    replace h := zif_f h k04
    by_cases e14 : cd1 = 1
    · replace h := zif_t h e14
      subst e14
      refine vx_catch hown [] ⟨0, 18, 21, 19⟩ [⟨0, 18, 25, 21⟩] (htab.trans rfl) (fun z hz => nomatch hz) rfl (by decide) kc_19 (va_Nw.use rfl hE.2.2.1.2.2.2.2.2.1) h7 h8 h9 ?_
      refine lv_astore (lv' := [(4, .ref q9), (0, .ref (a 0)), (1, .int p1), (2, .int p2), (3, .ref o)]) hx hb dL_is_21 hl (by decide) rfl (fun ls hl => ?_)
      refine lv_iconst (v := (1 : Int32)) hx hb dL_is_23 (by decide) ?_
      have g0 := Option.some.inj h
      obtain ⟨h1, g1⟩ := Prod.mk.inj g0
      obtain ⟨h2, g2⟩ := Prod.mk.inj g1
      obtain ⟨h3, g3⟩ := Prod.mk.inj g2
      obtain ⟨h4, g4⟩ := Prod.mk.inj g3
      obtain ⟨h5, g5⟩ := Prod.mk.inj g4
      obtain ⟨h6, g6⟩ := Prod.mk.inj g5
      obtain ⟨h7, g7⟩ := Prod.mk.inj g6
      obtain ⟨h8, g8⟩ := Prod.mk.inj g7
      obtain ⟨h9, g9⟩ := Prod.mk.inj g8
      obtain ⟨h10, g10⟩ := Prod.mk.inj g9
      subst h1
      subst h2
      subst h3
      subst h4
      subst h5
      subst h6
      subst h7
      subst h8
      subst h9
      subst h10
      subst g10
      exact W.iret (v := (1 : Int32)) hx hb hr (fun t ht hW => ⟨⟨(1 : Int32), (on, os), rfl, ⟨rfl, rfl⟩, by rw [ht]; exact hP, va_K.moved hW.alike hK, hD⟩, hS.F ht⟩) hS.2.2 dL_is_24
    · replace h := zif_f h e14
      by_cases e24 : cd1 = 2
      · replace h := zif_t h e24
        subst e24
        refine vx_catch hown [⟨0, 18, 21, 19⟩] ⟨0, 18, 25, 21⟩ [] (htab.trans rfl) (zpass1 (Or.inr ⟨by decide, _, kc_19, hKk.2.2.2.1⟩)) rfl (by decide) kc_21 (va_Nw.use rfl hE.2.2.1.2.2.2.2.2.2.1) h7 h8 h9 ?_
        refine lv_astore (lv' := [(4, .ref q9), (0, .ref (a 0)), (1, .int p1), (2, .int p2), (3, .ref o)]) hx hb dL_is_25 hl (by decide) rfl (fun ls hl => ?_)
        refine lv_iconst (v := (2 : Int32)) hx hb dL_is_27 (by decide) ?_
        have g0 := Option.some.inj h
        obtain ⟨h1, g1⟩ := Prod.mk.inj g0
        obtain ⟨h2, g2⟩ := Prod.mk.inj g1
        obtain ⟨h3, g3⟩ := Prod.mk.inj g2
        obtain ⟨h4, g4⟩ := Prod.mk.inj g3
        obtain ⟨h5, g5⟩ := Prod.mk.inj g4
        obtain ⟨h6, g6⟩ := Prod.mk.inj g5
        obtain ⟨h7, g7⟩ := Prod.mk.inj g6
        obtain ⟨h8, g8⟩ := Prod.mk.inj g7
        obtain ⟨h9, g9⟩ := Prod.mk.inj g8
        obtain ⟨h10, g10⟩ := Prod.mk.inj g9
        subst h1
        subst h2
        subst h3
        subst h4
        subst h5
        subst h6
        subst h7
        subst h8
        subst h9
        subst h10
        subst g10
        exact W.iret (v := (2 : Int32)) hx hb hr (fun t ht hW => ⟨⟨(2 : Int32), (on, os), rfl, ⟨rfl, rfl⟩, by rw [ht]; exact hP, va_K.moved hW.alike hK, hD⟩, hS.F ht⟩) hS.2.2 dL_is_28
      · replace h := zif_f h e24
        exact (zno h).elim
  · replace h := zif_t h k04
    replace hP : va_P D vwCl (cW a cJ cI cO R_3 b_4 pr_5 tm_6 cn_7 sm_8 ac_9 re_10 kn_11 ++ ([(o, .inr (8, [.long on, os]))])) H := hP
    replace hD : va_D A (cW a cJ cI cO R_3 b_4 pr_5 tm_6 cn_7 sm_8 ac_9 re_10 kn_11 ++ ([(o, .inr (8, [.long on, os]))])) := hD
    refine lv_if_eq (tgt := 14) hx hb dL_is_7 (by decide) (fun c7 => ?_) (fun c7 => ?_)
    · replace h := zif_t h c7
      refine lv_lconst (v := (0 : Int64)) hx hb dL_is_14 (by decide) ?_
      refine va_putN (D := D) (ci := 8) (v := .long (0 : Int64)) (ty := .long) (C := RX8) (T := TX8) (N := 2) hx hb hts kwX8 tyX8 tyX8_ok nmX8 hown hK hP hD hS 21 rfl rfl 0 (by decide) (va_Nw.use rfl hKk.2.1) (fun _ h9 => h9) rfl (by decide +kernel) rfl rfl (Nat.le_of_ble_eq_true rfl) dL_is_15 (fun H locs hP hD hS => ?_)
      replace hP : va_P D vwCl (cW a cJ cI cO R_3 b_4 pr_5 tm_6 cn_7 sm_8 ac_9 re_10 kn_11 ++ ([(o, .inr (8, [.long (0 : Int64), os]))])) H := hP
      replace hD : va_D A (cW a cJ cI cO R_3 b_4 pr_5 tm_6 cn_7 sm_8 ac_9 re_10 kn_11 ++ ([(o, .inr (8, [.long (0 : Int64), os]))])) := hD
      refine lv_goto (tgt := 29) hx hb dL_is_18 (by decide) ?_
      refine lv_iconst (v := (0 : Int32)) hx hb dL_is_29 (by decide) ?_
      have g0 := Option.some.inj h
      obtain ⟨h1, g1⟩ := Prod.mk.inj g0
      obtain ⟨h2, g2⟩ := Prod.mk.inj g1
      obtain ⟨h3, g3⟩ := Prod.mk.inj g2
      obtain ⟨h4, g4⟩ := Prod.mk.inj g3
      obtain ⟨h5, g5⟩ := Prod.mk.inj g4
      obtain ⟨h6, g6⟩ := Prod.mk.inj g5
      obtain ⟨h7, g7⟩ := Prod.mk.inj g6
      obtain ⟨h8, g8⟩ := Prod.mk.inj g7
      obtain ⟨h9, g9⟩ := Prod.mk.inj g8
      obtain ⟨h10, g10⟩ := Prod.mk.inj g9
      subst h1
      subst h2
      subst h3
      subst h4
      subst h5
      subst h6
      subst h7
      subst h8
      subst h9
      subst h10
      subst g10
      exact W.iret (v := (0 : Int32)) hx hb hr (fun t ht hW => ⟨⟨(0 : Int32), ((0 : Int64), os), rfl, ⟨rfl, rfl⟩, by rw [ht]; exact hP, va_K.moved hW.alike hK, hD⟩, hS.F ht⟩) hS.2.2 dL_is_30
    · replace h := zif_f h c7
      refine lv_lconst (v := (1 : Int64)) hx hb dL_is_10 (by decide) ?_
      refine lv_goto (tgt := 15) hx hb dL_is_11 (by decide) ?_
      refine va_putN (D := D) (ci := 8) (v := .long (1 : Int64)) (ty := .long) (C := RX8) (T := TX8) (N := 2) hx hb hts kwX8 tyX8 tyX8_ok nmX8 hown hK hP hD hS 21 rfl rfl 0 (by decide) (va_Nw.use rfl hKk.2.1) (fun _ h9 => h9) rfl (by decide +kernel) rfl rfl (Nat.le_of_ble_eq_true rfl) dL_is_15 (fun H locs hP hD hS => ?_)
      replace hP : va_P D vwCl (cW a cJ cI cO R_3 b_4 pr_5 tm_6 cn_7 sm_8 ac_9 re_10 kn_11 ++ ([(o, .inr (8, [.long (1 : Int64), os]))])) H := hP
      replace hD : va_D A (cW a cJ cI cO R_3 b_4 pr_5 tm_6 cn_7 sm_8 ac_9 re_10 kn_11 ++ ([(o, .inr (8, [.long (1 : Int64), os]))])) := hD
      refine lv_goto (tgt := 29) hx hb dL_is_18 (by decide) ?_
      refine lv_iconst (v := (0 : Int32)) hx hb dL_is_29 (by decide) ?_
      have g0 := Option.some.inj h
      obtain ⟨h1, g1⟩ := Prod.mk.inj g0
      obtain ⟨h2, g2⟩ := Prod.mk.inj g1
      obtain ⟨h3, g3⟩ := Prod.mk.inj g2
      obtain ⟨h4, g4⟩ := Prod.mk.inj g3
      obtain ⟨h5, g5⟩ := Prod.mk.inj g4
      obtain ⟨h6, g6⟩ := Prod.mk.inj g5
      obtain ⟨h7, g7⟩ := Prod.mk.inj g6
      obtain ⟨h8, g8⟩ := Prod.mk.inj g7
      obtain ⟨h9, g9⟩ := Prod.mk.inj g8
      obtain ⟨h10, g10⟩ := Prod.mk.inj g9
      subst h1
      subst h2
      subst h3
      subst h4
      subst h5
      subst h6
      subst h7
      subst h8
      subst h9
      subst h10
      subst g10
      exact W.iret (v := (0 : Int32)) hx hb hr (fun t ht hW => ⟨⟨(0 : Int32), ((1 : Int64), os), rfl, ⟨rfl, rfl⟩, by rw [ht]; exact hP, va_K.moved hW.alike hK, hD⟩, hS.F ht⟩) hS.2.2 dL_is_30

noncomputable def p_L_total (F : Nat) (R : Nat → Nat → Int64) (b : Bool) (p1 : Int32) (p2 : Int32) (on : Int64) : Option (Int32 × Int64 × Bool) := (zb2 (p_X7_total F R b p1 p2) (fun cd1 b_2 => (if cd1 = 0 then (some ((0 : Int32), on, b_2)) else (if cd1 = 1 then (some ((1 : Int32), on, b_2)) else (if cd1 = 2 then (some ((2 : Int32), on, b_2)) else (if cd1 = 3 then (some ((3 : Int32), on, b_2)) else none))))))
theorem hdS_L_total : yL_total.cls ≠ "java/lang/invoke/MethodHandle" ∧ yL_total.cls ≠ "java/lang/invoke/VarHandle" ∧ (parseMethodDescriptor yL_total.desc).map (fun d => d.parameters.length) = some 4 := by decide +kernel
set_option maxHeartbeats 4000000 in
set_option maxRecDepth 100000 in
theorem c_L_total (l : Launch) (D : va_G) (a : Nat → Nat) (cJ cI cO cB : ClassId) (R : Nat → Nat → Int64) (b : Bool) (pr : Nat → Int32) (tm : Nat → Int32) (cn : Int32) (sm : Nat → Int32) (ac : Int32) (re : Int32) (kn : Int32) (F : Nat) (p1 : Int32) (p2 : Int32) (o : Nat) (on : Int64) (os : Value) (r : Int32) (on' : Int64) (b' : Bool) (hlt : l.stackTraces = false) (h : p_L_total F R b p1 p2 on = some (r, on', b')) : zMw l yL_total wsL_total 8 223 26 3186 D (zT cJ cI cO cB) [.ref (a 0), .int p1, .int p2, .ref o] (cW a cJ cI cO R b pr tm cn sm ac re kn ++ ([(o, .inr (8, [.long on, os]))])) (fun u => (cW a cJ cI cO R b' pr tm cn sm ac re kn ++ ([(o, .inr (8, [.long (u.1), u.2]))]))) r on' := by
  intro sz
  delta zQw
  refine va_MetW (cc := cL_total) (maxL := 5) (ret := (some .int)) (by decide) rfl ?_
  intro p e s m args below meth c s₁ B hml hv
  obtain ⟨rfl, ⟨⟨hsz, hP, hK, hD0⟩, hE⟩, hKk⟩ := hv
  have hx := B.exec
  have hb := B.bytes
  have hr := B.returns
  have hts := atoms_spec (ws := wsL_total) B.pre
  have hown : s.vm.findClass RL = some m.cls := findClass_of_methodNamed B.named
  have hlocks := B.notSynchronized
  subst hsz
  have hD := hD0.self (sz := s.heap.size)
  generalize hAe : va_A (cW a cJ cI cO R b pr tm cn sm ac re kn ++ ([(o, .inr (8, [.long on, os]))])) s.heap.size = A at hD hE ⊢
  have hA : ∀ q : Nat, s.heap.size ≤ q → A q := fun q h => by rw [← hAe]; exact Or.inr h
  have hS : va_S A s.heap s.heap [] := va_S.rf
  have hl := lv_entry ([.ref (a 0), .int p1, .int p2, .ref o]) (n := 5) (Nat.le_of_ble_eq_true rfl)
  rw [lg_entry_eq]
  generalize (lg_sl ([.ref (a 0), .int p1, .int p2, .ref o]) ++ List.replicate (5 - (lg_sl ([.ref (a 0), .int p1, .int p2, .ref o])).length) Slot.unset).toArray = ls at hl ⊢
  replace hl : lv_has ls 5 [(0, .ref (a 0)), (1, .int p1), (2, .int p2), (3, .ref o)] := hl
  have kwX8 : ∀ w ∈ u_ws RX8 TX8 2, w ∈ wsL_total := fun w h => List.mem_cons_of_mem _ (List.mem_append_left _ (List.mem_append_right _ h))
  have htab := vx_table (x := yL_total) B (hts (.codeWith yL_total cL_total 5 (some .int) [(0, 10, 13, 19), (0, 10, 17, 21), (0, 10, 21, 71)]) (zmem 0 rfl))
  have kc_19 := hts (.classLink RL 19 (zxn 1)) (zmem 1 rfl)
  have kc_21 := hts (.classLink RL 21 (zxn 2)) (zmem 2 rfl)
  have kc_71 := hts (.classLink RL 71 (zxn 3)) (zmem 3 rfl)
  replace h : (zb2 (p_X7_total F R b p1 p2) (fun cd1 b_2 => (if cd1 = 0 then (some ((0 : Int32), on, b_2)) else (if cd1 = 1 then (some ((1 : Int32), on, b_2)) else (if cd1 = 2 then (some ((2 : Int32), on, b_2)) else (if cd1 = 3 then (some ((3 : Int32), on, b_2)) else none)))))) = some (r, on', b') := h
  obtain ⟨H, hHe⟩ : ∃ H, H = s.heap := ⟨_, rfl⟩
  rw [← hHe] at hP
  replace hS : va_S A s.heap H [] := by rw [hHe]; exact hS
  refine zheap hHe ?_
  refine lv_aload_n hx hb dL_total_0 rfl (lv_at hl 3 rfl) ?_
  refine lv_aload_n hx hb dL_total_1 rfl (lv_at hl 0 rfl) ?_
  refine lv_iload_n hx hb dL_total_2 rfl (lv_at hl 1 rfl) ?_
  refine lv_iload_n hx hb dL_total_3 rfl (lv_at hl 2 rfl) ?_
  obtain ⟨cd1, b_2, e3, h⟩ := zb2_some h
  have hPc := zsub (wn := (cW a cJ cI cO R b pr tm cn sm ac re kn)) hP [0, 1, 2, 3, 4, 5, 6, 7, 8, 9, 10, 11, 12, 13, 14, 15, 16, 17, 18, 19, 20] rfl
  have hDc := hD.sub (ws' := (cW a cJ cI cO R b pr tm cn sm ac re kn)) [0, 1, 2, 3, 4, 5, 6, 7, 8, 9, 10, 11, 12, 13, 14, 15, 16, 17, 18, 19, 20] (by decide) rfl
  refine zxgos (vx_runV (As := [.int p1, .int p2]) (rest := [.ref o]) ⟨hx, hb, hml, hown, hts⟩ (c_X7_total l D a cJ cI cO cB R b pr tm cn sm ac re kn F p1 p2 cd1 b_2 hlt e3 H.size) (cwV 2 hts gL_total_X7_total rfl rfl rfl hdV_X7_total ⟨Nat.le_of_ble_eq_true rfl, Nat.le_of_ble_eq_true rfl⟩) (zxpreV hE hS (va_free hD hS hA [0, 1, 2, 3, 4, 5, 6, 7, 8, 9, 10, 11, 12, 13, 14, 15, 16, 17, 18, 19, 20] rfl) (q0 := 0) (ci := 7) (T := TX7) (N := 9) hK hPc hDc rfl rfl [.int p1, .int p2]) rfl rfl hl.1 rfl (lv_room (Nat.le_of_ble_eq_true rfl)) dL_total_4 ⟨Nat.le_of_ble_eq_true rfl, Nat.le_of_ble_eq_true rfl⟩) (va_free hD hS hA [0, 1, 2, 3, 4, 5, 6, 7, 8, 9, 10, 11, 12, 13, 14, 15, 16, 17, 18, 19, 20] rfl) (zjs (wn := (cW a cJ cI cO R b_2 pr tm cn sm ac re kn ++ ([(o, .inr (8, [.long on, os]))]))) [1, 2, 3, 4, 5, 6, 7, 8, 9, 10, 11, 12, 13, 14, 15, 16, 17, 18, 19, 20, 21, 0] (zjF (wr := ([(o, .inr (8, [.long on, os]))] : va_W)) hP hD hS hA [0, 1, 2, 3, 4, 5, 6, 7, 8, 9, 10, 11, 12, 13, 14, 15, 16, 17, 18, 19, 20] [21] rfl rfl (by decide) (by decide)) rfl (by decide)) hS (fun k04 => ?_) (fun k04 s4 H locs hP hD hS => ?_)
  · intro ce q9 H locs hP hD hS h7 h8 h9
    replace hP : va_P D vwCl (cW a cJ cI cO R b_2 pr tm cn sm ac re kn ++ ([(o, .inr (8, [.long on, os]))])) H := hP
    replace hD : va_D A (cW a cJ cI cO R b_2 pr tm cn sm ac re kn ++ ([(o, .inr (8, [.long on, os]))])) := hD
    replace h := zif_f h k04
    by_cases e14 : cd1 = 1
    · replace h := zif_t h e14
      subst e14
      refine vx_catch hown [] ⟨0, 10, 13, 19⟩ [⟨0, 10, 17, 21⟩, ⟨0, 10, 21, 71⟩] (htab.trans rfl) (fun z hz => nomatch hz) rfl (by decide) kc_19 (va_Nw.use rfl hE.2.2.1.2.2.2.2.2.1) h7 h8 h9 ?_
      refine lv_astore (lv' := [(4, .ref q9), (0, .ref (a 0)), (1, .int p1), (2, .int p2), (3, .ref o)]) hx hb dL_total_13 hl (by decide) rfl (fun ls hl => ?_)
      refine lv_iconst (v := (1 : Int32)) hx hb dL_total_15 (by decide) ?_
      have g0 := Option.some.inj h
      obtain ⟨h1, g1⟩ := Prod.mk.inj g0
      obtain ⟨h2, g2⟩ := Prod.mk.inj g1
      subst h1
      subst h2
      subst g2
      exact W.iret (v := (1 : Int32)) hx hb hr (fun t ht hW => ⟨⟨(1 : Int32), (on, os), rfl, ⟨rfl, rfl⟩, by rw [ht]; exact hP, va_K.moved hW.alike hK, hD⟩, hS.F ht⟩) hS.2.2 dL_total_16
    · replace h := zif_f h e14
      by_cases e24 : cd1 = 2
      · replace h := zif_t h e24
        subst e24
        refine vx_catch hown [⟨0, 10, 13, 19⟩] ⟨0, 10, 17, 21⟩ [⟨0, 10, 21, 71⟩] (htab.trans rfl) (zpass1 (Or.inr ⟨by decide, _, kc_19, hKk.2.2.2.1⟩)) rfl (by decide) kc_21 (va_Nw.use rfl hE.2.2.1.2.2.2.2.2.2.1) h7 h8 h9 ?_
        refine lv_astore (lv' := [(4, .ref q9), (0, .ref (a 0)), (1, .int p1), (2, .int p2), (3, .ref o)]) hx hb dL_total_17 hl (by decide) rfl (fun ls hl => ?_)
        refine lv_iconst (v := (2 : Int32)) hx hb dL_total_19 (by decide) ?_
        have g0 := Option.some.inj h
        obtain ⟨h1, g1⟩ := Prod.mk.inj g0
        obtain ⟨h2, g2⟩ := Prod.mk.inj g1
        subst h1
        subst h2
        subst g2
        exact W.iret (v := (2 : Int32)) hx hb hr (fun t ht hW => ⟨⟨(2 : Int32), (on, os), rfl, ⟨rfl, rfl⟩, by rw [ht]; exact hP, va_K.moved hW.alike hK, hD⟩, hS.F ht⟩) hS.2.2 dL_total_20
      · replace h := zif_f h e24
        by_cases e34 : cd1 = 3
        · replace h := zif_t h e34
          subst e34
          refine vx_catch hown [⟨0, 10, 13, 19⟩, ⟨0, 10, 17, 21⟩] ⟨0, 10, 21, 71⟩ [] (htab.trans rfl) (zpass2 (Or.inr ⟨by decide, _, kc_19, hKk.2.2.2.2.1⟩) (Or.inr ⟨by decide, _, kc_21, hKk.2.2.2.2.2⟩)) rfl (by decide) kc_71 (va_Nw.use rfl hE.2.2.1.2.2.2.2.2.2.2.1) h7 h8 h9 ?_
          refine lv_astore (lv' := [(4, .ref q9), (0, .ref (a 0)), (1, .int p1), (2, .int p2), (3, .ref o)]) hx hb dL_total_21 hl (by decide) rfl (fun ls hl => ?_)
          refine lv_iconst (v := (3 : Int32)) hx hb dL_total_23 (by decide) ?_
          have g0 := Option.some.inj h
          obtain ⟨h1, g1⟩ := Prod.mk.inj g0
          obtain ⟨h2, g2⟩ := Prod.mk.inj g1
          subst h1
          subst h2
          subst g2
          exact W.iret (v := (3 : Int32)) hx hb hr (fun t ht hW => ⟨⟨(3 : Int32), (on, os), rfl, ⟨rfl, rfl⟩, by rw [ht]; exact hP, va_K.moved hW.alike hK, hD⟩, hS.F ht⟩) hS.2.2 dL_total_24
        · replace h := zif_f h e34
          exact (zno h).elim
  · replace h := zif_t h k04
    replace hP : va_P D vwCl (cW a cJ cI cO R b_2 pr tm cn sm ac re kn ++ ([(o, .inr (8, [.long on, os]))])) H := hP
    replace hD : va_D A (cW a cJ cI cO R b_2 pr tm cn sm ac re kn ++ ([(o, .inr (8, [.long on, os]))])) := hD
    refine va_putN (D := D) (ci := 8) (v := .ref s4) (ty := (.object "java/lang/String")) (C := RX8) (T := TX8) (N := 2) hx hb hts kwX8 tyX8 tyX8_ok nmX8 hown hK hP hD hS 21 rfl rfl 1 (by decide) (va_Nw.use rfl hKk.2.2.1) (fun _ h9 => h9) rfl (by decide +kernel) rfl rfl (Nat.le_of_ble_eq_true rfl) dL_total_7 (fun H locs hP hD hS => ?_)
    replace hP : va_P D vwCl (cW a cJ cI cO R b_2 pr tm cn sm ac re kn ++ ([(o, .inr (8, [.long on, .ref s4]))])) H := hP
    replace hD : va_D A (cW a cJ cI cO R b_2 pr tm cn sm ac re kn ++ ([(o, .inr (8, [.long on, .ref s4]))])) := hD
    refine lv_goto (tgt := 25) hx hb dL_total_10 (by decide) ?_
    refine lv_iconst (v := (0 : Int32)) hx hb dL_total_25 (by decide) ?_
    have g0 := Option.some.inj h
    obtain ⟨h1, g1⟩ := Prod.mk.inj g0
    obtain ⟨h2, g2⟩ := Prod.mk.inj g1
    subst h1
    subst h2
    subst g2
    exact W.iret (v := (0 : Int32)) hx hb hr (fun t ht hW => ⟨⟨(0 : Int32), (on, .ref s4), rfl, ⟨rfl, rfl⟩, by rw [ht]; exact hP, va_K.moved hW.alike hK, hD⟩, hS.F ht⟩) hS.2.2 dL_total_26

noncomputable def p_L_totalOfProduct (F : Nat) (R : Nat → Nat → Int64) (b : Bool) (pr : Nat → Int32) (tm : Nat → Int32) (cn : Int32) (sm : Nat → Int32) (ac : Int32) (re : Int32) (kn : Int32) (p1 : Int32) (p2 : Int32) (p3 : Int32) (p4 : Int32) (on : Int64) : Option (Int32 × Int64 × (Nat → Nat → Int64) × Bool × (Nat → Int32) × (Nat → Int32) × Int32 × (Nat → Int32) × Int32 × Int32 × Int32) := (zb10 (p_X7_totalOfProduct F R b pr tm cn sm ac re kn p1 p2 p3 p4) (fun cd1 R_2 b_3 pr_4 tm_5 cn_6 sm_7 ac_8 re_9 kn_10 => (if cd1 = 0 then (some ((0 : Int32), on, R_2, b_3, pr_4, tm_5, cn_6, sm_7, ac_8, re_9, kn_10)) else (if cd1 = 1 then (some ((1 : Int32), on, R_2, b_3, pr_4, tm_5, cn_6, sm_7, ac_8, re_9, kn_10)) else (if cd1 = 2 then (some ((2 : Int32), on, R_2, b_3, pr_4, tm_5, cn_6, sm_7, ac_8, re_9, kn_10)) else (if cd1 = 3 then (some ((3 : Int32), on, R_2, b_3, pr_4, tm_5, cn_6, sm_7, ac_8, re_9, kn_10)) else none))))))
theorem hdS_L_totalOfProduct : yL_totalOfProduct.cls ≠ "java/lang/invoke/MethodHandle" ∧ yL_totalOfProduct.cls ≠ "java/lang/invoke/VarHandle" ∧ (parseMethodDescriptor yL_totalOfProduct.desc).map (fun d => d.parameters.length) = some 6 := by decide +kernel
set_option maxHeartbeats 4000000 in
set_option maxRecDepth 100000 in
theorem c_L_totalOfProduct (l : Launch) (D : va_G) (a : Nat → Nat) (cJ cI cO cB : ClassId) (R : Nat → Nat → Int64) (b : Bool) (pr : Nat → Int32) (tm : Nat → Int32) (cn : Int32) (sm : Nat → Int32) (ac : Int32) (re : Int32) (kn : Int32) (F : Nat) (p1 : Int32) (p2 : Int32) (p3 : Int32) (p4 : Int32) (o : Nat) (on : Int64) (os : Value) (r : Int32) (on' : Int64) (R' : Nat → Nat → Int64) (b' : Bool) (pr' : Nat → Int32) (tm' : Nat → Int32) (cn' : Int32) (sm' : Nat → Int32) (ac' : Int32) (re' : Int32) (kn' : Int32) (hlt : l.stackTraces = false) (h : p_L_totalOfProduct F R b pr tm cn sm ac re kn p1 p2 p3 p4 on = some (r, on', R', b', pr', tm', cn', sm', ac', re', kn')) : zMw l yL_totalOfProduct wsL_totalOfProduct 8 223 30 3210 D (zT cJ cI cO cB) [.ref (a 0), .int p1, .int p2, .int p3, .int p4, .ref o] (cW a cJ cI cO R b pr tm cn sm ac re kn ++ ([(o, .inr (8, [.long on, os]))])) (fun u => (cW a cJ cI cO R' b' pr' tm' cn' sm' ac' re' kn' ++ ([(o, .inr (8, [.long (u.1), u.2]))]))) r on' := by
  intro sz
  delta zQw
  refine va_MetW (cc := cL_totalOfProduct) (maxL := 7) (ret := (some .int)) (by decide) rfl ?_
  intro p e s m args below meth c s₁ B hml hv
  obtain ⟨rfl, ⟨⟨hsz, hP, hK, hD0⟩, hE⟩, hKk⟩ := hv
  have hx := B.exec
  have hb := B.bytes
  have hr := B.returns
  have hts := atoms_spec (ws := wsL_totalOfProduct) B.pre
  have hown : s.vm.findClass RL = some m.cls := findClass_of_methodNamed B.named
  have hlocks := B.notSynchronized
  subst hsz
  have hD := hD0.self (sz := s.heap.size)
  generalize hAe : va_A (cW a cJ cI cO R b pr tm cn sm ac re kn ++ ([(o, .inr (8, [.long on, os]))])) s.heap.size = A at hD hE ⊢
  have hA : ∀ q : Nat, s.heap.size ≤ q → A q := fun q h => by rw [← hAe]; exact Or.inr h
  have hS : va_S A s.heap s.heap [] := va_S.rf
  have hl := lv_entry ([.ref (a 0), .int p1, .int p2, .int p3, .int p4, .ref o]) (n := 7) (Nat.le_of_ble_eq_true rfl)
  rw [lg_entry_eq]
  generalize (lg_sl ([.ref (a 0), .int p1, .int p2, .int p3, .int p4, .ref o]) ++ List.replicate (7 - (lg_sl ([.ref (a 0), .int p1, .int p2, .int p3, .int p4, .ref o])).length) Slot.unset).toArray = ls at hl ⊢
  replace hl : lv_has ls 7 [(0, .ref (a 0)), (1, .int p1), (2, .int p2), (3, .int p3), (4, .int p4), (5, .ref o)] := hl
  have kwX8 : ∀ w ∈ u_ws RX8 TX8 2, w ∈ wsL_totalOfProduct := fun w h => List.mem_cons_of_mem _ (List.mem_append_left _ (List.mem_append_right _ h))
  have htab := vx_table (x := yL_totalOfProduct) B (hts (.codeWith yL_totalOfProduct cL_totalOfProduct 7 (some .int) [(0, 14, 17, 19), (0, 14, 21, 21), (0, 14, 25, 71)]) (zmem 0 rfl))
  have kc_19 := hts (.classLink RL 19 (zxn 1)) (zmem 1 rfl)
  have kc_21 := hts (.classLink RL 21 (zxn 2)) (zmem 2 rfl)
  have kc_71 := hts (.classLink RL 71 (zxn 3)) (zmem 3 rfl)
  replace h : (zb10 (p_X7_totalOfProduct F R b pr tm cn sm ac re kn p1 p2 p3 p4) (fun cd1 R_2 b_3 pr_4 tm_5 cn_6 sm_7 ac_8 re_9 kn_10 => (if cd1 = 0 then (some ((0 : Int32), on, R_2, b_3, pr_4, tm_5, cn_6, sm_7, ac_8, re_9, kn_10)) else (if cd1 = 1 then (some ((1 : Int32), on, R_2, b_3, pr_4, tm_5, cn_6, sm_7, ac_8, re_9, kn_10)) else (if cd1 = 2 then (some ((2 : Int32), on, R_2, b_3, pr_4, tm_5, cn_6, sm_7, ac_8, re_9, kn_10)) else (if cd1 = 3 then (some ((3 : Int32), on, R_2, b_3, pr_4, tm_5, cn_6, sm_7, ac_8, re_9, kn_10)) else none)))))) = some (r, on', R', b', pr', tm', cn', sm', ac', re', kn') := h
  obtain ⟨H, hHe⟩ : ∃ H, H = s.heap := ⟨_, rfl⟩
  rw [← hHe] at hP
  replace hS : va_S A s.heap H [] := by rw [hHe]; exact hS
  refine zheap hHe ?_
  refine lv_aload hx hb dL_totalOfProduct_0 (lv_at hl 5 rfl) ?_
  refine lv_aload_n hx hb dL_totalOfProduct_2 rfl (lv_at hl 0 rfl) ?_
  refine lv_iload_n hx hb dL_totalOfProduct_3 rfl (lv_at hl 1 rfl) ?_
  refine lv_iload_n hx hb dL_totalOfProduct_4 rfl (lv_at hl 2 rfl) ?_
  refine lv_iload_n hx hb dL_totalOfProduct_5 rfl (lv_at hl 3 rfl) ?_
  refine lv_iload hx hb dL_totalOfProduct_6 (lv_at hl 4 rfl) ?_
  obtain ⟨cd1, R_2, b_3, pr_4, tm_5, cn_6, sm_7, ac_8, re_9, kn_10, e11, h⟩ := zb10_some h
  have hPc := zsub (wn := (cW a cJ cI cO R b pr tm cn sm ac re kn)) hP [0, 1, 2, 3, 4, 5, 6, 7, 8, 9, 10, 11, 12, 13, 14, 15, 16, 17, 18, 19, 20] rfl
  have hDc := hD.sub (ws' := (cW a cJ cI cO R b pr tm cn sm ac re kn)) [0, 1, 2, 3, 4, 5, 6, 7, 8, 9, 10, 11, 12, 13, 14, 15, 16, 17, 18, 19, 20] (by decide) rfl
  refine zxgos (vx_runV (As := [.int p1, .int p2, .int p3, .int p4]) (rest := [.ref o]) ⟨hx, hb, hml, hown, hts⟩ (c_X7_totalOfProduct l D a cJ cI cO cB R b pr tm cn sm ac re kn F p1 p2 p3 p4 cd1 R_2 b_3 pr_4 tm_5 cn_6 sm_7 ac_8 re_9 kn_10 hlt e11 H.size) (cwV 4 hts gL_totalOfProduct_X7_totalOfProduct rfl rfl rfl hdV_X7_totalOfProduct ⟨Nat.le_of_ble_eq_true rfl, Nat.le_of_ble_eq_true rfl⟩) (zxpreV hE hS (va_free hD hS hA [0, 1, 2, 3, 4, 5, 6, 7, 8, 9, 10, 11, 12, 13, 14, 15, 16, 17, 18, 19, 20] rfl) (q0 := 0) (ci := 7) (T := TX7) (N := 9) hK hPc hDc rfl rfl [.int p1, .int p2, .int p3, .int p4]) rfl rfl hl.1 rfl (lv_room (Nat.le_of_ble_eq_true rfl)) dL_totalOfProduct_8 ⟨Nat.le_of_ble_eq_true rfl, Nat.le_of_ble_eq_true rfl⟩) (va_free hD hS hA [0, 1, 2, 3, 4, 5, 6, 7, 8, 9, 10, 11, 12, 13, 14, 15, 16, 17, 18, 19, 20] rfl) (zjs (wn := (cW a cJ cI cO R_2 b_3 pr_4 tm_5 cn_6 sm_7 ac_8 re_9 kn_10 ++ ([(o, .inr (8, [.long on, os]))]))) [1, 2, 3, 4, 5, 6, 7, 8, 9, 10, 11, 12, 13, 14, 15, 16, 17, 18, 19, 20, 21, 0] (zjF (wr := ([(o, .inr (8, [.long on, os]))] : va_W)) hP hD hS hA [0, 1, 2, 3, 4, 5, 6, 7, 8, 9, 10, 11, 12, 13, 14, 15, 16, 17, 18, 19, 20] [21] rfl rfl (by decide) (by decide)) rfl (by decide)) hS (fun k08 => ?_) (fun k08 s12 H locs hP hD hS => ?_)
  · intro ce q9 H locs hP hD hS h7 h8 h9
    replace hP : va_P D vwCl (cW a cJ cI cO R_2 b_3 pr_4 tm_5 cn_6 sm_7 ac_8 re_9 kn_10 ++ ([(o, .inr (8, [.long on, os]))])) H := hP
    replace hD : va_D A (cW a cJ cI cO R_2 b_3 pr_4 tm_5 cn_6 sm_7 ac_8 re_9 kn_10 ++ ([(o, .inr (8, [.long on, os]))])) := hD
    replace h := zif_f h k08
    by_cases e18 : cd1 = 1
    · replace h := zif_t h e18
      subst e18
      refine vx_catch hown [] ⟨0, 14, 17, 19⟩ [⟨0, 14, 21, 21⟩, ⟨0, 14, 25, 71⟩] (htab.trans rfl) (fun z hz => nomatch hz) rfl (by decide) kc_19 (va_Nw.use rfl hE.2.2.1.2.2.2.2.2.1) h7 h8 h9 ?_
      refine lv_astore (lv' := [(6, .ref q9), (0, .ref (a 0)), (1, .int p1), (2, .int p2), (3, .int p3), (4, .int p4), (5, .ref o)]) hx hb dL_totalOfProduct_17 hl (by decide) rfl (fun ls hl => ?_)
      refine lv_iconst (v := (1 : Int32)) hx hb dL_totalOfProduct_19 (by decide) ?_
      have g0 := Option.some.inj h
      obtain ⟨h1, g1⟩ := Prod.mk.inj g0
      obtain ⟨h2, g2⟩ := Prod.mk.inj g1
      obtain ⟨h3, g3⟩ := Prod.mk.inj g2
      obtain ⟨h4, g4⟩ := Prod.mk.inj g3
      obtain ⟨h5, g5⟩ := Prod.mk.inj g4
      obtain ⟨h6, g6⟩ := Prod.mk.inj g5
      obtain ⟨h7, g7⟩ := Prod.mk.inj g6
      obtain ⟨h8, g8⟩ := Prod.mk.inj g7
      obtain ⟨h9, g9⟩ := Prod.mk.inj g8
      obtain ⟨h10, g10⟩ := Prod.mk.inj g9
      subst h1
      subst h2
      subst h3
      subst h4
      subst h5
      subst h6
      subst h7
      subst h8
      subst h9
      subst h10
      subst g10
      exact W.iret (v := (1 : Int32)) hx hb hr (fun t ht hW => ⟨⟨(1 : Int32), (on, os), rfl, ⟨rfl, rfl⟩, by rw [ht]; exact hP, va_K.moved hW.alike hK, hD⟩, hS.F ht⟩) hS.2.2 dL_totalOfProduct_20
    · replace h := zif_f h e18
      by_cases e28 : cd1 = 2
      · replace h := zif_t h e28
        subst e28
        refine vx_catch hown [⟨0, 14, 17, 19⟩] ⟨0, 14, 21, 21⟩ [⟨0, 14, 25, 71⟩] (htab.trans rfl) (zpass1 (Or.inr ⟨by decide, _, kc_19, hKk.2.2.2.1⟩)) rfl (by decide) kc_21 (va_Nw.use rfl hE.2.2.1.2.2.2.2.2.2.1) h7 h8 h9 ?_
        refine lv_astore (lv' := [(6, .ref q9), (0, .ref (a 0)), (1, .int p1), (2, .int p2), (3, .int p3), (4, .int p4), (5, .ref o)]) hx hb dL_totalOfProduct_21 hl (by decide) rfl (fun ls hl => ?_)
        refine lv_iconst (v := (2 : Int32)) hx hb dL_totalOfProduct_23 (by decide) ?_
        have g0 := Option.some.inj h
        obtain ⟨h1, g1⟩ := Prod.mk.inj g0
        obtain ⟨h2, g2⟩ := Prod.mk.inj g1
        obtain ⟨h3, g3⟩ := Prod.mk.inj g2
        obtain ⟨h4, g4⟩ := Prod.mk.inj g3
        obtain ⟨h5, g5⟩ := Prod.mk.inj g4
        obtain ⟨h6, g6⟩ := Prod.mk.inj g5
        obtain ⟨h7, g7⟩ := Prod.mk.inj g6
        obtain ⟨h8, g8⟩ := Prod.mk.inj g7
        obtain ⟨h9, g9⟩ := Prod.mk.inj g8
        obtain ⟨h10, g10⟩ := Prod.mk.inj g9
        subst h1
        subst h2
        subst h3
        subst h4
        subst h5
        subst h6
        subst h7
        subst h8
        subst h9
        subst h10
        subst g10
        exact W.iret (v := (2 : Int32)) hx hb hr (fun t ht hW => ⟨⟨(2 : Int32), (on, os), rfl, ⟨rfl, rfl⟩, by rw [ht]; exact hP, va_K.moved hW.alike hK, hD⟩, hS.F ht⟩) hS.2.2 dL_totalOfProduct_24
      · replace h := zif_f h e28
        by_cases e38 : cd1 = 3
        · replace h := zif_t h e38
          subst e38
          refine vx_catch hown [⟨0, 14, 17, 19⟩, ⟨0, 14, 21, 21⟩] ⟨0, 14, 25, 71⟩ [] (htab.trans rfl) (zpass2 (Or.inr ⟨by decide, _, kc_19, hKk.2.2.2.2.1⟩) (Or.inr ⟨by decide, _, kc_21, hKk.2.2.2.2.2⟩)) rfl (by decide) kc_71 (va_Nw.use rfl hE.2.2.1.2.2.2.2.2.2.2.1) h7 h8 h9 ?_
          refine lv_astore (lv' := [(6, .ref q9), (0, .ref (a 0)), (1, .int p1), (2, .int p2), (3, .int p3), (4, .int p4), (5, .ref o)]) hx hb dL_totalOfProduct_25 hl (by decide) rfl (fun ls hl => ?_)
          refine lv_iconst (v := (3 : Int32)) hx hb dL_totalOfProduct_27 (by decide) ?_
          have g0 := Option.some.inj h
          obtain ⟨h1, g1⟩ := Prod.mk.inj g0
          obtain ⟨h2, g2⟩ := Prod.mk.inj g1
          obtain ⟨h3, g3⟩ := Prod.mk.inj g2
          obtain ⟨h4, g4⟩ := Prod.mk.inj g3
          obtain ⟨h5, g5⟩ := Prod.mk.inj g4
          obtain ⟨h6, g6⟩ := Prod.mk.inj g5
          obtain ⟨h7, g7⟩ := Prod.mk.inj g6
          obtain ⟨h8, g8⟩ := Prod.mk.inj g7
          obtain ⟨h9, g9⟩ := Prod.mk.inj g8
          obtain ⟨h10, g10⟩ := Prod.mk.inj g9
          subst h1
          subst h2
          subst h3
          subst h4
          subst h5
          subst h6
          subst h7
          subst h8
          subst h9
          subst h10
          subst g10
          exact W.iret (v := (3 : Int32)) hx hb hr (fun t ht hW => ⟨⟨(3 : Int32), (on, os), rfl, ⟨rfl, rfl⟩, by rw [ht]; exact hP, va_K.moved hW.alike hK, hD⟩, hS.F ht⟩) hS.2.2 dL_totalOfProduct_28
        · replace h := zif_f h e38
          exact (zno h).elim
  · replace h := zif_t h k08
    replace hP : va_P D vwCl (cW a cJ cI cO R_2 b_3 pr_4 tm_5 cn_6 sm_7 ac_8 re_9 kn_10 ++ ([(o, .inr (8, [.long on, os]))])) H := hP
    replace hD : va_D A (cW a cJ cI cO R_2 b_3 pr_4 tm_5 cn_6 sm_7 ac_8 re_9 kn_10 ++ ([(o, .inr (8, [.long on, os]))])) := hD
    refine va_putN (D := D) (ci := 8) (v := .ref s12) (ty := (.object "java/lang/String")) (C := RX8) (T := TX8) (N := 2) hx hb hts kwX8 tyX8 tyX8_ok nmX8 hown hK hP hD hS 21 rfl rfl 1 (by decide) (va_Nw.use rfl hKk.2.2.1) (fun _ h9 => h9) rfl (by decide +kernel) rfl rfl (Nat.le_of_ble_eq_true rfl) dL_totalOfProduct_11 (fun H locs hP hD hS => ?_)
    replace hP : va_P D vwCl (cW a cJ cI cO R_2 b_3 pr_4 tm_5 cn_6 sm_7 ac_8 re_9 kn_10 ++ ([(o, .inr (8, [.long on, .ref s12]))])) H := hP
    replace hD : va_D A (cW a cJ cI cO R_2 b_3 pr_4 tm_5 cn_6 sm_7 ac_8 re_9 kn_10 ++ ([(o, .inr (8, [.long on, .ref s12]))])) := hD
    refine lv_goto (tgt := 29) hx hb dL_totalOfProduct_14 (by decide) ?_
    refine lv_iconst (v := (0 : Int32)) hx hb dL_totalOfProduct_29 (by decide) ?_
    have g0 := Option.some.inj h
    obtain ⟨h1, g1⟩ := Prod.mk.inj g0
    obtain ⟨h2, g2⟩ := Prod.mk.inj g1
    obtain ⟨h3, g3⟩ := Prod.mk.inj g2
    obtain ⟨h4, g4⟩ := Prod.mk.inj g3
    obtain ⟨h5, g5⟩ := Prod.mk.inj g4
    obtain ⟨h6, g6⟩ := Prod.mk.inj g5
    obtain ⟨h7, g7⟩ := Prod.mk.inj g6
    obtain ⟨h8, g8⟩ := Prod.mk.inj g7
    obtain ⟨h9, g9⟩ := Prod.mk.inj g8
    obtain ⟨h10, g10⟩ := Prod.mk.inj g9
    subst h1
    subst h2
    subst h3
    subst h4
    subst h5
    subst h6
    subst h7
    subst h8
    subst h9
    subst h10
    subst g10
    exact W.iret (v := (0 : Int32)) hx hb hr (fun t ht hW => ⟨⟨(0 : Int32), (on, .ref s12), rfl, ⟨rfl, rfl⟩, by rw [ht]; exact hP, va_K.moved hW.alike hK, hD⟩, hS.F ht⟩) hS.2.2 dL_totalOfProduct_30

noncomputable def p_L_determinant (F : Nat) (R : Nat → Nat → Int64) (b : Bool) (pr : Nat → Int32) (tm : Nat → Int32) (cn : Int32) (sm : Nat → Int32) (ac : Int32) (re : Int32) (kn : Int32) (p1 : Int32) (p2 : Int32) (p3 : Int32) (on : Int64) : Option (Int32 × Int64 × (Nat → Nat → Int64) × Bool × (Nat → Int32) × (Nat → Int32) × Int32 × (Nat → Int32) × Int32 × Int32 × Int32) := (zb10 (p_X7_determinant F R b pr tm cn sm ac re kn p1 p2 p3) (fun cd1 R_2 b_3 pr_4 tm_5 cn_6 sm_7 ac_8 re_9 kn_10 => (if cd1 = 0 then (some ((0 : Int32), on, R_2, b_3, pr_4, tm_5, cn_6, sm_7, ac_8, re_9, kn_10)) else (if cd1 = 1 then (some ((1 : Int32), on, R_2, b_3, pr_4, tm_5, cn_6, sm_7, ac_8, re_9, kn_10)) else (if cd1 = 2 then (some ((2 : Int32), on, R_2, b_3, pr_4, tm_5, cn_6, sm_7, ac_8, re_9, kn_10)) else (if cd1 = 3 then (some ((3 : Int32), on, R_2, b_3, pr_4, tm_5, cn_6, sm_7, ac_8, re_9, kn_10)) else none))))))
theorem hdS_L_determinant : yL_determinant.cls ≠ "java/lang/invoke/MethodHandle" ∧ yL_determinant.cls ≠ "java/lang/invoke/VarHandle" ∧ (parseMethodDescriptor yL_determinant.desc).map (fun d => d.parameters.length) = some 5 := by decide +kernel
set_option maxHeartbeats 4000000 in
set_option maxRecDepth 100000 in
theorem c_L_determinant (l : Launch) (D : va_G) (a : Nat → Nat) (cJ cI cO cB : ClassId) (R : Nat → Nat → Int64) (b : Bool) (pr : Nat → Int32) (tm : Nat → Int32) (cn : Int32) (sm : Nat → Int32) (ac : Int32) (re : Int32) (kn : Int32) (F : Nat) (p1 : Int32) (p2 : Int32) (p3 : Int32) (o : Nat) (on : Int64) (os : Value) (r : Int32) (on' : Int64) (R' : Nat → Nat → Int64) (b' : Bool) (pr' : Nat → Int32) (tm' : Nat → Int32) (cn' : Int32) (sm' : Nat → Int32) (ac' : Int32) (re' : Int32) (kn' : Int32) (hlt : l.stackTraces = false) (h : p_L_determinant F R b pr tm cn sm ac re kn p1 p2 p3 on = some (r, on', R', b', pr', tm', cn', sm', ac', re', kn')) : zMw l yL_determinant wsL_determinant 11 313 28 3198 D (zT cJ cI cO cB) [.ref (a 0), .int p1, .int p2, .int p3, .ref o] (cW a cJ cI cO R b pr tm cn sm ac re kn ++ ([(o, .inr (8, [.long on, os]))])) (fun u => (cW a cJ cI cO R' b' pr' tm' cn' sm' ac' re' kn' ++ ([(o, .inr (8, [.long (u.1), u.2]))]))) r on' := by
  intro sz
  delta zQw
  refine va_MetW (cc := cL_determinant) (maxL := 6) (ret := (some .int)) (by decide) rfl ?_
  intro p e s m args below meth c s₁ B hml hv
  obtain ⟨rfl, ⟨⟨hsz, hP, hK, hD0⟩, hE⟩, hKk⟩ := hv
  have hx := B.exec
  have hb := B.bytes
  have hr := B.returns
  have hts := atoms_spec (ws := wsL_determinant) B.pre
  have hown : s.vm.findClass RL = some m.cls := findClass_of_methodNamed B.named
  have hlocks := B.notSynchronized
  subst hsz
  have hD := hD0.self (sz := s.heap.size)
  generalize hAe : va_A (cW a cJ cI cO R b pr tm cn sm ac re kn ++ ([(o, .inr (8, [.long on, os]))])) s.heap.size = A at hD hE ⊢
  have hA : ∀ q : Nat, s.heap.size ≤ q → A q := fun q h => by rw [← hAe]; exact Or.inr h
  have hS : va_S A s.heap s.heap [] := va_S.rf
  have hl := lv_entry ([.ref (a 0), .int p1, .int p2, .int p3, .ref o]) (n := 6) (Nat.le_of_ble_eq_true rfl)
  rw [lg_entry_eq]
  generalize (lg_sl ([.ref (a 0), .int p1, .int p2, .int p3, .ref o]) ++ List.replicate (6 - (lg_sl ([.ref (a 0), .int p1, .int p2, .int p3, .ref o])).length) Slot.unset).toArray = ls at hl ⊢
  replace hl : lv_has ls 6 [(0, .ref (a 0)), (1, .int p1), (2, .int p2), (3, .int p3), (4, .ref o)] := hl
  have kwX8 : ∀ w ∈ u_ws RX8 TX8 2, w ∈ wsL_determinant := fun w h => List.mem_cons_of_mem _ (List.mem_append_left _ (List.mem_append_right _ h))
  have htab := vx_table (x := yL_determinant) B (hts (.codeWith yL_determinant cL_determinant 6 (some .int) [(0, 12, 15, 19), (0, 12, 19, 21), (0, 12, 23, 71)]) (zmem 0 rfl))
  have kc_19 := hts (.classLink RL 19 (zxn 1)) (zmem 1 rfl)
  have kc_21 := hts (.classLink RL 21 (zxn 2)) (zmem 2 rfl)
  have kc_71 := hts (.classLink RL 71 (zxn 3)) (zmem 3 rfl)
  replace h : (zb10 (p_X7_determinant F R b pr tm cn sm ac re kn p1 p2 p3) (fun cd1 R_2 b_3 pr_4 tm_5 cn_6 sm_7 ac_8 re_9 kn_10 => (if cd1 = 0 then (some ((0 : Int32), on, R_2, b_3, pr_4, tm_5, cn_6, sm_7, ac_8, re_9, kn_10)) else (if cd1 = 1 then (some ((1 : Int32), on, R_2, b_3, pr_4, tm_5, cn_6, sm_7, ac_8, re_9, kn_10)) else (if cd1 = 2 then (some ((2 : Int32), on, R_2, b_3, pr_4, tm_5, cn_6, sm_7, ac_8, re_9, kn_10)) else (if cd1 = 3 then (some ((3 : Int32), on, R_2, b_3, pr_4, tm_5, cn_6, sm_7, ac_8, re_9, kn_10)) else none)))))) = some (r, on', R', b', pr', tm', cn', sm', ac', re', kn') := h
  obtain ⟨H, hHe⟩ : ∃ H, H = s.heap := ⟨_, rfl⟩
  rw [← hHe] at hP
  replace hS : va_S A s.heap H [] := by rw [hHe]; exact hS
  refine zheap hHe ?_
  refine lv_aload hx hb dL_determinant_0 (lv_at hl 4 rfl) ?_
  refine lv_aload_n hx hb dL_determinant_2 rfl (lv_at hl 0 rfl) ?_
  refine lv_iload_n hx hb dL_determinant_3 rfl (lv_at hl 1 rfl) ?_
  refine lv_iload_n hx hb dL_determinant_4 rfl (lv_at hl 2 rfl) ?_
  refine lv_iload_n hx hb dL_determinant_5 rfl (lv_at hl 3 rfl) ?_
  obtain ⟨cd1, R_2, b_3, pr_4, tm_5, cn_6, sm_7, ac_8, re_9, kn_10, e11, h⟩ := zb10_some h
  have hPc := zsub (wn := (cW a cJ cI cO R b pr tm cn sm ac re kn)) hP [0, 1, 2, 3, 4, 5, 6, 7, 8, 9, 10, 11, 12, 13, 14, 15, 16, 17, 18, 19, 20] rfl
  have hDc := hD.sub (ws' := (cW a cJ cI cO R b pr tm cn sm ac re kn)) [0, 1, 2, 3, 4, 5, 6, 7, 8, 9, 10, 11, 12, 13, 14, 15, 16, 17, 18, 19, 20] (by decide) rfl
  refine zxgos (vx_runV (As := [.int p1, .int p2, .int p3]) (rest := [.ref o]) ⟨hx, hb, hml, hown, hts⟩ (c_X7_determinant l D a cJ cI cO cB R b pr tm cn sm ac re kn F p1 p2 p3 cd1 R_2 b_3 pr_4 tm_5 cn_6 sm_7 ac_8 re_9 kn_10 hlt e11 H.size) (cwV 3 hts gL_determinant_X7_determinant rfl rfl rfl hdV_X7_determinant ⟨Nat.le_of_ble_eq_true rfl, Nat.le_of_ble_eq_true rfl⟩) (zxnpreV hKk.1 hE hS (va_free hD hS hA [0, 1, 2, 3, 4, 5, 6, 7, 8, 9, 10, 11, 12, 13, 14, 15, 16, 17, 18, 19, 20] rfl) (q0 := 0) (ci := 7) (T := TX7) (N := 9) hK hPc hDc rfl rfl [.int p1, .int p2, .int p3]) rfl rfl hl.1 rfl (lv_room (Nat.le_of_ble_eq_true rfl)) dL_determinant_6 ⟨Nat.le_of_ble_eq_true rfl, Nat.le_of_ble_eq_true rfl⟩) (va_free hD hS hA [0, 1, 2, 3, 4, 5, 6, 7, 8, 9, 10, 11, 12, 13, 14, 15, 16, 17, 18, 19, 20] rfl) (zjs (wn := (cW a cJ cI cO R_2 b_3 pr_4 tm_5 cn_6 sm_7 ac_8 re_9 kn_10 ++ ([(o, .inr (8, [.long on, os]))]))) [1, 2, 3, 4, 5, 6, 7, 8, 9, 10, 11, 12, 13, 14, 15, 16, 17, 18, 19, 20, 21, 0] (zjF (wr := ([(o, .inr (8, [.long on, os]))] : va_W)) hP hD hS hA [0, 1, 2, 3, 4, 5, 6, 7, 8, 9, 10, 11, 12, 13, 14, 15, 16, 17, 18, 19, 20] [21] rfl rfl (by decide) (by decide)) rfl (by decide)) hS (fun k06 => ?_) (fun k06 s12 H locs hP hD hS => ?_)
  · intro ce q9 H locs hP hD hS h7 h8 h9
    replace hP : va_P D vwCl (cW a cJ cI cO R_2 b_3 pr_4 tm_5 cn_6 sm_7 ac_8 re_9 kn_10 ++ ([(o, .inr (8, [.long on, os]))])) H := hP
    replace hD : va_D A (cW a cJ cI cO R_2 b_3 pr_4 tm_5 cn_6 sm_7 ac_8 re_9 kn_10 ++ ([(o, .inr (8, [.long on, os]))])) := hD
    replace h := zif_f h k06
    by_cases e16 : cd1 = 1
    · replace h := zif_t h e16
      subst e16
      refine vx_catch hown [] ⟨0, 12, 15, 19⟩ [⟨0, 12, 19, 21⟩, ⟨0, 12, 23, 71⟩] (htab.trans rfl) (fun z hz => nomatch hz) rfl (by decide) kc_19 (va_Nw.use rfl hE.2.2.1.2.2.2.2.2.1) h7 h8 h9 ?_
      refine lv_astore (lv' := [(5, .ref q9), (0, .ref (a 0)), (1, .int p1), (2, .int p2), (3, .int p3), (4, .ref o)]) hx hb dL_determinant_15 hl (by decide) rfl (fun ls hl => ?_)
      refine lv_iconst (v := (1 : Int32)) hx hb dL_determinant_17 (by decide) ?_
      have g0 := Option.some.inj h
      obtain ⟨h1, g1⟩ := Prod.mk.inj g0
      obtain ⟨h2, g2⟩ := Prod.mk.inj g1
      obtain ⟨h3, g3⟩ := Prod.mk.inj g2
      obtain ⟨h4, g4⟩ := Prod.mk.inj g3
      obtain ⟨h5, g5⟩ := Prod.mk.inj g4
      obtain ⟨h6, g6⟩ := Prod.mk.inj g5
      obtain ⟨h7, g7⟩ := Prod.mk.inj g6
      obtain ⟨h8, g8⟩ := Prod.mk.inj g7
      obtain ⟨h9, g9⟩ := Prod.mk.inj g8
      obtain ⟨h10, g10⟩ := Prod.mk.inj g9
      subst h1
      subst h2
      subst h3
      subst h4
      subst h5
      subst h6
      subst h7
      subst h8
      subst h9
      subst h10
      subst g10
      exact W.iret (v := (1 : Int32)) hx hb hr (fun t ht hW => ⟨⟨(1 : Int32), (on, os), rfl, ⟨rfl, rfl⟩, by rw [ht]; exact hP, va_K.moved hW.alike hK, hD⟩, hS.F ht⟩) hS.2.2 dL_determinant_18
    · replace h := zif_f h e16
      by_cases e26 : cd1 = 2
      · replace h := zif_t h e26
        subst e26
        refine vx_catch hown [⟨0, 12, 15, 19⟩] ⟨0, 12, 19, 21⟩ [⟨0, 12, 23, 71⟩] (htab.trans rfl) (zpass1 (Or.inr ⟨by decide, _, kc_19, hKk.2.2.2.1⟩)) rfl (by decide) kc_21 (va_Nw.use rfl hE.2.2.1.2.2.2.2.2.2.1) h7 h8 h9 ?_
        refine lv_astore (lv' := [(5, .ref q9), (0, .ref (a 0)), (1, .int p1), (2, .int p2), (3, .int p3), (4, .ref o)]) hx hb dL_determinant_19 hl (by decide) rfl (fun ls hl => ?_)
        refine lv_iconst (v := (2 : Int32)) hx hb dL_determinant_21 (by decide) ?_
        have g0 := Option.some.inj h
        obtain ⟨h1, g1⟩ := Prod.mk.inj g0
        obtain ⟨h2, g2⟩ := Prod.mk.inj g1
        obtain ⟨h3, g3⟩ := Prod.mk.inj g2
        obtain ⟨h4, g4⟩ := Prod.mk.inj g3
        obtain ⟨h5, g5⟩ := Prod.mk.inj g4
        obtain ⟨h6, g6⟩ := Prod.mk.inj g5
        obtain ⟨h7, g7⟩ := Prod.mk.inj g6
        obtain ⟨h8, g8⟩ := Prod.mk.inj g7
        obtain ⟨h9, g9⟩ := Prod.mk.inj g8
        obtain ⟨h10, g10⟩ := Prod.mk.inj g9
        subst h1
        subst h2
        subst h3
        subst h4
        subst h5
        subst h6
        subst h7
        subst h8
        subst h9
        subst h10
        subst g10
        exact W.iret (v := (2 : Int32)) hx hb hr (fun t ht hW => ⟨⟨(2 : Int32), (on, os), rfl, ⟨rfl, rfl⟩, by rw [ht]; exact hP, va_K.moved hW.alike hK, hD⟩, hS.F ht⟩) hS.2.2 dL_determinant_22
      · replace h := zif_f h e26
        by_cases e36 : cd1 = 3
        · replace h := zif_t h e36
          subst e36
          refine vx_catch hown [⟨0, 12, 15, 19⟩, ⟨0, 12, 19, 21⟩] ⟨0, 12, 23, 71⟩ [] (htab.trans rfl) (zpass2 (Or.inr ⟨by decide, _, kc_19, hKk.2.2.2.2.1⟩) (Or.inr ⟨by decide, _, kc_21, hKk.2.2.2.2.2⟩)) rfl (by decide) kc_71 (va_Nw.use rfl hE.2.2.1.2.2.2.2.2.2.2.1) h7 h8 h9 ?_
          refine lv_astore (lv' := [(5, .ref q9), (0, .ref (a 0)), (1, .int p1), (2, .int p2), (3, .int p3), (4, .ref o)]) hx hb dL_determinant_23 hl (by decide) rfl (fun ls hl => ?_)
          refine lv_iconst (v := (3 : Int32)) hx hb dL_determinant_25 (by decide) ?_
          have g0 := Option.some.inj h
          obtain ⟨h1, g1⟩ := Prod.mk.inj g0
          obtain ⟨h2, g2⟩ := Prod.mk.inj g1
          obtain ⟨h3, g3⟩ := Prod.mk.inj g2
          obtain ⟨h4, g4⟩ := Prod.mk.inj g3
          obtain ⟨h5, g5⟩ := Prod.mk.inj g4
          obtain ⟨h6, g6⟩ := Prod.mk.inj g5
          obtain ⟨h7, g7⟩ := Prod.mk.inj g6
          obtain ⟨h8, g8⟩ := Prod.mk.inj g7
          obtain ⟨h9, g9⟩ := Prod.mk.inj g8
          obtain ⟨h10, g10⟩ := Prod.mk.inj g9
          subst h1
          subst h2
          subst h3
          subst h4
          subst h5
          subst h6
          subst h7
          subst h8
          subst h9
          subst h10
          subst g10
          exact W.iret (v := (3 : Int32)) hx hb hr (fun t ht hW => ⟨⟨(3 : Int32), (on, os), rfl, ⟨rfl, rfl⟩, by rw [ht]; exact hP, va_K.moved hW.alike hK, hD⟩, hS.F ht⟩) hS.2.2 dL_determinant_26
        · replace h := zif_f h e36
          exact (zno h).elim
  · replace h := zif_t h k06
    replace hP : va_P D vwCl (cW a cJ cI cO R_2 b_3 pr_4 tm_5 cn_6 sm_7 ac_8 re_9 kn_10 ++ ([(o, .inr (8, [.long on, os]))])) H := hP
    replace hD : va_D A (cW a cJ cI cO R_2 b_3 pr_4 tm_5 cn_6 sm_7 ac_8 re_9 kn_10 ++ ([(o, .inr (8, [.long on, os]))])) := hD
    refine va_putN (D := D) (ci := 8) (v := .ref s12) (ty := (.object "java/lang/String")) (C := RX8) (T := TX8) (N := 2) hx hb hts kwX8 tyX8 tyX8_ok nmX8 hown hK hP hD hS 21 rfl rfl 1 (by decide) (va_Nw.use rfl hKk.2.2.1) (fun _ h9 => h9) rfl (by decide +kernel) rfl rfl (Nat.le_of_ble_eq_true rfl) dL_determinant_9 (fun H locs hP hD hS => ?_)
    replace hP : va_P D vwCl (cW a cJ cI cO R_2 b_3 pr_4 tm_5 cn_6 sm_7 ac_8 re_9 kn_10 ++ ([(o, .inr (8, [.long on, .ref s12]))])) H := hP
    replace hD : va_D A (cW a cJ cI cO R_2 b_3 pr_4 tm_5 cn_6 sm_7 ac_8 re_9 kn_10 ++ ([(o, .inr (8, [.long on, .ref s12]))])) := hD
    refine lv_goto (tgt := 27) hx hb dL_determinant_12 (by decide) ?_
    refine lv_iconst (v := (0 : Int32)) hx hb dL_determinant_27 (by decide) ?_
    have g0 := Option.some.inj h
    obtain ⟨h1, g1⟩ := Prod.mk.inj g0
    obtain ⟨h2, g2⟩ := Prod.mk.inj g1
    obtain ⟨h3, g3⟩ := Prod.mk.inj g2
    obtain ⟨h4, g4⟩ := Prod.mk.inj g3
    obtain ⟨h5, g5⟩ := Prod.mk.inj g4
    obtain ⟨h6, g6⟩ := Prod.mk.inj g5
    obtain ⟨h7, g7⟩ := Prod.mk.inj g6
    obtain ⟨h8, g8⟩ := Prod.mk.inj g7
    obtain ⟨h9, g9⟩ := Prod.mk.inj g8
    obtain ⟨h10, g10⟩ := Prod.mk.inj g9
    subst h1
    subst h2
    subst h3
    subst h4
    subst h5
    subst h6
    subst h7
    subst h8
    subst h9
    subst h10
    subst g10
    exact W.iret (v := (0 : Int32)) hx hb hr (fun t ht hW => ⟨⟨(0 : Int32), (on, .ref s12), rfl, ⟨rfl, rfl⟩, by rw [ht]; exact hP, va_K.moved hW.alike hK, hD⟩, hS.F ht⟩) hS.2.2 dL_determinant_28

noncomputable def p_L_tau (F : Nat) (pr : Nat → Int32) (tm : Nat → Int32) (cn : Int32) (p1 : Int32) (p2 : Int32) (on : Int64) : Option (Int32 × Int64 × (Nat → Int32) × (Nat → Int32) × Int32) := (zb5 (p_X7_tau F pr tm cn p1 p2) (fun cd1 r2 pr_3 tm_4 cn_5 => (if cd1 = 0 then (some ((0 : Int32), (r2.toInt64), pr_3, tm_4, cn_5)) else (if cd1 = 2 then (some ((1 : Int32), on, pr_3, tm_4, cn_5)) else none))))
theorem hdS_L_tau : yL_tau.cls ≠ "java/lang/invoke/MethodHandle" ∧ yL_tau.cls ≠ "java/lang/invoke/VarHandle" ∧ (parseMethodDescriptor yL_tau.desc).map (fun d => d.parameters.length) = some 4 := by decide +kernel
set_option maxHeartbeats 4000000 in
set_option maxRecDepth 100000 in
theorem c_L_tau (l : Launch) (D : va_G) (a : Nat → Nat) (cJ cI cO cB : ClassId) (R : Nat → Nat → Int64) (b : Bool) (pr : Nat → Int32) (tm : Nat → Int32) (cn : Int32) (sm : Nat → Int32) (ac : Int32) (re : Int32) (kn : Int32) (F : Nat) (p1 : Int32) (p2 : Int32) (o : Nat) (on : Int64) (os : Value) (r : Int32) (on' : Int64) (pr' : Nat → Int32) (tm' : Nat → Int32) (cn' : Int32) (hlt : l.stackTraces = false) (h : p_L_tau F pr tm cn p1 p2 on = some (r, on', pr', tm', cn')) : zMw l yL_tau wsL_tau 8 134 2 12 D (zT cJ cI cO cB) [.ref (a 0), .int p1, .int p2, .ref o] (cW a cJ cI cO R b pr tm cn sm ac re kn ++ ([(o, .inr (8, [.long on, os]))])) (fun u => (cW a cJ cI cO R b pr' tm' cn' sm ac re kn ++ ([(o, .inr (8, [.long (u.1), u.2]))]))) r on' := by
  intro sz
  delta zQw
  refine va_MetW (cc := cL_tau) (maxL := 5) (ret := (some .int)) (by decide) rfl ?_
  intro p e s m args below meth c s₁ B hml hv
  obtain ⟨rfl, ⟨⟨hsz, hP, hK, hD0⟩, hE⟩, hKk⟩ := hv
  have hx := B.exec
  have hb := B.bytes
  have hr := B.returns
  have hts := atoms_spec (ws := wsL_tau) B.pre
  have hown : s.vm.findClass RL = some m.cls := findClass_of_methodNamed B.named
  have hlocks := B.notSynchronized
  subst hsz
  have hD := hD0.self (sz := s.heap.size)
  generalize hAe : va_A (cW a cJ cI cO R b pr tm cn sm ac re kn ++ ([(o, .inr (8, [.long on, os]))])) s.heap.size = A at hD hE ⊢
  have hA : ∀ q : Nat, s.heap.size ≤ q → A q := fun q h => by rw [← hAe]; exact Or.inr h
  have hS : va_S A s.heap s.heap [] := va_S.rf
  have hl := lv_entry ([.ref (a 0), .int p1, .int p2, .ref o]) (n := 5) (Nat.le_of_ble_eq_true rfl)
  rw [lg_entry_eq]
  generalize (lg_sl ([.ref (a 0), .int p1, .int p2, .ref o]) ++ List.replicate (5 - (lg_sl ([.ref (a 0), .int p1, .int p2, .ref o])).length) Slot.unset).toArray = ls at hl ⊢
  replace hl : lv_has ls 5 [(0, .ref (a 0)), (1, .int p1), (2, .int p2), (3, .ref o)] := hl
  have kwX8 : ∀ w ∈ u_ws RX8 TX8 2, w ∈ wsL_tau := fun w h => List.mem_cons_of_mem _ (List.mem_append_left _ (List.mem_append_right _ h))
  have htab := vx_table (x := yL_tau) B (hts (.codeWith yL_tau cL_tau 5 (some .int) [(0, 11, 14, 21)]) (zmem 0 rfl))
  have kc_21 := hts (.classLink RL 21 (zxn 2)) (zmem 1 rfl)
  replace h : (zb5 (p_X7_tau F pr tm cn p1 p2) (fun cd1 r2 pr_3 tm_4 cn_5 => (if cd1 = 0 then (some ((0 : Int32), (r2.toInt64), pr_3, tm_4, cn_5)) else (if cd1 = 2 then (some ((1 : Int32), on, pr_3, tm_4, cn_5)) else none)))) = some (r, on', pr', tm', cn') := h
  obtain ⟨H, hHe⟩ : ∃ H, H = s.heap := ⟨_, rfl⟩
  rw [← hHe] at hP
  replace hS : va_S A s.heap H [] := by rw [hHe]; exact hS
  refine zheap hHe ?_
  refine lv_aload_n hx hb dL_tau_0 rfl (lv_at hl 3 rfl) ?_
  refine lv_aload_n hx hb dL_tau_1 rfl (lv_at hl 0 rfl) ?_
  refine lv_iload_n hx hb dL_tau_2 rfl (lv_at hl 1 rfl) ?_
  refine lv_iload_n hx hb dL_tau_3 rfl (lv_at hl 2 rfl) ?_
  obtain ⟨cd1, r2, pr_3, tm_4, cn_5, e6, h⟩ := zb5_some h
  have hPc := zsub (wn := (cW a cJ cI cO R b pr tm cn sm ac re kn)) hP [0, 1, 2, 3, 4, 5, 6, 7, 8, 9, 10, 11, 12, 13, 14, 15, 16, 17, 18, 19, 20] rfl
  have hDc := hD.sub (ws' := (cW a cJ cI cO R b pr tm cn sm ac re kn)) [0, 1, 2, 3, 4, 5, 6, 7, 8, 9, 10, 11, 12, 13, 14, 15, 16, 17, 18, 19, 20] (by decide) rfl
  refine zxgoi (vx_runV (As := [.int p1, .int p2]) (rest := [.ref o]) ⟨hx, hb, hml, hown, hts⟩ (c_X7_tau l D a cJ cI cO cB R b pr tm cn sm ac re kn F p1 p2 cd1 r2 pr_3 tm_4 cn_5 hlt e6 H.size) (cwV 2 hts gL_tau_X7_tau rfl rfl rfl hdV_X7_tau ⟨Nat.le_of_ble_eq_true rfl, Nat.le_of_ble_eq_true rfl⟩) (zxpreV hE hS (va_free hD hS hA [0, 1, 2, 3, 4, 5, 6, 7, 8, 9, 10, 11, 12, 13, 14, 15, 16, 17, 18, 19, 20] rfl) (q0 := 0) (ci := 7) (T := TX7) (N := 9) hK hPc hDc rfl rfl [.int p1, .int p2]) rfl rfl hl.1 rfl (lv_room (Nat.le_of_ble_eq_true rfl)) dL_tau_4 ⟨Nat.le_of_ble_eq_true rfl, Nat.le_of_ble_eq_true rfl⟩) (va_free hD hS hA [0, 1, 2, 3, 4, 5, 6, 7, 8, 9, 10, 11, 12, 13, 14, 15, 16, 17, 18, 19, 20] rfl) (zjs (wn := (cW a cJ cI cO R b pr_3 tm_4 cn_5 sm ac re kn ++ ([(o, .inr (8, [.long on, os]))]))) [1, 2, 3, 4, 5, 6, 7, 8, 9, 10, 11, 12, 13, 14, 15, 16, 17, 18, 19, 20, 21, 0] (zjF (wr := ([(o, .inr (8, [.long on, os]))] : va_W)) hP hD hS hA [0, 1, 2, 3, 4, 5, 6, 7, 8, 9, 10, 11, 12, 13, 14, 15, 16, 17, 18, 19, 20] [21] rfl rfl (by decide) (by decide)) rfl (by decide)) hS (fun k04 => ?_) (fun k04 H locs hP hD hS => ?_)
  · intro ce q9 H locs hP hD hS h7 h8 h9
    replace hP : va_P D vwCl (cW a cJ cI cO R b pr_3 tm_4 cn_5 sm ac re kn ++ ([(o, .inr (8, [.long on, os]))])) H := hP
    replace hD : va_D A (cW a cJ cI cO R b pr_3 tm_4 cn_5 sm ac re kn ++ ([(o, .inr (8, [.long on, os]))])) := hD
    replace h := zif_f h k04
    by_cases e24 : cd1 = 2
    · replace h := zif_t h e24
      subst e24
      refine vx_catch hown [] ⟨0, 11, 14, 21⟩ [] (htab.trans rfl) (fun z hz => nomatch hz) rfl (by decide) kc_21 (va_Nw.use rfl hE.2.2.1.2.2.2.2.2.2.1) h7 h8 h9 ?_
      refine lv_astore (lv' := [(4, .ref q9), (0, .ref (a 0)), (1, .int p1), (2, .int p2), (3, .ref o)]) hx hb dL_tau_14 hl (by decide) rfl (fun ls hl => ?_)
      refine lv_iconst (v := (1 : Int32)) hx hb dL_tau_16 (by decide) ?_
      have g0 := Option.some.inj h
      obtain ⟨h1, g1⟩ := Prod.mk.inj g0
      obtain ⟨h2, g2⟩ := Prod.mk.inj g1
      obtain ⟨h3, g3⟩ := Prod.mk.inj g2
      obtain ⟨h4, g4⟩ := Prod.mk.inj g3
      subst h1
      subst h2
      subst h3
      subst h4
      subst g4
      exact W.iret (v := (1 : Int32)) hx hb hr (fun t ht hW => ⟨⟨(1 : Int32), (on, os), rfl, ⟨rfl, rfl⟩, by rw [ht]; exact hP, va_K.moved hW.alike hK, hD⟩, hS.F ht⟩) hS.2.2 dL_tau_17
    · replace h := zif_f h e24
      exact (zno h).elim
  · replace h := zif_t h k04
    replace hP : va_P D vwCl (cW a cJ cI cO R b pr_3 tm_4 cn_5 sm ac re kn ++ ([(o, .inr (8, [.long on, os]))])) H := hP
    replace hD : va_D A (cW a cJ cI cO R b pr_3 tm_4 cn_5 sm ac re kn ++ ([(o, .inr (8, [.long on, os]))])) := hD
    refine lv_i2l (v := r2.toInt64) hx hb dL_tau_7 rfl ?_
    refine va_putN (D := D) (ci := 8) (v := .long (r2.toInt64)) (ty := .long) (C := RX8) (T := TX8) (N := 2) hx hb hts kwX8 tyX8 tyX8_ok nmX8 hown hK hP hD hS 21 rfl rfl 0 (by decide) (va_Nw.use rfl hKk.2.1) (fun _ h9 => h9) rfl (by decide +kernel) rfl rfl (Nat.le_of_ble_eq_true rfl) dL_tau_8 (fun H locs hP hD hS => ?_)
    replace hP : va_P D vwCl (cW a cJ cI cO R b pr_3 tm_4 cn_5 sm ac re kn ++ ([(o, .inr (8, [.long (r2.toInt64), os]))])) H := hP
    replace hD : va_D A (cW a cJ cI cO R b pr_3 tm_4 cn_5 sm ac re kn ++ ([(o, .inr (8, [.long (r2.toInt64), os]))])) := hD
    refine lv_goto (tgt := 18) hx hb dL_tau_11 (by decide) ?_
    refine lv_iconst (v := (0 : Int32)) hx hb dL_tau_18 (by decide) ?_
    have g0 := Option.some.inj h
    obtain ⟨h1, g1⟩ := Prod.mk.inj g0
    obtain ⟨h2, g2⟩ := Prod.mk.inj g1
    obtain ⟨h3, g3⟩ := Prod.mk.inj g2
    obtain ⟨h4, g4⟩ := Prod.mk.inj g3
    subst h1
    subst h2
    subst h3
    subst h4
    subst g4
    exact W.iret (v := (0 : Int32)) hx hb hr (fun t ht hW => ⟨⟨(0 : Int32), ((r2.toInt64), os), rfl, ⟨rfl, rfl⟩, by rw [ht]; exact hP, va_K.moved hW.alike hK, hD⟩, hS.F ht⟩) hS.2.2 dL_tau_19

noncomputable def p_L_sigma (F : Nat) (pr : Nat → Int32) (tm : Nat → Int32) (cn : Int32) (p1 : Int32) (p2 : Int32) (on : Int64) : Option (Int32 × Int64 × (Nat → Int32) × (Nat → Int32) × Int32) := (zb5 (p_X7_sigma F pr tm cn p1 p2) (fun cd1 r2 pr_3 tm_4 cn_5 => (if cd1 = 0 then (some ((0 : Int32), (r2.toInt64), pr_3, tm_4, cn_5)) else (if cd1 = 2 then (some ((1 : Int32), on, pr_3, tm_4, cn_5)) else none))))
theorem hdS_L_sigma : yL_sigma.cls ≠ "java/lang/invoke/MethodHandle" ∧ yL_sigma.cls ≠ "java/lang/invoke/VarHandle" ∧ (parseMethodDescriptor yL_sigma.desc).map (fun d => d.parameters.length) = some 4 := by decide +kernel
set_option maxHeartbeats 4000000 in
set_option maxRecDepth 100000 in
theorem c_L_sigma (l : Launch) (D : va_G) (a : Nat → Nat) (cJ cI cO cB : ClassId) (R : Nat → Nat → Int64) (b : Bool) (pr : Nat → Int32) (tm : Nat → Int32) (cn : Int32) (sm : Nat → Int32) (ac : Int32) (re : Int32) (kn : Int32) (F : Nat) (p1 : Int32) (p2 : Int32) (o : Nat) (on : Int64) (os : Value) (r : Int32) (on' : Int64) (pr' : Nat → Int32) (tm' : Nat → Int32) (cn' : Int32) (hlt : l.stackTraces = false) (h : p_L_sigma F pr tm cn p1 p2 on = some (r, on', pr', tm', cn')) : zMw l yL_sigma wsL_sigma 8 134 2 12 D (zT cJ cI cO cB) [.ref (a 0), .int p1, .int p2, .ref o] (cW a cJ cI cO R b pr tm cn sm ac re kn ++ ([(o, .inr (8, [.long on, os]))])) (fun u => (cW a cJ cI cO R b pr' tm' cn' sm ac re kn ++ ([(o, .inr (8, [.long (u.1), u.2]))]))) r on' := by
  intro sz
  delta zQw
  refine va_MetW (cc := cL_sigma) (maxL := 5) (ret := (some .int)) (by decide) rfl ?_
  intro p e s m args below meth c s₁ B hml hv
  obtain ⟨rfl, ⟨⟨hsz, hP, hK, hD0⟩, hE⟩, hKk⟩ := hv
  have hx := B.exec
  have hb := B.bytes
  have hr := B.returns
  have hts := atoms_spec (ws := wsL_sigma) B.pre
  have hown : s.vm.findClass RL = some m.cls := findClass_of_methodNamed B.named
  have hlocks := B.notSynchronized
  subst hsz
  have hD := hD0.self (sz := s.heap.size)
  generalize hAe : va_A (cW a cJ cI cO R b pr tm cn sm ac re kn ++ ([(o, .inr (8, [.long on, os]))])) s.heap.size = A at hD hE ⊢
  have hA : ∀ q : Nat, s.heap.size ≤ q → A q := fun q h => by rw [← hAe]; exact Or.inr h
  have hS : va_S A s.heap s.heap [] := va_S.rf
  have hl := lv_entry ([.ref (a 0), .int p1, .int p2, .ref o]) (n := 5) (Nat.le_of_ble_eq_true rfl)
  rw [lg_entry_eq]
  generalize (lg_sl ([.ref (a 0), .int p1, .int p2, .ref o]) ++ List.replicate (5 - (lg_sl ([.ref (a 0), .int p1, .int p2, .ref o])).length) Slot.unset).toArray = ls at hl ⊢
  replace hl : lv_has ls 5 [(0, .ref (a 0)), (1, .int p1), (2, .int p2), (3, .ref o)] := hl
  have kwX8 : ∀ w ∈ u_ws RX8 TX8 2, w ∈ wsL_sigma := fun w h => List.mem_cons_of_mem _ (List.mem_append_left _ (List.mem_append_right _ h))
  have htab := vx_table (x := yL_sigma) B (hts (.codeWith yL_sigma cL_sigma 5 (some .int) [(0, 11, 14, 21)]) (zmem 0 rfl))
  have kc_21 := hts (.classLink RL 21 (zxn 2)) (zmem 1 rfl)
  replace h : (zb5 (p_X7_sigma F pr tm cn p1 p2) (fun cd1 r2 pr_3 tm_4 cn_5 => (if cd1 = 0 then (some ((0 : Int32), (r2.toInt64), pr_3, tm_4, cn_5)) else (if cd1 = 2 then (some ((1 : Int32), on, pr_3, tm_4, cn_5)) else none)))) = some (r, on', pr', tm', cn') := h
  obtain ⟨H, hHe⟩ : ∃ H, H = s.heap := ⟨_, rfl⟩
  rw [← hHe] at hP
  replace hS : va_S A s.heap H [] := by rw [hHe]; exact hS
  refine zheap hHe ?_
  refine lv_aload_n hx hb dL_sigma_0 rfl (lv_at hl 3 rfl) ?_
  refine lv_aload_n hx hb dL_sigma_1 rfl (lv_at hl 0 rfl) ?_
  refine lv_iload_n hx hb dL_sigma_2 rfl (lv_at hl 1 rfl) ?_
  refine lv_iload_n hx hb dL_sigma_3 rfl (lv_at hl 2 rfl) ?_
  obtain ⟨cd1, r2, pr_3, tm_4, cn_5, e6, h⟩ := zb5_some h
  have hPc := zsub (wn := (cW a cJ cI cO R b pr tm cn sm ac re kn)) hP [0, 1, 2, 3, 4, 5, 6, 7, 8, 9, 10, 11, 12, 13, 14, 15, 16, 17, 18, 19, 20] rfl
  have hDc := hD.sub (ws' := (cW a cJ cI cO R b pr tm cn sm ac re kn)) [0, 1, 2, 3, 4, 5, 6, 7, 8, 9, 10, 11, 12, 13, 14, 15, 16, 17, 18, 19, 20] (by decide) rfl
  refine zxgoi (vx_runV (As := [.int p1, .int p2]) (rest := [.ref o]) ⟨hx, hb, hml, hown, hts⟩ (c_X7_sigma l D a cJ cI cO cB R b pr tm cn sm ac re kn F p1 p2 cd1 r2 pr_3 tm_4 cn_5 hlt e6 H.size) (cwV 2 hts gL_sigma_X7_sigma rfl rfl rfl hdV_X7_sigma ⟨Nat.le_of_ble_eq_true rfl, Nat.le_of_ble_eq_true rfl⟩) (zxpreV hE hS (va_free hD hS hA [0, 1, 2, 3, 4, 5, 6, 7, 8, 9, 10, 11, 12, 13, 14, 15, 16, 17, 18, 19, 20] rfl) (q0 := 0) (ci := 7) (T := TX7) (N := 9) hK hPc hDc rfl rfl [.int p1, .int p2]) rfl rfl hl.1 rfl (lv_room (Nat.le_of_ble_eq_true rfl)) dL_sigma_4 ⟨Nat.le_of_ble_eq_true rfl, Nat.le_of_ble_eq_true rfl⟩) (va_free hD hS hA [0, 1, 2, 3, 4, 5, 6, 7, 8, 9, 10, 11, 12, 13, 14, 15, 16, 17, 18, 19, 20] rfl) (zjs (wn := (cW a cJ cI cO R b pr_3 tm_4 cn_5 sm ac re kn ++ ([(o, .inr (8, [.long on, os]))]))) [1, 2, 3, 4, 5, 6, 7, 8, 9, 10, 11, 12, 13, 14, 15, 16, 17, 18, 19, 20, 21, 0] (zjF (wr := ([(o, .inr (8, [.long on, os]))] : va_W)) hP hD hS hA [0, 1, 2, 3, 4, 5, 6, 7, 8, 9, 10, 11, 12, 13, 14, 15, 16, 17, 18, 19, 20] [21] rfl rfl (by decide) (by decide)) rfl (by decide)) hS (fun k04 => ?_) (fun k04 H locs hP hD hS => ?_)
  · intro ce q9 H locs hP hD hS h7 h8 h9
    replace hP : va_P D vwCl (cW a cJ cI cO R b pr_3 tm_4 cn_5 sm ac re kn ++ ([(o, .inr (8, [.long on, os]))])) H := hP
    replace hD : va_D A (cW a cJ cI cO R b pr_3 tm_4 cn_5 sm ac re kn ++ ([(o, .inr (8, [.long on, os]))])) := hD
    replace h := zif_f h k04
    by_cases e24 : cd1 = 2
    · replace h := zif_t h e24
      subst e24
      refine vx_catch hown [] ⟨0, 11, 14, 21⟩ [] (htab.trans rfl) (fun z hz => nomatch hz) rfl (by decide) kc_21 (va_Nw.use rfl hE.2.2.1.2.2.2.2.2.2.1) h7 h8 h9 ?_
      refine lv_astore (lv' := [(4, .ref q9), (0, .ref (a 0)), (1, .int p1), (2, .int p2), (3, .ref o)]) hx hb dL_sigma_14 hl (by decide) rfl (fun ls hl => ?_)
      refine lv_iconst (v := (1 : Int32)) hx hb dL_sigma_16 (by decide) ?_
      have g0 := Option.some.inj h
      obtain ⟨h1, g1⟩ := Prod.mk.inj g0
      obtain ⟨h2, g2⟩ := Prod.mk.inj g1
      obtain ⟨h3, g3⟩ := Prod.mk.inj g2
      obtain ⟨h4, g4⟩ := Prod.mk.inj g3
      subst h1
      subst h2
      subst h3
      subst h4
      subst g4
      exact W.iret (v := (1 : Int32)) hx hb hr (fun t ht hW => ⟨⟨(1 : Int32), (on, os), rfl, ⟨rfl, rfl⟩, by rw [ht]; exact hP, va_K.moved hW.alike hK, hD⟩, hS.F ht⟩) hS.2.2 dL_sigma_17
    · replace h := zif_f h e24
      exact (zno h).elim
  · replace h := zif_t h k04
    replace hP : va_P D vwCl (cW a cJ cI cO R b pr_3 tm_4 cn_5 sm ac re kn ++ ([(o, .inr (8, [.long on, os]))])) H := hP
    replace hD : va_D A (cW a cJ cI cO R b pr_3 tm_4 cn_5 sm ac re kn ++ ([(o, .inr (8, [.long on, os]))])) := hD
    refine lv_i2l (v := r2.toInt64) hx hb dL_sigma_7 rfl ?_
    refine va_putN (D := D) (ci := 8) (v := .long (r2.toInt64)) (ty := .long) (C := RX8) (T := TX8) (N := 2) hx hb hts kwX8 tyX8 tyX8_ok nmX8 hown hK hP hD hS 21 rfl rfl 0 (by decide) (va_Nw.use rfl hKk.2.1) (fun _ h9 => h9) rfl (by decide +kernel) rfl rfl (Nat.le_of_ble_eq_true rfl) dL_sigma_8 (fun H locs hP hD hS => ?_)
    replace hP : va_P D vwCl (cW a cJ cI cO R b pr_3 tm_4 cn_5 sm ac re kn ++ ([(o, .inr (8, [.long (r2.toInt64), os]))])) H := hP
    replace hD : va_D A (cW a cJ cI cO R b pr_3 tm_4 cn_5 sm ac re kn ++ ([(o, .inr (8, [.long (r2.toInt64), os]))])) := hD
    refine lv_goto (tgt := 18) hx hb dL_sigma_11 (by decide) ?_
    refine lv_iconst (v := (0 : Int32)) hx hb dL_sigma_18 (by decide) ?_
    have g0 := Option.some.inj h
    obtain ⟨h1, g1⟩ := Prod.mk.inj g0
    obtain ⟨h2, g2⟩ := Prod.mk.inj g1
    obtain ⟨h3, g3⟩ := Prod.mk.inj g2
    obtain ⟨h4, g4⟩ := Prod.mk.inj g3
    subst h1
    subst h2
    subst h3
    subst h4
    subst g4
    exact W.iret (v := (0 : Int32)) hx hb hr (fun t ht hW => ⟨⟨(0 : Int32), ((r2.toInt64), os), rfl, ⟨rfl, rfl⟩, by rw [ht]; exact hP, va_K.moved hW.alike hK, hD⟩, hS.F ht⟩) hS.2.2 dL_sigma_19

noncomputable def p_L_phi (F : Nat) (pr : Nat → Int32) (tm : Nat → Int32) (cn : Int32) (p1 : Int32) (p2 : Int32) (on : Int64) : Option (Int32 × Int64 × (Nat → Int32) × (Nat → Int32) × Int32) := (zb5 (p_X7_phi F pr tm cn p1 p2) (fun cd1 r2 pr_3 tm_4 cn_5 => (if cd1 = 0 then (some ((0 : Int32), (r2.toInt64), pr_3, tm_4, cn_5)) else (if cd1 = 2 then (some ((1 : Int32), on, pr_3, tm_4, cn_5)) else none))))
theorem hdS_L_phi : yL_phi.cls ≠ "java/lang/invoke/MethodHandle" ∧ yL_phi.cls ≠ "java/lang/invoke/VarHandle" ∧ (parseMethodDescriptor yL_phi.desc).map (fun d => d.parameters.length) = some 4 := by decide +kernel
set_option maxHeartbeats 4000000 in
set_option maxRecDepth 100000 in
theorem c_L_phi (l : Launch) (D : va_G) (a : Nat → Nat) (cJ cI cO cB : ClassId) (R : Nat → Nat → Int64) (b : Bool) (pr : Nat → Int32) (tm : Nat → Int32) (cn : Int32) (sm : Nat → Int32) (ac : Int32) (re : Int32) (kn : Int32) (F : Nat) (p1 : Int32) (p2 : Int32) (o : Nat) (on : Int64) (os : Value) (r : Int32) (on' : Int64) (pr' : Nat → Int32) (tm' : Nat → Int32) (cn' : Int32) (hlt : l.stackTraces = false) (h : p_L_phi F pr tm cn p1 p2 on = some (r, on', pr', tm', cn')) : zMw l yL_phi wsL_phi 8 134 2 12 D (zT cJ cI cO cB) [.ref (a 0), .int p1, .int p2, .ref o] (cW a cJ cI cO R b pr tm cn sm ac re kn ++ ([(o, .inr (8, [.long on, os]))])) (fun u => (cW a cJ cI cO R b pr' tm' cn' sm ac re kn ++ ([(o, .inr (8, [.long (u.1), u.2]))]))) r on' := by
  intro sz
  delta zQw
  refine va_MetW (cc := cL_phi) (maxL := 5) (ret := (some .int)) (by decide) rfl ?_
  intro p e s m args below meth c s₁ B hml hv
  obtain ⟨rfl, ⟨⟨hsz, hP, hK, hD0⟩, hE⟩, hKk⟩ := hv
  have hx := B.exec
  have hb := B.bytes
  have hr := B.returns
  have hts := atoms_spec (ws := wsL_phi) B.pre
  have hown : s.vm.findClass RL = some m.cls := findClass_of_methodNamed B.named
  have hlocks := B.notSynchronized
  subst hsz
  have hD := hD0.self (sz := s.heap.size)
  generalize hAe : va_A (cW a cJ cI cO R b pr tm cn sm ac re kn ++ ([(o, .inr (8, [.long on, os]))])) s.heap.size = A at hD hE ⊢
  have hA : ∀ q : Nat, s.heap.size ≤ q → A q := fun q h => by rw [← hAe]; exact Or.inr h
  have hS : va_S A s.heap s.heap [] := va_S.rf
  have hl := lv_entry ([.ref (a 0), .int p1, .int p2, .ref o]) (n := 5) (Nat.le_of_ble_eq_true rfl)
  rw [lg_entry_eq]
  generalize (lg_sl ([.ref (a 0), .int p1, .int p2, .ref o]) ++ List.replicate (5 - (lg_sl ([.ref (a 0), .int p1, .int p2, .ref o])).length) Slot.unset).toArray = ls at hl ⊢
  replace hl : lv_has ls 5 [(0, .ref (a 0)), (1, .int p1), (2, .int p2), (3, .ref o)] := hl
  have kwX8 : ∀ w ∈ u_ws RX8 TX8 2, w ∈ wsL_phi := fun w h => List.mem_cons_of_mem _ (List.mem_append_left _ (List.mem_append_right _ h))
  have htab := vx_table (x := yL_phi) B (hts (.codeWith yL_phi cL_phi 5 (some .int) [(0, 11, 14, 21)]) (zmem 0 rfl))
  have kc_21 := hts (.classLink RL 21 (zxn 2)) (zmem 1 rfl)
  replace h : (zb5 (p_X7_phi F pr tm cn p1 p2) (fun cd1 r2 pr_3 tm_4 cn_5 => (if cd1 = 0 then (some ((0 : Int32), (r2.toInt64), pr_3, tm_4, cn_5)) else (if cd1 = 2 then (some ((1 : Int32), on, pr_3, tm_4, cn_5)) else none)))) = some (r, on', pr', tm', cn') := h
  obtain ⟨H, hHe⟩ : ∃ H, H = s.heap := ⟨_, rfl⟩
  rw [← hHe] at hP
  replace hS : va_S A s.heap H [] := by rw [hHe]; exact hS
  refine zheap hHe ?_
  refine lv_aload_n hx hb dL_phi_0 rfl (lv_at hl 3 rfl) ?_
  refine lv_aload_n hx hb dL_phi_1 rfl (lv_at hl 0 rfl) ?_
  refine lv_iload_n hx hb dL_phi_2 rfl (lv_at hl 1 rfl) ?_
  refine lv_iload_n hx hb dL_phi_3 rfl (lv_at hl 2 rfl) ?_
  obtain ⟨cd1, r2, pr_3, tm_4, cn_5, e6, h⟩ := zb5_some h
  have hPc := zsub (wn := (cW a cJ cI cO R b pr tm cn sm ac re kn)) hP [0, 1, 2, 3, 4, 5, 6, 7, 8, 9, 10, 11, 12, 13, 14, 15, 16, 17, 18, 19, 20] rfl
  have hDc := hD.sub (ws' := (cW a cJ cI cO R b pr tm cn sm ac re kn)) [0, 1, 2, 3, 4, 5, 6, 7, 8, 9, 10, 11, 12, 13, 14, 15, 16, 17, 18, 19, 20] (by decide) rfl
  refine zxgoi (vx_runV (As := [.int p1, .int p2]) (rest := [.ref o]) ⟨hx, hb, hml, hown, hts⟩ (c_X7_phi l D a cJ cI cO cB R b pr tm cn sm ac re kn F p1 p2 cd1 r2 pr_3 tm_4 cn_5 hlt e6 H.size) (cwV 2 hts gL_phi_X7_phi rfl rfl rfl hdV_X7_phi ⟨Nat.le_of_ble_eq_true rfl, Nat.le_of_ble_eq_true rfl⟩) (zxpreV hE hS (va_free hD hS hA [0, 1, 2, 3, 4, 5, 6, 7, 8, 9, 10, 11, 12, 13, 14, 15, 16, 17, 18, 19, 20] rfl) (q0 := 0) (ci := 7) (T := TX7) (N := 9) hK hPc hDc rfl rfl [.int p1, .int p2]) rfl rfl hl.1 rfl (lv_room (Nat.le_of_ble_eq_true rfl)) dL_phi_4 ⟨Nat.le_of_ble_eq_true rfl, Nat.le_of_ble_eq_true rfl⟩) (va_free hD hS hA [0, 1, 2, 3, 4, 5, 6, 7, 8, 9, 10, 11, 12, 13, 14, 15, 16, 17, 18, 19, 20] rfl) (zjs (wn := (cW a cJ cI cO R b pr_3 tm_4 cn_5 sm ac re kn ++ ([(o, .inr (8, [.long on, os]))]))) [1, 2, 3, 4, 5, 6, 7, 8, 9, 10, 11, 12, 13, 14, 15, 16, 17, 18, 19, 20, 21, 0] (zjF (wr := ([(o, .inr (8, [.long on, os]))] : va_W)) hP hD hS hA [0, 1, 2, 3, 4, 5, 6, 7, 8, 9, 10, 11, 12, 13, 14, 15, 16, 17, 18, 19, 20] [21] rfl rfl (by decide) (by decide)) rfl (by decide)) hS (fun k04 => ?_) (fun k04 H locs hP hD hS => ?_)
  · intro ce q9 H locs hP hD hS h7 h8 h9
    replace hP : va_P D vwCl (cW a cJ cI cO R b pr_3 tm_4 cn_5 sm ac re kn ++ ([(o, .inr (8, [.long on, os]))])) H := hP
    replace hD : va_D A (cW a cJ cI cO R b pr_3 tm_4 cn_5 sm ac re kn ++ ([(o, .inr (8, [.long on, os]))])) := hD
    replace h := zif_f h k04
    by_cases e24 : cd1 = 2
    · replace h := zif_t h e24
      subst e24
      refine vx_catch hown [] ⟨0, 11, 14, 21⟩ [] (htab.trans rfl) (fun z hz => nomatch hz) rfl (by decide) kc_21 (va_Nw.use rfl hE.2.2.1.2.2.2.2.2.2.1) h7 h8 h9 ?_
      refine lv_astore (lv' := [(4, .ref q9), (0, .ref (a 0)), (1, .int p1), (2, .int p2), (3, .ref o)]) hx hb dL_phi_14 hl (by decide) rfl (fun ls hl => ?_)
      refine lv_iconst (v := (1 : Int32)) hx hb dL_phi_16 (by decide) ?_
      have g0 := Option.some.inj h
      obtain ⟨h1, g1⟩ := Prod.mk.inj g0
      obtain ⟨h2, g2⟩ := Prod.mk.inj g1
      obtain ⟨h3, g3⟩ := Prod.mk.inj g2
      obtain ⟨h4, g4⟩ := Prod.mk.inj g3
      subst h1
      subst h2
      subst h3
      subst h4
      subst g4
      exact W.iret (v := (1 : Int32)) hx hb hr (fun t ht hW => ⟨⟨(1 : Int32), (on, os), rfl, ⟨rfl, rfl⟩, by rw [ht]; exact hP, va_K.moved hW.alike hK, hD⟩, hS.F ht⟩) hS.2.2 dL_phi_17
    · replace h := zif_f h e24
      exact (zno h).elim
  · replace h := zif_t h k04
    replace hP : va_P D vwCl (cW a cJ cI cO R b pr_3 tm_4 cn_5 sm ac re kn ++ ([(o, .inr (8, [.long on, os]))])) H := hP
    replace hD : va_D A (cW a cJ cI cO R b pr_3 tm_4 cn_5 sm ac re kn ++ ([(o, .inr (8, [.long on, os]))])) := hD
    refine lv_i2l (v := r2.toInt64) hx hb dL_phi_7 rfl ?_
    refine va_putN (D := D) (ci := 8) (v := .long (r2.toInt64)) (ty := .long) (C := RX8) (T := TX8) (N := 2) hx hb hts kwX8 tyX8 tyX8_ok nmX8 hown hK hP hD hS 21 rfl rfl 0 (by decide) (va_Nw.use rfl hKk.2.1) (fun _ h9 => h9) rfl (by decide +kernel) rfl rfl (Nat.le_of_ble_eq_true rfl) dL_phi_8 (fun H locs hP hD hS => ?_)
    replace hP : va_P D vwCl (cW a cJ cI cO R b pr_3 tm_4 cn_5 sm ac re kn ++ ([(o, .inr (8, [.long (r2.toInt64), os]))])) H := hP
    replace hD : va_D A (cW a cJ cI cO R b pr_3 tm_4 cn_5 sm ac re kn ++ ([(o, .inr (8, [.long (r2.toInt64), os]))])) := hD
    refine lv_goto (tgt := 18) hx hb dL_phi_11 (by decide) ?_
    refine lv_iconst (v := (0 : Int32)) hx hb dL_phi_18 (by decide) ?_
    have g0 := Option.some.inj h
    obtain ⟨h1, g1⟩ := Prod.mk.inj g0
    obtain ⟨h2, g2⟩ := Prod.mk.inj g1
    obtain ⟨h3, g3⟩ := Prod.mk.inj g2
    obtain ⟨h4, g4⟩ := Prod.mk.inj g3
    subst h1
    subst h2
    subst h3
    subst h4
    subst g4
    exact W.iret (v := (0 : Int32)) hx hb hr (fun t ht hW => ⟨⟨(0 : Int32), ((r2.toInt64), os), rfl, ⟨rfl, rfl⟩, by rw [ht]; exact hP, va_K.moved hW.alike hK, hD⟩, hS.F ht⟩) hS.2.2 dL_phi_19

noncomputable def p_L_sign (F : Nat) (pr : Nat → Int32) (tm : Nat → Int32) (cn : Int32) (sm : Nat → Int32) (p1 : Int32) (p2 : Int32) (on : Int64) : Option (Int32 × Int64 × (Nat → Int32) × (Nat → Int32) × Int32 × (Nat → Int32)) := (zb6 (p_X7_sign F pr tm cn sm p1 p2) (fun cd1 r2 pr_3 tm_4 cn_5 sm_6 => (if cd1 = 0 then (some ((0 : Int32), (r2.toInt64), pr_3, tm_4, cn_5, sm_6)) else (if cd1 = 2 then (some ((1 : Int32), on, pr_3, tm_4, cn_5, sm_6)) else none))))
theorem hdS_L_sign : yL_sign.cls ≠ "java/lang/invoke/MethodHandle" ∧ yL_sign.cls ≠ "java/lang/invoke/VarHandle" ∧ (parseMethodDescriptor yL_sign.desc).map (fun d => d.parameters.length) = some 4 := by decide +kernel
set_option maxHeartbeats 4000000 in
set_option maxRecDepth 100000 in
theorem c_L_sign (l : Launch) (D : va_G) (a : Nat → Nat) (cJ cI cO cB : ClassId) (R : Nat → Nat → Int64) (b : Bool) (pr : Nat → Int32) (tm : Nat → Int32) (cn : Int32) (sm : Nat → Int32) (ac : Int32) (re : Int32) (kn : Int32) (F : Nat) (p1 : Int32) (p2 : Int32) (o : Nat) (on : Int64) (os : Value) (r : Int32) (on' : Int64) (pr' : Nat → Int32) (tm' : Nat → Int32) (cn' : Int32) (sm' : Nat → Int32) (hlt : l.stackTraces = false) (h : p_L_sign F pr tm cn sm p1 p2 on = some (r, on', pr', tm', cn', sm')) : zMw l yL_sign wsL_sign 8 134 2 12 D (zT cJ cI cO cB) [.ref (a 0), .int p1, .int p2, .ref o] (cW a cJ cI cO R b pr tm cn sm ac re kn ++ ([(o, .inr (8, [.long on, os]))])) (fun u => (cW a cJ cI cO R b pr' tm' cn' sm' ac re kn ++ ([(o, .inr (8, [.long (u.1), u.2]))]))) r on' := by
  intro sz
  delta zQw
  refine va_MetW (cc := cL_sign) (maxL := 5) (ret := (some .int)) (by decide) rfl ?_
  intro p e s m args below meth c s₁ B hml hv
  obtain ⟨rfl, ⟨⟨hsz, hP, hK, hD0⟩, hE⟩, hKk⟩ := hv
  have hx := B.exec
  have hb := B.bytes
  have hr := B.returns
  have hts := atoms_spec (ws := wsL_sign) B.pre
  have hown : s.vm.findClass RL = some m.cls := findClass_of_methodNamed B.named
  have hlocks := B.notSynchronized
  subst hsz
  have hD := hD0.self (sz := s.heap.size)
  generalize hAe : va_A (cW a cJ cI cO R b pr tm cn sm ac re kn ++ ([(o, .inr (8, [.long on, os]))])) s.heap.size = A at hD hE ⊢
  have hA : ∀ q : Nat, s.heap.size ≤ q → A q := fun q h => by rw [← hAe]; exact Or.inr h
  have hS : va_S A s.heap s.heap [] := va_S.rf
  have hl := lv_entry ([.ref (a 0), .int p1, .int p2, .ref o]) (n := 5) (Nat.le_of_ble_eq_true rfl)
  rw [lg_entry_eq]
  generalize (lg_sl ([.ref (a 0), .int p1, .int p2, .ref o]) ++ List.replicate (5 - (lg_sl ([.ref (a 0), .int p1, .int p2, .ref o])).length) Slot.unset).toArray = ls at hl ⊢
  replace hl : lv_has ls 5 [(0, .ref (a 0)), (1, .int p1), (2, .int p2), (3, .ref o)] := hl
  have kwX8 : ∀ w ∈ u_ws RX8 TX8 2, w ∈ wsL_sign := fun w h => List.mem_cons_of_mem _ (List.mem_append_left _ (List.mem_append_right _ h))
  have htab := vx_table (x := yL_sign) B (hts (.codeWith yL_sign cL_sign 5 (some .int) [(0, 11, 14, 21)]) (zmem 0 rfl))
  have kc_21 := hts (.classLink RL 21 (zxn 2)) (zmem 1 rfl)
  replace h : (zb6 (p_X7_sign F pr tm cn sm p1 p2) (fun cd1 r2 pr_3 tm_4 cn_5 sm_6 => (if cd1 = 0 then (some ((0 : Int32), (r2.toInt64), pr_3, tm_4, cn_5, sm_6)) else (if cd1 = 2 then (some ((1 : Int32), on, pr_3, tm_4, cn_5, sm_6)) else none)))) = some (r, on', pr', tm', cn', sm') := h
  obtain ⟨H, hHe⟩ : ∃ H, H = s.heap := ⟨_, rfl⟩
  rw [← hHe] at hP
  replace hS : va_S A s.heap H [] := by rw [hHe]; exact hS
  refine zheap hHe ?_
  refine lv_aload_n hx hb dL_sign_0 rfl (lv_at hl 3 rfl) ?_
  refine lv_aload_n hx hb dL_sign_1 rfl (lv_at hl 0 rfl) ?_
  refine lv_iload_n hx hb dL_sign_2 rfl (lv_at hl 1 rfl) ?_
  refine lv_iload_n hx hb dL_sign_3 rfl (lv_at hl 2 rfl) ?_
  obtain ⟨cd1, r2, pr_3, tm_4, cn_5, sm_6, e7, h⟩ := zb6_some h
  have hPc := zsub (wn := (cW a cJ cI cO R b pr tm cn sm ac re kn)) hP [0, 1, 2, 3, 4, 5, 6, 7, 8, 9, 10, 11, 12, 13, 14, 15, 16, 17, 18, 19, 20] rfl
  have hDc := hD.sub (ws' := (cW a cJ cI cO R b pr tm cn sm ac re kn)) [0, 1, 2, 3, 4, 5, 6, 7, 8, 9, 10, 11, 12, 13, 14, 15, 16, 17, 18, 19, 20] (by decide) rfl
  refine zxgoi (vx_runV (As := [.int p1, .int p2]) (rest := [.ref o]) ⟨hx, hb, hml, hown, hts⟩ (c_X7_sign l D a cJ cI cO cB R b pr tm cn sm ac re kn F p1 p2 cd1 r2 pr_3 tm_4 cn_5 sm_6 hlt e7 H.size) (cwV 2 hts gL_sign_X7_sign rfl rfl rfl hdV_X7_sign ⟨Nat.le_of_ble_eq_true rfl, Nat.le_of_ble_eq_true rfl⟩) (zxpreV hE hS (va_free hD hS hA [0, 1, 2, 3, 4, 5, 6, 7, 8, 9, 10, 11, 12, 13, 14, 15, 16, 17, 18, 19, 20] rfl) (q0 := 0) (ci := 7) (T := TX7) (N := 9) hK hPc hDc rfl rfl [.int p1, .int p2]) rfl rfl hl.1 rfl (lv_room (Nat.le_of_ble_eq_true rfl)) dL_sign_4 ⟨Nat.le_of_ble_eq_true rfl, Nat.le_of_ble_eq_true rfl⟩) (va_free hD hS hA [0, 1, 2, 3, 4, 5, 6, 7, 8, 9, 10, 11, 12, 13, 14, 15, 16, 17, 18, 19, 20] rfl) (zjs (wn := (cW a cJ cI cO R b pr_3 tm_4 cn_5 sm_6 ac re kn ++ ([(o, .inr (8, [.long on, os]))]))) [1, 2, 3, 4, 5, 6, 7, 8, 9, 10, 11, 12, 13, 14, 15, 16, 17, 18, 19, 20, 21, 0] (zjF (wr := ([(o, .inr (8, [.long on, os]))] : va_W)) hP hD hS hA [0, 1, 2, 3, 4, 5, 6, 7, 8, 9, 10, 11, 12, 13, 14, 15, 16, 17, 18, 19, 20] [21] rfl rfl (by decide) (by decide)) rfl (by decide)) hS (fun k04 => ?_) (fun k04 H locs hP hD hS => ?_)
  · intro ce q9 H locs hP hD hS h7 h8 h9
    replace hP : va_P D vwCl (cW a cJ cI cO R b pr_3 tm_4 cn_5 sm_6 ac re kn ++ ([(o, .inr (8, [.long on, os]))])) H := hP
    replace hD : va_D A (cW a cJ cI cO R b pr_3 tm_4 cn_5 sm_6 ac re kn ++ ([(o, .inr (8, [.long on, os]))])) := hD
    replace h := zif_f h k04
    by_cases e24 : cd1 = 2
    · replace h := zif_t h e24
      subst e24
      refine vx_catch hown [] ⟨0, 11, 14, 21⟩ [] (htab.trans rfl) (fun z hz => nomatch hz) rfl (by decide) kc_21 (va_Nw.use rfl hE.2.2.1.2.2.2.2.2.2.1) h7 h8 h9 ?_
      refine lv_astore (lv' := [(4, .ref q9), (0, .ref (a 0)), (1, .int p1), (2, .int p2), (3, .ref o)]) hx hb dL_sign_14 hl (by decide) rfl (fun ls hl => ?_)
      refine lv_iconst (v := (1 : Int32)) hx hb dL_sign_16 (by decide) ?_
      have g0 := Option.some.inj h
      obtain ⟨h1, g1⟩ := Prod.mk.inj g0
      obtain ⟨h2, g2⟩ := Prod.mk.inj g1
      obtain ⟨h3, g3⟩ := Prod.mk.inj g2
      obtain ⟨h4, g4⟩ := Prod.mk.inj g3
      obtain ⟨h5, g5⟩ := Prod.mk.inj g4
      subst h1
      subst h2
      subst h3
      subst h4
      subst h5
      subst g5
      exact W.iret (v := (1 : Int32)) hx hb hr (fun t ht hW => ⟨⟨(1 : Int32), (on, os), rfl, ⟨rfl, rfl⟩, by rw [ht]; exact hP, va_K.moved hW.alike hK, hD⟩, hS.F ht⟩) hS.2.2 dL_sign_17
    · replace h := zif_f h e24
      exact (zno h).elim
  · replace h := zif_t h k04
    replace hP : va_P D vwCl (cW a cJ cI cO R b pr_3 tm_4 cn_5 sm_6 ac re kn ++ ([(o, .inr (8, [.long on, os]))])) H := hP
    replace hD : va_D A (cW a cJ cI cO R b pr_3 tm_4 cn_5 sm_6 ac re kn ++ ([(o, .inr (8, [.long on, os]))])) := hD
    refine lv_i2l (v := r2.toInt64) hx hb dL_sign_7 rfl ?_
    refine va_putN (D := D) (ci := 8) (v := .long (r2.toInt64)) (ty := .long) (C := RX8) (T := TX8) (N := 2) hx hb hts kwX8 tyX8 tyX8_ok nmX8 hown hK hP hD hS 21 rfl rfl 0 (by decide) (va_Nw.use rfl hKk.2.1) (fun _ h9 => h9) rfl (by decide +kernel) rfl rfl (Nat.le_of_ble_eq_true rfl) dL_sign_8 (fun H locs hP hD hS => ?_)
    replace hP : va_P D vwCl (cW a cJ cI cO R b pr_3 tm_4 cn_5 sm_6 ac re kn ++ ([(o, .inr (8, [.long (r2.toInt64), os]))])) H := hP
    replace hD : va_D A (cW a cJ cI cO R b pr_3 tm_4 cn_5 sm_6 ac re kn ++ ([(o, .inr (8, [.long (r2.toInt64), os]))])) := hD
    refine lv_goto (tgt := 18) hx hb dL_sign_11 (by decide) ?_
    refine lv_iconst (v := (0 : Int32)) hx hb dL_sign_18 (by decide) ?_
    have g0 := Option.some.inj h
    obtain ⟨h1, g1⟩ := Prod.mk.inj g0
    obtain ⟨h2, g2⟩ := Prod.mk.inj g1
    obtain ⟨h3, g3⟩ := Prod.mk.inj g2
    obtain ⟨h4, g4⟩ := Prod.mk.inj g3
    obtain ⟨h5, g5⟩ := Prod.mk.inj g4
    subst h1
    subst h2
    subst h3
    subst h4
    subst h5
    subst g5
    exact W.iret (v := (0 : Int32)) hx hb hr (fun t ht hW => ⟨⟨(0 : Int32), ((r2.toInt64), os), rfl, ⟨rfl, rfl⟩, by rw [ht]; exact hP, va_K.moved hW.alike hK, hD⟩, hS.F ht⟩) hS.2.2 dL_sign_19

noncomputable def p_L_square (F : Nat) (pr : Nat → Int32) (tm : Nat → Int32) (cn : Int32) (p1 : Int32) (p2 : Int32) (on : Int64) : Option (Int32 × Int64 × (Nat → Int32) × (Nat → Int32) × Int32) := (zb5 (p_X7_square F pr tm cn p1 p2) (fun cd1 r2 pr_3 tm_4 cn_5 => (if cd1 = 0 then (some ((0 : Int32), (r2.toInt64), pr_3, tm_4, cn_5)) else (if cd1 = 2 then (some ((1 : Int32), on, pr_3, tm_4, cn_5)) else none))))
theorem hdS_L_square : yL_square.cls ≠ "java/lang/invoke/MethodHandle" ∧ yL_square.cls ≠ "java/lang/invoke/VarHandle" ∧ (parseMethodDescriptor yL_square.desc).map (fun d => d.parameters.length) = some 4 := by decide +kernel
set_option maxHeartbeats 4000000 in
set_option maxRecDepth 100000 in
theorem c_L_square (l : Launch) (D : va_G) (a : Nat → Nat) (cJ cI cO cB : ClassId) (R : Nat → Nat → Int64) (b : Bool) (pr : Nat → Int32) (tm : Nat → Int32) (cn : Int32) (sm : Nat → Int32) (ac : Int32) (re : Int32) (kn : Int32) (F : Nat) (p1 : Int32) (p2 : Int32) (o : Nat) (on : Int64) (os : Value) (r : Int32) (on' : Int64) (pr' : Nat → Int32) (tm' : Nat → Int32) (cn' : Int32) (hlt : l.stackTraces = false) (h : p_L_square F pr tm cn p1 p2 on = some (r, on', pr', tm', cn')) : zMw l yL_square wsL_square 8 134 2 12 D (zT cJ cI cO cB) [.ref (a 0), .int p1, .int p2, .ref o] (cW a cJ cI cO R b pr tm cn sm ac re kn ++ ([(o, .inr (8, [.long on, os]))])) (fun u => (cW a cJ cI cO R b pr' tm' cn' sm ac re kn ++ ([(o, .inr (8, [.long (u.1), u.2]))]))) r on' := by
  intro sz
  delta zQw
  refine va_MetW (cc := cL_square) (maxL := 5) (ret := (some .int)) (by decide) rfl ?_
  intro p e s m args below meth c s₁ B hml hv
  obtain ⟨rfl, ⟨⟨hsz, hP, hK, hD0⟩, hE⟩, hKk⟩ := hv
  have hx := B.exec
  have hb := B.bytes
  have hr := B.returns
  have hts := atoms_spec (ws := wsL_square) B.pre
  have hown : s.vm.findClass RL = some m.cls := findClass_of_methodNamed B.named
  have hlocks := B.notSynchronized
  subst hsz
  have hD := hD0.self (sz := s.heap.size)
  generalize hAe : va_A (cW a cJ cI cO R b pr tm cn sm ac re kn ++ ([(o, .inr (8, [.long on, os]))])) s.heap.size = A at hD hE ⊢
  have hA : ∀ q : Nat, s.heap.size ≤ q → A q := fun q h => by rw [← hAe]; exact Or.inr h
  have hS : va_S A s.heap s.heap [] := va_S.rf
  have hl := lv_entry ([.ref (a 0), .int p1, .int p2, .ref o]) (n := 5) (Nat.le_of_ble_eq_true rfl)
  rw [lg_entry_eq]
  generalize (lg_sl ([.ref (a 0), .int p1, .int p2, .ref o]) ++ List.replicate (5 - (lg_sl ([.ref (a 0), .int p1, .int p2, .ref o])).length) Slot.unset).toArray = ls at hl ⊢
  replace hl : lv_has ls 5 [(0, .ref (a 0)), (1, .int p1), (2, .int p2), (3, .ref o)] := hl
  have kwX8 : ∀ w ∈ u_ws RX8 TX8 2, w ∈ wsL_square := fun w h => List.mem_cons_of_mem _ (List.mem_append_left _ (List.mem_append_right _ h))
  have htab := vx_table (x := yL_square) B (hts (.codeWith yL_square cL_square 5 (some .int) [(0, 11, 14, 21)]) (zmem 0 rfl))
  have kc_21 := hts (.classLink RL 21 (zxn 2)) (zmem 1 rfl)
  replace h : (zb5 (p_X7_square F pr tm cn p1 p2) (fun cd1 r2 pr_3 tm_4 cn_5 => (if cd1 = 0 then (some ((0 : Int32), (r2.toInt64), pr_3, tm_4, cn_5)) else (if cd1 = 2 then (some ((1 : Int32), on, pr_3, tm_4, cn_5)) else none)))) = some (r, on', pr', tm', cn') := h
  obtain ⟨H, hHe⟩ : ∃ H, H = s.heap := ⟨_, rfl⟩
  rw [← hHe] at hP
  replace hS : va_S A s.heap H [] := by rw [hHe]; exact hS
  refine zheap hHe ?_
  refine lv_aload_n hx hb dL_square_0 rfl (lv_at hl 3 rfl) ?_
  refine lv_aload_n hx hb dL_square_1 rfl (lv_at hl 0 rfl) ?_
  refine lv_iload_n hx hb dL_square_2 rfl (lv_at hl 1 rfl) ?_
  refine lv_iload_n hx hb dL_square_3 rfl (lv_at hl 2 rfl) ?_
  obtain ⟨cd1, r2, pr_3, tm_4, cn_5, e6, h⟩ := zb5_some h
  have hPc := zsub (wn := (cW a cJ cI cO R b pr tm cn sm ac re kn)) hP [0, 1, 2, 3, 4, 5, 6, 7, 8, 9, 10, 11, 12, 13, 14, 15, 16, 17, 18, 19, 20] rfl
  have hDc := hD.sub (ws' := (cW a cJ cI cO R b pr tm cn sm ac re kn)) [0, 1, 2, 3, 4, 5, 6, 7, 8, 9, 10, 11, 12, 13, 14, 15, 16, 17, 18, 19, 20] (by decide) rfl
  refine zxgoi (vx_runV (As := [.int p1, .int p2]) (rest := [.ref o]) ⟨hx, hb, hml, hown, hts⟩ (c_X7_square l D a cJ cI cO cB R b pr tm cn sm ac re kn F p1 p2 cd1 r2 pr_3 tm_4 cn_5 hlt e6 H.size) (cwV 2 hts gL_square_X7_square rfl rfl rfl hdV_X7_square ⟨Nat.le_of_ble_eq_true rfl, Nat.le_of_ble_eq_true rfl⟩) (zxpreV hE hS (va_free hD hS hA [0, 1, 2, 3, 4, 5, 6, 7, 8, 9, 10, 11, 12, 13, 14, 15, 16, 17, 18, 19, 20] rfl) (q0 := 0) (ci := 7) (T := TX7) (N := 9) hK hPc hDc rfl rfl [.int p1, .int p2]) rfl rfl hl.1 rfl (lv_room (Nat.le_of_ble_eq_true rfl)) dL_square_4 ⟨Nat.le_of_ble_eq_true rfl, Nat.le_of_ble_eq_true rfl⟩) (va_free hD hS hA [0, 1, 2, 3, 4, 5, 6, 7, 8, 9, 10, 11, 12, 13, 14, 15, 16, 17, 18, 19, 20] rfl) (zjs (wn := (cW a cJ cI cO R b pr_3 tm_4 cn_5 sm ac re kn ++ ([(o, .inr (8, [.long on, os]))]))) [1, 2, 3, 4, 5, 6, 7, 8, 9, 10, 11, 12, 13, 14, 15, 16, 17, 18, 19, 20, 21, 0] (zjF (wr := ([(o, .inr (8, [.long on, os]))] : va_W)) hP hD hS hA [0, 1, 2, 3, 4, 5, 6, 7, 8, 9, 10, 11, 12, 13, 14, 15, 16, 17, 18, 19, 20] [21] rfl rfl (by decide) (by decide)) rfl (by decide)) hS (fun k04 => ?_) (fun k04 H locs hP hD hS => ?_)
  · intro ce q9 H locs hP hD hS h7 h8 h9
    replace hP : va_P D vwCl (cW a cJ cI cO R b pr_3 tm_4 cn_5 sm ac re kn ++ ([(o, .inr (8, [.long on, os]))])) H := hP
    replace hD : va_D A (cW a cJ cI cO R b pr_3 tm_4 cn_5 sm ac re kn ++ ([(o, .inr (8, [.long on, os]))])) := hD
    replace h := zif_f h k04
    by_cases e24 : cd1 = 2
    · replace h := zif_t h e24
      subst e24
      refine vx_catch hown [] ⟨0, 11, 14, 21⟩ [] (htab.trans rfl) (fun z hz => nomatch hz) rfl (by decide) kc_21 (va_Nw.use rfl hE.2.2.1.2.2.2.2.2.2.1) h7 h8 h9 ?_
      refine lv_astore (lv' := [(4, .ref q9), (0, .ref (a 0)), (1, .int p1), (2, .int p2), (3, .ref o)]) hx hb dL_square_14 hl (by decide) rfl (fun ls hl => ?_)
      refine lv_iconst (v := (1 : Int32)) hx hb dL_square_16 (by decide) ?_
      have g0 := Option.some.inj h
      obtain ⟨h1, g1⟩ := Prod.mk.inj g0
      obtain ⟨h2, g2⟩ := Prod.mk.inj g1
      obtain ⟨h3, g3⟩ := Prod.mk.inj g2
      obtain ⟨h4, g4⟩ := Prod.mk.inj g3
      subst h1
      subst h2
      subst h3
      subst h4
      subst g4
      exact W.iret (v := (1 : Int32)) hx hb hr (fun t ht hW => ⟨⟨(1 : Int32), (on, os), rfl, ⟨rfl, rfl⟩, by rw [ht]; exact hP, va_K.moved hW.alike hK, hD⟩, hS.F ht⟩) hS.2.2 dL_square_17
    · replace h := zif_f h e24
      exact (zno h).elim
  · replace h := zif_t h k04
    replace hP : va_P D vwCl (cW a cJ cI cO R b pr_3 tm_4 cn_5 sm ac re kn ++ ([(o, .inr (8, [.long on, os]))])) H := hP
    replace hD : va_D A (cW a cJ cI cO R b pr_3 tm_4 cn_5 sm ac re kn ++ ([(o, .inr (8, [.long on, os]))])) := hD
    refine lv_i2l (v := r2.toInt64) hx hb dL_square_7 rfl ?_
    refine va_putN (D := D) (ci := 8) (v := .long (r2.toInt64)) (ty := .long) (C := RX8) (T := TX8) (N := 2) hx hb hts kwX8 tyX8 tyX8_ok nmX8 hown hK hP hD hS 21 rfl rfl 0 (by decide) (va_Nw.use rfl hKk.2.1) (fun _ h9 => h9) rfl (by decide +kernel) rfl rfl (Nat.le_of_ble_eq_true rfl) dL_square_8 (fun H locs hP hD hS => ?_)
    replace hP : va_P D vwCl (cW a cJ cI cO R b pr_3 tm_4 cn_5 sm ac re kn ++ ([(o, .inr (8, [.long (r2.toInt64), os]))])) H := hP
    replace hD : va_D A (cW a cJ cI cO R b pr_3 tm_4 cn_5 sm ac re kn ++ ([(o, .inr (8, [.long (r2.toInt64), os]))])) := hD
    refine lv_goto (tgt := 18) hx hb dL_square_11 (by decide) ?_
    refine lv_iconst (v := (0 : Int32)) hx hb dL_square_18 (by decide) ?_
    have g0 := Option.some.inj h
    obtain ⟨h1, g1⟩ := Prod.mk.inj g0
    obtain ⟨h2, g2⟩ := Prod.mk.inj g1
    obtain ⟨h3, g3⟩ := Prod.mk.inj g2
    obtain ⟨h4, g4⟩ := Prod.mk.inj g3
    subst h1
    subst h2
    subst h3
    subst h4
    subst g4
    exact W.iret (v := (0 : Int32)) hx hb hr (fun t ht hW => ⟨⟨(0 : Int32), ((r2.toInt64), os), rfl, ⟨rfl, rfl⟩, by rw [ht]; exact hP, va_K.moved hW.alike hK, hD⟩, hS.F ht⟩) hS.2.2 dL_square_19

noncomputable def p_L_squareless (F : Nat) (pr : Nat → Int32) (tm : Nat → Int32) (cn : Int32) (p1 : Int32) (p2 : Int32) (on : Int64) : Option (Int32 × Int64 × (Nat → Int32) × (Nat → Int32) × Int32) := (zb5 (p_X7_squareless F pr tm cn p1 p2) (fun cd1 r2 pr_3 tm_4 cn_5 => (if cd1 = 0 then (some ((0 : Int32), (r2.toInt64), pr_3, tm_4, cn_5)) else (if cd1 = 2 then (some ((1 : Int32), on, pr_3, tm_4, cn_5)) else none))))
theorem hdS_L_squareless : yL_squareless.cls ≠ "java/lang/invoke/MethodHandle" ∧ yL_squareless.cls ≠ "java/lang/invoke/VarHandle" ∧ (parseMethodDescriptor yL_squareless.desc).map (fun d => d.parameters.length) = some 4 := by decide +kernel
set_option maxHeartbeats 4000000 in
set_option maxRecDepth 100000 in
theorem c_L_squareless (l : Launch) (D : va_G) (a : Nat → Nat) (cJ cI cO cB : ClassId) (R : Nat → Nat → Int64) (b : Bool) (pr : Nat → Int32) (tm : Nat → Int32) (cn : Int32) (sm : Nat → Int32) (ac : Int32) (re : Int32) (kn : Int32) (F : Nat) (p1 : Int32) (p2 : Int32) (o : Nat) (on : Int64) (os : Value) (r : Int32) (on' : Int64) (pr' : Nat → Int32) (tm' : Nat → Int32) (cn' : Int32) (hlt : l.stackTraces = false) (h : p_L_squareless F pr tm cn p1 p2 on = some (r, on', pr', tm', cn')) : zMw l yL_squareless wsL_squareless 8 134 2 12 D (zT cJ cI cO cB) [.ref (a 0), .int p1, .int p2, .ref o] (cW a cJ cI cO R b pr tm cn sm ac re kn ++ ([(o, .inr (8, [.long on, os]))])) (fun u => (cW a cJ cI cO R b pr' tm' cn' sm ac re kn ++ ([(o, .inr (8, [.long (u.1), u.2]))]))) r on' := by
  intro sz
  delta zQw
  refine va_MetW (cc := cL_squareless) (maxL := 5) (ret := (some .int)) (by decide) rfl ?_
  intro p e s m args below meth c s₁ B hml hv
  obtain ⟨rfl, ⟨⟨hsz, hP, hK, hD0⟩, hE⟩, hKk⟩ := hv
  have hx := B.exec
  have hb := B.bytes
  have hr := B.returns
  have hts := atoms_spec (ws := wsL_squareless) B.pre
  have hown : s.vm.findClass RL = some m.cls := findClass_of_methodNamed B.named
  have hlocks := B.notSynchronized
  subst hsz
  have hD := hD0.self (sz := s.heap.size)
  generalize hAe : va_A (cW a cJ cI cO R b pr tm cn sm ac re kn ++ ([(o, .inr (8, [.long on, os]))])) s.heap.size = A at hD hE ⊢
  have hA : ∀ q : Nat, s.heap.size ≤ q → A q := fun q h => by rw [← hAe]; exact Or.inr h
  have hS : va_S A s.heap s.heap [] := va_S.rf
  have hl := lv_entry ([.ref (a 0), .int p1, .int p2, .ref o]) (n := 5) (Nat.le_of_ble_eq_true rfl)
  rw [lg_entry_eq]
  generalize (lg_sl ([.ref (a 0), .int p1, .int p2, .ref o]) ++ List.replicate (5 - (lg_sl ([.ref (a 0), .int p1, .int p2, .ref o])).length) Slot.unset).toArray = ls at hl ⊢
  replace hl : lv_has ls 5 [(0, .ref (a 0)), (1, .int p1), (2, .int p2), (3, .ref o)] := hl
  have kwX8 : ∀ w ∈ u_ws RX8 TX8 2, w ∈ wsL_squareless := fun w h => List.mem_cons_of_mem _ (List.mem_append_left _ (List.mem_append_right _ h))
  have htab := vx_table (x := yL_squareless) B (hts (.codeWith yL_squareless cL_squareless 5 (some .int) [(0, 11, 14, 21)]) (zmem 0 rfl))
  have kc_21 := hts (.classLink RL 21 (zxn 2)) (zmem 1 rfl)
  replace h : (zb5 (p_X7_squareless F pr tm cn p1 p2) (fun cd1 r2 pr_3 tm_4 cn_5 => (if cd1 = 0 then (some ((0 : Int32), (r2.toInt64), pr_3, tm_4, cn_5)) else (if cd1 = 2 then (some ((1 : Int32), on, pr_3, tm_4, cn_5)) else none)))) = some (r, on', pr', tm', cn') := h
  obtain ⟨H, hHe⟩ : ∃ H, H = s.heap := ⟨_, rfl⟩
  rw [← hHe] at hP
  replace hS : va_S A s.heap H [] := by rw [hHe]; exact hS
  refine zheap hHe ?_
  refine lv_aload_n hx hb dL_squareless_0 rfl (lv_at hl 3 rfl) ?_
  refine lv_aload_n hx hb dL_squareless_1 rfl (lv_at hl 0 rfl) ?_
  refine lv_iload_n hx hb dL_squareless_2 rfl (lv_at hl 1 rfl) ?_
  refine lv_iload_n hx hb dL_squareless_3 rfl (lv_at hl 2 rfl) ?_
  obtain ⟨cd1, r2, pr_3, tm_4, cn_5, e6, h⟩ := zb5_some h
  have hPc := zsub (wn := (cW a cJ cI cO R b pr tm cn sm ac re kn)) hP [0, 1, 2, 3, 4, 5, 6, 7, 8, 9, 10, 11, 12, 13, 14, 15, 16, 17, 18, 19, 20] rfl
  have hDc := hD.sub (ws' := (cW a cJ cI cO R b pr tm cn sm ac re kn)) [0, 1, 2, 3, 4, 5, 6, 7, 8, 9, 10, 11, 12, 13, 14, 15, 16, 17, 18, 19, 20] (by decide) rfl
  refine zxgoi (vx_runV (As := [.int p1, .int p2]) (rest := [.ref o]) ⟨hx, hb, hml, hown, hts⟩ (c_X7_squareless l D a cJ cI cO cB R b pr tm cn sm ac re kn F p1 p2 cd1 r2 pr_3 tm_4 cn_5 hlt e6 H.size) (cwV 2 hts gL_squareless_X7_squareless rfl rfl rfl hdV_X7_squareless ⟨Nat.le_of_ble_eq_true rfl, Nat.le_of_ble_eq_true rfl⟩) (zxpreV hE hS (va_free hD hS hA [0, 1, 2, 3, 4, 5, 6, 7, 8, 9, 10, 11, 12, 13, 14, 15, 16, 17, 18, 19, 20] rfl) (q0 := 0) (ci := 7) (T := TX7) (N := 9) hK hPc hDc rfl rfl [.int p1, .int p2]) rfl rfl hl.1 rfl (lv_room (Nat.le_of_ble_eq_true rfl)) dL_squareless_4 ⟨Nat.le_of_ble_eq_true rfl, Nat.le_of_ble_eq_true rfl⟩) (va_free hD hS hA [0, 1, 2, 3, 4, 5, 6, 7, 8, 9, 10, 11, 12, 13, 14, 15, 16, 17, 18, 19, 20] rfl) (zjs (wn := (cW a cJ cI cO R b pr_3 tm_4 cn_5 sm ac re kn ++ ([(o, .inr (8, [.long on, os]))]))) [1, 2, 3, 4, 5, 6, 7, 8, 9, 10, 11, 12, 13, 14, 15, 16, 17, 18, 19, 20, 21, 0] (zjF (wr := ([(o, .inr (8, [.long on, os]))] : va_W)) hP hD hS hA [0, 1, 2, 3, 4, 5, 6, 7, 8, 9, 10, 11, 12, 13, 14, 15, 16, 17, 18, 19, 20] [21] rfl rfl (by decide) (by decide)) rfl (by decide)) hS (fun k04 => ?_) (fun k04 H locs hP hD hS => ?_)
  · intro ce q9 H locs hP hD hS h7 h8 h9
    replace hP : va_P D vwCl (cW a cJ cI cO R b pr_3 tm_4 cn_5 sm ac re kn ++ ([(o, .inr (8, [.long on, os]))])) H := hP
    replace hD : va_D A (cW a cJ cI cO R b pr_3 tm_4 cn_5 sm ac re kn ++ ([(o, .inr (8, [.long on, os]))])) := hD
    replace h := zif_f h k04
    by_cases e24 : cd1 = 2
    · replace h := zif_t h e24
      subst e24
      refine vx_catch hown [] ⟨0, 11, 14, 21⟩ [] (htab.trans rfl) (fun z hz => nomatch hz) rfl (by decide) kc_21 (va_Nw.use rfl hE.2.2.1.2.2.2.2.2.2.1) h7 h8 h9 ?_
      refine lv_astore (lv' := [(4, .ref q9), (0, .ref (a 0)), (1, .int p1), (2, .int p2), (3, .ref o)]) hx hb dL_squareless_14 hl (by decide) rfl (fun ls hl => ?_)
      refine lv_iconst (v := (1 : Int32)) hx hb dL_squareless_16 (by decide) ?_
      have g0 := Option.some.inj h
      obtain ⟨h1, g1⟩ := Prod.mk.inj g0
      obtain ⟨h2, g2⟩ := Prod.mk.inj g1
      obtain ⟨h3, g3⟩ := Prod.mk.inj g2
      obtain ⟨h4, g4⟩ := Prod.mk.inj g3
      subst h1
      subst h2
      subst h3
      subst h4
      subst g4
      exact W.iret (v := (1 : Int32)) hx hb hr (fun t ht hW => ⟨⟨(1 : Int32), (on, os), rfl, ⟨rfl, rfl⟩, by rw [ht]; exact hP, va_K.moved hW.alike hK, hD⟩, hS.F ht⟩) hS.2.2 dL_squareless_17
    · replace h := zif_f h e24
      exact (zno h).elim
  · replace h := zif_t h k04
    replace hP : va_P D vwCl (cW a cJ cI cO R b pr_3 tm_4 cn_5 sm ac re kn ++ ([(o, .inr (8, [.long on, os]))])) H := hP
    replace hD : va_D A (cW a cJ cI cO R b pr_3 tm_4 cn_5 sm ac re kn ++ ([(o, .inr (8, [.long on, os]))])) := hD
    refine lv_i2l (v := r2.toInt64) hx hb dL_squareless_7 rfl ?_
    refine va_putN (D := D) (ci := 8) (v := .long (r2.toInt64)) (ty := .long) (C := RX8) (T := TX8) (N := 2) hx hb hts kwX8 tyX8 tyX8_ok nmX8 hown hK hP hD hS 21 rfl rfl 0 (by decide) (va_Nw.use rfl hKk.2.1) (fun _ h9 => h9) rfl (by decide +kernel) rfl rfl (Nat.le_of_ble_eq_true rfl) dL_squareless_8 (fun H locs hP hD hS => ?_)
    replace hP : va_P D vwCl (cW a cJ cI cO R b pr_3 tm_4 cn_5 sm ac re kn ++ ([(o, .inr (8, [.long (r2.toInt64), os]))])) H := hP
    replace hD : va_D A (cW a cJ cI cO R b pr_3 tm_4 cn_5 sm ac re kn ++ ([(o, .inr (8, [.long (r2.toInt64), os]))])) := hD
    refine lv_goto (tgt := 18) hx hb dL_squareless_11 (by decide) ?_
    refine lv_iconst (v := (0 : Int32)) hx hb dL_squareless_18 (by decide) ?_
    have g0 := Option.some.inj h
    obtain ⟨h1, g1⟩ := Prod.mk.inj g0
    obtain ⟨h2, g2⟩ := Prod.mk.inj g1
    obtain ⟨h3, g3⟩ := Prod.mk.inj g2
    obtain ⟨h4, g4⟩ := Prod.mk.inj g3
    subst h1
    subst h2
    subst h3
    subst h4
    subst g4
    exact W.iret (v := (0 : Int32)) hx hb hr (fun t ht hW => ⟨⟨(0 : Int32), ((r2.toInt64), os), rfl, ⟨rfl, rfl⟩, by rw [ht]; exact hP, va_K.moved hW.alike hK, hD⟩, hS.F ht⟩) hS.2.2 dL_squareless_19

noncomputable def p_L_apart (F : Nat) (pr : Nat → Int32) (tm : Nat → Int32) (cn : Int32) (p1 : Int32) (p2 : Int32) (on : Int64) : Option (Int32 × Int64 × (Nat → Int32) × (Nat → Int32) × Int32) := (zb5 (p_X7_apart F pr tm cn p1 p2) (fun cd1 r2 pr_3 tm_4 cn_5 => (if cd1 = 0 then (some ((0 : Int32), (r2.toInt64), pr_3, tm_4, cn_5)) else (if cd1 = 2 then (some ((1 : Int32), on, pr_3, tm_4, cn_5)) else none))))
theorem hdS_L_apart : yL_apart.cls ≠ "java/lang/invoke/MethodHandle" ∧ yL_apart.cls ≠ "java/lang/invoke/VarHandle" ∧ (parseMethodDescriptor yL_apart.desc).map (fun d => d.parameters.length) = some 4 := by decide +kernel
set_option maxHeartbeats 4000000 in
set_option maxRecDepth 100000 in
theorem c_L_apart (l : Launch) (D : va_G) (a : Nat → Nat) (cJ cI cO cB : ClassId) (R : Nat → Nat → Int64) (b : Bool) (pr : Nat → Int32) (tm : Nat → Int32) (cn : Int32) (sm : Nat → Int32) (ac : Int32) (re : Int32) (kn : Int32) (F : Nat) (p1 : Int32) (p2 : Int32) (o : Nat) (on : Int64) (os : Value) (r : Int32) (on' : Int64) (pr' : Nat → Int32) (tm' : Nat → Int32) (cn' : Int32) (hlt : l.stackTraces = false) (h : p_L_apart F pr tm cn p1 p2 on = some (r, on', pr', tm', cn')) : zMw l yL_apart wsL_apart 8 134 2 12 D (zT cJ cI cO cB) [.ref (a 0), .int p1, .int p2, .ref o] (cW a cJ cI cO R b pr tm cn sm ac re kn ++ ([(o, .inr (8, [.long on, os]))])) (fun u => (cW a cJ cI cO R b pr' tm' cn' sm ac re kn ++ ([(o, .inr (8, [.long (u.1), u.2]))]))) r on' := by
  intro sz
  delta zQw
  refine va_MetW (cc := cL_apart) (maxL := 5) (ret := (some .int)) (by decide) rfl ?_
  intro p e s m args below meth c s₁ B hml hv
  obtain ⟨rfl, ⟨⟨hsz, hP, hK, hD0⟩, hE⟩, hKk⟩ := hv
  have hx := B.exec
  have hb := B.bytes
  have hr := B.returns
  have hts := atoms_spec (ws := wsL_apart) B.pre
  have hown : s.vm.findClass RL = some m.cls := findClass_of_methodNamed B.named
  have hlocks := B.notSynchronized
  subst hsz
  have hD := hD0.self (sz := s.heap.size)
  generalize hAe : va_A (cW a cJ cI cO R b pr tm cn sm ac re kn ++ ([(o, .inr (8, [.long on, os]))])) s.heap.size = A at hD hE ⊢
  have hA : ∀ q : Nat, s.heap.size ≤ q → A q := fun q h => by rw [← hAe]; exact Or.inr h
  have hS : va_S A s.heap s.heap [] := va_S.rf
  have hl := lv_entry ([.ref (a 0), .int p1, .int p2, .ref o]) (n := 5) (Nat.le_of_ble_eq_true rfl)
  rw [lg_entry_eq]
  generalize (lg_sl ([.ref (a 0), .int p1, .int p2, .ref o]) ++ List.replicate (5 - (lg_sl ([.ref (a 0), .int p1, .int p2, .ref o])).length) Slot.unset).toArray = ls at hl ⊢
  replace hl : lv_has ls 5 [(0, .ref (a 0)), (1, .int p1), (2, .int p2), (3, .ref o)] := hl
  have kwX8 : ∀ w ∈ u_ws RX8 TX8 2, w ∈ wsL_apart := fun w h => List.mem_cons_of_mem _ (List.mem_append_left _ (List.mem_append_right _ h))
  have htab := vx_table (x := yL_apart) B (hts (.codeWith yL_apart cL_apart 5 (some .int) [(0, 11, 14, 21)]) (zmem 0 rfl))
  have kc_21 := hts (.classLink RL 21 (zxn 2)) (zmem 1 rfl)
  replace h : (zb5 (p_X7_apart F pr tm cn p1 p2) (fun cd1 r2 pr_3 tm_4 cn_5 => (if cd1 = 0 then (some ((0 : Int32), (r2.toInt64), pr_3, tm_4, cn_5)) else (if cd1 = 2 then (some ((1 : Int32), on, pr_3, tm_4, cn_5)) else none)))) = some (r, on', pr', tm', cn') := h
  obtain ⟨H, hHe⟩ : ∃ H, H = s.heap := ⟨_, rfl⟩
  rw [← hHe] at hP
  replace hS : va_S A s.heap H [] := by rw [hHe]; exact hS
  refine zheap hHe ?_
  refine lv_aload_n hx hb dL_apart_0 rfl (lv_at hl 3 rfl) ?_
  refine lv_aload_n hx hb dL_apart_1 rfl (lv_at hl 0 rfl) ?_
  refine lv_iload_n hx hb dL_apart_2 rfl (lv_at hl 1 rfl) ?_
  refine lv_iload_n hx hb dL_apart_3 rfl (lv_at hl 2 rfl) ?_
  obtain ⟨cd1, r2, pr_3, tm_4, cn_5, e6, h⟩ := zb5_some h
  have hPc := zsub (wn := (cW a cJ cI cO R b pr tm cn sm ac re kn)) hP [0, 1, 2, 3, 4, 5, 6, 7, 8, 9, 10, 11, 12, 13, 14, 15, 16, 17, 18, 19, 20] rfl
  have hDc := hD.sub (ws' := (cW a cJ cI cO R b pr tm cn sm ac re kn)) [0, 1, 2, 3, 4, 5, 6, 7, 8, 9, 10, 11, 12, 13, 14, 15, 16, 17, 18, 19, 20] (by decide) rfl
  refine zxgoi (vx_runV (As := [.int p1, .int p2]) (rest := [.ref o]) ⟨hx, hb, hml, hown, hts⟩ (c_X7_apart l D a cJ cI cO cB R b pr tm cn sm ac re kn F p1 p2 cd1 r2 pr_3 tm_4 cn_5 hlt e6 H.size) (cwV 2 hts gL_apart_X7_apart rfl rfl rfl hdV_X7_apart ⟨Nat.le_of_ble_eq_true rfl, Nat.le_of_ble_eq_true rfl⟩) (zxpreV hE hS (va_free hD hS hA [0, 1, 2, 3, 4, 5, 6, 7, 8, 9, 10, 11, 12, 13, 14, 15, 16, 17, 18, 19, 20] rfl) (q0 := 0) (ci := 7) (T := TX7) (N := 9) hK hPc hDc rfl rfl [.int p1, .int p2]) rfl rfl hl.1 rfl (lv_room (Nat.le_of_ble_eq_true rfl)) dL_apart_4 ⟨Nat.le_of_ble_eq_true rfl, Nat.le_of_ble_eq_true rfl⟩) (va_free hD hS hA [0, 1, 2, 3, 4, 5, 6, 7, 8, 9, 10, 11, 12, 13, 14, 15, 16, 17, 18, 19, 20] rfl) (zjs (wn := (cW a cJ cI cO R b pr_3 tm_4 cn_5 sm ac re kn ++ ([(o, .inr (8, [.long on, os]))]))) [1, 2, 3, 4, 5, 6, 7, 8, 9, 10, 11, 12, 13, 14, 15, 16, 17, 18, 19, 20, 21, 0] (zjF (wr := ([(o, .inr (8, [.long on, os]))] : va_W)) hP hD hS hA [0, 1, 2, 3, 4, 5, 6, 7, 8, 9, 10, 11, 12, 13, 14, 15, 16, 17, 18, 19, 20] [21] rfl rfl (by decide) (by decide)) rfl (by decide)) hS (fun k04 => ?_) (fun k04 H locs hP hD hS => ?_)
  · intro ce q9 H locs hP hD hS h7 h8 h9
    replace hP : va_P D vwCl (cW a cJ cI cO R b pr_3 tm_4 cn_5 sm ac re kn ++ ([(o, .inr (8, [.long on, os]))])) H := hP
    replace hD : va_D A (cW a cJ cI cO R b pr_3 tm_4 cn_5 sm ac re kn ++ ([(o, .inr (8, [.long on, os]))])) := hD
    replace h := zif_f h k04
    by_cases e24 : cd1 = 2
    · replace h := zif_t h e24
      subst e24
      refine vx_catch hown [] ⟨0, 11, 14, 21⟩ [] (htab.trans rfl) (fun z hz => nomatch hz) rfl (by decide) kc_21 (va_Nw.use rfl hE.2.2.1.2.2.2.2.2.2.1) h7 h8 h9 ?_
      refine lv_astore (lv' := [(4, .ref q9), (0, .ref (a 0)), (1, .int p1), (2, .int p2), (3, .ref o)]) hx hb dL_apart_14 hl (by decide) rfl (fun ls hl => ?_)
      refine lv_iconst (v := (1 : Int32)) hx hb dL_apart_16 (by decide) ?_
      have g0 := Option.some.inj h
      obtain ⟨h1, g1⟩ := Prod.mk.inj g0
      obtain ⟨h2, g2⟩ := Prod.mk.inj g1
      obtain ⟨h3, g3⟩ := Prod.mk.inj g2
      obtain ⟨h4, g4⟩ := Prod.mk.inj g3
      subst h1
      subst h2
      subst h3
      subst h4
      subst g4
      exact W.iret (v := (1 : Int32)) hx hb hr (fun t ht hW => ⟨⟨(1 : Int32), (on, os), rfl, ⟨rfl, rfl⟩, by rw [ht]; exact hP, va_K.moved hW.alike hK, hD⟩, hS.F ht⟩) hS.2.2 dL_apart_17
    · replace h := zif_f h e24
      exact (zno h).elim
  · replace h := zif_t h k04
    replace hP : va_P D vwCl (cW a cJ cI cO R b pr_3 tm_4 cn_5 sm ac re kn ++ ([(o, .inr (8, [.long on, os]))])) H := hP
    replace hD : va_D A (cW a cJ cI cO R b pr_3 tm_4 cn_5 sm ac re kn ++ ([(o, .inr (8, [.long on, os]))])) := hD
    refine lv_i2l (v := r2.toInt64) hx hb dL_apart_7 rfl ?_
    refine va_putN (D := D) (ci := 8) (v := .long (r2.toInt64)) (ty := .long) (C := RX8) (T := TX8) (N := 2) hx hb hts kwX8 tyX8 tyX8_ok nmX8 hown hK hP hD hS 21 rfl rfl 0 (by decide) (va_Nw.use rfl hKk.2.1) (fun _ h9 => h9) rfl (by decide +kernel) rfl rfl (Nat.le_of_ble_eq_true rfl) dL_apart_8 (fun H locs hP hD hS => ?_)
    replace hP : va_P D vwCl (cW a cJ cI cO R b pr_3 tm_4 cn_5 sm ac re kn ++ ([(o, .inr (8, [.long (r2.toInt64), os]))])) H := hP
    replace hD : va_D A (cW a cJ cI cO R b pr_3 tm_4 cn_5 sm ac re kn ++ ([(o, .inr (8, [.long (r2.toInt64), os]))])) := hD
    refine lv_goto (tgt := 18) hx hb dL_apart_11 (by decide) ?_
    refine lv_iconst (v := (0 : Int32)) hx hb dL_apart_18 (by decide) ?_
    have g0 := Option.some.inj h
    obtain ⟨h1, g1⟩ := Prod.mk.inj g0
    obtain ⟨h2, g2⟩ := Prod.mk.inj g1
    obtain ⟨h3, g3⟩ := Prod.mk.inj g2
    obtain ⟨h4, g4⟩ := Prod.mk.inj g3
    subst h1
    subst h2
    subst h3
    subst h4
    subst g4
    exact W.iret (v := (0 : Int32)) hx hb hr (fun t ht hW => ⟨⟨(0 : Int32), ((r2.toInt64), os), rfl, ⟨rfl, rfl⟩, by rw [ht]; exact hP, va_K.moved hW.alike hK, hD⟩, hS.F ht⟩) hS.2.2 dL_apart_19

noncomputable def p_L_shared (F : Nat) (p1 : Int32) (p2 : Int32) (p3 : Bool) (on : Int64) : Option (Int32 × Int64) := (zb2 (p_X7_shared F p1 p2 p3) (fun cd1 r2 => (if cd1 = 0 then (some ((0 : Int32), (r2.toInt64))) else (if cd1 = 2 then (some ((1 : Int32), on)) else none))))
theorem hdS_L_shared : yL_shared.cls ≠ "java/lang/invoke/MethodHandle" ∧ yL_shared.cls ≠ "java/lang/invoke/VarHandle" ∧ (parseMethodDescriptor yL_shared.desc).map (fun d => d.parameters.length) = some 5 := by decide +kernel
set_option maxHeartbeats 4000000 in
set_option maxRecDepth 100000 in
theorem c_L_shared (l : Launch) (D : va_G) (a : Nat → Nat) (cJ cI cO cB : ClassId) (R : Nat → Nat → Int64) (b : Bool) (pr : Nat → Int32) (tm : Nat → Int32) (cn : Int32) (sm : Nat → Int32) (ac : Int32) (re : Int32) (kn : Int32) (F : Nat) (p1 : Int32) (p2 : Int32) (p3 : Bool) (o : Nat) (on : Int64) (os : Value) (r : Int32) (on' : Int64) (hlt : l.stackTraces = false) (h : p_L_shared F p1 p2 p3 on = some (r, on')) : zMw l yL_shared wsL_shared 8 135 2 12 D (zT cJ cI cO cB) [.ref (a 0), .int p1, .int p2, .int (z01 p3), .ref o] (cW a cJ cI cO R b pr tm cn sm ac re kn ++ ([(o, .inr (8, [.long on, os]))])) (fun u => (cW a cJ cI cO R b pr tm cn sm ac re kn ++ ([(o, .inr (8, [.long (u.1), u.2]))]))) r on' := by
  intro sz
  delta zQw
  refine va_MetW (cc := cL_shared) (maxL := 6) (ret := (some .int)) (by decide) rfl ?_
  intro p e s m args below meth c s₁ B hml hv
  obtain ⟨rfl, ⟨⟨hsz, hP, hK, hD0⟩, hE⟩, hKk⟩ := hv
  have hx := B.exec
  have hb := B.bytes
  have hr := B.returns
  have hts := atoms_spec (ws := wsL_shared) B.pre
  have hown : s.vm.findClass RL = some m.cls := findClass_of_methodNamed B.named
  have hlocks := B.notSynchronized
  subst hsz
  have hD := hD0.self (sz := s.heap.size)
  generalize hAe : va_A (cW a cJ cI cO R b pr tm cn sm ac re kn ++ ([(o, .inr (8, [.long on, os]))])) s.heap.size = A at hD hE ⊢
  have hA : ∀ q : Nat, s.heap.size ≤ q → A q := fun q h => by rw [← hAe]; exact Or.inr h
  have hS : va_S A s.heap s.heap [] := va_S.rf
  have hl := lv_entry ([.ref (a 0), .int p1, .int p2, .int (z01 p3), .ref o]) (n := 6) (Nat.le_of_ble_eq_true rfl)
  rw [lg_entry_eq]
  generalize (lg_sl ([.ref (a 0), .int p1, .int p2, .int (z01 p3), .ref o]) ++ List.replicate (6 - (lg_sl ([.ref (a 0), .int p1, .int p2, .int (z01 p3), .ref o])).length) Slot.unset).toArray = ls at hl ⊢
  replace hl : lv_has ls 6 [(0, .ref (a 0)), (1, .int p1), (2, .int p2), (3, .int (z01 p3)), (4, .ref o)] := hl
  have kwX8 : ∀ w ∈ u_ws RX8 TX8 2, w ∈ wsL_shared := fun w h => List.mem_cons_of_mem _ (List.mem_append_left _ (List.mem_append_right _ h))
  have htab := vx_table (x := yL_shared) B (hts (.codeWith yL_shared cL_shared 6 (some .int) [(0, 13, 16, 21)]) (zmem 0 rfl))
  have kc_21 := hts (.classLink RL 21 (zxn 2)) (zmem 1 rfl)
  replace h : (zb2 (p_X7_shared F p1 p2 p3) (fun cd1 r2 => (if cd1 = 0 then (some ((0 : Int32), (r2.toInt64))) else (if cd1 = 2 then (some ((1 : Int32), on)) else none)))) = some (r, on') := h
  obtain ⟨H, hHe⟩ : ∃ H, H = s.heap := ⟨_, rfl⟩
  rw [← hHe] at hP
  replace hS : va_S A s.heap H [] := by rw [hHe]; exact hS
  refine zheap hHe ?_
  refine lv_aload hx hb dL_shared_0 (lv_at hl 4 rfl) ?_
  refine lv_aload_n hx hb dL_shared_2 rfl (lv_at hl 0 rfl) ?_
  refine lv_iload_n hx hb dL_shared_3 rfl (lv_at hl 1 rfl) ?_
  refine lv_iload_n hx hb dL_shared_4 rfl (lv_at hl 2 rfl) ?_
  refine lv_iload_n hx hb dL_shared_5 rfl (lv_at hl 3 rfl) ?_
  obtain ⟨cd1, r2, e3, h⟩ := zb2_some h
  have hPc := zsub (wn := (cW a cJ cI cO R b pr tm cn sm ac re kn)) hP [0, 1, 2, 3, 4, 5, 6, 7, 8, 9, 10, 11, 12, 13, 14, 15, 16, 17, 18, 19, 20] rfl
  have hDc := hD.sub (ws' := (cW a cJ cI cO R b pr tm cn sm ac re kn)) [0, 1, 2, 3, 4, 5, 6, 7, 8, 9, 10, 11, 12, 13, 14, 15, 16, 17, 18, 19, 20] (by decide) rfl
  refine zxgoi (vx_runV (As := [.int p1, .int p2, .int (z01 p3)]) (rest := [.ref o]) ⟨hx, hb, hml, hown, hts⟩ (c_X7_shared l D a cJ cI cO cB R b pr tm cn sm ac re kn F p1 p2 p3 cd1 r2 hlt e3 H.size) (cwV 3 hts gL_shared_X7_shared rfl rfl rfl hdV_X7_shared ⟨Nat.le_of_ble_eq_true rfl, Nat.le_of_ble_eq_true rfl⟩) (zxpreV hE hS (va_free hD hS hA [0, 1, 2, 3, 4, 5, 6, 7, 8, 9, 10, 11, 12, 13, 14, 15, 16, 17, 18, 19, 20] rfl) (q0 := 0) (ci := 7) (T := TX7) (N := 9) hK hPc hDc rfl rfl [.int p1, .int p2, .int (z01 p3)]) rfl rfl hl.1 rfl (lv_room (Nat.le_of_ble_eq_true rfl)) dL_shared_6 ⟨Nat.le_of_ble_eq_true rfl, Nat.le_of_ble_eq_true rfl⟩) (va_free hD hS hA [0, 1, 2, 3, 4, 5, 6, 7, 8, 9, 10, 11, 12, 13, 14, 15, 16, 17, 18, 19, 20] rfl) (zjs (wn := (cW a cJ cI cO R b pr tm cn sm ac re kn ++ ([(o, .inr (8, [.long on, os]))]))) [1, 2, 3, 4, 5, 6, 7, 8, 9, 10, 11, 12, 13, 14, 15, 16, 17, 18, 19, 20, 21, 0] (zjF (wr := ([(o, .inr (8, [.long on, os]))] : va_W)) hP hD hS hA [0, 1, 2, 3, 4, 5, 6, 7, 8, 9, 10, 11, 12, 13, 14, 15, 16, 17, 18, 19, 20] [21] rfl rfl (by decide) (by decide)) rfl (by decide)) hS (fun k06 => ?_) (fun k06 H locs hP hD hS => ?_)
  · intro ce q9 H locs hP hD hS h7 h8 h9
    replace hP : va_P D vwCl (cW a cJ cI cO R b pr tm cn sm ac re kn ++ ([(o, .inr (8, [.long on, os]))])) H := hP
    replace hD : va_D A (cW a cJ cI cO R b pr tm cn sm ac re kn ++ ([(o, .inr (8, [.long on, os]))])) := hD
    replace h := zif_f h k06
    by_cases e26 : cd1 = 2
    · replace h := zif_t h e26
      subst e26
      refine vx_catch hown [] ⟨0, 13, 16, 21⟩ [] (htab.trans rfl) (fun z hz => nomatch hz) rfl (by decide) kc_21 (va_Nw.use rfl hE.2.2.1.2.2.2.2.2.2.1) h7 h8 h9 ?_
      refine lv_astore (lv' := [(5, .ref q9), (0, .ref (a 0)), (1, .int p1), (2, .int p2), (3, .int (z01 p3)), (4, .ref o)]) hx hb dL_shared_16 hl (by decide) rfl (fun ls hl => ?_)
      refine lv_iconst (v := (1 : Int32)) hx hb dL_shared_18 (by decide) ?_
      have g0 := Option.some.inj h
      obtain ⟨h1, g1⟩ := Prod.mk.inj g0
      subst h1
      subst g1
      exact W.iret (v := (1 : Int32)) hx hb hr (fun t ht hW => ⟨⟨(1 : Int32), (on, os), rfl, ⟨rfl, rfl⟩, by rw [ht]; exact hP, va_K.moved hW.alike hK, hD⟩, hS.F ht⟩) hS.2.2 dL_shared_19
    · replace h := zif_f h e26
      exact (zno h).elim
  · replace h := zif_t h k06
    replace hP : va_P D vwCl (cW a cJ cI cO R b pr tm cn sm ac re kn ++ ([(o, .inr (8, [.long on, os]))])) H := hP
    replace hD : va_D A (cW a cJ cI cO R b pr tm cn sm ac re kn ++ ([(o, .inr (8, [.long on, os]))])) := hD
    refine lv_i2l (v := r2.toInt64) hx hb dL_shared_9 rfl ?_
    refine va_putN (D := D) (ci := 8) (v := .long (r2.toInt64)) (ty := .long) (C := RX8) (T := TX8) (N := 2) hx hb hts kwX8 tyX8 tyX8_ok nmX8 hown hK hP hD hS 21 rfl rfl 0 (by decide) (va_Nw.use rfl hKk.2.1) (fun _ h9 => h9) rfl (by decide +kernel) rfl rfl (Nat.le_of_ble_eq_true rfl) dL_shared_10 (fun H locs hP hD hS => ?_)
    replace hP : va_P D vwCl (cW a cJ cI cO R b pr tm cn sm ac re kn ++ ([(o, .inr (8, [.long (r2.toInt64), os]))])) H := hP
    replace hD : va_D A (cW a cJ cI cO R b pr tm cn sm ac re kn ++ ([(o, .inr (8, [.long (r2.toInt64), os]))])) := hD
    refine lv_goto (tgt := 20) hx hb dL_shared_13 (by decide) ?_
    refine lv_iconst (v := (0 : Int32)) hx hb dL_shared_20 (by decide) ?_
    have g0 := Option.some.inj h
    obtain ⟨h1, g1⟩ := Prod.mk.inj g0
    subst h1
    subst g1
    exact W.iret (v := (0 : Int32)) hx hb hr (fun t ht hW => ⟨⟨(0 : Int32), ((r2.toInt64), os), rfl, ⟨rfl, rfl⟩, by rw [ht]; exact hP, va_K.moved hW.alike hK, hD⟩, hS.F ht⟩) hS.2.2 dL_shared_21

noncomputable def p_L_divisor (F : Nat) (R : Nat → Nat → Int64) (b : Bool) (pr : Nat → Int32) (tm : Nat → Int32) (cn : Int32) (sm : Nat → Int32) (ac : Int32) (re : Int32) (kn : Int32) (p1 : Int32) (p2 : Int32) (on : Int64) : Option (Int32 × Int64 × (Nat → Nat → Int64) × Bool × (Nat → Int32) × (Nat → Int32) × Int32 × (Nat → Int32) × Int32 × Int32 × Int32) := (zb11 (p_X7_divisor F R b pr tm cn sm ac re kn p1 p2) (fun cd1 r2 R_3 b_4 pr_5 tm_6 cn_7 sm_8 ac_9 re_10 kn_11 => (if cd1 = 0 then (some ((0 : Int32), (r2.toInt64), R_3, b_4, pr_5, tm_6, cn_7, sm_8, ac_9, re_10, kn_11)) else (if cd1 = 2 then (some ((1 : Int32), on, R_3, b_4, pr_5, tm_6, cn_7, sm_8, ac_9, re_10, kn_11)) else none))))
theorem hdS_L_divisor : yL_divisor.cls ≠ "java/lang/invoke/MethodHandle" ∧ yL_divisor.cls ≠ "java/lang/invoke/VarHandle" ∧ (parseMethodDescriptor yL_divisor.desc).map (fun d => d.parameters.length) = some 4 := by decide +kernel
set_option maxHeartbeats 4000000 in
set_option maxRecDepth 100000 in
theorem c_L_divisor (l : Launch) (D : va_G) (a : Nat → Nat) (cJ cI cO cB : ClassId) (R : Nat → Nat → Int64) (b : Bool) (pr : Nat → Int32) (tm : Nat → Int32) (cn : Int32) (sm : Nat → Int32) (ac : Int32) (re : Int32) (kn : Int32) (F : Nat) (p1 : Int32) (p2 : Int32) (o : Nat) (on : Int64) (os : Value) (r : Int32) (on' : Int64) (R' : Nat → Nat → Int64) (b' : Bool) (pr' : Nat → Int32) (tm' : Nat → Int32) (cn' : Int32) (sm' : Nat → Int32) (ac' : Int32) (re' : Int32) (kn' : Int32) (hlt : l.stackTraces = false) (h : p_L_divisor F R b pr tm cn sm ac re kn p1 p2 on = some (r, on', R', b', pr', tm', cn', sm', ac', re', kn')) : zMw l yL_divisor wsL_divisor 8 136 2 12 D (zT cJ cI cO cB) [.ref (a 0), .int p1, .int p2, .ref o] (cW a cJ cI cO R b pr tm cn sm ac re kn ++ ([(o, .inr (8, [.long on, os]))])) (fun u => (cW a cJ cI cO R' b' pr' tm' cn' sm' ac' re' kn' ++ ([(o, .inr (8, [.long (u.1), u.2]))]))) r on' := by
  intro sz
  delta zQw
  refine va_MetW (cc := cL_divisor) (maxL := 5) (ret := (some .int)) (by decide) rfl ?_
  intro p e s m args below meth c s₁ B hml hv
  obtain ⟨rfl, ⟨⟨hsz, hP, hK, hD0⟩, hE⟩, hKk⟩ := hv
  have hx := B.exec
  have hb := B.bytes
  have hr := B.returns
  have hts := atoms_spec (ws := wsL_divisor) B.pre
  have hown : s.vm.findClass RL = some m.cls := findClass_of_methodNamed B.named
  have hlocks := B.notSynchronized
  subst hsz
  have hD := hD0.self (sz := s.heap.size)
  generalize hAe : va_A (cW a cJ cI cO R b pr tm cn sm ac re kn ++ ([(o, .inr (8, [.long on, os]))])) s.heap.size = A at hD hE ⊢
  have hA : ∀ q : Nat, s.heap.size ≤ q → A q := fun q h => by rw [← hAe]; exact Or.inr h
  have hS : va_S A s.heap s.heap [] := va_S.rf
  have hl := lv_entry ([.ref (a 0), .int p1, .int p2, .ref o]) (n := 5) (Nat.le_of_ble_eq_true rfl)
  rw [lg_entry_eq]
  generalize (lg_sl ([.ref (a 0), .int p1, .int p2, .ref o]) ++ List.replicate (5 - (lg_sl ([.ref (a 0), .int p1, .int p2, .ref o])).length) Slot.unset).toArray = ls at hl ⊢
  replace hl : lv_has ls 5 [(0, .ref (a 0)), (1, .int p1), (2, .int p2), (3, .ref o)] := hl
  have kwX8 : ∀ w ∈ u_ws RX8 TX8 2, w ∈ wsL_divisor := fun w h => List.mem_cons_of_mem _ (List.mem_append_left _ (List.mem_append_right _ h))
  have htab := vx_table (x := yL_divisor) B (hts (.codeWith yL_divisor cL_divisor 5 (some .int) [(0, 11, 14, 21)]) (zmem 0 rfl))
  have kc_21 := hts (.classLink RL 21 (zxn 2)) (zmem 1 rfl)
  replace h : (zb11 (p_X7_divisor F R b pr tm cn sm ac re kn p1 p2) (fun cd1 r2 R_3 b_4 pr_5 tm_6 cn_7 sm_8 ac_9 re_10 kn_11 => (if cd1 = 0 then (some ((0 : Int32), (r2.toInt64), R_3, b_4, pr_5, tm_6, cn_7, sm_8, ac_9, re_10, kn_11)) else (if cd1 = 2 then (some ((1 : Int32), on, R_3, b_4, pr_5, tm_6, cn_7, sm_8, ac_9, re_10, kn_11)) else none)))) = some (r, on', R', b', pr', tm', cn', sm', ac', re', kn') := h
  obtain ⟨H, hHe⟩ : ∃ H, H = s.heap := ⟨_, rfl⟩
  rw [← hHe] at hP
  replace hS : va_S A s.heap H [] := by rw [hHe]; exact hS
  refine zheap hHe ?_
  refine lv_aload_n hx hb dL_divisor_0 rfl (lv_at hl 3 rfl) ?_
  refine lv_aload_n hx hb dL_divisor_1 rfl (lv_at hl 0 rfl) ?_
  refine lv_iload_n hx hb dL_divisor_2 rfl (lv_at hl 1 rfl) ?_
  refine lv_iload_n hx hb dL_divisor_3 rfl (lv_at hl 2 rfl) ?_
  obtain ⟨cd1, r2, R_3, b_4, pr_5, tm_6, cn_7, sm_8, ac_9, re_10, kn_11, e12, h⟩ := zb11_some h
  have hPc := zsub (wn := (cW a cJ cI cO R b pr tm cn sm ac re kn)) hP [0, 1, 2, 3, 4, 5, 6, 7, 8, 9, 10, 11, 12, 13, 14, 15, 16, 17, 18, 19, 20] rfl
  have hDc := hD.sub (ws' := (cW a cJ cI cO R b pr tm cn sm ac re kn)) [0, 1, 2, 3, 4, 5, 6, 7, 8, 9, 10, 11, 12, 13, 14, 15, 16, 17, 18, 19, 20] (by decide) rfl
  refine zxgoi (vx_runV (As := [.int p1, .int p2]) (rest := [.ref o]) ⟨hx, hb, hml, hown, hts⟩ (c_X7_divisor l D a cJ cI cO cB R b pr tm cn sm ac re kn F p1 p2 cd1 r2 R_3 b_4 pr_5 tm_6 cn_7 sm_8 ac_9 re_10 kn_11 hlt e12 H.size) (cwV 2 hts gL_divisor_X7_divisor rfl rfl rfl hdV_X7_divisor ⟨Nat.le_of_ble_eq_true rfl, Nat.le_of_ble_eq_true rfl⟩) (zxpreV hE hS (va_free hD hS hA [0, 1, 2, 3, 4, 5, 6, 7, 8, 9, 10, 11, 12, 13, 14, 15, 16, 17, 18, 19, 20] rfl) (q0 := 0) (ci := 7) (T := TX7) (N := 9) hK hPc hDc rfl rfl [.int p1, .int p2]) rfl rfl hl.1 rfl (lv_room (Nat.le_of_ble_eq_true rfl)) dL_divisor_4 ⟨Nat.le_of_ble_eq_true rfl, Nat.le_of_ble_eq_true rfl⟩) (va_free hD hS hA [0, 1, 2, 3, 4, 5, 6, 7, 8, 9, 10, 11, 12, 13, 14, 15, 16, 17, 18, 19, 20] rfl) (zjs (wn := (cW a cJ cI cO R_3 b_4 pr_5 tm_6 cn_7 sm_8 ac_9 re_10 kn_11 ++ ([(o, .inr (8, [.long on, os]))]))) [1, 2, 3, 4, 5, 6, 7, 8, 9, 10, 11, 12, 13, 14, 15, 16, 17, 18, 19, 20, 21, 0] (zjF (wr := ([(o, .inr (8, [.long on, os]))] : va_W)) hP hD hS hA [0, 1, 2, 3, 4, 5, 6, 7, 8, 9, 10, 11, 12, 13, 14, 15, 16, 17, 18, 19, 20] [21] rfl rfl (by decide) (by decide)) rfl (by decide)) hS (fun k04 => ?_) (fun k04 H locs hP hD hS => ?_)
  · intro ce q9 H locs hP hD hS h7 h8 h9
    replace hP : va_P D vwCl (cW a cJ cI cO R_3 b_4 pr_5 tm_6 cn_7 sm_8 ac_9 re_10 kn_11 ++ ([(o, .inr (8, [.long on, os]))])) H := hP
    replace hD : va_D A (cW a cJ cI cO R_3 b_4 pr_5 tm_6 cn_7 sm_8 ac_9 re_10 kn_11 ++ ([(o, .inr (8, [.long on, os]))])) := hD
    replace h := zif_f h k04
    by_cases e24 : cd1 = 2
    · replace h := zif_t h e24
      subst e24
      refine vx_catch hown [] ⟨0, 11, 14, 21⟩ [] (htab.trans rfl) (fun z hz => nomatch hz) rfl (by decide) kc_21 (va_Nw.use rfl hE.2.2.1.2.2.2.2.2.2.1) h7 h8 h9 ?_
      refine lv_astore (lv' := [(4, .ref q9), (0, .ref (a 0)), (1, .int p1), (2, .int p2), (3, .ref o)]) hx hb dL_divisor_14 hl (by decide) rfl (fun ls hl => ?_)
      refine lv_iconst (v := (1 : Int32)) hx hb dL_divisor_16 (by decide) ?_
      have g0 := Option.some.inj h
      obtain ⟨h1, g1⟩ := Prod.mk.inj g0
      obtain ⟨h2, g2⟩ := Prod.mk.inj g1
      obtain ⟨h3, g3⟩ := Prod.mk.inj g2
      obtain ⟨h4, g4⟩ := Prod.mk.inj g3
      obtain ⟨h5, g5⟩ := Prod.mk.inj g4
      obtain ⟨h6, g6⟩ := Prod.mk.inj g5
      obtain ⟨h7, g7⟩ := Prod.mk.inj g6
      obtain ⟨h8, g8⟩ := Prod.mk.inj g7
      obtain ⟨h9, g9⟩ := Prod.mk.inj g8
      obtain ⟨h10, g10⟩ := Prod.mk.inj g9
      subst h1
      subst h2
      subst h3
      subst h4
      subst h5
      subst h6
      subst h7
      subst h8
      subst h9
      subst h10
      subst g10
      exact W.iret (v := (1 : Int32)) hx hb hr (fun t ht hW => ⟨⟨(1 : Int32), (on, os), rfl, ⟨rfl, rfl⟩, by rw [ht]; exact hP, va_K.moved hW.alike hK, hD⟩, hS.F ht⟩) hS.2.2 dL_divisor_17
    · replace h := zif_f h e24
      exact (zno h).elim
  · replace h := zif_t h k04
    replace hP : va_P D vwCl (cW a cJ cI cO R_3 b_4 pr_5 tm_6 cn_7 sm_8 ac_9 re_10 kn_11 ++ ([(o, .inr (8, [.long on, os]))])) H := hP
    replace hD : va_D A (cW a cJ cI cO R_3 b_4 pr_5 tm_6 cn_7 sm_8 ac_9 re_10 kn_11 ++ ([(o, .inr (8, [.long on, os]))])) := hD
    refine lv_i2l (v := r2.toInt64) hx hb dL_divisor_7 rfl ?_
    refine va_putN (D := D) (ci := 8) (v := .long (r2.toInt64)) (ty := .long) (C := RX8) (T := TX8) (N := 2) hx hb hts kwX8 tyX8 tyX8_ok nmX8 hown hK hP hD hS 21 rfl rfl 0 (by decide) (va_Nw.use rfl hKk.2.1) (fun _ h9 => h9) rfl (by decide +kernel) rfl rfl (Nat.le_of_ble_eq_true rfl) dL_divisor_8 (fun H locs hP hD hS => ?_)
    replace hP : va_P D vwCl (cW a cJ cI cO R_3 b_4 pr_5 tm_6 cn_7 sm_8 ac_9 re_10 kn_11 ++ ([(o, .inr (8, [.long (r2.toInt64), os]))])) H := hP
    replace hD : va_D A (cW a cJ cI cO R_3 b_4 pr_5 tm_6 cn_7 sm_8 ac_9 re_10 kn_11 ++ ([(o, .inr (8, [.long (r2.toInt64), os]))])) := hD
    refine lv_goto (tgt := 18) hx hb dL_divisor_11 (by decide) ?_
    refine lv_iconst (v := (0 : Int32)) hx hb dL_divisor_18 (by decide) ?_
    have g0 := Option.some.inj h
    obtain ⟨h1, g1⟩ := Prod.mk.inj g0
    obtain ⟨h2, g2⟩ := Prod.mk.inj g1
    obtain ⟨h3, g3⟩ := Prod.mk.inj g2
    obtain ⟨h4, g4⟩ := Prod.mk.inj g3
    obtain ⟨h5, g5⟩ := Prod.mk.inj g4
    obtain ⟨h6, g6⟩ := Prod.mk.inj g5
    obtain ⟨h7, g7⟩ := Prod.mk.inj g6
    obtain ⟨h8, g8⟩ := Prod.mk.inj g7
    obtain ⟨h9, g9⟩ := Prod.mk.inj g8
    obtain ⟨h10, g10⟩ := Prod.mk.inj g9
    subst h1
    subst h2
    subst h3
    subst h4
    subst h5
    subst h6
    subst h7
    subst h8
    subst h9
    subst h10
    subst g10
    exact W.iret (v := (0 : Int32)) hx hb hr (fun t ht hW => ⟨⟨(0 : Int32), ((r2.toInt64), os), rfl, ⟨rfl, rfl⟩, by rw [ht]; exact hP, va_K.moved hW.alike hK, hD⟩, hS.F ht⟩) hS.2.2 dL_divisor_19

noncomputable def p_L_powers (F : Nat) (pr : Nat → Int32) (tm : Nat → Int32) (cn : Int32) (p1 : Int32) (on : Int64) : Option (Int32 × Int64 × (Nat → Int32) × (Nat → Int32) × Int32) := (zb4 (p_X7_powers F pr tm cn p1) (fun cd1 pr_2 tm_3 cn_4 => (if cd1 = 0 then (some ((0 : Int32), on, pr_2, tm_3, cn_4)) else (if cd1 = 2 then (some ((1 : Int32), on, pr_2, tm_3, cn_4)) else none))))
theorem hdS_L_powers : yL_powers.cls ≠ "java/lang/invoke/MethodHandle" ∧ yL_powers.cls ≠ "java/lang/invoke/VarHandle" ∧ (parseMethodDescriptor yL_powers.desc).map (fun d => d.parameters.length) = some 3 := by decide +kernel
set_option maxHeartbeats 4000000 in
set_option maxRecDepth 100000 in
theorem c_L_powers (l : Launch) (D : va_G) (a : Nat → Nat) (cJ cI cO cB : ClassId) (R : Nat → Nat → Int64) (b : Bool) (pr : Nat → Int32) (tm : Nat → Int32) (cn : Int32) (sm : Nat → Int32) (ac : Int32) (re : Int32) (kn : Int32) (F : Nat) (p1 : Int32) (o : Nat) (on : Int64) (os : Value) (r : Int32) (on' : Int64) (pr' : Nat → Int32) (tm' : Nat → Int32) (cn' : Int32) (hlt : l.stackTraces = false) (h : p_L_powers F pr tm cn p1 on = some (r, on', pr', tm', cn')) : zMw l yL_powers wsL_powers 8 215 20 2430 D (zT cJ cI cO cB) [.ref (a 0), .int p1, .ref o] (cW a cJ cI cO R b pr tm cn sm ac re kn ++ ([(o, .inr (8, [.long on, os]))])) (fun u => (cW a cJ cI cO R b pr' tm' cn' sm ac re kn ++ ([(o, .inr (8, [.long (u.1), u.2]))]))) r on' := by
  intro sz
  delta zQw
  refine va_MetW (cc := cL_powers) (maxL := 4) (ret := (some .int)) (by decide) rfl ?_
  intro p e s m args below meth c s₁ B hml hv
  obtain ⟨rfl, ⟨⟨hsz, hP, hK, hD0⟩, hE⟩, hKk⟩ := hv
  have hx := B.exec
  have hb := B.bytes
  have hr := B.returns
  have hts := atoms_spec (ws := wsL_powers) B.pre
  have hown : s.vm.findClass RL = some m.cls := findClass_of_methodNamed B.named
  have hlocks := B.notSynchronized
  subst hsz
  have hD := hD0.self (sz := s.heap.size)
  generalize hAe : va_A (cW a cJ cI cO R b pr tm cn sm ac re kn ++ ([(o, .inr (8, [.long on, os]))])) s.heap.size = A at hD hE ⊢
  have hA : ∀ q : Nat, s.heap.size ≤ q → A q := fun q h => by rw [← hAe]; exact Or.inr h
  have hS : va_S A s.heap s.heap [] := va_S.rf
  have hl := lv_entry ([.ref (a 0), .int p1, .ref o]) (n := 4) (Nat.le_of_ble_eq_true rfl)
  rw [lg_entry_eq]
  generalize (lg_sl ([.ref (a 0), .int p1, .ref o]) ++ List.replicate (4 - (lg_sl ([.ref (a 0), .int p1, .ref o])).length) Slot.unset).toArray = ls at hl ⊢
  replace hl : lv_has ls 4 [(0, .ref (a 0)), (1, .int p1), (2, .ref o)] := hl
  have kwX8 : ∀ w ∈ u_ws RX8 TX8 2, w ∈ wsL_powers := fun w h => List.mem_cons_of_mem _ (List.mem_append_left _ (List.mem_append_right _ h))
  have htab := vx_table (x := yL_powers) B (hts (.codeWith yL_powers cL_powers 4 (some .int) [(0, 9, 12, 21)]) (zmem 0 rfl))
  have kc_21 := hts (.classLink RL 21 (zxn 2)) (zmem 1 rfl)
  replace h : (zb4 (p_X7_powers F pr tm cn p1) (fun cd1 pr_2 tm_3 cn_4 => (if cd1 = 0 then (some ((0 : Int32), on, pr_2, tm_3, cn_4)) else (if cd1 = 2 then (some ((1 : Int32), on, pr_2, tm_3, cn_4)) else none)))) = some (r, on', pr', tm', cn') := h
  obtain ⟨H, hHe⟩ : ∃ H, H = s.heap := ⟨_, rfl⟩
  rw [← hHe] at hP
  replace hS : va_S A s.heap H [] := by rw [hHe]; exact hS
  refine zheap hHe ?_
  refine lv_aload_n hx hb dL_powers_0 rfl (lv_at hl 2 rfl) ?_
  refine lv_aload_n hx hb dL_powers_1 rfl (lv_at hl 0 rfl) ?_
  refine lv_iload_n hx hb dL_powers_2 rfl (lv_at hl 1 rfl) ?_
  obtain ⟨cd1, pr_2, tm_3, cn_4, e5, h⟩ := zb4_some h
  have hPc := zsub (wn := (cW a cJ cI cO R b pr tm cn sm ac re kn)) hP [0, 1, 2, 3, 4, 5, 6, 7, 8, 9, 10, 11, 12, 13, 14, 15, 16, 17, 18, 19, 20] rfl
  have hDc := hD.sub (ws' := (cW a cJ cI cO R b pr tm cn sm ac re kn)) [0, 1, 2, 3, 4, 5, 6, 7, 8, 9, 10, 11, 12, 13, 14, 15, 16, 17, 18, 19, 20] (by decide) rfl
  refine zxgos (vx_runV (As := [.int p1]) (rest := [.ref o]) ⟨hx, hb, hml, hown, hts⟩ (c_X7_powers l D a cJ cI cO cB R b pr tm cn sm ac re kn F p1 cd1 pr_2 tm_3 cn_4 hlt e5 H.size) (cwV 1 hts gL_powers_X7_powers rfl rfl rfl hdV_X7_powers ⟨Nat.le_of_ble_eq_true rfl, Nat.le_of_ble_eq_true rfl⟩) (zxpreV hE hS (va_free hD hS hA [0, 1, 2, 3, 4, 5, 6, 7, 8, 9, 10, 11, 12, 13, 14, 15, 16, 17, 18, 19, 20] rfl) (q0 := 0) (ci := 7) (T := TX7) (N := 9) hK hPc hDc rfl rfl [.int p1]) rfl rfl hl.1 rfl (lv_room (Nat.le_of_ble_eq_true rfl)) dL_powers_3 ⟨Nat.le_of_ble_eq_true rfl, Nat.le_of_ble_eq_true rfl⟩) (va_free hD hS hA [0, 1, 2, 3, 4, 5, 6, 7, 8, 9, 10, 11, 12, 13, 14, 15, 16, 17, 18, 19, 20] rfl) (zjs (wn := (cW a cJ cI cO R b pr_2 tm_3 cn_4 sm ac re kn ++ ([(o, .inr (8, [.long on, os]))]))) [1, 2, 3, 4, 5, 6, 7, 8, 9, 10, 11, 12, 13, 14, 15, 16, 17, 18, 19, 20, 21, 0] (zjF (wr := ([(o, .inr (8, [.long on, os]))] : va_W)) hP hD hS hA [0, 1, 2, 3, 4, 5, 6, 7, 8, 9, 10, 11, 12, 13, 14, 15, 16, 17, 18, 19, 20] [21] rfl rfl (by decide) (by decide)) rfl (by decide)) hS (fun k03 => ?_) (fun k03 s6 H locs hP hD hS => ?_)
  · intro ce q9 H locs hP hD hS h7 h8 h9
    replace hP : va_P D vwCl (cW a cJ cI cO R b pr_2 tm_3 cn_4 sm ac re kn ++ ([(o, .inr (8, [.long on, os]))])) H := hP
    replace hD : va_D A (cW a cJ cI cO R b pr_2 tm_3 cn_4 sm ac re kn ++ ([(o, .inr (8, [.long on, os]))])) := hD
    replace h := zif_f h k03
    by_cases e23 : cd1 = 2
    · replace h := zif_t h e23
      subst e23
      refine vx_catch hown [] ⟨0, 9, 12, 21⟩ [] (htab.trans rfl) (fun z hz => nomatch hz) rfl (by decide) kc_21 (va_Nw.use rfl hE.2.2.1.2.2.2.2.2.2.1) h7 h8 h9 ?_
      refine lv_astore_n (lv' := [(3, .ref q9), (0, .ref (a 0)), (1, .int p1), (2, .ref o)]) hx hb dL_powers_12 rfl hl (by decide) rfl (fun ls hl => ?_)
      refine lv_iconst (v := (1 : Int32)) hx hb dL_powers_13 (by decide) ?_
      have g0 := Option.some.inj h
      obtain ⟨h1, g1⟩ := Prod.mk.inj g0
      obtain ⟨h2, g2⟩ := Prod.mk.inj g1
      obtain ⟨h3, g3⟩ := Prod.mk.inj g2
      obtain ⟨h4, g4⟩ := Prod.mk.inj g3
      subst h1
      subst h2
      subst h3
      subst h4
      subst g4
      exact W.iret (v := (1 : Int32)) hx hb hr (fun t ht hW => ⟨⟨(1 : Int32), (on, os), rfl, ⟨rfl, rfl⟩, by rw [ht]; exact hP, va_K.moved hW.alike hK, hD⟩, hS.F ht⟩) hS.2.2 dL_powers_14
    · replace h := zif_f h e23
      exact (zno h).elim
  · replace h := zif_t h k03
    replace hP : va_P D vwCl (cW a cJ cI cO R b pr_2 tm_3 cn_4 sm ac re kn ++ ([(o, .inr (8, [.long on, os]))])) H := hP
    replace hD : va_D A (cW a cJ cI cO R b pr_2 tm_3 cn_4 sm ac re kn ++ ([(o, .inr (8, [.long on, os]))])) := hD
    refine va_putN (D := D) (ci := 8) (v := .ref s6) (ty := (.object "java/lang/String")) (C := RX8) (T := TX8) (N := 2) hx hb hts kwX8 tyX8 tyX8_ok nmX8 hown hK hP hD hS 21 rfl rfl 1 (by decide) (va_Nw.use rfl hKk.2.2.1) (fun _ h9 => h9) rfl (by decide +kernel) rfl rfl (Nat.le_of_ble_eq_true rfl) dL_powers_6 (fun H locs hP hD hS => ?_)
    replace hP : va_P D vwCl (cW a cJ cI cO R b pr_2 tm_3 cn_4 sm ac re kn ++ ([(o, .inr (8, [.long on, .ref s6]))])) H := hP
    replace hD : va_D A (cW a cJ cI cO R b pr_2 tm_3 cn_4 sm ac re kn ++ ([(o, .inr (8, [.long on, .ref s6]))])) := hD
    refine lv_goto (tgt := 15) hx hb dL_powers_9 (by decide) ?_
    refine lv_iconst (v := (0 : Int32)) hx hb dL_powers_15 (by decide) ?_
    have g0 := Option.some.inj h
    obtain ⟨h1, g1⟩ := Prod.mk.inj g0
    obtain ⟨h2, g2⟩ := Prod.mk.inj g1
    obtain ⟨h3, g3⟩ := Prod.mk.inj g2
    obtain ⟨h4, g4⟩ := Prod.mk.inj g3
    subst h1
    subst h2
    subst h3
    subst h4
    subst g4
    exact W.iret (v := (0 : Int32)) hx hb hr (fun t ht hW => ⟨⟨(0 : Int32), (on, .ref s6), rfl, ⟨rfl, rfl⟩, by rw [ht]; exact hP, va_K.moved hW.alike hK, hD⟩, hS.F ht⟩) hS.2.2 dL_powers_16

noncomputable def p_L_house (ac : Int32) (re : Int32) (kn : Int32) (p1 : Int32) (on : Int64) : Option (Int32 × Int64) := (zb2 (p_X7_house ac re kn p1) (fun cd1 r2 => (if cd1 = 0 then (some ((0 : Int32), (r2.toInt64))) else (if cd1 = 2 then (some ((1 : Int32), on)) else none))))
theorem hdS_L_house : yL_house.cls ≠ "java/lang/invoke/MethodHandle" ∧ yL_house.cls ≠ "java/lang/invoke/VarHandle" ∧ (parseMethodDescriptor yL_house.desc).map (fun d => d.parameters.length) = some 3 := by decide +kernel
set_option maxHeartbeats 4000000 in
set_option maxRecDepth 100000 in
theorem c_L_house (l : Launch) (D : va_G) (a : Nat → Nat) (cJ cI cO cB : ClassId) (R : Nat → Nat → Int64) (b : Bool) (pr : Nat → Int32) (tm : Nat → Int32) (cn : Int32) (sm : Nat → Int32) (ac : Int32) (re : Int32) (kn : Int32) (p1 : Int32) (o : Nat) (on : Int64) (os : Value) (r : Int32) (on' : Int64) (hlt : l.stackTraces = false) (h : p_L_house ac re kn p1 on = some (r, on')) : zMw l yL_house wsL_house 8 133 1 6 D (zT cJ cI cO cB) [.ref (a 0), .int p1, .ref o] (cW a cJ cI cO R b pr tm cn sm ac re kn ++ ([(o, .inr (8, [.long on, os]))])) (fun u => (cW a cJ cI cO R b pr tm cn sm ac re kn ++ ([(o, .inr (8, [.long (u.1), u.2]))]))) r on' := by
  intro sz
  delta zQw
  refine va_MetW (cc := cL_house) (maxL := 4) (ret := (some .int)) (by decide) rfl ?_
  intro p e s m args below meth c s₁ B hml hv
  obtain ⟨rfl, ⟨⟨hsz, hP, hK, hD0⟩, hE⟩, hKk⟩ := hv
  have hx := B.exec
  have hb := B.bytes
  have hr := B.returns
  have hts := atoms_spec (ws := wsL_house) B.pre
  have hown : s.vm.findClass RL = some m.cls := findClass_of_methodNamed B.named
  have hlocks := B.notSynchronized
  subst hsz
  have hD := hD0.self (sz := s.heap.size)
  generalize hAe : va_A (cW a cJ cI cO R b pr tm cn sm ac re kn ++ ([(o, .inr (8, [.long on, os]))])) s.heap.size = A at hD hE ⊢
  have hA : ∀ q : Nat, s.heap.size ≤ q → A q := fun q h => by rw [← hAe]; exact Or.inr h
  have hS : va_S A s.heap s.heap [] := va_S.rf
  have hl := lv_entry ([.ref (a 0), .int p1, .ref o]) (n := 4) (Nat.le_of_ble_eq_true rfl)
  rw [lg_entry_eq]
  generalize (lg_sl ([.ref (a 0), .int p1, .ref o]) ++ List.replicate (4 - (lg_sl ([.ref (a 0), .int p1, .ref o])).length) Slot.unset).toArray = ls at hl ⊢
  replace hl : lv_has ls 4 [(0, .ref (a 0)), (1, .int p1), (2, .ref o)] := hl
  have kwX8 : ∀ w ∈ u_ws RX8 TX8 2, w ∈ wsL_house := fun w h => List.mem_cons_of_mem _ (List.mem_append_left _ (List.mem_append_right _ h))
  have htab := vx_table (x := yL_house) B (hts (.codeWith yL_house cL_house 4 (some .int) [(0, 10, 13, 21)]) (zmem 0 rfl))
  have kc_21 := hts (.classLink RL 21 (zxn 2)) (zmem 1 rfl)
  replace h : (zb2 (p_X7_house ac re kn p1) (fun cd1 r2 => (if cd1 = 0 then (some ((0 : Int32), (r2.toInt64))) else (if cd1 = 2 then (some ((1 : Int32), on)) else none)))) = some (r, on') := h
  obtain ⟨H, hHe⟩ : ∃ H, H = s.heap := ⟨_, rfl⟩
  rw [← hHe] at hP
  replace hS : va_S A s.heap H [] := by rw [hHe]; exact hS
  refine zheap hHe ?_
  refine lv_aload_n hx hb dL_house_0 rfl (lv_at hl 2 rfl) ?_
  refine lv_aload_n hx hb dL_house_1 rfl (lv_at hl 0 rfl) ?_
  refine lv_iload_n hx hb dL_house_2 rfl (lv_at hl 1 rfl) ?_
  obtain ⟨cd1, r2, e3, h⟩ := zb2_some h
  have hPc := zsub (wn := (cW a cJ cI cO R b pr tm cn sm ac re kn)) hP [0, 1, 2, 3, 4, 5, 6, 7, 8, 9, 10, 11, 12, 13, 14, 15, 16, 17, 18, 19, 20] rfl
  have hDc := hD.sub (ws' := (cW a cJ cI cO R b pr tm cn sm ac re kn)) [0, 1, 2, 3, 4, 5, 6, 7, 8, 9, 10, 11, 12, 13, 14, 15, 16, 17, 18, 19, 20] (by decide) rfl
  refine zxgoi (vx_runV (As := [.int p1]) (rest := [.ref o]) ⟨hx, hb, hml, hown, hts⟩ (c_X7_house l D a cJ cI cO cB R b pr tm cn sm ac re kn p1 cd1 r2 hlt e3 H.size) (cwV 1 hts gL_house_X7_house rfl rfl rfl hdV_X7_house ⟨Nat.le_of_ble_eq_true rfl, Nat.le_of_ble_eq_true rfl⟩) (zxpreV hE hS (va_free hD hS hA [0, 1, 2, 3, 4, 5, 6, 7, 8, 9, 10, 11, 12, 13, 14, 15, 16, 17, 18, 19, 20] rfl) (q0 := 0) (ci := 7) (T := TX7) (N := 9) hK hPc hDc rfl rfl [.int p1]) rfl rfl hl.1 rfl (lv_room (Nat.le_of_ble_eq_true rfl)) dL_house_3 ⟨Nat.le_of_ble_eq_true rfl, Nat.le_of_ble_eq_true rfl⟩) (va_free hD hS hA [0, 1, 2, 3, 4, 5, 6, 7, 8, 9, 10, 11, 12, 13, 14, 15, 16, 17, 18, 19, 20] rfl) (zjs (wn := (cW a cJ cI cO R b pr tm cn sm ac re kn ++ ([(o, .inr (8, [.long on, os]))]))) [1, 2, 3, 4, 5, 6, 7, 8, 9, 10, 11, 12, 13, 14, 15, 16, 17, 18, 19, 20, 21, 0] (zjF (wr := ([(o, .inr (8, [.long on, os]))] : va_W)) hP hD hS hA [0, 1, 2, 3, 4, 5, 6, 7, 8, 9, 10, 11, 12, 13, 14, 15, 16, 17, 18, 19, 20] [21] rfl rfl (by decide) (by decide)) rfl (by decide)) hS (fun k03 => ?_) (fun k03 H locs hP hD hS => ?_)
  · intro ce q9 H locs hP hD hS h7 h8 h9
    replace hP : va_P D vwCl (cW a cJ cI cO R b pr tm cn sm ac re kn ++ ([(o, .inr (8, [.long on, os]))])) H := hP
    replace hD : va_D A (cW a cJ cI cO R b pr tm cn sm ac re kn ++ ([(o, .inr (8, [.long on, os]))])) := hD
    replace h := zif_f h k03
    by_cases e23 : cd1 = 2
    · replace h := zif_t h e23
      subst e23
      refine vx_catch hown [] ⟨0, 10, 13, 21⟩ [] (htab.trans rfl) (fun z hz => nomatch hz) rfl (by decide) kc_21 (va_Nw.use rfl hE.2.2.1.2.2.2.2.2.2.1) h7 h8 h9 ?_
      refine lv_astore_n (lv' := [(3, .ref q9), (0, .ref (a 0)), (1, .int p1), (2, .ref o)]) hx hb dL_house_13 rfl hl (by decide) rfl (fun ls hl => ?_)
      refine lv_iconst (v := (1 : Int32)) hx hb dL_house_14 (by decide) ?_
      have g0 := Option.some.inj h
      obtain ⟨h1, g1⟩ := Prod.mk.inj g0
      subst h1
      subst g1
      exact W.iret (v := (1 : Int32)) hx hb hr (fun t ht hW => ⟨⟨(1 : Int32), (on, os), rfl, ⟨rfl, rfl⟩, by rw [ht]; exact hP, va_K.moved hW.alike hK, hD⟩, hS.F ht⟩) hS.2.2 dL_house_15
    · replace h := zif_f h e23
      exact (zno h).elim
  · replace h := zif_t h k03
    replace hP : va_P D vwCl (cW a cJ cI cO R b pr tm cn sm ac re kn ++ ([(o, .inr (8, [.long on, os]))])) H := hP
    replace hD : va_D A (cW a cJ cI cO R b pr tm cn sm ac re kn ++ ([(o, .inr (8, [.long on, os]))])) := hD
    refine lv_i2l (v := r2.toInt64) hx hb dL_house_6 rfl ?_
    refine va_putN (D := D) (ci := 8) (v := .long (r2.toInt64)) (ty := .long) (C := RX8) (T := TX8) (N := 2) hx hb hts kwX8 tyX8 tyX8_ok nmX8 hown hK hP hD hS 21 rfl rfl 0 (by decide) (va_Nw.use rfl hKk.2.1) (fun _ h9 => h9) rfl (by decide +kernel) rfl rfl (Nat.le_of_ble_eq_true rfl) dL_house_7 (fun H locs hP hD hS => ?_)
    replace hP : va_P D vwCl (cW a cJ cI cO R b pr tm cn sm ac re kn ++ ([(o, .inr (8, [.long (r2.toInt64), os]))])) H := hP
    replace hD : va_D A (cW a cJ cI cO R b pr tm cn sm ac re kn ++ ([(o, .inr (8, [.long (r2.toInt64), os]))])) := hD
    refine lv_goto (tgt := 16) hx hb dL_house_10 (by decide) ?_
    refine lv_iconst (v := (0 : Int32)) hx hb dL_house_16 (by decide) ?_
    have g0 := Option.some.inj h
    obtain ⟨h1, g1⟩ := Prod.mk.inj g0
    subst h1
    subst g1
    exact W.iret (v := (0 : Int32)) hx hb hr (fun t ht hW => ⟨⟨(0 : Int32), ((r2.toInt64), os), rfl, ⟨rfl, rfl⟩, by rw [ht]; exact hP, va_K.moved hW.alike hK, hD⟩, hS.F ht⟩) hS.2.2 dL_house_17

