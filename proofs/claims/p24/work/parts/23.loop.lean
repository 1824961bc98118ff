-- ==================== the loop, out of one step
/-- the cells of the law's own: nothing that was there before -/
def zNew (s : State) : Nat → Prop := fun q => s.heap.size ≤ q
set_option maxHeartbeats 4000000 in
set_option maxRecDepth 100000 in
theorem law_loop {p : Program} {l : Launch} {e : Env} {s : State} {m : MethodId} {below : List Frame} {meth : Method} {c : Code} {sc L : Nat} {xs : Nat → Int32} {D : va_G} {cJ cI cO cB : ClassId} (a : Nat → Nat) (q v o : Nat) (F : Nat) (hlt : l.stackTraces = false) (hZ : zLw p s m c sc L xs D (zNew s) cJ cI cO cB) (hr : meth.sig.returnType = ret) (hlocks : meth.locks = false) (hL : L ≤ 320)
    (Inv : zT16 → Prop) (hstep : ∀ (k : Nat) (t : zT16), 5 * k + 5 ≤ L → Inv t → ∃ t', zStep F xs (nI (5 * k)) t = some t' ∧ Inv t') :
    ∀ (r k : Nat), L < 5 * (k + r) + 5 → 5 * k ≤ L → ∀ (t : zT16) (os : Value) (H : Heap) (locs : List Loc) (ls : Array Slot), Inv t → va_P D vwCl (zWd a cJ cI cO q v o t os) H → va_D (zNew s) (zWd a cJ cI cO q v o t os) → va_S (zNew s) s.heap H locs → lv_has ls 7 [(4, .int (nI (5 * k))), (3, .ref o), (2, .ref q), (1, .ref (a 0)), (0, .ref sc)] → W p l e room_1 s m #[.ref sc] below meth c H locs (300 + 9000 * k) (10000 + 100000 * k) (lw_Z below #[Value.ref sc] s) (F0 m 27 ls []) := by
  intro r
  have hZ0 := hZ
  obtain ⟨hx, hb, hml, hown, hts, hK, hE, hKk, hT3, hX, hbl, hbA, hA⟩ := hZ0
  induction r with
  | zero =>
    intro k h1 h2 t os H locs ls hI hP hD hS hl
    refine lv_iload hx hb dL_law_27 (lv_at hl 0 rfl) ?_
    refine lv_aload_n hx hb dL_law_29 rfl (lv_at hl 4 rfl) ?_
    refine va_slen hx hb hX hbl hbA hS dL_law_30 ?_
    refine lv_iconst (v := (5 : Int32)) hx hb dL_law_31 (by decide) ?_
    refine lv_isub hx hb dL_law_32 ?_
    have hq : (Int32.ofNat L - (5 : Int32)).toInt = (L : Int) - (5 : Nat) := pk_sub_toInt (a := L) (b := 5) (by omega) (by omega)
    have hi : (nI (5 * k)).toInt = ((5 * k : Nat) : Int) := nI_toInt (by omega)
    refine lv_icmp_gt (tgt := 1494) hx hb dL_law_33 (by decide) (fun c33 => ?_) (fun c33 => ?_)
    · refine lv_iconst (v := (1 : Int32)) hx hb dL_law_1494 (by decide) ?_
      refine va_forget (fun z hz => hS.2.2 z hz) ?_
      refine W.widen (k := 600128) (n := 7301098) (by omega) (by omega) ?_
      exact lw_ret hx hb hr hlocks dL_law_1495
    · exact absurd (by rw [Int32.lt_iff_toInt_lt, hq, hi]; omega) c33
  | succ r ih =>
    intro k h1 h2 t os H locs ls hI hP hD hS hl
    refine lv_iload hx hb dL_law_27 (lv_at hl 0 rfl) ?_
    refine lv_aload_n hx hb dL_law_29 rfl (lv_at hl 4 rfl) ?_
    refine va_slen hx hb hX hbl hbA hS dL_law_30 ?_
    refine lv_iconst (v := (5 : Int32)) hx hb dL_law_31 (by decide) ?_
    refine lv_isub hx hb dL_law_32 ?_
    have hq : (Int32.ofNat L - (5 : Int32)).toInt = (L : Int) - (5 : Nat) := pk_sub_toInt (a := L) (b := 5) (by omega) (by omega)
    have hi : (nI (5 * k)).toInt = ((5 * k : Nat) : Int) := nI_toInt (by omega)
    refine lv_icmp_gt (tgt := 1494) hx hb dL_law_33 (by decide) (fun c33 => ?_) (fun c33 => ?_)
    · refine lv_iconst (v := (1 : Int32)) hx hb dL_law_1494 (by decide) ?_
      refine va_forget (fun z hz => hS.2.2 z hz) ?_
      refine W.widen (k := 600128) (n := 7301098) (by omega) (by omega) ?_
      exact lw_ret hx hb hr hlocks dL_law_1495
    · have h5 : 5 * k + 5 ≤ L := by
        rcases Nat.lt_or_ge L (5 * k + 5) with h | h
        · exact absurd (by rw [Int32.lt_iff_toInt_lt, hq, hi]; omega) c33
        · exact h
      obtain ⟨t', hst, hI'⟩ := hstep k t h5 hI
      have hix : zIx (nI (5 * k)) L := ⟨vp_in_nI (by omega) (by omega), by rw [show (nI (5 * k) + (1 : Int32)) = nI (5 * k + 1) from nI_add _ 1]; exact vp_in_nI (by omega) (by omega), by rw [show (nI (5 * k) + (2 : Int32)) = nI (5 * k + 2) from nI_add _ 2]; exact vp_in_nI (by omega) (by omega), by rw [show (nI (5 * k) + (3 : Int32)) = nI (5 * k + 3) from nI_add _ 3]; exact vp_in_nI (by omega) (by omega), by rw [show (nI (5 * k) + (4 : Int32)) = nI (5 * k + 4) from nI_add _ 4]; exact vp_in_nI (by omega) (by omega)⟩
      refine law_step a q v o F hlt hZ t t' os (nI (5 * k)) hix (by show _ ≤ 600128; omega) (by show _ ≤ 7301098; omega) hP hD hS hl hst (fun os' H locs ls hP hD hS hl => ?_)
      refine lv_iinc (v := nI (5 * (k + 1))) (lv' := [(4, .int (nI (5 * (k + 1)))), (3, .ref o), (2, .ref q), (1, .ref (a 0)), (0, .ref sc)]) hx hb dL_law_1488 hl (k := 0) rfl (by rw [show 5 * (k + 1) = 5 * k + 5 by omega]; show nI (5 * k) + nI 5 = nI (5 * k + 5); exact nI_add _ _) (by decide) rfl (fun ls hl => ?_)
      refine lv_goto (tgt := 27) hx hb dL_law_1491 (by decide) ?_
      have e1 : 300 + 9000 * k + 9000 = 300 + 9000 * (k + 1) := by omega
      have e2 : 10000 + 100000 * k + 100000 = 10000 + 100000 * (k + 1) := by omega
      rw [e1, e2]
      exact ih (k + 1) (by omega) (by omega) t' os' H locs ls hI' hP hD hS hl
/-- the tuple at the start -/
def zT0 : zT16 := (fun _ _ => 0, false, fun _ => 0, fun _ => 0, 0, fun _ => 0, 0, 0, 0, fun _ => 0, false, 0, 0, 0, 0, 0)
set_option maxHeartbeats 4000000 in
set_option maxRecDepth 100000 in
theorem law_start {p : Program} {e : Env} {s : State} {m : MethodId} {below : List Frame} {meth : Method} {c : Code} (l : Launch) (hflags : l.flags = flags0) {sc L : Nat} {xs : Nat → Int32} (hL : L ≤ 320) (C0 : lw_At p s m meth c sc L xs) (F : Nat) (Inv : zT16 → Prop) (hI0 : Inv zT0) (hstep : ∀ (k : Nat) (t : zT16), 5 * k + 5 ≤ L → Inv t → ∃ t', zStep F xs (nI (5 * k)) t = some t' ∧ Inv t') : W p l e room_1 s m #[Value.ref sc] below meth c s.heap [] 0 0 (lw_Z below #[Value.ref sc] s) (entryFrame m ([Value.ref sc] : List Value).toArray 7) := by
  obtain ⟨hx, hb, hr, hml, hown, hts, hX, hbl, hlocks, hgv⟩ := C0
  have hlt : l.stackTraces = false := by unfold Launch.stackTraces; rw [hflags]; decide
  have hA : ∀ q : Nat, s.heap.size ≤ q → zNew s q := fun _ h => h
  have hnA : ∀ q : Nat, q < s.heap.size → ¬ zNew s q := fun q h => Nat.not_le.mpr h
  obtain ⟨D, cJ, cI, cO, cB, hK⟩ := zenvC hts
  have hE : zE (zNew s) s s.heap := zenvE hts hgv hnA
  have hKk : zK s := zenvK hts hgv
  have hN : zN s := hKk.1
  have hT3 : zT3 (zNew s) s s.heap := zenv3 hts hgv hnA
  have hZ : zLw p s m c sc L xs D (zNew s) cJ cI cO cB := ⟨hx, hb, hml, hown, hts, hK, hE, hKk, hT3, hX, hbl, hnA sc hbl, hA⟩
  have hS : va_S (zNew s) s.heap s.heap [] := va_S.rf
  have hP : va_P D vwCl [] s.heap := zP0
  have hD : va_D (zNew s) [] := zD0
  have hl := lv_entry ([.ref sc]) (n := 7) (Nat.le_of_ble_eq_true rfl)
  rw [lg_entry_eq]
  generalize (lg_sl ([.ref sc]) ++ List.replicate (7 - (lg_sl ([.ref sc])).length) Slot.unset).toArray = ls at hl ⊢
  replace hl : lv_has ls 7 [(0, .ref sc)] := hl
  have kw7 := (by decide +kernel : ∀ w ∈ u_ws RX7 TX7 9, w ∈ lw_tbl)
  have kw8 := (by decide +kernel : ∀ w ∈ u_ws RX8 TX8 2, w ∈ lw_tbl)
  have kw9 := (by decide +kernel : ∀ w ∈ u_ws RX9 TX9 6, w ∈ lw_tbl)
  refine va_new (ci := 7) (fs := [.null, .null, .null, .null, .null, .null, .int 0, .int 0, .int 0]) (C := RX7) (T := TX7) (N := 9) hx hb hts kw7 tyX7 tyX7_ok hown (hts (.classLink RL 8 RX7) (by decide +kernel)) (hts (.instantiable RX7 9) (by decide +kernel)) (hts (.initialized RX7) (by decide +kernel)) hK hP hD hS hA rfl (fun j hj => by rcases (show j = 0 ∨ j = 1 ∨ j = 2 ∨ j = 3 ∨ j = 4 ∨ j = 5 ∨ j = 6 ∨ j = 7 ∨ j = 8 by omega) with rfl | rfl | rfl | rfl | rfl | rfl | rfl | rfl | rfl <;> rfl) (Nat.le_of_ble_eq_true rfl) (Nat.le_of_ble_eq_true rfl) dL_law_0 (fun x H hP hD hS => ?_)
  replace hP : va_P D vwCl ([(x, .inr (7, [.null, .null, .null, .null, .null, .null, .int 0, .int 0, .int 0]))] : va_W) H := hP
  replace hD : va_D (zNew s) ([(x, .inr (7, [.null, .null, .null, .null, .null, .null, .int 0, .int 0, .int 0]))] : va_W) := hD
  refine lv_dup hx hb dL_law_3 rfl ?_
  refine zgoc (va_runI (As := []) (rest := [.ref x]) ⟨hx, hb, hml, hown, hts⟩ (c_X7_init l D cJ cI cO cB x H.size) (cwI 0 hts zl_X7_init rfl rfl rfl (hts (.initialized RX7) (by decide +kernel)) (hts (.methodLink RL 116 yX7_init) (by decide +kernel)) (hts (.instanceMethod yX7_init) (by decide +kernel)) rfl (by decide +kernel) ⟨Nat.le_of_ble_eq_true rfl, Nat.le_of_ble_eq_true rfl⟩) (znpre hN hK hP hD [.ref x]) rfl rfl hl.1 rfl (lv_room (Nat.le_of_ble_eq_true rfl)) dL_law_4 ⟨Nat.le_of_ble_eq_true rfl, Nat.le_of_ble_eq_true rfl⟩) (zfree hD hS hA) (fun u => zjW hD hS hA) hS (fun u H locs hP hD hS => ?_)
  refine lv_astore_n (lv' := [(1, .ref x), (0, .ref sc)]) hx hb dL_law_7 rfl hl (by decide) rfl (fun ls hl => ?_)
  generalize hw1 : (cW (zcons x u) cJ cI cO (fun _ _ => 0) false (fun _ => 0) (fun _ => 0) 0 (fun _ => 0) 0 0 0) = w1 at hP hD
  have hw1l : w1.length = 21 := by rw [← hw1]; rfl
  refine va_new (ci := 9) (fs := [.null, .int 0, .int 0, .int 0, .int 0, .int 0]) (C := RX9) (T := TX9) (N := 6) hx hb hts kw9 tyX9 tyX9_ok hown (hts (.classLink RL 117 RX9) (by decide +kernel)) (hts (.instantiable RX9 6) (by decide +kernel)) (hts (.initialized RX9) (by decide +kernel)) hK hP hD hS hA rfl (fun j hj => by rcases (show j = 0 ∨ j = 1 ∨ j = 2 ∨ j = 3 ∨ j = 4 ∨ j = 5 by omega) with rfl | rfl | rfl | rfl | rfl | rfl <;> rfl) (Nat.le_of_ble_eq_true rfl) (Nat.le_of_ble_eq_true rfl) dL_law_8 (fun q H hP hD hS => ?_)
  refine lv_dup hx hb dL_law_11 rfl ?_
  subst hw1
  have hPc := zsub (wn := ([(q, .inr (9, [.null, .int 0, .int 0, .int 0, .int 0, .int 0]))] : va_W)) hP [21] rfl
  have hDc := hD.sub (ws' := ([(q, .inr (9, [.null, .int 0, .int 0, .int 0, .int 0, .int 0]))] : va_W)) [21] (by decide) rfl
  refine zgoc (va_runI (As := []) (rest := [.ref q]) ⟨hx, hb, hml, hown, hts⟩ (c_X9_init l D cJ cI cO cB q H.size) (cwI 0 hts zl_X9_init rfl rfl rfl (hts (.initialized RX9) (by decide +kernel)) (hts (.methodLink RL 119 yX9_init) (by decide +kernel)) (hts (.instanceMethod yX9_init) (by decide +kernel)) rfl (by decide +kernel) ⟨Nat.le_of_ble_eq_true rfl, Nat.le_of_ble_eq_true rfl⟩) (znpre hN hK hPc hDc [.ref q]) rfl rfl hl.1 rfl (lv_room (Nat.le_of_ble_eq_true rfl)) dL_law_12 ⟨Nat.le_of_ble_eq_true rfl, Nat.le_of_ble_eq_true rfl⟩) (va_free hD hS hA [21] rfl) (fun u9 => zjF (wr := cW (zcons x u) cJ cI cO (fun _ _ => 0) false (fun _ => 0) (fun _ => 0) 0 (fun _ => 0) 0 0 0) hP hD hS hA [21] [0, 1, 2, 3, 4, 5, 6, 7, 8, 9, 10, 11, 12, 13, 14, 15, 16, 17, 18, 19, 20] rfl rfl (by decide) (by decide)) hS (fun u9 H locs hP hD hS => ?_)
  replace hP : va_P D vwCl (cW (zcons x u) cJ cI cO (fun _ _ => 0) false (fun _ => 0) (fun _ => 0) 0 (fun _ => 0) 0 0 0 ++ mW q (u9 0) cJ (fun _ => 0) false 0 0 0 0) H := hP
  replace hD : va_D (zNew s) (cW (zcons x u) cJ cI cO (fun _ _ => 0) false (fun _ => 0) (fun _ => 0) 0 (fun _ => 0) 0 0 0 ++ mW q (u9 0) cJ (fun _ => 0) false 0 0 0 0) := hD
  refine lv_astore_n (lv' := [(2, .ref q), (1, .ref x), (0, .ref sc)]) hx hb dL_law_15 rfl hl (by decide) rfl (fun ls hl => ?_)
  refine va_new (ci := 8) (fs := [.long 0, .null]) (C := RX8) (T := TX8) (N := 2) hx hb hts kw8 tyX8 tyX8_ok hown (hts (.classLink RL 14 RX8) (by decide +kernel)) (hts (.instantiable RX8 2) (by decide +kernel)) (hts (.initialized RX8) (by decide +kernel)) hK hP hD hS hA rfl (fun j hj => by rcases (show j = 0 ∨ j = 1 by omega) with rfl | rfl <;> rfl) (Nat.le_of_ble_eq_true rfl) (Nat.le_of_ble_eq_true rfl) dL_law_16 (fun o H hP hD hS => ?_)
  refine lv_dup hx hb dL_law_19 rfl ?_
  have hPc := zsub (wn := ([(o, .inr (8, [.long 0, .null]))] : va_W)) hP [23] rfl
  have hDc := hD.sub (ws' := ([(o, .inr (8, [.long 0, .null]))] : va_W)) [23] (by decide) rfl
  refine zgoc (va_runIN (As := []) (rest := [.ref o]) ⟨hx, hb, hml, hown, hts⟩ (c_X8_init l D cJ cI cO cB o H.size) ⟨va_cnB 0 hts zl_X8_init_n120 rfl rfl rfl (va_Nw.of rfl (hts (.methodLinkNest RL 120 yX8_init RL) (by decide +kernel))) (hts (.initialized RX8) (by decide +kernel)) (by decide +kernel) ⟨Nat.le_of_ble_eq_true rfl, Nat.le_of_ble_eq_true rfl⟩, rfl, hts (.instanceMethod yX8_init) (by decide +kernel)⟩ (znpre hN hK hPc hDc [.ref o]) rfl rfl hl.1 rfl (lv_room (Nat.le_of_ble_eq_true rfl)) dL_law_20 ⟨Nat.le_of_ble_eq_true rfl, Nat.le_of_ble_eq_true rfl⟩) (va_free hD hS hA [23] rfl) (fun u8 => zjF (wr := cW (zcons x u) cJ cI cO (fun _ _ => 0) false (fun _ => 0) (fun _ => 0) 0 (fun _ => 0) 0 0 0 ++ mW q (u9 0) cJ (fun _ => 0) false 0 0 0 0) hP hD hS hA [23] [0, 1, 2, 3, 4, 5, 6, 7, 8, 9, 10, 11, 12, 13, 14, 15, 16, 17, 18, 19, 20, 21, 22] rfl rfl (by decide) (by decide)) hS (fun u8 H locs hP hD hS => ?_)
  replace hP : va_P D vwCl (zWd (zcons x u) cJ cI cO q (u9 0) o zT0 .null) H := hP
  replace hD : va_D (zNew s) (zWd (zcons x u) cJ cI cO q (u9 0) o zT0 .null) := hD
  refine lv_astore_n (lv' := [(3, .ref o), (2, .ref q), (1, .ref x), (0, .ref sc)]) hx hb dL_law_23 rfl hl (by decide) rfl (fun ls hl => ?_)
  refine lv_iconst (v := (0 : Int32)) hx hb dL_law_24 (by decide) ?_
  refine lv_istore (lv' := [(4, .int (0 : Int32)), (3, .ref o), (2, .ref q), (1, .ref x), (0, .ref sc)]) hx hb dL_law_25 hl (by decide) rfl (fun ls hl => ?_)
  refine W.widen (k := 300 + 9000 * 0) (n := 10000 + 100000 * 0) (Nat.le_of_ble_eq_true rfl) (Nat.le_of_ble_eq_true rfl) ?_
  exact law_loop (zcons x u) q (u9 0) o F hlt hZ hr hlocks hL Inv hstep 64 0 (by omega) (Nat.zero_le L) zT0 .null H locs ls hI0 hP hD hS (by rw [show nI (5 * 0) = (0 : Int32) from nI_0]; exact hl)
