-- ==================== texts: a new String, the reference's three texts
abbrev zQss (D : va_G) (tys : List (ClassId × FieldType)) (W0 : va_W) (W1 : Nat → Nat → va_W) (sz : Nat) := va_Qr (fun (_ : Nat) => True) (fun u x t => zB D tys (va_A W0 sz) (W1 x u) t) (va_A W0 sz)
abbrev zMss (l : Launch) (y : MethodName) (ws : List Cond) (fr lc mc ms : Nat) (Pre : Nat → State → Prop) (av : List Value) (D : va_G) (tys : List (ClassId × FieldType)) (W0 : va_W) (W1 : Nat → Nat → va_W) : Prop := ∀ sz, Met l y ws { frames := fr, cells := mc, slots := ms, locals := lc } (va_Pc av (Pre sz)) (zQss D tys W0 W1 sz) mc ms (va_A W0 sz)
/-- the reference's texts: nothing, a blank, the sign of powers -/
def zbt (k : Nat) : Nat → Int32 := fun _ => if k = 176 then 32 else 94
def zT3 (A : Nat → Prop) (U : State) (H : Heap) : Prop := (∃ st, vk_R RX9 133 "" st U ∧ zSt st 0 (zbt 133) A U H) ∧ (∃ st, vk_R RX9 176 " " st U ∧ zSt st 1 (zbt 176) A U H) ∧ (∃ st, vk_R RX9 181 "^" st U ∧ zSt st 1 (zbt 181) A U H)
theorem zT3.same {A : Nat → Prop} {u U : State} {H : Heap} (hv : U.vm = u.vm) (h : zT3 A u H) : zT3 A U H := by
  obtain ⟨⟨a, a1, a2⟩, ⟨b, b1, b2⟩, ⟨c, c1, c2⟩⟩ := h
  exact ⟨⟨a, a1.same hv, a2.moved (zalike hv)⟩, ⟨b, b1.same hv, b2.moved (zalike hv)⟩, ⟨c, c1.same hv, c2.moved (zalike hv)⟩⟩
theorem zT3.kept {A : Nat → Prop} {U : State} {H H1 : Heap} (h : zT3 A U H) (hq : ∀ a : Nat, a < H.size → ¬ A a → H1[a]? = H[a]?) : zT3 A U H1 := by
  obtain ⟨⟨a, a1, a2⟩, ⟨b, b1, b2⟩, ⟨c, c1, c2⟩⟩ := h
  exact ⟨⟨a, a1, a2.kept hq⟩, ⟨b, b1, b2.kept hq⟩, ⟨c, c1, c2.kept hq⟩⟩
theorem zT3.narrow {A B : Nat → Prop} {U : State} {H : Heap} (h : zT3 A U H) (hAB : ∀ q, B q → A q) : zT3 B U H := by
  obtain ⟨⟨a, a1, a2⟩, ⟨b, b1, b2⟩, ⟨c, c1, c2⟩⟩ := h
  exact ⟨⟨a, a1, a2.narrow hAB⟩, ⟨b, b1, b2.narrow hAB⟩, ⟨c, c1, c2.narrow hAB⟩⟩
theorem zT3.warm {A : Nat → Prop} {s U : State} {H : Heap} (hW : s.WarmedH U.vm) (h : zT3 A s H) : zT3 A U H := by
  obtain ⟨⟨a, a1, a2⟩, ⟨b, b1, b2⟩, ⟨c, c1, c2⟩⟩ := h
  exact ⟨⟨a, a1.warm hW, a2.moved hW.alike⟩, ⟨b, b1.warm hW, b2.moved hW.alike⟩, ⟨c, c1.warm hW, c2.moved hW.alike⟩⟩
theorem zT3.call {A B : Nat → Prop} {s U : State} {H0 H : Heap} {locs : List Loc} (h : zT3 A s H0) (hS : va_S A H0 H locs) (hB : ∀ q, B q → A q) (hU : U.heap = H) (hW : s.WarmedH U.vm) : zT3 B U U.heap := by
  rw [hU]
  exact ((h.kept hS.2.1).narrow hB).warm hW
abbrev zP3 (D : va_G) (tys : List (ClassId × FieldType)) (ws : va_W) (sz : Nat) (U : State) : Prop := zPx D tys ws sz U ∧ zT3 (va_A ws sz) U U.heap
abbrev zPxn (D : va_G) (tys : List (ClassId × FieldType)) (ws : va_W) (sz : Nat) (U : State) : Prop := zPx D tys ws sz U ∧ zN U
abbrev zMxsN (l : Launch) (y : MethodName) (ws : List Cond) (fr lc mc ms : Nat) (D : va_G) (tys : List (ClassId × FieldType)) (av : List Value) (W0 W1 : va_W) (cd : Nat) : Prop := ∀ sz, vx_Met l y ws { frames := fr, cells := mc, slots := ms, locals := lc } (va_Pc av (zPxn D tys W0 sz)) (zQxs D tys W0 W1 cd sz) (zX D tys W0 W1 cd sz) mc ms (va_A W0 sz)
section ZSTR
variable {p : Program} {l : Launch} {e : Env} {R : Room} {s : State} {m : MethodId} {args : Array Value} {below : List Frame} {meth : Method} {c : Code} {H : Heap} {locs : List Loc} {cells slots : Nat} {Q : State → Prop}
variable {pc : Nat} {ls : Array Slot} {rest st0 : List Value} {av : Array Value} {A : Nat → Prop} {H0 : Heap} {mc ms : Nat} {D : va_G} {tys : List (ClassId × FieldType)} {wc ws : va_W} {a : Nat} {cc : ByteArray} {cJ cI cO cB : ClassId}
theorem zgoss {w1 wn : Nat → Nat → va_W} (hr : va_Run p l e R s m args below meth c H locs cells slots mc ms (F0 m pc ls st0) rest (zQss D tys wc w1 H.size av) (va_A wc H.size)) (hf : ∀ q, va_A wc H.size q → A q) (hj : ∀ x u, zJ D A H wc (w1 x u) (wn x u)) (hS : va_S A H0 H locs)
    (kk : ∀ (x u : Nat) (H1 : Heap) (locs1 : List Loc), va_P D vwCl (wn x u) H1 → va_D A (wn x u) → va_S A H0 H1 locs1 → W p l e R s m args below meth c H1 locs1 (cells + mc) (slots + ms) Q (F0 m (pc + 3) ls (.ref x :: rest))) : W p l e R s m args below meth c H locs cells slots Q (F0 m pc ls st0) := by
  refine va_callr hr hS (fun q _ h => hf q h) hf (fun u ra t H1 locs1 ht hvm hw hB hz hk hS1 => ?_)
  subst ht
  obtain ⟨g1, g2⟩ := hj ra u _ hk hB.1 hB.2.2
  exact kk _ _ _ _ g1 g2 hS1
/-- a String of the world, that the callee doesn't hold among its cells -/
theorem zSt.ofW {st sv sn : Nat} {sf : Nat → Int32} {Ts : List Cond} (hts : ∀ w ∈ Ts, w.before args s = true) (hin : ∀ w ∈ u_ws RJ0 TJ0 4, w ∈ Ts) (hK : va_K D vwCl (zT cJ cI cO cB) s) (hP : va_P D vwCl ws H) (hD : va_D A ws) (isC : List Nat) (hC : isC.map (fun i => ws[i]?) = wc.map some) (k k' : Nat) (hs : ws[k]? = some (st, .inr (0, [.ref sv, .int 0, .int 0, .int 0]))) (hv : ws[k']? = some (sv, .inl (cB, sn, .inl sf))) (hk : k ∉ isC) (hk' : k' ∉ isC) : zSt st sn sf (va_A wc H.size) s H := by
  have hno : ∀ (j : Nat) (q : Nat × va_E), ws[j]? = some q → j ∉ isC → ¬ va_A wc H.size q.1 := by
    intro j q hj hn hA
    rcases hA with ⟨i, e, hi⟩ | hA
    · have h1 : (wc.map some)[i]? = some (some (q.1, e)) := by rw [List.getElem?_map, hi]; rfl
      rw [← hC, List.getElem?_map] at h1
      cases h2 : isC[i]? with
      | none => rw [h2] at h1; cases h1
      | some z =>
        rw [h2] at h1
        have h3 : ws[z]? = some (q.1, e) := Option.some.inj h1
        have h4 := hD.1 j z q (q.1, e) hj h3 rfl
        exact hn (h4 ▸ List.mem_of_getElem? h2)
    · exact absurd (hP j q hj).lt (Nat.not_lt.mpr hA)
  obtain ⟨r, h1, cell, q1, q2, q3, q4⟩ := hP k _ hs
  have hr : r = (RJ0, TJ0, 4) := (Option.some.inj h1).symm
  subst hr
  obtain ⟨hSl, hfc, kC, hkC, hkind⟩ := hK.1 0 (RJ0, TJ0, 4) rfl
  have hns := hno k _ hs hk
  have hnv := hno k' _ hv hk'
  have hval := hP k' _ hv
  have harr := hK.2 3 (cB, .byte) rfl
  refine ⟨sv, ⟨cell, q1, by rw [q3]; rfl, by rw [q2]; exact hfc, hns⟩, ?_, ?_, ?_⟩
  · obtain ⟨cf, kf, fi, f, hi, hsl⟩ := hSl 1 (by decide)
    refine ⟨cf, kf, fi, f, cell, hi, (u_facts hfc hkC (u_lays (k := 1) hts hin (by decide)) hi).1, q1, (by rw [q3]; intro h; cases h), ?_, hns⟩
    rw [hsl, q4 1 (by decide)]
    rfl
  · obtain ⟨cf, kf, fi, f, hi, hsl⟩ := hSl 0 (by decide)
    refine ⟨cf, kf, fi, f, cell, hi, (u_facts hfc hkC (u_lays (k := 0) hts hin (by decide)) hi).1, q1, (by rw [q3]; intro h; cases h), ?_, hns⟩
    rw [hsl, q4 0 (by decide)]
    rfl
  · refine ⟨_, hval, ?_, ?_, ?_, ?_, ?_, hnv⟩
    · exact harr.1 sn (fun j => .int (sf j))
    · exact fun h => by cases h
    · exact Nat.le_of_eq (arrV_size _ _ _).symm
    · show (arrV cB sn _).slots.size.toInt32 = _
      rw [arrV_size]
    · exact fun j hj => arrV_read _ _ hj
end ZSTR
noncomputable def p_J5_getValue_6d5f1 : Option Unit := (some ())
theorem hdU_J5_getValue_6d5f1 : "java/lang/AbstractStringBuilder" ≠ "java/lang/invoke/MethodHandle" ∧ "java/lang/AbstractStringBuilder" ≠ "java/lang/invoke/VarHandle" ∧ (parseMethodDescriptor "()[B").map (fun d => d.parameters.length) = some 0 := by decide +kernel
set_option maxHeartbeats 4000000 in
set_option maxRecDepth 100000 in
theorem c_J5_getValue_6d5f1 (l : Launch) (D : va_G) (sb : Nat) (cJ cI cO cB : ClassId) (bv : Nat) (bc : Nat) (bf : Nat → Int32) (bm : Bool) (bn : Int32) (h : p_J5_getValue_6d5f1 = some ()) : zGr l yJ5_getValue_6d5f1 wsJ5_getValue_6d5f1 0 0 0 0 (zPx D (zT cJ cI cO cB) (sW sb cB bv bc bf bm bn)) [.ref sb] D (zT cJ cI cO cB) (sW sb cB bv bc bf bm bn) (sW sb cB bv bc bf bm bn) bv := by
  intro sz
  delta zQr
  refine Met.ofW (cc := cJ5_getValue_6d5f1) (maxL := 1) (ret := (some (.array .byte))) (by decide) rfl ?_
  intro p e s m args below meth c s₁ B hml hv
  obtain ⟨rfl, ⟨hsz, hP, hK, hD0⟩, hE⟩ := hv
  have hx := B.exec
  have hb := B.bytes
  have hr := B.returns
  have hts := atoms_spec (ws := wsJ5_getValue_6d5f1) B.pre
  have hown : s.vm.findClass RJ5 = some m.cls := findClass_of_methodNamed B.named
  have hlocks := B.notSynchronized
  subst hsz
  have hD := hD0.self (sz := s.heap.size)
  generalize hAe : va_A (sW sb cB bv bc bf bm bn) s.heap.size = A at hD hE ⊢
  have hA : ∀ q : Nat, s.heap.size ≤ q → A q := fun q h => by rw [← hAe]; exact Or.inr h
  have hS : va_S A s.heap s.heap [] := va_S.rf
  have hl := lv_entry ([.ref sb]) (n := 1) (Nat.le_of_ble_eq_true rfl)
  rw [lg_entry_eq]
  generalize (lg_sl ([.ref sb]) ++ List.replicate (1 - (lg_sl ([.ref sb])).length) Slot.unset).toArray = ls at hl ⊢
  replace hl : lv_has ls 1 [(0, .ref sb)] := hl
  have kwJ4 : ∀ w ∈ u_ws RJ4 TJ4 4, w ∈ wsJ5_getValue_6d5f1 := fun w h => List.mem_cons_of_mem _ (List.mem_append_right _ h)
  have kf_15 := hts (.fieldLink RJ5 15 "java/lang/AbstractStringBuilder" "value" "[B") (zmem 1 rfl)
  replace h : (some ()) = some () := h
  obtain ⟨H, hHe⟩ : ∃ H, H = s.heap := ⟨_, rfl⟩
  rw [← hHe] at hP
  replace hS : va_S A s.heap H [] := by rw [hHe]; exact hS
  refine zheap hHe ?_
  refine lv_aload_n hx hb dJ5_getValue_6d5f1_0 rfl (lv_at hl 0 rfl) ?_
  refine va_get (D := D) (ci := 1) (v := .ref bv) (C := RJ4) (T := TJ4) (N := 4) hx hb hts kwJ4 hown hK hP 0 rfl rfl 0 (by decide) kf_15 (fun _ h9 => h9) rfl dJ5_getValue_6d5f1_1 ?_
  exact W.aret (v := .ref bv) hx hb hr (Or.inr ⟨_, rfl⟩) (Or.inr ⟨_, rfl⟩) (fun t ht hW => ⟨⟨(), bv, rfl, trivial, rfl, by rw [ht]; exact hP, va_K.moved hW.alike hK, hD⟩, hS.F ht⟩) hS.2.2 dJ5_getValue_6d5f1_4

noncomputable def p_J5_length_8abf5 (bn : Int32) : Option Int32 := (some bn)
theorem hdU2_J5_length_8abf5 : yJ5_length_8abf5.name ≠ "<init>" ∧ (parseMethodDescriptor yJ5_length_8abf5.desc).map (fun d => d.parameters.length) = some 0 := by decide +kernel
set_option maxHeartbeats 4000000 in
set_option maxRecDepth 100000 in
theorem c_J5_length_8abf5 (l : Launch) (D : va_G) (sb : Nat) (cJ cI cO cB : ClassId) (bv : Nat) (bc : Nat) (bf : Nat → Int32) (bm : Bool) (bn : Int32) (r : Int32) (h : p_J5_length_8abf5 bn = some r) : zGi l yJ5_length_8abf5 wsJ5_length_8abf5 0 0 0 0 (zPx D (zT cJ cI cO cB) (sW sb cB bv bc bf bm bn)) [.ref sb] D (zT cJ cI cO cB) (sW sb cB bv bc bf bm bn) (sW sb cB bv bc bf bm bn) r := by
  intro sz
  delta zQi
  refine Met.ofW (cc := cJ5_length_8abf5) (maxL := 1) (ret := (some .int)) (by decide) rfl ?_
  intro p e s m args below meth c s₁ B hml hv
  obtain ⟨rfl, ⟨hsz, hP, hK, hD0⟩, hE⟩ := hv
  have hx := B.exec
  have hb := B.bytes
  have hr := B.returns
  have hts := atoms_spec (ws := wsJ5_length_8abf5) B.pre
  have hown : s.vm.findClass RJ5 = some m.cls := findClass_of_methodNamed B.named
  have hlocks := B.notSynchronized
  subst hsz
  have hD := hD0.self (sz := s.heap.size)
  generalize hAe : va_A (sW sb cB bv bc bf bm bn) s.heap.size = A at hD hE ⊢
  have hA : ∀ q : Nat, s.heap.size ≤ q → A q := fun q h => by rw [← hAe]; exact Or.inr h
  have hS : va_S A s.heap s.heap [] := va_S.rf
  have hl := lv_entry ([.ref sb]) (n := 1) (Nat.le_of_ble_eq_true rfl)
  rw [lg_entry_eq]
  generalize (lg_sl ([.ref sb]) ++ List.replicate (1 - (lg_sl ([.ref sb])).length) Slot.unset).toArray = ls at hl ⊢
  replace hl : lv_has ls 1 [(0, .ref sb)] := hl
  have kwJ4 : ∀ w ∈ u_ws RJ4 TJ4 4, w ∈ wsJ5_length_8abf5 := fun w h => List.mem_cons_of_mem _ (List.mem_append_right _ h)
  have kf_79 := hts (.fieldLink RJ5 79 "java/lang/AbstractStringBuilder" "count" "I") (zmem 1 rfl)
  replace h : (some bn) = some r := h
  obtain ⟨H, hHe⟩ : ∃ H, H = s.heap := ⟨_, rfl⟩
  rw [← hHe] at hP
  replace hS : va_S A s.heap H [] := by rw [hHe]; exact hS
  refine zheap hHe ?_
  refine lv_aload_n hx hb dJ5_length_8abf5_0 rfl (lv_at hl 0 rfl) ?_
  refine va_get (D := D) (ci := 1) (v := .int bn) (C := RJ4) (T := TJ4) (N := 4) hx hb hts kwJ4 hown hK hP 0 rfl rfl 3 (by decide) kf_79 (fun _ h9 => h9) rfl dJ5_length_8abf5_1 ?_
  have h1 := Option.some.inj h
  subst h1
  exact W.iret (v := bn) hx hb hr (fun t ht hW => ⟨⟨bn, (), rfl, rfl, by rw [ht]; exact hP, va_K.moved hW.alike hK, hD⟩, hS.F ht⟩) hS.2.2 dJ5_length_8abf5_4

noncomputable def p_J4_length_8abf5 (bn : Int32) : Option Int32 := (zb1 (p_J5_length_8abf5 bn) (fun r1 => (some r1)))
theorem hdU_J4_length_8abf5 : "java/lang/AbstractStringBuilder" ≠ "java/lang/invoke/MethodHandle" ∧ "java/lang/AbstractStringBuilder" ≠ "java/lang/invoke/VarHandle" ∧ (parseMethodDescriptor "()I").map (fun d => d.parameters.length) = some 0 := by decide +kernel
set_option maxHeartbeats 4000000 in
set_option maxRecDepth 100000 in
theorem c_J4_length_8abf5 (l : Launch) (D : va_G) (sb : Nat) (cJ cI cO cB : ClassId) (bv : Nat) (bc : Nat) (bf : Nat → Int32) (bm : Bool) (bn : Int32) (r : Int32) (h : p_J4_length_8abf5 bn = some r) : zGi l yJ4_length_8abf5 wsJ4_length_8abf5 1 20 0 0 (zPx D (zT cJ cI cO cB) (sW sb cB bv bc bf bm bn)) [.ref sb] D (zT cJ cI cO cB) (sW sb cB bv bc bf bm bn) (sW sb cB bv bc bf bm bn) r := by
  intro sz
  delta zQi
  refine Met.ofW (cc := cJ4_length_8abf5) (maxL := 1) (ret := (some .int)) (by decide) rfl ?_
  intro p e s m args below meth c s₁ B hml hv
  obtain ⟨rfl, ⟨hsz, hP, hK, hD0⟩, hE⟩ := hv
  have hx := B.exec
  have hb := B.bytes
  have hr := B.returns
  have hts := atoms_spec (ws := wsJ4_length_8abf5) B.pre
  have hown : s.vm.findClass RJ4 = some m.cls := findClass_of_methodNamed B.named
  have hlocks := B.notSynchronized
  subst hsz
  have hD := hD0.self (sz := s.heap.size)
  generalize hAe : va_A (sW sb cB bv bc bf bm bn) s.heap.size = A at hD hE ⊢
  have hA : ∀ q : Nat, s.heap.size ≤ q → A q := fun q h => by rw [← hAe]; exact Or.inr h
  have hS : va_S A s.heap s.heap [] := va_S.rf
  have hl := lv_entry ([.ref sb]) (n := 1) (Nat.le_of_ble_eq_true rfl)
  rw [lg_entry_eq]
  generalize (lg_sl ([.ref sb]) ++ List.replicate (1 - (lg_sl ([.ref sb])).length) Slot.unset).toArray = ls at hl ⊢
  replace hl : lv_has ls 1 [(0, .ref sb)] := hl
  replace h : (zb1 (p_J5_length_8abf5 bn) (fun r1 => (some r1))) = some r := h
  obtain ⟨H, hHe⟩ : ∃ H, H = s.heap := ⟨_, rfl⟩
  rw [← hHe] at hP
  replace hS : va_S A s.heap H [] := by rw [hHe]; exact hS
  refine zheap hHe ?_
  refine lv_aload_n hx hb dJ4_length_8abf5_0 rfl (lv_at hl 0 rfl) ?_
  obtain ⟨r1, e2, h⟩ := zb1_some h
  refine zgoi (va_runSU (zclassAt hK) (As := []) (rest := []) ⟨hx, hb, hml, hown, hts⟩ (c_J5_length_8abf5 l D sb cJ cI cO cB bv bc bf bm bn r1 e2 H.size) (va_cwSU 0 hts gJ4_length_8abf5_J5_length_8abf5_s343 rfl rfl rfl hdU2_J5_length_8abf5 ⟨Nat.le_of_ble_eq_true rfl, Nat.le_of_ble_eq_true rfl⟩) (zxpreV hE hS (zfree hD hS hA) (q0 := 0) (ci := 1) (T := TJ4) (N := 4) hK hP hD rfl rfl []) rfl rfl hl.1 rfl (lv_room (Nat.le_of_ble_eq_true rfl)) dJ4_length_8abf5_1 ⟨Nat.le_of_ble_eq_true rfl, Nat.le_of_ble_eq_true rfl⟩) (zfree hD hS hA) (zjW hD hS hA) hS (fun H locs hP hD hS => ?_)
  replace hP : va_P D vwCl (sW sb cB bv bc bf bm bn) H := hP
  replace hD : va_D A (sW sb cB bv bc bf bm bn) := hD
  have h1 := Option.some.inj h
  subst h1
  exact W.iret (v := r1) hx hb hr (fun t ht hW => ⟨⟨r1, (), rfl, rfl, by rw [ht]; exact hP, va_K.moved hW.alike hK, hD⟩, hS.F ht⟩) hS.2.2 dJ4_length_8abf5_4

set_option maxHeartbeats 4000000 in
set_option maxRecDepth 100000 in
theorem c_J0_init_db425 (l : Launch) (D : va_G) (cJ cI cO cB : ClassId) (x : Nat) (sb bv bc : Nat) (bf : Nat → Int32) (bm : Bool) (bn : Int32) (rn : Nat) (rf : Nat → Int32) (h : p_J7_copyOfRange_39247 bc bf (0 : Int32) bn = some (rn, rf)) : zMc l yJ0_init_db425 wsJ0_init_db425 3 106 1 150 (zPx D (zT cJ cI cO cB) ([(x, .inr (0, [.null, .int 0, .int 0, .int 0])), (sb, .inr (1, [.ref bv, .int 0, .int (z01 bm), .int bn])), (bv, .inl (cB, bc, .inl bf))] : va_W)) [.ref x, .ref sb, .null] D (zT cJ cI cO cB) ([(x, .inr (0, [.null, .int 0, .int 0, .int 0])), (sb, .inr (1, [.ref bv, .int 0, .int (z01 bm), .int bn])), (bv, .inl (cB, bc, .inl bf))] : va_W) (fun u => ([(x, .inr (0, [.ref (u 0), .int (0 : Int32), .int 0, .int 0])), ((u 0), .inl (cB, rn, .inl rf)), (sb, .inr (1, [.ref bv, .int 0, .int (z01 bm), .int bn])), (bv, .inl (cB, bc, .inl bf))] : va_W)) := by
  intro sz
  delta zQc
  refine Met.ofW (cc := cJ0_init_db425) (maxL := 5) (ret := none) (by decide) rfl ?_
  intro p e s m args below meth c s₁ B hml hv
  obtain ⟨rfl, ⟨hsz, hP, hK, hD0⟩, hE⟩ := hv
  have hx := B.exec
  have hb := B.bytes
  have hr := B.returns
  have hts := atoms_spec (ws := wsJ0_init_db425) B.pre
  have hown : s.vm.findClass RJ0 = some m.cls := findClass_of_methodNamed B.named
  have hlocks := B.notSynchronized
  have hin : meth.name = "<init>" := (name_of_methodNamed B.named B.method).1
  subst hsz
  have hD := hD0.self (sz := s.heap.size)
  generalize hAe : va_A ([(x, .inr (0, [.null, .int 0, .int 0, .int 0])), (sb, .inr (1, [.ref bv, .int 0, .int (z01 bm), .int bn])), (bv, .inl (cB, bc, .inl bf))] : va_W) s.heap.size = A at hD hE ⊢
  have hA : ∀ q : Nat, s.heap.size ≤ q → A q := fun q h => by rw [← hAe]; exact Or.inr h
  have hS : va_S A s.heap s.heap [] := va_S.rf
  have hl := lv_entry ([.ref x, .ref sb, .null]) (n := 5) (Nat.le_of_ble_eq_true rfl)
  rw [lg_entry_eq]
  generalize (lg_sl ([.ref x, .ref sb, .null]) ++ List.replicate (5 - (lg_sl ([.ref x, .ref sb, .null])).length) Slot.unset).toArray = ls at hl ⊢
  replace hl : lv_has ls 5 [(0, .ref x), (1, .ref sb), (2, .null)] := hl
  have km_1 := hts (.methodLink RJ0 1 objectInit) (zmem 1 rfl)
  have koi := hts (.instanceMethod objectInit) (zmem 2 rfl)
  have koc := hts (.code objectInit ⟨#[0xb1]⟩ 1 none) (zmem 3 rfl)
  have kwJ0 : ∀ w ∈ u_ws RJ0 TJ0 4, w ∈ wsJ0_init_db425 := fun w h => List.mem_cons_of_mem _ (List.mem_append_left _ (List.mem_append_left _ (List.mem_append_left _ (List.mem_append_left _ (List.mem_append_left _ (List.mem_append_left _ (List.mem_append_right _ h)))))))
  have kf_15 := hts (.fieldLink RJ0 15 "java/lang/String" "coder" "B") (zmem 4 rfl)
  have kf_9 := hts (.fieldLink RJ0 9 "java/lang/String" "value" "[B") (zmem 5 rfl)
  obtain ⟨H, hHe⟩ : ∃ H, H = s.heap := ⟨_, rfl⟩
  rw [← hHe] at hP
  replace hS : va_S A s.heap H [] := by rw [hHe]; exact hS
  refine zheap hHe ?_
  replace hP : va_P D vwCl ([(x, .inr (0, [.null, .int 0, .int 0, .int 0])), (sb, .inr (1, [.ref bv, .int 0, .int (z01 bm), .int bn])), (bv, .inl (cB, bc, .inl bf))] : va_W) H := hP
  replace hD : va_D A ([(x, .inr (0, [.null, .int 0, .int 0, .int 0])), (sb, .inr (1, [.ref bv, .int 0, .int (z01 bm), .int bn])), (bv, .inl (cB, bc, .inl bf))] : va_W) := hD
  refine lv_aload_n hx hb dJ0_init_db425_0 rfl (lv_at hl 0 rfl) ?_
  refine W.objInit hx hb hown km_1 koi koc rfl (by rw [hml]; exact hl.1) rfl dJ0_init_db425_1 (Nat.le_of_ble_eq_true rfl) (Nat.le_of_ble_eq_true rfl) ?_
  refine W.eq (g2 := F0 m 4 ls []) rfl ?_
  refine lv_aload_n hx hb dJ0_init_db425_4 rfl (lv_at hl 1 rfl) ?_
  have hPc := zsub (wn := (sW sb cB bv bc bf bm bn)) hP [1, 2] rfl
  have hDc := hD.sub (ws' := (sW sb cB bv bc bf bm bn)) [1, 2] (by decide) rfl
  refine zgor (va_runU (As := []) (rest := []) ⟨hx, hb, hml, hown, hts⟩ (c_J5_getValue_6d5f1 l D sb cJ cI cO cB bv bc bf bm bn rfl H.size) (va_cwU 0 hts gJ0_init_db425_J5_getValue_6d5f1_u552J4 rfl rfl rfl rfl hdU_J5_getValue_6d5f1 ⟨Nat.le_of_ble_eq_true rfl, Nat.le_of_ble_eq_true rfl⟩) (zxpreV hE hS (va_free hD hS hA [1, 2] rfl) (q0 := 0) (ci := 1) (T := TJ4) (N := 4) hK hPc hDc rfl rfl []) rfl rfl hl.1 rfl (lv_room (Nat.le_of_ble_eq_true rfl)) dJ0_init_db425_5 ⟨Nat.le_of_ble_eq_true rfl, Nat.le_of_ble_eq_true rfl⟩) (va_free hD hS hA [1, 2] rfl) (zjF (wr := ([(x, .inr (0, [.null, .int 0, .int 0, .int 0]))] : va_W)) hP hD hS hA [1, 2] [0] rfl rfl (by decide) (by decide)) hS (fun H locs hP hD hS => ?_)
  replace hP : va_P D vwCl ([(x, .inr (0, [.null, .int 0, .int 0, .int 0])), (sb, .inr (1, [.ref bv, .int 0, .int (z01 bm), .int bn])), (bv, .inl (cB, bc, .inl bf))] : va_W) H := hP
  replace hD : va_D A ([(x, .inr (0, [.null, .int 0, .int 0, .int 0])), (sb, .inr (1, [.ref bv, .int 0, .int (z01 bm), .int bn])), (bv, .inl (cB, bc, .inl bf))] : va_W) := hD
  refine lv_astore_n (lv' := [(3, .ref bv), (0, .ref x), (1, .ref sb), (2, .null)]) hx hb dJ0_init_db425_8 rfl hl (by decide) rfl (fun ls hl => ?_)
  refine lv_aload_n hx hb dJ0_init_db425_9 rfl (lv_at hl 2 rfl) ?_
  have hPc := zsub (wn := (sW sb cB bv bc bf bm bn)) hP [1, 2] rfl
  have hDc := hD.sub (ws' := (sW sb cB bv bc bf bm bn)) [1, 2] (by decide) rfl
  refine zgoi (va_runU (As := []) (rest := []) ⟨hx, hb, hml, hown, hts⟩ (c_J4_length_8abf5 l D sb cJ cI cO cB bv bc bf bm bn bn rfl H.size) (va_cwO 0 hts gJ0_init_db425_J4_length_8abf5_u549J4 rfl rfl rfl (b0 := cJ5_length_8abf5) (m0 := 1) (r0 := (some .int)) (by decide +kernel) hdU_J4_length_8abf5 ⟨Nat.le_of_ble_eq_true rfl, Nat.le_of_ble_eq_true rfl⟩) (zxpreV hE hS (va_free hD hS hA [1, 2] rfl) (q0 := 0) (ci := 1) (T := TJ4) (N := 4) hK hPc hDc rfl rfl []) rfl rfl hl.1 rfl (lv_room (Nat.le_of_ble_eq_true rfl)) dJ0_init_db425_10 ⟨Nat.le_of_ble_eq_true rfl, Nat.le_of_ble_eq_true rfl⟩) (va_free hD hS hA [1, 2] rfl) (zjF (wr := ([(x, .inr (0, [.null, .int 0, .int 0, .int 0]))] : va_W)) hP hD hS hA [1, 2] [0] rfl rfl (by decide) (by decide)) hS (fun H locs hP hD hS => ?_)
  replace hP : va_P D vwCl ([(x, .inr (0, [.null, .int 0, .int 0, .int 0])), (sb, .inr (1, [.ref bv, .int 0, .int (z01 bm), .int bn])), (bv, .inl (cB, bc, .inl bf))] : va_W) H := hP
  replace hD : va_D A ([(x, .inr (0, [.null, .int 0, .int 0, .int 0])), (sb, .inr (1, [.ref bv, .int 0, .int (z01 bm), .int bn])), (bv, .inl (cB, bc, .inl bf))] : va_W) := hD
  refine lv_istore (lv' := [(4, .int bn), (3, .ref bv), (0, .ref x), (1, .ref sb), (2, .null)]) hx hb dJ0_init_db425_13 hl (by decide) rfl (fun ls hl => ?_)
  refine lv_aload_n hx hb dJ0_init_db425_15 rfl (lv_at hl 3 rfl) ?_
  have hPc := zsub (wn := (sW sb cB bv bc bf bm bn)) hP [1, 2] rfl
  have hDc := hD.sub (ws' := (sW sb cB bv bc bf bm bn)) [1, 2] (by decide) rfl
  refine zgoi (va_runU (As := []) (rest := []) ⟨hx, hb, hml, hown, hts⟩ (c_J5_isLatin1_aae02 l D sb cJ cI cO cB bv bc bf bm bn true rfl H.size) (va_cwU 0 hts gJ0_init_db425_J5_isLatin1_aae02_u1047J4 rfl rfl rfl rfl hdU_J5_isLatin1_aae02 ⟨Nat.le_of_ble_eq_true rfl, Nat.le_of_ble_eq_true rfl⟩) (zxpreV hE hS (va_free hD hS hA [1, 2] rfl) (q0 := 0) (ci := 1) (T := TJ4) (N := 4) hK hPc hDc rfl rfl []) rfl rfl hl.1 rfl (lv_room (Nat.le_of_ble_eq_true rfl)) dJ0_init_db425_16 ⟨Nat.le_of_ble_eq_true rfl, Nat.le_of_ble_eq_true rfl⟩) (va_free hD hS hA [1, 2] rfl) (zjF (wr := ([(x, .inr (0, [.null, .int 0, .int 0, .int 0]))] : va_W)) hP hD hS hA [1, 2] [0] rfl rfl (by decide) (by decide)) hS (fun H locs hP hD hS => ?_)
  replace hP : va_P D vwCl ([(x, .inr (0, [.null, .int 0, .int 0, .int 0])), (sb, .inr (1, [.ref bv, .int 0, .int (z01 bm), .int bn])), (bv, .inl (cB, bc, .inl bf))] : va_W) H := hP
  replace hD : va_D A ([(x, .inr (0, [.null, .int 0, .int 0, .int 0])), (sb, .inr (1, [.ref bv, .int 0, .int (z01 bm), .int bn])), (bv, .inl (cB, bc, .inl bf))] : va_W) := hD
  refine lv_if_eq (tgt := 41) hx hb dJ0_init_db425_19 (by decide) (fun c => absurd c (by decide)) (fun _ => ?_)
  refine lv_aload_n hx hb dJ0_init_db425_22 rfl (lv_at hl 2 rfl) ?_
  refine lv_iconst (v := (0 : Int32)) hx hb dJ0_init_db425_23 (by decide) ?_
  refine va_putF (D := D) (ci := 0) (v := .int (0 : Int32)) (ty := .byte) (C := RJ0) (T := TJ0) (N := 4) hx hb hts kwJ0 tyJ0 tyJ0_ok nmJ0 hown hK hP hD hS 0 rfl rfl 1 (by decide) kf_15 (fun _ h9 => h9) rfl hin rfl (by decide +kernel) rfl rfl (Nat.le_of_ble_eq_true rfl) dJ0_init_db425_24 (fun H locs hP hD hS => ?_)
  replace hP : va_P D vwCl ([(x, .inr (0, [.null, .int (0 : Int32), .int 0, .int 0])), (sb, .inr (1, [.ref bv, .int 0, .int (z01 bm), .int bn])), (bv, .inl (cB, bc, .inl bf))] : va_W) H := hP
  replace hD : va_D A ([(x, .inr (0, [.null, .int (0 : Int32), .int 0, .int 0])), (sb, .inr (1, [.ref bv, .int 0, .int (z01 bm), .int bn])), (bv, .inl (cB, bc, .inl bf))] : va_W) := hD
  refine lv_aload_n hx hb dJ0_init_db425_27 rfl (lv_at hl 2 rfl) ?_
  refine lv_aload_n hx hb dJ0_init_db425_28 rfl (lv_at hl 1 rfl) ?_
  refine lv_iconst (v := (0 : Int32)) hx hb dJ0_init_db425_29 (by decide) ?_
  refine lv_iload hx hb dJ0_init_db425_30 (lv_at hl 0 rfl) ?_
  have hPc := zsub (wn := ([(bv, .inl (cB, bc, .inl bf))] : va_W)) hP [2] rfl
  have hDc := hD.sub (ws' := ([(bv, .inl (cB, bc, .inl bf))] : va_W)) [2] (by decide) rfl
  refine zgon (va_runS (As := [.ref bv, .int (0 : Int32), .int bn]) (rest := [.ref x]) ⟨hx, hb, hml, hown, hts⟩ (c_J7_copyOfRange_39247 l D cJ cI cO cB bv bc bf (0 : Int32) bn rn rf h H.size) (va_cwS 3 hts gJ0_init_db425_J7_copyOfRange_39247 rfl rfl rfl hdS_J7_copyOfRange_39247 ⟨Nat.le_of_ble_eq_true rfl, Nat.le_of_ble_eq_true rfl⟩) (zxpreS hE hS (va_free hD hS hA [2] rfl) hK hPc hDc [.ref bv, .int (0 : Int32), .int bn]) rfl rfl hl.1 rfl (lv_room (Nat.le_of_ble_eq_true rfl)) dJ0_init_db425_32 ⟨Nat.le_of_ble_eq_true rfl, Nat.le_of_ble_eq_true rfl⟩) (va_free hD hS hA [2] rfl) (fun q32 => (zjF (wr := ([(x, .inr (0, [.null, .int (0 : Int32), .int 0, .int 0])), (sb, .inr (1, [.ref bv, .int 0, .int (z01 bm), .int bn]))] : va_W)) hP hD hS hA [2] [0, 1] rfl rfl (by decide) (by decide))) hS (fun q32 H locs hP hD hS => ?_)
  replace hP : va_P D vwCl ([(x, .inr (0, [.null, .int (0 : Int32), .int 0, .int 0])), (sb, .inr (1, [.ref bv, .int 0, .int (z01 bm), .int bn])), (bv, .inl (cB, bc, .inl bf)), (q32, .inl (cB, rn, .inl rf))] : va_W) H := hP
  replace hD : va_D A ([(x, .inr (0, [.null, .int (0 : Int32), .int 0, .int 0])), (sb, .inr (1, [.ref bv, .int 0, .int (z01 bm), .int bn])), (bv, .inl (cB, bc, .inl bf)), (q32, .inl (cB, rn, .inl rf))] : va_W) := hD
  refine va_putF (D := D) (ci := 0) (v := .ref q32) (ty := .array .byte) (C := RJ0) (T := TJ0) (N := 4) hx hb hts kwJ0 tyJ0 tyJ0_ok nmJ0 hown hK hP hD hS 0 rfl rfl 0 (by decide) kf_9 (fun _ h9 => h9) rfl hin rfl (by decide +kernel) rfl rfl (Nat.le_of_ble_eq_true rfl) dJ0_init_db425_35 (fun H locs hP hD hS => ?_)
  replace hP : va_P D vwCl ([(x, .inr (0, [.ref q32, .int (0 : Int32), .int 0, .int 0])), (sb, .inr (1, [.ref bv, .int 0, .int (z01 bm), .int bn])), (bv, .inl (cB, bc, .inl bf)), (q32, .inl (cB, rn, .inl rf))] : va_W) H := hP
  replace hD : va_D A ([(x, .inr (0, [.ref q32, .int (0 : Int32), .int 0, .int 0])), (sb, .inr (1, [.ref bv, .int 0, .int (z01 bm), .int bn])), (bv, .inl (cB, bc, .inl bf)), (q32, .inl (cB, rn, .inl rf))] : va_W) := hD
  refine lv_goto (tgt := 97) hx hb dJ0_init_db425_38 (by decide) ?_
  replace hP := zsub (wn := ([(x, .inr (0, [.ref q32, .int (0 : Int32), .int 0, .int 0])), (q32, .inl (cB, rn, .inl rf)), (sb, .inr (1, [.ref bv, .int 0, .int (z01 bm), .int bn])), (bv, .inl (cB, bc, .inl bf))] : va_W)) hP [0, 3, 1, 2] rfl
  replace hD := hD.sub (ws' := ([(x, .inr (0, [.ref q32, .int (0 : Int32), .int 0, .int 0])), (q32, .inl (cB, rn, .inl rf)), (sb, .inr (1, [.ref bv, .int 0, .int (z01 bm), .int bn])), (bv, .inl (cB, bc, .inl bf))] : va_W)) [0, 3, 1, 2] (by decide) rfl
  refine W.widen (k := 1) (n := 150) (by decide) (by decide) ?_
  exact W.vret hx hb hr (fun t ht hW => ⟨⟨zlist [q32], rfl, trivial, by rw [ht]; exact hP, va_K.moved hW.alike hK, hD⟩, hS.F ht⟩) hS.2.2 dJ0_init_db425_97

set_option maxHeartbeats 4000000 in
set_option maxRecDepth 100000 in
theorem c_J0_init_81219 (l : Launch) (D : va_G) (cJ cI cO cB : ClassId) (x : Nat) (sb bv bc : Nat) (bf : Nat → Int32) (bm : Bool) (bn : Int32) (rn : Nat) (rf : Nat → Int32) (h : p_J7_copyOfRange_39247 bc bf (0 : Int32) bn = some (rn, rf)) : zMc l yJ0_init_81219 wsJ0_init_81219 4 130 1 150 (zPx D (zT cJ cI cO cB) ([(x, .inr (0, [.null, .int 0, .int 0, .int 0])), (sb, .inr (1, [.ref bv, .int 0, .int (z01 bm), .int bn])), (bv, .inl (cB, bc, .inl bf))] : va_W)) [.ref x, .ref sb] D (zT cJ cI cO cB) ([(x, .inr (0, [.null, .int 0, .int 0, .int 0])), (sb, .inr (1, [.ref bv, .int 0, .int (z01 bm), .int bn])), (bv, .inl (cB, bc, .inl bf))] : va_W) (fun u => ([(x, .inr (0, [.ref (u 0), .int (0 : Int32), .int 0, .int 0])), ((u 0), .inl (cB, rn, .inl rf)), (sb, .inr (1, [.ref bv, .int 0, .int (z01 bm), .int bn])), (bv, .inl (cB, bc, .inl bf))] : va_W)) := by
  intro sz
  delta zQc
  refine Met.ofW (cc := cJ0_init_81219) (maxL := 2) (ret := none) (by decide) rfl ?_
  intro p e s m args below meth c s₁ B hml hv
  obtain ⟨rfl, ⟨hsz, hP, hK, hD0⟩, hE⟩ := hv
  have hx := B.exec
  have hb := B.bytes
  have hr := B.returns
  have hts := atoms_spec (ws := wsJ0_init_81219) B.pre
  have hown : s.vm.findClass RJ0 = some m.cls := findClass_of_methodNamed B.named
  have hlocks := B.notSynchronized
  have hin : meth.name = "<init>" := (name_of_methodNamed B.named B.method).1
  subst hsz
  have hD := hD0.self (sz := s.heap.size)
  generalize hAe : va_A ([(x, .inr (0, [.null, .int 0, .int 0, .int 0])), (sb, .inr (1, [.ref bv, .int 0, .int (z01 bm), .int bn])), (bv, .inl (cB, bc, .inl bf))] : va_W) s.heap.size = A at hD hE ⊢
  have hA : ∀ q : Nat, s.heap.size ≤ q → A q := fun q h => by rw [← hAe]; exact Or.inr h
  have hS : va_S A s.heap s.heap [] := va_S.rf
  have hl := lv_entry ([.ref x, .ref sb]) (n := 2) (Nat.le_of_ble_eq_true rfl)
  rw [lg_entry_eq]
  generalize (lg_sl ([.ref x, .ref sb]) ++ List.replicate (2 - (lg_sl ([.ref x, .ref sb])).length) Slot.unset).toArray = ls at hl ⊢
  replace hl : lv_has ls 2 [(0, .ref x), (1, .ref sb)] := hl
  have kii_J0 := hts (.initialized RJ0) (zmem 3 rfl)
  have kim_J0_init_db425 := hts (.instanceMethod yJ0_init_db425) (zmem 2 rfl)
  have km_489 := hts (.methodLink RJ0 489 yJ0_init_db425) (zmem 1 rfl)
  obtain ⟨H, hHe⟩ : ∃ H, H = s.heap := ⟨_, rfl⟩
  rw [← hHe] at hP
  replace hS : va_S A s.heap H [] := by rw [hHe]; exact hS
  refine zheap hHe ?_
  replace hP : va_P D vwCl ([(x, .inr (0, [.null, .int 0, .int 0, .int 0])), (sb, .inr (1, [.ref bv, .int 0, .int (z01 bm), .int bn])), (bv, .inl (cB, bc, .inl bf))] : va_W) H := hP
  replace hD : va_D A ([(x, .inr (0, [.null, .int 0, .int 0, .int 0])), (sb, .inr (1, [.ref bv, .int 0, .int (z01 bm), .int bn])), (bv, .inl (cB, bc, .inl bf))] : va_W) := hD
  refine lv_aload_n hx hb dJ0_init_81219_0 rfl (lv_at hl 0 rfl) ?_
  refine lv_aload_n hx hb dJ0_init_81219_1 rfl (lv_at hl 1 rfl) ?_
  refine lv_null hx hb dJ0_init_81219_2 ?_
  have hPc := zsub (wn := ([(x, .inr (0, [.null, .int 0, .int 0, .int 0])), (sb, .inr (1, [.ref bv, .int 0, .int (z01 bm), .int bn])), (bv, .inl (cB, bc, .inl bf))] : va_W)) hP [0, 1, 2] rfl
  have hDc := hD.sub (ws' := ([(x, .inr (0, [.null, .int 0, .int 0, .int 0])), (sb, .inr (1, [.ref bv, .int 0, .int (z01 bm), .int bn])), (bv, .inl (cB, bc, .inl bf))] : va_W)) [0, 1, 2] (by decide) rfl
  refine zgoc (va_runI (As := [.ref sb, .null]) (rest := []) ⟨hx, hb, hml, hown, hts⟩ (c_J0_init_db425 l D cJ cI cO cB x sb bv bc bf bm bn rn rf h H.size) (cwI 2 hts gJ0_init_81219_J0_init_db425 rfl rfl rfl kii_J0 km_489 kim_J0_init_db425 rfl (by decide +kernel) ⟨Nat.le_of_ble_eq_true rfl, Nat.le_of_ble_eq_true rfl⟩) (zxpreS hE hS (va_free hD hS hA [0, 1, 2] rfl) hK hPc hDc [.ref x, .ref sb, .null]) rfl rfl hl.1 rfl (lv_room (Nat.le_of_ble_eq_true rfl)) dJ0_init_81219_3 ⟨Nat.le_of_ble_eq_true rfl, Nat.le_of_ble_eq_true rfl⟩) (va_free hD hS hA [0, 1, 2] rfl) (fun u => zjF (wr := ([] : va_W)) hP hD hS hA [0, 1, 2] [] rfl rfl (by decide) (by decide)) hS (fun u3 H locs hP hD hS => ?_)
  replace hP : va_P D vwCl ([(x, .inr (0, [.ref (u3 0), .int (0 : Int32), .int 0, .int 0])), ((u3 0), .inl (cB, rn, .inl rf)), (sb, .inr (1, [.ref bv, .int 0, .int (z01 bm), .int bn])), (bv, .inl (cB, bc, .inl bf))] : va_W) H := hP
  replace hD : va_D A ([(x, .inr (0, [.ref (u3 0), .int (0 : Int32), .int 0, .int 0])), ((u3 0), .inl (cB, rn, .inl rf)), (sb, .inr (1, [.ref bv, .int 0, .int (z01 bm), .int bn])), (bv, .inl (cB, bc, .inl bf))] : va_W) := hD
  refine W.widen (k := 1) (n := 150) (by decide) (by decide) ?_
  exact W.vret hx hb hr (fun t ht hW => ⟨⟨zlist [(u3 0)], rfl, trivial, by rw [ht]; exact hP, va_K.moved hW.alike hK, hD⟩, hS.F ht⟩) hS.2.2 dJ0_init_81219_6

set_option maxHeartbeats 4000000 in
set_option maxRecDepth 100000 in
theorem c_J4_toString_0e30d (l : Launch) (D : va_G) (cJ cI cO cB : ClassId) (sb bv bc : Nat) (bf : Nat → Int32) (bm : Bool) (bn : Int32) (rn : Nat) (rf : Nat → Int32) (h : p_J7_copyOfRange_39247 bc bf (0 : Int32) bn = some (rn, rf)) : zMss l yJ4_toString_0e30d wsJ4_toString_0e30d 5 151 2 154 (zPx D (zT cJ cI cO cB) ([(sb, .inr (1, [.ref bv, .int 0, .int (z01 bm), .int bn])), (bv, .inl (cB, bc, .inl bf))] : va_W)) [.ref sb] D (zT cJ cI cO cB) ([(sb, .inr (1, [.ref bv, .int 0, .int (z01 bm), .int bn])), (bv, .inl (cB, bc, .inl bf))] : va_W) (fun x u => ([(x, .inr (0, [.ref u, .int (0 : Int32), .int 0, .int 0])), (u, .inl (cB, rn, .inl rf)), (sb, .inr (1, [.ref bv, .int 0, .int (z01 bm), .int bn])), (bv, .inl (cB, bc, .inl bf))] : va_W)) := by
  intro sz
  delta zQss
  refine Met.ofW (cc := cJ4_toString_0e30d) (maxL := 1) (ret := (some (.object "java/lang/String"))) (by decide) rfl ?_
  intro p e s m args below meth c s₁ B hml hv
  obtain ⟨rfl, ⟨hsz, hP, hK, hD0⟩, hE⟩ := hv
  have hx := B.exec
  have hb := B.bytes
  have hr := B.returns
  have hts := atoms_spec (ws := wsJ4_toString_0e30d) B.pre
  have hown : s.vm.findClass RJ4 = some m.cls := findClass_of_methodNamed B.named
  have hlocks := B.notSynchronized
  subst hsz
  have hD := hD0.self (sz := s.heap.size)
  generalize hAe : va_A ([(sb, .inr (1, [.ref bv, .int 0, .int (z01 bm), .int bn])), (bv, .inl (cB, bc, .inl bf))] : va_W) s.heap.size = A at hD hE ⊢
  have hA : ∀ q : Nat, s.heap.size ≤ q → A q := fun q h => by rw [← hAe]; exact Or.inr h
  have hS : va_S A s.heap s.heap [] := va_S.rf
  have hl := lv_entry ([.ref sb]) (n := 1) (Nat.le_of_ble_eq_true rfl)
  rw [lg_entry_eq]
  generalize (lg_sl ([.ref sb]) ++ List.replicate (1 - (lg_sl ([.ref sb])).length) Slot.unset).toArray = ls at hl ⊢
  replace hl : lv_has ls 1 [(0, .ref sb)] := hl
  have kwJ0 : ∀ w ∈ u_ws RJ0 TJ0 4, w ∈ wsJ4_toString_0e30d := fun w h => List.mem_cons_of_mem _ (List.mem_append_right _ (List.mem_cons_of_mem _ (List.mem_append_right _ (List.mem_cons_of_mem _ (List.mem_append_left _ (List.mem_append_left _ (List.mem_append_left _ (List.mem_append_left _ (List.mem_append_left _ (List.mem_append_left _ (List.mem_append_right _ h)))))))))))
  have kc_18 := hts (.classLink RJ4 18 RJ0) (zmem 1 rfl)
  have kin_J0 := hts (.instantiable RJ0 4) (zmem 2 rfl)
  have kii_J0 := hts (.initialized RJ0) (zmem 3 rfl)
  have kim_J0_init_81219 := hts (.instanceMethod yJ0_init_81219) (zmem 5 rfl)
  have km_137 := hts (.methodLink RJ4 137 yJ0_init_81219) (zmem 4 rfl)
  obtain ⟨H, hHe⟩ : ∃ H, H = s.heap := ⟨_, rfl⟩
  rw [← hHe] at hP
  replace hS : va_S A s.heap H [] := by rw [hHe]; exact hS
  refine zheap hHe ?_
  replace hP : va_P D vwCl ([(sb, .inr (1, [.ref bv, .int 0, .int (z01 bm), .int bn])), (bv, .inl (cB, bc, .inl bf))] : va_W) H := hP
  replace hD : va_D A ([(sb, .inr (1, [.ref bv, .int 0, .int (z01 bm), .int bn])), (bv, .inl (cB, bc, .inl bf))] : va_W) := hD
  refine va_new (ci := 0) (fs := [.null, .int 0, .int 0, .int 0]) (C := RJ0) (T := TJ0) (N := 4) hx hb hts kwJ0 tyJ0 tyJ0_ok hown kc_18 kin_J0 kii_J0 hK hP hD hS hA rfl (fun j hj => by rcases (show j = 0 ∨ j = 1 ∨ j = 2 ∨ j = 3 by omega) with rfl | rfl | rfl | rfl <;> rfl) (Nat.le_of_ble_eq_true rfl) (Nat.le_of_ble_eq_true rfl) dJ4_toString_0e30d_0 (fun q0 H hP hD hS => ?_)
  replace hP : va_P D vwCl ([(sb, .inr (1, [.ref bv, .int 0, .int (z01 bm), .int bn])), (bv, .inl (cB, bc, .inl bf)), (q0, .inr (0, [.null, .int 0, .int 0, .int 0]))] : va_W) H := hP
  replace hD : va_D A ([(sb, .inr (1, [.ref bv, .int 0, .int (z01 bm), .int bn])), (bv, .inl (cB, bc, .inl bf)), (q0, .inr (0, [.null, .int 0, .int 0, .int 0]))] : va_W) := hD
  refine lv_dup hx hb dJ4_toString_0e30d_3 rfl ?_
  refine lv_aload_n hx hb dJ4_toString_0e30d_4 rfl (lv_at hl 0 rfl) ?_
  have hPc := zsub (wn := ([(q0, .inr (0, [.null, .int 0, .int 0, .int 0])), (sb, .inr (1, [.ref bv, .int 0, .int (z01 bm), .int bn])), (bv, .inl (cB, bc, .inl bf))] : va_W)) hP [2, 0, 1] rfl
  have hDc := hD.sub (ws' := ([(q0, .inr (0, [.null, .int 0, .int 0, .int 0])), (sb, .inr (1, [.ref bv, .int 0, .int (z01 bm), .int bn])), (bv, .inl (cB, bc, .inl bf))] : va_W)) [2, 0, 1] (by decide) rfl
  refine zgoc (va_runI (As := [.ref sb]) (rest := [.ref q0]) ⟨hx, hb, hml, hown, hts⟩ (c_J0_init_81219 l D cJ cI cO cB q0 sb bv bc bf bm bn rn rf h H.size) (cwI 1 hts gJ4_toString_0e30d_J0_init_81219 rfl rfl rfl kii_J0 km_137 kim_J0_init_81219 rfl (by decide +kernel) ⟨Nat.le_of_ble_eq_true rfl, Nat.le_of_ble_eq_true rfl⟩) (zxpreS hE hS (va_free hD hS hA [2, 0, 1] rfl) hK hPc hDc [.ref q0, .ref sb]) rfl rfl hl.1 rfl (lv_room (Nat.le_of_ble_eq_true rfl)) dJ4_toString_0e30d_5 ⟨Nat.le_of_ble_eq_true rfl, Nat.le_of_ble_eq_true rfl⟩) (va_free hD hS hA [2, 0, 1] rfl) (fun u => zjF (wr := ([] : va_W)) hP hD hS hA [2, 0, 1] [] rfl rfl (by decide) (by decide)) hS (fun u5 H locs hP hD hS => ?_)
  replace hP : va_P D vwCl ([(q0, .inr (0, [.ref (u5 0), .int (0 : Int32), .int 0, .int 0])), ((u5 0), .inl (cB, rn, .inl rf)), (sb, .inr (1, [.ref bv, .int 0, .int (z01 bm), .int bn])), (bv, .inl (cB, bc, .inl bf))] : va_W) H := hP
  replace hD : va_D A ([(q0, .inr (0, [.ref (u5 0), .int (0 : Int32), .int 0, .int 0])), ((u5 0), .inl (cB, rn, .inl rf)), (sb, .inr (1, [.ref bv, .int 0, .int (z01 bm), .int bn])), (bv, .inl (cB, bc, .inl bf))] : va_W) := hD
  refine W.widen (k := 2) (n := 154) (by decide) (by decide) ?_
  exact W.aret (v := .ref q0) hx hb hr (Or.inl ⟨_, rfl⟩) (Or.inr ⟨_, rfl⟩) (fun t ht hW => ⟨⟨(u5 0), q0, rfl, trivial, by rw [ht]; exact hP, va_K.moved hW.alike hK, hD⟩, hS.F ht⟩) hS.2.2 dJ4_toString_0e30d_8

theorem hdV_J4_toString_0e30d : yJ4_toString_0e30d.cls = RJ4 ∧ yJ4_toString_0e30d.cls ≠ "java/lang/invoke/MethodHandle" ∧ yJ4_toString_0e30d.cls ≠ "java/lang/invoke/VarHandle" ∧ (parseMethodDescriptor yJ4_toString_0e30d.desc).map (fun d => d.parameters.length) = some 0 := by decide +kernel
