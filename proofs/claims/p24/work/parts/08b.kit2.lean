/-! texts: a StringBuilder's world, Strings that aren't in it -/
def sW (sb : Nat) (cB : ClassId) (bv bc : Nat) (bf : Nat → Int32) (bm : Bool) (bn : Int32) : va_W := [(sb, .inr (1, [.ref bv, .int 0, .int (z01 bm), .int bn])), (bv, .inl (cB, bc, .inl bf))]
/-- a String of n bytes, that the method doesn't write -/
def zSt (st sn : Nat) (sf : Nat → Int32) (A : Nat → Prop) (U : State) (H : Heap) : Prop := ∃ sv : Nat, va_O "java/lang/String" st A U H ∧ va_OF "java/lang/String" "coder" "B" (.int 0) st A U H ∧ va_OF "java/lang/String" "value" "[B" (.ref sv) st A U H ∧ va_T .byte sv sn (fun j => .int (sf j)) A U H
theorem zSt.moved {st sn : Nat} {sf : Nat → Int32} {A : Nat → Prop} {u U : State} {H : Heap} (hvm : u.vm.Alike U.vm) (h : zSt st sn sf A u H) : zSt st sn sf A U H := by
  obtain ⟨sv, h1, h2, h3, h4⟩ := h
  exact ⟨sv, va_O.moved hvm h1, va_OF.moved hvm h2, va_OF.moved hvm h3, va_T.moved hvm h4⟩
theorem zSt.kept {st sn : Nat} {sf : Nat → Int32} {A : Nat → Prop} {U : State} {H H1 : Heap} (h : zSt st sn sf A U H) (hq : ∀ a : Nat, a < H.size → ¬ A a → H1[a]? = H[a]?) : zSt st sn sf A U H1 := by
  obtain ⟨sv, h1, h2, h3, h4⟩ := h
  exact ⟨sv, h1.kept hq, h2.kept hq, h3.kept hq, h4.kept hq⟩
theorem zSt.narrow {st sn : Nat} {sf : Nat → Int32} {A B : Nat → Prop} {U : State} {H : Heap} (h : zSt st sn sf A U H) (hAB : ∀ q, B q → A q) : zSt st sn sf B U H := by
  obtain ⟨sv, h1, h2, h3, h4⟩ := h
  exact ⟨sv, h1.narrow hAB, h2.narrow hAB, h3.narrow hAB, h4.narrow hAB⟩
/-- what may be copied: places in range, bytes -/
def zcp (f : Nat → Int32) (n0 n1 : Nat) (sp dp n : Int32) : Bool := decide (¬ sp < 0 ∧ ¬ dp < 0 ∧ ¬ n < 0 ∧ sp.toNatClampNeg + n.toNatClampNeg ≤ n0 ∧ dp.toNatClampNeg + n.toNatClampNeg ≤ n1) && (List.range n.toNatClampNeg).all (fun i => fits .byte (.int (f (sp.toNatClampNeg + i))))
theorem zcp_of {f : Nat → Int32} {n0 n1 : Nat} {sp dp n : Int32} (h : ¬ zcp f n0 n1 sp dp n = false) : ¬ sp < 0 ∧ ¬ dp < 0 ∧ ¬ n < 0 ∧ sp.toNatClampNeg + n.toNatClampNeg ≤ n0 ∧ dp.toNatClampNeg + n.toNatClampNeg ≤ n1 ∧ ∀ i, i < n.toNatClampNeg → fits .byte (.int (f (sp.toNatClampNeg + i))) = true := by
  have h1 : zcp f n0 n1 sp dp n = true := by
    cases hq : zcp f n0 n1 sp dp n with
    | true => rfl
    | false => exact absurd hq h
  simp only [zcp, Bool.and_eq_true, decide_eq_true_eq, List.all_eq_true, List.mem_range] at h1
  exact ⟨h1.1.1, h1.1.2.1, h1.1.2.2.1, h1.1.2.2.2.1, h1.1.2.2.2.2, h1.2⟩
def zbf (f : Nat → Int32) (n : Nat) : Bool := (List.range n).all (fun i => fits .byte (.int (f i)))
theorem zbf_of {f : Nat → Int32} {n : Nat} (h : ¬ zbf f n = false) : ∀ i, i < n → fits .byte (.int (f i)) = true := by
  have h1 : zbf f n = true := by
    cases hq : zbf f n with
    | true => rfl
    | false => exact absurd hq h
  simpa [zbf, List.all_eq_true, List.mem_range] using h1
abbrev zPs (D : va_G) (tys : List (ClassId × FieldType)) (ws : va_W) (sz st sn : Nat) (sf : Nat → Int32) (U : State) : Prop := zPx D tys ws sz U ∧ zSt st sn sf (va_A ws sz) U U.heap
abbrev zQs (D : va_G) (tys : List (ClassId × FieldType)) (W0 W1 : va_W) (sz : Nat) := va_Qr (fun (_ : Unit) => True) (fun _ _ t => zB D tys (va_A W0 sz) W1 t) (va_A W0 sz)
abbrev zQsv (D : va_G) (tys : List (ClassId × FieldType)) (W0 : va_W) (W1 : Nat → va_W) (sz : Nat) := va_Qv (fun (_ : Nat) => True) (fun u => zB D tys (va_A W0 sz) (W1 u)) (va_A W0 sz)
abbrev zQsr (D : va_G) (tys : List (ClassId × FieldType)) (W0 : va_W) (W1 : Nat → va_W) (q : Nat) (sz : Nat) := va_Qr (fun (_ : Nat) => True) (fun u x t => x = q ∧ zB D tys (va_A W0 sz) (W1 u) t) (va_A W0 sz)
/-- methods that stand on the environment: their start is given -/
abbrev zGi (l : Launch) (y : MethodName) (ws : List Cond) (fr lc mc ms : Nat) (Pre : Nat → State → Prop) (av : List Value) (D : va_G) (tys : List (ClassId × FieldType)) (W0 W1 : va_W) (q : Int32) : Prop := ∀ sz, Met l y ws { frames := fr, cells := mc, slots := ms, locals := lc } (va_Pc av (Pre sz)) (zQi D tys W0 W1 q sz) mc ms (va_A W0 sz)
abbrev zGv (l : Launch) (y : MethodName) (ws : List Cond) (fr lc mc ms : Nat) (Pre : Nat → State → Prop) (av : List Value) (D : va_G) (tys : List (ClassId × FieldType)) (W0 W1 : va_W) : Prop := ∀ sz, Met l y ws { frames := fr, cells := mc, slots := ms, locals := lc } (va_Pc av (Pre sz)) (zQv D tys W0 W1 sz) mc ms (va_A W0 sz)
abbrev zGr (l : Launch) (y : MethodName) (ws : List Cond) (fr lc mc ms : Nat) (Pre : Nat → State → Prop) (av : List Value) (D : va_G) (tys : List (ClassId × FieldType)) (W0 W1 : va_W) (q : Nat) : Prop := ∀ sz, Met l y ws { frames := fr, cells := mc, slots := ms, locals := lc } (va_Pc av (Pre sz)) (zQr D tys W0 W1 q sz) mc ms (va_A W0 sz)
abbrev zGs (l : Launch) (y : MethodName) (ws : List Cond) (fr lc mc ms : Nat) (Pre : Nat → State → Prop) (av : List Value) (D : va_G) (tys : List (ClassId × FieldType)) (W0 W1 : va_W) : Prop := ∀ sz, Met l y ws { frames := fr, cells := mc, slots := ms, locals := lc } (va_Pc av (Pre sz)) (zQs D tys W0 W1 sz) mc ms (va_A W0 sz)
abbrev zGn (l : Launch) (y : MethodName) (ws : List Cond) (fr lc mc ms : Nat) (Pre : Nat → State → Prop) (av : List Value) (D : va_G) (tys : List (ClassId × FieldType)) (W0 : va_W) (W1 : Nat → va_W) : Prop := ∀ sz, Met l y ws { frames := fr, cells := mc, slots := ms, locals := lc } (va_Pc av (Pre sz)) (zQn D tys W0 W1 sz) mc ms (va_A W0 sz)
abbrev zGsv (l : Launch) (y : MethodName) (ws : List Cond) (fr lc mc ms : Nat) (Pre : Nat → State → Prop) (av : List Value) (D : va_G) (tys : List (ClassId × FieldType)) (W0 : va_W) (W1 : Nat → va_W) : Prop := ∀ sz, Met l y ws { frames := fr, cells := mc, slots := ms, locals := lc } (va_Pc av (Pre sz)) (zQsv D tys W0 W1 sz) mc ms (va_A W0 sz)
abbrev zGsr (l : Launch) (y : MethodName) (ws : List Cond) (fr lc mc ms : Nat) (Pre : Nat → State → Prop) (av : List Value) (D : va_G) (tys : List (ClassId × FieldType)) (W0 : va_W) (W1 : Nat → va_W) (q : Nat) : Prop := ∀ sz, Met l y ws { frames := fr, cells := mc, slots := ms, locals := lc } (va_Pc av (Pre sz)) (zQsr D tys W0 W1 q sz) mc ms (va_A W0 sz)
section ZJDK
variable {p : Program} {l : Launch} {e : Env} {R : Room} {s : State} {m : MethodId} {args : Array Value} {below : List Frame} {meth : Method} {c : Code} {H : Heap} {locs : List Loc} {cells slots : Nat} {Q : State → Prop}
variable {pc : Nat} {ls : Array Slot} {rest st0 : List Value} {av : Array Value} {A : Nat → Prop} {H0 : Heap} {mc ms : Nat} {D : va_G} {tys : List (ClassId × FieldType)} {wc ws : va_W} {st sn a : Nat} {sf : Nat → Int32} {cc : ByteArray} {cJ cI cO cB : ClassId}
theorem zSt.here {sv : Nat} (h : va_O "java/lang/String" st A s s.heap ∧ va_OF "java/lang/String" "coder" "B" (.int 0) st A s s.heap ∧ va_OF "java/lang/String" "value" "[B" (.ref sv) st A s s.heap ∧ va_T .byte sv sn (fun j => .int (sf j)) A s s.heap) (hS : va_S A s.heap H locs) (hf : ∀ q, va_A wc H.size q → A q) : zSt st sn sf (va_A wc H.size) s H :=
  zSt.narrow (zSt.kept (A := A) (H := s.heap) ⟨sv, h⟩ hS.2.1) hf
theorem zsblind {As : List Value} {sz : Nat} : FrameBlind (va_Pc As (zPs D tys wc sz st sn sf)) := fun a U g mk q => by
  obtain ⟨q0, ⟨⟨q1, qP, qK, qD⟩, qE⟩, qS⟩ := q
  exact ⟨q0, ⟨⟨q1, qP, va_K.moved (u := U) (U := U.calling g mk a) (Vm.Alike.refl U.vm) qK, qD⟩, qE.calling⟩, zSt.moved (u := U) (U := U.calling g mk a) (Vm.Alike.refl U.vm) qS⟩
theorem zspreV (hE : zE A s H0) (hSt : zSt st sn sf (va_A wc H.size) s H) (hS : va_S A H0 H locs) (hf : ∀ q, va_A wc H.size q → A q) (hK : va_K D vwCl tys s) (hP : va_P D vwCl wc H) (hD : va_D A wc) {C : String} {T : u_T} {N b q0 ci : Nat} {fs : List Value} (he : wc[q0]? = some (b, .inr (ci, fs))) (hc : vwCl[ci]? = some (C, T, N)) (As : List Value) : PreV s H C b (va_Pc (.ref b :: As) (zPs D tys wc H.size st sn sf)) As :=
  ⟨zsblind, va_recv hK hP hc he, fun U hU hW => ⟨rfl, ⟨⟨by rw [hU], by rw [hU]; exact hP, va_K.moved hW.alike hK, hD.weaken (fun _ _ _ _ => trivial)⟩, hE.call hS hf hU hW⟩, by rw [hU]; exact zSt.moved hW.alike hSt⟩⟩
theorem zspreT (hE : zE A s H0) (hSt : zSt st sn sf (va_A wc H.size) s H) (hS : va_S A H0 H locs) (hf : ∀ q, va_A wc H.size q → A q) (hK : va_K D vwCl tys s) (hP : va_P D vwCl wc H) (hD : va_D A wc) (As : List Value) : PreV s H RJ0 st (va_Pc (.ref st :: As) (zPs D tys wc H.size st sn sf)) As :=
  ⟨zsblind, by
    obtain ⟨sv, ⟨cell, h1, h2, h3, -⟩, -⟩ := hSt
    exact ⟨cell, h1, h2, h3⟩, fun U hU hW => ⟨rfl, ⟨⟨by rw [hU], by rw [hU]; exact hP, va_K.moved hW.alike hK, hD.weaken (fun _ _ _ _ => trivial)⟩, hE.call hS hf hU hW⟩, by rw [hU]; exact zSt.moved hW.alike hSt⟩⟩
theorem zclassAt (hK : va_K D vwCl tys s) : ClassAt s RJ4 (D.1 1) := by
  obtain ⟨hS, hfc, kC, hkC, hkind⟩ := hK.1 1 (RJ4, TJ4, 4) rfl
  exact ⟨hfc, kC, hkC, hkind⟩
theorem zfcB (hK : va_K D vwCl (zT cJ cI cO cB) s) : s.vm.findClass "[B" = some cB := (hK.2 3 (cB, .byte) rfl).2
theorem zgos {w1 wn : va_W} (hr : va_Run p l e R s m args below meth c H locs cells slots mc ms (F0 m pc ls st0) rest (zQs D tys wc w1 H.size av) (va_A wc H.size)) (hf : ∀ q, va_A wc H.size q → A q) (hj : zJ D A H wc w1 wn) (hS : va_S A H0 H locs)
    (kk : ∀ (x : Nat) (H1 : Heap) (locs1 : List Loc), va_P D vwCl wn H1 → va_D A wn → va_S A H0 H1 locs1 → W p l e R s m args below meth c H1 locs1 (cells + mc) (slots + ms) Q (F0 m (pc + 3) ls (.ref x :: rest))) : W p l e R s m args below meth c H locs cells slots Q (F0 m pc ls st0) := by
  refine va_callr hr hS (fun q _ h => hf q h) hf (fun u ra t H1 locs1 ht hvm hw hB hz hk hS1 => ?_)
  subst ht
  obtain ⟨g1, g2⟩ := hj _ hk hB.1 hB.2.2
  exact kk _ _ _ g1 g2 hS1
theorem zgosv {w1 wn : Nat → va_W} (hr : va_Run p l e R s m args below meth c H locs cells slots mc ms (F0 m pc ls st0) rest (zQsv D tys wc w1 H.size av) (va_A wc H.size)) (hf : ∀ q, va_A wc H.size q → A q) (hj : ∀ x, zJ D A H wc (w1 x) (wn x)) (hS : va_S A H0 H locs)
    (kk : ∀ (x : Nat) (H1 : Heap) (locs1 : List Loc), va_P D vwCl (wn x) H1 → va_D A (wn x) → va_S A H0 H1 locs1 → W p l e R s m args below meth c H1 locs1 (cells + mc) (slots + ms) Q (F0 m (pc + 3) ls rest)) : W p l e R s m args below meth c H locs cells slots Q (F0 m pc ls st0) := by
  refine va_callv hr hS (fun q _ h => hf q h) hf (fun u t H1 locs1 ht hvm hw hB hz hk hS1 => ?_)
  subst ht
  obtain ⟨g1, g2⟩ := hj u _ hk hB.1 hB.2.2
  exact kk _ _ _ g1 g2 hS1
theorem zgosr {q : Nat} {w1 wn : Nat → va_W} (hr : va_Run p l e R s m args below meth c H locs cells slots mc ms (F0 m pc ls st0) rest (zQsr D tys wc w1 q H.size av) (va_A wc H.size)) (hf : ∀ q, va_A wc H.size q → A q) (hj : ∀ x, zJ D A H wc (w1 x) (wn x)) (hS : va_S A H0 H locs)
    (kk : ∀ (x : Nat) (H1 : Heap) (locs1 : List Loc), va_P D vwCl (wn x) H1 → va_D A (wn x) → va_S A H0 H1 locs1 → W p l e R s m args below meth c H1 locs1 (cells + mc) (slots + ms) Q (F0 m (pc + 3) ls (.ref q :: rest))) : W p l e R s m args below meth c H locs cells slots Q (F0 m pc ls st0) := by
  refine va_callr hr hS (fun q _ h => hf q h) hf (fun u ra t H1 locs1 ht hvm hw hB hz hk hS1 => ?_)
  obtain ⟨e1, hB⟩ := hB
  subst ht; subst e1
  obtain ⟨g1, g2⟩ := hj u _ hk hB.1 hB.2.2
  exact kk _ _ _ g1 g2 hS1
theorem znewB (hx : p.tables.exec = Jvm.exec) (hb : c.code = cc) (harr : (Cond.arrayClass .byte).before args s = true) (hK : va_K D vwCl (zT cJ cI cO cB) s) (hP : va_P D vwCl ws H) (hD : va_D A ws) (hS : va_S A H0 H locs) (hA : ∀ q, H0.size ≤ q → A q)
    {n : Int32} (hz : ¬ (n < 0 ∨ 150 < n.toNatClampNeg)) (hcells : cells + 1 ≤ R.cells) (hslots : slots + 150 ≤ R.slots) (hdg : decode cc pc = .ok (.newarray .byte, 2))
    (kk : ∀ (q : Nat) (H1 : Heap), va_P D vwCl (ws ++ [(q, .inl (cB, n.toNatClampNeg, .inl (fun _ => 0)))]) H1 → va_D A (ws ++ [(q, .inl (cB, n.toNatClampNeg, .inl (fun _ => 0)))]) → va_S A H0 H1 locs →
      W p l e R s m args below meth c H1 locs (cells + 1) (slots + 150) Q (F0 m (pc + 2) ls (.ref q :: rest))) : W p l e R s m args below meth c H locs cells slots Q (F0 m pc ls (.int n :: rest)) := by
  have h1 : ¬ n < 0 := fun h => hz (Or.inl h)
  have h2 : n.toNatClampNeg ≤ 150 := Nat.not_lt.mp (fun h => hz (Or.inr h))
  refine va_newa (atype := .byte) (ty := .byte) (N' := n.toNatClampNeg) (a0 := (n.toNatClampNeg, .inl (fun _ => 0))) hx hb harr rfl hK hP hD hS hA (fun _ => rfl) h1 rfl (by show n.toNatClampNeg * 1 ≤ 536870912; omega) hcells (Nat.le_trans (Nat.add_le_add_left h2 _) hslots) hdg (fun q cA H1 hK1 hP1 hD1 hS1 => ?_)
  have e1 : s.vm.findClass ("[" ++ FieldType.byte.toString) = some cA := (hK1.2 4 (cA, .byte) rfl).2
  have e2 : s.vm.findClass ("[" ++ FieldType.byte.toString) = some cB := (hK.2 3 (cB, .byte) rfl).2
  have e : cA = cB := Option.some.inj (e1.symm.trans e2)
  subst e
  refine W.widen (k := cells + 1) (n := slots + 150) (Nat.le_refl _) (Nat.add_le_add_left h2 _) ?_
  exact kk q H1 hP1 hD1 hS1
theorem zclone (hx : p.tables.exec = Jvm.exec) (hb : c.code = cc) (hml : c.maxLocals = ls.size) {own : String} {index : Nat} (hown : s.vm.findClass own = some m.cls)
    (hlink : (Cond.methodLink own index ⟨"[B", "clone", "()Ljava/lang/Object;"⟩).before args s = true) (hsame : (Cond.sameMethod "[B" "java/lang/Object" "clone" "()Ljava/lang/Object;").before args s = true)
    (hnat : (Cond.native ⟨"java/lang/Object", "clone", "()Ljava/lang/Object;"⟩).before args s = true) (hinst : (Cond.instanceMethod ⟨"java/lang/Object", "clone", "()Ljava/lang/Object;"⟩).before args s = true)
    (hsel : (Cond.selects "[B" ⟨"[B", "clone", "()Ljava/lang/Object;"⟩ ⟨"java/lang/Object", "clone", "()Ljava/lang/Object;"⟩).before args s = true) (hcl : va_Nw (.castable "[B" "java/lang/Cloneable") s)
    (hK : va_K D vwCl (zT cJ cI cO cB) s) (hP : va_P D vwCl ws H) (hD : va_D A ws) (hS : va_S A H0 H locs) (hA : ∀ q, H0.size ≤ q → A q) (q0 : Nat) {n : Nat} {f : Nat → Int32} (ha : ws[q0]? = some (a, .inl (cB, n, .inl f))) (hfit : ∀ i, i < n → fits .byte (.int (f i)) = true) (hn : n ≤ 150)
    (hframes : 1 ≤ R.frames) (hlocals : (rest.map fun v => v.category).sum + 14 ≤ R.locals) (hcells : cells + 1 ≤ R.cells) (hslots : slots + 150 ≤ R.slots) (hdg : decode cc pc = .ok (.invokevirtual index, 3))
    (kk : ∀ (q : Nat) (H1 : Heap), va_P D vwCl (ws ++ [(q, .inl (cB, n, .inl f))]) H1 → va_D A (ws ++ [(q, .inl (cB, n, .inl f))]) → va_S A H0 H1 locs →
      W p l e R s m args below meth c H1 locs (cells + 1) (slots + 150) Q (F0 m (pc + 3) ls (.ref q :: rest))) : W p l e R s m args below meth c H locs cells slots Q (F0 m pc ls (.ref a :: rest)) := by
  refine va_clone (ad := "[B") (x := (n, .inl f)) (ty := .byte) hx hb hml hown hlink hsame hnat hinst hsel hcl hK hP hD hS hA q0 3 ha rfl (zfcB hK) (fun i v hv => ?_) hframes hlocals hcells (Nat.le_trans (Nat.add_le_add_left hn _) hslots) hdg (fun q H1 hK1 hP1 hD1 hS1 => ?_)
  · have h1 : i < n := by
      have h2 := (Array.getElem?_eq_some_iff.mp hv).1
      rw [vp_cell_i, arrV_size] at h2
      exact h2
    rw [vp_cell_i, arrV_read _ _ h1] at hv
    cases hv
    exact hfit i h1
  · refine W.widen (k := cells + 1) (n := slots + 150) (Nat.le_refl _) (Nat.add_le_add_left hn _) ?_
    exact kk q H1 hP1 hD1 hS1
end ZJDK

