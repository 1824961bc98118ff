/-! THE CLAIM OUT OF ONE WALK OF THE LAW'S BODY. Your part is whole_start (and what it stands on); all else here is the same for every law, but numbers. -/
def R_law : String := "DivisorworkLaw"
def lw_P (b : Addr) (xs : List Int32) (args : Array Value) (s : State) : Prop := args = #[.ref b] ∧ s.IntsAt b xs ∧ xs.length ≤ 320 ∧ (Jvm.Cond.and given_1 narrow_1).before args s = true
def lw_Q (_ : Array Value) (s : State) (o : Outcome) (t : State) : Prop := o = .returned (some (.int 1)) ∧ Framed s o t [] 600128 7301098
def lw_Z (below : List Frame) (a : Array Value) (s : State) : State → Prop := fun t => ∃ o, t.status = .running ∧ Ended t below o ∧ lw_Q a s o t
/-- the law's own end, with 1 on the stack, nothing written that was there before, its room as the claim has it -/
theorem lw_ret {p : Program} {l : Launch} {e : Env} {s : State} {m : MethodId} {below : List Frame} {meth : Method} {c : Code} {b : Nat} (hx : p.tables.exec = Jvm.exec) (hb : c.code = code) (hr : meth.sig.returnType = ret) (hlocks : meth.locks = false) {pc : Nat} {H : Heap} {ls : Array Slot} (hdg : decode code pc = .ok (.ireturn, 1)) : W p l e room_1 s m #[Value.ref b] below meth c H [] 600128 7301098 (lw_Z below #[Value.ref b] s) (F0 m pc ls [.int 1]) := by
  intro T hT X
  obtain ⟨fs, hret, hrun, hended, hW, hframe⟩ := X.leave (v := some (.int 1)) (hlocks := hlocks) (fun h => by rw [hr] at h; cases h)
  have hmeth' : T.vm.method? m = some meth := X.method'
  refine ⟨T.setFrames fs, ?_, .returned (some (.int 1)), hrun, hended, rfl, ⟨_, rfl⟩, hW, hframe⟩
  jvm_step X.here [X.here.top, hx, hb, hdg, hmeth', hr, ret, narrow_b1]
  (try refine ⟨rfl, ?_⟩); (try refine ⟨rfl, ?_⟩)
  first | (intro acts; rw [hret _ acts rfl rfl rfl]) | rw [hret _ _ rfl rfl rfl]
  exact Steps.refl _
/-- what holds at the law's entry: the machine, the code, the tables' words (any of lw_tbl by 'hts w (by decide +kernel)'), the script of L ints xs at the cell b, what the Statement gives of the start (any of its parts by flat_of_before) -/
def lw_At (p : Program) (s : State) (m : MethodId) (meth : Method) (c : Code) (b L : Nat) (xs : Nat → Int32) : Prop :=
  p.tables.exec = Jvm.exec ∧ c.code = code ∧ meth.sig.returnType = ret ∧ c.maxLocals = 7 ∧ s.vm.findClass R_law = some m.cls ∧ (∀ w ∈ lw_tbl, w.before #[Value.ref b] s = true) ∧ va_X b L xs s s.heap ∧ b < s.heap.size ∧ meth.locks = false ∧ (Jvm.Cond.and given_1 narrow_1).before #[Value.ref b] s = true
-- ==================== what the Statement gives of the start
section ZENV
variable {s : State} {args : Array Value} {A : Nat → Prop}
theorem zarr {ty : FieldType} (h : (Cond.arrayClass ty).before args s = true) : ∃ cA : ClassId, ArrOfT s cA ty ∧ s.vm.findClass ("[" ++ ty.toString) = some cA := by
  obtain ⟨cA, kA, comp, h1, h2, h3⟩ := Cond.arrayClass_spec h
  exact ⟨cA, fun n z => ⟨fun k h => (by cases h), kA, h2, comp, h3⟩, h1⟩
theorem zarrO {C : String} (h : (Cond.arrayOver (.object C)).before args s = true) : ∃ cA : ClassId, ArrOfT s cA (.object C) ∧ va_RA s cA (.object C) := by
  obtain ⟨comp, cA, kA, h1, h2, h3, h4, h5⟩ := Cond.arrayOver_spec h
  exact ⟨cA, fun n z => ⟨fun k h => (by cases h), kA, h3, comp, h4⟩, kA, comp, h3, h4, h1, h5⟩
theorem zref1 {own tx : String} {k : Nat} (hr : (Cond.stringRef own k tx).before args s = true) (hex : (Cond.exactly (.string own k) "java/lang/String").before args s = true) : ∃ sa, vk_R own k tx sa s := by
  obtain ⟨a, c, cA, kA, q1, -⟩ := Cond.exactly_spec (args := args) (first := s) (o := none) (s := s) (idx := []) (t := .string own k) (cls := "java/lang/String") hex
  exact ⟨a, vk_R.of hr q1⟩
theorem zstr1 {own tx : String} {k n : Nat} {f : Nat → Int32} (hn : n < 2 ^ 31) (hr : (Cond.stringRef own k tx).before args s = true) (hex : (Cond.exactly (.string own k) "java/lang/String").before args s = true) (hco : (Cond.eq (.field (.string own k) "java/lang/String" "coder" "B") (.int 0)).before args s = true)
    (har : (Cond.arrayOf (.field (.string own k) "java/lang/String" "value" "[B") .byte).before args s = true) (hle : (Cond.eq (.length (.field (.string own k) "java/lang/String" "value" "[B")) (.int (Int32.ofNat n))).before args s = true)
    (hel : ∀ j : Nat, j < n → (Cond.eq (.elem (.field (.string own k) "java/lang/String" "value" "[B") (.int (Int32.ofNat j))) (.int (f j))).before args s = true) (hA : ∀ a : Nat, a < s.heap.size → ¬ A a) : ∃ st, vk_R own k tx st s ∧ zSt st n f A s s.heap := by
  obtain ⟨a, c, cA, kA, q1, q2, q3, q4, q5, q6, -⟩ := Cond.exactly_spec (args := args) (first := s) (o := none) (s := s) (idx := []) (t := .string own k) (cls := "java/lang/String") hex
  obtain ⟨t, ht, hT⟩ := va_Tof (f := fun j => .int (f j)) (A := A) hn har (va_eqt hle) (fun j hj => va_eqt (hel j hj)) hA
  exact ⟨a, vk_R.of hr q1, t, ⟨cA, q3, q5, by rw [q6]; exact q2, hA a (Array.getElem?_eq_some_iff.mp q3).1⟩, vk_OFof q1 (va_eqt hco) hA, vk_OFof q1 ht hA, hT⟩
end ZENV
def zfl : List Cond := flatC (Cond.and given_1 narrow_1)
set_option maxRecDepth 100000 in
theorem zfl_ones_l : (zfl.drop 14).take 100 = (List.range 100).map (fun j => Cond.eq (.elem (.static "java/lang/Integer" "DigitOnes" "[B") (.int (Int32.ofNat j))) (.int (zDO j))) := by decide +kernel
theorem zfl_ones : ∀ j, j < 100 → Cond.eq (.elem (.static "java/lang/Integer" "DigitOnes" "[B") (.int (Int32.ofNat j))) (.int (zDO j)) ∈ zfl := fun j hj => List.mem_of_mem_drop (List.mem_of_mem_take (by rw [zfl_ones_l]; exact List.mem_map.mpr ⟨j, List.mem_range.mpr hj, rfl⟩))
set_option maxRecDepth 100000 in
theorem zfl_tens_l : (zfl.drop 117).take 100 = (List.range 100).map (fun j => Cond.eq (.elem (.static "java/lang/Integer" "DigitTens" "[B") (.int (Int32.ofNat j))) (.int (zDT j))) := by decide +kernel
theorem zfl_tens : ∀ j, j < 100 → Cond.eq (.elem (.static "java/lang/Integer" "DigitTens" "[B") (.int (Int32.ofNat j))) (.int (zDT j)) ∈ zfl := fun j hj => List.mem_of_mem_drop (List.mem_of_mem_take (by rw [zfl_tens_l]; exact List.mem_map.mpr ⟨j, List.mem_range.mpr hj, rfl⟩))
set_option maxHeartbeats 4000000 in
set_option maxRecDepth 100000 in
theorem zenvE {s : State} {sc : Nat} {A : Nat → Prop} (hts : ∀ w ∈ lw_tbl, w.before #[Value.ref sc] s = true) (hgv : (Jvm.Cond.and given_1 narrow_1).before #[Value.ref sc] s = true) (hA : ∀ a : Nat, a < s.heap.size → ¬ A a) : zE A s s.heap := by
  have hf : ∀ c ∈ zfl, c.before #[Value.ref sc] s = true := flat_of_before _ hgv
  refine ⟨vx_Zqof (hts (.laysStatic "java/lang/Throwable" "UNASSIGNED_STACK" "[Ljava/lang/StackTraceElement;") (by decide +kernel)) (hts (.initialized "java/lang/Throwable") (by decide +kernel)) (hf (.isRef (.static "java/lang/Throwable" "UNASSIGNED_STACK" "[Ljava/lang/StackTraceElement;")) (by decide +kernel)) hA,
    vx_Zqof (hts (.laysStatic "java/lang/Throwable" "SUPPRESSED_SENTINEL" "Ljava/util/List;") (by decide +kernel)) (hts (.initialized "java/lang/Throwable") (by decide +kernel)) (hf (.isRef (.static "java/lang/Throwable" "SUPPRESSED_SENTINEL" "Ljava/util/List;")) (by decide +kernel)) hA, ?_, ?_⟩
  · refine ⟨zref1 (hts (.stringRef RX7 264 zx_s1) (by decide +kernel)) (hf (.exactly (.string RX7 264) "java/lang/String") (by decide +kernel)), zref1 (hts (.stringRef RX7 267 zx_s2) (by decide +kernel)) (hf (.exactly (.string RX7 267) "java/lang/String") (by decide +kernel)), zref1 (hts (.stringRef RX7 273 zx_s3) (by decide +kernel)) (hf (.exactly (.string RX7 273) "java/lang/String") (by decide +kernel)), zref1 (hts (.stringRef RX7 140 zx_s4) (by decide +kernel)) (hf (.exactly (.string RX7 140) "java/lang/String") (by decide +kernel)), zref1 (hts (.stringRef RX7 233 zx_s5) (by decide +kernel)) (hf (.exactly (.string RX7 233) "java/lang/String") (by decide +kernel)), va_Nw.of rfl (hts (.castable (zxn 1) (zxn 1)) (by decide +kernel)), va_Nw.of rfl (hts (.castable (zxn 2) (zxn 2)) (by decide +kernel)), va_Nw.of rfl (hts (.castable (zxn 3) (zxn 3)) (by decide +kernel)), va_Nw.of rfl (hts (.castable "[B" "java/lang/Cloneable") (by decide +kernel)), va_Nw.of rfl (hts (.declares (Bundle.initS "java/lang/RuntimeException")) (by decide +kernel)), va_Nw.of rfl (hts (.declares (Bundle.initS "java/lang/Exception")) (by decide +kernel)), va_Nw.of rfl (hts (.declares (Bundle.initS Bundle.tN)) (by decide +kernel))⟩
  · refine ⟨va_Zof (hts (.laysStatic "java/lang/String" "COMPACT_STRINGS" "Z") (by decide +kernel)) (hts (.initialized "java/lang/String") (by decide +kernel)) (va_eqt (hf (.eq (.static "java/lang/String" "COMPACT_STRINGS" "Z") (.int 1)) (by decide +kernel))) hA, ?_⟩
    obtain ⟨tT, e1, hT⟩ := va_Tof (N := 100) (ty := .byte) (f := fun j => .int (zDT j)) (A := A) (by decide) (hf (.arrayOf (.static "java/lang/Integer" "DigitTens" "[B") .byte) (by decide +kernel)) (va_eqt (hf (.eq (.length (.static "java/lang/Integer" "DigitTens" "[B")) (.int 100)) (by decide +kernel))) (fun j hj => va_eqt (hf _ (zfl_tens j hj))) hA
    obtain ⟨tO, e2, hO⟩ := va_Tof (N := 100) (ty := .byte) (f := fun j => .int (zDO j)) (A := A) (by decide) (hf (.arrayOf (.static "java/lang/Integer" "DigitOnes" "[B") .byte) (by decide +kernel)) (va_eqt (hf (.eq (.length (.static "java/lang/Integer" "DigitOnes" "[B")) (.int 100)) (by decide +kernel))) (fun j hj => va_eqt (hf _ (zfl_ones j hj))) hA
    exact ⟨tT, tO, va_Zof (hts (.laysStatic "java/lang/Integer" "DigitTens" "[B") (by decide +kernel)) (hts (.initialized "java/lang/Integer") (by decide +kernel)) e1 hA, hT, va_Zof (hts (.laysStatic "java/lang/Integer" "DigitOnes" "[B") (by decide +kernel)) (hts (.initialized "java/lang/Integer") (by decide +kernel)) e2 hA, hO⟩
set_option maxHeartbeats 4000000 in
set_option maxRecDepth 100000 in
theorem zenvK {s : State} {sc : Nat} (hts : ∀ w ∈ lw_tbl, w.before #[Value.ref sc] s = true) (hgv : (Jvm.Cond.and given_1 narrow_1).before #[Value.ref sc] s = true) : zK s := by
  have hf : ∀ c ∈ zfl, c.before #[Value.ref sc] s = true := flat_of_before _ hgv
  exact ⟨⟨va_AO.of (hts (.arrayOver (.object RX4)) (by decide +kernel)), va_Nw.of rfl (hts (.methodLinkNest RX7 15 yX4_init RX7) (by decide +kernel)), va_Nw.of rfl (hts (.methodLinkNest RX7 25 yX3_init RX7) (by decide +kernel)), va_Nw.of rfl (hts (.methodLinkNest RX7 32 yX1_init RX7) (by decide +kernel)), va_Nw.of rfl (hts (.methodLinkNest RX1 11 yX2_init RX7) (by decide +kernel)), va_Nw.of rfl (hts (.methodLinkNest RX7 164 yX5_sumOfSequences RX7) (by decide +kernel))⟩,
    va_Nw.of rfl (hts (.fieldLinkNest RL 13 RX8 "n" "J" RL) (by decide +kernel)), va_Nw.of rfl (hts (.fieldLinkNest RL 53 RX8 "s" "Ljava/lang/String;" RL) (by decide +kernel)), va_Nc.of (hf (.not (.castable (zxn 2) (zxn 1))) (by decide +kernel)), va_Nc.of (hf (.not (.castable (zxn 3) (zxn 1))) (by decide +kernel)), va_Nc.of (hf (.not (.castable (zxn 3) (zxn 2))) (by decide +kernel))⟩
set_option maxHeartbeats 4000000 in
set_option maxRecDepth 100000 in
theorem zenv3 {s : State} {sc : Nat} {A : Nat → Prop} (hts : ∀ w ∈ lw_tbl, w.before #[Value.ref sc] s = true) (hgv : (Jvm.Cond.and given_1 narrow_1).before #[Value.ref sc] s = true) (hA : ∀ a : Nat, a < s.heap.size → ¬ A a) : zT3 A s s.heap := by
  have hf : ∀ c ∈ zfl, c.before #[Value.ref sc] s = true := flat_of_before _ hgv
  refine ⟨zstr1 (by decide) (hts (.stringRef RX9 133 "") (by decide +kernel)) (hf (.exactly (.string RX9 133) "java/lang/String") (by decide +kernel)) (hf (.eq (.field (.string RX9 133) "java/lang/String" "coder" "B") (.int 0)) (by decide +kernel)) (hf (.arrayOf (.field (.string RX9 133) "java/lang/String" "value" "[B") .byte) (by decide +kernel)) (hf (.eq (.length (.field (.string RX9 133) "java/lang/String" "value" "[B")) (.int 0)) (by decide +kernel)) (fun j hj => absurd hj (Nat.not_lt_zero j)) hA,
    zstr1 (by decide) (hts (.stringRef RX9 176 " ") (by decide +kernel)) (hf (.exactly (.string RX9 176) "java/lang/String") (by decide +kernel)) (hf (.eq (.field (.string RX9 176) "java/lang/String" "coder" "B") (.int 0)) (by decide +kernel)) (hf (.arrayOf (.field (.string RX9 176) "java/lang/String" "value" "[B") .byte) (by decide +kernel)) (hf (.eq (.length (.field (.string RX9 176) "java/lang/String" "value" "[B")) (.int 1)) (by decide +kernel)) (fun j hj => ?_) hA,
    zstr1 (by decide) (hts (.stringRef RX9 181 "^") (by decide +kernel)) (hf (.exactly (.string RX9 181) "java/lang/String") (by decide +kernel)) (hf (.eq (.field (.string RX9 181) "java/lang/String" "coder" "B") (.int 0)) (by decide +kernel)) (hf (.arrayOf (.field (.string RX9 181) "java/lang/String" "value" "[B") .byte) (by decide +kernel)) (hf (.eq (.length (.field (.string RX9 181) "java/lang/String" "value" "[B")) (.int 1)) (by decide +kernel)) (fun j hj => ?_) hA⟩
  · have h0 : j = 0 := by omega
    subst h0
    exact hf (.eq (.elem (.field (.string RX9 176) "java/lang/String" "value" "[B") (.int 0)) (.int 32)) (by decide +kernel)
  · have h0 : j = 0 := by omega
    subst h0
    exact hf (.eq (.elem (.field (.string RX9 181) "java/lang/String" "value" "[B") (.int 0)) (.int 94)) (by decide +kernel)
/-- the classes' and arrays' numbers -/
theorem zenvC {s : State} {sc : Nat} (hts : ∀ w ∈ lw_tbl, w.before #[Value.ref sc] s = true) : ∃ (D : va_G) (cJ cI cO cB : ClassId), va_K D vwCl (zT cJ cI cO cB) s := by
  have sub : ∀ {R : String} {T : u_T} {N : Nat} {ws : List Cond}, (∀ w ∈ u_ws R T N, w ∈ ws) → (∀ w ∈ ws, w ∈ lw_tbl) → ∀ w ∈ u_ws R T N, w ∈ lw_tbl := fun h1 h2 w hw => h2 w (h1 w hw)
  obtain ⟨c0, i0, k0⟩ := u_known (C := RJ0) (T := TJ0) (N := 4) (n := 4) hts (by decide +kernel) (hts (.instantiable RJ0 4) (by decide +kernel))
  obtain ⟨c1, i1, k1⟩ := u_known (C := RJ4) (T := TJ4) (N := 4) (n := 4) hts (by decide +kernel) (hts (.instantiable RJ4 4) (by decide +kernel))
  obtain ⟨c2, i2, k2⟩ := u_known (C := RX0) (T := TX0) (N := 2) (n := 2) hts (by decide +kernel) (hts (.instantiable RX0 2) (by decide +kernel))
  obtain ⟨c3, i3, k3⟩ := u_known (C := RX1) (T := TX1) (N := 2) (n := 2) hts (by decide +kernel) (hts (.instantiable RX1 2) (by decide +kernel))
  obtain ⟨c4, i4, k4⟩ := u_known (C := RX2) (T := TX2) (N := 3) (n := 3) hts (by decide +kernel) (hts (.instantiable RX2 3) (by decide +kernel))
  obtain ⟨c5, i5, k5⟩ := u_known (C := RX3) (T := TX3) (N := 1) (n := 1) hts (by decide +kernel) (hts (.instantiable RX3 1) (by decide +kernel))
  obtain ⟨c6, i6, k6⟩ := u_known (C := RX4) (T := TX4) (N := 1) (n := 1) hts (by decide +kernel) (hts (.instantiable RX4 1) (by decide +kernel))
  obtain ⟨c7, i7, k7⟩ := u_known (C := RX7) (T := TX7) (N := 9) (n := 9) hts (by decide +kernel) (hts (.instantiable RX7 9) (by decide +kernel))
  obtain ⟨c8, i8, k8⟩ := u_known (C := RX8) (T := TX8) (N := 2) (n := 2) hts (by decide +kernel) (hts (.instantiable RX8 2) (by decide +kernel))
  obtain ⟨c9, i9, k9⟩ := u_known (C := RX9) (T := TX9) (N := 6) (n := 6) hts (by decide +kernel) (hts (.instantiable RX9 6) (by decide +kernel))
  obtain ⟨cJ, aJ, nJ⟩ := zarr (hts (.arrayClass .long) (by decide +kernel))
  obtain ⟨cI, aI, nI'⟩ := zarr (hts (.arrayClass .int) (by decide +kernel))
  obtain ⟨cB, aB, nB⟩ := zarr (hts (.arrayClass .byte) (by decide +kernel))
  obtain ⟨cO, aO, nO⟩ := zarrO (hts (.arrayOver (.object RX4)) (by decide +kernel))
  refine ⟨(fun k => ([c0, c1, c2, c3, c4, c5, c6, c7, c8, c9] : List ClassId).getD k c0, fun k => ([i0, i1, i2, i3, i4, i5, i6, i7, i8, i9] : List (Nat → Nat)).getD k i0), cJ, cI, cO, cB, ?_, ?_⟩
  · intro k q hq
    match k, hq with
    | 0, hq => cases hq; exact k0
    | 1, hq => cases hq; exact k1
    | 2, hq => cases hq; exact k2
    | 3, hq => cases hq; exact k3
    | 4, hq => cases hq; exact k4
    | 5, hq => cases hq; exact k5
    | 6, hq => cases hq; exact k6
    | 7, hq => cases hq; exact k7
    | 8, hq => cases hq; exact k8
    | 9, hq => cases hq; exact k9
    | k + 10, hq => simp [vwCl] at hq
  · intro k q hq
    match k, hq with
    | 0, hq => cases hq; exact ⟨aJ, nJ⟩
    | 1, hq => cases hq; exact ⟨aI, nI'⟩
    | 2, hq => cases hq; exact ⟨aO, nO⟩
    | 3, hq => cases hq; exact ⟨aB, nB⟩
    | k + 4, hq => simp at hq
