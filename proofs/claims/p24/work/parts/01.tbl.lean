-- ===== PART A: goes FIRST, ahead of the names: the tables' words, and 'selects' of the private methods out of them =====
/-- a private method of a class that the tables say can be made, by its rows of tables_1 -/
def lw_okq (q : MethodName × Nat) : Prop := (q.1.cls ≠ "java/lang/invoke/MethodHandle" ∧ q.1.cls ≠ "java/lang/invoke/VarHandle") ∧ Cond.instantiable q.1.cls q.2 ∈ tables_1 ∧ Cond.privateMethod q.1 ∈ tables_1 ∧ Cond.instanceMethod q.1 ∈ tables_1
theorem lw_p0 : lw_okq (⟨"Divisorwork", "rowOf", "(I)LDivisorwork$Row;"⟩, 9) := ⟨⟨by decide +kernel, by decide +kernel⟩, List.mem_of_getElem? (i := 31) (by decide +kernel), List.mem_of_getElem? (i := 264) (by decide +kernel), List.mem_of_getElem? (i := 265) (by decide +kernel)⟩
theorem lw_p1 : lw_okq (⟨"java/lang/Throwable", "fillInStackTrace", "(I)Ljava/lang/Throwable;"⟩, 6) := ⟨⟨by decide +kernel, by decide +kernel⟩, List.mem_of_getElem? (i := 306) (by decide +kernel), List.mem_of_getElem? (i := 304) (by decide +kernel), List.mem_of_getElem? (i := 305) (by decide +kernel)⟩
theorem lw_p2 : lw_okq (⟨"Divisorwork", "become", "(LDivisorwork$Row;)I"⟩, 9) := ⟨⟨by decide +kernel, by decide +kernel⟩, List.mem_of_getElem? (i := 31) (by decide +kernel), List.mem_of_getElem? (i := 382) (by decide +kernel), List.mem_of_getElem? (i := 383) (by decide +kernel)⟩
theorem lw_p3 : lw_okq (⟨"Divisorwork", "putLong", "(LDivisorwork$Row;IJ)I"⟩, 9) := ⟨⟨by decide +kernel, by decide +kernel⟩, List.mem_of_getElem? (i := 31) (by decide +kernel), List.mem_of_getElem? (i := 401) (by decide +kernel), List.mem_of_getElem? (i := 402) (by decide +kernel)⟩
theorem lw_p4 : lw_okq (⟨"Divisorwork", "refuse", "()I"⟩, 9) := ⟨⟨by decide +kernel, by decide +kernel⟩, List.mem_of_getElem? (i := 31) (by decide +kernel), List.mem_of_getElem? (i := 456) (by decide +kernel), List.mem_of_getElem? (i := 457) (by decide +kernel)⟩
theorem lw_p5 : lw_okq (⟨"Divisorwork$Numbers", "sumOfSmallerDivisors", "(I)I"⟩, 2) := ⟨⟨by decide +kernel, by decide +kernel⟩, List.mem_of_getElem? (i := 61) (by decide +kernel), List.mem_of_getElem? (i := 965) (by decide +kernel), List.mem_of_getElem? (i := 966) (by decide +kernel)⟩
theorem lw_p6 : lw_okq (⟨"DivisorworkModel", "isThrown", "(ZZ)Z"⟩, 6) := ⟨⟨by decide +kernel, by decide +kernel⟩, List.mem_of_getElem? (i := 1057) (by decide +kernel), List.mem_of_getElem? (i := 1096) (by decide +kernel), List.mem_of_getElem? (i := 1097) (by decide +kernel)⟩
theorem lw_p7 : lw_okq (⟨"DivisorworkModel", "become", "(I[J)I"⟩, 6) := ⟨⟨by decide +kernel, by decide +kernel⟩, List.mem_of_getElem? (i := 1057) (by decide +kernel), List.mem_of_getElem? (i := 1129) (by decide +kernel), List.mem_of_getElem? (i := 1130) (by decide +kernel)⟩
theorem lw_p8 : lw_okq (⟨"DivisorworkModel", "at", "(II)J"⟩, 6) := ⟨⟨by decide +kernel, by decide +kernel⟩, List.mem_of_getElem? (i := 1057) (by decide +kernel), List.mem_of_getElem? (i := 1133) (by decide +kernel), List.mem_of_getElem? (i := 1134) (by decide +kernel)⟩
theorem lw_p9 : lw_okq (⟨"DivisorworkModel", "putAt", "(IIJ)I"⟩, 6) := ⟨⟨by decide +kernel, by decide +kernel⟩, List.mem_of_getElem? (i := 1057) (by decide +kernel), List.mem_of_getElem? (i := 1141) (by decide +kernel), List.mem_of_getElem? (i := 1142) (by decide +kernel)⟩
theorem lw_p10 : lw_okq (⟨"DivisorworkModel", "of", "(I)[J"⟩, 6) := ⟨⟨by decide +kernel, by decide +kernel⟩, List.mem_of_getElem? (i := 1057) (by decide +kernel), List.mem_of_getElem? (i := 1161) (by decide +kernel), List.mem_of_getElem? (i := 1162) (by decide +kernel)⟩
theorem lw_p11 : lw_okq (⟨"DivisorworkModel", "plus", "(JJ)J"⟩, 6) := ⟨⟨by decide +kernel, by decide +kernel⟩, List.mem_of_getElem? (i := 1057) (by decide +kernel), List.mem_of_getElem? (i := 1173) (by decide +kernel), List.mem_of_getElem? (i := 1174) (by decide +kernel)⟩
theorem lw_p12 : lw_okq (⟨"DivisorworkModel", "times", "(JJ)J"⟩, 6) := ⟨⟨by decide +kernel, by decide +kernel⟩, List.mem_of_getElem? (i := 1057) (by decide +kernel), List.mem_of_getElem? (i := 1177) (by decide +kernel), List.mem_of_getElem? (i := 1178) (by decide +kernel)⟩
theorem lw_p13 : lw_okq (⟨"DivisorworkModel", "becomeOrNot", "(I[J)I"⟩, 6) := ⟨⟨by decide +kernel, by decide +kernel⟩, List.mem_of_getElem? (i := 1057) (by decide +kernel), List.mem_of_getElem? (i := 1182) (by decide +kernel), List.mem_of_getElem? (i := 1183) (by decide +kernel)⟩
theorem lw_p14 : lw_okq (⟨"DivisorworkModel", "product", "([J[J)[J"⟩, 6) := ⟨⟨by decide +kernel, by decide +kernel⟩, List.mem_of_getElem? (i := 1057) (by decide +kernel), List.mem_of_getElem? (i := 1190) (by decide +kernel), List.mem_of_getElem? (i := 1191) (by decide +kernel)⟩
theorem lw_p15 : lw_okq (⟨"DivisorworkModel", "hasInverse", "([J)Z"⟩, 6) := ⟨⟨by decide +kernel, by decide +kernel⟩, List.mem_of_getElem? (i := 1057) (by decide +kernel), List.mem_of_getElem? (i := 1198) (by decide +kernel), List.mem_of_getElem? (i := 1199) (by decide +kernel)⟩
def lw_privs_1 : List (MethodName × Nat) := [(⟨"Divisorwork", "rowOf", "(I)LDivisorwork$Row;"⟩, 9), (⟨"java/lang/Throwable", "fillInStackTrace", "(I)Ljava/lang/Throwable;"⟩, 6), (⟨"Divisorwork", "become", "(LDivisorwork$Row;)I"⟩, 9), (⟨"Divisorwork", "putLong", "(LDivisorwork$Row;IJ)I"⟩, 9), (⟨"Divisorwork", "refuse", "()I"⟩, 9), (⟨"Divisorwork$Numbers", "sumOfSmallerDivisors", "(I)I"⟩, 2), (⟨"DivisorworkModel", "isThrown", "(ZZ)Z"⟩, 6), (⟨"DivisorworkModel", "become", "(I[J)I"⟩, 6), (⟨"DivisorworkModel", "at", "(II)J"⟩, 6), (⟨"DivisorworkModel", "putAt", "(IIJ)I"⟩, 6), (⟨"DivisorworkModel", "of", "(I)[J"⟩, 6), (⟨"DivisorworkModel", "plus", "(JJ)J"⟩, 6), (⟨"DivisorworkModel", "times", "(JJ)J"⟩, 6), (⟨"DivisorworkModel", "becomeOrNot", "(I[J)I"⟩, 6), (⟨"DivisorworkModel", "product", "([J[J)[J"⟩, 6), (⟨"DivisorworkModel", "hasInverse", "([J)Z"⟩, 6)]
theorem lw_r1 : ∀ q ∈ lw_privs_1, lw_okq q := List.forall_mem_cons.mpr ⟨lw_p0, List.forall_mem_cons.mpr ⟨lw_p1, List.forall_mem_cons.mpr ⟨lw_p2, List.forall_mem_cons.mpr ⟨lw_p3, List.forall_mem_cons.mpr ⟨lw_p4, List.forall_mem_cons.mpr ⟨lw_p5, List.forall_mem_cons.mpr ⟨lw_p6, List.forall_mem_cons.mpr ⟨lw_p7, List.forall_mem_cons.mpr ⟨lw_p8, List.forall_mem_cons.mpr ⟨lw_p9, List.forall_mem_cons.mpr ⟨lw_p10, List.forall_mem_cons.mpr ⟨lw_p11, List.forall_mem_cons.mpr ⟨lw_p12, List.forall_mem_cons.mpr ⟨lw_p13, List.forall_mem_cons.mpr ⟨lw_p14, List.forall_mem_cons.mpr ⟨lw_p15, fun _ h => absurd h List.not_mem_nil⟩⟩⟩⟩⟩⟩⟩⟩⟩⟩⟩⟩⟩⟩⟩⟩
theorem lw_p16 : lw_okq (⟨"DivisorworkModel", "made", "([JI)[J"⟩, 6) := ⟨⟨by decide +kernel, by decide +kernel⟩, List.mem_of_getElem? (i := 1057) (by decide +kernel), List.mem_of_getElem? (i := 1202) (by decide +kernel), List.mem_of_getElem? (i := 1203) (by decide +kernel)⟩
theorem lw_p17 : lw_okq (⟨"DivisorworkModel", "inverse", "([J)[J"⟩, 6) := ⟨⟨by decide +kernel, by decide +kernel⟩, List.mem_of_getElem? (i := 1057) (by decide +kernel), List.mem_of_getElem? (i := 1206) (by decide +kernel), List.mem_of_getElem? (i := 1207) (by decide +kernel)⟩
theorem lw_p18 : lw_okq (⟨"DivisorworkModel", "byPrimes", "([J)[J"⟩, 6) := ⟨⟨by decide +kernel, by decide +kernel⟩, List.mem_of_getElem? (i := 1057) (by decide +kernel), List.mem_of_getElem? (i := 1210) (by decide +kernel), List.mem_of_getElem? (i := 1211) (by decide +kernel)⟩
theorem lw_p19 : lw_okq (⟨"DivisorworkModel", "isByPrimes", "([JZ)Z"⟩, 6) := ⟨⟨by decide +kernel, by decide +kernel⟩, List.mem_of_getElem? (i := 1057) (by decide +kernel), List.mem_of_getElem? (i := 1265) (by decide +kernel), List.mem_of_getElem? (i := 1266) (by decide +kernel)⟩
theorem lw_p20 : lw_okq (⟨"DivisorworkModel", "totalOf", "([JI)J"⟩, 6) := ⟨⟨by decide +kernel, by decide +kernel⟩, List.mem_of_getElem? (i := 1057) (by decide +kernel), List.mem_of_getElem? (i := 1273) (by decide +kernel), List.mem_of_getElem? (i := 1274) (by decide +kernel)⟩
theorem lw_p21 : lw_okq (⟨"DivisorworkModel", "isNo", "(Z)Z"⟩, 6) := ⟨⟨by decide +kernel, by decide +kernel⟩, List.mem_of_getElem? (i := 1057) (by decide +kernel), List.mem_of_getElem? (i := 1296) (by decide +kernel), List.mem_of_getElem? (i := 1297) (by decide +kernel)⟩
def lw_privs_2 : List (MethodName × Nat) := [(⟨"DivisorworkModel", "made", "([JI)[J"⟩, 6), (⟨"DivisorworkModel", "inverse", "([J)[J"⟩, 6), (⟨"DivisorworkModel", "byPrimes", "([J)[J"⟩, 6), (⟨"DivisorworkModel", "isByPrimes", "([JZ)Z"⟩, 6), (⟨"DivisorworkModel", "totalOf", "([JI)J"⟩, 6), (⟨"DivisorworkModel", "isNo", "(Z)Z"⟩, 6)]
theorem lw_r2 : ∀ q ∈ lw_privs_2, lw_okq q := List.forall_mem_cons.mpr ⟨lw_p16, List.forall_mem_cons.mpr ⟨lw_p17, List.forall_mem_cons.mpr ⟨lw_p18, List.forall_mem_cons.mpr ⟨lw_p19, List.forall_mem_cons.mpr ⟨lw_p20, List.forall_mem_cons.mpr ⟨lw_p21, fun _ h => absurd h List.not_mem_nil⟩⟩⟩⟩⟩⟩
def lw_privs : List (MethodName × Nat) := lw_privs_1 ++ (lw_privs_2)
theorem lw_privs_ok : ∀ q ∈ lw_privs, lw_okq q := by
  show ∀ q ∈ lw_privs_1 ++ (lw_privs_2), lw_okq q
  exact List.forall_mem_append.mpr ⟨lw_r1, lw_r2⟩
/-- a private method of a class above C, where another method of that class is known to be selected on C -/
theorem zs_sel {C : String} {y z : MethodName} {s : State} {args : Array Value} (hy : y.cls ≠ "java/lang/invoke/MethodHandle" ∧ y.cls ≠ "java/lang/invoke/VarHandle") (hc : z.cls = y.cls) (hz : (Cond.selects C z z).before args s = true)
    (hpriv : (Cond.privateMethod y).before args s = true) (hinst : (Cond.instanceMethod y).before args s = true) : (Cond.selects C y y).before args s = true := by
  obtain ⟨mk, methM, hnamed, hmethM, -, -⟩ := Cond.instanceMethod_spec hinst
  have hfound : s.methodFound? y.cls y.name y.desc = some mk := State.methodFound?_of_named hnamed hy
  simp only [Cond.before, Cond.holds, Cond.value] at hz ⊢
  cases hC : s.vm.findClass C with
  | none => simp [hC] at hz
  | some c =>
    cases hr : s.methodFound? z.cls z.name z.desc with
    | none => simp [hC, hr] at hz
    | some r =>
      cases hm : s.methodNamed? z with
      | none => simp [hC, hr, hm] at hz
      | some mz =>
        have hsel : selectMethod {} s.vm c mk = .method mk := selectMethod_private hmethM (Cond.privateMethod_at hpriv mk methM hnamed hmethM)
        have hcls : mk.cls = mz.cls := Option.some.inj ((findClass_of_methodNamed hnamed).symm.trans (by rw [← hc]; exact findClass_of_methodNamed hm))
        simp only [hC, hr, hm] at hz
        simp only [hfound, hnamed, hsel, hcls]
        cases hq : selectMethod {} s.vm c r with
        | method m' =>
          simp only [hq] at hz
          simp at hz ⊢
          exact hz.2
        | _ => simp [hq] at hz
def zs_SB : String := "java/lang/StringBuilder"
def zs_ASB : String := "java/lang/AbstractStringBuilder"
def zs_priv : List MethodName := [⟨zs_ASB, "ensureCapacityInternal", "(I)V"⟩, ⟨zs_ASB, "newCapacity", "(I)I"⟩, ⟨zs_ASB, "inflate", "()V"⟩, ⟨zs_ASB, "appendNull", "()Ljava/lang/AbstractStringBuilder;"⟩, ⟨zs_ASB, "putStringAt", "(ILjava/lang/String;)V"⟩, ⟨zs_ASB, "inflateIfNeededFor", "(Ljava/lang/String;)V"⟩]
theorem zs_priv_ok : ∀ q ∈ zs_priv, (q.cls ≠ "java/lang/invoke/MethodHandle" ∧ q.cls ≠ "java/lang/invoke/VarHandle") ∧ zs_ASB = q.cls ∧ Cond.privateMethod q ∈ tables_1 ∧ Cond.instanceMethod q ∈ tables_1 := by decide +kernel
theorem zs_z : Cond.selects zs_SB ⟨zs_ASB, "isLatin1", "()Z"⟩ ⟨zs_ASB, "isLatin1", "()Z"⟩ ∈ tables_1 := by decide +kernel
def lw_tbl : List Cond := (k2_sels lw_privs ++ zs_priv.map (fun q => Cond.selects zs_SB q q)) ++ tables_1
theorem lw_hts {args : Array Value} {s : State} (hts : ∀ w ∈ tables_1, w.before args s = true) (h : ∀ w ∈ k2_sels lw_privs ++ tables_1, w.before args s = true) : ∀ w ∈ lw_tbl, w.before args s = true := by
  intro w hw
  rcases List.mem_append.mp hw with hw | hw
  · rcases List.mem_append.mp hw with hw | hw
    · exact h w (List.mem_append_left _ hw)
    · obtain ⟨q, hq, rfl⟩ := List.mem_map.mp hw
      obtain ⟨h0, h1, h2, h3⟩ := zs_priv_ok q hq
      exact zs_sel h0 h1 (hts _ zs_z) (hts _ h2) (hts _ h3)
  · exact hts w hw
