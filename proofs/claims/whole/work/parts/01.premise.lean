-- every start that meets the premises has the array class of StackTraceElement (the printed start's table of classes has none of that name)
theorem st_need {a : Array Value} {s : State} (h : (Jvm.Cond.and given_1 narrow_1).before a s = true) : ∃ c, s.vm.findClass "[Ljava/lang/StackTraceElement;" = some c := by
  have h1 := flat_of_before _ h (Jvm.Cond.not (Jvm.Cond.castable "[Ljava/lang/StackTraceElement;" "java/lang/String")) (by decide +kernel)
  cases hc : s.vm.findClass "[Ljava/lang/StackTraceElement;" with
  | some c => exact ⟨c, rfl⟩
  | none => simp [Cond.before, Cond.holds, Cond.value, hc] at h1
theorem st_named {a : Array Value} {s : State} (h : (Jvm.Cond.and given_1 narrow_1).before a s = true) : ∃ k ∈ s.vm.classes.toList, k.name = "[Ljava/lang/StackTraceElement;" := by
  obtain ⟨c, hc⟩ := st_need h
  obtain ⟨hlt, hp, _⟩ := Array.findIdx?_eq_some_iff_getElem.mp hc
  refine ⟨s.vm.classes[c], Array.getElem_mem_toList hlt, ?_⟩
  simp only [Bool.and_eq_true, beq_iff_eq] at hp
  exact hp.1.1.1
