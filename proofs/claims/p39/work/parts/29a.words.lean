theorem dL_law_0 : decode cL_law 0 = .ok (.new 14, 3) := by decide +kernel
theorem dL_law_3 : decode cL_law 3 = .ok (.dup, 1) := by decide +kernel
theorem dL_law_4 : decode cL_law 4 = .ok (.invokespecial 167, 3) := by decide +kernel
theorem dL_law_7 : decode cL_law 7 = .ok (.astore_n 1, 1) := by decide +kernel
theorem wm11 : (Jvm.Cond.initialized "java/lang/Throwable") ∈ W0 := wm_of 11 (by decide +kernel) (by decide +kernel)
theorem wm25 : (Jvm.Cond.classLink "TelescopeCourtLaw" (14 : Nat) "TelescopeCourt") ∈ W0 := wm_of 25 (by decide +kernel) (by decide +kernel)
theorem wm26 : (Jvm.Cond.instantiable "TelescopeCourt" (10 : Nat)) ∈ W0 := wm_of 26 (by decide +kernel) (by decide +kernel)
theorem wm27 : (Jvm.Cond.methodLink "TelescopeCourtLaw" (167 : Nat) ({ cls := "TelescopeCourt", name := "<init>", desc := "()V" } : Jvm.MethodName)) ∈ W0 := wm_of 27 (by decide +kernel) (by decide +kernel)
theorem wm28 : (Jvm.Cond.instanceMethod ({ cls := "TelescopeCourt", name := "<init>", desc := "()V" } : Jvm.MethodName)) ∈ W0 := wm_of 28 (by decide +kernel) (by decide +kernel)
