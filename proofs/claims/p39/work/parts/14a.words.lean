theorem dX3_fillWith_0 : decode cX3_fillWith 0 = .ok (.aload_n 0, 1) := by decide +kernel
theorem dX3_fillWith_1 : decode cX3_fillWith 1 = .ok (.bipush 102, 2) := by decide +kernel
theorem dX3_fillWith_3 : decode cX3_fillWith 3 = .ok (.putfield 26, 3) := by decide +kernel
theorem dX3_fillWith_6 : decode cX3_fillWith 6 = .ok (.aload_n 0, 1) := by decide +kernel
theorem dX3_fillWith_7 : decode cX3_fillWith 7 = .ok (.iload_n 1, 1) := by decide +kernel
theorem dX3_fillWith_8 : decode cX3_fillWith 8 = .ok (.putfield 30, 3) := by decide +kernel
theorem dX3_fillWith_11 : decode cX3_fillWith 11 = .ok (.return_, 1) := by decide +kernel
theorem dX3_open_0 : decode cX3_open 0 = .ok (.aload_n 0, 1) := by decide +kernel
theorem dX3_open_1 : decode cX3_open 1 = .ok (.bipush 111, 2) := by decide +kernel
theorem dX3_open_3 : decode cX3_open 3 = .ok (.putfield 26, 3) := by decide +kernel
theorem dX3_open_6 : decode cX3_open 6 = .ok (.aload_n 0, 1) := by decide +kernel
theorem dX3_open_7 : decode cX3_open 7 = .ok (.iconst (-1), 1) := by decide +kernel
theorem dX3_open_8 : decode cX3_open 8 = .ok (.putfield 30, 3) := by decide +kernel
theorem dX3_open_11 : decode cX3_open 11 = .ok (.return_, 1) := by decide +kernel
theorem dX3_splitInto_0 : decode cX3_splitInto 0 = .ok (.aload_n 0, 1) := by decide +kernel
theorem dX3_splitInto_1 : decode cX3_splitInto 1 = .ok (.bipush 115, 2) := by decide +kernel
theorem dX3_splitInto_3 : decode cX3_splitInto 3 = .ok (.putfield 26, 3) := by decide +kernel
theorem dX3_splitInto_6 : decode cX3_splitInto 6 = .ok (.aload_n 0, 1) := by decide +kernel
theorem dX3_splitInto_7 : decode cX3_splitInto 7 = .ok (.iload_n 1, 1) := by decide +kernel
theorem dX3_splitInto_8 : decode cX3_splitInto 8 = .ok (.putfield 33, 3) := by decide +kernel
theorem dX3_splitInto_11 : decode cX3_splitInto 11 = .ok (.aload_n 0, 1) := by decide +kernel
theorem dX3_splitInto_12 : decode cX3_splitInto 12 = .ok (.iload_n 2, 1) := by decide +kernel
theorem dX3_splitInto_13 : decode cX3_splitInto 13 = .ok (.putfield 36, 3) := by decide +kernel
theorem dX3_splitInto_16 : decode cX3_splitInto 16 = .ok (.return_, 1) := by decide +kernel
theorem wm919 : (Jvm.Cond.fieldLink "TelescopeCourt$Goal" (26 : Nat) "TelescopeCourt$Goal" "state" "C") ∈ W0 := wm_of 919 (by decide +kernel) (by decide +kernel)
theorem wm924 : (Jvm.Cond.fieldLink "TelescopeCourt$Goal" (30 : Nat) "TelescopeCourt$Goal" "right" "I") ∈ W0 := wm_of 924 (by decide +kernel) (by decide +kernel)
theorem wm928 : (Jvm.Cond.fieldLink "TelescopeCourt$Goal" (33 : Nat) "TelescopeCourt$Goal" "place" "I") ∈ W0 := wm_of 928 (by decide +kernel) (by decide +kernel)
theorem wm930 : (Jvm.Cond.fieldLink "TelescopeCourt$Goal" (36 : Nat) "TelescopeCourt$Goal" "firstChild" "I") ∈ W0 := wm_of 930 (by decide +kernel) (by decide +kernel)
