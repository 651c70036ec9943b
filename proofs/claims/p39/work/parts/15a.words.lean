theorem dX0_function_0 : decode cX0_function 0 = .ok (.iload_n 1, 1) := by decide +kernel
theorem dX0_function_1 : decode cX0_function 1 = .ok (.ifCond .lt 20, 3) := by decide +kernel
theorem dX0_function_4 : decode cX0_function 4 = .ok (.iload_n 1, 1) := by decide +kernel
theorem dX0_function_5 : decode cX0_function 5 = .ok (.aload_n 0, 1) := by decide +kernel
theorem dX0_function_6 : decode cX0_function 6 = .ok (.getfield 35, 3) := by decide +kernel
theorem dX0_function_9 : decode cX0_function 9 = .ok (.if_icmp .ge 12, 3) := by decide +kernel
theorem dX0_function_12 : decode cX0_function 12 = .ok (.aload_n 0, 1) := by decide +kernel
theorem dX0_function_13 : decode cX0_function 13 = .ok (.getfield 11, 3) := by decide +kernel
theorem dX0_function_16 : decode cX0_function 16 = .ok (.iload_n 1, 1) := by decide +kernel
theorem dX0_function_17 : decode cX0_function 17 = .ok (.aaload, 1) := by decide +kernel
theorem dX0_function_18 : decode cX0_function 18 = .ok (.goto 4, 3) := by decide +kernel
theorem dX0_function_21 : decode cX0_function 21 = .ok (.aconst_null, 1) := by decide +kernel
theorem dX0_function_22 : decode cX0_function 22 = .ok (.areturn, 1) := by decide +kernel
theorem dX0_goal_0 : decode cX0_goal 0 = .ok (.iload_n 1, 1) := by decide +kernel
theorem dX0_goal_1 : decode cX0_goal 1 = .ok (.ifCond .lt 20, 3) := by decide +kernel
theorem dX0_goal_4 : decode cX0_goal 4 = .ok (.iload_n 1, 1) := by decide +kernel
theorem dX0_goal_5 : decode cX0_goal 5 = .ok (.aload_n 0, 1) := by decide +kernel
theorem dX0_goal_6 : decode cX0_goal 6 = .ok (.getfield 39, 3) := by decide +kernel
theorem dX0_goal_9 : decode cX0_goal 9 = .ok (.if_icmp .ge 12, 3) := by decide +kernel
theorem dX0_goal_12 : decode cX0_goal 12 = .ok (.aload_n 0, 1) := by decide +kernel
theorem dX0_goal_13 : decode cX0_goal 13 = .ok (.getfield 19, 3) := by decide +kernel
theorem dX0_goal_16 : decode cX0_goal 16 = .ok (.iload_n 1, 1) := by decide +kernel
theorem dX0_goal_17 : decode cX0_goal 17 = .ok (.aaload, 1) := by decide +kernel
theorem dX0_goal_18 : decode cX0_goal 18 = .ok (.goto 4, 3) := by decide +kernel
theorem dX0_goal_21 : decode cX0_goal 21 = .ok (.aconst_null, 1) := by decide +kernel
theorem dX0_goal_22 : decode cX0_goal 22 = .ok (.areturn, 1) := by decide +kernel
theorem dX0_typeOfFunction_0 : decode cX0_typeOfFunction 0 = .ok (.aload_n 0, 1) := by decide +kernel
theorem dX0_typeOfFunction_1 : decode cX0_typeOfFunction 1 = .ok (.iload_n 1, 1) := by decide +kernel
theorem dX0_typeOfFunction_2 : decode cX0_typeOfFunction 2 = .ok (.invokevirtual 42, 3) := by decide +kernel
theorem dX0_typeOfFunction_5 : decode cX0_typeOfFunction 5 = .ok (.astore_n 2, 1) := by decide +kernel
theorem dX0_typeOfFunction_6 : decode cX0_typeOfFunction 6 = .ok (.aload_n 2, 1) := by decide +kernel
theorem dX0_typeOfFunction_7 : decode cX0_typeOfFunction 7 = .ok (.ifnonnull 7, 3) := by decide +kernel
theorem dX0_typeOfFunction_10 : decode cX0_typeOfFunction 10 = .ok (.iconst (-1), 1) := by decide +kernel
theorem dX0_typeOfFunction_11 : decode cX0_typeOfFunction 11 = .ok (.goto 7, 3) := by decide +kernel
theorem dX0_typeOfFunction_14 : decode cX0_typeOfFunction 14 = .ok (.aload_n 2, 1) := by decide +kernel
theorem dX0_typeOfFunction_15 : decode cX0_typeOfFunction 15 = .ok (.getfield 46, 3) := by decide +kernel
theorem dX0_typeOfFunction_18 : decode cX0_typeOfFunction 18 = .ok (.ireturn, 1) := by decide +kernel
theorem dX0_hasAccepted_0 : decode cX0_hasAccepted 0 = .ok (.aload_n 0, 1) := by decide +kernel
theorem dX0_hasAccepted_1 : decode cX0_hasAccepted 1 = .ok (.getfield 49, 3) := by decide +kernel
theorem dX0_hasAccepted_4 : decode cX0_hasAccepted 4 = .ok (.iload_n 1, 1) := by decide +kernel
theorem dX0_hasAccepted_5 : decode cX0_hasAccepted 5 = .ok (.ishr, 1) := by decide +kernel
theorem dX0_hasAccepted_6 : decode cX0_hasAccepted 6 = .ok (.iconst 1, 1) := by decide +kernel
theorem dX0_hasAccepted_7 : decode cX0_hasAccepted 7 = .ok (.iand, 1) := by decide +kernel
theorem dX0_hasAccepted_8 : decode cX0_hasAccepted 8 = .ok (.ifCond .eq 7, 3) := by decide +kernel
theorem dX0_hasAccepted_11 : decode cX0_hasAccepted 11 = .ok (.iconst 1, 1) := by decide +kernel
theorem dX0_hasAccepted_12 : decode cX0_hasAccepted 12 = .ok (.goto 4, 3) := by decide +kernel
theorem dX0_hasAccepted_15 : decode cX0_hasAccepted 15 = .ok (.iconst 0, 1) := by decide +kernel
theorem dX0_hasAccepted_16 : decode cX0_hasAccepted 16 = .ok (.ireturn, 1) := by decide +kernel
theorem dX0_domainsOf_0 : decode cX0_domainsOf 0 = .ok (.iload_n 1, 1) := by decide +kernel
theorem dX0_domainsOf_1 : decode cX0_domainsOf 1 = .ok (.istore_n 2, 1) := by decide +kernel
theorem dX0_domainsOf_2 : decode cX0_domainsOf 2 = .ok (.iconst 0, 1) := by decide +kernel
theorem dX0_domainsOf_3 : decode cX0_domainsOf 3 = .ok (.istore_n 3, 1) := by decide +kernel
theorem dX0_domainsOf_4 : decode cX0_domainsOf 4 = .ok (.aload_n 0, 1) := by decide +kernel
theorem dX0_domainsOf_5 : decode cX0_domainsOf 5 = .ok (.getfield 23, 3) := by decide +kernel
theorem dX0_domainsOf_8 : decode cX0_domainsOf 8 = .ok (.iload_n 2, 1) := by decide +kernel
theorem dX0_domainsOf_9 : decode cX0_domainsOf 9 = .ok (.invokevirtual 52, 3) := by decide +kernel
theorem dX0_domainsOf_12 : decode cX0_domainsOf 12 = .ok (.iconst 5, 1) := by decide +kernel
theorem dX0_domainsOf_13 : decode cX0_domainsOf 13 = .ok (.if_icmp .ne 23, 3) := by decide +kernel
theorem dX0_domainsOf_16 : decode cX0_domainsOf 16 = .ok (.iload_n 3, 1) := by decide +kernel
theorem dX0_domainsOf_17 : decode cX0_domainsOf 17 = .ok (.iconst 4, 1) := by decide +kernel
theorem dX0_domainsOf_18 : decode cX0_domainsOf 18 = .ok (.if_icmp .gt 18, 3) := by decide +kernel
theorem dX0_domainsOf_21 : decode cX0_domainsOf 21 = .ok (.aload_n 0, 1) := by decide +kernel
theorem dX0_domainsOf_22 : decode cX0_domainsOf 22 = .ok (.getfield 23, 3) := by decide +kernel
theorem dX0_domainsOf_25 : decode cX0_domainsOf 25 = .ok (.iload_n 2, 1) := by decide +kernel
theorem dX0_domainsOf_26 : decode cX0_domainsOf 26 = .ok (.invokevirtual 58, 3) := by decide +kernel
theorem dX0_domainsOf_29 : decode cX0_domainsOf 29 = .ok (.istore_n 2, 1) := by decide +kernel
theorem dX0_domainsOf_30 : decode cX0_domainsOf 30 = .ok (.iinc 3 1, 3) := by decide +kernel
theorem dX0_domainsOf_33 : decode cX0_domainsOf 33 = .ok (.goto (-29), 3) := by decide +kernel
theorem dX0_domainsOf_36 : decode cX0_domainsOf 36 = .ok (.iload_n 3, 1) := by decide +kernel
theorem dX0_domainsOf_37 : decode cX0_domainsOf 37 = .ok (.ireturn, 1) := by decide +kernel
theorem dX0_splitIsTooMuch_0 : decode cX0_splitIsTooMuch 0 = .ok (.aload_n 1, 1) := by decide +kernel
theorem dX0_splitIsTooMuch_1 : decode cX0_splitIsTooMuch 1 = .ok (.getfield 83, 3) := by decide +kernel
theorem dX0_splitIsTooMuch_4 : decode cX0_splitIsTooMuch 4 = .ok (.iload_n 2, 1) := by decide +kernel
theorem dX0_splitIsTooMuch_5 : decode cX0_splitIsTooMuch 5 = .ok (.invokevirtual 87, 3) := by decide +kernel
theorem dX0_splitIsTooMuch_8 : decode cX0_splitIsTooMuch 8 = .ok (.istore_n 3, 1) := by decide +kernel
theorem dX0_splitIsTooMuch_9 : decode cX0_splitIsTooMuch 9 = .ok (.aload_n 0, 1) := by decide +kernel
theorem dX0_splitIsTooMuch_10 : decode cX0_splitIsTooMuch 10 = .ok (.getfield 23, 3) := by decide +kernel
theorem dX0_splitIsTooMuch_13 : decode cX0_splitIsTooMuch 13 = .ok (.iload_n 3, 1) := by decide +kernel
theorem dX0_splitIsTooMuch_14 : decode cX0_splitIsTooMuch 14 = .ok (.invokevirtual 52, 3) := by decide +kernel
theorem dX0_splitIsTooMuch_17 : decode cX0_splitIsTooMuch 17 = .ok (.iconst 2, 1) := by decide +kernel
theorem dX0_splitIsTooMuch_18 : decode cX0_splitIsTooMuch 18 = .ok (.if_icmp .eq 5, 3) := by decide +kernel
theorem dX0_splitIsTooMuch_21 : decode cX0_splitIsTooMuch 21 = .ok (.iconst 0, 1) := by decide +kernel
theorem dX0_splitIsTooMuch_22 : decode cX0_splitIsTooMuch 22 = .ok (.ireturn, 1) := by decide +kernel
theorem dX0_splitIsTooMuch_23 : decode cX0_splitIsTooMuch 23 = .ok (.aload_n 0, 1) := by decide +kernel
theorem dX0_splitIsTooMuch_24 : decode cX0_splitIsTooMuch 24 = .ok (.getfield 23, 3) := by decide +kernel
theorem dX0_splitIsTooMuch_27 : decode cX0_splitIsTooMuch 27 = .ok (.iload_n 3, 1) := by decide +kernel
theorem dX0_splitIsTooMuch_28 : decode cX0_splitIsTooMuch 28 = .ok (.invokevirtual 66, 3) := by decide +kernel
theorem dX0_splitIsTooMuch_31 : decode cX0_splitIsTooMuch 31 = .ok (.istore 4, 2) := by decide +kernel
theorem dX0_splitIsTooMuch_33 : decode cX0_splitIsTooMuch 33 = .ok (.iconst 0, 1) := by decide +kernel
theorem dX0_splitIsTooMuch_34 : decode cX0_splitIsTooMuch 34 = .ok (.istore 5, 2) := by decide +kernel
theorem dX0_splitIsTooMuch_36 : decode cX0_splitIsTooMuch 36 = .ok (.iload 5, 2) := by decide +kernel
theorem dX0_splitIsTooMuch_38 : decode cX0_splitIsTooMuch 38 = .ok (.aload_n 0, 1) := by decide +kernel
theorem dX0_splitIsTooMuch_39 : decode cX0_splitIsTooMuch 39 = .ok (.getfield 31, 3) := by decide +kernel
theorem dX0_splitIsTooMuch_42 : decode cX0_splitIsTooMuch 42 = .ok (.getfield 90, 3) := by decide +kernel
theorem dX0_splitIsTooMuch_45 : decode cX0_splitIsTooMuch 45 = .ok (.if_icmp .ge 49, 3) := by decide +kernel
theorem dX0_splitIsTooMuch_48 : decode cX0_splitIsTooMuch 48 = .ok (.aload_n 0, 1) := by decide +kernel
theorem dX0_splitIsTooMuch_49 : decode cX0_splitIsTooMuch 49 = .ok (.getfield 31, 3) := by decide +kernel
theorem dX0_splitIsTooMuch_52 : decode cX0_splitIsTooMuch 52 = .ok (.iload 5, 2) := by decide +kernel
theorem dX0_splitIsTooMuch_54 : decode cX0_splitIsTooMuch 54 = .ok (.invokevirtual 95, 3) := by decide +kernel
theorem dX0_splitIsTooMuch_57 : decode cX0_splitIsTooMuch 57 = .ok (.iload 4, 2) := by decide +kernel
theorem dX0_splitIsTooMuch_59 : decode cX0_splitIsTooMuch 59 = .ok (.if_icmp .ne 29, 3) := by decide +kernel
theorem dX0_splitIsTooMuch_62 : decode cX0_splitIsTooMuch 62 = .ok (.aload_n 1, 1) := by decide +kernel
theorem dX0_splitIsTooMuch_63 : decode cX0_splitIsTooMuch 63 = .ok (.getfield 83, 3) := by decide +kernel
theorem dX0_splitIsTooMuch_66 : decode cX0_splitIsTooMuch 66 = .ok (.getfield 98, 3) := by decide +kernel
theorem dX0_splitIsTooMuch_69 : decode cX0_splitIsTooMuch 69 = .ok (.iconst 1, 1) := by decide +kernel
theorem dX0_splitIsTooMuch_70 : decode cX0_splitIsTooMuch 70 = .ok (.isub, 1) := by decide +kernel
theorem dX0_splitIsTooMuch_71 : decode cX0_splitIsTooMuch 71 = .ok (.aload_n 0, 1) := by decide +kernel
theorem dX0_splitIsTooMuch_72 : decode cX0_splitIsTooMuch 72 = .ok (.getfield 31, 3) := by decide +kernel
theorem dX0_splitIsTooMuch_75 : decode cX0_splitIsTooMuch 75 = .ok (.iload 5, 2) := by decide +kernel
theorem dX0_splitIsTooMuch_77 : decode cX0_splitIsTooMuch 77 = .ok (.invokevirtual 101, 3) := by decide +kernel
theorem dX0_splitIsTooMuch_80 : decode cX0_splitIsTooMuch 80 = .ok (.iadd, 1) := by decide +kernel
theorem dX0_splitIsTooMuch_81 : decode cX0_splitIsTooMuch 81 = .ok (.bipush 12, 2) := by decide +kernel
theorem dX0_splitIsTooMuch_83 : decode cX0_splitIsTooMuch 83 = .ok (.if_icmp .le 5, 3) := by decide +kernel
theorem dX0_splitIsTooMuch_86 : decode cX0_splitIsTooMuch 86 = .ok (.iconst 1, 1) := by decide +kernel
theorem dX0_splitIsTooMuch_87 : decode cX0_splitIsTooMuch 87 = .ok (.ireturn, 1) := by decide +kernel
theorem dX0_splitIsTooMuch_88 : decode cX0_splitIsTooMuch 88 = .ok (.iinc 5 1, 3) := by decide +kernel
theorem dX0_splitIsTooMuch_91 : decode cX0_splitIsTooMuch 91 = .ok (.goto (-55), 3) := by decide +kernel
theorem dX0_splitIsTooMuch_94 : decode cX0_splitIsTooMuch 94 = .ok (.aload_n 0, 1) := by decide +kernel
theorem dX0_splitIsTooMuch_95 : decode cX0_splitIsTooMuch 95 = .ok (.getfield 39, 3) := by decide +kernel
theorem dX0_splitIsTooMuch_98 : decode cX0_splitIsTooMuch 98 = .ok (.aload_n 0, 1) := by decide +kernel
theorem dX0_splitIsTooMuch_99 : decode cX0_splitIsTooMuch 99 = .ok (.getfield 31, 3) := by decide +kernel
theorem dX0_splitIsTooMuch_102 : decode cX0_splitIsTooMuch 102 = .ok (.iload 4, 2) := by decide +kernel
theorem dX0_splitIsTooMuch_104 : decode cX0_splitIsTooMuch 104 = .ok (.invokevirtual 104, 3) := by decide +kernel
theorem dX0_splitIsTooMuch_107 : decode cX0_splitIsTooMuch 107 = .ok (.iadd, 1) := by decide +kernel
theorem dX0_splitIsTooMuch_108 : decode cX0_splitIsTooMuch 108 = .ok (.bipush 40, 2) := by decide +kernel
theorem dX0_splitIsTooMuch_110 : decode cX0_splitIsTooMuch 110 = .ok (.if_icmp .le 7, 3) := by decide +kernel
theorem dX0_splitIsTooMuch_113 : decode cX0_splitIsTooMuch 113 = .ok (.iconst 1, 1) := by decide +kernel
theorem dX0_splitIsTooMuch_114 : decode cX0_splitIsTooMuch 114 = .ok (.goto 4, 3) := by decide +kernel
theorem dX0_splitIsTooMuch_117 : decode cX0_splitIsTooMuch 117 = .ok (.iconst 0, 1) := by decide +kernel
theorem dX0_splitIsTooMuch_118 : decode cX0_splitIsTooMuch 118 = .ok (.ireturn, 1) := by decide +kernel
theorem dX0_formWithValue_0 : decode cX0_formWithValue 0 = .ok (.aload_n 0, 1) := by decide +kernel
theorem dX0_formWithValue_1 : decode cX0_formWithValue 1 = .ok (.getfield 23, 3) := by decide +kernel
theorem dX0_formWithValue_4 : decode cX0_formWithValue 4 = .ok (.invokevirtual 107, 3) := by decide +kernel
theorem dX0_formWithValue_7 : decode cX0_formWithValue 7 = .ok (.istore 5, 2) := by decide +kernel
theorem dX0_formWithValue_9 : decode cX0_formWithValue 9 = .ok (.aload_n 0, 1) := by decide +kernel
theorem dX0_formWithValue_10 : decode cX0_formWithValue 10 = .ok (.getfield 23, 3) := by decide +kernel
theorem dX0_formWithValue_13 : decode cX0_formWithValue 13 = .ok (.iload 5, 2) := by decide +kernel
theorem dX0_formWithValue_15 : decode cX0_formWithValue 15 = .ok (.aload_n 0, 1) := by decide +kernel
theorem dX0_formWithValue_16 : decode cX0_formWithValue 16 = .ok (.getfield 27, 3) := by decide +kernel
theorem dX0_formWithValue_19 : decode cX0_formWithValue 19 = .ok (.aload_n 0, 1) := by decide +kernel
theorem dX0_formWithValue_20 : decode cX0_formWithValue 20 = .ok (.iload_n 1, 1) := by decide +kernel
theorem dX0_formWithValue_21 : decode cX0_formWithValue 21 = .ok (.iload_n 2, 1) := by decide +kernel
theorem dX0_formWithValue_22 : decode cX0_formWithValue 22 = .ok (.iload_n 3, 1) := by decide +kernel
theorem dX0_formWithValue_23 : decode cX0_formWithValue 23 = .ok (.iload 4, 2) := by decide +kernel
theorem dX0_formWithValue_25 : decode cX0_formWithValue 25 = .ok (.invokevirtual 141, 3) := by decide +kernel
theorem dX0_formWithValue_28 : decode cX0_formWithValue 28 = .ok (.invokevirtual 149, 3) := by decide +kernel
theorem dX0_formWithValue_31 : decode cX0_formWithValue 31 = .ok (.invokevirtual 144, 3) := by decide +kernel
theorem dX0_formWithValue_34 : decode cX0_formWithValue 34 = .ok (.ireturn, 1) := by decide +kernel
theorem dX0_withValue_0 : decode cX0_withValue 0 = .ok (.aload_n 0, 1) := by decide +kernel
theorem dX0_withValue_1 : decode cX0_withValue 1 = .ok (.getfield 23, 3) := by decide +kernel
theorem dX0_withValue_4 : decode cX0_withValue 4 = .ok (.aload_n 0, 1) := by decide +kernel
theorem dX0_withValue_5 : decode cX0_withValue 5 = .ok (.getfield 23, 3) := by decide +kernel
theorem dX0_withValue_8 : decode cX0_withValue 8 = .ok (.iload_n 1, 1) := by decide +kernel
theorem dX0_withValue_9 : decode cX0_withValue 9 = .ok (.iload_n 3, 1) := by decide +kernel
theorem dX0_withValue_10 : decode cX0_withValue 10 = .ok (.iload 4, 2) := by decide +kernel
theorem dX0_withValue_12 : decode cX0_withValue 12 = .ok (.iconst 1, 1) := by decide +kernel
theorem dX0_withValue_13 : decode cX0_withValue 13 = .ok (.iadd, 1) := by decide +kernel
theorem dX0_withValue_14 : decode cX0_withValue 14 = .ok (.invokestatic 154, 3) := by decide +kernel
theorem dX0_withValue_17 : decode cX0_withValue 17 = .ok (.iload_n 2, 1) := by decide +kernel
theorem dX0_withValue_18 : decode cX0_withValue 18 = .ok (.iload 4, 2) := by decide +kernel
theorem dX0_withValue_20 : decode cX0_withValue 20 = .ok (.invokestatic 160, 3) := by decide +kernel
theorem dX0_withValue_23 : decode cX0_withValue 23 = .ok (.ireturn, 1) := by decide +kernel
theorem dX0_innermostThatFits_0 : decode cX0_innermostThatFits 0 = .ok (.aload_n 1, 1) := by decide +kernel
theorem dX0_innermostThatFits_1 : decode cX0_innermostThatFits 1 = .ok (.getfield 83, 3) := by decide +kernel
theorem dX0_innermostThatFits_4 : decode cX0_innermostThatFits 4 = .ok (.getfield 98, 3) := by decide +kernel
theorem dX0_innermostThatFits_7 : decode cX0_innermostThatFits 7 = .ok (.istore_n 2, 1) := by decide +kernel
theorem dX0_innermostThatFits_8 : decode cX0_innermostThatFits 8 = .ok (.aload_n 0, 1) := by decide +kernel
theorem dX0_innermostThatFits_9 : decode cX0_innermostThatFits 9 = .ok (.getfield 23, 3) := by decide +kernel
theorem dX0_innermostThatFits_12 : decode cX0_innermostThatFits 12 = .ok (.invokevirtual 107, 3) := by decide +kernel
theorem dX0_innermostThatFits_15 : decode cX0_innermostThatFits 15 = .ok (.istore_n 3, 1) := by decide +kernel
theorem dX0_innermostThatFits_16 : decode cX0_innermostThatFits 16 = .ok (.iconst (-1), 1) := by decide +kernel
theorem dX0_innermostThatFits_17 : decode cX0_innermostThatFits 17 = .ok (.istore 4, 2) := by decide +kernel
theorem dX0_innermostThatFits_19 : decode cX0_innermostThatFits 19 = .ok (.iload_n 2, 1) := by decide +kernel
theorem dX0_innermostThatFits_20 : decode cX0_innermostThatFits 20 = .ok (.iconst 1, 1) := by decide +kernel
theorem dX0_innermostThatFits_21 : decode cX0_innermostThatFits 21 = .ok (.isub, 1) := by decide +kernel
theorem dX0_innermostThatFits_22 : decode cX0_innermostThatFits 22 = .ok (.istore 5, 2) := by decide +kernel
theorem dX0_innermostThatFits_24 : decode cX0_innermostThatFits 24 = .ok (.iload 5, 2) := by decide +kernel
theorem dX0_innermostThatFits_26 : decode cX0_innermostThatFits 26 = .ok (.ifCond .lt 54, 3) := by decide +kernel
theorem dX0_innermostThatFits_29 : decode cX0_innermostThatFits 29 = .ok (.iload 4, 2) := by decide +kernel
theorem dX0_innermostThatFits_31 : decode cX0_innermostThatFits 31 = .ok (.iconst (-1), 1) := by decide +kernel
theorem dX0_innermostThatFits_32 : decode cX0_innermostThatFits 32 = .ok (.if_icmp .ne 48, 3) := by decide +kernel
theorem dX0_innermostThatFits_35 : decode cX0_innermostThatFits 35 = .ok (.aload_n 0, 1) := by decide +kernel
theorem dX0_innermostThatFits_36 : decode cX0_innermostThatFits 36 = .ok (.getfield 23, 3) := by decide +kernel
theorem dX0_innermostThatFits_39 : decode cX0_innermostThatFits 39 = .ok (.aload_n 0, 1) := by decide +kernel
theorem dX0_innermostThatFits_40 : decode cX0_innermostThatFits 40 = .ok (.getfield 23, 3) := by decide +kernel
theorem dX0_innermostThatFits_43 : decode cX0_innermostThatFits 43 = .ok (.aload_n 1, 1) := by decide +kernel
theorem dX0_innermostThatFits_44 : decode cX0_innermostThatFits 44 = .ok (.getfield 83, 3) := by decide +kernel
theorem dX0_innermostThatFits_47 : decode cX0_innermostThatFits 47 = .ok (.iload 5, 2) := by decide +kernel
theorem dX0_innermostThatFits_49 : decode cX0_innermostThatFits 49 = .ok (.invokevirtual 87, 3) := by decide +kernel
theorem dX0_innermostThatFits_52 : decode cX0_innermostThatFits 52 = .ok (.iload_n 2, 1) := by decide +kernel
theorem dX0_innermostThatFits_53 : decode cX0_innermostThatFits 53 = .ok (.iload 5, 2) := by decide +kernel
theorem dX0_innermostThatFits_55 : decode cX0_innermostThatFits 55 = .ok (.isub, 1) := by decide +kernel
theorem dX0_innermostThatFits_56 : decode cX0_innermostThatFits 56 = .ok (.iconst 0, 1) := by decide +kernel
theorem dX0_innermostThatFits_57 : decode cX0_innermostThatFits 57 = .ok (.invokestatic 154, 3) := by decide +kernel
theorem dX0_innermostThatFits_60 : decode cX0_innermostThatFits 60 = .ok (.aload_n 1, 1) := by decide +kernel
theorem dX0_innermostThatFits_61 : decode cX0_innermostThatFits 61 = .ok (.getfield 136, 3) := by decide +kernel
theorem dX0_innermostThatFits_64 : decode cX0_innermostThatFits 64 = .ok (.invokestatic 163, 3) := by decide +kernel
theorem dX0_innermostThatFits_67 : decode cX0_innermostThatFits 67 = .ok (.ifCond .eq 7, 3) := by decide +kernel
theorem dX0_innermostThatFits_70 : decode cX0_innermostThatFits 70 = .ok (.iload 5, 2) := by decide +kernel
theorem dX0_innermostThatFits_72 : decode cX0_innermostThatFits 72 = .ok (.istore 4, 2) := by decide +kernel
theorem dX0_innermostThatFits_74 : decode cX0_innermostThatFits 74 = .ok (.iinc 5 (-1), 3) := by decide +kernel
theorem dX0_innermostThatFits_77 : decode cX0_innermostThatFits 77 = .ok (.goto (-53), 3) := by decide +kernel
theorem dX0_innermostThatFits_80 : decode cX0_innermostThatFits 80 = .ok (.aload_n 0, 1) := by decide +kernel
theorem dX0_innermostThatFits_81 : decode cX0_innermostThatFits 81 = .ok (.getfield 23, 3) := by decide +kernel
theorem dX0_innermostThatFits_84 : decode cX0_innermostThatFits 84 = .ok (.iload_n 3, 1) := by decide +kernel
theorem dX0_innermostThatFits_85 : decode cX0_innermostThatFits 85 = .ok (.invokevirtual 115, 3) := by decide +kernel
theorem dX0_innermostThatFits_88 : decode cX0_innermostThatFits 88 = .ok (.iload 4, 2) := by decide +kernel
theorem dX0_innermostThatFits_90 : decode cX0_innermostThatFits 90 = .ok (.ireturn, 1) := by decide +kernel
theorem dX0_openOnesOf_0 : decode cX0_openOnesOf 0 = .ok (.iconst 0, 1) := by decide +kernel
theorem dX0_openOnesOf_1 : decode cX0_openOnesOf 1 = .ok (.istore_n 2, 1) := by decide +kernel
theorem dX0_openOnesOf_2 : decode cX0_openOnesOf 2 = .ok (.iconst 0, 1) := by decide +kernel
theorem dX0_openOnesOf_3 : decode cX0_openOnesOf 3 = .ok (.istore_n 3, 1) := by decide +kernel
theorem dX0_openOnesOf_4 : decode cX0_openOnesOf 4 = .ok (.iload_n 3, 1) := by decide +kernel
theorem dX0_openOnesOf_5 : decode cX0_openOnesOf 5 = .ok (.aload_n 0, 1) := by decide +kernel
theorem dX0_openOnesOf_6 : decode cX0_openOnesOf 6 = .ok (.getfield 39, 3) := by decide +kernel
theorem dX0_openOnesOf_9 : decode cX0_openOnesOf 9 = .ok (.if_icmp .ge 43, 3) := by decide +kernel
theorem dX0_openOnesOf_12 : decode cX0_openOnesOf 12 = .ok (.aload_n 0, 1) := by decide +kernel
theorem dX0_openOnesOf_13 : decode cX0_openOnesOf 13 = .ok (.iload_n 3, 1) := by decide +kernel
theorem dX0_openOnesOf_14 : decode cX0_openOnesOf 14 = .ok (.invokevirtual 167, 3) := by decide +kernel
theorem dX0_openOnesOf_17 : decode cX0_openOnesOf 17 = .ok (.astore 4, 2) := by decide +kernel
theorem dX0_openOnesOf_19 : decode cX0_openOnesOf 19 = .ok (.aload 4, 2) := by decide +kernel
theorem dX0_openOnesOf_21 : decode cX0_openOnesOf 21 = .ok (.ifnull 25, 3) := by decide +kernel
theorem dX0_openOnesOf_24 : decode cX0_openOnesOf 24 = .ok (.aload 4, 2) := by decide +kernel
theorem dX0_openOnesOf_26 : decode cX0_openOnesOf 26 = .ok (.getfield 147, 3) := by decide +kernel
theorem dX0_openOnesOf_29 : decode cX0_openOnesOf 29 = .ok (.iload_n 1, 1) := by decide +kernel
theorem dX0_openOnesOf_30 : decode cX0_openOnesOf 30 = .ok (.if_icmp .ne 16, 3) := by decide +kernel
theorem dX0_openOnesOf_33 : decode cX0_openOnesOf 33 = .ok (.aload 4, 2) := by decide +kernel
theorem dX0_openOnesOf_35 : decode cX0_openOnesOf 35 = .ok (.getfield 171, 3) := by decide +kernel
theorem dX0_openOnesOf_38 : decode cX0_openOnesOf 38 = .ok (.bipush 111, 2) := by decide +kernel
theorem dX0_openOnesOf_40 : decode cX0_openOnesOf 40 = .ok (.if_icmp .ne 6, 3) := by decide +kernel
theorem dX0_openOnesOf_43 : decode cX0_openOnesOf 43 = .ok (.iinc 2 1, 3) := by decide +kernel
theorem dX0_openOnesOf_46 : decode cX0_openOnesOf 46 = .ok (.iinc 3 1, 3) := by decide +kernel
theorem dX0_openOnesOf_49 : decode cX0_openOnesOf 49 = .ok (.goto (-45), 3) := by decide +kernel
theorem dX0_openOnesOf_52 : decode cX0_openOnesOf 52 = .ok (.iload_n 2, 1) := by decide +kernel
theorem dX0_openOnesOf_53 : decode cX0_openOnesOf 53 = .ok (.ireturn, 1) := by decide +kernel
theorem dX0_anAcceptedOneIsOpen_0 : decode cX0_anAcceptedOneIsOpen 0 = .ok (.iconst 0, 1) := by decide +kernel
theorem dX0_anAcceptedOneIsOpen_1 : decode cX0_anAcceptedOneIsOpen 1 = .ok (.istore_n 1, 1) := by decide +kernel
theorem dX0_anAcceptedOneIsOpen_2 : decode cX0_anAcceptedOneIsOpen 2 = .ok (.iload_n 1, 1) := by decide +kernel
theorem dX0_anAcceptedOneIsOpen_3 : decode cX0_anAcceptedOneIsOpen 3 = .ok (.aload_n 0, 1) := by decide +kernel
theorem dX0_anAcceptedOneIsOpen_4 : decode cX0_anAcceptedOneIsOpen 4 = .ok (.getfield 35, 3) := by decide +kernel
theorem dX0_anAcceptedOneIsOpen_7 : decode cX0_anAcceptedOneIsOpen 7 = .ok (.if_icmp .ge 27, 3) := by decide +kernel
theorem dX0_anAcceptedOneIsOpen_10 : decode cX0_anAcceptedOneIsOpen 10 = .ok (.aload_n 0, 1) := by decide +kernel
theorem dX0_anAcceptedOneIsOpen_11 : decode cX0_anAcceptedOneIsOpen 11 = .ok (.iload_n 1, 1) := by decide +kernel
theorem dX0_anAcceptedOneIsOpen_12 : decode cX0_anAcceptedOneIsOpen 12 = .ok (.invokevirtual 181, 3) := by decide +kernel
theorem dX0_anAcceptedOneIsOpen_15 : decode cX0_anAcceptedOneIsOpen 15 = .ok (.ifCond .eq 13, 3) := by decide +kernel
theorem dX0_anAcceptedOneIsOpen_18 : decode cX0_anAcceptedOneIsOpen 18 = .ok (.aload_n 0, 1) := by decide +kernel
theorem dX0_anAcceptedOneIsOpen_19 : decode cX0_anAcceptedOneIsOpen 19 = .ok (.iload_n 1, 1) := by decide +kernel
theorem dX0_anAcceptedOneIsOpen_20 : decode cX0_anAcceptedOneIsOpen 20 = .ok (.invokevirtual 184, 3) := by decide +kernel
theorem dX0_anAcceptedOneIsOpen_23 : decode cX0_anAcceptedOneIsOpen 23 = .ok (.ifCond .le 5, 3) := by decide +kernel
theorem dX0_anAcceptedOneIsOpen_26 : decode cX0_anAcceptedOneIsOpen 26 = .ok (.iconst 1, 1) := by decide +kernel
theorem dX0_anAcceptedOneIsOpen_27 : decode cX0_anAcceptedOneIsOpen 27 = .ok (.ireturn, 1) := by decide +kernel
theorem dX0_anAcceptedOneIsOpen_28 : decode cX0_anAcceptedOneIsOpen 28 = .ok (.iinc 1 1, 3) := by decide +kernel
theorem dX0_anAcceptedOneIsOpen_31 : decode cX0_anAcceptedOneIsOpen 31 = .ok (.goto (-29), 3) := by decide +kernel
theorem dX0_anAcceptedOneIsOpen_34 : decode cX0_anAcceptedOneIsOpen 34 = .ok (.iconst 0, 1) := by decide +kernel
theorem dX0_anAcceptedOneIsOpen_35 : decode cX0_anAcceptedOneIsOpen 35 = .ok (.ireturn, 1) := by decide +kernel
theorem dX0_twoAreAlike_0 : decode cX0_twoAreAlike 0 = .ok (.iconst 0, 1) := by decide +kernel
theorem dX0_twoAreAlike_1 : decode cX0_twoAreAlike 1 = .ok (.istore_n 1, 1) := by decide +kernel
theorem dX0_twoAreAlike_2 : decode cX0_twoAreAlike 2 = .ok (.iload_n 1, 1) := by decide +kernel
theorem dX0_twoAreAlike_3 : decode cX0_twoAreAlike 3 = .ok (.aload_n 0, 1) := by decide +kernel
theorem dX0_twoAreAlike_4 : decode cX0_twoAreAlike 4 = .ok (.getfield 39, 3) := by decide +kernel
theorem dX0_twoAreAlike_7 : decode cX0_twoAreAlike 7 = .ok (.if_icmp .ge 46, 3) := by decide +kernel
theorem dX0_twoAreAlike_10 : decode cX0_twoAreAlike 10 = .ok (.iload_n 1, 1) := by decide +kernel
theorem dX0_twoAreAlike_11 : decode cX0_twoAreAlike 11 = .ok (.iconst 1, 1) := by decide +kernel
theorem dX0_twoAreAlike_12 : decode cX0_twoAreAlike 12 = .ok (.iadd, 1) := by decide +kernel
theorem dX0_twoAreAlike_13 : decode cX0_twoAreAlike 13 = .ok (.istore_n 2, 1) := by decide +kernel
theorem dX0_twoAreAlike_14 : decode cX0_twoAreAlike 14 = .ok (.iload_n 2, 1) := by decide +kernel
theorem dX0_twoAreAlike_15 : decode cX0_twoAreAlike 15 = .ok (.aload_n 0, 1) := by decide +kernel
theorem dX0_twoAreAlike_16 : decode cX0_twoAreAlike 16 = .ok (.getfield 39, 3) := by decide +kernel
theorem dX0_twoAreAlike_19 : decode cX0_twoAreAlike 19 = .ok (.if_icmp .ge 28, 3) := by decide +kernel
theorem dX0_twoAreAlike_22 : decode cX0_twoAreAlike 22 = .ok (.aload_n 0, 1) := by decide +kernel
theorem dX0_twoAreAlike_23 : decode cX0_twoAreAlike 23 = .ok (.aload_n 0, 1) := by decide +kernel
theorem dX0_twoAreAlike_24 : decode cX0_twoAreAlike 24 = .ok (.iload_n 1, 1) := by decide +kernel
theorem dX0_twoAreAlike_25 : decode cX0_twoAreAlike 25 = .ok (.invokevirtual 167, 3) := by decide +kernel
theorem dX0_twoAreAlike_28 : decode cX0_twoAreAlike 28 = .ok (.aload_n 0, 1) := by decide +kernel
theorem dX0_twoAreAlike_29 : decode cX0_twoAreAlike 29 = .ok (.iload_n 2, 1) := by decide +kernel
theorem dX0_twoAreAlike_30 : decode cX0_twoAreAlike 30 = .ok (.invokevirtual 167, 3) := by decide +kernel
theorem dX0_twoAreAlike_33 : decode cX0_twoAreAlike 33 = .ok (.invokevirtual 187, 3) := by decide +kernel
theorem dX0_twoAreAlike_36 : decode cX0_twoAreAlike 36 = .ok (.ifCond .eq 5, 3) := by decide +kernel
theorem dX0_twoAreAlike_39 : decode cX0_twoAreAlike 39 = .ok (.iconst 1, 1) := by decide +kernel
theorem dX0_twoAreAlike_40 : decode cX0_twoAreAlike 40 = .ok (.ireturn, 1) := by decide +kernel
theorem dX0_twoAreAlike_41 : decode cX0_twoAreAlike 41 = .ok (.iinc 2 1, 3) := by decide +kernel
theorem dX0_twoAreAlike_44 : decode cX0_twoAreAlike 44 = .ok (.goto (-30), 3) := by decide +kernel
theorem dX0_twoAreAlike_47 : decode cX0_twoAreAlike 47 = .ok (.iinc 1 1, 3) := by decide +kernel
theorem dX0_twoAreAlike_50 : decode cX0_twoAreAlike 50 = .ok (.goto (-48), 3) := by decide +kernel
theorem dX0_twoAreAlike_53 : decode cX0_twoAreAlike 53 = .ok (.iconst 0, 1) := by decide +kernel
theorem dX0_twoAreAlike_54 : decode cX0_twoAreAlike 54 = .ok (.ireturn, 1) := by decide +kernel
theorem dX0_areAlike_0 : decode cX0_areAlike 0 = .ok (.aload_n 1, 1) := by decide +kernel
theorem dX0_areAlike_1 : decode cX0_areAlike 1 = .ok (.ifnull 18, 3) := by decide +kernel
theorem dX0_areAlike_4 : decode cX0_areAlike 4 = .ok (.aload_n 2, 1) := by decide +kernel
theorem dX0_areAlike_5 : decode cX0_areAlike 5 = .ok (.ifnull 14, 3) := by decide +kernel
theorem dX0_areAlike_8 : decode cX0_areAlike 8 = .ok (.aload_n 1, 1) := by decide +kernel
theorem dX0_areAlike_9 : decode cX0_areAlike 9 = .ok (.getfield 147, 3) := by decide +kernel
theorem dX0_areAlike_12 : decode cX0_areAlike 12 = .ok (.aload_n 2, 1) := by decide +kernel
theorem dX0_areAlike_13 : decode cX0_areAlike 13 = .ok (.getfield 147, 3) := by decide +kernel
theorem dX0_areAlike_16 : decode cX0_areAlike 16 = .ok (.if_icmp .eq 5, 3) := by decide +kernel
theorem dX0_areAlike_19 : decode cX0_areAlike 19 = .ok (.iconst 0, 1) := by decide +kernel
theorem dX0_areAlike_20 : decode cX0_areAlike 20 = .ok (.ireturn, 1) := by decide +kernel
theorem dX0_areAlike_21 : decode cX0_areAlike 21 = .ok (.aload_n 1, 1) := by decide +kernel
theorem dX0_areAlike_22 : decode cX0_areAlike 22 = .ok (.getfield 171, 3) := by decide +kernel
theorem dX0_areAlike_25 : decode cX0_areAlike 25 = .ok (.bipush 115, 2) := by decide +kernel
theorem dX0_areAlike_27 : decode cX0_areAlike 27 = .ok (.if_icmp .eq 12, 3) := by decide +kernel
theorem dX0_areAlike_30 : decode cX0_areAlike 30 = .ok (.aload_n 2, 1) := by decide +kernel
theorem dX0_areAlike_31 : decode cX0_areAlike 31 = .ok (.getfield 171, 3) := by decide +kernel
theorem dX0_areAlike_34 : decode cX0_areAlike 34 = .ok (.bipush 115, 2) := by decide +kernel
theorem dX0_areAlike_36 : decode cX0_areAlike 36 = .ok (.if_icmp .ne 5, 3) := by decide +kernel
theorem dX0_areAlike_39 : decode cX0_areAlike 39 = .ok (.iconst 0, 1) := by decide +kernel
theorem dX0_areAlike_40 : decode cX0_areAlike 40 = .ok (.ireturn, 1) := by decide +kernel
theorem dX0_areAlike_41 : decode cX0_areAlike 41 = .ok (.iconst 0, 1) := by decide +kernel
theorem dX0_areAlike_42 : decode cX0_areAlike 42 = .ok (.istore_n 3, 1) := by decide +kernel
theorem dX0_areAlike_43 : decode cX0_areAlike 43 = .ok (.iload_n 3, 1) := by decide +kernel
theorem dX0_areAlike_44 : decode cX0_areAlike 44 = .ok (.aload_n 1, 1) := by decide +kernel
theorem dX0_areAlike_45 : decode cX0_areAlike 45 = .ok (.getfield 137, 3) := by decide +kernel
theorem dX0_areAlike_48 : decode cX0_areAlike 48 = .ok (.arraylength, 1) := by decide +kernel
theorem dX0_areAlike_49 : decode cX0_areAlike 49 = .ok (.if_icmp .ge 42, 3) := by decide +kernel
theorem dX0_areAlike_52 : decode cX0_areAlike 52 = .ok (.iload_n 3, 1) := by decide +kernel
theorem dX0_areAlike_53 : decode cX0_areAlike 53 = .ok (.aload_n 2, 1) := by decide +kernel
theorem dX0_areAlike_54 : decode cX0_areAlike 54 = .ok (.getfield 137, 3) := by decide +kernel
theorem dX0_areAlike_57 : decode cX0_areAlike 57 = .ok (.arraylength, 1) := by decide +kernel
theorem dX0_areAlike_58 : decode cX0_areAlike 58 = .ok (.if_icmp .ge 33, 3) := by decide +kernel
theorem dX0_areAlike_61 : decode cX0_areAlike 61 = .ok (.aload_n 0, 1) := by decide +kernel
theorem dX0_areAlike_62 : decode cX0_areAlike 62 = .ok (.getfield 23, 3) := by decide +kernel
theorem dX0_areAlike_65 : decode cX0_areAlike 65 = .ok (.aload_n 1, 1) := by decide +kernel
theorem dX0_areAlike_66 : decode cX0_areAlike 66 = .ok (.getfield 137, 3) := by decide +kernel
theorem dX0_areAlike_69 : decode cX0_areAlike 69 = .ok (.iload_n 3, 1) := by decide +kernel
theorem dX0_areAlike_70 : decode cX0_areAlike 70 = .ok (.iaload, 1) := by decide +kernel
theorem dX0_areAlike_71 : decode cX0_areAlike 71 = .ok (.aload_n 2, 1) := by decide +kernel
theorem dX0_areAlike_72 : decode cX0_areAlike 72 = .ok (.getfield 137, 3) := by decide +kernel
theorem dX0_areAlike_75 : decode cX0_areAlike 75 = .ok (.iload_n 3, 1) := by decide +kernel
theorem dX0_areAlike_76 : decode cX0_areAlike 76 = .ok (.iaload, 1) := by decide +kernel
theorem dX0_areAlike_77 : decode cX0_areAlike 77 = .ok (.invokestatic 191, 3) := by decide +kernel
theorem dX0_areAlike_80 : decode cX0_areAlike 80 = .ok (.ifCond .ne 5, 3) := by decide +kernel
theorem dX0_areAlike_83 : decode cX0_areAlike 83 = .ok (.iconst 0, 1) := by decide +kernel
theorem dX0_areAlike_84 : decode cX0_areAlike 84 = .ok (.ireturn, 1) := by decide +kernel
theorem dX0_areAlike_85 : decode cX0_areAlike 85 = .ok (.iinc 3 1, 3) := by decide +kernel
theorem dX0_areAlike_88 : decode cX0_areAlike 88 = .ok (.goto (-45), 3) := by decide +kernel
theorem dX0_areAlike_91 : decode cX0_areAlike 91 = .ok (.iconst 1, 1) := by decide +kernel
theorem dX0_areAlike_92 : decode cX0_areAlike 92 = .ok (.ireturn, 1) := by decide +kernel
theorem wm1001 : (Jvm.Cond.methodLink "TelescopeCourt$Docket" (141 : Nat) ({ cls := "TelescopeCourt$Docket", name := "withValue", desc := "(IIII)I" } : Jvm.MethodName)) ∈ W0 := wm_of 1001 (by decide +kernel) (by decide +kernel)
theorem wm1003 : (Jvm.Cond.instanceMethod ({ cls := "TelescopeCourt$Docket", name := "withValue", desc := "(IIII)I" } : Jvm.MethodName)) ∈ W0 := wm_of 1003 (by decide +kernel) (by decide +kernel)
theorem wm1004 : (Jvm.Cond.code ({ cls := "TelescopeCourt$Docket", name := "withValue", desc := "(IIII)I" } : Jvm.MethodName) prog_2_method_12_code (5 : Nat) (Option.some Jvm.ClassFile.FieldType.int)) ∈ W0 := wm_of 1004 (by decide +kernel) (by decide +kernel)
theorem wm1007 : (Jvm.Cond.methodLink "TelescopeCourt$Docket" (149 : Nat) ({ cls := "TelescopeCourt$Forms", name := "formOf", desc := "(I)I" } : Jvm.MethodName)) ∈ W0 := wm_of 1007 (by decide +kernel) (by decide +kernel)
theorem wm1008 : (Jvm.Cond.methodLink "TelescopeCourt$Docket" (144 : Nat) ({ cls := "TelescopeCourt$Terms", name := "keep", desc := "(II)I" } : Jvm.MethodName)) ∈ W0 := wm_of 1008 (by decide +kernel) (by decide +kernel)
theorem wm1009 : (Jvm.Cond.methodLink "TelescopeCourt$Docket" (115 : Nat) ({ cls := "TelescopeCourt$Terms", name := "release", desc := "(I)V" } : Jvm.MethodName)) ∈ W0 := wm_of 1009 (by decide +kernel) (by decide +kernel)
theorem wm144 : (Jvm.Cond.fieldLink "TelescopeCourt$Docket" (35 : Nat) "TelescopeCourt$Docket" "functionCount" "I") ∈ W0 := wm_of 144 (by decide +kernel) (by decide +kernel)
theorem wm146 : (Jvm.Cond.fieldLink "TelescopeCourt$Docket" (39 : Nat) "TelescopeCourt$Docket" "goalCount" "I") ∈ W0 := wm_of 146 (by decide +kernel) (by decide +kernel)
theorem wm150 : (Jvm.Cond.fieldLink "TelescopeCourt$Docket" (49 : Nat) "TelescopeCourt$Docket" "acceptedOnes" "I") ∈ W0 := wm_of 150 (by decide +kernel) (by decide +kernel)
theorem wm445 : (Jvm.Cond.instanceMethod ({ cls := "TelescopeCourt$Telescope", name := "typeAt", desc := "(I)I" } : Jvm.MethodName)) ∈ W0 := wm_of 445 (by decide +kernel) (by decide +kernel)
theorem wm446 : (Jvm.Cond.selects "TelescopeCourt$Telescope" ({ cls := "TelescopeCourt$Telescope", name := "typeAt", desc := "(I)I" } : Jvm.MethodName) ({ cls := "TelescopeCourt$Telescope", name := "typeAt", desc := "(I)I" } : Jvm.MethodName)) ∈ W0 := wm_of 446 (by decide +kernel) (by decide +kernel)
theorem wm447 : (Jvm.Cond.code ({ cls := "TelescopeCourt$Telescope", name := "typeAt", desc := "(I)I" } : Jvm.MethodName) prog_10_method_4_code (2 : Nat) (Option.some Jvm.ClassFile.FieldType.int)) ∈ W0 := wm_of 447 (by decide +kernel) (by decide +kernel)
theorem wm487 : (Jvm.Cond.methodLink "TelescopeCourt$Docket" (42 : Nat) ({ cls := "TelescopeCourt$Docket", name := "function", desc := "(I)LTelescopeCourt$Function;" } : Jvm.MethodName)) ∈ W0 := wm_of 487 (by decide +kernel) (by decide +kernel)
theorem wm488 : (Jvm.Cond.instanceMethod ({ cls := "TelescopeCourt$Docket", name := "function", desc := "(I)LTelescopeCourt$Function;" } : Jvm.MethodName)) ∈ W0 := wm_of 488 (by decide +kernel) (by decide +kernel)
theorem wm489 : (Jvm.Cond.selects "TelescopeCourt$Docket" ({ cls := "TelescopeCourt$Docket", name := "function", desc := "(I)LTelescopeCourt$Function;" } : Jvm.MethodName) ({ cls := "TelescopeCourt$Docket", name := "function", desc := "(I)LTelescopeCourt$Function;" } : Jvm.MethodName)) ∈ W0 := wm_of 489 (by decide +kernel) (by decide +kernel)
theorem wm490 : (Jvm.Cond.code ({ cls := "TelescopeCourt$Docket", name := "function", desc := "(I)LTelescopeCourt$Function;" } : Jvm.MethodName) prog_2_method_2_code (2 : Nat) (Option.some (Jvm.ClassFile.FieldType.object "TelescopeCourt$Function"))) ∈ W0 := wm_of 490 (by decide +kernel) (by decide +kernel)
theorem wm495 : (Jvm.Cond.instanceMethod ({ cls := "TelescopeCourt$Forms", name := "formOf", desc := "(I)I" } : Jvm.MethodName)) ∈ W0 := wm_of 495 (by decide +kernel) (by decide +kernel)
theorem wm496 : (Jvm.Cond.selects "TelescopeCourt$Forms" ({ cls := "TelescopeCourt$Forms", name := "formOf", desc := "(I)I" } : Jvm.MethodName) ({ cls := "TelescopeCourt$Forms", name := "formOf", desc := "(I)I" } : Jvm.MethodName)) ∈ W0 := wm_of 496 (by decide +kernel) (by decide +kernel)
theorem wm497 : (Jvm.Cond.code ({ cls := "TelescopeCourt$Forms", name := "formOf", desc := "(I)I" } : Jvm.MethodName) prog_3_method_2_code (6 : Nat) (Option.some Jvm.ClassFile.FieldType.int)) ∈ W0 := wm_of 497 (by decide +kernel) (by decide +kernel)
theorem wm593 : (Jvm.Cond.instanceMethod ({ cls := "TelescopeCourt$Docket", name := "hasAccepted", desc := "(I)Z" } : Jvm.MethodName)) ∈ W0 := wm_of 593 (by decide +kernel) (by decide +kernel)
theorem wm594 : (Jvm.Cond.selects "TelescopeCourt$Docket" ({ cls := "TelescopeCourt$Docket", name := "hasAccepted", desc := "(I)Z" } : Jvm.MethodName) ({ cls := "TelescopeCourt$Docket", name := "hasAccepted", desc := "(I)Z" } : Jvm.MethodName)) ∈ W0 := wm_of 594 (by decide +kernel) (by decide +kernel)
theorem wm595 : (Jvm.Cond.code ({ cls := "TelescopeCourt$Docket", name := "hasAccepted", desc := "(I)Z" } : Jvm.MethodName) prog_2_method_5_code (2 : Nat) (Option.some Jvm.ClassFile.FieldType.boolean)) ∈ W0 := wm_of 595 (by decide +kernel) (by decide +kernel)
theorem wm605 : (Jvm.Cond.instanceMethod ({ cls := "TelescopeCourt$Docket", name := "goal", desc := "(I)LTelescopeCourt$Goal;" } : Jvm.MethodName)) ∈ W0 := wm_of 605 (by decide +kernel) (by decide +kernel)
theorem wm606 : (Jvm.Cond.selects "TelescopeCourt$Docket" ({ cls := "TelescopeCourt$Docket", name := "goal", desc := "(I)LTelescopeCourt$Goal;" } : Jvm.MethodName) ({ cls := "TelescopeCourt$Docket", name := "goal", desc := "(I)LTelescopeCourt$Goal;" } : Jvm.MethodName)) ∈ W0 := wm_of 606 (by decide +kernel) (by decide +kernel)
theorem wm607 : (Jvm.Cond.code ({ cls := "TelescopeCourt$Docket", name := "goal", desc := "(I)LTelescopeCourt$Goal;" } : Jvm.MethodName) prog_2_method_3_code (2 : Nat) (Option.some (Jvm.ClassFile.FieldType.object "TelescopeCourt$Goal"))) ∈ W0 := wm_of 607 (by decide +kernel) (by decide +kernel)
theorem wm616 : (Jvm.Cond.methodLink "TelescopeCourt$Docket" (181 : Nat) ({ cls := "TelescopeCourt$Docket", name := "hasAccepted", desc := "(I)Z" } : Jvm.MethodName)) ∈ W0 := wm_of 616 (by decide +kernel) (by decide +kernel)
theorem wm617 : (Jvm.Cond.methodLink "TelescopeCourt$Docket" (184 : Nat) ({ cls := "TelescopeCourt$Docket", name := "openOnesOf", desc := "(I)I" } : Jvm.MethodName)) ∈ W0 := wm_of 617 (by decide +kernel) (by decide +kernel)
theorem wm618 : (Jvm.Cond.instanceMethod ({ cls := "TelescopeCourt$Docket", name := "openOnesOf", desc := "(I)I" } : Jvm.MethodName)) ∈ W0 := wm_of 618 (by decide +kernel) (by decide +kernel)
theorem wm619 : (Jvm.Cond.selects "TelescopeCourt$Docket" ({ cls := "TelescopeCourt$Docket", name := "openOnesOf", desc := "(I)I" } : Jvm.MethodName) ({ cls := "TelescopeCourt$Docket", name := "openOnesOf", desc := "(I)I" } : Jvm.MethodName)) ∈ W0 := wm_of 619 (by decide +kernel) (by decide +kernel)
theorem wm620 : (Jvm.Cond.code ({ cls := "TelescopeCourt$Docket", name := "openOnesOf", desc := "(I)I" } : Jvm.MethodName) prog_2_method_14_code (5 : Nat) (Option.some Jvm.ClassFile.FieldType.int)) ∈ W0 := wm_of 620 (by decide +kernel) (by decide +kernel)
theorem wm621 : (Jvm.Cond.methodLink "TelescopeCourt$Docket" (167 : Nat) ({ cls := "TelescopeCourt$Docket", name := "goal", desc := "(I)LTelescopeCourt$Goal;" } : Jvm.MethodName)) ∈ W0 := wm_of 621 (by decide +kernel) (by decide +kernel)
theorem wm626 : (Jvm.Cond.methodLink "TelescopeCourt$Docket" (187 : Nat) ({ cls := "TelescopeCourt$Docket", name := "areAlike", desc := "(LTelescopeCourt$Goal;LTelescopeCourt$Goal;)Z" } : Jvm.MethodName)) ∈ W0 := wm_of 626 (by decide +kernel) (by decide +kernel)
theorem wm628 : (Jvm.Cond.instanceMethod ({ cls := "TelescopeCourt$Docket", name := "areAlike", desc := "(LTelescopeCourt$Goal;LTelescopeCourt$Goal;)Z" } : Jvm.MethodName)) ∈ W0 := wm_of 628 (by decide +kernel) (by decide +kernel)
theorem wm629 : (Jvm.Cond.code ({ cls := "TelescopeCourt$Docket", name := "areAlike", desc := "(LTelescopeCourt$Goal;LTelescopeCourt$Goal;)Z" } : Jvm.MethodName) prog_2_method_19_code (4 : Nat) (Option.some Jvm.ClassFile.FieldType.boolean)) ∈ W0 := wm_of 629 (by decide +kernel) (by decide +kernel)
theorem wm866 : (Jvm.Cond.methodLink "TelescopeCourt$Docket" (52 : Nat) ({ cls := "TelescopeCourt$Terms", name := "kindOf", desc := "(I)I" } : Jvm.MethodName)) ∈ W0 := wm_of 866 (by decide +kernel) (by decide +kernel)
theorem wm867 : (Jvm.Cond.methodLink "TelescopeCourt$Docket" (58 : Nat) ({ cls := "TelescopeCourt$Terms", name := "secondOf", desc := "(I)I" } : Jvm.MethodName)) ∈ W0 := wm_of 867 (by decide +kernel) (by decide +kernel)
theorem wm876 : (Jvm.Cond.methodLink "TelescopeCourt$Docket" (66 : Nat) ({ cls := "TelescopeCourt$Terms", name := "firstOf", desc := "(I)I" } : Jvm.MethodName)) ∈ W0 := wm_of 876 (by decide +kernel) (by decide +kernel)
theorem wm969 : (Jvm.Cond.methodLink "TelescopeCourt$Docket" (87 : Nat) ({ cls := "TelescopeCourt$Telescope", name := "typeAt", desc := "(I)I" } : Jvm.MethodName)) ∈ W0 := wm_of 969 (by decide +kernel) (by decide +kernel)
theorem wm970 : (Jvm.Cond.methodLink "TelescopeCourt$Docket" (95 : Nat) ({ cls := "TelescopeCourt$Signature", name := "ownerOf", desc := "(I)I" } : Jvm.MethodName)) ∈ W0 := wm_of 970 (by decide +kernel) (by decide +kernel)
theorem wm971 : (Jvm.Cond.instanceMethod ({ cls := "TelescopeCourt$Signature", name := "ownerOf", desc := "(I)I" } : Jvm.MethodName)) ∈ W0 := wm_of 971 (by decide +kernel) (by decide +kernel)
theorem wm972 : (Jvm.Cond.selects "TelescopeCourt$Signature" ({ cls := "TelescopeCourt$Signature", name := "ownerOf", desc := "(I)I" } : Jvm.MethodName) ({ cls := "TelescopeCourt$Signature", name := "ownerOf", desc := "(I)I" } : Jvm.MethodName)) ∈ W0 := wm_of 972 (by decide +kernel) (by decide +kernel)
theorem wm973 : (Jvm.Cond.code ({ cls := "TelescopeCourt$Signature", name := "ownerOf", desc := "(I)I" } : Jvm.MethodName) prog_9_method_8_code (2 : Nat) (Option.some Jvm.ClassFile.FieldType.int)) ∈ W0 := wm_of 973 (by decide +kernel) (by decide +kernel)
theorem wm974 : (Jvm.Cond.methodLink "TelescopeCourt$Docket" (101 : Nat) ({ cls := "TelescopeCourt$Signature", name := "partsOf", desc := "(I)I" } : Jvm.MethodName)) ∈ W0 := wm_of 974 (by decide +kernel) (by decide +kernel)
theorem wm975 : (Jvm.Cond.instanceMethod ({ cls := "TelescopeCourt$Signature", name := "partsOf", desc := "(I)I" } : Jvm.MethodName)) ∈ W0 := wm_of 975 (by decide +kernel) (by decide +kernel)
theorem wm976 : (Jvm.Cond.selects "TelescopeCourt$Signature" ({ cls := "TelescopeCourt$Signature", name := "partsOf", desc := "(I)I" } : Jvm.MethodName) ({ cls := "TelescopeCourt$Signature", name := "partsOf", desc := "(I)I" } : Jvm.MethodName)) ∈ W0 := wm_of 976 (by decide +kernel) (by decide +kernel)
theorem wm977 : (Jvm.Cond.code ({ cls := "TelescopeCourt$Signature", name := "partsOf", desc := "(I)I" } : Jvm.MethodName) prog_9_method_9_code (2 : Nat) (Option.some Jvm.ClassFile.FieldType.int)) ∈ W0 := wm_of 977 (by decide +kernel) (by decide +kernel)
theorem wm978 : (Jvm.Cond.methodLink "TelescopeCourt$Docket" (104 : Nat) ({ cls := "TelescopeCourt$Signature", name := "constructorsOf", desc := "(I)I" } : Jvm.MethodName)) ∈ W0 := wm_of 978 (by decide +kernel) (by decide +kernel)
theorem wm979 : (Jvm.Cond.instanceMethod ({ cls := "TelescopeCourt$Signature", name := "constructorsOf", desc := "(I)I" } : Jvm.MethodName)) ∈ W0 := wm_of 979 (by decide +kernel) (by decide +kernel)
theorem wm980 : (Jvm.Cond.selects "TelescopeCourt$Signature" ({ cls := "TelescopeCourt$Signature", name := "constructorsOf", desc := "(I)I" } : Jvm.MethodName) ({ cls := "TelescopeCourt$Signature", name := "constructorsOf", desc := "(I)I" } : Jvm.MethodName)) ∈ W0 := wm_of 980 (by decide +kernel) (by decide +kernel)
theorem wm981 : (Jvm.Cond.code ({ cls := "TelescopeCourt$Signature", name := "constructorsOf", desc := "(I)I" } : Jvm.MethodName) prog_9_method_13_code (2 : Nat) (Option.some Jvm.ClassFile.FieldType.int)) ∈ W0 := wm_of 981 (by decide +kernel) (by decide +kernel)
theorem wm987 : (Jvm.Cond.methodLink "TelescopeCourt$Docket" (107 : Nat) ({ cls := "TelescopeCourt$Terms", name := "mark", desc := "()I" } : Jvm.MethodName)) ∈ W0 := wm_of 987 (by decide +kernel) (by decide +kernel)
theorem ws_p15 : Cond.selects "TelescopeCourt$Docket" ⟨"TelescopeCourt$Docket", "withValue", "(IIII)I"⟩ ⟨"TelescopeCourt$Docket", "withValue", "(IIII)I"⟩ ∈ W0 := wms_of 15 (by decide +kernel : lw_privs[15]? = some (⟨"TelescopeCourt$Docket", "withValue", "(IIII)I"⟩, 8))
theorem ws_p8 : Cond.selects "TelescopeCourt$Docket" ⟨"TelescopeCourt$Docket", "areAlike", "(LTelescopeCourt$Goal;LTelescopeCourt$Goal;)Z"⟩ ⟨"TelescopeCourt$Docket", "areAlike", "(LTelescopeCourt$Goal;LTelescopeCourt$Goal;)Z"⟩ ∈ W0 := wms_of 8 (by decide +kernel : lw_privs[8]? = some (⟨"TelescopeCourt$Docket", "areAlike", "(LTelescopeCourt$Goal;LTelescopeCourt$Goal;)Z"⟩, 8))
theorem nw1005 : (Jvm.Cond.methodLinkNest "TelescopeCourt$Docket" (154 : Nat) ({ cls := "TelescopeCourt$Moves", name := "lift", desc := "(LTelescopeCourt$Terms;III)I" } : Jvm.MethodName) "TelescopeCourt") ∈ NW := nw_of 1005 (by decide +kernel) (by decide +kernel)
theorem nw1006 : (Jvm.Cond.methodLinkNest "TelescopeCourt$Docket" (160 : Nat) ({ cls := "TelescopeCourt$Moves", name := "put", desc := "(LTelescopeCourt$Terms;III)I" } : Jvm.MethodName) "TelescopeCourt") ∈ NW := nw_of 1006 (by decide +kernel) (by decide +kernel)
theorem nw1051 : (Jvm.Cond.methodLinkNest "TelescopeCourt$Docket" (163 : Nat) ({ cls := "TelescopeCourt$Moves", name := "same", desc := "(LTelescopeCourt$Terms;II)Z" } : Jvm.MethodName) "TelescopeCourt") ∈ NW := nw_of 1051 (by decide +kernel) (by decide +kernel)
theorem nw106 : (Jvm.Cond.fieldLinkNest "TelescopeCourt$Docket" (90 : Nat) "TelescopeCourt$Signature" "constructorCount" "I" "TelescopeCourt") ∈ NW := nw_of 106 (by decide +kernel) (by decide +kernel)
theorem nw187 : (Jvm.Cond.fieldLinkNest "TelescopeCourt$Docket" (98 : Nat) "TelescopeCourt$Telescope" "many" "I" "TelescopeCourt") ∈ NW := nw_of 187 (by decide +kernel) (by decide +kernel)
theorem nw630 : (Jvm.Cond.methodLinkNest "TelescopeCourt$Docket" (191 : Nat) ({ cls := "TelescopeCourt$Moves", name := "meet", desc := "(LTelescopeCourt$Terms;II)Z" } : Jvm.MethodName) "TelescopeCourt") ∈ NW := nw_of 630 (by decide +kernel) (by decide +kernel)
theorem nw885 : (Jvm.Cond.fieldLinkNest "TelescopeCourt$Docket" (46 : Nat) "TelescopeCourt$Function" "type" "I" "TelescopeCourt") ∈ NW := nw_of 885 (by decide +kernel) (by decide +kernel)
theorem nw906 : (Jvm.Cond.fieldLinkNest "TelescopeCourt$Docket" (147 : Nat) "TelescopeCourt$Goal" "function" "I" "TelescopeCourt") ∈ NW := nw_of 906 (by decide +kernel) (by decide +kernel)
theorem nw909 : (Jvm.Cond.fieldLinkNest "TelescopeCourt$Docket" (83 : Nat) "TelescopeCourt$Goal" "context" "LTelescopeCourt$Telescope;" "TelescopeCourt") ∈ NW := nw_of 909 (by decide +kernel) (by decide +kernel)
theorem nw913 : (Jvm.Cond.fieldLinkNest "TelescopeCourt$Docket" (136 : Nat) "TelescopeCourt$Goal" "type" "I" "TelescopeCourt") ∈ NW := nw_of 913 (by decide +kernel) (by decide +kernel)
theorem nw918 : (Jvm.Cond.fieldLinkNest "TelescopeCourt$Docket" (137 : Nat) "TelescopeCourt$Goal" "patterns" "[I" "TelescopeCourt") ∈ NW := nw_of 918 (by decide +kernel) (by decide +kernel)
theorem nw922 : (Jvm.Cond.fieldLinkNest "TelescopeCourt$Docket" (171 : Nat) "TelescopeCourt$Goal" "state" "C" "TelescopeCourt") ∈ NW := nw_of 922 (by decide +kernel) (by decide +kernel)
