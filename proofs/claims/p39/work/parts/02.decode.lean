theorem dX6_lift_0 : decode cX6_lift 0 = .ok (.aload_n 0, 1) := by decide +kernel
theorem dX6_lift_1 : decode cX6_lift 1 = .ok (.iload_n 1, 1) := by decide +kernel
theorem dX6_lift_2 : decode cX6_lift 2 = .ok (.invokevirtual 9, 3) := by decide +kernel
theorem dX6_lift_5 : decode cX6_lift 5 = .ok (.iload_n 3, 1) := by decide +kernel
theorem dX6_lift_6 : decode cX6_lift 6 = .ok (.if_icmp .le 7, 3) := by decide +kernel
theorem dX6_lift_9 : decode cX6_lift 9 = .ok (.iload_n 2, 1) := by decide +kernel
theorem dX6_lift_10 : decode cX6_lift 10 = .ok (.ifCond .ne 5, 3) := by decide +kernel
theorem dX6_lift_13 : decode cX6_lift 13 = .ok (.iload_n 1, 1) := by decide +kernel
theorem dX6_lift_14 : decode cX6_lift 14 = .ok (.ireturn, 1) := by decide +kernel
theorem dX6_lift_15 : decode cX6_lift 15 = .ok (.aload_n 0, 1) := by decide +kernel
theorem dX6_lift_16 : decode cX6_lift 16 = .ok (.iload_n 1, 1) := by decide +kernel
theorem dX6_lift_17 : decode cX6_lift 17 = .ok (.invokevirtual 15, 3) := by decide +kernel
theorem dX6_lift_20 : decode cX6_lift 20 = .ok (.istore 4, 2) := by decide +kernel
theorem dX6_lift_22 : decode cX6_lift 22 = .ok (.iload 4, 2) := by decide +kernel
theorem dX6_lift_24 : decode cX6_lift 24 = .ok (.iconst 1, 1) := by decide +kernel
theorem dX6_lift_25 : decode cX6_lift 25 = .ok (.if_icmp .ne 16, 3) := by decide +kernel
theorem dX6_lift_28 : decode cX6_lift 28 = .ok (.aload_n 0, 1) := by decide +kernel
theorem dX6_lift_29 : decode cX6_lift 29 = .ok (.iconst 1, 1) := by decide +kernel
theorem dX6_lift_30 : decode cX6_lift 30 = .ok (.aload_n 0, 1) := by decide +kernel
theorem dX6_lift_31 : decode cX6_lift 31 = .ok (.iload_n 1, 1) := by decide +kernel
theorem dX6_lift_32 : decode cX6_lift 32 = .ok (.invokevirtual 18, 3) := by decide +kernel
theorem dX6_lift_35 : decode cX6_lift 35 = .ok (.iload_n 2, 1) := by decide +kernel
theorem dX6_lift_36 : decode cX6_lift 36 = .ok (.iadd, 1) := by decide +kernel
theorem dX6_lift_37 : decode cX6_lift 37 = .ok (.invokevirtual 21, 3) := by decide +kernel
theorem dX6_lift_40 : decode cX6_lift 40 = .ok (.ireturn, 1) := by decide +kernel
theorem dX6_lift_41 : decode cX6_lift 41 = .ok (.aload_n 0, 1) := by decide +kernel
theorem dX6_lift_42 : decode cX6_lift 42 = .ok (.aload_n 0, 1) := by decide +kernel
theorem dX6_lift_43 : decode cX6_lift 43 = .ok (.iload_n 1, 1) := by decide +kernel
theorem dX6_lift_44 : decode cX6_lift 44 = .ok (.invokevirtual 18, 3) := by decide +kernel
theorem dX6_lift_47 : decode cX6_lift 47 = .ok (.iload_n 2, 1) := by decide +kernel
theorem dX6_lift_48 : decode cX6_lift 48 = .ok (.iload_n 3, 1) := by decide +kernel
theorem dX6_lift_49 : decode cX6_lift 49 = .ok (.invokestatic 25, 3) := by decide +kernel
theorem dX6_lift_52 : decode cX6_lift 52 = .ok (.istore 5, 2) := by decide +kernel
theorem dX6_lift_54 : decode cX6_lift 54 = .ok (.iload 5, 2) := by decide +kernel
theorem dX6_lift_56 : decode cX6_lift 56 = .ok (.iconst (-1), 1) := by decide +kernel
theorem dX6_lift_57 : decode cX6_lift 57 = .ok (.if_icmp .ne 5, 3) := by decide +kernel
theorem dX6_lift_60 : decode cX6_lift 60 = .ok (.iconst (-1), 1) := by decide +kernel
theorem dX6_lift_61 : decode cX6_lift 61 = .ok (.ireturn, 1) := by decide +kernel
theorem dX6_lift_62 : decode cX6_lift 62 = .ok (.aload_n 0, 1) := by decide +kernel
theorem dX6_lift_63 : decode cX6_lift 63 = .ok (.aload_n 0, 1) := by decide +kernel
theorem dX6_lift_64 : decode cX6_lift 64 = .ok (.iload_n 1, 1) := by decide +kernel
theorem dX6_lift_65 : decode cX6_lift 65 = .ok (.invokevirtual 31, 3) := by decide +kernel
theorem dX6_lift_68 : decode cX6_lift 68 = .ok (.iload_n 2, 1) := by decide +kernel
theorem dX6_lift_69 : decode cX6_lift 69 = .ok (.iload 4, 2) := by decide +kernel
theorem dX6_lift_71 : decode cX6_lift 71 = .ok (.bipush 7, 2) := by decide +kernel
theorem dX6_lift_73 : decode cX6_lift 73 = .ok (.if_icmp .ne 7, 3) := by decide +kernel
theorem dX6_lift_76 : decode cX6_lift 76 = .ok (.iload_n 3, 1) := by decide +kernel
theorem dX6_lift_77 : decode cX6_lift 77 = .ok (.goto 6, 3) := by decide +kernel
theorem dX6_lift_80 : decode cX6_lift 80 = .ok (.iload_n 3, 1) := by decide +kernel
theorem dX6_lift_81 : decode cX6_lift 81 = .ok (.iconst 1, 1) := by decide +kernel
theorem dX6_lift_82 : decode cX6_lift 82 = .ok (.iadd, 1) := by decide +kernel
theorem dX6_lift_83 : decode cX6_lift 83 = .ok (.invokestatic 25, 3) := by decide +kernel
theorem dX6_lift_86 : decode cX6_lift 86 = .ok (.istore 6, 2) := by decide +kernel
theorem dX6_lift_88 : decode cX6_lift 88 = .ok (.aload_n 0, 1) := by decide +kernel
theorem dX6_lift_89 : decode cX6_lift 89 = .ok (.iload 4, 2) := by decide +kernel
theorem dX6_lift_91 : decode cX6_lift 91 = .ok (.iload 5, 2) := by decide +kernel
theorem dX6_lift_93 : decode cX6_lift 93 = .ok (.iload 6, 2) := by decide +kernel
theorem dX6_lift_95 : decode cX6_lift 95 = .ok (.invokevirtual 34, 3) := by decide +kernel
theorem dX6_lift_98 : decode cX6_lift 98 = .ok (.ireturn, 1) := by decide +kernel
theorem dX6_put_0 : decode cX6_put 0 = .ok (.aload_n 0, 1) := by decide +kernel
theorem dX6_put_1 : decode cX6_put 1 = .ok (.iload_n 1, 1) := by decide +kernel
theorem dX6_put_2 : decode cX6_put 2 = .ok (.invokevirtual 9, 3) := by decide +kernel
theorem dX6_put_5 : decode cX6_put 5 = .ok (.iload_n 3, 1) := by decide +kernel
theorem dX6_put_6 : decode cX6_put 6 = .ok (.if_icmp .gt 5, 3) := by decide +kernel
theorem dX6_put_9 : decode cX6_put 9 = .ok (.iload_n 1, 1) := by decide +kernel
theorem dX6_put_10 : decode cX6_put 10 = .ok (.ireturn, 1) := by decide +kernel
theorem dX6_put_11 : decode cX6_put 11 = .ok (.aload_n 0, 1) := by decide +kernel
theorem dX6_put_12 : decode cX6_put 12 = .ok (.iload_n 1, 1) := by decide +kernel
theorem dX6_put_13 : decode cX6_put 13 = .ok (.invokevirtual 15, 3) := by decide +kernel
theorem dX6_put_16 : decode cX6_put 16 = .ok (.istore 4, 2) := by decide +kernel
theorem dX6_put_18 : decode cX6_put 18 = .ok (.iload 4, 2) := by decide +kernel
theorem dX6_put_20 : decode cX6_put 20 = .ok (.iconst 1, 1) := by decide +kernel
theorem dX6_put_21 : decode cX6_put 21 = .ok (.if_icmp .ne 36, 3) := by decide +kernel
theorem dX6_put_24 : decode cX6_put 24 = .ok (.aload_n 0, 1) := by decide +kernel
theorem dX6_put_25 : decode cX6_put 25 = .ok (.iload_n 1, 1) := by decide +kernel
theorem dX6_put_26 : decode cX6_put 26 = .ok (.invokevirtual 18, 3) := by decide +kernel
theorem dX6_put_29 : decode cX6_put 29 = .ok (.istore 5, 2) := by decide +kernel
theorem dX6_put_31 : decode cX6_put 31 = .ok (.iload 5, 2) := by decide +kernel
theorem dX6_put_33 : decode cX6_put 33 = .ok (.iload_n 3, 1) := by decide +kernel
theorem dX6_put_34 : decode cX6_put 34 = .ok (.if_icmp .ne 13, 3) := by decide +kernel
theorem dX6_put_37 : decode cX6_put 37 = .ok (.aload_n 0, 1) := by decide +kernel
theorem dX6_put_38 : decode cX6_put 38 = .ok (.iload_n 2, 1) := by decide +kernel
theorem dX6_put_39 : decode cX6_put 39 = .ok (.iload_n 3, 1) := by decide +kernel
theorem dX6_put_40 : decode cX6_put 40 = .ok (.iconst 0, 1) := by decide +kernel
theorem dX6_put_41 : decode cX6_put 41 = .ok (.invokestatic 25, 3) := by decide +kernel
theorem dX6_put_44 : decode cX6_put 44 = .ok (.goto 12, 3) := by decide +kernel
theorem dX6_put_47 : decode cX6_put 47 = .ok (.aload_n 0, 1) := by decide +kernel
theorem dX6_put_48 : decode cX6_put 48 = .ok (.iconst 1, 1) := by decide +kernel
theorem dX6_put_49 : decode cX6_put 49 = .ok (.iload 5, 2) := by decide +kernel
theorem dX6_put_51 : decode cX6_put 51 = .ok (.iconst 1, 1) := by decide +kernel
theorem dX6_put_52 : decode cX6_put 52 = .ok (.isub, 1) := by decide +kernel
theorem dX6_put_53 : decode cX6_put 53 = .ok (.invokevirtual 21, 3) := by decide +kernel
theorem dX6_put_56 : decode cX6_put 56 = .ok (.ireturn, 1) := by decide +kernel
theorem dX6_put_57 : decode cX6_put 57 = .ok (.aload_n 0, 1) := by decide +kernel
theorem dX6_put_58 : decode cX6_put 58 = .ok (.aload_n 0, 1) := by decide +kernel
theorem dX6_put_59 : decode cX6_put 59 = .ok (.iload_n 1, 1) := by decide +kernel
theorem dX6_put_60 : decode cX6_put 60 = .ok (.invokevirtual 18, 3) := by decide +kernel
theorem dX6_put_63 : decode cX6_put 63 = .ok (.iload_n 2, 1) := by decide +kernel
theorem dX6_put_64 : decode cX6_put 64 = .ok (.iload_n 3, 1) := by decide +kernel
theorem dX6_put_65 : decode cX6_put 65 = .ok (.invokestatic 38, 3) := by decide +kernel
theorem dX6_put_68 : decode cX6_put 68 = .ok (.istore 5, 2) := by decide +kernel
theorem dX6_put_70 : decode cX6_put 70 = .ok (.iload 5, 2) := by decide +kernel
theorem dX6_put_72 : decode cX6_put 72 = .ok (.iconst (-1), 1) := by decide +kernel
theorem dX6_put_73 : decode cX6_put 73 = .ok (.if_icmp .ne 5, 3) := by decide +kernel
theorem dX6_put_76 : decode cX6_put 76 = .ok (.iconst (-1), 1) := by decide +kernel
theorem dX6_put_77 : decode cX6_put 77 = .ok (.ireturn, 1) := by decide +kernel
theorem dX6_put_78 : decode cX6_put 78 = .ok (.aload_n 0, 1) := by decide +kernel
theorem dX6_put_79 : decode cX6_put 79 = .ok (.aload_n 0, 1) := by decide +kernel
theorem dX6_put_80 : decode cX6_put 80 = .ok (.iload_n 1, 1) := by decide +kernel
theorem dX6_put_81 : decode cX6_put 81 = .ok (.invokevirtual 31, 3) := by decide +kernel
theorem dX6_put_84 : decode cX6_put 84 = .ok (.iload_n 2, 1) := by decide +kernel
theorem dX6_put_85 : decode cX6_put 85 = .ok (.iload 4, 2) := by decide +kernel
theorem dX6_put_87 : decode cX6_put 87 = .ok (.bipush 7, 2) := by decide +kernel
theorem dX6_put_89 : decode cX6_put 89 = .ok (.if_icmp .ne 7, 3) := by decide +kernel
theorem dX6_put_92 : decode cX6_put 92 = .ok (.iload_n 3, 1) := by decide +kernel
theorem dX6_put_93 : decode cX6_put 93 = .ok (.goto 6, 3) := by decide +kernel
theorem dX6_put_96 : decode cX6_put 96 = .ok (.iload_n 3, 1) := by decide +kernel
theorem dX6_put_97 : decode cX6_put 97 = .ok (.iconst 1, 1) := by decide +kernel
theorem dX6_put_98 : decode cX6_put 98 = .ok (.iadd, 1) := by decide +kernel
theorem dX6_put_99 : decode cX6_put 99 = .ok (.invokestatic 38, 3) := by decide +kernel
theorem dX6_put_102 : decode cX6_put 102 = .ok (.istore 6, 2) := by decide +kernel
theorem dX6_put_104 : decode cX6_put 104 = .ok (.aload_n 0, 1) := by decide +kernel
theorem dX6_put_105 : decode cX6_put 105 = .ok (.iload 4, 2) := by decide +kernel
theorem dX6_put_107 : decode cX6_put 107 = .ok (.iload 5, 2) := by decide +kernel
theorem dX6_put_109 : decode cX6_put 109 = .ok (.iload 6, 2) := by decide +kernel
theorem dX6_put_111 : decode cX6_put 111 = .ok (.invokevirtual 34, 3) := by decide +kernel
theorem dX6_put_114 : decode cX6_put 114 = .ok (.ireturn, 1) := by decide +kernel
theorem dX6_same_0 : decode cX6_same 0 = .ok (.aload_n 0, 1) := by decide +kernel
theorem dX6_same_1 : decode cX6_same 1 = .ok (.iload_n 1, 1) := by decide +kernel
theorem dX6_same_2 : decode cX6_same 2 = .ok (.invokevirtual 15, 3) := by decide +kernel
theorem dX6_same_5 : decode cX6_same 5 = .ok (.istore_n 3, 1) := by decide +kernel
theorem dX6_same_6 : decode cX6_same 6 = .ok (.iload_n 3, 1) := by decide +kernel
theorem dX6_same_7 : decode cX6_same 7 = .ok (.iconst (-1), 1) := by decide +kernel
theorem dX6_same_8 : decode cX6_same 8 = .ok (.if_icmp .eq 38, 3) := by decide +kernel
theorem dX6_same_11 : decode cX6_same 11 = .ok (.iload_n 3, 1) := by decide +kernel
theorem dX6_same_12 : decode cX6_same 12 = .ok (.aload_n 0, 1) := by decide +kernel
theorem dX6_same_13 : decode cX6_same 13 = .ok (.iload_n 2, 1) := by decide +kernel
theorem dX6_same_14 : decode cX6_same 14 = .ok (.invokevirtual 15, 3) := by decide +kernel
theorem dX6_same_17 : decode cX6_same 17 = .ok (.if_icmp .ne 29, 3) := by decide +kernel
theorem dX6_same_20 : decode cX6_same 20 = .ok (.aload_n 0, 1) := by decide +kernel
theorem dX6_same_21 : decode cX6_same 21 = .ok (.iload_n 1, 1) := by decide +kernel
theorem dX6_same_22 : decode cX6_same 22 = .ok (.invokevirtual 41, 3) := by decide +kernel
theorem dX6_same_25 : decode cX6_same 25 = .ok (.aload_n 0, 1) := by decide +kernel
theorem dX6_same_26 : decode cX6_same 26 = .ok (.iload_n 2, 1) := by decide +kernel
theorem dX6_same_27 : decode cX6_same 27 = .ok (.invokevirtual 41, 3) := by decide +kernel
theorem dX6_same_30 : decode cX6_same 30 = .ok (.if_icmp .ne 16, 3) := by decide +kernel
theorem dX6_same_33 : decode cX6_same 33 = .ok (.aload_n 0, 1) := by decide +kernel
theorem dX6_same_34 : decode cX6_same 34 = .ok (.iload_n 1, 1) := by decide +kernel
theorem dX6_same_35 : decode cX6_same 35 = .ok (.invokevirtual 44, 3) := by decide +kernel
theorem dX6_same_38 : decode cX6_same 38 = .ok (.aload_n 0, 1) := by decide +kernel
theorem dX6_same_39 : decode cX6_same 39 = .ok (.iload_n 2, 1) := by decide +kernel
theorem dX6_same_40 : decode cX6_same 40 = .ok (.invokevirtual 44, 3) := by decide +kernel
theorem dX6_same_43 : decode cX6_same 43 = .ok (.if_icmp .eq 5, 3) := by decide +kernel
theorem dX6_same_46 : decode cX6_same 46 = .ok (.iconst 0, 1) := by decide +kernel
theorem dX6_same_47 : decode cX6_same 47 = .ok (.ireturn, 1) := by decide +kernel
theorem dX6_same_48 : decode cX6_same 48 = .ok (.iload_n 1, 1) := by decide +kernel
theorem dX6_same_49 : decode cX6_same 49 = .ok (.iload_n 2, 1) := by decide +kernel
theorem dX6_same_50 : decode cX6_same 50 = .ok (.if_icmp .ne 5, 3) := by decide +kernel
theorem dX6_same_53 : decode cX6_same 53 = .ok (.iconst 1, 1) := by decide +kernel
theorem dX6_same_54 : decode cX6_same 54 = .ok (.ireturn, 1) := by decide +kernel
theorem dX6_same_55 : decode cX6_same 55 = .ok (.iload_n 3, 1) := by decide +kernel
theorem dX6_same_56 : decode cX6_same 56 = .ok (.iconst 5, 1) := by decide +kernel
theorem dX6_same_57 : decode cX6_same 57 = .ok (.if_icmp .ge 22, 3) := by decide +kernel
theorem dX6_same_60 : decode cX6_same 60 = .ok (.aload_n 0, 1) := by decide +kernel
theorem dX6_same_61 : decode cX6_same 61 = .ok (.iload_n 1, 1) := by decide +kernel
theorem dX6_same_62 : decode cX6_same 62 = .ok (.invokevirtual 18, 3) := by decide +kernel
theorem dX6_same_65 : decode cX6_same 65 = .ok (.aload_n 0, 1) := by decide +kernel
theorem dX6_same_66 : decode cX6_same 66 = .ok (.iload_n 2, 1) := by decide +kernel
theorem dX6_same_67 : decode cX6_same 67 = .ok (.invokevirtual 18, 3) := by decide +kernel
theorem dX6_same_70 : decode cX6_same 70 = .ok (.if_icmp .ne 7, 3) := by decide +kernel
theorem dX6_same_73 : decode cX6_same 73 = .ok (.iconst 1, 1) := by decide +kernel
theorem dX6_same_74 : decode cX6_same 74 = .ok (.goto 4, 3) := by decide +kernel
theorem dX6_same_77 : decode cX6_same 77 = .ok (.iconst 0, 1) := by decide +kernel
theorem dX6_same_78 : decode cX6_same 78 = .ok (.ireturn, 1) := by decide +kernel
theorem dX6_same_79 : decode cX6_same 79 = .ok (.aload_n 0, 1) := by decide +kernel
theorem dX6_same_80 : decode cX6_same 80 = .ok (.aload_n 0, 1) := by decide +kernel
theorem dX6_same_81 : decode cX6_same 81 = .ok (.iload_n 1, 1) := by decide +kernel
theorem dX6_same_82 : decode cX6_same 82 = .ok (.invokevirtual 18, 3) := by decide +kernel
theorem dX6_same_85 : decode cX6_same 85 = .ok (.aload_n 0, 1) := by decide +kernel
theorem dX6_same_86 : decode cX6_same 86 = .ok (.iload_n 2, 1) := by decide +kernel
theorem dX6_same_87 : decode cX6_same 87 = .ok (.invokevirtual 18, 3) := by decide +kernel
theorem dX6_same_90 : decode cX6_same 90 = .ok (.invokestatic 47, 3) := by decide +kernel
theorem dX6_same_93 : decode cX6_same 93 = .ok (.ifCond .eq 24, 3) := by decide +kernel
theorem dX6_same_96 : decode cX6_same 96 = .ok (.aload_n 0, 1) := by decide +kernel
theorem dX6_same_97 : decode cX6_same 97 = .ok (.aload_n 0, 1) := by decide +kernel
theorem dX6_same_98 : decode cX6_same 98 = .ok (.iload_n 1, 1) := by decide +kernel
theorem dX6_same_99 : decode cX6_same 99 = .ok (.invokevirtual 31, 3) := by decide +kernel
theorem dX6_same_102 : decode cX6_same 102 = .ok (.aload_n 0, 1) := by decide +kernel
theorem dX6_same_103 : decode cX6_same 103 = .ok (.iload_n 2, 1) := by decide +kernel
theorem dX6_same_104 : decode cX6_same 104 = .ok (.invokevirtual 31, 3) := by decide +kernel
theorem dX6_same_107 : decode cX6_same 107 = .ok (.invokestatic 47, 3) := by decide +kernel
theorem dX6_same_110 : decode cX6_same 110 = .ok (.ifCond .eq 7, 3) := by decide +kernel
theorem dX6_same_113 : decode cX6_same 113 = .ok (.iconst 1, 1) := by decide +kernel
theorem dX6_same_114 : decode cX6_same 114 = .ok (.goto 4, 3) := by decide +kernel
theorem dX6_same_117 : decode cX6_same 117 = .ok (.iconst 0, 1) := by decide +kernel
theorem dX6_same_118 : decode cX6_same 118 = .ok (.ireturn, 1) := by decide +kernel
theorem dX6_holds_0 : decode cX6_holds 0 = .ok (.aload_n 0, 1) := by decide +kernel
theorem dX6_holds_1 : decode cX6_holds 1 = .ok (.iload_n 1, 1) := by decide +kernel
theorem dX6_holds_2 : decode cX6_holds 2 = .ok (.invokevirtual 15, 3) := by decide +kernel
theorem dX6_holds_5 : decode cX6_holds 5 = .ok (.istore_n 3, 1) := by decide +kernel
theorem dX6_holds_6 : decode cX6_holds 6 = .ok (.iload_n 3, 1) := by decide +kernel
theorem dX6_holds_7 : decode cX6_holds 7 = .ok (.iconst 1, 1) := by decide +kernel
theorem dX6_holds_8 : decode cX6_holds 8 = .ok (.if_icmp .ne 18, 3) := by decide +kernel
theorem dX6_holds_11 : decode cX6_holds 11 = .ok (.aload_n 0, 1) := by decide +kernel
theorem dX6_holds_12 : decode cX6_holds 12 = .ok (.iload_n 1, 1) := by decide +kernel
theorem dX6_holds_13 : decode cX6_holds 13 = .ok (.invokevirtual 18, 3) := by decide +kernel
theorem dX6_holds_16 : decode cX6_holds 16 = .ok (.iload_n 2, 1) := by decide +kernel
theorem dX6_holds_17 : decode cX6_holds 17 = .ok (.if_icmp .ne 7, 3) := by decide +kernel
theorem dX6_holds_20 : decode cX6_holds 20 = .ok (.iconst 1, 1) := by decide +kernel
theorem dX6_holds_21 : decode cX6_holds 21 = .ok (.goto 4, 3) := by decide +kernel
theorem dX6_holds_24 : decode cX6_holds 24 = .ok (.iconst 0, 1) := by decide +kernel
theorem dX6_holds_25 : decode cX6_holds 25 = .ok (.ireturn, 1) := by decide +kernel
theorem dX6_holds_26 : decode cX6_holds 26 = .ok (.iload_n 3, 1) := by decide +kernel
theorem dX6_holds_27 : decode cX6_holds 27 = .ok (.bipush 7, 2) := by decide +kernel
theorem dX6_holds_29 : decode cX6_holds 29 = .ok (.if_icmp .ne 33, 3) := by decide +kernel
theorem dX6_holds_32 : decode cX6_holds 32 = .ok (.aload_n 0, 1) := by decide +kernel
theorem dX6_holds_33 : decode cX6_holds 33 = .ok (.aload_n 0, 1) := by decide +kernel
theorem dX6_holds_34 : decode cX6_holds 34 = .ok (.iload_n 1, 1) := by decide +kernel
theorem dX6_holds_35 : decode cX6_holds 35 = .ok (.invokevirtual 18, 3) := by decide +kernel
theorem dX6_holds_38 : decode cX6_holds 38 = .ok (.iload_n 2, 1) := by decide +kernel
theorem dX6_holds_39 : decode cX6_holds 39 = .ok (.invokestatic 51, 3) := by decide +kernel
theorem dX6_holds_42 : decode cX6_holds 42 = .ok (.ifCond .ne 16, 3) := by decide +kernel
theorem dX6_holds_45 : decode cX6_holds 45 = .ok (.aload_n 0, 1) := by decide +kernel
theorem dX6_holds_46 : decode cX6_holds 46 = .ok (.aload_n 0, 1) := by decide +kernel
theorem dX6_holds_47 : decode cX6_holds 47 = .ok (.iload_n 1, 1) := by decide +kernel
theorem dX6_holds_48 : decode cX6_holds 48 = .ok (.invokevirtual 31, 3) := by decide +kernel
theorem dX6_holds_51 : decode cX6_holds 51 = .ok (.iload_n 2, 1) := by decide +kernel
theorem dX6_holds_52 : decode cX6_holds 52 = .ok (.invokestatic 51, 3) := by decide +kernel
theorem dX6_holds_55 : decode cX6_holds 55 = .ok (.ifCond .eq 7, 3) := by decide +kernel
theorem dX6_holds_58 : decode cX6_holds 58 = .ok (.iconst 1, 1) := by decide +kernel
theorem dX6_holds_59 : decode cX6_holds 59 = .ok (.goto 4, 3) := by decide +kernel
theorem dX6_holds_62 : decode cX6_holds 62 = .ok (.iconst 0, 1) := by decide +kernel
theorem dX6_holds_63 : decode cX6_holds 63 = .ok (.ireturn, 1) := by decide +kernel
theorem dX6_meet_0 : decode cX6_meet 0 = .ok (.aload_n 0, 1) := by decide +kernel
theorem dX6_meet_1 : decode cX6_meet 1 = .ok (.iload_n 1, 1) := by decide +kernel
theorem dX6_meet_2 : decode cX6_meet 2 = .ok (.invokevirtual 15, 3) := by decide +kernel
theorem dX6_meet_5 : decode cX6_meet 5 = .ok (.istore_n 3, 1) := by decide +kernel
theorem dX6_meet_6 : decode cX6_meet 6 = .ok (.aload_n 0, 1) := by decide +kernel
theorem dX6_meet_7 : decode cX6_meet 7 = .ok (.iload_n 2, 1) := by decide +kernel
theorem dX6_meet_8 : decode cX6_meet 8 = .ok (.invokevirtual 15, 3) := by decide +kernel
theorem dX6_meet_11 : decode cX6_meet 11 = .ok (.istore 4, 2) := by decide +kernel
theorem dX6_meet_13 : decode cX6_meet 13 = .ok (.iload_n 3, 1) := by decide +kernel
theorem dX6_meet_14 : decode cX6_meet 14 = .ok (.iconst 1, 1) := by decide +kernel
theorem dX6_meet_15 : decode cX6_meet 15 = .ok (.if_icmp .eq 9, 3) := by decide +kernel
theorem dX6_meet_18 : decode cX6_meet 18 = .ok (.iload 4, 2) := by decide +kernel
theorem dX6_meet_20 : decode cX6_meet 20 = .ok (.iconst 1, 1) := by decide +kernel
theorem dX6_meet_21 : decode cX6_meet 21 = .ok (.if_icmp .ne 5, 3) := by decide +kernel
theorem dX6_meet_24 : decode cX6_meet 24 = .ok (.iconst 1, 1) := by decide +kernel
theorem dX6_meet_25 : decode cX6_meet 25 = .ok (.ireturn, 1) := by decide +kernel
theorem dX6_meet_26 : decode cX6_meet 26 = .ok (.iload_n 3, 1) := by decide +kernel
theorem dX6_meet_27 : decode cX6_meet 27 = .ok (.iconst 3, 1) := by decide +kernel
theorem dX6_meet_28 : decode cX6_meet 28 = .ok (.if_icmp .ne 28, 3) := by decide +kernel
theorem dX6_meet_31 : decode cX6_meet 31 = .ok (.iload 4, 2) := by decide +kernel
theorem dX6_meet_33 : decode cX6_meet 33 = .ok (.iconst 3, 1) := by decide +kernel
theorem dX6_meet_34 : decode cX6_meet 34 = .ok (.if_icmp .ne 22, 3) := by decide +kernel
theorem dX6_meet_37 : decode cX6_meet 37 = .ok (.aload_n 0, 1) := by decide +kernel
theorem dX6_meet_38 : decode cX6_meet 38 = .ok (.iload_n 1, 1) := by decide +kernel
theorem dX6_meet_39 : decode cX6_meet 39 = .ok (.invokevirtual 18, 3) := by decide +kernel
theorem dX6_meet_42 : decode cX6_meet 42 = .ok (.aload_n 0, 1) := by decide +kernel
theorem dX6_meet_43 : decode cX6_meet 43 = .ok (.iload_n 2, 1) := by decide +kernel
theorem dX6_meet_44 : decode cX6_meet 44 = .ok (.invokevirtual 18, 3) := by decide +kernel
theorem dX6_meet_47 : decode cX6_meet 47 = .ok (.if_icmp .ne 7, 3) := by decide +kernel
theorem dX6_meet_50 : decode cX6_meet 50 = .ok (.iconst 1, 1) := by decide +kernel
theorem dX6_meet_51 : decode cX6_meet 51 = .ok (.goto 4, 3) := by decide +kernel
theorem dX6_meet_54 : decode cX6_meet 54 = .ok (.iconst 0, 1) := by decide +kernel
theorem dX6_meet_55 : decode cX6_meet 55 = .ok (.ireturn, 1) := by decide +kernel
theorem dX6_meet_56 : decode cX6_meet 56 = .ok (.iload_n 3, 1) := by decide +kernel
theorem dX6_meet_57 : decode cX6_meet 57 = .ok (.bipush 7, 2) := by decide +kernel
theorem dX6_meet_59 : decode cX6_meet 59 = .ok (.if_icmp .ne 48, 3) := by decide +kernel
theorem dX6_meet_62 : decode cX6_meet 62 = .ok (.iload 4, 2) := by decide +kernel
theorem dX6_meet_64 : decode cX6_meet 64 = .ok (.bipush 7, 2) := by decide +kernel
theorem dX6_meet_66 : decode cX6_meet 66 = .ok (.if_icmp .ne 41, 3) := by decide +kernel
theorem dX6_meet_69 : decode cX6_meet 69 = .ok (.aload_n 0, 1) := by decide +kernel
theorem dX6_meet_70 : decode cX6_meet 70 = .ok (.aload_n 0, 1) := by decide +kernel
theorem dX6_meet_71 : decode cX6_meet 71 = .ok (.iload_n 1, 1) := by decide +kernel
theorem dX6_meet_72 : decode cX6_meet 72 = .ok (.invokevirtual 18, 3) := by decide +kernel
theorem dX6_meet_75 : decode cX6_meet 75 = .ok (.aload_n 0, 1) := by decide +kernel
theorem dX6_meet_76 : decode cX6_meet 76 = .ok (.iload_n 2, 1) := by decide +kernel
theorem dX6_meet_77 : decode cX6_meet 77 = .ok (.invokevirtual 18, 3) := by decide +kernel
theorem dX6_meet_80 : decode cX6_meet 80 = .ok (.invokestatic 54, 3) := by decide +kernel
theorem dX6_meet_83 : decode cX6_meet 83 = .ok (.ifCond .eq 24, 3) := by decide +kernel
theorem dX6_meet_86 : decode cX6_meet 86 = .ok (.aload_n 0, 1) := by decide +kernel
theorem dX6_meet_87 : decode cX6_meet 87 = .ok (.aload_n 0, 1) := by decide +kernel
theorem dX6_meet_88 : decode cX6_meet 88 = .ok (.iload_n 1, 1) := by decide +kernel
theorem dX6_meet_89 : decode cX6_meet 89 = .ok (.invokevirtual 31, 3) := by decide +kernel
theorem dX6_meet_92 : decode cX6_meet 92 = .ok (.aload_n 0, 1) := by decide +kernel
theorem dX6_meet_93 : decode cX6_meet 93 = .ok (.iload_n 2, 1) := by decide +kernel
theorem dX6_meet_94 : decode cX6_meet 94 = .ok (.invokevirtual 31, 3) := by decide +kernel
theorem dX6_meet_97 : decode cX6_meet 97 = .ok (.invokestatic 54, 3) := by decide +kernel
theorem dX6_meet_100 : decode cX6_meet 100 = .ok (.ifCond .eq 7, 3) := by decide +kernel
theorem dX6_meet_103 : decode cX6_meet 103 = .ok (.iconst 1, 1) := by decide +kernel
theorem dX6_meet_104 : decode cX6_meet 104 = .ok (.goto 4, 3) := by decide +kernel
theorem dX6_meet_107 : decode cX6_meet 107 = .ok (.iconst 0, 1) := by decide +kernel
theorem dX6_meet_108 : decode cX6_meet 108 = .ok (.ireturn, 1) := by decide +kernel
theorem dX9_leaf_0 : decode cX9_leaf 0 = .ok (.iload_n 1, 1) := by decide +kernel
theorem dX9_leaf_1 : decode cX9_leaf 1 = .ok (.ifCond .lt 17, 3) := by decide +kernel
theorem dX9_leaf_4 : decode cX9_leaf 4 = .ok (.iload_n 1, 1) := by decide +kernel
theorem dX9_leaf_5 : decode cX9_leaf 5 = .ok (.iconst 4, 1) := by decide +kernel
theorem dX9_leaf_6 : decode cX9_leaf 6 = .ok (.if_icmp .gt 12, 3) := by decide +kernel
theorem dX9_leaf_9 : decode cX9_leaf 9 = .ok (.aload_n 0, 1) := by decide +kernel
theorem dX9_leaf_10 : decode cX9_leaf 10 = .ok (.getfield 41, 3) := by decide +kernel
theorem dX9_leaf_13 : decode cX9_leaf 13 = .ok (.ldc 11, 2) := by decide +kernel
theorem dX9_leaf_15 : decode cX9_leaf 15 = .ok (.if_icmp .lt 5, 3) := by decide +kernel
theorem dX9_leaf_18 : decode cX9_leaf 18 = .ok (.iconst (-1), 1) := by decide +kernel
theorem dX9_leaf_19 : decode cX9_leaf 19 = .ok (.ireturn, 1) := by decide +kernel
theorem dX9_leaf_20 : decode cX9_leaf 20 = .ok (.aload_n 0, 1) := by decide +kernel
theorem dX9_leaf_21 : decode cX9_leaf 21 = .ok (.getfield 41, 3) := by decide +kernel
theorem dX9_leaf_24 : decode cX9_leaf 24 = .ok (.istore_n 3, 1) := by decide +kernel
theorem dX9_leaf_25 : decode cX9_leaf 25 = .ok (.aload_n 0, 1) := by decide +kernel
theorem dX9_leaf_26 : decode cX9_leaf 26 = .ok (.dup, 1) := by decide +kernel
theorem dX9_leaf_27 : decode cX9_leaf 27 = .ok (.getfield 41, 3) := by decide +kernel
theorem dX9_leaf_30 : decode cX9_leaf 30 = .ok (.iconst 1, 1) := by decide +kernel
theorem dX9_leaf_31 : decode cX9_leaf 31 = .ok (.iadd, 1) := by decide +kernel
theorem dX9_leaf_32 : decode cX9_leaf 32 = .ok (.putfield 41, 3) := by decide +kernel
theorem dX9_leaf_35 : decode cX9_leaf 35 = .ok (.aload_n 0, 1) := by decide +kernel
theorem dX9_leaf_36 : decode cX9_leaf 36 = .ok (.getfield 12, 3) := by decide +kernel
theorem dX9_leaf_39 : decode cX9_leaf 39 = .ok (.iload_n 3, 1) := by decide +kernel
theorem dX9_leaf_40 : decode cX9_leaf 40 = .ok (.iload_n 1, 1) := by decide +kernel
theorem dX9_leaf_41 : decode cX9_leaf 41 = .ok (.iastore, 1) := by decide +kernel
theorem dX9_leaf_42 : decode cX9_leaf 42 = .ok (.aload_n 0, 1) := by decide +kernel
theorem dX9_leaf_43 : decode cX9_leaf 43 = .ok (.getfield 16, 3) := by decide +kernel
theorem dX9_leaf_46 : decode cX9_leaf 46 = .ok (.iload_n 3, 1) := by decide +kernel
theorem dX9_leaf_47 : decode cX9_leaf 47 = .ok (.iload_n 2, 1) := by decide +kernel
theorem dX9_leaf_48 : decode cX9_leaf 48 = .ok (.iastore, 1) := by decide +kernel
theorem dX9_leaf_49 : decode cX9_leaf 49 = .ok (.aload_n 0, 1) := by decide +kernel
theorem dX9_leaf_50 : decode cX9_leaf 50 = .ok (.getfield 19, 3) := by decide +kernel
theorem dX9_leaf_53 : decode cX9_leaf 53 = .ok (.iload_n 3, 1) := by decide +kernel
theorem dX9_leaf_54 : decode cX9_leaf 54 = .ok (.iconst (-1), 1) := by decide +kernel
theorem dX9_leaf_55 : decode cX9_leaf 55 = .ok (.iastore, 1) := by decide +kernel
theorem dX9_leaf_56 : decode cX9_leaf 56 = .ok (.aload_n 0, 1) := by decide +kernel
theorem dX9_leaf_57 : decode cX9_leaf 57 = .ok (.getfield 22, 3) := by decide +kernel
theorem dX9_leaf_60 : decode cX9_leaf 60 = .ok (.iload_n 3, 1) := by decide +kernel
theorem dX9_leaf_61 : decode cX9_leaf 61 = .ok (.iconst 1, 1) := by decide +kernel
theorem dX9_leaf_62 : decode cX9_leaf 62 = .ok (.iastore, 1) := by decide +kernel
theorem dX9_leaf_63 : decode cX9_leaf 63 = .ok (.aload_n 0, 1) := by decide +kernel
theorem dX9_leaf_64 : decode cX9_leaf 64 = .ok (.getfield 25, 3) := by decide +kernel
theorem dX9_leaf_67 : decode cX9_leaf 67 = .ok (.iload_n 3, 1) := by decide +kernel
theorem dX9_leaf_68 : decode cX9_leaf 68 = .ok (.getstatic 45, 3) := by decide +kernel
theorem dX9_leaf_71 : decode cX9_leaf 71 = .ok (.iload_n 1, 1) := by decide +kernel
theorem dX9_leaf_72 : decode cX9_leaf 72 = .ok (.iaload, 1) := by decide +kernel
theorem dX9_leaf_73 : decode cX9_leaf 73 = .ok (.iload_n 2, 1) := by decide +kernel
theorem dX9_leaf_74 : decode cX9_leaf 74 = .ok (.iadd, 1) := by decide +kernel
theorem dX9_leaf_75 : decode cX9_leaf 75 = .ok (.iastore, 1) := by decide +kernel
theorem dX9_leaf_76 : decode cX9_leaf 76 = .ok (.aload_n 0, 1) := by decide +kernel
theorem dX9_leaf_77 : decode cX9_leaf 77 = .ok (.getfield 28, 3) := by decide +kernel
theorem dX9_leaf_80 : decode cX9_leaf 80 = .ok (.iload_n 3, 1) := by decide +kernel
theorem dX9_leaf_81 : decode cX9_leaf 81 = .ok (.iload_n 1, 1) := by decide +kernel
theorem dX9_leaf_82 : decode cX9_leaf 82 = .ok (.iconst 1, 1) := by decide +kernel
theorem dX9_leaf_83 : decode cX9_leaf 83 = .ok (.if_icmp .ne 9, 3) := by decide +kernel
theorem dX9_leaf_86 : decode cX9_leaf 86 = .ok (.iload_n 2, 1) := by decide +kernel
theorem dX9_leaf_87 : decode cX9_leaf 87 = .ok (.iconst 1, 1) := by decide +kernel
theorem dX9_leaf_88 : decode cX9_leaf 88 = .ok (.iadd, 1) := by decide +kernel
theorem dX9_leaf_89 : decode cX9_leaf 89 = .ok (.goto 4, 3) := by decide +kernel
theorem dX9_leaf_92 : decode cX9_leaf 92 = .ok (.iconst 0, 1) := by decide +kernel
theorem dX9_leaf_93 : decode cX9_leaf 93 = .ok (.iastore, 1) := by decide +kernel
theorem dX9_leaf_94 : decode cX9_leaf 94 = .ok (.aload_n 0, 1) := by decide +kernel
theorem dX9_leaf_95 : decode cX9_leaf 95 = .ok (.getfield 31, 3) := by decide +kernel
theorem dX9_leaf_98 : decode cX9_leaf 98 = .ok (.iload_n 3, 1) := by decide +kernel
theorem dX9_leaf_99 : decode cX9_leaf 99 = .ok (.iload_n 1, 1) := by decide +kernel
theorem dX9_leaf_100 : decode cX9_leaf 100 = .ok (.iconst 4, 1) := by decide +kernel
theorem dX9_leaf_101 : decode cX9_leaf 101 = .ok (.if_icmp .ne 9, 3) := by decide +kernel
theorem dX9_leaf_104 : decode cX9_leaf 104 = .ok (.iconst 1, 1) := by decide +kernel
theorem dX9_leaf_105 : decode cX9_leaf 105 = .ok (.iload_n 2, 1) := by decide +kernel
theorem dX9_leaf_106 : decode cX9_leaf 106 = .ok (.ishl, 1) := by decide +kernel
theorem dX9_leaf_107 : decode cX9_leaf 107 = .ok (.goto 4, 3) := by decide +kernel
theorem dX9_leaf_110 : decode cX9_leaf 110 = .ok (.iconst 0, 1) := by decide +kernel
theorem dX9_leaf_111 : decode cX9_leaf 111 = .ok (.iastore, 1) := by decide +kernel
theorem dX9_leaf_112 : decode cX9_leaf 112 = .ok (.aload_n 0, 1) := by decide +kernel
theorem dX9_leaf_113 : decode cX9_leaf 113 = .ok (.getfield 34, 3) := by decide +kernel
theorem dX9_leaf_116 : decode cX9_leaf 116 = .ok (.iload_n 3, 1) := by decide +kernel
theorem dX9_leaf_117 : decode cX9_leaf 117 = .ok (.iconst 0, 1) := by decide +kernel
theorem dX9_leaf_118 : decode cX9_leaf 118 = .ok (.bastore, 1) := by decide +kernel
theorem dX9_leaf_119 : decode cX9_leaf 119 = .ok (.iload_n 3, 1) := by decide +kernel
theorem dX9_leaf_120 : decode cX9_leaf 120 = .ok (.ireturn, 1) := by decide +kernel
theorem dX9_pair_0 : decode cX9_pair 0 = .ok (.iload_n 1, 1) := by decide +kernel
theorem dX9_pair_1 : decode cX9_pair 1 = .ok (.iconst 5, 1) := by decide +kernel
theorem dX9_pair_2 : decode cX9_pair 2 = .ok (.if_icmp .lt 18, 3) := by decide +kernel
theorem dX9_pair_5 : decode cX9_pair 5 = .ok (.iload_n 1, 1) := by decide +kernel
theorem dX9_pair_6 : decode cX9_pair 6 = .ok (.bipush 7, 2) := by decide +kernel
theorem dX9_pair_8 : decode cX9_pair 8 = .ok (.if_icmp .gt 12, 3) := by decide +kernel
theorem dX9_pair_11 : decode cX9_pair 11 = .ok (.aload_n 0, 1) := by decide +kernel
theorem dX9_pair_12 : decode cX9_pair 12 = .ok (.getfield 41, 3) := by decide +kernel
theorem dX9_pair_15 : decode cX9_pair 15 = .ok (.ldc 11, 2) := by decide +kernel
theorem dX9_pair_17 : decode cX9_pair 17 = .ok (.if_icmp .lt 5, 3) := by decide +kernel
theorem dX9_pair_20 : decode cX9_pair 20 = .ok (.iconst (-1), 1) := by decide +kernel
theorem dX9_pair_21 : decode cX9_pair 21 = .ok (.ireturn, 1) := by decide +kernel
theorem dX9_pair_22 : decode cX9_pair 22 = .ok (.iload_n 2, 1) := by decide +kernel
theorem dX9_pair_23 : decode cX9_pair 23 = .ok (.ifCond .lt 42, 3) := by decide +kernel
theorem dX9_pair_26 : decode cX9_pair 26 = .ok (.iload_n 2, 1) := by decide +kernel
theorem dX9_pair_27 : decode cX9_pair 27 = .ok (.aload_n 0, 1) := by decide +kernel
theorem dX9_pair_28 : decode cX9_pair 28 = .ok (.getfield 41, 3) := by decide +kernel
theorem dX9_pair_31 : decode cX9_pair 31 = .ok (.if_icmp .ge 34, 3) := by decide +kernel
theorem dX9_pair_34 : decode cX9_pair 34 = .ok (.iload_n 3, 1) := by decide +kernel
theorem dX9_pair_35 : decode cX9_pair 35 = .ok (.ifCond .lt 30, 3) := by decide +kernel
theorem dX9_pair_38 : decode cX9_pair 38 = .ok (.iload_n 3, 1) := by decide +kernel
theorem dX9_pair_39 : decode cX9_pair 39 = .ok (.aload_n 0, 1) := by decide +kernel
theorem dX9_pair_40 : decode cX9_pair 40 = .ok (.getfield 41, 3) := by decide +kernel
theorem dX9_pair_43 : decode cX9_pair 43 = .ok (.if_icmp .ge 22, 3) := by decide +kernel
theorem dX9_pair_46 : decode cX9_pair 46 = .ok (.aload_n 0, 1) := by decide +kernel
theorem dX9_pair_47 : decode cX9_pair 47 = .ok (.getfield 22, 3) := by decide +kernel
theorem dX9_pair_50 : decode cX9_pair 50 = .ok (.iload_n 2, 1) := by decide +kernel
theorem dX9_pair_51 : decode cX9_pair 51 = .ok (.iaload, 1) := by decide +kernel
theorem dX9_pair_52 : decode cX9_pair 52 = .ok (.aload_n 0, 1) := by decide +kernel
theorem dX9_pair_53 : decode cX9_pair 53 = .ok (.getfield 22, 3) := by decide +kernel
theorem dX9_pair_56 : decode cX9_pair 56 = .ok (.iload_n 3, 1) := by decide +kernel
theorem dX9_pair_57 : decode cX9_pair 57 = .ok (.iaload, 1) := by decide +kernel
theorem dX9_pair_58 : decode cX9_pair 58 = .ok (.iadd, 1) := by decide +kernel
theorem dX9_pair_59 : decode cX9_pair 59 = .ok (.sipush 200, 3) := by decide +kernel
theorem dX9_pair_62 : decode cX9_pair 62 = .ok (.if_icmp .lt 5, 3) := by decide +kernel
theorem dX9_pair_65 : decode cX9_pair 65 = .ok (.iconst (-1), 1) := by decide +kernel
theorem dX9_pair_66 : decode cX9_pair 66 = .ok (.ireturn, 1) := by decide +kernel
theorem dX9_pair_67 : decode cX9_pair 67 = .ok (.aload_n 0, 1) := by decide +kernel
theorem dX9_pair_68 : decode cX9_pair 68 = .ok (.getfield 41, 3) := by decide +kernel
theorem dX9_pair_71 : decode cX9_pair 71 = .ok (.istore 4, 2) := by decide +kernel
theorem dX9_pair_73 : decode cX9_pair 73 = .ok (.aload_n 0, 1) := by decide +kernel
theorem dX9_pair_74 : decode cX9_pair 74 = .ok (.dup, 1) := by decide +kernel
theorem dX9_pair_75 : decode cX9_pair 75 = .ok (.getfield 41, 3) := by decide +kernel
theorem dX9_pair_78 : decode cX9_pair 78 = .ok (.iconst 1, 1) := by decide +kernel
theorem dX9_pair_79 : decode cX9_pair 79 = .ok (.iadd, 1) := by decide +kernel
theorem dX9_pair_80 : decode cX9_pair 80 = .ok (.putfield 41, 3) := by decide +kernel
theorem dX9_pair_83 : decode cX9_pair 83 = .ok (.iload_n 1, 1) := by decide +kernel
theorem dX9_pair_84 : decode cX9_pair 84 = .ok (.iconst 5, 1) := by decide +kernel
theorem dX9_pair_85 : decode cX9_pair 85 = .ok (.isub, 1) := by decide +kernel
theorem dX9_pair_86 : decode cX9_pair 86 = .ok (.istore 5, 2) := by decide +kernel
theorem dX9_pair_88 : decode cX9_pair 88 = .ok (.aload_n 0, 1) := by decide +kernel
theorem dX9_pair_89 : decode cX9_pair 89 = .ok (.getfield 12, 3) := by decide +kernel
theorem dX9_pair_92 : decode cX9_pair 92 = .ok (.iload 4, 2) := by decide +kernel
theorem dX9_pair_94 : decode cX9_pair 94 = .ok (.iload_n 1, 1) := by decide +kernel
theorem dX9_pair_95 : decode cX9_pair 95 = .ok (.iastore, 1) := by decide +kernel
theorem dX9_pair_96 : decode cX9_pair 96 = .ok (.aload_n 0, 1) := by decide +kernel
theorem dX9_pair_97 : decode cX9_pair 97 = .ok (.getfield 16, 3) := by decide +kernel
theorem dX9_pair_100 : decode cX9_pair 100 = .ok (.iload 4, 2) := by decide +kernel
theorem dX9_pair_102 : decode cX9_pair 102 = .ok (.iload_n 2, 1) := by decide +kernel
theorem dX9_pair_103 : decode cX9_pair 103 = .ok (.iastore, 1) := by decide +kernel
theorem dX9_pair_104 : decode cX9_pair 104 = .ok (.aload_n 0, 1) := by decide +kernel
theorem dX9_pair_105 : decode cX9_pair 105 = .ok (.getfield 19, 3) := by decide +kernel
theorem dX9_pair_108 : decode cX9_pair 108 = .ok (.iload 4, 2) := by decide +kernel
theorem dX9_pair_110 : decode cX9_pair 110 = .ok (.iload_n 3, 1) := by decide +kernel
theorem dX9_pair_111 : decode cX9_pair 111 = .ok (.iastore, 1) := by decide +kernel
theorem dX9_pair_112 : decode cX9_pair 112 = .ok (.aload_n 0, 1) := by decide +kernel
theorem dX9_pair_113 : decode cX9_pair 113 = .ok (.getfield 22, 3) := by decide +kernel
theorem dX9_pair_116 : decode cX9_pair 116 = .ok (.iload 4, 2) := by decide +kernel
theorem dX9_pair_118 : decode cX9_pair 118 = .ok (.iconst 1, 1) := by decide +kernel
theorem dX9_pair_119 : decode cX9_pair 119 = .ok (.aload_n 0, 1) := by decide +kernel
theorem dX9_pair_120 : decode cX9_pair 120 = .ok (.getfield 22, 3) := by decide +kernel
theorem dX9_pair_123 : decode cX9_pair 123 = .ok (.iload_n 2, 1) := by decide +kernel
theorem dX9_pair_124 : decode cX9_pair 124 = .ok (.iaload, 1) := by decide +kernel
theorem dX9_pair_125 : decode cX9_pair 125 = .ok (.iadd, 1) := by decide +kernel
theorem dX9_pair_126 : decode cX9_pair 126 = .ok (.aload_n 0, 1) := by decide +kernel
theorem dX9_pair_127 : decode cX9_pair 127 = .ok (.getfield 22, 3) := by decide +kernel
theorem dX9_pair_130 : decode cX9_pair 130 = .ok (.iload_n 3, 1) := by decide +kernel
theorem dX9_pair_131 : decode cX9_pair 131 = .ok (.iaload, 1) := by decide +kernel
theorem dX9_pair_132 : decode cX9_pair 132 = .ok (.iadd, 1) := by decide +kernel
theorem dX9_pair_133 : decode cX9_pair 133 = .ok (.iastore, 1) := by decide +kernel
theorem dX9_pair_134 : decode cX9_pair 134 = .ok (.aload_n 0, 1) := by decide +kernel
theorem dX9_pair_135 : decode cX9_pair 135 = .ok (.getfield 25, 3) := by decide +kernel
theorem dX9_pair_138 : decode cX9_pair 138 = .ok (.iload 4, 2) := by decide +kernel
theorem dX9_pair_140 : decode cX9_pair 140 = .ok (.getstatic 48, 3) := by decide +kernel
theorem dX9_pair_143 : decode cX9_pair 143 = .ok (.iload 5, 2) := by decide +kernel
theorem dX9_pair_145 : decode cX9_pair 145 = .ok (.iaload, 1) := by decide +kernel
theorem dX9_pair_146 : decode cX9_pair 146 = .ok (.aload_n 0, 1) := by decide +kernel
theorem dX9_pair_147 : decode cX9_pair 147 = .ok (.getfield 25, 3) := by decide +kernel
theorem dX9_pair_150 : decode cX9_pair 150 = .ok (.iload_n 2, 1) := by decide +kernel
theorem dX9_pair_151 : decode cX9_pair 151 = .ok (.iaload, 1) := by decide +kernel
theorem dX9_pair_152 : decode cX9_pair 152 = .ok (.imul, 1) := by decide +kernel
theorem dX9_pair_153 : decode cX9_pair 153 = .ok (.getstatic 51, 3) := by decide +kernel
theorem dX9_pair_156 : decode cX9_pair 156 = .ok (.iload 5, 2) := by decide +kernel
theorem dX9_pair_158 : decode cX9_pair 158 = .ok (.iaload, 1) := by decide +kernel
theorem dX9_pair_159 : decode cX9_pair 159 = .ok (.aload_n 0, 1) := by decide +kernel
theorem dX9_pair_160 : decode cX9_pair 160 = .ok (.getfield 25, 3) := by decide +kernel
theorem dX9_pair_163 : decode cX9_pair 163 = .ok (.iload_n 3, 1) := by decide +kernel
theorem dX9_pair_164 : decode cX9_pair 164 = .ok (.iaload, 1) := by decide +kernel
theorem dX9_pair_165 : decode cX9_pair 165 = .ok (.imul, 1) := by decide +kernel
theorem dX9_pair_166 : decode cX9_pair 166 = .ok (.iadd, 1) := by decide +kernel
theorem dX9_pair_167 : decode cX9_pair 167 = .ok (.getstatic 54, 3) := by decide +kernel
theorem dX9_pair_170 : decode cX9_pair 170 = .ok (.iload 5, 2) := by decide +kernel
theorem dX9_pair_172 : decode cX9_pair 172 = .ok (.iaload, 1) := by decide +kernel
theorem dX9_pair_173 : decode cX9_pair 173 = .ok (.iadd, 1) := by decide +kernel
theorem dX9_pair_174 : decode cX9_pair 174 = .ok (.ldc 57, 2) := by decide +kernel
theorem dX9_pair_176 : decode cX9_pair 176 = .ok (.irem, 1) := by decide +kernel
theorem dX9_pair_177 : decode cX9_pair 177 = .ok (.iastore, 1) := by decide +kernel
theorem dX9_pair_178 : decode cX9_pair 178 = .ok (.aload_n 0, 1) := by decide +kernel
theorem dX9_pair_179 : decode cX9_pair 179 = .ok (.getfield 28, 3) := by decide +kernel
theorem dX9_pair_182 : decode cX9_pair 182 = .ok (.iload 4, 2) := by decide +kernel
theorem dX9_pair_184 : decode cX9_pair 184 = .ok (.aload_n 0, 1) := by decide +kernel
theorem dX9_pair_185 : decode cX9_pair 185 = .ok (.getfield 28, 3) := by decide +kernel
theorem dX9_pair_188 : decode cX9_pair 188 = .ok (.iload_n 2, 1) := by decide +kernel
theorem dX9_pair_189 : decode cX9_pair 189 = .ok (.iaload, 1) := by decide +kernel
theorem dX9_pair_190 : decode cX9_pair 190 = .ok (.iload_n 1, 1) := by decide +kernel
theorem dX9_pair_191 : decode cX9_pair 191 = .ok (.bipush 7, 2) := by decide +kernel
theorem dX9_pair_193 : decode cX9_pair 193 = .ok (.if_icmp .ne 12, 3) := by decide +kernel
theorem dX9_pair_196 : decode cX9_pair 196 = .ok (.aload_n 0, 1) := by decide +kernel
theorem dX9_pair_197 : decode cX9_pair 197 = .ok (.getfield 28, 3) := by decide +kernel
theorem dX9_pair_200 : decode cX9_pair 200 = .ok (.iload_n 3, 1) := by decide +kernel
theorem dX9_pair_201 : decode cX9_pair 201 = .ok (.iaload, 1) := by decide +kernel
theorem dX9_pair_202 : decode cX9_pair 202 = .ok (.goto 11, 3) := by decide +kernel
theorem dX9_pair_205 : decode cX9_pair 205 = .ok (.aload_n 0, 1) := by decide +kernel
theorem dX9_pair_206 : decode cX9_pair 206 = .ok (.getfield 28, 3) := by decide +kernel
theorem dX9_pair_209 : decode cX9_pair 209 = .ok (.iload_n 3, 1) := by decide +kernel
theorem dX9_pair_210 : decode cX9_pair 210 = .ok (.iaload, 1) := by decide +kernel
theorem dX9_pair_211 : decode cX9_pair 211 = .ok (.iconst 1, 1) := by decide +kernel
theorem dX9_pair_212 : decode cX9_pair 212 = .ok (.isub, 1) := by decide +kernel
theorem dX9_pair_213 : decode cX9_pair 213 = .ok (.invokestatic 58, 3) := by decide +kernel
theorem dX9_pair_216 : decode cX9_pair 216 = .ok (.iastore, 1) := by decide +kernel
theorem dX9_pair_217 : decode cX9_pair 217 = .ok (.aload_n 0, 1) := by decide +kernel
theorem dX9_pair_218 : decode cX9_pair 218 = .ok (.getfield 31, 3) := by decide +kernel
theorem dX9_pair_221 : decode cX9_pair 221 = .ok (.iload 4, 2) := by decide +kernel
theorem dX9_pair_223 : decode cX9_pair 223 = .ok (.aload_n 0, 1) := by decide +kernel
theorem dX9_pair_224 : decode cX9_pair 224 = .ok (.getfield 31, 3) := by decide +kernel
theorem dX9_pair_227 : decode cX9_pair 227 = .ok (.iload_n 2, 1) := by decide +kernel
theorem dX9_pair_228 : decode cX9_pair 228 = .ok (.iaload, 1) := by decide +kernel
theorem dX9_pair_229 : decode cX9_pair 229 = .ok (.aload_n 0, 1) := by decide +kernel
theorem dX9_pair_230 : decode cX9_pair 230 = .ok (.getfield 31, 3) := by decide +kernel
theorem dX9_pair_233 : decode cX9_pair 233 = .ok (.iload_n 3, 1) := by decide +kernel
theorem dX9_pair_234 : decode cX9_pair 234 = .ok (.iaload, 1) := by decide +kernel
theorem dX9_pair_235 : decode cX9_pair 235 = .ok (.ior, 1) := by decide +kernel
theorem dX9_pair_236 : decode cX9_pair 236 = .ok (.iastore, 1) := by decide +kernel
theorem dX9_pair_237 : decode cX9_pair 237 = .ok (.aload_n 0, 1) := by decide +kernel
theorem dX9_pair_238 : decode cX9_pair 238 = .ok (.getfield 34, 3) := by decide +kernel
theorem dX9_pair_241 : decode cX9_pair 241 = .ok (.iload 4, 2) := by decide +kernel
theorem dX9_pair_243 : decode cX9_pair 243 = .ok (.aload_n 0, 1) := by decide +kernel
theorem dX9_pair_244 : decode cX9_pair 244 = .ok (.getfield 34, 3) := by decide +kernel
theorem dX9_pair_247 : decode cX9_pair 247 = .ok (.iload_n 2, 1) := by decide +kernel
theorem dX9_pair_248 : decode cX9_pair 248 = .ok (.baload, 1) := by decide +kernel
theorem dX9_pair_249 : decode cX9_pair 249 = .ok (.ifCond .ne 29, 3) := by decide +kernel
theorem dX9_pair_252 : decode cX9_pair 252 = .ok (.aload_n 0, 1) := by decide +kernel
theorem dX9_pair_253 : decode cX9_pair 253 = .ok (.getfield 34, 3) := by decide +kernel
theorem dX9_pair_256 : decode cX9_pair 256 = .ok (.iload_n 3, 1) := by decide +kernel
theorem dX9_pair_257 : decode cX9_pair 257 = .ok (.baload, 1) := by decide +kernel
theorem dX9_pair_258 : decode cX9_pair 258 = .ok (.ifCond .ne 20, 3) := by decide +kernel
theorem dX9_pair_261 : decode cX9_pair 261 = .ok (.iload_n 1, 1) := by decide +kernel
theorem dX9_pair_262 : decode cX9_pair 262 = .ok (.bipush 7, 2) := by decide +kernel
theorem dX9_pair_264 : decode cX9_pair 264 = .ok (.if_icmp .ne 18, 3) := by decide +kernel
theorem dX9_pair_267 : decode cX9_pair 267 = .ok (.aload_n 0, 1) := by decide +kernel
theorem dX9_pair_268 : decode cX9_pair 268 = .ok (.getfield 12, 3) := by decide +kernel
theorem dX9_pair_271 : decode cX9_pair 271 = .ok (.iload_n 2, 1) := by decide +kernel
theorem dX9_pair_272 : decode cX9_pair 272 = .ok (.iaload, 1) := by decide +kernel
theorem dX9_pair_273 : decode cX9_pair 273 = .ok (.bipush 6, 2) := by decide +kernel
theorem dX9_pair_275 : decode cX9_pair 275 = .ok (.if_icmp .ne 7, 3) := by decide +kernel
theorem dX9_pair_278 : decode cX9_pair 278 = .ok (.iconst 1, 1) := by decide +kernel
theorem dX9_pair_279 : decode cX9_pair 279 = .ok (.goto 4, 3) := by decide +kernel
theorem dX9_pair_282 : decode cX9_pair 282 = .ok (.iconst 0, 1) := by decide +kernel
theorem dX9_pair_283 : decode cX9_pair 283 = .ok (.bastore, 1) := by decide +kernel
theorem dX9_pair_284 : decode cX9_pair 284 = .ok (.iload 4, 2) := by decide +kernel
theorem dX9_pair_286 : decode cX9_pair 286 = .ok (.ireturn, 1) := by decide +kernel
theorem dX9_kindOf_0 : decode cX9_kindOf 0 = .ok (.iload_n 1, 1) := by decide +kernel
theorem dX9_kindOf_1 : decode cX9_kindOf 1 = .ok (.ifCond .lt 20, 3) := by decide +kernel
theorem dX9_kindOf_4 : decode cX9_kindOf 4 = .ok (.iload_n 1, 1) := by decide +kernel
theorem dX9_kindOf_5 : decode cX9_kindOf 5 = .ok (.aload_n 0, 1) := by decide +kernel
theorem dX9_kindOf_6 : decode cX9_kindOf 6 = .ok (.getfield 41, 3) := by decide +kernel
theorem dX9_kindOf_9 : decode cX9_kindOf 9 = .ok (.if_icmp .ge 12, 3) := by decide +kernel
theorem dX9_kindOf_12 : decode cX9_kindOf 12 = .ok (.aload_n 0, 1) := by decide +kernel
theorem dX9_kindOf_13 : decode cX9_kindOf 13 = .ok (.getfield 12, 3) := by decide +kernel
theorem dX9_kindOf_16 : decode cX9_kindOf 16 = .ok (.iload_n 1, 1) := by decide +kernel
theorem dX9_kindOf_17 : decode cX9_kindOf 17 = .ok (.iaload, 1) := by decide +kernel
theorem dX9_kindOf_18 : decode cX9_kindOf 18 = .ok (.goto 4, 3) := by decide +kernel
theorem dX9_kindOf_21 : decode cX9_kindOf 21 = .ok (.iconst (-1), 1) := by decide +kernel
theorem dX9_kindOf_22 : decode cX9_kindOf 22 = .ok (.ireturn, 1) := by decide +kernel
theorem dX9_firstOf_0 : decode cX9_firstOf 0 = .ok (.iload_n 1, 1) := by decide +kernel
theorem dX9_firstOf_1 : decode cX9_firstOf 1 = .ok (.ifCond .lt 20, 3) := by decide +kernel
theorem dX9_firstOf_4 : decode cX9_firstOf 4 = .ok (.iload_n 1, 1) := by decide +kernel
theorem dX9_firstOf_5 : decode cX9_firstOf 5 = .ok (.aload_n 0, 1) := by decide +kernel
theorem dX9_firstOf_6 : decode cX9_firstOf 6 = .ok (.getfield 41, 3) := by decide +kernel
theorem dX9_firstOf_9 : decode cX9_firstOf 9 = .ok (.if_icmp .ge 12, 3) := by decide +kernel
theorem dX9_firstOf_12 : decode cX9_firstOf 12 = .ok (.aload_n 0, 1) := by decide +kernel
theorem dX9_firstOf_13 : decode cX9_firstOf 13 = .ok (.getfield 16, 3) := by decide +kernel
theorem dX9_firstOf_16 : decode cX9_firstOf 16 = .ok (.iload_n 1, 1) := by decide +kernel
theorem dX9_firstOf_17 : decode cX9_firstOf 17 = .ok (.iaload, 1) := by decide +kernel
theorem dX9_firstOf_18 : decode cX9_firstOf 18 = .ok (.goto 4, 3) := by decide +kernel
theorem dX9_firstOf_21 : decode cX9_firstOf 21 = .ok (.iconst (-1), 1) := by decide +kernel
theorem dX9_firstOf_22 : decode cX9_firstOf 22 = .ok (.ireturn, 1) := by decide +kernel
theorem dX9_secondOf_0 : decode cX9_secondOf 0 = .ok (.iload_n 1, 1) := by decide +kernel
theorem dX9_secondOf_1 : decode cX9_secondOf 1 = .ok (.ifCond .lt 20, 3) := by decide +kernel
theorem dX9_secondOf_4 : decode cX9_secondOf 4 = .ok (.iload_n 1, 1) := by decide +kernel
theorem dX9_secondOf_5 : decode cX9_secondOf 5 = .ok (.aload_n 0, 1) := by decide +kernel
theorem dX9_secondOf_6 : decode cX9_secondOf 6 = .ok (.getfield 41, 3) := by decide +kernel
theorem dX9_secondOf_9 : decode cX9_secondOf 9 = .ok (.if_icmp .ge 12, 3) := by decide +kernel
theorem dX9_secondOf_12 : decode cX9_secondOf 12 = .ok (.aload_n 0, 1) := by decide +kernel
theorem dX9_secondOf_13 : decode cX9_secondOf 13 = .ok (.getfield 19, 3) := by decide +kernel
theorem dX9_secondOf_16 : decode cX9_secondOf 16 = .ok (.iload_n 1, 1) := by decide +kernel
theorem dX9_secondOf_17 : decode cX9_secondOf 17 = .ok (.iaload, 1) := by decide +kernel
theorem dX9_secondOf_18 : decode cX9_secondOf 18 = .ok (.goto 4, 3) := by decide +kernel
theorem dX9_secondOf_21 : decode cX9_secondOf 21 = .ok (.iconst (-1), 1) := by decide +kernel
theorem dX9_secondOf_22 : decode cX9_secondOf 22 = .ok (.ireturn, 1) := by decide +kernel
theorem dX9_sizeOf_0 : decode cX9_sizeOf 0 = .ok (.iload_n 1, 1) := by decide +kernel
theorem dX9_sizeOf_1 : decode cX9_sizeOf 1 = .ok (.ifCond .lt 20, 3) := by decide +kernel
theorem dX9_sizeOf_4 : decode cX9_sizeOf 4 = .ok (.iload_n 1, 1) := by decide +kernel
theorem dX9_sizeOf_5 : decode cX9_sizeOf 5 = .ok (.aload_n 0, 1) := by decide +kernel
theorem dX9_sizeOf_6 : decode cX9_sizeOf 6 = .ok (.getfield 41, 3) := by decide +kernel
theorem dX9_sizeOf_9 : decode cX9_sizeOf 9 = .ok (.if_icmp .ge 12, 3) := by decide +kernel
theorem dX9_sizeOf_12 : decode cX9_sizeOf 12 = .ok (.aload_n 0, 1) := by decide +kernel
theorem dX9_sizeOf_13 : decode cX9_sizeOf 13 = .ok (.getfield 22, 3) := by decide +kernel
theorem dX9_sizeOf_16 : decode cX9_sizeOf 16 = .ok (.iload_n 1, 1) := by decide +kernel
theorem dX9_sizeOf_17 : decode cX9_sizeOf 17 = .ok (.iaload, 1) := by decide +kernel
theorem dX9_sizeOf_18 : decode cX9_sizeOf 18 = .ok (.goto 4, 3) := by decide +kernel
theorem dX9_sizeOf_21 : decode cX9_sizeOf 21 = .ok (.iconst (-1), 1) := by decide +kernel
theorem dX9_sizeOf_22 : decode cX9_sizeOf 22 = .ok (.ireturn, 1) := by decide +kernel
theorem dX9_numberOf_0 : decode cX9_numberOf 0 = .ok (.iload_n 1, 1) := by decide +kernel
theorem dX9_numberOf_1 : decode cX9_numberOf 1 = .ok (.ifCond .lt 20, 3) := by decide +kernel
theorem dX9_numberOf_4 : decode cX9_numberOf 4 = .ok (.iload_n 1, 1) := by decide +kernel
theorem dX9_numberOf_5 : decode cX9_numberOf 5 = .ok (.aload_n 0, 1) := by decide +kernel
theorem dX9_numberOf_6 : decode cX9_numberOf 6 = .ok (.getfield 41, 3) := by decide +kernel
theorem dX9_numberOf_9 : decode cX9_numberOf 9 = .ok (.if_icmp .ge 12, 3) := by decide +kernel
theorem dX9_numberOf_12 : decode cX9_numberOf 12 = .ok (.aload_n 0, 1) := by decide +kernel
theorem dX9_numberOf_13 : decode cX9_numberOf 13 = .ok (.getfield 25, 3) := by decide +kernel
theorem dX9_numberOf_16 : decode cX9_numberOf 16 = .ok (.iload_n 1, 1) := by decide +kernel
theorem dX9_numberOf_17 : decode cX9_numberOf 17 = .ok (.iaload, 1) := by decide +kernel
theorem dX9_numberOf_18 : decode cX9_numberOf 18 = .ok (.goto 4, 3) := by decide +kernel
theorem dX9_numberOf_21 : decode cX9_numberOf 21 = .ok (.iconst (-1), 1) := by decide +kernel
theorem dX9_numberOf_22 : decode cX9_numberOf 22 = .ok (.ireturn, 1) := by decide +kernel
theorem dX9_freeOf_0 : decode cX9_freeOf 0 = .ok (.iload_n 1, 1) := by decide +kernel
theorem dX9_freeOf_1 : decode cX9_freeOf 1 = .ok (.ifCond .lt 20, 3) := by decide +kernel
theorem dX9_freeOf_4 : decode cX9_freeOf 4 = .ok (.iload_n 1, 1) := by decide +kernel
theorem dX9_freeOf_5 : decode cX9_freeOf 5 = .ok (.aload_n 0, 1) := by decide +kernel
theorem dX9_freeOf_6 : decode cX9_freeOf 6 = .ok (.getfield 41, 3) := by decide +kernel
theorem dX9_freeOf_9 : decode cX9_freeOf 9 = .ok (.if_icmp .ge 12, 3) := by decide +kernel
theorem dX9_freeOf_12 : decode cX9_freeOf 12 = .ok (.aload_n 0, 1) := by decide +kernel
theorem dX9_freeOf_13 : decode cX9_freeOf 13 = .ok (.getfield 28, 3) := by decide +kernel
theorem dX9_freeOf_16 : decode cX9_freeOf 16 = .ok (.iload_n 1, 1) := by decide +kernel
theorem dX9_freeOf_17 : decode cX9_freeOf 17 = .ok (.iaload, 1) := by decide +kernel
theorem dX9_freeOf_18 : decode cX9_freeOf 18 = .ok (.goto 4, 3) := by decide +kernel
theorem dX9_freeOf_21 : decode cX9_freeOf 21 = .ok (.iconst (-1), 1) := by decide +kernel
theorem dX9_freeOf_22 : decode cX9_freeOf 22 = .ok (.ireturn, 1) := by decide +kernel
theorem dX9_callsOf_0 : decode cX9_callsOf 0 = .ok (.iload_n 1, 1) := by decide +kernel
theorem dX9_callsOf_1 : decode cX9_callsOf 1 = .ok (.ifCond .lt 20, 3) := by decide +kernel
theorem dX9_callsOf_4 : decode cX9_callsOf 4 = .ok (.iload_n 1, 1) := by decide +kernel
theorem dX9_callsOf_5 : decode cX9_callsOf 5 = .ok (.aload_n 0, 1) := by decide +kernel
theorem dX9_callsOf_6 : decode cX9_callsOf 6 = .ok (.getfield 41, 3) := by decide +kernel
theorem dX9_callsOf_9 : decode cX9_callsOf 9 = .ok (.if_icmp .ge 12, 3) := by decide +kernel
theorem dX9_callsOf_12 : decode cX9_callsOf 12 = .ok (.aload_n 0, 1) := by decide +kernel
theorem dX9_callsOf_13 : decode cX9_callsOf 13 = .ok (.getfield 31, 3) := by decide +kernel
theorem dX9_callsOf_16 : decode cX9_callsOf 16 = .ok (.iload_n 1, 1) := by decide +kernel
theorem dX9_callsOf_17 : decode cX9_callsOf 17 = .ok (.iaload, 1) := by decide +kernel
theorem dX9_callsOf_18 : decode cX9_callsOf 18 = .ok (.goto 4, 3) := by decide +kernel
theorem dX9_callsOf_21 : decode cX9_callsOf 21 = .ok (.iconst 0, 1) := by decide +kernel
theorem dX9_callsOf_22 : decode cX9_callsOf 22 = .ok (.ireturn, 1) := by decide +kernel
theorem dX9_isLoose_0 : decode cX9_isLoose 0 = .ok (.iload_n 1, 1) := by decide +kernel
theorem dX9_isLoose_1 : decode cX9_isLoose 1 = .ok (.ifCond .lt 24, 3) := by decide +kernel
theorem dX9_isLoose_4 : decode cX9_isLoose 4 = .ok (.iload_n 1, 1) := by decide +kernel
theorem dX9_isLoose_5 : decode cX9_isLoose 5 = .ok (.aload_n 0, 1) := by decide +kernel
theorem dX9_isLoose_6 : decode cX9_isLoose 6 = .ok (.getfield 41, 3) := by decide +kernel
theorem dX9_isLoose_9 : decode cX9_isLoose 9 = .ok (.if_icmp .ge 16, 3) := by decide +kernel
theorem dX9_isLoose_12 : decode cX9_isLoose 12 = .ok (.aload_n 0, 1) := by decide +kernel
theorem dX9_isLoose_13 : decode cX9_isLoose 13 = .ok (.getfield 34, 3) := by decide +kernel
theorem dX9_isLoose_16 : decode cX9_isLoose 16 = .ok (.iload_n 1, 1) := by decide +kernel
theorem dX9_isLoose_17 : decode cX9_isLoose 17 = .ok (.baload, 1) := by decide +kernel
theorem dX9_isLoose_18 : decode cX9_isLoose 18 = .ok (.ifCond .eq 7, 3) := by decide +kernel
theorem dX9_isLoose_21 : decode cX9_isLoose 21 = .ok (.iconst 1, 1) := by decide +kernel
theorem dX9_isLoose_22 : decode cX9_isLoose 22 = .ok (.goto 4, 3) := by decide +kernel
theorem dX9_isLoose_25 : decode cX9_isLoose 25 = .ok (.iconst 0, 1) := by decide +kernel
theorem dX9_isLoose_26 : decode cX9_isLoose 26 = .ok (.ireturn, 1) := by decide +kernel
theorem dX9_headOf_0 : decode cX9_headOf 0 = .ok (.iload_n 1, 1) := by decide +kernel
theorem dX9_headOf_1 : decode cX9_headOf 1 = .ok (.istore_n 2, 1) := by decide +kernel
theorem dX9_headOf_2 : decode cX9_headOf 2 = .ok (.iconst 0, 1) := by decide +kernel
theorem dX9_headOf_3 : decode cX9_headOf 3 = .ok (.istore_n 3, 1) := by decide +kernel
theorem dX9_headOf_4 : decode cX9_headOf 4 = .ok (.iload_n 3, 1) := by decide +kernel
theorem dX9_headOf_5 : decode cX9_headOf 5 = .ok (.sipush 200, 3) := by decide +kernel
theorem dX9_headOf_8 : decode cX9_headOf 8 = .ok (.if_icmp .ge 39, 3) := by decide +kernel
theorem dX9_headOf_11 : decode cX9_headOf 11 = .ok (.iload_n 2, 1) := by decide +kernel
theorem dX9_headOf_12 : decode cX9_headOf 12 = .ok (.ifCond .lt 35, 3) := by decide +kernel
theorem dX9_headOf_15 : decode cX9_headOf 15 = .ok (.iload_n 2, 1) := by decide +kernel
theorem dX9_headOf_16 : decode cX9_headOf 16 = .ok (.aload_n 0, 1) := by decide +kernel
theorem dX9_headOf_17 : decode cX9_headOf 17 = .ok (.getfield 41, 3) := by decide +kernel
theorem dX9_headOf_20 : decode cX9_headOf 20 = .ok (.if_icmp .ge 27, 3) := by decide +kernel
theorem dX9_headOf_23 : decode cX9_headOf 23 = .ok (.aload_n 0, 1) := by decide +kernel
theorem dX9_headOf_24 : decode cX9_headOf 24 = .ok (.getfield 12, 3) := by decide +kernel
theorem dX9_headOf_27 : decode cX9_headOf 27 = .ok (.iload_n 2, 1) := by decide +kernel
theorem dX9_headOf_28 : decode cX9_headOf 28 = .ok (.iaload, 1) := by decide +kernel
theorem dX9_headOf_29 : decode cX9_headOf 29 = .ok (.bipush 7, 2) := by decide +kernel
theorem dX9_headOf_31 : decode cX9_headOf 31 = .ok (.if_icmp .ne 16, 3) := by decide +kernel
theorem dX9_headOf_34 : decode cX9_headOf 34 = .ok (.aload_n 0, 1) := by decide +kernel
theorem dX9_headOf_35 : decode cX9_headOf 35 = .ok (.getfield 16, 3) := by decide +kernel
theorem dX9_headOf_38 : decode cX9_headOf 38 = .ok (.iload_n 2, 1) := by decide +kernel
theorem dX9_headOf_39 : decode cX9_headOf 39 = .ok (.iaload, 1) := by decide +kernel
theorem dX9_headOf_40 : decode cX9_headOf 40 = .ok (.istore_n 2, 1) := by decide +kernel
theorem dX9_headOf_41 : decode cX9_headOf 41 = .ok (.iinc 3 1, 3) := by decide +kernel
theorem dX9_headOf_44 : decode cX9_headOf 44 = .ok (.goto (-40), 3) := by decide +kernel
theorem dX9_headOf_47 : decode cX9_headOf 47 = .ok (.iload_n 2, 1) := by decide +kernel
theorem dX9_headOf_48 : decode cX9_headOf 48 = .ok (.ireturn, 1) := by decide +kernel
theorem dX9_argumentsOf_0 : decode cX9_argumentsOf 0 = .ok (.iload_n 1, 1) := by decide +kernel
theorem dX9_argumentsOf_1 : decode cX9_argumentsOf 1 = .ok (.istore_n 2, 1) := by decide +kernel
theorem dX9_argumentsOf_2 : decode cX9_argumentsOf 2 = .ok (.iconst 0, 1) := by decide +kernel
theorem dX9_argumentsOf_3 : decode cX9_argumentsOf 3 = .ok (.istore_n 3, 1) := by decide +kernel
theorem dX9_argumentsOf_4 : decode cX9_argumentsOf 4 = .ok (.iload_n 3, 1) := by decide +kernel
theorem dX9_argumentsOf_5 : decode cX9_argumentsOf 5 = .ok (.sipush 200, 3) := by decide +kernel
theorem dX9_argumentsOf_8 : decode cX9_argumentsOf 8 = .ok (.if_icmp .ge 39, 3) := by decide +kernel
theorem dX9_argumentsOf_11 : decode cX9_argumentsOf 11 = .ok (.iload_n 2, 1) := by decide +kernel
theorem dX9_argumentsOf_12 : decode cX9_argumentsOf 12 = .ok (.ifCond .lt 35, 3) := by decide +kernel
theorem dX9_argumentsOf_15 : decode cX9_argumentsOf 15 = .ok (.iload_n 2, 1) := by decide +kernel
theorem dX9_argumentsOf_16 : decode cX9_argumentsOf 16 = .ok (.aload_n 0, 1) := by decide +kernel
theorem dX9_argumentsOf_17 : decode cX9_argumentsOf 17 = .ok (.getfield 41, 3) := by decide +kernel
theorem dX9_argumentsOf_20 : decode cX9_argumentsOf 20 = .ok (.if_icmp .ge 27, 3) := by decide +kernel
theorem dX9_argumentsOf_23 : decode cX9_argumentsOf 23 = .ok (.aload_n 0, 1) := by decide +kernel
theorem dX9_argumentsOf_24 : decode cX9_argumentsOf 24 = .ok (.getfield 12, 3) := by decide +kernel
theorem dX9_argumentsOf_27 : decode cX9_argumentsOf 27 = .ok (.iload_n 2, 1) := by decide +kernel
theorem dX9_argumentsOf_28 : decode cX9_argumentsOf 28 = .ok (.iaload, 1) := by decide +kernel
theorem dX9_argumentsOf_29 : decode cX9_argumentsOf 29 = .ok (.bipush 7, 2) := by decide +kernel
theorem dX9_argumentsOf_31 : decode cX9_argumentsOf 31 = .ok (.if_icmp .ne 16, 3) := by decide +kernel
theorem dX9_argumentsOf_34 : decode cX9_argumentsOf 34 = .ok (.aload_n 0, 1) := by decide +kernel
theorem dX9_argumentsOf_35 : decode cX9_argumentsOf 35 = .ok (.getfield 16, 3) := by decide +kernel
theorem dX9_argumentsOf_38 : decode cX9_argumentsOf 38 = .ok (.iload_n 2, 1) := by decide +kernel
theorem dX9_argumentsOf_39 : decode cX9_argumentsOf 39 = .ok (.iaload, 1) := by decide +kernel
theorem dX9_argumentsOf_40 : decode cX9_argumentsOf 40 = .ok (.istore_n 2, 1) := by decide +kernel
theorem dX9_argumentsOf_41 : decode cX9_argumentsOf 41 = .ok (.iinc 3 1, 3) := by decide +kernel
theorem dX9_argumentsOf_44 : decode cX9_argumentsOf 44 = .ok (.goto (-40), 3) := by decide +kernel
theorem dX9_argumentsOf_47 : decode cX9_argumentsOf 47 = .ok (.iload_n 3, 1) := by decide +kernel
theorem dX9_argumentsOf_48 : decode cX9_argumentsOf 48 = .ok (.ireturn, 1) := by decide +kernel
theorem dX9_mark_0 : decode cX9_mark 0 = .ok (.aload_n 0, 1) := by decide +kernel
theorem dX9_mark_1 : decode cX9_mark 1 = .ok (.getfield 41, 3) := by decide +kernel
theorem dX9_mark_4 : decode cX9_mark 4 = .ok (.ireturn, 1) := by decide +kernel
theorem dX9_release_0 : decode cX9_release 0 = .ok (.iload_n 1, 1) := by decide +kernel
theorem dX9_release_1 : decode cX9_release 1 = .ok (.ifCond .lt 16, 3) := by decide +kernel
theorem dX9_release_4 : decode cX9_release 4 = .ok (.iload_n 1, 1) := by decide +kernel
theorem dX9_release_5 : decode cX9_release 5 = .ok (.aload_n 0, 1) := by decide +kernel
theorem dX9_release_6 : decode cX9_release 6 = .ok (.getfield 41, 3) := by decide +kernel
theorem dX9_release_9 : decode cX9_release 9 = .ok (.if_icmp .ge 8, 3) := by decide +kernel
theorem dX9_release_12 : decode cX9_release 12 = .ok (.aload_n 0, 1) := by decide +kernel
theorem dX9_release_13 : decode cX9_release 13 = .ok (.iload_n 1, 1) := by decide +kernel
theorem dX9_release_14 : decode cX9_release 14 = .ok (.putfield 41, 3) := by decide +kernel
theorem dX9_release_17 : decode cX9_release 17 = .ok (.return_, 1) := by decide +kernel
