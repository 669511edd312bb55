/-! decode rows of X3 -/
theorem dX3_findPlain_31 : decode cX3_findPlain 31 = .ok (.iconst 3, 1) := by decide +kernel
theorem dX3_findPlain_32 : decode cX3_findPlain 32 = .ok (.iadd, 1) := by decide +kernel
theorem dX3_findPlain_33 : decode cX3_findPlain 33 = .ok (.iaload, 1) := by decide +kernel
theorem dX3_findPlain_34 : decode cX3_findPlain 34 = .ok (.i2l, 1) := by decide +kernel
theorem dX3_findPlain_35 : decode cX3_findPlain 35 = .ok (.lastore, 1) := by decide +kernel
theorem dX3_findPlain_36 : decode cX3_findPlain 36 = .ok (.iinc 1 1, 3) := by decide +kernel
theorem dX3_findPlain_39 : decode cX3_findPlain 39 = .ok (.goto (-33), 3) := by decide +kernel
theorem dX3_findPlain_42 : decode cX3_findPlain 42 = .ok (.aload_n 0, 1) := by decide +kernel
theorem dX3_findPlain_43 : decode cX3_findPlain 43 = .ok (.invokevirtual 112, 3) := by decide +kernel
theorem dX3_findPlain_46 : decode cX3_findPlain 46 = .ok (.iconst 0, 1) := by decide +kernel
theorem dX3_findPlain_47 : decode cX3_findPlain 47 = .ok (.istore_n 1, 1) := by decide +kernel
theorem dX3_findPlain_48 : decode cX3_findPlain 48 = .ok (.iload_n 1, 1) := by decide +kernel
theorem dX3_findPlain_49 : decode cX3_findPlain 49 = .ok (.aload_n 0, 1) := by decide +kernel
theorem dX3_findPlain_50 : decode cX3_findPlain 50 = .ok (.getfield 72, 3) := by decide +kernel
theorem dX3_findPlain_53 : decode cX3_findPlain 53 = .ok (.if_icmp .ge 80, 3) := by decide +kernel
theorem dX3_findPlain_56 : decode cX3_findPlain 56 = .ok (.lconst 0, 1) := by decide +kernel
theorem dX3_findPlain_57 : decode cX3_findPlain 57 = .ok (.lstore_n 2, 1) := by decide +kernel
theorem dX3_findPlain_58 : decode cX3_findPlain 58 = .ok (.iconst 0, 1) := by decide +kernel
theorem dX3_findPlain_59 : decode cX3_findPlain 59 = .ok (.istore 4, 2) := by decide +kernel
theorem dX3_findPlain_61 : decode cX3_findPlain 61 = .ok (.iload 4, 2) := by decide +kernel
theorem dX3_findPlain_63 : decode cX3_findPlain 63 = .ok (.aload_n 0, 1) := by decide +kernel
theorem dX3_findPlain_64 : decode cX3_findPlain 64 = .ok (.getfield 95, 3) := by decide +kernel
theorem dX3_findPlain_67 : decode cX3_findPlain 67 = .ok (.if_icmp .ge 37, 3) := by decide +kernel
theorem dX3_findPlain_70 : decode cX3_findPlain 70 = .ok (.lload_n 2, 1) := by decide +kernel
theorem dX3_findPlain_71 : decode cX3_findPlain 71 = .ok (.aload_n 0, 1) := by decide +kernel
theorem dX3_findPlain_72 : decode cX3_findPlain 72 = .ok (.getfield 7, 3) := by decide +kernel
theorem dX3_findPlain_75 : decode cX3_findPlain 75 = .ok (.iconst 4, 1) := by decide +kernel
theorem dX3_findPlain_76 : decode cX3_findPlain 76 = .ok (.iload_n 1, 1) := by decide +kernel
theorem dX3_findPlain_77 : decode cX3_findPlain 77 = .ok (.imul, 1) := by decide +kernel
theorem dX3_findPlain_78 : decode cX3_findPlain 78 = .ok (.aload_n 0, 1) := by decide +kernel
theorem dX3_findPlain_79 : decode cX3_findPlain 79 = .ok (.getfield 13, 3) := by decide +kernel
theorem dX3_findPlain_82 : decode cX3_findPlain 82 = .ok (.iload 4, 2) := by decide +kernel
theorem dX3_findPlain_84 : decode cX3_findPlain 84 = .ok (.iaload, 1) := by decide +kernel
theorem dX3_findPlain_85 : decode cX3_findPlain 85 = .ok (.iadd, 1) := by decide +kernel
theorem dX3_findPlain_86 : decode cX3_findPlain 86 = .ok (.iaload, 1) := by decide +kernel
theorem dX3_findPlain_87 : decode cX3_findPlain 87 = .ok (.i2l, 1) := by decide +kernel
theorem dX3_findPlain_88 : decode cX3_findPlain 88 = .ok (.aload_n 0, 1) := by decide +kernel
theorem dX3_findPlain_89 : decode cX3_findPlain 89 = .ok (.getfield 30, 3) := by decide +kernel
theorem dX3_findPlain_92 : decode cX3_findPlain 92 = .ok (.iload 4, 2) := by decide +kernel
theorem dX3_findPlain_94 : decode cX3_findPlain 94 = .ok (.laload, 1) := by decide +kernel
theorem dX3_findPlain_95 : decode cX3_findPlain 95 = .ok (.lmul, 1) := by decide +kernel
theorem dX3_findPlain_96 : decode cX3_findPlain 96 = .ok (.ladd, 1) := by decide +kernel
theorem dX3_findPlain_97 : decode cX3_findPlain 97 = .ok (.lstore_n 2, 1) := by decide +kernel
theorem dX3_findPlain_98 : decode cX3_findPlain 98 = .ok (.iinc 4 1, 3) := by decide +kernel
theorem dX3_findPlain_101 : decode cX3_findPlain 101 = .ok (.goto (-40), 3) := by decide +kernel
theorem dX3_findPlain_104 : decode cX3_findPlain 104 = .ok (.lload_n 2, 1) := by decide +kernel
theorem dX3_findPlain_105 : decode cX3_findPlain 105 = .ok (.aload_n 0, 1) := by decide +kernel
theorem dX3_findPlain_106 : decode cX3_findPlain 106 = .ok (.getfield 7, 3) := by decide +kernel
theorem dX3_findPlain_109 : decode cX3_findPlain 109 = .ok (.iconst 4, 1) := by decide +kernel
theorem dX3_findPlain_110 : decode cX3_findPlain 110 = .ok (.iload_n 1, 1) := by decide +kernel
theorem dX3_findPlain_111 : decode cX3_findPlain 111 = .ok (.imul, 1) := by decide +kernel
theorem dX3_findPlain_112 : decode cX3_findPlain 112 = .ok (.iconst 3, 1) := by decide +kernel
theorem dX3_findPlain_113 : decode cX3_findPlain 113 = .ok (.iadd, 1) := by decide +kernel
theorem dX3_findPlain_114 : decode cX3_findPlain 114 = .ok (.iaload, 1) := by decide +kernel
theorem dX3_findPlain_115 : decode cX3_findPlain 115 = .ok (.i2l, 1) := by decide +kernel
theorem dX3_findPlain_116 : decode cX3_findPlain 116 = .ok (.aload_n 0, 1) := by decide +kernel
theorem dX3_findPlain_117 : decode cX3_findPlain 117 = .ok (.getfield 106, 3) := by decide +kernel
theorem dX3_findPlain_120 : decode cX3_findPlain 120 = .ok (.lmul, 1) := by decide +kernel
theorem dX3_findPlain_121 : decode cX3_findPlain 121 = .ok (.lcmp, 1) := by decide +kernel
theorem dX3_findPlain_122 : decode cX3_findPlain 122 = .ok (.ifCond .eq 5, 3) := by decide +kernel
theorem dX3_findPlain_125 : decode cX3_findPlain 125 = .ok (.iconst 0, 1) := by decide +kernel
theorem dX3_findPlain_126 : decode cX3_findPlain 126 = .ok (.ireturn, 1) := by decide +kernel
theorem dX3_findPlain_127 : decode cX3_findPlain 127 = .ok (.iinc 1 1, 3) := by decide +kernel
theorem dX3_findPlain_130 : decode cX3_findPlain 130 = .ok (.goto (-82), 3) := by decide +kernel
theorem dX3_findPlain_133 : decode cX3_findPlain 133 = .ok (.iconst 1, 1) := by decide +kernel
theorem dX3_findPlain_134 : decode cX3_findPlain 134 = .ok (.ireturn, 1) := by decide +kernel
theorem dX3_solutions_0 : decode cX3_solutions 0 = .ok (.aload_n 0, 1) := by decide +kernel
theorem dX3_solutions_1 : decode cX3_solutions 1 = .ok (.iconst 0, 1) := by decide +kernel
theorem dX3_solutions_2 : decode cX3_solutions 2 = .ok (.putfield 58, 3) := by decide +kernel
theorem dX3_solutions_5 : decode cX3_solutions 5 = .ok (.aload_n 0, 1) := by decide +kernel
theorem dX3_solutions_6 : decode cX3_solutions 6 = .ok (.invokevirtual 115, 3) := by decide +kernel
theorem dX3_solutions_9 : decode cX3_solutions 9 = .ok (.ifCond .eq 15, 3) := by decide +kernel
theorem dX3_solutions_12 : decode cX3_solutions 12 = .ok (.aload_n 0, 1) := by decide +kernel
theorem dX3_solutions_13 : decode cX3_solutions 13 = .ok (.getfield 54, 3) := by decide +kernel
theorem dX3_solutions_16 : decode cX3_solutions 16 = .ok (.aload_n 0, 1) := by decide +kernel
theorem dX3_solutions_17 : decode cX3_solutions 17 = .ok (.getfield 95, 3) := by decide +kernel
theorem dX3_solutions_20 : decode cX3_solutions 20 = .ok (.isub, 1) := by decide +kernel
theorem dX3_solutions_21 : decode cX3_solutions 21 = .ok (.goto 4, 3) := by decide +kernel
theorem dX3_solutions_24 : decode cX3_solutions 24 = .ok (.iconst (-1), 1) := by decide +kernel
theorem dX3_solutions_25 : decode cX3_solutions 25 = .ok (.ireturn, 1) := by decide +kernel
theorem dX3_freeAt_0 : decode cX3_freeAt 0 = .ok (.iconst 0, 1) := by decide +kernel
theorem dX3_freeAt_1 : decode cX3_freeAt 1 = .ok (.istore_n 2, 1) := by decide +kernel
theorem dX3_freeAt_2 : decode cX3_freeAt 2 = .ok (.iconst 0, 1) := by decide +kernel
theorem dX3_freeAt_3 : decode cX3_freeAt 3 = .ok (.istore_n 3, 1) := by decide +kernel
theorem dX3_freeAt_4 : decode cX3_freeAt 4 = .ok (.iload_n 3, 1) := by decide +kernel
theorem dX3_freeAt_5 : decode cX3_freeAt 5 = .ok (.aload_n 0, 1) := by decide +kernel
theorem dX3_freeAt_6 : decode cX3_freeAt 6 = .ok (.getfield 54, 3) := by decide +kernel
theorem dX3_freeAt_9 : decode cX3_freeAt 9 = .ok (.if_icmp .ge 31, 3) := by decide +kernel
theorem dX3_freeAt_12 : decode cX3_freeAt 12 = .ok (.aload_n 0, 1) := by decide +kernel
theorem dX3_freeAt_13 : decode cX3_freeAt 13 = .ok (.getfield 19, 3) := by decide +kernel
theorem dX3_freeAt_16 : decode cX3_freeAt 16 = .ok (.iload_n 3, 1) := by decide +kernel
theorem dX3_freeAt_17 : decode cX3_freeAt 17 = .ok (.baload, 1) := by decide +kernel
theorem dX3_freeAt_18 : decode cX3_freeAt 18 = .ok (.ifCond .ne 6, 3) := by decide +kernel
theorem dX3_freeAt_21 : decode cX3_freeAt 21 = .ok (.goto 13, 3) := by decide +kernel
theorem dX3_freeAt_24 : decode cX3_freeAt 24 = .ok (.iload_n 2, 1) := by decide +kernel
theorem dX3_freeAt_25 : decode cX3_freeAt 25 = .ok (.iload_n 1, 1) := by decide +kernel
theorem dX3_freeAt_26 : decode cX3_freeAt 26 = .ok (.if_icmp .ne 5, 3) := by decide +kernel
theorem dX3_freeAt_29 : decode cX3_freeAt 29 = .ok (.iload_n 3, 1) := by decide +kernel
theorem dX3_freeAt_30 : decode cX3_freeAt 30 = .ok (.ireturn, 1) := by decide +kernel
theorem dX3_freeAt_31 : decode cX3_freeAt 31 = .ok (.iinc 2 1, 3) := by decide +kernel
theorem dX3_freeAt_34 : decode cX3_freeAt 34 = .ok (.iinc 3 1, 3) := by decide +kernel
theorem dX3_freeAt_37 : decode cX3_freeAt 37 = .ok (.goto (-33), 3) := by decide +kernel
theorem dX3_freeAt_40 : decode cX3_freeAt 40 = .ok (.iconst (-1), 1) := by decide +kernel
theorem dX3_freeAt_41 : decode cX3_freeAt 41 = .ok (.ireturn, 1) := by decide +kernel
theorem dX3_free_0 : decode cX3_free 0 = .ok (.aload_n 0, 1) := by decide +kernel
theorem dX3_free_1 : decode cX3_free 1 = .ok (.iconst 0, 1) := by decide +kernel
theorem dX3_free_2 : decode cX3_free 2 = .ok (.putfield 58, 3) := by decide +kernel
theorem dX3_free_5 : decode cX3_free 5 = .ok (.aload_n 0, 1) := by decide +kernel
theorem dX3_free_6 : decode cX3_free 6 = .ok (.invokevirtual 109, 3) := by decide +kernel
theorem dX3_free_9 : decode cX3_free 9 = .ok (.aload_n 0, 1) := by decide +kernel
theorem dX3_free_10 : decode cX3_free 10 = .ok (.iload_n 1, 1) := by decide +kernel
theorem dX3_free_11 : decode cX3_free 11 = .ok (.invokevirtual 119, 3) := by decide +kernel
theorem dX3_free_14 : decode cX3_free 14 = .ok (.ireturn, 1) := by decide +kernel
theorem dX3_isUnknown_0 : decode cX3_isUnknown 0 = .ok (.iload_n 1, 1) := by decide +kernel
theorem dX3_isUnknown_1 : decode cX3_isUnknown 1 = .ok (.i2l, 1) := by decide +kernel
theorem dX3_isUnknown_2 : decode cX3_isUnknown 2 = .ok (.lconst 0, 1) := by decide +kernel
theorem dX3_isUnknown_3 : decode cX3_isUnknown 3 = .ok (.aload_n 0, 1) := by decide +kernel
theorem dX3_isUnknown_4 : decode cX3_isUnknown 4 = .ok (.getfield 54, 3) := by decide +kernel
theorem dX3_isUnknown_7 : decode cX3_isUnknown 7 = .ok (.iconst 1, 1) := by decide +kernel
theorem dX3_isUnknown_8 : decode cX3_isUnknown 8 = .ok (.isub, 1) := by decide +kernel
theorem dX3_isUnknown_9 : decode cX3_isUnknown 9 = .ok (.i2l, 1) := by decide +kernel
theorem dX3_isUnknown_10 : decode cX3_isUnknown 10 = .ok (.invokestatic 75, 3) := by decide +kernel
theorem dX3_isUnknown_13 : decode cX3_isUnknown 13 = .ok (.ireturn, 1) := by decide +kernel
theorem dX3_takeAnswer_0 : decode cX3_takeAnswer 0 = .ok (.aload_n 0, 1) := by decide +kernel
theorem dX3_takeAnswer_1 : decode cX3_takeAnswer 1 = .ok (.lconst 0, 1) := by decide +kernel
theorem dX3_takeAnswer_2 : decode cX3_takeAnswer 2 = .ok (.lconst 1, 1) := by decide +kernel
theorem dX3_takeAnswer_3 : decode cX3_takeAnswer 3 = .ok (.invokevirtual 123, 3) := by decide +kernel
theorem dX3_takeAnswer_6 : decode cX3_takeAnswer 6 = .ok (.iconst 0, 1) := by decide +kernel
theorem dX3_takeAnswer_7 : decode cX3_takeAnswer 7 = .ok (.istore_n 2, 1) := by decide +kernel
theorem dX3_takeAnswer_8 : decode cX3_takeAnswer 8 = .ok (.iload_n 2, 1) := by decide +kernel
theorem dX3_takeAnswer_9 : decode cX3_takeAnswer 9 = .ok (.aload_n 0, 1) := by decide +kernel
theorem dX3_takeAnswer_10 : decode cX3_takeAnswer 10 = .ok (.getfield 95, 3) := by decide +kernel
theorem dX3_takeAnswer_13 : decode cX3_takeAnswer 13 = .ok (.if_icmp .ge 33, 3) := by decide +kernel
theorem dX3_takeAnswer_16 : decode cX3_takeAnswer 16 = .ok (.aload_n 0, 1) := by decide +kernel
theorem dX3_takeAnswer_17 : decode cX3_takeAnswer 17 = .ok (.getfield 13, 3) := by decide +kernel
theorem dX3_takeAnswer_20 : decode cX3_takeAnswer 20 = .ok (.iload_n 2, 1) := by decide +kernel
theorem dX3_takeAnswer_21 : decode cX3_takeAnswer 21 = .ok (.iaload, 1) := by decide +kernel
theorem dX3_takeAnswer_22 : decode cX3_takeAnswer 22 = .ok (.iload_n 1, 1) := by decide +kernel
theorem dX3_takeAnswer_23 : decode cX3_takeAnswer 23 = .ok (.if_icmp .ne 17, 3) := by decide +kernel
theorem dX3_takeAnswer_26 : decode cX3_takeAnswer 26 = .ok (.aload_n 0, 1) := by decide +kernel
theorem dX3_takeAnswer_27 : decode cX3_takeAnswer 27 = .ok (.aload_n 0, 1) := by decide +kernel
theorem dX3_takeAnswer_28 : decode cX3_takeAnswer 28 = .ok (.getfield 30, 3) := by decide +kernel
theorem dX3_takeAnswer_31 : decode cX3_takeAnswer 31 = .ok (.iload_n 2, 1) := by decide +kernel
theorem dX3_takeAnswer_32 : decode cX3_takeAnswer 32 = .ok (.laload, 1) := by decide +kernel
theorem dX3_takeAnswer_33 : decode cX3_takeAnswer 33 = .ok (.aload_n 0, 1) := by decide +kernel
theorem dX3_takeAnswer_34 : decode cX3_takeAnswer 34 = .ok (.getfield 106, 3) := by decide +kernel
theorem dX3_takeAnswer_37 : decode cX3_takeAnswer 37 = .ok (.invokevirtual 123, 3) := by decide +kernel
theorem dX3_takeAnswer_40 : decode cX3_takeAnswer 40 = .ok (.iinc 2 1, 3) := by decide +kernel
theorem dX3_takeAnswer_43 : decode cX3_takeAnswer 43 = .ok (.goto (-35), 3) := by decide +kernel
theorem dX3_takeAnswer_46 : decode cX3_takeAnswer 46 = .ok (.return_, 1) := by decide +kernel
theorem dX3_plain_0 : decode cX3_plain 0 = .ok (.aload_n 0, 1) := by decide +kernel
theorem dX3_plain_1 : decode cX3_plain 1 = .ok (.iload_n 1, 1) := by decide +kernel
theorem dX3_plain_2 : decode cX3_plain 2 = .ok (.invokevirtual 127, 3) := by decide +kernel
theorem dX3_plain_5 : decode cX3_plain 5 = .ok (.ifCond .ne 10, 3) := by decide +kernel
theorem dX3_plain_8 : decode cX3_plain 8 = .ok (.aload_n 0, 1) := by decide +kernel
theorem dX3_plain_9 : decode cX3_plain 9 = .ok (.iconst 1, 1) := by decide +kernel
theorem dX3_plain_10 : decode cX3_plain 10 = .ok (.invokevirtual 130, 3) := by decide +kernel
theorem dX3_plain_13 : decode cX3_plain 13 = .ok (.i2l, 1) := by decide +kernel
theorem dX3_plain_14 : decode cX3_plain 14 = .ok (.lreturn, 1) := by decide +kernel
theorem dX3_plain_15 : decode cX3_plain 15 = .ok (.aload_n 0, 1) := by decide +kernel
theorem dX3_plain_16 : decode cX3_plain 16 = .ok (.invokevirtual 115, 3) := by decide +kernel
theorem dX3_plain_19 : decode cX3_plain 19 = .ok (.ifCond .ne 10, 3) := by decide +kernel
theorem dX3_plain_22 : decode cX3_plain 22 = .ok (.aload_n 0, 1) := by decide +kernel
theorem dX3_plain_23 : decode cX3_plain 23 = .ok (.iconst 2, 1) := by decide +kernel
theorem dX3_plain_24 : decode cX3_plain 24 = .ok (.invokevirtual 130, 3) := by decide +kernel
theorem dX3_plain_27 : decode cX3_plain 27 = .ok (.i2l, 1) := by decide +kernel
theorem dX3_plain_28 : decode cX3_plain 28 = .ok (.lreturn, 1) := by decide +kernel
theorem dX3_plain_29 : decode cX3_plain 29 = .ok (.aload_n 0, 1) := by decide +kernel
theorem dX3_plain_30 : decode cX3_plain 30 = .ok (.iload_n 2, 1) := by decide +kernel
theorem dX3_plain_31 : decode cX3_plain 31 = .ok (.i2l, 1) := by decide +kernel
theorem dX3_plain_32 : decode cX3_plain 32 = .ok (.lconst 0, 1) := by decide +kernel
theorem dX3_plain_33 : decode cX3_plain 33 = .ok (.lconst 1, 1) := by decide +kernel
theorem dX3_plain_34 : decode cX3_plain 34 = .ok (.invokestatic 75, 3) := by decide +kernel
theorem dX3_plain_37 : decode cX3_plain 37 = .ok (.ifCond .eq 7, 3) := by decide +kernel
theorem dX3_plain_40 : decode cX3_plain 40 = .ok (.iconst 0, 1) := by decide +kernel
theorem dX3_plain_41 : decode cX3_plain 41 = .ok (.goto 4, 3) := by decide +kernel
theorem dX3_plain_44 : decode cX3_plain 44 = .ok (.iconst 3, 1) := by decide +kernel
theorem dX3_plain_45 : decode cX3_plain 45 = .ok (.putfield 58, 3) := by decide +kernel
theorem dX3_plain_48 : decode cX3_plain 48 = .ok (.aload_n 0, 1) := by decide +kernel
theorem dX3_plain_49 : decode cX3_plain 49 = .ok (.iload_n 1, 1) := by decide +kernel
theorem dX3_plain_50 : decode cX3_plain 50 = .ok (.invokevirtual 133, 3) := by decide +kernel
theorem dX3_plain_53 : decode cX3_plain 53 = .ok (.aload_n 0, 1) := by decide +kernel
theorem dX3_plain_54 : decode cX3_plain 54 = .ok (.getfield 58, 3) := by decide +kernel
theorem dX3_plain_57 : decode cX3_plain 57 = .ok (.ifCond .le 7, 3) := by decide +kernel
theorem dX3_plain_60 : decode cX3_plain 60 = .ok (.lconst 0, 1) := by decide +kernel
theorem dX3_plain_61 : decode cX3_plain 61 = .ok (.goto 8, 3) := by decide +kernel
theorem dX3_plain_64 : decode cX3_plain 64 = .ok (.aload_n 0, 1) := by decide +kernel
theorem dX3_plain_65 : decode cX3_plain 65 = .ok (.iload_n 2, 1) := by decide +kernel
theorem dX3_plain_66 : decode cX3_plain 66 = .ok (.invokevirtual 136, 3) := by decide +kernel
theorem dX3_plain_69 : decode cX3_plain 69 = .ok (.lreturn, 1) := by decide +kernel
theorem dX3_direction_0 : decode cX3_direction 0 = .ok (.aload_n 0, 1) := by decide +kernel
theorem dX3_direction_1 : decode cX3_direction 1 = .ok (.invokevirtual 109, 3) := by decide +kernel
theorem dX3_direction_4 : decode cX3_direction 4 = .ok (.aload_n 0, 1) := by decide +kernel
theorem dX3_direction_5 : decode cX3_direction 5 = .ok (.iload_n 1, 1) := by decide +kernel
theorem dX3_direction_6 : decode cX3_direction 6 = .ok (.invokevirtual 119, 3) := by decide +kernel
theorem dX3_direction_9 : decode cX3_direction 9 = .ok (.istore 4, 2) := by decide +kernel
theorem dX3_direction_11 : decode cX3_direction 11 = .ok (.iload 4, 2) := by decide +kernel
theorem dX3_direction_13 : decode cX3_direction 13 = .ok (.iconst (-1), 1) := by decide +kernel
theorem dX3_direction_14 : decode cX3_direction 14 = .ok (.if_icmp .eq 11, 3) := by decide +kernel
theorem dX3_direction_17 : decode cX3_direction 17 = .ok (.aload_n 0, 1) := by decide +kernel
theorem dX3_direction_18 : decode cX3_direction 18 = .ok (.iload_n 2, 1) := by decide +kernel
theorem dX3_direction_19 : decode cX3_direction 19 = .ok (.invokevirtual 127, 3) := by decide +kernel
theorem dX3_direction_22 : decode cX3_direction 22 = .ok (.ifCond .ne 10, 3) := by decide +kernel
theorem dX3_direction_25 : decode cX3_direction 25 = .ok (.aload_n 0, 1) := by decide +kernel
theorem dX3_direction_26 : decode cX3_direction 26 = .ok (.iconst 1, 1) := by decide +kernel
theorem dX3_direction_27 : decode cX3_direction 27 = .ok (.invokevirtual 130, 3) := by decide +kernel
theorem dX3_direction_30 : decode cX3_direction 30 = .ok (.i2l, 1) := by decide +kernel
theorem dX3_direction_31 : decode cX3_direction 31 = .ok (.lreturn, 1) := by decide +kernel
theorem dX3_direction_32 : decode cX3_direction 32 = .ok (.aload_n 0, 1) := by decide +kernel
theorem dX3_direction_33 : decode cX3_direction 33 = .ok (.iload_n 3, 1) := by decide +kernel
theorem dX3_direction_34 : decode cX3_direction 34 = .ok (.i2l, 1) := by decide +kernel
theorem dX3_direction_35 : decode cX3_direction 35 = .ok (.lconst 0, 1) := by decide +kernel
theorem dX3_direction_36 : decode cX3_direction 36 = .ok (.lconst 1, 1) := by decide +kernel
theorem dX3_direction_37 : decode cX3_direction 37 = .ok (.invokestatic 75, 3) := by decide +kernel
theorem dX3_direction_40 : decode cX3_direction 40 = .ok (.ifCond .eq 7, 3) := by decide +kernel
theorem dX3_direction_43 : decode cX3_direction 43 = .ok (.iconst 0, 1) := by decide +kernel
theorem dX3_direction_44 : decode cX3_direction 44 = .ok (.goto 4, 3) := by decide +kernel
theorem dX3_direction_47 : decode cX3_direction 47 = .ok (.iconst 2, 1) := by decide +kernel
theorem dX3_direction_48 : decode cX3_direction 48 = .ok (.putfield 58, 3) := by decide +kernel
theorem dX3_direction_51 : decode cX3_direction 51 = .ok (.aload_n 0, 1) := by decide +kernel
theorem dX3_direction_52 : decode cX3_direction 52 = .ok (.getfield 58, 3) := by decide +kernel
theorem dX3_direction_55 : decode cX3_direction 55 = .ok (.ifCond .le 5, 3) := by decide +kernel
theorem dX3_direction_58 : decode cX3_direction 58 = .ok (.lconst 0, 1) := by decide +kernel
theorem dX3_direction_59 : decode cX3_direction 59 = .ok (.lreturn, 1) := by decide +kernel
theorem dX3_direction_60 : decode cX3_direction 60 = .ok (.iconst 0, 1) := by decide +kernel
theorem dX3_direction_61 : decode cX3_direction 61 = .ok (.istore 5, 2) := by decide +kernel
theorem dX3_direction_63 : decode cX3_direction 63 = .ok (.iload 5, 2) := by decide +kernel
theorem dX3_direction_65 : decode cX3_direction 65 = .ok (.aload_n 0, 1) := by decide +kernel
theorem dX3_direction_66 : decode cX3_direction 66 = .ok (.getfield 95, 3) := by decide +kernel
theorem dX3_direction_69 : decode cX3_direction 69 = .ok (.if_icmp .ge 35, 3) := by decide +kernel
theorem dX3_direction_72 : decode cX3_direction 72 = .ok (.aload_n 0, 1) := by decide +kernel
theorem dX3_direction_73 : decode cX3_direction 73 = .ok (.getfield 27, 3) := by decide +kernel
theorem dX3_direction_76 : decode cX3_direction 76 = .ok (.iload 5, 2) := by decide +kernel
theorem dX3_direction_78 : decode cX3_direction 78 = .ok (.aload_n 0, 1) := by decide +kernel
theorem dX3_direction_79 : decode cX3_direction 79 = .ok (.getfield 7, 3) := by decide +kernel
theorem dX3_direction_82 : decode cX3_direction 82 = .ok (.iconst 4, 1) := by decide +kernel
theorem dX3_direction_83 : decode cX3_direction 83 = .ok (.aload_n 0, 1) := by decide +kernel
theorem dX3_direction_84 : decode cX3_direction 84 = .ok (.getfield 16, 3) := by decide +kernel
theorem dX3_direction_87 : decode cX3_direction 87 = .ok (.iload 5, 2) := by decide +kernel
theorem dX3_direction_89 : decode cX3_direction 89 = .ok (.iaload, 1) := by decide +kernel
theorem dX3_direction_90 : decode cX3_direction 90 = .ok (.imul, 1) := by decide +kernel
theorem dX3_direction_91 : decode cX3_direction 91 = .ok (.iload 4, 2) := by decide +kernel
theorem dX3_direction_93 : decode cX3_direction 93 = .ok (.iadd, 1) := by decide +kernel
theorem dX3_direction_94 : decode cX3_direction 94 = .ok (.iaload, 1) := by decide +kernel
theorem dX3_direction_95 : decode cX3_direction 95 = .ok (.ineg, 1) := by decide +kernel
theorem dX3_direction_96 : decode cX3_direction 96 = .ok (.i2l, 1) := by decide +kernel
theorem dX3_direction_97 : decode cX3_direction 97 = .ok (.lastore, 1) := by decide +kernel
theorem dX3_direction_98 : decode cX3_direction 98 = .ok (.iinc 5 1, 3) := by decide +kernel
theorem dX3_direction_101 : decode cX3_direction 101 = .ok (.goto (-38), 3) := by decide +kernel
theorem dX3_direction_104 : decode cX3_direction 104 = .ok (.aload_n 0, 1) := by decide +kernel
theorem dX3_direction_105 : decode cX3_direction 105 = .ok (.invokevirtual 112, 3) := by decide +kernel
theorem dX3_direction_108 : decode cX3_direction 108 = .ok (.aload_n 0, 1) := by decide +kernel
theorem dX3_direction_109 : decode cX3_direction 109 = .ok (.iload_n 2, 1) := by decide +kernel
theorem dX3_direction_110 : decode cX3_direction 110 = .ok (.invokevirtual 133, 3) := by decide +kernel
theorem dX3_direction_113 : decode cX3_direction 113 = .ok (.iload_n 2, 1) := by decide +kernel
theorem dX3_direction_114 : decode cX3_direction 114 = .ok (.iload 4, 2) := by decide +kernel
theorem dX3_direction_116 : decode cX3_direction 116 = .ok (.if_icmp .ne 9, 3) := by decide +kernel
theorem dX3_direction_119 : decode cX3_direction 119 = .ok (.aload_n 0, 1) := by decide +kernel
theorem dX3_direction_120 : decode cX3_direction 120 = .ok (.lconst 1, 1) := by decide +kernel
theorem dX3_direction_121 : decode cX3_direction 121 = .ok (.lconst 1, 1) := by decide +kernel
theorem dX3_direction_122 : decode cX3_direction 122 = .ok (.invokevirtual 123, 3) := by decide +kernel
theorem dX3_direction_125 : decode cX3_direction 125 = .ok (.aload_n 0, 1) := by decide +kernel
theorem dX3_direction_126 : decode cX3_direction 126 = .ok (.iload_n 3, 1) := by decide +kernel
theorem dX3_direction_127 : decode cX3_direction 127 = .ok (.invokevirtual 136, 3) := by decide +kernel
theorem dX3_direction_130 : decode cX3_direction 130 = .ok (.lreturn, 1) := by decide +kernel
theorem dX3_member_0 : decode cX3_member 0 = .ok (.aload_n 0, 1) := by decide +kernel
theorem dX3_member_1 : decode cX3_member 1 = .ok (.getfield 36, 3) := by decide +kernel
theorem dX3_member_4 : decode cX3_member 4 = .ok (.iconst 3, 1) := by decide +kernel
theorem dX3_member_5 : decode cX3_member 5 = .ok (.aload_n 0, 1) := by decide +kernel
theorem dX3_member_6 : decode cX3_member 6 = .ok (.getfield 139, 3) := by decide +kernel
theorem dX3_member_9 : decode cX3_member 9 = .ok (.imul, 1) := by decide +kernel
theorem dX3_member_10 : decode cX3_member 10 = .ok (.lload_n 1, 1) := by decide +kernel
theorem dX3_member_11 : decode cX3_member 11 = .ok (.lastore, 1) := by decide +kernel
theorem dX3_member_12 : decode cX3_member 12 = .ok (.aload_n 0, 1) := by decide +kernel
theorem dX3_member_13 : decode cX3_member 13 = .ok (.getfield 36, 3) := by decide +kernel
theorem dX3_member_16 : decode cX3_member 16 = .ok (.iconst 3, 1) := by decide +kernel
theorem dX3_member_17 : decode cX3_member 17 = .ok (.aload_n 0, 1) := by decide +kernel
theorem dX3_member_18 : decode cX3_member 18 = .ok (.getfield 139, 3) := by decide +kernel
theorem dX3_member_21 : decode cX3_member 21 = .ok (.imul, 1) := by decide +kernel
theorem dX3_member_22 : decode cX3_member 22 = .ok (.iconst 1, 1) := by decide +kernel
theorem dX3_member_23 : decode cX3_member 23 = .ok (.iadd, 1) := by decide +kernel
theorem dX3_member_24 : decode cX3_member 24 = .ok (.lload_n 3, 1) := by decide +kernel
theorem dX3_member_25 : decode cX3_member 25 = .ok (.lastore, 1) := by decide +kernel
theorem dX3_member_26 : decode cX3_member 26 = .ok (.aload_n 0, 1) := by decide +kernel
theorem dX3_member_27 : decode cX3_member 27 = .ok (.getfield 36, 3) := by decide +kernel
theorem dX3_member_30 : decode cX3_member 30 = .ok (.iconst 3, 1) := by decide +kernel
theorem dX3_member_31 : decode cX3_member 31 = .ok (.aload_n 0, 1) := by decide +kernel
theorem dX3_member_32 : decode cX3_member 32 = .ok (.getfield 139, 3) := by decide +kernel
theorem dX3_member_35 : decode cX3_member 35 = .ok (.imul, 1) := by decide +kernel
theorem dX3_member_36 : decode cX3_member 36 = .ok (.iconst 2, 1) := by decide +kernel
theorem dX3_member_37 : decode cX3_member 37 = .ok (.iadd, 1) := by decide +kernel
theorem dX3_member_38 : decode cX3_member 38 = .ok (.lload 5, 2) := by decide +kernel
theorem dX3_member_40 : decode cX3_member 40 = .ok (.lastore, 1) := by decide +kernel
theorem dX3_member_41 : decode cX3_member 41 = .ok (.aload_n 0, 1) := by decide +kernel
theorem dX3_member_42 : decode cX3_member 42 = .ok (.dup, 1) := by decide +kernel
theorem dX3_member_43 : decode cX3_member 43 = .ok (.getfield 139, 3) := by decide +kernel
theorem dX3_member_46 : decode cX3_member 46 = .ok (.iconst 1, 1) := by decide +kernel
theorem dX3_member_47 : decode cX3_member 47 = .ok (.iadd, 1) := by decide +kernel
theorem dX3_member_48 : decode cX3_member 48 = .ok (.putfield 139, 3) := by decide +kernel
theorem dX3_member_51 : decode cX3_member 51 = .ok (.return_, 1) := by decide +kernel
theorem dX3_lineOf_0 : decode cX3_lineOf 0 = .ok (.lload_n 1, 1) := by decide +kernel
theorem dX3_lineOf_1 : decode cX3_lineOf 1 = .ok (.lload_n 3, 1) := by decide +kernel
theorem dX3_lineOf_2 : decode cX3_lineOf 2 = .ok (.lload 5, 2) := by decide +kernel
theorem dX3_lineOf_4 : decode cX3_lineOf 4 = .ok (.invokestatic 61, 3) := by decide +kernel
theorem dX3_lineOf_7 : decode cX3_lineOf 7 = .ok (.invokestatic 61, 3) := by decide +kernel
theorem dX3_lineOf_10 : decode cX3_lineOf 10 = .ok (.lstore 7, 2) := by decide +kernel
theorem dX3_lineOf_12 : decode cX3_lineOf 12 = .ok (.lload_n 1, 1) := by decide +kernel
theorem dX3_lineOf_13 : decode cX3_lineOf 13 = .ok (.lconst 0, 1) := by decide +kernel
theorem dX3_lineOf_14 : decode cX3_lineOf 14 = .ok (.lcmp, 1) := by decide +kernel
theorem dX3_lineOf_15 : decode cX3_lineOf 15 = .ok (.ifCond .eq 7, 3) := by decide +kernel
theorem dX3_lineOf_18 : decode cX3_lineOf 18 = .ok (.lload_n 1, 1) := by decide +kernel
theorem dX3_lineOf_19 : decode cX3_lineOf 19 = .ok (.goto 15, 3) := by decide +kernel
theorem dX3_lineOf_22 : decode cX3_lineOf 22 = .ok (.lload_n 3, 1) := by decide +kernel
theorem dX3_lineOf_23 : decode cX3_lineOf 23 = .ok (.lconst 0, 1) := by decide +kernel
theorem dX3_lineOf_24 : decode cX3_lineOf 24 = .ok (.lcmp, 1) := by decide +kernel
theorem dX3_lineOf_25 : decode cX3_lineOf 25 = .ok (.ifCond .eq 7, 3) := by decide +kernel
theorem dX3_lineOf_28 : decode cX3_lineOf 28 = .ok (.lload_n 3, 1) := by decide +kernel
theorem dX3_lineOf_29 : decode cX3_lineOf 29 = .ok (.goto 5, 3) := by decide +kernel
theorem dX3_lineOf_32 : decode cX3_lineOf 32 = .ok (.lload 5, 2) := by decide +kernel
theorem dX3_lineOf_34 : decode cX3_lineOf 34 = .ok (.lstore 9, 2) := by decide +kernel
theorem dX3_lineOf_36 : decode cX3_lineOf 36 = .ok (.lload 9, 2) := by decide +kernel
theorem dX3_lineOf_38 : decode cX3_lineOf 38 = .ok (.lconst 0, 1) := by decide +kernel
theorem dX3_lineOf_39 : decode cX3_lineOf 39 = .ok (.lcmp, 1) := by decide +kernel
theorem dX3_lineOf_40 : decode cX3_lineOf 40 = .ok (.ifCond .ge 9, 3) := by decide +kernel
theorem dX3_lineOf_43 : decode cX3_lineOf 43 = .ok (.lload 7, 2) := by decide +kernel
theorem dX3_lineOf_45 : decode cX3_lineOf 45 = .ok (.lneg, 1) := by decide +kernel
theorem dX3_lineOf_46 : decode cX3_lineOf 46 = .ok (.goto 5, 3) := by decide +kernel
theorem dX3_lineOf_49 : decode cX3_lineOf 49 = .ok (.lload 7, 2) := by decide +kernel
theorem dX3_lineOf_51 : decode cX3_lineOf 51 = .ok (.lstore 7, 2) := by decide +kernel
theorem dX3_lineOf_53 : decode cX3_lineOf 53 = .ok (.aload_n 0, 1) := by decide +kernel
theorem dX3_lineOf_54 : decode cX3_lineOf 54 = .ok (.lload_n 1, 1) := by decide +kernel
theorem dX3_lineOf_55 : decode cX3_lineOf 55 = .ok (.lload 7, 2) := by decide +kernel
theorem dX3_lineOf_57 : decode cX3_lineOf 57 = .ok (.ldiv, 1) := by decide +kernel
theorem dX3_lineOf_58 : decode cX3_lineOf 58 = .ok (.lload_n 3, 1) := by decide +kernel
theorem dX3_lineOf_59 : decode cX3_lineOf 59 = .ok (.lload 7, 2) := by decide +kernel
theorem dX3_lineOf_61 : decode cX3_lineOf 61 = .ok (.ldiv, 1) := by decide +kernel
theorem dX3_lineOf_62 : decode cX3_lineOf 62 = .ok (.lload 5, 2) := by decide +kernel
theorem dX3_lineOf_64 : decode cX3_lineOf 64 = .ok (.lload 7, 2) := by decide +kernel
theorem dX3_lineOf_66 : decode cX3_lineOf 66 = .ok (.ldiv, 1) := by decide +kernel
theorem dX3_lineOf_67 : decode cX3_lineOf 67 = .ok (.invokevirtual 142, 3) := by decide +kernel
theorem dX3_lineOf_70 : decode cX3_lineOf 70 = .ok (.return_, 1) := by decide +kernel
theorem dX3_planeOf_0 : decode cX3_planeOf 0 = .ok (.lload_n 3, 1) := by decide +kernel
theorem dX3_planeOf_1 : decode cX3_planeOf 1 = .ok (.lconst 0, 1) := by decide +kernel
theorem dX3_planeOf_2 : decode cX3_planeOf 2 = .ok (.lcmp, 1) := by decide +kernel
theorem dX3_planeOf_3 : decode cX3_planeOf 3 = .ok (.ifCond .ne 25, 3) := by decide +kernel
theorem dX3_planeOf_6 : decode cX3_planeOf 6 = .ok (.lload 5, 2) := by decide +kernel
theorem dX3_planeOf_8 : decode cX3_planeOf 8 = .ok (.lconst 0, 1) := by decide +kernel
theorem dX3_planeOf_9 : decode cX3_planeOf 9 = .ok (.lcmp, 1) := by decide +kernel
theorem dX3_planeOf_10 : decode cX3_planeOf 10 = .ok (.ifCond .ne 18, 3) := by decide +kernel
theorem dX3_planeOf_13 : decode cX3_planeOf 13 = .ok (.aload_n 0, 1) := by decide +kernel
theorem dX3_planeOf_14 : decode cX3_planeOf 14 = .ok (.lconst 0, 1) := by decide +kernel
theorem dX3_planeOf_15 : decode cX3_planeOf 15 = .ok (.lconst 1, 1) := by decide +kernel
theorem dX3_planeOf_16 : decode cX3_planeOf 16 = .ok (.lconst 0, 1) := by decide +kernel
theorem dX3_planeOf_17 : decode cX3_planeOf 17 = .ok (.invokevirtual 142, 3) := by decide +kernel
theorem dX3_planeOf_20 : decode cX3_planeOf 20 = .ok (.aload_n 0, 1) := by decide +kernel
theorem dX3_planeOf_21 : decode cX3_planeOf 21 = .ok (.lconst 0, 1) := by decide +kernel
theorem dX3_planeOf_22 : decode cX3_planeOf 22 = .ok (.lconst 0, 1) := by decide +kernel
theorem dX3_planeOf_23 : decode cX3_planeOf 23 = .ok (.lconst 1, 1) := by decide +kernel
theorem dX3_planeOf_24 : decode cX3_planeOf 24 = .ok (.invokevirtual 142, 3) := by decide +kernel
theorem dX3_planeOf_27 : decode cX3_planeOf 27 = .ok (.return_, 1) := by decide +kernel
theorem dX3_planeOf_28 : decode cX3_planeOf 28 = .ok (.lload_n 3, 1) := by decide +kernel
theorem dX3_planeOf_29 : decode cX3_planeOf 29 = .ok (.lload 5, 2) := by decide +kernel
theorem dX3_planeOf_31 : decode cX3_planeOf 31 = .ok (.invokestatic 61, 3) := by decide +kernel
theorem dX3_planeOf_34 : decode cX3_planeOf 34 = .ok (.lstore 7, 2) := by decide +kernel
theorem dX3_planeOf_36 : decode cX3_planeOf 36 = .ok (.lload_n 3, 1) := by decide +kernel
theorem dX3_planeOf_37 : decode cX3_planeOf 37 = .ok (.lload 7, 2) := by decide +kernel
theorem dX3_planeOf_39 : decode cX3_planeOf 39 = .ok (.ldiv, 1) := by decide +kernel
theorem dX3_planeOf_40 : decode cX3_planeOf 40 = .ok (.lstore 9, 2) := by decide +kernel
theorem dX3_planeOf_42 : decode cX3_planeOf 42 = .ok (.lload 5, 2) := by decide +kernel
theorem dX3_planeOf_44 : decode cX3_planeOf 44 = .ok (.lload 7, 2) := by decide +kernel
theorem dX3_planeOf_46 : decode cX3_planeOf 46 = .ok (.ldiv, 1) := by decide +kernel
theorem dX3_planeOf_47 : decode cX3_planeOf 47 = .ok (.lstore 11, 2) := by decide +kernel
theorem dX3_planeOf_49 : decode cX3_planeOf 49 = .ok (.lload 11, 2) := by decide +kernel
theorem dX3_planeOf_51 : decode cX3_planeOf 51 = .ok (.lconst 0, 1) := by decide +kernel
theorem dX3_planeOf_52 : decode cX3_planeOf 52 = .ok (.lcmp, 1) := by decide +kernel
theorem dX3_planeOf_53 : decode cX3_planeOf 53 = .ok (.ifCond .ge 9, 3) := by decide +kernel
theorem dX3_planeOf_56 : decode cX3_planeOf 56 = .ok (.lload 11, 2) := by decide +kernel
theorem dX3_planeOf_58 : decode cX3_planeOf 58 = .ok (.lneg, 1) := by decide +kernel
theorem dX3_planeOf_59 : decode cX3_planeOf 59 = .ok (.goto 5, 3) := by decide +kernel
theorem dX3_planeOf_62 : decode cX3_planeOf 62 = .ok (.lload 11, 2) := by decide +kernel
theorem dX3_planeOf_64 : decode cX3_planeOf 64 = .ok (.lstore 13, 2) := by decide +kernel
theorem dX3_planeOf_66 : decode cX3_planeOf 66 = .ok (.lload 11, 2) := by decide +kernel
theorem dX3_planeOf_68 : decode cX3_planeOf 68 = .ok (.lconst 0, 1) := by decide +kernel
theorem dX3_planeOf_69 : decode cX3_planeOf 69 = .ok (.lcmp, 1) := by decide +kernel
theorem dX3_planeOf_70 : decode cX3_planeOf 70 = .ok (.ifCond .ne 11, 3) := by decide +kernel
theorem dX3_planeOf_73 : decode cX3_planeOf 73 = .ok (.lload_n 1, 1) := by decide +kernel
theorem dX3_planeOf_74 : decode cX3_planeOf 74 = .ok (.lneg, 1) := by decide +kernel
theorem dX3_planeOf_75 : decode cX3_planeOf 75 = .ok (.lload 9, 2) := by decide +kernel
theorem dX3_planeOf_77 : decode cX3_planeOf 77 = .ok (.ldiv, 1) := by decide +kernel
theorem dX3_planeOf_78 : decode cX3_planeOf 78 = .ok (.goto 4, 3) := by decide +kernel
theorem dX3_planeOf_81 : decode cX3_planeOf 81 = .ok (.lconst 0, 1) := by decide +kernel
theorem dX3_planeOf_82 : decode cX3_planeOf 82 = .ok (.lstore 15, 2) := by decide +kernel
theorem dX3_planeOf_84 : decode cX3_planeOf 84 = .ok (.lload 11, 2) := by decide +kernel
theorem dX3_planeOf_86 : decode cX3_planeOf 86 = .ok (.lconst 0, 1) := by decide +kernel
theorem dX3_planeOf_87 : decode cX3_planeOf 87 = .ok (.lcmp, 1) := by decide +kernel
theorem dX3_planeOf_88 : decode cX3_planeOf 88 = .ok (.ifCond .eq 28, 3) := by decide +kernel
theorem dX3_planeOf_91 : decode cX3_planeOf 91 = .ok (.lload_n 1, 1) := by decide +kernel
theorem dX3_planeOf_92 : decode cX3_planeOf 92 = .ok (.lneg, 1) := by decide +kernel
theorem dX3_planeOf_93 : decode cX3_planeOf 93 = .ok (.lload 9, 2) := by decide +kernel
theorem dX3_planeOf_95 : decode cX3_planeOf 95 = .ok (.lload 15, 2) := by decide +kernel
theorem dX3_planeOf_97 : decode cX3_planeOf 97 = .ok (.lmul, 1) := by decide +kernel
theorem dX3_planeOf_98 : decode cX3_planeOf 98 = .ok (.lsub, 1) := by decide +kernel
theorem dX3_planeOf_99 : decode cX3_planeOf 99 = .ok (.lload 11, 2) := by decide +kernel
theorem dX3_planeOf_101 : decode cX3_planeOf 101 = .ok (.lrem, 1) := by decide +kernel
theorem dX3_planeOf_102 : decode cX3_planeOf 102 = .ok (.lconst 0, 1) := by decide +kernel
theorem dX3_planeOf_103 : decode cX3_planeOf 103 = .ok (.lcmp, 1) := by decide +kernel
theorem dX3_planeOf_104 : decode cX3_planeOf 104 = .ok (.ifCond .eq 12, 3) := by decide +kernel
theorem dX3_planeOf_107 : decode cX3_planeOf 107 = .ok (.lload 15, 2) := by decide +kernel
theorem dX3_planeOf_109 : decode cX3_planeOf 109 = .ok (.lconst 1, 1) := by decide +kernel
theorem dX3_planeOf_110 : decode cX3_planeOf 110 = .ok (.ladd, 1) := by decide +kernel
theorem dX3_planeOf_111 : decode cX3_planeOf 111 = .ok (.lstore 15, 2) := by decide +kernel
theorem dX3_planeOf_113 : decode cX3_planeOf 113 = .ok (.goto (-29), 3) := by decide +kernel
theorem dX3_planeOf_116 : decode cX3_planeOf 116 = .ok (.aload_n 0, 1) := by decide +kernel
theorem dX3_planeOf_117 : decode cX3_planeOf 117 = .ok (.lload 7, 2) := by decide +kernel
theorem dX3_planeOf_119 : decode cX3_planeOf 119 = .ok (.lload 15, 2) := by decide +kernel
theorem dX3_planeOf_121 : decode cX3_planeOf 121 = .ok (.lload 11, 2) := by decide +kernel
theorem dX3_planeOf_123 : decode cX3_planeOf 123 = .ok (.lconst 0, 1) := by decide +kernel
theorem dX3_planeOf_124 : decode cX3_planeOf 124 = .ok (.lcmp, 1) := by decide +kernel
theorem dX3_planeOf_125 : decode cX3_planeOf 125 = .ok (.ifCond .ne 7, 3) := by decide +kernel
theorem dX3_planeOf_128 : decode cX3_planeOf 128 = .ok (.lconst 0, 1) := by decide +kernel
theorem dX3_planeOf_129 : decode cX3_planeOf 129 = .ok (.goto 14, 3) := by decide +kernel
theorem dX3_planeOf_132 : decode cX3_planeOf 132 = .ok (.lload_n 1, 1) := by decide +kernel
theorem dX3_planeOf_133 : decode cX3_planeOf 133 = .ok (.lneg, 1) := by decide +kernel
theorem dX3_planeOf_134 : decode cX3_planeOf 134 = .ok (.lload 9, 2) := by decide +kernel
theorem dX3_planeOf_136 : decode cX3_planeOf 136 = .ok (.lload 15, 2) := by decide +kernel
theorem dX3_planeOf_138 : decode cX3_planeOf 138 = .ok (.lmul, 1) := by decide +kernel
theorem dX3_planeOf_139 : decode cX3_planeOf 139 = .ok (.lsub, 1) := by decide +kernel
theorem dX3_planeOf_140 : decode cX3_planeOf 140 = .ok (.lload 11, 2) := by decide +kernel
theorem dX3_planeOf_142 : decode cX3_planeOf 142 = .ok (.ldiv, 1) := by decide +kernel
theorem dX3_planeOf_143 : decode cX3_planeOf 143 = .ok (.invokevirtual 142, 3) := by decide +kernel
theorem dX3_planeOf_146 : decode cX3_planeOf 146 = .ok (.lload 11, 2) := by decide +kernel
theorem dX3_planeOf_148 : decode cX3_planeOf 148 = .ok (.lconst 0, 1) := by decide +kernel
theorem dX3_planeOf_149 : decode cX3_planeOf 149 = .ok (.lcmp, 1) := by decide +kernel
theorem dX3_planeOf_150 : decode cX3_planeOf 150 = .ok (.ifCond .ne 13, 3) := by decide +kernel
theorem dX3_planeOf_153 : decode cX3_planeOf 153 = .ok (.aload_n 0, 1) := by decide +kernel
theorem dX3_planeOf_154 : decode cX3_planeOf 154 = .ok (.lconst 0, 1) := by decide +kernel
theorem dX3_planeOf_155 : decode cX3_planeOf 155 = .ok (.lconst 0, 1) := by decide +kernel
theorem dX3_planeOf_156 : decode cX3_planeOf 156 = .ok (.lconst 1, 1) := by decide +kernel
theorem dX3_planeOf_157 : decode cX3_planeOf 157 = .ok (.invokevirtual 142, 3) := by decide +kernel
theorem dX3_planeOf_160 : decode cX3_planeOf 160 = .ok (.goto 25, 3) := by decide +kernel
theorem dX3_planeOf_163 : decode cX3_planeOf 163 = .ok (.aload_n 0, 1) := by decide +kernel
theorem dX3_planeOf_164 : decode cX3_planeOf 164 = .ok (.lconst 0, 1) := by decide +kernel
theorem dX3_planeOf_165 : decode cX3_planeOf 165 = .ok (.lload 13, 2) := by decide +kernel
theorem dX3_planeOf_167 : decode cX3_planeOf 167 = .ok (.lload 11, 2) := by decide +kernel
theorem dX3_planeOf_169 : decode cX3_planeOf 169 = .ok (.lconst 0, 1) := by decide +kernel
theorem dX3_planeOf_170 : decode cX3_planeOf 170 = .ok (.lcmp, 1) := by decide +kernel
theorem dX3_planeOf_171 : decode cX3_planeOf 171 = .ok (.ifCond .ge 8, 3) := by decide +kernel
theorem dX3_planeOf_174 : decode cX3_planeOf 174 = .ok (.lload 9, 2) := by decide +kernel
theorem dX3_planeOf_176 : decode cX3_planeOf 176 = .ok (.goto 6, 3) := by decide +kernel
theorem dX3_planeOf_179 : decode cX3_planeOf 179 = .ok (.lload 9, 2) := by decide +kernel
theorem dX3_planeOf_181 : decode cX3_planeOf 181 = .ok (.lneg, 1) := by decide +kernel
theorem dX3_planeOf_182 : decode cX3_planeOf 182 = .ok (.invokevirtual 142, 3) := by decide +kernel
theorem dX3_planeOf_185 : decode cX3_planeOf 185 = .ok (.return_, 1) := by decide +kernel
theorem dX3_findBase_0 : decode cX3_findBase 0 = .ok (.aload_n 0, 1) := by decide +kernel
theorem dX3_findBase_1 : decode cX3_findBase 1 = .ok (.invokevirtual 109, 3) := by decide +kernel
theorem dX3_findBase_4 : decode cX3_findBase 4 = .ok (.aload_n 0, 1) := by decide +kernel
theorem dX3_findBase_5 : decode cX3_findBase 5 = .ok (.iconst 0, 1) := by decide +kernel
theorem dX3_findBase_6 : decode cX3_findBase 6 = .ok (.putfield 139, 3) := by decide +kernel
theorem dX3_findBase_9 : decode cX3_findBase 9 = .ok (.aload_n 0, 1) := by decide +kernel
theorem dX3_findBase_10 : decode cX3_findBase 10 = .ok (.getfield 95, 3) := by decide +kernel
theorem dX3_findBase_13 : decode cX3_findBase 13 = .ok (.ifCond .ne 55, 3) := by decide +kernel
theorem dX3_findBase_16 : decode cX3_findBase 16 = .ok (.iconst 0, 1) := by decide +kernel
theorem dX3_findBase_17 : decode cX3_findBase 17 = .ok (.istore_n 1, 1) := by decide +kernel
theorem dX3_findBase_18 : decode cX3_findBase 18 = .ok (.iload_n 1, 1) := by decide +kernel
theorem dX3_findBase_19 : decode cX3_findBase 19 = .ok (.aload_n 0, 1) := by decide +kernel
theorem dX3_findBase_20 : decode cX3_findBase 20 = .ok (.getfield 54, 3) := by decide +kernel
theorem dX3_findBase_23 : decode cX3_findBase 23 = .ok (.if_icmp .ge 42, 3) := by decide +kernel
theorem dX3_findBase_26 : decode cX3_findBase 26 = .ok (.aload_n 0, 1) := by decide +kernel
theorem dX3_findBase_27 : decode cX3_findBase 27 = .ok (.iload_n 1, 1) := by decide +kernel
theorem dX3_findBase_28 : decode cX3_findBase 28 = .ok (.ifCond .ne 7, 3) := by decide +kernel
theorem dX3_findBase_31 : decode cX3_findBase 31 = .ok (.lconst 1, 1) := by decide +kernel
theorem dX3_findBase_32 : decode cX3_findBase 32 = .ok (.goto 4, 3) := by decide +kernel
theorem dX3_findBase_35 : decode cX3_findBase 35 = .ok (.lconst 0, 1) := by decide +kernel
theorem dX3_findBase_36 : decode cX3_findBase 36 = .ok (.iload_n 1, 1) := by decide +kernel
theorem dX3_findBase_37 : decode cX3_findBase 37 = .ok (.iconst 1, 1) := by decide +kernel
theorem dX3_findBase_38 : decode cX3_findBase 38 = .ok (.if_icmp .ne 7, 3) := by decide +kernel
theorem dX3_findBase_41 : decode cX3_findBase 41 = .ok (.lconst 1, 1) := by decide +kernel
theorem dX3_findBase_42 : decode cX3_findBase 42 = .ok (.goto 4, 3) := by decide +kernel
theorem dX3_findBase_45 : decode cX3_findBase 45 = .ok (.lconst 0, 1) := by decide +kernel
theorem dX3_findBase_46 : decode cX3_findBase 46 = .ok (.iload_n 1, 1) := by decide +kernel
theorem dX3_findBase_47 : decode cX3_findBase 47 = .ok (.iconst 2, 1) := by decide +kernel
theorem dX3_findBase_48 : decode cX3_findBase 48 = .ok (.if_icmp .ne 7, 3) := by decide +kernel
theorem dX3_findBase_51 : decode cX3_findBase 51 = .ok (.lconst 1, 1) := by decide +kernel
theorem dX3_findBase_52 : decode cX3_findBase 52 = .ok (.goto 4, 3) := by decide +kernel
theorem dX3_findBase_55 : decode cX3_findBase 55 = .ok (.lconst 0, 1) := by decide +kernel
theorem dX3_findBase_56 : decode cX3_findBase 56 = .ok (.invokevirtual 142, 3) := by decide +kernel
theorem dX3_findBase_59 : decode cX3_findBase 59 = .ok (.iinc 1 1, 3) := by decide +kernel
theorem dX3_findBase_62 : decode cX3_findBase 62 = .ok (.goto (-44), 3) := by decide +kernel
theorem dX3_findBase_65 : decode cX3_findBase 65 = .ok (.goto 197, 3) := by decide +kernel
theorem dX3_findBase_68 : decode cX3_findBase 68 = .ok (.aload_n 0, 1) := by decide +kernel
theorem dX3_findBase_69 : decode cX3_findBase 69 = .ok (.getfield 95, 3) := by decide +kernel
theorem dX3_findBase_72 : decode cX3_findBase 72 = .ok (.iconst 1, 1) := by decide +kernel
theorem dX3_findBase_73 : decode cX3_findBase 73 = .ok (.iadd, 1) := by decide +kernel
theorem dX3_findBase_74 : decode cX3_findBase 74 = .ok (.aload_n 0, 1) := by decide +kernel
theorem dX3_findBase_75 : decode cX3_findBase 75 = .ok (.getfield 54, 3) := by decide +kernel
theorem dX3_findBase_78 : decode cX3_findBase 78 = .ok (.if_icmp .ne 120, 3) := by decide +kernel
theorem dX3_findBase_81 : decode cX3_findBase 81 = .ok (.aload_n 0, 1) := by decide +kernel
theorem dX3_findBase_82 : decode cX3_findBase 82 = .ok (.getfield 54, 3) := by decide +kernel
theorem dX3_findBase_85 : decode cX3_findBase 85 = .ok (.iconst 2, 1) := by decide +kernel
theorem dX3_findBase_86 : decode cX3_findBase 86 = .ok (.if_icmp .ne 24, 3) := by decide +kernel
theorem dX3_findBase_89 : decode cX3_findBase 89 = .ok (.aload_n 0, 1) := by decide +kernel
theorem dX3_findBase_90 : decode cX3_findBase 90 = .ok (.aload_n 0, 1) := by decide +kernel
theorem dX3_findBase_91 : decode cX3_findBase 91 = .ok (.iconst 0, 1) := by decide +kernel
theorem dX3_findBase_92 : decode cX3_findBase 92 = .ok (.iconst 1, 1) := by decide +kernel
theorem dX3_findBase_93 : decode cX3_findBase 93 = .ok (.invokevirtual 146, 3) := by decide +kernel
theorem dX3_findBase_96 : decode cX3_findBase 96 = .ok (.aload_n 0, 1) := by decide +kernel
theorem dX3_findBase_97 : decode cX3_findBase 97 = .ok (.iconst 0, 1) := by decide +kernel
theorem dX3_findBase_98 : decode cX3_findBase 98 = .ok (.iconst 0, 1) := by decide +kernel
theorem dX3_findBase_99 : decode cX3_findBase 99 = .ok (.invokevirtual 146, 3) := by decide +kernel
theorem dX3_findBase_102 : decode cX3_findBase 102 = .ok (.lneg, 1) := by decide +kernel
theorem dX3_findBase_103 : decode cX3_findBase 103 = .ok (.lconst 0, 1) := by decide +kernel
theorem dX3_findBase_104 : decode cX3_findBase 104 = .ok (.invokevirtual 150, 3) := by decide +kernel
theorem dX3_findBase_107 : decode cX3_findBase 107 = .ok (.goto 155, 3) := by decide +kernel
theorem dX3_findBase_110 : decode cX3_findBase 110 = .ok (.aload_n 0, 1) := by decide +kernel
theorem dX3_findBase_111 : decode cX3_findBase 111 = .ok (.aload_n 0, 1) := by decide +kernel
theorem dX3_findBase_112 : decode cX3_findBase 112 = .ok (.iconst 0, 1) := by decide +kernel
theorem dX3_findBase_113 : decode cX3_findBase 113 = .ok (.iconst 1, 1) := by decide +kernel
theorem dX3_findBase_114 : decode cX3_findBase 114 = .ok (.invokevirtual 146, 3) := by decide +kernel
theorem dX3_findBase_117 : decode cX3_findBase 117 = .ok (.aload_n 0, 1) := by decide +kernel
theorem dX3_findBase_118 : decode cX3_findBase 118 = .ok (.iconst 1, 1) := by decide +kernel
theorem dX3_findBase_119 : decode cX3_findBase 119 = .ok (.iconst 2, 1) := by decide +kernel
theorem dX3_findBase_120 : decode cX3_findBase 120 = .ok (.invokevirtual 146, 3) := by decide +kernel
theorem dX3_findBase_123 : decode cX3_findBase 123 = .ok (.lmul, 1) := by decide +kernel
theorem dX3_findBase_124 : decode cX3_findBase 124 = .ok (.aload_n 0, 1) := by decide +kernel
theorem dX3_findBase_125 : decode cX3_findBase 125 = .ok (.iconst 0, 1) := by decide +kernel
theorem dX3_findBase_126 : decode cX3_findBase 126 = .ok (.iconst 2, 1) := by decide +kernel
theorem dX3_findBase_127 : decode cX3_findBase 127 = .ok (.invokevirtual 146, 3) := by decide +kernel
theorem dX3_findBase_130 : decode cX3_findBase 130 = .ok (.aload_n 0, 1) := by decide +kernel
theorem dX3_findBase_131 : decode cX3_findBase 131 = .ok (.iconst 1, 1) := by decide +kernel
theorem dX3_findBase_132 : decode cX3_findBase 132 = .ok (.iconst 1, 1) := by decide +kernel
theorem dX3_findBase_133 : decode cX3_findBase 133 = .ok (.invokevirtual 146, 3) := by decide +kernel
theorem dX3_findBase_136 : decode cX3_findBase 136 = .ok (.lmul, 1) := by decide +kernel
theorem dX3_findBase_137 : decode cX3_findBase 137 = .ok (.lsub, 1) := by decide +kernel
theorem dX3_findBase_138 : decode cX3_findBase 138 = .ok (.aload_n 0, 1) := by decide +kernel
theorem dX3_findBase_139 : decode cX3_findBase 139 = .ok (.iconst 0, 1) := by decide +kernel
theorem dX3_findBase_140 : decode cX3_findBase 140 = .ok (.iconst 2, 1) := by decide +kernel
theorem dX3_findBase_141 : decode cX3_findBase 141 = .ok (.invokevirtual 146, 3) := by decide +kernel
theorem dX3_findBase_144 : decode cX3_findBase 144 = .ok (.aload_n 0, 1) := by decide +kernel
theorem dX3_findBase_145 : decode cX3_findBase 145 = .ok (.iconst 1, 1) := by decide +kernel
theorem dX3_findBase_146 : decode cX3_findBase 146 = .ok (.iconst 0, 1) := by decide +kernel
theorem dX3_findBase_147 : decode cX3_findBase 147 = .ok (.invokevirtual 146, 3) := by decide +kernel
theorem dX3_findBase_150 : decode cX3_findBase 150 = .ok (.lmul, 1) := by decide +kernel
theorem dX3_findBase_151 : decode cX3_findBase 151 = .ok (.aload_n 0, 1) := by decide +kernel
theorem dX3_findBase_152 : decode cX3_findBase 152 = .ok (.iconst 0, 1) := by decide +kernel
theorem dX3_findBase_153 : decode cX3_findBase 153 = .ok (.iconst 0, 1) := by decide +kernel
theorem dX3_findBase_154 : decode cX3_findBase 154 = .ok (.invokevirtual 146, 3) := by decide +kernel
theorem dX3_findBase_157 : decode cX3_findBase 157 = .ok (.aload_n 0, 1) := by decide +kernel
theorem dX3_findBase_158 : decode cX3_findBase 158 = .ok (.iconst 1, 1) := by decide +kernel
theorem dX3_findBase_159 : decode cX3_findBase 159 = .ok (.iconst 2, 1) := by decide +kernel
theorem dX3_findBase_160 : decode cX3_findBase 160 = .ok (.invokevirtual 146, 3) := by decide +kernel
theorem dX3_findBase_163 : decode cX3_findBase 163 = .ok (.lmul, 1) := by decide +kernel
theorem dX3_findBase_164 : decode cX3_findBase 164 = .ok (.lsub, 1) := by decide +kernel
theorem dX3_findBase_165 : decode cX3_findBase 165 = .ok (.aload_n 0, 1) := by decide +kernel
theorem dX3_findBase_166 : decode cX3_findBase 166 = .ok (.iconst 0, 1) := by decide +kernel
theorem dX3_findBase_167 : decode cX3_findBase 167 = .ok (.iconst 0, 1) := by decide +kernel
theorem dX3_findBase_168 : decode cX3_findBase 168 = .ok (.invokevirtual 146, 3) := by decide +kernel
theorem dX3_findBase_171 : decode cX3_findBase 171 = .ok (.aload_n 0, 1) := by decide +kernel
theorem dX3_findBase_172 : decode cX3_findBase 172 = .ok (.iconst 1, 1) := by decide +kernel
theorem dX3_findBase_173 : decode cX3_findBase 173 = .ok (.iconst 1, 1) := by decide +kernel
theorem dX3_findBase_174 : decode cX3_findBase 174 = .ok (.invokevirtual 146, 3) := by decide +kernel
theorem dX3_findBase_177 : decode cX3_findBase 177 = .ok (.lmul, 1) := by decide +kernel
theorem dX3_findBase_178 : decode cX3_findBase 178 = .ok (.aload_n 0, 1) := by decide +kernel
theorem dX3_findBase_179 : decode cX3_findBase 179 = .ok (.iconst 0, 1) := by decide +kernel
theorem dX3_findBase_180 : decode cX3_findBase 180 = .ok (.iconst 1, 1) := by decide +kernel
theorem dX3_findBase_181 : decode cX3_findBase 181 = .ok (.invokevirtual 146, 3) := by decide +kernel
theorem dX3_findBase_184 : decode cX3_findBase 184 = .ok (.aload_n 0, 1) := by decide +kernel
theorem dX3_findBase_185 : decode cX3_findBase 185 = .ok (.iconst 1, 1) := by decide +kernel
theorem dX3_findBase_186 : decode cX3_findBase 186 = .ok (.iconst 0, 1) := by decide +kernel
theorem dX3_findBase_187 : decode cX3_findBase 187 = .ok (.invokevirtual 146, 3) := by decide +kernel
theorem dX3_findBase_190 : decode cX3_findBase 190 = .ok (.lmul, 1) := by decide +kernel
theorem dX3_findBase_191 : decode cX3_findBase 191 = .ok (.lsub, 1) := by decide +kernel
theorem dX3_findBase_192 : decode cX3_findBase 192 = .ok (.invokevirtual 150, 3) := by decide +kernel
theorem dX3_findBase_195 : decode cX3_findBase 195 = .ok (.goto 67, 3) := by decide +kernel
theorem dX3_findBase_198 : decode cX3_findBase 198 = .ok (.aload_n 0, 1) := by decide +kernel
theorem dX3_findBase_199 : decode cX3_findBase 199 = .ok (.getfield 95, 3) := by decide +kernel
theorem dX3_findBase_202 : decode cX3_findBase 202 = .ok (.aload_n 0, 1) := by decide +kernel
theorem dX3_findBase_203 : decode cX3_findBase 203 = .ok (.getfield 54, 3) := by decide +kernel
theorem dX3_findBase_206 : decode cX3_findBase 206 = .ok (.if_icmp .ge 56, 3) := by decide +kernel
theorem dX3_findBase_209 : decode cX3_findBase 209 = .ok (.aload_n 0, 1) := by decide +kernel
theorem dX3_findBase_210 : decode cX3_findBase 210 = .ok (.iconst 0, 1) := by decide +kernel
theorem dX3_findBase_211 : decode cX3_findBase 211 = .ok (.iconst 0, 1) := by decide +kernel
theorem dX3_findBase_212 : decode cX3_findBase 212 = .ok (.invokevirtual 146, 3) := by decide +kernel
theorem dX3_findBase_215 : decode cX3_findBase 215 = .ok (.aload_n 0, 1) := by decide +kernel
theorem dX3_findBase_216 : decode cX3_findBase 216 = .ok (.iconst 0, 1) := by decide +kernel
theorem dX3_findBase_217 : decode cX3_findBase 217 = .ok (.iconst 1, 1) := by decide +kernel
theorem dX3_findBase_218 : decode cX3_findBase 218 = .ok (.invokevirtual 146, 3) := by decide +kernel
theorem dX3_findBase_221 : decode cX3_findBase 221 = .ok (.aload_n 0, 1) := by decide +kernel
theorem dX3_findBase_222 : decode cX3_findBase 222 = .ok (.iconst 0, 1) := by decide +kernel
theorem dX3_findBase_223 : decode cX3_findBase 223 = .ok (.iconst 2, 1) := by decide +kernel
theorem dX3_findBase_224 : decode cX3_findBase 224 = .ok (.invokevirtual 146, 3) := by decide +kernel
theorem dX3_findBase_227 : decode cX3_findBase 227 = .ok (.invokestatic 61, 3) := by decide +kernel
theorem dX3_findBase_230 : decode cX3_findBase 230 = .ok (.invokestatic 61, 3) := by decide +kernel
theorem dX3_findBase_233 : decode cX3_findBase 233 = .ok (.lstore_n 1, 1) := by decide +kernel
theorem dX3_findBase_234 : decode cX3_findBase 234 = .ok (.aload_n 0, 1) := by decide +kernel
theorem dX3_findBase_235 : decode cX3_findBase 235 = .ok (.aload_n 0, 1) := by decide +kernel
theorem dX3_findBase_236 : decode cX3_findBase 236 = .ok (.iconst 0, 1) := by decide +kernel
theorem dX3_findBase_237 : decode cX3_findBase 237 = .ok (.iconst 0, 1) := by decide +kernel
theorem dX3_findBase_238 : decode cX3_findBase 238 = .ok (.invokevirtual 146, 3) := by decide +kernel
theorem dX3_findBase_241 : decode cX3_findBase 241 = .ok (.lload_n 1, 1) := by decide +kernel
theorem dX3_findBase_242 : decode cX3_findBase 242 = .ok (.ldiv, 1) := by decide +kernel
theorem dX3_findBase_243 : decode cX3_findBase 243 = .ok (.aload_n 0, 1) := by decide +kernel
theorem dX3_findBase_244 : decode cX3_findBase 244 = .ok (.iconst 0, 1) := by decide +kernel
theorem dX3_findBase_245 : decode cX3_findBase 245 = .ok (.iconst 1, 1) := by decide +kernel
theorem dX3_findBase_246 : decode cX3_findBase 246 = .ok (.invokevirtual 146, 3) := by decide +kernel
theorem dX3_findBase_249 : decode cX3_findBase 249 = .ok (.lload_n 1, 1) := by decide +kernel
theorem dX3_findBase_250 : decode cX3_findBase 250 = .ok (.ldiv, 1) := by decide +kernel
theorem dX3_findBase_251 : decode cX3_findBase 251 = .ok (.aload_n 0, 1) := by decide +kernel
theorem dX3_findBase_252 : decode cX3_findBase 252 = .ok (.iconst 0, 1) := by decide +kernel
theorem dX3_findBase_253 : decode cX3_findBase 253 = .ok (.iconst 2, 1) := by decide +kernel
theorem dX3_findBase_254 : decode cX3_findBase 254 = .ok (.invokevirtual 146, 3) := by decide +kernel
theorem dX3_findBase_257 : decode cX3_findBase 257 = .ok (.lload_n 1, 1) := by decide +kernel
theorem dX3_findBase_258 : decode cX3_findBase 258 = .ok (.ldiv, 1) := by decide +kernel
theorem dX3_findBase_259 : decode cX3_findBase 259 = .ok (.invokevirtual 153, 3) := by decide +kernel
theorem dX3_findBase_262 : decode cX3_findBase 262 = .ok (.iconst 0, 1) := by decide +kernel
theorem dX3_findBase_263 : decode cX3_findBase 263 = .ok (.istore_n 1, 1) := by decide +kernel
theorem dX3_findBase_264 : decode cX3_findBase 264 = .ok (.iload_n 1, 1) := by decide +kernel
theorem dX3_findBase_265 : decode cX3_findBase 265 = .ok (.aload_n 0, 1) := by decide +kernel
theorem dX3_findBase_266 : decode cX3_findBase 266 = .ok (.getfield 139, 3) := by decide +kernel
theorem dX3_findBase_269 : decode cX3_findBase 269 = .ok (.if_icmp .ge 49, 3) := by decide +kernel
theorem dX3_findBase_272 : decode cX3_findBase 272 = .ok (.aload_n 0, 1) := by decide +kernel
theorem dX3_findBase_273 : decode cX3_findBase 273 = .ok (.getfield 39, 3) := by decide +kernel
theorem dX3_findBase_276 : decode cX3_findBase 276 = .ok (.iload_n 1, 1) := by decide +kernel
theorem dX3_findBase_277 : decode cX3_findBase 277 = .ok (.iconst 0, 1) := by decide +kernel
theorem dX3_findBase_278 : decode cX3_findBase 278 = .ok (.iastore, 1) := by decide +kernel
theorem dX3_findBase_279 : decode cX3_findBase 279 = .ok (.aload_n 0, 1) := by decide +kernel
theorem dX3_findBase_280 : decode cX3_findBase 280 = .ok (.getfield 36, 3) := by decide +kernel
theorem dX3_findBase_283 : decode cX3_findBase 283 = .ok (.iconst 3, 1) := by decide +kernel
theorem dX3_findBase_284 : decode cX3_findBase 284 = .ok (.iload_n 1, 1) := by decide +kernel
theorem dX3_findBase_285 : decode cX3_findBase 285 = .ok (.imul, 1) := by decide +kernel
theorem dX3_findBase_286 : decode cX3_findBase 286 = .ok (.aload_n 0, 1) := by decide +kernel
theorem dX3_findBase_287 : decode cX3_findBase 287 = .ok (.getfield 39, 3) := by decide +kernel
theorem dX3_findBase_290 : decode cX3_findBase 290 = .ok (.iload_n 1, 1) := by decide +kernel
theorem dX3_findBase_291 : decode cX3_findBase 291 = .ok (.iaload, 1) := by decide +kernel
theorem dX3_findBase_292 : decode cX3_findBase 292 = .ok (.iadd, 1) := by decide +kernel
theorem dX3_findBase_293 : decode cX3_findBase 293 = .ok (.laload, 1) := by decide +kernel
theorem dX3_findBase_294 : decode cX3_findBase 294 = .ok (.lconst 0, 1) := by decide +kernel
theorem dX3_findBase_295 : decode cX3_findBase 295 = .ok (.lcmp, 1) := by decide +kernel
theorem dX3_findBase_296 : decode cX3_findBase 296 = .ok (.ifCond .ne 16, 3) := by decide +kernel
theorem dX3_findBase_299 : decode cX3_findBase 299 = .ok (.aload_n 0, 1) := by decide +kernel
theorem dX3_findBase_300 : decode cX3_findBase 300 = .ok (.getfield 39, 3) := by decide +kernel
theorem dX3_findBase_303 : decode cX3_findBase 303 = .ok (.iload_n 1, 1) := by decide +kernel
theorem dX3_findBase_304 : decode cX3_findBase 304 = .ok (.dup2, 1) := by decide +kernel
theorem dX3_findBase_305 : decode cX3_findBase 305 = .ok (.iaload, 1) := by decide +kernel
theorem dX3_findBase_306 : decode cX3_findBase 306 = .ok (.iconst 1, 1) := by decide +kernel
theorem dX3_findBase_307 : decode cX3_findBase 307 = .ok (.iadd, 1) := by decide +kernel
theorem dX3_findBase_308 : decode cX3_findBase 308 = .ok (.iastore, 1) := by decide +kernel
theorem dX3_findBase_309 : decode cX3_findBase 309 = .ok (.goto (-30), 3) := by decide +kernel
theorem dX3_findBase_312 : decode cX3_findBase 312 = .ok (.iinc 1 1, 3) := by decide +kernel
theorem dX3_findBase_315 : decode cX3_findBase 315 = .ok (.goto (-51), 3) := by decide +kernel
theorem dX3_findBase_318 : decode cX3_findBase 318 = .ok (.return_, 1) := by decide +kernel
theorem dX3_number_0 : decode cX3_number 0 = .ok (.aload_n 0, 1) := by decide +kernel
theorem dX3_number_1 : decode cX3_number 1 = .ok (.getfield 7, 3) := by decide +kernel
theorem dX3_number_4 : decode cX3_number 4 = .ok (.iconst 4, 1) := by decide +kernel
theorem dX3_number_5 : decode cX3_number 5 = .ok (.aload_n 0, 1) := by decide +kernel
theorem dX3_number_6 : decode cX3_number 6 = .ok (.getfield 16, 3) := by decide +kernel
theorem dX3_number_9 : decode cX3_number 9 = .ok (.iload_n 1, 1) := by decide +kernel
theorem dX3_number_10 : decode cX3_number 10 = .ok (.iaload, 1) := by decide +kernel
theorem dX3_number_11 : decode cX3_number 11 = .ok (.imul, 1) := by decide +kernel
theorem dX3_number_12 : decode cX3_number 12 = .ok (.iload_n 2, 1) := by decide +kernel
theorem dX3_number_13 : decode cX3_number 13 = .ok (.iadd, 1) := by decide +kernel
theorem dX3_number_14 : decode cX3_number 14 = .ok (.iaload, 1) := by decide +kernel
theorem dX3_number_15 : decode cX3_number 15 = .ok (.i2l, 1) := by decide +kernel
theorem dX3_number_16 : decode cX3_number 16 = .ok (.lreturn, 1) := by decide +kernel
theorem dX3_base_0 : decode cX3_base 0 = .ok (.aload_n 0, 1) := by decide +kernel
theorem dX3_base_1 : decode cX3_base 1 = .ok (.invokevirtual 156, 3) := by decide +kernel
theorem dX3_base_4 : decode cX3_base 4 = .ok (.aload_n 0, 1) := by decide +kernel
theorem dX3_base_5 : decode cX3_base 5 = .ok (.iload_n 1, 1) := by decide +kernel
theorem dX3_base_6 : decode cX3_base 6 = .ok (.i2l, 1) := by decide +kernel
theorem dX3_base_7 : decode cX3_base 7 = .ok (.lconst 0, 1) := by decide +kernel
theorem dX3_base_8 : decode cX3_base 8 = .ok (.aload_n 0, 1) := by decide +kernel
theorem dX3_base_9 : decode cX3_base 9 = .ok (.getfield 139, 3) := by decide +kernel
theorem dX3_base_12 : decode cX3_base 12 = .ok (.iconst 1, 1) := by decide +kernel
theorem dX3_base_13 : decode cX3_base 13 = .ok (.isub, 1) := by decide +kernel
theorem dX3_base_14 : decode cX3_base 14 = .ok (.i2l, 1) := by decide +kernel
theorem dX3_base_15 : decode cX3_base 15 = .ok (.invokestatic 75, 3) := by decide +kernel
theorem dX3_base_18 : decode cX3_base 18 = .ok (.ifCond .eq 15, 3) := by decide +kernel
theorem dX3_base_21 : decode cX3_base 21 = .ok (.aload_n 0, 1) := by decide +kernel
theorem dX3_base_22 : decode cX3_base 22 = .ok (.iload_n 2, 1) := by decide +kernel
theorem dX3_base_23 : decode cX3_base 23 = .ok (.invokevirtual 127, 3) := by decide +kernel
theorem dX3_base_26 : decode cX3_base 26 = .ok (.ifCond .eq 7, 3) := by decide +kernel
theorem dX3_base_29 : decode cX3_base 29 = .ok (.iconst 0, 1) := by decide +kernel
theorem dX3_base_30 : decode cX3_base 30 = .ok (.goto 4, 3) := by decide +kernel
theorem dX3_base_33 : decode cX3_base 33 = .ok (.iconst 1, 1) := by decide +kernel
theorem dX3_base_34 : decode cX3_base 34 = .ok (.putfield 58, 3) := by decide +kernel
theorem dX3_base_37 : decode cX3_base 37 = .ok (.aload_n 0, 1) := by decide +kernel
theorem dX3_base_38 : decode cX3_base 38 = .ok (.getfield 58, 3) := by decide +kernel
theorem dX3_base_41 : decode cX3_base 41 = .ok (.ifCond .le 7, 3) := by decide +kernel
theorem dX3_base_44 : decode cX3_base 44 = .ok (.lconst 0, 1) := by decide +kernel
theorem dX3_base_45 : decode cX3_base 45 = .ok (.goto 13, 3) := by decide +kernel
theorem dX3_base_48 : decode cX3_base 48 = .ok (.aload_n 0, 1) := by decide +kernel
theorem dX3_base_49 : decode cX3_base 49 = .ok (.getfield 36, 3) := by decide +kernel
theorem dX3_base_52 : decode cX3_base 52 = .ok (.iconst 3, 1) := by decide +kernel
theorem dX3_base_53 : decode cX3_base 53 = .ok (.iload_n 1, 1) := by decide +kernel
theorem dX3_base_54 : decode cX3_base 54 = .ok (.imul, 1) := by decide +kernel
theorem dX3_base_55 : decode cX3_base 55 = .ok (.iload_n 2, 1) := by decide +kernel
theorem dX3_base_56 : decode cX3_base 56 = .ok (.iadd, 1) := by decide +kernel
theorem dX3_base_57 : decode cX3_base 57 = .ok (.laload, 1) := by decide +kernel
theorem dX3_base_58 : decode cX3_base 58 = .ok (.lreturn, 1) := by decide +kernel
theorem dX3_findWhole_0 : decode cX3_findWhole 0 = .ok (.aload_n 0, 1) := by decide +kernel
theorem dX3_findWhole_1 : decode cX3_findWhole 1 = .ok (.invokevirtual 156, 3) := by decide +kernel
