/-! decode rows of X3 -/
theorem dX3_squares_134 : decode cX3_squares 134 = .ok (.iload_n 1, 1) := by decide +kernel
theorem dX3_squares_135 : decode cX3_squares 135 = .ok (.invokevirtual 136, 3) := by decide +kernel
theorem dX3_squares_138 : decode cX3_squares 138 = .ok (.lreturn, 1) := by decide +kernel
theorem dX3_isSolution_0 : decode cX3_isSolution 0 = .ok (.iconst 0, 1) := by decide +kernel
theorem dX3_isSolution_1 : decode cX3_isSolution 1 = .ok (.istore 7, 2) := by decide +kernel
theorem dX3_isSolution_3 : decode cX3_isSolution 3 = .ok (.iload 7, 2) := by decide +kernel
theorem dX3_isSolution_5 : decode cX3_isSolution 5 = .ok (.aload_n 0, 1) := by decide +kernel
theorem dX3_isSolution_6 : decode cX3_isSolution 6 = .ok (.getfield 72, 3) := by decide +kernel
theorem dX3_isSolution_9 : decode cX3_isSolution 9 = .ok (.if_icmp .ge 98, 3) := by decide +kernel
theorem dX3_isSolution_12 : decode cX3_isSolution 12 = .ok (.aload_n 0, 1) := by decide +kernel
theorem dX3_isSolution_13 : decode cX3_isSolution 13 = .ok (.getfield 7, 3) := by decide +kernel
theorem dX3_isSolution_16 : decode cX3_isSolution 16 = .ok (.iconst 4, 1) := by decide +kernel
theorem dX3_isSolution_17 : decode cX3_isSolution 17 = .ok (.iload 7, 2) := by decide +kernel
theorem dX3_isSolution_19 : decode cX3_isSolution 19 = .ok (.imul, 1) := by decide +kernel
theorem dX3_isSolution_20 : decode cX3_isSolution 20 = .ok (.iaload, 1) := by decide +kernel
theorem dX3_isSolution_21 : decode cX3_isSolution 21 = .ok (.i2l, 1) := by decide +kernel
theorem dX3_isSolution_22 : decode cX3_isSolution 22 = .ok (.lload_n 1, 1) := by decide +kernel
theorem dX3_isSolution_23 : decode cX3_isSolution 23 = .ok (.lmul, 1) := by decide +kernel
theorem dX3_isSolution_24 : decode cX3_isSolution 24 = .ok (.lstore 8, 2) := by decide +kernel
theorem dX3_isSolution_26 : decode cX3_isSolution 26 = .ok (.aload_n 0, 1) := by decide +kernel
theorem dX3_isSolution_27 : decode cX3_isSolution 27 = .ok (.getfield 54, 3) := by decide +kernel
theorem dX3_isSolution_30 : decode cX3_isSolution 30 = .ok (.iconst 1, 1) := by decide +kernel
theorem dX3_isSolution_31 : decode cX3_isSolution 31 = .ok (.if_icmp .le 22, 3) := by decide +kernel
theorem dX3_isSolution_34 : decode cX3_isSolution 34 = .ok (.lload 8, 2) := by decide +kernel
theorem dX3_isSolution_36 : decode cX3_isSolution 36 = .ok (.aload_n 0, 1) := by decide +kernel
theorem dX3_isSolution_37 : decode cX3_isSolution 37 = .ok (.getfield 7, 3) := by decide +kernel
theorem dX3_isSolution_40 : decode cX3_isSolution 40 = .ok (.iconst 4, 1) := by decide +kernel
theorem dX3_isSolution_41 : decode cX3_isSolution 41 = .ok (.iload 7, 2) := by decide +kernel
theorem dX3_isSolution_43 : decode cX3_isSolution 43 = .ok (.imul, 1) := by decide +kernel
theorem dX3_isSolution_44 : decode cX3_isSolution 44 = .ok (.iconst 1, 1) := by decide +kernel
theorem dX3_isSolution_45 : decode cX3_isSolution 45 = .ok (.iadd, 1) := by decide +kernel
theorem dX3_isSolution_46 : decode cX3_isSolution 46 = .ok (.iaload, 1) := by decide +kernel
theorem dX3_isSolution_47 : decode cX3_isSolution 47 = .ok (.i2l, 1) := by decide +kernel
theorem dX3_isSolution_48 : decode cX3_isSolution 48 = .ok (.lload_n 3, 1) := by decide +kernel
theorem dX3_isSolution_49 : decode cX3_isSolution 49 = .ok (.lmul, 1) := by decide +kernel
theorem dX3_isSolution_50 : decode cX3_isSolution 50 = .ok (.ladd, 1) := by decide +kernel
theorem dX3_isSolution_51 : decode cX3_isSolution 51 = .ok (.lstore 8, 2) := by decide +kernel
theorem dX3_isSolution_53 : decode cX3_isSolution 53 = .ok (.aload_n 0, 1) := by decide +kernel
theorem dX3_isSolution_54 : decode cX3_isSolution 54 = .ok (.getfield 54, 3) := by decide +kernel
theorem dX3_isSolution_57 : decode cX3_isSolution 57 = .ok (.iconst 2, 1) := by decide +kernel
theorem dX3_isSolution_58 : decode cX3_isSolution 58 = .ok (.if_icmp .le 23, 3) := by decide +kernel
theorem dX3_isSolution_61 : decode cX3_isSolution 61 = .ok (.lload 8, 2) := by decide +kernel
theorem dX3_isSolution_63 : decode cX3_isSolution 63 = .ok (.aload_n 0, 1) := by decide +kernel
theorem dX3_isSolution_64 : decode cX3_isSolution 64 = .ok (.getfield 7, 3) := by decide +kernel
theorem dX3_isSolution_67 : decode cX3_isSolution 67 = .ok (.iconst 4, 1) := by decide +kernel
theorem dX3_isSolution_68 : decode cX3_isSolution 68 = .ok (.iload 7, 2) := by decide +kernel
theorem dX3_isSolution_70 : decode cX3_isSolution 70 = .ok (.imul, 1) := by decide +kernel
theorem dX3_isSolution_71 : decode cX3_isSolution 71 = .ok (.iconst 2, 1) := by decide +kernel
theorem dX3_isSolution_72 : decode cX3_isSolution 72 = .ok (.iadd, 1) := by decide +kernel
theorem dX3_isSolution_73 : decode cX3_isSolution 73 = .ok (.iaload, 1) := by decide +kernel
theorem dX3_isSolution_74 : decode cX3_isSolution 74 = .ok (.i2l, 1) := by decide +kernel
theorem dX3_isSolution_75 : decode cX3_isSolution 75 = .ok (.lload 5, 2) := by decide +kernel
theorem dX3_isSolution_77 : decode cX3_isSolution 77 = .ok (.lmul, 1) := by decide +kernel
theorem dX3_isSolution_78 : decode cX3_isSolution 78 = .ok (.ladd, 1) := by decide +kernel
theorem dX3_isSolution_79 : decode cX3_isSolution 79 = .ok (.lstore 8, 2) := by decide +kernel
theorem dX3_isSolution_81 : decode cX3_isSolution 81 = .ok (.lload 8, 2) := by decide +kernel
theorem dX3_isSolution_83 : decode cX3_isSolution 83 = .ok (.aload_n 0, 1) := by decide +kernel
theorem dX3_isSolution_84 : decode cX3_isSolution 84 = .ok (.getfield 7, 3) := by decide +kernel
theorem dX3_isSolution_87 : decode cX3_isSolution 87 = .ok (.iconst 4, 1) := by decide +kernel
theorem dX3_isSolution_88 : decode cX3_isSolution 88 = .ok (.iload 7, 2) := by decide +kernel
theorem dX3_isSolution_90 : decode cX3_isSolution 90 = .ok (.imul, 1) := by decide +kernel
theorem dX3_isSolution_91 : decode cX3_isSolution 91 = .ok (.iconst 3, 1) := by decide +kernel
theorem dX3_isSolution_92 : decode cX3_isSolution 92 = .ok (.iadd, 1) := by decide +kernel
theorem dX3_isSolution_93 : decode cX3_isSolution 93 = .ok (.iaload, 1) := by decide +kernel
theorem dX3_isSolution_94 : decode cX3_isSolution 94 = .ok (.i2l, 1) := by decide +kernel
theorem dX3_isSolution_95 : decode cX3_isSolution 95 = .ok (.lcmp, 1) := by decide +kernel
theorem dX3_isSolution_96 : decode cX3_isSolution 96 = .ok (.ifCond .eq 5, 3) := by decide +kernel
theorem dX3_isSolution_99 : decode cX3_isSolution 99 = .ok (.iconst 0, 1) := by decide +kernel
theorem dX3_isSolution_100 : decode cX3_isSolution 100 = .ok (.ireturn, 1) := by decide +kernel
theorem dX3_isSolution_101 : decode cX3_isSolution 101 = .ok (.iinc 7 1, 3) := by decide +kernel
theorem dX3_isSolution_104 : decode cX3_isSolution 104 = .ok (.goto (-101), 3) := by decide +kernel
theorem dX3_isSolution_107 : decode cX3_isSolution 107 = .ok (.iconst 1, 1) := by decide +kernel
theorem dX3_isSolution_108 : decode cX3_isSolution 108 = .ok (.ireturn, 1) := by decide +kernel
theorem dX3_inBox_0 : decode cX3_inBox 0 = .ok (.aload_n 0, 1) := by decide +kernel
theorem dX3_inBox_1 : decode cX3_inBox 1 = .ok (.iload_n 1, 1) := by decide +kernel
theorem dX3_inBox_2 : decode cX3_inBox 2 = .ok (.i2l, 1) := by decide +kernel
theorem dX3_inBox_3 : decode cX3_inBox 3 = .ok (.lconst 0, 1) := by decide +kernel
theorem dX3_inBox_4 : decode cX3_inBox 4 = .ok (.ldc2_w 174, 3) := by decide +kernel
theorem dX3_inBox_7 : decode cX3_inBox 7 = .ok (.invokestatic 75, 3) := by decide +kernel
theorem dX3_inBox_10 : decode cX3_inBox 10 = .ok (.ifCond .eq 7, 3) := by decide +kernel
theorem dX3_inBox_13 : decode cX3_inBox 13 = .ok (.iconst 0, 1) := by decide +kernel
theorem dX3_inBox_14 : decode cX3_inBox 14 = .ok (.goto 4, 3) := by decide +kernel
theorem dX3_inBox_17 : decode cX3_inBox 17 = .ok (.iconst 1, 1) := by decide +kernel
theorem dX3_inBox_18 : decode cX3_inBox 18 = .ok (.putfield 58, 3) := by decide +kernel
theorem dX3_inBox_21 : decode cX3_inBox 21 = .ok (.aload_n 0, 1) := by decide +kernel
theorem dX3_inBox_22 : decode cX3_inBox 22 = .ok (.getfield 58, 3) := by decide +kernel
theorem dX3_inBox_25 : decode cX3_inBox 25 = .ok (.ifCond .le 5, 3) := by decide +kernel
theorem dX3_inBox_28 : decode cX3_inBox 28 = .ok (.iconst 0, 1) := by decide +kernel
theorem dX3_inBox_29 : decode cX3_inBox 29 = .ok (.ireturn, 1) := by decide +kernel
theorem dX3_inBox_30 : decode cX3_inBox 30 = .ok (.iconst 0, 1) := by decide +kernel
theorem dX3_inBox_31 : decode cX3_inBox 31 = .ok (.istore_n 2, 1) := by decide +kernel
theorem dX3_inBox_32 : decode cX3_inBox 32 = .ok (.iload_n 1, 1) := by decide +kernel
theorem dX3_inBox_33 : decode cX3_inBox 33 = .ok (.ineg, 1) := by decide +kernel
theorem dX3_inBox_34 : decode cX3_inBox 34 = .ok (.istore_n 3, 1) := by decide +kernel
theorem dX3_inBox_35 : decode cX3_inBox 35 = .ok (.iload_n 3, 1) := by decide +kernel
theorem dX3_inBox_36 : decode cX3_inBox 36 = .ok (.iload_n 1, 1) := by decide +kernel
theorem dX3_inBox_37 : decode cX3_inBox 37 = .ok (.if_icmp .gt 112, 3) := by decide +kernel
theorem dX3_inBox_40 : decode cX3_inBox 40 = .ok (.aload_n 0, 1) := by decide +kernel
theorem dX3_inBox_41 : decode cX3_inBox 41 = .ok (.getfield 54, 3) := by decide +kernel
theorem dX3_inBox_44 : decode cX3_inBox 44 = .ok (.iconst 1, 1) := by decide +kernel
theorem dX3_inBox_45 : decode cX3_inBox 45 = .ok (.if_icmp .le 8, 3) := by decide +kernel
theorem dX3_inBox_48 : decode cX3_inBox 48 = .ok (.iload_n 1, 1) := by decide +kernel
theorem dX3_inBox_49 : decode cX3_inBox 49 = .ok (.ineg, 1) := by decide +kernel
theorem dX3_inBox_50 : decode cX3_inBox 50 = .ok (.goto 4, 3) := by decide +kernel
theorem dX3_inBox_53 : decode cX3_inBox 53 = .ok (.iconst 0, 1) := by decide +kernel
theorem dX3_inBox_54 : decode cX3_inBox 54 = .ok (.istore 4, 2) := by decide +kernel
theorem dX3_inBox_56 : decode cX3_inBox 56 = .ok (.iload 4, 2) := by decide +kernel
theorem dX3_inBox_58 : decode cX3_inBox 58 = .ok (.aload_n 0, 1) := by decide +kernel
theorem dX3_inBox_59 : decode cX3_inBox 59 = .ok (.getfield 54, 3) := by decide +kernel
theorem dX3_inBox_62 : decode cX3_inBox 62 = .ok (.iconst 1, 1) := by decide +kernel
theorem dX3_inBox_63 : decode cX3_inBox 63 = .ok (.if_icmp .le 7, 3) := by decide +kernel
theorem dX3_inBox_66 : decode cX3_inBox 66 = .ok (.iload_n 1, 1) := by decide +kernel
theorem dX3_inBox_67 : decode cX3_inBox 67 = .ok (.goto 4, 3) := by decide +kernel
theorem dX3_inBox_70 : decode cX3_inBox 70 = .ok (.iconst 0, 1) := by decide +kernel
theorem dX3_inBox_71 : decode cX3_inBox 71 = .ok (.if_icmp .gt 72, 3) := by decide +kernel
theorem dX3_inBox_74 : decode cX3_inBox 74 = .ok (.aload_n 0, 1) := by decide +kernel
theorem dX3_inBox_75 : decode cX3_inBox 75 = .ok (.getfield 54, 3) := by decide +kernel
theorem dX3_inBox_78 : decode cX3_inBox 78 = .ok (.iconst 2, 1) := by decide +kernel
theorem dX3_inBox_79 : decode cX3_inBox 79 = .ok (.if_icmp .le 8, 3) := by decide +kernel
theorem dX3_inBox_82 : decode cX3_inBox 82 = .ok (.iload_n 1, 1) := by decide +kernel
theorem dX3_inBox_83 : decode cX3_inBox 83 = .ok (.ineg, 1) := by decide +kernel
theorem dX3_inBox_84 : decode cX3_inBox 84 = .ok (.goto 4, 3) := by decide +kernel
theorem dX3_inBox_87 : decode cX3_inBox 87 = .ok (.iconst 0, 1) := by decide +kernel
theorem dX3_inBox_88 : decode cX3_inBox 88 = .ok (.istore 5, 2) := by decide +kernel
theorem dX3_inBox_90 : decode cX3_inBox 90 = .ok (.iload 5, 2) := by decide +kernel
theorem dX3_inBox_92 : decode cX3_inBox 92 = .ok (.aload_n 0, 1) := by decide +kernel
theorem dX3_inBox_93 : decode cX3_inBox 93 = .ok (.getfield 54, 3) := by decide +kernel
theorem dX3_inBox_96 : decode cX3_inBox 96 = .ok (.iconst 2, 1) := by decide +kernel
theorem dX3_inBox_97 : decode cX3_inBox 97 = .ok (.if_icmp .le 7, 3) := by decide +kernel
theorem dX3_inBox_100 : decode cX3_inBox 100 = .ok (.iload_n 1, 1) := by decide +kernel
theorem dX3_inBox_101 : decode cX3_inBox 101 = .ok (.goto 4, 3) := by decide +kernel
theorem dX3_inBox_104 : decode cX3_inBox 104 = .ok (.iconst 0, 1) := by decide +kernel
theorem dX3_inBox_105 : decode cX3_inBox 105 = .ok (.if_icmp .gt 32, 3) := by decide +kernel
theorem dX3_inBox_108 : decode cX3_inBox 108 = .ok (.iload_n 2, 1) := by decide +kernel
theorem dX3_inBox_109 : decode cX3_inBox 109 = .ok (.aload_n 0, 1) := by decide +kernel
theorem dX3_inBox_110 : decode cX3_inBox 110 = .ok (.iload_n 3, 1) := by decide +kernel
theorem dX3_inBox_111 : decode cX3_inBox 111 = .ok (.i2l, 1) := by decide +kernel
theorem dX3_inBox_112 : decode cX3_inBox 112 = .ok (.iload 4, 2) := by decide +kernel
theorem dX3_inBox_114 : decode cX3_inBox 114 = .ok (.i2l, 1) := by decide +kernel
theorem dX3_inBox_115 : decode cX3_inBox 115 = .ok (.iload 5, 2) := by decide +kernel
theorem dX3_inBox_117 : decode cX3_inBox 117 = .ok (.i2l, 1) := by decide +kernel
theorem dX3_inBox_118 : decode cX3_inBox 118 = .ok (.invokevirtual 176, 3) := by decide +kernel
theorem dX3_inBox_121 : decode cX3_inBox 121 = .ok (.ifCond .eq 7, 3) := by decide +kernel
theorem dX3_inBox_124 : decode cX3_inBox 124 = .ok (.iconst 1, 1) := by decide +kernel
theorem dX3_inBox_125 : decode cX3_inBox 125 = .ok (.goto 4, 3) := by decide +kernel
theorem dX3_inBox_128 : decode cX3_inBox 128 = .ok (.iconst 0, 1) := by decide +kernel
theorem dX3_inBox_129 : decode cX3_inBox 129 = .ok (.iadd, 1) := by decide +kernel
theorem dX3_inBox_130 : decode cX3_inBox 130 = .ok (.istore_n 2, 1) := by decide +kernel
theorem dX3_inBox_131 : decode cX3_inBox 131 = .ok (.iinc 5 1, 3) := by decide +kernel
theorem dX3_inBox_134 : decode cX3_inBox 134 = .ok (.goto (-44), 3) := by decide +kernel
theorem dX3_inBox_137 : decode cX3_inBox 137 = .ok (.iinc 4 1, 3) := by decide +kernel
theorem dX3_inBox_140 : decode cX3_inBox 140 = .ok (.goto (-84), 3) := by decide +kernel
theorem dX3_inBox_143 : decode cX3_inBox 143 = .ok (.iinc 3 1, 3) := by decide +kernel
theorem dX3_inBox_146 : decode cX3_inBox 146 = .ok (.goto (-111), 3) := by decide +kernel
theorem dX3_inBox_149 : decode cX3_inBox 149 = .ok (.iload_n 2, 1) := by decide +kernel
theorem dX3_inBox_150 : decode cX3_inBox 150 = .ok (.ireturn, 1) := by decide +kernel
theorem dX3_solves_0 : decode cX3_solves 0 = .ok (.aload_n 0, 1) := by decide +kernel
theorem dX3_solves_1 : decode cX3_solves 1 = .ok (.iconst 0, 1) := by decide +kernel
theorem dX3_solves_2 : decode cX3_solves 2 = .ok (.putfield 58, 3) := by decide +kernel
theorem dX3_solves_5 : decode cX3_solves 5 = .ok (.aload_n 0, 1) := by decide +kernel
theorem dX3_solves_6 : decode cX3_solves 6 = .ok (.iload_n 1, 1) := by decide +kernel
theorem dX3_solves_7 : decode cX3_solves 7 = .ok (.i2l, 1) := by decide +kernel
theorem dX3_solves_8 : decode cX3_solves 8 = .ok (.iload_n 2, 1) := by decide +kernel
theorem dX3_solves_9 : decode cX3_solves 9 = .ok (.i2l, 1) := by decide +kernel
theorem dX3_solves_10 : decode cX3_solves 10 = .ok (.iload_n 3, 1) := by decide +kernel
theorem dX3_solves_11 : decode cX3_solves 11 = .ok (.i2l, 1) := by decide +kernel
theorem dX3_solves_12 : decode cX3_solves 12 = .ok (.invokevirtual 176, 3) := by decide +kernel
theorem dX3_solves_15 : decode cX3_solves 15 = .ok (.ireturn, 1) := by decide +kernel
