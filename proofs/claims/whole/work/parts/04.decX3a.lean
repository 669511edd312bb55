/-! decode rows of X3 -/
theorem dX3_init_0 : decode cX3_init 0 = .ok (.aload_n 0, 1) := by decide +kernel
theorem dX3_init_1 : decode cX3_init 1 = .ok (.invokespecial 1, 3) := by decide +kernel
theorem dX3_init_4 : decode cX3_init 4 = .ok (.aload_n 0, 1) := by decide +kernel
theorem dX3_init_5 : decode cX3_init 5 = .ok (.bipush 12, 2) := by decide +kernel
theorem dX3_init_7 : decode cX3_init 7 = .ok (.newarray .int, 2) := by decide +kernel
theorem dX3_init_9 : decode cX3_init 9 = .ok (.putfield 7, 3) := by decide +kernel
theorem dX3_init_12 : decode cX3_init 12 = .ok (.aload_n 0, 1) := by decide +kernel
theorem dX3_init_13 : decode cX3_init 13 = .ok (.iconst 3, 1) := by decide +kernel
theorem dX3_init_14 : decode cX3_init 14 = .ok (.newarray .int, 2) := by decide +kernel
theorem dX3_init_16 : decode cX3_init 16 = .ok (.putfield 13, 3) := by decide +kernel
theorem dX3_init_19 : decode cX3_init 19 = .ok (.aload_n 0, 1) := by decide +kernel
theorem dX3_init_20 : decode cX3_init 20 = .ok (.iconst 3, 1) := by decide +kernel
theorem dX3_init_21 : decode cX3_init 21 = .ok (.newarray .int, 2) := by decide +kernel
theorem dX3_init_23 : decode cX3_init 23 = .ok (.putfield 16, 3) := by decide +kernel
theorem dX3_init_26 : decode cX3_init 26 = .ok (.aload_n 0, 1) := by decide +kernel
theorem dX3_init_27 : decode cX3_init 27 = .ok (.iconst 3, 1) := by decide +kernel
theorem dX3_init_28 : decode cX3_init 28 = .ok (.newarray .boolean, 2) := by decide +kernel
theorem dX3_init_30 : decode cX3_init 30 = .ok (.putfield 19, 3) := by decide +kernel
theorem dX3_init_33 : decode cX3_init 33 = .ok (.aload_n 0, 1) := by decide +kernel
theorem dX3_init_34 : decode cX3_init 34 = .ok (.bipush 9, 2) := by decide +kernel
theorem dX3_init_36 : decode cX3_init 36 = .ok (.newarray .long, 2) := by decide +kernel
theorem dX3_init_38 : decode cX3_init 38 = .ok (.putfield 23, 3) := by decide +kernel
theorem dX3_init_41 : decode cX3_init 41 = .ok (.aload_n 0, 1) := by decide +kernel
theorem dX3_init_42 : decode cX3_init 42 = .ok (.iconst 3, 1) := by decide +kernel
theorem dX3_init_43 : decode cX3_init 43 = .ok (.newarray .long, 2) := by decide +kernel
theorem dX3_init_45 : decode cX3_init 45 = .ok (.putfield 27, 3) := by decide +kernel
theorem dX3_init_48 : decode cX3_init 48 = .ok (.aload_n 0, 1) := by decide +kernel
theorem dX3_init_49 : decode cX3_init 49 = .ok (.iconst 3, 1) := by decide +kernel
theorem dX3_init_50 : decode cX3_init 50 = .ok (.newarray .long, 2) := by decide +kernel
theorem dX3_init_52 : decode cX3_init 52 = .ok (.putfield 30, 3) := by decide +kernel
theorem dX3_init_55 : decode cX3_init 55 = .ok (.aload_n 0, 1) := by decide +kernel
theorem dX3_init_56 : decode cX3_init 56 = .ok (.iconst 3, 1) := by decide +kernel
theorem dX3_init_57 : decode cX3_init 57 = .ok (.newarray .long, 2) := by decide +kernel
theorem dX3_init_59 : decode cX3_init 59 = .ok (.putfield 33, 3) := by decide +kernel
theorem dX3_init_62 : decode cX3_init 62 = .ok (.aload_n 0, 1) := by decide +kernel
theorem dX3_init_63 : decode cX3_init 63 = .ok (.bipush 9, 2) := by decide +kernel
theorem dX3_init_65 : decode cX3_init 65 = .ok (.newarray .long, 2) := by decide +kernel
theorem dX3_init_67 : decode cX3_init 67 = .ok (.putfield 36, 3) := by decide +kernel
theorem dX3_init_70 : decode cX3_init 70 = .ok (.aload_n 0, 1) := by decide +kernel
theorem dX3_init_71 : decode cX3_init 71 = .ok (.iconst 3, 1) := by decide +kernel
theorem dX3_init_72 : decode cX3_init 72 = .ok (.newarray .int, 2) := by decide +kernel
theorem dX3_init_74 : decode cX3_init 74 = .ok (.putfield 39, 3) := by decide +kernel
theorem dX3_init_77 : decode cX3_init 77 = .ok (.aload_n 0, 1) := by decide +kernel
theorem dX3_init_78 : decode cX3_init 78 = .ok (.iconst 3, 1) := by decide +kernel
theorem dX3_init_79 : decode cX3_init 79 = .ok (.newarray .long, 2) := by decide +kernel
theorem dX3_init_81 : decode cX3_init 81 = .ok (.putfield 42, 3) := by decide +kernel
theorem dX3_init_84 : decode cX3_init 84 = .ok (.aload_n 0, 1) := by decide +kernel
theorem dX3_init_85 : decode cX3_init 85 = .ok (.iconst 3, 1) := by decide +kernel
theorem dX3_init_86 : decode cX3_init 86 = .ok (.newarray .long, 2) := by decide +kernel
theorem dX3_init_88 : decode cX3_init 88 = .ok (.putfield 45, 3) := by decide +kernel
theorem dX3_init_91 : decode cX3_init 91 = .ok (.aload_n 0, 1) := by decide +kernel
theorem dX3_init_92 : decode cX3_init 92 = .ok (.iconst 3, 1) := by decide +kernel
theorem dX3_init_93 : decode cX3_init 93 = .ok (.newarray .long, 2) := by decide +kernel
theorem dX3_init_95 : decode cX3_init 95 = .ok (.putfield 48, 3) := by decide +kernel
theorem dX3_init_98 : decode cX3_init 98 = .ok (.aload_n 0, 1) := by decide +kernel
theorem dX3_init_99 : decode cX3_init 99 = .ok (.bipush 9, 2) := by decide +kernel
theorem dX3_init_101 : decode cX3_init 101 = .ok (.newarray .long, 2) := by decide +kernel
theorem dX3_init_103 : decode cX3_init 103 = .ok (.putfield 51, 3) := by decide +kernel
theorem dX3_init_106 : decode cX3_init 106 = .ok (.aload_n 0, 1) := by decide +kernel
theorem dX3_init_107 : decode cX3_init 107 = .ok (.iload_n 1, 1) := by decide +kernel
theorem dX3_init_108 : decode cX3_init 108 = .ok (.iconst 1, 1) := by decide +kernel
theorem dX3_init_109 : decode cX3_init 109 = .ok (.if_icmp .ge 7, 3) := by decide +kernel
theorem dX3_init_112 : decode cX3_init 112 = .ok (.iconst 1, 1) := by decide +kernel
theorem dX3_init_113 : decode cX3_init 113 = .ok (.goto 13, 3) := by decide +kernel
theorem dX3_init_116 : decode cX3_init 116 = .ok (.iload_n 1, 1) := by decide +kernel
theorem dX3_init_117 : decode cX3_init 117 = .ok (.iconst 3, 1) := by decide +kernel
theorem dX3_init_118 : decode cX3_init 118 = .ok (.if_icmp .le 7, 3) := by decide +kernel
theorem dX3_init_121 : decode cX3_init 121 = .ok (.iconst 3, 1) := by decide +kernel
theorem dX3_init_122 : decode cX3_init 122 = .ok (.goto 4, 3) := by decide +kernel
theorem dX3_init_125 : decode cX3_init 125 = .ok (.iload_n 1, 1) := by decide +kernel
theorem dX3_init_126 : decode cX3_init 126 = .ok (.putfield 54, 3) := by decide +kernel
theorem dX3_init_129 : decode cX3_init 129 = .ok (.return_, 1) := by decide +kernel
theorem dX3_thrown_0 : decode cX3_thrown 0 = .ok (.aload_n 0, 1) := by decide +kernel
theorem dX3_thrown_1 : decode cX3_thrown 1 = .ok (.getfield 58, 3) := by decide +kernel
theorem dX3_thrown_4 : decode cX3_thrown 4 = .ok (.ireturn, 1) := by decide +kernel
theorem dX3_raise_0 : decode cX3_raise 0 = .ok (.aload_n 0, 1) := by decide +kernel
theorem dX3_raise_1 : decode cX3_raise 1 = .ok (.iload_n 1, 1) := by decide +kernel
theorem dX3_raise_2 : decode cX3_raise 2 = .ok (.putfield 58, 3) := by decide +kernel
theorem dX3_raise_5 : decode cX3_raise 5 = .ok (.iconst 0, 1) := by decide +kernel
theorem dX3_raise_6 : decode cX3_raise 6 = .ok (.ireturn, 1) := by decide +kernel
theorem dX3_in_0 : decode cX3_in 0 = .ok (.lload_n 0, 1) := by decide +kernel
theorem dX3_in_1 : decode cX3_in 1 = .ok (.lload_n 2, 1) := by decide +kernel
theorem dX3_in_2 : decode cX3_in 2 = .ok (.lcmp, 1) := by decide +kernel
theorem dX3_in_3 : decode cX3_in 3 = .ok (.ifCond .lt 14, 3) := by decide +kernel
theorem dX3_in_6 : decode cX3_in 6 = .ok (.lload_n 0, 1) := by decide +kernel
theorem dX3_in_7 : decode cX3_in 7 = .ok (.lload 4, 2) := by decide +kernel
theorem dX3_in_9 : decode cX3_in 9 = .ok (.lcmp, 1) := by decide +kernel
theorem dX3_in_10 : decode cX3_in 10 = .ok (.ifCond .gt 7, 3) := by decide +kernel
theorem dX3_in_13 : decode cX3_in 13 = .ok (.iconst 1, 1) := by decide +kernel
theorem dX3_in_14 : decode cX3_in 14 = .ok (.goto 4, 3) := by decide +kernel
theorem dX3_in_17 : decode cX3_in 17 = .ok (.iconst 0, 1) := by decide +kernel
theorem dX3_in_18 : decode cX3_in 18 = .ok (.ireturn, 1) := by decide +kernel
theorem dX3_divisor_0 : decode cX3_divisor 0 = .ok (.lload_n 0, 1) := by decide +kernel
theorem dX3_divisor_1 : decode cX3_divisor 1 = .ok (.lconst 0, 1) := by decide +kernel
theorem dX3_divisor_2 : decode cX3_divisor 2 = .ok (.lcmp, 1) := by decide +kernel
theorem dX3_divisor_3 : decode cX3_divisor 3 = .ok (.ifCond .ge 8, 3) := by decide +kernel
theorem dX3_divisor_6 : decode cX3_divisor 6 = .ok (.lload_n 0, 1) := by decide +kernel
theorem dX3_divisor_7 : decode cX3_divisor 7 = .ok (.lneg, 1) := by decide +kernel
theorem dX3_divisor_8 : decode cX3_divisor 8 = .ok (.goto 4, 3) := by decide +kernel
theorem dX3_divisor_11 : decode cX3_divisor 11 = .ok (.lload_n 0, 1) := by decide +kernel
theorem dX3_divisor_12 : decode cX3_divisor 12 = .ok (.lstore 4, 2) := by decide +kernel
theorem dX3_divisor_14 : decode cX3_divisor 14 = .ok (.lload_n 2, 1) := by decide +kernel
theorem dX3_divisor_15 : decode cX3_divisor 15 = .ok (.lconst 0, 1) := by decide +kernel
theorem dX3_divisor_16 : decode cX3_divisor 16 = .ok (.lcmp, 1) := by decide +kernel
theorem dX3_divisor_17 : decode cX3_divisor 17 = .ok (.ifCond .ge 8, 3) := by decide +kernel
theorem dX3_divisor_20 : decode cX3_divisor 20 = .ok (.lload_n 2, 1) := by decide +kernel
theorem dX3_divisor_21 : decode cX3_divisor 21 = .ok (.lneg, 1) := by decide +kernel
theorem dX3_divisor_22 : decode cX3_divisor 22 = .ok (.goto 4, 3) := by decide +kernel
theorem dX3_divisor_25 : decode cX3_divisor 25 = .ok (.lload_n 2, 1) := by decide +kernel
theorem dX3_divisor_26 : decode cX3_divisor 26 = .ok (.lstore 6, 2) := by decide +kernel
theorem dX3_divisor_28 : decode cX3_divisor 28 = .ok (.lload 6, 2) := by decide +kernel
theorem dX3_divisor_30 : decode cX3_divisor 30 = .ok (.lconst 0, 1) := by decide +kernel
theorem dX3_divisor_31 : decode cX3_divisor 31 = .ok (.lcmp, 1) := by decide +kernel
theorem dX3_divisor_32 : decode cX3_divisor 32 = .ok (.ifCond .eq 21, 3) := by decide +kernel
theorem dX3_divisor_35 : decode cX3_divisor 35 = .ok (.lload 4, 2) := by decide +kernel
theorem dX3_divisor_37 : decode cX3_divisor 37 = .ok (.lload 6, 2) := by decide +kernel
theorem dX3_divisor_39 : decode cX3_divisor 39 = .ok (.lrem, 1) := by decide +kernel
theorem dX3_divisor_40 : decode cX3_divisor 40 = .ok (.lstore 8, 2) := by decide +kernel
theorem dX3_divisor_42 : decode cX3_divisor 42 = .ok (.lload 6, 2) := by decide +kernel
theorem dX3_divisor_44 : decode cX3_divisor 44 = .ok (.lstore 4, 2) := by decide +kernel
theorem dX3_divisor_46 : decode cX3_divisor 46 = .ok (.lload 8, 2) := by decide +kernel
theorem dX3_divisor_48 : decode cX3_divisor 48 = .ok (.lstore 6, 2) := by decide +kernel
theorem dX3_divisor_50 : decode cX3_divisor 50 = .ok (.goto (-22), 3) := by decide +kernel
theorem dX3_divisor_53 : decode cX3_divisor 53 = .ok (.lload 4, 2) := by decide +kernel
theorem dX3_divisor_55 : decode cX3_divisor 55 = .ok (.lreturn, 1) := by decide +kernel
theorem dX3_lowest_0 : decode cX3_lowest 0 = .ok (.lload_n 1, 1) := by decide +kernel
theorem dX3_lowest_1 : decode cX3_lowest 1 = .ok (.lload_n 3, 1) := by decide +kernel
theorem dX3_lowest_2 : decode cX3_lowest 2 = .ok (.invokestatic 61, 3) := by decide +kernel
theorem dX3_lowest_5 : decode cX3_lowest 5 = .ok (.lstore 5, 2) := by decide +kernel
theorem dX3_lowest_7 : decode cX3_lowest 7 = .ok (.aload_n 0, 1) := by decide +kernel
theorem dX3_lowest_8 : decode cX3_lowest 8 = .ok (.lload_n 3, 1) := by decide +kernel
theorem dX3_lowest_9 : decode cX3_lowest 9 = .ok (.lconst 0, 1) := by decide +kernel
theorem dX3_lowest_10 : decode cX3_lowest 10 = .ok (.lcmp, 1) := by decide +kernel
theorem dX3_lowest_11 : decode cX3_lowest 11 = .ok (.ifCond .ge 11, 3) := by decide +kernel
theorem dX3_lowest_14 : decode cX3_lowest 14 = .ok (.lload_n 1, 1) := by decide +kernel
theorem dX3_lowest_15 : decode cX3_lowest 15 = .ok (.lload 5, 2) := by decide +kernel
theorem dX3_lowest_17 : decode cX3_lowest 17 = .ok (.ldiv, 1) := by decide +kernel
theorem dX3_lowest_18 : decode cX3_lowest 18 = .ok (.lneg, 1) := by decide +kernel
theorem dX3_lowest_19 : decode cX3_lowest 19 = .ok (.goto 7, 3) := by decide +kernel
theorem dX3_lowest_22 : decode cX3_lowest 22 = .ok (.lload_n 1, 1) := by decide +kernel
theorem dX3_lowest_23 : decode cX3_lowest 23 = .ok (.lload 5, 2) := by decide +kernel
theorem dX3_lowest_25 : decode cX3_lowest 25 = .ok (.ldiv, 1) := by decide +kernel
theorem dX3_lowest_26 : decode cX3_lowest 26 = .ok (.putfield 65, 3) := by decide +kernel
theorem dX3_lowest_29 : decode cX3_lowest 29 = .ok (.aload_n 0, 1) := by decide +kernel
theorem dX3_lowest_30 : decode cX3_lowest 30 = .ok (.lload_n 3, 1) := by decide +kernel
theorem dX3_lowest_31 : decode cX3_lowest 31 = .ok (.lconst 0, 1) := by decide +kernel
theorem dX3_lowest_32 : decode cX3_lowest 32 = .ok (.lcmp, 1) := by decide +kernel
theorem dX3_lowest_33 : decode cX3_lowest 33 = .ok (.ifCond .ge 11, 3) := by decide +kernel
theorem dX3_lowest_36 : decode cX3_lowest 36 = .ok (.lload_n 3, 1) := by decide +kernel
theorem dX3_lowest_37 : decode cX3_lowest 37 = .ok (.lload 5, 2) := by decide +kernel
theorem dX3_lowest_39 : decode cX3_lowest 39 = .ok (.ldiv, 1) := by decide +kernel
theorem dX3_lowest_40 : decode cX3_lowest 40 = .ok (.lneg, 1) := by decide +kernel
theorem dX3_lowest_41 : decode cX3_lowest 41 = .ok (.goto 7, 3) := by decide +kernel
theorem dX3_lowest_44 : decode cX3_lowest 44 = .ok (.lload_n 3, 1) := by decide +kernel
theorem dX3_lowest_45 : decode cX3_lowest 45 = .ok (.lload 5, 2) := by decide +kernel
theorem dX3_lowest_47 : decode cX3_lowest 47 = .ok (.ldiv, 1) := by decide +kernel
theorem dX3_lowest_48 : decode cX3_lowest 48 = .ok (.putfield 69, 3) := by decide +kernel
theorem dX3_lowest_51 : decode cX3_lowest 51 = .ok (.return_, 1) := by decide +kernel
theorem dX3_told_0 : decode cX3_told 0 = .ok (.iload_n 1, 1) := by decide +kernel
theorem dX3_told_1 : decode cX3_told 1 = .ok (.ifCond .ne 10, 3) := by decide +kernel
theorem dX3_told_4 : decode cX3_told 4 = .ok (.aload_n 0, 1) := by decide +kernel
theorem dX3_told_5 : decode cX3_told 5 = .ok (.getfield 65, 3) := by decide +kernel
theorem dX3_told_8 : decode cX3_told 8 = .ok (.goto 7, 3) := by decide +kernel
theorem dX3_told_11 : decode cX3_told 11 = .ok (.aload_n 0, 1) := by decide +kernel
theorem dX3_told_12 : decode cX3_told 12 = .ok (.getfield 69, 3) := by decide +kernel
theorem dX3_told_15 : decode cX3_told 15 = .ok (.lreturn, 1) := by decide +kernel
theorem dX3_equation_0 : decode cX3_equation 0 = .ok (.aload_n 0, 1) := by decide +kernel
theorem dX3_equation_1 : decode cX3_equation 1 = .ok (.aload_n 0, 1) := by decide +kernel
theorem dX3_equation_2 : decode cX3_equation 2 = .ok (.getfield 72, 3) := by decide +kernel
theorem dX3_equation_5 : decode cX3_equation 5 = .ok (.iconst 3, 1) := by decide +kernel
theorem dX3_equation_6 : decode cX3_equation 6 = .ok (.if_icmp .ne 7, 3) := by decide +kernel
theorem dX3_equation_9 : decode cX3_equation 9 = .ok (.iconst 1, 1) := by decide +kernel
theorem dX3_equation_10 : decode cX3_equation 10 = .ok (.goto 4, 3) := by decide +kernel
theorem dX3_equation_13 : decode cX3_equation 13 = .ok (.iconst 0, 1) := by decide +kernel
theorem dX3_equation_14 : decode cX3_equation 14 = .ok (.putfield 58, 3) := by decide +kernel
theorem dX3_equation_17 : decode cX3_equation 17 = .ok (.aload_n 0, 1) := by decide +kernel
theorem dX3_equation_18 : decode cX3_equation 18 = .ok (.getfield 58, 3) := by decide +kernel
theorem dX3_equation_21 : decode cX3_equation 21 = .ok (.ifCond .le 5, 3) := by decide +kernel
theorem dX3_equation_24 : decode cX3_equation 24 = .ok (.iconst 0, 1) := by decide +kernel
theorem dX3_equation_25 : decode cX3_equation 25 = .ok (.ireturn, 1) := by decide +kernel
theorem dX3_equation_26 : decode cX3_equation 26 = .ok (.iconst 0, 1) := by decide +kernel
theorem dX3_equation_27 : decode cX3_equation 27 = .ok (.istore_n 1, 1) := by decide +kernel
theorem dX3_equation_28 : decode cX3_equation 28 = .ok (.iload_n 1, 1) := by decide +kernel
theorem dX3_equation_29 : decode cX3_equation 29 = .ok (.iconst 4, 1) := by decide +kernel
theorem dX3_equation_30 : decode cX3_equation 30 = .ok (.if_icmp .ge 23, 3) := by decide +kernel
theorem dX3_equation_33 : decode cX3_equation 33 = .ok (.aload_n 0, 1) := by decide +kernel
theorem dX3_equation_34 : decode cX3_equation 34 = .ok (.getfield 7, 3) := by decide +kernel
theorem dX3_equation_37 : decode cX3_equation 37 = .ok (.iconst 4, 1) := by decide +kernel
theorem dX3_equation_38 : decode cX3_equation 38 = .ok (.aload_n 0, 1) := by decide +kernel
theorem dX3_equation_39 : decode cX3_equation 39 = .ok (.getfield 72, 3) := by decide +kernel
theorem dX3_equation_42 : decode cX3_equation 42 = .ok (.imul, 1) := by decide +kernel
theorem dX3_equation_43 : decode cX3_equation 43 = .ok (.iload_n 1, 1) := by decide +kernel
theorem dX3_equation_44 : decode cX3_equation 44 = .ok (.iadd, 1) := by decide +kernel
theorem dX3_equation_45 : decode cX3_equation 45 = .ok (.iconst 0, 1) := by decide +kernel
theorem dX3_equation_46 : decode cX3_equation 46 = .ok (.iastore, 1) := by decide +kernel
theorem dX3_equation_47 : decode cX3_equation 47 = .ok (.iinc 1 1, 3) := by decide +kernel
theorem dX3_equation_50 : decode cX3_equation 50 = .ok (.goto (-22), 3) := by decide +kernel
theorem dX3_equation_53 : decode cX3_equation 53 = .ok (.aload_n 0, 1) := by decide +kernel
theorem dX3_equation_54 : decode cX3_equation 54 = .ok (.dup, 1) := by decide +kernel
theorem dX3_equation_55 : decode cX3_equation 55 = .ok (.getfield 72, 3) := by decide +kernel
theorem dX3_equation_58 : decode cX3_equation 58 = .ok (.iconst 1, 1) := by decide +kernel
theorem dX3_equation_59 : decode cX3_equation 59 = .ok (.iadd, 1) := by decide +kernel
theorem dX3_equation_60 : decode cX3_equation 60 = .ok (.putfield 72, 3) := by decide +kernel
theorem dX3_equation_63 : decode cX3_equation 63 = .ok (.aload_n 0, 1) := by decide +kernel
theorem dX3_equation_64 : decode cX3_equation 64 = .ok (.getfield 72, 3) := by decide +kernel
theorem dX3_equation_67 : decode cX3_equation 67 = .ok (.iconst 1, 1) := by decide +kernel
theorem dX3_equation_68 : decode cX3_equation 68 = .ok (.isub, 1) := by decide +kernel
theorem dX3_equation_69 : decode cX3_equation 69 = .ok (.ireturn, 1) := by decide +kernel
theorem dX3_isPlace_0 : decode cX3_isPlace 0 = .ok (.aload_n 0, 1) := by decide +kernel
theorem dX3_isPlace_1 : decode cX3_isPlace 1 = .ok (.iload_n 1, 1) := by decide +kernel
theorem dX3_isPlace_2 : decode cX3_isPlace 2 = .ok (.i2l, 1) := by decide +kernel
theorem dX3_isPlace_3 : decode cX3_isPlace 3 = .ok (.lconst 0, 1) := by decide +kernel
theorem dX3_isPlace_4 : decode cX3_isPlace 4 = .ok (.aload_n 0, 1) := by decide +kernel
theorem dX3_isPlace_5 : decode cX3_isPlace 5 = .ok (.getfield 72, 3) := by decide +kernel
theorem dX3_isPlace_8 : decode cX3_isPlace 8 = .ok (.iconst 1, 1) := by decide +kernel
theorem dX3_isPlace_9 : decode cX3_isPlace 9 = .ok (.isub, 1) := by decide +kernel
theorem dX3_isPlace_10 : decode cX3_isPlace 10 = .ok (.i2l, 1) := by decide +kernel
theorem dX3_isPlace_11 : decode cX3_isPlace 11 = .ok (.invokestatic 75, 3) := by decide +kernel
theorem dX3_isPlace_14 : decode cX3_isPlace 14 = .ok (.ifCond .eq 21, 3) := by decide +kernel
theorem dX3_isPlace_17 : decode cX3_isPlace 17 = .ok (.iload_n 2, 1) := by decide +kernel
theorem dX3_isPlace_18 : decode cX3_isPlace 18 = .ok (.i2l, 1) := by decide +kernel
theorem dX3_isPlace_19 : decode cX3_isPlace 19 = .ok (.lconst 0, 1) := by decide +kernel
theorem dX3_isPlace_20 : decode cX3_isPlace 20 = .ok (.aload_n 0, 1) := by decide +kernel
theorem dX3_isPlace_21 : decode cX3_isPlace 21 = .ok (.getfield 54, 3) := by decide +kernel
theorem dX3_isPlace_24 : decode cX3_isPlace 24 = .ok (.i2l, 1) := by decide +kernel
theorem dX3_isPlace_25 : decode cX3_isPlace 25 = .ok (.invokestatic 75, 3) := by decide +kernel
theorem dX3_isPlace_28 : decode cX3_isPlace 28 = .ok (.ifCond .eq 7, 3) := by decide +kernel
theorem dX3_isPlace_31 : decode cX3_isPlace 31 = .ok (.iconst 0, 1) := by decide +kernel
theorem dX3_isPlace_32 : decode cX3_isPlace 32 = .ok (.goto 4, 3) := by decide +kernel
theorem dX3_isPlace_35 : decode cX3_isPlace 35 = .ok (.iconst 1, 1) := by decide +kernel
theorem dX3_isPlace_36 : decode cX3_isPlace 36 = .ok (.putfield 58, 3) := by decide +kernel
theorem dX3_isPlace_39 : decode cX3_isPlace 39 = .ok (.aload_n 0, 1) := by decide +kernel
theorem dX3_isPlace_40 : decode cX3_isPlace 40 = .ok (.getfield 58, 3) := by decide +kernel
theorem dX3_isPlace_43 : decode cX3_isPlace 43 = .ok (.ifCond .ne 7, 3) := by decide +kernel
theorem dX3_isPlace_46 : decode cX3_isPlace 46 = .ok (.iconst 1, 1) := by decide +kernel
theorem dX3_isPlace_47 : decode cX3_isPlace 47 = .ok (.goto 4, 3) := by decide +kernel
theorem dX3_isPlace_50 : decode cX3_isPlace 50 = .ok (.iconst 0, 1) := by decide +kernel
theorem dX3_isPlace_51 : decode cX3_isPlace 51 = .ok (.ireturn, 1) := by decide +kernel
theorem dX3_place_0 : decode cX3_place 0 = .ok (.iconst 4, 1) := by decide +kernel
theorem dX3_place_1 : decode cX3_place 1 = .ok (.iload_n 1, 1) := by decide +kernel
theorem dX3_place_2 : decode cX3_place 2 = .ok (.imul, 1) := by decide +kernel
theorem dX3_place_3 : decode cX3_place 3 = .ok (.iload_n 2, 1) := by decide +kernel
theorem dX3_place_4 : decode cX3_place 4 = .ok (.aload_n 0, 1) := by decide +kernel
theorem dX3_place_5 : decode cX3_place 5 = .ok (.getfield 54, 3) := by decide +kernel
theorem dX3_place_8 : decode cX3_place 8 = .ok (.if_icmp .ne 7, 3) := by decide +kernel
theorem dX3_place_11 : decode cX3_place 11 = .ok (.iconst 3, 1) := by decide +kernel
theorem dX3_place_12 : decode cX3_place 12 = .ok (.goto 4, 3) := by decide +kernel
theorem dX3_place_15 : decode cX3_place 15 = .ok (.iload_n 2, 1) := by decide +kernel
theorem dX3_place_16 : decode cX3_place 16 = .ok (.iadd, 1) := by decide +kernel
theorem dX3_place_17 : decode cX3_place 17 = .ok (.ireturn, 1) := by decide +kernel
theorem dX3_put_0 : decode cX3_put 0 = .ok (.aload_n 0, 1) := by decide +kernel
theorem dX3_put_1 : decode cX3_put 1 = .ok (.iload_n 1, 1) := by decide +kernel
theorem dX3_put_2 : decode cX3_put 2 = .ok (.iload_n 2, 1) := by decide +kernel
theorem dX3_put_3 : decode cX3_put 3 = .ok (.invokevirtual 79, 3) := by decide +kernel
theorem dX3_put_6 : decode cX3_put 6 = .ok (.ifCond .ne 5, 3) := by decide +kernel
theorem dX3_put_9 : decode cX3_put 9 = .ok (.iconst 0, 1) := by decide +kernel
theorem dX3_put_10 : decode cX3_put 10 = .ok (.ireturn, 1) := by decide +kernel
theorem dX3_put_11 : decode cX3_put 11 = .ok (.aload_n 0, 1) := by decide +kernel
theorem dX3_put_12 : decode cX3_put 12 = .ok (.iload_n 3, 1) := by decide +kernel
theorem dX3_put_13 : decode cX3_put 13 = .ok (.i2l, 1) := by decide +kernel
theorem dX3_put_14 : decode cX3_put 14 = .ok (.ldc2_w 83, 3) := by decide +kernel
theorem dX3_put_17 : decode cX3_put 17 = .ok (.ldc2_w 85, 3) := by decide +kernel
theorem dX3_put_20 : decode cX3_put 20 = .ok (.invokestatic 75, 3) := by decide +kernel
theorem dX3_put_23 : decode cX3_put 23 = .ok (.ifCond .eq 7, 3) := by decide +kernel
theorem dX3_put_26 : decode cX3_put 26 = .ok (.iconst 0, 1) := by decide +kernel
theorem dX3_put_27 : decode cX3_put 27 = .ok (.goto 4, 3) := by decide +kernel
theorem dX3_put_30 : decode cX3_put 30 = .ok (.iconst 2, 1) := by decide +kernel
theorem dX3_put_31 : decode cX3_put 31 = .ok (.putfield 58, 3) := by decide +kernel
theorem dX3_put_34 : decode cX3_put 34 = .ok (.aload_n 0, 1) := by decide +kernel
theorem dX3_put_35 : decode cX3_put 35 = .ok (.getfield 58, 3) := by decide +kernel
theorem dX3_put_38 : decode cX3_put 38 = .ok (.ifCond .le 5, 3) := by decide +kernel
theorem dX3_put_41 : decode cX3_put 41 = .ok (.iconst 0, 1) := by decide +kernel
theorem dX3_put_42 : decode cX3_put 42 = .ok (.ireturn, 1) := by decide +kernel
theorem dX3_put_43 : decode cX3_put 43 = .ok (.aload_n 0, 1) := by decide +kernel
theorem dX3_put_44 : decode cX3_put 44 = .ok (.getfield 7, 3) := by decide +kernel
theorem dX3_put_47 : decode cX3_put 47 = .ok (.aload_n 0, 1) := by decide +kernel
theorem dX3_put_48 : decode cX3_put 48 = .ok (.iload_n 1, 1) := by decide +kernel
theorem dX3_put_49 : decode cX3_put 49 = .ok (.iload_n 2, 1) := by decide +kernel
theorem dX3_put_50 : decode cX3_put 50 = .ok (.invokevirtual 87, 3) := by decide +kernel
theorem dX3_put_53 : decode cX3_put 53 = .ok (.iaload, 1) := by decide +kernel
theorem dX3_put_54 : decode cX3_put 54 = .ok (.iload_n 3, 1) := by decide +kernel
theorem dX3_put_55 : decode cX3_put 55 = .ok (.if_icmp .eq 7, 3) := by decide +kernel
theorem dX3_put_58 : decode cX3_put 58 = .ok (.iconst 1, 1) := by decide +kernel
theorem dX3_put_59 : decode cX3_put 59 = .ok (.goto 4, 3) := by decide +kernel
theorem dX3_put_62 : decode cX3_put 62 = .ok (.iconst 0, 1) := by decide +kernel
theorem dX3_put_63 : decode cX3_put 63 = .ok (.istore 4, 2) := by decide +kernel
theorem dX3_put_65 : decode cX3_put 65 = .ok (.aload_n 0, 1) := by decide +kernel
theorem dX3_put_66 : decode cX3_put 66 = .ok (.getfield 7, 3) := by decide +kernel
theorem dX3_put_69 : decode cX3_put 69 = .ok (.aload_n 0, 1) := by decide +kernel
theorem dX3_put_70 : decode cX3_put 70 = .ok (.iload_n 1, 1) := by decide +kernel
theorem dX3_put_71 : decode cX3_put 71 = .ok (.iload_n 2, 1) := by decide +kernel
theorem dX3_put_72 : decode cX3_put 72 = .ok (.invokevirtual 87, 3) := by decide +kernel
theorem dX3_put_75 : decode cX3_put 75 = .ok (.iload_n 3, 1) := by decide +kernel
theorem dX3_put_76 : decode cX3_put 76 = .ok (.iastore, 1) := by decide +kernel
theorem dX3_put_77 : decode cX3_put 77 = .ok (.iload 4, 2) := by decide +kernel
theorem dX3_put_79 : decode cX3_put 79 = .ok (.ireturn, 1) := by decide +kernel
theorem dX3_at_0 : decode cX3_at 0 = .ok (.aload_n 0, 1) := by decide +kernel
theorem dX3_at_1 : decode cX3_at 1 = .ok (.iload_n 1, 1) := by decide +kernel
theorem dX3_at_2 : decode cX3_at 2 = .ok (.iload_n 2, 1) := by decide +kernel
theorem dX3_at_3 : decode cX3_at 3 = .ok (.invokevirtual 79, 3) := by decide +kernel
theorem dX3_at_6 : decode cX3_at 6 = .ok (.ifCond .eq 17, 3) := by decide +kernel
theorem dX3_at_9 : decode cX3_at 9 = .ok (.aload_n 0, 1) := by decide +kernel
theorem dX3_at_10 : decode cX3_at 10 = .ok (.getfield 7, 3) := by decide +kernel
theorem dX3_at_13 : decode cX3_at 13 = .ok (.aload_n 0, 1) := by decide +kernel
theorem dX3_at_14 : decode cX3_at 14 = .ok (.iload_n 1, 1) := by decide +kernel
theorem dX3_at_15 : decode cX3_at 15 = .ok (.iload_n 2, 1) := by decide +kernel
theorem dX3_at_16 : decode cX3_at 16 = .ok (.invokevirtual 87, 3) := by decide +kernel
theorem dX3_at_19 : decode cX3_at 19 = .ok (.iaload, 1) := by decide +kernel
theorem dX3_at_20 : decode cX3_at 20 = .ok (.goto 4, 3) := by decide +kernel
theorem dX3_at_23 : decode cX3_at 23 = .ok (.iconst 0, 1) := by decide +kernel
theorem dX3_at_24 : decode cX3_at 24 = .ok (.ireturn, 1) := by decide +kernel
theorem dX3_clear_0 : decode cX3_clear 0 = .ok (.aload_n 0, 1) := by decide +kernel
theorem dX3_clear_1 : decode cX3_clear 1 = .ok (.iconst 0, 1) := by decide +kernel
theorem dX3_clear_2 : decode cX3_clear 2 = .ok (.putfield 58, 3) := by decide +kernel
theorem dX3_clear_5 : decode cX3_clear 5 = .ok (.aload_n 0, 1) := by decide +kernel
theorem dX3_clear_6 : decode cX3_clear 6 = .ok (.iconst 0, 1) := by decide +kernel
theorem dX3_clear_7 : decode cX3_clear 7 = .ok (.putfield 72, 3) := by decide +kernel
theorem dX3_clear_10 : decode cX3_clear 10 = .ok (.return_, 1) := by decide +kernel
theorem dX3_count_0 : decode cX3_count 0 = .ok (.aload_n 0, 1) := by decide +kernel
theorem dX3_count_1 : decode cX3_count 1 = .ok (.iconst 0, 1) := by decide +kernel
theorem dX3_count_2 : decode cX3_count 2 = .ok (.putfield 58, 3) := by decide +kernel
theorem dX3_count_5 : decode cX3_count 5 = .ok (.iload_n 1, 1) := by decide +kernel
theorem dX3_count_6 : decode cX3_count 6 = .ok (.ifCond .ne 10, 3) := by decide +kernel
theorem dX3_count_9 : decode cX3_count 9 = .ok (.aload_n 0, 1) := by decide +kernel
theorem dX3_count_10 : decode cX3_count 10 = .ok (.getfield 72, 3) := by decide +kernel
theorem dX3_count_13 : decode cX3_count 13 = .ok (.goto 16, 3) := by decide +kernel
theorem dX3_count_16 : decode cX3_count 16 = .ok (.iload_n 1, 1) := by decide +kernel
theorem dX3_count_17 : decode cX3_count 17 = .ok (.iconst 1, 1) := by decide +kernel
theorem dX3_count_18 : decode cX3_count 18 = .ok (.if_icmp .ne 10, 3) := by decide +kernel
theorem dX3_count_21 : decode cX3_count 21 = .ok (.aload_n 0, 1) := by decide +kernel
theorem dX3_count_22 : decode cX3_count 22 = .ok (.getfield 54, 3) := by decide +kernel
theorem dX3_count_25 : decode cX3_count 25 = .ok (.goto 4, 3) := by decide +kernel
theorem dX3_count_28 : decode cX3_count 28 = .ok (.iconst (-1), 1) := by decide +kernel
theorem dX3_count_29 : decode cX3_count 29 = .ok (.ireturn, 1) := by decide +kernel
theorem dX3_determinant_0 : decode cX3_determinant 0 = .ok (.aload_n 0, 1) := by decide +kernel
theorem dX3_determinant_1 : decode cX3_determinant 1 = .ok (.getfield 23, 3) := by decide +kernel
theorem dX3_determinant_4 : decode cX3_determinant 4 = .ok (.astore_n 2, 1) := by decide +kernel
theorem dX3_determinant_5 : decode cX3_determinant 5 = .ok (.iload_n 1, 1) := by decide +kernel
theorem dX3_determinant_6 : decode cX3_determinant 6 = .ok (.ifCond .ne 5, 3) := by decide +kernel
theorem dX3_determinant_9 : decode cX3_determinant 9 = .ok (.lconst 1, 1) := by decide +kernel
theorem dX3_determinant_10 : decode cX3_determinant 10 = .ok (.lreturn, 1) := by decide +kernel
theorem dX3_determinant_11 : decode cX3_determinant 11 = .ok (.iload_n 1, 1) := by decide +kernel
theorem dX3_determinant_12 : decode cX3_determinant 12 = .ok (.iconst 1, 1) := by decide +kernel
theorem dX3_determinant_13 : decode cX3_determinant 13 = .ok (.if_icmp .ne 7, 3) := by decide +kernel
theorem dX3_determinant_16 : decode cX3_determinant 16 = .ok (.aload_n 2, 1) := by decide +kernel
theorem dX3_determinant_17 : decode cX3_determinant 17 = .ok (.iconst 0, 1) := by decide +kernel
theorem dX3_determinant_18 : decode cX3_determinant 18 = .ok (.laload, 1) := by decide +kernel
theorem dX3_determinant_19 : decode cX3_determinant 19 = .ok (.lreturn, 1) := by decide +kernel
theorem dX3_determinant_20 : decode cX3_determinant 20 = .ok (.iload_n 1, 1) := by decide +kernel
theorem dX3_determinant_21 : decode cX3_determinant 21 = .ok (.iconst 2, 1) := by decide +kernel
theorem dX3_determinant_22 : decode cX3_determinant 22 = .ok (.if_icmp .ne 19, 3) := by decide +kernel
theorem dX3_determinant_25 : decode cX3_determinant 25 = .ok (.aload_n 2, 1) := by decide +kernel
theorem dX3_determinant_26 : decode cX3_determinant 26 = .ok (.iconst 0, 1) := by decide +kernel
theorem dX3_determinant_27 : decode cX3_determinant 27 = .ok (.laload, 1) := by decide +kernel
theorem dX3_determinant_28 : decode cX3_determinant 28 = .ok (.aload_n 2, 1) := by decide +kernel
theorem dX3_determinant_29 : decode cX3_determinant 29 = .ok (.iconst 4, 1) := by decide +kernel
theorem dX3_determinant_30 : decode cX3_determinant 30 = .ok (.laload, 1) := by decide +kernel
theorem dX3_determinant_31 : decode cX3_determinant 31 = .ok (.lmul, 1) := by decide +kernel
theorem dX3_determinant_32 : decode cX3_determinant 32 = .ok (.aload_n 2, 1) := by decide +kernel
theorem dX3_determinant_33 : decode cX3_determinant 33 = .ok (.iconst 1, 1) := by decide +kernel
theorem dX3_determinant_34 : decode cX3_determinant 34 = .ok (.laload, 1) := by decide +kernel
theorem dX3_determinant_35 : decode cX3_determinant 35 = .ok (.aload_n 2, 1) := by decide +kernel
theorem dX3_determinant_36 : decode cX3_determinant 36 = .ok (.iconst 3, 1) := by decide +kernel
theorem dX3_determinant_37 : decode cX3_determinant 37 = .ok (.laload, 1) := by decide +kernel
theorem dX3_determinant_38 : decode cX3_determinant 38 = .ok (.lmul, 1) := by decide +kernel
theorem dX3_determinant_39 : decode cX3_determinant 39 = .ok (.lsub, 1) := by decide +kernel
theorem dX3_determinant_40 : decode cX3_determinant 40 = .ok (.lreturn, 1) := by decide +kernel
theorem dX3_determinant_41 : decode cX3_determinant 41 = .ok (.aload_n 2, 1) := by decide +kernel
theorem dX3_determinant_42 : decode cX3_determinant 42 = .ok (.iconst 0, 1) := by decide +kernel
theorem dX3_determinant_43 : decode cX3_determinant 43 = .ok (.laload, 1) := by decide +kernel
theorem dX3_determinant_44 : decode cX3_determinant 44 = .ok (.aload_n 2, 1) := by decide +kernel
theorem dX3_determinant_45 : decode cX3_determinant 45 = .ok (.iconst 4, 1) := by decide +kernel
theorem dX3_determinant_46 : decode cX3_determinant 46 = .ok (.laload, 1) := by decide +kernel
theorem dX3_determinant_47 : decode cX3_determinant 47 = .ok (.aload_n 2, 1) := by decide +kernel
theorem dX3_determinant_48 : decode cX3_determinant 48 = .ok (.bipush 8, 2) := by decide +kernel
theorem dX3_determinant_50 : decode cX3_determinant 50 = .ok (.laload, 1) := by decide +kernel
theorem dX3_determinant_51 : decode cX3_determinant 51 = .ok (.lmul, 1) := by decide +kernel
theorem dX3_determinant_52 : decode cX3_determinant 52 = .ok (.aload_n 2, 1) := by decide +kernel
theorem dX3_determinant_53 : decode cX3_determinant 53 = .ok (.iconst 5, 1) := by decide +kernel
theorem dX3_determinant_54 : decode cX3_determinant 54 = .ok (.laload, 1) := by decide +kernel
theorem dX3_determinant_55 : decode cX3_determinant 55 = .ok (.aload_n 2, 1) := by decide +kernel
theorem dX3_determinant_56 : decode cX3_determinant 56 = .ok (.bipush 7, 2) := by decide +kernel
theorem dX3_determinant_58 : decode cX3_determinant 58 = .ok (.laload, 1) := by decide +kernel
theorem dX3_determinant_59 : decode cX3_determinant 59 = .ok (.lmul, 1) := by decide +kernel
theorem dX3_determinant_60 : decode cX3_determinant 60 = .ok (.lsub, 1) := by decide +kernel
theorem dX3_determinant_61 : decode cX3_determinant 61 = .ok (.lmul, 1) := by decide +kernel
theorem dX3_determinant_62 : decode cX3_determinant 62 = .ok (.aload_n 2, 1) := by decide +kernel
theorem dX3_determinant_63 : decode cX3_determinant 63 = .ok (.iconst 1, 1) := by decide +kernel
theorem dX3_determinant_64 : decode cX3_determinant 64 = .ok (.laload, 1) := by decide +kernel
theorem dX3_determinant_65 : decode cX3_determinant 65 = .ok (.aload_n 2, 1) := by decide +kernel
theorem dX3_determinant_66 : decode cX3_determinant 66 = .ok (.iconst 3, 1) := by decide +kernel
theorem dX3_determinant_67 : decode cX3_determinant 67 = .ok (.laload, 1) := by decide +kernel
theorem dX3_determinant_68 : decode cX3_determinant 68 = .ok (.aload_n 2, 1) := by decide +kernel
theorem dX3_determinant_69 : decode cX3_determinant 69 = .ok (.bipush 8, 2) := by decide +kernel
theorem dX3_determinant_71 : decode cX3_determinant 71 = .ok (.laload, 1) := by decide +kernel
theorem dX3_determinant_72 : decode cX3_determinant 72 = .ok (.lmul, 1) := by decide +kernel
theorem dX3_determinant_73 : decode cX3_determinant 73 = .ok (.aload_n 2, 1) := by decide +kernel
theorem dX3_determinant_74 : decode cX3_determinant 74 = .ok (.iconst 5, 1) := by decide +kernel
theorem dX3_determinant_75 : decode cX3_determinant 75 = .ok (.laload, 1) := by decide +kernel
theorem dX3_determinant_76 : decode cX3_determinant 76 = .ok (.aload_n 2, 1) := by decide +kernel
theorem dX3_determinant_77 : decode cX3_determinant 77 = .ok (.bipush 6, 2) := by decide +kernel
theorem dX3_determinant_79 : decode cX3_determinant 79 = .ok (.laload, 1) := by decide +kernel
theorem dX3_determinant_80 : decode cX3_determinant 80 = .ok (.lmul, 1) := by decide +kernel
theorem dX3_determinant_81 : decode cX3_determinant 81 = .ok (.lsub, 1) := by decide +kernel
theorem dX3_determinant_82 : decode cX3_determinant 82 = .ok (.lmul, 1) := by decide +kernel
theorem dX3_determinant_83 : decode cX3_determinant 83 = .ok (.lsub, 1) := by decide +kernel
theorem dX3_determinant_84 : decode cX3_determinant 84 = .ok (.aload_n 2, 1) := by decide +kernel
theorem dX3_determinant_85 : decode cX3_determinant 85 = .ok (.iconst 2, 1) := by decide +kernel
theorem dX3_determinant_86 : decode cX3_determinant 86 = .ok (.laload, 1) := by decide +kernel
theorem dX3_determinant_87 : decode cX3_determinant 87 = .ok (.aload_n 2, 1) := by decide +kernel
theorem dX3_determinant_88 : decode cX3_determinant 88 = .ok (.iconst 3, 1) := by decide +kernel
theorem dX3_determinant_89 : decode cX3_determinant 89 = .ok (.laload, 1) := by decide +kernel
theorem dX3_determinant_90 : decode cX3_determinant 90 = .ok (.aload_n 2, 1) := by decide +kernel
theorem dX3_determinant_91 : decode cX3_determinant 91 = .ok (.bipush 7, 2) := by decide +kernel
theorem dX3_determinant_93 : decode cX3_determinant 93 = .ok (.laload, 1) := by decide +kernel
theorem dX3_determinant_94 : decode cX3_determinant 94 = .ok (.lmul, 1) := by decide +kernel
theorem dX3_determinant_95 : decode cX3_determinant 95 = .ok (.aload_n 2, 1) := by decide +kernel
theorem dX3_determinant_96 : decode cX3_determinant 96 = .ok (.iconst 4, 1) := by decide +kernel
theorem dX3_determinant_97 : decode cX3_determinant 97 = .ok (.laload, 1) := by decide +kernel
theorem dX3_determinant_98 : decode cX3_determinant 98 = .ok (.aload_n 2, 1) := by decide +kernel
theorem dX3_determinant_99 : decode cX3_determinant 99 = .ok (.bipush 6, 2) := by decide +kernel
theorem dX3_determinant_101 : decode cX3_determinant 101 = .ok (.laload, 1) := by decide +kernel
theorem dX3_determinant_102 : decode cX3_determinant 102 = .ok (.lmul, 1) := by decide +kernel
theorem dX3_determinant_103 : decode cX3_determinant 103 = .ok (.lsub, 1) := by decide +kernel
theorem dX3_determinant_104 : decode cX3_determinant 104 = .ok (.lmul, 1) := by decide +kernel
theorem dX3_determinant_105 : decode cX3_determinant 105 = .ok (.ladd, 1) := by decide +kernel
theorem dX3_determinant_106 : decode cX3_determinant 106 = .ok (.lreturn, 1) := by decide +kernel
theorem dX3_stands_0 : decode cX3_stands 0 = .ok (.iconst 0, 1) := by decide +kernel
theorem dX3_stands_1 : decode cX3_stands 1 = .ok (.istore_n 2, 1) := by decide +kernel
theorem dX3_stands_2 : decode cX3_stands 2 = .ok (.iload_n 2, 1) := by decide +kernel
theorem dX3_stands_3 : decode cX3_stands 3 = .ok (.iconst 1, 1) := by decide +kernel
theorem dX3_stands_4 : decode cX3_stands 4 = .ok (.aload_n 0, 1) := by decide +kernel
theorem dX3_stands_5 : decode cX3_stands 5 = .ok (.getfield 72, 3) := by decide +kernel
theorem dX3_stands_8 : decode cX3_stands 8 = .ok (.ishl, 1) := by decide +kernel
theorem dX3_stands_9 : decode cX3_stands 9 = .ok (.if_icmp .ge 123, 3) := by decide +kernel
theorem dX3_stands_12 : decode cX3_stands 12 = .ok (.iconst 0, 1) := by decide +kernel
theorem dX3_stands_13 : decode cX3_stands 13 = .ok (.istore_n 3, 1) := by decide +kernel
theorem dX3_stands_14 : decode cX3_stands 14 = .ok (.iconst 0, 1) := by decide +kernel
theorem dX3_stands_15 : decode cX3_stands 15 = .ok (.istore 4, 2) := by decide +kernel
theorem dX3_stands_17 : decode cX3_stands 17 = .ok (.iload 4, 2) := by decide +kernel
theorem dX3_stands_19 : decode cX3_stands 19 = .ok (.aload_n 0, 1) := by decide +kernel
theorem dX3_stands_20 : decode cX3_stands 20 = .ok (.getfield 72, 3) := by decide +kernel
theorem dX3_stands_23 : decode cX3_stands 23 = .ok (.if_icmp .ge 86, 3) := by decide +kernel
theorem dX3_stands_26 : decode cX3_stands 26 = .ok (.iload_n 2, 1) := by decide +kernel
theorem dX3_stands_27 : decode cX3_stands 27 = .ok (.iload 4, 2) := by decide +kernel
theorem dX3_stands_29 : decode cX3_stands 29 = .ok (.ishr, 1) := by decide +kernel
theorem dX3_stands_30 : decode cX3_stands 30 = .ok (.iconst 1, 1) := by decide +kernel
theorem dX3_stands_31 : decode cX3_stands 31 = .ok (.iand, 1) := by decide +kernel
theorem dX3_stands_32 : decode cX3_stands 32 = .ok (.ifCond .ne 6, 3) := by decide +kernel
theorem dX3_stands_35 : decode cX3_stands 35 = .ok (.goto 68, 3) := by decide +kernel
theorem dX3_stands_38 : decode cX3_stands 38 = .ok (.iconst 0, 1) := by decide +kernel
theorem dX3_stands_39 : decode cX3_stands 39 = .ok (.istore 5, 2) := by decide +kernel
theorem dX3_stands_41 : decode cX3_stands 41 = .ok (.iload 5, 2) := by decide +kernel
theorem dX3_stands_43 : decode cX3_stands 43 = .ok (.iload_n 1, 1) := by decide +kernel
theorem dX3_stands_44 : decode cX3_stands 44 = .ok (.if_icmp .ge 43, 3) := by decide +kernel
theorem dX3_stands_47 : decode cX3_stands 47 = .ok (.iload_n 3, 1) := by decide +kernel
theorem dX3_stands_48 : decode cX3_stands 48 = .ok (.iload_n 1, 1) := by decide +kernel
theorem dX3_stands_49 : decode cX3_stands 49 = .ok (.if_icmp .ge 38, 3) := by decide +kernel
theorem dX3_stands_52 : decode cX3_stands 52 = .ok (.aload_n 0, 1) := by decide +kernel
theorem dX3_stands_53 : decode cX3_stands 53 = .ok (.getfield 23, 3) := by decide +kernel
theorem dX3_stands_56 : decode cX3_stands 56 = .ok (.iconst 3, 1) := by decide +kernel
theorem dX3_stands_57 : decode cX3_stands 57 = .ok (.iload_n 3, 1) := by decide +kernel
theorem dX3_stands_58 : decode cX3_stands 58 = .ok (.imul, 1) := by decide +kernel
theorem dX3_stands_59 : decode cX3_stands 59 = .ok (.iload 5, 2) := by decide +kernel
theorem dX3_stands_61 : decode cX3_stands 61 = .ok (.iadd, 1) := by decide +kernel
theorem dX3_stands_62 : decode cX3_stands 62 = .ok (.aload_n 0, 1) := by decide +kernel
theorem dX3_stands_63 : decode cX3_stands 63 = .ok (.getfield 7, 3) := by decide +kernel
theorem dX3_stands_66 : decode cX3_stands 66 = .ok (.iconst 4, 1) := by decide +kernel
theorem dX3_stands_67 : decode cX3_stands 67 = .ok (.iload 4, 2) := by decide +kernel
theorem dX3_stands_69 : decode cX3_stands 69 = .ok (.imul, 1) := by decide +kernel
theorem dX3_stands_70 : decode cX3_stands 70 = .ok (.aload_n 0, 1) := by decide +kernel
theorem dX3_stands_71 : decode cX3_stands 71 = .ok (.getfield 13, 3) := by decide +kernel
theorem dX3_stands_74 : decode cX3_stands 74 = .ok (.iload 5, 2) := by decide +kernel
theorem dX3_stands_76 : decode cX3_stands 76 = .ok (.iaload, 1) := by decide +kernel
theorem dX3_stands_77 : decode cX3_stands 77 = .ok (.iadd, 1) := by decide +kernel
theorem dX3_stands_78 : decode cX3_stands 78 = .ok (.iaload, 1) := by decide +kernel
theorem dX3_stands_79 : decode cX3_stands 79 = .ok (.i2l, 1) := by decide +kernel
theorem dX3_stands_80 : decode cX3_stands 80 = .ok (.lastore, 1) := by decide +kernel
theorem dX3_stands_81 : decode cX3_stands 81 = .ok (.iinc 5 1, 3) := by decide +kernel
theorem dX3_stands_84 : decode cX3_stands 84 = .ok (.goto (-43), 3) := by decide +kernel
theorem dX3_stands_87 : decode cX3_stands 87 = .ok (.iload_n 3, 1) := by decide +kernel
theorem dX3_stands_88 : decode cX3_stands 88 = .ok (.iconst 3, 1) := by decide +kernel
theorem dX3_stands_89 : decode cX3_stands 89 = .ok (.if_icmp .ge 11, 3) := by decide +kernel
theorem dX3_stands_92 : decode cX3_stands 92 = .ok (.aload_n 0, 1) := by decide +kernel
theorem dX3_stands_93 : decode cX3_stands 93 = .ok (.getfield 16, 3) := by decide +kernel
theorem dX3_stands_96 : decode cX3_stands 96 = .ok (.iload_n 3, 1) := by decide +kernel
theorem dX3_stands_97 : decode cX3_stands 97 = .ok (.iload 4, 2) := by decide +kernel
theorem dX3_stands_99 : decode cX3_stands 99 = .ok (.iastore, 1) := by decide +kernel
theorem dX3_stands_100 : decode cX3_stands 100 = .ok (.iinc 3 1, 3) := by decide +kernel
theorem dX3_stands_103 : decode cX3_stands 103 = .ok (.iinc 4 1, 3) := by decide +kernel
theorem dX3_stands_106 : decode cX3_stands 106 = .ok (.goto (-89), 3) := by decide +kernel
theorem dX3_stands_109 : decode cX3_stands 109 = .ok (.iload_n 3, 1) := by decide +kernel
theorem dX3_stands_110 : decode cX3_stands 110 = .ok (.iload_n 1, 1) := by decide +kernel
theorem dX3_stands_111 : decode cX3_stands 111 = .ok (.if_icmp .ne 15, 3) := by decide +kernel
theorem dX3_stands_114 : decode cX3_stands 114 = .ok (.aload_n 0, 1) := by decide +kernel
theorem dX3_stands_115 : decode cX3_stands 115 = .ok (.iload_n 1, 1) := by decide +kernel
theorem dX3_stands_116 : decode cX3_stands 116 = .ok (.invokevirtual 91, 3) := by decide +kernel
theorem dX3_stands_119 : decode cX3_stands 119 = .ok (.lconst 0, 1) := by decide +kernel
theorem dX3_stands_120 : decode cX3_stands 120 = .ok (.lcmp, 1) := by decide +kernel
theorem dX3_stands_121 : decode cX3_stands 121 = .ok (.ifCond .eq 5, 3) := by decide +kernel
theorem dX3_stands_124 : decode cX3_stands 124 = .ok (.iconst 1, 1) := by decide +kernel
theorem dX3_stands_125 : decode cX3_stands 125 = .ok (.ireturn, 1) := by decide +kernel
theorem dX3_stands_126 : decode cX3_stands 126 = .ok (.iinc 2 1, 3) := by decide +kernel
theorem dX3_stands_129 : decode cX3_stands 129 = .ok (.goto (-127), 3) := by decide +kernel
theorem dX3_stands_132 : decode cX3_stands 132 = .ok (.iconst 0, 1) := by decide +kernel
theorem dX3_stands_133 : decode cX3_stands 133 = .ok (.ireturn, 1) := by decide +kernel
theorem dX3_look_0 : decode cX3_look 0 = .ok (.aload_n 0, 1) := by decide +kernel
theorem dX3_look_1 : decode cX3_look 1 = .ok (.iconst 0, 1) := by decide +kernel
theorem dX3_look_2 : decode cX3_look 2 = .ok (.putfield 95, 3) := by decide +kernel
theorem dX3_look_5 : decode cX3_look 5 = .ok (.iconst 0, 1) := by decide +kernel
theorem dX3_look_6 : decode cX3_look 6 = .ok (.istore_n 1, 1) := by decide +kernel
theorem dX3_look_7 : decode cX3_look 7 = .ok (.iload_n 1, 1) := by decide +kernel
theorem dX3_look_8 : decode cX3_look 8 = .ok (.aload_n 0, 1) := by decide +kernel
theorem dX3_look_9 : decode cX3_look 9 = .ok (.getfield 54, 3) := by decide +kernel
theorem dX3_look_12 : decode cX3_look 12 = .ok (.if_icmp .ge 73, 3) := by decide +kernel
theorem dX3_look_15 : decode cX3_look 15 = .ok (.aload_n 0, 1) := by decide +kernel
theorem dX3_look_16 : decode cX3_look 16 = .ok (.getfield 13, 3) := by decide +kernel
theorem dX3_look_19 : decode cX3_look 19 = .ok (.aload_n 0, 1) := by decide +kernel
theorem dX3_look_20 : decode cX3_look 20 = .ok (.getfield 95, 3) := by decide +kernel
theorem dX3_look_23 : decode cX3_look 23 = .ok (.iload_n 1, 1) := by decide +kernel
theorem dX3_look_24 : decode cX3_look 24 = .ok (.iastore, 1) := by decide +kernel
theorem dX3_look_25 : decode cX3_look 25 = .ok (.aload_n 0, 1) := by decide +kernel
theorem dX3_look_26 : decode cX3_look 26 = .ok (.getfield 19, 3) := by decide +kernel
theorem dX3_look_29 : decode cX3_look 29 = .ok (.iload_n 1, 1) := by decide +kernel
theorem dX3_look_30 : decode cX3_look 30 = .ok (.aload_n 0, 1) := by decide +kernel
theorem dX3_look_31 : decode cX3_look 31 = .ok (.getfield 95, 3) := by decide +kernel
theorem dX3_look_34 : decode cX3_look 34 = .ok (.aload_n 0, 1) := by decide +kernel
theorem dX3_look_35 : decode cX3_look 35 = .ok (.getfield 72, 3) := by decide +kernel
theorem dX3_look_38 : decode cX3_look 38 = .ok (.if_icmp .eq 16, 3) := by decide +kernel
theorem dX3_look_41 : decode cX3_look 41 = .ok (.aload_n 0, 1) := by decide +kernel
theorem dX3_look_42 : decode cX3_look 42 = .ok (.aload_n 0, 1) := by decide +kernel
theorem dX3_look_43 : decode cX3_look 43 = .ok (.getfield 95, 3) := by decide +kernel
theorem dX3_look_46 : decode cX3_look 46 = .ok (.iconst 1, 1) := by decide +kernel
theorem dX3_look_47 : decode cX3_look 47 = .ok (.iadd, 1) := by decide +kernel
theorem dX3_look_48 : decode cX3_look 48 = .ok (.invokevirtual 98, 3) := by decide +kernel
theorem dX3_look_51 : decode cX3_look 51 = .ok (.ifCond .ne 7, 3) := by decide +kernel
theorem dX3_look_54 : decode cX3_look 54 = .ok (.iconst 1, 1) := by decide +kernel
theorem dX3_look_55 : decode cX3_look 55 = .ok (.goto 4, 3) := by decide +kernel
theorem dX3_look_58 : decode cX3_look 58 = .ok (.iconst 0, 1) := by decide +kernel
theorem dX3_look_59 : decode cX3_look 59 = .ok (.bastore, 1) := by decide +kernel
theorem dX3_look_60 : decode cX3_look 60 = .ok (.aload_n 0, 1) := by decide +kernel
theorem dX3_look_61 : decode cX3_look 61 = .ok (.getfield 19, 3) := by decide +kernel
theorem dX3_look_64 : decode cX3_look 64 = .ok (.iload_n 1, 1) := by decide +kernel
theorem dX3_look_65 : decode cX3_look 65 = .ok (.baload, 1) := by decide +kernel
theorem dX3_look_66 : decode cX3_look 66 = .ok (.ifCond .ne 13, 3) := by decide +kernel
theorem dX3_look_69 : decode cX3_look 69 = .ok (.aload_n 0, 1) := by decide +kernel
theorem dX3_look_70 : decode cX3_look 70 = .ok (.dup, 1) := by decide +kernel
theorem dX3_look_71 : decode cX3_look 71 = .ok (.getfield 95, 3) := by decide +kernel
theorem dX3_look_74 : decode cX3_look 74 = .ok (.iconst 1, 1) := by decide +kernel
theorem dX3_look_75 : decode cX3_look 75 = .ok (.iadd, 1) := by decide +kernel
theorem dX3_look_76 : decode cX3_look 76 = .ok (.putfield 95, 3) := by decide +kernel
theorem dX3_look_79 : decode cX3_look 79 = .ok (.iinc 1 1, 3) := by decide +kernel
theorem dX3_look_82 : decode cX3_look 82 = .ok (.goto (-75), 3) := by decide +kernel
theorem dX3_look_85 : decode cX3_look 85 = .ok (.aload_n 0, 1) := by decide +kernel
theorem dX3_look_86 : decode cX3_look 86 = .ok (.aload_n 0, 1) := by decide +kernel
theorem dX3_look_87 : decode cX3_look 87 = .ok (.getfield 95, 3) := by decide +kernel
theorem dX3_look_90 : decode cX3_look 90 = .ok (.invokevirtual 98, 3) := by decide +kernel
theorem dX3_look_93 : decode cX3_look 93 = .ok (.pop, 1) := by decide +kernel
theorem dX3_look_94 : decode cX3_look 94 = .ok (.return_, 1) := by decide +kernel
theorem dX3_solve_0 : decode cX3_solve 0 = .ok (.iconst 0, 1) := by decide +kernel
theorem dX3_solve_1 : decode cX3_solve 1 = .ok (.istore_n 1, 1) := by decide +kernel
theorem dX3_solve_2 : decode cX3_solve 2 = .ok (.iload_n 1, 1) := by decide +kernel
theorem dX3_solve_3 : decode cX3_solve 3 = .ok (.aload_n 0, 1) := by decide +kernel
theorem dX3_solve_4 : decode cX3_solve 4 = .ok (.getfield 95, 3) := by decide +kernel
theorem dX3_solve_7 : decode cX3_solve 7 = .ok (.if_icmp .ge 56, 3) := by decide +kernel
theorem dX3_solve_10 : decode cX3_solve 10 = .ok (.iconst 0, 1) := by decide +kernel
theorem dX3_solve_11 : decode cX3_solve 11 = .ok (.istore_n 2, 1) := by decide +kernel
theorem dX3_solve_12 : decode cX3_solve 12 = .ok (.iload_n 2, 1) := by decide +kernel
theorem dX3_solve_13 : decode cX3_solve 13 = .ok (.aload_n 0, 1) := by decide +kernel
theorem dX3_solve_14 : decode cX3_solve 14 = .ok (.getfield 95, 3) := by decide +kernel
theorem dX3_solve_17 : decode cX3_solve 17 = .ok (.if_icmp .ge 40, 3) := by decide +kernel
theorem dX3_solve_20 : decode cX3_solve 20 = .ok (.aload_n 0, 1) := by decide +kernel
theorem dX3_solve_21 : decode cX3_solve 21 = .ok (.getfield 23, 3) := by decide +kernel
theorem dX3_solve_24 : decode cX3_solve 24 = .ok (.iconst 3, 1) := by decide +kernel
theorem dX3_solve_25 : decode cX3_solve 25 = .ok (.iload_n 1, 1) := by decide +kernel
theorem dX3_solve_26 : decode cX3_solve 26 = .ok (.imul, 1) := by decide +kernel
theorem dX3_solve_27 : decode cX3_solve 27 = .ok (.iload_n 2, 1) := by decide +kernel
theorem dX3_solve_28 : decode cX3_solve 28 = .ok (.iadd, 1) := by decide +kernel
theorem dX3_solve_29 : decode cX3_solve 29 = .ok (.aload_n 0, 1) := by decide +kernel
theorem dX3_solve_30 : decode cX3_solve 30 = .ok (.getfield 7, 3) := by decide +kernel
theorem dX3_solve_33 : decode cX3_solve 33 = .ok (.iconst 4, 1) := by decide +kernel
theorem dX3_solve_34 : decode cX3_solve 34 = .ok (.aload_n 0, 1) := by decide +kernel
theorem dX3_solve_35 : decode cX3_solve 35 = .ok (.getfield 16, 3) := by decide +kernel
theorem dX3_solve_38 : decode cX3_solve 38 = .ok (.iload_n 1, 1) := by decide +kernel
theorem dX3_solve_39 : decode cX3_solve 39 = .ok (.iaload, 1) := by decide +kernel
theorem dX3_solve_40 : decode cX3_solve 40 = .ok (.imul, 1) := by decide +kernel
theorem dX3_solve_41 : decode cX3_solve 41 = .ok (.aload_n 0, 1) := by decide +kernel
theorem dX3_solve_42 : decode cX3_solve 42 = .ok (.getfield 13, 3) := by decide +kernel
theorem dX3_solve_45 : decode cX3_solve 45 = .ok (.iload_n 2, 1) := by decide +kernel
theorem dX3_solve_46 : decode cX3_solve 46 = .ok (.iaload, 1) := by decide +kernel
theorem dX3_solve_47 : decode cX3_solve 47 = .ok (.iadd, 1) := by decide +kernel
theorem dX3_solve_48 : decode cX3_solve 48 = .ok (.iaload, 1) := by decide +kernel
theorem dX3_solve_49 : decode cX3_solve 49 = .ok (.i2l, 1) := by decide +kernel
theorem dX3_solve_50 : decode cX3_solve 50 = .ok (.lastore, 1) := by decide +kernel
theorem dX3_solve_51 : decode cX3_solve 51 = .ok (.iinc 2 1, 3) := by decide +kernel
theorem dX3_solve_54 : decode cX3_solve 54 = .ok (.goto (-42), 3) := by decide +kernel
theorem dX3_solve_57 : decode cX3_solve 57 = .ok (.iinc 1 1, 3) := by decide +kernel
theorem dX3_solve_60 : decode cX3_solve 60 = .ok (.goto (-58), 3) := by decide +kernel
theorem dX3_solve_63 : decode cX3_solve 63 = .ok (.aload_n 0, 1) := by decide +kernel
theorem dX3_solve_64 : decode cX3_solve 64 = .ok (.aload_n 0, 1) := by decide +kernel
theorem dX3_solve_65 : decode cX3_solve 65 = .ok (.getfield 95, 3) := by decide +kernel
theorem dX3_solve_68 : decode cX3_solve 68 = .ok (.invokevirtual 102, 3) := by decide +kernel
theorem dX3_solve_71 : decode cX3_solve 71 = .ok (.return_, 1) := by decide +kernel
theorem dX3_solveSquare_0 : decode cX3_solveSquare 0 = .ok (.aload_n 0, 1) := by decide +kernel
theorem dX3_solveSquare_1 : decode cX3_solveSquare 1 = .ok (.aload_n 0, 1) := by decide +kernel
theorem dX3_solveSquare_2 : decode cX3_solveSquare 2 = .ok (.iload_n 1, 1) := by decide +kernel
theorem dX3_solveSquare_3 : decode cX3_solveSquare 3 = .ok (.invokevirtual 91, 3) := by decide +kernel
theorem dX3_solveSquare_6 : decode cX3_solveSquare 6 = .ok (.putfield 106, 3) := by decide +kernel
theorem dX3_solveSquare_9 : decode cX3_solveSquare 9 = .ok (.iconst 0, 1) := by decide +kernel
theorem dX3_solveSquare_10 : decode cX3_solveSquare 10 = .ok (.istore_n 2, 1) := by decide +kernel
theorem dX3_solveSquare_11 : decode cX3_solveSquare 11 = .ok (.iload_n 2, 1) := by decide +kernel
theorem dX3_solveSquare_12 : decode cX3_solveSquare 12 = .ok (.iload_n 1, 1) := by decide +kernel
theorem dX3_solveSquare_13 : decode cX3_solveSquare 13 = .ok (.if_icmp .ge 94, 3) := by decide +kernel
theorem dX3_solveSquare_16 : decode cX3_solveSquare 16 = .ok (.iconst 0, 1) := by decide +kernel
theorem dX3_solveSquare_17 : decode cX3_solveSquare 17 = .ok (.istore_n 3, 1) := by decide +kernel
theorem dX3_solveSquare_18 : decode cX3_solveSquare 18 = .ok (.iload_n 3, 1) := by decide +kernel
theorem dX3_solveSquare_19 : decode cX3_solveSquare 19 = .ok (.iload_n 1, 1) := by decide +kernel
theorem dX3_solveSquare_20 : decode cX3_solveSquare 20 = .ok (.if_icmp .ge 41, 3) := by decide +kernel
theorem dX3_solveSquare_23 : decode cX3_solveSquare 23 = .ok (.aload_n 0, 1) := by decide +kernel
theorem dX3_solveSquare_24 : decode cX3_solveSquare 24 = .ok (.getfield 33, 3) := by decide +kernel
theorem dX3_solveSquare_27 : decode cX3_solveSquare 27 = .ok (.iload_n 3, 1) := by decide +kernel
theorem dX3_solveSquare_28 : decode cX3_solveSquare 28 = .ok (.aload_n 0, 1) := by decide +kernel
theorem dX3_solveSquare_29 : decode cX3_solveSquare 29 = .ok (.getfield 23, 3) := by decide +kernel
theorem dX3_solveSquare_32 : decode cX3_solveSquare 32 = .ok (.iconst 3, 1) := by decide +kernel
theorem dX3_solveSquare_33 : decode cX3_solveSquare 33 = .ok (.iload_n 3, 1) := by decide +kernel
theorem dX3_solveSquare_34 : decode cX3_solveSquare 34 = .ok (.imul, 1) := by decide +kernel
theorem dX3_solveSquare_35 : decode cX3_solveSquare 35 = .ok (.iload_n 2, 1) := by decide +kernel
theorem dX3_solveSquare_36 : decode cX3_solveSquare 36 = .ok (.iadd, 1) := by decide +kernel
theorem dX3_solveSquare_37 : decode cX3_solveSquare 37 = .ok (.laload, 1) := by decide +kernel
theorem dX3_solveSquare_38 : decode cX3_solveSquare 38 = .ok (.lastore, 1) := by decide +kernel
theorem dX3_solveSquare_39 : decode cX3_solveSquare 39 = .ok (.aload_n 0, 1) := by decide +kernel
theorem dX3_solveSquare_40 : decode cX3_solveSquare 40 = .ok (.getfield 23, 3) := by decide +kernel
theorem dX3_solveSquare_43 : decode cX3_solveSquare 43 = .ok (.iconst 3, 1) := by decide +kernel
theorem dX3_solveSquare_44 : decode cX3_solveSquare 44 = .ok (.iload_n 3, 1) := by decide +kernel
theorem dX3_solveSquare_45 : decode cX3_solveSquare 45 = .ok (.imul, 1) := by decide +kernel
theorem dX3_solveSquare_46 : decode cX3_solveSquare 46 = .ok (.iload_n 2, 1) := by decide +kernel
theorem dX3_solveSquare_47 : decode cX3_solveSquare 47 = .ok (.iadd, 1) := by decide +kernel
theorem dX3_solveSquare_48 : decode cX3_solveSquare 48 = .ok (.aload_n 0, 1) := by decide +kernel
theorem dX3_solveSquare_49 : decode cX3_solveSquare 49 = .ok (.getfield 27, 3) := by decide +kernel
theorem dX3_solveSquare_52 : decode cX3_solveSquare 52 = .ok (.iload_n 3, 1) := by decide +kernel
theorem dX3_solveSquare_53 : decode cX3_solveSquare 53 = .ok (.laload, 1) := by decide +kernel
theorem dX3_solveSquare_54 : decode cX3_solveSquare 54 = .ok (.lastore, 1) := by decide +kernel
theorem dX3_solveSquare_55 : decode cX3_solveSquare 55 = .ok (.iinc 3 1, 3) := by decide +kernel
theorem dX3_solveSquare_58 : decode cX3_solveSquare 58 = .ok (.goto (-40), 3) := by decide +kernel
theorem dX3_solveSquare_61 : decode cX3_solveSquare 61 = .ok (.aload_n 0, 1) := by decide +kernel
theorem dX3_solveSquare_62 : decode cX3_solveSquare 62 = .ok (.getfield 30, 3) := by decide +kernel
theorem dX3_solveSquare_65 : decode cX3_solveSquare 65 = .ok (.iload_n 2, 1) := by decide +kernel
theorem dX3_solveSquare_66 : decode cX3_solveSquare 66 = .ok (.aload_n 0, 1) := by decide +kernel
theorem dX3_solveSquare_67 : decode cX3_solveSquare 67 = .ok (.iload_n 1, 1) := by decide +kernel
theorem dX3_solveSquare_68 : decode cX3_solveSquare 68 = .ok (.invokevirtual 91, 3) := by decide +kernel
theorem dX3_solveSquare_71 : decode cX3_solveSquare 71 = .ok (.lastore, 1) := by decide +kernel
theorem dX3_solveSquare_72 : decode cX3_solveSquare 72 = .ok (.iconst 0, 1) := by decide +kernel
theorem dX3_solveSquare_73 : decode cX3_solveSquare 73 = .ok (.istore_n 3, 1) := by decide +kernel
theorem dX3_solveSquare_74 : decode cX3_solveSquare 74 = .ok (.iload_n 3, 1) := by decide +kernel
theorem dX3_solveSquare_75 : decode cX3_solveSquare 75 = .ok (.iload_n 1, 1) := by decide +kernel
theorem dX3_solveSquare_76 : decode cX3_solveSquare 76 = .ok (.if_icmp .ge 25, 3) := by decide +kernel
theorem dX3_solveSquare_79 : decode cX3_solveSquare 79 = .ok (.aload_n 0, 1) := by decide +kernel
theorem dX3_solveSquare_80 : decode cX3_solveSquare 80 = .ok (.getfield 23, 3) := by decide +kernel
theorem dX3_solveSquare_83 : decode cX3_solveSquare 83 = .ok (.iconst 3, 1) := by decide +kernel
theorem dX3_solveSquare_84 : decode cX3_solveSquare 84 = .ok (.iload_n 3, 1) := by decide +kernel
theorem dX3_solveSquare_85 : decode cX3_solveSquare 85 = .ok (.imul, 1) := by decide +kernel
theorem dX3_solveSquare_86 : decode cX3_solveSquare 86 = .ok (.iload_n 2, 1) := by decide +kernel
theorem dX3_solveSquare_87 : decode cX3_solveSquare 87 = .ok (.iadd, 1) := by decide +kernel
theorem dX3_solveSquare_88 : decode cX3_solveSquare 88 = .ok (.aload_n 0, 1) := by decide +kernel
theorem dX3_solveSquare_89 : decode cX3_solveSquare 89 = .ok (.getfield 33, 3) := by decide +kernel
theorem dX3_solveSquare_92 : decode cX3_solveSquare 92 = .ok (.iload_n 3, 1) := by decide +kernel
theorem dX3_solveSquare_93 : decode cX3_solveSquare 93 = .ok (.laload, 1) := by decide +kernel
theorem dX3_solveSquare_94 : decode cX3_solveSquare 94 = .ok (.lastore, 1) := by decide +kernel
theorem dX3_solveSquare_95 : decode cX3_solveSquare 95 = .ok (.iinc 3 1, 3) := by decide +kernel
theorem dX3_solveSquare_98 : decode cX3_solveSquare 98 = .ok (.goto (-24), 3) := by decide +kernel
theorem dX3_solveSquare_101 : decode cX3_solveSquare 101 = .ok (.iinc 2 1, 3) := by decide +kernel
theorem dX3_solveSquare_104 : decode cX3_solveSquare 104 = .ok (.goto (-93), 3) := by decide +kernel
theorem dX3_solveSquare_107 : decode cX3_solveSquare 107 = .ok (.return_, 1) := by decide +kernel
theorem dX3_rank_0 : decode cX3_rank 0 = .ok (.aload_n 0, 1) := by decide +kernel
theorem dX3_rank_1 : decode cX3_rank 1 = .ok (.iconst 0, 1) := by decide +kernel
theorem dX3_rank_2 : decode cX3_rank 2 = .ok (.putfield 58, 3) := by decide +kernel
theorem dX3_rank_5 : decode cX3_rank 5 = .ok (.aload_n 0, 1) := by decide +kernel
theorem dX3_rank_6 : decode cX3_rank 6 = .ok (.invokevirtual 109, 3) := by decide +kernel
theorem dX3_rank_9 : decode cX3_rank 9 = .ok (.aload_n 0, 1) := by decide +kernel
theorem dX3_rank_10 : decode cX3_rank 10 = .ok (.getfield 95, 3) := by decide +kernel
theorem dX3_rank_13 : decode cX3_rank 13 = .ok (.ireturn, 1) := by decide +kernel
theorem dX3_findPlain_0 : decode cX3_findPlain 0 = .ok (.aload_n 0, 1) := by decide +kernel
theorem dX3_findPlain_1 : decode cX3_findPlain 1 = .ok (.invokevirtual 109, 3) := by decide +kernel
theorem dX3_findPlain_4 : decode cX3_findPlain 4 = .ok (.iconst 0, 1) := by decide +kernel
theorem dX3_findPlain_5 : decode cX3_findPlain 5 = .ok (.istore_n 1, 1) := by decide +kernel
theorem dX3_findPlain_6 : decode cX3_findPlain 6 = .ok (.iload_n 1, 1) := by decide +kernel
theorem dX3_findPlain_7 : decode cX3_findPlain 7 = .ok (.aload_n 0, 1) := by decide +kernel
theorem dX3_findPlain_8 : decode cX3_findPlain 8 = .ok (.getfield 95, 3) := by decide +kernel
theorem dX3_findPlain_11 : decode cX3_findPlain 11 = .ok (.if_icmp .ge 31, 3) := by decide +kernel
theorem dX3_findPlain_14 : decode cX3_findPlain 14 = .ok (.aload_n 0, 1) := by decide +kernel
theorem dX3_findPlain_15 : decode cX3_findPlain 15 = .ok (.getfield 27, 3) := by decide +kernel
theorem dX3_findPlain_18 : decode cX3_findPlain 18 = .ok (.iload_n 1, 1) := by decide +kernel
theorem dX3_findPlain_19 : decode cX3_findPlain 19 = .ok (.aload_n 0, 1) := by decide +kernel
theorem dX3_findPlain_20 : decode cX3_findPlain 20 = .ok (.getfield 7, 3) := by decide +kernel
theorem dX3_findPlain_23 : decode cX3_findPlain 23 = .ok (.iconst 4, 1) := by decide +kernel
theorem dX3_findPlain_24 : decode cX3_findPlain 24 = .ok (.aload_n 0, 1) := by decide +kernel
theorem dX3_findPlain_25 : decode cX3_findPlain 25 = .ok (.getfield 16, 3) := by decide +kernel
theorem dX3_findPlain_28 : decode cX3_findPlain 28 = .ok (.iload_n 1, 1) := by decide +kernel
theorem dX3_findPlain_29 : decode cX3_findPlain 29 = .ok (.iaload, 1) := by decide +kernel
theorem dX3_findPlain_30 : decode cX3_findPlain 30 = .ok (.imul, 1) := by decide +kernel
