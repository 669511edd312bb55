/-! decode rows of X1 -/
theorem dX1_init_0 : decode cX1_init 0 = .ok (.aload_n 0, 1) := by decide +kernel
theorem dX1_init_1 : decode cX1_init 1 = .ok (.invokespecial 3, 3) := by decide +kernel
theorem dX1_init_4 : decode cX1_init 4 = .ok (.aload_n 0, 1) := by decide +kernel
theorem dX1_init_5 : decode cX1_init 5 = .ok (.iconst 3, 1) := by decide +kernel
theorem dX1_init_6 : decode cX1_init 6 = .ok (.bipush 6, 2) := by decide +kernel
theorem dX1_init_8 : decode cX1_init 8 = .ok (.multianewarray 11 2, 4) := by decide +kernel
theorem dX1_init_12 : decode cX1_init 12 = .ok (.putfield 13, 3) := by decide +kernel
theorem dX1_init_15 : decode cX1_init 15 = .ok (.aload_n 0, 1) := by decide +kernel
theorem dX1_init_16 : decode cX1_init 16 = .ok (.iconst 3, 1) := by decide +kernel
theorem dX1_init_17 : decode cX1_init 17 = .ok (.newarray .int, 2) := by decide +kernel
theorem dX1_init_19 : decode cX1_init 19 = .ok (.putfield 16, 3) := by decide +kernel
theorem dX1_init_22 : decode cX1_init 22 = .ok (.aload_n 0, 1) := by decide +kernel
theorem dX1_init_23 : decode cX1_init 23 = .ok (.bipush 6, 2) := by decide +kernel
theorem dX1_init_25 : decode cX1_init 25 = .ok (.newarray .long, 2) := by decide +kernel
theorem dX1_init_27 : decode cX1_init 27 = .ok (.putfield 20, 3) := by decide +kernel
theorem dX1_init_30 : decode cX1_init 30 = .ok (.aload_n 0, 1) := by decide +kernel
theorem dX1_init_31 : decode cX1_init 31 = .ok (.iconst 0, 1) := by decide +kernel
theorem dX1_init_32 : decode cX1_init 32 = .ok (.putfield 24, 3) := by decide +kernel
theorem dX1_init_35 : decode cX1_init 35 = .ok (.return_, 1) := by decide +kernel
theorem dX1_begin_0 : decode cX1_begin 0 = .ok (.aload_n 0, 1) := by decide +kernel
theorem dX1_begin_1 : decode cX1_begin 1 = .ok (.iconst 0, 1) := by decide +kernel
theorem dX1_begin_2 : decode cX1_begin 2 = .ok (.iconst 3, 1) := by decide +kernel
theorem dX1_begin_3 : decode cX1_begin 3 = .ok (.iload_n 1, 1) := by decide +kernel
theorem dX1_begin_4 : decode cX1_begin 4 = .ok (.invokestatic 28, 3) := by decide +kernel
theorem dX1_begin_7 : decode cX1_begin 7 = .ok (.invokestatic 34, 3) := by decide +kernel
theorem dX1_begin_10 : decode cX1_begin 10 = .ok (.putfield 24, 3) := by decide +kernel
theorem dX1_begin_13 : decode cX1_begin 13 = .ok (.iconst 0, 1) := by decide +kernel
theorem dX1_begin_14 : decode cX1_begin 14 = .ok (.istore_n 2, 1) := by decide +kernel
theorem dX1_begin_15 : decode cX1_begin 15 = .ok (.iload_n 2, 1) := by decide +kernel
theorem dX1_begin_16 : decode cX1_begin 16 = .ok (.bipush 6, 2) := by decide +kernel
theorem dX1_begin_18 : decode cX1_begin 18 = .ok (.if_icmp .ge 52, 3) := by decide +kernel
theorem dX1_begin_21 : decode cX1_begin 21 = .ok (.aload_n 0, 1) := by decide +kernel
theorem dX1_begin_22 : decode cX1_begin 22 = .ok (.getfield 20, 3) := by decide +kernel
theorem dX1_begin_25 : decode cX1_begin 25 = .ok (.iload_n 2, 1) := by decide +kernel
theorem dX1_begin_26 : decode cX1_begin 26 = .ok (.lconst 0, 1) := by decide +kernel
theorem dX1_begin_27 : decode cX1_begin 27 = .ok (.lastore, 1) := by decide +kernel
theorem dX1_begin_28 : decode cX1_begin 28 = .ok (.iconst 0, 1) := by decide +kernel
theorem dX1_begin_29 : decode cX1_begin 29 = .ok (.istore_n 3, 1) := by decide +kernel
theorem dX1_begin_30 : decode cX1_begin 30 = .ok (.iload_n 3, 1) := by decide +kernel
theorem dX1_begin_31 : decode cX1_begin 31 = .ok (.aload_n 0, 1) := by decide +kernel
theorem dX1_begin_32 : decode cX1_begin 32 = .ok (.getfield 24, 3) := by decide +kernel
theorem dX1_begin_35 : decode cX1_begin 35 = .ok (.if_icmp .ge 29, 3) := by decide +kernel
theorem dX1_begin_38 : decode cX1_begin 38 = .ok (.aload_n 0, 1) := by decide +kernel
theorem dX1_begin_39 : decode cX1_begin 39 = .ok (.getfield 13, 3) := by decide +kernel
theorem dX1_begin_42 : decode cX1_begin 42 = .ok (.iload_n 3, 1) := by decide +kernel
theorem dX1_begin_43 : decode cX1_begin 43 = .ok (.aaload, 1) := by decide +kernel
theorem dX1_begin_44 : decode cX1_begin 44 = .ok (.iload_n 2, 1) := by decide +kernel
theorem dX1_begin_45 : decode cX1_begin 45 = .ok (.iload_n 2, 1) := by decide +kernel
theorem dX1_begin_46 : decode cX1_begin 46 = .ok (.iconst 3, 1) := by decide +kernel
theorem dX1_begin_47 : decode cX1_begin 47 = .ok (.iload_n 3, 1) := by decide +kernel
theorem dX1_begin_48 : decode cX1_begin 48 = .ok (.iadd, 1) := by decide +kernel
theorem dX1_begin_49 : decode cX1_begin 49 = .ok (.if_icmp .ne 7, 3) := by decide +kernel
theorem dX1_begin_52 : decode cX1_begin 52 = .ok (.lconst 1, 1) := by decide +kernel
theorem dX1_begin_53 : decode cX1_begin 53 = .ok (.goto 4, 3) := by decide +kernel
theorem dX1_begin_56 : decode cX1_begin 56 = .ok (.lconst 0, 1) := by decide +kernel
theorem dX1_begin_57 : decode cX1_begin 57 = .ok (.lastore, 1) := by decide +kernel
theorem dX1_begin_58 : decode cX1_begin 58 = .ok (.iinc 3 1, 3) := by decide +kernel
theorem dX1_begin_61 : decode cX1_begin 61 = .ok (.goto (-31), 3) := by decide +kernel
theorem dX1_begin_64 : decode cX1_begin 64 = .ok (.iinc 2 1, 3) := by decide +kernel
theorem dX1_begin_67 : decode cX1_begin 67 = .ok (.goto (-52), 3) := by decide +kernel
theorem dX1_begin_70 : decode cX1_begin 70 = .ok (.return_, 1) := by decide +kernel
theorem dX1_span_0 : decode cX1_span 0 = .ok (.iconst 0, 1) := by decide +kernel
theorem dX1_span_1 : decode cX1_span 1 = .ok (.istore_n 1, 1) := by decide +kernel
theorem dX1_span_2 : decode cX1_span 2 = .ok (.iconst 0, 1) := by decide +kernel
theorem dX1_span_3 : decode cX1_span 3 = .ok (.istore_n 2, 1) := by decide +kernel
theorem dX1_span_4 : decode cX1_span 4 = .ok (.iload_n 2, 1) := by decide +kernel
theorem dX1_span_5 : decode cX1_span 5 = .ok (.bipush 6, 2) := by decide +kernel
theorem dX1_span_7 : decode cX1_span 7 = .ok (.if_icmp .ge 70, 3) := by decide +kernel
theorem dX1_span_10 : decode cX1_span 10 = .ok (.iload_n 1, 1) := by decide +kernel
theorem dX1_span_11 : decode cX1_span 11 = .ok (.aload_n 0, 1) := by decide +kernel
theorem dX1_span_12 : decode cX1_span 12 = .ok (.getfield 24, 3) := by decide +kernel
theorem dX1_span_15 : decode cX1_span 15 = .ok (.if_icmp .ge 62, 3) := by decide +kernel
theorem dX1_span_18 : decode cX1_span 18 = .ok (.aload_n 0, 1) := by decide +kernel
theorem dX1_span_19 : decode cX1_span 19 = .ok (.iload_n 1, 1) := by decide +kernel
theorem dX1_span_20 : decode cX1_span 20 = .ok (.iload_n 2, 1) := by decide +kernel
theorem dX1_span_21 : decode cX1_span 21 = .ok (.invokevirtual 37, 3) := by decide +kernel
theorem dX1_span_24 : decode cX1_span 24 = .ok (.aload_n 0, 1) := by decide +kernel
theorem dX1_span_25 : decode cX1_span 25 = .ok (.getfield 13, 3) := by decide +kernel
theorem dX1_span_28 : decode cX1_span 28 = .ok (.iload_n 1, 1) := by decide +kernel
theorem dX1_span_29 : decode cX1_span 29 = .ok (.aaload, 1) := by decide +kernel
theorem dX1_span_30 : decode cX1_span 30 = .ok (.iload_n 2, 1) := by decide +kernel
theorem dX1_span_31 : decode cX1_span 31 = .ok (.laload, 1) := by decide +kernel
theorem dX1_span_32 : decode cX1_span 32 = .ok (.lconst 0, 1) := by decide +kernel
theorem dX1_span_33 : decode cX1_span 33 = .ok (.lcmp, 1) := by decide +kernel
theorem dX1_span_34 : decode cX1_span 34 = .ok (.ifCond .eq 37, 3) := by decide +kernel
theorem dX1_span_37 : decode cX1_span 37 = .ok (.aload_n 0, 1) := by decide +kernel
theorem dX1_span_38 : decode cX1_span 38 = .ok (.getfield 16, 3) := by decide +kernel
theorem dX1_span_41 : decode cX1_span 41 = .ok (.iload_n 1, 1) := by decide +kernel
theorem dX1_span_42 : decode cX1_span 42 = .ok (.iload_n 2, 1) := by decide +kernel
theorem dX1_span_43 : decode cX1_span 43 = .ok (.iastore, 1) := by decide +kernel
theorem dX1_span_44 : decode cX1_span 44 = .ok (.iconst 0, 1) := by decide +kernel
theorem dX1_span_45 : decode cX1_span 45 = .ok (.istore_n 3, 1) := by decide +kernel
theorem dX1_span_46 : decode cX1_span 46 = .ok (.iload_n 3, 1) := by decide +kernel
theorem dX1_span_47 : decode cX1_span 47 = .ok (.iload_n 1, 1) := by decide +kernel
theorem dX1_span_48 : decode cX1_span 48 = .ok (.if_icmp .ge 20, 3) := by decide +kernel
theorem dX1_span_51 : decode cX1_span 51 = .ok (.aload_n 0, 1) := by decide +kernel
theorem dX1_span_52 : decode cX1_span 52 = .ok (.aload_n 0, 1) := by decide +kernel
theorem dX1_span_53 : decode cX1_span 53 = .ok (.getfield 13, 3) := by decide +kernel
theorem dX1_span_56 : decode cX1_span 56 = .ok (.iload_n 3, 1) := by decide +kernel
theorem dX1_span_57 : decode cX1_span 57 = .ok (.aaload, 1) := by decide +kernel
theorem dX1_span_58 : decode cX1_span 58 = .ok (.iload_n 1, 1) := by decide +kernel
theorem dX1_span_59 : decode cX1_span 59 = .ok (.invokevirtual 41, 3) := by decide +kernel
theorem dX1_span_62 : decode cX1_span 62 = .ok (.iinc 3 1, 3) := by decide +kernel
theorem dX1_span_65 : decode cX1_span 65 = .ok (.goto (-19), 3) := by decide +kernel
theorem dX1_span_68 : decode cX1_span 68 = .ok (.iinc 1 1, 3) := by decide +kernel
theorem dX1_span_71 : decode cX1_span 71 = .ok (.iinc 2 1, 3) := by decide +kernel
theorem dX1_span_74 : decode cX1_span 74 = .ok (.goto (-70), 3) := by decide +kernel
theorem dX1_span_77 : decode cX1_span 77 = .ok (.iconst 0, 1) := by decide +kernel
theorem dX1_span_78 : decode cX1_span 78 = .ok (.istore_n 2, 1) := by decide +kernel
theorem dX1_span_79 : decode cX1_span 79 = .ok (.iload_n 2, 1) := by decide +kernel
theorem dX1_span_80 : decode cX1_span 80 = .ok (.aload_n 0, 1) := by decide +kernel
theorem dX1_span_81 : decode cX1_span 81 = .ok (.getfield 24, 3) := by decide +kernel
theorem dX1_span_84 : decode cX1_span 84 = .ok (.if_icmp .ge 18, 3) := by decide +kernel
theorem dX1_span_87 : decode cX1_span 87 = .ok (.aload_n 0, 1) := by decide +kernel
theorem dX1_span_88 : decode cX1_span 88 = .ok (.aload_n 0, 1) := by decide +kernel
theorem dX1_span_89 : decode cX1_span 89 = .ok (.getfield 20, 3) := by decide +kernel
theorem dX1_span_92 : decode cX1_span 92 = .ok (.iload_n 2, 1) := by decide +kernel
theorem dX1_span_93 : decode cX1_span 93 = .ok (.invokevirtual 41, 3) := by decide +kernel
theorem dX1_span_96 : decode cX1_span 96 = .ok (.iinc 2 1, 3) := by decide +kernel
theorem dX1_span_99 : decode cX1_span 99 = .ok (.goto (-20), 3) := by decide +kernel
theorem dX1_span_102 : decode cX1_span 102 = .ok (.return_, 1) := by decide +kernel
theorem dX1_gather_0 : decode cX1_gather 0 = .ok (.iload_n 1, 1) := by decide +kernel
theorem dX1_gather_1 : decode cX1_gather 1 = .ok (.iconst 1, 1) := by decide +kernel
theorem dX1_gather_2 : decode cX1_gather 2 = .ok (.iadd, 1) := by decide +kernel
theorem dX1_gather_3 : decode cX1_gather 3 = .ok (.istore_n 3, 1) := by decide +kernel
theorem dX1_gather_4 : decode cX1_gather 4 = .ok (.iload_n 3, 1) := by decide +kernel
theorem dX1_gather_5 : decode cX1_gather 5 = .ok (.aload_n 0, 1) := by decide +kernel
theorem dX1_gather_6 : decode cX1_gather 6 = .ok (.getfield 24, 3) := by decide +kernel
theorem dX1_gather_9 : decode cX1_gather 9 = .ok (.if_icmp .ge 25, 3) := by decide +kernel
theorem dX1_gather_12 : decode cX1_gather 12 = .ok (.aload_n 0, 1) := by decide +kernel
theorem dX1_gather_13 : decode cX1_gather 13 = .ok (.getfield 13, 3) := by decide +kernel
theorem dX1_gather_16 : decode cX1_gather 16 = .ok (.iload_n 1, 1) := by decide +kernel
theorem dX1_gather_17 : decode cX1_gather 17 = .ok (.aaload, 1) := by decide +kernel
theorem dX1_gather_18 : decode cX1_gather 18 = .ok (.aload_n 0, 1) := by decide +kernel
theorem dX1_gather_19 : decode cX1_gather 19 = .ok (.getfield 13, 3) := by decide +kernel
theorem dX1_gather_22 : decode cX1_gather 22 = .ok (.iload_n 3, 1) := by decide +kernel
theorem dX1_gather_23 : decode cX1_gather 23 = .ok (.aaload, 1) := by decide +kernel
theorem dX1_gather_24 : decode cX1_gather 24 = .ok (.iload_n 2, 1) := by decide +kernel
theorem dX1_gather_25 : decode cX1_gather 25 = .ok (.invokestatic 45, 3) := by decide +kernel
theorem dX1_gather_28 : decode cX1_gather 28 = .ok (.iinc 3 1, 3) := by decide +kernel
theorem dX1_gather_31 : decode cX1_gather 31 = .ok (.goto (-27), 3) := by decide +kernel
theorem dX1_gather_34 : decode cX1_gather 34 = .ok (.aload_n 0, 1) := by decide +kernel
theorem dX1_gather_35 : decode cX1_gather 35 = .ok (.getfield 13, 3) := by decide +kernel
theorem dX1_gather_38 : decode cX1_gather 38 = .ok (.iload_n 1, 1) := by decide +kernel
theorem dX1_gather_39 : decode cX1_gather 39 = .ok (.aaload, 1) := by decide +kernel
theorem dX1_gather_40 : decode cX1_gather 40 = .ok (.iload_n 2, 1) := by decide +kernel
theorem dX1_gather_41 : decode cX1_gather 41 = .ok (.laload, 1) := by decide +kernel
theorem dX1_gather_42 : decode cX1_gather 42 = .ok (.lconst 0, 1) := by decide +kernel
theorem dX1_gather_43 : decode cX1_gather 43 = .ok (.lcmp, 1) := by decide +kernel
theorem dX1_gather_44 : decode cX1_gather 44 = .ok (.ifCond .ge 12, 3) := by decide +kernel
theorem dX1_gather_47 : decode cX1_gather 47 = .ok (.aload_n 0, 1) := by decide +kernel
theorem dX1_gather_48 : decode cX1_gather 48 = .ok (.getfield 13, 3) := by decide +kernel
theorem dX1_gather_51 : decode cX1_gather 51 = .ok (.iload_n 1, 1) := by decide +kernel
theorem dX1_gather_52 : decode cX1_gather 52 = .ok (.aaload, 1) := by decide +kernel
theorem dX1_gather_53 : decode cX1_gather 53 = .ok (.invokestatic 49, 3) := by decide +kernel
theorem dX1_gather_56 : decode cX1_gather 56 = .ok (.return_, 1) := by decide +kernel
theorem dX1_negate_0 : decode cX1_negate 0 = .ok (.iconst 0, 1) := by decide +kernel
theorem dX1_negate_1 : decode cX1_negate 1 = .ok (.istore_n 1, 1) := by decide +kernel
theorem dX1_negate_2 : decode cX1_negate 2 = .ok (.iload_n 1, 1) := by decide +kernel
theorem dX1_negate_3 : decode cX1_negate 3 = .ok (.bipush 6, 2) := by decide +kernel
theorem dX1_negate_5 : decode cX1_negate 5 = .ok (.if_icmp .ge 16, 3) := by decide +kernel
theorem dX1_negate_8 : decode cX1_negate 8 = .ok (.aload_n 0, 1) := by decide +kernel
theorem dX1_negate_9 : decode cX1_negate 9 = .ok (.iload_n 1, 1) := by decide +kernel
theorem dX1_negate_10 : decode cX1_negate 10 = .ok (.aload_n 0, 1) := by decide +kernel
theorem dX1_negate_11 : decode cX1_negate 11 = .ok (.iload_n 1, 1) := by decide +kernel
theorem dX1_negate_12 : decode cX1_negate 12 = .ok (.laload, 1) := by decide +kernel
theorem dX1_negate_13 : decode cX1_negate 13 = .ok (.lneg, 1) := by decide +kernel
theorem dX1_negate_14 : decode cX1_negate 14 = .ok (.lastore, 1) := by decide +kernel
theorem dX1_negate_15 : decode cX1_negate 15 = .ok (.iinc 1 1, 3) := by decide +kernel
theorem dX1_negate_18 : decode cX1_negate 18 = .ok (.goto (-16), 3) := by decide +kernel
theorem dX1_negate_21 : decode cX1_negate 21 = .ok (.return_, 1) := by decide +kernel
theorem dX1_divideInTurn_0 : decode cX1_divideInTurn 0 = .ok (.iconst 0, 1) := by decide +kernel
theorem dX1_divideInTurn_1 : decode cX1_divideInTurn 1 = .ok (.istore_n 3, 1) := by decide +kernel
theorem dX1_divideInTurn_2 : decode cX1_divideInTurn 2 = .ok (.iload_n 3, 1) := by decide +kernel
theorem dX1_divideInTurn_3 : decode cX1_divideInTurn 3 = .ok (.bipush 100, 2) := by decide +kernel
theorem dX1_divideInTurn_5 : decode cX1_divideInTurn 5 = .ok (.if_icmp .ge 34, 3) := by decide +kernel
theorem dX1_divideInTurn_8 : decode cX1_divideInTurn 8 = .ok (.aload_n 1, 1) := by decide +kernel
theorem dX1_divideInTurn_9 : decode cX1_divideInTurn 9 = .ok (.iload_n 2, 1) := by decide +kernel
theorem dX1_divideInTurn_10 : decode cX1_divideInTurn 10 = .ok (.laload, 1) := by decide +kernel
theorem dX1_divideInTurn_11 : decode cX1_divideInTurn 11 = .ok (.lconst 0, 1) := by decide +kernel
theorem dX1_divideInTurn_12 : decode cX1_divideInTurn 12 = .ok (.lcmp, 1) := by decide +kernel
theorem dX1_divideInTurn_13 : decode cX1_divideInTurn 13 = .ok (.ifCond .eq 26, 3) := by decide +kernel
theorem dX1_divideInTurn_16 : decode cX1_divideInTurn 16 = .ok (.aload_n 0, 1) := by decide +kernel
theorem dX1_divideInTurn_17 : decode cX1_divideInTurn 17 = .ok (.aload_n 1, 1) := by decide +kernel
theorem dX1_divideInTurn_18 : decode cX1_divideInTurn 18 = .ok (.aload_n 0, 1) := by decide +kernel
theorem dX1_divideInTurn_19 : decode cX1_divideInTurn 19 = .ok (.iload_n 2, 1) := by decide +kernel
theorem dX1_divideInTurn_20 : decode cX1_divideInTurn 20 = .ok (.laload, 1) := by decide +kernel
theorem dX1_divideInTurn_21 : decode cX1_divideInTurn 21 = .ok (.aload_n 1, 1) := by decide +kernel
theorem dX1_divideInTurn_22 : decode cX1_divideInTurn 22 = .ok (.iload_n 2, 1) := by decide +kernel
theorem dX1_divideInTurn_23 : decode cX1_divideInTurn 23 = .ok (.laload, 1) := by decide +kernel
theorem dX1_divideInTurn_24 : decode cX1_divideInTurn 24 = .ok (.ldiv, 1) := by decide +kernel
theorem dX1_divideInTurn_25 : decode cX1_divideInTurn 25 = .ok (.invokestatic 53, 3) := by decide +kernel
theorem dX1_divideInTurn_28 : decode cX1_divideInTurn 28 = .ok (.aload_n 0, 1) := by decide +kernel
theorem dX1_divideInTurn_29 : decode cX1_divideInTurn 29 = .ok (.aload_n 1, 1) := by decide +kernel
theorem dX1_divideInTurn_30 : decode cX1_divideInTurn 30 = .ok (.invokestatic 57, 3) := by decide +kernel
theorem dX1_divideInTurn_33 : decode cX1_divideInTurn 33 = .ok (.iinc 3 1, 3) := by decide +kernel
theorem dX1_divideInTurn_36 : decode cX1_divideInTurn 36 = .ok (.goto (-34), 3) := by decide +kernel
theorem dX1_divideInTurn_39 : decode cX1_divideInTurn 39 = .ok (.return_, 1) := by decide +kernel
theorem dX1_exchange_0 : decode cX1_exchange 0 = .ok (.iconst 0, 1) := by decide +kernel
theorem dX1_exchange_1 : decode cX1_exchange 1 = .ok (.istore_n 2, 1) := by decide +kernel
theorem dX1_exchange_2 : decode cX1_exchange 2 = .ok (.iload_n 2, 1) := by decide +kernel
theorem dX1_exchange_3 : decode cX1_exchange 3 = .ok (.bipush 6, 2) := by decide +kernel
theorem dX1_exchange_5 : decode cX1_exchange 5 = .ok (.if_icmp .ge 23, 3) := by decide +kernel
theorem dX1_exchange_8 : decode cX1_exchange 8 = .ok (.aload_n 0, 1) := by decide +kernel
theorem dX1_exchange_9 : decode cX1_exchange 9 = .ok (.iload_n 2, 1) := by decide +kernel
theorem dX1_exchange_10 : decode cX1_exchange 10 = .ok (.laload, 1) := by decide +kernel
theorem dX1_exchange_11 : decode cX1_exchange 11 = .ok (.lstore_n 3, 1) := by decide +kernel
theorem dX1_exchange_12 : decode cX1_exchange 12 = .ok (.aload_n 0, 1) := by decide +kernel
theorem dX1_exchange_13 : decode cX1_exchange 13 = .ok (.iload_n 2, 1) := by decide +kernel
theorem dX1_exchange_14 : decode cX1_exchange 14 = .ok (.aload_n 1, 1) := by decide +kernel
theorem dX1_exchange_15 : decode cX1_exchange 15 = .ok (.iload_n 2, 1) := by decide +kernel
theorem dX1_exchange_16 : decode cX1_exchange 16 = .ok (.laload, 1) := by decide +kernel
theorem dX1_exchange_17 : decode cX1_exchange 17 = .ok (.lastore, 1) := by decide +kernel
theorem dX1_exchange_18 : decode cX1_exchange 18 = .ok (.aload_n 1, 1) := by decide +kernel
theorem dX1_exchange_19 : decode cX1_exchange 19 = .ok (.iload_n 2, 1) := by decide +kernel
theorem dX1_exchange_20 : decode cX1_exchange 20 = .ok (.lload_n 3, 1) := by decide +kernel
theorem dX1_exchange_21 : decode cX1_exchange 21 = .ok (.lastore, 1) := by decide +kernel
theorem dX1_exchange_22 : decode cX1_exchange 22 = .ok (.iinc 2 1, 3) := by decide +kernel
theorem dX1_exchange_25 : decode cX1_exchange 25 = .ok (.goto (-23), 3) := by decide +kernel
theorem dX1_exchange_28 : decode cX1_exchange 28 = .ok (.return_, 1) := by decide +kernel
theorem dX1_subtract_0 : decode cX1_subtract 0 = .ok (.iconst 0, 1) := by decide +kernel
theorem dX1_subtract_1 : decode cX1_subtract 1 = .ok (.istore 4, 2) := by decide +kernel
theorem dX1_subtract_3 : decode cX1_subtract 3 = .ok (.iload 4, 2) := by decide +kernel
theorem dX1_subtract_5 : decode cX1_subtract 5 = .ok (.bipush 6, 2) := by decide +kernel
theorem dX1_subtract_7 : decode cX1_subtract 7 = .ok (.if_icmp .ge 22, 3) := by decide +kernel
theorem dX1_subtract_10 : decode cX1_subtract 10 = .ok (.aload_n 0, 1) := by decide +kernel
theorem dX1_subtract_11 : decode cX1_subtract 11 = .ok (.iload 4, 2) := by decide +kernel
theorem dX1_subtract_13 : decode cX1_subtract 13 = .ok (.dup2, 1) := by decide +kernel
theorem dX1_subtract_14 : decode cX1_subtract 14 = .ok (.laload, 1) := by decide +kernel
theorem dX1_subtract_15 : decode cX1_subtract 15 = .ok (.lload_n 2, 1) := by decide +kernel
theorem dX1_subtract_16 : decode cX1_subtract 16 = .ok (.aload_n 1, 1) := by decide +kernel
theorem dX1_subtract_17 : decode cX1_subtract 17 = .ok (.iload 4, 2) := by decide +kernel
theorem dX1_subtract_19 : decode cX1_subtract 19 = .ok (.laload, 1) := by decide +kernel
theorem dX1_subtract_20 : decode cX1_subtract 20 = .ok (.lmul, 1) := by decide +kernel
theorem dX1_subtract_21 : decode cX1_subtract 21 = .ok (.lsub, 1) := by decide +kernel
theorem dX1_subtract_22 : decode cX1_subtract 22 = .ok (.lastore, 1) := by decide +kernel
theorem dX1_subtract_23 : decode cX1_subtract 23 = .ok (.iinc 4 1, 3) := by decide +kernel
theorem dX1_subtract_26 : decode cX1_subtract 26 = .ok (.goto (-23), 3) := by decide +kernel
theorem dX1_subtract_29 : decode cX1_subtract 29 = .ok (.return_, 1) := by decide +kernel
theorem dX1_lessen_0 : decode cX1_lessen 0 = .ok (.aload_n 0, 1) := by decide +kernel
theorem dX1_lessen_1 : decode cX1_lessen 1 = .ok (.getfield 13, 3) := by decide +kernel
theorem dX1_lessen_4 : decode cX1_lessen 4 = .ok (.iload_n 2, 1) := by decide +kernel
theorem dX1_lessen_5 : decode cX1_lessen 5 = .ok (.aaload, 1) := by decide +kernel
theorem dX1_lessen_6 : decode cX1_lessen 6 = .ok (.aload_n 0, 1) := by decide +kernel
theorem dX1_lessen_7 : decode cX1_lessen 7 = .ok (.getfield 16, 3) := by decide +kernel
theorem dX1_lessen_10 : decode cX1_lessen 10 = .ok (.iload_n 2, 1) := by decide +kernel
theorem dX1_lessen_11 : decode cX1_lessen 11 = .ok (.iaload, 1) := by decide +kernel
theorem dX1_lessen_12 : decode cX1_lessen 12 = .ok (.laload, 1) := by decide +kernel
theorem dX1_lessen_13 : decode cX1_lessen 13 = .ok (.lstore_n 3, 1) := by decide +kernel
theorem dX1_lessen_14 : decode cX1_lessen 14 = .ok (.lload_n 3, 1) := by decide +kernel
theorem dX1_lessen_15 : decode cX1_lessen 15 = .ok (.lconst 0, 1) := by decide +kernel
theorem dX1_lessen_16 : decode cX1_lessen 16 = .ok (.lcmp, 1) := by decide +kernel
theorem dX1_lessen_17 : decode cX1_lessen 17 = .ok (.ifCond .le 25, 3) := by decide +kernel
theorem dX1_lessen_20 : decode cX1_lessen 20 = .ok (.aload_n 1, 1) := by decide +kernel
theorem dX1_lessen_21 : decode cX1_lessen 21 = .ok (.aload_n 0, 1) := by decide +kernel
theorem dX1_lessen_22 : decode cX1_lessen 22 = .ok (.getfield 13, 3) := by decide +kernel
theorem dX1_lessen_25 : decode cX1_lessen 25 = .ok (.iload_n 2, 1) := by decide +kernel
theorem dX1_lessen_26 : decode cX1_lessen 26 = .ok (.aaload, 1) := by decide +kernel
theorem dX1_lessen_27 : decode cX1_lessen 27 = .ok (.aload_n 1, 1) := by decide +kernel
theorem dX1_lessen_28 : decode cX1_lessen 28 = .ok (.aload_n 0, 1) := by decide +kernel
theorem dX1_lessen_29 : decode cX1_lessen 29 = .ok (.getfield 16, 3) := by decide +kernel
theorem dX1_lessen_32 : decode cX1_lessen 32 = .ok (.iload_n 2, 1) := by decide +kernel
theorem dX1_lessen_33 : decode cX1_lessen 33 = .ok (.iaload, 1) := by decide +kernel
theorem dX1_lessen_34 : decode cX1_lessen 34 = .ok (.laload, 1) := by decide +kernel
theorem dX1_lessen_35 : decode cX1_lessen 35 = .ok (.lload_n 3, 1) := by decide +kernel
theorem dX1_lessen_36 : decode cX1_lessen 36 = .ok (.invokestatic 61, 3) := by decide +kernel
theorem dX1_lessen_39 : decode cX1_lessen 39 = .ok (.invokestatic 53, 3) := by decide +kernel
theorem dX1_lessen_42 : decode cX1_lessen 42 = .ok (.return_, 1) := by decide +kernel
theorem dX1_isReached_0 : decode cX1_isReached 0 = .ok (.iconst 0, 1) := by decide +kernel
theorem dX1_isReached_1 : decode cX1_isReached 1 = .ok (.istore_n 1, 1) := by decide +kernel
theorem dX1_isReached_2 : decode cX1_isReached 2 = .ok (.iload_n 1, 1) := by decide +kernel
theorem dX1_isReached_3 : decode cX1_isReached 3 = .ok (.iconst 3, 1) := by decide +kernel
theorem dX1_isReached_4 : decode cX1_isReached 4 = .ok (.if_icmp .ge 22, 3) := by decide +kernel
theorem dX1_isReached_7 : decode cX1_isReached 7 = .ok (.aload_n 0, 1) := by decide +kernel
theorem dX1_isReached_8 : decode cX1_isReached 8 = .ok (.getfield 20, 3) := by decide +kernel
theorem dX1_isReached_11 : decode cX1_isReached 11 = .ok (.iload_n 1, 1) := by decide +kernel
theorem dX1_isReached_12 : decode cX1_isReached 12 = .ok (.laload, 1) := by decide +kernel
theorem dX1_isReached_13 : decode cX1_isReached 13 = .ok (.lconst 0, 1) := by decide +kernel
theorem dX1_isReached_14 : decode cX1_isReached 14 = .ok (.lcmp, 1) := by decide +kernel
theorem dX1_isReached_15 : decode cX1_isReached 15 = .ok (.ifCond .eq 5, 3) := by decide +kernel
theorem dX1_isReached_18 : decode cX1_isReached 18 = .ok (.iconst 0, 1) := by decide +kernel
theorem dX1_isReached_19 : decode cX1_isReached 19 = .ok (.ireturn, 1) := by decide +kernel
theorem dX1_isReached_20 : decode cX1_isReached 20 = .ok (.iinc 1 1, 3) := by decide +kernel
theorem dX1_isReached_23 : decode cX1_isReached 23 = .ok (.goto (-21), 3) := by decide +kernel
theorem dX1_isReached_26 : decode cX1_isReached 26 = .ok (.iconst 1, 1) := by decide +kernel
theorem dX1_isReached_27 : decode cX1_isReached 27 = .ok (.ireturn, 1) := by decide +kernel
theorem dX1_members_0 : decode cX1_members 0 = .ok (.iconst 0, 1) := by decide +kernel
theorem dX1_members_1 : decode cX1_members 1 = .ok (.istore_n 1, 1) := by decide +kernel
theorem dX1_members_2 : decode cX1_members 2 = .ok (.iconst 0, 1) := by decide +kernel
theorem dX1_members_3 : decode cX1_members 3 = .ok (.istore_n 2, 1) := by decide +kernel
theorem dX1_members_4 : decode cX1_members 4 = .ok (.iload_n 2, 1) := by decide +kernel
theorem dX1_members_5 : decode cX1_members 5 = .ok (.aload_n 0, 1) := by decide +kernel
theorem dX1_members_6 : decode cX1_members 6 = .ok (.getfield 24, 3) := by decide +kernel
theorem dX1_members_9 : decode cX1_members 9 = .ok (.if_icmp .ge 22, 3) := by decide +kernel
theorem dX1_members_12 : decode cX1_members 12 = .ok (.aload_n 0, 1) := by decide +kernel
theorem dX1_members_13 : decode cX1_members 13 = .ok (.getfield 16, 3) := by decide +kernel
theorem dX1_members_16 : decode cX1_members 16 = .ok (.iload_n 2, 1) := by decide +kernel
theorem dX1_members_17 : decode cX1_members 17 = .ok (.iaload, 1) := by decide +kernel
theorem dX1_members_18 : decode cX1_members 18 = .ok (.iconst 3, 1) := by decide +kernel
theorem dX1_members_19 : decode cX1_members 19 = .ok (.if_icmp .lt 6, 3) := by decide +kernel
theorem dX1_members_22 : decode cX1_members 22 = .ok (.iinc 1 1, 3) := by decide +kernel
theorem dX1_members_25 : decode cX1_members 25 = .ok (.iinc 2 1, 3) := by decide +kernel
theorem dX1_members_28 : decode cX1_members 28 = .ok (.goto (-24), 3) := by decide +kernel
theorem dX1_members_31 : decode cX1_members 31 = .ok (.iload_n 1, 1) := by decide +kernel
theorem dX1_members_32 : decode cX1_members 32 = .ok (.ireturn, 1) := by decide +kernel
theorem dX1_member_0 : decode cX1_member 0 = .ok (.aload_n 0, 1) := by decide +kernel
theorem dX1_member_1 : decode cX1_member 1 = .ok (.getfield 13, 3) := by decide +kernel
theorem dX1_member_4 : decode cX1_member 4 = .ok (.aload_n 0, 1) := by decide +kernel
theorem dX1_member_5 : decode cX1_member 5 = .ok (.getfield 24, 3) := by decide +kernel
theorem dX1_member_8 : decode cX1_member 8 = .ok (.aload_n 0, 1) := by decide +kernel
theorem dX1_member_9 : decode cX1_member 9 = .ok (.invokevirtual 65, 3) := by decide +kernel
theorem dX1_member_12 : decode cX1_member 12 = .ok (.isub, 1) := by decide +kernel
theorem dX1_member_13 : decode cX1_member 13 = .ok (.iload_n 1, 1) := by decide +kernel
theorem dX1_member_14 : decode cX1_member 14 = .ok (.iadd, 1) := by decide +kernel
theorem dX1_member_15 : decode cX1_member 15 = .ok (.aaload, 1) := by decide +kernel
theorem dX1_member_16 : decode cX1_member 16 = .ok (.iconst 3, 1) := by decide +kernel
theorem dX1_member_17 : decode cX1_member 17 = .ok (.iload_n 2, 1) := by decide +kernel
theorem dX1_member_18 : decode cX1_member 18 = .ok (.iadd, 1) := by decide +kernel
theorem dX1_member_19 : decode cX1_member 19 = .ok (.laload, 1) := by decide +kernel
theorem dX1_member_20 : decode cX1_member 20 = .ok (.lreturn, 1) := by decide +kernel
