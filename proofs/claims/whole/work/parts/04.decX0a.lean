/-! decode rows of X0 -/
theorem dX0_init_0 : decode cX0_init 0 = .ok (.aload_n 0, 1) := by decide +kernel
theorem dX0_init_1 : decode cX0_init 1 = .ok (.invokespecial 3, 3) := by decide +kernel
theorem dX0_init_4 : decode cX0_init 4 = .ok (.aload_n 0, 1) := by decide +kernel
theorem dX0_init_5 : decode cX0_init 5 = .ok (.bipush 7, 2) := by decide +kernel
theorem dX0_init_7 : decode cX0_init 7 = .ok (.iconst 5, 1) := by decide +kernel
theorem dX0_init_8 : decode cX0_init 8 = .ok (.multianewarray 11 2, 4) := by decide +kernel
theorem dX0_init_12 : decode cX0_init 12 = .ok (.putfield 13, 3) := by decide +kernel
theorem dX0_init_15 : decode cX0_init 15 = .ok (.aload_n 0, 1) := by decide +kernel
theorem dX0_init_16 : decode cX0_init 16 = .ok (.bipush 7, 2) := by decide +kernel
theorem dX0_init_18 : decode cX0_init 18 = .ok (.newarray .int, 2) := by decide +kernel
theorem dX0_init_20 : decode cX0_init 20 = .ok (.putfield 16, 3) := by decide +kernel
theorem dX0_init_23 : decode cX0_init 23 = .ok (.aload_n 0, 1) := by decide +kernel
theorem dX0_init_24 : decode cX0_init 24 = .ok (.iconst 0, 1) := by decide +kernel
theorem dX0_init_25 : decode cX0_init 25 = .ok (.putfield 20, 3) := by decide +kernel
theorem dX0_init_28 : decode cX0_init 28 = .ok (.aload_n 0, 1) := by decide +kernel
theorem dX0_init_29 : decode cX0_init 29 = .ok (.iconst 0, 1) := by decide +kernel
theorem dX0_init_30 : decode cX0_init 30 = .ok (.putfield 24, 3) := by decide +kernel
theorem dX0_init_33 : decode cX0_init 33 = .ok (.aload_n 0, 1) := by decide +kernel
theorem dX0_init_34 : decode cX0_init 34 = .ok (.iconst 0, 1) := by decide +kernel
theorem dX0_init_35 : decode cX0_init 35 = .ok (.putfield 27, 3) := by decide +kernel
theorem dX0_init_38 : decode cX0_init 38 = .ok (.return_, 1) := by decide +kernel
theorem dX0_begin_0 : decode cX0_begin 0 = .ok (.aload_n 0, 1) := by decide +kernel
theorem dX0_begin_1 : decode cX0_begin 1 = .ok (.iconst 0, 1) := by decide +kernel
theorem dX0_begin_2 : decode cX0_begin 2 = .ok (.iconst 4, 1) := by decide +kernel
theorem dX0_begin_3 : decode cX0_begin 3 = .ok (.iload_n 1, 1) := by decide +kernel
theorem dX0_begin_4 : decode cX0_begin 4 = .ok (.invokestatic 30, 3) := by decide +kernel
theorem dX0_begin_7 : decode cX0_begin 7 = .ok (.invokestatic 36, 3) := by decide +kernel
theorem dX0_begin_10 : decode cX0_begin 10 = .ok (.putfield 20, 3) := by decide +kernel
theorem dX0_begin_13 : decode cX0_begin 13 = .ok (.aload_n 0, 1) := by decide +kernel
theorem dX0_begin_14 : decode cX0_begin 14 = .ok (.iconst 0, 1) := by decide +kernel
theorem dX0_begin_15 : decode cX0_begin 15 = .ok (.bipush 7, 2) := by decide +kernel
theorem dX0_begin_17 : decode cX0_begin 17 = .ok (.iload_n 2, 1) := by decide +kernel
theorem dX0_begin_18 : decode cX0_begin 18 = .ok (.invokestatic 30, 3) := by decide +kernel
theorem dX0_begin_21 : decode cX0_begin 21 = .ok (.invokestatic 36, 3) := by decide +kernel
theorem dX0_begin_24 : decode cX0_begin 24 = .ok (.putfield 24, 3) := by decide +kernel
theorem dX0_begin_27 : decode cX0_begin 27 = .ok (.aload_n 0, 1) := by decide +kernel
theorem dX0_begin_28 : decode cX0_begin 28 = .ok (.iconst 0, 1) := by decide +kernel
theorem dX0_begin_29 : decode cX0_begin 29 = .ok (.putfield 27, 3) := by decide +kernel
theorem dX0_begin_32 : decode cX0_begin 32 = .ok (.iconst 0, 1) := by decide +kernel
theorem dX0_begin_33 : decode cX0_begin 33 = .ok (.istore_n 3, 1) := by decide +kernel
theorem dX0_begin_34 : decode cX0_begin 34 = .ok (.iload_n 3, 1) := by decide +kernel
theorem dX0_begin_35 : decode cX0_begin 35 = .ok (.aload_n 0, 1) := by decide +kernel
theorem dX0_begin_36 : decode cX0_begin 36 = .ok (.getfield 24, 3) := by decide +kernel
theorem dX0_begin_39 : decode cX0_begin 39 = .ok (.if_icmp .ge 37, 3) := by decide +kernel
theorem dX0_begin_42 : decode cX0_begin 42 = .ok (.iconst 0, 1) := by decide +kernel
theorem dX0_begin_43 : decode cX0_begin 43 = .ok (.istore 4, 2) := by decide +kernel
theorem dX0_begin_45 : decode cX0_begin 45 = .ok (.iload 4, 2) := by decide +kernel
theorem dX0_begin_47 : decode cX0_begin 47 = .ok (.aload_n 0, 1) := by decide +kernel
theorem dX0_begin_48 : decode cX0_begin 48 = .ok (.getfield 20, 3) := by decide +kernel
theorem dX0_begin_51 : decode cX0_begin 51 = .ok (.if_icmp .gt 19, 3) := by decide +kernel
theorem dX0_begin_54 : decode cX0_begin 54 = .ok (.aload_n 0, 1) := by decide +kernel
theorem dX0_begin_55 : decode cX0_begin 55 = .ok (.getfield 13, 3) := by decide +kernel
theorem dX0_begin_58 : decode cX0_begin 58 = .ok (.iload_n 3, 1) := by decide +kernel
theorem dX0_begin_59 : decode cX0_begin 59 = .ok (.aaload, 1) := by decide +kernel
theorem dX0_begin_60 : decode cX0_begin 60 = .ok (.iload 4, 2) := by decide +kernel
theorem dX0_begin_62 : decode cX0_begin 62 = .ok (.lconst 0, 1) := by decide +kernel
theorem dX0_begin_63 : decode cX0_begin 63 = .ok (.lastore, 1) := by decide +kernel
theorem dX0_begin_64 : decode cX0_begin 64 = .ok (.iinc 4 1, 3) := by decide +kernel
theorem dX0_begin_67 : decode cX0_begin 67 = .ok (.goto (-22), 3) := by decide +kernel
theorem dX0_begin_70 : decode cX0_begin 70 = .ok (.iinc 3 1, 3) := by decide +kernel
theorem dX0_begin_73 : decode cX0_begin 73 = .ok (.goto (-39), 3) := by decide +kernel
theorem dX0_begin_76 : decode cX0_begin 76 = .ok (.return_, 1) := by decide +kernel
theorem dX0_eliminate_0 : decode cX0_eliminate 0 = .ok (.iconst 0, 1) := by decide +kernel
theorem dX0_eliminate_1 : decode cX0_eliminate 1 = .ok (.istore_n 1, 1) := by decide +kernel
theorem dX0_eliminate_2 : decode cX0_eliminate 2 = .ok (.iload_n 1, 1) := by decide +kernel
theorem dX0_eliminate_3 : decode cX0_eliminate 3 = .ok (.aload_n 0, 1) := by decide +kernel
theorem dX0_eliminate_4 : decode cX0_eliminate 4 = .ok (.getfield 20, 3) := by decide +kernel
theorem dX0_eliminate_7 : decode cX0_eliminate 7 = .ok (.if_icmp .ge 77, 3) := by decide +kernel
theorem dX0_eliminate_10 : decode cX0_eliminate 10 = .ok (.aload_n 0, 1) := by decide +kernel
theorem dX0_eliminate_11 : decode cX0_eliminate 11 = .ok (.getfield 27, 3) := by decide +kernel
theorem dX0_eliminate_14 : decode cX0_eliminate 14 = .ok (.aload_n 0, 1) := by decide +kernel
theorem dX0_eliminate_15 : decode cX0_eliminate 15 = .ok (.getfield 24, 3) := by decide +kernel
theorem dX0_eliminate_18 : decode cX0_eliminate 18 = .ok (.if_icmp .ge 66, 3) := by decide +kernel
theorem dX0_eliminate_21 : decode cX0_eliminate 21 = .ok (.aload_n 0, 1) := by decide +kernel
theorem dX0_eliminate_22 : decode cX0_eliminate 22 = .ok (.iload_n 1, 1) := by decide +kernel
theorem dX0_eliminate_23 : decode cX0_eliminate 23 = .ok (.invokevirtual 39, 3) := by decide +kernel
theorem dX0_eliminate_26 : decode cX0_eliminate 26 = .ok (.istore_n 2, 1) := by decide +kernel
theorem dX0_eliminate_27 : decode cX0_eliminate 27 = .ok (.iload_n 2, 1) := by decide +kernel
theorem dX0_eliminate_28 : decode cX0_eliminate 28 = .ok (.ifCond .lt 50, 3) := by decide +kernel
theorem dX0_eliminate_31 : decode cX0_eliminate 31 = .ok (.aload_n 0, 1) := by decide +kernel
theorem dX0_eliminate_32 : decode cX0_eliminate 32 = .ok (.aload_n 0, 1) := by decide +kernel
theorem dX0_eliminate_33 : decode cX0_eliminate 33 = .ok (.getfield 27, 3) := by decide +kernel
theorem dX0_eliminate_36 : decode cX0_eliminate 36 = .ok (.iload_n 2, 1) := by decide +kernel
theorem dX0_eliminate_37 : decode cX0_eliminate 37 = .ok (.invokevirtual 43, 3) := by decide +kernel
theorem dX0_eliminate_40 : decode cX0_eliminate 40 = .ok (.aload_n 0, 1) := by decide +kernel
theorem dX0_eliminate_41 : decode cX0_eliminate 41 = .ok (.aload_n 0, 1) := by decide +kernel
theorem dX0_eliminate_42 : decode cX0_eliminate 42 = .ok (.getfield 27, 3) := by decide +kernel
theorem dX0_eliminate_45 : decode cX0_eliminate 45 = .ok (.iload_n 1, 1) := by decide +kernel
theorem dX0_eliminate_46 : decode cX0_eliminate 46 = .ok (.invokevirtual 47, 3) := by decide +kernel
theorem dX0_eliminate_49 : decode cX0_eliminate 49 = .ok (.aload_n 0, 1) := by decide +kernel
theorem dX0_eliminate_50 : decode cX0_eliminate 50 = .ok (.aload_n 0, 1) := by decide +kernel
theorem dX0_eliminate_51 : decode cX0_eliminate 51 = .ok (.getfield 27, 3) := by decide +kernel
theorem dX0_eliminate_54 : decode cX0_eliminate 54 = .ok (.iload_n 1, 1) := by decide +kernel
theorem dX0_eliminate_55 : decode cX0_eliminate 55 = .ok (.invokevirtual 50, 3) := by decide +kernel
theorem dX0_eliminate_58 : decode cX0_eliminate 58 = .ok (.aload_n 0, 1) := by decide +kernel
theorem dX0_eliminate_59 : decode cX0_eliminate 59 = .ok (.getfield 16, 3) := by decide +kernel
theorem dX0_eliminate_62 : decode cX0_eliminate 62 = .ok (.aload_n 0, 1) := by decide +kernel
theorem dX0_eliminate_63 : decode cX0_eliminate 63 = .ok (.getfield 27, 3) := by decide +kernel
theorem dX0_eliminate_66 : decode cX0_eliminate 66 = .ok (.iload_n 1, 1) := by decide +kernel
theorem dX0_eliminate_67 : decode cX0_eliminate 67 = .ok (.iastore, 1) := by decide +kernel
theorem dX0_eliminate_68 : decode cX0_eliminate 68 = .ok (.aload_n 0, 1) := by decide +kernel
theorem dX0_eliminate_69 : decode cX0_eliminate 69 = .ok (.dup, 1) := by decide +kernel
theorem dX0_eliminate_70 : decode cX0_eliminate 70 = .ok (.getfield 27, 3) := by decide +kernel
theorem dX0_eliminate_73 : decode cX0_eliminate 73 = .ok (.iconst 1, 1) := by decide +kernel
theorem dX0_eliminate_74 : decode cX0_eliminate 74 = .ok (.iadd, 1) := by decide +kernel
theorem dX0_eliminate_75 : decode cX0_eliminate 75 = .ok (.putfield 27, 3) := by decide +kernel
theorem dX0_eliminate_78 : decode cX0_eliminate 78 = .ok (.iinc 1 1, 3) := by decide +kernel
theorem dX0_eliminate_81 : decode cX0_eliminate 81 = .ok (.goto (-79), 3) := by decide +kernel
theorem dX0_eliminate_84 : decode cX0_eliminate 84 = .ok (.return_, 1) := by decide +kernel
theorem dX0_firstRowWith_0 : decode cX0_firstRowWith 0 = .ok (.aload_n 0, 1) := by decide +kernel
theorem dX0_firstRowWith_1 : decode cX0_firstRowWith 1 = .ok (.getfield 27, 3) := by decide +kernel
theorem dX0_firstRowWith_4 : decode cX0_firstRowWith 4 = .ok (.istore_n 2, 1) := by decide +kernel
theorem dX0_firstRowWith_5 : decode cX0_firstRowWith 5 = .ok (.iload_n 2, 1) := by decide +kernel
theorem dX0_firstRowWith_6 : decode cX0_firstRowWith 6 = .ok (.aload_n 0, 1) := by decide +kernel
theorem dX0_firstRowWith_7 : decode cX0_firstRowWith 7 = .ok (.getfield 24, 3) := by decide +kernel
theorem dX0_firstRowWith_10 : decode cX0_firstRowWith 10 = .ok (.if_icmp .ge 24, 3) := by decide +kernel
theorem dX0_firstRowWith_13 : decode cX0_firstRowWith 13 = .ok (.aload_n 0, 1) := by decide +kernel
theorem dX0_firstRowWith_14 : decode cX0_firstRowWith 14 = .ok (.getfield 13, 3) := by decide +kernel
theorem dX0_firstRowWith_17 : decode cX0_firstRowWith 17 = .ok (.iload_n 2, 1) := by decide +kernel
theorem dX0_firstRowWith_18 : decode cX0_firstRowWith 18 = .ok (.aaload, 1) := by decide +kernel
theorem dX0_firstRowWith_19 : decode cX0_firstRowWith 19 = .ok (.iload_n 1, 1) := by decide +kernel
theorem dX0_firstRowWith_20 : decode cX0_firstRowWith 20 = .ok (.laload, 1) := by decide +kernel
theorem dX0_firstRowWith_21 : decode cX0_firstRowWith 21 = .ok (.lconst 0, 1) := by decide +kernel
theorem dX0_firstRowWith_22 : decode cX0_firstRowWith 22 = .ok (.lcmp, 1) := by decide +kernel
theorem dX0_firstRowWith_23 : decode cX0_firstRowWith 23 = .ok (.ifCond .eq 5, 3) := by decide +kernel
theorem dX0_firstRowWith_26 : decode cX0_firstRowWith 26 = .ok (.iload_n 2, 1) := by decide +kernel
theorem dX0_firstRowWith_27 : decode cX0_firstRowWith 27 = .ok (.ireturn, 1) := by decide +kernel
theorem dX0_firstRowWith_28 : decode cX0_firstRowWith 28 = .ok (.iinc 2 1, 3) := by decide +kernel
theorem dX0_firstRowWith_31 : decode cX0_firstRowWith 31 = .ok (.goto (-26), 3) := by decide +kernel
theorem dX0_firstRowWith_34 : decode cX0_firstRowWith 34 = .ok (.iconst (-1), 1) := by decide +kernel
theorem dX0_firstRowWith_35 : decode cX0_firstRowWith 35 = .ok (.ireturn, 1) := by decide +kernel
theorem dX0_exchange_0 : decode cX0_exchange 0 = .ok (.iconst 0, 1) := by decide +kernel
theorem dX0_exchange_1 : decode cX0_exchange 1 = .ok (.istore_n 3, 1) := by decide +kernel
theorem dX0_exchange_2 : decode cX0_exchange 2 = .ok (.iload_n 3, 1) := by decide +kernel
theorem dX0_exchange_3 : decode cX0_exchange 3 = .ok (.aload_n 0, 1) := by decide +kernel
theorem dX0_exchange_4 : decode cX0_exchange 4 = .ok (.getfield 20, 3) := by decide +kernel
theorem dX0_exchange_7 : decode cX0_exchange 7 = .ok (.if_icmp .gt 45, 3) := by decide +kernel
theorem dX0_exchange_10 : decode cX0_exchange 10 = .ok (.aload_n 0, 1) := by decide +kernel
theorem dX0_exchange_11 : decode cX0_exchange 11 = .ok (.getfield 13, 3) := by decide +kernel
theorem dX0_exchange_14 : decode cX0_exchange 14 = .ok (.iload_n 1, 1) := by decide +kernel
theorem dX0_exchange_15 : decode cX0_exchange 15 = .ok (.aaload, 1) := by decide +kernel
theorem dX0_exchange_16 : decode cX0_exchange 16 = .ok (.iload_n 3, 1) := by decide +kernel
theorem dX0_exchange_17 : decode cX0_exchange 17 = .ok (.laload, 1) := by decide +kernel
theorem dX0_exchange_18 : decode cX0_exchange 18 = .ok (.lstore 4, 2) := by decide +kernel
theorem dX0_exchange_20 : decode cX0_exchange 20 = .ok (.aload_n 0, 1) := by decide +kernel
theorem dX0_exchange_21 : decode cX0_exchange 21 = .ok (.getfield 13, 3) := by decide +kernel
theorem dX0_exchange_24 : decode cX0_exchange 24 = .ok (.iload_n 1, 1) := by decide +kernel
theorem dX0_exchange_25 : decode cX0_exchange 25 = .ok (.aaload, 1) := by decide +kernel
theorem dX0_exchange_26 : decode cX0_exchange 26 = .ok (.iload_n 3, 1) := by decide +kernel
theorem dX0_exchange_27 : decode cX0_exchange 27 = .ok (.aload_n 0, 1) := by decide +kernel
theorem dX0_exchange_28 : decode cX0_exchange 28 = .ok (.getfield 13, 3) := by decide +kernel
theorem dX0_exchange_31 : decode cX0_exchange 31 = .ok (.iload_n 2, 1) := by decide +kernel
theorem dX0_exchange_32 : decode cX0_exchange 32 = .ok (.aaload, 1) := by decide +kernel
theorem dX0_exchange_33 : decode cX0_exchange 33 = .ok (.iload_n 3, 1) := by decide +kernel
theorem dX0_exchange_34 : decode cX0_exchange 34 = .ok (.laload, 1) := by decide +kernel
theorem dX0_exchange_35 : decode cX0_exchange 35 = .ok (.lastore, 1) := by decide +kernel
theorem dX0_exchange_36 : decode cX0_exchange 36 = .ok (.aload_n 0, 1) := by decide +kernel
theorem dX0_exchange_37 : decode cX0_exchange 37 = .ok (.getfield 13, 3) := by decide +kernel
theorem dX0_exchange_40 : decode cX0_exchange 40 = .ok (.iload_n 2, 1) := by decide +kernel
theorem dX0_exchange_41 : decode cX0_exchange 41 = .ok (.aaload, 1) := by decide +kernel
theorem dX0_exchange_42 : decode cX0_exchange 42 = .ok (.iload_n 3, 1) := by decide +kernel
theorem dX0_exchange_43 : decode cX0_exchange 43 = .ok (.lload 4, 2) := by decide +kernel
theorem dX0_exchange_45 : decode cX0_exchange 45 = .ok (.lastore, 1) := by decide +kernel
theorem dX0_exchange_46 : decode cX0_exchange 46 = .ok (.iinc 3 1, 3) := by decide +kernel
theorem dX0_exchange_49 : decode cX0_exchange 49 = .ok (.goto (-47), 3) := by decide +kernel
theorem dX0_exchange_52 : decode cX0_exchange 52 = .ok (.return_, 1) := by decide +kernel
theorem dX0_makeAboveZero_0 : decode cX0_makeAboveZero 0 = .ok (.aload_n 0, 1) := by decide +kernel
theorem dX0_makeAboveZero_1 : decode cX0_makeAboveZero 1 = .ok (.getfield 13, 3) := by decide +kernel
theorem dX0_makeAboveZero_4 : decode cX0_makeAboveZero 4 = .ok (.iload_n 1, 1) := by decide +kernel
theorem dX0_makeAboveZero_5 : decode cX0_makeAboveZero 5 = .ok (.aaload, 1) := by decide +kernel
theorem dX0_makeAboveZero_6 : decode cX0_makeAboveZero 6 = .ok (.iload_n 2, 1) := by decide +kernel
theorem dX0_makeAboveZero_7 : decode cX0_makeAboveZero 7 = .ok (.laload, 1) := by decide +kernel
theorem dX0_makeAboveZero_8 : decode cX0_makeAboveZero 8 = .ok (.lconst 0, 1) := by decide +kernel
theorem dX0_makeAboveZero_9 : decode cX0_makeAboveZero 9 = .ok (.lcmp, 1) := by decide +kernel
theorem dX0_makeAboveZero_10 : decode cX0_makeAboveZero 10 = .ok (.ifCond .ge 36, 3) := by decide +kernel
theorem dX0_makeAboveZero_13 : decode cX0_makeAboveZero 13 = .ok (.iconst 0, 1) := by decide +kernel
theorem dX0_makeAboveZero_14 : decode cX0_makeAboveZero 14 = .ok (.istore_n 3, 1) := by decide +kernel
theorem dX0_makeAboveZero_15 : decode cX0_makeAboveZero 15 = .ok (.iload_n 3, 1) := by decide +kernel
theorem dX0_makeAboveZero_16 : decode cX0_makeAboveZero 16 = .ok (.aload_n 0, 1) := by decide +kernel
theorem dX0_makeAboveZero_17 : decode cX0_makeAboveZero 17 = .ok (.getfield 20, 3) := by decide +kernel
theorem dX0_makeAboveZero_20 : decode cX0_makeAboveZero 20 = .ok (.if_icmp .gt 26, 3) := by decide +kernel
theorem dX0_makeAboveZero_23 : decode cX0_makeAboveZero 23 = .ok (.aload_n 0, 1) := by decide +kernel
theorem dX0_makeAboveZero_24 : decode cX0_makeAboveZero 24 = .ok (.getfield 13, 3) := by decide +kernel
theorem dX0_makeAboveZero_27 : decode cX0_makeAboveZero 27 = .ok (.iload_n 1, 1) := by decide +kernel
theorem dX0_makeAboveZero_28 : decode cX0_makeAboveZero 28 = .ok (.aaload, 1) := by decide +kernel
theorem dX0_makeAboveZero_29 : decode cX0_makeAboveZero 29 = .ok (.iload_n 3, 1) := by decide +kernel
theorem dX0_makeAboveZero_30 : decode cX0_makeAboveZero 30 = .ok (.aload_n 0, 1) := by decide +kernel
theorem dX0_makeAboveZero_31 : decode cX0_makeAboveZero 31 = .ok (.getfield 13, 3) := by decide +kernel
theorem dX0_makeAboveZero_34 : decode cX0_makeAboveZero 34 = .ok (.iload_n 1, 1) := by decide +kernel
theorem dX0_makeAboveZero_35 : decode cX0_makeAboveZero 35 = .ok (.aaload, 1) := by decide +kernel
theorem dX0_makeAboveZero_36 : decode cX0_makeAboveZero 36 = .ok (.iload_n 3, 1) := by decide +kernel
theorem dX0_makeAboveZero_37 : decode cX0_makeAboveZero 37 = .ok (.laload, 1) := by decide +kernel
theorem dX0_makeAboveZero_38 : decode cX0_makeAboveZero 38 = .ok (.lneg, 1) := by decide +kernel
theorem dX0_makeAboveZero_39 : decode cX0_makeAboveZero 39 = .ok (.lastore, 1) := by decide +kernel
theorem dX0_makeAboveZero_40 : decode cX0_makeAboveZero 40 = .ok (.iinc 3 1, 3) := by decide +kernel
theorem dX0_makeAboveZero_43 : decode cX0_makeAboveZero 43 = .ok (.goto (-28), 3) := by decide +kernel
theorem dX0_makeAboveZero_46 : decode cX0_makeAboveZero 46 = .ok (.return_, 1) := by decide +kernel
theorem dX0_clearColumn_0 : decode cX0_clearColumn 0 = .ok (.aload_n 0, 1) := by decide +kernel
theorem dX0_clearColumn_1 : decode cX0_clearColumn 1 = .ok (.getfield 13, 3) := by decide +kernel
theorem dX0_clearColumn_4 : decode cX0_clearColumn 4 = .ok (.iload_n 1, 1) := by decide +kernel
theorem dX0_clearColumn_5 : decode cX0_clearColumn 5 = .ok (.aaload, 1) := by decide +kernel
theorem dX0_clearColumn_6 : decode cX0_clearColumn 6 = .ok (.iload_n 2, 1) := by decide +kernel
theorem dX0_clearColumn_7 : decode cX0_clearColumn 7 = .ok (.laload, 1) := by decide +kernel
theorem dX0_clearColumn_8 : decode cX0_clearColumn 8 = .ok (.lstore_n 3, 1) := by decide +kernel
theorem dX0_clearColumn_9 : decode cX0_clearColumn 9 = .ok (.iconst 0, 1) := by decide +kernel
theorem dX0_clearColumn_10 : decode cX0_clearColumn 10 = .ok (.istore 5, 2) := by decide +kernel
theorem dX0_clearColumn_12 : decode cX0_clearColumn 12 = .ok (.iload 5, 2) := by decide +kernel
theorem dX0_clearColumn_14 : decode cX0_clearColumn 14 = .ok (.aload_n 0, 1) := by decide +kernel
theorem dX0_clearColumn_15 : decode cX0_clearColumn 15 = .ok (.getfield 24, 3) := by decide +kernel
theorem dX0_clearColumn_18 : decode cX0_clearColumn 18 = .ok (.if_icmp .ge 92, 3) := by decide +kernel
theorem dX0_clearColumn_21 : decode cX0_clearColumn 21 = .ok (.aload_n 0, 1) := by decide +kernel
theorem dX0_clearColumn_22 : decode cX0_clearColumn 22 = .ok (.getfield 13, 3) := by decide +kernel
theorem dX0_clearColumn_25 : decode cX0_clearColumn 25 = .ok (.iload 5, 2) := by decide +kernel
theorem dX0_clearColumn_27 : decode cX0_clearColumn 27 = .ok (.aaload, 1) := by decide +kernel
theorem dX0_clearColumn_28 : decode cX0_clearColumn 28 = .ok (.iload_n 2, 1) := by decide +kernel
theorem dX0_clearColumn_29 : decode cX0_clearColumn 29 = .ok (.laload, 1) := by decide +kernel
theorem dX0_clearColumn_30 : decode cX0_clearColumn 30 = .ok (.lstore 6, 2) := by decide +kernel
theorem dX0_clearColumn_32 : decode cX0_clearColumn 32 = .ok (.iload 5, 2) := by decide +kernel
theorem dX0_clearColumn_34 : decode cX0_clearColumn 34 = .ok (.iload_n 1, 1) := by decide +kernel
theorem dX0_clearColumn_35 : decode cX0_clearColumn 35 = .ok (.if_icmp .eq 69, 3) := by decide +kernel
theorem dX0_clearColumn_38 : decode cX0_clearColumn 38 = .ok (.lload 6, 2) := by decide +kernel
theorem dX0_clearColumn_40 : decode cX0_clearColumn 40 = .ok (.lconst 0, 1) := by decide +kernel
theorem dX0_clearColumn_41 : decode cX0_clearColumn 41 = .ok (.lcmp, 1) := by decide +kernel
theorem dX0_clearColumn_42 : decode cX0_clearColumn 42 = .ok (.ifCond .eq 62, 3) := by decide +kernel
theorem dX0_clearColumn_45 : decode cX0_clearColumn 45 = .ok (.iconst 0, 1) := by decide +kernel
theorem dX0_clearColumn_46 : decode cX0_clearColumn 46 = .ok (.istore 8, 2) := by decide +kernel
theorem dX0_clearColumn_48 : decode cX0_clearColumn 48 = .ok (.iload 8, 2) := by decide +kernel
theorem dX0_clearColumn_50 : decode cX0_clearColumn 50 = .ok (.aload_n 0, 1) := by decide +kernel
theorem dX0_clearColumn_51 : decode cX0_clearColumn 51 = .ok (.getfield 20, 3) := by decide +kernel
theorem dX0_clearColumn_54 : decode cX0_clearColumn 54 = .ok (.if_icmp .gt 44, 3) := by decide +kernel
theorem dX0_clearColumn_57 : decode cX0_clearColumn 57 = .ok (.aload_n 0, 1) := by decide +kernel
theorem dX0_clearColumn_58 : decode cX0_clearColumn 58 = .ok (.getfield 13, 3) := by decide +kernel
theorem dX0_clearColumn_61 : decode cX0_clearColumn 61 = .ok (.iload 5, 2) := by decide +kernel
theorem dX0_clearColumn_63 : decode cX0_clearColumn 63 = .ok (.aaload, 1) := by decide +kernel
theorem dX0_clearColumn_64 : decode cX0_clearColumn 64 = .ok (.iload 8, 2) := by decide +kernel
theorem dX0_clearColumn_66 : decode cX0_clearColumn 66 = .ok (.aload_n 0, 1) := by decide +kernel
theorem dX0_clearColumn_67 : decode cX0_clearColumn 67 = .ok (.getfield 13, 3) := by decide +kernel
theorem dX0_clearColumn_70 : decode cX0_clearColumn 70 = .ok (.iload 5, 2) := by decide +kernel
theorem dX0_clearColumn_72 : decode cX0_clearColumn 72 = .ok (.aaload, 1) := by decide +kernel
theorem dX0_clearColumn_73 : decode cX0_clearColumn 73 = .ok (.iload 8, 2) := by decide +kernel
theorem dX0_clearColumn_75 : decode cX0_clearColumn 75 = .ok (.laload, 1) := by decide +kernel
theorem dX0_clearColumn_76 : decode cX0_clearColumn 76 = .ok (.lload_n 3, 1) := by decide +kernel
theorem dX0_clearColumn_77 : decode cX0_clearColumn 77 = .ok (.lmul, 1) := by decide +kernel
theorem dX0_clearColumn_78 : decode cX0_clearColumn 78 = .ok (.aload_n 0, 1) := by decide +kernel
theorem dX0_clearColumn_79 : decode cX0_clearColumn 79 = .ok (.getfield 13, 3) := by decide +kernel
theorem dX0_clearColumn_82 : decode cX0_clearColumn 82 = .ok (.iload_n 1, 1) := by decide +kernel
theorem dX0_clearColumn_83 : decode cX0_clearColumn 83 = .ok (.aaload, 1) := by decide +kernel
theorem dX0_clearColumn_84 : decode cX0_clearColumn 84 = .ok (.iload 8, 2) := by decide +kernel
theorem dX0_clearColumn_86 : decode cX0_clearColumn 86 = .ok (.laload, 1) := by decide +kernel
theorem dX0_clearColumn_87 : decode cX0_clearColumn 87 = .ok (.lload 6, 2) := by decide +kernel
theorem dX0_clearColumn_89 : decode cX0_clearColumn 89 = .ok (.lmul, 1) := by decide +kernel
theorem dX0_clearColumn_90 : decode cX0_clearColumn 90 = .ok (.lsub, 1) := by decide +kernel
theorem dX0_clearColumn_91 : decode cX0_clearColumn 91 = .ok (.lastore, 1) := by decide +kernel
theorem dX0_clearColumn_92 : decode cX0_clearColumn 92 = .ok (.iinc 8 1, 3) := by decide +kernel
theorem dX0_clearColumn_95 : decode cX0_clearColumn 95 = .ok (.goto (-47), 3) := by decide +kernel
theorem dX0_clearColumn_98 : decode cX0_clearColumn 98 = .ok (.aload_n 0, 1) := by decide +kernel
theorem dX0_clearColumn_99 : decode cX0_clearColumn 99 = .ok (.iload 5, 2) := by decide +kernel
theorem dX0_clearColumn_101 : decode cX0_clearColumn 101 = .ok (.invokevirtual 53, 3) := by decide +kernel
theorem dX0_clearColumn_104 : decode cX0_clearColumn 104 = .ok (.iinc 5 1, 3) := by decide +kernel
theorem dX0_clearColumn_107 : decode cX0_clearColumn 107 = .ok (.goto (-95), 3) := by decide +kernel
theorem dX0_clearColumn_110 : decode cX0_clearColumn 110 = .ok (.return_, 1) := by decide +kernel
theorem dX0_divideByShared_0 : decode cX0_divideByShared 0 = .ok (.lconst 0, 1) := by decide +kernel
theorem dX0_divideByShared_1 : decode cX0_divideByShared 1 = .ok (.lstore_n 2, 1) := by decide +kernel
theorem dX0_divideByShared_2 : decode cX0_divideByShared 2 = .ok (.iconst 0, 1) := by decide +kernel
theorem dX0_divideByShared_3 : decode cX0_divideByShared 3 = .ok (.istore 4, 2) := by decide +kernel
theorem dX0_divideByShared_5 : decode cX0_divideByShared 5 = .ok (.iload 4, 2) := by decide +kernel
theorem dX0_divideByShared_7 : decode cX0_divideByShared 7 = .ok (.aload_n 0, 1) := by decide +kernel
theorem dX0_divideByShared_8 : decode cX0_divideByShared 8 = .ok (.getfield 20, 3) := by decide +kernel
theorem dX0_divideByShared_11 : decode cX0_divideByShared 11 = .ok (.if_icmp .gt 23, 3) := by decide +kernel
theorem dX0_divideByShared_14 : decode cX0_divideByShared 14 = .ok (.lload_n 2, 1) := by decide +kernel
theorem dX0_divideByShared_15 : decode cX0_divideByShared 15 = .ok (.aload_n 0, 1) := by decide +kernel
theorem dX0_divideByShared_16 : decode cX0_divideByShared 16 = .ok (.getfield 13, 3) := by decide +kernel
theorem dX0_divideByShared_19 : decode cX0_divideByShared 19 = .ok (.iload_n 1, 1) := by decide +kernel
theorem dX0_divideByShared_20 : decode cX0_divideByShared 20 = .ok (.aaload, 1) := by decide +kernel
theorem dX0_divideByShared_21 : decode cX0_divideByShared 21 = .ok (.iload 4, 2) := by decide +kernel
theorem dX0_divideByShared_23 : decode cX0_divideByShared 23 = .ok (.laload, 1) := by decide +kernel
theorem dX0_divideByShared_24 : decode cX0_divideByShared 24 = .ok (.invokestatic 57, 3) := by decide +kernel
theorem dX0_divideByShared_27 : decode cX0_divideByShared 27 = .ok (.lstore_n 2, 1) := by decide +kernel
theorem dX0_divideByShared_28 : decode cX0_divideByShared 28 = .ok (.iinc 4 1, 3) := by decide +kernel
theorem dX0_divideByShared_31 : decode cX0_divideByShared 31 = .ok (.goto (-26), 3) := by decide +kernel
theorem dX0_divideByShared_34 : decode cX0_divideByShared 34 = .ok (.lload_n 2, 1) := by decide +kernel
theorem dX0_divideByShared_35 : decode cX0_divideByShared 35 = .ok (.lconst 1, 1) := by decide +kernel
theorem dX0_divideByShared_36 : decode cX0_divideByShared 36 = .ok (.lcmp, 1) := by decide +kernel
theorem dX0_divideByShared_37 : decode cX0_divideByShared 37 = .ok (.ifCond .le 34, 3) := by decide +kernel
theorem dX0_divideByShared_40 : decode cX0_divideByShared 40 = .ok (.iconst 0, 1) := by decide +kernel
theorem dX0_divideByShared_41 : decode cX0_divideByShared 41 = .ok (.istore 4, 2) := by decide +kernel
theorem dX0_divideByShared_43 : decode cX0_divideByShared 43 = .ok (.iload 4, 2) := by decide +kernel
theorem dX0_divideByShared_45 : decode cX0_divideByShared 45 = .ok (.aload_n 0, 1) := by decide +kernel
theorem dX0_divideByShared_46 : decode cX0_divideByShared 46 = .ok (.getfield 20, 3) := by decide +kernel
theorem dX0_divideByShared_49 : decode cX0_divideByShared 49 = .ok (.if_icmp .gt 22, 3) := by decide +kernel
theorem dX0_divideByShared_52 : decode cX0_divideByShared 52 = .ok (.aload_n 0, 1) := by decide +kernel
theorem dX0_divideByShared_53 : decode cX0_divideByShared 53 = .ok (.getfield 13, 3) := by decide +kernel
theorem dX0_divideByShared_56 : decode cX0_divideByShared 56 = .ok (.iload_n 1, 1) := by decide +kernel
theorem dX0_divideByShared_57 : decode cX0_divideByShared 57 = .ok (.aaload, 1) := by decide +kernel
theorem dX0_divideByShared_58 : decode cX0_divideByShared 58 = .ok (.iload 4, 2) := by decide +kernel
theorem dX0_divideByShared_60 : decode cX0_divideByShared 60 = .ok (.dup2, 1) := by decide +kernel
theorem dX0_divideByShared_61 : decode cX0_divideByShared 61 = .ok (.laload, 1) := by decide +kernel
theorem dX0_divideByShared_62 : decode cX0_divideByShared 62 = .ok (.lload_n 2, 1) := by decide +kernel
theorem dX0_divideByShared_63 : decode cX0_divideByShared 63 = .ok (.ldiv, 1) := by decide +kernel
theorem dX0_divideByShared_64 : decode cX0_divideByShared 64 = .ok (.lastore, 1) := by decide +kernel
theorem dX0_divideByShared_65 : decode cX0_divideByShared 65 = .ok (.iinc 4 1, 3) := by decide +kernel
theorem dX0_divideByShared_68 : decode cX0_divideByShared 68 = .ok (.goto (-25), 3) := by decide +kernel
theorem dX0_divideByShared_71 : decode cX0_divideByShared 71 = .ok (.return_, 1) := by decide +kernel
theorem dX0_agrees_0 : decode cX0_agrees 0 = .ok (.aload_n 0, 1) := by decide +kernel
theorem dX0_agrees_1 : decode cX0_agrees 1 = .ok (.getfield 27, 3) := by decide +kernel
theorem dX0_agrees_4 : decode cX0_agrees 4 = .ok (.istore_n 1, 1) := by decide +kernel
theorem dX0_agrees_5 : decode cX0_agrees 5 = .ok (.iload_n 1, 1) := by decide +kernel
theorem dX0_agrees_6 : decode cX0_agrees 6 = .ok (.aload_n 0, 1) := by decide +kernel
theorem dX0_agrees_7 : decode cX0_agrees 7 = .ok (.getfield 24, 3) := by decide +kernel
theorem dX0_agrees_10 : decode cX0_agrees 10 = .ok (.if_icmp .ge 27, 3) := by decide +kernel
theorem dX0_agrees_13 : decode cX0_agrees 13 = .ok (.aload_n 0, 1) := by decide +kernel
theorem dX0_agrees_14 : decode cX0_agrees 14 = .ok (.getfield 13, 3) := by decide +kernel
theorem dX0_agrees_17 : decode cX0_agrees 17 = .ok (.iload_n 1, 1) := by decide +kernel
theorem dX0_agrees_18 : decode cX0_agrees 18 = .ok (.aaload, 1) := by decide +kernel
theorem dX0_agrees_19 : decode cX0_agrees 19 = .ok (.aload_n 0, 1) := by decide +kernel
theorem dX0_agrees_20 : decode cX0_agrees 20 = .ok (.getfield 20, 3) := by decide +kernel
theorem dX0_agrees_23 : decode cX0_agrees 23 = .ok (.laload, 1) := by decide +kernel
theorem dX0_agrees_24 : decode cX0_agrees 24 = .ok (.lconst 0, 1) := by decide +kernel
theorem dX0_agrees_25 : decode cX0_agrees 25 = .ok (.lcmp, 1) := by decide +kernel
theorem dX0_agrees_26 : decode cX0_agrees 26 = .ok (.ifCond .eq 5, 3) := by decide +kernel
theorem dX0_agrees_29 : decode cX0_agrees 29 = .ok (.iconst 0, 1) := by decide +kernel
theorem dX0_agrees_30 : decode cX0_agrees 30 = .ok (.ireturn, 1) := by decide +kernel
theorem dX0_agrees_31 : decode cX0_agrees 31 = .ok (.iinc 1 1, 3) := by decide +kernel
theorem dX0_agrees_34 : decode cX0_agrees 34 = .ok (.goto (-29), 3) := by decide +kernel
theorem dX0_agrees_37 : decode cX0_agrees 37 = .ok (.iconst 1, 1) := by decide +kernel
theorem dX0_agrees_38 : decode cX0_agrees 38 = .ok (.ireturn, 1) := by decide +kernel
theorem dX0_rowDeciding_0 : decode cX0_rowDeciding 0 = .ok (.iconst 0, 1) := by decide +kernel
theorem dX0_rowDeciding_1 : decode cX0_rowDeciding 1 = .ok (.istore_n 2, 1) := by decide +kernel
theorem dX0_rowDeciding_2 : decode cX0_rowDeciding 2 = .ok (.iload_n 2, 1) := by decide +kernel
theorem dX0_rowDeciding_3 : decode cX0_rowDeciding 3 = .ok (.aload_n 0, 1) := by decide +kernel
theorem dX0_rowDeciding_4 : decode cX0_rowDeciding 4 = .ok (.getfield 27, 3) := by decide +kernel
theorem dX0_rowDeciding_7 : decode cX0_rowDeciding 7 = .ok (.if_icmp .ge 21, 3) := by decide +kernel
theorem dX0_rowDeciding_10 : decode cX0_rowDeciding 10 = .ok (.aload_n 0, 1) := by decide +kernel
theorem dX0_rowDeciding_11 : decode cX0_rowDeciding 11 = .ok (.getfield 16, 3) := by decide +kernel
theorem dX0_rowDeciding_14 : decode cX0_rowDeciding 14 = .ok (.iload_n 2, 1) := by decide +kernel
theorem dX0_rowDeciding_15 : decode cX0_rowDeciding 15 = .ok (.iaload, 1) := by decide +kernel
theorem dX0_rowDeciding_16 : decode cX0_rowDeciding 16 = .ok (.iload_n 1, 1) := by decide +kernel
theorem dX0_rowDeciding_17 : decode cX0_rowDeciding 17 = .ok (.if_icmp .ne 5, 3) := by decide +kernel
theorem dX0_rowDeciding_20 : decode cX0_rowDeciding 20 = .ok (.iload_n 2, 1) := by decide +kernel
theorem dX0_rowDeciding_21 : decode cX0_rowDeciding 21 = .ok (.ireturn, 1) := by decide +kernel
theorem dX0_rowDeciding_22 : decode cX0_rowDeciding 22 = .ok (.iinc 2 1, 3) := by decide +kernel
theorem dX0_rowDeciding_25 : decode cX0_rowDeciding 25 = .ok (.goto (-23), 3) := by decide +kernel
theorem dX0_rowDeciding_28 : decode cX0_rowDeciding 28 = .ok (.iconst (-1), 1) := by decide +kernel
theorem dX0_rowDeciding_29 : decode cX0_rowDeciding 29 = .ok (.ireturn, 1) := by decide +kernel
theorem dX0_freeUnknown_0 : decode cX0_freeUnknown 0 = .ok (.iconst 0, 1) := by decide +kernel
theorem dX0_freeUnknown_1 : decode cX0_freeUnknown 1 = .ok (.istore_n 2, 1) := by decide +kernel
theorem dX0_freeUnknown_2 : decode cX0_freeUnknown 2 = .ok (.iconst 0, 1) := by decide +kernel
theorem dX0_freeUnknown_3 : decode cX0_freeUnknown 3 = .ok (.istore_n 3, 1) := by decide +kernel
theorem dX0_freeUnknown_4 : decode cX0_freeUnknown 4 = .ok (.iload_n 3, 1) := by decide +kernel
theorem dX0_freeUnknown_5 : decode cX0_freeUnknown 5 = .ok (.aload_n 0, 1) := by decide +kernel
theorem dX0_freeUnknown_6 : decode cX0_freeUnknown 6 = .ok (.getfield 20, 3) := by decide +kernel
theorem dX0_freeUnknown_9 : decode cX0_freeUnknown 9 = .ok (.if_icmp .ge 27, 3) := by decide +kernel
theorem dX0_freeUnknown_12 : decode cX0_freeUnknown 12 = .ok (.aload_n 0, 1) := by decide +kernel
theorem dX0_freeUnknown_13 : decode cX0_freeUnknown 13 = .ok (.iload_n 3, 1) := by decide +kernel
theorem dX0_freeUnknown_14 : decode cX0_freeUnknown 14 = .ok (.invokevirtual 61, 3) := by decide +kernel
theorem dX0_freeUnknown_17 : decode cX0_freeUnknown 17 = .ok (.ifCond .ge 13, 3) := by decide +kernel
theorem dX0_freeUnknown_20 : decode cX0_freeUnknown 20 = .ok (.iload_n 2, 1) := by decide +kernel
theorem dX0_freeUnknown_21 : decode cX0_freeUnknown 21 = .ok (.iload_n 1, 1) := by decide +kernel
theorem dX0_freeUnknown_22 : decode cX0_freeUnknown 22 = .ok (.if_icmp .ne 5, 3) := by decide +kernel
theorem dX0_freeUnknown_25 : decode cX0_freeUnknown 25 = .ok (.iload_n 3, 1) := by decide +kernel
theorem dX0_freeUnknown_26 : decode cX0_freeUnknown 26 = .ok (.ireturn, 1) := by decide +kernel
theorem dX0_freeUnknown_27 : decode cX0_freeUnknown 27 = .ok (.iinc 2 1, 3) := by decide +kernel
theorem dX0_freeUnknown_30 : decode cX0_freeUnknown 30 = .ok (.iinc 3 1, 3) := by decide +kernel
theorem dX0_freeUnknown_33 : decode cX0_freeUnknown 33 = .ok (.goto (-29), 3) := by decide +kernel
theorem dX0_freeUnknown_36 : decode cX0_freeUnknown 36 = .ok (.iconst (-1), 1) := by decide +kernel
theorem dX0_freeUnknown_37 : decode cX0_freeUnknown 37 = .ok (.ireturn, 1) := by decide +kernel
theorem dX0_plainPart_0 : decode cX0_plainPart 0 = .ok (.aload_n 0, 1) := by decide +kernel
theorem dX0_plainPart_1 : decode cX0_plainPart 1 = .ok (.iload_n 1, 1) := by decide +kernel
theorem dX0_plainPart_2 : decode cX0_plainPart 2 = .ok (.invokevirtual 61, 3) := by decide +kernel
theorem dX0_plainPart_5 : decode cX0_plainPart 5 = .ok (.istore_n 3, 1) := by decide +kernel
theorem dX0_plainPart_6 : decode cX0_plainPart 6 = .ok (.iload_n 3, 1) := by decide +kernel
theorem dX0_plainPart_7 : decode cX0_plainPart 7 = .ok (.ifCond .ge 10, 3) := by decide +kernel
theorem dX0_plainPart_10 : decode cX0_plainPart 10 = .ok (.lconst 0, 1) := by decide +kernel
theorem dX0_plainPart_11 : decode cX0_plainPart 11 = .ok (.lconst 1, 1) := by decide +kernel
theorem dX0_plainPart_12 : decode cX0_plainPart 12 = .ok (.iload_n 2, 1) := by decide +kernel
theorem dX0_plainPart_13 : decode cX0_plainPart 13 = .ok (.invokestatic 64, 3) := by decide +kernel
theorem dX0_plainPart_16 : decode cX0_plainPart 16 = .ok (.lreturn, 1) := by decide +kernel
theorem dX0_plainPart_17 : decode cX0_plainPart 17 = .ok (.aload_n 0, 1) := by decide +kernel
theorem dX0_plainPart_18 : decode cX0_plainPart 18 = .ok (.getfield 13, 3) := by decide +kernel
theorem dX0_plainPart_21 : decode cX0_plainPart 21 = .ok (.iload_n 3, 1) := by decide +kernel
theorem dX0_plainPart_22 : decode cX0_plainPart 22 = .ok (.aaload, 1) := by decide +kernel
theorem dX0_plainPart_23 : decode cX0_plainPart 23 = .ok (.aload_n 0, 1) := by decide +kernel
theorem dX0_plainPart_24 : decode cX0_plainPart 24 = .ok (.getfield 20, 3) := by decide +kernel
theorem dX0_plainPart_27 : decode cX0_plainPart 27 = .ok (.laload, 1) := by decide +kernel
theorem dX0_plainPart_28 : decode cX0_plainPart 28 = .ok (.aload_n 0, 1) := by decide +kernel
theorem dX0_plainPart_29 : decode cX0_plainPart 29 = .ok (.getfield 13, 3) := by decide +kernel
theorem dX0_plainPart_32 : decode cX0_plainPart 32 = .ok (.iload_n 3, 1) := by decide +kernel
theorem dX0_plainPart_33 : decode cX0_plainPart 33 = .ok (.aaload, 1) := by decide +kernel
theorem dX0_plainPart_34 : decode cX0_plainPart 34 = .ok (.iload_n 1, 1) := by decide +kernel
theorem dX0_plainPart_35 : decode cX0_plainPart 35 = .ok (.laload, 1) := by decide +kernel
theorem dX0_plainPart_36 : decode cX0_plainPart 36 = .ok (.iload_n 2, 1) := by decide +kernel
theorem dX0_plainPart_37 : decode cX0_plainPart 37 = .ok (.invokestatic 64, 3) := by decide +kernel
theorem dX0_plainPart_40 : decode cX0_plainPart 40 = .ok (.lreturn, 1) := by decide +kernel
theorem dX0_directionPart_0 : decode cX0_directionPart 0 = .ok (.aload_n 0, 1) := by decide +kernel
theorem dX0_directionPart_1 : decode cX0_directionPart 1 = .ok (.iload_n 2, 1) := by decide +kernel
theorem dX0_directionPart_2 : decode cX0_directionPart 2 = .ok (.invokevirtual 61, 3) := by decide +kernel
theorem dX0_directionPart_5 : decode cX0_directionPart 5 = .ok (.istore 4, 2) := by decide +kernel
theorem dX0_directionPart_7 : decode cX0_directionPart 7 = .ok (.iload 4, 2) := by decide +kernel
theorem dX0_directionPart_9 : decode cX0_directionPart 9 = .ok (.ifCond .ge 19, 3) := by decide +kernel
theorem dX0_directionPart_12 : decode cX0_directionPart 12 = .ok (.iload_n 2, 1) := by decide +kernel
theorem dX0_directionPart_13 : decode cX0_directionPart 13 = .ok (.iload_n 1, 1) := by decide +kernel
theorem dX0_directionPart_14 : decode cX0_directionPart 14 = .ok (.if_icmp .ne 7, 3) := by decide +kernel
theorem dX0_directionPart_17 : decode cX0_directionPart 17 = .ok (.lconst 1, 1) := by decide +kernel
theorem dX0_directionPart_18 : decode cX0_directionPart 18 = .ok (.goto 4, 3) := by decide +kernel
theorem dX0_directionPart_21 : decode cX0_directionPart 21 = .ok (.lconst 0, 1) := by decide +kernel
theorem dX0_directionPart_22 : decode cX0_directionPart 22 = .ok (.lconst 1, 1) := by decide +kernel
theorem dX0_directionPart_23 : decode cX0_directionPart 23 = .ok (.iload_n 3, 1) := by decide +kernel
theorem dX0_directionPart_24 : decode cX0_directionPart 24 = .ok (.invokestatic 64, 3) := by decide +kernel
theorem dX0_directionPart_27 : decode cX0_directionPart 27 = .ok (.lreturn, 1) := by decide +kernel
theorem dX0_directionPart_28 : decode cX0_directionPart 28 = .ok (.aload_n 0, 1) := by decide +kernel
theorem dX0_directionPart_29 : decode cX0_directionPart 29 = .ok (.getfield 13, 3) := by decide +kernel
theorem dX0_directionPart_32 : decode cX0_directionPart 32 = .ok (.iload 4, 2) := by decide +kernel
theorem dX0_directionPart_34 : decode cX0_directionPart 34 = .ok (.aaload, 1) := by decide +kernel
theorem dX0_directionPart_35 : decode cX0_directionPart 35 = .ok (.iload_n 1, 1) := by decide +kernel
theorem dX0_directionPart_36 : decode cX0_directionPart 36 = .ok (.laload, 1) := by decide +kernel
theorem dX0_directionPart_37 : decode cX0_directionPart 37 = .ok (.lneg, 1) := by decide +kernel
theorem dX0_directionPart_38 : decode cX0_directionPart 38 = .ok (.aload_n 0, 1) := by decide +kernel
theorem dX0_directionPart_39 : decode cX0_directionPart 39 = .ok (.getfield 13, 3) := by decide +kernel
theorem dX0_directionPart_42 : decode cX0_directionPart 42 = .ok (.iload 4, 2) := by decide +kernel
theorem dX0_directionPart_44 : decode cX0_directionPart 44 = .ok (.aaload, 1) := by decide +kernel
theorem dX0_directionPart_45 : decode cX0_directionPart 45 = .ok (.iload_n 2, 1) := by decide +kernel
theorem dX0_directionPart_46 : decode cX0_directionPart 46 = .ok (.laload, 1) := by decide +kernel
theorem dX0_directionPart_47 : decode cX0_directionPart 47 = .ok (.iload_n 3, 1) := by decide +kernel
theorem dX0_directionPart_48 : decode cX0_directionPart 48 = .ok (.invokestatic 64, 3) := by decide +kernel
theorem dX0_directionPart_51 : decode cX0_directionPart 51 = .ok (.lreturn, 1) := by decide +kernel
