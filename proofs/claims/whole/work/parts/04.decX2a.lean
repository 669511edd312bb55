/-! decode rows of X2 -/
theorem dX2_init_0 : decode cX2_init 0 = .ok (.aload_n 0, 1) := by decide +kernel
theorem dX2_init_1 : decode cX2_init 1 = .ok (.invokespecial 1, 3) := by decide +kernel
theorem dX2_init_4 : decode cX2_init 4 = .ok (.aload_n 0, 1) := by decide +kernel
theorem dX2_init_5 : decode cX2_init 5 = .ok (.iconst 1, 1) := by decide +kernel
theorem dX2_init_6 : decode cX2_init 6 = .ok (.iconst 3, 1) := by decide +kernel
theorem dX2_init_7 : decode cX2_init 7 = .ok (.iload_n 1, 1) := by decide +kernel
theorem dX2_init_8 : decode cX2_init 8 = .ok (.invokestatic 9, 3) := by decide +kernel
theorem dX2_init_11 : decode cX2_init 11 = .ok (.invokestatic 15, 3) := by decide +kernel
theorem dX2_init_14 : decode cX2_init 14 = .ok (.putfield 18, 3) := by decide +kernel
theorem dX2_init_17 : decode cX2_init 17 = .ok (.aload_n 0, 1) := by decide +kernel
theorem dX2_init_18 : decode cX2_init 18 = .ok (.iconst 3, 1) := by decide +kernel
theorem dX2_init_19 : decode cX2_init 19 = .ok (.iconst 4, 1) := by decide +kernel
theorem dX2_init_20 : decode cX2_init 20 = .ok (.multianewarray 22 2, 4) := by decide +kernel
theorem dX2_init_24 : decode cX2_init 24 = .ok (.putfield 24, 3) := by decide +kernel
theorem dX2_init_27 : decode cX2_init 27 = .ok (.aload_n 0, 1) := by decide +kernel
theorem dX2_init_28 : decode cX2_init 28 = .ok (.new 27, 3) := by decide +kernel
theorem dX2_init_31 : decode cX2_init 31 = .ok (.dup, 1) := by decide +kernel
theorem dX2_init_32 : decode cX2_init 32 = .ok (.invokespecial 29, 3) := by decide +kernel
theorem dX2_init_35 : decode cX2_init 35 = .ok (.putfield 30, 3) := by decide +kernel
theorem dX2_init_38 : decode cX2_init 38 = .ok (.aload_n 0, 1) := by decide +kernel
theorem dX2_init_39 : decode cX2_init 39 = .ok (.new 34, 3) := by decide +kernel
theorem dX2_init_42 : decode cX2_init 42 = .ok (.dup, 1) := by decide +kernel
theorem dX2_init_43 : decode cX2_init 43 = .ok (.invokespecial 36, 3) := by decide +kernel
theorem dX2_init_46 : decode cX2_init 46 = .ok (.putfield 37, 3) := by decide +kernel
theorem dX2_init_49 : decode cX2_init 49 = .ok (.aload_n 0, 1) := by decide +kernel
theorem dX2_init_50 : decode cX2_init 50 = .ok (.iconst 0, 1) := by decide +kernel
theorem dX2_init_51 : decode cX2_init 51 = .ok (.putfield 41, 3) := by decide +kernel
theorem dX2_init_54 : decode cX2_init 54 = .ok (.return_, 1) := by decide +kernel
theorem dX2_equation_0 : decode cX2_equation 0 = .ok (.aload_n 0, 1) := by decide +kernel
theorem dX2_equation_1 : decode cX2_equation 1 = .ok (.getfield 41, 3) := by decide +kernel
theorem dX2_equation_4 : decode cX2_equation 4 = .ok (.iconst 3, 1) := by decide +kernel
theorem dX2_equation_5 : decode cX2_equation 5 = .ok (.if_icmp .lt 13, 3) := by decide +kernel
theorem dX2_equation_8 : decode cX2_equation 8 = .ok (.new 44, 3) := by decide +kernel
theorem dX2_equation_11 : decode cX2_equation 11 = .ok (.dup, 1) := by decide +kernel
theorem dX2_equation_12 : decode cX2_equation 12 = .ok (.ldc 46, 2) := by decide +kernel
theorem dX2_equation_14 : decode cX2_equation 14 = .ok (.invokespecial 48, 3) := by decide +kernel
theorem dX2_equation_17 : decode cX2_equation 17 = .ok (.athrow, 1) := by decide +kernel
theorem dX2_equation_18 : decode cX2_equation 18 = .ok (.iconst 0, 1) := by decide +kernel
theorem dX2_equation_19 : decode cX2_equation 19 = .ok (.istore_n 1, 1) := by decide +kernel
theorem dX2_equation_20 : decode cX2_equation 20 = .ok (.iload_n 1, 1) := by decide +kernel
theorem dX2_equation_21 : decode cX2_equation 21 = .ok (.aload_n 0, 1) := by decide +kernel
theorem dX2_equation_22 : decode cX2_equation 22 = .ok (.getfield 18, 3) := by decide +kernel
theorem dX2_equation_25 : decode cX2_equation 25 = .ok (.if_icmp .gt 21, 3) := by decide +kernel
theorem dX2_equation_28 : decode cX2_equation 28 = .ok (.aload_n 0, 1) := by decide +kernel
theorem dX2_equation_29 : decode cX2_equation 29 = .ok (.getfield 24, 3) := by decide +kernel
theorem dX2_equation_32 : decode cX2_equation 32 = .ok (.aload_n 0, 1) := by decide +kernel
theorem dX2_equation_33 : decode cX2_equation 33 = .ok (.getfield 41, 3) := by decide +kernel
theorem dX2_equation_36 : decode cX2_equation 36 = .ok (.aaload, 1) := by decide +kernel
theorem dX2_equation_37 : decode cX2_equation 37 = .ok (.iload_n 1, 1) := by decide +kernel
theorem dX2_equation_38 : decode cX2_equation 38 = .ok (.iconst 0, 1) := by decide +kernel
theorem dX2_equation_39 : decode cX2_equation 39 = .ok (.iastore, 1) := by decide +kernel
theorem dX2_equation_40 : decode cX2_equation 40 = .ok (.iinc 1 1, 3) := by decide +kernel
theorem dX2_equation_43 : decode cX2_equation 43 = .ok (.goto (-23), 3) := by decide +kernel
theorem dX2_equation_46 : decode cX2_equation 46 = .ok (.aload_n 0, 1) := by decide +kernel
theorem dX2_equation_47 : decode cX2_equation 47 = .ok (.dup, 1) := by decide +kernel
theorem dX2_equation_48 : decode cX2_equation 48 = .ok (.getfield 41, 3) := by decide +kernel
theorem dX2_equation_51 : decode cX2_equation 51 = .ok (.iconst 1, 1) := by decide +kernel
theorem dX2_equation_52 : decode cX2_equation 52 = .ok (.iadd, 1) := by decide +kernel
theorem dX2_equation_53 : decode cX2_equation 53 = .ok (.putfield 41, 3) := by decide +kernel
theorem dX2_equation_56 : decode cX2_equation 56 = .ok (.aload_n 0, 1) := by decide +kernel
theorem dX2_equation_57 : decode cX2_equation 57 = .ok (.getfield 41, 3) := by decide +kernel
theorem dX2_equation_60 : decode cX2_equation 60 = .ok (.iconst 1, 1) := by decide +kernel
theorem dX2_equation_61 : decode cX2_equation 61 = .ok (.isub, 1) := by decide +kernel
theorem dX2_equation_62 : decode cX2_equation 62 = .ok (.ireturn, 1) := by decide +kernel
theorem dX2_put_0 : decode cX2_put 0 = .ok (.aload_n 0, 1) := by decide +kernel
theorem dX2_put_1 : decode cX2_put 1 = .ok (.iload_n 1, 1) := by decide +kernel
theorem dX2_put_2 : decode cX2_put 2 = .ok (.iload_n 2, 1) := by decide +kernel
theorem dX2_put_3 : decode cX2_put 3 = .ok (.invokevirtual 51, 3) := by decide +kernel
theorem dX2_put_6 : decode cX2_put 6 = .ok (.ifCond .ne 13, 3) := by decide +kernel
theorem dX2_put_9 : decode cX2_put 9 = .ok (.new 55, 3) := by decide +kernel
theorem dX2_put_12 : decode cX2_put 12 = .ok (.dup, 1) := by decide +kernel
theorem dX2_put_13 : decode cX2_put 13 = .ok (.ldc 57, 2) := by decide +kernel
theorem dX2_put_15 : decode cX2_put 15 = .ok (.invokespecial 59, 3) := by decide +kernel
theorem dX2_put_18 : decode cX2_put 18 = .ok (.athrow, 1) := by decide +kernel
theorem dX2_put_19 : decode cX2_put 19 = .ok (.iload_n 3, 1) := by decide +kernel
theorem dX2_put_20 : decode cX2_put 20 = .ok (.bipush (-9), 2) := by decide +kernel
theorem dX2_put_22 : decode cX2_put 22 = .ok (.if_icmp .lt 9, 3) := by decide +kernel
theorem dX2_put_25 : decode cX2_put 25 = .ok (.iload_n 3, 1) := by decide +kernel
theorem dX2_put_26 : decode cX2_put 26 = .ok (.bipush 9, 2) := by decide +kernel
theorem dX2_put_28 : decode cX2_put 28 = .ok (.if_icmp .le 13, 3) := by decide +kernel
theorem dX2_put_31 : decode cX2_put 31 = .ok (.new 60, 3) := by decide +kernel
theorem dX2_put_34 : decode cX2_put 34 = .ok (.dup, 1) := by decide +kernel
theorem dX2_put_35 : decode cX2_put 35 = .ok (.ldc 62, 2) := by decide +kernel
theorem dX2_put_37 : decode cX2_put 37 = .ok (.invokespecial 64, 3) := by decide +kernel
theorem dX2_put_40 : decode cX2_put 40 = .ok (.athrow, 1) := by decide +kernel
theorem dX2_put_41 : decode cX2_put 41 = .ok (.aload_n 0, 1) := by decide +kernel
theorem dX2_put_42 : decode cX2_put 42 = .ok (.getfield 24, 3) := by decide +kernel
theorem dX2_put_45 : decode cX2_put 45 = .ok (.iload_n 1, 1) := by decide +kernel
theorem dX2_put_46 : decode cX2_put 46 = .ok (.aaload, 1) := by decide +kernel
theorem dX2_put_47 : decode cX2_put 47 = .ok (.iload_n 2, 1) := by decide +kernel
theorem dX2_put_48 : decode cX2_put 48 = .ok (.iaload, 1) := by decide +kernel
theorem dX2_put_49 : decode cX2_put 49 = .ok (.iload_n 3, 1) := by decide +kernel
theorem dX2_put_50 : decode cX2_put 50 = .ok (.if_icmp .eq 7, 3) := by decide +kernel
theorem dX2_put_53 : decode cX2_put 53 = .ok (.iconst 1, 1) := by decide +kernel
theorem dX2_put_54 : decode cX2_put 54 = .ok (.goto 4, 3) := by decide +kernel
theorem dX2_put_57 : decode cX2_put 57 = .ok (.iconst 0, 1) := by decide +kernel
theorem dX2_put_58 : decode cX2_put 58 = .ok (.istore 4, 2) := by decide +kernel
theorem dX2_put_60 : decode cX2_put 60 = .ok (.aload_n 0, 1) := by decide +kernel
theorem dX2_put_61 : decode cX2_put 61 = .ok (.getfield 24, 3) := by decide +kernel
theorem dX2_put_64 : decode cX2_put 64 = .ok (.iload_n 1, 1) := by decide +kernel
theorem dX2_put_65 : decode cX2_put 65 = .ok (.aaload, 1) := by decide +kernel
theorem dX2_put_66 : decode cX2_put 66 = .ok (.iload_n 2, 1) := by decide +kernel
theorem dX2_put_67 : decode cX2_put 67 = .ok (.iload_n 3, 1) := by decide +kernel
theorem dX2_put_68 : decode cX2_put 68 = .ok (.iastore, 1) := by decide +kernel
theorem dX2_put_69 : decode cX2_put 69 = .ok (.iload 4, 2) := by decide +kernel
theorem dX2_put_71 : decode cX2_put 71 = .ok (.ireturn, 1) := by decide +kernel
theorem dX2_at_0 : decode cX2_at 0 = .ok (.aload_n 0, 1) := by decide +kernel
theorem dX2_at_1 : decode cX2_at 1 = .ok (.iload_n 1, 1) := by decide +kernel
theorem dX2_at_2 : decode cX2_at 2 = .ok (.iload_n 2, 1) := by decide +kernel
theorem dX2_at_3 : decode cX2_at 3 = .ok (.invokevirtual 51, 3) := by decide +kernel
theorem dX2_at_6 : decode cX2_at 6 = .ok (.ifCond .ne 13, 3) := by decide +kernel
theorem dX2_at_9 : decode cX2_at 9 = .ok (.new 55, 3) := by decide +kernel
theorem dX2_at_12 : decode cX2_at 12 = .ok (.dup, 1) := by decide +kernel
theorem dX2_at_13 : decode cX2_at 13 = .ok (.ldc 57, 2) := by decide +kernel
theorem dX2_at_15 : decode cX2_at 15 = .ok (.invokespecial 59, 3) := by decide +kernel
theorem dX2_at_18 : decode cX2_at 18 = .ok (.athrow, 1) := by decide +kernel
theorem dX2_at_19 : decode cX2_at 19 = .ok (.aload_n 0, 1) := by decide +kernel
theorem dX2_at_20 : decode cX2_at 20 = .ok (.getfield 24, 3) := by decide +kernel
theorem dX2_at_23 : decode cX2_at 23 = .ok (.iload_n 1, 1) := by decide +kernel
theorem dX2_at_24 : decode cX2_at 24 = .ok (.aaload, 1) := by decide +kernel
theorem dX2_at_25 : decode cX2_at 25 = .ok (.iload_n 2, 1) := by decide +kernel
theorem dX2_at_26 : decode cX2_at 26 = .ok (.iaload, 1) := by decide +kernel
theorem dX2_at_27 : decode cX2_at 27 = .ok (.ireturn, 1) := by decide +kernel
theorem dX2_rank_0 : decode cX2_rank 0 = .ok (.aload_n 0, 1) := by decide +kernel
theorem dX2_rank_1 : decode cX2_rank 1 = .ok (.invokevirtual 65, 3) := by decide +kernel
theorem dX2_rank_4 : decode cX2_rank 4 = .ok (.aload_n 0, 1) := by decide +kernel
theorem dX2_rank_5 : decode cX2_rank 5 = .ok (.getfield 30, 3) := by decide +kernel
theorem dX2_rank_8 : decode cX2_rank 8 = .ok (.getfield 68, 3) := by decide +kernel
theorem dX2_rank_11 : decode cX2_rank 11 = .ok (.ireturn, 1) := by decide +kernel
theorem dX2_solutions_0 : decode cX2_solutions 0 = .ok (.aload_n 0, 1) := by decide +kernel
theorem dX2_solutions_1 : decode cX2_solutions 1 = .ok (.invokevirtual 65, 3) := by decide +kernel
theorem dX2_solutions_4 : decode cX2_solutions 4 = .ok (.aload_n 0, 1) := by decide +kernel
theorem dX2_solutions_5 : decode cX2_solutions 5 = .ok (.getfield 30, 3) := by decide +kernel
theorem dX2_solutions_8 : decode cX2_solutions 8 = .ok (.invokevirtual 71, 3) := by decide +kernel
theorem dX2_solutions_11 : decode cX2_solutions 11 = .ok (.ifCond .eq 18, 3) := by decide +kernel
theorem dX2_solutions_14 : decode cX2_solutions 14 = .ok (.aload_n 0, 1) := by decide +kernel
theorem dX2_solutions_15 : decode cX2_solutions 15 = .ok (.getfield 18, 3) := by decide +kernel
theorem dX2_solutions_18 : decode cX2_solutions 18 = .ok (.aload_n 0, 1) := by decide +kernel
theorem dX2_solutions_19 : decode cX2_solutions 19 = .ok (.getfield 30, 3) := by decide +kernel
theorem dX2_solutions_22 : decode cX2_solutions 22 = .ok (.getfield 68, 3) := by decide +kernel
theorem dX2_solutions_25 : decode cX2_solutions 25 = .ok (.isub, 1) := by decide +kernel
theorem dX2_solutions_26 : decode cX2_solutions 26 = .ok (.goto 4, 3) := by decide +kernel
theorem dX2_solutions_29 : decode cX2_solutions 29 = .ok (.iconst (-1), 1) := by decide +kernel
theorem dX2_solutions_30 : decode cX2_solutions 30 = .ok (.ireturn, 1) := by decide +kernel
theorem dX2_free_0 : decode cX2_free 0 = .ok (.aload_n 0, 1) := by decide +kernel
theorem dX2_free_1 : decode cX2_free 1 = .ok (.invokevirtual 65, 3) := by decide +kernel
theorem dX2_free_4 : decode cX2_free 4 = .ok (.aload_n 0, 1) := by decide +kernel
theorem dX2_free_5 : decode cX2_free 5 = .ok (.getfield 30, 3) := by decide +kernel
theorem dX2_free_8 : decode cX2_free 8 = .ok (.iload_n 1, 1) := by decide +kernel
theorem dX2_free_9 : decode cX2_free 9 = .ok (.invokevirtual 75, 3) := by decide +kernel
theorem dX2_free_12 : decode cX2_free 12 = .ok (.ireturn, 1) := by decide +kernel
theorem dX2_plain_0 : decode cX2_plain 0 = .ok (.aload_n 0, 1) := by decide +kernel
theorem dX2_plain_1 : decode cX2_plain 1 = .ok (.iload_n 1, 1) := by decide +kernel
theorem dX2_plain_2 : decode cX2_plain 2 = .ok (.invokevirtual 79, 3) := by decide +kernel
theorem dX2_plain_5 : decode cX2_plain 5 = .ok (.ifCond .ne 13, 3) := by decide +kernel
theorem dX2_plain_8 : decode cX2_plain 8 = .ok (.new 55, 3) := by decide +kernel
theorem dX2_plain_11 : decode cX2_plain 11 = .ok (.dup, 1) := by decide +kernel
theorem dX2_plain_12 : decode cX2_plain 12 = .ok (.ldc 83, 2) := by decide +kernel
theorem dX2_plain_14 : decode cX2_plain 14 = .ok (.invokespecial 59, 3) := by decide +kernel
theorem dX2_plain_17 : decode cX2_plain 17 = .ok (.athrow, 1) := by decide +kernel
theorem dX2_plain_18 : decode cX2_plain 18 = .ok (.aload_n 0, 1) := by decide +kernel
theorem dX2_plain_19 : decode cX2_plain 19 = .ok (.invokevirtual 65, 3) := by decide +kernel
theorem dX2_plain_22 : decode cX2_plain 22 = .ok (.aload_n 0, 1) := by decide +kernel
theorem dX2_plain_23 : decode cX2_plain 23 = .ok (.getfield 30, 3) := by decide +kernel
theorem dX2_plain_26 : decode cX2_plain 26 = .ok (.invokevirtual 71, 3) := by decide +kernel
theorem dX2_plain_29 : decode cX2_plain 29 = .ok (.ifCond .ne 13, 3) := by decide +kernel
theorem dX2_plain_32 : decode cX2_plain 32 = .ok (.new 44, 3) := by decide +kernel
theorem dX2_plain_35 : decode cX2_plain 35 = .ok (.dup, 1) := by decide +kernel
theorem dX2_plain_36 : decode cX2_plain 36 = .ok (.ldc 85, 2) := by decide +kernel
theorem dX2_plain_38 : decode cX2_plain 38 = .ok (.invokespecial 48, 3) := by decide +kernel
theorem dX2_plain_41 : decode cX2_plain 41 = .ok (.athrow, 1) := by decide +kernel
theorem dX2_plain_42 : decode cX2_plain 42 = .ok (.iload_n 2, 1) := by decide +kernel
theorem dX2_plain_43 : decode cX2_plain 43 = .ok (.invokestatic 87, 3) := by decide +kernel
theorem dX2_plain_46 : decode cX2_plain 46 = .ok (.ifCond .ne 13, 3) := by decide +kernel
theorem dX2_plain_49 : decode cX2_plain 49 = .ok (.new 60, 3) := by decide +kernel
theorem dX2_plain_52 : decode cX2_plain 52 = .ok (.dup, 1) := by decide +kernel
theorem dX2_plain_53 : decode cX2_plain 53 = .ok (.ldc 90, 2) := by decide +kernel
theorem dX2_plain_55 : decode cX2_plain 55 = .ok (.invokespecial 64, 3) := by decide +kernel
theorem dX2_plain_58 : decode cX2_plain 58 = .ok (.athrow, 1) := by decide +kernel
theorem dX2_plain_59 : decode cX2_plain 59 = .ok (.aload_n 0, 1) := by decide +kernel
theorem dX2_plain_60 : decode cX2_plain 60 = .ok (.getfield 30, 3) := by decide +kernel
theorem dX2_plain_63 : decode cX2_plain 63 = .ok (.iload_n 1, 1) := by decide +kernel
theorem dX2_plain_64 : decode cX2_plain 64 = .ok (.iload_n 2, 1) := by decide +kernel
theorem dX2_plain_65 : decode cX2_plain 65 = .ok (.invokevirtual 92, 3) := by decide +kernel
theorem dX2_plain_68 : decode cX2_plain 68 = .ok (.lreturn, 1) := by decide +kernel
theorem dX2_direction_0 : decode cX2_direction 0 = .ok (.aload_n 0, 1) := by decide +kernel
theorem dX2_direction_1 : decode cX2_direction 1 = .ok (.invokevirtual 65, 3) := by decide +kernel
theorem dX2_direction_4 : decode cX2_direction 4 = .ok (.aload_n 0, 1) := by decide +kernel
theorem dX2_direction_5 : decode cX2_direction 5 = .ok (.getfield 30, 3) := by decide +kernel
theorem dX2_direction_8 : decode cX2_direction 8 = .ok (.iload_n 1, 1) := by decide +kernel
theorem dX2_direction_9 : decode cX2_direction 9 = .ok (.invokevirtual 75, 3) := by decide +kernel
theorem dX2_direction_12 : decode cX2_direction 12 = .ok (.istore 4, 2) := by decide +kernel
theorem dX2_direction_14 : decode cX2_direction 14 = .ok (.iload 4, 2) := by decide +kernel
theorem dX2_direction_16 : decode cX2_direction 16 = .ok (.ifCond .lt 11, 3) := by decide +kernel
theorem dX2_direction_19 : decode cX2_direction 19 = .ok (.aload_n 0, 1) := by decide +kernel
theorem dX2_direction_20 : decode cX2_direction 20 = .ok (.iload_n 2, 1) := by decide +kernel
theorem dX2_direction_21 : decode cX2_direction 21 = .ok (.invokevirtual 79, 3) := by decide +kernel
theorem dX2_direction_24 : decode cX2_direction 24 = .ok (.ifCond .ne 13, 3) := by decide +kernel
theorem dX2_direction_27 : decode cX2_direction 27 = .ok (.new 55, 3) := by decide +kernel
theorem dX2_direction_30 : decode cX2_direction 30 = .ok (.dup, 1) := by decide +kernel
theorem dX2_direction_31 : decode cX2_direction 31 = .ok (.ldc 96, 2) := by decide +kernel
theorem dX2_direction_33 : decode cX2_direction 33 = .ok (.invokespecial 59, 3) := by decide +kernel
theorem dX2_direction_36 : decode cX2_direction 36 = .ok (.athrow, 1) := by decide +kernel
theorem dX2_direction_37 : decode cX2_direction 37 = .ok (.iload_n 3, 1) := by decide +kernel
theorem dX2_direction_38 : decode cX2_direction 38 = .ok (.invokestatic 87, 3) := by decide +kernel
theorem dX2_direction_41 : decode cX2_direction 41 = .ok (.ifCond .ne 13, 3) := by decide +kernel
theorem dX2_direction_44 : decode cX2_direction 44 = .ok (.new 60, 3) := by decide +kernel
theorem dX2_direction_47 : decode cX2_direction 47 = .ok (.dup, 1) := by decide +kernel
theorem dX2_direction_48 : decode cX2_direction 48 = .ok (.ldc 90, 2) := by decide +kernel
theorem dX2_direction_50 : decode cX2_direction 50 = .ok (.invokespecial 64, 3) := by decide +kernel
theorem dX2_direction_53 : decode cX2_direction 53 = .ok (.athrow, 1) := by decide +kernel
theorem dX2_direction_54 : decode cX2_direction 54 = .ok (.aload_n 0, 1) := by decide +kernel
theorem dX2_direction_55 : decode cX2_direction 55 = .ok (.getfield 30, 3) := by decide +kernel
theorem dX2_direction_58 : decode cX2_direction 58 = .ok (.iload 4, 2) := by decide +kernel
theorem dX2_direction_60 : decode cX2_direction 60 = .ok (.iload_n 2, 1) := by decide +kernel
theorem dX2_direction_61 : decode cX2_direction 61 = .ok (.iload_n 3, 1) := by decide +kernel
theorem dX2_direction_62 : decode cX2_direction 62 = .ok (.invokevirtual 98, 3) := by decide +kernel
theorem dX2_direction_65 : decode cX2_direction 65 = .ok (.lreturn, 1) := by decide +kernel
theorem dX2_whole_0 : decode cX2_whole 0 = .ok (.aload_n 0, 1) := by decide +kernel
theorem dX2_whole_1 : decode cX2_whole 1 = .ok (.invokevirtual 102, 3) := by decide +kernel
theorem dX2_whole_4 : decode cX2_whole 4 = .ok (.aload_n 0, 1) := by decide +kernel
theorem dX2_whole_5 : decode cX2_whole 5 = .ok (.getfield 37, 3) := by decide +kernel
theorem dX2_whole_8 : decode cX2_whole 8 = .ok (.invokevirtual 105, 3) := by decide +kernel
theorem dX2_whole_11 : decode cX2_whole 11 = .ok (.ireturn, 1) := by decide +kernel
theorem dX2_base_0 : decode cX2_base 0 = .ok (.aload_n 0, 1) := by decide +kernel
theorem dX2_base_1 : decode cX2_base 1 = .ok (.invokevirtual 102, 3) := by decide +kernel
theorem dX2_base_4 : decode cX2_base 4 = .ok (.iload_n 1, 1) := by decide +kernel
theorem dX2_base_5 : decode cX2_base 5 = .ok (.ifCond .lt 22, 3) := by decide +kernel
theorem dX2_base_8 : decode cX2_base 8 = .ok (.iload_n 1, 1) := by decide +kernel
theorem dX2_base_9 : decode cX2_base 9 = .ok (.aload_n 0, 1) := by decide +kernel
theorem dX2_base_10 : decode cX2_base 10 = .ok (.getfield 37, 3) := by decide +kernel
theorem dX2_base_13 : decode cX2_base 13 = .ok (.invokevirtual 108, 3) := by decide +kernel
theorem dX2_base_16 : decode cX2_base 16 = .ok (.if_icmp .ge 11, 3) := by decide +kernel
theorem dX2_base_19 : decode cX2_base 19 = .ok (.aload_n 0, 1) := by decide +kernel
theorem dX2_base_20 : decode cX2_base 20 = .ok (.iload_n 2, 1) := by decide +kernel
theorem dX2_base_21 : decode cX2_base 21 = .ok (.invokevirtual 79, 3) := by decide +kernel
theorem dX2_base_24 : decode cX2_base 24 = .ok (.ifCond .ne 13, 3) := by decide +kernel
theorem dX2_base_27 : decode cX2_base 27 = .ok (.new 55, 3) := by decide +kernel
theorem dX2_base_30 : decode cX2_base 30 = .ok (.dup, 1) := by decide +kernel
theorem dX2_base_31 : decode cX2_base 31 = .ok (.ldc 112, 2) := by decide +kernel
theorem dX2_base_33 : decode cX2_base 33 = .ok (.invokespecial 59, 3) := by decide +kernel
theorem dX2_base_36 : decode cX2_base 36 = .ok (.athrow, 1) := by decide +kernel
theorem dX2_base_37 : decode cX2_base 37 = .ok (.aload_n 0, 1) := by decide +kernel
theorem dX2_base_38 : decode cX2_base 38 = .ok (.getfield 37, 3) := by decide +kernel
theorem dX2_base_41 : decode cX2_base 41 = .ok (.iload_n 1, 1) := by decide +kernel
theorem dX2_base_42 : decode cX2_base 42 = .ok (.iload_n 2, 1) := by decide +kernel
theorem dX2_base_43 : decode cX2_base 43 = .ok (.invokevirtual 114, 3) := by decide +kernel
theorem dX2_base_46 : decode cX2_base 46 = .ok (.lreturn, 1) := by decide +kernel
theorem dX2_least_0 : decode cX2_least 0 = .ok (.aload_n 0, 1) := by decide +kernel
theorem dX2_least_1 : decode cX2_least 1 = .ok (.iload_n 1, 1) := by decide +kernel
theorem dX2_least_2 : decode cX2_least 2 = .ok (.invokevirtual 79, 3) := by decide +kernel
theorem dX2_least_5 : decode cX2_least 5 = .ok (.ifCond .ne 13, 3) := by decide +kernel
theorem dX2_least_8 : decode cX2_least 8 = .ok (.new 55, 3) := by decide +kernel
theorem dX2_least_11 : decode cX2_least 11 = .ok (.dup, 1) := by decide +kernel
theorem dX2_least_12 : decode cX2_least 12 = .ok (.ldc 83, 2) := by decide +kernel
theorem dX2_least_14 : decode cX2_least 14 = .ok (.invokespecial 59, 3) := by decide +kernel
theorem dX2_least_17 : decode cX2_least 17 = .ok (.athrow, 1) := by decide +kernel
theorem dX2_least_18 : decode cX2_least 18 = .ok (.aload_n 0, 1) := by decide +kernel
theorem dX2_least_19 : decode cX2_least 19 = .ok (.invokevirtual 102, 3) := by decide +kernel
theorem dX2_least_22 : decode cX2_least 22 = .ok (.aload_n 0, 1) := by decide +kernel
theorem dX2_least_23 : decode cX2_least 23 = .ok (.getfield 37, 3) := by decide +kernel
theorem dX2_least_26 : decode cX2_least 26 = .ok (.invokevirtual 105, 3) := by decide +kernel
theorem dX2_least_29 : decode cX2_least 29 = .ok (.ifCond .ne 13, 3) := by decide +kernel
theorem dX2_least_32 : decode cX2_least 32 = .ok (.new 44, 3) := by decide +kernel
theorem dX2_least_35 : decode cX2_least 35 = .ok (.dup, 1) := by decide +kernel
theorem dX2_least_36 : decode cX2_least 36 = .ok (.ldc 117, 2) := by decide +kernel
theorem dX2_least_38 : decode cX2_least 38 = .ok (.invokespecial 48, 3) := by decide +kernel
theorem dX2_least_41 : decode cX2_least 41 = .ok (.athrow, 1) := by decide +kernel
theorem dX2_least_42 : decode cX2_least 42 = .ok (.aload_n 0, 1) := by decide +kernel
theorem dX2_least_43 : decode cX2_least 43 = .ok (.getfield 37, 3) := by decide +kernel
theorem dX2_least_46 : decode cX2_least 46 = .ok (.getfield 119, 3) := by decide +kernel
theorem dX2_least_49 : decode cX2_least 49 = .ok (.iconst 3, 1) := by decide +kernel
theorem dX2_least_50 : decode cX2_least 50 = .ok (.iload_n 1, 1) := by decide +kernel
theorem dX2_least_51 : decode cX2_least 51 = .ok (.iadd, 1) := by decide +kernel
theorem dX2_least_52 : decode cX2_least 52 = .ok (.laload, 1) := by decide +kernel
theorem dX2_least_53 : decode cX2_least 53 = .ok (.lreturn, 1) := by decide +kernel
theorem dX2_nearest_0 : decode cX2_nearest 0 = .ok (.aload_n 0, 1) := by decide +kernel
theorem dX2_nearest_1 : decode cX2_nearest 1 = .ok (.iload_n 1, 1) := by decide +kernel
theorem dX2_nearest_2 : decode cX2_nearest 2 = .ok (.invokevirtual 79, 3) := by decide +kernel
theorem dX2_nearest_5 : decode cX2_nearest 5 = .ok (.ifCond .ne 13, 3) := by decide +kernel
theorem dX2_nearest_8 : decode cX2_nearest 8 = .ok (.new 55, 3) := by decide +kernel
theorem dX2_nearest_11 : decode cX2_nearest 11 = .ok (.dup, 1) := by decide +kernel
theorem dX2_nearest_12 : decode cX2_nearest 12 = .ok (.ldc 83, 2) := by decide +kernel
theorem dX2_nearest_14 : decode cX2_nearest 14 = .ok (.invokespecial 59, 3) := by decide +kernel
theorem dX2_nearest_17 : decode cX2_nearest 17 = .ok (.athrow, 1) := by decide +kernel
theorem dX2_nearest_18 : decode cX2_nearest 18 = .ok (.iload_n 2, 1) := by decide +kernel
theorem dX2_nearest_19 : decode cX2_nearest 19 = .ok (.invokestatic 87, 3) := by decide +kernel
theorem dX2_nearest_22 : decode cX2_nearest 22 = .ok (.ifCond .ne 13, 3) := by decide +kernel
theorem dX2_nearest_25 : decode cX2_nearest 25 = .ok (.new 60, 3) := by decide +kernel
theorem dX2_nearest_28 : decode cX2_nearest 28 = .ok (.dup, 1) := by decide +kernel
theorem dX2_nearest_29 : decode cX2_nearest 29 = .ok (.ldc 90, 2) := by decide +kernel
theorem dX2_nearest_31 : decode cX2_nearest 31 = .ok (.invokespecial 64, 3) := by decide +kernel
theorem dX2_nearest_34 : decode cX2_nearest 34 = .ok (.athrow, 1) := by decide +kernel
theorem dX2_nearest_35 : decode cX2_nearest 35 = .ok (.aload_n 0, 1) := by decide +kernel
theorem dX2_nearest_36 : decode cX2_nearest 36 = .ok (.invokevirtual 123, 3) := by decide +kernel
theorem dX2_nearest_39 : decode cX2_nearest 39 = .ok (.aload_n 0, 1) := by decide +kernel
theorem dX2_nearest_40 : decode cX2_nearest 40 = .ok (.getfield 30, 3) := by decide +kernel
theorem dX2_nearest_43 : decode cX2_nearest 43 = .ok (.iload_n 1, 1) := by decide +kernel
theorem dX2_nearest_44 : decode cX2_nearest 44 = .ok (.iload_n 2, 1) := by decide +kernel
theorem dX2_nearest_45 : decode cX2_nearest 45 = .ok (.invokevirtual 92, 3) := by decide +kernel
theorem dX2_nearest_48 : decode cX2_nearest 48 = .ok (.lreturn, 1) := by decide +kernel
theorem dX2_squares_0 : decode cX2_squares 0 = .ok (.iload_n 1, 1) := by decide +kernel
theorem dX2_squares_1 : decode cX2_squares 1 = .ok (.invokestatic 87, 3) := by decide +kernel
theorem dX2_squares_4 : decode cX2_squares 4 = .ok (.ifCond .ne 13, 3) := by decide +kernel
theorem dX2_squares_7 : decode cX2_squares 7 = .ok (.new 60, 3) := by decide +kernel
theorem dX2_squares_10 : decode cX2_squares 10 = .ok (.dup, 1) := by decide +kernel
theorem dX2_squares_11 : decode cX2_squares 11 = .ok (.ldc 90, 2) := by decide +kernel
theorem dX2_squares_13 : decode cX2_squares 13 = .ok (.invokespecial 64, 3) := by decide +kernel
theorem dX2_squares_16 : decode cX2_squares 16 = .ok (.athrow, 1) := by decide +kernel
theorem dX2_squares_17 : decode cX2_squares 17 = .ok (.aload_n 0, 1) := by decide +kernel
theorem dX2_squares_18 : decode cX2_squares 18 = .ok (.invokevirtual 123, 3) := by decide +kernel
theorem dX2_squares_21 : decode cX2_squares 21 = .ok (.aload_n 0, 1) := by decide +kernel
theorem dX2_squares_22 : decode cX2_squares 22 = .ok (.getfield 30, 3) := by decide +kernel
theorem dX2_squares_25 : decode cX2_squares 25 = .ok (.aload_n 0, 1) := by decide +kernel
theorem dX2_squares_26 : decode cX2_squares 26 = .ok (.getfield 18, 3) := by decide +kernel
theorem dX2_squares_29 : decode cX2_squares 29 = .ok (.iload_n 1, 1) := by decide +kernel
theorem dX2_squares_30 : decode cX2_squares 30 = .ok (.invokevirtual 92, 3) := by decide +kernel
theorem dX2_squares_33 : decode cX2_squares 33 = .ok (.lreturn, 1) := by decide +kernel
theorem dX2_inBox_0 : decode cX2_inBox 0 = .ok (.iload_n 1, 1) := by decide +kernel
theorem dX2_inBox_1 : decode cX2_inBox 1 = .ok (.ifCond .lt 9, 3) := by decide +kernel
theorem dX2_inBox_4 : decode cX2_inBox 4 = .ok (.iload_n 1, 1) := by decide +kernel
theorem dX2_inBox_5 : decode cX2_inBox 5 = .ok (.bipush 12, 2) := by decide +kernel
theorem dX2_inBox_7 : decode cX2_inBox 7 = .ok (.if_icmp .le 13, 3) := by decide +kernel
theorem dX2_inBox_10 : decode cX2_inBox 10 = .ok (.new 60, 3) := by decide +kernel
theorem dX2_inBox_13 : decode cX2_inBox 13 = .ok (.dup, 1) := by decide +kernel
theorem dX2_inBox_14 : decode cX2_inBox 14 = .ok (.ldc 126, 2) := by decide +kernel
theorem dX2_inBox_16 : decode cX2_inBox 16 = .ok (.invokespecial 64, 3) := by decide +kernel
theorem dX2_inBox_19 : decode cX2_inBox 19 = .ok (.athrow, 1) := by decide +kernel
theorem dX2_inBox_20 : decode cX2_inBox 20 = .ok (.aload_n 0, 1) := by decide +kernel
theorem dX2_inBox_21 : decode cX2_inBox 21 = .ok (.getfield 18, 3) := by decide +kernel
theorem dX2_inBox_24 : decode cX2_inBox 24 = .ok (.iconst 1, 1) := by decide +kernel
theorem dX2_inBox_25 : decode cX2_inBox 25 = .ok (.if_icmp .le 7, 3) := by decide +kernel
theorem dX2_inBox_28 : decode cX2_inBox 28 = .ok (.iload_n 1, 1) := by decide +kernel
theorem dX2_inBox_29 : decode cX2_inBox 29 = .ok (.goto 4, 3) := by decide +kernel
theorem dX2_inBox_32 : decode cX2_inBox 32 = .ok (.iconst 0, 1) := by decide +kernel
theorem dX2_inBox_33 : decode cX2_inBox 33 = .ok (.istore_n 2, 1) := by decide +kernel
theorem dX2_inBox_34 : decode cX2_inBox 34 = .ok (.aload_n 0, 1) := by decide +kernel
theorem dX2_inBox_35 : decode cX2_inBox 35 = .ok (.getfield 18, 3) := by decide +kernel
theorem dX2_inBox_38 : decode cX2_inBox 38 = .ok (.iconst 2, 1) := by decide +kernel
theorem dX2_inBox_39 : decode cX2_inBox 39 = .ok (.if_icmp .le 7, 3) := by decide +kernel
theorem dX2_inBox_42 : decode cX2_inBox 42 = .ok (.iload_n 1, 1) := by decide +kernel
theorem dX2_inBox_43 : decode cX2_inBox 43 = .ok (.goto 4, 3) := by decide +kernel
theorem dX2_inBox_46 : decode cX2_inBox 46 = .ok (.iconst 0, 1) := by decide +kernel
theorem dX2_inBox_47 : decode cX2_inBox 47 = .ok (.istore_n 3, 1) := by decide +kernel
theorem dX2_inBox_48 : decode cX2_inBox 48 = .ok (.iconst 0, 1) := by decide +kernel
theorem dX2_inBox_49 : decode cX2_inBox 49 = .ok (.istore 4, 2) := by decide +kernel
theorem dX2_inBox_51 : decode cX2_inBox 51 = .ok (.iload_n 2, 1) := by decide +kernel
theorem dX2_inBox_52 : decode cX2_inBox 52 = .ok (.ineg, 1) := by decide +kernel
theorem dX2_inBox_53 : decode cX2_inBox 53 = .ok (.istore 5, 2) := by decide +kernel
theorem dX2_inBox_55 : decode cX2_inBox 55 = .ok (.iload 5, 2) := by decide +kernel
theorem dX2_inBox_57 : decode cX2_inBox 57 = .ok (.iload_n 2, 1) := by decide +kernel
theorem dX2_inBox_58 : decode cX2_inBox 58 = .ok (.if_icmp .gt 39, 3) := by decide +kernel
theorem dX2_inBox_61 : decode cX2_inBox 61 = .ok (.iload_n 3, 1) := by decide +kernel
theorem dX2_inBox_62 : decode cX2_inBox 62 = .ok (.ineg, 1) := by decide +kernel
theorem dX2_inBox_63 : decode cX2_inBox 63 = .ok (.istore 6, 2) := by decide +kernel
theorem dX2_inBox_65 : decode cX2_inBox 65 = .ok (.iload 6, 2) := by decide +kernel
theorem dX2_inBox_67 : decode cX2_inBox 67 = .ok (.iload_n 3, 1) := by decide +kernel
theorem dX2_inBox_68 : decode cX2_inBox 68 = .ok (.if_icmp .gt 23, 3) := by decide +kernel
theorem dX2_inBox_71 : decode cX2_inBox 71 = .ok (.iload 4, 2) := by decide +kernel
theorem dX2_inBox_73 : decode cX2_inBox 73 = .ok (.aload_n 0, 1) := by decide +kernel
theorem dX2_inBox_74 : decode cX2_inBox 74 = .ok (.iload 5, 2) := by decide +kernel
theorem dX2_inBox_76 : decode cX2_inBox 76 = .ok (.iload 6, 2) := by decide +kernel
theorem dX2_inBox_78 : decode cX2_inBox 78 = .ok (.iload_n 1, 1) := by decide +kernel
theorem dX2_inBox_79 : decode cX2_inBox 79 = .ok (.invokevirtual 128, 3) := by decide +kernel
theorem dX2_inBox_82 : decode cX2_inBox 82 = .ok (.iadd, 1) := by decide +kernel
theorem dX2_inBox_83 : decode cX2_inBox 83 = .ok (.istore 4, 2) := by decide +kernel
theorem dX2_inBox_85 : decode cX2_inBox 85 = .ok (.iinc 6 1, 3) := by decide +kernel
theorem dX2_inBox_88 : decode cX2_inBox 88 = .ok (.goto (-23), 3) := by decide +kernel
theorem dX2_inBox_91 : decode cX2_inBox 91 = .ok (.iinc 5 1, 3) := by decide +kernel
theorem dX2_inBox_94 : decode cX2_inBox 94 = .ok (.goto (-39), 3) := by decide +kernel
theorem dX2_inBox_97 : decode cX2_inBox 97 = .ok (.iload 4, 2) := by decide +kernel
theorem dX2_inBox_99 : decode cX2_inBox 99 = .ok (.ireturn, 1) := by decide +kernel
theorem dX2_solves_0 : decode cX2_solves 0 = .ok (.iconst 0, 1) := by decide +kernel
theorem dX2_solves_1 : decode cX2_solves 1 = .ok (.istore 4, 2) := by decide +kernel
theorem dX2_solves_3 : decode cX2_solves 3 = .ok (.iload 4, 2) := by decide +kernel
theorem dX2_solves_5 : decode cX2_solves 5 = .ok (.aload_n 0, 1) := by decide +kernel
theorem dX2_solves_6 : decode cX2_solves 6 = .ok (.getfield 41, 3) := by decide +kernel
theorem dX2_solves_9 : decode cX2_solves 9 = .ok (.if_icmp .ge 28, 3) := by decide +kernel
theorem dX2_solves_12 : decode cX2_solves 12 = .ok (.aload_n 0, 1) := by decide +kernel
theorem dX2_solves_13 : decode cX2_solves 13 = .ok (.iload 4, 2) := by decide +kernel
theorem dX2_solves_15 : decode cX2_solves 15 = .ok (.iload_n 1, 1) := by decide +kernel
theorem dX2_solves_16 : decode cX2_solves 16 = .ok (.i2l, 1) := by decide +kernel
theorem dX2_solves_17 : decode cX2_solves 17 = .ok (.iload_n 2, 1) := by decide +kernel
theorem dX2_solves_18 : decode cX2_solves 18 = .ok (.i2l, 1) := by decide +kernel
theorem dX2_solves_19 : decode cX2_solves 19 = .ok (.iload_n 3, 1) := by decide +kernel
theorem dX2_solves_20 : decode cX2_solves 20 = .ok (.i2l, 1) := by decide +kernel
theorem dX2_solves_21 : decode cX2_solves 21 = .ok (.invokevirtual 132, 3) := by decide +kernel
theorem dX2_solves_24 : decode cX2_solves 24 = .ok (.lconst 0, 1) := by decide +kernel
theorem dX2_solves_25 : decode cX2_solves 25 = .ok (.lcmp, 1) := by decide +kernel
theorem dX2_solves_26 : decode cX2_solves 26 = .ok (.ifCond .eq 5, 3) := by decide +kernel
theorem dX2_solves_29 : decode cX2_solves 29 = .ok (.iconst 0, 1) := by decide +kernel
theorem dX2_solves_30 : decode cX2_solves 30 = .ok (.ireturn, 1) := by decide +kernel
theorem dX2_solves_31 : decode cX2_solves 31 = .ok (.iinc 4 1, 3) := by decide +kernel
theorem dX2_solves_34 : decode cX2_solves 34 = .ok (.goto (-31), 3) := by decide +kernel
theorem dX2_solves_37 : decode cX2_solves 37 = .ok (.iconst 1, 1) := by decide +kernel
theorem dX2_solves_38 : decode cX2_solves 38 = .ok (.ireturn, 1) := by decide +kernel
theorem dX2_count_0 : decode cX2_count 0 = .ok (.iload_n 1, 1) := by decide +kernel
theorem dX2_count_1 : decode cX2_count 1 = .ok (.ifCond .ne 8, 3) := by decide +kernel
theorem dX2_count_4 : decode cX2_count 4 = .ok (.aload_n 0, 1) := by decide +kernel
theorem dX2_count_5 : decode cX2_count 5 = .ok (.getfield 41, 3) := by decide +kernel
theorem dX2_count_8 : decode cX2_count 8 = .ok (.ireturn, 1) := by decide +kernel
theorem dX2_count_9 : decode cX2_count 9 = .ok (.iload_n 1, 1) := by decide +kernel
theorem dX2_count_10 : decode cX2_count 10 = .ok (.iconst 1, 1) := by decide +kernel
theorem dX2_count_11 : decode cX2_count 11 = .ok (.if_icmp .ne 10, 3) := by decide +kernel
theorem dX2_count_14 : decode cX2_count 14 = .ok (.aload_n 0, 1) := by decide +kernel
theorem dX2_count_15 : decode cX2_count 15 = .ok (.getfield 18, 3) := by decide +kernel
theorem dX2_count_18 : decode cX2_count 18 = .ok (.goto 4, 3) := by decide +kernel
theorem dX2_count_21 : decode cX2_count 21 = .ok (.iconst (-1), 1) := by decide +kernel
theorem dX2_count_22 : decode cX2_count 22 = .ok (.ireturn, 1) := by decide +kernel
theorem dX2_clear_0 : decode cX2_clear 0 = .ok (.aload_n 0, 1) := by decide +kernel
theorem dX2_clear_1 : decode cX2_clear 1 = .ok (.iconst 0, 1) := by decide +kernel
theorem dX2_clear_2 : decode cX2_clear 2 = .ok (.putfield 41, 3) := by decide +kernel
theorem dX2_clear_5 : decode cX2_clear 5 = .ok (.return_, 1) := by decide +kernel
theorem dX2_isUnknown_0 : decode cX2_isUnknown 0 = .ok (.iload_n 1, 1) := by decide +kernel
theorem dX2_isUnknown_1 : decode cX2_isUnknown 1 = .ok (.ifCond .lt 15, 3) := by decide +kernel
theorem dX2_isUnknown_4 : decode cX2_isUnknown 4 = .ok (.iload_n 1, 1) := by decide +kernel
theorem dX2_isUnknown_5 : decode cX2_isUnknown 5 = .ok (.aload_n 0, 1) := by decide +kernel
theorem dX2_isUnknown_6 : decode cX2_isUnknown 6 = .ok (.getfield 18, 3) := by decide +kernel
theorem dX2_isUnknown_9 : decode cX2_isUnknown 9 = .ok (.if_icmp .ge 7, 3) := by decide +kernel
theorem dX2_isUnknown_12 : decode cX2_isUnknown 12 = .ok (.iconst 1, 1) := by decide +kernel
theorem dX2_isUnknown_13 : decode cX2_isUnknown 13 = .ok (.goto 4, 3) := by decide +kernel
theorem dX2_isUnknown_16 : decode cX2_isUnknown 16 = .ok (.iconst 0, 1) := by decide +kernel
theorem dX2_isUnknown_17 : decode cX2_isUnknown 17 = .ok (.ireturn, 1) := by decide +kernel
theorem dX2_isPlace_0 : decode cX2_isPlace 0 = .ok (.iload_n 1, 1) := by decide +kernel
theorem dX2_isPlace_1 : decode cX2_isPlace 1 = .ok (.ifCond .lt 27, 3) := by decide +kernel
theorem dX2_isPlace_4 : decode cX2_isPlace 4 = .ok (.iload_n 1, 1) := by decide +kernel
theorem dX2_isPlace_5 : decode cX2_isPlace 5 = .ok (.aload_n 0, 1) := by decide +kernel
theorem dX2_isPlace_6 : decode cX2_isPlace 6 = .ok (.getfield 41, 3) := by decide +kernel
theorem dX2_isPlace_9 : decode cX2_isPlace 9 = .ok (.if_icmp .ge 19, 3) := by decide +kernel
theorem dX2_isPlace_12 : decode cX2_isPlace 12 = .ok (.iload_n 2, 1) := by decide +kernel
theorem dX2_isPlace_13 : decode cX2_isPlace 13 = .ok (.ifCond .lt 15, 3) := by decide +kernel
theorem dX2_isPlace_16 : decode cX2_isPlace 16 = .ok (.iload_n 2, 1) := by decide +kernel
theorem dX2_isPlace_17 : decode cX2_isPlace 17 = .ok (.aload_n 0, 1) := by decide +kernel
theorem dX2_isPlace_18 : decode cX2_isPlace 18 = .ok (.getfield 18, 3) := by decide +kernel
theorem dX2_isPlace_21 : decode cX2_isPlace 21 = .ok (.if_icmp .gt 7, 3) := by decide +kernel
theorem dX2_isPlace_24 : decode cX2_isPlace 24 = .ok (.iconst 1, 1) := by decide +kernel
theorem dX2_isPlace_25 : decode cX2_isPlace 25 = .ok (.goto 4, 3) := by decide +kernel
theorem dX2_isPlace_28 : decode cX2_isPlace 28 = .ok (.iconst 0, 1) := by decide +kernel
theorem dX2_isPlace_29 : decode cX2_isPlace 29 = .ok (.ireturn, 1) := by decide +kernel
theorem dX2_isPart_0 : decode cX2_isPart 0 = .ok (.iload_n 0, 1) := by decide +kernel
theorem dX2_isPart_1 : decode cX2_isPart 1 = .ok (.ifCond .eq 8, 3) := by decide +kernel
theorem dX2_isPart_4 : decode cX2_isPart 4 = .ok (.iload_n 0, 1) := by decide +kernel
theorem dX2_isPart_5 : decode cX2_isPart 5 = .ok (.iconst 1, 1) := by decide +kernel
theorem dX2_isPart_6 : decode cX2_isPart 6 = .ok (.if_icmp .ne 7, 3) := by decide +kernel
theorem dX2_isPart_9 : decode cX2_isPart 9 = .ok (.iconst 1, 1) := by decide +kernel
theorem dX2_isPart_10 : decode cX2_isPart 10 = .ok (.goto 4, 3) := by decide +kernel
theorem dX2_isPart_13 : decode cX2_isPart 13 = .ok (.iconst 0, 1) := by decide +kernel
theorem dX2_isPart_14 : decode cX2_isPart 14 = .ok (.ireturn, 1) := by decide +kernel
theorem dX2_excess_0 : decode cX2_excess 0 = .ok (.aload_n 0, 1) := by decide +kernel
theorem dX2_excess_1 : decode cX2_excess 1 = .ok (.getfield 24, 3) := by decide +kernel
theorem dX2_excess_4 : decode cX2_excess 4 = .ok (.iload_n 1, 1) := by decide +kernel
theorem dX2_excess_5 : decode cX2_excess 5 = .ok (.aaload, 1) := by decide +kernel
theorem dX2_excess_6 : decode cX2_excess 6 = .ok (.astore 8, 2) := by decide +kernel
theorem dX2_excess_8 : decode cX2_excess 8 = .ok (.aload 8, 2) := by decide +kernel
theorem dX2_excess_10 : decode cX2_excess 10 = .ok (.iconst 0, 1) := by decide +kernel
theorem dX2_excess_11 : decode cX2_excess 11 = .ok (.iaload, 1) := by decide +kernel
theorem dX2_excess_12 : decode cX2_excess 12 = .ok (.i2l, 1) := by decide +kernel
theorem dX2_excess_13 : decode cX2_excess 13 = .ok (.lload_n 2, 1) := by decide +kernel
theorem dX2_excess_14 : decode cX2_excess 14 = .ok (.lmul, 1) := by decide +kernel
theorem dX2_excess_15 : decode cX2_excess 15 = .ok (.aload 8, 2) := by decide +kernel
theorem dX2_excess_17 : decode cX2_excess 17 = .ok (.aload_n 0, 1) := by decide +kernel
theorem dX2_excess_18 : decode cX2_excess 18 = .ok (.getfield 18, 3) := by decide +kernel
theorem dX2_excess_21 : decode cX2_excess 21 = .ok (.iaload, 1) := by decide +kernel
theorem dX2_excess_22 : decode cX2_excess 22 = .ok (.i2l, 1) := by decide +kernel
theorem dX2_excess_23 : decode cX2_excess 23 = .ok (.lsub, 1) := by decide +kernel
theorem dX2_excess_24 : decode cX2_excess 24 = .ok (.lstore 9, 2) := by decide +kernel
theorem dX2_excess_26 : decode cX2_excess 26 = .ok (.aload_n 0, 1) := by decide +kernel
theorem dX2_excess_27 : decode cX2_excess 27 = .ok (.getfield 18, 3) := by decide +kernel
theorem dX2_excess_30 : decode cX2_excess 30 = .ok (.iconst 1, 1) := by decide +kernel
theorem dX2_excess_31 : decode cX2_excess 31 = .ok (.if_icmp .le 16, 3) := by decide +kernel
theorem dX2_excess_34 : decode cX2_excess 34 = .ok (.lload 9, 2) := by decide +kernel
theorem dX2_excess_36 : decode cX2_excess 36 = .ok (.aload 8, 2) := by decide +kernel
theorem dX2_excess_38 : decode cX2_excess 38 = .ok (.iconst 1, 1) := by decide +kernel
theorem dX2_excess_39 : decode cX2_excess 39 = .ok (.iaload, 1) := by decide +kernel
theorem dX2_excess_40 : decode cX2_excess 40 = .ok (.i2l, 1) := by decide +kernel
theorem dX2_excess_41 : decode cX2_excess 41 = .ok (.lload 4, 2) := by decide +kernel
theorem dX2_excess_43 : decode cX2_excess 43 = .ok (.lmul, 1) := by decide +kernel
theorem dX2_excess_44 : decode cX2_excess 44 = .ok (.ladd, 1) := by decide +kernel
theorem dX2_excess_45 : decode cX2_excess 45 = .ok (.lstore 9, 2) := by decide +kernel
theorem dX2_excess_47 : decode cX2_excess 47 = .ok (.aload_n 0, 1) := by decide +kernel
theorem dX2_excess_48 : decode cX2_excess 48 = .ok (.getfield 18, 3) := by decide +kernel
theorem dX2_excess_51 : decode cX2_excess 51 = .ok (.iconst 2, 1) := by decide +kernel
theorem dX2_excess_52 : decode cX2_excess 52 = .ok (.if_icmp .le 16, 3) := by decide +kernel
theorem dX2_excess_55 : decode cX2_excess 55 = .ok (.lload 9, 2) := by decide +kernel
theorem dX2_excess_57 : decode cX2_excess 57 = .ok (.aload 8, 2) := by decide +kernel
theorem dX2_excess_59 : decode cX2_excess 59 = .ok (.iconst 2, 1) := by decide +kernel
theorem dX2_excess_60 : decode cX2_excess 60 = .ok (.iaload, 1) := by decide +kernel
theorem dX2_excess_61 : decode cX2_excess 61 = .ok (.i2l, 1) := by decide +kernel
theorem dX2_excess_62 : decode cX2_excess 62 = .ok (.lload 6, 2) := by decide +kernel
theorem dX2_excess_64 : decode cX2_excess 64 = .ok (.lmul, 1) := by decide +kernel
theorem dX2_excess_65 : decode cX2_excess 65 = .ok (.ladd, 1) := by decide +kernel
theorem dX2_excess_66 : decode cX2_excess 66 = .ok (.lstore 9, 2) := by decide +kernel
theorem dX2_excess_68 : decode cX2_excess 68 = .ok (.lload 9, 2) := by decide +kernel
theorem dX2_excess_70 : decode cX2_excess 70 = .ok (.lreturn, 1) := by decide +kernel
theorem dX2_fittingFirsts_0 : decode cX2_fittingFirsts 0 = .ok (.iload_n 3, 1) := by decide +kernel
theorem dX2_fittingFirsts_1 : decode cX2_fittingFirsts 1 = .ok (.ineg, 1) := by decide +kernel
theorem dX2_fittingFirsts_2 : decode cX2_fittingFirsts 2 = .ok (.istore 4, 2) := by decide +kernel
theorem dX2_fittingFirsts_4 : decode cX2_fittingFirsts 4 = .ok (.iload_n 3, 1) := by decide +kernel
theorem dX2_fittingFirsts_5 : decode cX2_fittingFirsts 5 = .ok (.istore 5, 2) := by decide +kernel
theorem dX2_fittingFirsts_7 : decode cX2_fittingFirsts 7 = .ok (.iconst 0, 1) := by decide +kernel
theorem dX2_fittingFirsts_8 : decode cX2_fittingFirsts 8 = .ok (.istore 6, 2) := by decide +kernel
theorem dX2_fittingFirsts_10 : decode cX2_fittingFirsts 10 = .ok (.iload 6, 2) := by decide +kernel
theorem dX2_fittingFirsts_12 : decode cX2_fittingFirsts 12 = .ok (.aload_n 0, 1) := by decide +kernel
theorem dX2_fittingFirsts_13 : decode cX2_fittingFirsts 13 = .ok (.getfield 41, 3) := by decide +kernel
theorem dX2_fittingFirsts_16 : decode cX2_fittingFirsts 16 = .ok (.if_icmp .ge 81, 3) := by decide +kernel
theorem dX2_fittingFirsts_19 : decode cX2_fittingFirsts 19 = .ok (.aload_n 0, 1) := by decide +kernel
theorem dX2_fittingFirsts_20 : decode cX2_fittingFirsts 20 = .ok (.getfield 24, 3) := by decide +kernel
theorem dX2_fittingFirsts_23 : decode cX2_fittingFirsts 23 = .ok (.iload 6, 2) := by decide +kernel
theorem dX2_fittingFirsts_25 : decode cX2_fittingFirsts 25 = .ok (.aaload, 1) := by decide +kernel
theorem dX2_fittingFirsts_26 : decode cX2_fittingFirsts 26 = .ok (.iconst 0, 1) := by decide +kernel
theorem dX2_fittingFirsts_27 : decode cX2_fittingFirsts 27 = .ok (.iaload, 1) := by decide +kernel
theorem dX2_fittingFirsts_28 : decode cX2_fittingFirsts 28 = .ok (.istore 7, 2) := by decide +kernel
theorem dX2_fittingFirsts_30 : decode cX2_fittingFirsts 30 = .ok (.aload_n 0, 1) := by decide +kernel
theorem dX2_fittingFirsts_31 : decode cX2_fittingFirsts 31 = .ok (.iload 6, 2) := by decide +kernel
theorem dX2_fittingFirsts_33 : decode cX2_fittingFirsts 33 = .ok (.lconst 0, 1) := by decide +kernel
theorem dX2_fittingFirsts_34 : decode cX2_fittingFirsts 34 = .ok (.iload_n 1, 1) := by decide +kernel
theorem dX2_fittingFirsts_35 : decode cX2_fittingFirsts 35 = .ok (.i2l, 1) := by decide +kernel
theorem dX2_fittingFirsts_36 : decode cX2_fittingFirsts 36 = .ok (.iload_n 2, 1) := by decide +kernel
theorem dX2_fittingFirsts_37 : decode cX2_fittingFirsts 37 = .ok (.i2l, 1) := by decide +kernel
theorem dX2_fittingFirsts_38 : decode cX2_fittingFirsts 38 = .ok (.invokevirtual 132, 3) := by decide +kernel
theorem dX2_fittingFirsts_41 : decode cX2_fittingFirsts 41 = .ok (.lneg, 1) := by decide +kernel
theorem dX2_fittingFirsts_42 : decode cX2_fittingFirsts 42 = .ok (.l2i, 1) := by decide +kernel
theorem dX2_fittingFirsts_43 : decode cX2_fittingFirsts 43 = .ok (.istore 8, 2) := by decide +kernel
theorem dX2_fittingFirsts_45 : decode cX2_fittingFirsts 45 = .ok (.iload 7, 2) := by decide +kernel
theorem dX2_fittingFirsts_47 : decode cX2_fittingFirsts 47 = .ok (.ifCond .ne 10, 3) := by decide +kernel
theorem dX2_fittingFirsts_50 : decode cX2_fittingFirsts 50 = .ok (.iload 8, 2) := by decide +kernel
theorem dX2_fittingFirsts_52 : decode cX2_fittingFirsts 52 = .ok (.ifCond .eq 39, 3) := by decide +kernel
theorem dX2_fittingFirsts_55 : decode cX2_fittingFirsts 55 = .ok (.iconst 0, 1) := by decide +kernel
theorem dX2_fittingFirsts_56 : decode cX2_fittingFirsts 56 = .ok (.ireturn, 1) := by decide +kernel
theorem dX2_fittingFirsts_57 : decode cX2_fittingFirsts 57 = .ok (.iload 8, 2) := by decide +kernel
theorem dX2_fittingFirsts_59 : decode cX2_fittingFirsts 59 = .ok (.iload 7, 2) := by decide +kernel
theorem dX2_fittingFirsts_61 : decode cX2_fittingFirsts 61 = .ok (.irem, 1) := by decide +kernel
theorem dX2_fittingFirsts_62 : decode cX2_fittingFirsts 62 = .ok (.ifCond .eq 5, 3) := by decide +kernel
theorem dX2_fittingFirsts_65 : decode cX2_fittingFirsts 65 = .ok (.iconst 0, 1) := by decide +kernel
theorem dX2_fittingFirsts_66 : decode cX2_fittingFirsts 66 = .ok (.ireturn, 1) := by decide +kernel
theorem dX2_fittingFirsts_67 : decode cX2_fittingFirsts 67 = .ok (.iload 4, 2) := by decide +kernel
theorem dX2_fittingFirsts_69 : decode cX2_fittingFirsts 69 = .ok (.iload 8, 2) := by decide +kernel
theorem dX2_fittingFirsts_71 : decode cX2_fittingFirsts 71 = .ok (.iload 7, 2) := by decide +kernel
theorem dX2_fittingFirsts_73 : decode cX2_fittingFirsts 73 = .ok (.idiv, 1) := by decide +kernel
theorem dX2_fittingFirsts_74 : decode cX2_fittingFirsts 74 = .ok (.invokestatic 15, 3) := by decide +kernel
theorem dX2_fittingFirsts_77 : decode cX2_fittingFirsts 77 = .ok (.istore 4, 2) := by decide +kernel
theorem dX2_fittingFirsts_79 : decode cX2_fittingFirsts 79 = .ok (.iload 5, 2) := by decide +kernel
theorem dX2_fittingFirsts_81 : decode cX2_fittingFirsts 81 = .ok (.iload 8, 2) := by decide +kernel
theorem dX2_fittingFirsts_83 : decode cX2_fittingFirsts 83 = .ok (.iload 7, 2) := by decide +kernel
theorem dX2_fittingFirsts_85 : decode cX2_fittingFirsts 85 = .ok (.idiv, 1) := by decide +kernel
theorem dX2_fittingFirsts_86 : decode cX2_fittingFirsts 86 = .ok (.invokestatic 9, 3) := by decide +kernel
theorem dX2_fittingFirsts_89 : decode cX2_fittingFirsts 89 = .ok (.istore 5, 2) := by decide +kernel
theorem dX2_fittingFirsts_91 : decode cX2_fittingFirsts 91 = .ok (.iinc 6 1, 3) := by decide +kernel
theorem dX2_fittingFirsts_94 : decode cX2_fittingFirsts 94 = .ok (.goto (-84), 3) := by decide +kernel
theorem dX2_fittingFirsts_97 : decode cX2_fittingFirsts 97 = .ok (.iload 4, 2) := by decide +kernel
theorem dX2_fittingFirsts_99 : decode cX2_fittingFirsts 99 = .ok (.iload 5, 2) := by decide +kernel
theorem dX2_fittingFirsts_101 : decode cX2_fittingFirsts 101 = .ok (.if_icmp .gt 13, 3) := by decide +kernel
theorem dX2_fittingFirsts_104 : decode cX2_fittingFirsts 104 = .ok (.iload 5, 2) := by decide +kernel
theorem dX2_fittingFirsts_106 : decode cX2_fittingFirsts 106 = .ok (.iload 4, 2) := by decide +kernel
theorem dX2_fittingFirsts_108 : decode cX2_fittingFirsts 108 = .ok (.isub, 1) := by decide +kernel
theorem dX2_fittingFirsts_109 : decode cX2_fittingFirsts 109 = .ok (.iconst 1, 1) := by decide +kernel
theorem dX2_fittingFirsts_110 : decode cX2_fittingFirsts 110 = .ok (.iadd, 1) := by decide +kernel
theorem dX2_fittingFirsts_111 : decode cX2_fittingFirsts 111 = .ok (.goto 4, 3) := by decide +kernel
theorem dX2_fittingFirsts_114 : decode cX2_fittingFirsts 114 = .ok (.iconst 0, 1) := by decide +kernel
theorem dX2_fittingFirsts_115 : decode cX2_fittingFirsts 115 = .ok (.ireturn, 1) := by decide +kernel
theorem dX2_eliminateEquations_0 : decode cX2_eliminateEquations 0 = .ok (.aload_n 0, 1) := by decide +kernel
theorem dX2_eliminateEquations_1 : decode cX2_eliminateEquations 1 = .ok (.getfield 30, 3) := by decide +kernel
theorem dX2_eliminateEquations_4 : decode cX2_eliminateEquations 4 = .ok (.aload_n 0, 1) := by decide +kernel
theorem dX2_eliminateEquations_5 : decode cX2_eliminateEquations 5 = .ok (.getfield 18, 3) := by decide +kernel
theorem dX2_eliminateEquations_8 : decode cX2_eliminateEquations 8 = .ok (.aload_n 0, 1) := by decide +kernel
theorem dX2_eliminateEquations_9 : decode cX2_eliminateEquations 9 = .ok (.getfield 41, 3) := by decide +kernel
theorem dX2_eliminateEquations_12 : decode cX2_eliminateEquations 12 = .ok (.invokevirtual 136, 3) := by decide +kernel
theorem dX2_eliminateEquations_15 : decode cX2_eliminateEquations 15 = .ok (.iconst 0, 1) := by decide +kernel
theorem dX2_eliminateEquations_16 : decode cX2_eliminateEquations 16 = .ok (.istore_n 1, 1) := by decide +kernel
theorem dX2_eliminateEquations_17 : decode cX2_eliminateEquations 17 = .ok (.iload_n 1, 1) := by decide +kernel
theorem dX2_eliminateEquations_18 : decode cX2_eliminateEquations 18 = .ok (.aload_n 0, 1) := by decide +kernel
theorem dX2_eliminateEquations_19 : decode cX2_eliminateEquations 19 = .ok (.getfield 41, 3) := by decide +kernel
theorem dX2_eliminateEquations_22 : decode cX2_eliminateEquations 22 = .ok (.if_icmp .ge 45, 3) := by decide +kernel
theorem dX2_eliminateEquations_25 : decode cX2_eliminateEquations 25 = .ok (.iconst 0, 1) := by decide +kernel
theorem dX2_eliminateEquations_26 : decode cX2_eliminateEquations 26 = .ok (.istore_n 2, 1) := by decide +kernel
theorem dX2_eliminateEquations_27 : decode cX2_eliminateEquations 27 = .ok (.iload_n 2, 1) := by decide +kernel
theorem dX2_eliminateEquations_28 : decode cX2_eliminateEquations 28 = .ok (.aload_n 0, 1) := by decide +kernel
theorem dX2_eliminateEquations_29 : decode cX2_eliminateEquations 29 = .ok (.getfield 18, 3) := by decide +kernel
theorem dX2_eliminateEquations_32 : decode cX2_eliminateEquations 32 = .ok (.if_icmp .gt 29, 3) := by decide +kernel
theorem dX2_eliminateEquations_35 : decode cX2_eliminateEquations 35 = .ok (.aload_n 0, 1) := by decide +kernel
theorem dX2_eliminateEquations_36 : decode cX2_eliminateEquations 36 = .ok (.getfield 30, 3) := by decide +kernel
theorem dX2_eliminateEquations_39 : decode cX2_eliminateEquations 39 = .ok (.getfield 140, 3) := by decide +kernel
theorem dX2_eliminateEquations_42 : decode cX2_eliminateEquations 42 = .ok (.iload_n 1, 1) := by decide +kernel
theorem dX2_eliminateEquations_43 : decode cX2_eliminateEquations 43 = .ok (.aaload, 1) := by decide +kernel
theorem dX2_eliminateEquations_44 : decode cX2_eliminateEquations 44 = .ok (.iload_n 2, 1) := by decide +kernel
theorem dX2_eliminateEquations_45 : decode cX2_eliminateEquations 45 = .ok (.aload_n 0, 1) := by decide +kernel
theorem dX2_eliminateEquations_46 : decode cX2_eliminateEquations 46 = .ok (.getfield 24, 3) := by decide +kernel
theorem dX2_eliminateEquations_49 : decode cX2_eliminateEquations 49 = .ok (.iload_n 1, 1) := by decide +kernel
theorem dX2_eliminateEquations_50 : decode cX2_eliminateEquations 50 = .ok (.aaload, 1) := by decide +kernel
theorem dX2_eliminateEquations_51 : decode cX2_eliminateEquations 51 = .ok (.iload_n 2, 1) := by decide +kernel
theorem dX2_eliminateEquations_52 : decode cX2_eliminateEquations 52 = .ok (.iaload, 1) := by decide +kernel
theorem dX2_eliminateEquations_53 : decode cX2_eliminateEquations 53 = .ok (.i2l, 1) := by decide +kernel
theorem dX2_eliminateEquations_54 : decode cX2_eliminateEquations 54 = .ok (.lastore, 1) := by decide +kernel
theorem dX2_eliminateEquations_55 : decode cX2_eliminateEquations 55 = .ok (.iinc 2 1, 3) := by decide +kernel
theorem dX2_eliminateEquations_58 : decode cX2_eliminateEquations 58 = .ok (.goto (-31), 3) := by decide +kernel
theorem dX2_eliminateEquations_61 : decode cX2_eliminateEquations 61 = .ok (.iinc 1 1, 3) := by decide +kernel
theorem dX2_eliminateEquations_64 : decode cX2_eliminateEquations 64 = .ok (.goto (-47), 3) := by decide +kernel
theorem dX2_eliminateEquations_67 : decode cX2_eliminateEquations 67 = .ok (.aload_n 0, 1) := by decide +kernel
theorem dX2_eliminateEquations_68 : decode cX2_eliminateEquations 68 = .ok (.getfield 30, 3) := by decide +kernel
theorem dX2_eliminateEquations_71 : decode cX2_eliminateEquations 71 = .ok (.invokevirtual 144, 3) := by decide +kernel
theorem dX2_eliminateEquations_74 : decode cX2_eliminateEquations 74 = .ok (.return_, 1) := by decide +kernel
theorem dX2_eliminateNearest_0 : decode cX2_eliminateNearest 0 = .ok (.aload_n 0, 1) := by decide +kernel
theorem dX2_eliminateNearest_1 : decode cX2_eliminateNearest 1 = .ok (.invokevirtual 102, 3) := by decide +kernel
theorem dX2_eliminateNearest_4 : decode cX2_eliminateNearest 4 = .ok (.aload_n 0, 1) := by decide +kernel
theorem dX2_eliminateNearest_5 : decode cX2_eliminateNearest 5 = .ok (.getfield 37, 3) := by decide +kernel
theorem dX2_eliminateNearest_8 : decode cX2_eliminateNearest 8 = .ok (.invokevirtual 108, 3) := by decide +kernel
theorem dX2_eliminateNearest_11 : decode cX2_eliminateNearest 11 = .ok (.istore_n 1, 1) := by decide +kernel
theorem dX2_eliminateNearest_12 : decode cX2_eliminateNearest 12 = .ok (.aload_n 0, 1) := by decide +kernel
theorem dX2_eliminateNearest_13 : decode cX2_eliminateNearest 13 = .ok (.getfield 30, 3) := by decide +kernel
theorem dX2_eliminateNearest_16 : decode cX2_eliminateNearest 16 = .ok (.aload_n 0, 1) := by decide +kernel
theorem dX2_eliminateNearest_17 : decode cX2_eliminateNearest 17 = .ok (.getfield 18, 3) := by decide +kernel
theorem dX2_eliminateNearest_20 : decode cX2_eliminateNearest 20 = .ok (.iconst 1, 1) := by decide +kernel
theorem dX2_eliminateNearest_21 : decode cX2_eliminateNearest 21 = .ok (.iadd, 1) := by decide +kernel
theorem dX2_eliminateNearest_22 : decode cX2_eliminateNearest 22 = .ok (.aload_n 0, 1) := by decide +kernel
theorem dX2_eliminateNearest_23 : decode cX2_eliminateNearest 23 = .ok (.getfield 18, 3) := by decide +kernel
theorem dX2_eliminateNearest_26 : decode cX2_eliminateNearest 26 = .ok (.iconst 1, 1) := by decide +kernel
theorem dX2_eliminateNearest_27 : decode cX2_eliminateNearest 27 = .ok (.iadd, 1) := by decide +kernel
theorem dX2_eliminateNearest_28 : decode cX2_eliminateNearest 28 = .ok (.iload_n 1, 1) := by decide +kernel
theorem dX2_eliminateNearest_29 : decode cX2_eliminateNearest 29 = .ok (.iadd, 1) := by decide +kernel
theorem dX2_eliminateNearest_30 : decode cX2_eliminateNearest 30 = .ok (.invokevirtual 136, 3) := by decide +kernel
theorem dX2_eliminateNearest_33 : decode cX2_eliminateNearest 33 = .ok (.iconst 0, 1) := by decide +kernel
theorem dX2_eliminateNearest_34 : decode cX2_eliminateNearest 34 = .ok (.istore_n 2, 1) := by decide +kernel
theorem dX2_eliminateNearest_35 : decode cX2_eliminateNearest 35 = .ok (.iload_n 2, 1) := by decide +kernel
theorem dX2_eliminateNearest_36 : decode cX2_eliminateNearest 36 = .ok (.aload_n 0, 1) := by decide +kernel
theorem dX2_eliminateNearest_37 : decode cX2_eliminateNearest 37 = .ok (.getfield 18, 3) := by decide +kernel
theorem dX2_eliminateNearest_40 : decode cX2_eliminateNearest 40 = .ok (.if_icmp .gt 94, 3) := by decide +kernel
theorem dX2_eliminateNearest_43 : decode cX2_eliminateNearest 43 = .ok (.iconst 0, 1) := by decide +kernel
theorem dX2_eliminateNearest_44 : decode cX2_eliminateNearest 44 = .ok (.istore_n 3, 1) := by decide +kernel
theorem dX2_eliminateNearest_45 : decode cX2_eliminateNearest 45 = .ok (.iload_n 3, 1) := by decide +kernel
theorem dX2_eliminateNearest_46 : decode cX2_eliminateNearest 46 = .ok (.aload_n 0, 1) := by decide +kernel
theorem dX2_eliminateNearest_47 : decode cX2_eliminateNearest 47 = .ok (.getfield 18, 3) := by decide +kernel
theorem dX2_eliminateNearest_50 : decode cX2_eliminateNearest 50 = .ok (.if_icmp .ge 26, 3) := by decide +kernel
theorem dX2_eliminateNearest_53 : decode cX2_eliminateNearest 53 = .ok (.aload_n 0, 1) := by decide +kernel
theorem dX2_eliminateNearest_54 : decode cX2_eliminateNearest 54 = .ok (.getfield 30, 3) := by decide +kernel
theorem dX2_eliminateNearest_57 : decode cX2_eliminateNearest 57 = .ok (.getfield 140, 3) := by decide +kernel
theorem dX2_eliminateNearest_60 : decode cX2_eliminateNearest 60 = .ok (.iload_n 2, 1) := by decide +kernel
theorem dX2_eliminateNearest_61 : decode cX2_eliminateNearest 61 = .ok (.aaload, 1) := by decide +kernel
theorem dX2_eliminateNearest_62 : decode cX2_eliminateNearest 62 = .ok (.iload_n 3, 1) := by decide +kernel
theorem dX2_eliminateNearest_63 : decode cX2_eliminateNearest 63 = .ok (.aload_n 0, 1) := by decide +kernel
theorem dX2_eliminateNearest_64 : decode cX2_eliminateNearest 64 = .ok (.iload_n 2, 1) := by decide +kernel
theorem dX2_eliminateNearest_65 : decode cX2_eliminateNearest 65 = .ok (.iload_n 3, 1) := by decide +kernel
theorem dX2_eliminateNearest_66 : decode cX2_eliminateNearest 66 = .ok (.invokevirtual 147, 3) := by decide +kernel
theorem dX2_eliminateNearest_69 : decode cX2_eliminateNearest 69 = .ok (.lastore, 1) := by decide +kernel
theorem dX2_eliminateNearest_70 : decode cX2_eliminateNearest 70 = .ok (.iinc 3 1, 3) := by decide +kernel
theorem dX2_eliminateNearest_73 : decode cX2_eliminateNearest 73 = .ok (.goto (-28), 3) := by decide +kernel
theorem dX2_eliminateNearest_76 : decode cX2_eliminateNearest 76 = .ok (.aload_n 0, 1) := by decide +kernel
theorem dX2_eliminateNearest_77 : decode cX2_eliminateNearest 77 = .ok (.getfield 30, 3) := by decide +kernel
theorem dX2_eliminateNearest_80 : decode cX2_eliminateNearest 80 = .ok (.getfield 140, 3) := by decide +kernel
theorem dX2_eliminateNearest_83 : decode cX2_eliminateNearest 83 = .ok (.iload_n 2, 1) := by decide +kernel
theorem dX2_eliminateNearest_84 : decode cX2_eliminateNearest 84 = .ok (.aaload, 1) := by decide +kernel
theorem dX2_eliminateNearest_85 : decode cX2_eliminateNearest 85 = .ok (.aload_n 0, 1) := by decide +kernel
theorem dX2_eliminateNearest_86 : decode cX2_eliminateNearest 86 = .ok (.getfield 18, 3) := by decide +kernel
theorem dX2_eliminateNearest_89 : decode cX2_eliminateNearest 89 = .ok (.iload_n 2, 1) := by decide +kernel
theorem dX2_eliminateNearest_90 : decode cX2_eliminateNearest 90 = .ok (.aload_n 0, 1) := by decide +kernel
theorem dX2_eliminateNearest_91 : decode cX2_eliminateNearest 91 = .ok (.getfield 18, 3) := by decide +kernel
theorem dX2_eliminateNearest_94 : decode cX2_eliminateNearest 94 = .ok (.if_icmp .ne 7, 3) := by decide +kernel
theorem dX2_eliminateNearest_97 : decode cX2_eliminateNearest 97 = .ok (.lconst 1, 1) := by decide +kernel
theorem dX2_eliminateNearest_98 : decode cX2_eliminateNearest 98 = .ok (.goto 4, 3) := by decide +kernel
theorem dX2_eliminateNearest_101 : decode cX2_eliminateNearest 101 = .ok (.lconst 0, 1) := by decide +kernel
theorem dX2_eliminateNearest_102 : decode cX2_eliminateNearest 102 = .ok (.lastore, 1) := by decide +kernel
theorem dX2_eliminateNearest_103 : decode cX2_eliminateNearest 103 = .ok (.aload_n 0, 1) := by decide +kernel
theorem dX2_eliminateNearest_104 : decode cX2_eliminateNearest 104 = .ok (.getfield 30, 3) := by decide +kernel
theorem dX2_eliminateNearest_107 : decode cX2_eliminateNearest 107 = .ok (.getfield 140, 3) := by decide +kernel
theorem dX2_eliminateNearest_110 : decode cX2_eliminateNearest 110 = .ok (.iload_n 2, 1) := by decide +kernel
theorem dX2_eliminateNearest_111 : decode cX2_eliminateNearest 111 = .ok (.aaload, 1) := by decide +kernel
theorem dX2_eliminateNearest_112 : decode cX2_eliminateNearest 112 = .ok (.aload_n 0, 1) := by decide +kernel
theorem dX2_eliminateNearest_113 : decode cX2_eliminateNearest 113 = .ok (.getfield 18, 3) := by decide +kernel
theorem dX2_eliminateNearest_116 : decode cX2_eliminateNearest 116 = .ok (.iconst 1, 1) := by decide +kernel
theorem dX2_eliminateNearest_117 : decode cX2_eliminateNearest 117 = .ok (.iadd, 1) := by decide +kernel
theorem dX2_eliminateNearest_118 : decode cX2_eliminateNearest 118 = .ok (.aload_n 0, 1) := by decide +kernel
theorem dX2_eliminateNearest_119 : decode cX2_eliminateNearest 119 = .ok (.iload_n 2, 1) := by decide +kernel
theorem dX2_eliminateNearest_120 : decode cX2_eliminateNearest 120 = .ok (.aload_n 0, 1) := by decide +kernel
theorem dX2_eliminateNearest_121 : decode cX2_eliminateNearest 121 = .ok (.getfield 18, 3) := by decide +kernel
theorem dX2_eliminateNearest_124 : decode cX2_eliminateNearest 124 = .ok (.invokevirtual 147, 3) := by decide +kernel
theorem dX2_eliminateNearest_127 : decode cX2_eliminateNearest 127 = .ok (.lastore, 1) := by decide +kernel
theorem dX2_eliminateNearest_128 : decode cX2_eliminateNearest 128 = .ok (.iinc 2 1, 3) := by decide +kernel
theorem dX2_eliminateNearest_131 : decode cX2_eliminateNearest 131 = .ok (.goto (-96), 3) := by decide +kernel
theorem dX2_eliminateNearest_134 : decode cX2_eliminateNearest 134 = .ok (.iconst 0, 1) := by decide +kernel
theorem dX2_eliminateNearest_135 : decode cX2_eliminateNearest 135 = .ok (.istore_n 2, 1) := by decide +kernel
theorem dX2_eliminateNearest_136 : decode cX2_eliminateNearest 136 = .ok (.iload_n 2, 1) := by decide +kernel
theorem dX2_eliminateNearest_137 : decode cX2_eliminateNearest 137 = .ok (.iload_n 1, 1) := by decide +kernel
theorem dX2_eliminateNearest_138 : decode cX2_eliminateNearest 138 = .ok (.if_icmp .ge 52, 3) := by decide +kernel
theorem dX2_eliminateNearest_141 : decode cX2_eliminateNearest 141 = .ok (.iconst 0, 1) := by decide +kernel
theorem dX2_eliminateNearest_142 : decode cX2_eliminateNearest 142 = .ok (.istore_n 3, 1) := by decide +kernel
theorem dX2_eliminateNearest_143 : decode cX2_eliminateNearest 143 = .ok (.iload_n 3, 1) := by decide +kernel
theorem dX2_eliminateNearest_144 : decode cX2_eliminateNearest 144 = .ok (.aload_n 0, 1) := by decide +kernel
theorem dX2_eliminateNearest_145 : decode cX2_eliminateNearest 145 = .ok (.getfield 18, 3) := by decide +kernel
theorem dX2_eliminateNearest_148 : decode cX2_eliminateNearest 148 = .ok (.if_icmp .ge 36, 3) := by decide +kernel
theorem dX2_eliminateNearest_151 : decode cX2_eliminateNearest 151 = .ok (.aload_n 0, 1) := by decide +kernel
theorem dX2_eliminateNearest_152 : decode cX2_eliminateNearest 152 = .ok (.getfield 30, 3) := by decide +kernel
theorem dX2_eliminateNearest_155 : decode cX2_eliminateNearest 155 = .ok (.getfield 140, 3) := by decide +kernel
theorem dX2_eliminateNearest_158 : decode cX2_eliminateNearest 158 = .ok (.aload_n 0, 1) := by decide +kernel
theorem dX2_eliminateNearest_159 : decode cX2_eliminateNearest 159 = .ok (.getfield 18, 3) := by decide +kernel
theorem dX2_eliminateNearest_162 : decode cX2_eliminateNearest 162 = .ok (.iconst 1, 1) := by decide +kernel
theorem dX2_eliminateNearest_163 : decode cX2_eliminateNearest 163 = .ok (.iadd, 1) := by decide +kernel
theorem dX2_eliminateNearest_164 : decode cX2_eliminateNearest 164 = .ok (.iload_n 2, 1) := by decide +kernel
theorem dX2_eliminateNearest_165 : decode cX2_eliminateNearest 165 = .ok (.iadd, 1) := by decide +kernel
theorem dX2_eliminateNearest_166 : decode cX2_eliminateNearest 166 = .ok (.aaload, 1) := by decide +kernel
theorem dX2_eliminateNearest_167 : decode cX2_eliminateNearest 167 = .ok (.iload_n 3, 1) := by decide +kernel
theorem dX2_eliminateNearest_168 : decode cX2_eliminateNearest 168 = .ok (.aload_n 0, 1) := by decide +kernel
