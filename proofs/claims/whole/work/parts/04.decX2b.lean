/-! decode rows of X2 -/
theorem dX2_eliminateNearest_169 : decode cX2_eliminateNearest 169 = .ok (.getfield 37, 3) := by decide +kernel
theorem dX2_eliminateNearest_172 : decode cX2_eliminateNearest 172 = .ok (.iload_n 2, 1) := by decide +kernel
theorem dX2_eliminateNearest_173 : decode cX2_eliminateNearest 173 = .ok (.iload_n 3, 1) := by decide +kernel
theorem dX2_eliminateNearest_174 : decode cX2_eliminateNearest 174 = .ok (.invokevirtual 114, 3) := by decide +kernel
theorem dX2_eliminateNearest_177 : decode cX2_eliminateNearest 177 = .ok (.lastore, 1) := by decide +kernel
theorem dX2_eliminateNearest_178 : decode cX2_eliminateNearest 178 = .ok (.iinc 3 1, 3) := by decide +kernel
theorem dX2_eliminateNearest_181 : decode cX2_eliminateNearest 181 = .ok (.goto (-38), 3) := by decide +kernel
theorem dX2_eliminateNearest_184 : decode cX2_eliminateNearest 184 = .ok (.iinc 2 1, 3) := by decide +kernel
theorem dX2_eliminateNearest_187 : decode cX2_eliminateNearest 187 = .ok (.goto (-51), 3) := by decide +kernel
theorem dX2_eliminateNearest_190 : decode cX2_eliminateNearest 190 = .ok (.aload_n 0, 1) := by decide +kernel
theorem dX2_eliminateNearest_191 : decode cX2_eliminateNearest 191 = .ok (.getfield 30, 3) := by decide +kernel
theorem dX2_eliminateNearest_194 : decode cX2_eliminateNearest 194 = .ok (.invokevirtual 144, 3) := by decide +kernel
theorem dX2_eliminateNearest_197 : decode cX2_eliminateNearest 197 = .ok (.return_, 1) := by decide +kernel
theorem dX2_columnProduct_0 : decode cX2_columnProduct 0 = .ok (.lconst 0, 1) := by decide +kernel
theorem dX2_columnProduct_1 : decode cX2_columnProduct 1 = .ok (.lstore_n 3, 1) := by decide +kernel
theorem dX2_columnProduct_2 : decode cX2_columnProduct 2 = .ok (.iconst 0, 1) := by decide +kernel
theorem dX2_columnProduct_3 : decode cX2_columnProduct 3 = .ok (.istore 5, 2) := by decide +kernel
theorem dX2_columnProduct_5 : decode cX2_columnProduct 5 = .ok (.iload 5, 2) := by decide +kernel
theorem dX2_columnProduct_7 : decode cX2_columnProduct 7 = .ok (.aload_n 0, 1) := by decide +kernel
theorem dX2_columnProduct_8 : decode cX2_columnProduct 8 = .ok (.getfield 41, 3) := by decide +kernel
theorem dX2_columnProduct_11 : decode cX2_columnProduct 11 = .ok (.if_icmp .ge 32, 3) := by decide +kernel
theorem dX2_columnProduct_14 : decode cX2_columnProduct 14 = .ok (.lload_n 3, 1) := by decide +kernel
theorem dX2_columnProduct_15 : decode cX2_columnProduct 15 = .ok (.aload_n 0, 1) := by decide +kernel
theorem dX2_columnProduct_16 : decode cX2_columnProduct 16 = .ok (.getfield 24, 3) := by decide +kernel
theorem dX2_columnProduct_19 : decode cX2_columnProduct 19 = .ok (.iload 5, 2) := by decide +kernel
theorem dX2_columnProduct_21 : decode cX2_columnProduct 21 = .ok (.aaload, 1) := by decide +kernel
theorem dX2_columnProduct_22 : decode cX2_columnProduct 22 = .ok (.iload_n 1, 1) := by decide +kernel
theorem dX2_columnProduct_23 : decode cX2_columnProduct 23 = .ok (.iaload, 1) := by decide +kernel
theorem dX2_columnProduct_24 : decode cX2_columnProduct 24 = .ok (.aload_n 0, 1) := by decide +kernel
theorem dX2_columnProduct_25 : decode cX2_columnProduct 25 = .ok (.getfield 24, 3) := by decide +kernel
theorem dX2_columnProduct_28 : decode cX2_columnProduct 28 = .ok (.iload 5, 2) := by decide +kernel
theorem dX2_columnProduct_30 : decode cX2_columnProduct 30 = .ok (.aaload, 1) := by decide +kernel
theorem dX2_columnProduct_31 : decode cX2_columnProduct 31 = .ok (.iload_n 2, 1) := by decide +kernel
theorem dX2_columnProduct_32 : decode cX2_columnProduct 32 = .ok (.iaload, 1) := by decide +kernel
theorem dX2_columnProduct_33 : decode cX2_columnProduct 33 = .ok (.imul, 1) := by decide +kernel
theorem dX2_columnProduct_34 : decode cX2_columnProduct 34 = .ok (.i2l, 1) := by decide +kernel
theorem dX2_columnProduct_35 : decode cX2_columnProduct 35 = .ok (.ladd, 1) := by decide +kernel
theorem dX2_columnProduct_36 : decode cX2_columnProduct 36 = .ok (.lstore_n 3, 1) := by decide +kernel
theorem dX2_columnProduct_37 : decode cX2_columnProduct 37 = .ok (.iinc 5 1, 3) := by decide +kernel
theorem dX2_columnProduct_40 : decode cX2_columnProduct 40 = .ok (.goto (-35), 3) := by decide +kernel
theorem dX2_columnProduct_43 : decode cX2_columnProduct 43 = .ok (.lload_n 3, 1) := by decide +kernel
theorem dX2_columnProduct_44 : decode cX2_columnProduct 44 = .ok (.lreturn, 1) := by decide +kernel
theorem dX2_spanLattice_0 : decode cX2_spanLattice 0 = .ok (.aload_n 0, 1) := by decide +kernel
theorem dX2_spanLattice_1 : decode cX2_spanLattice 1 = .ok (.getfield 37, 3) := by decide +kernel
theorem dX2_spanLattice_4 : decode cX2_spanLattice 4 = .ok (.aload_n 0, 1) := by decide +kernel
theorem dX2_spanLattice_5 : decode cX2_spanLattice 5 = .ok (.getfield 18, 3) := by decide +kernel
theorem dX2_spanLattice_8 : decode cX2_spanLattice 8 = .ok (.invokevirtual 150, 3) := by decide +kernel
theorem dX2_spanLattice_11 : decode cX2_spanLattice 11 = .ok (.iconst 0, 1) := by decide +kernel
theorem dX2_spanLattice_12 : decode cX2_spanLattice 12 = .ok (.istore_n 1, 1) := by decide +kernel
theorem dX2_spanLattice_13 : decode cX2_spanLattice 13 = .ok (.iload_n 1, 1) := by decide +kernel
theorem dX2_spanLattice_14 : decode cX2_spanLattice 14 = .ok (.aload_n 0, 1) := by decide +kernel
theorem dX2_spanLattice_15 : decode cX2_spanLattice 15 = .ok (.getfield 41, 3) := by decide +kernel
theorem dX2_spanLattice_18 : decode cX2_spanLattice 18 = .ok (.if_icmp .ge 67, 3) := by decide +kernel
theorem dX2_spanLattice_21 : decode cX2_spanLattice 21 = .ok (.iconst 0, 1) := by decide +kernel
theorem dX2_spanLattice_22 : decode cX2_spanLattice 22 = .ok (.istore_n 2, 1) := by decide +kernel
theorem dX2_spanLattice_23 : decode cX2_spanLattice 23 = .ok (.iload_n 2, 1) := by decide +kernel
theorem dX2_spanLattice_24 : decode cX2_spanLattice 24 = .ok (.aload_n 0, 1) := by decide +kernel
theorem dX2_spanLattice_25 : decode cX2_spanLattice 25 = .ok (.getfield 18, 3) := by decide +kernel
theorem dX2_spanLattice_28 : decode cX2_spanLattice 28 = .ok (.if_icmp .ge 29, 3) := by decide +kernel
theorem dX2_spanLattice_31 : decode cX2_spanLattice 31 = .ok (.aload_n 0, 1) := by decide +kernel
theorem dX2_spanLattice_32 : decode cX2_spanLattice 32 = .ok (.getfield 37, 3) := by decide +kernel
theorem dX2_spanLattice_35 : decode cX2_spanLattice 35 = .ok (.getfield 153, 3) := by decide +kernel
theorem dX2_spanLattice_38 : decode cX2_spanLattice 38 = .ok (.iload_n 2, 1) := by decide +kernel
theorem dX2_spanLattice_39 : decode cX2_spanLattice 39 = .ok (.aaload, 1) := by decide +kernel
theorem dX2_spanLattice_40 : decode cX2_spanLattice 40 = .ok (.iload_n 1, 1) := by decide +kernel
theorem dX2_spanLattice_41 : decode cX2_spanLattice 41 = .ok (.aload_n 0, 1) := by decide +kernel
theorem dX2_spanLattice_42 : decode cX2_spanLattice 42 = .ok (.getfield 24, 3) := by decide +kernel
theorem dX2_spanLattice_45 : decode cX2_spanLattice 45 = .ok (.iload_n 1, 1) := by decide +kernel
theorem dX2_spanLattice_46 : decode cX2_spanLattice 46 = .ok (.aaload, 1) := by decide +kernel
theorem dX2_spanLattice_47 : decode cX2_spanLattice 47 = .ok (.iload_n 2, 1) := by decide +kernel
theorem dX2_spanLattice_48 : decode cX2_spanLattice 48 = .ok (.iaload, 1) := by decide +kernel
theorem dX2_spanLattice_49 : decode cX2_spanLattice 49 = .ok (.i2l, 1) := by decide +kernel
theorem dX2_spanLattice_50 : decode cX2_spanLattice 50 = .ok (.lastore, 1) := by decide +kernel
theorem dX2_spanLattice_51 : decode cX2_spanLattice 51 = .ok (.iinc 2 1, 3) := by decide +kernel
theorem dX2_spanLattice_54 : decode cX2_spanLattice 54 = .ok (.goto (-31), 3) := by decide +kernel
theorem dX2_spanLattice_57 : decode cX2_spanLattice 57 = .ok (.aload_n 0, 1) := by decide +kernel
theorem dX2_spanLattice_58 : decode cX2_spanLattice 58 = .ok (.getfield 37, 3) := by decide +kernel
theorem dX2_spanLattice_61 : decode cX2_spanLattice 61 = .ok (.getfield 119, 3) := by decide +kernel
theorem dX2_spanLattice_64 : decode cX2_spanLattice 64 = .ok (.iload_n 1, 1) := by decide +kernel
theorem dX2_spanLattice_65 : decode cX2_spanLattice 65 = .ok (.aload_n 0, 1) := by decide +kernel
theorem dX2_spanLattice_66 : decode cX2_spanLattice 66 = .ok (.getfield 24, 3) := by decide +kernel
theorem dX2_spanLattice_69 : decode cX2_spanLattice 69 = .ok (.iload_n 1, 1) := by decide +kernel
theorem dX2_spanLattice_70 : decode cX2_spanLattice 70 = .ok (.aaload, 1) := by decide +kernel
theorem dX2_spanLattice_71 : decode cX2_spanLattice 71 = .ok (.aload_n 0, 1) := by decide +kernel
theorem dX2_spanLattice_72 : decode cX2_spanLattice 72 = .ok (.getfield 18, 3) := by decide +kernel
theorem dX2_spanLattice_75 : decode cX2_spanLattice 75 = .ok (.iaload, 1) := by decide +kernel
theorem dX2_spanLattice_76 : decode cX2_spanLattice 76 = .ok (.ineg, 1) := by decide +kernel
theorem dX2_spanLattice_77 : decode cX2_spanLattice 77 = .ok (.i2l, 1) := by decide +kernel
theorem dX2_spanLattice_78 : decode cX2_spanLattice 78 = .ok (.lastore, 1) := by decide +kernel
theorem dX2_spanLattice_79 : decode cX2_spanLattice 79 = .ok (.iinc 1 1, 3) := by decide +kernel
theorem dX2_spanLattice_82 : decode cX2_spanLattice 82 = .ok (.goto (-69), 3) := by decide +kernel
theorem dX2_spanLattice_85 : decode cX2_spanLattice 85 = .ok (.aload_n 0, 1) := by decide +kernel
theorem dX2_spanLattice_86 : decode cX2_spanLattice 86 = .ok (.getfield 37, 3) := by decide +kernel
theorem dX2_spanLattice_89 : decode cX2_spanLattice 89 = .ok (.invokevirtual 154, 3) := by decide +kernel
theorem dX2_spanLattice_92 : decode cX2_spanLattice 92 = .ok (.return_, 1) := by decide +kernel
theorem dX2_commonDivisor_0 : decode cX2_commonDivisor 0 = .ok (.lload_n 0, 1) := by decide +kernel
theorem dX2_commonDivisor_1 : decode cX2_commonDivisor 1 = .ok (.invokestatic 157, 3) := by decide +kernel
theorem dX2_commonDivisor_4 : decode cX2_commonDivisor 4 = .ok (.lstore 4, 2) := by decide +kernel
theorem dX2_commonDivisor_6 : decode cX2_commonDivisor 6 = .ok (.lload_n 2, 1) := by decide +kernel
theorem dX2_commonDivisor_7 : decode cX2_commonDivisor 7 = .ok (.invokestatic 157, 3) := by decide +kernel
theorem dX2_commonDivisor_10 : decode cX2_commonDivisor 10 = .ok (.lstore 6, 2) := by decide +kernel
theorem dX2_commonDivisor_12 : decode cX2_commonDivisor 12 = .ok (.iconst 0, 1) := by decide +kernel
theorem dX2_commonDivisor_13 : decode cX2_commonDivisor 13 = .ok (.istore 8, 2) := by decide +kernel
theorem dX2_commonDivisor_15 : decode cX2_commonDivisor 15 = .ok (.iload 8, 2) := by decide +kernel
theorem dX2_commonDivisor_17 : decode cX2_commonDivisor 17 = .ok (.bipush 100, 2) := by decide +kernel
theorem dX2_commonDivisor_19 : decode cX2_commonDivisor 19 = .ok (.if_icmp .ge 31, 3) := by decide +kernel
theorem dX2_commonDivisor_22 : decode cX2_commonDivisor 22 = .ok (.lload 6, 2) := by decide +kernel
theorem dX2_commonDivisor_24 : decode cX2_commonDivisor 24 = .ok (.lconst 0, 1) := by decide +kernel
theorem dX2_commonDivisor_25 : decode cX2_commonDivisor 25 = .ok (.lcmp, 1) := by decide +kernel
theorem dX2_commonDivisor_26 : decode cX2_commonDivisor 26 = .ok (.ifCond .eq 24, 3) := by decide +kernel
theorem dX2_commonDivisor_29 : decode cX2_commonDivisor 29 = .ok (.lload 4, 2) := by decide +kernel
theorem dX2_commonDivisor_31 : decode cX2_commonDivisor 31 = .ok (.lload 6, 2) := by decide +kernel
theorem dX2_commonDivisor_33 : decode cX2_commonDivisor 33 = .ok (.lrem, 1) := by decide +kernel
theorem dX2_commonDivisor_34 : decode cX2_commonDivisor 34 = .ok (.lstore 9, 2) := by decide +kernel
theorem dX2_commonDivisor_36 : decode cX2_commonDivisor 36 = .ok (.lload 6, 2) := by decide +kernel
theorem dX2_commonDivisor_38 : decode cX2_commonDivisor 38 = .ok (.lstore 4, 2) := by decide +kernel
theorem dX2_commonDivisor_40 : decode cX2_commonDivisor 40 = .ok (.lload 9, 2) := by decide +kernel
theorem dX2_commonDivisor_42 : decode cX2_commonDivisor 42 = .ok (.lstore 6, 2) := by decide +kernel
theorem dX2_commonDivisor_44 : decode cX2_commonDivisor 44 = .ok (.iinc 8 1, 3) := by decide +kernel
theorem dX2_commonDivisor_47 : decode cX2_commonDivisor 47 = .ok (.goto (-32), 3) := by decide +kernel
theorem dX2_commonDivisor_50 : decode cX2_commonDivisor 50 = .ok (.lload 4, 2) := by decide +kernel
theorem dX2_commonDivisor_52 : decode cX2_commonDivisor 52 = .ok (.lreturn, 1) := by decide +kernel
theorem dX2_lowestPart_0 : decode cX2_lowestPart 0 = .ok (.iload 4, 2) := by decide +kernel
theorem dX2_lowestPart_2 : decode cX2_lowestPart 2 = .ok (.ifCond .ne 7, 3) := by decide +kernel
theorem dX2_lowestPart_5 : decode cX2_lowestPart 5 = .ok (.lload_n 0, 1) := by decide +kernel
theorem dX2_lowestPart_6 : decode cX2_lowestPart 6 = .ok (.goto 4, 3) := by decide +kernel
theorem dX2_lowestPart_9 : decode cX2_lowestPart 9 = .ok (.lload_n 2, 1) := by decide +kernel
theorem dX2_lowestPart_10 : decode cX2_lowestPart 10 = .ok (.lstore 5, 2) := by decide +kernel
theorem dX2_lowestPart_12 : decode cX2_lowestPart 12 = .ok (.lload_n 0, 1) := by decide +kernel
theorem dX2_lowestPart_13 : decode cX2_lowestPart 13 = .ok (.lload_n 2, 1) := by decide +kernel
theorem dX2_lowestPart_14 : decode cX2_lowestPart 14 = .ok (.invokestatic 161, 3) := by decide +kernel
theorem dX2_lowestPart_17 : decode cX2_lowestPart 17 = .ok (.lstore 7, 2) := by decide +kernel
theorem dX2_lowestPart_19 : decode cX2_lowestPart 19 = .ok (.lload 7, 2) := by decide +kernel
theorem dX2_lowestPart_21 : decode cX2_lowestPart 21 = .ok (.lconst 1, 1) := by decide +kernel
theorem dX2_lowestPart_22 : decode cX2_lowestPart 22 = .ok (.lcmp, 1) := by decide +kernel
theorem dX2_lowestPart_23 : decode cX2_lowestPart 23 = .ok (.ifCond .le 11, 3) := by decide +kernel
theorem dX2_lowestPart_26 : decode cX2_lowestPart 26 = .ok (.lload 5, 2) := by decide +kernel
theorem dX2_lowestPart_28 : decode cX2_lowestPart 28 = .ok (.lload 7, 2) := by decide +kernel
theorem dX2_lowestPart_30 : decode cX2_lowestPart 30 = .ok (.ldiv, 1) := by decide +kernel
theorem dX2_lowestPart_31 : decode cX2_lowestPart 31 = .ok (.goto 5, 3) := by decide +kernel
theorem dX2_lowestPart_34 : decode cX2_lowestPart 34 = .ok (.lload 5, 2) := by decide +kernel
theorem dX2_lowestPart_36 : decode cX2_lowestPart 36 = .ok (.lreturn, 1) := by decide +kernel
