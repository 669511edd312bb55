/-! decode rows of X3 -/
theorem dX3_findWhole_4 : decode cX3_findWhole 4 = .ok (.aload_n 0, 1) := by decide +kernel
theorem dX3_findWhole_5 : decode cX3_findWhole 5 = .ok (.invokevirtual 115, 3) := by decide +kernel
theorem dX3_findWhole_8 : decode cX3_findWhole 8 = .ok (.ifCond .ne 5, 3) := by decide +kernel
theorem dX3_findWhole_11 : decode cX3_findWhole 11 = .ok (.iconst 0, 1) := by decide +kernel
theorem dX3_findWhole_12 : decode cX3_findWhole 12 = .ok (.ireturn, 1) := by decide +kernel
theorem dX3_findWhole_13 : decode cX3_findWhole 13 = .ok (.iconst 0, 1) := by decide +kernel
theorem dX3_findWhole_14 : decode cX3_findWhole 14 = .ok (.istore_n 1, 1) := by decide +kernel
theorem dX3_findWhole_15 : decode cX3_findWhole 15 = .ok (.iload_n 1, 1) := by decide +kernel
theorem dX3_findWhole_16 : decode cX3_findWhole 16 = .ok (.iconst 3, 1) := by decide +kernel
theorem dX3_findWhole_17 : decode cX3_findWhole 17 = .ok (.if_icmp .ge 58, 3) := by decide +kernel
theorem dX3_findWhole_20 : decode cX3_findWhole 20 = .ok (.aload_n 0, 1) := by decide +kernel
theorem dX3_findWhole_21 : decode cX3_findWhole 21 = .ok (.getfield 45, 3) := by decide +kernel
theorem dX3_findWhole_24 : decode cX3_findWhole 24 = .ok (.iload_n 1, 1) := by decide +kernel
theorem dX3_findWhole_25 : decode cX3_findWhole 25 = .ok (.lconst 0, 1) := by decide +kernel
theorem dX3_findWhole_26 : decode cX3_findWhole 26 = .ok (.lastore, 1) := by decide +kernel
theorem dX3_findWhole_27 : decode cX3_findWhole 27 = .ok (.iconst 0, 1) := by decide +kernel
theorem dX3_findWhole_28 : decode cX3_findWhole 28 = .ok (.istore_n 2, 1) := by decide +kernel
theorem dX3_findWhole_29 : decode cX3_findWhole 29 = .ok (.iload_n 2, 1) := by decide +kernel
theorem dX3_findWhole_30 : decode cX3_findWhole 30 = .ok (.aload_n 0, 1) := by decide +kernel
theorem dX3_findWhole_31 : decode cX3_findWhole 31 = .ok (.getfield 139, 3) := by decide +kernel
theorem dX3_findWhole_34 : decode cX3_findWhole 34 = .ok (.if_icmp .ge 35, 3) := by decide +kernel
theorem dX3_findWhole_37 : decode cX3_findWhole 37 = .ok (.aload_n 0, 1) := by decide +kernel
theorem dX3_findWhole_38 : decode cX3_findWhole 38 = .ok (.getfield 39, 3) := by decide +kernel
theorem dX3_findWhole_41 : decode cX3_findWhole 41 = .ok (.iload_n 2, 1) := by decide +kernel
theorem dX3_findWhole_42 : decode cX3_findWhole 42 = .ok (.iaload, 1) := by decide +kernel
theorem dX3_findWhole_43 : decode cX3_findWhole 43 = .ok (.iload_n 1, 1) := by decide +kernel
theorem dX3_findWhole_44 : decode cX3_findWhole 44 = .ok (.if_icmp .ne 19, 3) := by decide +kernel
theorem dX3_findWhole_47 : decode cX3_findWhole 47 = .ok (.aload_n 0, 1) := by decide +kernel
theorem dX3_findWhole_48 : decode cX3_findWhole 48 = .ok (.getfield 45, 3) := by decide +kernel
theorem dX3_findWhole_51 : decode cX3_findWhole 51 = .ok (.iload_n 1, 1) := by decide +kernel
theorem dX3_findWhole_52 : decode cX3_findWhole 52 = .ok (.aload_n 0, 1) := by decide +kernel
theorem dX3_findWhole_53 : decode cX3_findWhole 53 = .ok (.getfield 36, 3) := by decide +kernel
theorem dX3_findWhole_56 : decode cX3_findWhole 56 = .ok (.iconst 3, 1) := by decide +kernel
theorem dX3_findWhole_57 : decode cX3_findWhole 57 = .ok (.iload_n 2, 1) := by decide +kernel
theorem dX3_findWhole_58 : decode cX3_findWhole 58 = .ok (.imul, 1) := by decide +kernel
theorem dX3_findWhole_59 : decode cX3_findWhole 59 = .ok (.iload_n 1, 1) := by decide +kernel
theorem dX3_findWhole_60 : decode cX3_findWhole 60 = .ok (.iadd, 1) := by decide +kernel
theorem dX3_findWhole_61 : decode cX3_findWhole 61 = .ok (.laload, 1) := by decide +kernel
theorem dX3_findWhole_62 : decode cX3_findWhole 62 = .ok (.lastore, 1) := by decide +kernel
theorem dX3_findWhole_63 : decode cX3_findWhole 63 = .ok (.iinc 2 1, 3) := by decide +kernel
theorem dX3_findWhole_66 : decode cX3_findWhole 66 = .ok (.goto (-37), 3) := by decide +kernel
theorem dX3_findWhole_69 : decode cX3_findWhole 69 = .ok (.iinc 1 1, 3) := by decide +kernel
theorem dX3_findWhole_72 : decode cX3_findWhole 72 = .ok (.goto (-57), 3) := by decide +kernel
theorem dX3_findWhole_75 : decode cX3_findWhole 75 = .ok (.lconst 0, 1) := by decide +kernel
theorem dX3_findWhole_76 : decode cX3_findWhole 76 = .ok (.lstore_n 1, 1) := by decide +kernel
theorem dX3_findWhole_77 : decode cX3_findWhole 77 = .ok (.lload_n 1, 1) := by decide +kernel
theorem dX3_findWhole_78 : decode cX3_findWhole 78 = .ok (.aload_n 0, 1) := by decide +kernel
theorem dX3_findWhole_79 : decode cX3_findWhole 79 = .ok (.getfield 45, 3) := by decide +kernel
theorem dX3_findWhole_82 : decode cX3_findWhole 82 = .ok (.iconst 0, 1) := by decide +kernel
theorem dX3_findWhole_83 : decode cX3_findWhole 83 = .ok (.laload, 1) := by decide +kernel
theorem dX3_findWhole_84 : decode cX3_findWhole 84 = .ok (.lconst 0, 1) := by decide +kernel
theorem dX3_findWhole_85 : decode cX3_findWhole 85 = .ok (.lcmp, 1) := by decide +kernel
theorem dX3_findWhole_86 : decode cX3_findWhole 86 = .ok (.ifCond .le 12, 3) := by decide +kernel
theorem dX3_findWhole_89 : decode cX3_findWhole 89 = .ok (.aload_n 0, 1) := by decide +kernel
theorem dX3_findWhole_90 : decode cX3_findWhole 90 = .ok (.getfield 45, 3) := by decide +kernel
theorem dX3_findWhole_93 : decode cX3_findWhole 93 = .ok (.iconst 0, 1) := by decide +kernel
theorem dX3_findWhole_94 : decode cX3_findWhole 94 = .ok (.laload, 1) := by decide +kernel
theorem dX3_findWhole_95 : decode cX3_findWhole 95 = .ok (.goto 4, 3) := by decide +kernel
theorem dX3_findWhole_98 : decode cX3_findWhole 98 = .ok (.lconst 1, 1) := by decide +kernel
theorem dX3_findWhole_99 : decode cX3_findWhole 99 = .ok (.lcmp, 1) := by decide +kernel
theorem dX3_findWhole_100 : decode cX3_findWhole 100 = .ok (.ifCond .ge 97, 3) := by decide +kernel
theorem dX3_findWhole_103 : decode cX3_findWhole 103 = .ok (.lconst 0, 1) := by decide +kernel
theorem dX3_findWhole_104 : decode cX3_findWhole 104 = .ok (.lstore_n 3, 1) := by decide +kernel
theorem dX3_findWhole_105 : decode cX3_findWhole 105 = .ok (.lload_n 3, 1) := by decide +kernel
theorem dX3_findWhole_106 : decode cX3_findWhole 106 = .ok (.aload_n 0, 1) := by decide +kernel
theorem dX3_findWhole_107 : decode cX3_findWhole 107 = .ok (.getfield 45, 3) := by decide +kernel
theorem dX3_findWhole_110 : decode cX3_findWhole 110 = .ok (.iconst 1, 1) := by decide +kernel
theorem dX3_findWhole_111 : decode cX3_findWhole 111 = .ok (.laload, 1) := by decide +kernel
theorem dX3_findWhole_112 : decode cX3_findWhole 112 = .ok (.lconst 0, 1) := by decide +kernel
theorem dX3_findWhole_113 : decode cX3_findWhole 113 = .ok (.lcmp, 1) := by decide +kernel
theorem dX3_findWhole_114 : decode cX3_findWhole 114 = .ok (.ifCond .le 12, 3) := by decide +kernel
theorem dX3_findWhole_117 : decode cX3_findWhole 117 = .ok (.aload_n 0, 1) := by decide +kernel
theorem dX3_findWhole_118 : decode cX3_findWhole 118 = .ok (.getfield 45, 3) := by decide +kernel
theorem dX3_findWhole_121 : decode cX3_findWhole 121 = .ok (.iconst 1, 1) := by decide +kernel
theorem dX3_findWhole_122 : decode cX3_findWhole 122 = .ok (.laload, 1) := by decide +kernel
theorem dX3_findWhole_123 : decode cX3_findWhole 123 = .ok (.goto 4, 3) := by decide +kernel
theorem dX3_findWhole_126 : decode cX3_findWhole 126 = .ok (.lconst 1, 1) := by decide +kernel
theorem dX3_findWhole_127 : decode cX3_findWhole 127 = .ok (.lcmp, 1) := by decide +kernel
theorem dX3_findWhole_128 : decode cX3_findWhole 128 = .ok (.ifCond .ge 62, 3) := by decide +kernel
theorem dX3_findWhole_131 : decode cX3_findWhole 131 = .ok (.lconst 0, 1) := by decide +kernel
theorem dX3_findWhole_132 : decode cX3_findWhole 132 = .ok (.lstore 5, 2) := by decide +kernel
theorem dX3_findWhole_134 : decode cX3_findWhole 134 = .ok (.lload 5, 2) := by decide +kernel
theorem dX3_findWhole_136 : decode cX3_findWhole 136 = .ok (.aload_n 0, 1) := by decide +kernel
theorem dX3_findWhole_137 : decode cX3_findWhole 137 = .ok (.getfield 45, 3) := by decide +kernel
theorem dX3_findWhole_140 : decode cX3_findWhole 140 = .ok (.iconst 2, 1) := by decide +kernel
theorem dX3_findWhole_141 : decode cX3_findWhole 141 = .ok (.laload, 1) := by decide +kernel
theorem dX3_findWhole_142 : decode cX3_findWhole 142 = .ok (.lconst 0, 1) := by decide +kernel
theorem dX3_findWhole_143 : decode cX3_findWhole 143 = .ok (.lcmp, 1) := by decide +kernel
theorem dX3_findWhole_144 : decode cX3_findWhole 144 = .ok (.ifCond .le 12, 3) := by decide +kernel
theorem dX3_findWhole_147 : decode cX3_findWhole 147 = .ok (.aload_n 0, 1) := by decide +kernel
theorem dX3_findWhole_148 : decode cX3_findWhole 148 = .ok (.getfield 45, 3) := by decide +kernel
theorem dX3_findWhole_151 : decode cX3_findWhole 151 = .ok (.iconst 2, 1) := by decide +kernel
theorem dX3_findWhole_152 : decode cX3_findWhole 152 = .ok (.laload, 1) := by decide +kernel
theorem dX3_findWhole_153 : decode cX3_findWhole 153 = .ok (.goto 4, 3) := by decide +kernel
theorem dX3_findWhole_156 : decode cX3_findWhole 156 = .ok (.lconst 1, 1) := by decide +kernel
theorem dX3_findWhole_157 : decode cX3_findWhole 157 = .ok (.lcmp, 1) := by decide +kernel
theorem dX3_findWhole_158 : decode cX3_findWhole 158 = .ok (.ifCond .ge 25, 3) := by decide +kernel
theorem dX3_findWhole_161 : decode cX3_findWhole 161 = .ok (.aload_n 0, 1) := by decide +kernel
theorem dX3_findWhole_162 : decode cX3_findWhole 162 = .ok (.lload_n 1, 1) := by decide +kernel
theorem dX3_findWhole_163 : decode cX3_findWhole 163 = .ok (.lload_n 3, 1) := by decide +kernel
theorem dX3_findWhole_164 : decode cX3_findWhole 164 = .ok (.lload 5, 2) := by decide +kernel
theorem dX3_findWhole_166 : decode cX3_findWhole 166 = .ok (.invokevirtual 159, 3) := by decide +kernel
theorem dX3_findWhole_169 : decode cX3_findWhole 169 = .ok (.ifCond .eq 5, 3) := by decide +kernel
theorem dX3_findWhole_172 : decode cX3_findWhole 172 = .ok (.iconst 1, 1) := by decide +kernel
theorem dX3_findWhole_173 : decode cX3_findWhole 173 = .ok (.ireturn, 1) := by decide +kernel
theorem dX3_findWhole_174 : decode cX3_findWhole 174 = .ok (.lload 5, 2) := by decide +kernel
theorem dX3_findWhole_176 : decode cX3_findWhole 176 = .ok (.lconst 1, 1) := by decide +kernel
theorem dX3_findWhole_177 : decode cX3_findWhole 177 = .ok (.ladd, 1) := by decide +kernel
theorem dX3_findWhole_178 : decode cX3_findWhole 178 = .ok (.lstore 5, 2) := by decide +kernel
theorem dX3_findWhole_180 : decode cX3_findWhole 180 = .ok (.goto (-46), 3) := by decide +kernel
theorem dX3_findWhole_183 : decode cX3_findWhole 183 = .ok (.lload_n 3, 1) := by decide +kernel
theorem dX3_findWhole_184 : decode cX3_findWhole 184 = .ok (.lconst 1, 1) := by decide +kernel
theorem dX3_findWhole_185 : decode cX3_findWhole 185 = .ok (.ladd, 1) := by decide +kernel
theorem dX3_findWhole_186 : decode cX3_findWhole 186 = .ok (.lstore_n 3, 1) := by decide +kernel
theorem dX3_findWhole_187 : decode cX3_findWhole 187 = .ok (.goto (-82), 3) := by decide +kernel
theorem dX3_findWhole_190 : decode cX3_findWhole 190 = .ok (.lload_n 1, 1) := by decide +kernel
theorem dX3_findWhole_191 : decode cX3_findWhole 191 = .ok (.lconst 1, 1) := by decide +kernel
theorem dX3_findWhole_192 : decode cX3_findWhole 192 = .ok (.ladd, 1) := by decide +kernel
theorem dX3_findWhole_193 : decode cX3_findWhole 193 = .ok (.lstore_n 1, 1) := by decide +kernel
theorem dX3_findWhole_194 : decode cX3_findWhole 194 = .ok (.goto (-117), 3) := by decide +kernel
theorem dX3_findWhole_197 : decode cX3_findWhole 197 = .ok (.iconst 0, 1) := by decide +kernel
theorem dX3_findWhole_198 : decode cX3_findWhole 198 = .ok (.ireturn, 1) := by decide +kernel
theorem dX3_fits_0 : decode cX3_fits 0 = .ok (.aload_n 0, 1) := by decide +kernel
theorem dX3_fits_1 : decode cX3_fits 1 = .ok (.getfield 42, 3) := by decide +kernel
theorem dX3_fits_4 : decode cX3_fits 4 = .ok (.iconst 0, 1) := by decide +kernel
theorem dX3_fits_5 : decode cX3_fits 5 = .ok (.lload_n 1, 1) := by decide +kernel
theorem dX3_fits_6 : decode cX3_fits 6 = .ok (.lastore, 1) := by decide +kernel
theorem dX3_fits_7 : decode cX3_fits 7 = .ok (.aload_n 0, 1) := by decide +kernel
theorem dX3_fits_8 : decode cX3_fits 8 = .ok (.getfield 42, 3) := by decide +kernel
theorem dX3_fits_11 : decode cX3_fits 11 = .ok (.iconst 1, 1) := by decide +kernel
theorem dX3_fits_12 : decode cX3_fits 12 = .ok (.lload_n 3, 1) := by decide +kernel
theorem dX3_fits_13 : decode cX3_fits 13 = .ok (.lastore, 1) := by decide +kernel
theorem dX3_fits_14 : decode cX3_fits 14 = .ok (.aload_n 0, 1) := by decide +kernel
theorem dX3_fits_15 : decode cX3_fits 15 = .ok (.getfield 42, 3) := by decide +kernel
theorem dX3_fits_18 : decode cX3_fits 18 = .ok (.iconst 2, 1) := by decide +kernel
theorem dX3_fits_19 : decode cX3_fits 19 = .ok (.lload 5, 2) := by decide +kernel
theorem dX3_fits_21 : decode cX3_fits 21 = .ok (.lastore, 1) := by decide +kernel
theorem dX3_fits_22 : decode cX3_fits 22 = .ok (.iconst 0, 1) := by decide +kernel
theorem dX3_fits_23 : decode cX3_fits 23 = .ok (.istore 7, 2) := by decide +kernel
theorem dX3_fits_25 : decode cX3_fits 25 = .ok (.iconst 0, 1) := by decide +kernel
theorem dX3_fits_26 : decode cX3_fits 26 = .ok (.istore 8, 2) := by decide +kernel
theorem dX3_fits_28 : decode cX3_fits 28 = .ok (.iload 8, 2) := by decide +kernel
theorem dX3_fits_30 : decode cX3_fits 30 = .ok (.aload_n 0, 1) := by decide +kernel
theorem dX3_fits_31 : decode cX3_fits 31 = .ok (.getfield 54, 3) := by decide +kernel
theorem dX3_fits_34 : decode cX3_fits 34 = .ok (.if_icmp .ge 73, 3) := by decide +kernel
theorem dX3_fits_37 : decode cX3_fits 37 = .ok (.aload_n 0, 1) := by decide +kernel
theorem dX3_fits_38 : decode cX3_fits 38 = .ok (.getfield 45, 3) := by decide +kernel
theorem dX3_fits_41 : decode cX3_fits 41 = .ok (.iload 8, 2) := by decide +kernel
theorem dX3_fits_43 : decode cX3_fits 43 = .ok (.laload, 1) := by decide +kernel
theorem dX3_fits_44 : decode cX3_fits 44 = .ok (.lconst 0, 1) := by decide +kernel
theorem dX3_fits_45 : decode cX3_fits 45 = .ok (.lcmp, 1) := by decide +kernel
theorem dX3_fits_46 : decode cX3_fits 46 = .ok (.ifCond .le 6, 3) := by decide +kernel
theorem dX3_fits_49 : decode cX3_fits 49 = .ok (.goto 52, 3) := by decide +kernel
theorem dX3_fits_52 : decode cX3_fits 52 = .ok (.iconst 0, 1) := by decide +kernel
theorem dX3_fits_53 : decode cX3_fits 53 = .ok (.istore 9, 2) := by decide +kernel
theorem dX3_fits_55 : decode cX3_fits 55 = .ok (.iload 9, 2) := by decide +kernel
theorem dX3_fits_57 : decode cX3_fits 57 = .ok (.aload_n 0, 1) := by decide +kernel
theorem dX3_fits_58 : decode cX3_fits 58 = .ok (.getfield 95, 3) := by decide +kernel
theorem dX3_fits_61 : decode cX3_fits 61 = .ok (.if_icmp .ge 29, 3) := by decide +kernel
theorem dX3_fits_64 : decode cX3_fits 64 = .ok (.aload_n 0, 1) := by decide +kernel
theorem dX3_fits_65 : decode cX3_fits 65 = .ok (.getfield 23, 3) := by decide +kernel
theorem dX3_fits_68 : decode cX3_fits 68 = .ok (.iconst 3, 1) := by decide +kernel
theorem dX3_fits_69 : decode cX3_fits 69 = .ok (.iload 9, 2) := by decide +kernel
theorem dX3_fits_71 : decode cX3_fits 71 = .ok (.imul, 1) := by decide +kernel
theorem dX3_fits_72 : decode cX3_fits 72 = .ok (.iload 7, 2) := by decide +kernel
theorem dX3_fits_74 : decode cX3_fits 74 = .ok (.iadd, 1) := by decide +kernel
theorem dX3_fits_75 : decode cX3_fits 75 = .ok (.aload_n 0, 1) := by decide +kernel
theorem dX3_fits_76 : decode cX3_fits 76 = .ok (.iload 9, 2) := by decide +kernel
theorem dX3_fits_78 : decode cX3_fits 78 = .ok (.iload 8, 2) := by decide +kernel
theorem dX3_fits_80 : decode cX3_fits 80 = .ok (.invokevirtual 146, 3) := by decide +kernel
theorem dX3_fits_83 : decode cX3_fits 83 = .ok (.lastore, 1) := by decide +kernel
theorem dX3_fits_84 : decode cX3_fits 84 = .ok (.iinc 9 1, 3) := by decide +kernel
theorem dX3_fits_87 : decode cX3_fits 87 = .ok (.goto (-32), 3) := by decide +kernel
theorem dX3_fits_90 : decode cX3_fits 90 = .ok (.aload_n 0, 1) := by decide +kernel
theorem dX3_fits_91 : decode cX3_fits 91 = .ok (.getfield 42, 3) := by decide +kernel
theorem dX3_fits_94 : decode cX3_fits 94 = .ok (.iload 8, 2) := by decide +kernel
theorem dX3_fits_96 : decode cX3_fits 96 = .ok (.lconst 0, 1) := by decide +kernel
theorem dX3_fits_97 : decode cX3_fits 97 = .ok (.lastore, 1) := by decide +kernel
theorem dX3_fits_98 : decode cX3_fits 98 = .ok (.iinc 7 1, 3) := by decide +kernel
theorem dX3_fits_101 : decode cX3_fits 101 = .ok (.iinc 8 1, 3) := by decide +kernel
theorem dX3_fits_104 : decode cX3_fits 104 = .ok (.goto (-76), 3) := by decide +kernel
theorem dX3_fits_107 : decode cX3_fits 107 = .ok (.iconst 0, 1) := by decide +kernel
theorem dX3_fits_108 : decode cX3_fits 108 = .ok (.istore 8, 2) := by decide +kernel
theorem dX3_fits_110 : decode cX3_fits 110 = .ok (.iload 8, 2) := by decide +kernel
theorem dX3_fits_112 : decode cX3_fits 112 = .ok (.aload_n 0, 1) := by decide +kernel
theorem dX3_fits_113 : decode cX3_fits 113 = .ok (.getfield 95, 3) := by decide +kernel
theorem dX3_fits_116 : decode cX3_fits 116 = .ok (.if_icmp .ge 77, 3) := by decide +kernel
theorem dX3_fits_119 : decode cX3_fits 119 = .ok (.aload_n 0, 1) := by decide +kernel
theorem dX3_fits_120 : decode cX3_fits 120 = .ok (.getfield 27, 3) := by decide +kernel
theorem dX3_fits_123 : decode cX3_fits 123 = .ok (.iload 8, 2) := by decide +kernel
theorem dX3_fits_125 : decode cX3_fits 125 = .ok (.aload_n 0, 1) := by decide +kernel
theorem dX3_fits_126 : decode cX3_fits 126 = .ok (.getfield 7, 3) := by decide +kernel
theorem dX3_fits_129 : decode cX3_fits 129 = .ok (.iconst 4, 1) := by decide +kernel
theorem dX3_fits_130 : decode cX3_fits 130 = .ok (.aload_n 0, 1) := by decide +kernel
theorem dX3_fits_131 : decode cX3_fits 131 = .ok (.getfield 16, 3) := by decide +kernel
theorem dX3_fits_134 : decode cX3_fits 134 = .ok (.iload 8, 2) := by decide +kernel
theorem dX3_fits_136 : decode cX3_fits 136 = .ok (.iaload, 1) := by decide +kernel
theorem dX3_fits_137 : decode cX3_fits 137 = .ok (.imul, 1) := by decide +kernel
theorem dX3_fits_138 : decode cX3_fits 138 = .ok (.iconst 3, 1) := by decide +kernel
theorem dX3_fits_139 : decode cX3_fits 139 = .ok (.iadd, 1) := by decide +kernel
theorem dX3_fits_140 : decode cX3_fits 140 = .ok (.iaload, 1) := by decide +kernel
theorem dX3_fits_141 : decode cX3_fits 141 = .ok (.i2l, 1) := by decide +kernel
theorem dX3_fits_142 : decode cX3_fits 142 = .ok (.lastore, 1) := by decide +kernel
theorem dX3_fits_143 : decode cX3_fits 143 = .ok (.iconst 0, 1) := by decide +kernel
theorem dX3_fits_144 : decode cX3_fits 144 = .ok (.istore 9, 2) := by decide +kernel
theorem dX3_fits_146 : decode cX3_fits 146 = .ok (.iload 9, 2) := by decide +kernel
theorem dX3_fits_148 : decode cX3_fits 148 = .ok (.aload_n 0, 1) := by decide +kernel
theorem dX3_fits_149 : decode cX3_fits 149 = .ok (.getfield 54, 3) := by decide +kernel
theorem dX3_fits_152 : decode cX3_fits 152 = .ok (.if_icmp .ge 35, 3) := by decide +kernel
theorem dX3_fits_155 : decode cX3_fits 155 = .ok (.aload_n 0, 1) := by decide +kernel
theorem dX3_fits_156 : decode cX3_fits 156 = .ok (.getfield 27, 3) := by decide +kernel
theorem dX3_fits_159 : decode cX3_fits 159 = .ok (.iload 8, 2) := by decide +kernel
theorem dX3_fits_161 : decode cX3_fits 161 = .ok (.dup2, 1) := by decide +kernel
theorem dX3_fits_162 : decode cX3_fits 162 = .ok (.laload, 1) := by decide +kernel
theorem dX3_fits_163 : decode cX3_fits 163 = .ok (.aload_n 0, 1) := by decide +kernel
theorem dX3_fits_164 : decode cX3_fits 164 = .ok (.iload 8, 2) := by decide +kernel
theorem dX3_fits_166 : decode cX3_fits 166 = .ok (.iload 9, 2) := by decide +kernel
theorem dX3_fits_168 : decode cX3_fits 168 = .ok (.invokevirtual 146, 3) := by decide +kernel
theorem dX3_fits_171 : decode cX3_fits 171 = .ok (.aload_n 0, 1) := by decide +kernel
theorem dX3_fits_172 : decode cX3_fits 172 = .ok (.getfield 42, 3) := by decide +kernel
theorem dX3_fits_175 : decode cX3_fits 175 = .ok (.iload 9, 2) := by decide +kernel
theorem dX3_fits_177 : decode cX3_fits 177 = .ok (.laload, 1) := by decide +kernel
theorem dX3_fits_178 : decode cX3_fits 178 = .ok (.lmul, 1) := by decide +kernel
theorem dX3_fits_179 : decode cX3_fits 179 = .ok (.lsub, 1) := by decide +kernel
theorem dX3_fits_180 : decode cX3_fits 180 = .ok (.lastore, 1) := by decide +kernel
theorem dX3_fits_181 : decode cX3_fits 181 = .ok (.iinc 9 1, 3) := by decide +kernel
theorem dX3_fits_184 : decode cX3_fits 184 = .ok (.goto (-38), 3) := by decide +kernel
theorem dX3_fits_187 : decode cX3_fits 187 = .ok (.iinc 8 1, 3) := by decide +kernel
theorem dX3_fits_190 : decode cX3_fits 190 = .ok (.goto (-80), 3) := by decide +kernel
theorem dX3_fits_193 : decode cX3_fits 193 = .ok (.aload_n 0, 1) := by decide +kernel
theorem dX3_fits_194 : decode cX3_fits 194 = .ok (.aload_n 0, 1) := by decide +kernel
theorem dX3_fits_195 : decode cX3_fits 195 = .ok (.getfield 95, 3) := by decide +kernel
theorem dX3_fits_198 : decode cX3_fits 198 = .ok (.invokevirtual 102, 3) := by decide +kernel
theorem dX3_fits_201 : decode cX3_fits 201 = .ok (.iconst 0, 1) := by decide +kernel
theorem dX3_fits_202 : decode cX3_fits 202 = .ok (.istore 7, 2) := by decide +kernel
theorem dX3_fits_204 : decode cX3_fits 204 = .ok (.iconst 0, 1) := by decide +kernel
theorem dX3_fits_205 : decode cX3_fits 205 = .ok (.istore 8, 2) := by decide +kernel
theorem dX3_fits_207 : decode cX3_fits 207 = .ok (.iload 8, 2) := by decide +kernel
theorem dX3_fits_209 : decode cX3_fits 209 = .ok (.aload_n 0, 1) := by decide +kernel
theorem dX3_fits_210 : decode cX3_fits 210 = .ok (.getfield 54, 3) := by decide +kernel
theorem dX3_fits_213 : decode cX3_fits 213 = .ok (.if_icmp .ge 65, 3) := by decide +kernel
theorem dX3_fits_216 : decode cX3_fits 216 = .ok (.aload_n 0, 1) := by decide +kernel
theorem dX3_fits_217 : decode cX3_fits 217 = .ok (.getfield 45, 3) := by decide +kernel
theorem dX3_fits_220 : decode cX3_fits 220 = .ok (.iload 8, 2) := by decide +kernel
theorem dX3_fits_222 : decode cX3_fits 222 = .ok (.laload, 1) := by decide +kernel
theorem dX3_fits_223 : decode cX3_fits 223 = .ok (.lconst 0, 1) := by decide +kernel
theorem dX3_fits_224 : decode cX3_fits 224 = .ok (.lcmp, 1) := by decide +kernel
theorem dX3_fits_225 : decode cX3_fits 225 = .ok (.ifCond .le 6, 3) := by decide +kernel
theorem dX3_fits_228 : decode cX3_fits 228 = .ok (.goto 44, 3) := by decide +kernel
theorem dX3_fits_231 : decode cX3_fits 231 = .ok (.aload_n 0, 1) := by decide +kernel
theorem dX3_fits_232 : decode cX3_fits 232 = .ok (.getfield 30, 3) := by decide +kernel
theorem dX3_fits_235 : decode cX3_fits 235 = .ok (.iload 7, 2) := by decide +kernel
theorem dX3_fits_237 : decode cX3_fits 237 = .ok (.laload, 1) := by decide +kernel
theorem dX3_fits_238 : decode cX3_fits 238 = .ok (.aload_n 0, 1) := by decide +kernel
theorem dX3_fits_239 : decode cX3_fits 239 = .ok (.getfield 106, 3) := by decide +kernel
theorem dX3_fits_242 : decode cX3_fits 242 = .ok (.lrem, 1) := by decide +kernel
theorem dX3_fits_243 : decode cX3_fits 243 = .ok (.lconst 0, 1) := by decide +kernel
theorem dX3_fits_244 : decode cX3_fits 244 = .ok (.lcmp, 1) := by decide +kernel
theorem dX3_fits_245 : decode cX3_fits 245 = .ok (.ifCond .eq 5, 3) := by decide +kernel
theorem dX3_fits_248 : decode cX3_fits 248 = .ok (.iconst 0, 1) := by decide +kernel
theorem dX3_fits_249 : decode cX3_fits 249 = .ok (.ireturn, 1) := by decide +kernel
theorem dX3_fits_250 : decode cX3_fits 250 = .ok (.aload_n 0, 1) := by decide +kernel
theorem dX3_fits_251 : decode cX3_fits 251 = .ok (.getfield 42, 3) := by decide +kernel
theorem dX3_fits_254 : decode cX3_fits 254 = .ok (.iload 8, 2) := by decide +kernel
theorem dX3_fits_256 : decode cX3_fits 256 = .ok (.aload_n 0, 1) := by decide +kernel
theorem dX3_fits_257 : decode cX3_fits 257 = .ok (.getfield 30, 3) := by decide +kernel
theorem dX3_fits_260 : decode cX3_fits 260 = .ok (.iload 7, 2) := by decide +kernel
theorem dX3_fits_262 : decode cX3_fits 262 = .ok (.laload, 1) := by decide +kernel
theorem dX3_fits_263 : decode cX3_fits 263 = .ok (.aload_n 0, 1) := by decide +kernel
theorem dX3_fits_264 : decode cX3_fits 264 = .ok (.getfield 106, 3) := by decide +kernel
theorem dX3_fits_267 : decode cX3_fits 267 = .ok (.ldiv, 1) := by decide +kernel
theorem dX3_fits_268 : decode cX3_fits 268 = .ok (.lastore, 1) := by decide +kernel
theorem dX3_fits_269 : decode cX3_fits 269 = .ok (.iinc 7 1, 3) := by decide +kernel
theorem dX3_fits_272 : decode cX3_fits 272 = .ok (.iinc 8 1, 3) := by decide +kernel
theorem dX3_fits_275 : decode cX3_fits 275 = .ok (.goto (-68), 3) := by decide +kernel
theorem dX3_fits_278 : decode cX3_fits 278 = .ok (.iconst 1, 1) := by decide +kernel
theorem dX3_fits_279 : decode cX3_fits 279 = .ok (.ireturn, 1) := by decide +kernel
theorem dX3_whole_0 : decode cX3_whole 0 = .ok (.aload_n 0, 1) := by decide +kernel
theorem dX3_whole_1 : decode cX3_whole 1 = .ok (.iconst 0, 1) := by decide +kernel
theorem dX3_whole_2 : decode cX3_whole 2 = .ok (.putfield 58, 3) := by decide +kernel
theorem dX3_whole_5 : decode cX3_whole 5 = .ok (.aload_n 0, 1) := by decide +kernel
theorem dX3_whole_6 : decode cX3_whole 6 = .ok (.invokevirtual 162, 3) := by decide +kernel
theorem dX3_whole_9 : decode cX3_whole 9 = .ok (.ireturn, 1) := by decide +kernel
theorem dX3_least_0 : decode cX3_least 0 = .ok (.aload_n 0, 1) := by decide +kernel
theorem dX3_least_1 : decode cX3_least 1 = .ok (.iload_n 1, 1) := by decide +kernel
theorem dX3_least_2 : decode cX3_least 2 = .ok (.invokevirtual 127, 3) := by decide +kernel
theorem dX3_least_5 : decode cX3_least 5 = .ok (.ifCond .ne 10, 3) := by decide +kernel
theorem dX3_least_8 : decode cX3_least 8 = .ok (.aload_n 0, 1) := by decide +kernel
theorem dX3_least_9 : decode cX3_least 9 = .ok (.iconst 1, 1) := by decide +kernel
theorem dX3_least_10 : decode cX3_least 10 = .ok (.invokevirtual 130, 3) := by decide +kernel
theorem dX3_least_13 : decode cX3_least 13 = .ok (.i2l, 1) := by decide +kernel
theorem dX3_least_14 : decode cX3_least 14 = .ok (.lreturn, 1) := by decide +kernel
theorem dX3_least_15 : decode cX3_least 15 = .ok (.aload_n 0, 1) := by decide +kernel
theorem dX3_least_16 : decode cX3_least 16 = .ok (.aload_n 0, 1) := by decide +kernel
theorem dX3_least_17 : decode cX3_least 17 = .ok (.invokevirtual 162, 3) := by decide +kernel
theorem dX3_least_20 : decode cX3_least 20 = .ok (.ifCond .eq 7, 3) := by decide +kernel
theorem dX3_least_23 : decode cX3_least 23 = .ok (.iconst 0, 1) := by decide +kernel
theorem dX3_least_24 : decode cX3_least 24 = .ok (.goto 4, 3) := by decide +kernel
theorem dX3_least_27 : decode cX3_least 27 = .ok (.iconst 2, 1) := by decide +kernel
theorem dX3_least_28 : decode cX3_least 28 = .ok (.putfield 58, 3) := by decide +kernel
theorem dX3_least_31 : decode cX3_least 31 = .ok (.aload_n 0, 1) := by decide +kernel
theorem dX3_least_32 : decode cX3_least 32 = .ok (.getfield 58, 3) := by decide +kernel
theorem dX3_least_35 : decode cX3_least 35 = .ok (.ifCond .le 7, 3) := by decide +kernel
theorem dX3_least_38 : decode cX3_least 38 = .ok (.lconst 0, 1) := by decide +kernel
theorem dX3_least_39 : decode cX3_least 39 = .ok (.goto 9, 3) := by decide +kernel
theorem dX3_least_42 : decode cX3_least 42 = .ok (.aload_n 0, 1) := by decide +kernel
theorem dX3_least_43 : decode cX3_least 43 = .ok (.getfield 42, 3) := by decide +kernel
theorem dX3_least_46 : decode cX3_least 46 = .ok (.iload_n 1, 1) := by decide +kernel
theorem dX3_least_47 : decode cX3_least 47 = .ok (.laload, 1) := by decide +kernel
theorem dX3_least_48 : decode cX3_least 48 = .ok (.lreturn, 1) := by decide +kernel
theorem dX3_findNearest_0 : decode cX3_findNearest 0 = .ok (.aload_n 0, 1) := by decide +kernel
theorem dX3_findNearest_1 : decode cX3_findNearest 1 = .ok (.invokevirtual 109, 3) := by decide +kernel
theorem dX3_findNearest_4 : decode cX3_findNearest 4 = .ok (.iconst 0, 1) := by decide +kernel
theorem dX3_findNearest_5 : decode cX3_findNearest 5 = .ok (.istore_n 1, 1) := by decide +kernel
theorem dX3_findNearest_6 : decode cX3_findNearest 6 = .ok (.iload_n 1, 1) := by decide +kernel
theorem dX3_findNearest_7 : decode cX3_findNearest 7 = .ok (.iconst 3, 1) := by decide +kernel
theorem dX3_findNearest_8 : decode cX3_findNearest 8 = .ok (.if_icmp .ge 16, 3) := by decide +kernel
theorem dX3_findNearest_11 : decode cX3_findNearest 11 = .ok (.aload_n 0, 1) := by decide +kernel
theorem dX3_findNearest_12 : decode cX3_findNearest 12 = .ok (.getfield 48, 3) := by decide +kernel
theorem dX3_findNearest_15 : decode cX3_findNearest 15 = .ok (.iload_n 1, 1) := by decide +kernel
theorem dX3_findNearest_16 : decode cX3_findNearest 16 = .ok (.lconst 0, 1) := by decide +kernel
theorem dX3_findNearest_17 : decode cX3_findNearest 17 = .ok (.lastore, 1) := by decide +kernel
theorem dX3_findNearest_18 : decode cX3_findNearest 18 = .ok (.iinc 1 1, 3) := by decide +kernel
theorem dX3_findNearest_21 : decode cX3_findNearest 21 = .ok (.goto (-15), 3) := by decide +kernel
theorem dX3_findNearest_24 : decode cX3_findNearest 24 = .ok (.aload_n 0, 1) := by decide +kernel
theorem dX3_findNearest_25 : decode cX3_findNearest 25 = .ok (.lconst 1, 1) := by decide +kernel
theorem dX3_findNearest_26 : decode cX3_findNearest 26 = .ok (.putfield 165, 3) := by decide +kernel
theorem dX3_findNearest_29 : decode cX3_findNearest 29 = .ok (.aload_n 0, 1) := by decide +kernel
theorem dX3_findNearest_30 : decode cX3_findNearest 30 = .ok (.getfield 95, 3) := by decide +kernel
theorem dX3_findNearest_33 : decode cX3_findNearest 33 = .ok (.iconst 3, 1) := by decide +kernel
theorem dX3_findNearest_34 : decode cX3_findNearest 34 = .ok (.if_icmp .ne 81, 3) := by decide +kernel
theorem dX3_findNearest_37 : decode cX3_findNearest 37 = .ok (.iconst 0, 1) := by decide +kernel
theorem dX3_findNearest_38 : decode cX3_findNearest 38 = .ok (.istore_n 1, 1) := by decide +kernel
theorem dX3_findNearest_39 : decode cX3_findNearest 39 = .ok (.iload_n 1, 1) := by decide +kernel
theorem dX3_findNearest_40 : decode cX3_findNearest 40 = .ok (.iconst 3, 1) := by decide +kernel
theorem dX3_findNearest_41 : decode cX3_findNearest 41 = .ok (.if_icmp .ge 31, 3) := by decide +kernel
theorem dX3_findNearest_44 : decode cX3_findNearest 44 = .ok (.aload_n 0, 1) := by decide +kernel
theorem dX3_findNearest_45 : decode cX3_findNearest 45 = .ok (.getfield 27, 3) := by decide +kernel
theorem dX3_findNearest_48 : decode cX3_findNearest 48 = .ok (.iload_n 1, 1) := by decide +kernel
theorem dX3_findNearest_49 : decode cX3_findNearest 49 = .ok (.aload_n 0, 1) := by decide +kernel
theorem dX3_findNearest_50 : decode cX3_findNearest 50 = .ok (.getfield 7, 3) := by decide +kernel
theorem dX3_findNearest_53 : decode cX3_findNearest 53 = .ok (.iconst 4, 1) := by decide +kernel
theorem dX3_findNearest_54 : decode cX3_findNearest 54 = .ok (.aload_n 0, 1) := by decide +kernel
theorem dX3_findNearest_55 : decode cX3_findNearest 55 = .ok (.getfield 16, 3) := by decide +kernel
theorem dX3_findNearest_58 : decode cX3_findNearest 58 = .ok (.iload_n 1, 1) := by decide +kernel
theorem dX3_findNearest_59 : decode cX3_findNearest 59 = .ok (.iaload, 1) := by decide +kernel
theorem dX3_findNearest_60 : decode cX3_findNearest 60 = .ok (.imul, 1) := by decide +kernel
theorem dX3_findNearest_61 : decode cX3_findNearest 61 = .ok (.iconst 3, 1) := by decide +kernel
theorem dX3_findNearest_62 : decode cX3_findNearest 62 = .ok (.iadd, 1) := by decide +kernel
theorem dX3_findNearest_63 : decode cX3_findNearest 63 = .ok (.iaload, 1) := by decide +kernel
theorem dX3_findNearest_64 : decode cX3_findNearest 64 = .ok (.i2l, 1) := by decide +kernel
theorem dX3_findNearest_65 : decode cX3_findNearest 65 = .ok (.lastore, 1) := by decide +kernel
theorem dX3_findNearest_66 : decode cX3_findNearest 66 = .ok (.iinc 1 1, 3) := by decide +kernel
theorem dX3_findNearest_69 : decode cX3_findNearest 69 = .ok (.goto (-30), 3) := by decide +kernel
theorem dX3_findNearest_72 : decode cX3_findNearest 72 = .ok (.aload_n 0, 1) := by decide +kernel
theorem dX3_findNearest_73 : decode cX3_findNearest 73 = .ok (.invokevirtual 112, 3) := by decide +kernel
theorem dX3_findNearest_76 : decode cX3_findNearest 76 = .ok (.iconst 0, 1) := by decide +kernel
theorem dX3_findNearest_77 : decode cX3_findNearest 77 = .ok (.istore_n 1, 1) := by decide +kernel
theorem dX3_findNearest_78 : decode cX3_findNearest 78 = .ok (.iload_n 1, 1) := by decide +kernel
theorem dX3_findNearest_79 : decode cX3_findNearest 79 = .ok (.iconst 3, 1) := by decide +kernel
theorem dX3_findNearest_80 : decode cX3_findNearest 80 = .ok (.if_icmp .ge 26, 3) := by decide +kernel
theorem dX3_findNearest_83 : decode cX3_findNearest 83 = .ok (.aload_n 0, 1) := by decide +kernel
theorem dX3_findNearest_84 : decode cX3_findNearest 84 = .ok (.getfield 48, 3) := by decide +kernel
theorem dX3_findNearest_87 : decode cX3_findNearest 87 = .ok (.aload_n 0, 1) := by decide +kernel
theorem dX3_findNearest_88 : decode cX3_findNearest 88 = .ok (.getfield 13, 3) := by decide +kernel
theorem dX3_findNearest_91 : decode cX3_findNearest 91 = .ok (.iload_n 1, 1) := by decide +kernel
theorem dX3_findNearest_92 : decode cX3_findNearest 92 = .ok (.iaload, 1) := by decide +kernel
theorem dX3_findNearest_93 : decode cX3_findNearest 93 = .ok (.aload_n 0, 1) := by decide +kernel
theorem dX3_findNearest_94 : decode cX3_findNearest 94 = .ok (.getfield 30, 3) := by decide +kernel
theorem dX3_findNearest_97 : decode cX3_findNearest 97 = .ok (.iload_n 1, 1) := by decide +kernel
theorem dX3_findNearest_98 : decode cX3_findNearest 98 = .ok (.laload, 1) := by decide +kernel
theorem dX3_findNearest_99 : decode cX3_findNearest 99 = .ok (.lastore, 1) := by decide +kernel
theorem dX3_findNearest_100 : decode cX3_findNearest 100 = .ok (.iinc 1 1, 3) := by decide +kernel
theorem dX3_findNearest_103 : decode cX3_findNearest 103 = .ok (.goto (-25), 3) := by decide +kernel
theorem dX3_findNearest_106 : decode cX3_findNearest 106 = .ok (.aload_n 0, 1) := by decide +kernel
theorem dX3_findNearest_107 : decode cX3_findNearest 107 = .ok (.aload_n 0, 1) := by decide +kernel
theorem dX3_findNearest_108 : decode cX3_findNearest 108 = .ok (.getfield 106, 3) := by decide +kernel
theorem dX3_findNearest_111 : decode cX3_findNearest 111 = .ok (.putfield 165, 3) := by decide +kernel
theorem dX3_findNearest_114 : decode cX3_findNearest 114 = .ok (.return_, 1) := by decide +kernel
theorem dX3_findNearest_115 : decode cX3_findNearest 115 = .ok (.iconst 0, 1) := by decide +kernel
theorem dX3_findNearest_116 : decode cX3_findNearest 116 = .ok (.istore_n 1, 1) := by decide +kernel
theorem dX3_findNearest_117 : decode cX3_findNearest 117 = .ok (.iload_n 1, 1) := by decide +kernel
theorem dX3_findNearest_118 : decode cX3_findNearest 118 = .ok (.aload_n 0, 1) := by decide +kernel
theorem dX3_findNearest_119 : decode cX3_findNearest 119 = .ok (.getfield 72, 3) := by decide +kernel
theorem dX3_findNearest_122 : decode cX3_findNearest 122 = .ok (.if_icmp .ge 46, 3) := by decide +kernel
theorem dX3_findNearest_125 : decode cX3_findNearest 125 = .ok (.iconst 0, 1) := by decide +kernel
theorem dX3_findNearest_126 : decode cX3_findNearest 126 = .ok (.istore_n 2, 1) := by decide +kernel
theorem dX3_findNearest_127 : decode cX3_findNearest 127 = .ok (.iload_n 2, 1) := by decide +kernel
theorem dX3_findNearest_128 : decode cX3_findNearest 128 = .ok (.aload_n 0, 1) := by decide +kernel
theorem dX3_findNearest_129 : decode cX3_findNearest 129 = .ok (.getfield 95, 3) := by decide +kernel
theorem dX3_findNearest_132 : decode cX3_findNearest 132 = .ok (.if_icmp .ge 30, 3) := by decide +kernel
theorem dX3_findNearest_135 : decode cX3_findNearest 135 = .ok (.aload_n 0, 1) := by decide +kernel
theorem dX3_findNearest_136 : decode cX3_findNearest 136 = .ok (.getfield 51, 3) := by decide +kernel
theorem dX3_findNearest_139 : decode cX3_findNearest 139 = .ok (.iconst 3, 1) := by decide +kernel
theorem dX3_findNearest_140 : decode cX3_findNearest 140 = .ok (.iload_n 1, 1) := by decide +kernel
theorem dX3_findNearest_141 : decode cX3_findNearest 141 = .ok (.imul, 1) := by decide +kernel
theorem dX3_findNearest_142 : decode cX3_findNearest 142 = .ok (.iload_n 2, 1) := by decide +kernel
theorem dX3_findNearest_143 : decode cX3_findNearest 143 = .ok (.iadd, 1) := by decide +kernel
theorem dX3_findNearest_144 : decode cX3_findNearest 144 = .ok (.aload_n 0, 1) := by decide +kernel
theorem dX3_findNearest_145 : decode cX3_findNearest 145 = .ok (.iload_n 1, 1) := by decide +kernel
theorem dX3_findNearest_146 : decode cX3_findNearest 146 = .ok (.aload_n 0, 1) := by decide +kernel
theorem dX3_findNearest_147 : decode cX3_findNearest 147 = .ok (.getfield 16, 3) := by decide +kernel
theorem dX3_findNearest_150 : decode cX3_findNearest 150 = .ok (.iload_n 2, 1) := by decide +kernel
theorem dX3_findNearest_151 : decode cX3_findNearest 151 = .ok (.iaload, 1) := by decide +kernel
theorem dX3_findNearest_152 : decode cX3_findNearest 152 = .ok (.invokevirtual 168, 3) := by decide +kernel
theorem dX3_findNearest_155 : decode cX3_findNearest 155 = .ok (.lastore, 1) := by decide +kernel
theorem dX3_findNearest_156 : decode cX3_findNearest 156 = .ok (.iinc 2 1, 3) := by decide +kernel
theorem dX3_findNearest_159 : decode cX3_findNearest 159 = .ok (.goto (-32), 3) := by decide +kernel
theorem dX3_findNearest_162 : decode cX3_findNearest 162 = .ok (.iinc 1 1, 3) := by decide +kernel
theorem dX3_findNearest_165 : decode cX3_findNearest 165 = .ok (.goto (-48), 3) := by decide +kernel
theorem dX3_findNearest_168 : decode cX3_findNearest 168 = .ok (.iconst 0, 1) := by decide +kernel
theorem dX3_findNearest_169 : decode cX3_findNearest 169 = .ok (.istore_n 1, 1) := by decide +kernel
theorem dX3_findNearest_170 : decode cX3_findNearest 170 = .ok (.iload_n 1, 1) := by decide +kernel
theorem dX3_findNearest_171 : decode cX3_findNearest 171 = .ok (.aload_n 0, 1) := by decide +kernel
theorem dX3_findNearest_172 : decode cX3_findNearest 172 = .ok (.getfield 95, 3) := by decide +kernel
theorem dX3_findNearest_175 : decode cX3_findNearest 175 = .ok (.if_icmp .ge 140, 3) := by decide +kernel
theorem dX3_findNearest_178 : decode cX3_findNearest 178 = .ok (.aload_n 0, 1) := by decide +kernel
theorem dX3_findNearest_179 : decode cX3_findNearest 179 = .ok (.getfield 27, 3) := by decide +kernel
theorem dX3_findNearest_182 : decode cX3_findNearest 182 = .ok (.iload_n 1, 1) := by decide +kernel
theorem dX3_findNearest_183 : decode cX3_findNearest 183 = .ok (.lconst 0, 1) := by decide +kernel
theorem dX3_findNearest_184 : decode cX3_findNearest 184 = .ok (.lastore, 1) := by decide +kernel
theorem dX3_findNearest_185 : decode cX3_findNearest 185 = .ok (.iconst 0, 1) := by decide +kernel
theorem dX3_findNearest_186 : decode cX3_findNearest 186 = .ok (.istore_n 2, 1) := by decide +kernel
theorem dX3_findNearest_187 : decode cX3_findNearest 187 = .ok (.iload_n 2, 1) := by decide +kernel
theorem dX3_findNearest_188 : decode cX3_findNearest 188 = .ok (.aload_n 0, 1) := by decide +kernel
theorem dX3_findNearest_189 : decode cX3_findNearest 189 = .ok (.getfield 72, 3) := by decide +kernel
theorem dX3_findNearest_192 : decode cX3_findNearest 192 = .ok (.if_icmp .ge 40, 3) := by decide +kernel
theorem dX3_findNearest_195 : decode cX3_findNearest 195 = .ok (.aload_n 0, 1) := by decide +kernel
theorem dX3_findNearest_196 : decode cX3_findNearest 196 = .ok (.getfield 27, 3) := by decide +kernel
theorem dX3_findNearest_199 : decode cX3_findNearest 199 = .ok (.iload_n 1, 1) := by decide +kernel
theorem dX3_findNearest_200 : decode cX3_findNearest 200 = .ok (.dup2, 1) := by decide +kernel
theorem dX3_findNearest_201 : decode cX3_findNearest 201 = .ok (.laload, 1) := by decide +kernel
theorem dX3_findNearest_202 : decode cX3_findNearest 202 = .ok (.aload_n 0, 1) := by decide +kernel
theorem dX3_findNearest_203 : decode cX3_findNearest 203 = .ok (.getfield 51, 3) := by decide +kernel
theorem dX3_findNearest_206 : decode cX3_findNearest 206 = .ok (.iconst 3, 1) := by decide +kernel
theorem dX3_findNearest_207 : decode cX3_findNearest 207 = .ok (.iload_n 2, 1) := by decide +kernel
theorem dX3_findNearest_208 : decode cX3_findNearest 208 = .ok (.imul, 1) := by decide +kernel
theorem dX3_findNearest_209 : decode cX3_findNearest 209 = .ok (.iload_n 1, 1) := by decide +kernel
theorem dX3_findNearest_210 : decode cX3_findNearest 210 = .ok (.iadd, 1) := by decide +kernel
theorem dX3_findNearest_211 : decode cX3_findNearest 211 = .ok (.laload, 1) := by decide +kernel
theorem dX3_findNearest_212 : decode cX3_findNearest 212 = .ok (.aload_n 0, 1) := by decide +kernel
theorem dX3_findNearest_213 : decode cX3_findNearest 213 = .ok (.getfield 7, 3) := by decide +kernel
theorem dX3_findNearest_216 : decode cX3_findNearest 216 = .ok (.iconst 4, 1) := by decide +kernel
theorem dX3_findNearest_217 : decode cX3_findNearest 217 = .ok (.iload_n 2, 1) := by decide +kernel
theorem dX3_findNearest_218 : decode cX3_findNearest 218 = .ok (.imul, 1) := by decide +kernel
theorem dX3_findNearest_219 : decode cX3_findNearest 219 = .ok (.iconst 3, 1) := by decide +kernel
theorem dX3_findNearest_220 : decode cX3_findNearest 220 = .ok (.iadd, 1) := by decide +kernel
theorem dX3_findNearest_221 : decode cX3_findNearest 221 = .ok (.iaload, 1) := by decide +kernel
theorem dX3_findNearest_222 : decode cX3_findNearest 222 = .ok (.i2l, 1) := by decide +kernel
theorem dX3_findNearest_223 : decode cX3_findNearest 223 = .ok (.lmul, 1) := by decide +kernel
theorem dX3_findNearest_224 : decode cX3_findNearest 224 = .ok (.ladd, 1) := by decide +kernel
theorem dX3_findNearest_225 : decode cX3_findNearest 225 = .ok (.lastore, 1) := by decide +kernel
theorem dX3_findNearest_226 : decode cX3_findNearest 226 = .ok (.iinc 2 1, 3) := by decide +kernel
theorem dX3_findNearest_229 : decode cX3_findNearest 229 = .ok (.goto (-42), 3) := by decide +kernel
theorem dX3_findNearest_232 : decode cX3_findNearest 232 = .ok (.iconst 0, 1) := by decide +kernel
theorem dX3_findNearest_233 : decode cX3_findNearest 233 = .ok (.istore_n 2, 1) := by decide +kernel
theorem dX3_findNearest_234 : decode cX3_findNearest 234 = .ok (.iload_n 2, 1) := by decide +kernel
theorem dX3_findNearest_235 : decode cX3_findNearest 235 = .ok (.aload_n 0, 1) := by decide +kernel
theorem dX3_findNearest_236 : decode cX3_findNearest 236 = .ok (.getfield 95, 3) := by decide +kernel
theorem dX3_findNearest_239 : decode cX3_findNearest 239 = .ok (.if_icmp .ge 70, 3) := by decide +kernel
theorem dX3_findNearest_242 : decode cX3_findNearest 242 = .ok (.aload_n 0, 1) := by decide +kernel
theorem dX3_findNearest_243 : decode cX3_findNearest 243 = .ok (.getfield 23, 3) := by decide +kernel
theorem dX3_findNearest_246 : decode cX3_findNearest 246 = .ok (.iconst 3, 1) := by decide +kernel
theorem dX3_findNearest_247 : decode cX3_findNearest 247 = .ok (.iload_n 1, 1) := by decide +kernel
theorem dX3_findNearest_248 : decode cX3_findNearest 248 = .ok (.imul, 1) := by decide +kernel
theorem dX3_findNearest_249 : decode cX3_findNearest 249 = .ok (.iload_n 2, 1) := by decide +kernel
theorem dX3_findNearest_250 : decode cX3_findNearest 250 = .ok (.iadd, 1) := by decide +kernel
theorem dX3_findNearest_251 : decode cX3_findNearest 251 = .ok (.lconst 0, 1) := by decide +kernel
theorem dX3_findNearest_252 : decode cX3_findNearest 252 = .ok (.lastore, 1) := by decide +kernel
theorem dX3_findNearest_253 : decode cX3_findNearest 253 = .ok (.iconst 0, 1) := by decide +kernel
theorem dX3_findNearest_254 : decode cX3_findNearest 254 = .ok (.istore_n 3, 1) := by decide +kernel
theorem dX3_findNearest_255 : decode cX3_findNearest 255 = .ok (.iload_n 3, 1) := by decide +kernel
theorem dX3_findNearest_256 : decode cX3_findNearest 256 = .ok (.aload_n 0, 1) := by decide +kernel
theorem dX3_findNearest_257 : decode cX3_findNearest 257 = .ok (.getfield 72, 3) := by decide +kernel
theorem dX3_findNearest_260 : decode cX3_findNearest 260 = .ok (.if_icmp .ge 43, 3) := by decide +kernel
theorem dX3_findNearest_263 : decode cX3_findNearest 263 = .ok (.aload_n 0, 1) := by decide +kernel
theorem dX3_findNearest_264 : decode cX3_findNearest 264 = .ok (.getfield 23, 3) := by decide +kernel
theorem dX3_findNearest_267 : decode cX3_findNearest 267 = .ok (.iconst 3, 1) := by decide +kernel
theorem dX3_findNearest_268 : decode cX3_findNearest 268 = .ok (.iload_n 1, 1) := by decide +kernel
theorem dX3_findNearest_269 : decode cX3_findNearest 269 = .ok (.imul, 1) := by decide +kernel
theorem dX3_findNearest_270 : decode cX3_findNearest 270 = .ok (.iload_n 2, 1) := by decide +kernel
theorem dX3_findNearest_271 : decode cX3_findNearest 271 = .ok (.iadd, 1) := by decide +kernel
theorem dX3_findNearest_272 : decode cX3_findNearest 272 = .ok (.dup2, 1) := by decide +kernel
theorem dX3_findNearest_273 : decode cX3_findNearest 273 = .ok (.laload, 1) := by decide +kernel
theorem dX3_findNearest_274 : decode cX3_findNearest 274 = .ok (.aload_n 0, 1) := by decide +kernel
theorem dX3_findNearest_275 : decode cX3_findNearest 275 = .ok (.getfield 51, 3) := by decide +kernel
theorem dX3_findNearest_278 : decode cX3_findNearest 278 = .ok (.iconst 3, 1) := by decide +kernel
theorem dX3_findNearest_279 : decode cX3_findNearest 279 = .ok (.iload_n 3, 1) := by decide +kernel
theorem dX3_findNearest_280 : decode cX3_findNearest 280 = .ok (.imul, 1) := by decide +kernel
theorem dX3_findNearest_281 : decode cX3_findNearest 281 = .ok (.iload_n 1, 1) := by decide +kernel
theorem dX3_findNearest_282 : decode cX3_findNearest 282 = .ok (.iadd, 1) := by decide +kernel
theorem dX3_findNearest_283 : decode cX3_findNearest 283 = .ok (.laload, 1) := by decide +kernel
theorem dX3_findNearest_284 : decode cX3_findNearest 284 = .ok (.aload_n 0, 1) := by decide +kernel
theorem dX3_findNearest_285 : decode cX3_findNearest 285 = .ok (.getfield 51, 3) := by decide +kernel
theorem dX3_findNearest_288 : decode cX3_findNearest 288 = .ok (.iconst 3, 1) := by decide +kernel
theorem dX3_findNearest_289 : decode cX3_findNearest 289 = .ok (.iload_n 3, 1) := by decide +kernel
theorem dX3_findNearest_290 : decode cX3_findNearest 290 = .ok (.imul, 1) := by decide +kernel
theorem dX3_findNearest_291 : decode cX3_findNearest 291 = .ok (.iload_n 2, 1) := by decide +kernel
theorem dX3_findNearest_292 : decode cX3_findNearest 292 = .ok (.iadd, 1) := by decide +kernel
theorem dX3_findNearest_293 : decode cX3_findNearest 293 = .ok (.laload, 1) := by decide +kernel
theorem dX3_findNearest_294 : decode cX3_findNearest 294 = .ok (.lmul, 1) := by decide +kernel
theorem dX3_findNearest_295 : decode cX3_findNearest 295 = .ok (.ladd, 1) := by decide +kernel
theorem dX3_findNearest_296 : decode cX3_findNearest 296 = .ok (.lastore, 1) := by decide +kernel
theorem dX3_findNearest_297 : decode cX3_findNearest 297 = .ok (.iinc 3 1, 3) := by decide +kernel
theorem dX3_findNearest_300 : decode cX3_findNearest 300 = .ok (.goto (-45), 3) := by decide +kernel
theorem dX3_findNearest_303 : decode cX3_findNearest 303 = .ok (.iinc 2 1, 3) := by decide +kernel
theorem dX3_findNearest_306 : decode cX3_findNearest 306 = .ok (.goto (-72), 3) := by decide +kernel
theorem dX3_findNearest_309 : decode cX3_findNearest 309 = .ok (.iinc 1 1, 3) := by decide +kernel
theorem dX3_findNearest_312 : decode cX3_findNearest 312 = .ok (.goto (-142), 3) := by decide +kernel
theorem dX3_findNearest_315 : decode cX3_findNearest 315 = .ok (.aload_n 0, 1) := by decide +kernel
theorem dX3_findNearest_316 : decode cX3_findNearest 316 = .ok (.aload_n 0, 1) := by decide +kernel
theorem dX3_findNearest_317 : decode cX3_findNearest 317 = .ok (.getfield 95, 3) := by decide +kernel
theorem dX3_findNearest_320 : decode cX3_findNearest 320 = .ok (.invokevirtual 102, 3) := by decide +kernel
theorem dX3_findNearest_323 : decode cX3_findNearest 323 = .ok (.aload_n 0, 1) := by decide +kernel
theorem dX3_findNearest_324 : decode cX3_findNearest 324 = .ok (.aload_n 0, 1) := by decide +kernel
theorem dX3_findNearest_325 : decode cX3_findNearest 325 = .ok (.getfield 106, 3) := by decide +kernel
theorem dX3_findNearest_328 : decode cX3_findNearest 328 = .ok (.putfield 165, 3) := by decide +kernel
theorem dX3_findNearest_331 : decode cX3_findNearest 331 = .ok (.iconst 0, 1) := by decide +kernel
theorem dX3_findNearest_332 : decode cX3_findNearest 332 = .ok (.istore_n 1, 1) := by decide +kernel
theorem dX3_findNearest_333 : decode cX3_findNearest 333 = .ok (.iload_n 1, 1) := by decide +kernel
theorem dX3_findNearest_334 : decode cX3_findNearest 334 = .ok (.aload_n 0, 1) := by decide +kernel
theorem dX3_findNearest_335 : decode cX3_findNearest 335 = .ok (.getfield 54, 3) := by decide +kernel
theorem dX3_findNearest_338 : decode cX3_findNearest 338 = .ok (.if_icmp .ge 47, 3) := by decide +kernel
theorem dX3_findNearest_341 : decode cX3_findNearest 341 = .ok (.iconst 0, 1) := by decide +kernel
theorem dX3_findNearest_342 : decode cX3_findNearest 342 = .ok (.istore_n 2, 1) := by decide +kernel
theorem dX3_findNearest_343 : decode cX3_findNearest 343 = .ok (.iload_n 2, 1) := by decide +kernel
theorem dX3_findNearest_344 : decode cX3_findNearest 344 = .ok (.aload_n 0, 1) := by decide +kernel
theorem dX3_findNearest_345 : decode cX3_findNearest 345 = .ok (.getfield 95, 3) := by decide +kernel
theorem dX3_findNearest_348 : decode cX3_findNearest 348 = .ok (.if_icmp .ge 31, 3) := by decide +kernel
theorem dX3_findNearest_351 : decode cX3_findNearest 351 = .ok (.aload_n 0, 1) := by decide +kernel
theorem dX3_findNearest_352 : decode cX3_findNearest 352 = .ok (.getfield 48, 3) := by decide +kernel
theorem dX3_findNearest_355 : decode cX3_findNearest 355 = .ok (.iload_n 1, 1) := by decide +kernel
theorem dX3_findNearest_356 : decode cX3_findNearest 356 = .ok (.dup2, 1) := by decide +kernel
theorem dX3_findNearest_357 : decode cX3_findNearest 357 = .ok (.laload, 1) := by decide +kernel
theorem dX3_findNearest_358 : decode cX3_findNearest 358 = .ok (.aload_n 0, 1) := by decide +kernel
theorem dX3_findNearest_359 : decode cX3_findNearest 359 = .ok (.iload_n 2, 1) := by decide +kernel
theorem dX3_findNearest_360 : decode cX3_findNearest 360 = .ok (.iload_n 1, 1) := by decide +kernel
theorem dX3_findNearest_361 : decode cX3_findNearest 361 = .ok (.invokevirtual 146, 3) := by decide +kernel
theorem dX3_findNearest_364 : decode cX3_findNearest 364 = .ok (.aload_n 0, 1) := by decide +kernel
theorem dX3_findNearest_365 : decode cX3_findNearest 365 = .ok (.getfield 30, 3) := by decide +kernel
theorem dX3_findNearest_368 : decode cX3_findNearest 368 = .ok (.iload_n 2, 1) := by decide +kernel
theorem dX3_findNearest_369 : decode cX3_findNearest 369 = .ok (.laload, 1) := by decide +kernel
theorem dX3_findNearest_370 : decode cX3_findNearest 370 = .ok (.lmul, 1) := by decide +kernel
theorem dX3_findNearest_371 : decode cX3_findNearest 371 = .ok (.ladd, 1) := by decide +kernel
theorem dX3_findNearest_372 : decode cX3_findNearest 372 = .ok (.lastore, 1) := by decide +kernel
theorem dX3_findNearest_373 : decode cX3_findNearest 373 = .ok (.iinc 2 1, 3) := by decide +kernel
theorem dX3_findNearest_376 : decode cX3_findNearest 376 = .ok (.goto (-33), 3) := by decide +kernel
theorem dX3_findNearest_379 : decode cX3_findNearest 379 = .ok (.iinc 1 1, 3) := by decide +kernel
theorem dX3_findNearest_382 : decode cX3_findNearest 382 = .ok (.goto (-49), 3) := by decide +kernel
theorem dX3_findNearest_385 : decode cX3_findNearest 385 = .ok (.return_, 1) := by decide +kernel
theorem dX3_products_0 : decode cX3_products 0 = .ok (.lconst 0, 1) := by decide +kernel
theorem dX3_products_1 : decode cX3_products 1 = .ok (.lstore_n 3, 1) := by decide +kernel
theorem dX3_products_2 : decode cX3_products 2 = .ok (.iconst 0, 1) := by decide +kernel
theorem dX3_products_3 : decode cX3_products 3 = .ok (.istore 5, 2) := by decide +kernel
theorem dX3_products_5 : decode cX3_products 5 = .ok (.iload 5, 2) := by decide +kernel
theorem dX3_products_7 : decode cX3_products 7 = .ok (.aload_n 0, 1) := by decide +kernel
theorem dX3_products_8 : decode cX3_products 8 = .ok (.getfield 54, 3) := by decide +kernel
theorem dX3_products_11 : decode cX3_products 11 = .ok (.if_icmp .ge 37, 3) := by decide +kernel
theorem dX3_products_14 : decode cX3_products 14 = .ok (.lload_n 3, 1) := by decide +kernel
theorem dX3_products_15 : decode cX3_products 15 = .ok (.aload_n 0, 1) := by decide +kernel
theorem dX3_products_16 : decode cX3_products 16 = .ok (.getfield 7, 3) := by decide +kernel
theorem dX3_products_19 : decode cX3_products 19 = .ok (.iconst 4, 1) := by decide +kernel
theorem dX3_products_20 : decode cX3_products 20 = .ok (.iload_n 1, 1) := by decide +kernel
theorem dX3_products_21 : decode cX3_products 21 = .ok (.imul, 1) := by decide +kernel
theorem dX3_products_22 : decode cX3_products 22 = .ok (.iload 5, 2) := by decide +kernel
theorem dX3_products_24 : decode cX3_products 24 = .ok (.iadd, 1) := by decide +kernel
theorem dX3_products_25 : decode cX3_products 25 = .ok (.iaload, 1) := by decide +kernel
theorem dX3_products_26 : decode cX3_products 26 = .ok (.i2l, 1) := by decide +kernel
theorem dX3_products_27 : decode cX3_products 27 = .ok (.aload_n 0, 1) := by decide +kernel
theorem dX3_products_28 : decode cX3_products 28 = .ok (.getfield 7, 3) := by decide +kernel
theorem dX3_products_31 : decode cX3_products 31 = .ok (.iconst 4, 1) := by decide +kernel
theorem dX3_products_32 : decode cX3_products 32 = .ok (.iload_n 2, 1) := by decide +kernel
theorem dX3_products_33 : decode cX3_products 33 = .ok (.imul, 1) := by decide +kernel
theorem dX3_products_34 : decode cX3_products 34 = .ok (.iload 5, 2) := by decide +kernel
theorem dX3_products_36 : decode cX3_products 36 = .ok (.iadd, 1) := by decide +kernel
theorem dX3_products_37 : decode cX3_products 37 = .ok (.iaload, 1) := by decide +kernel
theorem dX3_products_38 : decode cX3_products 38 = .ok (.i2l, 1) := by decide +kernel
theorem dX3_products_39 : decode cX3_products 39 = .ok (.lmul, 1) := by decide +kernel
theorem dX3_products_40 : decode cX3_products 40 = .ok (.ladd, 1) := by decide +kernel
theorem dX3_products_41 : decode cX3_products 41 = .ok (.lstore_n 3, 1) := by decide +kernel
theorem dX3_products_42 : decode cX3_products 42 = .ok (.iinc 5 1, 3) := by decide +kernel
theorem dX3_products_45 : decode cX3_products 45 = .ok (.goto (-40), 3) := by decide +kernel
theorem dX3_products_48 : decode cX3_products 48 = .ok (.lload_n 3, 1) := by decide +kernel
theorem dX3_products_49 : decode cX3_products 49 = .ok (.lreturn, 1) := by decide +kernel
theorem dX3_nearest_0 : decode cX3_nearest 0 = .ok (.aload_n 0, 1) := by decide +kernel
theorem dX3_nearest_1 : decode cX3_nearest 1 = .ok (.aload_n 0, 1) := by decide +kernel
theorem dX3_nearest_2 : decode cX3_nearest 2 = .ok (.iload_n 1, 1) := by decide +kernel
theorem dX3_nearest_3 : decode cX3_nearest 3 = .ok (.invokevirtual 127, 3) := by decide +kernel
theorem dX3_nearest_6 : decode cX3_nearest 6 = .ok (.ifCond .ne 7, 3) := by decide +kernel
theorem dX3_nearest_9 : decode cX3_nearest 9 = .ok (.iconst 1, 1) := by decide +kernel
theorem dX3_nearest_10 : decode cX3_nearest 10 = .ok (.goto 18, 3) := by decide +kernel
theorem dX3_nearest_13 : decode cX3_nearest 13 = .ok (.iload_n 2, 1) := by decide +kernel
theorem dX3_nearest_14 : decode cX3_nearest 14 = .ok (.i2l, 1) := by decide +kernel
theorem dX3_nearest_15 : decode cX3_nearest 15 = .ok (.lconst 0, 1) := by decide +kernel
theorem dX3_nearest_16 : decode cX3_nearest 16 = .ok (.lconst 1, 1) := by decide +kernel
theorem dX3_nearest_17 : decode cX3_nearest 17 = .ok (.invokestatic 75, 3) := by decide +kernel
theorem dX3_nearest_20 : decode cX3_nearest 20 = .ok (.ifCond .eq 7, 3) := by decide +kernel
theorem dX3_nearest_23 : decode cX3_nearest 23 = .ok (.iconst 0, 1) := by decide +kernel
theorem dX3_nearest_24 : decode cX3_nearest 24 = .ok (.goto 4, 3) := by decide +kernel
theorem dX3_nearest_27 : decode cX3_nearest 27 = .ok (.iconst 2, 1) := by decide +kernel
theorem dX3_nearest_28 : decode cX3_nearest 28 = .ok (.putfield 58, 3) := by decide +kernel
theorem dX3_nearest_31 : decode cX3_nearest 31 = .ok (.aload_n 0, 1) := by decide +kernel
theorem dX3_nearest_32 : decode cX3_nearest 32 = .ok (.getfield 58, 3) := by decide +kernel
theorem dX3_nearest_35 : decode cX3_nearest 35 = .ok (.ifCond .le 5, 3) := by decide +kernel
theorem dX3_nearest_38 : decode cX3_nearest 38 = .ok (.lconst 0, 1) := by decide +kernel
theorem dX3_nearest_39 : decode cX3_nearest 39 = .ok (.lreturn, 1) := by decide +kernel
theorem dX3_nearest_40 : decode cX3_nearest 40 = .ok (.aload_n 0, 1) := by decide +kernel
theorem dX3_nearest_41 : decode cX3_nearest 41 = .ok (.invokevirtual 171, 3) := by decide +kernel
theorem dX3_nearest_44 : decode cX3_nearest 44 = .ok (.aload_n 0, 1) := by decide +kernel
theorem dX3_nearest_45 : decode cX3_nearest 45 = .ok (.aload_n 0, 1) := by decide +kernel
theorem dX3_nearest_46 : decode cX3_nearest 46 = .ok (.getfield 48, 3) := by decide +kernel
theorem dX3_nearest_49 : decode cX3_nearest 49 = .ok (.iload_n 1, 1) := by decide +kernel
theorem dX3_nearest_50 : decode cX3_nearest 50 = .ok (.laload, 1) := by decide +kernel
theorem dX3_nearest_51 : decode cX3_nearest 51 = .ok (.aload_n 0, 1) := by decide +kernel
theorem dX3_nearest_52 : decode cX3_nearest 52 = .ok (.getfield 165, 3) := by decide +kernel
theorem dX3_nearest_55 : decode cX3_nearest 55 = .ok (.invokevirtual 123, 3) := by decide +kernel
theorem dX3_nearest_58 : decode cX3_nearest 58 = .ok (.aload_n 0, 1) := by decide +kernel
theorem dX3_nearest_59 : decode cX3_nearest 59 = .ok (.iload_n 2, 1) := by decide +kernel
theorem dX3_nearest_60 : decode cX3_nearest 60 = .ok (.invokevirtual 136, 3) := by decide +kernel
theorem dX3_nearest_63 : decode cX3_nearest 63 = .ok (.lreturn, 1) := by decide +kernel
theorem dX3_squares_0 : decode cX3_squares 0 = .ok (.aload_n 0, 1) := by decide +kernel
theorem dX3_squares_1 : decode cX3_squares 1 = .ok (.iload_n 1, 1) := by decide +kernel
theorem dX3_squares_2 : decode cX3_squares 2 = .ok (.i2l, 1) := by decide +kernel
theorem dX3_squares_3 : decode cX3_squares 3 = .ok (.lconst 0, 1) := by decide +kernel
theorem dX3_squares_4 : decode cX3_squares 4 = .ok (.lconst 1, 1) := by decide +kernel
theorem dX3_squares_5 : decode cX3_squares 5 = .ok (.invokestatic 75, 3) := by decide +kernel
theorem dX3_squares_8 : decode cX3_squares 8 = .ok (.ifCond .eq 7, 3) := by decide +kernel
theorem dX3_squares_11 : decode cX3_squares 11 = .ok (.iconst 0, 1) := by decide +kernel
theorem dX3_squares_12 : decode cX3_squares 12 = .ok (.goto 4, 3) := by decide +kernel
theorem dX3_squares_15 : decode cX3_squares 15 = .ok (.iconst 1, 1) := by decide +kernel
theorem dX3_squares_16 : decode cX3_squares 16 = .ok (.putfield 58, 3) := by decide +kernel
theorem dX3_squares_19 : decode cX3_squares 19 = .ok (.aload_n 0, 1) := by decide +kernel
theorem dX3_squares_20 : decode cX3_squares 20 = .ok (.getfield 58, 3) := by decide +kernel
theorem dX3_squares_23 : decode cX3_squares 23 = .ok (.ifCond .le 5, 3) := by decide +kernel
theorem dX3_squares_26 : decode cX3_squares 26 = .ok (.lconst 0, 1) := by decide +kernel
theorem dX3_squares_27 : decode cX3_squares 27 = .ok (.lreturn, 1) := by decide +kernel
theorem dX3_squares_28 : decode cX3_squares 28 = .ok (.aload_n 0, 1) := by decide +kernel
theorem dX3_squares_29 : decode cX3_squares 29 = .ok (.invokevirtual 171, 3) := by decide +kernel
theorem dX3_squares_32 : decode cX3_squares 32 = .ok (.lconst 0, 1) := by decide +kernel
theorem dX3_squares_33 : decode cX3_squares 33 = .ok (.lstore_n 2, 1) := by decide +kernel
theorem dX3_squares_34 : decode cX3_squares 34 = .ok (.iconst 0, 1) := by decide +kernel
theorem dX3_squares_35 : decode cX3_squares 35 = .ok (.istore 4, 2) := by decide +kernel
theorem dX3_squares_37 : decode cX3_squares 37 = .ok (.iload 4, 2) := by decide +kernel
theorem dX3_squares_39 : decode cX3_squares 39 = .ok (.aload_n 0, 1) := by decide +kernel
theorem dX3_squares_40 : decode cX3_squares 40 = .ok (.getfield 72, 3) := by decide +kernel
theorem dX3_squares_43 : decode cX3_squares 43 = .ok (.if_icmp .ge 81, 3) := by decide +kernel
theorem dX3_squares_46 : decode cX3_squares 46 = .ok (.aload_n 0, 1) := by decide +kernel
theorem dX3_squares_47 : decode cX3_squares 47 = .ok (.getfield 7, 3) := by decide +kernel
theorem dX3_squares_50 : decode cX3_squares 50 = .ok (.iconst 4, 1) := by decide +kernel
theorem dX3_squares_51 : decode cX3_squares 51 = .ok (.iload 4, 2) := by decide +kernel
theorem dX3_squares_53 : decode cX3_squares 53 = .ok (.imul, 1) := by decide +kernel
theorem dX3_squares_54 : decode cX3_squares 54 = .ok (.iconst 3, 1) := by decide +kernel
theorem dX3_squares_55 : decode cX3_squares 55 = .ok (.iadd, 1) := by decide +kernel
theorem dX3_squares_56 : decode cX3_squares 56 = .ok (.iaload, 1) := by decide +kernel
theorem dX3_squares_57 : decode cX3_squares 57 = .ok (.i2l, 1) := by decide +kernel
theorem dX3_squares_58 : decode cX3_squares 58 = .ok (.lstore 5, 2) := by decide +kernel
theorem dX3_squares_60 : decode cX3_squares 60 = .ok (.lload_n 2, 1) := by decide +kernel
theorem dX3_squares_61 : decode cX3_squares 61 = .ok (.lload 5, 2) := by decide +kernel
theorem dX3_squares_63 : decode cX3_squares 63 = .ok (.lload 5, 2) := by decide +kernel
theorem dX3_squares_65 : decode cX3_squares 65 = .ok (.lmul, 1) := by decide +kernel
theorem dX3_squares_66 : decode cX3_squares 66 = .ok (.aload_n 0, 1) := by decide +kernel
theorem dX3_squares_67 : decode cX3_squares 67 = .ok (.getfield 165, 3) := by decide +kernel
theorem dX3_squares_70 : decode cX3_squares 70 = .ok (.lmul, 1) := by decide +kernel
theorem dX3_squares_71 : decode cX3_squares 71 = .ok (.ladd, 1) := by decide +kernel
theorem dX3_squares_72 : decode cX3_squares 72 = .ok (.lstore_n 2, 1) := by decide +kernel
theorem dX3_squares_73 : decode cX3_squares 73 = .ok (.iconst 0, 1) := by decide +kernel
theorem dX3_squares_74 : decode cX3_squares 74 = .ok (.istore 7, 2) := by decide +kernel
theorem dX3_squares_76 : decode cX3_squares 76 = .ok (.iload 7, 2) := by decide +kernel
theorem dX3_squares_78 : decode cX3_squares 78 = .ok (.aload_n 0, 1) := by decide +kernel
theorem dX3_squares_79 : decode cX3_squares 79 = .ok (.getfield 54, 3) := by decide +kernel
theorem dX3_squares_82 : decode cX3_squares 82 = .ok (.if_icmp .ge 36, 3) := by decide +kernel
theorem dX3_squares_85 : decode cX3_squares 85 = .ok (.lload_n 2, 1) := by decide +kernel
theorem dX3_squares_86 : decode cX3_squares 86 = .ok (.lload 5, 2) := by decide +kernel
theorem dX3_squares_88 : decode cX3_squares 88 = .ok (.aload_n 0, 1) := by decide +kernel
theorem dX3_squares_89 : decode cX3_squares 89 = .ok (.getfield 7, 3) := by decide +kernel
theorem dX3_squares_92 : decode cX3_squares 92 = .ok (.iconst 4, 1) := by decide +kernel
theorem dX3_squares_93 : decode cX3_squares 93 = .ok (.iload 4, 2) := by decide +kernel
theorem dX3_squares_95 : decode cX3_squares 95 = .ok (.imul, 1) := by decide +kernel
theorem dX3_squares_96 : decode cX3_squares 96 = .ok (.iload 7, 2) := by decide +kernel
theorem dX3_squares_98 : decode cX3_squares 98 = .ok (.iadd, 1) := by decide +kernel
theorem dX3_squares_99 : decode cX3_squares 99 = .ok (.iaload, 1) := by decide +kernel
theorem dX3_squares_100 : decode cX3_squares 100 = .ok (.i2l, 1) := by decide +kernel
theorem dX3_squares_101 : decode cX3_squares 101 = .ok (.lmul, 1) := by decide +kernel
theorem dX3_squares_102 : decode cX3_squares 102 = .ok (.aload_n 0, 1) := by decide +kernel
theorem dX3_squares_103 : decode cX3_squares 103 = .ok (.getfield 48, 3) := by decide +kernel
theorem dX3_squares_106 : decode cX3_squares 106 = .ok (.iload 7, 2) := by decide +kernel
theorem dX3_squares_108 : decode cX3_squares 108 = .ok (.laload, 1) := by decide +kernel
theorem dX3_squares_109 : decode cX3_squares 109 = .ok (.lmul, 1) := by decide +kernel
theorem dX3_squares_110 : decode cX3_squares 110 = .ok (.lsub, 1) := by decide +kernel
theorem dX3_squares_111 : decode cX3_squares 111 = .ok (.lstore_n 2, 1) := by decide +kernel
theorem dX3_squares_112 : decode cX3_squares 112 = .ok (.iinc 7 1, 3) := by decide +kernel
theorem dX3_squares_115 : decode cX3_squares 115 = .ok (.goto (-39), 3) := by decide +kernel
theorem dX3_squares_118 : decode cX3_squares 118 = .ok (.iinc 4 1, 3) := by decide +kernel
theorem dX3_squares_121 : decode cX3_squares 121 = .ok (.goto (-84), 3) := by decide +kernel
theorem dX3_squares_124 : decode cX3_squares 124 = .ok (.aload_n 0, 1) := by decide +kernel
theorem dX3_squares_125 : decode cX3_squares 125 = .ok (.lload_n 2, 1) := by decide +kernel
theorem dX3_squares_126 : decode cX3_squares 126 = .ok (.aload_n 0, 1) := by decide +kernel
theorem dX3_squares_127 : decode cX3_squares 127 = .ok (.getfield 165, 3) := by decide +kernel
theorem dX3_squares_130 : decode cX3_squares 130 = .ok (.invokevirtual 123, 3) := by decide +kernel
theorem dX3_squares_133 : decode cX3_squares 133 = .ok (.aload_n 0, 1) := by decide +kernel
