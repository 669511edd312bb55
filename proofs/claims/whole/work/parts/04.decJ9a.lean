/-! decode rows of J9 -/
theorem dJ9_floorDiv_0 : decode cJ9_floorDiv 0 = .ok (.lload_n 0, 1) := by decide +kernel
theorem dJ9_floorDiv_1 : decode cJ9_floorDiv 1 = .ok (.lload_n 2, 1) := by decide +kernel
theorem dJ9_floorDiv_2 : decode cJ9_floorDiv 2 = .ok (.ldiv, 1) := by decide +kernel
theorem dJ9_floorDiv_3 : decode cJ9_floorDiv 3 = .ok (.lstore 4, 2) := by decide +kernel
theorem dJ9_floorDiv_5 : decode cJ9_floorDiv 5 = .ok (.lload_n 0, 1) := by decide +kernel
theorem dJ9_floorDiv_6 : decode cJ9_floorDiv 6 = .ok (.lload_n 2, 1) := by decide +kernel
theorem dJ9_floorDiv_7 : decode cJ9_floorDiv 7 = .ok (.lxor, 1) := by decide +kernel
theorem dJ9_floorDiv_8 : decode cJ9_floorDiv 8 = .ok (.lconst 0, 1) := by decide +kernel
theorem dJ9_floorDiv_9 : decode cJ9_floorDiv 9 = .ok (.lcmp, 1) := by decide +kernel
theorem dJ9_floorDiv_10 : decode cJ9_floorDiv 10 = .ok (.ifCond .ge 17, 3) := by decide +kernel
theorem dJ9_floorDiv_13 : decode cJ9_floorDiv 13 = .ok (.lload 4, 2) := by decide +kernel
theorem dJ9_floorDiv_15 : decode cJ9_floorDiv 15 = .ok (.lload_n 2, 1) := by decide +kernel
theorem dJ9_floorDiv_16 : decode cJ9_floorDiv 16 = .ok (.lmul, 1) := by decide +kernel
theorem dJ9_floorDiv_17 : decode cJ9_floorDiv 17 = .ok (.lload_n 0, 1) := by decide +kernel
theorem dJ9_floorDiv_18 : decode cJ9_floorDiv 18 = .ok (.lcmp, 1) := by decide +kernel
theorem dJ9_floorDiv_19 : decode cJ9_floorDiv 19 = .ok (.ifCond .eq 8, 3) := by decide +kernel
theorem dJ9_floorDiv_22 : decode cJ9_floorDiv 22 = .ok (.lload 4, 2) := by decide +kernel
theorem dJ9_floorDiv_24 : decode cJ9_floorDiv 24 = .ok (.lconst 1, 1) := by decide +kernel
theorem dJ9_floorDiv_25 : decode cJ9_floorDiv 25 = .ok (.lsub, 1) := by decide +kernel
theorem dJ9_floorDiv_26 : decode cJ9_floorDiv 26 = .ok (.lreturn, 1) := by decide +kernel
theorem dJ9_floorDiv_27 : decode cJ9_floorDiv 27 = .ok (.lload 4, 2) := by decide +kernel
theorem dJ9_floorDiv_29 : decode cJ9_floorDiv 29 = .ok (.lreturn, 1) := by decide +kernel
