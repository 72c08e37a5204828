theorem dX12_every_0 : decode cX12_every 0 = .ok (.iload 5, 2) := by decide +kernel
theorem dX12_every_2 : decode cX12_every 2 = .ok (.i2l, 1) := by decide +kernel
theorem dX12_every_3 : decode cX12_every 3 = .ok (.lconst 1, 1) := by decide +kernel
theorem dX12_every_4 : decode cX12_every 4 = .ok (.ldc2_w 264, 3) := by decide +kernel
theorem dX12_every_7 : decode cX12_every 7 = .ok (.invokestatic 79, 3) := by decide +kernel
theorem dX12_every_10 : decode cX12_every 10 = .ok (.ifCond .eq 41, 3) := by decide +kernel
theorem dX12_every_13 : decode cX12_every 13 = .ok (.iload_n 3, 1) := by decide +kernel
theorem dX12_every_14 : decode cX12_every 14 = .ok (.iconst 1, 1) := by decide +kernel
theorem dX12_every_15 : decode cX12_every 15 = .ok (.if_icmp .lt 36, 3) := by decide +kernel
theorem dX12_every_18 : decode cX12_every 18 = .ok (.iload 4, 2) := by decide +kernel
theorem dX12_every_20 : decode cX12_every 20 = .ok (.iload_n 3, 1) := by decide +kernel
theorem dX12_every_21 : decode cX12_every 21 = .ok (.if_icmp .lt 30, 3) := by decide +kernel
theorem dX12_every_24 : decode cX12_every 24 = .ok (.aload_n 0, 1) := by decide +kernel
theorem dX12_every_25 : decode cX12_every 25 = .ok (.iload_n 1, 1) := by decide +kernel
theorem dX12_every_26 : decode cX12_every 26 = .ok (.iload_n 2, 1) := by decide +kernel
theorem dX12_every_27 : decode cX12_every 27 = .ok (.i2l, 1) := by decide +kernel
theorem dX12_every_28 : decode cX12_every 28 = .ok (.iload_n 2, 1) := by decide +kernel
theorem dX12_every_29 : decode cX12_every 29 = .ok (.i2l, 1) := by decide +kernel
theorem dX12_every_30 : decode cX12_every 30 = .ok (.iload 5, 2) := by decide +kernel
theorem dX12_every_32 : decode cX12_every 32 = .ok (.i2l, 1) := by decide +kernel
theorem dX12_every_33 : decode cX12_every 33 = .ok (.lconst 1, 1) := by decide +kernel
theorem dX12_every_34 : decode cX12_every 34 = .ok (.lsub, 1) := by decide +kernel
theorem dX12_every_35 : decode cX12_every 35 = .ok (.iload 4, 2) := by decide +kernel
theorem dX12_every_37 : decode cX12_every 37 = .ok (.i2l, 1) := by decide +kernel
theorem dX12_every_38 : decode cX12_every 38 = .ok (.lmul, 1) := by decide +kernel
theorem dX12_every_39 : decode cX12_every 39 = .ok (.ladd, 1) := by decide +kernel
theorem dX12_every_40 : decode cX12_every 40 = .ok (.iload_n 3, 1) := by decide +kernel
theorem dX12_every_41 : decode cX12_every 41 = .ok (.i2l, 1) := by decide +kernel
theorem dX12_every_42 : decode cX12_every 42 = .ok (.ladd, 1) := by decide +kernel
theorem dX12_every_43 : decode cX12_every 43 = .ok (.iload 6, 2) := by decide +kernel
theorem dX12_every_45 : decode cX12_every 45 = .ok (.invokevirtual 250, 3) := by decide +kernel
theorem dX12_every_48 : decode cX12_every 48 = .ok (.ifCond .ne 5, 3) := by decide +kernel
theorem dX12_every_51 : decode cX12_every 51 = .ok (.iconst (-1), 1) := by decide +kernel
theorem dX12_every_52 : decode cX12_every 52 = .ok (.ireturn, 1) := by decide +kernel
theorem dX12_every_53 : decode cX12_every 53 = .ok (.aload_n 0, 1) := by decide +kernel
theorem dX12_every_54 : decode cX12_every 54 = .ok (.invokevirtual 254, 3) := by decide +kernel
theorem dX12_every_57 : decode cX12_every 57 = .ok (.iload 5, 2) := by decide +kernel
theorem dX12_every_59 : decode cX12_every 59 = .ok (.iadd, 1) := by decide +kernel
theorem dX12_every_60 : decode cX12_every 60 = .ok (.bipush 12, 2) := by decide +kernel
theorem dX12_every_62 : decode cX12_every 62 = .ok (.if_icmp .le 6, 3) := by decide +kernel
theorem dX12_every_65 : decode cX12_every 65 = .ok (.bipush (-3), 2) := by decide +kernel
theorem dX12_every_67 : decode cX12_every 67 = .ok (.ireturn, 1) := by decide +kernel
theorem dX12_every_68 : decode cX12_every 68 = .ok (.iload_n 1, 1) := by decide +kernel
theorem dX12_every_69 : decode cX12_every 69 = .ok (.bipush 100, 2) := by decide +kernel
theorem dX12_every_71 : decode cX12_every 71 = .ok (.idiv, 1) := by decide +kernel
theorem dX12_every_72 : decode cX12_every 72 = .ok (.iload_n 1, 1) := by decide +kernel
theorem dX12_every_73 : decode cX12_every 73 = .ok (.bipush 100, 2) := by decide +kernel
theorem dX12_every_75 : decode cX12_every 75 = .ok (.irem, 1) := by decide +kernel
theorem dX12_every_76 : decode cX12_every 76 = .ok (.iload_n 1, 1) := by decide +kernel
theorem dX12_every_77 : decode cX12_every 77 = .ok (.bipush 100, 2) := by decide +kernel
theorem dX12_every_79 : decode cX12_every 79 = .ok (.idiv, 1) := by decide +kernel
theorem dX12_every_80 : decode cX12_every 80 = .ok (.isub, 1) := by decide +kernel
theorem dX12_every_81 : decode cX12_every 81 = .ok (.iconst 1, 1) := by decide +kernel
theorem dX12_every_82 : decode cX12_every 82 = .ok (.iadd, 1) := by decide +kernel
theorem dX12_every_83 : decode cX12_every 83 = .ok (.invokestatic 92, 3) := by decide +kernel
theorem dX12_every_86 : decode cX12_every 86 = .ok (.istore 7, 2) := by decide +kernel
theorem dX12_every_88 : decode cX12_every 88 = .ok (.iconst 0, 1) := by decide +kernel
theorem dX12_every_89 : decode cX12_every 89 = .ok (.istore 8, 2) := by decide +kernel
theorem dX12_every_91 : decode cX12_every 91 = .ok (.iload 8, 2) := by decide +kernel
theorem dX12_every_93 : decode cX12_every 93 = .ok (.iload 5, 2) := by decide +kernel
theorem dX12_every_95 : decode cX12_every 95 = .ok (.if_icmp .ge 37, 3) := by decide +kernel
theorem dX12_every_98 : decode cX12_every 98 = .ok (.aload_n 0, 1) := by decide +kernel
theorem dX12_every_99 : decode cX12_every 99 = .ok (.iload 7, 2) := by decide +kernel
theorem dX12_every_101 : decode cX12_every 101 = .ok (.iload_n 2, 1) := by decide +kernel
theorem dX12_every_102 : decode cX12_every 102 = .ok (.iload 8, 2) := by decide +kernel
theorem dX12_every_104 : decode cX12_every 104 = .ok (.iload 4, 2) := by decide +kernel
theorem dX12_every_106 : decode cX12_every 106 = .ok (.imul, 1) := by decide +kernel
theorem dX12_every_107 : decode cX12_every 107 = .ok (.iadd, 1) := by decide +kernel
theorem dX12_every_108 : decode cX12_every 108 = .ok (.iload_n 2, 1) := by decide +kernel
theorem dX12_every_109 : decode cX12_every 109 = .ok (.iload 8, 2) := by decide +kernel
theorem dX12_every_111 : decode cX12_every 111 = .ok (.iload 4, 2) := by decide +kernel
theorem dX12_every_113 : decode cX12_every 113 = .ok (.imul, 1) := by decide +kernel
theorem dX12_every_114 : decode cX12_every 114 = .ok (.iadd, 1) := by decide +kernel
theorem dX12_every_115 : decode cX12_every 115 = .ok (.iload_n 3, 1) := by decide +kernel
theorem dX12_every_116 : decode cX12_every 116 = .ok (.iadd, 1) := by decide +kernel
theorem dX12_every_117 : decode cX12_every 117 = .ok (.invokevirtual 257, 3) := by decide +kernel
theorem dX12_every_120 : decode cX12_every 120 = .ok (.ifCond .eq 6, 3) := by decide +kernel
theorem dX12_every_123 : decode cX12_every 123 = .ok (.bipush (-5), 2) := by decide +kernel
theorem dX12_every_125 : decode cX12_every 125 = .ok (.ireturn, 1) := by decide +kernel
theorem dX12_every_126 : decode cX12_every 126 = .ok (.iinc 8 1, 3) := by decide +kernel
theorem dX12_every_129 : decode cX12_every 129 = .ok (.goto (-38), 3) := by decide +kernel
theorem dX12_every_132 : decode cX12_every 132 = .ok (.aload_n 0, 1) := by decide +kernel
theorem dX12_every_133 : decode cX12_every 133 = .ok (.getfield 9, 3) := by decide +kernel
theorem dX12_every_136 : decode cX12_every 136 = .ok (.iconst 5, 1) := by decide +kernel
theorem dX12_every_137 : decode cX12_every 137 = .ok (.iaload, 1) := by decide +kernel
theorem dX12_every_138 : decode cX12_every 138 = .ok (.istore 8, 2) := by decide +kernel
theorem dX12_every_140 : decode cX12_every 140 = .ok (.iconst 0, 1) := by decide +kernel
theorem dX12_every_141 : decode cX12_every 141 = .ok (.istore 9, 2) := by decide +kernel
theorem dX12_every_143 : decode cX12_every 143 = .ok (.iload 9, 2) := by decide +kernel
theorem dX12_every_145 : decode cX12_every 145 = .ok (.iload 5, 2) := by decide +kernel
theorem dX12_every_147 : decode cX12_every 147 = .ok (.if_icmp .ge 33, 3) := by decide +kernel
theorem dX12_every_150 : decode cX12_every 150 = .ok (.aload_n 0, 1) := by decide +kernel
theorem dX12_every_151 : decode cX12_every 151 = .ok (.iload_n 1, 1) := by decide +kernel
theorem dX12_every_152 : decode cX12_every 152 = .ok (.iload_n 2, 1) := by decide +kernel
theorem dX12_every_153 : decode cX12_every 153 = .ok (.iload 9, 2) := by decide +kernel
theorem dX12_every_155 : decode cX12_every 155 = .ok (.iload 4, 2) := by decide +kernel
theorem dX12_every_157 : decode cX12_every 157 = .ok (.imul, 1) := by decide +kernel
theorem dX12_every_158 : decode cX12_every 158 = .ok (.iadd, 1) := by decide +kernel
theorem dX12_every_159 : decode cX12_every 159 = .ok (.iload_n 2, 1) := by decide +kernel
theorem dX12_every_160 : decode cX12_every 160 = .ok (.iload 9, 2) := by decide +kernel
theorem dX12_every_162 : decode cX12_every 162 = .ok (.iload 4, 2) := by decide +kernel
theorem dX12_every_164 : decode cX12_every 164 = .ok (.imul, 1) := by decide +kernel
theorem dX12_every_165 : decode cX12_every 165 = .ok (.iadd, 1) := by decide +kernel
theorem dX12_every_166 : decode cX12_every 166 = .ok (.iload_n 3, 1) := by decide +kernel
theorem dX12_every_167 : decode cX12_every 167 = .ok (.iadd, 1) := by decide +kernel
theorem dX12_every_168 : decode cX12_every 168 = .ok (.iload 6, 2) := by decide +kernel
theorem dX12_every_170 : decode cX12_every 170 = .ok (.invokevirtual 261, 3) := by decide +kernel
theorem dX12_every_173 : decode cX12_every 173 = .ok (.pop, 1) := by decide +kernel
theorem dX12_every_174 : decode cX12_every 174 = .ok (.iinc 9 1, 3) := by decide +kernel
theorem dX12_every_177 : decode cX12_every 177 = .ok (.goto (-34), 3) := by decide +kernel
theorem dX12_every_180 : decode cX12_every 180 = .ok (.iload 8, 2) := by decide +kernel
theorem dX12_every_182 : decode cX12_every 182 = .ok (.ireturn, 1) := by decide +kernel
theorem dX12_free_0 : decode cX12_free 0 = .ok (.iconst 0, 1) := by decide +kernel
theorem dX12_free_1 : decode cX12_free 1 = .ok (.istore_n 2, 1) := by decide +kernel
theorem dX12_free_2 : decode cX12_free 2 = .ok (.iload_n 2, 1) := by decide +kernel
theorem dX12_free_3 : decode cX12_free 3 = .ok (.bipush 12, 2) := by decide +kernel
theorem dX12_free_5 : decode cX12_free 5 = .ok (.if_icmp .ge 41, 3) := by decide +kernel
theorem dX12_free_8 : decode cX12_free 8 = .ok (.iload_n 1, 1) := by decide +kernel
theorem dX12_free_9 : decode cX12_free 9 = .ok (.ifCond .lt 37, 3) := by decide +kernel
theorem dX12_free_12 : decode cX12_free 12 = .ok (.aload_n 0, 1) := by decide +kernel
theorem dX12_free_13 : decode cX12_free 13 = .ok (.iload_n 2, 1) := by decide +kernel
theorem dX12_free_14 : decode cX12_free 14 = .ok (.iconst 0, 1) := by decide +kernel
theorem dX12_free_15 : decode cX12_free 15 = .ok (.invokevirtual 95, 3) := by decide +kernel
theorem dX12_free_18 : decode cX12_free 18 = .ok (.iload_n 1, 1) := by decide +kernel
theorem dX12_free_19 : decode cX12_free 19 = .ok (.if_icmp .ne 21, 3) := by decide +kernel
theorem dX12_free_22 : decode cX12_free 22 = .ok (.aload_n 0, 1) := by decide +kernel
theorem dX12_free_23 : decode cX12_free 23 = .ok (.getfield 9, 3) := by decide +kernel
theorem dX12_free_26 : decode cX12_free 26 = .ok (.bipush 24, 2) := by decide +kernel
theorem dX12_free_28 : decode cX12_free 28 = .ok (.iload_n 2, 1) := by decide +kernel
theorem dX12_free_29 : decode cX12_free 29 = .ok (.bipush 6, 2) := by decide +kernel
theorem dX12_free_31 : decode cX12_free 31 = .ok (.imul, 1) := by decide +kernel
theorem dX12_free_32 : decode cX12_free 32 = .ok (.iadd, 1) := by decide +kernel
theorem dX12_free_33 : decode cX12_free 33 = .ok (.iconst (-1), 1) := by decide +kernel
theorem dX12_free_34 : decode cX12_free 34 = .ok (.iastore, 1) := by decide +kernel
theorem dX12_free_35 : decode cX12_free 35 = .ok (.aload_n 0, 1) := by decide +kernel
theorem dX12_free_36 : decode cX12_free 36 = .ok (.invokevirtual 254, 3) := by decide +kernel
theorem dX12_free_39 : decode cX12_free 39 = .ok (.ireturn, 1) := by decide +kernel
theorem dX12_free_40 : decode cX12_free 40 = .ok (.iinc 2 1, 3) := by decide +kernel
theorem dX12_free_43 : decode cX12_free 43 = .ok (.goto (-41), 3) := by decide +kernel
theorem dX12_free_46 : decode cX12_free 46 = .ok (.iconst (-1), 1) := by decide +kernel
theorem dX12_free_47 : decode cX12_free 47 = .ok (.ireturn, 1) := by decide +kernel
theorem dX12_heldBy_0 : decode cX12_heldBy 0 = .ok (.iconst 0, 1) := by decide +kernel
theorem dX12_heldBy_1 : decode cX12_heldBy 1 = .ok (.istore_n 2, 1) := by decide +kernel
theorem dX12_heldBy_2 : decode cX12_heldBy 2 = .ok (.iconst 0, 1) := by decide +kernel
theorem dX12_heldBy_3 : decode cX12_heldBy 3 = .ok (.istore_n 3, 1) := by decide +kernel
theorem dX12_heldBy_4 : decode cX12_heldBy 4 = .ok (.iload_n 3, 1) := by decide +kernel
theorem dX12_heldBy_5 : decode cX12_heldBy 5 = .ok (.aload_n 0, 1) := by decide +kernel
theorem dX12_heldBy_6 : decode cX12_heldBy 6 = .ok (.getfield 9, 3) := by decide +kernel
theorem dX12_heldBy_9 : decode cX12_heldBy 9 = .ok (.iconst 1, 1) := by decide +kernel
theorem dX12_heldBy_10 : decode cX12_heldBy 10 = .ok (.iaload, 1) := by decide +kernel
theorem dX12_heldBy_11 : decode cX12_heldBy 11 = .ok (.if_icmp .ge 66, 3) := by decide +kernel
theorem dX12_heldBy_14 : decode cX12_heldBy 14 = .ok (.iconst 0, 1) := by decide +kernel
theorem dX12_heldBy_15 : decode cX12_heldBy 15 = .ok (.istore 4, 2) := by decide +kernel
theorem dX12_heldBy_17 : decode cX12_heldBy 17 = .ok (.iload 4, 2) := by decide +kernel
theorem dX12_heldBy_19 : decode cX12_heldBy 19 = .ok (.aload_n 0, 1) := by decide +kernel
theorem dX12_heldBy_20 : decode cX12_heldBy 20 = .ok (.iload_n 3, 1) := by decide +kernel
theorem dX12_heldBy_21 : decode cX12_heldBy 21 = .ok (.iconst 4, 1) := by decide +kernel
theorem dX12_heldBy_22 : decode cX12_heldBy 22 = .ok (.invokevirtual 83, 3) := by decide +kernel
theorem dX12_heldBy_25 : decode cX12_heldBy 25 = .ok (.if_icmp .ge 46, 3) := by decide +kernel
theorem dX12_heldBy_28 : decode cX12_heldBy 28 = .ok (.iload_n 2, 1) := by decide +kernel
theorem dX12_heldBy_29 : decode cX12_heldBy 29 = .ok (.aload_n 0, 1) := by decide +kernel
theorem dX12_heldBy_30 : decode cX12_heldBy 30 = .ok (.iload_n 3, 1) := by decide +kernel
theorem dX12_heldBy_31 : decode cX12_heldBy 31 = .ok (.iconst 0, 1) := by decide +kernel
theorem dX12_heldBy_32 : decode cX12_heldBy 32 = .ok (.invokevirtual 83, 3) := by decide +kernel
theorem dX12_heldBy_35 : decode cX12_heldBy 35 = .ok (.iload_n 1, 1) := by decide +kernel
theorem dX12_heldBy_36 : decode cX12_heldBy 36 = .ok (.if_icmp .ne 26, 3) := by decide +kernel
theorem dX12_heldBy_39 : decode cX12_heldBy 39 = .ok (.aload_n 0, 1) := by decide +kernel
theorem dX12_heldBy_40 : decode cX12_heldBy 40 = .ok (.iload_n 3, 1) := by decide +kernel
theorem dX12_heldBy_41 : decode cX12_heldBy 41 = .ok (.iload 4, 2) := by decide +kernel
theorem dX12_heldBy_43 : decode cX12_heldBy 43 = .ok (.invokevirtual 98, 3) := by decide +kernel
theorem dX12_heldBy_46 : decode cX12_heldBy 46 = .ok (.ifCond .eq 16, 3) := by decide +kernel
theorem dX12_heldBy_49 : decode cX12_heldBy 49 = .ok (.aload_n 0, 1) := by decide +kernel
theorem dX12_heldBy_50 : decode cX12_heldBy 50 = .ok (.iload_n 3, 1) := by decide +kernel
theorem dX12_heldBy_51 : decode cX12_heldBy 51 = .ok (.bipush 12, 2) := by decide +kernel
theorem dX12_heldBy_53 : decode cX12_heldBy 53 = .ok (.iload 4, 2) := by decide +kernel
theorem dX12_heldBy_55 : decode cX12_heldBy 55 = .ok (.iadd, 1) := by decide +kernel
theorem dX12_heldBy_56 : decode cX12_heldBy 56 = .ok (.invokevirtual 83, 3) := by decide +kernel
theorem dX12_heldBy_59 : decode cX12_heldBy 59 = .ok (.goto 4, 3) := by decide +kernel
theorem dX12_heldBy_62 : decode cX12_heldBy 62 = .ok (.iconst 0, 1) := by decide +kernel
theorem dX12_heldBy_63 : decode cX12_heldBy 63 = .ok (.iadd, 1) := by decide +kernel
theorem dX12_heldBy_64 : decode cX12_heldBy 64 = .ok (.istore_n 2, 1) := by decide +kernel
theorem dX12_heldBy_65 : decode cX12_heldBy 65 = .ok (.iinc 4 1, 3) := by decide +kernel
theorem dX12_heldBy_68 : decode cX12_heldBy 68 = .ok (.goto (-51), 3) := by decide +kernel
theorem dX12_heldBy_71 : decode cX12_heldBy 71 = .ok (.iinc 3 1, 3) := by decide +kernel
theorem dX12_heldBy_74 : decode cX12_heldBy 74 = .ok (.goto (-70), 3) := by decide +kernel
theorem dX12_heldBy_77 : decode cX12_heldBy 77 = .ok (.iload_n 2, 1) := by decide +kernel
theorem dX12_heldBy_78 : decode cX12_heldBy 78 = .ok (.ireturn, 1) := by decide +kernel
theorem dX12_starts_0 : decode cX12_starts 0 = .ok (.aload_n 0, 1) := by decide +kernel
theorem dX12_starts_1 : decode cX12_starts 1 = .ok (.iload_n 1, 1) := by decide +kernel
theorem dX12_starts_2 : decode cX12_starts 2 = .ok (.iconst 5, 1) := by decide +kernel
theorem dX12_starts_3 : decode cX12_starts 3 = .ok (.iconst 1, 1) := by decide +kernel
theorem dX12_starts_4 : decode cX12_starts 4 = .ok (.invokevirtual 188, 3) := by decide +kernel
theorem dX12_starts_7 : decode cX12_starts 7 = .ok (.aload_n 0, 1) := by decide +kernel
theorem dX12_starts_8 : decode cX12_starts 8 = .ok (.iload_n 1, 1) := by decide +kernel
theorem dX12_starts_9 : decode cX12_starts 9 = .ok (.bipush 6, 2) := by decide +kernel
theorem dX12_starts_11 : decode cX12_starts 11 = .ok (.aload_n 0, 1) := by decide +kernel
theorem dX12_starts_12 : decode cX12_starts 12 = .ok (.getfield 9, 3) := by decide +kernel
theorem dX12_starts_15 : decode cX12_starts 15 = .ok (.iconst 0, 1) := by decide +kernel
theorem dX12_starts_16 : decode cX12_starts 16 = .ok (.iaload, 1) := by decide +kernel
theorem dX12_starts_17 : decode cX12_starts 17 = .ok (.invokevirtual 188, 3) := by decide +kernel
theorem dX12_starts_20 : decode cX12_starts 20 = .ok (.iconst 0, 1) := by decide +kernel
theorem dX12_starts_21 : decode cX12_starts 21 = .ok (.istore_n 2, 1) := by decide +kernel
theorem dX12_starts_22 : decode cX12_starts 22 = .ok (.iload_n 2, 1) := by decide +kernel
theorem dX12_starts_23 : decode cX12_starts 23 = .ok (.aload_n 0, 1) := by decide +kernel
theorem dX12_starts_24 : decode cX12_starts 24 = .ok (.getfield 122, 3) := by decide +kernel
theorem dX12_starts_27 : decode cX12_starts 27 = .ok (.if_icmp .ge 55, 3) := by decide +kernel
theorem dX12_starts_30 : decode cX12_starts 30 = .ok (.aload_n 0, 1) := by decide +kernel
theorem dX12_starts_31 : decode cX12_starts 31 = .ok (.iload_n 1, 1) := by decide +kernel
theorem dX12_starts_32 : decode cX12_starts 32 = .ok (.bipush 20, 2) := by decide +kernel
theorem dX12_starts_34 : decode cX12_starts 34 = .ok (.iload_n 2, 1) := by decide +kernel
theorem dX12_starts_35 : decode cX12_starts 35 = .ok (.iadd, 1) := by decide +kernel
theorem dX12_starts_36 : decode cX12_starts 36 = .ok (.aload_n 0, 1) := by decide +kernel
theorem dX12_starts_37 : decode cX12_starts 37 = .ok (.getfield 39, 3) := by decide +kernel
theorem dX12_starts_40 : decode cX12_starts 40 = .ok (.iload_n 2, 1) := by decide +kernel
theorem dX12_starts_41 : decode cX12_starts 41 = .ok (.iaload, 1) := by decide +kernel
theorem dX12_starts_42 : decode cX12_starts 42 = .ok (.invokevirtual 188, 3) := by decide +kernel
theorem dX12_starts_45 : decode cX12_starts 45 = .ok (.aload_n 0, 1) := by decide +kernel
theorem dX12_starts_46 : decode cX12_starts 46 = .ok (.iload_n 1, 1) := by decide +kernel
theorem dX12_starts_47 : decode cX12_starts 47 = .ok (.bipush 24, 2) := by decide +kernel
theorem dX12_starts_49 : decode cX12_starts 49 = .ok (.iload_n 2, 1) := by decide +kernel
theorem dX12_starts_50 : decode cX12_starts 50 = .ok (.iadd, 1) := by decide +kernel
theorem dX12_starts_51 : decode cX12_starts 51 = .ok (.aload_n 0, 1) := by decide +kernel
theorem dX12_starts_52 : decode cX12_starts 52 = .ok (.getfield 9, 3) := by decide +kernel
theorem dX12_starts_55 : decode cX12_starts 55 = .ok (.iconst 0, 1) := by decide +kernel
theorem dX12_starts_56 : decode cX12_starts 56 = .ok (.iaload, 1) := by decide +kernel
theorem dX12_starts_57 : decode cX12_starts 57 = .ok (.aload_n 0, 1) := by decide +kernel
theorem dX12_starts_58 : decode cX12_starts 58 = .ok (.getfield 36, 3) := by decide +kernel
theorem dX12_starts_61 : decode cX12_starts 61 = .ok (.iload_n 2, 1) := by decide +kernel
theorem dX12_starts_62 : decode cX12_starts 62 = .ok (.iaload, 1) := by decide +kernel
theorem dX12_starts_63 : decode cX12_starts 63 = .ok (.aload_n 0, 1) := by decide +kernel
theorem dX12_starts_64 : decode cX12_starts 64 = .ok (.iload_n 1, 1) := by decide +kernel
theorem dX12_starts_65 : decode cX12_starts 65 = .ok (.iload_n 2, 1) := by decide +kernel
theorem dX12_starts_66 : decode cX12_starts 66 = .ok (.invokevirtual 223, 3) := by decide +kernel
theorem dX12_starts_69 : decode cX12_starts 69 = .ok (.invokestatic 266, 3) := by decide +kernel
theorem dX12_starts_72 : decode cX12_starts 72 = .ok (.iadd, 1) := by decide +kernel
theorem dX12_starts_73 : decode cX12_starts 73 = .ok (.invokevirtual 188, 3) := by decide +kernel
theorem dX12_starts_76 : decode cX12_starts 76 = .ok (.iinc 2 1, 3) := by decide +kernel
theorem dX12_starts_79 : decode cX12_starts 79 = .ok (.goto (-57), 3) := by decide +kernel
theorem dX12_starts_82 : decode cX12_starts 82 = .ok (.aload_n 0, 1) := by decide +kernel
theorem dX12_starts_83 : decode cX12_starts 83 = .ok (.iconst 1, 1) := by decide +kernel
theorem dX12_starts_84 : decode cX12_starts 84 = .ok (.iload_n 1, 1) := by decide +kernel
theorem dX12_starts_85 : decode cX12_starts 85 = .ok (.invokevirtual 192, 3) := by decide +kernel
theorem dX12_starts_88 : decode cX12_starts 88 = .ok (.aload_n 0, 1) := by decide +kernel
theorem dX12_starts_89 : decode cX12_starts 89 = .ok (.getfield 9, 3) := by decide +kernel
theorem dX12_starts_92 : decode cX12_starts 92 = .ok (.sipush 2656, 3) := by decide +kernel
theorem dX12_starts_95 : decode cX12_starts 95 = .ok (.aload_n 0, 1) := by decide +kernel
theorem dX12_starts_96 : decode cX12_starts 96 = .ok (.getfield 9, 3) := by decide +kernel
theorem dX12_starts_99 : decode cX12_starts 99 = .ok (.bipush 6, 2) := by decide +kernel
theorem dX12_starts_101 : decode cX12_starts 101 = .ok (.iaload, 1) := by decide +kernel
theorem dX12_starts_102 : decode cX12_starts 102 = .ok (.iadd, 1) := by decide +kernel
theorem dX12_starts_103 : decode cX12_starts 103 = .ok (.iload_n 1, 1) := by decide +kernel
theorem dX12_starts_104 : decode cX12_starts 104 = .ok (.iastore, 1) := by decide +kernel
theorem dX12_starts_105 : decode cX12_starts 105 = .ok (.aload_n 0, 1) := by decide +kernel
theorem dX12_starts_106 : decode cX12_starts 106 = .ok (.getfield 9, 3) := by decide +kernel
theorem dX12_starts_109 : decode cX12_starts 109 = .ok (.bipush 6, 2) := by decide +kernel
theorem dX12_starts_111 : decode cX12_starts 111 = .ok (.dup2, 1) := by decide +kernel
theorem dX12_starts_112 : decode cX12_starts 112 = .ok (.iaload, 1) := by decide +kernel
theorem dX12_starts_113 : decode cX12_starts 113 = .ok (.iconst 1, 1) := by decide +kernel
theorem dX12_starts_114 : decode cX12_starts 114 = .ok (.iadd, 1) := by decide +kernel
theorem dX12_starts_115 : decode cX12_starts 115 = .ok (.iastore, 1) := by decide +kernel
theorem dX12_starts_116 : decode cX12_starts 116 = .ok (.aload_n 0, 1) := by decide +kernel
theorem dX12_starts_117 : decode cX12_starts 117 = .ok (.getfield 19, 3) := by decide +kernel
theorem dX12_starts_120 : decode cX12_starts 120 = .ok (.bipush 8, 2) := by decide +kernel
theorem dX12_starts_122 : decode cX12_starts 122 = .ok (.dup2, 1) := by decide +kernel
theorem dX12_starts_123 : decode cX12_starts 123 = .ok (.laload, 1) := by decide +kernel
theorem dX12_starts_124 : decode cX12_starts 124 = .ok (.lconst 1, 1) := by decide +kernel
theorem dX12_starts_125 : decode cX12_starts 125 = .ok (.ladd, 1) := by decide +kernel
theorem dX12_starts_126 : decode cX12_starts 126 = .ok (.lastore, 1) := by decide +kernel
theorem dX12_starts_127 : decode cX12_starts 127 = .ok (.aload_n 0, 1) := by decide +kernel
theorem dX12_starts_128 : decode cX12_starts 128 = .ok (.getfield 19, 3) := by decide +kernel
theorem dX12_starts_131 : decode cX12_starts 131 = .ok (.bipush 13, 2) := by decide +kernel
theorem dX12_starts_133 : decode cX12_starts 133 = .ok (.dup2, 1) := by decide +kernel
theorem dX12_starts_134 : decode cX12_starts 134 = .ok (.laload, 1) := by decide +kernel
theorem dX12_starts_135 : decode cX12_starts 135 = .ok (.aload_n 0, 1) := by decide +kernel
theorem dX12_starts_136 : decode cX12_starts 136 = .ok (.getfield 9, 3) := by decide +kernel
theorem dX12_starts_139 : decode cX12_starts 139 = .ok (.iconst 0, 1) := by decide +kernel
theorem dX12_starts_140 : decode cX12_starts 140 = .ok (.iaload, 1) := by decide +kernel
theorem dX12_starts_141 : decode cX12_starts 141 = .ok (.aload_n 0, 1) := by decide +kernel
theorem dX12_starts_142 : decode cX12_starts 142 = .ok (.iload_n 1, 1) := by decide +kernel
theorem dX12_starts_143 : decode cX12_starts 143 = .ok (.bipush 11, 2) := by decide +kernel
theorem dX12_starts_145 : decode cX12_starts 145 = .ok (.invokevirtual 83, 3) := by decide +kernel
theorem dX12_starts_148 : decode cX12_starts 148 = .ok (.isub, 1) := by decide +kernel
theorem dX12_starts_149 : decode cX12_starts 149 = .ok (.i2l, 1) := by decide +kernel
theorem dX12_starts_150 : decode cX12_starts 150 = .ok (.ladd, 1) := by decide +kernel
theorem dX12_starts_151 : decode cX12_starts 151 = .ok (.lastore, 1) := by decide +kernel
theorem dX12_starts_152 : decode cX12_starts 152 = .ok (.return_, 1) := by decide +kernel
theorem dX12_promises_0 : decode cX12_promises 0 = .ok (.aload_n 0, 1) := by decide +kernel
theorem dX12_promises_1 : decode cX12_promises 1 = .ok (.aload_n 0, 1) := by decide +kernel
theorem dX12_promises_2 : decode cX12_promises 2 = .ok (.getfield 9, 3) := by decide +kernel
theorem dX12_promises_5 : decode cX12_promises 5 = .ok (.iconst 0, 1) := by decide +kernel
theorem dX12_promises_6 : decode cX12_promises 6 = .ok (.iaload, 1) := by decide +kernel
theorem dX12_promises_7 : decode cX12_promises 7 = .ok (.iconst 1, 1) := by decide +kernel
theorem dX12_promises_8 : decode cX12_promises 8 = .ok (.iadd, 1) := by decide +kernel
theorem dX12_promises_9 : decode cX12_promises 9 = .ok (.invokevirtual 269, 3) := by decide +kernel
theorem dX12_promises_12 : decode cX12_promises 12 = .ok (.istore_n 2, 1) := by decide +kernel
theorem dX12_promises_13 : decode cX12_promises 13 = .ok (.iload_n 2, 1) := by decide +kernel
theorem dX12_promises_14 : decode cX12_promises 14 = .ok (.ifCond .ge 5, 3) := by decide +kernel
theorem dX12_promises_17 : decode cX12_promises 17 = .ok (.iconst 0, 1) := by decide +kernel
theorem dX12_promises_18 : decode cX12_promises 18 = .ok (.ireturn, 1) := by decide +kernel
theorem dX12_promises_19 : decode cX12_promises 19 = .ok (.aload_n 0, 1) := by decide +kernel
theorem dX12_promises_20 : decode cX12_promises 20 = .ok (.iload_n 1, 1) := by decide +kernel
theorem dX12_promises_21 : decode cX12_promises 21 = .ok (.bipush 9, 2) := by decide +kernel
theorem dX12_promises_23 : decode cX12_promises 23 = .ok (.iload_n 2, 1) := by decide +kernel
theorem dX12_promises_24 : decode cX12_promises 24 = .ok (.invokevirtual 188, 3) := by decide +kernel
theorem dX12_promises_27 : decode cX12_promises 27 = .ok (.iconst 0, 1) := by decide +kernel
theorem dX12_promises_28 : decode cX12_promises 28 = .ok (.istore_n 3, 1) := by decide +kernel
theorem dX12_promises_29 : decode cX12_promises 29 = .ok (.iload_n 3, 1) := by decide +kernel
theorem dX12_promises_30 : decode cX12_promises 30 = .ok (.aload_n 0, 1) := by decide +kernel
theorem dX12_promises_31 : decode cX12_promises 31 = .ok (.getfield 122, 3) := by decide +kernel
theorem dX12_promises_34 : decode cX12_promises 34 = .ok (.if_icmp .ge 24, 3) := by decide +kernel
theorem dX12_promises_37 : decode cX12_promises 37 = .ok (.aload_n 0, 1) := by decide +kernel
theorem dX12_promises_38 : decode cX12_promises 38 = .ok (.iload_n 1, 1) := by decide +kernel
theorem dX12_promises_39 : decode cX12_promises 39 = .ok (.bipush 28, 2) := by decide +kernel
theorem dX12_promises_41 : decode cX12_promises 41 = .ok (.iload_n 3, 1) := by decide +kernel
theorem dX12_promises_42 : decode cX12_promises 42 = .ok (.iadd, 1) := by decide +kernel
theorem dX12_promises_43 : decode cX12_promises 43 = .ok (.aload_n 0, 1) := by decide +kernel
theorem dX12_promises_44 : decode cX12_promises 44 = .ok (.getfield 39, 3) := by decide +kernel
theorem dX12_promises_47 : decode cX12_promises 47 = .ok (.iload_n 3, 1) := by decide +kernel
theorem dX12_promises_48 : decode cX12_promises 48 = .ok (.iaload, 1) := by decide +kernel
theorem dX12_promises_49 : decode cX12_promises 49 = .ok (.invokevirtual 188, 3) := by decide +kernel
theorem dX12_promises_52 : decode cX12_promises 52 = .ok (.iinc 3 1, 3) := by decide +kernel
theorem dX12_promises_55 : decode cX12_promises 55 = .ok (.goto (-26), 3) := by decide +kernel
theorem dX12_promises_58 : decode cX12_promises 58 = .ok (.aload_n 0, 1) := by decide +kernel
theorem dX12_promises_59 : decode cX12_promises 59 = .ok (.iload_n 1, 1) := by decide +kernel
theorem dX12_promises_60 : decode cX12_promises 60 = .ok (.bipush 8, 2) := by decide +kernel
theorem dX12_promises_62 : decode cX12_promises 62 = .ok (.invokevirtual 83, 3) := by decide +kernel
theorem dX12_promises_65 : decode cX12_promises 65 = .ok (.ifCond .ge 11, 3) := by decide +kernel
theorem dX12_promises_68 : decode cX12_promises 68 = .ok (.aload_n 0, 1) := by decide +kernel
theorem dX12_promises_69 : decode cX12_promises 69 = .ok (.iload_n 1, 1) := by decide +kernel
theorem dX12_promises_70 : decode cX12_promises 70 = .ok (.bipush 8, 2) := by decide +kernel
theorem dX12_promises_72 : decode cX12_promises 72 = .ok (.iload_n 2, 1) := by decide +kernel
theorem dX12_promises_73 : decode cX12_promises 73 = .ok (.invokevirtual 188, 3) := by decide +kernel
theorem dX12_promises_76 : decode cX12_promises 76 = .ok (.aload_n 0, 1) := by decide +kernel
theorem dX12_promises_77 : decode cX12_promises 77 = .ok (.getfield 64, 3) := by decide +kernel
theorem dX12_promises_80 : decode cX12_promises 80 = .ok (.iload_n 1, 1) := by decide +kernel
theorem dX12_promises_81 : decode cX12_promises 81 = .ok (.iaload, 1) := by decide +kernel
theorem dX12_promises_82 : decode cX12_promises 82 = .ok (.iload_n 2, 1) := by decide +kernel
theorem dX12_promises_83 : decode cX12_promises 83 = .ok (.if_icmp .eq 9, 3) := by decide +kernel
theorem dX12_promises_86 : decode cX12_promises 86 = .ok (.aload_n 0, 1) := by decide +kernel
theorem dX12_promises_87 : decode cX12_promises 87 = .ok (.iconst 5, 1) := by decide +kernel
theorem dX12_promises_88 : decode cX12_promises 88 = .ok (.iload_n 1, 1) := by decide +kernel
theorem dX12_promises_89 : decode cX12_promises 89 = .ok (.invokevirtual 192, 3) := by decide +kernel
theorem dX12_promises_92 : decode cX12_promises 92 = .ok (.iconst 1, 1) := by decide +kernel
theorem dX12_promises_93 : decode cX12_promises 93 = .ok (.ireturn, 1) := by decide +kernel
theorem dX12_passes_0 : decode cX12_passes 0 = .ok (.iconst 0, 1) := by decide +kernel
theorem dX12_passes_1 : decode cX12_passes 1 = .ok (.istore_n 1, 1) := by decide +kernel
theorem dX12_passes_2 : decode cX12_passes 2 = .ok (.iload_n 1, 1) := by decide +kernel
theorem dX12_passes_3 : decode cX12_passes 3 = .ok (.aload_n 0, 1) := by decide +kernel
theorem dX12_passes_4 : decode cX12_passes 4 = .ok (.getfield 9, 3) := by decide +kernel
theorem dX12_passes_7 : decode cX12_passes 7 = .ok (.iconst 1, 1) := by decide +kernel
theorem dX12_passes_8 : decode cX12_passes 8 = .ok (.iaload, 1) := by decide +kernel
theorem dX12_passes_9 : decode cX12_passes 9 = .ok (.if_icmp .ge 30, 3) := by decide +kernel
theorem dX12_passes_12 : decode cX12_passes 12 = .ok (.aload_n 0, 1) := by decide +kernel
theorem dX12_passes_13 : decode cX12_passes 13 = .ok (.getfield 64, 3) := by decide +kernel
theorem dX12_passes_16 : decode cX12_passes 16 = .ok (.iload_n 1, 1) := by decide +kernel
theorem dX12_passes_17 : decode cX12_passes 17 = .ok (.aload_n 0, 1) := by decide +kernel
theorem dX12_passes_18 : decode cX12_passes 18 = .ok (.iload_n 1, 1) := by decide +kernel
theorem dX12_passes_19 : decode cX12_passes 19 = .ok (.bipush 9, 2) := by decide +kernel
theorem dX12_passes_21 : decode cX12_passes 21 = .ok (.invokevirtual 83, 3) := by decide +kernel
theorem dX12_passes_24 : decode cX12_passes 24 = .ok (.iastore, 1) := by decide +kernel
theorem dX12_passes_25 : decode cX12_passes 25 = .ok (.aload_n 0, 1) := by decide +kernel
theorem dX12_passes_26 : decode cX12_passes 26 = .ok (.iload_n 1, 1) := by decide +kernel
theorem dX12_passes_27 : decode cX12_passes 27 = .ok (.bipush 9, 2) := by decide +kernel
theorem dX12_passes_29 : decode cX12_passes 29 = .ok (.iconst (-1), 1) := by decide +kernel
theorem dX12_passes_30 : decode cX12_passes 30 = .ok (.invokevirtual 188, 3) := by decide +kernel
theorem dX12_passes_33 : decode cX12_passes 33 = .ok (.iinc 1 1, 3) := by decide +kernel
theorem dX12_passes_36 : decode cX12_passes 36 = .ok (.goto (-34), 3) := by decide +kernel
theorem dX12_passes_39 : decode cX12_passes 39 = .ok (.aload_n 0, 1) := by decide +kernel
theorem dX12_passes_40 : decode cX12_passes 40 = .ok (.getfield 19, 3) := by decide +kernel
theorem dX12_passes_43 : decode cX12_passes 43 = .ok (.bipush 15, 2) := by decide +kernel
theorem dX12_passes_45 : decode cX12_passes 45 = .ok (.dup2, 1) := by decide +kernel
theorem dX12_passes_46 : decode cX12_passes 46 = .ok (.laload, 1) := by decide +kernel
theorem dX12_passes_47 : decode cX12_passes 47 = .ok (.lconst 1, 1) := by decide +kernel
theorem dX12_passes_48 : decode cX12_passes 48 = .ok (.ladd, 1) := by decide +kernel
theorem dX12_passes_49 : decode cX12_passes 49 = .ok (.lastore, 1) := by decide +kernel
theorem dX12_passes_50 : decode cX12_passes 50 = .ok (.aload_n 0, 1) := by decide +kernel
theorem dX12_passes_51 : decode cX12_passes 51 = .ok (.invokevirtual 232, 3) := by decide +kernel
theorem dX12_passes_54 : decode cX12_passes 54 = .ok (.istore_n 1, 1) := by decide +kernel
theorem dX12_passes_55 : decode cX12_passes 55 = .ok (.iconst 0, 1) := by decide +kernel
theorem dX12_passes_56 : decode cX12_passes 56 = .ok (.istore_n 2, 1) := by decide +kernel
theorem dX12_passes_57 : decode cX12_passes 57 = .ok (.iconst 0, 1) := by decide +kernel
theorem dX12_passes_58 : decode cX12_passes 58 = .ok (.istore_n 3, 1) := by decide +kernel
theorem dX12_passes_59 : decode cX12_passes 59 = .ok (.iconst (-1), 1) := by decide +kernel
theorem dX12_passes_60 : decode cX12_passes 60 = .ok (.istore 4, 2) := by decide +kernel
theorem dX12_passes_62 : decode cX12_passes 62 = .ok (.iconst 0, 1) := by decide +kernel
theorem dX12_passes_63 : decode cX12_passes 63 = .ok (.istore 5, 2) := by decide +kernel
theorem dX12_passes_65 : decode cX12_passes 65 = .ok (.iload 5, 2) := by decide +kernel
theorem dX12_passes_67 : decode cX12_passes 67 = .ok (.iload_n 1, 1) := by decide +kernel
theorem dX12_passes_68 : decode cX12_passes 68 = .ok (.if_icmp .ge 185, 3) := by decide +kernel
theorem dX12_passes_71 : decode cX12_passes 71 = .ok (.iload 4, 2) := by decide +kernel
theorem dX12_passes_73 : decode cX12_passes 73 = .ok (.ifCond .eq 180, 3) := by decide +kernel
theorem dX12_passes_76 : decode cX12_passes 76 = .ok (.aload_n 0, 1) := by decide +kernel
theorem dX12_passes_77 : decode cX12_passes 77 = .ok (.getfield 61, 3) := by decide +kernel
theorem dX12_passes_80 : decode cX12_passes 80 = .ok (.iload 5, 2) := by decide +kernel
theorem dX12_passes_82 : decode cX12_passes 82 = .ok (.iaload, 1) := by decide +kernel
theorem dX12_passes_83 : decode cX12_passes 83 = .ok (.istore 6, 2) := by decide +kernel
theorem dX12_passes_85 : decode cX12_passes 85 = .ok (.aload_n 0, 1) := by decide +kernel
theorem dX12_passes_86 : decode cX12_passes 86 = .ok (.iload 6, 2) := by decide +kernel
theorem dX12_passes_88 : decode cX12_passes 88 = .ok (.invokevirtual 220, 3) := by decide +kernel
theorem dX12_passes_91 : decode cX12_passes 91 = .ok (.aload_n 0, 1) := by decide +kernel
theorem dX12_passes_92 : decode cX12_passes 92 = .ok (.aload_n 0, 1) := by decide +kernel
theorem dX12_passes_93 : decode cX12_passes 93 = .ok (.iload 6, 2) := by decide +kernel
theorem dX12_passes_95 : decode cX12_passes 95 = .ok (.iconst 0, 1) := by decide +kernel
theorem dX12_passes_96 : decode cX12_passes 96 = .ok (.invokevirtual 83, 3) := by decide +kernel
theorem dX12_passes_99 : decode cX12_passes 99 = .ok (.invokevirtual 272, 3) := by decide +kernel
theorem dX12_passes_102 : decode cX12_passes 102 = .ok (.iadd, 1) := by decide +kernel
theorem dX12_passes_103 : decode cX12_passes 103 = .ok (.aload_n 0, 1) := by decide +kernel
theorem dX12_passes_104 : decode cX12_passes 104 = .ok (.getfield 9, 3) := by decide +kernel
theorem dX12_passes_107 : decode cX12_passes 107 = .ok (.bipush 16, 2) := by decide +kernel
theorem dX12_passes_109 : decode cX12_passes 109 = .ok (.aload_n 0, 1) := by decide +kernel
theorem dX12_passes_110 : decode cX12_passes 110 = .ok (.iload 6, 2) := by decide +kernel
theorem dX12_passes_112 : decode cX12_passes 112 = .ok (.iconst 0, 1) := by decide +kernel
theorem dX12_passes_113 : decode cX12_passes 113 = .ok (.invokevirtual 83, 3) := by decide +kernel
theorem dX12_passes_116 : decode cX12_passes 116 = .ok (.iadd, 1) := by decide +kernel
theorem dX12_passes_117 : decode cX12_passes 117 = .ok (.iaload, 1) := by decide +kernel
theorem dX12_passes_118 : decode cX12_passes 118 = .ok (.if_icmp .le 6, 3) := by decide +kernel
theorem dX12_passes_121 : decode cX12_passes 121 = .ok (.goto 126, 3) := by decide +kernel
theorem dX12_passes_124 : decode cX12_passes 124 = .ok (.iload 4, 2) := by decide +kernel
theorem dX12_passes_126 : decode cX12_passes 126 = .ok (.iload 4, 2) := by decide +kernel
theorem dX12_passes_128 : decode cX12_passes 128 = .ok (.ifCond .le 7, 3) := by decide +kernel
theorem dX12_passes_131 : decode cX12_passes 131 = .ok (.iconst 1, 1) := by decide +kernel
theorem dX12_passes_132 : decode cX12_passes 132 = .ok (.goto 4, 3) := by decide +kernel
theorem dX12_passes_135 : decode cX12_passes 135 = .ok (.iconst 0, 1) := by decide +kernel
theorem dX12_passes_136 : decode cX12_passes 136 = .ok (.isub, 1) := by decide +kernel
theorem dX12_passes_137 : decode cX12_passes 137 = .ok (.istore 4, 2) := by decide +kernel
theorem dX12_passes_139 : decode cX12_passes 139 = .ok (.iload 4, 2) := by decide +kernel
theorem dX12_passes_141 : decode cX12_passes 141 = .ok (.ifCond .lt 7, 3) := by decide +kernel
theorem dX12_passes_144 : decode cX12_passes 144 = .ok (.iconst 1, 1) := by decide +kernel
theorem dX12_passes_145 : decode cX12_passes 145 = .ok (.goto 4, 3) := by decide +kernel
theorem dX12_passes_148 : decode cX12_passes 148 = .ok (.iconst 0, 1) := by decide +kernel
theorem dX12_passes_149 : decode cX12_passes 149 = .ok (.istore 7, 2) := by decide +kernel
theorem dX12_passes_151 : decode cX12_passes 151 = .ok (.aload_n 0, 1) := by decide +kernel
theorem dX12_passes_152 : decode cX12_passes 152 = .ok (.iload 6, 2) := by decide +kernel
theorem dX12_passes_154 : decode cX12_passes 154 = .ok (.invokevirtual 275, 3) := by decide +kernel
theorem dX12_passes_157 : decode cX12_passes 157 = .ok (.aload_n 0, 1) := by decide +kernel
theorem dX12_passes_158 : decode cX12_passes 158 = .ok (.aload_n 0, 1) := by decide +kernel
theorem dX12_passes_159 : decode cX12_passes 159 = .ok (.getfield 9, 3) := by decide +kernel
theorem dX12_passes_162 : decode cX12_passes 162 = .ok (.iconst 0, 1) := by decide +kernel
theorem dX12_passes_163 : decode cX12_passes 163 = .ok (.iaload, 1) := by decide +kernel
theorem dX12_passes_164 : decode cX12_passes 164 = .ok (.invokevirtual 139, 3) := by decide +kernel
theorem dX12_passes_167 : decode cX12_passes 167 = .ok (.ifCond .eq 35, 3) := by decide +kernel
theorem dX12_passes_170 : decode cX12_passes 170 = .ok (.aload_n 0, 1) := by decide +kernel
theorem dX12_passes_171 : decode cX12_passes 171 = .ok (.iload 6, 2) := by decide +kernel
theorem dX12_passes_173 : decode cX12_passes 173 = .ok (.invokevirtual 278, 3) := by decide +kernel
theorem dX12_passes_176 : decode cX12_passes 176 = .ok (.iinc 2 1, 3) := by decide +kernel
theorem dX12_passes_179 : decode cX12_passes 179 = .ok (.aload_n 0, 1) := by decide +kernel
theorem dX12_passes_180 : decode cX12_passes 180 = .ok (.getfield 19, 3) := by decide +kernel
theorem dX12_passes_183 : decode cX12_passes 183 = .ok (.bipush 12, 2) := by decide +kernel
theorem dX12_passes_185 : decode cX12_passes 185 = .ok (.dup2, 1) := by decide +kernel
theorem dX12_passes_186 : decode cX12_passes 186 = .ok (.laload, 1) := by decide +kernel
theorem dX12_passes_187 : decode cX12_passes 187 = .ok (.iload 7, 2) := by decide +kernel
theorem dX12_passes_189 : decode cX12_passes 189 = .ok (.ifCond .eq 7, 3) := by decide +kernel
theorem dX12_passes_192 : decode cX12_passes 192 = .ok (.lconst 1, 1) := by decide +kernel
theorem dX12_passes_193 : decode cX12_passes 193 = .ok (.goto 4, 3) := by decide +kernel
theorem dX12_passes_196 : decode cX12_passes 196 = .ok (.lconst 0, 1) := by decide +kernel
theorem dX12_passes_197 : decode cX12_passes 197 = .ok (.ladd, 1) := by decide +kernel
theorem dX12_passes_198 : decode cX12_passes 198 = .ok (.lastore, 1) := by decide +kernel
theorem dX12_passes_199 : decode cX12_passes 199 = .ok (.goto 48, 3) := by decide +kernel
theorem dX12_passes_202 : decode cX12_passes 202 = .ok (.iload_n 3, 1) := by decide +kernel
theorem dX12_passes_203 : decode cX12_passes 203 = .ok (.iload_n 3, 1) := by decide +kernel
theorem dX12_passes_204 : decode cX12_passes 204 = .ok (.aload_n 0, 1) := by decide +kernel
theorem dX12_passes_205 : decode cX12_passes 205 = .ok (.getfield 9, 3) := by decide +kernel
theorem dX12_passes_208 : decode cX12_passes 208 = .ok (.iconst 2, 1) := by decide +kernel
theorem dX12_passes_209 : decode cX12_passes 209 = .ok (.iaload, 1) := by decide +kernel
theorem dX12_passes_210 : decode cX12_passes 210 = .ok (.if_icmp .ge 16, 3) := by decide +kernel
theorem dX12_passes_213 : decode cX12_passes 213 = .ok (.aload_n 0, 1) := by decide +kernel
theorem dX12_passes_214 : decode cX12_passes 214 = .ok (.iload 6, 2) := by decide +kernel
theorem dX12_passes_216 : decode cX12_passes 216 = .ok (.invokevirtual 281, 3) := by decide +kernel
theorem dX12_passes_219 : decode cX12_passes 219 = .ok (.ifCond .eq 7, 3) := by decide +kernel
theorem dX12_passes_222 : decode cX12_passes 222 = .ok (.iconst 1, 1) := by decide +kernel
theorem dX12_passes_223 : decode cX12_passes 223 = .ok (.goto 4, 3) := by decide +kernel
theorem dX12_passes_226 : decode cX12_passes 226 = .ok (.iconst 0, 1) := by decide +kernel
theorem dX12_passes_227 : decode cX12_passes 227 = .ok (.iadd, 1) := by decide +kernel
theorem dX12_passes_228 : decode cX12_passes 228 = .ok (.istore_n 3, 1) := by decide +kernel
theorem dX12_passes_229 : decode cX12_passes 229 = .ok (.iload 7, 2) := by decide +kernel
theorem dX12_passes_231 : decode cX12_passes 231 = .ok (.ifCond .eq 8, 3) := by decide +kernel
theorem dX12_passes_234 : decode cX12_passes 234 = .ok (.iload 4, 2) := by decide +kernel
theorem dX12_passes_236 : decode cX12_passes 236 = .ok (.goto 9, 3) := by decide +kernel
theorem dX12_passes_239 : decode cX12_passes 239 = .ok (.aload_n 0, 1) := by decide +kernel
theorem dX12_passes_240 : decode cX12_passes 240 = .ok (.getfield 9, 3) := by decide +kernel
theorem dX12_passes_243 : decode cX12_passes 243 = .ok (.iconst 3, 1) := by decide +kernel
theorem dX12_passes_244 : decode cX12_passes 244 = .ok (.iaload, 1) := by decide +kernel
theorem dX12_passes_245 : decode cX12_passes 245 = .ok (.istore 4, 2) := by decide +kernel
theorem dX12_passes_247 : decode cX12_passes 247 = .ok (.iinc 5 1, 3) := by decide +kernel
theorem dX12_passes_250 : decode cX12_passes 250 = .ok (.goto (-185), 3) := by decide +kernel
theorem dX12_passes_253 : decode cX12_passes 253 = .ok (.iload_n 2, 1) := by decide +kernel
theorem dX12_passes_254 : decode cX12_passes 254 = .ok (.ireturn, 1) := by decide +kernel
theorem dX12_holderOf_0 : decode cX12_holderOf 0 = .ok (.iconst 0, 1) := by decide +kernel
theorem dX12_holderOf_1 : decode cX12_holderOf 1 = .ok (.istore_n 2, 1) := by decide +kernel
theorem dX12_holderOf_2 : decode cX12_holderOf 2 = .ok (.iload_n 2, 1) := by decide +kernel
theorem dX12_holderOf_3 : decode cX12_holderOf 3 = .ok (.aload_n 0, 1) := by decide +kernel
theorem dX12_holderOf_4 : decode cX12_holderOf 4 = .ok (.getfield 9, 3) := by decide +kernel
theorem dX12_holderOf_7 : decode cX12_holderOf 7 = .ok (.iconst 1, 1) := by decide +kernel
theorem dX12_holderOf_8 : decode cX12_holderOf 8 = .ok (.iaload, 1) := by decide +kernel
theorem dX12_holderOf_9 : decode cX12_holderOf 9 = .ok (.if_icmp .ge 52, 3) := by decide +kernel
theorem dX12_holderOf_12 : decode cX12_holderOf 12 = .ok (.iconst 0, 1) := by decide +kernel
theorem dX12_holderOf_13 : decode cX12_holderOf 13 = .ok (.istore_n 3, 1) := by decide +kernel
theorem dX12_holderOf_14 : decode cX12_holderOf 14 = .ok (.iload_n 3, 1) := by decide +kernel
theorem dX12_holderOf_15 : decode cX12_holderOf 15 = .ok (.aload_n 0, 1) := by decide +kernel
theorem dX12_holderOf_16 : decode cX12_holderOf 16 = .ok (.iload_n 2, 1) := by decide +kernel
theorem dX12_holderOf_17 : decode cX12_holderOf 17 = .ok (.iconst 4, 1) := by decide +kernel
theorem dX12_holderOf_18 : decode cX12_holderOf 18 = .ok (.invokevirtual 83, 3) := by decide +kernel
theorem dX12_holderOf_21 : decode cX12_holderOf 21 = .ok (.if_icmp .ge 34, 3) := by decide +kernel
theorem dX12_holderOf_24 : decode cX12_holderOf 24 = .ok (.aload_n 0, 1) := by decide +kernel
theorem dX12_holderOf_25 : decode cX12_holderOf 25 = .ok (.iload_n 2, 1) := by decide +kernel
theorem dX12_holderOf_26 : decode cX12_holderOf 26 = .ok (.iload_n 3, 1) := by decide +kernel
theorem dX12_holderOf_27 : decode cX12_holderOf 27 = .ok (.invokevirtual 98, 3) := by decide +kernel
theorem dX12_holderOf_30 : decode cX12_holderOf 30 = .ok (.ifCond .eq 19, 3) := by decide +kernel
theorem dX12_holderOf_33 : decode cX12_holderOf 33 = .ok (.aload_n 0, 1) := by decide +kernel
theorem dX12_holderOf_34 : decode cX12_holderOf 34 = .ok (.iload_n 2, 1) := by decide +kernel
theorem dX12_holderOf_35 : decode cX12_holderOf 35 = .ok (.iload_n 3, 1) := by decide +kernel
theorem dX12_holderOf_36 : decode cX12_holderOf 36 = .ok (.invokevirtual 105, 3) := by decide +kernel
theorem dX12_holderOf_39 : decode cX12_holderOf 39 = .ok (.iload_n 1, 1) := by decide +kernel
theorem dX12_holderOf_40 : decode cX12_holderOf 40 = .ok (.ishr, 1) := by decide +kernel
theorem dX12_holderOf_41 : decode cX12_holderOf 41 = .ok (.iconst 1, 1) := by decide +kernel
theorem dX12_holderOf_42 : decode cX12_holderOf 42 = .ok (.iand, 1) := by decide +kernel
theorem dX12_holderOf_43 : decode cX12_holderOf 43 = .ok (.iconst 1, 1) := by decide +kernel
theorem dX12_holderOf_44 : decode cX12_holderOf 44 = .ok (.if_icmp .ne 5, 3) := by decide +kernel
theorem dX12_holderOf_47 : decode cX12_holderOf 47 = .ok (.iload_n 2, 1) := by decide +kernel
theorem dX12_holderOf_48 : decode cX12_holderOf 48 = .ok (.ireturn, 1) := by decide +kernel
theorem dX12_holderOf_49 : decode cX12_holderOf 49 = .ok (.iinc 3 1, 3) := by decide +kernel
theorem dX12_holderOf_52 : decode cX12_holderOf 52 = .ok (.goto (-38), 3) := by decide +kernel
theorem dX12_holderOf_55 : decode cX12_holderOf 55 = .ok (.iinc 2 1, 3) := by decide +kernel
theorem dX12_holderOf_58 : decode cX12_holderOf 58 = .ok (.goto (-56), 3) := by decide +kernel
theorem dX12_holderOf_61 : decode cX12_holderOf 61 = .ok (.iconst (-1), 1) := by decide +kernel
theorem dX12_holderOf_62 : decode cX12_holderOf 62 = .ok (.ireturn, 1) := by decide +kernel
theorem dX12_ends_0 : decode cX12_ends 0 = .ok (.iconst 0, 1) := by decide +kernel
theorem dX12_ends_1 : decode cX12_ends 1 = .ok (.istore_n 2, 1) := by decide +kernel
theorem dX12_ends_2 : decode cX12_ends 2 = .ok (.iconst 0, 1) := by decide +kernel
theorem dX12_ends_3 : decode cX12_ends 3 = .ok (.istore_n 3, 1) := by decide +kernel
theorem dX12_ends_4 : decode cX12_ends 4 = .ok (.iconst 0, 1) := by decide +kernel
theorem dX12_ends_5 : decode cX12_ends 5 = .ok (.istore 4, 2) := by decide +kernel
theorem dX12_ends_7 : decode cX12_ends 7 = .ok (.iload 4, 2) := by decide +kernel
theorem dX12_ends_9 : decode cX12_ends 9 = .ok (.aload_n 0, 1) := by decide +kernel
theorem dX12_ends_10 : decode cX12_ends 10 = .ok (.iload_n 1, 1) := by decide +kernel
theorem dX12_ends_11 : decode cX12_ends 11 = .ok (.iconst 4, 1) := by decide +kernel
theorem dX12_ends_12 : decode cX12_ends 12 = .ok (.invokevirtual 83, 3) := by decide +kernel
theorem dX12_ends_15 : decode cX12_ends 15 = .ok (.if_icmp .ge 52, 3) := by decide +kernel
theorem dX12_ends_18 : decode cX12_ends 18 = .ok (.iload_n 2, 1) := by decide +kernel
theorem dX12_ends_19 : decode cX12_ends 19 = .ok (.aload_n 0, 1) := by decide +kernel
theorem dX12_ends_20 : decode cX12_ends 20 = .ok (.iload_n 1, 1) := by decide +kernel
theorem dX12_ends_21 : decode cX12_ends 21 = .ok (.bipush 24, 2) := by decide +kernel
theorem dX12_ends_23 : decode cX12_ends 23 = .ok (.iload 4, 2) := by decide +kernel
theorem dX12_ends_25 : decode cX12_ends 25 = .ok (.iadd, 1) := by decide +kernel
theorem dX12_ends_26 : decode cX12_ends 26 = .ok (.invokevirtual 83, 3) := by decide +kernel
theorem dX12_ends_29 : decode cX12_ends 29 = .ok (.invokestatic 87, 3) := by decide +kernel
theorem dX12_ends_32 : decode cX12_ends 32 = .ok (.istore_n 2, 1) := by decide +kernel
theorem dX12_ends_33 : decode cX12_ends 33 = .ok (.iload_n 3, 1) := by decide +kernel
theorem dX12_ends_34 : decode cX12_ends 34 = .ok (.aload_n 0, 1) := by decide +kernel
theorem dX12_ends_35 : decode cX12_ends 35 = .ok (.iload_n 1, 1) := by decide +kernel
theorem dX12_ends_36 : decode cX12_ends 36 = .ok (.iload 4, 2) := by decide +kernel
theorem dX12_ends_38 : decode cX12_ends 38 = .ok (.invokevirtual 223, 3) := by decide +kernel
theorem dX12_ends_41 : decode cX12_ends 41 = .ok (.aload_n 0, 1) := by decide +kernel
theorem dX12_ends_42 : decode cX12_ends 42 = .ok (.iload_n 1, 1) := by decide +kernel
theorem dX12_ends_43 : decode cX12_ends 43 = .ok (.bipush 16, 2) := by decide +kernel
theorem dX12_ends_45 : decode cX12_ends 45 = .ok (.iload 4, 2) := by decide +kernel
theorem dX12_ends_47 : decode cX12_ends 47 = .ok (.iadd, 1) := by decide +kernel
theorem dX12_ends_48 : decode cX12_ends 48 = .ok (.invokevirtual 83, 3) := by decide +kernel
theorem dX12_ends_51 : decode cX12_ends 51 = .ok (.if_icmp .le 7, 3) := by decide +kernel
theorem dX12_ends_54 : decode cX12_ends 54 = .ok (.iconst 1, 1) := by decide +kernel
theorem dX12_ends_55 : decode cX12_ends 55 = .ok (.goto 4, 3) := by decide +kernel
theorem dX12_ends_58 : decode cX12_ends 58 = .ok (.iconst 0, 1) := by decide +kernel
theorem dX12_ends_59 : decode cX12_ends 59 = .ok (.ior, 1) := by decide +kernel
theorem dX12_ends_60 : decode cX12_ends 60 = .ok (.istore_n 3, 1) := by decide +kernel
theorem dX12_ends_61 : decode cX12_ends 61 = .ok (.iinc 4 1, 3) := by decide +kernel
theorem dX12_ends_64 : decode cX12_ends 64 = .ok (.goto (-57), 3) := by decide +kernel
theorem dX12_ends_67 : decode cX12_ends 67 = .ok (.iload_n 2, 1) := by decide +kernel
theorem dX12_ends_68 : decode cX12_ends 68 = .ok (.aload_n 0, 1) := by decide +kernel
theorem dX12_ends_69 : decode cX12_ends 69 = .ok (.getfield 9, 3) := by decide +kernel
theorem dX12_ends_72 : decode cX12_ends 72 = .ok (.iconst 0, 1) := by decide +kernel
theorem dX12_ends_73 : decode cX12_ends 73 = .ok (.iaload, 1) := by decide +kernel
theorem dX12_ends_74 : decode cX12_ends 74 = .ok (.if_icmp .gt 66, 3) := by decide +kernel
theorem dX12_ends_77 : decode cX12_ends 77 = .ok (.aload_n 0, 1) := by decide +kernel
theorem dX12_ends_78 : decode cX12_ends 78 = .ok (.iload_n 1, 1) := by decide +kernel
theorem dX12_ends_79 : decode cX12_ends 79 = .ok (.iconst 5, 1) := by decide +kernel
theorem dX12_ends_80 : decode cX12_ends 80 = .ok (.iload_n 3, 1) := by decide +kernel
theorem dX12_ends_81 : decode cX12_ends 81 = .ok (.ifCond .eq 7, 3) := by decide +kernel
theorem dX12_ends_84 : decode cX12_ends 84 = .ok (.iconst 3, 1) := by decide +kernel
theorem dX12_ends_85 : decode cX12_ends 85 = .ok (.goto 4, 3) := by decide +kernel
theorem dX12_ends_88 : decode cX12_ends 88 = .ok (.iconst 2, 1) := by decide +kernel
theorem dX12_ends_89 : decode cX12_ends 89 = .ok (.invokevirtual 188, 3) := by decide +kernel
theorem dX12_ends_92 : decode cX12_ends 92 = .ok (.aload_n 0, 1) := by decide +kernel
theorem dX12_ends_93 : decode cX12_ends 93 = .ok (.iload_n 1, 1) := by decide +kernel
theorem dX12_ends_94 : decode cX12_ends 94 = .ok (.bipush 7, 2) := by decide +kernel
theorem dX12_ends_96 : decode cX12_ends 96 = .ok (.aload_n 0, 1) := by decide +kernel
theorem dX12_ends_97 : decode cX12_ends 97 = .ok (.getfield 9, 3) := by decide +kernel
theorem dX12_ends_100 : decode cX12_ends 100 = .ok (.iconst 0, 1) := by decide +kernel
theorem dX12_ends_101 : decode cX12_ends 101 = .ok (.iaload, 1) := by decide +kernel
theorem dX12_ends_102 : decode cX12_ends 102 = .ok (.invokevirtual 188, 3) := by decide +kernel
theorem dX12_ends_105 : decode cX12_ends 105 = .ok (.aload_n 0, 1) := by decide +kernel
theorem dX12_ends_106 : decode cX12_ends 106 = .ok (.iload_n 3, 1) := by decide +kernel
theorem dX12_ends_107 : decode cX12_ends 107 = .ok (.ifCond .eq 7, 3) := by decide +kernel
theorem dX12_ends_110 : decode cX12_ends 110 = .ok (.iconst 3, 1) := by decide +kernel
theorem dX12_ends_111 : decode cX12_ends 111 = .ok (.goto 4, 3) := by decide +kernel
theorem dX12_ends_114 : decode cX12_ends 114 = .ok (.iconst 2, 1) := by decide +kernel
theorem dX12_ends_115 : decode cX12_ends 115 = .ok (.iload_n 1, 1) := by decide +kernel
theorem dX12_ends_116 : decode cX12_ends 116 = .ok (.invokevirtual 192, 3) := by decide +kernel
theorem dX12_ends_119 : decode cX12_ends 119 = .ok (.aload_n 0, 1) := by decide +kernel
theorem dX12_ends_120 : decode cX12_ends 120 = .ok (.getfield 19, 3) := by decide +kernel
theorem dX12_ends_123 : decode cX12_ends 123 = .ok (.bipush 8, 2) := by decide +kernel
theorem dX12_ends_125 : decode cX12_ends 125 = .ok (.iload_n 3, 1) := by decide +kernel
theorem dX12_ends_126 : decode cX12_ends 126 = .ok (.ifCond .eq 7, 3) := by decide +kernel
theorem dX12_ends_129 : decode cX12_ends 129 = .ok (.iconst 2, 1) := by decide +kernel
theorem dX12_ends_130 : decode cX12_ends 130 = .ok (.goto 4, 3) := by decide +kernel
theorem dX12_ends_133 : decode cX12_ends 133 = .ok (.iconst 1, 1) := by decide +kernel
theorem dX12_ends_134 : decode cX12_ends 134 = .ok (.iadd, 1) := by decide +kernel
theorem dX12_ends_135 : decode cX12_ends 135 = .ok (.dup2, 1) := by decide +kernel
theorem dX12_ends_136 : decode cX12_ends 136 = .ok (.laload, 1) := by decide +kernel
theorem dX12_ends_137 : decode cX12_ends 137 = .ok (.lconst 1, 1) := by decide +kernel
theorem dX12_ends_138 : decode cX12_ends 138 = .ok (.ladd, 1) := by decide +kernel
theorem dX12_ends_139 : decode cX12_ends 139 = .ok (.lastore, 1) := by decide +kernel
theorem dX12_ends_140 : decode cX12_ends 140 = .ok (.return_, 1) := by decide +kernel
theorem dX12_ticks_0 : decode cX12_ticks 0 = .ok (.aload_n 0, 1) := by decide +kernel
theorem dX12_ticks_1 : decode cX12_ticks 1 = .ok (.invokevirtual 284, 3) := by decide +kernel
theorem dX12_ticks_4 : decode cX12_ticks 4 = .ok (.pop, 1) := by decide +kernel
theorem dX12_ticks_5 : decode cX12_ticks 5 = .ok (.sipush 2916, 3) := by decide +kernel
theorem dX12_ticks_8 : decode cX12_ticks 8 = .ok (.aload_n 0, 1) := by decide +kernel
theorem dX12_ticks_9 : decode cX12_ticks 9 = .ok (.getfield 9, 3) := by decide +kernel
theorem dX12_ticks_12 : decode cX12_ticks 12 = .ok (.iconst 0, 1) := by decide +kernel
theorem dX12_ticks_13 : decode cX12_ticks 13 = .ok (.iaload, 1) := by decide +kernel
theorem dX12_ticks_14 : decode cX12_ticks 14 = .ok (.bipush 64, 2) := by decide +kernel
theorem dX12_ticks_16 : decode cX12_ticks 16 = .ok (.irem, 1) := by decide +kernel
theorem dX12_ticks_17 : decode cX12_ticks 17 = .ok (.bipush 16, 2) := by decide +kernel
theorem dX12_ticks_19 : decode cX12_ticks 19 = .ok (.imul, 1) := by decide +kernel
theorem dX12_ticks_20 : decode cX12_ticks 20 = .ok (.iadd, 1) := by decide +kernel
theorem dX12_ticks_21 : decode cX12_ticks 21 = .ok (.istore_n 1, 1) := by decide +kernel
theorem dX12_ticks_22 : decode cX12_ticks 22 = .ok (.iconst 0, 1) := by decide +kernel
theorem dX12_ticks_23 : decode cX12_ticks 23 = .ok (.istore_n 2, 1) := by decide +kernel
theorem dX12_ticks_24 : decode cX12_ticks 24 = .ok (.iload_n 2, 1) := by decide +kernel
theorem dX12_ticks_25 : decode cX12_ticks 25 = .ok (.bipush 16, 2) := by decide +kernel
theorem dX12_ticks_27 : decode cX12_ticks 27 = .ok (.if_icmp .ge 59, 3) := by decide +kernel
theorem dX12_ticks_30 : decode cX12_ticks 30 = .ok (.aload_n 0, 1) := by decide +kernel
theorem dX12_ticks_31 : decode cX12_ticks 31 = .ok (.iload_n 2, 1) := by decide +kernel
theorem dX12_ticks_32 : decode cX12_ticks 32 = .ok (.invokevirtual 287, 3) := by decide +kernel
theorem dX12_ticks_35 : decode cX12_ticks 35 = .ok (.istore_n 3, 1) := by decide +kernel
theorem dX12_ticks_36 : decode cX12_ticks 36 = .ok (.aload_n 0, 1) := by decide +kernel
theorem dX12_ticks_37 : decode cX12_ticks 37 = .ok (.getfield 9, 3) := by decide +kernel
theorem dX12_ticks_40 : decode cX12_ticks 40 = .ok (.iload_n 1, 1) := by decide +kernel
theorem dX12_ticks_41 : decode cX12_ticks 41 = .ok (.iload_n 2, 1) := by decide +kernel
theorem dX12_ticks_42 : decode cX12_ticks 42 = .ok (.iadd, 1) := by decide +kernel
theorem dX12_ticks_43 : decode cX12_ticks 43 = .ok (.iload_n 3, 1) := by decide +kernel
theorem dX12_ticks_44 : decode cX12_ticks 44 = .ok (.iastore, 1) := by decide +kernel
theorem dX12_ticks_45 : decode cX12_ticks 45 = .ok (.iload_n 3, 1) := by decide +kernel
theorem dX12_ticks_46 : decode cX12_ticks 46 = .ok (.ifCond .ge 17, 3) := by decide +kernel
theorem dX12_ticks_49 : decode cX12_ticks 49 = .ok (.aload_n 0, 1) := by decide +kernel
theorem dX12_ticks_50 : decode cX12_ticks 50 = .ok (.getfield 19, 3) := by decide +kernel
theorem dX12_ticks_53 : decode cX12_ticks 53 = .ok (.bipush 14, 2) := by decide +kernel
theorem dX12_ticks_55 : decode cX12_ticks 55 = .ok (.dup2, 1) := by decide +kernel
theorem dX12_ticks_56 : decode cX12_ticks 56 = .ok (.laload, 1) := by decide +kernel
theorem dX12_ticks_57 : decode cX12_ticks 57 = .ok (.lconst 1, 1) := by decide +kernel
theorem dX12_ticks_58 : decode cX12_ticks 58 = .ok (.ladd, 1) := by decide +kernel
theorem dX12_ticks_59 : decode cX12_ticks 59 = .ok (.lastore, 1) := by decide +kernel
theorem dX12_ticks_60 : decode cX12_ticks 60 = .ok (.goto 20, 3) := by decide +kernel
theorem dX12_ticks_63 : decode cX12_ticks 63 = .ok (.aload_n 0, 1) := by decide +kernel
theorem dX12_ticks_64 : decode cX12_ticks 64 = .ok (.getfield 19, 3) := by decide +kernel
theorem dX12_ticks_67 : decode cX12_ticks 67 = .ok (.iconst 0, 1) := by decide +kernel
theorem dX12_ticks_68 : decode cX12_ticks 68 = .ok (.aload_n 0, 1) := by decide +kernel
theorem dX12_ticks_69 : decode cX12_ticks 69 = .ok (.iload_n 3, 1) := by decide +kernel
theorem dX12_ticks_70 : decode cX12_ticks 70 = .ok (.iconst 0, 1) := by decide +kernel
theorem dX12_ticks_71 : decode cX12_ticks 71 = .ok (.invokevirtual 83, 3) := by decide +kernel
theorem dX12_ticks_74 : decode cX12_ticks 74 = .ok (.iadd, 1) := by decide +kernel
theorem dX12_ticks_75 : decode cX12_ticks 75 = .ok (.dup2, 1) := by decide +kernel
theorem dX12_ticks_76 : decode cX12_ticks 76 = .ok (.laload, 1) := by decide +kernel
theorem dX12_ticks_77 : decode cX12_ticks 77 = .ok (.lconst 1, 1) := by decide +kernel
theorem dX12_ticks_78 : decode cX12_ticks 78 = .ok (.ladd, 1) := by decide +kernel
theorem dX12_ticks_79 : decode cX12_ticks 79 = .ok (.lastore, 1) := by decide +kernel
theorem dX12_ticks_80 : decode cX12_ticks 80 = .ok (.iinc 2 1, 3) := by decide +kernel
theorem dX12_ticks_83 : decode cX12_ticks 83 = .ok (.goto (-59), 3) := by decide +kernel
theorem dX12_ticks_86 : decode cX12_ticks 86 = .ok (.aload_n 0, 1) := by decide +kernel
theorem dX12_ticks_87 : decode cX12_ticks 87 = .ok (.getfield 9, 3) := by decide +kernel
theorem dX12_ticks_90 : decode cX12_ticks 90 = .ok (.iconst 0, 1) := by decide +kernel
theorem dX12_ticks_91 : decode cX12_ticks 91 = .ok (.dup2, 1) := by decide +kernel
theorem dX12_ticks_92 : decode cX12_ticks 92 = .ok (.iaload, 1) := by decide +kernel
theorem dX12_ticks_93 : decode cX12_ticks 93 = .ok (.iconst 1, 1) := by decide +kernel
theorem dX12_ticks_94 : decode cX12_ticks 94 = .ok (.iadd, 1) := by decide +kernel
theorem dX12_ticks_95 : decode cX12_ticks 95 = .ok (.iastore, 1) := by decide +kernel
theorem dX12_ticks_96 : decode cX12_ticks 96 = .ok (.iconst 0, 1) := by decide +kernel
theorem dX12_ticks_97 : decode cX12_ticks 97 = .ok (.istore_n 2, 1) := by decide +kernel
theorem dX12_ticks_98 : decode cX12_ticks 98 = .ok (.iload_n 2, 1) := by decide +kernel
theorem dX12_ticks_99 : decode cX12_ticks 99 = .ok (.aload_n 0, 1) := by decide +kernel
theorem dX12_ticks_100 : decode cX12_ticks 100 = .ok (.getfield 9, 3) := by decide +kernel
theorem dX12_ticks_103 : decode cX12_ticks 103 = .ok (.iconst 1, 1) := by decide +kernel
theorem dX12_ticks_104 : decode cX12_ticks 104 = .ok (.iaload, 1) := by decide +kernel
theorem dX12_ticks_105 : decode cX12_ticks 105 = .ok (.if_icmp .ge 24, 3) := by decide +kernel
theorem dX12_ticks_108 : decode cX12_ticks 108 = .ok (.aload_n 0, 1) := by decide +kernel
theorem dX12_ticks_109 : decode cX12_ticks 109 = .ok (.iload_n 2, 1) := by decide +kernel
theorem dX12_ticks_110 : decode cX12_ticks 110 = .ok (.iconst 5, 1) := by decide +kernel
theorem dX12_ticks_111 : decode cX12_ticks 111 = .ok (.invokevirtual 83, 3) := by decide +kernel
theorem dX12_ticks_114 : decode cX12_ticks 114 = .ok (.iconst 1, 1) := by decide +kernel
theorem dX12_ticks_115 : decode cX12_ticks 115 = .ok (.if_icmp .ne 8, 3) := by decide +kernel
theorem dX12_ticks_118 : decode cX12_ticks 118 = .ok (.aload_n 0, 1) := by decide +kernel
theorem dX12_ticks_119 : decode cX12_ticks 119 = .ok (.iload_n 2, 1) := by decide +kernel
theorem dX12_ticks_120 : decode cX12_ticks 120 = .ok (.invokevirtual 290, 3) := by decide +kernel
theorem dX12_ticks_123 : decode cX12_ticks 123 = .ok (.iinc 2 1, 3) := by decide +kernel
theorem dX12_ticks_126 : decode cX12_ticks 126 = .ok (.goto (-28), 3) := by decide +kernel
theorem dX12_ticks_129 : decode cX12_ticks 129 = .ok (.aload_n 0, 1) := by decide +kernel
theorem dX12_ticks_130 : decode cX12_ticks 130 = .ok (.getfield 9, 3) := by decide +kernel
theorem dX12_ticks_133 : decode cX12_ticks 133 = .ok (.iconst 4, 1) := by decide +kernel
theorem dX12_ticks_134 : decode cX12_ticks 134 = .ok (.iaload, 1) := by decide +kernel
theorem dX12_ticks_135 : decode cX12_ticks 135 = .ok (.istore_n 2, 1) := by decide +kernel
theorem dX12_ticks_136 : decode cX12_ticks 136 = .ok (.iconst 0, 1) := by decide +kernel
theorem dX12_ticks_137 : decode cX12_ticks 137 = .ok (.istore_n 3, 1) := by decide +kernel
theorem dX12_ticks_138 : decode cX12_ticks 138 = .ok (.iload_n 3, 1) := by decide +kernel
theorem dX12_ticks_139 : decode cX12_ticks 139 = .ok (.bipush 8, 2) := by decide +kernel
theorem dX12_ticks_141 : decode cX12_ticks 141 = .ok (.if_icmp .ge 38, 3) := by decide +kernel
theorem dX12_ticks_144 : decode cX12_ticks 144 = .ok (.iload_n 2, 1) := by decide +kernel
theorem dX12_ticks_145 : decode cX12_ticks 145 = .ok (.ifCond .le 34, 3) := by decide +kernel
theorem dX12_ticks_148 : decode cX12_ticks 148 = .ok (.aload_n 0, 1) := by decide +kernel
theorem dX12_ticks_149 : decode cX12_ticks 149 = .ok (.getfield 9, 3) := by decide +kernel
theorem dX12_ticks_152 : decode cX12_ticks 152 = .ok (.iconst 0, 1) := by decide +kernel
theorem dX12_ticks_153 : decode cX12_ticks 153 = .ok (.iaload, 1) := by decide +kernel
theorem dX12_ticks_154 : decode cX12_ticks 154 = .ok (.iload_n 2, 1) := by decide +kernel
theorem dX12_ticks_155 : decode cX12_ticks 155 = .ok (.irem, 1) := by decide +kernel
theorem dX12_ticks_156 : decode cX12_ticks 156 = .ok (.ifCond .ne 23, 3) := by decide +kernel
theorem dX12_ticks_159 : decode cX12_ticks 159 = .ok (.aload_n 0, 1) := by decide +kernel
theorem dX12_ticks_160 : decode cX12_ticks 160 = .ok (.getfield 19, 3) := by decide +kernel
theorem dX12_ticks_163 : decode cX12_ticks 163 = .ok (.iconst 0, 1) := by decide +kernel
theorem dX12_ticks_164 : decode cX12_ticks 164 = .ok (.iload_n 3, 1) := by decide +kernel
theorem dX12_ticks_165 : decode cX12_ticks 165 = .ok (.iadd, 1) := by decide +kernel
theorem dX12_ticks_166 : decode cX12_ticks 166 = .ok (.dup2, 1) := by decide +kernel
theorem dX12_ticks_167 : decode cX12_ticks 167 = .ok (.laload, 1) := by decide +kernel
theorem dX12_ticks_168 : decode cX12_ticks 168 = .ok (.ldc2_w 293, 3) := by decide +kernel
theorem dX12_ticks_171 : decode cX12_ticks 171 = .ok (.ldiv, 1) := by decide +kernel
theorem dX12_ticks_172 : decode cX12_ticks 172 = .ok (.lastore, 1) := by decide +kernel
theorem dX12_ticks_173 : decode cX12_ticks 173 = .ok (.iinc 3 1, 3) := by decide +kernel
theorem dX12_ticks_176 : decode cX12_ticks 176 = .ok (.goto (-38), 3) := by decide +kernel
theorem dX12_ticks_179 : decode cX12_ticks 179 = .ok (.iconst 0, 1) := by decide +kernel
theorem dX12_ticks_180 : decode cX12_ticks 180 = .ok (.istore_n 3, 1) := by decide +kernel
theorem dX12_ticks_181 : decode cX12_ticks 181 = .ok (.iload_n 3, 1) := by decide +kernel
theorem dX12_ticks_182 : decode cX12_ticks 182 = .ok (.bipush 12, 2) := by decide +kernel
theorem dX12_ticks_184 : decode cX12_ticks 184 = .ok (.if_icmp .ge 45, 3) := by decide +kernel
theorem dX12_ticks_187 : decode cX12_ticks 187 = .ok (.aload_n 0, 1) := by decide +kernel
theorem dX12_ticks_188 : decode cX12_ticks 188 = .ok (.iload_n 3, 1) := by decide +kernel
theorem dX12_ticks_189 : decode cX12_ticks 189 = .ok (.invokevirtual 111, 3) := by decide +kernel
theorem dX12_ticks_192 : decode cX12_ticks 192 = .ok (.ifCond .eq 31, 3) := by decide +kernel
theorem dX12_ticks_195 : decode cX12_ticks 195 = .ok (.aload_n 0, 1) := by decide +kernel
theorem dX12_ticks_196 : decode cX12_ticks 196 = .ok (.iload_n 3, 1) := by decide +kernel
theorem dX12_ticks_197 : decode cX12_ticks 197 = .ok (.iconst 4, 1) := by decide +kernel
theorem dX12_ticks_198 : decode cX12_ticks 198 = .ok (.invokevirtual 95, 3) := by decide +kernel
theorem dX12_ticks_201 : decode cX12_ticks 201 = .ok (.aload_n 0, 1) := by decide +kernel
theorem dX12_ticks_202 : decode cX12_ticks 202 = .ok (.getfield 9, 3) := by decide +kernel
theorem dX12_ticks_205 : decode cX12_ticks 205 = .ok (.iconst 0, 1) := by decide +kernel
theorem dX12_ticks_206 : decode cX12_ticks 206 = .ok (.iaload, 1) := by decide +kernel
theorem dX12_ticks_207 : decode cX12_ticks 207 = .ok (.if_icmp .gt 16, 3) := by decide +kernel
theorem dX12_ticks_210 : decode cX12_ticks 210 = .ok (.aload_n 0, 1) := by decide +kernel
theorem dX12_ticks_211 : decode cX12_ticks 211 = .ok (.getfield 9, 3) := by decide +kernel
theorem dX12_ticks_214 : decode cX12_ticks 214 = .ok (.bipush 24, 2) := by decide +kernel
theorem dX12_ticks_216 : decode cX12_ticks 216 = .ok (.iload_n 3, 1) := by decide +kernel
theorem dX12_ticks_217 : decode cX12_ticks 217 = .ok (.bipush 6, 2) := by decide +kernel
theorem dX12_ticks_219 : decode cX12_ticks 219 = .ok (.imul, 1) := by decide +kernel
theorem dX12_ticks_220 : decode cX12_ticks 220 = .ok (.iadd, 1) := by decide +kernel
theorem dX12_ticks_221 : decode cX12_ticks 221 = .ok (.iconst (-1), 1) := by decide +kernel
theorem dX12_ticks_222 : decode cX12_ticks 222 = .ok (.iastore, 1) := by decide +kernel
theorem dX12_ticks_223 : decode cX12_ticks 223 = .ok (.iinc 3 1, 3) := by decide +kernel
theorem dX12_ticks_226 : decode cX12_ticks 226 = .ok (.goto (-45), 3) := by decide +kernel
theorem dX12_ticks_229 : decode cX12_ticks 229 = .ok (.return_, 1) := by decide +kernel
theorem dX12_step_0 : decode cX12_step 0 = .ok (.iload_n 1, 1) := by decide +kernel
theorem dX12_step_1 : decode cX12_step 1 = .ok (.i2l, 1) := by decide +kernel
theorem dX12_step_2 : decode cX12_step 2 = .ok (.lconst 1, 1) := by decide +kernel
theorem dX12_step_3 : decode cX12_step 3 = .ok (.ldc2_w 148, 3) := by decide +kernel
theorem dX12_step_6 : decode cX12_step 6 = .ok (.invokestatic 79, 3) := by decide +kernel
theorem dX12_step_9 : decode cX12_step 9 = .ok (.ifCond .ne 5, 3) := by decide +kernel
theorem dX12_step_12 : decode cX12_step 12 = .ok (.iconst (-1), 1) := by decide +kernel
theorem dX12_step_13 : decode cX12_step 13 = .ok (.ireturn, 1) := by decide +kernel
theorem dX12_step_14 : decode cX12_step 14 = .ok (.aload_n 0, 1) := by decide +kernel
theorem dX12_step_15 : decode cX12_step 15 = .ok (.getfield 9, 3) := by decide +kernel
theorem dX12_step_18 : decode cX12_step 18 = .ok (.iconst 0, 1) := by decide +kernel
theorem dX12_step_19 : decode cX12_step 19 = .ok (.iaload, 1) := by decide +kernel
theorem dX12_step_20 : decode cX12_step 20 = .ok (.iload_n 1, 1) := by decide +kernel
theorem dX12_step_21 : decode cX12_step 21 = .ok (.iadd, 1) := by decide +kernel
theorem dX12_step_22 : decode cX12_step 22 = .ok (.ldc_w 295, 3) := by decide +kernel
theorem dX12_step_25 : decode cX12_step 25 = .ok (.if_icmp .le 6, 3) := by decide +kernel
theorem dX12_step_28 : decode cX12_step 28 = .ok (.bipush (-3), 2) := by decide +kernel
theorem dX12_step_30 : decode cX12_step 30 = .ok (.ireturn, 1) := by decide +kernel
theorem dX12_step_31 : decode cX12_step 31 = .ok (.iconst 0, 1) := by decide +kernel
theorem dX12_step_32 : decode cX12_step 32 = .ok (.istore_n 2, 1) := by decide +kernel
theorem dX12_step_33 : decode cX12_step 33 = .ok (.iload_n 2, 1) := by decide +kernel
theorem dX12_step_34 : decode cX12_step 34 = .ok (.iload_n 1, 1) := by decide +kernel
theorem dX12_step_35 : decode cX12_step 35 = .ok (.if_icmp .ge 13, 3) := by decide +kernel
theorem dX12_step_38 : decode cX12_step 38 = .ok (.aload_n 0, 1) := by decide +kernel
theorem dX12_step_39 : decode cX12_step 39 = .ok (.invokevirtual 296, 3) := by decide +kernel
theorem dX12_step_42 : decode cX12_step 42 = .ok (.iinc 2 1, 3) := by decide +kernel
theorem dX12_step_45 : decode cX12_step 45 = .ok (.goto (-12), 3) := by decide +kernel
theorem dX12_step_48 : decode cX12_step 48 = .ok (.aload_n 0, 1) := by decide +kernel
theorem dX12_step_49 : decode cX12_step 49 = .ok (.getfield 9, 3) := by decide +kernel
theorem dX12_step_52 : decode cX12_step 52 = .ok (.iconst 0, 1) := by decide +kernel
theorem dX12_step_53 : decode cX12_step 53 = .ok (.iaload, 1) := by decide +kernel
theorem dX12_step_54 : decode cX12_step 54 = .ok (.ireturn, 1) := by decide +kernel
theorem dX12_pass_0 : decode cX12_pass 0 = .ok (.aload_n 0, 1) := by decide +kernel
theorem dX12_pass_1 : decode cX12_pass 1 = .ok (.invokevirtual 284, 3) := by decide +kernel
theorem dX12_pass_4 : decode cX12_pass 4 = .ok (.ireturn, 1) := by decide +kernel
theorem dX12_isColumn_0 : decode cX12_isColumn 0 = .ok (.iload_n 0, 1) := by decide +kernel
theorem dX12_isColumn_1 : decode cX12_isColumn 1 = .ok (.i2l, 1) := by decide +kernel
theorem dX12_isColumn_2 : decode cX12_isColumn 2 = .ok (.lconst 0, 1) := by decide +kernel
theorem dX12_isColumn_3 : decode cX12_isColumn 3 = .ok (.ldc2_w 245, 3) := by decide +kernel
theorem dX12_isColumn_6 : decode cX12_isColumn 6 = .ok (.invokestatic 79, 3) := by decide +kernel
theorem dX12_isColumn_9 : decode cX12_isColumn 9 = .ok (.ireturn, 1) := by decide +kernel
theorem dX12_holder_0 : decode cX12_holder 0 = .ok (.iload_n 1, 1) := by decide +kernel
theorem dX12_holder_1 : decode cX12_holder 1 = .ok (.invokestatic 299, 3) := by decide +kernel
theorem dX12_holder_4 : decode cX12_holder 4 = .ok (.ifCond .eq 14, 3) := by decide +kernel
theorem dX12_holder_7 : decode cX12_holder 7 = .ok (.aload_n 0, 1) := by decide +kernel
theorem dX12_holder_8 : decode cX12_holder 8 = .ok (.iload_n 1, 1) := by decide +kernel
theorem dX12_holder_9 : decode cX12_holder 9 = .ok (.invokevirtual 287, 3) := by decide +kernel
theorem dX12_holder_12 : decode cX12_holder 12 = .ok (.invokestatic 217, 3) := by decide +kernel
theorem dX12_holder_15 : decode cX12_holder 15 = .ok (.goto 4, 3) := by decide +kernel
theorem dX12_holder_18 : decode cX12_holder 18 = .ok (.iconst (-1), 1) := by decide +kernel
theorem dX12_holder_19 : decode cX12_holder 19 = .ok (.ireturn, 1) := by decide +kernel
theorem dX12_promised_0 : decode cX12_promised 0 = .ok (.iload_n 1, 1) := by decide +kernel
theorem dX12_promised_1 : decode cX12_promised 1 = .ok (.invokestatic 299, 3) := by decide +kernel
theorem dX12_promised_4 : decode cX12_promised 4 = .ok (.ifCond .eq 13, 3) := by decide +kernel
theorem dX12_promised_7 : decode cX12_promised 7 = .ok (.iload_n 2, 1) := by decide +kernel
theorem dX12_promised_8 : decode cX12_promised 8 = .ok (.aload_n 0, 1) := by decide +kernel
theorem dX12_promised_9 : decode cX12_promised 9 = .ok (.getfield 9, 3) := by decide +kernel
theorem dX12_promised_12 : decode cX12_promised 12 = .ok (.iconst 0, 1) := by decide +kernel
theorem dX12_promised_13 : decode cX12_promised 13 = .ok (.iaload, 1) := by decide +kernel
theorem dX12_promised_14 : decode cX12_promised 14 = .ok (.if_icmp .ge 5, 3) := by decide +kernel
theorem dX12_promised_17 : decode cX12_promised 17 = .ok (.iconst (-1), 1) := by decide +kernel
theorem dX12_promised_18 : decode cX12_promised 18 = .ok (.ireturn, 1) := by decide +kernel
theorem dX12_promised_19 : decode cX12_promised 19 = .ok (.iconst 0, 1) := by decide +kernel
theorem dX12_promised_20 : decode cX12_promised 20 = .ok (.istore_n 3, 1) := by decide +kernel
theorem dX12_promised_21 : decode cX12_promised 21 = .ok (.iload_n 3, 1) := by decide +kernel
theorem dX12_promised_22 : decode cX12_promised 22 = .ok (.aload_n 0, 1) := by decide +kernel
theorem dX12_promised_23 : decode cX12_promised 23 = .ok (.getfield 9, 3) := by decide +kernel
theorem dX12_promised_26 : decode cX12_promised 26 = .ok (.iconst 1, 1) := by decide +kernel
theorem dX12_promised_27 : decode cX12_promised 27 = .ok (.iaload, 1) := by decide +kernel
theorem dX12_promised_28 : decode cX12_promised 28 = .ok (.if_icmp .ge 87, 3) := by decide +kernel
theorem dX12_promised_31 : decode cX12_promised 31 = .ok (.aload_n 0, 1) := by decide +kernel
theorem dX12_promised_32 : decode cX12_promised 32 = .ok (.iload_n 3, 1) := by decide +kernel
theorem dX12_promised_33 : decode cX12_promised 33 = .ok (.bipush 9, 2) := by decide +kernel
theorem dX12_promised_35 : decode cX12_promised 35 = .ok (.invokevirtual 83, 3) := by decide +kernel
theorem dX12_promised_38 : decode cX12_promised 38 = .ok (.istore 4, 2) := by decide +kernel
theorem dX12_promised_40 : decode cX12_promised 40 = .ok (.iconst 0, 1) := by decide +kernel
theorem dX12_promised_41 : decode cX12_promised 41 = .ok (.istore 5, 2) := by decide +kernel
theorem dX12_promised_43 : decode cX12_promised 43 = .ok (.iload 5, 2) := by decide +kernel
theorem dX12_promised_45 : decode cX12_promised 45 = .ok (.aload_n 0, 1) := by decide +kernel
theorem dX12_promised_46 : decode cX12_promised 46 = .ok (.iload_n 3, 1) := by decide +kernel
theorem dX12_promised_47 : decode cX12_promised 47 = .ok (.iconst 4, 1) := by decide +kernel
theorem dX12_promised_48 : decode cX12_promised 48 = .ok (.invokevirtual 83, 3) := by decide +kernel
theorem dX12_promised_51 : decode cX12_promised 51 = .ok (.if_icmp .ge 58, 3) := by decide +kernel
theorem dX12_promised_54 : decode cX12_promised 54 = .ok (.iload 4, 2) := by decide +kernel
theorem dX12_promised_56 : decode cX12_promised 56 = .ok (.ifCond .lt 53, 3) := by decide +kernel
theorem dX12_promised_59 : decode cX12_promised 59 = .ok (.aload_n 0, 1) := by decide +kernel
theorem dX12_promised_60 : decode cX12_promised 60 = .ok (.iload_n 3, 1) := by decide +kernel
theorem dX12_promised_61 : decode cX12_promised 61 = .ok (.iload 5, 2) := by decide +kernel
theorem dX12_promised_63 : decode cX12_promised 63 = .ok (.invokevirtual 108, 3) := by decide +kernel
theorem dX12_promised_66 : decode cX12_promised 66 = .ok (.iload_n 1, 1) := by decide +kernel
theorem dX12_promised_67 : decode cX12_promised 67 = .ok (.ishr, 1) := by decide +kernel
theorem dX12_promised_68 : decode cX12_promised 68 = .ok (.iconst 1, 1) := by decide +kernel
theorem dX12_promised_69 : decode cX12_promised 69 = .ok (.iand, 1) := by decide +kernel
theorem dX12_promised_70 : decode cX12_promised 70 = .ok (.iconst 1, 1) := by decide +kernel
theorem dX12_promised_71 : decode cX12_promised 71 = .ok (.if_icmp .ne 32, 3) := by decide +kernel
theorem dX12_promised_74 : decode cX12_promised 74 = .ok (.iload_n 2, 1) := by decide +kernel
theorem dX12_promised_75 : decode cX12_promised 75 = .ok (.i2l, 1) := by decide +kernel
theorem dX12_promised_76 : decode cX12_promised 76 = .ok (.iload 4, 2) := by decide +kernel
theorem dX12_promised_78 : decode cX12_promised 78 = .ok (.i2l, 1) := by decide +kernel
theorem dX12_promised_79 : decode cX12_promised 79 = .ok (.iload 4, 2) := by decide +kernel
theorem dX12_promised_81 : decode cX12_promised 81 = .ok (.aload_n 0, 1) := by decide +kernel
theorem dX12_promised_82 : decode cX12_promised 82 = .ok (.iload_n 3, 1) := by decide +kernel
theorem dX12_promised_83 : decode cX12_promised 83 = .ok (.bipush 16, 2) := by decide +kernel
theorem dX12_promised_85 : decode cX12_promised 85 = .ok (.iload 5, 2) := by decide +kernel
theorem dX12_promised_87 : decode cX12_promised 87 = .ok (.iadd, 1) := by decide +kernel
theorem dX12_promised_88 : decode cX12_promised 88 = .ok (.invokevirtual 83, 3) := by decide +kernel
theorem dX12_promised_91 : decode cX12_promised 91 = .ok (.iadd, 1) := by decide +kernel
theorem dX12_promised_92 : decode cX12_promised 92 = .ok (.iconst 1, 1) := by decide +kernel
theorem dX12_promised_93 : decode cX12_promised 93 = .ok (.isub, 1) := by decide +kernel
theorem dX12_promised_94 : decode cX12_promised 94 = .ok (.i2l, 1) := by decide +kernel
theorem dX12_promised_95 : decode cX12_promised 95 = .ok (.invokestatic 79, 3) := by decide +kernel
theorem dX12_promised_98 : decode cX12_promised 98 = .ok (.ifCond .eq 5, 3) := by decide +kernel
theorem dX12_promised_101 : decode cX12_promised 101 = .ok (.iload_n 3, 1) := by decide +kernel
theorem dX12_promised_102 : decode cX12_promised 102 = .ok (.ireturn, 1) := by decide +kernel
theorem dX12_promised_103 : decode cX12_promised 103 = .ok (.iinc 5 1, 3) := by decide +kernel
theorem dX12_promised_106 : decode cX12_promised 106 = .ok (.goto (-63), 3) := by decide +kernel
theorem dX12_promised_109 : decode cX12_promised 109 = .ok (.iinc 3 1, 3) := by decide +kernel
theorem dX12_promised_112 : decode cX12_promised 112 = .ok (.goto (-91), 3) := by decide +kernel
theorem dX12_promised_115 : decode cX12_promised 115 = .ok (.bipush (-2), 2) := by decide +kernel
theorem dX12_promised_117 : decode cX12_promised 117 = .ok (.ireturn, 1) := by decide +kernel
theorem dX12_thinks_0 : decode cX12_thinks 0 = .ok (.aload_n 0, 1) := by decide +kernel
theorem dX12_thinks_1 : decode cX12_thinks 1 = .ok (.getfield 9, 3) := by decide +kernel
theorem dX12_thinks_4 : decode cX12_thinks 4 = .ok (.aload_n 0, 1) := by decide +kernel
theorem dX12_thinks_5 : decode cX12_thinks 5 = .ok (.getfield 13, 3) := by decide +kernel
theorem dX12_thinks_8 : decode cX12_thinks 8 = .ok (.invokestatic 73, 3) := by decide +kernel
theorem dX12_thinks_11 : decode cX12_thinks 11 = .ok (.aload_n 0, 1) := by decide +kernel
theorem dX12_thinks_12 : decode cX12_thinks 12 = .ok (.getfield 19, 3) := by decide +kernel
theorem dX12_thinks_15 : decode cX12_thinks 15 = .ok (.aload_n 0, 1) := by decide +kernel
theorem dX12_thinks_16 : decode cX12_thinks 16 = .ok (.getfield 23, 3) := by decide +kernel
theorem dX12_thinks_19 : decode cX12_thinks 19 = .ok (.invokestatic 302, 3) := by decide +kernel
theorem dX12_thinks_22 : decode cX12_thinks 22 = .ok (.iconst 0, 1) := by decide +kernel
theorem dX12_thinks_23 : decode cX12_thinks 23 = .ok (.istore_n 1, 1) := by decide +kernel
theorem dX12_thinks_24 : decode cX12_thinks 24 = .ok (.iload_n 1, 1) := by decide +kernel
theorem dX12_thinks_25 : decode cX12_thinks 25 = .ok (.aload_n 0, 1) := by decide +kernel
theorem dX12_thinks_26 : decode cX12_thinks 26 = .ok (.getfield 9, 3) := by decide +kernel
theorem dX12_thinks_29 : decode cX12_thinks 29 = .ok (.iconst 1, 1) := by decide +kernel
theorem dX12_thinks_30 : decode cX12_thinks 30 = .ok (.iaload, 1) := by decide +kernel
theorem dX12_thinks_31 : decode cX12_thinks 31 = .ok (.if_icmp .ge 59, 3) := by decide +kernel
theorem dX12_thinks_34 : decode cX12_thinks 34 = .ok (.aload_n 0, 1) := by decide +kernel
theorem dX12_thinks_35 : decode cX12_thinks 35 = .ok (.iload_n 1, 1) := by decide +kernel
theorem dX12_thinks_36 : decode cX12_thinks 36 = .ok (.iconst 2, 1) := by decide +kernel
theorem dX12_thinks_37 : decode cX12_thinks 37 = .ok (.bipush 100, 2) := by decide +kernel
theorem dX12_thinks_39 : decode cX12_thinks 39 = .ok (.invokevirtual 188, 3) := by decide +kernel
theorem dX12_thinks_42 : decode cX12_thinks 42 = .ok (.iconst 0, 1) := by decide +kernel
theorem dX12_thinks_43 : decode cX12_thinks 43 = .ok (.istore_n 2, 1) := by decide +kernel
theorem dX12_thinks_44 : decode cX12_thinks 44 = .ok (.iload_n 2, 1) := by decide +kernel
theorem dX12_thinks_45 : decode cX12_thinks 45 = .ok (.aload_n 0, 1) := by decide +kernel
theorem dX12_thinks_46 : decode cX12_thinks 46 = .ok (.iload_n 1, 1) := by decide +kernel
theorem dX12_thinks_47 : decode cX12_thinks 47 = .ok (.iconst 4, 1) := by decide +kernel
theorem dX12_thinks_48 : decode cX12_thinks 48 = .ok (.invokevirtual 83, 3) := by decide +kernel
theorem dX12_thinks_51 : decode cX12_thinks 51 = .ok (.if_icmp .ge 33, 3) := by decide +kernel
theorem dX12_thinks_54 : decode cX12_thinks 54 = .ok (.aload_n 0, 1) := by decide +kernel
theorem dX12_thinks_55 : decode cX12_thinks 55 = .ok (.iload_n 1, 1) := by decide +kernel
theorem dX12_thinks_56 : decode cX12_thinks 56 = .ok (.iload_n 2, 1) := by decide +kernel
theorem dX12_thinks_57 : decode cX12_thinks 57 = .ok (.invokevirtual 98, 3) := by decide +kernel
theorem dX12_thinks_60 : decode cX12_thinks 60 = .ok (.ifCond .eq 18, 3) := by decide +kernel
theorem dX12_thinks_63 : decode cX12_thinks 63 = .ok (.aload_n 0, 1) := by decide +kernel
theorem dX12_thinks_64 : decode cX12_thinks 64 = .ok (.iload_n 1, 1) := by decide +kernel
theorem dX12_thinks_65 : decode cX12_thinks 65 = .ok (.bipush 24, 2) := by decide +kernel
theorem dX12_thinks_67 : decode cX12_thinks 67 = .ok (.iload_n 2, 1) := by decide +kernel
theorem dX12_thinks_68 : decode cX12_thinks 68 = .ok (.iadd, 1) := by decide +kernel
theorem dX12_thinks_69 : decode cX12_thinks 69 = .ok (.aload_n 0, 1) := by decide +kernel
theorem dX12_thinks_70 : decode cX12_thinks 70 = .ok (.iload_n 1, 1) := by decide +kernel
theorem dX12_thinks_71 : decode cX12_thinks 71 = .ok (.iload_n 2, 1) := by decide +kernel
theorem dX12_thinks_72 : decode cX12_thinks 72 = .ok (.invokevirtual 102, 3) := by decide +kernel
theorem dX12_thinks_75 : decode cX12_thinks 75 = .ok (.invokevirtual 188, 3) := by decide +kernel
theorem dX12_thinks_78 : decode cX12_thinks 78 = .ok (.iinc 2 1, 3) := by decide +kernel
theorem dX12_thinks_81 : decode cX12_thinks 81 = .ok (.goto (-37), 3) := by decide +kernel
theorem dX12_thinks_84 : decode cX12_thinks 84 = .ok (.iinc 1 1, 3) := by decide +kernel
theorem dX12_thinks_87 : decode cX12_thinks 87 = .ok (.goto (-63), 3) := by decide +kernel
theorem dX12_thinks_90 : decode cX12_thinks 90 = .ok (.return_, 1) := by decide +kernel
theorem dX12_forgets_0 : decode cX12_forgets 0 = .ok (.aload_n 0, 1) := by decide +kernel
theorem dX12_forgets_1 : decode cX12_forgets 1 = .ok (.getfield 13, 3) := by decide +kernel
theorem dX12_forgets_4 : decode cX12_forgets 4 = .ok (.aload_n 0, 1) := by decide +kernel
theorem dX12_forgets_5 : decode cX12_forgets 5 = .ok (.getfield 9, 3) := by decide +kernel
theorem dX12_forgets_8 : decode cX12_forgets 8 = .ok (.invokestatic 73, 3) := by decide +kernel
theorem dX12_forgets_11 : decode cX12_forgets 11 = .ok (.aload_n 0, 1) := by decide +kernel
theorem dX12_forgets_12 : decode cX12_forgets 12 = .ok (.getfield 23, 3) := by decide +kernel
theorem dX12_forgets_15 : decode cX12_forgets 15 = .ok (.aload_n 0, 1) := by decide +kernel
theorem dX12_forgets_16 : decode cX12_forgets 16 = .ok (.getfield 19, 3) := by decide +kernel
theorem dX12_forgets_19 : decode cX12_forgets 19 = .ok (.invokestatic 302, 3) := by decide +kernel
theorem dX12_forgets_22 : decode cX12_forgets 22 = .ok (.return_, 1) := by decide +kernel
theorem dX12_goes_0 : decode cX12_goes 0 = .ok (.iconst 0, 1) := by decide +kernel
theorem dX12_goes_1 : decode cX12_goes 1 = .ok (.istore_n 1, 1) := by decide +kernel
theorem dX12_goes_2 : decode cX12_goes 2 = .ok (.iload_n 1, 1) := by decide +kernel
theorem dX12_goes_3 : decode cX12_goes 3 = .ok (.sipush 300, 3) := by decide +kernel
theorem dX12_goes_6 : decode cX12_goes 6 = .ok (.if_icmp .ge 13, 3) := by decide +kernel
theorem dX12_goes_9 : decode cX12_goes 9 = .ok (.aload_n 0, 1) := by decide +kernel
theorem dX12_goes_10 : decode cX12_goes 10 = .ok (.invokevirtual 296, 3) := by decide +kernel
theorem dX12_goes_13 : decode cX12_goes 13 = .ok (.iinc 1 1, 3) := by decide +kernel
theorem dX12_goes_16 : decode cX12_goes 16 = .ok (.goto (-14), 3) := by decide +kernel
theorem dX12_goes_19 : decode cX12_goes 19 = .ok (.return_, 1) := by decide +kernel
theorem dX12_foretell_0 : decode cX12_foretell 0 = .ok (.aload_n 0, 1) := by decide +kernel
theorem dX12_foretell_1 : decode cX12_foretell 1 = .ok (.iload_n 1, 1) := by decide +kernel
theorem dX12_foretell_2 : decode cX12_foretell 2 = .ok (.invokevirtual 200, 3) := by decide +kernel
theorem dX12_foretell_5 : decode cX12_foretell 5 = .ok (.ifCond .ne 5, 3) := by decide +kernel
theorem dX12_foretell_8 : decode cX12_foretell 8 = .ok (.iconst (-1), 1) := by decide +kernel
theorem dX12_foretell_9 : decode cX12_foretell 9 = .ok (.ireturn, 1) := by decide +kernel
theorem dX12_foretell_10 : decode cX12_foretell 10 = .ok (.aload_n 0, 1) := by decide +kernel
theorem dX12_foretell_11 : decode cX12_foretell 11 = .ok (.iload_n 1, 1) := by decide +kernel
theorem dX12_foretell_12 : decode cX12_foretell 12 = .ok (.invokevirtual 211, 3) := by decide +kernel
theorem dX12_foretell_15 : decode cX12_foretell 15 = .ok (.ifCond .ne 6, 3) := by decide +kernel
theorem dX12_foretell_18 : decode cX12_foretell 18 = .ok (.bipush (-5), 2) := by decide +kernel
theorem dX12_foretell_20 : decode cX12_foretell 20 = .ok (.ireturn, 1) := by decide +kernel
theorem dX12_foretell_21 : decode cX12_foretell 21 = .ok (.aload_n 0, 1) := by decide +kernel
theorem dX12_foretell_22 : decode cX12_foretell 22 = .ok (.invokevirtual 306, 3) := by decide +kernel
theorem dX12_foretell_25 : decode cX12_foretell 25 = .ok (.aload_n 0, 1) := by decide +kernel
theorem dX12_foretell_26 : decode cX12_foretell 26 = .ok (.invokevirtual 309, 3) := by decide +kernel
theorem dX12_foretell_29 : decode cX12_foretell 29 = .ok (.aload_n 0, 1) := by decide +kernel
theorem dX12_foretell_30 : decode cX12_foretell 30 = .ok (.iload_n 1, 1) := by decide +kernel
theorem dX12_foretell_31 : decode cX12_foretell 31 = .ok (.bipush 6, 2) := by decide +kernel
theorem dX12_foretell_33 : decode cX12_foretell 33 = .ok (.invokevirtual 83, 3) := by decide +kernel
theorem dX12_foretell_36 : decode cX12_foretell 36 = .ok (.istore_n 2, 1) := by decide +kernel
theorem dX12_foretell_37 : decode cX12_foretell 37 = .ok (.aload_n 0, 1) := by decide +kernel
theorem dX12_foretell_38 : decode cX12_foretell 38 = .ok (.invokevirtual 312, 3) := by decide +kernel
theorem dX12_foretell_41 : decode cX12_foretell 41 = .ok (.iload_n 2, 1) := by decide +kernel
theorem dX12_foretell_42 : decode cX12_foretell 42 = .ok (.invokestatic 217, 3) := by decide +kernel
theorem dX12_foretell_45 : decode cX12_foretell 45 = .ok (.ireturn, 1) := by decide +kernel
theorem dX12_plan_0 : decode cX12_plan 0 = .ok (.iload_n 1, 1) := by decide +kernel
theorem dX12_plan_1 : decode cX12_plan 1 = .ok (.iconst (-1), 1) := by decide +kernel
theorem dX12_plan_2 : decode cX12_plan 2 = .ok (.if_icmp .ge 5, 3) := by decide +kernel
theorem dX12_plan_5 : decode cX12_plan 5 = .ok (.iconst (-1), 1) := by decide +kernel
theorem dX12_plan_6 : decode cX12_plan 6 = .ok (.ireturn, 1) := by decide +kernel
theorem dX12_plan_7 : decode cX12_plan 7 = .ok (.aload_n 0, 1) := by decide +kernel
theorem dX12_plan_8 : decode cX12_plan 8 = .ok (.getfield 9, 3) := by decide +kernel
theorem dX12_plan_11 : decode cX12_plan 11 = .ok (.bipush 6, 2) := by decide +kernel
theorem dX12_plan_13 : decode cX12_plan 13 = .ok (.iaload, 1) := by decide +kernel
theorem dX12_plan_14 : decode cX12_plan 14 = .ok (.istore_n 2, 1) := by decide +kernel
theorem dX12_plan_15 : decode cX12_plan 15 = .ok (.aload_n 0, 1) := by decide +kernel
theorem dX12_plan_16 : decode cX12_plan 16 = .ok (.invokevirtual 306, 3) := by decide +kernel
theorem dX12_plan_19 : decode cX12_plan 19 = .ok (.aload_n 0, 1) := by decide +kernel
theorem dX12_plan_20 : decode cX12_plan 20 = .ok (.invokevirtual 309, 3) := by decide +kernel
theorem dX12_plan_23 : decode cX12_plan 23 = .ok (.aload_n 0, 1) := by decide +kernel
theorem dX12_plan_24 : decode cX12_plan 24 = .ok (.getfield 9, 3) := by decide +kernel
theorem dX12_plan_27 : decode cX12_plan 27 = .ok (.bipush 6, 2) := by decide +kernel
theorem dX12_plan_29 : decode cX12_plan 29 = .ok (.iaload, 1) := by decide +kernel
theorem dX12_plan_30 : decode cX12_plan 30 = .ok (.iload_n 2, 1) := by decide +kernel
theorem dX12_plan_31 : decode cX12_plan 31 = .ok (.isub, 1) := by decide +kernel
theorem dX12_plan_32 : decode cX12_plan 32 = .ok (.istore_n 3, 1) := by decide +kernel
theorem dX12_plan_33 : decode cX12_plan 33 = .ok (.iload_n 1, 1) := by decide +kernel
theorem dX12_plan_34 : decode cX12_plan 34 = .ok (.ifCond .ge 7, 3) := by decide +kernel
theorem dX12_plan_37 : decode cX12_plan 37 = .ok (.iload_n 3, 1) := by decide +kernel
theorem dX12_plan_38 : decode cX12_plan 38 = .ok (.goto 25, 3) := by decide +kernel
theorem dX12_plan_41 : decode cX12_plan 41 = .ok (.iload_n 1, 1) := by decide +kernel
theorem dX12_plan_42 : decode cX12_plan 42 = .ok (.iload_n 3, 1) := by decide +kernel
theorem dX12_plan_43 : decode cX12_plan 43 = .ok (.if_icmp .ge 18, 3) := by decide +kernel
theorem dX12_plan_46 : decode cX12_plan 46 = .ok (.aload_n 0, 1) := by decide +kernel
theorem dX12_plan_47 : decode cX12_plan 47 = .ok (.getfield 9, 3) := by decide +kernel
theorem dX12_plan_50 : decode cX12_plan 50 = .ok (.sipush 2656, 3) := by decide +kernel
theorem dX12_plan_53 : decode cX12_plan 53 = .ok (.iload_n 2, 1) := by decide +kernel
theorem dX12_plan_54 : decode cX12_plan 54 = .ok (.iadd, 1) := by decide +kernel
theorem dX12_plan_55 : decode cX12_plan 55 = .ok (.iload_n 1, 1) := by decide +kernel
theorem dX12_plan_56 : decode cX12_plan 56 = .ok (.iadd, 1) := by decide +kernel
theorem dX12_plan_57 : decode cX12_plan 57 = .ok (.iaload, 1) := by decide +kernel
theorem dX12_plan_58 : decode cX12_plan 58 = .ok (.goto 5, 3) := by decide +kernel
theorem dX12_plan_61 : decode cX12_plan 61 = .ok (.bipush (-2), 2) := by decide +kernel
theorem dX12_plan_63 : decode cX12_plan 63 = .ok (.istore 4, 2) := by decide +kernel
theorem dX12_plan_65 : decode cX12_plan 65 = .ok (.aload_n 0, 1) := by decide +kernel
theorem dX12_plan_66 : decode cX12_plan 66 = .ok (.invokevirtual 312, 3) := by decide +kernel
theorem dX12_plan_69 : decode cX12_plan 69 = .ok (.iload 4, 2) := by decide +kernel
theorem dX12_plan_71 : decode cX12_plan 71 = .ok (.ireturn, 1) := by decide +kernel
theorem dX12_byRule_0 : decode cX12_byRule 0 = .ok (.iload_n 1, 1) := by decide +kernel
theorem dX12_byRule_1 : decode cX12_byRule 1 = .ok (.iload_n 2, 1) := by decide +kernel
theorem dX12_byRule_2 : decode cX12_byRule 2 = .ok (.invokestatic 159, 3) := by decide +kernel
theorem dX12_byRule_5 : decode cX12_byRule 5 = .ok (.ifCond .eq 15, 3) := by decide +kernel
theorem dX12_byRule_8 : decode cX12_byRule 8 = .ok (.iload_n 3, 1) := by decide +kernel
theorem dX12_byRule_9 : decode cX12_byRule 9 = .ok (.i2l, 1) := by decide +kernel
theorem dX12_byRule_10 : decode cX12_byRule 10 = .ok (.lconst 0, 1) := by decide +kernel
theorem dX12_byRule_11 : decode cX12_byRule 11 = .ok (.ldc2_w 293, 3) := by decide +kernel
theorem dX12_byRule_14 : decode cX12_byRule 14 = .ok (.invokestatic 79, 3) := by decide +kernel
theorem dX12_byRule_17 : decode cX12_byRule 17 = .ok (.ifCond .ne 5, 3) := by decide +kernel
theorem dX12_byRule_20 : decode cX12_byRule 20 = .ok (.iconst (-1), 1) := by decide +kernel
theorem dX12_byRule_21 : decode cX12_byRule 21 = .ok (.ireturn, 1) := by decide +kernel
theorem dX12_byRule_22 : decode cX12_byRule 22 = .ok (.aload_n 0, 1) := by decide +kernel
theorem dX12_byRule_23 : decode cX12_byRule 23 = .ok (.getfield 9, 3) := by decide +kernel
theorem dX12_byRule_26 : decode cX12_byRule 26 = .ok (.bipush 6, 2) := by decide +kernel
theorem dX12_byRule_28 : decode cX12_byRule 28 = .ok (.iaload, 1) := by decide +kernel
theorem dX12_byRule_29 : decode cX12_byRule 29 = .ok (.istore 4, 2) := by decide +kernel
theorem dX12_byRule_31 : decode cX12_byRule 31 = .ok (.aload_n 0, 1) := by decide +kernel
theorem dX12_byRule_32 : decode cX12_byRule 32 = .ok (.getfield 9, 3) := by decide +kernel
theorem dX12_byRule_35 : decode cX12_byRule 35 = .ok (.iconst 0, 1) := by decide +kernel
theorem dX12_byRule_36 : decode cX12_byRule 36 = .ok (.iaload, 1) := by decide +kernel
theorem dX12_byRule_37 : decode cX12_byRule 37 = .ok (.istore 5, 2) := by decide +kernel
theorem dX12_byRule_39 : decode cX12_byRule 39 = .ok (.aload_n 0, 1) := by decide +kernel
theorem dX12_byRule_40 : decode cX12_byRule 40 = .ok (.invokevirtual 306, 3) := by decide +kernel
theorem dX12_byRule_43 : decode cX12_byRule 43 = .ok (.aload_n 0, 1) := by decide +kernel
theorem dX12_byRule_44 : decode cX12_byRule 44 = .ok (.getfield 9, 3) := by decide +kernel
theorem dX12_byRule_47 : decode cX12_byRule 47 = .ok (.iconst 2, 1) := by decide +kernel
theorem dX12_byRule_48 : decode cX12_byRule 48 = .ok (.iload_n 1, 1) := by decide +kernel
theorem dX12_byRule_49 : decode cX12_byRule 49 = .ok (.iadd, 1) := by decide +kernel
theorem dX12_byRule_50 : decode cX12_byRule 50 = .ok (.iload_n 2, 1) := by decide +kernel
theorem dX12_byRule_51 : decode cX12_byRule 51 = .ok (.iastore, 1) := by decide +kernel
theorem dX12_byRule_52 : decode cX12_byRule 52 = .ok (.aload_n 0, 1) := by decide +kernel
theorem dX12_byRule_53 : decode cX12_byRule 53 = .ok (.invokevirtual 309, 3) := by decide +kernel
theorem dX12_byRule_56 : decode cX12_byRule 56 = .ok (.aload_n 0, 1) := by decide +kernel
theorem dX12_byRule_57 : decode cX12_byRule 57 = .ok (.getfield 9, 3) := by decide +kernel
theorem dX12_byRule_60 : decode cX12_byRule 60 = .ok (.bipush 6, 2) := by decide +kernel
theorem dX12_byRule_62 : decode cX12_byRule 62 = .ok (.iaload, 1) := by decide +kernel
theorem dX12_byRule_63 : decode cX12_byRule 63 = .ok (.iload 4, 2) := by decide +kernel
theorem dX12_byRule_65 : decode cX12_byRule 65 = .ok (.isub, 1) := by decide +kernel
theorem dX12_byRule_66 : decode cX12_byRule 66 = .ok (.istore 6, 2) := by decide +kernel
theorem dX12_byRule_68 : decode cX12_byRule 68 = .ok (.iconst 0, 1) := by decide +kernel
theorem dX12_byRule_69 : decode cX12_byRule 69 = .ok (.istore 7, 2) := by decide +kernel
theorem dX12_byRule_71 : decode cX12_byRule 71 = .ok (.bipush (-2), 2) := by decide +kernel
theorem dX12_byRule_73 : decode cX12_byRule 73 = .ok (.istore 8, 2) := by decide +kernel
theorem dX12_byRule_75 : decode cX12_byRule 75 = .ok (.iconst 0, 1) := by decide +kernel
theorem dX12_byRule_76 : decode cX12_byRule 76 = .ok (.istore 9, 2) := by decide +kernel
theorem dX12_byRule_78 : decode cX12_byRule 78 = .ok (.iload 9, 2) := by decide +kernel
theorem dX12_byRule_80 : decode cX12_byRule 80 = .ok (.iload 6, 2) := by decide +kernel
theorem dX12_byRule_82 : decode cX12_byRule 82 = .ok (.if_icmp .ge 50, 3) := by decide +kernel
theorem dX12_byRule_85 : decode cX12_byRule 85 = .ok (.aload_n 0, 1) := by decide +kernel
theorem dX12_byRule_86 : decode cX12_byRule 86 = .ok (.aload_n 0, 1) := by decide +kernel
theorem dX12_byRule_87 : decode cX12_byRule 87 = .ok (.getfield 9, 3) := by decide +kernel
theorem dX12_byRule_90 : decode cX12_byRule 90 = .ok (.sipush 2656, 3) := by decide +kernel
theorem dX12_byRule_93 : decode cX12_byRule 93 = .ok (.iload 4, 2) := by decide +kernel
theorem dX12_byRule_95 : decode cX12_byRule 95 = .ok (.iadd, 1) := by decide +kernel
theorem dX12_byRule_96 : decode cX12_byRule 96 = .ok (.iload 9, 2) := by decide +kernel
theorem dX12_byRule_98 : decode cX12_byRule 98 = .ok (.iadd, 1) := by decide +kernel
theorem dX12_byRule_99 : decode cX12_byRule 99 = .ok (.iaload, 1) := by decide +kernel
theorem dX12_byRule_100 : decode cX12_byRule 100 = .ok (.bipush 6, 2) := by decide +kernel
theorem dX12_byRule_102 : decode cX12_byRule 102 = .ok (.invokevirtual 83, 3) := by decide +kernel
theorem dX12_byRule_105 : decode cX12_byRule 105 = .ok (.iload 5, 2) := by decide +kernel
theorem dX12_byRule_107 : decode cX12_byRule 107 = .ok (.isub, 1) := by decide +kernel
theorem dX12_byRule_108 : decode cX12_byRule 108 = .ok (.istore 10, 2) := by decide +kernel
theorem dX12_byRule_110 : decode cX12_byRule 110 = .ok (.iload 7, 2) := by decide +kernel
theorem dX12_byRule_112 : decode cX12_byRule 112 = .ok (.iload 10, 2) := by decide +kernel
theorem dX12_byRule_114 : decode cX12_byRule 114 = .ok (.iadd, 1) := by decide +kernel
theorem dX12_byRule_115 : decode cX12_byRule 115 = .ok (.istore 7, 2) := by decide +kernel
theorem dX12_byRule_117 : decode cX12_byRule 117 = .ok (.iload 8, 2) := by decide +kernel
theorem dX12_byRule_119 : decode cX12_byRule 119 = .ok (.iload 10, 2) := by decide +kernel
theorem dX12_byRule_121 : decode cX12_byRule 121 = .ok (.invokestatic 87, 3) := by decide +kernel
theorem dX12_byRule_124 : decode cX12_byRule 124 = .ok (.istore 8, 2) := by decide +kernel
theorem dX12_byRule_126 : decode cX12_byRule 126 = .ok (.iinc 9 1, 3) := by decide +kernel
theorem dX12_byRule_129 : decode cX12_byRule 129 = .ok (.goto (-51), 3) := by decide +kernel
theorem dX12_byRule_132 : decode cX12_byRule 132 = .ok (.aload_n 0, 1) := by decide +kernel
theorem dX12_byRule_133 : decode cX12_byRule 133 = .ok (.invokevirtual 312, 3) := by decide +kernel
theorem dX12_byRule_136 : decode cX12_byRule 136 = .ok (.iload_n 3, 1) := by decide +kernel
theorem dX12_byRule_137 : decode cX12_byRule 137 = .ok (.ifCond .ne 8, 3) := by decide +kernel
theorem dX12_byRule_140 : decode cX12_byRule 140 = .ok (.iload 6, 2) := by decide +kernel
theorem dX12_byRule_142 : decode cX12_byRule 142 = .ok (.goto 15, 3) := by decide +kernel
theorem dX12_byRule_145 : decode cX12_byRule 145 = .ok (.iload_n 3, 1) := by decide +kernel
theorem dX12_byRule_146 : decode cX12_byRule 146 = .ok (.iconst 1, 1) := by decide +kernel
theorem dX12_byRule_147 : decode cX12_byRule 147 = .ok (.if_icmp .ne 8, 3) := by decide +kernel
theorem dX12_byRule_150 : decode cX12_byRule 150 = .ok (.iload 7, 2) := by decide +kernel
theorem dX12_byRule_152 : decode cX12_byRule 152 = .ok (.goto 5, 3) := by decide +kernel
theorem dX12_byRule_155 : decode cX12_byRule 155 = .ok (.iload 8, 2) := by decide +kernel
theorem dX12_byRule_157 : decode cX12_byRule 157 = .ok (.ireturn, 1) := by decide +kernel
theorem dX12_notWaiting_0 : decode cX12_notWaiting 0 = .ok (.aload_n 0, 1) := by decide +kernel
theorem dX12_notWaiting_1 : decode cX12_notWaiting 1 = .ok (.iload_n 1, 1) := by decide +kernel
theorem dX12_notWaiting_2 : decode cX12_notWaiting 2 = .ok (.invokevirtual 200, 3) := by decide +kernel
theorem dX12_notWaiting_5 : decode cX12_notWaiting 5 = .ok (.ifCond .ne 7, 3) := by decide +kernel
theorem dX12_notWaiting_8 : decode cX12_notWaiting 8 = .ok (.iconst (-1), 1) := by decide +kernel
theorem dX12_notWaiting_9 : decode cX12_notWaiting 9 = .ok (.goto 17, 3) := by decide +kernel
theorem dX12_notWaiting_12 : decode cX12_notWaiting 12 = .ok (.aload_n 0, 1) := by decide +kernel
theorem dX12_notWaiting_13 : decode cX12_notWaiting 13 = .ok (.iload_n 1, 1) := by decide +kernel
theorem dX12_notWaiting_14 : decode cX12_notWaiting 14 = .ok (.invokevirtual 211, 3) := by decide +kernel
theorem dX12_notWaiting_17 : decode cX12_notWaiting 17 = .ok (.ifCond .eq 7, 3) := by decide +kernel
theorem dX12_notWaiting_20 : decode cX12_notWaiting 20 = .ok (.iconst 0, 1) := by decide +kernel
theorem dX12_notWaiting_21 : decode cX12_notWaiting 21 = .ok (.goto 5, 3) := by decide +kernel
theorem dX12_notWaiting_24 : decode cX12_notWaiting 24 = .ok (.bipush (-5), 2) := by decide +kernel
theorem dX12_notWaiting_26 : decode cX12_notWaiting 26 = .ok (.ireturn, 1) := by decide +kernel
theorem dX12_shrunk_0 : decode cX12_shrunk 0 = .ok (.aload_n 0, 1) := by decide +kernel
theorem dX12_shrunk_1 : decode cX12_shrunk 1 = .ok (.iload_n 1, 1) := by decide +kernel
theorem dX12_shrunk_2 : decode cX12_shrunk 2 = .ok (.invokevirtual 315, 3) := by decide +kernel
theorem dX12_shrunk_5 : decode cX12_shrunk 5 = .ok (.ifCond .ge 9, 3) := by decide +kernel
theorem dX12_shrunk_8 : decode cX12_shrunk 8 = .ok (.aload_n 0, 1) := by decide +kernel
theorem dX12_shrunk_9 : decode cX12_shrunk 9 = .ok (.iload_n 1, 1) := by decide +kernel
theorem dX12_shrunk_10 : decode cX12_shrunk 10 = .ok (.invokevirtual 315, 3) := by decide +kernel
theorem dX12_shrunk_13 : decode cX12_shrunk 13 = .ok (.ireturn, 1) := by decide +kernel
theorem dX12_shrunk_14 : decode cX12_shrunk 14 = .ok (.aload_n 0, 1) := by decide +kernel
theorem dX12_shrunk_15 : decode cX12_shrunk 15 = .ok (.iload_n 1, 1) := by decide +kernel
theorem dX12_shrunk_16 : decode cX12_shrunk 16 = .ok (.putfield 42, 3) := by decide +kernel
theorem dX12_shrunk_19 : decode cX12_shrunk 19 = .ok (.bipush (-2), 2) := by decide +kernel
theorem dX12_shrunk_21 : decode cX12_shrunk 21 = .ok (.istore_n 2, 1) := by decide +kernel
theorem dX12_shrunk_22 : decode cX12_shrunk 22 = .ok (.bipush 100, 2) := by decide +kernel
theorem dX12_shrunk_24 : decode cX12_shrunk 24 = .ok (.istore_n 3, 1) := by decide +kernel
theorem dX12_shrunk_25 : decode cX12_shrunk 25 = .ok (.iload_n 3, 1) := by decide +kernel
theorem dX12_shrunk_26 : decode cX12_shrunk 26 = .ok (.iconst 1, 1) := by decide +kernel
theorem dX12_shrunk_27 : decode cX12_shrunk 27 = .ok (.if_icmp .lt 79, 3) := by decide +kernel
theorem dX12_shrunk_30 : decode cX12_shrunk 30 = .ok (.iload_n 2, 1) := by decide +kernel
theorem dX12_shrunk_31 : decode cX12_shrunk 31 = .ok (.ifCond .ge 75, 3) := by decide +kernel
theorem dX12_shrunk_34 : decode cX12_shrunk 34 = .ok (.aload_n 0, 1) := by decide +kernel
theorem dX12_shrunk_35 : decode cX12_shrunk 35 = .ok (.iload_n 1, 1) := by decide +kernel
theorem dX12_shrunk_36 : decode cX12_shrunk 36 = .ok (.invokevirtual 275, 3) := by decide +kernel
theorem dX12_shrunk_39 : decode cX12_shrunk 39 = .ok (.iconst 0, 1) := by decide +kernel
theorem dX12_shrunk_40 : decode cX12_shrunk 40 = .ok (.istore 4, 2) := by decide +kernel
theorem dX12_shrunk_42 : decode cX12_shrunk 42 = .ok (.iload 4, 2) := by decide +kernel
theorem dX12_shrunk_44 : decode cX12_shrunk 44 = .ok (.aload_n 0, 1) := by decide +kernel
theorem dX12_shrunk_45 : decode cX12_shrunk 45 = .ok (.getfield 122, 3) := by decide +kernel
theorem dX12_shrunk_48 : decode cX12_shrunk 48 = .ok (.if_icmp .ge 32, 3) := by decide +kernel
theorem dX12_shrunk_51 : decode cX12_shrunk 51 = .ok (.aload_n 0, 1) := by decide +kernel
theorem dX12_shrunk_52 : decode cX12_shrunk 52 = .ok (.getfield 36, 3) := by decide +kernel
theorem dX12_shrunk_55 : decode cX12_shrunk 55 = .ok (.iload 4, 2) := by decide +kernel
theorem dX12_shrunk_57 : decode cX12_shrunk 57 = .ok (.iconst 1, 1) := by decide +kernel
theorem dX12_shrunk_58 : decode cX12_shrunk 58 = .ok (.aload_n 0, 1) := by decide +kernel
theorem dX12_shrunk_59 : decode cX12_shrunk 59 = .ok (.getfield 36, 3) := by decide +kernel
theorem dX12_shrunk_62 : decode cX12_shrunk 62 = .ok (.iload 4, 2) := by decide +kernel
theorem dX12_shrunk_64 : decode cX12_shrunk 64 = .ok (.iaload, 1) := by decide +kernel
theorem dX12_shrunk_65 : decode cX12_shrunk 65 = .ok (.iload_n 3, 1) := by decide +kernel
theorem dX12_shrunk_66 : decode cX12_shrunk 66 = .ok (.imul, 1) := by decide +kernel
theorem dX12_shrunk_67 : decode cX12_shrunk 67 = .ok (.bipush 100, 2) := by decide +kernel
theorem dX12_shrunk_69 : decode cX12_shrunk 69 = .ok (.idiv, 1) := by decide +kernel
theorem dX12_shrunk_70 : decode cX12_shrunk 70 = .ok (.invokestatic 87, 3) := by decide +kernel
theorem dX12_shrunk_73 : decode cX12_shrunk 73 = .ok (.iastore, 1) := by decide +kernel
theorem dX12_shrunk_74 : decode cX12_shrunk 74 = .ok (.iinc 4 1, 3) := by decide +kernel
theorem dX12_shrunk_77 : decode cX12_shrunk 77 = .ok (.goto (-35), 3) := by decide +kernel
theorem dX12_shrunk_80 : decode cX12_shrunk 80 = .ok (.aload_n 0, 1) := by decide +kernel
theorem dX12_shrunk_81 : decode cX12_shrunk 81 = .ok (.aload_n 0, 1) := by decide +kernel
theorem dX12_shrunk_82 : decode cX12_shrunk 82 = .ok (.getfield 9, 3) := by decide +kernel
theorem dX12_shrunk_85 : decode cX12_shrunk 85 = .ok (.iconst 0, 1) := by decide +kernel
theorem dX12_shrunk_86 : decode cX12_shrunk 86 = .ok (.iaload, 1) := by decide +kernel
theorem dX12_shrunk_87 : decode cX12_shrunk 87 = .ok (.invokevirtual 139, 3) := by decide +kernel
theorem dX12_shrunk_90 : decode cX12_shrunk 90 = .ok (.ifCond .eq 7, 3) := by decide +kernel
theorem dX12_shrunk_93 : decode cX12_shrunk 93 = .ok (.iload_n 3, 1) := by decide +kernel
theorem dX12_shrunk_94 : decode cX12_shrunk 94 = .ok (.goto 5, 3) := by decide +kernel
theorem dX12_shrunk_97 : decode cX12_shrunk 97 = .ok (.bipush (-2), 2) := by decide +kernel
theorem dX12_shrunk_99 : decode cX12_shrunk 99 = .ok (.istore_n 2, 1) := by decide +kernel
theorem dX12_shrunk_100 : decode cX12_shrunk 100 = .ok (.iinc 3 (-1), 3) := by decide +kernel
theorem dX12_shrunk_103 : decode cX12_shrunk 103 = .ok (.goto (-78), 3) := by decide +kernel
theorem dX12_shrunk_106 : decode cX12_shrunk 106 = .ok (.aload_n 0, 1) := by decide +kernel
theorem dX12_shrunk_107 : decode cX12_shrunk 107 = .ok (.iconst (-1), 1) := by decide +kernel
theorem dX12_shrunk_108 : decode cX12_shrunk 108 = .ok (.putfield 42, 3) := by decide +kernel
theorem dX12_shrunk_111 : decode cX12_shrunk 111 = .ok (.iload_n 2, 1) := by decide +kernel
theorem dX12_shrunk_112 : decode cX12_shrunk 112 = .ok (.ireturn, 1) := by decide +kernel
theorem dX12_elsewhere_0 : decode cX12_elsewhere 0 = .ok (.iload_n 1, 1) := by decide +kernel
theorem dX12_elsewhere_1 : decode cX12_elsewhere 1 = .ok (.iconst 4, 1) := by decide +kernel
theorem dX12_elsewhere_2 : decode cX12_elsewhere 2 = .ok (.idiv, 1) := by decide +kernel
theorem dX12_elsewhere_3 : decode cX12_elsewhere 3 = .ok (.istore_n 3, 1) := by decide +kernel
theorem dX12_elsewhere_4 : decode cX12_elsewhere 4 = .ok (.iload_n 1, 1) := by decide +kernel
theorem dX12_elsewhere_5 : decode cX12_elsewhere 5 = .ok (.iconst 4, 1) := by decide +kernel
theorem dX12_elsewhere_6 : decode cX12_elsewhere 6 = .ok (.irem, 1) := by decide +kernel
theorem dX12_elsewhere_7 : decode cX12_elsewhere 7 = .ok (.istore 4, 2) := by decide +kernel
theorem dX12_elsewhere_9 : decode cX12_elsewhere 9 = .ok (.aload_n 0, 1) := by decide +kernel
theorem dX12_elsewhere_10 : decode cX12_elsewhere 10 = .ok (.aload_n 0, 1) := by decide +kernel
theorem dX12_elsewhere_11 : decode cX12_elsewhere 11 = .ok (.getfield 9, 3) := by decide +kernel
theorem dX12_elsewhere_14 : decode cX12_elsewhere 14 = .ok (.iconst 0, 1) := by decide +kernel
theorem dX12_elsewhere_15 : decode cX12_elsewhere 15 = .ok (.iaload, 1) := by decide +kernel
theorem dX12_elsewhere_16 : decode cX12_elsewhere 16 = .ok (.i2l, 1) := by decide +kernel
theorem dX12_elsewhere_17 : decode cX12_elsewhere 17 = .ok (.aload_n 0, 1) := by decide +kernel
theorem dX12_elsewhere_18 : decode cX12_elsewhere 18 = .ok (.iload_n 3, 1) := by decide +kernel
theorem dX12_elsewhere_19 : decode cX12_elsewhere 19 = .ok (.iload 4, 2) := by decide +kernel
theorem dX12_elsewhere_21 : decode cX12_elsewhere 21 = .ok (.invokevirtual 102, 3) := by decide +kernel
theorem dX12_elsewhere_24 : decode cX12_elsewhere 24 = .ok (.i2l, 1) := by decide +kernel
theorem dX12_elsewhere_25 : decode cX12_elsewhere 25 = .ok (.aload_n 0, 1) := by decide +kernel
theorem dX12_elsewhere_26 : decode cX12_elsewhere 26 = .ok (.iload_n 3, 1) := by decide +kernel
theorem dX12_elsewhere_27 : decode cX12_elsewhere 27 = .ok (.iconst 0, 1) := by decide +kernel
theorem dX12_elsewhere_28 : decode cX12_elsewhere 28 = .ok (.invokevirtual 83, 3) := by decide +kernel
theorem dX12_elsewhere_31 : decode cX12_elsewhere 31 = .ok (.invokevirtual 128, 3) := by decide +kernel
theorem dX12_elsewhere_34 : decode cX12_elsewhere 34 = .ok (.iload_n 2, 1) := by decide +kernel
theorem dX12_elsewhere_35 : decode cX12_elsewhere 35 = .ok (.ior, 1) := by decide +kernel
theorem dX12_elsewhere_36 : decode cX12_elsewhere 36 = .ok (.aload_n 0, 1) := by decide +kernel
theorem dX12_elsewhere_37 : decode cX12_elsewhere 37 = .ok (.iload_n 3, 1) := by decide +kernel
theorem dX12_elsewhere_38 : decode cX12_elsewhere 38 = .ok (.bipush 12, 2) := by decide +kernel
theorem dX12_elsewhere_40 : decode cX12_elsewhere 40 = .ok (.iload 4, 2) := by decide +kernel
theorem dX12_elsewhere_42 : decode cX12_elsewhere 42 = .ok (.iadd, 1) := by decide +kernel
theorem dX12_elsewhere_43 : decode cX12_elsewhere 43 = .ok (.invokevirtual 83, 3) := by decide +kernel
theorem dX12_elsewhere_46 : decode cX12_elsewhere 46 = .ok (.invokestatic 132, 3) := by decide +kernel
theorem dX12_elsewhere_49 : decode cX12_elsewhere 49 = .ok (.istore 5, 2) := by decide +kernel
theorem dX12_elsewhere_51 : decode cX12_elsewhere 51 = .ok (.iload 5, 2) := by decide +kernel
theorem dX12_elsewhere_53 : decode cX12_elsewhere 53 = .ok (.ifCond .ge 7, 3) := by decide +kernel
theorem dX12_elsewhere_56 : decode cX12_elsewhere 56 = .ok (.iconst 0, 1) := by decide +kernel
theorem dX12_elsewhere_57 : decode cX12_elsewhere 57 = .ok (.goto 18, 3) := by decide +kernel
theorem dX12_elsewhere_60 : decode cX12_elsewhere 60 = .ok (.iload 5, 2) := by decide +kernel
theorem dX12_elsewhere_62 : decode cX12_elsewhere 62 = .ok (.aload_n 0, 1) := by decide +kernel
theorem dX12_elsewhere_63 : decode cX12_elsewhere 63 = .ok (.iload_n 3, 1) := by decide +kernel
theorem dX12_elsewhere_64 : decode cX12_elsewhere 64 = .ok (.bipush 12, 2) := by decide +kernel
theorem dX12_elsewhere_66 : decode cX12_elsewhere 66 = .ok (.iload 4, 2) := by decide +kernel
theorem dX12_elsewhere_68 : decode cX12_elsewhere 68 = .ok (.iadd, 1) := by decide +kernel
theorem dX12_elsewhere_69 : decode cX12_elsewhere 69 = .ok (.invokevirtual 83, 3) := by decide +kernel
theorem dX12_elsewhere_72 : decode cX12_elsewhere 72 = .ok (.invokestatic 92, 3) := by decide +kernel
theorem dX12_elsewhere_75 : decode cX12_elsewhere 75 = .ok (.ireturn, 1) := by decide +kernel
theorem dX12_moved_0 : decode cX12_moved 0 = .ok (.aload_n 0, 1) := by decide +kernel
theorem dX12_moved_1 : decode cX12_moved 1 = .ok (.aload_n 0, 1) := by decide +kernel
theorem dX12_moved_2 : decode cX12_moved 2 = .ok (.getfield 9, 3) := by decide +kernel
theorem dX12_moved_5 : decode cX12_moved 5 = .ok (.iconst 0, 1) := by decide +kernel
theorem dX12_moved_6 : decode cX12_moved 6 = .ok (.iaload, 1) := by decide +kernel
theorem dX12_moved_7 : decode cX12_moved 7 = .ok (.invokevirtual 139, 3) := by decide +kernel
theorem dX12_moved_10 : decode cX12_moved 10 = .ok (.ifCond .ne 5, 3) := by decide +kernel
theorem dX12_moved_13 : decode cX12_moved 13 = .ok (.iconst 0, 1) := by decide +kernel
theorem dX12_moved_14 : decode cX12_moved 14 = .ok (.ireturn, 1) := by decide +kernel
theorem dX12_moved_15 : decode cX12_moved 15 = .ok (.aload_n 0, 1) := by decide +kernel
theorem dX12_moved_16 : decode cX12_moved 16 = .ok (.invokevirtual 318, 3) := by decide +kernel
theorem dX12_moved_19 : decode cX12_moved 19 = .ok (.istore_n 1, 1) := by decide +kernel
theorem dX12_moved_20 : decode cX12_moved 20 = .ok (.aload_n 0, 1) := by decide +kernel
theorem dX12_moved_21 : decode cX12_moved 21 = .ok (.getfield 49, 3) := by decide +kernel
theorem dX12_moved_24 : decode cX12_moved 24 = .ok (.ifCond .ge 5, 3) := by decide +kernel
theorem dX12_moved_27 : decode cX12_moved 27 = .ok (.iconst 1, 1) := by decide +kernel
theorem dX12_moved_28 : decode cX12_moved 28 = .ok (.ireturn, 1) := by decide +kernel
theorem dX12_moved_29 : decode cX12_moved 29 = .ok (.aload_n 0, 1) := by decide +kernel
theorem dX12_moved_30 : decode cX12_moved 30 = .ok (.getfield 52, 3) := by decide +kernel
theorem dX12_moved_33 : decode cX12_moved 33 = .ok (.ifCond .lt 48, 3) := by decide +kernel
theorem dX12_moved_36 : decode cX12_moved 36 = .ok (.aload_n 0, 1) := by decide +kernel
theorem dX12_moved_37 : decode cX12_moved 37 = .ok (.aload_n 0, 1) := by decide +kernel
theorem dX12_moved_38 : decode cX12_moved 38 = .ok (.getfield 52, 3) := by decide +kernel
theorem dX12_moved_41 : decode cX12_moved 41 = .ok (.iconst 4, 1) := by decide +kernel
theorem dX12_moved_42 : decode cX12_moved 42 = .ok (.idiv, 1) := by decide +kernel
theorem dX12_moved_43 : decode cX12_moved 43 = .ok (.bipush 12, 2) := by decide +kernel
theorem dX12_moved_45 : decode cX12_moved 45 = .ok (.aload_n 0, 1) := by decide +kernel
theorem dX12_moved_46 : decode cX12_moved 46 = .ok (.getfield 52, 3) := by decide +kernel
theorem dX12_moved_49 : decode cX12_moved 49 = .ok (.iconst 4, 1) := by decide +kernel
theorem dX12_moved_50 : decode cX12_moved 50 = .ok (.irem, 1) := by decide +kernel
theorem dX12_moved_51 : decode cX12_moved 51 = .ok (.iadd, 1) := by decide +kernel
theorem dX12_moved_52 : decode cX12_moved 52 = .ok (.invokevirtual 83, 3) := by decide +kernel
theorem dX12_moved_55 : decode cX12_moved 55 = .ok (.aload_n 0, 1) := by decide +kernel
theorem dX12_moved_56 : decode cX12_moved 56 = .ok (.aload_n 0, 1) := by decide +kernel
theorem dX12_moved_57 : decode cX12_moved 57 = .ok (.getfield 49, 3) := by decide +kernel
theorem dX12_moved_60 : decode cX12_moved 60 = .ok (.iconst 4, 1) := by decide +kernel
theorem dX12_moved_61 : decode cX12_moved 61 = .ok (.idiv, 1) := by decide +kernel
theorem dX12_moved_62 : decode cX12_moved 62 = .ok (.bipush 12, 2) := by decide +kernel
theorem dX12_moved_64 : decode cX12_moved 64 = .ok (.aload_n 0, 1) := by decide +kernel
theorem dX12_moved_65 : decode cX12_moved 65 = .ok (.getfield 49, 3) := by decide +kernel
theorem dX12_moved_68 : decode cX12_moved 68 = .ok (.iconst 4, 1) := by decide +kernel
theorem dX12_moved_69 : decode cX12_moved 69 = .ok (.irem, 1) := by decide +kernel
theorem dX12_moved_70 : decode cX12_moved 70 = .ok (.iadd, 1) := by decide +kernel
theorem dX12_moved_71 : decode cX12_moved 71 = .ok (.invokevirtual 83, 3) := by decide +kernel
theorem dX12_moved_74 : decode cX12_moved 74 = .ok (.if_icmp .le 7, 3) := by decide +kernel
theorem dX12_moved_77 : decode cX12_moved 77 = .ok (.iconst 1, 1) := by decide +kernel
theorem dX12_moved_78 : decode cX12_moved 78 = .ok (.goto 4, 3) := by decide +kernel
theorem dX12_moved_81 : decode cX12_moved 81 = .ok (.iconst 0, 1) := by decide +kernel
theorem dX12_moved_82 : decode cX12_moved 82 = .ok (.istore_n 2, 1) := by decide +kernel
theorem dX12_moved_83 : decode cX12_moved 83 = .ok (.aload_n 0, 1) := by decide +kernel
theorem dX12_moved_84 : decode cX12_moved 84 = .ok (.iload_n 2, 1) := by decide +kernel
theorem dX12_moved_85 : decode cX12_moved 85 = .ok (.ifCond .eq 10, 3) := by decide +kernel
theorem dX12_moved_88 : decode cX12_moved 88 = .ok (.aload_n 0, 1) := by decide +kernel
theorem dX12_moved_89 : decode cX12_moved 89 = .ok (.getfield 52, 3) := by decide +kernel
theorem dX12_moved_92 : decode cX12_moved 92 = .ok (.goto 7, 3) := by decide +kernel
theorem dX12_moved_95 : decode cX12_moved 95 = .ok (.aload_n 0, 1) := by decide +kernel
theorem dX12_moved_96 : decode cX12_moved 96 = .ok (.getfield 49, 3) := by decide +kernel
theorem dX12_moved_99 : decode cX12_moved 99 = .ok (.iload_n 1, 1) := by decide +kernel
theorem dX12_moved_100 : decode cX12_moved 100 = .ok (.invokevirtual 321, 3) := by decide +kernel
theorem dX12_moved_103 : decode cX12_moved 103 = .ok (.istore_n 3, 1) := by decide +kernel
theorem dX12_moved_104 : decode cX12_moved 104 = .ok (.iload_n 3, 1) := by decide +kernel
theorem dX12_moved_105 : decode cX12_moved 105 = .ok (.ifCond .eq 10, 3) := by decide +kernel
theorem dX12_moved_108 : decode cX12_moved 108 = .ok (.aload_n 0, 1) := by decide +kernel
theorem dX12_moved_109 : decode cX12_moved 109 = .ok (.getfield 52, 3) := by decide +kernel
theorem dX12_moved_112 : decode cX12_moved 112 = .ok (.ifCond .ge 13, 3) := by decide +kernel
theorem dX12_moved_115 : decode cX12_moved 115 = .ok (.iload_n 3, 1) := by decide +kernel
theorem dX12_moved_116 : decode cX12_moved 116 = .ok (.ifCond .eq 7, 3) := by decide +kernel
theorem dX12_moved_119 : decode cX12_moved 119 = .ok (.iconst 1, 1) := by decide +kernel
theorem dX12_moved_120 : decode cX12_moved 120 = .ok (.goto 4, 3) := by decide +kernel
theorem dX12_moved_123 : decode cX12_moved 123 = .ok (.iconst 0, 1) := by decide +kernel
theorem dX12_moved_124 : decode cX12_moved 124 = .ok (.ireturn, 1) := by decide +kernel
theorem dX12_moved_125 : decode cX12_moved 125 = .ok (.aload_n 0, 1) := by decide +kernel
theorem dX12_moved_126 : decode cX12_moved 126 = .ok (.iload_n 2, 1) := by decide +kernel
theorem dX12_moved_127 : decode cX12_moved 127 = .ok (.ifCond .eq 10, 3) := by decide +kernel
theorem dX12_moved_130 : decode cX12_moved 130 = .ok (.aload_n 0, 1) := by decide +kernel
theorem dX12_moved_131 : decode cX12_moved 131 = .ok (.getfield 49, 3) := by decide +kernel
theorem dX12_moved_134 : decode cX12_moved 134 = .ok (.goto 7, 3) := by decide +kernel
theorem dX12_moved_137 : decode cX12_moved 137 = .ok (.aload_n 0, 1) := by decide +kernel
theorem dX12_moved_138 : decode cX12_moved 138 = .ok (.getfield 52, 3) := by decide +kernel
theorem dX12_moved_141 : decode cX12_moved 141 = .ok (.iload_n 1, 1) := by decide +kernel
theorem dX12_moved_142 : decode cX12_moved 142 = .ok (.iload_n 3, 1) := by decide +kernel
theorem dX12_moved_143 : decode cX12_moved 143 = .ok (.ior, 1) := by decide +kernel
theorem dX12_moved_144 : decode cX12_moved 144 = .ok (.invokevirtual 321, 3) := by decide +kernel
theorem dX12_moved_147 : decode cX12_moved 147 = .ok (.ifCond .eq 7, 3) := by decide +kernel
theorem dX12_moved_150 : decode cX12_moved 150 = .ok (.iconst 1, 1) := by decide +kernel
theorem dX12_moved_151 : decode cX12_moved 151 = .ok (.goto 4, 3) := by decide +kernel
theorem dX12_moved_154 : decode cX12_moved 154 = .ok (.iconst 0, 1) := by decide +kernel
theorem dX12_moved_155 : decode cX12_moved 155 = .ok (.ireturn, 1) := by decide +kernel
theorem dX12_areMoved_0 : decode cX12_areMoved 0 = .ok (.aload_n 0, 1) := by decide +kernel
theorem dX12_areMoved_1 : decode cX12_areMoved 1 = .ok (.iload_n 1, 1) := by decide +kernel
theorem dX12_areMoved_2 : decode cX12_areMoved 2 = .ok (.putfield 49, 3) := by decide +kernel
theorem dX12_areMoved_5 : decode cX12_areMoved 5 = .ok (.aload_n 0, 1) := by decide +kernel
theorem dX12_areMoved_6 : decode cX12_areMoved 6 = .ok (.iload_n 2, 1) := by decide +kernel
theorem dX12_areMoved_7 : decode cX12_areMoved 7 = .ok (.putfield 52, 3) := by decide +kernel
theorem dX12_areMoved_10 : decode cX12_areMoved 10 = .ok (.aload_n 0, 1) := by decide +kernel
theorem dX12_areMoved_11 : decode cX12_areMoved 11 = .ok (.invokevirtual 324, 3) := by decide +kernel
theorem dX12_areMoved_14 : decode cX12_areMoved 14 = .ok (.istore_n 3, 1) := by decide +kernel
theorem dX12_areMoved_15 : decode cX12_areMoved 15 = .ok (.aload_n 0, 1) := by decide +kernel
theorem dX12_areMoved_16 : decode cX12_areMoved 16 = .ok (.iconst (-1), 1) := by decide +kernel
theorem dX12_areMoved_17 : decode cX12_areMoved 17 = .ok (.putfield 49, 3) := by decide +kernel
theorem dX12_areMoved_20 : decode cX12_areMoved 20 = .ok (.aload_n 0, 1) := by decide +kernel
theorem dX12_areMoved_21 : decode cX12_areMoved 21 = .ok (.iconst (-1), 1) := by decide +kernel
theorem dX12_areMoved_22 : decode cX12_areMoved 22 = .ok (.putfield 52, 3) := by decide +kernel
theorem dX12_areMoved_25 : decode cX12_areMoved 25 = .ok (.iload_n 3, 1) := by decide +kernel
theorem dX12_areMoved_26 : decode cX12_areMoved 26 = .ok (.ireturn, 1) := by decide +kernel
theorem dX12_isHolding_0 : decode cX12_isHolding 0 = .ok (.iload_n 1, 1) := by decide +kernel
theorem dX12_isHolding_1 : decode cX12_isHolding 1 = .ok (.iconst 4, 1) := by decide +kernel
theorem dX12_isHolding_2 : decode cX12_isHolding 2 = .ok (.idiv, 1) := by decide +kernel
theorem dX12_isHolding_3 : decode cX12_isHolding 3 = .ok (.istore_n 2, 1) := by decide +kernel
theorem dX12_isHolding_4 : decode cX12_isHolding 4 = .ok (.iload_n 1, 1) := by decide +kernel
theorem dX12_isHolding_5 : decode cX12_isHolding 5 = .ok (.iconst 4, 1) := by decide +kernel
theorem dX12_isHolding_6 : decode cX12_isHolding 6 = .ok (.irem, 1) := by decide +kernel
theorem dX12_isHolding_7 : decode cX12_isHolding 7 = .ok (.aload_n 0, 1) := by decide +kernel
theorem dX12_isHolding_8 : decode cX12_isHolding 8 = .ok (.iload_n 2, 1) := by decide +kernel
theorem dX12_isHolding_9 : decode cX12_isHolding 9 = .ok (.iconst 4, 1) := by decide +kernel
theorem dX12_isHolding_10 : decode cX12_isHolding 10 = .ok (.invokevirtual 83, 3) := by decide +kernel
theorem dX12_isHolding_13 : decode cX12_isHolding 13 = .ok (.if_icmp .ge 18, 3) := by decide +kernel
theorem dX12_isHolding_16 : decode cX12_isHolding 16 = .ok (.aload_n 0, 1) := by decide +kernel
theorem dX12_isHolding_17 : decode cX12_isHolding 17 = .ok (.iload_n 2, 1) := by decide +kernel
theorem dX12_isHolding_18 : decode cX12_isHolding 18 = .ok (.iload_n 1, 1) := by decide +kernel
theorem dX12_isHolding_19 : decode cX12_isHolding 19 = .ok (.iconst 4, 1) := by decide +kernel
theorem dX12_isHolding_20 : decode cX12_isHolding 20 = .ok (.irem, 1) := by decide +kernel
theorem dX12_isHolding_21 : decode cX12_isHolding 21 = .ok (.invokevirtual 98, 3) := by decide +kernel
theorem dX12_isHolding_24 : decode cX12_isHolding 24 = .ok (.ifCond .eq 7, 3) := by decide +kernel
theorem dX12_isHolding_27 : decode cX12_isHolding 27 = .ok (.iconst 1, 1) := by decide +kernel
theorem dX12_isHolding_28 : decode cX12_isHolding 28 = .ok (.goto 4, 3) := by decide +kernel
theorem dX12_isHolding_31 : decode cX12_isHolding 31 = .ok (.iconst 0, 1) := by decide +kernel
theorem dX12_isHolding_32 : decode cX12_isHolding 32 = .ok (.ireturn, 1) := by decide +kernel
theorem dX12_fewestMoves_0 : decode cX12_fewestMoves 0 = .ok (.aload_n 0, 1) := by decide +kernel
theorem dX12_fewestMoves_1 : decode cX12_fewestMoves 1 = .ok (.iconst (-1), 1) := by decide +kernel
theorem dX12_fewestMoves_2 : decode cX12_fewestMoves 2 = .ok (.iconst (-1), 1) := by decide +kernel
theorem dX12_fewestMoves_3 : decode cX12_fewestMoves 3 = .ok (.invokevirtual 327, 3) := by decide +kernel
theorem dX12_fewestMoves_6 : decode cX12_fewestMoves 6 = .ok (.ifCond .eq 5, 3) := by decide +kernel
theorem dX12_fewestMoves_9 : decode cX12_fewestMoves 9 = .ok (.iconst 0, 1) := by decide +kernel
theorem dX12_fewestMoves_10 : decode cX12_fewestMoves 10 = .ok (.ireturn, 1) := by decide +kernel
theorem dX12_fewestMoves_11 : decode cX12_fewestMoves 11 = .ok (.iconst 4, 1) := by decide +kernel
theorem dX12_fewestMoves_12 : decode cX12_fewestMoves 12 = .ok (.aload_n 0, 1) := by decide +kernel
theorem dX12_fewestMoves_13 : decode cX12_fewestMoves 13 = .ok (.getfield 9, 3) := by decide +kernel
theorem dX12_fewestMoves_16 : decode cX12_fewestMoves 16 = .ok (.iconst 1, 1) := by decide +kernel
theorem dX12_fewestMoves_17 : decode cX12_fewestMoves 17 = .ok (.iaload, 1) := by decide +kernel
theorem dX12_fewestMoves_18 : decode cX12_fewestMoves 18 = .ok (.imul, 1) := by decide +kernel
theorem dX12_fewestMoves_19 : decode cX12_fewestMoves 19 = .ok (.istore_n 1, 1) := by decide +kernel
theorem dX12_fewestMoves_20 : decode cX12_fewestMoves 20 = .ok (.iconst 0, 1) := by decide +kernel
theorem dX12_fewestMoves_21 : decode cX12_fewestMoves 21 = .ok (.istore_n 2, 1) := by decide +kernel
theorem dX12_fewestMoves_22 : decode cX12_fewestMoves 22 = .ok (.iload_n 2, 1) := by decide +kernel
theorem dX12_fewestMoves_23 : decode cX12_fewestMoves 23 = .ok (.iload_n 1, 1) := by decide +kernel
theorem dX12_fewestMoves_24 : decode cX12_fewestMoves 24 = .ok (.if_icmp .ge 28, 3) := by decide +kernel
theorem dX12_fewestMoves_27 : decode cX12_fewestMoves 27 = .ok (.aload_n 0, 1) := by decide +kernel
theorem dX12_fewestMoves_28 : decode cX12_fewestMoves 28 = .ok (.iload_n 2, 1) := by decide +kernel
theorem dX12_fewestMoves_29 : decode cX12_fewestMoves 29 = .ok (.invokevirtual 330, 3) := by decide +kernel
theorem dX12_fewestMoves_32 : decode cX12_fewestMoves 32 = .ok (.ifCond .eq 14, 3) := by decide +kernel
theorem dX12_fewestMoves_35 : decode cX12_fewestMoves 35 = .ok (.aload_n 0, 1) := by decide +kernel
theorem dX12_fewestMoves_36 : decode cX12_fewestMoves 36 = .ok (.iload_n 2, 1) := by decide +kernel
theorem dX12_fewestMoves_37 : decode cX12_fewestMoves 37 = .ok (.iconst (-1), 1) := by decide +kernel
theorem dX12_fewestMoves_38 : decode cX12_fewestMoves 38 = .ok (.invokevirtual 327, 3) := by decide +kernel
theorem dX12_fewestMoves_41 : decode cX12_fewestMoves 41 = .ok (.ifCond .eq 5, 3) := by decide +kernel
theorem dX12_fewestMoves_44 : decode cX12_fewestMoves 44 = .ok (.iconst 1, 1) := by decide +kernel
theorem dX12_fewestMoves_45 : decode cX12_fewestMoves 45 = .ok (.ireturn, 1) := by decide +kernel
theorem dX12_fewestMoves_46 : decode cX12_fewestMoves 46 = .ok (.iinc 2 1, 3) := by decide +kernel
theorem dX12_fewestMoves_49 : decode cX12_fewestMoves 49 = .ok (.goto (-27), 3) := by decide +kernel
theorem dX12_fewestMoves_52 : decode cX12_fewestMoves 52 = .ok (.iconst 0, 1) := by decide +kernel
theorem dX12_fewestMoves_53 : decode cX12_fewestMoves 53 = .ok (.istore_n 2, 1) := by decide +kernel
theorem dX12_fewestMoves_54 : decode cX12_fewestMoves 54 = .ok (.iload_n 2, 1) := by decide +kernel
theorem dX12_fewestMoves_55 : decode cX12_fewestMoves 55 = .ok (.iload_n 1, 1) := by decide +kernel
theorem dX12_fewestMoves_56 : decode cX12_fewestMoves 56 = .ok (.if_icmp .ge 51, 3) := by decide +kernel
theorem dX12_fewestMoves_59 : decode cX12_fewestMoves 59 = .ok (.iload_n 2, 1) := by decide +kernel
theorem dX12_fewestMoves_60 : decode cX12_fewestMoves 60 = .ok (.iconst 1, 1) := by decide +kernel
theorem dX12_fewestMoves_61 : decode cX12_fewestMoves 61 = .ok (.iadd, 1) := by decide +kernel
theorem dX12_fewestMoves_62 : decode cX12_fewestMoves 62 = .ok (.istore_n 3, 1) := by decide +kernel
theorem dX12_fewestMoves_63 : decode cX12_fewestMoves 63 = .ok (.iload_n 3, 1) := by decide +kernel
theorem dX12_fewestMoves_64 : decode cX12_fewestMoves 64 = .ok (.iload_n 1, 1) := by decide +kernel
theorem dX12_fewestMoves_65 : decode cX12_fewestMoves 65 = .ok (.if_icmp .ge 36, 3) := by decide +kernel
theorem dX12_fewestMoves_68 : decode cX12_fewestMoves 68 = .ok (.aload_n 0, 1) := by decide +kernel
theorem dX12_fewestMoves_69 : decode cX12_fewestMoves 69 = .ok (.iload_n 2, 1) := by decide +kernel
theorem dX12_fewestMoves_70 : decode cX12_fewestMoves 70 = .ok (.invokevirtual 330, 3) := by decide +kernel
theorem dX12_fewestMoves_73 : decode cX12_fewestMoves 73 = .ok (.ifCond .eq 28, 3) := by decide +kernel
theorem dX12_fewestMoves_76 : decode cX12_fewestMoves 76 = .ok (.aload_n 0, 1) := by decide +kernel
theorem dX12_fewestMoves_77 : decode cX12_fewestMoves 77 = .ok (.iload_n 3, 1) := by decide +kernel
theorem dX12_fewestMoves_78 : decode cX12_fewestMoves 78 = .ok (.invokevirtual 330, 3) := by decide +kernel
theorem dX12_fewestMoves_81 : decode cX12_fewestMoves 81 = .ok (.ifCond .eq 14, 3) := by decide +kernel
theorem dX12_fewestMoves_84 : decode cX12_fewestMoves 84 = .ok (.aload_n 0, 1) := by decide +kernel
theorem dX12_fewestMoves_85 : decode cX12_fewestMoves 85 = .ok (.iload_n 2, 1) := by decide +kernel
theorem dX12_fewestMoves_86 : decode cX12_fewestMoves 86 = .ok (.iload_n 3, 1) := by decide +kernel
theorem dX12_fewestMoves_87 : decode cX12_fewestMoves 87 = .ok (.invokevirtual 327, 3) := by decide +kernel
theorem dX12_fewestMoves_90 : decode cX12_fewestMoves 90 = .ok (.ifCond .eq 5, 3) := by decide +kernel
theorem dX12_fewestMoves_93 : decode cX12_fewestMoves 93 = .ok (.iconst 2, 1) := by decide +kernel
theorem dX12_fewestMoves_94 : decode cX12_fewestMoves 94 = .ok (.ireturn, 1) := by decide +kernel
theorem dX12_fewestMoves_95 : decode cX12_fewestMoves 95 = .ok (.iinc 3 1, 3) := by decide +kernel
theorem dX12_fewestMoves_98 : decode cX12_fewestMoves 98 = .ok (.goto (-35), 3) := by decide +kernel
theorem dX12_fewestMoves_101 : decode cX12_fewestMoves 101 = .ok (.iinc 2 1, 3) := by decide +kernel
theorem dX12_fewestMoves_104 : decode cX12_fewestMoves 104 = .ok (.goto (-50), 3) := by decide +kernel
theorem dX12_fewestMoves_107 : decode cX12_fewestMoves 107 = .ok (.bipush (-2), 2) := by decide +kernel
theorem dX12_fewestMoves_109 : decode cX12_fewestMoves 109 = .ok (.ireturn, 1) := by decide +kernel
theorem dX12_moves_0 : decode cX12_moves 0 = .ok (.aload_n 0, 1) := by decide +kernel
theorem dX12_moves_1 : decode cX12_moves 1 = .ok (.iload_n 1, 1) := by decide +kernel
theorem dX12_moves_2 : decode cX12_moves 2 = .ok (.invokevirtual 315, 3) := by decide +kernel
theorem dX12_moves_5 : decode cX12_moves 5 = .ok (.ifCond .ge 9, 3) := by decide +kernel
theorem dX12_moves_8 : decode cX12_moves 8 = .ok (.aload_n 0, 1) := by decide +kernel
theorem dX12_moves_9 : decode cX12_moves 9 = .ok (.iload_n 1, 1) := by decide +kernel
theorem dX12_moves_10 : decode cX12_moves 10 = .ok (.invokevirtual 315, 3) := by decide +kernel
theorem dX12_moves_13 : decode cX12_moves 13 = .ok (.ireturn, 1) := by decide +kernel
theorem dX12_moves_14 : decode cX12_moves 14 = .ok (.aload_n 0, 1) := by decide +kernel
theorem dX12_moves_15 : decode cX12_moves 15 = .ok (.iload_n 1, 1) := by decide +kernel
theorem dX12_moves_16 : decode cX12_moves 16 = .ok (.putfield 42, 3) := by decide +kernel
theorem dX12_moves_19 : decode cX12_moves 19 = .ok (.aload_n 0, 1) := by decide +kernel
theorem dX12_moves_20 : decode cX12_moves 20 = .ok (.iload_n 1, 1) := by decide +kernel
theorem dX12_moves_21 : decode cX12_moves 21 = .ok (.invokevirtual 275, 3) := by decide +kernel
theorem dX12_moves_24 : decode cX12_moves 24 = .ok (.aload_n 0, 1) := by decide +kernel
theorem dX12_moves_25 : decode cX12_moves 25 = .ok (.invokevirtual 333, 3) := by decide +kernel
theorem dX12_moves_28 : decode cX12_moves 28 = .ok (.istore_n 2, 1) := by decide +kernel
theorem dX12_moves_29 : decode cX12_moves 29 = .ok (.aload_n 0, 1) := by decide +kernel
theorem dX12_moves_30 : decode cX12_moves 30 = .ok (.iconst (-1), 1) := by decide +kernel
theorem dX12_moves_31 : decode cX12_moves 31 = .ok (.putfield 42, 3) := by decide +kernel
theorem dX12_moves_34 : decode cX12_moves 34 = .ok (.iload_n 2, 1) := by decide +kernel
theorem dX12_moves_35 : decode cX12_moves 35 = .ok (.ireturn, 1) := by decide +kernel
theorem dX12_fitBoth_0 : decode cX12_fitBoth 0 = .ok (.aload_n 0, 1) := by decide +kernel
theorem dX12_fitBoth_1 : decode cX12_fitBoth 1 = .ok (.iload_n 1, 1) := by decide +kernel
theorem dX12_fitBoth_2 : decode cX12_fitBoth 2 = .ok (.invokevirtual 275, 3) := by decide +kernel
theorem dX12_fitBoth_5 : decode cX12_fitBoth 5 = .ok (.aload_n 0, 1) := by decide +kernel
theorem dX12_fitBoth_6 : decode cX12_fitBoth 6 = .ok (.aload_n 0, 1) := by decide +kernel
theorem dX12_fitBoth_7 : decode cX12_fitBoth 7 = .ok (.getfield 9, 3) := by decide +kernel
theorem dX12_fitBoth_10 : decode cX12_fitBoth 10 = .ok (.iconst 0, 1) := by decide +kernel
theorem dX12_fitBoth_11 : decode cX12_fitBoth 11 = .ok (.iaload, 1) := by decide +kernel
theorem dX12_fitBoth_12 : decode cX12_fitBoth 12 = .ok (.invokevirtual 139, 3) := by decide +kernel
theorem dX12_fitBoth_15 : decode cX12_fitBoth 15 = .ok (.ifCond .ne 5, 3) := by decide +kernel
theorem dX12_fitBoth_18 : decode cX12_fitBoth 18 = .ok (.iconst 0, 1) := by decide +kernel
theorem dX12_fitBoth_19 : decode cX12_fitBoth 19 = .ok (.ireturn, 1) := by decide +kernel
theorem dX12_fitBoth_20 : decode cX12_fitBoth 20 = .ok (.iconst 0, 1) := by decide +kernel
theorem dX12_fitBoth_21 : decode cX12_fitBoth 21 = .ok (.istore_n 3, 1) := by decide +kernel
theorem dX12_fitBoth_22 : decode cX12_fitBoth 22 = .ok (.iload_n 3, 1) := by decide +kernel
theorem dX12_fitBoth_23 : decode cX12_fitBoth 23 = .ok (.aload_n 0, 1) := by decide +kernel
theorem dX12_fitBoth_24 : decode cX12_fitBoth 24 = .ok (.getfield 122, 3) := by decide +kernel
theorem dX12_fitBoth_27 : decode cX12_fitBoth 27 = .ok (.if_icmp .ge 49, 3) := by decide +kernel
theorem dX12_fitBoth_30 : decode cX12_fitBoth 30 = .ok (.aload_n 0, 1) := by decide +kernel
theorem dX12_fitBoth_31 : decode cX12_fitBoth 31 = .ok (.getfield 55, 3) := by decide +kernel
theorem dX12_fitBoth_34 : decode cX12_fitBoth 34 = .ok (.iload_n 3, 1) := by decide +kernel
theorem dX12_fitBoth_35 : decode cX12_fitBoth 35 = .ok (.aload_n 0, 1) := by decide +kernel
theorem dX12_fitBoth_36 : decode cX12_fitBoth 36 = .ok (.getfield 39, 3) := by decide +kernel
theorem dX12_fitBoth_39 : decode cX12_fitBoth 39 = .ok (.iload_n 3, 1) := by decide +kernel
theorem dX12_fitBoth_40 : decode cX12_fitBoth 40 = .ok (.iaload, 1) := by decide +kernel
theorem dX12_fitBoth_41 : decode cX12_fitBoth 41 = .ok (.aload_n 0, 1) := by decide +kernel
theorem dX12_fitBoth_42 : decode cX12_fitBoth 42 = .ok (.getfield 33, 3) := by decide +kernel
theorem dX12_fitBoth_45 : decode cX12_fitBoth 45 = .ok (.iload_n 3, 1) := by decide +kernel
theorem dX12_fitBoth_46 : decode cX12_fitBoth 46 = .ok (.iaload, 1) := by decide +kernel
theorem dX12_fitBoth_47 : decode cX12_fitBoth 47 = .ok (.invokestatic 92, 3) := by decide +kernel
theorem dX12_fitBoth_50 : decode cX12_fitBoth 50 = .ok (.iastore, 1) := by decide +kernel
theorem dX12_fitBoth_51 : decode cX12_fitBoth 51 = .ok (.aload_n 0, 1) := by decide +kernel
theorem dX12_fitBoth_52 : decode cX12_fitBoth 52 = .ok (.getfield 58, 3) := by decide +kernel
theorem dX12_fitBoth_55 : decode cX12_fitBoth 55 = .ok (.iload_n 3, 1) := by decide +kernel
theorem dX12_fitBoth_56 : decode cX12_fitBoth 56 = .ok (.aload_n 0, 1) := by decide +kernel
theorem dX12_fitBoth_57 : decode cX12_fitBoth 57 = .ok (.getfield 9, 3) := by decide +kernel
theorem dX12_fitBoth_60 : decode cX12_fitBoth 60 = .ok (.iconst 0, 1) := by decide +kernel
theorem dX12_fitBoth_61 : decode cX12_fitBoth 61 = .ok (.iaload, 1) := by decide +kernel
theorem dX12_fitBoth_62 : decode cX12_fitBoth 62 = .ok (.aload_n 0, 1) := by decide +kernel
theorem dX12_fitBoth_63 : decode cX12_fitBoth 63 = .ok (.getfield 36, 3) := by decide +kernel
theorem dX12_fitBoth_66 : decode cX12_fitBoth 66 = .ok (.iload_n 3, 1) := by decide +kernel
theorem dX12_fitBoth_67 : decode cX12_fitBoth 67 = .ok (.iaload, 1) := by decide +kernel
theorem dX12_fitBoth_68 : decode cX12_fitBoth 68 = .ok (.iadd, 1) := by decide +kernel
theorem dX12_fitBoth_69 : decode cX12_fitBoth 69 = .ok (.iastore, 1) := by decide +kernel
theorem dX12_fitBoth_70 : decode cX12_fitBoth 70 = .ok (.iinc 3 1, 3) := by decide +kernel
theorem dX12_fitBoth_73 : decode cX12_fitBoth 73 = .ok (.goto (-51), 3) := by decide +kernel
theorem dX12_fitBoth_76 : decode cX12_fitBoth 76 = .ok (.aload_n 0, 1) := by decide +kernel
theorem dX12_fitBoth_77 : decode cX12_fitBoth 77 = .ok (.aload_n 0, 1) := by decide +kernel
theorem dX12_fitBoth_78 : decode cX12_fitBoth 78 = .ok (.getfield 122, 3) := by decide +kernel
theorem dX12_fitBoth_81 : decode cX12_fitBoth 81 = .ok (.putfield 119, 3) := by decide +kernel
theorem dX12_fitBoth_84 : decode cX12_fitBoth 84 = .ok (.aload_n 0, 1) := by decide +kernel
theorem dX12_fitBoth_85 : decode cX12_fitBoth 85 = .ok (.iload_n 2, 1) := by decide +kernel
theorem dX12_fitBoth_86 : decode cX12_fitBoth 86 = .ok (.invokevirtual 275, 3) := by decide +kernel
theorem dX12_fitBoth_89 : decode cX12_fitBoth 89 = .ok (.aload_n 0, 1) := by decide +kernel
theorem dX12_fitBoth_90 : decode cX12_fitBoth 90 = .ok (.aload_n 0, 1) := by decide +kernel
theorem dX12_fitBoth_91 : decode cX12_fitBoth 91 = .ok (.getfield 9, 3) := by decide +kernel
theorem dX12_fitBoth_94 : decode cX12_fitBoth 94 = .ok (.iconst 0, 1) := by decide +kernel
theorem dX12_fitBoth_95 : decode cX12_fitBoth 95 = .ok (.iaload, 1) := by decide +kernel
theorem dX12_fitBoth_96 : decode cX12_fitBoth 96 = .ok (.invokevirtual 139, 3) := by decide +kernel
theorem dX12_fitBoth_99 : decode cX12_fitBoth 99 = .ok (.istore_n 3, 1) := by decide +kernel
theorem dX12_fitBoth_100 : decode cX12_fitBoth 100 = .ok (.aload_n 0, 1) := by decide +kernel
theorem dX12_fitBoth_101 : decode cX12_fitBoth 101 = .ok (.iconst 0, 1) := by decide +kernel
theorem dX12_fitBoth_102 : decode cX12_fitBoth 102 = .ok (.putfield 119, 3) := by decide +kernel
theorem dX12_fitBoth_105 : decode cX12_fitBoth 105 = .ok (.iload_n 3, 1) := by decide +kernel
theorem dX12_fitBoth_106 : decode cX12_fitBoth 106 = .ok (.ireturn, 1) := by decide +kernel
theorem dX12_together_0 : decode cX12_together 0 = .ok (.aload_n 0, 1) := by decide +kernel
theorem dX12_together_1 : decode cX12_together 1 = .ok (.iload_n 1, 1) := by decide +kernel
theorem dX12_together_2 : decode cX12_together 2 = .ok (.invokevirtual 200, 3) := by decide +kernel
theorem dX12_together_5 : decode cX12_together 5 = .ok (.ifCond .eq 16, 3) := by decide +kernel
theorem dX12_together_8 : decode cX12_together 8 = .ok (.aload_n 0, 1) := by decide +kernel
theorem dX12_together_9 : decode cX12_together 9 = .ok (.iload_n 2, 1) := by decide +kernel
theorem dX12_together_10 : decode cX12_together 10 = .ok (.invokevirtual 200, 3) := by decide +kernel
theorem dX12_together_13 : decode cX12_together 13 = .ok (.ifCond .eq 8, 3) := by decide +kernel
theorem dX12_together_16 : decode cX12_together 16 = .ok (.iload_n 1, 1) := by decide +kernel
theorem dX12_together_17 : decode cX12_together 17 = .ok (.iload_n 2, 1) := by decide +kernel
theorem dX12_together_18 : decode cX12_together 18 = .ok (.if_icmp .ne 5, 3) := by decide +kernel
theorem dX12_together_21 : decode cX12_together 21 = .ok (.iconst (-1), 1) := by decide +kernel
theorem dX12_together_22 : decode cX12_together 22 = .ok (.ireturn, 1) := by decide +kernel
theorem dX12_together_23 : decode cX12_together 23 = .ok (.aload_n 0, 1) := by decide +kernel
theorem dX12_together_24 : decode cX12_together 24 = .ok (.iload_n 1, 1) := by decide +kernel
theorem dX12_together_25 : decode cX12_together 25 = .ok (.invokevirtual 211, 3) := by decide +kernel
theorem dX12_together_28 : decode cX12_together 28 = .ok (.ifCond .eq 11, 3) := by decide +kernel
theorem dX12_together_31 : decode cX12_together 31 = .ok (.aload_n 0, 1) := by decide +kernel
theorem dX12_together_32 : decode cX12_together 32 = .ok (.iload_n 2, 1) := by decide +kernel
theorem dX12_together_33 : decode cX12_together 33 = .ok (.invokevirtual 211, 3) := by decide +kernel
theorem dX12_together_36 : decode cX12_together 36 = .ok (.ifCond .ne 6, 3) := by decide +kernel
theorem dX12_together_39 : decode cX12_together 39 = .ok (.bipush (-5), 2) := by decide +kernel
theorem dX12_together_41 : decode cX12_together 41 = .ok (.ireturn, 1) := by decide +kernel
theorem dX12_together_42 : decode cX12_together 42 = .ok (.aload_n 0, 1) := by decide +kernel
theorem dX12_together_43 : decode cX12_together 43 = .ok (.iload_n 1, 1) := by decide +kernel
theorem dX12_together_44 : decode cX12_together 44 = .ok (.putfield 42, 3) := by decide +kernel
theorem dX12_together_47 : decode cX12_together 47 = .ok (.aload_n 0, 1) := by decide +kernel
theorem dX12_together_48 : decode cX12_together 48 = .ok (.iload_n 2, 1) := by decide +kernel
theorem dX12_together_49 : decode cX12_together 49 = .ok (.putfield 46, 3) := by decide +kernel
theorem dX12_together_52 : decode cX12_together 52 = .ok (.aload_n 0, 1) := by decide +kernel
theorem dX12_together_53 : decode cX12_together 53 = .ok (.iload_n 1, 1) := by decide +kernel
theorem dX12_together_54 : decode cX12_together 54 = .ok (.iload_n 2, 1) := by decide +kernel
theorem dX12_together_55 : decode cX12_together 55 = .ok (.invokevirtual 336, 3) := by decide +kernel
theorem dX12_together_58 : decode cX12_together 58 = .ok (.ifCond .eq 7, 3) := by decide +kernel
theorem dX12_together_61 : decode cX12_together 61 = .ok (.iconst 1, 1) := by decide +kernel
theorem dX12_together_62 : decode cX12_together 62 = .ok (.goto 4, 3) := by decide +kernel
theorem dX12_together_65 : decode cX12_together 65 = .ok (.iconst 0, 1) := by decide +kernel
theorem dX12_together_66 : decode cX12_together 66 = .ok (.aload_n 0, 1) := by decide +kernel
theorem dX12_together_67 : decode cX12_together 67 = .ok (.iload_n 2, 1) := by decide +kernel
theorem dX12_together_68 : decode cX12_together 68 = .ok (.iload_n 1, 1) := by decide +kernel
theorem dX12_together_69 : decode cX12_together 69 = .ok (.invokevirtual 336, 3) := by decide +kernel
theorem dX12_together_72 : decode cX12_together 72 = .ok (.ifCond .eq 7, 3) := by decide +kernel
theorem dX12_together_75 : decode cX12_together 75 = .ok (.iconst 2, 1) := by decide +kernel
theorem dX12_together_76 : decode cX12_together 76 = .ok (.goto 4, 3) := by decide +kernel
theorem dX12_together_79 : decode cX12_together 79 = .ok (.iconst 0, 1) := by decide +kernel
theorem dX12_together_80 : decode cX12_together 80 = .ok (.iadd, 1) := by decide +kernel
theorem dX12_together_81 : decode cX12_together 81 = .ok (.istore_n 3, 1) := by decide +kernel
theorem dX12_together_82 : decode cX12_together 82 = .ok (.aload_n 0, 1) := by decide +kernel
theorem dX12_together_83 : decode cX12_together 83 = .ok (.iconst (-1), 1) := by decide +kernel
theorem dX12_together_84 : decode cX12_together 84 = .ok (.putfield 42, 3) := by decide +kernel
theorem dX12_together_87 : decode cX12_together 87 = .ok (.aload_n 0, 1) := by decide +kernel
theorem dX12_together_88 : decode cX12_together 88 = .ok (.iconst (-1), 1) := by decide +kernel
theorem dX12_together_89 : decode cX12_together 89 = .ok (.putfield 46, 3) := by decide +kernel
theorem dX12_together_92 : decode cX12_together 92 = .ok (.iload_n 3, 1) := by decide +kernel
theorem dX12_together_93 : decode cX12_together 93 = .ok (.ireturn, 1) := by decide +kernel
theorem dX12_takenTo_0 : decode cX12_takenTo 0 = .ok (.iload_n 2, 1) := by decide +kernel
theorem dX12_takenTo_1 : decode cX12_takenTo 1 = .ok (.istore_n 3, 1) := by decide +kernel
theorem dX12_takenTo_2 : decode cX12_takenTo 2 = .ok (.iconst 0, 1) := by decide +kernel
theorem dX12_takenTo_3 : decode cX12_takenTo 3 = .ok (.istore 4, 2) := by decide +kernel
theorem dX12_takenTo_5 : decode cX12_takenTo 5 = .ok (.iload 4, 2) := by decide +kernel
theorem dX12_takenTo_7 : decode cX12_takenTo 7 = .ok (.aload_n 0, 1) := by decide +kernel
theorem dX12_takenTo_8 : decode cX12_takenTo 8 = .ok (.getfield 9, 3) := by decide +kernel
theorem dX12_takenTo_11 : decode cX12_takenTo 11 = .ok (.iconst 1, 1) := by decide +kernel
theorem dX12_takenTo_12 : decode cX12_takenTo 12 = .ok (.iaload, 1) := by decide +kernel
theorem dX12_takenTo_13 : decode cX12_takenTo 13 = .ok (.if_icmp .ge 126, 3) := by decide +kernel
theorem dX12_takenTo_16 : decode cX12_takenTo 16 = .ok (.aload_n 0, 1) := by decide +kernel
theorem dX12_takenTo_17 : decode cX12_takenTo 17 = .ok (.iload 4, 2) := by decide +kernel
theorem dX12_takenTo_19 : decode cX12_takenTo 19 = .ok (.bipush 9, 2) := by decide +kernel
theorem dX12_takenTo_21 : decode cX12_takenTo 21 = .ok (.invokevirtual 83, 3) := by decide +kernel
theorem dX12_takenTo_24 : decode cX12_takenTo 24 = .ok (.istore 5, 2) := by decide +kernel
theorem dX12_takenTo_26 : decode cX12_takenTo 26 = .ok (.iconst 0, 1) := by decide +kernel
theorem dX12_takenTo_27 : decode cX12_takenTo 27 = .ok (.istore 6, 2) := by decide +kernel
theorem dX12_takenTo_29 : decode cX12_takenTo 29 = .ok (.iload 6, 2) := by decide +kernel
theorem dX12_takenTo_31 : decode cX12_takenTo 31 = .ok (.aload_n 0, 1) := by decide +kernel
theorem dX12_takenTo_32 : decode cX12_takenTo 32 = .ok (.iload 4, 2) := by decide +kernel
theorem dX12_takenTo_34 : decode cX12_takenTo 34 = .ok (.iconst 4, 1) := by decide +kernel
theorem dX12_takenTo_35 : decode cX12_takenTo 35 = .ok (.invokevirtual 83, 3) := by decide +kernel
theorem dX12_takenTo_38 : decode cX12_takenTo 38 = .ok (.if_icmp .ge 95, 3) := by decide +kernel
theorem dX12_takenTo_41 : decode cX12_takenTo 41 = .ok (.aload_n 0, 1) := by decide +kernel
theorem dX12_takenTo_42 : decode cX12_takenTo 42 = .ok (.iload 4, 2) := by decide +kernel
theorem dX12_takenTo_44 : decode cX12_takenTo 44 = .ok (.iload 6, 2) := by decide +kernel
theorem dX12_takenTo_46 : decode cX12_takenTo 46 = .ok (.invokevirtual 98, 3) := by decide +kernel
theorem dX12_takenTo_49 : decode cX12_takenTo 49 = .ok (.ifCond .eq 32, 3) := by decide +kernel
theorem dX12_takenTo_52 : decode cX12_takenTo 52 = .ok (.aload_n 0, 1) := by decide +kernel
theorem dX12_takenTo_53 : decode cX12_takenTo 53 = .ok (.iload 4, 2) := by decide +kernel
theorem dX12_takenTo_55 : decode cX12_takenTo 55 = .ok (.iload 6, 2) := by decide +kernel
theorem dX12_takenTo_57 : decode cX12_takenTo 57 = .ok (.invokevirtual 105, 3) := by decide +kernel
theorem dX12_takenTo_60 : decode cX12_takenTo 60 = .ok (.iload_n 1, 1) := by decide +kernel
theorem dX12_takenTo_61 : decode cX12_takenTo 61 = .ok (.ishr, 1) := by decide +kernel
theorem dX12_takenTo_62 : decode cX12_takenTo 62 = .ok (.iconst 1, 1) := by decide +kernel
theorem dX12_takenTo_63 : decode cX12_takenTo 63 = .ok (.iand, 1) := by decide +kernel
theorem dX12_takenTo_64 : decode cX12_takenTo 64 = .ok (.iconst 1, 1) := by decide +kernel
theorem dX12_takenTo_65 : decode cX12_takenTo 65 = .ok (.if_icmp .ne 16, 3) := by decide +kernel
theorem dX12_takenTo_68 : decode cX12_takenTo 68 = .ok (.iload_n 3, 1) := by decide +kernel
theorem dX12_takenTo_69 : decode cX12_takenTo 69 = .ok (.aload_n 0, 1) := by decide +kernel
theorem dX12_takenTo_70 : decode cX12_takenTo 70 = .ok (.iload 4, 2) := by decide +kernel
theorem dX12_takenTo_72 : decode cX12_takenTo 72 = .ok (.iload 6, 2) := by decide +kernel
theorem dX12_takenTo_74 : decode cX12_takenTo 74 = .ok (.invokevirtual 102, 3) := by decide +kernel
theorem dX12_takenTo_77 : decode cX12_takenTo 77 = .ok (.invokestatic 87, 3) := by decide +kernel
theorem dX12_takenTo_80 : decode cX12_takenTo 80 = .ok (.istore_n 3, 1) := by decide +kernel
theorem dX12_takenTo_81 : decode cX12_takenTo 81 = .ok (.iload 5, 2) := by decide +kernel
theorem dX12_takenTo_83 : decode cX12_takenTo 83 = .ok (.ifCond .lt 44, 3) := by decide +kernel
theorem dX12_takenTo_86 : decode cX12_takenTo 86 = .ok (.iload 5, 2) := by decide +kernel
theorem dX12_takenTo_88 : decode cX12_takenTo 88 = .ok (.iload_n 2, 1) := by decide +kernel
theorem dX12_takenTo_89 : decode cX12_takenTo 89 = .ok (.if_icmp .gt 38, 3) := by decide +kernel
theorem dX12_takenTo_92 : decode cX12_takenTo 92 = .ok (.aload_n 0, 1) := by decide +kernel
theorem dX12_takenTo_93 : decode cX12_takenTo 93 = .ok (.iload 4, 2) := by decide +kernel
theorem dX12_takenTo_95 : decode cX12_takenTo 95 = .ok (.iload 6, 2) := by decide +kernel
theorem dX12_takenTo_97 : decode cX12_takenTo 97 = .ok (.invokevirtual 108, 3) := by decide +kernel
theorem dX12_takenTo_100 : decode cX12_takenTo 100 = .ok (.iload_n 1, 1) := by decide +kernel
theorem dX12_takenTo_101 : decode cX12_takenTo 101 = .ok (.ishr, 1) := by decide +kernel
theorem dX12_takenTo_102 : decode cX12_takenTo 102 = .ok (.iconst 1, 1) := by decide +kernel
theorem dX12_takenTo_103 : decode cX12_takenTo 103 = .ok (.iand, 1) := by decide +kernel
theorem dX12_takenTo_104 : decode cX12_takenTo 104 = .ok (.iconst 1, 1) := by decide +kernel
theorem dX12_takenTo_105 : decode cX12_takenTo 105 = .ok (.if_icmp .ne 22, 3) := by decide +kernel
theorem dX12_takenTo_108 : decode cX12_takenTo 108 = .ok (.iload_n 3, 1) := by decide +kernel
theorem dX12_takenTo_109 : decode cX12_takenTo 109 = .ok (.iload 5, 2) := by decide +kernel
theorem dX12_takenTo_111 : decode cX12_takenTo 111 = .ok (.aload_n 0, 1) := by decide +kernel
theorem dX12_takenTo_112 : decode cX12_takenTo 112 = .ok (.iload 4, 2) := by decide +kernel
theorem dX12_takenTo_114 : decode cX12_takenTo 114 = .ok (.bipush 16, 2) := by decide +kernel
theorem dX12_takenTo_116 : decode cX12_takenTo 116 = .ok (.iload 6, 2) := by decide +kernel
theorem dX12_takenTo_118 : decode cX12_takenTo 118 = .ok (.iadd, 1) := by decide +kernel
theorem dX12_takenTo_119 : decode cX12_takenTo 119 = .ok (.invokevirtual 83, 3) := by decide +kernel
theorem dX12_takenTo_122 : decode cX12_takenTo 122 = .ok (.iadd, 1) := by decide +kernel
theorem dX12_takenTo_123 : decode cX12_takenTo 123 = .ok (.invokestatic 87, 3) := by decide +kernel
theorem dX12_takenTo_126 : decode cX12_takenTo 126 = .ok (.istore_n 3, 1) := by decide +kernel
theorem dX12_takenTo_127 : decode cX12_takenTo 127 = .ok (.iinc 6 1, 3) := by decide +kernel
theorem dX12_takenTo_130 : decode cX12_takenTo 130 = .ok (.goto (-101), 3) := by decide +kernel
theorem dX12_takenTo_133 : decode cX12_takenTo 133 = .ok (.iinc 4 1, 3) := by decide +kernel
theorem dX12_takenTo_136 : decode cX12_takenTo 136 = .ok (.goto (-131), 3) := by decide +kernel
theorem dX12_takenTo_139 : decode cX12_takenTo 139 = .ok (.iconst 0, 1) := by decide +kernel
theorem dX12_takenTo_140 : decode cX12_takenTo 140 = .ok (.istore 4, 2) := by decide +kernel
theorem dX12_takenTo_142 : decode cX12_takenTo 142 = .ok (.iload 4, 2) := by decide +kernel
theorem dX12_takenTo_144 : decode cX12_takenTo 144 = .ok (.bipush 12, 2) := by decide +kernel
theorem dX12_takenTo_146 : decode cX12_takenTo 146 = .ok (.if_icmp .ge 55, 3) := by decide +kernel
theorem dX12_takenTo_149 : decode cX12_takenTo 149 = .ok (.aload_n 0, 1) := by decide +kernel
theorem dX12_takenTo_150 : decode cX12_takenTo 150 = .ok (.iload 4, 2) := by decide +kernel
theorem dX12_takenTo_152 : decode cX12_takenTo 152 = .ok (.invokevirtual 111, 3) := by decide +kernel
theorem dX12_takenTo_155 : decode cX12_takenTo 155 = .ok (.ifCond .eq 40, 3) := by decide +kernel
theorem dX12_takenTo_158 : decode cX12_takenTo 158 = .ok (.aload_n 0, 1) := by decide +kernel
theorem dX12_takenTo_159 : decode cX12_takenTo 159 = .ok (.iload 4, 2) := by decide +kernel
theorem dX12_takenTo_161 : decode cX12_takenTo 161 = .ok (.iconst 3, 1) := by decide +kernel
theorem dX12_takenTo_162 : decode cX12_takenTo 162 = .ok (.invokevirtual 95, 3) := by decide +kernel
theorem dX12_takenTo_165 : decode cX12_takenTo 165 = .ok (.iload_n 2, 1) := by decide +kernel
theorem dX12_takenTo_166 : decode cX12_takenTo 166 = .ok (.if_icmp .gt 29, 3) := by decide +kernel
theorem dX12_takenTo_169 : decode cX12_takenTo 169 = .ok (.aload_n 0, 1) := by decide +kernel
theorem dX12_takenTo_170 : decode cX12_takenTo 170 = .ok (.iload 4, 2) := by decide +kernel
theorem dX12_takenTo_172 : decode cX12_takenTo 172 = .ok (.invokevirtual 115, 3) := by decide +kernel
theorem dX12_takenTo_175 : decode cX12_takenTo 175 = .ok (.iload_n 1, 1) := by decide +kernel
theorem dX12_takenTo_176 : decode cX12_takenTo 176 = .ok (.ishr, 1) := by decide +kernel
theorem dX12_takenTo_177 : decode cX12_takenTo 177 = .ok (.iconst 1, 1) := by decide +kernel
theorem dX12_takenTo_178 : decode cX12_takenTo 178 = .ok (.iand, 1) := by decide +kernel
theorem dX12_takenTo_179 : decode cX12_takenTo 179 = .ok (.iconst 1, 1) := by decide +kernel
theorem dX12_takenTo_180 : decode cX12_takenTo 180 = .ok (.if_icmp .ne 15, 3) := by decide +kernel
theorem dX12_takenTo_183 : decode cX12_takenTo 183 = .ok (.iload_n 3, 1) := by decide +kernel
theorem dX12_takenTo_184 : decode cX12_takenTo 184 = .ok (.aload_n 0, 1) := by decide +kernel
theorem dX12_takenTo_185 : decode cX12_takenTo 185 = .ok (.iload 4, 2) := by decide +kernel
theorem dX12_takenTo_187 : decode cX12_takenTo 187 = .ok (.iconst 4, 1) := by decide +kernel
theorem dX12_takenTo_188 : decode cX12_takenTo 188 = .ok (.invokevirtual 95, 3) := by decide +kernel
theorem dX12_takenTo_191 : decode cX12_takenTo 191 = .ok (.invokestatic 87, 3) := by decide +kernel
theorem dX12_takenTo_194 : decode cX12_takenTo 194 = .ok (.istore_n 3, 1) := by decide +kernel
theorem dX12_takenTo_195 : decode cX12_takenTo 195 = .ok (.iinc 4 1, 3) := by decide +kernel
theorem dX12_takenTo_198 : decode cX12_takenTo 198 = .ok (.goto (-56), 3) := by decide +kernel
theorem dX12_takenTo_201 : decode cX12_takenTo 201 = .ok (.iload_n 3, 1) := by decide +kernel
theorem dX12_takenTo_202 : decode cX12_takenTo 202 = .ok (.ireturn, 1) := by decide +kernel
theorem dX12_begins_0 : decode cX12_begins 0 = .ok (.iconst (-1), 1) := by decide +kernel
theorem dX12_begins_1 : decode cX12_begins 1 = .ok (.istore_n 3, 1) := by decide +kernel
theorem dX12_begins_2 : decode cX12_begins 2 = .ok (.iconst 0, 1) := by decide +kernel
theorem dX12_begins_3 : decode cX12_begins 3 = .ok (.istore 4, 2) := by decide +kernel
theorem dX12_begins_5 : decode cX12_begins 5 = .ok (.iload 4, 2) := by decide +kernel
theorem dX12_begins_7 : decode cX12_begins 7 = .ok (.aload_n 0, 1) := by decide +kernel
theorem dX12_begins_8 : decode cX12_begins 8 = .ok (.getfield 9, 3) := by decide +kernel
theorem dX12_begins_11 : decode cX12_begins 11 = .ok (.iconst 1, 1) := by decide +kernel
theorem dX12_begins_12 : decode cX12_begins 12 = .ok (.iaload, 1) := by decide +kernel
theorem dX12_begins_13 : decode cX12_begins 13 = .ok (.if_icmp .ge 75, 3) := by decide +kernel
theorem dX12_begins_16 : decode cX12_begins 16 = .ok (.iconst 0, 1) := by decide +kernel
theorem dX12_begins_17 : decode cX12_begins 17 = .ok (.istore 5, 2) := by decide +kernel
theorem dX12_begins_19 : decode cX12_begins 19 = .ok (.iload 5, 2) := by decide +kernel
theorem dX12_begins_21 : decode cX12_begins 21 = .ok (.aload_n 0, 1) := by decide +kernel
theorem dX12_begins_22 : decode cX12_begins 22 = .ok (.iload 4, 2) := by decide +kernel
theorem dX12_begins_24 : decode cX12_begins 24 = .ok (.iconst 4, 1) := by decide +kernel
theorem dX12_begins_25 : decode cX12_begins 25 = .ok (.invokevirtual 83, 3) := by decide +kernel
theorem dX12_begins_28 : decode cX12_begins 28 = .ok (.if_icmp .ge 54, 3) := by decide +kernel
theorem dX12_begins_31 : decode cX12_begins 31 = .ok (.aload_n 0, 1) := by decide +kernel
theorem dX12_begins_32 : decode cX12_begins 32 = .ok (.iload 4, 2) := by decide +kernel
theorem dX12_begins_34 : decode cX12_begins 34 = .ok (.bipush 9, 2) := by decide +kernel
theorem dX12_begins_36 : decode cX12_begins 36 = .ok (.invokevirtual 83, 3) := by decide +kernel
theorem dX12_begins_39 : decode cX12_begins 39 = .ok (.ifCond .lt 35, 3) := by decide +kernel
theorem dX12_begins_42 : decode cX12_begins 42 = .ok (.aload_n 0, 1) := by decide +kernel
theorem dX12_begins_43 : decode cX12_begins 43 = .ok (.iload 4, 2) := by decide +kernel
theorem dX12_begins_45 : decode cX12_begins 45 = .ok (.iload 5, 2) := by decide +kernel
theorem dX12_begins_47 : decode cX12_begins 47 = .ok (.invokevirtual 108, 3) := by decide +kernel
theorem dX12_begins_50 : decode cX12_begins 50 = .ok (.iload_n 1, 1) := by decide +kernel
theorem dX12_begins_51 : decode cX12_begins 51 = .ok (.ishr, 1) := by decide +kernel
theorem dX12_begins_52 : decode cX12_begins 52 = .ok (.iconst 1, 1) := by decide +kernel
theorem dX12_begins_53 : decode cX12_begins 53 = .ok (.iand, 1) := by decide +kernel
theorem dX12_begins_54 : decode cX12_begins 54 = .ok (.iconst 1, 1) := by decide +kernel
theorem dX12_begins_55 : decode cX12_begins 55 = .ok (.if_icmp .ne 19, 3) := by decide +kernel
theorem dX12_begins_58 : decode cX12_begins 58 = .ok (.aload_n 0, 1) := by decide +kernel
theorem dX12_begins_59 : decode cX12_begins 59 = .ok (.iload 4, 2) := by decide +kernel
theorem dX12_begins_61 : decode cX12_begins 61 = .ok (.bipush 9, 2) := by decide +kernel
theorem dX12_begins_63 : decode cX12_begins 63 = .ok (.invokevirtual 83, 3) := by decide +kernel
theorem dX12_begins_66 : decode cX12_begins 66 = .ok (.iload_n 2, 1) := by decide +kernel
theorem dX12_begins_67 : decode cX12_begins 67 = .ok (.iload_n 3, 1) := by decide +kernel
theorem dX12_begins_68 : decode cX12_begins 68 = .ok (.invokestatic 135, 3) := by decide +kernel
theorem dX12_begins_71 : decode cX12_begins 71 = .ok (.goto 4, 3) := by decide +kernel
theorem dX12_begins_74 : decode cX12_begins 74 = .ok (.iload_n 3, 1) := by decide +kernel
theorem dX12_begins_75 : decode cX12_begins 75 = .ok (.istore_n 3, 1) := by decide +kernel
theorem dX12_begins_76 : decode cX12_begins 76 = .ok (.iinc 5 1, 3) := by decide +kernel
theorem dX12_begins_79 : decode cX12_begins 79 = .ok (.goto (-60), 3) := by decide +kernel
theorem dX12_begins_82 : decode cX12_begins 82 = .ok (.iinc 4 1, 3) := by decide +kernel
theorem dX12_begins_85 : decode cX12_begins 85 = .ok (.goto (-80), 3) := by decide +kernel
theorem dX12_begins_88 : decode cX12_begins 88 = .ok (.iconst 0, 1) := by decide +kernel
theorem dX12_begins_89 : decode cX12_begins 89 = .ok (.istore 4, 2) := by decide +kernel
theorem dX12_begins_91 : decode cX12_begins 91 = .ok (.iload 4, 2) := by decide +kernel
theorem dX12_begins_93 : decode cX12_begins 93 = .ok (.bipush 12, 2) := by decide +kernel
theorem dX12_begins_95 : decode cX12_begins 95 = .ok (.if_icmp .ge 49, 3) := by decide +kernel
theorem dX12_begins_98 : decode cX12_begins 98 = .ok (.aload_n 0, 1) := by decide +kernel
theorem dX12_begins_99 : decode cX12_begins 99 = .ok (.iload 4, 2) := by decide +kernel
theorem dX12_begins_101 : decode cX12_begins 101 = .ok (.invokevirtual 111, 3) := by decide +kernel
theorem dX12_begins_104 : decode cX12_begins 104 = .ok (.ifCond .eq 32, 3) := by decide +kernel
theorem dX12_begins_107 : decode cX12_begins 107 = .ok (.aload_n 0, 1) := by decide +kernel
theorem dX12_begins_108 : decode cX12_begins 108 = .ok (.iload 4, 2) := by decide +kernel
theorem dX12_begins_110 : decode cX12_begins 110 = .ok (.invokevirtual 115, 3) := by decide +kernel
theorem dX12_begins_113 : decode cX12_begins 113 = .ok (.iload_n 1, 1) := by decide +kernel
theorem dX12_begins_114 : decode cX12_begins 114 = .ok (.ishr, 1) := by decide +kernel
theorem dX12_begins_115 : decode cX12_begins 115 = .ok (.iconst 1, 1) := by decide +kernel
theorem dX12_begins_116 : decode cX12_begins 116 = .ok (.iand, 1) := by decide +kernel
theorem dX12_begins_117 : decode cX12_begins 117 = .ok (.iconst 1, 1) := by decide +kernel
theorem dX12_begins_118 : decode cX12_begins 118 = .ok (.if_icmp .ne 18, 3) := by decide +kernel
theorem dX12_begins_121 : decode cX12_begins 121 = .ok (.aload_n 0, 1) := by decide +kernel
theorem dX12_begins_122 : decode cX12_begins 122 = .ok (.iload 4, 2) := by decide +kernel
theorem dX12_begins_124 : decode cX12_begins 124 = .ok (.iconst 3, 1) := by decide +kernel
theorem dX12_begins_125 : decode cX12_begins 125 = .ok (.invokevirtual 95, 3) := by decide +kernel
theorem dX12_begins_128 : decode cX12_begins 128 = .ok (.iload_n 2, 1) := by decide +kernel
theorem dX12_begins_129 : decode cX12_begins 129 = .ok (.iload_n 3, 1) := by decide +kernel
theorem dX12_begins_130 : decode cX12_begins 130 = .ok (.invokestatic 135, 3) := by decide +kernel
theorem dX12_begins_133 : decode cX12_begins 133 = .ok (.goto 4, 3) := by decide +kernel
theorem dX12_begins_136 : decode cX12_begins 136 = .ok (.iload_n 3, 1) := by decide +kernel
theorem dX12_begins_137 : decode cX12_begins 137 = .ok (.istore_n 3, 1) := by decide +kernel
theorem dX12_begins_138 : decode cX12_begins 138 = .ok (.iinc 4 1, 3) := by decide +kernel
theorem dX12_begins_141 : decode cX12_begins 141 = .ok (.goto (-50), 3) := by decide +kernel
theorem dX12_begins_144 : decode cX12_begins 144 = .ok (.iload_n 3, 1) := by decide +kernel
theorem dX12_begins_145 : decode cX12_begins 145 = .ok (.ireturn, 1) := by decide +kernel
theorem dX12_gap_0 : decode cX12_gap 0 = .ok (.iload_n 1, 1) := by decide +kernel
theorem dX12_gap_1 : decode cX12_gap 1 = .ok (.invokestatic 299, 3) := by decide +kernel
theorem dX12_gap_4 : decode cX12_gap 4 = .ok (.ifCond .eq 17, 3) := by decide +kernel
theorem dX12_gap_7 : decode cX12_gap 7 = .ok (.iload_n 2, 1) := by decide +kernel
theorem dX12_gap_8 : decode cX12_gap 8 = .ok (.ifCond .lt 13, 3) := by decide +kernel
theorem dX12_gap_11 : decode cX12_gap 11 = .ok (.iload_n 3, 1) := by decide +kernel
theorem dX12_gap_12 : decode cX12_gap 12 = .ok (.i2l, 1) := by decide +kernel
theorem dX12_gap_13 : decode cX12_gap 13 = .ok (.lconst 0, 1) := by decide +kernel
theorem dX12_gap_14 : decode cX12_gap 14 = .ok (.lconst 1, 1) := by decide +kernel
theorem dX12_gap_15 : decode cX12_gap 15 = .ok (.invokestatic 79, 3) := by decide +kernel
theorem dX12_gap_18 : decode cX12_gap 18 = .ok (.ifCond .ne 5, 3) := by decide +kernel
theorem dX12_gap_21 : decode cX12_gap 21 = .ok (.iconst (-1), 1) := by decide +kernel
theorem dX12_gap_22 : decode cX12_gap 22 = .ok (.ireturn, 1) := by decide +kernel
theorem dX12_gap_23 : decode cX12_gap 23 = .ok (.aload_n 0, 1) := by decide +kernel
theorem dX12_gap_24 : decode cX12_gap 24 = .ok (.getfield 9, 3) := by decide +kernel
theorem dX12_gap_27 : decode cX12_gap 27 = .ok (.iconst 0, 1) := by decide +kernel
theorem dX12_gap_28 : decode cX12_gap 28 = .ok (.iaload, 1) := by decide +kernel
theorem dX12_gap_29 : decode cX12_gap 29 = .ok (.istore 4, 2) := by decide +kernel
theorem dX12_gap_31 : decode cX12_gap 31 = .ok (.iload_n 2, 1) := by decide +kernel
theorem dX12_gap_32 : decode cX12_gap 32 = .ok (.istore 5, 2) := by decide +kernel
theorem dX12_gap_34 : decode cX12_gap 34 = .ok (.aload_n 0, 1) := by decide +kernel
theorem dX12_gap_35 : decode cX12_gap 35 = .ok (.iload_n 1, 1) := by decide +kernel
theorem dX12_gap_36 : decode cX12_gap 36 = .ok (.iload 4, 2) := by decide +kernel
theorem dX12_gap_38 : decode cX12_gap 38 = .ok (.invokevirtual 339, 3) := by decide +kernel
theorem dX12_gap_41 : decode cX12_gap 41 = .ok (.istore 6, 2) := by decide +kernel
theorem dX12_gap_43 : decode cX12_gap 43 = .ok (.iload 6, 2) := by decide +kernel
theorem dX12_gap_45 : decode cX12_gap 45 = .ok (.iload 4, 2) := by decide +kernel
theorem dX12_gap_47 : decode cX12_gap 47 = .ok (.if_icmp .le 19, 3) := by decide +kernel
theorem dX12_gap_50 : decode cX12_gap 50 = .ok (.iload 6, 2) := by decide +kernel
theorem dX12_gap_52 : decode cX12_gap 52 = .ok (.istore 4, 2) := by decide +kernel
theorem dX12_gap_54 : decode cX12_gap 54 = .ok (.aload_n 0, 1) := by decide +kernel
theorem dX12_gap_55 : decode cX12_gap 55 = .ok (.iload_n 1, 1) := by decide +kernel
theorem dX12_gap_56 : decode cX12_gap 56 = .ok (.iload 4, 2) := by decide +kernel
theorem dX12_gap_58 : decode cX12_gap 58 = .ok (.invokevirtual 339, 3) := by decide +kernel
theorem dX12_gap_61 : decode cX12_gap 61 = .ok (.istore 6, 2) := by decide +kernel
theorem dX12_gap_63 : decode cX12_gap 63 = .ok (.goto (-20), 3) := by decide +kernel
theorem dX12_gap_66 : decode cX12_gap 66 = .ok (.aload_n 0, 1) := by decide +kernel
theorem dX12_gap_67 : decode cX12_gap 67 = .ok (.iload_n 1, 1) := by decide +kernel
theorem dX12_gap_68 : decode cX12_gap 68 = .ok (.iload 4, 2) := by decide +kernel
theorem dX12_gap_70 : decode cX12_gap 70 = .ok (.invokevirtual 342, 3) := by decide +kernel
theorem dX12_gap_73 : decode cX12_gap 73 = .ok (.istore 7, 2) := by decide +kernel
theorem dX12_gap_75 : decode cX12_gap 75 = .ok (.iload 5, 2) := by decide +kernel
theorem dX12_gap_77 : decode cX12_gap 77 = .ok (.ifCond .ne 28, 3) := by decide +kernel
theorem dX12_gap_80 : decode cX12_gap 80 = .ok (.iload_n 3, 1) := by decide +kernel
theorem dX12_gap_81 : decode cX12_gap 81 = .ok (.ifCond .ne 8, 3) := by decide +kernel
theorem dX12_gap_84 : decode cX12_gap 84 = .ok (.iload 4, 2) := by decide +kernel
theorem dX12_gap_86 : decode cX12_gap 86 = .ok (.goto 18, 3) := by decide +kernel
theorem dX12_gap_89 : decode cX12_gap 89 = .ok (.iload 7, 2) := by decide +kernel
theorem dX12_gap_91 : decode cX12_gap 91 = .ok (.ifCond .ge 8, 3) := by decide +kernel
theorem dX12_gap_94 : decode cX12_gap 94 = .ok (.bipush (-2), 2) := by decide +kernel
theorem dX12_gap_96 : decode cX12_gap 96 = .ok (.goto 8, 3) := by decide +kernel
theorem dX12_gap_99 : decode cX12_gap 99 = .ok (.iload 7, 2) := by decide +kernel
theorem dX12_gap_101 : decode cX12_gap 101 = .ok (.iload 4, 2) := by decide +kernel
theorem dX12_gap_103 : decode cX12_gap 103 = .ok (.isub, 1) := by decide +kernel
theorem dX12_gap_104 : decode cX12_gap 104 = .ok (.ireturn, 1) := by decide +kernel
theorem dX12_gap_105 : decode cX12_gap 105 = .ok (.iload 7, 2) := by decide +kernel
theorem dX12_gap_107 : decode cX12_gap 107 = .ok (.ifCond .ge 6, 3) := by decide +kernel
theorem dX12_gap_110 : decode cX12_gap 110 = .ok (.bipush (-2), 2) := by decide +kernel
theorem dX12_gap_112 : decode cX12_gap 112 = .ok (.ireturn, 1) := by decide +kernel
theorem dX12_gap_113 : decode cX12_gap 113 = .ok (.iload 7, 2) := by decide +kernel
theorem dX12_gap_115 : decode cX12_gap 115 = .ok (.istore 4, 2) := by decide +kernel
theorem dX12_gap_117 : decode cX12_gap 117 = .ok (.iinc 5 (-1), 3) := by decide +kernel
theorem dX12_gap_120 : decode cX12_gap 120 = .ok (.goto (-86), 3) := by decide +kernel
theorem dX12_ways_0 : decode cX12_ways 0 = .ok (.iload_n 2, 1) := by decide +kernel
theorem dX12_ways_1 : decode cX12_ways 1 = .ok (.iconst 1, 1) := by decide +kernel
theorem dX12_ways_2 : decode cX12_ways 2 = .ok (.aload_n 0, 1) := by decide +kernel
theorem dX12_ways_3 : decode cX12_ways 3 = .ok (.getfield 122, 3) := by decide +kernel
theorem dX12_ways_6 : decode cX12_ways 6 = .ok (.ishl, 1) := by decide +kernel
theorem dX12_ways_7 : decode cX12_ways 7 = .ok (.iconst 1, 1) := by decide +kernel
theorem dX12_ways_8 : decode cX12_ways 8 = .ok (.isub, 1) := by decide +kernel
theorem dX12_ways_9 : decode cX12_ways 9 = .ok (.if_icmp .ne 5, 3) := by decide +kernel
theorem dX12_ways_12 : decode cX12_ways 12 = .ok (.iconst 1, 1) := by decide +kernel
theorem dX12_ways_13 : decode cX12_ways 13 = .ok (.ireturn, 1) := by decide +kernel
theorem dX12_ways_14 : decode cX12_ways 14 = .ok (.iconst 0, 1) := by decide +kernel
theorem dX12_ways_15 : decode cX12_ways 15 = .ok (.istore 4, 2) := by decide +kernel
theorem dX12_ways_17 : decode cX12_ways 17 = .ok (.iconst 0, 1) := by decide +kernel
theorem dX12_ways_18 : decode cX12_ways 18 = .ok (.istore 5, 2) := by decide +kernel
theorem dX12_ways_20 : decode cX12_ways 20 = .ok (.iload 5, 2) := by decide +kernel
theorem dX12_ways_22 : decode cX12_ways 22 = .ok (.aload_n 0, 1) := by decide +kernel
theorem dX12_ways_23 : decode cX12_ways 23 = .ok (.getfield 122, 3) := by decide +kernel
theorem dX12_ways_26 : decode cX12_ways 26 = .ok (.if_icmp .ge 92, 3) := by decide +kernel
theorem dX12_ways_29 : decode cX12_ways 29 = .ok (.iload_n 2, 1) := by decide +kernel
theorem dX12_ways_30 : decode cX12_ways 30 = .ok (.iload 5, 2) := by decide +kernel
theorem dX12_ways_32 : decode cX12_ways 32 = .ok (.ishr, 1) := by decide +kernel
theorem dX12_ways_33 : decode cX12_ways 33 = .ok (.iconst 1, 1) := by decide +kernel
theorem dX12_ways_34 : decode cX12_ways 34 = .ok (.iand, 1) := by decide +kernel
theorem dX12_ways_35 : decode cX12_ways 35 = .ok (.ifCond .ne 77, 3) := by decide +kernel
theorem dX12_ways_38 : decode cX12_ways 38 = .ok (.aload_n 0, 1) := by decide +kernel
theorem dX12_ways_39 : decode cX12_ways 39 = .ok (.iload_n 1, 1) := by decide +kernel
theorem dX12_ways_40 : decode cX12_ways 40 = .ok (.i2l, 1) := by decide +kernel
theorem dX12_ways_41 : decode cX12_ways 41 = .ok (.iload_n 1, 1) := by decide +kernel
theorem dX12_ways_42 : decode cX12_ways 42 = .ok (.i2l, 1) := by decide +kernel
theorem dX12_ways_43 : decode cX12_ways 43 = .ok (.aload_n 0, 1) := by decide +kernel
theorem dX12_ways_44 : decode cX12_ways 44 = .ok (.getfield 36, 3) := by decide +kernel
theorem dX12_ways_47 : decode cX12_ways 47 = .ok (.iload 5, 2) := by decide +kernel
theorem dX12_ways_49 : decode cX12_ways 49 = .ok (.iaload, 1) := by decide +kernel
theorem dX12_ways_50 : decode cX12_ways 50 = .ok (.i2l, 1) := by decide +kernel
theorem dX12_ways_51 : decode cX12_ways 51 = .ok (.ladd, 1) := by decide +kernel
theorem dX12_ways_52 : decode cX12_ways 52 = .ok (.aload_n 0, 1) := by decide +kernel
theorem dX12_ways_53 : decode cX12_ways 53 = .ok (.getfield 125, 3) := by decide +kernel
theorem dX12_ways_56 : decode cX12_ways 56 = .ok (.invokevirtual 128, 3) := by decide +kernel
theorem dX12_ways_59 : decode cX12_ways 59 = .ok (.iload_n 3, 1) := by decide +kernel
theorem dX12_ways_60 : decode cX12_ways 60 = .ok (.ior, 1) := by decide +kernel
theorem dX12_ways_61 : decode cX12_ways 61 = .ok (.aload_n 0, 1) := by decide +kernel
theorem dX12_ways_62 : decode cX12_ways 62 = .ok (.getfield 33, 3) := by decide +kernel
theorem dX12_ways_65 : decode cX12_ways 65 = .ok (.iload 5, 2) := by decide +kernel
theorem dX12_ways_67 : decode cX12_ways 67 = .ok (.iaload, 1) := by decide +kernel
theorem dX12_ways_68 : decode cX12_ways 68 = .ok (.invokestatic 132, 3) := by decide +kernel
theorem dX12_ways_71 : decode cX12_ways 71 = .ok (.istore 6, 2) := by decide +kernel
theorem dX12_ways_73 : decode cX12_ways 73 = .ok (.iload 4, 2) := by decide +kernel
theorem dX12_ways_75 : decode cX12_ways 75 = .ok (.iload 6, 2) := by decide +kernel
theorem dX12_ways_77 : decode cX12_ways 77 = .ok (.ifCond .ge 7, 3) := by decide +kernel
theorem dX12_ways_80 : decode cX12_ways 80 = .ok (.iconst 0, 1) := by decide +kernel
theorem dX12_ways_81 : decode cX12_ways 81 = .ok (.goto 28, 3) := by decide +kernel
theorem dX12_ways_84 : decode cX12_ways 84 = .ok (.aload_n 0, 1) := by decide +kernel
theorem dX12_ways_85 : decode cX12_ways 85 = .ok (.iload_n 1, 1) := by decide +kernel
theorem dX12_ways_86 : decode cX12_ways 86 = .ok (.iload_n 2, 1) := by decide +kernel
theorem dX12_ways_87 : decode cX12_ways 87 = .ok (.iconst 1, 1) := by decide +kernel
theorem dX12_ways_88 : decode cX12_ways 88 = .ok (.iload 5, 2) := by decide +kernel
theorem dX12_ways_90 : decode cX12_ways 90 = .ok (.ishl, 1) := by decide +kernel
theorem dX12_ways_91 : decode cX12_ways 91 = .ok (.ior, 1) := by decide +kernel
theorem dX12_ways_92 : decode cX12_ways 92 = .ok (.iload_n 3, 1) := by decide +kernel
theorem dX12_ways_93 : decode cX12_ways 93 = .ok (.iload 6, 2) := by decide +kernel
theorem dX12_ways_95 : decode cX12_ways 95 = .ok (.aload_n 0, 1) := by decide +kernel
theorem dX12_ways_96 : decode cX12_ways 96 = .ok (.getfield 33, 3) := by decide +kernel
theorem dX12_ways_99 : decode cX12_ways 99 = .ok (.iload 5, 2) := by decide +kernel
theorem dX12_ways_101 : decode cX12_ways 101 = .ok (.iaload, 1) := by decide +kernel
theorem dX12_ways_102 : decode cX12_ways 102 = .ok (.invokestatic 92, 3) := by decide +kernel
theorem dX12_ways_105 : decode cX12_ways 105 = .ok (.ior, 1) := by decide +kernel
theorem dX12_ways_106 : decode cX12_ways 106 = .ok (.invokevirtual 345, 3) := by decide +kernel
theorem dX12_ways_109 : decode cX12_ways 109 = .ok (.iadd, 1) := by decide +kernel
theorem dX12_ways_110 : decode cX12_ways 110 = .ok (.istore 4, 2) := by decide +kernel
theorem dX12_ways_112 : decode cX12_ways 112 = .ok (.iinc 5 1, 3) := by decide +kernel
theorem dX12_ways_115 : decode cX12_ways 115 = .ok (.goto (-95), 3) := by decide +kernel
theorem dX12_ways_118 : decode cX12_ways 118 = .ok (.iload 4, 2) := by decide +kernel
theorem dX12_ways_120 : decode cX12_ways 120 = .ok (.ireturn, 1) := by decide +kernel
theorem dX12_orders_0 : decode cX12_orders 0 = .ok (.aload_n 0, 1) := by decide +kernel
theorem dX12_orders_1 : decode cX12_orders 1 = .ok (.iload_n 1, 1) := by decide +kernel
theorem dX12_orders_2 : decode cX12_orders 2 = .ok (.invokevirtual 200, 3) := by decide +kernel
theorem dX12_orders_5 : decode cX12_orders 5 = .ok (.ifCond .eq 29, 3) := by decide +kernel
theorem dX12_orders_8 : decode cX12_orders 8 = .ok (.iload_n 2, 1) := by decide +kernel
theorem dX12_orders_9 : decode cX12_orders 9 = .ok (.i2l, 1) := by decide +kernel
theorem dX12_orders_10 : decode cX12_orders 10 = .ok (.aload_n 0, 1) := by decide +kernel
theorem dX12_orders_11 : decode cX12_orders 11 = .ok (.getfield 9, 3) := by decide +kernel
theorem dX12_orders_14 : decode cX12_orders 14 = .ok (.iconst 0, 1) := by decide +kernel
theorem dX12_orders_15 : decode cX12_orders 15 = .ok (.iaload, 1) := by decide +kernel
theorem dX12_orders_16 : decode cX12_orders 16 = .ok (.i2l, 1) := by decide +kernel
theorem dX12_orders_17 : decode cX12_orders 17 = .ok (.aload_n 0, 1) := by decide +kernel
theorem dX12_orders_18 : decode cX12_orders 18 = .ok (.getfield 9, 3) := by decide +kernel
theorem dX12_orders_21 : decode cX12_orders 21 = .ok (.iconst 0, 1) := by decide +kernel
theorem dX12_orders_22 : decode cX12_orders 22 = .ok (.iaload, 1) := by decide +kernel
theorem dX12_orders_23 : decode cX12_orders 23 = .ok (.sipush 20000, 3) := by decide +kernel
theorem dX12_orders_26 : decode cX12_orders 26 = .ok (.iadd, 1) := by decide +kernel
theorem dX12_orders_27 : decode cX12_orders 27 = .ok (.i2l, 1) := by decide +kernel
theorem dX12_orders_28 : decode cX12_orders 28 = .ok (.invokestatic 79, 3) := by decide +kernel
theorem dX12_orders_31 : decode cX12_orders 31 = .ok (.ifCond .ne 5, 3) := by decide +kernel
theorem dX12_orders_34 : decode cX12_orders 34 = .ok (.iconst (-1), 1) := by decide +kernel
theorem dX12_orders_35 : decode cX12_orders 35 = .ok (.ireturn, 1) := by decide +kernel
theorem dX12_orders_36 : decode cX12_orders 36 = .ok (.aload_n 0, 1) := by decide +kernel
theorem dX12_orders_37 : decode cX12_orders 37 = .ok (.iload_n 1, 1) := by decide +kernel
theorem dX12_orders_38 : decode cX12_orders 38 = .ok (.invokevirtual 211, 3) := by decide +kernel
theorem dX12_orders_41 : decode cX12_orders 41 = .ok (.ifCond .ne 6, 3) := by decide +kernel
theorem dX12_orders_44 : decode cX12_orders 44 = .ok (.bipush (-5), 2) := by decide +kernel
theorem dX12_orders_46 : decode cX12_orders 46 = .ok (.ireturn, 1) := by decide +kernel
theorem dX12_orders_47 : decode cX12_orders 47 = .ok (.aload_n 0, 1) := by decide +kernel
theorem dX12_orders_48 : decode cX12_orders 48 = .ok (.iload_n 1, 1) := by decide +kernel
theorem dX12_orders_49 : decode cX12_orders 49 = .ok (.putfield 42, 3) := by decide +kernel
theorem dX12_orders_52 : decode cX12_orders 52 = .ok (.aload_n 0, 1) := by decide +kernel
theorem dX12_orders_53 : decode cX12_orders 53 = .ok (.iload_n 1, 1) := by decide +kernel
theorem dX12_orders_54 : decode cX12_orders 54 = .ok (.invokevirtual 275, 3) := by decide +kernel
theorem dX12_orders_57 : decode cX12_orders 57 = .ok (.aload_n 0, 1) := by decide +kernel
theorem dX12_orders_58 : decode cX12_orders 58 = .ok (.iload_n 2, 1) := by decide +kernel
theorem dX12_orders_59 : decode cX12_orders 59 = .ok (.iconst 0, 1) := by decide +kernel
theorem dX12_orders_60 : decode cX12_orders 60 = .ok (.iconst 0, 1) := by decide +kernel
theorem dX12_orders_61 : decode cX12_orders 61 = .ok (.invokevirtual 345, 3) := by decide +kernel
theorem dX12_orders_64 : decode cX12_orders 64 = .ok (.istore_n 3, 1) := by decide +kernel
theorem dX12_orders_65 : decode cX12_orders 65 = .ok (.aload_n 0, 1) := by decide +kernel
theorem dX12_orders_66 : decode cX12_orders 66 = .ok (.iconst (-1), 1) := by decide +kernel
theorem dX12_orders_67 : decode cX12_orders 67 = .ok (.putfield 42, 3) := by decide +kernel
theorem dX12_orders_70 : decode cX12_orders 70 = .ok (.iload_n 3, 1) := by decide +kernel
theorem dX12_orders_71 : decode cX12_orders 71 = .ok (.ireturn, 1) := by decide +kernel
theorem dX12_costs_0 : decode cX12_costs 0 = .ok (.iload_n 1, 1) := by decide +kernel
theorem dX12_costs_1 : decode cX12_costs 1 = .ok (.invokestatic 145, 3) := by decide +kernel
theorem dX12_costs_4 : decode cX12_costs 4 = .ok (.ifCond .eq 25, 3) := by decide +kernel
theorem dX12_costs_7 : decode cX12_costs 7 = .ok (.iload_n 2, 1) := by decide +kernel
theorem dX12_costs_8 : decode cX12_costs 8 = .ok (.i2l, 1) := by decide +kernel
theorem dX12_costs_9 : decode cX12_costs 9 = .ok (.lconst 0, 1) := by decide +kernel
theorem dX12_costs_10 : decode cX12_costs 10 = .ok (.ldc2_w 196, 3) := by decide +kernel
theorem dX12_costs_13 : decode cX12_costs 13 = .ok (.invokestatic 79, 3) := by decide +kernel
theorem dX12_costs_16 : decode cX12_costs 16 = .ok (.ifCond .eq 13, 3) := by decide +kernel
theorem dX12_costs_19 : decode cX12_costs 19 = .ok (.iload_n 3, 1) := by decide +kernel
theorem dX12_costs_20 : decode cX12_costs 20 = .ok (.i2l, 1) := by decide +kernel
theorem dX12_costs_21 : decode cX12_costs 21 = .ok (.lconst 0, 1) := by decide +kernel
theorem dX12_costs_22 : decode cX12_costs 22 = .ok (.lconst 1, 1) := by decide +kernel
theorem dX12_costs_23 : decode cX12_costs 23 = .ok (.invokestatic 79, 3) := by decide +kernel
theorem dX12_costs_26 : decode cX12_costs 26 = .ok (.ifCond .ne 5, 3) := by decide +kernel
theorem dX12_costs_29 : decode cX12_costs 29 = .ok (.iconst (-1), 1) := by decide +kernel
theorem dX12_costs_30 : decode cX12_costs 30 = .ok (.ireturn, 1) := by decide +kernel
theorem dX12_costs_31 : decode cX12_costs 31 = .ok (.aload_n 0, 1) := by decide +kernel
theorem dX12_costs_32 : decode cX12_costs 32 = .ok (.getfield 9, 3) := by decide +kernel
theorem dX12_costs_35 : decode cX12_costs 35 = .ok (.iconst 1, 1) := by decide +kernel
theorem dX12_costs_36 : decode cX12_costs 36 = .ok (.iaload, 1) := by decide +kernel
theorem dX12_costs_37 : decode cX12_costs 37 = .ok (.bipush 80, 2) := by decide +kernel
theorem dX12_costs_39 : decode cX12_costs 39 = .ok (.if_icmp .ne 6, 3) := by decide +kernel
theorem dX12_costs_42 : decode cX12_costs 42 = .ok (.bipush (-3), 2) := by decide +kernel
theorem dX12_costs_44 : decode cX12_costs 44 = .ok (.ireturn, 1) := by decide +kernel
theorem dX12_costs_45 : decode cX12_costs 45 = .ok (.aload_n 0, 1) := by decide +kernel
theorem dX12_costs_46 : decode cX12_costs 46 = .ok (.invokevirtual 203, 3) := by decide +kernel
theorem dX12_costs_49 : decode cX12_costs 49 = .ok (.istore 4, 2) := by decide +kernel
theorem dX12_costs_51 : decode cX12_costs 51 = .ok (.iload 4, 2) := by decide +kernel
theorem dX12_costs_53 : decode cX12_costs 53 = .ok (.ifCond .lt 9, 3) := by decide +kernel
theorem dX12_costs_56 : decode cX12_costs 56 = .ok (.bipush (-100), 2) := by decide +kernel
theorem dX12_costs_58 : decode cX12_costs 58 = .ok (.iload 4, 2) := by decide +kernel
theorem dX12_costs_60 : decode cX12_costs 60 = .ok (.isub, 1) := by decide +kernel
theorem dX12_costs_61 : decode cX12_costs 61 = .ok (.ireturn, 1) := by decide +kernel
theorem dX12_costs_62 : decode cX12_costs 62 = .ok (.aload_n 0, 1) := by decide +kernel
theorem dX12_costs_63 : decode cX12_costs 63 = .ok (.getfield 9, 3) := by decide +kernel
theorem dX12_costs_66 : decode cX12_costs 66 = .ok (.iconst 1, 1) := by decide +kernel
theorem dX12_costs_67 : decode cX12_costs 67 = .ok (.iaload, 1) := by decide +kernel
theorem dX12_costs_68 : decode cX12_costs 68 = .ok (.istore 5, 2) := by decide +kernel
theorem dX12_costs_70 : decode cX12_costs 70 = .ok (.aload_n 0, 1) := by decide +kernel
theorem dX12_costs_71 : decode cX12_costs 71 = .ok (.invokevirtual 306, 3) := by decide +kernel
theorem dX12_costs_74 : decode cX12_costs 74 = .ok (.aload_n 0, 1) := by decide +kernel
theorem dX12_costs_75 : decode cX12_costs 75 = .ok (.iload_n 1, 1) := by decide +kernel
theorem dX12_costs_76 : decode cX12_costs 76 = .ok (.iload_n 2, 1) := by decide +kernel
theorem dX12_costs_77 : decode cX12_costs 77 = .ok (.bipush 100, 2) := by decide +kernel
theorem dX12_costs_79 : decode cX12_costs 79 = .ok (.iconst (-1), 1) := by decide +kernel
theorem dX12_costs_80 : decode cX12_costs 80 = .ok (.invokevirtual 207, 3) := by decide +kernel
theorem dX12_costs_83 : decode cX12_costs 83 = .ok (.istore 6, 2) := by decide +kernel
theorem dX12_costs_85 : decode cX12_costs 85 = .ok (.aload_n 0, 1) := by decide +kernel
theorem dX12_costs_86 : decode cX12_costs 86 = .ok (.invokevirtual 309, 3) := by decide +kernel
theorem dX12_costs_89 : decode cX12_costs 89 = .ok (.aload_n 0, 1) := by decide +kernel
theorem dX12_costs_90 : decode cX12_costs 90 = .ok (.iload 6, 2) := by decide +kernel
theorem dX12_costs_92 : decode cX12_costs 92 = .ok (.bipush 6, 2) := by decide +kernel
theorem dX12_costs_94 : decode cX12_costs 94 = .ok (.invokevirtual 83, 3) := by decide +kernel
theorem dX12_costs_97 : decode cX12_costs 97 = .ok (.istore 7, 2) := by decide +kernel
theorem dX12_costs_99 : decode cX12_costs 99 = .ok (.iconst 0, 1) := by decide +kernel
theorem dX12_costs_100 : decode cX12_costs 100 = .ok (.istore 8, 2) := by decide +kernel
theorem dX12_costs_102 : decode cX12_costs 102 = .ok (.iload 8, 2) := by decide +kernel
theorem dX12_costs_104 : decode cX12_costs 104 = .ok (.iload 5, 2) := by decide +kernel
theorem dX12_costs_106 : decode cX12_costs 106 = .ok (.if_icmp .ge 24, 3) := by decide +kernel
theorem dX12_costs_109 : decode cX12_costs 109 = .ok (.aload_n 0, 1) := by decide +kernel
theorem dX12_costs_110 : decode cX12_costs 110 = .ok (.getfield 67, 3) := by decide +kernel
theorem dX12_costs_113 : decode cX12_costs 113 = .ok (.iload 8, 2) := by decide +kernel
theorem dX12_costs_115 : decode cX12_costs 115 = .ok (.aload_n 0, 1) := by decide +kernel
theorem dX12_costs_116 : decode cX12_costs 116 = .ok (.iload 8, 2) := by decide +kernel
theorem dX12_costs_118 : decode cX12_costs 118 = .ok (.bipush 6, 2) := by decide +kernel
theorem dX12_costs_120 : decode cX12_costs 120 = .ok (.invokevirtual 83, 3) := by decide +kernel
theorem dX12_costs_123 : decode cX12_costs 123 = .ok (.iastore, 1) := by decide +kernel
theorem dX12_costs_124 : decode cX12_costs 124 = .ok (.iinc 8 1, 3) := by decide +kernel
theorem dX12_costs_127 : decode cX12_costs 127 = .ok (.goto (-25), 3) := by decide +kernel
theorem dX12_costs_130 : decode cX12_costs 130 = .ok (.aload_n 0, 1) := by decide +kernel
theorem dX12_costs_131 : decode cX12_costs 131 = .ok (.invokevirtual 312, 3) := by decide +kernel
theorem dX12_costs_134 : decode cX12_costs 134 = .ok (.iload_n 3, 1) := by decide +kernel
theorem dX12_costs_135 : decode cX12_costs 135 = .ok (.ifCond .ne 9, 3) := by decide +kernel
theorem dX12_costs_138 : decode cX12_costs 138 = .ok (.iload 7, 2) := by decide +kernel
theorem dX12_costs_140 : decode cX12_costs 140 = .ok (.invokestatic 217, 3) := by decide +kernel
theorem dX12_costs_143 : decode cX12_costs 143 = .ok (.ireturn, 1) := by decide +kernel
theorem dX12_costs_144 : decode cX12_costs 144 = .ok (.aload_n 0, 1) := by decide +kernel
theorem dX12_costs_145 : decode cX12_costs 145 = .ok (.invokevirtual 306, 3) := by decide +kernel
theorem dX12_costs_148 : decode cX12_costs 148 = .ok (.aload_n 0, 1) := by decide +kernel
theorem dX12_costs_149 : decode cX12_costs 149 = .ok (.invokevirtual 309, 3) := by decide +kernel
theorem dX12_costs_152 : decode cX12_costs 152 = .ok (.iconst 0, 1) := by decide +kernel
theorem dX12_costs_153 : decode cX12_costs 153 = .ok (.istore 8, 2) := by decide +kernel
theorem dX12_costs_155 : decode cX12_costs 155 = .ok (.iconst 0, 1) := by decide +kernel
theorem dX12_costs_156 : decode cX12_costs 156 = .ok (.istore 9, 2) := by decide +kernel
theorem dX12_costs_158 : decode cX12_costs 158 = .ok (.iload 9, 2) := by decide +kernel
theorem dX12_costs_160 : decode cX12_costs 160 = .ok (.iload 5, 2) := by decide +kernel
theorem dX12_costs_162 : decode cX12_costs 162 = .ok (.if_icmp .ge 55, 3) := by decide +kernel
theorem dX12_costs_165 : decode cX12_costs 165 = .ok (.aload_n 0, 1) := by decide +kernel
theorem dX12_costs_166 : decode cX12_costs 166 = .ok (.iload 9, 2) := by decide +kernel
theorem dX12_costs_168 : decode cX12_costs 168 = .ok (.bipush 6, 2) := by decide +kernel
theorem dX12_costs_170 : decode cX12_costs 170 = .ok (.invokevirtual 83, 3) := by decide +kernel
theorem dX12_costs_173 : decode cX12_costs 173 = .ok (.istore 10, 2) := by decide +kernel
theorem dX12_costs_175 : decode cX12_costs 175 = .ok (.iload 8, 2) := by decide +kernel
theorem dX12_costs_177 : decode cX12_costs 177 = .ok (.aload_n 0, 1) := by decide +kernel
theorem dX12_costs_178 : decode cX12_costs 178 = .ok (.getfield 67, 3) := by decide +kernel
theorem dX12_costs_181 : decode cX12_costs 181 = .ok (.iload 9, 2) := by decide +kernel
theorem dX12_costs_183 : decode cX12_costs 183 = .ok (.iaload, 1) := by decide +kernel
theorem dX12_costs_184 : decode cX12_costs 184 = .ok (.iload 10, 2) := by decide +kernel
theorem dX12_costs_186 : decode cX12_costs 186 = .ok (.if_icmp .le 21, 3) := by decide +kernel
theorem dX12_costs_189 : decode cX12_costs 189 = .ok (.iload 10, 2) := by decide +kernel
theorem dX12_costs_191 : decode cX12_costs 191 = .ok (.ifCond .lt 16, 3) := by decide +kernel
theorem dX12_costs_194 : decode cX12_costs 194 = .ok (.aload_n 0, 1) := by decide +kernel
theorem dX12_costs_195 : decode cX12_costs 195 = .ok (.getfield 67, 3) := by decide +kernel
theorem dX12_costs_198 : decode cX12_costs 198 = .ok (.iload 9, 2) := by decide +kernel
theorem dX12_costs_200 : decode cX12_costs 200 = .ok (.iaload, 1) := by decide +kernel
theorem dX12_costs_201 : decode cX12_costs 201 = .ok (.iload 10, 2) := by decide +kernel
theorem dX12_costs_203 : decode cX12_costs 203 = .ok (.isub, 1) := by decide +kernel
theorem dX12_costs_204 : decode cX12_costs 204 = .ok (.goto 4, 3) := by decide +kernel
theorem dX12_costs_207 : decode cX12_costs 207 = .ok (.iconst 0, 1) := by decide +kernel
theorem dX12_costs_208 : decode cX12_costs 208 = .ok (.iadd, 1) := by decide +kernel
theorem dX12_costs_209 : decode cX12_costs 209 = .ok (.istore 8, 2) := by decide +kernel
theorem dX12_costs_211 : decode cX12_costs 211 = .ok (.iinc 9 1, 3) := by decide +kernel
theorem dX12_costs_214 : decode cX12_costs 214 = .ok (.goto (-56), 3) := by decide +kernel
theorem dX12_costs_217 : decode cX12_costs 217 = .ok (.aload_n 0, 1) := by decide +kernel
theorem dX12_costs_218 : decode cX12_costs 218 = .ok (.invokevirtual 312, 3) := by decide +kernel
theorem dX12_costs_221 : decode cX12_costs 221 = .ok (.iload 8, 2) := by decide +kernel
theorem dX12_costs_223 : decode cX12_costs 223 = .ok (.ireturn, 1) := by decide +kernel
theorem dX12_earliest_0 : decode cX12_earliest 0 = .ok (.iload_n 1, 1) := by decide +kernel
theorem dX12_earliest_1 : decode cX12_earliest 1 = .ok (.invokestatic 145, 3) := by decide +kernel
theorem dX12_earliest_4 : decode cX12_earliest 4 = .ok (.ifCond .ne 5, 3) := by decide +kernel
theorem dX12_earliest_7 : decode cX12_earliest 7 = .ok (.iconst (-1), 1) := by decide +kernel
theorem dX12_earliest_8 : decode cX12_earliest 8 = .ok (.ireturn, 1) := by decide +kernel
theorem dX12_earliest_9 : decode cX12_earliest 9 = .ok (.aload_n 0, 1) := by decide +kernel
theorem dX12_earliest_10 : decode cX12_earliest 10 = .ok (.invokevirtual 203, 3) := by decide +kernel
theorem dX12_earliest_13 : decode cX12_earliest 13 = .ok (.istore_n 2, 1) := by decide +kernel
theorem dX12_earliest_14 : decode cX12_earliest 14 = .ok (.iload_n 2, 1) := by decide +kernel
theorem dX12_earliest_15 : decode cX12_earliest 15 = .ok (.ifCond .lt 8, 3) := by decide +kernel
theorem dX12_earliest_18 : decode cX12_earliest 18 = .ok (.bipush (-100), 2) := by decide +kernel
theorem dX12_earliest_20 : decode cX12_earliest 20 = .ok (.iload_n 2, 1) := by decide +kernel
theorem dX12_earliest_21 : decode cX12_earliest 21 = .ok (.isub, 1) := by decide +kernel
theorem dX12_earliest_22 : decode cX12_earliest 22 = .ok (.ireturn, 1) := by decide +kernel
theorem dX12_earliest_23 : decode cX12_earliest 23 = .ok (.aload_n 0, 1) := by decide +kernel
theorem dX12_earliest_24 : decode cX12_earliest 24 = .ok (.iload_n 1, 1) := by decide +kernel
theorem dX12_earliest_25 : decode cX12_earliest 25 = .ok (.putfield 125, 3) := by decide +kernel
theorem dX12_earliest_28 : decode cX12_earliest 28 = .ok (.aload_n 0, 1) := by decide +kernel
theorem dX12_earliest_29 : decode cX12_earliest 29 = .ok (.aload_n 0, 1) := by decide +kernel
theorem dX12_earliest_30 : decode cX12_earliest 30 = .ok (.getfield 9, 3) := by decide +kernel
theorem dX12_earliest_33 : decode cX12_earliest 33 = .ok (.iconst 0, 1) := by decide +kernel
theorem dX12_earliest_34 : decode cX12_earliest 34 = .ok (.iaload, 1) := by decide +kernel
theorem dX12_earliest_35 : decode cX12_earliest 35 = .ok (.invokevirtual 269, 3) := by decide +kernel
theorem dX12_earliest_38 : decode cX12_earliest 38 = .ok (.invokestatic 217, 3) := by decide +kernel
theorem dX12_earliest_41 : decode cX12_earliest 41 = .ok (.ireturn, 1) := by decide +kernel
theorem dX12_holes_0 : decode cX12_holes 0 = .ok (.iload_n 1, 1) := by decide +kernel
theorem dX12_holes_1 : decode cX12_holes 1 = .ok (.aload_n 0, 1) := by decide +kernel
theorem dX12_holes_2 : decode cX12_holes 2 = .ok (.getfield 9, 3) := by decide +kernel
theorem dX12_holes_5 : decode cX12_holes 5 = .ok (.iconst 0, 1) := by decide +kernel
theorem dX12_holes_6 : decode cX12_holes 6 = .ok (.iaload, 1) := by decide +kernel
theorem dX12_holes_7 : decode cX12_holes 7 = .ok (.if_icmp .lt 25, 3) := by decide +kernel
theorem dX12_holes_10 : decode cX12_holes 10 = .ok (.iload_n 2, 1) := by decide +kernel
theorem dX12_holes_11 : decode cX12_holes 11 = .ok (.i2l, 1) := by decide +kernel
theorem dX12_holes_12 : decode cX12_holes 12 = .ok (.lconst 1, 1) := by decide +kernel
theorem dX12_holes_13 : decode cX12_holes 13 = .ok (.ldc2_w 348, 3) := by decide +kernel
theorem dX12_holes_16 : decode cX12_holes 16 = .ok (.invokestatic 79, 3) := by decide +kernel
theorem dX12_holes_19 : decode cX12_holes 19 = .ok (.ifCond .eq 13, 3) := by decide +kernel
theorem dX12_holes_22 : decode cX12_holes 22 = .ok (.iload_n 3, 1) := by decide +kernel
theorem dX12_holes_23 : decode cX12_holes 23 = .ok (.i2l, 1) := by decide +kernel
theorem dX12_holes_24 : decode cX12_holes 24 = .ok (.lconst 0, 1) := by decide +kernel
theorem dX12_holes_25 : decode cX12_holes 25 = .ok (.lconst 1, 1) := by decide +kernel
theorem dX12_holes_26 : decode cX12_holes 26 = .ok (.invokestatic 79, 3) := by decide +kernel
theorem dX12_holes_29 : decode cX12_holes 29 = .ok (.ifCond .ne 5, 3) := by decide +kernel
theorem dX12_holes_32 : decode cX12_holes 32 = .ok (.iconst (-1), 1) := by decide +kernel
theorem dX12_holes_33 : decode cX12_holes 33 = .ok (.ireturn, 1) := by decide +kernel
theorem dX12_holes_34 : decode cX12_holes 34 = .ok (.aload_n 0, 1) := by decide +kernel
theorem dX12_holes_35 : decode cX12_holes 35 = .ok (.iload_n 1, 1) := by decide +kernel
theorem dX12_holes_36 : decode cX12_holes 36 = .ok (.i2l, 1) := by decide +kernel
theorem dX12_holes_37 : decode cX12_holes 37 = .ok (.iload_n 1, 1) := by decide +kernel
theorem dX12_holes_38 : decode cX12_holes 38 = .ok (.i2l, 1) := by decide +kernel
theorem dX12_holes_39 : decode cX12_holes 39 = .ok (.iload_n 2, 1) := by decide +kernel
theorem dX12_holes_40 : decode cX12_holes 40 = .ok (.i2l, 1) := by decide +kernel
theorem dX12_holes_41 : decode cX12_holes 41 = .ok (.ladd, 1) := by decide +kernel
theorem dX12_holes_42 : decode cX12_holes 42 = .ok (.bipush (-2), 2) := by decide +kernel
theorem dX12_holes_44 : decode cX12_holes 44 = .ok (.invokevirtual 128, 3) := by decide +kernel
theorem dX12_holes_47 : decode cX12_holes 47 = .ok (.istore 4, 2) := by decide +kernel
theorem dX12_holes_49 : decode cX12_holes 49 = .ok (.iconst 0, 1) := by decide +kernel
theorem dX12_holes_50 : decode cX12_holes 50 = .ok (.istore 5, 2) := by decide +kernel
theorem dX12_holes_52 : decode cX12_holes 52 = .ok (.iconst 0, 1) := by decide +kernel
theorem dX12_holes_53 : decode cX12_holes 53 = .ok (.istore 6, 2) := by decide +kernel
theorem dX12_holes_55 : decode cX12_holes 55 = .ok (.iconst 0, 1) := by decide +kernel
theorem dX12_holes_56 : decode cX12_holes 56 = .ok (.istore 7, 2) := by decide +kernel
theorem dX12_holes_58 : decode cX12_holes 58 = .ok (.iconst 0, 1) := by decide +kernel
theorem dX12_holes_59 : decode cX12_holes 59 = .ok (.istore 8, 2) := by decide +kernel
theorem dX12_holes_61 : decode cX12_holes 61 = .ok (.iload 8, 2) := by decide +kernel
theorem dX12_holes_63 : decode cX12_holes 63 = .ok (.bipush 16, 2) := by decide +kernel
theorem dX12_holes_65 : decode cX12_holes 65 = .ok (.if_icmp .ge 65, 3) := by decide +kernel
theorem dX12_holes_68 : decode cX12_holes 68 = .ok (.iload 4, 2) := by decide +kernel
theorem dX12_holes_70 : decode cX12_holes 70 = .ok (.iload 8, 2) := by decide +kernel
theorem dX12_holes_72 : decode cX12_holes 72 = .ok (.ishr, 1) := by decide +kernel
theorem dX12_holes_73 : decode cX12_holes 73 = .ok (.iconst 1, 1) := by decide +kernel
theorem dX12_holes_74 : decode cX12_holes 74 = .ok (.iand, 1) := by decide +kernel
theorem dX12_holes_75 : decode cX12_holes 75 = .ok (.ifCond .ne 7, 3) := by decide +kernel
theorem dX12_holes_78 : decode cX12_holes 78 = .ok (.iconst 1, 1) := by decide +kernel
theorem dX12_holes_79 : decode cX12_holes 79 = .ok (.goto 4, 3) := by decide +kernel
theorem dX12_holes_82 : decode cX12_holes 82 = .ok (.iconst 0, 1) := by decide +kernel
theorem dX12_holes_83 : decode cX12_holes 83 = .ok (.istore 9, 2) := by decide +kernel
theorem dX12_holes_85 : decode cX12_holes 85 = .ok (.iload 5, 2) := by decide +kernel
theorem dX12_holes_87 : decode cX12_holes 87 = .ok (.iload 9, 2) := by decide +kernel
theorem dX12_holes_89 : decode cX12_holes 89 = .ok (.ifCond .eq 7, 3) := by decide +kernel
theorem dX12_holes_92 : decode cX12_holes 92 = .ok (.iconst 1, 1) := by decide +kernel
theorem dX12_holes_93 : decode cX12_holes 93 = .ok (.goto 4, 3) := by decide +kernel
theorem dX12_holes_96 : decode cX12_holes 96 = .ok (.iconst 0, 1) := by decide +kernel
theorem dX12_holes_97 : decode cX12_holes 97 = .ok (.iadd, 1) := by decide +kernel
theorem dX12_holes_98 : decode cX12_holes 98 = .ok (.istore 5, 2) := by decide +kernel
theorem dX12_holes_100 : decode cX12_holes 100 = .ok (.iload 9, 2) := by decide +kernel
theorem dX12_holes_102 : decode cX12_holes 102 = .ok (.ifCond .eq 10, 3) := by decide +kernel
theorem dX12_holes_105 : decode cX12_holes 105 = .ok (.iload 6, 2) := by decide +kernel
theorem dX12_holes_107 : decode cX12_holes 107 = .ok (.iconst 1, 1) := by decide +kernel
theorem dX12_holes_108 : decode cX12_holes 108 = .ok (.iadd, 1) := by decide +kernel
theorem dX12_holes_109 : decode cX12_holes 109 = .ok (.goto 4, 3) := by decide +kernel
theorem dX12_holes_112 : decode cX12_holes 112 = .ok (.iconst 0, 1) := by decide +kernel
theorem dX12_holes_113 : decode cX12_holes 113 = .ok (.istore 6, 2) := by decide +kernel
theorem dX12_holes_115 : decode cX12_holes 115 = .ok (.iload 7, 2) := by decide +kernel
theorem dX12_holes_117 : decode cX12_holes 117 = .ok (.iload 6, 2) := by decide +kernel
theorem dX12_holes_119 : decode cX12_holes 119 = .ok (.invokestatic 87, 3) := by decide +kernel
theorem dX12_holes_122 : decode cX12_holes 122 = .ok (.istore 7, 2) := by decide +kernel
theorem dX12_holes_124 : decode cX12_holes 124 = .ok (.iinc 8 1, 3) := by decide +kernel
theorem dX12_holes_127 : decode cX12_holes 127 = .ok (.goto (-66), 3) := by decide +kernel
theorem dX12_holes_130 : decode cX12_holes 130 = .ok (.iload_n 3, 1) := by decide +kernel
theorem dX12_holes_131 : decode cX12_holes 131 = .ok (.ifCond .ne 8, 3) := by decide +kernel
theorem dX12_holes_134 : decode cX12_holes 134 = .ok (.iload 5, 2) := by decide +kernel
theorem dX12_holes_136 : decode cX12_holes 136 = .ok (.goto 5, 3) := by decide +kernel
theorem dX12_holes_139 : decode cX12_holes 139 = .ok (.iload 7, 2) := by decide +kernel
theorem dX12_holes_141 : decode cX12_holes 141 = .ok (.ireturn, 1) := by decide +kernel
theorem dX12_led_0 : decode cX12_led 0 = .ok (.iload_n 1, 1) := by decide +kernel
theorem dX12_led_1 : decode cX12_led 1 = .ok (.i2l, 1) := by decide +kernel
theorem dX12_led_2 : decode cX12_led 2 = .ok (.lconst 0, 1) := by decide +kernel
theorem dX12_led_3 : decode cX12_led 3 = .ok (.ldc2_w 77, 3) := by decide +kernel
theorem dX12_led_6 : decode cX12_led 6 = .ok (.invokestatic 79, 3) := by decide +kernel
theorem dX12_led_9 : decode cX12_led 9 = .ok (.ifCond .eq 15, 3) := by decide +kernel
theorem dX12_led_12 : decode cX12_led 12 = .ok (.aload_n 0, 1) := by decide +kernel
theorem dX12_led_13 : decode cX12_led 13 = .ok (.getfield 19, 3) := by decide +kernel
theorem dX12_led_16 : decode cX12_led 16 = .ok (.bipush 8, 2) := by decide +kernel
theorem dX12_led_18 : decode cX12_led 18 = .ok (.iload_n 1, 1) := by decide +kernel
theorem dX12_led_19 : decode cX12_led 19 = .ok (.iadd, 1) := by decide +kernel
theorem dX12_led_20 : decode cX12_led 20 = .ok (.laload, 1) := by decide +kernel
theorem dX12_led_21 : decode cX12_led 21 = .ok (.goto 6, 3) := by decide +kernel
theorem dX12_led_24 : decode cX12_led 24 = .ok (.ldc2_w 162, 3) := by decide +kernel
theorem dX12_led_27 : decode cX12_led 27 = .ok (.lreturn, 1) := by decide +kernel
theorem dX12_chart_0 : decode cX12_chart 0 = .ok (.iload_n 1, 1) := by decide +kernel
theorem dX12_chart_1 : decode cX12_chart 1 = .ok (.invokestatic 299, 3) := by decide +kernel
theorem dX12_chart_4 : decode cX12_chart 4 = .ok (.ifCond .eq 15, 3) := by decide +kernel
theorem dX12_chart_7 : decode cX12_chart 7 = .ok (.iload_n 2, 1) := by decide +kernel
theorem dX12_chart_8 : decode cX12_chart 8 = .ok (.i2l, 1) := by decide +kernel
theorem dX12_chart_9 : decode cX12_chart 9 = .ok (.lconst 1, 1) := by decide +kernel
theorem dX12_chart_10 : decode cX12_chart 10 = .ok (.ldc2_w 350, 3) := by decide +kernel
theorem dX12_chart_13 : decode cX12_chart 13 = .ok (.invokestatic 79, 3) := by decide +kernel
theorem dX12_chart_16 : decode cX12_chart 16 = .ok (.ifCond .ne 5, 3) := by decide +kernel
theorem dX12_chart_19 : decode cX12_chart 19 = .ok (.iconst (-1), 1) := by decide +kernel
theorem dX12_chart_20 : decode cX12_chart 20 = .ok (.ireturn, 1) := by decide +kernel
theorem dX12_chart_21 : decode cX12_chart 21 = .ok (.aload_n 0, 1) := by decide +kernel
theorem dX12_chart_22 : decode cX12_chart 22 = .ok (.getfield 9, 3) := by decide +kernel
theorem dX12_chart_25 : decode cX12_chart 25 = .ok (.iconst 0, 1) := by decide +kernel
theorem dX12_chart_26 : decode cX12_chart 26 = .ok (.iaload, 1) := by decide +kernel
theorem dX12_chart_27 : decode cX12_chart 27 = .ok (.iload_n 2, 1) := by decide +kernel
theorem dX12_chart_28 : decode cX12_chart 28 = .ok (.isub, 1) := by decide +kernel
theorem dX12_chart_29 : decode cX12_chart 29 = .ok (.istore_n 3, 1) := by decide +kernel
theorem dX12_chart_30 : decode cX12_chart 30 = .ok (.iload_n 3, 1) := by decide +kernel
theorem dX12_chart_31 : decode cX12_chart 31 = .ok (.ifCond .ge 8, 3) := by decide +kernel
theorem dX12_chart_34 : decode cX12_chart 34 = .ok (.bipush (-2), 2) := by decide +kernel
theorem dX12_chart_36 : decode cX12_chart 36 = .ok (.goto 24, 3) := by decide +kernel
theorem dX12_chart_39 : decode cX12_chart 39 = .ok (.aload_n 0, 1) := by decide +kernel
theorem dX12_chart_40 : decode cX12_chart 40 = .ok (.getfield 9, 3) := by decide +kernel
theorem dX12_chart_43 : decode cX12_chart 43 = .ok (.sipush 2916, 3) := by decide +kernel
theorem dX12_chart_46 : decode cX12_chart 46 = .ok (.iload_n 3, 1) := by decide +kernel
theorem dX12_chart_47 : decode cX12_chart 47 = .ok (.bipush 64, 2) := by decide +kernel
theorem dX12_chart_49 : decode cX12_chart 49 = .ok (.irem, 1) := by decide +kernel
theorem dX12_chart_50 : decode cX12_chart 50 = .ok (.bipush 16, 2) := by decide +kernel
theorem dX12_chart_52 : decode cX12_chart 52 = .ok (.imul, 1) := by decide +kernel
theorem dX12_chart_53 : decode cX12_chart 53 = .ok (.iadd, 1) := by decide +kernel
theorem dX12_chart_54 : decode cX12_chart 54 = .ok (.iload_n 1, 1) := by decide +kernel
theorem dX12_chart_55 : decode cX12_chart 55 = .ok (.iadd, 1) := by decide +kernel
theorem dX12_chart_56 : decode cX12_chart 56 = .ok (.iaload, 1) := by decide +kernel
theorem dX12_chart_57 : decode cX12_chart 57 = .ok (.invokestatic 217, 3) := by decide +kernel
theorem dX12_chart_60 : decode cX12_chart 60 = .ok (.ireturn, 1) := by decide +kernel
theorem dX12_event_0 : decode cX12_event 0 = .ok (.iload_n 1, 1) := by decide +kernel
theorem dX12_event_1 : decode cX12_event 1 = .ok (.ifCond .lt 15, 3) := by decide +kernel
theorem dX12_event_4 : decode cX12_event 4 = .ok (.iload_n 2, 1) := by decide +kernel
theorem dX12_event_5 : decode cX12_event 5 = .ok (.i2l, 1) := by decide +kernel
theorem dX12_event_6 : decode cX12_event 6 = .ok (.lconst 0, 1) := by decide +kernel
theorem dX12_event_7 : decode cX12_event 7 = .ok (.ldc2_w 293, 3) := by decide +kernel
theorem dX12_event_10 : decode cX12_event 10 = .ok (.invokestatic 79, 3) := by decide +kernel
theorem dX12_event_13 : decode cX12_event 13 = .ok (.ifCond .ne 5, 3) := by decide +kernel
theorem dX12_event_16 : decode cX12_event 16 = .ok (.iconst (-1), 1) := by decide +kernel
theorem dX12_event_17 : decode cX12_event 17 = .ok (.ireturn, 1) := by decide +kernel
theorem dX12_event_18 : decode cX12_event 18 = .ok (.iload_n 1, 1) := by decide +kernel
theorem dX12_event_19 : decode cX12_event 19 = .ok (.aload_n 0, 1) := by decide +kernel
theorem dX12_event_20 : decode cX12_event 20 = .ok (.getfield 9, 3) := by decide +kernel
theorem dX12_event_23 : decode cX12_event 23 = .ok (.bipush 7, 2) := by decide +kernel
theorem dX12_event_25 : decode cX12_event 25 = .ok (.iaload, 1) := by decide +kernel
theorem dX12_event_26 : decode cX12_event 26 = .ok (.if_icmp .ge 20, 3) := by decide +kernel
theorem dX12_event_29 : decode cX12_event 29 = .ok (.aload_n 0, 1) := by decide +kernel
theorem dX12_event_30 : decode cX12_event 30 = .ok (.getfield 9, 3) := by decide +kernel
theorem dX12_event_33 : decode cX12_event 33 = .ok (.sipush 2736, 3) := by decide +kernel
theorem dX12_event_36 : decode cX12_event 36 = .ok (.iconst 3, 1) := by decide +kernel
theorem dX12_event_37 : decode cX12_event 37 = .ok (.iload_n 1, 1) := by decide +kernel
theorem dX12_event_38 : decode cX12_event 38 = .ok (.imul, 1) := by decide +kernel
theorem dX12_event_39 : decode cX12_event 39 = .ok (.iadd, 1) := by decide +kernel
theorem dX12_event_40 : decode cX12_event 40 = .ok (.iload_n 2, 1) := by decide +kernel
theorem dX12_event_41 : decode cX12_event 41 = .ok (.iadd, 1) := by decide +kernel
theorem dX12_event_42 : decode cX12_event 42 = .ok (.iaload, 1) := by decide +kernel
theorem dX12_event_43 : decode cX12_event 43 = .ok (.goto 5, 3) := by decide +kernel
theorem dX12_event_46 : decode cX12_event 46 = .ok (.bipush (-2), 2) := by decide +kernel
theorem dX12_event_48 : decode cX12_event 48 = .ok (.ireturn, 1) := by decide +kernel
theorem dX12_started_0 : decode cX12_started 0 = .ok (.iload_n 1, 1) := by decide +kernel
theorem dX12_started_1 : decode cX12_started 1 = .ok (.ifCond .ge 7, 3) := by decide +kernel
theorem dX12_started_4 : decode cX12_started 4 = .ok (.iconst (-1), 1) := by decide +kernel
theorem dX12_started_5 : decode cX12_started 5 = .ok (.goto 29, 3) := by decide +kernel
theorem dX12_started_8 : decode cX12_started 8 = .ok (.iload_n 1, 1) := by decide +kernel
theorem dX12_started_9 : decode cX12_started 9 = .ok (.aload_n 0, 1) := by decide +kernel
theorem dX12_started_10 : decode cX12_started 10 = .ok (.getfield 9, 3) := by decide +kernel
theorem dX12_started_13 : decode cX12_started 13 = .ok (.bipush 6, 2) := by decide +kernel
theorem dX12_started_15 : decode cX12_started 15 = .ok (.iaload, 1) := by decide +kernel
theorem dX12_started_16 : decode cX12_started 16 = .ok (.if_icmp .ge 16, 3) := by decide +kernel
theorem dX12_started_19 : decode cX12_started 19 = .ok (.aload_n 0, 1) := by decide +kernel
theorem dX12_started_20 : decode cX12_started 20 = .ok (.getfield 9, 3) := by decide +kernel
theorem dX12_started_23 : decode cX12_started 23 = .ok (.sipush 2656, 3) := by decide +kernel
theorem dX12_started_26 : decode cX12_started 26 = .ok (.iload_n 1, 1) := by decide +kernel
theorem dX12_started_27 : decode cX12_started 27 = .ok (.iadd, 1) := by decide +kernel
theorem dX12_started_28 : decode cX12_started 28 = .ok (.iaload, 1) := by decide +kernel
theorem dX12_started_29 : decode cX12_started 29 = .ok (.goto 5, 3) := by decide +kernel
theorem dX12_started_32 : decode cX12_started 32 = .ok (.bipush (-2), 2) := by decide +kernel
theorem dX12_started_34 : decode cX12_started 34 = .ok (.ireturn, 1) := by decide +kernel
theorem dX12_image_0 : decode cX12_image 0 = .ok (.aload_n 0, 1) := by decide +kernel
theorem dX12_image_1 : decode cX12_image 1 = .ok (.getfield 9, 3) := by decide +kernel
theorem dX12_image_4 : decode cX12_image 4 = .ok (.aload_n 0, 1) := by decide +kernel
theorem dX12_image_5 : decode cX12_image 5 = .ok (.getfield 16, 3) := by decide +kernel
theorem dX12_image_8 : decode cX12_image 8 = .ok (.invokestatic 73, 3) := by decide +kernel
theorem dX12_image_11 : decode cX12_image 11 = .ok (.aload_n 0, 1) := by decide +kernel
theorem dX12_image_12 : decode cX12_image 12 = .ok (.getfield 19, 3) := by decide +kernel
theorem dX12_image_15 : decode cX12_image 15 = .ok (.aload_n 0, 1) := by decide +kernel
theorem dX12_image_16 : decode cX12_image 16 = .ok (.getfield 26, 3) := by decide +kernel
theorem dX12_image_19 : decode cX12_image 19 = .ok (.invokestatic 302, 3) := by decide +kernel
theorem dX12_image_22 : decode cX12_image 22 = .ok (.aload_n 0, 1) := by decide +kernel
theorem dX12_image_23 : decode cX12_image 23 = .ok (.getfield 9, 3) := by decide +kernel
theorem dX12_image_26 : decode cX12_image 26 = .ok (.iconst 0, 1) := by decide +kernel
theorem dX12_image_27 : decode cX12_image 27 = .ok (.iaload, 1) := by decide +kernel
theorem dX12_image_28 : decode cX12_image 28 = .ok (.ireturn, 1) := by decide +kernel
theorem dX12_back_0 : decode cX12_back 0 = .ok (.aload_n 0, 1) := by decide +kernel
theorem dX12_back_1 : decode cX12_back 1 = .ok (.getfield 16, 3) := by decide +kernel
theorem dX12_back_4 : decode cX12_back 4 = .ok (.aload_n 0, 1) := by decide +kernel
theorem dX12_back_5 : decode cX12_back 5 = .ok (.getfield 9, 3) := by decide +kernel
theorem dX12_back_8 : decode cX12_back 8 = .ok (.invokestatic 73, 3) := by decide +kernel
theorem dX12_back_11 : decode cX12_back 11 = .ok (.aload_n 0, 1) := by decide +kernel
theorem dX12_back_12 : decode cX12_back 12 = .ok (.getfield 26, 3) := by decide +kernel
theorem dX12_back_15 : decode cX12_back 15 = .ok (.aload_n 0, 1) := by decide +kernel
theorem dX12_back_16 : decode cX12_back 16 = .ok (.getfield 19, 3) := by decide +kernel
theorem dX12_back_19 : decode cX12_back 19 = .ok (.invokestatic 302, 3) := by decide +kernel
theorem dX12_back_22 : decode cX12_back 22 = .ok (.aload_n 0, 1) := by decide +kernel
theorem dX12_back_23 : decode cX12_back 23 = .ok (.getfield 9, 3) := by decide +kernel
theorem dX12_back_26 : decode cX12_back 26 = .ok (.iconst 0, 1) := by decide +kernel
theorem dX12_back_27 : decode cX12_back 27 = .ok (.iaload, 1) := by decide +kernel
theorem dX12_back_28 : decode cX12_back 28 = .ok (.ireturn, 1) := by decide +kernel
theorem dX12_ofThese_0 : decode cX12_ofThese 0 = .ok (.iconst 0, 1) := by decide +kernel
theorem dX12_ofThese_1 : decode cX12_ofThese 1 = .ok (.istore_n 2, 1) := by decide +kernel
theorem dX12_ofThese_2 : decode cX12_ofThese 2 = .ok (.iconst 0, 1) := by decide +kernel
theorem dX12_ofThese_3 : decode cX12_ofThese 3 = .ok (.istore_n 3, 1) := by decide +kernel
theorem dX12_ofThese_4 : decode cX12_ofThese 4 = .ok (.iload_n 3, 1) := by decide +kernel
theorem dX12_ofThese_5 : decode cX12_ofThese 5 = .ok (.aload_n 0, 1) := by decide +kernel
theorem dX12_ofThese_6 : decode cX12_ofThese 6 = .ok (.getfield 9, 3) := by decide +kernel
theorem dX12_ofThese_9 : decode cX12_ofThese 9 = .ok (.iconst 1, 1) := by decide +kernel
theorem dX12_ofThese_10 : decode cX12_ofThese 10 = .ok (.iaload, 1) := by decide +kernel
theorem dX12_ofThese_11 : decode cX12_ofThese 11 = .ok (.if_icmp .ge 27, 3) := by decide +kernel
theorem dX12_ofThese_14 : decode cX12_ofThese 14 = .ok (.iload_n 2, 1) := by decide +kernel
theorem dX12_ofThese_15 : decode cX12_ofThese 15 = .ok (.aload_n 0, 1) := by decide +kernel
theorem dX12_ofThese_16 : decode cX12_ofThese 16 = .ok (.iload_n 3, 1) := by decide +kernel
theorem dX12_ofThese_17 : decode cX12_ofThese 17 = .ok (.iconst 5, 1) := by decide +kernel
theorem dX12_ofThese_18 : decode cX12_ofThese 18 = .ok (.invokevirtual 83, 3) := by decide +kernel
theorem dX12_ofThese_21 : decode cX12_ofThese 21 = .ok (.iload_n 1, 1) := by decide +kernel
theorem dX12_ofThese_22 : decode cX12_ofThese 22 = .ok (.if_icmp .ne 7, 3) := by decide +kernel
theorem dX12_ofThese_25 : decode cX12_ofThese 25 = .ok (.iconst 1, 1) := by decide +kernel
theorem dX12_ofThese_26 : decode cX12_ofThese 26 = .ok (.goto 4, 3) := by decide +kernel
theorem dX12_ofThese_29 : decode cX12_ofThese 29 = .ok (.iconst 0, 1) := by decide +kernel
theorem dX12_ofThese_30 : decode cX12_ofThese 30 = .ok (.iadd, 1) := by decide +kernel
theorem dX12_ofThese_31 : decode cX12_ofThese 31 = .ok (.istore_n 2, 1) := by decide +kernel
theorem dX12_ofThese_32 : decode cX12_ofThese 32 = .ok (.iinc 3 1, 3) := by decide +kernel
theorem dX12_ofThese_35 : decode cX12_ofThese 35 = .ok (.goto (-31), 3) := by decide +kernel
theorem dX12_ofThese_38 : decode cX12_ofThese 38 = .ok (.iload_n 2, 1) := by decide +kernel
theorem dX12_ofThese_39 : decode cX12_ofThese 39 = .ok (.ireturn, 1) := by decide +kernel
theorem dX12_count_0 : decode cX12_count 0 = .ok (.iconst 0, 1) := by decide +kernel
theorem dX12_count_1 : decode cX12_count 1 = .ok (.istore_n 2, 1) := by decide +kernel
theorem dX12_count_2 : decode cX12_count 2 = .ok (.iload_n 1, 1) := by decide +kernel
theorem dX12_count_3 : decode cX12_count 3 = .ok (.tableswitch 143 0 7 #[45, 52, 58, 64, 69, 93, 98, 136], 45) := by decide +kernel
theorem dX12_count_48 : decode cX12_count 48 = .ok (.aload_n 0, 1) := by decide +kernel
theorem dX12_count_49 : decode cX12_count 49 = .ok (.getfield 9, 3) := by decide +kernel
theorem dX12_count_52 : decode cX12_count 52 = .ok (.iconst 1, 1) := by decide +kernel
theorem dX12_count_53 : decode cX12_count 53 = .ok (.iaload, 1) := by decide +kernel
theorem dX12_count_54 : decode cX12_count 54 = .ok (.ireturn, 1) := by decide +kernel
theorem dX12_count_55 : decode cX12_count 55 = .ok (.aload_n 0, 1) := by decide +kernel
theorem dX12_count_56 : decode cX12_count 56 = .ok (.iconst 0, 1) := by decide +kernel
theorem dX12_count_57 : decode cX12_count 57 = .ok (.invokevirtual 352, 3) := by decide +kernel
theorem dX12_count_60 : decode cX12_count 60 = .ok (.ireturn, 1) := by decide +kernel
theorem dX12_count_61 : decode cX12_count 61 = .ok (.aload_n 0, 1) := by decide +kernel
theorem dX12_count_62 : decode cX12_count 62 = .ok (.iconst 1, 1) := by decide +kernel
theorem dX12_count_63 : decode cX12_count 63 = .ok (.invokevirtual 352, 3) := by decide +kernel
theorem dX12_count_66 : decode cX12_count 66 = .ok (.ireturn, 1) := by decide +kernel
theorem dX12_count_67 : decode cX12_count 67 = .ok (.aload_n 0, 1) := by decide +kernel
theorem dX12_count_68 : decode cX12_count 68 = .ok (.invokevirtual 254, 3) := by decide +kernel
theorem dX12_count_71 : decode cX12_count 71 = .ok (.ireturn, 1) := by decide +kernel
theorem dX12_count_72 : decode cX12_count 72 = .ok (.iconst 0, 1) := by decide +kernel
theorem dX12_count_73 : decode cX12_count 73 = .ok (.istore_n 3, 1) := by decide +kernel
theorem dX12_count_74 : decode cX12_count 74 = .ok (.iload_n 3, 1) := by decide +kernel
theorem dX12_count_75 : decode cX12_count 75 = .ok (.bipush 8, 2) := by decide +kernel
theorem dX12_count_77 : decode cX12_count 77 = .ok (.if_icmp .ge 17, 3) := by decide +kernel
theorem dX12_count_80 : decode cX12_count 80 = .ok (.iload_n 2, 1) := by decide +kernel
theorem dX12_count_81 : decode cX12_count 81 = .ok (.aload_n 0, 1) := by decide +kernel
theorem dX12_count_82 : decode cX12_count 82 = .ok (.iload_n 3, 1) := by decide +kernel
theorem dX12_count_83 : decode cX12_count 83 = .ok (.invokevirtual 272, 3) := by decide +kernel
theorem dX12_count_86 : decode cX12_count 86 = .ok (.iadd, 1) := by decide +kernel
theorem dX12_count_87 : decode cX12_count 87 = .ok (.istore_n 2, 1) := by decide +kernel
theorem dX12_count_88 : decode cX12_count 88 = .ok (.iinc 3 1, 3) := by decide +kernel
theorem dX12_count_91 : decode cX12_count 91 = .ok (.goto (-17), 3) := by decide +kernel
theorem dX12_count_94 : decode cX12_count 94 = .ok (.iload_n 2, 1) := by decide +kernel
theorem dX12_count_95 : decode cX12_count 95 = .ok (.ireturn, 1) := by decide +kernel
theorem dX12_count_96 : decode cX12_count 96 = .ok (.aload_n 0, 1) := by decide +kernel
theorem dX12_count_97 : decode cX12_count 97 = .ok (.getfield 168, 3) := by decide +kernel
theorem dX12_count_100 : decode cX12_count 100 = .ok (.ireturn, 1) := by decide +kernel
theorem dX12_count_101 : decode cX12_count 101 = .ok (.iconst 0, 1) := by decide +kernel
theorem dX12_count_102 : decode cX12_count 102 = .ok (.istore_n 3, 1) := by decide +kernel
theorem dX12_count_103 : decode cX12_count 103 = .ok (.iload_n 3, 1) := by decide +kernel
theorem dX12_count_104 : decode cX12_count 104 = .ok (.aload_n 0, 1) := by decide +kernel
theorem dX12_count_105 : decode cX12_count 105 = .ok (.getfield 9, 3) := by decide +kernel
theorem dX12_count_108 : decode cX12_count 108 = .ok (.iconst 1, 1) := by decide +kernel
theorem dX12_count_109 : decode cX12_count 109 = .ok (.iaload, 1) := by decide +kernel
theorem dX12_count_110 : decode cX12_count 110 = .ok (.if_icmp .ge 27, 3) := by decide +kernel
theorem dX12_count_113 : decode cX12_count 113 = .ok (.iload_n 2, 1) := by decide +kernel
theorem dX12_count_114 : decode cX12_count 114 = .ok (.aload_n 0, 1) := by decide +kernel
theorem dX12_count_115 : decode cX12_count 115 = .ok (.iload_n 3, 1) := by decide +kernel
theorem dX12_count_116 : decode cX12_count 116 = .ok (.bipush 9, 2) := by decide +kernel
theorem dX12_count_118 : decode cX12_count 118 = .ok (.invokevirtual 83, 3) := by decide +kernel
theorem dX12_count_121 : decode cX12_count 121 = .ok (.ifCond .lt 7, 3) := by decide +kernel
theorem dX12_count_124 : decode cX12_count 124 = .ok (.iconst 1, 1) := by decide +kernel
theorem dX12_count_125 : decode cX12_count 125 = .ok (.goto 4, 3) := by decide +kernel
theorem dX12_count_128 : decode cX12_count 128 = .ok (.iconst 0, 1) := by decide +kernel
theorem dX12_count_129 : decode cX12_count 129 = .ok (.iadd, 1) := by decide +kernel
theorem dX12_count_130 : decode cX12_count 130 = .ok (.istore_n 2, 1) := by decide +kernel
theorem dX12_count_131 : decode cX12_count 131 = .ok (.iinc 3 1, 3) := by decide +kernel
theorem dX12_count_134 : decode cX12_count 134 = .ok (.goto (-31), 3) := by decide +kernel
theorem dX12_count_137 : decode cX12_count 137 = .ok (.iload_n 2, 1) := by decide +kernel
theorem dX12_count_138 : decode cX12_count 138 = .ok (.ireturn, 1) := by decide +kernel
theorem dX12_count_139 : decode cX12_count 139 = .ok (.aload_n 0, 1) := by decide +kernel
theorem dX12_count_140 : decode cX12_count 140 = .ok (.getfield 9, 3) := by decide +kernel
theorem dX12_count_143 : decode cX12_count 143 = .ok (.iconst 0, 1) := by decide +kernel
theorem dX12_count_144 : decode cX12_count 144 = .ok (.iaload, 1) := by decide +kernel
theorem dX12_count_145 : decode cX12_count 145 = .ok (.ireturn, 1) := by decide +kernel
theorem dX12_count_146 : decode cX12_count 146 = .ok (.iconst (-1), 1) := by decide +kernel
theorem dX12_count_147 : decode cX12_count 147 = .ok (.ireturn, 1) := by decide +kernel
theorem dL_law_0 : decode cL_law 0 = .ok (.new 7, 3) := by decide +kernel
theorem dL_law_3 : decode cL_law 3 = .ok (.dup, 1) := by decide +kernel
theorem dL_law_4 : decode cL_law 4 = .ok (.invokespecial 9, 3) := by decide +kernel
theorem dL_law_7 : decode cL_law 7 = .ok (.astore_n 1, 1) := by decide +kernel
theorem dL_law_8 : decode cL_law 8 = .ok (.new 10, 3) := by decide +kernel
theorem dL_law_11 : decode cL_law 11 = .ok (.dup, 1) := by decide +kernel
theorem dL_law_12 : decode cL_law 12 = .ok (.invokespecial 12, 3) := by decide +kernel
theorem dL_law_15 : decode cL_law 15 = .ok (.astore_n 2, 1) := by decide +kernel
theorem dL_law_16 : decode cL_law 16 = .ok (.iconst 0, 1) := by decide +kernel
theorem dL_law_17 : decode cL_law 17 = .ok (.istore_n 3, 1) := by decide +kernel
theorem dL_law_18 : decode cL_law 18 = .ok (.iload_n 3, 1) := by decide +kernel
theorem dL_law_19 : decode cL_law 19 = .ok (.aload_n 0, 1) := by decide +kernel
theorem dL_law_20 : decode cL_law 20 = .ok (.arraylength, 1) := by decide +kernel
theorem dL_law_21 : decode cL_law 21 = .ok (.bipush 7, 2) := by decide +kernel
theorem dL_law_23 : decode cL_law 23 = .ok (.isub, 1) := by decide +kernel
theorem dL_law_24 : decode cL_law 24 = .ok (.if_icmp .gt 1387, 3) := by decide +kernel
theorem dL_law_27 : decode cL_law 27 = .ok (.aload_n 0, 1) := by decide +kernel
theorem dL_law_28 : decode cL_law 28 = .ok (.iload_n 3, 1) := by decide +kernel
theorem dL_law_29 : decode cL_law 29 = .ok (.iaload, 1) := by decide +kernel
theorem dL_law_30 : decode cL_law 30 = .ok (.bipush 63, 2) := by decide +kernel
theorem dL_law_32 : decode cL_law 32 = .ok (.iand, 1) := by decide +kernel
theorem dL_law_33 : decode cL_law 33 = .ok (.tableswitch 1372 0 38 #[171, 204, 237, 260, 293, 317, 340, 393, 416, 449, 492, 515, 548, 581, 614, 667, 742, 765, 788, 801, 824, 857, 880, 903, 946, 969, 992, 1025, 1068, 1101, 1144, 1167, 1210, 1234, 1267, 1300, 1323, 1336, 1349], 171) := by decide +kernel
theorem dL_law_204 : decode cL_law 204 = .ok (.aload_n 1, 1) := by decide +kernel
theorem dL_law_205 : decode cL_law 205 = .ok (.aload_n 0, 1) := by decide +kernel
theorem dL_law_206 : decode cL_law 206 = .ok (.iload_n 3, 1) := by decide +kernel
theorem dL_law_207 : decode cL_law 207 = .ok (.iconst 1, 1) := by decide +kernel
theorem dL_law_208 : decode cL_law 208 = .ok (.iadd, 1) := by decide +kernel
theorem dL_law_209 : decode cL_law 209 = .ok (.iaload, 1) := by decide +kernel
theorem dL_law_210 : decode cL_law 210 = .ok (.aload_n 0, 1) := by decide +kernel
theorem dL_law_211 : decode cL_law 211 = .ok (.iload_n 3, 1) := by decide +kernel
theorem dL_law_212 : decode cL_law 212 = .ok (.iconst 2, 1) := by decide +kernel
theorem dL_law_213 : decode cL_law 213 = .ok (.iadd, 1) := by decide +kernel
theorem dL_law_214 : decode cL_law 214 = .ok (.iaload, 1) := by decide +kernel
theorem dL_law_215 : decode cL_law 215 = .ok (.invokevirtual 13, 3) := by decide +kernel
theorem dL_law_218 : decode cL_law 218 = .ok (.aload_n 2, 1) := by decide +kernel
theorem dL_law_219 : decode cL_law 219 = .ok (.aload_n 0, 1) := by decide +kernel
theorem dL_law_220 : decode cL_law 220 = .ok (.iload_n 3, 1) := by decide +kernel
theorem dL_law_221 : decode cL_law 221 = .ok (.iconst 1, 1) := by decide +kernel
theorem dL_law_222 : decode cL_law 222 = .ok (.iadd, 1) := by decide +kernel
theorem dL_law_223 : decode cL_law 223 = .ok (.iaload, 1) := by decide +kernel
theorem dL_law_224 : decode cL_law 224 = .ok (.aload_n 0, 1) := by decide +kernel
theorem dL_law_225 : decode cL_law 225 = .ok (.iload_n 3, 1) := by decide +kernel
theorem dL_law_226 : decode cL_law 226 = .ok (.iconst 2, 1) := by decide +kernel
theorem dL_law_227 : decode cL_law 227 = .ok (.iadd, 1) := by decide +kernel
theorem dL_law_228 : decode cL_law 228 = .ok (.iaload, 1) := by decide +kernel
theorem dL_law_229 : decode cL_law 229 = .ok (.invokevirtual 17, 3) := by decide +kernel
theorem dL_law_232 : decode cL_law 232 = .ok (.if_icmp .eq 1173, 3) := by decide +kernel
theorem dL_law_235 : decode cL_law 235 = .ok (.iconst 0, 1) := by decide +kernel
theorem dL_law_236 : decode cL_law 236 = .ok (.ireturn, 1) := by decide +kernel
theorem dL_law_237 : decode cL_law 237 = .ok (.aload_n 1, 1) := by decide +kernel
theorem dL_law_238 : decode cL_law 238 = .ok (.aload_n 0, 1) := by decide +kernel
theorem dL_law_239 : decode cL_law 239 = .ok (.iload_n 3, 1) := by decide +kernel
theorem dL_law_240 : decode cL_law 240 = .ok (.iconst 1, 1) := by decide +kernel
theorem dL_law_241 : decode cL_law 241 = .ok (.iadd, 1) := by decide +kernel
theorem dL_law_242 : decode cL_law 242 = .ok (.iaload, 1) := by decide +kernel
theorem dL_law_243 : decode cL_law 243 = .ok (.aload_n 0, 1) := by decide +kernel
theorem dL_law_244 : decode cL_law 244 = .ok (.iload_n 3, 1) := by decide +kernel
theorem dL_law_245 : decode cL_law 245 = .ok (.iconst 2, 1) := by decide +kernel
theorem dL_law_246 : decode cL_law 246 = .ok (.iadd, 1) := by decide +kernel
theorem dL_law_247 : decode cL_law 247 = .ok (.iaload, 1) := by decide +kernel
theorem dL_law_248 : decode cL_law 248 = .ok (.invokevirtual 18, 3) := by decide +kernel
theorem dL_law_251 : decode cL_law 251 = .ok (.aload_n 2, 1) := by decide +kernel
theorem dL_law_252 : decode cL_law 252 = .ok (.aload_n 0, 1) := by decide +kernel
theorem dL_law_253 : decode cL_law 253 = .ok (.iload_n 3, 1) := by decide +kernel
theorem dL_law_254 : decode cL_law 254 = .ok (.iconst 1, 1) := by decide +kernel
theorem dL_law_255 : decode cL_law 255 = .ok (.iadd, 1) := by decide +kernel
theorem dL_law_256 : decode cL_law 256 = .ok (.iaload, 1) := by decide +kernel
theorem dL_law_257 : decode cL_law 257 = .ok (.aload_n 0, 1) := by decide +kernel
theorem dL_law_258 : decode cL_law 258 = .ok (.iload_n 3, 1) := by decide +kernel
theorem dL_law_259 : decode cL_law 259 = .ok (.iconst 2, 1) := by decide +kernel
theorem dL_law_260 : decode cL_law 260 = .ok (.iadd, 1) := by decide +kernel
theorem dL_law_261 : decode cL_law 261 = .ok (.iaload, 1) := by decide +kernel
theorem dL_law_262 : decode cL_law 262 = .ok (.invokevirtual 21, 3) := by decide +kernel
theorem dL_law_265 : decode cL_law 265 = .ok (.if_icmp .eq 1140, 3) := by decide +kernel
theorem dL_law_268 : decode cL_law 268 = .ok (.iconst 0, 1) := by decide +kernel
theorem dL_law_269 : decode cL_law 269 = .ok (.ireturn, 1) := by decide +kernel
theorem dL_law_270 : decode cL_law 270 = .ok (.aload_n 1, 1) := by decide +kernel
theorem dL_law_271 : decode cL_law 271 = .ok (.aload_n 0, 1) := by decide +kernel
theorem dL_law_272 : decode cL_law 272 = .ok (.iload_n 3, 1) := by decide +kernel
theorem dL_law_273 : decode cL_law 273 = .ok (.iconst 1, 1) := by decide +kernel
theorem dL_law_274 : decode cL_law 274 = .ok (.iadd, 1) := by decide +kernel
theorem dL_law_275 : decode cL_law 275 = .ok (.iaload, 1) := by decide +kernel
theorem dL_law_276 : decode cL_law 276 = .ok (.invokevirtual 22, 3) := by decide +kernel
theorem dL_law_279 : decode cL_law 279 = .ok (.aload_n 2, 1) := by decide +kernel
theorem dL_law_280 : decode cL_law 280 = .ok (.aload_n 0, 1) := by decide +kernel
theorem dL_law_281 : decode cL_law 281 = .ok (.iload_n 3, 1) := by decide +kernel
theorem dL_law_282 : decode cL_law 282 = .ok (.iconst 1, 1) := by decide +kernel
theorem dL_law_283 : decode cL_law 283 = .ok (.iadd, 1) := by decide +kernel
theorem dL_law_284 : decode cL_law 284 = .ok (.iaload, 1) := by decide +kernel
theorem dL_law_285 : decode cL_law 285 = .ok (.invokevirtual 26, 3) := by decide +kernel
theorem dL_law_288 : decode cL_law 288 = .ok (.if_icmp .eq 1117, 3) := by decide +kernel
theorem dL_law_291 : decode cL_law 291 = .ok (.iconst 0, 1) := by decide +kernel
theorem dL_law_292 : decode cL_law 292 = .ok (.ireturn, 1) := by decide +kernel
theorem dL_law_293 : decode cL_law 293 = .ok (.aload_n 1, 1) := by decide +kernel
theorem dL_law_294 : decode cL_law 294 = .ok (.aload_n 0, 1) := by decide +kernel
theorem dL_law_295 : decode cL_law 295 = .ok (.iload_n 3, 1) := by decide +kernel
theorem dL_law_296 : decode cL_law 296 = .ok (.iconst 1, 1) := by decide +kernel
theorem dL_law_297 : decode cL_law 297 = .ok (.iadd, 1) := by decide +kernel
theorem dL_law_298 : decode cL_law 298 = .ok (.iaload, 1) := by decide +kernel
theorem dL_law_299 : decode cL_law 299 = .ok (.aload_n 0, 1) := by decide +kernel
theorem dL_law_300 : decode cL_law 300 = .ok (.iload_n 3, 1) := by decide +kernel
theorem dL_law_301 : decode cL_law 301 = .ok (.iconst 2, 1) := by decide +kernel
theorem dL_law_302 : decode cL_law 302 = .ok (.iadd, 1) := by decide +kernel
theorem dL_law_303 : decode cL_law 303 = .ok (.iaload, 1) := by decide +kernel
theorem dL_law_304 : decode cL_law 304 = .ok (.invokevirtual 27, 3) := by decide +kernel
theorem dL_law_307 : decode cL_law 307 = .ok (.aload_n 2, 1) := by decide +kernel
theorem dL_law_308 : decode cL_law 308 = .ok (.aload_n 0, 1) := by decide +kernel
theorem dL_law_309 : decode cL_law 309 = .ok (.iload_n 3, 1) := by decide +kernel
theorem dL_law_310 : decode cL_law 310 = .ok (.iconst 1, 1) := by decide +kernel
theorem dL_law_311 : decode cL_law 311 = .ok (.iadd, 1) := by decide +kernel
theorem dL_law_312 : decode cL_law 312 = .ok (.iaload, 1) := by decide +kernel
theorem dL_law_313 : decode cL_law 313 = .ok (.aload_n 0, 1) := by decide +kernel
theorem dL_law_314 : decode cL_law 314 = .ok (.iload_n 3, 1) := by decide +kernel
theorem dL_law_315 : decode cL_law 315 = .ok (.iconst 2, 1) := by decide +kernel
theorem dL_law_316 : decode cL_law 316 = .ok (.iadd, 1) := by decide +kernel
theorem dL_law_317 : decode cL_law 317 = .ok (.iaload, 1) := by decide +kernel
theorem dL_law_318 : decode cL_law 318 = .ok (.invokevirtual 30, 3) := by decide +kernel
theorem dL_law_321 : decode cL_law 321 = .ok (.if_icmp .eq 1084, 3) := by decide +kernel
theorem dL_law_324 : decode cL_law 324 = .ok (.iconst 0, 1) := by decide +kernel
theorem dL_law_325 : decode cL_law 325 = .ok (.ireturn, 1) := by decide +kernel
theorem dL_law_326 : decode cL_law 326 = .ok (.aload_n 1, 1) := by decide +kernel
theorem dL_law_327 : decode cL_law 327 = .ok (.aload_n 0, 1) := by decide +kernel
theorem dL_law_328 : decode cL_law 328 = .ok (.iload_n 3, 1) := by decide +kernel
theorem dL_law_329 : decode cL_law 329 = .ok (.iconst 1, 1) := by decide +kernel
theorem dL_law_330 : decode cL_law 330 = .ok (.iadd, 1) := by decide +kernel
theorem dL_law_331 : decode cL_law 331 = .ok (.iaload, 1) := by decide +kernel
theorem dL_law_332 : decode cL_law 332 = .ok (.invokevirtual 31, 3) := by decide +kernel
theorem dL_law_335 : decode cL_law 335 = .ok (.aload_n 2, 1) := by decide +kernel
theorem dL_law_336 : decode cL_law 336 = .ok (.aload_n 0, 1) := by decide +kernel
theorem dL_law_337 : decode cL_law 337 = .ok (.iload_n 3, 1) := by decide +kernel
theorem dL_law_338 : decode cL_law 338 = .ok (.iconst 1, 1) := by decide +kernel
theorem dL_law_339 : decode cL_law 339 = .ok (.iadd, 1) := by decide +kernel
theorem dL_law_340 : decode cL_law 340 = .ok (.iaload, 1) := by decide +kernel
theorem dL_law_341 : decode cL_law 341 = .ok (.invokevirtual 35, 3) := by decide +kernel
theorem dL_law_344 : decode cL_law 344 = .ok (.lcmp, 1) := by decide +kernel
theorem dL_law_345 : decode cL_law 345 = .ok (.ifCond .eq 1060, 3) := by decide +kernel
theorem dL_law_348 : decode cL_law 348 = .ok (.iconst 0, 1) := by decide +kernel
theorem dL_law_349 : decode cL_law 349 = .ok (.ireturn, 1) := by decide +kernel
theorem dL_law_350 : decode cL_law 350 = .ok (.aload_n 1, 1) := by decide +kernel
theorem dL_law_351 : decode cL_law 351 = .ok (.aload_n 0, 1) := by decide +kernel
theorem dL_law_352 : decode cL_law 352 = .ok (.iload_n 3, 1) := by decide +kernel
theorem dL_law_353 : decode cL_law 353 = .ok (.iconst 1, 1) := by decide +kernel
theorem dL_law_354 : decode cL_law 354 = .ok (.iadd, 1) := by decide +kernel
theorem dL_law_355 : decode cL_law 355 = .ok (.iaload, 1) := by decide +kernel
theorem dL_law_356 : decode cL_law 356 = .ok (.invokevirtual 36, 3) := by decide +kernel
theorem dL_law_359 : decode cL_law 359 = .ok (.aload_n 2, 1) := by decide +kernel
theorem dL_law_360 : decode cL_law 360 = .ok (.aload_n 0, 1) := by decide +kernel
theorem dL_law_361 : decode cL_law 361 = .ok (.iload_n 3, 1) := by decide +kernel
theorem dL_law_362 : decode cL_law 362 = .ok (.iconst 1, 1) := by decide +kernel
theorem dL_law_363 : decode cL_law 363 = .ok (.iadd, 1) := by decide +kernel
theorem dL_law_364 : decode cL_law 364 = .ok (.iaload, 1) := by decide +kernel
theorem dL_law_365 : decode cL_law 365 = .ok (.invokevirtual 39, 3) := by decide +kernel
theorem dL_law_368 : decode cL_law 368 = .ok (.if_icmp .eq 1037, 3) := by decide +kernel
theorem dL_law_371 : decode cL_law 371 = .ok (.iconst 0, 1) := by decide +kernel
theorem dL_law_372 : decode cL_law 372 = .ok (.ireturn, 1) := by decide +kernel
theorem dL_law_373 : decode cL_law 373 = .ok (.aload_n 1, 1) := by decide +kernel
theorem dL_law_374 : decode cL_law 374 = .ok (.aload_n 0, 1) := by decide +kernel
theorem dL_law_375 : decode cL_law 375 = .ok (.iload_n 3, 1) := by decide +kernel
theorem dL_law_376 : decode cL_law 376 = .ok (.iconst 1, 1) := by decide +kernel
theorem dL_law_377 : decode cL_law 377 = .ok (.iadd, 1) := by decide +kernel
theorem dL_law_378 : decode cL_law 378 = .ok (.iaload, 1) := by decide +kernel
theorem dL_law_379 : decode cL_law 379 = .ok (.aload_n 0, 1) := by decide +kernel
theorem dL_law_380 : decode cL_law 380 = .ok (.iload_n 3, 1) := by decide +kernel
theorem dL_law_381 : decode cL_law 381 = .ok (.iconst 2, 1) := by decide +kernel
theorem dL_law_382 : decode cL_law 382 = .ok (.iadd, 1) := by decide +kernel
theorem dL_law_383 : decode cL_law 383 = .ok (.iaload, 1) := by decide +kernel
theorem dL_law_384 : decode cL_law 384 = .ok (.aload_n 0, 1) := by decide +kernel
theorem dL_law_385 : decode cL_law 385 = .ok (.iload_n 3, 1) := by decide +kernel
theorem dL_law_386 : decode cL_law 386 = .ok (.iconst 3, 1) := by decide +kernel
theorem dL_law_387 : decode cL_law 387 = .ok (.iadd, 1) := by decide +kernel
theorem dL_law_388 : decode cL_law 388 = .ok (.iaload, 1) := by decide +kernel
theorem dL_law_389 : decode cL_law 389 = .ok (.aload_n 0, 1) := by decide +kernel
theorem dL_law_390 : decode cL_law 390 = .ok (.iload_n 3, 1) := by decide +kernel
theorem dL_law_391 : decode cL_law 391 = .ok (.iconst 4, 1) := by decide +kernel
theorem dL_law_392 : decode cL_law 392 = .ok (.iadd, 1) := by decide +kernel
theorem dL_law_393 : decode cL_law 393 = .ok (.iaload, 1) := by decide +kernel
theorem dL_law_394 : decode cL_law 394 = .ok (.invokevirtual 40, 3) := by decide +kernel
theorem dL_law_397 : decode cL_law 397 = .ok (.aload_n 2, 1) := by decide +kernel
theorem dL_law_398 : decode cL_law 398 = .ok (.aload_n 0, 1) := by decide +kernel
theorem dL_law_399 : decode cL_law 399 = .ok (.iload_n 3, 1) := by decide +kernel
theorem dL_law_400 : decode cL_law 400 = .ok (.iconst 1, 1) := by decide +kernel
theorem dL_law_401 : decode cL_law 401 = .ok (.iadd, 1) := by decide +kernel
theorem dL_law_402 : decode cL_law 402 = .ok (.iaload, 1) := by decide +kernel
theorem dL_law_403 : decode cL_law 403 = .ok (.aload_n 0, 1) := by decide +kernel
theorem dL_law_404 : decode cL_law 404 = .ok (.iload_n 3, 1) := by decide +kernel
theorem dL_law_405 : decode cL_law 405 = .ok (.iconst 2, 1) := by decide +kernel
theorem dL_law_406 : decode cL_law 406 = .ok (.iadd, 1) := by decide +kernel
theorem dL_law_407 : decode cL_law 407 = .ok (.iaload, 1) := by decide +kernel
theorem dL_law_408 : decode cL_law 408 = .ok (.aload_n 0, 1) := by decide +kernel
theorem dL_law_409 : decode cL_law 409 = .ok (.iload_n 3, 1) := by decide +kernel
theorem dL_law_410 : decode cL_law 410 = .ok (.iconst 3, 1) := by decide +kernel
theorem dL_law_411 : decode cL_law 411 = .ok (.iadd, 1) := by decide +kernel
theorem dL_law_412 : decode cL_law 412 = .ok (.iaload, 1) := by decide +kernel
theorem dL_law_413 : decode cL_law 413 = .ok (.aload_n 0, 1) := by decide +kernel
theorem dL_law_414 : decode cL_law 414 = .ok (.iload_n 3, 1) := by decide +kernel
theorem dL_law_415 : decode cL_law 415 = .ok (.iconst 4, 1) := by decide +kernel
theorem dL_law_416 : decode cL_law 416 = .ok (.iadd, 1) := by decide +kernel
theorem dL_law_417 : decode cL_law 417 = .ok (.iaload, 1) := by decide +kernel
theorem dL_law_418 : decode cL_law 418 = .ok (.invokevirtual 44, 3) := by decide +kernel
theorem dL_law_421 : decode cL_law 421 = .ok (.if_icmp .eq 984, 3) := by decide +kernel
theorem dL_law_424 : decode cL_law 424 = .ok (.iconst 0, 1) := by decide +kernel
theorem dL_law_425 : decode cL_law 425 = .ok (.ireturn, 1) := by decide +kernel
theorem dL_law_426 : decode cL_law 426 = .ok (.aload_n 1, 1) := by decide +kernel
theorem dL_law_427 : decode cL_law 427 = .ok (.aload_n 0, 1) := by decide +kernel
theorem dL_law_428 : decode cL_law 428 = .ok (.iload_n 3, 1) := by decide +kernel
theorem dL_law_429 : decode cL_law 429 = .ok (.iconst 1, 1) := by decide +kernel
theorem dL_law_430 : decode cL_law 430 = .ok (.iadd, 1) := by decide +kernel
theorem dL_law_431 : decode cL_law 431 = .ok (.iaload, 1) := by decide +kernel
theorem dL_law_432 : decode cL_law 432 = .ok (.invokevirtual 45, 3) := by decide +kernel
theorem dL_law_435 : decode cL_law 435 = .ok (.aload_n 2, 1) := by decide +kernel
theorem dL_law_436 : decode cL_law 436 = .ok (.aload_n 0, 1) := by decide +kernel
theorem dL_law_437 : decode cL_law 437 = .ok (.iload_n 3, 1) := by decide +kernel
theorem dL_law_438 : decode cL_law 438 = .ok (.iconst 1, 1) := by decide +kernel
theorem dL_law_439 : decode cL_law 439 = .ok (.iadd, 1) := by decide +kernel
theorem dL_law_440 : decode cL_law 440 = .ok (.iaload, 1) := by decide +kernel
theorem dL_law_441 : decode cL_law 441 = .ok (.invokevirtual 48, 3) := by decide +kernel
theorem dL_law_444 : decode cL_law 444 = .ok (.if_icmp .eq 961, 3) := by decide +kernel
theorem dL_law_447 : decode cL_law 447 = .ok (.iconst 0, 1) := by decide +kernel
theorem dL_law_448 : decode cL_law 448 = .ok (.ireturn, 1) := by decide +kernel
theorem dL_law_449 : decode cL_law 449 = .ok (.aload_n 1, 1) := by decide +kernel
theorem dL_law_450 : decode cL_law 450 = .ok (.aload_n 0, 1) := by decide +kernel
theorem dL_law_451 : decode cL_law 451 = .ok (.iload_n 3, 1) := by decide +kernel
theorem dL_law_452 : decode cL_law 452 = .ok (.iconst 1, 1) := by decide +kernel
theorem dL_law_453 : decode cL_law 453 = .ok (.iadd, 1) := by decide +kernel
theorem dL_law_454 : decode cL_law 454 = .ok (.iaload, 1) := by decide +kernel
theorem dL_law_455 : decode cL_law 455 = .ok (.aload_n 0, 1) := by decide +kernel
theorem dL_law_456 : decode cL_law 456 = .ok (.iload_n 3, 1) := by decide +kernel
theorem dL_law_457 : decode cL_law 457 = .ok (.iconst 2, 1) := by decide +kernel
theorem dL_law_458 : decode cL_law 458 = .ok (.iadd, 1) := by decide +kernel
theorem dL_law_459 : decode cL_law 459 = .ok (.iaload, 1) := by decide +kernel
theorem dL_law_460 : decode cL_law 460 = .ok (.invokevirtual 49, 3) := by decide +kernel
theorem dL_law_463 : decode cL_law 463 = .ok (.aload_n 2, 1) := by decide +kernel
theorem dL_law_464 : decode cL_law 464 = .ok (.aload_n 0, 1) := by decide +kernel
theorem dL_law_465 : decode cL_law 465 = .ok (.iload_n 3, 1) := by decide +kernel
theorem dL_law_466 : decode cL_law 466 = .ok (.iconst 1, 1) := by decide +kernel
theorem dL_law_467 : decode cL_law 467 = .ok (.iadd, 1) := by decide +kernel
theorem dL_law_468 : decode cL_law 468 = .ok (.iaload, 1) := by decide +kernel
theorem dL_law_469 : decode cL_law 469 = .ok (.aload_n 0, 1) := by decide +kernel
theorem dL_law_470 : decode cL_law 470 = .ok (.iload_n 3, 1) := by decide +kernel
theorem dL_law_471 : decode cL_law 471 = .ok (.iconst 2, 1) := by decide +kernel
theorem dL_law_472 : decode cL_law 472 = .ok (.iadd, 1) := by decide +kernel
theorem dL_law_473 : decode cL_law 473 = .ok (.iaload, 1) := by decide +kernel
theorem dL_law_474 : decode cL_law 474 = .ok (.invokevirtual 52, 3) := by decide +kernel
theorem dL_law_477 : decode cL_law 477 = .ok (.if_icmp .eq 928, 3) := by decide +kernel
theorem dL_law_480 : decode cL_law 480 = .ok (.iconst 0, 1) := by decide +kernel
theorem dL_law_481 : decode cL_law 481 = .ok (.ireturn, 1) := by decide +kernel
theorem dL_law_482 : decode cL_law 482 = .ok (.aload_n 1, 1) := by decide +kernel
theorem dL_law_483 : decode cL_law 483 = .ok (.aload_n 0, 1) := by decide +kernel
theorem dL_law_484 : decode cL_law 484 = .ok (.iload_n 3, 1) := by decide +kernel
theorem dL_law_485 : decode cL_law 485 = .ok (.iconst 1, 1) := by decide +kernel
theorem dL_law_486 : decode cL_law 486 = .ok (.iadd, 1) := by decide +kernel
theorem dL_law_487 : decode cL_law 487 = .ok (.iaload, 1) := by decide +kernel
theorem dL_law_488 : decode cL_law 488 = .ok (.aload_n 0, 1) := by decide +kernel
theorem dL_law_489 : decode cL_law 489 = .ok (.iload_n 3, 1) := by decide +kernel
theorem dL_law_490 : decode cL_law 490 = .ok (.iconst 2, 1) := by decide +kernel
theorem dL_law_491 : decode cL_law 491 = .ok (.iadd, 1) := by decide +kernel
theorem dL_law_492 : decode cL_law 492 = .ok (.iaload, 1) := by decide +kernel
theorem dL_law_493 : decode cL_law 493 = .ok (.aload_n 0, 1) := by decide +kernel
theorem dL_law_494 : decode cL_law 494 = .ok (.iload_n 3, 1) := by decide +kernel
theorem dL_law_495 : decode cL_law 495 = .ok (.iconst 3, 1) := by decide +kernel
theorem dL_law_496 : decode cL_law 496 = .ok (.iadd, 1) := by decide +kernel
theorem dL_law_497 : decode cL_law 497 = .ok (.iaload, 1) := by decide +kernel
theorem dL_law_498 : decode cL_law 498 = .ok (.invokevirtual 53, 3) := by decide +kernel
theorem dL_law_501 : decode cL_law 501 = .ok (.aload_n 2, 1) := by decide +kernel
theorem dL_law_502 : decode cL_law 502 = .ok (.aload_n 0, 1) := by decide +kernel
theorem dL_law_503 : decode cL_law 503 = .ok (.iload_n 3, 1) := by decide +kernel
theorem dL_law_504 : decode cL_law 504 = .ok (.iconst 1, 1) := by decide +kernel
theorem dL_law_505 : decode cL_law 505 = .ok (.iadd, 1) := by decide +kernel
theorem dL_law_506 : decode cL_law 506 = .ok (.iaload, 1) := by decide +kernel
theorem dL_law_507 : decode cL_law 507 = .ok (.aload_n 0, 1) := by decide +kernel
theorem dL_law_508 : decode cL_law 508 = .ok (.iload_n 3, 1) := by decide +kernel
theorem dL_law_509 : decode cL_law 509 = .ok (.iconst 2, 1) := by decide +kernel
theorem dL_law_510 : decode cL_law 510 = .ok (.iadd, 1) := by decide +kernel
theorem dL_law_511 : decode cL_law 511 = .ok (.iaload, 1) := by decide +kernel
theorem dL_law_512 : decode cL_law 512 = .ok (.aload_n 0, 1) := by decide +kernel
theorem dL_law_513 : decode cL_law 513 = .ok (.iload_n 3, 1) := by decide +kernel
theorem dL_law_514 : decode cL_law 514 = .ok (.iconst 3, 1) := by decide +kernel
theorem dL_law_515 : decode cL_law 515 = .ok (.iadd, 1) := by decide +kernel
theorem dL_law_516 : decode cL_law 516 = .ok (.iaload, 1) := by decide +kernel
theorem dL_law_517 : decode cL_law 517 = .ok (.invokevirtual 57, 3) := by decide +kernel
theorem dL_law_520 : decode cL_law 520 = .ok (.if_icmp .eq 885, 3) := by decide +kernel
theorem dL_law_523 : decode cL_law 523 = .ok (.iconst 0, 1) := by decide +kernel
theorem dL_law_524 : decode cL_law 524 = .ok (.ireturn, 1) := by decide +kernel
theorem dL_law_525 : decode cL_law 525 = .ok (.aload_n 1, 1) := by decide +kernel
theorem dL_law_526 : decode cL_law 526 = .ok (.aload_n 0, 1) := by decide +kernel
theorem dL_law_527 : decode cL_law 527 = .ok (.iload_n 3, 1) := by decide +kernel
theorem dL_law_528 : decode cL_law 528 = .ok (.iconst 1, 1) := by decide +kernel
theorem dL_law_529 : decode cL_law 529 = .ok (.iadd, 1) := by decide +kernel
theorem dL_law_530 : decode cL_law 530 = .ok (.iaload, 1) := by decide +kernel
theorem dL_law_531 : decode cL_law 531 = .ok (.invokevirtual 58, 3) := by decide +kernel
theorem dL_law_534 : decode cL_law 534 = .ok (.aload_n 2, 1) := by decide +kernel
theorem dL_law_535 : decode cL_law 535 = .ok (.aload_n 0, 1) := by decide +kernel
theorem dL_law_536 : decode cL_law 536 = .ok (.iload_n 3, 1) := by decide +kernel
theorem dL_law_537 : decode cL_law 537 = .ok (.iconst 1, 1) := by decide +kernel
theorem dL_law_538 : decode cL_law 538 = .ok (.iadd, 1) := by decide +kernel
theorem dL_law_539 : decode cL_law 539 = .ok (.iaload, 1) := by decide +kernel
theorem dL_law_540 : decode cL_law 540 = .ok (.invokevirtual 61, 3) := by decide +kernel
theorem dL_law_543 : decode cL_law 543 = .ok (.if_icmp .eq 862, 3) := by decide +kernel
theorem dL_law_546 : decode cL_law 546 = .ok (.iconst 0, 1) := by decide +kernel
theorem dL_law_547 : decode cL_law 547 = .ok (.ireturn, 1) := by decide +kernel
theorem dL_law_548 : decode cL_law 548 = .ok (.aload_n 1, 1) := by decide +kernel
theorem dL_law_549 : decode cL_law 549 = .ok (.aload_n 0, 1) := by decide +kernel
theorem dL_law_550 : decode cL_law 550 = .ok (.iload_n 3, 1) := by decide +kernel
theorem dL_law_551 : decode cL_law 551 = .ok (.iconst 1, 1) := by decide +kernel
theorem dL_law_552 : decode cL_law 552 = .ok (.iadd, 1) := by decide +kernel
theorem dL_law_553 : decode cL_law 553 = .ok (.iaload, 1) := by decide +kernel
theorem dL_law_554 : decode cL_law 554 = .ok (.aload_n 0, 1) := by decide +kernel
theorem dL_law_555 : decode cL_law 555 = .ok (.iload_n 3, 1) := by decide +kernel
theorem dL_law_556 : decode cL_law 556 = .ok (.iconst 2, 1) := by decide +kernel
theorem dL_law_557 : decode cL_law 557 = .ok (.iadd, 1) := by decide +kernel
theorem dL_law_558 : decode cL_law 558 = .ok (.iaload, 1) := by decide +kernel
theorem dL_law_559 : decode cL_law 559 = .ok (.invokevirtual 62, 3) := by decide +kernel
theorem dL_law_562 : decode cL_law 562 = .ok (.aload_n 2, 1) := by decide +kernel
theorem dL_law_563 : decode cL_law 563 = .ok (.aload_n 0, 1) := by decide +kernel
theorem dL_law_564 : decode cL_law 564 = .ok (.iload_n 3, 1) := by decide +kernel
theorem dL_law_565 : decode cL_law 565 = .ok (.iconst 1, 1) := by decide +kernel
theorem dL_law_566 : decode cL_law 566 = .ok (.iadd, 1) := by decide +kernel
theorem dL_law_567 : decode cL_law 567 = .ok (.iaload, 1) := by decide +kernel
theorem dL_law_568 : decode cL_law 568 = .ok (.aload_n 0, 1) := by decide +kernel
theorem dL_law_569 : decode cL_law 569 = .ok (.iload_n 3, 1) := by decide +kernel
theorem dL_law_570 : decode cL_law 570 = .ok (.iconst 2, 1) := by decide +kernel
theorem dL_law_571 : decode cL_law 571 = .ok (.iadd, 1) := by decide +kernel
theorem dL_law_572 : decode cL_law 572 = .ok (.iaload, 1) := by decide +kernel
theorem dL_law_573 : decode cL_law 573 = .ok (.invokevirtual 65, 3) := by decide +kernel
theorem dL_law_576 : decode cL_law 576 = .ok (.if_icmp .eq 829, 3) := by decide +kernel
theorem dL_law_579 : decode cL_law 579 = .ok (.iconst 0, 1) := by decide +kernel
theorem dL_law_580 : decode cL_law 580 = .ok (.ireturn, 1) := by decide +kernel
theorem dL_law_581 : decode cL_law 581 = .ok (.aload_n 1, 1) := by decide +kernel
theorem dL_law_582 : decode cL_law 582 = .ok (.aload_n 0, 1) := by decide +kernel
theorem dL_law_583 : decode cL_law 583 = .ok (.iload_n 3, 1) := by decide +kernel
theorem dL_law_584 : decode cL_law 584 = .ok (.iconst 1, 1) := by decide +kernel
theorem dL_law_585 : decode cL_law 585 = .ok (.iadd, 1) := by decide +kernel
theorem dL_law_586 : decode cL_law 586 = .ok (.iaload, 1) := by decide +kernel
theorem dL_law_587 : decode cL_law 587 = .ok (.aload_n 0, 1) := by decide +kernel
theorem dL_law_588 : decode cL_law 588 = .ok (.iload_n 3, 1) := by decide +kernel
theorem dL_law_589 : decode cL_law 589 = .ok (.iconst 2, 1) := by decide +kernel
theorem dL_law_590 : decode cL_law 590 = .ok (.iadd, 1) := by decide +kernel
theorem dL_law_591 : decode cL_law 591 = .ok (.iaload, 1) := by decide +kernel
theorem dL_law_592 : decode cL_law 592 = .ok (.invokevirtual 66, 3) := by decide +kernel
theorem dL_law_595 : decode cL_law 595 = .ok (.aload_n 2, 1) := by decide +kernel
theorem dL_law_596 : decode cL_law 596 = .ok (.aload_n 0, 1) := by decide +kernel
theorem dL_law_597 : decode cL_law 597 = .ok (.iload_n 3, 1) := by decide +kernel
theorem dL_law_598 : decode cL_law 598 = .ok (.iconst 1, 1) := by decide +kernel
theorem dL_law_599 : decode cL_law 599 = .ok (.iadd, 1) := by decide +kernel
theorem dL_law_600 : decode cL_law 600 = .ok (.iaload, 1) := by decide +kernel
theorem dL_law_601 : decode cL_law 601 = .ok (.aload_n 0, 1) := by decide +kernel
theorem dL_law_602 : decode cL_law 602 = .ok (.iload_n 3, 1) := by decide +kernel
theorem dL_law_603 : decode cL_law 603 = .ok (.iconst 2, 1) := by decide +kernel
theorem dL_law_604 : decode cL_law 604 = .ok (.iadd, 1) := by decide +kernel
theorem dL_law_605 : decode cL_law 605 = .ok (.iaload, 1) := by decide +kernel
theorem dL_law_606 : decode cL_law 606 = .ok (.invokevirtual 69, 3) := by decide +kernel
theorem dL_law_609 : decode cL_law 609 = .ok (.if_icmp .eq 796, 3) := by decide +kernel
theorem dL_law_612 : decode cL_law 612 = .ok (.iconst 0, 1) := by decide +kernel
theorem dL_law_613 : decode cL_law 613 = .ok (.ireturn, 1) := by decide +kernel
theorem dL_law_614 : decode cL_law 614 = .ok (.aload_n 1, 1) := by decide +kernel
theorem dL_law_615 : decode cL_law 615 = .ok (.aload_n 0, 1) := by decide +kernel
theorem dL_law_616 : decode cL_law 616 = .ok (.iload_n 3, 1) := by decide +kernel
theorem dL_law_617 : decode cL_law 617 = .ok (.iconst 1, 1) := by decide +kernel
theorem dL_law_618 : decode cL_law 618 = .ok (.iadd, 1) := by decide +kernel
theorem dL_law_619 : decode cL_law 619 = .ok (.iaload, 1) := by decide +kernel
theorem dL_law_620 : decode cL_law 620 = .ok (.aload_n 0, 1) := by decide +kernel
theorem dL_law_621 : decode cL_law 621 = .ok (.iload_n 3, 1) := by decide +kernel
theorem dL_law_622 : decode cL_law 622 = .ok (.iconst 2, 1) := by decide +kernel
theorem dL_law_623 : decode cL_law 623 = .ok (.iadd, 1) := by decide +kernel
theorem dL_law_624 : decode cL_law 624 = .ok (.iaload, 1) := by decide +kernel
theorem dL_law_625 : decode cL_law 625 = .ok (.invokevirtual 70, 3) := by decide +kernel
theorem dL_law_628 : decode cL_law 628 = .ok (.aload_n 2, 1) := by decide +kernel
theorem dL_law_629 : decode cL_law 629 = .ok (.aload_n 0, 1) := by decide +kernel
theorem dL_law_630 : decode cL_law 630 = .ok (.iload_n 3, 1) := by decide +kernel
theorem dL_law_631 : decode cL_law 631 = .ok (.iconst 1, 1) := by decide +kernel
theorem dL_law_632 : decode cL_law 632 = .ok (.iadd, 1) := by decide +kernel
theorem dL_law_633 : decode cL_law 633 = .ok (.iaload, 1) := by decide +kernel
theorem dL_law_634 : decode cL_law 634 = .ok (.aload_n 0, 1) := by decide +kernel
theorem dL_law_635 : decode cL_law 635 = .ok (.iload_n 3, 1) := by decide +kernel
theorem dL_law_636 : decode cL_law 636 = .ok (.iconst 2, 1) := by decide +kernel
theorem dL_law_637 : decode cL_law 637 = .ok (.iadd, 1) := by decide +kernel
theorem dL_law_638 : decode cL_law 638 = .ok (.iaload, 1) := by decide +kernel
theorem dL_law_639 : decode cL_law 639 = .ok (.invokevirtual 73, 3) := by decide +kernel
theorem dL_law_642 : decode cL_law 642 = .ok (.if_icmp .eq 763, 3) := by decide +kernel
theorem dL_law_645 : decode cL_law 645 = .ok (.iconst 0, 1) := by decide +kernel
theorem dL_law_646 : decode cL_law 646 = .ok (.ireturn, 1) := by decide +kernel
theorem dL_law_647 : decode cL_law 647 = .ok (.aload_n 1, 1) := by decide +kernel
theorem dL_law_648 : decode cL_law 648 = .ok (.aload_n 0, 1) := by decide +kernel
theorem dL_law_649 : decode cL_law 649 = .ok (.iload_n 3, 1) := by decide +kernel
theorem dL_law_650 : decode cL_law 650 = .ok (.iconst 1, 1) := by decide +kernel
theorem dL_law_651 : decode cL_law 651 = .ok (.iadd, 1) := by decide +kernel
theorem dL_law_652 : decode cL_law 652 = .ok (.iaload, 1) := by decide +kernel
theorem dL_law_653 : decode cL_law 653 = .ok (.aload_n 0, 1) := by decide +kernel
theorem dL_law_654 : decode cL_law 654 = .ok (.iload_n 3, 1) := by decide +kernel
theorem dL_law_655 : decode cL_law 655 = .ok (.iconst 2, 1) := by decide +kernel
theorem dL_law_656 : decode cL_law 656 = .ok (.iadd, 1) := by decide +kernel
theorem dL_law_657 : decode cL_law 657 = .ok (.iaload, 1) := by decide +kernel
theorem dL_law_658 : decode cL_law 658 = .ok (.aload_n 0, 1) := by decide +kernel
theorem dL_law_659 : decode cL_law 659 = .ok (.iload_n 3, 1) := by decide +kernel
theorem dL_law_660 : decode cL_law 660 = .ok (.iconst 3, 1) := by decide +kernel
theorem dL_law_661 : decode cL_law 661 = .ok (.iadd, 1) := by decide +kernel
theorem dL_law_662 : decode cL_law 662 = .ok (.iaload, 1) := by decide +kernel
theorem dL_law_663 : decode cL_law 663 = .ok (.aload_n 0, 1) := by decide +kernel
theorem dL_law_664 : decode cL_law 664 = .ok (.iload_n 3, 1) := by decide +kernel
theorem dL_law_665 : decode cL_law 665 = .ok (.iconst 4, 1) := by decide +kernel
theorem dL_law_666 : decode cL_law 666 = .ok (.iadd, 1) := by decide +kernel
theorem dL_law_667 : decode cL_law 667 = .ok (.iaload, 1) := by decide +kernel
theorem dL_law_668 : decode cL_law 668 = .ok (.invokevirtual 74, 3) := by decide +kernel
theorem dL_law_671 : decode cL_law 671 = .ok (.aload_n 2, 1) := by decide +kernel
theorem dL_law_672 : decode cL_law 672 = .ok (.aload_n 0, 1) := by decide +kernel
theorem dL_law_673 : decode cL_law 673 = .ok (.iload_n 3, 1) := by decide +kernel
theorem dL_law_674 : decode cL_law 674 = .ok (.iconst 1, 1) := by decide +kernel
theorem dL_law_675 : decode cL_law 675 = .ok (.iadd, 1) := by decide +kernel
theorem dL_law_676 : decode cL_law 676 = .ok (.iaload, 1) := by decide +kernel
theorem dL_law_677 : decode cL_law 677 = .ok (.aload_n 0, 1) := by decide +kernel
theorem dL_law_678 : decode cL_law 678 = .ok (.iload_n 3, 1) := by decide +kernel
theorem dL_law_679 : decode cL_law 679 = .ok (.iconst 2, 1) := by decide +kernel
theorem dL_law_680 : decode cL_law 680 = .ok (.iadd, 1) := by decide +kernel
theorem dL_law_681 : decode cL_law 681 = .ok (.iaload, 1) := by decide +kernel
theorem dL_law_682 : decode cL_law 682 = .ok (.aload_n 0, 1) := by decide +kernel
theorem dL_law_683 : decode cL_law 683 = .ok (.iload_n 3, 1) := by decide +kernel
theorem dL_law_684 : decode cL_law 684 = .ok (.iconst 3, 1) := by decide +kernel
theorem dL_law_685 : decode cL_law 685 = .ok (.iadd, 1) := by decide +kernel
theorem dL_law_686 : decode cL_law 686 = .ok (.iaload, 1) := by decide +kernel
theorem dL_law_687 : decode cL_law 687 = .ok (.aload_n 0, 1) := by decide +kernel
theorem dL_law_688 : decode cL_law 688 = .ok (.iload_n 3, 1) := by decide +kernel
theorem dL_law_689 : decode cL_law 689 = .ok (.iconst 4, 1) := by decide +kernel
theorem dL_law_690 : decode cL_law 690 = .ok (.iadd, 1) := by decide +kernel
theorem dL_law_691 : decode cL_law 691 = .ok (.iaload, 1) := by decide +kernel
theorem dL_law_692 : decode cL_law 692 = .ok (.invokevirtual 77, 3) := by decide +kernel
theorem dL_law_695 : decode cL_law 695 = .ok (.if_icmp .eq 710, 3) := by decide +kernel
theorem dL_law_698 : decode cL_law 698 = .ok (.iconst 0, 1) := by decide +kernel
theorem dL_law_699 : decode cL_law 699 = .ok (.ireturn, 1) := by decide +kernel
theorem dL_law_700 : decode cL_law 700 = .ok (.aload_n 1, 1) := by decide +kernel
theorem dL_law_701 : decode cL_law 701 = .ok (.aload_n 0, 1) := by decide +kernel
theorem dL_law_702 : decode cL_law 702 = .ok (.iload_n 3, 1) := by decide +kernel
theorem dL_law_703 : decode cL_law 703 = .ok (.iconst 1, 1) := by decide +kernel
theorem dL_law_704 : decode cL_law 704 = .ok (.iadd, 1) := by decide +kernel
theorem dL_law_705 : decode cL_law 705 = .ok (.iaload, 1) := by decide +kernel
theorem dL_law_706 : decode cL_law 706 = .ok (.aload_n 0, 1) := by decide +kernel
theorem dL_law_707 : decode cL_law 707 = .ok (.iload_n 3, 1) := by decide +kernel
theorem dL_law_708 : decode cL_law 708 = .ok (.iconst 2, 1) := by decide +kernel
theorem dL_law_709 : decode cL_law 709 = .ok (.iadd, 1) := by decide +kernel
theorem dL_law_710 : decode cL_law 710 = .ok (.iaload, 1) := by decide +kernel
theorem dL_law_711 : decode cL_law 711 = .ok (.aload_n 0, 1) := by decide +kernel
theorem dL_law_712 : decode cL_law 712 = .ok (.iload_n 3, 1) := by decide +kernel
theorem dL_law_713 : decode cL_law 713 = .ok (.iconst 3, 1) := by decide +kernel
theorem dL_law_714 : decode cL_law 714 = .ok (.iadd, 1) := by decide +kernel
theorem dL_law_715 : decode cL_law 715 = .ok (.iaload, 1) := by decide +kernel
theorem dL_law_716 : decode cL_law 716 = .ok (.aload_n 0, 1) := by decide +kernel
theorem dL_law_717 : decode cL_law 717 = .ok (.iload_n 3, 1) := by decide +kernel
theorem dL_law_718 : decode cL_law 718 = .ok (.iconst 4, 1) := by decide +kernel
theorem dL_law_719 : decode cL_law 719 = .ok (.iadd, 1) := by decide +kernel
theorem dL_law_720 : decode cL_law 720 = .ok (.iaload, 1) := by decide +kernel
theorem dL_law_721 : decode cL_law 721 = .ok (.aload_n 0, 1) := by decide +kernel
theorem dL_law_722 : decode cL_law 722 = .ok (.iload_n 3, 1) := by decide +kernel
theorem dL_law_723 : decode cL_law 723 = .ok (.iconst 5, 1) := by decide +kernel
theorem dL_law_724 : decode cL_law 724 = .ok (.iadd, 1) := by decide +kernel
theorem dL_law_725 : decode cL_law 725 = .ok (.iaload, 1) := by decide +kernel
theorem dL_law_726 : decode cL_law 726 = .ok (.aload_n 0, 1) := by decide +kernel
theorem dL_law_727 : decode cL_law 727 = .ok (.iload_n 3, 1) := by decide +kernel
theorem dL_law_728 : decode cL_law 728 = .ok (.bipush 6, 2) := by decide +kernel
theorem dL_law_730 : decode cL_law 730 = .ok (.iadd, 1) := by decide +kernel
theorem dL_law_731 : decode cL_law 731 = .ok (.iaload, 1) := by decide +kernel
theorem dL_law_732 : decode cL_law 732 = .ok (.invokevirtual 78, 3) := by decide +kernel
theorem dL_law_735 : decode cL_law 735 = .ok (.aload_n 2, 1) := by decide +kernel
theorem dL_law_736 : decode cL_law 736 = .ok (.aload_n 0, 1) := by decide +kernel
theorem dL_law_737 : decode cL_law 737 = .ok (.iload_n 3, 1) := by decide +kernel
theorem dL_law_738 : decode cL_law 738 = .ok (.iconst 1, 1) := by decide +kernel
theorem dL_law_739 : decode cL_law 739 = .ok (.iadd, 1) := by decide +kernel
theorem dL_law_740 : decode cL_law 740 = .ok (.iaload, 1) := by decide +kernel
theorem dL_law_741 : decode cL_law 741 = .ok (.aload_n 0, 1) := by decide +kernel
theorem dL_law_742 : decode cL_law 742 = .ok (.iload_n 3, 1) := by decide +kernel
theorem dL_law_743 : decode cL_law 743 = .ok (.iconst 2, 1) := by decide +kernel
theorem dL_law_744 : decode cL_law 744 = .ok (.iadd, 1) := by decide +kernel
theorem dL_law_745 : decode cL_law 745 = .ok (.iaload, 1) := by decide +kernel
theorem dL_law_746 : decode cL_law 746 = .ok (.aload_n 0, 1) := by decide +kernel
theorem dL_law_747 : decode cL_law 747 = .ok (.iload_n 3, 1) := by decide +kernel
theorem dL_law_748 : decode cL_law 748 = .ok (.iconst 3, 1) := by decide +kernel
theorem dL_law_749 : decode cL_law 749 = .ok (.iadd, 1) := by decide +kernel
theorem dL_law_750 : decode cL_law 750 = .ok (.iaload, 1) := by decide +kernel
theorem dL_law_751 : decode cL_law 751 = .ok (.aload_n 0, 1) := by decide +kernel
theorem dL_law_752 : decode cL_law 752 = .ok (.iload_n 3, 1) := by decide +kernel
theorem dL_law_753 : decode cL_law 753 = .ok (.iconst 4, 1) := by decide +kernel
theorem dL_law_754 : decode cL_law 754 = .ok (.iadd, 1) := by decide +kernel
theorem dL_law_755 : decode cL_law 755 = .ok (.iaload, 1) := by decide +kernel
theorem dL_law_756 : decode cL_law 756 = .ok (.aload_n 0, 1) := by decide +kernel
theorem dL_law_757 : decode cL_law 757 = .ok (.iload_n 3, 1) := by decide +kernel
theorem dL_law_758 : decode cL_law 758 = .ok (.iconst 5, 1) := by decide +kernel
theorem dL_law_759 : decode cL_law 759 = .ok (.iadd, 1) := by decide +kernel
theorem dL_law_760 : decode cL_law 760 = .ok (.iaload, 1) := by decide +kernel
theorem dL_law_761 : decode cL_law 761 = .ok (.aload_n 0, 1) := by decide +kernel
theorem dL_law_762 : decode cL_law 762 = .ok (.iload_n 3, 1) := by decide +kernel
theorem dL_law_763 : decode cL_law 763 = .ok (.bipush 6, 2) := by decide +kernel
theorem dL_law_765 : decode cL_law 765 = .ok (.iadd, 1) := by decide +kernel
theorem dL_law_766 : decode cL_law 766 = .ok (.iaload, 1) := by decide +kernel
theorem dL_law_767 : decode cL_law 767 = .ok (.invokevirtual 82, 3) := by decide +kernel
theorem dL_law_770 : decode cL_law 770 = .ok (.if_icmp .eq 635, 3) := by decide +kernel
theorem dL_law_773 : decode cL_law 773 = .ok (.iconst 0, 1) := by decide +kernel
theorem dL_law_774 : decode cL_law 774 = .ok (.ireturn, 1) := by decide +kernel
theorem dL_law_775 : decode cL_law 775 = .ok (.aload_n 1, 1) := by decide +kernel
theorem dL_law_776 : decode cL_law 776 = .ok (.aload_n 0, 1) := by decide +kernel
theorem dL_law_777 : decode cL_law 777 = .ok (.iload_n 3, 1) := by decide +kernel
theorem dL_law_778 : decode cL_law 778 = .ok (.iconst 1, 1) := by decide +kernel
theorem dL_law_779 : decode cL_law 779 = .ok (.iadd, 1) := by decide +kernel
theorem dL_law_780 : decode cL_law 780 = .ok (.iaload, 1) := by decide +kernel
theorem dL_law_781 : decode cL_law 781 = .ok (.invokevirtual 83, 3) := by decide +kernel
theorem dL_law_784 : decode cL_law 784 = .ok (.aload_n 2, 1) := by decide +kernel
theorem dL_law_785 : decode cL_law 785 = .ok (.aload_n 0, 1) := by decide +kernel
theorem dL_law_786 : decode cL_law 786 = .ok (.iload_n 3, 1) := by decide +kernel
theorem dL_law_787 : decode cL_law 787 = .ok (.iconst 1, 1) := by decide +kernel
theorem dL_law_788 : decode cL_law 788 = .ok (.iadd, 1) := by decide +kernel
theorem dL_law_789 : decode cL_law 789 = .ok (.iaload, 1) := by decide +kernel
theorem dL_law_790 : decode cL_law 790 = .ok (.invokevirtual 86, 3) := by decide +kernel
theorem dL_law_793 : decode cL_law 793 = .ok (.if_icmp .eq 612, 3) := by decide +kernel
theorem dL_law_796 : decode cL_law 796 = .ok (.iconst 0, 1) := by decide +kernel
theorem dL_law_797 : decode cL_law 797 = .ok (.ireturn, 1) := by decide +kernel
theorem dL_law_798 : decode cL_law 798 = .ok (.aload_n 1, 1) := by decide +kernel
theorem dL_law_799 : decode cL_law 799 = .ok (.aload_n 0, 1) := by decide +kernel
theorem dL_law_800 : decode cL_law 800 = .ok (.iload_n 3, 1) := by decide +kernel
theorem dL_law_801 : decode cL_law 801 = .ok (.iconst 1, 1) := by decide +kernel
theorem dL_law_802 : decode cL_law 802 = .ok (.iadd, 1) := by decide +kernel
theorem dL_law_803 : decode cL_law 803 = .ok (.iaload, 1) := by decide +kernel
theorem dL_law_804 : decode cL_law 804 = .ok (.invokevirtual 87, 3) := by decide +kernel
theorem dL_law_807 : decode cL_law 807 = .ok (.aload_n 2, 1) := by decide +kernel
theorem dL_law_808 : decode cL_law 808 = .ok (.aload_n 0, 1) := by decide +kernel
theorem dL_law_809 : decode cL_law 809 = .ok (.iload_n 3, 1) := by decide +kernel
theorem dL_law_810 : decode cL_law 810 = .ok (.iconst 1, 1) := by decide +kernel
theorem dL_law_811 : decode cL_law 811 = .ok (.iadd, 1) := by decide +kernel
theorem dL_law_812 : decode cL_law 812 = .ok (.iaload, 1) := by decide +kernel
theorem dL_law_813 : decode cL_law 813 = .ok (.invokevirtual 90, 3) := by decide +kernel
theorem dL_law_816 : decode cL_law 816 = .ok (.if_icmp .eq 589, 3) := by decide +kernel
theorem dL_law_819 : decode cL_law 819 = .ok (.iconst 0, 1) := by decide +kernel
theorem dL_law_820 : decode cL_law 820 = .ok (.ireturn, 1) := by decide +kernel
theorem dL_law_821 : decode cL_law 821 = .ok (.aload_n 1, 1) := by decide +kernel
theorem dL_law_822 : decode cL_law 822 = .ok (.invokevirtual 91, 3) := by decide +kernel
theorem dL_law_825 : decode cL_law 825 = .ok (.aload_n 2, 1) := by decide +kernel
theorem dL_law_826 : decode cL_law 826 = .ok (.invokevirtual 95, 3) := by decide +kernel
theorem dL_law_829 : decode cL_law 829 = .ok (.if_icmp .eq 576, 3) := by decide +kernel
theorem dL_law_832 : decode cL_law 832 = .ok (.iconst 0, 1) := by decide +kernel
theorem dL_law_833 : decode cL_law 833 = .ok (.ireturn, 1) := by decide +kernel
theorem dL_law_834 : decode cL_law 834 = .ok (.aload_n 1, 1) := by decide +kernel
theorem dL_law_835 : decode cL_law 835 = .ok (.aload_n 0, 1) := by decide +kernel
theorem dL_law_836 : decode cL_law 836 = .ok (.iload_n 3, 1) := by decide +kernel
theorem dL_law_837 : decode cL_law 837 = .ok (.iconst 1, 1) := by decide +kernel
theorem dL_law_838 : decode cL_law 838 = .ok (.iadd, 1) := by decide +kernel
theorem dL_law_839 : decode cL_law 839 = .ok (.iaload, 1) := by decide +kernel
theorem dL_law_840 : decode cL_law 840 = .ok (.invokevirtual 96, 3) := by decide +kernel
theorem dL_law_843 : decode cL_law 843 = .ok (.aload_n 2, 1) := by decide +kernel
theorem dL_law_844 : decode cL_law 844 = .ok (.aload_n 0, 1) := by decide +kernel
theorem dL_law_845 : decode cL_law 845 = .ok (.iload_n 3, 1) := by decide +kernel
theorem dL_law_846 : decode cL_law 846 = .ok (.iconst 1, 1) := by decide +kernel
theorem dL_law_847 : decode cL_law 847 = .ok (.iadd, 1) := by decide +kernel
theorem dL_law_848 : decode cL_law 848 = .ok (.iaload, 1) := by decide +kernel
theorem dL_law_849 : decode cL_law 849 = .ok (.invokevirtual 99, 3) := by decide +kernel
theorem dL_law_852 : decode cL_law 852 = .ok (.if_icmp .eq 553, 3) := by decide +kernel
theorem dL_law_855 : decode cL_law 855 = .ok (.iconst 0, 1) := by decide +kernel
theorem dL_law_856 : decode cL_law 856 = .ok (.ireturn, 1) := by decide +kernel
theorem dL_law_857 : decode cL_law 857 = .ok (.aload_n 1, 1) := by decide +kernel
theorem dL_law_858 : decode cL_law 858 = .ok (.aload_n 0, 1) := by decide +kernel
theorem dL_law_859 : decode cL_law 859 = .ok (.iload_n 3, 1) := by decide +kernel
theorem dL_law_860 : decode cL_law 860 = .ok (.iconst 1, 1) := by decide +kernel
theorem dL_law_861 : decode cL_law 861 = .ok (.iadd, 1) := by decide +kernel
theorem dL_law_862 : decode cL_law 862 = .ok (.iaload, 1) := by decide +kernel
theorem dL_law_863 : decode cL_law 863 = .ok (.aload_n 0, 1) := by decide +kernel
theorem dL_law_864 : decode cL_law 864 = .ok (.iload_n 3, 1) := by decide +kernel
theorem dL_law_865 : decode cL_law 865 = .ok (.iconst 2, 1) := by decide +kernel
theorem dL_law_866 : decode cL_law 866 = .ok (.iadd, 1) := by decide +kernel
theorem dL_law_867 : decode cL_law 867 = .ok (.iaload, 1) := by decide +kernel
theorem dL_law_868 : decode cL_law 868 = .ok (.invokevirtual 100, 3) := by decide +kernel
theorem dL_law_871 : decode cL_law 871 = .ok (.aload_n 2, 1) := by decide +kernel
theorem dL_law_872 : decode cL_law 872 = .ok (.aload_n 0, 1) := by decide +kernel
theorem dL_law_873 : decode cL_law 873 = .ok (.iload_n 3, 1) := by decide +kernel
theorem dL_law_874 : decode cL_law 874 = .ok (.iconst 1, 1) := by decide +kernel
theorem dL_law_875 : decode cL_law 875 = .ok (.iadd, 1) := by decide +kernel
theorem dL_law_876 : decode cL_law 876 = .ok (.iaload, 1) := by decide +kernel
theorem dL_law_877 : decode cL_law 877 = .ok (.aload_n 0, 1) := by decide +kernel
theorem dL_law_878 : decode cL_law 878 = .ok (.iload_n 3, 1) := by decide +kernel
theorem dL_law_879 : decode cL_law 879 = .ok (.iconst 2, 1) := by decide +kernel
theorem dL_law_880 : decode cL_law 880 = .ok (.iadd, 1) := by decide +kernel
theorem dL_law_881 : decode cL_law 881 = .ok (.iaload, 1) := by decide +kernel
theorem dL_law_882 : decode cL_law 882 = .ok (.invokevirtual 103, 3) := by decide +kernel
theorem dL_law_885 : decode cL_law 885 = .ok (.if_icmp .eq 520, 3) := by decide +kernel
theorem dL_law_888 : decode cL_law 888 = .ok (.iconst 0, 1) := by decide +kernel
theorem dL_law_889 : decode cL_law 889 = .ok (.ireturn, 1) := by decide +kernel
theorem dL_law_890 : decode cL_law 890 = .ok (.aload_n 1, 1) := by decide +kernel
theorem dL_law_891 : decode cL_law 891 = .ok (.aload_n 0, 1) := by decide +kernel
theorem dL_law_892 : decode cL_law 892 = .ok (.iload_n 3, 1) := by decide +kernel
theorem dL_law_893 : decode cL_law 893 = .ok (.iconst 1, 1) := by decide +kernel
theorem dL_law_894 : decode cL_law 894 = .ok (.iadd, 1) := by decide +kernel
theorem dL_law_895 : decode cL_law 895 = .ok (.iaload, 1) := by decide +kernel
theorem dL_law_896 : decode cL_law 896 = .ok (.invokevirtual 104, 3) := by decide +kernel
theorem dL_law_899 : decode cL_law 899 = .ok (.aload_n 2, 1) := by decide +kernel
theorem dL_law_900 : decode cL_law 900 = .ok (.aload_n 0, 1) := by decide +kernel
theorem dL_law_901 : decode cL_law 901 = .ok (.iload_n 3, 1) := by decide +kernel
theorem dL_law_902 : decode cL_law 902 = .ok (.iconst 1, 1) := by decide +kernel
theorem dL_law_903 : decode cL_law 903 = .ok (.iadd, 1) := by decide +kernel
theorem dL_law_904 : decode cL_law 904 = .ok (.iaload, 1) := by decide +kernel
theorem dL_law_905 : decode cL_law 905 = .ok (.invokevirtual 107, 3) := by decide +kernel
theorem dL_law_908 : decode cL_law 908 = .ok (.if_icmp .eq 497, 3) := by decide +kernel
theorem dL_law_911 : decode cL_law 911 = .ok (.iconst 0, 1) := by decide +kernel
theorem dL_law_912 : decode cL_law 912 = .ok (.ireturn, 1) := by decide +kernel
theorem dL_law_913 : decode cL_law 913 = .ok (.aload_n 1, 1) := by decide +kernel
theorem dL_law_914 : decode cL_law 914 = .ok (.aload_n 0, 1) := by decide +kernel
theorem dL_law_915 : decode cL_law 915 = .ok (.iload_n 3, 1) := by decide +kernel
theorem dL_law_916 : decode cL_law 916 = .ok (.iconst 1, 1) := by decide +kernel
theorem dL_law_917 : decode cL_law 917 = .ok (.iadd, 1) := by decide +kernel
theorem dL_law_918 : decode cL_law 918 = .ok (.iaload, 1) := by decide +kernel
theorem dL_law_919 : decode cL_law 919 = .ok (.invokevirtual 108, 3) := by decide +kernel
theorem dL_law_922 : decode cL_law 922 = .ok (.aload_n 2, 1) := by decide +kernel
theorem dL_law_923 : decode cL_law 923 = .ok (.aload_n 0, 1) := by decide +kernel
theorem dL_law_924 : decode cL_law 924 = .ok (.iload_n 3, 1) := by decide +kernel
theorem dL_law_925 : decode cL_law 925 = .ok (.iconst 1, 1) := by decide +kernel
theorem dL_law_926 : decode cL_law 926 = .ok (.iadd, 1) := by decide +kernel
theorem dL_law_927 : decode cL_law 927 = .ok (.iaload, 1) := by decide +kernel
theorem dL_law_928 : decode cL_law 928 = .ok (.invokevirtual 111, 3) := by decide +kernel
theorem dL_law_931 : decode cL_law 931 = .ok (.if_icmp .eq 474, 3) := by decide +kernel
theorem dL_law_934 : decode cL_law 934 = .ok (.iconst 0, 1) := by decide +kernel
theorem dL_law_935 : decode cL_law 935 = .ok (.ireturn, 1) := by decide +kernel
theorem dL_law_936 : decode cL_law 936 = .ok (.aload_n 1, 1) := by decide +kernel
theorem dL_law_937 : decode cL_law 937 = .ok (.aload_n 0, 1) := by decide +kernel
theorem dL_law_938 : decode cL_law 938 = .ok (.iload_n 3, 1) := by decide +kernel
theorem dL_law_939 : decode cL_law 939 = .ok (.iconst 1, 1) := by decide +kernel
theorem dL_law_940 : decode cL_law 940 = .ok (.iadd, 1) := by decide +kernel
theorem dL_law_941 : decode cL_law 941 = .ok (.iaload, 1) := by decide +kernel
theorem dL_law_942 : decode cL_law 942 = .ok (.aload_n 0, 1) := by decide +kernel
theorem dL_law_943 : decode cL_law 943 = .ok (.iload_n 3, 1) := by decide +kernel
theorem dL_law_944 : decode cL_law 944 = .ok (.iconst 2, 1) := by decide +kernel
theorem dL_law_945 : decode cL_law 945 = .ok (.iadd, 1) := by decide +kernel
theorem dL_law_946 : decode cL_law 946 = .ok (.iaload, 1) := by decide +kernel
theorem dL_law_947 : decode cL_law 947 = .ok (.aload_n 0, 1) := by decide +kernel
theorem dL_law_948 : decode cL_law 948 = .ok (.iload_n 3, 1) := by decide +kernel
theorem dL_law_949 : decode cL_law 949 = .ok (.iconst 3, 1) := by decide +kernel
theorem dL_law_950 : decode cL_law 950 = .ok (.iadd, 1) := by decide +kernel
theorem dL_law_951 : decode cL_law 951 = .ok (.iaload, 1) := by decide +kernel
theorem dL_law_952 : decode cL_law 952 = .ok (.invokevirtual 112, 3) := by decide +kernel
theorem dL_law_955 : decode cL_law 955 = .ok (.aload_n 2, 1) := by decide +kernel
theorem dL_law_956 : decode cL_law 956 = .ok (.aload_n 0, 1) := by decide +kernel
theorem dL_law_957 : decode cL_law 957 = .ok (.iload_n 3, 1) := by decide +kernel
theorem dL_law_958 : decode cL_law 958 = .ok (.iconst 1, 1) := by decide +kernel
theorem dL_law_959 : decode cL_law 959 = .ok (.iadd, 1) := by decide +kernel
theorem dL_law_960 : decode cL_law 960 = .ok (.iaload, 1) := by decide +kernel
theorem dL_law_961 : decode cL_law 961 = .ok (.aload_n 0, 1) := by decide +kernel
theorem dL_law_962 : decode cL_law 962 = .ok (.iload_n 3, 1) := by decide +kernel
theorem dL_law_963 : decode cL_law 963 = .ok (.iconst 2, 1) := by decide +kernel
theorem dL_law_964 : decode cL_law 964 = .ok (.iadd, 1) := by decide +kernel
theorem dL_law_965 : decode cL_law 965 = .ok (.iaload, 1) := by decide +kernel
theorem dL_law_966 : decode cL_law 966 = .ok (.aload_n 0, 1) := by decide +kernel
theorem dL_law_967 : decode cL_law 967 = .ok (.iload_n 3, 1) := by decide +kernel
theorem dL_law_968 : decode cL_law 968 = .ok (.iconst 3, 1) := by decide +kernel
theorem dL_law_969 : decode cL_law 969 = .ok (.iadd, 1) := by decide +kernel
theorem dL_law_970 : decode cL_law 970 = .ok (.iaload, 1) := by decide +kernel
theorem dL_law_971 : decode cL_law 971 = .ok (.invokevirtual 115, 3) := by decide +kernel
theorem dL_law_974 : decode cL_law 974 = .ok (.if_icmp .eq 431, 3) := by decide +kernel
theorem dL_law_977 : decode cL_law 977 = .ok (.iconst 0, 1) := by decide +kernel
theorem dL_law_978 : decode cL_law 978 = .ok (.ireturn, 1) := by decide +kernel
theorem dL_law_979 : decode cL_law 979 = .ok (.aload_n 1, 1) := by decide +kernel
theorem dL_law_980 : decode cL_law 980 = .ok (.aload_n 0, 1) := by decide +kernel
theorem dL_law_981 : decode cL_law 981 = .ok (.iload_n 3, 1) := by decide +kernel
theorem dL_law_982 : decode cL_law 982 = .ok (.iconst 1, 1) := by decide +kernel
theorem dL_law_983 : decode cL_law 983 = .ok (.iadd, 1) := by decide +kernel
theorem dL_law_984 : decode cL_law 984 = .ok (.iaload, 1) := by decide +kernel
theorem dL_law_985 : decode cL_law 985 = .ok (.invokevirtual 116, 3) := by decide +kernel
theorem dL_law_988 : decode cL_law 988 = .ok (.aload_n 2, 1) := by decide +kernel
theorem dL_law_989 : decode cL_law 989 = .ok (.aload_n 0, 1) := by decide +kernel
theorem dL_law_990 : decode cL_law 990 = .ok (.iload_n 3, 1) := by decide +kernel
theorem dL_law_991 : decode cL_law 991 = .ok (.iconst 1, 1) := by decide +kernel
theorem dL_law_992 : decode cL_law 992 = .ok (.iadd, 1) := by decide +kernel
theorem dL_law_993 : decode cL_law 993 = .ok (.iaload, 1) := by decide +kernel
theorem dL_law_994 : decode cL_law 994 = .ok (.invokevirtual 119, 3) := by decide +kernel
theorem dL_law_997 : decode cL_law 997 = .ok (.if_icmp .eq 408, 3) := by decide +kernel
theorem dL_law_1000 : decode cL_law 1000 = .ok (.iconst 0, 1) := by decide +kernel
theorem dL_law_1001 : decode cL_law 1001 = .ok (.ireturn, 1) := by decide +kernel
theorem dL_law_1002 : decode cL_law 1002 = .ok (.aload_n 1, 1) := by decide +kernel
theorem dL_law_1003 : decode cL_law 1003 = .ok (.aload_n 0, 1) := by decide +kernel
theorem dL_law_1004 : decode cL_law 1004 = .ok (.iload_n 3, 1) := by decide +kernel
theorem dL_law_1005 : decode cL_law 1005 = .ok (.iconst 1, 1) := by decide +kernel
theorem dL_law_1006 : decode cL_law 1006 = .ok (.iadd, 1) := by decide +kernel
theorem dL_law_1007 : decode cL_law 1007 = .ok (.iaload, 1) := by decide +kernel
theorem dL_law_1008 : decode cL_law 1008 = .ok (.invokevirtual 120, 3) := by decide +kernel
theorem dL_law_1011 : decode cL_law 1011 = .ok (.aload_n 2, 1) := by decide +kernel
theorem dL_law_1012 : decode cL_law 1012 = .ok (.aload_n 0, 1) := by decide +kernel
theorem dL_law_1013 : decode cL_law 1013 = .ok (.iload_n 3, 1) := by decide +kernel
theorem dL_law_1014 : decode cL_law 1014 = .ok (.iconst 1, 1) := by decide +kernel
theorem dL_law_1015 : decode cL_law 1015 = .ok (.iadd, 1) := by decide +kernel
theorem dL_law_1016 : decode cL_law 1016 = .ok (.iaload, 1) := by decide +kernel
theorem dL_law_1017 : decode cL_law 1017 = .ok (.invokevirtual 123, 3) := by decide +kernel
theorem dL_law_1020 : decode cL_law 1020 = .ok (.if_icmp .eq 385, 3) := by decide +kernel
theorem dL_law_1023 : decode cL_law 1023 = .ok (.iconst 0, 1) := by decide +kernel
theorem dL_law_1024 : decode cL_law 1024 = .ok (.ireturn, 1) := by decide +kernel
theorem dL_law_1025 : decode cL_law 1025 = .ok (.aload_n 1, 1) := by decide +kernel
theorem dL_law_1026 : decode cL_law 1026 = .ok (.aload_n 0, 1) := by decide +kernel
theorem dL_law_1027 : decode cL_law 1027 = .ok (.iload_n 3, 1) := by decide +kernel
theorem dL_law_1028 : decode cL_law 1028 = .ok (.iconst 1, 1) := by decide +kernel
theorem dL_law_1029 : decode cL_law 1029 = .ok (.iadd, 1) := by decide +kernel
theorem dL_law_1030 : decode cL_law 1030 = .ok (.iaload, 1) := by decide +kernel
theorem dL_law_1031 : decode cL_law 1031 = .ok (.aload_n 0, 1) := by decide +kernel
theorem dL_law_1032 : decode cL_law 1032 = .ok (.iload_n 3, 1) := by decide +kernel
theorem dL_law_1033 : decode cL_law 1033 = .ok (.iconst 2, 1) := by decide +kernel
theorem dL_law_1034 : decode cL_law 1034 = .ok (.iadd, 1) := by decide +kernel
theorem dL_law_1035 : decode cL_law 1035 = .ok (.iaload, 1) := by decide +kernel
theorem dL_law_1036 : decode cL_law 1036 = .ok (.invokevirtual 124, 3) := by decide +kernel
theorem dL_law_1039 : decode cL_law 1039 = .ok (.aload_n 2, 1) := by decide +kernel
theorem dL_law_1040 : decode cL_law 1040 = .ok (.aload_n 0, 1) := by decide +kernel
theorem dL_law_1041 : decode cL_law 1041 = .ok (.iload_n 3, 1) := by decide +kernel
theorem dL_law_1042 : decode cL_law 1042 = .ok (.iconst 1, 1) := by decide +kernel
theorem dL_law_1043 : decode cL_law 1043 = .ok (.iadd, 1) := by decide +kernel
theorem dL_law_1044 : decode cL_law 1044 = .ok (.iaload, 1) := by decide +kernel
theorem dL_law_1045 : decode cL_law 1045 = .ok (.aload_n 0, 1) := by decide +kernel
theorem dL_law_1046 : decode cL_law 1046 = .ok (.iload_n 3, 1) := by decide +kernel
theorem dL_law_1047 : decode cL_law 1047 = .ok (.iconst 2, 1) := by decide +kernel
theorem dL_law_1048 : decode cL_law 1048 = .ok (.iadd, 1) := by decide +kernel
theorem dL_law_1049 : decode cL_law 1049 = .ok (.iaload, 1) := by decide +kernel
theorem dL_law_1050 : decode cL_law 1050 = .ok (.invokevirtual 127, 3) := by decide +kernel
theorem dL_law_1053 : decode cL_law 1053 = .ok (.if_icmp .eq 352, 3) := by decide +kernel
theorem dL_law_1056 : decode cL_law 1056 = .ok (.iconst 0, 1) := by decide +kernel
theorem dL_law_1057 : decode cL_law 1057 = .ok (.ireturn, 1) := by decide +kernel
theorem dL_law_1058 : decode cL_law 1058 = .ok (.aload_n 1, 1) := by decide +kernel
theorem dL_law_1059 : decode cL_law 1059 = .ok (.aload_n 0, 1) := by decide +kernel
theorem dL_law_1060 : decode cL_law 1060 = .ok (.iload_n 3, 1) := by decide +kernel
theorem dL_law_1061 : decode cL_law 1061 = .ok (.iconst 1, 1) := by decide +kernel
theorem dL_law_1062 : decode cL_law 1062 = .ok (.iadd, 1) := by decide +kernel
theorem dL_law_1063 : decode cL_law 1063 = .ok (.iaload, 1) := by decide +kernel
theorem dL_law_1064 : decode cL_law 1064 = .ok (.aload_n 0, 1) := by decide +kernel
theorem dL_law_1065 : decode cL_law 1065 = .ok (.iload_n 3, 1) := by decide +kernel
theorem dL_law_1066 : decode cL_law 1066 = .ok (.iconst 2, 1) := by decide +kernel
theorem dL_law_1067 : decode cL_law 1067 = .ok (.iadd, 1) := by decide +kernel
theorem dL_law_1068 : decode cL_law 1068 = .ok (.iaload, 1) := by decide +kernel
theorem dL_law_1069 : decode cL_law 1069 = .ok (.aload_n 0, 1) := by decide +kernel
theorem dL_law_1070 : decode cL_law 1070 = .ok (.iload_n 3, 1) := by decide +kernel
theorem dL_law_1071 : decode cL_law 1071 = .ok (.iconst 3, 1) := by decide +kernel
theorem dL_law_1072 : decode cL_law 1072 = .ok (.iadd, 1) := by decide +kernel
theorem dL_law_1073 : decode cL_law 1073 = .ok (.iaload, 1) := by decide +kernel
theorem dL_law_1074 : decode cL_law 1074 = .ok (.invokevirtual 128, 3) := by decide +kernel
theorem dL_law_1077 : decode cL_law 1077 = .ok (.aload_n 2, 1) := by decide +kernel
theorem dL_law_1078 : decode cL_law 1078 = .ok (.aload_n 0, 1) := by decide +kernel
theorem dL_law_1079 : decode cL_law 1079 = .ok (.iload_n 3, 1) := by decide +kernel
theorem dL_law_1080 : decode cL_law 1080 = .ok (.iconst 1, 1) := by decide +kernel
theorem dL_law_1081 : decode cL_law 1081 = .ok (.iadd, 1) := by decide +kernel
theorem dL_law_1082 : decode cL_law 1082 = .ok (.iaload, 1) := by decide +kernel
theorem dL_law_1083 : decode cL_law 1083 = .ok (.aload_n 0, 1) := by decide +kernel
theorem dL_law_1084 : decode cL_law 1084 = .ok (.iload_n 3, 1) := by decide +kernel
theorem dL_law_1085 : decode cL_law 1085 = .ok (.iconst 2, 1) := by decide +kernel
theorem dL_law_1086 : decode cL_law 1086 = .ok (.iadd, 1) := by decide +kernel
theorem dL_law_1087 : decode cL_law 1087 = .ok (.iaload, 1) := by decide +kernel
theorem dL_law_1088 : decode cL_law 1088 = .ok (.aload_n 0, 1) := by decide +kernel
theorem dL_law_1089 : decode cL_law 1089 = .ok (.iload_n 3, 1) := by decide +kernel
theorem dL_law_1090 : decode cL_law 1090 = .ok (.iconst 3, 1) := by decide +kernel
theorem dL_law_1091 : decode cL_law 1091 = .ok (.iadd, 1) := by decide +kernel
theorem dL_law_1092 : decode cL_law 1092 = .ok (.iaload, 1) := by decide +kernel
theorem dL_law_1093 : decode cL_law 1093 = .ok (.invokevirtual 131, 3) := by decide +kernel
theorem dL_law_1096 : decode cL_law 1096 = .ok (.if_icmp .eq 309, 3) := by decide +kernel
theorem dL_law_1099 : decode cL_law 1099 = .ok (.iconst 0, 1) := by decide +kernel
theorem dL_law_1100 : decode cL_law 1100 = .ok (.ireturn, 1) := by decide +kernel
theorem dL_law_1101 : decode cL_law 1101 = .ok (.aload_n 1, 1) := by decide +kernel
theorem dL_law_1102 : decode cL_law 1102 = .ok (.aload_n 0, 1) := by decide +kernel
theorem dL_law_1103 : decode cL_law 1103 = .ok (.iload_n 3, 1) := by decide +kernel
theorem dL_law_1104 : decode cL_law 1104 = .ok (.iconst 1, 1) := by decide +kernel
theorem dL_law_1105 : decode cL_law 1105 = .ok (.iadd, 1) := by decide +kernel
theorem dL_law_1106 : decode cL_law 1106 = .ok (.iaload, 1) := by decide +kernel
theorem dL_law_1107 : decode cL_law 1107 = .ok (.aload_n 0, 1) := by decide +kernel
theorem dL_law_1108 : decode cL_law 1108 = .ok (.iload_n 3, 1) := by decide +kernel
theorem dL_law_1109 : decode cL_law 1109 = .ok (.iconst 2, 1) := by decide +kernel
theorem dL_law_1110 : decode cL_law 1110 = .ok (.iadd, 1) := by decide +kernel
theorem dL_law_1111 : decode cL_law 1111 = .ok (.iaload, 1) := by decide +kernel
theorem dL_law_1112 : decode cL_law 1112 = .ok (.invokevirtual 132, 3) := by decide +kernel
theorem dL_law_1115 : decode cL_law 1115 = .ok (.aload_n 2, 1) := by decide +kernel
theorem dL_law_1116 : decode cL_law 1116 = .ok (.aload_n 0, 1) := by decide +kernel
theorem dL_law_1117 : decode cL_law 1117 = .ok (.iload_n 3, 1) := by decide +kernel
theorem dL_law_1118 : decode cL_law 1118 = .ok (.iconst 1, 1) := by decide +kernel
theorem dL_law_1119 : decode cL_law 1119 = .ok (.iadd, 1) := by decide +kernel
theorem dL_law_1120 : decode cL_law 1120 = .ok (.iaload, 1) := by decide +kernel
theorem dL_law_1121 : decode cL_law 1121 = .ok (.aload_n 0, 1) := by decide +kernel
theorem dL_law_1122 : decode cL_law 1122 = .ok (.iload_n 3, 1) := by decide +kernel
theorem dL_law_1123 : decode cL_law 1123 = .ok (.iconst 2, 1) := by decide +kernel
theorem dL_law_1124 : decode cL_law 1124 = .ok (.iadd, 1) := by decide +kernel
theorem dL_law_1125 : decode cL_law 1125 = .ok (.iaload, 1) := by decide +kernel
theorem dL_law_1126 : decode cL_law 1126 = .ok (.invokevirtual 135, 3) := by decide +kernel
theorem dL_law_1129 : decode cL_law 1129 = .ok (.if_icmp .eq 276, 3) := by decide +kernel
theorem dL_law_1132 : decode cL_law 1132 = .ok (.iconst 0, 1) := by decide +kernel
theorem dL_law_1133 : decode cL_law 1133 = .ok (.ireturn, 1) := by decide +kernel
theorem dL_law_1134 : decode cL_law 1134 = .ok (.aload_n 1, 1) := by decide +kernel
theorem dL_law_1135 : decode cL_law 1135 = .ok (.aload_n 0, 1) := by decide +kernel
theorem dL_law_1136 : decode cL_law 1136 = .ok (.iload_n 3, 1) := by decide +kernel
theorem dL_law_1137 : decode cL_law 1137 = .ok (.iconst 1, 1) := by decide +kernel
theorem dL_law_1138 : decode cL_law 1138 = .ok (.iadd, 1) := by decide +kernel
theorem dL_law_1139 : decode cL_law 1139 = .ok (.iaload, 1) := by decide +kernel
theorem dL_law_1140 : decode cL_law 1140 = .ok (.aload_n 0, 1) := by decide +kernel
theorem dL_law_1141 : decode cL_law 1141 = .ok (.iload_n 3, 1) := by decide +kernel
theorem dL_law_1142 : decode cL_law 1142 = .ok (.iconst 2, 1) := by decide +kernel
theorem dL_law_1143 : decode cL_law 1143 = .ok (.iadd, 1) := by decide +kernel
theorem dL_law_1144 : decode cL_law 1144 = .ok (.iaload, 1) := by decide +kernel
theorem dL_law_1145 : decode cL_law 1145 = .ok (.aload_n 0, 1) := by decide +kernel
theorem dL_law_1146 : decode cL_law 1146 = .ok (.iload_n 3, 1) := by decide +kernel
theorem dL_law_1147 : decode cL_law 1147 = .ok (.iconst 3, 1) := by decide +kernel
theorem dL_law_1148 : decode cL_law 1148 = .ok (.iadd, 1) := by decide +kernel
theorem dL_law_1149 : decode cL_law 1149 = .ok (.iaload, 1) := by decide +kernel
theorem dL_law_1150 : decode cL_law 1150 = .ok (.invokevirtual 136, 3) := by decide +kernel
theorem dL_law_1153 : decode cL_law 1153 = .ok (.aload_n 2, 1) := by decide +kernel
theorem dL_law_1154 : decode cL_law 1154 = .ok (.aload_n 0, 1) := by decide +kernel
theorem dL_law_1155 : decode cL_law 1155 = .ok (.iload_n 3, 1) := by decide +kernel
theorem dL_law_1156 : decode cL_law 1156 = .ok (.iconst 1, 1) := by decide +kernel
theorem dL_law_1157 : decode cL_law 1157 = .ok (.iadd, 1) := by decide +kernel
theorem dL_law_1158 : decode cL_law 1158 = .ok (.iaload, 1) := by decide +kernel
theorem dL_law_1159 : decode cL_law 1159 = .ok (.aload_n 0, 1) := by decide +kernel
theorem dL_law_1160 : decode cL_law 1160 = .ok (.iload_n 3, 1) := by decide +kernel
theorem dL_law_1161 : decode cL_law 1161 = .ok (.iconst 2, 1) := by decide +kernel
theorem dL_law_1162 : decode cL_law 1162 = .ok (.iadd, 1) := by decide +kernel
theorem dL_law_1163 : decode cL_law 1163 = .ok (.iaload, 1) := by decide +kernel
theorem dL_law_1164 : decode cL_law 1164 = .ok (.aload_n 0, 1) := by decide +kernel
theorem dL_law_1165 : decode cL_law 1165 = .ok (.iload_n 3, 1) := by decide +kernel
theorem dL_law_1166 : decode cL_law 1166 = .ok (.iconst 3, 1) := by decide +kernel
theorem dL_law_1167 : decode cL_law 1167 = .ok (.iadd, 1) := by decide +kernel
theorem dL_law_1168 : decode cL_law 1168 = .ok (.iaload, 1) := by decide +kernel
theorem dL_law_1169 : decode cL_law 1169 = .ok (.invokevirtual 139, 3) := by decide +kernel
theorem dL_law_1172 : decode cL_law 1172 = .ok (.if_icmp .eq 233, 3) := by decide +kernel
theorem dL_law_1175 : decode cL_law 1175 = .ok (.iconst 0, 1) := by decide +kernel
theorem dL_law_1176 : decode cL_law 1176 = .ok (.ireturn, 1) := by decide +kernel
theorem dL_law_1177 : decode cL_law 1177 = .ok (.aload_n 1, 1) := by decide +kernel
theorem dL_law_1178 : decode cL_law 1178 = .ok (.aload_n 0, 1) := by decide +kernel
theorem dL_law_1179 : decode cL_law 1179 = .ok (.iload_n 3, 1) := by decide +kernel
theorem dL_law_1180 : decode cL_law 1180 = .ok (.iconst 1, 1) := by decide +kernel
theorem dL_law_1181 : decode cL_law 1181 = .ok (.iadd, 1) := by decide +kernel
theorem dL_law_1182 : decode cL_law 1182 = .ok (.iaload, 1) := by decide +kernel
theorem dL_law_1183 : decode cL_law 1183 = .ok (.invokevirtual 140, 3) := by decide +kernel
theorem dL_law_1186 : decode cL_law 1186 = .ok (.aload_n 2, 1) := by decide +kernel
theorem dL_law_1187 : decode cL_law 1187 = .ok (.aload_n 0, 1) := by decide +kernel
theorem dL_law_1188 : decode cL_law 1188 = .ok (.iload_n 3, 1) := by decide +kernel
theorem dL_law_1189 : decode cL_law 1189 = .ok (.iconst 1, 1) := by decide +kernel
theorem dL_law_1190 : decode cL_law 1190 = .ok (.iadd, 1) := by decide +kernel
theorem dL_law_1191 : decode cL_law 1191 = .ok (.iaload, 1) := by decide +kernel
theorem dL_law_1192 : decode cL_law 1192 = .ok (.invokevirtual 143, 3) := by decide +kernel
theorem dL_law_1195 : decode cL_law 1195 = .ok (.if_icmp .eq 210, 3) := by decide +kernel
theorem dL_law_1198 : decode cL_law 1198 = .ok (.iconst 0, 1) := by decide +kernel
theorem dL_law_1199 : decode cL_law 1199 = .ok (.ireturn, 1) := by decide +kernel
theorem dL_law_1200 : decode cL_law 1200 = .ok (.aload_n 1, 1) := by decide +kernel
theorem dL_law_1201 : decode cL_law 1201 = .ok (.aload_n 0, 1) := by decide +kernel
theorem dL_law_1202 : decode cL_law 1202 = .ok (.iload_n 3, 1) := by decide +kernel
theorem dL_law_1203 : decode cL_law 1203 = .ok (.iconst 1, 1) := by decide +kernel
theorem dL_law_1204 : decode cL_law 1204 = .ok (.iadd, 1) := by decide +kernel
theorem dL_law_1205 : decode cL_law 1205 = .ok (.iaload, 1) := by decide +kernel
theorem dL_law_1206 : decode cL_law 1206 = .ok (.aload_n 0, 1) := by decide +kernel
theorem dL_law_1207 : decode cL_law 1207 = .ok (.iload_n 3, 1) := by decide +kernel
theorem dL_law_1208 : decode cL_law 1208 = .ok (.iconst 2, 1) := by decide +kernel
theorem dL_law_1209 : decode cL_law 1209 = .ok (.iadd, 1) := by decide +kernel
theorem dL_law_1210 : decode cL_law 1210 = .ok (.iaload, 1) := by decide +kernel
theorem dL_law_1211 : decode cL_law 1211 = .ok (.aload_n 0, 1) := by decide +kernel
theorem dL_law_1212 : decode cL_law 1212 = .ok (.iload_n 3, 1) := by decide +kernel
theorem dL_law_1213 : decode cL_law 1213 = .ok (.iconst 3, 1) := by decide +kernel
theorem dL_law_1214 : decode cL_law 1214 = .ok (.iadd, 1) := by decide +kernel
theorem dL_law_1215 : decode cL_law 1215 = .ok (.iaload, 1) := by decide +kernel
theorem dL_law_1216 : decode cL_law 1216 = .ok (.invokevirtual 144, 3) := by decide +kernel
theorem dL_law_1219 : decode cL_law 1219 = .ok (.aload_n 2, 1) := by decide +kernel
theorem dL_law_1220 : decode cL_law 1220 = .ok (.aload_n 0, 1) := by decide +kernel
theorem dL_law_1221 : decode cL_law 1221 = .ok (.iload_n 3, 1) := by decide +kernel
theorem dL_law_1222 : decode cL_law 1222 = .ok (.iconst 1, 1) := by decide +kernel
theorem dL_law_1223 : decode cL_law 1223 = .ok (.iadd, 1) := by decide +kernel
theorem dL_law_1224 : decode cL_law 1224 = .ok (.iaload, 1) := by decide +kernel
theorem dL_law_1225 : decode cL_law 1225 = .ok (.aload_n 0, 1) := by decide +kernel
theorem dL_law_1226 : decode cL_law 1226 = .ok (.iload_n 3, 1) := by decide +kernel
theorem dL_law_1227 : decode cL_law 1227 = .ok (.iconst 2, 1) := by decide +kernel
theorem dL_law_1228 : decode cL_law 1228 = .ok (.iadd, 1) := by decide +kernel
theorem dL_law_1229 : decode cL_law 1229 = .ok (.iaload, 1) := by decide +kernel
theorem dL_law_1230 : decode cL_law 1230 = .ok (.aload_n 0, 1) := by decide +kernel
theorem dL_law_1231 : decode cL_law 1231 = .ok (.iload_n 3, 1) := by decide +kernel
theorem dL_law_1232 : decode cL_law 1232 = .ok (.iconst 3, 1) := by decide +kernel
theorem dL_law_1233 : decode cL_law 1233 = .ok (.iadd, 1) := by decide +kernel
theorem dL_law_1234 : decode cL_law 1234 = .ok (.iaload, 1) := by decide +kernel
theorem dL_law_1235 : decode cL_law 1235 = .ok (.invokevirtual 147, 3) := by decide +kernel
theorem dL_law_1238 : decode cL_law 1238 = .ok (.if_icmp .eq 167, 3) := by decide +kernel
theorem dL_law_1241 : decode cL_law 1241 = .ok (.iconst 0, 1) := by decide +kernel
theorem dL_law_1242 : decode cL_law 1242 = .ok (.ireturn, 1) := by decide +kernel
theorem dL_law_1243 : decode cL_law 1243 = .ok (.aload_n 1, 1) := by decide +kernel
theorem dL_law_1244 : decode cL_law 1244 = .ok (.aload_n 0, 1) := by decide +kernel
theorem dL_law_1245 : decode cL_law 1245 = .ok (.iload_n 3, 1) := by decide +kernel
theorem dL_law_1246 : decode cL_law 1246 = .ok (.iconst 1, 1) := by decide +kernel
theorem dL_law_1247 : decode cL_law 1247 = .ok (.iadd, 1) := by decide +kernel
theorem dL_law_1248 : decode cL_law 1248 = .ok (.iaload, 1) := by decide +kernel
theorem dL_law_1249 : decode cL_law 1249 = .ok (.invokevirtual 148, 3) := by decide +kernel
theorem dL_law_1252 : decode cL_law 1252 = .ok (.aload_n 2, 1) := by decide +kernel
theorem dL_law_1253 : decode cL_law 1253 = .ok (.aload_n 0, 1) := by decide +kernel
theorem dL_law_1254 : decode cL_law 1254 = .ok (.iload_n 3, 1) := by decide +kernel
theorem dL_law_1255 : decode cL_law 1255 = .ok (.iconst 1, 1) := by decide +kernel
theorem dL_law_1256 : decode cL_law 1256 = .ok (.iadd, 1) := by decide +kernel
theorem dL_law_1257 : decode cL_law 1257 = .ok (.iaload, 1) := by decide +kernel
theorem dL_law_1258 : decode cL_law 1258 = .ok (.invokevirtual 151, 3) := by decide +kernel
theorem dL_law_1261 : decode cL_law 1261 = .ok (.lcmp, 1) := by decide +kernel
theorem dL_law_1262 : decode cL_law 1262 = .ok (.ifCond .eq 143, 3) := by decide +kernel
theorem dL_law_1265 : decode cL_law 1265 = .ok (.iconst 0, 1) := by decide +kernel
theorem dL_law_1266 : decode cL_law 1266 = .ok (.ireturn, 1) := by decide +kernel
theorem dL_law_1267 : decode cL_law 1267 = .ok (.aload_n 1, 1) := by decide +kernel
theorem dL_law_1268 : decode cL_law 1268 = .ok (.aload_n 0, 1) := by decide +kernel
theorem dL_law_1269 : decode cL_law 1269 = .ok (.iload_n 3, 1) := by decide +kernel
theorem dL_law_1270 : decode cL_law 1270 = .ok (.iconst 1, 1) := by decide +kernel
theorem dL_law_1271 : decode cL_law 1271 = .ok (.iadd, 1) := by decide +kernel
theorem dL_law_1272 : decode cL_law 1272 = .ok (.iaload, 1) := by decide +kernel
theorem dL_law_1273 : decode cL_law 1273 = .ok (.aload_n 0, 1) := by decide +kernel
theorem dL_law_1274 : decode cL_law 1274 = .ok (.iload_n 3, 1) := by decide +kernel
theorem dL_law_1275 : decode cL_law 1275 = .ok (.iconst 2, 1) := by decide +kernel
theorem dL_law_1276 : decode cL_law 1276 = .ok (.iadd, 1) := by decide +kernel
theorem dL_law_1277 : decode cL_law 1277 = .ok (.iaload, 1) := by decide +kernel
theorem dL_law_1278 : decode cL_law 1278 = .ok (.invokevirtual 152, 3) := by decide +kernel
theorem dL_law_1281 : decode cL_law 1281 = .ok (.aload_n 2, 1) := by decide +kernel
theorem dL_law_1282 : decode cL_law 1282 = .ok (.aload_n 0, 1) := by decide +kernel
theorem dL_law_1283 : decode cL_law 1283 = .ok (.iload_n 3, 1) := by decide +kernel
theorem dL_law_1284 : decode cL_law 1284 = .ok (.iconst 1, 1) := by decide +kernel
theorem dL_law_1285 : decode cL_law 1285 = .ok (.iadd, 1) := by decide +kernel
theorem dL_law_1286 : decode cL_law 1286 = .ok (.iaload, 1) := by decide +kernel
theorem dL_law_1287 : decode cL_law 1287 = .ok (.aload_n 0, 1) := by decide +kernel
theorem dL_law_1288 : decode cL_law 1288 = .ok (.iload_n 3, 1) := by decide +kernel
theorem dL_law_1289 : decode cL_law 1289 = .ok (.iconst 2, 1) := by decide +kernel
theorem dL_law_1290 : decode cL_law 1290 = .ok (.iadd, 1) := by decide +kernel
theorem dL_law_1291 : decode cL_law 1291 = .ok (.iaload, 1) := by decide +kernel
theorem dL_law_1292 : decode cL_law 1292 = .ok (.invokevirtual 155, 3) := by decide +kernel
theorem dL_law_1295 : decode cL_law 1295 = .ok (.if_icmp .eq 110, 3) := by decide +kernel
theorem dL_law_1298 : decode cL_law 1298 = .ok (.iconst 0, 1) := by decide +kernel
theorem dL_law_1299 : decode cL_law 1299 = .ok (.ireturn, 1) := by decide +kernel
theorem dL_law_1300 : decode cL_law 1300 = .ok (.aload_n 1, 1) := by decide +kernel
theorem dL_law_1301 : decode cL_law 1301 = .ok (.aload_n 0, 1) := by decide +kernel
theorem dL_law_1302 : decode cL_law 1302 = .ok (.iload_n 3, 1) := by decide +kernel
theorem dL_law_1303 : decode cL_law 1303 = .ok (.iconst 1, 1) := by decide +kernel
theorem dL_law_1304 : decode cL_law 1304 = .ok (.iadd, 1) := by decide +kernel
theorem dL_law_1305 : decode cL_law 1305 = .ok (.iaload, 1) := by decide +kernel
theorem dL_law_1306 : decode cL_law 1306 = .ok (.aload_n 0, 1) := by decide +kernel
theorem dL_law_1307 : decode cL_law 1307 = .ok (.iload_n 3, 1) := by decide +kernel
theorem dL_law_1308 : decode cL_law 1308 = .ok (.iconst 2, 1) := by decide +kernel
theorem dL_law_1309 : decode cL_law 1309 = .ok (.iadd, 1) := by decide +kernel
theorem dL_law_1310 : decode cL_law 1310 = .ok (.iaload, 1) := by decide +kernel
theorem dL_law_1311 : decode cL_law 1311 = .ok (.invokevirtual 156, 3) := by decide +kernel
theorem dL_law_1314 : decode cL_law 1314 = .ok (.aload_n 2, 1) := by decide +kernel
theorem dL_law_1315 : decode cL_law 1315 = .ok (.aload_n 0, 1) := by decide +kernel
theorem dL_law_1316 : decode cL_law 1316 = .ok (.iload_n 3, 1) := by decide +kernel
theorem dL_law_1317 : decode cL_law 1317 = .ok (.iconst 1, 1) := by decide +kernel
theorem dL_law_1318 : decode cL_law 1318 = .ok (.iadd, 1) := by decide +kernel
theorem dL_law_1319 : decode cL_law 1319 = .ok (.iaload, 1) := by decide +kernel
theorem dL_law_1320 : decode cL_law 1320 = .ok (.aload_n 0, 1) := by decide +kernel
theorem dL_law_1321 : decode cL_law 1321 = .ok (.iload_n 3, 1) := by decide +kernel
theorem dL_law_1322 : decode cL_law 1322 = .ok (.iconst 2, 1) := by decide +kernel
theorem dL_law_1323 : decode cL_law 1323 = .ok (.iadd, 1) := by decide +kernel
theorem dL_law_1324 : decode cL_law 1324 = .ok (.iaload, 1) := by decide +kernel
theorem dL_law_1325 : decode cL_law 1325 = .ok (.invokevirtual 159, 3) := by decide +kernel
theorem dL_law_1328 : decode cL_law 1328 = .ok (.if_icmp .eq 77, 3) := by decide +kernel
theorem dL_law_1331 : decode cL_law 1331 = .ok (.iconst 0, 1) := by decide +kernel
theorem dL_law_1332 : decode cL_law 1332 = .ok (.ireturn, 1) := by decide +kernel
theorem dL_law_1333 : decode cL_law 1333 = .ok (.aload_n 1, 1) := by decide +kernel
theorem dL_law_1334 : decode cL_law 1334 = .ok (.aload_n 0, 1) := by decide +kernel
theorem dL_law_1335 : decode cL_law 1335 = .ok (.iload_n 3, 1) := by decide +kernel
theorem dL_law_1336 : decode cL_law 1336 = .ok (.iconst 1, 1) := by decide +kernel
theorem dL_law_1337 : decode cL_law 1337 = .ok (.iadd, 1) := by decide +kernel
theorem dL_law_1338 : decode cL_law 1338 = .ok (.iaload, 1) := by decide +kernel
theorem dL_law_1339 : decode cL_law 1339 = .ok (.invokevirtual 160, 3) := by decide +kernel
theorem dL_law_1342 : decode cL_law 1342 = .ok (.aload_n 2, 1) := by decide +kernel
theorem dL_law_1343 : decode cL_law 1343 = .ok (.aload_n 0, 1) := by decide +kernel
theorem dL_law_1344 : decode cL_law 1344 = .ok (.iload_n 3, 1) := by decide +kernel
theorem dL_law_1345 : decode cL_law 1345 = .ok (.iconst 1, 1) := by decide +kernel
theorem dL_law_1346 : decode cL_law 1346 = .ok (.iadd, 1) := by decide +kernel
theorem dL_law_1347 : decode cL_law 1347 = .ok (.iaload, 1) := by decide +kernel
theorem dL_law_1348 : decode cL_law 1348 = .ok (.invokevirtual 163, 3) := by decide +kernel
theorem dL_law_1351 : decode cL_law 1351 = .ok (.if_icmp .eq 54, 3) := by decide +kernel
theorem dL_law_1354 : decode cL_law 1354 = .ok (.iconst 0, 1) := by decide +kernel
theorem dL_law_1355 : decode cL_law 1355 = .ok (.ireturn, 1) := by decide +kernel
theorem dL_law_1356 : decode cL_law 1356 = .ok (.aload_n 1, 1) := by decide +kernel
theorem dL_law_1357 : decode cL_law 1357 = .ok (.invokevirtual 164, 3) := by decide +kernel
theorem dL_law_1360 : decode cL_law 1360 = .ok (.aload_n 2, 1) := by decide +kernel
theorem dL_law_1361 : decode cL_law 1361 = .ok (.invokevirtual 167, 3) := by decide +kernel
theorem dL_law_1364 : decode cL_law 1364 = .ok (.if_icmp .eq 41, 3) := by decide +kernel
theorem dL_law_1367 : decode cL_law 1367 = .ok (.iconst 0, 1) := by decide +kernel
theorem dL_law_1368 : decode cL_law 1368 = .ok (.ireturn, 1) := by decide +kernel
theorem dL_law_1369 : decode cL_law 1369 = .ok (.aload_n 1, 1) := by decide +kernel
theorem dL_law_1370 : decode cL_law 1370 = .ok (.invokevirtual 168, 3) := by decide +kernel
theorem dL_law_1373 : decode cL_law 1373 = .ok (.aload_n 2, 1) := by decide +kernel
theorem dL_law_1374 : decode cL_law 1374 = .ok (.invokevirtual 171, 3) := by decide +kernel
theorem dL_law_1377 : decode cL_law 1377 = .ok (.if_icmp .eq 28, 3) := by decide +kernel
theorem dL_law_1380 : decode cL_law 1380 = .ok (.iconst 0, 1) := by decide +kernel
theorem dL_law_1381 : decode cL_law 1381 = .ok (.ireturn, 1) := by decide +kernel
theorem dL_law_1382 : decode cL_law 1382 = .ok (.aload_n 1, 1) := by decide +kernel
theorem dL_law_1383 : decode cL_law 1383 = .ok (.aload_n 0, 1) := by decide +kernel
theorem dL_law_1384 : decode cL_law 1384 = .ok (.iload_n 3, 1) := by decide +kernel
theorem dL_law_1385 : decode cL_law 1385 = .ok (.iconst 1, 1) := by decide +kernel
theorem dL_law_1386 : decode cL_law 1386 = .ok (.iadd, 1) := by decide +kernel
theorem dL_law_1387 : decode cL_law 1387 = .ok (.iaload, 1) := by decide +kernel
theorem dL_law_1388 : decode cL_law 1388 = .ok (.invokevirtual 172, 3) := by decide +kernel
theorem dL_law_1391 : decode cL_law 1391 = .ok (.aload_n 2, 1) := by decide +kernel
theorem dL_law_1392 : decode cL_law 1392 = .ok (.aload_n 0, 1) := by decide +kernel
theorem dL_law_1393 : decode cL_law 1393 = .ok (.iload_n 3, 1) := by decide +kernel
theorem dL_law_1394 : decode cL_law 1394 = .ok (.iconst 1, 1) := by decide +kernel
theorem dL_law_1395 : decode cL_law 1395 = .ok (.iadd, 1) := by decide +kernel
theorem dL_law_1396 : decode cL_law 1396 = .ok (.iaload, 1) := by decide +kernel
theorem dL_law_1397 : decode cL_law 1397 = .ok (.invokevirtual 175, 3) := by decide +kernel
theorem dL_law_1400 : decode cL_law 1400 = .ok (.if_icmp .eq 5, 3) := by decide +kernel
theorem dL_law_1403 : decode cL_law 1403 = .ok (.iconst 0, 1) := by decide +kernel
theorem dL_law_1404 : decode cL_law 1404 = .ok (.ireturn, 1) := by decide +kernel
theorem dL_law_1405 : decode cL_law 1405 = .ok (.iinc 3 7, 3) := by decide +kernel
theorem dL_law_1408 : decode cL_law 1408 = .ok (.goto (-1390), 3) := by decide +kernel
theorem dL_law_1411 : decode cL_law 1411 = .ok (.iconst 1, 1) := by decide +kernel
theorem dL_law_1412 : decode cL_law 1412 = .ok (.ireturn, 1) := by decide +kernel
