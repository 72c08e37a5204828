theorem dX11_back_0 : decode cX11_back 0 = .ok (.aload_n 0, 1) := by decide +kernel
theorem dX11_back_1 : decode cX11_back 1 = .ok (.getfield 12, 3) := by decide +kernel
theorem dX11_back_4 : decode cX11_back 4 = .ok (.aload_n 0, 1) := by decide +kernel
theorem dX11_back_5 : decode cX11_back 5 = .ok (.getfield 18, 3) := by decide +kernel
theorem dX11_back_8 : decode cX11_back 8 = .ok (.invokevirtual 328, 3) := by decide +kernel
theorem dX11_back_11 : decode cX11_back 11 = .ok (.aload_n 0, 1) := by decide +kernel
theorem dX11_back_12 : decode cX11_back 12 = .ok (.getfield 12, 3) := by decide +kernel
theorem dX11_back_15 : decode cX11_back 15 = .ok (.getfield 238, 3) := by decide +kernel
theorem dX11_back_18 : decode cX11_back 18 = .ok (.ireturn, 1) := by decide +kernel
theorem dX11_count_0 : decode cX11_count 0 = .ok (.iload_n 1, 1) := by decide +kernel
theorem dX11_count_1 : decode cX11_count 1 = .ok (.tableswitch 134 0 7 #[47, 58, 70, 82, 93, 107, 115, 126], 47) := by decide +kernel
theorem dX11_count_48 : decode cX11_count 48 = .ok (.aload_n 0, 1) := by decide +kernel
theorem dX11_count_49 : decode cX11_count 49 = .ok (.getfield 12, 3) := by decide +kernel
theorem dX11_count_52 : decode cX11_count 52 = .ok (.getfield 104, 3) := by decide +kernel
theorem dX11_count_55 : decode cX11_count 55 = .ok (.getfield 108, 3) := by decide +kernel
theorem dX11_count_58 : decode cX11_count 58 = .ok (.ireturn, 1) := by decide +kernel
theorem dX11_count_59 : decode cX11_count 59 = .ok (.aload_n 0, 1) := by decide +kernel
theorem dX11_count_60 : decode cX11_count 60 = .ok (.getfield 12, 3) := by decide +kernel
theorem dX11_count_63 : decode cX11_count 63 = .ok (.getfield 104, 3) := by decide +kernel
theorem dX11_count_66 : decode cX11_count 66 = .ok (.iconst 0, 1) := by decide +kernel
theorem dX11_count_67 : decode cX11_count 67 = .ok (.invokevirtual 331, 3) := by decide +kernel
theorem dX11_count_70 : decode cX11_count 70 = .ok (.ireturn, 1) := by decide +kernel
theorem dX11_count_71 : decode cX11_count 71 = .ok (.aload_n 0, 1) := by decide +kernel
theorem dX11_count_72 : decode cX11_count 72 = .ok (.getfield 12, 3) := by decide +kernel
theorem dX11_count_75 : decode cX11_count 75 = .ok (.getfield 104, 3) := by decide +kernel
theorem dX11_count_78 : decode cX11_count 78 = .ok (.iconst 1, 1) := by decide +kernel
theorem dX11_count_79 : decode cX11_count 79 = .ok (.invokevirtual 331, 3) := by decide +kernel
theorem dX11_count_82 : decode cX11_count 82 = .ok (.ireturn, 1) := by decide +kernel
theorem dX11_count_83 : decode cX11_count 83 = .ok (.aload_n 0, 1) := by decide +kernel
theorem dX11_count_84 : decode cX11_count 84 = .ok (.getfield 12, 3) := by decide +kernel
theorem dX11_count_87 : decode cX11_count 87 = .ok (.getfield 213, 3) := by decide +kernel
theorem dX11_count_90 : decode cX11_count 90 = .ok (.getfield 217, 3) := by decide +kernel
theorem dX11_count_93 : decode cX11_count 93 = .ok (.ireturn, 1) := by decide +kernel
theorem dX11_count_94 : decode cX11_count 94 = .ok (.bipush 16, 2) := by decide +kernel
theorem dX11_count_96 : decode cX11_count 96 = .ok (.aload_n 0, 1) := by decide +kernel
theorem dX11_count_97 : decode cX11_count 97 = .ok (.getfield 12, 3) := by decide +kernel
theorem dX11_count_100 : decode cX11_count 100 = .ok (.getfield 159, 3) := by decide +kernel
theorem dX11_count_103 : decode cX11_count 103 = .ok (.invokevirtual 334, 3) := by decide +kernel
theorem dX11_count_106 : decode cX11_count 106 = .ok (.isub, 1) := by decide +kernel
theorem dX11_count_107 : decode cX11_count 107 = .ok (.ireturn, 1) := by decide +kernel
theorem dX11_count_108 : decode cX11_count 108 = .ok (.aload_n 0, 1) := by decide +kernel
theorem dX11_count_109 : decode cX11_count 109 = .ok (.getfield 38, 3) := by decide +kernel
theorem dX11_count_112 : decode cX11_count 112 = .ok (.getfield 94, 3) := by decide +kernel
theorem dX11_count_115 : decode cX11_count 115 = .ok (.ireturn, 1) := by decide +kernel
theorem dX11_count_116 : decode cX11_count 116 = .ok (.aload_n 0, 1) := by decide +kernel
theorem dX11_count_117 : decode cX11_count 117 = .ok (.getfield 12, 3) := by decide +kernel
theorem dX11_count_120 : decode cX11_count 120 = .ok (.getfield 104, 3) := by decide +kernel
theorem dX11_count_123 : decode cX11_count 123 = .ok (.invokevirtual 337, 3) := by decide +kernel
theorem dX11_count_126 : decode cX11_count 126 = .ok (.ireturn, 1) := by decide +kernel
theorem dX11_count_127 : decode cX11_count 127 = .ok (.aload_n 0, 1) := by decide +kernel
theorem dX11_count_128 : decode cX11_count 128 = .ok (.getfield 12, 3) := by decide +kernel
theorem dX11_count_131 : decode cX11_count 131 = .ok (.getfield 238, 3) := by decide +kernel
theorem dX11_count_134 : decode cX11_count 134 = .ok (.ireturn, 1) := by decide +kernel
theorem dX11_count_135 : decode cX11_count 135 = .ok (.iconst (-1), 1) := by decide +kernel
theorem dX11_count_136 : decode cX11_count 136 = .ok (.ireturn, 1) := by decide +kernel
theorem dX11_isAccount_0 : decode cX11_isAccount 0 = .ok (.iload_n 0, 1) := by decide +kernel
theorem dX11_isAccount_1 : decode cX11_isAccount 1 = .ok (.ifCond .lt 13, 3) := by decide +kernel
theorem dX11_isAccount_4 : decode cX11_isAccount 4 = .ok (.iload_n 0, 1) := by decide +kernel
theorem dX11_isAccount_5 : decode cX11_isAccount 5 = .ok (.bipush 8, 2) := by decide +kernel
theorem dX11_isAccount_7 : decode cX11_isAccount 7 = .ok (.if_icmp .ge 7, 3) := by decide +kernel
theorem dX11_isAccount_10 : decode cX11_isAccount 10 = .ok (.iconst 1, 1) := by decide +kernel
theorem dX11_isAccount_11 : decode cX11_isAccount 11 = .ok (.goto 4, 3) := by decide +kernel
theorem dX11_isAccount_14 : decode cX11_isAccount 14 = .ok (.iconst 0, 1) := by decide +kernel
theorem dX11_isAccount_15 : decode cX11_isAccount 15 = .ok (.ireturn, 1) := by decide +kernel
theorem dX11_isRank_0 : decode cX11_isRank 0 = .ok (.iload_n 0, 1) := by decide +kernel
theorem dX11_isRank_1 : decode cX11_isRank 1 = .ok (.ifCond .lt 13, 3) := by decide +kernel
theorem dX11_isRank_4 : decode cX11_isRank 4 = .ok (.iload_n 0, 1) := by decide +kernel
theorem dX11_isRank_5 : decode cX11_isRank 5 = .ok (.bipush 9, 2) := by decide +kernel
theorem dX11_isRank_7 : decode cX11_isRank 7 = .ok (.if_icmp .gt 7, 3) := by decide +kernel
theorem dX11_isRank_10 : decode cX11_isRank 10 = .ok (.iconst 1, 1) := by decide +kernel
theorem dX11_isRank_11 : decode cX11_isRank 11 = .ok (.goto 4, 3) := by decide +kernel
theorem dX11_isRank_14 : decode cX11_isRank 14 = .ok (.iconst 0, 1) := by decide +kernel
theorem dX11_isRank_15 : decode cX11_isRank 15 = .ok (.ireturn, 1) := by decide +kernel
theorem dX11_isColumn_0 : decode cX11_isColumn 0 = .ok (.iload_n 0, 1) := by decide +kernel
theorem dX11_isColumn_1 : decode cX11_isColumn 1 = .ok (.ifCond .lt 13, 3) := by decide +kernel
theorem dX11_isColumn_4 : decode cX11_isColumn 4 = .ok (.iload_n 0, 1) := by decide +kernel
theorem dX11_isColumn_5 : decode cX11_isColumn 5 = .ok (.bipush 16, 2) := by decide +kernel
theorem dX11_isColumn_7 : decode cX11_isColumn 7 = .ok (.if_icmp .ge 7, 3) := by decide +kernel
theorem dX11_isColumn_10 : decode cX11_isColumn 10 = .ok (.iconst 1, 1) := by decide +kernel
theorem dX11_isColumn_11 : decode cX11_isColumn 11 = .ok (.goto 4, 3) := by decide +kernel
theorem dX11_isColumn_14 : decode cX11_isColumn 14 = .ok (.iconst 0, 1) := by decide +kernel
theorem dX11_isColumn_15 : decode cX11_isColumn 15 = .ok (.ireturn, 1) := by decide +kernel
theorem dX11_isRule_0 : decode cX11_isRule 0 = .ok (.iload_n 0, 1) := by decide +kernel
theorem dX11_isRule_1 : decode cX11_isRule 1 = .ok (.tableswitch 74 0 2 #[27, 42, 58], 27) := by decide +kernel
theorem dX11_isRule_28 : decode cX11_isRule 28 = .ok (.iload_n 1, 1) := by decide +kernel
theorem dX11_isRule_29 : decode cX11_isRule 29 = .ok (.ifCond .lt 12, 3) := by decide +kernel
theorem dX11_isRule_32 : decode cX11_isRule 32 = .ok (.iload_n 1, 1) := by decide +kernel
theorem dX11_isRule_33 : decode cX11_isRule 33 = .ok (.iconst 4, 1) := by decide +kernel
theorem dX11_isRule_34 : decode cX11_isRule 34 = .ok (.if_icmp .gt 7, 3) := by decide +kernel
theorem dX11_isRule_37 : decode cX11_isRule 37 = .ok (.iconst 1, 1) := by decide +kernel
theorem dX11_isRule_38 : decode cX11_isRule 38 = .ok (.goto 4, 3) := by decide +kernel
theorem dX11_isRule_41 : decode cX11_isRule 41 = .ok (.iconst 0, 1) := by decide +kernel
theorem dX11_isRule_42 : decode cX11_isRule 42 = .ok (.ireturn, 1) := by decide +kernel
theorem dX11_isRule_43 : decode cX11_isRule 43 = .ok (.iload_n 1, 1) := by decide +kernel
theorem dX11_isRule_44 : decode cX11_isRule 44 = .ok (.ifCond .lt 13, 3) := by decide +kernel
theorem dX11_isRule_47 : decode cX11_isRule 47 = .ok (.iload_n 1, 1) := by decide +kernel
theorem dX11_isRule_48 : decode cX11_isRule 48 = .ok (.bipush 80, 2) := by decide +kernel
theorem dX11_isRule_50 : decode cX11_isRule 50 = .ok (.if_icmp .gt 7, 3) := by decide +kernel
theorem dX11_isRule_53 : decode cX11_isRule 53 = .ok (.iconst 1, 1) := by decide +kernel
theorem dX11_isRule_54 : decode cX11_isRule 54 = .ok (.goto 4, 3) := by decide +kernel
theorem dX11_isRule_57 : decode cX11_isRule 57 = .ok (.iconst 0, 1) := by decide +kernel
theorem dX11_isRule_58 : decode cX11_isRule 58 = .ok (.ireturn, 1) := by decide +kernel
theorem dX11_isRule_59 : decode cX11_isRule 59 = .ok (.iload_n 1, 1) := by decide +kernel
theorem dX11_isRule_60 : decode cX11_isRule 60 = .ok (.ifCond .lt 13, 3) := by decide +kernel
theorem dX11_isRule_63 : decode cX11_isRule 63 = .ok (.iload_n 1, 1) := by decide +kernel
theorem dX11_isRule_64 : decode cX11_isRule 64 = .ok (.bipush 100, 2) := by decide +kernel
theorem dX11_isRule_66 : decode cX11_isRule 66 = .ok (.if_icmp .gt 7, 3) := by decide +kernel
theorem dX11_isRule_69 : decode cX11_isRule 69 = .ok (.iconst 1, 1) := by decide +kernel
theorem dX11_isRule_70 : decode cX11_isRule 70 = .ok (.goto 4, 3) := by decide +kernel
theorem dX11_isRule_73 : decode cX11_isRule 73 = .ok (.iconst 0, 1) := by decide +kernel
theorem dX11_isRule_74 : decode cX11_isRule 74 = .ok (.ireturn, 1) := by decide +kernel
theorem dX11_isRule_75 : decode cX11_isRule 75 = .ok (.iconst 0, 1) := by decide +kernel
theorem dX11_isRule_76 : decode cX11_isRule 76 = .ok (.ireturn, 1) := by decide +kernel
theorem dX11_isJob_0 : decode cX11_isJob 0 = .ok (.iload_n 1, 1) := by decide +kernel
theorem dX11_isJob_1 : decode cX11_isJob 1 = .ok (.ifCond .lt 21, 3) := by decide +kernel
theorem dX11_isJob_4 : decode cX11_isJob 4 = .ok (.iload_n 1, 1) := by decide +kernel
theorem dX11_isJob_5 : decode cX11_isJob 5 = .ok (.aload_n 0, 1) := by decide +kernel
theorem dX11_isJob_6 : decode cX11_isJob 6 = .ok (.getfield 12, 3) := by decide +kernel
theorem dX11_isJob_9 : decode cX11_isJob 9 = .ok (.getfield 104, 3) := by decide +kernel
theorem dX11_isJob_12 : decode cX11_isJob 12 = .ok (.getfield 108, 3) := by decide +kernel
theorem dX11_isJob_15 : decode cX11_isJob 15 = .ok (.if_icmp .ge 7, 3) := by decide +kernel
theorem dX11_isJob_18 : decode cX11_isJob 18 = .ok (.iconst 1, 1) := by decide +kernel
theorem dX11_isJob_19 : decode cX11_isJob 19 = .ok (.goto 4, 3) := by decide +kernel
theorem dX11_isJob_22 : decode cX11_isJob 22 = .ok (.iconst 0, 1) := by decide +kernel
theorem dX11_isJob_23 : decode cX11_isJob 23 = .ok (.ireturn, 1) := by decide +kernel
theorem dX11_isWaiting_0 : decode cX11_isWaiting 0 = .ok (.aload_n 0, 1) := by decide +kernel
theorem dX11_isWaiting_1 : decode cX11_isWaiting 1 = .ok (.getfield 12, 3) := by decide +kernel
theorem dX11_isWaiting_4 : decode cX11_isWaiting 4 = .ok (.getfield 104, 3) := by decide +kernel
theorem dX11_isWaiting_7 : decode cX11_isWaiting 7 = .ok (.getfield 111, 3) := by decide +kernel
theorem dX11_isWaiting_10 : decode cX11_isWaiting 10 = .ok (.iload_n 1, 1) := by decide +kernel
theorem dX11_isWaiting_11 : decode cX11_isWaiting 11 = .ok (.iaload, 1) := by decide +kernel
theorem dX11_isWaiting_12 : decode cX11_isWaiting 12 = .ok (.ifCond .ne 7, 3) := by decide +kernel
theorem dX11_isWaiting_15 : decode cX11_isWaiting 15 = .ok (.iconst 1, 1) := by decide +kernel
theorem dX11_isWaiting_16 : decode cX11_isWaiting 16 = .ok (.goto 4, 3) := by decide +kernel
theorem dX11_isWaiting_19 : decode cX11_isWaiting 19 = .ok (.iconst 0, 1) := by decide +kernel
theorem dX11_isWaiting_20 : decode cX11_isWaiting 20 = .ok (.ireturn, 1) := by decide +kernel
theorem dX11_isSpan_0 : decode cX11_isSpan 0 = .ok (.iload_n 1, 1) := by decide +kernel
theorem dX11_isSpan_1 : decode cX11_isSpan 1 = .ok (.ifCond .lt 23, 3) := by decide +kernel
theorem dX11_isSpan_4 : decode cX11_isSpan 4 = .ok (.iload_n 1, 1) := by decide +kernel
theorem dX11_isSpan_5 : decode cX11_isSpan 5 = .ok (.bipush 100, 2) := by decide +kernel
theorem dX11_isSpan_7 : decode cX11_isSpan 7 = .ok (.irem, 1) := by decide +kernel
theorem dX11_isSpan_8 : decode cX11_isSpan 8 = .ok (.bipush 16, 2) := by decide +kernel
theorem dX11_isSpan_10 : decode cX11_isSpan 10 = .ok (.if_icmp .ge 14, 3) := by decide +kernel
theorem dX11_isSpan_13 : decode cX11_isSpan 13 = .ok (.iload_n 1, 1) := by decide +kernel
theorem dX11_isSpan_14 : decode cX11_isSpan 14 = .ok (.bipush 100, 2) := by decide +kernel
theorem dX11_isSpan_16 : decode cX11_isSpan 16 = .ok (.idiv, 1) := by decide +kernel
theorem dX11_isSpan_17 : decode cX11_isSpan 17 = .ok (.iload_n 1, 1) := by decide +kernel
theorem dX11_isSpan_18 : decode cX11_isSpan 18 = .ok (.bipush 100, 2) := by decide +kernel
theorem dX11_isSpan_20 : decode cX11_isSpan 20 = .ok (.irem, 1) := by decide +kernel
theorem dX11_isSpan_21 : decode cX11_isSpan 21 = .ok (.if_icmp .le 5, 3) := by decide +kernel
theorem dX11_isSpan_24 : decode cX11_isSpan 24 = .ok (.iconst 0, 1) := by decide +kernel
theorem dX11_isSpan_25 : decode cX11_isSpan 25 = .ok (.ireturn, 1) := by decide +kernel
theorem dX11_isSpan_26 : decode cX11_isSpan 26 = .ok (.iload 5, 2) := by decide +kernel
theorem dX11_isSpan_28 : decode cX11_isSpan 28 = .ok (.iconst (-1), 1) := by decide +kernel
theorem dX11_isSpan_29 : decode cX11_isSpan 29 = .ok (.if_icmp .eq 13, 3) := by decide +kernel
theorem dX11_isSpan_32 : decode cX11_isSpan 32 = .ok (.iload 5, 2) := by decide +kernel
theorem dX11_isSpan_34 : decode cX11_isSpan 34 = .ok (.invokestatic 63, 3) := by decide +kernel
theorem dX11_isSpan_37 : decode cX11_isSpan 37 = .ok (.ifCond .ne 5, 3) := by decide +kernel
theorem dX11_isSpan_40 : decode cX11_isSpan 40 = .ok (.iconst 0, 1) := by decide +kernel
theorem dX11_isSpan_41 : decode cX11_isSpan 41 = .ok (.ireturn, 1) := by decide +kernel
theorem dX11_isSpan_42 : decode cX11_isSpan 42 = .ok (.iload_n 2, 1) := by decide +kernel
theorem dX11_isSpan_43 : decode cX11_isSpan 43 = .ok (.aload_n 0, 1) := by decide +kernel
theorem dX11_isSpan_44 : decode cX11_isSpan 44 = .ok (.getfield 12, 3) := by decide +kernel
theorem dX11_isSpan_47 : decode cX11_isSpan 47 = .ok (.getfield 238, 3) := by decide +kernel
theorem dX11_isSpan_50 : decode cX11_isSpan 50 = .ok (.if_icmp .lt 31, 3) := by decide +kernel
theorem dX11_isSpan_53 : decode cX11_isSpan 53 = .ok (.lload_n 3, 1) := by decide +kernel
theorem dX11_isSpan_54 : decode cX11_isSpan 54 = .ok (.iload_n 2, 1) := by decide +kernel
theorem dX11_isSpan_55 : decode cX11_isSpan 55 = .ok (.i2l, 1) := by decide +kernel
theorem dX11_isSpan_56 : decode cX11_isSpan 56 = .ok (.lcmp, 1) := by decide +kernel
theorem dX11_isSpan_57 : decode cX11_isSpan 57 = .ok (.ifCond .le 24, 3) := by decide +kernel
theorem dX11_isSpan_60 : decode cX11_isSpan 60 = .ok (.lload_n 3, 1) := by decide +kernel
theorem dX11_isSpan_61 : decode cX11_isSpan 61 = .ok (.aload_n 0, 1) := by decide +kernel
theorem dX11_isSpan_62 : decode cX11_isSpan 62 = .ok (.getfield 12, 3) := by decide +kernel
theorem dX11_isSpan_65 : decode cX11_isSpan 65 = .ok (.getfield 238, 3) := by decide +kernel
theorem dX11_isSpan_68 : decode cX11_isSpan 68 = .ok (.i2l, 1) := by decide +kernel
theorem dX11_isSpan_69 : decode cX11_isSpan 69 = .ok (.lsub, 1) := by decide +kernel
theorem dX11_isSpan_70 : decode cX11_isSpan 70 = .ok (.ldc2_w 340, 3) := by decide +kernel
theorem dX11_isSpan_73 : decode cX11_isSpan 73 = .ok (.lcmp, 1) := by decide +kernel
theorem dX11_isSpan_74 : decode cX11_isSpan 74 = .ok (.ifCond .gt 7, 3) := by decide +kernel
theorem dX11_isSpan_77 : decode cX11_isSpan 77 = .ok (.iconst 1, 1) := by decide +kernel
theorem dX11_isSpan_78 : decode cX11_isSpan 78 = .ok (.goto 4, 3) := by decide +kernel
theorem dX11_isSpan_81 : decode cX11_isSpan 81 = .ok (.iconst 0, 1) := by decide +kernel
theorem dX11_isSpan_82 : decode cX11_isSpan 82 = .ok (.ireturn, 1) := by decide +kernel
theorem dX11_orNot_0 : decode cX11_orNot 0 = .ok (.iload_n 0, 1) := by decide +kernel
theorem dX11_orNot_1 : decode cX11_orNot 1 = .ok (.iconst (-1), 1) := by decide +kernel
theorem dX11_orNot_2 : decode cX11_orNot 2 = .ok (.if_icmp .ne 8, 3) := by decide +kernel
theorem dX11_orNot_5 : decode cX11_orNot 5 = .ok (.bipush (-2), 2) := by decide +kernel
theorem dX11_orNot_7 : decode cX11_orNot 7 = .ok (.goto 4, 3) := by decide +kernel
theorem dX11_orNot_10 : decode cX11_orNot 10 = .ok (.iload_n 0, 1) := by decide +kernel
theorem dX11_orNot_11 : decode cX11_orNot 11 = .ok (.ireturn, 1) := by decide +kernel
theorem dX11_listed_0 : decode cX11_listed 0 = .ok (.iload_n 2, 1) := by decide +kernel
theorem dX11_listed_1 : decode cX11_listed 1 = .ok (.ifCond .ge 5, 3) := by decide +kernel
theorem dX11_listed_4 : decode cX11_listed 4 = .ok (.iload_n 1, 1) := by decide +kernel
theorem dX11_listed_5 : decode cX11_listed 5 = .ok (.ireturn, 1) := by decide +kernel
theorem dX11_listed_6 : decode cX11_listed 6 = .ok (.iload_n 2, 1) := by decide +kernel
theorem dX11_listed_7 : decode cX11_listed 7 = .ok (.iload_n 1, 1) := by decide +kernel
theorem dX11_listed_8 : decode cX11_listed 8 = .ok (.if_icmp .ge 15, 3) := by decide +kernel
theorem dX11_listed_11 : decode cX11_listed 11 = .ok (.iload_n 2, 1) := by decide +kernel
theorem dX11_listed_12 : decode cX11_listed 12 = .ok (.aload_n 0, 1) := by decide +kernel
theorem dX11_listed_13 : decode cX11_listed 13 = .ok (.arraylength, 1) := by decide +kernel
theorem dX11_listed_14 : decode cX11_listed 14 = .ok (.if_icmp .ge 9, 3) := by decide +kernel
theorem dX11_listed_17 : decode cX11_listed 17 = .ok (.aload_n 0, 1) := by decide +kernel
theorem dX11_listed_18 : decode cX11_listed 18 = .ok (.iload_n 2, 1) := by decide +kernel
theorem dX11_listed_19 : decode cX11_listed 19 = .ok (.iaload, 1) := by decide +kernel
theorem dX11_listed_20 : decode cX11_listed 20 = .ok (.goto 5, 3) := by decide +kernel
theorem dX11_listed_23 : decode cX11_listed 23 = .ok (.bipush (-2), 2) := by decide +kernel
theorem dX11_listed_25 : decode cX11_listed 25 = .ok (.ireturn, 1) := by decide +kernel
theorem dX11_maskOf_0 : decode cX11_maskOf 0 = .ok (.iconst 1, 1) := by decide +kernel
theorem dX11_maskOf_1 : decode cX11_maskOf 1 = .ok (.iload_n 1, 1) := by decide +kernel
theorem dX11_maskOf_2 : decode cX11_maskOf 2 = .ok (.ishl, 1) := by decide +kernel
theorem dX11_maskOf_3 : decode cX11_maskOf 3 = .ok (.iconst 1, 1) := by decide +kernel
theorem dX11_maskOf_4 : decode cX11_maskOf 4 = .ok (.isub, 1) := by decide +kernel
theorem dX11_maskOf_5 : decode cX11_maskOf 5 = .ok (.iload_n 0, 1) := by decide +kernel
theorem dX11_maskOf_6 : decode cX11_maskOf 6 = .ok (.ishl, 1) := by decide +kernel
theorem dX11_maskOf_7 : decode cX11_maskOf 7 = .ok (.ireturn, 1) := by decide +kernel
theorem dX11_bestRun_0 : decode cX11_bestRun 0 = .ok (.iconst (-1), 1) := by decide +kernel
theorem dX11_bestRun_1 : decode cX11_bestRun 1 = .ok (.istore_n 2, 1) := by decide +kernel
theorem dX11_bestRun_2 : decode cX11_bestRun 2 = .ok (.bipush 17, 2) := by decide +kernel
theorem dX11_bestRun_4 : decode cX11_bestRun 4 = .ok (.istore_n 3, 1) := by decide +kernel
theorem dX11_bestRun_5 : decode cX11_bestRun 5 = .ok (.iconst 0, 1) := by decide +kernel
theorem dX11_bestRun_6 : decode cX11_bestRun 6 = .ok (.istore 4, 2) := by decide +kernel
theorem dX11_bestRun_8 : decode cX11_bestRun 8 = .ok (.iconst 0, 1) := by decide +kernel
theorem dX11_bestRun_9 : decode cX11_bestRun 9 = .ok (.istore 5, 2) := by decide +kernel
theorem dX11_bestRun_11 : decode cX11_bestRun 11 = .ok (.iload 5, 2) := by decide +kernel
theorem dX11_bestRun_13 : decode cX11_bestRun 13 = .ok (.bipush 16, 2) := by decide +kernel
theorem dX11_bestRun_15 : decode cX11_bestRun 15 = .ok (.if_icmp .gt 55, 3) := by decide +kernel
theorem dX11_bestRun_18 : decode cX11_bestRun 18 = .ok (.iload 5, 2) := by decide +kernel
theorem dX11_bestRun_20 : decode cX11_bestRun 20 = .ok (.bipush 16, 2) := by decide +kernel
theorem dX11_bestRun_22 : decode cX11_bestRun 22 = .ok (.if_icmp .ge 18, 3) := by decide +kernel
theorem dX11_bestRun_25 : decode cX11_bestRun 25 = .ok (.iload_n 0, 1) := by decide +kernel
theorem dX11_bestRun_26 : decode cX11_bestRun 26 = .ok (.iload 5, 2) := by decide +kernel
theorem dX11_bestRun_28 : decode cX11_bestRun 28 = .ok (.ishr, 1) := by decide +kernel
theorem dX11_bestRun_29 : decode cX11_bestRun 29 = .ok (.iconst 1, 1) := by decide +kernel
theorem dX11_bestRun_30 : decode cX11_bestRun 30 = .ok (.iand, 1) := by decide +kernel
theorem dX11_bestRun_31 : decode cX11_bestRun 31 = .ok (.ifCond .eq 9, 3) := by decide +kernel
theorem dX11_bestRun_34 : decode cX11_bestRun 34 = .ok (.iinc 4 1, 3) := by decide +kernel
theorem dX11_bestRun_37 : decode cX11_bestRun 37 = .ok (.goto 27, 3) := by decide +kernel
theorem dX11_bestRun_40 : decode cX11_bestRun 40 = .ok (.iload 4, 2) := by decide +kernel
theorem dX11_bestRun_42 : decode cX11_bestRun 42 = .ok (.iload_n 1, 1) := by decide +kernel
theorem dX11_bestRun_43 : decode cX11_bestRun 43 = .ok (.if_icmp .lt 18, 3) := by decide +kernel
theorem dX11_bestRun_46 : decode cX11_bestRun 46 = .ok (.iload 4, 2) := by decide +kernel
theorem dX11_bestRun_48 : decode cX11_bestRun 48 = .ok (.iload_n 3, 1) := by decide +kernel
theorem dX11_bestRun_49 : decode cX11_bestRun 49 = .ok (.if_icmp .ge 12, 3) := by decide +kernel
theorem dX11_bestRun_52 : decode cX11_bestRun 52 = .ok (.iload 5, 2) := by decide +kernel
theorem dX11_bestRun_54 : decode cX11_bestRun 54 = .ok (.iload 4, 2) := by decide +kernel
theorem dX11_bestRun_56 : decode cX11_bestRun 56 = .ok (.isub, 1) := by decide +kernel
theorem dX11_bestRun_57 : decode cX11_bestRun 57 = .ok (.istore_n 2, 1) := by decide +kernel
theorem dX11_bestRun_58 : decode cX11_bestRun 58 = .ok (.iload 4, 2) := by decide +kernel
theorem dX11_bestRun_60 : decode cX11_bestRun 60 = .ok (.istore_n 3, 1) := by decide +kernel
theorem dX11_bestRun_61 : decode cX11_bestRun 61 = .ok (.iconst 0, 1) := by decide +kernel
theorem dX11_bestRun_62 : decode cX11_bestRun 62 = .ok (.istore 4, 2) := by decide +kernel
theorem dX11_bestRun_64 : decode cX11_bestRun 64 = .ok (.iinc 5 1, 3) := by decide +kernel
theorem dX11_bestRun_67 : decode cX11_bestRun 67 = .ok (.goto (-56), 3) := by decide +kernel
theorem dX11_bestRun_70 : decode cX11_bestRun 70 = .ok (.iload_n 2, 1) := by decide +kernel
theorem dX11_bestRun_71 : decode cX11_bestRun 71 = .ok (.ireturn, 1) := by decide +kernel
theorem dX11_longestRun_0 : decode cX11_longestRun 0 = .ok (.iconst 0, 1) := by decide +kernel
theorem dX11_longestRun_1 : decode cX11_longestRun 1 = .ok (.istore_n 1, 1) := by decide +kernel
theorem dX11_longestRun_2 : decode cX11_longestRun 2 = .ok (.iconst 0, 1) := by decide +kernel
theorem dX11_longestRun_3 : decode cX11_longestRun 3 = .ok (.istore_n 2, 1) := by decide +kernel
theorem dX11_longestRun_4 : decode cX11_longestRun 4 = .ok (.iconst 0, 1) := by decide +kernel
theorem dX11_longestRun_5 : decode cX11_longestRun 5 = .ok (.istore_n 3, 1) := by decide +kernel
theorem dX11_longestRun_6 : decode cX11_longestRun 6 = .ok (.iload_n 3, 1) := by decide +kernel
theorem dX11_longestRun_7 : decode cX11_longestRun 7 = .ok (.bipush 16, 2) := by decide +kernel
theorem dX11_longestRun_9 : decode cX11_longestRun 9 = .ok (.if_icmp .ge 31, 3) := by decide +kernel
theorem dX11_longestRun_12 : decode cX11_longestRun 12 = .ok (.iload_n 0, 1) := by decide +kernel
theorem dX11_longestRun_13 : decode cX11_longestRun 13 = .ok (.iload_n 3, 1) := by decide +kernel
theorem dX11_longestRun_14 : decode cX11_longestRun 14 = .ok (.ishr, 1) := by decide +kernel
theorem dX11_longestRun_15 : decode cX11_longestRun 15 = .ok (.iconst 1, 1) := by decide +kernel
theorem dX11_longestRun_16 : decode cX11_longestRun 16 = .ok (.iand, 1) := by decide +kernel
theorem dX11_longestRun_17 : decode cX11_longestRun 17 = .ok (.ifCond .eq 9, 3) := by decide +kernel
theorem dX11_longestRun_20 : decode cX11_longestRun 20 = .ok (.iload_n 2, 1) := by decide +kernel
theorem dX11_longestRun_21 : decode cX11_longestRun 21 = .ok (.iconst 1, 1) := by decide +kernel
theorem dX11_longestRun_22 : decode cX11_longestRun 22 = .ok (.iadd, 1) := by decide +kernel
theorem dX11_longestRun_23 : decode cX11_longestRun 23 = .ok (.goto 4, 3) := by decide +kernel
theorem dX11_longestRun_26 : decode cX11_longestRun 26 = .ok (.iconst 0, 1) := by decide +kernel
theorem dX11_longestRun_27 : decode cX11_longestRun 27 = .ok (.istore_n 2, 1) := by decide +kernel
theorem dX11_longestRun_28 : decode cX11_longestRun 28 = .ok (.iload_n 1, 1) := by decide +kernel
theorem dX11_longestRun_29 : decode cX11_longestRun 29 = .ok (.iload_n 2, 1) := by decide +kernel
theorem dX11_longestRun_30 : decode cX11_longestRun 30 = .ok (.invokestatic 342, 3) := by decide +kernel
theorem dX11_longestRun_33 : decode cX11_longestRun 33 = .ok (.istore_n 1, 1) := by decide +kernel
theorem dX11_longestRun_34 : decode cX11_longestRun 34 = .ok (.iinc 3 1, 3) := by decide +kernel
theorem dX11_longestRun_37 : decode cX11_longestRun 37 = .ok (.goto (-31), 3) := by decide +kernel
theorem dX11_longestRun_40 : decode cX11_longestRun 40 = .ok (.iload_n 1, 1) := by decide +kernel
theorem dX11_longestRun_41 : decode cX11_longestRun 41 = .ok (.ireturn, 1) := by decide +kernel
theorem dX12_init_0 : decode cX12_init 0 = .ok (.aload_n 0, 1) := by decide +kernel
theorem dX12_init_1 : decode cX12_init 1 = .ok (.invokespecial 3, 3) := by decide +kernel
theorem dX12_init_4 : decode cX12_init 4 = .ok (.aload_n 0, 1) := by decide +kernel
theorem dX12_init_5 : decode cX12_init 5 = .ok (.sipush 3940, 3) := by decide +kernel
theorem dX12_init_8 : decode cX12_init 8 = .ok (.newarray .int, 2) := by decide +kernel
theorem dX12_init_10 : decode cX12_init 10 = .ok (.putfield 9, 3) := by decide +kernel
theorem dX12_init_13 : decode cX12_init 13 = .ok (.aload_n 0, 1) := by decide +kernel
theorem dX12_init_14 : decode cX12_init 14 = .ok (.sipush 3940, 3) := by decide +kernel
theorem dX12_init_17 : decode cX12_init 17 = .ok (.newarray .int, 2) := by decide +kernel
theorem dX12_init_19 : decode cX12_init 19 = .ok (.putfield 13, 3) := by decide +kernel
theorem dX12_init_22 : decode cX12_init 22 = .ok (.aload_n 0, 1) := by decide +kernel
theorem dX12_init_23 : decode cX12_init 23 = .ok (.sipush 3940, 3) := by decide +kernel
theorem dX12_init_26 : decode cX12_init 26 = .ok (.newarray .int, 2) := by decide +kernel
theorem dX12_init_28 : decode cX12_init 28 = .ok (.putfield 16, 3) := by decide +kernel
theorem dX12_init_31 : decode cX12_init 31 = .ok (.aload_n 0, 1) := by decide +kernel
theorem dX12_init_32 : decode cX12_init 32 = .ok (.bipush 16, 2) := by decide +kernel
theorem dX12_init_34 : decode cX12_init 34 = .ok (.newarray .long, 2) := by decide +kernel
theorem dX12_init_36 : decode cX12_init 36 = .ok (.putfield 19, 3) := by decide +kernel
theorem dX12_init_39 : decode cX12_init 39 = .ok (.aload_n 0, 1) := by decide +kernel
theorem dX12_init_40 : decode cX12_init 40 = .ok (.bipush 16, 2) := by decide +kernel
theorem dX12_init_42 : decode cX12_init 42 = .ok (.newarray .long, 2) := by decide +kernel
theorem dX12_init_44 : decode cX12_init 44 = .ok (.putfield 23, 3) := by decide +kernel
theorem dX12_init_47 : decode cX12_init 47 = .ok (.aload_n 0, 1) := by decide +kernel
theorem dX12_init_48 : decode cX12_init 48 = .ok (.bipush 16, 2) := by decide +kernel
theorem dX12_init_50 : decode cX12_init 50 = .ok (.newarray .long, 2) := by decide +kernel
theorem dX12_init_52 : decode cX12_init 52 = .ok (.putfield 26, 3) := by decide +kernel
theorem dX12_init_55 : decode cX12_init 55 = .ok (.aload_n 0, 1) := by decide +kernel
theorem dX12_init_56 : decode cX12_init 56 = .ok (.bipush 60, 2) := by decide +kernel
theorem dX12_init_58 : decode cX12_init 58 = .ok (.newarray .byte, 2) := by decide +kernel
theorem dX12_init_60 : decode cX12_init 60 = .ok (.putfield 29, 3) := by decide +kernel
theorem dX12_init_63 : decode cX12_init 63 = .ok (.aload_n 0, 1) := by decide +kernel
theorem dX12_init_64 : decode cX12_init 64 = .ok (.iconst 4, 1) := by decide +kernel
theorem dX12_init_65 : decode cX12_init 65 = .ok (.newarray .int, 2) := by decide +kernel
theorem dX12_init_67 : decode cX12_init 67 = .ok (.putfield 33, 3) := by decide +kernel
theorem dX12_init_70 : decode cX12_init 70 = .ok (.aload_n 0, 1) := by decide +kernel
theorem dX12_init_71 : decode cX12_init 71 = .ok (.iconst 4, 1) := by decide +kernel
theorem dX12_init_72 : decode cX12_init 72 = .ok (.newarray .int, 2) := by decide +kernel
theorem dX12_init_74 : decode cX12_init 74 = .ok (.putfield 36, 3) := by decide +kernel
theorem dX12_init_77 : decode cX12_init 77 = .ok (.aload_n 0, 1) := by decide +kernel
theorem dX12_init_78 : decode cX12_init 78 = .ok (.iconst 4, 1) := by decide +kernel
theorem dX12_init_79 : decode cX12_init 79 = .ok (.newarray .int, 2) := by decide +kernel
theorem dX12_init_81 : decode cX12_init 81 = .ok (.putfield 39, 3) := by decide +kernel
theorem dX12_init_84 : decode cX12_init 84 = .ok (.aload_n 0, 1) := by decide +kernel
theorem dX12_init_85 : decode cX12_init 85 = .ok (.iconst (-1), 1) := by decide +kernel
theorem dX12_init_86 : decode cX12_init 86 = .ok (.putfield 42, 3) := by decide +kernel
theorem dX12_init_89 : decode cX12_init 89 = .ok (.aload_n 0, 1) := by decide +kernel
theorem dX12_init_90 : decode cX12_init 90 = .ok (.iconst (-1), 1) := by decide +kernel
theorem dX12_init_91 : decode cX12_init 91 = .ok (.putfield 46, 3) := by decide +kernel
theorem dX12_init_94 : decode cX12_init 94 = .ok (.aload_n 0, 1) := by decide +kernel
theorem dX12_init_95 : decode cX12_init 95 = .ok (.iconst (-1), 1) := by decide +kernel
theorem dX12_init_96 : decode cX12_init 96 = .ok (.putfield 49, 3) := by decide +kernel
theorem dX12_init_99 : decode cX12_init 99 = .ok (.aload_n 0, 1) := by decide +kernel
theorem dX12_init_100 : decode cX12_init 100 = .ok (.iconst (-1), 1) := by decide +kernel
theorem dX12_init_101 : decode cX12_init 101 = .ok (.putfield 52, 3) := by decide +kernel
theorem dX12_init_104 : decode cX12_init 104 = .ok (.aload_n 0, 1) := by decide +kernel
theorem dX12_init_105 : decode cX12_init 105 = .ok (.iconst 4, 1) := by decide +kernel
theorem dX12_init_106 : decode cX12_init 106 = .ok (.newarray .int, 2) := by decide +kernel
theorem dX12_init_108 : decode cX12_init 108 = .ok (.putfield 55, 3) := by decide +kernel
theorem dX12_init_111 : decode cX12_init 111 = .ok (.aload_n 0, 1) := by decide +kernel
theorem dX12_init_112 : decode cX12_init 112 = .ok (.iconst 4, 1) := by decide +kernel
theorem dX12_init_113 : decode cX12_init 113 = .ok (.newarray .int, 2) := by decide +kernel
theorem dX12_init_115 : decode cX12_init 115 = .ok (.putfield 58, 3) := by decide +kernel
theorem dX12_init_118 : decode cX12_init 118 = .ok (.aload_n 0, 1) := by decide +kernel
theorem dX12_init_119 : decode cX12_init 119 = .ok (.bipush 80, 2) := by decide +kernel
theorem dX12_init_121 : decode cX12_init 121 = .ok (.newarray .int, 2) := by decide +kernel
theorem dX12_init_123 : decode cX12_init 123 = .ok (.putfield 61, 3) := by decide +kernel
theorem dX12_init_126 : decode cX12_init 126 = .ok (.aload_n 0, 1) := by decide +kernel
theorem dX12_init_127 : decode cX12_init 127 = .ok (.bipush 80, 2) := by decide +kernel
theorem dX12_init_129 : decode cX12_init 129 = .ok (.newarray .int, 2) := by decide +kernel
theorem dX12_init_131 : decode cX12_init 131 = .ok (.putfield 64, 3) := by decide +kernel
theorem dX12_init_134 : decode cX12_init 134 = .ok (.aload_n 0, 1) := by decide +kernel
theorem dX12_init_135 : decode cX12_init 135 = .ok (.bipush 80, 2) := by decide +kernel
theorem dX12_init_137 : decode cX12_init 137 = .ok (.newarray .int, 2) := by decide +kernel
theorem dX12_init_139 : decode cX12_init 139 = .ok (.putfield 67, 3) := by decide +kernel
theorem dX12_init_142 : decode cX12_init 142 = .ok (.aload_n 0, 1) := by decide +kernel
theorem dX12_init_143 : decode cX12_init 143 = .ok (.bipush 80, 2) := by decide +kernel
theorem dX12_init_145 : decode cX12_init 145 = .ok (.newarray .int, 2) := by decide +kernel
theorem dX12_init_147 : decode cX12_init 147 = .ok (.putfield 70, 3) := by decide +kernel
theorem dX12_init_150 : decode cX12_init 150 = .ok (.aload_n 0, 1) := by decide +kernel
theorem dX12_init_151 : decode cX12_init 151 = .ok (.getfield 9, 3) := by decide +kernel
theorem dX12_init_154 : decode cX12_init 154 = .ok (.iconst 2, 1) := by decide +kernel
theorem dX12_init_155 : decode cX12_init 155 = .ok (.iconst 1, 1) := by decide +kernel
theorem dX12_init_156 : decode cX12_init 156 = .ok (.iastore, 1) := by decide +kernel
theorem dX12_init_157 : decode cX12_init 157 = .ok (.aload_n 0, 1) := by decide +kernel
theorem dX12_init_158 : decode cX12_init 158 = .ok (.getfield 9, 3) := by decide +kernel
theorem dX12_init_161 : decode cX12_init 161 = .ok (.iconst 3, 1) := by decide +kernel
theorem dX12_init_162 : decode cX12_init 162 = .ok (.bipush 80, 2) := by decide +kernel
theorem dX12_init_164 : decode cX12_init 164 = .ok (.iastore, 1) := by decide +kernel
theorem dX12_init_165 : decode cX12_init 165 = .ok (.iconst 0, 1) := by decide +kernel
theorem dX12_init_166 : decode cX12_init 166 = .ok (.istore_n 1, 1) := by decide +kernel
theorem dX12_init_167 : decode cX12_init 167 = .ok (.iload_n 1, 1) := by decide +kernel
theorem dX12_init_168 : decode cX12_init 168 = .ok (.bipush 8, 2) := by decide +kernel
theorem dX12_init_170 : decode cX12_init 170 = .ok (.if_icmp .ge 31, 3) := by decide +kernel
theorem dX12_init_173 : decode cX12_init 173 = .ok (.aload_n 0, 1) := by decide +kernel
theorem dX12_init_174 : decode cX12_init 174 = .ok (.getfield 9, 3) := by decide +kernel
theorem dX12_init_177 : decode cX12_init 177 = .ok (.bipush 8, 2) := by decide +kernel
theorem dX12_init_179 : decode cX12_init 179 = .ok (.iload_n 1, 1) := by decide +kernel
theorem dX12_init_180 : decode cX12_init 180 = .ok (.iadd, 1) := by decide +kernel
theorem dX12_init_181 : decode cX12_init 181 = .ok (.bipush 10, 2) := by decide +kernel
theorem dX12_init_183 : decode cX12_init 183 = .ok (.iastore, 1) := by decide +kernel
theorem dX12_init_184 : decode cX12_init 184 = .ok (.aload_n 0, 1) := by decide +kernel
theorem dX12_init_185 : decode cX12_init 185 = .ok (.getfield 9, 3) := by decide +kernel
theorem dX12_init_188 : decode cX12_init 188 = .ok (.bipush 16, 2) := by decide +kernel
theorem dX12_init_190 : decode cX12_init 190 = .ok (.iload_n 1, 1) := by decide +kernel
theorem dX12_init_191 : decode cX12_init 191 = .ok (.iadd, 1) := by decide +kernel
theorem dX12_init_192 : decode cX12_init 192 = .ok (.bipush 16, 2) := by decide +kernel
theorem dX12_init_194 : decode cX12_init 194 = .ok (.iastore, 1) := by decide +kernel
theorem dX12_init_195 : decode cX12_init 195 = .ok (.iinc 1 1, 3) := by decide +kernel
theorem dX12_init_198 : decode cX12_init 198 = .ok (.goto (-31), 3) := by decide +kernel
theorem dX12_init_201 : decode cX12_init 201 = .ok (.iconst 0, 1) := by decide +kernel
theorem dX12_init_202 : decode cX12_init 202 = .ok (.istore_n 1, 1) := by decide +kernel
theorem dX12_init_203 : decode cX12_init 203 = .ok (.iload_n 1, 1) := by decide +kernel
theorem dX12_init_204 : decode cX12_init 204 = .ok (.bipush 12, 2) := by decide +kernel
theorem dX12_init_206 : decode cX12_init 206 = .ok (.if_icmp .ge 22, 3) := by decide +kernel
theorem dX12_init_209 : decode cX12_init 209 = .ok (.aload_n 0, 1) := by decide +kernel
theorem dX12_init_210 : decode cX12_init 210 = .ok (.getfield 9, 3) := by decide +kernel
theorem dX12_init_213 : decode cX12_init 213 = .ok (.bipush 24, 2) := by decide +kernel
theorem dX12_init_215 : decode cX12_init 215 = .ok (.iload_n 1, 1) := by decide +kernel
theorem dX12_init_216 : decode cX12_init 216 = .ok (.bipush 6, 2) := by decide +kernel
theorem dX12_init_218 : decode cX12_init 218 = .ok (.imul, 1) := by decide +kernel
theorem dX12_init_219 : decode cX12_init 219 = .ok (.iadd, 1) := by decide +kernel
theorem dX12_init_220 : decode cX12_init 220 = .ok (.iconst (-1), 1) := by decide +kernel
theorem dX12_init_221 : decode cX12_init 221 = .ok (.iastore, 1) := by decide +kernel
theorem dX12_init_222 : decode cX12_init 222 = .ok (.iinc 1 1, 3) := by decide +kernel
theorem dX12_init_225 : decode cX12_init 225 = .ok (.goto (-22), 3) := by decide +kernel
theorem dX12_init_228 : decode cX12_init 228 = .ok (.aload_n 0, 1) := by decide +kernel
theorem dX12_init_229 : decode cX12_init 229 = .ok (.getfield 9, 3) := by decide +kernel
theorem dX12_init_232 : decode cX12_init 232 = .ok (.aload_n 0, 1) := by decide +kernel
theorem dX12_init_233 : decode cX12_init 233 = .ok (.getfield 16, 3) := by decide +kernel
theorem dX12_init_236 : decode cX12_init 236 = .ok (.invokestatic 73, 3) := by decide +kernel
theorem dX12_init_239 : decode cX12_init 239 = .ok (.return_, 1) := by decide +kernel
theorem dX12_in_0 : decode cX12_in 0 = .ok (.lload_n 0, 1) := by decide +kernel
theorem dX12_in_1 : decode cX12_in 1 = .ok (.lload_n 2, 1) := by decide +kernel
theorem dX12_in_2 : decode cX12_in 2 = .ok (.lcmp, 1) := by decide +kernel
theorem dX12_in_3 : decode cX12_in 3 = .ok (.ifCond .lt 14, 3) := by decide +kernel
theorem dX12_in_6 : decode cX12_in 6 = .ok (.lload_n 0, 1) := by decide +kernel
theorem dX12_in_7 : decode cX12_in 7 = .ok (.lload 4, 2) := by decide +kernel
theorem dX12_in_9 : decode cX12_in 9 = .ok (.lcmp, 1) := by decide +kernel
theorem dX12_in_10 : decode cX12_in 10 = .ok (.ifCond .gt 7, 3) := by decide +kernel
theorem dX12_in_13 : decode cX12_in 13 = .ok (.iconst 1, 1) := by decide +kernel
theorem dX12_in_14 : decode cX12_in 14 = .ok (.goto 4, 3) := by decide +kernel
theorem dX12_in_17 : decode cX12_in 17 = .ok (.iconst 0, 1) := by decide +kernel
theorem dX12_in_18 : decode cX12_in 18 = .ok (.ireturn, 1) := by decide +kernel
theorem dX12_lays_0 : decode cX12_lays 0 = .ok (.iconst 0, 1) := by decide +kernel
theorem dX12_lays_1 : decode cX12_lays 1 = .ok (.istore_n 2, 1) := by decide +kernel
theorem dX12_lays_2 : decode cX12_lays 2 = .ok (.iload_n 2, 1) := by decide +kernel
theorem dX12_lays_3 : decode cX12_lays 3 = .ok (.sipush 3940, 3) := by decide +kernel
theorem dX12_lays_6 : decode cX12_lays 6 = .ok (.if_icmp .ge 15, 3) := by decide +kernel
theorem dX12_lays_9 : decode cX12_lays 9 = .ok (.aload_n 1, 1) := by decide +kernel
theorem dX12_lays_10 : decode cX12_lays 10 = .ok (.iload_n 2, 1) := by decide +kernel
theorem dX12_lays_11 : decode cX12_lays 11 = .ok (.aload_n 0, 1) := by decide +kernel
theorem dX12_lays_12 : decode cX12_lays 12 = .ok (.iload_n 2, 1) := by decide +kernel
theorem dX12_lays_13 : decode cX12_lays 13 = .ok (.iaload, 1) := by decide +kernel
theorem dX12_lays_14 : decode cX12_lays 14 = .ok (.iastore, 1) := by decide +kernel
theorem dX12_lays_15 : decode cX12_lays 15 = .ok (.iinc 2 1, 3) := by decide +kernel
theorem dX12_lays_18 : decode cX12_lays 18 = .ok (.goto (-16), 3) := by decide +kernel
theorem dX12_lays_21 : decode cX12_lays 21 = .ok (.return_, 1) := by decide +kernel
theorem dX12_laysSums_0 : decode cX12_laysSums 0 = .ok (.iconst 0, 1) := by decide +kernel
theorem dX12_laysSums_1 : decode cX12_laysSums 1 = .ok (.istore_n 2, 1) := by decide +kernel
theorem dX12_laysSums_2 : decode cX12_laysSums 2 = .ok (.iload_n 2, 1) := by decide +kernel
theorem dX12_laysSums_3 : decode cX12_laysSums 3 = .ok (.bipush 16, 2) := by decide +kernel
theorem dX12_laysSums_5 : decode cX12_laysSums 5 = .ok (.if_icmp .ge 15, 3) := by decide +kernel
theorem dX12_laysSums_8 : decode cX12_laysSums 8 = .ok (.aload_n 1, 1) := by decide +kernel
theorem dX12_laysSums_9 : decode cX12_laysSums 9 = .ok (.iload_n 2, 1) := by decide +kernel
theorem dX12_laysSums_10 : decode cX12_laysSums 10 = .ok (.aload_n 0, 1) := by decide +kernel
theorem dX12_laysSums_11 : decode cX12_laysSums 11 = .ok (.iload_n 2, 1) := by decide +kernel
theorem dX12_laysSums_12 : decode cX12_laysSums 12 = .ok (.laload, 1) := by decide +kernel
theorem dX12_laysSums_13 : decode cX12_laysSums 13 = .ok (.lastore, 1) := by decide +kernel
theorem dX12_laysSums_14 : decode cX12_laysSums 14 = .ok (.iinc 2 1, 3) := by decide +kernel
theorem dX12_laysSums_17 : decode cX12_laysSums 17 = .ok (.goto (-15), 3) := by decide +kernel
theorem dX12_laysSums_20 : decode cX12_laysSums 20 = .ok (.return_, 1) := by decide +kernel
theorem dX12_isAccount_0 : decode cX12_isAccount 0 = .ok (.iload_n 0, 1) := by decide +kernel
theorem dX12_isAccount_1 : decode cX12_isAccount 1 = .ok (.i2l, 1) := by decide +kernel
theorem dX12_isAccount_2 : decode cX12_isAccount 2 = .ok (.lconst 0, 1) := by decide +kernel
theorem dX12_isAccount_3 : decode cX12_isAccount 3 = .ok (.ldc2_w 77, 3) := by decide +kernel
theorem dX12_isAccount_6 : decode cX12_isAccount 6 = .ok (.invokestatic 79, 3) := by decide +kernel
theorem dX12_isAccount_9 : decode cX12_isAccount 9 = .ok (.ireturn, 1) := by decide +kernel
theorem dX12_isJob_0 : decode cX12_isJob 0 = .ok (.iload_n 1, 1) := by decide +kernel
theorem dX12_isJob_1 : decode cX12_isJob 1 = .ok (.i2l, 1) := by decide +kernel
theorem dX12_isJob_2 : decode cX12_isJob 2 = .ok (.lconst 0, 1) := by decide +kernel
theorem dX12_isJob_3 : decode cX12_isJob 3 = .ok (.aload_n 0, 1) := by decide +kernel
theorem dX12_isJob_4 : decode cX12_isJob 4 = .ok (.getfield 9, 3) := by decide +kernel
theorem dX12_isJob_7 : decode cX12_isJob 7 = .ok (.iconst 1, 1) := by decide +kernel
theorem dX12_isJob_8 : decode cX12_isJob 8 = .ok (.iaload, 1) := by decide +kernel
theorem dX12_isJob_9 : decode cX12_isJob 9 = .ok (.iconst 1, 1) := by decide +kernel
theorem dX12_isJob_10 : decode cX12_isJob 10 = .ok (.isub, 1) := by decide +kernel
theorem dX12_isJob_11 : decode cX12_isJob 11 = .ok (.i2l, 1) := by decide +kernel
theorem dX12_isJob_12 : decode cX12_isJob 12 = .ok (.invokestatic 79, 3) := by decide +kernel
theorem dX12_isJob_15 : decode cX12_isJob 15 = .ok (.ireturn, 1) := by decide +kernel
theorem dX12_at_0 : decode cX12_at 0 = .ok (.aload_n 0, 1) := by decide +kernel
theorem dX12_at_1 : decode cX12_at 1 = .ok (.getfield 9, 3) := by decide +kernel
theorem dX12_at_4 : decode cX12_at 4 = .ok (.bipush 96, 2) := by decide +kernel
theorem dX12_at_6 : decode cX12_at 6 = .ok (.iload_n 1, 1) := by decide +kernel
theorem dX12_at_7 : decode cX12_at 7 = .ok (.bipush 32, 2) := by decide +kernel
theorem dX12_at_9 : decode cX12_at 9 = .ok (.imul, 1) := by decide +kernel
theorem dX12_at_10 : decode cX12_at 10 = .ok (.iadd, 1) := by decide +kernel
theorem dX12_at_11 : decode cX12_at 11 = .ok (.iload_n 2, 1) := by decide +kernel
theorem dX12_at_12 : decode cX12_at 12 = .ok (.iadd, 1) := by decide +kernel
theorem dX12_at_13 : decode cX12_at 13 = .ok (.iaload, 1) := by decide +kernel
theorem dX12_at_14 : decode cX12_at 14 = .ok (.ireturn, 1) := by decide +kernel
theorem dX12_sets_0 : decode cX12_sets 0 = .ok (.aload_n 0, 1) := by decide +kernel
theorem dX12_sets_1 : decode cX12_sets 1 = .ok (.getfield 9, 3) := by decide +kernel
theorem dX12_sets_4 : decode cX12_sets 4 = .ok (.bipush 96, 2) := by decide +kernel
theorem dX12_sets_6 : decode cX12_sets 6 = .ok (.iload_n 1, 1) := by decide +kernel
theorem dX12_sets_7 : decode cX12_sets 7 = .ok (.bipush 32, 2) := by decide +kernel
theorem dX12_sets_9 : decode cX12_sets 9 = .ok (.imul, 1) := by decide +kernel
theorem dX12_sets_10 : decode cX12_sets 10 = .ok (.iadd, 1) := by decide +kernel
theorem dX12_sets_11 : decode cX12_sets 11 = .ok (.iload_n 2, 1) := by decide +kernel
theorem dX12_sets_12 : decode cX12_sets 12 = .ok (.iadd, 1) := by decide +kernel
theorem dX12_sets_13 : decode cX12_sets 13 = .ok (.iload_n 3, 1) := by decide +kernel
theorem dX12_sets_14 : decode cX12_sets 14 = .ok (.iastore, 1) := by decide +kernel
theorem dX12_sets_15 : decode cX12_sets 15 = .ok (.return_, 1) := by decide +kernel
theorem dX12_isWaiting_0 : decode cX12_isWaiting 0 = .ok (.aload_n 0, 1) := by decide +kernel
theorem dX12_isWaiting_1 : decode cX12_isWaiting 1 = .ok (.iload_n 1, 1) := by decide +kernel
theorem dX12_isWaiting_2 : decode cX12_isWaiting 2 = .ok (.iconst 5, 1) := by decide +kernel
theorem dX12_isWaiting_3 : decode cX12_isWaiting 3 = .ok (.invokevirtual 83, 3) := by decide +kernel
theorem dX12_isWaiting_6 : decode cX12_isWaiting 6 = .ok (.ifCond .ne 7, 3) := by decide +kernel
theorem dX12_isWaiting_9 : decode cX12_isWaiting 9 = .ok (.iconst 1, 1) := by decide +kernel
theorem dX12_isWaiting_10 : decode cX12_isWaiting 10 = .ok (.goto 4, 3) := by decide +kernel
theorem dX12_isWaiting_13 : decode cX12_isWaiting 13 = .ok (.iconst 0, 1) := by decide +kernel
theorem dX12_isWaiting_14 : decode cX12_isWaiting 14 = .ok (.ireturn, 1) := by decide +kernel
theorem dX12_told_0 : decode cX12_told 0 = .ok (.iload_n 0, 1) := by decide +kernel
theorem dX12_told_1 : decode cX12_told 1 = .ok (.ifCond .ge 8, 3) := by decide +kernel
theorem dX12_told_4 : decode cX12_told 4 = .ok (.bipush (-2), 2) := by decide +kernel
theorem dX12_told_6 : decode cX12_told 6 = .ok (.goto 4, 3) := by decide +kernel
theorem dX12_told_9 : decode cX12_told 9 = .ok (.iload_n 0, 1) := by decide +kernel
theorem dX12_told_10 : decode cX12_told 10 = .ok (.ireturn, 1) := by decide +kernel
theorem dX12_lasts_0 : decode cX12_lasts 0 = .ok (.iconst 1, 1) := by decide +kernel
theorem dX12_lasts_1 : decode cX12_lasts 1 = .ok (.aload_n 0, 1) := by decide +kernel
theorem dX12_lasts_2 : decode cX12_lasts 2 = .ok (.iload_n 1, 1) := by decide +kernel
theorem dX12_lasts_3 : decode cX12_lasts 3 = .ok (.bipush 16, 2) := by decide +kernel
theorem dX12_lasts_5 : decode cX12_lasts 5 = .ok (.iload_n 2, 1) := by decide +kernel
theorem dX12_lasts_6 : decode cX12_lasts 6 = .ok (.iadd, 1) := by decide +kernel
theorem dX12_lasts_7 : decode cX12_lasts 7 = .ok (.invokevirtual 83, 3) := by decide +kernel
theorem dX12_lasts_10 : decode cX12_lasts 10 = .ok (.aload_n 0, 1) := by decide +kernel
theorem dX12_lasts_11 : decode cX12_lasts 11 = .ok (.iload_n 1, 1) := by decide +kernel
theorem dX12_lasts_12 : decode cX12_lasts 12 = .ok (.iconst 2, 1) := by decide +kernel
theorem dX12_lasts_13 : decode cX12_lasts 13 = .ok (.invokevirtual 83, 3) := by decide +kernel
theorem dX12_lasts_16 : decode cX12_lasts 16 = .ok (.imul, 1) := by decide +kernel
theorem dX12_lasts_17 : decode cX12_lasts 17 = .ok (.bipush 100, 2) := by decide +kernel
theorem dX12_lasts_19 : decode cX12_lasts 19 = .ok (.idiv, 1) := by decide +kernel
theorem dX12_lasts_20 : decode cX12_lasts 20 = .ok (.invokestatic 87, 3) := by decide +kernel
theorem dX12_lasts_23 : decode cX12_lasts 23 = .ok (.ireturn, 1) := by decide +kernel
theorem dX12_holds_0 : decode cX12_holds 0 = .ok (.aload_n 0, 1) := by decide +kernel
theorem dX12_holds_1 : decode cX12_holds 1 = .ok (.iload_n 1, 1) := by decide +kernel
theorem dX12_holds_2 : decode cX12_holds 2 = .ok (.iconst 5, 1) := by decide +kernel
theorem dX12_holds_3 : decode cX12_holds 3 = .ok (.invokevirtual 83, 3) := by decide +kernel
theorem dX12_holds_6 : decode cX12_holds 6 = .ok (.iconst 1, 1) := by decide +kernel
theorem dX12_holds_7 : decode cX12_holds 7 = .ok (.if_icmp .ne 25, 3) := by decide +kernel
theorem dX12_holds_10 : decode cX12_holds 10 = .ok (.aload_n 0, 1) := by decide +kernel
theorem dX12_holds_11 : decode cX12_holds 11 = .ok (.iload_n 1, 1) := by decide +kernel
theorem dX12_holds_12 : decode cX12_holds 12 = .ok (.bipush 24, 2) := by decide +kernel
theorem dX12_holds_14 : decode cX12_holds 14 = .ok (.iload_n 2, 1) := by decide +kernel
theorem dX12_holds_15 : decode cX12_holds 15 = .ok (.iadd, 1) := by decide +kernel
theorem dX12_holds_16 : decode cX12_holds 16 = .ok (.invokevirtual 83, 3) := by decide +kernel
theorem dX12_holds_19 : decode cX12_holds 19 = .ok (.aload_n 0, 1) := by decide +kernel
theorem dX12_holds_20 : decode cX12_holds 20 = .ok (.getfield 9, 3) := by decide +kernel
theorem dX12_holds_23 : decode cX12_holds 23 = .ok (.iconst 0, 1) := by decide +kernel
theorem dX12_holds_24 : decode cX12_holds 24 = .ok (.iaload, 1) := by decide +kernel
theorem dX12_holds_25 : decode cX12_holds 25 = .ok (.if_icmp .le 7, 3) := by decide +kernel
theorem dX12_holds_28 : decode cX12_holds 28 = .ok (.iconst 1, 1) := by decide +kernel
theorem dX12_holds_29 : decode cX12_holds 29 = .ok (.goto 4, 3) := by decide +kernel
theorem dX12_holds_32 : decode cX12_holds 32 = .ok (.iconst 0, 1) := by decide +kernel
theorem dX12_holds_33 : decode cX12_holds 33 = .ok (.ireturn, 1) := by decide +kernel
theorem dX12_knownEnd_0 : decode cX12_knownEnd 0 = .ok (.aload_n 0, 1) := by decide +kernel
theorem dX12_knownEnd_1 : decode cX12_knownEnd 1 = .ok (.iload_n 1, 1) := by decide +kernel
theorem dX12_knownEnd_2 : decode cX12_knownEnd 2 = .ok (.bipush 6, 2) := by decide +kernel
theorem dX12_knownEnd_4 : decode cX12_knownEnd 4 = .ok (.invokevirtual 83, 3) := by decide +kernel
theorem dX12_knownEnd_7 : decode cX12_knownEnd 7 = .ok (.aload_n 0, 1) := by decide +kernel
theorem dX12_knownEnd_8 : decode cX12_knownEnd 8 = .ok (.iload_n 1, 1) := by decide +kernel
theorem dX12_knownEnd_9 : decode cX12_knownEnd 9 = .ok (.bipush 16, 2) := by decide +kernel
theorem dX12_knownEnd_11 : decode cX12_knownEnd 11 = .ok (.iload_n 2, 1) := by decide +kernel
theorem dX12_knownEnd_12 : decode cX12_knownEnd 12 = .ok (.iadd, 1) := by decide +kernel
theorem dX12_knownEnd_13 : decode cX12_knownEnd 13 = .ok (.invokevirtual 83, 3) := by decide +kernel
theorem dX12_knownEnd_16 : decode cX12_knownEnd 16 = .ok (.iadd, 1) := by decide +kernel
theorem dX12_knownEnd_17 : decode cX12_knownEnd 17 = .ok (.ireturn, 1) := by decide +kernel
theorem dX12_bits_0 : decode cX12_bits 0 = .ok (.iconst 1, 1) := by decide +kernel
theorem dX12_bits_1 : decode cX12_bits 1 = .ok (.iload_n 1, 1) := by decide +kernel
theorem dX12_bits_2 : decode cX12_bits 2 = .ok (.ishl, 1) := by decide +kernel
theorem dX12_bits_3 : decode cX12_bits 3 = .ok (.iconst 1, 1) := by decide +kernel
theorem dX12_bits_4 : decode cX12_bits 4 = .ok (.isub, 1) := by decide +kernel
theorem dX12_bits_5 : decode cX12_bits 5 = .ok (.iload_n 0, 1) := by decide +kernel
theorem dX12_bits_6 : decode cX12_bits 6 = .ok (.ishl, 1) := by decide +kernel
theorem dX12_bits_7 : decode cX12_bits 7 = .ok (.ireturn, 1) := by decide +kernel
theorem dX12_heldBits_0 : decode cX12_heldBits 0 = .ok (.aload_n 0, 1) := by decide +kernel
theorem dX12_heldBits_1 : decode cX12_heldBits 1 = .ok (.iload_n 1, 1) := by decide +kernel
theorem dX12_heldBits_2 : decode cX12_heldBits 2 = .ok (.bipush 20, 2) := by decide +kernel
theorem dX12_heldBits_4 : decode cX12_heldBits 4 = .ok (.iload_n 2, 1) := by decide +kernel
theorem dX12_heldBits_5 : decode cX12_heldBits 5 = .ok (.iadd, 1) := by decide +kernel
theorem dX12_heldBits_6 : decode cX12_heldBits 6 = .ok (.invokevirtual 83, 3) := by decide +kernel
theorem dX12_heldBits_9 : decode cX12_heldBits 9 = .ok (.aload_n 0, 1) := by decide +kernel
theorem dX12_heldBits_10 : decode cX12_heldBits 10 = .ok (.iload_n 1, 1) := by decide +kernel
theorem dX12_heldBits_11 : decode cX12_heldBits 11 = .ok (.bipush 12, 2) := by decide +kernel
theorem dX12_heldBits_13 : decode cX12_heldBits 13 = .ok (.iload_n 2, 1) := by decide +kernel
theorem dX12_heldBits_14 : decode cX12_heldBits 14 = .ok (.iadd, 1) := by decide +kernel
theorem dX12_heldBits_15 : decode cX12_heldBits 15 = .ok (.invokevirtual 83, 3) := by decide +kernel
theorem dX12_heldBits_18 : decode cX12_heldBits 18 = .ok (.invokestatic 92, 3) := by decide +kernel
theorem dX12_heldBits_21 : decode cX12_heldBits 21 = .ok (.ireturn, 1) := by decide +kernel
theorem dX12_promisedBits_0 : decode cX12_promisedBits 0 = .ok (.aload_n 0, 1) := by decide +kernel
theorem dX12_promisedBits_1 : decode cX12_promisedBits 1 = .ok (.iload_n 1, 1) := by decide +kernel
theorem dX12_promisedBits_2 : decode cX12_promisedBits 2 = .ok (.bipush 28, 2) := by decide +kernel
theorem dX12_promisedBits_4 : decode cX12_promisedBits 4 = .ok (.iload_n 2, 1) := by decide +kernel
theorem dX12_promisedBits_5 : decode cX12_promisedBits 5 = .ok (.iadd, 1) := by decide +kernel
theorem dX12_promisedBits_6 : decode cX12_promisedBits 6 = .ok (.invokevirtual 83, 3) := by decide +kernel
theorem dX12_promisedBits_9 : decode cX12_promisedBits 9 = .ok (.aload_n 0, 1) := by decide +kernel
theorem dX12_promisedBits_10 : decode cX12_promisedBits 10 = .ok (.iload_n 1, 1) := by decide +kernel
theorem dX12_promisedBits_11 : decode cX12_promisedBits 11 = .ok (.bipush 12, 2) := by decide +kernel
theorem dX12_promisedBits_13 : decode cX12_promisedBits 13 = .ok (.iload_n 2, 1) := by decide +kernel
theorem dX12_promisedBits_14 : decode cX12_promisedBits 14 = .ok (.iadd, 1) := by decide +kernel
theorem dX12_promisedBits_15 : decode cX12_promisedBits 15 = .ok (.invokevirtual 83, 3) := by decide +kernel
theorem dX12_promisedBits_18 : decode cX12_promisedBits 18 = .ok (.invokestatic 92, 3) := by decide +kernel
theorem dX12_promisedBits_21 : decode cX12_promisedBits 21 = .ok (.ireturn, 1) := by decide +kernel
theorem dX12_spanAt_0 : decode cX12_spanAt 0 = .ok (.aload_n 0, 1) := by decide +kernel
theorem dX12_spanAt_1 : decode cX12_spanAt 1 = .ok (.getfield 9, 3) := by decide +kernel
theorem dX12_spanAt_4 : decode cX12_spanAt 4 = .ok (.bipush 24, 2) := by decide +kernel
theorem dX12_spanAt_6 : decode cX12_spanAt 6 = .ok (.iload_n 1, 1) := by decide +kernel
theorem dX12_spanAt_7 : decode cX12_spanAt 7 = .ok (.bipush 6, 2) := by decide +kernel
theorem dX12_spanAt_9 : decode cX12_spanAt 9 = .ok (.imul, 1) := by decide +kernel
theorem dX12_spanAt_10 : decode cX12_spanAt 10 = .ok (.iadd, 1) := by decide +kernel
theorem dX12_spanAt_11 : decode cX12_spanAt 11 = .ok (.iload_n 2, 1) := by decide +kernel
theorem dX12_spanAt_12 : decode cX12_spanAt 12 = .ok (.iadd, 1) := by decide +kernel
theorem dX12_spanAt_13 : decode cX12_spanAt 13 = .ok (.iaload, 1) := by decide +kernel
theorem dX12_spanAt_14 : decode cX12_spanAt 14 = .ok (.ireturn, 1) := by decide +kernel
theorem dX12_isSpan_0 : decode cX12_isSpan 0 = .ok (.aload_n 0, 1) := by decide +kernel
theorem dX12_isSpan_1 : decode cX12_isSpan 1 = .ok (.iload_n 1, 1) := by decide +kernel
theorem dX12_isSpan_2 : decode cX12_isSpan 2 = .ok (.iconst 0, 1) := by decide +kernel
theorem dX12_isSpan_3 : decode cX12_isSpan 3 = .ok (.invokevirtual 95, 3) := by decide +kernel
theorem dX12_isSpan_6 : decode cX12_isSpan 6 = .ok (.ifCond .lt 7, 3) := by decide +kernel
theorem dX12_isSpan_9 : decode cX12_isSpan 9 = .ok (.iconst 1, 1) := by decide +kernel
theorem dX12_isSpan_10 : decode cX12_isSpan 10 = .ok (.goto 4, 3) := by decide +kernel
theorem dX12_isSpan_13 : decode cX12_isSpan 13 = .ok (.iconst 0, 1) := by decide +kernel
theorem dX12_isSpan_14 : decode cX12_isSpan 14 = .ok (.ireturn, 1) := by decide +kernel
theorem dX12_spanBits_0 : decode cX12_spanBits 0 = .ok (.aload_n 0, 1) := by decide +kernel
theorem dX12_spanBits_1 : decode cX12_spanBits 1 = .ok (.iload_n 1, 1) := by decide +kernel
theorem dX12_spanBits_2 : decode cX12_spanBits 2 = .ok (.iconst 1, 1) := by decide +kernel
theorem dX12_spanBits_3 : decode cX12_spanBits 3 = .ok (.invokevirtual 95, 3) := by decide +kernel
theorem dX12_spanBits_6 : decode cX12_spanBits 6 = .ok (.aload_n 0, 1) := by decide +kernel
theorem dX12_spanBits_7 : decode cX12_spanBits 7 = .ok (.iload_n 1, 1) := by decide +kernel
theorem dX12_spanBits_8 : decode cX12_spanBits 8 = .ok (.iconst 2, 1) := by decide +kernel
theorem dX12_spanBits_9 : decode cX12_spanBits 9 = .ok (.invokevirtual 95, 3) := by decide +kernel
theorem dX12_spanBits_12 : decode cX12_spanBits 12 = .ok (.aload_n 0, 1) := by decide +kernel
theorem dX12_spanBits_13 : decode cX12_spanBits 13 = .ok (.iload_n 1, 1) := by decide +kernel
theorem dX12_spanBits_14 : decode cX12_spanBits 14 = .ok (.iconst 1, 1) := by decide +kernel
theorem dX12_spanBits_15 : decode cX12_spanBits 15 = .ok (.invokevirtual 95, 3) := by decide +kernel
theorem dX12_spanBits_18 : decode cX12_spanBits 18 = .ok (.isub, 1) := by decide +kernel
theorem dX12_spanBits_19 : decode cX12_spanBits 19 = .ok (.iconst 1, 1) := by decide +kernel
theorem dX12_spanBits_20 : decode cX12_spanBits 20 = .ok (.iadd, 1) := by decide +kernel
theorem dX12_spanBits_21 : decode cX12_spanBits 21 = .ok (.invokestatic 92, 3) := by decide +kernel
theorem dX12_spanBits_24 : decode cX12_spanBits 24 = .ok (.ireturn, 1) := by decide +kernel
theorem dX12_busy_0 : decode cX12_busy 0 = .ok (.iconst 0, 1) := by decide +kernel
theorem dX12_busy_1 : decode cX12_busy 1 = .ok (.istore 6, 2) := by decide +kernel
theorem dX12_busy_3 : decode cX12_busy 3 = .ok (.iconst 0, 1) := by decide +kernel
theorem dX12_busy_4 : decode cX12_busy 4 = .ok (.istore 7, 2) := by decide +kernel
theorem dX12_busy_6 : decode cX12_busy 6 = .ok (.iload 7, 2) := by decide +kernel
theorem dX12_busy_8 : decode cX12_busy 8 = .ok (.aload_n 0, 1) := by decide +kernel
theorem dX12_busy_9 : decode cX12_busy 9 = .ok (.getfield 9, 3) := by decide +kernel
theorem dX12_busy_12 : decode cX12_busy 12 = .ok (.iconst 1, 1) := by decide +kernel
theorem dX12_busy_13 : decode cX12_busy 13 = .ok (.iaload, 1) := by decide +kernel
theorem dX12_busy_14 : decode cX12_busy 14 = .ok (.if_icmp .ge 170, 3) := by decide +kernel
theorem dX12_busy_17 : decode cX12_busy 17 = .ok (.aload_n 0, 1) := by decide +kernel
theorem dX12_busy_18 : decode cX12_busy 18 = .ok (.iload 7, 2) := by decide +kernel
theorem dX12_busy_20 : decode cX12_busy 20 = .ok (.bipush 9, 2) := by decide +kernel
theorem dX12_busy_22 : decode cX12_busy 22 = .ok (.invokevirtual 83, 3) := by decide +kernel
theorem dX12_busy_25 : decode cX12_busy 25 = .ok (.istore 8, 2) := by decide +kernel
theorem dX12_busy_27 : decode cX12_busy 27 = .ok (.iconst 0, 1) := by decide +kernel
theorem dX12_busy_28 : decode cX12_busy 28 = .ok (.istore 9, 2) := by decide +kernel
theorem dX12_busy_30 : decode cX12_busy 30 = .ok (.iload 9, 2) := by decide +kernel
theorem dX12_busy_32 : decode cX12_busy 32 = .ok (.aload_n 0, 1) := by decide +kernel
theorem dX12_busy_33 : decode cX12_busy 33 = .ok (.iload 7, 2) := by decide +kernel
theorem dX12_busy_35 : decode cX12_busy 35 = .ok (.iconst 4, 1) := by decide +kernel
theorem dX12_busy_36 : decode cX12_busy 36 = .ok (.invokevirtual 83, 3) := by decide +kernel
theorem dX12_busy_39 : decode cX12_busy 39 = .ok (.if_icmp .ge 139, 3) := by decide +kernel
theorem dX12_busy_42 : decode cX12_busy 42 = .ok (.aload_n 0, 1) := by decide +kernel
theorem dX12_busy_43 : decode cX12_busy 43 = .ok (.iload 7, 2) := by decide +kernel
theorem dX12_busy_45 : decode cX12_busy 45 = .ok (.iload 9, 2) := by decide +kernel
theorem dX12_busy_47 : decode cX12_busy 47 = .ok (.invokevirtual 98, 3) := by decide +kernel
theorem dX12_busy_50 : decode cX12_busy 50 = .ok (.ifCond .eq 58, 3) := by decide +kernel
theorem dX12_busy_53 : decode cX12_busy 53 = .ok (.lload_n 1, 1) := by decide +kernel
theorem dX12_busy_54 : decode cX12_busy 54 = .ok (.aload_n 0, 1) := by decide +kernel
theorem dX12_busy_55 : decode cX12_busy 55 = .ok (.iload 7, 2) := by decide +kernel
theorem dX12_busy_57 : decode cX12_busy 57 = .ok (.iload 9, 2) := by decide +kernel
theorem dX12_busy_59 : decode cX12_busy 59 = .ok (.invokevirtual 102, 3) := by decide +kernel
theorem dX12_busy_62 : decode cX12_busy 62 = .ok (.i2l, 1) := by decide +kernel
theorem dX12_busy_63 : decode cX12_busy 63 = .ok (.lcmp, 1) := by decide +kernel
theorem dX12_busy_64 : decode cX12_busy 64 = .ok (.ifCond .ge 44, 3) := by decide +kernel
theorem dX12_busy_67 : decode cX12_busy 67 = .ok (.iconst 4, 1) := by decide +kernel
theorem dX12_busy_68 : decode cX12_busy 68 = .ok (.iload 7, 2) := by decide +kernel
theorem dX12_busy_70 : decode cX12_busy 70 = .ok (.imul, 1) := by decide +kernel
theorem dX12_busy_71 : decode cX12_busy 71 = .ok (.iload 9, 2) := by decide +kernel
theorem dX12_busy_73 : decode cX12_busy 73 = .ok (.iadd, 1) := by decide +kernel
theorem dX12_busy_74 : decode cX12_busy 74 = .ok (.aload_n 0, 1) := by decide +kernel
theorem dX12_busy_75 : decode cX12_busy 75 = .ok (.getfield 49, 3) := by decide +kernel
theorem dX12_busy_78 : decode cX12_busy 78 = .ok (.if_icmp .eq 30, 3) := by decide +kernel
theorem dX12_busy_81 : decode cX12_busy 81 = .ok (.iconst 4, 1) := by decide +kernel
theorem dX12_busy_82 : decode cX12_busy 82 = .ok (.iload 7, 2) := by decide +kernel
theorem dX12_busy_84 : decode cX12_busy 84 = .ok (.imul, 1) := by decide +kernel
theorem dX12_busy_85 : decode cX12_busy 85 = .ok (.iload 9, 2) := by decide +kernel
theorem dX12_busy_87 : decode cX12_busy 87 = .ok (.iadd, 1) := by decide +kernel
theorem dX12_busy_88 : decode cX12_busy 88 = .ok (.aload_n 0, 1) := by decide +kernel
theorem dX12_busy_89 : decode cX12_busy 89 = .ok (.getfield 52, 3) := by decide +kernel
theorem dX12_busy_92 : decode cX12_busy 92 = .ok (.if_icmp .eq 16, 3) := by decide +kernel
theorem dX12_busy_95 : decode cX12_busy 95 = .ok (.iload 6, 2) := by decide +kernel
theorem dX12_busy_97 : decode cX12_busy 97 = .ok (.aload_n 0, 1) := by decide +kernel
theorem dX12_busy_98 : decode cX12_busy 98 = .ok (.iload 7, 2) := by decide +kernel
theorem dX12_busy_100 : decode cX12_busy 100 = .ok (.iload 9, 2) := by decide +kernel
theorem dX12_busy_102 : decode cX12_busy 102 = .ok (.invokevirtual 105, 3) := by decide +kernel
theorem dX12_busy_105 : decode cX12_busy 105 = .ok (.ior, 1) := by decide +kernel
theorem dX12_busy_106 : decode cX12_busy 106 = .ok (.istore 6, 2) := by decide +kernel
theorem dX12_busy_108 : decode cX12_busy 108 = .ok (.iload 8, 2) := by decide +kernel
theorem dX12_busy_110 : decode cX12_busy 110 = .ok (.ifCond .lt 62, 3) := by decide +kernel
theorem dX12_busy_113 : decode cX12_busy 113 = .ok (.iload 7, 2) := by decide +kernel
theorem dX12_busy_115 : decode cX12_busy 115 = .ok (.aload_n 0, 1) := by decide +kernel
theorem dX12_busy_116 : decode cX12_busy 116 = .ok (.getfield 42, 3) := by decide +kernel
theorem dX12_busy_119 : decode cX12_busy 119 = .ok (.if_icmp .eq 53, 3) := by decide +kernel
theorem dX12_busy_122 : decode cX12_busy 122 = .ok (.iload 7, 2) := by decide +kernel
theorem dX12_busy_124 : decode cX12_busy 124 = .ok (.aload_n 0, 1) := by decide +kernel
theorem dX12_busy_125 : decode cX12_busy 125 = .ok (.getfield 46, 3) := by decide +kernel
theorem dX12_busy_128 : decode cX12_busy 128 = .ok (.if_icmp .eq 44, 3) := by decide +kernel
theorem dX12_busy_131 : decode cX12_busy 131 = .ok (.lload_n 1, 1) := by decide +kernel
theorem dX12_busy_132 : decode cX12_busy 132 = .ok (.iload 8, 2) := by decide +kernel
theorem dX12_busy_134 : decode cX12_busy 134 = .ok (.aload_n 0, 1) := by decide +kernel
theorem dX12_busy_135 : decode cX12_busy 135 = .ok (.iload 7, 2) := by decide +kernel
theorem dX12_busy_137 : decode cX12_busy 137 = .ok (.bipush 16, 2) := by decide +kernel
theorem dX12_busy_139 : decode cX12_busy 139 = .ok (.iload 9, 2) := by decide +kernel
theorem dX12_busy_141 : decode cX12_busy 141 = .ok (.iadd, 1) := by decide +kernel
theorem dX12_busy_142 : decode cX12_busy 142 = .ok (.invokevirtual 83, 3) := by decide +kernel
theorem dX12_busy_145 : decode cX12_busy 145 = .ok (.iadd, 1) := by decide +kernel
theorem dX12_busy_146 : decode cX12_busy 146 = .ok (.i2l, 1) := by decide +kernel
theorem dX12_busy_147 : decode cX12_busy 147 = .ok (.lcmp, 1) := by decide +kernel
theorem dX12_busy_148 : decode cX12_busy 148 = .ok (.ifCond .ge 24, 3) := by decide +kernel
theorem dX12_busy_151 : decode cX12_busy 151 = .ok (.lload_n 3, 1) := by decide +kernel
theorem dX12_busy_152 : decode cX12_busy 152 = .ok (.iload 8, 2) := by decide +kernel
theorem dX12_busy_154 : decode cX12_busy 154 = .ok (.i2l, 1) := by decide +kernel
theorem dX12_busy_155 : decode cX12_busy 155 = .ok (.lcmp, 1) := by decide +kernel
theorem dX12_busy_156 : decode cX12_busy 156 = .ok (.ifCond .le 16, 3) := by decide +kernel
theorem dX12_busy_159 : decode cX12_busy 159 = .ok (.iload 6, 2) := by decide +kernel
theorem dX12_busy_161 : decode cX12_busy 161 = .ok (.aload_n 0, 1) := by decide +kernel
theorem dX12_busy_162 : decode cX12_busy 162 = .ok (.iload 7, 2) := by decide +kernel
theorem dX12_busy_164 : decode cX12_busy 164 = .ok (.iload 9, 2) := by decide +kernel
theorem dX12_busy_166 : decode cX12_busy 166 = .ok (.invokevirtual 108, 3) := by decide +kernel
theorem dX12_busy_169 : decode cX12_busy 169 = .ok (.ior, 1) := by decide +kernel
theorem dX12_busy_170 : decode cX12_busy 170 = .ok (.istore 6, 2) := by decide +kernel
theorem dX12_busy_172 : decode cX12_busy 172 = .ok (.iinc 9 1, 3) := by decide +kernel
theorem dX12_busy_175 : decode cX12_busy 175 = .ok (.goto (-145), 3) := by decide +kernel
theorem dX12_busy_178 : decode cX12_busy 178 = .ok (.iinc 7 1, 3) := by decide +kernel
theorem dX12_busy_181 : decode cX12_busy 181 = .ok (.goto (-175), 3) := by decide +kernel
theorem dX12_busy_184 : decode cX12_busy 184 = .ok (.iconst 0, 1) := by decide +kernel
theorem dX12_busy_185 : decode cX12_busy 185 = .ok (.istore 7, 2) := by decide +kernel
theorem dX12_busy_187 : decode cX12_busy 187 = .ok (.iload 7, 2) := by decide +kernel
theorem dX12_busy_189 : decode cX12_busy 189 = .ok (.bipush 12, 2) := by decide +kernel
theorem dX12_busy_191 : decode cX12_busy 191 = .ok (.if_icmp .ge 67, 3) := by decide +kernel
theorem dX12_busy_194 : decode cX12_busy 194 = .ok (.aload_n 0, 1) := by decide +kernel
theorem dX12_busy_195 : decode cX12_busy 195 = .ok (.iload 7, 2) := by decide +kernel
theorem dX12_busy_197 : decode cX12_busy 197 = .ok (.invokevirtual 111, 3) := by decide +kernel
theorem dX12_busy_200 : decode cX12_busy 200 = .ok (.ifCond .eq 52, 3) := by decide +kernel
theorem dX12_busy_203 : decode cX12_busy 203 = .ok (.aload_n 0, 1) := by decide +kernel
theorem dX12_busy_204 : decode cX12_busy 204 = .ok (.iload 7, 2) := by decide +kernel
theorem dX12_busy_206 : decode cX12_busy 206 = .ok (.iconst 5, 1) := by decide +kernel
theorem dX12_busy_207 : decode cX12_busy 207 = .ok (.invokevirtual 95, 3) := by decide +kernel
theorem dX12_busy_210 : decode cX12_busy 210 = .ok (.iload 5, 2) := by decide +kernel
theorem dX12_busy_212 : decode cX12_busy 212 = .ok (.if_icmp .eq 40, 3) := by decide +kernel
theorem dX12_busy_215 : decode cX12_busy 215 = .ok (.lload_n 1, 1) := by decide +kernel
theorem dX12_busy_216 : decode cX12_busy 216 = .ok (.aload_n 0, 1) := by decide +kernel
theorem dX12_busy_217 : decode cX12_busy 217 = .ok (.iload 7, 2) := by decide +kernel
theorem dX12_busy_219 : decode cX12_busy 219 = .ok (.iconst 4, 1) := by decide +kernel
theorem dX12_busy_220 : decode cX12_busy 220 = .ok (.invokevirtual 95, 3) := by decide +kernel
theorem dX12_busy_223 : decode cX12_busy 223 = .ok (.i2l, 1) := by decide +kernel
theorem dX12_busy_224 : decode cX12_busy 224 = .ok (.lcmp, 1) := by decide +kernel
theorem dX12_busy_225 : decode cX12_busy 225 = .ok (.ifCond .ge 27, 3) := by decide +kernel
theorem dX12_busy_228 : decode cX12_busy 228 = .ok (.lload_n 3, 1) := by decide +kernel
theorem dX12_busy_229 : decode cX12_busy 229 = .ok (.aload_n 0, 1) := by decide +kernel
theorem dX12_busy_230 : decode cX12_busy 230 = .ok (.iload 7, 2) := by decide +kernel
theorem dX12_busy_232 : decode cX12_busy 232 = .ok (.iconst 3, 1) := by decide +kernel
theorem dX12_busy_233 : decode cX12_busy 233 = .ok (.invokevirtual 95, 3) := by decide +kernel
theorem dX12_busy_236 : decode cX12_busy 236 = .ok (.i2l, 1) := by decide +kernel
theorem dX12_busy_237 : decode cX12_busy 237 = .ok (.lcmp, 1) := by decide +kernel
theorem dX12_busy_238 : decode cX12_busy 238 = .ok (.ifCond .le 14, 3) := by decide +kernel
theorem dX12_busy_241 : decode cX12_busy 241 = .ok (.iload 6, 2) := by decide +kernel
theorem dX12_busy_243 : decode cX12_busy 243 = .ok (.aload_n 0, 1) := by decide +kernel
theorem dX12_busy_244 : decode cX12_busy 244 = .ok (.iload 7, 2) := by decide +kernel
theorem dX12_busy_246 : decode cX12_busy 246 = .ok (.invokevirtual 115, 3) := by decide +kernel
theorem dX12_busy_249 : decode cX12_busy 249 = .ok (.ior, 1) := by decide +kernel
theorem dX12_busy_250 : decode cX12_busy 250 = .ok (.istore 6, 2) := by decide +kernel
theorem dX12_busy_252 : decode cX12_busy 252 = .ok (.iinc 7 1, 3) := by decide +kernel
theorem dX12_busy_255 : decode cX12_busy 255 = .ok (.goto (-68), 3) := by decide +kernel
theorem dX12_busy_258 : decode cX12_busy 258 = .ok (.iconst 0, 1) := by decide +kernel
theorem dX12_busy_259 : decode cX12_busy 259 = .ok (.istore 7, 2) := by decide +kernel
theorem dX12_busy_261 : decode cX12_busy 261 = .ok (.iload 7, 2) := by decide +kernel
theorem dX12_busy_263 : decode cX12_busy 263 = .ok (.aload_n 0, 1) := by decide +kernel
theorem dX12_busy_264 : decode cX12_busy 264 = .ok (.getfield 119, 3) := by decide +kernel
theorem dX12_busy_267 : decode cX12_busy 267 = .ok (.if_icmp .ge 38, 3) := by decide +kernel
theorem dX12_busy_270 : decode cX12_busy 270 = .ok (.iload 6, 2) := by decide +kernel
theorem dX12_busy_272 : decode cX12_busy 272 = .ok (.lload_n 1, 1) := by decide +kernel
theorem dX12_busy_273 : decode cX12_busy 273 = .ok (.aload_n 0, 1) := by decide +kernel
theorem dX12_busy_274 : decode cX12_busy 274 = .ok (.getfield 58, 3) := by decide +kernel
theorem dX12_busy_277 : decode cX12_busy 277 = .ok (.iload 7, 2) := by decide +kernel
theorem dX12_busy_279 : decode cX12_busy 279 = .ok (.iaload, 1) := by decide +kernel
theorem dX12_busy_280 : decode cX12_busy 280 = .ok (.i2l, 1) := by decide +kernel
theorem dX12_busy_281 : decode cX12_busy 281 = .ok (.lcmp, 1) := by decide +kernel
theorem dX12_busy_282 : decode cX12_busy 282 = .ok (.ifCond .ge 13, 3) := by decide +kernel
theorem dX12_busy_285 : decode cX12_busy 285 = .ok (.aload_n 0, 1) := by decide +kernel
theorem dX12_busy_286 : decode cX12_busy 286 = .ok (.getfield 55, 3) := by decide +kernel
theorem dX12_busy_289 : decode cX12_busy 289 = .ok (.iload 7, 2) := by decide +kernel
theorem dX12_busy_291 : decode cX12_busy 291 = .ok (.iaload, 1) := by decide +kernel
theorem dX12_busy_292 : decode cX12_busy 292 = .ok (.goto 4, 3) := by decide +kernel
theorem dX12_busy_295 : decode cX12_busy 295 = .ok (.iconst 0, 1) := by decide +kernel
theorem dX12_busy_296 : decode cX12_busy 296 = .ok (.ior, 1) := by decide +kernel
theorem dX12_busy_297 : decode cX12_busy 297 = .ok (.istore 6, 2) := by decide +kernel
theorem dX12_busy_299 : decode cX12_busy 299 = .ok (.iinc 7 1, 3) := by decide +kernel
theorem dX12_busy_302 : decode cX12_busy 302 = .ok (.goto (-41), 3) := by decide +kernel
theorem dX12_busy_305 : decode cX12_busy 305 = .ok (.iload 6, 2) := by decide +kernel
theorem dX12_busy_307 : decode cX12_busy 307 = .ok (.ireturn, 1) := by decide +kernel
theorem dX12_place_0 : decode cX12_place 0 = .ok (.iconst (-1), 1) := by decide +kernel
theorem dX12_place_1 : decode cX12_place 1 = .ok (.istore_n 2, 1) := by decide +kernel
theorem dX12_place_2 : decode cX12_place 2 = .ok (.bipush 17, 2) := by decide +kernel
theorem dX12_place_4 : decode cX12_place 4 = .ok (.istore_n 3, 1) := by decide +kernel
theorem dX12_place_5 : decode cX12_place 5 = .ok (.iconst 0, 1) := by decide +kernel
theorem dX12_place_6 : decode cX12_place 6 = .ok (.istore 4, 2) := by decide +kernel
theorem dX12_place_8 : decode cX12_place 8 = .ok (.iconst 0, 1) := by decide +kernel
theorem dX12_place_9 : decode cX12_place 9 = .ok (.istore 5, 2) := by decide +kernel
theorem dX12_place_11 : decode cX12_place 11 = .ok (.iload 5, 2) := by decide +kernel
theorem dX12_place_13 : decode cX12_place 13 = .ok (.bipush 16, 2) := by decide +kernel
theorem dX12_place_15 : decode cX12_place 15 = .ok (.if_icmp .gt 55, 3) := by decide +kernel
theorem dX12_place_18 : decode cX12_place 18 = .ok (.iload 5, 2) := by decide +kernel
theorem dX12_place_20 : decode cX12_place 20 = .ok (.bipush 16, 2) := by decide +kernel
theorem dX12_place_22 : decode cX12_place 22 = .ok (.if_icmp .ge 18, 3) := by decide +kernel
theorem dX12_place_25 : decode cX12_place 25 = .ok (.iload_n 0, 1) := by decide +kernel
theorem dX12_place_26 : decode cX12_place 26 = .ok (.iload 5, 2) := by decide +kernel
theorem dX12_place_28 : decode cX12_place 28 = .ok (.ishr, 1) := by decide +kernel
theorem dX12_place_29 : decode cX12_place 29 = .ok (.iconst 1, 1) := by decide +kernel
theorem dX12_place_30 : decode cX12_place 30 = .ok (.iand, 1) := by decide +kernel
theorem dX12_place_31 : decode cX12_place 31 = .ok (.ifCond .ne 9, 3) := by decide +kernel
theorem dX12_place_34 : decode cX12_place 34 = .ok (.iinc 4 1, 3) := by decide +kernel
theorem dX12_place_37 : decode cX12_place 37 = .ok (.goto 27, 3) := by decide +kernel
theorem dX12_place_40 : decode cX12_place 40 = .ok (.iload 4, 2) := by decide +kernel
theorem dX12_place_42 : decode cX12_place 42 = .ok (.iload_n 1, 1) := by decide +kernel
theorem dX12_place_43 : decode cX12_place 43 = .ok (.if_icmp .lt 18, 3) := by decide +kernel
theorem dX12_place_46 : decode cX12_place 46 = .ok (.iload 4, 2) := by decide +kernel
theorem dX12_place_48 : decode cX12_place 48 = .ok (.iload_n 3, 1) := by decide +kernel
theorem dX12_place_49 : decode cX12_place 49 = .ok (.if_icmp .ge 12, 3) := by decide +kernel
theorem dX12_place_52 : decode cX12_place 52 = .ok (.iload 5, 2) := by decide +kernel
theorem dX12_place_54 : decode cX12_place 54 = .ok (.iload 4, 2) := by decide +kernel
theorem dX12_place_56 : decode cX12_place 56 = .ok (.isub, 1) := by decide +kernel
theorem dX12_place_57 : decode cX12_place 57 = .ok (.istore_n 2, 1) := by decide +kernel
theorem dX12_place_58 : decode cX12_place 58 = .ok (.iload 4, 2) := by decide +kernel
theorem dX12_place_60 : decode cX12_place 60 = .ok (.istore_n 3, 1) := by decide +kernel
theorem dX12_place_61 : decode cX12_place 61 = .ok (.iconst 0, 1) := by decide +kernel
theorem dX12_place_62 : decode cX12_place 62 = .ok (.istore 4, 2) := by decide +kernel
theorem dX12_place_64 : decode cX12_place 64 = .ok (.iinc 5 1, 3) := by decide +kernel
theorem dX12_place_67 : decode cX12_place 67 = .ok (.goto (-56), 3) := by decide +kernel
theorem dX12_place_70 : decode cX12_place 70 = .ok (.iload_n 2, 1) := by decide +kernel
theorem dX12_place_71 : decode cX12_place 71 = .ok (.ireturn, 1) := by decide +kernel
theorem dX12_fits_0 : decode cX12_fits 0 = .ok (.iconst 0, 1) := by decide +kernel
theorem dX12_fits_1 : decode cX12_fits 1 = .ok (.istore_n 2, 1) := by decide +kernel
theorem dX12_fits_2 : decode cX12_fits 2 = .ok (.iconst 0, 1) := by decide +kernel
theorem dX12_fits_3 : decode cX12_fits 3 = .ok (.istore_n 3, 1) := by decide +kernel
theorem dX12_fits_4 : decode cX12_fits 4 = .ok (.iconst 0, 1) := by decide +kernel
theorem dX12_fits_5 : decode cX12_fits 5 = .ok (.istore 4, 2) := by decide +kernel
theorem dX12_fits_7 : decode cX12_fits 7 = .ok (.iload 4, 2) := by decide +kernel
theorem dX12_fits_9 : decode cX12_fits 9 = .ok (.aload_n 0, 1) := by decide +kernel
theorem dX12_fits_10 : decode cX12_fits 10 = .ok (.getfield 122, 3) := by decide +kernel
theorem dX12_fits_13 : decode cX12_fits 13 = .ok (.if_icmp .ge 138, 3) := by decide +kernel
theorem dX12_fits_16 : decode cX12_fits 16 = .ok (.iconst (-1), 1) := by decide +kernel
theorem dX12_fits_17 : decode cX12_fits 17 = .ok (.istore 5, 2) := by decide +kernel
theorem dX12_fits_19 : decode cX12_fits 19 = .ok (.iconst 0, 1) := by decide +kernel
theorem dX12_fits_20 : decode cX12_fits 20 = .ok (.istore 6, 2) := by decide +kernel
theorem dX12_fits_22 : decode cX12_fits 22 = .ok (.iload 6, 2) := by decide +kernel
theorem dX12_fits_24 : decode cX12_fits 24 = .ok (.aload_n 0, 1) := by decide +kernel
theorem dX12_fits_25 : decode cX12_fits 25 = .ok (.getfield 122, 3) := by decide +kernel
theorem dX12_fits_28 : decode cX12_fits 28 = .ok (.if_icmp .ge 44, 3) := by decide +kernel
theorem dX12_fits_31 : decode cX12_fits 31 = .ok (.iload_n 3, 1) := by decide +kernel
theorem dX12_fits_32 : decode cX12_fits 32 = .ok (.iload 6, 2) := by decide +kernel
theorem dX12_fits_34 : decode cX12_fits 34 = .ok (.ishr, 1) := by decide +kernel
theorem dX12_fits_35 : decode cX12_fits 35 = .ok (.iconst 1, 1) := by decide +kernel
theorem dX12_fits_36 : decode cX12_fits 36 = .ok (.iand, 1) := by decide +kernel
theorem dX12_fits_37 : decode cX12_fits 37 = .ok (.ifCond .ne 29, 3) := by decide +kernel
theorem dX12_fits_40 : decode cX12_fits 40 = .ok (.iload 5, 2) := by decide +kernel
theorem dX12_fits_42 : decode cX12_fits 42 = .ok (.ifCond .lt 20, 3) := by decide +kernel
theorem dX12_fits_45 : decode cX12_fits 45 = .ok (.aload_n 0, 1) := by decide +kernel
theorem dX12_fits_46 : decode cX12_fits 46 = .ok (.getfield 33, 3) := by decide +kernel
theorem dX12_fits_49 : decode cX12_fits 49 = .ok (.iload 6, 2) := by decide +kernel
theorem dX12_fits_51 : decode cX12_fits 51 = .ok (.iaload, 1) := by decide +kernel
theorem dX12_fits_52 : decode cX12_fits 52 = .ok (.aload_n 0, 1) := by decide +kernel
theorem dX12_fits_53 : decode cX12_fits 53 = .ok (.getfield 33, 3) := by decide +kernel
theorem dX12_fits_56 : decode cX12_fits 56 = .ok (.iload 5, 2) := by decide +kernel
theorem dX12_fits_58 : decode cX12_fits 58 = .ok (.iaload, 1) := by decide +kernel
theorem dX12_fits_59 : decode cX12_fits 59 = .ok (.if_icmp .le 7, 3) := by decide +kernel
theorem dX12_fits_62 : decode cX12_fits 62 = .ok (.iload 6, 2) := by decide +kernel
theorem dX12_fits_64 : decode cX12_fits 64 = .ok (.istore 5, 2) := by decide +kernel
theorem dX12_fits_66 : decode cX12_fits 66 = .ok (.iinc 6 1, 3) := by decide +kernel
theorem dX12_fits_69 : decode cX12_fits 69 = .ok (.goto (-47), 3) := by decide +kernel
theorem dX12_fits_72 : decode cX12_fits 72 = .ok (.aload_n 0, 1) := by decide +kernel
theorem dX12_fits_73 : decode cX12_fits 73 = .ok (.iload_n 1, 1) := by decide +kernel
theorem dX12_fits_74 : decode cX12_fits 74 = .ok (.i2l, 1) := by decide +kernel
theorem dX12_fits_75 : decode cX12_fits 75 = .ok (.iload_n 1, 1) := by decide +kernel
theorem dX12_fits_76 : decode cX12_fits 76 = .ok (.i2l, 1) := by decide +kernel
theorem dX12_fits_77 : decode cX12_fits 77 = .ok (.aload_n 0, 1) := by decide +kernel
theorem dX12_fits_78 : decode cX12_fits 78 = .ok (.getfield 36, 3) := by decide +kernel
theorem dX12_fits_81 : decode cX12_fits 81 = .ok (.iload 5, 2) := by decide +kernel
theorem dX12_fits_83 : decode cX12_fits 83 = .ok (.iaload, 1) := by decide +kernel
theorem dX12_fits_84 : decode cX12_fits 84 = .ok (.i2l, 1) := by decide +kernel
theorem dX12_fits_85 : decode cX12_fits 85 = .ok (.ladd, 1) := by decide +kernel
theorem dX12_fits_86 : decode cX12_fits 86 = .ok (.aload_n 0, 1) := by decide +kernel
theorem dX12_fits_87 : decode cX12_fits 87 = .ok (.getfield 125, 3) := by decide +kernel
theorem dX12_fits_90 : decode cX12_fits 90 = .ok (.invokevirtual 128, 3) := by decide +kernel
theorem dX12_fits_93 : decode cX12_fits 93 = .ok (.iload_n 2, 1) := by decide +kernel
theorem dX12_fits_94 : decode cX12_fits 94 = .ok (.ior, 1) := by decide +kernel
theorem dX12_fits_95 : decode cX12_fits 95 = .ok (.aload_n 0, 1) := by decide +kernel
theorem dX12_fits_96 : decode cX12_fits 96 = .ok (.getfield 33, 3) := by decide +kernel
theorem dX12_fits_99 : decode cX12_fits 99 = .ok (.iload 5, 2) := by decide +kernel
theorem dX12_fits_101 : decode cX12_fits 101 = .ok (.iaload, 1) := by decide +kernel
theorem dX12_fits_102 : decode cX12_fits 102 = .ok (.invokestatic 132, 3) := by decide +kernel
theorem dX12_fits_105 : decode cX12_fits 105 = .ok (.istore 6, 2) := by decide +kernel
theorem dX12_fits_107 : decode cX12_fits 107 = .ok (.iload 6, 2) := by decide +kernel
theorem dX12_fits_109 : decode cX12_fits 109 = .ok (.ifCond .ge 5, 3) := by decide +kernel
theorem dX12_fits_112 : decode cX12_fits 112 = .ok (.iconst 0, 1) := by decide +kernel
theorem dX12_fits_113 : decode cX12_fits 113 = .ok (.ireturn, 1) := by decide +kernel
theorem dX12_fits_114 : decode cX12_fits 114 = .ok (.aload_n 0, 1) := by decide +kernel
theorem dX12_fits_115 : decode cX12_fits 115 = .ok (.getfield 39, 3) := by decide +kernel
theorem dX12_fits_118 : decode cX12_fits 118 = .ok (.iload 5, 2) := by decide +kernel
theorem dX12_fits_120 : decode cX12_fits 120 = .ok (.iload 6, 2) := by decide +kernel
theorem dX12_fits_122 : decode cX12_fits 122 = .ok (.iastore, 1) := by decide +kernel
theorem dX12_fits_123 : decode cX12_fits 123 = .ok (.iload_n 2, 1) := by decide +kernel
theorem dX12_fits_124 : decode cX12_fits 124 = .ok (.iload 6, 2) := by decide +kernel
theorem dX12_fits_126 : decode cX12_fits 126 = .ok (.aload_n 0, 1) := by decide +kernel
theorem dX12_fits_127 : decode cX12_fits 127 = .ok (.getfield 33, 3) := by decide +kernel
theorem dX12_fits_130 : decode cX12_fits 130 = .ok (.iload 5, 2) := by decide +kernel
theorem dX12_fits_132 : decode cX12_fits 132 = .ok (.iaload, 1) := by decide +kernel
theorem dX12_fits_133 : decode cX12_fits 133 = .ok (.invokestatic 92, 3) := by decide +kernel
theorem dX12_fits_136 : decode cX12_fits 136 = .ok (.ior, 1) := by decide +kernel
theorem dX12_fits_137 : decode cX12_fits 137 = .ok (.istore_n 2, 1) := by decide +kernel
theorem dX12_fits_138 : decode cX12_fits 138 = .ok (.iload_n 3, 1) := by decide +kernel
theorem dX12_fits_139 : decode cX12_fits 139 = .ok (.iconst 1, 1) := by decide +kernel
theorem dX12_fits_140 : decode cX12_fits 140 = .ok (.iload 5, 2) := by decide +kernel
theorem dX12_fits_142 : decode cX12_fits 142 = .ok (.ishl, 1) := by decide +kernel
theorem dX12_fits_143 : decode cX12_fits 143 = .ok (.ior, 1) := by decide +kernel
theorem dX12_fits_144 : decode cX12_fits 144 = .ok (.istore_n 3, 1) := by decide +kernel
theorem dX12_fits_145 : decode cX12_fits 145 = .ok (.iinc 4 1, 3) := by decide +kernel
theorem dX12_fits_148 : decode cX12_fits 148 = .ok (.goto (-141), 3) := by decide +kernel
theorem dX12_fits_151 : decode cX12_fits 151 = .ok (.iconst 1, 1) := by decide +kernel
theorem dX12_fits_152 : decode cX12_fits 152 = .ok (.ireturn, 1) := by decide +kernel
theorem dX12_foundBits_0 : decode cX12_foundBits 0 = .ok (.iconst 0, 1) := by decide +kernel
theorem dX12_foundBits_1 : decode cX12_foundBits 1 = .ok (.istore_n 1, 1) := by decide +kernel
theorem dX12_foundBits_2 : decode cX12_foundBits 2 = .ok (.iconst 0, 1) := by decide +kernel
theorem dX12_foundBits_3 : decode cX12_foundBits 3 = .ok (.istore_n 2, 1) := by decide +kernel
theorem dX12_foundBits_4 : decode cX12_foundBits 4 = .ok (.iload_n 2, 1) := by decide +kernel
theorem dX12_foundBits_5 : decode cX12_foundBits 5 = .ok (.aload_n 0, 1) := by decide +kernel
theorem dX12_foundBits_6 : decode cX12_foundBits 6 = .ok (.getfield 122, 3) := by decide +kernel
theorem dX12_foundBits_9 : decode cX12_foundBits 9 = .ok (.if_icmp .ge 27, 3) := by decide +kernel
theorem dX12_foundBits_12 : decode cX12_foundBits 12 = .ok (.iload_n 1, 1) := by decide +kernel
theorem dX12_foundBits_13 : decode cX12_foundBits 13 = .ok (.aload_n 0, 1) := by decide +kernel
theorem dX12_foundBits_14 : decode cX12_foundBits 14 = .ok (.getfield 39, 3) := by decide +kernel
theorem dX12_foundBits_17 : decode cX12_foundBits 17 = .ok (.iload_n 2, 1) := by decide +kernel
theorem dX12_foundBits_18 : decode cX12_foundBits 18 = .ok (.iaload, 1) := by decide +kernel
theorem dX12_foundBits_19 : decode cX12_foundBits 19 = .ok (.aload_n 0, 1) := by decide +kernel
theorem dX12_foundBits_20 : decode cX12_foundBits 20 = .ok (.getfield 33, 3) := by decide +kernel
theorem dX12_foundBits_23 : decode cX12_foundBits 23 = .ok (.iload_n 2, 1) := by decide +kernel
theorem dX12_foundBits_24 : decode cX12_foundBits 24 = .ok (.iaload, 1) := by decide +kernel
theorem dX12_foundBits_25 : decode cX12_foundBits 25 = .ok (.invokestatic 92, 3) := by decide +kernel
theorem dX12_foundBits_28 : decode cX12_foundBits 28 = .ok (.ior, 1) := by decide +kernel
theorem dX12_foundBits_29 : decode cX12_foundBits 29 = .ok (.istore_n 1, 1) := by decide +kernel
theorem dX12_foundBits_30 : decode cX12_foundBits 30 = .ok (.iinc 2 1, 3) := by decide +kernel
theorem dX12_foundBits_33 : decode cX12_foundBits 33 = .ok (.goto (-29), 3) := by decide +kernel
theorem dX12_foundBits_36 : decode cX12_foundBits 36 = .ok (.iload_n 1, 1) := by decide +kernel
theorem dX12_foundBits_37 : decode cX12_foundBits 37 = .ok (.ireturn, 1) := by decide +kernel
theorem dX12_takes_0 : decode cX12_takes 0 = .ok (.aload_n 0, 1) := by decide +kernel
theorem dX12_takes_1 : decode cX12_takes 1 = .ok (.aload_n 0, 1) := by decide +kernel
theorem dX12_takes_2 : decode cX12_takes 2 = .ok (.iload_n 1, 1) := by decide +kernel
theorem dX12_takes_3 : decode cX12_takes 3 = .ok (.iconst 0, 1) := by decide +kernel
theorem dX12_takes_4 : decode cX12_takes 4 = .ok (.invokevirtual 83, 3) := by decide +kernel
theorem dX12_takes_7 : decode cX12_takes 7 = .ok (.putfield 125, 3) := by decide +kernel
theorem dX12_takes_10 : decode cX12_takes 10 = .ok (.aload_n 0, 1) := by decide +kernel
theorem dX12_takes_11 : decode cX12_takes 11 = .ok (.aload_n 0, 1) := by decide +kernel
theorem dX12_takes_12 : decode cX12_takes 12 = .ok (.iload_n 1, 1) := by decide +kernel
theorem dX12_takes_13 : decode cX12_takes 13 = .ok (.iconst 4, 1) := by decide +kernel
theorem dX12_takes_14 : decode cX12_takes 14 = .ok (.invokevirtual 83, 3) := by decide +kernel
theorem dX12_takes_17 : decode cX12_takes 17 = .ok (.putfield 122, 3) := by decide +kernel
theorem dX12_takes_20 : decode cX12_takes 20 = .ok (.iconst 0, 1) := by decide +kernel
theorem dX12_takes_21 : decode cX12_takes 21 = .ok (.istore_n 2, 1) := by decide +kernel
theorem dX12_takes_22 : decode cX12_takes 22 = .ok (.iload_n 2, 1) := by decide +kernel
theorem dX12_takes_23 : decode cX12_takes 23 = .ok (.aload_n 0, 1) := by decide +kernel
theorem dX12_takes_24 : decode cX12_takes 24 = .ok (.getfield 122, 3) := by decide +kernel
theorem dX12_takes_27 : decode cX12_takes 27 = .ok (.if_icmp .ge 39, 3) := by decide +kernel
theorem dX12_takes_30 : decode cX12_takes 30 = .ok (.aload_n 0, 1) := by decide +kernel
theorem dX12_takes_31 : decode cX12_takes 31 = .ok (.getfield 33, 3) := by decide +kernel
theorem dX12_takes_34 : decode cX12_takes 34 = .ok (.iload_n 2, 1) := by decide +kernel
theorem dX12_takes_35 : decode cX12_takes 35 = .ok (.aload_n 0, 1) := by decide +kernel
theorem dX12_takes_36 : decode cX12_takes 36 = .ok (.iload_n 1, 1) := by decide +kernel
theorem dX12_takes_37 : decode cX12_takes 37 = .ok (.bipush 12, 2) := by decide +kernel
theorem dX12_takes_39 : decode cX12_takes 39 = .ok (.iload_n 2, 1) := by decide +kernel
theorem dX12_takes_40 : decode cX12_takes 40 = .ok (.iadd, 1) := by decide +kernel
theorem dX12_takes_41 : decode cX12_takes 41 = .ok (.invokevirtual 83, 3) := by decide +kernel
theorem dX12_takes_44 : decode cX12_takes 44 = .ok (.iastore, 1) := by decide +kernel
theorem dX12_takes_45 : decode cX12_takes 45 = .ok (.aload_n 0, 1) := by decide +kernel
theorem dX12_takes_46 : decode cX12_takes 46 = .ok (.getfield 36, 3) := by decide +kernel
theorem dX12_takes_49 : decode cX12_takes 49 = .ok (.iload_n 2, 1) := by decide +kernel
theorem dX12_takes_50 : decode cX12_takes 50 = .ok (.aload_n 0, 1) := by decide +kernel
theorem dX12_takes_51 : decode cX12_takes 51 = .ok (.iload_n 1, 1) := by decide +kernel
theorem dX12_takes_52 : decode cX12_takes 52 = .ok (.bipush 16, 2) := by decide +kernel
theorem dX12_takes_54 : decode cX12_takes 54 = .ok (.iload_n 2, 1) := by decide +kernel
theorem dX12_takes_55 : decode cX12_takes 55 = .ok (.iadd, 1) := by decide +kernel
theorem dX12_takes_56 : decode cX12_takes 56 = .ok (.invokevirtual 83, 3) := by decide +kernel
theorem dX12_takes_59 : decode cX12_takes 59 = .ok (.iastore, 1) := by decide +kernel
theorem dX12_takes_60 : decode cX12_takes 60 = .ok (.iinc 2 1, 3) := by decide +kernel
theorem dX12_takes_63 : decode cX12_takes 63 = .ok (.goto (-41), 3) := by decide +kernel
theorem dX12_takes_66 : decode cX12_takes 66 = .ok (.return_, 1) := by decide +kernel
theorem dX12_sooner_0 : decode cX12_sooner 0 = .ok (.iload_n 0, 1) := by decide +kernel
theorem dX12_sooner_1 : decode cX12_sooner 1 = .ok (.iload_n 1, 1) := by decide +kernel
theorem dX12_sooner_2 : decode cX12_sooner 2 = .ok (.if_icmp .le 16, 3) := by decide +kernel
theorem dX12_sooner_5 : decode cX12_sooner 5 = .ok (.iload_n 2, 1) := by decide +kernel
theorem dX12_sooner_6 : decode cX12_sooner 6 = .ok (.ifCond .lt 8, 3) := by decide +kernel
theorem dX12_sooner_9 : decode cX12_sooner 9 = .ok (.iload_n 0, 1) := by decide +kernel
theorem dX12_sooner_10 : decode cX12_sooner 10 = .ok (.iload_n 2, 1) := by decide +kernel
theorem dX12_sooner_11 : decode cX12_sooner 11 = .ok (.if_icmp .ge 7, 3) := by decide +kernel
theorem dX12_sooner_14 : decode cX12_sooner 14 = .ok (.iload_n 0, 1) := by decide +kernel
theorem dX12_sooner_15 : decode cX12_sooner 15 = .ok (.goto 4, 3) := by decide +kernel
theorem dX12_sooner_18 : decode cX12_sooner 18 = .ok (.iload_n 2, 1) := by decide +kernel
theorem dX12_sooner_19 : decode cX12_sooner 19 = .ok (.ireturn, 1) := by decide +kernel
theorem dX12_change_0 : decode cX12_change 0 = .ok (.iconst (-1), 1) := by decide +kernel
theorem dX12_change_1 : decode cX12_change 1 = .ok (.istore_n 2, 1) := by decide +kernel
theorem dX12_change_2 : decode cX12_change 2 = .ok (.iconst 0, 1) := by decide +kernel
theorem dX12_change_3 : decode cX12_change 3 = .ok (.istore_n 3, 1) := by decide +kernel
theorem dX12_change_4 : decode cX12_change 4 = .ok (.iload_n 3, 1) := by decide +kernel
theorem dX12_change_5 : decode cX12_change 5 = .ok (.aload_n 0, 1) := by decide +kernel
theorem dX12_change_6 : decode cX12_change 6 = .ok (.getfield 9, 3) := by decide +kernel
theorem dX12_change_9 : decode cX12_change 9 = .ok (.iconst 1, 1) := by decide +kernel
theorem dX12_change_10 : decode cX12_change 10 = .ok (.iaload, 1) := by decide +kernel
theorem dX12_change_11 : decode cX12_change 11 = .ok (.if_icmp .ge 126, 3) := by decide +kernel
theorem dX12_change_14 : decode cX12_change 14 = .ok (.aload_n 0, 1) := by decide +kernel
theorem dX12_change_15 : decode cX12_change 15 = .ok (.iload_n 3, 1) := by decide +kernel
theorem dX12_change_16 : decode cX12_change 16 = .ok (.bipush 9, 2) := by decide +kernel
theorem dX12_change_18 : decode cX12_change 18 = .ok (.invokevirtual 83, 3) := by decide +kernel
theorem dX12_change_21 : decode cX12_change 21 = .ok (.istore 4, 2) := by decide +kernel
theorem dX12_change_23 : decode cX12_change 23 = .ok (.iconst 0, 1) := by decide +kernel
theorem dX12_change_24 : decode cX12_change 24 = .ok (.istore 5, 2) := by decide +kernel
theorem dX12_change_26 : decode cX12_change 26 = .ok (.iload 5, 2) := by decide +kernel
theorem dX12_change_28 : decode cX12_change 28 = .ok (.aload_n 0, 1) := by decide +kernel
theorem dX12_change_29 : decode cX12_change 29 = .ok (.iload_n 3, 1) := by decide +kernel
theorem dX12_change_30 : decode cX12_change 30 = .ok (.iconst 4, 1) := by decide +kernel
theorem dX12_change_31 : decode cX12_change 31 = .ok (.invokevirtual 83, 3) := by decide +kernel
theorem dX12_change_34 : decode cX12_change 34 = .ok (.if_icmp .ge 56, 3) := by decide +kernel
theorem dX12_change_37 : decode cX12_change 37 = .ok (.aload_n 0, 1) := by decide +kernel
theorem dX12_change_38 : decode cX12_change 38 = .ok (.iload_n 3, 1) := by decide +kernel
theorem dX12_change_39 : decode cX12_change 39 = .ok (.iload 5, 2) := by decide +kernel
theorem dX12_change_41 : decode cX12_change 41 = .ok (.invokevirtual 98, 3) := by decide +kernel
theorem dX12_change_44 : decode cX12_change 44 = .ok (.ifCond .eq 16, 3) := by decide +kernel
theorem dX12_change_47 : decode cX12_change 47 = .ok (.aload_n 0, 1) := by decide +kernel
theorem dX12_change_48 : decode cX12_change 48 = .ok (.iload_n 3, 1) := by decide +kernel
theorem dX12_change_49 : decode cX12_change 49 = .ok (.iload 5, 2) := by decide +kernel
theorem dX12_change_51 : decode cX12_change 51 = .ok (.invokevirtual 102, 3) := by decide +kernel
theorem dX12_change_54 : decode cX12_change 54 = .ok (.iload_n 1, 1) := by decide +kernel
theorem dX12_change_55 : decode cX12_change 55 = .ok (.iload_n 2, 1) := by decide +kernel
theorem dX12_change_56 : decode cX12_change 56 = .ok (.invokestatic 135, 3) := by decide +kernel
theorem dX12_change_59 : decode cX12_change 59 = .ok (.istore_n 2, 1) := by decide +kernel
theorem dX12_change_60 : decode cX12_change 60 = .ok (.iload 4, 2) := by decide +kernel
theorem dX12_change_62 : decode cX12_change 62 = .ok (.ifCond .lt 22, 3) := by decide +kernel
theorem dX12_change_65 : decode cX12_change 65 = .ok (.iload 4, 2) := by decide +kernel
theorem dX12_change_67 : decode cX12_change 67 = .ok (.aload_n 0, 1) := by decide +kernel
theorem dX12_change_68 : decode cX12_change 68 = .ok (.iload_n 3, 1) := by decide +kernel
theorem dX12_change_69 : decode cX12_change 69 = .ok (.bipush 16, 2) := by decide +kernel
theorem dX12_change_71 : decode cX12_change 71 = .ok (.iload 5, 2) := by decide +kernel
theorem dX12_change_73 : decode cX12_change 73 = .ok (.iadd, 1) := by decide +kernel
theorem dX12_change_74 : decode cX12_change 74 = .ok (.invokevirtual 83, 3) := by decide +kernel
theorem dX12_change_77 : decode cX12_change 77 = .ok (.iadd, 1) := by decide +kernel
theorem dX12_change_78 : decode cX12_change 78 = .ok (.iload_n 1, 1) := by decide +kernel
theorem dX12_change_79 : decode cX12_change 79 = .ok (.iload_n 2, 1) := by decide +kernel
theorem dX12_change_80 : decode cX12_change 80 = .ok (.invokestatic 135, 3) := by decide +kernel
theorem dX12_change_83 : decode cX12_change 83 = .ok (.istore_n 2, 1) := by decide +kernel
theorem dX12_change_84 : decode cX12_change 84 = .ok (.iinc 5 1, 3) := by decide +kernel
theorem dX12_change_87 : decode cX12_change 87 = .ok (.goto (-61), 3) := by decide +kernel
theorem dX12_change_90 : decode cX12_change 90 = .ok (.iconst 0, 1) := by decide +kernel
theorem dX12_change_91 : decode cX12_change 91 = .ok (.istore 5, 2) := by decide +kernel
theorem dX12_change_93 : decode cX12_change 93 = .ok (.iload 5, 2) := by decide +kernel
theorem dX12_change_95 : decode cX12_change 95 = .ok (.aload_n 0, 1) := by decide +kernel
theorem dX12_change_96 : decode cX12_change 96 = .ok (.getfield 122, 3) := by decide +kernel
theorem dX12_change_99 : decode cX12_change 99 = .ok (.if_icmp .ge 32, 3) := by decide +kernel
theorem dX12_change_102 : decode cX12_change 102 = .ok (.iload 4, 2) := by decide +kernel
theorem dX12_change_104 : decode cX12_change 104 = .ok (.ifCond .lt 27, 3) := by decide +kernel
theorem dX12_change_107 : decode cX12_change 107 = .ok (.iload 4, 2) := by decide +kernel
theorem dX12_change_109 : decode cX12_change 109 = .ok (.aload_n 0, 1) := by decide +kernel
theorem dX12_change_110 : decode cX12_change 110 = .ok (.getfield 36, 3) := by decide +kernel
theorem dX12_change_113 : decode cX12_change 113 = .ok (.iload 5, 2) := by decide +kernel
theorem dX12_change_115 : decode cX12_change 115 = .ok (.iaload, 1) := by decide +kernel
theorem dX12_change_116 : decode cX12_change 116 = .ok (.isub, 1) := by decide +kernel
theorem dX12_change_117 : decode cX12_change 117 = .ok (.iconst 1, 1) := by decide +kernel
theorem dX12_change_118 : decode cX12_change 118 = .ok (.iadd, 1) := by decide +kernel
theorem dX12_change_119 : decode cX12_change 119 = .ok (.iload_n 1, 1) := by decide +kernel
theorem dX12_change_120 : decode cX12_change 120 = .ok (.iload_n 2, 1) := by decide +kernel
theorem dX12_change_121 : decode cX12_change 121 = .ok (.invokestatic 135, 3) := by decide +kernel
theorem dX12_change_124 : decode cX12_change 124 = .ok (.istore_n 2, 1) := by decide +kernel
theorem dX12_change_125 : decode cX12_change 125 = .ok (.iinc 5 1, 3) := by decide +kernel
theorem dX12_change_128 : decode cX12_change 128 = .ok (.goto (-35), 3) := by decide +kernel
theorem dX12_change_131 : decode cX12_change 131 = .ok (.iinc 3 1, 3) := by decide +kernel
theorem dX12_change_134 : decode cX12_change 134 = .ok (.goto (-130), 3) := by decide +kernel
theorem dX12_change_137 : decode cX12_change 137 = .ok (.iconst 0, 1) := by decide +kernel
theorem dX12_change_138 : decode cX12_change 138 = .ok (.istore_n 3, 1) := by decide +kernel
theorem dX12_change_139 : decode cX12_change 139 = .ok (.iload_n 3, 1) := by decide +kernel
theorem dX12_change_140 : decode cX12_change 140 = .ok (.bipush 12, 2) := by decide +kernel
theorem dX12_change_142 : decode cX12_change 142 = .ok (.if_icmp .ge 69, 3) := by decide +kernel
theorem dX12_change_145 : decode cX12_change 145 = .ok (.aload_n 0, 1) := by decide +kernel
theorem dX12_change_146 : decode cX12_change 146 = .ok (.iload_n 3, 1) := by decide +kernel
theorem dX12_change_147 : decode cX12_change 147 = .ok (.invokevirtual 111, 3) := by decide +kernel
theorem dX12_change_150 : decode cX12_change 150 = .ok (.ifCond .eq 55, 3) := by decide +kernel
theorem dX12_change_153 : decode cX12_change 153 = .ok (.aload_n 0, 1) := by decide +kernel
theorem dX12_change_154 : decode cX12_change 154 = .ok (.iload_n 3, 1) := by decide +kernel
theorem dX12_change_155 : decode cX12_change 155 = .ok (.iconst 4, 1) := by decide +kernel
theorem dX12_change_156 : decode cX12_change 156 = .ok (.invokevirtual 95, 3) := by decide +kernel
theorem dX12_change_159 : decode cX12_change 159 = .ok (.iload_n 1, 1) := by decide +kernel
theorem dX12_change_160 : decode cX12_change 160 = .ok (.iload_n 2, 1) := by decide +kernel
theorem dX12_change_161 : decode cX12_change 161 = .ok (.invokestatic 135, 3) := by decide +kernel
theorem dX12_change_164 : decode cX12_change 164 = .ok (.istore_n 2, 1) := by decide +kernel
theorem dX12_change_165 : decode cX12_change 165 = .ok (.iconst 0, 1) := by decide +kernel
theorem dX12_change_166 : decode cX12_change 166 = .ok (.istore 4, 2) := by decide +kernel
theorem dX12_change_168 : decode cX12_change 168 = .ok (.iload 4, 2) := by decide +kernel
theorem dX12_change_170 : decode cX12_change 170 = .ok (.aload_n 0, 1) := by decide +kernel
theorem dX12_change_171 : decode cX12_change 171 = .ok (.getfield 122, 3) := by decide +kernel
theorem dX12_change_174 : decode cX12_change 174 = .ok (.if_icmp .ge 31, 3) := by decide +kernel
theorem dX12_change_177 : decode cX12_change 177 = .ok (.aload_n 0, 1) := by decide +kernel
theorem dX12_change_178 : decode cX12_change 178 = .ok (.iload_n 3, 1) := by decide +kernel
theorem dX12_change_179 : decode cX12_change 179 = .ok (.iconst 3, 1) := by decide +kernel
theorem dX12_change_180 : decode cX12_change 180 = .ok (.invokevirtual 95, 3) := by decide +kernel
theorem dX12_change_183 : decode cX12_change 183 = .ok (.aload_n 0, 1) := by decide +kernel
theorem dX12_change_184 : decode cX12_change 184 = .ok (.getfield 36, 3) := by decide +kernel
theorem dX12_change_187 : decode cX12_change 187 = .ok (.iload 4, 2) := by decide +kernel
theorem dX12_change_189 : decode cX12_change 189 = .ok (.iaload, 1) := by decide +kernel
theorem dX12_change_190 : decode cX12_change 190 = .ok (.isub, 1) := by decide +kernel
theorem dX12_change_191 : decode cX12_change 191 = .ok (.iconst 1, 1) := by decide +kernel
theorem dX12_change_192 : decode cX12_change 192 = .ok (.iadd, 1) := by decide +kernel
theorem dX12_change_193 : decode cX12_change 193 = .ok (.iload_n 1, 1) := by decide +kernel
theorem dX12_change_194 : decode cX12_change 194 = .ok (.iload_n 2, 1) := by decide +kernel
theorem dX12_change_195 : decode cX12_change 195 = .ok (.invokestatic 135, 3) := by decide +kernel
theorem dX12_change_198 : decode cX12_change 198 = .ok (.istore_n 2, 1) := by decide +kernel
theorem dX12_change_199 : decode cX12_change 199 = .ok (.iinc 4 1, 3) := by decide +kernel
theorem dX12_change_202 : decode cX12_change 202 = .ok (.goto (-34), 3) := by decide +kernel
theorem dX12_change_205 : decode cX12_change 205 = .ok (.iinc 3 1, 3) := by decide +kernel
theorem dX12_change_208 : decode cX12_change 208 = .ok (.goto (-69), 3) := by decide +kernel
theorem dX12_change_211 : decode cX12_change 211 = .ok (.iload_n 2, 1) := by decide +kernel
theorem dX12_change_212 : decode cX12_change 212 = .ok (.ireturn, 1) := by decide +kernel
theorem dX12_first_0 : decode cX12_first 0 = .ok (.iload_n 1, 1) := by decide +kernel
theorem dX12_first_1 : decode cX12_first 1 = .ok (.istore_n 2, 1) := by decide +kernel
theorem dX12_first_2 : decode cX12_first 2 = .ok (.iload_n 2, 1) := by decide +kernel
theorem dX12_first_3 : decode cX12_first 3 = .ok (.ifCond .lt 36, 3) := by decide +kernel
theorem dX12_first_6 : decode cX12_first 6 = .ok (.iload_n 2, 1) := by decide +kernel
theorem dX12_first_7 : decode cX12_first 7 = .ok (.aload_n 0, 1) := by decide +kernel
theorem dX12_first_8 : decode cX12_first 8 = .ok (.getfield 9, 3) := by decide +kernel
theorem dX12_first_11 : decode cX12_first 11 = .ok (.iconst 0, 1) := by decide +kernel
theorem dX12_first_12 : decode cX12_first 12 = .ok (.iaload, 1) := by decide +kernel
theorem dX12_first_13 : decode cX12_first 13 = .ok (.sipush 20000, 3) := by decide +kernel
theorem dX12_first_16 : decode cX12_first 16 = .ok (.iadd, 1) := by decide +kernel
theorem dX12_first_17 : decode cX12_first 17 = .ok (.if_icmp .gt 22, 3) := by decide +kernel
theorem dX12_first_20 : decode cX12_first 20 = .ok (.aload_n 0, 1) := by decide +kernel
theorem dX12_first_21 : decode cX12_first 21 = .ok (.iload_n 2, 1) := by decide +kernel
theorem dX12_first_22 : decode cX12_first 22 = .ok (.invokevirtual 139, 3) := by decide +kernel
theorem dX12_first_25 : decode cX12_first 25 = .ok (.ifCond .eq 5, 3) := by decide +kernel
theorem dX12_first_28 : decode cX12_first 28 = .ok (.iload_n 2, 1) := by decide +kernel
theorem dX12_first_29 : decode cX12_first 29 = .ok (.ireturn, 1) := by decide +kernel
theorem dX12_first_30 : decode cX12_first 30 = .ok (.aload_n 0, 1) := by decide +kernel
theorem dX12_first_31 : decode cX12_first 31 = .ok (.iload_n 2, 1) := by decide +kernel
theorem dX12_first_32 : decode cX12_first 32 = .ok (.invokevirtual 142, 3) := by decide +kernel
theorem dX12_first_35 : decode cX12_first 35 = .ok (.istore_n 2, 1) := by decide +kernel
theorem dX12_first_36 : decode cX12_first 36 = .ok (.goto (-34), 3) := by decide +kernel
theorem dX12_first_39 : decode cX12_first 39 = .ok (.iconst (-1), 1) := by decide +kernel
theorem dX12_first_40 : decode cX12_first 40 = .ok (.ireturn, 1) := by decide +kernel
theorem dX12_weight_0 : decode cX12_weight 0 = .ok (.iload_n 1, 1) := by decide +kernel
theorem dX12_weight_1 : decode cX12_weight 1 = .ok (.invokestatic 145, 3) := by decide +kernel
theorem dX12_weight_4 : decode cX12_weight 4 = .ok (.ifCond .eq 15, 3) := by decide +kernel
theorem dX12_weight_7 : decode cX12_weight 7 = .ok (.iload_n 2, 1) := by decide +kernel
theorem dX12_weight_8 : decode cX12_weight 8 = .ok (.i2l, 1) := by decide +kernel
theorem dX12_weight_9 : decode cX12_weight 9 = .ok (.lconst 1, 1) := by decide +kernel
theorem dX12_weight_10 : decode cX12_weight 10 = .ok (.ldc2_w 148, 3) := by decide +kernel
theorem dX12_weight_13 : decode cX12_weight 13 = .ok (.invokestatic 79, 3) := by decide +kernel
theorem dX12_weight_16 : decode cX12_weight 16 = .ok (.ifCond .ne 5, 3) := by decide +kernel
theorem dX12_weight_19 : decode cX12_weight 19 = .ok (.iconst (-1), 1) := by decide +kernel
theorem dX12_weight_20 : decode cX12_weight 20 = .ok (.ireturn, 1) := by decide +kernel
theorem dX12_weight_21 : decode cX12_weight 21 = .ok (.aload_n 0, 1) := by decide +kernel
theorem dX12_weight_22 : decode cX12_weight 22 = .ok (.getfield 9, 3) := by decide +kernel
theorem dX12_weight_25 : decode cX12_weight 25 = .ok (.bipush 8, 2) := by decide +kernel
theorem dX12_weight_27 : decode cX12_weight 27 = .ok (.iload_n 1, 1) := by decide +kernel
theorem dX12_weight_28 : decode cX12_weight 28 = .ok (.iadd, 1) := by decide +kernel
theorem dX12_weight_29 : decode cX12_weight 29 = .ok (.iaload, 1) := by decide +kernel
theorem dX12_weight_30 : decode cX12_weight 30 = .ok (.istore_n 3, 1) := by decide +kernel
theorem dX12_weight_31 : decode cX12_weight 31 = .ok (.aload_n 0, 1) := by decide +kernel
theorem dX12_weight_32 : decode cX12_weight 32 = .ok (.getfield 9, 3) := by decide +kernel
theorem dX12_weight_35 : decode cX12_weight 35 = .ok (.bipush 8, 2) := by decide +kernel
theorem dX12_weight_37 : decode cX12_weight 37 = .ok (.iload_n 1, 1) := by decide +kernel
theorem dX12_weight_38 : decode cX12_weight 38 = .ok (.iadd, 1) := by decide +kernel
theorem dX12_weight_39 : decode cX12_weight 39 = .ok (.iload_n 2, 1) := by decide +kernel
theorem dX12_weight_40 : decode cX12_weight 40 = .ok (.iastore, 1) := by decide +kernel
theorem dX12_weight_41 : decode cX12_weight 41 = .ok (.iload_n 3, 1) := by decide +kernel
theorem dX12_weight_42 : decode cX12_weight 42 = .ok (.ireturn, 1) := by decide +kernel
theorem dX12_limit_0 : decode cX12_limit 0 = .ok (.iload_n 1, 1) := by decide +kernel
theorem dX12_limit_1 : decode cX12_limit 1 = .ok (.invokestatic 145, 3) := by decide +kernel
theorem dX12_limit_4 : decode cX12_limit 4 = .ok (.ifCond .eq 15, 3) := by decide +kernel
theorem dX12_limit_7 : decode cX12_limit 7 = .ok (.iload_n 2, 1) := by decide +kernel
theorem dX12_limit_8 : decode cX12_limit 8 = .ok (.i2l, 1) := by decide +kernel
theorem dX12_limit_9 : decode cX12_limit 9 = .ok (.lconst 0, 1) := by decide +kernel
theorem dX12_limit_10 : decode cX12_limit 10 = .ok (.ldc2_w 150, 3) := by decide +kernel
theorem dX12_limit_13 : decode cX12_limit 13 = .ok (.invokestatic 79, 3) := by decide +kernel
theorem dX12_limit_16 : decode cX12_limit 16 = .ok (.ifCond .ne 5, 3) := by decide +kernel
theorem dX12_limit_19 : decode cX12_limit 19 = .ok (.iconst (-1), 1) := by decide +kernel
theorem dX12_limit_20 : decode cX12_limit 20 = .ok (.ireturn, 1) := by decide +kernel
theorem dX12_limit_21 : decode cX12_limit 21 = .ok (.aload_n 0, 1) := by decide +kernel
theorem dX12_limit_22 : decode cX12_limit 22 = .ok (.getfield 9, 3) := by decide +kernel
theorem dX12_limit_25 : decode cX12_limit 25 = .ok (.bipush 16, 2) := by decide +kernel
theorem dX12_limit_27 : decode cX12_limit 27 = .ok (.iload_n 1, 1) := by decide +kernel
theorem dX12_limit_28 : decode cX12_limit 28 = .ok (.iadd, 1) := by decide +kernel
theorem dX12_limit_29 : decode cX12_limit 29 = .ok (.iaload, 1) := by decide +kernel
theorem dX12_limit_30 : decode cX12_limit 30 = .ok (.istore_n 3, 1) := by decide +kernel
theorem dX12_limit_31 : decode cX12_limit 31 = .ok (.aload_n 0, 1) := by decide +kernel
theorem dX12_limit_32 : decode cX12_limit 32 = .ok (.getfield 9, 3) := by decide +kernel
theorem dX12_limit_35 : decode cX12_limit 35 = .ok (.bipush 16, 2) := by decide +kernel
theorem dX12_limit_37 : decode cX12_limit 37 = .ok (.iload_n 1, 1) := by decide +kernel
theorem dX12_limit_38 : decode cX12_limit 38 = .ok (.iadd, 1) := by decide +kernel
theorem dX12_limit_39 : decode cX12_limit 39 = .ok (.iload_n 2, 1) := by decide +kernel
theorem dX12_limit_40 : decode cX12_limit 40 = .ok (.iastore, 1) := by decide +kernel
theorem dX12_limit_41 : decode cX12_limit 41 = .ok (.iload_n 3, 1) := by decide +kernel
theorem dX12_limit_42 : decode cX12_limit 42 = .ok (.ireturn, 1) := by decide +kernel
theorem dX12_byShare_0 : decode cX12_byShare 0 = .ok (.aload_n 0, 1) := by decide +kernel
theorem dX12_byShare_1 : decode cX12_byShare 1 = .ok (.getfield 19, 3) := by decide +kernel
theorem dX12_byShare_4 : decode cX12_byShare 4 = .ok (.iconst 0, 1) := by decide +kernel
theorem dX12_byShare_5 : decode cX12_byShare 5 = .ok (.iload_n 1, 1) := by decide +kernel
theorem dX12_byShare_6 : decode cX12_byShare 6 = .ok (.iadd, 1) := by decide +kernel
theorem dX12_byShare_7 : decode cX12_byShare 7 = .ok (.laload, 1) := by decide +kernel
theorem dX12_byShare_8 : decode cX12_byShare 8 = .ok (.aload_n 0, 1) := by decide +kernel
theorem dX12_byShare_9 : decode cX12_byShare 9 = .ok (.getfield 9, 3) := by decide +kernel
theorem dX12_byShare_12 : decode cX12_byShare 12 = .ok (.bipush 8, 2) := by decide +kernel
theorem dX12_byShare_14 : decode cX12_byShare 14 = .ok (.iload_n 2, 1) := by decide +kernel
theorem dX12_byShare_15 : decode cX12_byShare 15 = .ok (.iadd, 1) := by decide +kernel
theorem dX12_byShare_16 : decode cX12_byShare 16 = .ok (.iaload, 1) := by decide +kernel
theorem dX12_byShare_17 : decode cX12_byShare 17 = .ok (.i2l, 1) := by decide +kernel
theorem dX12_byShare_18 : decode cX12_byShare 18 = .ok (.lmul, 1) := by decide +kernel
theorem dX12_byShare_19 : decode cX12_byShare 19 = .ok (.lstore_n 3, 1) := by decide +kernel
theorem dX12_byShare_20 : decode cX12_byShare 20 = .ok (.aload_n 0, 1) := by decide +kernel
theorem dX12_byShare_21 : decode cX12_byShare 21 = .ok (.getfield 19, 3) := by decide +kernel
theorem dX12_byShare_24 : decode cX12_byShare 24 = .ok (.iconst 0, 1) := by decide +kernel
theorem dX12_byShare_25 : decode cX12_byShare 25 = .ok (.iload_n 2, 1) := by decide +kernel
theorem dX12_byShare_26 : decode cX12_byShare 26 = .ok (.iadd, 1) := by decide +kernel
theorem dX12_byShare_27 : decode cX12_byShare 27 = .ok (.laload, 1) := by decide +kernel
theorem dX12_byShare_28 : decode cX12_byShare 28 = .ok (.aload_n 0, 1) := by decide +kernel
theorem dX12_byShare_29 : decode cX12_byShare 29 = .ok (.getfield 9, 3) := by decide +kernel
theorem dX12_byShare_32 : decode cX12_byShare 32 = .ok (.bipush 8, 2) := by decide +kernel
theorem dX12_byShare_34 : decode cX12_byShare 34 = .ok (.iload_n 1, 1) := by decide +kernel
theorem dX12_byShare_35 : decode cX12_byShare 35 = .ok (.iadd, 1) := by decide +kernel
theorem dX12_byShare_36 : decode cX12_byShare 36 = .ok (.iaload, 1) := by decide +kernel
theorem dX12_byShare_37 : decode cX12_byShare 37 = .ok (.i2l, 1) := by decide +kernel
theorem dX12_byShare_38 : decode cX12_byShare 38 = .ok (.lmul, 1) := by decide +kernel
theorem dX12_byShare_39 : decode cX12_byShare 39 = .ok (.lstore 5, 2) := by decide +kernel
theorem dX12_byShare_41 : decode cX12_byShare 41 = .ok (.lload_n 3, 1) := by decide +kernel
theorem dX12_byShare_42 : decode cX12_byShare 42 = .ok (.lload 5, 2) := by decide +kernel
theorem dX12_byShare_44 : decode cX12_byShare 44 = .ok (.lcmp, 1) := by decide +kernel
theorem dX12_byShare_45 : decode cX12_byShare 45 = .ok (.ifCond .ge 7, 3) := by decide +kernel
theorem dX12_byShare_48 : decode cX12_byShare 48 = .ok (.iconst (-1), 1) := by decide +kernel
theorem dX12_byShare_49 : decode cX12_byShare 49 = .ok (.goto 15, 3) := by decide +kernel
theorem dX12_byShare_52 : decode cX12_byShare 52 = .ok (.lload_n 3, 1) := by decide +kernel
theorem dX12_byShare_53 : decode cX12_byShare 53 = .ok (.lload 5, 2) := by decide +kernel
theorem dX12_byShare_55 : decode cX12_byShare 55 = .ok (.lcmp, 1) := by decide +kernel
theorem dX12_byShare_56 : decode cX12_byShare 56 = .ok (.ifCond .le 7, 3) := by decide +kernel
theorem dX12_byShare_59 : decode cX12_byShare 59 = .ok (.iconst 1, 1) := by decide +kernel
theorem dX12_byShare_60 : decode cX12_byShare 60 = .ok (.goto 4, 3) := by decide +kernel
theorem dX12_byShare_63 : decode cX12_byShare 63 = .ok (.iconst 0, 1) := by decide +kernel
theorem dX12_byShare_64 : decode cX12_byShare 64 = .ok (.ireturn, 1) := by decide +kernel
theorem dX12_ranked_0 : decode cX12_ranked 0 = .ok (.iload_n 1, 1) := by decide +kernel
theorem dX12_ranked_1 : decode cX12_ranked 1 = .ok (.invokestatic 145, 3) := by decide +kernel
theorem dX12_ranked_4 : decode cX12_ranked 4 = .ok (.ifCond .ne 5, 3) := by decide +kernel
theorem dX12_ranked_7 : decode cX12_ranked 7 = .ok (.iconst (-1), 1) := by decide +kernel
theorem dX12_ranked_8 : decode cX12_ranked 8 = .ok (.ireturn, 1) := by decide +kernel
theorem dX12_ranked_9 : decode cX12_ranked 9 = .ok (.iconst 0, 1) := by decide +kernel
theorem dX12_ranked_10 : decode cX12_ranked 10 = .ok (.istore_n 2, 1) := by decide +kernel
theorem dX12_ranked_11 : decode cX12_ranked 11 = .ok (.iload_n 2, 1) := by decide +kernel
theorem dX12_ranked_12 : decode cX12_ranked 12 = .ok (.bipush 8, 2) := by decide +kernel
theorem dX12_ranked_14 : decode cX12_ranked 14 = .ok (.if_icmp .ge 67, 3) := by decide +kernel
theorem dX12_ranked_17 : decode cX12_ranked 17 = .ok (.iconst 0, 1) := by decide +kernel
theorem dX12_ranked_18 : decode cX12_ranked 18 = .ok (.istore_n 3, 1) := by decide +kernel
theorem dX12_ranked_19 : decode cX12_ranked 19 = .ok (.iconst 0, 1) := by decide +kernel
theorem dX12_ranked_20 : decode cX12_ranked 20 = .ok (.istore 4, 2) := by decide +kernel
theorem dX12_ranked_22 : decode cX12_ranked 22 = .ok (.iload 4, 2) := by decide +kernel
theorem dX12_ranked_24 : decode cX12_ranked 24 = .ok (.bipush 8, 2) := by decide +kernel
theorem dX12_ranked_26 : decode cX12_ranked 26 = .ok (.if_icmp .ge 42, 3) := by decide +kernel
theorem dX12_ranked_29 : decode cX12_ranked 29 = .ok (.aload_n 0, 1) := by decide +kernel
theorem dX12_ranked_30 : decode cX12_ranked 30 = .ok (.iload 4, 2) := by decide +kernel
theorem dX12_ranked_32 : decode cX12_ranked 32 = .ok (.iload_n 2, 1) := by decide +kernel
theorem dX12_ranked_33 : decode cX12_ranked 33 = .ok (.invokevirtual 152, 3) := by decide +kernel
theorem dX12_ranked_36 : decode cX12_ranked 36 = .ok (.istore 5, 2) := by decide +kernel
theorem dX12_ranked_38 : decode cX12_ranked 38 = .ok (.iload_n 3, 1) := by decide +kernel
theorem dX12_ranked_39 : decode cX12_ranked 39 = .ok (.iload 5, 2) := by decide +kernel
theorem dX12_ranked_41 : decode cX12_ranked 41 = .ok (.ifCond .lt 14, 3) := by decide +kernel
theorem dX12_ranked_44 : decode cX12_ranked 44 = .ok (.iload 5, 2) := by decide +kernel
theorem dX12_ranked_46 : decode cX12_ranked 46 = .ok (.ifCond .ne 13, 3) := by decide +kernel
theorem dX12_ranked_49 : decode cX12_ranked 49 = .ok (.iload 4, 2) := by decide +kernel
theorem dX12_ranked_51 : decode cX12_ranked 51 = .ok (.iload_n 2, 1) := by decide +kernel
theorem dX12_ranked_52 : decode cX12_ranked 52 = .ok (.if_icmp .ge 7, 3) := by decide +kernel
theorem dX12_ranked_55 : decode cX12_ranked 55 = .ok (.iconst 1, 1) := by decide +kernel
theorem dX12_ranked_56 : decode cX12_ranked 56 = .ok (.goto 4, 3) := by decide +kernel
theorem dX12_ranked_59 : decode cX12_ranked 59 = .ok (.iconst 0, 1) := by decide +kernel
theorem dX12_ranked_60 : decode cX12_ranked 60 = .ok (.iadd, 1) := by decide +kernel
theorem dX12_ranked_61 : decode cX12_ranked 61 = .ok (.istore_n 3, 1) := by decide +kernel
theorem dX12_ranked_62 : decode cX12_ranked 62 = .ok (.iinc 4 1, 3) := by decide +kernel
theorem dX12_ranked_65 : decode cX12_ranked 65 = .ok (.goto (-43), 3) := by decide +kernel
theorem dX12_ranked_68 : decode cX12_ranked 68 = .ok (.iload_n 3, 1) := by decide +kernel
theorem dX12_ranked_69 : decode cX12_ranked 69 = .ok (.iload_n 1, 1) := by decide +kernel
theorem dX12_ranked_70 : decode cX12_ranked 70 = .ok (.if_icmp .ne 5, 3) := by decide +kernel
theorem dX12_ranked_73 : decode cX12_ranked 73 = .ok (.iload_n 2, 1) := by decide +kernel
theorem dX12_ranked_74 : decode cX12_ranked 74 = .ok (.ireturn, 1) := by decide +kernel
theorem dX12_ranked_75 : decode cX12_ranked 75 = .ok (.iinc 2 1, 3) := by decide +kernel
theorem dX12_ranked_78 : decode cX12_ranked 78 = .ok (.goto (-67), 3) := by decide +kernel
theorem dX12_ranked_81 : decode cX12_ranked 81 = .ok (.iconst (-1), 1) := by decide +kernel
theorem dX12_ranked_82 : decode cX12_ranked 82 = .ok (.ireturn, 1) := by decide +kernel
theorem dX12_isRule_0 : decode cX12_isRule 0 = .ok (.iload_n 0, 1) := by decide +kernel
theorem dX12_isRule_1 : decode cX12_isRule 1 = .ok (.ifCond .ne 15, 3) := by decide +kernel
theorem dX12_isRule_4 : decode cX12_isRule 4 = .ok (.iload_n 1, 1) := by decide +kernel
theorem dX12_isRule_5 : decode cX12_isRule 5 = .ok (.i2l, 1) := by decide +kernel
theorem dX12_isRule_6 : decode cX12_isRule 6 = .ok (.lconst 0, 1) := by decide +kernel
theorem dX12_isRule_7 : decode cX12_isRule 7 = .ok (.ldc2_w 155, 3) := by decide +kernel
theorem dX12_isRule_10 : decode cX12_isRule 10 = .ok (.invokestatic 79, 3) := by decide +kernel
theorem dX12_isRule_13 : decode cX12_isRule 13 = .ok (.goto 42, 3) := by decide +kernel
theorem dX12_isRule_16 : decode cX12_isRule 16 = .ok (.iload_n 0, 1) := by decide +kernel
theorem dX12_isRule_17 : decode cX12_isRule 17 = .ok (.iconst 1, 1) := by decide +kernel
theorem dX12_isRule_18 : decode cX12_isRule 18 = .ok (.if_icmp .ne 15, 3) := by decide +kernel
theorem dX12_isRule_21 : decode cX12_isRule 21 = .ok (.iload_n 1, 1) := by decide +kernel
theorem dX12_isRule_22 : decode cX12_isRule 22 = .ok (.i2l, 1) := by decide +kernel
theorem dX12_isRule_23 : decode cX12_isRule 23 = .ok (.lconst 0, 1) := by decide +kernel
theorem dX12_isRule_24 : decode cX12_isRule 24 = .ok (.ldc2_w 157, 3) := by decide +kernel
theorem dX12_isRule_27 : decode cX12_isRule 27 = .ok (.invokestatic 79, 3) := by decide +kernel
theorem dX12_isRule_30 : decode cX12_isRule 30 = .ok (.goto 25, 3) := by decide +kernel
theorem dX12_isRule_33 : decode cX12_isRule 33 = .ok (.iload_n 0, 1) := by decide +kernel
theorem dX12_isRule_34 : decode cX12_isRule 34 = .ok (.iconst 2, 1) := by decide +kernel
theorem dX12_isRule_35 : decode cX12_isRule 35 = .ok (.if_icmp .ne 19, 3) := by decide +kernel
theorem dX12_isRule_38 : decode cX12_isRule 38 = .ok (.iload_n 1, 1) := by decide +kernel
theorem dX12_isRule_39 : decode cX12_isRule 39 = .ok (.i2l, 1) := by decide +kernel
theorem dX12_isRule_40 : decode cX12_isRule 40 = .ok (.lconst 0, 1) := by decide +kernel
theorem dX12_isRule_41 : decode cX12_isRule 41 = .ok (.ldc2_w 148, 3) := by decide +kernel
theorem dX12_isRule_44 : decode cX12_isRule 44 = .ok (.invokestatic 79, 3) := by decide +kernel
theorem dX12_isRule_47 : decode cX12_isRule 47 = .ok (.ifCond .eq 7, 3) := by decide +kernel
theorem dX12_isRule_50 : decode cX12_isRule 50 = .ok (.iconst 1, 1) := by decide +kernel
theorem dX12_isRule_51 : decode cX12_isRule 51 = .ok (.goto 4, 3) := by decide +kernel
theorem dX12_isRule_54 : decode cX12_isRule 54 = .ok (.iconst 0, 1) := by decide +kernel
theorem dX12_isRule_55 : decode cX12_isRule 55 = .ok (.ireturn, 1) := by decide +kernel
theorem dX12_rule_0 : decode cX12_rule 0 = .ok (.iload_n 1, 1) := by decide +kernel
theorem dX12_rule_1 : decode cX12_rule 1 = .ok (.iload_n 2, 1) := by decide +kernel
theorem dX12_rule_2 : decode cX12_rule 2 = .ok (.invokestatic 159, 3) := by decide +kernel
theorem dX12_rule_5 : decode cX12_rule 5 = .ok (.ifCond .ne 5, 3) := by decide +kernel
theorem dX12_rule_8 : decode cX12_rule 8 = .ok (.iconst (-1), 1) := by decide +kernel
theorem dX12_rule_9 : decode cX12_rule 9 = .ok (.ireturn, 1) := by decide +kernel
theorem dX12_rule_10 : decode cX12_rule 10 = .ok (.aload_n 0, 1) := by decide +kernel
theorem dX12_rule_11 : decode cX12_rule 11 = .ok (.getfield 9, 3) := by decide +kernel
theorem dX12_rule_14 : decode cX12_rule 14 = .ok (.iconst 2, 1) := by decide +kernel
theorem dX12_rule_15 : decode cX12_rule 15 = .ok (.iload_n 1, 1) := by decide +kernel
theorem dX12_rule_16 : decode cX12_rule 16 = .ok (.iadd, 1) := by decide +kernel
theorem dX12_rule_17 : decode cX12_rule 17 = .ok (.iaload, 1) := by decide +kernel
theorem dX12_rule_18 : decode cX12_rule 18 = .ok (.istore_n 3, 1) := by decide +kernel
theorem dX12_rule_19 : decode cX12_rule 19 = .ok (.aload_n 0, 1) := by decide +kernel
theorem dX12_rule_20 : decode cX12_rule 20 = .ok (.getfield 9, 3) := by decide +kernel
theorem dX12_rule_23 : decode cX12_rule 23 = .ok (.iconst 2, 1) := by decide +kernel
theorem dX12_rule_24 : decode cX12_rule 24 = .ok (.iload_n 1, 1) := by decide +kernel
theorem dX12_rule_25 : decode cX12_rule 25 = .ok (.iadd, 1) := by decide +kernel
theorem dX12_rule_26 : decode cX12_rule 26 = .ok (.iload_n 2, 1) := by decide +kernel
theorem dX12_rule_27 : decode cX12_rule 27 = .ok (.iastore, 1) := by decide +kernel
theorem dX12_rule_28 : decode cX12_rule 28 = .ok (.iload_n 3, 1) := by decide +kernel
theorem dX12_rule_29 : decode cX12_rule 29 = .ok (.ireturn, 1) := by decide +kernel
theorem dX12_used_0 : decode cX12_used 0 = .ok (.iload_n 1, 1) := by decide +kernel
theorem dX12_used_1 : decode cX12_used 1 = .ok (.invokestatic 145, 3) := by decide +kernel
theorem dX12_used_4 : decode cX12_used 4 = .ok (.ifCond .eq 14, 3) := by decide +kernel
theorem dX12_used_7 : decode cX12_used 7 = .ok (.aload_n 0, 1) := by decide +kernel
theorem dX12_used_8 : decode cX12_used 8 = .ok (.getfield 19, 3) := by decide +kernel
theorem dX12_used_11 : decode cX12_used 11 = .ok (.iconst 0, 1) := by decide +kernel
theorem dX12_used_12 : decode cX12_used 12 = .ok (.iload_n 1, 1) := by decide +kernel
theorem dX12_used_13 : decode cX12_used 13 = .ok (.iadd, 1) := by decide +kernel
theorem dX12_used_14 : decode cX12_used 14 = .ok (.laload, 1) := by decide +kernel
theorem dX12_used_15 : decode cX12_used 15 = .ok (.goto 6, 3) := by decide +kernel
theorem dX12_used_18 : decode cX12_used 18 = .ok (.ldc2_w 162, 3) := by decide +kernel
theorem dX12_used_21 : decode cX12_used 21 = .ok (.lreturn, 1) := by decide +kernel
theorem dX12_feed_0 : decode cX12_feed 0 = .ok (.iload_n 1, 1) := by decide +kernel
theorem dX12_feed_1 : decode cX12_feed 1 = .ok (.i2l, 1) := by decide +kernel
theorem dX12_feed_2 : decode cX12_feed 2 = .ok (.ldc2_w 164, 3) := by decide +kernel
theorem dX12_feed_5 : decode cX12_feed 5 = .ok (.ldc2_w 166, 3) := by decide +kernel
theorem dX12_feed_8 : decode cX12_feed 8 = .ok (.invokestatic 79, 3) := by decide +kernel
theorem dX12_feed_11 : decode cX12_feed 11 = .ok (.ifCond .ne 5, 3) := by decide +kernel
theorem dX12_feed_14 : decode cX12_feed 14 = .ok (.iconst (-1), 1) := by decide +kernel
theorem dX12_feed_15 : decode cX12_feed 15 = .ok (.ireturn, 1) := by decide +kernel
theorem dX12_feed_16 : decode cX12_feed 16 = .ok (.aload_n 0, 1) := by decide +kernel
theorem dX12_feed_17 : decode cX12_feed 17 = .ok (.getfield 168, 3) := by decide +kernel
theorem dX12_feed_20 : decode cX12_feed 20 = .ok (.bipush 60, 2) := by decide +kernel
theorem dX12_feed_22 : decode cX12_feed 22 = .ok (.if_icmp .ne 6, 3) := by decide +kernel
theorem dX12_feed_25 : decode cX12_feed 25 = .ok (.bipush (-3), 2) := by decide +kernel
theorem dX12_feed_27 : decode cX12_feed 27 = .ok (.ireturn, 1) := by decide +kernel
theorem dX12_feed_28 : decode cX12_feed 28 = .ok (.aload_n 0, 1) := by decide +kernel
theorem dX12_feed_29 : decode cX12_feed 29 = .ok (.getfield 29, 3) := by decide +kernel
theorem dX12_feed_32 : decode cX12_feed 32 = .ok (.aload_n 0, 1) := by decide +kernel
theorem dX12_feed_33 : decode cX12_feed 33 = .ok (.getfield 168, 3) := by decide +kernel
theorem dX12_feed_36 : decode cX12_feed 36 = .ok (.iload_n 1, 1) := by decide +kernel
theorem dX12_feed_37 : decode cX12_feed 37 = .ok (.i2b, 1) := by decide +kernel
theorem dX12_feed_38 : decode cX12_feed 38 = .ok (.bastore, 1) := by decide +kernel
theorem dX12_feed_39 : decode cX12_feed 39 = .ok (.aload_n 0, 1) := by decide +kernel
theorem dX12_feed_40 : decode cX12_feed 40 = .ok (.dup, 1) := by decide +kernel
theorem dX12_feed_41 : decode cX12_feed 41 = .ok (.getfield 168, 3) := by decide +kernel
theorem dX12_feed_44 : decode cX12_feed 44 = .ok (.iconst 1, 1) := by decide +kernel
theorem dX12_feed_45 : decode cX12_feed 45 = .ok (.iadd, 1) := by decide +kernel
theorem dX12_feed_46 : decode cX12_feed 46 = .ok (.putfield 168, 3) := by decide +kernel
theorem dX12_feed_49 : decode cX12_feed 49 = .ok (.aload_n 0, 1) := by decide +kernel
theorem dX12_feed_50 : decode cX12_feed 50 = .ok (.getfield 168, 3) := by decide +kernel
theorem dX12_feed_53 : decode cX12_feed 53 = .ok (.ireturn, 1) := by decide +kernel
theorem dX12_isFigure_0 : decode cX12_isFigure 0 = .ok (.aload_n 0, 1) := by decide +kernel
theorem dX12_isFigure_1 : decode cX12_isFigure 1 = .ok (.getfield 171, 3) := by decide +kernel
theorem dX12_isFigure_4 : decode cX12_isFigure 4 = .ok (.aload_n 0, 1) := by decide +kernel
theorem dX12_isFigure_5 : decode cX12_isFigure 5 = .ok (.getfield 168, 3) := by decide +kernel
theorem dX12_isFigure_8 : decode cX12_isFigure 8 = .ok (.if_icmp .ge 29, 3) := by decide +kernel
theorem dX12_isFigure_11 : decode cX12_isFigure 11 = .ok (.aload_n 0, 1) := by decide +kernel
theorem dX12_isFigure_12 : decode cX12_isFigure 12 = .ok (.getfield 29, 3) := by decide +kernel
theorem dX12_isFigure_15 : decode cX12_isFigure 15 = .ok (.aload_n 0, 1) := by decide +kernel
theorem dX12_isFigure_16 : decode cX12_isFigure 16 = .ok (.getfield 171, 3) := by decide +kernel
theorem dX12_isFigure_19 : decode cX12_isFigure 19 = .ok (.baload, 1) := by decide +kernel
theorem dX12_isFigure_20 : decode cX12_isFigure 20 = .ok (.i2l, 1) := by decide +kernel
theorem dX12_isFigure_21 : decode cX12_isFigure 21 = .ok (.ldc2_w 174, 3) := by decide +kernel
theorem dX12_isFigure_24 : decode cX12_isFigure 24 = .ok (.ldc2_w 176, 3) := by decide +kernel
theorem dX12_isFigure_27 : decode cX12_isFigure 27 = .ok (.invokestatic 79, 3) := by decide +kernel
theorem dX12_isFigure_30 : decode cX12_isFigure 30 = .ok (.ifCond .eq 7, 3) := by decide +kernel
theorem dX12_isFigure_33 : decode cX12_isFigure 33 = .ok (.iconst 1, 1) := by decide +kernel
theorem dX12_isFigure_34 : decode cX12_isFigure 34 = .ok (.goto 4, 3) := by decide +kernel
theorem dX12_isFigure_37 : decode cX12_isFigure 37 = .ok (.iconst 0, 1) := by decide +kernel
theorem dX12_isFigure_38 : decode cX12_isFigure 38 = .ok (.ireturn, 1) := by decide +kernel
theorem dX12_number_0 : decode cX12_number 0 = .ok (.aload_n 0, 1) := by decide +kernel
theorem dX12_number_1 : decode cX12_number 1 = .ok (.getfield 171, 3) := by decide +kernel
theorem dX12_number_4 : decode cX12_number 4 = .ok (.istore_n 2, 1) := by decide +kernel
theorem dX12_number_5 : decode cX12_number 5 = .ok (.iconst 0, 1) := by decide +kernel
theorem dX12_number_6 : decode cX12_number 6 = .ok (.istore_n 3, 1) := by decide +kernel
theorem dX12_number_7 : decode cX12_number 7 = .ok (.aload_n 0, 1) := by decide +kernel
theorem dX12_number_8 : decode cX12_number 8 = .ok (.invokevirtual 178, 3) := by decide +kernel
theorem dX12_number_11 : decode cX12_number 11 = .ok (.ifCond .eq 44, 3) := by decide +kernel
theorem dX12_number_14 : decode cX12_number 14 = .ok (.aload_n 0, 1) := by decide +kernel
theorem dX12_number_15 : decode cX12_number 15 = .ok (.getfield 171, 3) := by decide +kernel
theorem dX12_number_18 : decode cX12_number 18 = .ok (.iload_n 2, 1) := by decide +kernel
theorem dX12_number_19 : decode cX12_number 19 = .ok (.isub, 1) := by decide +kernel
theorem dX12_number_20 : decode cX12_number 20 = .ok (.iconst 3, 1) := by decide +kernel
theorem dX12_number_21 : decode cX12_number 21 = .ok (.if_icmp .ge 34, 3) := by decide +kernel
theorem dX12_number_24 : decode cX12_number 24 = .ok (.bipush 10, 2) := by decide +kernel
theorem dX12_number_26 : decode cX12_number 26 = .ok (.iload_n 3, 1) := by decide +kernel
theorem dX12_number_27 : decode cX12_number 27 = .ok (.imul, 1) := by decide +kernel
theorem dX12_number_28 : decode cX12_number 28 = .ok (.aload_n 0, 1) := by decide +kernel
theorem dX12_number_29 : decode cX12_number 29 = .ok (.getfield 29, 3) := by decide +kernel
theorem dX12_number_32 : decode cX12_number 32 = .ok (.aload_n 0, 1) := by decide +kernel
theorem dX12_number_33 : decode cX12_number 33 = .ok (.getfield 171, 3) := by decide +kernel
theorem dX12_number_36 : decode cX12_number 36 = .ok (.baload, 1) := by decide +kernel
theorem dX12_number_37 : decode cX12_number 37 = .ok (.iadd, 1) := by decide +kernel
theorem dX12_number_38 : decode cX12_number 38 = .ok (.bipush 48, 2) := by decide +kernel
theorem dX12_number_40 : decode cX12_number 40 = .ok (.isub, 1) := by decide +kernel
theorem dX12_number_41 : decode cX12_number 41 = .ok (.istore_n 3, 1) := by decide +kernel
theorem dX12_number_42 : decode cX12_number 42 = .ok (.aload_n 0, 1) := by decide +kernel
theorem dX12_number_43 : decode cX12_number 43 = .ok (.dup, 1) := by decide +kernel
theorem dX12_number_44 : decode cX12_number 44 = .ok (.getfield 171, 3) := by decide +kernel
theorem dX12_number_47 : decode cX12_number 47 = .ok (.iconst 1, 1) := by decide +kernel
theorem dX12_number_48 : decode cX12_number 48 = .ok (.iadd, 1) := by decide +kernel
theorem dX12_number_49 : decode cX12_number 49 = .ok (.putfield 171, 3) := by decide +kernel
theorem dX12_number_52 : decode cX12_number 52 = .ok (.goto (-45), 3) := by decide +kernel
theorem dX12_number_55 : decode cX12_number 55 = .ok (.iload_n 3, 1) := by decide +kernel
theorem dX12_number_56 : decode cX12_number 56 = .ok (.i2l, 1) := by decide +kernel
theorem dX12_number_57 : decode cX12_number 57 = .ok (.lconst 1, 1) := by decide +kernel
theorem dX12_number_58 : decode cX12_number 58 = .ok (.iload_n 1, 1) := by decide +kernel
theorem dX12_number_59 : decode cX12_number 59 = .ok (.i2l, 1) := by decide +kernel
theorem dX12_number_60 : decode cX12_number 60 = .ok (.invokestatic 79, 3) := by decide +kernel
theorem dX12_number_63 : decode cX12_number 63 = .ok (.ifCond .ne 10, 3) := by decide +kernel
theorem dX12_number_66 : decode cX12_number 66 = .ok (.aload_n 0, 1) := by decide +kernel
theorem dX12_number_67 : decode cX12_number 67 = .ok (.iload_n 2, 1) := by decide +kernel
theorem dX12_number_68 : decode cX12_number 68 = .ok (.putfield 171, 3) := by decide +kernel
theorem dX12_number_71 : decode cX12_number 71 = .ok (.iconst (-1), 1) := by decide +kernel
theorem dX12_number_72 : decode cX12_number 72 = .ok (.ireturn, 1) := by decide +kernel
theorem dX12_number_73 : decode cX12_number 73 = .ok (.iload_n 3, 1) := by decide +kernel
theorem dX12_number_74 : decode cX12_number 74 = .ok (.ireturn, 1) := by decide +kernel
theorem dX12_takesSign_0 : decode cX12_takesSign 0 = .ok (.aload_n 0, 1) := by decide +kernel
theorem dX12_takesSign_1 : decode cX12_takesSign 1 = .ok (.getfield 171, 3) := by decide +kernel
theorem dX12_takesSign_4 : decode cX12_takesSign 4 = .ok (.aload_n 0, 1) := by decide +kernel
theorem dX12_takesSign_5 : decode cX12_takesSign 5 = .ok (.getfield 168, 3) := by decide +kernel
theorem dX12_takesSign_8 : decode cX12_takesSign 8 = .ok (.if_icmp .ge 16, 3) := by decide +kernel
theorem dX12_takesSign_11 : decode cX12_takesSign 11 = .ok (.aload_n 0, 1) := by decide +kernel
theorem dX12_takesSign_12 : decode cX12_takesSign 12 = .ok (.getfield 29, 3) := by decide +kernel
theorem dX12_takesSign_15 : decode cX12_takesSign 15 = .ok (.aload_n 0, 1) := by decide +kernel
theorem dX12_takesSign_16 : decode cX12_takesSign 16 = .ok (.getfield 171, 3) := by decide +kernel
theorem dX12_takesSign_19 : decode cX12_takesSign 19 = .ok (.baload, 1) := by decide +kernel
theorem dX12_takesSign_20 : decode cX12_takesSign 20 = .ok (.iload_n 1, 1) := by decide +kernel
theorem dX12_takesSign_21 : decode cX12_takesSign 21 = .ok (.if_icmp .eq 5, 3) := by decide +kernel
theorem dX12_takesSign_24 : decode cX12_takesSign 24 = .ok (.iconst 0, 1) := by decide +kernel
theorem dX12_takesSign_25 : decode cX12_takesSign 25 = .ok (.ireturn, 1) := by decide +kernel
theorem dX12_takesSign_26 : decode cX12_takesSign 26 = .ok (.aload_n 0, 1) := by decide +kernel
theorem dX12_takesSign_27 : decode cX12_takesSign 27 = .ok (.dup, 1) := by decide +kernel
theorem dX12_takesSign_28 : decode cX12_takesSign 28 = .ok (.getfield 171, 3) := by decide +kernel
theorem dX12_takesSign_31 : decode cX12_takesSign 31 = .ok (.iconst 1, 1) := by decide +kernel
theorem dX12_takesSign_32 : decode cX12_takesSign 32 = .ok (.iadd, 1) := by decide +kernel
theorem dX12_takesSign_33 : decode cX12_takesSign 33 = .ok (.putfield 171, 3) := by decide +kernel
theorem dX12_takesSign_36 : decode cX12_takesSign 36 = .ok (.iconst 1, 1) := by decide +kernel
theorem dX12_takesSign_37 : decode cX12_takesSign 37 = .ok (.ireturn, 1) := by decide +kernel
theorem dX12_readArms_0 : decode cX12_readArms 0 = .ok (.aload_n 0, 1) := by decide +kernel
theorem dX12_readArms_1 : decode cX12_readArms 1 = .ok (.iconst 0, 1) := by decide +kernel
theorem dX12_readArms_2 : decode cX12_readArms 2 = .ok (.putfield 171, 3) := by decide +kernel
theorem dX12_readArms_5 : decode cX12_readArms 5 = .ok (.aload_n 0, 1) := by decide +kernel
theorem dX12_readArms_6 : decode cX12_readArms 6 = .ok (.iconst 0, 1) := by decide +kernel
theorem dX12_readArms_7 : decode cX12_readArms 7 = .ok (.putfield 122, 3) := by decide +kernel
theorem dX12_readArms_10 : decode cX12_readArms 10 = .ok (.iconst 1, 1) := by decide +kernel
theorem dX12_readArms_11 : decode cX12_readArms 11 = .ok (.istore_n 1, 1) := by decide +kernel
theorem dX12_readArms_12 : decode cX12_readArms 12 = .ok (.iconst 1, 1) := by decide +kernel
theorem dX12_readArms_13 : decode cX12_readArms 13 = .ok (.istore_n 2, 1) := by decide +kernel
theorem dX12_readArms_14 : decode cX12_readArms 14 = .ok (.iload_n 1, 1) := by decide +kernel
theorem dX12_readArms_15 : decode cX12_readArms 15 = .ok (.ifCond .eq 147, 3) := by decide +kernel
theorem dX12_readArms_18 : decode cX12_readArms 18 = .ok (.iload_n 2, 1) := by decide +kernel
theorem dX12_readArms_19 : decode cX12_readArms 19 = .ok (.ifCond .eq 143, 3) := by decide +kernel
theorem dX12_readArms_22 : decode cX12_readArms 22 = .ok (.aload_n 0, 1) := by decide +kernel
theorem dX12_readArms_23 : decode cX12_readArms 23 = .ok (.bipush 16, 2) := by decide +kernel
theorem dX12_readArms_25 : decode cX12_readArms 25 = .ok (.invokevirtual 182, 3) := by decide +kernel
theorem dX12_readArms_28 : decode cX12_readArms 28 = .ok (.istore_n 3, 1) := by decide +kernel
theorem dX12_readArms_29 : decode cX12_readArms 29 = .ok (.iload_n 3, 1) := by decide +kernel
theorem dX12_readArms_30 : decode cX12_readArms 30 = .ok (.ifCond .le 16, 3) := by decide +kernel
theorem dX12_readArms_33 : decode cX12_readArms 33 = .ok (.aload_n 0, 1) := by decide +kernel
theorem dX12_readArms_34 : decode cX12_readArms 34 = .ok (.bipush 120, 2) := by decide +kernel
theorem dX12_readArms_36 : decode cX12_readArms 36 = .ok (.invokevirtual 185, 3) := by decide +kernel
theorem dX12_readArms_39 : decode cX12_readArms 39 = .ok (.ifCond .eq 7, 3) := by decide +kernel
theorem dX12_readArms_42 : decode cX12_readArms 42 = .ok (.iconst 1, 1) := by decide +kernel
theorem dX12_readArms_43 : decode cX12_readArms 43 = .ok (.goto 4, 3) := by decide +kernel
theorem dX12_readArms_46 : decode cX12_readArms 46 = .ok (.iconst 0, 1) := by decide +kernel
theorem dX12_readArms_47 : decode cX12_readArms 47 = .ok (.istore_n 1, 1) := by decide +kernel
theorem dX12_readArms_48 : decode cX12_readArms 48 = .ok (.iload_n 1, 1) := by decide +kernel
theorem dX12_readArms_49 : decode cX12_readArms 49 = .ok (.ifCond .eq 13, 3) := by decide +kernel
theorem dX12_readArms_52 : decode cX12_readArms 52 = .ok (.aload_n 0, 1) := by decide +kernel
theorem dX12_readArms_53 : decode cX12_readArms 53 = .ok (.sipush 200, 3) := by decide +kernel
theorem dX12_readArms_56 : decode cX12_readArms 56 = .ok (.invokevirtual 182, 3) := by decide +kernel
theorem dX12_readArms_59 : decode cX12_readArms 59 = .ok (.goto 4, 3) := by decide +kernel
theorem dX12_readArms_62 : decode cX12_readArms 62 = .ok (.iconst (-1), 1) := by decide +kernel
theorem dX12_readArms_63 : decode cX12_readArms 63 = .ok (.istore 4, 2) := by decide +kernel
theorem dX12_readArms_65 : decode cX12_readArms 65 = .ok (.iload_n 1, 1) := by decide +kernel
theorem dX12_readArms_66 : decode cX12_readArms 66 = .ok (.ifCond .eq 12, 3) := by decide +kernel
theorem dX12_readArms_69 : decode cX12_readArms 69 = .ok (.iload 4, 2) := by decide +kernel
theorem dX12_readArms_71 : decode cX12_readArms 71 = .ok (.ifCond .le 7, 3) := by decide +kernel
theorem dX12_readArms_74 : decode cX12_readArms 74 = .ok (.iconst 1, 1) := by decide +kernel
theorem dX12_readArms_75 : decode cX12_readArms 75 = .ok (.goto 4, 3) := by decide +kernel
theorem dX12_readArms_78 : decode cX12_readArms 78 = .ok (.iconst 0, 1) := by decide +kernel
theorem dX12_readArms_79 : decode cX12_readArms 79 = .ok (.istore_n 1, 1) := by decide +kernel
theorem dX12_readArms_80 : decode cX12_readArms 80 = .ok (.iload_n 1, 1) := by decide +kernel
theorem dX12_readArms_81 : decode cX12_readArms 81 = .ok (.ifCond .eq 78, 3) := by decide +kernel
theorem dX12_readArms_84 : decode cX12_readArms 84 = .ok (.aload_n 0, 1) := by decide +kernel
theorem dX12_readArms_85 : decode cX12_readArms 85 = .ok (.getfield 33, 3) := by decide +kernel
theorem dX12_readArms_88 : decode cX12_readArms 88 = .ok (.aload_n 0, 1) := by decide +kernel
theorem dX12_readArms_89 : decode cX12_readArms 89 = .ok (.getfield 122, 3) := by decide +kernel
theorem dX12_readArms_92 : decode cX12_readArms 92 = .ok (.iload_n 3, 1) := by decide +kernel
theorem dX12_readArms_93 : decode cX12_readArms 93 = .ok (.iastore, 1) := by decide +kernel
theorem dX12_readArms_94 : decode cX12_readArms 94 = .ok (.aload_n 0, 1) := by decide +kernel
theorem dX12_readArms_95 : decode cX12_readArms 95 = .ok (.getfield 36, 3) := by decide +kernel
theorem dX12_readArms_98 : decode cX12_readArms 98 = .ok (.aload_n 0, 1) := by decide +kernel
theorem dX12_readArms_99 : decode cX12_readArms 99 = .ok (.getfield 122, 3) := by decide +kernel
theorem dX12_readArms_102 : decode cX12_readArms 102 = .ok (.iload 4, 2) := by decide +kernel
theorem dX12_readArms_104 : decode cX12_readArms 104 = .ok (.iastore, 1) := by decide +kernel
theorem dX12_readArms_105 : decode cX12_readArms 105 = .ok (.aload_n 0, 1) := by decide +kernel
theorem dX12_readArms_106 : decode cX12_readArms 106 = .ok (.dup, 1) := by decide +kernel
theorem dX12_readArms_107 : decode cX12_readArms 107 = .ok (.getfield 122, 3) := by decide +kernel
theorem dX12_readArms_110 : decode cX12_readArms 110 = .ok (.iconst 1, 1) := by decide +kernel
theorem dX12_readArms_111 : decode cX12_readArms 111 = .ok (.iadd, 1) := by decide +kernel
theorem dX12_readArms_112 : decode cX12_readArms 112 = .ok (.putfield 122, 3) := by decide +kernel
theorem dX12_readArms_115 : decode cX12_readArms 115 = .ok (.aload_n 0, 1) := by decide +kernel
theorem dX12_readArms_116 : decode cX12_readArms 116 = .ok (.getfield 171, 3) := by decide +kernel
theorem dX12_readArms_119 : decode cX12_readArms 119 = .ok (.aload_n 0, 1) := by decide +kernel
theorem dX12_readArms_120 : decode cX12_readArms 120 = .ok (.getfield 168, 3) := by decide +kernel
theorem dX12_readArms_123 : decode cX12_readArms 123 = .ok (.if_icmp .ge 7, 3) := by decide +kernel
theorem dX12_readArms_126 : decode cX12_readArms 126 = .ok (.iconst 1, 1) := by decide +kernel
theorem dX12_readArms_127 : decode cX12_readArms 127 = .ok (.goto 4, 3) := by decide +kernel
theorem dX12_readArms_130 : decode cX12_readArms 130 = .ok (.iconst 0, 1) := by decide +kernel
theorem dX12_readArms_131 : decode cX12_readArms 131 = .ok (.istore_n 2, 1) := by decide +kernel
theorem dX12_readArms_132 : decode cX12_readArms 132 = .ok (.iload_n 2, 1) := by decide +kernel
theorem dX12_readArms_133 : decode cX12_readArms 133 = .ok (.ifCond .eq 20, 3) := by decide +kernel
theorem dX12_readArms_136 : decode cX12_readArms 136 = .ok (.aload_n 0, 1) := by decide +kernel
theorem dX12_readArms_137 : decode cX12_readArms 137 = .ok (.getfield 122, 3) := by decide +kernel
theorem dX12_readArms_140 : decode cX12_readArms 140 = .ok (.iconst 4, 1) := by decide +kernel
theorem dX12_readArms_141 : decode cX12_readArms 141 = .ok (.if_icmp .ge 16, 3) := by decide +kernel
theorem dX12_readArms_144 : decode cX12_readArms 144 = .ok (.aload_n 0, 1) := by decide +kernel
theorem dX12_readArms_145 : decode cX12_readArms 145 = .ok (.bipush 44, 2) := by decide +kernel
theorem dX12_readArms_147 : decode cX12_readArms 147 = .ok (.invokevirtual 185, 3) := by decide +kernel
theorem dX12_readArms_150 : decode cX12_readArms 150 = .ok (.ifCond .eq 7, 3) := by decide +kernel
theorem dX12_readArms_153 : decode cX12_readArms 153 = .ok (.iconst 1, 1) := by decide +kernel
theorem dX12_readArms_154 : decode cX12_readArms 154 = .ok (.goto 4, 3) := by decide +kernel
theorem dX12_readArms_157 : decode cX12_readArms 157 = .ok (.iconst 0, 1) := by decide +kernel
theorem dX12_readArms_158 : decode cX12_readArms 158 = .ok (.istore_n 1, 1) := by decide +kernel
theorem dX12_readArms_159 : decode cX12_readArms 159 = .ok (.goto (-145), 3) := by decide +kernel
theorem dX12_readArms_162 : decode cX12_readArms 162 = .ok (.iload_n 1, 1) := by decide +kernel
theorem dX12_readArms_163 : decode cX12_readArms 163 = .ok (.ifCond .eq 7, 3) := by decide +kernel
theorem dX12_readArms_166 : decode cX12_readArms 166 = .ok (.iconst (-1), 1) := by decide +kernel
theorem dX12_readArms_167 : decode cX12_readArms 167 = .ok (.goto 7, 3) := by decide +kernel
theorem dX12_readArms_170 : decode cX12_readArms 170 = .ok (.aload_n 0, 1) := by decide +kernel
theorem dX12_readArms_171 : decode cX12_readArms 171 = .ok (.getfield 171, 3) := by decide +kernel
theorem dX12_readArms_174 : decode cX12_readArms 174 = .ok (.istore_n 3, 1) := by decide +kernel
theorem dX12_readArms_175 : decode cX12_readArms 175 = .ok (.aload_n 0, 1) := by decide +kernel
theorem dX12_readArms_176 : decode cX12_readArms 176 = .ok (.iconst 0, 1) := by decide +kernel
theorem dX12_readArms_177 : decode cX12_readArms 177 = .ok (.putfield 168, 3) := by decide +kernel
theorem dX12_readArms_180 : decode cX12_readArms 180 = .ok (.iload_n 3, 1) := by decide +kernel
theorem dX12_readArms_181 : decode cX12_readArms 181 = .ok (.ireturn, 1) := by decide +kernel
theorem dX12_happens_0 : decode cX12_happens 0 = .ok (.aload_n 0, 1) := by decide +kernel
theorem dX12_happens_1 : decode cX12_happens 1 = .ok (.getfield 9, 3) := by decide +kernel
theorem dX12_happens_4 : decode cX12_happens 4 = .ok (.bipush 7, 2) := by decide +kernel
theorem dX12_happens_6 : decode cX12_happens 6 = .ok (.iaload, 1) := by decide +kernel
theorem dX12_happens_7 : decode cX12_happens 7 = .ok (.bipush 60, 2) := by decide +kernel
theorem dX12_happens_9 : decode cX12_happens 9 = .ok (.if_icmp .ne 51, 3) := by decide +kernel
theorem dX12_happens_12 : decode cX12_happens 12 = .ok (.iconst 0, 1) := by decide +kernel
theorem dX12_happens_13 : decode cX12_happens 13 = .ok (.istore_n 3, 1) := by decide +kernel
theorem dX12_happens_14 : decode cX12_happens 14 = .ok (.iload_n 3, 1) := by decide +kernel
theorem dX12_happens_15 : decode cX12_happens 15 = .ok (.sipush 177, 3) := by decide +kernel
theorem dX12_happens_18 : decode cX12_happens 18 = .ok (.if_icmp .ge 31, 3) := by decide +kernel
theorem dX12_happens_21 : decode cX12_happens 21 = .ok (.aload_n 0, 1) := by decide +kernel
theorem dX12_happens_22 : decode cX12_happens 22 = .ok (.getfield 9, 3) := by decide +kernel
theorem dX12_happens_25 : decode cX12_happens 25 = .ok (.sipush 2736, 3) := by decide +kernel
theorem dX12_happens_28 : decode cX12_happens 28 = .ok (.iload_n 3, 1) := by decide +kernel
theorem dX12_happens_29 : decode cX12_happens 29 = .ok (.iadd, 1) := by decide +kernel
theorem dX12_happens_30 : decode cX12_happens 30 = .ok (.aload_n 0, 1) := by decide +kernel
theorem dX12_happens_31 : decode cX12_happens 31 = .ok (.getfield 9, 3) := by decide +kernel
theorem dX12_happens_34 : decode cX12_happens 34 = .ok (.sipush 2736, 3) := by decide +kernel
theorem dX12_happens_37 : decode cX12_happens 37 = .ok (.iload_n 3, 1) := by decide +kernel
theorem dX12_happens_38 : decode cX12_happens 38 = .ok (.iadd, 1) := by decide +kernel
theorem dX12_happens_39 : decode cX12_happens 39 = .ok (.iconst 3, 1) := by decide +kernel
theorem dX12_happens_40 : decode cX12_happens 40 = .ok (.iadd, 1) := by decide +kernel
theorem dX12_happens_41 : decode cX12_happens 41 = .ok (.iaload, 1) := by decide +kernel
theorem dX12_happens_42 : decode cX12_happens 42 = .ok (.iastore, 1) := by decide +kernel
theorem dX12_happens_43 : decode cX12_happens 43 = .ok (.iinc 3 1, 3) := by decide +kernel
theorem dX12_happens_46 : decode cX12_happens 46 = .ok (.goto (-32), 3) := by decide +kernel
theorem dX12_happens_49 : decode cX12_happens 49 = .ok (.aload_n 0, 1) := by decide +kernel
theorem dX12_happens_50 : decode cX12_happens 50 = .ok (.getfield 9, 3) := by decide +kernel
theorem dX12_happens_53 : decode cX12_happens 53 = .ok (.bipush 7, 2) := by decide +kernel
theorem dX12_happens_55 : decode cX12_happens 55 = .ok (.dup2, 1) := by decide +kernel
theorem dX12_happens_56 : decode cX12_happens 56 = .ok (.iaload, 1) := by decide +kernel
theorem dX12_happens_57 : decode cX12_happens 57 = .ok (.iconst 1, 1) := by decide +kernel
theorem dX12_happens_58 : decode cX12_happens 58 = .ok (.isub, 1) := by decide +kernel
theorem dX12_happens_59 : decode cX12_happens 59 = .ok (.iastore, 1) := by decide +kernel
theorem dX12_happens_60 : decode cX12_happens 60 = .ok (.sipush 2736, 3) := by decide +kernel
theorem dX12_happens_63 : decode cX12_happens 63 = .ok (.iconst 3, 1) := by decide +kernel
theorem dX12_happens_64 : decode cX12_happens 64 = .ok (.aload_n 0, 1) := by decide +kernel
theorem dX12_happens_65 : decode cX12_happens 65 = .ok (.getfield 9, 3) := by decide +kernel
theorem dX12_happens_68 : decode cX12_happens 68 = .ok (.bipush 7, 2) := by decide +kernel
theorem dX12_happens_70 : decode cX12_happens 70 = .ok (.iaload, 1) := by decide +kernel
theorem dX12_happens_71 : decode cX12_happens 71 = .ok (.imul, 1) := by decide +kernel
theorem dX12_happens_72 : decode cX12_happens 72 = .ok (.iadd, 1) := by decide +kernel
theorem dX12_happens_73 : decode cX12_happens 73 = .ok (.istore_n 3, 1) := by decide +kernel
theorem dX12_happens_74 : decode cX12_happens 74 = .ok (.aload_n 0, 1) := by decide +kernel
theorem dX12_happens_75 : decode cX12_happens 75 = .ok (.getfield 9, 3) := by decide +kernel
theorem dX12_happens_78 : decode cX12_happens 78 = .ok (.iload_n 3, 1) := by decide +kernel
theorem dX12_happens_79 : decode cX12_happens 79 = .ok (.aload_n 0, 1) := by decide +kernel
theorem dX12_happens_80 : decode cX12_happens 80 = .ok (.getfield 9, 3) := by decide +kernel
theorem dX12_happens_83 : decode cX12_happens 83 = .ok (.iconst 0, 1) := by decide +kernel
theorem dX12_happens_84 : decode cX12_happens 84 = .ok (.iaload, 1) := by decide +kernel
theorem dX12_happens_85 : decode cX12_happens 85 = .ok (.iastore, 1) := by decide +kernel
theorem dX12_happens_86 : decode cX12_happens 86 = .ok (.aload_n 0, 1) := by decide +kernel
theorem dX12_happens_87 : decode cX12_happens 87 = .ok (.getfield 9, 3) := by decide +kernel
theorem dX12_happens_90 : decode cX12_happens 90 = .ok (.iload_n 3, 1) := by decide +kernel
theorem dX12_happens_91 : decode cX12_happens 91 = .ok (.iconst 1, 1) := by decide +kernel
theorem dX12_happens_92 : decode cX12_happens 92 = .ok (.iadd, 1) := by decide +kernel
theorem dX12_happens_93 : decode cX12_happens 93 = .ok (.iload_n 1, 1) := by decide +kernel
theorem dX12_happens_94 : decode cX12_happens 94 = .ok (.iastore, 1) := by decide +kernel
theorem dX12_happens_95 : decode cX12_happens 95 = .ok (.aload_n 0, 1) := by decide +kernel
theorem dX12_happens_96 : decode cX12_happens 96 = .ok (.getfield 9, 3) := by decide +kernel
theorem dX12_happens_99 : decode cX12_happens 99 = .ok (.iload_n 3, 1) := by decide +kernel
theorem dX12_happens_100 : decode cX12_happens 100 = .ok (.iconst 2, 1) := by decide +kernel
theorem dX12_happens_101 : decode cX12_happens 101 = .ok (.iadd, 1) := by decide +kernel
theorem dX12_happens_102 : decode cX12_happens 102 = .ok (.iload_n 2, 1) := by decide +kernel
theorem dX12_happens_103 : decode cX12_happens 103 = .ok (.iastore, 1) := by decide +kernel
theorem dX12_happens_104 : decode cX12_happens 104 = .ok (.aload_n 0, 1) := by decide +kernel
theorem dX12_happens_105 : decode cX12_happens 105 = .ok (.getfield 9, 3) := by decide +kernel
theorem dX12_happens_108 : decode cX12_happens 108 = .ok (.bipush 7, 2) := by decide +kernel
theorem dX12_happens_110 : decode cX12_happens 110 = .ok (.dup2, 1) := by decide +kernel
theorem dX12_happens_111 : decode cX12_happens 111 = .ok (.iaload, 1) := by decide +kernel
theorem dX12_happens_112 : decode cX12_happens 112 = .ok (.iconst 1, 1) := by decide +kernel
theorem dX12_happens_113 : decode cX12_happens 113 = .ok (.iadd, 1) := by decide +kernel
theorem dX12_happens_114 : decode cX12_happens 114 = .ok (.iastore, 1) := by decide +kernel
theorem dX12_happens_115 : decode cX12_happens 115 = .ok (.return_, 1) := by decide +kernel
theorem dX12_comes_0 : decode cX12_comes 0 = .ok (.aload_n 0, 1) := by decide +kernel
theorem dX12_comes_1 : decode cX12_comes 1 = .ok (.getfield 9, 3) := by decide +kernel
theorem dX12_comes_4 : decode cX12_comes 4 = .ok (.iconst 1, 1) := by decide +kernel
theorem dX12_comes_5 : decode cX12_comes 5 = .ok (.iaload, 1) := by decide +kernel
theorem dX12_comes_6 : decode cX12_comes 6 = .ok (.istore 5, 2) := by decide +kernel
theorem dX12_comes_8 : decode cX12_comes 8 = .ok (.aload_n 0, 1) := by decide +kernel
theorem dX12_comes_9 : decode cX12_comes 9 = .ok (.getfield 9, 3) := by decide +kernel
theorem dX12_comes_12 : decode cX12_comes 12 = .ok (.iconst 1, 1) := by decide +kernel
theorem dX12_comes_13 : decode cX12_comes 13 = .ok (.dup2, 1) := by decide +kernel
theorem dX12_comes_14 : decode cX12_comes 14 = .ok (.iaload, 1) := by decide +kernel
theorem dX12_comes_15 : decode cX12_comes 15 = .ok (.iconst 1, 1) := by decide +kernel
theorem dX12_comes_16 : decode cX12_comes 16 = .ok (.iadd, 1) := by decide +kernel
theorem dX12_comes_17 : decode cX12_comes 17 = .ok (.iastore, 1) := by decide +kernel
theorem dX12_comes_18 : decode cX12_comes 18 = .ok (.aload_n 0, 1) := by decide +kernel
theorem dX12_comes_19 : decode cX12_comes 19 = .ok (.iload 5, 2) := by decide +kernel
theorem dX12_comes_21 : decode cX12_comes 21 = .ok (.iconst 0, 1) := by decide +kernel
theorem dX12_comes_22 : decode cX12_comes 22 = .ok (.iload_n 1, 1) := by decide +kernel
theorem dX12_comes_23 : decode cX12_comes 23 = .ok (.invokevirtual 188, 3) := by decide +kernel
theorem dX12_comes_26 : decode cX12_comes 26 = .ok (.aload_n 0, 1) := by decide +kernel
theorem dX12_comes_27 : decode cX12_comes 27 = .ok (.iload 5, 2) := by decide +kernel
theorem dX12_comes_29 : decode cX12_comes 29 = .ok (.iconst 1, 1) := by decide +kernel
theorem dX12_comes_30 : decode cX12_comes 30 = .ok (.iload_n 2, 1) := by decide +kernel
theorem dX12_comes_31 : decode cX12_comes 31 = .ok (.invokevirtual 188, 3) := by decide +kernel
theorem dX12_comes_34 : decode cX12_comes 34 = .ok (.aload_n 0, 1) := by decide +kernel
theorem dX12_comes_35 : decode cX12_comes 35 = .ok (.iload 5, 2) := by decide +kernel
theorem dX12_comes_37 : decode cX12_comes 37 = .ok (.iconst 2, 1) := by decide +kernel
theorem dX12_comes_38 : decode cX12_comes 38 = .ok (.iload_n 3, 1) := by decide +kernel
theorem dX12_comes_39 : decode cX12_comes 39 = .ok (.invokevirtual 188, 3) := by decide +kernel
theorem dX12_comes_42 : decode cX12_comes 42 = .ok (.aload_n 0, 1) := by decide +kernel
theorem dX12_comes_43 : decode cX12_comes 43 = .ok (.iload 5, 2) := by decide +kernel
theorem dX12_comes_45 : decode cX12_comes 45 = .ok (.iconst 3, 1) := by decide +kernel
theorem dX12_comes_46 : decode cX12_comes 46 = .ok (.iload 4, 2) := by decide +kernel
theorem dX12_comes_48 : decode cX12_comes 48 = .ok (.invokevirtual 188, 3) := by decide +kernel
theorem dX12_comes_51 : decode cX12_comes 51 = .ok (.aload_n 0, 1) := by decide +kernel
theorem dX12_comes_52 : decode cX12_comes 52 = .ok (.iload 5, 2) := by decide +kernel
theorem dX12_comes_54 : decode cX12_comes 54 = .ok (.iconst 4, 1) := by decide +kernel
theorem dX12_comes_55 : decode cX12_comes 55 = .ok (.aload_n 0, 1) := by decide +kernel
theorem dX12_comes_56 : decode cX12_comes 56 = .ok (.getfield 122, 3) := by decide +kernel
theorem dX12_comes_59 : decode cX12_comes 59 = .ok (.invokevirtual 188, 3) := by decide +kernel
theorem dX12_comes_62 : decode cX12_comes 62 = .ok (.aload_n 0, 1) := by decide +kernel
theorem dX12_comes_63 : decode cX12_comes 63 = .ok (.iload 5, 2) := by decide +kernel
theorem dX12_comes_65 : decode cX12_comes 65 = .ok (.iconst 5, 1) := by decide +kernel
theorem dX12_comes_66 : decode cX12_comes 66 = .ok (.iconst 0, 1) := by decide +kernel
theorem dX12_comes_67 : decode cX12_comes 67 = .ok (.invokevirtual 188, 3) := by decide +kernel
theorem dX12_comes_70 : decode cX12_comes 70 = .ok (.aload_n 0, 1) := by decide +kernel
theorem dX12_comes_71 : decode cX12_comes 71 = .ok (.iload 5, 2) := by decide +kernel
theorem dX12_comes_73 : decode cX12_comes 73 = .ok (.bipush 6, 2) := by decide +kernel
theorem dX12_comes_75 : decode cX12_comes 75 = .ok (.iconst (-1), 1) := by decide +kernel
theorem dX12_comes_76 : decode cX12_comes 76 = .ok (.invokevirtual 188, 3) := by decide +kernel
theorem dX12_comes_79 : decode cX12_comes 79 = .ok (.aload_n 0, 1) := by decide +kernel
theorem dX12_comes_80 : decode cX12_comes 80 = .ok (.iload 5, 2) := by decide +kernel
theorem dX12_comes_82 : decode cX12_comes 82 = .ok (.bipush 7, 2) := by decide +kernel
theorem dX12_comes_84 : decode cX12_comes 84 = .ok (.iconst (-1), 1) := by decide +kernel
theorem dX12_comes_85 : decode cX12_comes 85 = .ok (.invokevirtual 188, 3) := by decide +kernel
theorem dX12_comes_88 : decode cX12_comes 88 = .ok (.aload_n 0, 1) := by decide +kernel
theorem dX12_comes_89 : decode cX12_comes 89 = .ok (.iload 5, 2) := by decide +kernel
theorem dX12_comes_91 : decode cX12_comes 91 = .ok (.bipush 8, 2) := by decide +kernel
theorem dX12_comes_93 : decode cX12_comes 93 = .ok (.iconst (-1), 1) := by decide +kernel
theorem dX12_comes_94 : decode cX12_comes 94 = .ok (.invokevirtual 188, 3) := by decide +kernel
theorem dX12_comes_97 : decode cX12_comes 97 = .ok (.aload_n 0, 1) := by decide +kernel
theorem dX12_comes_98 : decode cX12_comes 98 = .ok (.iload 5, 2) := by decide +kernel
theorem dX12_comes_100 : decode cX12_comes 100 = .ok (.bipush 9, 2) := by decide +kernel
theorem dX12_comes_102 : decode cX12_comes 102 = .ok (.iconst (-1), 1) := by decide +kernel
theorem dX12_comes_103 : decode cX12_comes 103 = .ok (.invokevirtual 188, 3) := by decide +kernel
theorem dX12_comes_106 : decode cX12_comes 106 = .ok (.aload_n 0, 1) := by decide +kernel
theorem dX12_comes_107 : decode cX12_comes 107 = .ok (.iload 5, 2) := by decide +kernel
theorem dX12_comes_109 : decode cX12_comes 109 = .ok (.bipush 10, 2) := by decide +kernel
theorem dX12_comes_111 : decode cX12_comes 111 = .ok (.iconst 0, 1) := by decide +kernel
theorem dX12_comes_112 : decode cX12_comes 112 = .ok (.invokevirtual 188, 3) := by decide +kernel
theorem dX12_comes_115 : decode cX12_comes 115 = .ok (.aload_n 0, 1) := by decide +kernel
theorem dX12_comes_116 : decode cX12_comes 116 = .ok (.iload 5, 2) := by decide +kernel
theorem dX12_comes_118 : decode cX12_comes 118 = .ok (.bipush 11, 2) := by decide +kernel
theorem dX12_comes_120 : decode cX12_comes 120 = .ok (.aload_n 0, 1) := by decide +kernel
theorem dX12_comes_121 : decode cX12_comes 121 = .ok (.getfield 9, 3) := by decide +kernel
theorem dX12_comes_124 : decode cX12_comes 124 = .ok (.iconst 0, 1) := by decide +kernel
theorem dX12_comes_125 : decode cX12_comes 125 = .ok (.iaload, 1) := by decide +kernel
theorem dX12_comes_126 : decode cX12_comes 126 = .ok (.invokevirtual 188, 3) := by decide +kernel
theorem dX12_comes_129 : decode cX12_comes 129 = .ok (.iconst 0, 1) := by decide +kernel
theorem dX12_comes_130 : decode cX12_comes 130 = .ok (.istore 6, 2) := by decide +kernel
theorem dX12_comes_132 : decode cX12_comes 132 = .ok (.iload 6, 2) := by decide +kernel
theorem dX12_comes_134 : decode cX12_comes 134 = .ok (.aload_n 0, 1) := by decide +kernel
theorem dX12_comes_135 : decode cX12_comes 135 = .ok (.getfield 122, 3) := by decide +kernel
theorem dX12_comes_138 : decode cX12_comes 138 = .ok (.if_icmp .ge 69, 3) := by decide +kernel
theorem dX12_comes_141 : decode cX12_comes 141 = .ok (.aload_n 0, 1) := by decide +kernel
theorem dX12_comes_142 : decode cX12_comes 142 = .ok (.iload 5, 2) := by decide +kernel
theorem dX12_comes_144 : decode cX12_comes 144 = .ok (.bipush 12, 2) := by decide +kernel
theorem dX12_comes_146 : decode cX12_comes 146 = .ok (.iload 6, 2) := by decide +kernel
theorem dX12_comes_148 : decode cX12_comes 148 = .ok (.iadd, 1) := by decide +kernel
theorem dX12_comes_149 : decode cX12_comes 149 = .ok (.aload_n 0, 1) := by decide +kernel
theorem dX12_comes_150 : decode cX12_comes 150 = .ok (.getfield 33, 3) := by decide +kernel
theorem dX12_comes_153 : decode cX12_comes 153 = .ok (.iload 6, 2) := by decide +kernel
theorem dX12_comes_155 : decode cX12_comes 155 = .ok (.iaload, 1) := by decide +kernel
theorem dX12_comes_156 : decode cX12_comes 156 = .ok (.invokevirtual 188, 3) := by decide +kernel
theorem dX12_comes_159 : decode cX12_comes 159 = .ok (.aload_n 0, 1) := by decide +kernel
theorem dX12_comes_160 : decode cX12_comes 160 = .ok (.iload 5, 2) := by decide +kernel
theorem dX12_comes_162 : decode cX12_comes 162 = .ok (.bipush 16, 2) := by decide +kernel
theorem dX12_comes_164 : decode cX12_comes 164 = .ok (.iload 6, 2) := by decide +kernel
theorem dX12_comes_166 : decode cX12_comes 166 = .ok (.iadd, 1) := by decide +kernel
theorem dX12_comes_167 : decode cX12_comes 167 = .ok (.aload_n 0, 1) := by decide +kernel
theorem dX12_comes_168 : decode cX12_comes 168 = .ok (.getfield 36, 3) := by decide +kernel
theorem dX12_comes_171 : decode cX12_comes 171 = .ok (.iload 6, 2) := by decide +kernel
theorem dX12_comes_173 : decode cX12_comes 173 = .ok (.iaload, 1) := by decide +kernel
theorem dX12_comes_174 : decode cX12_comes 174 = .ok (.invokevirtual 188, 3) := by decide +kernel
theorem dX12_comes_177 : decode cX12_comes 177 = .ok (.aload_n 0, 1) := by decide +kernel
theorem dX12_comes_178 : decode cX12_comes 178 = .ok (.iload 5, 2) := by decide +kernel
theorem dX12_comes_180 : decode cX12_comes 180 = .ok (.bipush 20, 2) := by decide +kernel
theorem dX12_comes_182 : decode cX12_comes 182 = .ok (.iload 6, 2) := by decide +kernel
theorem dX12_comes_184 : decode cX12_comes 184 = .ok (.iadd, 1) := by decide +kernel
theorem dX12_comes_185 : decode cX12_comes 185 = .ok (.iconst (-1), 1) := by decide +kernel
theorem dX12_comes_186 : decode cX12_comes 186 = .ok (.invokevirtual 188, 3) := by decide +kernel
theorem dX12_comes_189 : decode cX12_comes 189 = .ok (.aload_n 0, 1) := by decide +kernel
theorem dX12_comes_190 : decode cX12_comes 190 = .ok (.iload 5, 2) := by decide +kernel
theorem dX12_comes_192 : decode cX12_comes 192 = .ok (.bipush 24, 2) := by decide +kernel
theorem dX12_comes_194 : decode cX12_comes 194 = .ok (.iload 6, 2) := by decide +kernel
theorem dX12_comes_196 : decode cX12_comes 196 = .ok (.iadd, 1) := by decide +kernel
theorem dX12_comes_197 : decode cX12_comes 197 = .ok (.iconst (-1), 1) := by decide +kernel
theorem dX12_comes_198 : decode cX12_comes 198 = .ok (.invokevirtual 188, 3) := by decide +kernel
theorem dX12_comes_201 : decode cX12_comes 201 = .ok (.iinc 6 1, 3) := by decide +kernel
theorem dX12_comes_204 : decode cX12_comes 204 = .ok (.goto (-72), 3) := by decide +kernel
theorem dX12_comes_207 : decode cX12_comes 207 = .ok (.aload_n 0, 1) := by decide +kernel
theorem dX12_comes_208 : decode cX12_comes 208 = .ok (.iconst 0, 1) := by decide +kernel
theorem dX12_comes_209 : decode cX12_comes 209 = .ok (.iload 5, 2) := by decide +kernel
theorem dX12_comes_211 : decode cX12_comes 211 = .ok (.invokevirtual 192, 3) := by decide +kernel
theorem dX12_comes_214 : decode cX12_comes 214 = .ok (.iload 5, 2) := by decide +kernel
theorem dX12_comes_216 : decode cX12_comes 216 = .ok (.ireturn, 1) := by decide +kernel
theorem dX12_job_0 : decode cX12_job 0 = .ok (.iload_n 1, 1) := by decide +kernel
theorem dX12_job_1 : decode cX12_job 1 = .ok (.invokestatic 145, 3) := by decide +kernel
theorem dX12_job_4 : decode cX12_job 4 = .ok (.ifCond .eq 42, 3) := by decide +kernel
theorem dX12_job_7 : decode cX12_job 7 = .ok (.iload_n 2, 1) := by decide +kernel
theorem dX12_job_8 : decode cX12_job 8 = .ok (.i2l, 1) := by decide +kernel
theorem dX12_job_9 : decode cX12_job 9 = .ok (.lconst 0, 1) := by decide +kernel
theorem dX12_job_10 : decode cX12_job 10 = .ok (.ldc2_w 196, 3) := by decide +kernel
theorem dX12_job_13 : decode cX12_job 13 = .ok (.invokestatic 79, 3) := by decide +kernel
theorem dX12_job_16 : decode cX12_job 16 = .ok (.ifCond .eq 30, 3) := by decide +kernel
theorem dX12_job_19 : decode cX12_job 19 = .ok (.iload_n 3, 1) := by decide +kernel
theorem dX12_job_20 : decode cX12_job 20 = .ok (.i2l, 1) := by decide +kernel
theorem dX12_job_21 : decode cX12_job 21 = .ok (.lconst 1, 1) := by decide +kernel
theorem dX12_job_22 : decode cX12_job 22 = .ok (.ldc2_w 198, 3) := by decide +kernel
theorem dX12_job_25 : decode cX12_job 25 = .ok (.invokestatic 79, 3) := by decide +kernel
theorem dX12_job_28 : decode cX12_job 28 = .ok (.ifCond .eq 18, 3) := by decide +kernel
theorem dX12_job_31 : decode cX12_job 31 = .ok (.iload 4, 2) := by decide +kernel
theorem dX12_job_33 : decode cX12_job 33 = .ok (.iconst (-1), 1) := by decide +kernel
theorem dX12_job_34 : decode cX12_job 34 = .ok (.if_icmp .eq 14, 3) := by decide +kernel
theorem dX12_job_37 : decode cX12_job 37 = .ok (.aload_n 0, 1) := by decide +kernel
theorem dX12_job_38 : decode cX12_job 38 = .ok (.iload 4, 2) := by decide +kernel
theorem dX12_job_40 : decode cX12_job 40 = .ok (.invokevirtual 200, 3) := by decide +kernel
theorem dX12_job_43 : decode cX12_job 43 = .ok (.ifCond .ne 5, 3) := by decide +kernel
theorem dX12_job_46 : decode cX12_job 46 = .ok (.iconst (-1), 1) := by decide +kernel
theorem dX12_job_47 : decode cX12_job 47 = .ok (.ireturn, 1) := by decide +kernel
theorem dX12_job_48 : decode cX12_job 48 = .ok (.aload_n 0, 1) := by decide +kernel
theorem dX12_job_49 : decode cX12_job 49 = .ok (.getfield 9, 3) := by decide +kernel
theorem dX12_job_52 : decode cX12_job 52 = .ok (.iconst 1, 1) := by decide +kernel
theorem dX12_job_53 : decode cX12_job 53 = .ok (.iaload, 1) := by decide +kernel
theorem dX12_job_54 : decode cX12_job 54 = .ok (.bipush 80, 2) := by decide +kernel
theorem dX12_job_56 : decode cX12_job 56 = .ok (.if_icmp .ne 6, 3) := by decide +kernel
theorem dX12_job_59 : decode cX12_job 59 = .ok (.bipush (-3), 2) := by decide +kernel
theorem dX12_job_61 : decode cX12_job 61 = .ok (.ireturn, 1) := by decide +kernel
theorem dX12_job_62 : decode cX12_job 62 = .ok (.iload 4, 2) := by decide +kernel
theorem dX12_job_64 : decode cX12_job 64 = .ok (.ifCond .lt 17, 3) := by decide +kernel
theorem dX12_job_67 : decode cX12_job 67 = .ok (.aload_n 0, 1) := by decide +kernel
theorem dX12_job_68 : decode cX12_job 68 = .ok (.iload 4, 2) := by decide +kernel
theorem dX12_job_70 : decode cX12_job 70 = .ok (.iconst 5, 1) := by decide +kernel
theorem dX12_job_71 : decode cX12_job 71 = .ok (.invokevirtual 83, 3) := by decide +kernel
theorem dX12_job_74 : decode cX12_job 74 = .ok (.iconst 4, 1) := by decide +kernel
theorem dX12_job_75 : decode cX12_job 75 = .ok (.if_icmp .ne 6, 3) := by decide +kernel
theorem dX12_job_78 : decode cX12_job 78 = .ok (.bipush (-5), 2) := by decide +kernel
theorem dX12_job_80 : decode cX12_job 80 = .ok (.ireturn, 1) := by decide +kernel
theorem dX12_job_81 : decode cX12_job 81 = .ok (.aload_n 0, 1) := by decide +kernel
theorem dX12_job_82 : decode cX12_job 82 = .ok (.invokevirtual 203, 3) := by decide +kernel
theorem dX12_job_85 : decode cX12_job 85 = .ok (.istore 5, 2) := by decide +kernel
theorem dX12_job_87 : decode cX12_job 87 = .ok (.iload 5, 2) := by decide +kernel
theorem dX12_job_89 : decode cX12_job 89 = .ok (.ifCond .lt 11, 3) := by decide +kernel
theorem dX12_job_92 : decode cX12_job 92 = .ok (.bipush (-100), 2) := by decide +kernel
theorem dX12_job_94 : decode cX12_job 94 = .ok (.iload 5, 2) := by decide +kernel
theorem dX12_job_96 : decode cX12_job 96 = .ok (.isub, 1) := by decide +kernel
theorem dX12_job_97 : decode cX12_job 97 = .ok (.goto 12, 3) := by decide +kernel
theorem dX12_job_100 : decode cX12_job 100 = .ok (.aload_n 0, 1) := by decide +kernel
theorem dX12_job_101 : decode cX12_job 101 = .ok (.iload_n 1, 1) := by decide +kernel
theorem dX12_job_102 : decode cX12_job 102 = .ok (.iload_n 2, 1) := by decide +kernel
theorem dX12_job_103 : decode cX12_job 103 = .ok (.iload_n 3, 1) := by decide +kernel
theorem dX12_job_104 : decode cX12_job 104 = .ok (.iload 4, 2) := by decide +kernel
theorem dX12_job_106 : decode cX12_job 106 = .ok (.invokevirtual 207, 3) := by decide +kernel
theorem dX12_job_109 : decode cX12_job 109 = .ok (.ireturn, 1) := by decide +kernel
theorem dX12_offs_0 : decode cX12_offs 0 = .ok (.iconst 0, 1) := by decide +kernel
theorem dX12_offs_1 : decode cX12_offs 1 = .ok (.istore_n 2, 1) := by decide +kernel
theorem dX12_offs_2 : decode cX12_offs 2 = .ok (.iload_n 2, 1) := by decide +kernel
theorem dX12_offs_3 : decode cX12_offs 3 = .ok (.aload_n 0, 1) := by decide +kernel
theorem dX12_offs_4 : decode cX12_offs 4 = .ok (.iload_n 1, 1) := by decide +kernel
theorem dX12_offs_5 : decode cX12_offs 5 = .ok (.iconst 4, 1) := by decide +kernel
theorem dX12_offs_6 : decode cX12_offs 6 = .ok (.invokevirtual 83, 3) := by decide +kernel
theorem dX12_offs_9 : decode cX12_offs 9 = .ok (.if_icmp .ge 33, 3) := by decide +kernel
theorem dX12_offs_12 : decode cX12_offs 12 = .ok (.aload_n 0, 1) := by decide +kernel
theorem dX12_offs_13 : decode cX12_offs 13 = .ok (.iload_n 1, 1) := by decide +kernel
theorem dX12_offs_14 : decode cX12_offs 14 = .ok (.iload_n 2, 1) := by decide +kernel
theorem dX12_offs_15 : decode cX12_offs 15 = .ok (.invokevirtual 98, 3) := by decide +kernel
theorem dX12_offs_18 : decode cX12_offs 18 = .ok (.ifCond .eq 18, 3) := by decide +kernel
theorem dX12_offs_21 : decode cX12_offs 21 = .ok (.aload_n 0, 1) := by decide +kernel
theorem dX12_offs_22 : decode cX12_offs 22 = .ok (.iload_n 1, 1) := by decide +kernel
theorem dX12_offs_23 : decode cX12_offs 23 = .ok (.bipush 24, 2) := by decide +kernel
theorem dX12_offs_25 : decode cX12_offs 25 = .ok (.iload_n 2, 1) := by decide +kernel
theorem dX12_offs_26 : decode cX12_offs 26 = .ok (.iadd, 1) := by decide +kernel
theorem dX12_offs_27 : decode cX12_offs 27 = .ok (.aload_n 0, 1) := by decide +kernel
theorem dX12_offs_28 : decode cX12_offs 28 = .ok (.getfield 9, 3) := by decide +kernel
theorem dX12_offs_31 : decode cX12_offs 31 = .ok (.iconst 0, 1) := by decide +kernel
theorem dX12_offs_32 : decode cX12_offs 32 = .ok (.iaload, 1) := by decide +kernel
theorem dX12_offs_33 : decode cX12_offs 33 = .ok (.invokevirtual 188, 3) := by decide +kernel
theorem dX12_offs_36 : decode cX12_offs 36 = .ok (.iinc 2 1, 3) := by decide +kernel
theorem dX12_offs_39 : decode cX12_offs 39 = .ok (.goto (-37), 3) := by decide +kernel
theorem dX12_offs_42 : decode cX12_offs 42 = .ok (.aload_n 0, 1) := by decide +kernel
theorem dX12_offs_43 : decode cX12_offs 43 = .ok (.iload_n 1, 1) := by decide +kernel
theorem dX12_offs_44 : decode cX12_offs 44 = .ok (.iconst 5, 1) := by decide +kernel
theorem dX12_offs_45 : decode cX12_offs 45 = .ok (.iconst 4, 1) := by decide +kernel
theorem dX12_offs_46 : decode cX12_offs 46 = .ok (.invokevirtual 188, 3) := by decide +kernel
theorem dX12_offs_49 : decode cX12_offs 49 = .ok (.aload_n 0, 1) := by decide +kernel
theorem dX12_offs_50 : decode cX12_offs 50 = .ok (.iload_n 1, 1) := by decide +kernel
theorem dX12_offs_51 : decode cX12_offs 51 = .ok (.bipush 7, 2) := by decide +kernel
theorem dX12_offs_53 : decode cX12_offs 53 = .ok (.aload_n 0, 1) := by decide +kernel
theorem dX12_offs_54 : decode cX12_offs 54 = .ok (.getfield 9, 3) := by decide +kernel
theorem dX12_offs_57 : decode cX12_offs 57 = .ok (.iconst 0, 1) := by decide +kernel
theorem dX12_offs_58 : decode cX12_offs 58 = .ok (.iaload, 1) := by decide +kernel
theorem dX12_offs_59 : decode cX12_offs 59 = .ok (.invokevirtual 188, 3) := by decide +kernel
theorem dX12_offs_62 : decode cX12_offs 62 = .ok (.aload_n 0, 1) := by decide +kernel
theorem dX12_offs_63 : decode cX12_offs 63 = .ok (.iload_n 1, 1) := by decide +kernel
theorem dX12_offs_64 : decode cX12_offs 64 = .ok (.bipush 9, 2) := by decide +kernel
theorem dX12_offs_66 : decode cX12_offs 66 = .ok (.iconst (-1), 1) := by decide +kernel
theorem dX12_offs_67 : decode cX12_offs 67 = .ok (.invokevirtual 188, 3) := by decide +kernel
theorem dX12_offs_70 : decode cX12_offs 70 = .ok (.aload_n 0, 1) := by decide +kernel
theorem dX12_offs_71 : decode cX12_offs 71 = .ok (.iconst 4, 1) := by decide +kernel
theorem dX12_offs_72 : decode cX12_offs 72 = .ok (.iload_n 1, 1) := by decide +kernel
theorem dX12_offs_73 : decode cX12_offs 73 = .ok (.invokevirtual 192, 3) := by decide +kernel
theorem dX12_offs_76 : decode cX12_offs 76 = .ok (.aload_n 0, 1) := by decide +kernel
theorem dX12_offs_77 : decode cX12_offs 77 = .ok (.getfield 19, 3) := by decide +kernel
theorem dX12_offs_80 : decode cX12_offs 80 = .ok (.bipush 11, 2) := by decide +kernel
theorem dX12_offs_82 : decode cX12_offs 82 = .ok (.dup2, 1) := by decide +kernel
theorem dX12_offs_83 : decode cX12_offs 83 = .ok (.laload, 1) := by decide +kernel
theorem dX12_offs_84 : decode cX12_offs 84 = .ok (.lconst 1, 1) := by decide +kernel
theorem dX12_offs_85 : decode cX12_offs 85 = .ok (.ladd, 1) := by decide +kernel
theorem dX12_offs_86 : decode cX12_offs 86 = .ok (.lastore, 1) := by decide +kernel
theorem dX12_offs_87 : decode cX12_offs 87 = .ok (.iconst 1, 1) := by decide +kernel
theorem dX12_offs_88 : decode cX12_offs 88 = .ok (.istore_n 2, 1) := by decide +kernel
theorem dX12_offs_89 : decode cX12_offs 89 = .ok (.iload_n 1, 1) := by decide +kernel
theorem dX12_offs_90 : decode cX12_offs 90 = .ok (.iconst 1, 1) := by decide +kernel
theorem dX12_offs_91 : decode cX12_offs 91 = .ok (.iadd, 1) := by decide +kernel
theorem dX12_offs_92 : decode cX12_offs 92 = .ok (.istore_n 3, 1) := by decide +kernel
theorem dX12_offs_93 : decode cX12_offs 93 = .ok (.iload_n 3, 1) := by decide +kernel
theorem dX12_offs_94 : decode cX12_offs 94 = .ok (.aload_n 0, 1) := by decide +kernel
theorem dX12_offs_95 : decode cX12_offs 95 = .ok (.getfield 9, 3) := by decide +kernel
theorem dX12_offs_98 : decode cX12_offs 98 = .ok (.iconst 1, 1) := by decide +kernel
theorem dX12_offs_99 : decode cX12_offs 99 = .ok (.iaload, 1) := by decide +kernel
theorem dX12_offs_100 : decode cX12_offs 100 = .ok (.if_icmp .ge 39, 3) := by decide +kernel
theorem dX12_offs_103 : decode cX12_offs 103 = .ok (.iload_n 2, 1) := by decide +kernel
theorem dX12_offs_104 : decode cX12_offs 104 = .ok (.aload_n 0, 1) := by decide +kernel
theorem dX12_offs_105 : decode cX12_offs 105 = .ok (.iload_n 3, 1) := by decide +kernel
theorem dX12_offs_106 : decode cX12_offs 106 = .ok (.invokevirtual 211, 3) := by decide +kernel
theorem dX12_offs_109 : decode cX12_offs 109 = .ok (.ifCond .eq 21, 3) := by decide +kernel
theorem dX12_offs_112 : decode cX12_offs 112 = .ok (.aload_n 0, 1) := by decide +kernel
theorem dX12_offs_113 : decode cX12_offs 113 = .ok (.iload_n 3, 1) := by decide +kernel
theorem dX12_offs_114 : decode cX12_offs 114 = .ok (.iconst 3, 1) := by decide +kernel
theorem dX12_offs_115 : decode cX12_offs 115 = .ok (.invokevirtual 83, 3) := by decide +kernel
theorem dX12_offs_118 : decode cX12_offs 118 = .ok (.iload_n 1, 1) := by decide +kernel
theorem dX12_offs_119 : decode cX12_offs 119 = .ok (.if_icmp .ne 11, 3) := by decide +kernel
theorem dX12_offs_122 : decode cX12_offs 122 = .ok (.aload_n 0, 1) := by decide +kernel
theorem dX12_offs_123 : decode cX12_offs 123 = .ok (.iload_n 3, 1) := by decide +kernel
theorem dX12_offs_124 : decode cX12_offs 124 = .ok (.invokevirtual 214, 3) := by decide +kernel
theorem dX12_offs_127 : decode cX12_offs 127 = .ok (.goto 4, 3) := by decide +kernel
theorem dX12_offs_130 : decode cX12_offs 130 = .ok (.iconst 0, 1) := by decide +kernel
theorem dX12_offs_131 : decode cX12_offs 131 = .ok (.iadd, 1) := by decide +kernel
theorem dX12_offs_132 : decode cX12_offs 132 = .ok (.istore_n 2, 1) := by decide +kernel
theorem dX12_offs_133 : decode cX12_offs 133 = .ok (.iinc 3 1, 3) := by decide +kernel
theorem dX12_offs_136 : decode cX12_offs 136 = .ok (.goto (-43), 3) := by decide +kernel
theorem dX12_offs_139 : decode cX12_offs 139 = .ok (.iload_n 2, 1) := by decide +kernel
theorem dX12_offs_140 : decode cX12_offs 140 = .ok (.ireturn, 1) := by decide +kernel
theorem dX12_off_0 : decode cX12_off 0 = .ok (.aload_n 0, 1) := by decide +kernel
theorem dX12_off_1 : decode cX12_off 1 = .ok (.iload_n 1, 1) := by decide +kernel
theorem dX12_off_2 : decode cX12_off 2 = .ok (.invokevirtual 200, 3) := by decide +kernel
theorem dX12_off_5 : decode cX12_off 5 = .ok (.ifCond .ne 5, 3) := by decide +kernel
theorem dX12_off_8 : decode cX12_off 8 = .ok (.iconst (-1), 1) := by decide +kernel
theorem dX12_off_9 : decode cX12_off 9 = .ok (.ireturn, 1) := by decide +kernel
theorem dX12_off_10 : decode cX12_off 10 = .ok (.aload_n 0, 1) := by decide +kernel
theorem dX12_off_11 : decode cX12_off 11 = .ok (.iload_n 1, 1) := by decide +kernel
theorem dX12_off_12 : decode cX12_off 12 = .ok (.iconst 5, 1) := by decide +kernel
theorem dX12_off_13 : decode cX12_off 13 = .ok (.invokevirtual 83, 3) := by decide +kernel
theorem dX12_off_16 : decode cX12_off 16 = .ok (.iconst 1, 1) := by decide +kernel
theorem dX12_off_17 : decode cX12_off 17 = .ok (.if_icmp .le 8, 3) := by decide +kernel
theorem dX12_off_20 : decode cX12_off 20 = .ok (.bipush (-5), 2) := by decide +kernel
theorem dX12_off_22 : decode cX12_off 22 = .ok (.goto 8, 3) := by decide +kernel
theorem dX12_off_25 : decode cX12_off 25 = .ok (.aload_n 0, 1) := by decide +kernel
theorem dX12_off_26 : decode cX12_off 26 = .ok (.iload_n 1, 1) := by decide +kernel
theorem dX12_off_27 : decode cX12_off 27 = .ok (.invokevirtual 214, 3) := by decide +kernel
theorem dX12_off_30 : decode cX12_off 30 = .ok (.ireturn, 1) := by decide +kernel
theorem dX12_columnsOf_0 : decode cX12_columnsOf 0 = .ok (.iconst 0, 1) := by decide +kernel
theorem dX12_columnsOf_1 : decode cX12_columnsOf 1 = .ok (.istore_n 2, 1) := by decide +kernel
theorem dX12_columnsOf_2 : decode cX12_columnsOf 2 = .ok (.iconst 0, 1) := by decide +kernel
theorem dX12_columnsOf_3 : decode cX12_columnsOf 3 = .ok (.istore_n 3, 1) := by decide +kernel
theorem dX12_columnsOf_4 : decode cX12_columnsOf 4 = .ok (.iload_n 3, 1) := by decide +kernel
theorem dX12_columnsOf_5 : decode cX12_columnsOf 5 = .ok (.aload_n 0, 1) := by decide +kernel
theorem dX12_columnsOf_6 : decode cX12_columnsOf 6 = .ok (.iload_n 1, 1) := by decide +kernel
theorem dX12_columnsOf_7 : decode cX12_columnsOf 7 = .ok (.iconst 4, 1) := by decide +kernel
theorem dX12_columnsOf_8 : decode cX12_columnsOf 8 = .ok (.invokevirtual 83, 3) := by decide +kernel
theorem dX12_columnsOf_11 : decode cX12_columnsOf 11 = .ok (.if_icmp .ge 21, 3) := by decide +kernel
theorem dX12_columnsOf_14 : decode cX12_columnsOf 14 = .ok (.iload_n 2, 1) := by decide +kernel
theorem dX12_columnsOf_15 : decode cX12_columnsOf 15 = .ok (.aload_n 0, 1) := by decide +kernel
theorem dX12_columnsOf_16 : decode cX12_columnsOf 16 = .ok (.iload_n 1, 1) := by decide +kernel
theorem dX12_columnsOf_17 : decode cX12_columnsOf 17 = .ok (.bipush 12, 2) := by decide +kernel
theorem dX12_columnsOf_19 : decode cX12_columnsOf 19 = .ok (.iload_n 3, 1) := by decide +kernel
theorem dX12_columnsOf_20 : decode cX12_columnsOf 20 = .ok (.iadd, 1) := by decide +kernel
theorem dX12_columnsOf_21 : decode cX12_columnsOf 21 = .ok (.invokevirtual 83, 3) := by decide +kernel
theorem dX12_columnsOf_24 : decode cX12_columnsOf 24 = .ok (.iadd, 1) := by decide +kernel
theorem dX12_columnsOf_25 : decode cX12_columnsOf 25 = .ok (.istore_n 2, 1) := by decide +kernel
theorem dX12_columnsOf_26 : decode cX12_columnsOf 26 = .ok (.iinc 3 1, 3) := by decide +kernel
theorem dX12_columnsOf_29 : decode cX12_columnsOf 29 = .ok (.goto (-25), 3) := by decide +kernel
theorem dX12_columnsOf_32 : decode cX12_columnsOf 32 = .ok (.iload_n 2, 1) := by decide +kernel
theorem dX12_columnsOf_33 : decode cX12_columnsOf 33 = .ok (.ireturn, 1) := by decide +kernel
theorem dX12_of_0 : decode cX12_of 0 = .ok (.aload_n 0, 1) := by decide +kernel
theorem dX12_of_1 : decode cX12_of 1 = .ok (.iload_n 1, 1) := by decide +kernel
theorem dX12_of_2 : decode cX12_of 2 = .ok (.invokevirtual 200, 3) := by decide +kernel
theorem dX12_of_5 : decode cX12_of 5 = .ok (.ifCond .ne 5, 3) := by decide +kernel
theorem dX12_of_8 : decode cX12_of 8 = .ok (.iconst (-1), 1) := by decide +kernel
theorem dX12_of_9 : decode cX12_of 9 = .ok (.ireturn, 1) := by decide +kernel
theorem dX12_of_10 : decode cX12_of 10 = .ok (.iload_n 2, 1) := by decide +kernel
theorem dX12_of_11 : decode cX12_of 11 = .ok (.tableswitch 149 0 10 #[57, 64, 71, 78, 85, 92, 99, 110, 121, 132, 143], 57) := by decide +kernel
theorem dX12_of_68 : decode cX12_of 68 = .ok (.aload_n 0, 1) := by decide +kernel
theorem dX12_of_69 : decode cX12_of 69 = .ok (.iload_n 1, 1) := by decide +kernel
theorem dX12_of_70 : decode cX12_of 70 = .ok (.iconst 5, 1) := by decide +kernel
theorem dX12_of_71 : decode cX12_of 71 = .ok (.invokevirtual 83, 3) := by decide +kernel
theorem dX12_of_74 : decode cX12_of 74 = .ok (.ireturn, 1) := by decide +kernel
theorem dX12_of_75 : decode cX12_of 75 = .ok (.aload_n 0, 1) := by decide +kernel
theorem dX12_of_76 : decode cX12_of 76 = .ok (.iload_n 1, 1) := by decide +kernel
theorem dX12_of_77 : decode cX12_of 77 = .ok (.iconst 0, 1) := by decide +kernel
theorem dX12_of_78 : decode cX12_of 78 = .ok (.invokevirtual 83, 3) := by decide +kernel
theorem dX12_of_81 : decode cX12_of 81 = .ok (.ireturn, 1) := by decide +kernel
theorem dX12_of_82 : decode cX12_of 82 = .ok (.aload_n 0, 1) := by decide +kernel
theorem dX12_of_83 : decode cX12_of 83 = .ok (.iload_n 1, 1) := by decide +kernel
theorem dX12_of_84 : decode cX12_of 84 = .ok (.iconst 1, 1) := by decide +kernel
theorem dX12_of_85 : decode cX12_of 85 = .ok (.invokevirtual 83, 3) := by decide +kernel
theorem dX12_of_88 : decode cX12_of 88 = .ok (.ireturn, 1) := by decide +kernel
theorem dX12_of_89 : decode cX12_of 89 = .ok (.aload_n 0, 1) := by decide +kernel
theorem dX12_of_90 : decode cX12_of 90 = .ok (.iload_n 1, 1) := by decide +kernel
theorem dX12_of_91 : decode cX12_of 91 = .ok (.iconst 2, 1) := by decide +kernel
theorem dX12_of_92 : decode cX12_of 92 = .ok (.invokevirtual 83, 3) := by decide +kernel
theorem dX12_of_95 : decode cX12_of 95 = .ok (.ireturn, 1) := by decide +kernel
theorem dX12_of_96 : decode cX12_of 96 = .ok (.aload_n 0, 1) := by decide +kernel
theorem dX12_of_97 : decode cX12_of 97 = .ok (.iload_n 1, 1) := by decide +kernel
theorem dX12_of_98 : decode cX12_of 98 = .ok (.iconst 3, 1) := by decide +kernel
theorem dX12_of_99 : decode cX12_of 99 = .ok (.invokevirtual 83, 3) := by decide +kernel
theorem dX12_of_102 : decode cX12_of 102 = .ok (.ireturn, 1) := by decide +kernel
theorem dX12_of_103 : decode cX12_of 103 = .ok (.aload_n 0, 1) := by decide +kernel
theorem dX12_of_104 : decode cX12_of 104 = .ok (.iload_n 1, 1) := by decide +kernel
theorem dX12_of_105 : decode cX12_of 105 = .ok (.iconst 4, 1) := by decide +kernel
theorem dX12_of_106 : decode cX12_of 106 = .ok (.invokevirtual 83, 3) := by decide +kernel
theorem dX12_of_109 : decode cX12_of 109 = .ok (.ireturn, 1) := by decide +kernel
theorem dX12_of_110 : decode cX12_of 110 = .ok (.aload_n 0, 1) := by decide +kernel
theorem dX12_of_111 : decode cX12_of 111 = .ok (.iload_n 1, 1) := by decide +kernel
theorem dX12_of_112 : decode cX12_of 112 = .ok (.bipush 6, 2) := by decide +kernel
theorem dX12_of_114 : decode cX12_of 114 = .ok (.invokevirtual 83, 3) := by decide +kernel
theorem dX12_of_117 : decode cX12_of 117 = .ok (.invokestatic 217, 3) := by decide +kernel
theorem dX12_of_120 : decode cX12_of 120 = .ok (.ireturn, 1) := by decide +kernel
theorem dX12_of_121 : decode cX12_of 121 = .ok (.aload_n 0, 1) := by decide +kernel
theorem dX12_of_122 : decode cX12_of 122 = .ok (.iload_n 1, 1) := by decide +kernel
theorem dX12_of_123 : decode cX12_of 123 = .ok (.bipush 7, 2) := by decide +kernel
theorem dX12_of_125 : decode cX12_of 125 = .ok (.invokevirtual 83, 3) := by decide +kernel
theorem dX12_of_128 : decode cX12_of 128 = .ok (.invokestatic 217, 3) := by decide +kernel
theorem dX12_of_131 : decode cX12_of 131 = .ok (.ireturn, 1) := by decide +kernel
theorem dX12_of_132 : decode cX12_of 132 = .ok (.aload_n 0, 1) := by decide +kernel
theorem dX12_of_133 : decode cX12_of 133 = .ok (.iload_n 1, 1) := by decide +kernel
theorem dX12_of_134 : decode cX12_of 134 = .ok (.bipush 8, 2) := by decide +kernel
theorem dX12_of_136 : decode cX12_of 136 = .ok (.invokevirtual 83, 3) := by decide +kernel
theorem dX12_of_139 : decode cX12_of 139 = .ok (.invokestatic 217, 3) := by decide +kernel
theorem dX12_of_142 : decode cX12_of 142 = .ok (.ireturn, 1) := by decide +kernel
theorem dX12_of_143 : decode cX12_of 143 = .ok (.aload_n 0, 1) := by decide +kernel
theorem dX12_of_144 : decode cX12_of 144 = .ok (.iload_n 1, 1) := by decide +kernel
theorem dX12_of_145 : decode cX12_of 145 = .ok (.bipush 9, 2) := by decide +kernel
theorem dX12_of_147 : decode cX12_of 147 = .ok (.invokevirtual 83, 3) := by decide +kernel
theorem dX12_of_150 : decode cX12_of 150 = .ok (.invokestatic 217, 3) := by decide +kernel
theorem dX12_of_153 : decode cX12_of 153 = .ok (.ireturn, 1) := by decide +kernel
theorem dX12_of_154 : decode cX12_of 154 = .ok (.aload_n 0, 1) := by decide +kernel
theorem dX12_of_155 : decode cX12_of 155 = .ok (.iload_n 1, 1) := by decide +kernel
theorem dX12_of_156 : decode cX12_of 156 = .ok (.invokevirtual 220, 3) := by decide +kernel
theorem dX12_of_159 : decode cX12_of 159 = .ok (.ireturn, 1) := by decide +kernel
theorem dX12_of_160 : decode cX12_of 160 = .ok (.iconst (-1), 1) := by decide +kernel
theorem dX12_of_161 : decode cX12_of 161 = .ok (.ireturn, 1) := by decide +kernel
theorem dX12_arm_0 : decode cX12_arm 0 = .ok (.aload_n 0, 1) := by decide +kernel
theorem dX12_arm_1 : decode cX12_arm 1 = .ok (.iload_n 1, 1) := by decide +kernel
theorem dX12_arm_2 : decode cX12_arm 2 = .ok (.invokevirtual 200, 3) := by decide +kernel
theorem dX12_arm_5 : decode cX12_arm 5 = .ok (.ifCond .eq 21, 3) := by decide +kernel
theorem dX12_arm_8 : decode cX12_arm 8 = .ok (.iload_n 2, 1) := by decide +kernel
theorem dX12_arm_9 : decode cX12_arm 9 = .ok (.i2l, 1) := by decide +kernel
theorem dX12_arm_10 : decode cX12_arm 10 = .ok (.lconst 0, 1) := by decide +kernel
theorem dX12_arm_11 : decode cX12_arm 11 = .ok (.aload_n 0, 1) := by decide +kernel
theorem dX12_arm_12 : decode cX12_arm 12 = .ok (.iload_n 1, 1) := by decide +kernel
theorem dX12_arm_13 : decode cX12_arm 13 = .ok (.iconst 4, 1) := by decide +kernel
theorem dX12_arm_14 : decode cX12_arm 14 = .ok (.invokevirtual 83, 3) := by decide +kernel
theorem dX12_arm_17 : decode cX12_arm 17 = .ok (.iconst 1, 1) := by decide +kernel
theorem dX12_arm_18 : decode cX12_arm 18 = .ok (.isub, 1) := by decide +kernel
theorem dX12_arm_19 : decode cX12_arm 19 = .ok (.i2l, 1) := by decide +kernel
theorem dX12_arm_20 : decode cX12_arm 20 = .ok (.invokestatic 79, 3) := by decide +kernel
theorem dX12_arm_23 : decode cX12_arm 23 = .ok (.ifCond .ne 5, 3) := by decide +kernel
theorem dX12_arm_26 : decode cX12_arm 26 = .ok (.iconst (-1), 1) := by decide +kernel
theorem dX12_arm_27 : decode cX12_arm 27 = .ok (.ireturn, 1) := by decide +kernel
theorem dX12_arm_28 : decode cX12_arm 28 = .ok (.iload_n 3, 1) := by decide +kernel
theorem dX12_arm_29 : decode cX12_arm 29 = .ok (.tableswitch 88 0 4 #[35, 45, 55, 62, 75], 35) := by decide +kernel
theorem dX12_arm_64 : decode cX12_arm 64 = .ok (.aload_n 0, 1) := by decide +kernel
theorem dX12_arm_65 : decode cX12_arm 65 = .ok (.iload_n 1, 1) := by decide +kernel
theorem dX12_arm_66 : decode cX12_arm 66 = .ok (.bipush 12, 2) := by decide +kernel
theorem dX12_arm_68 : decode cX12_arm 68 = .ok (.iload_n 2, 1) := by decide +kernel
theorem dX12_arm_69 : decode cX12_arm 69 = .ok (.iadd, 1) := by decide +kernel
theorem dX12_arm_70 : decode cX12_arm 70 = .ok (.invokevirtual 83, 3) := by decide +kernel
theorem dX12_arm_73 : decode cX12_arm 73 = .ok (.ireturn, 1) := by decide +kernel
theorem dX12_arm_74 : decode cX12_arm 74 = .ok (.aload_n 0, 1) := by decide +kernel
theorem dX12_arm_75 : decode cX12_arm 75 = .ok (.iload_n 1, 1) := by decide +kernel
theorem dX12_arm_76 : decode cX12_arm 76 = .ok (.bipush 16, 2) := by decide +kernel
theorem dX12_arm_78 : decode cX12_arm 78 = .ok (.iload_n 2, 1) := by decide +kernel
theorem dX12_arm_79 : decode cX12_arm 79 = .ok (.iadd, 1) := by decide +kernel
theorem dX12_arm_80 : decode cX12_arm 80 = .ok (.invokevirtual 83, 3) := by decide +kernel
theorem dX12_arm_83 : decode cX12_arm 83 = .ok (.ireturn, 1) := by decide +kernel
theorem dX12_arm_84 : decode cX12_arm 84 = .ok (.aload_n 0, 1) := by decide +kernel
theorem dX12_arm_85 : decode cX12_arm 85 = .ok (.iload_n 1, 1) := by decide +kernel
theorem dX12_arm_86 : decode cX12_arm 86 = .ok (.iload_n 2, 1) := by decide +kernel
theorem dX12_arm_87 : decode cX12_arm 87 = .ok (.invokevirtual 223, 3) := by decide +kernel
theorem dX12_arm_90 : decode cX12_arm 90 = .ok (.ireturn, 1) := by decide +kernel
theorem dX12_arm_91 : decode cX12_arm 91 = .ok (.aload_n 0, 1) := by decide +kernel
theorem dX12_arm_92 : decode cX12_arm 92 = .ok (.iload_n 1, 1) := by decide +kernel
theorem dX12_arm_93 : decode cX12_arm 93 = .ok (.bipush 20, 2) := by decide +kernel
theorem dX12_arm_95 : decode cX12_arm 95 = .ok (.iload_n 2, 1) := by decide +kernel
theorem dX12_arm_96 : decode cX12_arm 96 = .ok (.iadd, 1) := by decide +kernel
theorem dX12_arm_97 : decode cX12_arm 97 = .ok (.invokevirtual 83, 3) := by decide +kernel
theorem dX12_arm_100 : decode cX12_arm 100 = .ok (.invokestatic 217, 3) := by decide +kernel
theorem dX12_arm_103 : decode cX12_arm 103 = .ok (.ireturn, 1) := by decide +kernel
theorem dX12_arm_104 : decode cX12_arm 104 = .ok (.aload_n 0, 1) := by decide +kernel
theorem dX12_arm_105 : decode cX12_arm 105 = .ok (.iload_n 1, 1) := by decide +kernel
theorem dX12_arm_106 : decode cX12_arm 106 = .ok (.bipush 24, 2) := by decide +kernel
theorem dX12_arm_108 : decode cX12_arm 108 = .ok (.iload_n 2, 1) := by decide +kernel
theorem dX12_arm_109 : decode cX12_arm 109 = .ok (.iadd, 1) := by decide +kernel
theorem dX12_arm_110 : decode cX12_arm 110 = .ok (.invokevirtual 83, 3) := by decide +kernel
theorem dX12_arm_113 : decode cX12_arm 113 = .ok (.invokestatic 217, 3) := by decide +kernel
theorem dX12_arm_116 : decode cX12_arm 116 = .ok (.ireturn, 1) := by decide +kernel
theorem dX12_arm_117 : decode cX12_arm 117 = .ok (.iconst (-1), 1) := by decide +kernel
theorem dX12_arm_118 : decode cX12_arm 118 = .ok (.ireturn, 1) := by decide +kernel
theorem dX12_isInLine_0 : decode cX12_isInLine 0 = .ok (.aload_n 0, 1) := by decide +kernel
theorem dX12_isInLine_1 : decode cX12_isInLine 1 = .ok (.iload_n 1, 1) := by decide +kernel
theorem dX12_isInLine_2 : decode cX12_isInLine 2 = .ok (.iconst 3, 1) := by decide +kernel
theorem dX12_isInLine_3 : decode cX12_isInLine 3 = .ok (.invokevirtual 83, 3) := by decide +kernel
theorem dX12_isInLine_6 : decode cX12_isInLine 6 = .ok (.istore_n 2, 1) := by decide +kernel
theorem dX12_isInLine_7 : decode cX12_isInLine 7 = .ok (.aload_n 0, 1) := by decide +kernel
theorem dX12_isInLine_8 : decode cX12_isInLine 8 = .ok (.iload_n 1, 1) := by decide +kernel
theorem dX12_isInLine_9 : decode cX12_isInLine 9 = .ok (.invokevirtual 211, 3) := by decide +kernel
theorem dX12_isInLine_12 : decode cX12_isInLine 12 = .ok (.ifCond .eq 41, 3) := by decide +kernel
theorem dX12_isInLine_15 : decode cX12_isInLine 15 = .ok (.aload_n 0, 1) := by decide +kernel
theorem dX12_isInLine_16 : decode cX12_isInLine 16 = .ok (.iload_n 1, 1) := by decide +kernel
theorem dX12_isInLine_17 : decode cX12_isInLine 17 = .ok (.bipush 10, 2) := by decide +kernel
theorem dX12_isInLine_19 : decode cX12_isInLine 19 = .ok (.invokevirtual 83, 3) := by decide +kernel
theorem dX12_isInLine_22 : decode cX12_isInLine 22 = .ok (.ifCond .ne 31, 3) := by decide +kernel
theorem dX12_isInLine_25 : decode cX12_isInLine 25 = .ok (.iload_n 2, 1) := by decide +kernel
theorem dX12_isInLine_26 : decode cX12_isInLine 26 = .ok (.ifCond .lt 23, 3) := by decide +kernel
theorem dX12_isInLine_29 : decode cX12_isInLine 29 = .ok (.aload_n 0, 1) := by decide +kernel
theorem dX12_isInLine_30 : decode cX12_isInLine 30 = .ok (.iload_n 2, 1) := by decide +kernel
theorem dX12_isInLine_31 : decode cX12_isInLine 31 = .ok (.iconst 5, 1) := by decide +kernel
theorem dX12_isInLine_32 : decode cX12_isInLine 32 = .ok (.invokevirtual 83, 3) := by decide +kernel
theorem dX12_isInLine_35 : decode cX12_isInLine 35 = .ok (.iconst 2, 1) := by decide +kernel
theorem dX12_isInLine_36 : decode cX12_isInLine 36 = .ok (.if_icmp .eq 13, 3) := by decide +kernel
theorem dX12_isInLine_39 : decode cX12_isInLine 39 = .ok (.aload_n 0, 1) := by decide +kernel
theorem dX12_isInLine_40 : decode cX12_isInLine 40 = .ok (.iload_n 2, 1) := by decide +kernel
theorem dX12_isInLine_41 : decode cX12_isInLine 41 = .ok (.iconst 5, 1) := by decide +kernel
theorem dX12_isInLine_42 : decode cX12_isInLine 42 = .ok (.invokevirtual 83, 3) := by decide +kernel
theorem dX12_isInLine_45 : decode cX12_isInLine 45 = .ok (.iconst 3, 1) := by decide +kernel
theorem dX12_isInLine_46 : decode cX12_isInLine 46 = .ok (.if_icmp .ne 7, 3) := by decide +kernel
theorem dX12_isInLine_49 : decode cX12_isInLine 49 = .ok (.iconst 1, 1) := by decide +kernel
theorem dX12_isInLine_50 : decode cX12_isInLine 50 = .ok (.goto 4, 3) := by decide +kernel
theorem dX12_isInLine_53 : decode cX12_isInLine 53 = .ok (.iconst 0, 1) := by decide +kernel
theorem dX12_isInLine_54 : decode cX12_isInLine 54 = .ok (.ireturn, 1) := by decide +kernel
theorem dX12_isAhead_0 : decode cX12_isAhead 0 = .ok (.aload_n 0, 1) := by decide +kernel
theorem dX12_isAhead_1 : decode cX12_isAhead 1 = .ok (.iload_n 1, 1) := by decide +kernel
theorem dX12_isAhead_2 : decode cX12_isAhead 2 = .ok (.iconst 1, 1) := by decide +kernel
theorem dX12_isAhead_3 : decode cX12_isAhead 3 = .ok (.invokevirtual 83, 3) := by decide +kernel
theorem dX12_isAhead_6 : decode cX12_isAhead 6 = .ok (.aload_n 0, 1) := by decide +kernel
theorem dX12_isAhead_7 : decode cX12_isAhead 7 = .ok (.iload_n 2, 1) := by decide +kernel
theorem dX12_isAhead_8 : decode cX12_isAhead 8 = .ok (.iconst 1, 1) := by decide +kernel
theorem dX12_isAhead_9 : decode cX12_isAhead 9 = .ok (.invokevirtual 83, 3) := by decide +kernel
theorem dX12_isAhead_12 : decode cX12_isAhead 12 = .ok (.if_icmp .eq 24, 3) := by decide +kernel
theorem dX12_isAhead_15 : decode cX12_isAhead 15 = .ok (.aload_n 0, 1) := by decide +kernel
theorem dX12_isAhead_16 : decode cX12_isAhead 16 = .ok (.iload_n 1, 1) := by decide +kernel
theorem dX12_isAhead_17 : decode cX12_isAhead 17 = .ok (.iconst 1, 1) := by decide +kernel
theorem dX12_isAhead_18 : decode cX12_isAhead 18 = .ok (.invokevirtual 83, 3) := by decide +kernel
theorem dX12_isAhead_21 : decode cX12_isAhead 21 = .ok (.aload_n 0, 1) := by decide +kernel
theorem dX12_isAhead_22 : decode cX12_isAhead 22 = .ok (.iload_n 2, 1) := by decide +kernel
theorem dX12_isAhead_23 : decode cX12_isAhead 23 = .ok (.iconst 1, 1) := by decide +kernel
theorem dX12_isAhead_24 : decode cX12_isAhead 24 = .ok (.invokevirtual 83, 3) := by decide +kernel
theorem dX12_isAhead_27 : decode cX12_isAhead 27 = .ok (.if_icmp .le 7, 3) := by decide +kernel
theorem dX12_isAhead_30 : decode cX12_isAhead 30 = .ok (.iconst 1, 1) := by decide +kernel
theorem dX12_isAhead_31 : decode cX12_isAhead 31 = .ok (.goto 4, 3) := by decide +kernel
theorem dX12_isAhead_34 : decode cX12_isAhead 34 = .ok (.iconst 0, 1) := by decide +kernel
theorem dX12_isAhead_35 : decode cX12_isAhead 35 = .ok (.ireturn, 1) := by decide +kernel
theorem dX12_isAhead_36 : decode cX12_isAhead 36 = .ok (.aload_n 0, 1) := by decide +kernel
theorem dX12_isAhead_37 : decode cX12_isAhead 37 = .ok (.aload_n 0, 1) := by decide +kernel
theorem dX12_isAhead_38 : decode cX12_isAhead 38 = .ok (.iload_n 1, 1) := by decide +kernel
theorem dX12_isAhead_39 : decode cX12_isAhead 39 = .ok (.iconst 0, 1) := by decide +kernel
theorem dX12_isAhead_40 : decode cX12_isAhead 40 = .ok (.invokevirtual 83, 3) := by decide +kernel
theorem dX12_isAhead_43 : decode cX12_isAhead 43 = .ok (.aload_n 0, 1) := by decide +kernel
theorem dX12_isAhead_44 : decode cX12_isAhead 44 = .ok (.iload_n 2, 1) := by decide +kernel
theorem dX12_isAhead_45 : decode cX12_isAhead 45 = .ok (.iconst 0, 1) := by decide +kernel
theorem dX12_isAhead_46 : decode cX12_isAhead 46 = .ok (.invokevirtual 83, 3) := by decide +kernel
theorem dX12_isAhead_49 : decode cX12_isAhead 49 = .ok (.invokevirtual 152, 3) := by decide +kernel
theorem dX12_isAhead_52 : decode cX12_isAhead 52 = .ok (.istore_n 3, 1) := by decide +kernel
theorem dX12_isAhead_53 : decode cX12_isAhead 53 = .ok (.iload_n 3, 1) := by decide +kernel
theorem dX12_isAhead_54 : decode cX12_isAhead 54 = .ok (.ifCond .lt 12, 3) := by decide +kernel
theorem dX12_isAhead_57 : decode cX12_isAhead 57 = .ok (.iload_n 3, 1) := by decide +kernel
theorem dX12_isAhead_58 : decode cX12_isAhead 58 = .ok (.ifCond .ne 12, 3) := by decide +kernel
theorem dX12_isAhead_61 : decode cX12_isAhead 61 = .ok (.iload_n 1, 1) := by decide +kernel
theorem dX12_isAhead_62 : decode cX12_isAhead 62 = .ok (.iload_n 2, 1) := by decide +kernel
theorem dX12_isAhead_63 : decode cX12_isAhead 63 = .ok (.if_icmp .ge 7, 3) := by decide +kernel
theorem dX12_isAhead_66 : decode cX12_isAhead 66 = .ok (.iconst 1, 1) := by decide +kernel
theorem dX12_isAhead_67 : decode cX12_isAhead 67 = .ok (.goto 4, 3) := by decide +kernel
theorem dX12_isAhead_70 : decode cX12_isAhead 70 = .ok (.iconst 0, 1) := by decide +kernel
theorem dX12_isAhead_71 : decode cX12_isAhead 71 = .ok (.ireturn, 1) := by decide +kernel
theorem dX12_linesUp_0 : decode cX12_linesUp 0 = .ok (.iconst 0, 1) := by decide +kernel
theorem dX12_linesUp_1 : decode cX12_linesUp 1 = .ok (.istore_n 1, 1) := by decide +kernel
theorem dX12_linesUp_2 : decode cX12_linesUp 2 = .ok (.iconst 0, 1) := by decide +kernel
theorem dX12_linesUp_3 : decode cX12_linesUp 3 = .ok (.istore_n 2, 1) := by decide +kernel
theorem dX12_linesUp_4 : decode cX12_linesUp 4 = .ok (.iload_n 2, 1) := by decide +kernel
theorem dX12_linesUp_5 : decode cX12_linesUp 5 = .ok (.aload_n 0, 1) := by decide +kernel
theorem dX12_linesUp_6 : decode cX12_linesUp 6 = .ok (.getfield 9, 3) := by decide +kernel
theorem dX12_linesUp_9 : decode cX12_linesUp 9 = .ok (.iconst 1, 1) := by decide +kernel
theorem dX12_linesUp_10 : decode cX12_linesUp 10 = .ok (.iaload, 1) := by decide +kernel
theorem dX12_linesUp_11 : decode cX12_linesUp 11 = .ok (.if_icmp .ge 69, 3) := by decide +kernel
theorem dX12_linesUp_14 : decode cX12_linesUp 14 = .ok (.aload_n 0, 1) := by decide +kernel
theorem dX12_linesUp_15 : decode cX12_linesUp 15 = .ok (.iload_n 2, 1) := by decide +kernel
theorem dX12_linesUp_16 : decode cX12_linesUp 16 = .ok (.invokevirtual 226, 3) := by decide +kernel
theorem dX12_linesUp_19 : decode cX12_linesUp 19 = .ok (.ifCond .eq 55, 3) := by decide +kernel
theorem dX12_linesUp_22 : decode cX12_linesUp 22 = .ok (.iload_n 1, 1) := by decide +kernel
theorem dX12_linesUp_23 : decode cX12_linesUp 23 = .ok (.istore_n 3, 1) := by decide +kernel
theorem dX12_linesUp_24 : decode cX12_linesUp 24 = .ok (.iload_n 3, 1) := by decide +kernel
theorem dX12_linesUp_25 : decode cX12_linesUp 25 = .ok (.ifCond .le 39, 3) := by decide +kernel
theorem dX12_linesUp_28 : decode cX12_linesUp 28 = .ok (.aload_n 0, 1) := by decide +kernel
theorem dX12_linesUp_29 : decode cX12_linesUp 29 = .ok (.iload_n 2, 1) := by decide +kernel
theorem dX12_linesUp_30 : decode cX12_linesUp 30 = .ok (.aload_n 0, 1) := by decide +kernel
theorem dX12_linesUp_31 : decode cX12_linesUp 31 = .ok (.getfield 61, 3) := by decide +kernel
theorem dX12_linesUp_34 : decode cX12_linesUp 34 = .ok (.iload_n 3, 1) := by decide +kernel
theorem dX12_linesUp_35 : decode cX12_linesUp 35 = .ok (.iconst 1, 1) := by decide +kernel
theorem dX12_linesUp_36 : decode cX12_linesUp 36 = .ok (.isub, 1) := by decide +kernel
theorem dX12_linesUp_37 : decode cX12_linesUp 37 = .ok (.iaload, 1) := by decide +kernel
theorem dX12_linesUp_38 : decode cX12_linesUp 38 = .ok (.invokevirtual 229, 3) := by decide +kernel
theorem dX12_linesUp_41 : decode cX12_linesUp 41 = .ok (.ifCond .eq 23, 3) := by decide +kernel
theorem dX12_linesUp_44 : decode cX12_linesUp 44 = .ok (.aload_n 0, 1) := by decide +kernel
theorem dX12_linesUp_45 : decode cX12_linesUp 45 = .ok (.getfield 61, 3) := by decide +kernel
theorem dX12_linesUp_48 : decode cX12_linesUp 48 = .ok (.iload_n 3, 1) := by decide +kernel
theorem dX12_linesUp_49 : decode cX12_linesUp 49 = .ok (.aload_n 0, 1) := by decide +kernel
theorem dX12_linesUp_50 : decode cX12_linesUp 50 = .ok (.getfield 61, 3) := by decide +kernel
theorem dX12_linesUp_53 : decode cX12_linesUp 53 = .ok (.iload_n 3, 1) := by decide +kernel
theorem dX12_linesUp_54 : decode cX12_linesUp 54 = .ok (.iconst 1, 1) := by decide +kernel
theorem dX12_linesUp_55 : decode cX12_linesUp 55 = .ok (.isub, 1) := by decide +kernel
theorem dX12_linesUp_56 : decode cX12_linesUp 56 = .ok (.iaload, 1) := by decide +kernel
theorem dX12_linesUp_57 : decode cX12_linesUp 57 = .ok (.iastore, 1) := by decide +kernel
theorem dX12_linesUp_58 : decode cX12_linesUp 58 = .ok (.iinc 3 (-1), 3) := by decide +kernel
theorem dX12_linesUp_61 : decode cX12_linesUp 61 = .ok (.goto (-37), 3) := by decide +kernel
theorem dX12_linesUp_64 : decode cX12_linesUp 64 = .ok (.aload_n 0, 1) := by decide +kernel
theorem dX12_linesUp_65 : decode cX12_linesUp 65 = .ok (.getfield 61, 3) := by decide +kernel
theorem dX12_linesUp_68 : decode cX12_linesUp 68 = .ok (.iload_n 3, 1) := by decide +kernel
theorem dX12_linesUp_69 : decode cX12_linesUp 69 = .ok (.iload_n 2, 1) := by decide +kernel
theorem dX12_linesUp_70 : decode cX12_linesUp 70 = .ok (.iastore, 1) := by decide +kernel
theorem dX12_linesUp_71 : decode cX12_linesUp 71 = .ok (.iinc 1 1, 3) := by decide +kernel
theorem dX12_linesUp_74 : decode cX12_linesUp 74 = .ok (.iinc 2 1, 3) := by decide +kernel
theorem dX12_linesUp_77 : decode cX12_linesUp 77 = .ok (.goto (-73), 3) := by decide +kernel
theorem dX12_linesUp_80 : decode cX12_linesUp 80 = .ok (.iload_n 1, 1) := by decide +kernel
theorem dX12_linesUp_81 : decode cX12_linesUp 81 = .ok (.ireturn, 1) := by decide +kernel
theorem dX12_line_0 : decode cX12_line 0 = .ok (.iload_n 1, 1) := by decide +kernel
theorem dX12_line_1 : decode cX12_line 1 = .ok (.iconst (-1), 1) := by decide +kernel
theorem dX12_line_2 : decode cX12_line 2 = .ok (.if_icmp .ge 5, 3) := by decide +kernel
theorem dX12_line_5 : decode cX12_line 5 = .ok (.iconst (-1), 1) := by decide +kernel
theorem dX12_line_6 : decode cX12_line 6 = .ok (.ireturn, 1) := by decide +kernel
theorem dX12_line_7 : decode cX12_line 7 = .ok (.aload_n 0, 1) := by decide +kernel
theorem dX12_line_8 : decode cX12_line 8 = .ok (.invokevirtual 232, 3) := by decide +kernel
theorem dX12_line_11 : decode cX12_line 11 = .ok (.istore_n 2, 1) := by decide +kernel
theorem dX12_line_12 : decode cX12_line 12 = .ok (.iload_n 1, 1) := by decide +kernel
theorem dX12_line_13 : decode cX12_line 13 = .ok (.ifCond .ge 7, 3) := by decide +kernel
theorem dX12_line_16 : decode cX12_line 16 = .ok (.iload_n 2, 1) := by decide +kernel
theorem dX12_line_17 : decode cX12_line 17 = .ok (.goto 19, 3) := by decide +kernel
theorem dX12_line_20 : decode cX12_line 20 = .ok (.iload_n 1, 1) := by decide +kernel
theorem dX12_line_21 : decode cX12_line 21 = .ok (.iload_n 2, 1) := by decide +kernel
theorem dX12_line_22 : decode cX12_line 22 = .ok (.if_icmp .ge 12, 3) := by decide +kernel
theorem dX12_line_25 : decode cX12_line 25 = .ok (.aload_n 0, 1) := by decide +kernel
theorem dX12_line_26 : decode cX12_line 26 = .ok (.getfield 61, 3) := by decide +kernel
theorem dX12_line_29 : decode cX12_line 29 = .ok (.iload_n 1, 1) := by decide +kernel
theorem dX12_line_30 : decode cX12_line 30 = .ok (.iaload, 1) := by decide +kernel
theorem dX12_line_31 : decode cX12_line 31 = .ok (.goto 5, 3) := by decide +kernel
theorem dX12_line_34 : decode cX12_line 34 = .ok (.bipush (-2), 2) := by decide +kernel
theorem dX12_line_36 : decode cX12_line 36 = .ok (.ireturn, 1) := by decide +kernel
theorem dX12_rank_0 : decode cX12_rank 0 = .ok (.aload_n 0, 1) := by decide +kernel
theorem dX12_rank_1 : decode cX12_rank 1 = .ok (.iload_n 1, 1) := by decide +kernel
theorem dX12_rank_2 : decode cX12_rank 2 = .ok (.invokevirtual 200, 3) := by decide +kernel
theorem dX12_rank_5 : decode cX12_rank 5 = .ok (.ifCond .eq 15, 3) := by decide +kernel
theorem dX12_rank_8 : decode cX12_rank 8 = .ok (.iload_n 2, 1) := by decide +kernel
theorem dX12_rank_9 : decode cX12_rank 9 = .ok (.i2l, 1) := by decide +kernel
theorem dX12_rank_10 : decode cX12_rank 10 = .ok (.lconst 0, 1) := by decide +kernel
theorem dX12_rank_11 : decode cX12_rank 11 = .ok (.ldc2_w 196, 3) := by decide +kernel
theorem dX12_rank_14 : decode cX12_rank 14 = .ok (.invokestatic 79, 3) := by decide +kernel
theorem dX12_rank_17 : decode cX12_rank 17 = .ok (.ifCond .ne 5, 3) := by decide +kernel
theorem dX12_rank_20 : decode cX12_rank 20 = .ok (.iconst (-1), 1) := by decide +kernel
theorem dX12_rank_21 : decode cX12_rank 21 = .ok (.ireturn, 1) := by decide +kernel
theorem dX12_rank_22 : decode cX12_rank 22 = .ok (.aload_n 0, 1) := by decide +kernel
theorem dX12_rank_23 : decode cX12_rank 23 = .ok (.iload_n 1, 1) := by decide +kernel
theorem dX12_rank_24 : decode cX12_rank 24 = .ok (.invokevirtual 211, 3) := by decide +kernel
theorem dX12_rank_27 : decode cX12_rank 27 = .ok (.ifCond .ne 6, 3) := by decide +kernel
theorem dX12_rank_30 : decode cX12_rank 30 = .ok (.bipush (-5), 2) := by decide +kernel
theorem dX12_rank_32 : decode cX12_rank 32 = .ok (.ireturn, 1) := by decide +kernel
theorem dX12_rank_33 : decode cX12_rank 33 = .ok (.aload_n 0, 1) := by decide +kernel
theorem dX12_rank_34 : decode cX12_rank 34 = .ok (.iload_n 1, 1) := by decide +kernel
theorem dX12_rank_35 : decode cX12_rank 35 = .ok (.iconst 1, 1) := by decide +kernel
theorem dX12_rank_36 : decode cX12_rank 36 = .ok (.invokevirtual 83, 3) := by decide +kernel
theorem dX12_rank_39 : decode cX12_rank 39 = .ok (.istore_n 3, 1) := by decide +kernel
theorem dX12_rank_40 : decode cX12_rank 40 = .ok (.aload_n 0, 1) := by decide +kernel
theorem dX12_rank_41 : decode cX12_rank 41 = .ok (.iload_n 1, 1) := by decide +kernel
theorem dX12_rank_42 : decode cX12_rank 42 = .ok (.iconst 1, 1) := by decide +kernel
theorem dX12_rank_43 : decode cX12_rank 43 = .ok (.iload_n 2, 1) := by decide +kernel
theorem dX12_rank_44 : decode cX12_rank 44 = .ok (.invokevirtual 188, 3) := by decide +kernel
theorem dX12_rank_47 : decode cX12_rank 47 = .ok (.iload_n 3, 1) := by decide +kernel
theorem dX12_rank_48 : decode cX12_rank 48 = .ok (.ireturn, 1) := by decide +kernel
theorem dX12_hold_0 : decode cX12_hold 0 = .ok (.aload_n 0, 1) := by decide +kernel
theorem dX12_hold_1 : decode cX12_hold 1 = .ok (.iload_n 1, 1) := by decide +kernel
theorem dX12_hold_2 : decode cX12_hold 2 = .ok (.invokevirtual 200, 3) := by decide +kernel
theorem dX12_hold_5 : decode cX12_hold 5 = .ok (.ifCond .eq 13, 3) := by decide +kernel
theorem dX12_hold_8 : decode cX12_hold 8 = .ok (.iload_n 2, 1) := by decide +kernel
theorem dX12_hold_9 : decode cX12_hold 9 = .ok (.i2l, 1) := by decide +kernel
theorem dX12_hold_10 : decode cX12_hold 10 = .ok (.lconst 0, 1) := by decide +kernel
theorem dX12_hold_11 : decode cX12_hold 11 = .ok (.lconst 1, 1) := by decide +kernel
theorem dX12_hold_12 : decode cX12_hold 12 = .ok (.invokestatic 79, 3) := by decide +kernel
theorem dX12_hold_15 : decode cX12_hold 15 = .ok (.ifCond .ne 5, 3) := by decide +kernel
theorem dX12_hold_18 : decode cX12_hold 18 = .ok (.iconst (-1), 1) := by decide +kernel
theorem dX12_hold_19 : decode cX12_hold 19 = .ok (.ireturn, 1) := by decide +kernel
theorem dX12_hold_20 : decode cX12_hold 20 = .ok (.aload_n 0, 1) := by decide +kernel
theorem dX12_hold_21 : decode cX12_hold 21 = .ok (.iload_n 1, 1) := by decide +kernel
theorem dX12_hold_22 : decode cX12_hold 22 = .ok (.invokevirtual 211, 3) := by decide +kernel
theorem dX12_hold_25 : decode cX12_hold 25 = .ok (.ifCond .ne 6, 3) := by decide +kernel
theorem dX12_hold_28 : decode cX12_hold 28 = .ok (.bipush (-5), 2) := by decide +kernel
theorem dX12_hold_30 : decode cX12_hold 30 = .ok (.ireturn, 1) := by decide +kernel
theorem dX12_hold_31 : decode cX12_hold 31 = .ok (.aload_n 0, 1) := by decide +kernel
theorem dX12_hold_32 : decode cX12_hold 32 = .ok (.iload_n 1, 1) := by decide +kernel
theorem dX12_hold_33 : decode cX12_hold 33 = .ok (.bipush 10, 2) := by decide +kernel
theorem dX12_hold_35 : decode cX12_hold 35 = .ok (.invokevirtual 83, 3) := by decide +kernel
theorem dX12_hold_38 : decode cX12_hold 38 = .ok (.istore_n 3, 1) := by decide +kernel
theorem dX12_hold_39 : decode cX12_hold 39 = .ok (.aload_n 0, 1) := by decide +kernel
theorem dX12_hold_40 : decode cX12_hold 40 = .ok (.iload_n 1, 1) := by decide +kernel
theorem dX12_hold_41 : decode cX12_hold 41 = .ok (.bipush 10, 2) := by decide +kernel
theorem dX12_hold_43 : decode cX12_hold 43 = .ok (.iload_n 2, 1) := by decide +kernel
theorem dX12_hold_44 : decode cX12_hold 44 = .ok (.invokevirtual 188, 3) := by decide +kernel
theorem dX12_hold_47 : decode cX12_hold 47 = .ok (.iload_n 2, 1) := by decide +kernel
theorem dX12_hold_48 : decode cX12_hold 48 = .ok (.iconst 1, 1) := by decide +kernel
theorem dX12_hold_49 : decode cX12_hold 49 = .ok (.if_icmp .ne 11, 3) := by decide +kernel
theorem dX12_hold_52 : decode cX12_hold 52 = .ok (.aload_n 0, 1) := by decide +kernel
theorem dX12_hold_53 : decode cX12_hold 53 = .ok (.iload_n 1, 1) := by decide +kernel
theorem dX12_hold_54 : decode cX12_hold 54 = .ok (.bipush 9, 2) := by decide +kernel
theorem dX12_hold_56 : decode cX12_hold 56 = .ok (.iconst (-1), 1) := by decide +kernel
theorem dX12_hold_57 : decode cX12_hold 57 = .ok (.invokevirtual 188, 3) := by decide +kernel
theorem dX12_hold_60 : decode cX12_hold 60 = .ok (.iload_n 3, 1) := by decide +kernel
theorem dX12_hold_61 : decode cX12_hold 61 = .ok (.ireturn, 1) := by decide +kernel
theorem dX12_writes_0 : decode cX12_writes 0 = .ok (.aload_n 0, 1) := by decide +kernel
theorem dX12_writes_1 : decode cX12_writes 1 = .ok (.getfield 70, 3) := by decide +kernel
theorem dX12_writes_4 : decode cX12_writes 4 = .ok (.aload_n 0, 1) := by decide +kernel
theorem dX12_writes_5 : decode cX12_writes 5 = .ok (.getfield 235, 3) := by decide +kernel
theorem dX12_writes_8 : decode cX12_writes 8 = .ok (.iload_n 1, 1) := by decide +kernel
theorem dX12_writes_9 : decode cX12_writes 9 = .ok (.iastore, 1) := by decide +kernel
theorem dX12_writes_10 : decode cX12_writes 10 = .ok (.aload_n 0, 1) := by decide +kernel
theorem dX12_writes_11 : decode cX12_writes 11 = .ok (.dup, 1) := by decide +kernel
theorem dX12_writes_12 : decode cX12_writes 12 = .ok (.getfield 235, 3) := by decide +kernel
theorem dX12_writes_15 : decode cX12_writes 15 = .ok (.iconst 1, 1) := by decide +kernel
theorem dX12_writes_16 : decode cX12_writes 16 = .ok (.iadd, 1) := by decide +kernel
theorem dX12_writes_17 : decode cX12_writes 17 = .ok (.putfield 235, 3) := by decide +kernel
theorem dX12_writes_20 : decode cX12_writes 20 = .ok (.return_, 1) := by decide +kernel
theorem dX12_writesNumber_0 : decode cX12_writesNumber 0 = .ok (.iconst 1, 1) := by decide +kernel
theorem dX12_writesNumber_1 : decode cX12_writesNumber 1 = .ok (.istore_n 2, 1) := by decide +kernel
theorem dX12_writesNumber_2 : decode cX12_writesNumber 2 = .ok (.iload_n 1, 1) := by decide +kernel
theorem dX12_writesNumber_3 : decode cX12_writesNumber 3 = .ok (.iload_n 2, 1) := by decide +kernel
theorem dX12_writesNumber_4 : decode cX12_writesNumber 4 = .ok (.idiv, 1) := by decide +kernel
theorem dX12_writesNumber_5 : decode cX12_writesNumber 5 = .ok (.bipush 10, 2) := by decide +kernel
theorem dX12_writesNumber_7 : decode cX12_writesNumber 7 = .ok (.if_icmp .lt 11, 3) := by decide +kernel
theorem dX12_writesNumber_10 : decode cX12_writesNumber 10 = .ok (.iload_n 2, 1) := by decide +kernel
theorem dX12_writesNumber_11 : decode cX12_writesNumber 11 = .ok (.bipush 10, 2) := by decide +kernel
theorem dX12_writesNumber_13 : decode cX12_writesNumber 13 = .ok (.imul, 1) := by decide +kernel
theorem dX12_writesNumber_14 : decode cX12_writesNumber 14 = .ok (.istore_n 2, 1) := by decide +kernel
theorem dX12_writesNumber_15 : decode cX12_writesNumber 15 = .ok (.goto (-13), 3) := by decide +kernel
theorem dX12_writesNumber_18 : decode cX12_writesNumber 18 = .ok (.iload_n 2, 1) := by decide +kernel
theorem dX12_writesNumber_19 : decode cX12_writesNumber 19 = .ok (.ifCond .le 24, 3) := by decide +kernel
theorem dX12_writesNumber_22 : decode cX12_writesNumber 22 = .ok (.aload_n 0, 1) := by decide +kernel
theorem dX12_writesNumber_23 : decode cX12_writesNumber 23 = .ok (.bipush 48, 2) := by decide +kernel
theorem dX12_writesNumber_25 : decode cX12_writesNumber 25 = .ok (.iload_n 1, 1) := by decide +kernel
theorem dX12_writesNumber_26 : decode cX12_writesNumber 26 = .ok (.iload_n 2, 1) := by decide +kernel
theorem dX12_writesNumber_27 : decode cX12_writesNumber 27 = .ok (.idiv, 1) := by decide +kernel
theorem dX12_writesNumber_28 : decode cX12_writesNumber 28 = .ok (.bipush 10, 2) := by decide +kernel
theorem dX12_writesNumber_30 : decode cX12_writesNumber 30 = .ok (.irem, 1) := by decide +kernel
theorem dX12_writesNumber_31 : decode cX12_writesNumber 31 = .ok (.iadd, 1) := by decide +kernel
theorem dX12_writesNumber_32 : decode cX12_writesNumber 32 = .ok (.invokevirtual 238, 3) := by decide +kernel
theorem dX12_writesNumber_35 : decode cX12_writesNumber 35 = .ok (.iload_n 2, 1) := by decide +kernel
theorem dX12_writesNumber_36 : decode cX12_writesNumber 36 = .ok (.bipush 10, 2) := by decide +kernel
theorem dX12_writesNumber_38 : decode cX12_writesNumber 38 = .ok (.idiv, 1) := by decide +kernel
theorem dX12_writesNumber_39 : decode cX12_writesNumber 39 = .ok (.istore_n 2, 1) := by decide +kernel
theorem dX12_writesNumber_40 : decode cX12_writesNumber 40 = .ok (.goto (-22), 3) := by decide +kernel
theorem dX12_writesNumber_43 : decode cX12_writesNumber 43 = .ok (.return_, 1) := by decide +kernel
theorem dX12_text_0 : decode cX12_text 0 = .ok (.aload_n 0, 1) := by decide +kernel
theorem dX12_text_1 : decode cX12_text 1 = .ok (.iload_n 1, 1) := by decide +kernel
theorem dX12_text_2 : decode cX12_text 2 = .ok (.invokevirtual 200, 3) := by decide +kernel
theorem dX12_text_5 : decode cX12_text 5 = .ok (.ifCond .eq 8, 3) := by decide +kernel
theorem dX12_text_8 : decode cX12_text 8 = .ok (.iload_n 2, 1) := by decide +kernel
theorem dX12_text_9 : decode cX12_text 9 = .ok (.iconst (-1), 1) := by decide +kernel
theorem dX12_text_10 : decode cX12_text 10 = .ok (.if_icmp .ge 5, 3) := by decide +kernel
theorem dX12_text_13 : decode cX12_text 13 = .ok (.iconst (-1), 1) := by decide +kernel
theorem dX12_text_14 : decode cX12_text 14 = .ok (.ireturn, 1) := by decide +kernel
theorem dX12_text_15 : decode cX12_text 15 = .ok (.aload_n 0, 1) := by decide +kernel
theorem dX12_text_16 : decode cX12_text 16 = .ok (.iconst 0, 1) := by decide +kernel
theorem dX12_text_17 : decode cX12_text 17 = .ok (.putfield 235, 3) := by decide +kernel
theorem dX12_text_20 : decode cX12_text 20 = .ok (.aload_n 0, 1) := by decide +kernel
theorem dX12_text_21 : decode cX12_text 21 = .ok (.iload_n 1, 1) := by decide +kernel
theorem dX12_text_22 : decode cX12_text 22 = .ok (.invokevirtual 242, 3) := by decide +kernel
theorem dX12_text_25 : decode cX12_text 25 = .ok (.aload_n 0, 1) := by decide +kernel
theorem dX12_text_26 : decode cX12_text 26 = .ok (.bipush 58, 2) := by decide +kernel
theorem dX12_text_28 : decode cX12_text 28 = .ok (.invokevirtual 238, 3) := by decide +kernel
theorem dX12_text_31 : decode cX12_text 31 = .ok (.aload_n 0, 1) := by decide +kernel
theorem dX12_text_32 : decode cX12_text 32 = .ok (.bipush 97, 2) := by decide +kernel
theorem dX12_text_34 : decode cX12_text 34 = .ok (.invokevirtual 238, 3) := by decide +kernel
theorem dX12_text_37 : decode cX12_text 37 = .ok (.aload_n 0, 1) := by decide +kernel
theorem dX12_text_38 : decode cX12_text 38 = .ok (.aload_n 0, 1) := by decide +kernel
theorem dX12_text_39 : decode cX12_text 39 = .ok (.iload_n 1, 1) := by decide +kernel
theorem dX12_text_40 : decode cX12_text 40 = .ok (.iconst 0, 1) := by decide +kernel
theorem dX12_text_41 : decode cX12_text 41 = .ok (.invokevirtual 83, 3) := by decide +kernel
theorem dX12_text_44 : decode cX12_text 44 = .ok (.invokevirtual 242, 3) := by decide +kernel
theorem dX12_text_47 : decode cX12_text 47 = .ok (.aload_n 0, 1) := by decide +kernel
theorem dX12_text_48 : decode cX12_text 48 = .ok (.bipush 32, 2) := by decide +kernel
theorem dX12_text_50 : decode cX12_text 50 = .ok (.invokevirtual 238, 3) := by decide +kernel
theorem dX12_text_53 : decode cX12_text 53 = .ok (.aload_n 0, 1) := by decide +kernel
theorem dX12_text_54 : decode cX12_text 54 = .ok (.bipush 114, 2) := by decide +kernel
theorem dX12_text_56 : decode cX12_text 56 = .ok (.invokevirtual 238, 3) := by decide +kernel
theorem dX12_text_59 : decode cX12_text 59 = .ok (.aload_n 0, 1) := by decide +kernel
theorem dX12_text_60 : decode cX12_text 60 = .ok (.aload_n 0, 1) := by decide +kernel
theorem dX12_text_61 : decode cX12_text 61 = .ok (.iload_n 1, 1) := by decide +kernel
theorem dX12_text_62 : decode cX12_text 62 = .ok (.iconst 1, 1) := by decide +kernel
theorem dX12_text_63 : decode cX12_text 63 = .ok (.invokevirtual 83, 3) := by decide +kernel
theorem dX12_text_66 : decode cX12_text 66 = .ok (.invokevirtual 242, 3) := by decide +kernel
theorem dX12_text_69 : decode cX12_text 69 = .ok (.aload_n 0, 1) := by decide +kernel
theorem dX12_text_70 : decode cX12_text 70 = .ok (.bipush 32, 2) := by decide +kernel
theorem dX12_text_72 : decode cX12_text 72 = .ok (.invokevirtual 238, 3) := by decide +kernel
theorem dX12_text_75 : decode cX12_text 75 = .ok (.iconst 0, 1) := by decide +kernel
theorem dX12_text_76 : decode cX12_text 76 = .ok (.istore_n 3, 1) := by decide +kernel
theorem dX12_text_77 : decode cX12_text 77 = .ok (.iload_n 3, 1) := by decide +kernel
theorem dX12_text_78 : decode cX12_text 78 = .ok (.aload_n 0, 1) := by decide +kernel
theorem dX12_text_79 : decode cX12_text 79 = .ok (.iload_n 1, 1) := by decide +kernel
theorem dX12_text_80 : decode cX12_text 80 = .ok (.iconst 4, 1) := by decide +kernel
theorem dX12_text_81 : decode cX12_text 81 = .ok (.invokevirtual 83, 3) := by decide +kernel
theorem dX12_text_84 : decode cX12_text 84 = .ok (.if_icmp .ge 51, 3) := by decide +kernel
theorem dX12_text_87 : decode cX12_text 87 = .ok (.iload_n 3, 1) := by decide +kernel
theorem dX12_text_88 : decode cX12_text 88 = .ok (.ifCond .le 9, 3) := by decide +kernel
theorem dX12_text_91 : decode cX12_text 91 = .ok (.aload_n 0, 1) := by decide +kernel
theorem dX12_text_92 : decode cX12_text 92 = .ok (.bipush 44, 2) := by decide +kernel
theorem dX12_text_94 : decode cX12_text 94 = .ok (.invokevirtual 238, 3) := by decide +kernel
theorem dX12_text_97 : decode cX12_text 97 = .ok (.aload_n 0, 1) := by decide +kernel
theorem dX12_text_98 : decode cX12_text 98 = .ok (.aload_n 0, 1) := by decide +kernel
theorem dX12_text_99 : decode cX12_text 99 = .ok (.iload_n 1, 1) := by decide +kernel
theorem dX12_text_100 : decode cX12_text 100 = .ok (.bipush 12, 2) := by decide +kernel
theorem dX12_text_102 : decode cX12_text 102 = .ok (.iload_n 3, 1) := by decide +kernel
theorem dX12_text_103 : decode cX12_text 103 = .ok (.iadd, 1) := by decide +kernel
theorem dX12_text_104 : decode cX12_text 104 = .ok (.invokevirtual 83, 3) := by decide +kernel
theorem dX12_text_107 : decode cX12_text 107 = .ok (.invokevirtual 242, 3) := by decide +kernel
theorem dX12_text_110 : decode cX12_text 110 = .ok (.aload_n 0, 1) := by decide +kernel
theorem dX12_text_111 : decode cX12_text 111 = .ok (.bipush 120, 2) := by decide +kernel
theorem dX12_text_113 : decode cX12_text 113 = .ok (.invokevirtual 238, 3) := by decide +kernel
theorem dX12_text_116 : decode cX12_text 116 = .ok (.aload_n 0, 1) := by decide +kernel
theorem dX12_text_117 : decode cX12_text 117 = .ok (.aload_n 0, 1) := by decide +kernel
theorem dX12_text_118 : decode cX12_text 118 = .ok (.iload_n 1, 1) := by decide +kernel
theorem dX12_text_119 : decode cX12_text 119 = .ok (.bipush 16, 2) := by decide +kernel
theorem dX12_text_121 : decode cX12_text 121 = .ok (.iload_n 3, 1) := by decide +kernel
theorem dX12_text_122 : decode cX12_text 122 = .ok (.iadd, 1) := by decide +kernel
theorem dX12_text_123 : decode cX12_text 123 = .ok (.invokevirtual 83, 3) := by decide +kernel
theorem dX12_text_126 : decode cX12_text 126 = .ok (.invokevirtual 242, 3) := by decide +kernel
theorem dX12_text_129 : decode cX12_text 129 = .ok (.iinc 3 1, 3) := by decide +kernel
theorem dX12_text_132 : decode cX12_text 132 = .ok (.goto (-55), 3) := by decide +kernel
theorem dX12_text_135 : decode cX12_text 135 = .ok (.aload_n 0, 1) := by decide +kernel
theorem dX12_text_136 : decode cX12_text 136 = .ok (.iload_n 1, 1) := by decide +kernel
theorem dX12_text_137 : decode cX12_text 137 = .ok (.bipush 6, 2) := by decide +kernel
theorem dX12_text_139 : decode cX12_text 139 = .ok (.invokevirtual 83, 3) := by decide +kernel
theorem dX12_text_142 : decode cX12_text 142 = .ok (.ifCond .lt 26, 3) := by decide +kernel
theorem dX12_text_145 : decode cX12_text 145 = .ok (.aload_n 0, 1) := by decide +kernel
theorem dX12_text_146 : decode cX12_text 146 = .ok (.bipush 32, 2) := by decide +kernel
theorem dX12_text_148 : decode cX12_text 148 = .ok (.invokevirtual 238, 3) := by decide +kernel
theorem dX12_text_151 : decode cX12_text 151 = .ok (.aload_n 0, 1) := by decide +kernel
theorem dX12_text_152 : decode cX12_text 152 = .ok (.bipush 64, 2) := by decide +kernel
theorem dX12_text_154 : decode cX12_text 154 = .ok (.invokevirtual 238, 3) := by decide +kernel
theorem dX12_text_157 : decode cX12_text 157 = .ok (.aload_n 0, 1) := by decide +kernel
theorem dX12_text_158 : decode cX12_text 158 = .ok (.aload_n 0, 1) := by decide +kernel
theorem dX12_text_159 : decode cX12_text 159 = .ok (.iload_n 1, 1) := by decide +kernel
theorem dX12_text_160 : decode cX12_text 160 = .ok (.bipush 6, 2) := by decide +kernel
theorem dX12_text_162 : decode cX12_text 162 = .ok (.invokevirtual 83, 3) := by decide +kernel
theorem dX12_text_165 : decode cX12_text 165 = .ok (.invokevirtual 242, 3) := by decide +kernel
theorem dX12_text_168 : decode cX12_text 168 = .ok (.iload_n 2, 1) := by decide +kernel
theorem dX12_text_169 : decode cX12_text 169 = .ok (.ifCond .ge 10, 3) := by decide +kernel
theorem dX12_text_172 : decode cX12_text 172 = .ok (.aload_n 0, 1) := by decide +kernel
theorem dX12_text_173 : decode cX12_text 173 = .ok (.getfield 235, 3) := by decide +kernel
theorem dX12_text_176 : decode cX12_text 176 = .ok (.goto 22, 3) := by decide +kernel
theorem dX12_text_179 : decode cX12_text 179 = .ok (.iload_n 2, 1) := by decide +kernel
theorem dX12_text_180 : decode cX12_text 180 = .ok (.aload_n 0, 1) := by decide +kernel
theorem dX12_text_181 : decode cX12_text 181 = .ok (.getfield 235, 3) := by decide +kernel
theorem dX12_text_184 : decode cX12_text 184 = .ok (.if_icmp .ge 12, 3) := by decide +kernel
theorem dX12_text_187 : decode cX12_text 187 = .ok (.aload_n 0, 1) := by decide +kernel
theorem dX12_text_188 : decode cX12_text 188 = .ok (.getfield 70, 3) := by decide +kernel
theorem dX12_text_191 : decode cX12_text 191 = .ok (.iload_n 2, 1) := by decide +kernel
theorem dX12_text_192 : decode cX12_text 192 = .ok (.iaload, 1) := by decide +kernel
theorem dX12_text_193 : decode cX12_text 193 = .ok (.goto 5, 3) := by decide +kernel
theorem dX12_text_196 : decode cX12_text 196 = .ok (.bipush (-2), 2) := by decide +kernel
theorem dX12_text_198 : decode cX12_text 198 = .ok (.ireturn, 1) := by decide +kernel
theorem dX12_spans_0 : decode cX12_spans 0 = .ok (.iconst 0, 1) := by decide +kernel
theorem dX12_spans_1 : decode cX12_spans 1 = .ok (.istore_n 1, 1) := by decide +kernel
theorem dX12_spans_2 : decode cX12_spans 2 = .ok (.iconst 0, 1) := by decide +kernel
theorem dX12_spans_3 : decode cX12_spans 3 = .ok (.istore_n 2, 1) := by decide +kernel
theorem dX12_spans_4 : decode cX12_spans 4 = .ok (.iload_n 2, 1) := by decide +kernel
theorem dX12_spans_5 : decode cX12_spans 5 = .ok (.bipush 12, 2) := by decide +kernel
theorem dX12_spans_7 : decode cX12_spans 7 = .ok (.if_icmp .ge 25, 3) := by decide +kernel
theorem dX12_spans_10 : decode cX12_spans 10 = .ok (.iload_n 1, 1) := by decide +kernel
theorem dX12_spans_11 : decode cX12_spans 11 = .ok (.aload_n 0, 1) := by decide +kernel
theorem dX12_spans_12 : decode cX12_spans 12 = .ok (.iload_n 2, 1) := by decide +kernel
theorem dX12_spans_13 : decode cX12_spans 13 = .ok (.invokevirtual 111, 3) := by decide +kernel
theorem dX12_spans_16 : decode cX12_spans 16 = .ok (.ifCond .eq 7, 3) := by decide +kernel
theorem dX12_spans_19 : decode cX12_spans 19 = .ok (.iconst 1, 1) := by decide +kernel
theorem dX12_spans_20 : decode cX12_spans 20 = .ok (.goto 4, 3) := by decide +kernel
theorem dX12_spans_23 : decode cX12_spans 23 = .ok (.iconst 0, 1) := by decide +kernel
theorem dX12_spans_24 : decode cX12_spans 24 = .ok (.iadd, 1) := by decide +kernel
theorem dX12_spans_25 : decode cX12_spans 25 = .ok (.istore_n 1, 1) := by decide +kernel
theorem dX12_spans_26 : decode cX12_spans 26 = .ok (.iinc 2 1, 3) := by decide +kernel
theorem dX12_spans_29 : decode cX12_spans 29 = .ok (.goto (-25), 3) := by decide +kernel
theorem dX12_spans_32 : decode cX12_spans 32 = .ok (.iload_n 1, 1) := by decide +kernel
theorem dX12_spans_33 : decode cX12_spans 33 = .ok (.ireturn, 1) := by decide +kernel
theorem dX12_areColumns_0 : decode cX12_areColumns 0 = .ok (.iload_n 1, 1) := by decide +kernel
theorem dX12_areColumns_1 : decode cX12_areColumns 1 = .ok (.ifCond .lt 41, 3) := by decide +kernel
theorem dX12_areColumns_4 : decode cX12_areColumns 4 = .ok (.iload_n 1, 1) := by decide +kernel
theorem dX12_areColumns_5 : decode cX12_areColumns 5 = .ok (.bipush 100, 2) := by decide +kernel
theorem dX12_areColumns_7 : decode cX12_areColumns 7 = .ok (.idiv, 1) := by decide +kernel
theorem dX12_areColumns_8 : decode cX12_areColumns 8 = .ok (.i2l, 1) := by decide +kernel
theorem dX12_areColumns_9 : decode cX12_areColumns 9 = .ok (.lconst 0, 1) := by decide +kernel
theorem dX12_areColumns_10 : decode cX12_areColumns 10 = .ok (.ldc2_w 245, 3) := by decide +kernel
theorem dX12_areColumns_13 : decode cX12_areColumns 13 = .ok (.invokestatic 79, 3) := by decide +kernel
theorem dX12_areColumns_16 : decode cX12_areColumns 16 = .ok (.ifCond .eq 26, 3) := by decide +kernel
theorem dX12_areColumns_19 : decode cX12_areColumns 19 = .ok (.iload_n 1, 1) := by decide +kernel
theorem dX12_areColumns_20 : decode cX12_areColumns 20 = .ok (.bipush 100, 2) := by decide +kernel
theorem dX12_areColumns_22 : decode cX12_areColumns 22 = .ok (.irem, 1) := by decide +kernel
theorem dX12_areColumns_23 : decode cX12_areColumns 23 = .ok (.i2l, 1) := by decide +kernel
theorem dX12_areColumns_24 : decode cX12_areColumns 24 = .ok (.iload_n 1, 1) := by decide +kernel
theorem dX12_areColumns_25 : decode cX12_areColumns 25 = .ok (.bipush 100, 2) := by decide +kernel
theorem dX12_areColumns_27 : decode cX12_areColumns 27 = .ok (.idiv, 1) := by decide +kernel
theorem dX12_areColumns_28 : decode cX12_areColumns 28 = .ok (.i2l, 1) := by decide +kernel
theorem dX12_areColumns_29 : decode cX12_areColumns 29 = .ok (.ldc2_w 245, 3) := by decide +kernel
theorem dX12_areColumns_32 : decode cX12_areColumns 32 = .ok (.invokestatic 79, 3) := by decide +kernel
theorem dX12_areColumns_35 : decode cX12_areColumns 35 = .ok (.ifCond .eq 7, 3) := by decide +kernel
theorem dX12_areColumns_38 : decode cX12_areColumns 38 = .ok (.iconst 1, 1) := by decide +kernel
theorem dX12_areColumns_39 : decode cX12_areColumns 39 = .ok (.goto 4, 3) := by decide +kernel
theorem dX12_areColumns_42 : decode cX12_areColumns 42 = .ok (.iconst 0, 1) := by decide +kernel
theorem dX12_areColumns_43 : decode cX12_areColumns 43 = .ok (.ireturn, 1) := by decide +kernel
theorem dX12_isSpanTold_0 : decode cX12_isSpanTold 0 = .ok (.aload_n 0, 1) := by decide +kernel
theorem dX12_isSpanTold_1 : decode cX12_isSpanTold 1 = .ok (.iload_n 1, 1) := by decide +kernel
theorem dX12_isSpanTold_2 : decode cX12_isSpanTold 2 = .ok (.invokevirtual 247, 3) := by decide +kernel
theorem dX12_isSpanTold_5 : decode cX12_isSpanTold 5 = .ok (.ifCond .eq 58, 3) := by decide +kernel
theorem dX12_isSpanTold_8 : decode cX12_isSpanTold 8 = .ok (.lload_n 2, 1) := by decide +kernel
theorem dX12_isSpanTold_9 : decode cX12_isSpanTold 9 = .ok (.aload_n 0, 1) := by decide +kernel
theorem dX12_isSpanTold_10 : decode cX12_isSpanTold 10 = .ok (.getfield 9, 3) := by decide +kernel
theorem dX12_isSpanTold_13 : decode cX12_isSpanTold 13 = .ok (.iconst 0, 1) := by decide +kernel
theorem dX12_isSpanTold_14 : decode cX12_isSpanTold 14 = .ok (.iaload, 1) := by decide +kernel
theorem dX12_isSpanTold_15 : decode cX12_isSpanTold 15 = .ok (.i2l, 1) := by decide +kernel
theorem dX12_isSpanTold_16 : decode cX12_isSpanTold 16 = .ok (.lcmp, 1) := by decide +kernel
theorem dX12_isSpanTold_17 : decode cX12_isSpanTold 17 = .ok (.ifCond .lt 46, 3) := by decide +kernel
theorem dX12_isSpanTold_20 : decode cX12_isSpanTold 20 = .ok (.lload 4, 2) := by decide +kernel
theorem dX12_isSpanTold_22 : decode cX12_isSpanTold 22 = .ok (.lload_n 2, 1) := by decide +kernel
theorem dX12_isSpanTold_23 : decode cX12_isSpanTold 23 = .ok (.lcmp, 1) := by decide +kernel
theorem dX12_isSpanTold_24 : decode cX12_isSpanTold 24 = .ok (.ifCond .le 39, 3) := by decide +kernel
theorem dX12_isSpanTold_27 : decode cX12_isSpanTold 27 = .ok (.lload 4, 2) := by decide +kernel
theorem dX12_isSpanTold_29 : decode cX12_isSpanTold 29 = .ok (.aload_n 0, 1) := by decide +kernel
theorem dX12_isSpanTold_30 : decode cX12_isSpanTold 30 = .ok (.getfield 9, 3) := by decide +kernel
theorem dX12_isSpanTold_33 : decode cX12_isSpanTold 33 = .ok (.iconst 0, 1) := by decide +kernel
theorem dX12_isSpanTold_34 : decode cX12_isSpanTold 34 = .ok (.iaload, 1) := by decide +kernel
theorem dX12_isSpanTold_35 : decode cX12_isSpanTold 35 = .ok (.sipush 30000, 3) := by decide +kernel
theorem dX12_isSpanTold_38 : decode cX12_isSpanTold 38 = .ok (.iadd, 1) := by decide +kernel
theorem dX12_isSpanTold_39 : decode cX12_isSpanTold 39 = .ok (.i2l, 1) := by decide +kernel
theorem dX12_isSpanTold_40 : decode cX12_isSpanTold 40 = .ok (.lcmp, 1) := by decide +kernel
theorem dX12_isSpanTold_41 : decode cX12_isSpanTold 41 = .ok (.ifCond .gt 22, 3) := by decide +kernel
theorem dX12_isSpanTold_44 : decode cX12_isSpanTold 44 = .ok (.iload 6, 2) := by decide +kernel
theorem dX12_isSpanTold_46 : decode cX12_isSpanTold 46 = .ok (.i2l, 1) := by decide +kernel
theorem dX12_isSpanTold_47 : decode cX12_isSpanTold 47 = .ok (.ldc2_w 162, 3) := by decide +kernel
theorem dX12_isSpanTold_50 : decode cX12_isSpanTold 50 = .ok (.ldc2_w 77, 3) := by decide +kernel
theorem dX12_isSpanTold_53 : decode cX12_isSpanTold 53 = .ok (.invokestatic 79, 3) := by decide +kernel
theorem dX12_isSpanTold_56 : decode cX12_isSpanTold 56 = .ok (.ifCond .eq 7, 3) := by decide +kernel
theorem dX12_isSpanTold_59 : decode cX12_isSpanTold 59 = .ok (.iconst 1, 1) := by decide +kernel
theorem dX12_isSpanTold_60 : decode cX12_isSpanTold 60 = .ok (.goto 4, 3) := by decide +kernel
theorem dX12_isSpanTold_63 : decode cX12_isSpanTold 63 = .ok (.iconst 0, 1) := by decide +kernel
theorem dX12_isSpanTold_64 : decode cX12_isSpanTold 64 = .ok (.ireturn, 1) := by decide +kernel
theorem dX12_overlaps_0 : decode cX12_overlaps 0 = .ok (.iconst 0, 1) := by decide +kernel
theorem dX12_overlaps_1 : decode cX12_overlaps 1 = .ok (.istore 4, 2) := by decide +kernel
theorem dX12_overlaps_3 : decode cX12_overlaps 3 = .ok (.iload 4, 2) := by decide +kernel
theorem dX12_overlaps_5 : decode cX12_overlaps 5 = .ok (.bipush 12, 2) := by decide +kernel
theorem dX12_overlaps_7 : decode cX12_overlaps 7 = .ok (.if_icmp .ge 53, 3) := by decide +kernel
theorem dX12_overlaps_10 : decode cX12_overlaps 10 = .ok (.aload_n 0, 1) := by decide +kernel
theorem dX12_overlaps_11 : decode cX12_overlaps 11 = .ok (.iload 4, 2) := by decide +kernel
theorem dX12_overlaps_13 : decode cX12_overlaps 13 = .ok (.invokevirtual 111, 3) := by decide +kernel
theorem dX12_overlaps_16 : decode cX12_overlaps 16 = .ok (.ifCond .eq 38, 3) := by decide +kernel
theorem dX12_overlaps_19 : decode cX12_overlaps 19 = .ok (.aload_n 0, 1) := by decide +kernel
theorem dX12_overlaps_20 : decode cX12_overlaps 20 = .ok (.iload 4, 2) := by decide +kernel
theorem dX12_overlaps_22 : decode cX12_overlaps 22 = .ok (.invokevirtual 115, 3) := by decide +kernel
theorem dX12_overlaps_25 : decode cX12_overlaps 25 = .ok (.iload_n 1, 1) := by decide +kernel
theorem dX12_overlaps_26 : decode cX12_overlaps 26 = .ok (.iand, 1) := by decide +kernel
theorem dX12_overlaps_27 : decode cX12_overlaps 27 = .ok (.ifCond .eq 27, 3) := by decide +kernel
theorem dX12_overlaps_30 : decode cX12_overlaps 30 = .ok (.iload_n 2, 1) := by decide +kernel
theorem dX12_overlaps_31 : decode cX12_overlaps 31 = .ok (.aload_n 0, 1) := by decide +kernel
theorem dX12_overlaps_32 : decode cX12_overlaps 32 = .ok (.iload 4, 2) := by decide +kernel
theorem dX12_overlaps_34 : decode cX12_overlaps 34 = .ok (.iconst 4, 1) := by decide +kernel
theorem dX12_overlaps_35 : decode cX12_overlaps 35 = .ok (.invokevirtual 95, 3) := by decide +kernel
theorem dX12_overlaps_38 : decode cX12_overlaps 38 = .ok (.if_icmp .ge 16, 3) := by decide +kernel
theorem dX12_overlaps_41 : decode cX12_overlaps 41 = .ok (.iload_n 3, 1) := by decide +kernel
theorem dX12_overlaps_42 : decode cX12_overlaps 42 = .ok (.aload_n 0, 1) := by decide +kernel
theorem dX12_overlaps_43 : decode cX12_overlaps 43 = .ok (.iload 4, 2) := by decide +kernel
theorem dX12_overlaps_45 : decode cX12_overlaps 45 = .ok (.iconst 3, 1) := by decide +kernel
theorem dX12_overlaps_46 : decode cX12_overlaps 46 = .ok (.invokevirtual 95, 3) := by decide +kernel
theorem dX12_overlaps_49 : decode cX12_overlaps 49 = .ok (.if_icmp .le 5, 3) := by decide +kernel
theorem dX12_overlaps_52 : decode cX12_overlaps 52 = .ok (.iconst 1, 1) := by decide +kernel
theorem dX12_overlaps_53 : decode cX12_overlaps 53 = .ok (.ireturn, 1) := by decide +kernel
theorem dX12_overlaps_54 : decode cX12_overlaps 54 = .ok (.iinc 4 1, 3) := by decide +kernel
theorem dX12_overlaps_57 : decode cX12_overlaps 57 = .ok (.goto (-54), 3) := by decide +kernel
theorem dX12_overlaps_60 : decode cX12_overlaps 60 = .ok (.iconst 0, 1) := by decide +kernel
theorem dX12_overlaps_61 : decode cX12_overlaps 61 = .ok (.istore 4, 2) := by decide +kernel
theorem dX12_overlaps_63 : decode cX12_overlaps 63 = .ok (.iload 4, 2) := by decide +kernel
theorem dX12_overlaps_65 : decode cX12_overlaps 65 = .ok (.aload_n 0, 1) := by decide +kernel
theorem dX12_overlaps_66 : decode cX12_overlaps 66 = .ok (.getfield 9, 3) := by decide +kernel
theorem dX12_overlaps_69 : decode cX12_overlaps 69 = .ok (.iconst 1, 1) := by decide +kernel
theorem dX12_overlaps_70 : decode cX12_overlaps 70 = .ok (.iaload, 1) := by decide +kernel
theorem dX12_overlaps_71 : decode cX12_overlaps 71 = .ok (.if_icmp .ge 68, 3) := by decide +kernel
theorem dX12_overlaps_74 : decode cX12_overlaps 74 = .ok (.iconst 0, 1) := by decide +kernel
theorem dX12_overlaps_75 : decode cX12_overlaps 75 = .ok (.istore 5, 2) := by decide +kernel
theorem dX12_overlaps_77 : decode cX12_overlaps 77 = .ok (.iload 5, 2) := by decide +kernel
theorem dX12_overlaps_79 : decode cX12_overlaps 79 = .ok (.aload_n 0, 1) := by decide +kernel
theorem dX12_overlaps_80 : decode cX12_overlaps 80 = .ok (.iload 4, 2) := by decide +kernel
theorem dX12_overlaps_82 : decode cX12_overlaps 82 = .ok (.iconst 4, 1) := by decide +kernel
theorem dX12_overlaps_83 : decode cX12_overlaps 83 = .ok (.invokevirtual 83, 3) := by decide +kernel
theorem dX12_overlaps_86 : decode cX12_overlaps 86 = .ok (.if_icmp .ge 47, 3) := by decide +kernel
theorem dX12_overlaps_89 : decode cX12_overlaps 89 = .ok (.aload_n 0, 1) := by decide +kernel
theorem dX12_overlaps_90 : decode cX12_overlaps 90 = .ok (.iload 4, 2) := by decide +kernel
theorem dX12_overlaps_92 : decode cX12_overlaps 92 = .ok (.iload 5, 2) := by decide +kernel
theorem dX12_overlaps_94 : decode cX12_overlaps 94 = .ok (.invokevirtual 98, 3) := by decide +kernel
theorem dX12_overlaps_97 : decode cX12_overlaps 97 = .ok (.ifCond .eq 30, 3) := by decide +kernel
theorem dX12_overlaps_100 : decode cX12_overlaps 100 = .ok (.aload_n 0, 1) := by decide +kernel
theorem dX12_overlaps_101 : decode cX12_overlaps 101 = .ok (.iload 4, 2) := by decide +kernel
theorem dX12_overlaps_103 : decode cX12_overlaps 103 = .ok (.iload 5, 2) := by decide +kernel
theorem dX12_overlaps_105 : decode cX12_overlaps 105 = .ok (.invokevirtual 105, 3) := by decide +kernel
theorem dX12_overlaps_108 : decode cX12_overlaps 108 = .ok (.iload_n 1, 1) := by decide +kernel
theorem dX12_overlaps_109 : decode cX12_overlaps 109 = .ok (.iand, 1) := by decide +kernel
theorem dX12_overlaps_110 : decode cX12_overlaps 110 = .ok (.ifCond .eq 17, 3) := by decide +kernel
theorem dX12_overlaps_113 : decode cX12_overlaps 113 = .ok (.iload_n 2, 1) := by decide +kernel
theorem dX12_overlaps_114 : decode cX12_overlaps 114 = .ok (.aload_n 0, 1) := by decide +kernel
theorem dX12_overlaps_115 : decode cX12_overlaps 115 = .ok (.iload 4, 2) := by decide +kernel
theorem dX12_overlaps_117 : decode cX12_overlaps 117 = .ok (.iload 5, 2) := by decide +kernel
theorem dX12_overlaps_119 : decode cX12_overlaps 119 = .ok (.invokevirtual 102, 3) := by decide +kernel
theorem dX12_overlaps_122 : decode cX12_overlaps 122 = .ok (.if_icmp .ge 5, 3) := by decide +kernel
theorem dX12_overlaps_125 : decode cX12_overlaps 125 = .ok (.iconst 1, 1) := by decide +kernel
theorem dX12_overlaps_126 : decode cX12_overlaps 126 = .ok (.ireturn, 1) := by decide +kernel
theorem dX12_overlaps_127 : decode cX12_overlaps 127 = .ok (.iinc 5 1, 3) := by decide +kernel
theorem dX12_overlaps_130 : decode cX12_overlaps 130 = .ok (.goto (-53), 3) := by decide +kernel
theorem dX12_overlaps_133 : decode cX12_overlaps 133 = .ok (.iinc 4 1, 3) := by decide +kernel
theorem dX12_overlaps_136 : decode cX12_overlaps 136 = .ok (.goto (-73), 3) := by decide +kernel
theorem dX12_overlaps_139 : decode cX12_overlaps 139 = .ok (.iconst 0, 1) := by decide +kernel
theorem dX12_overlaps_140 : decode cX12_overlaps 140 = .ok (.ireturn, 1) := by decide +kernel
theorem dX12_keeps_0 : decode cX12_keeps 0 = .ok (.iconst 0, 1) := by decide +kernel
theorem dX12_keeps_1 : decode cX12_keeps 1 = .ok (.istore 5, 2) := by decide +kernel
theorem dX12_keeps_3 : decode cX12_keeps 3 = .ok (.aload_n 0, 1) := by decide +kernel
theorem dX12_keeps_4 : decode cX12_keeps 4 = .ok (.iload 5, 2) := by decide +kernel
theorem dX12_keeps_6 : decode cX12_keeps 6 = .ok (.invokevirtual 111, 3) := by decide +kernel
theorem dX12_keeps_9 : decode cX12_keeps 9 = .ok (.ifCond .eq 9, 3) := by decide +kernel
theorem dX12_keeps_12 : decode cX12_keeps 12 = .ok (.iinc 5 1, 3) := by decide +kernel
theorem dX12_keeps_15 : decode cX12_keeps 15 = .ok (.goto (-12), 3) := by decide +kernel
theorem dX12_keeps_18 : decode cX12_keeps 18 = .ok (.bipush 24, 2) := by decide +kernel
theorem dX12_keeps_20 : decode cX12_keeps 20 = .ok (.iload 5, 2) := by decide +kernel
theorem dX12_keeps_22 : decode cX12_keeps 22 = .ok (.bipush 6, 2) := by decide +kernel
theorem dX12_keeps_24 : decode cX12_keeps 24 = .ok (.imul, 1) := by decide +kernel
theorem dX12_keeps_25 : decode cX12_keeps 25 = .ok (.iadd, 1) := by decide +kernel
theorem dX12_keeps_26 : decode cX12_keeps 26 = .ok (.istore 6, 2) := by decide +kernel
theorem dX12_keeps_28 : decode cX12_keeps 28 = .ok (.aload_n 0, 1) := by decide +kernel
theorem dX12_keeps_29 : decode cX12_keeps 29 = .ok (.getfield 9, 3) := by decide +kernel
theorem dX12_keeps_32 : decode cX12_keeps 32 = .ok (.iload 6, 2) := by decide +kernel
theorem dX12_keeps_34 : decode cX12_keeps 34 = .ok (.aload_n 0, 1) := by decide +kernel
theorem dX12_keeps_35 : decode cX12_keeps 35 = .ok (.getfield 9, 3) := by decide +kernel
theorem dX12_keeps_38 : decode cX12_keeps 38 = .ok (.iconst 5, 1) := by decide +kernel
theorem dX12_keeps_39 : decode cX12_keeps 39 = .ok (.iaload, 1) := by decide +kernel
theorem dX12_keeps_40 : decode cX12_keeps 40 = .ok (.iastore, 1) := by decide +kernel
theorem dX12_keeps_41 : decode cX12_keeps 41 = .ok (.aload_n 0, 1) := by decide +kernel
theorem dX12_keeps_42 : decode cX12_keeps 42 = .ok (.getfield 9, 3) := by decide +kernel
theorem dX12_keeps_45 : decode cX12_keeps 45 = .ok (.iload 6, 2) := by decide +kernel
theorem dX12_keeps_47 : decode cX12_keeps 47 = .ok (.iconst 1, 1) := by decide +kernel
theorem dX12_keeps_48 : decode cX12_keeps 48 = .ok (.iadd, 1) := by decide +kernel
theorem dX12_keeps_49 : decode cX12_keeps 49 = .ok (.iload_n 1, 1) := by decide +kernel
theorem dX12_keeps_50 : decode cX12_keeps 50 = .ok (.bipush 100, 2) := by decide +kernel
theorem dX12_keeps_52 : decode cX12_keeps 52 = .ok (.idiv, 1) := by decide +kernel
theorem dX12_keeps_53 : decode cX12_keeps 53 = .ok (.iastore, 1) := by decide +kernel
theorem dX12_keeps_54 : decode cX12_keeps 54 = .ok (.aload_n 0, 1) := by decide +kernel
theorem dX12_keeps_55 : decode cX12_keeps 55 = .ok (.getfield 9, 3) := by decide +kernel
theorem dX12_keeps_58 : decode cX12_keeps 58 = .ok (.iload 6, 2) := by decide +kernel
theorem dX12_keeps_60 : decode cX12_keeps 60 = .ok (.iconst 2, 1) := by decide +kernel
theorem dX12_keeps_61 : decode cX12_keeps 61 = .ok (.iadd, 1) := by decide +kernel
theorem dX12_keeps_62 : decode cX12_keeps 62 = .ok (.iload_n 1, 1) := by decide +kernel
theorem dX12_keeps_63 : decode cX12_keeps 63 = .ok (.bipush 100, 2) := by decide +kernel
theorem dX12_keeps_65 : decode cX12_keeps 65 = .ok (.irem, 1) := by decide +kernel
theorem dX12_keeps_66 : decode cX12_keeps 66 = .ok (.iastore, 1) := by decide +kernel
theorem dX12_keeps_67 : decode cX12_keeps 67 = .ok (.aload_n 0, 1) := by decide +kernel
theorem dX12_keeps_68 : decode cX12_keeps 68 = .ok (.getfield 9, 3) := by decide +kernel
theorem dX12_keeps_71 : decode cX12_keeps 71 = .ok (.iload 6, 2) := by decide +kernel
theorem dX12_keeps_73 : decode cX12_keeps 73 = .ok (.iconst 3, 1) := by decide +kernel
theorem dX12_keeps_74 : decode cX12_keeps 74 = .ok (.iadd, 1) := by decide +kernel
theorem dX12_keeps_75 : decode cX12_keeps 75 = .ok (.iload_n 2, 1) := by decide +kernel
theorem dX12_keeps_76 : decode cX12_keeps 76 = .ok (.iastore, 1) := by decide +kernel
theorem dX12_keeps_77 : decode cX12_keeps 77 = .ok (.aload_n 0, 1) := by decide +kernel
theorem dX12_keeps_78 : decode cX12_keeps 78 = .ok (.getfield 9, 3) := by decide +kernel
theorem dX12_keeps_81 : decode cX12_keeps 81 = .ok (.iload 6, 2) := by decide +kernel
theorem dX12_keeps_83 : decode cX12_keeps 83 = .ok (.iconst 4, 1) := by decide +kernel
theorem dX12_keeps_84 : decode cX12_keeps 84 = .ok (.iadd, 1) := by decide +kernel
theorem dX12_keeps_85 : decode cX12_keeps 85 = .ok (.iload_n 3, 1) := by decide +kernel
theorem dX12_keeps_86 : decode cX12_keeps 86 = .ok (.iastore, 1) := by decide +kernel
theorem dX12_keeps_87 : decode cX12_keeps 87 = .ok (.aload_n 0, 1) := by decide +kernel
theorem dX12_keeps_88 : decode cX12_keeps 88 = .ok (.getfield 9, 3) := by decide +kernel
theorem dX12_keeps_91 : decode cX12_keeps 91 = .ok (.iload 6, 2) := by decide +kernel
theorem dX12_keeps_93 : decode cX12_keeps 93 = .ok (.iconst 5, 1) := by decide +kernel
theorem dX12_keeps_94 : decode cX12_keeps 94 = .ok (.iadd, 1) := by decide +kernel
theorem dX12_keeps_95 : decode cX12_keeps 95 = .ok (.iload 4, 2) := by decide +kernel
theorem dX12_keeps_97 : decode cX12_keeps 97 = .ok (.iastore, 1) := by decide +kernel
theorem dX12_keeps_98 : decode cX12_keeps 98 = .ok (.aload_n 0, 1) := by decide +kernel
theorem dX12_keeps_99 : decode cX12_keeps 99 = .ok (.getfield 9, 3) := by decide +kernel
theorem dX12_keeps_102 : decode cX12_keeps 102 = .ok (.iconst 5, 1) := by decide +kernel
theorem dX12_keeps_103 : decode cX12_keeps 103 = .ok (.dup2, 1) := by decide +kernel
theorem dX12_keeps_104 : decode cX12_keeps 104 = .ok (.iaload, 1) := by decide +kernel
theorem dX12_keeps_105 : decode cX12_keeps 105 = .ok (.iconst 1, 1) := by decide +kernel
theorem dX12_keeps_106 : decode cX12_keeps 106 = .ok (.iadd, 1) := by decide +kernel
theorem dX12_keeps_107 : decode cX12_keeps 107 = .ok (.iastore, 1) := by decide +kernel
theorem dX12_keeps_108 : decode cX12_keeps 108 = .ok (.aload_n 0, 1) := by decide +kernel
theorem dX12_keeps_109 : decode cX12_keeps 109 = .ok (.getfield 9, 3) := by decide +kernel
theorem dX12_keeps_112 : decode cX12_keeps 112 = .ok (.iload 6, 2) := by decide +kernel
theorem dX12_keeps_114 : decode cX12_keeps 114 = .ok (.iaload, 1) := by decide +kernel
theorem dX12_keeps_115 : decode cX12_keeps 115 = .ok (.ireturn, 1) := by decide +kernel
theorem dX12_keep_0 : decode cX12_keep 0 = .ok (.aload_n 0, 1) := by decide +kernel
theorem dX12_keep_1 : decode cX12_keep 1 = .ok (.iload_n 1, 1) := by decide +kernel
theorem dX12_keep_2 : decode cX12_keep 2 = .ok (.iload_n 2, 1) := by decide +kernel
theorem dX12_keep_3 : decode cX12_keep 3 = .ok (.i2l, 1) := by decide +kernel
theorem dX12_keep_4 : decode cX12_keep 4 = .ok (.iload_n 3, 1) := by decide +kernel
theorem dX12_keep_5 : decode cX12_keep 5 = .ok (.i2l, 1) := by decide +kernel
theorem dX12_keep_6 : decode cX12_keep 6 = .ok (.iload 4, 2) := by decide +kernel
theorem dX12_keep_8 : decode cX12_keep 8 = .ok (.invokevirtual 250, 3) := by decide +kernel
theorem dX12_keep_11 : decode cX12_keep 11 = .ok (.ifCond .ne 5, 3) := by decide +kernel
theorem dX12_keep_14 : decode cX12_keep 14 = .ok (.iconst (-1), 1) := by decide +kernel
theorem dX12_keep_15 : decode cX12_keep 15 = .ok (.ireturn, 1) := by decide +kernel
theorem dX12_keep_16 : decode cX12_keep 16 = .ok (.aload_n 0, 1) := by decide +kernel
theorem dX12_keep_17 : decode cX12_keep 17 = .ok (.invokevirtual 254, 3) := by decide +kernel
theorem dX12_keep_20 : decode cX12_keep 20 = .ok (.bipush 12, 2) := by decide +kernel
theorem dX12_keep_22 : decode cX12_keep 22 = .ok (.if_icmp .ne 6, 3) := by decide +kernel
theorem dX12_keep_25 : decode cX12_keep 25 = .ok (.bipush (-3), 2) := by decide +kernel
theorem dX12_keep_27 : decode cX12_keep 27 = .ok (.ireturn, 1) := by decide +kernel
theorem dX12_keep_28 : decode cX12_keep 28 = .ok (.aload_n 0, 1) := by decide +kernel
theorem dX12_keep_29 : decode cX12_keep 29 = .ok (.iload_n 1, 1) := by decide +kernel
theorem dX12_keep_30 : decode cX12_keep 30 = .ok (.bipush 100, 2) := by decide +kernel
theorem dX12_keep_32 : decode cX12_keep 32 = .ok (.idiv, 1) := by decide +kernel
theorem dX12_keep_33 : decode cX12_keep 33 = .ok (.iload_n 1, 1) := by decide +kernel
theorem dX12_keep_34 : decode cX12_keep 34 = .ok (.bipush 100, 2) := by decide +kernel
theorem dX12_keep_36 : decode cX12_keep 36 = .ok (.irem, 1) := by decide +kernel
theorem dX12_keep_37 : decode cX12_keep 37 = .ok (.iload_n 1, 1) := by decide +kernel
theorem dX12_keep_38 : decode cX12_keep 38 = .ok (.bipush 100, 2) := by decide +kernel
theorem dX12_keep_40 : decode cX12_keep 40 = .ok (.idiv, 1) := by decide +kernel
theorem dX12_keep_41 : decode cX12_keep 41 = .ok (.isub, 1) := by decide +kernel
theorem dX12_keep_42 : decode cX12_keep 42 = .ok (.iconst 1, 1) := by decide +kernel
theorem dX12_keep_43 : decode cX12_keep 43 = .ok (.iadd, 1) := by decide +kernel
theorem dX12_keep_44 : decode cX12_keep 44 = .ok (.invokestatic 92, 3) := by decide +kernel
theorem dX12_keep_47 : decode cX12_keep 47 = .ok (.iload_n 2, 1) := by decide +kernel
theorem dX12_keep_48 : decode cX12_keep 48 = .ok (.iload_n 3, 1) := by decide +kernel
theorem dX12_keep_49 : decode cX12_keep 49 = .ok (.invokevirtual 257, 3) := by decide +kernel
theorem dX12_keep_52 : decode cX12_keep 52 = .ok (.ifCond .eq 8, 3) := by decide +kernel
theorem dX12_keep_55 : decode cX12_keep 55 = .ok (.bipush (-5), 2) := by decide +kernel
theorem dX12_keep_57 : decode cX12_keep 57 = .ok (.goto 12, 3) := by decide +kernel
theorem dX12_keep_60 : decode cX12_keep 60 = .ok (.aload_n 0, 1) := by decide +kernel
theorem dX12_keep_61 : decode cX12_keep 61 = .ok (.iload_n 1, 1) := by decide +kernel
theorem dX12_keep_62 : decode cX12_keep 62 = .ok (.iload_n 2, 1) := by decide +kernel
theorem dX12_keep_63 : decode cX12_keep 63 = .ok (.iload_n 3, 1) := by decide +kernel
theorem dX12_keep_64 : decode cX12_keep 64 = .ok (.iload 4, 2) := by decide +kernel
theorem dX12_keep_66 : decode cX12_keep 66 = .ok (.invokevirtual 261, 3) := by decide +kernel
theorem dX12_keep_69 : decode cX12_keep 69 = .ok (.ireturn, 1) := by decide +kernel
